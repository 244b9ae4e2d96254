def wp_X2_isFull (u : St) (x1 : Int32) (post : Int32 → St → Prop) : Prop :=
  (vp_in x1 12 ∧ br ((gA u 16 (ix x1)) < 60) ((bz 0 ∧ post 0 u)) ((bz 1 ∧ post 1 u)))
set_option maxHeartbeats 4000000 in
set_option maxRecDepth 20000 in
theorem z_X2_isFull {X : XX} {ad : Nat → Nat} {cs : Nat → ClassId} {post : Int32 → St → Prop} (C : CxC X ad cs cX2_isFull RX2 0 0) (hn : xnL X = 2) (hR : rtZ X cX2_isFull (wC ad cs) post) (u : St) (x1 : Int32) (hw : wp_X2_isFull u x1 post) : Z X (wC ad cs u) 0 [(0, .ref (ad 3)), (1, .int x1)] [] := by
  unfold wp_X2_isFull at hw
  refine z_aload_n C.1 dX2_isFull_0 rfl 0 rfl ?_
  refine gC_3_parts C mF_X2_13 dX2_isFull_1 ?_
  refine z_iload_n C.1 dX2_isFull_4 rfl 1 rfl ?_
  refine lC_16 C hw.1 dX2_isFull_5 ?_
  replace hw := hw.2
  refine z_bipush (v := 60) C.1 dX2_isFull_6 (by decide) ?_
  refine z_icmp_lt (tgt := 15) C.1 dX2_isFull_8 (by decide) (fun c1 => ?_) (fun c1 => ?_)
  · replace hw := hw.1 c1
    refine z_iconst (v := 0) C.1 dX2_isFull_15 (by decide) ?_
    exact hR _ _ _ _ dX2_isFull_16 hw
  · replace hw := hw.2 c1
    refine z_iconst (v := 1) C.1 dX2_isFull_11 (by decide) ?_
    refine z_goto (tgt := 16) C.1 dX2_isFull_12 (by decide) ?_
    exact hR _ _ _ _ dX2_isFull_16 hw
theorem c_X2_isFull {l : Launch} {D : va_G} {A : Nat → Prop} {ad : Nat → Nat} {cs : Nat → ClassId} (hD : ∀ u : St, va_D A (wC ad cs u)) (u : St) (x1 : Int32) (post : Int32 → St → Prop) (hw : wp_X2_isFull u x1 post) : MI (ad 90, ad 91) l yX2_isFull cX2_isFull 2 (some .boolean) (rmm 0 0) D (tysC cs) A (wC ad cs) u [.ref (ad 3), .int x1] post :=
  met_z (by decide) (Nat.le_of_ble_eq_true rfl) (fun X C _ _ ht hA hn hsg hR => z_X2_isFull ⟨C, ht, fun u => by rw [hA]; exact hD u, hsg⟩ hn hR u x1 hw)
theorem k_X2_isFull {X : XX} {ad : Nat → Nat} {cs : Nat → ClassId} {cc : ByteArray} {own : String} {fr lo pc : Nat} {lv : List (Nat × Value)} {st : List Value} {u : St} (C : CxC X ad cs cc own fr lo) {idx : Nat} {x1 : Int32} {P : Int32 → St → Prop} (hlink : Cond.methodLink own idx yX2_isFull ∈ W0) (hw : wp_X2_isFull u x1 P) (hr : 0 + 1 ≤ fr ∧ 8 + (2 + 11) + 0 ≤ lo) (hst : (st.map fun v => v.category).sum ≤ 8) (hdg : decode cc pc = .ok (.invokevirtual idx, 3)) (k : ∀ (r : Int32) (u2 : St), P r u2 → Z X (wC ad cs u2) (pc + 3) lv (.int r :: st)) : Z X (wC ad cs u) pc lv (.int x1 :: .ref (ad 3) :: st) :=
  z_callVi (wf := wC ad cs) (As := [.int x1]) (rest := st) C.1 1 (q0 := 3) mI_X2_isFull mS_X2_isFull rfl rfl (by rw [C.2.1, C.2.2.2]; exact c_X2_isFull C.2.2.1 u x1 P hw) mC_X2_isFull mZ_X2 (by decide +kernel) rfl hlink hr hst hdg k

def wp_X2_addPart (u : St) (x1 : Int32) (x2 : Int32) (x3 : Int32) (post : Int32 → St → Prop) : Prop :=
  (vp_in x1 12 ∧ nm ((x1 * 60) + (gA u 16 (ix x1))) (fun v1 : Int32 => (vp_in x1 12 ∧ (vp_in x1 12 ∧ nm (sA u 16 (ix x1) ((gA u 16 (ix x1)) + 1)) (fun u2 : St => (vp_in v1 720 ∧ nm (sA u2 18 (ix v1) x2) (fun u3 : St => (vp_in v1 720 ∧ nm (sA u3 19 (ix v1) x3) (fun u4 : St => (vp_in v1 720 ∧ nm (sA u4 20 (ix v1) 0) (fun u5 : St => post v1 u5)))))))))))
set_option maxHeartbeats 4000000 in
set_option maxRecDepth 20000 in
theorem z_X2_addPart {X : XX} {ad : Nat → Nat} {cs : Nat → ClassId} {post : Int32 → St → Prop} (C : CxC X ad cs cX2_addPart RX2 0 0) (hn : xnL X = 5) (hR : rtI X cX2_addPart (wC ad cs) post) (u : St) (x1 : Int32) (x2 : Int32) (x3 : Int32) (hw : wp_X2_addPart u x1 x2 x3 post) : Z X (wC ad cs u) 0 [(0, .ref (ad 3)), (1, .int x1), (2, .int x2), (3, .int x3)] [] := by
  unfold wp_X2_addPart at hw
  refine z_iload_n C.1 dX2_addPart_0 rfl 1 rfl ?_
  refine z_bipush (v := 60) C.1 dX2_addPart_1 (by decide) ?_
  refine z_imul C.1 dX2_addPart_3 ?_
  refine z_aload_n C.1 dX2_addPart_4 rfl 0 rfl ?_
  refine gC_3_parts C mF_X2_13 dX2_addPart_5 ?_
  refine z_iload_n C.1 dX2_addPart_8 rfl 1 rfl ?_
  refine lC_16 C hw.1 dX2_addPart_9 ?_
  replace hw := hw.2
  refine z_iadd C.1 dX2_addPart_10 ?_
  refine z_topi (fun v1 ev1 => ?_)
  replace hw := hw v1 ev1
  refine z_istore (lv' := [(4, .int v1), (0, .ref (ad 3)), (1, .int x1), (2, .int x2), (3, .int x3)]) C.1 dX2_addPart_11 (by rw [hn]; decide) rfl ?_
  refine z_aload_n C.1 dX2_addPart_13 rfl 1 rfl ?_
  refine gC_3_parts C mF_X2_13 dX2_addPart_14 ?_
  refine z_iload_n C.1 dX2_addPart_17 rfl 2 rfl ?_
  refine z_dup2 C.1 dX2_addPart_18 rfl rfl ?_
  refine lC_16 C hw.1 dX2_addPart_19 ?_
  replace hw := hw.2
  refine z_iconst (v := 1) C.1 dX2_addPart_20 (by decide) ?_
  refine z_iadd C.1 dX2_addPart_21 ?_
  refine sC_16 C hw.1 dX2_addPart_22 (fun u2 eu2 => ?_)
  replace hw := hw.2 u2 eu2
  refine z_aload_n C.1 dX2_addPart_23 rfl 1 rfl ?_
  refine gC_3_kind C mF_X2_19 dX2_addPart_24 ?_
  refine z_iload C.1 dX2_addPart_27 0 rfl ?_
  refine z_iload_n C.1 dX2_addPart_29 rfl 3 rfl ?_
  refine sC_18 C hw.1 dX2_addPart_30 (fun u3 eu3 => ?_)
  replace hw := hw.2 u3 eu3
  refine z_aload_n C.1 dX2_addPart_31 rfl 1 rfl ?_
  refine gC_3_number C mF_X2_22 dX2_addPart_32 ?_
  refine z_iload C.1 dX2_addPart_35 0 rfl ?_
  refine z_iload_n C.1 dX2_addPart_37 rfl 4 rfl ?_
  refine sC_19 C hw.1 dX2_addPart_38 (fun u4 eu4 => ?_)
  replace hw := hw.2 u4 eu4
  refine z_aload_n C.1 dX2_addPart_39 rfl 1 rfl ?_
  refine gC_3_children C mF_X2_25 dX2_addPart_40 ?_
  refine z_iload C.1 dX2_addPart_43 0 rfl ?_
  refine z_iconst (v := 0) C.1 dX2_addPart_45 (by decide) ?_
  refine sC_20 C hw.1 dX2_addPart_46 (fun u5 eu5 => ?_)
  replace hw := hw.2 u5 eu5
  refine z_iload C.1 dX2_addPart_47 0 rfl ?_
  exact hR _ _ _ _ dX2_addPart_49 hw
theorem c_X2_addPart {l : Launch} {D : va_G} {A : Nat → Prop} {ad : Nat → Nat} {cs : Nat → ClassId} (hD : ∀ u : St, va_D A (wC ad cs u)) (u : St) (x1 : Int32) (x2 : Int32) (x3 : Int32) (post : Int32 → St → Prop) (hw : wp_X2_addPart u x1 x2 x3 post) : MI (ad 90, ad 91) l yX2_addPart cX2_addPart 5 (some .int) (rmm 0 0) D (tysC cs) A (wC ad cs) u [.ref (ad 3), .int x1, .int x2, .int x3] post :=
  met_i (by decide) (Nat.le_of_ble_eq_true rfl) (fun X C _ _ ht hA hn hsg hR => z_X2_addPart ⟨C, ht, fun u => by rw [hA]; exact hD u, hsg⟩ hn hR u x1 x2 x3 hw)
theorem k_X2_addPart {X : XX} {ad : Nat → Nat} {cs : Nat → ClassId} {cc : ByteArray} {own : String} {fr lo pc : Nat} {lv : List (Nat × Value)} {st : List Value} {u : St} (C : CxC X ad cs cc own fr lo) {idx : Nat} {x1 : Int32} {x2 : Int32} {x3 : Int32} {P : Int32 → St → Prop} (hlink : Cond.methodLink own idx yX2_addPart ∈ W0) (hw : wp_X2_addPart u x1 x2 x3 P) (hr : 0 + 1 ≤ fr ∧ 8 + (5 + 11) + 0 ≤ lo) (hst : (st.map fun v => v.category).sum ≤ 8) (hdg : decode cc pc = .ok (.invokevirtual idx, 3)) (k : ∀ (r : Int32) (u2 : St), P r u2 → Z X (wC ad cs u2) (pc + 3) lv (.int r :: st)) : Z X (wC ad cs u) pc lv (.int x3 :: .int x2 :: .int x1 :: .ref (ad 3) :: st) :=
  z_callVi (wf := wC ad cs) (As := [.int x1, .int x2, .int x3]) (rest := st) C.1 3 (q0 := 3) mI_X2_addPart mS_X2_addPart rfl rfl (by rw [C.2.1, C.2.2.2]; exact c_X2_addPart C.2.2.1 u x1 x2 x3 P hw) mC_X2_addPart mZ_X2 (by decide +kernel) rfl hlink hr hst hdg k

def wp_X2_attach_28 (u : St) (x1 : Int32) (post : St → Prop) : Prop :=
  (vp_in x1 720 ∧ (vp_in x1 720 ∧ nm (sA u 20 (ix x1) ((gA u 20 (ix x1)) + 1)) (fun u3 : St => post u3)))
set_option maxHeartbeats 4000000 in
set_option maxRecDepth 20000 in
theorem z_X2_attach_28 {X : XX} {ad : Nat → Nat} {cs : Nat → ClassId} {post : St → Prop} (C : CxC X ad cs cX2_attach RX2 0 0) (hn : xnL X = 3) (hR : rtV X cX2_attach (wC ad cs) post) (u : St) (x1 : Int32) (hw : wp_X2_attach_28 u x1 post) : Z X (wC ad cs u) 28 [(0, .ref (ad 3)), (1, .int x1)] [] := by
  unfold wp_X2_attach_28 at hw
  refine z_aload_n C.1 dX2_attach_28 rfl 0 rfl ?_
  refine gC_3_children C mF_X2_25 dX2_attach_29 ?_
  refine z_iload_n C.1 dX2_attach_32 rfl 1 rfl ?_
  refine z_dup2 C.1 dX2_attach_33 rfl rfl ?_
  refine lC_20 C hw.1 dX2_attach_34 ?_
  replace hw := hw.2
  refine z_iconst (v := 1) C.1 dX2_attach_35 (by decide) ?_
  refine z_iadd C.1 dX2_attach_36 ?_
  refine sC_20 C hw.1 dX2_attach_37 (fun u3 eu3 => ?_)
  replace hw := hw.2 u3 eu3
  exact hR _ _ _ dX2_attach_38 hw
def wp_X2_attach (u : St) (x1 : Int32) (x2 : Int32) (post : St → Prop) : Prop :=
  (vp_in x1 720 ∧ br (6 ≤ (gA u 20 (ix x1))) (wp_X2_attach_28 u x1 post) ((vp_in x1 720 ∧ (vp_in ((x1 * 6) + (gA u 20 (ix x1))) 4320 ∧ nm (sA u 21 (ix ((x1 * 6) + (gA u 20 (ix x1)))) x2) (fun u2 : St => wp_X2_attach_28 u2 x1 post)))))
set_option maxHeartbeats 4000000 in
set_option maxRecDepth 20000 in
theorem z_X2_attach {X : XX} {ad : Nat → Nat} {cs : Nat → ClassId} {post : St → Prop} (C : CxC X ad cs cX2_attach RX2 0 0) (hn : xnL X = 3) (hR : rtV X cX2_attach (wC ad cs) post) (u : St) (x1 : Int32) (x2 : Int32) (hw : wp_X2_attach u x1 x2 post) : Z X (wC ad cs u) 0 [(0, .ref (ad 3)), (1, .int x1), (2, .int x2)] [] := by
  unfold wp_X2_attach at hw
  refine z_aload_n C.1 dX2_attach_0 rfl 0 rfl ?_
  refine gC_3_children C mF_X2_25 dX2_attach_1 ?_
  refine z_iload_n C.1 dX2_attach_4 rfl 1 rfl ?_
  refine lC_20 C hw.1 dX2_attach_5 ?_
  replace hw := hw.2
  refine z_bipush (v := 6) C.1 dX2_attach_6 (by decide) ?_
  refine z_icmp_ge (tgt := 28) C.1 dX2_attach_8 (by decide) (fun c1 => ?_) (fun c1 => ?_)
  · replace hw := hw.1 c1
    refine z_lv [0, 1] rfl ?_
    exact z_X2_attach_28 C hn hR _ _ hw
  · replace hw := hw.2 c1
    refine z_aload_n C.1 dX2_attach_11 rfl 0 rfl ?_
    refine gC_3_child C mF_X2_28 dX2_attach_12 ?_
    refine z_iload_n C.1 dX2_attach_15 rfl 1 rfl ?_
    refine z_bipush (v := 6) C.1 dX2_attach_16 (by decide) ?_
    refine z_imul C.1 dX2_attach_18 ?_
    refine z_aload_n C.1 dX2_attach_19 rfl 0 rfl ?_
    refine gC_3_children C mF_X2_25 dX2_attach_20 ?_
    refine z_iload_n C.1 dX2_attach_23 rfl 1 rfl ?_
    refine lC_20 C hw.1 dX2_attach_24 ?_
    replace hw := hw.2
    refine z_iadd C.1 dX2_attach_25 ?_
    refine z_iload_n C.1 dX2_attach_26 rfl 2 rfl ?_
    refine sC_21 C hw.1 dX2_attach_27 (fun u2 eu2 => ?_)
    replace hw := hw.2 u2 eu2
    refine z_lv [0, 1] rfl ?_
    exact z_X2_attach_28 C hn hR _ _ hw
theorem c_X2_attach {l : Launch} {D : va_G} {A : Nat → Prop} {ad : Nat → Nat} {cs : Nat → ClassId} (hD : ∀ u : St, va_D A (wC ad cs u)) (u : St) (x1 : Int32) (x2 : Int32) (post : St → Prop) (hw : wp_X2_attach u x1 x2 post) : MV (ad 90, ad 91) l yX2_attach cX2_attach 3 none (rmm 0 0) D (tysC cs) A (wC ad cs) u [.ref (ad 3), .int x1, .int x2] post :=
  met_v (by decide) (Nat.le_of_ble_eq_true rfl) (fun X C _ _ ht hA hn hsg hR => z_X2_attach ⟨C, ht, fun u => by rw [hA]; exact hD u, hsg⟩ hn hR u x1 x2 hw)
theorem k_X2_attach {X : XX} {ad : Nat → Nat} {cs : Nat → ClassId} {cc : ByteArray} {own : String} {fr lo pc : Nat} {lv : List (Nat × Value)} {st : List Value} {u : St} (C : CxC X ad cs cc own fr lo) {idx : Nat} {x1 : Int32} {x2 : Int32} {P : St → Prop} (hlink : Cond.methodLink own idx yX2_attach ∈ W0) (hw : wp_X2_attach u x1 x2 P) (hr : 0 + 1 ≤ fr ∧ 8 + (3 + 11) + 0 ≤ lo) (hst : (st.map fun v => v.category).sum ≤ 8) (hdg : decode cc pc = .ok (.invokevirtual idx, 3)) (k : ∀ (u2 : St), P u2 → Z X (wC ad cs u2) (pc + 3) lv st) : Z X (wC ad cs u) pc lv (.int x2 :: .int x1 :: .ref (ad 3) :: st) :=
  z_callVv (wf := wC ad cs) (As := [.int x1, .int x2]) (rest := st) C.1 2 (q0 := 3) mI_X2_attach mS_X2_attach rfl rfl (by rw [C.2.1, C.2.2.2]; exact c_X2_attach C.2.2.1 u x1 x2 P hw) mC_X2_attach mZ_X2 (by decide +kernel) rfl hlink hr hst hdg k

def wp_X2_childOf (u : St) (x1 : Int32) (x2 : Int32) (post : Int32 → St → Prop) : Prop :=
  (vp_in ((x1 * 6) + x2) 4320 ∧ post (gA u 28 (ix ((x1 * 6) + x2))) u)
set_option maxHeartbeats 4000000 in
set_option maxRecDepth 20000 in
theorem z_X2_childOf {X : XX} {ad : Nat → Nat} {cs : Nat → ClassId} {post : Int32 → St → Prop} (C : CxC X ad cs cX2_childOf RX2 0 0) (hn : xnL X = 3) (hR : rtI X cX2_childOf (wC ad cs) post) (u : St) (x1 : Int32) (x2 : Int32) (hw : wp_X2_childOf u x1 x2 post) : Z X (wC ad cs u) 0 [(0, .ref (ad 4)), (1, .int x1), (2, .int x2)] [] := by
  unfold wp_X2_childOf at hw
  refine z_aload_n C.1 dX2_childOf_0 rfl 0 rfl ?_
  refine gC_4_child C mF_X2_28 dX2_childOf_1 ?_
  refine z_iload_n C.1 dX2_childOf_4 rfl 1 rfl ?_
  refine z_bipush (v := 6) C.1 dX2_childOf_5 (by decide) ?_
  refine z_imul C.1 dX2_childOf_7 ?_
  refine z_iload_n C.1 dX2_childOf_8 rfl 2 rfl ?_
  refine z_iadd C.1 dX2_childOf_9 ?_
  refine lC_28 C hw.1 dX2_childOf_10 ?_
  replace hw := hw.2
  exact hR _ _ _ _ dX2_childOf_11 hw
theorem c_X2_childOf {l : Launch} {D : va_G} {A : Nat → Prop} {ad : Nat → Nat} {cs : Nat → ClassId} (hD : ∀ u : St, va_D A (wC ad cs u)) (u : St) (x1 : Int32) (x2 : Int32) (post : Int32 → St → Prop) (hw : wp_X2_childOf u x1 x2 post) : MI (ad 90, ad 91) l yX2_childOf cX2_childOf 3 (some .int) (rmm 0 0) D (tysC cs) A (wC ad cs) u [.ref (ad 4), .int x1, .int x2] post :=
  met_i (by decide) (Nat.le_of_ble_eq_true rfl) (fun X C _ _ ht hA hn hsg hR => z_X2_childOf ⟨C, ht, fun u => by rw [hA]; exact hD u, hsg⟩ hn hR u x1 x2 hw)
theorem k_X2_childOf {X : XX} {ad : Nat → Nat} {cs : Nat → ClassId} {cc : ByteArray} {own : String} {fr lo pc : Nat} {lv : List (Nat × Value)} {st : List Value} {u : St} (C : CxC X ad cs cc own fr lo) {idx : Nat} {x1 : Int32} {x2 : Int32} {P : Int32 → St → Prop} (hlink : Cond.methodLink own idx yX2_childOf ∈ W0) (hw : wp_X2_childOf u x1 x2 P) (hr : 0 + 1 ≤ fr ∧ 8 + (3 + 11) + 0 ≤ lo) (hst : (st.map fun v => v.category).sum ≤ 8) (hdg : decode cc pc = .ok (.invokevirtual idx, 3)) (k : ∀ (r : Int32) (u2 : St), P r u2 → Z X (wC ad cs u2) (pc + 3) lv (.int r :: st)) : Z X (wC ad cs u) pc lv (.int x2 :: .int x1 :: .ref (ad 4) :: st) :=
  z_callVi (wf := wC ad cs) (As := [.int x1, .int x2]) (rest := st) C.1 2 (q0 := 4) mI_X2_childOf mS_X2_childOf rfl rfl (by rw [C.2.1, C.2.2.2]; exact c_X2_childOf C.2.2.1 u x1 x2 P hw) mC_X2_childOf mZ_X2 (by decide +kernel) rfl hlink hr hst hdg k
