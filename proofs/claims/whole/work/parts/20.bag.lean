def wp_X0_emptyFor (u : St) (x1 : Int32) (post : St → Prop) : Prop :=
  nm (sI u 21 0) (fun u1 : St => nm (sI u1 22 0) (fun u2 : St => nm (sI u2 23 x1) (fun u3 : St => nm (sI u3 24 x1) (fun u4 : St => post u4))))
set_option maxHeartbeats 4000000 in
set_option maxRecDepth 20000 in
theorem z_X0_emptyFor {X : XX} {ad : Nat → Nat} {cs : Nat → ClassId} {post : St → Prop} (C : CxC X ad cs cX0_emptyFor RX0 0 0) (hn : xnL X = 2) (hR : rtV X cX0_emptyFor (wC ad cs) post) (u : St) (x1 : Int32) (hw : wp_X0_emptyFor u x1 post) : Z X (wC ad cs u) 0 [(0, .ref (ad 7)), (1, .int x1)] [] := by
  unfold wp_X0_emptyFor at hw
  refine z_aload_n C.1 dX0_emptyFor_0 rfl 0 rfl ?_
  refine z_iconst (v := 0) C.1 dX0_emptyFor_1 (by decide) ?_
  refine pC_7_oldest C mF_X0_15 dX0_emptyFor_2 (fun u1 eu1 => ?_)
  replace hw := hw u1 eu1
  refine z_aload_n C.1 dX0_emptyFor_5 rfl 0 rfl ?_
  refine z_iconst (v := 0) C.1 dX0_emptyFor_6 (by decide) ?_
  refine pC_7_held C mF_X0_19 dX0_emptyFor_7 (fun u2 eu2 => ?_)
  replace hw := hw u2 eu2
  refine z_aload_n C.1 dX0_emptyFor_10 rfl 0 rfl ?_
  refine z_iload_n C.1 dX0_emptyFor_11 rfl 1 rfl ?_
  refine pC_7_order C mF_X0_22 dX0_emptyFor_12 (fun u3 eu3 => ?_)
  replace hw := hw u3 eu3
  refine z_aload_n C.1 dX0_emptyFor_15 rfl 0 rfl ?_
  refine z_iload_n C.1 dX0_emptyFor_16 rfl 1 rfl ?_
  refine pC_7_seed C mF_X0_25 dX0_emptyFor_17 (fun u4 eu4 => ?_)
  replace hw := hw u4 eu4
  exact hR _ _ _ dX0_emptyFor_20 hw
theorem c_X0_emptyFor {l : Launch} {D : va_G} {A : Nat → Prop} {ad : Nat → Nat} {cs : Nat → ClassId} (hD : ∀ u : St, va_D A (wC ad cs u)) (u : St) (x1 : Int32) (post : St → Prop) (hw : wp_X0_emptyFor u x1 post) : MV (ad 90, ad 91) l yX0_emptyFor cX0_emptyFor 2 none (rmm 0 0) D (tysC cs) A (wC ad cs) u [.ref (ad 7), .int x1] post :=
  met_v (by decide) (Nat.le_of_ble_eq_true rfl) (fun X C _ _ ht hA hn hsg hR => z_X0_emptyFor ⟨C, ht, fun u => by rw [hA]; exact hD u, hsg⟩ hn hR u x1 hw)
theorem k_X0_emptyFor {X : XX} {ad : Nat → Nat} {cs : Nat → ClassId} {cc : ByteArray} {own : String} {fr lo pc : Nat} {lv : List (Nat × Value)} {st : List Value} {u : St} (C : CxC X ad cs cc own fr lo) {idx : Nat} {x1 : Int32} {P : St → Prop} (hlink : Cond.methodLink own idx yX0_emptyFor ∈ W0) (hw : wp_X0_emptyFor u x1 P) (hr : 0 + 1 ≤ fr ∧ 8 + (2 + 11) + 0 ≤ lo) (hst : (st.map fun v => v.category).sum ≤ 8) (hdg : decode cc pc = .ok (.invokevirtual idx, 3)) (k : ∀ (u2 : St), P u2 → Z X (wC ad cs u2) (pc + 3) lv st) : Z X (wC ad cs u) pc lv (.int x1 :: .ref (ad 7) :: st) :=
  z_callVv (wf := wC ad cs) (As := [.int x1]) (rest := st) C.1 1 (q0 := 7) mI_X0_emptyFor mS_X0_emptyFor rfl rfl (by rw [C.2.1, C.2.2.2]; exact c_X0_emptyFor C.2.2.1 u x1 P hw) mC_X0_emptyFor mZ_X0 (by decide +kernel) rfl hlink hr hst hdg k

def wp_X0_isEmpty (u : St) (post : Int32 → St → Prop) : Prop :=
  br ((gI u 22) = 0) ((bz 1 ∧ post 1 u)) ((bz 0 ∧ post 0 u))
set_option maxHeartbeats 4000000 in
set_option maxRecDepth 20000 in
theorem z_X0_isEmpty {X : XX} {ad : Nat → Nat} {cs : Nat → ClassId} {post : Int32 → St → Prop} (C : CxC X ad cs cX0_isEmpty RX0 0 0) (hn : xnL X = 1) (hR : rtZ X cX0_isEmpty (wC ad cs) post) (u : St) (hw : wp_X0_isEmpty u post) : Z X (wC ad cs u) 0 [(0, .ref (ad 7))] [] := by
  unfold wp_X0_isEmpty at hw
  refine z_aload_n C.1 dX0_isEmpty_0 rfl 0 rfl ?_
  refine gC_7_held C mF_X0_19 dX0_isEmpty_1 ?_
  refine z_if_ne (tgt := 11) C.1 dX0_isEmpty_4 (by decide) (fun c1 => ?_) (fun c1 => ?_)
  · replace hw := hw.2 c1
    refine z_iconst (v := 0) C.1 dX0_isEmpty_11 (by decide) ?_
    exact hR _ _ _ _ dX0_isEmpty_12 hw
  · replace hw := hw.1 c1
    refine z_iconst (v := 1) C.1 dX0_isEmpty_7 (by decide) ?_
    refine z_goto (tgt := 12) C.1 dX0_isEmpty_8 (by decide) ?_
    exact hR _ _ _ _ dX0_isEmpty_12 hw
theorem c_X0_isEmpty {l : Launch} {D : va_G} {A : Nat → Prop} {ad : Nat → Nat} {cs : Nat → ClassId} (hD : ∀ u : St, va_D A (wC ad cs u)) (u : St) (post : Int32 → St → Prop) (hw : wp_X0_isEmpty u post) : MI (ad 90, ad 91) l yX0_isEmpty cX0_isEmpty 1 (some .boolean) (rmm 0 0) D (tysC cs) A (wC ad cs) u [.ref (ad 7)] post :=
  met_z (by decide) (Nat.le_of_ble_eq_true rfl) (fun X C _ _ ht hA hn hsg hR => z_X0_isEmpty ⟨C, ht, fun u => by rw [hA]; exact hD u, hsg⟩ hn hR u hw)
theorem k_X0_isEmpty {X : XX} {ad : Nat → Nat} {cs : Nat → ClassId} {cc : ByteArray} {own : String} {fr lo pc : Nat} {lv : List (Nat × Value)} {st : List Value} {u : St} (C : CxC X ad cs cc own fr lo) {idx : Nat} {P : Int32 → St → Prop} (hlink : Cond.methodLink own idx yX0_isEmpty ∈ W0) (hw : wp_X0_isEmpty u P) (hr : 0 + 1 ≤ fr ∧ 8 + (1 + 11) + 0 ≤ lo) (hst : (st.map fun v => v.category).sum ≤ 8) (hdg : decode cc pc = .ok (.invokevirtual idx, 3)) (k : ∀ (r : Int32) (u2 : St), P r u2 → Z X (wC ad cs u2) (pc + 3) lv (.int r :: st)) : Z X (wC ad cs u) pc lv (.ref (ad 7) :: st) :=
  z_callVi (wf := wC ad cs) (As := []) (rest := st) C.1 0 (q0 := 7) mI_X0_isEmpty mS_X0_isEmpty rfl rfl (by rw [C.2.1, C.2.2.2]; exact c_X0_isEmpty C.2.2.1 u P hw) mC_X0_isEmpty mZ_X0 (by decide +kernel) rfl hlink hr hst hdg k

def wp_X0_put (u : St) (x1 : Int32) (post : St → Prop) : Prop :=
  br (18000 ≤ (gI u 22)) (post u) ((vp_in (((gI u 21) + (gI u 22)) - ((gI u 21) + (gI u 22)) / 18000 * 18000) 18000 ∧ nm (sA u 38 (ix (((gI u 21) + (gI u 22)) - ((gI u 21) + (gI u 22)) / 18000 * 18000)) x1) (fun u2 : St => nm (sI u2 22 ((gI u2 22) + 1)) (fun u3 : St => post u3))))
set_option maxHeartbeats 4000000 in
set_option maxRecDepth 20000 in
theorem z_X0_put {X : XX} {ad : Nat → Nat} {cs : Nat → ClassId} {post : St → Prop} (C : CxC X ad cs cX0_put RX0 0 0) (hn : xnL X = 2) (hR : rtV X cX0_put (wC ad cs) post) (u : St) (x1 : Int32) (hw : wp_X0_put u x1 post) : Z X (wC ad cs u) 0 [(0, .ref (ad 7)), (1, .int x1)] [] := by
  unfold wp_X0_put at hw
  refine z_aload_n C.1 dX0_put_0 rfl 0 rfl ?_
  refine gC_7_held C mF_X0_19 dX0_put_1 ?_
  refine z_aload_n C.1 dX0_put_4 rfl 0 rfl ?_
  refine gC_7_tokens C mF_X0_9 dX0_put_5 ?_
  refine nC_38 C dX0_put_8 ?_
  refine z_icmp_ge (tgt := 43) C.1 dX0_put_9 (by decide) (fun c1 => ?_) (fun c1 => ?_)
  · replace hw := hw.1 c1
    exact hR _ _ _ dX0_put_43 hw
  · replace hw := hw.2 c1
    refine z_aload_n C.1 dX0_put_12 rfl 0 rfl ?_
    refine gC_7_tokens C mF_X0_9 dX0_put_13 ?_
    refine z_aload_n C.1 dX0_put_16 rfl 0 rfl ?_
    refine gC_7_oldest C mF_X0_15 dX0_put_17 ?_
    refine z_aload_n C.1 dX0_put_20 rfl 0 rfl ?_
    refine gC_7_held C mF_X0_19 dX0_put_21 ?_
    refine z_iadd C.1 dX0_put_24 ?_
    refine z_aload_n C.1 dX0_put_25 rfl 0 rfl ?_
    refine gC_7_tokens C mF_X0_9 dX0_put_26 ?_
    refine nC_38 C dX0_put_29 ?_
    refine z_irem C.1 dX0_put_30 (by decide) ?_
    refine z_iload_n C.1 dX0_put_31 rfl 1 rfl ?_
    refine sC_38 C hw.1 dX0_put_32 (fun u2 eu2 => ?_)
    replace hw := hw.2 u2 eu2
    refine z_aload_n C.1 dX0_put_33 rfl 0 rfl ?_
    refine z_dup C.1 dX0_put_34 rfl ?_
    refine gC_7_held C mF_X0_19 dX0_put_35 ?_
    refine z_iconst (v := 1) C.1 dX0_put_38 (by decide) ?_
    refine z_iadd C.1 dX0_put_39 ?_
    refine pC_7_held C mF_X0_19 dX0_put_40 (fun u3 eu3 => ?_)
    replace hw := hw u3 eu3
    exact hR _ _ _ dX0_put_43 hw
theorem c_X0_put {l : Launch} {D : va_G} {A : Nat → Prop} {ad : Nat → Nat} {cs : Nat → ClassId} (hD : ∀ u : St, va_D A (wC ad cs u)) (u : St) (x1 : Int32) (post : St → Prop) (hw : wp_X0_put u x1 post) : MV (ad 90, ad 91) l yX0_put cX0_put 2 none (rmm 0 0) D (tysC cs) A (wC ad cs) u [.ref (ad 7), .int x1] post :=
  met_v (by decide) (Nat.le_of_ble_eq_true rfl) (fun X C _ _ ht hA hn hsg hR => z_X0_put ⟨C, ht, fun u => by rw [hA]; exact hD u, hsg⟩ hn hR u x1 hw)
theorem k_X0_put {X : XX} {ad : Nat → Nat} {cs : Nat → ClassId} {cc : ByteArray} {own : String} {fr lo pc : Nat} {lv : List (Nat × Value)} {st : List Value} {u : St} (C : CxC X ad cs cc own fr lo) {idx : Nat} {x1 : Int32} {P : St → Prop} (hlink : Cond.methodLink own idx yX0_put ∈ W0) (hw : wp_X0_put u x1 P) (hr : 0 + 1 ≤ fr ∧ 8 + (2 + 11) + 0 ≤ lo) (hst : (st.map fun v => v.category).sum ≤ 8) (hdg : decode cc pc = .ok (.invokevirtual idx, 3)) (k : ∀ (u2 : St), P u2 → Z X (wC ad cs u2) (pc + 3) lv st) : Z X (wC ad cs u) pc lv (.int x1 :: .ref (ad 7) :: st) :=
  z_callVv (wf := wC ad cs) (As := [.int x1]) (rest := st) C.1 1 (q0 := 7) mI_X0_put mS_X0_put rfl rfl (by rw [C.2.1, C.2.2.2]; exact c_X0_put C.2.2.1 u x1 P hw) mC_X0_put mZ_X0 (by decide +kernel) rfl hlink hr hst hdg k

def wp_X0_chance (u : St) (post : Int32 → St → Prop) : Prop :=
  nm (sI u 24 (((gI u 24) * 1103515245) + 12345)) (fun u1 : St => (¬ ((gI u1 22) + 1) = 0 ∧ post (((Int32.toUInt32 (gI u1 24) >>> (Int32.toUInt32 8 &&& Int32.toUInt32 31)).toInt32) - ((Int32.toUInt32 (gI u1 24) >>> (Int32.toUInt32 8 &&& Int32.toUInt32 31)).toInt32) / ((gI u1 22) + 1) * ((gI u1 22) + 1)) u1))
set_option maxHeartbeats 4000000 in
set_option maxRecDepth 20000 in
theorem z_X0_chance {X : XX} {ad : Nat → Nat} {cs : Nat → ClassId} {post : Int32 → St → Prop} (C : CxC X ad cs cX0_chance RX0 0 0) (hn : xnL X = 1) (hR : rtI X cX0_chance (wC ad cs) post) (u : St) (hw : wp_X0_chance u post) : Z X (wC ad cs u) 0 [(0, .ref (ad 7))] [] := by
  unfold wp_X0_chance at hw
  refine z_aload_n C.1 dX0_chance_0 rfl 0 rfl ?_
  refine z_aload_n C.1 dX0_chance_1 rfl 0 rfl ?_
  refine gC_7_seed C mF_X0_25 dX0_chance_2 ?_
  refine z_ldc C.1 mK_X0_32 dX0_chance_5 ?_
  refine z_imul C.1 dX0_chance_7 ?_
  refine z_sipush (v := 12345) C.1 dX0_chance_8 (by decide) ?_
  refine z_iadd C.1 dX0_chance_11 ?_
  refine pC_7_seed C mF_X0_25 dX0_chance_12 (fun u1 eu1 => ?_)
  replace hw := hw u1 eu1
  refine z_aload_n C.1 dX0_chance_15 rfl 0 rfl ?_
  refine gC_7_seed C mF_X0_25 dX0_chance_16 ?_
  refine z_bipush (v := 8) C.1 dX0_chance_19 (by decide) ?_
  refine z_iushr C.1 dX0_chance_21 ?_
  refine z_aload_n C.1 dX0_chance_22 rfl 0 rfl ?_
  refine gC_7_held C mF_X0_19 dX0_chance_23 ?_
  refine z_iconst (v := 1) C.1 dX0_chance_26 (by decide) ?_
  refine z_iadd C.1 dX0_chance_27 ?_
  refine z_irem C.1 dX0_chance_28 hw.1 ?_
  replace hw := hw.2
  exact hR _ _ _ _ dX0_chance_29 hw
theorem c_X0_chance {l : Launch} {D : va_G} {A : Nat → Prop} {ad : Nat → Nat} {cs : Nat → ClassId} (hD : ∀ u : St, va_D A (wC ad cs u)) (u : St) (post : Int32 → St → Prop) (hw : wp_X0_chance u post) : MI (ad 90, ad 91) l yX0_chance cX0_chance 1 (some .int) (rmm 0 0) D (tysC cs) A (wC ad cs) u [.ref (ad 7)] post :=
  met_i (by decide) (Nat.le_of_ble_eq_true rfl) (fun X C _ _ ht hA hn hsg hR => z_X0_chance ⟨C, ht, fun u => by rw [hA]; exact hD u, hsg⟩ hn hR u hw)
theorem k_X0_chance {X : XX} {ad : Nat → Nat} {cs : Nat → ClassId} {cc : ByteArray} {own : String} {fr lo pc : Nat} {lv : List (Nat × Value)} {st : List Value} {u : St} (C : CxC X ad cs cc own fr lo) {idx : Nat} {P : Int32 → St → Prop} (hlink : Cond.methodLink own idx yX0_chance ∈ W0) (hw : wp_X0_chance u P) (hr : 0 + 1 ≤ fr ∧ 8 + (1 + 11) + 0 ≤ lo) (hst : (st.map fun v => v.category).sum ≤ 8) (hdg : decode cc pc = .ok (.invokevirtual idx, 3)) (k : ∀ (r : Int32) (u2 : St), P r u2 → Z X (wC ad cs u2) (pc + 3) lv (.int r :: st)) : Z X (wC ad cs u) pc lv (.ref (ad 7) :: st) :=
  z_callVi (wf := wC ad cs) (As := []) (rest := st) C.1 0 (q0 := 7) mI_X0_chance mS_X0_chance rfl rfl (by rw [C.2.1, C.2.2.2]; exact c_X0_chance C.2.2.1 u P hw) mC_X0_chance mZ_X0 (by decide +kernel) rfl hlink hr hst hdg k

def wp_X0_take_87 (u : St) (x2 : Int32) (y0 : Int32) (post : Int32 → St → Prop) : Prop :=
  (vp_in y0 18000 ∧ nm (gA u 38 (ix y0)) (fun v9 : Int32 => (vp_in x2 18000 ∧ (vp_in y0 18000 ∧ nm (sA u 38 (ix y0) (gA u 38 (ix x2))) (fun u10 : St => post v9 u10)))))
set_option maxHeartbeats 4000000 in
set_option maxRecDepth 20000 in
theorem z_X0_take_87 {X : XX} {ad : Nat → Nat} {cs : Nat → ClassId} {post : Int32 → St → Prop} (C : CxC X ad cs cX0_take RX0 1 20) (hn : xnL X = 5) (hR : rtI X cX0_take (wC ad cs) post) (u : St) (x2 : Int32) (y0 : Int32) (hw : wp_X0_take_87 u x2 y0 post) : Z X (wC ad cs u) 87 [(0, .ref (ad 7)), (2, .int x2)] [.int y0] := by
  unfold wp_X0_take_87 at hw
  refine z_istore_n (lv' := [(3, .int y0), (0, .ref (ad 7)), (2, .int x2)]) C.1 dX0_take_87 rfl (by rw [hn]; decide) rfl ?_
  refine z_aload_n C.1 dX0_take_88 rfl 1 rfl ?_
  refine gC_7_tokens C mF_X0_9 dX0_take_89 ?_
  refine z_iload_n C.1 dX0_take_92 rfl 0 rfl ?_
  refine lC_38 C hw.1 dX0_take_93 ?_
  replace hw := hw.2
  refine z_topi (fun v9 ev9 => ?_)
  replace hw := hw v9 ev9
  refine z_istore (lv' := [(4, .int v9), (3, .int y0), (0, .ref (ad 7)), (2, .int x2)]) C.1 dX0_take_94 (by rw [hn]; decide) rfl ?_
  refine z_aload_n C.1 dX0_take_96 rfl 2 rfl ?_
  refine gC_7_tokens C mF_X0_9 dX0_take_97 ?_
  refine z_iload_n C.1 dX0_take_100 rfl 1 rfl ?_
  refine z_aload_n C.1 dX0_take_101 rfl 2 rfl ?_
  refine gC_7_tokens C mF_X0_9 dX0_take_102 ?_
  refine z_iload_n C.1 dX0_take_105 rfl 3 rfl ?_
  refine lC_38 C hw.1 dX0_take_106 ?_
  replace hw := hw.2
  refine sC_38 C hw.1 dX0_take_107 (fun u10 eu10 => ?_)
  replace hw := hw.2 u10 eu10
  refine z_iload C.1 dX0_take_108 0 rfl ?_
  exact hR _ _ _ _ dX0_take_110 hw
def wp_X0_take (u : St) (post : Int32 → St → Prop) : Prop :=
  nm (gI u 21) (fun v1 : Int32 => nm ((((gI u 21) + (gI u 22)) - 1) - (((gI u 21) + (gI u 22)) - 1) / 18000 * 18000) (fun v2 : Int32 => nm (sI u 22 ((gI u 22) - 1)) (fun u3 : St => br ((gI u3 23) = 0) (nm (sI u3 21 (((gI u3 21) + 1) - ((gI u3 21) + 1) / 18000 * 18000)) (fun u8 : St => (vp_in v1 18000 ∧ post (gA u8 38 (ix v1)) u8))) (br ((gI u3 23) = 1) (wp_X0_take_87 u3 v2 v2 post) (wp_X0_chance u3 (fun (r7 : Int32) (u6 : St) => wp_X0_take_87 u6 v2 ((v1 + r7) - (v1 + r7) / 18000 * 18000) post))))))
set_option maxHeartbeats 4000000 in
set_option maxRecDepth 20000 in
theorem z_X0_take {X : XX} {ad : Nat → Nat} {cs : Nat → ClassId} {post : Int32 → St → Prop} (C : CxC X ad cs cX0_take RX0 1 20) (hn : xnL X = 5) (hR : rtI X cX0_take (wC ad cs) post) (u : St) (hw : wp_X0_take u post) : Z X (wC ad cs u) 0 [(0, .ref (ad 7))] [] := by
  unfold wp_X0_take at hw
  refine z_aload_n C.1 dX0_take_0 rfl 0 rfl ?_
  refine gC_7_oldest C mF_X0_15 dX0_take_1 ?_
  refine z_topi (fun v1 ev1 => ?_)
  replace hw := hw v1 ev1
  refine z_istore_n (lv' := [(1, .int v1), (0, .ref (ad 7))]) C.1 dX0_take_4 rfl (by rw [hn]; decide) rfl ?_
  refine z_aload_n C.1 dX0_take_5 rfl 1 rfl ?_
  refine gC_7_oldest C mF_X0_15 dX0_take_6 ?_
  refine z_aload_n C.1 dX0_take_9 rfl 1 rfl ?_
  refine gC_7_held C mF_X0_19 dX0_take_10 ?_
  refine z_iadd C.1 dX0_take_13 ?_
  refine z_iconst (v := 1) C.1 dX0_take_14 (by decide) ?_
  refine z_isub C.1 dX0_take_15 ?_
  refine z_aload_n C.1 dX0_take_16 rfl 1 rfl ?_
  refine gC_7_tokens C mF_X0_9 dX0_take_17 ?_
  refine nC_38 C dX0_take_20 ?_
  refine z_irem C.1 dX0_take_21 (by decide) ?_
  refine z_topi (fun v2 ev2 => ?_)
  replace hw := hw v2 ev2
  refine z_istore_n (lv' := [(2, .int v2), (1, .int v1), (0, .ref (ad 7))]) C.1 dX0_take_22 rfl (by rw [hn]; decide) rfl ?_
  refine z_aload_n C.1 dX0_take_23 rfl 2 rfl ?_
  refine z_dup C.1 dX0_take_24 rfl ?_
  refine gC_7_held C mF_X0_19 dX0_take_25 ?_
  refine z_iconst (v := 1) C.1 dX0_take_28 (by decide) ?_
  refine z_isub C.1 dX0_take_29 ?_
  refine pC_7_held C mF_X0_19 dX0_take_30 (fun u3 eu3 => ?_)
  replace hw := hw u3 eu3
  refine z_aload_n C.1 dX0_take_33 rfl 2 rfl ?_
  refine gC_7_order C mF_X0_22 dX0_take_34 ?_
  refine z_if_ne (tgt := 63) C.1 dX0_take_37 (by decide) (fun c4 => ?_) (fun c4 => ?_)
  · replace hw := hw.2 c4
    refine z_aload_n C.1 dX0_take_63 rfl 2 rfl ?_
    refine gC_7_order C mF_X0_22 dX0_take_64 ?_
    refine z_iconst (v := 1) C.1 dX0_take_67 (by decide) ?_
    refine z_icmp_ne (tgt := 75) C.1 dX0_take_68 (by decide) (fun c5 => ?_) (fun c5 => ?_)
    · replace hw := hw.2 c5
      refine z_iload_n C.1 dX0_take_75 rfl 1 rfl ?_
      refine z_aload_n C.1 dX0_take_76 rfl 2 rfl ?_
      refine k_X0_chance C mM_X0_28 hw (by decide) (Nat.le_of_ble_eq_true rfl) dX0_take_77 (fun r7 u6 hw => ?_)
      refine z_iadd C.1 dX0_take_80 ?_
      refine z_aload_n C.1 dX0_take_81 rfl 2 rfl ?_
      refine gC_7_tokens C mF_X0_9 dX0_take_82 ?_
      refine nC_38 C dX0_take_85 ?_
      refine z_irem C.1 dX0_take_86 (by decide) ?_
      refine z_lv [2, 0] rfl ?_
      exact z_X0_take_87 C hn hR _ _ _ hw
    · replace hw := hw.1 c5
      refine z_iload_n C.1 dX0_take_71 rfl 0 rfl ?_
      refine z_goto (tgt := 87) C.1 dX0_take_72 (by decide) ?_
      refine z_lv [2, 0] rfl ?_
      exact z_X0_take_87 C hn hR _ _ _ hw
  · replace hw := hw.1 c4
    refine z_aload_n C.1 dX0_take_40 rfl 2 rfl ?_
    refine z_aload_n C.1 dX0_take_41 rfl 2 rfl ?_
    refine gC_7_oldest C mF_X0_15 dX0_take_42 ?_
    refine z_iconst (v := 1) C.1 dX0_take_45 (by decide) ?_
    refine z_iadd C.1 dX0_take_46 ?_
    refine z_aload_n C.1 dX0_take_47 rfl 2 rfl ?_
    refine gC_7_tokens C mF_X0_9 dX0_take_48 ?_
    refine nC_38 C dX0_take_51 ?_
    refine z_irem C.1 dX0_take_52 (by decide) ?_
    refine pC_7_oldest C mF_X0_15 dX0_take_53 (fun u8 eu8 => ?_)
    replace hw := hw u8 eu8
    refine z_aload_n C.1 dX0_take_56 rfl 2 rfl ?_
    refine gC_7_tokens C mF_X0_9 dX0_take_57 ?_
    refine z_iload_n C.1 dX0_take_60 rfl 1 rfl ?_
    refine lC_38 C hw.1 dX0_take_61 ?_
    replace hw := hw.2
    exact hR _ _ _ _ dX0_take_62 hw
theorem c_X0_take {l : Launch} {D : va_G} {A : Nat → Prop} {ad : Nat → Nat} {cs : Nat → ClassId} (hD : ∀ u : St, va_D A (wC ad cs u)) (u : St) (post : Int32 → St → Prop) (hw : wp_X0_take u post) : MI (ad 90, ad 91) l yX0_take cX0_take 5 (some .int) (rmm 1 20) D (tysC cs) A (wC ad cs) u [.ref (ad 7)] post :=
  met_i (by decide) (Nat.le_of_ble_eq_true rfl) (fun X C _ _ ht hA hn hsg hR => z_X0_take ⟨C, ht, fun u => by rw [hA]; exact hD u, hsg⟩ hn hR u hw)
theorem k_X0_take {X : XX} {ad : Nat → Nat} {cs : Nat → ClassId} {cc : ByteArray} {own : String} {fr lo pc : Nat} {lv : List (Nat × Value)} {st : List Value} {u : St} (C : CxC X ad cs cc own fr lo) {idx : Nat} {P : Int32 → St → Prop} (hlink : Cond.methodLink own idx yX0_take ∈ W0) (hw : wp_X0_take u P) (hr : 1 + 1 ≤ fr ∧ 8 + (5 + 11) + 20 ≤ lo) (hst : (st.map fun v => v.category).sum ≤ 8) (hdg : decode cc pc = .ok (.invokevirtual idx, 3)) (k : ∀ (r : Int32) (u2 : St), P r u2 → Z X (wC ad cs u2) (pc + 3) lv (.int r :: st)) : Z X (wC ad cs u) pc lv (.ref (ad 7) :: st) :=
  z_callVi (wf := wC ad cs) (As := []) (rest := st) C.1 0 (q0 := 7) mI_X0_take mS_X0_take rfl rfl (by rw [C.2.1, C.2.2.2]; exact c_X0_take C.2.2.1 u P hw) mC_X0_take mZ_X0 (by decide +kernel) rfl hlink hr hst hdg k
