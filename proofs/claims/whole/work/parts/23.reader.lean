def wp_X3_fail (u : St) (post : St → Prop) : Prop :=
  nm (sI u 6 (gI u 10)) (fun u1 : St => post u1)
set_option maxHeartbeats 4000000 in
set_option maxRecDepth 20000 in
theorem z_X3_fail {X : XX} {ad : Nat → Nat} {cs : Nat → ClassId} {post : St → Prop} (C : CxC X ad cs cX3_fail RX3 0 0) (hn : xnL X = 1) (hR : rtV X cX3_fail (wC ad cs) post) (u : St) (hw : wp_X3_fail u post) : Z X (wC ad cs u) 0 [(0, .ref (ad 1))] [] := by
  unfold wp_X3_fail at hw
  refine z_aload_n C.1 dX3_fail_0 rfl 0 rfl ?_
  refine z_aload_n C.1 dX3_fail_1 rfl 0 rfl ?_
  refine gC_1_tape C mF_X3_16 dX3_fail_2 ?_
  refine gC_2_place C mF_X3_222 dX3_fail_5 ?_
  refine pC_1_fault C mF_X3_49 dX3_fail_8 (fun u1 eu1 => ?_)
  replace hw := hw u1 eu1
  exact hR _ _ _ dX3_fail_11 hw
theorem c_X3_fail {l : Launch} {D : va_G} {A : Nat → Prop} {ad : Nat → Nat} {cs : Nat → ClassId} (hD : ∀ u : St, va_D A (wC ad cs u)) (u : St) (post : St → Prop) (hw : wp_X3_fail u post) : MV (ad 90, ad 91) l yX3_fail cX3_fail 1 none (rmm 0 0) D (tysC cs) A (wC ad cs) u [.ref (ad 1)] post :=
  met_v (by decide) (Nat.le_of_ble_eq_true rfl) (fun X C _ _ ht hA hn hsg hR => z_X3_fail ⟨C, ht, fun u => by rw [hA]; exact hD u, hsg⟩ hn hR u hw)
theorem k_X3_fail {X : XX} {ad : Nat → Nat} {cs : Nat → ClassId} {cc : ByteArray} {own : String} {fr lo pc : Nat} {lv : List (Nat × Value)} {st : List Value} {u : St} (C : CxC X ad cs cc own fr lo) {idx : Nat} {P : St → Prop} (hlink : Cond.methodLink own idx yX3_fail ∈ W0) (hw : wp_X3_fail u P) (hr : 0 + 1 ≤ fr ∧ 8 + (1 + 11) + 0 ≤ lo) (hst : (st.map fun v => v.category).sum ≤ 8) (hdg : decode cc pc = .ok (.invokevirtual idx, 3)) (k : ∀ (u2 : St), P u2 → Z X (wC ad cs u2) (pc + 3) lv st) : Z X (wC ad cs u) pc lv (.ref (ad 1) :: st) :=
  z_callVv (wf := wC ad cs) (As := []) (rest := st) C.1 0 (q0 := 1) mI_X3_fail mS_X3_fail rfl rfl (by rw [C.2.1, C.2.2.2]; exact c_X3_fail C.2.2.1 u P hw) mC_X3_fail mZ_X3 (by decide +kernel) rfl hlink hr hst hdg k

def wp_X3_addLeaf (u : St) (x1 : Int32) (x2 : Int32) (post : St → Prop) : Prop :=
  wp_X2_addPart u (gI u 1) x1 x2 (fun (r2 : Int32) (u1 : St) => nm (sI u1 4 r2) (fun u3 : St => nm (sI u3 5 7) (fun u4 : St => post u4)))
set_option maxHeartbeats 4000000 in
set_option maxRecDepth 20000 in
theorem z_X3_addLeaf {X : XX} {ad : Nat → Nat} {cs : Nat → ClassId} {post : St → Prop} (C : CxC X ad cs cX3_addLeaf RX3 1 24) (hn : xnL X = 3) (hR : rtV X cX3_addLeaf (wC ad cs) post) (u : St) (x1 : Int32) (x2 : Int32) (hw : wp_X3_addLeaf u x1 x2 post) : Z X (wC ad cs u) 0 [(0, .ref (ad 1)), (1, .int x1), (2, .int x2)] [] := by
  unfold wp_X3_addLeaf at hw
  refine z_aload_n C.1 dX3_addLeaf_0 rfl 0 rfl ?_
  refine z_aload_n C.1 dX3_addLeaf_1 rfl 0 rfl ?_
  refine gC_1_program C mF_X3_38 dX3_addLeaf_2 ?_
  refine z_aload_n C.1 dX3_addLeaf_5 rfl 0 rfl ?_
  refine gC_1_current C mF_X3_92 dX3_addLeaf_6 ?_
  refine z_iload_n C.1 dX3_addLeaf_9 rfl 1 rfl ?_
  refine z_iload_n C.1 dX3_addLeaf_10 rfl 2 rfl ?_
  refine k_X2_addPart C mM_X3_218 hw (by decide) (Nat.le_of_ble_eq_true rfl) dX3_addLeaf_11 (fun r2 u1 hw => ?_)
  refine pC_1_latest C mF_X3_204 dX3_addLeaf_14 (fun u3 eu3 => ?_)
  replace hw := hw u3 eu3
  refine z_aload_n C.1 dX3_addLeaf_17 rfl 0 rfl ?_
  refine z_bipush (v := 7) C.1 dX3_addLeaf_18 (by decide) ?_
  refine pC_1_due C mF_X3_46 dX3_addLeaf_20 (fun u4 eu4 => ?_)
  replace hw := hw u4 eu4
  exact hR _ _ _ dX3_addLeaf_23 hw
theorem c_X3_addLeaf {l : Launch} {D : va_G} {A : Nat → Prop} {ad : Nat → Nat} {cs : Nat → ClassId} (hD : ∀ u : St, va_D A (wC ad cs u)) (u : St) (x1 : Int32) (x2 : Int32) (post : St → Prop) (hw : wp_X3_addLeaf u x1 x2 post) : MV (ad 90, ad 91) l yX3_addLeaf cX3_addLeaf 3 none (rmm 1 24) D (tysC cs) A (wC ad cs) u [.ref (ad 1), .int x1, .int x2] post :=
  met_v (by decide) (Nat.le_of_ble_eq_true rfl) (fun X C _ _ ht hA hn hsg hR => z_X3_addLeaf ⟨C, ht, fun u => by rw [hA]; exact hD u, hsg⟩ hn hR u x1 x2 hw)
theorem k_X3_addLeaf {X : XX} {ad : Nat → Nat} {cs : Nat → ClassId} {cc : ByteArray} {own : String} {fr lo pc : Nat} {lv : List (Nat × Value)} {st : List Value} {u : St} (C : CxC X ad cs cc own fr lo) {idx : Nat} {x1 : Int32} {x2 : Int32} {P : St → Prop} (hlink : Cond.methodLink own idx yX3_addLeaf ∈ W0) (hw : wp_X3_addLeaf u x1 x2 P) (hr : 1 + 1 ≤ fr ∧ 8 + (3 + 11) + 24 ≤ lo) (hst : (st.map fun v => v.category).sum ≤ 8) (hdg : decode cc pc = .ok (.invokevirtual idx, 3)) (k : ∀ (u2 : St), P u2 → Z X (wC ad cs u2) (pc + 3) lv st) : Z X (wC ad cs u) pc lv (.int x2 :: .int x1 :: .ref (ad 1) :: st) :=
  z_callVv (wf := wC ad cs) (As := [.int x1, .int x2]) (rest := st) C.1 2 (q0 := 1) mI_X3_addLeaf mS_X3_addLeaf rfl rfl (by rw [C.2.1, C.2.2.2]; exact c_X3_addLeaf C.2.2.1 u x1 x2 P hw) mC_X3_addLeaf mZ_X3 (by decide +kernel) rfl hlink hr hst hdg k

def wp_X3_begin (u : St) (x1 : Int32) (x2 : Int32) (post : St → Prop) : Prop :=
  (vp_in (gI u 2) 81 ∧ nm (sA u 13 (ix (gI u 2)) x1) (fun u1 : St => nm (sI u1 2 ((gI u1 2) + 1)) (fun u2 : St => nm (sI u2 5 x2) (fun u3 : St => post u3))))
set_option maxHeartbeats 4000000 in
set_option maxRecDepth 20000 in
theorem z_X3_begin {X : XX} {ad : Nat → Nat} {cs : Nat → ClassId} {post : St → Prop} (C : CxC X ad cs cX3_begin RX3 0 0) (hn : xnL X = 3) (hR : rtV X cX3_begin (wC ad cs) post) (u : St) (x1 : Int32) (x2 : Int32) (hw : wp_X3_begin u x1 x2 post) : Z X (wC ad cs u) 0 [(0, .ref (ad 1)), (1, .int x1), (2, .int x2)] [] := by
  unfold wp_X3_begin at hw
  refine z_aload_n C.1 dX3_begin_0 rfl 0 rfl ?_
  refine gC_1_open C mF_X3_34 dX3_begin_1 ?_
  refine z_aload_n C.1 dX3_begin_4 rfl 0 rfl ?_
  refine gC_1_opened C mF_X3_109 dX3_begin_5 ?_
  refine z_iload_n C.1 dX3_begin_8 rfl 1 rfl ?_
  refine sC_13 C hw.1 dX3_begin_9 (fun u1 eu1 => ?_)
  replace hw := hw.2 u1 eu1
  refine z_aload_n C.1 dX3_begin_10 rfl 0 rfl ?_
  refine z_dup C.1 dX3_begin_11 rfl ?_
  refine gC_1_opened C mF_X3_109 dX3_begin_12 ?_
  refine z_iconst (v := 1) C.1 dX3_begin_15 (by decide) ?_
  refine z_iadd C.1 dX3_begin_16 ?_
  refine pC_1_opened C mF_X3_109 dX3_begin_17 (fun u2 eu2 => ?_)
  replace hw := hw u2 eu2
  refine z_aload_n C.1 dX3_begin_20 rfl 0 rfl ?_
  refine z_iload_n C.1 dX3_begin_21 rfl 2 rfl ?_
  refine pC_1_due C mF_X3_46 dX3_begin_22 (fun u3 eu3 => ?_)
  replace hw := hw u3 eu3
  exact hR _ _ _ dX3_begin_25 hw
theorem c_X3_begin {l : Launch} {D : va_G} {A : Nat → Prop} {ad : Nat → Nat} {cs : Nat → ClassId} (hD : ∀ u : St, va_D A (wC ad cs u)) (u : St) (x1 : Int32) (x2 : Int32) (post : St → Prop) (hw : wp_X3_begin u x1 x2 post) : MV (ad 90, ad 91) l yX3_begin cX3_begin 3 none (rmm 0 0) D (tysC cs) A (wC ad cs) u [.ref (ad 1), .int x1, .int x2] post :=
  met_v (by decide) (Nat.le_of_ble_eq_true rfl) (fun X C _ _ ht hA hn hsg hR => z_X3_begin ⟨C, ht, fun u => by rw [hA]; exact hD u, hsg⟩ hn hR u x1 x2 hw)
theorem k_X3_begin {X : XX} {ad : Nat → Nat} {cs : Nat → ClassId} {cc : ByteArray} {own : String} {fr lo pc : Nat} {lv : List (Nat × Value)} {st : List Value} {u : St} (C : CxC X ad cs cc own fr lo) {idx : Nat} {x1 : Int32} {x2 : Int32} {P : St → Prop} (hlink : Cond.methodLink own idx yX3_begin ∈ W0) (hw : wp_X3_begin u x1 x2 P) (hr : 0 + 1 ≤ fr ∧ 8 + (3 + 11) + 0 ≤ lo) (hst : (st.map fun v => v.category).sum ≤ 8) (hdg : decode cc pc = .ok (.invokevirtual idx, 3)) (k : ∀ (u2 : St), P u2 → Z X (wC ad cs u2) (pc + 3) lv st) : Z X (wC ad cs u) pc lv (.int x2 :: .int x1 :: .ref (ad 1) :: st) :=
  z_callVv (wf := wC ad cs) (As := [.int x1, .int x2]) (rest := st) C.1 2 (q0 := 1) mI_X3_begin mS_X3_begin rfl rfl (by rw [C.2.1, C.2.2.2]; exact c_X3_begin C.2.2.1 u x1 x2 P hw) mC_X3_begin mZ_X3 (by decide +kernel) rfl hlink hr hst hdg k

def wp_X3_beginPart (u : St) (x1 : Int32) (x2 : Int32) (post : Int32 → St → Prop) : Prop :=
  wp_X2_addPart u (gI u 1) x1 0 (fun (r2 : Int32) (u1 : St) => wp_X3_begin u1 r2 x2 (fun (u3 : St) => post r2 u3))
set_option maxHeartbeats 4000000 in
set_option maxRecDepth 20000 in
theorem z_X3_beginPart {X : XX} {ad : Nat → Nat} {cs : Nat → ClassId} {post : Int32 → St → Prop} (C : CxC X ad cs cX3_beginPart RX3 1 24) (hn : xnL X = 4) (hR : rtI X cX3_beginPart (wC ad cs) post) (u : St) (x1 : Int32) (x2 : Int32) (hw : wp_X3_beginPart u x1 x2 post) : Z X (wC ad cs u) 0 [(0, .ref (ad 1)), (1, .int x1), (2, .int x2)] [] := by
  unfold wp_X3_beginPart at hw
  refine z_aload_n C.1 dX3_beginPart_0 rfl 0 rfl ?_
  refine gC_1_program C mF_X3_38 dX3_beginPart_1 ?_
  refine z_aload_n C.1 dX3_beginPart_4 rfl 0 rfl ?_
  refine gC_1_current C mF_X3_92 dX3_beginPart_5 ?_
  refine z_iload_n C.1 dX3_beginPart_8 rfl 1 rfl ?_
  refine z_iconst (v := 0) C.1 dX3_beginPart_9 (by decide) ?_
  refine k_X2_addPart C mM_X3_218 hw (by decide) (Nat.le_of_ble_eq_true rfl) dX3_beginPart_10 (fun r2 u1 hw => ?_)
  refine z_istore_n (lv' := [(3, .int r2), (0, .ref (ad 1)), (1, .int x1), (2, .int x2)]) C.1 dX3_beginPart_13 rfl (by rw [hn]; decide) rfl ?_
  refine z_aload_n C.1 dX3_beginPart_14 rfl 1 rfl ?_
  refine z_iload_n C.1 dX3_beginPart_15 rfl 0 rfl ?_
  refine z_iload_n C.1 dX3_beginPart_16 rfl 3 rfl ?_
  refine k_X3_begin C mM_X3_115 hw (by decide) (Nat.le_of_ble_eq_true rfl) dX3_beginPart_17 (fun u3 hw => ?_)
  refine z_iload_n C.1 dX3_beginPart_20 rfl 0 rfl ?_
  exact hR _ _ _ _ dX3_beginPart_21 hw
theorem c_X3_beginPart {l : Launch} {D : va_G} {A : Nat → Prop} {ad : Nat → Nat} {cs : Nat → ClassId} (hD : ∀ u : St, va_D A (wC ad cs u)) (u : St) (x1 : Int32) (x2 : Int32) (post : Int32 → St → Prop) (hw : wp_X3_beginPart u x1 x2 post) : MI (ad 90, ad 91) l yX3_beginPart cX3_beginPart 4 (some .int) (rmm 1 24) D (tysC cs) A (wC ad cs) u [.ref (ad 1), .int x1, .int x2] post :=
  met_i (by decide) (Nat.le_of_ble_eq_true rfl) (fun X C _ _ ht hA hn hsg hR => z_X3_beginPart ⟨C, ht, fun u => by rw [hA]; exact hD u, hsg⟩ hn hR u x1 x2 hw)
theorem k_X3_beginPart {X : XX} {ad : Nat → Nat} {cs : Nat → ClassId} {cc : ByteArray} {own : String} {fr lo pc : Nat} {lv : List (Nat × Value)} {st : List Value} {u : St} (C : CxC X ad cs cc own fr lo) {idx : Nat} {x1 : Int32} {x2 : Int32} {P : Int32 → St → Prop} (hlink : Cond.methodLink own idx yX3_beginPart ∈ W0) (hw : wp_X3_beginPart u x1 x2 P) (hr : 1 + 1 ≤ fr ∧ 8 + (4 + 11) + 24 ≤ lo) (hst : (st.map fun v => v.category).sum ≤ 8) (hdg : decode cc pc = .ok (.invokevirtual idx, 3)) (k : ∀ (r : Int32) (u2 : St), P r u2 → Z X (wC ad cs u2) (pc + 3) lv (.int r :: st)) : Z X (wC ad cs u) pc lv (.int x2 :: .int x1 :: .ref (ad 1) :: st) :=
  z_callVi (wf := wC ad cs) (As := [.int x1, .int x2]) (rest := st) C.1 2 (q0 := 1) mI_X3_beginPart mS_X3_beginPart rfl rfl (by rw [C.2.1, C.2.2.2]; exact c_X3_beginPart C.2.2.1 u x1 x2 P hw) mC_X3_beginPart mZ_X3 (by decide +kernel) rfl hlink hr hst hdg k

def wp_X3_keepName (u : St) (x1 : Int32) (post : St → Prop) : Prop :=
  br (x1 < 0) (post u) ((vp_in x1 720 ∧ nm (sB u 11 (ix x1) (gL u 0)) (fun u2 : St => (vp_in x1 720 ∧ nm (sA u2 12 (ix x1) (gI u2 10)) (fun u3 : St => post u3)))))
set_option maxHeartbeats 4000000 in
set_option maxRecDepth 20000 in
theorem z_X3_keepName {X : XX} {ad : Nat → Nat} {cs : Nat → ClassId} {post : St → Prop} (C : CxC X ad cs cX3_keepName RX3 0 0) (hn : xnL X = 2) (hR : rtV X cX3_keepName (wC ad cs) post) (u : St) (x1 : Int32) (hw : wp_X3_keepName u x1 post) : Z X (wC ad cs u) 0 [(0, .ref (ad 1)), (1, .int x1)] [] := by
  unfold wp_X3_keepName at hw
  refine z_iload_n C.1 dX3_keepName_0 rfl 1 rfl ?_
  refine z_if_lt (tgt := 30) C.1 dX3_keepName_1 (by decide) (fun c1 => ?_) (fun c1 => ?_)
  · replace hw := hw.1 c1
    exact hR _ _ _ dX3_keepName_30 hw
  · replace hw := hw.2 c1
    refine z_aload_n C.1 dX3_keepName_4 rfl 0 rfl ?_
    refine gC_1_partNames C mF_X3_27 dX3_keepName_5 ?_
    refine z_iload_n C.1 dX3_keepName_8 rfl 1 rfl ?_
    refine z_aload_n C.1 dX3_keepName_9 rfl 0 rfl ?_
    refine gC_1_tape C mF_X3_16 dX3_keepName_10 ?_
    refine gC_2_name C mF_X3_95 dX3_keepName_13 ?_
    refine sC_11 C hw.1 dX3_keepName_16 (fun u2 eu2 => ?_)
    replace hw := hw.2 u2 eu2
    refine z_aload_n C.1 dX3_keepName_17 rfl 0 rfl ?_
    refine gC_1_partPlaces C mF_X3_30 dX3_keepName_18 ?_
    refine z_iload_n C.1 dX3_keepName_21 rfl 1 rfl ?_
    refine z_aload_n C.1 dX3_keepName_22 rfl 0 rfl ?_
    refine gC_1_tape C mF_X3_16 dX3_keepName_23 ?_
    refine gC_2_place C mF_X3_222 dX3_keepName_26 ?_
    refine sC_12 C hw.1 dX3_keepName_29 (fun u3 eu3 => ?_)
    replace hw := hw.2 u3 eu3
    exact hR _ _ _ dX3_keepName_30 hw
theorem c_X3_keepName {l : Launch} {D : va_G} {A : Nat → Prop} {ad : Nat → Nat} {cs : Nat → ClassId} (hD : ∀ u : St, va_D A (wC ad cs u)) (u : St) (x1 : Int32) (post : St → Prop) (hw : wp_X3_keepName u x1 post) : MV (ad 90, ad 91) l yX3_keepName cX3_keepName 2 none (rmm 0 0) D (tysC cs) A (wC ad cs) u [.ref (ad 1), .int x1] post :=
  met_v (by decide) (Nat.le_of_ble_eq_true rfl) (fun X C _ _ ht hA hn hsg hR => z_X3_keepName ⟨C, ht, fun u => by rw [hA]; exact hD u, hsg⟩ hn hR u x1 hw)
theorem k_X3_keepName {X : XX} {ad : Nat → Nat} {cs : Nat → ClassId} {cc : ByteArray} {own : String} {fr lo pc : Nat} {lv : List (Nat × Value)} {st : List Value} {u : St} (C : CxC X ad cs cc own fr lo) {idx : Nat} {x1 : Int32} {P : St → Prop} (hlink : Cond.methodLink own idx yX3_keepName ∈ W0) (hw : wp_X3_keepName u x1 P) (hr : 0 + 1 ≤ fr ∧ 8 + (2 + 11) + 0 ≤ lo) (hst : (st.map fun v => v.category).sum ≤ 8) (hdg : decode cc pc = .ok (.invokevirtual idx, 3)) (k : ∀ (u2 : St), P u2 → Z X (wC ad cs u2) (pc + 3) lv st) : Z X (wC ad cs u) pc lv (.int x1 :: .ref (ad 1) :: st) :=
  z_callVv (wf := wC ad cs) (As := [.int x1]) (rest := st) C.1 1 (q0 := 1) mI_X3_keepName mS_X3_keepName rfl rfl (by rw [C.2.1, C.2.2.2]; exact c_X3_keepName C.2.2.1 u x1 P hw) mC_X3_keepName mZ_X3 (by decide +kernel) rfl hlink hr hst hdg k

def wp_X3_letNamed_68 (K7 : St → Int64 → Int32 → Prop) (u : St) (x1 : Int64) (x3 : Int32) (post : Int32 → St → Prop) : Prop :=
  nm (x3 + (-1)) (fun v8 : Int32 => K7 u x1 v8)
set_option maxHeartbeats 4000000 in
set_option maxRecDepth 20000 in
theorem z_X3_letNamed_68 {X : XX} {ad : Nat → Nat} {cs : Nat → ClassId} {post : Int32 → St → Prop} (C : CxC X ad cs cX3_letNamed RX3 0 0) (hn : xnL X = 5) (hR : rtI X cX3_letNamed (wC ad cs) post) {K7 : St → Int64 → Int32 → Prop} (hK7 : ∀ (u : St) (x1 : Int64) (x3 : Int32), K7 u x1 x3 → Z X (wC ad cs u) 7 [(0, .ref (ad 1)), (1, .long x1), (3, .int x3)] []) (u : St) (x1 : Int64) (x3 : Int32) (hw : wp_X3_letNamed_68 K7 u x1 x3 post) : Z X (wC ad cs u) 68 [(0, .ref (ad 1)), (1, .long x1), (3, .int x3)] [] := by
  unfold wp_X3_letNamed_68 at hw
  obtain ⟨v8, ev8⟩ : ∃ z : Int32, z = x3 + (-1) := ⟨_, rfl⟩
  replace hw := hw v8 ev8
  refine z_iinc (v := v8) (lv' := [(3, .int v8), (0, .ref (ad 1)), (1, .long x1)]) C.1 (j := 2) dX3_letNamed_68 rfl (by rw [ev8]; rfl) (by rw [hn]; decide) rfl ?_
  refine z_goto (tgt := 7) C.1 dX3_letNamed_71 (by decide) ?_
  refine z_lv [1, 2, 0] rfl ?_
  exact hK7 _ _ _ hw
def wp_X3_letNamed_7s (K7 : St → Int64 → Int32 → Prop) (u : St) (x1 : Int64) (x3 : Int32) (post : Int32 → St → Prop) : Prop :=
  br (x3 < 0) (post (-1) u) ((vp_in x3 81 ∧ nm (gA u 13 (ix x3)) (fun v3 : Int32 => br (v3 < 0) (wp_X3_letNamed_68 K7 u x1 x3 post) ((vp_in v3 720 ∧ br ((gA u 18 (ix v3)) = 6) ((vp_in v3 720 ∧ br ((gA u 20 (ix v3)) = 1) ((vp_in v3 720 ∧ br ((lg_cmp (gB u 11 (ix v3)) x1) = 0) (post v3 u) (wp_X3_letNamed_68 K7 u x1 x3 post))) (wp_X3_letNamed_68 K7 u x1 x3 post))) (wp_X3_letNamed_68 K7 u x1 x3 post))))))
def wp_X3_letNamed_7 (post : Int32 → St → Prop) : Nat → St → Int64 → Int32 → Prop
  | 0 => fun _ _ _ => False
  | n + 1 => fun u x1 x3 => wp_X3_letNamed_7s (wp_X3_letNamed_7 post n) u x1 x3 post
set_option maxHeartbeats 4000000 in
set_option maxRecDepth 20000 in
theorem z_X3_letNamed_7s {X : XX} {ad : Nat → Nat} {cs : Nat → ClassId} {post : Int32 → St → Prop} (C : CxC X ad cs cX3_letNamed RX3 0 0) (hn : xnL X = 5) (hR : rtI X cX3_letNamed (wC ad cs) post) {K7 : St → Int64 → Int32 → Prop} (hK7 : ∀ (u : St) (x1 : Int64) (x3 : Int32), K7 u x1 x3 → Z X (wC ad cs u) 7 [(0, .ref (ad 1)), (1, .long x1), (3, .int x3)] []) (u : St) (x1 : Int64) (x3 : Int32) (hw : wp_X3_letNamed_7s K7 u x1 x3 post) : Z X (wC ad cs u) 7 [(0, .ref (ad 1)), (1, .long x1), (3, .int x3)] [] := by
  unfold wp_X3_letNamed_7s at hw
  refine z_iload_n C.1 dX3_letNamed_7 rfl 2 rfl ?_
  refine z_if_lt (tgt := 74) C.1 dX3_letNamed_8 (by decide) (fun c2 => ?_) (fun c2 => ?_)
  · replace hw := hw.1 c2
    refine z_iconst (v := (-1)) C.1 dX3_letNamed_74 (by decide) ?_
    exact hR _ _ _ _ dX3_letNamed_75 hw
  · replace hw := hw.2 c2
    refine z_aload_n C.1 dX3_letNamed_11 rfl 0 rfl ?_
    refine gC_1_open C mF_X3_34 dX3_letNamed_12 ?_
    refine z_iload_n C.1 dX3_letNamed_15 rfl 2 rfl ?_
    refine lC_13 C hw.1 dX3_letNamed_16 ?_
    replace hw := hw.2
    refine z_topi (fun v3 ev3 => ?_)
    replace hw := hw v3 ev3
    refine z_istore (lv' := [(4, .int v3), (0, .ref (ad 1)), (1, .long x1), (3, .int x3)]) C.1 dX3_letNamed_17 (by rw [hn]; decide) rfl ?_
    refine z_iload C.1 dX3_letNamed_19 0 rfl ?_
    refine z_if_lt (tgt := 68) C.1 dX3_letNamed_21 (by decide) (fun c4 => ?_) (fun c4 => ?_)
    · replace hw := hw.1 c4
      refine z_lv [1, 2, 3] rfl ?_
      exact z_X3_letNamed_68 C hn hR hK7 _ _ _ hw
    · replace hw := hw.2 c4
      refine z_aload_n C.1 dX3_letNamed_24 rfl 1 rfl ?_
      refine gC_1_program C mF_X3_38 dX3_letNamed_25 ?_
      refine gC_3_kind C mF_X3_207 dX3_letNamed_28 ?_
      refine z_iload C.1 dX3_letNamed_31 0 rfl ?_
      refine lC_18 C hw.1 dX3_letNamed_33 ?_
      replace hw := hw.2
      refine z_bipush (v := 6) C.1 dX3_letNamed_34 (by decide) ?_
      refine z_icmp_ne (tgt := 68) C.1 dX3_letNamed_36 (by decide) (fun c5 => ?_) (fun c5 => ?_)
      · replace hw := hw.2 c5
        refine z_lv [1, 2, 3] rfl ?_
        exact z_X3_letNamed_68 C hn hR hK7 _ _ _ hw
      · replace hw := hw.1 c5
        refine z_aload_n C.1 dX3_letNamed_39 rfl 1 rfl ?_
        refine gC_1_program C mF_X3_38 dX3_letNamed_40 ?_
        refine gC_3_children C mF_X3_209 dX3_letNamed_43 ?_
        refine z_iload C.1 dX3_letNamed_46 0 rfl ?_
        refine lC_20 C hw.1 dX3_letNamed_48 ?_
        replace hw := hw.2
        refine z_iconst (v := 1) C.1 dX3_letNamed_49 (by decide) ?_
        refine z_icmp_ne (tgt := 68) C.1 dX3_letNamed_50 (by decide) (fun c6 => ?_) (fun c6 => ?_)
        · replace hw := hw.2 c6
          refine z_lv [1, 2, 3] rfl ?_
          exact z_X3_letNamed_68 C hn hR hK7 _ _ _ hw
        · replace hw := hw.1 c6
          refine z_aload_n C.1 dX3_letNamed_53 rfl 1 rfl ?_
          refine gC_1_partNames C mF_X3_27 dX3_letNamed_54 ?_
          refine z_iload C.1 dX3_letNamed_57 0 rfl ?_
          refine lC_11 C hw.1 dX3_letNamed_59 ?_
          replace hw := hw.2
          refine z_lload_n C.1 dX3_letNamed_60 rfl 2 rfl ?_
          refine z_lcmp C.1 dX3_letNamed_61 ?_
          refine z_if_ne (tgt := 68) C.1 dX3_letNamed_62 (by decide) (fun c7 => ?_) (fun c7 => ?_)
          · replace hw := hw.2 c7
            refine z_lv [1, 2, 3] rfl ?_
            exact z_X3_letNamed_68 C hn hR hK7 _ _ _ hw
          · replace hw := hw.1 c7
            refine z_iload C.1 dX3_letNamed_65 0 rfl ?_
            exact hR _ _ _ _ dX3_letNamed_67 hw
theorem z_X3_letNamed_7 {X : XX} {ad : Nat → Nat} {cs : Nat → ClassId} {post : Int32 → St → Prop} (C : CxC X ad cs cX3_letNamed RX3 0 0) (hn : xnL X = 5) (hR : rtI X cX3_letNamed (wC ad cs) post) : ∀ (n : Nat) (u : St) (x1 : Int64) (x3 : Int32), wp_X3_letNamed_7 post n u x1 x3 → Z X (wC ad cs u) 7 [(0, .ref (ad 1)), (1, .long x1), (3, .int x3)] []
  | 0, _, _, _, hw => absurd hw (fun h => h)
  | n + 1, u, x1, x3, hw => z_X3_letNamed_7s C hn hR (z_X3_letNamed_7 C hn hR n) u x1 x3 hw
def wp_X3_letNamed (u : St) (x1 : Int64) (post : Int32 → St → Prop) : Prop :=
  nm ((gI u 2) - 1) (fun v1 : Int32 => ∃ n, wp_X3_letNamed_7 post n u x1 v1)
set_option maxHeartbeats 4000000 in
set_option maxRecDepth 20000 in
theorem z_X3_letNamed {X : XX} {ad : Nat → Nat} {cs : Nat → ClassId} {post : Int32 → St → Prop} (C : CxC X ad cs cX3_letNamed RX3 0 0) (hn : xnL X = 5) (hR : rtI X cX3_letNamed (wC ad cs) post) (u : St) (x1 : Int64) (hw : wp_X3_letNamed u x1 post) : Z X (wC ad cs u) 0 [(0, .ref (ad 1)), (1, .long x1)] [] := by
  unfold wp_X3_letNamed at hw
  refine z_aload_n C.1 dX3_letNamed_0 rfl 0 rfl ?_
  refine gC_1_opened C mF_X3_109 dX3_letNamed_1 ?_
  refine z_iconst (v := 1) C.1 dX3_letNamed_4 (by decide) ?_
  refine z_isub C.1 dX3_letNamed_5 ?_
  refine z_topi (fun v1 ev1 => ?_)
  replace hw := hw v1 ev1
  refine z_istore_n (lv' := [(3, .int v1), (0, .ref (ad 1)), (1, .long x1)]) C.1 dX3_letNamed_6 rfl (by rw [hn]; decide) rfl ?_
  refine z_lv [1, 2, 0] rfl ?_
  obtain ⟨n, hw⟩ := hw
  exact z_X3_letNamed_7 C hn hR n _ _ _ hw
theorem c_X3_letNamed {l : Launch} {D : va_G} {A : Nat → Prop} {ad : Nat → Nat} {cs : Nat → ClassId} (hD : ∀ u : St, va_D A (wC ad cs u)) (u : St) (x1 : Int64) (post : Int32 → St → Prop) (hw : wp_X3_letNamed u x1 post) : MI (ad 90, ad 91) l yX3_letNamed cX3_letNamed 5 (some .int) (rmm 0 0) D (tysC cs) A (wC ad cs) u [.ref (ad 1), .long x1] post :=
  met_i (by decide) (Nat.le_of_ble_eq_true rfl) (fun X C _ _ ht hA hn hsg hR => z_X3_letNamed ⟨C, ht, fun u => by rw [hA]; exact hD u, hsg⟩ hn hR u x1 hw)
theorem k_X3_letNamed {X : XX} {ad : Nat → Nat} {cs : Nat → ClassId} {cc : ByteArray} {own : String} {fr lo pc : Nat} {lv : List (Nat × Value)} {st : List Value} {u : St} (C : CxC X ad cs cc own fr lo) {idx : Nat} {x1 : Int64} {P : Int32 → St → Prop} (hlink : Cond.methodLink own idx yX3_letNamed ∈ W0) (hw : wp_X3_letNamed u x1 P) (hr : 0 + 1 ≤ fr ∧ 8 + (5 + 11) + 0 ≤ lo) (hst : (st.map fun v => v.category).sum ≤ 8) (hdg : decode cc pc = .ok (.invokevirtual idx, 3)) (k : ∀ (r : Int32) (u2 : St), P r u2 → Z X (wC ad cs u2) (pc + 3) lv (.int r :: st)) : Z X (wC ad cs u) pc lv (.long x1 :: .ref (ad 1) :: st) :=
  z_callVi (wf := wC ad cs) (As := [.long x1]) (rest := st) C.1 1 (q0 := 1) mI_X3_letNamed mS_X3_letNamed rfl rfl (by rw [C.2.1, C.2.2.2]; exact c_X3_letNamed C.2.2.1 u x1 P hw) mC_X3_letNamed mZ_X3 (by decide +kernel) rfl hlink hr hst hdg k

def wp_X3_argumentNamed_2s (K2 : St → Int64 → Int32 → Prop) (u : St) (x1 : Int64) (x3 : Int32) (post : Int32 → St → Prop) : Prop :=
  (vp_in (gI u 1) 12 ∧ br ((gA u 15 (ix (gI u 1))) ≤ x3) (post (-1) u) ((vp_in x3 6 ∧ br ((lg_cmp (gB u 10 (ix x3)) x1) = 0) (post x3 u) (nm (x3 + 1) (fun v3 : Int32 => K2 u x1 v3)))))
def wp_X3_argumentNamed_2 (post : Int32 → St → Prop) : Nat → St → Int64 → Int32 → Prop
  | 0 => fun _ _ _ => False
  | n + 1 => fun u x1 x3 => wp_X3_argumentNamed_2s (wp_X3_argumentNamed_2 post n) u x1 x3 post
set_option maxHeartbeats 4000000 in
set_option maxRecDepth 20000 in
theorem z_X3_argumentNamed_2s {X : XX} {ad : Nat → Nat} {cs : Nat → ClassId} {post : Int32 → St → Prop} (C : CxC X ad cs cX3_argumentNamed RX3 0 0) (hn : xnL X = 4) (hR : rtI X cX3_argumentNamed (wC ad cs) post) {K2 : St → Int64 → Int32 → Prop} (hK2 : ∀ (u : St) (x1 : Int64) (x3 : Int32), K2 u x1 x3 → Z X (wC ad cs u) 2 [(0, .ref (ad 1)), (1, .long x1), (3, .int x3)] []) (u : St) (x1 : Int64) (x3 : Int32) (hw : wp_X3_argumentNamed_2s K2 u x1 x3 post) : Z X (wC ad cs u) 2 [(0, .ref (ad 1)), (1, .long x1), (3, .int x3)] [] := by
  unfold wp_X3_argumentNamed_2s at hw
  refine z_iload_n C.1 dX3_argumentNamed_2 rfl 2 rfl ?_
  refine z_aload_n C.1 dX3_argumentNamed_3 rfl 0 rfl ?_
  refine gC_1_program C mF_X3_38 dX3_argumentNamed_4 ?_
  refine gC_3_arguments C mF_X3_103 dX3_argumentNamed_7 ?_
  refine z_aload_n C.1 dX3_argumentNamed_10 rfl 0 rfl ?_
  refine gC_1_current C mF_X3_92 dX3_argumentNamed_11 ?_
  refine lC_15 C hw.1 dX3_argumentNamed_14 ?_
  replace hw := hw.2
  refine z_icmp_ge (tgt := 37) C.1 dX3_argumentNamed_15 (by decide) (fun c1 => ?_) (fun c1 => ?_)
  · replace hw := hw.1 c1
    refine z_iconst (v := (-1)) C.1 dX3_argumentNamed_37 (by decide) ?_
    exact hR _ _ _ _ dX3_argumentNamed_38 hw
  · replace hw := hw.2 c1
    refine z_aload_n C.1 dX3_argumentNamed_18 rfl 0 rfl ?_
    refine gC_1_argumentNames C mF_X3_24 dX3_argumentNamed_19 ?_
    refine z_iload_n C.1 dX3_argumentNamed_22 rfl 2 rfl ?_
    refine lC_10 C hw.1 dX3_argumentNamed_23 ?_
    replace hw := hw.2
    refine z_lload_n C.1 dX3_argumentNamed_24 rfl 1 rfl ?_
    refine z_lcmp C.1 dX3_argumentNamed_25 ?_
    refine z_if_ne (tgt := 31) C.1 dX3_argumentNamed_26 (by decide) (fun c2 => ?_) (fun c2 => ?_)
    · replace hw := hw.2 c2
      obtain ⟨v3, ev3⟩ : ∃ z : Int32, z = x3 + 1 := ⟨_, rfl⟩
      replace hw := hw v3 ev3
      refine z_iinc (v := v3) (lv' := [(3, .int v3), (0, .ref (ad 1)), (1, .long x1)]) C.1 (j := 2) dX3_argumentNamed_31 rfl (by rw [ev3]; rfl) (by rw [hn]; decide) rfl ?_
      refine z_goto (tgt := 2) C.1 dX3_argumentNamed_34 (by decide) ?_
      refine z_lv [1, 2, 0] rfl ?_
      exact hK2 _ _ _ hw
    · replace hw := hw.1 c2
      refine z_iload_n C.1 dX3_argumentNamed_29 rfl 2 rfl ?_
      exact hR _ _ _ _ dX3_argumentNamed_30 hw
theorem z_X3_argumentNamed_2 {X : XX} {ad : Nat → Nat} {cs : Nat → ClassId} {post : Int32 → St → Prop} (C : CxC X ad cs cX3_argumentNamed RX3 0 0) (hn : xnL X = 4) (hR : rtI X cX3_argumentNamed (wC ad cs) post) : ∀ (n : Nat) (u : St) (x1 : Int64) (x3 : Int32), wp_X3_argumentNamed_2 post n u x1 x3 → Z X (wC ad cs u) 2 [(0, .ref (ad 1)), (1, .long x1), (3, .int x3)] []
  | 0, _, _, _, hw => absurd hw (fun h => h)
  | n + 1, u, x1, x3, hw => z_X3_argumentNamed_2s C hn hR (z_X3_argumentNamed_2 C hn hR n) u x1 x3 hw
def wp_X3_argumentNamed (u : St) (x1 : Int64) (post : Int32 → St → Prop) : Prop :=
  ∃ n, wp_X3_argumentNamed_2 post n u x1 0
set_option maxHeartbeats 4000000 in
set_option maxRecDepth 20000 in
theorem z_X3_argumentNamed {X : XX} {ad : Nat → Nat} {cs : Nat → ClassId} {post : Int32 → St → Prop} (C : CxC X ad cs cX3_argumentNamed RX3 0 0) (hn : xnL X = 4) (hR : rtI X cX3_argumentNamed (wC ad cs) post) (u : St) (x1 : Int64) (hw : wp_X3_argumentNamed u x1 post) : Z X (wC ad cs u) 0 [(0, .ref (ad 1)), (1, .long x1)] [] := by
  unfold wp_X3_argumentNamed at hw
  refine z_iconst (v := 0) C.1 dX3_argumentNamed_0 (by decide) ?_
  refine z_istore_n (lv' := [(3, .int 0), (0, .ref (ad 1)), (1, .long x1)]) C.1 dX3_argumentNamed_1 rfl (by rw [hn]; decide) rfl ?_
  refine z_lv [1, 2, 0] rfl ?_
  obtain ⟨n, hw⟩ := hw
  exact z_X3_argumentNamed_2 C hn hR n _ _ _ hw
theorem c_X3_argumentNamed {l : Launch} {D : va_G} {A : Nat → Prop} {ad : Nat → Nat} {cs : Nat → ClassId} (hD : ∀ u : St, va_D A (wC ad cs u)) (u : St) (x1 : Int64) (post : Int32 → St → Prop) (hw : wp_X3_argumentNamed u x1 post) : MI (ad 90, ad 91) l yX3_argumentNamed cX3_argumentNamed 4 (some .int) (rmm 0 0) D (tysC cs) A (wC ad cs) u [.ref (ad 1), .long x1] post :=
  met_i (by decide) (Nat.le_of_ble_eq_true rfl) (fun X C _ _ ht hA hn hsg hR => z_X3_argumentNamed ⟨C, ht, fun u => by rw [hA]; exact hD u, hsg⟩ hn hR u x1 hw)
theorem k_X3_argumentNamed {X : XX} {ad : Nat → Nat} {cs : Nat → ClassId} {cc : ByteArray} {own : String} {fr lo pc : Nat} {lv : List (Nat × Value)} {st : List Value} {u : St} (C : CxC X ad cs cc own fr lo) {idx : Nat} {x1 : Int64} {P : Int32 → St → Prop} (hlink : Cond.methodLink own idx yX3_argumentNamed ∈ W0) (hw : wp_X3_argumentNamed u x1 P) (hr : 0 + 1 ≤ fr ∧ 8 + (4 + 11) + 0 ≤ lo) (hst : (st.map fun v => v.category).sum ≤ 8) (hdg : decode cc pc = .ok (.invokevirtual idx, 3)) (k : ∀ (r : Int32) (u2 : St), P r u2 → Z X (wC ad cs u2) (pc + 3) lv (.int r :: st)) : Z X (wC ad cs u) pc lv (.long x1 :: .ref (ad 1) :: st) :=
  z_callVi (wf := wC ad cs) (As := [.long x1]) (rest := st) C.1 1 (q0 := 1) mI_X3_argumentNamed mS_X3_argumentNamed rfl rfl (by rw [C.2.1, C.2.2.2]; exact c_X3_argumentNamed C.2.2.1 u x1 P hw) mC_X3_argumentNamed mZ_X3 (by decide +kernel) rfl hlink hr hst hdg k

def wp_X3_takeName (u : St) (post : St → Prop) : Prop :=
  wp_X5_isParenthesisNext u (fun (r2 : Int32) (u1 : St) => br (r2 = 0) (wp_X3_letNamed u1 (gL u1 0) (fun (r5 : Int32) (u4 : St) => wp_X3_argumentNamed u4 (gL u4 0) (fun (r7 : Int32) (u6 : St) => br (r5 = (-1)) (br (r7 = (-1)) (wp_X3_fail u6 (fun (u10 : St) => post u10)) (wp_X3_addLeaf u6 2 r7 (fun (u11 : St) => post u11))) (wp_X3_addLeaf u6 3 r5 (fun (u12 : St) => post u12))))) (wp_X3_beginPart u1 7 8 (fun (r14 : Int32) (u13 : St) => wp_X3_keepName u13 r14 (fun (u15 : St) => post u15))))
set_option maxHeartbeats 4000000 in
set_option maxRecDepth 20000 in
theorem z_X3_takeName {X : XX} {ad : Nat → Nat} {cs : Nat → ClassId} {post : St → Prop} (C : CxC X ad cs cX3_takeName RX3 2 47) (hn : xnL X = 3) (hR : rtV X cX3_takeName (wC ad cs) post) (u : St) (hw : wp_X3_takeName u post) : Z X (wC ad cs u) 0 [(0, .ref (ad 1))] [] := by
  unfold wp_X3_takeName at hw
  refine z_aload_n C.1 dX3_takeName_0 rfl 0 rfl ?_
  refine gC_1_tape C mF_X3_16 dX3_takeName_1 ?_
  refine k_X5_isParenthesisNext C mM_X3_144 hw (by decide) (Nat.le_of_ble_eq_true rfl) dX3_takeName_4 (fun r2 u1 hw => ?_)
  refine z_if_eq (tgt := 25) C.1 dX3_takeName_7 (by decide) (fun c3 => ?_) (fun c3 => ?_)
  · replace hw := hw.1 c3
    refine z_aload_n C.1 dX3_takeName_25 rfl 0 rfl ?_
    refine z_aload_n C.1 dX3_takeName_26 rfl 0 rfl ?_
    refine gC_1_tape C mF_X3_16 dX3_takeName_27 ?_
    refine gC_2_name C mF_X3_95 dX3_takeName_30 ?_
    refine k_X3_letNamed C mM_X3_152 hw (by decide) (Nat.le_of_ble_eq_true rfl) dX3_takeName_33 (fun r5 u4 hw => ?_)
    refine z_istore_n (lv' := [(1, .int r5), (0, .ref (ad 1))]) C.1 dX3_takeName_36 rfl (by rw [hn]; decide) rfl ?_
    refine z_aload_n C.1 dX3_takeName_37 rfl 1 rfl ?_
    refine z_aload_n C.1 dX3_takeName_38 rfl 1 rfl ?_
    refine gC_1_tape C mF_X3_16 dX3_takeName_39 ?_
    refine gC_2_name C mF_X3_95 dX3_takeName_42 ?_
    refine k_X3_argumentNamed C mM_X3_118 hw (by decide) (Nat.le_of_ble_eq_true rfl) dX3_takeName_45 (fun r7 u6 hw => ?_)
    refine z_istore_n (lv' := [(2, .int r7), (1, .int r5), (0, .ref (ad 1))]) C.1 dX3_takeName_48 rfl (by rw [hn]; decide) rfl ?_
    refine z_iload_n C.1 dX3_takeName_49 rfl 1 rfl ?_
    refine z_iconst (v := (-1)) C.1 dX3_takeName_50 (by decide) ?_
    refine z_icmp_eq (tgt := 63) C.1 dX3_takeName_51 (by decide) (fun c8 => ?_) (fun c8 => ?_)
    · replace hw := hw.1 c8
      refine z_iload_n C.1 dX3_takeName_63 rfl 0 rfl ?_
      refine z_iconst (v := (-1)) C.1 dX3_takeName_64 (by decide) ?_
      refine z_icmp_eq (tgt := 77) C.1 dX3_takeName_65 (by decide) (fun c9 => ?_) (fun c9 => ?_)
      · replace hw := hw.1 c9
        refine z_aload_n C.1 dX3_takeName_77 rfl 2 rfl ?_
        refine k_X3_fail C mM_X3_76 hw (by decide) (Nat.le_of_ble_eq_true rfl) dX3_takeName_78 (fun u10 hw => ?_)
        exact hR _ _ _ dX3_takeName_81 hw
      · replace hw := hw.2 c9
        refine z_aload_n C.1 dX3_takeName_68 rfl 2 rfl ?_
        refine z_iconst (v := 2) C.1 dX3_takeName_69 (by decide) ?_
        refine z_iload_n C.1 dX3_takeName_70 rfl 0 rfl ?_
        refine k_X3_addLeaf C mM_X3_128 hw (by decide) (Nat.le_of_ble_eq_true rfl) dX3_takeName_71 (fun u11 hw => ?_)
        refine z_goto (tgt := 81) C.1 dX3_takeName_74 (by decide) ?_
        exact hR _ _ _ dX3_takeName_81 hw
    · replace hw := hw.2 c8
      refine z_aload_n C.1 dX3_takeName_54 rfl 2 rfl ?_
      refine z_iconst (v := 3) C.1 dX3_takeName_55 (by decide) ?_
      refine z_iload_n C.1 dX3_takeName_56 rfl 1 rfl ?_
      refine k_X3_addLeaf C mM_X3_128 hw (by decide) (Nat.le_of_ble_eq_true rfl) dX3_takeName_57 (fun u12 hw => ?_)
      refine z_goto (tgt := 81) C.1 dX3_takeName_60 (by decide) ?_
      exact hR _ _ _ dX3_takeName_81 hw
  · replace hw := hw.2 c3
    refine z_aload_n C.1 dX3_takeName_10 rfl 0 rfl ?_
    refine z_bipush (v := 7) C.1 dX3_takeName_11 (by decide) ?_
    refine z_bipush (v := 8) C.1 dX3_takeName_13 (by decide) ?_
    refine k_X3_beginPart C mM_X3_134 hw (by decide) (Nat.le_of_ble_eq_true rfl) dX3_takeName_15 (fun r14 u13 hw => ?_)
    refine z_istore_n (lv' := [(1, .int r14), (0, .ref (ad 1))]) C.1 dX3_takeName_18 rfl (by rw [hn]; decide) rfl ?_
    refine z_aload_n C.1 dX3_takeName_19 rfl 1 rfl ?_
    refine z_iload_n C.1 dX3_takeName_20 rfl 0 rfl ?_
    refine k_X3_keepName C mM_X3_148 hw (by decide) (Nat.le_of_ble_eq_true rfl) dX3_takeName_21 (fun u15 hw => ?_)
    exact hR _ _ _ dX3_takeName_24 hw
theorem c_X3_takeName {l : Launch} {D : va_G} {A : Nat → Prop} {ad : Nat → Nat} {cs : Nat → ClassId} (hD : ∀ u : St, va_D A (wC ad cs u)) (u : St) (post : St → Prop) (hw : wp_X3_takeName u post) : MV (ad 90, ad 91) l yX3_takeName cX3_takeName 3 none (rmm 2 47) D (tysC cs) A (wC ad cs) u [.ref (ad 1)] post :=
  met_v (by decide) (Nat.le_of_ble_eq_true rfl) (fun X C _ _ ht hA hn hsg hR => z_X3_takeName ⟨C, ht, fun u => by rw [hA]; exact hD u, hsg⟩ hn hR u hw)
theorem k_X3_takeName {X : XX} {ad : Nat → Nat} {cs : Nat → ClassId} {cc : ByteArray} {own : String} {fr lo pc : Nat} {lv : List (Nat × Value)} {st : List Value} {u : St} (C : CxC X ad cs cc own fr lo) {idx : Nat} {P : St → Prop} (hlink : Cond.methodLink own idx yX3_takeName ∈ W0) (hw : wp_X3_takeName u P) (hr : 2 + 1 ≤ fr ∧ 8 + (3 + 11) + 47 ≤ lo) (hst : (st.map fun v => v.category).sum ≤ 8) (hdg : decode cc pc = .ok (.invokevirtual idx, 3)) (k : ∀ (u2 : St), P u2 → Z X (wC ad cs u2) (pc + 3) lv st) : Z X (wC ad cs u) pc lv (.ref (ad 1) :: st) :=
  z_callVv (wf := wC ad cs) (As := []) (rest := st) C.1 0 (q0 := 1) mI_X3_takeName mS_X3_takeName rfl rfl (by rw [C.2.1, C.2.2.2]; exact c_X3_takeName C.2.2.1 u P hw) mC_X3_takeName mZ_X3 (by decide +kernel) rfl hlink hr hst hdg k

def wp_X3_innermost (u : St) (post : Int32 → St → Prop) : Prop :=
  br ((gI u 2) ≤ 0) (post (-1) u) ((vp_in ((gI u 2) - 1) 81 ∧ post (gA u 13 (ix ((gI u 2) - 1))) u))
set_option maxHeartbeats 4000000 in
set_option maxRecDepth 20000 in
theorem z_X3_innermost {X : XX} {ad : Nat → Nat} {cs : Nat → ClassId} {post : Int32 → St → Prop} (C : CxC X ad cs cX3_innermost RX3 0 0) (hn : xnL X = 1) (hR : rtI X cX3_innermost (wC ad cs) post) (u : St) (hw : wp_X3_innermost u post) : Z X (wC ad cs u) 0 [(0, .ref (ad 1))] [] := by
  unfold wp_X3_innermost at hw
  refine z_aload_n C.1 dX3_innermost_0 rfl 0 rfl ?_
  refine gC_1_opened C mF_X3_109 dX3_innermost_1 ?_
  refine z_if_le (tgt := 21) C.1 dX3_innermost_4 (by decide) (fun c1 => ?_) (fun c1 => ?_)
  · replace hw := hw.1 c1
    refine z_iconst (v := (-1)) C.1 dX3_innermost_21 (by decide) ?_
    exact hR _ _ _ _ dX3_innermost_22 hw
  · replace hw := hw.2 c1
    refine z_aload_n C.1 dX3_innermost_7 rfl 0 rfl ?_
    refine gC_1_open C mF_X3_34 dX3_innermost_8 ?_
    refine z_aload_n C.1 dX3_innermost_11 rfl 0 rfl ?_
    refine gC_1_opened C mF_X3_109 dX3_innermost_12 ?_
    refine z_iconst (v := 1) C.1 dX3_innermost_15 (by decide) ?_
    refine z_isub C.1 dX3_innermost_16 ?_
    refine lC_13 C hw.1 dX3_innermost_17 ?_
    replace hw := hw.2
    refine z_goto (tgt := 22) C.1 dX3_innermost_18 (by decide) ?_
    exact hR _ _ _ _ dX3_innermost_22 hw
theorem c_X3_innermost {l : Launch} {D : va_G} {A : Nat → Prop} {ad : Nat → Nat} {cs : Nat → ClassId} (hD : ∀ u : St, va_D A (wC ad cs u)) (u : St) (post : Int32 → St → Prop) (hw : wp_X3_innermost u post) : MI (ad 90, ad 91) l yX3_innermost cX3_innermost 1 (some .int) (rmm 0 0) D (tysC cs) A (wC ad cs) u [.ref (ad 1)] post :=
  met_i (by decide) (Nat.le_of_ble_eq_true rfl) (fun X C _ _ ht hA hn hsg hR => z_X3_innermost ⟨C, ht, fun u => by rw [hA]; exact hD u, hsg⟩ hn hR u hw)
theorem k_X3_innermost {X : XX} {ad : Nat → Nat} {cs : Nat → ClassId} {cc : ByteArray} {own : String} {fr lo pc : Nat} {lv : List (Nat × Value)} {st : List Value} {u : St} (C : CxC X ad cs cc own fr lo) {idx : Nat} {P : Int32 → St → Prop} (hlink : Cond.methodLink own idx yX3_innermost ∈ W0) (hw : wp_X3_innermost u P) (hr : 0 + 1 ≤ fr ∧ 8 + (1 + 11) + 0 ≤ lo) (hst : (st.map fun v => v.category).sum ≤ 8) (hdg : decode cc pc = .ok (.invokevirtual idx, 3)) (k : ∀ (r : Int32) (u2 : St), P r u2 → Z X (wC ad cs u2) (pc + 3) lv (.int r :: st)) : Z X (wC ad cs u) pc lv (.ref (ad 1) :: st) :=
  z_callVi (wf := wC ad cs) (As := []) (rest := st) C.1 0 (q0 := 1) mI_X3_innermost mS_X3_innermost rfl rfl (by rw [C.2.1, C.2.2.2]; exact c_X3_innermost C.2.2.1 u P hw) mC_X3_innermost mZ_X3 (by decide +kernel) rfl hlink hr hst hdg k

def wp_X3_levelOfSign (u : St) (x0 : Int32) (post : Int32 → St → Prop) : Prop :=
  br (x0 = 37) (post 3 u) (br (x0 = 42) (post 3 u) (br (x0 = 43) (post 2 u) (br (x0 = 45) (post 2 u) (br (x0 = 47) (post 3 u) (br (x0 = 60) (post 1 u) (br (x0 = 61) (post 1 u) (br (x0 = 62) (post 1 u) (post 0 u))))))))
set_option maxHeartbeats 4000000 in
set_option maxRecDepth 20000 in
theorem z_X3_levelOfSign {X : XX} {ad : Nat → Nat} {cs : Nat → ClassId} {post : Int32 → St → Prop} (C : CxC X ad cs cX3_levelOfSign RX3 0 0) (hn : xnL X = 1) (hR : rtI X cX3_levelOfSign (wC ad cs) post) (u : St) (x0 : Int32) (hw : wp_X3_levelOfSign u x0 post) : Z X (wC ad cs u) 0 [(0, .int x0)] [] := by
  unfold wp_X3_levelOfSign at hw
  refine z_iload_n C.1 dX3_levelOfSign_0 rfl 0 rfl ?_
  by_cases c1 : x0 = 37
  · replace hw := hw.1 c1
    refine z_tabIn (tgt := 124) (off := 123) C.1 c1 dX3_levelOfSign_1 (by decide) (by decide) (by decide) (by decide) ?_
    refine z_iconst (v := 3) C.1 dX3_levelOfSign_124 (by decide) ?_
    exact hR _ _ _ _ dX3_levelOfSign_125 hw
  replace hw := hw.2 c1
  by_cases c2 : x0 = 42
  · replace hw := hw.1 c2
    refine z_tabIn (tgt := 124) (off := 123) C.1 c2 dX3_levelOfSign_1 (by decide) (by decide) (by decide) (by decide) ?_
    refine z_iconst (v := 3) C.1 dX3_levelOfSign_124 (by decide) ?_
    exact hR _ _ _ _ dX3_levelOfSign_125 hw
  replace hw := hw.2 c2
  by_cases c3 : x0 = 43
  · replace hw := hw.1 c3
    refine z_tabIn (tgt := 122) (off := 121) C.1 c3 dX3_levelOfSign_1 (by decide) (by decide) (by decide) (by decide) ?_
    refine z_iconst (v := 2) C.1 dX3_levelOfSign_122 (by decide) ?_
    exact hR _ _ _ _ dX3_levelOfSign_123 hw
  replace hw := hw.2 c3
  by_cases c4 : x0 = 45
  · replace hw := hw.1 c4
    refine z_tabIn (tgt := 122) (off := 121) C.1 c4 dX3_levelOfSign_1 (by decide) (by decide) (by decide) (by decide) ?_
    refine z_iconst (v := 2) C.1 dX3_levelOfSign_122 (by decide) ?_
    exact hR _ _ _ _ dX3_levelOfSign_123 hw
  replace hw := hw.2 c4
  by_cases c5 : x0 = 47
  · replace hw := hw.1 c5
    refine z_tabIn (tgt := 124) (off := 123) C.1 c5 dX3_levelOfSign_1 (by decide) (by decide) (by decide) (by decide) ?_
    refine z_iconst (v := 3) C.1 dX3_levelOfSign_124 (by decide) ?_
    exact hR _ _ _ _ dX3_levelOfSign_125 hw
  replace hw := hw.2 c5
  by_cases c6 : x0 = 60
  · replace hw := hw.1 c6
    refine z_tabIn (tgt := 120) (off := 119) C.1 c6 dX3_levelOfSign_1 (by decide) (by decide) (by decide) (by decide) ?_
    refine z_iconst (v := 1) C.1 dX3_levelOfSign_120 (by decide) ?_
    exact hR _ _ _ _ dX3_levelOfSign_121 hw
  replace hw := hw.2 c6
  by_cases c7 : x0 = 61
  · replace hw := hw.1 c7
    refine z_tabIn (tgt := 120) (off := 119) C.1 c7 dX3_levelOfSign_1 (by decide) (by decide) (by decide) (by decide) ?_
    refine z_iconst (v := 1) C.1 dX3_levelOfSign_120 (by decide) ?_
    exact hR _ _ _ _ dX3_levelOfSign_121 hw
  replace hw := hw.2 c7
  by_cases c8 : x0 = 62
  · replace hw := hw.1 c8
    refine z_tabIn (tgt := 120) (off := 119) C.1 c8 dX3_levelOfSign_1 (by decide) (by decide) (by decide) (by decide) ?_
    refine z_iconst (v := 1) C.1 dX3_levelOfSign_120 (by decide) ?_
    exact hR _ _ _ _ dX3_levelOfSign_121 hw
  replace hw := hw.2 c8
  have hdf : Z X (wC ad cs u) 126 [(0, .int x0)] [] := by
    refine z_iconst (v := 0) C.1 dX3_levelOfSign_126 (by decide) ?_
    exact hR _ _ _ _ dX3_levelOfSign_127 hw
  by_cases c9 : x0 = 38
  · exact z_tabIn (tgt := 126) (off := 125) C.1 c9 dX3_levelOfSign_1 (by decide) (by decide) (by decide) (by decide) hdf
  by_cases c10 : x0 = 39
  · exact z_tabIn (tgt := 126) (off := 125) C.1 c10 dX3_levelOfSign_1 (by decide) (by decide) (by decide) (by decide) hdf
  by_cases c11 : x0 = 40
  · exact z_tabIn (tgt := 126) (off := 125) C.1 c11 dX3_levelOfSign_1 (by decide) (by decide) (by decide) (by decide) hdf
  by_cases c12 : x0 = 41
  · exact z_tabIn (tgt := 126) (off := 125) C.1 c12 dX3_levelOfSign_1 (by decide) (by decide) (by decide) (by decide) hdf
  by_cases c13 : x0 = 44
  · exact z_tabIn (tgt := 126) (off := 125) C.1 c13 dX3_levelOfSign_1 (by decide) (by decide) (by decide) (by decide) hdf
  by_cases c14 : x0 = 46
  · exact z_tabIn (tgt := 126) (off := 125) C.1 c14 dX3_levelOfSign_1 (by decide) (by decide) (by decide) (by decide) hdf
  by_cases c15 : x0 = 48
  · exact z_tabIn (tgt := 126) (off := 125) C.1 c15 dX3_levelOfSign_1 (by decide) (by decide) (by decide) (by decide) hdf
  by_cases c16 : x0 = 49
  · exact z_tabIn (tgt := 126) (off := 125) C.1 c16 dX3_levelOfSign_1 (by decide) (by decide) (by decide) (by decide) hdf
  by_cases c17 : x0 = 50
  · exact z_tabIn (tgt := 126) (off := 125) C.1 c17 dX3_levelOfSign_1 (by decide) (by decide) (by decide) (by decide) hdf
  by_cases c18 : x0 = 51
  · exact z_tabIn (tgt := 126) (off := 125) C.1 c18 dX3_levelOfSign_1 (by decide) (by decide) (by decide) (by decide) hdf
  by_cases c19 : x0 = 52
  · exact z_tabIn (tgt := 126) (off := 125) C.1 c19 dX3_levelOfSign_1 (by decide) (by decide) (by decide) (by decide) hdf
  by_cases c20 : x0 = 53
  · exact z_tabIn (tgt := 126) (off := 125) C.1 c20 dX3_levelOfSign_1 (by decide) (by decide) (by decide) (by decide) hdf
  by_cases c21 : x0 = 54
  · exact z_tabIn (tgt := 126) (off := 125) C.1 c21 dX3_levelOfSign_1 (by decide) (by decide) (by decide) (by decide) hdf
  by_cases c22 : x0 = 55
  · exact z_tabIn (tgt := 126) (off := 125) C.1 c22 dX3_levelOfSign_1 (by decide) (by decide) (by decide) (by decide) hdf
  by_cases c23 : x0 = 56
  · exact z_tabIn (tgt := 126) (off := 125) C.1 c23 dX3_levelOfSign_1 (by decide) (by decide) (by decide) (by decide) hdf
  by_cases c24 : x0 = 57
  · exact z_tabIn (tgt := 126) (off := 125) C.1 c24 dX3_levelOfSign_1 (by decide) (by decide) (by decide) (by decide) hdf
  by_cases c25 : x0 = 58
  · exact z_tabIn (tgt := 126) (off := 125) C.1 c25 dX3_levelOfSign_1 (by decide) (by decide) (by decide) (by decide) hdf
  by_cases c26 : x0 = 59
  · exact z_tabIn (tgt := 126) (off := 125) C.1 c26 dX3_levelOfSign_1 (by decide) (by decide) (by decide) (by decide) hdf
  replace c1 := lv_neT c1 (a := 37) (by decide)
  replace c2 := lv_neT c2 (a := 42) (by decide)
  replace c3 := lv_neT c3 (a := 43) (by decide)
  replace c4 := lv_neT c4 (a := 45) (by decide)
  replace c5 := lv_neT c5 (a := 47) (by decide)
  replace c6 := lv_neT c6 (a := 60) (by decide)
  replace c7 := lv_neT c7 (a := 61) (by decide)
  replace c8 := lv_neT c8 (a := 62) (by decide)
  replace c9 := lv_neT c9 (a := 38) (by decide)
  replace c10 := lv_neT c10 (a := 39) (by decide)
  replace c11 := lv_neT c11 (a := 40) (by decide)
  replace c12 := lv_neT c12 (a := 41) (by decide)
  replace c13 := lv_neT c13 (a := 44) (by decide)
  replace c14 := lv_neT c14 (a := 46) (by decide)
  replace c15 := lv_neT c15 (a := 48) (by decide)
  replace c16 := lv_neT c16 (a := 49) (by decide)
  replace c17 := lv_neT c17 (a := 50) (by decide)
  replace c18 := lv_neT c18 (a := 51) (by decide)
  replace c19 := lv_neT c19 (a := 52) (by decide)
  replace c20 := lv_neT c20 (a := 53) (by decide)
  replace c21 := lv_neT c21 (a := 54) (by decide)
  replace c22 := lv_neT c22 (a := 55) (by decide)
  replace c23 := lv_neT c23 (a := 56) (by decide)
  replace c24 := lv_neT c24 (a := 57) (by decide)
  replace c25 := lv_neT c25 (a := 58) (by decide)
  replace c26 := lv_neT c26 (a := 59) (by decide)
  exact z_tabOut (tgt := 126) C.1 dX3_levelOfSign_1 (by omega) (by decide) hdf
theorem c_X3_levelOfSign {l : Launch} {D : va_G} {A : Nat → Prop} {ad : Nat → Nat} {cs : Nat → ClassId} (hD : ∀ u : St, va_D A (wC ad cs u)) (u : St) (x0 : Int32) (post : Int32 → St → Prop) (hw : wp_X3_levelOfSign u x0 post) : MI (ad 90, ad 91) l yX3_levelOfSign cX3_levelOfSign 1 (some .int) (rmm 0 0) D (tysC cs) A (wC ad cs) u [.int x0] post :=
  met_i (by decide) (Nat.le_of_ble_eq_true rfl) (fun X C _ _ ht hA hn hsg hR => z_X3_levelOfSign ⟨C, ht, fun u => by rw [hA]; exact hD u, hsg⟩ hn hR u x0 hw)
theorem k_X3_levelOfSign {X : XX} {ad : Nat → Nat} {cs : Nat → ClassId} {cc : ByteArray} {own : String} {fr lo pc : Nat} {lv : List (Nat × Value)} {st : List Value} {u : St} (C : CxC X ad cs cc own fr lo) {idx : Nat} {x0 : Int32} {P : Int32 → St → Prop} (hlink : Cond.methodLink own idx yX3_levelOfSign ∈ W0) (hw : wp_X3_levelOfSign u x0 P) (hr : 0 + 1 ≤ fr ∧ 8 + (1 + 11) + 0 ≤ lo) (hst : (st.map fun v => v.category).sum ≤ 8) (hdg : decode cc pc = .ok (.invokestatic idx, 3)) (k : ∀ (r : Int32) (u2 : St), P r u2 → Z X (wC ad cs u2) (pc + 3) lv (.int r :: st)) : Z X (wC ad cs u) pc lv (.int x0 :: st) :=
  z_callSi (wf := wC ad cs) (As := [.int x0]) (rest := st) C.1 1 mT_X3_levelOfSign (by rw [C.2.1, C.2.2.2]; exact c_X3_levelOfSign C.2.2.1 u x0 P hw) mC_X3_levelOfSign mZ_X3 (by decide +kernel) rfl hlink hr hst hdg k

def wp_X3_levelOf (u : St) (x1 : Int32) (post : Int32 → St → Prop) : Prop :=
  br (0 ≤ x1) ((vp_in x1 720 ∧ nm (gA u 18 (ix x1)) (fun v2 : Int32 => br (v2 = 4) (post 4 u) (wp_X3_levelOfSign u v2 (fun (r5 : Int32) (u4 : St) => post r5 u4))))) (post 0 u)
set_option maxHeartbeats 4000000 in
set_option maxRecDepth 20000 in
theorem z_X3_levelOf {X : XX} {ad : Nat → Nat} {cs : Nat → ClassId} {post : Int32 → St → Prop} (C : CxC X ad cs cX3_levelOf RX3 1 20) (hn : xnL X = 3) (hR : rtI X cX3_levelOf (wC ad cs) post) (u : St) (x1 : Int32) (hw : wp_X3_levelOf u x1 post) : Z X (wC ad cs u) 0 [(0, .ref (ad 1)), (1, .int x1)] [] := by
  unfold wp_X3_levelOf at hw
  refine z_iload_n C.1 dX3_levelOf_0 rfl 1 rfl ?_
  refine z_if_ge (tgt := 6) C.1 dX3_levelOf_1 (by decide) (fun c1 => ?_) (fun c1 => ?_)
  · replace hw := hw.1 c1
    refine z_aload_n C.1 dX3_levelOf_6 rfl 0 rfl ?_
    refine gC_1_program C mF_X3_38 dX3_levelOf_7 ?_
    refine gC_3_kind C mF_X3_207 dX3_levelOf_10 ?_
    refine z_iload_n C.1 dX3_levelOf_13 rfl 1 rfl ?_
    refine lC_18 C hw.1 dX3_levelOf_14 ?_
    replace hw := hw.2
    refine z_topi (fun v2 ev2 => ?_)
    replace hw := hw v2 ev2
    refine z_istore_n (lv' := [(2, .int v2), (0, .ref (ad 1)), (1, .int x1)]) C.1 dX3_levelOf_15 rfl (by rw [hn]; decide) rfl ?_
    refine z_iload_n C.1 dX3_levelOf_16 rfl 0 rfl ?_
    refine z_iconst (v := 4) C.1 dX3_levelOf_17 (by decide) ?_
    refine z_icmp_ne (tgt := 25) C.1 dX3_levelOf_18 (by decide) (fun c3 => ?_) (fun c3 => ?_)
    · replace hw := hw.2 c3
      refine z_iload_n C.1 dX3_levelOf_25 rfl 0 rfl ?_
      refine k_X3_levelOfSign C mM_X3_166 hw (by decide) (Nat.le_of_ble_eq_true rfl) dX3_levelOf_26 (fun r5 u4 hw => ?_)
      exact hR _ _ _ _ dX3_levelOf_29 hw
    · replace hw := hw.1 c3
      refine z_iconst (v := 4) C.1 dX3_levelOf_21 (by decide) ?_
      refine z_goto (tgt := 29) C.1 dX3_levelOf_22 (by decide) ?_
      exact hR _ _ _ _ dX3_levelOf_29 hw
  · replace hw := hw.2 c1
    refine z_iconst (v := 0) C.1 dX3_levelOf_4 (by decide) ?_
    exact hR _ _ _ _ dX3_levelOf_5 hw
theorem c_X3_levelOf {l : Launch} {D : va_G} {A : Nat → Prop} {ad : Nat → Nat} {cs : Nat → ClassId} (hD : ∀ u : St, va_D A (wC ad cs u)) (u : St) (x1 : Int32) (post : Int32 → St → Prop) (hw : wp_X3_levelOf u x1 post) : MI (ad 90, ad 91) l yX3_levelOf cX3_levelOf 3 (some .int) (rmm 1 20) D (tysC cs) A (wC ad cs) u [.ref (ad 1), .int x1] post :=
  met_i (by decide) (Nat.le_of_ble_eq_true rfl) (fun X C _ _ ht hA hn hsg hR => z_X3_levelOf ⟨C, ht, fun u => by rw [hA]; exact hD u, hsg⟩ hn hR u x1 hw)
theorem k_X3_levelOf {X : XX} {ad : Nat → Nat} {cs : Nat → ClassId} {cc : ByteArray} {own : String} {fr lo pc : Nat} {lv : List (Nat × Value)} {st : List Value} {u : St} (C : CxC X ad cs cc own fr lo) {idx : Nat} {x1 : Int32} {P : Int32 → St → Prop} (hlink : Cond.methodLink own idx yX3_levelOf ∈ W0) (hw : wp_X3_levelOf u x1 P) (hr : 1 + 1 ≤ fr ∧ 8 + (3 + 11) + 20 ≤ lo) (hst : (st.map fun v => v.category).sum ≤ 8) (hdg : decode cc pc = .ok (.invokevirtual idx, 3)) (k : ∀ (r : Int32) (u2 : St), P r u2 → Z X (wC ad cs u2) (pc + 3) lv (.int r :: st)) : Z X (wC ad cs u) pc lv (.int x1 :: .ref (ad 1) :: st) :=
  z_callVi (wf := wC ad cs) (As := [.int x1]) (rest := st) C.1 1 (q0 := 1) mI_X3_levelOf mS_X3_levelOf rfl rfl (by rw [C.2.1, C.2.2.2]; exact c_X3_levelOf C.2.2.1 u x1 P hw) mC_X3_levelOf mZ_X3 (by decide +kernel) rfl hlink hr hst hdg k

def wp_X3_takeIfOrLet_16 (u : St) (y0 : Int32) (post : St → Prop) : Prop :=
  br (y0 = 0) (br ((gI u 9) = 4) (wp_X3_beginPart u 5 6 (fun (r11 : Int32) (u10 : St) => post u10)) (wp_X3_beginPart u 6 13 (fun (r9 : Int32) (u8 : St) => post u8))) (wp_X3_fail u (fun (u12 : St) => post u12))
set_option maxHeartbeats 4000000 in
set_option maxRecDepth 20000 in
theorem z_X3_takeIfOrLet_16 {X : XX} {ad : Nat → Nat} {cs : Nat → ClassId} {post : St → Prop} (C : CxC X ad cs cX3_takeIfOrLet RX3 2 47) (hn : xnL X = 2) (hR : rtV X cX3_takeIfOrLet (wC ad cs) post) (u : St) (y0 : Int32) (hw : wp_X3_takeIfOrLet_16 u y0 post) : Z X (wC ad cs u) 16 [(0, .ref (ad 1))] [.int y0] := by
  unfold wp_X3_takeIfOrLet_16 at hw
  refine z_istore_n (lv' := [(1, .int y0), (0, .ref (ad 1))]) C.1 dX3_takeIfOrLet_16 rfl (by rw [hn]; decide) rfl ?_
  refine z_iload_n C.1 dX3_takeIfOrLet_17 rfl 0 rfl ?_
  refine z_if_eq (tgt := 28) C.1 dX3_takeIfOrLet_18 (by decide) (fun c6 => ?_) (fun c6 => ?_)
  · replace hw := hw.1 c6
    refine z_aload_n C.1 dX3_takeIfOrLet_28 rfl 1 rfl ?_
    refine gC_1_tape C mF_X3_16 dX3_takeIfOrLet_29 ?_
    refine gC_2_kind C mF_X3_58 dX3_takeIfOrLet_32 ?_
    refine z_iconst (v := 4) C.1 dX3_takeIfOrLet_35 (by decide) ?_
    refine z_icmp_ne (tgt := 50) C.1 dX3_takeIfOrLet_36 (by decide) (fun c7 => ?_) (fun c7 => ?_)
    · replace hw := hw.2 c7
      refine z_aload_n C.1 dX3_takeIfOrLet_50 rfl 1 rfl ?_
      refine z_bipush (v := 6) C.1 dX3_takeIfOrLet_51 (by decide) ?_
      refine z_bipush (v := 13) C.1 dX3_takeIfOrLet_53 (by decide) ?_
      refine k_X3_beginPart C mM_X3_134 hw (by decide) (Nat.le_of_ble_eq_true rfl) dX3_takeIfOrLet_55 (fun r9 u8 hw => ?_)
      refine z_pop C.1 dX3_takeIfOrLet_58 rfl ?_
      exact hR _ _ _ dX3_takeIfOrLet_59 hw
    · replace hw := hw.1 c7
      refine z_aload_n C.1 dX3_takeIfOrLet_39 rfl 1 rfl ?_
      refine z_iconst (v := 5) C.1 dX3_takeIfOrLet_40 (by decide) ?_
      refine z_bipush (v := 6) C.1 dX3_takeIfOrLet_41 (by decide) ?_
      refine k_X3_beginPart C mM_X3_134 hw (by decide) (Nat.le_of_ble_eq_true rfl) dX3_takeIfOrLet_43 (fun r11 u10 hw => ?_)
      refine z_pop C.1 dX3_takeIfOrLet_46 rfl ?_
      refine z_goto (tgt := 59) C.1 dX3_takeIfOrLet_47 (by decide) ?_
      exact hR _ _ _ dX3_takeIfOrLet_59 hw
  · replace hw := hw.2 c6
    refine z_aload_n C.1 dX3_takeIfOrLet_21 rfl 1 rfl ?_
    refine k_X3_fail C mM_X3_76 hw (by decide) (Nat.le_of_ble_eq_true rfl) dX3_takeIfOrLet_22 (fun u12 hw => ?_)
    refine z_goto (tgt := 59) C.1 dX3_takeIfOrLet_25 (by decide) ?_
    exact hR _ _ _ dX3_takeIfOrLet_59 hw
def wp_X3_takeIfOrLet (u : St) (post : St → Prop) : Prop :=
  wp_X3_innermost u (fun (r2 : Int32) (u1 : St) => wp_X3_levelOf u1 r2 (fun (r4 : Int32) (u3 : St) => br (r4 ≤ 0) (wp_X3_takeIfOrLet_16 u3 0 post) (wp_X3_takeIfOrLet_16 u3 1 post)))
set_option maxHeartbeats 4000000 in
set_option maxRecDepth 20000 in
theorem z_X3_takeIfOrLet {X : XX} {ad : Nat → Nat} {cs : Nat → ClassId} {post : St → Prop} (C : CxC X ad cs cX3_takeIfOrLet RX3 2 47) (hn : xnL X = 2) (hR : rtV X cX3_takeIfOrLet (wC ad cs) post) (u : St) (hw : wp_X3_takeIfOrLet u post) : Z X (wC ad cs u) 0 [(0, .ref (ad 1))] [] := by
  unfold wp_X3_takeIfOrLet at hw
  refine z_aload_n C.1 dX3_takeIfOrLet_0 rfl 0 rfl ?_
  refine z_aload_n C.1 dX3_takeIfOrLet_1 rfl 0 rfl ?_
  refine k_X3_innermost C mM_X3_155 hw (by decide) (Nat.le_of_ble_eq_true rfl) dX3_takeIfOrLet_2 (fun r2 u1 hw => ?_)
  refine k_X3_levelOf C mM_X3_159 hw (by decide) (Nat.le_of_ble_eq_true rfl) dX3_takeIfOrLet_5 (fun r4 u3 hw => ?_)
  refine z_if_le (tgt := 15) C.1 dX3_takeIfOrLet_8 (by decide) (fun c5 => ?_) (fun c5 => ?_)
  · replace hw := hw.1 c5
    refine z_iconst (v := 0) C.1 dX3_takeIfOrLet_15 (by decide) ?_
    refine z_lv [0] rfl ?_
    exact z_X3_takeIfOrLet_16 C hn hR _ _ hw
  · replace hw := hw.2 c5
    refine z_iconst (v := 1) C.1 dX3_takeIfOrLet_11 (by decide) ?_
    refine z_goto (tgt := 16) C.1 dX3_takeIfOrLet_12 (by decide) ?_
    refine z_lv [0] rfl ?_
    exact z_X3_takeIfOrLet_16 C hn hR _ _ hw
theorem c_X3_takeIfOrLet {l : Launch} {D : va_G} {A : Nat → Prop} {ad : Nat → Nat} {cs : Nat → ClassId} (hD : ∀ u : St, va_D A (wC ad cs u)) (u : St) (post : St → Prop) (hw : wp_X3_takeIfOrLet u post) : MV (ad 90, ad 91) l yX3_takeIfOrLet cX3_takeIfOrLet 2 none (rmm 2 47) D (tysC cs) A (wC ad cs) u [.ref (ad 1)] post :=
  met_v (by decide) (Nat.le_of_ble_eq_true rfl) (fun X C _ _ ht hA hn hsg hR => z_X3_takeIfOrLet ⟨C, ht, fun u => by rw [hA]; exact hD u, hsg⟩ hn hR u hw)
theorem k_X3_takeIfOrLet {X : XX} {ad : Nat → Nat} {cs : Nat → ClassId} {cc : ByteArray} {own : String} {fr lo pc : Nat} {lv : List (Nat × Value)} {st : List Value} {u : St} (C : CxC X ad cs cc own fr lo) {idx : Nat} {P : St → Prop} (hlink : Cond.methodLink own idx yX3_takeIfOrLet ∈ W0) (hw : wp_X3_takeIfOrLet u P) (hr : 2 + 1 ≤ fr ∧ 8 + (2 + 11) + 47 ≤ lo) (hst : (st.map fun v => v.category).sum ≤ 8) (hdg : decode cc pc = .ok (.invokevirtual idx, 3)) (k : ∀ (u2 : St), P u2 → Z X (wC ad cs u2) (pc + 3) lv st) : Z X (wC ad cs u) pc lv (.ref (ad 1) :: st) :=
  z_callVv (wf := wC ad cs) (As := []) (rest := st) C.1 0 (q0 := 1) mI_X3_takeIfOrLet mS_X3_takeIfOrLet rfl rfl (by rw [C.2.1, C.2.2.2]; exact c_X3_takeIfOrLet C.2.2.1 u P hw) mC_X3_takeIfOrLet mZ_X3 (by decide +kernel) rfl hlink hr hst hdg k

def wp_X3_takeParenthesis (u : St) (post : St → Prop) : Prop :=
  br ((gI u 3) = 20) (wp_X3_fail u (fun (u4 : St) => post u4)) (nm (sI u 3 ((gI u 3) + 1)) (fun u2 : St => wp_X3_begin u2 (-2) 6 (fun (u3 : St) => post u3)))
set_option maxHeartbeats 4000000 in
set_option maxRecDepth 20000 in
theorem z_X3_takeParenthesis {X : XX} {ad : Nat → Nat} {cs : Nat → ClassId} {post : St → Prop} (C : CxC X ad cs cX3_takeParenthesis RX3 1 22) (hn : xnL X = 1) (hR : rtV X cX3_takeParenthesis (wC ad cs) post) (u : St) (hw : wp_X3_takeParenthesis u post) : Z X (wC ad cs u) 0 [(0, .ref (ad 1))] [] := by
  unfold wp_X3_takeParenthesis at hw
  refine z_aload_n C.1 dX3_takeParenthesis_0 rfl 0 rfl ?_
  refine gC_1_parentheses C mF_X3_112 dX3_takeParenthesis_1 ?_
  refine z_bipush (v := 20) C.1 dX3_takeParenthesis_4 (by decide) ?_
  refine z_icmp_ne (tgt := 14) C.1 dX3_takeParenthesis_6 (by decide) (fun c1 => ?_) (fun c1 => ?_)
  · replace hw := hw.2 c1
    refine z_aload_n C.1 dX3_takeParenthesis_14 rfl 0 rfl ?_
    refine z_dup C.1 dX3_takeParenthesis_15 rfl ?_
    refine gC_1_parentheses C mF_X3_112 dX3_takeParenthesis_16 ?_
    refine z_iconst (v := 1) C.1 dX3_takeParenthesis_19 (by decide) ?_
    refine z_iadd C.1 dX3_takeParenthesis_20 ?_
    refine pC_1_parentheses C mF_X3_112 dX3_takeParenthesis_21 (fun u2 eu2 => ?_)
    replace hw := hw u2 eu2
    refine z_aload_n C.1 dX3_takeParenthesis_24 rfl 0 rfl ?_
    refine z_bipush (v := (-2)) C.1 dX3_takeParenthesis_25 (by decide) ?_
    refine z_bipush (v := 6) C.1 dX3_takeParenthesis_27 (by decide) ?_
    refine k_X3_begin C mM_X3_115 hw (by decide) (Nat.le_of_ble_eq_true rfl) dX3_takeParenthesis_29 (fun u3 hw => ?_)
    exact hR _ _ _ dX3_takeParenthesis_32 hw
  · replace hw := hw.1 c1
    refine z_aload_n C.1 dX3_takeParenthesis_9 rfl 0 rfl ?_
    refine k_X3_fail C mM_X3_76 hw (by decide) (Nat.le_of_ble_eq_true rfl) dX3_takeParenthesis_10 (fun u4 hw => ?_)
    exact hR _ _ _ dX3_takeParenthesis_13 hw
theorem c_X3_takeParenthesis {l : Launch} {D : va_G} {A : Nat → Prop} {ad : Nat → Nat} {cs : Nat → ClassId} (hD : ∀ u : St, va_D A (wC ad cs u)) (u : St) (post : St → Prop) (hw : wp_X3_takeParenthesis u post) : MV (ad 90, ad 91) l yX3_takeParenthesis cX3_takeParenthesis 1 none (rmm 1 22) D (tysC cs) A (wC ad cs) u [.ref (ad 1)] post :=
  met_v (by decide) (Nat.le_of_ble_eq_true rfl) (fun X C _ _ ht hA hn hsg hR => z_X3_takeParenthesis ⟨C, ht, fun u => by rw [hA]; exact hD u, hsg⟩ hn hR u hw)
theorem k_X3_takeParenthesis {X : XX} {ad : Nat → Nat} {cs : Nat → ClassId} {cc : ByteArray} {own : String} {fr lo pc : Nat} {lv : List (Nat × Value)} {st : List Value} {u : St} (C : CxC X ad cs cc own fr lo) {idx : Nat} {P : St → Prop} (hlink : Cond.methodLink own idx yX3_takeParenthesis ∈ W0) (hw : wp_X3_takeParenthesis u P) (hr : 1 + 1 ≤ fr ∧ 8 + (1 + 11) + 22 ≤ lo) (hst : (st.map fun v => v.category).sum ≤ 8) (hdg : decode cc pc = .ok (.invokevirtual idx, 3)) (k : ∀ (u2 : St), P u2 → Z X (wC ad cs u2) (pc + 3) lv st) : Z X (wC ad cs u) pc lv (.ref (ad 1) :: st) :=
  z_callVv (wf := wC ad cs) (As := []) (rest := st) C.1 0 (q0 := 1) mI_X3_takeParenthesis mS_X3_takeParenthesis rfl rfl (by rw [C.2.1, C.2.2.2]; exact c_X3_takeParenthesis C.2.2.1 u P hw) mC_X3_takeParenthesis mZ_X3 (by decide +kernel) rfl hlink hr hst hdg k

def wp_X3_takeBeginning_31 (u : St) (post : St → Prop) : Prop :=
  br ((gI u 9) = 2) (wp_X3_takeName u (fun (u7 : St) => post u7)) (br ((gI u 9) = 3) (wp_X3_addLeaf u 1 (gI u 11) (fun (u9 : St) => post u9)) (br ((gI u 9) = 4) (wp_X3_takeIfOrLet u (fun (u11 : St) => post u11)) (br ((gI u 9) = 7) (wp_X3_takeIfOrLet u (fun (u13 : St) => post u13)) (br ((gI u 9) = 9) (wp_X3_beginPart u 8 10 (fun (r16 : Int32) (u15 : St) => post u15)) (br ((gI u 9) = 40) (wp_X3_takeParenthesis u (fun (u18 : St) => post u18)) (br ((gI u 9) = 45) (wp_X3_beginPart u 4 6 (fun (r21 : Int32) (u20 : St) => post u20)) (wp_X3_fail u (fun (u22 : St) => post u22))))))))
set_option maxHeartbeats 4000000 in
set_option maxRecDepth 20000 in
theorem z_X3_takeBeginning_31 {X : XX} {ad : Nat → Nat} {cs : Nat → ClassId} {post : St → Prop} (C : CxC X ad cs cX3_takeBeginning RX3 3 69) (hn : xnL X = 1) (hR : rtV X cX3_takeBeginning (wC ad cs) post) (u : St) (hw : wp_X3_takeBeginning_31 u post) : Z X (wC ad cs u) 31 [(0, .ref (ad 1))] [] := by
  unfold wp_X3_takeBeginning_31 at hw
  refine z_aload_n C.1 dX3_takeBeginning_31 rfl 0 rfl ?_
  refine gC_1_tape C mF_X3_16 dX3_takeBeginning_32 ?_
  refine gC_2_kind C mF_X3_58 dX3_takeBeginning_35 ?_
  by_cases c6 : (gI u 9) = 2
  · replace hw := hw.1 c6
    refine z_look (tgt := 119) (off := 81) C.1 dX3_takeBeginning_38 (by decide) (by rw [c6]; decide) (by decide) ?_
    refine z_aload_n C.1 dX3_takeBeginning_119 rfl 0 rfl ?_
    refine k_X3_takeName C mM_X3_131 hw (by decide) (Nat.le_of_ble_eq_true rfl) dX3_takeBeginning_120 (fun u7 hw => ?_)
    refine z_goto (tgt := 167) C.1 dX3_takeBeginning_123 (by decide) ?_
    exact hR _ _ _ dX3_takeBeginning_167 hw
  replace hw := hw.2 c6
  by_cases c8 : (gI u 9) = 3
  · replace hw := hw.1 c8
    refine z_look (tgt := 104) (off := 66) C.1 dX3_takeBeginning_38 (by decide) (by rw [c8]; decide) (by decide) ?_
    refine z_aload_n C.1 dX3_takeBeginning_104 rfl 0 rfl ?_
    refine z_iconst (v := 1) C.1 dX3_takeBeginning_105 (by decide) ?_
    refine z_aload_n C.1 dX3_takeBeginning_106 rfl 0 rfl ?_
    refine gC_1_tape C mF_X3_16 dX3_takeBeginning_107 ?_
    refine gC_2_number C mF_X3_125 dX3_takeBeginning_110 ?_
    refine k_X3_addLeaf C mM_X3_128 hw (by decide) (Nat.le_of_ble_eq_true rfl) dX3_takeBeginning_113 (fun u9 hw => ?_)
    refine z_goto (tgt := 167) C.1 dX3_takeBeginning_116 (by decide) ?_
    exact hR _ _ _ dX3_takeBeginning_167 hw
  replace hw := hw.2 c8
  by_cases c10 : (gI u 9) = 4
  · replace hw := hw.1 c10
    refine z_look (tgt := 138) (off := 100) C.1 dX3_takeBeginning_38 (by decide) (by rw [c10]; decide) (by decide) ?_
    refine z_aload_n C.1 dX3_takeBeginning_138 rfl 0 rfl ?_
    refine k_X3_takeIfOrLet C mM_X3_138 hw (by decide) (Nat.le_of_ble_eq_true rfl) dX3_takeBeginning_139 (fun u11 hw => ?_)
    refine z_goto (tgt := 167) C.1 dX3_takeBeginning_142 (by decide) ?_
    exact hR _ _ _ dX3_takeBeginning_167 hw
  replace hw := hw.2 c10
  by_cases c12 : (gI u 9) = 7
  · replace hw := hw.1 c12
    refine z_look (tgt := 138) (off := 100) C.1 dX3_takeBeginning_38 (by decide) (by rw [c12]; decide) (by decide) ?_
    refine z_aload_n C.1 dX3_takeBeginning_138 rfl 0 rfl ?_
    refine k_X3_takeIfOrLet C mM_X3_138 hw (by decide) (Nat.le_of_ble_eq_true rfl) dX3_takeBeginning_139 (fun u13 hw => ?_)
    refine z_goto (tgt := 167) C.1 dX3_takeBeginning_142 (by decide) ?_
    exact hR _ _ _ dX3_takeBeginning_167 hw
  replace hw := hw.2 c12
  by_cases c14 : (gI u 9) = 9
  · replace hw := hw.1 c14
    refine z_look (tgt := 126) (off := 88) C.1 dX3_takeBeginning_38 (by decide) (by rw [c14]; decide) (by decide) ?_
    refine z_aload_n C.1 dX3_takeBeginning_126 rfl 0 rfl ?_
    refine z_bipush (v := 8) C.1 dX3_takeBeginning_127 (by decide) ?_
    refine z_bipush (v := 10) C.1 dX3_takeBeginning_129 (by decide) ?_
    refine k_X3_beginPart C mM_X3_134 hw (by decide) (Nat.le_of_ble_eq_true rfl) dX3_takeBeginning_131 (fun r16 u15 hw => ?_)
    refine z_pop C.1 dX3_takeBeginning_134 rfl ?_
    refine z_goto (tgt := 167) C.1 dX3_takeBeginning_135 (by decide) ?_
    exact hR _ _ _ dX3_takeBeginning_167 hw
  replace hw := hw.2 c14
  by_cases c17 : (gI u 9) = 40
  · replace hw := hw.1 c17
    refine z_look (tgt := 156) (off := 118) C.1 dX3_takeBeginning_38 (by decide) (by rw [c17]; decide) (by decide) ?_
    refine z_aload_n C.1 dX3_takeBeginning_156 rfl 0 rfl ?_
    refine k_X3_takeParenthesis C mM_X3_141 hw (by decide) (Nat.le_of_ble_eq_true rfl) dX3_takeBeginning_157 (fun u18 hw => ?_)
    refine z_goto (tgt := 167) C.1 dX3_takeBeginning_160 (by decide) ?_
    exact hR _ _ _ dX3_takeBeginning_167 hw
  replace hw := hw.2 c17
  by_cases c19 : (gI u 9) = 45
  · replace hw := hw.1 c19
    refine z_look (tgt := 145) (off := 107) C.1 dX3_takeBeginning_38 (by decide) (by rw [c19]; decide) (by decide) ?_
    refine z_aload_n C.1 dX3_takeBeginning_145 rfl 0 rfl ?_
    refine z_iconst (v := 4) C.1 dX3_takeBeginning_146 (by decide) ?_
    refine z_bipush (v := 6) C.1 dX3_takeBeginning_147 (by decide) ?_
    refine k_X3_beginPart C mM_X3_134 hw (by decide) (Nat.le_of_ble_eq_true rfl) dX3_takeBeginning_149 (fun r21 u20 hw => ?_)
    refine z_pop C.1 dX3_takeBeginning_152 rfl ?_
    refine z_goto (tgt := 167) C.1 dX3_takeBeginning_153 (by decide) ?_
    exact hR _ _ _ dX3_takeBeginning_167 hw
  replace hw := hw.2 c19
  have hdf : Z X (wC ad cs u) 163 [(0, .ref (ad 1))] [] := by
    refine z_aload_n C.1 dX3_takeBeginning_163 rfl 0 rfl ?_
    refine k_X3_fail C mM_X3_76 hw (by decide) (Nat.le_of_ble_eq_true rfl) dX3_takeBeginning_164 (fun u22 hw => ?_)
    exact hR _ _ _ dX3_takeBeginning_167 hw
  exact z_look (tgt := 163) (off := 125) C.1 dX3_takeBeginning_38 (by decide) (by show Op.lookupswitch.offset [(2, 81), (3, 66), (4, 100), (7, 100), (9, 88), (40, 118), (45, 107)] _ _ = _; rw [lv_osw c6 (by decide), lv_osw c8 (by decide), lv_osw c10 (by decide), lv_osw c12 (by decide), lv_osw c14 (by decide), lv_osw c17 (by decide), lv_osw c19 (by decide)]; rfl) (by decide) hdf
def wp_X3_takeBeginning (u : St) (post : St → Prop) : Prop :=
  br ((gI u 9) = 40) (wp_X3_takeBeginning_31 u post) (wp_X2_isFull u (gI u 1) (fun (r3 : Int32) (u2 : St) => br (r3 = 0) (wp_X3_takeBeginning_31 u2 post) (wp_X3_fail u2 (fun (u5 : St) => post u5))))
set_option maxHeartbeats 4000000 in
set_option maxRecDepth 20000 in
theorem z_X3_takeBeginning {X : XX} {ad : Nat → Nat} {cs : Nat → ClassId} {post : St → Prop} (C : CxC X ad cs cX3_takeBeginning RX3 3 69) (hn : xnL X = 1) (hR : rtV X cX3_takeBeginning (wC ad cs) post) (u : St) (hw : wp_X3_takeBeginning u post) : Z X (wC ad cs u) 0 [(0, .ref (ad 1))] [] := by
  unfold wp_X3_takeBeginning at hw
  refine z_aload_n C.1 dX3_takeBeginning_0 rfl 0 rfl ?_
  refine gC_1_tape C mF_X3_16 dX3_takeBeginning_1 ?_
  refine gC_2_kind C mF_X3_58 dX3_takeBeginning_4 ?_
  refine z_bipush (v := 40) C.1 dX3_takeBeginning_7 (by decide) ?_
  refine z_icmp_eq (tgt := 31) C.1 dX3_takeBeginning_9 (by decide) (fun c1 => ?_) (fun c1 => ?_)
  · replace hw := hw.1 c1
    refine z_lv [0] rfl ?_
    exact z_X3_takeBeginning_31 C hn hR _ hw
  · replace hw := hw.2 c1
    refine z_aload_n C.1 dX3_takeBeginning_12 rfl 0 rfl ?_
    refine gC_1_program C mF_X3_38 dX3_takeBeginning_13 ?_
    refine z_aload_n C.1 dX3_takeBeginning_16 rfl 0 rfl ?_
    refine gC_1_current C mF_X3_92 dX3_takeBeginning_17 ?_
    refine k_X2_isFull C mM_X3_121 hw (by decide) (Nat.le_of_ble_eq_true rfl) dX3_takeBeginning_20 (fun r3 u2 hw => ?_)
    refine z_if_eq (tgt := 31) C.1 dX3_takeBeginning_23 (by decide) (fun c4 => ?_) (fun c4 => ?_)
    · replace hw := hw.1 c4
      refine z_lv [0] rfl ?_
      exact z_X3_takeBeginning_31 C hn hR _ hw
    · replace hw := hw.2 c4
      refine z_aload_n C.1 dX3_takeBeginning_26 rfl 0 rfl ?_
      refine k_X3_fail C mM_X3_76 hw (by decide) (Nat.le_of_ble_eq_true rfl) dX3_takeBeginning_27 (fun u5 hw => ?_)
      exact hR _ _ _ dX3_takeBeginning_30 hw
theorem c_X3_takeBeginning {l : Launch} {D : va_G} {A : Nat → Prop} {ad : Nat → Nat} {cs : Nat → ClassId} (hD : ∀ u : St, va_D A (wC ad cs u)) (u : St) (post : St → Prop) (hw : wp_X3_takeBeginning u post) : MV (ad 90, ad 91) l yX3_takeBeginning cX3_takeBeginning 1 none (rmm 3 69) D (tysC cs) A (wC ad cs) u [.ref (ad 1)] post :=
  met_v (by decide) (Nat.le_of_ble_eq_true rfl) (fun X C _ _ ht hA hn hsg hR => z_X3_takeBeginning ⟨C, ht, fun u => by rw [hA]; exact hD u, hsg⟩ hn hR u hw)
theorem k_X3_takeBeginning {X : XX} {ad : Nat → Nat} {cs : Nat → ClassId} {cc : ByteArray} {own : String} {fr lo pc : Nat} {lv : List (Nat × Value)} {st : List Value} {u : St} (C : CxC X ad cs cc own fr lo) {idx : Nat} {P : St → Prop} (hlink : Cond.methodLink own idx yX3_takeBeginning ∈ W0) (hw : wp_X3_takeBeginning u P) (hr : 3 + 1 ≤ fr ∧ 8 + (1 + 11) + 69 ≤ lo) (hst : (st.map fun v => v.category).sum ≤ 8) (hdg : decode cc pc = .ok (.invokevirtual idx, 3)) (k : ∀ (u2 : St), P u2 → Z X (wC ad cs u2) (pc + 3) lv st) : Z X (wC ad cs u) pc lv (.ref (ad 1) :: st) :=
  z_callVv (wf := wC ad cs) (As := []) (rest := st) C.1 0 (q0 := 1) mI_X3_takeBeginning mS_X3_takeBeginning rfl rfl (by rw [C.2.1, C.2.2.2]; exact c_X3_takeBeginning C.2.2.1 u P hw) mC_X3_takeBeginning mZ_X3 (by decide +kernel) rfl hlink hr hst hdg k

def wp_X3_end (u : St) (post : St → Prop) : Prop :=
  nm (sI u 2 ((gI u 2) - 1)) (fun u1 : St => (vp_in (gI u1 2) 81 ∧ nm (sI u1 4 (gA u1 13 (ix (gI u1 2)))) (fun u2 : St => nm (sI u2 5 7) (fun u3 : St => post u3))))
set_option maxHeartbeats 4000000 in
set_option maxRecDepth 20000 in
theorem z_X3_end {X : XX} {ad : Nat → Nat} {cs : Nat → ClassId} {post : St → Prop} (C : CxC X ad cs cX3_end RX3 0 0) (hn : xnL X = 1) (hR : rtV X cX3_end (wC ad cs) post) (u : St) (hw : wp_X3_end u post) : Z X (wC ad cs u) 0 [(0, .ref (ad 1))] [] := by
  unfold wp_X3_end at hw
  refine z_aload_n C.1 dX3_end_0 rfl 0 rfl ?_
  refine z_dup C.1 dX3_end_1 rfl ?_
  refine gC_1_opened C mF_X3_109 dX3_end_2 ?_
  refine z_iconst (v := 1) C.1 dX3_end_5 (by decide) ?_
  refine z_isub C.1 dX3_end_6 ?_
  refine pC_1_opened C mF_X3_109 dX3_end_7 (fun u1 eu1 => ?_)
  replace hw := hw u1 eu1
  refine z_aload_n C.1 dX3_end_10 rfl 0 rfl ?_
  refine z_aload_n C.1 dX3_end_11 rfl 0 rfl ?_
  refine gC_1_open C mF_X3_34 dX3_end_12 ?_
  refine z_aload_n C.1 dX3_end_15 rfl 0 rfl ?_
  refine gC_1_opened C mF_X3_109 dX3_end_16 ?_
  refine lC_13 C hw.1 dX3_end_19 ?_
  replace hw := hw.2
  refine pC_1_latest C mF_X3_204 dX3_end_20 (fun u2 eu2 => ?_)
  replace hw := hw u2 eu2
  refine z_aload_n C.1 dX3_end_23 rfl 0 rfl ?_
  refine z_bipush (v := 7) C.1 dX3_end_24 (by decide) ?_
  refine pC_1_due C mF_X3_46 dX3_end_26 (fun u3 eu3 => ?_)
  replace hw := hw u3 eu3
  exact hR _ _ _ dX3_end_29 hw
theorem c_X3_end {l : Launch} {D : va_G} {A : Nat → Prop} {ad : Nat → Nat} {cs : Nat → ClassId} (hD : ∀ u : St, va_D A (wC ad cs u)) (u : St) (post : St → Prop) (hw : wp_X3_end u post) : MV (ad 90, ad 91) l yX3_end cX3_end 1 none (rmm 0 0) D (tysC cs) A (wC ad cs) u [.ref (ad 1)] post :=
  met_v (by decide) (Nat.le_of_ble_eq_true rfl) (fun X C _ _ ht hA hn hsg hR => z_X3_end ⟨C, ht, fun u => by rw [hA]; exact hD u, hsg⟩ hn hR u hw)
theorem k_X3_end {X : XX} {ad : Nat → Nat} {cs : Nat → ClassId} {cc : ByteArray} {own : String} {fr lo pc : Nat} {lv : List (Nat × Value)} {st : List Value} {u : St} (C : CxC X ad cs cc own fr lo) {idx : Nat} {P : St → Prop} (hlink : Cond.methodLink own idx yX3_end ∈ W0) (hw : wp_X3_end u P) (hr : 0 + 1 ≤ fr ∧ 8 + (1 + 11) + 0 ≤ lo) (hst : (st.map fun v => v.category).sum ≤ 8) (hdg : decode cc pc = .ok (.invokevirtual idx, 3)) (k : ∀ (u2 : St), P u2 → Z X (wC ad cs u2) (pc + 3) lv st) : Z X (wC ad cs u) pc lv (.ref (ad 1) :: st) :=
  z_callVv (wf := wC ad cs) (As := []) (rest := st) C.1 0 (q0 := 1) mI_X3_end mS_X3_end rfl rfl (by rw [C.2.1, C.2.2.2]; exact c_X3_end C.2.2.1 u P hw) mC_X3_end mZ_X3 (by decide +kernel) rfl hlink hr hst hdg k

def wp_X3_endWithLatest (u : St) (post : St → Prop) : Prop :=
  wp_X3_innermost u (fun (r2 : Int32) (u1 : St) => wp_X2_attach u1 r2 (gI u1 4) (fun (u3 : St) => wp_X3_end u3 (fun (u4 : St) => post u4)))
set_option maxHeartbeats 4000000 in
set_option maxRecDepth 20000 in
theorem z_X3_endWithLatest {X : XX} {ad : Nat → Nat} {cs : Nat → ClassId} {post : St → Prop} (C : CxC X ad cs cX3_endWithLatest RX3 1 22) (hn : xnL X = 1) (hR : rtV X cX3_endWithLatest (wC ad cs) post) (u : St) (hw : wp_X3_endWithLatest u post) : Z X (wC ad cs u) 0 [(0, .ref (ad 1))] [] := by
  unfold wp_X3_endWithLatest at hw
  refine z_aload_n C.1 dX3_endWithLatest_0 rfl 0 rfl ?_
  refine gC_1_program C mF_X3_38 dX3_endWithLatest_1 ?_
  refine z_aload_n C.1 dX3_endWithLatest_4 rfl 0 rfl ?_
  refine k_X3_innermost C mM_X3_155 hw (by decide) (Nat.le_of_ble_eq_true rfl) dX3_endWithLatest_5 (fun r2 u1 hw => ?_)
  refine z_aload_n C.1 dX3_endWithLatest_8 rfl 0 rfl ?_
  refine gC_1_latest C mF_X3_204 dX3_endWithLatest_9 ?_
  refine k_X2_attach C mM_X3_212 hw (by decide) (Nat.le_of_ble_eq_true rfl) dX3_endWithLatest_12 (fun u3 hw => ?_)
  refine z_aload_n C.1 dX3_endWithLatest_15 rfl 0 rfl ?_
  refine k_X3_end C mM_X3_163 hw (by decide) (Nat.le_of_ble_eq_true rfl) dX3_endWithLatest_16 (fun u4 hw => ?_)
  exact hR _ _ _ dX3_endWithLatest_19 hw
theorem c_X3_endWithLatest {l : Launch} {D : va_G} {A : Nat → Prop} {ad : Nat → Nat} {cs : Nat → ClassId} (hD : ∀ u : St, va_D A (wC ad cs u)) (u : St) (post : St → Prop) (hw : wp_X3_endWithLatest u post) : MV (ad 90, ad 91) l yX3_endWithLatest cX3_endWithLatest 1 none (rmm 1 22) D (tysC cs) A (wC ad cs) u [.ref (ad 1)] post :=
  met_v (by decide) (Nat.le_of_ble_eq_true rfl) (fun X C _ _ ht hA hn hsg hR => z_X3_endWithLatest ⟨C, ht, fun u => by rw [hA]; exact hD u, hsg⟩ hn hR u hw)
theorem k_X3_endWithLatest {X : XX} {ad : Nat → Nat} {cs : Nat → ClassId} {cc : ByteArray} {own : String} {fr lo pc : Nat} {lv : List (Nat × Value)} {st : List Value} {u : St} (C : CxC X ad cs cc own fr lo) {idx : Nat} {P : St → Prop} (hlink : Cond.methodLink own idx yX3_endWithLatest ∈ W0) (hw : wp_X3_endWithLatest u P) (hr : 1 + 1 ≤ fr ∧ 8 + (1 + 11) + 22 ≤ lo) (hst : (st.map fun v => v.category).sum ≤ 8) (hdg : decode cc pc = .ok (.invokevirtual idx, 3)) (k : ∀ (u2 : St), P u2 → Z X (wC ad cs u2) (pc + 3) lv st) : Z X (wC ad cs u) pc lv (.ref (ad 1) :: st) :=
  z_callVv (wf := wC ad cs) (As := []) (rest := st) C.1 0 (q0 := 1) mI_X3_endWithLatest mS_X3_endWithLatest rfl rfl (by rw [C.2.1, C.2.2.2]; exact c_X3_endWithLatest C.2.2.1 u P hw) mC_X3_endWithLatest mZ_X3 (by decide +kernel) rfl hlink hr hst hdg k

def wp_X3_endSigns_5s (K5 : St → Int32 → Int32 → Prop) (u : St) (x1 : Int32) (x2 : Int32) (post : St → Prop) : Prop :=
  br (x2 ≤ 0) (post u) (wp_X3_innermost u (fun (r4 : Int32) (u3 : St) => wp_X3_levelOf u3 r4 (fun (r6 : Int32) (u5 : St) => br (r6 < x1) (post u5) (wp_X3_endWithLatest u5 (fun (u8 : St) => nm (x2 + (-1)) (fun v9 : Int32 => K5 u8 x1 v9))))))
def wp_X3_endSigns_5 (post : St → Prop) : Nat → St → Int32 → Int32 → Prop
  | 0 => fun _ _ _ => False
  | n + 1 => fun u x1 x2 => wp_X3_endSigns_5s (wp_X3_endSigns_5 post n) u x1 x2 post
set_option maxHeartbeats 4000000 in
set_option maxRecDepth 20000 in
theorem z_X3_endSigns_5s {X : XX} {ad : Nat → Nat} {cs : Nat → ClassId} {post : St → Prop} (C : CxC X ad cs cX3_endSigns RX3 2 42) (hn : xnL X = 3) (hR : rtV X cX3_endSigns (wC ad cs) post) {K5 : St → Int32 → Int32 → Prop} (hK5 : ∀ (u : St) (x1 : Int32) (x2 : Int32), K5 u x1 x2 → Z X (wC ad cs u) 5 [(0, .ref (ad 1)), (1, .int x1), (2, .int x2)] []) (u : St) (x1 : Int32) (x2 : Int32) (hw : wp_X3_endSigns_5s K5 u x1 x2 post) : Z X (wC ad cs u) 5 [(0, .ref (ad 1)), (1, .int x1), (2, .int x2)] [] := by
  unfold wp_X3_endSigns_5s at hw
  refine z_iload_n C.1 dX3_endSigns_5 rfl 2 rfl ?_
  refine z_if_le (tgt := 31) C.1 dX3_endSigns_6 (by decide) (fun c2 => ?_) (fun c2 => ?_)
  · replace hw := hw.1 c2
    exact hR _ _ _ dX3_endSigns_31 hw
  · replace hw := hw.2 c2
    refine z_aload_n C.1 dX3_endSigns_9 rfl 0 rfl ?_
    refine z_aload_n C.1 dX3_endSigns_10 rfl 0 rfl ?_
    refine k_X3_innermost C mM_X3_155 hw (by decide) (Nat.le_of_ble_eq_true rfl) dX3_endSigns_11 (fun r4 u3 hw => ?_)
    refine k_X3_levelOf C mM_X3_159 hw (by decide) (Nat.le_of_ble_eq_true rfl) dX3_endSigns_14 (fun r6 u5 hw => ?_)
    refine z_iload_n C.1 dX3_endSigns_17 rfl 1 rfl ?_
    refine z_icmp_lt (tgt := 31) C.1 dX3_endSigns_18 (by decide) (fun c7 => ?_) (fun c7 => ?_)
    · replace hw := hw.1 c7
      exact hR _ _ _ dX3_endSigns_31 hw
    · replace hw := hw.2 c7
      refine z_aload_n C.1 dX3_endSigns_21 rfl 0 rfl ?_
      refine k_X3_endWithLatest C mM_X3_189 hw (by decide) (Nat.le_of_ble_eq_true rfl) dX3_endSigns_22 (fun u8 hw => ?_)
      obtain ⟨v9, ev9⟩ : ∃ z : Int32, z = x2 + (-1) := ⟨_, rfl⟩
      replace hw := hw v9 ev9
      refine z_iinc (v := v9) (lv' := [(2, .int v9), (0, .ref (ad 1)), (1, .int x1)]) C.1 (j := 2) dX3_endSigns_25 rfl (by rw [ev9]; rfl) (by rw [hn]; decide) rfl ?_
      refine z_goto (tgt := 5) C.1 dX3_endSigns_28 (by decide) ?_
      refine z_lv [1, 2, 0] rfl ?_
      exact hK5 _ _ _ hw
theorem z_X3_endSigns_5 {X : XX} {ad : Nat → Nat} {cs : Nat → ClassId} {post : St → Prop} (C : CxC X ad cs cX3_endSigns RX3 2 42) (hn : xnL X = 3) (hR : rtV X cX3_endSigns (wC ad cs) post) : ∀ (n : Nat) (u : St) (x1 : Int32) (x2 : Int32), wp_X3_endSigns_5 post n u x1 x2 → Z X (wC ad cs u) 5 [(0, .ref (ad 1)), (1, .int x1), (2, .int x2)] []
  | 0, _, _, _, hw => absurd hw (fun h => h)
  | n + 1, u, x1, x2, hw => z_X3_endSigns_5s C hn hR (z_X3_endSigns_5 C hn hR n) u x1 x2 hw
def wp_X3_endSigns (u : St) (x1 : Int32) (post : St → Prop) : Prop :=
  nm (gI u 2) (fun v1 : Int32 => ∃ n, wp_X3_endSigns_5 post n u x1 v1)
set_option maxHeartbeats 4000000 in
set_option maxRecDepth 20000 in
theorem z_X3_endSigns {X : XX} {ad : Nat → Nat} {cs : Nat → ClassId} {post : St → Prop} (C : CxC X ad cs cX3_endSigns RX3 2 42) (hn : xnL X = 3) (hR : rtV X cX3_endSigns (wC ad cs) post) (u : St) (x1 : Int32) (hw : wp_X3_endSigns u x1 post) : Z X (wC ad cs u) 0 [(0, .ref (ad 1)), (1, .int x1)] [] := by
  unfold wp_X3_endSigns at hw
  refine z_aload_n C.1 dX3_endSigns_0 rfl 0 rfl ?_
  refine gC_1_opened C mF_X3_109 dX3_endSigns_1 ?_
  refine z_topi (fun v1 ev1 => ?_)
  replace hw := hw v1 ev1
  refine z_istore_n (lv' := [(2, .int v1), (0, .ref (ad 1)), (1, .int x1)]) C.1 dX3_endSigns_4 rfl (by rw [hn]; decide) rfl ?_
  refine z_lv [1, 2, 0] rfl ?_
  obtain ⟨n, hw⟩ := hw
  exact z_X3_endSigns_5 C hn hR n _ _ _ hw
theorem c_X3_endSigns {l : Launch} {D : va_G} {A : Nat → Prop} {ad : Nat → Nat} {cs : Nat → ClassId} (hD : ∀ u : St, va_D A (wC ad cs u)) (u : St) (x1 : Int32) (post : St → Prop) (hw : wp_X3_endSigns u x1 post) : MV (ad 90, ad 91) l yX3_endSigns cX3_endSigns 3 none (rmm 2 42) D (tysC cs) A (wC ad cs) u [.ref (ad 1), .int x1] post :=
  met_v (by decide) (Nat.le_of_ble_eq_true rfl) (fun X C _ _ ht hA hn hsg hR => z_X3_endSigns ⟨C, ht, fun u => by rw [hA]; exact hD u, hsg⟩ hn hR u x1 hw)
theorem k_X3_endSigns {X : XX} {ad : Nat → Nat} {cs : Nat → ClassId} {cc : ByteArray} {own : String} {fr lo pc : Nat} {lv : List (Nat × Value)} {st : List Value} {u : St} (C : CxC X ad cs cc own fr lo) {idx : Nat} {x1 : Int32} {P : St → Prop} (hlink : Cond.methodLink own idx yX3_endSigns ∈ W0) (hw : wp_X3_endSigns u x1 P) (hr : 2 + 1 ≤ fr ∧ 8 + (3 + 11) + 42 ≤ lo) (hst : (st.map fun v => v.category).sum ≤ 8) (hdg : decode cc pc = .ok (.invokevirtual idx, 3)) (k : ∀ (u2 : St), P u2 → Z X (wC ad cs u2) (pc + 3) lv st) : Z X (wC ad cs u) pc lv (.int x1 :: .ref (ad 1) :: st) :=
  z_callVv (wf := wC ad cs) (As := [.int x1]) (rest := st) C.1 1 (q0 := 1) mI_X3_endSigns mS_X3_endSigns rfl rfl (by rw [C.2.1, C.2.2.2]; exact c_X3_endSigns C.2.2.1 u x1 P hw) mC_X3_endSigns mZ_X3 (by decide +kernel) rfl hlink hr hst hdg k

def wp_X3_beginPartBehind (u : St) (x1 : Int32) (post : St → Prop) : Prop :=
  nm (gI u 4) (fun v1 : Int32 => wp_X3_beginPart u x1 6 (fun (r3 : Int32) (u2 : St) => wp_X2_attach u2 r3 v1 (fun (u4 : St) => post u4)))
set_option maxHeartbeats 4000000 in
set_option maxRecDepth 20000 in
theorem z_X3_beginPartBehind {X : XX} {ad : Nat → Nat} {cs : Nat → ClassId} {post : St → Prop} (C : CxC X ad cs cX3_beginPartBehind RX3 2 47) (hn : xnL X = 3) (hR : rtV X cX3_beginPartBehind (wC ad cs) post) (u : St) (x1 : Int32) (hw : wp_X3_beginPartBehind u x1 post) : Z X (wC ad cs u) 0 [(0, .ref (ad 1)), (1, .int x1)] [] := by
  unfold wp_X3_beginPartBehind at hw
  refine z_aload_n C.1 dX3_beginPartBehind_0 rfl 0 rfl ?_
  refine gC_1_latest C mF_X3_204 dX3_beginPartBehind_1 ?_
  refine z_topi (fun v1 ev1 => ?_)
  replace hw := hw v1 ev1
  refine z_istore_n (lv' := [(2, .int v1), (0, .ref (ad 1)), (1, .int x1)]) C.1 dX3_beginPartBehind_4 rfl (by rw [hn]; decide) rfl ?_
  refine z_aload_n C.1 dX3_beginPartBehind_5 rfl 1 rfl ?_
  refine gC_1_program C mF_X3_38 dX3_beginPartBehind_6 ?_
  refine z_aload_n C.1 dX3_beginPartBehind_9 rfl 1 rfl ?_
  refine z_iload_n C.1 dX3_beginPartBehind_10 rfl 2 rfl ?_
  refine z_bipush (v := 6) C.1 dX3_beginPartBehind_11 (by decide) ?_
  refine k_X3_beginPart C mM_X3_134 hw (by decide) (Nat.le_of_ble_eq_true rfl) dX3_beginPartBehind_13 (fun r3 u2 hw => ?_)
  refine z_iload_n C.1 dX3_beginPartBehind_16 rfl 0 rfl ?_
  refine k_X2_attach C mM_X3_212 hw (by decide) (Nat.le_of_ble_eq_true rfl) dX3_beginPartBehind_17 (fun u4 hw => ?_)
  exact hR _ _ _ dX3_beginPartBehind_20 hw
theorem c_X3_beginPartBehind {l : Launch} {D : va_G} {A : Nat → Prop} {ad : Nat → Nat} {cs : Nat → ClassId} (hD : ∀ u : St, va_D A (wC ad cs u)) (u : St) (x1 : Int32) (post : St → Prop) (hw : wp_X3_beginPartBehind u x1 post) : MV (ad 90, ad 91) l yX3_beginPartBehind cX3_beginPartBehind 3 none (rmm 2 47) D (tysC cs) A (wC ad cs) u [.ref (ad 1), .int x1] post :=
  met_v (by decide) (Nat.le_of_ble_eq_true rfl) (fun X C _ _ ht hA hn hsg hR => z_X3_beginPartBehind ⟨C, ht, fun u => by rw [hA]; exact hD u, hsg⟩ hn hR u x1 hw)
theorem k_X3_beginPartBehind {X : XX} {ad : Nat → Nat} {cs : Nat → ClassId} {cc : ByteArray} {own : String} {fr lo pc : Nat} {lv : List (Nat × Value)} {st : List Value} {u : St} (C : CxC X ad cs cc own fr lo) {idx : Nat} {x1 : Int32} {P : St → Prop} (hlink : Cond.methodLink own idx yX3_beginPartBehind ∈ W0) (hw : wp_X3_beginPartBehind u x1 P) (hr : 2 + 1 ≤ fr ∧ 8 + (3 + 11) + 47 ≤ lo) (hst : (st.map fun v => v.category).sum ≤ 8) (hdg : decode cc pc = .ok (.invokevirtual idx, 3)) (k : ∀ (u2 : St), P u2 → Z X (wC ad cs u2) (pc + 3) lv st) : Z X (wC ad cs u) pc lv (.int x1 :: .ref (ad 1) :: st) :=
  z_callVv (wf := wC ad cs) (As := [.int x1]) (rest := st) C.1 1 (q0 := 1) mI_X3_beginPartBehind mS_X3_beginPartBehind rfl rfl (by rw [C.2.1, C.2.2.2]; exact c_X3_beginPartBehind C.2.2.1 u x1 P hw) mC_X3_beginPartBehind mZ_X3 (by decide +kernel) rfl hlink hr hst hdg k

def wp_X3_takeSign_50 (u : St) (post : St → Prop) : Prop :=
  wp_X3_fail u (fun (u13 : St) => post u13)
set_option maxHeartbeats 4000000 in
set_option maxRecDepth 20000 in
theorem z_X3_takeSign_50 {X : XX} {ad : Nat → Nat} {cs : Nat → ClassId} {post : St → Prop} (C : CxC X ad cs cX3_takeSign RX3 3 69) (hn : xnL X = 3) (hR : rtV X cX3_takeSign (wC ad cs) post) (u : St) (hw : wp_X3_takeSign_50 u post) : Z X (wC ad cs u) 50 [(0, .ref (ad 1))] [] := by
  unfold wp_X3_takeSign_50 at hw
  refine z_aload_n C.1 dX3_takeSign_50 rfl 0 rfl ?_
  refine k_X3_fail C mM_X3_76 hw (by decide) (Nat.le_of_ble_eq_true rfl) dX3_takeSign_51 (fun u13 hw => ?_)
  refine z_goto (tgt := 68) C.1 dX3_takeSign_54 (by decide) ?_
  exact hR _ _ _ dX3_takeSign_68 hw
def wp_X3_takeSign_31 (u : St) (y0 : Int32) (post : St → Prop) : Prop :=
  br (y0 = 0) (wp_X2_isFull u (gI u 1) (fun (r10 : Int32) (u9 : St) => br (r10 = 0) (wp_X3_beginPartBehind u9 (gI u9 9) (fun (u12 : St) => post u12)) (wp_X3_takeSign_50 u9 post))) (wp_X3_takeSign_50 u post)
set_option maxHeartbeats 4000000 in
set_option maxRecDepth 20000 in
theorem z_X3_takeSign_31 {X : XX} {ad : Nat → Nat} {cs : Nat → ClassId} {post : St → Prop} (C : CxC X ad cs cX3_takeSign RX3 3 69) (hn : xnL X = 3) (hR : rtV X cX3_takeSign (wC ad cs) post) (u : St) (y0 : Int32) (hw : wp_X3_takeSign_31 u y0 post) : Z X (wC ad cs u) 31 [(0, .ref (ad 1))] [.int y0] := by
  unfold wp_X3_takeSign_31 at hw
  refine z_istore_n (lv' := [(2, .int y0), (0, .ref (ad 1))]) C.1 dX3_takeSign_31 rfl (by rw [hn]; decide) rfl ?_
  refine z_iload_n C.1 dX3_takeSign_32 rfl 0 rfl ?_
  refine z_if_ne (tgt := 50) C.1 dX3_takeSign_33 (by decide) (fun c8 => ?_) (fun c8 => ?_)
  · replace hw := hw.2 c8
    refine z_lv [1] rfl ?_
    exact z_X3_takeSign_50 C hn hR _ hw
  · replace hw := hw.1 c8
    refine z_aload_n C.1 dX3_takeSign_36 rfl 1 rfl ?_
    refine gC_1_program C mF_X3_38 dX3_takeSign_37 ?_
    refine z_aload_n C.1 dX3_takeSign_40 rfl 1 rfl ?_
    refine gC_1_current C mF_X3_92 dX3_takeSign_41 ?_
    refine k_X2_isFull C mM_X3_121 hw (by decide) (Nat.le_of_ble_eq_true rfl) dX3_takeSign_44 (fun r10 u9 hw => ?_)
    refine z_if_eq (tgt := 57) C.1 dX3_takeSign_47 (by decide) (fun c11 => ?_) (fun c11 => ?_)
    · replace hw := hw.1 c11
      refine z_aload_n C.1 dX3_takeSign_57 rfl 1 rfl ?_
      refine z_aload_n C.1 dX3_takeSign_58 rfl 1 rfl ?_
      refine gC_1_tape C mF_X3_16 dX3_takeSign_59 ?_
      refine gC_2_kind C mF_X3_58 dX3_takeSign_62 ?_
      refine k_X3_beginPartBehind C mM_X3_175 hw (by decide) (Nat.le_of_ble_eq_true rfl) dX3_takeSign_65 (fun u12 hw => ?_)
      exact hR _ _ _ dX3_takeSign_68 hw
    · replace hw := hw.2 c11
      refine z_lv [1] rfl ?_
      exact z_X3_takeSign_50 C hn hR _ hw
def wp_X3_takeSign_30 (u : St) (post : St → Prop) : Prop :=
  wp_X3_takeSign_31 u 0 post
set_option maxHeartbeats 4000000 in
set_option maxRecDepth 20000 in
theorem z_X3_takeSign_30 {X : XX} {ad : Nat → Nat} {cs : Nat → ClassId} {post : St → Prop} (C : CxC X ad cs cX3_takeSign RX3 3 69) (hn : xnL X = 3) (hR : rtV X cX3_takeSign (wC ad cs) post) (u : St) (hw : wp_X3_takeSign_30 u post) : Z X (wC ad cs u) 30 [(0, .ref (ad 1))] [] := by
  unfold wp_X3_takeSign_30 at hw
  refine z_iconst (v := 0) C.1 dX3_takeSign_30 (by decide) ?_
  refine z_lv [0] rfl ?_
  exact z_X3_takeSign_31 C hn hR _ _ hw
def wp_X3_takeSign (u : St) (x1 : Int32) (post : St → Prop) : Prop :=
  wp_X3_endSigns u (if x1 < 2 then 2 else x1) (fun (u1 : St) => br (x1 = 1) (wp_X3_innermost u1 (fun (r4 : Int32) (u3 : St) => wp_X3_levelOf u3 r4 (fun (r6 : Int32) (u5 : St) => br (r6 = 1) (wp_X3_takeSign_31 u5 1 post) (wp_X3_takeSign_30 u5 post)))) (wp_X3_takeSign_30 u1 post))
set_option maxHeartbeats 4000000 in
set_option maxRecDepth 20000 in
theorem z_X3_takeSign {X : XX} {ad : Nat → Nat} {cs : Nat → ClassId} {post : St → Prop} (C : CxC X ad cs cX3_takeSign RX3 3 69) (hn : xnL X = 3) (hR : rtV X cX3_takeSign (wC ad cs) post) (u : St) (x1 : Int32) (hw : wp_X3_takeSign u x1 post) : Z X (wC ad cs u) 0 [(0, .ref (ad 1)), (1, .int x1)] [] := by
  unfold wp_X3_takeSign at hw
  refine z_aload_n C.1 dX3_takeSign_0 rfl 0 rfl ?_
  refine z_iload_n C.1 dX3_takeSign_1 rfl 1 rfl ?_
  refine z_iconst (v := 2) C.1 dX3_takeSign_2 (by decide) ?_
  refine z_mmax C.1 mM_X3_178 ⟨by decide, Nat.le_of_ble_eq_true rfl⟩ dX3_takeSign_3 ?_
  refine k_X3_endSigns C mM_X3_183 hw (by decide) (Nat.le_of_ble_eq_true rfl) dX3_takeSign_6 (fun u1 hw => ?_)
  refine z_iload_n C.1 dX3_takeSign_9 rfl 1 rfl ?_
  refine z_iconst (v := 1) C.1 dX3_takeSign_10 (by decide) ?_
  refine z_icmp_ne (tgt := 30) C.1 dX3_takeSign_11 (by decide) (fun c2 => ?_) (fun c2 => ?_)
  · replace hw := hw.2 c2
    refine z_lv [0] rfl ?_
    exact z_X3_takeSign_30 C hn hR _ hw
  · replace hw := hw.1 c2
    refine z_aload_n C.1 dX3_takeSign_14 rfl 0 rfl ?_
    refine z_aload_n C.1 dX3_takeSign_15 rfl 0 rfl ?_
    refine k_X3_innermost C mM_X3_155 hw (by decide) (Nat.le_of_ble_eq_true rfl) dX3_takeSign_16 (fun r4 u3 hw => ?_)
    refine k_X3_levelOf C mM_X3_159 hw (by decide) (Nat.le_of_ble_eq_true rfl) dX3_takeSign_19 (fun r6 u5 hw => ?_)
    refine z_iconst (v := 1) C.1 dX3_takeSign_22 (by decide) ?_
    refine z_icmp_ne (tgt := 30) C.1 dX3_takeSign_23 (by decide) (fun c7 => ?_) (fun c7 => ?_)
    · replace hw := hw.2 c7
      refine z_lv [0] rfl ?_
      exact z_X3_takeSign_30 C hn hR _ hw
    · replace hw := hw.1 c7
      refine z_iconst (v := 1) C.1 dX3_takeSign_26 (by decide) ?_
      refine z_goto (tgt := 31) C.1 dX3_takeSign_27 (by decide) ?_
      refine z_lv [0] rfl ?_
      exact z_X3_takeSign_31 C hn hR _ _ hw
theorem c_X3_takeSign {l : Launch} {D : va_G} {A : Nat → Prop} {ad : Nat → Nat} {cs : Nat → ClassId} (hD : ∀ u : St, va_D A (wC ad cs u)) (u : St) (x1 : Int32) (post : St → Prop) (hw : wp_X3_takeSign u x1 post) : MV (ad 90, ad 91) l yX3_takeSign cX3_takeSign 3 none (rmm 3 69) D (tysC cs) A (wC ad cs) u [.ref (ad 1), .int x1] post :=
  met_v (by decide) (Nat.le_of_ble_eq_true rfl) (fun X C _ _ ht hA hn hsg hR => z_X3_takeSign ⟨C, ht, fun u => by rw [hA]; exact hD u, hsg⟩ hn hR u x1 hw)
theorem k_X3_takeSign {X : XX} {ad : Nat → Nat} {cs : Nat → ClassId} {cc : ByteArray} {own : String} {fr lo pc : Nat} {lv : List (Nat × Value)} {st : List Value} {u : St} (C : CxC X ad cs cc own fr lo) {idx : Nat} {x1 : Int32} {P : St → Prop} (hlink : Cond.methodLink own idx yX3_takeSign ∈ W0) (hw : wp_X3_takeSign u x1 P) (hr : 3 + 1 ≤ fr ∧ 8 + (3 + 11) + 69 ≤ lo) (hst : (st.map fun v => v.category).sum ≤ 8) (hdg : decode cc pc = .ok (.invokevirtual idx, 3)) (k : ∀ (u2 : St), P u2 → Z X (wC ad cs u2) (pc + 3) lv st) : Z X (wC ad cs u) pc lv (.int x1 :: .ref (ad 1) :: st) :=
  z_callVv (wf := wC ad cs) (As := [.int x1]) (rest := st) C.1 1 (q0 := 1) mI_X3_takeSign mS_X3_takeSign rfl rfl (by rw [C.2.1, C.2.2.2]; exact c_X3_takeSign C.2.2.1 u x1 P hw) mC_X3_takeSign mZ_X3 (by decide +kernel) rfl hlink hr hst hdg k

def wp_X3_isInLastExpression_53 (u : St) (post : Int32 → St → Prop) : Prop :=
  (bz 1 ∧ post 1 u)
set_option maxHeartbeats 4000000 in
set_option maxRecDepth 20000 in
theorem z_X3_isInLastExpression_53 {X : XX} {ad : Nat → Nat} {cs : Nat → ClassId} {post : Int32 → St → Prop} (C : CxC X ad cs cX3_isInLastExpression RX3 0 0) (hn : xnL X = 3) (hR : rtZ X cX3_isInLastExpression (wC ad cs) post) (u : St) (hw : wp_X3_isInLastExpression_53 u post) : Z X (wC ad cs u) 53 [] [] := by
  unfold wp_X3_isInLastExpression_53 at hw
  refine z_iconst (v := 1) C.1 dX3_isInLastExpression_53 (by decide) ?_
  refine z_goto (tgt := 58) C.1 dX3_isInLastExpression_54 (by decide) ?_
  exact hR _ _ _ _ dX3_isInLastExpression_58 hw
def wp_X3_isInLastExpression_34 (u : St) (x1 : Int32) (x2 : Int32) (post : Int32 → St → Prop) : Prop :=
  br (x2 = 6) ((vp_in x1 720 ∧ br ((gA u 20 (ix x1)) = 1) (wp_X3_isInLastExpression_53 u post) ((bz 0 ∧ post 0 u)))) ((bz 0 ∧ post 0 u))
set_option maxHeartbeats 4000000 in
set_option maxRecDepth 20000 in
theorem z_X3_isInLastExpression_34 {X : XX} {ad : Nat → Nat} {cs : Nat → ClassId} {post : Int32 → St → Prop} (C : CxC X ad cs cX3_isInLastExpression RX3 0 0) (hn : xnL X = 3) (hR : rtZ X cX3_isInLastExpression (wC ad cs) post) (u : St) (x1 : Int32) (x2 : Int32) (hw : wp_X3_isInLastExpression_34 u x1 x2 post) : Z X (wC ad cs u) 34 [(0, .ref (ad 1)), (1, .int x1), (2, .int x2)] [] := by
  unfold wp_X3_isInLastExpression_34 at hw
  refine z_iload_n C.1 dX3_isInLastExpression_34 rfl 2 rfl ?_
  refine z_bipush (v := 6) C.1 dX3_isInLastExpression_35 (by decide) ?_
  refine z_icmp_ne (tgt := 57) C.1 dX3_isInLastExpression_37 (by decide) (fun c5 => ?_) (fun c5 => ?_)
  · replace hw := hw.2 c5
    refine z_iconst (v := 0) C.1 dX3_isInLastExpression_57 (by decide) ?_
    exact hR _ _ _ _ dX3_isInLastExpression_58 hw
  · replace hw := hw.1 c5
    refine z_aload_n C.1 dX3_isInLastExpression_40 rfl 0 rfl ?_
    refine gC_1_program C mF_X3_38 dX3_isInLastExpression_41 ?_
    refine gC_3_children C mF_X3_209 dX3_isInLastExpression_44 ?_
    refine z_iload_n C.1 dX3_isInLastExpression_47 rfl 1 rfl ?_
    refine lC_20 C hw.1 dX3_isInLastExpression_48 ?_
    replace hw := hw.2
    refine z_iconst (v := 1) C.1 dX3_isInLastExpression_49 (by decide) ?_
    refine z_icmp_ne (tgt := 57) C.1 dX3_isInLastExpression_50 (by decide) (fun c6 => ?_) (fun c6 => ?_)
    · replace hw := hw.2 c6
      refine z_iconst (v := 0) C.1 dX3_isInLastExpression_57 (by decide) ?_
      exact hR _ _ _ _ dX3_isInLastExpression_58 hw
    · replace hw := hw.1 c6
      refine z_lv [] rfl ?_
      exact z_X3_isInLastExpression_53 C hn hR _ hw
def wp_X3_isInLastExpression (u : St) (x1 : Int32) (post : Int32 → St → Prop) : Prop :=
  br (0 ≤ x1) ((vp_in x1 720 ∧ nm (gA u 18 (ix x1)) (fun v2 : Int32 => br (v2 = 5) ((vp_in x1 720 ∧ br ((gA u 20 (ix x1)) = 2) (wp_X3_isInLastExpression_53 u post) (wp_X3_isInLastExpression_34 u x1 v2 post))) (wp_X3_isInLastExpression_34 u x1 v2 post)))) ((bz 0 ∧ post 0 u))
set_option maxHeartbeats 4000000 in
set_option maxRecDepth 20000 in
theorem z_X3_isInLastExpression {X : XX} {ad : Nat → Nat} {cs : Nat → ClassId} {post : Int32 → St → Prop} (C : CxC X ad cs cX3_isInLastExpression RX3 0 0) (hn : xnL X = 3) (hR : rtZ X cX3_isInLastExpression (wC ad cs) post) (u : St) (x1 : Int32) (hw : wp_X3_isInLastExpression u x1 post) : Z X (wC ad cs u) 0 [(0, .ref (ad 1)), (1, .int x1)] [] := by
  unfold wp_X3_isInLastExpression at hw
  refine z_iload_n C.1 dX3_isInLastExpression_0 rfl 1 rfl ?_
  refine z_if_ge (tgt := 6) C.1 dX3_isInLastExpression_1 (by decide) (fun c1 => ?_) (fun c1 => ?_)
  · replace hw := hw.1 c1
    refine z_aload_n C.1 dX3_isInLastExpression_6 rfl 0 rfl ?_
    refine gC_1_program C mF_X3_38 dX3_isInLastExpression_7 ?_
    refine gC_3_kind C mF_X3_207 dX3_isInLastExpression_10 ?_
    refine z_iload_n C.1 dX3_isInLastExpression_13 rfl 1 rfl ?_
    refine lC_18 C hw.1 dX3_isInLastExpression_14 ?_
    replace hw := hw.2
    refine z_topi (fun v2 ev2 => ?_)
    replace hw := hw v2 ev2
    refine z_istore_n (lv' := [(2, .int v2), (0, .ref (ad 1)), (1, .int x1)]) C.1 dX3_isInLastExpression_15 rfl (by rw [hn]; decide) rfl ?_
    refine z_iload_n C.1 dX3_isInLastExpression_16 rfl 0 rfl ?_
    refine z_iconst (v := 5) C.1 dX3_isInLastExpression_17 (by decide) ?_
    refine z_icmp_ne (tgt := 34) C.1 dX3_isInLastExpression_18 (by decide) (fun c3 => ?_) (fun c3 => ?_)
    · replace hw := hw.2 c3
      refine z_lv [1, 2, 0] rfl ?_
      exact z_X3_isInLastExpression_34 C hn hR _ _ _ hw
    · replace hw := hw.1 c3
      refine z_aload_n C.1 dX3_isInLastExpression_21 rfl 1 rfl ?_
      refine gC_1_program C mF_X3_38 dX3_isInLastExpression_22 ?_
      refine gC_3_children C mF_X3_209 dX3_isInLastExpression_25 ?_
      refine z_iload_n C.1 dX3_isInLastExpression_28 rfl 2 rfl ?_
      refine lC_20 C hw.1 dX3_isInLastExpression_29 ?_
      replace hw := hw.2
      refine z_iconst (v := 2) C.1 dX3_isInLastExpression_30 (by decide) ?_
      refine z_icmp_eq (tgt := 53) C.1 dX3_isInLastExpression_31 (by decide) (fun c4 => ?_) (fun c4 => ?_)
      · replace hw := hw.1 c4
        refine z_lv [] rfl ?_
        exact z_X3_isInLastExpression_53 C hn hR _ hw
      · replace hw := hw.2 c4
        refine z_lv [1, 2, 0] rfl ?_
        exact z_X3_isInLastExpression_34 C hn hR _ _ _ hw
  · replace hw := hw.2 c1
    refine z_iconst (v := 0) C.1 dX3_isInLastExpression_4 (by decide) ?_
    exact hR _ _ _ _ dX3_isInLastExpression_5 hw
theorem c_X3_isInLastExpression {l : Launch} {D : va_G} {A : Nat → Prop} {ad : Nat → Nat} {cs : Nat → ClassId} (hD : ∀ u : St, va_D A (wC ad cs u)) (u : St) (x1 : Int32) (post : Int32 → St → Prop) (hw : wp_X3_isInLastExpression u x1 post) : MI (ad 90, ad 91) l yX3_isInLastExpression cX3_isInLastExpression 3 (some .boolean) (rmm 0 0) D (tysC cs) A (wC ad cs) u [.ref (ad 1), .int x1] post :=
  met_z (by decide) (Nat.le_of_ble_eq_true rfl) (fun X C _ _ ht hA hn hsg hR => z_X3_isInLastExpression ⟨C, ht, fun u => by rw [hA]; exact hD u, hsg⟩ hn hR u x1 hw)
theorem k_X3_isInLastExpression {X : XX} {ad : Nat → Nat} {cs : Nat → ClassId} {cc : ByteArray} {own : String} {fr lo pc : Nat} {lv : List (Nat × Value)} {st : List Value} {u : St} (C : CxC X ad cs cc own fr lo) {idx : Nat} {x1 : Int32} {P : Int32 → St → Prop} (hlink : Cond.methodLink own idx yX3_isInLastExpression ∈ W0) (hw : wp_X3_isInLastExpression u x1 P) (hr : 0 + 1 ≤ fr ∧ 8 + (3 + 11) + 0 ≤ lo) (hst : (st.map fun v => v.category).sum ≤ 8) (hdg : decode cc pc = .ok (.invokevirtual idx, 3)) (k : ∀ (r : Int32) (u2 : St), P r u2 → Z X (wC ad cs u2) (pc + 3) lv (.int r :: st)) : Z X (wC ad cs u) pc lv (.int x1 :: .ref (ad 1) :: st) :=
  z_callVi (wf := wC ad cs) (As := [.int x1]) (rest := st) C.1 1 (q0 := 1) mI_X3_isInLastExpression mS_X3_isInLastExpression rfl rfl (by rw [C.2.1, C.2.2.2]; exact c_X3_isInLastExpression C.2.2.1 u x1 P hw) mC_X3_isInLastExpression mZ_X3 (by decide +kernel) rfl hlink hr hst hdg k

def wp_X3_expect (u : St) (x1 : Int32) (x2 : Int32) (post : St → Prop) : Prop :=
  br ((gI u 9) = x1) (nm (sI u 5 x2) (fun u3 : St => post u3)) (wp_X3_fail u (fun (u2 : St) => post u2))
set_option maxHeartbeats 4000000 in
set_option maxRecDepth 20000 in
theorem z_X3_expect {X : XX} {ad : Nat → Nat} {cs : Nat → ClassId} {post : St → Prop} (C : CxC X ad cs cX3_expect RX3 1 20) (hn : xnL X = 3) (hR : rtV X cX3_expect (wC ad cs) post) (u : St) (x1 : Int32) (x2 : Int32) (hw : wp_X3_expect u x1 x2 post) : Z X (wC ad cs u) 0 [(0, .ref (ad 1)), (1, .int x1), (2, .int x2)] [] := by
  unfold wp_X3_expect at hw
  refine z_aload_n C.1 dX3_expect_0 rfl 0 rfl ?_
  refine gC_1_tape C mF_X3_16 dX3_expect_1 ?_
  refine gC_2_kind C mF_X3_58 dX3_expect_4 ?_
  refine z_iload_n C.1 dX3_expect_7 rfl 1 rfl ?_
  refine z_icmp_ne (tgt := 19) C.1 dX3_expect_8 (by decide) (fun c1 => ?_) (fun c1 => ?_)
  · replace hw := hw.2 c1
    refine z_aload_n C.1 dX3_expect_19 rfl 0 rfl ?_
    refine k_X3_fail C mM_X3_76 hw (by decide) (Nat.le_of_ble_eq_true rfl) dX3_expect_20 (fun u2 hw => ?_)
    exact hR _ _ _ dX3_expect_23 hw
  · replace hw := hw.1 c1
    refine z_aload_n C.1 dX3_expect_11 rfl 0 rfl ?_
    refine z_iload_n C.1 dX3_expect_12 rfl 2 rfl ?_
    refine pC_1_due C mF_X3_46 dX3_expect_13 (fun u3 eu3 => ?_)
    replace hw := hw u3 eu3
    refine z_goto (tgt := 23) C.1 dX3_expect_16 (by decide) ?_
    exact hR _ _ _ dX3_expect_23 hw
theorem c_X3_expect {l : Launch} {D : va_G} {A : Nat → Prop} {ad : Nat → Nat} {cs : Nat → ClassId} (hD : ∀ u : St, va_D A (wC ad cs u)) (u : St) (x1 : Int32) (x2 : Int32) (post : St → Prop) (hw : wp_X3_expect u x1 x2 post) : MV (ad 90, ad 91) l yX3_expect cX3_expect 3 none (rmm 1 20) D (tysC cs) A (wC ad cs) u [.ref (ad 1), .int x1, .int x2] post :=
  met_v (by decide) (Nat.le_of_ble_eq_true rfl) (fun X C _ _ ht hA hn hsg hR => z_X3_expect ⟨C, ht, fun u => by rw [hA]; exact hD u, hsg⟩ hn hR u x1 x2 hw)
theorem k_X3_expect {X : XX} {ad : Nat → Nat} {cs : Nat → ClassId} {cc : ByteArray} {own : String} {fr lo pc : Nat} {lv : List (Nat × Value)} {st : List Value} {u : St} (C : CxC X ad cs cc own fr lo) {idx : Nat} {x1 : Int32} {x2 : Int32} {P : St → Prop} (hlink : Cond.methodLink own idx yX3_expect ∈ W0) (hw : wp_X3_expect u x1 x2 P) (hr : 1 + 1 ≤ fr ∧ 8 + (3 + 11) + 20 ≤ lo) (hst : (st.map fun v => v.category).sum ≤ 8) (hdg : decode cc pc = .ok (.invokevirtual idx, 3)) (k : ∀ (u2 : St), P u2 → Z X (wC ad cs u2) (pc + 3) lv st) : Z X (wC ad cs u) pc lv (.int x2 :: .int x1 :: .ref (ad 1) :: st) :=
  z_callVv (wf := wC ad cs) (As := [.int x1, .int x2]) (rest := st) C.1 2 (q0 := 1) mI_X3_expect mS_X3_expect rfl rfl (by rw [C.2.1, C.2.2.2]; exact c_X3_expect C.2.2.1 u x1 x2 P hw) mC_X3_expect mZ_X3 (by decide +kernel) rfl hlink hr hst hdg k

def wp_X3_endBody (u : St) (post : St → Prop) : Prop :=
  (vp_in (gI u 1) 12 ∧ nm (sA u 17 (ix (gI u 1)) (gI u 4)) (fun u1 : St => nm (sI u1 12 ((gI u1 12) + 1)) (fun u2 : St => wp_X3_expect u2 59 0 (fun (u3 : St) => post u3))))
set_option maxHeartbeats 4000000 in
set_option maxRecDepth 20000 in
theorem z_X3_endBody {X : XX} {ad : Nat → Nat} {cs : Nat → ClassId} {post : St → Prop} (C : CxC X ad cs cX3_endBody RX3 2 42) (hn : xnL X = 1) (hR : rtV X cX3_endBody (wC ad cs) post) (u : St) (hw : wp_X3_endBody u post) : Z X (wC ad cs u) 0 [(0, .ref (ad 1))] [] := by
  unfold wp_X3_endBody at hw
  refine z_aload_n C.1 dX3_endBody_0 rfl 0 rfl ?_
  refine gC_1_program C mF_X3_38 dX3_endBody_1 ?_
  refine gC_3_root C mF_X3_201 dX3_endBody_4 ?_
  refine z_aload_n C.1 dX3_endBody_7 rfl 0 rfl ?_
  refine gC_1_current C mF_X3_92 dX3_endBody_8 ?_
  refine z_aload_n C.1 dX3_endBody_11 rfl 0 rfl ?_
  refine gC_1_latest C mF_X3_204 dX3_endBody_12 ?_
  refine sC_17 C hw.1 dX3_endBody_15 (fun u1 eu1 => ?_)
  replace hw := hw.2 u1 eu1
  refine z_aload_n C.1 dX3_endBody_16 rfl 0 rfl ?_
  refine gC_1_program C mF_X3_38 dX3_endBody_17 ?_
  refine z_dup C.1 dX3_endBody_20 rfl ?_
  refine gC_3_definitions C mF_X3_42 dX3_endBody_21 ?_
  refine z_iconst (v := 1) C.1 dX3_endBody_24 (by decide) ?_
  refine z_iadd C.1 dX3_endBody_25 ?_
  refine pC_3_definitions C mF_X3_42 dX3_endBody_26 (fun u2 eu2 => ?_)
  replace hw := hw u2 eu2
  refine z_aload_n C.1 dX3_endBody_29 rfl 0 rfl ?_
  refine z_bipush (v := 59) C.1 dX3_endBody_30 (by decide) ?_
  refine z_iconst (v := 0) C.1 dX3_endBody_32 (by decide) ?_
  refine k_X3_expect C mM_X3_85 hw (by decide) (Nat.le_of_ble_eq_true rfl) dX3_endBody_33 (fun u3 hw => ?_)
  exact hR _ _ _ dX3_endBody_36 hw
theorem c_X3_endBody {l : Launch} {D : va_G} {A : Nat → Prop} {ad : Nat → Nat} {cs : Nat → ClassId} (hD : ∀ u : St, va_D A (wC ad cs u)) (u : St) (post : St → Prop) (hw : wp_X3_endBody u post) : MV (ad 90, ad 91) l yX3_endBody cX3_endBody 1 none (rmm 2 42) D (tysC cs) A (wC ad cs) u [.ref (ad 1)] post :=
  met_v (by decide) (Nat.le_of_ble_eq_true rfl) (fun X C _ _ ht hA hn hsg hR => z_X3_endBody ⟨C, ht, fun u => by rw [hA]; exact hD u, hsg⟩ hn hR u hw)
theorem k_X3_endBody {X : XX} {ad : Nat → Nat} {cs : Nat → ClassId} {cc : ByteArray} {own : String} {fr lo pc : Nat} {lv : List (Nat × Value)} {st : List Value} {u : St} (C : CxC X ad cs cc own fr lo) {idx : Nat} {P : St → Prop} (hlink : Cond.methodLink own idx yX3_endBody ∈ W0) (hw : wp_X3_endBody u P) (hr : 2 + 1 ≤ fr ∧ 8 + (1 + 11) + 42 ≤ lo) (hst : (st.map fun v => v.category).sum ≤ 8) (hdg : decode cc pc = .ok (.invokevirtual idx, 3)) (k : ∀ (u2 : St), P u2 → Z X (wC ad cs u2) (pc + 3) lv st) : Z X (wC ad cs u) pc lv (.ref (ad 1) :: st) :=
  z_callVv (wf := wC ad cs) (As := []) (rest := st) C.1 0 (q0 := 1) mI_X3_endBody mS_X3_endBody rfl rfl (by rw [C.2.1, C.2.2.2]; exact c_X3_endBody C.2.2.1 u P hw) mC_X3_endBody mZ_X3 (by decide +kernel) rfl hlink hr hst hdg k

def wp_X3_endParentheses (u : St) (post : St → Prop) : Prop :=
  nm (sI u 2 ((gI u 2) - 1)) (fun u1 : St => nm (sI u1 3 ((gI u1 3) - 1)) (fun u2 : St => wp_X3_expect u2 41 7 (fun (u3 : St) => post u3)))
set_option maxHeartbeats 4000000 in
set_option maxRecDepth 20000 in
theorem z_X3_endParentheses {X : XX} {ad : Nat → Nat} {cs : Nat → ClassId} {post : St → Prop} (C : CxC X ad cs cX3_endParentheses RX3 2 42) (hn : xnL X = 1) (hR : rtV X cX3_endParentheses (wC ad cs) post) (u : St) (hw : wp_X3_endParentheses u post) : Z X (wC ad cs u) 0 [(0, .ref (ad 1))] [] := by
  unfold wp_X3_endParentheses at hw
  refine z_aload_n C.1 dX3_endParentheses_0 rfl 0 rfl ?_
  refine z_dup C.1 dX3_endParentheses_1 rfl ?_
  refine gC_1_opened C mF_X3_109 dX3_endParentheses_2 ?_
  refine z_iconst (v := 1) C.1 dX3_endParentheses_5 (by decide) ?_
  refine z_isub C.1 dX3_endParentheses_6 ?_
  refine pC_1_opened C mF_X3_109 dX3_endParentheses_7 (fun u1 eu1 => ?_)
  replace hw := hw u1 eu1
  refine z_aload_n C.1 dX3_endParentheses_10 rfl 0 rfl ?_
  refine z_dup C.1 dX3_endParentheses_11 rfl ?_
  refine gC_1_parentheses C mF_X3_112 dX3_endParentheses_12 ?_
  refine z_iconst (v := 1) C.1 dX3_endParentheses_15 (by decide) ?_
  refine z_isub C.1 dX3_endParentheses_16 ?_
  refine pC_1_parentheses C mF_X3_112 dX3_endParentheses_17 (fun u2 eu2 => ?_)
  replace hw := hw u2 eu2
  refine z_aload_n C.1 dX3_endParentheses_20 rfl 0 rfl ?_
  refine z_bipush (v := 41) C.1 dX3_endParentheses_21 (by decide) ?_
  refine z_bipush (v := 7) C.1 dX3_endParentheses_23 (by decide) ?_
  refine k_X3_expect C mM_X3_85 hw (by decide) (Nat.le_of_ble_eq_true rfl) dX3_endParentheses_25 (fun u3 hw => ?_)
  exact hR _ _ _ dX3_endParentheses_28 hw
theorem c_X3_endParentheses {l : Launch} {D : va_G} {A : Nat → Prop} {ad : Nat → Nat} {cs : Nat → ClassId} (hD : ∀ u : St, va_D A (wC ad cs u)) (u : St) (post : St → Prop) (hw : wp_X3_endParentheses u post) : MV (ad 90, ad 91) l yX3_endParentheses cX3_endParentheses 1 none (rmm 2 42) D (tysC cs) A (wC ad cs) u [.ref (ad 1)] post :=
  met_v (by decide) (Nat.le_of_ble_eq_true rfl) (fun X C _ _ ht hA hn hsg hR => z_X3_endParentheses ⟨C, ht, fun u => by rw [hA]; exact hD u, hsg⟩ hn hR u hw)
theorem k_X3_endParentheses {X : XX} {ad : Nat → Nat} {cs : Nat → ClassId} {cc : ByteArray} {own : String} {fr lo pc : Nat} {lv : List (Nat × Value)} {st : List Value} {u : St} (C : CxC X ad cs cc own fr lo) {idx : Nat} {P : St → Prop} (hlink : Cond.methodLink own idx yX3_endParentheses ∈ W0) (hw : wp_X3_endParentheses u P) (hr : 2 + 1 ≤ fr ∧ 8 + (1 + 11) + 42 ≤ lo) (hst : (st.map fun v => v.category).sum ≤ 8) (hdg : decode cc pc = .ok (.invokevirtual idx, 3)) (k : ∀ (u2 : St), P u2 → Z X (wC ad cs u2) (pc + 3) lv st) : Z X (wC ad cs u) pc lv (.ref (ad 1) :: st) :=
  z_callVv (wf := wC ad cs) (As := []) (rest := st) C.1 0 (q0 := 1) mI_X3_endParentheses mS_X3_endParentheses rfl rfl (by rw [C.2.1, C.2.2.2]; exact c_X3_endParentheses C.2.2.1 u P hw) mC_X3_endParentheses mZ_X3 (by decide +kernel) rfl hlink hr hst hdg k

def wp_X3_wordBehind (u : St) (x1 : Int32) (post : Int32 → St → Prop) : Prop :=
  (vp_in x1 720 ∧ br ((gA u 18 (ix x1)) = 6) (post 8 u) ((vp_in x1 720 ∧ br ((gA u 18 (ix x1)) = 5) ((vp_in x1 720 ∧ br ((gA u 20 (ix x1)) = 0) (post 5 u) (post 6 u))) (post (-1) u))))
set_option maxHeartbeats 4000000 in
set_option maxRecDepth 20000 in
theorem z_X3_wordBehind {X : XX} {ad : Nat → Nat} {cs : Nat → ClassId} {post : Int32 → St → Prop} (C : CxC X ad cs cX3_wordBehind RX3 0 0) (hn : xnL X = 2) (hR : rtI X cX3_wordBehind (wC ad cs) post) (u : St) (x1 : Int32) (hw : wp_X3_wordBehind u x1 post) : Z X (wC ad cs u) 0 [(0, .ref (ad 1)), (1, .int x1)] [] := by
  unfold wp_X3_wordBehind at hw
  refine z_aload_n C.1 dX3_wordBehind_0 rfl 0 rfl ?_
  refine gC_1_program C mF_X3_38 dX3_wordBehind_1 ?_
  refine gC_3_kind C mF_X3_207 dX3_wordBehind_4 ?_
  refine z_iload_n C.1 dX3_wordBehind_7 rfl 1 rfl ?_
  refine lC_18 C hw.1 dX3_wordBehind_8 ?_
  replace hw := hw.2
  refine z_bipush (v := 6) C.1 dX3_wordBehind_9 (by decide) ?_
  refine z_icmp_ne (tgt := 17) C.1 dX3_wordBehind_11 (by decide) (fun c1 => ?_) (fun c1 => ?_)
  · replace hw := hw.2 c1
    refine z_aload_n C.1 dX3_wordBehind_17 rfl 0 rfl ?_
    refine gC_1_program C mF_X3_38 dX3_wordBehind_18 ?_
    refine gC_3_kind C mF_X3_207 dX3_wordBehind_21 ?_
    refine z_iload_n C.1 dX3_wordBehind_24 rfl 1 rfl ?_
    refine lC_18 C hw.1 dX3_wordBehind_25 ?_
    replace hw := hw.2
    refine z_iconst (v := 5) C.1 dX3_wordBehind_26 (by decide) ?_
    refine z_icmp_ne (tgt := 49) C.1 dX3_wordBehind_27 (by decide) (fun c2 => ?_) (fun c2 => ?_)
    · replace hw := hw.2 c2
      refine z_iconst (v := (-1)) C.1 dX3_wordBehind_49 (by decide) ?_
      exact hR _ _ _ _ dX3_wordBehind_50 hw
    · replace hw := hw.1 c2
      refine z_aload_n C.1 dX3_wordBehind_30 rfl 0 rfl ?_
      refine gC_1_program C mF_X3_38 dX3_wordBehind_31 ?_
      refine gC_3_children C mF_X3_209 dX3_wordBehind_34 ?_
      refine z_iload_n C.1 dX3_wordBehind_37 rfl 1 rfl ?_
      refine lC_20 C hw.1 dX3_wordBehind_38 ?_
      replace hw := hw.2
      refine z_if_ne (tgt := 46) C.1 dX3_wordBehind_39 (by decide) (fun c3 => ?_) (fun c3 => ?_)
      · replace hw := hw.2 c3
        refine z_bipush (v := 6) C.1 dX3_wordBehind_46 (by decide) ?_
        exact hR _ _ _ _ dX3_wordBehind_48 hw
      · replace hw := hw.1 c3
        refine z_iconst (v := 5) C.1 dX3_wordBehind_42 (by decide) ?_
        refine z_goto (tgt := 48) C.1 dX3_wordBehind_43 (by decide) ?_
        exact hR _ _ _ _ dX3_wordBehind_48 hw
  · replace hw := hw.1 c1
    refine z_bipush (v := 8) C.1 dX3_wordBehind_14 (by decide) ?_
    exact hR _ _ _ _ dX3_wordBehind_16 hw
theorem c_X3_wordBehind {l : Launch} {D : va_G} {A : Nat → Prop} {ad : Nat → Nat} {cs : Nat → ClassId} (hD : ∀ u : St, va_D A (wC ad cs u)) (u : St) (x1 : Int32) (post : Int32 → St → Prop) (hw : wp_X3_wordBehind u x1 post) : MI (ad 90, ad 91) l yX3_wordBehind cX3_wordBehind 2 (some .int) (rmm 0 0) D (tysC cs) A (wC ad cs) u [.ref (ad 1), .int x1] post :=
  met_i (by decide) (Nat.le_of_ble_eq_true rfl) (fun X C _ _ ht hA hn hsg hR => z_X3_wordBehind ⟨C, ht, fun u => by rw [hA]; exact hD u, hsg⟩ hn hR u x1 hw)
theorem k_X3_wordBehind {X : XX} {ad : Nat → Nat} {cs : Nat → ClassId} {cc : ByteArray} {own : String} {fr lo pc : Nat} {lv : List (Nat × Value)} {st : List Value} {u : St} (C : CxC X ad cs cc own fr lo) {idx : Nat} {x1 : Int32} {P : Int32 → St → Prop} (hlink : Cond.methodLink own idx yX3_wordBehind ∈ W0) (hw : wp_X3_wordBehind u x1 P) (hr : 0 + 1 ≤ fr ∧ 8 + (2 + 11) + 0 ≤ lo) (hst : (st.map fun v => v.category).sum ≤ 8) (hdg : decode cc pc = .ok (.invokevirtual idx, 3)) (k : ∀ (r : Int32) (u2 : St), P r u2 → Z X (wC ad cs u2) (pc + 3) lv (.int r :: st)) : Z X (wC ad cs u) pc lv (.int x1 :: .ref (ad 1) :: st) :=
  z_callVi (wf := wC ad cs) (As := [.int x1]) (rest := st) C.1 1 (q0 := 1) mI_X3_wordBehind mS_X3_wordBehind rfl rfl (by rw [C.2.1, C.2.2.2]; exact c_X3_wordBehind C.2.2.1 u x1 P hw) mC_X3_wordBehind mZ_X3 (by decide +kernel) rfl hlink hr hst hdg k

def wp_X3_endExpressionIn_168 (u : St) (x1 : Int32) (post : St → Prop) : Prop :=
  wp_X2_attach u x1 (gI u 4) (fun (u18 : St) => nm (sI u18 5 6) (fun u19 : St => post u19))
set_option maxHeartbeats 4000000 in
set_option maxRecDepth 20000 in
theorem z_X3_endExpressionIn_168 {X : XX} {ad : Nat → Nat} {cs : Nat → ClassId} {post : St → Prop} (C : CxC X ad cs cX3_endExpressionIn RX3 2 42) (hn : xnL X = 5) (hR : rtV X cX3_endExpressionIn (wC ad cs) post) (u : St) (x1 : Int32) (hw : wp_X3_endExpressionIn_168 u x1 post) : Z X (wC ad cs u) 168 [(0, .ref (ad 1)), (1, .int x1)] [] := by
  unfold wp_X3_endExpressionIn_168 at hw
  refine z_aload_n C.1 dX3_endExpressionIn_168 rfl 0 rfl ?_
  refine gC_1_program C mF_X3_38 dX3_endExpressionIn_169 ?_
  refine z_iload_n C.1 dX3_endExpressionIn_172 rfl 1 rfl ?_
  refine z_aload_n C.1 dX3_endExpressionIn_173 rfl 0 rfl ?_
  refine gC_1_latest C mF_X3_204 dX3_endExpressionIn_174 ?_
  refine k_X2_attach C mM_X3_212 hw (by decide) (Nat.le_of_ble_eq_true rfl) dX3_endExpressionIn_177 (fun u18 hw => ?_)
  refine z_aload_n C.1 dX3_endExpressionIn_180 rfl 0 rfl ?_
  refine z_bipush (v := 6) C.1 dX3_endExpressionIn_181 (by decide) ?_
  refine pC_1_due C mF_X3_46 dX3_endExpressionIn_183 (fun u19 eu19 => ?_)
  replace hw := hw u19 eu19
  refine z_goto (tgt := 193) C.1 dX3_endExpressionIn_186 (by decide) ?_
  exact hR _ _ _ dX3_endExpressionIn_193 hw
def wp_X3_endExpressionIn_153 (u : St) (x1 : Int32) (post : St → Prop) : Prop :=
  wp_X3_wordBehind u x1 (fun (r21 : Int32) (u20 : St) => br ((gI u 9) = r21) (wp_X3_endExpressionIn_168 u20 x1 post) (wp_X3_fail u20 (fun (u23 : St) => post u23)))
set_option maxHeartbeats 4000000 in
set_option maxRecDepth 20000 in
theorem z_X3_endExpressionIn_153 {X : XX} {ad : Nat → Nat} {cs : Nat → ClassId} {post : St → Prop} (C : CxC X ad cs cX3_endExpressionIn RX3 2 42) (hn : xnL X = 5) (hR : rtV X cX3_endExpressionIn (wC ad cs) post) (u : St) (x1 : Int32) (hw : wp_X3_endExpressionIn_153 u x1 post) : Z X (wC ad cs u) 153 [(0, .ref (ad 1)), (1, .int x1)] [] := by
  unfold wp_X3_endExpressionIn_153 at hw
  refine z_aload_n C.1 dX3_endExpressionIn_153 rfl 0 rfl ?_
  refine gC_1_tape C mF_X3_16 dX3_endExpressionIn_154 ?_
  refine gC_2_kind C mF_X3_58 dX3_endExpressionIn_157 ?_
  refine z_aload_n C.1 dX3_endExpressionIn_160 rfl 0 rfl ?_
  refine z_iload_n C.1 dX3_endExpressionIn_161 rfl 1 rfl ?_
  refine k_X3_wordBehind C mM_X3_215 hw (by decide) (Nat.le_of_ble_eq_true rfl) dX3_endExpressionIn_162 (fun r21 u20 hw => ?_)
  refine z_icmp_ne (tgt := 189) C.1 dX3_endExpressionIn_165 (by decide) (fun c22 => ?_) (fun c22 => ?_)
  · replace hw := hw.2 c22
    refine z_aload_n C.1 dX3_endExpressionIn_189 rfl 0 rfl ?_
    refine k_X3_fail C mM_X3_76 hw (by decide) (Nat.le_of_ble_eq_true rfl) dX3_endExpressionIn_190 (fun u23 hw => ?_)
    exact hR _ _ _ dX3_endExpressionIn_193 hw
  · replace hw := hw.1 c22
    refine z_lv [0, 1] rfl ?_
    exact z_X3_endExpressionIn_168 C hn hR _ _ hw
def wp_X3_endExpressionIn_136 (u : St) (x1 : Int32) (x4 : Int32) (post : St → Prop) : Prop :=
  br (x4 = 0) (wp_X3_endExpressionIn_153 u x1 post) (br ((gI u 9) = 44) (wp_X3_endExpressionIn_168 u x1 post) (wp_X3_endExpressionIn_153 u x1 post))
set_option maxHeartbeats 4000000 in
set_option maxRecDepth 20000 in
theorem z_X3_endExpressionIn_136 {X : XX} {ad : Nat → Nat} {cs : Nat → ClassId} {post : St → Prop} (C : CxC X ad cs cX3_endExpressionIn RX3 2 42) (hn : xnL X = 5) (hR : rtV X cX3_endExpressionIn (wC ad cs) post) (u : St) (x1 : Int32) (x4 : Int32) (hw : wp_X3_endExpressionIn_136 u x1 x4 post) : Z X (wC ad cs u) 136 [(0, .ref (ad 1)), (1, .int x1), (4, .int x4)] [] := by
  unfold wp_X3_endExpressionIn_136 at hw
  refine z_iload C.1 dX3_endExpressionIn_136 2 rfl ?_
  refine z_if_eq (tgt := 153) C.1 dX3_endExpressionIn_138 (by decide) (fun c16 => ?_) (fun c16 => ?_)
  · replace hw := hw.1 c16
    refine z_lv [0, 1] rfl ?_
    exact z_X3_endExpressionIn_153 C hn hR _ _ hw
  · replace hw := hw.2 c16
    refine z_aload_n C.1 dX3_endExpressionIn_141 rfl 0 rfl ?_
    refine gC_1_tape C mF_X3_16 dX3_endExpressionIn_142 ?_
    refine gC_2_kind C mF_X3_58 dX3_endExpressionIn_145 ?_
    refine z_bipush (v := 44) C.1 dX3_endExpressionIn_148 (by decide) ?_
    refine z_icmp_eq (tgt := 168) C.1 dX3_endExpressionIn_150 (by decide) (fun c17 => ?_) (fun c17 => ?_)
    · replace hw := hw.1 c17
      refine z_lv [0, 1] rfl ?_
      exact z_X3_endExpressionIn_168 C hn hR _ _ hw
    · replace hw := hw.2 c17
      refine z_lv [0, 1] rfl ?_
      exact z_X3_endExpressionIn_153 C hn hR _ _ hw
def wp_X3_endExpressionIn_99 (u : St) (x1 : Int32) (x3 : Int32) (x4 : Int32) (post : St → Prop) : Prop :=
  br (x3 = 0) (wp_X3_endExpressionIn_136 u x1 x4 post) (br ((gI u 9) = 44) (wp_X2_attach u x1 (gI u 4) (fun (u14 : St) => nm (sI u14 5 11) (fun u15 : St => post u15))) (wp_X3_endExpressionIn_136 u x1 x4 post))
set_option maxHeartbeats 4000000 in
set_option maxRecDepth 20000 in
theorem z_X3_endExpressionIn_99 {X : XX} {ad : Nat → Nat} {cs : Nat → ClassId} {post : St → Prop} (C : CxC X ad cs cX3_endExpressionIn RX3 2 42) (hn : xnL X = 5) (hR : rtV X cX3_endExpressionIn (wC ad cs) post) (u : St) (x1 : Int32) (x3 : Int32) (x4 : Int32) (hw : wp_X3_endExpressionIn_99 u x1 x3 x4 post) : Z X (wC ad cs u) 99 [(0, .ref (ad 1)), (1, .int x1), (3, .int x3), (4, .int x4)] [] := by
  unfold wp_X3_endExpressionIn_99 at hw
  refine z_iload_n C.1 dX3_endExpressionIn_99 rfl 2 rfl ?_
  refine z_if_eq (tgt := 136) C.1 dX3_endExpressionIn_100 (by decide) (fun c12 => ?_) (fun c12 => ?_)
  · replace hw := hw.1 c12
    refine z_lv [0, 1, 3] rfl ?_
    exact z_X3_endExpressionIn_136 C hn hR _ _ _ hw
  · replace hw := hw.2 c12
    refine z_aload_n C.1 dX3_endExpressionIn_103 rfl 0 rfl ?_
    refine gC_1_tape C mF_X3_16 dX3_endExpressionIn_104 ?_
    refine gC_2_kind C mF_X3_58 dX3_endExpressionIn_107 ?_
    refine z_bipush (v := 44) C.1 dX3_endExpressionIn_110 (by decide) ?_
    refine z_icmp_ne (tgt := 136) C.1 dX3_endExpressionIn_112 (by decide) (fun c13 => ?_) (fun c13 => ?_)
    · replace hw := hw.2 c13
      refine z_lv [0, 1, 3] rfl ?_
      exact z_X3_endExpressionIn_136 C hn hR _ _ _ hw
    · replace hw := hw.1 c13
      refine z_aload_n C.1 dX3_endExpressionIn_115 rfl 0 rfl ?_
      refine gC_1_program C mF_X3_38 dX3_endExpressionIn_116 ?_
      refine z_iload_n C.1 dX3_endExpressionIn_119 rfl 1 rfl ?_
      refine z_aload_n C.1 dX3_endExpressionIn_120 rfl 0 rfl ?_
      refine gC_1_latest C mF_X3_204 dX3_endExpressionIn_121 ?_
      refine k_X2_attach C mM_X3_212 hw (by decide) (Nat.le_of_ble_eq_true rfl) dX3_endExpressionIn_124 (fun u14 hw => ?_)
      refine z_aload_n C.1 dX3_endExpressionIn_127 rfl 0 rfl ?_
      refine z_bipush (v := 11) C.1 dX3_endExpressionIn_128 (by decide) ?_
      refine pC_1_due C mF_X3_46 dX3_endExpressionIn_130 (fun u15 eu15 => ?_)
      replace hw := hw u15 eu15
      refine z_goto (tgt := 193) C.1 dX3_endExpressionIn_133 (by decide) ?_
      exact hR _ _ _ dX3_endExpressionIn_193 hw
def wp_X3_endExpressionIn_92 (u : St) (post : St → Prop) : Prop :=
  wp_X3_endWithLatest u (fun (u9 : St) => post u9)
set_option maxHeartbeats 4000000 in
set_option maxRecDepth 20000 in
theorem z_X3_endExpressionIn_92 {X : XX} {ad : Nat → Nat} {cs : Nat → ClassId} {post : St → Prop} (C : CxC X ad cs cX3_endExpressionIn RX3 2 42) (hn : xnL X = 5) (hR : rtV X cX3_endExpressionIn (wC ad cs) post) (u : St) (hw : wp_X3_endExpressionIn_92 u post) : Z X (wC ad cs u) 92 [(0, .ref (ad 1))] [] := by
  unfold wp_X3_endExpressionIn_92 at hw
  refine z_aload_n C.1 dX3_endExpressionIn_92 rfl 0 rfl ?_
  refine k_X3_endWithLatest C mM_X3_189 hw (by decide) (Nat.le_of_ble_eq_true rfl) dX3_endExpressionIn_93 (fun u9 hw => ?_)
  refine z_goto (tgt := 193) C.1 dX3_endExpressionIn_96 (by decide) ?_
  exact hR _ _ _ dX3_endExpressionIn_193 hw
def wp_X3_endExpressionIn_74 (u : St) (x1 : Int32) (x2 : Int32) (x3 : Int32) (x4 : Int32) (post : St → Prop) : Prop :=
  br (x2 = 9) (br ((gI u 9) = 93) (wp_X3_endExpressionIn_92 u post) (wp_X3_endExpressionIn_99 u x1 x3 x4 post)) (wp_X3_endExpressionIn_99 u x1 x3 x4 post)
set_option maxHeartbeats 4000000 in
set_option maxRecDepth 20000 in
theorem z_X3_endExpressionIn_74 {X : XX} {ad : Nat → Nat} {cs : Nat → ClassId} {post : St → Prop} (C : CxC X ad cs cX3_endExpressionIn RX3 2 42) (hn : xnL X = 5) (hR : rtV X cX3_endExpressionIn (wC ad cs) post) (u : St) (x1 : Int32) (x2 : Int32) (x3 : Int32) (x4 : Int32) (hw : wp_X3_endExpressionIn_74 u x1 x2 x3 x4 post) : Z X (wC ad cs u) 74 [(0, .ref (ad 1)), (1, .int x1), (2, .int x2), (3, .int x3), (4, .int x4)] [] := by
  unfold wp_X3_endExpressionIn_74 at hw
  refine z_iload_n C.1 dX3_endExpressionIn_74 rfl 2 rfl ?_
  refine z_bipush (v := 9) C.1 dX3_endExpressionIn_75 (by decide) ?_
  refine z_icmp_ne (tgt := 99) C.1 dX3_endExpressionIn_77 (by decide) (fun c10 => ?_) (fun c10 => ?_)
  · replace hw := hw.2 c10
    refine z_lv [0, 1, 3, 4] rfl ?_
    exact z_X3_endExpressionIn_99 C hn hR _ _ _ _ hw
  · replace hw := hw.1 c10
    refine z_aload_n C.1 dX3_endExpressionIn_80 rfl 0 rfl ?_
    refine gC_1_tape C mF_X3_16 dX3_endExpressionIn_81 ?_
    refine gC_2_kind C mF_X3_58 dX3_endExpressionIn_84 ?_
    refine z_bipush (v := 93) C.1 dX3_endExpressionIn_87 (by decide) ?_
    refine z_icmp_ne (tgt := 99) C.1 dX3_endExpressionIn_89 (by decide) (fun c11 => ?_) (fun c11 => ?_)
    · replace hw := hw.2 c11
      refine z_lv [0, 1, 3, 4] rfl ?_
      exact z_X3_endExpressionIn_99 C hn hR _ _ _ _ hw
    · replace hw := hw.1 c11
      refine z_lv [0] rfl ?_
      exact z_X3_endExpressionIn_92 C hn hR _ hw
def wp_X3_endExpressionIn_55 (u : St) (x1 : Int32) (x2 : Int32) (x3 : Int32) (y0 : Int32) (post : St → Prop) : Prop :=
  br (y0 = 0) (wp_X3_endExpressionIn_74 u x1 x2 x3 y0 post) (br ((gI u 9) = 41) (wp_X3_endExpressionIn_92 u post) (wp_X3_endExpressionIn_74 u x1 x2 x3 y0 post))
set_option maxHeartbeats 4000000 in
set_option maxRecDepth 20000 in
theorem z_X3_endExpressionIn_55 {X : XX} {ad : Nat → Nat} {cs : Nat → ClassId} {post : St → Prop} (C : CxC X ad cs cX3_endExpressionIn RX3 2 42) (hn : xnL X = 5) (hR : rtV X cX3_endExpressionIn (wC ad cs) post) (u : St) (x1 : Int32) (x2 : Int32) (x3 : Int32) (y0 : Int32) (hw : wp_X3_endExpressionIn_55 u x1 x2 x3 y0 post) : Z X (wC ad cs u) 55 [(0, .ref (ad 1)), (1, .int x1), (2, .int x2), (3, .int x3)] [.int y0] := by
  unfold wp_X3_endExpressionIn_55 at hw
  refine z_istore (lv' := [(4, .int y0), (0, .ref (ad 1)), (1, .int x1), (2, .int x2), (3, .int x3)]) C.1 dX3_endExpressionIn_55 (by rw [hn]; decide) rfl ?_
  refine z_iload C.1 dX3_endExpressionIn_57 0 rfl ?_
  refine z_if_eq (tgt := 74) C.1 dX3_endExpressionIn_59 (by decide) (fun c7 => ?_) (fun c7 => ?_)
  · replace hw := hw.1 c7
    refine z_lv [1, 2, 3, 4, 0] rfl ?_
    exact z_X3_endExpressionIn_74 C hn hR _ _ _ _ _ hw
  · replace hw := hw.2 c7
    refine z_aload_n C.1 dX3_endExpressionIn_62 rfl 1 rfl ?_
    refine gC_1_tape C mF_X3_16 dX3_endExpressionIn_63 ?_
    refine gC_2_kind C mF_X3_58 dX3_endExpressionIn_66 ?_
    refine z_bipush (v := 41) C.1 dX3_endExpressionIn_69 (by decide) ?_
    refine z_icmp_eq (tgt := 92) C.1 dX3_endExpressionIn_71 (by decide) (fun c8 => ?_) (fun c8 => ?_)
    · replace hw := hw.1 c8
      refine z_lv [1] rfl ?_
      exact z_X3_endExpressionIn_92 C hn hR _ hw
    · replace hw := hw.2 c8
      refine z_lv [1, 2, 3, 4, 0] rfl ?_
      exact z_X3_endExpressionIn_74 C hn hR _ _ _ _ _ hw
def wp_X3_endExpressionIn_50 (u : St) (x1 : Int32) (x2 : Int32) (x3 : Int32) (post : St → Prop) : Prop :=
  wp_X3_endExpressionIn_55 u x1 x2 x3 1 post
set_option maxHeartbeats 4000000 in
set_option maxRecDepth 20000 in
theorem z_X3_endExpressionIn_50 {X : XX} {ad : Nat → Nat} {cs : Nat → ClassId} {post : St → Prop} (C : CxC X ad cs cX3_endExpressionIn RX3 2 42) (hn : xnL X = 5) (hR : rtV X cX3_endExpressionIn (wC ad cs) post) (u : St) (x1 : Int32) (x2 : Int32) (x3 : Int32) (hw : wp_X3_endExpressionIn_50 u x1 x2 x3 post) : Z X (wC ad cs u) 50 [(0, .ref (ad 1)), (1, .int x1), (2, .int x2), (3, .int x3)] [] := by
  unfold wp_X3_endExpressionIn_50 at hw
  refine z_iconst (v := 1) C.1 dX3_endExpressionIn_50 (by decide) ?_
  refine z_goto (tgt := 55) C.1 dX3_endExpressionIn_51 (by decide) ?_
  refine z_lv [0, 1, 2, 3] rfl ?_
  exact z_X3_endExpressionIn_55 C hn hR _ _ _ _ _ hw
def wp_X3_endExpressionIn_54 (u : St) (x1 : Int32) (x2 : Int32) (x3 : Int32) (post : St → Prop) : Prop :=
  wp_X3_endExpressionIn_55 u x1 x2 x3 0 post
set_option maxHeartbeats 4000000 in
set_option maxRecDepth 20000 in
theorem z_X3_endExpressionIn_54 {X : XX} {ad : Nat → Nat} {cs : Nat → ClassId} {post : St → Prop} (C : CxC X ad cs cX3_endExpressionIn RX3 2 42) (hn : xnL X = 5) (hR : rtV X cX3_endExpressionIn (wC ad cs) post) (u : St) (x1 : Int32) (x2 : Int32) (x3 : Int32) (hw : wp_X3_endExpressionIn_54 u x1 x2 x3 post) : Z X (wC ad cs u) 54 [(0, .ref (ad 1)), (1, .int x1), (2, .int x2), (3, .int x3)] [] := by
  unfold wp_X3_endExpressionIn_54 at hw
  refine z_iconst (v := 0) C.1 dX3_endExpressionIn_54 (by decide) ?_
  refine z_lv [0, 1, 2, 3] rfl ?_
  exact z_X3_endExpressionIn_55 C hn hR _ _ _ _ _ hw
def wp_X3_endExpressionIn_33 (u : St) (x1 : Int32) (x2 : Int32) (y0 : Int32) (post : St → Prop) : Prop :=
  br (x2 = 7) (wp_X3_endExpressionIn_50 u x1 x2 y0 post) (br (x2 = 8) (br (y0 = 0) (wp_X3_endExpressionIn_50 u x1 x2 y0 post) (wp_X3_endExpressionIn_54 u x1 x2 y0 post)) (wp_X3_endExpressionIn_54 u x1 x2 y0 post))
set_option maxHeartbeats 4000000 in
set_option maxRecDepth 20000 in
theorem z_X3_endExpressionIn_33 {X : XX} {ad : Nat → Nat} {cs : Nat → ClassId} {post : St → Prop} (C : CxC X ad cs cX3_endExpressionIn RX3 2 42) (hn : xnL X = 5) (hR : rtV X cX3_endExpressionIn (wC ad cs) post) (u : St) (x1 : Int32) (x2 : Int32) (y0 : Int32) (hw : wp_X3_endExpressionIn_33 u x1 x2 y0 post) : Z X (wC ad cs u) 33 [(0, .ref (ad 1)), (1, .int x1), (2, .int x2)] [.int y0] := by
  unfold wp_X3_endExpressionIn_33 at hw
  refine z_istore_n (lv' := [(3, .int y0), (0, .ref (ad 1)), (1, .int x1), (2, .int x2)]) C.1 dX3_endExpressionIn_33 rfl (by rw [hn]; decide) rfl ?_
  refine z_iload_n C.1 dX3_endExpressionIn_34 rfl 3 rfl ?_
  refine z_bipush (v := 7) C.1 dX3_endExpressionIn_35 (by decide) ?_
  refine z_icmp_eq (tgt := 50) C.1 dX3_endExpressionIn_37 (by decide) (fun c4 => ?_) (fun c4 => ?_)
  · replace hw := hw.1 c4
    refine z_lv [1, 2, 3, 0] rfl ?_
    exact z_X3_endExpressionIn_50 C hn hR _ _ _ _ hw
  · replace hw := hw.2 c4
    refine z_iload_n C.1 dX3_endExpressionIn_40 rfl 3 rfl ?_
    refine z_bipush (v := 8) C.1 dX3_endExpressionIn_41 (by decide) ?_
    refine z_icmp_ne (tgt := 54) C.1 dX3_endExpressionIn_43 (by decide) (fun c5 => ?_) (fun c5 => ?_)
    · replace hw := hw.2 c5
      refine z_lv [1, 2, 3, 0] rfl ?_
      exact z_X3_endExpressionIn_54 C hn hR _ _ _ _ hw
    · replace hw := hw.1 c5
      refine z_iload_n C.1 dX3_endExpressionIn_46 rfl 0 rfl ?_
      refine z_if_ne (tgt := 54) C.1 dX3_endExpressionIn_47 (by decide) (fun c6 => ?_) (fun c6 => ?_)
      · replace hw := hw.2 c6
        refine z_lv [1, 2, 3, 0] rfl ?_
        exact z_X3_endExpressionIn_54 C hn hR _ _ _ _ hw
      · replace hw := hw.1 c6
        refine z_lv [1, 2, 3, 0] rfl ?_
        exact z_X3_endExpressionIn_50 C hn hR _ _ _ _ hw
def wp_X3_endExpressionIn_32 (u : St) (x1 : Int32) (x2 : Int32) (post : St → Prop) : Prop :=
  wp_X3_endExpressionIn_33 u x1 x2 0 post
set_option maxHeartbeats 4000000 in
set_option maxRecDepth 20000 in
theorem z_X3_endExpressionIn_32 {X : XX} {ad : Nat → Nat} {cs : Nat → ClassId} {post : St → Prop} (C : CxC X ad cs cX3_endExpressionIn RX3 2 42) (hn : xnL X = 5) (hR : rtV X cX3_endExpressionIn (wC ad cs) post) (u : St) (x1 : Int32) (x2 : Int32) (hw : wp_X3_endExpressionIn_32 u x1 x2 post) : Z X (wC ad cs u) 32 [(0, .ref (ad 1)), (1, .int x1), (2, .int x2)] [] := by
  unfold wp_X3_endExpressionIn_32 at hw
  refine z_iconst (v := 0) C.1 dX3_endExpressionIn_32 (by decide) ?_
  refine z_lv [0, 1, 2] rfl ?_
  exact z_X3_endExpressionIn_33 C hn hR _ _ _ _ hw
def wp_X3_endExpressionIn (u : St) (x1 : Int32) (post : St → Prop) : Prop :=
  (vp_in x1 720 ∧ nm (gA u 18 (ix x1)) (fun v1 : Int32 => br (v1 = 8) ((vp_in x1 720 ∧ br ((gA u 20 (ix x1)) = 0) (wp_X3_endExpressionIn_33 u x1 v1 1 post) (wp_X3_endExpressionIn_32 u x1 v1 post))) (wp_X3_endExpressionIn_32 u x1 v1 post)))
set_option maxHeartbeats 4000000 in
set_option maxRecDepth 20000 in
theorem z_X3_endExpressionIn {X : XX} {ad : Nat → Nat} {cs : Nat → ClassId} {post : St → Prop} (C : CxC X ad cs cX3_endExpressionIn RX3 2 42) (hn : xnL X = 5) (hR : rtV X cX3_endExpressionIn (wC ad cs) post) (u : St) (x1 : Int32) (hw : wp_X3_endExpressionIn u x1 post) : Z X (wC ad cs u) 0 [(0, .ref (ad 1)), (1, .int x1)] [] := by
  unfold wp_X3_endExpressionIn at hw
  refine z_aload_n C.1 dX3_endExpressionIn_0 rfl 0 rfl ?_
  refine gC_1_program C mF_X3_38 dX3_endExpressionIn_1 ?_
  refine gC_3_kind C mF_X3_207 dX3_endExpressionIn_4 ?_
  refine z_iload_n C.1 dX3_endExpressionIn_7 rfl 1 rfl ?_
  refine lC_18 C hw.1 dX3_endExpressionIn_8 ?_
  replace hw := hw.2
  refine z_topi (fun v1 ev1 => ?_)
  replace hw := hw v1 ev1
  refine z_istore_n (lv' := [(2, .int v1), (0, .ref (ad 1)), (1, .int x1)]) C.1 dX3_endExpressionIn_9 rfl (by rw [hn]; decide) rfl ?_
  refine z_iload_n C.1 dX3_endExpressionIn_10 rfl 0 rfl ?_
  refine z_bipush (v := 8) C.1 dX3_endExpressionIn_11 (by decide) ?_
  refine z_icmp_ne (tgt := 32) C.1 dX3_endExpressionIn_13 (by decide) (fun c2 => ?_) (fun c2 => ?_)
  · replace hw := hw.2 c2
    refine z_lv [1, 2, 0] rfl ?_
    exact z_X3_endExpressionIn_32 C hn hR _ _ _ hw
  · replace hw := hw.1 c2
    refine z_aload_n C.1 dX3_endExpressionIn_16 rfl 1 rfl ?_
    refine gC_1_program C mF_X3_38 dX3_endExpressionIn_17 ?_
    refine gC_3_children C mF_X3_209 dX3_endExpressionIn_20 ?_
    refine z_iload_n C.1 dX3_endExpressionIn_23 rfl 2 rfl ?_
    refine lC_20 C hw.1 dX3_endExpressionIn_24 ?_
    replace hw := hw.2
    refine z_if_ne (tgt := 32) C.1 dX3_endExpressionIn_25 (by decide) (fun c3 => ?_) (fun c3 => ?_)
    · replace hw := hw.2 c3
      refine z_lv [1, 2, 0] rfl ?_
      exact z_X3_endExpressionIn_32 C hn hR _ _ _ hw
    · replace hw := hw.1 c3
      refine z_iconst (v := 1) C.1 dX3_endExpressionIn_28 (by decide) ?_
      refine z_goto (tgt := 33) C.1 dX3_endExpressionIn_29 (by decide) ?_
      refine z_lv [1, 2, 0] rfl ?_
      exact z_X3_endExpressionIn_33 C hn hR _ _ _ _ hw
theorem c_X3_endExpressionIn {l : Launch} {D : va_G} {A : Nat → Prop} {ad : Nat → Nat} {cs : Nat → ClassId} (hD : ∀ u : St, va_D A (wC ad cs u)) (u : St) (x1 : Int32) (post : St → Prop) (hw : wp_X3_endExpressionIn u x1 post) : MV (ad 90, ad 91) l yX3_endExpressionIn cX3_endExpressionIn 5 none (rmm 2 42) D (tysC cs) A (wC ad cs) u [.ref (ad 1), .int x1] post :=
  met_v (by decide) (Nat.le_of_ble_eq_true rfl) (fun X C _ _ ht hA hn hsg hR => z_X3_endExpressionIn ⟨C, ht, fun u => by rw [hA]; exact hD u, hsg⟩ hn hR u x1 hw)
theorem k_X3_endExpressionIn {X : XX} {ad : Nat → Nat} {cs : Nat → ClassId} {cc : ByteArray} {own : String} {fr lo pc : Nat} {lv : List (Nat × Value)} {st : List Value} {u : St} (C : CxC X ad cs cc own fr lo) {idx : Nat} {x1 : Int32} {P : St → Prop} (hlink : Cond.methodLink own idx yX3_endExpressionIn ∈ W0) (hw : wp_X3_endExpressionIn u x1 P) (hr : 2 + 1 ≤ fr ∧ 8 + (5 + 11) + 42 ≤ lo) (hst : (st.map fun v => v.category).sum ≤ 8) (hdg : decode cc pc = .ok (.invokevirtual idx, 3)) (k : ∀ (u2 : St), P u2 → Z X (wC ad cs u2) (pc + 3) lv st) : Z X (wC ad cs u) pc lv (.int x1 :: .ref (ad 1) :: st) :=
  z_callVv (wf := wC ad cs) (As := [.int x1]) (rest := st) C.1 1 (q0 := 1) mI_X3_endExpressionIn mS_X3_endExpressionIn rfl rfl (by rw [C.2.1, C.2.2.2]; exact c_X3_endExpressionIn C.2.2.1 u x1 P hw) mC_X3_endExpressionIn mZ_X3 (by decide +kernel) rfl hlink hr hst hdg k

def wp_X3_endExpression_35 (u : St) (post : St → Prop) : Prop :=
  wp_X3_innermost u (fun (r12 : Int32) (u11 : St) => br (r12 = (-1)) (wp_X3_endBody u11 (fun (u17 : St) => post u17)) (br (r12 = (-2)) (wp_X3_endParentheses u11 (fun (u16 : St) => post u16)) (wp_X3_endExpressionIn u11 r12 (fun (u15 : St) => post u15))))
set_option maxHeartbeats 4000000 in
set_option maxRecDepth 20000 in
theorem z_X3_endExpression_35 {X : XX} {ad : Nat → Nat} {cs : Nat → ClassId} {post : St → Prop} (C : CxC X ad cs cX3_endExpression RX3 3 66) (hn : xnL X = 2) (hR : rtV X cX3_endExpression (wC ad cs) post) (u : St) (hw : wp_X3_endExpression_35 u post) : Z X (wC ad cs u) 35 [(0, .ref (ad 1))] [] := by
  unfold wp_X3_endExpression_35 at hw
  refine z_aload_n C.1 dX3_endExpression_35 rfl 0 rfl ?_
  refine k_X3_innermost C mM_X3_155 hw (by decide) (Nat.le_of_ble_eq_true rfl) dX3_endExpression_36 (fun r12 u11 hw => ?_)
  refine z_istore_n (lv' := [(1, .int r12), (0, .ref (ad 1))]) C.1 dX3_endExpression_39 rfl (by rw [hn]; decide) rfl ?_
  refine z_iload_n C.1 dX3_endExpression_40 rfl 0 rfl ?_
  refine z_iconst (v := (-1)) C.1 dX3_endExpression_41 (by decide) ?_
  refine z_icmp_ne (tgt := 52) C.1 dX3_endExpression_42 (by decide) (fun c13 => ?_) (fun c13 => ?_)
  · replace hw := hw.2 c13
    refine z_iload_n C.1 dX3_endExpression_52 rfl 0 rfl ?_
    refine z_bipush (v := (-2)) C.1 dX3_endExpression_53 (by decide) ?_
    refine z_icmp_ne (tgt := 65) C.1 dX3_endExpression_55 (by decide) (fun c14 => ?_) (fun c14 => ?_)
    · replace hw := hw.2 c14
      refine z_aload_n C.1 dX3_endExpression_65 rfl 1 rfl ?_
      refine z_iload_n C.1 dX3_endExpression_66 rfl 0 rfl ?_
      refine k_X3_endExpressionIn C mM_X3_198 hw (by decide) (Nat.le_of_ble_eq_true rfl) dX3_endExpression_67 (fun u15 hw => ?_)
      exact hR _ _ _ dX3_endExpression_70 hw
    · replace hw := hw.1 c14
      refine z_aload_n C.1 dX3_endExpression_58 rfl 1 rfl ?_
      refine k_X3_endParentheses C mM_X3_195 hw (by decide) (Nat.le_of_ble_eq_true rfl) dX3_endExpression_59 (fun u16 hw => ?_)
      refine z_goto (tgt := 70) C.1 dX3_endExpression_62 (by decide) ?_
      exact hR _ _ _ dX3_endExpression_70 hw
  · replace hw := hw.1 c13
    refine z_aload_n C.1 dX3_endExpression_45 rfl 1 rfl ?_
    refine k_X3_endBody C mM_X3_192 hw (by decide) (Nat.le_of_ble_eq_true rfl) dX3_endExpression_46 (fun u17 hw => ?_)
    refine z_goto (tgt := 70) C.1 dX3_endExpression_49 (by decide) ?_
    exact hR _ _ _ dX3_endExpression_70 hw
def wp_X3_endExpression_10s (K10 : St → Int32 → Prop) (u : St) (x1 : Int32) (post : St → Prop) : Prop :=
  br (x1 ≤ 0) (wp_X3_endExpression_35 u post) (wp_X3_innermost u (fun (r5 : Int32) (u4 : St) => wp_X3_isInLastExpression u4 r5 (fun (r7 : Int32) (u6 : St) => br (r7 = 0) (wp_X3_endExpression_35 u6 post) (wp_X3_endWithLatest u6 (fun (u9 : St) => nm (x1 + (-1)) (fun v10 : Int32 => K10 u9 v10))))))
def wp_X3_endExpression_10 (post : St → Prop) : Nat → St → Int32 → Prop
  | 0 => fun _ _ => False
  | n + 1 => fun u x1 => wp_X3_endExpression_10s (wp_X3_endExpression_10 post n) u x1 post
set_option maxHeartbeats 4000000 in
set_option maxRecDepth 20000 in
theorem z_X3_endExpression_10s {X : XX} {ad : Nat → Nat} {cs : Nat → ClassId} {post : St → Prop} (C : CxC X ad cs cX3_endExpression RX3 3 66) (hn : xnL X = 2) (hR : rtV X cX3_endExpression (wC ad cs) post) {K10 : St → Int32 → Prop} (hK10 : ∀ (u : St) (x1 : Int32), K10 u x1 → Z X (wC ad cs u) 10 [(0, .ref (ad 1)), (1, .int x1)] []) (u : St) (x1 : Int32) (hw : wp_X3_endExpression_10s K10 u x1 post) : Z X (wC ad cs u) 10 [(0, .ref (ad 1)), (1, .int x1)] [] := by
  unfold wp_X3_endExpression_10s at hw
  refine z_iload_n C.1 dX3_endExpression_10 rfl 1 rfl ?_
  refine z_if_le (tgt := 35) C.1 dX3_endExpression_11 (by decide) (fun c3 => ?_) (fun c3 => ?_)
  · replace hw := hw.1 c3
    refine z_lv [0] rfl ?_
    exact z_X3_endExpression_35 C hn hR _ hw
  · replace hw := hw.2 c3
    refine z_aload_n C.1 dX3_endExpression_14 rfl 0 rfl ?_
    refine z_aload_n C.1 dX3_endExpression_15 rfl 0 rfl ?_
    refine k_X3_innermost C mM_X3_155 hw (by decide) (Nat.le_of_ble_eq_true rfl) dX3_endExpression_16 (fun r5 u4 hw => ?_)
    refine k_X3_isInLastExpression C mM_X3_186 hw (by decide) (Nat.le_of_ble_eq_true rfl) dX3_endExpression_19 (fun r7 u6 hw => ?_)
    refine z_if_eq (tgt := 35) C.1 dX3_endExpression_22 (by decide) (fun c8 => ?_) (fun c8 => ?_)
    · replace hw := hw.1 c8
      refine z_lv [0] rfl ?_
      exact z_X3_endExpression_35 C hn hR _ hw
    · replace hw := hw.2 c8
      refine z_aload_n C.1 dX3_endExpression_25 rfl 0 rfl ?_
      refine k_X3_endWithLatest C mM_X3_189 hw (by decide) (Nat.le_of_ble_eq_true rfl) dX3_endExpression_26 (fun u9 hw => ?_)
      obtain ⟨v10, ev10⟩ : ∃ z : Int32, z = x1 + (-1) := ⟨_, rfl⟩
      replace hw := hw v10 ev10
      refine z_iinc (v := v10) (lv' := [(1, .int v10), (0, .ref (ad 1))]) C.1 (j := 1) dX3_endExpression_29 rfl (by rw [ev10]; rfl) (by rw [hn]; decide) rfl ?_
      refine z_goto (tgt := 10) C.1 dX3_endExpression_32 (by decide) ?_
      refine z_lv [1, 0] rfl ?_
      exact hK10 _ _ hw
theorem z_X3_endExpression_10 {X : XX} {ad : Nat → Nat} {cs : Nat → ClassId} {post : St → Prop} (C : CxC X ad cs cX3_endExpression RX3 3 66) (hn : xnL X = 2) (hR : rtV X cX3_endExpression (wC ad cs) post) : ∀ (n : Nat) (u : St) (x1 : Int32), wp_X3_endExpression_10 post n u x1 → Z X (wC ad cs u) 10 [(0, .ref (ad 1)), (1, .int x1)] []
  | 0, _, _, hw => absurd hw (fun h => h)
  | n + 1, u, x1, hw => z_X3_endExpression_10s C hn hR (z_X3_endExpression_10 C hn hR n) u x1 hw
def wp_X3_endExpression (u : St) (post : St → Prop) : Prop :=
  wp_X3_endSigns u 1 (fun (u1 : St) => nm (gI u1 2) (fun v2 : Int32 => ∃ n, wp_X3_endExpression_10 post n u1 v2))
set_option maxHeartbeats 4000000 in
set_option maxRecDepth 20000 in
theorem z_X3_endExpression {X : XX} {ad : Nat → Nat} {cs : Nat → ClassId} {post : St → Prop} (C : CxC X ad cs cX3_endExpression RX3 3 66) (hn : xnL X = 2) (hR : rtV X cX3_endExpression (wC ad cs) post) (u : St) (hw : wp_X3_endExpression u post) : Z X (wC ad cs u) 0 [(0, .ref (ad 1))] [] := by
  unfold wp_X3_endExpression at hw
  refine z_aload_n C.1 dX3_endExpression_0 rfl 0 rfl ?_
  refine z_iconst (v := 1) C.1 dX3_endExpression_1 (by decide) ?_
  refine k_X3_endSigns C mM_X3_183 hw (by decide) (Nat.le_of_ble_eq_true rfl) dX3_endExpression_2 (fun u1 hw => ?_)
  refine z_aload_n C.1 dX3_endExpression_5 rfl 0 rfl ?_
  refine gC_1_opened C mF_X3_109 dX3_endExpression_6 ?_
  refine z_topi (fun v2 ev2 => ?_)
  replace hw := hw v2 ev2
  refine z_istore_n (lv' := [(1, .int v2), (0, .ref (ad 1))]) C.1 dX3_endExpression_9 rfl (by rw [hn]; decide) rfl ?_
  refine z_lv [1, 0] rfl ?_
  obtain ⟨n, hw⟩ := hw
  exact z_X3_endExpression_10 C hn hR n _ _ hw
theorem c_X3_endExpression {l : Launch} {D : va_G} {A : Nat → Prop} {ad : Nat → Nat} {cs : Nat → ClassId} (hD : ∀ u : St, va_D A (wC ad cs u)) (u : St) (post : St → Prop) (hw : wp_X3_endExpression u post) : MV (ad 90, ad 91) l yX3_endExpression cX3_endExpression 2 none (rmm 3 66) D (tysC cs) A (wC ad cs) u [.ref (ad 1)] post :=
  met_v (by decide) (Nat.le_of_ble_eq_true rfl) (fun X C _ _ ht hA hn hsg hR => z_X3_endExpression ⟨C, ht, fun u => by rw [hA]; exact hD u, hsg⟩ hn hR u hw)
theorem k_X3_endExpression {X : XX} {ad : Nat → Nat} {cs : Nat → ClassId} {cc : ByteArray} {own : String} {fr lo pc : Nat} {lv : List (Nat × Value)} {st : List Value} {u : St} (C : CxC X ad cs cc own fr lo) {idx : Nat} {P : St → Prop} (hlink : Cond.methodLink own idx yX3_endExpression ∈ W0) (hw : wp_X3_endExpression u P) (hr : 3 + 1 ≤ fr ∧ 8 + (2 + 11) + 66 ≤ lo) (hst : (st.map fun v => v.category).sum ≤ 8) (hdg : decode cc pc = .ok (.invokevirtual idx, 3)) (k : ∀ (u2 : St), P u2 → Z X (wC ad cs u2) (pc + 3) lv st) : Z X (wC ad cs u) pc lv (.ref (ad 1) :: st) :=
  z_callVv (wf := wC ad cs) (As := []) (rest := st) C.1 0 (q0 := 1) mI_X3_endExpression mS_X3_endExpression rfl rfl (by rw [C.2.1, C.2.2.2]; exact c_X3_endExpression C.2.2.1 u P hw) mC_X3_endExpression mZ_X3 (by decide +kernel) rfl hlink hr hst hdg k

def wp_X3_takeContinuation (u : St) (post : St → Prop) : Prop :=
  wp_X3_levelOfSign u (gI u 9) (fun (r2 : Int32) (u1 : St) => br (r2 ≤ 0) (br ((gI u1 9) = 91) (wp_X2_isFull u1 (gI u1 1) (fun (r6 : Int32) (u5 : St) => br (r6 = 0) (wp_X3_beginPartBehind u5 9 (fun (u8 : St) => post u8)) (wp_X3_fail u5 (fun (u9 : St) => post u9)))) (wp_X3_endExpression u1 (fun (u10 : St) => post u10))) (wp_X3_takeSign u1 r2 (fun (u11 : St) => post u11)))
set_option maxHeartbeats 4000000 in
set_option maxRecDepth 20000 in
theorem z_X3_takeContinuation {X : XX} {ad : Nat → Nat} {cs : Nat → ClassId} {post : St → Prop} (C : CxC X ad cs cX3_takeContinuation RX3 4 91) (hn : xnL X = 2) (hR : rtV X cX3_takeContinuation (wC ad cs) post) (u : St) (hw : wp_X3_takeContinuation u post) : Z X (wC ad cs u) 0 [(0, .ref (ad 1))] [] := by
  unfold wp_X3_takeContinuation at hw
  refine z_aload_n C.1 dX3_takeContinuation_0 rfl 0 rfl ?_
  refine gC_1_tape C mF_X3_16 dX3_takeContinuation_1 ?_
  refine gC_2_kind C mF_X3_58 dX3_takeContinuation_4 ?_
  refine k_X3_levelOfSign C mM_X3_166 hw (by decide) (Nat.le_of_ble_eq_true rfl) dX3_takeContinuation_7 (fun r2 u1 hw => ?_)
  refine z_istore_n (lv' := [(1, .int r2), (0, .ref (ad 1))]) C.1 dX3_takeContinuation_10 rfl (by rw [hn]; decide) rfl ?_
  refine z_iload_n C.1 dX3_takeContinuation_11 rfl 0 rfl ?_
  refine z_if_le (tgt := 23) C.1 dX3_takeContinuation_12 (by decide) (fun c3 => ?_) (fun c3 => ?_)
  · replace hw := hw.1 c3
    refine z_aload_n C.1 dX3_takeContinuation_23 rfl 1 rfl ?_
    refine gC_1_tape C mF_X3_16 dX3_takeContinuation_24 ?_
    refine gC_2_kind C mF_X3_58 dX3_takeContinuation_27 ?_
    refine z_bipush (v := 91) C.1 dX3_takeContinuation_30 (by decide) ?_
    refine z_icmp_eq (tgt := 42) C.1 dX3_takeContinuation_32 (by decide) (fun c4 => ?_) (fun c4 => ?_)
    · replace hw := hw.1 c4
      refine z_aload_n C.1 dX3_takeContinuation_42 rfl 1 rfl ?_
      refine gC_1_program C mF_X3_38 dX3_takeContinuation_43 ?_
      refine z_aload_n C.1 dX3_takeContinuation_46 rfl 1 rfl ?_
      refine gC_1_current C mF_X3_92 dX3_takeContinuation_47 ?_
      refine k_X2_isFull C mM_X3_121 hw (by decide) (Nat.le_of_ble_eq_true rfl) dX3_takeContinuation_50 (fun r6 u5 hw => ?_)
      refine z_if_eq (tgt := 63) C.1 dX3_takeContinuation_53 (by decide) (fun c7 => ?_) (fun c7 => ?_)
      · replace hw := hw.1 c7
        refine z_aload_n C.1 dX3_takeContinuation_63 rfl 1 rfl ?_
        refine z_bipush (v := 9) C.1 dX3_takeContinuation_64 (by decide) ?_
        refine k_X3_beginPartBehind C mM_X3_175 hw (by decide) (Nat.le_of_ble_eq_true rfl) dX3_takeContinuation_66 (fun u8 hw => ?_)
        exact hR _ _ _ dX3_takeContinuation_69 hw
      · replace hw := hw.2 c7
        refine z_aload_n C.1 dX3_takeContinuation_56 rfl 1 rfl ?_
        refine k_X3_fail C mM_X3_76 hw (by decide) (Nat.le_of_ble_eq_true rfl) dX3_takeContinuation_57 (fun u9 hw => ?_)
        refine z_goto (tgt := 69) C.1 dX3_takeContinuation_60 (by decide) ?_
        exact hR _ _ _ dX3_takeContinuation_69 hw
    · replace hw := hw.2 c4
      refine z_aload_n C.1 dX3_takeContinuation_35 rfl 1 rfl ?_
      refine k_X3_endExpression C mM_X3_172 hw (by decide) (Nat.le_of_ble_eq_true rfl) dX3_takeContinuation_36 (fun u10 hw => ?_)
      refine z_goto (tgt := 69) C.1 dX3_takeContinuation_39 (by decide) ?_
      exact hR _ _ _ dX3_takeContinuation_69 hw
  · replace hw := hw.2 c3
    refine z_aload_n C.1 dX3_takeContinuation_15 rfl 1 rfl ?_
    refine z_iload_n C.1 dX3_takeContinuation_16 rfl 0 rfl ?_
    refine k_X3_takeSign C mM_X3_169 hw (by decide) (Nat.le_of_ble_eq_true rfl) dX3_takeContinuation_17 (fun u11 hw => ?_)
    refine z_goto (tgt := 69) C.1 dX3_takeContinuation_20 (by decide) ?_
    exact hR _ _ _ dX3_takeContinuation_69 hw
theorem c_X3_takeContinuation {l : Launch} {D : va_G} {A : Nat → Prop} {ad : Nat → Nat} {cs : Nat → ClassId} (hD : ∀ u : St, va_D A (wC ad cs u)) (u : St) (post : St → Prop) (hw : wp_X3_takeContinuation u post) : MV (ad 90, ad 91) l yX3_takeContinuation cX3_takeContinuation 2 none (rmm 4 91) D (tysC cs) A (wC ad cs) u [.ref (ad 1)] post :=
  met_v (by decide) (Nat.le_of_ble_eq_true rfl) (fun X C _ _ ht hA hn hsg hR => z_X3_takeContinuation ⟨C, ht, fun u => by rw [hA]; exact hD u, hsg⟩ hn hR u hw)
theorem k_X3_takeContinuation {X : XX} {ad : Nat → Nat} {cs : Nat → ClassId} {cc : ByteArray} {own : String} {fr lo pc : Nat} {lv : List (Nat × Value)} {st : List Value} {u : St} (C : CxC X ad cs cc own fr lo) {idx : Nat} {P : St → Prop} (hlink : Cond.methodLink own idx yX3_takeContinuation ∈ W0) (hw : wp_X3_takeContinuation u P) (hr : 4 + 1 ≤ fr ∧ 8 + (2 + 11) + 91 ≤ lo) (hst : (st.map fun v => v.category).sum ≤ 8) (hdg : decode cc pc = .ok (.invokevirtual idx, 3)) (k : ∀ (u2 : St), P u2 → Z X (wC ad cs u2) (pc + 3) lv st) : Z X (wC ad cs u) pc lv (.ref (ad 1) :: st) :=
  z_callVv (wf := wC ad cs) (As := []) (rest := st) C.1 0 (q0 := 1) mI_X3_takeContinuation mS_X3_takeContinuation rfl rfl (by rw [C.2.1, C.2.2.2]; exact c_X3_takeContinuation C.2.2.1 u P hw) mC_X3_takeContinuation mZ_X3 (by decide +kernel) rfl hlink hr hst hdg k

def wp_X3_definitionNamed_2s (K2 : St → Int64 → Int32 → Prop) (u : St) (x1 : Int64) (x3 : Int32) (post : Int32 → St → Prop) : Prop :=
  br ((gI u 12) ≤ x3) (post (-1) u) ((vp_in x3 12 ∧ br ((lg_cmp (gB u 9 (ix x3)) x1) = 0) (post x3 u) (nm (x3 + 1) (fun v3 : Int32 => K2 u x1 v3))))
def wp_X3_definitionNamed_2 (post : Int32 → St → Prop) : Nat → St → Int64 → Int32 → Prop
  | 0 => fun _ _ _ => False
  | n + 1 => fun u x1 x3 => wp_X3_definitionNamed_2s (wp_X3_definitionNamed_2 post n) u x1 x3 post
set_option maxHeartbeats 4000000 in
set_option maxRecDepth 20000 in
theorem z_X3_definitionNamed_2s {X : XX} {ad : Nat → Nat} {cs : Nat → ClassId} {post : Int32 → St → Prop} (C : CxC X ad cs cX3_definitionNamed RX3 0 0) (hn : xnL X = 4) (hR : rtI X cX3_definitionNamed (wC ad cs) post) {K2 : St → Int64 → Int32 → Prop} (hK2 : ∀ (u : St) (x1 : Int64) (x3 : Int32), K2 u x1 x3 → Z X (wC ad cs u) 2 [(0, .ref (ad 1)), (1, .long x1), (3, .int x3)] []) (u : St) (x1 : Int64) (x3 : Int32) (hw : wp_X3_definitionNamed_2s K2 u x1 x3 post) : Z X (wC ad cs u) 2 [(0, .ref (ad 1)), (1, .long x1), (3, .int x3)] [] := by
  unfold wp_X3_definitionNamed_2s at hw
  refine z_iload_n C.1 dX3_definitionNamed_2 rfl 2 rfl ?_
  refine z_aload_n C.1 dX3_definitionNamed_3 rfl 0 rfl ?_
  refine gC_1_program C mF_X3_38 dX3_definitionNamed_4 ?_
  refine gC_3_definitions C mF_X3_42 dX3_definitionNamed_7 ?_
  refine z_icmp_ge (tgt := 32) C.1 dX3_definitionNamed_10 (by decide) (fun c1 => ?_) (fun c1 => ?_)
  · replace hw := hw.1 c1
    refine z_iconst (v := (-1)) C.1 dX3_definitionNamed_32 (by decide) ?_
    exact hR _ _ _ _ dX3_definitionNamed_33 hw
  · replace hw := hw.2 c1
    refine z_aload_n C.1 dX3_definitionNamed_13 rfl 0 rfl ?_
    refine gC_1_definitionNames C mF_X3_20 dX3_definitionNamed_14 ?_
    refine z_iload_n C.1 dX3_definitionNamed_17 rfl 2 rfl ?_
    refine lC_9 C hw.1 dX3_definitionNamed_18 ?_
    replace hw := hw.2
    refine z_lload_n C.1 dX3_definitionNamed_19 rfl 1 rfl ?_
    refine z_lcmp C.1 dX3_definitionNamed_20 ?_
    refine z_if_ne (tgt := 26) C.1 dX3_definitionNamed_21 (by decide) (fun c2 => ?_) (fun c2 => ?_)
    · replace hw := hw.2 c2
      obtain ⟨v3, ev3⟩ : ∃ z : Int32, z = x3 + 1 := ⟨_, rfl⟩
      replace hw := hw v3 ev3
      refine z_iinc (v := v3) (lv' := [(3, .int v3), (0, .ref (ad 1)), (1, .long x1)]) C.1 (j := 2) dX3_definitionNamed_26 rfl (by rw [ev3]; rfl) (by rw [hn]; decide) rfl ?_
      refine z_goto (tgt := 2) C.1 dX3_definitionNamed_29 (by decide) ?_
      refine z_lv [1, 2, 0] rfl ?_
      exact hK2 _ _ _ hw
    · replace hw := hw.1 c2
      refine z_iload_n C.1 dX3_definitionNamed_24 rfl 2 rfl ?_
      exact hR _ _ _ _ dX3_definitionNamed_25 hw
theorem z_X3_definitionNamed_2 {X : XX} {ad : Nat → Nat} {cs : Nat → ClassId} {post : Int32 → St → Prop} (C : CxC X ad cs cX3_definitionNamed RX3 0 0) (hn : xnL X = 4) (hR : rtI X cX3_definitionNamed (wC ad cs) post) : ∀ (n : Nat) (u : St) (x1 : Int64) (x3 : Int32), wp_X3_definitionNamed_2 post n u x1 x3 → Z X (wC ad cs u) 2 [(0, .ref (ad 1)), (1, .long x1), (3, .int x3)] []
  | 0, _, _, _, hw => absurd hw (fun h => h)
  | n + 1, u, x1, x3, hw => z_X3_definitionNamed_2s C hn hR (z_X3_definitionNamed_2 C hn hR n) u x1 x3 hw
def wp_X3_definitionNamed (u : St) (x1 : Int64) (post : Int32 → St → Prop) : Prop :=
  ∃ n, wp_X3_definitionNamed_2 post n u x1 0
set_option maxHeartbeats 4000000 in
set_option maxRecDepth 20000 in
theorem z_X3_definitionNamed {X : XX} {ad : Nat → Nat} {cs : Nat → ClassId} {post : Int32 → St → Prop} (C : CxC X ad cs cX3_definitionNamed RX3 0 0) (hn : xnL X = 4) (hR : rtI X cX3_definitionNamed (wC ad cs) post) (u : St) (x1 : Int64) (hw : wp_X3_definitionNamed u x1 post) : Z X (wC ad cs u) 0 [(0, .ref (ad 1)), (1, .long x1)] [] := by
  unfold wp_X3_definitionNamed at hw
  refine z_iconst (v := 0) C.1 dX3_definitionNamed_0 (by decide) ?_
  refine z_istore_n (lv' := [(3, .int 0), (0, .ref (ad 1)), (1, .long x1)]) C.1 dX3_definitionNamed_1 rfl (by rw [hn]; decide) rfl ?_
  refine z_lv [1, 2, 0] rfl ?_
  obtain ⟨n, hw⟩ := hw
  exact z_X3_definitionNamed_2 C hn hR n _ _ _ hw
theorem c_X3_definitionNamed {l : Launch} {D : va_G} {A : Nat → Prop} {ad : Nat → Nat} {cs : Nat → ClassId} (hD : ∀ u : St, va_D A (wC ad cs u)) (u : St) (x1 : Int64) (post : Int32 → St → Prop) (hw : wp_X3_definitionNamed u x1 post) : MI (ad 90, ad 91) l yX3_definitionNamed cX3_definitionNamed 4 (some .int) (rmm 0 0) D (tysC cs) A (wC ad cs) u [.ref (ad 1), .long x1] post :=
  met_i (by decide) (Nat.le_of_ble_eq_true rfl) (fun X C _ _ ht hA hn hsg hR => z_X3_definitionNamed ⟨C, ht, fun u => by rw [hA]; exact hD u, hsg⟩ hn hR u x1 hw)
theorem k_X3_definitionNamed {X : XX} {ad : Nat → Nat} {cs : Nat → ClassId} {cc : ByteArray} {own : String} {fr lo pc : Nat} {lv : List (Nat × Value)} {st : List Value} {u : St} (C : CxC X ad cs cc own fr lo) {idx : Nat} {x1 : Int64} {P : Int32 → St → Prop} (hlink : Cond.methodLink own idx yX3_definitionNamed ∈ W0) (hw : wp_X3_definitionNamed u x1 P) (hr : 0 + 1 ≤ fr ∧ 8 + (4 + 11) + 0 ≤ lo) (hst : (st.map fun v => v.category).sum ≤ 8) (hdg : decode cc pc = .ok (.invokevirtual idx, 3)) (k : ∀ (r : Int32) (u2 : St), P r u2 → Z X (wC ad cs u2) (pc + 3) lv (.int r :: st)) : Z X (wC ad cs u) pc lv (.long x1 :: .ref (ad 1) :: st) :=
  z_callVi (wf := wC ad cs) (As := [.long x1]) (rest := st) C.1 1 (q0 := 1) mI_X3_definitionNamed mS_X3_definitionNamed rfl rfl (by rw [C.2.1, C.2.2.2]; exact c_X3_definitionNamed C.2.2.1 u x1 P hw) mC_X3_definitionNamed mZ_X3 (by decide +kernel) rfl hlink hr hst hdg k

def wp_X3_takeDefinitionName_46 (u : St) (post : St → Prop) : Prop :=
  wp_X3_fail u (fun (u13 : St) => post u13)
set_option maxHeartbeats 4000000 in
set_option maxRecDepth 20000 in
theorem z_X3_takeDefinitionName_46 {X : XX} {ad : Nat → Nat} {cs : Nat → ClassId} {post : St → Prop} (C : CxC X ad cs cX3_takeDefinitionName RX3 1 23) (hn : xnL X = 1) (hR : rtV X cX3_takeDefinitionName (wC ad cs) post) (u : St) (hw : wp_X3_takeDefinitionName_46 u post) : Z X (wC ad cs u) 46 [(0, .ref (ad 1))] [] := by
  unfold wp_X3_takeDefinitionName_46 at hw
  refine z_aload_n C.1 dX3_takeDefinitionName_46 rfl 0 rfl ?_
  refine k_X3_fail C mM_X3_76 hw (by decide) (Nat.le_of_ble_eq_true rfl) dX3_takeDefinitionName_47 (fun u13 hw => ?_)
  exact hR _ _ _ dX3_takeDefinitionName_50 hw
def wp_X3_takeDefinitionName (u : St) (post : St → Prop) : Prop :=
  nm (sI u 1 (gI u 12)) (fun u1 : St => br ((gI u1 9) = 2) (br ((gI u1 1) = 12) (wp_X3_takeDefinitionName_46 u1 post) (wp_X3_definitionNamed u1 (gL u1 0) (fun (r5 : Int32) (u4 : St) => br (r5 = (-1)) ((vp_in (gI u4 1) 12 ∧ nm (sB u4 9 (ix (gI u4 1)) (gL u4 0)) (fun u7 : St => (vp_in (gI u7 1) 12 ∧ nm (sA u7 15 (ix (gI u7 1)) 0) (fun u8 : St => (vp_in (gI u8 1) 12 ∧ nm (sA u8 16 (ix (gI u8 1)) 0) (fun u9 : St => nm (sI u9 2 0) (fun u10 : St => nm (sI u10 3 0) (fun u11 : St => wp_X3_begin u11 (-1) 1 (fun (u12 : St) => post u12)))))))))) (wp_X3_takeDefinitionName_46 u4 post)))) (wp_X3_takeDefinitionName_46 u1 post))
set_option maxHeartbeats 4000000 in
set_option maxRecDepth 20000 in
theorem z_X3_takeDefinitionName {X : XX} {ad : Nat → Nat} {cs : Nat → ClassId} {post : St → Prop} (C : CxC X ad cs cX3_takeDefinitionName RX3 1 23) (hn : xnL X = 1) (hR : rtV X cX3_takeDefinitionName (wC ad cs) post) (u : St) (hw : wp_X3_takeDefinitionName u post) : Z X (wC ad cs u) 0 [(0, .ref (ad 1))] [] := by
  unfold wp_X3_takeDefinitionName at hw
  refine z_aload_n C.1 dX3_takeDefinitionName_0 rfl 0 rfl ?_
  refine z_aload_n C.1 dX3_takeDefinitionName_1 rfl 0 rfl ?_
  refine gC_1_program C mF_X3_38 dX3_takeDefinitionName_2 ?_
  refine gC_3_definitions C mF_X3_42 dX3_takeDefinitionName_5 ?_
  refine pC_1_current C mF_X3_92 dX3_takeDefinitionName_8 (fun u1 eu1 => ?_)
  replace hw := hw u1 eu1
  refine z_aload_n C.1 dX3_takeDefinitionName_11 rfl 0 rfl ?_
  refine gC_1_tape C mF_X3_16 dX3_takeDefinitionName_12 ?_
  refine gC_2_kind C mF_X3_58 dX3_takeDefinitionName_15 ?_
  refine z_iconst (v := 2) C.1 dX3_takeDefinitionName_18 (by decide) ?_
  refine z_icmp_ne (tgt := 46) C.1 dX3_takeDefinitionName_19 (by decide) (fun c2 => ?_) (fun c2 => ?_)
  · replace hw := hw.2 c2
    refine z_lv [0] rfl ?_
    exact z_X3_takeDefinitionName_46 C hn hR _ hw
  · replace hw := hw.1 c2
    refine z_aload_n C.1 dX3_takeDefinitionName_22 rfl 0 rfl ?_
    refine gC_1_current C mF_X3_92 dX3_takeDefinitionName_23 ?_
    refine z_bipush (v := 12) C.1 dX3_takeDefinitionName_26 (by decide) ?_
    refine z_icmp_eq (tgt := 46) C.1 dX3_takeDefinitionName_28 (by decide) (fun c3 => ?_) (fun c3 => ?_)
    · replace hw := hw.1 c3
      refine z_lv [0] rfl ?_
      exact z_X3_takeDefinitionName_46 C hn hR _ hw
    · replace hw := hw.2 c3
      refine z_aload_n C.1 dX3_takeDefinitionName_31 rfl 0 rfl ?_
      refine z_aload_n C.1 dX3_takeDefinitionName_32 rfl 0 rfl ?_
      refine gC_1_tape C mF_X3_16 dX3_takeDefinitionName_33 ?_
      refine gC_2_name C mF_X3_95 dX3_takeDefinitionName_36 ?_
      refine k_X3_definitionNamed C mM_X3_99 hw (by decide) (Nat.le_of_ble_eq_true rfl) dX3_takeDefinitionName_39 (fun r5 u4 hw => ?_)
      refine z_iconst (v := (-1)) C.1 dX3_takeDefinitionName_42 (by decide) ?_
      refine z_icmp_eq (tgt := 51) C.1 dX3_takeDefinitionName_43 (by decide) (fun c6 => ?_) (fun c6 => ?_)
      · replace hw := hw.1 c6
        refine z_aload_n C.1 dX3_takeDefinitionName_51 rfl 0 rfl ?_
        refine gC_1_definitionNames C mF_X3_20 dX3_takeDefinitionName_52 ?_
        refine z_aload_n C.1 dX3_takeDefinitionName_55 rfl 0 rfl ?_
        refine gC_1_current C mF_X3_92 dX3_takeDefinitionName_56 ?_
        refine z_aload_n C.1 dX3_takeDefinitionName_59 rfl 0 rfl ?_
        refine gC_1_tape C mF_X3_16 dX3_takeDefinitionName_60 ?_
        refine gC_2_name C mF_X3_95 dX3_takeDefinitionName_63 ?_
        refine sC_9 C hw.1 dX3_takeDefinitionName_66 (fun u7 eu7 => ?_)
        replace hw := hw.2 u7 eu7
        refine z_aload_n C.1 dX3_takeDefinitionName_67 rfl 0 rfl ?_
        refine gC_1_program C mF_X3_38 dX3_takeDefinitionName_68 ?_
        refine gC_3_arguments C mF_X3_103 dX3_takeDefinitionName_71 ?_
        refine z_aload_n C.1 dX3_takeDefinitionName_74 rfl 0 rfl ?_
        refine gC_1_current C mF_X3_92 dX3_takeDefinitionName_75 ?_
        refine z_iconst (v := 0) C.1 dX3_takeDefinitionName_78 (by decide) ?_
        refine sC_15 C hw.1 dX3_takeDefinitionName_79 (fun u8 eu8 => ?_)
        replace hw := hw.2 u8 eu8
        refine z_aload_n C.1 dX3_takeDefinitionName_80 rfl 0 rfl ?_
        refine gC_1_program C mF_X3_38 dX3_takeDefinitionName_81 ?_
        refine gC_3_parts C mF_X3_106 dX3_takeDefinitionName_84 ?_
        refine z_aload_n C.1 dX3_takeDefinitionName_87 rfl 0 rfl ?_
        refine gC_1_current C mF_X3_92 dX3_takeDefinitionName_88 ?_
        refine z_iconst (v := 0) C.1 dX3_takeDefinitionName_91 (by decide) ?_
        refine sC_16 C hw.1 dX3_takeDefinitionName_92 (fun u9 eu9 => ?_)
        replace hw := hw.2 u9 eu9
        refine z_aload_n C.1 dX3_takeDefinitionName_93 rfl 0 rfl ?_
        refine z_iconst (v := 0) C.1 dX3_takeDefinitionName_94 (by decide) ?_
        refine pC_1_opened C mF_X3_109 dX3_takeDefinitionName_95 (fun u10 eu10 => ?_)
        replace hw := hw u10 eu10
        refine z_aload_n C.1 dX3_takeDefinitionName_98 rfl 0 rfl ?_
        refine z_iconst (v := 0) C.1 dX3_takeDefinitionName_99 (by decide) ?_
        refine pC_1_parentheses C mF_X3_112 dX3_takeDefinitionName_100 (fun u11 eu11 => ?_)
        replace hw := hw u11 eu11
        refine z_aload_n C.1 dX3_takeDefinitionName_103 rfl 0 rfl ?_
        refine z_iconst (v := (-1)) C.1 dX3_takeDefinitionName_104 (by decide) ?_
        refine z_iconst (v := 1) C.1 dX3_takeDefinitionName_105 (by decide) ?_
        refine k_X3_begin C mM_X3_115 hw (by decide) (Nat.le_of_ble_eq_true rfl) dX3_takeDefinitionName_106 (fun u12 hw => ?_)
        exact hR _ _ _ dX3_takeDefinitionName_109 hw
      · replace hw := hw.2 c6
        refine z_lv [0] rfl ?_
        exact z_X3_takeDefinitionName_46 C hn hR _ hw
theorem c_X3_takeDefinitionName {l : Launch} {D : va_G} {A : Nat → Prop} {ad : Nat → Nat} {cs : Nat → ClassId} (hD : ∀ u : St, va_D A (wC ad cs u)) (u : St) (post : St → Prop) (hw : wp_X3_takeDefinitionName u post) : MV (ad 90, ad 91) l yX3_takeDefinitionName cX3_takeDefinitionName 1 none (rmm 1 23) D (tysC cs) A (wC ad cs) u [.ref (ad 1)] post :=
  met_v (by decide) (Nat.le_of_ble_eq_true rfl) (fun X C _ _ ht hA hn hsg hR => z_X3_takeDefinitionName ⟨C, ht, fun u => by rw [hA]; exact hD u, hsg⟩ hn hR u hw)
theorem k_X3_takeDefinitionName {X : XX} {ad : Nat → Nat} {cs : Nat → ClassId} {cc : ByteArray} {own : String} {fr lo pc : Nat} {lv : List (Nat × Value)} {st : List Value} {u : St} (C : CxC X ad cs cc own fr lo) {idx : Nat} {P : St → Prop} (hlink : Cond.methodLink own idx yX3_takeDefinitionName ∈ W0) (hw : wp_X3_takeDefinitionName u P) (hr : 1 + 1 ≤ fr ∧ 8 + (1 + 11) + 23 ≤ lo) (hst : (st.map fun v => v.category).sum ≤ 8) (hdg : decode cc pc = .ok (.invokevirtual idx, 3)) (k : ∀ (u2 : St), P u2 → Z X (wC ad cs u2) (pc + 3) lv st) : Z X (wC ad cs u) pc lv (.ref (ad 1) :: st) :=
  z_callVv (wf := wC ad cs) (As := []) (rest := st) C.1 0 (q0 := 1) mI_X3_takeDefinitionName mS_X3_takeDefinitionName rfl rfl (by rw [C.2.1, C.2.2.2]; exact c_X3_takeDefinitionName C.2.2.1 u P hw) mC_X3_takeDefinitionName mZ_X3 (by decide +kernel) rfl hlink hr hst hdg k

def wp_X3_takeArgumentName_45 (u : St) (post : St → Prop) : Prop :=
  wp_X3_fail u (fun (u11 : St) => post u11)
set_option maxHeartbeats 4000000 in
set_option maxRecDepth 20000 in
theorem z_X3_takeArgumentName_45 {X : XX} {ad : Nat → Nat} {cs : Nat → ClassId} {post : St → Prop} (C : CxC X ad cs cX3_takeArgumentName RX3 1 23) (hn : xnL X = 2) (hR : rtV X cX3_takeArgumentName (wC ad cs) post) (u : St) (hw : wp_X3_takeArgumentName_45 u post) : Z X (wC ad cs u) 45 [(0, .ref (ad 1))] [] := by
  unfold wp_X3_takeArgumentName_45 at hw
  refine z_aload_n C.1 dX3_takeArgumentName_45 rfl 0 rfl ?_
  refine k_X3_fail C mM_X3_76 hw (by decide) (Nat.le_of_ble_eq_true rfl) dX3_takeArgumentName_46 (fun u11 hw => ?_)
  exact hR _ _ _ dX3_takeArgumentName_49 hw
def wp_X3_takeArgumentName (u : St) (post : St → Prop) : Prop :=
  (vp_in (gI u 1) 12 ∧ nm (gA u 15 (ix (gI u 1))) (fun v1 : Int32 => br ((gI u 9) = 2) (br (v1 = 6) (wp_X3_takeArgumentName_45 u post) (wp_X3_argumentNamed u (gL u 0) (fun (r5 : Int32) (u4 : St) => br (r5 = (-1)) ((vp_in v1 6 ∧ nm (sB u4 10 (ix v1) (gL u4 0)) (fun u7 : St => nm (gI u7 1) (fun v8 : Int32 => (vp_in v8 12 ∧ (vp_in v8 12 ∧ nm (sA u7 15 (ix v8) ((gA u7 15 (ix v8)) + 1)) (fun u9 : St => nm (sI u9 5 4) (fun u10 : St => post u10)))))))) (wp_X3_takeArgumentName_45 u4 post)))) (wp_X3_takeArgumentName_45 u post)))
set_option maxHeartbeats 4000000 in
set_option maxRecDepth 20000 in
theorem z_X3_takeArgumentName {X : XX} {ad : Nat → Nat} {cs : Nat → ClassId} {post : St → Prop} (C : CxC X ad cs cX3_takeArgumentName RX3 1 23) (hn : xnL X = 2) (hR : rtV X cX3_takeArgumentName (wC ad cs) post) (u : St) (hw : wp_X3_takeArgumentName u post) : Z X (wC ad cs u) 0 [(0, .ref (ad 1))] [] := by
  unfold wp_X3_takeArgumentName at hw
  refine z_aload_n C.1 dX3_takeArgumentName_0 rfl 0 rfl ?_
  refine gC_1_program C mF_X3_38 dX3_takeArgumentName_1 ?_
  refine gC_3_arguments C mF_X3_103 dX3_takeArgumentName_4 ?_
  refine z_aload_n C.1 dX3_takeArgumentName_7 rfl 0 rfl ?_
  refine gC_1_current C mF_X3_92 dX3_takeArgumentName_8 ?_
  refine lC_15 C hw.1 dX3_takeArgumentName_11 ?_
  replace hw := hw.2
  refine z_topi (fun v1 ev1 => ?_)
  replace hw := hw v1 ev1
  refine z_istore_n (lv' := [(1, .int v1), (0, .ref (ad 1))]) C.1 dX3_takeArgumentName_12 rfl (by rw [hn]; decide) rfl ?_
  refine z_aload_n C.1 dX3_takeArgumentName_13 rfl 1 rfl ?_
  refine gC_1_tape C mF_X3_16 dX3_takeArgumentName_14 ?_
  refine gC_2_kind C mF_X3_58 dX3_takeArgumentName_17 ?_
  refine z_iconst (v := 2) C.1 dX3_takeArgumentName_20 (by decide) ?_
  refine z_icmp_ne (tgt := 45) C.1 dX3_takeArgumentName_21 (by decide) (fun c2 => ?_) (fun c2 => ?_)
  · replace hw := hw.2 c2
    refine z_lv [1] rfl ?_
    exact z_X3_takeArgumentName_45 C hn hR _ hw
  · replace hw := hw.1 c2
    refine z_iload_n C.1 dX3_takeArgumentName_24 rfl 0 rfl ?_
    refine z_bipush (v := 6) C.1 dX3_takeArgumentName_25 (by decide) ?_
    refine z_icmp_eq (tgt := 45) C.1 dX3_takeArgumentName_27 (by decide) (fun c3 => ?_) (fun c3 => ?_)
    · replace hw := hw.1 c3
      refine z_lv [1] rfl ?_
      exact z_X3_takeArgumentName_45 C hn hR _ hw
    · replace hw := hw.2 c3
      refine z_aload_n C.1 dX3_takeArgumentName_30 rfl 1 rfl ?_
      refine z_aload_n C.1 dX3_takeArgumentName_31 rfl 1 rfl ?_
      refine gC_1_tape C mF_X3_16 dX3_takeArgumentName_32 ?_
      refine gC_2_name C mF_X3_95 dX3_takeArgumentName_35 ?_
      refine k_X3_argumentNamed C mM_X3_118 hw (by decide) (Nat.le_of_ble_eq_true rfl) dX3_takeArgumentName_38 (fun r5 u4 hw => ?_)
      refine z_iconst (v := (-1)) C.1 dX3_takeArgumentName_41 (by decide) ?_
      refine z_icmp_eq (tgt := 50) C.1 dX3_takeArgumentName_42 (by decide) (fun c6 => ?_) (fun c6 => ?_)
      · replace hw := hw.1 c6
        refine z_aload_n C.1 dX3_takeArgumentName_50 rfl 1 rfl ?_
        refine gC_1_argumentNames C mF_X3_24 dX3_takeArgumentName_51 ?_
        refine z_iload_n C.1 dX3_takeArgumentName_54 rfl 0 rfl ?_
        refine z_aload_n C.1 dX3_takeArgumentName_55 rfl 1 rfl ?_
        refine gC_1_tape C mF_X3_16 dX3_takeArgumentName_56 ?_
        refine gC_2_name C mF_X3_95 dX3_takeArgumentName_59 ?_
        refine sC_10 C hw.1 dX3_takeArgumentName_62 (fun u7 eu7 => ?_)
        replace hw := hw.2 u7 eu7
        refine z_aload_n C.1 dX3_takeArgumentName_63 rfl 1 rfl ?_
        refine gC_1_program C mF_X3_38 dX3_takeArgumentName_64 ?_
        refine gC_3_arguments C mF_X3_103 dX3_takeArgumentName_67 ?_
        refine z_aload_n C.1 dX3_takeArgumentName_70 rfl 1 rfl ?_
        refine gC_1_current C mF_X3_92 dX3_takeArgumentName_71 ?_
        refine z_topi (fun v8 ev8 => ?_)
        replace hw := hw v8 ev8
        refine z_dup2 C.1 dX3_takeArgumentName_74 rfl rfl ?_
        refine lC_15 C hw.1 dX3_takeArgumentName_75 ?_
        replace hw := hw.2
        refine z_iconst (v := 1) C.1 dX3_takeArgumentName_76 (by decide) ?_
        refine z_iadd C.1 dX3_takeArgumentName_77 ?_
        refine sC_15 C hw.1 dX3_takeArgumentName_78 (fun u9 eu9 => ?_)
        replace hw := hw.2 u9 eu9
        refine z_aload_n C.1 dX3_takeArgumentName_79 rfl 1 rfl ?_
        refine z_iconst (v := 4) C.1 dX3_takeArgumentName_80 (by decide) ?_
        refine pC_1_due C mF_X3_46 dX3_takeArgumentName_81 (fun u10 eu10 => ?_)
        replace hw := hw u10 eu10
        exact hR _ _ _ dX3_takeArgumentName_84 hw
      · replace hw := hw.2 c6
        refine z_lv [1] rfl ?_
        exact z_X3_takeArgumentName_45 C hn hR _ hw
theorem c_X3_takeArgumentName {l : Launch} {D : va_G} {A : Nat → Prop} {ad : Nat → Nat} {cs : Nat → ClassId} (hD : ∀ u : St, va_D A (wC ad cs u)) (u : St) (post : St → Prop) (hw : wp_X3_takeArgumentName u post) : MV (ad 90, ad 91) l yX3_takeArgumentName cX3_takeArgumentName 2 none (rmm 1 23) D (tysC cs) A (wC ad cs) u [.ref (ad 1)] post :=
  met_v (by decide) (Nat.le_of_ble_eq_true rfl) (fun X C _ _ ht hA hn hsg hR => z_X3_takeArgumentName ⟨C, ht, fun u => by rw [hA]; exact hD u, hsg⟩ hn hR u hw)
theorem k_X3_takeArgumentName {X : XX} {ad : Nat → Nat} {cs : Nat → ClassId} {cc : ByteArray} {own : String} {fr lo pc : Nat} {lv : List (Nat × Value)} {st : List Value} {u : St} (C : CxC X ad cs cc own fr lo) {idx : Nat} {P : St → Prop} (hlink : Cond.methodLink own idx yX3_takeArgumentName ∈ W0) (hw : wp_X3_takeArgumentName u P) (hr : 1 + 1 ≤ fr ∧ 8 + (2 + 11) + 23 ≤ lo) (hst : (st.map fun v => v.category).sum ≤ 8) (hdg : decode cc pc = .ok (.invokevirtual idx, 3)) (k : ∀ (u2 : St), P u2 → Z X (wC ad cs u2) (pc + 3) lv st) : Z X (wC ad cs u) pc lv (.ref (ad 1) :: st) :=
  z_callVv (wf := wC ad cs) (As := []) (rest := st) C.1 0 (q0 := 1) mI_X3_takeArgumentName mS_X3_takeArgumentName rfl rfl (by rw [C.2.1, C.2.2.2]; exact c_X3_takeArgumentName C.2.2.1 u P hw) mC_X3_takeArgumentName mZ_X3 (by decide +kernel) rfl hlink hr hst hdg k

def wp_X3_takeOfHead (u : St) (post : St → Prop) : Prop :=
  br ((gI u 5) = 0) (wp_X3_takeDefinitionName u (fun (u2 : St) => post u2)) (br ((gI u 5) = 1) (wp_X3_expect u 40 2 (fun (u4 : St) => post u4)) (br ((gI u 5) = 2) (br ((gI u 9) = 41) (nm (sI u 5 5) (fun u8 : St => post u8)) (wp_X3_takeArgumentName u (fun (u7 : St) => post u7))) (br ((gI u 5) = 3) (wp_X3_takeArgumentName u (fun (u10 : St) => post u10)) (br ((gI u 5) = 4) (br ((gI u 9) = 44) (nm (sI u 5 3) (fun u14 : St => post u14)) (wp_X3_expect u 41 5 (fun (u13 : St) => post u13))) (wp_X3_expect u 61 6 (fun (u15 : St) => post u15))))))
set_option maxHeartbeats 4000000 in
set_option maxRecDepth 20000 in
theorem z_X3_takeOfHead {X : XX} {ad : Nat → Nat} {cs : Nat → ClassId} {post : St → Prop} (C : CxC X ad cs cX3_takeOfHead RX3 2 44) (hn : xnL X = 1) (hR : rtV X cX3_takeOfHead (wC ad cs) post) (u : St) (hw : wp_X3_takeOfHead u post) : Z X (wC ad cs u) 0 [(0, .ref (ad 1))] [] := by
  unfold wp_X3_takeOfHead at hw
  refine z_aload_n C.1 dX3_takeOfHead_0 rfl 0 rfl ?_
  refine gC_1_due C mF_X3_46 dX3_takeOfHead_1 ?_
  by_cases c1 : (gI u 5) = 0
  · replace hw := hw.1 c1
    refine z_tabIn (tgt := 40) (off := 36) C.1 c1 dX3_takeOfHead_4 (by decide) (by decide) (by decide) (by decide) ?_
    refine z_aload_n C.1 dX3_takeOfHead_40 rfl 0 rfl ?_
    refine k_X3_takeDefinitionName C mM_X3_82 hw (by decide) (Nat.le_of_ble_eq_true rfl) dX3_takeOfHead_41 (fun u2 hw => ?_)
    refine z_goto (tgt := 129) C.1 dX3_takeOfHead_44 (by decide) ?_
    exact hR _ _ _ dX3_takeOfHead_129 hw
  replace hw := hw.2 c1
  by_cases c3 : (gI u 5) = 1
  · replace hw := hw.1 c3
    refine z_tabIn (tgt := 47) (off := 43) C.1 c3 dX3_takeOfHead_4 (by decide) (by decide) (by decide) (by decide) ?_
    refine z_aload_n C.1 dX3_takeOfHead_47 rfl 0 rfl ?_
    refine z_bipush (v := 40) C.1 dX3_takeOfHead_48 (by decide) ?_
    refine z_iconst (v := 2) C.1 dX3_takeOfHead_50 (by decide) ?_
    refine k_X3_expect C mM_X3_85 hw (by decide) (Nat.le_of_ble_eq_true rfl) dX3_takeOfHead_51 (fun u4 hw => ?_)
    refine z_goto (tgt := 129) C.1 dX3_takeOfHead_54 (by decide) ?_
    exact hR _ _ _ dX3_takeOfHead_129 hw
  replace hw := hw.2 c3
  by_cases c5 : (gI u 5) = 2
  · replace hw := hw.1 c5
    refine z_tabIn (tgt := 57) (off := 53) C.1 c5 dX3_takeOfHead_4 (by decide) (by decide) (by decide) (by decide) ?_
    refine z_aload_n C.1 dX3_takeOfHead_57 rfl 0 rfl ?_
    refine gC_1_tape C mF_X3_16 dX3_takeOfHead_58 ?_
    refine gC_2_kind C mF_X3_58 dX3_takeOfHead_61 ?_
    refine z_bipush (v := 41) C.1 dX3_takeOfHead_64 (by decide) ?_
    refine z_icmp_ne (tgt := 77) C.1 dX3_takeOfHead_66 (by decide) (fun c6 => ?_) (fun c6 => ?_)
    · replace hw := hw.2 c6
      refine z_aload_n C.1 dX3_takeOfHead_77 rfl 0 rfl ?_
      refine k_X3_takeArgumentName C mM_X3_89 hw (by decide) (Nat.le_of_ble_eq_true rfl) dX3_takeOfHead_78 (fun u7 hw => ?_)
      refine z_goto (tgt := 129) C.1 dX3_takeOfHead_81 (by decide) ?_
      exact hR _ _ _ dX3_takeOfHead_129 hw
    · replace hw := hw.1 c6
      refine z_aload_n C.1 dX3_takeOfHead_69 rfl 0 rfl ?_
      refine z_iconst (v := 5) C.1 dX3_takeOfHead_70 (by decide) ?_
      refine pC_1_due C mF_X3_46 dX3_takeOfHead_71 (fun u8 eu8 => ?_)
      replace hw := hw u8 eu8
      refine z_goto (tgt := 129) C.1 dX3_takeOfHead_74 (by decide) ?_
      exact hR _ _ _ dX3_takeOfHead_129 hw
  replace hw := hw.2 c5
  by_cases c9 : (gI u 5) = 3
  · replace hw := hw.1 c9
    refine z_tabIn (tgt := 84) (off := 80) C.1 c9 dX3_takeOfHead_4 (by decide) (by decide) (by decide) (by decide) ?_
    refine z_aload_n C.1 dX3_takeOfHead_84 rfl 0 rfl ?_
    refine k_X3_takeArgumentName C mM_X3_89 hw (by decide) (Nat.le_of_ble_eq_true rfl) dX3_takeOfHead_85 (fun u10 hw => ?_)
    refine z_goto (tgt := 129) C.1 dX3_takeOfHead_88 (by decide) ?_
    exact hR _ _ _ dX3_takeOfHead_129 hw
  replace hw := hw.2 c9
  by_cases c11 : (gI u 5) = 4
  · replace hw := hw.1 c11
    refine z_tabIn (tgt := 91) (off := 87) C.1 c11 dX3_takeOfHead_4 (by decide) (by decide) (by decide) (by decide) ?_
    refine z_aload_n C.1 dX3_takeOfHead_91 rfl 0 rfl ?_
    refine gC_1_tape C mF_X3_16 dX3_takeOfHead_92 ?_
    refine gC_2_kind C mF_X3_58 dX3_takeOfHead_95 ?_
    refine z_bipush (v := 44) C.1 dX3_takeOfHead_98 (by decide) ?_
    refine z_icmp_ne (tgt := 111) C.1 dX3_takeOfHead_100 (by decide) (fun c12 => ?_) (fun c12 => ?_)
    · replace hw := hw.2 c12
      refine z_aload_n C.1 dX3_takeOfHead_111 rfl 0 rfl ?_
      refine z_bipush (v := 41) C.1 dX3_takeOfHead_112 (by decide) ?_
      refine z_iconst (v := 5) C.1 dX3_takeOfHead_114 (by decide) ?_
      refine k_X3_expect C mM_X3_85 hw (by decide) (Nat.le_of_ble_eq_true rfl) dX3_takeOfHead_115 (fun u13 hw => ?_)
      refine z_goto (tgt := 129) C.1 dX3_takeOfHead_118 (by decide) ?_
      exact hR _ _ _ dX3_takeOfHead_129 hw
    · replace hw := hw.1 c12
      refine z_aload_n C.1 dX3_takeOfHead_103 rfl 0 rfl ?_
      refine z_iconst (v := 3) C.1 dX3_takeOfHead_104 (by decide) ?_
      refine pC_1_due C mF_X3_46 dX3_takeOfHead_105 (fun u14 eu14 => ?_)
      replace hw := hw u14 eu14
      refine z_goto (tgt := 129) C.1 dX3_takeOfHead_108 (by decide) ?_
      exact hR _ _ _ dX3_takeOfHead_129 hw
  replace hw := hw.2 c11
  have hdf : Z X (wC ad cs u) 121 [(0, .ref (ad 1))] [] := by
    refine z_aload_n C.1 dX3_takeOfHead_121 rfl 0 rfl ?_
    refine z_bipush (v := 61) C.1 dX3_takeOfHead_122 (by decide) ?_
    refine z_bipush (v := 6) C.1 dX3_takeOfHead_124 (by decide) ?_
    refine k_X3_expect C mM_X3_85 hw (by decide) (Nat.le_of_ble_eq_true rfl) dX3_takeOfHead_126 (fun u15 hw => ?_)
    exact hR _ _ _ dX3_takeOfHead_129 hw
  replace c1 := lv_neT c1 (a := 0) (by decide)
  replace c3 := lv_neT c3 (a := 1) (by decide)
  replace c5 := lv_neT c5 (a := 2) (by decide)
  replace c9 := lv_neT c9 (a := 3) (by decide)
  replace c11 := lv_neT c11 (a := 4) (by decide)
  exact z_tabOut (tgt := 121) C.1 dX3_takeOfHead_4 (by omega) (by decide) hdf
theorem c_X3_takeOfHead {l : Launch} {D : va_G} {A : Nat → Prop} {ad : Nat → Nat} {cs : Nat → ClassId} (hD : ∀ u : St, va_D A (wC ad cs u)) (u : St) (post : St → Prop) (hw : wp_X3_takeOfHead u post) : MV (ad 90, ad 91) l yX3_takeOfHead cX3_takeOfHead 1 none (rmm 2 44) D (tysC cs) A (wC ad cs) u [.ref (ad 1)] post :=
  met_v (by decide) (Nat.le_of_ble_eq_true rfl) (fun X C _ _ ht hA hn hsg hR => z_X3_takeOfHead ⟨C, ht, fun u => by rw [hA]; exact hD u, hsg⟩ hn hR u hw)
theorem k_X3_takeOfHead {X : XX} {ad : Nat → Nat} {cs : Nat → ClassId} {cc : ByteArray} {own : String} {fr lo pc : Nat} {lv : List (Nat × Value)} {st : List Value} {u : St} (C : CxC X ad cs cc own fr lo) {idx : Nat} {P : St → Prop} (hlink : Cond.methodLink own idx yX3_takeOfHead ∈ W0) (hw : wp_X3_takeOfHead u P) (hr : 2 + 1 ≤ fr ∧ 8 + (1 + 11) + 44 ≤ lo) (hst : (st.map fun v => v.category).sum ≤ 8) (hdg : decode cc pc = .ok (.invokevirtual idx, 3)) (k : ∀ (u2 : St), P u2 → Z X (wC ad cs u2) (pc + 3) lv st) : Z X (wC ad cs u) pc lv (.ref (ad 1) :: st) :=
  z_callVv (wf := wC ad cs) (As := []) (rest := st) C.1 0 (q0 := 1) mI_X3_takeOfHead mS_X3_takeOfHead rfl rfl (by rw [C.2.1, C.2.2.2]; exact c_X3_takeOfHead C.2.2.1 u P hw) mC_X3_takeOfHead mZ_X3 (by decide +kernel) rfl hlink hr hst hdg k

def wp_X3_takeOfCallMakeLet (u : St) (post : St → Prop) : Prop :=
  br ((gI u 5) = 8) (wp_X3_expect u 40 9 (fun (u2 : St) => post u2)) (br ((gI u 5) = 9) (br ((gI u 9) = 41) (wp_X3_end u (fun (u6 : St) => post u6)) (wp_X3_takeBeginning u (fun (u5 : St) => post u5))) (br ((gI u 5) = 10) (wp_X3_expect u 40 6 (fun (u8 : St) => post u8)) (br ((gI u 5) = 11) (wp_X3_innermost u (fun (r11 : Int32) (u10 : St) => wp_X3_keepName u10 r11 (fun (u12 : St) => wp_X3_expect u12 2 12 (fun (u13 : St) => post u13)))) (br ((gI u 5) = 12) (br ((gI u 9) = 41) (wp_X3_end u (fun (u17 : St) => post u17)) (wp_X3_expect u 44 6 (fun (u16 : St) => post u16))) (br ((gI u 5) = 13) (wp_X3_innermost u (fun (r20 : Int32) (u19 : St) => wp_X3_keepName u19 r20 (fun (u21 : St) => wp_X3_expect u21 2 14 (fun (u22 : St) => post u22)))) (wp_X3_expect u 61 6 (fun (u23 : St) => post u23)))))))
set_option maxHeartbeats 4000000 in
set_option maxRecDepth 20000 in
theorem z_X3_takeOfCallMakeLet {X : XX} {ad : Nat → Nat} {cs : Nat → ClassId} {post : St → Prop} (C : CxC X ad cs cX3_takeOfCallMakeLet RX3 4 89) (hn : xnL X = 1) (hR : rtV X cX3_takeOfCallMakeLet (wC ad cs) post) (u : St) (hw : wp_X3_takeOfCallMakeLet u post) : Z X (wC ad cs u) 0 [(0, .ref (ad 1))] [] := by
  unfold wp_X3_takeOfCallMakeLet at hw
  refine z_aload_n C.1 dX3_takeOfCallMakeLet_0 rfl 0 rfl ?_
  refine gC_1_due C mF_X3_46 dX3_takeOfCallMakeLet_1 ?_
  by_cases c1 : (gI u 5) = 8
  · replace hw := hw.1 c1
    refine z_tabIn (tgt := 44) (off := 40) C.1 c1 dX3_takeOfCallMakeLet_4 (by decide) (by decide) (by decide) (by decide) ?_
    refine z_aload_n C.1 dX3_takeOfCallMakeLet_44 rfl 0 rfl ?_
    refine z_bipush (v := 40) C.1 dX3_takeOfCallMakeLet_45 (by decide) ?_
    refine z_bipush (v := 9) C.1 dX3_takeOfCallMakeLet_47 (by decide) ?_
    refine k_X3_expect C mM_X3_85 hw (by decide) (Nat.le_of_ble_eq_true rfl) dX3_takeOfCallMakeLet_49 (fun u2 hw => ?_)
    refine z_goto (tgt := 166) C.1 dX3_takeOfCallMakeLet_52 (by decide) ?_
    exact hR _ _ _ dX3_takeOfCallMakeLet_166 hw
  replace hw := hw.2 c1
  by_cases c3 : (gI u 5) = 9
  · replace hw := hw.1 c3
    refine z_tabIn (tgt := 55) (off := 51) C.1 c3 dX3_takeOfCallMakeLet_4 (by decide) (by decide) (by decide) (by decide) ?_
    refine z_aload_n C.1 dX3_takeOfCallMakeLet_55 rfl 0 rfl ?_
    refine gC_1_tape C mF_X3_16 dX3_takeOfCallMakeLet_56 ?_
    refine gC_2_kind C mF_X3_58 dX3_takeOfCallMakeLet_59 ?_
    refine z_bipush (v := 41) C.1 dX3_takeOfCallMakeLet_62 (by decide) ?_
    refine z_icmp_ne (tgt := 74) C.1 dX3_takeOfCallMakeLet_64 (by decide) (fun c4 => ?_) (fun c4 => ?_)
    · replace hw := hw.2 c4
      refine z_aload_n C.1 dX3_takeOfCallMakeLet_74 rfl 0 rfl ?_
      refine k_X3_takeBeginning C mM_X3_61 hw (by decide) (Nat.le_of_ble_eq_true rfl) dX3_takeOfCallMakeLet_75 (fun u5 hw => ?_)
      refine z_goto (tgt := 166) C.1 dX3_takeOfCallMakeLet_78 (by decide) ?_
      exact hR _ _ _ dX3_takeOfCallMakeLet_166 hw
    · replace hw := hw.1 c4
      refine z_aload_n C.1 dX3_takeOfCallMakeLet_67 rfl 0 rfl ?_
      refine k_X3_end C mM_X3_163 hw (by decide) (Nat.le_of_ble_eq_true rfl) dX3_takeOfCallMakeLet_68 (fun u6 hw => ?_)
      refine z_goto (tgt := 166) C.1 dX3_takeOfCallMakeLet_71 (by decide) ?_
      exact hR _ _ _ dX3_takeOfCallMakeLet_166 hw
  replace hw := hw.2 c3
  by_cases c7 : (gI u 5) = 10
  · replace hw := hw.1 c7
    refine z_tabIn (tgt := 81) (off := 77) C.1 c7 dX3_takeOfCallMakeLet_4 (by decide) (by decide) (by decide) (by decide) ?_
    refine z_aload_n C.1 dX3_takeOfCallMakeLet_81 rfl 0 rfl ?_
    refine z_bipush (v := 40) C.1 dX3_takeOfCallMakeLet_82 (by decide) ?_
    refine z_bipush (v := 6) C.1 dX3_takeOfCallMakeLet_84 (by decide) ?_
    refine k_X3_expect C mM_X3_85 hw (by decide) (Nat.le_of_ble_eq_true rfl) dX3_takeOfCallMakeLet_86 (fun u8 hw => ?_)
    refine z_goto (tgt := 166) C.1 dX3_takeOfCallMakeLet_89 (by decide) ?_
    exact hR _ _ _ dX3_takeOfCallMakeLet_166 hw
  replace hw := hw.2 c7
  by_cases c9 : (gI u 5) = 11
  · replace hw := hw.1 c9
    refine z_tabIn (tgt := 92) (off := 88) C.1 c9 dX3_takeOfCallMakeLet_4 (by decide) (by decide) (by decide) (by decide) ?_
    refine z_aload_n C.1 dX3_takeOfCallMakeLet_92 rfl 0 rfl ?_
    refine z_aload_n C.1 dX3_takeOfCallMakeLet_93 rfl 0 rfl ?_
    refine k_X3_innermost C mM_X3_155 hw (by decide) (Nat.le_of_ble_eq_true rfl) dX3_takeOfCallMakeLet_94 (fun r11 u10 hw => ?_)
    refine k_X3_keepName C mM_X3_148 hw (by decide) (Nat.le_of_ble_eq_true rfl) dX3_takeOfCallMakeLet_97 (fun u12 hw => ?_)
    refine z_aload_n C.1 dX3_takeOfCallMakeLet_100 rfl 0 rfl ?_
    refine z_iconst (v := 2) C.1 dX3_takeOfCallMakeLet_101 (by decide) ?_
    refine z_bipush (v := 12) C.1 dX3_takeOfCallMakeLet_102 (by decide) ?_
    refine k_X3_expect C mM_X3_85 hw (by decide) (Nat.le_of_ble_eq_true rfl) dX3_takeOfCallMakeLet_104 (fun u13 hw => ?_)
    refine z_goto (tgt := 166) C.1 dX3_takeOfCallMakeLet_107 (by decide) ?_
    exact hR _ _ _ dX3_takeOfCallMakeLet_166 hw
  replace hw := hw.2 c9
  by_cases c14 : (gI u 5) = 12
  · replace hw := hw.1 c14
    refine z_tabIn (tgt := 110) (off := 106) C.1 c14 dX3_takeOfCallMakeLet_4 (by decide) (by decide) (by decide) (by decide) ?_
    refine z_aload_n C.1 dX3_takeOfCallMakeLet_110 rfl 0 rfl ?_
    refine gC_1_tape C mF_X3_16 dX3_takeOfCallMakeLet_111 ?_
    refine gC_2_kind C mF_X3_58 dX3_takeOfCallMakeLet_114 ?_
    refine z_bipush (v := 41) C.1 dX3_takeOfCallMakeLet_117 (by decide) ?_
    refine z_icmp_ne (tgt := 129) C.1 dX3_takeOfCallMakeLet_119 (by decide) (fun c15 => ?_) (fun c15 => ?_)
    · replace hw := hw.2 c15
      refine z_aload_n C.1 dX3_takeOfCallMakeLet_129 rfl 0 rfl ?_
      refine z_bipush (v := 44) C.1 dX3_takeOfCallMakeLet_130 (by decide) ?_
      refine z_bipush (v := 6) C.1 dX3_takeOfCallMakeLet_132 (by decide) ?_
      refine k_X3_expect C mM_X3_85 hw (by decide) (Nat.le_of_ble_eq_true rfl) dX3_takeOfCallMakeLet_134 (fun u16 hw => ?_)
      refine z_goto (tgt := 166) C.1 dX3_takeOfCallMakeLet_137 (by decide) ?_
      exact hR _ _ _ dX3_takeOfCallMakeLet_166 hw
    · replace hw := hw.1 c15
      refine z_aload_n C.1 dX3_takeOfCallMakeLet_122 rfl 0 rfl ?_
      refine k_X3_end C mM_X3_163 hw (by decide) (Nat.le_of_ble_eq_true rfl) dX3_takeOfCallMakeLet_123 (fun u17 hw => ?_)
      refine z_goto (tgt := 166) C.1 dX3_takeOfCallMakeLet_126 (by decide) ?_
      exact hR _ _ _ dX3_takeOfCallMakeLet_166 hw
  replace hw := hw.2 c14
  by_cases c18 : (gI u 5) = 13
  · replace hw := hw.1 c18
    refine z_tabIn (tgt := 140) (off := 136) C.1 c18 dX3_takeOfCallMakeLet_4 (by decide) (by decide) (by decide) (by decide) ?_
    refine z_aload_n C.1 dX3_takeOfCallMakeLet_140 rfl 0 rfl ?_
    refine z_aload_n C.1 dX3_takeOfCallMakeLet_141 rfl 0 rfl ?_
    refine k_X3_innermost C mM_X3_155 hw (by decide) (Nat.le_of_ble_eq_true rfl) dX3_takeOfCallMakeLet_142 (fun r20 u19 hw => ?_)
    refine k_X3_keepName C mM_X3_148 hw (by decide) (Nat.le_of_ble_eq_true rfl) dX3_takeOfCallMakeLet_145 (fun u21 hw => ?_)
    refine z_aload_n C.1 dX3_takeOfCallMakeLet_148 rfl 0 rfl ?_
    refine z_iconst (v := 2) C.1 dX3_takeOfCallMakeLet_149 (by decide) ?_
    refine z_bipush (v := 14) C.1 dX3_takeOfCallMakeLet_150 (by decide) ?_
    refine k_X3_expect C mM_X3_85 hw (by decide) (Nat.le_of_ble_eq_true rfl) dX3_takeOfCallMakeLet_152 (fun u22 hw => ?_)
    refine z_goto (tgt := 166) C.1 dX3_takeOfCallMakeLet_155 (by decide) ?_
    exact hR _ _ _ dX3_takeOfCallMakeLet_166 hw
  replace hw := hw.2 c18
  have hdf : Z X (wC ad cs u) 158 [(0, .ref (ad 1))] [] := by
    refine z_aload_n C.1 dX3_takeOfCallMakeLet_158 rfl 0 rfl ?_
    refine z_bipush (v := 61) C.1 dX3_takeOfCallMakeLet_159 (by decide) ?_
    refine z_bipush (v := 6) C.1 dX3_takeOfCallMakeLet_161 (by decide) ?_
    refine k_X3_expect C mM_X3_85 hw (by decide) (Nat.le_of_ble_eq_true rfl) dX3_takeOfCallMakeLet_163 (fun u23 hw => ?_)
    exact hR _ _ _ dX3_takeOfCallMakeLet_166 hw
  replace c1 := lv_neT c1 (a := 8) (by decide)
  replace c3 := lv_neT c3 (a := 9) (by decide)
  replace c7 := lv_neT c7 (a := 10) (by decide)
  replace c9 := lv_neT c9 (a := 11) (by decide)
  replace c14 := lv_neT c14 (a := 12) (by decide)
  replace c18 := lv_neT c18 (a := 13) (by decide)
  exact z_tabOut (tgt := 158) C.1 dX3_takeOfCallMakeLet_4 (by omega) (by decide) hdf
theorem c_X3_takeOfCallMakeLet {l : Launch} {D : va_G} {A : Nat → Prop} {ad : Nat → Nat} {cs : Nat → ClassId} (hD : ∀ u : St, va_D A (wC ad cs u)) (u : St) (post : St → Prop) (hw : wp_X3_takeOfCallMakeLet u post) : MV (ad 90, ad 91) l yX3_takeOfCallMakeLet cX3_takeOfCallMakeLet 1 none (rmm 4 89) D (tysC cs) A (wC ad cs) u [.ref (ad 1)] post :=
  met_v (by decide) (Nat.le_of_ble_eq_true rfl) (fun X C _ _ ht hA hn hsg hR => z_X3_takeOfCallMakeLet ⟨C, ht, fun u => by rw [hA]; exact hD u, hsg⟩ hn hR u hw)
theorem k_X3_takeOfCallMakeLet {X : XX} {ad : Nat → Nat} {cs : Nat → ClassId} {cc : ByteArray} {own : String} {fr lo pc : Nat} {lv : List (Nat × Value)} {st : List Value} {u : St} (C : CxC X ad cs cc own fr lo) {idx : Nat} {P : St → Prop} (hlink : Cond.methodLink own idx yX3_takeOfCallMakeLet ∈ W0) (hw : wp_X3_takeOfCallMakeLet u P) (hr : 4 + 1 ≤ fr ∧ 8 + (1 + 11) + 89 ≤ lo) (hst : (st.map fun v => v.category).sum ≤ 8) (hdg : decode cc pc = .ok (.invokevirtual idx, 3)) (k : ∀ (u2 : St), P u2 → Z X (wC ad cs u2) (pc + 3) lv st) : Z X (wC ad cs u) pc lv (.ref (ad 1) :: st) :=
  z_callVv (wf := wC ad cs) (As := []) (rest := st) C.1 0 (q0 := 1) mI_X3_takeOfCallMakeLet mS_X3_takeOfCallMakeLet rfl rfl (by rw [C.2.1, C.2.2.2]; exact c_X3_takeOfCallMakeLet C.2.2.1 u P hw) mC_X3_takeOfCallMakeLet mZ_X3 (by decide +kernel) rfl hlink hr hst hdg k

def wp_X3_bindCall_93 (u : St) (x1 : Int32) (post : St → Prop) : Prop :=
  (vp_in x1 720 ∧ nm (sI u 6 (gA u 12 (ix x1))) (fun u10 : St => post u10))
set_option maxHeartbeats 4000000 in
set_option maxRecDepth 20000 in
theorem z_X3_bindCall_93 {X : XX} {ad : Nat → Nat} {cs : Nat → ClassId} {post : St → Prop} (C : CxC X ad cs cX3_bindCall RX3 1 23) (hn : xnL X = 4) (hR : rtV X cX3_bindCall (wC ad cs) post) (u : St) (x1 : Int32) (hw : wp_X3_bindCall_93 u x1 post) : Z X (wC ad cs u) 93 [(0, .ref (ad 1)), (1, .int x1)] [] := by
  unfold wp_X3_bindCall_93 at hw
  refine z_aload_n C.1 dX3_bindCall_93 rfl 0 rfl ?_
  refine z_aload_n C.1 dX3_bindCall_94 rfl 0 rfl ?_
  refine gC_1_partPlaces C mF_X3_30 dX3_bindCall_95 ?_
  refine z_iload_n C.1 dX3_bindCall_98 rfl 1 rfl ?_
  refine lC_12 C hw.1 dX3_bindCall_99 ?_
  replace hw := hw.2
  refine pC_1_fault C mF_X3_49 dX3_bindCall_100 (fun u10 eu10 => ?_)
  replace hw := hw u10 eu10
  exact hR _ _ _ dX3_bindCall_103 hw
def wp_X3_bindCall_72 (u : St) (x1 : Int32) (post : St → Prop) : Prop :=
  br ((gI u 6) = (-1)) (wp_X3_bindCall_93 u x1 post) ((vp_in x1 720 ∧ br ((gI u 6) ≤ (gA u 12 (ix x1))) (post u) (wp_X3_bindCall_93 u x1 post)))
set_option maxHeartbeats 4000000 in
set_option maxRecDepth 20000 in
theorem z_X3_bindCall_72 {X : XX} {ad : Nat → Nat} {cs : Nat → ClassId} {post : St → Prop} (C : CxC X ad cs cX3_bindCall RX3 1 23) (hn : xnL X = 4) (hR : rtV X cX3_bindCall (wC ad cs) post) (u : St) (x1 : Int32) (hw : wp_X3_bindCall_72 u x1 post) : Z X (wC ad cs u) 72 [(0, .ref (ad 1)), (1, .int x1)] [] := by
  unfold wp_X3_bindCall_72 at hw
  refine z_aload_n C.1 dX3_bindCall_72 rfl 0 rfl ?_
  refine gC_1_fault C mF_X3_49 dX3_bindCall_73 ?_
  refine z_iconst (v := (-1)) C.1 dX3_bindCall_76 (by decide) ?_
  refine z_icmp_eq (tgt := 93) C.1 dX3_bindCall_77 (by decide) (fun c8 => ?_) (fun c8 => ?_)
  · replace hw := hw.1 c8
    refine z_lv [0, 1] rfl ?_
    exact z_X3_bindCall_93 C hn hR _ _ hw
  · replace hw := hw.2 c8
    refine z_aload_n C.1 dX3_bindCall_80 rfl 0 rfl ?_
    refine gC_1_partPlaces C mF_X3_30 dX3_bindCall_81 ?_
    refine z_iload_n C.1 dX3_bindCall_84 rfl 1 rfl ?_
    refine lC_12 C hw.1 dX3_bindCall_85 ?_
    replace hw := hw.2
    refine z_aload_n C.1 dX3_bindCall_86 rfl 0 rfl ?_
    refine gC_1_fault C mF_X3_49 dX3_bindCall_87 ?_
    refine z_icmp_ge (tgt := 103) C.1 dX3_bindCall_90 (by decide) (fun c9 => ?_) (fun c9 => ?_)
    · replace hw := hw.1 c9
      exact hR _ _ _ dX3_bindCall_103 hw
    · replace hw := hw.2 c9
      refine z_lv [0, 1] rfl ?_
      exact z_X3_bindCall_93 C hn hR _ _ hw
def wp_X3_bindCall_28 (u : St) (x1 : Int32) (y0 : Int32) (y1 : Int32) (post : St → Prop) : Prop :=
  nm (y1 + y0) (fun v2 : Int32 => (vp_in x1 720 ∧ wp_X3_definitionNamed u (gB u 11 (ix x1)) (fun (r4 : Int32) (u3 : St) => br (r4 = (-1)) (wp_X3_bindCall_72 u3 x1 post) ((vp_in r4 12 ∧ br ((gA u3 15 (ix r4)) = v2) ((vp_in x1 720 ∧ nm (sA u3 19 (ix x1) r4) (fun u7 : St => post u7))) (wp_X3_bindCall_72 u3 x1 post))))))
set_option maxHeartbeats 4000000 in
set_option maxRecDepth 20000 in
theorem z_X3_bindCall_28 {X : XX} {ad : Nat → Nat} {cs : Nat → ClassId} {post : St → Prop} (C : CxC X ad cs cX3_bindCall RX3 1 23) (hn : xnL X = 4) (hR : rtV X cX3_bindCall (wC ad cs) post) (u : St) (x1 : Int32) (y0 : Int32) (y1 : Int32) (hw : wp_X3_bindCall_28 u x1 y0 y1 post) : Z X (wC ad cs u) 28 [(0, .ref (ad 1)), (1, .int x1)] [.int y0, .int y1] := by
  unfold wp_X3_bindCall_28 at hw
  refine z_iadd C.1 dX3_bindCall_28 ?_
  refine z_topi (fun v2 ev2 => ?_)
  replace hw := hw v2 ev2
  refine z_istore_n (lv' := [(2, .int v2), (0, .ref (ad 1)), (1, .int x1)]) C.1 dX3_bindCall_29 rfl (by rw [hn]; decide) rfl ?_
  refine z_aload_n C.1 dX3_bindCall_30 rfl 1 rfl ?_
  refine z_aload_n C.1 dX3_bindCall_31 rfl 1 rfl ?_
  refine gC_1_partNames C mF_X3_27 dX3_bindCall_32 ?_
  refine z_iload_n C.1 dX3_bindCall_35 rfl 2 rfl ?_
  refine lC_11 C hw.1 dX3_bindCall_36 ?_
  replace hw := hw.2
  refine k_X3_definitionNamed C mM_X3_99 hw (by decide) (Nat.le_of_ble_eq_true rfl) dX3_bindCall_37 (fun r4 u3 hw => ?_)
  refine z_istore_n (lv' := [(3, .int r4), (2, .int v2), (0, .ref (ad 1)), (1, .int x1)]) C.1 dX3_bindCall_40 rfl (by rw [hn]; decide) rfl ?_
  refine z_iload_n C.1 dX3_bindCall_41 rfl 0 rfl ?_
  refine z_iconst (v := (-1)) C.1 dX3_bindCall_42 (by decide) ?_
  refine z_icmp_eq (tgt := 72) C.1 dX3_bindCall_43 (by decide) (fun c5 => ?_) (fun c5 => ?_)
  · replace hw := hw.1 c5
    refine z_lv [2, 3] rfl ?_
    exact z_X3_bindCall_72 C hn hR _ _ hw
  · replace hw := hw.2 c5
    refine z_aload_n C.1 dX3_bindCall_46 rfl 2 rfl ?_
    refine gC_1_program C mF_X3_38 dX3_bindCall_47 ?_
    refine gC_3_arguments C mF_X3_103 dX3_bindCall_50 ?_
    refine z_iload_n C.1 dX3_bindCall_53 rfl 0 rfl ?_
    refine lC_15 C hw.1 dX3_bindCall_54 ?_
    replace hw := hw.2
    refine z_iload_n C.1 dX3_bindCall_55 rfl 1 rfl ?_
    refine z_icmp_ne (tgt := 72) C.1 dX3_bindCall_56 (by decide) (fun c6 => ?_) (fun c6 => ?_)
    · replace hw := hw.2 c6
      refine z_lv [2, 3] rfl ?_
      exact z_X3_bindCall_72 C hn hR _ _ hw
    · replace hw := hw.1 c6
      refine z_aload_n C.1 dX3_bindCall_59 rfl 2 rfl ?_
      refine gC_1_program C mF_X3_38 dX3_bindCall_60 ?_
      refine gC_3_number C mF_X3_228 dX3_bindCall_63 ?_
      refine z_iload_n C.1 dX3_bindCall_66 rfl 3 rfl ?_
      refine z_iload_n C.1 dX3_bindCall_67 rfl 0 rfl ?_
      refine sC_19 C hw.1 dX3_bindCall_68 (fun u7 eu7 => ?_)
      replace hw := hw.2 u7 eu7
      refine z_goto (tgt := 103) C.1 dX3_bindCall_69 (by decide) ?_
      exact hR _ _ _ dX3_bindCall_103 hw
def wp_X3_bindCall (u : St) (x1 : Int32) (post : St → Prop) : Prop :=
  (vp_in x1 720 ∧ (vp_in x1 720 ∧ br ((gA u 18 (ix x1)) = 8) (wp_X3_bindCall_28 u x1 1 (gA u 20 (ix x1)) post) (wp_X3_bindCall_28 u x1 0 (gA u 20 (ix x1)) post)))
set_option maxHeartbeats 4000000 in
set_option maxRecDepth 20000 in
theorem z_X3_bindCall {X : XX} {ad : Nat → Nat} {cs : Nat → ClassId} {post : St → Prop} (C : CxC X ad cs cX3_bindCall RX3 1 23) (hn : xnL X = 4) (hR : rtV X cX3_bindCall (wC ad cs) post) (u : St) (x1 : Int32) (hw : wp_X3_bindCall u x1 post) : Z X (wC ad cs u) 0 [(0, .ref (ad 1)), (1, .int x1)] [] := by
  unfold wp_X3_bindCall at hw
  refine z_aload_n C.1 dX3_bindCall_0 rfl 0 rfl ?_
  refine gC_1_program C mF_X3_38 dX3_bindCall_1 ?_
  refine gC_3_children C mF_X3_209 dX3_bindCall_4 ?_
  refine z_iload_n C.1 dX3_bindCall_7 rfl 1 rfl ?_
  refine lC_20 C hw.1 dX3_bindCall_8 ?_
  replace hw := hw.2
  refine z_aload_n C.1 dX3_bindCall_9 rfl 0 rfl ?_
  refine gC_1_program C mF_X3_38 dX3_bindCall_10 ?_
  refine gC_3_kind C mF_X3_207 dX3_bindCall_13 ?_
  refine z_iload_n C.1 dX3_bindCall_16 rfl 1 rfl ?_
  refine lC_18 C hw.1 dX3_bindCall_17 ?_
  replace hw := hw.2
  refine z_bipush (v := 8) C.1 dX3_bindCall_18 (by decide) ?_
  refine z_icmp_ne (tgt := 27) C.1 dX3_bindCall_20 (by decide) (fun c1 => ?_) (fun c1 => ?_)
  · replace hw := hw.2 c1
    refine z_iconst (v := 0) C.1 dX3_bindCall_27 (by decide) ?_
    refine z_lv [0, 1] rfl ?_
    exact z_X3_bindCall_28 C hn hR _ _ _ _ hw
  · replace hw := hw.1 c1
    refine z_iconst (v := 1) C.1 dX3_bindCall_23 (by decide) ?_
    refine z_goto (tgt := 28) C.1 dX3_bindCall_24 (by decide) ?_
    refine z_lv [0, 1] rfl ?_
    exact z_X3_bindCall_28 C hn hR _ _ _ _ hw
theorem c_X3_bindCall {l : Launch} {D : va_G} {A : Nat → Prop} {ad : Nat → Nat} {cs : Nat → ClassId} (hD : ∀ u : St, va_D A (wC ad cs u)) (u : St) (x1 : Int32) (post : St → Prop) (hw : wp_X3_bindCall u x1 post) : MV (ad 90, ad 91) l yX3_bindCall cX3_bindCall 4 none (rmm 1 23) D (tysC cs) A (wC ad cs) u [.ref (ad 1), .int x1] post :=
  met_v (by decide) (Nat.le_of_ble_eq_true rfl) (fun X C _ _ ht hA hn hsg hR => z_X3_bindCall ⟨C, ht, fun u => by rw [hA]; exact hD u, hsg⟩ hn hR u x1 hw)
theorem k_X3_bindCall {X : XX} {ad : Nat → Nat} {cs : Nat → ClassId} {cc : ByteArray} {own : String} {fr lo pc : Nat} {lv : List (Nat × Value)} {st : List Value} {u : St} (C : CxC X ad cs cc own fr lo) {idx : Nat} {x1 : Int32} {P : St → Prop} (hlink : Cond.methodLink own idx yX3_bindCall ∈ W0) (hw : wp_X3_bindCall u x1 P) (hr : 1 + 1 ≤ fr ∧ 8 + (4 + 11) + 23 ≤ lo) (hst : (st.map fun v => v.category).sum ≤ 8) (hdg : decode cc pc = .ok (.invokevirtual idx, 3)) (k : ∀ (u2 : St), P u2 → Z X (wC ad cs u2) (pc + 3) lv st) : Z X (wC ad cs u) pc lv (.int x1 :: .ref (ad 1) :: st) :=
  z_callVv (wf := wC ad cs) (As := [.int x1]) (rest := st) C.1 1 (q0 := 1) mI_X3_bindCall mS_X3_bindCall rfl rfl (by rw [C.2.1, C.2.2.2]; exact c_X3_bindCall C.2.2.1 u x1 P hw) mC_X3_bindCall mZ_X3 (by decide +kernel) rfl hlink hr hst hdg k

def wp_X3_bindCalls_68 (K2 : St → Int32 → Prop) (K20 : St → Int32 → Int32 → Int32 → Prop) (u : St) (x1 : Int32) (x2 : Int32) (x3 : Int32) (post : St → Prop) : Prop :=
  nm (x3 + 1) (fun v7 : Int32 => K20 u x1 x2 v7)
set_option maxHeartbeats 4000000 in
set_option maxRecDepth 20000 in
theorem z_X3_bindCalls_68 {X : XX} {ad : Nat → Nat} {cs : Nat → ClassId} {post : St → Prop} (C : CxC X ad cs cX3_bindCalls RX3 2 46) (hn : xnL X = 4) (hR : rtV X cX3_bindCalls (wC ad cs) post) {K2 : St → Int32 → Prop} (hK2 : ∀ (u : St) (x1 : Int32), K2 u x1 → Z X (wC ad cs u) 2 [(0, .ref (ad 1)), (1, .int x1)] []) {K20 : St → Int32 → Int32 → Int32 → Prop} (hK20 : ∀ (u : St) (x1 : Int32) (x2 : Int32) (x3 : Int32), K20 u x1 x2 x3 → Z X (wC ad cs u) 20 [(0, .ref (ad 1)), (1, .int x1), (2, .int x2), (3, .int x3)] []) (u : St) (x1 : Int32) (x2 : Int32) (x3 : Int32) (hw : wp_X3_bindCalls_68 K2 K20 u x1 x2 x3 post) : Z X (wC ad cs u) 68 [(0, .ref (ad 1)), (1, .int x1), (2, .int x2), (3, .int x3)] [] := by
  unfold wp_X3_bindCalls_68 at hw
  obtain ⟨v7, ev7⟩ : ∃ z : Int32, z = x3 + 1 := ⟨_, rfl⟩
  replace hw := hw v7 ev7
  refine z_iinc (v := v7) (lv' := [(3, .int v7), (0, .ref (ad 1)), (1, .int x1), (2, .int x2)]) C.1 (j := 3) dX3_bindCalls_68 rfl (by rw [ev7]; rfl) (by rw [hn]; decide) rfl ?_
  refine z_goto (tgt := 20) C.1 dX3_bindCalls_71 (by decide) ?_
  refine z_lv [1, 2, 3, 0] rfl ?_
  exact hK20 _ _ _ _ hw
def wp_X3_bindCalls_63 (K2 : St → Int32 → Prop) (K20 : St → Int32 → Int32 → Int32 → Prop) (u : St) (x1 : Int32) (x2 : Int32) (x3 : Int32) (post : St → Prop) : Prop :=
  wp_X3_bindCall u x3 (fun (u8 : St) => wp_X3_bindCalls_68 K2 K20 u8 x1 x2 x3 post)
set_option maxHeartbeats 4000000 in
set_option maxRecDepth 20000 in
theorem z_X3_bindCalls_63 {X : XX} {ad : Nat → Nat} {cs : Nat → ClassId} {post : St → Prop} (C : CxC X ad cs cX3_bindCalls RX3 2 46) (hn : xnL X = 4) (hR : rtV X cX3_bindCalls (wC ad cs) post) {K2 : St → Int32 → Prop} (hK2 : ∀ (u : St) (x1 : Int32), K2 u x1 → Z X (wC ad cs u) 2 [(0, .ref (ad 1)), (1, .int x1)] []) {K20 : St → Int32 → Int32 → Int32 → Prop} (hK20 : ∀ (u : St) (x1 : Int32) (x2 : Int32) (x3 : Int32), K20 u x1 x2 x3 → Z X (wC ad cs u) 20 [(0, .ref (ad 1)), (1, .int x1), (2, .int x2), (3, .int x3)] []) (u : St) (x1 : Int32) (x2 : Int32) (x3 : Int32) (hw : wp_X3_bindCalls_63 K2 K20 u x1 x2 x3 post) : Z X (wC ad cs u) 63 [(0, .ref (ad 1)), (1, .int x1), (2, .int x2), (3, .int x3)] [] := by
  unfold wp_X3_bindCalls_63 at hw
  refine z_aload_n C.1 dX3_bindCalls_63 rfl 0 rfl ?_
  refine z_iload_n C.1 dX3_bindCalls_64 rfl 3 rfl ?_
  refine k_X3_bindCall C mM_X3_225 hw (by decide) (Nat.le_of_ble_eq_true rfl) dX3_bindCalls_65 (fun u8 hw => ?_)
  refine z_lv [0, 1, 2, 3] rfl ?_
  exact z_X3_bindCalls_68 C hn hR hK2 hK20 _ _ _ _ hw
def wp_X3_bindCalls_20s (K2 : St → Int32 → Prop) (K20 : St → Int32 → Int32 → Int32 → Prop) (u : St) (x1 : Int32) (x2 : Int32) (x3 : Int32) (post : St → Prop) : Prop :=
  (vp_in x1 12 ∧ br ((x2 + (gA u 16 (ix x1))) ≤ x3) (nm (x1 + 1) (fun v4 : Int32 => K2 u v4)) ((vp_in x3 720 ∧ br ((gA u 18 (ix x3)) = 7) (wp_X3_bindCalls_63 K2 K20 u x1 x2 x3 post) ((vp_in x3 720 ∧ br ((gA u 18 (ix x3)) = 8) (wp_X3_bindCalls_63 K2 K20 u x1 x2 x3 post) (wp_X3_bindCalls_68 K2 K20 u x1 x2 x3 post))))))
def wp_X3_bindCalls_20 (K2 : St → Int32 → Prop) (post : St → Prop) : Nat → St → Int32 → Int32 → Int32 → Prop
  | 0 => fun _ _ _ _ => False
  | n + 1 => fun u x1 x2 x3 => wp_X3_bindCalls_20s K2 (wp_X3_bindCalls_20 K2 post n) u x1 x2 x3 post
set_option maxHeartbeats 4000000 in
set_option maxRecDepth 20000 in
theorem z_X3_bindCalls_20s {X : XX} {ad : Nat → Nat} {cs : Nat → ClassId} {post : St → Prop} (C : CxC X ad cs cX3_bindCalls RX3 2 46) (hn : xnL X = 4) (hR : rtV X cX3_bindCalls (wC ad cs) post) {K2 : St → Int32 → Prop} (hK2 : ∀ (u : St) (x1 : Int32), K2 u x1 → Z X (wC ad cs u) 2 [(0, .ref (ad 1)), (1, .int x1)] []) {K20 : St → Int32 → Int32 → Int32 → Prop} (hK20 : ∀ (u : St) (x1 : Int32) (x2 : Int32) (x3 : Int32), K20 u x1 x2 x3 → Z X (wC ad cs u) 20 [(0, .ref (ad 1)), (1, .int x1), (2, .int x2), (3, .int x3)] []) (u : St) (x1 : Int32) (x2 : Int32) (x3 : Int32) (hw : wp_X3_bindCalls_20s K2 K20 u x1 x2 x3 post) : Z X (wC ad cs u) 20 [(0, .ref (ad 1)), (1, .int x1), (2, .int x2), (3, .int x3)] [] := by
  unfold wp_X3_bindCalls_20s at hw
  refine z_iload_n C.1 dX3_bindCalls_20 rfl 3 rfl ?_
  refine z_iload_n C.1 dX3_bindCalls_21 rfl 2 rfl ?_
  refine z_aload_n C.1 dX3_bindCalls_22 rfl 0 rfl ?_
  refine gC_1_program C mF_X3_38 dX3_bindCalls_23 ?_
  refine gC_3_parts C mF_X3_106 dX3_bindCalls_26 ?_
  refine z_iload_n C.1 dX3_bindCalls_29 rfl 1 rfl ?_
  refine lC_16 C hw.1 dX3_bindCalls_30 ?_
  replace hw := hw.2
  refine z_iadd C.1 dX3_bindCalls_31 ?_
  refine z_icmp_ge (tgt := 74) C.1 dX3_bindCalls_32 (by decide) (fun c3 => ?_) (fun c3 => ?_)
  · replace hw := hw.1 c3
    obtain ⟨v4, ev4⟩ : ∃ z : Int32, z = x1 + 1 := ⟨_, rfl⟩
    replace hw := hw v4 ev4
    refine z_iinc (v := v4) (lv' := [(1, .int v4), (0, .ref (ad 1)), (2, .int x2), (3, .int x3)]) C.1 (j := 1) dX3_bindCalls_74 rfl (by rw [ev4]; rfl) (by rw [hn]; decide) rfl ?_
    refine z_goto (tgt := 2) C.1 dX3_bindCalls_77 (by decide) ?_
    refine z_lv [1, 0] rfl ?_
    exact hK2 _ _ hw
  · replace hw := hw.2 c3
    refine z_aload_n C.1 dX3_bindCalls_35 rfl 0 rfl ?_
    refine gC_1_program C mF_X3_38 dX3_bindCalls_36 ?_
    refine gC_3_kind C mF_X3_207 dX3_bindCalls_39 ?_
    refine z_iload_n C.1 dX3_bindCalls_42 rfl 3 rfl ?_
    refine lC_18 C hw.1 dX3_bindCalls_43 ?_
    replace hw := hw.2
    refine z_bipush (v := 7) C.1 dX3_bindCalls_44 (by decide) ?_
    refine z_icmp_eq (tgt := 63) C.1 dX3_bindCalls_46 (by decide) (fun c5 => ?_) (fun c5 => ?_)
    · replace hw := hw.1 c5
      refine z_lv [0, 1, 2, 3] rfl ?_
      exact z_X3_bindCalls_63 C hn hR hK2 hK20 _ _ _ _ hw
    · replace hw := hw.2 c5
      refine z_aload_n C.1 dX3_bindCalls_49 rfl 0 rfl ?_
      refine gC_1_program C mF_X3_38 dX3_bindCalls_50 ?_
      refine gC_3_kind C mF_X3_207 dX3_bindCalls_53 ?_
      refine z_iload_n C.1 dX3_bindCalls_56 rfl 3 rfl ?_
      refine lC_18 C hw.1 dX3_bindCalls_57 ?_
      replace hw := hw.2
      refine z_bipush (v := 8) C.1 dX3_bindCalls_58 (by decide) ?_
      refine z_icmp_ne (tgt := 68) C.1 dX3_bindCalls_60 (by decide) (fun c6 => ?_) (fun c6 => ?_)
      · replace hw := hw.2 c6
        refine z_lv [0, 1, 2, 3] rfl ?_
        exact z_X3_bindCalls_68 C hn hR hK2 hK20 _ _ _ _ hw
      · replace hw := hw.1 c6
        refine z_lv [0, 1, 2, 3] rfl ?_
        exact z_X3_bindCalls_63 C hn hR hK2 hK20 _ _ _ _ hw
theorem z_X3_bindCalls_20 {X : XX} {ad : Nat → Nat} {cs : Nat → ClassId} {post : St → Prop} (C : CxC X ad cs cX3_bindCalls RX3 2 46) (hn : xnL X = 4) (hR : rtV X cX3_bindCalls (wC ad cs) post) {K2 : St → Int32 → Prop} (hK2 : ∀ (u : St) (x1 : Int32), K2 u x1 → Z X (wC ad cs u) 2 [(0, .ref (ad 1)), (1, .int x1)] []) : ∀ (n : Nat) (u : St) (x1 : Int32) (x2 : Int32) (x3 : Int32), wp_X3_bindCalls_20 K2 post n u x1 x2 x3 → Z X (wC ad cs u) 20 [(0, .ref (ad 1)), (1, .int x1), (2, .int x2), (3, .int x3)] []
  | 0, _, _, _, _, hw => absurd hw (fun h => h)
  | n + 1, u, x1, x2, x3, hw => z_X3_bindCalls_20s C hn hR hK2 (z_X3_bindCalls_20 C hn hR hK2 n) u x1 x2 x3 hw
def wp_X3_bindCalls_2s (K2 : St → Int32 → Prop) (u : St) (x1 : Int32) (post : St → Prop) : Prop :=
  br ((gI u 12) ≤ x1) (post u) (nm (x1 * 60) (fun v2 : Int32 => ∃ n, wp_X3_bindCalls_20 K2 post n u x1 v2 v2))
def wp_X3_bindCalls_2 (post : St → Prop) : Nat → St → Int32 → Prop
  | 0 => fun _ _ => False
  | n + 1 => fun u x1 => wp_X3_bindCalls_2s (wp_X3_bindCalls_2 post n) u x1 post
set_option maxHeartbeats 4000000 in
set_option maxRecDepth 20000 in
theorem z_X3_bindCalls_2s {X : XX} {ad : Nat → Nat} {cs : Nat → ClassId} {post : St → Prop} (C : CxC X ad cs cX3_bindCalls RX3 2 46) (hn : xnL X = 4) (hR : rtV X cX3_bindCalls (wC ad cs) post) {K2 : St → Int32 → Prop} (hK2 : ∀ (u : St) (x1 : Int32), K2 u x1 → Z X (wC ad cs u) 2 [(0, .ref (ad 1)), (1, .int x1)] []) (u : St) (x1 : Int32) (hw : wp_X3_bindCalls_2s K2 u x1 post) : Z X (wC ad cs u) 2 [(0, .ref (ad 1)), (1, .int x1)] [] := by
  unfold wp_X3_bindCalls_2s at hw
  refine z_iload_n C.1 dX3_bindCalls_2 rfl 1 rfl ?_
  refine z_aload_n C.1 dX3_bindCalls_3 rfl 0 rfl ?_
  refine gC_1_program C mF_X3_38 dX3_bindCalls_4 ?_
  refine gC_3_definitions C mF_X3_42 dX3_bindCalls_7 ?_
  refine z_icmp_ge (tgt := 80) C.1 dX3_bindCalls_10 (by decide) (fun c1 => ?_) (fun c1 => ?_)
  · replace hw := hw.1 c1
    exact hR _ _ _ dX3_bindCalls_80 hw
  · replace hw := hw.2 c1
    refine z_iload_n C.1 dX3_bindCalls_13 rfl 1 rfl ?_
    refine z_bipush (v := 60) C.1 dX3_bindCalls_14 (by decide) ?_
    refine z_imul C.1 dX3_bindCalls_16 ?_
    refine z_topi (fun v2 ev2 => ?_)
    replace hw := hw v2 ev2
    refine z_istore_n (lv' := [(2, .int v2), (0, .ref (ad 1)), (1, .int x1)]) C.1 dX3_bindCalls_17 rfl (by rw [hn]; decide) rfl ?_
    refine z_iload_n C.1 dX3_bindCalls_18 rfl 0 rfl ?_
    refine z_istore_n (lv' := [(3, .int v2), (2, .int v2), (0, .ref (ad 1)), (1, .int x1)]) C.1 dX3_bindCalls_19 rfl (by rw [hn]; decide) rfl ?_
    refine z_lv [2, 3, 1, 0] rfl ?_
    obtain ⟨n, hw⟩ := hw
    exact z_X3_bindCalls_20 C hn hR hK2 n _ _ _ _ hw
theorem z_X3_bindCalls_2 {X : XX} {ad : Nat → Nat} {cs : Nat → ClassId} {post : St → Prop} (C : CxC X ad cs cX3_bindCalls RX3 2 46) (hn : xnL X = 4) (hR : rtV X cX3_bindCalls (wC ad cs) post) : ∀ (n : Nat) (u : St) (x1 : Int32), wp_X3_bindCalls_2 post n u x1 → Z X (wC ad cs u) 2 [(0, .ref (ad 1)), (1, .int x1)] []
  | 0, _, _, hw => absurd hw (fun h => h)
  | n + 1, u, x1, hw => z_X3_bindCalls_2s C hn hR (z_X3_bindCalls_2 C hn hR n) u x1 hw
def wp_X3_bindCalls (u : St) (post : St → Prop) : Prop :=
  ∃ n, wp_X3_bindCalls_2 post n u 0
set_option maxHeartbeats 4000000 in
set_option maxRecDepth 20000 in
theorem z_X3_bindCalls {X : XX} {ad : Nat → Nat} {cs : Nat → ClassId} {post : St → Prop} (C : CxC X ad cs cX3_bindCalls RX3 2 46) (hn : xnL X = 4) (hR : rtV X cX3_bindCalls (wC ad cs) post) (u : St) (hw : wp_X3_bindCalls u post) : Z X (wC ad cs u) 0 [(0, .ref (ad 1))] [] := by
  unfold wp_X3_bindCalls at hw
  refine z_iconst (v := 0) C.1 dX3_bindCalls_0 (by decide) ?_
  refine z_istore_n (lv' := [(1, .int 0), (0, .ref (ad 1))]) C.1 dX3_bindCalls_1 rfl (by rw [hn]; decide) rfl ?_
  refine z_lv [1, 0] rfl ?_
  obtain ⟨n, hw⟩ := hw
  exact z_X3_bindCalls_2 C hn hR n _ _ hw
theorem c_X3_bindCalls {l : Launch} {D : va_G} {A : Nat → Prop} {ad : Nat → Nat} {cs : Nat → ClassId} (hD : ∀ u : St, va_D A (wC ad cs u)) (u : St) (post : St → Prop) (hw : wp_X3_bindCalls u post) : MV (ad 90, ad 91) l yX3_bindCalls cX3_bindCalls 4 none (rmm 2 46) D (tysC cs) A (wC ad cs) u [.ref (ad 1)] post :=
  met_v (by decide) (Nat.le_of_ble_eq_true rfl) (fun X C _ _ ht hA hn hsg hR => z_X3_bindCalls ⟨C, ht, fun u => by rw [hA]; exact hD u, hsg⟩ hn hR u hw)
theorem k_X3_bindCalls {X : XX} {ad : Nat → Nat} {cs : Nat → ClassId} {cc : ByteArray} {own : String} {fr lo pc : Nat} {lv : List (Nat × Value)} {st : List Value} {u : St} (C : CxC X ad cs cc own fr lo) {idx : Nat} {P : St → Prop} (hlink : Cond.methodLink own idx yX3_bindCalls ∈ W0) (hw : wp_X3_bindCalls u P) (hr : 2 + 1 ≤ fr ∧ 8 + (4 + 11) + 46 ≤ lo) (hst : (st.map fun v => v.category).sum ≤ 8) (hdg : decode cc pc = .ok (.invokevirtual idx, 3)) (k : ∀ (u2 : St), P u2 → Z X (wC ad cs u2) (pc + 3) lv st) : Z X (wC ad cs u) pc lv (.ref (ad 1) :: st) :=
  z_callVv (wf := wC ad cs) (As := []) (rest := st) C.1 0 (q0 := 1) mI_X3_bindCalls mS_X3_bindCalls rfl rfl (by rw [C.2.1, C.2.2.2]; exact c_X3_bindCalls C.2.2.1 u P hw) mC_X3_bindCalls mZ_X3 (by decide +kernel) rfl hlink hr hst hdg k

def wp_X3_readText_168 (u : St) (post : Int32 → St → Prop) : Prop :=
  br ((gI u 6) = (-1)) (wp_X3_bindCalls u (fun (u24 : St) => post (gI u24 6) u24)) (post (gI u 6) u)
set_option maxHeartbeats 4000000 in
set_option maxRecDepth 20000 in
theorem z_X3_readText_168 {X : XX} {ad : Nat → Nat} {cs : Nat → ClassId} {post : Int32 → St → Prop} (C : CxC X ad cs cX3_readText RX3 6 131) (hn : xnL X = 2) (hR : rtI X cX3_readText (wC ad cs) post) (u : St) (hw : wp_X3_readText_168 u post) : Z X (wC ad cs u) 168 [(0, .ref (ad 1))] [] := by
  unfold wp_X3_readText_168 at hw
  refine z_aload_n C.1 dX3_readText_168 rfl 0 rfl ?_
  refine gC_1_fault C mF_X3_49 dX3_readText_169 ?_
  refine z_iconst (v := (-1)) C.1 dX3_readText_172 (by decide) ?_
  refine z_icmp_ne (tgt := 180) C.1 dX3_readText_173 (by decide) (fun c23 => ?_) (fun c23 => ?_)
  · replace hw := hw.2 c23
    refine z_aload_n C.1 dX3_readText_180 rfl 0 rfl ?_
    refine gC_1_fault C mF_X3_49 dX3_readText_181 ?_
    exact hR _ _ _ _ dX3_readText_184 hw
  · replace hw := hw.1 c23
    refine z_aload_n C.1 dX3_readText_176 rfl 0 rfl ?_
    refine k_X3_bindCalls C mM_X3_79 hw (by decide) (Nat.le_of_ble_eq_true rfl) dX3_readText_177 (fun u24 hw => ?_)
    refine z_aload_n C.1 dX3_readText_180 rfl 0 rfl ?_
    refine gC_1_fault C mF_X3_49 dX3_readText_181 ?_
    exact hR _ _ _ _ dX3_readText_184 hw
def wp_X3_readText_151 (u : St) (y0 : Int32) (post : Int32 → St → Prop) : Prop :=
  br ((gI u 6) = (-1)) (br (y0 = 0) (wp_X3_fail u (fun (u22 : St) => wp_X3_readText_168 u22 post)) (wp_X3_readText_168 u post)) (wp_X3_readText_168 u post)
set_option maxHeartbeats 4000000 in
set_option maxRecDepth 20000 in
theorem z_X3_readText_151 {X : XX} {ad : Nat → Nat} {cs : Nat → ClassId} {post : Int32 → St → Prop} (C : CxC X ad cs cX3_readText RX3 6 131) (hn : xnL X = 2) (hR : rtI X cX3_readText (wC ad cs) post) (u : St) (y0 : Int32) (hw : wp_X3_readText_151 u y0 post) : Z X (wC ad cs u) 151 [(0, .ref (ad 1))] [.int y0] := by
  unfold wp_X3_readText_151 at hw
  refine z_istore_n (lv' := [(1, .int y0), (0, .ref (ad 1))]) C.1 dX3_readText_151 rfl (by rw [hn]; decide) rfl ?_
  refine z_aload_n C.1 dX3_readText_152 rfl 1 rfl ?_
  refine gC_1_fault C mF_X3_49 dX3_readText_153 ?_
  refine z_iconst (v := (-1)) C.1 dX3_readText_156 (by decide) ?_
  refine z_icmp_ne (tgt := 168) C.1 dX3_readText_157 (by decide) (fun c20 => ?_) (fun c20 => ?_)
  · replace hw := hw.2 c20
    refine z_lv [1] rfl ?_
    exact z_X3_readText_168 C hn hR _ hw
  · replace hw := hw.1 c20
    refine z_iload_n C.1 dX3_readText_160 rfl 0 rfl ?_
    refine z_if_ne (tgt := 168) C.1 dX3_readText_161 (by decide) (fun c21 => ?_) (fun c21 => ?_)
    · replace hw := hw.2 c21
      refine z_lv [1] rfl ?_
      exact z_X3_readText_168 C hn hR _ hw
    · replace hw := hw.1 c21
      refine z_aload_n C.1 dX3_readText_164 rfl 1 rfl ?_
      refine k_X3_fail C mM_X3_76 hw (by decide) (Nat.le_of_ble_eq_true rfl) dX3_readText_165 (fun u22 hw => ?_)
      refine z_lv [1] rfl ?_
      exact z_X3_readText_168 C hn hR _ hw
def wp_X3_readText_150 (u : St) (post : Int32 → St → Prop) : Prop :=
  wp_X3_readText_151 u 0 post
set_option maxHeartbeats 4000000 in
set_option maxRecDepth 20000 in
theorem z_X3_readText_150 {X : XX} {ad : Nat → Nat} {cs : Nat → ClassId} {post : Int32 → St → Prop} (C : CxC X ad cs cX3_readText RX3 6 131) (hn : xnL X = 2) (hR : rtI X cX3_readText (wC ad cs) post) (u : St) (hw : wp_X3_readText_150 u post) : Z X (wC ad cs u) 150 [(0, .ref (ad 1))] [] := by
  unfold wp_X3_readText_150 at hw
  refine z_iconst (v := 0) C.1 dX3_readText_150 (by decide) ?_
  refine z_lv [0] rfl ?_
  exact z_X3_readText_151 C hn hR _ _ hw
def wp_X3_readText_129 (u : St) (post : Int32 → St → Prop) : Prop :=
  br ((gI u 5) = 0) (br ((gI u 12) ≤ 0) (wp_X3_readText_150 u post) (wp_X3_readText_151 u 1 post)) (wp_X3_readText_150 u post)
set_option maxHeartbeats 4000000 in
set_option maxRecDepth 20000 in
theorem z_X3_readText_129 {X : XX} {ad : Nat → Nat} {cs : Nat → ClassId} {post : Int32 → St → Prop} (C : CxC X ad cs cX3_readText RX3 6 131) (hn : xnL X = 2) (hR : rtI X cX3_readText (wC ad cs) post) (u : St) (hw : wp_X3_readText_129 u post) : Z X (wC ad cs u) 129 [(0, .ref (ad 1))] [] := by
  unfold wp_X3_readText_129 at hw
  refine z_aload_n C.1 dX3_readText_129 rfl 0 rfl ?_
  refine gC_1_due C mF_X3_46 dX3_readText_130 ?_
  refine z_if_ne (tgt := 150) C.1 dX3_readText_133 (by decide) (fun c18 => ?_) (fun c18 => ?_)
  · replace hw := hw.2 c18
    refine z_lv [0] rfl ?_
    exact z_X3_readText_150 C hn hR _ hw
  · replace hw := hw.1 c18
    refine z_aload_n C.1 dX3_readText_136 rfl 0 rfl ?_
    refine gC_1_program C mF_X3_38 dX3_readText_137 ?_
    refine gC_3_definitions C mF_X3_42 dX3_readText_140 ?_
    refine z_if_le (tgt := 150) C.1 dX3_readText_143 (by decide) (fun c19 => ?_) (fun c19 => ?_)
    · replace hw := hw.1 c19
      refine z_lv [0] rfl ?_
      exact z_X3_readText_150 C hn hR _ hw
    · replace hw := hw.2 c19
      refine z_iconst (v := 1) C.1 dX3_readText_146 (by decide) ?_
      refine z_goto (tgt := 151) C.1 dX3_readText_147 (by decide) ?_
      refine z_lv [0] rfl ?_
      exact z_X3_readText_151 C hn hR _ _ hw
def wp_X3_readText_123 (K27 : St → Int32 → Prop) (u : St) (x1 : Int32) (post : Int32 → St → Prop) : Prop :=
  nm (x1 + 1) (fun v17 : Int32 => K27 u v17)
set_option maxHeartbeats 4000000 in
set_option maxRecDepth 20000 in
theorem z_X3_readText_123 {X : XX} {ad : Nat → Nat} {cs : Nat → ClassId} {post : Int32 → St → Prop} (C : CxC X ad cs cX3_readText RX3 6 131) (hn : xnL X = 2) (hR : rtI X cX3_readText (wC ad cs) post) {K27 : St → Int32 → Prop} (hK27 : ∀ (u : St) (x1 : Int32), K27 u x1 → Z X (wC ad cs u) 27 [(0, .ref (ad 1)), (1, .int x1)] []) (u : St) (x1 : Int32) (hw : wp_X3_readText_123 K27 u x1 post) : Z X (wC ad cs u) 123 [(0, .ref (ad 1)), (1, .int x1)] [] := by
  unfold wp_X3_readText_123 at hw
  obtain ⟨v17, ev17⟩ : ∃ z : Int32, z = x1 + 1 := ⟨_, rfl⟩
  replace hw := hw v17 ev17
  refine z_iinc (v := v17) (lv' := [(1, .int v17), (0, .ref (ad 1))]) C.1 (j := 1) dX3_readText_123 rfl (by rw [ev17]; rfl) (by rw [hn]; decide) rfl ?_
  refine z_goto (tgt := 27) C.1 dX3_readText_126 (by decide) ?_
  refine z_lv [1, 0] rfl ?_
  exact hK27 _ _ hw
def wp_X3_readText_108 (K27 : St → Int32 → Prop) (u : St) (x1 : Int32) (post : Int32 → St → Prop) : Prop :=
  br ((gI u 6) = (-1)) (wp_X5_advance u (fun (u16 : St) => wp_X3_readText_123 K27 u16 x1 post)) (wp_X3_readText_123 K27 u x1 post)
set_option maxHeartbeats 4000000 in
set_option maxRecDepth 20000 in
theorem z_X3_readText_108 {X : XX} {ad : Nat → Nat} {cs : Nat → ClassId} {post : Int32 → St → Prop} (C : CxC X ad cs cX3_readText RX3 6 131) (hn : xnL X = 2) (hR : rtI X cX3_readText (wC ad cs) post) {K27 : St → Int32 → Prop} (hK27 : ∀ (u : St) (x1 : Int32), K27 u x1 → Z X (wC ad cs u) 27 [(0, .ref (ad 1)), (1, .int x1)] []) (u : St) (x1 : Int32) (hw : wp_X3_readText_108 K27 u x1 post) : Z X (wC ad cs u) 108 [(0, .ref (ad 1)), (1, .int x1)] [] := by
  unfold wp_X3_readText_108 at hw
  refine z_aload_n C.1 dX3_readText_108 rfl 0 rfl ?_
  refine gC_1_fault C mF_X3_49 dX3_readText_109 ?_
  refine z_iconst (v := (-1)) C.1 dX3_readText_112 (by decide) ?_
  refine z_icmp_ne (tgt := 123) C.1 dX3_readText_113 (by decide) (fun c15 => ?_) (fun c15 => ?_)
  · replace hw := hw.2 c15
    refine z_lv [0, 1] rfl ?_
    exact z_X3_readText_123 C hn hR hK27 _ _ hw
  · replace hw := hw.1 c15
    refine z_aload_n C.1 dX3_readText_116 rfl 0 rfl ?_
    refine gC_1_tape C mF_X3_16 dX3_readText_117 ?_
    refine k_X5_advance C mM_X3_73 hw (by decide) (Nat.le_of_ble_eq_true rfl) dX3_readText_120 (fun u16 hw => ?_)
    refine z_lv [0, 1] rfl ?_
    exact z_X3_readText_123 C hn hR hK27 _ _ hw
def wp_X3_readText_27s (K27 : St → Int32 → Prop) (u : St) (x1 : Int32) (post : Int32 → St → Prop) : Prop :=
  br ((gI u 8) ≤ x1) (wp_X3_readText_129 u post) (br ((gI u 6) = (-1)) (br ((gI u 9) = 0) (wp_X3_readText_129 u post) (br ((gI u 5) = 6) (wp_X3_takeBeginning u (fun (u14 : St) => wp_X3_readText_108 K27 u14 x1 post)) (br ((gI u 5) = 7) (wp_X3_takeContinuation u (fun (u13 : St) => wp_X3_readText_108 K27 u13 x1 post)) (br (6 ≤ (gI u 5)) (wp_X3_takeOfCallMakeLet u (fun (u11 : St) => wp_X3_readText_108 K27 u11 x1 post)) (wp_X3_takeOfHead u (fun (u12 : St) => wp_X3_readText_108 K27 u12 x1 post)))))) (wp_X3_readText_129 u post))
def wp_X3_readText_27 (post : Int32 → St → Prop) : Nat → St → Int32 → Prop
  | 0 => fun _ _ => False
  | n + 1 => fun u x1 => wp_X3_readText_27s (wp_X3_readText_27 post n) u x1 post
set_option maxHeartbeats 4000000 in
set_option maxRecDepth 20000 in
theorem z_X3_readText_27s {X : XX} {ad : Nat → Nat} {cs : Nat → ClassId} {post : Int32 → St → Prop} (C : CxC X ad cs cX3_readText RX3 6 131) (hn : xnL X = 2) (hR : rtI X cX3_readText (wC ad cs) post) {K27 : St → Int32 → Prop} (hK27 : ∀ (u : St) (x1 : Int32), K27 u x1 → Z X (wC ad cs u) 27 [(0, .ref (ad 1)), (1, .int x1)] []) (u : St) (x1 : Int32) (hw : wp_X3_readText_27s K27 u x1 post) : Z X (wC ad cs u) 27 [(0, .ref (ad 1)), (1, .int x1)] [] := by
  unfold wp_X3_readText_27s at hw
  refine z_iload_n C.1 dX3_readText_27 rfl 1 rfl ?_
  refine z_aload_n C.1 dX3_readText_28 rfl 0 rfl ?_
  refine gC_1_tape C mF_X3_16 dX3_readText_29 ?_
  refine gC_2_length C mF_X3_55 dX3_readText_32 ?_
  refine z_icmp_ge (tgt := 129) C.1 dX3_readText_35 (by decide) (fun c5 => ?_) (fun c5 => ?_)
  · replace hw := hw.1 c5
    refine z_lv [0] rfl ?_
    exact z_X3_readText_129 C hn hR _ hw
  · replace hw := hw.2 c5
    refine z_aload_n C.1 dX3_readText_38 rfl 0 rfl ?_
    refine gC_1_fault C mF_X3_49 dX3_readText_39 ?_
    refine z_iconst (v := (-1)) C.1 dX3_readText_42 (by decide) ?_
    refine z_icmp_ne (tgt := 129) C.1 dX3_readText_43 (by decide) (fun c6 => ?_) (fun c6 => ?_)
    · replace hw := hw.2 c6
      refine z_lv [0] rfl ?_
      exact z_X3_readText_129 C hn hR _ hw
    · replace hw := hw.1 c6
      refine z_aload_n C.1 dX3_readText_46 rfl 0 rfl ?_
      refine gC_1_tape C mF_X3_16 dX3_readText_47 ?_
      refine gC_2_kind C mF_X3_58 dX3_readText_50 ?_
      refine z_if_eq (tgt := 129) C.1 dX3_readText_53 (by decide) (fun c7 => ?_) (fun c7 => ?_)
      · replace hw := hw.1 c7
        refine z_lv [0] rfl ?_
        exact z_X3_readText_129 C hn hR _ hw
      · replace hw := hw.2 c7
        refine z_aload_n C.1 dX3_readText_56 rfl 0 rfl ?_
        refine gC_1_due C mF_X3_46 dX3_readText_57 ?_
        refine z_bipush (v := 6) C.1 dX3_readText_60 (by decide) ?_
        refine z_icmp_ne (tgt := 72) C.1 dX3_readText_62 (by decide) (fun c8 => ?_) (fun c8 => ?_)
        · replace hw := hw.2 c8
          refine z_aload_n C.1 dX3_readText_72 rfl 0 rfl ?_
          refine gC_1_due C mF_X3_46 dX3_readText_73 ?_
          refine z_bipush (v := 7) C.1 dX3_readText_76 (by decide) ?_
          refine z_icmp_ne (tgt := 88) C.1 dX3_readText_78 (by decide) (fun c9 => ?_) (fun c9 => ?_)
          · replace hw := hw.2 c9
            refine z_aload_n C.1 dX3_readText_88 rfl 0 rfl ?_
            refine gC_1_due C mF_X3_46 dX3_readText_89 ?_
            refine z_bipush (v := 6) C.1 dX3_readText_92 (by decide) ?_
            refine z_icmp_ge (tgt := 104) C.1 dX3_readText_94 (by decide) (fun c10 => ?_) (fun c10 => ?_)
            · replace hw := hw.1 c10
              refine z_aload_n C.1 dX3_readText_104 rfl 0 rfl ?_
              refine k_X3_takeOfCallMakeLet C mM_X3_70 hw (by decide) (Nat.le_of_ble_eq_true rfl) dX3_readText_105 (fun u11 hw => ?_)
              refine z_lv [0, 1] rfl ?_
              exact z_X3_readText_108 C hn hR hK27 _ _ hw
            · replace hw := hw.2 c10
              refine z_aload_n C.1 dX3_readText_97 rfl 0 rfl ?_
              refine k_X3_takeOfHead C mM_X3_67 hw (by decide) (Nat.le_of_ble_eq_true rfl) dX3_readText_98 (fun u12 hw => ?_)
              refine z_goto (tgt := 108) C.1 dX3_readText_101 (by decide) ?_
              refine z_lv [0, 1] rfl ?_
              exact z_X3_readText_108 C hn hR hK27 _ _ hw
          · replace hw := hw.1 c9
            refine z_aload_n C.1 dX3_readText_81 rfl 0 rfl ?_
            refine k_X3_takeContinuation C mM_X3_64 hw (by decide) (Nat.le_of_ble_eq_true rfl) dX3_readText_82 (fun u13 hw => ?_)
            refine z_goto (tgt := 108) C.1 dX3_readText_85 (by decide) ?_
            refine z_lv [0, 1] rfl ?_
            exact z_X3_readText_108 C hn hR hK27 _ _ hw
        · replace hw := hw.1 c8
          refine z_aload_n C.1 dX3_readText_65 rfl 0 rfl ?_
          refine k_X3_takeBeginning C mM_X3_61 hw (by decide) (Nat.le_of_ble_eq_true rfl) dX3_readText_66 (fun u14 hw => ?_)
          refine z_goto (tgt := 108) C.1 dX3_readText_69 (by decide) ?_
          refine z_lv [0, 1] rfl ?_
          exact z_X3_readText_108 C hn hR hK27 _ _ hw
theorem z_X3_readText_27 {X : XX} {ad : Nat → Nat} {cs : Nat → ClassId} {post : Int32 → St → Prop} (C : CxC X ad cs cX3_readText RX3 6 131) (hn : xnL X = 2) (hR : rtI X cX3_readText (wC ad cs) post) : ∀ (n : Nat) (u : St) (x1 : Int32), wp_X3_readText_27 post n u x1 → Z X (wC ad cs u) 27 [(0, .ref (ad 1)), (1, .int x1)] []
  | 0, _, _, hw => absurd hw (fun h => h)
  | n + 1, u, x1, hw => z_X3_readText_27s C hn hR (z_X3_readText_27 C hn hR n) u x1 hw
def wp_X3_readText (u : St) (post : Int32 → St → Prop) : Prop :=
  nm (sI u 12 0) (fun u1 : St => nm (sI u1 5 0) (fun u2 : St => nm (sI u2 6 (-1)) (fun u3 : St => wp_X5_goToFirst u3 (fun (u4 : St) => ∃ n, wp_X3_readText_27 post n u4 0))))
set_option maxHeartbeats 4000000 in
set_option maxRecDepth 20000 in
theorem z_X3_readText {X : XX} {ad : Nat → Nat} {cs : Nat → ClassId} {post : Int32 → St → Prop} (C : CxC X ad cs cX3_readText RX3 6 131) (hn : xnL X = 2) (hR : rtI X cX3_readText (wC ad cs) post) (u : St) (hw : wp_X3_readText u post) : Z X (wC ad cs u) 0 [(0, .ref (ad 1))] [] := by
  unfold wp_X3_readText at hw
  refine z_aload_n C.1 dX3_readText_0 rfl 0 rfl ?_
  refine gC_1_program C mF_X3_38 dX3_readText_1 ?_
  refine z_iconst (v := 0) C.1 dX3_readText_4 (by decide) ?_
  refine pC_3_definitions C mF_X3_42 dX3_readText_5 (fun u1 eu1 => ?_)
  replace hw := hw u1 eu1
  refine z_aload_n C.1 dX3_readText_8 rfl 0 rfl ?_
  refine z_iconst (v := 0) C.1 dX3_readText_9 (by decide) ?_
  refine pC_1_due C mF_X3_46 dX3_readText_10 (fun u2 eu2 => ?_)
  replace hw := hw u2 eu2
  refine z_aload_n C.1 dX3_readText_13 rfl 0 rfl ?_
  refine z_iconst (v := (-1)) C.1 dX3_readText_14 (by decide) ?_
  refine pC_1_fault C mF_X3_49 dX3_readText_15 (fun u3 eu3 => ?_)
  replace hw := hw u3 eu3
  refine z_aload_n C.1 dX3_readText_18 rfl 0 rfl ?_
  refine gC_1_tape C mF_X3_16 dX3_readText_19 ?_
  refine k_X5_goToFirst C mM_X3_52 hw (by decide) (Nat.le_of_ble_eq_true rfl) dX3_readText_22 (fun u4 hw => ?_)
  refine z_iconst (v := 0) C.1 dX3_readText_25 (by decide) ?_
  refine z_istore_n (lv' := [(1, .int 0), (0, .ref (ad 1))]) C.1 dX3_readText_26 rfl (by rw [hn]; decide) rfl ?_
  refine z_lv [1, 0] rfl ?_
  obtain ⟨n, hw⟩ := hw
  exact z_X3_readText_27 C hn hR n _ _ hw
theorem c_X3_readText {l : Launch} {D : va_G} {A : Nat → Prop} {ad : Nat → Nat} {cs : Nat → ClassId} (hD : ∀ u : St, va_D A (wC ad cs u)) (u : St) (post : Int32 → St → Prop) (hw : wp_X3_readText u post) : MI (ad 90, ad 91) l yX3_readText cX3_readText 2 (some .int) (rmm 6 131) D (tysC cs) A (wC ad cs) u [.ref (ad 1)] post :=
  met_i (by decide) (Nat.le_of_ble_eq_true rfl) (fun X C _ _ ht hA hn hsg hR => z_X3_readText ⟨C, ht, fun u => by rw [hA]; exact hD u, hsg⟩ hn hR u hw)
theorem k_X3_readText {X : XX} {ad : Nat → Nat} {cs : Nat → ClassId} {cc : ByteArray} {own : String} {fr lo pc : Nat} {lv : List (Nat × Value)} {st : List Value} {u : St} (C : CxC X ad cs cc own fr lo) {idx : Nat} {P : Int32 → St → Prop} (hlink : Cond.methodLink own idx yX3_readText ∈ W0) (hw : wp_X3_readText u P) (hr : 6 + 1 ≤ fr ∧ 8 + (2 + 11) + 131 ≤ lo) (hst : (st.map fun v => v.category).sum ≤ 8) (hdg : decode cc pc = .ok (.invokevirtual idx, 3)) (k : ∀ (r : Int32) (u2 : St), P r u2 → Z X (wC ad cs u2) (pc + 3) lv (.int r :: st)) : Z X (wC ad cs u) pc lv (.ref (ad 1) :: st) :=
  z_callVi (wf := wC ad cs) (As := []) (rest := st) C.1 0 (q0 := 1) mI_X3_readText mS_X3_readText rfl rfl (by rw [C.2.1, C.2.2.2]; exact c_X3_readText C.2.2.1 u P hw) mC_X3_readText mZ_X3 (by decide +kernel) rfl hlink hr hst hdg k
