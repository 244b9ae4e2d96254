def wp_X1_prepare (u : St) (x1 : Int32) (x2 : Int32) (x3 : Int32) (x4 : Int32) (post : St → Prop) : Prop :=
  nm (sI u 14 x1) (fun u1 : St => nm (sI u1 15 x2) (fun u2 : St => nm (sI u2 16 (if 300 < x3 then 300 else x3)) (fun u3 : St => nm (sI u3 17 0) (fun u4 : St => nm (sI u4 18 0) (fun u5 : St => nm (sI u5 19 0) (fun u6 : St => wp_X4_emptyFor u6 x4 (fun (u7 : St) => post u7)))))))
set_option maxHeartbeats 4000000 in
set_option maxRecDepth 20000 in
theorem z_X1_prepare {X : XX} {ad : Nat → Nat} {cs : Nat → ClassId} {post : St → Prop} (C : CxC X ad cs cX1_prepare RX1 2 42) (hn : xnL X = 5) (hR : rtV X cX1_prepare (wC ad cs) post) (u : St) (x1 : Int32) (x2 : Int32) (x3 : Int32) (x4 : Int32) (hw : wp_X1_prepare u x1 x2 x3 x4 post) : Z X (wC ad cs u) 0 [(0, .ref (ad 5)), (1, .int x1), (2, .int x2), (3, .int x3), (4, .int x4)] [] := by
  unfold wp_X1_prepare at hw
  refine z_aload_n C.1 dX1_prepare_0 rfl 0 rfl ?_
  refine z_iload_n C.1 dX1_prepare_1 rfl 1 rfl ?_
  refine pC_5_firstTold C mF_X1_38 dX1_prepare_2 (fun u1 eu1 => ?_)
  replace hw := hw u1 eu1
  refine z_aload_n C.1 dX1_prepare_5 rfl 0 rfl ?_
  refine z_iload_n C.1 dX1_prepare_6 rfl 2 rfl ?_
  refine pC_5_secondTold C mF_X1_42 dX1_prepare_7 (fun u2 eu2 => ?_)
  replace hw := hw u2 eu2
  refine z_aload_n C.1 dX1_prepare_10 rfl 0 rfl ?_
  refine z_iload_n C.1 dX1_prepare_11 rfl 3 rfl ?_
  refine z_sipush (v := 300) C.1 dX1_prepare_12 (by decide) ?_
  refine z_mmin C.1 mM_X1_45 ⟨by decide, Nat.le_of_ble_eq_true rfl⟩ dX1_prepare_15 ?_
  refine pC_5_mostCalls C mF_X1_51 dX1_prepare_18 (fun u3 eu3 => ?_)
  replace hw := hw u3 eu3
  refine z_aload_n C.1 dX1_prepare_21 rfl 0 rfl ?_
  refine z_iconst (v := 0) C.1 dX1_prepare_22 (by decide) ?_
  refine pC_5_tooMany C bz0 mF_X1_54 dX1_prepare_23 (fun u4 eu4 => ?_)
  replace hw := hw u4 eu4
  refine z_aload_n C.1 dX1_prepare_26 rfl 0 rfl ?_
  refine z_iconst (v := 0) C.1 dX1_prepare_27 (by decide) ?_
  refine pC_5_calls C mF_X1_58 dX1_prepare_28 (fun u5 eu5 => ?_)
  replace hw := hw u5 eu5
  refine z_aload_n C.1 dX1_prepare_31 rfl 0 rfl ?_
  refine z_iconst (v := 0) C.1 dX1_prepare_32 (by decide) ?_
  refine pC_5_cells C mF_X1_61 dX1_prepare_33 (fun u6 eu6 => ?_)
  replace hw := hw u6 eu6
  refine z_aload_n C.1 dX1_prepare_36 rfl 0 rfl ?_
  refine gC_5_slots C mF_X1_12 dX1_prepare_37 ?_
  refine z_iload C.1 dX1_prepare_40 4 rfl ?_
  refine k_X4_emptyFor C mM_X1_64 hw (by decide) (Nat.le_of_ble_eq_true rfl) dX1_prepare_42 (fun u7 hw => ?_)
  exact hR _ _ _ dX1_prepare_45 hw
theorem c_X1_prepare {l : Launch} {D : va_G} {A : Nat → Prop} {ad : Nat → Nat} {cs : Nat → ClassId} (hD : ∀ u : St, va_D A (wC ad cs u)) (u : St) (x1 : Int32) (x2 : Int32) (x3 : Int32) (x4 : Int32) (post : St → Prop) (hw : wp_X1_prepare u x1 x2 x3 x4 post) : MV (ad 90, ad 91) l yX1_prepare cX1_prepare 5 none (rmm 2 42) D (tysC cs) A (wC ad cs) u [.ref (ad 5), .int x1, .int x2, .int x3, .int x4] post :=
  met_v (by decide) (Nat.le_of_ble_eq_true rfl) (fun X C _ _ ht hA hn hsg hR => z_X1_prepare ⟨C, ht, fun u => by rw [hA]; exact hD u, hsg⟩ hn hR u x1 x2 x3 x4 hw)
theorem k_X1_prepare {X : XX} {ad : Nat → Nat} {cs : Nat → ClassId} {cc : ByteArray} {own : String} {fr lo pc : Nat} {lv : List (Nat × Value)} {st : List Value} {u : St} (C : CxC X ad cs cc own fr lo) {idx : Nat} {x1 : Int32} {x2 : Int32} {x3 : Int32} {x4 : Int32} {P : St → Prop} (hlink : Cond.methodLink own idx yX1_prepare ∈ W0) (hw : wp_X1_prepare u x1 x2 x3 x4 P) (hr : 2 + 1 ≤ fr ∧ 8 + (5 + 11) + 42 ≤ lo) (hst : (st.map fun v => v.category).sum ≤ 8) (hdg : decode cc pc = .ok (.invokevirtual idx, 3)) (k : ∀ (u2 : St), P u2 → Z X (wC ad cs u2) (pc + 3) lv st) : Z X (wC ad cs u) pc lv (.int x4 :: .int x3 :: .int x2 :: .int x1 :: .ref (ad 5) :: st) :=
  z_callVv (wf := wC ad cs) (As := [.int x1, .int x2, .int x3, .int x4]) (rest := st) C.1 4 (q0 := 5) mI_X1_prepare mS_X1_prepare rfl rfl (by rw [C.2.1, C.2.2.2]; exact c_X1_prepare C.2.2.1 u x1 x2 x3 x4 P hw) mC_X1_prepare mZ_X1 (by decide +kernel) rfl hlink hr hst hdg k

def wp_X1_rootOf (u : St) (x1 : Int32) (post : Int32 → St → Prop) : Prop :=
  (vp_in x1 300 ∧ (vp_in (gA u 30 (ix x1)) 12 ∧ post ((x1 * 60) + ((gA u 24 (ix (gA u 30 (ix x1)))) - (gA u 24 (ix (gA u 30 (ix x1)))) / 60 * 60)) u))
set_option maxHeartbeats 4000000 in
set_option maxRecDepth 20000 in
theorem z_X1_rootOf {X : XX} {ad : Nat → Nat} {cs : Nat → ClassId} {post : Int32 → St → Prop} (C : CxC X ad cs cX1_rootOf RX1 0 0) (hn : xnL X = 2) (hR : rtI X cX1_rootOf (wC ad cs) post) (u : St) (x1 : Int32) (hw : wp_X1_rootOf u x1 post) : Z X (wC ad cs u) 0 [(0, .ref (ad 5)), (1, .int x1)] [] := by
  unfold wp_X1_rootOf at hw
  refine z_iload_n C.1 dX1_rootOf_0 rfl 1 rfl ?_
  refine z_bipush (v := 60) C.1 dX1_rootOf_1 (by decide) ?_
  refine z_imul C.1 dX1_rootOf_3 ?_
  refine z_aload_n C.1 dX1_rootOf_4 rfl 0 rfl ?_
  refine gC_5_program C mF_X1_34 dX1_rootOf_5 ?_
  refine gC_4_root C mF_X1_173 dX1_rootOf_8 ?_
  refine z_aload_n C.1 dX1_rootOf_11 rfl 0 rfl ?_
  refine gC_5_definitionOf C mF_X1_22 dX1_rootOf_12 ?_
  refine z_iload_n C.1 dX1_rootOf_15 rfl 1 rfl ?_
  refine lC_30 C hw.1 dX1_rootOf_16 ?_
  replace hw := hw.2
  refine lC_24 C hw.1 dX1_rootOf_17 ?_
  replace hw := hw.2
  refine z_bipush (v := 60) C.1 dX1_rootOf_18 (by decide) ?_
  refine z_irem C.1 dX1_rootOf_20 (by decide) ?_
  refine z_iadd C.1 dX1_rootOf_21 ?_
  exact hR _ _ _ _ dX1_rootOf_22 hw
theorem c_X1_rootOf {l : Launch} {D : va_G} {A : Nat → Prop} {ad : Nat → Nat} {cs : Nat → ClassId} (hD : ∀ u : St, va_D A (wC ad cs u)) (u : St) (x1 : Int32) (post : Int32 → St → Prop) (hw : wp_X1_rootOf u x1 post) : MI (ad 90, ad 91) l yX1_rootOf cX1_rootOf 2 (some .int) (rmm 0 0) D (tysC cs) A (wC ad cs) u [.ref (ad 5), .int x1] post :=
  met_i (by decide) (Nat.le_of_ble_eq_true rfl) (fun X C _ _ ht hA hn hsg hR => z_X1_rootOf ⟨C, ht, fun u => by rw [hA]; exact hD u, hsg⟩ hn hR u x1 hw)
theorem k_X1_rootOf {X : XX} {ad : Nat → Nat} {cs : Nat → ClassId} {cc : ByteArray} {own : String} {fr lo pc : Nat} {lv : List (Nat × Value)} {st : List Value} {u : St} (C : CxC X ad cs cc own fr lo) {idx : Nat} {x1 : Int32} {P : Int32 → St → Prop} (hlink : Cond.methodLink own idx yX1_rootOf ∈ W0) (hw : wp_X1_rootOf u x1 P) (hr : 0 + 1 ≤ fr ∧ 8 + (2 + 11) + 0 ≤ lo) (hst : (st.map fun v => v.category).sum ≤ 8) (hdg : decode cc pc = .ok (.invokevirtual idx, 3)) (k : ∀ (r : Int32) (u2 : St), P r u2 → Z X (wC ad cs u2) (pc + 3) lv (.int r :: st)) : Z X (wC ad cs u) pc lv (.int x1 :: .ref (ad 5) :: st) :=
  z_callVi (wf := wC ad cs) (As := [.int x1]) (rest := st) C.1 1 (q0 := 5) mI_X1_rootOf mS_X1_rootOf rfl rfl (by rw [C.2.1, C.2.2.2]; exact c_X1_rootOf C.2.2.1 u x1 P hw) mC_X1_rootOf mZ_X1 (by decide +kernel) rfl hlink hr hst hdg k

def wp_X1_beginCall (u : St) (x1 : Int32) (x2 : Int32) (x3 : Int32) (post : Int32 → St → Prop) : Prop :=
  br ((gI u 18) < (gI u 16)) (nm (gI u 18) (fun v2 : Int32 => nm (sI u 18 ((gI u 18) + 1)) (fun u3 : St => (vp_in v2 300 ∧ nm (sA u3 30 (ix v2) x1) (fun u4 : St => (vp_in v2 300 ∧ nm (sA u4 31 (ix v2) x2) (fun u5 : St => (vp_in v2 300 ∧ nm (sA u5 32 (ix v2) x3) (fun u6 : St => (vp_in x1 12 ∧ wp_X4_forget u6 (v2 * 60) (gA u6 23 (ix x1)) (fun (u7 : St) => wp_X1_rootOf u7 v2 (fun (r9 : Int32) (u8 : St) => wp_X4_reach u8 r9 (fun (u10 : St) => post v2 u10))))))))))))) (nm (sI u 17 1) (fun u11 : St => post (-1) u11))
set_option maxHeartbeats 4000000 in
set_option maxRecDepth 20000 in
theorem z_X1_beginCall {X : XX} {ad : Nat → Nat} {cs : Nat → ClassId} {post : Int32 → St → Prop} (C : CxC X ad cs cX1_beginCall RX1 2 42) (hn : xnL X = 5) (hR : rtI X cX1_beginCall (wC ad cs) post) (u : St) (x1 : Int32) (x2 : Int32) (x3 : Int32) (hw : wp_X1_beginCall u x1 x2 x3 post) : Z X (wC ad cs u) 0 [(0, .ref (ad 5)), (1, .int x1), (2, .int x2), (3, .int x3)] [] := by
  unfold wp_X1_beginCall at hw
  refine z_aload_n C.1 dX1_beginCall_0 rfl 0 rfl ?_
  refine gC_5_calls C mF_X1_58 dX1_beginCall_1 ?_
  refine z_aload_n C.1 dX1_beginCall_4 rfl 0 rfl ?_
  refine gC_5_mostCalls C mF_X1_51 dX1_beginCall_5 ?_
  refine z_icmp_lt (tgt := 18) C.1 dX1_beginCall_8 (by decide) (fun c1 => ?_) (fun c1 => ?_)
  · replace hw := hw.1 c1
    refine z_aload_n C.1 dX1_beginCall_18 rfl 0 rfl ?_
    refine gC_5_calls C mF_X1_58 dX1_beginCall_19 ?_
    refine z_topi (fun v2 ev2 => ?_)
    replace hw := hw v2 ev2
    refine z_istore (lv' := [(4, .int v2), (0, .ref (ad 5)), (1, .int x1), (2, .int x2), (3, .int x3)]) C.1 dX1_beginCall_22 (by rw [hn]; decide) rfl ?_
    refine z_aload_n C.1 dX1_beginCall_24 rfl 1 rfl ?_
    refine z_dup C.1 dX1_beginCall_25 rfl ?_
    refine gC_5_calls C mF_X1_58 dX1_beginCall_26 ?_
    refine z_iconst (v := 1) C.1 dX1_beginCall_29 (by decide) ?_
    refine z_iadd C.1 dX1_beginCall_30 ?_
    refine pC_5_calls C mF_X1_58 dX1_beginCall_31 (fun u3 eu3 => ?_)
    replace hw := hw u3 eu3
    refine z_aload_n C.1 dX1_beginCall_34 rfl 1 rfl ?_
    refine gC_5_definitionOf C mF_X1_22 dX1_beginCall_35 ?_
    refine z_iload C.1 dX1_beginCall_38 0 rfl ?_
    refine z_iload_n C.1 dX1_beginCall_40 rfl 2 rfl ?_
    refine sC_30 C hw.1 dX1_beginCall_41 (fun u4 eu4 => ?_)
    replace hw := hw.2 u4 eu4
    refine z_aload_n C.1 dX1_beginCall_42 rfl 1 rfl ?_
    refine gC_5_makerOf C mF_X1_25 dX1_beginCall_43 ?_
    refine z_iload C.1 dX1_beginCall_46 0 rfl ?_
    refine z_iload_n C.1 dX1_beginCall_48 rfl 3 rfl ?_
    refine sC_31 C hw.1 dX1_beginCall_49 (fun u5 eu5 => ?_)
    replace hw := hw.2 u5 eu5
    refine z_aload_n C.1 dX1_beginCall_50 rfl 1 rfl ?_
    refine gC_5_cellOf C mF_X1_28 dX1_beginCall_51 ?_
    refine z_iload C.1 dX1_beginCall_54 0 rfl ?_
    refine z_iload_n C.1 dX1_beginCall_56 rfl 4 rfl ?_
    refine sC_32 C hw.1 dX1_beginCall_57 (fun u6 eu6 => ?_)
    replace hw := hw.2 u6 eu6
    refine z_aload_n C.1 dX1_beginCall_58 rfl 1 rfl ?_
    refine gC_5_slots C mF_X1_12 dX1_beginCall_59 ?_
    refine z_iload C.1 dX1_beginCall_62 0 rfl ?_
    refine z_bipush (v := 60) C.1 dX1_beginCall_64 (by decide) ?_
    refine z_imul C.1 dX1_beginCall_66 ?_
    refine z_aload_n C.1 dX1_beginCall_67 rfl 1 rfl ?_
    refine gC_5_program C mF_X1_34 dX1_beginCall_68 ?_
    refine gC_4_parts C mF_X1_104 dX1_beginCall_71 ?_
    refine z_iload_n C.1 dX1_beginCall_74 rfl 2 rfl ?_
    refine lC_23 C hw.1 dX1_beginCall_75 ?_
    replace hw := hw.2
    refine k_X4_forget C mM_X1_107 hw (by decide) (Nat.le_of_ble_eq_true rfl) dX1_beginCall_76 (fun u7 hw => ?_)
    refine z_aload_n C.1 dX1_beginCall_79 rfl 1 rfl ?_
    refine gC_5_slots C mF_X1_12 dX1_beginCall_80 ?_
    refine z_aload_n C.1 dX1_beginCall_83 rfl 1 rfl ?_
    refine z_iload C.1 dX1_beginCall_84 0 rfl ?_
    refine k_X1_rootOf C mM_X1_90 hw (by decide) (Nat.le_of_ble_eq_true rfl) dX1_beginCall_86 (fun r9 u8 hw => ?_)
    refine k_X4_reach C mM_X1_111 hw (by decide) (Nat.le_of_ble_eq_true rfl) dX1_beginCall_89 (fun u10 hw => ?_)
    refine z_iload C.1 dX1_beginCall_92 0 rfl ?_
    exact hR _ _ _ _ dX1_beginCall_94 hw
  · replace hw := hw.2 c1
    refine z_aload_n C.1 dX1_beginCall_11 rfl 0 rfl ?_
    refine z_iconst (v := 1) C.1 dX1_beginCall_12 (by decide) ?_
    refine pC_5_tooMany C bz1 mF_X1_54 dX1_beginCall_13 (fun u11 eu11 => ?_)
    replace hw := hw u11 eu11
    refine z_iconst (v := (-1)) C.1 dX1_beginCall_16 (by decide) ?_
    exact hR _ _ _ _ dX1_beginCall_17 hw
theorem c_X1_beginCall {l : Launch} {D : va_G} {A : Nat → Prop} {ad : Nat → Nat} {cs : Nat → ClassId} (hD : ∀ u : St, va_D A (wC ad cs u)) (u : St) (x1 : Int32) (x2 : Int32) (x3 : Int32) (post : Int32 → St → Prop) (hw : wp_X1_beginCall u x1 x2 x3 post) : MI (ad 90, ad 91) l yX1_beginCall cX1_beginCall 5 (some .int) (rmm 2 42) D (tysC cs) A (wC ad cs) u [.ref (ad 5), .int x1, .int x2, .int x3] post :=
  met_i (by decide) (Nat.le_of_ble_eq_true rfl) (fun X C _ _ ht hA hn hsg hR => z_X1_beginCall ⟨C, ht, fun u => by rw [hA]; exact hD u, hsg⟩ hn hR u x1 x2 x3 hw)
theorem k_X1_beginCall {X : XX} {ad : Nat → Nat} {cs : Nat → ClassId} {cc : ByteArray} {own : String} {fr lo pc : Nat} {lv : List (Nat × Value)} {st : List Value} {u : St} (C : CxC X ad cs cc own fr lo) {idx : Nat} {x1 : Int32} {x2 : Int32} {x3 : Int32} {P : Int32 → St → Prop} (hlink : Cond.methodLink own idx yX1_beginCall ∈ W0) (hw : wp_X1_beginCall u x1 x2 x3 P) (hr : 2 + 1 ≤ fr ∧ 8 + (5 + 11) + 42 ≤ lo) (hst : (st.map fun v => v.category).sum ≤ 8) (hdg : decode cc pc = .ok (.invokevirtual idx, 3)) (k : ∀ (r : Int32) (u2 : St), P r u2 → Z X (wC ad cs u2) (pc + 3) lv (.int r :: st)) : Z X (wC ad cs u) pc lv (.int x3 :: .int x2 :: .int x1 :: .ref (ad 5) :: st) :=
  z_callVi (wf := wC ad cs) (As := [.int x1, .int x2, .int x3]) (rest := st) C.1 3 (q0 := 5) mI_X1_beginCall mS_X1_beginCall rfl rfl (by rw [C.2.1, C.2.2.2]; exact c_X1_beginCall C.2.2.1 u x1 x2 x3 P hw) mC_X1_beginCall mZ_X1 (by decide +kernel) rfl hlink hr hst hdg k

def wp_X1_partOf (u : St) (x1 : Int32) (post : Int32 → St → Prop) : Prop :=
  (vp_in (x1 / 60) 300 ∧ post (((gA u 30 (ix (x1 / 60))) * 60) + (x1 - x1 / 60 * 60)) u)
set_option maxHeartbeats 4000000 in
set_option maxRecDepth 20000 in
theorem z_X1_partOf {X : XX} {ad : Nat → Nat} {cs : Nat → ClassId} {post : Int32 → St → Prop} (C : CxC X ad cs cX1_partOf RX1 0 0) (hn : xnL X = 2) (hR : rtI X cX1_partOf (wC ad cs) post) (u : St) (x1 : Int32) (hw : wp_X1_partOf u x1 post) : Z X (wC ad cs u) 0 [(0, .ref (ad 5)), (1, .int x1)] [] := by
  unfold wp_X1_partOf at hw
  refine z_aload_n C.1 dX1_partOf_0 rfl 0 rfl ?_
  refine gC_5_definitionOf C mF_X1_22 dX1_partOf_1 ?_
  refine z_iload_n C.1 dX1_partOf_4 rfl 1 rfl ?_
  refine z_bipush (v := 60) C.1 dX1_partOf_5 (by decide) ?_
  refine z_idiv C.1 dX1_partOf_7 (by decide) ?_
  refine lC_30 C hw.1 dX1_partOf_8 ?_
  replace hw := hw.2
  refine z_bipush (v := 60) C.1 dX1_partOf_9 (by decide) ?_
  refine z_imul C.1 dX1_partOf_11 ?_
  refine z_iload_n C.1 dX1_partOf_12 rfl 1 rfl ?_
  refine z_bipush (v := 60) C.1 dX1_partOf_13 (by decide) ?_
  refine z_irem C.1 dX1_partOf_15 (by decide) ?_
  refine z_iadd C.1 dX1_partOf_16 ?_
  exact hR _ _ _ _ dX1_partOf_17 hw
theorem c_X1_partOf {l : Launch} {D : va_G} {A : Nat → Prop} {ad : Nat → Nat} {cs : Nat → ClassId} (hD : ∀ u : St, va_D A (wC ad cs u)) (u : St) (x1 : Int32) (post : Int32 → St → Prop) (hw : wp_X1_partOf u x1 post) : MI (ad 90, ad 91) l yX1_partOf cX1_partOf 2 (some .int) (rmm 0 0) D (tysC cs) A (wC ad cs) u [.ref (ad 5), .int x1] post :=
  met_i (by decide) (Nat.le_of_ble_eq_true rfl) (fun X C _ _ ht hA hn hsg hR => z_X1_partOf ⟨C, ht, fun u => by rw [hA]; exact hD u, hsg⟩ hn hR u x1 hw)
theorem k_X1_partOf {X : XX} {ad : Nat → Nat} {cs : Nat → ClassId} {cc : ByteArray} {own : String} {fr lo pc : Nat} {lv : List (Nat × Value)} {st : List Value} {u : St} (C : CxC X ad cs cc own fr lo) {idx : Nat} {x1 : Int32} {P : Int32 → St → Prop} (hlink : Cond.methodLink own idx yX1_partOf ∈ W0) (hw : wp_X1_partOf u x1 P) (hr : 0 + 1 ≤ fr ∧ 8 + (2 + 11) + 0 ≤ lo) (hst : (st.map fun v => v.category).sum ≤ 8) (hdg : decode cc pc = .ok (.invokevirtual idx, 3)) (k : ∀ (r : Int32) (u2 : St), P r u2 → Z X (wC ad cs u2) (pc + 3) lv (.int r :: st)) : Z X (wC ad cs u) pc lv (.int x1 :: .ref (ad 5) :: st) :=
  z_callVi (wf := wC ad cs) (As := [.int x1]) (rest := st) C.1 1 (q0 := 5) mI_X1_partOf mS_X1_partOf rfl rfl (by rw [C.2.1, C.2.2.2]; exact c_X1_partOf C.2.2.1 u x1 P hw) mC_X1_partOf mZ_X1 (by decide +kernel) rfl hlink hr hst hdg k

def wp_X1_inside (u : St) (x1 : Int32) (x2 : Int32) (x3 : Int32) (post : Int32 → St → Prop) : Prop :=
  nm (x1 - (x1 - x1 / 60 * 60)) (fun v1 : Int32 => wp_X2_childOf u x2 x3 (fun (r3 : Int32) (u2 : St) => post (v1 + (r3 - r3 / 60 * 60)) u2))
set_option maxHeartbeats 4000000 in
set_option maxRecDepth 20000 in
theorem z_X1_inside {X : XX} {ad : Nat → Nat} {cs : Nat → ClassId} {post : Int32 → St → Prop} (C : CxC X ad cs cX1_inside RX1 1 22) (hn : xnL X = 5) (hR : rtI X cX1_inside (wC ad cs) post) (u : St) (x1 : Int32) (x2 : Int32) (x3 : Int32) (hw : wp_X1_inside u x1 x2 x3 post) : Z X (wC ad cs u) 0 [(0, .ref (ad 5)), (1, .int x1), (2, .int x2), (3, .int x3)] [] := by
  unfold wp_X1_inside at hw
  refine z_iload_n C.1 dX1_inside_0 rfl 1 rfl ?_
  refine z_iload_n C.1 dX1_inside_1 rfl 1 rfl ?_
  refine z_bipush (v := 60) C.1 dX1_inside_2 (by decide) ?_
  refine z_irem C.1 dX1_inside_4 (by decide) ?_
  refine z_isub C.1 dX1_inside_5 ?_
  refine z_topi (fun v1 ev1 => ?_)
  replace hw := hw v1 ev1
  refine z_istore (lv' := [(4, .int v1), (0, .ref (ad 5)), (1, .int x1), (2, .int x2), (3, .int x3)]) C.1 dX1_inside_6 (by rw [hn]; decide) rfl ?_
  refine z_iload C.1 dX1_inside_8 0 rfl ?_
  refine z_aload_n C.1 dX1_inside_10 rfl 1 rfl ?_
  refine gC_5_program C mF_X1_34 dX1_inside_11 ?_
  refine z_iload_n C.1 dX1_inside_14 rfl 3 rfl ?_
  refine z_iload_n C.1 dX1_inside_15 rfl 4 rfl ?_
  refine k_X2_childOf C mM_X1_176 hw (by decide) (Nat.le_of_ble_eq_true rfl) dX1_inside_16 (fun r3 u2 hw => ?_)
  refine z_bipush (v := 60) C.1 dX1_inside_19 (by decide) ?_
  refine z_irem C.1 dX1_inside_21 (by decide) ?_
  refine z_iadd C.1 dX1_inside_22 ?_
  exact hR _ _ _ _ dX1_inside_23 hw
theorem c_X1_inside {l : Launch} {D : va_G} {A : Nat → Prop} {ad : Nat → Nat} {cs : Nat → ClassId} (hD : ∀ u : St, va_D A (wC ad cs u)) (u : St) (x1 : Int32) (x2 : Int32) (x3 : Int32) (post : Int32 → St → Prop) (hw : wp_X1_inside u x1 x2 x3 post) : MI (ad 90, ad 91) l yX1_inside cX1_inside 5 (some .int) (rmm 1 22) D (tysC cs) A (wC ad cs) u [.ref (ad 5), .int x1, .int x2, .int x3] post :=
  met_i (by decide) (Nat.le_of_ble_eq_true rfl) (fun X C _ _ ht hA hn hsg hR => z_X1_inside ⟨C, ht, fun u => by rw [hA]; exact hD u, hsg⟩ hn hR u x1 x2 x3 hw)
theorem k_X1_inside {X : XX} {ad : Nat → Nat} {cs : Nat → ClassId} {cc : ByteArray} {own : String} {fr lo pc : Nat} {lv : List (Nat × Value)} {st : List Value} {u : St} (C : CxC X ad cs cc own fr lo) {idx : Nat} {x1 : Int32} {x2 : Int32} {x3 : Int32} {P : Int32 → St → Prop} (hlink : Cond.methodLink own idx yX1_inside ∈ W0) (hw : wp_X1_inside u x1 x2 x3 P) (hr : 1 + 1 ≤ fr ∧ 8 + (5 + 11) + 22 ≤ lo) (hst : (st.map fun v => v.category).sum ≤ 8) (hdg : decode cc pc = .ok (.invokevirtual idx, 3)) (k : ∀ (r : Int32) (u2 : St), P r u2 → Z X (wC ad cs u2) (pc + 3) lv (.int r :: st)) : Z X (wC ad cs u) pc lv (.int x3 :: .int x2 :: .int x1 :: .ref (ad 5) :: st) :=
  z_callVi (wf := wC ad cs) (As := [.int x1, .int x2, .int x3]) (rest := st) C.1 3 (q0 := 5) mI_X1_inside mS_X1_inside rfl rfl (by rw [C.2.1, C.2.2.2]; exact c_X1_inside C.2.2.1 u x1 x2 x3 P hw) mC_X1_inside mZ_X1 (by decide +kernel) rfl hlink hr hst hdg k

def wp_X1_reachInside_33s (K33 : St → Int32 → Int32 → Int32 → Int32 → Int32 → Prop) (u : St) (x1 : Int32) (x2 : Int32) (x3 : Int32) (x4 : Int32) (x5 : Int32) (post : St → Prop) : Prop :=
  br (x4 ≤ x5) (br (x3 = 7) ((vp_in x2 720 ∧ wp_X1_beginCall u (gA u 26 (ix x2)) x1 (-1) (fun (r6 : Int32) (u5 : St) => (vp_in x1 18000 ∧ nm (sA u5 29 (ix x1) r6) (fun u7 : St => post u7))))) (post u)) (wp_X1_inside u x1 x2 x5 (fun (r9 : Int32) (u8 : St) => wp_X4_reach u8 r9 (fun (u10 : St) => nm (x5 + 1) (fun v11 : Int32 => K33 u10 x1 x2 x3 x4 v11))))
def wp_X1_reachInside_33 (post : St → Prop) : Nat → St → Int32 → Int32 → Int32 → Int32 → Int32 → Prop
  | 0 => fun _ _ _ _ _ _ => False
  | n + 1 => fun u x1 x2 x3 x4 x5 => wp_X1_reachInside_33s (wp_X1_reachInside_33 post n) u x1 x2 x3 x4 x5 post
set_option maxHeartbeats 4000000 in
set_option maxRecDepth 20000 in
theorem z_X1_reachInside_33s {X : XX} {ad : Nat → Nat} {cs : Nat → ClassId} {post : St → Prop} (C : CxC X ad cs cX1_reachInside RX1 3 66) (hn : xnL X = 6) (hR : rtV X cX1_reachInside (wC ad cs) post) {K33 : St → Int32 → Int32 → Int32 → Int32 → Int32 → Prop} (hK33 : ∀ (u : St) (x1 : Int32) (x2 : Int32) (x3 : Int32) (x4 : Int32) (x5 : Int32), K33 u x1 x2 x3 x4 x5 → Z X (wC ad cs u) 33 [(0, .ref (ad 5)), (1, .int x1), (2, .int x2), (3, .int x3), (4, .int x4), (5, .int x5)] []) (u : St) (x1 : Int32) (x2 : Int32) (x3 : Int32) (x4 : Int32) (x5 : Int32) (hw : wp_X1_reachInside_33s K33 u x1 x2 x3 x4 x5 post) : Z X (wC ad cs u) 33 [(0, .ref (ad 5)), (1, .int x1), (2, .int x2), (3, .int x3), (4, .int x4), (5, .int x5)] [] := by
  unfold wp_X1_reachInside_33s at hw
  refine z_iload C.1 dX1_reachInside_33 5 rfl ?_
  refine z_iload C.1 dX1_reachInside_35 4 rfl ?_
  refine z_icmp_ge (tgt := 61) C.1 dX1_reachInside_37 (by decide) (fun c3 => ?_) (fun c3 => ?_)
  · replace hw := hw.1 c3
    refine z_iload_n C.1 dX1_reachInside_61 rfl 3 rfl ?_
    refine z_bipush (v := 7) C.1 dX1_reachInside_62 (by decide) ?_
    refine z_icmp_ne (tgt := 88) C.1 dX1_reachInside_64 (by decide) (fun c4 => ?_) (fun c4 => ?_)
    · replace hw := hw.2 c4
      exact hR _ _ _ dX1_reachInside_88 hw
    · replace hw := hw.1 c4
      refine z_aload_n C.1 dX1_reachInside_67 rfl 0 rfl ?_
      refine gC_5_made C mF_X1_18 dX1_reachInside_68 ?_
      refine z_iload_n C.1 dX1_reachInside_71 rfl 1 rfl ?_
      refine z_aload_n C.1 dX1_reachInside_72 rfl 0 rfl ?_
      refine z_aload_n C.1 dX1_reachInside_73 rfl 0 rfl ?_
      refine gC_5_program C mF_X1_34 dX1_reachInside_74 ?_
      refine gC_4_number C mF_X1_126 dX1_reachInside_77 ?_
      refine z_iload_n C.1 dX1_reachInside_80 rfl 2 rfl ?_
      refine lC_26 C hw.1 dX1_reachInside_81 ?_
      replace hw := hw.2
      refine z_iload_n C.1 dX1_reachInside_82 rfl 1 rfl ?_
      refine z_iconst (v := (-1)) C.1 dX1_reachInside_83 (by decide) ?_
      refine k_X1_beginCall C mM_X1_68 hw (by decide) (Nat.le_of_ble_eq_true rfl) dX1_reachInside_84 (fun r6 u5 hw => ?_)
      refine sC_29 C hw.1 dX1_reachInside_87 (fun u7 eu7 => ?_)
      replace hw := hw.2 u7 eu7
      exact hR _ _ _ dX1_reachInside_88 hw
  · replace hw := hw.2 c3
    refine z_aload_n C.1 dX1_reachInside_40 rfl 0 rfl ?_
    refine gC_5_slots C mF_X1_12 dX1_reachInside_41 ?_
    refine z_aload_n C.1 dX1_reachInside_44 rfl 0 rfl ?_
    refine z_iload_n C.1 dX1_reachInside_45 rfl 1 rfl ?_
    refine z_iload_n C.1 dX1_reachInside_46 rfl 2 rfl ?_
    refine z_iload C.1 dX1_reachInside_47 5 rfl ?_
    refine k_X1_inside C mM_X1_136 hw (by decide) (Nat.le_of_ble_eq_true rfl) dX1_reachInside_49 (fun r9 u8 hw => ?_)
    refine k_X4_reach C mM_X1_111 hw (by decide) (Nat.le_of_ble_eq_true rfl) dX1_reachInside_52 (fun u10 hw => ?_)
    obtain ⟨v11, ev11⟩ : ∃ z : Int32, z = x5 + 1 := ⟨_, rfl⟩
    replace hw := hw v11 ev11
    refine z_iinc (v := v11) (lv' := [(5, .int v11), (0, .ref (ad 5)), (1, .int x1), (2, .int x2), (3, .int x3), (4, .int x4)]) C.1 (j := 5) dX1_reachInside_55 rfl (by rw [ev11]; rfl) (by rw [hn]; decide) rfl ?_
    refine z_goto (tgt := 33) C.1 dX1_reachInside_58 (by decide) ?_
    refine z_lv [1, 2, 3, 4, 5, 0] rfl ?_
    exact hK33 _ _ _ _ _ _ hw
theorem z_X1_reachInside_33 {X : XX} {ad : Nat → Nat} {cs : Nat → ClassId} {post : St → Prop} (C : CxC X ad cs cX1_reachInside RX1 3 66) (hn : xnL X = 6) (hR : rtV X cX1_reachInside (wC ad cs) post) : ∀ (n : Nat) (u : St) (x1 : Int32) (x2 : Int32) (x3 : Int32) (x4 : Int32) (x5 : Int32), wp_X1_reachInside_33 post n u x1 x2 x3 x4 x5 → Z X (wC ad cs u) 33 [(0, .ref (ad 5)), (1, .int x1), (2, .int x2), (3, .int x3), (4, .int x4), (5, .int x5)] []
  | 0, _, _, _, _, _, _, hw => absurd hw (fun h => h)
  | n + 1, u, x1, x2, x3, x4, x5, hw => z_X1_reachInside_33s C hn hR (z_X1_reachInside_33 C hn hR n) u x1 x2 x3 x4 x5 hw
def wp_X1_reachInside_28 (u : St) (x1 : Int32) (x2 : Int32) (x3 : Int32) (y0 : Int32) (post : St → Prop) : Prop :=
  ∃ n, wp_X1_reachInside_33 post n u x1 x2 x3 y0 0
set_option maxHeartbeats 4000000 in
set_option maxRecDepth 20000 in
theorem z_X1_reachInside_28 {X : XX} {ad : Nat → Nat} {cs : Nat → ClassId} {post : St → Prop} (C : CxC X ad cs cX1_reachInside RX1 3 66) (hn : xnL X = 6) (hR : rtV X cX1_reachInside (wC ad cs) post) (u : St) (x1 : Int32) (x2 : Int32) (x3 : Int32) (y0 : Int32) (hw : wp_X1_reachInside_28 u x1 x2 x3 y0 post) : Z X (wC ad cs u) 28 [(0, .ref (ad 5)), (1, .int x1), (2, .int x2), (3, .int x3)] [.int y0] := by
  unfold wp_X1_reachInside_28 at hw
  refine z_istore (lv' := [(4, .int y0), (0, .ref (ad 5)), (1, .int x1), (2, .int x2), (3, .int x3)]) C.1 dX1_reachInside_28 (by rw [hn]; decide) rfl ?_
  refine z_iconst (v := 0) C.1 dX1_reachInside_30 (by decide) ?_
  refine z_istore (lv' := [(5, .int 0), (4, .int y0), (0, .ref (ad 5)), (1, .int x1), (2, .int x2), (3, .int x3)]) C.1 dX1_reachInside_31 (by rw [hn]; decide) rfl ?_
  refine z_lv [2, 3, 4, 5, 1, 0] rfl ?_
  obtain ⟨n, hw⟩ := hw
  exact z_X1_reachInside_33 C hn hR n _ _ _ _ _ _ hw
def wp_X1_reachInside (u : St) (x1 : Int32) (x2 : Int32) (post : St → Prop) : Prop :=
  (vp_in x2 720 ∧ nm (gA u 25 (ix x2)) (fun v1 : Int32 => br (v1 = 5) (wp_X1_reachInside_28 u x1 x2 v1 1 post) ((vp_in x2 720 ∧ wp_X1_reachInside_28 u x1 x2 v1 (gA u 27 (ix x2)) post))))
set_option maxHeartbeats 4000000 in
set_option maxRecDepth 20000 in
theorem z_X1_reachInside {X : XX} {ad : Nat → Nat} {cs : Nat → ClassId} {post : St → Prop} (C : CxC X ad cs cX1_reachInside RX1 3 66) (hn : xnL X = 6) (hR : rtV X cX1_reachInside (wC ad cs) post) (u : St) (x1 : Int32) (x2 : Int32) (hw : wp_X1_reachInside u x1 x2 post) : Z X (wC ad cs u) 0 [(0, .ref (ad 5)), (1, .int x1), (2, .int x2)] [] := by
  unfold wp_X1_reachInside at hw
  refine z_aload_n C.1 dX1_reachInside_0 rfl 0 rfl ?_
  refine gC_5_program C mF_X1_34 dX1_reachInside_1 ?_
  refine gC_4_kind C mF_X1_123 dX1_reachInside_4 ?_
  refine z_iload_n C.1 dX1_reachInside_7 rfl 2 rfl ?_
  refine lC_25 C hw.1 dX1_reachInside_8 ?_
  replace hw := hw.2
  refine z_topi (fun v1 ev1 => ?_)
  replace hw := hw v1 ev1
  refine z_istore_n (lv' := [(3, .int v1), (0, .ref (ad 5)), (1, .int x1), (2, .int x2)]) C.1 dX1_reachInside_9 rfl (by rw [hn]; decide) rfl ?_
  refine z_iload_n C.1 dX1_reachInside_10 rfl 0 rfl ?_
  refine z_iconst (v := 5) C.1 dX1_reachInside_11 (by decide) ?_
  refine z_icmp_ne (tgt := 19) C.1 dX1_reachInside_12 (by decide) (fun c2 => ?_) (fun c2 => ?_)
  · replace hw := hw.2 c2
    refine z_aload_n C.1 dX1_reachInside_19 rfl 1 rfl ?_
    refine gC_5_program C mF_X1_34 dX1_reachInside_20 ?_
    refine gC_4_children C mF_X1_157 dX1_reachInside_23 ?_
    refine z_iload_n C.1 dX1_reachInside_26 rfl 3 rfl ?_
    refine lC_27 C hw.1 dX1_reachInside_27 ?_
    replace hw := hw.2
    refine z_lv [1, 2, 3, 0] rfl ?_
    exact z_X1_reachInside_28 C hn hR _ _ _ _ _ hw
  · replace hw := hw.1 c2
    refine z_iconst (v := 1) C.1 dX1_reachInside_15 (by decide) ?_
    refine z_goto (tgt := 28) C.1 dX1_reachInside_16 (by decide) ?_
    refine z_lv [1, 2, 3, 0] rfl ?_
    exact z_X1_reachInside_28 C hn hR _ _ _ _ _ hw
theorem c_X1_reachInside {l : Launch} {D : va_G} {A : Nat → Prop} {ad : Nat → Nat} {cs : Nat → ClassId} (hD : ∀ u : St, va_D A (wC ad cs u)) (u : St) (x1 : Int32) (x2 : Int32) (post : St → Prop) (hw : wp_X1_reachInside u x1 x2 post) : MV (ad 90, ad 91) l yX1_reachInside cX1_reachInside 6 none (rmm 3 66) D (tysC cs) A (wC ad cs) u [.ref (ad 5), .int x1, .int x2] post :=
  met_v (by decide) (Nat.le_of_ble_eq_true rfl) (fun X C _ _ ht hA hn hsg hR => z_X1_reachInside ⟨C, ht, fun u => by rw [hA]; exact hD u, hsg⟩ hn hR u x1 x2 hw)
theorem k_X1_reachInside {X : XX} {ad : Nat → Nat} {cs : Nat → ClassId} {cc : ByteArray} {own : String} {fr lo pc : Nat} {lv : List (Nat × Value)} {st : List Value} {u : St} (C : CxC X ad cs cc own fr lo) {idx : Nat} {x1 : Int32} {x2 : Int32} {P : St → Prop} (hlink : Cond.methodLink own idx yX1_reachInside ∈ W0) (hw : wp_X1_reachInside u x1 x2 P) (hr : 3 + 1 ≤ fr ∧ 8 + (6 + 11) + 66 ≤ lo) (hst : (st.map fun v => v.category).sum ≤ 8) (hdg : decode cc pc = .ok (.invokevirtual idx, 3)) (k : ∀ (u2 : St), P u2 → Z X (wC ad cs u2) (pc + 3) lv st) : Z X (wC ad cs u) pc lv (.int x2 :: .int x1 :: .ref (ad 5) :: st) :=
  z_callVv (wf := wC ad cs) (As := [.int x1, .int x2]) (rest := st) C.1 2 (q0 := 5) mI_X1_reachInside mS_X1_reachInside rfl rfl (by rw [C.2.1, C.2.2.2]; exact c_X1_reachInside C.2.2.1 u x1 x2 P hw) mC_X1_reachInside mZ_X1 (by decide +kernel) rfl hlink hr hst hdg k

def wp_X1_workOutArgument_48 (u : St) (y0 : Int32) (y1 : Int32) (post : St → Prop) : Prop :=
  wp_X4_settle u y1 y0 (-1) (fun (u21 : St) => post u21)
set_option maxHeartbeats 4000000 in
set_option maxRecDepth 20000 in
theorem z_X1_workOutArgument_48 {X : XX} {ad : Nat → Nat} {cs : Nat → ClassId} {post : St → Prop} (C : CxC X ad cs cX1_workOutArgument RX1 3 68) (hn : xnL X = 5) (hR : rtV X cX1_workOutArgument (wC ad cs) post) (u : St) (y0 : Int32) (y1 : Int32) (hw : wp_X1_workOutArgument_48 u y0 y1 post) : Z X (wC ad cs u) 48 [] [.int y0, .int y1, .ref (ad 6)] := by
  unfold wp_X1_workOutArgument_48 at hw
  refine z_iconst (v := (-1)) C.1 dX1_workOutArgument_48 (by decide) ?_
  refine k_X4_settle C mM_X1_129 hw (by decide) (Nat.le_of_ble_eq_true rfl) dX1_workOutArgument_49 (fun u21 hw => ?_)
  refine z_goto (tgt := 152) C.1 dX1_workOutArgument_52 (by decide) ?_
  exact hR _ _ _ dX1_workOutArgument_152 hw
def wp_X1_workOutArgument (u : St) (x1 : Int32) (x2 : Int32) (post : St → Prop) : Prop :=
  nm (x1 / 60) (fun v1 : Int32 => (vp_in v1 300 ∧ nm (gA u 31 (ix v1)) (fun v2 : Int32 => br (v2 = (-1)) (br (x2 = 0) (wp_X1_workOutArgument_48 u (gI u 14) x1 post) (br (x2 = 1) (wp_X1_workOutArgument_48 u (gI u 15) x1 post) (wp_X1_workOutArgument_48 u 0 x1 post))) ((vp_in v1 300 ∧ br ((gA u 32 (ix v1)) = (-1)) (wp_X1_partOf u v2 (fun (r15 : Int32) (u14 : St) => wp_X1_inside u14 v2 r15 x2 (fun (r17 : Int32) (u16 : St) => wp_X4_follow u16 x1 r17 (fun (u18 : St) => post u18)))) (br (x2 = 0) ((vp_in v1 300 ∧ wp_X4_settle u x1 (gA u 32 (ix v1)) (-1) (fun (u13 : St) => post u13))) (br (x2 = 1) (wp_X4_follow u x1 v2 (fun (u12 : St) => post u12)) (wp_X1_partOf u v2 (fun (r8 : Int32) (u7 : St) => wp_X1_inside u7 v2 r8 (x2 - 1) (fun (r10 : Int32) (u9 : St) => wp_X4_follow u9 x1 r10 (fun (u11 : St) => post u11)))))))))))
set_option maxHeartbeats 4000000 in
set_option maxRecDepth 20000 in
theorem z_X1_workOutArgument {X : XX} {ad : Nat → Nat} {cs : Nat → ClassId} {post : St → Prop} (C : CxC X ad cs cX1_workOutArgument RX1 3 68) (hn : xnL X = 5) (hR : rtV X cX1_workOutArgument (wC ad cs) post) (u : St) (x1 : Int32) (x2 : Int32) (hw : wp_X1_workOutArgument u x1 x2 post) : Z X (wC ad cs u) 0 [(0, .ref (ad 5)), (1, .int x1), (2, .int x2)] [] := by
  unfold wp_X1_workOutArgument at hw
  refine z_iload_n C.1 dX1_workOutArgument_0 rfl 1 rfl ?_
  refine z_bipush (v := 60) C.1 dX1_workOutArgument_1 (by decide) ?_
  refine z_idiv C.1 dX1_workOutArgument_3 (by decide) ?_
  refine z_topi (fun v1 ev1 => ?_)
  replace hw := hw v1 ev1
  refine z_istore_n (lv' := [(3, .int v1), (0, .ref (ad 5)), (1, .int x1), (2, .int x2)]) C.1 dX1_workOutArgument_4 rfl (by rw [hn]; decide) rfl ?_
  refine z_aload_n C.1 dX1_workOutArgument_5 rfl 1 rfl ?_
  refine gC_5_makerOf C mF_X1_25 dX1_workOutArgument_6 ?_
  refine z_iload_n C.1 dX1_workOutArgument_9 rfl 0 rfl ?_
  refine lC_31 C hw.1 dX1_workOutArgument_10 ?_
  replace hw := hw.2
  refine z_topi (fun v2 ev2 => ?_)
  replace hw := hw v2 ev2
  refine z_istore (lv' := [(4, .int v2), (3, .int v1), (0, .ref (ad 5)), (1, .int x1), (2, .int x2)]) C.1 dX1_workOutArgument_11 (by rw [hn]; decide) rfl ?_
  refine z_iload C.1 dX1_workOutArgument_13 0 rfl ?_
  refine z_iconst (v := (-1)) C.1 dX1_workOutArgument_15 (by decide) ?_
  refine z_icmp_ne (tgt := 55) C.1 dX1_workOutArgument_16 (by decide) (fun c3 => ?_) (fun c3 => ?_)
  · replace hw := hw.2 c3
    refine z_aload_n C.1 dX1_workOutArgument_55 rfl 2 rfl ?_
    refine gC_5_cellOf C mF_X1_28 dX1_workOutArgument_56 ?_
    refine z_iload_n C.1 dX1_workOutArgument_59 rfl 1 rfl ?_
    refine lC_32 C hw.1 dX1_workOutArgument_60 ?_
    replace hw := hw.2
    refine z_iconst (v := (-1)) C.1 dX1_workOutArgument_61 (by decide) ?_
    refine z_icmp_ne (tgt := 89) C.1 dX1_workOutArgument_62 (by decide) (fun c4 => ?_) (fun c4 => ?_)
    · replace hw := hw.2 c4
      refine z_iload_n C.1 dX1_workOutArgument_89 rfl 4 rfl ?_
      refine z_if_ne (tgt := 111) C.1 dX1_workOutArgument_90 (by decide) (fun c5 => ?_) (fun c5 => ?_)
      · replace hw := hw.2 c5
        refine z_iload_n C.1 dX1_workOutArgument_111 rfl 4 rfl ?_
        refine z_iconst (v := 1) C.1 dX1_workOutArgument_112 (by decide) ?_
        refine z_icmp_ne (tgt := 129) C.1 dX1_workOutArgument_113 (by decide) (fun c6 => ?_) (fun c6 => ?_)
        · replace hw := hw.2 c6
          refine z_aload_n C.1 dX1_workOutArgument_129 rfl 2 rfl ?_
          refine gC_5_slots C mF_X1_12 dX1_workOutArgument_130 ?_
          refine z_iload_n C.1 dX1_workOutArgument_133 rfl 3 rfl ?_
          refine z_aload_n C.1 dX1_workOutArgument_134 rfl 2 rfl ?_
          refine z_iload C.1 dX1_workOutArgument_135 0 rfl ?_
          refine z_aload_n C.1 dX1_workOutArgument_137 rfl 2 rfl ?_
          refine z_iload C.1 dX1_workOutArgument_138 0 rfl ?_
          refine k_X1_partOf C mM_X1_114 hw (by decide) (Nat.le_of_ble_eq_true rfl) dX1_workOutArgument_140 (fun r8 u7 hw => ?_)
          refine z_iload_n C.1 dX1_workOutArgument_143 rfl 4 rfl ?_
          refine z_iconst (v := 1) C.1 dX1_workOutArgument_144 (by decide) ?_
          refine z_isub C.1 dX1_workOutArgument_145 ?_
          refine k_X1_inside C mM_X1_136 hw (by decide) (Nat.le_of_ble_eq_true rfl) dX1_workOutArgument_146 (fun r10 u9 hw => ?_)
          refine k_X4_follow C mM_X1_139 hw (by decide) (Nat.le_of_ble_eq_true rfl) dX1_workOutArgument_149 (fun u11 hw => ?_)
          exact hR _ _ _ dX1_workOutArgument_152 hw
        · replace hw := hw.1 c6
          refine z_aload_n C.1 dX1_workOutArgument_116 rfl 2 rfl ?_
          refine gC_5_slots C mF_X1_12 dX1_workOutArgument_117 ?_
          refine z_iload_n C.1 dX1_workOutArgument_120 rfl 3 rfl ?_
          refine z_iload C.1 dX1_workOutArgument_121 0 rfl ?_
          refine k_X4_follow C mM_X1_139 hw (by decide) (Nat.le_of_ble_eq_true rfl) dX1_workOutArgument_123 (fun u12 hw => ?_)
          refine z_goto (tgt := 152) C.1 dX1_workOutArgument_126 (by decide) ?_
          exact hR _ _ _ dX1_workOutArgument_152 hw
      · replace hw := hw.1 c5
        refine z_aload_n C.1 dX1_workOutArgument_93 rfl 2 rfl ?_
        refine gC_5_slots C mF_X1_12 dX1_workOutArgument_94 ?_
        refine z_iload_n C.1 dX1_workOutArgument_97 rfl 3 rfl ?_
        refine z_aload_n C.1 dX1_workOutArgument_98 rfl 2 rfl ?_
        refine gC_5_cellOf C mF_X1_28 dX1_workOutArgument_99 ?_
        refine z_iload_n C.1 dX1_workOutArgument_102 rfl 1 rfl ?_
        refine lC_32 C hw.1 dX1_workOutArgument_103 ?_
        replace hw := hw.2
        refine z_iconst (v := (-1)) C.1 dX1_workOutArgument_104 (by decide) ?_
        refine k_X4_settle C mM_X1_129 hw (by decide) (Nat.le_of_ble_eq_true rfl) dX1_workOutArgument_105 (fun u13 hw => ?_)
        refine z_goto (tgt := 152) C.1 dX1_workOutArgument_108 (by decide) ?_
        exact hR _ _ _ dX1_workOutArgument_152 hw
    · replace hw := hw.1 c4
      refine z_aload_n C.1 dX1_workOutArgument_65 rfl 2 rfl ?_
      refine gC_5_slots C mF_X1_12 dX1_workOutArgument_66 ?_
      refine z_iload_n C.1 dX1_workOutArgument_69 rfl 3 rfl ?_
      refine z_aload_n C.1 dX1_workOutArgument_70 rfl 2 rfl ?_
      refine z_iload C.1 dX1_workOutArgument_71 0 rfl ?_
      refine z_aload_n C.1 dX1_workOutArgument_73 rfl 2 rfl ?_
      refine z_iload C.1 dX1_workOutArgument_74 0 rfl ?_
      refine k_X1_partOf C mM_X1_114 hw (by decide) (Nat.le_of_ble_eq_true rfl) dX1_workOutArgument_76 (fun r15 u14 hw => ?_)
      refine z_iload_n C.1 dX1_workOutArgument_79 rfl 4 rfl ?_
      refine k_X1_inside C mM_X1_136 hw (by decide) (Nat.le_of_ble_eq_true rfl) dX1_workOutArgument_80 (fun r17 u16 hw => ?_)
      refine k_X4_follow C mM_X1_139 hw (by decide) (Nat.le_of_ble_eq_true rfl) dX1_workOutArgument_83 (fun u18 hw => ?_)
      refine z_goto (tgt := 152) C.1 dX1_workOutArgument_86 (by decide) ?_
      exact hR _ _ _ dX1_workOutArgument_152 hw
  · replace hw := hw.1 c3
    refine z_aload_n C.1 dX1_workOutArgument_19 rfl 2 rfl ?_
    refine gC_5_slots C mF_X1_12 dX1_workOutArgument_20 ?_
    refine z_iload_n C.1 dX1_workOutArgument_23 rfl 3 rfl ?_
    refine z_iload_n C.1 dX1_workOutArgument_24 rfl 4 rfl ?_
    refine z_if_ne (tgt := 35) C.1 dX1_workOutArgument_25 (by decide) (fun c19 => ?_) (fun c19 => ?_)
    · replace hw := hw.2 c19
      refine z_iload_n C.1 dX1_workOutArgument_35 rfl 4 rfl ?_
      refine z_iconst (v := 1) C.1 dX1_workOutArgument_36 (by decide) ?_
      refine z_icmp_ne (tgt := 47) C.1 dX1_workOutArgument_37 (by decide) (fun c20 => ?_) (fun c20 => ?_)
      · replace hw := hw.2 c20
        refine z_iconst (v := 0) C.1 dX1_workOutArgument_47 (by decide) ?_
        refine z_lv [] rfl ?_
        exact z_X1_workOutArgument_48 C hn hR _ _ _ hw
      · replace hw := hw.1 c20
        refine z_aload_n C.1 dX1_workOutArgument_40 rfl 2 rfl ?_
        refine gC_5_secondTold C mF_X1_42 dX1_workOutArgument_41 ?_
        refine z_goto (tgt := 48) C.1 dX1_workOutArgument_44 (by decide) ?_
        refine z_lv [] rfl ?_
        exact z_X1_workOutArgument_48 C hn hR _ _ _ hw
    · replace hw := hw.1 c19
      refine z_aload_n C.1 dX1_workOutArgument_28 rfl 2 rfl ?_
      refine gC_5_firstTold C mF_X1_38 dX1_workOutArgument_29 ?_
      refine z_goto (tgt := 48) C.1 dX1_workOutArgument_32 (by decide) ?_
      refine z_lv [] rfl ?_
      exact z_X1_workOutArgument_48 C hn hR _ _ _ hw
theorem c_X1_workOutArgument {l : Launch} {D : va_G} {A : Nat → Prop} {ad : Nat → Nat} {cs : Nat → ClassId} (hD : ∀ u : St, va_D A (wC ad cs u)) (u : St) (x1 : Int32) (x2 : Int32) (post : St → Prop) (hw : wp_X1_workOutArgument u x1 x2 post) : MV (ad 90, ad 91) l yX1_workOutArgument cX1_workOutArgument 5 none (rmm 3 68) D (tysC cs) A (wC ad cs) u [.ref (ad 5), .int x1, .int x2] post :=
  met_v (by decide) (Nat.le_of_ble_eq_true rfl) (fun X C _ _ ht hA hn hsg hR => z_X1_workOutArgument ⟨C, ht, fun u => by rw [hA]; exact hD u, hsg⟩ hn hR u x1 x2 hw)
theorem k_X1_workOutArgument {X : XX} {ad : Nat → Nat} {cs : Nat → ClassId} {cc : ByteArray} {own : String} {fr lo pc : Nat} {lv : List (Nat × Value)} {st : List Value} {u : St} (C : CxC X ad cs cc own fr lo) {idx : Nat} {x1 : Int32} {x2 : Int32} {P : St → Prop} (hlink : Cond.methodLink own idx yX1_workOutArgument ∈ W0) (hw : wp_X1_workOutArgument u x1 x2 P) (hr : 3 + 1 ≤ fr ∧ 8 + (5 + 11) + 68 ≤ lo) (hst : (st.map fun v => v.category).sum ≤ 8) (hdg : decode cc pc = .ok (.invokevirtual idx, 3)) (k : ∀ (u2 : St), P u2 → Z X (wC ad cs u2) (pc + 3) lv st) : Z X (wC ad cs u) pc lv (.int x2 :: .int x1 :: .ref (ad 5) :: st) :=
  z_callVv (wf := wC ad cs) (As := [.int x1, .int x2]) (rest := st) C.1 2 (q0 := 5) mI_X1_workOutArgument mS_X1_workOutArgument rfl rfl (by rw [C.2.1, C.2.2.2]; exact c_X1_workOutArgument C.2.2.1 u x1 x2 P hw) mC_X1_workOutArgument mZ_X1 (by decide +kernel) rfl hlink hr hst hdg k

def wp_X1_negate (u : St) (x1 : Int32) (x2 : Int32) (post : St → Prop) : Prop :=
  wp_X4_has u x1 x2 (fun (r2 : Int32) (u1 : St) => br (r2 = 0) (post u1) (wp_X4_numberAt u1 x2 (fun (r5 : Int32) (u4 : St) => wp_X4_settle u4 x1 (-r5) (-1) (fun (u6 : St) => post u6))))
set_option maxHeartbeats 4000000 in
set_option maxRecDepth 20000 in
theorem z_X1_negate {X : XX} {ad : Nat → Nat} {cs : Nat → ClassId} {post : St → Prop} (C : CxC X ad cs cX1_negate RX1 2 46) (hn : xnL X = 3) (hR : rtV X cX1_negate (wC ad cs) post) (u : St) (x1 : Int32) (x2 : Int32) (hw : wp_X1_negate u x1 x2 post) : Z X (wC ad cs u) 0 [(0, .ref (ad 5)), (1, .int x1), (2, .int x2)] [] := by
  unfold wp_X1_negate at hw
  refine z_aload_n C.1 dX1_negate_0 rfl 0 rfl ?_
  refine gC_5_slots C mF_X1_12 dX1_negate_1 ?_
  refine z_iload_n C.1 dX1_negate_4 rfl 1 rfl ?_
  refine z_iload_n C.1 dX1_negate_5 rfl 2 rfl ?_
  refine k_X4_has C mM_X1_160 hw (by decide) (Nat.le_of_ble_eq_true rfl) dX1_negate_6 (fun r2 u1 hw => ?_)
  refine z_if_eq (tgt := 30) C.1 dX1_negate_9 (by decide) (fun c3 => ?_) (fun c3 => ?_)
  · replace hw := hw.1 c3
    exact hR _ _ _ dX1_negate_30 hw
  · replace hw := hw.2 c3
    refine z_aload_n C.1 dX1_negate_12 rfl 0 rfl ?_
    refine gC_5_slots C mF_X1_12 dX1_negate_13 ?_
    refine z_iload_n C.1 dX1_negate_16 rfl 1 rfl ?_
    refine z_aload_n C.1 dX1_negate_17 rfl 0 rfl ?_
    refine gC_5_slots C mF_X1_12 dX1_negate_18 ?_
    refine z_iload_n C.1 dX1_negate_21 rfl 2 rfl ?_
    refine k_X4_numberAt C mM_X1_98 hw (by decide) (Nat.le_of_ble_eq_true rfl) dX1_negate_22 (fun r5 u4 hw => ?_)
    refine z_ineg C.1 dX1_negate_25 ?_
    refine z_iconst (v := (-1)) C.1 dX1_negate_26 (by decide) ?_
    refine k_X4_settle C mM_X1_129 hw (by decide) (Nat.le_of_ble_eq_true rfl) dX1_negate_27 (fun u6 hw => ?_)
    exact hR _ _ _ dX1_negate_30 hw
theorem c_X1_negate {l : Launch} {D : va_G} {A : Nat → Prop} {ad : Nat → Nat} {cs : Nat → ClassId} (hD : ∀ u : St, va_D A (wC ad cs u)) (u : St) (x1 : Int32) (x2 : Int32) (post : St → Prop) (hw : wp_X1_negate u x1 x2 post) : MV (ad 90, ad 91) l yX1_negate cX1_negate 3 none (rmm 2 46) D (tysC cs) A (wC ad cs) u [.ref (ad 5), .int x1, .int x2] post :=
  met_v (by decide) (Nat.le_of_ble_eq_true rfl) (fun X C _ _ ht hA hn hsg hR => z_X1_negate ⟨C, ht, fun u => by rw [hA]; exact hD u, hsg⟩ hn hR u x1 x2 hw)
theorem k_X1_negate {X : XX} {ad : Nat → Nat} {cs : Nat → ClassId} {cc : ByteArray} {own : String} {fr lo pc : Nat} {lv : List (Nat × Value)} {st : List Value} {u : St} (C : CxC X ad cs cc own fr lo) {idx : Nat} {x1 : Int32} {x2 : Int32} {P : St → Prop} (hlink : Cond.methodLink own idx yX1_negate ∈ W0) (hw : wp_X1_negate u x1 x2 P) (hr : 2 + 1 ≤ fr ∧ 8 + (3 + 11) + 46 ≤ lo) (hst : (st.map fun v => v.category).sum ≤ 8) (hdg : decode cc pc = .ok (.invokevirtual idx, 3)) (k : ∀ (u2 : St), P u2 → Z X (wC ad cs u2) (pc + 3) lv st) : Z X (wC ad cs u) pc lv (.int x2 :: .int x1 :: .ref (ad 5) :: st) :=
  z_callVv (wf := wC ad cs) (As := [.int x1, .int x2]) (rest := st) C.1 2 (q0 := 5) mI_X1_negate mS_X1_negate rfl rfl (by rw [C.2.1, C.2.2.2]; exact c_X1_negate C.2.2.1 u x1 x2 P hw) mC_X1_negate mZ_X1 (by decide +kernel) rfl hlink hr hst hdg k

def wp_X1_choose_39 (u : St) (x1 : Int32) (y0 : Int32) (y1 : Int32) (y2 : Int32) (post : St → Prop) : Prop :=
  wp_X1_inside u y2 y1 y0 (fun (r10 : Int32) (u9 : St) => wp_X4_reach u9 r10 (fun (u11 : St) => wp_X4_follow u11 x1 r10 (fun (u12 : St) => post u12)))
set_option maxHeartbeats 4000000 in
set_option maxRecDepth 20000 in
theorem z_X1_choose_39 {X : XX} {ad : Nat → Nat} {cs : Nat → ClassId} {post : St → Prop} (C : CxC X ad cs cX1_choose RX1 3 68) (hn : xnL X = 5) (hR : rtV X cX1_choose (wC ad cs) post) (u : St) (x1 : Int32) (y0 : Int32) (y1 : Int32) (y2 : Int32) (hw : wp_X1_choose_39 u x1 y0 y1 y2 post) : Z X (wC ad cs u) 39 [(0, .ref (ad 5)), (1, .int x1)] [.int y0, .int y1, .int y2, .ref (ad 5)] := by
  unfold wp_X1_choose_39 at hw
  refine k_X1_inside C mM_X1_136 hw (by decide) (Nat.le_of_ble_eq_true rfl) dX1_choose_39 (fun r10 u9 hw => ?_)
  refine z_istore (lv' := [(4, .int r10), (0, .ref (ad 5)), (1, .int x1)]) C.1 dX1_choose_42 (by rw [hn]; decide) rfl ?_
  refine z_aload_n C.1 dX1_choose_44 rfl 1 rfl ?_
  refine gC_5_slots C mF_X1_12 dX1_choose_45 ?_
  refine z_iload C.1 dX1_choose_48 0 rfl ?_
  refine k_X4_reach C mM_X1_111 hw (by decide) (Nat.le_of_ble_eq_true rfl) dX1_choose_50 (fun u11 hw => ?_)
  refine z_aload_n C.1 dX1_choose_53 rfl 1 rfl ?_
  refine gC_5_slots C mF_X1_12 dX1_choose_54 ?_
  refine z_iload_n C.1 dX1_choose_57 rfl 2 rfl ?_
  refine z_iload C.1 dX1_choose_58 0 rfl ?_
  refine k_X4_follow C mM_X1_139 hw (by decide) (Nat.le_of_ble_eq_true rfl) dX1_choose_60 (fun u12 hw => ?_)
  exact hR _ _ _ dX1_choose_63 hw
def wp_X1_choose (u : St) (x1 : Int32) (x2 : Int32) (post : St → Prop) : Prop :=
  wp_X1_inside u x1 x2 0 (fun (r2 : Int32) (u1 : St) => wp_X4_has u1 x1 r2 (fun (r4 : Int32) (u3 : St) => br (r4 = 0) (post u3) (wp_X4_numberAt u3 r2 (fun (r7 : Int32) (u6 : St) => br (r7 = 0) (wp_X1_choose_39 u6 x1 2 x2 x1 post) (wp_X1_choose_39 u6 x1 1 x2 x1 post)))))
set_option maxHeartbeats 4000000 in
set_option maxRecDepth 20000 in
theorem z_X1_choose {X : XX} {ad : Nat → Nat} {cs : Nat → ClassId} {post : St → Prop} (C : CxC X ad cs cX1_choose RX1 3 68) (hn : xnL X = 5) (hR : rtV X cX1_choose (wC ad cs) post) (u : St) (x1 : Int32) (x2 : Int32) (hw : wp_X1_choose u x1 x2 post) : Z X (wC ad cs u) 0 [(0, .ref (ad 5)), (1, .int x1), (2, .int x2)] [] := by
  unfold wp_X1_choose at hw
  refine z_aload_n C.1 dX1_choose_0 rfl 0 rfl ?_
  refine z_iload_n C.1 dX1_choose_1 rfl 1 rfl ?_
  refine z_iload_n C.1 dX1_choose_2 rfl 2 rfl ?_
  refine z_iconst (v := 0) C.1 dX1_choose_3 (by decide) ?_
  refine k_X1_inside C mM_X1_136 hw (by decide) (Nat.le_of_ble_eq_true rfl) dX1_choose_4 (fun r2 u1 hw => ?_)
  refine z_istore_n (lv' := [(3, .int r2), (0, .ref (ad 5)), (1, .int x1), (2, .int x2)]) C.1 dX1_choose_7 rfl (by rw [hn]; decide) rfl ?_
  refine z_aload_n C.1 dX1_choose_8 rfl 1 rfl ?_
  refine gC_5_slots C mF_X1_12 dX1_choose_9 ?_
  refine z_iload_n C.1 dX1_choose_12 rfl 2 rfl ?_
  refine z_iload_n C.1 dX1_choose_13 rfl 0 rfl ?_
  refine k_X4_has C mM_X1_160 hw (by decide) (Nat.le_of_ble_eq_true rfl) dX1_choose_14 (fun r4 u3 hw => ?_)
  refine z_if_eq (tgt := 63) C.1 dX1_choose_17 (by decide) (fun c5 => ?_) (fun c5 => ?_)
  · replace hw := hw.1 c5
    exact hR _ _ _ dX1_choose_63 hw
  · replace hw := hw.2 c5
    refine z_aload_n C.1 dX1_choose_20 rfl 1 rfl ?_
    refine z_iload_n C.1 dX1_choose_21 rfl 2 rfl ?_
    refine z_iload_n C.1 dX1_choose_22 rfl 3 rfl ?_
    refine z_aload_n C.1 dX1_choose_23 rfl 1 rfl ?_
    refine gC_5_slots C mF_X1_12 dX1_choose_24 ?_
    refine z_iload_n C.1 dX1_choose_27 rfl 0 rfl ?_
    refine k_X4_numberAt C mM_X1_98 hw (by decide) (Nat.le_of_ble_eq_true rfl) dX1_choose_28 (fun r7 u6 hw => ?_)
    refine z_if_eq (tgt := 38) C.1 dX1_choose_31 (by decide) (fun c8 => ?_) (fun c8 => ?_)
    · replace hw := hw.1 c8
      refine z_iconst (v := 2) C.1 dX1_choose_38 (by decide) ?_
      refine z_lv [1, 2] rfl ?_
      exact z_X1_choose_39 C hn hR _ _ _ _ _ hw
    · replace hw := hw.2 c8
      refine z_iconst (v := 1) C.1 dX1_choose_34 (by decide) ?_
      refine z_goto (tgt := 39) C.1 dX1_choose_35 (by decide) ?_
      refine z_lv [1, 2] rfl ?_
      exact z_X1_choose_39 C hn hR _ _ _ _ _ hw
theorem c_X1_choose {l : Launch} {D : va_G} {A : Nat → Prop} {ad : Nat → Nat} {cs : Nat → ClassId} (hD : ∀ u : St, va_D A (wC ad cs u)) (u : St) (x1 : Int32) (x2 : Int32) (post : St → Prop) (hw : wp_X1_choose u x1 x2 post) : MV (ad 90, ad 91) l yX1_choose cX1_choose 5 none (rmm 3 68) D (tysC cs) A (wC ad cs) u [.ref (ad 5), .int x1, .int x2] post :=
  met_v (by decide) (Nat.le_of_ble_eq_true rfl) (fun X C _ _ ht hA hn hsg hR => z_X1_choose ⟨C, ht, fun u => by rw [hA]; exact hD u, hsg⟩ hn hR u x1 x2 hw)
theorem k_X1_choose {X : XX} {ad : Nat → Nat} {cs : Nat → ClassId} {cc : ByteArray} {own : String} {fr lo pc : Nat} {lv : List (Nat × Value)} {st : List Value} {u : St} (C : CxC X ad cs cc own fr lo) {idx : Nat} {x1 : Int32} {x2 : Int32} {P : St → Prop} (hlink : Cond.methodLink own idx yX1_choose ∈ W0) (hw : wp_X1_choose u x1 x2 P) (hr : 3 + 1 ≤ fr ∧ 8 + (5 + 11) + 68 ≤ lo) (hst : (st.map fun v => v.category).sum ≤ 8) (hdg : decode cc pc = .ok (.invokevirtual idx, 3)) (k : ∀ (u2 : St), P u2 → Z X (wC ad cs u2) (pc + 3) lv st) : Z X (wC ad cs u) pc lv (.int x2 :: .int x1 :: .ref (ad 5) :: st) :=
  z_callVv (wf := wC ad cs) (As := [.int x1, .int x2]) (rest := st) C.1 2 (q0 := 5) mI_X1_choose mS_X1_choose rfl rfl (by rw [C.2.1, C.2.2.2]; exact c_X1_choose C.2.2.1 u x1 x2 P hw) mC_X1_choose mZ_X1 (by decide +kernel) rfl hlink hr hst hdg k

def wp_X1_makeCells_86 (u : St) (x1 : Int32) (x4 : Int32) (x5 : Int32) (post : St → Prop) : Prop :=
  nm (sI u 19 ((gI u 19) + x4)) (fun u15 : St => wp_X4_settle u15 x1 x4 x5 (fun (u16 : St) => post u16))
set_option maxHeartbeats 4000000 in
set_option maxRecDepth 20000 in
theorem z_X1_makeCells_86 {X : XX} {ad : Nat → Nat} {cs : Nat → ClassId} {post : St → Prop} (C : CxC X ad cs cX1_makeCells RX1 3 66) (hn : xnL X = 7) (hR : rtV X cX1_makeCells (wC ad cs) post) (u : St) (x1 : Int32) (x4 : Int32) (x5 : Int32) (hw : wp_X1_makeCells_86 u x1 x4 x5 post) : Z X (wC ad cs u) 86 [(0, .ref (ad 5)), (1, .int x1), (4, .int x4), (5, .int x5)] [] := by
  unfold wp_X1_makeCells_86 at hw
  refine z_aload_n C.1 dX1_makeCells_86 rfl 0 rfl ?_
  refine z_dup C.1 dX1_makeCells_87 rfl ?_
  refine gC_5_cells C mF_X1_61 dX1_makeCells_88 ?_
  refine z_iload C.1 dX1_makeCells_91 2 rfl ?_
  refine z_iadd C.1 dX1_makeCells_93 ?_
  refine pC_5_cells C mF_X1_61 dX1_makeCells_94 (fun u15 eu15 => ?_)
  replace hw := hw u15 eu15
  refine z_aload_n C.1 dX1_makeCells_97 rfl 0 rfl ?_
  refine gC_5_slots C mF_X1_12 dX1_makeCells_98 ?_
  refine z_iload_n C.1 dX1_makeCells_101 rfl 1 rfl ?_
  refine z_iload C.1 dX1_makeCells_102 2 rfl ?_
  refine z_iload C.1 dX1_makeCells_104 3 rfl ?_
  refine k_X4_settle C mM_X1_129 hw (by decide) (Nat.le_of_ble_eq_true rfl) dX1_makeCells_106 (fun u16 hw => ?_)
  exact hR _ _ _ dX1_makeCells_109 hw
def wp_X1_makeCells_49s (K49 : St → Int32 → Int32 → Int32 → Int32 → Int32 → Prop) (u : St) (x1 : Int32) (x2 : Int32) (x4 : Int32) (x5 : Int32) (x6 : Int32) (post : St → Prop) : Prop :=
  br (x4 ≤ x6) (wp_X1_makeCells_86 u x1 x4 x5 post) (br ((gI u 17) = 0) ((vp_in x2 720 ∧ wp_X1_beginCall u (gA u 26 (ix x2)) x1 x6 (fun (r13 : Int32) (u12 : St) => nm (x6 + 1) (fun v14 : Int32 => K49 u12 x1 x2 x4 x5 v14)))) (wp_X1_makeCells_86 u x1 x4 x5 post))
def wp_X1_makeCells_49 (post : St → Prop) : Nat → St → Int32 → Int32 → Int32 → Int32 → Int32 → Prop
  | 0 => fun _ _ _ _ _ _ => False
  | n + 1 => fun u x1 x2 x4 x5 x6 => wp_X1_makeCells_49s (wp_X1_makeCells_49 post n) u x1 x2 x4 x5 x6 post
set_option maxHeartbeats 4000000 in
set_option maxRecDepth 20000 in
theorem z_X1_makeCells_49s {X : XX} {ad : Nat → Nat} {cs : Nat → ClassId} {post : St → Prop} (C : CxC X ad cs cX1_makeCells RX1 3 66) (hn : xnL X = 7) (hR : rtV X cX1_makeCells (wC ad cs) post) {K49 : St → Int32 → Int32 → Int32 → Int32 → Int32 → Prop} (hK49 : ∀ (u : St) (x1 : Int32) (x2 : Int32) (x4 : Int32) (x5 : Int32) (x6 : Int32), K49 u x1 x2 x4 x5 x6 → Z X (wC ad cs u) 49 [(0, .ref (ad 5)), (1, .int x1), (2, .int x2), (4, .int x4), (5, .int x5), (6, .int x6)] []) (u : St) (x1 : Int32) (x2 : Int32) (x4 : Int32) (x5 : Int32) (x6 : Int32) (hw : wp_X1_makeCells_49s K49 u x1 x2 x4 x5 x6 post) : Z X (wC ad cs u) 49 [(0, .ref (ad 5)), (1, .int x1), (2, .int x2), (4, .int x4), (5, .int x5), (6, .int x6)] [] := by
  unfold wp_X1_makeCells_49s at hw
  refine z_iload C.1 dX1_makeCells_49 5 rfl ?_
  refine z_iload C.1 dX1_makeCells_51 3 rfl ?_
  refine z_icmp_ge (tgt := 86) C.1 dX1_makeCells_53 (by decide) (fun c10 => ?_) (fun c10 => ?_)
  · replace hw := hw.1 c10
    refine z_lv [0, 1, 3, 4] rfl ?_
    exact z_X1_makeCells_86 C hn hR _ _ _ _ hw
  · replace hw := hw.2 c10
    refine z_aload_n C.1 dX1_makeCells_56 rfl 0 rfl ?_
    refine gC_5_tooMany C mF_X1_54 dX1_makeCells_57 ?_
    refine z_if_ne (tgt := 86) C.1 dX1_makeCells_60 (by decide) (fun c11 => ?_) (fun c11 => ?_)
    · replace hw := hw.2 c11
      refine z_lv [0, 1, 3, 4] rfl ?_
      exact z_X1_makeCells_86 C hn hR _ _ _ _ hw
    · replace hw := hw.1 c11
      refine z_aload_n C.1 dX1_makeCells_63 rfl 0 rfl ?_
      refine z_aload_n C.1 dX1_makeCells_64 rfl 0 rfl ?_
      refine gC_5_program C mF_X1_34 dX1_makeCells_65 ?_
      refine gC_4_number C mF_X1_126 dX1_makeCells_68 ?_
      refine z_iload_n C.1 dX1_makeCells_71 rfl 2 rfl ?_
      refine lC_26 C hw.1 dX1_makeCells_72 ?_
      replace hw := hw.2
      refine z_iload_n C.1 dX1_makeCells_73 rfl 1 rfl ?_
      refine z_iload C.1 dX1_makeCells_74 5 rfl ?_
      refine k_X1_beginCall C mM_X1_68 hw (by decide) (Nat.le_of_ble_eq_true rfl) dX1_makeCells_76 (fun r13 u12 hw => ?_)
      refine z_pop C.1 dX1_makeCells_79 rfl ?_
      obtain ⟨v14, ev14⟩ : ∃ z : Int32, z = x6 + 1 := ⟨_, rfl⟩
      replace hw := hw v14 ev14
      refine z_iinc (v := v14) (lv' := [(6, .int v14), (0, .ref (ad 5)), (1, .int x1), (2, .int x2), (4, .int x4), (5, .int x5)]) C.1 (j := 5) dX1_makeCells_80 rfl (by rw [ev14]; rfl) (by rw [hn]; decide) rfl ?_
      refine z_goto (tgt := 49) C.1 dX1_makeCells_83 (by decide) ?_
      refine z_lv [1, 2, 3, 4, 5, 0] rfl ?_
      exact hK49 _ _ _ _ _ _ hw
theorem z_X1_makeCells_49 {X : XX} {ad : Nat → Nat} {cs : Nat → ClassId} {post : St → Prop} (C : CxC X ad cs cX1_makeCells RX1 3 66) (hn : xnL X = 7) (hR : rtV X cX1_makeCells (wC ad cs) post) : ∀ (n : Nat) (u : St) (x1 : Int32) (x2 : Int32) (x4 : Int32) (x5 : Int32) (x6 : Int32), wp_X1_makeCells_49 post n u x1 x2 x4 x5 x6 → Z X (wC ad cs u) 49 [(0, .ref (ad 5)), (1, .int x1), (2, .int x2), (4, .int x4), (5, .int x5), (6, .int x6)] []
  | 0, _, _, _, _, _, _, hw => absurd hw (fun h => h)
  | n + 1, u, x1, x2, x4, x5, x6, hw => z_X1_makeCells_49s C hn hR (z_X1_makeCells_49 C hn hR n) u x1 x2 x4 x5 x6 hw
def wp_X1_makeCells (u : St) (x1 : Int32) (x2 : Int32) (post : St → Prop) : Prop :=
  wp_X1_inside u x1 x2 0 (fun (r2 : Int32) (u1 : St) => wp_X4_has u1 x1 r2 (fun (r4 : Int32) (u3 : St) => br (r4 = 0) (post u3) (wp_X4_numberAt u3 r2 (fun (r7 : Int32) (u6 : St) => nm (if 0 < (if 40 < r7 then 40 else r7) then (if 40 < r7 then 40 else r7) else 0) (fun v8 : Int32 => nm (gI u6 18) (fun v9 : Int32 => ∃ n, wp_X1_makeCells_49 post n u6 x1 x2 v8 v9 0))))))
set_option maxHeartbeats 4000000 in
set_option maxRecDepth 20000 in
theorem z_X1_makeCells {X : XX} {ad : Nat → Nat} {cs : Nat → ClassId} {post : St → Prop} (C : CxC X ad cs cX1_makeCells RX1 3 66) (hn : xnL X = 7) (hR : rtV X cX1_makeCells (wC ad cs) post) (u : St) (x1 : Int32) (x2 : Int32) (hw : wp_X1_makeCells u x1 x2 post) : Z X (wC ad cs u) 0 [(0, .ref (ad 5)), (1, .int x1), (2, .int x2)] [] := by
  unfold wp_X1_makeCells at hw
  refine z_aload_n C.1 dX1_makeCells_0 rfl 0 rfl ?_
  refine z_iload_n C.1 dX1_makeCells_1 rfl 1 rfl ?_
  refine z_iload_n C.1 dX1_makeCells_2 rfl 2 rfl ?_
  refine z_iconst (v := 0) C.1 dX1_makeCells_3 (by decide) ?_
  refine k_X1_inside C mM_X1_136 hw (by decide) (Nat.le_of_ble_eq_true rfl) dX1_makeCells_4 (fun r2 u1 hw => ?_)
  refine z_istore_n (lv' := [(3, .int r2), (0, .ref (ad 5)), (1, .int x1), (2, .int x2)]) C.1 dX1_makeCells_7 rfl (by rw [hn]; decide) rfl ?_
  refine z_aload_n C.1 dX1_makeCells_8 rfl 1 rfl ?_
  refine gC_5_slots C mF_X1_12 dX1_makeCells_9 ?_
  refine z_iload_n C.1 dX1_makeCells_12 rfl 2 rfl ?_
  refine z_iload_n C.1 dX1_makeCells_13 rfl 0 rfl ?_
  refine k_X4_has C mM_X1_160 hw (by decide) (Nat.le_of_ble_eq_true rfl) dX1_makeCells_14 (fun r4 u3 hw => ?_)
  refine z_if_ne (tgt := 21) C.1 dX1_makeCells_17 (by decide) (fun c5 => ?_) (fun c5 => ?_)
  · replace hw := hw.2 c5
    refine z_iconst (v := 0) C.1 dX1_makeCells_21 (by decide) ?_
    refine z_aload_n C.1 dX1_makeCells_22 rfl 1 rfl ?_
    refine gC_5_slots C mF_X1_12 dX1_makeCells_23 ?_
    refine z_iload_n C.1 dX1_makeCells_26 rfl 0 rfl ?_
    refine k_X4_numberAt C mM_X1_98 hw (by decide) (Nat.le_of_ble_eq_true rfl) dX1_makeCells_27 (fun r7 u6 hw => ?_)
    refine z_bipush (v := 40) C.1 dX1_makeCells_30 (by decide) ?_
    refine z_mmin C.1 mM_X1_45 ⟨by decide, Nat.le_of_ble_eq_true rfl⟩ dX1_makeCells_32 ?_
    refine z_mmax C.1 mM_X1_164 ⟨by decide, Nat.le_of_ble_eq_true rfl⟩ dX1_makeCells_35 ?_
    refine z_topi (fun v8 ev8 => ?_)
    replace hw := hw v8 ev8
    refine z_istore (lv' := [(4, .int v8), (3, .int r2), (0, .ref (ad 5)), (1, .int x1), (2, .int x2)]) C.1 dX1_makeCells_38 (by rw [hn]; decide) rfl ?_
    refine z_aload_n C.1 dX1_makeCells_40 rfl 2 rfl ?_
    refine gC_5_calls C mF_X1_58 dX1_makeCells_41 ?_
    refine z_topi (fun v9 ev9 => ?_)
    replace hw := hw v9 ev9
    refine z_istore (lv' := [(5, .int v9), (4, .int v8), (3, .int r2), (0, .ref (ad 5)), (1, .int x1), (2, .int x2)]) C.1 dX1_makeCells_44 (by rw [hn]; decide) rfl ?_
    refine z_iconst (v := 0) C.1 dX1_makeCells_46 (by decide) ?_
    refine z_istore (lv' := [(6, .int 0), (5, .int v9), (4, .int v8), (3, .int r2), (0, .ref (ad 5)), (1, .int x1), (2, .int x2)]) C.1 dX1_makeCells_47 (by rw [hn]; decide) rfl ?_
    refine z_lv [4, 5, 6, 2, 1, 0] rfl ?_
    obtain ⟨n, hw⟩ := hw
    exact z_X1_makeCells_49 C hn hR n _ _ _ _ _ _ hw
  · replace hw := hw.1 c5
    exact hR _ _ _ dX1_makeCells_20 hw
theorem c_X1_makeCells {l : Launch} {D : va_G} {A : Nat → Prop} {ad : Nat → Nat} {cs : Nat → ClassId} (hD : ∀ u : St, va_D A (wC ad cs u)) (u : St) (x1 : Int32) (x2 : Int32) (post : St → Prop) (hw : wp_X1_makeCells u x1 x2 post) : MV (ad 90, ad 91) l yX1_makeCells cX1_makeCells 7 none (rmm 3 66) D (tysC cs) A (wC ad cs) u [.ref (ad 5), .int x1, .int x2] post :=
  met_v (by decide) (Nat.le_of_ble_eq_true rfl) (fun X C _ _ ht hA hn hsg hR => z_X1_makeCells ⟨C, ht, fun u => by rw [hA]; exact hD u, hsg⟩ hn hR u x1 x2 hw)
theorem k_X1_makeCells {X : XX} {ad : Nat → Nat} {cs : Nat → ClassId} {cc : ByteArray} {own : String} {fr lo pc : Nat} {lv : List (Nat × Value)} {st : List Value} {u : St} (C : CxC X ad cs cc own fr lo) {idx : Nat} {x1 : Int32} {x2 : Int32} {P : St → Prop} (hlink : Cond.methodLink own idx yX1_makeCells ∈ W0) (hw : wp_X1_makeCells u x1 x2 P) (hr : 3 + 1 ≤ fr ∧ 8 + (7 + 11) + 66 ≤ lo) (hst : (st.map fun v => v.category).sum ≤ 8) (hdg : decode cc pc = .ok (.invokevirtual idx, 3)) (k : ∀ (u2 : St), P u2 → Z X (wC ad cs u2) (pc + 3) lv st) : Z X (wC ad cs u) pc lv (.int x2 :: .int x1 :: .ref (ad 5) :: st) :=
  z_callVv (wf := wC ad cs) (As := [.int x1, .int x2]) (rest := st) C.1 2 (q0 := 5) mI_X1_makeCells mS_X1_makeCells rfl rfl (by rw [C.2.1, C.2.2.2]; exact c_X1_makeCells C.2.2.1 u x1 x2 P hw) mC_X1_makeCells mZ_X1 (by decide +kernel) rfl hlink hr hst hdg k

def wp_X1_fetch_70 (u : St) (x1 : Int32) (x2 : Int32) (x4 : Int32) (y0 : Int32) (post : St → Prop) : Prop :=
  br (y0 = 0) (wp_X4_settle u x1 0 (-1) (fun (u17 : St) => post u17)) (wp_X4_arrayAt u x2 (fun (r19 : Int32) (u18 : St) => wp_X1_rootOf u18 (r19 + x4) (fun (r21 : Int32) (u20 : St) => wp_X4_follow u20 x1 r21 (fun (u22 : St) => post u22))))
set_option maxHeartbeats 4000000 in
set_option maxRecDepth 20000 in
theorem z_X1_fetch_70 {X : XX} {ad : Nat → Nat} {cs : Nat → ClassId} {post : St → Prop} (C : CxC X ad cs cX1_fetch RX1 3 68) (hn : xnL X = 6) (hR : rtV X cX1_fetch (wC ad cs) post) (u : St) (x1 : Int32) (x2 : Int32) (x4 : Int32) (y0 : Int32) (hw : wp_X1_fetch_70 u x1 x2 x4 y0 post) : Z X (wC ad cs u) 70 [(0, .ref (ad 5)), (1, .int x1), (2, .int x2), (4, .int x4)] [.int y0] := by
  unfold wp_X1_fetch_70 at hw
  refine z_istore (lv' := [(5, .int y0), (0, .ref (ad 5)), (1, .int x1), (2, .int x2), (4, .int x4)]) C.1 dX1_fetch_70 (by rw [hn]; decide) rfl ?_
  refine z_iload C.1 dX1_fetch_72 0 rfl ?_
  refine z_if_eq (tgt := 103) C.1 dX1_fetch_74 (by decide) (fun c16 => ?_) (fun c16 => ?_)
  · replace hw := hw.1 c16
    refine z_aload_n C.1 dX1_fetch_103 rfl 1 rfl ?_
    refine gC_5_slots C mF_X1_12 dX1_fetch_104 ?_
    refine z_iload_n C.1 dX1_fetch_107 rfl 2 rfl ?_
    refine z_iconst (v := 0) C.1 dX1_fetch_108 (by decide) ?_
    refine z_iconst (v := (-1)) C.1 dX1_fetch_109 (by decide) ?_
    refine k_X4_settle C mM_X1_129 hw (by decide) (Nat.le_of_ble_eq_true rfl) dX1_fetch_110 (fun u17 hw => ?_)
    exact hR _ _ _ dX1_fetch_113 hw
  · replace hw := hw.2 c16
    refine z_aload_n C.1 dX1_fetch_77 rfl 1 rfl ?_
    refine gC_5_slots C mF_X1_12 dX1_fetch_78 ?_
    refine z_iload_n C.1 dX1_fetch_81 rfl 2 rfl ?_
    refine z_aload_n C.1 dX1_fetch_82 rfl 1 rfl ?_
    refine z_aload_n C.1 dX1_fetch_83 rfl 1 rfl ?_
    refine gC_5_slots C mF_X1_12 dX1_fetch_84 ?_
    refine z_iload_n C.1 dX1_fetch_87 rfl 3 rfl ?_
    refine k_X4_arrayAt C mM_X1_167 hw (by decide) (Nat.le_of_ble_eq_true rfl) dX1_fetch_88 (fun r19 u18 hw => ?_)
    refine z_iload C.1 dX1_fetch_91 4 rfl ?_
    refine z_iadd C.1 dX1_fetch_93 ?_
    refine k_X1_rootOf C mM_X1_90 hw (by decide) (Nat.le_of_ble_eq_true rfl) dX1_fetch_94 (fun r21 u20 hw => ?_)
    refine k_X4_follow C mM_X1_139 hw (by decide) (Nat.le_of_ble_eq_true rfl) dX1_fetch_97 (fun u22 hw => ?_)
    refine z_goto (tgt := 113) C.1 dX1_fetch_100 (by decide) ?_
    exact hR _ _ _ dX1_fetch_113 hw
def wp_X1_fetch_69 (u : St) (x1 : Int32) (x2 : Int32) (x4 : Int32) (post : St → Prop) : Prop :=
  wp_X1_fetch_70 u x1 x2 x4 0 post
set_option maxHeartbeats 4000000 in
set_option maxRecDepth 20000 in
theorem z_X1_fetch_69 {X : XX} {ad : Nat → Nat} {cs : Nat → ClassId} {post : St → Prop} (C : CxC X ad cs cX1_fetch RX1 3 68) (hn : xnL X = 6) (hR : rtV X cX1_fetch (wC ad cs) post) (u : St) (x1 : Int32) (x2 : Int32) (x4 : Int32) (hw : wp_X1_fetch_69 u x1 x2 x4 post) : Z X (wC ad cs u) 69 [(0, .ref (ad 5)), (1, .int x1), (2, .int x2), (4, .int x4)] [] := by
  unfold wp_X1_fetch_69 at hw
  refine z_iconst (v := 0) C.1 dX1_fetch_69 (by decide) ?_
  refine z_lv [0, 1, 2, 3] rfl ?_
  exact z_X1_fetch_70 C hn hR _ _ _ _ _ hw
def wp_X1_fetch (u : St) (x1 : Int32) (x2 : Int32) (x3 : Int32) (post : St → Prop) : Prop :=
  wp_X4_has u x1 x2 (fun (r2 : Int32) (u1 : St) => br (r2 = 0) (post u1) (wp_X4_has u1 x1 x3 (fun (r5 : Int32) (u4 : St) => br (r5 = 0) (post u4) (wp_X4_numberAt u4 x3 (fun (r8 : Int32) (u7 : St) => wp_X4_arrayAt u7 x2 (fun (r10 : Int32) (u9 : St) => br (r10 = (-1)) (wp_X1_fetch_69 u9 x1 x2 r8 post) (br (r8 < 0) (wp_X1_fetch_69 u9 x1 x2 r8 post) (wp_X4_numberAt u9 x2 (fun (r14 : Int32) (u13 : St) => br (r14 ≤ r8) (wp_X1_fetch_69 u13 x1 x2 r8 post) (wp_X1_fetch_70 u13 x1 x2 r8 1 post))))))))))
set_option maxHeartbeats 4000000 in
set_option maxRecDepth 20000 in
theorem z_X1_fetch {X : XX} {ad : Nat → Nat} {cs : Nat → ClassId} {post : St → Prop} (C : CxC X ad cs cX1_fetch RX1 3 68) (hn : xnL X = 6) (hR : rtV X cX1_fetch (wC ad cs) post) (u : St) (x1 : Int32) (x2 : Int32) (x3 : Int32) (hw : wp_X1_fetch u x1 x2 x3 post) : Z X (wC ad cs u) 0 [(0, .ref (ad 5)), (1, .int x1), (2, .int x2), (3, .int x3)] [] := by
  unfold wp_X1_fetch at hw
  refine z_aload_n C.1 dX1_fetch_0 rfl 0 rfl ?_
  refine gC_5_slots C mF_X1_12 dX1_fetch_1 ?_
  refine z_iload_n C.1 dX1_fetch_4 rfl 1 rfl ?_
  refine z_iload_n C.1 dX1_fetch_5 rfl 2 rfl ?_
  refine k_X4_has C mM_X1_160 hw (by decide) (Nat.le_of_ble_eq_true rfl) dX1_fetch_6 (fun r2 u1 hw => ?_)
  refine z_if_eq (tgt := 24) C.1 dX1_fetch_9 (by decide) (fun c3 => ?_) (fun c3 => ?_)
  · replace hw := hw.1 c3
    exact hR _ _ _ dX1_fetch_24 hw
  · replace hw := hw.2 c3
    refine z_aload_n C.1 dX1_fetch_12 rfl 0 rfl ?_
    refine gC_5_slots C mF_X1_12 dX1_fetch_13 ?_
    refine z_iload_n C.1 dX1_fetch_16 rfl 1 rfl ?_
    refine z_iload_n C.1 dX1_fetch_17 rfl 3 rfl ?_
    refine k_X4_has C mM_X1_160 hw (by decide) (Nat.le_of_ble_eq_true rfl) dX1_fetch_18 (fun r5 u4 hw => ?_)
    refine z_if_ne (tgt := 25) C.1 dX1_fetch_21 (by decide) (fun c6 => ?_) (fun c6 => ?_)
    · replace hw := hw.2 c6
      refine z_aload_n C.1 dX1_fetch_25 rfl 0 rfl ?_
      refine gC_5_slots C mF_X1_12 dX1_fetch_26 ?_
      refine z_iload_n C.1 dX1_fetch_29 rfl 3 rfl ?_
      refine k_X4_numberAt C mM_X1_98 hw (by decide) (Nat.le_of_ble_eq_true rfl) dX1_fetch_30 (fun r8 u7 hw => ?_)
      refine z_istore (lv' := [(4, .int r8), (0, .ref (ad 5)), (1, .int x1), (2, .int x2), (3, .int x3)]) C.1 dX1_fetch_33 (by rw [hn]; decide) rfl ?_
      refine z_aload_n C.1 dX1_fetch_35 rfl 1 rfl ?_
      refine gC_5_slots C mF_X1_12 dX1_fetch_36 ?_
      refine z_iload_n C.1 dX1_fetch_39 rfl 3 rfl ?_
      refine k_X4_arrayAt C mM_X1_167 hw (by decide) (Nat.le_of_ble_eq_true rfl) dX1_fetch_40 (fun r10 u9 hw => ?_)
      refine z_iconst (v := (-1)) C.1 dX1_fetch_43 (by decide) ?_
      refine z_icmp_eq (tgt := 69) C.1 dX1_fetch_44 (by decide) (fun c11 => ?_) (fun c11 => ?_)
      · replace hw := hw.1 c11
        refine z_lv [1, 2, 3, 0] rfl ?_
        exact z_X1_fetch_69 C hn hR _ _ _ _ hw
      · replace hw := hw.2 c11
        refine z_iload C.1 dX1_fetch_47 0 rfl ?_
        refine z_if_lt (tgt := 69) C.1 dX1_fetch_49 (by decide) (fun c12 => ?_) (fun c12 => ?_)
        · replace hw := hw.1 c12
          refine z_lv [1, 2, 3, 0] rfl ?_
          exact z_X1_fetch_69 C hn hR _ _ _ _ hw
        · replace hw := hw.2 c12
          refine z_iload C.1 dX1_fetch_52 0 rfl ?_
          refine z_aload_n C.1 dX1_fetch_54 rfl 1 rfl ?_
          refine gC_5_slots C mF_X1_12 dX1_fetch_55 ?_
          refine z_iload_n C.1 dX1_fetch_58 rfl 3 rfl ?_
          refine k_X4_numberAt C mM_X1_98 hw (by decide) (Nat.le_of_ble_eq_true rfl) dX1_fetch_59 (fun r14 u13 hw => ?_)
          refine z_icmp_ge (tgt := 69) C.1 dX1_fetch_62 (by decide) (fun c15 => ?_) (fun c15 => ?_)
          · replace hw := hw.1 c15
            refine z_lv [1, 2, 3, 0] rfl ?_
            exact z_X1_fetch_69 C hn hR _ _ _ _ hw
          · replace hw := hw.2 c15
            refine z_iconst (v := 1) C.1 dX1_fetch_65 (by decide) ?_
            refine z_goto (tgt := 70) C.1 dX1_fetch_66 (by decide) ?_
            refine z_lv [1, 2, 3, 0] rfl ?_
            exact z_X1_fetch_70 C hn hR _ _ _ _ _ hw
    · replace hw := hw.1 c6
      exact hR _ _ _ dX1_fetch_24 hw
theorem c_X1_fetch {l : Launch} {D : va_G} {A : Nat → Prop} {ad : Nat → Nat} {cs : Nat → ClassId} (hD : ∀ u : St, va_D A (wC ad cs u)) (u : St) (x1 : Int32) (x2 : Int32) (x3 : Int32) (post : St → Prop) (hw : wp_X1_fetch u x1 x2 x3 post) : MV (ad 90, ad 91) l yX1_fetch cX1_fetch 6 none (rmm 3 68) D (tysC cs) A (wC ad cs) u [.ref (ad 5), .int x1, .int x2, .int x3] post :=
  met_v (by decide) (Nat.le_of_ble_eq_true rfl) (fun X C _ _ ht hA hn hsg hR => z_X1_fetch ⟨C, ht, fun u => by rw [hA]; exact hD u, hsg⟩ hn hR u x1 x2 x3 hw)
theorem k_X1_fetch {X : XX} {ad : Nat → Nat} {cs : Nat → ClassId} {cc : ByteArray} {own : String} {fr lo pc : Nat} {lv : List (Nat × Value)} {st : List Value} {u : St} (C : CxC X ad cs cc own fr lo) {idx : Nat} {x1 : Int32} {x2 : Int32} {x3 : Int32} {P : St → Prop} (hlink : Cond.methodLink own idx yX1_fetch ∈ W0) (hw : wp_X1_fetch u x1 x2 x3 P) (hr : 3 + 1 ≤ fr ∧ 8 + (6 + 11) + 68 ≤ lo) (hst : (st.map fun v => v.category).sum ≤ 8) (hdg : decode cc pc = .ok (.invokevirtual idx, 3)) (k : ∀ (u2 : St), P u2 → Z X (wC ad cs u2) (pc + 3) lv st) : Z X (wC ad cs u) pc lv (.int x3 :: .int x2 :: .int x1 :: .ref (ad 5) :: st) :=
  z_callVv (wf := wC ad cs) (As := [.int x1, .int x2, .int x3]) (rest := st) C.1 3 (q0 := 5) mI_X1_fetch mS_X1_fetch rfl rfl (by rw [C.2.1, C.2.2.2]; exact c_X1_fetch C.2.2.1 u x1 x2 x3 P hw) mC_X1_fetch mZ_X1 (by decide +kernel) rfl hlink hr hst hdg k

def wp_X1_combined (u : St) (x0 : Int32) (x1 : Int32) (x2 : Int32) (post : Int32 → St → Prop) : Prop :=
  br (x0 = 37) (br (x2 = 0) (post 0 u) ((¬ x2 = 0 ∧ post (x1 - x1 / x2 * x2) u))) (br (x0 = 42) (post (x1 * x2) u) (br (x0 = 43) (post (x1 + x2) u) (br (x0 = 45) (post (x1 - x2) u) (br (x0 = 47) (br (x2 = 0) (post 0 u) ((¬ x2 = 0 ∧ post (x1 / x2) u))) (br (x0 = 60) (br (x2 ≤ x1) (post 0 u) (post 1 u)) (br (x0 = 62) (br (x1 ≤ x2) (post 0 u) (post 1 u)) (br (x1 = x2) (post 1 u) (post 0 u))))))))
set_option maxHeartbeats 4000000 in
set_option maxRecDepth 20000 in
theorem z_X1_combined {X : XX} {ad : Nat → Nat} {cs : Nat → ClassId} {post : Int32 → St → Prop} (C : CxC X ad cs cX1_combined RX1 0 0) (hn : xnL X = 3) (hR : rtI X cX1_combined (wC ad cs) post) (u : St) (x0 : Int32) (x1 : Int32) (x2 : Int32) (hw : wp_X1_combined u x0 x1 x2 post) : Z X (wC ad cs u) 0 [(0, .int x0), (1, .int x1), (2, .int x2)] [] := by
  unfold wp_X1_combined at hw
  refine z_iload_n C.1 dX1_combined_0 rfl 0 rfl ?_
  by_cases c1 : x0 = 37
  · replace hw := hw.1 c1
    refine z_look (tgt := 92) (off := 91) C.1 dX1_combined_1 (by decide) (by rw [c1]; decide) (by decide) ?_
    refine z_iload_n C.1 dX1_combined_92 rfl 2 rfl ?_
    refine z_if_ne (tgt := 100) C.1 dX1_combined_93 (by decide) (fun c2 => ?_) (fun c2 => ?_)
    · replace hw := hw.2 c2
      refine z_iload_n C.1 dX1_combined_100 rfl 1 rfl ?_
      refine z_iload_n C.1 dX1_combined_101 rfl 2 rfl ?_
      refine z_irem C.1 dX1_combined_102 hw.1 ?_
      replace hw := hw.2
      exact hR _ _ _ _ dX1_combined_103 hw
    · replace hw := hw.1 c2
      refine z_iconst (v := 0) C.1 dX1_combined_96 (by decide) ?_
      refine z_goto (tgt := 103) C.1 dX1_combined_97 (by decide) ?_
      exact hR _ _ _ _ dX1_combined_103 hw
  replace hw := hw.2 c1
  by_cases c3 : x0 = 42
  · replace hw := hw.1 c3
    refine z_look (tgt := 76) (off := 75) C.1 dX1_combined_1 (by decide) (by rw [c3]; decide) (by decide) ?_
    refine z_iload_n C.1 dX1_combined_76 rfl 1 rfl ?_
    refine z_iload_n C.1 dX1_combined_77 rfl 2 rfl ?_
    refine z_imul C.1 dX1_combined_78 ?_
    exact hR _ _ _ _ dX1_combined_79 hw
  replace hw := hw.2 c3
  by_cases c4 : x0 = 43
  · replace hw := hw.1 c4
    refine z_look (tgt := 68) (off := 67) C.1 dX1_combined_1 (by decide) (by rw [c4]; decide) (by decide) ?_
    refine z_iload_n C.1 dX1_combined_68 rfl 1 rfl ?_
    refine z_iload_n C.1 dX1_combined_69 rfl 2 rfl ?_
    refine z_iadd C.1 dX1_combined_70 ?_
    exact hR _ _ _ _ dX1_combined_71 hw
  replace hw := hw.2 c4
  by_cases c5 : x0 = 45
  · replace hw := hw.1 c5
    refine z_look (tgt := 72) (off := 71) C.1 dX1_combined_1 (by decide) (by rw [c5]; decide) (by decide) ?_
    refine z_iload_n C.1 dX1_combined_72 rfl 1 rfl ?_
    refine z_iload_n C.1 dX1_combined_73 rfl 2 rfl ?_
    refine z_isub C.1 dX1_combined_74 ?_
    exact hR _ _ _ _ dX1_combined_75 hw
  replace hw := hw.2 c5
  by_cases c6 : x0 = 47
  · replace hw := hw.1 c6
    refine z_look (tgt := 80) (off := 79) C.1 dX1_combined_1 (by decide) (by rw [c6]; decide) (by decide) ?_
    refine z_iload_n C.1 dX1_combined_80 rfl 2 rfl ?_
    refine z_if_ne (tgt := 88) C.1 dX1_combined_81 (by decide) (fun c7 => ?_) (fun c7 => ?_)
    · replace hw := hw.2 c7
      refine z_iload_n C.1 dX1_combined_88 rfl 1 rfl ?_
      refine z_iload_n C.1 dX1_combined_89 rfl 2 rfl ?_
      refine z_idiv C.1 dX1_combined_90 hw.1 ?_
      replace hw := hw.2
      exact hR _ _ _ _ dX1_combined_91 hw
    · replace hw := hw.1 c7
      refine z_iconst (v := 0) C.1 dX1_combined_84 (by decide) ?_
      refine z_goto (tgt := 91) C.1 dX1_combined_85 (by decide) ?_
      exact hR _ _ _ _ dX1_combined_91 hw
  replace hw := hw.2 c6
  by_cases c8 : x0 = 60
  · replace hw := hw.1 c8
    refine z_look (tgt := 104) (off := 103) C.1 dX1_combined_1 (by decide) (by rw [c8]; decide) (by decide) ?_
    refine z_iload_n C.1 dX1_combined_104 rfl 1 rfl ?_
    refine z_iload_n C.1 dX1_combined_105 rfl 2 rfl ?_
    refine z_icmp_ge (tgt := 113) C.1 dX1_combined_106 (by decide) (fun c9 => ?_) (fun c9 => ?_)
    · replace hw := hw.1 c9
      refine z_iconst (v := 0) C.1 dX1_combined_113 (by decide) ?_
      exact hR _ _ _ _ dX1_combined_114 hw
    · replace hw := hw.2 c9
      refine z_iconst (v := 1) C.1 dX1_combined_109 (by decide) ?_
      refine z_goto (tgt := 114) C.1 dX1_combined_110 (by decide) ?_
      exact hR _ _ _ _ dX1_combined_114 hw
  replace hw := hw.2 c8
  by_cases c10 : x0 = 62
  · replace hw := hw.1 c10
    refine z_look (tgt := 115) (off := 114) C.1 dX1_combined_1 (by decide) (by rw [c10]; decide) (by decide) ?_
    refine z_iload_n C.1 dX1_combined_115 rfl 1 rfl ?_
    refine z_iload_n C.1 dX1_combined_116 rfl 2 rfl ?_
    refine z_icmp_le (tgt := 124) C.1 dX1_combined_117 (by decide) (fun c11 => ?_) (fun c11 => ?_)
    · replace hw := hw.1 c11
      refine z_iconst (v := 0) C.1 dX1_combined_124 (by decide) ?_
      exact hR _ _ _ _ dX1_combined_125 hw
    · replace hw := hw.2 c11
      refine z_iconst (v := 1) C.1 dX1_combined_120 (by decide) ?_
      refine z_goto (tgt := 125) C.1 dX1_combined_121 (by decide) ?_
      exact hR _ _ _ _ dX1_combined_125 hw
  replace hw := hw.2 c10
  have hdf : Z X (wC ad cs u) 126 [(0, .int x0), (1, .int x1), (2, .int x2)] [] := by
    refine z_iload_n C.1 dX1_combined_126 rfl 1 rfl ?_
    refine z_iload_n C.1 dX1_combined_127 rfl 2 rfl ?_
    refine z_icmp_ne (tgt := 135) C.1 dX1_combined_128 (by decide) (fun c12 => ?_) (fun c12 => ?_)
    · replace hw := hw.2 c12
      refine z_iconst (v := 0) C.1 dX1_combined_135 (by decide) ?_
      exact hR _ _ _ _ dX1_combined_136 hw
    · replace hw := hw.1 c12
      refine z_iconst (v := 1) C.1 dX1_combined_131 (by decide) ?_
      refine z_goto (tgt := 136) C.1 dX1_combined_132 (by decide) ?_
      exact hR _ _ _ _ dX1_combined_136 hw
  exact z_look (tgt := 126) (off := 125) C.1 dX1_combined_1 (by decide) (by show Op.lookupswitch.offset [(37, 91), (42, 75), (43, 67), (45, 71), (47, 79), (60, 103), (62, 114)] _ _ = _; rw [lv_osw c1 (by decide), lv_osw c3 (by decide), lv_osw c4 (by decide), lv_osw c5 (by decide), lv_osw c6 (by decide), lv_osw c8 (by decide), lv_osw c10 (by decide)]; rfl) (by decide) hdf
theorem c_X1_combined {l : Launch} {D : va_G} {A : Nat → Prop} {ad : Nat → Nat} {cs : Nat → ClassId} (hD : ∀ u : St, va_D A (wC ad cs u)) (u : St) (x0 : Int32) (x1 : Int32) (x2 : Int32) (post : Int32 → St → Prop) (hw : wp_X1_combined u x0 x1 x2 post) : MI (ad 90, ad 91) l yX1_combined cX1_combined 3 (some .int) (rmm 0 0) D (tysC cs) A (wC ad cs) u [.int x0, .int x1, .int x2] post :=
  met_i (by decide) (Nat.le_of_ble_eq_true rfl) (fun X C _ _ ht hA hn hsg hR => z_X1_combined ⟨C, ht, fun u => by rw [hA]; exact hD u, hsg⟩ hn hR u x0 x1 x2 hw)
theorem k_X1_combined {X : XX} {ad : Nat → Nat} {cs : Nat → ClassId} {cc : ByteArray} {own : String} {fr lo pc : Nat} {lv : List (Nat × Value)} {st : List Value} {u : St} (C : CxC X ad cs cc own fr lo) {idx : Nat} {x0 : Int32} {x1 : Int32} {x2 : Int32} {P : Int32 → St → Prop} (hlink : Cond.methodLink own idx yX1_combined ∈ W0) (hw : wp_X1_combined u x0 x1 x2 P) (hr : 0 + 1 ≤ fr ∧ 8 + (3 + 11) + 0 ≤ lo) (hst : (st.map fun v => v.category).sum ≤ 8) (hdg : decode cc pc = .ok (.invokestatic idx, 3)) (k : ∀ (r : Int32) (u2 : St), P r u2 → Z X (wC ad cs u2) (pc + 3) lv (.int r :: st)) : Z X (wC ad cs u) pc lv (.int x2 :: .int x1 :: .int x0 :: st) :=
  z_callSi (wf := wC ad cs) (As := [.int x0, .int x1, .int x2]) (rest := st) C.1 3 mT_X1_combined (by rw [C.2.1, C.2.2.2]; exact c_X1_combined C.2.2.1 u x0 x1 x2 P hw) mC_X1_combined mZ_X1 (by decide +kernel) rfl hlink hr hst hdg k

def wp_X1_combine (u : St) (x1 : Int32) (x2 : Int32) (post : St → Prop) : Prop :=
  wp_X1_inside u x1 x2 0 (fun (r2 : Int32) (u1 : St) => wp_X1_inside u1 x1 x2 1 (fun (r4 : Int32) (u3 : St) => wp_X4_has u3 x1 r2 (fun (r6 : Int32) (u5 : St) => br (r6 = 0) (post u5) (wp_X4_has u5 x1 r4 (fun (r9 : Int32) (u8 : St) => br (r9 = 0) (post u8) (wp_X4_numberAt u8 r2 (fun (r12 : Int32) (u11 : St) => wp_X4_numberAt u11 r4 (fun (r14 : Int32) (u13 : St) => (vp_in x2 720 ∧ wp_X1_combined u13 (gA u13 25 (ix x2)) r12 r14 (fun (r16 : Int32) (u15 : St) => wp_X4_settle u15 x1 r16 (-1) (fun (u17 : St) => post u17)))))))))))
set_option maxHeartbeats 4000000 in
set_option maxRecDepth 20000 in
theorem z_X1_combine {X : XX} {ad : Nat → Nat} {cs : Nat → ClassId} {post : St → Prop} (C : CxC X ad cs cX1_combine RX1 2 46) (hn : xnL X = 7) (hR : rtV X cX1_combine (wC ad cs) post) (u : St) (x1 : Int32) (x2 : Int32) (hw : wp_X1_combine u x1 x2 post) : Z X (wC ad cs u) 0 [(0, .ref (ad 5)), (1, .int x1), (2, .int x2)] [] := by
  unfold wp_X1_combine at hw
  refine z_aload_n C.1 dX1_combine_0 rfl 0 rfl ?_
  refine z_iload_n C.1 dX1_combine_1 rfl 1 rfl ?_
  refine z_iload_n C.1 dX1_combine_2 rfl 2 rfl ?_
  refine z_iconst (v := 0) C.1 dX1_combine_3 (by decide) ?_
  refine k_X1_inside C mM_X1_136 hw (by decide) (Nat.le_of_ble_eq_true rfl) dX1_combine_4 (fun r2 u1 hw => ?_)
  refine z_istore_n (lv' := [(3, .int r2), (0, .ref (ad 5)), (1, .int x1), (2, .int x2)]) C.1 dX1_combine_7 rfl (by rw [hn]; decide) rfl ?_
  refine z_aload_n C.1 dX1_combine_8 rfl 1 rfl ?_
  refine z_iload_n C.1 dX1_combine_9 rfl 2 rfl ?_
  refine z_iload_n C.1 dX1_combine_10 rfl 3 rfl ?_
  refine z_iconst (v := 1) C.1 dX1_combine_11 (by decide) ?_
  refine k_X1_inside C mM_X1_136 hw (by decide) (Nat.le_of_ble_eq_true rfl) dX1_combine_12 (fun r4 u3 hw => ?_)
  refine z_istore (lv' := [(4, .int r4), (3, .int r2), (0, .ref (ad 5)), (1, .int x1), (2, .int x2)]) C.1 dX1_combine_15 (by rw [hn]; decide) rfl ?_
  refine z_aload_n C.1 dX1_combine_17 rfl 2 rfl ?_
  refine gC_5_slots C mF_X1_12 dX1_combine_18 ?_
  refine z_iload_n C.1 dX1_combine_21 rfl 3 rfl ?_
  refine z_iload_n C.1 dX1_combine_22 rfl 1 rfl ?_
  refine k_X4_has C mM_X1_160 hw (by decide) (Nat.le_of_ble_eq_true rfl) dX1_combine_23 (fun r6 u5 hw => ?_)
  refine z_if_eq (tgt := 88) C.1 dX1_combine_26 (by decide) (fun c7 => ?_) (fun c7 => ?_)
  · replace hw := hw.1 c7
    exact hR _ _ _ dX1_combine_88 hw
  · replace hw := hw.2 c7
    refine z_aload_n C.1 dX1_combine_29 rfl 2 rfl ?_
    refine gC_5_slots C mF_X1_12 dX1_combine_30 ?_
    refine z_iload_n C.1 dX1_combine_33 rfl 3 rfl ?_
    refine z_iload C.1 dX1_combine_34 0 rfl ?_
    refine k_X4_has C mM_X1_160 hw (by decide) (Nat.le_of_ble_eq_true rfl) dX1_combine_36 (fun r9 u8 hw => ?_)
    refine z_if_eq (tgt := 88) C.1 dX1_combine_39 (by decide) (fun c10 => ?_) (fun c10 => ?_)
    · replace hw := hw.1 c10
      exact hR _ _ _ dX1_combine_88 hw
    · replace hw := hw.2 c10
      refine z_aload_n C.1 dX1_combine_42 rfl 2 rfl ?_
      refine gC_5_slots C mF_X1_12 dX1_combine_43 ?_
      refine z_iload_n C.1 dX1_combine_46 rfl 1 rfl ?_
      refine k_X4_numberAt C mM_X1_98 hw (by decide) (Nat.le_of_ble_eq_true rfl) dX1_combine_47 (fun r12 u11 hw => ?_)
      refine z_istore (lv' := [(5, .int r12), (4, .int r4), (3, .int r2), (0, .ref (ad 5)), (1, .int x1), (2, .int x2)]) C.1 dX1_combine_50 (by rw [hn]; decide) rfl ?_
      refine z_aload_n C.1 dX1_combine_52 rfl 3 rfl ?_
      refine gC_5_slots C mF_X1_12 dX1_combine_53 ?_
      refine z_iload C.1 dX1_combine_56 1 rfl ?_
      refine k_X4_numberAt C mM_X1_98 hw (by decide) (Nat.le_of_ble_eq_true rfl) dX1_combine_58 (fun r14 u13 hw => ?_)
      refine z_istore (lv' := [(6, .int r14), (5, .int r12), (4, .int r4), (3, .int r2), (0, .ref (ad 5)), (1, .int x1), (2, .int x2)]) C.1 dX1_combine_61 (by rw [hn]; decide) rfl ?_
      refine z_aload_n C.1 dX1_combine_63 rfl 4 rfl ?_
      refine gC_5_slots C mF_X1_12 dX1_combine_64 ?_
      refine z_iload_n C.1 dX1_combine_67 rfl 5 rfl ?_
      refine z_aload_n C.1 dX1_combine_68 rfl 4 rfl ?_
      refine gC_5_program C mF_X1_34 dX1_combine_69 ?_
      refine gC_4_kind C mF_X1_123 dX1_combine_72 ?_
      refine z_iload_n C.1 dX1_combine_75 rfl 6 rfl ?_
      refine lC_25 C hw.1 dX1_combine_76 ?_
      replace hw := hw.2
      refine z_iload C.1 dX1_combine_77 1 rfl ?_
      refine z_iload C.1 dX1_combine_79 0 rfl ?_
      refine k_X1_combined C mM_X1_170 hw (by decide) (Nat.le_of_ble_eq_true rfl) dX1_combine_81 (fun r16 u15 hw => ?_)
      refine z_iconst (v := (-1)) C.1 dX1_combine_84 (by decide) ?_
      refine k_X4_settle C mM_X1_129 hw (by decide) (Nat.le_of_ble_eq_true rfl) dX1_combine_85 (fun u17 hw => ?_)
      exact hR _ _ _ dX1_combine_88 hw
theorem c_X1_combine {l : Launch} {D : va_G} {A : Nat → Prop} {ad : Nat → Nat} {cs : Nat → ClassId} (hD : ∀ u : St, va_D A (wC ad cs u)) (u : St) (x1 : Int32) (x2 : Int32) (post : St → Prop) (hw : wp_X1_combine u x1 x2 post) : MV (ad 90, ad 91) l yX1_combine cX1_combine 7 none (rmm 2 46) D (tysC cs) A (wC ad cs) u [.ref (ad 5), .int x1, .int x2] post :=
  met_v (by decide) (Nat.le_of_ble_eq_true rfl) (fun X C _ _ ht hA hn hsg hR => z_X1_combine ⟨C, ht, fun u => by rw [hA]; exact hD u, hsg⟩ hn hR u x1 x2 hw)
theorem k_X1_combine {X : XX} {ad : Nat → Nat} {cs : Nat → ClassId} {cc : ByteArray} {own : String} {fr lo pc : Nat} {lv : List (Nat × Value)} {st : List Value} {u : St} (C : CxC X ad cs cc own fr lo) {idx : Nat} {x1 : Int32} {x2 : Int32} {P : St → Prop} (hlink : Cond.methodLink own idx yX1_combine ∈ W0) (hw : wp_X1_combine u x1 x2 P) (hr : 2 + 1 ≤ fr ∧ 8 + (7 + 11) + 46 ≤ lo) (hst : (st.map fun v => v.category).sum ≤ 8) (hdg : decode cc pc = .ok (.invokevirtual idx, 3)) (k : ∀ (u2 : St), P u2 → Z X (wC ad cs u2) (pc + 3) lv st) : Z X (wC ad cs u) pc lv (.int x2 :: .int x1 :: .ref (ad 5) :: st) :=
  z_callVv (wf := wC ad cs) (As := [.int x1, .int x2]) (rest := st) C.1 2 (q0 := 5) mI_X1_combine mS_X1_combine rfl rfl (by rw [C.2.1, C.2.2.2]; exact c_X1_combine C.2.2.1 u x1 x2 P hw) mC_X1_combine mZ_X1 (by decide +kernel) rfl hlink hr hst hdg k

def wp_X1_lookAt_23 (u : St) (x1 : Int32) (x2 : Int32) (post : St → Prop) : Prop :=
  br ((gI u 17) = 0) ((vp_in x2 720 ∧ br ((gA u 25 (ix x2)) = 1) ((vp_in x2 720 ∧ wp_X4_settle u x1 (gA u 26 (ix x2)) (-1) (fun (u9 : St) => post u9))) (br ((gA u 25 (ix x2)) = 2) ((vp_in x2 720 ∧ wp_X1_workOutArgument u x1 (gA u 26 (ix x2)) (fun (u11 : St) => post u11))) (br ((gA u 25 (ix x2)) = 3) ((vp_in x2 720 ∧ wp_X1_inside u x1 (gA u 26 (ix x2)) 0 (fun (r14 : Int32) (u13 : St) => wp_X4_follow u13 x1 r14 (fun (u15 : St) => post u15)))) (br ((gA u 25 (ix x2)) = 4) (wp_X1_inside u x1 x2 0 (fun (r18 : Int32) (u17 : St) => wp_X1_negate u17 x1 r18 (fun (u19 : St) => post u19))) (br ((gA u 25 (ix x2)) = 5) (wp_X1_choose u x1 x2 (fun (u21 : St) => post u21)) (br ((gA u 25 (ix x2)) = 6) (wp_X1_inside u x1 x2 1 (fun (r24 : Int32) (u23 : St) => wp_X4_follow u23 x1 r24 (fun (u25 : St) => post u25))) (br ((gA u 25 (ix x2)) = 7) ((vp_in x1 18000 ∧ wp_X1_rootOf u (gA u 29 (ix x1)) (fun (r28 : Int32) (u27 : St) => wp_X4_follow u27 x1 r28 (fun (u29 : St) => post u29)))) (br ((gA u 25 (ix x2)) = 8) (wp_X1_makeCells u x1 x2 (fun (u31 : St) => post u31)) (br ((gA u 25 (ix x2)) = 9) (wp_X1_inside u x1 x2 0 (fun (r34 : Int32) (u33 : St) => wp_X1_inside u33 x1 x2 1 (fun (r36 : Int32) (u35 : St) => wp_X1_fetch u35 x1 r34 r36 (fun (u37 : St) => post u37)))) (wp_X1_combine u x1 x2 (fun (u38 : St) => post u38)))))))))))) (post u)
set_option maxHeartbeats 4000000 in
set_option maxRecDepth 20000 in
theorem z_X1_lookAt_23 {X : XX} {ad : Nat → Nat} {cs : Nat → ClassId} {post : St → Prop} (C : CxC X ad cs cX1_lookAt RX1 4 93) (hn : xnL X = 3) (hR : rtV X cX1_lookAt (wC ad cs) post) (u : St) (x1 : Int32) (x2 : Int32) (hw : wp_X1_lookAt_23 u x1 x2 post) : Z X (wC ad cs u) 23 [(0, .ref (ad 5)), (1, .int x1), (2, .int x2)] [] := by
  unfold wp_X1_lookAt_23 at hw
  refine z_aload_n C.1 dX1_lookAt_23 rfl 0 rfl ?_
  refine gC_5_tooMany C mF_X1_54 dX1_lookAt_24 ?_
  refine z_if_eq (tgt := 31) C.1 dX1_lookAt_27 (by decide) (fun c7 => ?_) (fun c7 => ?_)
  · replace hw := hw.1 c7
    refine z_aload_n C.1 dX1_lookAt_31 rfl 0 rfl ?_
    refine gC_5_program C mF_X1_34 dX1_lookAt_32 ?_
    refine gC_4_kind C mF_X1_123 dX1_lookAt_35 ?_
    refine z_iload_n C.1 dX1_lookAt_38 rfl 2 rfl ?_
    refine lC_25 C hw.1 dX1_lookAt_39 ?_
    replace hw := hw.2
    by_cases c8 : (gA u 25 (ix x2)) = 1
    · replace hw := hw.1 c8
      refine z_tabIn (tgt := 92) (off := 52) C.1 c8 dX1_lookAt_40 (by decide) (by decide) (by decide) (by decide) ?_
      refine z_aload_n C.1 dX1_lookAt_92 rfl 0 rfl ?_
      refine gC_5_slots C mF_X1_12 dX1_lookAt_93 ?_
      refine z_iload_n C.1 dX1_lookAt_96 rfl 1 rfl ?_
      refine z_aload_n C.1 dX1_lookAt_97 rfl 0 rfl ?_
      refine gC_5_program C mF_X1_34 dX1_lookAt_98 ?_
      refine gC_4_number C mF_X1_126 dX1_lookAt_101 ?_
      refine z_iload_n C.1 dX1_lookAt_104 rfl 2 rfl ?_
      refine lC_26 C hw.1 dX1_lookAt_105 ?_
      replace hw := hw.2
      refine z_iconst (v := (-1)) C.1 dX1_lookAt_106 (by decide) ?_
      refine k_X4_settle C mM_X1_129 hw (by decide) (Nat.le_of_ble_eq_true rfl) dX1_lookAt_107 (fun u9 hw => ?_)
      refine z_goto (tgt := 256) C.1 dX1_lookAt_110 (by decide) ?_
      exact hR _ _ _ dX1_lookAt_256 hw
    replace hw := hw.2 c8
    by_cases c10 : (gA u 25 (ix x2)) = 2
    · replace hw := hw.1 c10
      refine z_tabIn (tgt := 113) (off := 73) C.1 c10 dX1_lookAt_40 (by decide) (by decide) (by decide) (by decide) ?_
      refine z_aload_n C.1 dX1_lookAt_113 rfl 0 rfl ?_
      refine z_iload_n C.1 dX1_lookAt_114 rfl 1 rfl ?_
      refine z_aload_n C.1 dX1_lookAt_115 rfl 0 rfl ?_
      refine gC_5_program C mF_X1_34 dX1_lookAt_116 ?_
      refine gC_4_number C mF_X1_126 dX1_lookAt_119 ?_
      refine z_iload_n C.1 dX1_lookAt_122 rfl 2 rfl ?_
      refine lC_26 C hw.1 dX1_lookAt_123 ?_
      replace hw := hw.2
      refine k_X1_workOutArgument C mM_X1_133 hw (by decide) (Nat.le_of_ble_eq_true rfl) dX1_lookAt_124 (fun u11 hw => ?_)
      refine z_goto (tgt := 256) C.1 dX1_lookAt_127 (by decide) ?_
      exact hR _ _ _ dX1_lookAt_256 hw
    replace hw := hw.2 c10
    by_cases c12 : (gA u 25 (ix x2)) = 3
    · replace hw := hw.1 c12
      refine z_tabIn (tgt := 130) (off := 90) C.1 c12 dX1_lookAt_40 (by decide) (by decide) (by decide) (by decide) ?_
      refine z_aload_n C.1 dX1_lookAt_130 rfl 0 rfl ?_
      refine gC_5_slots C mF_X1_12 dX1_lookAt_131 ?_
      refine z_iload_n C.1 dX1_lookAt_134 rfl 1 rfl ?_
      refine z_aload_n C.1 dX1_lookAt_135 rfl 0 rfl ?_
      refine z_iload_n C.1 dX1_lookAt_136 rfl 1 rfl ?_
      refine z_aload_n C.1 dX1_lookAt_137 rfl 0 rfl ?_
      refine gC_5_program C mF_X1_34 dX1_lookAt_138 ?_
      refine gC_4_number C mF_X1_126 dX1_lookAt_141 ?_
      refine z_iload_n C.1 dX1_lookAt_144 rfl 2 rfl ?_
      refine lC_26 C hw.1 dX1_lookAt_145 ?_
      replace hw := hw.2
      refine z_iconst (v := 0) C.1 dX1_lookAt_146 (by decide) ?_
      refine k_X1_inside C mM_X1_136 hw (by decide) (Nat.le_of_ble_eq_true rfl) dX1_lookAt_147 (fun r14 u13 hw => ?_)
      refine k_X4_follow C mM_X1_139 hw (by decide) (Nat.le_of_ble_eq_true rfl) dX1_lookAt_150 (fun u15 hw => ?_)
      refine z_goto (tgt := 256) C.1 dX1_lookAt_153 (by decide) ?_
      exact hR _ _ _ dX1_lookAt_256 hw
    replace hw := hw.2 c12
    by_cases c16 : (gA u 25 (ix x2)) = 4
    · replace hw := hw.1 c16
      refine z_tabIn (tgt := 156) (off := 116) C.1 c16 dX1_lookAt_40 (by decide) (by decide) (by decide) (by decide) ?_
      refine z_aload_n C.1 dX1_lookAt_156 rfl 0 rfl ?_
      refine z_iload_n C.1 dX1_lookAt_157 rfl 1 rfl ?_
      refine z_aload_n C.1 dX1_lookAt_158 rfl 0 rfl ?_
      refine z_iload_n C.1 dX1_lookAt_159 rfl 1 rfl ?_
      refine z_iload_n C.1 dX1_lookAt_160 rfl 2 rfl ?_
      refine z_iconst (v := 0) C.1 dX1_lookAt_161 (by decide) ?_
      refine k_X1_inside C mM_X1_136 hw (by decide) (Nat.le_of_ble_eq_true rfl) dX1_lookAt_162 (fun r18 u17 hw => ?_)
      refine k_X1_negate C mM_X1_142 hw (by decide) (Nat.le_of_ble_eq_true rfl) dX1_lookAt_165 (fun u19 hw => ?_)
      refine z_goto (tgt := 256) C.1 dX1_lookAt_168 (by decide) ?_
      exact hR _ _ _ dX1_lookAt_256 hw
    replace hw := hw.2 c16
    by_cases c20 : (gA u 25 (ix x2)) = 5
    · replace hw := hw.1 c20
      refine z_tabIn (tgt := 171) (off := 131) C.1 c20 dX1_lookAt_40 (by decide) (by decide) (by decide) (by decide) ?_
      refine z_aload_n C.1 dX1_lookAt_171 rfl 0 rfl ?_
      refine z_iload_n C.1 dX1_lookAt_172 rfl 1 rfl ?_
      refine z_iload_n C.1 dX1_lookAt_173 rfl 2 rfl ?_
      refine k_X1_choose C mM_X1_145 hw (by decide) (Nat.le_of_ble_eq_true rfl) dX1_lookAt_174 (fun u21 hw => ?_)
      refine z_goto (tgt := 256) C.1 dX1_lookAt_177 (by decide) ?_
      exact hR _ _ _ dX1_lookAt_256 hw
    replace hw := hw.2 c20
    by_cases c22 : (gA u 25 (ix x2)) = 6
    · replace hw := hw.1 c22
      refine z_tabIn (tgt := 180) (off := 140) C.1 c22 dX1_lookAt_40 (by decide) (by decide) (by decide) (by decide) ?_
      refine z_aload_n C.1 dX1_lookAt_180 rfl 0 rfl ?_
      refine gC_5_slots C mF_X1_12 dX1_lookAt_181 ?_
      refine z_iload_n C.1 dX1_lookAt_184 rfl 1 rfl ?_
      refine z_aload_n C.1 dX1_lookAt_185 rfl 0 rfl ?_
      refine z_iload_n C.1 dX1_lookAt_186 rfl 1 rfl ?_
      refine z_iload_n C.1 dX1_lookAt_187 rfl 2 rfl ?_
      refine z_iconst (v := 1) C.1 dX1_lookAt_188 (by decide) ?_
      refine k_X1_inside C mM_X1_136 hw (by decide) (Nat.le_of_ble_eq_true rfl) dX1_lookAt_189 (fun r24 u23 hw => ?_)
      refine k_X4_follow C mM_X1_139 hw (by decide) (Nat.le_of_ble_eq_true rfl) dX1_lookAt_192 (fun u25 hw => ?_)
      refine z_goto (tgt := 256) C.1 dX1_lookAt_195 (by decide) ?_
      exact hR _ _ _ dX1_lookAt_256 hw
    replace hw := hw.2 c22
    by_cases c26 : (gA u 25 (ix x2)) = 7
    · replace hw := hw.1 c26
      refine z_tabIn (tgt := 198) (off := 158) C.1 c26 dX1_lookAt_40 (by decide) (by decide) (by decide) (by decide) ?_
      refine z_aload_n C.1 dX1_lookAt_198 rfl 0 rfl ?_
      refine gC_5_slots C mF_X1_12 dX1_lookAt_199 ?_
      refine z_iload_n C.1 dX1_lookAt_202 rfl 1 rfl ?_
      refine z_aload_n C.1 dX1_lookAt_203 rfl 0 rfl ?_
      refine z_aload_n C.1 dX1_lookAt_204 rfl 0 rfl ?_
      refine gC_5_made C mF_X1_18 dX1_lookAt_205 ?_
      refine z_iload_n C.1 dX1_lookAt_208 rfl 1 rfl ?_
      refine lC_29 C hw.1 dX1_lookAt_209 ?_
      replace hw := hw.2
      refine k_X1_rootOf C mM_X1_90 hw (by decide) (Nat.le_of_ble_eq_true rfl) dX1_lookAt_210 (fun r28 u27 hw => ?_)
      refine k_X4_follow C mM_X1_139 hw (by decide) (Nat.le_of_ble_eq_true rfl) dX1_lookAt_213 (fun u29 hw => ?_)
      refine z_goto (tgt := 256) C.1 dX1_lookAt_216 (by decide) ?_
      exact hR _ _ _ dX1_lookAt_256 hw
    replace hw := hw.2 c26
    by_cases c30 : (gA u 25 (ix x2)) = 8
    · replace hw := hw.1 c30
      refine z_tabIn (tgt := 219) (off := 179) C.1 c30 dX1_lookAt_40 (by decide) (by decide) (by decide) (by decide) ?_
      refine z_aload_n C.1 dX1_lookAt_219 rfl 0 rfl ?_
      refine z_iload_n C.1 dX1_lookAt_220 rfl 1 rfl ?_
      refine z_iload_n C.1 dX1_lookAt_221 rfl 2 rfl ?_
      refine k_X1_makeCells C mM_X1_148 hw (by decide) (Nat.le_of_ble_eq_true rfl) dX1_lookAt_222 (fun u31 hw => ?_)
      refine z_goto (tgt := 256) C.1 dX1_lookAt_225 (by decide) ?_
      exact hR _ _ _ dX1_lookAt_256 hw
    replace hw := hw.2 c30
    by_cases c32 : (gA u 25 (ix x2)) = 9
    · replace hw := hw.1 c32
      refine z_tabIn (tgt := 228) (off := 188) C.1 c32 dX1_lookAt_40 (by decide) (by decide) (by decide) (by decide) ?_
      refine z_aload_n C.1 dX1_lookAt_228 rfl 0 rfl ?_
      refine z_iload_n C.1 dX1_lookAt_229 rfl 1 rfl ?_
      refine z_aload_n C.1 dX1_lookAt_230 rfl 0 rfl ?_
      refine z_iload_n C.1 dX1_lookAt_231 rfl 1 rfl ?_
      refine z_iload_n C.1 dX1_lookAt_232 rfl 2 rfl ?_
      refine z_iconst (v := 0) C.1 dX1_lookAt_233 (by decide) ?_
      refine k_X1_inside C mM_X1_136 hw (by decide) (Nat.le_of_ble_eq_true rfl) dX1_lookAt_234 (fun r34 u33 hw => ?_)
      refine z_aload_n C.1 dX1_lookAt_237 rfl 0 rfl ?_
      refine z_iload_n C.1 dX1_lookAt_238 rfl 1 rfl ?_
      refine z_iload_n C.1 dX1_lookAt_239 rfl 2 rfl ?_
      refine z_iconst (v := 1) C.1 dX1_lookAt_240 (by decide) ?_
      refine k_X1_inside C mM_X1_136 hw (by decide) (Nat.le_of_ble_eq_true rfl) dX1_lookAt_241 (fun r36 u35 hw => ?_)
      refine k_X1_fetch C mM_X1_151 hw (by decide) (Nat.le_of_ble_eq_true rfl) dX1_lookAt_244 (fun u37 hw => ?_)
      refine z_goto (tgt := 256) C.1 dX1_lookAt_247 (by decide) ?_
      exact hR _ _ _ dX1_lookAt_256 hw
    replace hw := hw.2 c32
    have hdf : Z X (wC ad cs u) 250 [(0, .ref (ad 5)), (1, .int x1), (2, .int x2)] [] := by
      refine z_aload_n C.1 dX1_lookAt_250 rfl 0 rfl ?_
      refine z_iload_n C.1 dX1_lookAt_251 rfl 1 rfl ?_
      refine z_iload_n C.1 dX1_lookAt_252 rfl 2 rfl ?_
      refine k_X1_combine C mM_X1_154 hw (by decide) (Nat.le_of_ble_eq_true rfl) dX1_lookAt_253 (fun u38 hw => ?_)
      exact hR _ _ _ dX1_lookAt_256 hw
    replace c8 := lv_neT c8 (a := 1) (by decide)
    replace c10 := lv_neT c10 (a := 2) (by decide)
    replace c12 := lv_neT c12 (a := 3) (by decide)
    replace c16 := lv_neT c16 (a := 4) (by decide)
    replace c20 := lv_neT c20 (a := 5) (by decide)
    replace c22 := lv_neT c22 (a := 6) (by decide)
    replace c26 := lv_neT c26 (a := 7) (by decide)
    replace c30 := lv_neT c30 (a := 8) (by decide)
    replace c32 := lv_neT c32 (a := 9) (by decide)
    exact z_tabOut (tgt := 250) C.1 dX1_lookAt_40 (by omega) (by decide) hdf
  · replace hw := hw.2 c7
    exact hR _ _ _ dX1_lookAt_30 hw
def wp_X1_lookAt (u : St) (x1 : Int32) (post : St → Prop) : Prop :=
  wp_X1_partOf u x1 (fun (r2 : Int32) (u1 : St) => wp_X4_see u1 x1 (fun (r4 : Int32) (u3 : St) => br (r4 = 0) (wp_X1_lookAt_23 u3 x1 r2 post) (wp_X1_reachInside u3 x1 r2 (fun (u6 : St) => wp_X1_lookAt_23 u6 x1 r2 post))))
set_option maxHeartbeats 4000000 in
set_option maxRecDepth 20000 in
theorem z_X1_lookAt {X : XX} {ad : Nat → Nat} {cs : Nat → ClassId} {post : St → Prop} (C : CxC X ad cs cX1_lookAt RX1 4 93) (hn : xnL X = 3) (hR : rtV X cX1_lookAt (wC ad cs) post) (u : St) (x1 : Int32) (hw : wp_X1_lookAt u x1 post) : Z X (wC ad cs u) 0 [(0, .ref (ad 5)), (1, .int x1)] [] := by
  unfold wp_X1_lookAt at hw
  refine z_aload_n C.1 dX1_lookAt_0 rfl 0 rfl ?_
  refine z_iload_n C.1 dX1_lookAt_1 rfl 1 rfl ?_
  refine k_X1_partOf C mM_X1_114 hw (by decide) (Nat.le_of_ble_eq_true rfl) dX1_lookAt_2 (fun r2 u1 hw => ?_)
  refine z_istore_n (lv' := [(2, .int r2), (0, .ref (ad 5)), (1, .int x1)]) C.1 dX1_lookAt_5 rfl (by rw [hn]; decide) rfl ?_
  refine z_aload_n C.1 dX1_lookAt_6 rfl 1 rfl ?_
  refine gC_5_slots C mF_X1_12 dX1_lookAt_7 ?_
  refine z_iload_n C.1 dX1_lookAt_10 rfl 2 rfl ?_
  refine k_X4_see C mM_X1_117 hw (by decide) (Nat.le_of_ble_eq_true rfl) dX1_lookAt_11 (fun r4 u3 hw => ?_)
  refine z_if_eq (tgt := 23) C.1 dX1_lookAt_14 (by decide) (fun c5 => ?_) (fun c5 => ?_)
  · replace hw := hw.1 c5
    refine z_lv [1, 2, 0] rfl ?_
    exact z_X1_lookAt_23 C hn hR _ _ _ hw
  · replace hw := hw.2 c5
    refine z_aload_n C.1 dX1_lookAt_17 rfl 1 rfl ?_
    refine z_iload_n C.1 dX1_lookAt_18 rfl 2 rfl ?_
    refine z_iload_n C.1 dX1_lookAt_19 rfl 0 rfl ?_
    refine k_X1_reachInside C mM_X1_120 hw (by decide) (Nat.le_of_ble_eq_true rfl) dX1_lookAt_20 (fun u6 hw => ?_)
    refine z_lv [1, 2, 0] rfl ?_
    exact z_X1_lookAt_23 C hn hR _ _ _ hw
theorem c_X1_lookAt {l : Launch} {D : va_G} {A : Nat → Prop} {ad : Nat → Nat} {cs : Nat → ClassId} (hD : ∀ u : St, va_D A (wC ad cs u)) (u : St) (x1 : Int32) (post : St → Prop) (hw : wp_X1_lookAt u x1 post) : MV (ad 90, ad 91) l yX1_lookAt cX1_lookAt 3 none (rmm 4 93) D (tysC cs) A (wC ad cs) u [.ref (ad 5), .int x1] post :=
  met_v (by decide) (Nat.le_of_ble_eq_true rfl) (fun X C _ _ ht hA hn hsg hR => z_X1_lookAt ⟨C, ht, fun u => by rw [hA]; exact hD u, hsg⟩ hn hR u x1 hw)
theorem k_X1_lookAt {X : XX} {ad : Nat → Nat} {cs : Nat → ClassId} {cc : ByteArray} {own : String} {fr lo pc : Nat} {lv : List (Nat × Value)} {st : List Value} {u : St} (C : CxC X ad cs cc own fr lo) {idx : Nat} {x1 : Int32} {P : St → Prop} (hlink : Cond.methodLink own idx yX1_lookAt ∈ W0) (hw : wp_X1_lookAt u x1 P) (hr : 4 + 1 ≤ fr ∧ 8 + (3 + 11) + 93 ≤ lo) (hst : (st.map fun v => v.category).sum ≤ 8) (hdg : decode cc pc = .ok (.invokevirtual idx, 3)) (k : ∀ (u2 : St), P u2 → Z X (wC ad cs u2) (pc + 3) lv st) : Z X (wC ad cs u) pc lv (.int x1 :: .ref (ad 5) :: st) :=
  z_callVv (wf := wC ad cs) (As := [.int x1]) (rest := st) C.1 1 (q0 := 5) mI_X1_lookAt mS_X1_lookAt rfl rfl (by rw [C.2.1, C.2.2.2]; exact c_X1_lookAt C.2.2.1 u x1 P hw) mC_X1_lookAt mZ_X1 (by decide +kernel) rfl hlink hr hst hdg k

def wp_X1_workOutAll_56 (u : St) (post : Int32 → St → Prop) : Prop :=
  br ((gI u 17) = 0) (wp_X1_rootOf u 0 (fun (r14 : Int32) (u13 : St) => wp_X4_isKnown u13 r14 (fun (r16 : Int32) (u15 : St) => br (r16 = 0) (post 1 u15) (post 0 u15)))) (post 2 u)
set_option maxHeartbeats 4000000 in
set_option maxRecDepth 20000 in
theorem z_X1_workOutAll_56 {X : XX} {ad : Nat → Nat} {cs : Nat → ClassId} {post : Int32 → St → Prop} (C : CxC X ad cs cX1_workOutAll RX1 5 115) (hn : xnL X = 2) (hR : rtI X cX1_workOutAll (wC ad cs) post) (u : St) (hw : wp_X1_workOutAll_56 u post) : Z X (wC ad cs u) 56 [(0, .ref (ad 5))] [] := by
  unfold wp_X1_workOutAll_56 at hw
  refine z_aload_n C.1 dX1_workOutAll_56 rfl 0 rfl ?_
  refine gC_5_tooMany C mF_X1_54 dX1_workOutAll_57 ?_
  refine z_if_eq (tgt := 65) C.1 dX1_workOutAll_60 (by decide) (fun c12 => ?_) (fun c12 => ?_)
  · replace hw := hw.1 c12
    refine z_aload_n C.1 dX1_workOutAll_65 rfl 0 rfl ?_
    refine gC_5_slots C mF_X1_12 dX1_workOutAll_66 ?_
    refine z_aload_n C.1 dX1_workOutAll_69 rfl 0 rfl ?_
    refine z_iconst (v := 0) C.1 dX1_workOutAll_70 (by decide) ?_
    refine k_X1_rootOf C mM_X1_90 hw (by decide) (Nat.le_of_ble_eq_true rfl) dX1_workOutAll_71 (fun r14 u13 hw => ?_)
    refine k_X4_isKnown C mM_X1_94 hw (by decide) (Nat.le_of_ble_eq_true rfl) dX1_workOutAll_74 (fun r16 u15 hw => ?_)
    refine z_if_eq (tgt := 84) C.1 dX1_workOutAll_77 (by decide) (fun c17 => ?_) (fun c17 => ?_)
    · replace hw := hw.1 c17
      refine z_iconst (v := 1) C.1 dX1_workOutAll_84 (by decide) ?_
      exact hR _ _ _ _ dX1_workOutAll_85 hw
    · replace hw := hw.2 c17
      refine z_iconst (v := 0) C.1 dX1_workOutAll_80 (by decide) ?_
      refine z_goto (tgt := 85) C.1 dX1_workOutAll_81 (by decide) ?_
      exact hR _ _ _ _ dX1_workOutAll_85 hw
  · replace hw := hw.2 c12
    refine z_iconst (v := 2) C.1 dX1_workOutAll_63 (by decide) ?_
    exact hR _ _ _ _ dX1_workOutAll_64 hw
def wp_X1_workOutAll_10s (K10 : St → Int32 → Prop) (u : St) (x1 : Int32) (post : Int32 → St → Prop) : Prop :=
  br (1000000 ≤ x1) (wp_X1_workOutAll_56 u post) (br ((gI u 17) = 0) (wp_X0_isEmpty u (fun (r6 : Int32) (u5 : St) => br (r6 = 0) (wp_X0_take u5 (fun (r9 : Int32) (u8 : St) => wp_X1_lookAt u8 r9 (fun (u10 : St) => nm (x1 + 1) (fun v11 : Int32 => K10 u10 v11)))) (wp_X1_workOutAll_56 u5 post))) (wp_X1_workOutAll_56 u post))
def wp_X1_workOutAll_10 (post : Int32 → St → Prop) : Nat → St → Int32 → Prop
  | 0 => fun _ _ => False
  | n + 1 => fun u x1 => wp_X1_workOutAll_10s (wp_X1_workOutAll_10 post n) u x1 post
set_option maxHeartbeats 4000000 in
set_option maxRecDepth 20000 in
theorem z_X1_workOutAll_10s {X : XX} {ad : Nat → Nat} {cs : Nat → ClassId} {post : Int32 → St → Prop} (C : CxC X ad cs cX1_workOutAll RX1 5 115) (hn : xnL X = 2) (hR : rtI X cX1_workOutAll (wC ad cs) post) {K10 : St → Int32 → Prop} (hK10 : ∀ (u : St) (x1 : Int32), K10 u x1 → Z X (wC ad cs u) 10 [(0, .ref (ad 5)), (1, .int x1)] []) (u : St) (x1 : Int32) (hw : wp_X1_workOutAll_10s K10 u x1 post) : Z X (wC ad cs u) 10 [(0, .ref (ad 5)), (1, .int x1)] [] := by
  unfold wp_X1_workOutAll_10s at hw
  refine z_iload_n C.1 dX1_workOutAll_10 rfl 1 rfl ?_
  refine z_ldc C.1 mK_X1_72 dX1_workOutAll_11 ?_
  refine z_icmp_ge (tgt := 56) C.1 dX1_workOutAll_13 (by decide) (fun c3 => ?_) (fun c3 => ?_)
  · replace hw := hw.1 c3
    refine z_lv [0] rfl ?_
    exact z_X1_workOutAll_56 C hn hR _ hw
  · replace hw := hw.2 c3
    refine z_aload_n C.1 dX1_workOutAll_16 rfl 0 rfl ?_
    refine gC_5_tooMany C mF_X1_54 dX1_workOutAll_17 ?_
    refine z_if_ne (tgt := 56) C.1 dX1_workOutAll_20 (by decide) (fun c4 => ?_) (fun c4 => ?_)
    · replace hw := hw.2 c4
      refine z_lv [0] rfl ?_
      exact z_X1_workOutAll_56 C hn hR _ hw
    · replace hw := hw.1 c4
      refine z_aload_n C.1 dX1_workOutAll_23 rfl 0 rfl ?_
      refine gC_5_slots C mF_X1_12 dX1_workOutAll_24 ?_
      refine gC_6_bag C mF_X1_73 dX1_workOutAll_27 ?_
      refine k_X0_isEmpty C mM_X1_77 hw (by decide) (Nat.le_of_ble_eq_true rfl) dX1_workOutAll_30 (fun r6 u5 hw => ?_)
      refine z_if_ne (tgt := 56) C.1 dX1_workOutAll_33 (by decide) (fun c7 => ?_) (fun c7 => ?_)
      · replace hw := hw.2 c7
        refine z_lv [0] rfl ?_
        exact z_X1_workOutAll_56 C hn hR _ hw
      · replace hw := hw.1 c7
        refine z_aload_n C.1 dX1_workOutAll_36 rfl 0 rfl ?_
        refine z_aload_n C.1 dX1_workOutAll_37 rfl 0 rfl ?_
        refine gC_5_slots C mF_X1_12 dX1_workOutAll_38 ?_
        refine gC_6_bag C mF_X1_73 dX1_workOutAll_41 ?_
        refine k_X0_take C mM_X1_83 hw (by decide) (Nat.le_of_ble_eq_true rfl) dX1_workOutAll_44 (fun r9 u8 hw => ?_)
        refine k_X1_lookAt C mM_X1_87 hw (by decide) (Nat.le_of_ble_eq_true rfl) dX1_workOutAll_47 (fun u10 hw => ?_)
        obtain ⟨v11, ev11⟩ : ∃ z : Int32, z = x1 + 1 := ⟨_, rfl⟩
        replace hw := hw v11 ev11
        refine z_iinc (v := v11) (lv' := [(1, .int v11), (0, .ref (ad 5))]) C.1 (j := 1) dX1_workOutAll_50 rfl (by rw [ev11]; rfl) (by rw [hn]; decide) rfl ?_
        refine z_goto (tgt := 10) C.1 dX1_workOutAll_53 (by decide) ?_
        refine z_lv [1, 0] rfl ?_
        exact hK10 _ _ hw
theorem z_X1_workOutAll_10 {X : XX} {ad : Nat → Nat} {cs : Nat → ClassId} {post : Int32 → St → Prop} (C : CxC X ad cs cX1_workOutAll RX1 5 115) (hn : xnL X = 2) (hR : rtI X cX1_workOutAll (wC ad cs) post) : ∀ (n : Nat) (u : St) (x1 : Int32), wp_X1_workOutAll_10 post n u x1 → Z X (wC ad cs u) 10 [(0, .ref (ad 5)), (1, .int x1)] []
  | 0, _, _, hw => absurd hw (fun h => h)
  | n + 1, u, x1, hw => z_X1_workOutAll_10s C hn hR (z_X1_workOutAll_10 C hn hR n) u x1 hw
def wp_X1_workOutAll (u : St) (post : Int32 → St → Prop) : Prop :=
  wp_X1_beginCall u 0 (-1) (-1) (fun (r2 : Int32) (u1 : St) => ∃ n, wp_X1_workOutAll_10 post n u1 0)
set_option maxHeartbeats 4000000 in
set_option maxRecDepth 20000 in
theorem z_X1_workOutAll {X : XX} {ad : Nat → Nat} {cs : Nat → ClassId} {post : Int32 → St → Prop} (C : CxC X ad cs cX1_workOutAll RX1 5 115) (hn : xnL X = 2) (hR : rtI X cX1_workOutAll (wC ad cs) post) (u : St) (hw : wp_X1_workOutAll u post) : Z X (wC ad cs u) 0 [(0, .ref (ad 5))] [] := by
  unfold wp_X1_workOutAll at hw
  refine z_aload_n C.1 dX1_workOutAll_0 rfl 0 rfl ?_
  refine z_iconst (v := 0) C.1 dX1_workOutAll_1 (by decide) ?_
  refine z_iconst (v := (-1)) C.1 dX1_workOutAll_2 (by decide) ?_
  refine z_iconst (v := (-1)) C.1 dX1_workOutAll_3 (by decide) ?_
  refine k_X1_beginCall C mM_X1_68 hw (by decide) (Nat.le_of_ble_eq_true rfl) dX1_workOutAll_4 (fun r2 u1 hw => ?_)
  refine z_pop C.1 dX1_workOutAll_7 rfl ?_
  refine z_iconst (v := 0) C.1 dX1_workOutAll_8 (by decide) ?_
  refine z_istore_n (lv' := [(1, .int 0), (0, .ref (ad 5))]) C.1 dX1_workOutAll_9 rfl (by rw [hn]; decide) rfl ?_
  refine z_lv [1, 0] rfl ?_
  obtain ⟨n, hw⟩ := hw
  exact z_X1_workOutAll_10 C hn hR n _ _ hw
theorem c_X1_workOutAll {l : Launch} {D : va_G} {A : Nat → Prop} {ad : Nat → Nat} {cs : Nat → ClassId} (hD : ∀ u : St, va_D A (wC ad cs u)) (u : St) (post : Int32 → St → Prop) (hw : wp_X1_workOutAll u post) : MI (ad 90, ad 91) l yX1_workOutAll cX1_workOutAll 2 (some .int) (rmm 5 115) D (tysC cs) A (wC ad cs) u [.ref (ad 5)] post :=
  met_i (by decide) (Nat.le_of_ble_eq_true rfl) (fun X C _ _ ht hA hn hsg hR => z_X1_workOutAll ⟨C, ht, fun u => by rw [hA]; exact hD u, hsg⟩ hn hR u hw)
theorem k_X1_workOutAll {X : XX} {ad : Nat → Nat} {cs : Nat → ClassId} {cc : ByteArray} {own : String} {fr lo pc : Nat} {lv : List (Nat × Value)} {st : List Value} {u : St} (C : CxC X ad cs cc own fr lo) {idx : Nat} {P : Int32 → St → Prop} (hlink : Cond.methodLink own idx yX1_workOutAll ∈ W0) (hw : wp_X1_workOutAll u P) (hr : 5 + 1 ≤ fr ∧ 8 + (2 + 11) + 115 ≤ lo) (hst : (st.map fun v => v.category).sum ≤ 8) (hdg : decode cc pc = .ok (.invokevirtual idx, 3)) (k : ∀ (r : Int32) (u2 : St), P r u2 → Z X (wC ad cs u2) (pc + 3) lv (.int r :: st)) : Z X (wC ad cs u) pc lv (.ref (ad 5) :: st) :=
  z_callVi (wf := wC ad cs) (As := []) (rest := st) C.1 0 (q0 := 5) mI_X1_workOutAll mS_X1_workOutAll rfl rfl (by rw [C.2.1, C.2.2.2]; exact c_X1_workOutAll C.2.2.1 u P hw) mC_X1_workOutAll mZ_X1 (by decide +kernel) rfl hlink hr hst hdg k

def wp_X1_outcomeNumber (u : St) (post : Int32 → St → Prop) : Prop :=
  wp_X1_rootOf u 0 (fun (r2 : Int32) (u1 : St) => wp_X4_numberAt u1 r2 (fun (r4 : Int32) (u3 : St) => post r4 u3))
set_option maxHeartbeats 4000000 in
set_option maxRecDepth 20000 in
theorem z_X1_outcomeNumber {X : XX} {ad : Nat → Nat} {cs : Nat → ClassId} {post : Int32 → St → Prop} (C : CxC X ad cs cX1_outcomeNumber RX1 1 21) (hn : xnL X = 1) (hR : rtI X cX1_outcomeNumber (wC ad cs) post) (u : St) (hw : wp_X1_outcomeNumber u post) : Z X (wC ad cs u) 0 [(0, .ref (ad 5))] [] := by
  unfold wp_X1_outcomeNumber at hw
  refine z_aload_n C.1 dX1_outcomeNumber_0 rfl 0 rfl ?_
  refine gC_5_slots C mF_X1_12 dX1_outcomeNumber_1 ?_
  refine z_aload_n C.1 dX1_outcomeNumber_4 rfl 0 rfl ?_
  refine z_iconst (v := 0) C.1 dX1_outcomeNumber_5 (by decide) ?_
  refine k_X1_rootOf C mM_X1_90 hw (by decide) (Nat.le_of_ble_eq_true rfl) dX1_outcomeNumber_6 (fun r2 u1 hw => ?_)
  refine k_X4_numberAt C mM_X1_98 hw (by decide) (Nat.le_of_ble_eq_true rfl) dX1_outcomeNumber_9 (fun r4 u3 hw => ?_)
  exact hR _ _ _ _ dX1_outcomeNumber_12 hw
theorem c_X1_outcomeNumber {l : Launch} {D : va_G} {A : Nat → Prop} {ad : Nat → Nat} {cs : Nat → ClassId} (hD : ∀ u : St, va_D A (wC ad cs u)) (u : St) (post : Int32 → St → Prop) (hw : wp_X1_outcomeNumber u post) : MI (ad 90, ad 91) l yX1_outcomeNumber cX1_outcomeNumber 1 (some .int) (rmm 1 21) D (tysC cs) A (wC ad cs) u [.ref (ad 5)] post :=
  met_i (by decide) (Nat.le_of_ble_eq_true rfl) (fun X C _ _ ht hA hn hsg hR => z_X1_outcomeNumber ⟨C, ht, fun u => by rw [hA]; exact hD u, hsg⟩ hn hR u hw)
theorem k_X1_outcomeNumber {X : XX} {ad : Nat → Nat} {cs : Nat → ClassId} {cc : ByteArray} {own : String} {fr lo pc : Nat} {lv : List (Nat × Value)} {st : List Value} {u : St} (C : CxC X ad cs cc own fr lo) {idx : Nat} {P : Int32 → St → Prop} (hlink : Cond.methodLink own idx yX1_outcomeNumber ∈ W0) (hw : wp_X1_outcomeNumber u P) (hr : 1 + 1 ≤ fr ∧ 8 + (1 + 11) + 21 ≤ lo) (hst : (st.map fun v => v.category).sum ≤ 8) (hdg : decode cc pc = .ok (.invokevirtual idx, 3)) (k : ∀ (r : Int32) (u2 : St), P r u2 → Z X (wC ad cs u2) (pc + 3) lv (.int r :: st)) : Z X (wC ad cs u) pc lv (.ref (ad 5) :: st) :=
  z_callVi (wf := wC ad cs) (As := []) (rest := st) C.1 0 (q0 := 5) mI_X1_outcomeNumber mS_X1_outcomeNumber rfl rfl (by rw [C.2.1, C.2.2.2]; exact c_X1_outcomeNumber C.2.2.1 u P hw) mC_X1_outcomeNumber mZ_X1 (by decide +kernel) rfl hlink hr hst hdg k

def wp_X1_knownParts (u : St) (post : Int32 → St → Prop) : Prop :=
  post (gI u 20) u
set_option maxHeartbeats 4000000 in
set_option maxRecDepth 20000 in
theorem z_X1_knownParts {X : XX} {ad : Nat → Nat} {cs : Nat → ClassId} {post : Int32 → St → Prop} (C : CxC X ad cs cX1_knownParts RX1 0 0) (hn : xnL X = 1) (hR : rtI X cX1_knownParts (wC ad cs) post) (u : St) (hw : wp_X1_knownParts u post) : Z X (wC ad cs u) 0 [(0, .ref (ad 5))] [] := by
  unfold wp_X1_knownParts at hw
  refine z_aload_n C.1 dX1_knownParts_0 rfl 0 rfl ?_
  refine gC_5_slots C mF_X1_12 dX1_knownParts_1 ?_
  refine gC_6_known C mF_X1_101 dX1_knownParts_4 ?_
  exact hR _ _ _ _ dX1_knownParts_7 hw
theorem c_X1_knownParts {l : Launch} {D : va_G} {A : Nat → Prop} {ad : Nat → Nat} {cs : Nat → ClassId} (hD : ∀ u : St, va_D A (wC ad cs u)) (u : St) (post : Int32 → St → Prop) (hw : wp_X1_knownParts u post) : MI (ad 90, ad 91) l yX1_knownParts cX1_knownParts 1 (some .int) (rmm 0 0) D (tysC cs) A (wC ad cs) u [.ref (ad 5)] post :=
  met_i (by decide) (Nat.le_of_ble_eq_true rfl) (fun X C _ _ ht hA hn hsg hR => z_X1_knownParts ⟨C, ht, fun u => by rw [hA]; exact hD u, hsg⟩ hn hR u hw)
theorem k_X1_knownParts {X : XX} {ad : Nat → Nat} {cs : Nat → ClassId} {cc : ByteArray} {own : String} {fr lo pc : Nat} {lv : List (Nat × Value)} {st : List Value} {u : St} (C : CxC X ad cs cc own fr lo) {idx : Nat} {P : Int32 → St → Prop} (hlink : Cond.methodLink own idx yX1_knownParts ∈ W0) (hw : wp_X1_knownParts u P) (hr : 0 + 1 ≤ fr ∧ 8 + (1 + 11) + 0 ≤ lo) (hst : (st.map fun v => v.category).sum ≤ 8) (hdg : decode cc pc = .ok (.invokevirtual idx, 3)) (k : ∀ (r : Int32) (u2 : St), P r u2 → Z X (wC ad cs u2) (pc + 3) lv (.int r :: st)) : Z X (wC ad cs u) pc lv (.ref (ad 5) :: st) :=
  z_callVi (wf := wC ad cs) (As := []) (rest := st) C.1 0 (q0 := 5) mI_X1_knownParts mS_X1_knownParts rfl rfl (by rw [C.2.1, C.2.2.2]; exact c_X1_knownParts C.2.2.1 u P hw) mC_X1_knownParts mZ_X1 (by decide +kernel) rfl hlink hr hst hdg k

def wp_X1_knownCells_40 (K4 : St → Int32 → Int32 → Prop) (u : St) (x1 : Int32) (x2 : Int32) (post : Int32 → St → Prop) : Prop :=
  nm (x2 + 1) (fun v9 : Int32 => K4 u x1 v9)
set_option maxHeartbeats 4000000 in
set_option maxRecDepth 20000 in
theorem z_X1_knownCells_40 {X : XX} {ad : Nat → Nat} {cs : Nat → ClassId} {post : Int32 → St → Prop} (C : CxC X ad cs cX1_knownCells RX1 1 21) (hn : xnL X = 3) (hR : rtI X cX1_knownCells (wC ad cs) post) {K4 : St → Int32 → Int32 → Prop} (hK4 : ∀ (u : St) (x1 : Int32) (x2 : Int32), K4 u x1 x2 → Z X (wC ad cs u) 4 [(0, .ref (ad 5)), (1, .int x1), (2, .int x2)] []) (u : St) (x1 : Int32) (x2 : Int32) (hw : wp_X1_knownCells_40 K4 u x1 x2 post) : Z X (wC ad cs u) 40 [(0, .ref (ad 5)), (1, .int x1), (2, .int x2)] [] := by
  unfold wp_X1_knownCells_40 at hw
  obtain ⟨v9, ev9⟩ : ∃ z : Int32, z = x2 + 1 := ⟨_, rfl⟩
  replace hw := hw v9 ev9
  refine z_iinc (v := v9) (lv' := [(2, .int v9), (0, .ref (ad 5)), (1, .int x1)]) C.1 (j := 2) dX1_knownCells_40 rfl (by rw [ev9]; rfl) (by rw [hn]; decide) rfl ?_
  refine z_goto (tgt := 4) C.1 dX1_knownCells_43 (by decide) ?_
  refine z_lv [1, 2, 0] rfl ?_
  exact hK4 _ _ _ hw
def wp_X1_knownCells_4s (K4 : St → Int32 → Int32 → Prop) (u : St) (x1 : Int32) (x2 : Int32) (post : Int32 → St → Prop) : Prop :=
  br ((gI u 18) ≤ x2) (post x1 u) ((vp_in x2 300 ∧ br ((gA u 32 (ix x2)) = (-1)) (wp_X1_knownCells_40 K4 u x1 x2 post) (wp_X1_rootOf u x2 (fun (r4 : Int32) (u3 : St) => wp_X4_isKnown u3 r4 (fun (r6 : Int32) (u5 : St) => br (r6 = 0) (wp_X1_knownCells_40 K4 u5 x1 x2 post) (nm (x1 + 1) (fun v8 : Int32 => wp_X1_knownCells_40 K4 u5 v8 x2 post)))))))
def wp_X1_knownCells_4 (post : Int32 → St → Prop) : Nat → St → Int32 → Int32 → Prop
  | 0 => fun _ _ _ => False
  | n + 1 => fun u x1 x2 => wp_X1_knownCells_4s (wp_X1_knownCells_4 post n) u x1 x2 post
set_option maxHeartbeats 4000000 in
set_option maxRecDepth 20000 in
theorem z_X1_knownCells_4s {X : XX} {ad : Nat → Nat} {cs : Nat → ClassId} {post : Int32 → St → Prop} (C : CxC X ad cs cX1_knownCells RX1 1 21) (hn : xnL X = 3) (hR : rtI X cX1_knownCells (wC ad cs) post) {K4 : St → Int32 → Int32 → Prop} (hK4 : ∀ (u : St) (x1 : Int32) (x2 : Int32), K4 u x1 x2 → Z X (wC ad cs u) 4 [(0, .ref (ad 5)), (1, .int x1), (2, .int x2)] []) (u : St) (x1 : Int32) (x2 : Int32) (hw : wp_X1_knownCells_4s K4 u x1 x2 post) : Z X (wC ad cs u) 4 [(0, .ref (ad 5)), (1, .int x1), (2, .int x2)] [] := by
  unfold wp_X1_knownCells_4s at hw
  refine z_iload_n C.1 dX1_knownCells_4 rfl 2 rfl ?_
  refine z_aload_n C.1 dX1_knownCells_5 rfl 0 rfl ?_
  refine gC_5_calls C mF_X1_58 dX1_knownCells_6 ?_
  refine z_icmp_ge (tgt := 46) C.1 dX1_knownCells_9 (by decide) (fun c1 => ?_) (fun c1 => ?_)
  · replace hw := hw.1 c1
    refine z_iload_n C.1 dX1_knownCells_46 rfl 1 rfl ?_
    exact hR _ _ _ _ dX1_knownCells_47 hw
  · replace hw := hw.2 c1
    refine z_aload_n C.1 dX1_knownCells_12 rfl 0 rfl ?_
    refine gC_5_cellOf C mF_X1_28 dX1_knownCells_13 ?_
    refine z_iload_n C.1 dX1_knownCells_16 rfl 2 rfl ?_
    refine lC_32 C hw.1 dX1_knownCells_17 ?_
    replace hw := hw.2
    refine z_iconst (v := (-1)) C.1 dX1_knownCells_18 (by decide) ?_
    refine z_icmp_eq (tgt := 40) C.1 dX1_knownCells_19 (by decide) (fun c2 => ?_) (fun c2 => ?_)
    · replace hw := hw.1 c2
      refine z_lv [0, 1, 2] rfl ?_
      exact z_X1_knownCells_40 C hn hR hK4 _ _ _ hw
    · replace hw := hw.2 c2
      refine z_aload_n C.1 dX1_knownCells_22 rfl 0 rfl ?_
      refine gC_5_slots C mF_X1_12 dX1_knownCells_23 ?_
      refine z_aload_n C.1 dX1_knownCells_26 rfl 0 rfl ?_
      refine z_iload_n C.1 dX1_knownCells_27 rfl 2 rfl ?_
      refine k_X1_rootOf C mM_X1_90 hw (by decide) (Nat.le_of_ble_eq_true rfl) dX1_knownCells_28 (fun r4 u3 hw => ?_)
      refine k_X4_isKnown C mM_X1_94 hw (by decide) (Nat.le_of_ble_eq_true rfl) dX1_knownCells_31 (fun r6 u5 hw => ?_)
      refine z_if_eq (tgt := 40) C.1 dX1_knownCells_34 (by decide) (fun c7 => ?_) (fun c7 => ?_)
      · replace hw := hw.1 c7
        refine z_lv [0, 1, 2] rfl ?_
        exact z_X1_knownCells_40 C hn hR hK4 _ _ _ hw
      · replace hw := hw.2 c7
        obtain ⟨v8, ev8⟩ : ∃ z : Int32, z = x1 + 1 := ⟨_, rfl⟩
        replace hw := hw v8 ev8
        refine z_iinc (v := v8) (lv' := [(1, .int v8), (0, .ref (ad 5)), (2, .int x2)]) C.1 (j := 1) dX1_knownCells_37 rfl (by rw [ev8]; rfl) (by rw [hn]; decide) rfl ?_
        refine z_lv [1, 0, 2] rfl ?_
        exact z_X1_knownCells_40 C hn hR hK4 _ _ _ hw
theorem z_X1_knownCells_4 {X : XX} {ad : Nat → Nat} {cs : Nat → ClassId} {post : Int32 → St → Prop} (C : CxC X ad cs cX1_knownCells RX1 1 21) (hn : xnL X = 3) (hR : rtI X cX1_knownCells (wC ad cs) post) : ∀ (n : Nat) (u : St) (x1 : Int32) (x2 : Int32), wp_X1_knownCells_4 post n u x1 x2 → Z X (wC ad cs u) 4 [(0, .ref (ad 5)), (1, .int x1), (2, .int x2)] []
  | 0, _, _, _, hw => absurd hw (fun h => h)
  | n + 1, u, x1, x2, hw => z_X1_knownCells_4s C hn hR (z_X1_knownCells_4 C hn hR n) u x1 x2 hw
def wp_X1_knownCells (u : St) (post : Int32 → St → Prop) : Prop :=
  ∃ n, wp_X1_knownCells_4 post n u 0 0
set_option maxHeartbeats 4000000 in
set_option maxRecDepth 20000 in
theorem z_X1_knownCells {X : XX} {ad : Nat → Nat} {cs : Nat → ClassId} {post : Int32 → St → Prop} (C : CxC X ad cs cX1_knownCells RX1 1 21) (hn : xnL X = 3) (hR : rtI X cX1_knownCells (wC ad cs) post) (u : St) (hw : wp_X1_knownCells u post) : Z X (wC ad cs u) 0 [(0, .ref (ad 5))] [] := by
  unfold wp_X1_knownCells at hw
  refine z_iconst (v := 0) C.1 dX1_knownCells_0 (by decide) ?_
  refine z_istore_n (lv' := [(1, .int 0), (0, .ref (ad 5))]) C.1 dX1_knownCells_1 rfl (by rw [hn]; decide) rfl ?_
  refine z_iconst (v := 0) C.1 dX1_knownCells_2 (by decide) ?_
  refine z_istore_n (lv' := [(2, .int 0), (1, .int 0), (0, .ref (ad 5))]) C.1 dX1_knownCells_3 rfl (by rw [hn]; decide) rfl ?_
  refine z_lv [2, 1, 0] rfl ?_
  obtain ⟨n, hw⟩ := hw
  exact z_X1_knownCells_4 C hn hR n _ _ _ hw
theorem c_X1_knownCells {l : Launch} {D : va_G} {A : Nat → Prop} {ad : Nat → Nat} {cs : Nat → ClassId} (hD : ∀ u : St, va_D A (wC ad cs u)) (u : St) (post : Int32 → St → Prop) (hw : wp_X1_knownCells u post) : MI (ad 90, ad 91) l yX1_knownCells cX1_knownCells 3 (some .int) (rmm 1 21) D (tysC cs) A (wC ad cs) u [.ref (ad 5)] post :=
  met_i (by decide) (Nat.le_of_ble_eq_true rfl) (fun X C _ _ ht hA hn hsg hR => z_X1_knownCells ⟨C, ht, fun u => by rw [hA]; exact hD u, hsg⟩ hn hR u hw)
theorem k_X1_knownCells {X : XX} {ad : Nat → Nat} {cs : Nat → ClassId} {cc : ByteArray} {own : String} {fr lo pc : Nat} {lv : List (Nat × Value)} {st : List Value} {u : St} (C : CxC X ad cs cc own fr lo) {idx : Nat} {P : Int32 → St → Prop} (hlink : Cond.methodLink own idx yX1_knownCells ∈ W0) (hw : wp_X1_knownCells u P) (hr : 1 + 1 ≤ fr ∧ 8 + (3 + 11) + 21 ≤ lo) (hst : (st.map fun v => v.category).sum ≤ 8) (hdg : decode cc pc = .ok (.invokevirtual idx, 3)) (k : ∀ (r : Int32) (u2 : St), P r u2 → Z X (wC ad cs u2) (pc + 3) lv (.int r :: st)) : Z X (wC ad cs u) pc lv (.ref (ad 5) :: st) :=
  z_callVi (wf := wC ad cs) (As := []) (rest := st) C.1 0 (q0 := 5) mI_X1_knownCells mS_X1_knownCells rfl rfl (by rw [C.2.1, C.2.2.2]; exact c_X1_knownCells C.2.2.1 u P hw) mC_X1_knownCells mZ_X1 (by decide +kernel) rfl hlink hr hst hdg k
