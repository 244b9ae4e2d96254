def wp_X4_emptyFor (u : St) (x1 : Int32) (post : St → Prop) : Prop :=
  wp_X0_emptyFor u x1 (fun (u1 : St) => nm (sI u1 20 0) (fun u2 : St => post u2))
set_option maxHeartbeats 4000000 in
set_option maxRecDepth 20000 in
theorem z_X4_emptyFor {X : XX} {ad : Nat → Nat} {cs : Nat → ClassId} {post : St → Prop} (C : CxC X ad cs cX4_emptyFor RX4 1 21) (hn : xnL X = 2) (hR : rtV X cX4_emptyFor (wC ad cs) post) (u : St) (x1 : Int32) (hw : wp_X4_emptyFor u x1 post) : Z X (wC ad cs u) 0 [(0, .ref (ad 6)), (1, .int x1)] [] := by
  unfold wp_X4_emptyFor at hw
  refine z_aload_n C.1 dX4_emptyFor_0 rfl 0 rfl ?_
  refine gC_6_bag C mF_X4_16 dX4_emptyFor_1 ?_
  refine z_iload_n C.1 dX4_emptyFor_4 rfl 1 rfl ?_
  refine k_X0_emptyFor C mM_X4_38 hw (by decide) (Nat.le_of_ble_eq_true rfl) dX4_emptyFor_5 (fun u1 hw => ?_)
  refine z_aload_n C.1 dX4_emptyFor_8 rfl 0 rfl ?_
  refine z_iconst (v := 0) C.1 dX4_emptyFor_9 (by decide) ?_
  refine pC_6_known C mF_X4_42 dX4_emptyFor_10 (fun u2 eu2 => ?_)
  replace hw := hw u2 eu2
  exact hR _ _ _ dX4_emptyFor_13 hw
theorem c_X4_emptyFor {l : Launch} {D : va_G} {A : Nat → Prop} {ad : Nat → Nat} {cs : Nat → ClassId} (hD : ∀ u : St, va_D A (wC ad cs u)) (u : St) (x1 : Int32) (post : St → Prop) (hw : wp_X4_emptyFor u x1 post) : MV (ad 90, ad 91) l yX4_emptyFor cX4_emptyFor 2 none (rmm 1 21) D (tysC cs) A (wC ad cs) u [.ref (ad 6), .int x1] post :=
  met_v (by decide) (Nat.le_of_ble_eq_true rfl) (fun X C _ _ ht hA hn hsg hR => z_X4_emptyFor ⟨C, ht, fun u => by rw [hA]; exact hD u, hsg⟩ hn hR u x1 hw)
theorem k_X4_emptyFor {X : XX} {ad : Nat → Nat} {cs : Nat → ClassId} {cc : ByteArray} {own : String} {fr lo pc : Nat} {lv : List (Nat × Value)} {st : List Value} {u : St} (C : CxC X ad cs cc own fr lo) {idx : Nat} {x1 : Int32} {P : St → Prop} (hlink : Cond.methodLink own idx yX4_emptyFor ∈ W0) (hw : wp_X4_emptyFor u x1 P) (hr : 1 + 1 ≤ fr ∧ 8 + (2 + 11) + 21 ≤ lo) (hst : (st.map fun v => v.category).sum ≤ 8) (hdg : decode cc pc = .ok (.invokevirtual idx, 3)) (k : ∀ (u2 : St), P u2 → Z X (wC ad cs u2) (pc + 3) lv st) : Z X (wC ad cs u) pc lv (.int x1 :: .ref (ad 6) :: st) :=
  z_callVv (wf := wC ad cs) (As := [.int x1]) (rest := st) C.1 1 (q0 := 6) mI_X4_emptyFor mS_X4_emptyFor rfl rfl (by rw [C.2.1, C.2.2.2]; exact c_X4_emptyFor C.2.2.1 u x1 P hw) mC_X4_emptyFor mZ_X4 (by decide +kernel) rfl hlink hr hst hdg k

def wp_X4_forget_2s (K2 : St → Int32 → Int32 → Int32 → Prop) (u : St) (x1 : Int32) (x2 : Int32) (x3 : Int32) (post : St → Prop) : Prop :=
  br ((x1 + x2) ≤ x3) (post u) ((vp_in x3 18000 ∧ nm (sA u 33 (ix x3) 0) (fun u2 : St => nm (x3 + 1) (fun v3 : Int32 => K2 u2 x1 x2 v3))))
def wp_X4_forget_2 (post : St → Prop) : Nat → St → Int32 → Int32 → Int32 → Prop
  | 0 => fun _ _ _ _ => False
  | n + 1 => fun u x1 x2 x3 => wp_X4_forget_2s (wp_X4_forget_2 post n) u x1 x2 x3 post
set_option maxHeartbeats 4000000 in
set_option maxRecDepth 20000 in
theorem z_X4_forget_2s {X : XX} {ad : Nat → Nat} {cs : Nat → ClassId} {post : St → Prop} (C : CxC X ad cs cX4_forget RX4 0 0) (hn : xnL X = 4) (hR : rtV X cX4_forget (wC ad cs) post) {K2 : St → Int32 → Int32 → Int32 → Prop} (hK2 : ∀ (u : St) (x1 : Int32) (x2 : Int32) (x3 : Int32), K2 u x1 x2 x3 → Z X (wC ad cs u) 2 [(0, .ref (ad 6)), (1, .int x1), (2, .int x2), (3, .int x3)] []) (u : St) (x1 : Int32) (x2 : Int32) (x3 : Int32) (hw : wp_X4_forget_2s K2 u x1 x2 x3 post) : Z X (wC ad cs u) 2 [(0, .ref (ad 6)), (1, .int x1), (2, .int x2), (3, .int x3)] [] := by
  unfold wp_X4_forget_2s at hw
  refine z_iload_n C.1 dX4_forget_2 rfl 3 rfl ?_
  refine z_iload_n C.1 dX4_forget_3 rfl 1 rfl ?_
  refine z_iload_n C.1 dX4_forget_4 rfl 2 rfl ?_
  refine z_iadd C.1 dX4_forget_5 ?_
  refine z_icmp_ge (tgt := 22) C.1 dX4_forget_6 (by decide) (fun c1 => ?_) (fun c1 => ?_)
  · replace hw := hw.1 c1
    exact hR _ _ _ dX4_forget_22 hw
  · replace hw := hw.2 c1
    refine z_aload_n C.1 dX4_forget_9 rfl 0 rfl ?_
    refine gC_6_state C mF_X4_22 dX4_forget_10 ?_
    refine z_iload_n C.1 dX4_forget_13 rfl 3 rfl ?_
    refine z_iconst (v := 0) C.1 dX4_forget_14 (by decide) ?_
    refine sC_33 C hw.1 dX4_forget_15 (fun u2 eu2 => ?_)
    replace hw := hw.2 u2 eu2
    obtain ⟨v3, ev3⟩ : ∃ z : Int32, z = x3 + 1 := ⟨_, rfl⟩
    replace hw := hw v3 ev3
    refine z_iinc (v := v3) (lv' := [(3, .int v3), (0, .ref (ad 6)), (1, .int x1), (2, .int x2)]) C.1 (j := 3) dX4_forget_16 rfl (by rw [ev3]; rfl) (by rw [hn]; decide) rfl ?_
    refine z_goto (tgt := 2) C.1 dX4_forget_19 (by decide) ?_
    refine z_lv [1, 2, 3, 0] rfl ?_
    exact hK2 _ _ _ _ hw
theorem z_X4_forget_2 {X : XX} {ad : Nat → Nat} {cs : Nat → ClassId} {post : St → Prop} (C : CxC X ad cs cX4_forget RX4 0 0) (hn : xnL X = 4) (hR : rtV X cX4_forget (wC ad cs) post) : ∀ (n : Nat) (u : St) (x1 : Int32) (x2 : Int32) (x3 : Int32), wp_X4_forget_2 post n u x1 x2 x3 → Z X (wC ad cs u) 2 [(0, .ref (ad 6)), (1, .int x1), (2, .int x2), (3, .int x3)] []
  | 0, _, _, _, _, hw => absurd hw (fun h => h)
  | n + 1, u, x1, x2, x3, hw => z_X4_forget_2s C hn hR (z_X4_forget_2 C hn hR n) u x1 x2 x3 hw
def wp_X4_forget (u : St) (x1 : Int32) (x2 : Int32) (post : St → Prop) : Prop :=
  ∃ n, wp_X4_forget_2 post n u x1 x2 x1
set_option maxHeartbeats 4000000 in
set_option maxRecDepth 20000 in
theorem z_X4_forget {X : XX} {ad : Nat → Nat} {cs : Nat → ClassId} {post : St → Prop} (C : CxC X ad cs cX4_forget RX4 0 0) (hn : xnL X = 4) (hR : rtV X cX4_forget (wC ad cs) post) (u : St) (x1 : Int32) (x2 : Int32) (hw : wp_X4_forget u x1 x2 post) : Z X (wC ad cs u) 0 [(0, .ref (ad 6)), (1, .int x1), (2, .int x2)] [] := by
  unfold wp_X4_forget at hw
  refine z_iload_n C.1 dX4_forget_0 rfl 1 rfl ?_
  refine z_istore_n (lv' := [(3, .int x1), (0, .ref (ad 6)), (1, .int x1), (2, .int x2)]) C.1 dX4_forget_1 rfl (by rw [hn]; decide) rfl ?_
  refine z_lv [1, 2, 3, 0] rfl ?_
  obtain ⟨n, hw⟩ := hw
  exact z_X4_forget_2 C hn hR n _ _ _ _ hw
theorem c_X4_forget {l : Launch} {D : va_G} {A : Nat → Prop} {ad : Nat → Nat} {cs : Nat → ClassId} (hD : ∀ u : St, va_D A (wC ad cs u)) (u : St) (x1 : Int32) (x2 : Int32) (post : St → Prop) (hw : wp_X4_forget u x1 x2 post) : MV (ad 90, ad 91) l yX4_forget cX4_forget 4 none (rmm 0 0) D (tysC cs) A (wC ad cs) u [.ref (ad 6), .int x1, .int x2] post :=
  met_v (by decide) (Nat.le_of_ble_eq_true rfl) (fun X C _ _ ht hA hn hsg hR => z_X4_forget ⟨C, ht, fun u => by rw [hA]; exact hD u, hsg⟩ hn hR u x1 x2 hw)
theorem k_X4_forget {X : XX} {ad : Nat → Nat} {cs : Nat → ClassId} {cc : ByteArray} {own : String} {fr lo pc : Nat} {lv : List (Nat × Value)} {st : List Value} {u : St} (C : CxC X ad cs cc own fr lo) {idx : Nat} {x1 : Int32} {x2 : Int32} {P : St → Prop} (hlink : Cond.methodLink own idx yX4_forget ∈ W0) (hw : wp_X4_forget u x1 x2 P) (hr : 0 + 1 ≤ fr ∧ 8 + (4 + 11) + 0 ≤ lo) (hst : (st.map fun v => v.category).sum ≤ 8) (hdg : decode cc pc = .ok (.invokevirtual idx, 3)) (k : ∀ (u2 : St), P u2 → Z X (wC ad cs u2) (pc + 3) lv st) : Z X (wC ad cs u) pc lv (.int x2 :: .int x1 :: .ref (ad 6) :: st) :=
  z_callVv (wf := wC ad cs) (As := [.int x1, .int x2]) (rest := st) C.1 2 (q0 := 6) mI_X4_forget mS_X4_forget rfl rfl (by rw [C.2.1, C.2.2.2]; exact c_X4_forget C.2.2.1 u x1 x2 P hw) mC_X4_forget mZ_X4 (by decide +kernel) rfl hlink hr hst hdg k

def wp_X4_reach (u : St) (x1 : Int32) (post : St → Prop) : Prop :=
  (vp_in x1 18000 ∧ br ((gA u 33 (ix x1)) = 0) ((vp_in x1 18000 ∧ nm (sA u 33 (ix x1) 1) (fun u2 : St => (vp_in x1 18000 ∧ nm (sA u2 36 (ix x1) (-1)) (fun u3 : St => wp_X0_put u3 x1 (fun (u4 : St) => post u4)))))) (post u))
set_option maxHeartbeats 4000000 in
set_option maxRecDepth 20000 in
theorem z_X4_reach {X : XX} {ad : Nat → Nat} {cs : Nat → ClassId} {post : St → Prop} (C : CxC X ad cs cX4_reach RX4 1 21) (hn : xnL X = 2) (hR : rtV X cX4_reach (wC ad cs) post) (u : St) (x1 : Int32) (hw : wp_X4_reach u x1 post) : Z X (wC ad cs u) 0 [(0, .ref (ad 6)), (1, .int x1)] [] := by
  unfold wp_X4_reach at hw
  refine z_aload_n C.1 dX4_reach_0 rfl 0 rfl ?_
  refine gC_6_state C mF_X4_22 dX4_reach_1 ?_
  refine z_iload_n C.1 dX4_reach_4 rfl 1 rfl ?_
  refine lC_33 C hw.1 dX4_reach_5 ?_
  replace hw := hw.2
  refine z_if_ne (tgt := 31) C.1 dX4_reach_6 (by decide) (fun c1 => ?_) (fun c1 => ?_)
  · replace hw := hw.2 c1
    exact hR _ _ _ dX4_reach_31 hw
  · replace hw := hw.1 c1
    refine z_aload_n C.1 dX4_reach_9 rfl 0 rfl ?_
    refine gC_6_state C mF_X4_22 dX4_reach_10 ?_
    refine z_iload_n C.1 dX4_reach_13 rfl 1 rfl ?_
    refine z_iconst (v := 1) C.1 dX4_reach_14 (by decide) ?_
    refine sC_33 C hw.1 dX4_reach_15 (fun u2 eu2 => ?_)
    replace hw := hw.2 u2 eu2
    refine z_aload_n C.1 dX4_reach_16 rfl 0 rfl ?_
    refine gC_6_firstWaiting C mF_X4_32 dX4_reach_17 ?_
    refine z_iload_n C.1 dX4_reach_20 rfl 1 rfl ?_
    refine z_iconst (v := (-1)) C.1 dX4_reach_21 (by decide) ?_
    refine sC_36 C hw.1 dX4_reach_22 (fun u3 eu3 => ?_)
    replace hw := hw.2 u3 eu3
    refine z_aload_n C.1 dX4_reach_23 rfl 0 rfl ?_
    refine gC_6_bag C mF_X4_16 dX4_reach_24 ?_
    refine z_iload_n C.1 dX4_reach_27 rfl 1 rfl ?_
    refine k_X0_put C mM_X4_46 hw (by decide) (Nat.le_of_ble_eq_true rfl) dX4_reach_28 (fun u4 hw => ?_)
    exact hR _ _ _ dX4_reach_31 hw
theorem c_X4_reach {l : Launch} {D : va_G} {A : Nat → Prop} {ad : Nat → Nat} {cs : Nat → ClassId} (hD : ∀ u : St, va_D A (wC ad cs u)) (u : St) (x1 : Int32) (post : St → Prop) (hw : wp_X4_reach u x1 post) : MV (ad 90, ad 91) l yX4_reach cX4_reach 2 none (rmm 1 21) D (tysC cs) A (wC ad cs) u [.ref (ad 6), .int x1] post :=
  met_v (by decide) (Nat.le_of_ble_eq_true rfl) (fun X C _ _ ht hA hn hsg hR => z_X4_reach ⟨C, ht, fun u => by rw [hA]; exact hD u, hsg⟩ hn hR u x1 hw)
theorem k_X4_reach {X : XX} {ad : Nat → Nat} {cs : Nat → ClassId} {cc : ByteArray} {own : String} {fr lo pc : Nat} {lv : List (Nat × Value)} {st : List Value} {u : St} (C : CxC X ad cs cc own fr lo) {idx : Nat} {x1 : Int32} {P : St → Prop} (hlink : Cond.methodLink own idx yX4_reach ∈ W0) (hw : wp_X4_reach u x1 P) (hr : 1 + 1 ≤ fr ∧ 8 + (2 + 11) + 21 ≤ lo) (hst : (st.map fun v => v.category).sum ≤ 8) (hdg : decode cc pc = .ok (.invokevirtual idx, 3)) (k : ∀ (u2 : St), P u2 → Z X (wC ad cs u2) (pc + 3) lv st) : Z X (wC ad cs u) pc lv (.int x1 :: .ref (ad 6) :: st) :=
  z_callVv (wf := wC ad cs) (As := [.int x1]) (rest := st) C.1 1 (q0 := 6) mI_X4_reach mS_X4_reach rfl rfl (by rw [C.2.1, C.2.2.2]; exact c_X4_reach C.2.2.1 u x1 P hw) mC_X4_reach mZ_X4 (by decide +kernel) rfl hlink hr hst hdg k

def wp_X4_see_15 (u : St) (x1 : Int32) (y0 : Int32) (post : Int32 → St → Prop) : Prop :=
  (vp_in x1 18000 ∧ nm (sA u 33 (ix x1) 2) (fun u2 : St => (bz y0 ∧ post y0 u2)))
set_option maxHeartbeats 4000000 in
set_option maxRecDepth 20000 in
theorem z_X4_see_15 {X : XX} {ad : Nat → Nat} {cs : Nat → ClassId} {post : Int32 → St → Prop} (C : CxC X ad cs cX4_see RX4 0 0) (hn : xnL X = 3) (hR : rtZ X cX4_see (wC ad cs) post) (u : St) (x1 : Int32) (y0 : Int32) (hw : wp_X4_see_15 u x1 y0 post) : Z X (wC ad cs u) 15 [(0, .ref (ad 6)), (1, .int x1)] [.int y0] := by
  unfold wp_X4_see_15 at hw
  refine z_istore_n (lv' := [(2, .int y0), (0, .ref (ad 6)), (1, .int x1)]) C.1 dX4_see_15 rfl (by rw [hn]; decide) rfl ?_
  refine z_aload_n C.1 dX4_see_16 rfl 1 rfl ?_
  refine gC_6_state C mF_X4_22 dX4_see_17 ?_
  refine z_iload_n C.1 dX4_see_20 rfl 2 rfl ?_
  refine z_iconst (v := 2) C.1 dX4_see_21 (by decide) ?_
  refine sC_33 C hw.1 dX4_see_22 (fun u2 eu2 => ?_)
  replace hw := hw.2 u2 eu2
  refine z_iload_n C.1 dX4_see_23 rfl 0 rfl ?_
  exact hR _ _ _ _ dX4_see_24 hw
def wp_X4_see (u : St) (x1 : Int32) (post : Int32 → St → Prop) : Prop :=
  (vp_in x1 18000 ∧ br ((gA u 33 (ix x1)) = 1) (wp_X4_see_15 u x1 1 post) (wp_X4_see_15 u x1 0 post))
set_option maxHeartbeats 4000000 in
set_option maxRecDepth 20000 in
theorem z_X4_see {X : XX} {ad : Nat → Nat} {cs : Nat → ClassId} {post : Int32 → St → Prop} (C : CxC X ad cs cX4_see RX4 0 0) (hn : xnL X = 3) (hR : rtZ X cX4_see (wC ad cs) post) (u : St) (x1 : Int32) (hw : wp_X4_see u x1 post) : Z X (wC ad cs u) 0 [(0, .ref (ad 6)), (1, .int x1)] [] := by
  unfold wp_X4_see at hw
  refine z_aload_n C.1 dX4_see_0 rfl 0 rfl ?_
  refine gC_6_state C mF_X4_22 dX4_see_1 ?_
  refine z_iload_n C.1 dX4_see_4 rfl 1 rfl ?_
  refine lC_33 C hw.1 dX4_see_5 ?_
  replace hw := hw.2
  refine z_iconst (v := 1) C.1 dX4_see_6 (by decide) ?_
  refine z_icmp_ne (tgt := 14) C.1 dX4_see_7 (by decide) (fun c1 => ?_) (fun c1 => ?_)
  · replace hw := hw.2 c1
    refine z_iconst (v := 0) C.1 dX4_see_14 (by decide) ?_
    refine z_lv [0, 1] rfl ?_
    exact z_X4_see_15 C hn hR _ _ _ hw
  · replace hw := hw.1 c1
    refine z_iconst (v := 1) C.1 dX4_see_10 (by decide) ?_
    refine z_goto (tgt := 15) C.1 dX4_see_11 (by decide) ?_
    refine z_lv [0, 1] rfl ?_
    exact z_X4_see_15 C hn hR _ _ _ hw
theorem c_X4_see {l : Launch} {D : va_G} {A : Nat → Prop} {ad : Nat → Nat} {cs : Nat → ClassId} (hD : ∀ u : St, va_D A (wC ad cs u)) (u : St) (x1 : Int32) (post : Int32 → St → Prop) (hw : wp_X4_see u x1 post) : MI (ad 90, ad 91) l yX4_see cX4_see 3 (some .boolean) (rmm 0 0) D (tysC cs) A (wC ad cs) u [.ref (ad 6), .int x1] post :=
  met_z (by decide) (Nat.le_of_ble_eq_true rfl) (fun X C _ _ ht hA hn hsg hR => z_X4_see ⟨C, ht, fun u => by rw [hA]; exact hD u, hsg⟩ hn hR u x1 hw)
theorem k_X4_see {X : XX} {ad : Nat → Nat} {cs : Nat → ClassId} {cc : ByteArray} {own : String} {fr lo pc : Nat} {lv : List (Nat × Value)} {st : List Value} {u : St} (C : CxC X ad cs cc own fr lo) {idx : Nat} {x1 : Int32} {P : Int32 → St → Prop} (hlink : Cond.methodLink own idx yX4_see ∈ W0) (hw : wp_X4_see u x1 P) (hr : 0 + 1 ≤ fr ∧ 8 + (3 + 11) + 0 ≤ lo) (hst : (st.map fun v => v.category).sum ≤ 8) (hdg : decode cc pc = .ok (.invokevirtual idx, 3)) (k : ∀ (r : Int32) (u2 : St), P r u2 → Z X (wC ad cs u2) (pc + 3) lv (.int r :: st)) : Z X (wC ad cs u) pc lv (.int x1 :: .ref (ad 6) :: st) :=
  z_callVi (wf := wC ad cs) (As := [.int x1]) (rest := st) C.1 1 (q0 := 6) mI_X4_see mS_X4_see rfl rfl (by rw [C.2.1, C.2.2.2]; exact c_X4_see C.2.2.1 u x1 P hw) mC_X4_see mZ_X4 (by decide +kernel) rfl hlink hr hst hdg k

def wp_X4_isKnown (u : St) (x1 : Int32) (post : Int32 → St → Prop) : Prop :=
  (vp_in x1 18000 ∧ br ((gA u 33 (ix x1)) = 3) ((bz 1 ∧ post 1 u)) ((bz 0 ∧ post 0 u)))
set_option maxHeartbeats 4000000 in
set_option maxRecDepth 20000 in
theorem z_X4_isKnown {X : XX} {ad : Nat → Nat} {cs : Nat → ClassId} {post : Int32 → St → Prop} (C : CxC X ad cs cX4_isKnown RX4 0 0) (hn : xnL X = 2) (hR : rtZ X cX4_isKnown (wC ad cs) post) (u : St) (x1 : Int32) (hw : wp_X4_isKnown u x1 post) : Z X (wC ad cs u) 0 [(0, .ref (ad 6)), (1, .int x1)] [] := by
  unfold wp_X4_isKnown at hw
  refine z_aload_n C.1 dX4_isKnown_0 rfl 0 rfl ?_
  refine gC_6_state C mF_X4_22 dX4_isKnown_1 ?_
  refine z_iload_n C.1 dX4_isKnown_4 rfl 1 rfl ?_
  refine lC_33 C hw.1 dX4_isKnown_5 ?_
  replace hw := hw.2
  refine z_iconst (v := 3) C.1 dX4_isKnown_6 (by decide) ?_
  refine z_icmp_ne (tgt := 14) C.1 dX4_isKnown_7 (by decide) (fun c1 => ?_) (fun c1 => ?_)
  · replace hw := hw.2 c1
    refine z_iconst (v := 0) C.1 dX4_isKnown_14 (by decide) ?_
    exact hR _ _ _ _ dX4_isKnown_15 hw
  · replace hw := hw.1 c1
    refine z_iconst (v := 1) C.1 dX4_isKnown_10 (by decide) ?_
    refine z_goto (tgt := 15) C.1 dX4_isKnown_11 (by decide) ?_
    exact hR _ _ _ _ dX4_isKnown_15 hw
theorem c_X4_isKnown {l : Launch} {D : va_G} {A : Nat → Prop} {ad : Nat → Nat} {cs : Nat → ClassId} (hD : ∀ u : St, va_D A (wC ad cs u)) (u : St) (x1 : Int32) (post : Int32 → St → Prop) (hw : wp_X4_isKnown u x1 post) : MI (ad 90, ad 91) l yX4_isKnown cX4_isKnown 2 (some .boolean) (rmm 0 0) D (tysC cs) A (wC ad cs) u [.ref (ad 6), .int x1] post :=
  met_z (by decide) (Nat.le_of_ble_eq_true rfl) (fun X C _ _ ht hA hn hsg hR => z_X4_isKnown ⟨C, ht, fun u => by rw [hA]; exact hD u, hsg⟩ hn hR u x1 hw)
theorem k_X4_isKnown {X : XX} {ad : Nat → Nat} {cs : Nat → ClassId} {cc : ByteArray} {own : String} {fr lo pc : Nat} {lv : List (Nat × Value)} {st : List Value} {u : St} (C : CxC X ad cs cc own fr lo) {idx : Nat} {x1 : Int32} {P : Int32 → St → Prop} (hlink : Cond.methodLink own idx yX4_isKnown ∈ W0) (hw : wp_X4_isKnown u x1 P) (hr : 0 + 1 ≤ fr ∧ 8 + (2 + 11) + 0 ≤ lo) (hst : (st.map fun v => v.category).sum ≤ 8) (hdg : decode cc pc = .ok (.invokevirtual idx, 3)) (k : ∀ (r : Int32) (u2 : St), P r u2 → Z X (wC ad cs u2) (pc + 3) lv (.int r :: st)) : Z X (wC ad cs u) pc lv (.int x1 :: .ref (ad 6) :: st) :=
  z_callVi (wf := wC ad cs) (As := [.int x1]) (rest := st) C.1 1 (q0 := 6) mI_X4_isKnown mS_X4_isKnown rfl rfl (by rw [C.2.1, C.2.2.2]; exact c_X4_isKnown C.2.2.1 u x1 P hw) mC_X4_isKnown mZ_X4 (by decide +kernel) rfl hlink hr hst hdg k

def wp_X4_numberAt (u : St) (x1 : Int32) (post : Int32 → St → Prop) : Prop :=
  (vp_in x1 18000 ∧ post (gA u 34 (ix x1)) u)
set_option maxHeartbeats 4000000 in
set_option maxRecDepth 20000 in
theorem z_X4_numberAt {X : XX} {ad : Nat → Nat} {cs : Nat → ClassId} {post : Int32 → St → Prop} (C : CxC X ad cs cX4_numberAt RX4 0 0) (hn : xnL X = 2) (hR : rtI X cX4_numberAt (wC ad cs) post) (u : St) (x1 : Int32) (hw : wp_X4_numberAt u x1 post) : Z X (wC ad cs u) 0 [(0, .ref (ad 6)), (1, .int x1)] [] := by
  unfold wp_X4_numberAt at hw
  refine z_aload_n C.1 dX4_numberAt_0 rfl 0 rfl ?_
  refine gC_6_number C mF_X4_26 dX4_numberAt_1 ?_
  refine z_iload_n C.1 dX4_numberAt_4 rfl 1 rfl ?_
  refine lC_34 C hw.1 dX4_numberAt_5 ?_
  replace hw := hw.2
  exact hR _ _ _ _ dX4_numberAt_6 hw
theorem c_X4_numberAt {l : Launch} {D : va_G} {A : Nat → Prop} {ad : Nat → Nat} {cs : Nat → ClassId} (hD : ∀ u : St, va_D A (wC ad cs u)) (u : St) (x1 : Int32) (post : Int32 → St → Prop) (hw : wp_X4_numberAt u x1 post) : MI (ad 90, ad 91) l yX4_numberAt cX4_numberAt 2 (some .int) (rmm 0 0) D (tysC cs) A (wC ad cs) u [.ref (ad 6), .int x1] post :=
  met_i (by decide) (Nat.le_of_ble_eq_true rfl) (fun X C _ _ ht hA hn hsg hR => z_X4_numberAt ⟨C, ht, fun u => by rw [hA]; exact hD u, hsg⟩ hn hR u x1 hw)
theorem k_X4_numberAt {X : XX} {ad : Nat → Nat} {cs : Nat → ClassId} {cc : ByteArray} {own : String} {fr lo pc : Nat} {lv : List (Nat × Value)} {st : List Value} {u : St} (C : CxC X ad cs cc own fr lo) {idx : Nat} {x1 : Int32} {P : Int32 → St → Prop} (hlink : Cond.methodLink own idx yX4_numberAt ∈ W0) (hw : wp_X4_numberAt u x1 P) (hr : 0 + 1 ≤ fr ∧ 8 + (2 + 11) + 0 ≤ lo) (hst : (st.map fun v => v.category).sum ≤ 8) (hdg : decode cc pc = .ok (.invokevirtual idx, 3)) (k : ∀ (r : Int32) (u2 : St), P r u2 → Z X (wC ad cs u2) (pc + 3) lv (.int r :: st)) : Z X (wC ad cs u) pc lv (.int x1 :: .ref (ad 6) :: st) :=
  z_callVi (wf := wC ad cs) (As := [.int x1]) (rest := st) C.1 1 (q0 := 6) mI_X4_numberAt mS_X4_numberAt rfl rfl (by rw [C.2.1, C.2.2.2]; exact c_X4_numberAt C.2.2.1 u x1 P hw) mC_X4_numberAt mZ_X4 (by decide +kernel) rfl hlink hr hst hdg k

def wp_X4_arrayAt (u : St) (x1 : Int32) (post : Int32 → St → Prop) : Prop :=
  (vp_in x1 18000 ∧ post (gA u 35 (ix x1)) u)
set_option maxHeartbeats 4000000 in
set_option maxRecDepth 20000 in
theorem z_X4_arrayAt {X : XX} {ad : Nat → Nat} {cs : Nat → ClassId} {post : Int32 → St → Prop} (C : CxC X ad cs cX4_arrayAt RX4 0 0) (hn : xnL X = 2) (hR : rtI X cX4_arrayAt (wC ad cs) post) (u : St) (x1 : Int32) (hw : wp_X4_arrayAt u x1 post) : Z X (wC ad cs u) 0 [(0, .ref (ad 6)), (1, .int x1)] [] := by
  unfold wp_X4_arrayAt at hw
  refine z_aload_n C.1 dX4_arrayAt_0 rfl 0 rfl ?_
  refine gC_6_array C mF_X4_29 dX4_arrayAt_1 ?_
  refine z_iload_n C.1 dX4_arrayAt_4 rfl 1 rfl ?_
  refine lC_35 C hw.1 dX4_arrayAt_5 ?_
  replace hw := hw.2
  exact hR _ _ _ _ dX4_arrayAt_6 hw
theorem c_X4_arrayAt {l : Launch} {D : va_G} {A : Nat → Prop} {ad : Nat → Nat} {cs : Nat → ClassId} (hD : ∀ u : St, va_D A (wC ad cs u)) (u : St) (x1 : Int32) (post : Int32 → St → Prop) (hw : wp_X4_arrayAt u x1 post) : MI (ad 90, ad 91) l yX4_arrayAt cX4_arrayAt 2 (some .int) (rmm 0 0) D (tysC cs) A (wC ad cs) u [.ref (ad 6), .int x1] post :=
  met_i (by decide) (Nat.le_of_ble_eq_true rfl) (fun X C _ _ ht hA hn hsg hR => z_X4_arrayAt ⟨C, ht, fun u => by rw [hA]; exact hD u, hsg⟩ hn hR u x1 hw)
theorem k_X4_arrayAt {X : XX} {ad : Nat → Nat} {cs : Nat → ClassId} {cc : ByteArray} {own : String} {fr lo pc : Nat} {lv : List (Nat × Value)} {st : List Value} {u : St} (C : CxC X ad cs cc own fr lo) {idx : Nat} {x1 : Int32} {P : Int32 → St → Prop} (hlink : Cond.methodLink own idx yX4_arrayAt ∈ W0) (hw : wp_X4_arrayAt u x1 P) (hr : 0 + 1 ≤ fr ∧ 8 + (2 + 11) + 0 ≤ lo) (hst : (st.map fun v => v.category).sum ≤ 8) (hdg : decode cc pc = .ok (.invokevirtual idx, 3)) (k : ∀ (r : Int32) (u2 : St), P r u2 → Z X (wC ad cs u2) (pc + 3) lv (.int r :: st)) : Z X (wC ad cs u) pc lv (.int x1 :: .ref (ad 6) :: st) :=
  z_callVi (wf := wC ad cs) (As := [.int x1]) (rest := st) C.1 1 (q0 := 6) mI_X4_arrayAt mS_X4_arrayAt rfl rfl (by rw [C.2.1, C.2.2.2]; exact c_X4_arrayAt C.2.2.1 u x1 P hw) mC_X4_arrayAt mZ_X4 (by decide +kernel) rfl hlink hr hst hdg k

def wp_X4_settle_42s (K42 : St → Int32 → Int32 → Prop) (u : St) (x4 : Int32) (x5 : Int32) (post : St → Prop) : Prop :=
  br (18000 ≤ x5) (post u) (br (x4 = (-1)) (post u) (wp_X0_put u x4 (fun (u8 : St) => (vp_in x4 18000 ∧ nm (gA u8 37 (ix x4)) (fun v9 : Int32 => nm (x5 + 1) (fun v10 : Int32 => K42 u8 v9 v10))))))
def wp_X4_settle_42 (post : St → Prop) : Nat → St → Int32 → Int32 → Prop
  | 0 => fun _ _ _ => False
  | n + 1 => fun u x4 x5 => wp_X4_settle_42s (wp_X4_settle_42 post n) u x4 x5 post
set_option maxHeartbeats 4000000 in
set_option maxRecDepth 20000 in
theorem z_X4_settle_42s {X : XX} {ad : Nat → Nat} {cs : Nat → ClassId} {post : St → Prop} (C : CxC X ad cs cX4_settle RX4 1 21) (hn : xnL X = 6) (hR : rtV X cX4_settle (wC ad cs) post) {K42 : St → Int32 → Int32 → Prop} (hK42 : ∀ (u : St) (x4 : Int32) (x5 : Int32), K42 u x4 x5 → Z X (wC ad cs u) 42 [(0, .ref (ad 6)), (4, .int x4), (5, .int x5)] []) (u : St) (x4 : Int32) (x5 : Int32) (hw : wp_X4_settle_42s K42 u x4 x5 post) : Z X (wC ad cs u) 42 [(0, .ref (ad 6)), (4, .int x4), (5, .int x5)] [] := by
  unfold wp_X4_settle_42s at hw
  refine z_iload C.1 dX4_settle_42 2 rfl ?_
  refine z_sipush (v := 18000) C.1 dX4_settle_44 (by decide) ?_
  refine z_icmp_ge (tgt := 80) C.1 dX4_settle_47 (by decide) (fun c6 => ?_) (fun c6 => ?_)
  · replace hw := hw.1 c6
    exact hR _ _ _ dX4_settle_80 hw
  · replace hw := hw.2 c6
    refine z_iload C.1 dX4_settle_50 1 rfl ?_
    refine z_iconst (v := (-1)) C.1 dX4_settle_52 (by decide) ?_
    refine z_icmp_eq (tgt := 80) C.1 dX4_settle_53 (by decide) (fun c7 => ?_) (fun c7 => ?_)
    · replace hw := hw.1 c7
      exact hR _ _ _ dX4_settle_80 hw
    · replace hw := hw.2 c7
      refine z_aload_n C.1 dX4_settle_56 rfl 0 rfl ?_
      refine gC_6_bag C mF_X4_16 dX4_settle_57 ?_
      refine z_iload C.1 dX4_settle_60 1 rfl ?_
      refine k_X0_put C mM_X4_46 hw (by decide) (Nat.le_of_ble_eq_true rfl) dX4_settle_62 (fun u8 hw => ?_)
      refine z_aload_n C.1 dX4_settle_65 rfl 0 rfl ?_
      refine gC_6_nextWaiting C mF_X4_35 dX4_settle_66 ?_
      refine z_iload C.1 dX4_settle_69 1 rfl ?_
      refine lC_37 C hw.1 dX4_settle_71 ?_
      replace hw := hw.2
      refine z_topi (fun v9 ev9 => ?_)
      replace hw := hw v9 ev9
      refine z_istore (lv' := [(4, .int v9), (0, .ref (ad 6)), (5, .int x5)]) C.1 dX4_settle_72 (by rw [hn]; decide) rfl ?_
      obtain ⟨v10, ev10⟩ : ∃ z : Int32, z = x5 + 1 := ⟨_, rfl⟩
      replace hw := hw v10 ev10
      refine z_iinc (v := v10) (lv' := [(5, .int v10), (4, .int v9), (0, .ref (ad 6))]) C.1 (j := 2) dX4_settle_74 rfl (by rw [ev10]; rfl) (by rw [hn]; decide) rfl ?_
      refine z_goto (tgt := 42) C.1 dX4_settle_77 (by decide) ?_
      refine z_lv [2, 1, 0] rfl ?_
      exact hK42 _ _ _ hw
theorem z_X4_settle_42 {X : XX} {ad : Nat → Nat} {cs : Nat → ClassId} {post : St → Prop} (C : CxC X ad cs cX4_settle RX4 1 21) (hn : xnL X = 6) (hR : rtV X cX4_settle (wC ad cs) post) : ∀ (n : Nat) (u : St) (x4 : Int32) (x5 : Int32), wp_X4_settle_42 post n u x4 x5 → Z X (wC ad cs u) 42 [(0, .ref (ad 6)), (4, .int x4), (5, .int x5)] []
  | 0, _, _, _, hw => absurd hw (fun h => h)
  | n + 1, u, x4, x5, hw => z_X4_settle_42s C hn hR (z_X4_settle_42 C hn hR n) u x4 x5 hw
def wp_X4_settle (u : St) (x1 : Int32) (x2 : Int32) (x3 : Int32) (post : St → Prop) : Prop :=
  (vp_in x1 18000 ∧ nm (sA u 33 (ix x1) 3) (fun u1 : St => (vp_in x1 18000 ∧ nm (sA u1 34 (ix x1) x2) (fun u2 : St => (vp_in x1 18000 ∧ nm (sA u2 35 (ix x1) x3) (fun u3 : St => nm (sI u3 20 ((gI u3 20) + 1)) (fun u4 : St => (vp_in x1 18000 ∧ nm (gA u4 36 (ix x1)) (fun v5 : Int32 => ∃ n, wp_X4_settle_42 post n u4 v5 0)))))))))
set_option maxHeartbeats 4000000 in
set_option maxRecDepth 20000 in
theorem z_X4_settle {X : XX} {ad : Nat → Nat} {cs : Nat → ClassId} {post : St → Prop} (C : CxC X ad cs cX4_settle RX4 1 21) (hn : xnL X = 6) (hR : rtV X cX4_settle (wC ad cs) post) (u : St) (x1 : Int32) (x2 : Int32) (x3 : Int32) (hw : wp_X4_settle u x1 x2 x3 post) : Z X (wC ad cs u) 0 [(0, .ref (ad 6)), (1, .int x1), (2, .int x2), (3, .int x3)] [] := by
  unfold wp_X4_settle at hw
  refine z_aload_n C.1 dX4_settle_0 rfl 0 rfl ?_
  refine gC_6_state C mF_X4_22 dX4_settle_1 ?_
  refine z_iload_n C.1 dX4_settle_4 rfl 1 rfl ?_
  refine z_iconst (v := 3) C.1 dX4_settle_5 (by decide) ?_
  refine sC_33 C hw.1 dX4_settle_6 (fun u1 eu1 => ?_)
  replace hw := hw.2 u1 eu1
  refine z_aload_n C.1 dX4_settle_7 rfl 0 rfl ?_
  refine gC_6_number C mF_X4_26 dX4_settle_8 ?_
  refine z_iload_n C.1 dX4_settle_11 rfl 1 rfl ?_
  refine z_iload_n C.1 dX4_settle_12 rfl 2 rfl ?_
  refine sC_34 C hw.1 dX4_settle_13 (fun u2 eu2 => ?_)
  replace hw := hw.2 u2 eu2
  refine z_aload_n C.1 dX4_settle_14 rfl 0 rfl ?_
  refine gC_6_array C mF_X4_29 dX4_settle_15 ?_
  refine z_iload_n C.1 dX4_settle_18 rfl 1 rfl ?_
  refine z_iload_n C.1 dX4_settle_19 rfl 3 rfl ?_
  refine sC_35 C hw.1 dX4_settle_20 (fun u3 eu3 => ?_)
  replace hw := hw.2 u3 eu3
  refine z_aload_n C.1 dX4_settle_21 rfl 0 rfl ?_
  refine z_dup C.1 dX4_settle_22 rfl ?_
  refine gC_6_known C mF_X4_42 dX4_settle_23 ?_
  refine z_iconst (v := 1) C.1 dX4_settle_26 (by decide) ?_
  refine z_iadd C.1 dX4_settle_27 ?_
  refine pC_6_known C mF_X4_42 dX4_settle_28 (fun u4 eu4 => ?_)
  replace hw := hw u4 eu4
  refine z_aload_n C.1 dX4_settle_31 rfl 0 rfl ?_
  refine gC_6_firstWaiting C mF_X4_32 dX4_settle_32 ?_
  refine z_iload_n C.1 dX4_settle_35 rfl 1 rfl ?_
  refine lC_36 C hw.1 dX4_settle_36 ?_
  replace hw := hw.2
  refine z_topi (fun v5 ev5 => ?_)
  replace hw := hw v5 ev5
  refine z_istore (lv' := [(4, .int v5), (0, .ref (ad 6)), (1, .int x1), (2, .int x2), (3, .int x3)]) C.1 dX4_settle_37 (by rw [hn]; decide) rfl ?_
  refine z_iconst (v := 0) C.1 dX4_settle_39 (by decide) ?_
  refine z_istore (lv' := [(5, .int 0), (4, .int v5), (0, .ref (ad 6)), (1, .int x1), (2, .int x2), (3, .int x3)]) C.1 dX4_settle_40 (by rw [hn]; decide) rfl ?_
  refine z_lv [2, 1, 0] rfl ?_
  obtain ⟨n, hw⟩ := hw
  exact z_X4_settle_42 C hn hR n _ _ _ hw
theorem c_X4_settle {l : Launch} {D : va_G} {A : Nat → Prop} {ad : Nat → Nat} {cs : Nat → ClassId} (hD : ∀ u : St, va_D A (wC ad cs u)) (u : St) (x1 : Int32) (x2 : Int32) (x3 : Int32) (post : St → Prop) (hw : wp_X4_settle u x1 x2 x3 post) : MV (ad 90, ad 91) l yX4_settle cX4_settle 6 none (rmm 1 21) D (tysC cs) A (wC ad cs) u [.ref (ad 6), .int x1, .int x2, .int x3] post :=
  met_v (by decide) (Nat.le_of_ble_eq_true rfl) (fun X C _ _ ht hA hn hsg hR => z_X4_settle ⟨C, ht, fun u => by rw [hA]; exact hD u, hsg⟩ hn hR u x1 x2 x3 hw)
theorem k_X4_settle {X : XX} {ad : Nat → Nat} {cs : Nat → ClassId} {cc : ByteArray} {own : String} {fr lo pc : Nat} {lv : List (Nat × Value)} {st : List Value} {u : St} (C : CxC X ad cs cc own fr lo) {idx : Nat} {x1 : Int32} {x2 : Int32} {x3 : Int32} {P : St → Prop} (hlink : Cond.methodLink own idx yX4_settle ∈ W0) (hw : wp_X4_settle u x1 x2 x3 P) (hr : 1 + 1 ≤ fr ∧ 8 + (6 + 11) + 21 ≤ lo) (hst : (st.map fun v => v.category).sum ≤ 8) (hdg : decode cc pc = .ok (.invokevirtual idx, 3)) (k : ∀ (u2 : St), P u2 → Z X (wC ad cs u2) (pc + 3) lv st) : Z X (wC ad cs u) pc lv (.int x3 :: .int x2 :: .int x1 :: .ref (ad 6) :: st) :=
  z_callVv (wf := wC ad cs) (As := [.int x1, .int x2, .int x3]) (rest := st) C.1 3 (q0 := 6) mI_X4_settle mS_X4_settle rfl rfl (by rw [C.2.1, C.2.2.2]; exact c_X4_settle C.2.2.1 u x1 x2 x3 P hw) mC_X4_settle mZ_X4 (by decide +kernel) rfl hlink hr hst hdg k

def wp_X4_has (u : St) (x1 : Int32) (x2 : Int32) (post : Int32 → St → Prop) : Prop :=
  (vp_in x2 18000 ∧ br ((gA u 33 (ix x2)) = 3) ((bz 1 ∧ post 1 u)) ((vp_in x2 18000 ∧ (vp_in x1 18000 ∧ nm (sA u 37 (ix x1) (gA u 36 (ix x2))) (fun u2 : St => (vp_in x2 18000 ∧ nm (sA u2 36 (ix x2) x1) (fun u3 : St => (bz 0 ∧ post 0 u3))))))))
set_option maxHeartbeats 4000000 in
set_option maxRecDepth 20000 in
theorem z_X4_has {X : XX} {ad : Nat → Nat} {cs : Nat → ClassId} {post : Int32 → St → Prop} (C : CxC X ad cs cX4_has RX4 0 0) (hn : xnL X = 3) (hR : rtZ X cX4_has (wC ad cs) post) (u : St) (x1 : Int32) (x2 : Int32) (hw : wp_X4_has u x1 x2 post) : Z X (wC ad cs u) 0 [(0, .ref (ad 6)), (1, .int x1), (2, .int x2)] [] := by
  unfold wp_X4_has at hw
  refine z_aload_n C.1 dX4_has_0 rfl 0 rfl ?_
  refine gC_6_state C mF_X4_22 dX4_has_1 ?_
  refine z_iload_n C.1 dX4_has_4 rfl 2 rfl ?_
  refine lC_33 C hw.1 dX4_has_5 ?_
  replace hw := hw.2
  refine z_iconst (v := 3) C.1 dX4_has_6 (by decide) ?_
  refine z_icmp_ne (tgt := 12) C.1 dX4_has_7 (by decide) (fun c1 => ?_) (fun c1 => ?_)
  · replace hw := hw.2 c1
    refine z_aload_n C.1 dX4_has_12 rfl 0 rfl ?_
    refine gC_6_nextWaiting C mF_X4_35 dX4_has_13 ?_
    refine z_iload_n C.1 dX4_has_16 rfl 1 rfl ?_
    refine z_aload_n C.1 dX4_has_17 rfl 0 rfl ?_
    refine gC_6_firstWaiting C mF_X4_32 dX4_has_18 ?_
    refine z_iload_n C.1 dX4_has_21 rfl 2 rfl ?_
    refine lC_36 C hw.1 dX4_has_22 ?_
    replace hw := hw.2
    refine sC_37 C hw.1 dX4_has_23 (fun u2 eu2 => ?_)
    replace hw := hw.2 u2 eu2
    refine z_aload_n C.1 dX4_has_24 rfl 0 rfl ?_
    refine gC_6_firstWaiting C mF_X4_32 dX4_has_25 ?_
    refine z_iload_n C.1 dX4_has_28 rfl 2 rfl ?_
    refine z_iload_n C.1 dX4_has_29 rfl 1 rfl ?_
    refine sC_36 C hw.1 dX4_has_30 (fun u3 eu3 => ?_)
    replace hw := hw.2 u3 eu3
    refine z_iconst (v := 0) C.1 dX4_has_31 (by decide) ?_
    exact hR _ _ _ _ dX4_has_32 hw
  · replace hw := hw.1 c1
    refine z_iconst (v := 1) C.1 dX4_has_10 (by decide) ?_
    exact hR _ _ _ _ dX4_has_11 hw
theorem c_X4_has {l : Launch} {D : va_G} {A : Nat → Prop} {ad : Nat → Nat} {cs : Nat → ClassId} (hD : ∀ u : St, va_D A (wC ad cs u)) (u : St) (x1 : Int32) (x2 : Int32) (post : Int32 → St → Prop) (hw : wp_X4_has u x1 x2 post) : MI (ad 90, ad 91) l yX4_has cX4_has 3 (some .boolean) (rmm 0 0) D (tysC cs) A (wC ad cs) u [.ref (ad 6), .int x1, .int x2] post :=
  met_z (by decide) (Nat.le_of_ble_eq_true rfl) (fun X C _ _ ht hA hn hsg hR => z_X4_has ⟨C, ht, fun u => by rw [hA]; exact hD u, hsg⟩ hn hR u x1 x2 hw)
theorem k_X4_has {X : XX} {ad : Nat → Nat} {cs : Nat → ClassId} {cc : ByteArray} {own : String} {fr lo pc : Nat} {lv : List (Nat × Value)} {st : List Value} {u : St} (C : CxC X ad cs cc own fr lo) {idx : Nat} {x1 : Int32} {x2 : Int32} {P : Int32 → St → Prop} (hlink : Cond.methodLink own idx yX4_has ∈ W0) (hw : wp_X4_has u x1 x2 P) (hr : 0 + 1 ≤ fr ∧ 8 + (3 + 11) + 0 ≤ lo) (hst : (st.map fun v => v.category).sum ≤ 8) (hdg : decode cc pc = .ok (.invokevirtual idx, 3)) (k : ∀ (r : Int32) (u2 : St), P r u2 → Z X (wC ad cs u2) (pc + 3) lv (.int r :: st)) : Z X (wC ad cs u) pc lv (.int x2 :: .int x1 :: .ref (ad 6) :: st) :=
  z_callVi (wf := wC ad cs) (As := [.int x1, .int x2]) (rest := st) C.1 2 (q0 := 6) mI_X4_has mS_X4_has rfl rfl (by rw [C.2.1, C.2.2.2]; exact c_X4_has C.2.2.1 u x1 x2 P hw) mC_X4_has mZ_X4 (by decide +kernel) rfl hlink hr hst hdg k

def wp_X4_follow (u : St) (x1 : Int32) (x2 : Int32) (post : St → Prop) : Prop :=
  wp_X4_has u x1 x2 (fun (r2 : Int32) (u1 : St) => br (r2 = 0) (post u1) ((vp_in x2 18000 ∧ (vp_in x2 18000 ∧ wp_X4_settle u1 x1 (gA u1 34 (ix x2)) (gA u1 35 (ix x2)) (fun (u4 : St) => post u4)))))
set_option maxHeartbeats 4000000 in
set_option maxRecDepth 20000 in
theorem z_X4_follow {X : XX} {ad : Nat → Nat} {cs : Nat → ClassId} {post : St → Prop} (C : CxC X ad cs cX4_follow RX4 2 46) (hn : xnL X = 3) (hR : rtV X cX4_follow (wC ad cs) post) (u : St) (x1 : Int32) (x2 : Int32) (hw : wp_X4_follow u x1 x2 post) : Z X (wC ad cs u) 0 [(0, .ref (ad 6)), (1, .int x1), (2, .int x2)] [] := by
  unfold wp_X4_follow at hw
  refine z_aload_n C.1 dX4_follow_0 rfl 0 rfl ?_
  refine z_iload_n C.1 dX4_follow_1 rfl 1 rfl ?_
  refine z_iload_n C.1 dX4_follow_2 rfl 2 rfl ?_
  refine k_X4_has C mM_X4_49 hw (by decide) (Nat.le_of_ble_eq_true rfl) dX4_follow_3 (fun r2 u1 hw => ?_)
  refine z_if_eq (tgt := 26) C.1 dX4_follow_6 (by decide) (fun c3 => ?_) (fun c3 => ?_)
  · replace hw := hw.1 c3
    exact hR _ _ _ dX4_follow_26 hw
  · replace hw := hw.2 c3
    refine z_aload_n C.1 dX4_follow_9 rfl 0 rfl ?_
    refine z_iload_n C.1 dX4_follow_10 rfl 1 rfl ?_
    refine z_aload_n C.1 dX4_follow_11 rfl 0 rfl ?_
    refine gC_6_number C mF_X4_26 dX4_follow_12 ?_
    refine z_iload_n C.1 dX4_follow_15 rfl 2 rfl ?_
    refine lC_34 C hw.1 dX4_follow_16 ?_
    replace hw := hw.2
    refine z_aload_n C.1 dX4_follow_17 rfl 0 rfl ?_
    refine gC_6_array C mF_X4_29 dX4_follow_18 ?_
    refine z_iload_n C.1 dX4_follow_21 rfl 2 rfl ?_
    refine lC_35 C hw.1 dX4_follow_22 ?_
    replace hw := hw.2
    refine k_X4_settle C mM_X4_53 hw (by decide) (Nat.le_of_ble_eq_true rfl) dX4_follow_23 (fun u4 hw => ?_)
    exact hR _ _ _ dX4_follow_26 hw
theorem c_X4_follow {l : Launch} {D : va_G} {A : Nat → Prop} {ad : Nat → Nat} {cs : Nat → ClassId} (hD : ∀ u : St, va_D A (wC ad cs u)) (u : St) (x1 : Int32) (x2 : Int32) (post : St → Prop) (hw : wp_X4_follow u x1 x2 post) : MV (ad 90, ad 91) l yX4_follow cX4_follow 3 none (rmm 2 46) D (tysC cs) A (wC ad cs) u [.ref (ad 6), .int x1, .int x2] post :=
  met_v (by decide) (Nat.le_of_ble_eq_true rfl) (fun X C _ _ ht hA hn hsg hR => z_X4_follow ⟨C, ht, fun u => by rw [hA]; exact hD u, hsg⟩ hn hR u x1 x2 hw)
theorem k_X4_follow {X : XX} {ad : Nat → Nat} {cs : Nat → ClassId} {cc : ByteArray} {own : String} {fr lo pc : Nat} {lv : List (Nat × Value)} {st : List Value} {u : St} (C : CxC X ad cs cc own fr lo) {idx : Nat} {x1 : Int32} {x2 : Int32} {P : St → Prop} (hlink : Cond.methodLink own idx yX4_follow ∈ W0) (hw : wp_X4_follow u x1 x2 P) (hr : 2 + 1 ≤ fr ∧ 8 + (3 + 11) + 46 ≤ lo) (hst : (st.map fun v => v.category).sum ≤ 8) (hdg : decode cc pc = .ok (.invokevirtual idx, 3)) (k : ∀ (u2 : St), P u2 → Z X (wC ad cs u2) (pc + 3) lv st) : Z X (wC ad cs u) pc lv (.int x2 :: .int x1 :: .ref (ad 6) :: st) :=
  z_callVv (wf := wC ad cs) (As := [.int x1, .int x2]) (rest := st) C.1 2 (q0 := 6) mI_X4_follow mS_X4_follow rfl rfl (by rw [C.2.1, C.2.2.2]; exact c_X4_follow C.2.2.1 u x1 x2 P hw) mC_X4_follow mZ_X4 (by decide +kernel) rfl hlink hr hst hdg k
