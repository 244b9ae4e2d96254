/-! 92.loop: looks, one after the other -/
def InE (G : Prg) (a b : Int32) (sc : Nat → Nat → List Nat) (M N : Nat) (id : Nat → Cid) (st : Nat → Nat) (va : Nat → Vl) (B : List Nat) (W : Nat → List Nat) (KS : List Nat) (lk : Nat → Nat) (x : Nat) (u0 u : St) : Prop :=
  SIc G M N id st B W (fun z => z = x) u0 u ∧ SMc G a b sc N id st va B W (fun z => z = x) (fun _ => False) lk u ∧ CNc G N id st KS (cellN N id) u ∧ LKc G N id st lk ∧ lk x ≤ 1
theorem E_reach {G : Prg} {a b : Int32} {sc : Nat → Nat → List Nat} {M N : Nat} {id : Nat → Cid} {st : Nat → Nat} {va : Nat → Vl} {B : List Nat} {W : Nat → List Nat} {KS : List Nat} {lk : Nat → Nat} {x : Nat} {u0 u : St} (h : InE G a b sc M N id st va B W KS lk x u0 u) {z : Nat} (hz : vld G N id z) (hL : Lfp G a b (slO id z, none)) (hsc : ∀ q, q ∈ sc (dfn G (id (z / 60))) (z % 60) → (q < gnp G (dfn G (id (z / 60))) ∧ 0 < gnk G (dfn G (id (z / 60))) q) ∧ 1 ≤ st (60 * (z / 60) + gkid G (dfn G (id (z / 60))) q 0)) {y : Int32} (hy : y = nI z) {P : St → Prop} (k : ∀ st' B' W' U, InE G a b sc M N id st' va B' W' KS lk x u0 U → 1 ≤ st' z → (∀ y, 1 ≤ st y → 1 ≤ st' y) → P U) : wp_X4_reach u y P := by
  have hh := h
  obtain ⟨hSI, hSM, ⟨k1, k2, k3, k4⟩, ⟨l1, l2⟩, hlv⟩ := h
  refine o_reach hSI hz hy (fun h1 => k st B W u hh h1 (fun _ h => h)) (fun h0 U eI eA hU => ?_)
  have up1 : ∀ y, 1 ≤ st y → 1 ≤ uF st z 1 y := fun y hy => by
    by_cases e : y = z
    · rw [e, uF_s]; decide
    · rw [uF_o e]; exact hy
  have up3 : ∀ y, st y = 3 → uF st z 1 y = 3 := fun y hy => by rw [uF_o (fun e => by rw [e] at hy; omega)]; exact hy
  have dn3 : ∀ y, uF st z 1 y = 3 → st y = 3 := fun y hy => by
    by_cases e : y = z
    · rw [e, uF_s] at hy; omega
    · rw [uF_o e] at hy; exact hy
  refine k (uF st z 1) (B ++ [z]) (uF W z []) U ⟨hU, M_reach hSM hz h0 hL (fun q hq => ⟨(hsc q hq).1, up1 _ (hsc q hq).2⟩) (fun i hi => eI i (by omega)) (fun i hi => eA i (by omega) (by omega) (by omega)), ⟨by rw [eI 20 (by decide)]; exact k1, k2, fun r => ?_, by rw [eI 19 (by decide)]; exact k4⟩, ⟨l1, fun r hr => l2 r (hr.imp (fun h => h) (fun h => ?_))⟩, hlv⟩ (by rw [uF_s]; decide) up1
  · rw [k3 r]; exact ⟨fun ⟨p, q⟩ => ⟨p, up3 r q⟩, fun ⟨p, q⟩ => ⟨p, dn3 r q⟩⟩
  · by_cases e : r = z
    · rw [e, h0]; decide
    · rw [uF_o e] at h; exact h
theorem SM_in {G : Prg} {a b : Int32} {sc : Nat → Nat → List Nat} {N : Nat} {id : Nat → Cid} {st : Nat → Nat} {va : Nat → Vl} {B : List Nat} {W : Nat → List Nat} {ex mk : Nat → Prop} {lk : Nat → Nat} {u U : St} {x : Nat} (h : SMc G a b sc N id st va B W (fun z => z = x) mk lk u) (hM : kdS G (slO id x) = 7 → ∃ j, j < N ∧ gA U 29 x = nI j ∧ id j = (x % 60, 0) :: id (x / 60)) (hK : ∀ k, k < (if kdS G (slO id x) = 5 then 1 else gnk G (dfn G (id (x / 60))) (x % 60)) → 1 ≤ st (kiO G id x k)) (eI : ∀ i, i = 14 ∨ i = 15 ∨ i = 17 → gI U i = gI u i) (eA : ∀ i, i = 34 ∨ i = 35 → gA U i = gA u i) (e29 : ∀ z, z ≠ x → gA U 29 z = gA u 29 z) : SMc G a b sc N id st va B W (fun _ => False) mk lk U := by
  obtain ⟨⟨n1, n2, n3, n4, n5⟩, hD, hV, h4, h5, hR⟩ := h
  refine ⟨⟨by rw [eI 14 (by decide)]; exact n1, by rw [eI 15 (by decide)]; exact n2, by rw [eI 17 (by decide)]; exact n3, n4, n5⟩, hD, fun z hz h3 => by rw [eA 34 (by decide), eA 35 (by decide)]; exact hV z hz h3, fun z hz h7 h2 _ => ?_, fun z hz h2 _ k hk => ?_, hR⟩
  · by_cases e : z = x
    · rw [e] at h7 ⊢; exact hM h7
    · rw [e29 z e]; exact h4 z hz h7 h2 e
  · by_cases e : z = x
    · rw [e] at hk ⊢; exact hK k hk
    · exact h5 z hz h2 e k hk
theorem c_kids {G : Prg} {a b : Int32} {sc : Nat → Nat → List Nat} {M N : Nat} {id : Nat → Cid} {va : Nat → Vl} {KS : List Nat} {lk : Nat → Nat} {x : Nat} {u0 : St} (hw : WFp G) (hsc : ScF G sc) {P : St → Prop} {many : Nat} (hmany : many = (if kdS G (slO id x) = 5 then 1 else gnk G (dfn G (id (x / 60))) (x % 60))) (hnoj : ∀ j m, j < N → id j ≠ (x % 60, m) :: id (x / 60))
    (ky : ∀ N' id' st' B' W' U, InL G a b sc M N' id' st' va B' W' KS lk x u0 U → id' (x / 60) = id (x / 60) → P U) (ko : ∀ U, OVs G a b M u0 U → P U) : ∀ (f k : Nat) (st : Nat → Nat) (B : List Nat) (W : Nat → List Nat) (u : St), k + f = many → InE G a b sc M N id st va B W KS lk x u0 u → (∀ k', k' < k → 1 ≤ st (kiO G id x k')) → wp_X1_reachInside_33 P (f + 1) u (nI x) (nI (60 * dfn G (id (x / 60)) + x % 60)) (nI (kdS G (slO id x))) (nI many) (nI k)
  | f, k, st, B, W, u, hkf, h, hkids => by
    have hh := h
    obtain ⟨hSI, hSM, ⟨k1, k2, k3, k4⟩, ⟨l1, l2⟩, hlv⟩ := h
    obtain ⟨c1, c2, c3, c4⟩ := hSI.2.2.2.2.2.2.2 x rfl
    have hJ := hSI.2.2.1
    have hC := hSI.2.1
    have hN : N ≤ 300 := by have := hJ.1; omega
    have hlt := vld_lt c1 hN
    have hd := vld_d hJ c1
    have hp := c1.2
    obtain ⟨d1, d2, d3⟩ := WF_d hw hd
    have hw5 := (hw.2 _ hd).2.2.2.2
    have hnk6 := (hw5 _ hp).1
    have hD := hSM.2.1
    have hm6 : many ≤ 6 := by rw [hmany]; split <;> omega
    have hkd : kdS G (slO id x) < 1000 := by
      have : kdS G (slO id x) = gkd G (dfn G (id (x / 60))) (x % 60) := rfl
      rcases (hw5 _ hp).2.2 with t | t | t | t | t | t | t | t | t | t
      all_goals first | omega | (have := t.1; simp at this; omega)
    cases f with
    | zero =>
      have hkm : k = many := by omega
      subst hkm
      refine br_p (by simp (disch := omega) only [nI_leI, nI_ltI, nI_eq]; omega) (br_b (fun c => ?_) (fun c => ?_))
      · simp (disch := omega) only [ln_0, ln_1, ln_2, ln_3, ln_4, ln_5, ln_6, ln_7, ln_8, ln_9, ln_10, ln_11, ln_12, ln_13, ln_14, ln_15, ln_16, ln_17, ln_18, ln_19, ln_20, ln_21, ln_22, ln_23, ln_24, ln_25, ln_26, ln_27, ln_28, ln_29, ln_30, ln_31, ln_32, ln_33, ln_34, ln_35, ln_36, ln_37, ln_38, ln_39, ln_40, ln_41, ln_42, ln_43, ln_44, ln_45, ln_46, ln_47, ln_48, ln_49, ln_50, ln_51, ln_52, ln_53, ln_54, ln_55, ln_56, ln_57, ln_58, ln_59, ln_60, ln_61, ln_62, ln_91, ln_93, ln_97, ln_122, ln_120, ln_123, ln_124, ln_255, ln_256, ln_300, ln_720, ln_1500, ln_12000, ln_18000, nI_leI, nI_ltI, nI_eq] at c
        have c' : gkd G (dfn G (id (x / 60))) (x % 60) = 7 := c
        obtain ⟨t, t1, t2, t3⟩ : ∃ t, t < gn G ∧ gnu G (dfn G (id (x / 60))) (x % 60) = nI t ∧ gar G t = gnk G (dfn G (id (x / 60))) (x % 60) := by
          rcases (hw5 _ hp).2.2 with r | r | r | r | r | r | r | r | r | r
          all_goals first | (exfalso; omega) | skip
          · exact r.2
          · exfalso; have := r.1; rw [c'] at this; simp at this
        have hdc : dfn G ((x % 60, 0) :: id (x / 60)) = t := by show ix (gnu G (dfn G (id (x / 60))) (x % 60)) = t; rw [t2, ixN (by omega)]
        have e26 : gA u 26 (60 * dfn G (id (x / 60)) + x % 60) = nI t := by rw [((hC.2 _ hd).2.2.2 _ hp).2.1 (by omega)]; exact t2
        have hexC : exC G (Lfp G a b) ((x % 60, 0) :: id (x / 60)) := ⟨hp, Or.inl ⟨rfl, c', (hD.2.2 x c1).1 (by omega)⟩⟩
        have hinx : vp_in (nI x) 18000 := inN hlt (by decide)
        refine ⟨inN (by omega) (by decide), ?_⟩
        rw [ixN (by omega), e26]
        refine o_begin hw hSI (c := (x % 60, 0) :: id (x / 60)) (by rw [hdc]; exact t1) (by rw [hdc]) ⟨x / 60, c1.1, rfl, hp, by show (0 : Nat) ≤ 40; decide, by congr 1; show x = 60 * (x / 60) + x % 60; omega, rfl⟩ (fun hNM U hU eI e29 e34 e35 => ⟨hinx, nm_i ?_⟩) (fun hNM => ⟨hinx, nm_i (ko _ ⟨hSI.1, rfl, N, id, st, va, _, hD, hNM, hexC, fun j hj => hnoj j 0 hj⟩)⟩)
        rw [ixN (by omega)]
        have hSM2 := M_begin (U := U) hw hSM (c := (x % 60, 0) :: id (x / 60)) (by rw [hdc]; exact t1) hexC (fun j hj => hnoj j 0 hj) (fun j e c' hj he => (SI_par hw hSI j e c' hj he).1) (fun y z hz => ⟨(hSI.2.2.2.2.2.1.2.2.1 y z hz).1.1, (hSI.2.2.2.2.2.1.2.2.1 y z hz).2.1⟩) (fun z hz => (hSI.2.2.2.2.1.2.2 z hz).1) (by rw [hdc]; exact (hsc t t1).1) (fun j hj => (hSI.2.2.1.2 j hj).1) (fun e c' j' he hj' hid => by
          cases he
          have hj : j' = x / 60 := hD.1 j' (x / 60) hj' c1.1 hid
          subst hj
          have hxx : 60 * (x / 60) + (x % 60, 0).1 = x := by show 60 * (x / 60) + x % 60 = x; omega
          rw [hxx]
          exact ⟨by omega, fun _ => c, fun h => absurd rfl h⟩) (fun e c' j' he _ _ => by cases he; show x % 60 < 60; omega) (fun j e c' hj he => (SI_par hw hSI j e c' hj he).2) (fun j hj => eI j (by omega) (by omega)) (fun j hj => by rcases hj with rfl | rfl | rfl <;> assumption)
        have hx1 := c1.1
        have hid' : uF id N ((x % 60, 0) :: id (x / 60)) (x / 60) = id (x / 60) := uF_o (by omega)
        have hsl' : slO (uF id N ((x % 60, 0) :: id (x / 60))) x = slO id x := by unfold slO; rw [hid']
        have hst : ∀ z, z / 60 < N → stN st N (60 * N + grt G (dfn G ((x % 60, 0) :: id (x / 60)))) z = st z := fun z hz => by unfold stN; rw [if_neg (by omega)]
        have hlow : ∀ z, z / 60 = N → stN st N (60 * N + grt G (dfn G ((x % 60, 0) :: id (x / 60)))) z ≤ 1 := fun z hz => by unfold stN; rw [if_pos hz]; split <;> omega
        refine ky _ _ _ _ _ _ ⟨?_, SM_in (ex := fun _ => False) hSM2 (fun _ => ⟨N, by omega, ?_, by rw [uF_s, hid']⟩) (fun k' hk' => ?_) (fun i hi => rfl) (fun i hi => ?_) (fun z hz => ?_), ⟨?_, k2, fun z => ?_, ?_⟩, ⟨l1, fun z hz => l2 z ?_⟩, Or.inl hlv⟩ hid'
        · have hU2 := hU
          obtain ⟨f1, f2, f3⟩ := fr3 (U := sA U 29 x (nI N)) hU2.1 hU2.2.1 hU2.2.2.1 (fun i hi => rfl) (fun i hi => by rw [gA_sA, if_neg (by omega)])
          obtain ⟨_, _, _, g4, g5, g6, g7, g8⟩ := hU2
          exact ⟨f1, f2, f3, g4, g5, g6, g7, g8⟩
        · show upd (gA U 29) x (nI N) x = _; rw [updE, if_pos rfl]
        · rw [hsl', hid'] at hk'
          have hkk : k' < gnk G (dfn G (id (x / 60))) (x % 60) := by rw [if_neg (by omega)] at hk'; exact hk'
          have e : kiO G (uF id N ((x % 60, 0) :: id (x / 60))) x k' = kiO G id x k' := by unfold kiO; rw [hid']
          have hki := (kiO_v hw c1 hd hkk).2.2.1
          rw [e, hst _ (by rw [hki]; omega)]
          exact hkids k' (by rw [if_neg (by omega)] at hmany; omega)
        · rw [gA_sA, if_neg (by omega)]
        · show upd (gA U 29) x (nI N) z = _; rw [updE, if_neg hz]
        · show gI U 20 = _; rw [eI 20 (by decide) (by decide)]; exact k1
        · rw [k3 z, vld_new]
          constructor
          · rintro ⟨p1, p2⟩; exact ⟨Or.inl p1, by rw [hst z p1.1]; exact p2⟩
          · rintro ⟨p1 | p1, p2⟩
            · rw [hst z p1.1] at p2; exact ⟨p1, p2⟩
            · have := hlow z p1.1; omega
        · show gI U 19 = _
          rw [eI 19 (by decide) (by decide), cellN_new, if_neg (by show ¬ decide (0 ≠ 0) = true; simp)]; exact k4
        · by_cases hv : vld G N id z
          · rcases hz with hz | hz
            · exact absurd (vld_new.mpr (Or.inl hv)) hz
            · rw [hst z hv.1] at hz; exact Or.inr hz
          · exact Or.inl hv
      · simp (disch := omega) only [ln_0, ln_1, ln_2, ln_3, ln_4, ln_5, ln_6, ln_7, ln_8, ln_9, ln_10, ln_11, ln_12, ln_13, ln_14, ln_15, ln_16, ln_17, ln_18, ln_19, ln_20, ln_21, ln_22, ln_23, ln_24, ln_25, ln_26, ln_27, ln_28, ln_29, ln_30, ln_31, ln_32, ln_33, ln_34, ln_35, ln_36, ln_37, ln_38, ln_39, ln_40, ln_41, ln_42, ln_43, ln_44, ln_45, ln_46, ln_47, ln_48, ln_49, ln_50, ln_51, ln_52, ln_53, ln_54, ln_55, ln_56, ln_57, ln_58, ln_59, ln_60, ln_61, ln_62, ln_91, ln_93, ln_97, ln_122, ln_120, ln_123, ln_124, ln_255, ln_256, ln_300, ln_720, ln_1500, ln_12000, ln_18000, nI_leI, nI_ltI, nI_eq] at c
        exact ky N id st B W u ⟨hSI, SM_in (ex := fun _ => False) hSM (fun h7 => absurd h7 c) (fun k' hk' => hkids k' (by rw [hmany]; exact hk')) (fun _ _ => rfl) (fun _ _ => rfl) (fun _ _ => rfl), ⟨k1, k2, k3, k4⟩, ⟨l1, l2⟩, Or.inl hlv⟩ rfl
    | succ f =>
      have hk5 : k < (if kdS G (slO id x) = 5 then 1 else gnk G (dfn G (id (x / 60))) (x % 60)) := by omega
      have hkk : k < gnk G (dfn G (id (x / 60))) (x % 60) := by
        by_cases h5 : kdS G (slO id x) = 5
        · rw [if_pos h5] at hk5
          have h5' : gkd G (dfn G (id (x / 60))) (x % 60) = 5 := h5
          rcases (hw5 _ hp).2.2 with t | t | t | t | t | t | t | t | t | t
          all_goals first | omega | (exfalso; have := t.1; rw [h5'] at this; simp at this)
        · rw [if_neg h5] at hk5; exact hk5
      obtain ⟨q1, q2, q3, q4⟩ := kiO_v hw c1 hd hkk
      refine br_n (by simp (disch := omega) only [nI_leI, nI_ltI, nI_eq]; omega) (a_inside hw hC hJ c1 hp hkk rfl rfl ?_)
      have hL : Lfp G a b (slO id (kiO G id x k), none) := by
        rw [q2]
        exact Lfp_step (Or.inr (Or.inl ⟨x % 60, k, hp, hk5, rfl, (hD.2.2 x c1).1 (by omega)⟩))
      refine E_reach hh q1 hL (fun q hq => ?_) rfl (fun st' B' W' U hU s1 su => nm_i ?_)
      · rw [q3, q4] at hq
        rw [q3]
        have := ((hsc _ hd).2 _ hp).1 k hkk
        rw [this] at hq
        by_cases c6 : gkd G (dfn G (id (x / 60))) (x % 60) = 6 ∧ k = 1
        · rw [if_pos c6] at hq
          rcases List.mem_cons.mp hq with rfl | hq
          · exact ⟨⟨hp, by omega⟩, hkids 0 (by omega)⟩
          · exact hSM.2.2.2.2.2.2.1 x c1 (by omega) q hq
        · rw [if_neg c6] at hq; exact hSM.2.2.2.2.2.2.1 x c1 (by omega) q hq
      · rw [nI_1]
        refine c_kids hw hsc hmany hnoj ky ko f (k + 1) st' B' W' U (by omega) hU (fun k' hk' => ?_)
        rcases (show k' < k ∨ k' = k by omega) with h | h
        · exact su _ (hkids k' h)
        · rw [h]; exact s1
