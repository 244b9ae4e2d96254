/-! 90.look2: a look at a slot that has been reached inside -/
theorem XM_up2 {G : Prg} {N : Nat} {id : Nat → Cid} {st st' : Nat → Nat} {va : Nat → Vl} (h1 : ∀ y, 1 ≤ st y → 1 ≤ st' y) (h3 : ∀ y, st y = 3 → st' y = 3) {f : Fa} (h : XM G N id st va f) : XM G N id st' va f := XM_up (fun y _ => h1 y) (fun y _ => h3 y) f h
theorem c_choose {G : Prg} {a b : Int32} {sc : Nat → Nat → List Nat} {M N : Nat} {id : Nat → Cid} {st : Nat → Nat} {va : Nat → Vl} {B : List Nat} {W : Nat → List Nat} {KS : List Nat} {lk : Nat → Nat} {x : Nat} {u0 u : St} (hw : WFp G) (hsc : ScF G sc) (h : InL G a b sc M N id st va B W KS lk x u0 u) (e : kdS G (slO id x) = 5) (hnk : gnk G (dfn G (id (x / 60))) (x % 60) = 3) {P : St → Prop} (ky : ∀ U, RIs G a b sc M u0 lk U → P U) : wp_X1_choose u (nI x) (nI (60 * dfn G (id (x / 60)) + x % 60)) P := by
  obtain ⟨c1, c2, c3, c4⟩ := InL_x h
  obtain ⟨hd, hN, hlt⟩ := InL_d h
  have hJ := h.1.2.2.1
  have hC := h.1.2.1
  obtain ⟨z1, z2, z3⟩ := L_kid hw h (k0 := 0) (by omega) (fun _ => rfl)
  have hlt0 := vld_lt z1 hN
  have e' : gkd G (dfn G (id (x / 60))) (x % 60) = 5 := e
  refine a_inside hw hC hJ c1 c1.2 (k0 := 0) (by omega) rfl rfl ?_
  refine L_has h z1 z3 (l := 1) (Or.inr (Or.inr (Or.inr (Or.inr (Or.inr (Or.inl ⟨e, Or.inl ⟨rfl, z2⟩⟩)))))) rfl rfl (fun h3 => br_n (by decide) (numAt hlt0 ?_)) (fun U hU => br_p rfl (ky U hU))
  obtain ⟨v1, v2⟩ := VaC_rp h.2.1.2.2.1 z1 h3
  have hX0 : XM G N id st va (kidS G (slO id x) 0, some (va (kiO G id x 0))) := XM_k z1 z2 h3
  have hD := h.2.1.2.1
  have fin : ∀ k0, k0 < 3 → k0 ≠ 0 → (if (va (kiO G id x 0)).1 = 0 then 2 else 1) = k0 → ∀ y : Int32, y = nI k0 → wp_X1_choose_39 u (nI x) y (nI (60 * dfn G (id (x / 60)) + x % 60)) (nI x) P := fun k0 hk0 hk00 hw0 y hy => by
    obtain ⟨q1, q2, q3, q4⟩ := kiO_v hw c1 hd (k := k0) (by omega)
    refine a_inside hw hC hJ c1 c1.2 (k0 := k0) (by omega) rfl hy ?_
    have hL : Lfp G a b (slO id (kiO G id x k0), none) := by
      rw [q2]
      refine Lfp_step (Or.inr (Or.inr ⟨x % 60, va (kiO G id x 0), c1.2, e', (hD.2.2 x c1).1 (by omega), SdM_X hD hX0, ?_⟩))
      rw [hw0]; rfl
    refine L_reach h q1 hL (fun q hq => ?_) rfl (fun st' B' W' U hU s1 s3 s3' su => ?_)
    · rw [q3, q4] at hq
      rw [q3]
      have := ((hsc _ hd).2 _ c1.2).1 k0 (by omega)
      rw [if_neg (by omega)] at this
      rw [this] at hq
      exact h.2.1.2.2.2.2.2.2.1 x c1 (by omega) q hq
    · have hX0' := XM_up2 su s3 hX0
      refine L_follow hU q1 s1 (l := 2) (Or.inr (Or.inr (Or.inr (Or.inr (Or.inr (Or.inl ⟨e, Or.inr ⟨rfl, _, hX0', by rw [hw0]; exact q2⟩⟩)))))) (fun h3' => ?_) (fun _ => ⟨_, hX0', ?_⟩) rfl rfl ky
      · rw [Kn_5 e]; exact ⟨_, hX0', by rw [hw0]; exact XM_k q1 q2 h3'⟩
      · rw [hw0]; exact ⟨_, q1, q2, s1⟩
  rw [v1]
  refine br_b (fun c => fin 2 (by decide) (by decide) (by rw [if_pos c]) _ rfl) (fun c => fin 1 (by decide) (by decide) (by rw [if_neg c]) _ rfl)
theorem c_fetch {G : Prg} {a b : Int32} {sc : Nat → Nat → List Nat} {M N : Nat} {id : Nat → Cid} {st : Nat → Nat} {va : Nat → Vl} {B : List Nat} {W : Nat → List Nat} {KS : List Nat} {lk : Nat → Nat} {x : Nat} {u0 u : St} (hw : WFp G) (h : InL G a b sc M N id st va B W KS lk x u0 u) (e : kdS G (slO id x) = 9) (hnk : gnk G (dfn G (id (x / 60))) (x % 60) = 2) {P : St → Prop} (ky : ∀ U, RIs G a b sc M u0 lk U → P U) : wp_X1_fetch u (nI x) (nI (kiO G id x 0)) (nI (kiO G id x 1)) P := by
  obtain ⟨c1, c2, c3, c4⟩ := InL_x h
  obtain ⟨hd, hN, hlt⟩ := InL_d h
  have hJ := h.1.2.2.1
  have hC := h.1.2.1
  obtain ⟨z1, z2, z3⟩ := L_kid hw h (k0 := 0) (by omega) (fun _ => rfl)
  obtain ⟨y1, y2, y3⟩ := L_kid hw h (k0 := 1) (by omega) (fun e5 => by omega)
  have hlt0 := vld_lt z1 hN
  have hlt1 := vld_lt y1 hN
  have hif : kdS G (slO id x) = 5 → ∃ w, XM G N id st va (kidS G (slO id x) 0, some w) ∧ XM G N id st va (kidS G (slO id x) (if w.1 = 0 then 2 else 1), none) := fun e5 => by omega
  refine L_has h z1 z3 (l := 1) (Or.inr (Or.inr (Or.inr (Or.inr (Or.inr (Or.inr (Or.inl ⟨e, Or.inl ⟨rfl, z2⟩⟩))))))) rfl rfl (fun h3 => br_n (by decide) ?_) (fun U hU => br_p rfl (ky U hU))
  have hX0 : XM G N id st va (kidS G (slO id x) 0, some (va (kiO G id x 0))) := XM_k z1 z2 h3
  refine L_has h y1 y3 (l := 2) (Or.inr (Or.inr (Or.inr (Or.inr (Or.inr (Or.inr (Or.inl ⟨e, Or.inr (Or.inl ⟨rfl, ⟨_, hX0⟩, y2⟩)⟩))))))) rfl rfl (fun h4 => br_n (by decide) (numAt hlt1 (arrAt hlt0 ?_))) (fun U hU => br_p rfl (ky U hU))
  have hX1 : XM G N id st va (kidS G (slO id x) 1, some (va (kiO G id x 1))) := XM_k y1 y2 h4
  obtain ⟨v1, v2⟩ := VaC_rp h.2.1.2.2.1 z1 h3
  obtain ⟨w1, w2⟩ := VaC_rp h.2.1.2.2.1 y1 h4
  rw [w1]
  have no : ((va (kiO G id x 0)).2 = none ∨ (va (kiO G id x 1)).1 < 0 ∨ (va (kiO G id x 0)).1 ≤ (va (kiO G id x 1)).1) → wp_X1_fetch_69 u (nI x) (nI (kiO G id x 0)) (va (kiO G id x 1)).1 P := fun hn => br_p rfl (L_settle h (w := (0, none)) rfl rfl (by rw [Kn_9 e]; exact ⟨_, _, hX0, hX1, Or.inl ⟨hn, rfl⟩⟩) rp_no hif ky)
  cases ho : (va (kiO G id x 0)).2 with
  | none => rw [v2.1 ho]; exact br_p rfl (no (Or.inl ho))
  | some o =>
    obtain ⟨fc, r, t1, t2, t3, t4, t5⟩ := v2.2 o ho
    rw [t3]
    refine br_n (nI_m1 (by omega)) (br_b (fun c => no (Or.inr (Or.inl c))) (fun c => numAt hlt0 ?_))
    rw [v1]
    refine br_b (fun c2 => no (Or.inr (Or.inr c2))) (fun c2 => br_n (by decide) (arrAt hlt0 ?_))
    rw [t3]
    rw [t1] at c2
    obtain ⟨kk, hk1, hk2, _⟩ := pk_mu c c2 (by omega)
    obtain ⟨f1, f2⟩ := t5 kk hk1
    rw [hk2, nI_add]
    refine a_root hw hC hJ f1 rfl ?_
    have hdf := (hJ.2 _ f1).1
    obtain ⟨g1, g2, g3, g4⟩ := vld_in hw f1 hdf (WF_d hw hdf).2.2
    have hsl : slO id (60 * (fc + kk) + grt G (dfn G (id (fc + kk)))) = rtS G ((o.2, ix (va (kiO G id x 1)).1 + 1) :: o.1) := by
      rw [g2, hk2, ixN (by omega), f2]; rfl
    have hc2' : ¬ (va (kiO G id x 0)).1 ≤ (va (kiO G id x 1)).1 := by rw [t1]; exact c2
    exact L_follow h g1 (h.2.1.2.2.2.2.2.1 _ f1) (l := 3) (Or.inr (Or.inr (Or.inr (Or.inr (Or.inr (Or.inr (Or.inl ⟨e, Or.inr (Or.inr ⟨rfl, _, _, o, hX0, hX1, ho, c, hc2', hsl⟩)⟩))))))) (fun h5 => by rw [Kn_9 e]; exact ⟨_, _, hX0, hX1, Or.inr ⟨o, ho, c, hc2', XM_k g1 hsl h5⟩⟩) hif rfl rfl ky
theorem c_make {G : Prg} {a b : Int32} {sc : Nat → Nat → List Nat} {M N : Nat} {id : Nat → Cid} {st : Nat → Nat} {va : Nat → Vl} {B : List Nat} {W : Nat → List Nat} {KS : List Nat} {lk : Nat → Nat} {x : Nat} {u0 u : St} (hw : WFp G) (hsc : ScF G sc) (h : InL G a b sc M N id st va B W KS lk x u0 u) (e : kdS G (slO id x) = 8) (hnk : 1 ≤ gnk G (dfn G (id (x / 60))) (x % 60)) {P : St → Prop} (ky : ∀ U, RIs G a b sc M u0 lk U → P U) (ko : ∀ U, OVs G a b M u0 U → P U) : wp_X1_makeCells u (nI x) (nI (60 * dfn G (id (x / 60)) + x % 60)) P := by
  obtain ⟨c1, c2, c3, c4⟩ := InL_x h
  obtain ⟨hd, hN, hlt⟩ := InL_d h
  have hJ := h.1.2.2.1
  have hC := h.1.2.1
  obtain ⟨z1, z2, z3⟩ := L_kid hw h (k0 := 0) (by omega) (fun _ => rfl)
  have hlt0 := vld_lt z1 hN
  refine a_inside hw hC hJ c1 c1.2 (k0 := 0) (by omega) rfl rfl ?_
  refine L_has h z1 z3 (l := 1) (Or.inr (Or.inr (Or.inl ⟨Or.inr e, rfl, z2⟩))) rfl rfl (fun h3 => br_n (by decide) (numAt hlt0 (nm_i (nm_i ?_)))) (fun U hU => br_p rfl (ky U hU))
  obtain ⟨v1, v2⟩ := VaC_rp h.2.1.2.2.1 z1 h3
  have hX0 : XM G N id st va (kidS G (slO id x) 0, some (va (kiO G id x 0))) := XM_k z1 z2 h3
  obtain ⟨hSI, hSM, ⟨k1, k2, k3, k4⟩, ⟨l1, l2⟩, _⟩ := h
  have hD := hSM.2.1
  obtain ⟨q, hq, hqe⟩ := clC_q (va (kiO G id x 0)).1
  have hL : Lfp G a b (slO id x, some (nI q, some (slO id x))) := Lfp_step ⟨(hD.2.2 x c1).1 (by omega), by rw [Kn_8 e]; exact ⟨_, SdM_X hD hX0, by rw [hqe]⟩⟩
  have hno : ∀ j k, j < N → 0 ≤ k → id j ≠ (x % 60, k + 1) :: id (x / 60) := fun j k hj _ he => by
    have := (hSM.2.2.2.2.2.2.2.1 j _ _ (x / 60) hj he c1.1 rfl).2.2 (by show k + 1 ≠ 0; omega)
    have hx2 : 60 * (x / 60) + (x % 60, k + 1).1 = x := by show 60 * (x / 60) + x % 60 = x; omega
    rw [hx2] at this
    rcases this.2 with h | h
    · omega
    · exact h
  have hclC : (if 0 < (if 40 < gA u 34 (kiO G id x 0) then 40 else gA u 34 (kiO G id x 0)) then (if 40 < gA u 34 (kiO G id x 0) then 40 else gA u 34 (kiO G id x 0)) else 0) = nI q := by rw [v1]; exact hqe
  rw [hclC, hJ.1.1]
  have hSM2 : SMc G a b sc N id st va B W (fun _ => False) (fun z => z = x) lk u := by
    obtain ⟨m1, m2, m3, m4, m5, m6, m7, m8, m9, m10, m11⟩ := hSM
    refine ⟨m1, m2, m3, m4, m5, m6, m7, fun j e c j' a1 a2 a3 a4 => ?_, m9, m10, m11⟩
    obtain ⟨p1, p2, p3⟩ := m8 j e c j' a1 a2 a3 a4
    exact ⟨p1, p2, fun hne => ⟨(p3 hne).1, (p3 hne).2.imp (fun h => h) (fun h => h.elim)⟩⟩
  exact ⟨_, c_cells (a := a) (b := b) (KS := KS) (cn := cellN N id) hw hsc hd c1.2 e hq hL l1 hqe ky ko q 0 N id st B W u (by omega) rfl c1.1 rfl (fun k hk => absurd hk (Nat.not_lt_zero _)) hno hSI hSM2 ⟨k1, k2, k3, k4, rfl⟩ ⟨l1, l2⟩ hX0⟩
theorem c_23 {G : Prg} {a b : Int32} {sc : Nat → Nat → List Nat} {M N : Nat} {id : Nat → Cid} {st : Nat → Nat} {va : Nat → Vl} {B : List Nat} {W : Nat → List Nat} {KS : List Nat} {lk : Nat → Nat} {x : Nat} {u0 u : St} (hw : WFp G) (hsc : ScF G sc) (h : InL G a b sc M N id st va B W KS lk x u0 u) {P : St → Prop} (ky : ∀ U, RIs G a b sc M u0 lk U → P U) (ko : ∀ U, OVs G a b M u0 U → P U) : wp_X1_lookAt_23 u (nI x) (nI (60 * dfn G (id (x / 60)) + x % 60)) P := by
  obtain ⟨c1, c2, c3, c4⟩ := InL_x h
  obtain ⟨hd, hN, hlt⟩ := InL_d h
  have hJ := h.1.2.2.1
  have hC := h.1.2.1
  have hp := c1.2
  obtain ⟨d1, d2, d3⟩ := WF_d hw hd
  obtain ⟨p1, p2, p3, p4⟩ := (hC.2 _ hd).2.2.2 _ hp
  have hin : vp_in (nI (60 * dfn G (id (x / 60)) + x % 60)) 720 := inN (by omega) (by decide)
  have hw5 := (hw.2 _ hd).2.2.2.2
  refine br_p h.2.1.1.2.2.1 ⟨hin, ?_⟩
  rw [ixN (by omega), p1]
  have hD := h.2.1.2.1
  have hif : kdS G (slO id x) ≠ 5 → kdS G (slO id x) = 5 → ∃ w, XM G N id st va (kidS G (slO id x) 0, some w) ∧ XM G N id st va (kidS G (slO id x) (if w.1 = 0 then 2 else 1), none) := fun a c => absurd c a
  rcases (hw5 _ hp).2.2 with r | r | r | r | r | r | r | r | r | r
  · have e : kdS G (slO id x) = 1 := r
    rw [r]
    exact br_p rfl ⟨hin, L_settle h (w := (nuS G (slO id x), none)) rfl (p2 (Or.inl r)) (by rw [Kn_1 e]) rp_no (hif (by omega)) ky⟩
  · obtain ⟨r, q, hq, hnu⟩ := r
    have e : kdS G (slO id x) = 2 := r
    rw [r]
    refine br_n (by decide) (br_p rfl ⟨hin, ?_⟩)
    rw [p2 (Or.inr (Or.inl r)), hnu]
    exact c_arg hw h e hq hnu ky
  · obtain ⟨r, q, hq, hnu, hq6⟩ := r
    have e : kdS G (slO id x) = 3 := r
    rw [r]
    refine br_n (by decide) (br_n (by decide) (br_p rfl ⟨hin, ?_⟩))
    rw [p2 (Or.inr (Or.inr (Or.inl r))), hnu]
    have hnk2 : 0 < gnk G (dfn G (id (x / 60))) q := by
      rcases (hw5 q hq).2.2 with t | t | t | t | t | t | t | t | t | t
      all_goals first | omega | (exfalso; have := t.1; rw [hq6] at this; simp at this)
    have hkid := (hw5 q hq).2.1 0 hnk2
    obtain ⟨g1, g2, g3, g4⟩ := vld_in hw c1.1 hd hkid
    refine a_inside hw hC hJ c1 hq (k0 := 0) hnk2 rfl rfl ?_
    have hscq := ((hsc _ hd).2 _ hp).2 q r hq hnu
    have hre := (h.2.1.2.2.2.2.2.2.1 x c1 (by omega) q hscq).2
    have hix : ix (nuS G (slO id x)) % 60 = q := by
      have : nuS G (slO id x) = nI (60 * dfn G (id (x / 60)) + q) := hnu
      rw [this, ixN (by omega)]; omega
    have hsl : slO id (60 * (x / 60) + gkid G (dfn G (id (x / 60))) q 0) = ((slO id x).1, gkid G (dfn G (slO id x).1) (ix (nuS G (slO id x)) % 60) 0) := by rw [g2, hix]; rfl
    exact L_follow h g1 hre (l := 1) (Or.inr (Or.inl ⟨e, rfl, hsl⟩)) (fun h3 => by rw [Kn_3 e]; exact XM_k g1 hsl h3) (hif (by omega)) rfl rfl ky
  · obtain ⟨r, hnk⟩ := r
    have e : kdS G (slO id x) = 4 := r
    rw [r]
    refine br_n (by decide) (br_n (by decide) (br_n (by decide) (br_p rfl (a_inside hw hC hJ c1 hp (k0 := 0) (by omega) rfl rfl ?_))))
    obtain ⟨z1, z2, z3⟩ := L_kid hw h (k0 := 0) (by omega) (fun _ => rfl)
    refine L_has h z1 z3 (l := 1) (Or.inr (Or.inr (Or.inl ⟨Or.inl e, rfl, z2⟩))) rfl rfl (fun h3 => br_n (by decide) (numAt (vld_lt z1 hN) ?_)) (fun U hU => br_p rfl (ky U hU))
    obtain ⟨v1, v2⟩ := VaC_rp h.2.1.2.2.1 z1 h3
    have v1' : gA u 34 (60 * (x / 60) + gkid G (dfn G (id (x / 60))) (x % 60) 0) = (va (kiO G id x 0)).1 := v1
    rw [v1]
    exact L_settle h (w := (-(va (kiO G id x 0)).1, none)) rfl rfl (by rw [Kn_4 e]; exact ⟨_, XM_k z1 z2 h3, rfl⟩) rp_no (hif (by omega)) ky
  · obtain ⟨r, hnk⟩ := r
    rw [r]
    exact br_n (by decide) (br_n (by decide) (br_n (by decide) (br_n (by decide) (br_p rfl (c_choose hw hsc h r hnk ky)))))
  · obtain ⟨r, hnk⟩ := r
    have e : kdS G (slO id x) = 6 := r
    rw [r]
    refine br_n (by decide) (br_n (by decide) (br_n (by decide) (br_n (by decide) (br_n (by decide) (br_p rfl (a_inside hw hC hJ c1 hp (k0 := 1) (by omega) rfl rfl ?_))))))
    obtain ⟨z1, z2, z3⟩ := L_kid hw h (k0 := 1) (by omega) (fun e5 => by omega)
    exact L_follow h z1 z3 (l := 1) (Or.inr (Or.inr (Or.inr (Or.inl ⟨e, rfl, z2⟩)))) (fun h3 => by rw [Kn_6 e]; exact XM_k z1 z2 h3) (hif (by omega)) rfl rfl ky
  · obtain ⟨r, t, t1, t2, t3⟩ := r
    have e : kdS G (slO id x) = 7 := r
    rw [r]
    refine br_n (by decide) (br_n (by decide) (br_n (by decide) (br_n (by decide) (br_n (by decide) (br_n (by decide) (br_p rfl ⟨inN hlt (by decide), ?_⟩))))))
    obtain ⟨j, j1, j2, j3⟩ := h.2.1.2.2.2.1 x c1 e (by omega) (fun h => h)
    rw [ixN (by omega), j2]
    refine a_root hw hC hJ j1 rfl ?_
    have hdf := (hJ.2 _ j1).1
    obtain ⟨g1, g2, g3, g4⟩ := vld_in hw j1 hdf (WF_d hw hdf).2.2
    have hsl : slO id (60 * j + grt G (dfn G (id j))) = rtS G (((slO id x).2, 0) :: (slO id x).1) := by rw [g2, j3]; rfl
    exact L_follow h g1 (h.2.1.2.2.2.2.2.1 j j1) (l := 1) (Or.inr (Or.inr (Or.inr (Or.inr (Or.inl ⟨e, rfl, hsl⟩))))) (fun h3 => by rw [Kn_7 e]; exact XM_k g1 hsl h3) (hif (by omega)) rfl rfl ky
  · obtain ⟨r, hnk, _⟩ := r
    rw [r]
    exact br_n (by decide) (br_n (by decide) (br_n (by decide) (br_n (by decide) (br_n (by decide) (br_n (by decide) (br_n (by decide) (br_p rfl (c_make hw hsc h r hnk ky ko))))))))
  · obtain ⟨r, hnk⟩ := r
    rw [r]
    refine br_n (by decide) (br_n (by decide) (br_n (by decide) (br_n (by decide) (br_n (by decide) (br_n (by decide) (br_n (by decide) (br_n (by decide) (br_p rfl (a_inside hw hC hJ c1 hp (k0 := 0) (by omega) rfl rfl (a_inside hw hC hJ c1 hp (k0 := 1) (by omega) rfl rfl ?_))))))))))
    exact c_fetch hw h r hnk ky
  · obtain ⟨r, hnk⟩ := r
    have h10 : 10 ≤ gkd G (dfn G (id (x / 60))) (x % 60) ∧ gkd G (dfn G (id (x / 60))) (x % 60) < 1000 := by simp at r; omega
    have e : 10 ≤ kdS G (slO id x) := h10.1
    have neq : ∀ c : Nat, c < 10 → ¬ nI (gkd G (dfn G (id (x / 60))) (x % 60)) = nI c := fun c hc he => by rw [nI_eq (by omega) (by omega)] at he; omega
    refine br_n (neq 1 (by decide)) (br_n (neq 2 (by decide)) (br_n (neq 3 (by decide)) (br_n (neq 4 (by decide)) (br_n (neq 5 (by decide)) (br_n (neq 6 (by decide)) (br_n (neq 7 (by decide)) (br_n (neq 8 (by decide)) (br_n (neq 9 (by decide)) (a_inside hw hC hJ c1 hp (k0 := 0) (by omega) rfl rfl (a_inside hw hC hJ c1 hp (k0 := 1) (by omega) rfl rfl ?_))))))))))
    obtain ⟨z1, z2, z3⟩ := L_kid hw h (k0 := 0) (by omega) (fun _ => rfl)
    obtain ⟨y1, y2, y3⟩ := L_kid hw h (k0 := 1) (by omega) (fun e5 => by omega)
    refine L_has h z1 z3 (l := 1) (Or.inr (Or.inr (Or.inr (Or.inr (Or.inr (Or.inr (Or.inr ⟨e, Or.inl ⟨rfl, z2⟩⟩))))))) rfl rfl (fun h3 => br_n (by decide) ?_) (fun U hU => br_p rfl (ky U hU))
    have hX0 : XM G N id st va (kidS G (slO id x) 0, some (va (kiO G id x 0))) := XM_k z1 z2 h3
    refine L_has h y1 y3 (l := 2) (Or.inr (Or.inr (Or.inr (Or.inr (Or.inr (Or.inr (Or.inr ⟨e, Or.inr ⟨rfl, ⟨_, hX0⟩, y2⟩⟩))))))) rfl rfl (fun h4 => br_n (by decide) (numAt (vld_lt z1 hN) (numAt (vld_lt y1 hN) ⟨hin, ?_⟩))) (fun U hU => br_p rfl (ky U hU))
    have hX1 : XM G N id st va (kidS G (slO id x) 1, some (va (kiO G id x 1))) := XM_k y1 y2 h4
    obtain ⟨v1, v2⟩ := VaC_rp h.2.1.2.2.1 z1 h3
    obtain ⟨w1, w2⟩ := VaC_rp h.2.1.2.2.1 y1 h4
    have v1' : gA u 34 (60 * (x / 60) + gkid G (dfn G (id (x / 60))) (x % 60) 0) = (va (kiO G id x 0)).1 := v1
    have w1' : gA u 34 (60 * (x / 60) + gkid G (dfn G (id (x / 60))) (x % 60) 1) = (va (kiO G id x 1)).1 := w1
    rw [v1, w1]
    refine c_comb r (by rw [ixN (by omega)]; exact p1) ?_
    exact L_settle h (w := (opr (kdS G (slO id x)) (va (kiO G id x 0)).1 (va (kiO G id x 1)).1, none)) rfl rfl (by rw [Kn_10 e]; exact ⟨_, _, hX0, hX1, rfl⟩) rp_no (hif (by omega)) ky
