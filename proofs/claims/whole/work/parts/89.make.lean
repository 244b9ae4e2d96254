/-! 89.make: an array's cells begin -/
theorem clC_q (x : Int32) : ∃ q, q ≤ 40 ∧ clC x = nI q := by
  unfold clC
  by_cases h1 : 40 < x
  · refine ⟨40, by decide, ?_⟩
    rw [if_pos h1]; rfl
  · rw [if_neg h1]
    by_cases h2 : 0 < x
    · rw [if_pos h2]
      obtain ⟨j, hj, he⟩ := nI_of2 (x := x) (M := 40) (n := 40) (by decide) (by
        rw [Int32.lt_iff_toInt_lt] at h2 ⊢; have e : (0 : Int32).toInt = 0 := rfl; rw [e] at h2 ⊢; omega) (by
        rw [Int32.lt_iff_toInt_lt] at h1; rw [Int32.le_iff_toInt_le]; have e : (40 : Int32).toInt = 40 := rfl; rw [e] at h1 ⊢; omega)
      exact ⟨j, by omega, he⟩
    · rw [if_neg h2]; exact ⟨0, by decide, rfl⟩
theorem SI_par {G : Prg} {M N : Nat} {id : Nat → Cid} {st : Nat → Nat} {B : List Nat} {W : Nat → List Nat} {cu : Nat → Prop} {u0 u : St} (hw : WFp G) (h : SIc G M N id st B W cu u0 u) : ∀ j e c', j < N → id j = e :: c' → (∃ j', j' < N ∧ id j' = c') ∧ e.1 < 60 := fun j e c' hj he => by
  have := (h.2.2.1.2 j hj).2.2
  unfold mkJ at this
  rw [he] at this
  obtain ⟨j', q1, q2, q3, _⟩ := this
  have hd := (h.2.2.1.2 j' q1).1
  rw [q2] at hd
  have := (WF_d hw hd).2.1
  exact ⟨⟨j', q1, q2⟩, by omega⟩
theorem c_cells {G : Prg} {a b : Int32} {sc : Nat → Nat → List Nat} {M N0 : Nat} {c0 : Cid} {va : Nat → Vl} {KS : List Nat} {lk : Nat → Nat} {x q cn : Nat} {u0 : St} {P : St → Prop} (hw : WFp G) (hsc : ScF G sc) (hd0 : dfn G c0 < gn G) (hp : x % 60 < gnp G (dfn G c0)) (h8 : gkd G (dfn G c0) (x % 60) = 8) (hq : q ≤ 40) (hL : Lfp G a b ((c0, x % 60), some (nI q, some (c0, x % 60)))) (hlk : ∀ z, lk z ≤ 4) {w0 : Vl} (hw0 : clC w0.1 = nI q)
    (ky : ∀ U, RIs G a b sc M u0 lk U → P U) (ko : ∀ U, OVs G a b M u0 U → P U) : ∀ (f i N : Nat) (id : Nat → Cid) (st : Nat → Nat) (B : List Nat) (W : Nat → List Nat) (u : St), i + f = q → N = N0 + i → x / 60 < N0 → id (x / 60) = c0 → (∀ k, k < i → id (N0 + k) = (x % 60, k + 1) :: c0) → (∀ j k, j < N → i ≤ k → id j ≠ (x % 60, k + 1) :: c0) → SIc G M N id st B W (fun z => z = x) u0 u → SMc G a b sc N id st va B W (fun _ => False) (fun z => z = x) lk u → (gI u 20 = nI KS.length ∧ KS.Nodup ∧ (∀ z, z ∈ KS ↔ vld G N id z ∧ st z = 3) ∧ gI u 19 = nI cn ∧ cellN N id = cn + i) → LKc G N id st lk → XM G N id st va (kidS G (c0, x % 60) 0, some w0) → wp_X1_makeCells_49 P (f + 2) u (nI x) (nI (60 * dfn G c0 + x % 60)) (nI q) (nI N0) (nI i)
  | f, i, N, id, st, B, W, u, hi, hN, hx0, hxc, hids, hnew, hSI, hSM, ⟨k1, k2, k3, k4, k5⟩, hLK, hX0 => by
    obtain ⟨c1, c2, c3, c4⟩ := hSI.2.2.2.2.2.2.2 x rfl
    have hN300 : N ≤ 300 := by have := hSI.2.2.1.1; omega
    have hsx : slO id x = (c0, x % 60) := by unfold slO; rw [hxc]
    have hkS : kdS G (slO id x) = 8 := by rw [hsx]; exact h8
    cases f with
    | zero =>
      have hiq : i = q := by omega
      subst hiq
      refine br_p (by simp (disch := omega) only [nI_leI, nI_ltI, nI_eq]; omega) (nm_i ?_)
      refine o_settle (u := sI u 19 (gI u 19 + nI i)) hSI rfl rfl (fun U hU eI e20 eA e34 e35 => ky U ⟨N, id, uF st x 3, uF va x (nI i, some (c0, x % 60)), B ++ W x, uF W x [], x :: KS, ?_, ?_, ⟨?_, ?_, fun z => ?_, ?_⟩, hlk, fun z hz => hLK.2 z (hz.imp (fun h => h) (fun h => ?_))⟩)
      · rw [cuF] at hU; exact hU
      · refine M_settle (q := nI N0) hSM c1 c2 c4 (fun h => h) (by rw [hsx]; exact hL) (by rw [Kn_8 hkS, hsx]; exact ⟨w0, hX0, by rw [hw0]⟩) ⟨fun h => absurd h (by simp), fun o ho => ?_⟩ (fun e => by omega) (fun z hz => Or.inr hz) (fun y z hz => (hSI.2.2.2.2.2.1.2.2.1 y z hz).2.2.1) (fun j hj => ?_) ?_ ?_ ?_
        · cases ho
          exact ⟨N0, i, rfl, hq, rfl, by omega, fun k hk => ⟨by omega, hids k hk⟩⟩
        · rw [eI j (by omega) (by omega), gI_sI, if_neg (by omega)]
        · rw [eA 29 (by decide) (by decide) (by decide) (by decide)]; rfl
        · exact e34
        · exact e35
      · have e : gI (sI u 19 (gI u 19 + nI i)) 20 = nI KS.length := k1
        rw [e20, e, nI_1]; rfl
      · exact List.nodup_cons.mpr ⟨fun hm => by have := ((k3 x).mp hm).2; omega, k2⟩
      · rw [List.mem_cons, k3 z]
        constructor
        · rintro (rfl | ⟨q1, q2⟩)
          · exact ⟨c1, uF_s⟩
          · exact ⟨q1, by rw [uF_o (fun e => by rw [e] at q2; omega)]; exact q2⟩
        · rintro ⟨q1, q2⟩
          by_cases e : z = x
          · exact Or.inl e
          · rw [uF_o e] at q2; exact Or.inr ⟨q1, q2⟩
      · rw [eI 19 (by decide) (by decide), k5]
        show gI u 19 + nI i = _
        rw [k4, nI_add]
      · by_cases e : z = x
        · rw [e, uF_s] at h; omega
        · rw [uF_o e] at h; exact h
    | succ f =>
      obtain ⟨_, _, _, _, w5⟩ := hw.2 _ hd0
      obtain ⟨t, t1, t2, t3⟩ : ∃ t, t < gn G ∧ gnu G (dfn G c0) (x % 60) = nI t ∧ gar G t = gnk G (dfn G c0) (x % 60) + 1 := by
        rcases (w5 _ hp).2.2 with r | r | r | r | r | r | r | r | r | r
        all_goals first | (exfalso; omega) | skip
        · exact r.2.2
        · exfalso; have := r.1; rw [h8] at this; simp at this
      obtain ⟨d1, d2, d3⟩ := WF_d hw hd0
      have hdc : dfn G ((x % 60, i + 1) :: c0) = t := by show ix (gnu G (dfn G c0) (x % 60)) = t; rw [t2, ixN (by omega)]
      have hinP : vp_in (nI (60 * dfn G c0 + x % 60)) 720 := inN (by omega) (by decide)
      have e26 : gA u 26 (60 * dfn G c0 + x % 60) = nI t := by
        have := ((hSI.2.1.2 _ hd0).2.2.2 _ hp).2.1 (by omega)
        rw [this]; exact t2
      have hexC : exC G (Lfp G a b) ((x % 60, i + 1) :: c0) := ⟨hp, Or.inr ⟨h8, i, q, rfl, by omega, hq, hL⟩⟩
      refine br_n (by simp (disch := omega) only [nI_leI, nI_ltI, nI_eq]; omega) (br_p hSM.1.2.2.1 ⟨hinP, ?_⟩)
      rw [ixN (by omega), e26]
      refine o_begin hw hSI (c := (x % 60, i + 1) :: c0) (by rw [hdc]; exact t1) (by rw [hdc]) ⟨x / 60, by omega, hxc, hp, by show i + 1 ≤ 40; omega, by congr 1; show x = 60 * (x / 60) + x % 60; omega, by show nI i = if i + 1 = 0 then _ else nI (i + 1 - 1); rw [if_neg (by omega)]; rfl⟩ (fun hNM U hU eI e29 e34 e35 => nm_i ?_) (fun hNM => nm_i ?_)
      · rw [nI_1]
        have hSM2 := M_begin (U := U) hw hSM (c := (x % 60, i + 1) :: c0) (by rw [hdc]; exact t1) hexC (fun j hj => hnew j i hj (Nat.le_refl _)) (fun j e c' hj he => (SI_par hw hSI j e c' hj he).1) (fun y z hz => ⟨(hSI.2.2.2.2.2.1.2.2.1 y z hz).1.1, (hSI.2.2.2.2.2.1.2.2.1 y z hz).2.1⟩) (fun z hz => (hSI.2.2.2.2.1.2.2 z hz).1) (by rw [hdc]; exact (hsc t t1).1) (fun j hj => (hSI.2.2.1.2 j hj).1) (fun e c' j' he hj' hid => ?_) (fun e c' j' he _ _ => by cases he; show x % 60 < 60; omega) (fun j e c' hj he => (SI_par hw hSI j e c' hj he).2) (fun j hj => eI j (by omega) (by omega)) (fun j hj => by rcases hj with rfl | rfl | rfl <;> assumption)
        · have hlow : ∀ z, z / 60 = N → stN st N (60 * N + grt G (dfn G ((x % 60, i + 1) :: c0))) z ≤ 1 := fun z hz => by unfold stN; rw [if_pos hz]; split <;> omega
          have hst : ∀ z, z / 60 < N → stN st N (60 * N + grt G (dfn G ((x % 60, i + 1) :: c0))) z = st z := fun z hz => by unfold stN; rw [if_neg (by omega)]
          refine c_cells hw hsc hd0 hp h8 hq hL hlk hw0 ky ko f (i + 1) (N + 1) _ _ _ _ U (by omega) (by omega) hx0 (by rw [uF_o (by omega)]; exact hxc) (fun k hk => ?_) (fun j k hj hk => ?_) hU hSM2 ⟨by rw [eI 20 (by decide) (by decide)]; exact k1, k2, fun z => ?_, by rw [eI 19 (by decide) (by decide)]; exact k4, ?_⟩ ⟨hlk, fun z hz => hLK.2 z ?_⟩ (XM_new hX0)
          · rcases (show k < i ∨ k = i by omega) with hk | rfl
            · rw [uF_o (by omega)]; exact hids k hk
            · rw [show N0 + k = N by omega, uF_s]
          · rcases (show j < N ∨ j = N by omega) with hj | rfl
            · rw [uF_o (by omega)]; exact hnew j k hj (by omega)
            · rw [uF_s]; intro he; simp at he; omega
          · rw [k3 z, vld_new]
            constructor
            · rintro ⟨p1, p2⟩; exact ⟨Or.inl p1, by rw [hst z p1.1]; exact p2⟩
            · rintro ⟨p1 | p1, p2⟩
              · rw [hst z p1.1] at p2; exact ⟨p1, p2⟩
              · have := hlow z p1.1; omega
          · rw [cellN_new, if_pos (by show decide (i + 1 ≠ 0) = true; simp), k5]; omega
          · by_cases hv : vld G N id z
            · rcases hz with hz | hz
              · exact absurd (vld_new.mpr (Or.inl hv)) hz
              · rw [hst z hv.1] at hz; exact Or.inr hz
            · exact Or.inl hv
        · cases he
          have hj : j' = x / 60 := hSM.2.1.1 j' (x / 60) hj' (by omega) (hid.trans hxc.symm)
          subst hj
          have hxx : 60 * (x / 60) + (x % 60, i + 1).1 = x := by show 60 * (x / 60) + x % 60 = x; omega
          rw [hxx]
          exact ⟨by omega, fun h => absurd h (by show ¬ i + 1 = 0; omega), fun _ => ⟨h8, Or.inr rfl⟩⟩
      · -- too many
        rw [nI_1]
        have h86 : wp_X1_makeCells_86 (sI u 17 1) (nI x) (nI q) (nI N0) P := by
          refine nm_i ?_
          have hSI2 : SIc G M N id st B W (fun z => z = x) u0 (sI (sI u 17 1) 19 (gI (sI u 17 1) 19 + nI q)) := hSI
          refine o_settle hSI2 rfl rfl (fun U hU eI e20 eA e34 e35 => ko U ⟨hU.1, ?_, N, id, st, va, (x % 60, i + 1) :: c0, hSM.2.1, hNM, hexC, fun j hj => hnew j i hj (Nat.le_refl _)⟩)
          rw [eI 17 (by decide) (by decide)]; rfl
        exact br_b (fun _ => h86) (fun _ => br_n (by show ¬ (1 : Int32) = 0; decide) h86)
