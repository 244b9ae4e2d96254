/-! 98h.refU: all that the reference tells -/
theorem t_41 {G : Prg} {bk M N : Nat} {id : Nat → Cid} {st : Nat → Nat} {v0 v : St} (hw : WFp G) (hSR : SRm G bk M N id st v0 v) (h32 : ∀ x, vld G N id x → st x = 3 → gA v 32 x = nI (ix (gA v 32 x)) ∧ ix (gA v 32 x) ≤ 40 ∧ (kdS G (slO id x) ≠ 8 → ix (gA v 32 x) = 0) ∧ (ix (gA v 32 x) ≠ 0 → kdS G (slO id x) = 8 ∧ gA v 31 x = nI (ix (gA v 31 x)) ∧ ∀ k, k < ix (gA v 32 x) → ix (gA v 31 x) + k < N)) {P : St → Prop} (kk : ∀ V, TV v V (nI N) (nI ((List.range (60 * N)).filter (knB G id st)).length) (nI ((CLt G id st v (60 * N)).filter (krB G id st)).length) (nI (CLt G id st v (60 * N)).length) → P V) : ∀ (f y : Nat) (V : St), y + f = 60 * N → TV v V (nI N) (nI ((List.range y).filter (knB G id st)).length) (nI ((CLt G id st v y).filter (krB G id st)).length) (nI (CLt G id st v y).length) → wp_X7_tell_41 P (f + 1) V (nI y) := by
  intro f
  have hNM := hSR.2.2.1.1
  have e60 : 60 * nI N = nI (60 * N) := by show nI 60 * nI N = _; rw [pk_mul]
  have z0 : ∀ n : Int32, n + 0 = n := Int32.add_zero
  induction f with
  | zero =>
    intro y V hy hV
    rw [show y = 60 * N by omega] at hV ⊢
    refine br_p ?_ (kk V hV)
    rw [hV.1.1 15, hNM.1, e60]; simp (disch := omega) only [nI_leI, nI_ltI, nI_eq] <;> omega
  | succ f ih =>
    intro y V hy hV
    have hSV : SRm G bk M N id st v0 V := SR_fr hSR (fun i _ => hV.1.1 i) (fun i hi => hV.1.2 i (by omega))
    have hyN : y / 60 < N := by omega
    have hd := (hSR.2.2.1.2 _ hyN).1
    have hb1 : bk ≤ 1 := hSR.2.1.2.1
    obtain ⟨d12, d60, _⟩ := WF_d hw hd
    have hiny : vp_in (nI y) 18000 := inN (by omega) (by decide)
    have v1 : vp_in (1 : Int32) 4 := inN (n := 1) (by decide) (by decide)
    have v3 : vp_in (3 : Int32) 4 := inN (n := 3) (by decide) (by decide)
    have hmod : nI y - nI (y / 60) * 60 = nI (y % 60) := by rw [← pk_d6 (by omega)]; exact pk_m6 (by omega)
    have fin : ∀ V2, TV v V2 (nI N) (nI ((List.range (y + 1)).filter (knB G id st)).length) (nI ((CLt G id st v (y + 1)).filter (krB G id st)).length) (nI (CLt G id st v (y + 1)).length) → wp_X7_tell_223 (wp_X7_tell_41 P (f + 1)) V2 (nI y) P := fun V2 h2 => nm_i (by rw [nI_1]; exact ih (y + 1) V2 (by omega) h2)
    have no : knB G id st y = false → wp_X7_tell_94 (wp_X7_tell_41 P (f + 1)) V (nI y) P := fun hk => by
      have hV2 : TV v (sA (sA V 33 1 (gA V 33 1 + 0)) 33 3 (gA (sA V 33 1 (gA V 33 1 + 0)) 33 3 + 0)) (nI N) (nI ((List.range (y + 1)).filter (knB G id st)).length) (nI ((CLt G id st v (y + 1)).filter (krB G id st)).length) (nI (CLt G id st v (y + 1)).length) := by
        have hc : clL G id st v y = [] := by unfold clL; rw [if_neg (by rw [hk]; decide)]
        rw [CLt_s, hc, List.append_nil, List.range_succ, List.filter_append, List.filter_cons_of_neg (by rw [hk]; decide), List.filter_nil, List.append_nil, z0, z0, hV.2.2.1, (TV_1 hV).2.2.2.2]
        exact TV_3 (TV_1 hV)
      unfold wp_X7_tell_94 wp_X7_tell_95 wp_X7_tell_112 wp_X7_tell_149 wp_X7_tell_150
      rw [ixL1, ixL3]
      exact ⟨v1, br_p rfl ⟨v1, nm_i ⟨v3, br_p rfl ⟨v3, nm_i ⟨1, hiny, br_b (fun _ => fin _ hV2) (fun _ => br_p rfl (fin _ hV2))⟩⟩⟩⟩⟩
    refine br_n (by rw [hV.1.1 15, hNM.1, e60]; simp (disch := omega) only [nI_leI, nI_ltI, nI_eq]; omega) ?_
    rw [pk_d6 (by omega)]
    refine ⟨inN (by omega) (by decide), ?_⟩
    rw [ixN (by omega), r_ix hw hSV.2.1 hSV.2.2.1 hyN, hmod]
    refine ⟨inN (by omega) (by decide), ?_⟩
    rw [ixN (by omega), (hSV.2.1.2.2.2 _ hd).2.1]
    refine br_b (fun c => no ?_) (fun c => ⟨hiny, ?_⟩)
    · simp (disch := omega) only [nI_leI, nI_ltI, nI_eq] at c
      unfold knB; exact decide_eq_false (fun h => by omega)
    · simp (disch := omega) only [nI_leI, nI_ltI, nI_eq] at c
      have hvy : vld G N id y := ⟨hyN, by omega⟩
      obtain ⟨s0, s1, s2⟩ := hSV.2.2.2 _ hvy
      rw [ixN (by omega), s2]
      by_cases h3 : st y = 3
      · rw [if_pos h3]
        refine br_n (by decide) ?_
        have hk : knB G id st y = true := by unfold knB; exact decide_eq_true ⟨by omega, h3⟩
        obtain ⟨q1, q2, q3, q4⟩ := h32 y hvy h3
        have hc : clL G id st v y = (List.range (ix (gA v 32 y))).map (fun k => ix (gA v 31 y) + k) := by unfold clL; rw [if_pos hk]
        have hrl : ((List.range (y + 1)).filter (knB G id st)).length = ((List.range y).filter (knB G id st)).length + 1 := by
          rw [List.range_succ, List.filter_append, List.filter_cons_of_pos hk, List.filter_nil, List.length_append]; rfl
        have hcl : (CLt G id st v (y + 1)).length = (CLt G id st v y).length + ix (gA v 32 y) := by
          rw [CLt_s, List.length_append, hc, List.length_map, List.length_range]
        have go : ∀ V2, TV v V2 (nI N) (nI ((List.range (y + 1)).filter (knB G id st)).length) (nI ((CLt G id st v y).filter (krB G id st)).length) (nI (CLt G id st v (y + 1)).length) → ∃ n, wp_X7_tell_154 (wp_X7_tell_41 P (f + 1)) P n V2 (nI y) 1 0 := fun V2 h2 => by
          refine ⟨ix (gA v 32 y) + 1, t_154 hw hSR hvy q1 q2 q4 (c := ((CLt G id st v y).filter (krB G id st)).length) (fun V3 h3 => ih (y + 1) V3 (by omega) ?_) (ix (gA v 32 y)) 0 V2 (by omega) h2⟩
          rw [CLt_s, List.filter_append, List.length_append, hc]
          rw [CLt_s, hc] at h3; exact h3
        have hV1 : TV v (sA V 33 1 (gA V 33 1 + 1)) (nI N) (nI ((List.range (y + 1)).filter (knB G id st)).length) (nI ((CLt G id st v y).filter (krB G id st)).length) (nI (CLt G id st v y).length) := by
          rw [hrl, ← nI_1, ← hV.2.2.1]; exact TV_1 hV
        have hS1 : SRm G bk M N id st v0 (sA V 33 1 (gA V 33 1 + 1)) := SR_fr hSR (fun i _ => hV1.1.1 i) (fun i hi => hV1.1.2 i (by omega))
        unfold wp_X7_tell_95 wp_X7_tell_112 wp_X7_tell_149 wp_X7_tell_150
        rw [ixL1, ixL3]
        refine ⟨v1, br_n (by decide) ⟨v1, nm_i ⟨v3, br_n (by decide) (r_part hw hS1.2.1 hS1.2.2.1 hvy ⟨inN (by omega) (by decide), ?_⟩)⟩⟩⟩
        rw [ixN (by omega)]
        by_cases e8 : kdS G (slO id y) = 8
        · refine br_p ((m_k9 hw hS1.2.1 hd hvy.2).1 e8) ⟨hiny, v3, nm_i (go _ ?_)⟩
          rw [ixN (by omega), hV1.1.2 32 (by decide), q1, hV1.2.2.2.2, nI_add, hcl]
          exact TV_3 hV1
        · refine br_n ((m_k9 hw hS1.2.1 hd hvy.2).2 e8) ⟨v3, nm_i (go _ ?_)⟩
          rw [z0, hV1.2.2.2.2, hcl, q3 e8, Nat.add_zero]
          exact TV_3 hV1
      · rw [if_neg h3]
        exact br_p rfl (no (by unfold knB; exact decide_eq_false (fun h => h3 h.2)))
theorem m_tell {G : Prg} {bk M N : Nat} {id : Nat → Cid} {st : Nat → Nat} {v0 v : St} (hw : WFp G) (hSR : SRm G bk M N id st v0 v) (h19 : gI v 19 ≠ 2) (h32 : ∀ x, vld G N id x → st x = 3 → gA v 32 x = nI (ix (gA v 32 x)) ∧ ix (gA v 32 x) ≤ 40 ∧ (kdS G (slO id x) ≠ 8 → ix (gA v 32 x) = 0) ∧ (ix (gA v 32 x) ≠ 0 → kdS G (slO id x) = 8 ∧ gA v 31 x = nI (ix (gA v 31 x)) ∧ ∀ k, k < ix (gA v 32 x) → ix (gA v 31 x) + k < N)) {P : St → Prop} (kk : ∀ V, TV v V (nI N) (nI ((List.range (60 * N)).filter (knB G id st)).length) (nI ((CLt G id st v (60 * N)).filter (krB G id st)).length) (nI (CLt G id st v (60 * N)).length) → P V) : wp_X7_tell v P := by
  have hTV : TV v v (gA v 33 0) (gA v 33 1) (gA v 33 2) (gA v 33 3) := ⟨⟨fun _ => rfl, fun _ _ => rfl⟩, rfl, rfl, rfl, rfl⟩
  refine ⟨5, br_n (by decide) ⟨vp_in_iff.mpr (by decide), nm_i (nm_i (br_n (by decide) ⟨vp_in_iff.mpr (by decide), nm_i (nm_i (br_n (by decide) ⟨vp_in_iff.mpr (by decide), nm_i (nm_i (br_n (by decide) ⟨vp_in_iff.mpr (by decide), nm_i (nm_i (br_p (by decide) (br_n h19 ⟨vp_in_iff.mpr (by decide), nm_i ⟨60 * N + 1, t_41 hw hSR h32 kk (60 * N) 0 _ (by omega) ?_⟩⟩)))⟩))⟩))⟩))⟩⟩
  have h15 : gI v 15 = nI N := hSR.2.2.1.1.1
  have := TV_0 (w := nI N) (TV_3 (w := 0) (TV_2 (w := 0) (TV_1 (w := 0) (TV_0 (w := 0) hTV))))
  rw [← h15] at this ⊢
  exact this
theorem m_tell0 {v : St} (h19 : gI v 19 = 2) {P : St → Prop} (kk : ∀ V, TV v V 0 0 0 0 → P V) : wp_X7_tell v P := by
  have hTV : TV v v (gA v 33 0) (gA v 33 1) (gA v 33 2) (gA v 33 3) := ⟨⟨fun _ => rfl, fun _ _ => rfl⟩, rfl, rfl, rfl, rfl⟩
  exact ⟨5, br_n (by decide) ⟨vp_in_iff.mpr (by decide), nm_i (nm_i (br_n (by decide) ⟨vp_in_iff.mpr (by decide), nm_i (nm_i (br_n (by decide) ⟨vp_in_iff.mpr (by decide), nm_i (nm_i (br_n (by decide) ⟨vp_in_iff.mpr (by decide), nm_i (nm_i (br_p (by decide) (br_p h19 (kk _ (TV_3 (w := 0) (TV_2 (w := 0) (TV_1 (w := 0) (TV_0 (w := 0) hTV))))))))⟩))⟩))⟩))⟩⟩
