/-! 53.look: look, whole; names -/
theorem look39 {v : St} {t : Nat → Nat} {n i : Nat} (hT : TpM v t n) (h4 : gI v 4 = nI i) (hi : i ≤ n) (hs : sk t n i = i) : ∃ V : St, (∀ P : St → Prop, P V → wp_X7_look_39 v P) ∧ FrM v V ∧ TkM V t n i := by
  have hn : n ≤ 1500 := hT.1
  have htp : tp t n i = i := hs
  have hT6 : TpM (sI v 5 (gI v 4)) t n := hT.fr (FrM.i _ (by omega))
  have h46 : gI (sI v 5 (gI v 4)) 4 = nI i := h4
  have h56 : gI (sI v 5 (gI v 4)) 5 = nI i := h4
  have hF6 : FrM v (sI v 5 (gI v 4)) := FrM.i _ (by omega)
  generalize hu6 : sI v 5 (gI v 4) = u6 at hT6 h46 h56 hF6
  by_cases hlt : i < n
  · have hlt2 : ¬ gI u6 4 = gI u6 1 := by rw [h46, hT6.2.1]; simp (disch := omega) only [nI_leI, nI_ltI, nI_eq]; omega
    obtain ⟨hc256, hb⟩ := hT6.2.2 i hlt
    have hix : ix (gI u6 4) = i := by rw [h46, ixN (by omega)]
    have hin : vp_in (gI u6 4) 1500 := by rw [h46]; exact inN (by omega) (by decide)
    cases hr : rwc (t i) with
    | true =>
      obtain ⟨V, h1, h2, h3, h5, h6, h7, h8⟩ := rowM (t := t) (n := n) (p := i) (n - i) 0 (sL u6 0 0) 0 (hT6.fr (FrM.l _)) rfl (by omega) h46 h56 rfl (by decide) (fun _ => ⟨fun _ => rfl, fun h => absurd h (by simp [vlt])⟩) (Or.inr ⟨hlt, hr⟩)
      rw [Nat.add_zero] at h5 h6 h7 h8
      have hte : te t n i = rwE t n i := by unfold te; rw [htp, if_pos hlt, if_pos hr]
      have htk : tk t n i = rk t i (rwE t n i - i) := by unfold tk rk; rw [htp, if_pos hlt, if_pos hr, hte]
      refine ⟨V, fun P hp => nm_i ?_, FrM.tr hF6 (FrM.tr (FrM.l _) h2), ?_⟩
      · rw [hu6]
        refine br_n hlt2 (isRowX hT6 hi h46 ?_)
        rw [show (decide (i < n) && rwc (t i)) = true by simp [hr, hlt]]
        exact br_n (by decide) (nm_i (h1 P hp))
      · refine ⟨by rw [htp]; exact h3, by rw [hte]; exact h5, by rw [htk]; exact h6, fun h => ?_, fun h => ?_⟩
        · rw [htk] at h ⊢; exact h7 h
        · rw [htk] at h; rw [htp, hte]; exact h8 h
    | false =>
      have hte : te t n i = i + 1 := by unfold te; rw [htp, if_pos hlt, if_neg (by rw [hr]; decide)]
      have htk : tk t n i = if t i ∈ sgN then t i else 1 := by unfold tk; rw [htp, if_pos hlt, if_neg (by rw [hr]; decide)]
      have hmt : mt (tk t n i) = if t i ∈ sgN then 4 else 5 := by
        rw [htk]
        by_cases hm : t i ∈ sgN
        · have : ∀ c ∈ sgN, mt c = 4 := by decide
          rw [if_pos hm, if_pos hm]; exact this _ hm
        · rw [if_neg hm, if_neg hm]; rfl
      have h913 : ∀ c ∈ sgN, 37 ≤ c := by decide
      have hge : 4 ≤ tk t n i → 37 ≤ tk t n i := fun h => by
        rw [htk] at h ⊢
        by_cases hm : t i ∈ sgN
        · rw [if_pos hm]; exact h913 _ hm
        · rw [if_neg hm] at h; omega
      have h3 : tk t n i ≠ 3 := fun h => by
        rw [htk] at h
        by_cases hm : t i ∈ sgN
        · rw [if_pos hm] at h; have := h913 _ hm; omega
        · rw [if_neg hm] at h; omega
      refine ⟨sI (sI u6 5 (nI (i + 1))) 6 (nI (mt (tk t n i))), fun P hp => nm_i ?_, FrM.tr hF6 (FrM.tr (FrM.i _ (by omega)) (FrM.i _ (by omega))), ⟨by rw [htp]; exact h46, by rw [hte]; rfl, rfl, fun h => by omega, fun h => absurd h h3⟩⟩
      rw [hu6]
      refine br_n hlt2 (isRowX hT6 hi h46 ?_)
      rw [show (decide (i < n) && rwc (t i)) = false by simp [hr]]
      refine br_p rfl ⟨hin, nm_i (nm_i ?_)⟩
      rw [hix, hb, h46, nI_1]
      have hq : ∀ a : Nat, a ∈ sgN → (mb (t i) = nI a ↔ t i = a) := fun a ha => ch_eq _ hc256 a ha
      have yes : t i ∈ sgN → wp_X7_look_180 (sI u6 5 (nI (i + 1))) P := fun hm => by
        rw [hmt, if_pos hm] at hp; exact nm_i hp
      have ymem : ∀ a ∈ sgN, t i = a → t i ∈ sgN := fun a ha h => by rw [h]; exact ha
      refine br_b (fun h => yes (ymem 40 (by decide) ((hq 40 (by decide)).mp h))) (fun g1 => ?_)
      refine br_b (fun h => yes (ymem 41 (by decide) ((hq 41 (by decide)).mp h))) (fun g2 => ?_)
      refine br_b (fun h => yes (ymem 44 (by decide) ((hq 44 (by decide)).mp h))) (fun g3 => ?_)
      refine br_b (fun h => yes (ymem 61 (by decide) ((hq 61 (by decide)).mp h))) (fun g4 => ?_)
      refine br_b (fun h => yes (ymem 59 (by decide) ((hq 59 (by decide)).mp h))) (fun g5 => ?_)
      refine br_b (fun h => yes (ymem 60 (by decide) ((hq 60 (by decide)).mp h))) (fun g6 => ?_)
      refine br_b (fun h => yes (ymem 62 (by decide) ((hq 62 (by decide)).mp h))) (fun g7 => ?_)
      refine br_b (fun h => yes (ymem 43 (by decide) ((hq 43 (by decide)).mp h))) (fun g8 => ?_)
      refine br_b (fun h => yes (ymem 45 (by decide) ((hq 45 (by decide)).mp h))) (fun g9 => ?_)
      refine br_b (fun h => yes (ymem 42 (by decide) ((hq 42 (by decide)).mp h))) (fun g10 => ?_)
      refine br_b (fun h => yes (ymem 47 (by decide) ((hq 47 (by decide)).mp h))) (fun g11 => ?_)
      refine br_b (fun h => yes (ymem 37 (by decide) ((hq 37 (by decide)).mp h))) (fun g12 => ?_)
      refine br_b (fun h => yes (ymem 91 (by decide) ((hq 91 (by decide)).mp h))) (fun g13 => ?_)
      refine br_b (fun h => yes (ymem 93 (by decide) ((hq 93 (by decide)).mp h))) (fun g14 => ?_)
      have hm : ¬ t i ∈ sgN := fun hm => by
        have : t i = 40 ∨ t i = 41 ∨ t i = 44 ∨ t i = 59 ∨ t i = 91 ∨ t i = 93 ∨ t i = 61 ∨ t i = 60 ∨ t i = 62 ∨ t i = 43 ∨ t i = 45 ∨ t i = 42 ∨ t i = 47 ∨ t i = 37 := by simpa [sgN] using hm
        rcases this with h | h | h | h | h | h | h | h | h | h | h | h | h | h
        · exact g1 ((hq _ (by decide)).mpr h)
        · exact g2 ((hq _ (by decide)).mpr h)
        · exact g3 ((hq _ (by decide)).mpr h)
        · exact g5 ((hq _ (by decide)).mpr h)
        · exact g13 ((hq _ (by decide)).mpr h)
        · exact g14 ((hq _ (by decide)).mpr h)
        · exact g4 ((hq _ (by decide)).mpr h)
        · exact g6 ((hq _ (by decide)).mpr h)
        · exact g7 ((hq _ (by decide)).mpr h)
        · exact g8 ((hq _ (by decide)).mpr h)
        · exact g9 ((hq _ (by decide)).mpr h)
        · exact g10 ((hq _ (by decide)).mpr h)
        · exact g11 ((hq _ (by decide)).mpr h)
        · exact g12 ((hq _ (by decide)).mpr h)
      rw [hmt, if_neg hm] at hp; exact nm_i hp
  · have hin : i = n := by omega
    have hte : te t n i = i := by unfold te; rw [htp, if_neg hlt]
    have htk : tk t n i = 0 := by unfold tk; rw [htp, if_neg hlt]
    refine ⟨sI u6 6 0, fun P hp => nm_i ?_, FrM.tr hF6 (FrM.i _ (by omega)), ⟨by rw [htp]; exact h46, by rw [hte]; exact h56, by rw [htk]; rfl, fun h => by omega, fun h => by omega⟩⟩
    rw [hu6]
    refine br_p ?_ (nm_i hp)
    rw [h46, hT6.2.1, hin]
theorem lookM_loop {t : Nat → Nat} {n : Nat} : ∀ (f i : Nat) (v : St), n - i = f → TpM v t n → gI v 4 = nI i → i ≤ n → ∃ V : St, (∀ P : St → Prop, P V → ∃ m, wp_X7_look_0 P m v) ∧ FrM v V ∧ TkM V t n i := by
  intro f
  induction f with
  | zero =>
    intro i u hf hT h7 hi
    obtain ⟨U, h1, h2⟩ := look39 hT h7 hi (sk_here (by omega))
    have hn : n ≤ 1500 := hT.1
    refine ⟨U, fun P hp => ⟨1, br_p ?_ (h1 P hp)⟩, h2⟩
    rw [h7, hT.2.1]; simp (disch := omega) only [nI_leI, nI_ltI, nI_eq]; omega
  | succ f ih =>
    intro i u hf hT h7 hi
    have hn : n ≤ 1500 := hT.1
    have hlt : i < n := by omega
    obtain ⟨hc256, hb⟩ := hT.2.2 i hlt
    have hix : ix (gI u 4) = i := by rw [h7, ixN (by omega)]
    have hin : vp_in (gI u 4) 1500 := by rw [h7]; exact inN (by omega) (by decide)
    have hnge : ¬ gI u 1 ≤ gI u 4 := by rw [hT.2.1, h7]; simp (disch := omega) only [nI_leI, nI_ltI, nI_eq]; omega
    cases hB : isB (t i) with
    | false =>
      obtain ⟨U, h1, h2⟩ := look39 hT h7 hi (sk_here (by rw [hB]; simp))
      refine ⟨U, fun P hp => ⟨1, br_n hnge ⟨hin, wpX7_bl (br_p ?_ (h1 P hp))⟩⟩, h2⟩
      rw [hix, hb, (ch_bl _ hc256).2, hB]; rfl
    | true =>
      obtain ⟨U, h1, h2, h3⟩ := ih (i + 1) (sI u 4 (gI u 4 + 1)) (by omega) (hT.fr (FrM.i _ (by omega))) (by show gI u 4 + 1 = _; rw [h7, nI_1]) (by omega)
      obtain ⟨s1, s2, s3⟩ := tp_step hlt hB
      refine ⟨U, fun P hp => ?_, FrM.tr (FrM.i _ (by omega)) h2, by unfold TkM at h3; rw [s1, s2, s3] at h3; exact h3⟩
      obtain ⟨m, hm⟩ := h1 P hp
      refine ⟨m + 1, br_n hnge ⟨hin, wpX7_bl (br_n ?_ (nm_i hm))⟩⟩
      rw [hix, hb, (ch_bl _ hc256).2, hB]; decide
theorem lookM {v : St} {t : Nat → Nat} {n i : Nat} (hT : TpM v t n) (h4 : gI v 4 = nI i) (hi : i ≤ n) : ∃ V : St, (∀ P : St → Prop, P V → wp_X7_look v P) ∧ FrM v V ∧ TkM V t n i := lookM_loop (n - i) i v rfl hT h4 hi
