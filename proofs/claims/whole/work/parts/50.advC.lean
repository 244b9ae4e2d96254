/-! 50.advC: advance, whole -/
theorem adv39 {u : St} {t : Nat → Nat} {n i : Nat} (hT : TpC u t n) (h7 : gI u 7 = nI i) (hi : i ≤ n) (hs : sk t n i = i) : ∃ U : St, (∀ P : St → Prop, P U → wp_X5_advance_39 u P) ∧ FrC u U ∧ TkC U t n i := by
  have hn : n ≤ 1500 := hT.1
  have htp : tp t n i = i := hs
  have hT6 : TpC (sI u 10 (gI u 7)) t n := hT.fr (FrC.i _ (by omega))
  have h76 : gI (sI u 10 (gI u 7)) 7 = nI i := h7
  have h106 : gI (sI u 10 (gI u 7)) 10 = nI i := h7
  have hF6 : FrC u (sI u 10 (gI u 7)) := FrC.i _ (by omega)
  generalize hu6 : sI u 10 (gI u 7) = u6 at hT6 h76 h106 hF6
  by_cases hlt : i < n
  · have hlt2 : gI u6 7 < gI u6 8 := by rw [h76, hT6.2.1]; simp (disch := omega) only [nI_leI, nI_ltI, nI_eq]; omega
    obtain ⟨hc256, hb⟩ := hT6.2.2 i hlt
    have hix : ix (gI u6 7) = i := by rw [h76, ixN (by omega)]
    have hin : vp_in (gI u6 7) 1500 := by rw [h76]; exact inN (by omega) (by decide)
    cases hr : rwc (t i) with
    | true =>
      obtain ⟨U, h1, h2, h3, h4, h5, h6, h8⟩ := rowC (t := t) (n := n) (p := i) (n - i) 0 u6 0 0 0 hT6 rfl (by omega) h106 h76 (fun _ _ => rfl) rfl (by omega) (fun _ => rfl) (Or.inr ⟨hlt, hr⟩)
      rw [Nat.add_zero] at h3 h5 h6 h8
      have hte : te t n i = rwE t n i := by unfold te; rw [htp, if_pos hlt, if_pos hr]
      have htk : tk t n i = rk t i (rwE t n i - i) := by unfold tk rk; rw [htp, if_pos hlt, if_pos hr, hte]
      have h96 : ∀ P : St → Prop, P U → wp_X5_advance_96 u6 P := fun P hp => h1 P hp
      refine ⟨U, fun P hp => ?_, FrC.tr hF6 h2, ?_⟩
      · refine nm_i ?_
        rw [hu6]
        refine br_p hlt2 ⟨hin, wpX5_le ?_⟩
        rw [hix, hb, (ch_le _ hc256).1]
        cases hL : isL (t i) with
        | true => exact br_n (by decide) (h96 P hp)
        | false =>
          have hD : isD (t i) = true := by simpa [rwc, hL] using hr
          refine br_p rfl ⟨hin, wpX5_di ?_⟩
          rw [hix, hb, (ch_di _ hc256).1, hD]
          exact br_n (by decide) (h96 P hp)
      · refine ⟨by rw [htp]; exact h4, by rw [hte]; exact h3, by rw [htk]; exact h5, fun h => ?_, fun h => ?_⟩
        · rw [htp, hte]
          refine h6 ?_
          rw [htk] at h
          unfold rk at h
          by_cases hl : clt t i (rwE t n i - i) = rwE t n i - i ∧ rwE t n i - i ≤ 8
          · exact hl
          · rw [if_neg hl] at h; split at h <;> omega
        · rw [htp, hte]; exact h8 (by rw [← htk]; exact h)
    | false =>
      have hr2 : isL (t i) = false ∧ isD (t i) = false := by simpa [rwc] using hr
      obtain ⟨r, hr1, hr3⟩ := wp_ix u6 hc256
      have hte : te t n i = i + 1 := by unfold te; rw [htp, if_pos hlt, if_neg (by rw [hr]; decide)]
      have htk : tk t n i = if t i ∈ sgN then t i else 1 := by unfold tk; rw [htp, if_pos hlt, if_neg (by rw [hr]; decide)]
      refine ⟨sI (sI u6 9 (nI (tk t n i))) 7 (nI (i + 1)), fun P hp => ?_, FrC.tr hF6 (FrC.tr (FrC.i _ (by omega)) (FrC.i _ (by omega))), ?_⟩
      · refine nm_i ?_
        rw [hu6]
        refine br_p hlt2 ⟨hin, wpX5_le ?_⟩
        rw [hix, hb, (ch_le _ hc256).1, hr2.1]
        refine br_p rfl ⟨hin, wpX5_di ?_⟩
        rw [hix, hb, (ch_di _ hc256).1, hr2.2]
        refine br_p rfl ⟨hin, ?_⟩
        refine hr1 _ ?_
        have h135 : ∀ y : Int32, y = nI (tk t n i) → wp_X5_advance_135 u6 y P := fun y hy => by
          refine nm_i (nm_i ?_)
          rw [hy]
          have : gI (sI u6 9 (nI (tk t n i))) 7 + 1 = nI (i + 1) := by show gI u6 7 + 1 = _; rw [h76, nI_1]
          rw [this]; exact hp
        by_cases hm : t i ∈ sgN
        · refine br_n (fun h => (hr3.mp h) hm) ⟨hin, ?_⟩
          rw [hix, hb]
          exact h135 _ (by rw [htk, if_pos hm])
        · exact br_p (hr3.mpr hm) (h135 _ (by rw [htk, if_neg hm]; rfl))
      · refine ⟨by rw [htp]; exact h106, by rw [hte]; rfl, rfl, fun h => ?_, fun h => ?_⟩
        · rw [htk] at h
          split at h
          · next hm =>
            have : ∀ c ∈ sgN, 37 ≤ c := by decide
            have := this _ hm
            omega
          · omega
        · rw [htk] at h
          split at h
          · next hm =>
            have : ∀ c ∈ sgN, 37 ≤ c := by decide
            have := this _ hm
            omega
          · omega
  · have hin : i = n := by omega
    have hte : te t n i = i := by unfold te; rw [htp, if_neg hlt]
    have htk : tk t n i = 0 := by unfold tk; rw [htp, if_neg hlt]
    refine ⟨sI u6 9 0, fun P hp => nm_i ?_, FrC.tr hF6 (FrC.i _ (by omega)), ⟨by rw [htp]; exact h106, by rw [hte]; exact h76, by rw [htk]; rfl, fun h => by omega, fun h => by omega⟩⟩
    rw [hu6]
    refine br_n ?_ (nm_i hp)
    rw [h76, hT6.2.1]; simp (disch := omega) only [nI_leI, nI_ltI, nI_eq]; omega
theorem tp_step {t : Nat → Nat} {n i : Nat} (h : i < n) (hb : isB (t i) = true) : tp t n (i + 1) = tp t n i ∧ te t n (i + 1) = te t n i ∧ tk t n (i + 1) = tk t n i := by
  have e : tp t n (i + 1) = tp t n i := sk_step h hb
  have e2 : te t n (i + 1) = te t n i := by unfold te; rw [e]
  exact ⟨e, e2, by unfold tk; rw [e, e2]⟩
theorem advC_loop {t : Nat → Nat} {n : Nat} : ∀ (f i : Nat) (u : St), n - i = f → TpC u t n → gI u 7 = nI i → i ≤ n → ∃ U : St, (∀ P : St → Prop, P U → ∃ m, wp_X5_advance_0 P m u) ∧ FrC u U ∧ TkC U t n i := by
  intro f
  induction f with
  | zero =>
    intro i u hf hT h7 hi
    obtain ⟨U, h1, h2⟩ := adv39 hT h7 hi (sk_here (by omega))
    have hn : n ≤ 1500 := hT.1
    refine ⟨U, fun P hp => ⟨1, br_p ?_ (h1 P hp)⟩, h2⟩
    rw [h7, hT.2.1]; simp (disch := omega) only [nI_leI, nI_ltI, nI_eq]; omega
  | succ f ih =>
    intro i u hf hT h7 hi
    have hn : n ≤ 1500 := hT.1
    have hlt : i < n := by omega
    obtain ⟨hc256, hb⟩ := hT.2.2 i hlt
    have hix : ix (gI u 7) = i := by rw [h7, ixN (by omega)]
    have hin : vp_in (gI u 7) 1500 := by rw [h7]; exact inN (by omega) (by decide)
    have hnge : ¬ gI u 8 ≤ gI u 7 := by rw [hT.2.1, h7]; simp (disch := omega) only [nI_leI, nI_ltI, nI_eq]; omega
    cases hB : isB (t i) with
    | false =>
      obtain ⟨U, h1, h2⟩ := adv39 hT h7 hi (sk_here (by rw [hB]; simp))
      refine ⟨U, fun P hp => ⟨1, br_n hnge ⟨hin, wpX5_bl (br_p ?_ (h1 P hp))⟩⟩, h2⟩
      rw [hix, hb, (ch_bl _ hc256).1, hB]; rfl
    | true =>
      obtain ⟨U, h1, h2, h3⟩ := ih (i + 1) (sI u 7 (gI u 7 + 1)) (by omega) (hT.fr (FrC.i _ (by omega))) (by show gI u 7 + 1 = _; rw [h7, nI_1]) (by omega)
      obtain ⟨s1, s2, s3⟩ := tp_step hlt hB
      refine ⟨U, fun P hp => ?_, FrC.tr (FrC.i _ (by omega)) h2, by unfold TkC at h3; rw [s1, s2, s3] at h3; exact h3⟩
      obtain ⟨m, hm⟩ := h1 P hp
      refine ⟨m + 1, br_n hnge ⟨hin, wpX5_bl (br_n ?_ (nm_i hm))⟩⟩
      rw [hix, hb, (ch_bl _ hc256).1, hB]; decide
theorem advC {u : St} {t : Nat → Nat} {n i : Nat} (hT : TpC u t n) (h7 : gI u 7 = nI i) (hi : i ≤ n) : ∃ U : St, (∀ P : St → Prop, P U → wp_X5_advance u P) ∧ FrC u U ∧ TkC U t n i := advC_loop (n - i) i u rfl hT h7 hi
/-- whether a parenthesis is next behind i -/
def parN (t : Nat → Nat) (n i : Nat) : Bool := decide (sk t n i < n) && decide (t (sk t n i) = 40)
theorem parC_loop {t : Nat → Nat} {n : Nat} : ∀ (f i : Nat) (u : St), n - i = f → TpC u t n → i ≤ n → ∀ P : Int32 → St → Prop, P (b2i (parN t n i)) u → ∃ m, wp_X5_isParenthesisNext_5 P m u (nI i) := by
  intro f
  have h31 : ∀ (i : Nat) (u : St), TpC u t n → i ≤ n → sk t n i = i → ∀ P : Int32 → St → Prop, P (b2i (parN t n i)) u → wp_X5_isParenthesisNext_31 u (nI i) P := by
    intro i u hT hi hs P hp
    have hn : n ≤ 1500 := hT.1
    unfold parN at hp
    rw [hs] at hp
    by_cases hlt : i < n
    · obtain ⟨hc256, hb⟩ := hT.2.2 i hlt
      refine br_n ?_ ⟨inN (by omega) (by decide), ?_⟩
      · rw [hT.2.1]; simp (disch := omega) only [nI_leI, nI_ltI, nI_eq]; omega
      · rw [ixN (by omega), hb]
        refine br_b (fun h => ?_) (fun h => ?_)
        · simp (disch := omega) only [ln_0, ln_1, ln_2, ln_3, ln_4, ln_5, ln_6, ln_7, ln_8, ln_9, ln_10, ln_11, ln_12, ln_13, ln_14, ln_15, ln_16, ln_17, ln_18, ln_19, ln_20, ln_21, ln_22, ln_23, ln_24, ln_25, ln_26, ln_27, ln_28, ln_29, ln_30, ln_31, ln_32, ln_33, ln_34, ln_35, ln_36, ln_37, ln_38, ln_39, ln_40, ln_41, ln_42, ln_43, ln_44, ln_45, ln_46, ln_47, ln_48, ln_49, ln_50, ln_51, ln_52, ln_53, ln_54, ln_55, ln_56, ln_57, ln_58, ln_59, ln_60, ln_61, ln_62, ln_91, ln_93, ln_97, ln_122, ln_120, ln_123, ln_124, ln_255, ln_256, ln_300, ln_720, ln_1500, ln_12000, ln_18000, nI_leI, nI_ltI, nI_eq] at h
          have e : (decide (i < n) && decide (t i = 40)) = true := by simp [hlt, h]
          rw [e] at hp; exact ⟨bz1, hp⟩
        · simp (disch := omega) only [ln_0, ln_1, ln_2, ln_3, ln_4, ln_5, ln_6, ln_7, ln_8, ln_9, ln_10, ln_11, ln_12, ln_13, ln_14, ln_15, ln_16, ln_17, ln_18, ln_19, ln_20, ln_21, ln_22, ln_23, ln_24, ln_25, ln_26, ln_27, ln_28, ln_29, ln_30, ln_31, ln_32, ln_33, ln_34, ln_35, ln_36, ln_37, ln_38, ln_39, ln_40, ln_41, ln_42, ln_43, ln_44, ln_45, ln_46, ln_47, ln_48, ln_49, ln_50, ln_51, ln_52, ln_53, ln_54, ln_55, ln_56, ln_57, ln_58, ln_59, ln_60, ln_61, ln_62, ln_91, ln_93, ln_97, ln_122, ln_120, ln_123, ln_124, ln_255, ln_256, ln_300, ln_720, ln_1500, ln_12000, ln_18000, nI_leI, nI_ltI, nI_eq] at h
          have e : (decide (i < n) && decide (t i = 40)) = false := by simp [h]
          rw [e] at hp; exact ⟨bz0, hp⟩
    · refine br_p ?_ ⟨bz0, ?_⟩
      · rw [hT.2.1]; simp (disch := omega) only [nI_leI, nI_ltI, nI_eq]; omega
      · have e : (decide (i < n) && decide (t i = 40)) = false := by simp [hlt]
        rw [e] at hp; exact hp
  induction f with
  | zero =>
    intro i u hf hT hi P hp
    have hn : n ≤ 1500 := hT.1
    refine ⟨1, br_p ?_ (h31 i u hT hi (sk_here (by omega)) P hp)⟩
    rw [hT.2.1]; simp (disch := omega) only [nI_leI, nI_ltI, nI_eq]; omega
  | succ f ih =>
    intro i u hf hT hi P hp
    have hn : n ≤ 1500 := hT.1
    have hlt : i < n := by omega
    obtain ⟨hc256, hb⟩ := hT.2.2 i hlt
    have hnge : ¬ gI u 8 ≤ nI i := by rw [hT.2.1]; simp (disch := omega) only [nI_leI, nI_ltI, nI_eq]; omega
    cases hB : isB (t i) with
    | false =>
      refine ⟨1, br_n hnge ⟨inN (by omega) (by decide), wpX5_bl (br_p ?_ (h31 i u hT hi (sk_here (by rw [hB]; simp)) P hp))⟩⟩
      rw [ixN (by omega), hb, (ch_bl _ hc256).1, hB]; rfl
    | true =>
      have hp2 : P (b2i (parN t n (i + 1))) u := by unfold parN; rw [sk_step hlt hB]; exact hp
      obtain ⟨m, hm⟩ := ih (i + 1) u (by omega) hT (by omega) P hp2
      refine ⟨m + 1, br_n hnge ⟨inN (by omega) (by decide), wpX5_bl (br_n ?_ (nm_i ?_))⟩⟩
      · rw [ixN (by omega), hb, (ch_bl _ hc256).1, hB]; decide
      · rw [nI_1]; exact hm
theorem parC {u : St} {t : Nat → Nat} {n i : Nat} (hT : TpC u t n) (h7 : gI u 7 = nI i) (hi : i ≤ n) {P : Int32 → St → Prop} (hp : P (b2i (parN t n i)) u) : wp_X5_isParenthesisNext u P := by
  refine nm_i ?_
  rw [h7]
  exact parC_loop (n - i) i u rfl hT hi P hp
