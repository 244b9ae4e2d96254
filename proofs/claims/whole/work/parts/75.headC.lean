/-! 75.headC: the class at a definition's head -/
def gH (g : Nat → Nat → Nat) (m e : Nat) : Nat → Nat → Nat := up (up (up g 0 m 0) 1 m 0) 3 m e
theorem gH_o {g : Nat → Nat → Nat} {m e f j : Nat} (h0 : f ≠ 0) (h1 : f ≠ 1) (h3 : f ≠ 3) : gH g m e f j = g f j := by unfold gH; rw [up_f h3, up_f h1, up_f h0]
theorem gH_0 {g : Nat → Nat → Nat} {m e j : Nat} : gH g m e 0 j = if j = m then 0 else g 0 j := by unfold gH; rw [up_f (by decide), up_f (by decide), up_i]
theorem gH_1 {g : Nat → Nat → Nat} {m e j : Nat} : gH g m e 1 j = if j = m then 0 else g 1 j := by unfold gH; rw [up_f (by decide), up_i, up_f (by decide)]
theorem gH_3 {g : Nat → Nat → Nat} {m e j : Nat} : gH g m e 3 j = if j = m then e else g 3 j := by unfold gH; rw [up_i, up_f (by decide), up_f (by decide)]
theorem dm_0 {g : Nat → Nat → Nat} {m p : Nat} (h : g 1 m = 0) : dm g (m + 1) p ↔ dm g m p := by
  unfold dm
  constructor
  · rintro ⟨a, b⟩
    refine ⟨?_, b⟩
    rcases (show p / 60 < m ∨ p / 60 = m by omega) with c | c
    · exact c
    · rw [c, h] at b; exact absurd b (Nat.not_lt_zero _)
  · rintro ⟨a, b⟩; exact ⟨by omega, b⟩
theorem dm_H {g : Nat → Nat → Nat} {m e p : Nat} : dm (gH g m e) m p ↔ dm g m p := by
  unfold dm; rw [gH_1]
  constructor
  · rintro ⟨a, b⟩; rw [if_neg (by omega)] at b; exact ⟨a, b⟩
  · rintro ⟨a, b⟩; rw [if_neg (by omega)]; exact ⟨a, b⟩
theorem dm_H1 {g : Nat → Nat → Nat} {m e p : Nat} : dm (gH g m e) (m + 1) p ↔ dm g m p := (dm_0 (by rw [gH_1, if_pos rfl])).trans dm_H
def gA1 (g : Nat → Nat → Nat) (d e : Nat) : Nat → Nat → Nat := up (up g 4 (g 0 d) e) 0 d (g 0 d + 1)
theorem gA1_o {g : Nat → Nat → Nat} {d e f j : Nat} (h0 : f ≠ 0) (h4 : f ≠ 4) : gA1 g d e f j = g f j := by unfold gA1; rw [up_f h0, up_f h4]
theorem gA1_0 {g : Nat → Nat → Nat} {d e j : Nat} : gA1 g d e 0 j = if j = d then g 0 d + 1 else g 0 j := by unfold gA1; rw [up_i, up_f (by decide)]
theorem gA1_4 {g : Nat → Nat → Nat} {d e j : Nat} : gA1 g d e 4 j = if j = g 0 d then e else g 4 j := by unfold gA1; rw [up_f (by decide), up_i]
theorem dm_A {g : Nat → Nat → Nat} {d e m p : Nat} : dm (gA1 g d e) m p ↔ dm g m p := by unfold dm; rw [gA1_o (by decide) (by decide)]
/-- a definition's name -/
theorem c_defName {t : Nat → Nat} {n : Nat} {u0 u : St} {g : Nat → Nat → Nat} {L : Nat → List Nat} {m i : Nat} (h : BtC t n u0 g L m i u) (hm : m ≤ 12) (hi : i ≤ n) (hN : ∀ k, k < m → NC (g 3 k)) {P : St → Prop}
    (ky : tk t n i = 2 → m < 12 → fnd (g 3) (nmT t n i) m 0 = m → ∀ U la, RC t n u0 (gH g m (nmT t n i)) L m [(0, 0)] i 1 la U → P U)
    (kn : tk t n i ≠ 2 ∨ m = 12 ∨ fnd (g 3) (nmT t n i) m 0 < m → ∀ U, FlC n u0 (tp t n i) U → P U) : wpT 0 u P := by
  obtain ⟨hT, hK, hF, hC, ⟨h12, h6, h5⟩, hR⟩ := h
  have hle := (tk_le (t := t) (n := n) (i := i)).1
  have hf := fnd_le (g 3) (nmT t n i) m 0
  refine br_p h5 (nm_i ?_)
  have hfl : tk t n i ≠ 2 ∨ m = 12 ∨ fnd (g 3) (nmT t n i) m 0 < m → wp_X3_takeDefinitionName_46 (sI u 1 (gI u 12)) P := fun c => nm_i (kn c _ ⟨hF, hK.1, hT.2.1⟩)
  refine br_b (fun c => ?_) (fun c => hfl (Or.inl (fun e => c ((tk9 hK (c := 2) (by decide)).mpr e))))
  have c2 : tk t n i = 2 := (tk9 hK (c := 2) (by decide)).mp c
  refine br_b (fun c => ?_) (fun c => ?_)
  · have c : gI u 12 = 12 := c
    rw [h12] at c
    simp (disch := omega) only [ln_0, ln_1, ln_2, ln_3, ln_4, ln_5, ln_6, ln_7, ln_8, ln_9, ln_10, ln_11, ln_12, ln_13, ln_14, ln_15, ln_16, ln_17, ln_18, ln_19, ln_20, ln_21, ln_22, ln_23, ln_24, ln_25, ln_26, ln_27, ln_28, ln_29, ln_30, ln_31, ln_32, ln_33, ln_34, ln_35, ln_36, ln_37, ln_38, ln_39, ln_40, ln_41, ln_42, ln_43, ln_44, ln_45, ln_46, ln_47, ln_48, ln_49, ln_50, ln_51, ln_52, ln_53, ln_54, ln_55, ln_56, ln_57, ln_58, ln_59, ln_60, ln_61, ln_62, ln_91, ln_93, ln_97, ln_122, ln_120, ln_123, ln_124, ln_255, ln_256, ln_300, ln_720, ln_1500, ln_12000, ln_18000, nI_leI, nI_ltI, nI_eq] at c
    exact hfl (Or.inr (Or.inl c))
  have c : ¬ gI u 12 = 12 := c
  rw [h12] at c
  simp (disch := omega) only [ln_0, ln_1, ln_2, ln_3, ln_4, ln_5, ln_6, ln_7, ln_8, ln_9, ln_10, ln_11, ln_12, ln_13, ln_14, ln_15, ln_16, ln_17, ln_18, ln_19, ln_20, ln_21, ln_22, ln_23, ln_24, ln_25, ln_26, ln_27, ln_28, ln_29, ln_30, ln_31, ln_32, ln_33, ln_34, ln_35, ln_36, ln_37, ln_38, ln_39, ln_40, ln_41, ln_42, ln_43, ln_44, ln_45, ln_46, ln_47, ln_48, ln_49, ln_50, ln_51, ln_52, ln_53, ln_54, ln_55, ln_56, ln_57, ln_58, ln_59, ln_60, ln_61, ln_62, ln_91, ln_93, ln_97, ln_122, ln_120, ln_123, ln_124, ln_255, ln_256, ln_300, ln_720, ln_1500, ln_12000, ln_18000, nI_leI, nI_ltI, nI_eq] at c
  have hNC := nmT_NC hi (Or.inl c2)
  refine c_defNamed (u := sI u 1 (gI u 12)) (g := g) (d := m) (by omega) h12 (fun k hk => (hC.1 k hk).2.2) hN hNC.1 (hK.2.2.2.1 (Or.inl c2)) ?_
  unfold rF
  by_cases hfm : fnd (g 3) (nmT t n i) m 0 = m
  · rw [if_pos hfm]
    have ein : vp_in (gI u 12) 12 := by rw [h12]; exact inN (by omega) (by decide)
    have eix : ix (gI u 12) = m := by rw [h12, ixN (by omega)]
    refine br_p rfl ⟨ein, nm_i ⟨ein, nm_i ⟨ein, nm_i (nm_i (nm_i ?_))⟩⟩⟩
    have hRC : RC t n u0 (gH g m (nmT t n i)) L m [] i 0 0 (sI (sI (sA (sA (sB (sI u 1 (gI u 12)) 9 (ix (gI (sI u 1 (gI u 12)) 1)) (gL (sI u 1 (gI u 12)) 0)) 15 (ix (gI (sI u 1 (gI u 12)) 1)) 0) 16 (ix (gI (sI u 1 (gI u 12)) 1)) 0) 2 0) 3 0) := by
      have e1 : gI (sI u 1 (gI u 12)) 1 = gI u 12 := rfl
      rw [e1, eix]
      refine ⟨hT, hK, ⟨hF.1, hF.2.1, hF.2.2.1, fun j hj => ?_⟩, ⟨fun k hk => ?_, fun p hp => ?_⟩, ⟨h12, h12, h6, h5⟩, fun h => absurd h (by decide), ⟨fun k hk => ?_, fun k hk => ?_⟩, rfl, rfl, trivial⟩
      · rw [← hF.2.2.2 j hj]; simp only [gA_sI, gA_sB, gA_sA, if_neg (show j ≠ 16 by omega), if_neg (show j ≠ 15 by omega)]
      · rw [gH_0, gH_1, gH_3]
        show upd (gA u 15) m 0 k = _ ∧ upd (gA u 16) m 0 k = _ ∧ vp_updL (gB u 9) m (gL u 0) k = _
        rw [updE, updE, updLE]
        by_cases hkm : k = m
        · rw [if_pos hkm, if_pos hkm, if_pos hkm, if_pos hkm, if_pos hkm, if_pos hkm]; exact ⟨rfl, rfl, hK.2.2.2.1 (Or.inl c2)⟩
        · rw [if_neg hkm, if_neg hkm, if_neg hkm, if_neg hkm, if_neg hkm, if_neg hkm]; exact hC.1 k (by omega)
      · rw [dm_H1] at hp
        rw [gH_o (by decide) (by decide) (by decide), gH_o (by decide) (by decide) (by decide), gH_o (by decide) (by decide) (by decide), gH_o (by decide) (by decide) (by decide)]
        exact hC.2 p hp
      · rw [gH_o (by decide) (by decide) (by decide)]; exact hR k hk
      · rw [gH_0, if_pos rfl] at hk; exact absurd hk (Nat.not_lt_zero _)
    exact c_begin hRC (e := (0, 0)) (by decide) (du' := 1) (by decide) rfl rfl (by decide) (fun U la' hU => ky c2 (by omega) hfm U la' hU)
  · rw [if_neg hfm]
    exact br_n (nI_m1 (by omega)) (hfl (Or.inr (Or.inr (by omega))))
/-- an argument's name -/
theorem c_argName {t : Nat → Nat} {n : Nat} {u0 u : St} {g : Nat → Nat → Nat} {L : Nat → List Nat} {d : Nat} {l : List (Nat × Nat)} {i du la : Nat} (h : RC t n u0 g L d l i du la u) (hd : d < 12) (hi : i ≤ n) (ha : g 0 d ≤ 6) (hN : ∀ k, k < g 0 d → NC (g 4 k)) {P : St → Prop}
    (ky : tk t n i = 2 → g 0 d < 6 → fnd (g 4) (nmT t n i) (g 0 d) 0 = g 0 d → ∀ U la', RC t n u0 (gA1 g d (nmT t n i)) L d l i 4 la' U → P U)
    (kn : tk t n i ≠ 2 ∨ g 0 d = 6 ∨ fnd (g 4) (nmT t n i) (g 0 d) 0 < g 0 d → ∀ U, FlC n u0 (tp t n i) U → P U) : wp_X3_takeArgumentName u P := by
  have hh := h
  obtain ⟨hT, hK, hF, hC, ⟨h12, h1, h6, h5⟩, hla, hR, h2, h3, hS⟩ := h
  have hf := fnd_le (g 4) (nmT t n i) (g 0 d) 0
  have hfl : tk t n i ≠ 2 ∨ g 0 d = 6 ∨ fnd (g 4) (nmT t n i) (g 0 d) 0 < g 0 d → wp_X3_takeArgumentName_45 u P := fun c => c_fail hh (kn c)
  have ein : vp_in (gI u 1) 12 := by rw [h1]; exact inN (by omega) (by decide)
  have eix : ix (gI u 1) = d := by rw [h1, ixN (by omega)]
  have e15 : gA u 15 d = nI (g 0 d) := (hC.1 d (by omega)).1
  refine ⟨ein, nm_i ?_⟩
  rw [eix, e15]
  refine br_b (fun c => ?_) (fun c => hfl (Or.inl (fun e => c ((tk9 hK (c := 2) (by decide)).mpr e))))
  have c2 : tk t n i = 2 := (tk9 hK (c := 2) (by decide)).mp c
  refine br_b (fun c => ?_) (fun c => ?_)
  · simp (disch := omega) only [ln_0, ln_1, ln_2, ln_3, ln_4, ln_5, ln_6, ln_7, ln_8, ln_9, ln_10, ln_11, ln_12, ln_13, ln_14, ln_15, ln_16, ln_17, ln_18, ln_19, ln_20, ln_21, ln_22, ln_23, ln_24, ln_25, ln_26, ln_27, ln_28, ln_29, ln_30, ln_31, ln_32, ln_33, ln_34, ln_35, ln_36, ln_37, ln_38, ln_39, ln_40, ln_41, ln_42, ln_43, ln_44, ln_45, ln_46, ln_47, ln_48, ln_49, ln_50, ln_51, ln_52, ln_53, ln_54, ln_55, ln_56, ln_57, ln_58, ln_59, ln_60, ln_61, ln_62, ln_91, ln_93, ln_97, ln_122, ln_120, ln_123, ln_124, ln_255, ln_256, ln_300, ln_720, ln_1500, ln_12000, ln_18000, nI_leI, nI_ltI, nI_eq] at c
    exact hfl (Or.inr (Or.inl c))
  simp (disch := omega) only [ln_0, ln_1, ln_2, ln_3, ln_4, ln_5, ln_6, ln_7, ln_8, ln_9, ln_10, ln_11, ln_12, ln_13, ln_14, ln_15, ln_16, ln_17, ln_18, ln_19, ln_20, ln_21, ln_22, ln_23, ln_24, ln_25, ln_26, ln_27, ln_28, ln_29, ln_30, ln_31, ln_32, ln_33, ln_34, ln_35, ln_36, ln_37, ln_38, ln_39, ln_40, ln_41, ln_42, ln_43, ln_44, ln_45, ln_46, ln_47, ln_48, ln_49, ln_50, ln_51, ln_52, ln_53, ln_54, ln_55, ln_56, ln_57, ln_58, ln_59, ln_60, ln_61, ln_62, ln_91, ln_93, ln_97, ln_122, ln_120, ln_123, ln_124, ln_255, ln_256, ln_300, ln_720, ln_1500, ln_12000, ln_18000, nI_leI, nI_ltI, nI_eq] at c
  have hNC := nmT_NC hi (Or.inl c2)
  refine c_argNamed hh hd ha hN hNC.1 (hK.2.2.2.1 (Or.inl c2)) ?_
  unfold rF
  by_cases hfm : fnd (g 4) (nmT t n i) (g 0 d) 0 = g 0 d
  · rw [if_pos hfm]
    refine br_p rfl ⟨inN (by omega) (by decide), nm_i (nm_i ⟨ein, ein, nm_i (nm_i ?_)⟩)⟩
    rw [ixN (by omega)]
    have e1 : gI (sB u 10 (g 0 d) (gL u 0)) 1 = gI u 1 := rfl
    rw [e1, eix]
    have e2 : gA (sB u 10 (g 0 d) (gL u 0)) 15 d + 1 = nI (g 0 d + 1) := by show gA u 15 d + 1 = _; rw [e15, nI_1]
    rw [e2]
    refine ky c2 (by omega) hfm _ 0 ⟨hT, hK, ⟨hF.1, hF.2.1, hF.2.2.1, fun j hj => ?_⟩, ⟨fun k hk => ?_, fun p hp => ?_⟩, ⟨h12, h1, h6, rfl⟩, fun h => absurd h (by decide), ⟨fun k hk => ?_, fun k hk => ?_⟩, h2, h3, hS⟩
    · rw [← hF.2.2.2 j hj]; simp only [gA_sI, gA_sB, gA_sA, if_neg (show j ≠ 15 by omega)]
    · rw [gA1_0, gA1_o (by decide) (by decide), gA1_o (by decide) (by decide)]
      show upd (gA u 15) d (nI (g 0 d + 1)) k = _ ∧ _
      rw [updE]
      obtain ⟨q1, q2, q3⟩ := hC.1 k hk
      by_cases hkd : k = d
      · rw [if_pos hkd, if_pos hkd]; exact ⟨rfl, q2, q3⟩
      · rw [if_neg hkd, if_neg hkd]; exact ⟨q1, q2, q3⟩
    · rw [dm_A] at hp
      rw [gA1_o (by decide) (by decide), gA1_o (by decide) (by decide), gA1_o (by decide) (by decide), gA1_o (by decide) (by decide)]
      exact hC.2 p hp
    · rw [gA1_o (by decide) (by decide)]; exact hR.1 k hk
    · rw [gA1_0, if_pos rfl] at hk
      rw [gA1_4]
      show vp_updL (gB u 10) (g 0 d) (gL u 0) k = _
      rw [updLE]
      by_cases hkd : k = g 0 d
      · rw [if_pos hkd, if_pos hkd]; exact hK.2.2.2.1 (Or.inl c2)
      · rw [if_neg hkd, if_neg hkd]; exact hR.2 k (by omega)
  · rw [if_neg hfm]
    exact br_n (nI_m1 (by omega)) (hfl (Or.inr (Or.inr (by omega))))
/-- what holds between definitions, and at a head -/
def ScD (g : Nat → Nat → Nat) (L : Nat → List Nat) (m : Nat) : Prop := ∃ sc : Nat → List Nat, (∀ p, dm g m p → ∀ k, k < (L p).length → sc ((L p).getD k 0) = if g 5 p = 6 ∧ k = 1 then p :: sc p else sc p) ∧ (∀ p, dm g m p → g 5 p = 3 → g 6 p ∈ sc p) ∧ ∀ k, k < m → sc (g 2 k) = []
def DIv (n : Nat) (g : Nat → Nat → Nat) (L : Nat → List Nat) (m i : Nat) : Prop := m ≤ 12 ∧ i ≤ n ∧ (∀ k, k < m → g 0 k ≤ 6 ∧ g 1 k ≤ 60 ∧ OK3 g m k) ∧ PIv g L m ∧ (∀ p, dm g m p → Cp g L p) ∧ ScD g L m
def HIv (n : Nat) (g : Nat → Nat → Nat) (L : Nat → List Nat) (d i : Nat) : Prop := d < 12 ∧ DIv n g L d i ∧ (g 0 d ≤ 6 ∧ g 1 d = 0 ∧ NC (g 3 d) ∧ ∀ j, j < d → g 3 j ≠ g 3 d) ∧ ∀ k, k < g 0 d → NC (g 4 k)
theorem HIv_mono {n : Nat} {g : Nat → Nat → Nat} {L : Nat → List Nat} {d i i' : Nat} (h : HIv n g L d i) (hn : i' ≤ n) : HIv n g L d i' := ⟨h.1, ⟨h.2.1.1, hn, h.2.1.2.2⟩, h.2.2⟩
theorem PIv_cg {g g' : Nat → Nat → Nat} {L : Nat → List Nat} {m m' : Nat} (h : PIv g L m) (hd : ∀ p, dm g' m' p ↔ dm g m p) (h0 : ∀ p, dm g m p → g' 0 (p / 60) = g 0 (p / 60)) (h5 : ∀ f j, 5 ≤ f → f ≤ 8 → g' f j = g f j) : PIv g' L m' := by
  refine ⟨fun p hp => ?_, fun p q hp hq => h.2 p q ((hd p).mp hp) ((hd q).mp hq)⟩
  have hp := (hd p).mp hp
  obtain ⟨b1, b2, b3, b4, b5⟩ := h.1 p hp
  refine ⟨fun x hx => ⟨(hd x).mpr (b1 x hx).1, (b1 x hx).2⟩, b2, ?_, ?_, ?_⟩
  · rw [h5 7 _ (by decide) (by decide), h5 8 _ (by decide) (by decide)]; exact b3
  · rw [h5 5 _ (by decide) (by decide), h5 6 _ (by decide) (by decide), h0 p hp]; exact b4
  · rw [h5 5 _ (by decide) (by decide), h5 6 _ (by decide) (by decide), h5 5 _ (by decide) (by decide)]
    intro h3
    obtain ⟨c1, c2⟩ := b5 h3
    exact ⟨(hd _).mpr c1, c2⟩
theorem Cp_cg {g g' : Nat → Nat → Nat} {L : Nat → List Nat} {p : Nat} (h : Cp g L p) (h5 : ∀ f j, 5 ≤ f → f ≤ 8 → g' f j = g f j) : Cp g' L p := by
  unfold Cp at *; rw [h5 5 _ (by decide) (by decide), h5 7 _ (by decide) (by decide)]; exact h
theorem HIv_name {n : Nat} {g : Nat → Nat → Nat} {L : Nat → List Nat} {m i e : Nat} (h : DIv n g L m i) (hm : m < 12) (he : NC e) (hf : fnd (g 3) e m 0 = m) : HIv n (gH g m e) L m i := by
  obtain ⟨a1, a2, a3, a4, a5, sc, s1, s2, s3⟩ := h
  have ho : ∀ f j, 5 ≤ f → f ≤ 8 → gH g m e f j = g f j := fun f j h1 h2 => gH_o (by omega) (by omega) (by omega)
  have hfl := (fnd_le (g 3) e m 0).2.2.2
  refine ⟨hm, ⟨a1, a2, fun k hk => ?_, ?_, fun p hp => Cp_cg (a5 p (dm_H.mp hp)) ho, sc, fun p hp => ?_, fun p hp => ?_, fun k hk => ?_⟩, ⟨by rw [gH_0, if_pos rfl]; omega, by rw [gH_1, if_pos rfl], by rw [gH_3, if_pos rfl]; exact he, fun j hj => ?_⟩, fun k hk => ?_⟩
  · obtain ⟨b1, b2, b3⟩ := a3 k hk
    rw [gH_0, gH_1, if_neg (by omega), if_neg (by omega)]
    refine ⟨b1, b2, ?_⟩
    obtain ⟨c1, c2, c3⟩ := b3
    obtain ⟨d1, d2, d3⟩ := c2 hk
    refine ⟨by rw [gH_3, if_neg (by omega)]; exact c1, fun _ => ⟨by rw [gH_1, if_neg (by omega)]; exact d1, ?_, ?_⟩, fun j hj => ?_⟩
    · rw [gH_o (by decide) (by decide) (by decide)]; exact dm_H.mpr d2
    · rw [gH_o (by decide) (by decide) (by decide)]; exact d3
    · rw [gH_3, gH_3, if_neg (by omega), if_neg (by omega)]; exact c3 j hj
  · exact PIv_cg a4 (fun p => dm_H) (fun p hp => by rw [gH_0, if_neg (by have := hp.1; omega)]) ho
  · rw [ho 5 _ (by decide) (by decide)]; exact s1 p (dm_H.mp hp)
  · rw [ho 5 _ (by decide) (by decide), ho 6 _ (by decide) (by decide)]; exact s2 p (dm_H.mp hp)
  · rw [gH_o (by decide) (by decide) (by decide)]; exact s3 k hk
  · rw [gH_3, gH_3, if_neg (by omega), if_pos rfl]; exact hfl j (Nat.zero_le _) (by omega)
  · rw [gH_0, if_pos rfl] at hk; exact absurd hk (Nat.not_lt_zero _)
theorem HIv_arg {n : Nat} {g : Nat → Nat → Nat} {L : Nat → List Nat} {d i e : Nat} (h : HIv n g L d i) (he : NC e) (h6 : g 0 d < 6) : HIv n (gA1 g d e) L d i := by
  obtain ⟨hd, ⟨a1, a2, a3, a4, a5, sc, s1, s2, s3⟩, ⟨b1, b2, b3, b4⟩, b5⟩ := h
  have ho : ∀ f j, f ≠ 0 → f ≠ 4 → gA1 g d e f j = g f j := fun f j h1 h2 => gA1_o h1 h2
  have ho2 : ∀ f j, 5 ≤ f → f ≤ 8 → gA1 g d e f j = g f j := fun f j h1 h2 => gA1_o (by omega) (by omega)
  refine ⟨hd, ⟨a1, a2, fun k hk => ?_, ?_, fun p hp => Cp_cg (a5 p (dm_A.mp hp)) ho2, sc, fun p hp => ?_, fun p hp => ?_, fun k hk => ?_⟩, ⟨by rw [gA1_0, if_pos rfl]; omega, by rw [ho 1 _ (by decide) (by decide)]; exact b2, by rw [ho 3 _ (by decide) (by decide)]; exact b3, fun j hj => by rw [ho 3 _ (by decide) (by decide), ho 3 _ (by decide) (by decide)]; exact b4 j hj⟩, fun k hk => ?_⟩
  · obtain ⟨c1, c2, c3⟩ := a3 k hk
    rw [gA1_0, if_neg (by omega), ho 1 _ (by decide) (by decide)]
    exact ⟨c1, c2, OK3_cg c3 (by omega) (fun j _ => ho 1 _ (by decide) (by decide)) (fun j => ho 2 _ (by decide) (by decide)) (fun j => ho 3 _ (by decide) (by decide))⟩
  · exact PIv_cg a4 (fun p => dm_A) (fun p hp => by rw [gA1_0, if_neg (by have := hp.1; omega)]) ho2
  · rw [ho 5 _ (by decide) (by decide)]; exact s1 p (dm_A.mp hp)
  · rw [ho 5 _ (by decide) (by decide), ho 6 _ (by decide) (by decide)]; exact s2 p (dm_A.mp hp)
  · rw [ho 2 _ (by decide) (by decide)]; exact s3 k hk
  · rw [gA1_0, if_pos rfl] at hk
    rw [gA1_4]
    by_cases hkd : k = g 0 d
    · rw [if_pos hkd]; exact he
    · rw [if_neg hkd]; exact b5 k (by omega)
/-- from a head to its expression -/
theorem HIv_GIb {n : Nat} {g : Nat → Nat → Nat} {L : Nat → List Nat} {d i : Nat} (h : HIv n g L d i) : GIb n g L d [(0, 0)] i := by
  obtain ⟨hd, ⟨a1, a2, a3, a4, a5, sc, s1, s2, s3⟩, ⟨b1, b2, b3, b4⟩, b5⟩ := h
  have e := fun p => dm_0 (p := p) b2
  have hB : BeO g L d [(0, 0)] := fun p ⟨f1, f2, f3, f4⟩ => by have := ((e p).mp f1).1; omega
  refine ⟨⟨hd, a2, fun k hk => ?_, b5, PIv_cg a4 e (fun _ _ => rfl) (fun _ _ _ _ => rfl), Or.inl ⟨rfl, rfl⟩, by decide, ?_, fun p hp _ => a5 p ((e p).mp hp), sc, fun p hp => s1 p ((e p).mp hp), fun p hp => s2 p ((e p).mp hp), s3, ⟨fun h => absurd h (by show ¬ (2 ≤ 0); decide), trivial⟩, fun p hp => absurd hp (hB p)⟩, hB⟩
  · rcases (show k < d ∨ k = d by omega) with hk | rfl
    · obtain ⟨c1, c2, c3⟩ := a3 k hk; exact ⟨c1, c2, c3⟩
    · exact ⟨b1, by omega, b3, fun h => absurd h (Nat.lt_irrefl _), b4⟩
  · rw [b2]; decide
/-- from an expression's end to the next head -/
theorem GIv_DIv {n : Nat} {g : Nat → Nat → Nat} {L : Nat → List Nat} {d x i i' la : Nat} (h : GIv n g L d [(0, x)] i) (hla : LaO g L d [(0, x)] la) (hi : i' ≤ n) : DIv n (up g 2 d la) L (d + 1) i' := by
  obtain ⟨a1, a2, a3, a4, a5, a6, a7, a8, a9, sc, c1, c2, c3, c4, c5⟩ := h
  have ho : ∀ f j, f ≠ 2 → up g 2 d la f j = g f j := fun f j h => up_f h
  have ho2 : ∀ f j, 5 ≤ f → f ≤ 8 → up g 2 d la f j = g f j := fun f j h1 h2 => up_f (by omega)
  have e : ∀ m p, dm (up g 2 d la) m p ↔ dm g m p := fun m p => by unfold dm; rw [ho 1 _ (by decide)]
  have hnS : ∀ p, ¬ inS [(0, x)] p := fun p ⟨y, hy, hy2, _⟩ => by simp at hy; subst hy; exact absurd hy2 (by show ¬ (2 ≤ 0); decide)
  obtain ⟨l1, l2, l3, l4⟩ := hla.1
  refine ⟨by omega, hi, fun k hk => ?_, PIv_cg a5 (e (d + 1)) (fun _ _ => ho 0 _ (by decide)) ho2, fun p hp => Cp_cg (a9 p ((e _ p).mp hp) (hnS p)) ho2, sc, fun p hp => ?_, fun p hp => ?_, fun k hk => ?_⟩
  · obtain ⟨q1, q2, q3, q4, q5⟩ := a3 k (by omega)
    rw [ho 0 _ (by decide), ho 1 _ (by decide)]
    refine ⟨q1, q2, by rw [ho 3 _ (by decide)]; exact q3, fun _ => ?_, fun j hj => by rw [ho 3 _ (by decide), ho 3 _ (by decide)]; exact q5 j hj⟩
    rw [ho 1 _ (by decide), e, up_i]
    by_cases hkd : k = d
    · subst hkd
      rw [if_pos rfl]
      refine ⟨?_, l1, l2⟩
      have := l1.2; rw [l2] at this; omega
    · rw [if_neg hkd]
      obtain ⟨r1, r2, r3⟩ := q4 (by omega)
      exact ⟨r1, ⟨by have := r2.1; omega, r2.2⟩, r3⟩
  · rw [ho 5 _ (by decide)]; exact c1 p ((e _ p).mp hp)
  · rw [ho 5 _ (by decide), ho 6 _ (by decide)]; exact c2 p ((e _ p).mp hp)
  · rw [up_i]
    by_cases hkd : k = d
    · rw [if_pos hkd, c5 la hla.1]; rfl
    · rw [if_neg hkd]; exact c3 k (by omega)
