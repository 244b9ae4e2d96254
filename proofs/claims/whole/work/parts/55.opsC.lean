/-! 55.opsC: the class's small steps of reading -/
def LCo : Nat → Nat → Prop
  | 0, e => e = 0
  | k + 1, e => e = 0 ∨ (97 ≤ e % 256 ∧ e % 256 ≤ 122 ∧ LCo k (e / 256))
def NC (e : Nat) : Prop := LCo 8 e ∧ e < 2 ^ 63
def mF : Nat → Nat → Nat
  | 0, _ => 0
  | k + 1, e => 32 * mF k (e / 256) + (e % 256 - 96)
def mN (e : Nat) : Nat := mF 8 e
def nmT (t : Nat → Nat) (n i : Nat) : Nat := eC t (tp t n i) (te t n i - tp t n i)
theorem LCo_mono : ∀ k e, LCo k e → LCo (k + 1) e := by
  intro k
  induction k with
  | zero => intro e h; exact Or.inl h
  | succ k ih =>
    intro e h
    rcases h with h | ⟨h1, h2, h3⟩
    · exact Or.inl h
    · exact Or.inr ⟨h1, h2, ih _ h3⟩
theorem LCo_le {k k' e : Nat} (h : LCo k e) (hk : k ≤ k') : LCo k' e := by
  induction hk with
  | refl => exact h
  | step _ ih => exact LCo_mono _ _ ih
theorem eC_LCo {t : Nat → Nat} {p : Nat} : ∀ k, (∀ j, j < k → 97 ≤ t (p + j) ∧ t (p + j) ≤ 122) → LCo k (eC t p k) := by
  intro k
  induction k with
  | zero => intro _; exact rfl
  | succ k ih =>
    intro h
    have hk := h k (by omega)
    have e1 : eC t p (k + 1) % 256 = t (p + k) := by simp only [eC]; omega
    have e2 : eC t p (k + 1) / 256 = eC t p k := by simp only [eC]; omega
    refine Or.inr ⟨by rw [e1]; exact hk.1, by rw [e1]; exact hk.2, by rw [e2]; exact ih (fun j hj => h j (by omega))⟩
theorem mF_inj : ∀ k e e', LCo k e → LCo k e' → mF k e = mF k e' → e = e' := by
  intro k
  induction k with
  | zero => intro e e' h h' _; exact h.trans h'.symm
  | succ k ih =>
    intro e e' h h' hm
    simp only [mF] at hm
    rcases h with h | ⟨h1, h2, h3⟩
    · subst h
      rcases h' with h' | ⟨h1', h2', h3'⟩
      · exact h'.symm
      · simp at hm
        have z : ∀ k, mF k 0 = 0 := by
          intro k
          induction k with
          | zero => rfl
          | succ k ih => simp only [mF, Nat.zero_div, ih]
        rw [z] at hm
        omega
    · rcases h' with h' | ⟨h1', h2', h3'⟩
      · subst h'
        have z : ∀ k, mF k 0 = 0 := by
          intro k
          induction k with
          | zero => rfl
          | succ k ih => simp only [mF, Nat.zero_div, ih]
        simp at hm
        rw [z] at hm
        omega
      · have h4 := ih _ _ h3 h3' (by omega)
        omega
theorem mF_b : ∀ k e, LCo k e → mF k e < 32 ^ k := by
  intro k
  induction k with
  | zero => intro e _; exact Nat.one_pos
  | succ k ih =>
    intro e h
    simp only [mF]
    have h1 : LCo k (e / 256) ∧ e % 256 - 96 < 32 := by
      rcases h with h | ⟨h1, h2, h3⟩
      · subst h; refine ⟨?_, by omega⟩
        cases k with
        | zero => rfl
        | succ k => exact Or.inl rfl
      · exact ⟨h3, by omega⟩
    have := ih _ h1.1
    rw [Nat.pow_succ]
    omega
theorem mN_63 {e : Nat} (h : NC e) : mN e < 2 ^ 63 := Nat.lt_trans (mF_b 8 e h.1) (by decide)
theorem nC_eq {e e' : Nat} (h : NC e) (h' : NC e') : (lg_cmp (lN e) (lN e') = 0) ↔ e = e' := by rw [lg_cmp_eq, pk_lEQ h.2 h'.2]
theorem nM_eq {e e' : Nat} (h : NC e) (h' : NC e') : (lg_cmp (lN (mN e)) (lN (mN e')) = 0) ↔ e = e' := by
  rw [lg_cmp_eq, pk_lEQ (mN_63 h) (mN_63 h')]
  exact ⟨mF_inj 8 e e' h.1 h'.1, fun x => by rw [x]⟩
theorem tk_name {t : Nat → Nat} {n i : Nat} (hi : i ≤ n) (h : tk t n i = 2 ∨ (4 ≤ tk t n i ∧ tk t n i ≤ 9)) : clt t (tp t n i) (te t n i - tp t n i) = te t n i - tp t n i ∧ te t n i - tp t n i ≤ 8 ∧ 1 ≤ te t n i - tp t n i ∧ tp t n i < n := by
  have h913 : ∀ c ∈ sgN, 37 ≤ c := by decide
  have hte := tp_te (t := t) hi
  unfold tk at h
  by_cases h1 : tp t n i < n
  · rw [if_pos h1] at h
    by_cases h2 : rwc (t (tp t n i)) = true
    · rw [if_pos h2] at h
      by_cases h3 : clt t (tp t n i) (te t n i - tp t n i) = te t n i - tp t n i ∧ te t n i - tp t n i ≤ 8
      · exact ⟨h3.1, h3.2, by have := hte.2.2.2 h1; omega, h1⟩
      · rw [if_neg h3] at h
        split at h <;> omega
    · rw [if_neg h2] at h
      by_cases h4 : t (tp t n i) ∈ sgN
      · rw [if_pos h4] at h; have := h913 _ h4; omega
      · rw [if_neg h4] at h; omega
  · rw [if_neg h1] at h; omega
theorem nmT_NC {t : Nat → Nat} {n i : Nat} (hi : i ≤ n) (h : tk t n i = 2 ∨ (4 ≤ tk t n i ∧ tk t n i ≤ 9)) : NC (nmT t n i) ∧ nmT t n i ≠ 0 := by
  obtain ⟨h1, h2, h3, h4⟩ := tk_name hi h
  have hl := clt_all h1
  have hb : ∀ j, j < te t n i - tp t n i → 97 ≤ t (tp t n i + j) ∧ t (tp t n i + j) ≤ 122 := fun j hj => isL_b (hl j hj)
  refine ⟨⟨LCo_le (eC_LCo _ hb) h2, eC_63 h1 h2⟩, ?_⟩
  unfold nmT
  obtain ⟨m, hm⟩ : ∃ m, te t n i - tp t n i = m + 1 := ⟨te t n i - tp t n i - 1, by omega⟩
  have := hb m (by omega)
  rw [hm]
  simp only [eC]
  omega
theorem tk_le {t : Nat → Nat} {n i : Nat} : tk t n i ≤ 93 ∧ (10 ≤ tk t n i → tk t n i ∈ sgN) := by
  have h913 : ∀ c ∈ sgN, c ≤ 93 := by decide
  have hw := wk_r (eC t (tp t n i) (te t n i - tp t n i))
  unfold tk
  split
  · split
    · split
      · exact ⟨by omega, fun h => by omega⟩
      · split <;> exact ⟨by omega, fun h => by omega⟩
    · split
      · next h => exact ⟨h913 _ h, fun _ => h⟩
      · exact ⟨by omega, fun h => by omega⟩
  · exact ⟨by omega, fun h => by omega⟩
theorem paN_1 {e : Nat × Nat} {l : List (Nat × Nat)} (h : e.1 = 1) : paN (e :: l) = paN l + 1 := by simp only [paN]; rw [if_pos h, Nat.add_comm]
theorem paN_0 {e : Nat × Nat} {l : List (Nat × Nat)} (h : e.1 ≠ 1) : paN (e :: l) = paN l := by simp only [paN]; rw [if_neg h, Nat.zero_add]
theorem nI_0le {n : Nat} (h : n < 2 ^ 31) : (0 : Int32) ≤ nI n := by
  have e : (0 : Int32) = nI 0 := rfl
  rw [e, nI_leI (by omega) (by omega)]; exact Nat.zero_le n
def lvS (c : Nat) : Nat := if c = 60 ∨ c = 61 ∨ c = 62 then 1 else if c = 43 ∨ c = 45 then 2 else if c = 42 ∨ c = 47 ∨ c = 37 then 3 else 0
def lvK (c : Nat) : Nat := if c = 4 then 4 else lvS c
def lvT (e : Nat) : Nat := if e = 11 then 1 else if e = 12 then 2 else if e = 13 then 3 else if e = 14 then 4 else 0
theorem c_lvS {u : St} {c : Nat} (hc : c < 1000) {x : Int32} (hx : x = nI c) {P : Int32 → St → Prop} (k : P (nI (lvS c)) u) : wp_X3_levelOfSign u x P := by
  subst hx
  have q : ∀ a : Nat, a < 1000 → (nI c = nI a ↔ c = a) := fun a ha => nI_eq (by omega) (by omega)
  unfold lvS at k
  refine br_b (fun h => ?_) (fun h1 => br_b (fun h => ?_) (fun h2 => br_b (fun h => ?_) (fun h3 => br_b (fun h => ?_) (fun h4 => br_b (fun h => ?_) (fun h5 => br_b (fun h => ?_) (fun h6 => br_b (fun h => ?_) (fun h7 => br_b (fun h => ?_) (fun h8 => ?_))))))))
  · have := (q 37 (by decide)).mp h; subst this; exact k
  · have := (q 42 (by decide)).mp h; subst this; exact k
  · have := (q 43 (by decide)).mp h; subst this; exact k
  · have := (q 45 (by decide)).mp h; subst this; exact k
  · have := (q 47 (by decide)).mp h; subst this; exact k
  · have := (q 60 (by decide)).mp h; subst this; exact k
  · have := (q 61 (by decide)).mp h; subst this; exact k
  · have := (q 62 (by decide)).mp h; subst this; exact k
  · replace h1 := fun h => h1 ((q 37 (by decide)).mpr h)
    replace h2 := fun h => h2 ((q 42 (by decide)).mpr h)
    replace h3 := fun h => h3 ((q 43 (by decide)).mpr h)
    replace h4 := fun h => h4 ((q 45 (by decide)).mpr h)
    replace h5 := fun h => h5 ((q 47 (by decide)).mpr h)
    replace h6 := fun h => h6 ((q 60 (by decide)).mpr h)
    replace h7 := fun h => h7 ((q 61 (by decide)).mpr h)
    replace h8 := fun h => h8 ((q 62 (by decide)).mpr h)
    rw [if_neg (fun h => h.elim h6 (fun h => h.elim h7 h8)), if_neg (fun h => h.elim h3 h4), if_neg (fun h => h.elim h2 (fun h => h.elim h5 h1))] at k
    exact k
theorem c_fail {t : Nat → Nat} {n : Nat} {u0 u : St} {g : Nat → Nat → Nat} {L : Nat → List Nat} {d : Nat} {l : List (Nat × Nat)} {i du la : Nat} (h : RC t n u0 g L d l i du la u) {P : St → Prop} (k : ∀ U, FlC n u0 (tp t n i) U → P U) : wp_X3_fail u P :=
  nm_i (k _ ⟨h.2.2.1, h.2.1.1, h.1.2.1⟩)
theorem c_due {t : Nat → Nat} {n : Nat} {u0 u : St} {g : Nat → Nat → Nat} {L : Nat → List Nat} {d : Nat} {l : List (Nat × Nat)} {i du la : Nat} (h : RC t n u0 g L d l i du la u) (x : Nat) (hx : x ≠ 7) (la' : Nat) : RC t n u0 g L d l i x la' (sI u 5 (nI x)) := by
  obtain ⟨hT, hK, hF, hC, ⟨h12, h1, h6, h5⟩, hla, hR, h2, h3, hS⟩ := h
  exact ⟨hT, hK, hF, hC, ⟨h12, h1, h6, rfl⟩, fun h => absurd h hx, hR, h2, h3, hS⟩
theorem c_expect {t : Nat → Nat} {n : Nat} {u0 u : St} {g : Nat → Nat → Nat} {L : Nat → List Nat} {d : Nat} {l : List (Nat × Nat)} {i du la : Nat} (h : RC t n u0 g L d l i du la u) {x1 x2 : Int32} {k1 k2 : Nat} (e1 : x1 = nI k1) (e2 : x2 = nI k2) (hk : k1 < 1000) (h2 : k2 ≠ 7) {P : St → Prop} (ky : tk t n i = k1 → ∀ U la', RC t n u0 g L d l i k2 la' U → P U) (kn : tk t n i ≠ k1 → ∀ U, FlC n u0 (tp t n i) U → P U) : wp_X3_expect u x1 x2 P := by
  subst e1 e2
  have hle := (tk_le (t := t) (n := n) (i := i)).1
  have e9 : gI u 9 = nI (tk t n i) := h.2.1.2.2.1
  refine br_b (fun c => nm_i ?_) (fun c => c_fail h (kn ?_))
  · rw [e9, nI_eq (by omega) (by omega)] at c
    exact ky c _ 0 (c_due h k2 h2 0)
  · rw [e9, nI_eq (by omega) (by omega)] at c; exact c
theorem c_begin {t : Nat → Nat} {n : Nat} {u0 u : St} {g : Nat → Nat → Nat} {L : Nat → List Nat} {d : Nat} {l : List (Nat × Nat)} {i du la : Nat} (h : RC t n u0 g L d l i du la u) {e : Nat × Nat} (he : e.1 ≠ 1) {du' : Nat} (hdu : du' ≠ 7) {x1 x2 : Int32} (e1 : x1 = cdE e) (e2 : x2 = nI du') (hl : l.length < 81) {P : St → Prop} (k : ∀ U la', RC t n u0 g L d (e :: l) i du' la' U → P U) : wp_X3_begin u x1 x2 P := by
  obtain ⟨hT, hK, hF, hC, ⟨h12, h1, h6, h5⟩, hla, hR, h2, h3, hS⟩ := h
  subst e1 e2
  refine ⟨by rw [h2]; exact inN hl (by decide), nm_i (nm_i (nm_i ?_))⟩
  rw [h2, ixN (by omega)]
  refine k _ 0 ⟨hT, hK, ⟨hF.1, hF.2.1, hF.2.2.1, fun j hj => ?_⟩, hC, ⟨h12, h1, h6, rfl⟩, fun h => absurd h hdu, hR, ?_, ?_, ?_⟩
  · rw [← hF.2.2.2 j hj]; simp only [gA_sI, gA_sA, if_neg (show j ≠ 13 by omega)]
  · show gI u 2 + 1 = _; rw [h2, nI_1]; rfl
  · show gI u 3 = _; rw [h3, paN_0 he]
  · show upd (gA u 13) l.length (cdE e) l.length = cdE e ∧ CS (upd (gA u 13) l.length (cdE e)) l
    exact ⟨by rw [updE, if_pos rfl], CS_upd hS (Nat.le_refl _)⟩
theorem c_paren {t : Nat → Nat} {n : Nat} {u0 u : St} {g : Nat → Nat → Nat} {L : Nat → List Nat} {d : Nat} {l : List (Nat × Nat)} {i du la : Nat} (h : RC t n u0 g L d l i du la u) (hp : paN l ≤ 20) (hl : paN l < 20 → l.length < 81) {P : St → Prop} (ky : paN l < 20 → ∀ U la', RC t n u0 g L d ((1, 0) :: l) i 6 la' U → P U) (kn : paN l = 20 → ∀ U, FlC n u0 (tp t n i) U → P U) : wp_X3_takeParenthesis u P := by
  have hh := h
  obtain ⟨hT, hK, hF, hC, ⟨h12, h1, h6, h5⟩, hla, hR, h2, h3, hS⟩ := h
  refine br_b (fun c => c_fail hh (kn ?_)) (fun c => nm_i ?_)
  · rw [h3] at c; simp (disch := omega) only [ln_0, ln_1, ln_2, ln_3, ln_4, ln_5, ln_6, ln_7, ln_8, ln_9, ln_10, ln_11, ln_12, ln_13, ln_14, ln_15, ln_16, ln_17, ln_18, ln_19, ln_20, ln_21, ln_22, ln_23, ln_24, ln_25, ln_26, ln_27, ln_28, ln_29, ln_30, ln_31, ln_32, ln_33, ln_34, ln_35, ln_36, ln_37, ln_38, ln_39, ln_40, ln_41, ln_42, ln_43, ln_44, ln_45, ln_46, ln_47, ln_48, ln_49, ln_50, ln_51, ln_52, ln_53, ln_54, ln_55, ln_56, ln_57, ln_58, ln_59, ln_60, ln_61, ln_62, ln_91, ln_93, ln_97, ln_122, ln_120, ln_123, ln_124, ln_255, ln_256, ln_300, ln_720, ln_1500, ln_12000, ln_18000, nI_leI, nI_ltI, nI_eq] at c; exact c
  · rw [h3] at c; simp (disch := omega) only [ln_0, ln_1, ln_2, ln_3, ln_4, ln_5, ln_6, ln_7, ln_8, ln_9, ln_10, ln_11, ln_12, ln_13, ln_14, ln_15, ln_16, ln_17, ln_18, ln_19, ln_20, ln_21, ln_22, ln_23, ln_24, ln_25, ln_26, ln_27, ln_28, ln_29, ln_30, ln_31, ln_32, ln_33, ln_34, ln_35, ln_36, ln_37, ln_38, ln_39, ln_40, ln_41, ln_42, ln_43, ln_44, ln_45, ln_46, ln_47, ln_48, ln_49, ln_50, ln_51, ln_52, ln_53, ln_54, ln_55, ln_56, ln_57, ln_58, ln_59, ln_60, ln_61, ln_62, ln_91, ln_93, ln_97, ln_122, ln_120, ln_123, ln_124, ln_255, ln_256, ln_300, ln_720, ln_1500, ln_12000, ln_18000, nI_leI, nI_ltI, nI_eq] at c
    have hl2 := hl (by omega)
    refine ⟨by show vp_in (gI u 2) 81; rw [h2]; exact inN hl2 (by decide), nm_i (nm_i (nm_i ?_))⟩
    refine ky (by omega) _ 0 ⟨hT, hK, ⟨hF.1, hF.2.1, hF.2.2.1, fun j hj => ?_⟩, hC, ⟨h12, h1, h6, rfl⟩, fun h => absurd h (by decide), hR, ?_, ?_, ?_⟩
    · rw [← hF.2.2.2 j hj]; simp only [gA_sI, gA_sA, if_neg (show j ≠ 13 by omega)]
    · show gI u 2 + 1 = _; rw [h2, nI_1]; rfl
    · show gI u 3 + 1 = _; rw [h3, nI_1, paN_1 rfl]
    · show upd (gA u 13) (ix (gI u 2)) (-2) l.length = cdE (1, 0) ∧ CS (upd (gA u 13) (ix (gI u 2)) (-2)) l
      rw [h2, ixN (by omega)]
      exact ⟨by rw [updE, if_pos rfl]; rfl, CS_upd hS (Nat.le_refl _)⟩
theorem c_inner {t : Nat → Nat} {n : Nat} {u0 u : St} {g : Nat → Nat → Nat} {L : Nat → List Nat} {d : Nat} {l : List (Nat × Nat)} {i du la : Nat} {e : Nat × Nat} (h : RC t n u0 g L d (e :: l) i du la u) (hl : l.length < 81) {P : Int32 → St → Prop} (k : P (cdE e) u) : wp_X3_innermost u P := by
  obtain ⟨hT, hK, hF, hC, ⟨h12, h1, h6, h5⟩, hla, hR, h2, h3, hS⟩ := h
  have e1 : gI u 2 - 1 = nI l.length := by rw [h2]; show nI (l.length + 1) - nI 1 = _; rw [pk_sub (by omega)]; rfl
  refine br_n ?_ ⟨by rw [e1]; exact inN hl (by decide), ?_⟩
  · rw [h2]; exact nI_nle (by simp) (by simp only [List.length_cons]; omega)
  · rw [e1, ixN (by omega), hS.1]; exact k
theorem c_end {t : Nat → Nat} {n : Nat} {u0 u : St} {g : Nat → Nat → Nat} {L : Nat → List Nat} {d : Nat} {l : List (Nat × Nat)} {i du la : Nat} {e : Nat × Nat} (h : RC t n u0 g L d (e :: l) i du la u) (he : 2 ≤ e.1) (hl : l.length < 81) {P : St → Prop} (k : ∀ U, RC t n u0 g L d l i 7 e.2 U → P U) : wp_X3_end u P := by
  obtain ⟨hT, hK, hF, hC, ⟨h12, h1, h6, h5⟩, hla, hR, h2, h3, hS⟩ := h
  have e1 : gI u 2 - 1 = nI l.length := by rw [h2]; show nI (l.length + 1) - nI 1 = _; rw [pk_sub (by omega)]; rfl
  refine nm_i ⟨by show vp_in (gI u 2 - 1) 81; rw [e1]; exact inN hl (by decide), nm_i (nm_i ?_)⟩
  refine k _ ⟨hT, hK, hF, hC, ⟨h12, h1, h6, rfl⟩, fun _ => ?_, hR, e1, ?_, hS.2⟩
  · show gA u 13 (ix (gI u 2 - 1)) = _
    rw [e1, ixN (by omega), hS.1]; unfold cdE; rw [if_neg (by omega), if_neg (by omega)]
  · show gI u 3 = _; rw [h3, paN_0 (by omega)]
theorem cdE_2 {e : Nat × Nat} (he : 2 ≤ e.1) : cdE e = nI e.2 := by unfold cdE; rw [if_neg (by omega), if_neg (by omega)]
theorem c_endLatest {t : Nat → Nat} {n : Nat} {u0 u : St} {g : Nat → Nat → Nat} {L : Nat → List Nat} {d : Nat} {l : List (Nat × Nat)} {i la : Nat} {e : Nat × Nat} (h : RC t n u0 g L d (e :: l) i 7 la u) (hd : d < 12) (he : 2 ≤ e.1) (hl : l.length < 81) (hp : dm g (d + 1) e.2) (hlen : (L e.2).length < 100000) {P : St → Prop} (k : ∀ U, RC t n u0 g (upL L e.2 (L e.2 ++ [la])) d l i 7 e.2 U → P U) : wp_X3_endWithLatest u P := by
  refine c_inner h hl ?_
  refine c_attach h hd hp hlen (cdE_2 he) (h.2.2.2.2.2.1 rfl) (fun U hU => ?_)
  exact c_end hU he hl k
theorem c_level {t : Nat → Nat} {n : Nat} {u0 u : St} {g : Nat → Nat → Nat} {L : Nat → List Nat} {d : Nat} {l : List (Nat × Nat)} {i du la : Nat} (h : RC t n u0 g L d l i du la u) (hd : d < 12) {e : Nat × Nat} (he : 2 ≤ e.1 → dm g (d + 1) e.2 ∧ lvK (g 5 e.2) = lvT e.1 ∧ g 5 e.2 < 1000) {x : Int32} (hx : x = cdE e) {P : Int32 → St → Prop} (k : P (nI (lvT e.1)) u) : wp_X3_levelOf u x P := by
  subst hx
  obtain ⟨hT, hK, hF, hC, ⟨h12, h1, h6, h5⟩, hla, hR, h2, h3, hS⟩ := h
  by_cases h2e : 2 ≤ e.1
  · obtain ⟨q1, q2, q3⟩ := he h2e
    have hp := dm_lt q1 (by omega)
    have q4 := (hC.2 e.2 q1).1
    rw [cdE_2 h2e]
    refine br_p (nI_0le (by omega)) ⟨inN hp (by decide), nm_i ?_⟩
    rw [ixN (by omega), q4]
    rw [← q2] at k
    unfold lvK at k
    refine br_b (fun c => ?_) (fun c => ?_)
    · simp (disch := omega) only [ln_0, ln_1, ln_2, ln_3, ln_4, ln_5, ln_6, ln_7, ln_8, ln_9, ln_10, ln_11, ln_12, ln_13, ln_14, ln_15, ln_16, ln_17, ln_18, ln_19, ln_20, ln_21, ln_22, ln_23, ln_24, ln_25, ln_26, ln_27, ln_28, ln_29, ln_30, ln_31, ln_32, ln_33, ln_34, ln_35, ln_36, ln_37, ln_38, ln_39, ln_40, ln_41, ln_42, ln_43, ln_44, ln_45, ln_46, ln_47, ln_48, ln_49, ln_50, ln_51, ln_52, ln_53, ln_54, ln_55, ln_56, ln_57, ln_58, ln_59, ln_60, ln_61, ln_62, ln_91, ln_93, ln_97, ln_122, ln_120, ln_123, ln_124, ln_255, ln_256, ln_300, ln_720, ln_1500, ln_12000, ln_18000, nI_leI, nI_ltI, nI_eq] at c
      rw [if_pos c] at k; exact k
    · simp (disch := omega) only [ln_0, ln_1, ln_2, ln_3, ln_4, ln_5, ln_6, ln_7, ln_8, ln_9, ln_10, ln_11, ln_12, ln_13, ln_14, ln_15, ln_16, ln_17, ln_18, ln_19, ln_20, ln_21, ln_22, ln_23, ln_24, ln_25, ln_26, ln_27, ln_28, ln_29, ln_30, ln_31, ln_32, ln_33, ln_34, ln_35, ln_36, ln_37, ln_38, ln_39, ln_40, ln_41, ln_42, ln_43, ln_44, ln_45, ln_46, ln_47, ln_48, ln_49, ln_50, ln_51, ln_52, ln_53, ln_54, ln_55, ln_56, ln_57, ln_58, ln_59, ln_60, ln_61, ln_62, ln_91, ln_93, ln_97, ln_122, ln_120, ln_123, ln_124, ln_255, ln_256, ln_300, ln_720, ln_1500, ln_12000, ln_18000, nI_leI, nI_ltI, nI_eq] at c
      rw [if_neg c] at k; exact c_lvS q3 rfl k
  · have : lvT e.1 = 0 := by unfold lvT; rw [if_neg (by omega), if_neg (by omega), if_neg (by omega), if_neg (by omega)]
    rw [this] at k
    have hc : ¬ (0 : Int32) ≤ cdE e := by
      rcases (show e.1 = 0 ∨ e.1 = 1 by omega) with h0 | h0
      · unfold cdE; rw [if_pos h0]; decide
      · unfold cdE; rw [if_neg (by omega), if_pos h0]; decide
    exact br_n hc k
