/-! 78.link: calls are bound -/
theorem nd_sub {α : Type} [DecidableEq α] : ∀ (l l' : List α), l.Nodup → (∀ x, x ∈ l → x ∈ l') → l.length ≤ l'.length
  | [], _, _, _ => Nat.zero_le _
  | x :: l, l', hn, hs => by
    obtain ⟨h1, h2⟩ := List.nodup_cons.mp hn
    have hx := hs x List.mem_cons_self
    have h := nd_sub l (l'.erase x) h2 (fun y hy => (List.mem_erase_of_ne (fun e => h1 (by rw [← e]; exact hy))).mpr (hs y (List.mem_cons_of_mem _ hy)))
    rw [List.length_erase_of_mem hx] at h
    have := List.length_pos_of_mem hx
    rw [List.length_cons]; omega
theorem kids_60 {g : Nat → Nat → Nat} {L : Nat → List Nat} {m p : Nat} (h : PIv g L m) (hp : dm g m p) : (L p).length ≤ 60 := by
  obtain ⟨b1, b2, _⟩ := h.1 p hp
  have := nd_sub (L p) (List.range' (60 * (p / 60)) 60) b2 (fun x hx => List.mem_range'_1.mpr (by have := (b1 x hx).2; omega))
  rw [List.length_range'] at this; exact this
def nar (g : Nat → Nat → Nat) (L : Nat → List Nat) (p : Nat) : Nat := if g 5 p = 8 then (L p).length + 1 else (L p).length
def tgt (g : Nat → Nat → Nat) (m p : Nat) : Nat := fnd (g 3) (g 7 p) m 0
def badc (g : Nat → Nat → Nat) (L : Nat → List Nat) (m p : Nat) : Bool := (decide (g 5 p = 7) || decide (g 5 p = 8)) && !(decide (tgt g m p < m) && decide (g 0 (tgt g m p) = nar g L p))
def stA (g : Nat → Nat → Nat) (L : Nat → List Nat) (m a p : Nat) : Nat := if badc g L m p = true then (if a = 0 ∨ g 8 p + 1 < a then g 8 p + 1 else a) else a
def aP (g : Nat → Nat → Nat) (L : Nat → List Nat) (m k a : Nat) : Nat → Nat
  | 0 => a
  | j + 1 => stA g L m (aP g L m k a j) (60 * k + j)
def aD (g : Nat → Nat → Nat) (L : Nat → List Nat) (m : Nat) : Nat → Nat
  | 0 => 0
  | k + 1 => aP g L m k (aD g L m k) (g 1 k)
def rA (a : Nat) : Int32 := if a = 0 then -1 else nI (a - 1)
theorem badc_no {g : Nat → Nat → Nat} {L : Nat → List Nat} {m p : Nat} (h : g 5 p ≠ 7 ∧ g 5 p ≠ 8) : badc g L m p = false := by
  unfold badc; rw [decide_eq_false h.1, decide_eq_false h.2]; rfl
theorem badc_cl {g : Nat → Nat → Nat} {L : Nat → List Nat} {m p : Nat} (h : g 5 p = 7 ∨ g 5 p = 8) : badc g L m p = false ↔ tgt g m p < m ∧ g 0 (tgt g m p) = nar g L p := by
  have : (decide (g 5 p = 7) || decide (g 5 p = 8)) = true := by
    rcases h with h | h <;> rw [decide_eq_true h] <;> simp
  unfold badc
  rw [this]
  by_cases h1 : tgt g m p < m <;> by_cases h2 : g 0 (tgt g m p) = nar g L p <;> simp [h1, h2]
theorem stA_le {g : Nat → Nat → Nat} {L : Nat → List Nat} {m a p : Nat} (h : a ≤ 1501) (h8 : badc g L m p = true → g 8 p ≤ 1500) : stA g L m a p ≤ 1501 := by
  unfold stA; split
  · next c => have := h8 c; split <;> omega
  · exact h
theorem stA_0 {g : Nat → Nat → Nat} {L : Nat → List Nat} {m a p : Nat} (h : stA g L m a p = 0) : a = 0 ∧ badc g L m p = false := by
  unfold stA at h
  by_cases c : badc g L m p = true
  · rw [if_pos c] at h
    split at h
    · omega
    · next c2 => exact absurd (Or.inl h) c2
  · rw [if_neg c] at h; exact ⟨h, by simpa using c⟩
theorem aP_0 {g : Nat → Nat → Nat} {L : Nat → List Nat} {m k a : Nat} : ∀ {j : Nat}, aP g L m k a j = 0 → a = 0 ∧ ∀ q, q < j → badc g L m (60 * k + q) = false
  | 0, h => ⟨h, fun q hq => absurd hq (Nat.not_lt_zero _)⟩
  | j + 1, h => by
    obtain ⟨h1, h2⟩ := stA_0 h
    obtain ⟨h3, h4⟩ := aP_0 h1
    refine ⟨h3, fun q hq => ?_⟩
    rcases (show q < j ∨ q = j by omega) with hq | rfl
    · exact h4 q hq
    · exact h2
theorem aD_0 {g : Nat → Nat → Nat} {L : Nat → List Nat} {m : Nat} : ∀ {k : Nat}, aD g L m k = 0 → ∀ p, dm g k p → badc g L m p = false
  | 0, _, p, hp => absurd hp.1 (Nat.not_lt_zero _)
  | k + 1, h, p, hp => by
    obtain ⟨h1, h2⟩ := aP_0 h
    by_cases hk : p / 60 = k
    · have := h2 (p % 60) (by have := hp.2; rw [hk] at this; exact this)
      rw [show 60 * k + p % 60 = p by omega] at this; exact this
    · exact aD_0 h1 p ⟨by have := hp.1; omega, hp.2⟩
/-- the class, binding -/
def KC (n : Nat) (u0 : St) (g : Nat → Nat → Nat) (L : Nat → List Nat) (m bd a : Nat) (u : St) : Prop :=
  FC u0 u ∧ (gI u 12 = nI m ∧ gI u 8 = nI n ∧ gI u 6 = rA a ∧ a ≤ 1501) ∧ (∀ k, k < m → gA u 15 k = nI (g 0 k) ∧ gA u 16 k = nI (g 1 k) ∧ gB u 9 k = lN (g 3 k) ∧ gA u 17 k = nI (g 2 k)) ∧
  ∀ p, dm g m p → gA u 18 p = nI (g 5 p) ∧ (g 5 p ≠ 7 → g 5 p ≠ 8 → gA u 19 p = nI (g 6 p)) ∧ (p < bd → badc g L m p = false → (g 5 p = 7 ∨ g 5 p = 8) → gA u 19 p = nI (tgt g m p)) ∧ gA u 20 p = nI (L p).length ∧ (∀ j, j < (L p).length → j < 6 → gA u 21 (p * 6 + j) = nI ((L p).getD j 0)) ∧ (g 7 p ≠ 0 → gB u 11 p = lN (g 7 p) ∧ gA u 12 p = nI (g 8 p))
theorem BtC_KC {t : Nat → Nat} {n : Nat} {u0 u : St} {g : Nat → Nat → Nat} {L : Nat → List Nat} {m i : Nat} (h : BtC t n u0 g L m i u) : KC n u0 g L m 0 0 u := by
  obtain ⟨hT, hK, hF, hC, ⟨h12, h6, h5⟩, hR⟩ := h
  refine ⟨hF, ⟨h12, hT.2.1, h6, by omega⟩, fun k hk => ?_, fun p hp => ?_⟩
  · obtain ⟨a, b, c⟩ := hC.1 k hk; exact ⟨a, b, c, hR k hk⟩
  · obtain ⟨a, b, c, d, e⟩ := hC.2 p hp
    exact ⟨a, fun _ _ => b, fun h => absurd h (Nat.not_lt_zero _), c, d, e⟩
theorem KC_mono {n : Nat} {u0 u : St} {g : Nat → Nat → Nat} {L : Nat → List Nat} {m bd bd' a : Nat} (h : KC n u0 g L m bd a u) (hb : ∀ p, dm g m p → (g 5 p = 7 ∨ g 5 p = 8) → p < bd' → p < bd) : KC n u0 g L m bd' a u := by
  obtain ⟨h1, h2, h3, h4⟩ := h
  refine ⟨h1, h2, h3, fun p hp => ?_⟩
  obtain ⟨a, b, c, d⟩ := h4 p hp
  exact ⟨a, b, fun hlt hbd hc => c (hb p hp hc hlt) hbd hc, d⟩
theorem c_bind1 {n : Nat} {u0 u : St} {g : Nat → Nat → Nat} {L : Nat → List Nat} {m a i p : Nat} (hD : DIv n g L m i) (h : KC n u0 g L m p a u) (hp : dm g m p) (hc : g 5 p = 7 ∨ g 5 p = 8) {P : St → Prop} (k : ∀ U, KC n u0 g L m (p + 1) (stA g L m a p) U → P U) : wp_X3_bindCall u (nI p) P := by
  have hm := hD.1
  have hp7 := dm_lt hp (by omega)
  have hlen := kids_60 hD.2.2.2.1 hp
  have hin : vp_in (nI p) 720 := inN hp7 (by decide)
  have hh := h
  obtain ⟨hF, ⟨h12, h8, h6, ha⟩, hk, hpt⟩ := h
  obtain ⟨q1, q2, q3, q4, q5, q6⟩ := hpt p hp
  have h7 : g 7 p ≠ 0 := by
    have := hD.2.2.2.2.1 p hp
    unfold Cp at this
    rcases hc with hc | hc <;> rw [hc] at this <;> simp at this <;> omega
  obtain ⟨q7, q8⟩ := q6 h7
  obtain ⟨n1, n2⟩ := (hD.2.2.2.1.1 p hp).2.2.1 h7
  obtain ⟨f1, f2, f3, f4⟩ := fnd_le (g 3) (g 7 p) m 0
  -- a call that is refused
  have f72 : badc g L m p = true → wp_X3_bindCall_72 u (nI p) P := fun hbad => by
    have fin : ∀ x, x = rA (stA g L m a p) → P (sI u 6 x) := fun x hx => by
      refine k _ ⟨hF, ⟨h12, h8, hx, stA_le ha (fun _ => n2)⟩, hk, fun r hr => ?_⟩
      obtain ⟨r1, r2, r3, r4⟩ := hpt r hr
      refine ⟨r1, r2, fun hlt hb2 hc2 => ?_, r4⟩
      rcases (show r < p ∨ r = p by omega) with h | rfl
      · exact r3 h hb2 hc2
      · rw [hbad] at hb2; cases hb2
    have hst : a = 0 ∨ g 8 p + 1 < a → wp_X3_bindCall_93 u (nI p) P := fun c => by
      refine ⟨hin, nm_i ?_⟩
      rw [ixN (by omega), q8]
      refine fin _ ?_
      unfold stA; rw [if_pos hbad, if_pos c]; unfold rA; rw [if_neg (by omega)]; rfl
    by_cases ha0 : a = 0
    · refine br_p ?_ (hst (Or.inl ha0))
      rw [h6]; unfold rA; rw [if_pos ha0]
    · have e6 : gI u 6 = nI (a - 1) := by rw [h6]; unfold rA; rw [if_neg ha0]
      refine br_n (by rw [e6]; exact nI_m1 (by omega)) ⟨hin, ?_⟩
      rw [ixN (by omega), q8, e6]
      refine br_b (fun c => ?_) (fun c => ?_)
      · simp (disch := omega) only [nI_leI, nI_ltI, nI_eq] at c
        have hs : stA g L m a p = a := by unfold stA; rw [if_pos hbad, if_neg (by omega)]
        have := fin (gI u 6) (by rw [hs]; exact h6)
        rw [sI_same rfl] at this; exact this
      · simp (disch := omega) only [nI_leI, nI_ltI, nI_eq] at c
        exact hst (Or.inr (by omega))
  have f28 : ∀ y0 y1 : Int32, y1 + y0 = nI (nar g L p) → wp_X3_bindCall_28 u (nI p) y0 y1 P := fun y0 y1 hy => by
    refine nm_i ⟨hin, ?_⟩
    rw [hy, ixN (by omega), q7]
    refine c_defNamed (g := g) (d := m) hm h12 (fun k hk2 => (hk k hk2).2.2.1) (fun k hk2 => (hD.2.2.1 k hk2).2.2.1) n1 rfl ?_
    unfold rF
    by_cases hfm : fnd (g 3) (g 7 p) m 0 = m
    · rw [if_pos hfm]
      refine br_p rfl (f72 ?_)
      cases hb : badc g L m p with
      | true => rfl
      | false => have := ((badc_cl hc).mp hb).1; unfold tgt at this; omega
    · rw [if_neg hfm]
      have hlt : fnd (g 3) (g 7 p) m 0 < m := by omega
      refine br_n (nI_m1 (by omega)) ⟨inN (by omega) (by decide), ?_⟩
      rw [ixN (by omega), (hk _ hlt).1]
      have h0 := (hD.2.2.1 _ hlt).1
      have hnar : nar g L p ≤ 10001 := by unfold nar; split <;> omega
      refine br_b (fun c => ⟨hin, nm_i ?_⟩) (fun c => f72 ?_)
      · simp (disch := omega) only [nI_leI, nI_ltI, nI_eq] at c
        have hb : badc g L m p = false := (badc_cl hc).mpr ⟨hlt, c⟩
        refine k _ ⟨⟨hF.1, hF.2.1, hF.2.2.1, fun j hj => ?_⟩, ⟨h12, h8, ?_, ?_⟩, hk, fun r hr => ?_⟩
        · rw [← hF.2.2.2 j hj, gA_sA, if_neg (show j ≠ 19 by omega)]
        · show gI u 6 = _; rw [h6]; unfold stA; rw [hb]; rfl
        · unfold stA; rw [hb]; exact ha
        · obtain ⟨r1, r2, r3, r4⟩ := hpt r hr
          refine ⟨r1, fun g7 g8 => ?_, fun hlt2 hb2 hc2 => ?_, r4⟩
          · show upd (gA u 19) p _ r = _
            rw [updE, if_neg (fun e => by rw [e] at g7 g8; omega)]; exact r2 g7 g8
          · show upd (gA u 19) p _ r = _
            rw [updE]
            by_cases hrp : r = p
            · rw [if_pos hrp, hrp]; rfl
            · rw [if_neg hrp]; exact r3 (by omega) hb2 hc2
      · simp (disch := omega) only [nI_leI, nI_ltI, nI_eq] at c
        cases hb : badc g L m p with
        | true => rfl
        | false => exact absurd ((badc_cl hc).mp hb).2 c
  refine ⟨hin, hin, ?_⟩
  rw [ixN (by omega), q1, q4]
  rcases hc with hc | hc
  · rw [hc]; exact br_n (by decide) (f28 0 _ (by unfold nar; rw [hc, if_neg (by decide)]; show nI _ + nI 0 = _; rw [nI_add]; rfl))
  · rw [hc]; exact br_p rfl (f28 1 _ (by unfold nar; rw [if_pos hc, nI_1]))
theorem c_bindCalls {n : Nat} {u0 u : St} {g : Nat → Nat → Nat} {L : Nat → List Nat} {m i : Nat} (hD : DIv n g L m i) (h : KC n u0 g L m 0 0 u) {P : St → Prop} (k : ∀ U, KC n u0 g L m (60 * m) (aD g L m m) U → P U) : wp_X3_bindCalls u P := by
  have hm := hD.1
  have key : ∀ f q u, q + f = m → KC n u0 g L m (60 * q) (aD g L m q) u → wp_X3_bindCalls_2 P (f + 1) u (nI q) := by
    intro f
    induction f with
    | zero =>
      intro q u hq hu
      have hqm : q = m := by omega
      subst hqm
      exact br_p (by rw [hu.2.1.1]; simp (disch := omega) only [nI_leI, nI_ltI, nI_eq]; omega) (k u hu)
    | succ f ih =>
      intro q u hq hu
      have hq1 := (hD.2.2.1 q (by omega)).2.1
      refine br_n (by rw [hu.2.1.1]; simp (disch := omega) only [nI_leI, nI_ltI, nI_eq]; omega) (nm_i ?_)
      have e60 : nI q * 60 = nI (60 * q) := by show nI q * nI 60 = _; rw [pk_mul, Nat.mul_comm]
      rw [e60]
      have inner : ∀ w j u, j + w = g 1 q → KC n u0 g L m (60 * q + j) (aP g L m q (aD g L m q) j) u → wp_X3_bindCalls_20 (wp_X3_bindCalls_2 P (f + 1)) P (w + 1) u (nI q) (nI (60 * q)) (nI (60 * q + j)) := by
        intro w
        induction w with
        | zero =>
          intro j u hj hu
          have hjm : j = g 1 q := by omega
          refine ⟨inN (by omega) (by decide), ?_⟩
          rw [ixN (by omega), (hu.2.2.1 q (by omega)).2.1, nI_add]
          refine br_p (by simp (disch := omega) only [nI_leI, nI_ltI, nI_eq]; omega) (nm_i ?_)
          rw [nI_1]
          refine ih (q + 1) u (by omega) (KC_mono (by rw [hjm] at hu; exact hu) (fun p hp _ hlt => ?_))
          have h2 := hp.2
          by_cases hpq : p / 60 = q
          · rw [hpq] at h2; omega
          · omega
        | succ w ihw =>
          intro j u hj hu
          have hp : dm g m (60 * q + j) := by
            unfold dm
            rw [show (60 * q + j) / 60 = q by omega, show (60 * q + j) % 60 = j by omega]; omega
          have hin : vp_in (nI (60 * q + j)) 720 := inN (by omega) (by decide)
          obtain ⟨r1, _⟩ := hu.2.2.2 _ hp
          have next : ∀ U, KC n u0 g L m (60 * q + j + 1) (stA g L m (aP g L m q (aD g L m q) j) (60 * q + j)) U → wp_X3_bindCalls_68 (wp_X3_bindCalls_2 P (f + 1)) (wp_X3_bindCalls_20 (wp_X3_bindCalls_2 P (f + 1)) P (w + 1)) U (nI q) (nI (60 * q)) (nI (60 * q + j)) P := fun U hU => nm_i (by
            rw [nI_1]; exact ihw (j + 1) U (by omega) hU)
          refine ⟨inN (by omega) (by decide), ?_⟩
          rw [ixN (by omega), (hu.2.2.1 q (by omega)).2.1, nI_add]
          refine br_n (by simp (disch := omega) only [nI_leI, nI_ltI, nI_eq]; omega) ⟨hin, ?_⟩
          rw [ixN (by omega), r1]
          by_cases h7 : g 5 (60 * q + j) = 7
          · rw [h7]
            exact br_p rfl (c_bind1 hD hu hp (Or.inl h7) next)
          · by_cases h8 : g 5 (60 * q + j) = 8
            · rw [h8]
              exact br_n (by decide) ⟨hin, br_p rfl (c_bind1 hD hu hp (Or.inr h8) next)⟩
            · have hkd : g 5 (60 * q + j) < 1000 := by
                have := hD.2.2.2.2.1 _ hp
                unfold Cp at this
                rcases this with h | h | h | h | h | h | h | h | h | h
                all_goals first | omega | (have := h.1; simp at this; omega)
              refine br_n (by simp (disch := omega) only [ln_0, ln_1, ln_2, ln_3, ln_4, ln_5, ln_6, ln_7, ln_8, ln_9, ln_10, ln_11, ln_12, ln_13, ln_14, ln_15, ln_16, ln_17, ln_18, ln_19, ln_20, ln_21, ln_22, ln_23, ln_24, ln_25, ln_26, ln_27, ln_28, ln_29, ln_30, ln_31, ln_32, ln_33, ln_34, ln_35, ln_36, ln_37, ln_38, ln_39, ln_40, ln_41, ln_42, ln_43, ln_44, ln_45, ln_46, ln_47, ln_48, ln_49, ln_50, ln_51, ln_52, ln_53, ln_54, ln_55, ln_56, ln_57, ln_58, ln_59, ln_60, ln_61, ln_62, ln_91, ln_93, ln_97, ln_122, ln_120, ln_123, ln_124, ln_255, ln_256, ln_300, ln_720, ln_1500, ln_12000, ln_18000, nI_leI, nI_ltI, nI_eq]; exact h7) ⟨hin, br_n (by simp (disch := omega) only [ln_0, ln_1, ln_2, ln_3, ln_4, ln_5, ln_6, ln_7, ln_8, ln_9, ln_10, ln_11, ln_12, ln_13, ln_14, ln_15, ln_16, ln_17, ln_18, ln_19, ln_20, ln_21, ln_22, ln_23, ln_24, ln_25, ln_26, ln_27, ln_28, ln_29, ln_30, ln_31, ln_32, ln_33, ln_34, ln_35, ln_36, ln_37, ln_38, ln_39, ln_40, ln_41, ln_42, ln_43, ln_44, ln_45, ln_46, ln_47, ln_48, ln_49, ln_50, ln_51, ln_52, ln_53, ln_54, ln_55, ln_56, ln_57, ln_58, ln_59, ln_60, ln_61, ln_62, ln_91, ln_93, ln_97, ln_122, ln_120, ln_123, ln_124, ln_255, ln_256, ln_300, ln_720, ln_1500, ln_12000, ln_18000, nI_leI, nI_ltI, nI_eq]; exact h8) (next u ?_)⟩
              have hb : stA g L m (aP g L m q (aD g L m q) j) (60 * q + j) = aP g L m q (aD g L m q) j := by unfold stA; rw [badc_no ⟨h7, h8⟩]; rfl
              rw [hb]
              exact KC_mono hu (fun p hp hc hlt => by
                rcases (show p < 60 * q + j ∨ p = 60 * q + j by omega) with h | rfl
                · exact h
                · omega)
      exact ⟨_, inner (g 1 q) 0 u (by omega) hu⟩
  exact ⟨m + 1, key m 0 u (by omega) h⟩
/-- the reference, linking -/
def MTr (b : Nat) (g : Nat → Nat → Nat) (L : Nat → List Nat) (m : Nat) (v : St) (p : Nat) : Prop := MTp b g L m (sA v 14 (720 * b + p) (-1)) p
theorem MTp_r {b : Nat} {g : Nat → Nat → Nat} {L : Nat → List Nat} {m : Nat} {v : St} {p : Nat} (h : MTp b g L m v p) : MTr b g L m v p := by
  obtain ⟨r1, r3, r4, r5, r6, r7, r8, r9, r10, r11⟩ := h
  refine ⟨r1, r3, r4, r5, r6, r7, r8, r9, ?_, r11⟩
  show upd (gA v 14) (720 * b + p) (-1) (720 * b + p) = -1
  rw [updE, if_pos rfl]
theorem MTr_14 {b : Nat} {g : Nat → Nat → Nat} {L : Nat → List Nat} {m : Nat} {v : St} {p j : Nat} {x : Int32} (h : MTr b g L m v p) : MTr b g L m (sA v 14 j x) p := by
  obtain ⟨r1, r3, r4, r5, r6, r7, r8, r9, r10, r11⟩ := h
  refine ⟨r1, r3, r4, r5, r6, r7, r8, r9, ?_, r11⟩
  show upd (upd (gA v 14) j x) (720 * b + p) (-1) (720 * b + p) = -1
  rw [updE, if_pos rfl]
def KM (n : Nat) (v0 : St) (b : Nat) (g : Nat → Nat → Nat) (L : Nat → List Nat) (m bd : Nat) (v : St) : Prop :=
  FM b v0 v ∧ (gI v 2 = nI b ∧ gI v 10 = nI m ∧ gI v 13 = 1) ∧ (∀ k, k < m → gA v 2 (12 * b + k) = nI (g 0 k) ∧ gB v 15 (12 * b + k) = lN (mN (g 3 k)) ∧ gA v 3 (12 * b + k) = nI (g 1 k) ∧ gA v 4 (12 * b + k) = nI (720 * b + g 2 k)) ∧
  ∀ p, dm g m p → MTr b g L m v p ∧ (p < bd → badc g L m p = false → (g 5 p = 7 ∨ g 5 p = 8) → gA v 14 (720 * b + p) = nI (tgt g m p)) ∧ (bd ≤ p → gA v 14 (720 * b + p) = -1)
theorem BtM_KM {t : Nat → Nat} {n : Nat} {v0 v : St} {b : Nat} {g : Nat → Nat → Nat} {L : Nat → List Nat} {m i : Nat} (h : BtM t n v0 b g L m i v) : KM n v0 b g L m 0 v := by
  obtain ⟨hT, hK, hF, hM, hN, hR⟩ := h
  refine ⟨hF, hN, fun k hk => ?_, fun p hp => ?_⟩
  · obtain ⟨a, c⟩ := hM.1 k hk; exact ⟨a, c, hR k hk⟩
  · have r := hM.2 p hp
    exact ⟨MTp_r r, fun h => absurd h (Nat.not_lt_zero _), fun _ => r.2.2.2.2.2.2.2.2.1⟩
theorem KM_mono {n : Nat} {v0 v : St} {b : Nat} {g : Nat → Nat → Nat} {L : Nat → List Nat} {m bd bd' : Nat} (h : KM n v0 b g L m bd v) (hle : bd ≤ bd') (hb : ∀ p, dm g m p → (g 5 p = 7 ∨ g 5 p = 8) → p < bd' → p < bd) : KM n v0 b g L m bd' v := by
  obtain ⟨h1, h2, h3, h4⟩ := h
  refine ⟨h1, h2, h3, fun p hp => ?_⟩
  obtain ⟨a, c, d⟩ := h4 p hp
  exact ⟨a, fun hlt hbd hc => c (hb p hp hc hlt) hbd hc, fun hlt => d (by omega)⟩
/-- one call, linked -/
theorem m_link1 {n : Nat} {v0 v : St} {b : Nat} {g : Nat → Nat → Nat} {L : Nat → List Nat} {m i a p : Nat} (hb : b ≤ 1) (hD : DIv n g L m i) (h : KM n v0 b g L m p v) (ha : a ≤ 1501) (hp : dm g m p) (hc : g 5 p = 7 ∨ g 5 p = 8) {K4 : St → Int32 → Int32 → Int32 → Prop} {K12 : St → Int32 → Int32 → Int32 → Int32 → Prop} {P : Int32 → St → Prop} {x3 x4 : Int32} (k : ∀ U, KM n v0 b g L m (p + 1) U → wp_X7_link_211 K4 K12 U (nI m) (rA (stA g L m a p)) x3 x4 P) : wp_X7_link_75 K4 K12 v (nI m) (rA a) x3 x4 (nI (720 * b + p)) P := by
  have hm := hD.1
  have hp7 := dm_lt hp (by omega)
  have hin : vp_in (nI (720 * b + p)) 1440 := inN (by omega) (by decide)
  have hlen := kids_60 hD.2.2.2.1 hp
  have h7 : g 7 p ≠ 0 := by
    have := hD.2.2.2.2.1 p hp
    unfold Cp at this
    rcases hc with hc | hc <;> rw [hc] at this <;> simp at this <;> omega
  obtain ⟨n1, n2⟩ := (hD.2.2.2.1.1 p hp).2.2.1 h7
  obtain ⟨f1, f2, f3, f4⟩ := fnd_le (g 3) (g 7 p) m 0
  have hnar : nar g L p ≤ 61 := by unfold nar; split <;> omega
  have hdist : ∀ q, q < m → g 3 q = g 7 p → q = tgt g m p := fun q hq he => by
    have hlt : tgt g m p < m := fnd_ex.mpr ⟨q, hq, he⟩
    have hge : tgt g m p ≤ q := by
      by_cases c : tgt g m p ≤ q
      · exact c
      · exact absurd he (f4 q (Nat.zero_le _) (by unfold tgt at c; omega))
    rcases (show tgt g m p = q ∨ tgt g m p < q by omega) with h | h
    · exact h.symm
    · have e2 : g 3 (tgt g m p) = g 7 p := f3 (by unfold tgt at hlt; omega)
      exact absurd (e2.trans he.symm) ((hD.2.2.1 q hq).2.2.2.2 _ h)
  have KQi : ∀ (v : St), KM n v0 b g L m p v → FM b v0 v ∧ (gI v 2 = nI b ∧ gI v 10 = nI m ∧ gI v 13 = 1) ∧ (∀ k, k < m → gA v 2 (12 * b + k) = nI (g 0 k) ∧ gB v 15 (12 * b + k) = lN (mN (g 3 k)) ∧ gA v 3 (12 * b + k) = nI (g 1 k) ∧ gA v 4 (12 * b + k) = nI (720 * b + g 2 k)) ∧ ∀ r, dm g m r → MTr b g L m v r ∧ (r < p → badc g L m r = false → (g 5 r = 7 ∨ g 5 r = 8) → gA v 14 (720 * b + r) = nI (tgt g m r)) ∧ (p < r → gA v 14 (720 * b + r) = -1) := fun v h => ⟨h.1, h.2.1, h.2.2.1, fun r hr => ⟨(h.2.2.2 r hr).1, (h.2.2.2 r hr).2.1, fun hl => (h.2.2.2 r hr).2.2 (by omega)⟩⟩
  have key : ∀ f q v, q + f = m → (FM b v0 v ∧ (gI v 2 = nI b ∧ gI v 10 = nI m ∧ gI v 13 = 1) ∧ (∀ k, k < m → gA v 2 (12 * b + k) = nI (g 0 k) ∧ gB v 15 (12 * b + k) = lN (mN (g 3 k)) ∧ gA v 3 (12 * b + k) = nI (g 1 k) ∧ gA v 4 (12 * b + k) = nI (720 * b + g 2 k)) ∧ ∀ r, dm g m r → MTr b g L m v r ∧ (r < p → badc g L m r = false → (g 5 r = 7 ∨ g 5 r = 8) → gA v 14 (720 * b + r) = nI (tgt g m r)) ∧ (p < r → gA v 14 (720 * b + r) = -1)) → gA v 14 (720 * b + p) = (if badc g L m p = false ∧ tgt g m p < q then nI (tgt g m p) else -1) → wp_X7_link_78 K4 K12 P (f + 1) v (nI m) (rA a) x3 x4 (nI (720 * b + p)) (nI q) := by
    intro f
    induction f with
    | zero =>
      intro q v hq hv h14
      have hqm : q = m := by omega
      obtain ⟨s1, s2, s3, s4⟩ := hv
      have e12 : gA v 12 (720 * b + p) = nI (g 8 p) := ((s4 p hp).1.2.2.2.2.2.2.2.2.2 h7).2 (by omega)
      have hKM : KM n v0 b g L m (p + 1) v := by
        refine ⟨s1, s2, s3, fun r hr => ⟨(s4 r hr).1, fun hlt hbd hcl => ?_, fun hle => (s4 r hr).2.2 (by omega)⟩⟩
        rcases (show r < p ∨ r = p by omega) with hr2 | rfl
        · exact (s4 r hr).2.1 hr2 hbd hcl
        · rw [h14, if_pos ⟨hbd, by have := ((badc_cl hcl).mp hbd).1; omega⟩]
      refine br_p (by simp (disch := omega) only [nI_leI, nI_ltI, nI_eq]; omega) ⟨hin, ?_⟩
      rw [ixN (by omega), h14]
      cases hbd : badc g L m p with
      | false =>
        have hlt := ((badc_cl hc).mp hbd).1
        rw [if_pos ⟨rfl, by omega⟩]
        have hs : stA g L m a p = a := by unfold stA; rw [hbd]; rfl
        rw [hs] at k
        exact br_n (nI_m1 (by omega)) (k v hKM)
      | true =>
        rw [if_neg (fun h => by cases h.1)]
        have hst : a = 0 ∨ g 8 p + 1 < a → wp_X7_link_199 K4 K12 v (nI m) x3 x4 (nI (720 * b + p)) P := fun c => by
          refine ⟨hin, ?_⟩
          rw [ixN (by omega), e12]
          have hs : rA (stA g L m a p) = nI (g 8 p) := by unfold stA; rw [if_pos hbd, if_pos c]; unfold rA; rw [if_neg (by omega)]; rfl
          rw [hs] at k
          exact k v hKM
        refine br_p rfl ?_
        by_cases ha0 : a = 0
        · exact br_p (by unfold rA; rw [if_pos ha0]) (hst (Or.inl ha0))
        · have e6 : rA a = nI (a - 1) := by unfold rA; rw [if_neg ha0]
          rw [e6]
          refine br_n (nI_m1 (by omega)) ⟨hin, ?_⟩
          rw [e12]
          refine br_b (fun c => ?_) (fun c => ?_)
          · simp (disch := omega) only [nI_leI, nI_ltI, nI_eq] at c
            have hs : stA g L m a p = a := by unfold stA; rw [if_pos hbd, if_neg (by omega)]
            rw [hs, e6] at k
            exact k v hKM
          · simp (disch := omega) only [nI_leI, nI_ltI, nI_eq] at c
            exact hst (Or.inr (by omega))
    | succ f ih =>
      intro q v hq hv h14
      have hv' := hv
      obtain ⟨s1, s2, s3, s4⟩ := hv
      have e19 : gB v 19 (720 * b + p) = lN (mN (g 7 p)) := ((s4 p hp).1.2.2.2.2.2.2.2.2.2 h7).1
      have e13 : gA v 13 (720 * b + p) = nI (nar g L p) := by
        have r9 := (s4 p hp).1.2.2.2.2.2.2.2.1
        rcases hc with hc | hc
        · have := r9.1 hc
          unfold nar; rw [hc, if_neg (by decide)]; exact this
        · have := r9.2 hc h7
          unfold nar; rw [if_pos hc]; exact this
      have e12 : 12 * gI v 2 + nI q = nI (12 * b + q) := by rw [s2.1]; show nI 12 * nI b + nI q = _; rw [pk_mul, nI_add]
      have hi24 : vp_in (nI (12 * b + q)) 24 := inN (by omega) (by decide)
      have hset : ∀ x, (x = if badc g L m p = false ∧ tgt g m p < q + 1 then nI (tgt g m p) else -1) → wp_X7_link_165 K4 K12 (wp_X7_link_78 K4 K12 P (f + 1)) v (nI m) (rA a) x3 x4 (nI (720 * b + p)) (nI q) x (nI (720 * b + p)) P := fun x hx => by
        refine ⟨hin, nm_i (nm_i ?_)⟩
        rw [ixN (by omega), nI_1]
        refine ih (q + 1) _ (by omega) ⟨s1.a (by omega), s2, s3, fun r hr => ?_⟩ ?_
        · obtain ⟨w1, w2, w3⟩ := s4 r hr
          refine ⟨MTr_14 w1, fun hl hb2 hc2 => ?_, fun hl => ?_⟩
          · show upd (gA v 14) (720 * b + p) x (720 * b + r) = _
            rw [updE, if_neg (by omega)]; exact w2 hl hb2 hc2
          · show upd (gA v 14) (720 * b + p) x (720 * b + r) = _
            rw [updE, if_neg (by omega)]; exact w3 hl
        · show upd (gA v 14) (720 * b + p) x (720 * b + p) = _
          rw [updE, if_pos rfl]; exact hx
      have f139 : ¬ (badc g L m p = false ∧ tgt g m p = q) → wp_X7_link_139 K4 K12 (wp_X7_link_78 K4 K12 P (f + 1)) v (nI m) (rA a) x3 x4 (nI (720 * b + p)) (nI q) P := fun hno => by
        refine br_p rfl ⟨hin, ?_⟩
        rw [ixN (by omega)]
        refine hset _ ?_
        rw [h14]
        by_cases c : badc g L m p = false ∧ tgt g m p < q
        · rw [if_pos c, if_pos ⟨c.1, by omega⟩]
        · rw [if_neg c, if_neg (fun h => by
            rcases (show tgt g m p < q ∨ tgt g m p = q by omega) with h2 | h2
            · exact c ⟨h.1, h2⟩
            · exact hno ⟨h.1, h2⟩)]
      refine br_n (by simp (disch := omega) only [nI_leI, nI_ltI, nI_eq]; omega) ?_
      rw [e12]
      refine ⟨hi24, hin, ?_⟩
      rw [ixN (by omega), ixN (by omega), (s3 q (by omega)).2.1, e19]
      refine br_b (fun c => ⟨hi24, hin, ?_⟩) (fun c => f139 (fun h => ?_))
      · have c := (nM_eq (hD.2.2.1 q (by omega)).2.2.1 n1).mp c
        have hqt := hdist q (by omega) c
        have h0 := (hD.2.2.1 q (by omega)).1
        rw [(s3 q (by omega)).1, e13]
        refine br_b (fun c2 => ?_) (fun c2 => f139 (fun h => ?_))
        · simp (disch := omega) only [nI_leI, nI_ltI, nI_eq] at c2
          refine br_n (by decide) (hset _ ?_)
          rw [if_pos ⟨(badc_cl hc).mpr ⟨by omega, by rw [← hqt]; exact c2⟩, by omega⟩, ← hqt]
        · simp (disch := omega) only [nI_leI, nI_ltI, nI_eq] at c2
          exact c2 (by have := ((badc_cl hc).mp h.1).2; rw [h.2] at this; exact this)
      · have hlt := ((badc_cl hc).mp h.1).1
        have e2 : g 3 (tgt g m p) = g 7 p := f3 (by unfold tgt at hlt; omega)
        rw [h.2] at e2
        exact c ((nM_eq (hD.2.2.1 q (by omega)).2.2.1 n1).mpr e2)
  refine ⟨m + 1, key m 0 v (by omega) (KQi v h) ?_⟩
  rw [if_neg (fun h => absurd h.2 (Nat.not_lt_zero _))]
  exact (h.2.2.2 p hp).2.2 (Nat.le_refl _)
theorem aP_le {n : Nat} {g : Nat → Nat → Nat} {L : Nat → List Nat} {m i k a : Nat} (hD : DIv n g L m i) (hk : k < m) (ha : a ≤ 1501) : ∀ j, j ≤ g 1 k → aP g L m k a j ≤ 1501
  | 0, _ => ha
  | j + 1, hj => by
    have h1 := (hD.2.2.1 k hk).2.1
    refine stA_le (aP_le hD hk ha j (by omega)) (fun hb => ?_)
    have hp : dm g m (60 * k + j) := by
      unfold dm
      rw [show (60 * k + j) / 60 = k by omega, show (60 * k + j) % 60 = j by omega]; omega
    by_cases hc : g 5 (60 * k + j) = 7 ∨ g 5 (60 * k + j) = 8
    · have h7 : g 7 (60 * k + j) ≠ 0 := by
        have := hD.2.2.2.2.1 _ hp
        unfold Cp at this
        rcases hc with hc | hc <;> rw [hc] at this <;> simp at this <;> omega
      exact ((hD.2.2.2.1.1 _ hp).2.2.1 h7).2
    · rw [badc_no (by omega)] at hb; cases hb
theorem m_link {n : Nat} {v0 v : St} {b : Nat} {g : Nat → Nat → Nat} {L : Nat → List Nat} {m i : Nat} (hb : b ≤ 1) (hD : DIv n g L m i) (h : KM n v0 b g L m 0 v) {P : Int32 → St → Prop} (k : ∀ U, KM n v0 b g L m (60 * m) U → P (rA (aD g L m m)) U) : wp_X7_link v (nI m) P := by
  have hm := hD.1
  have key : ∀ f q v, q + f = m → KM n v0 b g L m (60 * q) v → aD g L m q ≤ 1501 → wp_X7_link_4 P (f + 1) v (nI m) (rA (aD g L m q)) (nI q) := by
    intro f
    induction f with
    | zero =>
      intro q v hq hv _
      have hqm : q = m := by omega
      subst hqm
      exact br_p (by simp (disch := omega) only [nI_leI, nI_ltI, nI_eq]; omega) (k v hv)
    | succ f ih =>
      intro q v hq hv haq
      have hq1 := (hD.2.2.1 q (by omega)).2.1
      refine br_n (by simp (disch := omega) only [nI_leI, nI_ltI, nI_eq]; omega) ?_
      have inner : ∀ w j v, j + w = g 1 q → KM n v0 b g L m (60 * q + j) v → wp_X7_link_12 (wp_X7_link_4 P (f + 1)) P (w + 1) v (nI m) (rA (aP g L m q (aD g L m q) j)) (nI q) (nI j) := by
        intro w
        induction w with
        | zero =>
          intro j v hj hv
          have hjm : j = g 1 q := by omega
          have e12 : 12 * gI v 2 + nI q = nI (12 * b + q) := by rw [hv.2.1.1]; show nI 12 * nI b + nI q = _; rw [pk_mul, nI_add]
          unfold wp_X7_link_12 wp_X7_link_12s
          rw [e12]
          refine ⟨inN (by omega) (by decide), ?_⟩
          rw [ixN (by omega), (hv.2.2.1 q (by omega)).2.2.1]
          refine br_p (by simp (disch := omega) only [nI_leI, nI_ltI, nI_eq]; omega) (nm_i ?_)
          rw [nI_1, hjm]
          refine ih (q + 1) v (by omega) (KM_mono (by rw [hjm] at hv; exact hv) (by omega) (fun p hp _ hlt => ?_)) (aP_le hD (by omega) haq _ (Nat.le_refl _))
          have h2 := hp.2
          by_cases hpq : p / 60 = q
          · rw [hpq] at h2; omega
          · omega
        | succ w ihw =>
          intro j v hj hv
          have hp : dm g m (60 * q + j) := by
            unfold dm
            rw [show (60 * q + j) / 60 = q by omega, show (60 * q + j) % 60 = j by omega]; omega
          have e12 : 12 * gI v 2 + nI q = nI (12 * b + q) := by rw [hv.2.1.1]; show nI 12 * nI b + nI q = _; rw [pk_mul, nI_add]
          have hin : vp_in (nI (720 * b + (60 * q + j))) 1440 := inN (by omega) (by decide)
          have e60 : 60 * nI (12 * b + q) + nI j = nI (720 * b + (60 * q + j)) := by
            show nI 60 * nI (12 * b + q) + nI j = _
            rw [pk_mul, nI_add]; congr 1; omega
          have r1 := (hv.2.2.2 _ hp).1.1.1
          have r1 : gA v 5 (720 * b + (60 * q + j)) = nI (kM (g 5 (60 * q + j))) := r1
          have next : ∀ U, KM n v0 b g L m (60 * q + j + 1) U → wp_X7_link_211 (wp_X7_link_4 P (f + 1)) (wp_X7_link_12 (wp_X7_link_4 P (f + 1)) P (w + 1)) U (nI m) (rA (stA g L m (aP g L m q (aD g L m q) j) (60 * q + j))) (nI q) (nI j) P := fun U hU => nm_i (by
            rw [nI_1]; exact ihw (j + 1) U (by omega) hU)
          unfold wp_X7_link_12 wp_X7_link_12s
          rw [e12]
          refine ⟨inN (by omega) (by decide), ?_⟩
          rw [ixN (by omega), (hv.2.2.1 q (by omega)).2.2.1, e60]
          refine br_n (by simp (disch := omega) only [nI_leI, nI_ltI, nI_eq]; omega) (nm_i ⟨hin, ?_⟩)
          rw [ixN (by omega), r1]
          have ha := aP_le hD (show q < m by omega) haq j (by omega)
          by_cases h7 : g 5 (60 * q + j) = 7
          · rw [h7]
            exact br_p rfl (m_link1 hb hD hv ha hp (Or.inl h7) next)
          · by_cases h8 : g 5 (60 * q + j) = 8
            · rw [h8]
              exact br_n (by decide) ⟨hin, br_p rfl (m_link1 hb hD hv ha hp (Or.inr h8) next)⟩
            · have hkm : kM (g 5 (60 * q + j)) ≤ 10 ∧ kM (g 5 (60 * q + j)) ≠ 8 ∧ kM (g 5 (60 * q + j)) ≠ 9 := by
                unfold kM; repeat' split <;> try omega
              refine br_n (by simp (disch := omega) only [ln_0, ln_1, ln_2, ln_3, ln_4, ln_5, ln_6, ln_7, ln_8, ln_9, ln_10, ln_11, ln_12, ln_13, ln_14, ln_15, ln_16, ln_17, ln_18, ln_19, ln_20, ln_21, ln_22, ln_23, ln_24, ln_25, ln_26, ln_27, ln_28, ln_29, ln_30, ln_31, ln_32, ln_33, ln_34, ln_35, ln_36, ln_37, ln_38, ln_39, ln_40, ln_41, ln_42, ln_43, ln_44, ln_45, ln_46, ln_47, ln_48, ln_49, ln_50, ln_51, ln_52, ln_53, ln_54, ln_55, ln_56, ln_57, ln_58, ln_59, ln_60, ln_61, ln_62, ln_91, ln_93, ln_97, ln_122, ln_120, ln_123, ln_124, ln_255, ln_256, ln_300, ln_720, ln_1500, ln_12000, ln_18000, nI_leI, nI_ltI, nI_eq]; exact hkm.2.1) ⟨hin, br_n (by simp (disch := omega) only [ln_0, ln_1, ln_2, ln_3, ln_4, ln_5, ln_6, ln_7, ln_8, ln_9, ln_10, ln_11, ln_12, ln_13, ln_14, ln_15, ln_16, ln_17, ln_18, ln_19, ln_20, ln_21, ln_22, ln_23, ln_24, ln_25, ln_26, ln_27, ln_28, ln_29, ln_30, ln_31, ln_32, ln_33, ln_34, ln_35, ln_36, ln_37, ln_38, ln_39, ln_40, ln_41, ln_42, ln_43, ln_44, ln_45, ln_46, ln_47, ln_48, ln_49, ln_50, ln_51, ln_52, ln_53, ln_54, ln_55, ln_56, ln_57, ln_58, ln_59, ln_60, ln_61, ln_62, ln_91, ln_93, ln_97, ln_122, ln_120, ln_123, ln_124, ln_255, ln_256, ln_300, ln_720, ln_1500, ln_12000, ln_18000, nI_leI, nI_ltI, nI_eq]; exact hkm.2.2) ?_⟩
              have hbn : stA g L m (aP g L m q (aD g L m q) j) (60 * q + j) = aP g L m q (aD g L m q) j := by unfold stA; rw [badc_no ⟨h7, h8⟩]; rfl
              rw [hbn] at next
              exact next v (KM_mono hv (by omega) (fun p hp hc hlt => by
                rcases (show p < 60 * q + j ∨ p = 60 * q + j by omega) with h | rfl
                · exact h
                · omega))
      exact ⟨_, inner (g 1 q) 0 v (by omega) hv⟩
  exact ⟨m + 1, key m 0 v (by omega) h (Nat.zero_le _)⟩
