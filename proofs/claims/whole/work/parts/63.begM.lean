/-! 63.begM: the reference's tasks; the reference at a beginning -/
/-- the tasks under an expression, by what is open: 0 under E, 1 under S, 2 under T, 3 under F -/
def xE (e : Nat × Nat) (l0 l3 : List (Nat × Nat)) : List (Nat × Nat) := if e.1 = 0 then [] else if e.1 = 1 then (17, 0) :: l3 else if e.1 ≤ 6 then (e.1, e.2) :: l0 else if e.1 = 7 then (22, e.2) :: l3 else if e.1 = 8 then (20, e.2) :: l3 else if e.1 = 9 then (21, e.2) :: l3 else (19, e.2) :: l3
def xS (e : Nat × Nat) (l0 E : List (Nat × Nat)) : List (Nat × Nat) := if e.1 = 11 then (8, e.2) :: l0 else (7, 0) :: E
def xT (e : Nat × Nat) (l1 S : List (Nat × Nat)) : List (Nat × Nat) := if e.1 = 12 then (11, e.2) :: l1 else (10, 0) :: S
def xF (e : Nat × Nat) (l2 l3 T : List (Nat × Nat)) : List (Nat × Nat) := if e.1 = 13 then (14, e.2) :: l2 else if e.1 = 14 then (16, e.2) :: l3 else (13, 0) :: T
def bX : List (Nat × Nat) → Nat → List (Nat × Nat)
  | [], _ => []
  | e :: l, 0 => xE e (bX l 0) (bX l 3)
  | e :: l, 1 => xS e (bX l 0) (xE e (bX l 0) (bX l 3))
  | e :: l, 2 => xT e (bX l 1) (xS e (bX l 0) (xE e (bX l 0) (bX l 3)))
  | e :: l, _ + 3 => xF e (bX l 2) (bX l 3) (xT e (bX l 1) (xS e (bX l 0) (xE e (bX l 0) (bX l 3))))
def tB (l : List (Nat × Nat)) : List (Nat × Nat) := if lvT (hdT l) = 0 then (1, 0) :: bX l 0 else if lvT (hdT l) = 1 then (9, 0) :: bX l 1 else if lvT (hdT l) = 2 then (12, 0) :: bX l 2 else (15, 0) :: bX l 3
theorem bX_len : ∀ (l : List (Nat × Nat)) (m : Nat), (bX l m).length ≤ 4 * l.length
  | [], _ => Nat.zero_le _
  | e :: l, m => by
    have h0 := bX_len l 0
    have h1 := bX_len l 1
    have h2 := bX_len l 2
    have h3 := bX_len l 3
    have hE : (xE e (bX l 0) (bX l 3)).length ≤ 4 * l.length + 1 := by
      unfold xE; repeat' split
      all_goals first | exact Nat.zero_le _ | (rw [List.length_cons]; omega)
    have hS : (xS e (bX l 0) (xE e (bX l 0) (bX l 3))).length ≤ 4 * l.length + 2 := by
      unfold xS; split <;> (rw [List.length_cons]; omega)
    have hT : (xT e (bX l 1) (xS e (bX l 0) (xE e (bX l 0) (bX l 3)))).length ≤ 4 * l.length + 3 := by
      unfold xT; split <;> (rw [List.length_cons]; omega)
    have hF : (xF e (bX l 2) (bX l 3) (xT e (bX l 1) (xS e (bX l 0) (xE e (bX l 0) (bX l 3))))).length ≤ 4 * l.length + 4 := by
      unfold xF; repeat' split
      all_goals (rw [List.length_cons]; omega)
    rw [List.length_cons]
    match m with
    | 0 => show (xE e (bX l 0) (bX l 3)).length ≤ _; omega
    | 1 => show (xS e (bX l 0) (xE e (bX l 0) (bX l 3))).length ≤ _; omega
    | 2 => show (xT e (bX l 1) (xS e (bX l 0) (xE e (bX l 0) (bX l 3)))).length ≤ _; omega
    | m + 3 => show (xF e (bX l 2) (bX l 3) (xT e (bX l 1) (xS e (bX l 0) (xE e (bX l 0) (bX l 3))))).length ≤ _; omega
theorem bX_1 {l : List (Nat × Nat)} (hl : l ≠ []) (h : hdT l ≠ 11) : bX l 1 = (7, 0) :: bX l 0 := by
  cases l with
  | nil => exact absurd rfl hl
  | cons e l =>
    have h : e.1 ≠ 11 := h
    show xS e _ _ = _; unfold xS; rw [if_neg h]; rfl
theorem bX_2 {l : List (Nat × Nat)} (hl : l ≠ []) (h : hdT l ≠ 12) : bX l 2 = (10, 0) :: bX l 1 := by
  cases l with
  | nil => exact absurd rfl hl
  | cons e l =>
    have h : e.1 ≠ 12 := h
    show xT e _ _ = _; unfold xT; rw [if_neg h]; rfl
theorem bX_3 {l : List (Nat × Nat)} (hl : l ≠ []) (h : hdT l ≠ 13) (h4 : hdT l ≠ 14) : bX l 3 = (13, 0) :: bX l 2 := by
  cases l with
  | nil => exact absurd rfl hl
  | cons e l =>
    have h : e.1 ≠ 13 := h
    have h4 : e.1 ≠ 14 := h4
    show xF e _ _ _ = _; unfold xF; rw [if_neg h, if_neg h4]; rfl
theorem lvT_v (e : Nat) : (lvT e = 0 ↔ e ≠ 11 ∧ e ≠ 12 ∧ e ≠ 13 ∧ e ≠ 14) ∧ (lvT e = 1 ↔ e = 11) ∧ (lvT e = 2 ↔ e = 12) ∧ (lvT e = 3 ↔ e = 13) ∧ (lvT e = 4 ↔ e = 14) := by
  unfold lvT; split
  · omega
  · split
    · omega
    · split
      · omega
      · split <;> omega
theorem StO_ne {g : Nat → Nat → Nat} {L : Nat → List Nat} {d i : Nat} {l : List (Nat × Nat)} (h : StO g L d i l) : l ≠ [] := (StO_last h).2
theorem to_more {w : Nat} (h : 7 ≤ w) (hw : w < 100) {v : St} {x : Int32} {K : St → Prop} (k : wp_X7_more v (nI w) x K) : wp_X7_step v (nI w) x K := by
  have q : ∀ a : Nat, a < 7 → ¬ nI w = nI a := fun a ha e => by rw [nI_eq (by omega) (by omega)] at e; omega
  exact br_n (q 1 (by decide)) (br_n (q 2 (by decide)) (br_n (q 3 (by decide)) (br_n (q 4 (by decide)) (br_n (q 5 (by decide)) (br_n (q 6 (by decide)) k)))))
theorem to_rest {w : Nat} (h : 15 ≤ w) (hw : w < 100) {v : St} {x : Int32} {K : St → Prop} (k : wp_X7_rest v (nI w) x K) : wp_X7_step v (nI w) x K := by
  have q : ∀ a : Nat, a < 15 → ¬ nI w = nI a := fun a ha e => by rw [nI_eq (by omega) (by omega)] at e; omega
  exact to_more (by omega) hw (br_n (q 7 (by decide)) (br_n (q 8 (by decide)) (br_n (q 9 (by decide)) (br_n (q 12 (by decide)) (br_n (q 10 (by decide)) (br_n (q 13 (by decide)) (br_n (q 11 (by decide)) (br_n (q 14 (by decide)) k))))))))
/-- down to F -/
theorem m_down {t : Nat → Nat} {n : Nat} {v0 : St} {b : Nat} {g : Nat → Nat → Nat} {L : Nat → List Nat} {d : Nat} {l : List (Nat × Nat)} {vs : List Nat} {ls : List (Nat × Nat)} {bk i : Nat} {P : St → Prop} (hl : l ≠ []) (hl81 : l.length ≤ 81) (hk : lvT (hdT l) = 0 → tk t n i ≠ 4 ∧ tk t n i ≠ 7) (hr : RunM (RM t n v0 b g L d ((15, 0) :: bX l 3) vs ls bk i) P) : RunM (RM t n v0 b g L d (tB l) vs ls bk i) P := by
  have hv := lvT_v (hdT l)
  have hle := lvT_le (hdT l)
  have b0 := bX_len l 0
  have b1 := bX_len l 1
  have b2 := bX_len l 2
  have b3 := bX_len l 3
  have hT : lvT (hdT l) ≤ 2 → RunM (RM t n v0 b g L d ((12, 0) :: bX l 2) vs ls bk i) P := by
    intro h2
    refine m_pop (by omega) (fun v x K _ h k => ?_) hr
    refine to_more (by decide) (by decide) ?_
    refine br_n (by decide) (br_n (by decide) (br_n (by decide) (br_p rfl (br_n (by decide) ?_))))
    refine m_later h rfl (p := 0) (fun h => by cases h) (by omega) (fun V hV => br_n (by decide) (m_later hV rfl (p := 0) (fun h => by cases h) (by simp only [List.length_cons]; omega) (fun W hW => k W ?_)))
    rw [bX_3 hl (by omega) (by omega)]; exact hW
  have hS : lvT (hdT l) ≤ 1 → RunM (RM t n v0 b g L d ((9, 0) :: bX l 1) vs ls bk i) P := by
    intro h2
    refine m_pop (by omega) (fun v x K _ h k => ?_) (hT (by omega))
    refine to_more (by decide) (by decide) ?_
    refine br_n (by decide) (br_n (by decide) (br_p rfl (br_p rfl ?_)))
    refine m_later h rfl (p := 0) (fun h => by cases h) (by omega) (fun V hV => br_p rfl (m_later hV rfl (p := 0) (fun h => by cases h) (by simp only [List.length_cons]; omega) (fun W hW => k W ?_)))
    rw [bX_2 hl (by omega)]; exact hW
  unfold tB
  by_cases c0 : lvT (hdT l) = 0
  · rw [if_pos c0]
    refine m_pop (by omega) (fun v x K _ h k => ?_) (hS (by omega))
    have hte := (tk_le (t := t) (n := n) (i := i)).1
    have e145 : wp_X7_expression_145 v K := by
      refine m_later h rfl (p := 0) (fun h => by cases h) (by omega) (fun V hV => m_later hV rfl (p := 0) (fun h => by cases h) (by simp only [List.length_cons]; omega) (fun W hW => k W ?_))
      rw [bX_1 hl (by omega)]; exact hW
    have hK := h.2.1
    have hm := mt_le (tk t n i)
    have h37 : gI v 6 = 3 → 4 ≤ tk t n i ∧ tk t n i ≤ 9 := fun h3 => by
      rw [hK.2.2.1] at h3
      simp (disch := omega) only [ln_0, ln_1, ln_2, ln_3, ln_4, ln_5, ln_6, ln_7, ln_8, ln_9, ln_10, ln_11, ln_12, ln_13, ln_14, ln_15, ln_16, ln_17, ln_18, ln_19, ln_20, ln_21, ln_22, ln_23, ln_24, ln_25, ln_26, ln_27, ln_28, ln_29, ln_30, ln_31, ln_32, ln_33, ln_34, ln_35, ln_36, ln_37, ln_38, ln_39, ln_40, ln_41, ln_42, ln_43, ln_44, ln_45, ln_46, ln_47, ln_48, ln_49, ln_50, ln_51, ln_52, ln_53, ln_54, ln_55, ln_56, ln_57, ln_58, ln_59, ln_60, ln_61, ln_62, ln_91, ln_93, ln_97, ln_122, ln_120, ln_123, ln_124, ln_255, ln_256, ln_300, ln_720, ln_1500, ln_12000, ln_18000, nI_leI, nI_ltI, nI_eq] at h3
      unfold mt at h3; repeat' split at h3 <;> try omega
    have e43 : wp_X7_expression_43 v K := br_b (fun h3 => br_b (fun h7 => by
      have h49 := h37 h3
      rw [hK.2.2.2.1 h49] at h7
      simp (disch := omega) only [ln_0, ln_1, ln_2, ln_3, ln_4, ln_5, ln_6, ln_7, ln_8, ln_9, ln_10, ln_11, ln_12, ln_13, ln_14, ln_15, ln_16, ln_17, ln_18, ln_19, ln_20, ln_21, ln_22, ln_23, ln_24, ln_25, ln_26, ln_27, ln_28, ln_29, ln_30, ln_31, ln_32, ln_33, ln_34, ln_35, ln_36, ln_37, ln_38, ln_39, ln_40, ln_41, ln_42, ln_43, ln_44, ln_45, ln_46, ln_47, ln_48, ln_49, ln_50, ln_51, ln_52, ln_53, ln_54, ln_55, ln_56, ln_57, ln_58, ln_59, ln_60, ln_61, ln_62, ln_91, ln_93, ln_97, ln_122, ln_120, ln_123, ln_124, ln_255, ln_256, ln_300, ln_720, ln_1500, ln_12000, ln_18000, nI_leI, nI_ltI, nI_eq] at h7
      exact absurd (show tk t n i = 7 by omega) (hk c0).2) (fun _ => e145)) (fun _ => e145)
    refine br_p rfl (br_b (fun h3 => br_b (fun h7 => ?_) (fun _ => e43)) (fun _ => e43))
    have h49 := h37 h3
    rw [hK.2.2.2.1 h49] at h7
    simp (disch := omega) only [ln_0, ln_1, ln_2, ln_3, ln_4, ln_5, ln_6, ln_7, ln_8, ln_9, ln_10, ln_11, ln_12, ln_13, ln_14, ln_15, ln_16, ln_17, ln_18, ln_19, ln_20, ln_21, ln_22, ln_23, ln_24, ln_25, ln_26, ln_27, ln_28, ln_29, ln_30, ln_31, ln_32, ln_33, ln_34, ln_35, ln_36, ln_37, ln_38, ln_39, ln_40, ln_41, ln_42, ln_43, ln_44, ln_45, ln_46, ln_47, ln_48, ln_49, ln_50, ln_51, ln_52, ln_53, ln_54, ln_55, ln_56, ln_57, ln_58, ln_59, ln_60, ln_61, ln_62, ln_91, ln_93, ln_97, ln_122, ln_120, ln_123, ln_124, ln_255, ln_256, ln_300, ln_720, ln_1500, ln_12000, ln_18000, nI_leI, nI_ltI, nI_eq] at h7
    exact absurd (show tk t n i = 4 by omega) (hk c0).1
  · rw [if_neg c0]
    by_cases c1 : lvT (hdT l) = 1
    · rw [if_pos c1]; exact hS (by omega)
    · rw [if_neg c1]
      by_cases c2 : lvT (hdT l) = 2
      · rw [if_pos c2]; exact hT (by omega)
      · rw [if_neg c2]; exact hr
/-- F, by the token -/
theorem m_factor {t : Nat → Nat} {n : Nat} {v0 : St} {b : Nat} {g : Nat → Nat → Nat} {L : Nat → List Nat} {d : Nat} {T : List (Nat × Nat)} {vs : List Nat} {ls : List (Nat × Nat)} {bk i : Nat} {P R : St → Prop} (hl : T.length < 12000) (hi : i ≤ n) (hs : ∀ (v : St) (K : St → Prop), RM t n v0 b g L d T vs ls bk i v → (∀ V, R V → K V) →
      (tk t n i = 45 → wp_X7_part v 4 0 (fun (r27 : Int32) (u26 : St) => wp_X7_go u26 (fun (u28 : St) => wp_X7_later u28 16 r27 (fun (u29 : St) => wp_X7_later u29 15 0 (fun (u30 : St) => K u30))))) ∧
      (tk t n i = 40 → br (20 ≤ gI v 14) (wp_X7_factor_61 v 0 K) (wp_X7_factor_61 v 1 K)) ∧
      (tk t n i = 3 → wp_X7_part v 1 (Int64.toInt32 (gL v 0)) (fun (r21 : Int32) (u20 : St) => wp_X7_give u20 r21 (fun (u22 : St) => wp_X7_go u22 (fun (u23 : St) => wp_X7_later u23 18 0 (fun (u24 : St) => K u24))))) ∧
      (tk t n i = 9 → wp_X7_part v 9 0 (fun (r11 : Int32) (u10 : St) => wp_X7_go u10 (fun (u12 : St) => wp_X7_isSign u12 40 (fun (r14 : Int32) (u13 : St) => wp_X7_need u13 r14 (fun (u15 : St) => br ((gI u15 13) = 0) (wp_X7_factor_193 u15 K) (wp_X7_go u15 (fun (u17 : St) => wp_X7_later u17 20 r11 (fun (u18 : St) => wp_X7_later u18 1 0 (fun (u19 : St) => wp_X7_factor_193 u19 K))))))))) ∧
      (tk t n i = 2 → wp_X7_factor_210 v 1 K) ∧
      (tk t n i ≠ 45 → tk t n i ≠ 40 → tk t n i ≠ 3 → tk t n i ≠ 9 → tk t n i ≠ 2 → wp_X7_factor_210 v 0 K)) (hr : RunM R P) : RunM (RM t n v0 b g L d ((15, 0) :: T) vs ls bk i) P := by
  refine m_pop hl (fun v x K _ h k => ?_) hr
  obtain ⟨s45, s40, s3, s9, s2, sx⟩ := hs v K h k
  have hte := (tk_le (t := t) (n := n) (i := i)).1
  have hK := h.2.1
  have hm := mt_le (tk t n i)
  have hmt : ∀ a : Nat, a < 10 → (gI v 6 = nI a ↔ mt (tk t n i) = a) := fun a ha => by rw [hK.2.2.1]; exact nI_eq (by omega) (by omega)
  have hmv : (mt (tk t n i) = 1 ↔ tk t n i = 2) ∧ (mt (tk t n i) = 2 ↔ tk t n i = 3) ∧ (mt (tk t n i) = 3 ↔ 4 ≤ tk t n i ∧ tk t n i ≤ 9) := by
    unfold mt; repeat' split
    all_goals omega
  refine to_rest (by decide) (by decide) (br_p rfl ?_)
  refine m_isSign h hi (c := 45) (by decide) rfl ?_
  by_cases c45 : tk t n i = 45
  · rw [decide_eq_true c45]; exact br_n (by decide) (s45 c45)
  rw [decide_eq_false c45]
  refine br_p rfl (m_isSign h hi (c := 40) (by decide) rfl ?_)
  by_cases c40 : tk t n i = 40
  · rw [decide_eq_true c40]; exact br_n (by decide) (s40 c40)
  rw [decide_eq_false c40]
  refine br_p rfl (br_b (fun c => s3 (hmv.2.1.mp ((hmt 2 (by decide)).mp c))) (fun c3 => ?_))
  have c3 : tk t n i ≠ 3 := fun e => c3 ((hmt 2 (by decide)).mpr (hmv.2.1.mpr e))
  have e196 : tk t n i ≠ 9 → wp_X7_factor_196 v K := fun c9 => br_b (fun c => s2 (hmv.1.mp ((hmt 1 (by decide)).mp c))) (fun c => sx c45 c40 c3 c9 (fun e => c ((hmt 1 (by decide)).mpr (hmv.1.mpr e))))
  refine br_b (fun c => br_b (fun c6 => s9 ?_) (fun c6 => e196 ?_)) (fun c => e196 (fun e => c ((hmt 3 (by decide)).mpr (hmv.2.2.mpr (by omega)))))
  · have h49 := hmv.2.2.mp ((hmt 3 (by decide)).mp c)
    rw [hK.2.2.2.1 h49] at c6
    simp (disch := omega) only [ln_0, ln_1, ln_2, ln_3, ln_4, ln_5, ln_6, ln_7, ln_8, ln_9, ln_10, ln_11, ln_12, ln_13, ln_14, ln_15, ln_16, ln_17, ln_18, ln_19, ln_20, ln_21, ln_22, ln_23, ln_24, ln_25, ln_26, ln_27, ln_28, ln_29, ln_30, ln_31, ln_32, ln_33, ln_34, ln_35, ln_36, ln_37, ln_38, ln_39, ln_40, ln_41, ln_42, ln_43, ln_44, ln_45, ln_46, ln_47, ln_48, ln_49, ln_50, ln_51, ln_52, ln_53, ln_54, ln_55, ln_56, ln_57, ln_58, ln_59, ln_60, ln_61, ln_62, ln_91, ln_93, ln_97, ln_122, ln_120, ln_123, ln_124, ln_255, ln_256, ln_300, ln_720, ln_1500, ln_12000, ln_18000, nI_leI, nI_ltI, nI_eq] at c6
    omega
  · have h49 := hmv.2.2.mp ((hmt 3 (by decide)).mp c)
    rw [hK.2.2.2.1 h49] at c6
    simp (disch := omega) only [ln_0, ln_1, ln_2, ln_3, ln_4, ln_5, ln_6, ln_7, ln_8, ln_9, ln_10, ln_11, ln_12, ln_13, ln_14, ln_15, ln_16, ln_17, ln_18, ln_19, ln_20, ln_21, ln_22, ln_23, ln_24, ln_25, ln_26, ln_27, ln_28, ln_29, ln_30, ln_31, ln_32, ln_33, ln_34, ln_35, ln_36, ln_37, ln_38, ln_39, ln_40, ln_41, ln_42, ln_43, ln_44, ln_45, ln_46, ln_47, ln_48, ln_49, ln_50, ln_51, ln_52, ln_53, ln_54, ln_55, ln_56, ln_57, ln_58, ln_59, ln_60, ln_61, ln_62, ln_91, ln_93, ln_97, ln_122, ln_120, ln_123, ln_124, ln_255, ln_256, ln_300, ln_720, ln_1500, ln_12000, ln_18000, nI_leI, nI_ltI, nI_eq] at c6
    omega
