/-! 51.lookM: the reference's look finds the same token -/
def mt (k : Nat) : Nat := if k = 0 then 0 else if k = 1 then 5 else if k = 2 then 1 else if k = 3 then 2 else if k ≤ 9 then 3 else 4
def TkM (V : St) (t : Nat → Nat) (n i : Nat) : Prop := gI V 4 = nI (tp t n i) ∧ gI V 5 = nI (te t n i) ∧ gI V 6 = nI (mt (tk t n i)) ∧ (4 ≤ tk t n i ∧ tk t n i ≤ 9 → gI V 7 = nI (tk t n i - 3)) ∧ (tk t n i = 3 → gL V 0 = lN (vlt t (tp t n i) (te t n i - tp t n i)))
theorem isRowM {v : St} {t : Nat → Nat} {n i : Nat} (hT : TpM v t n) (hi : i ≤ n) {P : Int32 → St → Prop} (hp : P (b2i (decide (i < n) && rwc (t i))) v) : wp_X7_isRow v (nI i) P := by
  have hn : n ≤ 1500 := hT.1
  by_cases hlt : i < n
  · obtain ⟨hc256, hb⟩ := hT.2.2 i hlt
    refine br_n ?_ ⟨inN (by omega) (by decide), wpX7_le ?_⟩
    · rw [hT.2.1]; simp (disch := omega) only [nI_leI, nI_ltI, nI_eq]; omega
    · rw [ixN (by omega), hb, (ch_le _ hc256).2]
      cases hL : isL (t i) with
      | true =>
        have e : (decide (i < n) && rwc (t i)) = true := by simp [hlt, rwc, hL]
        rw [e] at hp; exact br_n (by decide) ⟨bz1, hp⟩
      | false =>
        refine br_p rfl ⟨inN (by omega) (by decide), wpX7_di ?_⟩
        rw [(ch_di _ hc256).2]
        cases hD : isD (t i) with
        | true =>
          have e : (decide (i < n) && rwc (t i)) = true := by simp [hlt, rwc, hD]
          rw [e] at hp; exact br_n (by decide) ⟨bz1, hp⟩
        | false =>
          have e : (decide (i < n) && rwc (t i)) = false := by simp [rwc, hL, hD]
          rw [e] at hp; exact br_p rfl ⟨bz0, hp⟩
  · refine br_p ?_ ⟨bz0, ?_⟩
    · rw [hT.2.1]; simp (disch := omega) only [nI_leI, nI_ltI, nI_eq]; omega
    · have e : (decide (i < n) && rwc (t i)) = false := by simp [hlt]
      rw [e] at hp; exact hp
/-- a word of up to four letters, at p .. p + k -/
theorem isM {v : St} {t : Nat → Nat} {n p k : Nat} (hT : TpM v t n) (hpk : p + k ≤ n) (h4 : gI v 4 = nI p) (h5 : gI v 5 = nI (p + k)) (hk : clt t p k = k) (hk0 : 0 < k) (b : Bool) {a1 a2 a3 a4 : Nat} {l : Nat} (hl : (l = 2 ∧ a3 = 0 ∧ a4 = 0) ∨ (l = 3 ∧ a4 = 0 ∧ a3 ≠ 0) ∨ (l = 4 ∧ a3 ≠ 0 ∧ a4 ≠ 0)) (h1 : 97 ≤ a1 ∧ a1 ≤ 122) (h2 : 97 ≤ a2 ∧ a2 ≤ 122) (h3 : a3 ≤ 122) (h34 : a4 ≤ 122)
    (hb : b = true ↔ k = l ∧ t p = a1 ∧ t (p + 1) = a2 ∧ (3 ≤ l → t (p + 2) = a3) ∧ (4 ≤ l → t (p + 3) = a4)) {P : Int32 → St → Prop} (hp : P (b2i b) v) : wp_X7_is v (nI a1) (nI a2) (nI a3) (nI a4) P := by
  have hn : n ≤ 1500 := hT.1
  have hall := clt_all hk
  have byte : ∀ j, j < k → ∀ a : Nat, a ≤ 122 → ((gA v 1 (ix (nI (p + j))) = nI a) ↔ t (p + j) = a) := fun j hj a ha => by
    have hL := isL_b (hall j hj)
    rw [ixN (by omega), (hT.2.2 (p + j) (by omega)).2, ch_lt _ (by omega) (by omega), nI_eq (by omega) (by omega)]
  have hf : ∀ {Q : Prop}, (b = true → Q) → (¬ Q → P 0 v) := fun hq hn => by
    cases hbb : b with
    | true => exact absurd (hq hbb) hn
    | false => rw [hbb] at hp; exact hp
  have ht : b = true → P 1 v := fun h => by rw [h] at hp; exact hp
  have main : ∀ y0 : Nat, y0 = l → wp_X7_is_34 v (nI a1) (nI a2) (nI a3) (nI a4) (nI y0) P := by
    intro y0 hy
    subst hy
    have hsub : gI v 5 - gI v 4 = nI k := by rw [h5, h4, pk_sub (by omega)]; congr 1; omega
    refine br_b (fun hk2 => ?_) (fun hk2 => ⟨bz0, hf (Q := gI v 5 - gI v 4 = nI y0) (fun h => by rw [hsub]; congr 1; exact (hb.mp h).1) hk2⟩)
    rw [hsub, nI_eq (by omega) (by omega)] at hk2
    rw [h4]
    refine ⟨inN (by omega) (by decide), br_b (fun c1 => ?_) (fun c1 => ⟨bz0, ?_⟩)⟩
    · have c1' := (byte 0 (by omega) a1 (by omega)).mp c1
      refine br_n ?_ ⟨?_, ?_⟩
      · simp (disch := omega) only [ln_0, ln_1, ln_2, ln_3, ln_4, ln_5, ln_6, ln_7, ln_8, ln_9, ln_10, ln_11, ln_12, ln_13, ln_14, ln_15, ln_16, ln_17, ln_18, ln_19, ln_20, ln_21, ln_22, ln_23, ln_24, ln_25, ln_26, ln_27, ln_28, ln_29, ln_30, ln_31, ln_32, ln_33, ln_34, ln_35, ln_36, ln_37, ln_38, ln_39, ln_40, ln_41, ln_42, ln_43, ln_44, ln_45, ln_46, ln_47, ln_48, ln_49, ln_50, ln_51, ln_52, ln_53, ln_54, ln_55, ln_56, ln_57, ln_58, ln_59, ln_60, ln_61, ln_62, ln_91, ln_93, ln_97, ln_122, ln_120, ln_123, ln_124, ln_255, ln_256, ln_300, ln_720, ln_1500, ln_12000, ln_18000, nI_leI, nI_ltI, nI_eq]; omega
      · rw [nI_1]; exact inN (by omega) (by decide)
      · rw [nI_1]
        refine br_b (fun c2 => ?_) (fun c2 => ⟨bz0, hf (fun h => (byte 1 (by omega) a2 (by omega)).mpr (hb.mp h).2.2.1) c2⟩)
        have c2' := (byte 1 (by omega) a2 (by omega)).mp c2
        have h105 : (3 ≤ y0 → t (p + 2) = a3) → wp_X7_is_105 v (nI a4) (nI y0) P := by
          intro c3
          refine br_b (fun hy3 => ⟨bz1, ht (hb.mpr ⟨hk2, c1', c2', c3, fun h => ?_⟩)⟩) (fun hy3 => ?_)
          · simp (disch := omega) only [ln_0, ln_1, ln_2, ln_3, ln_4, ln_5, ln_6, ln_7, ln_8, ln_9, ln_10, ln_11, ln_12, ln_13, ln_14, ln_15, ln_16, ln_17, ln_18, ln_19, ln_20, ln_21, ln_22, ln_23, ln_24, ln_25, ln_26, ln_27, ln_28, ln_29, ln_30, ln_31, ln_32, ln_33, ln_34, ln_35, ln_36, ln_37, ln_38, ln_39, ln_40, ln_41, ln_42, ln_43, ln_44, ln_45, ln_46, ln_47, ln_48, ln_49, ln_50, ln_51, ln_52, ln_53, ln_54, ln_55, ln_56, ln_57, ln_58, ln_59, ln_60, ln_61, ln_62, ln_91, ln_93, ln_97, ln_122, ln_120, ln_123, ln_124, ln_255, ln_256, ln_300, ln_720, ln_1500, ln_12000, ln_18000, nI_leI, nI_ltI, nI_eq] at hy3; omega
          · simp (disch := omega) only [ln_0, ln_1, ln_2, ln_3, ln_4, ln_5, ln_6, ln_7, ln_8, ln_9, ln_10, ln_11, ln_12, ln_13, ln_14, ln_15, ln_16, ln_17, ln_18, ln_19, ln_20, ln_21, ln_22, ln_23, ln_24, ln_25, ln_26, ln_27, ln_28, ln_29, ln_30, ln_31, ln_32, ln_33, ln_34, ln_35, ln_36, ln_37, ln_38, ln_39, ln_40, ln_41, ln_42, ln_43, ln_44, ln_45, ln_46, ln_47, ln_48, ln_49, ln_50, ln_51, ln_52, ln_53, ln_54, ln_55, ln_56, ln_57, ln_58, ln_59, ln_60, ln_61, ln_62, ln_91, ln_93, ln_97, ln_122, ln_120, ln_123, ln_124, ln_255, ln_256, ln_300, ln_720, ln_1500, ln_12000, ln_18000, nI_leI, nI_ltI, nI_eq] at hy3
            rw [h4]
            have e3 : nI p + 3 = nI (p + 3) := nI_add p 3
            rw [e3]
            refine ⟨inN (by omega) (by decide), br_b (fun c4 => ⟨bz1, ht (hb.mpr ⟨hk2, c1', c2', c3, fun _ => (byte 3 (by omega) a4 h34).mp c4⟩)⟩) (fun c4 => ⟨bz0, hf (fun h => (byte 3 (by omega) a4 h34).mpr ((hb.mp h).2.2.2.2 (by omega))) c4⟩)⟩
        refine br_b (fun hy3 => h105 (fun h => ?_)) (fun hy3 => ?_)
        · simp (disch := omega) only [ln_0, ln_1, ln_2, ln_3, ln_4, ln_5, ln_6, ln_7, ln_8, ln_9, ln_10, ln_11, ln_12, ln_13, ln_14, ln_15, ln_16, ln_17, ln_18, ln_19, ln_20, ln_21, ln_22, ln_23, ln_24, ln_25, ln_26, ln_27, ln_28, ln_29, ln_30, ln_31, ln_32, ln_33, ln_34, ln_35, ln_36, ln_37, ln_38, ln_39, ln_40, ln_41, ln_42, ln_43, ln_44, ln_45, ln_46, ln_47, ln_48, ln_49, ln_50, ln_51, ln_52, ln_53, ln_54, ln_55, ln_56, ln_57, ln_58, ln_59, ln_60, ln_61, ln_62, ln_91, ln_93, ln_97, ln_122, ln_120, ln_123, ln_124, ln_255, ln_256, ln_300, ln_720, ln_1500, ln_12000, ln_18000, nI_leI, nI_ltI, nI_eq] at hy3; omega
        · simp (disch := omega) only [ln_0, ln_1, ln_2, ln_3, ln_4, ln_5, ln_6, ln_7, ln_8, ln_9, ln_10, ln_11, ln_12, ln_13, ln_14, ln_15, ln_16, ln_17, ln_18, ln_19, ln_20, ln_21, ln_22, ln_23, ln_24, ln_25, ln_26, ln_27, ln_28, ln_29, ln_30, ln_31, ln_32, ln_33, ln_34, ln_35, ln_36, ln_37, ln_38, ln_39, ln_40, ln_41, ln_42, ln_43, ln_44, ln_45, ln_46, ln_47, ln_48, ln_49, ln_50, ln_51, ln_52, ln_53, ln_54, ln_55, ln_56, ln_57, ln_58, ln_59, ln_60, ln_61, ln_62, ln_91, ln_93, ln_97, ln_122, ln_120, ln_123, ln_124, ln_255, ln_256, ln_300, ln_720, ln_1500, ln_12000, ln_18000, nI_leI, nI_ltI, nI_eq] at hy3
          rw [h4]
          have e2 : nI p + 2 = nI (p + 2) := nI_add p 2
          rw [e2]
          refine ⟨inN (by omega) (by decide), br_b (fun c3 => h105 (fun _ => (byte 2 (by omega) a3 h3).mp c3)) (fun c3 => ⟨bz0, hf (fun h => (byte 2 (by omega) a3 h3).mpr ((hb.mp h).2.2.2.1 (by omega))) c3⟩)⟩
    · exact hf (fun h => (byte 0 (by omega) a1 (by omega)).mpr (hb.mp h).2.1) c1
  refine br_n ?_ (br_n ?_ ?_)
  · simp (disch := omega) only [ln_0, ln_1, ln_2, ln_3, ln_4, ln_5, ln_6, ln_7, ln_8, ln_9, ln_10, ln_11, ln_12, ln_13, ln_14, ln_15, ln_16, ln_17, ln_18, ln_19, ln_20, ln_21, ln_22, ln_23, ln_24, ln_25, ln_26, ln_27, ln_28, ln_29, ln_30, ln_31, ln_32, ln_33, ln_34, ln_35, ln_36, ln_37, ln_38, ln_39, ln_40, ln_41, ln_42, ln_43, ln_44, ln_45, ln_46, ln_47, ln_48, ln_49, ln_50, ln_51, ln_52, ln_53, ln_54, ln_55, ln_56, ln_57, ln_58, ln_59, ln_60, ln_61, ln_62, ln_91, ln_93, ln_97, ln_122, ln_120, ln_123, ln_124, ln_255, ln_256, ln_300, ln_720, ln_1500, ln_12000, ln_18000, nI_leI, nI_ltI, nI_eq]; omega
  · simp (disch := omega) only [ln_0, ln_1, ln_2, ln_3, ln_4, ln_5, ln_6, ln_7, ln_8, ln_9, ln_10, ln_11, ln_12, ln_13, ln_14, ln_15, ln_16, ln_17, ln_18, ln_19, ln_20, ln_21, ln_22, ln_23, ln_24, ln_25, ln_26, ln_27, ln_28, ln_29, ln_30, ln_31, ln_32, ln_33, ln_34, ln_35, ln_36, ln_37, ln_38, ln_39, ln_40, ln_41, ln_42, ln_43, ln_44, ln_45, ln_46, ln_47, ln_48, ln_49, ln_50, ln_51, ln_52, ln_53, ln_54, ln_55, ln_56, ln_57, ln_58, ln_59, ln_60, ln_61, ln_62, ln_91, ln_93, ln_97, ln_122, ln_120, ln_123, ln_124, ln_255, ln_256, ln_300, ln_720, ln_1500, ln_12000, ln_18000, nI_leI, nI_ltI, nI_eq]; omega
  · rcases hl with ⟨rfl, rfl, rfl⟩ | ⟨rfl, rfl, h⟩ | ⟨rfl, h, h9⟩
    · exact br_p rfl (main 2 rfl)
    · exact br_n (by simp (disch := omega) only [ln_0, ln_1, ln_2, ln_3, ln_4, ln_5, ln_6, ln_7, ln_8, ln_9, ln_10, ln_11, ln_12, ln_13, ln_14, ln_15, ln_16, ln_17, ln_18, ln_19, ln_20, ln_21, ln_22, ln_23, ln_24, ln_25, ln_26, ln_27, ln_28, ln_29, ln_30, ln_31, ln_32, ln_33, ln_34, ln_35, ln_36, ln_37, ln_38, ln_39, ln_40, ln_41, ln_42, ln_43, ln_44, ln_45, ln_46, ln_47, ln_48, ln_49, ln_50, ln_51, ln_52, ln_53, ln_54, ln_55, ln_56, ln_57, ln_58, ln_59, ln_60, ln_61, ln_62, ln_91, ln_93, ln_97, ln_122, ln_120, ln_123, ln_124, ln_255, ln_256, ln_300, ln_720, ln_1500, ln_12000, ln_18000, nI_leI, nI_ltI, nI_eq]; exact h) (br_p rfl (main 3 rfl))
    · exact br_n (by simp (disch := omega) only [ln_0, ln_1, ln_2, ln_3, ln_4, ln_5, ln_6, ln_7, ln_8, ln_9, ln_10, ln_11, ln_12, ln_13, ln_14, ln_15, ln_16, ln_17, ln_18, ln_19, ln_20, ln_21, ln_22, ln_23, ln_24, ln_25, ln_26, ln_27, ln_28, ln_29, ln_30, ln_31, ln_32, ln_33, ln_34, ln_35, ln_36, ln_37, ln_38, ln_39, ln_40, ln_41, ln_42, ln_43, ln_44, ln_45, ln_46, ln_47, ln_48, ln_49, ln_50, ln_51, ln_52, ln_53, ln_54, ln_55, ln_56, ln_57, ln_58, ln_59, ln_60, ln_61, ln_62, ln_91, ln_93, ln_97, ln_122, ln_120, ln_123, ln_124, ln_255, ln_256, ln_300, ln_720, ln_1500, ln_12000, ln_18000, nI_leI, nI_ltI, nI_eq]; exact h) (br_n (by simp (disch := omega) only [ln_0, ln_1, ln_2, ln_3, ln_4, ln_5, ln_6, ln_7, ln_8, ln_9, ln_10, ln_11, ln_12, ln_13, ln_14, ln_15, ln_16, ln_17, ln_18, ln_19, ln_20, ln_21, ln_22, ln_23, ln_24, ln_25, ln_26, ln_27, ln_28, ln_29, ln_30, ln_31, ln_32, ln_33, ln_34, ln_35, ln_36, ln_37, ln_38, ln_39, ln_40, ln_41, ln_42, ln_43, ln_44, ln_45, ln_46, ln_47, ln_48, ln_49, ln_50, ln_51, ln_52, ln_53, ln_54, ln_55, ln_56, ln_57, ln_58, ln_59, ln_60, ln_61, ln_62, ln_91, ln_93, ln_97, ln_122, ln_120, ln_123, ln_124, ln_255, ln_256, ln_300, ln_720, ln_1500, ln_12000, ln_18000, nI_leI, nI_ltI, nI_eq]; exact h9) (main 4 rfl))
/-- a row of k letters spells e -/
theorem spell {t : Nat → Nat} {p k : Nat} (hk : clt t p k = k) (hk8 : k ≤ 8) (hk0 : 0 < k) : (eC t p k = 26982 ↔ k = 2 ∧ t p = 105 ∧ t (p + 1) = 102) ∧ (eC t p k = 1952998766 ↔ k = 4 ∧ t p = 116 ∧ t (p + 1) = 104 ∧ t (p + 2) = 101 ∧ t (p + 3) = 110) ∧ (eC t p k = 1701606245 ↔ k = 4 ∧ t p = 101 ∧ t (p + 1) = 108 ∧ t (p + 2) = 115 ∧ t (p + 3) = 101) ∧ (eC t p k = 7103860 ↔ k = 3 ∧ t p = 108 ∧ t (p + 1) = 101 ∧ t (p + 2) = 116) ∧ (eC t p k = 26990 ↔ k = 2 ∧ t p = 105 ∧ t (p + 1) = 110) ∧ (eC t p k = 1835101029 ↔ k = 4 ∧ t p = 109 ∧ t (p + 1) = 97 ∧ t (p + 2) = 107 ∧ t (p + 3) = 101) := by
  have hall := clt_all hk
  have b : ∀ j, j < k → 97 ≤ t (p + j) ∧ t (p + j) ≤ 122 := fun j hj => isL_b (hall j hj)
  rcases (show k = 1 ∨ k = 2 ∨ k = 3 ∨ k = 4 ∨ k = 5 ∨ k = 6 ∨ k = 7 ∨ k = 8 by omega) with rfl | rfl | rfl | rfl | rfl | rfl | rfl | rfl
  all_goals simp only [eC, Nat.add_zero, Nat.zero_mul, Nat.zero_add, true_and]
  · have b0 := b 0 (by omega)
    simp only [Nat.add_zero] at b0
    refine ⟨?_, ?_, ?_, ?_, ?_, ?_⟩ <;> omega
  · have b0 := b 0 (by omega); have b1 := b 1 (by omega)
    simp only [Nat.add_zero] at b0
    refine ⟨?_, ?_, ?_, ?_, ?_, ?_⟩ <;> omega
  · have b0 := b 0 (by omega); have b1 := b 1 (by omega); have b2 := b 2 (by omega)
    simp only [Nat.add_zero] at b0
    refine ⟨?_, ?_, ?_, ?_, ?_, ?_⟩ <;> omega
  · have b0 := b 0 (by omega); have b1 := b 1 (by omega); have b2 := b 2 (by omega); have b3 := b 3 (by omega)
    simp only [Nat.add_zero] at b0
    refine ⟨?_, ?_, ?_, ?_, ?_, ?_⟩ <;> omega
  all_goals
    have b0 := b 0 (by omega); have b1 := b 1 (by omega); have b2 := b 2 (by omega); have b3 := b 3 (by omega); have b4 := b 4 (by omega)
    simp only [Nat.add_zero] at b0
    refine ⟨?_, ?_, ?_, ?_, ?_, ?_⟩ <;> omega
