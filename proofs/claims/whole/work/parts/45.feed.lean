/-! 45.feed -/
theorem lt1_le0 {n : Int32} : n < 1 ↔ n ≤ 0 := by
  rw [Int32.lt_iff_toInt_lt, Int32.le_iff_toInt_le]
  have h1 : (1 : Int32).toInt = 1 := by decide
  have h0 : (0 : Int32).toInt = 0 := by decide
  rw [h1, h0]; omega
theorem feed_code {v : St} {a b c d n k : Int32} (hk : k = 1 ∨ k = 2) {P : Int32 → St → Prop} (hp : P 0 (sI v 0 k)) : wp_X7_feed_36 v a b c d n k P := by
  have h131 : wp_X7_feed_131 (sI v 0 k) P := br_n (show ¬ k ≤ 0 by rcases hk with rfl | rfl <;> decide) hp
  refine nm_i ⟨1, br_b (fun _ => h131) (fun _ => br_n (show ¬ k = 0 by rcases hk with rfl | rfl <;> decide) h131)⟩
theorem ok_feed (u v : St) (h : Inv u v) (a b c d n : Int32) : okT Inv (wp_X6_feed u a b c d n) (wp_X7_feed v a b c d n) [("java/lang/IllegalArgumentException", 1), ("java/lang/UnsupportedOperationException", 2)] := by
  by_cases h1 : n < 1
  · exact Or.inr ⟨_, 1, 0, u, sI v 0 1, by simp, fun P px hp => br_p h1 hp, fun P hp => br_p h1 (feed_code (Or.inl rfl) hp), rfl, h⟩
  by_cases h2 : n ≤ 16
  · obtain ⟨j, hj, rfl⟩ := nI_of2 (M := 16) (n := 16) (by decide) (fun h0 => h1 (lt1_le0.mpr (Int32.le_of_lt h0))) h2
    obtain ⟨⟨t, ht, e1, e2, e3⟩, hl, hg⟩ := id h
    by_cases h3 : t + j ≤ 1500
    · obtain ⟨U, V, hU, hV, hI, hv⟩ := feed_loop a b c d j hj j 0 t u (sI v 0 0) (by omega) h3 h e1 rfl
      refine Or.inl ⟨nI (t + j), U, V, fun P px hp => br_n h1 (br_p h2 (br_p ?_ (hU P px hp))), fun P hp => br_n h1 (br_p h2 (br_p ?_ (nm_i (hV P hp)))), hv, hI⟩
      · rw [e1]; show nI j ≤ nI 1500 - nI t
        rw [pk_sub (by omega)]; simp (disch := omega) only [nI_leI, nI_ltI, nI_eq]; omega
      · rw [e2, nI_add]; simp (disch := omega) only [ln_0, ln_1, ln_2, ln_3, ln_4, ln_5, ln_6, ln_7, ln_8, ln_9, ln_10, ln_11, ln_12, ln_13, ln_14, ln_15, ln_16, ln_17, ln_18, ln_19, ln_20, ln_21, ln_22, ln_23, ln_24, ln_25, ln_26, ln_27, ln_28, ln_29, ln_30, ln_31, ln_32, ln_33, ln_34, ln_35, ln_36, ln_37, ln_38, ln_39, ln_40, ln_41, ln_42, ln_43, ln_44, ln_45, ln_46, ln_47, ln_48, ln_49, ln_50, ln_51, ln_52, ln_53, ln_54, ln_55, ln_56, ln_57, ln_58, ln_59, ln_60, ln_61, ln_62, ln_91, ln_93, ln_97, ln_122, ln_120, ln_123, ln_124, ln_255, ln_256, ln_300, ln_720, ln_1500, ln_12000, ln_18000, nI_leI, nI_ltI, nI_eq]; omega
    · refine Or.inr ⟨_, 2, 0, u, sI v 0 2, by simp, fun P px hp => br_n h1 (br_p h2 (br_n ?_ hp)), fun P hp => br_n h1 (br_p h2 (br_n ?_ (feed_code (Or.inr rfl) hp))), rfl, h⟩
      · rw [e1]; show ¬ nI j ≤ nI 1500 - nI t
        rw [pk_sub (by omega)]; simp (disch := omega) only [nI_leI, nI_ltI, nI_eq]; omega
      · rw [e2, nI_add]; simp (disch := omega) only [ln_0, ln_1, ln_2, ln_3, ln_4, ln_5, ln_6, ln_7, ln_8, ln_9, ln_10, ln_11, ln_12, ln_13, ln_14, ln_15, ln_16, ln_17, ln_18, ln_19, ln_20, ln_21, ln_22, ln_23, ln_24, ln_25, ln_26, ln_27, ln_28, ln_29, ln_30, ln_31, ln_32, ln_33, ln_34, ln_35, ln_36, ln_37, ln_38, ln_39, ln_40, ln_41, ln_42, ln_43, ln_44, ln_45, ln_46, ln_47, ln_48, ln_49, ln_50, ln_51, ln_52, ln_53, ln_54, ln_55, ln_56, ln_57, ln_58, ln_59, ln_60, ln_61, ln_62, ln_91, ln_93, ln_97, ln_122, ln_120, ln_123, ln_124, ln_255, ln_256, ln_300, ln_720, ln_1500, ln_12000, ln_18000, nI_leI, nI_ltI, nI_eq]; omega
  · exact Or.inr ⟨_, 1, 0, u, sI v 0 1, by simp, fun P px hp => br_n h1 (br_n h2 hp), fun P hp => br_n h1 (br_n h2 (feed_code (Or.inl rfl) hp)), rfl, h⟩
