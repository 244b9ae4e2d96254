/-! 72.contC2: the class at an expression's end, part by part -/
theorem tk9 {t : Nat → Nat} {n i : Nat} {u : St} (hK : TkC u t n i) {c : Nat} (hc : c < 1000) : gI u 9 = nI c ↔ tk t n i = c := by
  have hle := (tk_le (t := t) (n := n) (i := i)).1
  rw [hK.2.2.1, nI_eq (by omega) (by omega)]
theorem tk9m {t : Nat → Nat} {n i : Nat} {u : St} (hK : TkC u t n i) : ¬ gI u 9 = -1 := by
  have hle := (tk_le (t := t) (n := n) (i := i)).1
  rw [hK.2.2.1]; exact nI_m1 (by omega)
theorem c_inW {t : Nat → Nat} {n : Nat} {u0 u : St} {g : Nat → Nat → Nat} {L : Nat → List Nat} {d : Nat} {l : List (Nat × Nat)} {i la : Nat} {e : Nat × Nat} (h : RC t n u0 g L d (e :: l) i 7 la u) (hG : GIv n g L d (e :: l) i) (hn15 : n ≤ 1500) (he : e.1 = 2 ∨ e.1 = 3 ∨ e.1 = 5) {P : St → Prop} (ky : tk t n i = e.1 + 3 → ∀ U la', RC t n u0 g (upL L e.2 (L e.2 ++ [la])) d ((e.1 + 1, e.2) :: l) i 6 la' U → P U) (kn : tk t n i ≠ e.1 + 3 → ∀ U, FlC n u0 (tp t n i) U → P U) : wp_X3_endExpression_35 u P := by
  obtain ⟨t1, t2, t3, t4, t5, t6⟩ := GI_top hG (by omega)
  have hd := hG.1
  have hp7 := dm_lt t1 (by omega)
  have hl81 := (GI_len hG).1
  simp only [List.length_cons] at hl81
  obtain ⟨q1, q2, q3, q4, q5⟩ := h.2.2.2.1.2 e.2 t1
  have hkd : (g 5 e.2 = 5 ∨ g 5 e.2 = 6) ∧ (L e.2).length ≤ 1 ∧ (if g 5 e.2 = 6 then (8 : Int32) else if g 5 e.2 = 5 then (if (L e.2).length = 0 then 5 else 6) else -1) = nI (e.1 + 3) := by
    rcases he with he | he | he
    · have := tgi2 t2 he; rw [this.1, this.2, he]; exact ⟨Or.inl rfl, by decide, rfl⟩
    · have := tgi3 t2 he; rw [this.1, this.2, he]; exact ⟨Or.inl rfl, by decide, rfl⟩
    · have := tgi5 t2 he; rw [this.1, this.2.1, he]; exact ⟨Or.inr rfl, by decide, rfl⟩
  obtain ⟨k1, k2, k3⟩ := hkd
  have f153 : wp_X3_endExpressionIn_153 u (nI e.2) P := by
    refine c_word hp7 q1 q3 (by omega) (by omega) ?_
    rw [k3]
    refine br_b (fun c => ?_) (fun c => c_fail h (kn (fun c2 => c ((tk9 h.2.1 (by omega)).mpr c2))))
    exact c_attach h hd t1 (by omega) rfl (h.2.2.2.2.2.1 rfl) (fun U hU => nm_i (ky ((tk9 h.2.1 (by omega)).mp c) _ 0 (RC_tag (c_due hU 6 (by decide) 0) (by omega) (by omega))))
  refine c_in h (by omega) hd t1 (by omega) ⟨inN hp7 (by decide), nm_i ?_⟩
  rw [ixN (by omega), q1]
  rcases k1 with k1 | k1 <;> rw [k1]
  · exact br_n (by decide) (br_n (by decide) (br_n (by decide) (br_p rfl (br_n (by decide) (br_p rfl (br_p rfl f153))))))
  · exact br_n (by decide) (br_n (by decide) (br_n (by decide) (br_p rfl (br_n (by decide) (br_p rfl (br_p rfl f153))))))
theorem c_inA {t : Nat → Nat} {n : Nat} {u0 u : St} {g : Nat → Nat → Nat} {L : Nat → List Nat} {d : Nat} {l : List (Nat × Nat)} {i la : Nat} {e : Nat × Nat} (h : RC t n u0 g L d (e :: l) i 7 la u) (hG : GIv n g L d (e :: l) i) (hn15 : n ≤ 1500) (he : e.1 = 7 ∨ e.1 = 9) {P : St → Prop} (k41 : tk t n i = 41 → ∀ U, RC t n u0 g (upL L e.2 (L e.2 ++ [la])) d l i 7 e.2 U → P U) (k44 : tk t n i = 44 → ∀ U la', RC t n u0 g (upL L e.2 (L e.2 ++ [la])) d (e :: l) i 6 la' U → P U) (kn : tk t n i ≠ 41 → tk t n i ≠ 44 → ∀ U, FlC n u0 (tp t n i) U → P U) : wp_X3_endExpression_35 u P := by
  obtain ⟨t1, t2, t3, t4, t5, t6⟩ := GI_top hG (by omega)
  have hd := hG.1
  have hin := hG.2.1
  have hp7 := dm_lt t1 (by omega)
  have hl81 := (GI_len hG).1
  simp only [List.length_cons] at hl81
  obtain ⟨q1, q2, q3, q4, q5⟩ := h.2.2.2.1.2 e.2 t1
  have hnc := (TgO_lv t2).2.2.1
  have f153 : (g 5 e.2 = 7 ∨ g 5 e.2 = 8) → tk t n i ≠ 41 → tk t n i ≠ 44 → wp_X3_endExpressionIn_153 u (nI e.2) P := fun k1 c1 c2 => by
    refine c_word hp7 q1 q3 (by omega) (by omega) ?_
    rw [if_neg (by omega), if_neg (by omega)]
    exact br_n (tk9m h.2.1) (c_fail h (kn c1 c2))
  have f55 : (g 5 e.2 = 7 ∨ g 5 e.2 = 8) → wp_X3_endExpressionIn_55 u (nI e.2) (nI (g 5 e.2)) 0 1 P := fun k1 => by
    refine br_n (by decide) (br_b (fun c => ?_) (fun c => ?_))
    · exact c_endLatest h hd (by omega) (by omega) t1 (by omega) (k41 ((tk9 h.2.1 (c := 41) (by omega)).mp c))
    · have c1 : tk t n i ≠ 41 := fun e => c ((tk9 h.2.1 (c := 41) (by omega)).mpr e)
      refine br_n (by rcases k1 with k1 | k1 <;> rw [k1] <;> decide) (br_p rfl (br_n (by decide) (br_b (fun c => ?_) (fun c => ?_))))
      · exact c_attach h hd t1 (by omega) rfl (h.2.2.2.2.2.1 rfl) (fun U hU => nm_i (k44 ((tk9 h.2.1 (c := 44) (by omega)).mp c) _ 0 (c_due hU 6 (by decide) 0)))
      · exact f153 k1 c1 (fun e => c ((tk9 h.2.1 (c := 44) (by omega)).mpr e))
  refine c_in h (by omega) hd t1 (by omega) ⟨inN hp7 (by decide), nm_i ?_⟩
  rw [ixN (by omega), q1]
  rcases he with he | he
  · have k1 := (tgi7 t2 he).1
    have f55 := f55 (Or.inl k1)
    rw [k1] at f55 ⊢
    exact br_n (by decide) (br_p rfl f55)
  · have k1 := tgi9 t2 he
    have f55 := f55 (Or.inr k1.1)
    rw [k1.1] at f55 ⊢
    refine br_p rfl ⟨inN hp7 (by decide), br_n ?_ (br_n (by decide) (br_p rfl (br_p rfl f55)))⟩
    rw [q3]; simp (disch := omega) only [ln_0, ln_1, ln_2, ln_3, ln_4, ln_5, ln_6, ln_7, ln_8, ln_9, ln_10, ln_11, ln_12, ln_13, ln_14, ln_15, ln_16, ln_17, ln_18, ln_19, ln_20, ln_21, ln_22, ln_23, ln_24, ln_25, ln_26, ln_27, ln_28, ln_29, ln_30, ln_31, ln_32, ln_33, ln_34, ln_35, ln_36, ln_37, ln_38, ln_39, ln_40, ln_41, ln_42, ln_43, ln_44, ln_45, ln_46, ln_47, ln_48, ln_49, ln_50, ln_51, ln_52, ln_53, ln_54, ln_55, ln_56, ln_57, ln_58, ln_59, ln_60, ln_61, ln_62, ln_91, ln_93, ln_97, ln_122, ln_120, ln_123, ln_124, ln_255, ln_256, ln_300, ln_720, ln_1500, ln_12000, ln_18000, nI_leI, nI_ltI, nI_eq]; omega
theorem c_in8 {t : Nat → Nat} {n : Nat} {u0 u : St} {g : Nat → Nat → Nat} {L : Nat → List Nat} {d : Nat} {l : List (Nat × Nat)} {i la : Nat} {e : Nat × Nat} (h : RC t n u0 g L d (e :: l) i 7 la u) (hG : GIv n g L d (e :: l) i) (hn15 : n ≤ 1500) (he : e.1 = 8) {P : St → Prop} (k44 : tk t n i = 44 → ∀ U la', RC t n u0 g (upL L e.2 (L e.2 ++ [la])) d (e :: l) i 11 la' U → P U) (kn : tk t n i ≠ 44 → ∀ U, FlC n u0 (tp t n i) U → P U) : wp_X3_endExpression_35 u P := by
  obtain ⟨t1, t2, t3, t4, t5, t6⟩ := GI_top hG (by omega)
  have hd := hG.1
  have hin := hG.2.1
  have hp7 := dm_lt t1 (by omega)
  have hl81 := (GI_len hG).1
  simp only [List.length_cons] at hl81
  obtain ⟨q1, q2, q3, q4, q5⟩ := h.2.2.2.1.2 e.2 t1
  have k1 := tgi8 t2 he
  refine c_in h (by omega) hd t1 (by omega) ⟨inN hp7 (by decide), nm_i ?_⟩
  rw [ixN (by omega), q1, k1.1]
  refine br_p rfl ⟨inN hp7 (by decide), br_p (by rw [q3, k1.2.1]; rfl) (br_n (by decide) (br_p rfl (br_n (by decide) (br_p rfl (br_n (by decide) (br_n (by decide) (br_b (fun c => ?_) (fun c => br_p rfl ?_))))))))⟩
  · exact c_attach h hd t1 (by omega) rfl (h.2.2.2.2.2.1 rfl) (fun U hU => nm_i (k44 ((tk9 h.2.1 (c := 44) (by omega)).mp c) _ 0 (c_due hU 11 (by decide) 0)))
  · refine c_word hp7 q1 q3 (by omega) (by omega) ?_
    rw [if_neg (by omega), if_neg (by omega)]
    exact br_n (tk9m h.2.1) (c_fail h (kn (fun e => c ((tk9 h.2.1 (c := 44) (by omega)).mpr e))))
theorem c_in10 {t : Nat → Nat} {n : Nat} {u0 u : St} {g : Nat → Nat → Nat} {L : Nat → List Nat} {d : Nat} {l : List (Nat × Nat)} {i la : Nat} {e : Nat × Nat} (h : RC t n u0 g L d (e :: l) i 7 la u) (hG : GIv n g L d (e :: l) i) (hn15 : n ≤ 1500) (he : e.1 = 10) {P : St → Prop} (ky : tk t n i = 93 → ∀ U, RC t n u0 g (upL L e.2 (L e.2 ++ [la])) d l i 7 e.2 U → P U) (kn : tk t n i ≠ 93 → ∀ U, FlC n u0 (tp t n i) U → P U) : wp_X3_endExpression_35 u P := by
  obtain ⟨t1, t2, t3, t4, t5, t6⟩ := GI_top hG (by omega)
  have hd := hG.1
  have hin := hG.2.1
  have hp7 := dm_lt t1 (by omega)
  have hl81 := (GI_len hG).1
  simp only [List.length_cons] at hl81
  obtain ⟨q1, q2, q3, q4, q5⟩ := h.2.2.2.1.2 e.2 t1
  have k1 := tgi10 t2 he
  refine c_in h (by omega) hd t1 (by omega) ⟨inN hp7 (by decide), nm_i ?_⟩
  rw [ixN (by omega), q1, k1.1]
  refine br_n (by decide) (br_n (by decide) (br_n (by decide) (br_p rfl (br_p rfl (br_b (fun c => ?_) (fun c => br_p rfl (br_p rfl ?_)))))))
  · exact c_endLatest h hd (by omega) (by omega) t1 (by omega) (ky ((tk9 h.2.1 (c := 93) (by omega)).mp c))
  · refine c_word hp7 q1 q3 (by omega) (by omega) ?_
    rw [if_neg (by omega), if_neg (by omega)]
    exact br_n (tk9m h.2.1) (c_fail h (kn (fun e => c ((tk9 h.2.1 (c := 93) (by omega)).mpr e))))
