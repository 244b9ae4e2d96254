/-! 71.contC: the class behind an expression -/
theorem GI_sig {n : Nat} {g : Nat → Nat → Nat} {L : Nat → List Nat} {d : Nat} {l : List (Nat × Nat)} {i : Nat} (h : GIv n g L d l i) (hn15 : n ≤ 1500) : ∀ x ∈ l, 2 ≤ x.1 → (dm g (d + 1) x.2 ∧ lvK (g 5 x.2) = lvT x.1 ∧ g 5 x.2 < 1000) ∧ (L x.2).length + l.length < 10000 := fun x hx h2 => by
  obtain ⟨c1, c2, c3, c4⟩ := StO_mem h.2.2.2.2.2.1 x hx h2
  obtain ⟨d1, d2, d3, d4⟩ := TgO_lv c4
  have := (GI_len h).1
  have := h.2.1
  exact ⟨⟨c1, d1, d2⟩, by omega⟩
theorem c_signs {t : Nat → Nat} {n : Nat} {u0 u : St} {g : Nat → Nat → Nat} {L : Nat → List Nat} {d : Nat} {l : List (Nat × Nat)} {i la : Nat} (h : RC t n u0 g L d l i 7 la u) (hG : GIv n g L d l i) (hn15 : n ≤ 1500) {fl : Nat} (hfl : 1 ≤ fl) (hfl4 : fl ≤ 4) {x : Int32} (hx : x = nI fl) {P : St → Prop} (k : ∀ U, RC t n u0 g (popS fl l L la).2.1 d (popS fl l L la).1 i 7 (popS fl l L la).2.2 U → P U) : wp_X3_endSigns u x P := by
  subst hx
  have h2 : gI u 2 = nI l.length := h.2.2.2.2.2.2.2.1
  refine nm_i ⟨l.length + 1, ?_⟩
  rw [h2]
  exact c_endSigns hG.1 hfl hfl4 l L la u h (GI_len hG).1 (GI_sig hG hn15) k _ (Nat.le_refl _)
theorem c_lasts {t : Nat → Nat} {n : Nat} {u0 u : St} {g : Nat → Nat → Nat} {L : Nat → List Nat} {d : Nat} {l : List (Nat × Nat)} {i la : Nat} (h : RC t n u0 g L d l i 7 la u) (hG : GIv n g L d l i) (hn15 : n ≤ 1500) {P : St → Prop} (k : ∀ U, RC t n u0 g (popE l L la).2.1 d (popE l L la).1 i 7 (popE l L la).2.2 U → wp_X3_endExpression_35 U P) : nm (gI u 2) (fun v2 : Int32 => ∃ n, wp_X3_endExpression_10 P n u v2) := by
  have h2 : gI u 2 = nI l.length := h.2.2.2.2.2.2.2.1
  have hS := hG.2.2.2.2.2.1
  refine nm_i ⟨l.length + 1, ?_⟩
  rw [h2]
  refine c_endLasts hG.1 l L la u h (GI_len hG).1 (StO_ne hS) (fun x hx hx2 => ?_) (fun e l' he he2 => StO_dj hS [] e l' (by rw [he]; rfl) he2) (StO_dj hS) (StO_last hS).1 k _ (Nat.le_refl _)
  obtain ⟨c1, c2, c3, c4⟩ := StO_mem hS x hx hx2
  obtain ⟨d1, d2, d3, d4, d5, d6⟩ := TgO_lv c4
  have := (GI_len hG).1
  have := hG.2.1
  exact ⟨c1, d2, by omega, d4, d5⟩
/-- a sign behind an expression -/
theorem c_sign {t : Nat → Nat} {n : Nat} {u0 u : St} {g : Nat → Nat → Nat} {L : Nat → List Nat} {d : Nat} {l : List (Nat × Nat)} {i la : Nat} (h : RC t n u0 g L d l i 7 la u) (hG : GIv n g L d l i) (hla : LaO g L d l la) (hn15 : n ≤ 1500) {lv fl : Nat} (hlv : lv = 1 ∧ fl = 2 ∨ lv = 2 ∧ fl = 2 ∨ lv = 3 ∧ fl = 3) {x : Int32} (hx : x = nI lv) {P : St → Prop}
    (ky : g 1 d < 60 → (lv = 1 → hdT (popS fl l L la).1 ≠ 11) → ∀ U la', RC t n u0 (addP g d (tk t n i) 0) (upL (popS fl l L la).2.1 (60 * d + g 1 d) [(popS fl l L la).2.2]) d ((10 + lv, 60 * d + g 1 d) :: (popS fl l L la).1) i 6 la' U → P U)
    (kn : g 1 d = 60 ∨ (lv = 1 ∧ hdT (popS fl l L la).1 = 11) → ∀ U, FlC n u0 (tp t n i) U → P U) : wp_X3_takeSign u x P := by
  subst hx
  have efl : (if (nI lv) < 2 then (2 : Int32) else nI lv) = nI fl := by
    rcases hlv with ⟨rfl, rfl⟩ | ⟨rfl, rfl⟩ | ⟨rfl, rfl⟩ <;> rfl
  obtain ⟨s1, s2, s3, s4, s5⟩ := popS_GI (fl := fl) (by omega) l L la hG hla
  have hnp := (s1.2.2.1 d (Nat.le_refl _)).2.1
  unfold wp_X3_takeSign
  rw [efl]
  refine c_signs h hG hn15 (by omega) (by omega) rfl (fun U hU => ?_)
  generalize hq : popS fl l L la = q at *
  obtain ⟨l2, L2, la2⟩ := q
  have f30 : (lv = 1 → hdT l2 ≠ 11) → wp_X3_takeSign_30 U P := fun h11 => by
    refine br_p rfl (c_isFull hU s1.1 hnp ?_)
    by_cases c : 60 ≤ g 1 d
    · rw [decide_eq_true c]
      exact br_n (by decide) (c_fail hU (kn (Or.inl (by omega))))
    · rw [decide_eq_false c]
      exact br_p rfl (c_behind hU s1.1 (by omega) (10 + lv) (by omega) hU.2.1.2.2.1 ((GI_len s1).2.2.1 (by omega)) (ky (by omega) h11))
  refine br_b (fun c => ?_) (fun c => f30 (fun e => absurd (by rw [e]; rfl) c))
  have c1 : lv = 1 := by
    rw [show (1 : Int32) = nI 1 from rfl, nI_eq (by omega) (by omega)] at c; exact c
  have s3 : lvT (hdT l2) < 2 := by have s3 : lvT (hdT l2) < fl := s3; omega
  cases l2 with
  | nil => exact absurd rfl (StO_ne s1.2.2.2.2.2.1)
  | cons e l2 =>
    have hl2 : l2.length < 81 := by have := (GI_len s1).1; simp only [List.length_cons] at this; omega
    refine c_inner hU hl2 (c_level hU s1.1 (fun h2 => (GI_sig s1 hn15 e List.mem_cons_self h2).1) rfl ?_)
    refine br_b (fun c2 => ?_) (fun c2 => f30 (fun _ (h11 : e.1 = 11) => c2 (by rw [h11]; rfl)))
    have s3 : lvT e.1 < 2 := s3
    rw [show (1 : Int32) = nI 1 from rfl, nI_eq (by omega) (by omega)] at c2
    exact br_n (by decide) (c_fail hU (kn (Or.inr ⟨c1, (lvT_v e.1).2.1.mp c2⟩)))
theorem c_cont {t : Nat → Nat} {n : Nat} {u0 u : St} {g : Nat → Nat → Nat} {L : Nat → List Nat} {d : Nat} {l : List (Nat × Nat)} {i la : Nat} (h : RC t n u0 g L d l i 7 la u) {Q : St → Prop} (k91 : tk t n i = 91 → wp_X2_isFull u (gI u 1) (fun (r6 : Int32) (u5 : St) => br (r6 = 0) (wp_X3_beginPartBehind u5 9 (fun (u8 : St) => Q u8)) (wp_X3_fail u5 (fun (u9 : St) => Q u9)))) (ks : lvS (tk t n i) ≠ 0 → wp_X3_takeSign u (nI (lvS (tk t n i))) Q) (ke : tk t n i ≠ 91 → lvS (tk t n i) = 0 → wp_X3_endExpression u Q) : wpT 7 u Q := by
  have hle := (tk_le (t := t) (n := n) (i := i)).1
  have h9 : gI u 9 = nI (tk t n i) := h.2.1.2.2.1
  show wp_X3_takeContinuation u Q
  refine c_lvS (c := tk t n i) (by omega) h9 ?_
  have h3 := (lvS_v (tk t n i)).2.2.2
  by_cases c : lvS (tk t n i) = 0
  · rw [c]
    refine br_p (by decide) ?_
    by_cases c2 : tk t n i = 91
    · exact br_p (by rw [h9, c2]; rfl) (k91 c2)
    · exact br_n (by rw [h9]; simp (disch := omega) only [ln_0, ln_1, ln_2, ln_3, ln_4, ln_5, ln_6, ln_7, ln_8, ln_9, ln_10, ln_11, ln_12, ln_13, ln_14, ln_15, ln_16, ln_17, ln_18, ln_19, ln_20, ln_21, ln_22, ln_23, ln_24, ln_25, ln_26, ln_27, ln_28, ln_29, ln_30, ln_31, ln_32, ln_33, ln_34, ln_35, ln_36, ln_37, ln_38, ln_39, ln_40, ln_41, ln_42, ln_43, ln_44, ln_45, ln_46, ln_47, ln_48, ln_49, ln_50, ln_51, ln_52, ln_53, ln_54, ln_55, ln_56, ln_57, ln_58, ln_59, ln_60, ln_61, ln_62, ln_91, ln_93, ln_97, ln_122, ln_120, ln_123, ln_124, ln_255, ln_256, ln_300, ln_720, ln_1500, ln_12000, ln_18000, nI_leI, nI_ltI, nI_eq]; exact c2) (ke c2 c)
  · exact br_n (nI_nle (by omega) (by omega)) (ks c)
theorem RC_tag {t : Nat → Nat} {n : Nat} {u0 u : St} {g : Nat → Nat → Nat} {L : Nat → List Nat} {d : Nat} {l : List (Nat × Nat)} {i du la : Nat} {e : Nat × Nat} (h : RC t n u0 g L d (e :: l) i du la u) (he : 2 ≤ e.1) {tag : Nat} (ht : 2 ≤ tag) : RC t n u0 g L d ((tag, e.2) :: l) i du la u := by
  obtain ⟨hT, hK, hF, hC, hN, hla, hR, h2, h3, hS⟩ := h
  refine ⟨hT, hK, hF, hC, hN, hla, hR, h2, ?_, ?_, hS.2⟩
  · rw [h3, paN_0 (by omega), paN_0 (by show tag ≠ 1; omega)]
  · rw [hS.1, cdE_2 he, cdE_2 (by exact ht)]
/-- the class's step, in general -/
theorem c_okX {t : Nat → Nat} {n i k : Nat} {A : St → Prop} {B : Nat → St → Prop} (hk : k ≤ i) (hi : i ≤ n) (htk : tk t n i ≠ 0) {P : Int32 → St → Prop} (hA : ∀ u, A u → ∃ du, du < 100 ∧ TpC u t n ∧ TkC u t n i ∧ gI u 6 = -1 ∧ gI u 5 = nI du ∧ ∀ Q : St → Prop, (∀ U, B i U → Q U) → wpT du u Q) (hB : ∀ U, B i U → TpC U t n ∧ TkC U t n i ∧ gI U 6 = -1) (hfr : ∀ U V, B i U → FrC U V → TkC V t n (te t n i) → B (te t n i) V) (hr : RunC (B (te t n i)) (k + 1) P) : RunC A k P := by
  obtain ⟨M, hM⟩ := hr
  have hte := tp_te (t := t) hi
  refine ⟨M + 1, fun u h m hm => ?_⟩
  obtain ⟨m, rfl⟩ : ∃ m', m = m' + 1 := ⟨m - 1, by omega⟩
  obtain ⟨du, hdu, hT, hK, h6, h5, hw⟩ := hA u h
  have hte0 : tp t n i ≠ n := fun e => htk ((tk_end (t := t) hi).mpr e)
  have hle := (tk_le (t := t) (n := n) (i := i)).1
  have hn : n ≤ 1500 := hT.1
  have hw := hw (fun U => wp_X3_readText_108 (wp_X3_readText_27 P m) U (nI k) P) (fun U hU => by
    obtain ⟨q1, q2, q3⟩ := hB U hU
    obtain ⟨V, h1, h2, h3⟩ := advC (u := U) (t := t) (n := n) (i := te t n i) q1 q2.2.1 hte.2.2.1
    refine br_p q3 (h1 _ (nm_i ?_))
    rw [nI_1]
    exact hM V (hfr U V hU h2 h3) m (by omega))
  refine br_n ?_ (br_p h6 (br_n ?_ ?_))
  · rw [hT.2.1]; simp (disch := omega) only [nI_leI, nI_ltI, nI_eq]; omega
  · rw [hK.2.2.1]; simp (disch := omega) only [ln_0, ln_1, ln_2, ln_3, ln_4, ln_5, ln_6, ln_7, ln_8, ln_9, ln_10, ln_11, ln_12, ln_13, ln_14, ln_15, ln_16, ln_17, ln_18, ln_19, ln_20, ln_21, ln_22, ln_23, ln_24, ln_25, ln_26, ln_27, ln_28, ln_29, ln_30, ln_31, ln_32, ln_33, ln_34, ln_35, ln_36, ln_37, ln_38, ln_39, ln_40, ln_41, ln_42, ln_43, ln_44, ln_45, ln_46, ln_47, ln_48, ln_49, ln_50, ln_51, ln_52, ln_53, ln_54, ln_55, ln_56, ln_57, ln_58, ln_59, ln_60, ln_61, ln_62, ln_91, ln_93, ln_97, ln_122, ln_120, ln_123, ln_124, ln_255, ln_256, ln_300, ln_720, ln_1500, ln_12000, ln_18000, nI_leI, nI_ltI, nI_eq]; exact htk
  · unfold wpT at hw
    rw [h5]
    refine br_b (fun c => ?_) (fun c => br_b (fun c2 => ?_) (fun c2 => br_b (fun c3 => ?_) (fun c3 => ?_)))
    · simp (disch := omega) only [ln_0, ln_1, ln_2, ln_3, ln_4, ln_5, ln_6, ln_7, ln_8, ln_9, ln_10, ln_11, ln_12, ln_13, ln_14, ln_15, ln_16, ln_17, ln_18, ln_19, ln_20, ln_21, ln_22, ln_23, ln_24, ln_25, ln_26, ln_27, ln_28, ln_29, ln_30, ln_31, ln_32, ln_33, ln_34, ln_35, ln_36, ln_37, ln_38, ln_39, ln_40, ln_41, ln_42, ln_43, ln_44, ln_45, ln_46, ln_47, ln_48, ln_49, ln_50, ln_51, ln_52, ln_53, ln_54, ln_55, ln_56, ln_57, ln_58, ln_59, ln_60, ln_61, ln_62, ln_91, ln_93, ln_97, ln_122, ln_120, ln_123, ln_124, ln_255, ln_256, ln_300, ln_720, ln_1500, ln_12000, ln_18000, nI_leI, nI_ltI, nI_eq] at c; rw [if_pos c] at hw; exact hw
    · simp (disch := omega) only [ln_0, ln_1, ln_2, ln_3, ln_4, ln_5, ln_6, ln_7, ln_8, ln_9, ln_10, ln_11, ln_12, ln_13, ln_14, ln_15, ln_16, ln_17, ln_18, ln_19, ln_20, ln_21, ln_22, ln_23, ln_24, ln_25, ln_26, ln_27, ln_28, ln_29, ln_30, ln_31, ln_32, ln_33, ln_34, ln_35, ln_36, ln_37, ln_38, ln_39, ln_40, ln_41, ln_42, ln_43, ln_44, ln_45, ln_46, ln_47, ln_48, ln_49, ln_50, ln_51, ln_52, ln_53, ln_54, ln_55, ln_56, ln_57, ln_58, ln_59, ln_60, ln_61, ln_62, ln_91, ln_93, ln_97, ln_122, ln_120, ln_123, ln_124, ln_255, ln_256, ln_300, ln_720, ln_1500, ln_12000, ln_18000, nI_leI, nI_ltI, nI_eq] at c c2; rw [if_neg c, if_pos c2] at hw; exact hw
    · simp (disch := omega) only [ln_0, ln_1, ln_2, ln_3, ln_4, ln_5, ln_6, ln_7, ln_8, ln_9, ln_10, ln_11, ln_12, ln_13, ln_14, ln_15, ln_16, ln_17, ln_18, ln_19, ln_20, ln_21, ln_22, ln_23, ln_24, ln_25, ln_26, ln_27, ln_28, ln_29, ln_30, ln_31, ln_32, ln_33, ln_34, ln_35, ln_36, ln_37, ln_38, ln_39, ln_40, ln_41, ln_42, ln_43, ln_44, ln_45, ln_46, ln_47, ln_48, ln_49, ln_50, ln_51, ln_52, ln_53, ln_54, ln_55, ln_56, ln_57, ln_58, ln_59, ln_60, ln_61, ln_62, ln_91, ln_93, ln_97, ln_122, ln_120, ln_123, ln_124, ln_255, ln_256, ln_300, ln_720, ln_1500, ln_12000, ln_18000, nI_leI, nI_ltI, nI_eq] at c c2 c3; rw [if_neg c, if_neg c2, if_pos c3] at hw; exact hw
    · simp (disch := omega) only [ln_0, ln_1, ln_2, ln_3, ln_4, ln_5, ln_6, ln_7, ln_8, ln_9, ln_10, ln_11, ln_12, ln_13, ln_14, ln_15, ln_16, ln_17, ln_18, ln_19, ln_20, ln_21, ln_22, ln_23, ln_24, ln_25, ln_26, ln_27, ln_28, ln_29, ln_30, ln_31, ln_32, ln_33, ln_34, ln_35, ln_36, ln_37, ln_38, ln_39, ln_40, ln_41, ln_42, ln_43, ln_44, ln_45, ln_46, ln_47, ln_48, ln_49, ln_50, ln_51, ln_52, ln_53, ln_54, ln_55, ln_56, ln_57, ln_58, ln_59, ln_60, ln_61, ln_62, ln_91, ln_93, ln_97, ln_122, ln_120, ln_123, ln_124, ln_255, ln_256, ln_300, ln_720, ln_1500, ln_12000, ln_18000, nI_leI, nI_ltI, nI_eq] at c c2 c3; rw [if_neg c, if_neg c2, if_neg c3] at hw; exact hw
/-- the body ends -/
theorem c_body {t : Nat → Nat} {n : Nat} {u0 u : St} {g : Nat → Nat → Nat} {L : Nat → List Nat} {d : Nat} {l : List (Nat × Nat)} {i la : Nat} {x : Nat} (h : RC t n u0 g L d [(0, x)] i 7 la u) (hd : d < 12) {P : St → Prop} (ky : tk t n i = 59 → ∀ U, BtC t n u0 (up g 2 d la) L (d + 1) i U → P U) (kn : tk t n i ≠ 59 → ∀ U, FlC n u0 (tp t n i) U → P U) : wp_X3_endExpression_35 u P := by
  have hh := h
  obtain ⟨hT, hK, hF, hC, ⟨h12, h1, h6, h5⟩, hla, hR, h2, h3, hS⟩ := h
  have hle := (tk_le (t := t) (n := n) (i := i)).1
  refine c_inner hh (by decide) (br_p rfl ⟨by rw [h1]; exact inN hd (by decide), nm_i (nm_i ?_)⟩)
  refine br_b (fun c => nm_i (ky ?_ _ ?_)) (fun c => nm_i (kn ?_ _ ?_))
  · have c : gI u 9 = 59 := c
    rw [hK.2.2.1] at c; simp (disch := omega) only [ln_0, ln_1, ln_2, ln_3, ln_4, ln_5, ln_6, ln_7, ln_8, ln_9, ln_10, ln_11, ln_12, ln_13, ln_14, ln_15, ln_16, ln_17, ln_18, ln_19, ln_20, ln_21, ln_22, ln_23, ln_24, ln_25, ln_26, ln_27, ln_28, ln_29, ln_30, ln_31, ln_32, ln_33, ln_34, ln_35, ln_36, ln_37, ln_38, ln_39, ln_40, ln_41, ln_42, ln_43, ln_44, ln_45, ln_46, ln_47, ln_48, ln_49, ln_50, ln_51, ln_52, ln_53, ln_54, ln_55, ln_56, ln_57, ln_58, ln_59, ln_60, ln_61, ln_62, ln_91, ln_93, ln_97, ln_122, ln_120, ln_123, ln_124, ln_255, ln_256, ln_300, ln_720, ln_1500, ln_12000, ln_18000, nI_leI, nI_ltI, nI_eq] at c; exact c
  · have e17 : ∀ j, gA (sI (sI (sA u 17 (ix (gI u 1)) (gI u 4)) 12 (gI (sA u 17 (ix (gI u 1)) (gI u 4)) 12 + 1)) 5 0) 17 j = if j = d then nI la else gA u 17 j := fun j => by
      show upd (gA u 17) (ix (gI u 1)) (gI u 4) j = _
      rw [h1, ixN (by omega), hla rfl, updE]
    refine ⟨hT, hK, ⟨hF.1, hF.2.1, hF.2.2.1, fun j hj => ?_⟩, ?_, ⟨?_, h6, rfl⟩, fun k hk => ?_⟩
    · rw [← hF.2.2.2 j hj]; simp only [gA_sI, gA_sA, if_neg (show j ≠ 17 by omega)]
    · refine ⟨fun k hk => ?_, fun p hp => ?_⟩
      · rw [up_f (by decide), up_f (by decide), up_f (by decide)]; exact hC.1 k hk
      · have hp : dm g (d + 1) p := by unfold dm at hp ⊢; rw [up_f (by decide)] at hp; exact hp
        rw [up_f (by decide), up_f (by decide), up_f (by decide), up_f (by decide)]; exact hC.2 p hp
    · show gI u 12 + 1 = _; rw [h12, nI_1]
    · rw [e17 k, up_i]
      by_cases hkd : k = d
      · rw [if_pos hkd, if_pos hkd]
      · rw [if_neg hkd, if_neg hkd]; exact hR.1 k (by omega)
  · have c : ¬ gI u 9 = 59 := c
    rw [hK.2.2.1] at c; simp (disch := omega) only [ln_0, ln_1, ln_2, ln_3, ln_4, ln_5, ln_6, ln_7, ln_8, ln_9, ln_10, ln_11, ln_12, ln_13, ln_14, ln_15, ln_16, ln_17, ln_18, ln_19, ln_20, ln_21, ln_22, ln_23, ln_24, ln_25, ln_26, ln_27, ln_28, ln_29, ln_30, ln_31, ln_32, ln_33, ln_34, ln_35, ln_36, ln_37, ln_38, ln_39, ln_40, ln_41, ln_42, ln_43, ln_44, ln_45, ln_46, ln_47, ln_48, ln_49, ln_50, ln_51, ln_52, ln_53, ln_54, ln_55, ln_56, ln_57, ln_58, ln_59, ln_60, ln_61, ln_62, ln_91, ln_93, ln_97, ln_122, ln_120, ln_123, ln_124, ln_255, ln_256, ln_300, ln_720, ln_1500, ln_12000, ln_18000, nI_leI, nI_ltI, nI_eq] at c; exact c
  · refine ⟨⟨hF.1, hF.2.1, hF.2.2.1, fun j hj => ?_⟩, hK.1, hT.2.1⟩
    rw [← hF.2.2.2 j hj]; simp only [gA_sI, gA_sA, if_neg (show j ≠ 17 by omega)]
theorem c_closeP {t : Nat → Nat} {n : Nat} {u0 u : St} {g : Nat → Nat → Nat} {L : Nat → List Nat} {d : Nat} {l : List (Nat × Nat)} {i la : Nat} {e : Nat × Nat} (h : RC t n u0 g L d (e :: l) i 7 la u) (he : e.1 = 1) (hl : l.length < 81) {P : St → Prop} (ky : tk t n i = 41 → ∀ U, RC t n u0 g L d l i 7 la U → P U) (kn : tk t n i ≠ 41 → ∀ U, FlC n u0 (tp t n i) U → P U) : wp_X3_endExpression_35 u P := by
  have hh := h
  obtain ⟨hT, hK, hF, hC, ⟨h12, h1, h6, h5⟩, hla, hR, h2, h3, hS⟩ := h
  have hle := (tk_le (t := t) (n := n) (i := i)).1
  have ec : cdE e = -2 := by unfold cdE; rw [if_neg (by omega), if_pos he]
  refine c_inner hh hl ?_
  rw [ec]
  refine br_n (by decide) (br_p rfl (nm_i (nm_i ?_)))
  refine br_b (fun c => nm_i (ky ?_ _ ?_)) (fun c => nm_i (kn ?_ _ ⟨hF, hK.1, hT.2.1⟩))
  · have c : gI u 9 = 41 := c
    rw [hK.2.2.1] at c; simp (disch := omega) only [ln_0, ln_1, ln_2, ln_3, ln_4, ln_5, ln_6, ln_7, ln_8, ln_9, ln_10, ln_11, ln_12, ln_13, ln_14, ln_15, ln_16, ln_17, ln_18, ln_19, ln_20, ln_21, ln_22, ln_23, ln_24, ln_25, ln_26, ln_27, ln_28, ln_29, ln_30, ln_31, ln_32, ln_33, ln_34, ln_35, ln_36, ln_37, ln_38, ln_39, ln_40, ln_41, ln_42, ln_43, ln_44, ln_45, ln_46, ln_47, ln_48, ln_49, ln_50, ln_51, ln_52, ln_53, ln_54, ln_55, ln_56, ln_57, ln_58, ln_59, ln_60, ln_61, ln_62, ln_91, ln_93, ln_97, ln_122, ln_120, ln_123, ln_124, ln_255, ln_256, ln_300, ln_720, ln_1500, ln_12000, ln_18000, nI_leI, nI_ltI, nI_eq] at c; exact c
  · refine ⟨hT, hK, hF, hC, ⟨h12, h1, h6, rfl⟩, fun _ => hla rfl, hR, ?_, ?_, hS.2⟩
    · show gI u 2 - 1 = _; rw [h2]; exact nI_pred _
    · show gI u 3 - 1 = _; rw [h3, paN_1 he]; exact nI_pred _
  · have c : ¬ gI u 9 = 41 := c
    rw [hK.2.2.1] at c; simp (disch := omega) only [ln_0, ln_1, ln_2, ln_3, ln_4, ln_5, ln_6, ln_7, ln_8, ln_9, ln_10, ln_11, ln_12, ln_13, ln_14, ln_15, ln_16, ln_17, ln_18, ln_19, ln_20, ln_21, ln_22, ln_23, ln_24, ln_25, ln_26, ln_27, ln_28, ln_29, ln_30, ln_31, ln_32, ln_33, ln_34, ln_35, ln_36, ln_37, ln_38, ln_39, ln_40, ln_41, ln_42, ln_43, ln_44, ln_45, ln_46, ln_47, ln_48, ln_49, ln_50, ln_51, ln_52, ln_53, ln_54, ln_55, ln_56, ln_57, ln_58, ln_59, ln_60, ln_61, ln_62, ln_91, ln_93, ln_97, ln_122, ln_120, ln_123, ln_124, ln_255, ln_256, ln_300, ln_720, ln_1500, ln_12000, ln_18000, nI_leI, nI_ltI, nI_eq] at c; exact c
/-- to a part's own way -/
theorem c_in {t : Nat → Nat} {n : Nat} {u0 u : St} {g : Nat → Nat → Nat} {L : Nat → List Nat} {d : Nat} {l : List (Nat × Nat)} {i la : Nat} {e : Nat × Nat} (h : RC t n u0 g L d (e :: l) i 7 la u) (he : 2 ≤ e.1) (hd : d < 12) (hp : dm g (d + 1) e.2) (hl : l.length < 81) {P : St → Prop} (k : wp_X3_endExpressionIn u (nI e.2) P) : wp_X3_endExpression_35 u P := by
  have := dm_lt hp (by omega)
  refine c_inner h hl ?_
  rw [cdE_2 he]
  exact br_n (nI_m1 (by omega)) (br_n (by intro e; have : (-2 : Int32) < 0 := by decide
                                          rw [← e] at this; exact absurd this (by rw [show (0 : Int32) = nI 0 from rfl, nI_ltI (by omega) (by omega)]; omega)) k)
theorem c_word {u : St} {x : Nat} (hx : x < 720) {kd nc : Nat} (h18 : gA u 18 x = nI kd) (h20 : gA u 20 x = nI nc) (hkd : kd < 1000) (hnc : nc < 10000) {P : Int32 → St → Prop} (k : P (if kd = 6 then 8 else if kd = 5 then (if nc = 0 then 5 else 6) else -1) u) : wp_X3_wordBehind u (nI x) P := by
  have hin : vp_in (nI x) 720 := inN hx (by decide)
  refine ⟨hin, ?_⟩
  rw [ixN (by omega), h18]
  refine br_b (fun c => ?_) (fun c => ⟨hin, br_b (fun c2 => ⟨hin, ?_⟩) (fun c2 => ?_)⟩)
  · simp (disch := omega) only [ln_0, ln_1, ln_2, ln_3, ln_4, ln_5, ln_6, ln_7, ln_8, ln_9, ln_10, ln_11, ln_12, ln_13, ln_14, ln_15, ln_16, ln_17, ln_18, ln_19, ln_20, ln_21, ln_22, ln_23, ln_24, ln_25, ln_26, ln_27, ln_28, ln_29, ln_30, ln_31, ln_32, ln_33, ln_34, ln_35, ln_36, ln_37, ln_38, ln_39, ln_40, ln_41, ln_42, ln_43, ln_44, ln_45, ln_46, ln_47, ln_48, ln_49, ln_50, ln_51, ln_52, ln_53, ln_54, ln_55, ln_56, ln_57, ln_58, ln_59, ln_60, ln_61, ln_62, ln_91, ln_93, ln_97, ln_122, ln_120, ln_123, ln_124, ln_255, ln_256, ln_300, ln_720, ln_1500, ln_12000, ln_18000, nI_leI, nI_ltI, nI_eq] at c; rw [if_pos c] at k; exact k
  · simp (disch := omega) only [ln_0, ln_1, ln_2, ln_3, ln_4, ln_5, ln_6, ln_7, ln_8, ln_9, ln_10, ln_11, ln_12, ln_13, ln_14, ln_15, ln_16, ln_17, ln_18, ln_19, ln_20, ln_21, ln_22, ln_23, ln_24, ln_25, ln_26, ln_27, ln_28, ln_29, ln_30, ln_31, ln_32, ln_33, ln_34, ln_35, ln_36, ln_37, ln_38, ln_39, ln_40, ln_41, ln_42, ln_43, ln_44, ln_45, ln_46, ln_47, ln_48, ln_49, ln_50, ln_51, ln_52, ln_53, ln_54, ln_55, ln_56, ln_57, ln_58, ln_59, ln_60, ln_61, ln_62, ln_91, ln_93, ln_97, ln_122, ln_120, ln_123, ln_124, ln_255, ln_256, ln_300, ln_720, ln_1500, ln_12000, ln_18000, nI_leI, nI_ltI, nI_eq] at c c2
    rw [if_neg c, if_pos c2] at k
    rw [h20]
    refine br_b (fun c3 => ?_) (fun c3 => ?_)
    · simp (disch := omega) only [ln_0, ln_1, ln_2, ln_3, ln_4, ln_5, ln_6, ln_7, ln_8, ln_9, ln_10, ln_11, ln_12, ln_13, ln_14, ln_15, ln_16, ln_17, ln_18, ln_19, ln_20, ln_21, ln_22, ln_23, ln_24, ln_25, ln_26, ln_27, ln_28, ln_29, ln_30, ln_31, ln_32, ln_33, ln_34, ln_35, ln_36, ln_37, ln_38, ln_39, ln_40, ln_41, ln_42, ln_43, ln_44, ln_45, ln_46, ln_47, ln_48, ln_49, ln_50, ln_51, ln_52, ln_53, ln_54, ln_55, ln_56, ln_57, ln_58, ln_59, ln_60, ln_61, ln_62, ln_91, ln_93, ln_97, ln_122, ln_120, ln_123, ln_124, ln_255, ln_256, ln_300, ln_720, ln_1500, ln_12000, ln_18000, nI_leI, nI_ltI, nI_eq] at c3; rw [if_pos c3] at k; exact k
    · simp (disch := omega) only [ln_0, ln_1, ln_2, ln_3, ln_4, ln_5, ln_6, ln_7, ln_8, ln_9, ln_10, ln_11, ln_12, ln_13, ln_14, ln_15, ln_16, ln_17, ln_18, ln_19, ln_20, ln_21, ln_22, ln_23, ln_24, ln_25, ln_26, ln_27, ln_28, ln_29, ln_30, ln_31, ln_32, ln_33, ln_34, ln_35, ln_36, ln_37, ln_38, ln_39, ln_40, ln_41, ln_42, ln_43, ln_44, ln_45, ln_46, ln_47, ln_48, ln_49, ln_50, ln_51, ln_52, ln_53, ln_54, ln_55, ln_56, ln_57, ln_58, ln_59, ln_60, ln_61, ln_62, ln_91, ln_93, ln_97, ln_122, ln_120, ln_123, ln_124, ln_255, ln_256, ln_300, ln_720, ln_1500, ln_12000, ln_18000, nI_leI, nI_ltI, nI_eq] at c3; rw [if_neg c3] at k; exact k
  · simp (disch := omega) only [ln_0, ln_1, ln_2, ln_3, ln_4, ln_5, ln_6, ln_7, ln_8, ln_9, ln_10, ln_11, ln_12, ln_13, ln_14, ln_15, ln_16, ln_17, ln_18, ln_19, ln_20, ln_21, ln_22, ln_23, ln_24, ln_25, ln_26, ln_27, ln_28, ln_29, ln_30, ln_31, ln_32, ln_33, ln_34, ln_35, ln_36, ln_37, ln_38, ln_39, ln_40, ln_41, ln_42, ln_43, ln_44, ln_45, ln_46, ln_47, ln_48, ln_49, ln_50, ln_51, ln_52, ln_53, ln_54, ln_55, ln_56, ln_57, ln_58, ln_59, ln_60, ln_61, ln_62, ln_91, ln_93, ln_97, ln_122, ln_120, ln_123, ln_124, ln_255, ln_256, ln_300, ln_720, ln_1500, ln_12000, ln_18000, nI_leI, nI_ltI, nI_eq] at c c2; rw [if_neg c, if_neg c2] at k; exact k
