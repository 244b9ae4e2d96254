/-! 70.contM2: the reference at an expression's end -/
theorem w_is {t : Nat → Nat} {n i : Nat} {v : St} (hK : TkM v t n i) {w : Nat} (hw : 4 ≤ w ∧ w ≤ 9) : (tk t n i = w → gI v 6 = 3 ∧ gI v 7 = nI (w - 3)) ∧ (tk t n i ≠ w → gI v 6 = 3 → gI v 7 ≠ nI (w - 3)) := by
  refine ⟨fun h => ?_, fun h h6 h7 => ?_⟩
  · have := mt_word hK (by omega); rw [h] at this; exact this
  · have hm := mt_le (tk t n i)
    rw [hK.2.2.1] at h6
    simp (disch := omega) only [ln_0, ln_1, ln_2, ln_3, ln_4, ln_5, ln_6, ln_7, ln_8, ln_9, ln_10, ln_11, ln_12, ln_13, ln_14, ln_15, ln_16, ln_17, ln_18, ln_19, ln_20, ln_21, ln_22, ln_23, ln_24, ln_25, ln_26, ln_27, ln_28, ln_29, ln_30, ln_31, ln_32, ln_33, ln_34, ln_35, ln_36, ln_37, ln_38, ln_39, ln_40, ln_41, ln_42, ln_43, ln_44, ln_45, ln_46, ln_47, ln_48, ln_49, ln_50, ln_51, ln_52, ln_53, ln_54, ln_55, ln_56, ln_57, ln_58, ln_59, ln_60, ln_61, ln_62, ln_91, ln_93, ln_97, ln_122, ln_120, ln_123, ln_124, ln_255, ln_256, ln_300, ln_720, ln_1500, ln_12000, ln_18000, nI_leI, nI_ltI, nI_eq] at h6
    have h49 : 4 ≤ tk t n i ∧ tk t n i ≤ 9 := by
      unfold mt at h6
      by_cases c1 : 4 ≤ tk t n i ∧ tk t n i ≤ 9
      · exact c1
      · repeat' split at h6
        all_goals omega
    rw [(mt_word hK h49).2] at h7
    rw [nI_eq (by omega) (by omega)] at h7
    omega
theorem bX0_1 {e : Nat × Nat} {l : List (Nat × Nat)} (h : e.1 = 1) : bX (e :: l) 0 = (17, 0) :: bX l 3 := by show xE e _ _ = _; unfold xE; rw [if_neg (by omega), if_pos h]
theorem bX0_6 {e : Nat × Nat} {l : List (Nat × Nat)} (h : 2 ≤ e.1 ∧ e.1 ≤ 6) : bX (e :: l) 0 = (e.1, e.2) :: bX l 0 := by show xE e _ _ = _; unfold xE; rw [if_neg (by omega), if_neg (by omega), if_pos (by omega)]
theorem bX0_7 {e : Nat × Nat} {l : List (Nat × Nat)} (h : e.1 = 7) : bX (e :: l) 0 = (22, e.2) :: bX l 3 := by show xE e _ _ = _; unfold xE; rw [if_neg (by omega), if_neg (by omega), if_neg (by omega), if_pos h]
theorem bX0_8 {e : Nat × Nat} {l : List (Nat × Nat)} (h : e.1 = 8) : bX (e :: l) 0 = (20, e.2) :: bX l 3 := by show xE e _ _ = _; unfold xE; rw [if_neg (by omega), if_neg (by omega), if_neg (by omega), if_neg (by omega), if_pos h]
theorem bX0_9 {e : Nat × Nat} {l : List (Nat × Nat)} (h : e.1 = 9) : bX (e :: l) 0 = (21, e.2) :: bX l 3 := by show xE e _ _ = _; unfold xE; rw [if_neg (by omega), if_neg (by omega), if_neg (by omega), if_neg (by omega), if_neg (by omega), if_pos h]
theorem bX0_10 {e : Nat × Nat} {l : List (Nat × Nat)} (h : e.1 = 10) : bX (e :: l) 0 = (19, e.2) :: bX l 3 := by show xE e _ _ = _; unfold xE; rw [if_neg (by omega), if_neg (by omega), if_neg (by omega), if_neg (by omega), if_neg (by omega), if_neg (by omega)]
/-- a parenthesis closes -/
theorem m_x1 {t : Nat → Nat} {n : Nat} {v0 : St} {b : Nat} {g : Nat → Nat → Nat} {L : Nat → List Nat} {d : Nat} {e : Nat × Nat} {l : List (Nat × Nat)} {ls : List (Nat × Nat)} {i la : Nat} {P R : St → Prop} (hG : GIv n g L d (e :: l) i) (he : e.1 = 1) (ky : tk t n i = 41 → ∀ V, RM t n v0 b g L d ((18, 0) :: bX l 3) [la] ls (paN l) (te t n i) V → R V) (kn : tk t n i ≠ 41 → ∀ V, FlM n v0 b (tp t n i) 1000 V → R V) (hr : RunM R P) : RunM (RM t n v0 b g L d (bX (e :: l) 0) [la] ls (paN (e :: l)) i) P := by
  have hl81 := (GI_len hG).1
  simp only [List.length_cons] at hl81
  have hb3 := bX_len l 3
  have hi := hG.2.1
  rw [bX0_1 he, paN_1 he]
  refine m_pop (by omega) (fun v x K _ h k => to_rest (by decide) (by decide) (br_n (by decide) (br_n (by decide) (br_p rfl (br_p rfl (m_isSign h hi (c := 41) (by decide) rfl ?_)))))) hr
  refine m_need h (decide (tk t n i = 41)) rfl (D := 1000) ⟨by omega, by simp⟩ (fun hc Y hY => ?_) (fun hc Y hY => br_p hY.2.1 (k Y (kn (of_decide_eq_false hc) Y hY)))
  refine br_n (by rw [hY.2.2.2.2.1.2.2.2.1]; decide) (m_go hY hi (fun Z hZ => br_n (by decide) (nm_i ?_)))
  exact m_later (hZ.brk (x := paN l) (by rw [hZ.2.2.2.2.1.2.2.2.2]; exact nI_pred _)) (w := 18) rfl (p := 0) (fun h => by cases h) (by omega) (fun A hA => k A (ky (of_decide_eq_true hc) A hA))
/-- an index ends -/
theorem m_x10 {t : Nat → Nat} {n : Nat} {v0 : St} {b : Nat} {g : Nat → Nat → Nat} {L : Nat → List Nat} {d : Nat} {e : Nat × Nat} {l : List (Nat × Nat)} {ls : List (Nat × Nat)} {bk i la : Nat} {P R : St → Prop} (hG : GIv n g L d (e :: l) i) (hb : b ≤ 1) (he : e.1 = 10) (ky : tk t n i = 93 → ∀ V, RM t n v0 b g (upL L e.2 (L e.2 ++ [la])) d ((18, 0) :: bX l 3) [e.2] ls bk (te t n i) V → R V) (kn : tk t n i ≠ 93 → ∀ V, FlM n v0 b (tp t n i) 1000 V → R V) (hr : RunM R P) : RunM (RM t n v0 b g L d (bX (e :: l) 0) [la] ls bk i) P := by
  have hl81 := (GI_len hG).1
  simp only [List.length_cons] at hl81
  have hb3 := bX_len l 3
  have hi := hG.2.1
  obtain ⟨t1, t2, t3, t4, t5, t6⟩ := GI_top hG (by omega)
  have ht := tgi10 t2 he
  rw [bX0_10 he]
  refine m_pop (by omega) (fun v x K hx h k => to_rest (by decide) (by decide) (br_n (by decide) (br_n (by decide) (br_n (by decide) (br_p rfl (br_n (by decide) (m_isSign h hi (c := 93) (by decide) rfl ?_))))))) hr
  refine m_need h (decide (tk t n i = 93)) rfl (D := 1000) ⟨by omega, by simp⟩ (fun hc Y hY => ?_) (fun hc Y hY => br_p hY.2.1 (k Y (kn (of_decide_eq_false hc) Y hY)))
  refine br_n (by rw [hY.2.2.2.2.1.2.2.2.1]; decide) (m_go hY hi (fun Z hZ => br_p rfl ?_))
  exact m_second hZ hb hG.1 t1 (by omega) (by omega) (by omega) ht.2 (hx rfl) (fun A hA => m_later hA (w := 18) rfl (p := 0) (fun h => by cases h) (by omega) (fun B hB => k B (ky (of_decide_eq_true hc) B hB)))
/-- then, else -/
theorem m_x23 {t : Nat → Nat} {n : Nat} {v0 : St} {b : Nat} {g : Nat → Nat → Nat} {L : Nat → List Nat} {d : Nat} {e : Nat × Nat} {l : List (Nat × Nat)} {ls : List (Nat × Nat)} {bk i la : Nat} {P R : St → Prop} (hG : GIv n g L d (e :: l) i) (hb : b ≤ 1) (he : e.1 = 2 ∨ e.1 = 3) (ky : tk t n i = e.1 + 3 → ∀ V, RM t n v0 b g (upL L e.2 (L e.2 ++ [la])) d ((1, 0) :: (e.1 + 1, e.2) :: bX l 0) [] ls bk (te t n i) V → R V) (kn : tk t n i ≠ e.1 + 3 → ∀ V, FlM n v0 b (tp t n i) 1000 V → R V) (hr : RunM R P) : RunM (RM t n v0 b g L d (bX (e :: l) 0) [la] ls bk i) P := by
  have hl81 := (GI_len hG).1
  simp only [List.length_cons] at hl81
  have hb0 := bX_len l 0
  have hi := hG.2.1
  have hd := hG.1
  obtain ⟨t1, t2, t3, t4, t5, t6⟩ := GI_top hG (by omega)
  have hp7 := dm_lt t1 (by omega)
  rw [bX0_6 (by omega)]
  refine m_pop (by omega) (fun v x K hx h k => ?_) hr
  have hx := hx (by rcases he with e | e <;> rw [e] <;> rfl)
  subst hx
  have fin : ∀ c : Bool, (c = true → tk t n i = e.1 + 3) → (c = false → tk t n i ≠ e.1 + 3) → wp_X7_step_53 v (nI e.1) (nI (720 * b + e.2)) (b2i c) K := fun c c1 c2 => by
    refine m_need h c rfl (D := 1000) ⟨by omega, by simp⟩ (fun hc Y hY => ?_) (fun hc Y hY => br_p hY.2.1 (k Y (kn (c2 hc) Y hY)))
    refine br_n (by rw [hY.2.2.2.2.1.2.2.2.1]; decide) (m_go hY hi (fun Z hZ => ?_))
    have f95 : ∀ A, RM t n v0 b g (upL L e.2 (L e.2 ++ [la])) d (bX l 0) [] ls bk (te t n i) A → wp_X7_step_95 A (nI e.1) (nI (720 * b + e.2)) K := fun A hA =>
      m_later hA (w := e.1 + 1) (nI_1 _) (p := e.2) (fun _ => rfl) (by omega) (fun B hB => m_later hB (w := 1) rfl (p := 0) (fun h => by cases h) (by simp only [List.length_cons]; omega) (fun C hC => k C (ky (c1 hc) C hC)))
    rcases he with he | he
    · have ht := tgi2 t2 he
      refine br_p (by rw [he]; rfl) (m_got hZ (by decide) (fun A hA => ⟨inN (by omega) (by decide), nm_i ?_⟩))
      rw [ixN (by omega)]
      exact f95 _ (RM_set1 hA hd t1 (noSame hG (Or.inl (by omega))) (by omega) (by omega) (List.length_eq_zero_iff.mp ht.2) (fun h8 => by omega))
    · have ht := tgi3 t2 he
      refine br_n (by rw [he]; decide) (m_got hZ (by decide) (fun A hA => ⟨inN (by omega) (by decide), nm_i ?_⟩))
      rw [ixN (by omega)]
      exact f95 _ (RM_set2 hA hd t1 (by omega) (by omega) (by omega) ht.2)
  obtain ⟨w1, w2⟩ := w_is h.2.1 (w := e.1 + 3) (by omega)
  have f22 : wp_X7_step_22 v (nI e.1) (nI (720 * b + e.2)) K := by
    by_cases c : tk t n i = e.1 + 3
    · obtain ⟨q1, q2⟩ := w1 c
      refine br_p q1 ?_
      rcases he with he | he
      · rw [he] at q2; exact br_p (by rw [he]; rfl) (br_p q2 (fin true (fun _ => c) (fun h => by cases h)))
      · rw [he] at q2; exact br_n (by rw [he]; decide) (br_p q2 (fin true (fun _ => c) (fun h => by cases h)))
    · have f52 : wp_X7_step_52 v (nI e.1) (nI (720 * b + e.2)) K := fin false (fun h => by cases h) (fun _ => c)
      refine br_b (fun q1 => ?_) (fun _ => f52)
      have q2 := w2 c q1
      rcases he with he | he
      · rw [he] at q2; exact br_p (by rw [he]; rfl) (br_n q2 f52)
      · rw [he] at q2; exact br_n (by rw [he]; decide) (br_n q2 f52)
  rcases he with he | he
  · exact br_n (by rw [he]; decide) (br_p (by rw [he]; rfl) f22)
  · exact br_n (by rw [he]; decide) (br_n (by rw [he]; decide) (br_p (by rw [he]; rfl) f22))
/-- in -/
theorem sameNE {n : Nat} {g : Nat → Nat → Nat} {L : Nat → List Nat} {d : Nat} {l : List (Nat × Nat)} {i p : Nat} (h : GIv n g L d l i) : ∀ q, dm g (d + 1) q → g 5 q = 3 → g 6 q = p → L p ≠ [] := fun q hq h3 he => by
  obtain ⟨c1, c2, c3, c4⟩ := (h.2.2.2.2.1.1 q hq).2.2.2.2 h3
  rw [he] at c3 c4; exact c4
theorem RM_let {t : Nat → Nat} {n : Nat} {v0 v : St} {b : Nat} {g : Nat → Nat → Nat} {L : Nat → List Nat} {d : Nat} {T : List (Nat × Nat)} {vs : List Nat} {ls : List (Nat × Nat)} {bk i : Nat} {a c : Nat} (h : RM t n v0 b g L d T vs ls bk i v) {x : Int64} {y z : Int32} (hx : x = lN (mN a)) (hy : y = nI (720 * b + c)) (hz : z = nI (ls.length + 1)) : RM t n v0 b g L d T vs ((a, c) :: ls) bk i (sI (sA (sB v 17 ls.length x) 18 ls.length y) 8 z) := by
  subst hx hy hz
  obtain ⟨hT, hK, hF, hM, hN, hR, hSt, hV, hL⟩ := h
  refine ⟨hT, hK, hF.a (k := 18) (by omega), hM, hN, hR, hSt, hV, rfl, ?_⟩
  show LSt b (vp_updL (gB v 17) ls.length (lN (mN a))) (upd (gA v 18) ls.length (nI (720 * b + c))) ((a, c) :: ls)
  exact ⟨by rw [updLE, if_pos rfl], by rw [updE, if_pos rfl], LS_upd hL.2 (Nat.le_refl _)⟩
theorem m_x5 {t : Nat → Nat} {n : Nat} {v0 : St} {b : Nat} {g : Nat → Nat → Nat} {L : Nat → List Nat} {d : Nat} {e : Nat × Nat} {l : List (Nat × Nat)} {ls : List (Nat × Nat)} {bk i la : Nat} {P R : St → Prop} (hG : GIv n g L d (e :: l) i) (hb : b ≤ 1) (hls : ls.length ≤ 60) (he : e.1 = 5) (ky : tk t n i = 8 → ∀ V, RM t n v0 b g (upL L e.2 (L e.2 ++ [la])) d ((1, 0) :: (6, e.2) :: bX l 0) [] ((g 7 e.2, la) :: ls) bk (te t n i) V → R V) (kn : tk t n i ≠ 8 → ∀ V, FlM n v0 b (tp t n i) 1000 V → R V) (hr : RunM R P) : RunM (RM t n v0 b g L d (bX (e :: l) 0) [la] ls bk i) P := by
  have hl81 := (GI_len hG).1
  simp only [List.length_cons] at hl81
  have hb0 := bX_len l 0
  have hi := hG.2.1
  have hd := hG.1
  obtain ⟨t1, t2, t3, t4, t5, t6⟩ := GI_top hG (by omega)
  have ht := tgi5 t2 he
  have hp7 := dm_lt t1 (by omega)
  have hL0 : L e.2 = [] := List.length_eq_zero_iff.mp ht.2.1
  rw [bX0_6 (by omega), he]
  refine m_pop (by omega) (fun v x K hx h k => ?_) hr
  have hx := hx rfl
  subst hx
  have fin : ∀ c : Bool, (c = true → tk t n i = 8) → (c = false → tk t n i ≠ 8) → wp_X7_step_162 v (nI (720 * b + e.2)) (b2i c) K := fun c c1 c2 => by
    refine m_need h c rfl (D := 1000) ⟨by omega, by simp⟩ (fun hc Y hY => ?_) (fun hc Y hY => br_p hY.2.1 (k Y (kn (c2 hc) Y hY)))
    refine br_n (by rw [hY.2.2.2.2.1.2.2.2.1]; decide) (m_go hY hi (fun Z hZ => ?_))
    refine m_got hZ (by decide) (fun A hA => ⟨inN (by omega) (by decide), nm_i ?_⟩)
    rw [ixN (by omega)]
    have hA2 := RM_set1 (c := la) hA hd t1 (sameNE hG) (by omega) (by omega) hL0 (fun h8 => by omega)
    generalize hW : sA A 7 (720 * b + e.2) (nI (720 * b + la)) = W at hA2 ⊢
    have h8 : gI W 8 = nI ls.length := hA2.2.2.2.2.2.2.2.2.1
    have hin8 : vp_in (nI ls.length) 61 := inN (by omega) (by decide)
    have hin : vp_in (nI (720 * b + e.2)) 1440 := inN (by omega) (by decide)
    have hM := hA2.2.2.2.1.2 e.2 t1
    have hm1 : gB W 19 (720 * b + e.2) = lN (mN (g 7 e.2)) := (hM.2.2.2.2.2.2.2.2.2 ht.2.2).1
    have hm2 : gA W 7 (720 * b + e.2) = nI (720 * b + la) := by
      have := hM.2.1 (by omega) (by omega) (by rw [upL_s, List.length_append]; simp)
      rw [upL_s, hL0] at this; exact this
    refine ⟨hin, by rw [h8]; exact hin8, nm_i ⟨hin, by show vp_in (gI W 8) 61; rw [h8]; exact hin8, nm_i (nm_i ?_)⟩⟩
    rw [h8, ixN (by omega)]
    have hfin := RM_let (a := g 7 e.2) (c := la) hA2 hm1 hm2 (nI_1 ls.length)
    have e8 : gI (sA (sB W 17 ls.length (gB W 19 (720 * b + e.2))) 18 (ix (gI (sB W 17 ls.length (gB W 19 (720 * b + e.2))) 8)) (gA (sB W 17 ls.length (gB W 19 (720 * b + e.2))) 7 (720 * b + e.2))) 8 + 1 = nI ls.length + 1 := by
      show gI W 8 + 1 = _; rw [h8]
    have e18 : ix (gI (sB W 17 ls.length (gB W 19 (720 * b + e.2))) 8) = ls.length := by
      show ix (gI W 8) = _; rw [h8, ixN (by omega)]
    rw [e8, e18]
    exact m_later hfin (w := 6) rfl (p := e.2) (fun _ => rfl) (by omega) (fun B hB => m_later hB (w := 1) rfl (p := 0) (fun h => by cases h) (by simp only [List.length_cons]; omega) (fun C hC => k C (ky (c1 hc) C hC)))
  obtain ⟨w1, w2⟩ := w_is h.2.1 (w := 8) (by omega)
  refine br_n (by decide) (br_n (by decide) (br_n (by decide) (br_n (by decide) (br_p rfl ?_))))
  by_cases c : tk t n i = 8
  · obtain ⟨q1, q2⟩ := w1 c
    exact br_p q1 (br_p q2 (fin true (fun _ => c) (fun h => by cases h)))
  · have f52 : wp_X7_step_161 v (nI (720 * b + e.2)) K := fin false (fun h => by cases h) (fun _ => c)
    exact br_b (fun q1 => br_n (w2 c q1) f52) (fun _ => f52)
/-- behind an argument -/
theorem m_closed {t : Nat → Nat} {n : Nat} {v0 v : St} {b : Nat} {g : Nat → Nat → Nat} {L : Nat → List Nat} {d : Nat} {T : List (Nat × Nat)} {ls : List (Nat × Nat)} {bk i : Nat} {p w : Nat} (h : RM t n v0 b g L d T [] ls bk i v) (hi : i ≤ n) (hl : T.length ≤ 400) (hw : hasP w = true) {x1 x2 : Int32} (e1 : x1 = nI (720 * b + p)) (e2 : x2 = nI w) {K : St → Prop} (k44 : tk t n i = 44 → ∀ V, RM t n v0 b g L d ((1, 0) :: (w, p) :: T) [] ls bk (te t n i) V → K V) (k41 : tk t n i = 41 → ∀ V, RM t n v0 b g L d ((18, 0) :: T) [p] ls bk (te t n i) V → K V) (kn : tk t n i ≠ 44 → tk t n i ≠ 41 → ∀ V, FlM n v0 b (tp t n i) 1000 V → K V) : wp_X7_closed v x1 x2 K := by
  subst e1 e2
  unfold wp_X7_closed wp_X7_take
  refine m_isSign h hi (c := 44) (by decide) rfl ?_
  by_cases c : tk t n i = 44
  · rw [decide_eq_true c]
    refine br_n (by decide) (m_go h hi (fun V hV => ⟨bz1, br_n (by decide) ?_⟩))
    exact m_later hV rfl (p := p) (fun _ => rfl) (by omega) (fun A hA => m_later hA (w := 1) rfl (p := 0) (fun h => by cases h) (by simp only [List.length_cons]; omega) (fun B hB => k44 c B hB))
  · rw [decide_eq_false c]
    refine br_p rfl ⟨bz0, br_p rfl (m_isSign h hi (c := 41) (by decide) rfl ?_)⟩
    refine m_need h (decide (tk t n i = 41)) rfl (D := 1000) ⟨by omega, by simp⟩ (fun hc Y hY => ?_) (fun hc Y hY => br_p hY.2.1 (kn c (of_decide_eq_false hc) Y hY))
    refine br_n (by rw [hY.2.2.2.2.1.2.2.2.1]; decide) (m_go hY hi (fun Z hZ => m_give hZ rfl (by decide) (fun A hA => ?_)))
    exact m_later hA (w := 18) rfl (p := 0) (fun h => by cases h) (by omega) (fun B hB => k41 (of_decide_eq_true hc) B hB)
theorem m_x79 {t : Nat → Nat} {n : Nat} {v0 : St} {b : Nat} {g : Nat → Nat → Nat} {L : Nat → List Nat} {d : Nat} {e : Nat × Nat} {l : List (Nat × Nat)} {ls : List (Nat × Nat)} {bk i la : Nat} {P R : St → Prop} (hG : GIv n g L d (e :: l) i) (hla : LaO g L d (e :: l) la) (hb : b ≤ 1) (he : e.1 = 7 ∨ e.1 = 9) (k44 : tk t n i = 44 → ∀ V, RM t n v0 b g (upL L e.2 (L e.2 ++ [la])) d ((1, 0) :: bX (e :: l) 0) [] ls bk (te t n i) V → R V) (k41 : tk t n i = 41 → ∀ V, RM t n v0 b g (upL L e.2 (L e.2 ++ [la])) d ((18, 0) :: bX l 3) [e.2] ls bk (te t n i) V → R V) (kn : tk t n i ≠ 44 → tk t n i ≠ 41 → ∀ V, FlM n v0 b (tp t n i) 1000 V → R V) (hr : RunM R P) : RunM (RM t n v0 b g L d (bX (e :: l) 0) [la] ls bk i) P := by
  have hl81 := (GI_len hG).1
  simp only [List.length_cons] at hl81
  have hb3 := bX_len l 3
  have hi := hG.2.1
  have hd := hG.1
  obtain ⟨t1, t2, t3, t4, t5, t6⟩ := GI_top hG (by omega)
  obtain ⟨b1, b2, b3, b4, b5⟩ := hG.2.2.2.2.1.1 e.2 t1
  have h78 : g 5 e.2 = 7 ∨ (g 5 e.2 = 8 ∧ 1 ≤ (L e.2).length ∧ g 7 e.2 ≠ 0) := by
    rcases he with he | he
    · exact Or.inl (tgi7 t2 he).1
    · have := tgi9 t2 he; exact Or.inr ⟨this.1, this.2.1, this.2.2.1⟩
  have key : ∀ {v : St} {x y : Int32} {K : St → Prop} {w : Nat}, hasP w = true → bX (e :: l) 0 = (w, e.2) :: bX l 3 → x = nI (720 * b + e.2) → y = nI w → RM t n v0 b g L d (bX l 3) [la] ls bk i v → (∀ V, R V → K V) → wp_X7_listed v x y K := fun {v x y K w} hw hX hx hy h k => by
    refine m_got h (by decide) (fun V hV => ?_)
    refine m_arg hV hb hd t1 hla.1.1 (fun x hx => (b1 x hx).1) h78 (sameNE hG) hla.1.2.2.1 b2 (fun q hq hqe x hx hx2 => hqe (hG.2.2.2.2.1.2 q e.2 hq t1 x hx hx2)) hx rfl (fun W hW => ?_)
    exact m_closed hW hi (by omega) hw hx hy (fun c A hA => k A (k44 c A (by rw [hX]; exact hA))) (fun c A hA => k A (k41 c A hA)) (fun c c2 A hA => k A (kn c c2 A hA))
  rcases he with he | he
  · have hX := bX0_7 (l := l) he
    have key := @key
    rw [hX] at key ⊢
    refine m_pop (by omega) (fun v x K hx h k => to_rest (by decide) (by decide) (br_n (by decide) (br_n (by decide) (br_n (by decide) (br_n (by decide) (br_n (by decide) (br_n (by decide) ?_))))))) hr
    exact key rfl rfl (hx rfl) rfl h k
  · have hX := bX0_9 (l := l) he
    have key := @key
    rw [hX] at key ⊢
    refine m_pop (by omega) (fun v x K hx h k => to_rest (by decide) (by decide) (br_n (by decide) (br_n (by decide) (br_n (by decide) (br_n (by decide) (br_n (by decide) (br_n (by decide) ?_))))))) hr
    exact key rfl rfl (hx rfl) rfl h k
/-- make's name -/
theorem m_x8 {t : Nat → Nat} {n : Nat} {v0 : St} {b : Nat} {g : Nat → Nat → Nat} {L : Nat → List Nat} {d : Nat} {e : Nat × Nat} {l : List (Nat × Nat)} {ls : List (Nat × Nat)} {bk i i1 i2 la : Nat} {P R : St → Prop} (hG : GIv n g L d (e :: l) i) (hb : b ≤ 1) (he : e.1 = 8) (hi1 : i1 = te t n i) (hi2 : i2 = te t n i1)
    (k0 : tk t n i ≠ 44 → ∀ V, FlM n v0 b (tp t n i) 1000 V → R V) (k1 : tk t n i = 44 → tk t n i1 ≠ 2 → ∀ V, FlM n v0 b (tp t n i1) 1000 V → R V)
    (k44 : tk t n i = 44 → tk t n i1 = 2 → tk t n i2 = 44 → ∀ V, RM t n v0 b (up (up g 7 e.2 (nmT t n i1)) 8 e.2 (tp t n i1)) (upL L e.2 (L e.2 ++ [la])) d ((1, 0) :: (21, e.2) :: bX l 3) [] ls bk (te t n i2) V → R V)
    (k41 : tk t n i = 44 → tk t n i1 = 2 → tk t n i2 = 41 → ∀ V, RM t n v0 b (up (up g 7 e.2 (nmT t n i1)) 8 e.2 (tp t n i1)) (upL L e.2 (L e.2 ++ [la])) d ((18, 0) :: bX l 3) [e.2] ls bk (te t n i2) V → R V)
    (kn : tk t n i = 44 → tk t n i1 = 2 → tk t n i2 ≠ 44 → tk t n i2 ≠ 41 → ∀ V, FlM n v0 b (tp t n i2) 1000 V → R V) (hr : RunM R P) : RunM (RM t n v0 b g L d (bX (e :: l) 0) [la] ls bk i) P := by
  have hl81 := (GI_len hG).1
  simp only [List.length_cons] at hl81
  have hb3 := bX_len l 3
  have hi := hG.2.1
  have hd := hG.1
  have hte := tp_te (t := t) hi
  have hte1 := tp_te (t := t) (n := n) (i := i1) (by omega)
  obtain ⟨t1, t2, t3, t4, t5, t6⟩ := GI_top hG (by omega)
  have hp7 := dm_lt t1 (by omega)
  have ht := tgi8 t2 he
  have hin : vp_in (nI (720 * b + e.2)) 1440 := inN (by omega) (by decide)
  have hL0 : L e.2 = [] := List.length_eq_zero_iff.mp ht.2.1
  rw [bX0_8 he]
  refine m_pop (by omega) (fun v x K hx h k => to_rest (by decide) (by decide) (br_n (by decide) (br_n (by decide) (br_n (by decide) (br_n (by decide) (br_n (by decide) (br_p rfl (m_isSign h hi (c := 44) (by decide) rfl ?_)))))))) hr
  have hx := hx rfl
  subst hx
  refine m_need h (decide (tk t n i = 44)) rfl (D := 1000) ⟨by omega, by simp⟩ (fun hc Y hY => ?_) (fun hc Y hY => br_p hY.2.1 (br_p hY.2.1 (k Y (k0 (of_decide_eq_false hc) Y hY))))
  have hc := of_decide_eq_true hc
  refine br_n (by rw [hY.2.2.2.2.1.2.2.2.1]; decide) (m_got hY (by decide) (fun A hA => ⟨hin, nm_i ?_⟩))
  rw [ixN (by omega)]
  have hA2 := RM_set1 (c := la) hA hd t1 (sameNE hG) (by omega) (by omega) hL0 (fun _ => ht.2.2)
  refine m_go hA2 hi (fun X hX => ?_)
  rw [← hi1] at hX
  have hm := mt_le (tk t n i1)
  have hX6 := hX.2.1.2.2.1
  have hmv : mt (tk t n i1) = 1 ↔ tk t n i1 = 2 := by unfold mt; repeat' split <;> try omega
  by_cases h2 : tk t n i1 = 2
  · refine br_p (by rw [hX6, hmv.mpr h2]; rfl) (m_need hX true rfl (D := 1000) ⟨by omega, by simp⟩ (fun _ Y hY => br_n (by rw [hY.2.2.2.2.1.2.2.2.1]; decide) ⟨hin, nm_i ?_⟩) (fun h => by cases h))
    rw [ixN (by omega)]
    have hY12 := RM_12 (x := gI Y 4) hY hd t1 ht.2.2
    refine m_nameOf hY12 (by omega) h2 ⟨hin, nm_i ⟨hin, nm_i ?_⟩⟩
    have hY13 := RM_13 (x := 2) hY12 hd t1 ht.1 ht.2.2
    have hY2 := RM_name (p := e.2) hY13 hd (fun q hq hqe => by
      subst hqe
      refine ⟨fun _ => ?_, fun _ => ?_⟩
      · show upd (gA Y 13) (720 * b + e.2) 2 (720 * b + e.2) = _
        rw [updE, if_pos rfl, upL_s, hL0]; rfl
      · show upd (gA Y 12) (720 * b + e.2) (gI Y 4) (720 * b + e.2) = _
        rw [updE, if_pos rfl]; exact hY.2.1.1)
    refine m_go hY2 (by omega) (fun Z hZ => ?_)
    rw [← hi2] at hZ
    exact m_closed hZ (by omega) (by omega) (w := 21) rfl rfl rfl (fun c A hA => k A (k44 hc h2 c A hA)) (fun c A hA => k A (k41 hc h2 c A hA)) (fun c c2 A hA => k A (kn hc h2 c c2 A hA))
  · refine br_n (by rw [hX6]; simp (disch := omega) only [ln_0, ln_1, ln_2, ln_3, ln_4, ln_5, ln_6, ln_7, ln_8, ln_9, ln_10, ln_11, ln_12, ln_13, ln_14, ln_15, ln_16, ln_17, ln_18, ln_19, ln_20, ln_21, ln_22, ln_23, ln_24, ln_25, ln_26, ln_27, ln_28, ln_29, ln_30, ln_31, ln_32, ln_33, ln_34, ln_35, ln_36, ln_37, ln_38, ln_39, ln_40, ln_41, ln_42, ln_43, ln_44, ln_45, ln_46, ln_47, ln_48, ln_49, ln_50, ln_51, ln_52, ln_53, ln_54, ln_55, ln_56, ln_57, ln_58, ln_59, ln_60, ln_61, ln_62, ln_91, ln_93, ln_97, ln_122, ln_120, ln_123, ln_124, ln_255, ln_256, ln_300, ln_720, ln_1500, ln_12000, ln_18000, nI_leI, nI_ltI, nI_eq]; exact fun h => h2 (hmv.mp h)) ?_
    exact m_need hX false rfl (D := 1000) ⟨by omega, by simp⟩ (fun h => by cases h) (fun _ Y hY => br_p hY.2.1 (k Y (k1 hc h2 Y hY)))
