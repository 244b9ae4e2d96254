/-! 65.begM3: names, make, if, let at a beginning, in the reference -/
theorem GI_lt {n : Nat} {g : Nat → Nat → Nat} {L : Nat → List Nat} {d : Nat} {l : List (Nat × Nat)} {i : Nat} (h : GIv n g L d l i) : ∀ x ∈ l, x.1 = 6 → NC (g 7 x.2) ∧ dm g (d + 1) x.2 := fun x hx h6 => by
  obtain ⟨c1, c2, c3, c4⟩ := StO_mem h.2.2.2.2.2.1 x hx (by omega)
  exact ⟨((h.2.2.2.2.1.1 _ c1).2.2.1 ((TgO_lv c4).2.2.2.2.2 h6)).1, c1⟩
/-- a name that is a variable -/
theorem m_vari {t : Nat → Nat} {n : Nat} {v0 : St} {b : Nat} {g : Nat → Nat → Nat} {L : Nat → List Nat} {d : Nat} {l : List (Nat × Nat)} {i : Nat} {P R : St → Prop} (hG : GIv n g L d l i) (hb : b ≤ 1) (ht : tk t n i = 2) (hp : parN t n (te t n i) = false) (hn : g 1 d < 60)
    (kl : ∀ p0, ltF g (nmT t n i) l = p0 + 1 → ∀ V, RM t n v0 b (addP g d 3 p0) (upL L (60 * d + g 1 d) []) d ((18, 0) :: bX l 3) [60 * d + g 1 d] (lsO g L l) (paN l) (te t n i) V → R V)
    (ka : ltF g (nmT t n i) l = 0 → fnd (g 4) (nmT t n i) (g 0 d) 0 < g 0 d → ∀ V, RM t n v0 b (addP g d 2 (fnd (g 4) (nmT t n i) (g 0 d) 0)) (upL L (60 * d + g 1 d) []) d ((18, 0) :: bX l 3) [60 * d + g 1 d] (lsO g L l) (paN l) (te t n i) V → R V)
    (kn : ltF g (nmT t n i) l = 0 → fnd (g 4) (nmT t n i) (g 0 d) 0 = g 0 d → ∀ V, FlM n v0 b (tp t n i) 1000 V → R V) (hr : RunM R P) : RunM (RM t n v0 b g L d (tB l) [] (lsO g L l) (paN l) i) P := by
  obtain ⟨hl81, hls, _, _⟩ := GI_len hG
  obtain ⟨a1, a2, a3, a4, a5, a6, a7, a8, a9⟩ := id hG
  have hb3 := bX_len l 3
  refine m_down (StO_ne a6) hl81 (fun _ => by omega) (m_factor (by omega) a2 (fun v K h k => ⟨fun h => by omega, fun h => by omega, fun h => by omega, fun h => by omega, fun _ => ?_, fun _ _ _ _ h => absurd ht h⟩) hr)
  refine m_need h true rfl (D := 900) ⟨by omega, by decide⟩ (fun _ V hV => br_n (by rw [hV.2.2.2.2.1.2.2.2.1]; decide) (m_named hV a2 (fun _ => ?_) (fun h => by rw [hp] at h; cases h))) (fun h => by cases h)
  have fin : ∀ {g' : Nat → Nat → Nat} {L' : Nat → List Nat} (V : St), RM t n v0 b g' L' d (bX l 3) [] (lsO g L l) (paN l) i V → (∀ W, RM t n v0 b g' L' d ((18, 0) :: bX l 3) [60 * d + g 1 d] (lsO g L l) (paN l) (te t n i) W → R W) → wp_X7_give V (nI (720 * b + (60 * d + g 1 d))) (fun (u26 : St) => br ((gI u26 13) = 0) (K u26) (wp_X7_go u26 (fun (u28 : St) => wp_X7_later u28 18 0 (fun (u29 : St) => K u29)))) := fun V hV hk =>
    m_give hV rfl (by decide) (fun W hW => br_n (by rw [hW.2.2.2.2.1.2.2.2.1]; decide) (m_go hW a2 (fun X hX => m_later hX rfl (p := 0) (fun h => by cases h) (by omega) (fun Y hY => k Y (hk Y hY)))))
  refine m_variable (ls := []) hV hb a1 a2 (by omega) (GI_kids hG) ht hls (GI_lt hG) (a3 d (Nat.le_refl _)).1 a4 (D := 900) ⟨by omega, by decide⟩ (fun _ p0 hp0 W hW => fin W hW (kl p0 hp0)) (fun _ h0 hf W hW => fin W hW (ka h0 hf)) (fun hor W hW => f_give hW (by decide) (fun X hX => br_p hX.2.1 (k X (kn ?_ ?_ X (hX.mo (by decide))))))
  · omega
  · omega
/-- a name that is called: behind its parenthesis -/
theorem m_call {t : Nat → Nat} {n : Nat} {v0 : St} {b : Nat} {g : Nat → Nat → Nat} {L : Nat → List Nat} {d : Nat} {l : List (Nat × Nat)} {i i2 : Nat} {P R : St → Prop} (hG : GIv n g L d l i) (hb : b ≤ 1) (ht : tk t n i = 2) (hp : parN t n (te t n i) = true) (hn : g 1 d < 60) (hi2 : i2 = te t n (te t n i))
    (ky : tk t n i2 = 41 → ∀ V, RM t n v0 b (up (up (addP g d 7 0) 7 (60 * d + g 1 d) (nmT t n i)) 8 (60 * d + g 1 d) (tp t n i)) (upL L (60 * d + g 1 d) []) d ((18, 0) :: bX l 3) [60 * d + g 1 d] (lsO g L l) (paN l) (te t n i2) V → R V)
    (kn : tk t n i2 ≠ 41 → ∀ V, RM t n v0 b (up (up (addP g d 7 0) 7 (60 * d + g 1 d) (nmT t n i)) 8 (60 * d + g 1 d) (tp t n i)) (upL L (60 * d + g 1 d) []) d (tB ((7, 60 * d + g 1 d) :: l)) [] (lsO g L l) (paN l) i2 V → R V) (hr : RunM R P) : RunM (RM t n v0 b g L d (tB l) [] (lsO g L l) (paN l) i) P := by
  obtain ⟨hl81, hls, _, _⟩ := GI_len hG
  obtain ⟨a1, a2, a3, a4, a5, a6, a7, a8, a9⟩ := id hG
  have hb3 := bX_len l 3
  have hte := tp_te (t := t) a2
  have hte2 := tp_te (t := t) hte.2.2.1
  refine m_down (StO_ne a6) hl81 (fun _ => by omega) (m_factor (by omega) a2 (fun v K h k => ⟨fun h => by omega, fun h => by omega, fun h => by omega, fun h => by omega, fun _ => ?_, fun _ _ _ _ h => absurd ht h⟩) hr)
  refine m_need h true rfl (D := 900) ⟨by omega, by decide⟩ (fun _ V hV => br_n (by rw [hV.2.2.2.2.1.2.2.2.1]; decide) (m_named hV a2 (fun h => by rw [hp] at h; cases h) (fun _ => ?_))) (fun h => by cases h)
  refine m_part hV hb a1 hn (GI_kids hG) (kd := 7) (nu := 0) (by decide) rfl rfl (fun W hW h12 => br_n (by rw [hW.2.2.2.2.1.2.2.2.1]; decide) (m_nameOf hW a2 ht ⟨inN (by omega) (by decide), nm_i ?_⟩))
  rw [ixN (by omega)]
  have hW2 := RM_name (p := 60 * d + g 1 d) hW a1 (fun q hq hqe => by
    subst hqe
    rw [addP_5, if_pos rfl]
    exact ⟨fun h => by omega, fun _ => h12⟩)
  refine m_go hW2 a2 (fun X hX => m_go hX hte.2.2.1 (fun Y hY => ?_))
  rw [← hi2] at hY
  refine m_isSign hY (by omega) (c := 41) (by decide) rfl ?_
  by_cases c : tk t n i2 = 41
  · rw [decide_eq_true c]
    refine br_n (by decide) (m_go hY (by omega) (fun Z hZ => ⟨bz1, br_n (by decide) ?_⟩))
    exact m_give hZ rfl (by decide) (fun A hA => m_later hA rfl (p := 0) (fun h => by cases h) (by omega) (fun B hB => k B (ky c B hB)))
  · rw [decide_eq_false c]
    refine br_p rfl ⟨bz0, br_p rfl ?_⟩
    exact m_later hY rfl (p := 60 * d + g 1 d) (fun _ => rfl) (by omega) (fun A hA => m_later hA rfl (p := 0) (fun h => by cases h) (by simp only [List.length_cons]; omega) (fun B hB => k B (kn c B hB)))
theorem m_make {t : Nat → Nat} {n : Nat} {v0 : St} {b : Nat} {g : Nat → Nat → Nat} {L : Nat → List Nat} {d : Nat} {l : List (Nat × Nat)} {i i1 : Nat} {P R : St → Prop} (hG : GIv n g L d l i) (hb : b ≤ 1) (ht : tk t n i = 9) (hn : g 1 d < 60) (hi1 : i1 = te t n i)
    (ky : tk t n i1 = 40 → ∀ V, RM t n v0 b (addP g d 8 0) (upL L (60 * d + g 1 d) []) d (tB ((8, 60 * d + g 1 d) :: l)) [] (lsO g L l) (paN l) (te t n i1) V → R V)
    (kn : tk t n i1 ≠ 40 → ∀ V, FlM n v0 b (tp t n i1) 1000 V → R V) (hr : RunM R P) : RunM (RM t n v0 b g L d (tB l) [] (lsO g L l) (paN l) i) P := by
  obtain ⟨hl81, hls, _, _⟩ := GI_len hG
  obtain ⟨a1, a2, a3, a4, a5, a6, a7, a8, a9⟩ := id hG
  have hb3 := bX_len l 3
  have hte := tp_te (t := t) a2
  refine m_down (StO_ne a6) hl81 (fun _ => by omega) (m_factor (by omega) a2 (fun v K h k => ⟨fun h => by omega, fun h => by omega, fun h => by omega, fun _ => ?_, fun h => by omega, fun _ _ _ h => absurd ht h⟩) hr)
  refine m_part h hb a1 hn (GI_kids hG) (kd := 8) (nu := 0) (by decide) rfl rfl (fun W hW h12 => m_go hW a2 (fun X hX => ?_))
  rw [← hi1] at hX
  refine m_isSign hX (by omega) (c := 40) (by decide) rfl ?_
  refine m_need hX (decide (tk t n i1 = 40)) rfl (D := 1000) ⟨by omega, by decide⟩ (fun hc Y hY => ?_) (fun hc Y hY => br_p hY.2.1 (k Y (kn (of_decide_eq_false hc) Y hY)))
  refine br_n (by rw [hY.2.2.2.2.1.2.2.2.1]; decide) (m_go hY (by omega) (fun Z hZ => ?_))
  exact m_later hZ rfl (p := 60 * d + g 1 d) (fun _ => rfl) (by omega) (fun A hA => m_later hA rfl (p := 0) (fun h => by cases h) (by simp only [List.length_cons]; omega) (fun B hB => k B (ky (of_decide_eq_true hc) B hB)))
theorem mt_word {t : Nat → Nat} {n i : Nat} {v : St} (hK : TkM v t n i) (h : 4 ≤ tk t n i ∧ tk t n i ≤ 9) : gI v 6 = 3 ∧ gI v 7 = nI (tk t n i - 3) := by
  refine ⟨?_, hK.2.2.2.1 h⟩
  rw [hK.2.2.1]
  have : mt (tk t n i) = 3 := by unfold mt; rw [if_neg (by omega), if_neg (by omega), if_neg (by omega), if_neg (by omega), if_pos (by omega)]
  rw [this]; rfl
theorem m_if {t : Nat → Nat} {n : Nat} {v0 : St} {b : Nat} {g : Nat → Nat → Nat} {L : Nat → List Nat} {d : Nat} {l : List (Nat × Nat)} {i : Nat} {P : St → Prop} (hG : GIv n g L d l i) (hb : b ≤ 1) (ht : tk t n i = 4) (h0 : lvT (hdT l) = 0) (hn : g 1 d < 60) (hr : RunM (RM t n v0 b (addP g d 5 0) (upL L (60 * d + g 1 d) []) d (tB ((2, 60 * d + g 1 d) :: l)) [] (lsO g L l) (paN l) (te t n i)) P) : RunM (RM t n v0 b g L d (tB l) [] (lsO g L l) (paN l) i) P := by
  have hl81 := (GI_len hG).1
  have hb0 := bX_len l 0
  unfold tB
  rw [if_pos h0]
  refine m_pop (by omega) (fun v x K _ h k => br_p rfl ?_) hr
  obtain ⟨h6, h7⟩ := mt_word h.2.1 (by omega)
  rw [ht] at h7
  exact br_p h6 (br_p h7 (m_begin2 h hb hG.1 hG.2.1 hn (GI_kids hG) (kd := 5) (w1 := 2) (w2 := 1) (by decide) (by omega) rfl rfl rfl rfl rfl (fun V hV => k V hV)))
theorem m_let {t : Nat → Nat} {n : Nat} {v0 : St} {b : Nat} {g : Nat → Nat → Nat} {L : Nat → List Nat} {d : Nat} {l : List (Nat × Nat)} {i i1 i2 : Nat} {P R : St → Prop} (hG : GIv n g L d l i) (hb : b ≤ 1) (ht : tk t n i = 7) (h0 : lvT (hdT l) = 0) (hn : g 1 d < 60) (hi1 : i1 = te t n i) (hi2 : i2 = te t n i1)
    (kn : tk t n i1 ≠ 2 → ∀ V, FlM n v0 b (tp t n i1) 1000 V → R V) (ke : tk t n i1 = 2 → tk t n i2 ≠ 61 → ∀ V, FlM n v0 b (tp t n i2) 1000 V → R V)
    (ky : tk t n i1 = 2 → tk t n i2 = 61 → ∀ V, RM t n v0 b (up (up (addP g d 6 0) 7 (60 * d + g 1 d) (nmT t n i1)) 8 (60 * d + g 1 d) (tp t n i1)) (upL L (60 * d + g 1 d) []) d (tB ((5, 60 * d + g 1 d) :: l)) [] (lsO g L l) (paN l) (te t n i2) V → R V) (hr : RunM R P) : RunM (RM t n v0 b g L d (tB l) [] (lsO g L l) (paN l) i) P := by
  obtain ⟨hl81, hls, _, _⟩ := GI_len hG
  obtain ⟨a1, a2, a3, a4, a5, a6, a7, a8, a9⟩ := id hG
  have hb0 := bX_len l 0
  have hte := tp_te (t := t) a2
  have hte1 := tp_te (t := t) (n := n) (i := i1) (by omega)
  unfold tB
  rw [if_pos h0]
  refine m_pop (by omega) (fun v x K _ h k => br_p rfl ?_) hr
  obtain ⟨h6, h7⟩ := mt_word h.2.1 (by omega)
  rw [ht] at h7
  refine br_p h6 (br_n (by rw [h7]; decide) (br_p h6 (br_p h7 ?_)))
  refine m_part h hb a1 hn (GI_kids hG) (kd := 6) (nu := 0) (by decide) rfl rfl (fun W hW h12 => m_go hW a2 (fun X hX => ?_))
  rw [← hi1] at hX
  have hm := mt_le (tk t n i1)
  have hX6 := hX.2.1.2.2.1
  have hmv : mt (tk t n i1) = 1 ↔ tk t n i1 = 2 := by unfold mt; repeat' split <;> try omega
  by_cases h2 : tk t n i1 = 2
  · refine br_p (by rw [hX6, hmv.mpr h2]; rfl) ?_
    refine m_need hX true rfl (D := 1000) ⟨by omega, by decide⟩ (fun _ Y hY => br_n (by rw [hY.2.2.2.2.1.2.2.2.1]; decide) (m_nameOf hY (by omega) h2 ⟨inN (by omega) (by decide), nm_i ?_⟩)) (fun h => by cases h)
    rw [ixN (by omega)]
    have hY2 := RM_name (p := 60 * d + g 1 d) hY a1 (fun q hq hqe => by
      subst hqe
      rw [addP_5, if_pos rfl]
      exact ⟨fun h => by omega, fun h => absurd rfl h⟩)
    refine m_go hY2 (by omega) (fun Z hZ => ?_)
    rw [← hi2] at hZ
    refine m_isSign hZ (by omega) (c := 61) (by decide) rfl ?_
    refine m_need hZ (decide (tk t n i2 = 61)) rfl (D := 1000) ⟨by omega, by decide⟩ (fun hc A hA => ?_) (fun hc A hA => br_p hA.2.1 (k A (ke h2 (of_decide_eq_false hc) A hA)))
    refine br_n (by rw [hA.2.2.2.2.1.2.2.2.1]; decide) (m_go hA (by omega) (fun B hB => ?_))
    exact m_later hB rfl (p := 60 * d + g 1 d) (fun _ => rfl) (by omega) (fun C hC => m_later hC rfl (p := 0) (fun h => by cases h) (by simp only [List.length_cons]; omega) (fun D hD => k D (ky h2 (of_decide_eq_true hc) D hD)))
  · refine br_n (by rw [hX6]; simp (disch := omega) only [ln_0, ln_1, ln_2, ln_3, ln_4, ln_5, ln_6, ln_7, ln_8, ln_9, ln_10, ln_11, ln_12, ln_13, ln_14, ln_15, ln_16, ln_17, ln_18, ln_19, ln_20, ln_21, ln_22, ln_23, ln_24, ln_25, ln_26, ln_27, ln_28, ln_29, ln_30, ln_31, ln_32, ln_33, ln_34, ln_35, ln_36, ln_37, ln_38, ln_39, ln_40, ln_41, ln_42, ln_43, ln_44, ln_45, ln_46, ln_47, ln_48, ln_49, ln_50, ln_51, ln_52, ln_53, ln_54, ln_55, ln_56, ln_57, ln_58, ln_59, ln_60, ln_61, ln_62, ln_91, ln_93, ln_97, ln_122, ln_120, ln_123, ln_124, ln_255, ln_256, ln_300, ln_720, ln_1500, ln_12000, ln_18000, nI_leI, nI_ltI, nI_eq]; exact fun h => h2 (hmv.mp h)) ?_
    refine m_need hX false rfl (D := 1000) ⟨by omega, by decide⟩ (fun h => by cases h) (fun _ Y hY => br_p hY.2.1 (f_isSign hY (fun r => f_need hY (fun Z hZ => br_p hZ.2.1 (k Z (kn h2 Z hZ))))))
