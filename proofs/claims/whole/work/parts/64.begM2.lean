/-! 64.begM2: the reference's beginnings, token by token -/
theorem FlM.mo {n : Nat} {v0 v : St} {b f D D' : Nat} (h : FlM n v0 b f D v) (hD : D ≤ D') : FlM n v0 b f D' v := by
  obtain ⟨a1, a2, a3, a4, a5, ⟨z, hz, a6⟩, ⟨w, hw, a7⟩, a8⟩ := h
  exact ⟨a1, a2, a3, a4, a5, ⟨z, by omega, a6⟩, ⟨w, by omega, a7⟩, a8⟩
theorem Ext_add (g : Nat → Nat → Nat) (L : Nat → List Nat) (d kd nu : Nat) (ks : List Nat) : Ext g (addP g d kd nu) L (upL L (60 * d + g 1 d) ks) d := by
  refine ⟨fun j => ⟨⟨?_, ?_⟩, ?_, ?_, addP_1⟩, fun j hj => ?_⟩
  · rw [addP_o (by decide) (by decide) (by decide) (by decide) (by decide)]
  · rw [addP_o (by decide) (by decide) (by decide) (by decide) (by decide)]
  · rw [addP_o (by decide) (by decide) (by decide) (by decide) (by decide)]
  · rw [addP_o (by decide) (by decide) (by decide) (by decide) (by decide)]
  · rw [addP_5, addP_6, addP_7, upL_i, if_neg hj, if_neg hj, if_neg hj, if_neg hj]; exact ⟨rfl, ⟨rfl, addP_o (by decide) (by decide) (by decide) (by decide) (by decide)⟩, rfl, rfl⟩
theorem Ext_named {g g' : Nat → Nat → Nat} {L L' : Nat → List Nat} {d : Nat} (h : Ext g g' L L' d) (a c : Nat) : Ext g (up (up g' 7 (60 * d + g 1 d) a) 8 (60 * d + g 1 d) c) L L' d := by
  have e : ∀ f j, f ≠ 7 → f ≠ 8 → up (up g' 7 (60 * d + g 1 d) a) 8 (60 * d + g 1 d) c f j = g' f j := fun f j h1 h2 => by rw [up_f h2, up_f h1]
  refine ⟨fun j => ?_, fun j hj => ?_⟩
  · rw [e 0 _ (by decide) (by decide), e 2 _ (by decide) (by decide), e 3 _ (by decide) (by decide), e 4 _ (by decide) (by decide), e 1 _ (by decide) (by decide)]; exact h.1 j
  · obtain ⟨q5, ⟨q6, q8⟩, q7, qL⟩ := h.2 j hj
    exact ⟨(e 5 _ (by decide) (by decide)).trans q5, ⟨(e 6 _ (by decide) (by decide)).trans q6, by rw [up_i, if_neg hj, up_f (by decide)]; exact q8⟩, by rw [up_f (by decide), up_i, if_neg hj]; exact q7, qL⟩
theorem lsO_cg {g g' : Nat → Nat → Nat} {L L' : Nat → List Nat} : ∀ {l : List (Nat × Nat)}, (∀ x ∈ l, x.1 = 6 → g' 7 x.2 = g 7 x.2 ∧ L' x.2 = L x.2) → lsO g' L' l = lsO g L l
  | [], _ => rfl
  | x :: l, h => by
    have ih := lsO_cg (l := l) (fun y hy => h y (List.mem_cons_of_mem _ hy))
    simp only [lsO]
    by_cases h6 : x.1 = 6
    · obtain ⟨e1, e2⟩ := h x List.mem_cons_self h6
      rw [if_pos h6, if_pos h6, ih, e1, e2]
    · rw [if_neg h6, if_neg h6, ih]
theorem lsO_ext {g g' : Nat → Nat → Nat} {L L' : Nat → List Nat} {d i : Nat} {l : List (Nat × Nat)} (hE : Ext g g' L L' d) (hn : g 1 d < 60) (hS : StO g L d i l) : lsO g' L' l = lsO g L l :=
  lsO_cg (fun x hx h6 => by
    obtain ⟨e5, e6, e7, eL⟩ := hE.2 x.2 (dm_ne (StO_mem hS x hx (by omega)).1 hn)
    exact ⟨e7, eL⟩)
theorem RM.brk {t : Nat → Nat} {n : Nat} {v0 v : St} {b : Nat} {g : Nat → Nat → Nat} {L : Nat → List Nat} {d : Nat} {T : List (Nat × Nat)} {vs : List Nat} {ls : List (Nat × Nat)} {bk i : Nat} {x : Nat} (h : RM t n v0 b g L d T vs ls bk i v) {y : Int32} (hy : y = nI x) : RM t n v0 b g L d T vs ls x i (sI v 14 y) := by
  obtain ⟨hT, hK, hF, hM, ⟨h2, h10, h9, h13, h14⟩, hR, hS, hV, hL⟩ := h
  exact ⟨hT, hK, hF, hM, ⟨h2, h10, h9, h13, hy⟩, hR, hS, hV, hL⟩
theorem GI_kids {n : Nat} {g : Nat → Nat → Nat} {L : Nat → List Nat} {d : Nat} {l : List (Nat × Nat)} {i : Nat} (h : GIv n g L d l i) : ∀ q, dm g (d + 1) q → (∀ x ∈ L q, dm g (d + 1) x) ∧ (g 5 q = 3 → dm g (d + 1) (g 6 q)) := fun q hq => ⟨fun x hx => ((h.2.2.2.2.1.1 q hq).1 x hx).1, fun h3 => ((h.2.2.2.2.1.1 q hq).2.2.2.2 h3).1⟩
/-- a part, then the next token, then two tasks -/
theorem m_begin2 {t : Nat → Nat} {n : Nat} {v0 v : St} {b : Nat} {g : Nat → Nat → Nat} {L : Nat → List Nat} {d : Nat} {T : List (Nat × Nat)} {vs : List Nat} {ls : List (Nat × Nat)} {bk i : Nat} (h : RM t n v0 b g L d T vs ls bk i v) (hb : b ≤ 1) (hd : d < 12) (hi : i ≤ n) (hn : g 1 d < 60) (hk : ∀ q, dm g (d + 1) q → (∀ x ∈ L q, dm g (d + 1) x) ∧ (g 5 q = 3 → dm g (d + 1) (g 6 q))) {kd : Nat} (h3 : kd ≠ 3) (hl : T.length < 1000) {w1 w2 : Nat} (hw2 : hasP w2 = false) {x1 x2 y1 y2 : Int32} (e1 : x1 = nI (kM kd)) (e2 : x2 = nI (sM kd 0)) (f1 : y1 = nI w1) (f2 : y2 = nI w2) {K : St → Prop} (k : ∀ V, RM t n v0 b (addP g d kd 0) (upL L (60 * d + g 1 d) []) d ((w2, 0) :: (w1, 60 * d + g 1 d) :: T) vs ls bk (te t n i) V → K V) : wp_X7_part v x1 x2 (fun (r27 : Int32) (u26 : St) => wp_X7_go u26 (fun (u28 : St) => wp_X7_later u28 y1 r27 (fun (u29 : St) => wp_X7_later u29 y2 0 (fun (u30 : St) => K u30)))) := by
  refine m_part h hb hd hn hk h3 e1 e2 (fun V hV _ => m_go hV hi (fun W hW => ?_))
  refine m_later hW f1 (p := 60 * d + g 1 d) (fun _ => rfl) (by omega) (fun X hX => ?_)
  exact m_later hX f2 (p := 0) (fun h => by rw [hw2] at h; cases h) (by simp only [List.length_cons]; omega) k
theorem m_begin2F {t : Nat → Nat} {n : Nat} {v0 v : St} {b : Nat} {g : Nat → Nat → Nat} {L : Nat → List Nat} {d : Nat} {T : List (Nat × Nat)} {vs : List Nat} {ls : List (Nat × Nat)} {bk i : Nat} (h : RM t n v0 b g L d T vs ls bk i v) (hn : g 1 d = 60) (hl : T.length ≤ 400 ∧ vs.length ≤ 400) {x1 x2 y1 y2 : Int32} {K : St → Prop} (k : ∀ V, FlM n v0 b (tp t n i) 1000 V → K V) : wp_X7_part v x1 x2 (fun (r27 : Int32) (u26 : St) => wp_X7_go u26 (fun (u28 : St) => wp_X7_later u28 y1 r27 (fun (u29 : St) => wp_X7_later u29 y2 0 (fun (u30 : St) => K u30)))) := by
  refine m_partFull h hn hl (fun V hV => f_go hV (f_later hV (by decide) (fun W hW => f_later hW (by decide) (fun X hX => k X (hX.mo (by decide))))))
theorem m_neg {t : Nat → Nat} {n : Nat} {v0 : St} {b : Nat} {g : Nat → Nat → Nat} {L : Nat → List Nat} {d : Nat} {l : List (Nat × Nat)} {i : Nat} {P : St → Prop} (hG : GIv n g L d l i) (hb : b ≤ 1) (ht : tk t n i = 45) (hn : g 1 d < 60) (hr : RunM (RM t n v0 b (addP g d 4 0) (upL L (60 * d + g 1 d) []) d (tB ((14, 60 * d + g 1 d) :: l)) [] (lsO g L l) (paN l) (te t n i)) P) : RunM (RM t n v0 b g L d (tB l) [] (lsO g L l) (paN l) i) P := by
  have hl81 := (GI_len hG).1
  have hb3 := bX_len l 3
  refine m_down (StO_ne hG.2.2.2.2.2.1) hl81 (fun _ => by omega) (m_factor (by omega) hG.2.1 (fun v K h k => ⟨fun _ => ?_, fun h => by omega, fun h => by omega, fun h => by omega, fun h => by omega, fun h => absurd ht h⟩) hr)
  exact m_begin2 h hb hG.1 hG.2.1 hn (GI_kids hG) (kd := 4) (w1 := 16) (w2 := 15) (by decide) (by omega) rfl rfl rfl rfl rfl (fun V hV => k V hV)
theorem m_num {t : Nat → Nat} {n : Nat} {v0 : St} {b : Nat} {g : Nat → Nat → Nat} {L : Nat → List Nat} {d : Nat} {l : List (Nat × Nat)} {i : Nat} {P : St → Prop} (hG : GIv n g L d l i) (hb : b ≤ 1) (ht : tk t n i = 3) (hn : g 1 d < 60) (hr : RunM (RM t n v0 b (addP g d 1 (vlt t (tp t n i) (te t n i - tp t n i))) (upL L (60 * d + g 1 d) []) d ((18, 0) :: bX l 3) [60 * d + g 1 d] (lsO g L l) (paN l) (te t n i)) P) : RunM (RM t n v0 b g L d (tB l) [] (lsO g L l) (paN l) i) P := by
  have hl81 := (GI_len hG).1
  have hb3 := bX_len l 3
  refine m_down (StO_ne hG.2.2.2.2.2.1) hl81 (fun _ => by omega) (m_factor (by omega) hG.2.1 (fun v K h k => ⟨fun h => by omega, fun h => by omega, fun _ => ?_, fun h => by omega, fun h => by omega, fun _ _ h => absurd ht h⟩) hr)
  refine m_part h hb hG.1 hn (GI_kids hG) (kd := 1) (nu := vlt t (tp t n i) (te t n i - tp t n i)) (by decide) rfl ?_ (fun V hV _ => m_give hV rfl (by decide) (fun W hW => m_go hW hG.2.1 (fun X hX => m_later hX rfl (p := 0) (fun h => by cases h) (by omega) (fun Y hY => k Y hY))))
  rw [h.2.1.2.2.2.2 ht, lN_i]; rfl
theorem m_par {t : Nat → Nat} {n : Nat} {v0 : St} {b : Nat} {g : Nat → Nat → Nat} {L : Nat → List Nat} {d : Nat} {l : List (Nat × Nat)} {i : Nat} {P : St → Prop} (hG : GIv n g L d l i) (ht : tk t n i = 40) (hn : paN l < 20) (hr : RunM (RM t n v0 b g L d (tB ((1, 0) :: l)) [] (lsO g L l) (paN ((1, 0) :: l)) (te t n i)) P) : RunM (RM t n v0 b g L d (tB l) [] (lsO g L l) (paN l) i) P := by
  have hl81 := (GI_len hG).1
  have hb3 := bX_len l 3
  refine m_down (StO_ne hG.2.2.2.2.2.1) hl81 (fun _ => by omega) (m_factor (by omega) hG.2.1 (fun v K h k => ⟨fun h => by omega, fun _ => ?_, fun h => by omega, fun h => by omega, fun h => by omega, fun _ h => absurd ht h⟩) hr)
  have h14 := h.2.2.2.2.1.2.2.2.2
  refine br_n ?_ (m_need h true rfl (D := 1000) ⟨by omega, by decide⟩ (fun _ V hV => nm_i ?_) (fun h => by cases h))
  · rw [h14]; simp (disch := omega) only [ln_0, ln_1, ln_2, ln_3, ln_4, ln_5, ln_6, ln_7, ln_8, ln_9, ln_10, ln_11, ln_12, ln_13, ln_14, ln_15, ln_16, ln_17, ln_18, ln_19, ln_20, ln_21, ln_22, ln_23, ln_24, ln_25, ln_26, ln_27, ln_28, ln_29, ln_30, ln_31, ln_32, ln_33, ln_34, ln_35, ln_36, ln_37, ln_38, ln_39, ln_40, ln_41, ln_42, ln_43, ln_44, ln_45, ln_46, ln_47, ln_48, ln_49, ln_50, ln_51, ln_52, ln_53, ln_54, ln_55, ln_56, ln_57, ln_58, ln_59, ln_60, ln_61, ln_62, ln_91, ln_93, ln_97, ln_122, ln_120, ln_123, ln_124, ln_255, ln_256, ln_300, ln_720, ln_1500, ln_12000, ln_18000, nI_leI, nI_ltI, nI_eq]; omega
  refine m_go (hV.brk (x := paN l + 1) (by rw [hV.2.2.2.2.1.2.2.2.2, nI_1])) hG.2.1 (fun W hW => m_later hW rfl (p := 0) (fun h => by cases h) (by omega) (fun X hX => m_later hX rfl (p := 0) (fun h => by cases h) (by simp only [List.length_cons]; omega) (fun Y hY => k Y ?_)))
  rw [paN_1 rfl]; exact hY
theorem m_parF {t : Nat → Nat} {n : Nat} {v0 : St} {b : Nat} {g : Nat → Nat → Nat} {L : Nat → List Nat} {d : Nat} {l : List (Nat × Nat)} {i : Nat} {P : St → Prop} (hG : GIv n g L d l i) (ht : tk t n i = 40) (hn : paN l = 20) (hP : ∀ V, FlM n v0 b (tp t n i) 1000 V → P V) : RunM (RM t n v0 b g L d (tB l) [] (lsO g L l) (paN l) i) P := by
  have hl81 := (GI_len hG).1
  have hb3 := bX_len l 3
  refine m_down (StO_ne hG.2.2.2.2.2.1) hl81 (fun _ => by omega) (m_factor (by omega) hG.2.1 (fun v K h k => ⟨fun h => by omega, fun _ => ?_, fun h => by omega, fun h => by omega, fun h => by omega, fun _ h => absurd ht h⟩) (m_failed hP))
  have h14 := h.2.2.2.2.1.2.2.2.2
  refine br_p ?_ (m_need h false rfl (D := 900) ⟨by omega, by decide⟩ (fun h => by cases h) (fun _ V hV => nm_i ?_))
  · rw [h14]; simp (disch := omega) only [ln_0, ln_1, ln_2, ln_3, ln_4, ln_5, ln_6, ln_7, ln_8, ln_9, ln_10, ln_11, ln_12, ln_13, ln_14, ln_15, ln_16, ln_17, ln_18, ln_19, ln_20, ln_21, ln_22, ln_23, ln_24, ln_25, ln_26, ln_27, ln_28, ln_29, ln_30, ln_31, ln_32, ln_33, ln_34, ln_35, ln_36, ln_37, ln_38, ln_39, ln_40, ln_41, ln_42, ln_43, ln_44, ln_45, ln_46, ln_47, ln_48, ln_49, ln_50, ln_51, ln_52, ln_53, ln_54, ln_55, ln_56, ln_57, ln_58, ln_59, ln_60, ln_61, ln_62, ln_91, ln_93, ln_97, ln_122, ln_120, ln_123, ln_124, ln_255, ln_256, ln_300, ln_720, ln_1500, ln_12000, ln_18000, nI_leI, nI_ltI, nI_eq]; omega
  have hV2 : FlM n v0 b (tp t n i) 900 (sI V 14 (gI V 14 + 1)) := hV
  exact f_go hV2 (f_later hV2 (by decide) (fun W hW => f_later hW (by decide) (fun X hX => k X (hX.mo (by decide)))))
/-- no factor begins so -/
theorem m_badF {t : Nat → Nat} {n : Nat} {v0 : St} {b : Nat} {g : Nat → Nat → Nat} {L : Nat → List Nat} {d : Nat} {l : List (Nat × Nat)} {i : Nat} {P : St → Prop} (hG : GIv n g L d l i) (h45 : tk t n i ≠ 45) (h40 : tk t n i ≠ 40) (h3 : tk t n i ≠ 3) (h9 : tk t n i ≠ 9) (h2 : tk t n i ≠ 2) (h47 : tk t n i = 4 ∨ tk t n i = 7 → lvT (hdT l) ≠ 0) (hP : ∀ V, FlM n v0 b (tp t n i) 1000 V → P V) : RunM (RM t n v0 b g L d (tB l) [] (lsO g L l) (paN l) i) P := by
  have hl81 := (GI_len hG).1
  have hb3 := bX_len l 3
  refine m_down (StO_ne hG.2.2.2.2.2.1) hl81 (fun _ => by omega) (m_factor (by omega) hG.2.1 (fun v K h k => ⟨fun h => absurd h h45, fun h => absurd h h40, fun h => absurd h h3, fun h => absurd h h9, fun h => absurd h h2, fun _ _ _ _ _ => ?_⟩) (m_failed hP))
  exact m_need h false rfl (D := 1000) ⟨by omega, by decide⟩ (fun h => by cases h) (fun _ V hV => br_p hV.2.1 (k V hV))
/-- no room for a part -/
theorem m_fullF {t : Nat → Nat} {n : Nat} {v0 : St} {b : Nat} {g : Nat → Nat → Nat} {L : Nat → List Nat} {d : Nat} {l : List (Nat × Nat)} {i : Nat} {P : St → Prop} (hG : GIv n g L d l i) (hb : b ≤ 1) (hn : g 1 d = 60) (h40 : tk t n i ≠ 40) (hP : ∀ V, FlM n v0 b (tp t n i) 1000 V → P V) : RunM (RM t n v0 b g L d (tB l) [] (lsO g L l) (paN l) i) P := by
  obtain ⟨hl81, hls, _, _⟩ := GI_len hG
  obtain ⟨a1, a2, a3, a4, a5, a6, a7, a8, a9⟩ := id hG
  have hb3 := bX_len l 3
  have hb0 := bX_len l 0
  by_cases h47 : (tk t n i = 4 ∨ tk t n i = 7) ∧ lvT (hdT l) = 0
  · unfold tB
    rw [if_pos h47.2]
    refine m_pop (by omega) (fun v x K _ h k => br_p rfl ?_) (m_failed hP)
    have hK := h.2.1
    have h6 : gI v 6 = 3 := by
      rw [hK.2.2.1]
      have : mt (tk t n i) = 3 := by unfold mt; rw [if_neg (by omega), if_neg (by omega), if_neg (by omega), if_neg (by omega), if_pos (by omega)]
      rw [this]; rfl
    have h7 := hK.2.2.2.1 (by omega)
    rcases h47.1 with h4 | h4
    · rw [h4] at h7
      exact br_p h6 (br_p h7 (m_begin2F h hn ⟨by omega, by decide⟩ k))
    · rw [h4] at h7
      refine br_p h6 (br_n (by rw [h7]; decide) (br_p h6 (br_p h7 (m_partFull h hn (D := 900) ⟨by omega, by decide⟩ (fun V hV => f_go hV ?_)))))
      have e85 : ∀ y, wp_X7_expression_85 V 0 y K := fun y => f_need hV (fun W hW => br_p hW.2.1 (f_isSign hW (fun r => f_need hW (fun X hX => br_p hX.2.1 (k X (hX.mo (by decide)))))))
      exact br_b (fun _ => e85 1) (fun _ => e85 0)
  · refine m_down (StO_ne a6) hl81 (fun h0 => ⟨fun h => h47 ⟨Or.inl h, h0⟩, fun h => h47 ⟨Or.inr h, h0⟩⟩) (m_factor (by omega) a2 (fun v K h k => ⟨fun _ => ?_, fun h => absurd h h40, fun _ => ?_, fun _ => ?_, fun h2 => ?_, fun _ _ _ _ _ => ?_⟩) (m_failed hP))
    · exact m_begin2F h hn ⟨by omega, by decide⟩ k
    · exact m_partFull h hn (D := 900) ⟨by omega, by decide⟩ (fun V hV => f_give hV (by decide) (fun W hW => f_go hW (f_later hW (by decide) (fun X hX => k X (hX.mo (by decide))))))
    · exact m_partFull h hn (D := 900) ⟨by omega, by decide⟩ (fun V hV => f_go hV (f_isSign hV (fun r => f_need hV (fun X hX => br_p hX.2.1 (k X (hX.mo (by decide)))))))
    · refine m_need h true rfl (D := 1000) ⟨by omega, by decide⟩ (fun _ V hV => br_n (by rw [hV.2.2.2.2.1.2.2.2.1]; decide) (m_named hV a2 (fun _ => ?_) (fun _ => ?_))) (fun h => by cases h)
      · refine m_variable (ls := []) hV hb a1 a2 (by omega) (GI_kids hG) h2 hls (fun x hx h6 => ?_) (a3 d (Nat.le_refl _)).1 a4 (D := 900) ⟨by omega, by decide⟩ (fun h => by omega) (fun h => by omega) (fun _ W hW => f_give hW (by decide) (fun X hX => br_p hX.2.1 (k X (hX.mo (by decide)))))
        obtain ⟨c1, c2, c3, c4⟩ := StO_mem a6 x hx (by omega)
        exact ⟨((a5.1 _ c1).2.2.1 ((TgO_lv c4).2.2.2.2.2 h6)).1, c1⟩
      · exact m_partFull hV hn (D := 1000) ⟨by omega, by decide⟩ (fun W hW => br_p hW.2.1 (k W hW))
    · exact m_need h false rfl (D := 1000) ⟨by omega, by decide⟩ (fun h => by cases h) (fun _ V hV => br_p hV.2.1 (k V hV))
