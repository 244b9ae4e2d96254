/-! 69.contM: the reference behind an expression -/
theorem RM_13 {t : Nat → Nat} {n : Nat} {v0 v : St} {b : Nat} {g : Nat → Nat → Nat} {L : Nat → List Nat} {d : Nat} {T : List (Nat × Nat)} {vs : List Nat} {ls : List (Nat × Nat)} {bk i : Nat} {p : Nat} {x : Int32} (h : RM t n v0 b g L d T vs ls bk i v) (hd : d < 12) (hp : dm g (d + 1) p) (h5 : g 5 p = 8) (h7 : g 7 p = 0) : RM t n v0 b g L d T vs ls bk i (sA v 13 (720 * b + p) x) := by
  obtain ⟨hT, hK, hF, hM, hN, hR, hSt, hV, hL⟩ := h
  have hp7 := dm_lt hp (by omega)
  refine ⟨hT, hK, hF.a (by omega), ⟨hM.1, fun q hq => ?_⟩, hN, hR, hSt, hV, hL⟩
  obtain ⟨r1, r3, r4, r5, r6, r7, r8, r9, r10, r11⟩ := hM.2 q hq
  refine ⟨r1, r3, r4, r5, r6, r7, r8, ?_, r10, r11⟩
  show (_ → upd (gA v 13) (720 * b + p) x (720 * b + q) = _) ∧ (_ → _ → upd (gA v 13) (720 * b + p) x (720 * b + q) = _)
  by_cases hqp : q = p
  · subst hqp; exact ⟨fun h => by omega, fun _ h => absurd h7 h⟩
  · rw [updE, if_neg (by omega)]; exact r9
theorem RM_12 {t : Nat → Nat} {n : Nat} {v0 v : St} {b : Nat} {g : Nat → Nat → Nat} {L : Nat → List Nat} {d : Nat} {T : List (Nat × Nat)} {vs : List Nat} {ls : List (Nat × Nat)} {bk i : Nat} {p : Nat} {x : Int32} (h : RM t n v0 b g L d T vs ls bk i v) (hd : d < 12) (hp : dm g (d + 1) p) (h7 : g 7 p = 0) : RM t n v0 b g L d T vs ls bk i (sA v 12 (720 * b + p) x) := by
  obtain ⟨hT, hK, hF, hM, hN, hR, hSt, hV, hL⟩ := h
  have hp7 := dm_lt hp (by omega)
  refine ⟨hT, hK, hF.a (by omega), ⟨hM.1, fun q hq => ?_⟩, hN, hR, hSt, hV, hL⟩
  obtain ⟨r1, r3, r4, r5, r6, r7, r8, r9, r10, r11⟩ := hM.2 q hq
  refine ⟨r1, r3, r4, r5, r6, r7, r8, r9, r10, ?_⟩
  show _ → _ ∧ (_ → upd (gA v 12) (720 * b + p) x (720 * b + q) = _)
  by_cases hqp : q = p
  · subst hqp; exact fun h => absurd h7 h
  · rw [updE, if_neg (by omega)]; exact r11
theorem m_first {t : Nat → Nat} {n : Nat} {v0 v : St} {b : Nat} {g : Nat → Nat → Nat} {L : Nat → List Nat} {d : Nat} {T : List (Nat × Nat)} {vs : List Nat} {ls : List (Nat × Nat)} {bk i : Nat} {la kd : Nat} (h : RM t n v0 b (addP g d kd 0) (upL L (60 * d + g 1 d) []) d T (la :: vs) ls bk i v) (hvs : vs.length < 2000) (hb : b ≤ 1) (hd : d < 12) (hn : g 1 d < 60) (hk : ∀ q, dm g (d + 1) q → (∀ x ∈ L q, dm g (d + 1) x) ∧ (g 5 q = 3 → dm g (d + 1) (g 6 q))) (h3 : kd ≠ 3) (h7 : kd ≠ 7) (h8 : kd ≠ 8) {x : Int32} (hx : x = nI (720 * b + (60 * d + g 1 d))) {P : St → Prop} (k : ∀ V, RM t n v0 b (addP g d kd 0) (upL L (60 * d + g 1 d) [la]) d T vs ls bk i V → P V) : wp_X7_got v (fun (r5 : Int32) (u4 : St) => (vp_in x 1440 ∧ nm (sA u4 7 (ix x) r5) (fun u6 : St => P u6))) := by
  subst hx
  refine m_got h hvs (fun V hV => ⟨inN (by omega) (by decide), nm_i ?_⟩)
  rw [ixN (by omega)]
  have hS : ∀ q, dm (addP g d kd 0) (d + 1) q → addP g d kd 0 5 q = 3 → addP g d kd 0 6 q = 60 * d + g 1 d → upL L (60 * d + g 1 d) [] (60 * d + g 1 d) ≠ [] := fun q hq h5 h6 => by
    rcases (dm_add (by omega) hn).mp hq with hq | rfl
    · rw [addP_5, if_neg (dm_ne hq hn)] at h5
      rw [addP_6, if_neg (dm_ne hq hn)] at h6
      exact absurd h6 (dm_ne ((hk q hq).2 h5) hn)
    · rw [addP_5n] at h5; exact absurd h5 h3
  have h2 := RM_set1 (p := 60 * d + g 1 d) (c := la) hV hd (dm_new (by omega) hn) hS (by rw [addP_5n]; exact h3) (by rw [addP_5n]; exact h7) upL_s (fun h => by rw [addP_5n] at h; exact absurd h h8)
  rw [upL_s, upL_2] at h2
  exact k _ h2
theorem kM_10 {k : Nat} (h : 10 ≤ k) : kM k = 5 ∧ sM k 0 = k := by
  unfold kM sM
  exact ⟨by rw [if_neg (by omega), if_neg (by omega), if_neg (by omega), if_neg (by omega), if_neg (by omega), if_neg (by omega), if_neg (by omega), if_neg (by omega), if_neg (by omega)], by rw [if_neg (by omega), if_neg (by omega)]⟩
theorem m_oper {t : Nat → Nat} {n : Nat} {v0 v : St} {b : Nat} {g : Nat → Nat → Nat} {L : Nat → List Nat} {d : Nat} {T : List (Nat × Nat)} {vs : List Nat} {ls : List (Nat × Nat)} {bk i : Nat} {la : Nat} (h : RM t n v0 b g L d T [la] ls bk i v) (hb : b ≤ 1) (hd : d < 12) (hi : i ≤ n) (hn : g 1 d < 60) (hk : ∀ q, dm g (d + 1) q → (∀ x ∈ L q, dm g (d + 1) x) ∧ (g 5 q = 3 → dm g (d + 1) (g 6 q))) (hs : 10 ≤ tk t n i) (hl : T.length < 1000) {w1 w2 : Nat} (hw2 : hasP w2 = false) {y1 y2 : Int32} (f1 : y1 = nI w1) (f2 : y2 = nI w2) {K : St → Prop} (k : ∀ V, RM t n v0 b (addP g d (tk t n i) 0) (upL L (60 * d + g 1 d) [la]) d ((w2, 0) :: (w1, 60 * d + g 1 d) :: T) [] ls bk (te t n i) V → K V) : (vp_in (gI v 4) 1500 ∧ wp_X7_operator v (gA v 1 (ix (gI v 4))) (fun (r46 : Int32) (u45 : St) => wp_X7_go u45 (fun (u47 : St) => wp_X7_later u47 y1 r46 (fun (u48 : St) => wp_X7_later u48 y2 0 (fun (u49 : St) => K u49))))) := by
  obtain ⟨h1, h2⟩ := tk_sign (mt_sign hs)
  have hn5 : n ≤ 1500 := h.1.1
  obtain ⟨hb1, hb2⟩ := h.1.2.2 _ h1
  have e : gA v 1 (ix (gI v 4)) = nI (tk t n i) := by
    rw [h.2.1.1, ixN (by omega), hb2]; exact (ch_eq _ hb1 _ (tk_le.2 hs)).mpr h2.symm
  refine ⟨by rw [h.2.1.1]; exact inN (by omega) (by decide), ?_⟩
  rw [e]
  refine m_part h hb hd hn hk (kd := tk t n i) (nu := 0) (by omega) (by rw [(kM_10 hs).1]; rfl) (by rw [(kM_10 hs).2]) (fun V hV _ => br_n (by rw [hV.2.2.2.2.1.2.2.2.1]; decide) (m_first hV (by decide) hb hd hn hk (by omega) (by omega) (by omega) rfl (fun W hW => ?_)))
  refine m_go hW hi (fun X hX => m_later hX f1 (p := 60 * d + g 1 d) (fun _ => rfl) (by omega) (fun Y hY => ?_))
  exact m_later hY f2 (p := 0) (fun h => by rw [hw2] at h; cases h) (by simp only [List.length_cons]; omega) k
theorem m_operF {t : Nat → Nat} {n : Nat} {v0 v : St} {b : Nat} {g : Nat → Nat → Nat} {L : Nat → List Nat} {d : Nat} {T : List (Nat × Nat)} {vs : List Nat} {ls : List (Nat × Nat)} {bk i : Nat} {la : Nat} (h : RM t n v0 b g L d T [la] ls bk i v) (hn : g 1 d = 60) (hs : 10 ≤ tk t n i) (hl : T.length ≤ 400) {y1 y2 : Int32} {K : St → Prop} (k : ∀ V, FlM n v0 b (tp t n i) 1000 V → K V) : (vp_in (gI v 4) 1500 ∧ wp_X7_operator v (gA v 1 (ix (gI v 4))) (fun (r46 : Int32) (u45 : St) => wp_X7_go u45 (fun (u47 : St) => wp_X7_later u47 y1 r46 (fun (u48 : St) => wp_X7_later u48 y2 0 (fun (u49 : St) => K u49))))) := by
  obtain ⟨h1, h2⟩ := tk_sign (mt_sign hs)
  have hn5 : n ≤ 1500 := h.1.1
  refine ⟨by rw [h.2.1.1]; exact inN (by omega) (by decide), ?_⟩
  exact m_partFull h hn (D := 400) ⟨by omega, by simp⟩ (fun V hV => br_p hV.2.1 (f_go hV (f_later hV (by decide) (fun W hW => f_later hW (by decide) (fun X hX => k X (hX.mo (by decide)))))))
theorem lvS_v (c : Nat) : (lvS c = 1 ↔ c = 60 ∨ c = 61 ∨ c = 62) ∧ (lvS c = 2 ↔ c = 43 ∨ c = 45) ∧ (lvS c = 3 ↔ c = 42 ∨ c = 47 ∨ c = 37) ∧ lvS c ≤ 3 := by
  unfold lvS; split
  · omega
  · split
    · omega
    · split
      · omega
      · omega
theorem lvS_10 {c : Nat} (h : lvS c ≠ 0) : 10 ≤ c := by
  have := lvS_v c
  rcases (show lvS c = 1 ∨ lvS c = 2 ∨ lvS c = 3 by omega) with h | h | h
  · have := this.1.mp h; omega
  · have := this.2.1.mp h; omega
  · have := this.2.2.1.mp h; omega
theorem m_T {t : Nat → Nat} {n : Nat} {v0 : St} {b : Nat} {g : Nat → Nat → Nat} {L : Nat → List Nat} {d : Nat} {T : List (Nat × Nat)} {vs : List Nat} {ls : List (Nat × Nat)} {bk i : Nat} {P R : St → Prop} (hl : T.length < 1000) (hi : i ≤ n) (ky : lvS (tk t n i) = 3 → ∀ v K, RM t n v0 b g L d T vs ls bk i v → (∀ V, R V → K V) → wp_X7_more_225 v K) (kn : lvS (tk t n i) ≠ 3 → ∀ V, RM t n v0 b g L d T vs ls bk i V → R V) (hr : RunM R P) : RunM (RM t n v0 b g L d ((13, 0) :: T) vs ls bk i) P := by
  have hv := (lvS_v (tk t n i)).2.2.1
  refine m_pop (by omega) (fun v x K _ h k => to_more (by decide) (by decide) (br_n (by decide) (br_n (by decide) (br_n (by decide) (br_n (by decide) (br_n (by decide) (br_p rfl (m_isSign h hi (c := 42) (by decide) rfl ?_)))))))) hr
  by_cases c1 : tk t n i = 42
  · rw [decide_eq_true c1]; exact br_n (by decide) (ky (hv.mpr (Or.inl c1)) v K h k)
  · rw [decide_eq_false c1]
    refine br_p rfl (m_isSign h hi (c := 47) (by decide) rfl ?_)
    by_cases c2 : tk t n i = 47
    · rw [decide_eq_true c2]; exact br_n (by decide) (ky (hv.mpr (Or.inr (Or.inl c2))) v K h k)
    · rw [decide_eq_false c2]
      refine br_p rfl (m_isSign h hi (c := 37) (by decide) rfl ?_)
      by_cases c3 : tk t n i = 37
      · rw [decide_eq_true c3]; exact br_n (by decide) (ky (hv.mpr (Or.inr (Or.inr c3))) v K h k)
      · rw [decide_eq_false c3]; exact br_p rfl (k v (kn (fun e => by rcases hv.mp e with e | e | e <;> contradiction) v h))
theorem m_S {t : Nat → Nat} {n : Nat} {v0 : St} {b : Nat} {g : Nat → Nat → Nat} {L : Nat → List Nat} {d : Nat} {T : List (Nat × Nat)} {vs : List Nat} {ls : List (Nat × Nat)} {bk i : Nat} {P R : St → Prop} (hl : T.length < 1000) (hi : i ≤ n) (ky : lvS (tk t n i) = 2 → ∀ v K, RM t n v0 b g L d T vs ls bk i v → (∀ V, R V → K V) → wp_X7_more_157 v K) (kn : lvS (tk t n i) ≠ 2 → ∀ V, RM t n v0 b g L d T vs ls bk i V → R V) (hr : RunM R P) : RunM (RM t n v0 b g L d ((10, 0) :: T) vs ls bk i) P := by
  have hv := (lvS_v (tk t n i)).2.1
  refine m_pop (by omega) (fun v x K _ h k => to_more (by decide) (by decide) (br_n (by decide) (br_n (by decide) (br_n (by decide) (br_n (by decide) (br_p rfl (m_isSign h hi (c := 43) (by decide) rfl ?_))))))) hr
  by_cases c1 : tk t n i = 43
  · rw [decide_eq_true c1]; exact br_n (by decide) (ky (hv.mpr (Or.inl c1)) v K h k)
  · rw [decide_eq_false c1]
    refine br_p rfl (m_isSign h hi (c := 45) (by decide) rfl ?_)
    by_cases c2 : tk t n i = 45
    · rw [decide_eq_true c2]; exact br_n (by decide) (ky (hv.mpr (Or.inr c2)) v K h k)
    · rw [decide_eq_false c2]; exact br_p rfl (k v (kn (fun e => by rcases hv.mp e with e | e <;> contradiction) v h))
theorem m_C {t : Nat → Nat} {n : Nat} {v0 : St} {b : Nat} {g : Nat → Nat → Nat} {L : Nat → List Nat} {d : Nat} {T : List (Nat × Nat)} {vs : List Nat} {ls : List (Nat × Nat)} {bk i : Nat} {P R : St → Prop} (hl : T.length < 1000) (hi : i ≤ n) (ky : lvS (tk t n i) = 1 → ∀ v K, RM t n v0 b g L d T vs ls bk i v → (∀ V, R V → K V) → wp_X7_more_33 v K) (kn : lvS (tk t n i) ≠ 1 → ∀ V, RM t n v0 b g L d T vs ls bk i V → R V) (hr : RunM R P) : RunM (RM t n v0 b g L d ((7, 0) :: T) vs ls bk i) P := by
  have hv := (lvS_v (tk t n i)).1
  refine m_pop (by omega) (fun v x K _ h k => to_more (by decide) (by decide) (br_p rfl (m_isSign h hi (c := 60) (by decide) rfl ?_))) hr
  by_cases c1 : tk t n i = 60
  · rw [decide_eq_true c1]; exact br_n (by decide) (ky (hv.mpr (Or.inl c1)) v K h k)
  · rw [decide_eq_false c1]
    refine br_p rfl (m_isSign h hi (c := 61) (by decide) rfl ?_)
    by_cases c2 : tk t n i = 61
    · rw [decide_eq_true c2]; exact br_n (by decide) (ky (hv.mpr (Or.inr (Or.inl c2))) v K h k)
    · rw [decide_eq_false c2]
      refine br_p rfl (m_isSign h hi (c := 62) (by decide) rfl ?_)
      by_cases c3 : tk t n i = 62
      · rw [decide_eq_true c3]; exact br_n (by decide) (ky (hv.mpr (Or.inr (Or.inr c3))) v K h k)
      · rw [decide_eq_false c3]; exact br_p rfl (k v (kn (fun e => by rcases hv.mp e with e | e | e <;> contradiction) v h))
/-- behind a factor: no bracket -/
theorem m_postN {t : Nat → Nat} {n : Nat} {v0 : St} {b : Nat} {g : Nat → Nat → Nat} {L : Nat → List Nat} {d : Nat} {T : List (Nat × Nat)} {vs : List Nat} {ls : List (Nat × Nat)} {bk i : Nat} {P : St → Prop} (hl : T.length < 1000) (hi : i ≤ n) (h91 : tk t n i ≠ 91) (hr : RunM (RM t n v0 b g L d T vs ls bk i) P) : RunM (RM t n v0 b g L d ((18, 0) :: T) vs ls bk i) P := by
  refine m_pop (by omega) (fun v x K _ h k => to_rest (by decide) (by decide) (br_n (by decide) (br_n (by decide) (br_n (by decide) (br_n (by decide) (br_p rfl (m_isSign h hi (c := 91) (by decide) rfl ?_))))))) hr
  rw [decide_eq_false h91]; exact br_p rfl (k v h)
theorem m_post {t : Nat → Nat} {n : Nat} {v0 : St} {b : Nat} {g : Nat → Nat → Nat} {L : Nat → List Nat} {d : Nat} {l : List (Nat × Nat)} {ls : List (Nat × Nat)} {bk i la : Nat} {P : St → Prop} (hG : GIv n g L d l i) (hb : b ≤ 1) (h91 : tk t n i = 91) (hn : g 1 d < 60) (hr : RunM (RM t n v0 b (addP g d 9 0) (upL L (60 * d + g 1 d) [la]) d (tB ((10, 60 * d + g 1 d) :: l)) [] ls bk (te t n i)) P) : RunM (RM t n v0 b g L d ((18, 0) :: bX l 3) [la] ls bk i) P := by
  have hl81 := (GI_len hG).1
  have hb3 := bX_len l 3
  refine m_pop (by omega) (fun v x K _ h k => to_rest (by decide) (by decide) (br_n (by decide) (br_n (by decide) (br_n (by decide) (br_n (by decide) (br_p rfl (m_isSign h hG.2.1 (c := 91) (by decide) rfl ?_))))))) hr
  rw [decide_eq_true h91]
  refine br_n (by decide) (m_part h hb hG.1 hn (GI_kids hG) (kd := 9) (nu := 0) (by decide) rfl rfl (fun V hV _ => br_n (by rw [hV.2.2.2.2.1.2.2.2.1]; decide) (m_first hV (by decide) hb hG.1 hn (GI_kids hG) (by decide) (by decide) (by decide) rfl (fun W hW => ?_))))
  refine m_go hW hG.2.1 (fun X hX => m_later hX (w := 19) rfl (p := 60 * d + g 1 d) (fun _ => rfl) (by omega) (fun Y hY => ?_))
  exact m_later hY (w := 1) rfl (p := 0) (fun h => by cases h) (by simp only [List.length_cons]; omega) k
theorem m_postF {t : Nat → Nat} {n : Nat} {v0 : St} {b : Nat} {g : Nat → Nat → Nat} {L : Nat → List Nat} {d : Nat} {l : List (Nat × Nat)} {ls : List (Nat × Nat)} {bk i la : Nat} {P : St → Prop} (hG : GIv n g L d l i) (h91 : tk t n i = 91) (hn : g 1 d = 60) (hP : ∀ V, FlM n v0 b (tp t n i) 1000 V → P V) : RunM (RM t n v0 b g L d ((18, 0) :: bX l 3) [la] ls bk i) P := by
  have hl81 := (GI_len hG).1
  have hb3 := bX_len l 3
  refine m_pop (by omega) (fun v x K _ h k => to_rest (by decide) (by decide) (br_n (by decide) (br_n (by decide) (br_n (by decide) (br_n (by decide) (br_p rfl (m_isSign h hG.2.1 (c := 91) (by decide) rfl ?_))))))) (m_failed hP)
  rw [decide_eq_true h91]
  exact br_n (by decide) (m_partFull h hn (D := 400) ⟨by omega, by simp⟩ (fun V hV => br_p hV.2.1 (f_go hV (f_later hV (by decide) (fun W hW => f_later hW (by decide) (fun X hX => k X (hX.mo (by decide))))))))
/-- down to the signs of each level -/
theorem m_to3 {t : Nat → Nat} {n : Nat} {v0 : St} {b : Nat} {g : Nat → Nat → Nat} {L : Nat → List Nat} {d : Nat} {l : List (Nat × Nat)} {ls : List (Nat × Nat)} {bk i la : Nat} {P : St → Prop} (hG : GIv n g L d l i) (hla : LaO g L d l la) (hb : b ≤ 1) (h91 : tk t n i ≠ 91) (hr : RunM (RM t n v0 b g (popS 3 l L la).2.1 d ((13, 0) :: bX (popS 3 l L la).1 2) [(popS 3 l L la).2.2] ls bk i) P) : RunM (RM t n v0 b g L d ((18, 0) :: bX l 3) [la] ls bk i) P := by
  have hl81 := (GI_len hG).1
  have hb3 := bX_len l 3
  refine m_postN (by omega) hG.2.1 h91 (mX3 hb l L la hG hla ?_)
  obtain ⟨r1, r2, r3, r4, r5⟩ := popS_GI (fl := 3) (by decide) l L la hG hla
  rw [bX_3 (StO_ne r1.2.2.2.2.2.1) (lv_lt3 r3).1 (lv_lt3 r3).2]; exact hr
theorem m_to2 {t : Nat → Nat} {n : Nat} {v0 : St} {b : Nat} {g : Nat → Nat → Nat} {L : Nat → List Nat} {d : Nat} {l : List (Nat × Nat)} {ls : List (Nat × Nat)} {bk i la : Nat} {P : St → Prop} (hG : GIv n g L d l i) (hla : LaO g L d l la) (hb : b ≤ 1) (h91 : tk t n i ≠ 91) (h3 : lvS (tk t n i) ≠ 3) (hr : RunM (RM t n v0 b g (popS 2 l L la).2.1 d ((10, 0) :: bX (popS 2 l L la).1 1) [(popS 2 l L la).2.2] ls bk i) P) : RunM (RM t n v0 b g L d ((18, 0) :: bX l 3) [la] ls bk i) P := by
  obtain ⟨r1, r2, r3, r4, r5⟩ := popS_GI (fl := 3) (by decide) l L la hG hla
  obtain ⟨s1, s2, s3, s4, s5⟩ := popS_GI (fl := 2) (by decide) l L la hG hla
  have hl81 := (GI_len r1).1
  have hb2 := bX_len (popS 3 l L la).1 2
  refine m_to3 hG hla hb h91 (m_T (by omega) hG.2.1 (fun h => absurd h h3) (fun _ V hV => hV) (mX2 hb _ _ _ r1 r2 r3 ?_))
  rw [← popS_comp (by decide), bX_2 (StO_ne s1.2.2.2.2.2.1) (lv_lt2 s3)]; exact hr
theorem popS_stop {fl : Nat} {l : List (Nat × Nat)} {L : Nat → List Nat} {la : Nat} (h : lvT (hdT l) < fl) : popS fl l L la = (l, L, la) := by
  cases l with
  | nil => rfl
  | cons e l =>
    have h : lvT e.1 < fl := h
    simp only [popS]; rw [if_neg (by omega)]
theorem m_to1 {t : Nat → Nat} {n : Nat} {v0 : St} {b : Nat} {g : Nat → Nat → Nat} {L : Nat → List Nat} {d : Nat} {l : List (Nat × Nat)} {ls : List (Nat × Nat)} {bk i la : Nat} {P : St → Prop} (hG : GIv n g L d l i) (hla : LaO g L d l la) (hb : b ≤ 1) (h91 : tk t n i ≠ 91) (h3 : lvS (tk t n i) ≠ 3) (h2 : lvS (tk t n i) ≠ 2) (hr : RunM (RM t n v0 b g (popS 2 l L la).2.1 d (bX (popS 2 l L la).1 1) [(popS 2 l L la).2.2] ls bk i) P) : RunM (RM t n v0 b g L d ((18, 0) :: bX l 3) [la] ls bk i) P := by
  obtain ⟨s1, s2, s3, s4, s5⟩ := popS_GI (fl := 2) (by decide) l L la hG hla
  have hl81 := (GI_len s1).1
  have hb1 := bX_len (popS 2 l L la).1 1
  exact m_to2 hG hla hb h91 h3 (m_S (by omega) hG.2.1 (fun h => absurd h h2) (fun _ V hV => hV) hr)
theorem m_to0 {t : Nat → Nat} {n : Nat} {v0 : St} {b : Nat} {g : Nat → Nat → Nat} {L : Nat → List Nat} {d : Nat} {l : List (Nat × Nat)} {ls : List (Nat × Nat)} {bk i la : Nat} {P : St → Prop} (hG : GIv n g L d l i) (hla : LaO g L d l la) (hb : b ≤ 1) (h91 : tk t n i ≠ 91) (h3 : lvS (tk t n i) ≠ 3) (h2 : lvS (tk t n i) ≠ 2) (h1 : lvS (tk t n i) = 1 → hdT (popS 2 l L la).1 = 11) (hr : RunM (RM t n v0 b g (popS 1 l L la).2.1 d (bX (popS 1 l L la).1 0) [(popS 1 l L la).2.2] ls bk i) P) : RunM (RM t n v0 b g L d ((18, 0) :: bX l 3) [la] ls bk i) P := by
  obtain ⟨s1, s2, s3, s4, s5⟩ := popS_GI (fl := 2) (by decide) l L la hG hla
  refine m_to1 hG hla hb h91 h3 h2 ?_
  rw [popS_comp (fl := 1) (fl' := 2) (by decide) l L la] at hr
  generalize hq : popS 2 l L la = q at *
  obtain ⟨l2, L2, la2⟩ := q
  have hl81 : l2.length ≤ 81 := (GI_len s1).1
  have hb0 := bX_len l2 0
  cases l2 with
  | nil => exact absurd rfl (StO_ne s1.2.2.2.2.2.1)
  | cons e l2 =>
    have s3 : lvT e.1 < 2 := s3
    by_cases h11 : e.1 = 11
    · obtain ⟨t1, t2, t3, t4, t5, t6⟩ := GI_top s1 (by rw [h11]; decide)
      have hlv : lvT (hdT l2) < 1 := by have := t4 (by rw [h11]; decide) (by rw [h11]; decide); rw [h11] at this; exact this
      simp only [popS] at hr
      rw [if_pos (by rw [h11]; decide), popS_stop hlv] at hr
      exact mX1 hb s1 h11 hr
    · have h0 : lvT e.1 = 0 := by
        rcases (show lvT e.1 = 0 ∨ lvT e.1 = 1 by omega) with h | h
        · exact h
        · exact absurd ((lvT_v e.1).2.1.mp h) h11
      rw [popS_stop (show lvT (hdT (e :: l2)) < 1 by show lvT e.1 < 1; omega)] at hr
      have hl1 : bX (e :: l2) 1 = (7, 0) :: bX (e :: l2) 0 := bX_1 (by simp) h11
      show RunM (RM t n v0 b g L2 d (bX (e :: l2) 1) [la2] ls bk i) P
      rw [hl1]
      exact m_C (by omega) hG.2.1 (fun h => absurd (h1 h) h11) (fun _ V hV => hV) hr
