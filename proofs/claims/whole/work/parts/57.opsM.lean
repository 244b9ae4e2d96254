/-! 57.opsM: how the reference keeps what has been read; its small steps -/
def hasP (w : Nat) : Bool := !(List.elem w [1, 7, 9, 10, 12, 13, 15, 17, 18])
def kM (k : Nat) : Nat := if k = 1 then 1 else if k = 2 then 2 else if k = 3 then 3 else if k = 4 then 4 else if k = 5 then 6 else if k = 6 then 7 else if k = 7 then 8 else if k = 8 then 9 else if k = 9 then 10 else 5
def sM (k nu : Nat) : Nat := if k = 1 ∨ k = 2 then nu else if k ≤ 9 then 0 else k
def cl (k : Nat) (l : List Nat) : List Nat := if k = 7 then l else if k = 8 then l.drop 1 else []
def free (g : Nat → Nat → Nat) (L : Nat → List Nat) (m x : Nat) : Prop := ∀ q, dm g m q → x ∉ L q
def MTp (b : Nat) (g : Nat → Nat → Nat) (L : Nat → List Nat) (m : Nat) (v : St) (p : Nat) : Prop :=
  (gA v 5 (720 * b + p) = nI (kM (g 5 p)) ∧ gA v 6 (720 * b + p) = nI (sM (g 5 p) (g 6 p))) ∧
  (g 5 p ≠ 3 → g 5 p ≠ 7 → 1 ≤ (L p).length → gA v 7 (720 * b + p) = nI (720 * b + (L p).getD 0 0)) ∧
  (g 5 p = 3 → gA v 7 (720 * b + p) = nI (720 * b + (L (g 6 p)).getD 0 0)) ∧
  (g 5 p ≠ 7 → g 5 p ≠ 8 → 2 ≤ (L p).length → gA v 8 (720 * b + p) = nI (720 * b + (L p).getD 1 0)) ∧
  (g 5 p = 5 → 3 ≤ (L p).length → gA v 9 (720 * b + p) = nI (720 * b + (L p).getD 2 0)) ∧
  Ch (gA v 11) (720 * b) (gA v 10 (720 * b + p)) (cl (g 5 p) (L p)) ∧
  (free g L m p → gA v 11 (720 * b + p) = -1) ∧
  ((g 5 p = 7 → gA v 13 (720 * b + p) = nI (L p).length) ∧ (g 5 p = 8 → g 7 p ≠ 0 → gA v 13 (720 * b + p) = nI ((L p).length + 1))) ∧
  gA v 14 (720 * b + p) = -1 ∧
  (g 7 p ≠ 0 → gB v 19 (720 * b + p) = lN (mN (g 7 p)) ∧ (g 5 p ≠ 6 → gA v 12 (720 * b + p) = nI (g 8 p)))
def MTb (b : Nat) (g : Nat → Nat → Nat) (L : Nat → List Nat) (m : Nat) (v : St) : Prop :=
  (∀ k, k < m → gA v 2 (12 * b + k) = nI (g 0 k) ∧ gB v 15 (12 * b + k) = lN (mN (g 3 k))) ∧ ∀ p, dm g m p → MTp b g L m v p
/-- what reading into bank b leaves alone -/
def FM (b : Nat) (v0 v : St) : Prop := gI v 3 = gI v0 3 ∧ gI v 20 = gI v0 20 ∧ gA v 33 = gA v0 33 ∧ (∀ k, 2 ≤ k → k ≤ 4 → ∀ j, ¬ (12 * b ≤ j ∧ j < 12 * b + 12) → gA v k j = gA v0 k j) ∧ ∀ k, 5 ≤ k → k ≤ 14 → ∀ j, ¬ (720 * b ≤ j ∧ j < 720 * b + 720) → gA v k j = gA v0 k j
theorem FM.a {b : Nat} {v0 v : St} {k j : Nat} {x : Int32} (h : FM b v0 v) (hk : (2 ≤ k ∧ k ≤ 4 ∧ 12 * b ≤ j ∧ j < 12 * b + 12) ∨ (5 ≤ k ∧ k ≤ 14 ∧ 720 * b ≤ j ∧ j < 720 * b + 720) ∨ (15 ≤ k ∧ k ≤ 32)) : FM b v0 (sA v k j x) := by
  obtain ⟨h1, h2, h3, h4, h5⟩ := h
  refine ⟨h1, h2, ?_, fun q a c j' hj => ?_, fun q a c j' hj => ?_⟩
  · rw [gA_sA, if_neg (by omega)]; exact h3
  · rw [gA_sA]
    by_cases hq : q = k
    · rw [if_pos hq, updE, if_neg (by omega)]; exact h4 q a c j' hj
    · rw [if_neg hq]; exact h4 q a c j' hj
  · rw [gA_sA]
    by_cases hq : q = k
    · rw [if_pos hq, updE, if_neg (by omega)]; exact h5 q a c j' hj
    · rw [if_neg hq]; exact h5 q a c j' hj
def MS (b : Nat) (a c : Nat → Int32) : List (Nat × Nat) → Prop
  | [] => True
  | e :: l => a l.length = nI e.1 ∧ (hasP e.1 = true → c l.length = nI (720 * b + e.2)) ∧ MS b a c l
def VS (b : Nat) (a : Nat → Int32) : List Nat → Prop
  | [] => True
  | e :: l => a l.length = nI (720 * b + e) ∧ VS b a l
def LSt (b : Nat) (a : Nat → Int64) (c : Nat → Int32) : List (Nat × Nat) → Prop
  | [] => True
  | e :: l => a l.length = lN (mN e.1) ∧ c l.length = nI (720 * b + e.2) ∧ LSt b a c l
theorem MS_upd {b : Nat} {a c : Nat → Int32} : ∀ {l : List (Nat × Nat)} {j : Nat} {x y : Int32}, MS b a c l → l.length ≤ j → MS b (upd a j x) (upd c j y) l
  | [], _, _, _, _, _ => trivial
  | e :: l, j, x, y, h, hj => by
    simp only [List.length_cons] at hj
    exact ⟨by rw [updE, if_neg (by omega)]; exact h.1, fun hp => by rw [updE, if_neg (by omega)]; exact h.2.1 hp, MS_upd h.2.2 (by omega)⟩
theorem VS_upd {b : Nat} {a : Nat → Int32} : ∀ {l : List Nat} {j : Nat} {x : Int32}, VS b a l → l.length ≤ j → VS b (upd a j x) l
  | [], _, _, _, _ => trivial
  | e :: l, j, x, h, hj => by
    simp only [List.length_cons] at hj
    exact ⟨by rw [updE, if_neg (by omega)]; exact h.1, VS_upd h.2 (by omega)⟩
theorem LS_upd {b : Nat} {a : Nat → Int64} {c : Nat → Int32} : ∀ {l : List (Nat × Nat)} {j : Nat} {x : Int64} {y : Int32}, LSt b a c l → l.length ≤ j → LSt b (vp_updL a j x) (upd c j y) l
  | [], _, _, _, _, _ => trivial
  | e :: l, j, x, y, h, hj => by
    simp only [List.length_cons] at hj
    exact ⟨by rw [updLE, if_neg (by omega)]; exact h.1, by rw [updE, if_neg (by omega)]; exact h.2.1, LS_upd h.2.2 (by omega)⟩
/-- the reference, in a definition's reading -/
def RM (t : Nat → Nat) (n : Nat) (v0 : St) (b : Nat) (g : Nat → Nat → Nat) (L : Nat → List Nat) (d : Nat) (T : List (Nat × Nat)) (vs : List Nat) (ls : List (Nat × Nat)) (bk i : Nat) (v : St) : Prop :=
  TpM v t n ∧ TkM v t n i ∧ FM b v0 v ∧ MTb b g L (d + 1) v ∧ (gI v 2 = nI b ∧ gI v 10 = nI d ∧ gI v 9 = nI (g 1 d) ∧ gI v 13 = 1 ∧ gI v 14 = nI bk) ∧ ((∀ k, k < d → gA v 3 (12 * b + k) = nI (g 1 k) ∧ gA v 4 (12 * b + k) = nI (720 * b + g 2 k)) ∧ ∀ k, k < g 0 d → gB v 16 k = lN (mN (g 4 k))) ∧ (gI v 11 = nI T.length ∧ MS b (gA v 20) (gA v 21) T) ∧ (gI v 12 = nI vs.length ∧ VS b (gA v 22) vs) ∧ (gI v 8 = nI ls.length ∧ LSt b (gB v 17) (gA v 18) ls)
/-- the reference, with a fault at f -/
def FlM (n : Nat) (v0 : St) (b f D : Nat) (v : St) : Prop := FM b v0 v ∧ gI v 13 = 0 ∧ gI v 4 = nI f ∧ gI v 2 = nI b ∧ gI v 1 = nI n ∧ (∃ x, x ≤ D ∧ gI v 11 = nI x) ∧ (∃ x, x ≤ D ∧ gI v 12 = nI x) ∧ (gI v 6 = 4 → f < 1500)
theorem mt_le (k : Nat) : mt k ≤ 5 := by unfold mt; repeat' split <;> try omega
theorem tk_sign {t : Nat → Nat} {n i : Nat} (h : mt (tk t n i) = 4) : tp t n i < n ∧ tk t n i = t (tp t n i) := by
  have h1 : 10 ≤ tk t n i := by
    unfold mt at h; repeat' split at h <;> try omega
  have hw := wk_r (eC t (tp t n i) (te t n i - tp t n i))
  unfold tk at h1 ⊢
  split
  · next h2 =>
    rw [if_pos h2] at h1
    refine ⟨h2, ?_⟩
    split
    · next h3 => rw [if_pos h3] at h1; split at h1 <;> (try split at h1) <;> omega
    · next h3 =>
      rw [if_neg h3] at h1
      split
      · rfl
      · next h4 => rw [if_neg h4] at h1; omega
  · next h2 => rw [if_neg h2] at h1; omega
theorem m_need {t : Nat → Nat} {n : Nat} {v0 v : St} {b : Nat} {g : Nat → Nat → Nat} {L : Nat → List Nat} {d : Nat} {T : List (Nat × Nat)} {vs : List Nat} {ls : List (Nat × Nat)} {bk i : Nat} (h : RM t n v0 b g L d T vs ls bk i v) (c : Bool) {x : Int32} (hx : x = b2i c) {D : Nat} (hD : T.length ≤ D ∧ vs.length ≤ D) {P : St → Prop} (ky : c = true → ∀ V, RM t n v0 b g L d T vs ls bk i V → P V) (kn : c = false → ∀ V, FlM n v0 b (tp t n i) D V → P V) : wp_X7_need v x P := by
  obtain ⟨hT, hK, hF, hM, ⟨h2, h10, h9, h13, h14⟩, hR, hS, hV, hL⟩ := h
  subst hx
  refine br_n (by rw [h13]; decide) ?_
  cases c with
  | true => exact br_n (by decide) (nm_i (ky rfl _ ⟨hT, hK, hF, hM, ⟨h2, h10, h9, rfl, h14⟩, hR, hS, hV, hL⟩))
  | false =>
    refine br_p rfl (nm_i (kn rfl _ ⟨hF, rfl, hK.1, h2, hT.2.1, ⟨_, hD.1, hS.1⟩, ⟨_, hD.2, hV.1⟩, fun h6 => ?_⟩))
    have h6 : gI v 6 = 4 := h6
    rw [hK.2.2.1] at h6
    have := mt_le (tk t n i)
    simp (disch := omega) only [ln_0, ln_1, ln_2, ln_3, ln_4, ln_5, ln_6, ln_7, ln_8, ln_9, ln_10, ln_11, ln_12, ln_13, ln_14, ln_15, ln_16, ln_17, ln_18, ln_19, ln_20, ln_21, ln_22, ln_23, ln_24, ln_25, ln_26, ln_27, ln_28, ln_29, ln_30, ln_31, ln_32, ln_33, ln_34, ln_35, ln_36, ln_37, ln_38, ln_39, ln_40, ln_41, ln_42, ln_43, ln_44, ln_45, ln_46, ln_47, ln_48, ln_49, ln_50, ln_51, ln_52, ln_53, ln_54, ln_55, ln_56, ln_57, ln_58, ln_59, ln_60, ln_61, ln_62, ln_91, ln_93, ln_97, ln_122, ln_120, ln_123, ln_124, ln_255, ln_256, ln_300, ln_720, ln_1500, ln_12000, ln_18000, nI_leI, nI_ltI, nI_eq] at h6
    have := (tk_sign h6).1
    have := hT.1
    omega
theorem f_go {n : Nat} {v0 v : St} {b f D : Nat} (h : FlM n v0 b f D v) {P : St → Prop} (k : P v) : wp_X7_go v P := br_p h.2.1 k
theorem f_need {n : Nat} {v0 v : St} {b f D : Nat} (h : FlM n v0 b f D v) {x : Int32} {P : St → Prop} (k : ∀ V, FlM n v0 b f D V → P V) : wp_X7_need v x P := by
  obtain ⟨a1, a2, a3, a4, a5, a6, a7, a8⟩ := h
  exact br_p a2 (nm_i (k _ ⟨a1, rfl, a3, a4, a5, a6, a7, a8⟩))
theorem f_later {n : Nat} {v0 v : St} {b f D : Nat} (h : FlM n v0 b f D v) (hD : D < 2000) {x y : Int32} {P : St → Prop} (k : ∀ V, FlM n v0 b f (D + 1) V → P V) : wp_X7_later v x y P := by
  obtain ⟨a1, a2, a3, a4, a5, ⟨z, hz, a6⟩, ⟨w, hw, a7⟩, a8⟩ := h
  refine ⟨by rw [a6]; exact inN (by omega) (by decide), nm_i ⟨by show vp_in (gI v 11) 12000; rw [a6]; exact inN (by omega) (by decide), nm_i (nm_i ?_)⟩⟩
  exact k _ ⟨(a1.a (by omega)).a (by omega), a2, a3, a4, a5, ⟨z + 1, by omega, by show gI v 11 + 1 = _; rw [a6, nI_1]⟩, ⟨w, by omega, a7⟩, a8⟩
theorem f_give {n : Nat} {v0 v : St} {b f D : Nat} (h : FlM n v0 b f D v) (hD : D < 1999) {x : Int32} {P : St → Prop} (k : ∀ V, FlM n v0 b f (D + 1) V → P V) : wp_X7_give v x P := by
  obtain ⟨a1, a2, a3, a4, a5, ⟨z, hz, a6⟩, ⟨w, hw, a7⟩, a8⟩ := h
  refine ⟨by rw [a7]; exact inN (by omega) (by decide), nm_i (nm_i ?_)⟩
  exact k _ ⟨a1.a (by omega), a2, a3, a4, a5, ⟨z, by omega, a6⟩, ⟨w + 1, by omega, by show gI v 12 + 1 = _; rw [a7, nI_1]⟩, a8⟩
theorem f_isSign {n : Nat} {v0 v : St} {b f D : Nat} (h : FlM n v0 b f D v) {x : Int32} {P : Int32 → St → Prop} (k : ∀ r, P r v) : wp_X7_isSign v x P := by
  obtain ⟨a1, a2, a3, a4, a5, a6, a7, a8⟩ := h
  refine br_b (fun h6 => ⟨by rw [a3]; exact inN (a8 h6) (by decide), br_b (fun _ => ⟨bz1, k 1⟩) (fun _ => ⟨bz0, k 0⟩)⟩) (fun _ => ⟨bz0, k 0⟩)
theorem mt_sign {k : Nat} (h : 10 ≤ k) : mt k = 4 := by unfold mt; rw [if_neg (by omega), if_neg (by omega), if_neg (by omega), if_neg (by omega), if_neg (by omega)]
theorem sgN_10 : ∀ c ∈ sgN, 10 ≤ c ∧ c < 128 := by decide
theorem x_isSign {t : Nat → Nat} {n i : Nat} {v : St} (hT : TpM v t n) (hK : TkM v t n i) (hi : i ≤ n) {c : Nat} (hc : c ∈ sgN) {x : Int32} (hx : x = nI c) {P : Int32 → St → Prop} (k : P (b2i (decide (tk t n i = c))) v) : wp_X7_isSign v x P := by
  subst hx
  have hn : n ≤ 1500 := hT.1
  have hm := mt_le (tk t n i)
  refine br_b (fun h => ?_) (fun h => ⟨bz0, ?_⟩)
  · rw [hK.2.2.1] at h
    simp (disch := omega) only [ln_0, ln_1, ln_2, ln_3, ln_4, ln_5, ln_6, ln_7, ln_8, ln_9, ln_10, ln_11, ln_12, ln_13, ln_14, ln_15, ln_16, ln_17, ln_18, ln_19, ln_20, ln_21, ln_22, ln_23, ln_24, ln_25, ln_26, ln_27, ln_28, ln_29, ln_30, ln_31, ln_32, ln_33, ln_34, ln_35, ln_36, ln_37, ln_38, ln_39, ln_40, ln_41, ln_42, ln_43, ln_44, ln_45, ln_46, ln_47, ln_48, ln_49, ln_50, ln_51, ln_52, ln_53, ln_54, ln_55, ln_56, ln_57, ln_58, ln_59, ln_60, ln_61, ln_62, ln_91, ln_93, ln_97, ln_122, ln_120, ln_123, ln_124, ln_255, ln_256, ln_300, ln_720, ln_1500, ln_12000, ln_18000, nI_leI, nI_ltI, nI_eq] at h
    obtain ⟨h1, h2⟩ := tk_sign h
    obtain ⟨hb1, hb2⟩ := hT.2.2 _ h1
    rw [hK.1]
    refine ⟨inN (by omega) (by decide), ?_⟩
    rw [ixN (by omega), hb2]
    refine br_b (fun e => ⟨bz1, ?_⟩) (fun e => ⟨bz0, ?_⟩)
    · rw [ch_eq _ hb1 c hc, ← h2] at e
      rw [decide_eq_true e] at k; exact k
    · rw [ch_eq _ hb1 c hc, ← h2] at e
      rw [decide_eq_false e] at k; exact k
  · rw [hK.2.2.1] at h
    simp (disch := omega) only [ln_0, ln_1, ln_2, ln_3, ln_4, ln_5, ln_6, ln_7, ln_8, ln_9, ln_10, ln_11, ln_12, ln_13, ln_14, ln_15, ln_16, ln_17, ln_18, ln_19, ln_20, ln_21, ln_22, ln_23, ln_24, ln_25, ln_26, ln_27, ln_28, ln_29, ln_30, ln_31, ln_32, ln_33, ln_34, ln_35, ln_36, ln_37, ln_38, ln_39, ln_40, ln_41, ln_42, ln_43, ln_44, ln_45, ln_46, ln_47, ln_48, ln_49, ln_50, ln_51, ln_52, ln_53, ln_54, ln_55, ln_56, ln_57, ln_58, ln_59, ln_60, ln_61, ln_62, ln_91, ln_93, ln_97, ln_122, ln_120, ln_123, ln_124, ln_255, ln_256, ln_300, ln_720, ln_1500, ln_12000, ln_18000, nI_leI, nI_ltI, nI_eq] at h
    have : tk t n i ≠ c := fun e => h (mt_sign (by rw [e]; exact (sgN_10 c hc).1))
    rw [decide_eq_false this] at k; exact k
theorem m_isSign {t : Nat → Nat} {n : Nat} {v0 v : St} {b : Nat} {g : Nat → Nat → Nat} {L : Nat → List Nat} {d : Nat} {T : List (Nat × Nat)} {vs : List Nat} {ls : List (Nat × Nat)} {bk i : Nat} (h : RM t n v0 b g L d T vs ls bk i v) (hi : i ≤ n) {c : Nat} (hc : c ∈ sgN) {x : Int32} (hx : x = nI c) {P : Int32 → St → Prop} (k : P (b2i (decide (tk t n i = c))) v) : wp_X7_isSign v x P := x_isSign h.1 h.2.1 hi hc hx k
theorem FrM_FM {b : Nat} {v0 v V : St} (h : FM b v0 v) (f : FrM v V) : FM b v0 V := by
  obtain ⟨h1, h2, h3, h4, h5⟩ := h
  refine ⟨by rw [f.1 3 (by decide) (by decide) (by decide) (by decide)]; exact h1, by rw [f.1 20 (by decide) (by decide) (by decide) (by decide)]; exact h2, by rw [f.2.2.1]; exact h3, fun k a c j hj => by rw [f.2.2.1]; exact h4 k a c j hj, fun k a c j hj => by rw [f.2.2.1]; exact h5 k a c j hj⟩
theorem FrM_MT {b : Nat} {g : Nat → Nat → Nat} {L : Nat → List Nat} {m : Nat} {v V : St} (h : MTb b g L m v) (f : FrM v V) : MTb b g L m V := by
  unfold MTb MTp at *
  simp only [f.2.2.1, f.2.2.2]; exact h
theorem FrM_RM {t : Nat → Nat} {n : Nat} {v0 v V : St} {b : Nat} {g : Nat → Nat → Nat} {L : Nat → List Nat} {d : Nat} {T : List (Nat × Nat)} {vs : List Nat} {ls : List (Nat × Nat)} {bk i i' : Nat} (h : RM t n v0 b g L d T vs ls bk i v) (f : FrM v V) (hK : TkM V t n i') : RM t n v0 b g L d T vs ls bk i' V := by
  obtain ⟨hT, _, hF, hM, ⟨h2, h10, h9, h13, h14⟩, hR, hS, hV, hL⟩ := h
  refine ⟨hT.fr f, hK, FrM_FM hF f, FrM_MT hM f, ⟨?_, ?_, ?_, ?_, ?_⟩, ?_, ?_, ?_, ?_⟩
  · rw [f.1 2 (by decide) (by decide) (by decide) (by decide)]; exact h2
  · rw [f.1 10 (by decide) (by decide) (by decide) (by decide)]; exact h10
  · rw [f.1 9 (by decide) (by decide) (by decide) (by decide)]; exact h9
  · rw [f.1 13 (by decide) (by decide) (by decide) (by decide)]; exact h13
  · rw [f.1 14 (by decide) (by decide) (by decide) (by decide)]; exact h14
  · rw [f.2.2.1, f.2.2.1, f.2.2.2]; exact hR
  · rw [f.1 11 (by decide) (by decide) (by decide) (by decide), f.2.2.1, f.2.2.1]; exact hS
  · rw [f.1 12 (by decide) (by decide) (by decide) (by decide), f.2.2.1]; exact hV
  · rw [f.1 8 (by decide) (by decide) (by decide) (by decide), f.2.2.1, f.2.2.2]; exact hL
theorem m_go {t : Nat → Nat} {n : Nat} {v0 v : St} {b : Nat} {g : Nat → Nat → Nat} {L : Nat → List Nat} {d : Nat} {T : List (Nat × Nat)} {vs : List Nat} {ls : List (Nat × Nat)} {bk i : Nat} (h : RM t n v0 b g L d T vs ls bk i v) (hi : i ≤ n) {P : St → Prop} (k : ∀ V, RM t n v0 b g L d T vs ls bk (te t n i) V → P V) : wp_X7_go v P := by
  have hte := tp_te (t := t) hi
  have hT := h.1
  have hK := h.2.1
  refine br_n (by rw [h.2.2.2.2.1.2.2.2.1]; decide) (nm_i ?_)
  have f0 : FrM v (sI v 4 (gI v 5)) := FrM.i _ (by omega)
  obtain ⟨V, h1, h2, h3⟩ := lookM (v := sI v 4 (gI v 5)) (t := t) (n := n) (i := te t n i) (hT.fr f0) hK.2.1 hte.2.2.1
  exact h1 _ (k V (FrM_RM h (f0.tr h2) h3))
theorem m_later {t : Nat → Nat} {n : Nat} {v0 v : St} {b : Nat} {g : Nat → Nat → Nat} {L : Nat → List Nat} {d : Nat} {T : List (Nat × Nat)} {vs : List Nat} {ls : List (Nat × Nat)} {bk i : Nat} (h : RM t n v0 b g L d T vs ls bk i v) {w p : Nat} {x y : Int32} (hx : x = nI w) (hy : hasP w = true → y = nI (720 * b + p)) (hl : T.length < 12000) {P : St → Prop} (k : ∀ V, RM t n v0 b g L d ((w, p) :: T) vs ls bk i V → P V) : wp_X7_later v x y P := by
  obtain ⟨hT, hK, hF, hM, hN, hR, ⟨h11, hS⟩, hV, hL⟩ := h
  subst hx
  refine ⟨by rw [h11]; exact inN hl (by decide), nm_i ⟨by show vp_in (gI v 11) 12000; rw [h11]; exact inN hl (by decide), nm_i (nm_i ?_)⟩⟩
  refine k _ ⟨hT, hK, (hF.a (by omega)).a (by omega), hM, hN, hR, ⟨by show gI v 11 + 1 = _; rw [h11, nI_1]; rfl, ?_⟩, hV, hL⟩
  show MS b (upd (gA v 20) (ix (gI v 11)) (nI w)) (upd (gA v 21) (ix (gI v 11)) y) ((w, p) :: T)
  rw [h11, ixN (by omega)]
  exact ⟨by rw [updE, if_pos rfl], fun hp => by rw [updE, if_pos rfl]; exact hy hp, MS_upd hS (Nat.le_refl _)⟩
theorem m_give {t : Nat → Nat} {n : Nat} {v0 v : St} {b : Nat} {g : Nat → Nat → Nat} {L : Nat → List Nat} {d : Nat} {T : List (Nat × Nat)} {vs : List Nat} {ls : List (Nat × Nat)} {bk i : Nat} (h : RM t n v0 b g L d T vs ls bk i v) {p : Nat} {x : Int32} (hx : x = nI (720 * b + p)) (hl : vs.length < 2000) {P : St → Prop} (k : ∀ V, RM t n v0 b g L d T (p :: vs) ls bk i V → P V) : wp_X7_give v x P := by
  obtain ⟨hT, hK, hF, hM, hN, hR, hS, ⟨h12, hV⟩, hL⟩ := h
  subst hx
  refine ⟨by rw [h12]; exact inN hl (by decide), nm_i (nm_i ?_)⟩
  refine k _ ⟨hT, hK, hF.a (by omega), hM, hN, hR, hS, ⟨by show gI v 12 + 1 = _; rw [h12, nI_1]; rfl, ?_⟩, hL⟩
  show VS b (upd (gA v 22) (ix (gI v 12)) (nI (720 * b + p))) (p :: vs)
  rw [h12, ixN (by omega)]
  exact ⟨by rw [updE, if_pos rfl], VS_upd hV (Nat.le_refl _)⟩
theorem m_got {t : Nat → Nat} {n : Nat} {v0 v : St} {b : Nat} {g : Nat → Nat → Nat} {L : Nat → List Nat} {d : Nat} {T : List (Nat × Nat)} {vs : List Nat} {ls : List (Nat × Nat)} {bk i : Nat} {p : Nat} (h : RM t n v0 b g L d T (p :: vs) ls bk i v) (hl : vs.length < 2000) {P : Int32 → St → Prop} (k : ∀ V, RM t n v0 b g L d T vs ls bk i V → P (nI (720 * b + p)) V) : wp_X7_got v P := by
  obtain ⟨hT, hK, hF, hM, hN, hR, hS, ⟨h12, hV⟩, hL⟩ := h
  have e1 : gI v 12 - 1 = nI vs.length := by rw [h12]; exact nI_pred _
  refine nm_i ⟨by show vp_in (gI v 12 - 1) 2000; rw [e1]; exact inN hl (by decide), ?_⟩
  show P (gA v 22 (ix (gI v 12 - 1))) _
  rw [e1, ixN (by omega), hV.1]
  exact k _ ⟨hT, hK, hF, hM, hN, hR, hS, ⟨rfl, hV.2⟩, hL⟩
