/-! 76.headM: the reference at a definition's head -/
theorem sI_same {v : St} {k : Nat} {x : Int32} (h : gI v k = x) : sI v k x = v := by
  subst h
  refine Prod.ext (funext fun j => ?_) rfl
  show gI (sI v k (gI v k)) j = gI v j
  rw [gI_sI]; split
  · next h => rw [h]
  · rfl
def BtM (t : Nat → Nat) (n : Nat) (v0 : St) (b : Nat) (g : Nat → Nat → Nat) (L : Nat → List Nat) (m i : Nat) (v : St) : Prop :=
  TpM v t n ∧ TkM v t n i ∧ FM b v0 v ∧ MTb b g L m v ∧ (gI v 2 = nI b ∧ gI v 10 = nI m ∧ gI v 13 = 1) ∧ ∀ k, k < m → gA v 3 (12 * b + k) = nI (g 1 k) ∧ gA v 4 (12 * b + k) = nI (720 * b + g 2 k)
def HM0 (t : Nat → Nat) (n : Nat) (v0 : St) (b : Nat) (g : Nat → Nat → Nat) (L : Nat → List Nat) (d i : Nat) (v : St) : Prop := BtM t n v0 b g L d i v ∧ gB v 15 (12 * b + d) = lN (mN (g 3 d))
def HM (t : Nat → Nat) (n : Nat) (v0 : St) (b : Nat) (g : Nat → Nat → Nat) (L : Nat → List Nat) (d i : Nat) (v : St) : Prop := HM0 t n v0 b g L d i v ∧ gA v 2 (12 * b + d) = nI (g 0 d) ∧ ∀ k, k < g 0 d → gB v 16 k = lN (mN (g 4 k))
def FlH (n : Nat) (v0 : St) (b f : Nat) (v : St) : Prop := FM b v0 v ∧ gI v 13 = 0 ∧ gI v 4 = nI f ∧ gI v 2 = nI b ∧ gI v 1 = nI n ∧ (gI v 6 = 4 → f < 1500)
theorem FlM.h {n : Nat} {v0 v : St} {b f D : Nat} (h : FlM n v0 b f D v) : FlH n v0 b f v := ⟨h.1, h.2.1, h.2.2.1, h.2.2.2.1, h.2.2.2.2.1, h.2.2.2.2.2.2.2⟩
theorem FrM_Bt {t : Nat → Nat} {n : Nat} {v0 v V : St} {b : Nat} {g : Nat → Nat → Nat} {L : Nat → List Nat} {m i i' : Nat} (h : BtM t n v0 b g L m i v) (f : FrM v V) (hK : TkM V t n i') : BtM t n v0 b g L m i' V := by
  obtain ⟨hT, _, hF, hM, ⟨h2, h10, h13⟩, hR⟩ := h
  refine ⟨hT.fr f, hK, FrM_FM hF f, FrM_MT hM f, ⟨?_, ?_, ?_⟩, ?_⟩
  · rw [f.1 2 (by decide) (by decide) (by decide) (by decide)]; exact h2
  · rw [f.1 10 (by decide) (by decide) (by decide) (by decide)]; exact h10
  · rw [f.1 13 (by decide) (by decide) (by decide) (by decide)]; exact h13
  · rw [f.2.2.1, f.2.2.1]; exact hR
theorem FrM_H0 {t : Nat → Nat} {n : Nat} {v0 v V : St} {b : Nat} {g : Nat → Nat → Nat} {L : Nat → List Nat} {m i i' : Nat} (h : HM0 t n v0 b g L m i v) (f : FrM v V) (hK : TkM V t n i') : HM0 t n v0 b g L m i' V := ⟨FrM_Bt h.1 f hK, by rw [f.2.2.2]; exact h.2⟩
theorem FrM_H {t : Nat → Nat} {n : Nat} {v0 v V : St} {b : Nat} {g : Nat → Nat → Nat} {L : Nat → List Nat} {m i i' : Nat} (h : HM t n v0 b g L m i v) (f : FrM v V) (hK : TkM V t n i') : HM t n v0 b g L m i' V := ⟨FrM_H0 h.1 f hK, by rw [f.2.2.1]; exact h.2.1, by rw [f.2.2.2]; exact h.2.2⟩
theorem Bt_fl {t : Nat → Nat} {n : Nat} {v0 v : St} {b : Nat} {g : Nat → Nat → Nat} {L : Nat → List Nat} {m i : Nat} (h : BtM t n v0 b g L m i v) (hi : i ≤ n) : FlH n v0 b (tp t n i) (sI v 13 0) := by
  obtain ⟨hT, hK, hF, hM, ⟨h2, h10, h13⟩, hR⟩ := h
  have hm := mt_le (tk t n i)
  have hn : n ≤ 1500 := hT.1
  refine ⟨hF, rfl, hK.1, h2, hT.2.1, fun h6 => ?_⟩
  have h6 : gI v 6 = 4 := h6
  rw [hK.2.2.1] at h6
  simp (disch := omega) only [ln_0, ln_1, ln_2, ln_3, ln_4, ln_5, ln_6, ln_7, ln_8, ln_9, ln_10, ln_11, ln_12, ln_13, ln_14, ln_15, ln_16, ln_17, ln_18, ln_19, ln_20, ln_21, ln_22, ln_23, ln_24, ln_25, ln_26, ln_27, ln_28, ln_29, ln_30, ln_31, ln_32, ln_33, ln_34, ln_35, ln_36, ln_37, ln_38, ln_39, ln_40, ln_41, ln_42, ln_43, ln_44, ln_45, ln_46, ln_47, ln_48, ln_49, ln_50, ln_51, ln_52, ln_53, ln_54, ln_55, ln_56, ln_57, ln_58, ln_59, ln_60, ln_61, ln_62, ln_91, ln_93, ln_97, ln_122, ln_120, ln_123, ln_124, ln_255, ln_256, ln_300, ln_720, ln_1500, ln_12000, ln_18000, nI_leI, nI_ltI, nI_eq] at h6
  have := (tk_sign h6).1; omega
theorem x_need {v : St} (h13 : gI v 13 = 1) (c : Bool) {x : Int32} (hx : x = b2i c) {P : St → Prop} (ky : c = true → P v) (kn : c = false → P (sI v 13 0)) : wp_X7_need v x P := by
  subst hx
  refine br_n (by rw [h13]; decide) ?_
  cases c with
  | true => exact br_n (by decide) (nm_i (by rw [sI_same h13]; exact ky rfl))
  | false => exact br_p rfl (nm_i (kn rfl))
theorem x_go {t : Nat → Nat} {n i : Nat} {v : St} (hT : TpM v t n) (hK : TkM v t n i) (h13 : gI v 13 = 1) (hi : i ≤ n) {P : St → Prop} (k : ∀ V, FrM v V → TkM V t n (te t n i) → P V) : wp_X7_go v P := by
  have hte := tp_te (t := t) hi
  refine br_n (by rw [h13]; decide) (nm_i ?_)
  have f0 : FrM v (sI v 4 (gI v 5)) := FrM.i _ (by omega)
  obtain ⟨V, h1, h2, h3⟩ := lookM (v := sI v 4 (gI v 5)) (t := t) (n := n) (i := te t n i) (hT.fr f0) hK.2.1 hte.2.2.1
  exact h1 _ (k V (f0.tr h2) h3)
theorem h_need {n : Nat} {v0 v : St} {b f : Nat} (h : FlH n v0 b f v) {x : Int32} {P : St → Prop} (k : ∀ V, FlH n v0 b f V → P V) : wp_X7_need v x P := br_p h.2.1 (nm_i (k _ ⟨h.1, rfl, h.2.2⟩))
theorem h_isSign {n : Nat} {v0 v : St} {b f : Nat} (h : FlH n v0 b f v) {x : Int32} {P : Int32 → St → Prop} (k : ∀ r, P r v) : wp_X7_isSign v x P := by
  obtain ⟨a1, a2, a3, a4, a5, a8⟩ := h
  refine br_b (fun h6 => ⟨by rw [a3]; exact inN (a8 h6) (by decide), br_b (fun _ => ⟨bz1, k 1⟩) (fun _ => ⟨bz0, k 0⟩)⟩) (fun _ => ⟨bz0, k 0⟩)
theorem h_needSign {n : Nat} {v0 v : St} {b f : Nat} (h : FlH n v0 b f v) {x : Int32} {P : St → Prop} (k : ∀ V, FlH n v0 b f V → P V) : wp_X7_needSign v x P := h_isSign h (fun r => h_need h (fun V hV => br_p hV.2.1 (k V hV)))
theorem h_103 {n : Nat} {v0 v : St} {b f : Nat} (h : FlH n v0 b f v) {P : St → Prop} (k : ∀ V, FlH n v0 b f V → P V) : wp_X7_readDefinition_103 v P := h_needSign h (fun V hV => br_p hV.2.1 (h_needSign hV k))
theorem h_86 {n : Nat} {v0 v : St} {b f : Nat} (h : FlH n v0 b f v) {P : St → Prop} (k : ∀ V, FlH n v0 b f V → P V) : wp_X7_readDefinition_86 v P := h_needSign h (fun V hV => br_p hV.2.1 (h_103 hV k))
theorem x_needSign {t : Nat → Nat} {n i : Nat} {v : St} (hT : TpM v t n) (hK : TkM v t n i) (h13 : gI v 13 = 1) (hi : i ≤ n) {c : Nat} (hc : c ∈ sgN) {x : Int32} (hx : x = nI c) {P : St → Prop} (ky : tk t n i = c → ∀ V, FrM v V → TkM V t n (te t n i) → P V) (kn : tk t n i ≠ c → P (sI v 13 0)) : wp_X7_needSign v x P := by
  refine x_isSign hT hK hi hc hx (x_need h13 (decide (tk t n i = c)) rfl (fun h => br_n (by rw [h13]; decide) (x_go hT hK h13 hi (ky (of_decide_eq_true h)))) (fun h => br_p rfl (kn (of_decide_eq_false h))))
theorem mt_1 {k : Nat} : mt k = 1 ↔ k = 2 := by unfold mt; repeat' split <;> try omega
theorem g6_1 {t : Nat → Nat} {n i : Nat} {v : St} (hK : TkM v t n i) : gI v 6 = 1 ↔ tk t n i = 2 := by
  have hm := mt_le (tk t n i)
  rw [hK.2.2.1, ← mt_1]
  simp (disch := omega) only [ln_0, ln_1, ln_2, ln_3, ln_4, ln_5, ln_6, ln_7, ln_8, ln_9, ln_10, ln_11, ln_12, ln_13, ln_14, ln_15, ln_16, ln_17, ln_18, ln_19, ln_20, ln_21, ln_22, ln_23, ln_24, ln_25, ln_26, ln_27, ln_28, ln_29, ln_30, ln_31, ln_32, ln_33, ln_34, ln_35, ln_36, ln_37, ln_38, ln_39, ln_40, ln_41, ln_42, ln_43, ln_44, ln_45, ln_46, ln_47, ln_48, ln_49, ln_50, ln_51, ln_52, ln_53, ln_54, ln_55, ln_56, ln_57, ln_58, ln_59, ln_60, ln_61, ln_62, ln_91, ln_93, ln_97, ln_122, ln_120, ln_123, ln_124, ln_255, ln_256, ln_300, ln_720, ln_1500, ln_12000, ln_18000, nI_leI, nI_ltI, nI_eq]
theorem fnd_ex {f : Nat → Nat} {e m : Nat} : fnd f e m 0 < m ↔ ∃ q, q < m ∧ f q = e := by
  obtain ⟨h1, h2, h3, h4⟩ := fnd_le f e m 0
  constructor
  · intro h; exact ⟨_, h, h3 (by omega)⟩
  · rintro ⟨q, hq, he⟩
    by_cases c : fnd f e m 0 < m
    · exact c
    · exact absurd he (h4 q (Nat.zero_le _) (by omega))
theorem m_isTaken {v : St} {b : Nat} {g : Nat → Nat → Nat} {m : Nat} (hb : b ≤ 1) (hm : m ≤ 12) (h2 : gI v 2 = nI b) (h10 : gI v 10 = nI m) (hB : ∀ k, k < m → gB v 15 (12 * b + k) = lN (mN (g 3 k))) (hN : ∀ k, k < m → NC (g 3 k)) {e : Nat} (he : NC e) {x : Int64} (hx : x = lN (mN e)) {P : Int32 → St → Prop} (k : P (b2i (decide (fnd (g 3) e m 0 < m))) v) : wp_X7_isTaken v x P := by
  subst hx
  have key : ∀ f j (c : Bool), j + f = m → (c = true ↔ ∃ q, q < j ∧ g 3 q = e) → wp_X7_isTaken_5 P (f + 1) v (lN (mN e)) (b2i c) (nI j) := by
    intro f
    induction f with
    | zero =>
      intro j c hj hc
      have : c = decide (fnd (g 3) e m 0 < m) := by
        cases c with
        | true => rw [decide_eq_true (fnd_ex.mpr (by rw [← show j = m by omega]; exact hc.mp rfl))]
        | false => rw [decide_eq_false (fun h => by have := fnd_ex.mp h; rw [← show j = m by omega] at this; exact absurd (hc.mpr this) (by decide))]
      refine br_p (by rw [h10]; simp (disch := omega) only [nI_leI, nI_ltI, nI_eq]; omega) ⟨?_, by rw [this]; exact k⟩
      cases c
      · exact bz0
      · exact bz1
    | succ f ih =>
      intro j c hj hc
      refine br_n (by rw [h10]; simp (disch := omega) only [nI_leI, nI_ltI, nI_eq]; omega) ?_
      cases c with
      | true =>
        refine br_n (by decide) (nm_i ?_)
        rw [nI_1]
        exact ih (j + 1) true (by omega) ⟨fun _ => by obtain ⟨q, hq, h⟩ := hc.mp rfl; exact ⟨q, by omega, h⟩, fun _ => rfl⟩
      | false =>
        have hno : ∀ q, q < j → g 3 q ≠ e := fun q hq h => absurd (hc.mpr ⟨q, hq, h⟩) (by decide)
        have e12 : 12 * gI v 2 + nI j = nI (12 * b + j) := by rw [h2]; show nI 12 * nI b + nI j = _; rw [pk_mul, nI_add]
        refine br_p rfl ?_
        rw [e12]
        refine ⟨inN (by omega) (by decide), ?_⟩
        rw [ixN (by omega), hB j (by omega)]
        refine br_b (fun c => nm_i ?_) (fun c => nm_i ?_)
        · have c := (nM_eq (hN j (by omega)) he).mp c
          rw [nI_1]
          exact ih (j + 1) true (by omega) ⟨fun _ => ⟨j, by omega, c⟩, fun _ => rfl⟩
        · have c := fun h => c ((nM_eq (hN j (by omega)) he).mpr h)
          rw [nI_1]
          refine ih (j + 1) false (by omega) ⟨fun h => absurd h (by decide), fun ⟨q, hq, h⟩ => ?_⟩
          rcases (show q < j ∨ q = j by omega) with hq | rfl
          · exact absurd h (hno q hq)
          · exact absurd h c
  exact ⟨m + 1, key m 0 false (by omega) ⟨fun h => absurd h (by decide), fun ⟨q, hq, _⟩ => absurd hq (Nat.not_lt_zero _)⟩⟩
/-- a definition's name -/
theorem m_def {t : Nat → Nat} {n : Nat} {v0 v : St} {b : Nat} {g : Nat → Nat → Nat} {L : Nat → List Nat} {m i : Nat} (h : BtM t n v0 b g L m i v) (hb : b ≤ 1) (hm : m ≤ 12) (hi : i ≤ n) (hN : ∀ k, k < m → NC (g 3 k)) {P : St → Prop}
    (ky : tk t n i = 2 → m < 12 → fnd (g 3) (nmT t n i) m 0 = m → ∀ V, HM0 t n v0 b (gH g m (nmT t n i)) L m (te t n i) V → wp_X7_readDefinition_86 V P)
    (kn : tk t n i ≠ 2 ∨ m = 12 ∨ fnd (g 3) (nmT t n i) m 0 < m → ∀ V, FlH n v0 b (tp t n i) V → P V) : wp_X7_readDefinition v P := by
  have hh := h
  obtain ⟨hT, hK, hF, hM, ⟨h2, h10, h13⟩, hR⟩ := h
  have hfl := Bt_fl hh hi
  have f22 : tk t n i ≠ 2 ∨ m = 12 ∨ fnd (g 3) (nmT t n i) m 0 < m → wp_X7_readDefinition_22 v P := fun c => x_need h13 false rfl (fun h => by cases h) (fun _ => br_p rfl (kn c _ hfl))
  refine br_b (fun c => ?_) (fun c => f22 (Or.inl (fun e => c ((g6_1 hK).mpr e))))
  have c2 := (g6_1 hK).mp c
  refine br_b (fun c => ?_) (fun c => ?_)
  · rw [h10] at c; simp (disch := omega) only [ln_0, ln_1, ln_2, ln_3, ln_4, ln_5, ln_6, ln_7, ln_8, ln_9, ln_10, ln_11, ln_12, ln_13, ln_14, ln_15, ln_16, ln_17, ln_18, ln_19, ln_20, ln_21, ln_22, ln_23, ln_24, ln_25, ln_26, ln_27, ln_28, ln_29, ln_30, ln_31, ln_32, ln_33, ln_34, ln_35, ln_36, ln_37, ln_38, ln_39, ln_40, ln_41, ln_42, ln_43, ln_44, ln_45, ln_46, ln_47, ln_48, ln_49, ln_50, ln_51, ln_52, ln_53, ln_54, ln_55, ln_56, ln_57, ln_58, ln_59, ln_60, ln_61, ln_62, ln_91, ln_93, ln_97, ln_122, ln_120, ln_123, ln_124, ln_255, ln_256, ln_300, ln_720, ln_1500, ln_12000, ln_18000, nI_leI, nI_ltI, nI_eq] at c
    exact f22 (Or.inr (Or.inl (by omega)))
  rw [h10] at c; simp (disch := omega) only [ln_0, ln_1, ln_2, ln_3, ln_4, ln_5, ln_6, ln_7, ln_8, ln_9, ln_10, ln_11, ln_12, ln_13, ln_14, ln_15, ln_16, ln_17, ln_18, ln_19, ln_20, ln_21, ln_22, ln_23, ln_24, ln_25, ln_26, ln_27, ln_28, ln_29, ln_30, ln_31, ln_32, ln_33, ln_34, ln_35, ln_36, ln_37, ln_38, ln_39, ln_40, ln_41, ln_42, ln_43, ln_44, ln_45, ln_46, ln_47, ln_48, ln_49, ln_50, ln_51, ln_52, ln_53, ln_54, ln_55, ln_56, ln_57, ln_58, ln_59, ln_60, ln_61, ln_62, ln_91, ln_93, ln_97, ln_122, ln_120, ln_123, ln_124, ln_255, ln_256, ln_300, ln_720, ln_1500, ln_12000, ln_18000, nI_leI, nI_ltI, nI_eq] at c
  have hNC := nmT_NC hi (Or.inl c2)
  refine x_need h13 true rfl (fun _ => br_n (by rw [h13]; decide) (x_nameOf hT hK hi c2 ?_)) (fun h => by cases h)
  refine m_isTaken (g := g) hb hm h2 h10 (fun k hk => (hM.1 k hk).2) hN hNC.1 rfl ?_
  have e12 : 12 * gI v 2 + gI v 10 = nI (12 * b + m) := by rw [h2, h10]; show nI 12 * nI b + nI m = _; rw [pk_mul, nI_add]
  have hfnd := fnd_le (g 3) (nmT t n i) m 0
  by_cases hf : fnd (g 3) (nmT t n i) m 0 < m
  · rw [decide_eq_true hf]
    refine br_n (by decide) (x_need h13 false rfl (fun h => by cases h) (fun _ => ?_))
    refine x_nameOf (v := sI v 13 0) hT hK hi c2 ?_
    have e12' : 12 * gI (sI v 13 0) 2 + gI (sI v 13 0) 10 = nI (12 * b + m) := e12
    rw [e12']
    refine ⟨inN (by omega) (by decide), nm_i (br_p rfl ?_)⟩
    have hfl2 : FlH n v0 b (tp t n i) (sB (sI v 13 0) 15 (ix (nI (12 * b + m))) (lN (mN (nmT t n i)))) := hfl
    exact h_86 hfl2 (kn (Or.inr (Or.inr hf)))
  · rw [decide_eq_false hf]
    refine br_p rfl (x_need h13 true rfl (fun _ => x_nameOf hT hK hi c2 ?_) (fun h => by cases h))
    rw [e12]
    refine ⟨inN (by omega) (by decide), nm_i (br_n (by show ¬ gI v 13 = 0; rw [h13]; decide) ?_)⟩
    rw [ixN (by omega)]
    have hH : HM0 t n v0 b (gH g m (nmT t n i)) L m i (sB v 15 (12 * b + m) (lN (mN (nmT t n i)))) := by
      refine ⟨⟨hT, hK, hF, ⟨fun k hk => ?_, fun p hp => ?_⟩, ⟨h2, h10, h13⟩, fun k hk => ?_⟩, ?_⟩
      · rw [gH_0, gH_3, if_neg (by omega), if_neg (by omega)]
        show gA v 2 (12 * b + k) = _ ∧ vp_updL (gB v 15) (12 * b + m) _ (12 * b + k) = _
        rw [updLE, if_neg (by omega)]; exact hM.1 k hk
      · have hp := dm_H.mp hp
        have r := hM.2 p hp
        have hfree : free (gH g m (nmT t n i)) L m p ↔ free g L m p := ⟨fun hf q hq => hf q (dm_H.mpr hq), fun hf q hq => hf q (dm_H.mp hq)⟩
        unfold MTp at r ⊢
        rw [hfree]
        simp only [gH_o (f := 5) (show (5 : Nat) ≠ 0 by decide) (by decide) (by decide), gH_o (f := 6) (show (6 : Nat) ≠ 0 by decide) (by decide) (by decide), gH_o (f := 7) (show (7 : Nat) ≠ 0 by decide) (by decide) (by decide), gH_o (f := 8) (show (8 : Nat) ≠ 0 by decide) (by decide) (by decide)]
        exact r
      · rw [gH_1, if_neg (by omega), gH_o (by decide) (by decide) (by decide)]; exact hR k hk
      · rw [gH_3, if_pos rfl]
        show vp_updL (gB v 15) (12 * b + m) _ (12 * b + m) = _
        rw [updLE, if_pos rfl]
    exact x_go hH.1.1 hH.1.2.1 hH.1.2.2.2.2.1.2.2 hi (fun V f hK2 => ky c2 (by omega) (by omega) V (FrM_H0 hH f hK2))
/-- the arguments -/
def RunA (R : St → Prop) (x : Int32) (P : St → Prop) : Prop := ∃ M, ∀ v, R v → ∀ m, M ≤ m → wp_X7_readArguments_32 P m v x 1
theorem h_178 {n : Nat} {v0 v : St} {b f : Nat} (h : FlH n v0 b f v) {P : St → Prop} (k : ∀ V, FlH n v0 b f V → P V) : wp_X7_readArguments_178 v P := h_isSign h (fun r => h_need h (fun V hV => br_p hV.2.1 (k V hV)))
theorem h_135 {n : Nat} {v0 v : St} {b f : Nat} (h : FlH n v0 b f v) {P : St → Prop} (k : ∀ V, FlH n v0 b f V → P V) {m : Nat} {x1 : Int32} {x3 : Int64} : wp_X7_readArguments_135 (wp_X7_readArguments_32 P (m + 1)) v x1 1 x3 P := br_p h.2.1 (br_n (by decide) (br_p h.2.1 (h_178 h k)))
theorem h_90 {n : Nat} {v0 v : St} {b f : Nat} (h : FlH n v0 b f v) {P : St → Prop} (k : ∀ V, FlH n v0 b f V → P V) {m q : Nat} {x1 : Int32} (hx : vp_in x1 24) {x3 : Int64} {x5 : Int32} : wp_X7_readArguments_90 (wp_X7_readArguments_32 P (m + 1)) P (q + 1) v x1 1 x3 x5 := ⟨hx, br_b (fun _ => h_135 h k) (fun _ => br_p h.2.1 (h_135 h k))⟩
theorem a_fail {t : Nat → Nat} {n : Nat} {v0 : St} {b : Nat} {g : Nat → Nat → Nat} {L : Nat → List Nat} {d i : Nat} (hb : b ≤ 1) (hd : d < 12) (hi : i ≤ n) (ha : g 0 d ≤ 6) (hN : ∀ k, k < g 0 d → NC (g 4 k)) {P : St → Prop} (hc : tk t n i ≠ 2 ∨ g 0 d = 6 ∨ fnd (g 4) (nmT t n i) (g 0 d) 0 < g 0 d) (k : ∀ V, FlH n v0 b (tp t n i) V → P V) : RunA (HM t n v0 b g L d i) (nI (12 * b + d)) P := by
  refine ⟨3, fun v hv m hm => ?_⟩
  obtain ⟨m, rfl⟩ : ∃ m', m = m' + 2 := ⟨m - 2, by omega⟩
  obtain ⟨⟨hB, h15⟩, h2a, h16⟩ := hv
  have hB' := hB
  obtain ⟨hT, hK, hF, hM, ⟨h2, h10, h13⟩, hR⟩ := hB
  have hin : vp_in (nI (12 * b + d)) 24 := inN (by omega) (by decide)
  have hfl := Bt_fl hB' hi
  have f67 : wp_X7_readArguments_67 (wp_X7_readArguments_32 P (m + 1)) v (nI (12 * b + d)) 1 P := x_need h13 false rfl (fun h => by cases h) (fun _ => br_p rfl ⟨1, h_90 hfl k hin⟩)
  refine br_n (by decide) (br_n (by rw [h13]; decide) (br_b (fun c => ⟨hin, ?_⟩) (fun _ => f67)))
  have c2 := (g6_1 hK).mp c
  rw [ixN (by omega), h2a]
  refine br_b (fun _ => f67) (fun c6 => ?_)
  simp (disch := omega) only [ln_0, ln_1, ln_2, ln_3, ln_4, ln_5, ln_6, ln_7, ln_8, ln_9, ln_10, ln_11, ln_12, ln_13, ln_14, ln_15, ln_16, ln_17, ln_18, ln_19, ln_20, ln_21, ln_22, ln_23, ln_24, ln_25, ln_26, ln_27, ln_28, ln_29, ln_30, ln_31, ln_32, ln_33, ln_34, ln_35, ln_36, ln_37, ln_38, ln_39, ln_40, ln_41, ln_42, ln_43, ln_44, ln_45, ln_46, ln_47, ln_48, ln_49, ln_50, ln_51, ln_52, ln_53, ln_54, ln_55, ln_56, ln_57, ln_58, ln_59, ln_60, ln_61, ln_62, ln_91, ln_93, ln_97, ln_122, ln_120, ln_123, ln_124, ln_255, ln_256, ln_300, ln_720, ln_1500, ln_12000, ln_18000, nI_leI, nI_ltI, nI_eq] at c6
  have hNC := nmT_NC hi (Or.inl c2)
  have hf : fnd (g 4) (nmT t n i) (g 0 d) 0 < g 0 d := by omega
  obtain ⟨e1, e2, e3, e4⟩ := fnd_le (g 4) (nmT t n i) (g 0 d) 0
  refine x_need h13 true rfl (fun _ => br_n (by rw [h13]; decide) (x_nameOf hT hK hi c2 ?_)) (fun h => by cases h)
  have key : ∀ f j, j + f = fnd (g 4) (nmT t n i) (g 0 d) 0 → wp_X7_readArguments_90 (wp_X7_readArguments_32 P (m + 1)) P (f + 2) v (nI (12 * b + d)) 1 (lN (mN (nmT t n i))) (nI j) := by
    intro f
    induction f with
    | zero =>
      intro j hj
      refine ⟨hin, br_n (by rw [ixN (by omega), h2a]; simp (disch := omega) only [nI_leI, nI_ltI, nI_eq]; omega) (br_n (by rw [h13]; decide) ⟨inN (by omega) (by decide), ?_⟩)⟩
      rw [ixN (by omega), h16 j (by omega)]
      refine br_p ((nM_eq (hN j (by omega)) hNC.1).mpr (by have := e3 (by omega); rw [show j = fnd (g 4) (nmT t n i) (g 0 d) 0 by omega]; exact this)) (x_need h13 false rfl (fun h => by cases h) (fun _ => nm_i (h_90 hfl k hin)))
    | succ f ih =>
      intro j hj
      refine ⟨hin, br_n (by rw [ixN (by omega), h2a]; simp (disch := omega) only [nI_leI, nI_ltI, nI_eq]; omega) (br_n (by rw [h13]; decide) ⟨inN (by omega) (by decide), ?_⟩)⟩
      rw [ixN (by omega), h16 j (by omega)]
      refine br_n (fun c => e4 j (Nat.zero_le _) (by omega) ((nM_eq (hN j (by omega)) hNC.1).mp c)) (x_need h13 true rfl (fun _ => nm_i ?_) (fun h => by cases h))
      rw [nI_1]; exact ih (j + 1) (by omega)
  exact ⟨_, key _ 0 (Nat.zero_add _)⟩
theorem a_name {t : Nat → Nat} {n : Nat} {v0 : St} {b : Nat} {g : Nat → Nat → Nat} {L : Nat → List Nat} {d i : Nat} (hb : b ≤ 1) (hd : d < 12) (hi : i ≤ n) (hN : ∀ k, k < g 0 d → NC (g 4 k)) {P : St → Prop} (c2 : tk t n i = 2) (h6 : g 0 d < 6) (hf : fnd (g 4) (nmT t n i) (g 0 d) 0 = g 0 d)
    (kc : tk t n (te t n i) = 44 → RunA (HM t n v0 b (gA1 g d (nmT t n i)) L d (te t n (te t n i))) (nI (12 * b + d)) P) (ke : tk t n (te t n i) = 41 → ∀ V, HM t n v0 b (gA1 g d (nmT t n i)) L d (te t n (te t n i)) V → P V) (kx : tk t n (te t n i) ≠ 44 → tk t n (te t n i) ≠ 41 → ∀ V, FlH n v0 b (tp t n (te t n i)) V → P V) : RunA (HM t n v0 b g L d i) (nI (12 * b + d)) P := by
  have hte := tp_te (t := t) hi
  have hNC := nmT_NC hi (Or.inl c2)
  obtain ⟨e1, e2, e3, e4⟩ := fnd_le (g 4) (nmT t n i) (g 0 d) 0
  have hin : vp_in (nI (12 * b + d)) 24 := inN (by omega) (by decide)
  -- behind the name
  have fin : ∀ M, (tk t n (te t n i) = 44 → ∀ v, HM t n v0 b (gA1 g d (nmT t n i)) L d (te t n (te t n i)) v → ∀ m, M ≤ m → wp_X7_readArguments_32 P m v (nI (12 * b + d)) 1) → ∀ v, HM t n v0 b g L d i v → ∀ m, M + 2 ≤ m → wp_X7_readArguments_32 P m v (nI (12 * b + d)) 1 := by
    intro M hM v hv m hm
    obtain ⟨m, rfl⟩ : ∃ m', m = m' + 2 := ⟨m - 2, by omega⟩
    have hv' := hv
    obtain ⟨⟨hB, h15⟩, h2a, h16⟩ := hv
    obtain ⟨hT, hK, hF, hMt, ⟨h2, h10, h13⟩, hR⟩ := hB
    refine br_n (by decide) (br_n (by rw [h13]; decide) (br_p ((g6_1 hK).mpr c2) ⟨hin, ?_⟩))
    rw [ixN (by omega), h2a]
    refine br_n (by simp (disch := omega) only [ln_0, ln_1, ln_2, ln_3, ln_4, ln_5, ln_6, ln_7, ln_8, ln_9, ln_10, ln_11, ln_12, ln_13, ln_14, ln_15, ln_16, ln_17, ln_18, ln_19, ln_20, ln_21, ln_22, ln_23, ln_24, ln_25, ln_26, ln_27, ln_28, ln_29, ln_30, ln_31, ln_32, ln_33, ln_34, ln_35, ln_36, ln_37, ln_38, ln_39, ln_40, ln_41, ln_42, ln_43, ln_44, ln_45, ln_46, ln_47, ln_48, ln_49, ln_50, ln_51, ln_52, ln_53, ln_54, ln_55, ln_56, ln_57, ln_58, ln_59, ln_60, ln_61, ln_62, ln_91, ln_93, ln_97, ln_122, ln_120, ln_123, ln_124, ln_255, ln_256, ln_300, ln_720, ln_1500, ln_12000, ln_18000, nI_leI, nI_ltI, nI_eq]; omega) (x_need h13 true rfl (fun _ => br_n (by rw [h13]; decide) (x_nameOf hT hK hi c2 ?_)) (fun h => by cases h))
    have h135 : wp_X7_readArguments_135 (wp_X7_readArguments_32 P (m + 1)) v (nI (12 * b + d)) 1 (lN (mN (nmT t n i))) P := by
      refine br_n (by rw [h13]; decide) ⟨hin, ?_⟩
      rw [ixN (by omega), h2a]
      refine ⟨inN (by omega) (by decide), nm_i ⟨hin, hin, nm_i ?_⟩⟩
      rw [ixN (by omega)]
      have e2' : gA (sB v 16 (g 0 d) (lN (mN (nmT t n i)))) 2 (12 * b + d) + 1 = nI (g 0 d + 1) := by show gA v 2 (12 * b + d) + 1 = _; rw [h2a, nI_1]
      rw [e2']
      have hH : HM t n v0 b (gA1 g d (nmT t n i)) L d i (sA (sB v 16 (g 0 d) (lN (mN (nmT t n i)))) 2 (12 * b + d) (nI (g 0 d + 1))) := by
        refine ⟨⟨⟨hT, hK, ?_, ⟨fun k hk => ?_, fun p hp => ?_⟩, ⟨h2, h10, h13⟩, fun k hk => ?_⟩, ?_⟩, ?_, fun k hk => ?_⟩
        · exact FM.a (v := sB v 16 (g 0 d) (lN (mN (nmT t n i)))) hF (by omega)
        · rw [gA1_0, if_neg (by omega), gA1_o (by decide) (by decide)]
          show upd (gA v 2) (12 * b + d) _ (12 * b + k) = _ ∧ _
          rw [updE, if_neg (by omega)]; exact hMt.1 k hk
        · have hp := dm_A.mp hp
          have r := hMt.2 p hp
          have hfree : free (gA1 g d (nmT t n i)) L d p ↔ free g L d p := ⟨fun hf q hq => hf q (dm_A.mpr hq), fun hf q hq => hf q (dm_A.mp hq)⟩
          unfold MTp at r ⊢
          rw [hfree]
          simp only [gA1_o (f := 5) (show (5 : Nat) ≠ 0 by decide) (by decide), gA1_o (f := 6) (show (6 : Nat) ≠ 0 by decide) (by decide), gA1_o (f := 7) (show (7 : Nat) ≠ 0 by decide) (by decide), gA1_o (f := 8) (show (8 : Nat) ≠ 0 by decide) (by decide)]
          exact r
        · rw [gA1_o (by decide) (by decide), gA1_o (by decide) (by decide)]; exact hR k hk
        · rw [gA1_o (by decide) (by decide)]; exact h15
        · rw [gA1_0, if_pos rfl]
          show upd (gA v 2) (12 * b + d) _ (12 * b + d) = _
          rw [updE, if_pos rfl]
        · rw [gA1_0, if_pos rfl] at hk
          rw [gA1_4]
          show vp_updL (gB v 16) (g 0 d) _ k = _
          rw [updLE]
          by_cases hkd : k = g 0 d
          · rw [if_pos hkd, if_pos hkd]
          · rw [if_neg hkd, if_neg hkd]; exact h16 k (by omega)
      refine x_go hH.1.1.1 hH.1.1.2.1 hH.1.1.2.2.2.2.1.2.2 hi (fun V f hK2 => ?_)
      have hV := FrM_H hH f hK2
      unfold wp_X7_take
      refine x_isSign hV.1.1.1 hK2 (by omega) (c := 44) (by decide) rfl ?_
      have hV13 := hV.1.1.2.2.2.2.1.2.2
      by_cases c44 : tk t n (te t n i) = 44
      · rw [decide_eq_true c44]
        exact br_n (by decide) (x_go hV.1.1.1 hK2 hV13 (by omega) (fun W f2 hK3 => ⟨bz1, hM c44 W (FrM_H hV f2 hK3) (m + 1) (by omega)⟩))
      · rw [decide_eq_false c44]
        refine br_p rfl ⟨bz0, br_p rfl (x_isSign hV.1.1.1 hK2 (by omega) (c := 41) (by decide) rfl ?_)⟩
        refine x_need hV13 (decide (tk t n (te t n i) = 41)) rfl (fun h => br_n (by rw [hV13]; decide) (x_go hV.1.1.1 hK2 hV13 (by omega) (fun W f2 hK3 => ke (of_decide_eq_true h) W (FrM_H hV f2 hK3)))) (fun h => br_p rfl (kx c44 (of_decide_eq_false h) _ (Bt_fl hV.1.1 (by omega))))
    have key : ∀ f j, j + f = g 0 d → wp_X7_readArguments_90 (wp_X7_readArguments_32 P (m + 1)) P (f + 1) v (nI (12 * b + d)) 1 (lN (mN (nmT t n i))) (nI j) := by
      intro f
      induction f with
      | zero =>
        intro j hj
        exact ⟨hin, br_p (by rw [ixN (by omega), h2a]; simp (disch := omega) only [nI_leI, nI_ltI, nI_eq]; omega) h135⟩
      | succ f ih =>
        intro j hj
        refine ⟨hin, br_n (by rw [ixN (by omega), h2a]; simp (disch := omega) only [nI_leI, nI_ltI, nI_eq]; omega) (br_n (by rw [h13]; decide) ⟨inN (by omega) (by decide), ?_⟩)⟩
        rw [ixN (by omega), h16 j (by omega)]
        refine br_n (fun c => e4 j (Nat.zero_le _) (by omega) ((nM_eq (hN j (by omega)) hNC.1).mp c)) (x_need h13 true rfl (fun _ => nm_i ?_) (fun h => by cases h))
        rw [nI_1]; exact ih (j + 1) (by omega)
    exact ⟨_, key _ 0 (Nat.zero_add _)⟩
  by_cases c44 : tk t n (te t n i) = 44
  · obtain ⟨M, hM⟩ := kc c44
    exact ⟨M + 2, fin M (fun _ => hM)⟩
  · exact ⟨2, fin 0 (fun h => absurd h c44)⟩
