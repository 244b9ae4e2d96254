/-! 80.read: read, both together -/
theorem Ch_cg2 {nx nx' : Nat → Int32} {o : Nat} : ∀ (l : List Nat) (x : Int32), (∀ e ∈ l, nx' (o + e) = nx (o + e)) → Ch nx o x l → Ch nx' o x l
  | [], _, _, h => h
  | e :: l, x, hl, h => ⟨h.1, by rw [hl e List.mem_cons_self]; exact Ch_cg2 l _ (fun y hy => hl y (List.mem_cons_of_mem _ hy)) h.2⟩
theorem MP_cg {g : Prg} (hw : WFp g) {b : Nat} {dn : Int32} {A B : Nat → Nat → Int32} (h : MP g b dn (A 2) (A 3) (A 4) (A 5) (A 6) (A 7) (A 8) (A 9) (A 10) (A 11) (A 14)) (h12 : ∀ k, 2 ≤ k → k ≤ 4 → ∀ d, d < 12 → B k (12 * b + d) = A k (12 * b + d)) (h72 : ∀ k, 5 ≤ k → k ≤ 14 → ∀ j, j < 720 → B k (720 * b + j) = A k (720 * b + j)) : MP g b dn (B 2) (B 3) (B 4) (B 5) (B 6) (B 7) (B 8) (B 9) (B 10) (B 11) (B 14) := by
  obtain ⟨hb, hdn, h⟩ := h
  refine ⟨hb, hdn, fun d hd => ?_⟩
  have hn12 : gn g ≤ 12 := hw.1.1
  obtain ⟨w1, w2, w3, w4, w5⟩ := hw.2 d hd
  obtain ⟨q1, q2, q3, q4⟩ := h d hd
  rw [h12 2 (by decide) (by decide) d (by omega), h12 3 (by decide) (by decide) d (by omega), h12 4 (by decide) (by decide) d (by omega)]
  refine ⟨q1, q2, q3, fun p hp => ?_⟩
  have e : ∀ k, 5 ≤ k → k ≤ 14 → ∀ r, r < gnp g d → B k (60 * (12 * b + d) + r) = A k (60 * (12 * b + d) + r) := fun k a c r hr => by
    have := h72 k a c (60 * d + r) (by omega)
    rw [show 60 * (12 * b + d) + r = 720 * b + (60 * d + r) by omega]; exact this
  have kid := (w5 p hp).2.1
  rw [e 5 (by decide) (by decide) p hp, e 6 (by decide) (by decide) p hp, e 7 (by decide) (by decide) p hp, e 8 (by decide) (by decide) p hp, e 9 (by decide) (by decide) p hp, e 10 (by decide) (by decide) p hp, e 14 (by decide) (by decide) p hp]
  obtain ⟨r1, r2, r3, r4, r5, r6, r7, r8, r9, r10⟩ := q4 p hp
  refine ⟨r1, r2, r3, r4, r5, r6, fun hk => ?_, fun hk => ?_, r9, r10⟩
  · obtain ⟨s1, s2, s3⟩ := r7 hk
    refine ⟨s1, s2, Ch_cg2 _ _ (fun x hx => ?_) s3⟩
    obtain ⟨j, hj, rfl⟩ := List.mem_map.mp hx
    exact e 11 (by decide) (by decide) _ (kid j (List.mem_range.mp hj))
  · obtain ⟨s1, s2, s3, s4⟩ := r8 hk
    refine ⟨s1, s2, s3, Ch_cg2 _ _ (fun x hx => ?_) s4⟩
    obtain ⟨j, hj, rfl⟩ := List.mem_map.mp hx
    have := List.mem_range.mp hj
    exact e 11 (by decide) (by decide) _ (kid (j + 1) (by omega))
def RunR (R : St → Prop) (P : Int32 → St → Prop) : Prop := ∃ M, ∀ v, R v → ∀ m, M ≤ m → wp_X7_read_34 P m v
theorem e34 {t : Nat → Nat} {n : Nat} {v0 v : St} {b : Nat} {g : Nat → Nat → Nat} {L : Nat → List Nat} {m i : Nat} (hv : BtM t n v0 b g L m i v) (hm : m ≤ 12) (hnz : tk t n i = 0 → m = 0) {K : St → Prop} {P : Int32 → St → Prop} (k : wp_X7_read_55 K v P) : wp_X7_read_34s K v P := by
  have hmt := mt_le (tk t n i)
  refine br_n (by rw [hv.2.2.2.2.1.2.2]; decide) (br_b (fun c => ?_) (fun _ => k))
  rw [hv.2.1.2.2.1] at c
  simp (disch := omega) only [ln_0, ln_1, ln_2, ln_3, ln_4, ln_5, ln_6, ln_7, ln_8, ln_9, ln_10, ln_11, ln_12, ln_13, ln_14, ln_15, ln_16, ln_17, ln_18, ln_19, ln_20, ln_21, ln_22, ln_23, ln_24, ln_25, ln_26, ln_27, ln_28, ln_29, ln_30, ln_31, ln_32, ln_33, ln_34, ln_35, ln_36, ln_37, ln_38, ln_39, ln_40, ln_41, ln_42, ln_43, ln_44, ln_45, ln_46, ln_47, ln_48, ln_49, ln_50, ln_51, ln_52, ln_53, ln_54, ln_55, ln_56, ln_57, ln_58, ln_59, ln_60, ln_61, ln_62, ln_91, ln_93, ln_97, ln_122, ln_120, ln_123, ln_124, ln_255, ln_256, ln_300, ln_720, ln_1500, ln_12000, ln_18000, nI_leI, nI_ltI, nI_eq] at c
  have h0 : tk t n i = 0 := by
    unfold mt at c
    by_cases c0 : tk t n i = 0
    · exact c0
    · repeat' split at c
      all_goals omega
  have := hnz h0
  subst this
  exact br_p (by rw [hv.2.2.2.2.1.2.1]; rfl) k
def TxS (t : Nat → Nat) (n : Nat) (u0 v0 : St) (b : Nat) (g : Nat → Nat → Nat) (L : Nat → List Nat) (m i k : Nat) : Prop :=
    (∃ q, q ≤ n ∧ (∀ P : Int32 → St → Prop, (∀ U, FlC n u0 q U → P (nI q) U) → RunC (BtC t n u0 g L m i) k P) ∧ ∀ P : Int32 → St → Prop, (∀ V, FlH n v0 b q V → wp_X7_read_83 V P) → RunR (BtM t n v0 b g L m i) P) ∨
    ∃ (g' : Nat → Nat → Nat) (L' : Nat → List Nat) (m' i' : Nat), DIv n g' L' m' i' ∧ 0 < m' ∧ (∀ P : Int32 → St → Prop, (∀ u, BtC t n u0 g' L' m' i' u → wp_X3_readText_168 u P) → RunC (BtC t n u0 g L m i) k P) ∧ ∀ P : Int32 → St → Prop, (∀ v, BtM t n v0 b g' L' m' i' v → wp_X7_read_83 v P) → RunR (BtM t n v0 b g L m i) P
theorem readStep {t : Nat → Nat} {n : Nat} {u0 v0 : St} {b : Nat} {g : Nat → Nat → Nat} {L : Nat → List Nat} {m i k : Nat} (hn15 : n ≤ 1500) (hb : b ≤ 1) (hD : DIv n g L m i) (hk : k ≤ i) (ih : ∀ g' L' i' k', DIv n g' L' (m + 1) i' → k' ≤ i' → TxS t n u0 v0 b g' L' (m + 1) i' k') : TxS t n u0 v0 b g L m i k := by
  have hi := hD.2.1
  have hm := hD.1
  by_cases hz : tk t n i = 0 ∧ 0 < m
  · refine Or.inr ⟨g, L, m, i, hD, hz.2, fun P hP => ⟨1, fun u hu q hq => ?_⟩, fun P hP => ⟨1, fun v hv q hq => ?_⟩⟩
    · obtain ⟨q, rfl⟩ : ∃ q', q = q' + 1 := ⟨q - 1, by omega⟩
      have h168 := hP u hu
      obtain ⟨hT, hK, hF, hC, ⟨h12, h6, h5⟩, hR⟩ := hu
      have h129 : wp_X3_readText_129 u P := br_p h5 (br_n (by rw [h12]; exact nI_nle (by omega) (by omega)) (br_p h6 (br_n (by decide) h168)))
      refine br_b (fun _ => h129) (fun _ => br_p h6 (br_p ?_ h129))
      rw [hK.2.2.1, hz.1]; rfl
    · obtain ⟨q, rfl⟩ : ∃ q', q = q' + 1 := ⟨q - 1, by omega⟩
      have h83 := hP v hv
      obtain ⟨hT, hK, hF, hM, ⟨h2, h10, h13⟩, hR⟩ := hv
      refine br_n (by rw [h13]; decide) (br_p ?_ (br_n ?_ h83))
      · rw [hK.2.2.1, hz.1]; rfl
      · rw [h10]; simp (disch := omega) only [ln_0, ln_1, ln_2, ln_3, ln_4, ln_5, ln_6, ln_7, ln_8, ln_9, ln_10, ln_11, ln_12, ln_13, ln_14, ln_15, ln_16, ln_17, ln_18, ln_19, ln_20, ln_21, ln_22, ln_23, ln_24, ln_25, ln_26, ln_27, ln_28, ln_29, ln_30, ln_31, ln_32, ln_33, ln_34, ln_35, ln_36, ln_37, ln_38, ln_39, ln_40, ln_41, ln_42, ln_43, ln_44, ln_45, ln_46, ln_47, ln_48, ln_49, ln_50, ln_51, ln_52, ln_53, ln_54, ln_55, ln_56, ln_57, ln_58, ln_59, ln_60, ln_61, ln_62, ln_91, ln_93, ln_97, ln_122, ln_120, ln_123, ln_124, ln_255, ln_256, ln_300, ln_720, ln_1500, ln_12000, ln_18000, nI_leI, nI_ltI, nI_eq]; omega
  · have hm0 : tk t n i = 0 → m = 0 := fun h => by
      by_cases c : 0 < m
      · exact absurd ⟨h, c⟩ hz
      · omega
    rcases defSim (t := t) (u0 := u0) (v0 := v0) hn15 hb hD hk hm0 with ⟨q, hq, r1, r2⟩ | ⟨g', L', i', k', r1, r2, r3, r4⟩
    · refine Or.inl ⟨q, hq, r1, fun P hP => ⟨2, fun v hv s hs => ?_⟩⟩
      obtain ⟨s, rfl⟩ : ∃ s', s = s' + 2 := ⟨s - 2, by omega⟩
      refine e34 hv hm hm0 (r2 _ (fun V hV => br_p hV.2.1 (nm_i ?_)) v hv)
      exact br_p hV.2.1 (hP _ ⟨hV.1, hV.2.1, hV.2.2.1, hV.2.2.2.1, hV.2.2.2.2.1, hV.2.2.2.2.2⟩)
    · have key : ∀ P : Int32 → St → Prop, RunR (BtM t n v0 b g' L' (m + 1) i') P → RunR (BtM t n v0 b g L m i) P := fun P ⟨M, hM⟩ => ⟨M + 1, fun v hv s hs => by
        obtain ⟨s, rfl⟩ : ∃ s', s = s' + 1 := ⟨s - 1, by omega⟩
        refine e34 hv hm hm0 (r4 _ (fun V h13 h10 hV => br_n (by rw [h13]; decide) (nm_i ?_)) v hv)
        rw [h10, nI_1]
        exact hM _ hV s (by omega)⟩
      rcases ih g' L' i' k' r1 r2 with ⟨q, hq, s1, s2⟩ | ⟨g2, L2, m2, i2, s1, s2, s3, s4⟩
      · exact Or.inl ⟨q, hq, fun P hP => r3 P (s1 P hP), fun P hP => key P (s2 P hP)⟩
      · exact Or.inr ⟨g2, L2, m2, i2, s1, s2, fun P hP => r3 P (s3 P hP), fun P hP => key P (s4 P hP)⟩
theorem readSim {t : Nat → Nat} {n : Nat} {u0 v0 : St} {b : Nat} (hn15 : n ≤ 1500) (hb : b ≤ 1) : ∀ (f m : Nat), 12 - m ≤ f → ∀ (g : Nat → Nat → Nat) (L : Nat → List Nat) (i k : Nat), DIv n g L m i → k ≤ i → TxS t n u0 v0 b g L m i k := by
  intro f
  induction f with
  | zero =>
    intro m hf g L i k hD hk
    exact readStep hn15 hb hD hk (fun g' L' i' k' h _ => by have := h.1; omega)
  | succ f ih =>
    intro m hf g L i k hD hk
    exact readStep hn15 hb hD hk (fun g' L' i' k' h hk' => ih (m + 1) (by omega) g' L' i' k' h hk')
theorem inv_fail {u v U V : St} {b : Nat} (h : Inv u v) (hb : gI v 2 = nI b) (hb1 : b ≤ 1) (hF : FC u U) (hM : FM (1 - b) v V) (hV2 : gI V 2 = nI (1 - b)) : Inv (sI U 8 0) (sI (sI V 1 0) 2 (1 - gI V 2)) := by
  obtain ⟨ht, hl, G, b2, hw, hbk, hc, hm⟩ := h
  have hm1 := hm.1
  have hbb : b2 = b := by
    have := hbk.symm.trans hb
    rw [nI_eq (by omega) (by omega)] at this; exact this
  subst hbb
  refine ⟨⟨0, by omega, rfl, rfl, fun i h => absurd h (Nat.not_lt_zero _)⟩, ⟨?_, fun k hk => ?_⟩, ⟨G, b2, hw, ?_, ?_, ?_⟩⟩
  · show gI U 0 = gI V 20; rw [hF.1, hM.2.1]; exact hl.1
  · show gA U 8 k = gA V 33 k; rw [hF.2.2.1, hM.2.2.1]; exact hl.2 k hk
  · show 1 - gI V 2 = nI b2
    rw [hV2]
    rcases (show b2 = 0 ∨ b2 = 1 by omega) with rfl | rfl <;> rfl
  · show CP G (gI U 13) (gA U 22) (gA U 23) (gA U 24) (gA U 25) (gA U 26) (gA U 27) (gA U 28)
    rw [hF.2.1, hF.2.2.2 22 (by decide), hF.2.2.2 23 (by decide), hF.2.2.2 24 (by decide), hF.2.2.2 25 (by decide), hF.2.2.2 26 (by decide), hF.2.2.2 27 (by decide), hF.2.2.2 28 (by decide)]
    exact hc
  · show MP G b2 (gI V 3) (gA V 2) (gA V 3) (gA V 4) (gA V 5) (gA V 6) (gA V 7) (gA V 8) (gA V 9) (gA V 10) (gA V 11) (gA V 14)
    rw [hM.1]
    exact MP_cg (A := fun k => gA v k) (B := fun k => gA V k) hw hm (fun k a c d hd => hM.2.2.2.1 k a c _ (by omega)) (fun k a c j hj => hM.2.2.2.2 k a c _ (by omega))
theorem aD_le {n : Nat} {g : Nat → Nat → Nat} {L : Nat → List Nat} {m i : Nat} (hD : DIv n g L m i) : ∀ k, k ≤ m → aD g L m k ≤ 1501
  | 0, _ => Nat.zero_le _
  | k + 1, hk => aP_le hD (by omega) (aD_le hD k (by omega)) _ (Nat.le_refl _)
theorem ok_read (u v : St) (h : Inv u v) : ∃ (r : Int32) (z : Bool) (SC SM : St → Prop), (∀ Pc : Int32 → Bool → St → Prop, (∀ U, SC U → Pc r z U) → wp_X6_read u Pc) ∧ (∀ Pm : Int32 → St → Prop, (∀ V, SM V → Pm r V) → wp_X7_read v Pm) ∧ ∀ U V, SC U → SM V → Inv U V := by
  obtain ⟨t, n, hTC, hTM⟩ := tape_of h.1
  obtain ⟨_, _, G, b, hw, hbk, hc, hm⟩ := id h
  have hb1 : b ≤ 1 := hm.1
  have hn15 : n ≤ 1500 := hTC.1
  have hD0 : DIv n (fun _ _ => 0) (fun _ => []) 0 0 := ⟨by decide, by omega, fun k hk => absurd hk (Nat.not_lt_zero _), ⟨fun p hp => absurd hp.1 (Nat.not_lt_zero _), fun p q hp => absurd hp.1 (Nat.not_lt_zero _)⟩, fun p hp => absurd hp.1 (Nat.not_lt_zero _), fun _ => [], fun p hp => absurd hp.1 (Nat.not_lt_zero _), fun p hp => absurd hp.1 (Nat.not_lt_zero _), fun k hk => absurd hk (Nat.not_lt_zero _)⟩
  -- the class begins
  have cgo : ∀ P : Int32 → St → Prop, RunC (BtC t n u (fun _ _ => 0) (fun _ => []) 0 0) 0 P → wp_X3_readText u P := fun P ⟨M, hM⟩ => by
    refine nm_i (nm_i (nm_i (nm_i ?_)))
    have hT' : TpC (sI (sI (sI (sI u 12 0) 5 0) 6 (-1)) 7 0) t n := hTC
    obtain ⟨U, h1, h2, h3⟩ := advC (u := sI (sI (sI (sI u 12 0) 5 0) 6 (-1)) 7 0) (t := t) (n := n) (i := 0) hT' rfl (by omega)
    refine h1 _ ⟨M, hM U ⟨hT'.fr h2, h3, ⟨?_, ?_, ?_, fun k hk => ?_⟩, ⟨fun k hk => absurd hk (Nat.not_lt_zero _), fun p hp => absurd hp.1 (Nat.not_lt_zero _)⟩, ⟨?_, ?_, ?_⟩, fun k hk => absurd hk (Nat.not_lt_zero _)⟩ M (Nat.le_refl _)⟩
    · rw [h2.1 0 (by decide) (by decide) (by decide) (by decide)]; rfl
    · rw [h2.1 13 (by decide) (by decide) (by decide) (by decide)]; rfl
    · rw [h2.2.2.1]; rfl
    · rw [h2.2.2.1]; rfl
    · rw [h2.1 12 (by decide) (by decide) (by decide) (by decide)]; rfl
    · rw [h2.1 6 (by decide) (by decide) (by decide) (by decide)]; rfl
    · rw [h2.1 5 (by decide) (by decide) (by decide) (by decide)]; rfl
  -- the reference begins
  have e2 : 1 - gI v 2 = nI (1 - b) := by
    rw [hbk]; rcases (show b = 0 ∨ b = 1 by omega) with rfl | rfl <;> rfl
  have mgo : ∀ P : Int32 → St → Prop, RunR (BtM t n v (1 - b) (fun _ _ => 0) (fun _ => []) 0 0) P → wp_X7_read v P := fun P ⟨M, hM⟩ => by
    refine nm_i (nm_i (nm_i (nm_i (nm_i ?_))))
    have hT' : TpM (sI (sI (sI (sI (sI v 0 0) 2 (1 - gI (sI v 0 0) 2)) 13 1) 10 0) 4 0) t n := hTM
    obtain ⟨V, h1, h2, h3⟩ := lookM (v := sI (sI (sI (sI (sI v 0 0) 2 (1 - gI (sI v 0 0) 2)) 13 1) 10 0) 4 0) (t := t) (n := n) (i := 0) hT' rfl (by omega)
    refine h1 _ ⟨M, hM V ⟨hT'.fr h2, h3, ⟨?_, ?_, ?_, fun k a c j hj => ?_, fun k a c j hj => ?_⟩, ⟨fun k hk => absurd hk (Nat.not_lt_zero _), fun p hp => absurd hp.1 (Nat.not_lt_zero _)⟩, ⟨?_, ?_, ?_⟩, fun k hk => absurd hk (Nat.not_lt_zero _)⟩ M (Nat.le_refl _)⟩
    · rw [h2.1 3 (by decide) (by decide) (by decide) (by decide)]; rfl
    · rw [h2.1 20 (by decide) (by decide) (by decide) (by decide)]; rfl
    · rw [h2.2.2.1]; rfl
    · rw [h2.2.2.1]; rfl
    · rw [h2.2.2.1]; rfl
    · rw [h2.1 2 (by decide) (by decide) (by decide) (by decide)]; exact e2
    · rw [h2.1 10 (by decide) (by decide) (by decide) (by decide)]; rfl
    · rw [h2.1 13 (by decide) (by decide) (by decide) (by decide)]; rfl
  rcases readSim (t := t) (u0 := u) (v0 := v) (b := 1 - b) hn15 (by omega) 12 0 (by decide) _ _ 0 0 hD0 (Nat.le_refl _) with ⟨q, hq, r1, r2⟩ | ⟨g', L', m, i', hD, hm0, r1, r2⟩
  · refine ⟨-1 - nI q, false, fun U' => ∃ U, FlC n u q U ∧ U' = sI U 8 0, fun V' => ∃ V, FlH n v (1 - b) q V ∧ V' = sI (sI V 1 0) 2 (1 - gI V 2), fun Pc hPc => ?_, fun Pm hPm => ?_, ?_⟩
    · exact cgo _ (r1 _ (fun U hU => nm_i (br_n (nI_m1 (by omega)) (hPc _ ⟨U, hU, rfl⟩))))
    · refine mgo _ (r2 _ (fun V hV => br_p hV.2.1 (nm_i (br_p hV.2.1 (nm_i ?_)))))
      rw [hV.2.2.1]; exact hPm _ ⟨V, hV, rfl⟩
    · rintro U' V' ⟨U, hU, rfl⟩ ⟨V, hV, rfl⟩
      exact inv_fail h hbk hb1 hU.1 hV.1 hV.2.2.2.1
  · have hm12 := hD.1
    have cbd : ∀ P : Int32 → St → Prop, (∀ U, KC n u g' L' m (60 * m) (aD g' L' m m) U → P (rA (aD g' L' m m)) U) → wp_X3_readText u P := fun P hP => cgo _ (r1 _ (fun w hw => br_p hw.2.2.2.2.1.2.1 (c_bindCalls hD (BtC_KC hw) (fun U hU => by rw [hU.2.1.2.2.1]; exact hP U hU))))
    have mbd : ∀ P : Int32 → St → Prop, (∀ V, KM n v (1 - b) g' L' m (60 * m) V → wp_X7_read_105 V (rA (aD g' L' m m)) P) → wp_X7_read v P := fun P hP => mgo _ (r2 _ (fun w hw => br_n (by rw [hw.2.2.2.2.1.2.2]; decide) (by rw [hw.2.2.2.2.1.2.1]; exact m_link (by omega) hD (BtM_KM hw) hP)))
    by_cases ha : aD g' L' m m = 0
    · have hbad := aD_0 ha
      rw [ha] at cbd mbd
      refine ⟨nI m, true, fun U' => ∃ U, KC n u g' L' m (60 * m) 0 U ∧ U' = swU (sI U 8 0), fun V' => ∃ V, KM n v (1 - b) g' L' m (60 * m) V ∧ V' = sI (sI V 1 0) 3 (gI V 10), fun Pc hPc => ?_, fun Pm hPm => ?_, ?_⟩
      · refine cbd _ (fun U hU => nm_i (br_p rfl ?_))
        have e : gI (sI U 8 0) 12 = nI m := hU.2.1.1
        rw [e]; exact hPc _ ⟨U, hU, rfl⟩
      · refine mbd _ (fun V hV => nm_i (br_n (by show ¬ gI V 13 = 0; rw [hV.2.1.2.2]; decide) (br_p rfl (nm_i ?_))))
        have e : gI (sI (sI V 1 0) 3 (gI (sI V 1 0) 10)) 3 = nI m := hV.2.1.2.1
        rw [e]; exact hPm _ ⟨V, hV, rfl⟩
      · rintro U' V' ⟨U, hU, rfl⟩ ⟨V, hV, rfl⟩
        obtain ⟨hF, _⟩ := id hU
        obtain ⟨hM, hV2, _⟩ := id hV
        refine ⟨⟨0, by omega, rfl, rfl, fun i h => absurd h (Nat.not_lt_zero _)⟩, ⟨?_, fun k hk => ?_⟩, ⟨mkP g' L' m, 1 - b, mk_WF hD hbad, hV2.1, ?_, ?_⟩⟩
        · show gI U 0 = gI V 20; rw [hF.1, hM.2.1]; exact h.2.1.1
        · show gA U 8 k = gA V 33 k; rw [hF.2.2.1, hM.2.2.1]; exact h.2.1.2 k hk
        · exact mk_CP hD hbad hU
        · show MP _ _ (gI V 10) (gA V 2) (gA V 3) (gA V 4) (gA V 5) (gA V 6) (gA V 7) (gA V 8) (gA V 9) (gA V 10) (gA V 11) (gA V 14)
          rw [hV2.2.1]; exact mk_MP (by omega) hD hbad hV
    · have hr : rA (aD g' L' m m) = nI (aD g' L' m m - 1) := by unfold rA; rw [if_neg ha]
      refine ⟨-1 - nI (aD g' L' m m - 1), false, fun U' => ∃ U, KC n u g' L' m (60 * m) (aD g' L' m m) U ∧ U' = sI U 8 0, fun V' => ∃ V, KM n v (1 - b) g' L' m (60 * m) V ∧ V' = sI (sI V 1 0) 2 (1 - gI V 2), fun Pc hPc => ?_, fun Pm hPm => ?_, ?_⟩
      · refine cbd _ (fun U hU => nm_i ?_)
        have := hU.2.1.2.2.2
        rw [hr]
        exact br_n (nI_m1 (by omega)) (hPc _ ⟨U, hU, rfl⟩)
      · refine mbd _ (fun V hV => nm_i (br_n (by show ¬ gI V 13 = 0; rw [hV.2.1.2.2]; decide) ?_))
        rw [hr]
        have := aD_le hD m (Nat.le_refl _)
        exact br_n (nI_m1 (by omega)) (nm_i (hPm _ ⟨V, hV, rfl⟩))
      · rintro U' V' ⟨U, hU, rfl⟩ ⟨V, hV, rfl⟩
        exact inv_fail h hbk hb1 hU.1 hV.1 hV.2.1.1
