/-! 98j.refR: the reference's run -/
theorem R_init {G : Prg} {a b : Int32} {id : Nat → Cid} {st : Nat → Nat} {va : Nat → Vl} {U : St} (hw : WFp G) (hg : 0 < gn G) (hid : id 0 = []) (hst : ∀ x, st x ≤ 1) (hst1 : ∀ x, 1 ≤ st x → x = grt G 0) (h1 : st (grt G 0) = 1) (e17 : gI U 17 = 0) (h24 : ∀ q, q < 6 → gA U 24 q = -1 ∧ gA U 25 q = (if q = 0 then a else if q = 1 then b else 0) ∧ gA U 26 q = -1) (h31 : ∀ z, z < 60 → gA U 31 z = -1 ∧ gA U 32 z = 0) : SMm G a b 1 id st va (fun _ => False) U := by
  have hd0 : dfn G [] = 0 := rfl
  have h3 : ∀ x, ¬ st x = 3 := fun x h => by have := hst x; omega
  have hj : ∀ j, j < 1 → id j = [] := fun j hj => by rw [show j = 0 by omega]; exact hid
  have h60 := (WF_d hw hg).2.1
  have hrt := (WF_d hw hg).2.2
  have har := (hw.2 0 hg).1
  refine ⟨⟨e17, by decide, hid⟩, ⟨fun i j hi hj' _ => by omega, fun j hj' => by rw [hj j hj']; exact ⟨hg, trivial⟩, fun x hx => ⟨fun hx1 => ?_, fun h => absurd h (h3 x)⟩⟩, fun x _ h => absurd h (h3 x), fun j hj' q hq => ?_, fun x hx e7 => Or.inl ⟨(h31 x (by have := hx.1; omega)).1, fun j hj' => by rw [hj j hj']; exact (fun h => by cases h)⟩, fun x _ h => absurd h (h3 x), fun j hj' => ?_, fun j e c j' a1 a2 _ _ => ?_, fun x hx _ => (h31 x (by have := hx.1; omega)).2, fun x _ _ h => absurd h (h3 x), fun x hx => ?_, fun j e c a1 a2 => ?_⟩
  · have hx0 := hx.1
    have := hst1 x hx1
    refine Lfp_step (Or.inl ⟨?_, ?_⟩)
    · show exC G _ (id (x / 60)); rw [show x / 60 = 0 by omega, hid]; trivial
    · show x % 60 = grt G (dfn G (id (x / 60))); rw [show x / 60 = 0 by omega, hid, hd0]; omega
  · rw [hj j hj', hd0] at hq
    unfold ArJ
    rw [hj j hj', show 6 * j + q = q by omega]
    exact h24 q (by omega)
  · rw [hj j hj', hd0, show 60 * j + grt G 0 = grt G 0 by omega, h1]; decide
  · rw [hj j a1] at a2; cases a2
  · by_cases h0 : st x = 0
    · exact h0
    · have := hst1 x (by omega)
      refine absurd ⟨?_, ?_⟩ hx
      · omega
      · rw [show x / 60 = 0 by omega, hid, hd0]; omega
  · rw [hj j a1] at a2; cases a2
theorem FRv_TV {v0 v V : St} {t0 t1 t2 t3 : Int32} (h : FRv v0 v) (hV : TV v V t0 t1 t2 t3) : FRv v0 V := by
  refine ⟨⟨by rw [hV.1.1 1]; exact h.1.1, by rw [hV.1.1 0]; exact h.1.2⟩, by rw [hV.1.1 2]; exact h.2.1, by rw [hV.1.1 3]; exact h.2.2.1, fun k hk => by rw [hV.1.2 k (by omega)]; exact h.2.2.2 k hk⟩
theorem m_run {G : Prg} {a b : Int32} {bk M : Nat} {v : St} {od : Int32} (hw : WFp G) (hP : MPv G bk v) (hg : 0 < gn G) (hM : 1 ≤ M ∧ M ≤ 300) {P : Int32 → St → Prop}
    (ky : ∀ (V : St) (N : Nat) (id : Nat → Cid) (st : Nat → Nat) (va : Nat → Vl) (KS : List Nat), SdM G a b N id st va → ClM G a b N id st va → (N ≤ M ∧ 1 ≤ N ∧ id 0 = []) → KS.Nodup → (∀ z, z ∈ KS ↔ vld G N id z ∧ st z = 3) → FRv (sI v 0 0) V → gI V 20 = (if st (grt G 0) = 3 then (va (grt G 0)).1 else 0) → gA V 33 0 = nI N → gA V 33 1 = nI KS.length → gA V 33 2 = nI (kcN G N id st) → gA V 33 3 = nI (cellN N id) → P (if st (grt G 0) = 3 then 0 else 1) V)
    (ko : ∀ V, FRv (sI v 0 0) V → gI V 20 = 0 → (∀ j, j < 4 → gA V 33 j = 0) → (∃ (N : Nat) (id : Nat → Cid) (st : Nat → Nat) (va : Nat → Vl) (c : Cid), SdM G a b N id st va ∧ N = M ∧ exC G (Lfp G a b) c ∧ ∀ j, j < N → id j ≠ c) → P 2 V) : wp_X7_run v a b (nI M) od P := by
  have hn12 := (WF_d hw hg).1
  have h60 := (WF_d hw hg).2.1
  have hrt := (WF_d hw hg).2.2
  have h3v : gI v 3 = nI (gn G) := hP.2.2.1
  have hgn : gn G ≤ 12 := hw.1.1
  have hP0 : MPv G bk (sI v 0 0) := hP
  have nv : ∀ id x, ¬ vld G 0 id x := fun id x h => absurd h.1 (Nat.not_lt_zero _)
  have hSR0 : SRm G bk M 0 (fun _ => []) (fun _ => 0) (sI v 0 0) (sI (sI (sI (sI v 0 0) 15 0) 16 (nI M)) 17 0) := by
    refine ⟨⟨⟨rfl, rfl⟩, rfl, rfl, fun _ _ => rfl⟩, hP, ⟨⟨rfl, rfl, Nat.zero_le _, hM.2⟩, fun j hj => absurd hj (Nat.not_lt_zero _)⟩, fun x hx => absurd hx (nv _ x)⟩
  refine br_n (by rw [h3v]; simp (disch := omega) only [ln_0, ln_1, ln_2, ln_3, ln_4, ln_5, ln_6, ln_7, ln_8, ln_9, ln_10, ln_11, ln_12, ln_13, ln_14, ln_15, ln_16, ln_17, ln_18, ln_19, ln_20, ln_21, ln_22, ln_23, ln_24, ln_25, ln_26, ln_27, ln_28, ln_29, ln_30, ln_31, ln_32, ln_33, ln_34, ln_35, ln_36, ln_37, ln_38, ln_39, ln_40, ln_41, ln_42, ln_43, ln_44, ln_45, ln_46, ln_47, ln_48, ln_49, ln_50, ln_51, ln_52, ln_53, ln_54, ln_55, ln_56, ln_57, ln_58, ln_59, ln_60, ln_61, ln_62, ln_91, ln_93, ln_97, ln_122, ln_120, ln_123, ln_124, ln_255, ln_256, ln_300, ln_720, ln_1500, ln_12000, ln_18000, nI_leI, nI_ltI, nI_eq]; omega) (br_n (by simp (disch := omega) only [ln_0, ln_1, ln_2, ln_3, ln_4, ln_5, ln_6, ln_7, ln_8, ln_9, ln_10, ln_11, ln_12, ln_13, ln_14, ln_15, ln_16, ln_17, ln_18, ln_19, ln_20, ln_21, ln_22, ln_23, ln_24, ln_25, ln_26, ln_27, ln_28, ln_29, ln_30, ln_31, ln_32, ln_33, ln_34, ln_35, ln_36, ln_37, ln_38, ln_39, ln_40, ln_41, ln_42, ln_43, ln_44, ln_45, ln_46, ln_47, ln_48, ln_49, ln_50, ln_51, ln_52, ln_53, ln_54, ln_55, ln_56, ln_57, ln_58, ln_59, ln_60, ln_61, ln_62, ln_91, ln_93, ln_97, ln_122, ln_120, ln_123, ln_124, ln_255, ln_256, ln_300, ln_720, ln_1500, ln_12000, ln_18000, nI_leI, nI_ltI, nI_eq]; omega) (br_p (by simp (disch := omega) only [ln_0, ln_1, ln_2, ln_3, ln_4, ln_5, ln_6, ln_7, ln_8, ln_9, ln_10, ln_11, ln_12, ln_13, ln_14, ln_15, ln_16, ln_17, ln_18, ln_19, ln_20, ln_21, ln_22, ln_23, ln_24, ln_25, ln_26, ln_27, ln_28, ln_29, ln_30, ln_31, ln_32, ln_33, ln_34, ln_35, ln_36, ln_37, ln_38, ln_39, ln_40, ln_41, ln_42, ln_43, ln_44, ln_45, ln_46, ln_47, ln_48, ln_49, ln_50, ln_51, ln_52, ln_53, ln_54, ln_55, ln_56, ln_57, ln_58, ln_59, ln_60, ln_61, ln_62, ln_91, ln_93, ln_97, ln_122, ln_120, ln_123, ln_124, ln_255, ln_256, ln_300, ln_720, ln_1500, ln_12000, ln_18000, nI_leI, nI_ltI, nI_eq]; omega) (nm_i (br_p (Int32.le_refl 0) (nm_i (nm_i (nm_i (r_call hw hSR0 (c := []) hg rfl (fun _ V9 hV9 eI e18 e29 e30 e31 e24 => r_argu2 (cn := 0) (by decide) (fun V12 w1 w2 w3 w4 w5 => nm_i ⟨72002, ?_⟩)) (fun h => by omega)))))))))
  have er : 60 * 0 + grt G (dfn G []) = grt G 0 := by show 60 * 0 + grt G 0 = _; omega
  have hSR1 : SRm G bk M (0 + 1) (uF (fun _ => []) 0 []) (stN (fun _ => 0) 0 (60 * 0 + grt G (dfn G []))) (sI v 0 0) (sI V12 18 1) := SR_fr hV9 (fun i hi => by rw [gI_sI, if_neg (by omega)]; exact w1 i) (fun i hi => w2 i (by omega) (by omega) (by omega))
  refine p_85 (a := a) (b := b) hw hP0 (fun v' N id st va hSR hSM hCl => ?_) (fun v' hv => ?_) 72000 _ 1 _ _ (fun _ => (0, none)) hSR1 ?_ rfl (by omega)
  · obtain ⟨n17, n1, nid⟩ := hSM.1
    have hJV := hSR.2.2.1
    have hN : N ≤ 300 := by have := hJV.1; omega
    obtain ⟨g1, g2, g3, g4⟩ := vld_in hw (id := id) (N := N) (j := 0) (p := grt G (dfn G (id 0))) (by omega) (by rw [nid]; exact hg) (by rw [nid]; exact hrt)
    have er2 : 60 * 0 + grt G (dfn G (id 0)) = grt G 0 := by rw [nid]; show 60 * 0 + grt G 0 = _; omega
    rw [er2] at g1 g2
    obtain ⟨s0, s1, s2⟩ := hSR.2.2.2 _ g1
    have hlt : grt G 0 < 18000 := by omega
    have h267 : ∀ r y : Int32, r = (if st (grt G 0) = 3 then 0 else 1) → y = (if st (grt G 0) = 3 then (va (grt G 0)).1 else 0) → wp_X7_run_267 (sI v' 19 r) y P := fun r y hr hy => by
      have hr2 : r ≠ 2 := by rw [hr]; split <;> decide
      have hSM2 : SMm G a b N id st va (fun _ => False) (sI (sI v' 19 r) 20 y) := hSM
      have hSR2 : SRm G bk M N id st (sI v 0 0) (sI (sI v' 19 r) 20 y) := SR_fr hSR (fun i hi => by rw [gI_sI, if_neg (by omega), gI_sI, if_neg (by omega)]) (fun i hi => rfl)
      refine nm_i (m_tell hw hSR2 hr2 (fun x hx h3 => (m_32 hSM2 hx h3).1) (fun V hV => ?_))
      obtain ⟨c1, c2⟩ := CL_len hSM2 hCl
      rw [c1, c2] at hV
      have e19 : gI V 19 = r := hV.1.1 19
      have e20 : gI V 20 = y := hV.1.1 20
      rw [e19, hr]
      exact ky V N id st va _ hSM.2.1 hCl ⟨hJV.1.2.2.1, n1, nid⟩ KS_of.1 KS_of.2 (FRv_TV hSR2.1 hV) (by rw [e20, hy]) hV.2.1 hV.2.2.1 hV.2.2.2.1 hV.2.2.2.2
    refine br_p n17 (r_root hw hSR.2.1 hJV (show 0 < N by omega) rfl ?_)
    rw [er2]
    refine ⟨inN hlt (by decide), ?_⟩
    rw [ixN (by omega), s2]
    by_cases h3 : st (grt G 0) = 3
    · rw [if_pos h3]
      refine br_n (by decide) (nm_i (br_p rfl ?_))
      have hSR2 : SRm G bk M N id st (sI v 0 0) (sI v' 19 0) := SR_fr hSR (fun i hi => by rw [gI_sI, if_neg (by omega)]) (fun i hi => rfl)
      refine r_root hw hSR2.2.1 hSR2.2.2.1 (show 0 < N by omega) rfl ?_
      rw [er2]
      exact r_num hN (show VaM G N id st va (sI v' 19 0) from hSM.2.2.1) g1 h3 (h267 0 _ (by rw [if_pos h3]) (by rw [if_pos h3]))
    · rw [if_neg h3]
      exact br_p rfl (nm_i (br_n (by show ¬ (1 : Int32) = 0; decide) (h267 1 0 (by rw [if_neg h3]) (by rw [if_neg h3]))))
  · obtain ⟨hF, h17, hex⟩ := hv
    refine br_n (by rw [h17]; decide) (nm_i (br_n (by show ¬ (2 : Int32) = 0; decide) (nm_i (m_tell0 rfl (fun V hV => ?_)))))
    have e19 : gI V 19 = 2 := hV.1.1 19
    have e20 : gI V 20 = 0 := hV.1.1 20
    have hF2 : FRv (sI v 0 0) (sI (sI v' 19 2) 20 0) := hF
    rw [e19]
    refine ko V (FRv_TV hF2 hV) e20 (fun j hj => ?_) hex
    rcases (show j = 0 ∨ j = 1 ∨ j = 2 ∨ j = 3 by omega) with rfl | rfl | rfl | rfl
    · exact hV.2.1
    · exact hV.2.2.1
    · exact hV.2.2.2.1
    · exact hV.2.2.2.2
  · refine R_init hw hg uF_s (fun x => ?_) (fun x h1 => ?_) ?_ ?_ (fun q hq => ?_) (fun z hz => ?_)
    · unfold stN; split
      · split <;> omega
      · exact Nat.zero_le 1
    · unfold stN at h1; rw [er] at h1
      split at h1
      · by_cases e : x = grt G 0
        · exact e
        · rw [if_neg e] at h1; omega
      · have h1 : 1 ≤ (0 : Nat) := h1
        omega
    · unfold stN; rw [er, if_pos (by omega), if_pos rfl]
    · show gI V12 17 = 0
      rw [w1 17, eI 17 (by decide) (by decide)]; rfl
    · show gA V12 24 q = -1 ∧ gA V12 25 q = _ ∧ gA V12 26 q = -1
      rcases (show q = 0 ∨ q = 1 ∨ 2 ≤ q by omega) with rfl | rfl | h2
      · exact w3
      · exact w4
      · obtain ⟨q1, q2, q3⟩ := w5 q (by omega) (by omega)
        rw [q1, q2, q3, if_neg (by omega), if_neg (by omega)]
        exact (e24 q).1 (by omega)
    · show gA V12 31 z = -1 ∧ gA V12 32 z = 0
      rw [w2 31 (by decide) (by decide) (by decide), w2 32 (by decide) (by decide) (by decide)]
      exact (e31 z).1 (by omega)
