/-! 94.runC: the class's run -/
theorem sumTo_0 : ∀ n, sumTo (fun _ => 0) n = 0
  | 0 => rfl
  | n + 1 => by simp only [sumTo]; rw [sumTo_0 n]
theorem M_init {G : Prg} {a b : Int32} {sc : Nat → Nat → List Nat} {id : Nat → Cid} {st : Nat → Nat} {va : Nat → Vl} {B : List Nat} {W : Nat → List Nat} {lk : Nat → Nat} {U : St} (hw : WFp G) (hsc : ScF G sc) (hg : 0 < gn G) (hid : id 0 = []) (hst : ∀ x, st x ≤ 1) (hst1 : ∀ x, 1 ≤ st x → x / 60 = 0 → x = grt G 0) (h1 : st (grt G 0) = 1) (hW : ∀ y, W y = []) (e14 : gI U 14 = a) (e15 : gI U 15 = b) (e17 : gI U 17 = 0) : SMc G a b sc 1 id st va B W (fun _ => False) (fun _ => False) lk U := by
  have hd0 : dfn G [] = 0 := rfl
  have h2 : ∀ x, ¬ 2 ≤ st x := fun x h => by have := hst x; omega
  have h3 : ∀ x, ¬ st x = 3 := fun x h => by have := hst x; omega
  have hj : ∀ j, j < 1 → id j = [] := fun j hj => by rw [show j = 0 by omega]; exact hid
  have h60 := (WF_d hw hg).2.1
  have hrt := (WF_d hw hg).2.2
  refine ⟨⟨e14, e15, e17, by decide, hid⟩, ⟨fun i j hi hj' _ => by omega, fun j hj' => by rw [hj j hj']; exact ⟨hg, trivial⟩, fun x hx => ⟨fun hx1 => ?_, fun h => absurd h (h3 x)⟩⟩, fun x _ h => absurd h (h3 x), fun x _ _ h => absurd h (h2 x), fun x _ h => absurd h (h2 x), fun j hj' => ?_, fun x hx hx1 q hq => ?_, fun j e c j' a1 a2 _ _ => ?_, fun y x hx => ?_, fun x _ h => absurd h (by have := hst x; omega), fun x _ _ h => absurd h (h3 x), fun x _ h => absurd h (h3 x)⟩
  · have hx0 := hx.1
    have := hst1 x hx1 (by omega)
    refine Lfp_step (Or.inl ⟨?_, ?_⟩)
    · show exC G _ (id (x / 60)); rw [show x / 60 = 0 by omega, hid]; trivial
    · show x % 60 = grt G (dfn G (id (x / 60))); rw [show x / 60 = 0 by omega, hid, hd0]; omega
  · rw [hj j hj', hd0, show j = 0 by omega]
    show 1 ≤ st (60 * 0 + grt G 0)
    rw [show 60 * 0 + grt G 0 = grt G 0 by omega, h1]; decide
  · have hx0 := hx.1
    have hxr := hst1 x hx1 (by omega)
    have e : x % 60 = grt G 0 := by omega
    rw [show x / 60 = 0 by omega, hid, hd0, e, (hsc 0 hg).1] at hq; cases hq
  · rw [hj j a1] at a2; cases a2
  · rw [hW y] at hx; cases hx
def kcN (G : Prg) (N : Nat) (id : Nat → Cid) (st : Nat → Nat) : Nat := ((List.range N).filter (fun j => isCl (id j) && decide (st (60 * j + grt G (dfn G (id j))) = 3))).length
theorem c_knownCells {G : Prg} {M N : Nat} {id : Nat → Cid} {st : Nat → Nat} {u : St} (hw : WFp G) (hC : CPu G u) (hJ : CalC G M N id u) (hS : ∀ x, vld G N id x → st x ≤ 3 ∧ gA u 33 x = nI (st x)) {P : Int32 → St → Prop} (k : P (nI (kcN G N id st)) u) : wp_X1_knownCells u P := by
  have hN : N ≤ 300 := by have := hJ.1; omega
  have key : ∀ f j, j + f = N → wp_X1_knownCells_4 P (f + 1) u (nI (((List.range j).filter (fun j => isCl (id j) && decide (st (60 * j + grt G (dfn G (id j))) = 3))).length)) (nI j) := by
    intro f
    induction f with
    | zero =>
      intro j hj
      have hjN : j = N := by omega
      subst hjN
      exact br_p (by rw [hJ.1.1]; simp (disch := omega) only [nI_leI, nI_ltI, nI_eq]; omega) k
    | succ f ih =>
      intro j hj
      have hjN : j < N := by omega
      obtain ⟨hd, e30, hmk⟩ := hJ.2 j hjN
      have h32 : gA u 32 j = -1 ↔ isCl (id j) = false := by
        unfold mkJ at hmk
        cases hid : id j with
        | nil => rw [hid] at hmk; exact ⟨fun _ => rfl, fun _ => hmk.2⟩
        | cons e c =>
          rw [hid] at hmk
          obtain ⟨j', _, _, _, m4, _, m6⟩ := hmk
          rw [m6]
          show _ ↔ decide (e.2 ≠ 0) = false
          by_cases h : e.2 = 0
          · rw [if_pos h]; simp [h]
          · rw [if_neg h]
            exact ⟨fun c => absurd c (nI_m1 (by omega)), fun c => by simp at c; exact absurd c h⟩
      have hrng : (List.range (j + 1)).filter (fun j => isCl (id j) && decide (st (60 * j + grt G (dfn G (id j))) = 3)) = (List.range j).filter (fun j => isCl (id j) && decide (st (60 * j + grt G (dfn G (id j))) = 3)) ++ [j].filter (fun j => isCl (id j) && decide (st (60 * j + grt G (dfn G (id j))) = 3)) := by rw [List.range_succ, List.filter_append]
      have step0 : (isCl (id j) && decide (st (60 * j + grt G (dfn G (id j))) = 3)) = false → wp_X1_knownCells_4 P (f + 1) u (nI (((List.range j).filter (fun j => isCl (id j) && decide (st (60 * j + grt G (dfn G (id j))) = 3))).length)) (nI (j + 1)) := fun h0 => by
        have := ih (j + 1) (by omega)
        rw [hrng, List.filter_cons_of_neg (by rw [h0]; simp), List.filter_nil, List.append_nil] at this
        exact this
      have step1 : (isCl (id j) && decide (st (60 * j + grt G (dfn G (id j))) = 3)) = true → wp_X1_knownCells_4 P (f + 1) u (nI (((List.range j).filter (fun j => isCl (id j) && decide (st (60 * j + grt G (dfn G (id j))) = 3))).length) + 1) (nI (j + 1)) := fun h0 => by
        have := ih (j + 1) (by omega)
        rw [hrng, List.filter_cons_of_pos (p := fun j => isCl (id j) && decide (st (60 * j + grt G (dfn G (id j))) = 3)) (by exact h0), List.filter_nil, List.length_append] at this
        rw [nI_1]; exact this
      refine br_n (by rw [hJ.1.1]; simp (disch := omega) only [nI_leI, nI_ltI, nI_eq]; omega) ⟨inN (by omega) (by decide), ?_⟩
      rw [ixN (by omega)]
      refine br_b (fun c => nm_i ?_) (fun c => a_root hw hC hJ hjN rfl ?_)
      · rw [nI_1]; exact step0 (by rw [h32.mp c]; rfl)
      · have hcl : isCl (id j) = true := by
          cases hc : isCl (id j) with
          | true => rfl
          | false => exact absurd (h32.mpr hc) c
        obtain ⟨g1, g2, g3, g4⟩ := vld_in hw hjN hd (WF_d hw hd).2.2
        obtain ⟨s1, s2⟩ := hS _ g1
        have hlt := vld_lt g1 hN
        refine ⟨inN hlt (by decide), ?_⟩
        rw [ixN (by omega), s2]
        refine br_b (fun c3 => ⟨bz1, br_n (by decide) (nm_i (nm_i ?_))⟩) (fun c3 => ⟨bz0, br_p rfl (nm_i ?_)⟩)
        · simp (disch := omega) only [ln_0, ln_1, ln_2, ln_3, ln_4, ln_5, ln_6, ln_7, ln_8, ln_9, ln_10, ln_11, ln_12, ln_13, ln_14, ln_15, ln_16, ln_17, ln_18, ln_19, ln_20, ln_21, ln_22, ln_23, ln_24, ln_25, ln_26, ln_27, ln_28, ln_29, ln_30, ln_31, ln_32, ln_33, ln_34, ln_35, ln_36, ln_37, ln_38, ln_39, ln_40, ln_41, ln_42, ln_43, ln_44, ln_45, ln_46, ln_47, ln_48, ln_49, ln_50, ln_51, ln_52, ln_53, ln_54, ln_55, ln_56, ln_57, ln_58, ln_59, ln_60, ln_61, ln_62, ln_91, ln_93, ln_97, ln_122, ln_120, ln_123, ln_124, ln_255, ln_256, ln_300, ln_720, ln_1500, ln_12000, ln_18000, nI_leI, nI_ltI, nI_eq] at c3
          have e : nI j + 1 = nI (j + 1) := nI_1 j
          rw [e]; exact step1 (by rw [hcl, decide_eq_true c3]; rfl)
        · simp (disch := omega) only [ln_0, ln_1, ln_2, ln_3, ln_4, ln_5, ln_6, ln_7, ln_8, ln_9, ln_10, ln_11, ln_12, ln_13, ln_14, ln_15, ln_16, ln_17, ln_18, ln_19, ln_20, ln_21, ln_22, ln_23, ln_24, ln_25, ln_26, ln_27, ln_28, ln_29, ln_30, ln_31, ln_32, ln_33, ln_34, ln_35, ln_36, ln_37, ln_38, ln_39, ln_40, ln_41, ln_42, ln_43, ln_44, ln_45, ln_46, ln_47, ln_48, ln_49, ln_50, ln_51, ln_52, ln_53, ln_54, ln_55, ln_56, ln_57, ln_58, ln_59, ln_60, ln_61, ln_62, ln_91, ln_93, ln_97, ln_122, ln_120, ln_123, ln_124, ln_255, ln_256, ln_300, ln_720, ln_1500, ln_12000, ln_18000, nI_leI, nI_ltI, nI_eq] at c3
          rw [nI_1]; exact step0 (by rw [hcl, decide_eq_false c3]; rfl)
  exact ⟨N + 1, key N 0 (by omega)⟩
theorem c_forget {u : St} {P : St → Prop} (k : ∀ U, (∀ i, i ≠ 0 → gI U i = gI u i) → (∀ i, i ≠ 8 → gA U i = gA u i) → gI U 0 = 0 → (∀ j, j < 4 → gA U 8 j = 0) → P U) : wp_X6_forgetRun u P := by
  refine nm_i ⟨5, br_n (by decide) ⟨vp_in_iff.mpr (by decide), nm_i (nm_i (br_n (by decide) ⟨vp_in_iff.mpr (by decide), nm_i (nm_i (br_n (by decide) ⟨vp_in_iff.mpr (by decide), nm_i (nm_i (br_n (by decide) ⟨vp_in_iff.mpr (by decide), nm_i (nm_i (br_p (by decide) (k _ (fun i hi => ?_) (fun i hi => ?_) rfl (fun j hj => ?_))))⟩))⟩))⟩))⟩⟩
  · simp only [gI_sA, gI_sI, if_neg hi]
  · simp only [gA_sA, gA_sI, if_neg hi]
  · match j, hj with
    | 0, _ => rfl
    | 1, _ => rfl
    | 2, _ => rfl
    | 3, _ => rfl
    | j + 4, hj => omega
theorem FRu_ag {u0 u U : St} (h : FRu u0 u) (eI : ∀ i, i ≠ 0 → gI U i = gI u i) (eA : ∀ i, i ≠ 8 → gA U i = gA u i) : FRu u0 U := by
  unfold FRu at h ⊢
  rw [eI 8 (by decide), eI 13 (by decide), eA 14 (by decide), eA 22 (by decide), eA 23 (by decide), eA 24 (by decide), eA 25 (by decide), eA 26 (by decide), eA 27 (by decide), eA 28 (by decide)]; exact h
theorem c_run {G : Prg} {a b : Int32} {sc : Nat → Nat → List Nat} {M : Nat} {u : St} {od : Int32} (hw : WFp G) (hsc : ScF G sc) (hC : CPu G u) (hg : 0 < gn G) (hM : 1 ≤ M ∧ M ≤ 300) {P : Int32 → St → Prop} {px : String → St → Prop}
    (ky : ∀ (U : St) (N : Nat) (id : Nat → Cid) (st : Nat → Nat) (va : Nat → Vl) (KS : List Nat), SdM G a b N id st va → ClM G a b N id st va → (N ≤ M ∧ 1 ≤ N ∧ id 0 = []) → (∀ x, vld G N id x → st x ≤ 3) → KS.Nodup → (∀ z, z ∈ KS ↔ vld G N id z ∧ st z = 3) → FRu u U → gI U 0 = (if st (grt G 0) = 3 then (va (grt G 0)).1 else 0) → gA U 8 0 = nI N → gA U 8 1 = nI KS.length → gA U 8 2 = nI (kcN G N id st) → gA U 8 3 = nI (cellN N id) → P (if st (grt G 0) = 3 then 0 else 1) U)
    (ko : ∀ U, FRu u U → gI U 0 = 0 → (∀ j, j < 4 → gA U 8 j = 0) → (∃ (N : Nat) (id : Nat → Cid) (st : Nat → Nat) (va : Nat → Vl) (c : Cid), SdM G a b N id st va ∧ N = M ∧ exC G (Lfp G a b) c ∧ ∀ j, j < N → id j ≠ c) → P 2 U) : wp_X6_run u a b (nI M) od P px := by
  have hn12 := (WF_d hw hg).1
  have h60 := (WF_d hw hg).2.1
  have hrt := (WF_d hw hg).2.2
  have e300 : (if 300 < nI M then (300 : Int32) else nI M) = nI M := by
    rw [if_neg]; simp (disch := omega) only [ln_0, ln_1, ln_2, ln_3, ln_4, ln_5, ln_6, ln_7, ln_8, ln_9, ln_10, ln_11, ln_12, ln_13, ln_14, ln_15, ln_16, ln_17, ln_18, ln_19, ln_20, ln_21, ln_22, ln_23, ln_24, ln_25, ln_26, ln_27, ln_28, ln_29, ln_30, ln_31, ln_32, ln_33, ln_34, ln_35, ln_36, ln_37, ln_38, ln_39, ln_40, ln_41, ln_42, ln_43, ln_44, ln_45, ln_46, ln_47, ln_48, ln_49, ln_50, ln_51, ln_52, ln_53, ln_54, ln_55, ln_56, ln_57, ln_58, ln_59, ln_60, ln_61, ln_62, ln_91, ln_93, ln_97, ln_122, ln_120, ln_123, ln_124, ln_255, ln_256, ln_300, ln_720, ln_1500, ln_12000, ln_18000, nI_leI, nI_ltI, nI_eq]; omega
  refine br_n (by rw [hC.1]; simp (disch := omega) only [ln_0, ln_1, ln_2, ln_3, ln_4, ln_5, ln_6, ln_7, ln_8, ln_9, ln_10, ln_11, ln_12, ln_13, ln_14, ln_15, ln_16, ln_17, ln_18, ln_19, ln_20, ln_21, ln_22, ln_23, ln_24, ln_25, ln_26, ln_27, ln_28, ln_29, ln_30, ln_31, ln_32, ln_33, ln_34, ln_35, ln_36, ln_37, ln_38, ln_39, ln_40, ln_41, ln_42, ln_43, ln_44, ln_45, ln_46, ln_47, ln_48, ln_49, ln_50, ln_51, ln_52, ln_53, ln_54, ln_55, ln_56, ln_57, ln_58, ln_59, ln_60, ln_61, ln_62, ln_91, ln_93, ln_97, ln_122, ln_120, ln_123, ln_124, ln_255, ln_256, ln_300, ln_720, ln_1500, ln_12000, ln_18000, nI_leI, nI_ltI, nI_eq]; omega) (br_n (by simp (disch := omega) only [ln_0, ln_1, ln_2, ln_3, ln_4, ln_5, ln_6, ln_7, ln_8, ln_9, ln_10, ln_11, ln_12, ln_13, ln_14, ln_15, ln_16, ln_17, ln_18, ln_19, ln_20, ln_21, ln_22, ln_23, ln_24, ln_25, ln_26, ln_27, ln_28, ln_29, ln_30, ln_31, ln_32, ln_33, ln_34, ln_35, ln_36, ln_37, ln_38, ln_39, ln_40, ln_41, ln_42, ln_43, ln_44, ln_45, ln_46, ln_47, ln_48, ln_49, ln_50, ln_51, ln_52, ln_53, ln_54, ln_55, ln_56, ln_57, ln_58, ln_59, ln_60, ln_61, ln_62, ln_91, ln_93, ln_97, ln_122, ln_120, ln_123, ln_124, ln_255, ln_256, ln_300, ln_720, ln_1500, ln_12000, ln_18000, nI_leI, nI_ltI, nI_eq]; omega) (br_p (by simp (disch := omega) only [ln_0, ln_1, ln_2, ln_3, ln_4, ln_5, ln_6, ln_7, ln_8, ln_9, ln_10, ln_11, ln_12, ln_13, ln_14, ln_15, ln_16, ln_17, ln_18, ln_19, ln_20, ln_21, ln_22, ln_23, ln_24, ln_25, ln_26, ln_27, ln_28, ln_29, ln_30, ln_31, ln_32, ln_33, ln_34, ln_35, ln_36, ln_37, ln_38, ln_39, ln_40, ln_41, ln_42, ln_43, ln_44, ln_45, ln_46, ln_47, ln_48, ln_49, ln_50, ln_51, ln_52, ln_53, ln_54, ln_55, ln_56, ln_57, ln_58, ln_59, ln_60, ln_61, ln_62, ln_91, ln_93, ln_97, ln_122, ln_120, ln_123, ln_124, ln_255, ln_256, ln_300, ln_720, ln_1500, ln_12000, ln_18000, nI_leI, nI_ltI, nI_eq]; omega) ?_))
  refine nm_i (nm_i (nm_i (nm_i (nm_i (nm_i (nm_i (nm_i (nm_i (nm_i (nm_i ?_))))))))))
  rw [e300]
  generalize hus : sI (sI (sI (sI (sI (sI (sI (sI (sI (sI (sI u 14 a) 15 b) 16 (nI M)) 17 0) 18 0) 19 0) 21 0) 22 0) 23 od) 24 od) 20 0 = us
  have usA : ∀ i, gA us i = gA u i := fun i => by rw [← hus]; rfl
  have us8 : gI us 8 = gI u 8 := by rw [← hus]; rfl
  have us13 : gI us 13 = gI u 13 := by rw [← hus]; rfl
  have us14 : gI us 14 = a := by rw [← hus]; rfl
  have us15 : gI us 15 = b := by rw [← hus]; rfl
  have us16 : gI us 16 = nI M := by rw [← hus]; rfl
  have us17 : gI us 17 = 0 := by rw [← hus]; rfl
  have us18 : gI us 18 = nI 0 := by rw [← hus]; rfl
  have us19 : gI us 19 = nI 0 := by rw [← hus]; rfl
  have us20 : gI us 20 = nI 0 := by rw [← hus]; rfl
  have us21 : gI us 21 = nI 0 := by rw [← hus]; rfl
  have us22 : gI us 22 = nI 0 := by rw [← hus]; rfl
  clear hus
  have nv : ∀ id x, ¬ vld G 0 id x := fun id x h => absurd h.1 (Nat.not_lt_zero _)
  have hSI0 : SIc G M 0 (fun _ => []) (fun _ => 0) [] (fun _ => []) (fun _ => False) u us := by
    refine ⟨⟨us8, us13, usA 14, usA 22, usA 23, usA 24, usA 25, usA 26, usA 27, usA 28⟩, ?_, ⟨⟨us18, us16, Nat.zero_le _, hM.2⟩, fun j hj => absurd hj (Nat.not_lt_zero _)⟩, fun x hx => absurd hx (nv _ x), ⟨⟨0, by decide, us21, us22, fun i hi => absurd hi (Nat.not_lt_zero _)⟩, List.nodup_nil, (fun x hx => by cases hx)⟩, ⟨fun y hy => absurd hy (nv _ y), fun _ => List.nodup_nil, (fun y x hx => by cases hx), (fun y y' x hx => by cases hx)⟩, fun x hx => absurd hx (nv _ x), fun x hx => hx.elim⟩
    unfold CPu at hC ⊢
    rw [us13, usA 22, usA 23, usA 24, usA 25, usA 26, usA 27, usA 28]; exact hC
  refine o_begin hw hSI0 (c := []) hg rfl ⟨rfl, rfl⟩ (fun _ U hU eI e29 e34 e35 => ?_) (fun h => by omega)
  obtain ⟨S, hS⟩ : ∃ S, S = 18000 := ⟨_, rfl⟩
  have hid0 : uF (fun _ : Nat => ([] : Cid)) 0 [] 0 = [] := uF_s
  have er : 60 * 0 + grt G (dfn G []) = grt G 0 := by show 60 * 0 + grt G 0 = _; omega
  have hRI : RIs G a b sc M u (fun _ => 0) U := by
    refine ⟨1, _, _, fun _ => (0, none), _, _, [], hU, ?_, ⟨by rw [eI 20 (by decide) (by decide)]; exact us20, List.nodup_nil, fun z => ⟨fun h => (by cases h), fun h => ?_⟩, ?_⟩, ⟨fun _ => Nat.zero_le _, fun _ _ => rfl⟩⟩
    · refine M_init hw hsc hg hid0 (fun x => ?_) (fun x h1 hx => ?_) ?_ (fun y => ?_) (by rw [eI 14 (by decide) (by decide)]; exact us14) (by rw [eI 15 (by decide) (by decide)]; exact us15) (by rw [eI 17 (by decide) (by decide)]; exact us17)
      · unfold stN; split
        · split <;> omega
        · exact Nat.zero_le 1
      · unfold stN at h1; rw [if_pos hx, er] at h1
        by_cases e : x = grt G 0
        · exact e
        · rw [if_neg e] at h1; omega
      · unfold stN; rw [er, if_pos (by omega), if_pos rfl]
      · unfold uF; split <;> rfl
    · have h3 := h.2
      unfold stN at h3; split at h3
      · split at h3 <;> omega
      · have h3 : (0 : Nat) = 3 := h3
        omega
    · rw [eI 19 (by decide) (by decide), us19]; rfl
  refine ⟨72001 + 1, c_loop hS hw hsc (fun V hV => ?_) (fun V hV => ?_) 72001 0 (fun _ => 0) U (by omega) (sumTo_0 S) hRI⟩
  · obtain ⟨N, id, st, va, W, KS, lk, hSI, hSM, hCN⟩ := hV
    have hcl := c_closed hw hSI hSM
    have hD := hSM.2.1
    obtain ⟨_, _, n17, n1, nid⟩ := hSM.1
    have hCV := hSI.2.1
    have hJV := hSI.2.2.1
    have hN : N ≤ 300 := by have := hJV.1; omega
    obtain ⟨g1, g2, g3, g4⟩ := vld_in hw (id := id) (N := N) (j := 0) (p := grt G (dfn G (id 0))) (by omega) (by rw [nid]; exact hg) (by rw [nid]; exact hrt)
    have er2 : 60 * 0 + grt G (dfn G (id 0)) = grt G 0 := by rw [nid]; show 60 * 0 + grt G 0 = _; omega
    rw [er2] at g1 g2
    obtain ⟨s1, s2⟩ := hSI.2.2.2.1 _ g1
    have hlt : grt G 0 < 18000 := by omega
    have h89 : ∀ (y r : Int32) (T : St), (∀ i, i ≠ 0 → gI T i = gI V i) → (∀ i, i ≠ 8 → gA T i = gA V i) → r = (if st (grt G 0) = 3 then 0 else 1) → y = (if st (grt G 0) = 3 then (va (grt G 0)).1 else 0) → wp_X6_run_89 T r y P px := fun y r T tI tA hr hy => by
      subst hr hy
      refine nm_i ⟨vp_in_iff.mpr (by decide), nm_i ⟨vp_in_iff.mpr (by decide), nm_i ?_⟩⟩
      generalize hT2 : sA (sA (sI T 0 (if st (grt G 0) = 3 then (va (grt G 0)).1 else 0)) 8 (ix 0) (gI (sI T 0 (if st (grt G 0) = 3 then (va (grt G 0)).1 else 0)) 18)) 8 (ix 1) (gI (sA (sI T 0 (if st (grt G 0) = 3 then (va (grt G 0)).1 else 0)) 8 (ix 0) (gI (sI T 0 (if st (grt G 0) = 3 then (va (grt G 0)).1 else 0)) 18)) 20) = T2
      have t2I : ∀ i, i ≠ 0 → gI T2 i = gI V i := fun i hi => by rw [← hT2]; simp only [gI_sA, gI_sI, if_neg hi]; exact tI i hi
      have t2A : ∀ i, i ≠ 8 → gA T2 i = gA V i := fun i hi => by rw [← hT2]; simp only [gA_sA, gA_sI, if_neg hi]; exact tA i hi
      have t20 : gI T2 0 = (if st (grt G 0) = 3 then (va (grt G 0)).1 else 0) := by rw [← hT2]; rfl
      have t280 : gA T2 8 0 = gI T 18 := by rw [← hT2]; rfl
      have t281 : gA T2 8 1 = gI T 20 := by rw [← hT2]; rfl
      obtain ⟨f1, f2, f3⟩ := fr3 (U := T2) hSI.1 hCV hJV (fun i hi => t2I i (by omega)) (fun i hi => t2A i (by omega))
      refine c_knownCells hw f2 f3 (fun x hx => by rw [t2A 33 (by decide)]; exact hSI.2.2.2.1 x hx) ⟨vp_in_iff.mpr (by decide), nm_i ⟨vp_in_iff.mpr (by decide), nm_i ?_⟩⟩
      refine ky _ N id st va KS hD hcl ⟨by have := hJV.1; omega, n1, nid⟩ (fun x hx => (hSI.2.2.2.1 x hx).1) hCN.2.1 hCN.2.2.1 ?_ ?_ ?_ ?_ ?_ ?_
      · exact FRu_ag hSI.1 (fun i hi => by simp only [gI_sA]; exact t2I i hi) (fun i hi => by simp only [gA_sA, if_neg hi]; exact t2A i hi)
      · exact t20
      · show gA T2 8 0 = _; rw [t280, tI 18 (by decide)]; exact hJV.1.1
      · show gA T2 8 1 = _; rw [t281, tI 20 (by decide)]; exact hCN.1
      · rfl
      · show gI T2 19 = _; rw [t2I 19 (by decide)]; exact hCN.2.2.2
    refine br_p n17 (a_root hw hCV hJV (show 0 < N by omega) rfl ?_)
    rw [er2]
    refine ⟨inN hlt (by decide), ?_⟩
    rw [ixN (by omega), s2]
    refine br_b (fun c => ⟨bz1, br_n (by decide) (c_forget (fun T tI tA _ _ => ?_))⟩) (fun c => ⟨bz0, br_p rfl (c_forget (fun T tI tA _ _ => ?_))⟩)
    · simp (disch := omega) only [ln_0, ln_1, ln_2, ln_3, ln_4, ln_5, ln_6, ln_7, ln_8, ln_9, ln_10, ln_11, ln_12, ln_13, ln_14, ln_15, ln_16, ln_17, ln_18, ln_19, ln_20, ln_21, ln_22, ln_23, ln_24, ln_25, ln_26, ln_27, ln_28, ln_29, ln_30, ln_31, ln_32, ln_33, ln_34, ln_35, ln_36, ln_37, ln_38, ln_39, ln_40, ln_41, ln_42, ln_43, ln_44, ln_45, ln_46, ln_47, ln_48, ln_49, ln_50, ln_51, ln_52, ln_53, ln_54, ln_55, ln_56, ln_57, ln_58, ln_59, ln_60, ln_61, ln_62, ln_91, ln_93, ln_97, ln_122, ln_120, ln_123, ln_124, ln_255, ln_256, ln_300, ln_720, ln_1500, ln_12000, ln_18000, nI_leI, nI_ltI, nI_eq] at c
      refine br_n (by decide) (br_p rfl ?_)
      obtain ⟨f1, f2, f3⟩ := fr3 (U := T) hSI.1 hCV hJV (fun i hi => tI i (by omega)) (fun i hi => tA i (by omega))
      refine a_root hw f2 f3 (show 0 < N by omega) rfl ?_
      rw [er2]
      refine numAt hlt ?_
      rw [tA 34 (by decide), (hSM.2.2.1 _ g1 c).1]
      exact h89 _ _ T tI tA (by rw [if_pos c]) (by rw [if_pos c])
    · simp (disch := omega) only [ln_0, ln_1, ln_2, ln_3, ln_4, ln_5, ln_6, ln_7, ln_8, ln_9, ln_10, ln_11, ln_12, ln_13, ln_14, ln_15, ln_16, ln_17, ln_18, ln_19, ln_20, ln_21, ln_22, ln_23, ln_24, ln_25, ln_26, ln_27, ln_28, ln_29, ln_30, ln_31, ln_32, ln_33, ln_34, ln_35, ln_36, ln_37, ln_38, ln_39, ln_40, ln_41, ln_42, ln_43, ln_44, ln_45, ln_46, ln_47, ln_48, ln_49, ln_50, ln_51, ln_52, ln_53, ln_54, ln_55, ln_56, ln_57, ln_58, ln_59, ln_60, ln_61, ln_62, ln_91, ln_93, ln_97, ln_122, ln_120, ln_123, ln_124, ln_255, ln_256, ln_300, ln_720, ln_1500, ln_12000, ln_18000, nI_leI, nI_ltI, nI_eq] at c
      refine br_n (by decide) (br_n (by decide) ?_)
      exact h89 _ _ T tI tA (by rw [if_neg c]) (by rw [if_neg c])
  · obtain ⟨hF, h17, hex⟩ := hV
    refine c_forget (fun T tI tA t0 t8 => br_p rfl (ko T (FRu_ag hF tI tA) t0 t8 hex))
