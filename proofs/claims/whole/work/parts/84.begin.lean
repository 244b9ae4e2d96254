/-! 84.begin: addresses; a call begun -/
theorem pk_d6 {x : Nat} (h : x < 20000) : nI x / 60 = nI (x / 60) := pk_div (d := 60) (by omega) (by decide) (by decide)
theorem WF_d {G : Prg} (hw : WFp G) {d : Nat} (hd : d < gn G) : gn G ≤ 12 ∧ gnp G d ≤ 60 ∧ grt G d < gnp G d := ⟨hw.1.1, (hw.2 d hd).2.2.1, (hw.2 d hd).2.2.2.1⟩
theorem vld_d {G : Prg} {M N : Nat} {id : Nat → Cid} {u : St} (hJ : CalC G M N id u) {x : Nat} (hx : vld G N id x) : dfn G (id (x / 60)) < gn G := (hJ.2 _ hx.1).1
theorem vld_in {G : Prg} (hw : WFp G) {N : Nat} {id : Nat → Cid} {j p : Nat} (hj : j < N) (hd : dfn G (id j) < gn G) (hp : p < gnp G (dfn G (id j))) : vld G N id (60 * j + p) ∧ slO id (60 * j + p) = (id j, p) ∧ (60 * j + p) / 60 = j ∧ (60 * j + p) % 60 = p := by
  have := (WF_d hw hd).2.1
  have e1 : (60 * j + p) / 60 = j := by omega
  have e2 : (60 * j + p) % 60 = p := by omega
  refine ⟨?_, ?_, e1, e2⟩
  · unfold vld; rw [e1, e2]; exact ⟨hj, hp⟩
  · unfold slO; rw [e1, e2]
theorem a_part {G : Prg} (hw : WFp G) {M N : Nat} {id : Nat → Cid} {u : St} (hJ : CalC G M N id u) {x : Nat} (hx : vld G N id x) {P : Int32 → St → Prop} (k : P (nI (60 * dfn G (id (x / 60)) + x % 60)) u) : wp_X1_partOf u (nI x) P := by
  have hlt := vld_lt hx (by have := hJ.1; omega)
  have hd := vld_d hJ hx
  have := (WF_d hw hd).1
  have h300 : N ≤ 300 := by have := hJ.1; omega
  have hx1 := hx.1
  unfold wp_X1_partOf
  rw [pk_d6 (by omega)]
  refine ⟨inN (by omega) (by decide), ?_⟩
  rw [ixN (by omega), (hJ.2 _ hx.1).2.1]
  have e : nI (dfn G (id (x / 60))) * 60 + (nI x - nI (x / 60) * 60) = nI (60 * dfn G (id (x / 60)) + x % 60) := by
    have h1 : nI x - nI (x / 60) * 60 = nI (x % 60) := by rw [← pk_d6 (by omega)]; exact pk_m6 (by omega)
    rw [h1]; show nI _ * nI 60 + _ = _; rw [pk_mul, nI_add]; congr 1; omega
  rw [e]; exact k
theorem a_inside {G : Prg} (hw : WFp G) {M N : Nat} {id : Nat → Cid} {u : St} (hC : CPu G u) (hJ : CalC G M N id u) {x p k0 : Nat} (hx : vld G N id x) (hp : p < gnp G (dfn G (id (x / 60)))) (hk : k0 < gnk G (dfn G (id (x / 60))) p) {y q : Int32} (hy : y = nI (60 * dfn G (id (x / 60)) + p)) (hq : q = nI k0) {P : Int32 → St → Prop} (k : P (nI (60 * (x / 60) + gkid G (dfn G (id (x / 60))) p k0)) u) : wp_X1_inside u (nI x) y q P := by
  subst hy hq
  have hlt := vld_lt hx (by have := hJ.1; omega)
  have hd := vld_d hJ hx
  obtain ⟨d1, d2, d3⟩ := WF_d hw hd
  obtain ⟨_, _, _, _, w5⟩ := hw.2 _ hd
  obtain ⟨k1, k2, _⟩ := w5 p hp
  have hkid := k2 k0 hk
  have hcp := (hC.2 _ hd).2.2.2 p hp
  have e1 : nI x - (nI x - nI x / 60 * 60) = nI (60 * (x / 60)) := by
    rw [pk_m6 (by omega), pk_sub (by omega)]; congr 1; omega
  refine nm_i ?_
  rw [e1]
  have e2 : nI (60 * dfn G (id (x / 60)) + p) * 6 + nI k0 = nI ((60 * dfn G (id (x / 60)) + p) * 6 + k0) := by show nI _ * nI 6 + _ = _; rw [pk_mul, nI_add]
  unfold wp_X2_childOf
  rw [e2]
  refine ⟨inN (by omega) (by decide), ?_⟩
  rw [ixN (by omega), hcp.2.2.2 k0 hk]
  show P (nI (60 * (x / 60)) + (nI (60 * dfn G (id (x / 60)) + gkid G (dfn G (id (x / 60))) p k0) - nI (60 * dfn G (id (x / 60)) + gkid G (dfn G (id (x / 60))) p k0) / 60 * 60)) u
  rw [pk_m6 (by omega), nI_add, show (60 * dfn G (id (x / 60)) + gkid G (dfn G (id (x / 60))) p k0) % 60 = gkid G (dfn G (id (x / 60))) p k0 by omega]
  exact k
theorem a_root {G : Prg} (hw : WFp G) {M N : Nat} {id : Nat → Cid} {u : St} (hC : CPu G u) (hJ : CalC G M N id u) {j : Nat} (hj : j < N) {y : Int32} (hy : y = nI j) {P : Int32 → St → Prop} (k : P (nI (60 * j + grt G (dfn G (id j)))) u) : wp_X1_rootOf u y P := by
  subst hy
  obtain ⟨hd, e30, _⟩ := hJ.2 j hj
  obtain ⟨d1, d2, d3⟩ := WF_d hw hd
  have h300 : N ≤ 300 := by have := hJ.1; omega
  refine ⟨inN (by omega) (by decide), ?_⟩
  rw [ixN (by omega), e30]
  refine ⟨inN (by omega) (by decide), ?_⟩
  rw [ixN (by omega), (hC.2 _ hd).2.2.1, pk_m6 (by omega), show (60 * dfn G (id j) + grt G (dfn G (id j))) % 60 = grt G (dfn G (id j)) by omega]
  have e : nI j * 60 + nI (grt G (dfn G (id j))) = nI (60 * j + grt G (dfn G (id j))) := by show nI j * nI 60 + _ = _; rw [pk_mul, nI_add]; congr 1; omega
  rw [e]; exact k
theorem o_see {G : Prg} {M N : Nat} {id : Nat → Cid} {st : Nat → Nat} {B : List Nat} {W : Nat → List Nat} {u0 u : St} {x : Nat} (h : SIx G M N id st B W x u0 u) {P : Int32 → St → Prop} (k : ∀ U, SIc G M N id (uF st x 2) B W (fun z => z = x) u0 U → (∀ i, gI U i = gI u i) → (∀ i, i ≠ 33 → gA U i = gA u i) → P (if st x = 1 then 1 else 0) U) : wp_X4_see u (nI x) P := by
  obtain ⟨hF, hC, hJ, hS, ⟨b1, b2, b3⟩, ⟨w1, w2, w3, w4⟩, hcov, c1, c2, c3, c4⟩ := h
  have hlt := vld_lt c1 (by have := hJ.1; omega)
  have hin : vp_in (nI x) 18000 := inN hlt (by decide)
  obtain ⟨f1, f2, f3⟩ := fr3 (U := sA u 33 x 2) hF hC hJ (fun i hi => rfl) (fun i hi => by rw [gA_sA, if_neg (by omega)])
  have hres : SIc G M N id (uF st x 2) B W (fun z => z = x) u0 (sA u 33 x 2) := by
    refine ⟨f1, f2, f3, fun z hz => ?_, ⟨b1, b2, fun z hz => ⟨(b3 z hz).1, ?_⟩⟩, ⟨fun z hz h1 h2 => ?_, w2, fun y z hz => ?_, w4⟩, fun z hz => ?_, fun z hz => ?_⟩
    · show uF st x 2 z ≤ 3 ∧ upd (gA u 33) x 2 z = _
      rw [updE]
      by_cases hzx : z = x
      · rw [if_pos hzx, hzx, uF_s]; exact ⟨by decide, rfl⟩
      · rw [if_neg hzx, uF_o hzx]; exact hS z hz
    · rw [uF_o (fun e => c3 (by rw [← e]; exact hz))]; exact (b3 z hz).2
    · by_cases hzx : z = x
      · have : gA u 37 = gA u 37 := rfl
        exact w1 z hz (by rw [hzx]; omega) (by rw [hzx]; omega)
      · rw [uF_o hzx] at h1 h2; exact w1 z hz h1 h2
    · obtain ⟨⟨a1, a2, a3⟩, a4, a5, a6⟩ := w3 y z hz
      refine ⟨⟨a1, ?_, ?_⟩, a4, ?_, a6⟩
      · by_cases hyx : y = x
        · rw [hyx, uF_s]; decide
        · rw [uF_o hyx]; exact a2
      · by_cases hyx : y = x
        · rw [hyx, uF_s]; decide
        · rw [uF_o hyx]; exact a3
      · rw [uF_o (fun e => c4 y (by rw [← e]; exact hz))]; exact a5
    · by_cases hzx : z = x
      · rw [hzx, uF_s]; exact ⟨fun h => absurd h (by decide), fun _ => Or.inr (Or.inr rfl)⟩
      · rw [uF_o hzx]
        obtain ⟨q1, q2⟩ := hcov z hz hzx
        exact ⟨q1, fun h => (q2 h).imp (fun h => h) (fun h => Or.inl h)⟩
    · rw [hz, uF_s]; exact ⟨c1, rfl, c3, c4⟩
  have e33 := hS x c1
  have hfin := k _ hres (fun _ => rfl) (fun i hi => by rw [gA_sA, if_neg hi])
  refine ⟨hin, ?_⟩
  rw [ixN (by omega), e33.2]
  refine br_b (fun c => ⟨hin, nm_i ⟨bz1, ?_⟩⟩) (fun c => ⟨hin, nm_i ⟨bz0, ?_⟩⟩)
  · simp (disch := omega) only [ln_0, ln_1, ln_2, ln_3, ln_4, ln_5, ln_6, ln_7, ln_8, ln_9, ln_10, ln_11, ln_12, ln_13, ln_14, ln_15, ln_16, ln_17, ln_18, ln_19, ln_20, ln_21, ln_22, ln_23, ln_24, ln_25, ln_26, ln_27, ln_28, ln_29, ln_30, ln_31, ln_32, ln_33, ln_34, ln_35, ln_36, ln_37, ln_38, ln_39, ln_40, ln_41, ln_42, ln_43, ln_44, ln_45, ln_46, ln_47, ln_48, ln_49, ln_50, ln_51, ln_52, ln_53, ln_54, ln_55, ln_56, ln_57, ln_58, ln_59, ln_60, ln_61, ln_62, ln_91, ln_93, ln_97, ln_122, ln_120, ln_123, ln_124, ln_255, ln_256, ln_300, ln_720, ln_1500, ln_12000, ln_18000, nI_leI, nI_ltI, nI_eq] at c
    rw [ixN (by omega)]; rw [if_pos c] at hfin; exact hfin
  · simp (disch := omega) only [ln_0, ln_1, ln_2, ln_3, ln_4, ln_5, ln_6, ln_7, ln_8, ln_9, ln_10, ln_11, ln_12, ln_13, ln_14, ln_15, ln_16, ln_17, ln_18, ln_19, ln_20, ln_21, ln_22, ln_23, ln_24, ln_25, ln_26, ln_27, ln_28, ln_29, ln_30, ln_31, ln_32, ln_33, ln_34, ln_35, ln_36, ln_37, ln_38, ln_39, ln_40, ln_41, ln_42, ln_43, ln_44, ln_45, ln_46, ln_47, ln_48, ln_49, ln_50, ln_51, ln_52, ln_53, ln_54, ln_55, ln_56, ln_57, ln_58, ln_59, ln_60, ln_61, ln_62, ln_91, ln_93, ln_97, ln_122, ln_120, ln_123, ln_124, ln_255, ln_256, ln_300, ln_720, ln_1500, ln_12000, ln_18000, nI_leI, nI_ltI, nI_eq] at c
    rw [ixN (by omega)]; rw [if_neg c] at hfin; exact hfin
theorem o_forget {P : St → Prop} {lo np : Nat} (hlt : lo + np ≤ 18000) : ∀ (f i : Nat) (u : St), i + f = lo + np → lo ≤ i → (∀ U, (∀ j, gI U j = gI u j) → (∀ j, j ≠ 33 → gA U j = gA u j) → (∀ z, gA U 33 z = if i ≤ z ∧ z < lo + np then 0 else gA u 33 z) → P U) → wp_X4_forget_2 P (f + 1) u (nI lo) (nI np) (nI i)
  | 0, i, u, hi, hlo, k => by
    refine br_p ?_ (k u (fun _ => rfl) (fun _ _ => rfl) (fun z => by rw [if_neg (by omega)]))
    rw [nI_add]; simp (disch := omega) only [nI_leI, nI_ltI, nI_eq]; omega
  | f + 1, i, u, hi, hlo, k => by
    refine br_n (by rw [nI_add]; simp (disch := omega) only [nI_leI, nI_ltI, nI_eq]; omega) ⟨inN (by omega) (by decide), nm_i (nm_i ?_)⟩
    rw [ixN (by omega), nI_1]
    refine o_forget hlt f (i + 1) _ (by omega) (by omega) (fun U h1 h2 h3 => k U (fun j => h1 j) (fun j hj => by rw [h2 j hj, gA_sA, if_neg hj]) (fun z => ?_))
    rw [h3 z]
    show (if _ then (0 : Int32) else upd (gA u 33) i 0 z) = _
    rw [updE]
    by_cases c1 : i + 1 ≤ z ∧ z < lo + np
    · rw [if_pos c1, if_pos (by omega)]
    · rw [if_neg c1]
      by_cases c2 : z = i
      · rw [if_pos c2, if_pos (by omega)]
      · rw [if_neg c2, if_neg (by omega)]
def stN (st : Nat → Nat) (N r : Nat) : Nat → Nat := fun x => if x / 60 = N then (if x = r then 1 else 0) else st x
/-- whence the new call comes -/
def mkX (G : Prg) (N : Nat) (id : Nat → Cid) (c : Cid) (x2 x3 : Int32) : Prop := match c with
  | [] => x2 = -1 ∧ x3 = -1
  | e :: c => ∃ j', j' < N ∧ id j' = c ∧ e.1 < gnp G (dfn G c) ∧ e.2 ≤ 40 ∧ x2 = nI (60 * j' + e.1) ∧ x3 = (if e.2 = 0 then -1 else nI (e.2 - 1))
theorem vld_new {G : Prg} {N : Nat} {id : Nat → Cid} {c : Cid} {x : Nat} : vld G (N + 1) (uF id N c) x ↔ vld G N id x ∨ (x / 60 = N ∧ x % 60 < gnp G (dfn G c)) := by
  unfold vld
  by_cases h : x / 60 = N
  · rw [h, uF_s]
    constructor
    · rintro ⟨_, h2⟩; exact Or.inr ⟨rfl, h2⟩
    · rintro (⟨h1, _⟩ | ⟨_, h2⟩)
      · omega
      · exact ⟨by omega, h2⟩
  · rw [uF_o h]
    constructor
    · rintro ⟨h1, h2⟩; exact Or.inl ⟨by omega, h2⟩
    · rintro (⟨h1, h2⟩ | ⟨h1, _⟩)
      · exact ⟨by omega, h2⟩
      · omega
theorem o_begin {G : Prg} {M N : Nat} {id : Nat → Cid} {st : Nat → Nat} {B : List Nat} {W : Nat → List Nat} {cu : Nat → Prop} {u0 u : St} (hw : WFp G) (h : SIc G M N id st B W cu u0 u) {c : Cid} (hdg : dfn G c < gn G) {x1 x2 x3 : Int32} (hx1 : x1 = nI (dfn G c)) (hmk : mkX G N id c x2 x3) {P : Int32 → St → Prop}
    (ky : N < M → ∀ U, SIc G M (N + 1) (uF id N c) (stN st N (60 * N + grt G (dfn G c))) (B ++ [60 * N + grt G (dfn G c)]) (uF W (60 * N + grt G (dfn G c)) []) cu u0 U → (∀ i, i ≠ 18 → i ≠ 22 → gI U i = gI u i) → gA U 29 = gA u 29 → gA U 34 = gA u 34 → gA U 35 = gA u 35 → P (nI N) U)
    (kn : N = M → P (-1) (sI u 17 1)) : wp_X1_beginCall u x1 x2 x3 P := by
  subst hx1
  obtain ⟨hF, hC, hJ, hS, ⟨⟨o, b1, b2, b3, b4⟩, b5, b6⟩, ⟨w1, w2, w3, w4⟩, hcov, hcu⟩ := h
  obtain ⟨⟨j18, j16, jle, jM⟩, hj⟩ := hJ
  obtain ⟨d1, d2, d3⟩ := WF_d hw hdg
  refine br_b (fun cN => nm_i (nm_i ?_)) (fun cN => nm_i (kn ?_))
  · rw [j18, j16] at cN
    simp (disch := omega) only [nI_leI, nI_ltI, nI_eq] at cN
    rw [j18]
    have hin : vp_in (nI N) 300 := inN (by omega) (by decide)
    refine ⟨hin, nm_i ⟨hin, nm_i ⟨hin, nm_i ⟨inN (by omega) (by decide), ?_⟩⟩⟩⟩
    rw [ixN (by omega)]
    have eD : ix (nI (dfn G c)) = dfn G c := ixN (by omega)
    generalize hu6 : sA (sA (sA (sI u 18 (nI N + 1)) 30 N (nI (dfn G c))) 31 N x2) 32 N x3 = u6
    have e6I : ∀ i, i ≠ 18 → gI u6 i = gI u i := fun i hi => by rw [← hu6]; simp only [gI_sA, gI_sI, if_neg hi]
    have e6A : ∀ i, i ≠ 30 → i ≠ 31 → i ≠ 32 → gA u6 i = gA u i := fun i a c d => by rw [← hu6]; simp only [gA_sA, gA_sI, if_neg a, if_neg c, if_neg d]
    have e618 : gI u6 18 = nI (N + 1) := by rw [← hu6]; show nI N + 1 = _; rw [nI_1]
    have e630 : gA u6 30 = upd (gA u 30) N (nI (dfn G c)) := by rw [← hu6]; rfl
    have e631 : gA u6 31 = upd (gA u 31) N x2 := by rw [← hu6]; rfl
    have e632 : gA u6 32 = upd (gA u 32) N x3 := by rw [← hu6]; rfl
    have e23 : gA u6 23 (ix (nI (dfn G c))) = nI (gnp G (dfn G c)) := by rw [eD, e6A 23 (by decide) (by decide) (by decide)]; exact (hC.2 _ hdg).2.1
    have e60 : nI N * 60 = nI (60 * N) := by show nI N * nI 60 = _; rw [pk_mul, Nat.mul_comm]
    rw [e23, e60]
    refine ⟨_, o_forget (lo := 60 * N) (np := gnp G (dfn G c)) (by omega) (gnp G (dfn G c)) (60 * N) u6 rfl (Nat.le_refl _) (fun U g1 g2 g3 => ?_)⟩
    have eI : ∀ i, i ≠ 18 → gI U i = gI u i := fun i hi => by rw [g1 i, e6I i hi]
    have eA : ∀ i, i ≠ 30 → i ≠ 31 → i ≠ 32 → i ≠ 33 → gA U i = gA u i := fun i a c d e => by rw [g2 i e, e6A i a c d]
    have hWn : ∀ y, y / 60 = N → W y = [] := fun y hy => by
      cases hW : W y with
      | nil => rfl
      | cons z l => have := (w3 y z (by rw [hW]; exact List.mem_cons_self)).1.1.1; omega
    have hst0 : ∀ z, vld G N id z → (fun x => if x / 60 = N then 0 else st x) z = st z := fun z hz => by show (if z / 60 = N then 0 else st z) = _; rw [if_neg (by have := hz.1; omega)]
    have hSI : SIc G M (N + 1) (uF id N c) (fun x => if x / 60 = N then 0 else st x) B W cu u0 U := by
      refine ⟨?_, ?_, ⟨⟨?_, ?_, by omega, jM⟩, fun j hjN => ?_⟩, fun z hz => ?_, ⟨⟨o, b1, ?_, ?_, fun i hi => ?_⟩, b5, fun z hz => ?_⟩, ⟨fun z hz h1 h2 => ?_, w2, fun y z hz => ?_, w4⟩, fun z hz => ?_, fun z hz => ?_⟩
      · unfold FRu at hF ⊢
        rw [eI 8 (by decide), eI 13 (by decide), eA 14 (by decide) (by decide) (by decide) (by decide), eA 22 (by decide) (by decide) (by decide) (by decide), eA 23 (by decide) (by decide) (by decide) (by decide), eA 24 (by decide) (by decide) (by decide) (by decide), eA 25 (by decide) (by decide) (by decide) (by decide), eA 26 (by decide) (by decide) (by decide) (by decide), eA 27 (by decide) (by decide) (by decide) (by decide), eA 28 (by decide) (by decide) (by decide) (by decide)]; exact hF
      · unfold CPu at hC ⊢
        rw [eI 13 (by decide), eA 22 (by decide) (by decide) (by decide) (by decide), eA 23 (by decide) (by decide) (by decide) (by decide), eA 24 (by decide) (by decide) (by decide) (by decide), eA 25 (by decide) (by decide) (by decide) (by decide), eA 26 (by decide) (by decide) (by decide) (by decide), eA 27 (by decide) (by decide) (by decide) (by decide), eA 28 (by decide) (by decide) (by decide) (by decide)]; exact hC
      · rw [g1 18]; exact e618
      · rw [eI 16 (by decide)]; exact j16
      · have e30 : gA U 30 = upd (gA u 30) N (nI (dfn G c)) := by rw [g2 30 (by decide)]; exact e630
        have e31 : gA U 31 = upd (gA u 31) N x2 := by rw [g2 31 (by decide)]; exact e631
        have e32 : gA U 32 = upd (gA u 32) N x3 := by rw [g2 32 (by decide)]; exact e632
        unfold mkJ
        by_cases hjn : j = N
        · rw [hjn, uF_s, e30, e31, e32, updE, updE, updE, if_pos rfl, if_pos rfl, if_pos rfl]
          refine ⟨hdg, rfl, ?_⟩
          cases c with
          | nil => exact hmk
          | cons e c =>
            obtain ⟨j', q1, q2, q3⟩ := hmk
            exact ⟨j', by omega, by rw [uF_o (by omega)]; exact q2, q3⟩
        · rw [uF_o hjn, e30, e31, e32, updE, updE, updE, if_neg hjn, if_neg hjn, if_neg hjn]
          obtain ⟨q1, q2, q3⟩ := hj j (by omega)
          refine ⟨q1, q2, ?_⟩
          unfold mkJ at q3
          cases hc : id j with
          | nil => rw [hc] at q3; exact q3
          | cons e c' =>
            rw [hc] at q3
            obtain ⟨j', r1, r2, r3⟩ := q3
            exact ⟨j', by omega, by rw [uF_o (by omega)]; exact r2, r3⟩
      · show (if z / 60 = N then 0 else st z) ≤ 3 ∧ gA U 33 z = nI (if z / 60 = N then 0 else st z)
        rw [g3 z, e6A 33 (by decide) (by decide) (by decide)]
        rcases vld_new.mp hz with hz | ⟨h1, h2⟩
        · have := hz.1
          rw [if_neg (by omega), if_neg (by omega)]; exact hS z hz
        · rw [if_pos h1, if_pos (by omega)]; exact ⟨by decide, rfl⟩
      · rw [eI 21 (by decide)]; exact b2
      · rw [eI 22 (by decide)]; exact b3
      · rw [eA 38 (by decide) (by decide) (by decide) (by decide)]; exact b4 i hi
      · exact ⟨vld_new.mpr (Or.inl (b6 z hz).1), by rw [hst0 z (b6 z hz).1]; exact (b6 z hz).2⟩
      · rw [eA 37 (by decide) (by decide) (by decide) (by decide), eA 36 (by decide) (by decide) (by decide) (by decide)]
        rcases vld_new.mp hz with hz | ⟨q1, q2⟩
        · rw [hst0 z hz] at h1 h2; exact w1 z hz h1 h2
        · have h1 : 1 ≤ (if z / 60 = N then 0 else st z) := h1
          rw [if_pos q1] at h1; omega
      · obtain ⟨⟨a1, a2, a3⟩, a4, a5, a6⟩ := w3 y z hz
        exact ⟨⟨vld_new.mpr (Or.inl a1), by rw [hst0 y a1]; exact a2, by rw [hst0 y a1]; exact a3⟩, vld_new.mpr (Or.inl a4), by rw [hst0 z a4]; exact a5, a6⟩
      · rcases vld_new.mp hz with hz | ⟨q1, q2⟩
        · rw [hst0 z hz]; exact hcov z hz
        · show ((if z / 60 = N then 0 else st z) = 1 → _) ∧ ((if z / 60 = N then 0 else st z) = 2 → _)
          rw [if_pos q1]; exact ⟨fun h => absurd h (by decide), fun h => absurd h (by decide)⟩
      · obtain ⟨a1, a2, a3⟩ := hcu z hz
        exact ⟨vld_new.mpr (Or.inl a1), by rw [hst0 z a1]; exact a2, a3⟩
    have hvr : vld G (N + 1) (uF id N c) (60 * N + grt G (dfn G c)) := vld_new.mpr (Or.inr (by omega))
    refine a_root hw hSI.2.1 hSI.2.2.1 (show N < N + 1 by omega) rfl ?_
    rw [uF_s]
    refine o_reach hSI hvr rfl (fun h1 => ?_) (fun _ V k1 k2 hV => ky cN V ?_ (fun i a c => ?_) ?_ ?_ ?_)
    · have h1 : 1 ≤ (if (60 * N + grt G (dfn G c)) / 60 = N then 0 else _) := h1
      rw [if_pos (by omega)] at h1; omega
    · have e : uF (fun x => if x / 60 = N then 0 else st x) (60 * N + grt G (dfn G c)) 1 = stN st N (60 * N + grt G (dfn G c)) := by
        funext z
        unfold uF stN
        by_cases hz : z = 60 * N + grt G (dfn G c)
        · rw [if_pos hz, if_pos (by omega), if_pos hz]
        · rw [if_neg hz]
          by_cases hz2 : z / 60 = N
          · show (if z / 60 = N then 0 else st z) = _
            rw [if_pos hz2, if_pos hz2, if_neg hz]
          · show (if z / 60 = N then 0 else st z) = _
            rw [if_neg hz2, if_neg hz2]
      rw [← e]; exact hV
    · rw [k1 i c, eI i a]
    · rw [k2 29 (by decide) (by decide) (by decide), eA 29 (by decide) (by decide) (by decide) (by decide)]
    · rw [k2 34 (by decide) (by decide) (by decide), eA 34 (by decide) (by decide) (by decide) (by decide)]
    · rw [k2 35 (by decide) (by decide) (by decide), eA 35 (by decide) (by decide) (by decide) (by decide)]
  · rw [j18, j16] at cN
    simp (disch := omega) only [nI_leI, nI_ltI, nI_eq] at cN
    omega
