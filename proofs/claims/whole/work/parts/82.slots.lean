/-! 82.slots: the class's slots, its bag, its waiting rows -/
def uF {α : Type} (f : Nat → α) (x : Nat) (v : α) : Nat → α := fun y => if y = x then v else f y
theorem uF_s {α : Type} {f : Nat → α} {x : Nat} {v : α} : uF f x v x = v := by unfold uF; rw [if_pos rfl]
theorem uF_o {α : Type} {f : Nat → α} {x y : Nat} {v : α} (h : y ≠ x) : uF f x v y = f y := by unfold uF; rw [if_neg h]
def FRu (u0 u : St) : Prop := gI u 8 = gI u0 8 ∧ gI u 13 = gI u0 13 ∧ gA u 14 = gA u0 14 ∧ gA u 22 = gA u0 22 ∧ gA u 23 = gA u0 23 ∧ gA u 24 = gA u0 24 ∧ gA u 25 = gA u0 25 ∧ gA u 26 = gA u0 26 ∧ gA u 27 = gA u0 27 ∧ gA u 28 = gA u0 28
def CPu (G : Prg) (u : St) : Prop := CP G (gI u 13) (gA u 22) (gA u 23) (gA u 24) (gA u 25) (gA u 26) (gA u 27) (gA u 28)
/-- whence each call comes -/
def mkJ (G : Prg) (N : Nat) (id : Nat → Cid) (u : St) (j : Nat) : Prop := match id j with
  | [] => gA u 31 j = -1 ∧ gA u 32 j = -1
  | e :: c => ∃ j', j' < N ∧ id j' = c ∧ e.1 < gnp G (dfn G c) ∧ e.2 ≤ 40 ∧ gA u 31 j = nI (60 * j' + e.1) ∧ gA u 32 j = (if e.2 = 0 then -1 else nI (e.2 - 1))
def CalC (G : Prg) (M N : Nat) (id : Nat → Cid) (u : St) : Prop := (gI u 18 = nI N ∧ gI u 16 = nI M ∧ N ≤ M ∧ M ≤ 300) ∧ ∀ j, j < N → dfn G (id j) < gn G ∧ gA u 30 j = nI (dfn G (id j)) ∧ mkJ G N id u j
def BagC (G : Prg) (N : Nat) (id : Nat → Cid) (st : Nat → Nat) (B : List Nat) (u : St) : Prop := (∃ o, o < 18000 ∧ gI u 21 = nI o ∧ gI u 22 = nI B.length ∧ ∀ i, i < B.length → gA u 38 ((o + i) % 18000) = nI (B.getD i 0)) ∧ B.Nodup ∧ ∀ x ∈ B, vld G N id x ∧ (st x = 1 ∨ st x = 2)
def WaiC (G : Prg) (N : Nat) (id : Nat → Cid) (st : Nat → Nat) (B : List Nat) (W : Nat → List Nat) (u : St) : Prop :=
  (∀ y, vld G N id y → 1 ≤ st y → st y ≤ 2 → Ch (gA u 37) 0 (gA u 36 y) (W y)) ∧ (∀ y, (W y).Nodup) ∧ (∀ y x, x ∈ W y → (vld G N id y ∧ 1 ≤ st y ∧ st y ≤ 2) ∧ vld G N id x ∧ st x = 2 ∧ x ∉ B) ∧ ∀ y y' x, x ∈ W y → x ∈ W y' → y = y'
def SIc (G : Prg) (M N : Nat) (id : Nat → Cid) (st : Nat → Nat) (B : List Nat) (W : Nat → List Nat) (cu : Nat → Prop) (u0 u : St) : Prop :=
  FRu u0 u ∧ CPu G u ∧ CalC G M N id u ∧ (∀ x, vld G N id x → st x ≤ 3 ∧ gA u 33 x = nI (st x)) ∧ BagC G N id st B u ∧ WaiC G N id st B W u ∧
  (∀ x, vld G N id x → (st x = 1 → x ∈ B) ∧ (st x = 2 → x ∈ B ∨ (∃ y, x ∈ W y) ∨ cu x)) ∧ ∀ x, cu x → vld G N id x ∧ st x = 2 ∧ x ∉ B ∧ ∀ y, x ∉ W y
theorem vld_lt {G : Prg} {N : Nat} {id : Nat → Cid} {x : Nat} (h : vld G N id x) (hN : N ≤ 300) : x < 18000 := by have := h.1; omega
theorem bag_room {G : Prg} {N : Nat} {id : Nat → Cid} {B : List Nat} {x : Nat} (hN : N ≤ 300) (hB : B.Nodup) (hv : ∀ y ∈ B, vld G N id y) (hx : vld G N id x) (hxB : x ∉ B) : B.length < 18000 := by
  have := nd_sub (x :: B) (List.range 18000) (List.nodup_cons.mpr ⟨hxB, hB⟩) (fun y hy => by
    rcases List.mem_cons.mp hy with rfl | hy
    · exact List.mem_range.mpr (vld_lt hx hN)
    · exact List.mem_range.mpr (vld_lt (hv y hy) hN))
  rw [List.length_range, List.length_cons] at this; omega
theorem pk_md {n : Nat} (h : n < 2000000) : nI n - nI n / 18000 * 18000 = nI (n % 18000) := pk_rem (d := 18000) (by omega) (by decide) (by decide)
theorem pk_m6 {n : Nat} (h : n < 2000000) : nI n - nI n / 60 * 60 = nI (n % 60) := pk_rem (d := 60) (by omega) (by decide) (by decide)
theorem ix_0 : ix 0 = 0 := rfl
/-- what put does -/
theorem o_put {G : Prg} {N : Nat} {id : Nat → Cid} {st : Nat → Nat} {B : List Nat} {u : St} (hN : N ≤ 300) (h : BagC G N id st B u) {x : Nat} (hx : vld G N id x) (hs : st x = 1 ∨ st x = 2) (hxB : x ∉ B) {y : Int32} (hy : y = nI x) {P : St → Prop} (k : ∀ U, (∀ i, i ≠ 22 → gI U i = gI u i) → (∀ i, i ≠ 38 → gA U i = gA u i) → BagC G N id st (B ++ [x]) U → P U) : wp_X0_put u y P := by
  subst hy
  obtain ⟨⟨o, h1, h2, h3, h4⟩, h5, h6⟩ := h
  have hroom := bag_room hN h5 (fun y hy => (h6 y hy).1) hx hxB
  refine br_n (by rw [h3]; simp (disch := omega) only [ln_0, ln_1, ln_2, ln_3, ln_4, ln_5, ln_6, ln_7, ln_8, ln_9, ln_10, ln_11, ln_12, ln_13, ln_14, ln_15, ln_16, ln_17, ln_18, ln_19, ln_20, ln_21, ln_22, ln_23, ln_24, ln_25, ln_26, ln_27, ln_28, ln_29, ln_30, ln_31, ln_32, ln_33, ln_34, ln_35, ln_36, ln_37, ln_38, ln_39, ln_40, ln_41, ln_42, ln_43, ln_44, ln_45, ln_46, ln_47, ln_48, ln_49, ln_50, ln_51, ln_52, ln_53, ln_54, ln_55, ln_56, ln_57, ln_58, ln_59, ln_60, ln_61, ln_62, ln_91, ln_93, ln_97, ln_122, ln_120, ln_123, ln_124, ln_255, ln_256, ln_300, ln_720, ln_1500, ln_12000, ln_18000, nI_leI, nI_ltI, nI_eq]; omega) ?_
  rw [h2, h3, nI_add, pk_md (by omega)]
  refine ⟨inN (by omega) (by decide), nm_i (nm_i (k _ (fun i hi => ?_) (fun i hi => ?_) ⟨⟨o, h1, ?_, ?_, fun i hi => ?_⟩, ?_, fun y hy => ?_⟩))⟩
  · rw [gI_sI, if_neg hi, gI_sA]
  · rw [gA_sI, gA_sA, if_neg hi]
  · rw [gI_sI, if_neg (by decide), gI_sA]; exact h2
  · show gI u 22 + 1 = _; rw [h3, nI_1, List.length_append]; rfl
  · rw [List.length_append] at hi
    have hi : i < B.length + 1 := hi
    show upd (gA u 38) (ix (nI ((o + B.length) % 18000))) (nI x) ((o + i) % 18000) = _
    rw [ixN (by omega), updE, List.getD_eq_getElem?_getD]
    by_cases hib : i = B.length
    · rw [if_pos (by rw [hib]), hib, List.getElem?_append_right (Nat.le_refl _), Nat.sub_self]; rfl
    · rw [if_neg (by omega), List.getElem?_append_left (by omega), ← List.getD_eq_getElem?_getD]; exact h4 i (by omega)
  · refine List.nodup_append.mpr ⟨h5, by simp, fun a ha c hc hac => ?_⟩
    simp at hc; subst hc; subst hac; exact hxB ha
  · rcases List.mem_append.mp hy with hy | hy
    · exact h6 y hy
    · simp at hy; subst hy; exact ⟨hx, hs⟩
theorem Ch_cg3 {nx nx' : Nat → Int32} {o : Nat} : ∀ (l : List Nat) (x : Int32), (∀ e ∈ l, nx' (o + e) = nx (o + e)) → Ch nx o x l → Ch nx' o x l := Ch_cg2
/-- the state of a slot -/
theorem o_st {G : Prg} {M N : Nat} {id : Nat → Cid} {st : Nat → Nat} {B : List Nat} {W : Nat → List Nat} {cu : Nat → Prop} {u0 u : St} (h : SIc G M N id st B W cu u0 u) {x : Nat} (hx : vld G N id x) : gA u 33 x = nI (st x) ∧ st x ≤ 3 ∧ x < 18000 := ⟨(h.2.2.2.1 x hx).2, (h.2.2.2.1 x hx).1, vld_lt hx (by have := h.2.2.1.1; omega)⟩
/-- reach -/
theorem o_reach {G : Prg} {M N : Nat} {id : Nat → Cid} {st : Nat → Nat} {B : List Nat} {W : Nat → List Nat} {cu : Nat → Prop} {u0 u : St} (h : SIc G M N id st B W cu u0 u) {x : Nat} (hx : vld G N id x) {y : Int32} (hy : y = nI x) {P : St → Prop} (kn : 1 ≤ st x → P u) (k : st x = 0 → ∀ U, (∀ i, i ≠ 22 → gI U i = gI u i) → (∀ i, i ≠ 33 → i ≠ 36 → i ≠ 38 → gA U i = gA u i) → SIc G M N id (uF st x 1) (B ++ [x]) (uF W x []) cu u0 U → P U) : wp_X4_reach u y P := by
  subst hy
  obtain ⟨e33, hs3, hlt⟩ := o_st h hx
  have hin : vp_in (nI x) 18000 := inN hlt (by decide)
  obtain ⟨hF, hC, hJ, hS, hB, ⟨w1, w2, w3, w4⟩, hcov, hcu⟩ := h
  have hN : N ≤ 300 := by have := hJ.1; omega
  refine ⟨hin, ?_⟩
  rw [ixN (by omega), e33]
  refine br_b (fun c => ⟨hin, nm_i ⟨hin, nm_i ?_⟩⟩) (fun c => kn ?_)
  · simp (disch := omega) only [ln_0, ln_1, ln_2, ln_3, ln_4, ln_5, ln_6, ln_7, ln_8, ln_9, ln_10, ln_11, ln_12, ln_13, ln_14, ln_15, ln_16, ln_17, ln_18, ln_19, ln_20, ln_21, ln_22, ln_23, ln_24, ln_25, ln_26, ln_27, ln_28, ln_29, ln_30, ln_31, ln_32, ln_33, ln_34, ln_35, ln_36, ln_37, ln_38, ln_39, ln_40, ln_41, ln_42, ln_43, ln_44, ln_45, ln_46, ln_47, ln_48, ln_49, ln_50, ln_51, ln_52, ln_53, ln_54, ln_55, ln_56, ln_57, ln_58, ln_59, ln_60, ln_61, ln_62, ln_91, ln_93, ln_97, ln_122, ln_120, ln_123, ln_124, ln_255, ln_256, ln_300, ln_720, ln_1500, ln_12000, ln_18000, nI_leI, nI_ltI, nI_eq] at c
    have hxB : x ∉ B := fun hm => by have := (hB.2.2 x hm).2; omega
    have hxW : ∀ y, x ∉ W y := fun y hm => by have := (w3 y x hm).2.2.1; omega
    have hWx : W x = [] := by
      cases hW : W x with
      | nil => rfl
      | cons z l => have := (w3 x z (by rw [hW]; exact List.mem_cons_self)).1.2.1; omega
    have hB2 : BagC G N id (uF st x 1) B (sA (sA u 33 x 1) 36 x (-1)) := by
      obtain ⟨b1, b2, b3⟩ := hB
      refine ⟨b1, b2, fun z hz => ⟨(b3 z hz).1, ?_⟩⟩
      rw [uF_o (fun e => hxB (by rw [← e]; exact hz))]; exact (b3 z hz).2
    refine o_put hN hB2 hx (Or.inl uF_s) hxB rfl (fun U f1 f2 hBU => k c U (fun i hi => ?_) (fun i a c d => ?_) ?_)
    · rw [f1 i hi]; rfl
    · rw [f2 i d, gA_sA, if_neg c, gA_sA, if_neg a]
    · have eA : ∀ i, i ≠ 33 → i ≠ 36 → i ≠ 38 → gA U i = gA u i := fun i a c d => by rw [f2 i d, gA_sA, if_neg c, gA_sA, if_neg a]
      have eI : ∀ i, i ≠ 22 → gI U i = gI u i := fun i hi => by rw [f1 i hi]; rfl
      have e33U : gA U 33 = upd (gA u 33) x 1 := by rw [f2 33 (by decide)]; rfl
      have e36U : gA U 36 = upd (gA u 36) x (-1) := by rw [f2 36 (by decide)]; rfl
      refine ⟨?_, ?_, ?_, fun z hz => ?_, hBU, ⟨fun z hz h1 h2 => ?_, fun z => ?_, fun z r hr => ?_, fun z z' r hr hr' => ?_⟩, fun z hz => ⟨fun h1 => ?_, fun h2 => ?_⟩, fun z hz => ?_⟩
      · unfold FRu at hF ⊢
        rw [eI 8 (by decide), eI 13 (by decide), eA 14 (by decide) (by decide) (by decide), eA 22 (by decide) (by decide) (by decide), eA 23 (by decide) (by decide) (by decide), eA 24 (by decide) (by decide) (by decide), eA 25 (by decide) (by decide) (by decide), eA 26 (by decide) (by decide) (by decide), eA 27 (by decide) (by decide) (by decide), eA 28 (by decide) (by decide) (by decide)]; exact hF
      · unfold CPu at hC ⊢
        rw [eI 13 (by decide), eA 22 (by decide) (by decide) (by decide), eA 23 (by decide) (by decide) (by decide), eA 24 (by decide) (by decide) (by decide), eA 25 (by decide) (by decide) (by decide), eA 26 (by decide) (by decide) (by decide), eA 27 (by decide) (by decide) (by decide), eA 28 (by decide) (by decide) (by decide)]; exact hC
      · unfold CalC mkJ at hJ ⊢
        rw [eI 18 (by decide), eI 16 (by decide), eA 30 (by decide) (by decide) (by decide), eA 31 (by decide) (by decide) (by decide), eA 32 (by decide) (by decide) (by decide)]; exact hJ
      · rw [e33U, updE]
        by_cases hzx : z = x
        · rw [if_pos hzx, hzx, uF_s]; exact ⟨by decide, rfl⟩
        · rw [if_neg hzx, uF_o hzx]; exact hS z hz
      · rw [eA 37 (by decide) (by decide) (by decide), e36U, updE]
        by_cases hzx : z = x
        · rw [if_pos hzx, hzx, uF_s]; rfl
        · rw [if_neg hzx, uF_o hzx]; rw [uF_o hzx] at h1 h2; exact w1 z hz h1 h2
      · by_cases hzx : z = x
        · rw [hzx, uF_s]; exact List.nodup_nil
        · rw [uF_o hzx]; exact w2 z
      · by_cases hzx : z = x
        · rw [hzx, uF_s] at hr; cases hr
        · rw [uF_o hzx] at hr
          obtain ⟨⟨a1, a2, a3⟩, a4, a5, a6⟩ := w3 z r hr
          have hrx : r ≠ x := fun e => by rw [e] at a5; omega
          rw [uF_o hzx, uF_o hrx]
          refine ⟨⟨a1, a2, a3⟩, a4, a5, fun hm => ?_⟩
          rcases List.mem_append.mp hm with hm | hm
          · exact a6 hm
          · simp at hm; exact hrx hm
      · by_cases hzx : z = x
        · rw [hzx, uF_s] at hr; cases hr
        · by_cases hzx' : z' = x
          · rw [hzx', uF_s] at hr'; cases hr'
          · rw [uF_o hzx] at hr; rw [uF_o hzx'] at hr'; exact w4 z z' r hr hr'
      · by_cases hzx : z = x
        · rw [hzx]; exact List.mem_append_right _ (List.mem_singleton.mpr rfl)
        · rw [uF_o hzx] at h1; exact List.mem_append_left _ ((hcov z hz).1 h1)
      · by_cases hzx : z = x
        · rw [hzx, uF_s] at h2; omega
        · rw [uF_o hzx] at h2
          rcases (hcov z hz).2 h2 with h | ⟨y, hy⟩ | h
          · exact Or.inl (List.mem_append_left _ h)
          · refine Or.inr (Or.inl ⟨y, ?_⟩)
            rw [uF_o (fun e => by rw [e, hWx] at hy; cases hy)]; exact hy
          · exact Or.inr (Or.inr h)
      · obtain ⟨a1, a2, a3, a4⟩ := hcu z hz
        have hzx : z ≠ x := fun e => by rw [e] at a2; omega
        refine ⟨a1, by rw [uF_o hzx]; exact a2, fun hm => ?_, fun y hm => ?_⟩
        · rcases List.mem_append.mp hm with hm | hm
          · exact a3 hm
          · simp at hm; exact hzx hm
        · by_cases hyx : y = x
          · rw [hyx, uF_s] at hm; cases hm
          · rw [uF_o hyx] at hm; exact a4 y hm
  · simp (disch := omega) only [ln_0, ln_1, ln_2, ln_3, ln_4, ln_5, ln_6, ln_7, ln_8, ln_9, ln_10, ln_11, ln_12, ln_13, ln_14, ln_15, ln_16, ln_17, ln_18, ln_19, ln_20, ln_21, ln_22, ln_23, ln_24, ln_25, ln_26, ln_27, ln_28, ln_29, ln_30, ln_31, ln_32, ln_33, ln_34, ln_35, ln_36, ln_37, ln_38, ln_39, ln_40, ln_41, ln_42, ln_43, ln_44, ln_45, ln_46, ln_47, ln_48, ln_49, ln_50, ln_51, ln_52, ln_53, ln_54, ln_55, ln_56, ln_57, ln_58, ln_59, ln_60, ln_61, ln_62, ln_91, ln_93, ln_97, ln_122, ln_120, ln_123, ln_124, ln_255, ln_256, ln_300, ln_720, ln_1500, ln_12000, ln_18000, nI_leI, nI_ltI, nI_eq] at c; omega
theorem fr3 {G : Prg} {M N : Nat} {id : Nat → Cid} {u0 u U : St} (hF : FRu u0 u) (hC : CPu G u) (hJ : CalC G M N id u) (eI : ∀ i, i = 8 ∨ i = 13 ∨ i = 16 ∨ i = 18 → gI U i = gI u i) (eA : ∀ i, (i = 14 ∨ (22 ≤ i ∧ i ≤ 28) ∨ (30 ≤ i ∧ i ≤ 32)) → gA U i = gA u i) : FRu u0 U ∧ CPu G U ∧ CalC G M N id U := by
  refine ⟨?_, ?_, ?_⟩
  · unfold FRu at hF ⊢
    rw [eI 8 (by decide), eI 13 (by decide), eA 14 (by decide), eA 22 (by decide), eA 23 (by decide), eA 24 (by decide), eA 25 (by decide), eA 26 (by decide), eA 27 (by decide), eA 28 (by decide)]; exact hF
  · unfold CPu at hC ⊢
    rw [eI 13 (by decide), eA 22 (by decide), eA 23 (by decide), eA 24 (by decide), eA 25 (by decide), eA 26 (by decide), eA 27 (by decide), eA 28 (by decide)]; exact hC
  · unfold CalC mkJ at hJ ⊢
    rw [eI 18 (by decide), eI 16 (by decide), eA 30 (by decide), eA 31 (by decide), eA 32 (by decide)]; exact hJ
/-- the waiting ones go into the bag -/
theorem o_wake {G : Prg} {N : Nat} {id : Nat → Cid} {st : Nat → Nat} {B : List Nat} (hN : N ≤ 300) {u1 : St} {P : St → Prop} : ∀ (l done : List Nat) (u : St) (x : Int32), BagC G N id st (B ++ done) u → (∀ i, i ≠ 22 → gI u i = gI u1 i) → (∀ i, i ≠ 38 → gA u i = gA u1 i) → Ch (gA u1 37) 0 x l → l.Nodup → (∀ y ∈ l, vld G N id y ∧ st y = 2 ∧ y ∉ B ++ done) → done.length + l.length ≤ 18000 → (∀ U, BagC G N id st (B ++ done ++ l) U → (∀ i, i ≠ 22 → gI U i = gI u1 i) → (∀ i, i ≠ 38 → gA U i = gA u1 i) → P U) → wp_X4_settle_42 P (l.length + 1) u x (nI done.length)
  | [], done, u, x, hB, f1, f2, hc, hn, hl, hlen, k => by
    have hx : x = -1 := hc
    subst hx
    have := k u (by rw [List.append_nil]; exact hB) f1 f2
    exact br_b (fun _ => this) (fun _ => br_p rfl this)
  | y :: l, done, u, x, hB, f1, f2, hc, hn, hl, hlen, k => by
    obtain ⟨hx, hc⟩ := hc
    obtain ⟨n1, n2⟩ := List.nodup_cons.mp hn
    obtain ⟨v1, v2, v3⟩ := hl y List.mem_cons_self
    have hlt := vld_lt v1 hN
    rw [List.length_cons] at hlen
    rw [Nat.zero_add] at hx hc
    subst hx
    refine br_n (by simp (disch := omega) only [ln_0, ln_1, ln_2, ln_3, ln_4, ln_5, ln_6, ln_7, ln_8, ln_9, ln_10, ln_11, ln_12, ln_13, ln_14, ln_15, ln_16, ln_17, ln_18, ln_19, ln_20, ln_21, ln_22, ln_23, ln_24, ln_25, ln_26, ln_27, ln_28, ln_29, ln_30, ln_31, ln_32, ln_33, ln_34, ln_35, ln_36, ln_37, ln_38, ln_39, ln_40, ln_41, ln_42, ln_43, ln_44, ln_45, ln_46, ln_47, ln_48, ln_49, ln_50, ln_51, ln_52, ln_53, ln_54, ln_55, ln_56, ln_57, ln_58, ln_59, ln_60, ln_61, ln_62, ln_91, ln_93, ln_97, ln_122, ln_120, ln_123, ln_124, ln_255, ln_256, ln_300, ln_720, ln_1500, ln_12000, ln_18000, nI_leI, nI_ltI, nI_eq]; omega) (br_n (nI_m1 (by omega)) (o_put hN hB v1 (Or.inr v2) v3 rfl (fun U g1 g2 hBU => ⟨inN hlt (by decide), nm_i (nm_i ?_)⟩)))
    have e37 : gA U 37 = gA u1 37 := by rw [g2 37 (by decide), f2 37 (by decide)]
    rw [ixN (by omega), e37, nI_1]
    have hd : done.length + 1 = (done ++ [y]).length := by rw [List.length_append]; rfl
    rw [hd]
    refine o_wake hN l (done ++ [y]) U _ (by rw [← List.append_assoc]; exact hBU) (fun i hi => by rw [g1 i hi, f1 i hi]) (fun i hi => by rw [g2 i hi, f2 i hi]) hc n2 (fun z hz => ?_) (by rw [← hd]; omega) (fun V hV => k V ?_)
    · obtain ⟨z1, z2, z3⟩ := hl z (List.mem_cons_of_mem _ hz)
      refine ⟨z1, z2, fun hm => ?_⟩
      rw [← List.append_assoc] at hm
      rcases List.mem_append.mp hm with hm | hm
      · exact z3 hm
      · simp at hm; rw [hm] at hz; exact n1 hz
    · have e : B ++ done ++ y :: l = B ++ (done ++ [y]) ++ l := by simp
      rw [e]; exact hV
theorem o_settle {G : Prg} {M N : Nat} {id : Nat → Cid} {st : Nat → Nat} {B : List Nat} {W : Nat → List Nat} {cu : Nat → Prop} {u0 u : St} (h : SIc G M N id st B W cu u0 u) {x : Nat} (hx : cu x) {y v q : Int32} (hy : y = nI x) {P : St → Prop} (k : ∀ U, SIc G M N id (uF st x 3) (B ++ W x) (uF W x []) (fun z => cu z ∧ z ≠ x) u0 U → (∀ i, i ≠ 20 → i ≠ 22 → gI U i = gI u i) → gI U 20 = gI u 20 + 1 → (∀ i, i ≠ 33 → i ≠ 34 → i ≠ 35 → i ≠ 38 → gA U i = gA u i) → gA U 34 = upd (gA u 34) x v → gA U 35 = upd (gA u 35) x q → P U) : wp_X4_settle u y v q P := by
  subst hy
  obtain ⟨hF, hC, hJ, hS, hB, ⟨w1, w2, w3, w4⟩, hcov, hcu⟩ := h
  have hN : N ≤ 300 := by have := hJ.1; omega
  obtain ⟨c1, c2, c3, c4⟩ := hcu x hx
  have hlt := vld_lt c1 hN
  have hin : vp_in (nI x) 18000 := inN hlt (by decide)
  refine ⟨hin, nm_i ⟨hin, nm_i ⟨hin, nm_i (nm_i ⟨hin, nm_i ?_⟩)⟩⟩⟩
  rw [ixN (by omega)]
  generalize hu1 : sI (sA (sA (sA u 33 x 3) 34 x v) 35 x q) 20 (gI (sA (sA (sA u 33 x 3) 34 x v) 35 x q) 20 + 1) = u1
  have hI : ∀ i, i ≠ 20 → gI u1 i = gI u i := fun i hi => by rw [← hu1, gI_sI, if_neg hi]; rfl
  have hI20 : gI u1 20 = gI u 20 + 1 := by rw [← hu1]; rfl
  have hA : ∀ i, i ≠ 33 → i ≠ 34 → i ≠ 35 → gA u1 i = gA u i := fun i a c d => by rw [← hu1, gA_sI, gA_sA, if_neg d, gA_sA, if_neg c, gA_sA, if_neg a]
  have hA33 : gA u1 33 = upd (gA u 33) x 3 := by rw [← hu1]; rfl
  have hA34 : gA u1 34 = upd (gA u 34) x v := by rw [← hu1]; rfl
  have hA35 : gA u1 35 = upd (gA u 35) x q := by rw [← hu1]; rfl
  have hstW : ∀ z, z ∈ W x → z ≠ x := fun z hz e => c4 x (by rw [← e]; rw [e] at hz ⊢; exact hz)
  have hB1 : BagC G N id (uF st x 3) (B ++ []) u1 := by
    obtain ⟨⟨o, b1, b2, b3, b4⟩, b5, b6⟩ := hB
    rw [List.append_nil]
    refine ⟨⟨o, b1, by rw [hI 21 (by decide)]; exact b2, by rw [hI 22 (by decide)]; exact b3, fun i hi => by rw [hA 38 (by decide) (by decide) (by decide)]; exact b4 i hi⟩, b5, fun z hz => ⟨(b6 z hz).1, ?_⟩⟩
    rw [uF_o (fun e => c3 (by rw [← e]; exact hz))]; exact (b6 z hz).2
  have hch : Ch (gA u1 37) 0 (gA u1 36 x) (W x) := by
    rw [hA 37 (by decide) (by decide) (by decide), hA 36 (by decide) (by decide) (by decide)]; exact w1 x c1 (by omega) (by omega)
  have hlen : (W x).length ≤ 18000 := by
    have := nd_sub (W x) (List.range 18000) (w2 x) (fun z hz => List.mem_range.mpr (vld_lt (w3 x z hz).2.1 hN))
    rw [List.length_range] at this; exact this
  refine ⟨(W x).length + 1, o_wake hN (W x) [] u1 _ hB1 (fun _ _ => rfl) (fun _ _ => rfl) hch (w2 x) (fun z hz => ?_) (by simpa using hlen) (fun U hBU g1 g2 => ?_)⟩
  · obtain ⟨_, a1, a2, a3⟩ := w3 x z hz
    rw [List.append_nil]
    exact ⟨a1, by rw [uF_o (hstW z hz)]; exact a2, a3⟩
  · rw [List.append_nil] at hBU
    have eI : ∀ i, i ≠ 20 → i ≠ 22 → gI U i = gI u i := fun i a c => by rw [g1 i c, hI i a]
    have eA : ∀ i, i ≠ 33 → i ≠ 34 → i ≠ 35 → i ≠ 38 → gA U i = gA u i := fun i a c d e => by rw [g2 i e, hA i a c d]
    obtain ⟨f1, f2, f3⟩ := fr3 (U := U) hF hC hJ (fun i hi => eI i (by omega) (by omega)) (fun i hi => eA i (by omega) (by omega) (by omega) (by omega))
    refine k U ⟨f1, f2, f3, fun z hz => ?_, hBU, ⟨fun z hz h1 h2 => ?_, fun z => ?_, fun z r hr => ?_, fun z z' r hr hr' => ?_⟩, fun z hz => ⟨fun h1 => ?_, fun h2 => ?_⟩, fun z hz => ?_⟩ eI (by rw [g1 20 (by decide)]; exact hI20) eA (by rw [g2 34 (by decide)]; exact hA34) (by rw [g2 35 (by decide)]; exact hA35)
    · rw [g2 33 (by decide), hA33, updE]
      by_cases hzx : z = x
      · rw [if_pos hzx, hzx, uF_s]; exact ⟨by decide, rfl⟩
      · rw [if_neg hzx, uF_o hzx]; exact hS z hz
    · by_cases hzx : z = x
      · rw [hzx, uF_s] at h2; omega
      · rw [uF_o hzx] at h1 h2 ⊢
        rw [eA 37 (by decide) (by decide) (by decide) (by decide), eA 36 (by decide) (by decide) (by decide) (by decide)]
        exact w1 z hz h1 h2
    · by_cases hzx : z = x
      · rw [hzx, uF_s]; exact List.nodup_nil
      · rw [uF_o hzx]; exact w2 z
    · by_cases hzx : z = x
      · rw [hzx, uF_s] at hr; cases hr
      · rw [uF_o hzx] at hr
        obtain ⟨⟨a1, a2, a3⟩, a4, a5, a6⟩ := w3 z r hr
        have hrx : r ≠ x := fun e => c4 z (by rw [← e]; exact hr)
        rw [uF_o hzx, uF_o hrx]
        refine ⟨⟨a1, a2, a3⟩, a4, a5, fun hm => ?_⟩
        rcases List.mem_append.mp hm with hm | hm
        · exact a6 hm
        · exact hzx (w4 z x r hr hm)
    · by_cases hzx : z = x
      · rw [hzx, uF_s] at hr; cases hr
      · by_cases hzx' : z' = x
        · rw [hzx', uF_s] at hr'; cases hr'
        · rw [uF_o hzx] at hr; rw [uF_o hzx'] at hr'; exact w4 z z' r hr hr'
    · by_cases hzx : z = x
      · rw [hzx, uF_s] at h1; omega
      · rw [uF_o hzx] at h1; exact List.mem_append_left _ ((hcov z hz).1 h1)
    · by_cases hzx : z = x
      · rw [hzx, uF_s] at h2; omega
      · rw [uF_o hzx] at h2
        rcases (hcov z hz).2 h2 with h | ⟨y, hy⟩ | h
        · exact Or.inl (List.mem_append_left _ h)
        · by_cases hyx : y = x
          · rw [hyx] at hy; exact Or.inl (List.mem_append_right _ hy)
          · exact Or.inr (Or.inl ⟨y, by rw [uF_o hyx]; exact hy⟩)
        · exact Or.inr (Or.inr ⟨h, hzx⟩)
    · obtain ⟨hz, hzx⟩ := hz
      obtain ⟨a1, a2, a3, a4⟩ := hcu z hz
      refine ⟨a1, by rw [uF_o hzx]; exact a2, fun hm => ?_, fun y hm => ?_⟩
      · rcases List.mem_append.mp hm with hm | hm
        · exact a3 hm
        · exact a4 x hm
      · by_cases hyx : y = x
        · rw [hyx, uF_s] at hm; cases hm
        · rw [uF_o hyx] at hm; exact a4 y hm
/-- has -/
theorem o_has {G : Prg} {M N : Nat} {id : Nat → Cid} {st : Nat → Nat} {B : List Nat} {W : Nat → List Nat} {cu : Nat → Prop} {u0 u : St} (h : SIc G M N id st B W cu u0 u) {x y : Nat} (hx : cu x) (hy : vld G N id y) (hy1 : 1 ≤ st y) {i1 i2 : Int32} (e1 : i1 = nI x) (e2 : i2 = nI y) {P : Int32 → St → Prop} (ky : st y = 3 → P 1 u) (kn : st y ≠ 3 → ∀ U, SIc G M N id st B (uF W y (x :: W y)) (fun z => cu z ∧ z ≠ x) u0 U → (∀ i, gI U i = gI u i) → (∀ i, i ≠ 36 → i ≠ 37 → gA U i = gA u i) → P 0 U) : wp_X4_has u i1 i2 P := by
  subst e1 e2
  obtain ⟨e33, hs3, hylt⟩ := o_st h hy
  obtain ⟨hF, hC, hJ, hS, hB, ⟨w1, w2, w3, w4⟩, hcov, hcu⟩ := h
  have hN : N ≤ 300 := by have := hJ.1; omega
  obtain ⟨c1, c2, c3, c4⟩ := hcu x hx
  have hlt := vld_lt c1 hN
  have hin : vp_in (nI x) 18000 := inN hlt (by decide)
  have hin2 : vp_in (nI y) 18000 := inN hylt (by decide)
  refine ⟨hin2, ?_⟩
  rw [ixN (by omega), e33]
  refine br_b (fun c => ⟨bz1, ky ?_⟩) (fun c => ⟨hin2, hin, nm_i ⟨hin2, nm_i ⟨bz0, ?_⟩⟩⟩)
  · simp (disch := omega) only [ln_0, ln_1, ln_2, ln_3, ln_4, ln_5, ln_6, ln_7, ln_8, ln_9, ln_10, ln_11, ln_12, ln_13, ln_14, ln_15, ln_16, ln_17, ln_18, ln_19, ln_20, ln_21, ln_22, ln_23, ln_24, ln_25, ln_26, ln_27, ln_28, ln_29, ln_30, ln_31, ln_32, ln_33, ln_34, ln_35, ln_36, ln_37, ln_38, ln_39, ln_40, ln_41, ln_42, ln_43, ln_44, ln_45, ln_46, ln_47, ln_48, ln_49, ln_50, ln_51, ln_52, ln_53, ln_54, ln_55, ln_56, ln_57, ln_58, ln_59, ln_60, ln_61, ln_62, ln_91, ln_93, ln_97, ln_122, ln_120, ln_123, ln_124, ln_255, ln_256, ln_300, ln_720, ln_1500, ln_12000, ln_18000, nI_leI, nI_ltI, nI_eq] at c; exact c
  · simp (disch := omega) only [ln_0, ln_1, ln_2, ln_3, ln_4, ln_5, ln_6, ln_7, ln_8, ln_9, ln_10, ln_11, ln_12, ln_13, ln_14, ln_15, ln_16, ln_17, ln_18, ln_19, ln_20, ln_21, ln_22, ln_23, ln_24, ln_25, ln_26, ln_27, ln_28, ln_29, ln_30, ln_31, ln_32, ln_33, ln_34, ln_35, ln_36, ln_37, ln_38, ln_39, ln_40, ln_41, ln_42, ln_43, ln_44, ln_45, ln_46, ln_47, ln_48, ln_49, ln_50, ln_51, ln_52, ln_53, ln_54, ln_55, ln_56, ln_57, ln_58, ln_59, ln_60, ln_61, ln_62, ln_91, ln_93, ln_97, ln_122, ln_120, ln_123, ln_124, ln_255, ln_256, ln_300, ln_720, ln_1500, ln_12000, ln_18000, nI_leI, nI_ltI, nI_eq] at c
    rw [ixN (by omega)]
    refine kn c _ ?_ (fun i => rfl) (fun i a c => by rw [gA_sA, if_neg a, gA_sA, if_neg c])
    have eA : ∀ i, i ≠ 36 → i ≠ 37 → gA (sA (sA u 37 x (gA u 36 y)) 36 y (nI x)) i = gA u i := fun i a c => by rw [gA_sA, if_neg a, gA_sA, if_neg c]
    obtain ⟨f1, f2, f3⟩ := fr3 (U := sA (sA u 37 x (gA u 36 y)) 36 y (nI x)) hF hC hJ (fun i hi => rfl) (fun i hi => eA i (by omega) (by omega))
    refine ⟨f1, f2, f3, fun z hz => ?_, ?_, ⟨fun z hz h1 h2 => ?_, fun z => ?_, fun z r hr => ?_, fun z z' r hr hr' => ?_⟩, fun z hz => ⟨(hcov z hz).1, fun h2 => ?_⟩, fun z hz => ?_⟩
    · rw [eA 33 (by decide) (by decide)]; exact hS z hz
    · obtain ⟨⟨o, b1, b2, b3, b4⟩, b5, b6⟩ := hB
      exact ⟨⟨o, b1, b2, b3, fun i hi => by rw [eA 38 (by decide) (by decide)]; exact b4 i hi⟩, b5, b6⟩
    · show Ch (upd (gA u 37) x (gA u 36 y)) 0 (upd (gA u 36) y (nI x) z) _
      rw [updE]
      have hold : ∀ (z : Nat), Ch (gA u 37) 0 (gA u 36 z) (W z) → Ch (upd (gA u 37) x (gA u 36 y)) 0 (gA u 36 z) (W z) := fun z hz => Ch_cg2 _ _ (fun e he => by rw [updE, if_neg (fun hh => c4 z (by rw [Nat.zero_add] at hh; rw [← hh]; exact he))]) hz
      by_cases hzy : z = y
      · rw [if_pos hzy, hzy, uF_s]
        refine ⟨by rw [Nat.zero_add], ?_⟩
        rw [Nat.zero_add, updE, if_pos rfl]
        exact hold y (w1 y hy hy1 (by omega))
      · rw [if_neg hzy, uF_o hzy]; exact hold z (w1 z hz h1 h2)
    · by_cases hzy : z = y
      · rw [hzy, uF_s]; exact List.nodup_cons.mpr ⟨c4 y, w2 y⟩
      · rw [uF_o hzy]; exact w2 z
    · by_cases hzy : z = y
      · rw [hzy, uF_s] at hr
        rw [hzy]
        rcases List.mem_cons.mp hr with rfl | hr
        · exact ⟨⟨hy, hy1, by omega⟩, c1, c2, c3⟩
        · exact w3 y r hr
      · rw [uF_o hzy] at hr; exact w3 z r hr
    · have key : ∀ z, r ∈ uF W y (x :: W y) z → (r = x ∧ z = y) ∨ (r ≠ x ∧ r ∈ W z) := fun z hr => by
        by_cases hzy : z = y
        · rw [hzy, uF_s] at hr
          rcases List.mem_cons.mp hr with rfl | hr
          · exact Or.inl ⟨rfl, hzy⟩
          · exact Or.inr ⟨fun e => c4 y (by rw [← e]; exact hr), by rw [hzy]; exact hr⟩
        · rw [uF_o hzy] at hr
          exact Or.inr ⟨fun e => c4 z (by rw [← e]; exact hr), hr⟩
      rcases key z hr with ⟨a1, a2⟩ | ⟨a1, a2⟩ <;> rcases key z' hr' with ⟨b1, b2⟩ | ⟨b1, b2⟩
      · rw [a2, b2]
      · exact absurd a1 b1
      · exact absurd b1 a1
      · exact w4 z z' r a2 b2
    · rcases (hcov z hz).2 h2 with h | ⟨r, hr⟩ | h
      · exact Or.inl h
      · refine Or.inr (Or.inl ⟨r, ?_⟩)
        by_cases hry : r = y
        · rw [hry, uF_s]; rw [hry] at hr; exact List.mem_cons_of_mem _ hr
        · rw [uF_o hry]; exact hr
      · by_cases hzx : z = x
        · exact Or.inr (Or.inl ⟨y, by rw [uF_s, hzx]; exact List.mem_cons_self⟩)
        · exact Or.inr (Or.inr ⟨h, hzx⟩)
    · obtain ⟨hz, hzx⟩ := hz
      obtain ⟨a1, a2, a3, a4⟩ := hcu z hz
      refine ⟨a1, a2, a3, fun r hm => ?_⟩
      by_cases hry : r = y
      · rw [hry, uF_s] at hm
        rcases List.mem_cons.mp hm with h | h
        · exact hzx h
        · exact a4 y h
      · rw [uF_o hry] at hm; exact a4 r hm
