/-! 83.bag: a token taken; a call begun -/
theorem nI_bv (y : Int32) : y = nI y.toBitVec.toNat := by
  apply Int32.toBitVec_inj.mp
  show _ = (Int32.ofNat y.toBitVec.toNat).toBitVec
  rw [Int32.toBitVec_ofNat']
  simp
theorem nd_inj : ∀ {l : List Nat} {i j : Nat}, l.Nodup → i < l.length → j < l.length → l.getD i 0 = l.getD j 0 → i = j
  | [], i, j, _, hi, _, _ => absurd hi (Nat.not_lt_zero _)
  | x :: l, i, j, hn, hi, hj, he => by
    obtain ⟨h1, h2⟩ := List.nodup_cons.mp hn
    rw [List.length_cons] at hi hj
    cases i with
    | zero =>
      cases j with
      | zero => rfl
      | succ j =>
        have he : x = l.getD j 0 := he
        exact absurd (by rw [he]; exact getD_mem (by omega)) h1
    | succ i =>
      cases j with
      | zero =>
        have he : l.getD i 0 = x := he
        exact absurd (by rw [← he]; exact getD_mem (by omega)) h1
      | succ j => rw [nd_inj h2 (show i < l.length by omega) (show j < l.length by omega) he]
theorem mem_getD {l : List Nat} {z : Nat} (h : z ∈ l) : ∃ i, i < l.length ∧ l.getD i 0 = z := by
  obtain ⟨i, hi, he⟩ := List.getElem_of_mem h
  exact ⟨i, hi, by rw [List.getD_eq_getElem?_getD, List.getElem?_eq_getElem hi]; exact he⟩
def remL (B : List Nat) (f : Nat → Nat) : List Nat := (List.range (B.length - 1)).map (fun i => B.getD (f i) 0)
theorem remL_len {B : List Nat} {f : Nat → Nat} : (remL B f).length = B.length - 1 := by unfold remL; simp
theorem remL_get {B : List Nat} {f : Nat → Nat} {i : Nat} (h : i < B.length - 1) : (remL B f).getD i 0 = B.getD (f i) 0 := by
  unfold remL
  rw [List.getD_eq_getElem?_getD, List.getElem?_map, List.getElem?_range h]; rfl
theorem remL_ok {B : List Nat} {f : Nat → Nat} {r : Nat} (hB : B.Nodup) (hr : r < B.length) (h1 : ∀ i, i < B.length - 1 → f i < B.length ∧ f i ≠ r) (h2 : ∀ i j, i < B.length - 1 → j < B.length - 1 → f i = f j → i = j) (h3 : ∀ j, j < B.length → j ≠ r → ∃ i, i < B.length - 1 ∧ f i = j) : (remL B f).Nodup ∧ ∀ z, z ∈ remL B f ↔ z ∈ B ∧ z ≠ B.getD r 0 := by
  constructor
  · unfold remL
    rw [List.nodup_iff_pairwise_ne, List.pairwise_map]
    refine List.Pairwise.imp_of_mem (fun {i j} hi hj hne he => ?_) (List.nodup_iff_pairwise_ne.mp List.nodup_range)
    have hi := List.mem_range.mp hi
    have hj := List.mem_range.mp hj
    exact hne (h2 i j hi hj (nd_inj hB (h1 i hi).1 (h1 j hj).1 he))
  · intro z
    constructor
    · intro hz
      obtain ⟨i, hi, rfl⟩ := List.mem_map.mp hz
      have hi := List.mem_range.mp hi
      refine ⟨getD_mem (h1 i hi).1, fun e => (h1 i hi).2 (nd_inj hB (h1 i hi).1 hr e)⟩
    · rintro ⟨hz, hne⟩
      obtain ⟨j, hj, rfl⟩ := mem_getD hz
      obtain ⟨i, hi, he⟩ := h3 j hj (fun e => hne (by rw [e]))
      exact List.mem_map.mpr ⟨i, List.mem_range.mpr hi, by rw [he]⟩
/-- a slot x is out of the bag, and not yet seen -/
def SIx (G : Prg) (M N : Nat) (id : Nat → Cid) (st : Nat → Nat) (B : List Nat) (W : Nat → List Nat) (x : Nat) (u0 u : St) : Prop :=
  FRu u0 u ∧ CPu G u ∧ CalC G M N id u ∧ (∀ z, vld G N id z → st z ≤ 3 ∧ gA u 33 z = nI (st z)) ∧ BagC G N id st B u ∧ WaiC G N id st B W u ∧
  (∀ z, vld G N id z → z ≠ x → (st z = 1 → z ∈ B) ∧ (st z = 2 → z ∈ B ∨ (∃ y, z ∈ W y))) ∧ (vld G N id x ∧ (st x = 1 ∨ st x = 2) ∧ x ∉ B ∧ ∀ y, x ∉ W y)
theorem o_take {G : Prg} {M N : Nat} {id : Nat → Cid} {st : Nat → Nat} {B : List Nat} {W : Nat → List Nat} {u0 u : St} (h : SIc G M N id st B W (fun _ => False) u0 u) (hne : B ≠ []) {P : Int32 → St → Prop} (k : ∀ x B' U, x ∈ B → (∀ z, z ∈ B' ↔ z ∈ B ∧ z ≠ x) → SIx G M N id st B' W x u0 U → (∀ i, i ≠ 21 → i ≠ 22 → i ≠ 24 → gI U i = gI u i) → (∀ i, i ≠ 38 → gA U i = gA u i) → P (nI x) U) : wp_X0_take u P := by
  obtain ⟨hF, hC, hJ, hS, ⟨⟨o, b1, b2, b3, b4⟩, b5, b6⟩, ⟨w1, w2, w3, w4⟩, hcov, hcu⟩ := h
  have hN : N ≤ 300 := by have := hJ.1; omega
  have hlen : 0 < B.length := List.length_pos_iff.mpr hne
  have hlen2 : B.length ≤ 18000 := by
    have := nd_sub B (List.range 18000) b5 (fun z hz => List.mem_range.mpr (vld_lt (b6 z hz).1 hN))
    rw [List.length_range] at this; exact this
  -- what is left when index r is taken
  have fin : ∀ (r : Nat) (f : Nat → Nat) (o' : Nat) (U : St), r < B.length → (∀ i, i < B.length - 1 → f i < B.length ∧ f i ≠ r) → (∀ i j, i < B.length - 1 → j < B.length - 1 → f i = f j → i = j) → (∀ j, j < B.length → j ≠ r → ∃ i, i < B.length - 1 ∧ f i = j) → o' < 18000 → gI U 21 = nI o' → gI U 22 = nI (B.length - 1) → (∀ i, i ≠ 21 → i ≠ 22 → i ≠ 24 → gI U i = gI u i) → (∀ i, i ≠ 38 → gA U i = gA u i) → (∀ i, i < B.length - 1 → gA U 38 ((o' + i) % 18000) = nI (B.getD (f i) 0)) → P (nI (B.getD r 0)) U := fun r f o' U hr q1 q2 q3 ho e21 e22 eI eA e38 => by
    obtain ⟨n1, n2⟩ := remL_ok b5 hr q1 q2 q3
    have hxB := getD_mem hr
    obtain ⟨f1, f2, f3⟩ := fr3 (U := U) hF hC hJ (fun i hi => eI i (by omega) (by omega) (by omega)) (fun i hi => eA i (by omega))
    refine k (B.getD r 0) (remL B f) U hxB n2 ⟨f1, f2, f3, fun z hz => by rw [eA 33 (by decide)]; exact hS z hz, ⟨⟨o', ho, e21, by rw [e22, remL_len], fun i hi => ?_⟩, n1, fun z hz => b6 z ((n2 z).mp hz).1⟩, ⟨fun z hz h1 h2 => ?_, w2, fun y z hz => ?_, w4⟩, fun z hz hzx => ?_, (b6 _ hxB).1, (b6 _ hxB).2, fun hm => ((n2 _).mp hm).2 rfl, fun y hm => (w3 y _ hm).2.2.2 hxB⟩ eI eA
    · rw [remL_len] at hi; rw [remL_get hi]; exact e38 i hi
    · rw [eA 37 (by decide), eA 36 (by decide)]; exact w1 z hz h1 h2
    · obtain ⟨a1, a2, a3, a4⟩ := w3 y z hz
      exact ⟨a1, a2, a3, fun hm => a4 ((n2 z).mp hm).1⟩
    · refine ⟨fun h1 => (n2 z).mpr ⟨(hcov z hz).1 h1, hzx⟩, fun h2 => ?_⟩
      rcases (hcov z hz).2 h2 with h | h | h
      · exact Or.inl ((n2 z).mpr ⟨h, hzx⟩)
      · exact Or.inr h
      · exact absurd h (fun h => h)
  have e22 : gI u 22 - 1 = nI (B.length - 1) := by rw [b3]; show nI B.length - nI 1 = _; rw [pk_sub (by omega)]
  have ev2 : (gI u 21 + gI u 22) - 1 - ((gI u 21 + gI u 22) - 1) / 18000 * 18000 = nI ((o + (B.length - 1)) % 18000) := by
    have : gI u 21 + gI u 22 - 1 = nI (o + (B.length - 1)) := by
      rw [b2, b3, nI_add]; show nI (o + B.length) - nI 1 = _; rw [pk_sub (by omega)]; congr 1; omega
    rw [this, pk_md (by omega)]
  -- not the oldest
  have f87 : ∀ (r : Nat) (U : St), r < B.length → gI U 21 = nI o → gI U 22 = nI (B.length - 1) → (∀ i, i ≠ 21 → i ≠ 22 → i ≠ 24 → gI U i = gI u i) → (∀ i, gA U i = gA u i) → wp_X0_take_87 U (nI ((o + (B.length - 1)) % 18000)) (nI ((o + r) % 18000)) P := fun r U hr e21 e22' eI eA => by
    have hi1 : vp_in (nI ((o + (B.length - 1)) % 18000)) 18000 := inN (by omega) (by decide)
    have hi2 : vp_in (nI ((o + r) % 18000)) 18000 := inN (by omega) (by decide)
    refine ⟨hi2, nm_i ⟨hi1, hi2, nm_i ?_⟩⟩
    rw [ixN (by omega), ixN (by omega), eA 38, b4 r hr, b4 (B.length - 1) (by omega)]
    refine fin r (fun i => if i = r then B.length - 1 else i) o _ hr (fun i hi => ?_) (fun i j hi hj he => ?_) (fun j hj hjr => ?_) b1 e21 e22' (fun i a c d => eI i a c d) (fun i hi => by rw [gA_sA, if_neg hi]; exact eA i) (fun i hi => ?_)
    · show (if i = r then B.length - 1 else i) < _ ∧ (if i = r then B.length - 1 else i) ≠ r
      split <;> omega
    · have he : (if i = r then B.length - 1 else i) = (if j = r then B.length - 1 else j) := he
      split at he <;> split at he <;> omega
    · by_cases hjl : j = B.length - 1
      · exact ⟨r, by omega, by show (if r = r then _ else _) = _; rw [if_pos rfl, hjl]⟩
      · exact ⟨j, by omega, by show (if j = r then _ else _) = _; rw [if_neg hjr]⟩
    · show upd (gA U 38) ((o + r) % 18000) _ ((o + i) % 18000) = _
      rw [updE, eA 38]
      by_cases hir : i = r
      · rw [if_pos (by rw [hir])]
        show _ = nI (B.getD (if i = r then _ else _) 0)
        rw [if_pos hir]
      · rw [if_neg (by omega)]
        show _ = nI (B.getD (if i = r then _ else _) 0)
        rw [if_neg hir]; exact b4 i (by omega)
  refine nm_i (nm_i (nm_i ?_))
  rw [ev2]
  refine br_b (fun c => nm_i ?_) (fun c => br_b (fun c2 => ?_) (fun c2 => nm_i ?_))
  · have e21 : gI (sI u 22 (gI u 22 - 1)) 21 = nI o := b2
    rw [e21, b2, nI_1, pk_md (by omega)]
    refine ⟨inN b1 (by decide), ?_⟩
    have hg : gA (sI (sI u 22 (gI u 22 - 1)) 21 (nI ((o + 1) % 18000))) 38 (ix (nI o)) = nI (B.getD 0 0) := by
      show gA u 38 (ix (nI o)) = _
      rw [ixN (by omega)]
      have := b4 0 hlen
      rw [Nat.add_zero, Nat.mod_eq_of_lt b1] at this; exact this
    rw [hg]
    refine fin 0 (fun i => i + 1) ((o + 1) % 18000) _ hlen (fun i hi => ⟨by show i + 1 < _; omega, by show i + 1 ≠ 0; omega⟩) (fun i j _ _ he => by have he : i + 1 = j + 1 := he; omega) (fun j hj hj0 => ⟨j - 1, by omega, by show j - 1 + 1 = j; omega⟩) (by omega) rfl e22 (fun i a c d => by rw [gI_sI, if_neg a, gI_sI, if_neg c]) (fun i hi => rfl) (fun i hi => ?_)
    show gA u 38 _ = _
    rw [show ((o + 1) % 18000 + i) % 18000 = (o + (i + 1)) % 18000 by omega]; exact b4 (i + 1) (by omega)
  · exact f87 (B.length - 1) _ (by omega) b2 e22 (fun i a c d => by rw [gI_sI, if_neg c]) (fun i => rfl)
  · have e22' : gI (sI (sI u 22 (gI u 22 - 1)) 24 (gI (sI u 22 (gI u 22 - 1)) 24 * 1103515245 + 12345)) 22 + 1 = nI B.length := by
      show gI u 22 - 1 + 1 = _; rw [e22, nI_1]; congr 1; omega
    rw [e22']
    refine ⟨by simp (disch := omega) only [ln_0, ln_1, ln_2, ln_3, ln_4, ln_5, ln_6, ln_7, ln_8, ln_9, ln_10, ln_11, ln_12, ln_13, ln_14, ln_15, ln_16, ln_17, ln_18, ln_19, ln_20, ln_21, ln_22, ln_23, ln_24, ln_25, ln_26, ln_27, ln_28, ln_29, ln_30, ln_31, ln_32, ln_33, ln_34, ln_35, ln_36, ln_37, ln_38, ln_39, ln_40, ln_41, ln_42, ln_43, ln_44, ln_45, ln_46, ln_47, ln_48, ln_49, ln_50, ln_51, ln_52, ln_53, ln_54, ln_55, ln_56, ln_57, ln_58, ln_59, ln_60, ln_61, ln_62, ln_91, ln_93, ln_97, ln_122, ln_120, ln_123, ln_124, ln_255, ln_256, ln_300, ln_720, ln_1500, ln_12000, ln_18000, nI_leI, nI_ltI, nI_eq]; omega, ?_⟩
    obtain ⟨m, hm, hme⟩ : ∃ m, m < 16777216 ∧ (Int32.toUInt32 (gI (sI (sI u 22 (gI u 22 - 1)) 24 (gI (sI u 22 (gI u 22 - 1)) 24 * 1103515245 + 12345)) 24) >>> (Int32.toUInt32 8 &&& Int32.toUInt32 31)).toInt32 = nI m := by
      generalize gI (sI (sI u 22 (gI u 22 - 1)) 24 (gI (sI u 22 (gI u 22 - 1)) 24 * 1103515245 + 12345)) 24 = y
      refine ⟨y.toBitVec.toNat / 2 ^ 8, ?_, ?_⟩
      · have := y.toBitVec.isLt; omega
      · have hy : y = nI y.toBitVec.toNat := nI_bv y
        rw [hy]
        have := pk_ushrN (n := y.toBitVec.toNat) y.toBitVec.isLt 8 8 (by decide)
        rw [← hy] at this ⊢
        exact this
    rw [hme]
    have hrem : nI m - nI m / nI B.length * nI B.length = nI (m % B.length) := pk_rem (d := B.length) (by omega) (by omega) (by omega)
    have hml := Nat.mod_lt m hlen
    rw [hrem, b2, nI_add, pk_md (by omega)]
    exact f87 (m % B.length) _ (Nat.mod_lt _ hlen) b2 e22 (fun i a c d => by rw [gI_sI, if_neg d, gI_sI, if_neg c]) (fun i => rfl)
