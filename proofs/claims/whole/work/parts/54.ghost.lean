/-! 54.ghost: what has been read, as numbers; how the class keeps it -/
/-- fields of g: 0 arguments, 1 parts, 2 root, 3 definition's name, 4 argument's name (by definition or argument); 5 kind, 6 number, 7 name, 8 place, 9 the list it stands in (by part); L: the children of a part -/
def up (g : Nat → Nat → Nat) (f i x : Nat) : Nat → Nat → Nat := fun f' i' => if f' = f ∧ i' = i then x else g f' i'
def upL (L : Nat → List Nat) (p : Nat) (x : List Nat) : Nat → List Nat := fun q => if q = p then x else L q
theorem up_f {g : Nat → Nat → Nat} {f i x f' i' : Nat} (h : f' ≠ f) : up g f i x f' i' = g f' i' := by unfold up; rw [if_neg (fun e => h e.1)]
theorem up_i {g : Nat → Nat → Nat} {f i x i' : Nat} : up g f i x f i' = if i' = i then x else g f i' := by
  unfold up
  by_cases h : i' = i
  · rw [if_pos ⟨rfl, h⟩, if_pos h]
  · rw [if_neg (fun e => h e.2), if_neg h]
theorem upL_i {L : Nat → List Nat} {p q : Nat} {x : List Nat} : upL L p x q = if q = p then x else L q := rfl
def addP (g : Nat → Nat → Nat) (d kd nu : Nat) : Nat → Nat → Nat := up (up (up (up (up g 1 d (g 1 d + 1)) 5 (60 * d + g 1 d) kd) 6 (60 * d + g 1 d) nu) 7 (60 * d + g 1 d) 0) 9 (60 * d + g 1 d) 0
def dm (g : Nat → Nat → Nat) (m p : Nat) : Prop := p / 60 < m ∧ p % 60 < g 1 (p / 60)
theorem addP_o {g : Nat → Nat → Nat} {d kd nu f i : Nat} (h : f ≠ 1) (h2 : f ≠ 5) (h3 : f ≠ 6) (h4 : f ≠ 7) (h5 : f ≠ 9) : addP g d kd nu f i = g f i := by
  unfold addP; rw [up_f h5, up_f h4, up_f h3, up_f h2, up_f h]
theorem addP_1 {g : Nat → Nat → Nat} {d kd nu i : Nat} : addP g d kd nu 1 i = if i = d then g 1 d + 1 else g 1 i := by
  unfold addP; rw [up_f (by decide), up_f (by decide), up_f (by decide), up_f (by decide), up_i]
theorem addP_5 {g : Nat → Nat → Nat} {d kd nu i : Nat} : addP g d kd nu 5 i = if i = 60 * d + g 1 d then kd else g 5 i := by
  unfold addP; rw [up_f (by decide), up_f (by decide), up_f (by decide), up_i, up_f (by decide)]
theorem addP_6 {g : Nat → Nat → Nat} {d kd nu i : Nat} : addP g d kd nu 6 i = if i = 60 * d + g 1 d then nu else g 6 i := by
  unfold addP; rw [up_f (by decide), up_f (by decide), up_i, up_f (by decide), up_f (by decide)]
theorem addP_7 {g : Nat → Nat → Nat} {d kd nu i : Nat} : addP g d kd nu 7 i = if i = 60 * d + g 1 d then 0 else g 7 i := by
  unfold addP; rw [up_f (by decide), up_i, up_f (by decide), up_f (by decide), up_f (by decide)]
theorem addP_9 {g : Nat → Nat → Nat} {d kd nu i : Nat} : addP g d kd nu 9 i = if i = 60 * d + g 1 d then 0 else g 9 i := by
  unfold addP; rw [up_i, up_f (by decide), up_f (by decide), up_f (by decide), up_f (by decide)]
theorem dm_ne {g : Nat → Nat → Nat} {m d p : Nat} (h : dm g m p) (hn : g 1 d < 60) : p ≠ 60 * d + g 1 d := by
  intro e
  subst e
  unfold dm at h
  rw [show (60 * d + g 1 d) / 60 = d by omega, show (60 * d + g 1 d) % 60 = g 1 d by omega] at h
  omega
theorem dm_add {g : Nat → Nat → Nat} {m d kd nu p : Nat} (hd : d < m) (hn : g 1 d < 60) : dm (addP g d kd nu) m p ↔ dm g m p ∨ p = 60 * d + g 1 d := by
  unfold dm
  rw [addP_1]
  constructor
  · rintro ⟨h1, h2⟩
    by_cases hp : p / 60 = d
    · rw [if_pos hp] at h2
      by_cases h3 : p % 60 = g 1 d
      · right; omega
      · left; rw [hp]; exact ⟨hd, by omega⟩
    · rw [if_neg hp] at h2; exact Or.inl ⟨h1, h2⟩
  · rintro (⟨h1, h2⟩ | h)
    · refine ⟨h1, ?_⟩
      by_cases hp : p / 60 = d
      · rw [if_pos hp]; rw [hp] at h2; omega
      · rw [if_neg hp]; exact h2
    · subst h
      rw [show (60 * d + g 1 d) / 60 = d by omega, show (60 * d + g 1 d) % 60 = g 1 d by omega, if_pos rfl]
      exact ⟨hd, by omega⟩
theorem dm_lt {g : Nat → Nat → Nat} {m p : Nat} (h : dm g m p) (hm : m ≤ 12) : p < 720 := by unfold dm at h; omega
theorem gD_l {l : List Nat} {c j : Nat} (h : j < l.length) : (l ++ [c]).getD j 0 = l.getD j 0 := by
  simp [List.getD, List.getElem?_append_left h]
theorem gD_r {l : List Nat} {c : Nat} : (l ++ [c]).getD l.length 0 = c := by
  simp [List.getD]
/-- the class's tables -/
def CT (g : Nat → Nat → Nat) (L : Nat → List Nat) (m : Nat) (u : St) : Prop :=
  (∀ k, k < m → gA u 15 k = nI (g 0 k) ∧ gA u 16 k = nI (g 1 k) ∧ gB u 9 k = lN (g 3 k)) ∧
  ∀ p, dm g m p → gA u 18 p = nI (g 5 p) ∧ gA u 19 p = nI (g 6 p) ∧ gA u 20 p = nI (L p).length ∧ (∀ j, j < (L p).length → j < 6 → gA u 21 (p * 6 + j) = nI ((L p).getD j 0)) ∧ (g 7 p ≠ 0 → gB u 11 p = lN (g 7 p) ∧ gA u 12 p = nI (g 8 p))
/-- what reading leaves alone -/
def FC (u0 u : St) : Prop := gI u 0 = gI u0 0 ∧ gI u 13 = gI u0 13 ∧ gA u 8 = gA u0 8 ∧ ∀ k, 22 ≤ k → gA u k = gA u0 k
/-- what is open: 0 body, 1 parenthesis, 2 3 4 if, 5 6 let, 7 call, 8 9 make, 10 fetch, 11 comparison, 12 sum, 13 term, 14 negate; with its part -/
def cdE (e : Nat × Nat) : Int32 := if e.1 = 0 then -1 else if e.1 = 1 then -2 else nI e.2
def CS (a : Nat → Int32) : List (Nat × Nat) → Prop
  | [] => True
  | e :: l => a l.length = cdE e ∧ CS a l
def paN : List (Nat × Nat) → Nat
  | [] => 0
  | e :: l => (if e.1 = 1 then 1 else 0) + paN l
theorem CS_upd {a : Nat → Int32} : ∀ {l : List (Nat × Nat)} {j : Nat} {x : Int32}, CS a l → l.length ≤ j → CS (upd a j x) l
  | [], _, _, _, _ => trivial
  | e :: l, j, x, h, hj => ⟨by rw [updE, if_neg (by simp only [List.length_cons] at hj; omega)]; exact h.1, CS_upd h.2 (by simp only [List.length_cons] at hj; omega)⟩
/-- the class, in a definition's reading: definition d, what is open l, the token at i, what is due, the latest -/
def RC (t : Nat → Nat) (n : Nat) (u0 : St) (g : Nat → Nat → Nat) (L : Nat → List Nat) (d : Nat) (l : List (Nat × Nat)) (i du la : Nat) (u : St) : Prop :=
  TpC u t n ∧ TkC u t n i ∧ FC u0 u ∧ CT g L (d + 1) u ∧ (gI u 12 = nI d ∧ gI u 1 = nI d ∧ gI u 6 = -1 ∧ gI u 5 = nI du) ∧ (du = 7 → gI u 4 = nI la) ∧ ((∀ k, k < d → gA u 17 k = nI (g 2 k)) ∧ ∀ k, k < g 0 d → gB u 10 k = lN (g 4 k)) ∧ gI u 2 = nI l.length ∧ gI u 3 = nI (paN l) ∧ CS (gA u 13) l
/-- the class, with a fault at f -/
def FlC (n : Nat) (u0 : St) (f : Nat) (u : St) : Prop := FC u0 u ∧ gI u 6 = nI f ∧ gI u 8 = nI n
theorem c_isFull {t : Nat → Nat} {n : Nat} {u0 u : St} {g : Nat → Nat → Nat} {L : Nat → List Nat} {d : Nat} {l : List (Nat × Nat)} {i du la : Nat} (h : RC t n u0 g L d l i du la u) (hd : d < 12) (hn : g 1 d ≤ 60) {P : Int32 → St → Prop} (k : P (b2i (decide (60 ≤ g 1 d))) u) : wp_X2_isFull u (gI u 1) P := by
  obtain ⟨hT, hK, hF, hC, ⟨h12, h1, h6, h5⟩, hla, hR, h2, h3, hS⟩ := h
  have e := (hC.1 d (by omega)).2.1
  rw [h1]
  refine ⟨inN hd (by decide), ?_⟩
  rw [ixN (by omega), e]
  refine br_b (fun c => ?_) (fun c => ?_)
  · simp (disch := omega) only [ln_0, ln_1, ln_2, ln_3, ln_4, ln_5, ln_6, ln_7, ln_8, ln_9, ln_10, ln_11, ln_12, ln_13, ln_14, ln_15, ln_16, ln_17, ln_18, ln_19, ln_20, ln_21, ln_22, ln_23, ln_24, ln_25, ln_26, ln_27, ln_28, ln_29, ln_30, ln_31, ln_32, ln_33, ln_34, ln_35, ln_36, ln_37, ln_38, ln_39, ln_40, ln_41, ln_42, ln_43, ln_44, ln_45, ln_46, ln_47, ln_48, ln_49, ln_50, ln_51, ln_52, ln_53, ln_54, ln_55, ln_56, ln_57, ln_58, ln_59, ln_60, ln_61, ln_62, ln_91, ln_93, ln_97, ln_122, ln_120, ln_123, ln_124, ln_255, ln_256, ln_300, ln_720, ln_1500, ln_12000, ln_18000, nI_leI, nI_ltI, nI_eq] at c
    rw [decide_eq_false (by omega)] at k; exact ⟨bz0, k⟩
  · simp (disch := omega) only [ln_0, ln_1, ln_2, ln_3, ln_4, ln_5, ln_6, ln_7, ln_8, ln_9, ln_10, ln_11, ln_12, ln_13, ln_14, ln_15, ln_16, ln_17, ln_18, ln_19, ln_20, ln_21, ln_22, ln_23, ln_24, ln_25, ln_26, ln_27, ln_28, ln_29, ln_30, ln_31, ln_32, ln_33, ln_34, ln_35, ln_36, ln_37, ln_38, ln_39, ln_40, ln_41, ln_42, ln_43, ln_44, ln_45, ln_46, ln_47, ln_48, ln_49, ln_50, ln_51, ln_52, ln_53, ln_54, ln_55, ln_56, ln_57, ln_58, ln_59, ln_60, ln_61, ln_62, ln_91, ln_93, ln_97, ln_122, ln_120, ln_123, ln_124, ln_255, ln_256, ln_300, ln_720, ln_1500, ln_12000, ln_18000, nI_leI, nI_ltI, nI_eq] at c
    rw [decide_eq_true (by omega)] at k; exact ⟨bz1, k⟩
theorem c_addPart {t : Nat → Nat} {n : Nat} {u0 u : St} {g : Nat → Nat → Nat} {L : Nat → List Nat} {d : Nat} {l : List (Nat × Nat)} {i du la : Nat} (h : RC t n u0 g L d l i du la u) (hd : d < 12) (hn : g 1 d < 60) {kd nu : Nat} {x1 x2 x3 : Int32} (e1 : x1 = gI u 1) (e2 : x2 = nI kd) (e3 : x3 = nI nu) {P : Int32 → St → Prop} (k : ∀ U, RC t n u0 (addP g d kd nu) (upL L (60 * d + g 1 d) []) d l i du la U → P (nI (60 * d + g 1 d)) U) : wp_X2_addPart u x1 x2 x3 P := by
  obtain ⟨hT, hK, hF, hC, ⟨h12, h1, h6, h5⟩, hla, hR, h2, h3, hS⟩ := h
  have e := (hC.1 d (by omega)).2.1
  rw [h1] at e1
  subst e1
  have ev : nI d * 60 + gA u 16 (ix (nI d)) = nI (60 * d + g 1 d) := by
    rw [ixN (by omega), e]; show nI d * nI 60 + _ = _
    rw [pk_mul, nI_add]; congr 1; omega
  refine ⟨inN hd (by decide), nm_i ?_⟩
  rw [ev]
  have hp : vp_in (nI (60 * d + g 1 d)) 720 := inN (by omega) (by decide)
  refine ⟨inN hd (by decide), inN hd (by decide), nm_i ⟨hp, nm_i ⟨hp, nm_i ⟨hp, nm_i ?_⟩⟩⟩⟩
  refine k _ ⟨hT, hK, ⟨hF.1, hF.2.1, hF.2.2.1, fun j hj => ?_⟩, ⟨fun j hj => ?_, fun p hp => ?_⟩, ⟨h12, h1, h6, h5⟩, hla, ⟨fun j hj => ?_, fun j hj => ?_⟩, h2, h3, hS⟩
  · rw [← hF.2.2.2 j hj]
    simp only [gA_sA, if_neg (show j ≠ 20 by omega), if_neg (show j ≠ 19 by omega), if_neg (show j ≠ 18 by omega), if_neg (show j ≠ 16 by omega)]
  · obtain ⟨q1, q2, q3⟩ := hC.1 j hj
    rw [addP_o (f := 0) (by decide) (by decide) (by decide) (by decide) (by decide), addP_o (f := 3) (by decide) (by decide) (by decide) (by decide) (by decide), addP_1]
    refine ⟨q1, ?_, q3⟩
    show upd (gA u 16) (ix (nI d)) _ j = _
    rw [ixN (by omega), updE, e, nI_1]
    by_cases hjd : j = d
    · rw [if_pos hjd, if_pos hjd]
    · rw [if_neg hjd, if_neg hjd]; exact q2
  · show upd (gA u 18) (ix (nI (60 * d + g 1 d))) _ p = _ ∧ upd (gA u 19) (ix (nI (60 * d + g 1 d))) _ p = _ ∧ upd (gA u 20) (ix (nI (60 * d + g 1 d))) _ p = _ ∧ (∀ j, j < _ → j < 6 → gA u 21 (p * 6 + j) = _) ∧ (_ → gB u 11 p = _ ∧ gA u 12 p = _)
    rw [ixN (by omega), updE, updE, updE, addP_5, addP_6, addP_7, upL_i]
    rw [dm_add (by omega) hn] at hp
    by_cases hpe : p = 60 * d + g 1 d
    · rw [if_pos hpe, if_pos hpe, if_pos hpe, if_pos hpe, if_pos hpe, if_pos hpe, if_pos hpe]
      exact ⟨e2, e3, rfl, fun j hj => absurd hj (Nat.not_lt_zero j), fun h0 => absurd rfl h0⟩
    · rw [if_neg hpe, if_neg hpe, if_neg hpe, if_neg hpe, if_neg hpe, if_neg hpe, if_neg hpe]
      rw [addP_o (by decide) (by decide) (by decide) (by decide) (by decide)]
      rcases hp with hp | hp
      · exact hC.2 p hp
      · exact absurd hp hpe
  · rw [addP_o (by decide) (by decide) (by decide) (by decide) (by decide)]; exact hR.1 j hj
  · rw [addP_o (by decide) (by decide) (by decide) (by decide) (by decide)] at hj ⊢; exact hR.2 j hj
theorem c_attach {t : Nat → Nat} {n : Nat} {u0 u : St} {g : Nat → Nat → Nat} {L : Nat → List Nat} {d : Nat} {l : List (Nat × Nat)} {i du la : Nat} (h : RC t n u0 g L d l i du la u) (hd : d < 12) {p c : Nat} (hp : dm g (d + 1) p) (hlen : (L p).length < 100000) {x1 x2 : Int32} (e1 : x1 = nI p) (e2 : x2 = nI c) {P : St → Prop} (k : ∀ U, RC t n u0 g (upL L p (L p ++ [c])) d l i du la U → P U) : wp_X2_attach u x1 x2 P := by
  obtain ⟨hT, hK, hF, hC, ⟨h12, h1, h6, h5⟩, hla, hR, h2, h3, hS⟩ := h
  subst e1 e2
  have hp720 := dm_lt hp (by omega)
  obtain ⟨q1, q2, q3, q4, q5⟩ := hC.2 p hp
  have hin : vp_in (nI p) 720 := inN hp720 (by decide)
  refine ⟨hin, ?_⟩
  rw [ixN (by omega), q3]
  have fin : ∀ (a21 : Nat → Int32), (∀ q j, dm g (d + 1) q → q ≠ p → j < 6 → a21 (q * 6 + j) = gA u 21 (q * 6 + j)) → (∀ j, j < (L p).length + 1 → j < 6 → a21 (p * 6 + j) = nI ((L p ++ [c]).getD j 0)) → ∀ u2 : St, gA u2 21 = a21 → (∀ j, j ≠ 21 → gA u2 j = gA u j) → (∀ j, gI u2 j = gI u j) → (∀ j, gB u2 j = gB u j) → (∀ j, gL u2 j = gL u j) → wp_X2_attach_28 u2 (nI p) P := by
    intro a21 ha1 ha2 u2 e21 eA eI eB eL
    refine ⟨hin, hin, nm_i ?_⟩
    refine k _ ⟨⟨hT.1, ?_, fun j hj => ?_⟩, ?_, ⟨?_, ?_, ?_, fun j hj => ?_⟩, ⟨fun j hj => ?_, fun q hq => ?_⟩, ⟨?_, ?_, ?_, ?_⟩, fun hd7 => ?_, ⟨fun j hj => ?_, fun j hj => ?_⟩, ?_, ?_, ?_⟩
    · show gI u2 8 = _; rw [eI]; exact hT.2.1
    · show t j < 256 ∧ gA u2 14 j = _; rw [eA 14 (by decide)]; exact hT.2.2 j hj
    · show gI u2 10 = _ ∧ gI u2 7 = _ ∧ gI u2 9 = _ ∧ (_ → gL u2 0 = _) ∧ (_ → gI u2 11 = _)
      rw [eI, eI, eI, eI, eL]; exact hK
    · show gI u2 0 = _; rw [eI]; exact hF.1
    · show gI u2 13 = _; rw [eI]; exact hF.2.1
    · show gA u2 8 = _; rw [eA 8 (by decide)]; exact hF.2.2.1
    · rw [gA_sA, if_neg (by omega), eA j (by omega)]; exact hF.2.2.2 j hj
    · show gA u2 15 j = _ ∧ gA u2 16 j = _ ∧ gB u2 9 j = _
      rw [eA 15 (by decide), eA 16 (by decide), eB]; exact hC.1 j hj
    · show gA u2 18 q = _ ∧ gA u2 19 q = _ ∧ upd (gA u2 20) (ix (nI p)) (gA u2 20 (ix (nI p)) + 1) q = _ ∧ (∀ j, j < _ → j < 6 → gA u2 21 (q * 6 + j) = _) ∧ (_ → gB u2 11 q = _ ∧ gA u2 12 q = _)
      rw [eA 18 (by decide), eA 19 (by decide), eA 20 (by decide), eA 12 (by decide), eB, e21, upL_i, ixN (by omega), updE, q3, nI_1]
      by_cases hqp : q = p
      · subst hqp
        rw [if_pos rfl, if_pos rfl]
        refine ⟨q1, q2, ?_, fun j hj hj6 => ?_, q5⟩
        · rw [List.length_append]; rfl
        · rw [List.length_append] at hj; exact ha2 j hj hj6
      · rw [if_neg hqp, if_neg hqp]
        obtain ⟨r1, r2, r3, r4, r5⟩ := hC.2 q hq
        exact ⟨r1, r2, r3, fun j hj hj6 => by rw [ha1 q j hq hqp hj6]; exact r4 j hj hj6, r5⟩
    · show gI u2 12 = _; rw [eI]; exact h12
    · show gI u2 1 = _; rw [eI]; exact h1
    · show gI u2 6 = _; rw [eI]; exact h6
    · show gI u2 5 = _; rw [eI]; exact h5
    · show gI u2 4 = _; rw [eI]; exact hla hd7
    · show gA u2 17 j = _; rw [eA 17 (by decide)]; exact hR.1 j hj
    · show gB u2 10 j = _; rw [eB]; exact hR.2 j hj
    · show gI u2 2 = _; rw [eI]; exact h2
    · show gI u2 3 = _; rw [eI]; exact h3
    · show CS (gA u2 13) l; rw [eA 13 (by decide)]; exact hS
  refine br_b (fun c6 => ?_) (fun c6 => ?_)
  · simp (disch := omega) only [ln_0, ln_1, ln_2, ln_3, ln_4, ln_5, ln_6, ln_7, ln_8, ln_9, ln_10, ln_11, ln_12, ln_13, ln_14, ln_15, ln_16, ln_17, ln_18, ln_19, ln_20, ln_21, ln_22, ln_23, ln_24, ln_25, ln_26, ln_27, ln_28, ln_29, ln_30, ln_31, ln_32, ln_33, ln_34, ln_35, ln_36, ln_37, ln_38, ln_39, ln_40, ln_41, ln_42, ln_43, ln_44, ln_45, ln_46, ln_47, ln_48, ln_49, ln_50, ln_51, ln_52, ln_53, ln_54, ln_55, ln_56, ln_57, ln_58, ln_59, ln_60, ln_61, ln_62, ln_91, ln_93, ln_97, ln_122, ln_120, ln_123, ln_124, ln_255, ln_256, ln_300, ln_720, ln_1500, ln_12000, ln_18000, nI_leI, nI_ltI, nI_eq] at c6
    refine fin (gA u 21) (fun q j _ _ _ => rfl) (fun j hj hj6 => ?_) u rfl (fun _ _ => rfl) (fun _ => rfl) (fun _ => rfl) (fun _ => rfl)
    rw [q4 j (by omega) hj6, gD_l (by omega)]
  · simp (disch := omega) only [ln_0, ln_1, ln_2, ln_3, ln_4, ln_5, ln_6, ln_7, ln_8, ln_9, ln_10, ln_11, ln_12, ln_13, ln_14, ln_15, ln_16, ln_17, ln_18, ln_19, ln_20, ln_21, ln_22, ln_23, ln_24, ln_25, ln_26, ln_27, ln_28, ln_29, ln_30, ln_31, ln_32, ln_33, ln_34, ln_35, ln_36, ln_37, ln_38, ln_39, ln_40, ln_41, ln_42, ln_43, ln_44, ln_45, ln_46, ln_47, ln_48, ln_49, ln_50, ln_51, ln_52, ln_53, ln_54, ln_55, ln_56, ln_57, ln_58, ln_59, ln_60, ln_61, ln_62, ln_91, ln_93, ln_97, ln_122, ln_120, ln_123, ln_124, ln_255, ln_256, ln_300, ln_720, ln_1500, ln_12000, ln_18000, nI_leI, nI_ltI, nI_eq] at c6
    have ei : nI p * 6 + nI (L p).length = nI (p * 6 + (L p).length) := by
      show nI p * nI 6 + _ = _; rw [pk_mul, nI_add]
    rw [ei]
    refine ⟨hin, inN (by omega) (by decide), nm_i ?_⟩
    rw [ixN (by omega)]
    refine fin (upd (gA u 21) (p * 6 + (L p).length) (nI c)) (fun q j hq hqp hj6 => ?_) (fun j hj hj6 => ?_) _ rfl (fun j hj => ?_) (fun _ => rfl) (fun _ => rfl) (fun _ => rfl)
    · rw [updE, if_neg (by omega)]
    · rw [updE]
      by_cases hje : j = (L p).length
      · subst hje; rw [if_pos rfl, gD_r]
      · rw [if_neg (by omega), q4 j (by omega) hj6, gD_l (by omega)]
    · rw [gA_sA, if_neg hj]
