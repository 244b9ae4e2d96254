/-! 46.chars: bytes, blanks, letters, digits, signs -/
def bl (x : Int32) : Int32 := if x = 9 ∨ x = 10 ∨ x = 13 ∨ x = 32 then 1 else 0
def le (x : Int32) : Int32 := if x < 97 ∨ 122 < x then 0 else 1
def di (x : Int32) : Int32 := if x < 48 ∨ 57 < x then 0 else 1
/-- a byte as the reference has it -/
def mb (c : Nat) : Int32 := (nI c).toInt8.toInt32
def isB (c : Nat) : Bool := c == 9 || c == 10 || c == 13 || c == 32
def isL (c : Nat) : Bool := decide (97 ≤ c) && decide (c ≤ 122)
def isD (c : Nat) : Bool := decide (48 ≤ c) && decide (c ≤ 57)
def sgN : List Nat := [40, 41, 44, 59, 91, 93, 61, 60, 62, 43, 45, 42, 47, 37]
def b2i (b : Bool) : Int32 := if b then 1 else 0
theorem ch_bl : ∀ c, c < 256 → bl (nI c) = b2i (isB c) ∧ bl (mb c) = b2i (isB c) := by decide +kernel
theorem ch_le : ∀ c, c < 256 → le (nI c) = b2i (isL c) ∧ le (mb c) = b2i (isL c) := by decide +kernel
theorem ch_di : ∀ c, c < 256 → di (nI c) = b2i (isD c) ∧ di (mb c) = b2i (isD c) := by decide +kernel
theorem ch_sg : ∀ c, c < 256 → ∀ i, i < 14 → (sgA i = mb c ↔ sgN.getD i 0 = c) := by decide +kernel
theorem ch_eq : ∀ c, c < 256 → ∀ k, k ∈ sgN → (mb c = nI k ↔ c = k) := by decide +kernel
theorem ch_lt : ∀ c, c < 256 → c < 128 → mb c = nI c := by decide +kernel
theorem b2i0 {b : Bool} : b2i b = 0 ↔ b = false := by cases b <;> decide
theorem b2iz (b : Bool) : bz (b2i b) := by cases b; exact bz0; exact bz1
theorem wpX5_bl {u : St} {x : Int32} {P : Int32 → St → Prop} (h : P (bl x) u) : wp_X5_isBlank u x P := by
  unfold bl at h
  refine br_b (fun a => ?_) (fun a => br_b (fun b => ?_) (fun b => br_b (fun c => ?_) (fun c => br_b (fun d => ?_) (fun d => ?_))))
  · rw [if_pos (Or.inl a)] at h; exact ⟨bz1, h⟩
  · rw [if_pos (Or.inr (Or.inl b))] at h; exact ⟨bz1, h⟩
  · rw [if_pos (Or.inr (Or.inr (Or.inl c)))] at h; exact ⟨bz1, h⟩
  · rw [if_pos (Or.inr (Or.inr (Or.inr d)))] at h; exact ⟨bz1, h⟩
  · rw [if_neg (by rintro (h | h | h | h) <;> contradiction)] at h; exact ⟨bz0, h⟩
theorem wpX7_bl {u : St} {x : Int32} {P : Int32 → St → Prop} (h : P (bl x) u) : wp_X7_isBlank u x P := wpX5_bl h
theorem wpX5_le {u : St} {x : Int32} {P : Int32 → St → Prop} (h : P (le x) u) : wp_X5_isLetter u x P := by
  unfold le at h
  refine br_b (fun a => ?_) (fun a => br_b (fun b => ?_) (fun b => ?_))
  · rw [if_pos (Or.inl a)] at h; exact ⟨bz0, h⟩
  · rw [if_pos (Or.inr b)] at h; exact ⟨bz0, h⟩
  · rw [if_neg (by rintro (h | h) <;> contradiction)] at h; exact ⟨bz1, h⟩
theorem wpX7_le {u : St} {x : Int32} {P : Int32 → St → Prop} (h : P (le x) u) : wp_X7_isLetter u x P := wpX5_le h
theorem wpX5_di {u : St} {x : Int32} {P : Int32 → St → Prop} (h : P (di x) u) : wp_X5_isDigit u x P := by
  unfold di at h
  refine br_b (fun a => ?_) (fun a => br_b (fun b => ?_) (fun b => ?_))
  · rw [if_pos (Or.inl a)] at h; exact ⟨bz0, h⟩
  · rw [if_pos (Or.inr b)] at h; exact ⟨bz0, h⟩
  · rw [if_neg (by rintro (h | h) <;> contradiction)] at h; exact ⟨bz1, h⟩
theorem wpX7_di {u : St} {x : Int32} {P : Int32 → St → Prop} (h : P (di x) u) : wp_X7_isDigit u x P := wpX5_di h
theorem ix_loop (u : St) (x : Int32) : ∀ (k j : Nat), j + k = 14 → ∃ r : Int32, (∀ P : Int32 → St → Prop, P r u → ∃ n, wp_J1_indexOfChar_4cfef_7 P n u 14 x (nI j)) ∧ (r < 0 ↔ ∀ i, j ≤ i → i < 14 → ¬ sgA i = x) := by
  intro k
  induction k with
  | zero =>
    intro j hj
    have hj : j = 14 := by omega
    subst hj
    exact ⟨-1, fun P hp => ⟨1, br_p (by decide) hp⟩, ⟨fun _ i h1 h2 => by omega, fun _ => by decide⟩⟩
  | succ k ih =>
    intro j hj
    by_cases he : sgA j = x
    · refine ⟨nI j, fun P hp => ⟨1, br_n ?_ ⟨inN (by omega) (by decide), br_p (by rw [ixN (by omega)]; exact he) hp⟩⟩, ⟨fun h => absurd h (nI_pos (by omega)), fun h => absurd he (h j (by omega) (by omega))⟩⟩
      simp (disch := omega) only [ln_0, ln_1, ln_2, ln_3, ln_4, ln_5, ln_6, ln_7, ln_8, ln_9, ln_10, ln_11, ln_12, ln_13, ln_14, ln_15, ln_16, ln_17, ln_18, ln_19, ln_20, ln_21, ln_22, ln_23, ln_24, ln_25, ln_26, ln_27, ln_28, ln_29, ln_30, ln_31, ln_32, ln_33, ln_34, ln_35, ln_36, ln_37, ln_38, ln_39, ln_40, ln_41, ln_42, ln_43, ln_44, ln_45, ln_46, ln_47, ln_48, ln_49, ln_50, ln_51, ln_52, ln_53, ln_54, ln_55, ln_56, ln_57, ln_58, ln_59, ln_60, ln_61, ln_62, ln_91, ln_93, ln_97, ln_122, ln_120, ln_123, ln_124, ln_255, ln_256, ln_300, ln_720, ln_1500, ln_12000, ln_18000, nI_leI, nI_ltI, nI_eq]; omega
    · obtain ⟨r, hr, hn⟩ := ih (j + 1) (by omega)
      refine ⟨r, fun P hp => ?_, ?_⟩
      · obtain ⟨n, hw⟩ := hr P hp
        refine ⟨n + 1, br_n ?_ ⟨inN (by omega) (by decide), br_n (by rw [ixN (by omega)]; exact he) (nm_i ?_)⟩⟩
        · simp (disch := omega) only [ln_0, ln_1, ln_2, ln_3, ln_4, ln_5, ln_6, ln_7, ln_8, ln_9, ln_10, ln_11, ln_12, ln_13, ln_14, ln_15, ln_16, ln_17, ln_18, ln_19, ln_20, ln_21, ln_22, ln_23, ln_24, ln_25, ln_26, ln_27, ln_28, ln_29, ln_30, ln_31, ln_32, ln_33, ln_34, ln_35, ln_36, ln_37, ln_38, ln_39, ln_40, ln_41, ln_42, ln_43, ln_44, ln_45, ln_46, ln_47, ln_48, ln_49, ln_50, ln_51, ln_52, ln_53, ln_54, ln_55, ln_56, ln_57, ln_58, ln_59, ln_60, ln_61, ln_62, ln_91, ln_93, ln_97, ln_122, ln_120, ln_123, ln_124, ln_255, ln_256, ln_300, ln_720, ln_1500, ln_12000, ln_18000, nI_leI, nI_ltI, nI_eq]; omega
        · rw [nI_1]; exact hw
      · rw [hn]
        constructor
        · intro h i h1 h2
          by_cases hi : i = j
          · rw [hi]; exact he
          · exact h i (by omega) h2
        · intro h i h1 h2; exact h i (by omega) h2
theorem wp_ix (u : St) {c : Nat} (hc : c < 256) : ∃ r : Int32, (∀ P : Int32 → St → Prop, P r u → wp_J0_indexOf_0f7a4 u ((Int32.toUInt32 (nI c) % 65536).toInt32) P) ∧ (r < 0 ↔ ¬ c ∈ sgN) := by
  obtain ⟨r, hr, hn⟩ := ix_loop u (mb c) 14 0 rfl
  have e1 : (Int32.toUInt32 (nI c) % 65536).toInt32 = nI c := by
    rw [pk_char, pk_tn (by omega)]; congr 1; omega
  refine ⟨r, fun P hp => ?_, ?_⟩
  · rw [e1]
    refine br_n (by decide) (br_p rfl ⟨bz1, br_n (by decide) (br_n (by decide) ⟨bz0, ?_⟩)⟩)
    refine br_n (by have := nI_pos (n := c) (by omega); exact this) (br_n ?_ ⟨bz1, br_n (by decide) (nm_i (nm_i (br_p (by decide) (nm_i (hr P hp)))))⟩)
    simp (disch := omega) only [ln_0, ln_1, ln_2, ln_3, ln_4, ln_5, ln_6, ln_7, ln_8, ln_9, ln_10, ln_11, ln_12, ln_13, ln_14, ln_15, ln_16, ln_17, ln_18, ln_19, ln_20, ln_21, ln_22, ln_23, ln_24, ln_25, ln_26, ln_27, ln_28, ln_29, ln_30, ln_31, ln_32, ln_33, ln_34, ln_35, ln_36, ln_37, ln_38, ln_39, ln_40, ln_41, ln_42, ln_43, ln_44, ln_45, ln_46, ln_47, ln_48, ln_49, ln_50, ln_51, ln_52, ln_53, ln_54, ln_55, ln_56, ln_57, ln_58, ln_59, ln_60, ln_61, ln_62, ln_91, ln_93, ln_97, ln_122, ln_120, ln_123, ln_124, ln_255, ln_256, ln_300, ln_720, ln_1500, ln_12000, ln_18000, nI_leI, nI_ltI, nI_eq]; omega
  · rw [hn]
    have hl : ∀ i, i < 14 → sgN.getD i 0 ∈ sgN := by decide
    constructor
    · intro h hm
      obtain ⟨i, hi, e⟩ := List.getElem_of_mem hm
      have hi : i < 14 := hi
      exact h i (by omega) hi ((ch_sg c hc i hi).mpr (by rw [List.getD_eq_getElem?_getD, List.getElem?_eq_getElem hi]; exact e))
    · intro h i _ hi he
      have := (ch_sg c hc i hi).mp he
      exact h (this ▸ hl i hi)
/-- the tape on both sides -/
def TpC (u : St) (t : Nat → Nat) (n : Nat) : Prop := n ≤ 1500 ∧ gI u 8 = nI n ∧ ∀ i, i < n → t i < 256 ∧ gA u 14 i = nI (t i)
def TpM (v : St) (t : Nat → Nat) (n : Nat) : Prop := n ≤ 1500 ∧ gI v 1 = nI n ∧ ∀ i, i < n → t i < 256 ∧ gA v 1 i = mb (t i)
theorem tape_of {u v : St} (h : TapeR u v) : ∃ (t : Nat → Nat) (n : Nat), TpC u t n ∧ TpM v t n := by
  obtain ⟨n, hn, e1, e2, e3⟩ := h
  have h0 : ∀ i : Nat, ∃ c : Nat, i < n → c < 256 ∧ gA u 14 i = nI c ∧ gA v 1 i = (nI c).toInt8.toInt32 := fun i => by
    by_cases hi : i < n
    · obtain ⟨c, hc⟩ := e3 i hi; exact ⟨c, fun _ => hc⟩
    · exact ⟨0, fun h => absurd h hi⟩
  obtain ⟨t, ht⟩ := Classical.axiomOfChoice h0
  exact ⟨t, n, ⟨hn, e1, fun i hi => ⟨(ht i hi).1, (ht i hi).2.1⟩⟩, ⟨hn, e2, fun i hi => ⟨(ht i hi).1, (ht i hi).2.2⟩⟩⟩
