/-! 43.pure: reading what was written; numbers; the invariant of class and reference -/
theorem gI_sI (u : St) (k : Nat) (v : Int32) (j : Nat) : gI (sI u k v) j = if j = k then v else gI u j := rfl
theorem gI_sL (u : St) (k : Nat) (v : Int64) (j : Nat) : gI (sL u k v) j = gI u j := rfl
theorem gI_sA (u : St) (k i : Nat) (v : Int32) (j : Nat) : gI (sA u k i v) j = gI u j := rfl
theorem gI_sB (u : St) (k i : Nat) (v : Int64) (j : Nat) : gI (sB u k i v) j = gI u j := rfl
theorem gL_sI (u : St) (k : Nat) (v : Int32) (j : Nat) : gL (sI u k v) j = gL u j := rfl
theorem gL_sL (u : St) (k : Nat) (v : Int64) (j : Nat) : gL (sL u k v) j = if j = k then v else gL u j := rfl
theorem gL_sA (u : St) (k i : Nat) (v : Int32) (j : Nat) : gL (sA u k i v) j = gL u j := rfl
theorem gL_sB (u : St) (k i : Nat) (v : Int64) (j : Nat) : gL (sB u k i v) j = gL u j := rfl
theorem gA_sI (u : St) (k : Nat) (v : Int32) (j : Nat) : gA (sI u k v) j = gA u j := rfl
theorem gA_sL (u : St) (k : Nat) (v : Int64) (j : Nat) : gA (sL u k v) j = gA u j := rfl
theorem gA_sA (u : St) (k i : Nat) (v : Int32) (j : Nat) : gA (sA u k i v) j = if j = k then upd (gA u j) i v else gA u j := rfl
theorem gA_sB (u : St) (k i : Nat) (v : Int64) (j : Nat) : gA (sB u k i v) j = gA u j := rfl
theorem gB_sI (u : St) (k : Nat) (v : Int32) (j : Nat) : gB (sI u k v) j = gB u j := rfl
theorem gB_sL (u : St) (k : Nat) (v : Int64) (j : Nat) : gB (sL u k v) j = gB u j := rfl
theorem gB_sA (u : St) (k i : Nat) (v : Int32) (j : Nat) : gB (sA u k i v) j = gB u j := rfl
theorem gB_sB (u : St) (k i : Nat) (v : Int64) (j : Nat) : gB (sB u k i v) j = if j = k then vp_updL (gB u j) i v else gB u j := rfl
theorem nm_i {α : Type} {e : α} {P : α → Prop} (h : P e) : nm e P := fun x hx => hx ▸ h
theorem br_p {c A B : Prop} (h : c) (a : A) : br c A B := ⟨fun _ => a, fun n => absurd h n⟩
theorem br_n {c A B : Prop} (h : ¬ c) (b : B) : br c A B := ⟨fun y => absurd y h, fun _ => b⟩
theorem br_b {c A B : Prop} (a : c → A) (b : ¬ c → B) : br c A B := ⟨a, b⟩
theorem updE (f : Nat → Int32) (k : Nat) (x : Int32) (j : Nat) : upd f k x j = if j = k then x else f j := by
  by_cases h : j = k
  · subst h; rw [pk_us, if_pos rfl]
  · rw [pk_un h, if_neg h]
theorem updLE (f : Nat → Int64) (k : Nat) (x : Int64) (j : Nat) : vp_updL f k x j = if j = k then x else f j := rfl
theorem ixN {n : Nat} (h : n < 2147483648) : ix (nI n) = n := nI_clamp h
theorem ln_0 : (0 : Int32) = nI 0 := rfl
theorem ln_1 : (1 : Int32) = nI 1 := rfl
theorem ln_2 : (2 : Int32) = nI 2 := rfl
theorem ln_3 : (3 : Int32) = nI 3 := rfl
theorem ln_4 : (4 : Int32) = nI 4 := rfl
theorem ln_5 : (5 : Int32) = nI 5 := rfl
theorem ln_6 : (6 : Int32) = nI 6 := rfl
theorem ln_7 : (7 : Int32) = nI 7 := rfl
theorem ln_8 : (8 : Int32) = nI 8 := rfl
theorem ln_9 : (9 : Int32) = nI 9 := rfl
theorem ln_10 : (10 : Int32) = nI 10 := rfl
theorem ln_11 : (11 : Int32) = nI 11 := rfl
theorem ln_12 : (12 : Int32) = nI 12 := rfl
theorem ln_13 : (13 : Int32) = nI 13 := rfl
theorem ln_14 : (14 : Int32) = nI 14 := rfl
theorem ln_15 : (15 : Int32) = nI 15 := rfl
theorem ln_16 : (16 : Int32) = nI 16 := rfl
theorem ln_17 : (17 : Int32) = nI 17 := rfl
theorem ln_18 : (18 : Int32) = nI 18 := rfl
theorem ln_19 : (19 : Int32) = nI 19 := rfl
theorem ln_20 : (20 : Int32) = nI 20 := rfl
theorem ln_21 : (21 : Int32) = nI 21 := rfl
theorem ln_22 : (22 : Int32) = nI 22 := rfl
theorem ln_23 : (23 : Int32) = nI 23 := rfl
theorem ln_24 : (24 : Int32) = nI 24 := rfl
theorem ln_25 : (25 : Int32) = nI 25 := rfl
theorem ln_26 : (26 : Int32) = nI 26 := rfl
theorem ln_27 : (27 : Int32) = nI 27 := rfl
theorem ln_28 : (28 : Int32) = nI 28 := rfl
theorem ln_29 : (29 : Int32) = nI 29 := rfl
theorem ln_30 : (30 : Int32) = nI 30 := rfl
theorem ln_31 : (31 : Int32) = nI 31 := rfl
theorem ln_32 : (32 : Int32) = nI 32 := rfl
theorem ln_33 : (33 : Int32) = nI 33 := rfl
theorem ln_34 : (34 : Int32) = nI 34 := rfl
theorem ln_35 : (35 : Int32) = nI 35 := rfl
theorem ln_36 : (36 : Int32) = nI 36 := rfl
theorem ln_37 : (37 : Int32) = nI 37 := rfl
theorem ln_38 : (38 : Int32) = nI 38 := rfl
theorem ln_39 : (39 : Int32) = nI 39 := rfl
theorem ln_40 : (40 : Int32) = nI 40 := rfl
theorem ln_41 : (41 : Int32) = nI 41 := rfl
theorem ln_42 : (42 : Int32) = nI 42 := rfl
theorem ln_43 : (43 : Int32) = nI 43 := rfl
theorem ln_44 : (44 : Int32) = nI 44 := rfl
theorem ln_45 : (45 : Int32) = nI 45 := rfl
theorem ln_46 : (46 : Int32) = nI 46 := rfl
theorem ln_47 : (47 : Int32) = nI 47 := rfl
theorem ln_48 : (48 : Int32) = nI 48 := rfl
theorem ln_49 : (49 : Int32) = nI 49 := rfl
theorem ln_50 : (50 : Int32) = nI 50 := rfl
theorem ln_51 : (51 : Int32) = nI 51 := rfl
theorem ln_52 : (52 : Int32) = nI 52 := rfl
theorem ln_53 : (53 : Int32) = nI 53 := rfl
theorem ln_54 : (54 : Int32) = nI 54 := rfl
theorem ln_55 : (55 : Int32) = nI 55 := rfl
theorem ln_56 : (56 : Int32) = nI 56 := rfl
theorem ln_57 : (57 : Int32) = nI 57 := rfl
theorem ln_58 : (58 : Int32) = nI 58 := rfl
theorem ln_59 : (59 : Int32) = nI 59 := rfl
theorem ln_60 : (60 : Int32) = nI 60 := rfl
theorem ln_61 : (61 : Int32) = nI 61 := rfl
theorem ln_62 : (62 : Int32) = nI 62 := rfl
theorem ln_91 : (91 : Int32) = nI 91 := rfl
theorem ln_93 : (93 : Int32) = nI 93 := rfl
theorem ln_97 : (97 : Int32) = nI 97 := rfl
theorem ln_122 : (122 : Int32) = nI 122 := rfl
theorem ln_120 : (120 : Int32) = nI 120 := rfl
theorem ln_123 : (123 : Int32) = nI 123 := rfl
theorem ln_124 : (124 : Int32) = nI 124 := rfl
theorem ln_255 : (255 : Int32) = nI 255 := rfl
theorem ln_256 : (256 : Int32) = nI 256 := rfl
theorem ln_300 : (300 : Int32) = nI 300 := rfl
theorem ln_720 : (720 : Int32) = nI 720 := rfl
theorem ln_1500 : (1500 : Int32) = nI 1500 := rfl
theorem ln_12000 : (12000 : Int32) = nI 12000 := rfl
theorem ln_18000 : (18000 : Int32) = nI 18000 := rfl
theorem i01 : ¬ (1 : Int32) ≤ 0 := by decide
theorem i00 : (0 : Int32) ≤ 0 := by decide
theorem nI_m1 {n : Nat} (h : n < 2147483648) : ¬ nI n = -1 := by
  intro e
  have h1 := nI_toInt (n := n) h
  rw [e] at h1
  have : (-1 : Int32).toInt = -1 := by decide
  omega
theorem inN {n N : Nat} (h : n < N) (hN : N < 2147483648) : vp_in (nI n) N := vp_in_nI h hN
/-- the tape: the class's bytes 0 .. 255, the reference's with a sign -/
def TapeR (u v : St) : Prop := ∃ n : Nat, n ≤ 1500 ∧ gI u 8 = nI n ∧ gI v 1 = nI n ∧ ∀ i : Nat, i < n → ∃ c : Nat, c < 256 ∧ gA u 14 i = nI c ∧ gA v 1 i = (nI c).toInt8.toInt32
/-- what the latest run left -/
def LateR (u v : St) : Prop := gI u 0 = gI v 20 ∧ ∀ k : Nat, k < 4 → gA u 8 k = gA v 33 k
/-- a program: how many definitions; of each arguments, parts, root; of each part kind, number, how many children, children -/
abbrev Prg : Type := Nat × (Nat → Nat) × (Nat → Nat) × (Nat → Nat) × (Nat → Nat → Nat) × (Nat → Nat → Int32) × (Nat → Nat → Nat) × (Nat → Nat → Nat → Nat)
def gn (g : Prg) : Nat := g.1
def gar (g : Prg) : Nat → Nat := g.2.1
def gnp (g : Prg) : Nat → Nat := g.2.2.1
def grt (g : Prg) : Nat → Nat := g.2.2.2.1
def gkd (g : Prg) : Nat → Nat → Nat := g.2.2.2.2.1
def gnu (g : Prg) : Nat → Nat → Int32 := g.2.2.2.2.2.1
def gnk (g : Prg) : Nat → Nat → Nat := g.2.2.2.2.2.2.1
def gkid (g : Prg) : Nat → Nat → Nat → Nat := g.2.2.2.2.2.2.2
/-- each let name is in its let's second expression -/
def ScW (g : Prg) : Prop := ∃ sc : Nat → Nat → List Nat, ∀ d, d < gn g → sc d (grt g d) = [] ∧ ∀ p, p < gnp g d → (∀ k, k < gnk g d p → sc d (gkid g d p k) = if gkd g d p = 6 ∧ k = 1 then p :: sc d p else sc d p) ∧ ∀ q, gkd g d p = 3 → q < gnp g d → gnu g d p = nI (60 * d + q) → q ∈ sc d p
/-- a leaf has no children -/
def LfK (g : Prg) : Prop := ∀ d, d < gn g → ∀ p, p < gnp g d → gkd g d p ≤ 3 → gnk g d p = 0
/-- well formed -/
def WFp (g : Prg) : Prop := (gn g ≤ 12 ∧ ScW g ∧ LfK g) ∧ ∀ d, d < gn g → gar g d ≤ 6 ∧ 1 ≤ gnp g d ∧ gnp g d ≤ 60 ∧ grt g d < gnp g d ∧ ∀ p, p < gnp g d → gnk g d p ≤ 6 ∧ (∀ k, k < gnk g d p → gkid g d p k < gnp g d) ∧
  (gkd g d p = 1 ∨
   (gkd g d p = 2 ∧ ∃ k, k < gar g d ∧ gnu g d p = nI k) ∨
   (gkd g d p = 3 ∧ ∃ q, q < gnp g d ∧ gnu g d p = nI (60 * d + q) ∧ gkd g d q = 6) ∨
   (gkd g d p = 4 ∧ gnk g d p = 1) ∨
   (gkd g d p = 5 ∧ gnk g d p = 3) ∨
   (gkd g d p = 6 ∧ gnk g d p = 2) ∨
   (gkd g d p = 7 ∧ ∃ t, t < gn g ∧ gnu g d p = nI t ∧ gar g t = gnk g d p) ∨
   (gkd g d p = 8 ∧ 1 ≤ gnk g d p ∧ ∃ t, t < gn g ∧ gnu g d p = nI t ∧ gar g t = gnk g d p + 1) ∨
   (gkd g d p = 9 ∧ gnk g d p = 2) ∨
   (gkd g d p ∈ [43, 45, 42, 47, 37, 60, 62, 61] ∧ gnk g d p = 2))
/-- the class's program: definitions, arguments, parts, root, kind, number, children, child -/
def CP (g : Prg) (dn : Int32) (a pt rt kd nu nk kid : Nat → Int32) : Prop := dn = nI (gn g) ∧ ∀ d, d < gn g → a d = nI (gar g d) ∧ pt d = nI (gnp g d) ∧ rt d = nI (60 * d + grt g d) ∧ ∀ p, p < gnp g d → kd (60 * d + p) = nI (gkd g d p) ∧ (gkd g d p = 1 ∨ gkd g d p = 2 ∨ gkd g d p = 3 ∨ gkd g d p = 7 ∨ gkd g d p = 8 → nu (60 * d + p) = gnu g d p) ∧ nk (60 * d + p) = nI (gnk g d p) ∧ ∀ k, k < gnk g d p → kid ((60 * d + p) * 6 + k) = nI (60 * d + gkid g d p k)
/-- a row of arguments: from 'at' on by 'nx', each the part o + (list's), then none -/
def Ch (nx : Nat → Int32) (o : Nat) : Int32 → List Nat → Prop
  | x, [] => x = -1
  | x, p :: l => x = nI (o + p) ∧ Ch nx o (nx (o + p)) l
/-- the reference's program in bank b -/
def MP (g : Prg) (b : Nat) (dn : Int32) (ar pc rt kd sg f1 f2 f3 aw nx tg : Nat → Int32) : Prop := b ≤ 1 ∧ dn = nI (gn g) ∧ ∀ d, d < gn g → ar (12 * b + d) = nI (gar g d) ∧ pc (12 * b + d) = nI (gnp g d) ∧ rt (12 * b + d) = nI (60 * (12 * b + d) + grt g d) ∧ ∀ p, p < gnp g d →
  (gkd g d p = 1 → kd (60 * (12 * b + d) + p) = 1 ∧ sg (60 * (12 * b + d) + p) = gnu g d p) ∧
  (gkd g d p = 2 → kd (60 * (12 * b + d) + p) = 2 ∧ sg (60 * (12 * b + d) + p) = gnu g d p) ∧
  (∀ q, q < gnp g d → gkd g d p = 3 → gnu g d p = nI (60 * d + q) → kd (60 * (12 * b + d) + p) = 3 ∧ f1 (60 * (12 * b + d) + p) = nI (60 * (12 * b + d) + gkid g d q 0)) ∧
  (gkd g d p = 4 → kd (60 * (12 * b + d) + p) = 4 ∧ f1 (60 * (12 * b + d) + p) = nI (60 * (12 * b + d) + gkid g d p 0)) ∧
  (gkd g d p = 5 → kd (60 * (12 * b + d) + p) = 6 ∧ f1 (60 * (12 * b + d) + p) = nI (60 * (12 * b + d) + gkid g d p 0) ∧ f2 (60 * (12 * b + d) + p) = nI (60 * (12 * b + d) + gkid g d p 1) ∧ f3 (60 * (12 * b + d) + p) = nI (60 * (12 * b + d) + gkid g d p 2)) ∧
  (gkd g d p = 6 → kd (60 * (12 * b + d) + p) = 7 ∧ f1 (60 * (12 * b + d) + p) = nI (60 * (12 * b + d) + gkid g d p 0) ∧ f2 (60 * (12 * b + d) + p) = nI (60 * (12 * b + d) + gkid g d p 1)) ∧
  (gkd g d p = 7 → kd (60 * (12 * b + d) + p) = 8 ∧ tg (60 * (12 * b + d) + p) = gnu g d p ∧ Ch nx (60 * (12 * b + d)) (aw (60 * (12 * b + d) + p)) ((List.range (gnk g d p)).map (gkid g d p))) ∧
  (gkd g d p = 8 → kd (60 * (12 * b + d) + p) = 9 ∧ tg (60 * (12 * b + d) + p) = gnu g d p ∧ f1 (60 * (12 * b + d) + p) = nI (60 * (12 * b + d) + gkid g d p 0) ∧ Ch nx (60 * (12 * b + d)) (aw (60 * (12 * b + d) + p)) ((List.range (gnk g d p - 1)).map (fun k => gkid g d p (k + 1)))) ∧
  (gkd g d p = 9 → kd (60 * (12 * b + d) + p) = 10 ∧ f1 (60 * (12 * b + d) + p) = nI (60 * (12 * b + d) + gkid g d p 0) ∧ f2 (60 * (12 * b + d) + p) = nI (60 * (12 * b + d) + gkid g d p 1)) ∧
  (gkd g d p ∈ [43, 45, 42, 47, 37, 60, 62, 61] → kd (60 * (12 * b + d) + p) = 5 ∧ sg (60 * (12 * b + d) + p) = nI (gkd g d p) ∧ f1 (60 * (12 * b + d) + p) = nI (60 * (12 * b + d) + gkid g d p 0) ∧ f2 (60 * (12 * b + d) + p) = nI (60 * (12 * b + d) + gkid g d p 1))
def PR (dn : Int32) (a pt rt kd nu nk kid : Nat → Int32) (bk dm : Int32) (ar pc mr mk sg f1 f2 f3 aw nx tg : Nat → Int32) : Prop := ∃ (g : Prg) (b : Nat), WFp g ∧ bk = nI b ∧ CP g dn a pt rt kd nu nk kid ∧ MP g b dm ar pc mr mk sg f1 f2 f3 aw nx tg
def ProgR (u v : St) : Prop := PR (gI u 13) (gA u 22) (gA u 23) (gA u 24) (gA u 25) (gA u 26) (gA u 27) (gA u 28) (gI v 2) (gI v 3) (gA v 2) (gA v 3) (gA v 4) (gA v 5) (gA v 6) (gA v 7) (gA v 8) (gA v 9) (gA v 10) (gA v 11) (gA v 14)
def Inv (u v : St) : Prop := TapeR u v ∧ LateR u v ∧ ProgR u v
def g0 : Prg := (0, fun _ => 0, fun _ => 0, fun _ => 0, fun _ _ => 0, fun _ _ => 0, fun _ _ => 0, fun _ _ _ => 0)
theorem inv0 : Inv u0C u0M := by
  refine ⟨⟨0, by omega, rfl, rfl, fun i h => by omega⟩, ⟨rfl, fun k _ => rfl⟩, ⟨g0, 0, ⟨⟨by decide, ⟨fun _ _ => [], fun d h => absurd h (Nat.not_lt_zero d)⟩, fun d h => absurd h (Nat.not_lt_zero d)⟩, fun d h => absurd h (Nat.not_lt_zero d)⟩, rfl, ⟨rfl, fun d h => absurd h (Nat.not_lt_zero d)⟩, by decide, rfl, fun d h => absurd h (Nat.not_lt_zero d)⟩⟩
theorem ok_value (u v : St) (h : Inv u v) : ∃ (r : Int32) (U V : St), (∀ Pc : Int32 → St → Prop, Pc r U → wp_X6_value u Pc) ∧ (∀ Pm : Int32 → St → Prop, Pm r V → wp_X7_value v Pm) ∧ Inv U V := by
  refine ⟨gI u 0, u, sI v 0 0, fun P h => h, fun P hp => nm_i ?_, h⟩
  show P (gI v 20) _
  rw [← h.2.1.1]; exact hp
theorem ok_count (u v : St) (h : Inv u v) (a : Int32) : okT Inv (wp_X6_count u a) (wp_X7_count v a) [("java/lang/IndexOutOfBoundsException", 1)] := by
  by_cases h1 : a < 0
  · exact Or.inr ⟨_, 1, 0, u, sI v 0 1, by simp, fun P px hp => br_p h1 hp, fun P hp => br_p h1 (nm_i (br_n i01 hp)), rfl, h⟩
  by_cases h2 : a ≤ 5
  · obtain ⟨ht, hl, g, b, hw, hb, hc, hm⟩ := id h
    obtain ⟨j, hj, rfl⟩ := nI_of2 (M := 5) (n := 5) (by decide) h1 h2
    refine Or.inl ?_
    rcases (show j < 4 ∨ j = 4 ∨ j = 5 by omega) with hj4 | rfl | rfl
    · have e1 : ¬ nI j = 5 := by simp (disch := omega) only [ln_0, ln_1, ln_2, ln_3, ln_4, ln_5, ln_6, ln_7, ln_8, ln_9, ln_10, ln_11, ln_12, ln_13, ln_14, ln_15, ln_16, ln_17, ln_18, ln_19, ln_20, ln_21, ln_22, ln_23, ln_24, ln_25, ln_26, ln_27, ln_28, ln_29, ln_30, ln_31, ln_32, ln_33, ln_34, ln_35, ln_36, ln_37, ln_38, ln_39, ln_40, ln_41, ln_42, ln_43, ln_44, ln_45, ln_46, ln_47, ln_48, ln_49, ln_50, ln_51, ln_52, ln_53, ln_54, ln_55, ln_56, ln_57, ln_58, ln_59, ln_60, ln_61, ln_62, ln_91, ln_93, ln_97, ln_122, ln_120, ln_123, ln_124, ln_255, ln_256, ln_300, ln_720, ln_1500, ln_12000, ln_18000, nI_leI, nI_ltI, nI_eq]; omega
      have e2 : ¬ nI j = 4 := by simp (disch := omega) only [ln_0, ln_1, ln_2, ln_3, ln_4, ln_5, ln_6, ln_7, ln_8, ln_9, ln_10, ln_11, ln_12, ln_13, ln_14, ln_15, ln_16, ln_17, ln_18, ln_19, ln_20, ln_21, ln_22, ln_23, ln_24, ln_25, ln_26, ln_27, ln_28, ln_29, ln_30, ln_31, ln_32, ln_33, ln_34, ln_35, ln_36, ln_37, ln_38, ln_39, ln_40, ln_41, ln_42, ln_43, ln_44, ln_45, ln_46, ln_47, ln_48, ln_49, ln_50, ln_51, ln_52, ln_53, ln_54, ln_55, ln_56, ln_57, ln_58, ln_59, ln_60, ln_61, ln_62, ln_91, ln_93, ln_97, ln_122, ln_120, ln_123, ln_124, ln_255, ln_256, ln_300, ln_720, ln_1500, ln_12000, ln_18000, nI_leI, nI_ltI, nI_eq]; omega
      have e3 : ¬ 4 ≤ nI j := by simp (disch := omega) only [ln_0, ln_1, ln_2, ln_3, ln_4, ln_5, ln_6, ln_7, ln_8, ln_9, ln_10, ln_11, ln_12, ln_13, ln_14, ln_15, ln_16, ln_17, ln_18, ln_19, ln_20, ln_21, ln_22, ln_23, ln_24, ln_25, ln_26, ln_27, ln_28, ln_29, ln_30, ln_31, ln_32, ln_33, ln_34, ln_35, ln_36, ln_37, ln_38, ln_39, ln_40, ln_41, ln_42, ln_43, ln_44, ln_45, ln_46, ln_47, ln_48, ln_49, ln_50, ln_51, ln_52, ln_53, ln_54, ln_55, ln_56, ln_57, ln_58, ln_59, ln_60, ln_61, ln_62, ln_91, ln_93, ln_97, ln_122, ln_120, ln_123, ln_124, ln_255, ln_256, ln_300, ln_720, ln_1500, ln_12000, ln_18000, nI_leI, nI_ltI, nI_eq]; omega
      refine ⟨gA u 8 j, u, sI v 0 0, fun P px hp => br_n h1 (br_p h2 (br_n e1 (br_n e2 ⟨inN hj4 (by omega), by rw [ixN (by omega)]; exact hp⟩))), fun P hp => br_n h1 (br_p h2 (nm_i (br_p i00 (br_n e3 ⟨inN hj4 (by omega), ?_⟩)))), rfl, h⟩
      rw [ixN (by omega)]
      show P (gA v 33 j) _
      rw [← hl.2 j hj4]; exact hp
    · refine ⟨gI u 13, u, sI v 0 0, fun P px hp => br_n h1 (br_p h2 (br_n (by decide) (br_p rfl hp))), fun P hp => br_n h1 (br_p h2 (nm_i (br_p i00 (br_p (by decide) (br_p rfl ?_))))), rfl, h⟩
      show P (gI v 3) _
      rw [hm.2.1, ← hc.1]; exact hp
    · obtain ⟨n, hn, e1, e2, e3⟩ := ht
      refine ⟨gI u 8, u, sI v 0 0, fun P px hp => br_n h1 (br_p h2 (br_p rfl hp)), fun P hp => br_n h1 (br_p h2 (nm_i (br_p i00 (br_p (by decide) (br_n (by decide) ?_))))), rfl, h⟩
      show P (gI v 1) _
      rw [e2, ← e1]; exact hp
  · exact Or.inr ⟨_, 1, 0, u, sI v 0 1, by simp, fun P px hp => br_n h1 (br_n h2 hp), fun P hp => br_n h1 (br_n h2 (nm_i (br_n i01 hp))), rfl, h⟩
theorem ok_definition (u v : St) (h : Inv u v) (a w : Int32) : okT Inv (wp_X6_definition u a w) (wp_X7_definition v a w) [("java/lang/IndexOutOfBoundsException", 1)] := by
  obtain ⟨ht, hl, g, b, hw, hb, hc, hm⟩ := id h
  have hd : gI v 3 = gI u 13 := by rw [hm.2.1, hc.1]
  by_cases h1 : a < 0
  · exact Or.inr ⟨_, 1, 0, u, sI v 0 1, by simp, fun P px hp => br_p h1 hp, fun P hp => br_p h1 (nm_i (br_n i01 hp)), rfl, h⟩
  by_cases h2 : gI u 13 ≤ a
  · exact Or.inr ⟨_, 1, 0, u, sI v 0 1, by simp, fun P px hp => br_n h1 (br_p h2 hp), fun P hp => br_n h1 (br_p (by rw [hd]; exact h2) (nm_i (br_n i01 hp))), rfl, h⟩
  by_cases h3 : w < 0
  · exact Or.inr ⟨_, 1, 0, u, sI v 0 1, by simp, fun P px hp => br_n h1 (br_n h2 (br_p h3 hp)), fun P hp => br_n h1 (br_n (by rw [hd]; exact h2) (br_p h3 (nm_i (br_n i01 hp)))), rfl, h⟩
  by_cases h4 : w ≤ 1
  · have h2' := h2
    rw [hc.1] at h2'
    have hn12 : gn g ≤ 12 := hw.1.1
    obtain ⟨j, hj, rfl, -⟩ := pk_mu h1 h2' (by omega)
    have hd2 := hm.2.2 j hj
    have hcd := hc.2 j hj
    have hb1 : b ≤ 1 := hm.1
    have eix : (12 * gI v 2) + nI j = nI (12 * b + j) := by
      rw [hb]; show nI 12 * nI b + nI j = _
      rw [pk_mul, nI_add]
    refine Or.inl ?_
    by_cases h5 : w = 0
    · refine ⟨gA u 22 j, u, sI v 0 0, fun P px hp => br_n h1 (br_n h2 (br_n h3 (br_p h4 (br_p h5 ⟨inN (by omega) (by omega), by rw [ixN (by omega)]; exact hp⟩)))), fun P hp => br_n h1 (br_n (by rw [hd]; exact h2) (br_n h3 (br_p h4 (nm_i (br_p i00 (br_p h5 ?_)))))), rfl, h⟩
      show vp_in (12 * gI v 2 + nI j) 24 ∧ P (gA v 2 (ix (12 * gI v 2 + nI j))) _
      rw [eix, ixN (by omega), hd2.1, ← hcd.1]
      exact ⟨inN (by omega) (by omega), hp⟩
    · refine ⟨gA u 23 j, u, sI v 0 0, fun P px hp => br_n h1 (br_n h2 (br_n h3 (br_p h4 (br_n h5 ⟨inN (by omega) (by omega), by rw [ixN (by omega)]; exact hp⟩)))), fun P hp => br_n h1 (br_n (by rw [hd]; exact h2) (br_n h3 (br_p h4 (nm_i (br_p i00 (br_n h5 ?_)))))), rfl, h⟩
      show vp_in (12 * gI v 2 + nI j) 24 ∧ P (gA v 3 (ix (12 * gI v 2 + nI j))) _
      rw [eix, ixN (by omega), hd2.2.1, ← hcd.2.1]
      exact ⟨inN (by omega) (by omega), hp⟩
  · exact Or.inr ⟨_, 1, 0, u, sI v 0 1, by simp, fun P px hp => br_n h1 (br_n h2 (br_n h3 (br_n h4 hp))), fun P hp => br_n h1 (br_n (by rw [hd]; exact h2) (br_n h3 (br_n h4 (nm_i (br_n i01 hp))))), rfl, h⟩
