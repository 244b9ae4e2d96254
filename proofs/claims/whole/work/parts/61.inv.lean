/-! 61.inv: what holds of what has been read -/
def Cp (g : Nat → Nat → Nat) (L : Nat → List Nat) (p : Nat) : Prop :=
  (g 5 p = 1 ∧ (L p).length = 0) ∨ (g 5 p = 2 ∧ (L p).length = 0) ∨ (g 5 p = 3 ∧ (L p).length = 0) ∨ (g 5 p = 4 ∧ (L p).length = 1) ∨ (g 5 p = 5 ∧ (L p).length = 3) ∨ (g 5 p = 6 ∧ (L p).length = 2) ∨ (g 5 p = 7 ∧ g 7 p ≠ 0) ∨ (g 5 p = 8 ∧ 1 ≤ (L p).length ∧ g 7 p ≠ 0) ∨ (g 5 p = 9 ∧ (L p).length = 2) ∨ (g 5 p ∈ [43, 45, 42, 47, 37, 60, 62, 61] ∧ (L p).length = 2)
def BPt (g : Nat → Nat → Nat) (L : Nat → List Nat) (m p : Nat) : Prop :=
  (∀ x ∈ L p, dm g m x ∧ x / 60 = p / 60) ∧ (L p).Nodup ∧ (g 7 p ≠ 0 → NC (g 7 p) ∧ g 8 p ≤ 1500) ∧ (g 5 p = 2 → g 6 p < g 0 (p / 60)) ∧ (g 5 p = 3 → dm g m (g 6 p) ∧ g 6 p / 60 = p / 60 ∧ g 5 (g 6 p) = 6 ∧ L (g 6 p) ≠ [])
def PIv (g : Nat → Nat → Nat) (L : Nat → List Nat) (m : Nat) : Prop := (∀ p, dm g m p → BPt g L m p) ∧ ∀ p q, dm g m p → dm g m q → ∀ x, x ∈ L p → x ∈ L q → p = q
def inS (l : List (Nat × Nat)) (p : Nat) : Prop := ∃ e ∈ l, 2 ≤ e.1 ∧ e.2 = p
def TgO (g : Nat → Nat → Nat) (L : Nat → List Nat) (i : Nat) (e : Nat × Nat) : Prop :=
  (e.1 = 2 ∧ g 5 e.2 = 5 ∧ (L e.2).length = 0) ∨ (e.1 = 3 ∧ g 5 e.2 = 5 ∧ (L e.2).length = 1) ∨ (e.1 = 4 ∧ g 5 e.2 = 5 ∧ (L e.2).length = 2) ∨ (e.1 = 5 ∧ g 5 e.2 = 6 ∧ (L e.2).length = 0 ∧ g 7 e.2 ≠ 0) ∨ (e.1 = 6 ∧ g 5 e.2 = 6 ∧ (L e.2).length = 1 ∧ g 7 e.2 ≠ 0) ∨ (e.1 = 7 ∧ g 5 e.2 = 7 ∧ g 7 e.2 ≠ 0 ∧ (L e.2).length ≤ i) ∨ (e.1 = 8 ∧ g 5 e.2 = 8 ∧ (L e.2).length = 0 ∧ g 7 e.2 = 0) ∨ (e.1 = 9 ∧ g 5 e.2 = 8 ∧ 1 ≤ (L e.2).length ∧ g 7 e.2 ≠ 0 ∧ (L e.2).length ≤ i) ∨ (e.1 = 10 ∧ g 5 e.2 = 9 ∧ (L e.2).length = 1) ∨ (e.1 = 11 ∧ (g 5 e.2 = 60 ∨ g 5 e.2 = 61 ∨ g 5 e.2 = 62) ∧ (L e.2).length = 1) ∨ (e.1 = 12 ∧ (g 5 e.2 = 43 ∨ g 5 e.2 = 45) ∧ (L e.2).length = 1) ∨ (e.1 = 13 ∧ (g 5 e.2 = 42 ∨ g 5 e.2 = 47 ∨ g 5 e.2 = 37) ∧ (L e.2).length = 1) ∨ (e.1 = 14 ∧ g 5 e.2 = 4 ∧ (L e.2).length = 0)
def hdT (l : List (Nat × Nat)) : Nat := (l.headD (0, 0)).1
def StO (g : Nat → Nat → Nat) (L : Nat → List Nat) (d i : Nat) : List (Nat × Nat) → Prop
  | [] => False
  | e :: l => (e.1 = 0 ∧ l = []) ∨ (StO g L d i l ∧ (e.1 = 1 ∨ (2 ≤ e.1 ∧ dm g (d + 1) e.2 ∧ e.2 / 60 = d ∧ free g L (d + 1) e.2 ∧ TgO g L i e ∧ (∀ x ∈ l, 2 ≤ x.1 → x.2 < e.2) ∧ (1 ≤ lvT e.1 → lvT e.1 ≤ 3 → lvT (hdT l) < lvT e.1) ∧ (e.1 ≤ 6 → lvT (hdT l) = 0))))
def lets : List (Nat × Nat) → List Nat
  | [] => []
  | e :: l => if e.1 = 6 then e.2 :: lets l else lets l
/-- an entry's scope: the lets under it -/
def StS (sc : Nat → List Nat) : List (Nat × Nat) → Prop
  | [] => True
  | e :: l => (2 ≤ e.1 → sc e.2 = lets l) ∧ StS sc l
/-- without parent, and not open -/
def Fr1 (g : Nat → Nat → Nat) (L : Nat → List Nat) (d : Nat) (l : List (Nat × Nat)) (p : Nat) : Prop := dm g (d + 1) p ∧ p / 60 = d ∧ free g L (d + 1) p ∧ ¬ inS l p
def OK3 (g : Nat → Nat → Nat) (d k : Nat) : Prop := NC (g 3 k) ∧ (k < d → 1 ≤ g 1 k ∧ dm g d (g 2 k) ∧ g 2 k / 60 = k) ∧ ∀ j, j < k → g 3 j ≠ g 3 k
def ScO (g : Nat → Nat → Nat) (L : Nat → List Nat) (d : Nat) (l : List (Nat × Nat)) : Prop := ∃ sc : Nat → List Nat, (∀ p, dm g (d + 1) p → ∀ k, k < (L p).length → sc ((L p).getD k 0) = if g 5 p = 6 ∧ k = 1 then p :: sc p else sc p) ∧ (∀ p, dm g (d + 1) p → g 5 p = 3 → g 6 p ∈ sc p) ∧ (∀ k, k < d → sc (g 2 k) = []) ∧ StS sc l ∧ ∀ p, Fr1 g L d l p → sc p = lets l
def GIv (n : Nat) (g : Nat → Nat → Nat) (L : Nat → List Nat) (d : Nat) (l : List (Nat × Nat)) (i : Nat) : Prop :=
  d < 12 ∧ i ≤ n ∧ (∀ k, k ≤ d → g 0 k ≤ 6 ∧ g 1 k ≤ 60 ∧ OK3 g d k) ∧ (∀ k, k < g 0 d → NC (g 4 k)) ∧ PIv g L (d + 1) ∧ StO g L d i l ∧ paN l ≤ 20 ∧ l.length ≤ g 1 d + paN l + 1 ∧ (∀ p, dm g (d + 1) p → ¬ inS l p → Cp g L p) ∧ ScO g L d l
def LaO (g : Nat → Nat → Nat) (L : Nat → List Nat) (d : Nat) (l : List (Nat × Nat)) (la : Nat) : Prop := Fr1 g L d l la ∧ ∀ p, Fr1 g L d l p → p = la
def BeO (g : Nat → Nat → Nat) (L : Nat → List Nat) (d : Nat) (l : List (Nat × Nat)) : Prop := ∀ p, ¬ Fr1 g L d l p
def GIb (n : Nat) (g : Nat → Nat → Nat) (L : Nat → List Nat) (d : Nat) (l : List (Nat × Nat)) (i : Nat) : Prop := GIv n g L d l i ∧ BeO g L d l
theorem lets_0 {e : Nat × Nat} {l : List (Nat × Nat)} (h : e.1 ≠ 6) : lets (e :: l) = lets l := by simp only [lets]; rw [if_neg h]
theorem lets_6 {e : Nat × Nat} {l : List (Nat × Nat)} (h : e.1 = 6) : lets (e :: l) = e.2 :: lets l := by simp only [lets]; rw [if_pos h]
theorem lets_mem {q : Nat} : ∀ {l : List (Nat × Nat)}, (6, q) ∈ l → q ∈ lets l
  | [], h => by cases h
  | e :: l, h => by
    rcases List.mem_cons.mp h with h | h
    · subst h; rw [lets_6 rfl]; exact List.mem_cons_self
    · have := lets_mem h
      by_cases h6 : e.1 = 6
      · rw [lets_6 h6]; exact List.mem_cons_of_mem _ this
      · rw [lets_0 h6]; exact this
theorem StS_cg {sc sc' : Nat → List Nat} : ∀ {l : List (Nat × Nat)}, StS sc l → (∀ e ∈ l, 2 ≤ e.1 → sc' e.2 = sc e.2) → StS sc' l
  | [], _, _ => trivial
  | e :: l, h, hc => ⟨fun h2 => by rw [hc e List.mem_cons_self h2]; exact h.1 h2, StS_cg h.2 (fun x hx => hc x (List.mem_cons_of_mem _ hx))⟩
theorem OK3_cg {g g' : Nat → Nat → Nat} {d k : Nat} (h : OK3 g d k) (hk : k ≤ d) (h1 : ∀ j, j < d → g' 1 j = g 1 j) (h2 : ∀ j, g' 2 j = g 2 j) (h3 : ∀ j, g' 3 j = g 3 j) : OK3 g' d k := by
  obtain ⟨a1, a2, a3⟩ := h
  refine ⟨by rw [h3]; exact a1, fun hk => ?_, fun j hj => by rw [h3, h3]; exact a3 j hj⟩
  obtain ⟨b1, b2, b3⟩ := a2 hk
  refine ⟨by rw [h1 k hk]; exact b1, ?_, by rw [h2]; exact b3⟩
  rw [h2]
  unfold dm at b2 ⊢
  rw [h1 _ b2.1]; exact b2
theorem TgO_mono {g : Nat → Nat → Nat} {L : Nat → List Nat} {i i' : Nat} {e : Nat × Nat} (h : TgO g L i e) (hi : i ≤ i') : TgO g L i' e := by
  exact h.imp id (Or.imp id (Or.imp id (Or.imp id (Or.imp id (Or.imp (fun ⟨a, b, c, d⟩ => ⟨a, b, c, by omega⟩) (Or.imp id (Or.imp (fun ⟨a, b, c, d, f⟩ => ⟨a, b, c, d, by omega⟩) id)))))))
theorem TgO_cg {g g' : Nat → Nat → Nat} {L L' : Nat → List Nat} {i : Nat} {e : Nat × Nat} (h : TgO g L i e) (h5 : g' 5 e.2 = g 5 e.2) (h7 : g' 7 e.2 = g 7 e.2) (hL : L' e.2 = L e.2) : TgO g' L' i e := by
  unfold TgO at *; rw [h5, h7, hL]; exact h
theorem StO_mono {g : Nat → Nat → Nat} {L : Nat → List Nat} {d i i' : Nat} (hi : i ≤ i') : ∀ {l : List (Nat × Nat)}, StO g L d i l → StO g L d i' l
  | [], h => h
  | e :: l, h => by
    rcases h with h | ⟨h1, h2⟩
    · exact Or.inl h
    · refine Or.inr ⟨StO_mono hi h1, ?_⟩
      rcases h2 with h2 | ⟨a1, a2, a3, a4, a5, a6⟩
      · exact Or.inl h2
      · exact Or.inr ⟨a1, a2, a3, a4, TgO_mono a5 hi, a6⟩
theorem StO_cg {g g' : Nat → Nat → Nat} {L L' : Nat → List Nat} {d i : Nat} : ∀ {l : List (Nat × Nat)}, StO g L d i l → (∀ p, inS l p → dm g (d + 1) p → free g L (d + 1) p → dm g' (d + 1) p ∧ free g' L' (d + 1) p ∧ g' 5 p = g 5 p ∧ g' 7 p = g 7 p ∧ L' p = L p) → StO g' L' d i l
  | [], h, _ => h
  | e :: l, h, hc => by
    rcases h with h | ⟨h1, h2⟩
    · exact Or.inl h
    · refine Or.inr ⟨StO_cg h1 (fun p ⟨x, hx, hx2⟩ => hc p ⟨x, List.mem_cons_of_mem _ hx, hx2⟩), ?_⟩
      rcases h2 with h2 | ⟨a1, a2, a3, a4, a5, a6⟩
      · exact Or.inl h2
      · obtain ⟨c1, c2, c3, c4, c5⟩ := hc e.2 ⟨e, List.mem_cons_self, a1, rfl⟩ a2 a4
        exact Or.inr ⟨a1, c1, a3, c2, TgO_cg a5 c3 c4 c5, a6⟩
/-- facts of the entries -/
theorem StO_mem {g : Nat → Nat → Nat} {L : Nat → List Nat} {d i : Nat} : ∀ {l : List (Nat × Nat)}, StO g L d i l → ∀ x ∈ l, 2 ≤ x.1 → dm g (d + 1) x.2 ∧ x.2 / 60 = d ∧ free g L (d + 1) x.2 ∧ TgO g L i x
  | [], h, _, _, _ => by cases h
  | e :: l, h, x, hx, h2 => by
    rcases h with ⟨h, hl⟩ | ⟨h1, h3⟩
    · subst hl
      simp at hx; subst hx; omega
    · rcases List.mem_cons.mp hx with rfl | hx
      · rcases h3 with h3 | ⟨a1, a2, a3, a4, a5, a6⟩
        · omega
        · exact ⟨a2, a3, a4, a5⟩
      · exact StO_mem h1 x hx h2
theorem StO_last {g : Nat → Nat → Nat} {L : Nat → List Nat} {d i : Nat} : ∀ {l : List (Nat × Nat)}, StO g L d i l → (l.getLastD (0, 0)).1 = 0 ∧ l ≠ []
  | [], h => by cases h
  | e :: l, h => by
    rcases h with ⟨h, hl⟩ | ⟨h1, h3⟩
    · subst hl; exact ⟨h, by simp⟩
    · obtain ⟨q1, q2⟩ := StO_last h1
      refine ⟨?_, by simp⟩
      cases l with
      | nil => exact absurd rfl q2
      | cons f l => exact q1
theorem StO_dj {g : Nat → Nat → Nat} {L : Nat → List Nat} {d i : Nat} : ∀ {l : List (Nat × Nat)}, StO g L d i l → ∀ l1 e l2, l = l1 ++ e :: l2 → 2 ≤ e.1 → ∀ x ∈ l2, 2 ≤ x.1 → x.2 ≠ e.2
  | [], h, _, _, _, _, _, _, _, _ => by cases h
  | f :: l, h, l1, e, l2, he, h2, x, hx, hx2 => by
    rcases h with ⟨h, hl⟩ | ⟨h1, h3⟩
    · subst hl
      cases l1 with
      | nil => simp at he; rw [he.2] at hx; cases hx
      | cons a l1 => simp at he
    · cases l1 with
      | nil =>
        simp at he
        obtain ⟨rfl, rfl⟩ := he
        rcases h3 with h3 | ⟨a1, a2, a3, a4, a5, a6, a7⟩
        · omega
        · have := a6 x hx hx2; omega
      | cons a l1 =>
        simp at he
        exact StO_dj h1 l1 e l2 he.2 h2 x hx hx2
theorem lsO_len {g : Nat → Nat → Nat} {L : Nat → List Nat} {d i : Nat} : ∀ {l : List (Nat × Nat)}, StO g L d i l → (lsO g L l).length + paN l + 1 ≤ l.length
  | [], h => by cases h
  | e :: l, h => by
    rcases h with ⟨h, hl⟩ | ⟨h1, h3⟩
    · subst hl
      simp only [lsO, paN]; rw [if_neg (by omega), if_neg (by omega)]; simp
    · have := lsO_len h1
      simp only [lsO, paN, List.length_cons]
      by_cases h6 : e.1 = 6
      · rw [if_pos h6, if_neg (by omega), List.length_cons]; omega
      · rw [if_neg h6]; split <;> omega
theorem GI_len {n : Nat} {g : Nat → Nat → Nat} {L : Nat → List Nat} {d : Nat} {l : List (Nat × Nat)} {i : Nat} (h : GIv n g L d l i) : l.length ≤ 81 ∧ (lsO g L l).length ≤ 60 ∧ (g 1 d < 60 → l.length < 81) ∧ (paN l < 20 → l.length < 81) := by
  obtain ⟨h1, h2, h3, h4, h5, h6, h7, h8, h9⟩ := h
  have := (h3 d (Nat.le_refl _)).2.1
  have := lsO_len h6
  omega
theorem TgO_lv {g : Nat → Nat → Nat} {L : Nat → List Nat} {i : Nat} {e : Nat × Nat} (h : TgO g L i e) : lvK (g 5 e.2) = lvT e.1 ∧ g 5 e.2 < 1000 ∧ (L e.2).length ≤ i + 3 ∧ (e.1 = 4 ↔ g 5 e.2 = 5 ∧ (L e.2).length = 2) ∧ (e.1 = 6 ↔ g 5 e.2 = 6 ∧ (L e.2).length = 1) ∧ (e.1 = 6 → g 7 e.2 ≠ 0) := by
  have key : ∀ a c : Nat, (a = 60 ∨ a = 61 ∨ a = 62) → c = 11 → lvK a = lvT c := by rintro a c (rfl | rfl | rfl) rfl <;> rfl
  have key2 : ∀ a c : Nat, (a = 43 ∨ a = 45) → c = 12 → lvK a = lvT c := by rintro a c (rfl | rfl) rfl <;> rfl
  have key3 : ∀ a c : Nat, (a = 42 ∨ a = 47 ∨ a = 37) → c = 13 → lvK a = lvT c := by rintro a c (rfl | rfl | rfl) rfl <;> rfl
  rcases h with ⟨a, b, c⟩ | ⟨a, b, c⟩ | ⟨a, b, c⟩ | ⟨a, b, c, f⟩ | ⟨a, b, c, f⟩ | ⟨a, b, c, f⟩ | ⟨a, b, c, f⟩ | ⟨a, b, c, f, k⟩ | ⟨a, b, c⟩ | ⟨a, b, c⟩ | ⟨a, b, c⟩ | ⟨a, b, c⟩ | ⟨a, b, c⟩
  all_goals refine ⟨?_, by omega, by omega, by omega, by omega, by omega⟩
  · rw [a, b]; rfl
  · rw [a, b]; rfl
  · rw [a, b]; rfl
  · rw [a, b]; rfl
  · rw [a, b]; rfl
  · rw [a, b]; rfl
  · rw [a, b]; rfl
  · rw [a, b]; rfl
  · rw [a, b]; rfl
  · exact key _ _ b a
  · exact key2 _ _ b a
  · exact key3 _ _ b a
  · rw [a, b]; rfl
/-- a part more -/
def Ext (g g' : Nat → Nat → Nat) (L L' : Nat → List Nat) (d : Nat) : Prop := (∀ j, (g' 0 j = g 0 j ∧ g' 2 j = g 2 j) ∧ g' 3 j = g 3 j ∧ g' 4 j = g 4 j ∧ g' 1 j = if j = d then g 1 d + 1 else g 1 j) ∧ ∀ j, j ≠ 60 * d + g 1 d → g' 5 j = g 5 j ∧ (g' 6 j = g 6 j ∧ g' 8 j = g 8 j) ∧ g' 7 j = g 7 j ∧ L' j = L j
theorem dm_ext {g g' : Nat → Nat → Nat} {L L' : Nat → List Nat} {d p : Nat} (h : Ext g g' L L' d) (hn : g 1 d < 60) : dm g' (d + 1) p ↔ dm g (d + 1) p ∨ p = 60 * d + g 1 d := by
  have e := dm_add (g := g) (m := d + 1) (d := d) (kd := 0) (nu := 0) (p := p) (by omega) hn
  rw [← e]
  unfold dm
  rw [(h.1 (p / 60)).2.2.2, addP_1]
theorem GI_ext {n : Nat} {g g' : Nat → Nat → Nat} {L L' : Nat → List Nat} {d : Nat} {l l' : List (Nat × Nat)} {i : Nat} (h : GIv n g L d l i) (hn : g 1 d < 60) (hE : Ext g g' L L' d) (hks : (L' (60 * d + g 1 d) = [] ∧ BeO g L d l) ∨ ∃ la, L' (60 * d + g 1 d) = [la] ∧ LaO g L d l la)
    (h7 : g' 7 (60 * d + g 1 d) ≠ 0 → NC (g' 7 (60 * d + g 1 d)) ∧ g' 8 (60 * d + g 1 d) ≤ 1500) (h2 : g' 5 (60 * d + g 1 d) = 2 → g' 6 (60 * d + g 1 d) < g 0 d) (h3 : g' 5 (60 * d + g 1 d) = 3 → dm g (d + 1) (g' 6 (60 * d + g 1 d)) ∧ g' 6 (60 * d + g 1 d) / 60 = d ∧ g 5 (g' 6 (60 * d + g 1 d)) = 6 ∧ L (g' 6 (60 * d + g 1 d)) ≠ [] ∧ (6, g' 6 (60 * d + g 1 d)) ∈ l)
    (hl' : (l' = l ∧ Cp g' L' (60 * d + g 1 d)) ∨ ∃ tag, l' = (tag, 60 * d + g 1 d) :: l ∧ 2 ≤ tag ∧ TgO g' L' i (tag, 60 * d + g 1 d) ∧ (1 ≤ lvT tag → lvT tag ≤ 3 → lvT (hdT l) < lvT tag) ∧ (tag ≤ 6 → lvT (hdT l) = 0) ∧ tag ≠ 6) :
    GIv n g' L' d l' i ∧ LaO g' L' d l (60 * d + g 1 d) ∧ (l' ≠ l → BeO g' L' d l') := by
  obtain ⟨a1, a2, a3, a4, a5, a6, a7, a8, a9, sc, s1, s2, s3, s4, s5⟩ := h
  have hdm := fun p => dm_ext (p := p) hE hn
  have hnew : dm g' (d + 1) (60 * d + g 1 d) := (hdm _).mpr (Or.inr rfl)
  have hd60 : (60 * d + g 1 d) / 60 = d := by omega
  have hne : ∀ p, dm g (d + 1) p → p ≠ 60 * d + g 1 d := fun p hp => dm_ne hp hn
  have hkn : ∀ x, x ∈ L' (60 * d + g 1 d) → Fr1 g L d l x := fun x hx => by
    rcases hks with ⟨h, _⟩ | ⟨la, h, h2⟩
    · rw [h] at hx; cases hx
    · rw [h] at hx; simp at hx; subst hx; exact h2.1
  have hnoF : ∀ x, Fr1 g L d l x → x ∈ L' (60 * d + g 1 d) := fun x hx => by
    rcases hks with ⟨_, h⟩ | ⟨la, h, h2⟩
    · exact absurd hx (h x)
    · rw [h, h2.2 x hx]; exact List.mem_singleton.mpr rfl
  have hold : ∀ p, dm g (d + 1) p → ∀ x ∈ L' p, x ∈ L p := fun p hp x hx => by rw [(hE.2 p (hne p hp)).2.2.2] at hx; exact hx
  have hPI : PIv g' L' (d + 1) := by
    refine ⟨fun p hp => ?_, fun p q hp hq x hxp hxq => ?_⟩
    · rcases (hdm p).mp hp with hp | hp
      · obtain ⟨e5, ⟨e6, e8⟩, e7, eL⟩ := hE.2 p (hne p hp)
        obtain ⟨b1, b2, b3, b4, b5⟩ := a5.1 p hp
        unfold BPt
        rw [e5, e6, e7, e8, eL]
        refine ⟨fun x hx => ⟨(hdm x).mpr (Or.inl (b1 x hx).1), (b1 x hx).2⟩, b2, b3, fun h => by rw [(hE.1 _).1.1]; exact b4 h, fun h => ?_⟩
        obtain ⟨c1, c2, c3, c4⟩ := b5 h
        obtain ⟨f5, f6, f7, fL⟩ := hE.2 _ (hne _ c1)
        exact ⟨(hdm _).mpr (Or.inl c1), c2, by rw [f5]; exact c3, by rw [fL]; exact c4⟩
      · subst hp
        refine ⟨fun x hx => ⟨(hdm x).mpr (Or.inl (hkn x hx).1), by rw [hd60]; exact (hkn x hx).2.1⟩, ?_, h7, fun h => by rw [hd60, (hE.1 d).1.1]; exact h2 h, fun h => ?_⟩
        · rcases hks with ⟨h, _⟩ | ⟨la, h, _⟩ <;> rw [h] <;> simp
        · obtain ⟨c1, c2, c3, c4, _⟩ := h3 h
          obtain ⟨f5, f6, f7, fL⟩ := hE.2 _ (hne _ c1)
          exact ⟨(hdm _).mpr (Or.inl c1), by rw [hd60]; exact c2, by rw [f5]; exact c3, by rw [fL]; exact c4⟩
    · rcases (hdm p).mp hp with hp | hp <;> rcases (hdm q).mp hq with hq | hq
      · exact a5.2 p q hp hq x (hold p hp x hxp) (hold q hq x hxq)
      · subst hq; exact absurd (hold p hp x hxp) ((hkn x hxq).2.2.1 p hp)
      · subst hp; exact absurd (hold q hq x hxq) ((hkn x hxp).2.2.1 q hq)
      · rw [hp, hq]
  have hfree : ∀ x, free g L (d + 1) x → x ∉ L' (60 * d + g 1 d) → free g' L' (d + 1) x := fun x hx hx2 q hq hm => by
    rcases (hdm q).mp hq with hq | hq
    · exact hx q hq (hold q hq x hm)
    · subst hq; exact hx2 hm
  have hSt : StO g' L' d i l := by
    refine StO_cg a6 (fun p hs hp hf => ?_)
    obtain ⟨e5, ⟨e6, e8⟩, e7, eL⟩ := hE.2 p (hne p hp)
    refine ⟨(hdm p).mpr (Or.inl hp), hfree p hf (fun hm => (hkn p hm).2.2.2 hs), e5, e7, eL⟩
  have hnf : free g' L' (d + 1) (60 * d + g 1 d) := fun q hq hm => by
    rcases (hdm q).mp hq with hq | hq
    · exact hne _ ((a5.1 q hq).1 _ (hold q hq _ hm)).1 rfl
    · subst hq; exact hne _ (hkn _ hm).1 rfl
  have hnl : ¬ inS l (60 * d + g 1 d) := fun ⟨x, hx, hx2, hx3⟩ => hne _ (StO_mem a6 x hx hx2).1 hx3
  have hback : ∀ p, dm g (d + 1) p → free g' L' (d + 1) p → free g L (d + 1) p := fun p hp hf q hq hm => hf q ((hdm q).mpr (Or.inl hq)) (by rw [(hE.2 q (hne q hq)).2.2.2]; exact hm)
  have huniq : ∀ p, Fr1 g' L' d l p → p = 60 * d + g 1 d := fun p ⟨f1, f2, f3, f4⟩ => by
    rcases (hdm p).mp f1 with hp | hp
    · exact absurd (hnoF p ⟨hp, f2, hback p hp f3, f4⟩) (f3 _ hnew)
    · exact hp
  refine ⟨⟨a1, a2, fun k hk => ?_, fun k hk => ?_, hPI, ?_, ?_, ?_, fun p hp hs => ?_, ?_⟩, ⟨⟨hnew, hd60, hnf, hnl⟩, huniq⟩, fun hne' p ⟨f1, f2, f3, f4⟩ => ?_⟩
  · rw [(hE.1 k).1.1, (hE.1 k).2.2.2]
    obtain ⟨q1, q2, q3⟩ := a3 k hk
    refine ⟨q1, ?_, OK3_cg q3 hk (fun j hj => by rw [(hE.1 j).2.2.2, if_neg (by omega)]) (fun j => (hE.1 j).1.2) (fun j => (hE.1 j).2.1)⟩
    split <;> omega
  · rw [(hE.1 d).1.1] at hk; rw [(hE.1 k).2.2.1]; exact a4 k hk
  · rcases hl' with ⟨rfl, _⟩ | ⟨tag, rfl, t2, t3, t4, t5, t6⟩
    · exact hSt
    · refine Or.inr ⟨hSt, Or.inr ⟨t2, hnew, hd60, hnf, t3, fun x hx hx2 => ?_, t4, t5⟩⟩
      obtain ⟨c1, c2, c3, c4⟩ := StO_mem a6 x hx hx2
      unfold dm at c1
      rw [c2] at c1
      show x.2 < 60 * d + g 1 d
      omega
  · rcases hl' with ⟨rfl, _⟩ | ⟨tag, rfl, t2, t3, t4, t5, t6⟩
    · exact a7
    · rw [paN_0 (by show tag ≠ 1; omega)]; exact a7
  · rw [(hE.1 d).2.2.2, if_pos rfl]
    rcases hl' with ⟨rfl, _⟩ | ⟨tag, rfl, t2, t3, t4, t5, t6⟩
    · omega
    · rw [paN_0 (by show tag ≠ 1; omega)]; simp only [List.length_cons]; omega
  · rcases (hdm p).mp hp with hp | hp
    · have hs' : ¬ inS l p := by
        rcases hl' with ⟨rfl, _⟩ | ⟨tag, rfl, t2, t3, t4, t5, t6⟩
        · exact hs
        · exact fun ⟨x, hx, hx2⟩ => hs ⟨x, List.mem_cons_of_mem _ hx, hx2⟩
      have := a9 p hp hs'
      obtain ⟨e5, ⟨e6, e8⟩, e7, eL⟩ := hE.2 p (hne p hp)
      unfold Cp at *; rw [e5, e7, eL]; exact this
    · subst hp
      rcases hl' with ⟨rfl, hc⟩ | ⟨tag, rfl, t2, t3, t4, t5, t6⟩
      · exact hc
      · exact absurd ⟨_, List.mem_cons_self, t2, rfl⟩ hs
  · refine ⟨upL sc (60 * d + g 1 d) (lets l), fun p hp k hk => ?_, fun p hp h => ?_, fun k hk => ?_, ?_, fun p hp => ?_⟩
    · rcases (hdm p).mp hp with hp | hp
      · obtain ⟨e5, ⟨e6, e8⟩, e7, eL⟩ := hE.2 p (hne p hp)
        rw [eL] at hk ⊢
        have hm : (L p).getD k 0 ∈ L p := by rw [List.getD_eq_getElem?_getD, List.getElem?_eq_getElem hk]; exact List.getElem_mem hk
        have hkd := ((a5.1 p hp).1 _ hm).1
        rw [upL_i, if_neg (hne _ hkd), upL_i, if_neg (hne p hp), e5]; exact s1 p hp k hk
      · subst hp
        rcases hks with ⟨h, _⟩ | ⟨la, h, h2⟩
        · rw [h] at hk; cases hk
        · rw [h] at hk ⊢
          have hk0 : k = 0 := by simpa using hk
          subst hk0
          rw [if_neg (show ¬ (g' 5 (60 * d + g 1 d) = 6 ∧ 0 = 1) from fun h => absurd h.2 (by decide)), upL_s]
          show upL sc (60 * d + g 1 d) (lets l) la = lets l
          rw [upL_i, if_neg (hne la h2.1.1)]; exact s5 la h2.1
    · rcases (hdm p).mp hp with hp | hp
      · obtain ⟨e5, ⟨e6, e8⟩, e7, eL⟩ := hE.2 p (hne p hp)
        rw [e5] at h
        rw [e6, upL_i, if_neg (hne p hp)]; exact s2 p hp h
      · subst hp; rw [upL_s]; exact lets_mem (h3 h).2.2.2.2
    · rw [(hE.1 k).1.2]
      have := ((a3 k (by omega)).2.2.2.1 hk).2.2
      rw [upL_i, if_neg (by omega)]; exact s3 k hk
    · have hl : StS (upL sc (60 * d + g 1 d) (lets l)) l := StS_cg s4 (fun e he h2 => by rw [upL_i, if_neg (hne _ (StO_mem a6 e he h2).1)])
      rcases hl' with ⟨rfl, _⟩ | ⟨tag, rfl, t2, t3, t4, t5, t6⟩
      · exact hl
      · exact ⟨fun _ => upL_s, hl⟩
    · rcases hl' with ⟨rfl, _⟩ | ⟨tag, rfl, t2, t3, t4, t5, t6⟩
      · rw [huniq p hp, upL_s]
      · obtain ⟨f1, f2, f3, f4⟩ := hp
        have hl : ¬ inS l p := fun ⟨x, hx, hx2⟩ => f4 ⟨x, List.mem_cons_of_mem _ hx, hx2⟩
        have := huniq p ⟨f1, f2, f3, hl⟩
        exact absurd ⟨_, List.mem_cons_self, t2, this.symm⟩ f4
  · rcases hl' with ⟨rfl, _⟩ | ⟨tag, rfl, t2, t3, t4, t5, t6⟩
    · exact hne' rfl
    · have hl : ¬ inS l p := fun ⟨x, hx, hx2⟩ => f4 ⟨x, List.mem_cons_of_mem _ hx, hx2⟩
      exact f4 ⟨_, List.mem_cons_self, t2, (huniq p ⟨f1, f2, f3, hl⟩).symm⟩
/-- a child more, to the innermost part -/
theorem GI_att {n : Nat} {g g' : Nat → Nat → Nat} {L : Nat → List Nat} {d : Nat} {e : Nat × Nat} {l l' : List (Nat × Nat)} {i la : Nat} (h : GIv n g L d (e :: l) i) (he : 2 ≤ e.1) (hla : LaO g L d (e :: l) la) (hg : (∀ f j, f ≠ 7 → f ≠ 8 → g' f j = g f j) ∧ (∀ j, j ≠ e.2 → g' 7 j = g 7 j ∧ g' 8 j = g 8 j) ∧ (g' 7 e.2 ≠ 0 → NC (g' 7 e.2) ∧ g' 8 e.2 ≤ 1500))
    (hl' : (l' = l ∧ Cp g' (upL L e.2 (L e.2 ++ [la])) e.2) ∨ ∃ tag, l' = (tag, e.2) :: l ∧ 2 ≤ tag ∧ TgO g' (upL L e.2 (L e.2 ++ [la])) i (tag, e.2) ∧ lvT tag = 0 ∧ (tag ≤ 6 → lvT (hdT l) = 0)) :
    GIv n g' (upL L e.2 (L e.2 ++ [la])) d l' i ∧ (l' = l → LaO g' (upL L e.2 (L e.2 ++ [la])) d l e.2) ∧ (l' ≠ l → BeO g' (upL L e.2 (L e.2 ++ [la])) d l') := by
  obtain ⟨a1, a2, a3, a4, a5, a6, a7, a8, a9, sc, c1, c2, c3, c4, c5⟩ := h
  obtain ⟨⟨l1, l2, l3, l4⟩, l5⟩ := hla
  obtain ⟨g1, g2, g3⟩ := hg
  have hSl : StO g L d i l ∧ dm g (d + 1) e.2 ∧ e.2 / 60 = d ∧ free g L (d + 1) e.2 ∧ (∀ x ∈ l, 2 ≤ x.1 → x.2 < e.2) ∧ TgO g L i e := by
    rcases a6 with ⟨h, _⟩ | ⟨h1, h2⟩
    · omega
    · rcases h2 with h2 | ⟨b1, b2, b3, b4, b5, b6, b7⟩
      · omega
      · exact ⟨h1, b2, b3, b4, b6, b5⟩
  obtain ⟨s1, s2, s3, s4, s5, s6⟩ := hSl
  have hdm : ∀ p, dm g' (d + 1) p ↔ dm g (d + 1) p := fun p => by unfold dm; rw [g1 1 _ (by decide) (by decide)]
  have hlae : la ≠ e.2 := fun h => l4 ⟨e, List.mem_cons_self, he, h.symm⟩
  have hmem : ∀ p x, x ∈ upL L e.2 (L e.2 ++ [la]) p → x ∈ L p ∨ (p = e.2 ∧ x = la) := fun p x hx => by
    rw [upL_i] at hx
    by_cases hp : p = e.2
    · rw [if_pos hp] at hx
      rcases List.mem_append.mp hx with h | h
      · left; rw [hp]; exact h
      · right; simp at h; exact ⟨hp, h⟩
    · rw [if_neg hp] at hx; exact Or.inl hx
  have hPI : PIv g' (upL L e.2 (L e.2 ++ [la])) (d + 1) := by
    refine ⟨fun p hp => ?_, fun p q hp hq x hxp hxq => ?_⟩
    · rw [hdm] at hp
      obtain ⟨b1, b2, b3, b4, b5⟩ := a5.1 p hp
      refine ⟨fun x hx => ?_, ?_, fun h7 => ?_, fun h2 => ?_, fun h3 => ?_⟩
      · rw [hdm]
        rcases hmem p x hx with h | ⟨h, h'⟩
        · exact b1 x h
        · subst h'; rw [h, s3]; exact ⟨l1, l2⟩
      · rw [upL_i]
        by_cases hpe : p = e.2
        · rw [if_pos hpe]; subst hpe
          refine List.nodup_append.mpr ⟨b2, by simp, fun a ha b hb hab => ?_⟩
          simp at hb; subst hb; subst hab; exact l3 _ hp ha
        · rw [if_neg hpe]; exact b2
      · by_cases hpe : p = e.2
        · subst hpe; exact g3 h7
        · rw [(g2 p hpe).1] at h7 ⊢; rw [(g2 p hpe).2]; exact b3 h7
      · rw [g1 5 _ (by decide) (by decide)] at h2
        rw [g1 6 _ (by decide) (by decide), g1 0 _ (by decide) (by decide)]; exact b4 h2
      · rw [g1 5 _ (by decide) (by decide)] at h3
        obtain ⟨d1, d2, d3, d4⟩ := b5 h3
        rw [g1 6 _ (by decide) (by decide), hdm, g1 5 _ (by decide) (by decide)]
        refine ⟨d1, d2, d3, ?_⟩
        rw [upL_i]; split
        · simp
        · exact d4
    · rw [hdm] at hp hq
      rcases hmem p x hxp with h1 | ⟨h1, h1'⟩ <;> rcases hmem q x hxq with h2 | ⟨h2, h2'⟩
      · exact a5.2 p q hp hq x h1 h2
      · subst h2'; exact absurd h1 (l3 p hp)
      · subst h1'; exact absurd h2 (l3 q hq)
      · rw [h1, h2]
  have hfree : ∀ x, free g L (d + 1) x → x ≠ la → free g' (upL L e.2 (L e.2 ++ [la])) (d + 1) x := fun x hx hxl q hq hm => by
    rw [hdm] at hq
    rcases hmem q x hm with h | ⟨_, h⟩
    · exact hx q hq h
    · exact hxl h
  have hSt : StO g' (upL L e.2 (L e.2 ++ [la])) d i l := by
    refine StO_cg s1 (fun p hs hp hf => ?_)
    obtain ⟨x, hx, hx2, hx3⟩ := hs
    have hpe : p ≠ e.2 := by have := s5 x hx hx2; omega
    refine ⟨(hdm p).mpr hp, hfree p hf (fun h => l4 ⟨x, List.mem_cons_of_mem _ hx, hx2, by rw [hx3, h]⟩), g1 5 _ (by decide) (by decide), (g2 p hpe).1, by rw [upL_i, if_neg hpe]⟩
  have hef := hfree e.2 s4 (fun h => hlae h.symm)
  have hnl : ¬ inS l e.2 := fun ⟨x, hx, hx2, hx3⟩ => by have := s5 x hx hx2; omega
  have hback : ∀ p, free g' (upL L e.2 (L e.2 ++ [la])) (d + 1) p → free g L (d + 1) p ∧ p ≠ la := fun p hf => by
    refine ⟨fun q hq hm => hf q ((hdm q).mpr hq) ?_, fun h => hf e.2 ((hdm _).mpr s2) ?_⟩
    · rw [upL_i]; split
      · next h => subst h; exact List.mem_append_left _ hm
      · exact hm
    · rw [upL_s, h]; exact List.mem_append_right _ (List.mem_singleton.mpr rfl)
  have huniq : ∀ p, Fr1 g' (upL L e.2 (L e.2 ++ [la])) d l p → p = e.2 := fun p ⟨f1, f2, f3, f4⟩ => by
    obtain ⟨h1, h2⟩ := hback p f3
    by_cases hpe : p = e.2
    · exact hpe
    · refine absurd (l5 p ⟨(hdm p).mp f1, f2, h1, fun ⟨x, hx, hx2, hx3⟩ => ?_⟩) h2
      rcases List.mem_cons.mp hx with rfl | hx
      · exact hpe hx3.symm
      · exact f4 ⟨x, hx, hx2, hx3⟩
  refine ⟨⟨a1, a2, fun k hk => ?_, fun k hk => ?_, hPI, ?_, ?_, ?_, fun p hp hs => ?_, ?_⟩, fun _ => ⟨⟨(hdm _).mpr s2, s3, hef, hnl⟩, huniq⟩, fun hne' p ⟨f1, f2, f3, f4⟩ => ?_⟩
  · rw [g1 0 _ (by decide) (by decide), g1 1 _ (by decide) (by decide)]
    obtain ⟨q1, q2, q3⟩ := a3 k hk
    exact ⟨q1, q2, OK3_cg q3 hk (fun j _ => g1 1 _ (by decide) (by decide)) (fun j => g1 2 _ (by decide) (by decide)) (fun j => g1 3 _ (by decide) (by decide))⟩
  · rw [g1 0 _ (by decide) (by decide)] at hk; rw [g1 4 _ (by decide) (by decide)]; exact a4 k hk
  · rcases hl' with ⟨rfl, _⟩ | ⟨tag, rfl, t2, t3, t4, t5⟩
    · exact hSt
    · exact Or.inr ⟨hSt, Or.inr ⟨t2, (hdm _).mpr s2, s3, hef, t3, s5, fun h _ => by show lvT (hdT l) < lvT tag; have h : 1 ≤ lvT tag := h; omega, t5⟩⟩
  · rw [paN_0 (by omega)] at a7
    rcases hl' with ⟨rfl, _⟩ | ⟨tag, rfl, t2, t3, t4, t5⟩
    · exact a7
    · rw [paN_0 (by show tag ≠ 1; omega)]; exact a7
  · rw [paN_0 (by omega)] at a8
    rw [g1 1 _ (by decide) (by decide)]
    rcases hl' with ⟨rfl, _⟩ | ⟨tag, rfl, t2, t3, t4, t5⟩
    · simp only [List.length_cons] at a8; omega
    · rw [paN_0 (by show tag ≠ 1; omega)]; simp only [List.length_cons] at a8 ⊢; omega
  · rw [hdm] at hp
    by_cases hpe : p = e.2
    · subst hpe
      rcases hl' with ⟨rfl, hc⟩ | ⟨tag, rfl, t2, t3, t4, t5⟩
      · exact hc
      · exact absurd ⟨_, List.mem_cons_self, t2, rfl⟩ hs
    · have hs' : ¬ inS (e :: l) p := by
        rintro ⟨x, hx, hx2, hx3⟩
        rcases List.mem_cons.mp hx with rfl | hx
        · exact hpe hx3.symm
        · rcases hl' with ⟨rfl, _⟩ | ⟨tag, rfl, t2, t3, t4, t5⟩
          · exact hs ⟨x, hx, hx2, hx3⟩
          · exact hs ⟨x, List.mem_cons_of_mem _ hx, hx2, hx3⟩
      have := a9 p hp hs'
      unfold Cp at *
      rw [g1 5 _ (by decide) (by decide), (g2 p hpe).1, upL_i, if_neg hpe]; exact this
  · refine ⟨sc, fun p hp k hk => ?_, fun p hp h => ?_, fun k hk => ?_, ?_, fun p hp => ?_⟩
    · rw [hdm] at hp
      rw [g1 5 _ (by decide) (by decide)]
      rw [upL_i] at hk ⊢
      by_cases hpe : p = e.2
      · rw [if_pos hpe] at hk ⊢
        subst hpe
        rw [List.length_append] at hk
        have hk : k < (L e.2).length + 1 := hk
        by_cases hk2 : k < (L e.2).length
        · rw [List.getD_eq_getElem?_getD, List.getElem?_append_left hk2, ← List.getD_eq_getElem?_getD]; exact c1 _ hp k hk2
        · have hkk : k = (L e.2).length := by omega
          rw [List.getD_eq_getElem?_getD, List.getElem?_append_right (by omega), hkk, Nat.sub_self]
          show sc la = _
          rw [c5 la ⟨l1, l2, l3, l4⟩]
          obtain ⟨_, _, _, _, q6, _⟩ := TgO_lv s6
          by_cases h6 : e.1 = 6
          · rw [lets_6 h6, if_pos (q6.mp h6), c4.1 he]
          · rw [lets_0 h6, if_neg (fun h => h6 (q6.mpr h)), c4.1 he]
      · rw [if_neg hpe] at hk ⊢; exact c1 p hp k hk
    · rw [hdm] at hp
      rw [g1 5 _ (by decide) (by decide)] at h
      rw [g1 6 _ (by decide) (by decide)]; exact c2 p hp h
    · rw [g1 2 _ (by decide) (by decide)]; exact c3 k hk
    · rcases hl' with ⟨rfl, _⟩ | ⟨tag, rfl, t2, t3, t4, t5⟩
      · exact c4.2
      · exact ⟨fun _ => c4.1 he, c4.2⟩
    · rcases hl' with ⟨rfl, _⟩ | ⟨tag, rfl, t2, t3, t4, t5⟩
      · rw [huniq p hp]; exact c4.1 he
      · obtain ⟨f1, f2, f3, f4⟩ := hp
        have hl : ¬ inS l p := fun ⟨x, hx, hx2⟩ => f4 ⟨x, List.mem_cons_of_mem _ hx, hx2⟩
        exact absurd ⟨_, List.mem_cons_self, t2, (huniq p ⟨f1, f2, f3, hl⟩).symm⟩ f4
  · rcases hl' with ⟨rfl, _⟩ | ⟨tag, rfl, t2, t3, t4, t5⟩
    · exact hne' rfl
    · have hl : ¬ inS l p := fun ⟨x, hx, hx2⟩ => f4 ⟨x, List.mem_cons_of_mem _ hx, hx2⟩
      exact f4 ⟨_, List.mem_cons_self, t2, (huniq p ⟨f1, f2, f3, hl⟩).symm⟩
theorem GI_mono {n : Nat} {g : Nat → Nat → Nat} {L : Nat → List Nat} {d : Nat} {l : List (Nat × Nat)} {i i' : Nat} (h : GIv n g L d l i) (hi : i ≤ i') (hn : i' ≤ n) : GIv n g L d l i' := by
  obtain ⟨a1, a2, a3, a4, a5, a6, a7, a8, a9⟩ := h
  exact ⟨a1, hn, a3, a4, a5, StO_mono hi a6, a7, a8, a9⟩
theorem GIb_mono {n : Nat} {g : Nat → Nat → Nat} {L : Nat → List Nat} {d : Nat} {l : List (Nat × Nat)} {i i' : Nat} (h : GIb n g L d l i) (hi : i ≤ i') (hn : i' ≤ n) : GIb n g L d l i' := ⟨GI_mono h.1 hi hn, h.2⟩
theorem Fr1_p {g : Nat → Nat → Nat} {L : Nat → List Nat} {d : Nat} {e : Nat × Nat} {l : List (Nat × Nat)} {p : Nat} (he : e.1 = 1) : Fr1 g L d (e :: l) p ↔ Fr1 g L d l p := by
  have : inS (e :: l) p ↔ inS l p := by
    constructor
    · rintro ⟨x, hx, hx2, hx3⟩
      rcases List.mem_cons.mp hx with rfl | hx
      · omega
      · exact ⟨x, hx, hx2, hx3⟩
    · rintro ⟨x, hx, hx2⟩; exact ⟨x, List.mem_cons_of_mem _ hx, hx2⟩
  unfold Fr1; rw [this]
theorem GI_paren {n : Nat} {g : Nat → Nat → Nat} {L : Nat → List Nat} {d : Nat} {l : List (Nat × Nat)} {i : Nat} (h : GIv n g L d l i) (hp : paN l < 20) : GIv n g L d ((1, 0) :: l) i := by
  obtain ⟨a1, a2, a3, a4, a5, a6, a7, a8, a9, sc, c1, c2, c3, c4, c5⟩ := h
  refine ⟨a1, a2, a3, a4, a5, Or.inr ⟨a6, Or.inl rfl⟩, by rw [paN_1 rfl]; omega, by rw [paN_1 rfl]; simp only [List.length_cons]; omega, fun p hp hs => a9 p hp (fun ⟨x, hx, hx2⟩ => hs ⟨x, List.mem_cons_of_mem _ hx, hx2⟩), sc, c1, c2, c3, ⟨fun h => absurd h (by show ¬ (2 ≤ 1); decide), c4⟩, fun p hp => c5 p ((Fr1_p rfl).mp hp)⟩
theorem GI_unparen {n : Nat} {g : Nat → Nat → Nat} {L : Nat → List Nat} {d : Nat} {e : Nat × Nat} {l : List (Nat × Nat)} {i : Nat} (h : GIv n g L d (e :: l) i) (he : e.1 = 1) : GIv n g L d l i := by
  obtain ⟨a1, a2, a3, a4, a5, a6, a7, a8, a9, sc, c1, c2, c3, c4, c5⟩ := h
  rw [paN_1 he] at a7 a8
  simp only [List.length_cons] at a8
  refine ⟨a1, a2, a3, a4, a5, ?_, by omega, by omega, fun p hp hs => a9 p hp (fun ⟨x, hx, hx2, hx3⟩ => ?_), sc, c1, c2, c3, c4.2, fun p hp => ?_⟩
  · rcases a6 with ⟨h, _⟩ | ⟨h1, h2⟩
    · omega
    · exact h1
  · rcases List.mem_cons.mp hx with rfl | hx
    · omega
    · exact hs ⟨x, hx, hx2, hx3⟩
  · rw [c5 p ((Fr1_p he).mpr hp), lets_0 (by omega)]
