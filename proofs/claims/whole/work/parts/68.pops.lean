/-! 68.pops: what ends, ends -/
theorem tgi2 {g : Nat → Nat → Nat} {L : Nat → List Nat} {i : Nat} {e : Nat × Nat} (h : TgO g L i e) (ht : e.1 = 2) : g 5 e.2 = 5 ∧ (L e.2).length = 0 := by
  rcases h with ⟨a, b, c⟩ | ⟨a, b, c⟩ | ⟨a, b, c⟩ | ⟨a, b, c⟩ | ⟨a, b, c⟩ | ⟨a, b, c⟩ | ⟨a, b, c⟩ | ⟨a, b, c⟩ | ⟨a, b, c⟩ | ⟨a, b, c⟩ | ⟨a, b, c⟩ | ⟨a, b, c⟩ | ⟨a, b, c⟩
  all_goals first | exact ⟨b, c⟩ | (rw [a] at ht; exact absurd ht (by decide))
theorem tgi3 {g : Nat → Nat → Nat} {L : Nat → List Nat} {i : Nat} {e : Nat × Nat} (h : TgO g L i e) (ht : e.1 = 3) : g 5 e.2 = 5 ∧ (L e.2).length = 1 := by
  rcases h with ⟨a, b, c⟩ | ⟨a, b, c⟩ | ⟨a, b, c⟩ | ⟨a, b, c⟩ | ⟨a, b, c⟩ | ⟨a, b, c⟩ | ⟨a, b, c⟩ | ⟨a, b, c⟩ | ⟨a, b, c⟩ | ⟨a, b, c⟩ | ⟨a, b, c⟩ | ⟨a, b, c⟩ | ⟨a, b, c⟩
  all_goals first | exact ⟨b, c⟩ | (rw [a] at ht; exact absurd ht (by decide))
theorem tgi5 {g : Nat → Nat → Nat} {L : Nat → List Nat} {i : Nat} {e : Nat × Nat} (h : TgO g L i e) (ht : e.1 = 5) : g 5 e.2 = 6 ∧ (L e.2).length = 0 ∧ g 7 e.2 ≠ 0 := by
  rcases h with ⟨a, b, c⟩ | ⟨a, b, c⟩ | ⟨a, b, c⟩ | ⟨a, b, c⟩ | ⟨a, b, c⟩ | ⟨a, b, c⟩ | ⟨a, b, c⟩ | ⟨a, b, c⟩ | ⟨a, b, c⟩ | ⟨a, b, c⟩ | ⟨a, b, c⟩ | ⟨a, b, c⟩ | ⟨a, b, c⟩
  all_goals first | exact ⟨b, c⟩ | (rw [a] at ht; exact absurd ht (by decide))
theorem tgi7 {g : Nat → Nat → Nat} {L : Nat → List Nat} {i : Nat} {e : Nat × Nat} (h : TgO g L i e) (ht : e.1 = 7) : g 5 e.2 = 7 ∧ g 7 e.2 ≠ 0 ∧ (L e.2).length ≤ i := by
  rcases h with ⟨a, b, c⟩ | ⟨a, b, c⟩ | ⟨a, b, c⟩ | ⟨a, b, c⟩ | ⟨a, b, c⟩ | ⟨a, b, c⟩ | ⟨a, b, c⟩ | ⟨a, b, c⟩ | ⟨a, b, c⟩ | ⟨a, b, c⟩ | ⟨a, b, c⟩ | ⟨a, b, c⟩ | ⟨a, b, c⟩
  all_goals first | exact ⟨b, c⟩ | (rw [a] at ht; exact absurd ht (by decide))
theorem tgi8 {g : Nat → Nat → Nat} {L : Nat → List Nat} {i : Nat} {e : Nat × Nat} (h : TgO g L i e) (ht : e.1 = 8) : g 5 e.2 = 8 ∧ (L e.2).length = 0 ∧ g 7 e.2 = 0 := by
  rcases h with ⟨a, b, c⟩ | ⟨a, b, c⟩ | ⟨a, b, c⟩ | ⟨a, b, c⟩ | ⟨a, b, c⟩ | ⟨a, b, c⟩ | ⟨a, b, c⟩ | ⟨a, b, c⟩ | ⟨a, b, c⟩ | ⟨a, b, c⟩ | ⟨a, b, c⟩ | ⟨a, b, c⟩ | ⟨a, b, c⟩
  all_goals first | exact ⟨b, c⟩ | (rw [a] at ht; exact absurd ht (by decide))
theorem tgi9 {g : Nat → Nat → Nat} {L : Nat → List Nat} {i : Nat} {e : Nat × Nat} (h : TgO g L i e) (ht : e.1 = 9) : g 5 e.2 = 8 ∧ 1 ≤ (L e.2).length ∧ g 7 e.2 ≠ 0 ∧ (L e.2).length ≤ i := by
  rcases h with ⟨a, b, c⟩ | ⟨a, b, c⟩ | ⟨a, b, c⟩ | ⟨a, b, c⟩ | ⟨a, b, c⟩ | ⟨a, b, c⟩ | ⟨a, b, c⟩ | ⟨a, b, c⟩ | ⟨a, b, c⟩ | ⟨a, b, c⟩ | ⟨a, b, c⟩ | ⟨a, b, c⟩ | ⟨a, b, c⟩
  all_goals first | exact ⟨b, c⟩ | (rw [a] at ht; exact absurd ht (by decide))
theorem tgi10 {g : Nat → Nat → Nat} {L : Nat → List Nat} {i : Nat} {e : Nat × Nat} (h : TgO g L i e) (ht : e.1 = 10) : g 5 e.2 = 9 ∧ (L e.2).length = 1 := by
  rcases h with ⟨a, b, c⟩ | ⟨a, b, c⟩ | ⟨a, b, c⟩ | ⟨a, b, c⟩ | ⟨a, b, c⟩ | ⟨a, b, c⟩ | ⟨a, b, c⟩ | ⟨a, b, c⟩ | ⟨a, b, c⟩ | ⟨a, b, c⟩ | ⟨a, b, c⟩ | ⟨a, b, c⟩ | ⟨a, b, c⟩
  all_goals first | exact ⟨b, c⟩ | (rw [a] at ht; exact absurd ht (by decide))
theorem tgi11 {g : Nat → Nat → Nat} {L : Nat → List Nat} {i : Nat} {e : Nat × Nat} (h : TgO g L i e) (ht : e.1 = 11) : (g 5 e.2 = 60 ∨ g 5 e.2 = 61 ∨ g 5 e.2 = 62) ∧ (L e.2).length = 1 := by
  rcases h with ⟨a, b, c⟩ | ⟨a, b, c⟩ | ⟨a, b, c⟩ | ⟨a, b, c⟩ | ⟨a, b, c⟩ | ⟨a, b, c⟩ | ⟨a, b, c⟩ | ⟨a, b, c⟩ | ⟨a, b, c⟩ | ⟨a, b, c⟩ | ⟨a, b, c⟩ | ⟨a, b, c⟩ | ⟨a, b, c⟩
  all_goals first | exact ⟨b, c⟩ | (rw [a] at ht; exact absurd ht (by decide))
theorem tgi12 {g : Nat → Nat → Nat} {L : Nat → List Nat} {i : Nat} {e : Nat × Nat} (h : TgO g L i e) (ht : e.1 = 12) : (g 5 e.2 = 43 ∨ g 5 e.2 = 45) ∧ (L e.2).length = 1 := by
  rcases h with ⟨a, b, c⟩ | ⟨a, b, c⟩ | ⟨a, b, c⟩ | ⟨a, b, c⟩ | ⟨a, b, c⟩ | ⟨a, b, c⟩ | ⟨a, b, c⟩ | ⟨a, b, c⟩ | ⟨a, b, c⟩ | ⟨a, b, c⟩ | ⟨a, b, c⟩ | ⟨a, b, c⟩ | ⟨a, b, c⟩
  all_goals first | exact ⟨b, c⟩ | (rw [a] at ht; exact absurd ht (by decide))
theorem tgi13 {g : Nat → Nat → Nat} {L : Nat → List Nat} {i : Nat} {e : Nat × Nat} (h : TgO g L i e) (ht : e.1 = 13) : (g 5 e.2 = 42 ∨ g 5 e.2 = 47 ∨ g 5 e.2 = 37) ∧ (L e.2).length = 1 := by
  rcases h with ⟨a, b, c⟩ | ⟨a, b, c⟩ | ⟨a, b, c⟩ | ⟨a, b, c⟩ | ⟨a, b, c⟩ | ⟨a, b, c⟩ | ⟨a, b, c⟩ | ⟨a, b, c⟩ | ⟨a, b, c⟩ | ⟨a, b, c⟩ | ⟨a, b, c⟩ | ⟨a, b, c⟩ | ⟨a, b, c⟩
  all_goals first | exact ⟨b, c⟩ | (rw [a] at ht; exact absurd ht (by decide))
theorem tgi14 {g : Nat → Nat → Nat} {L : Nat → List Nat} {i : Nat} {e : Nat × Nat} (h : TgO g L i e) (ht : e.1 = 14) : g 5 e.2 = 4 ∧ (L e.2).length = 0 := by
  rcases h with ⟨a, b, c⟩ | ⟨a, b, c⟩ | ⟨a, b, c⟩ | ⟨a, b, c⟩ | ⟨a, b, c⟩ | ⟨a, b, c⟩ | ⟨a, b, c⟩ | ⟨a, b, c⟩ | ⟨a, b, c⟩ | ⟨a, b, c⟩ | ⟨a, b, c⟩ | ⟨a, b, c⟩ | ⟨a, b, c⟩
  all_goals first | exact ⟨b, c⟩ | (rw [a] at ht; exact absurd ht (by decide))
theorem lv_0 {x : Nat} (h : lvT x = 0) : x ≠ 11 ∧ x ≠ 12 ∧ x ≠ 13 ∧ x ≠ 14 := (lvT_v x).1.mp h
theorem lv_lt3 {x : Nat} (h : lvT x < 3) : x ≠ 13 ∧ x ≠ 14 := ⟨fun e => by subst e; exact absurd h (by decide), fun e => by subst e; exact absurd h (by decide)⟩
theorem lv_lt2 {x : Nat} (h : lvT x < 2) : x ≠ 12 := fun e => by subst e; exact absurd h (by decide)
theorem lv_lt1 {x : Nat} (h : lvT x < 1) : x ≠ 11 := fun e => by subst e; exact absurd h (by decide)
theorem lv_2 {x : Nat} (h : 2 ≤ lvT x) (h3 : lvT x < 3) : x = 12 := (lvT_v x).2.2.1.mp (by omega)
theorem lv_3 {x : Nat} (h : 3 ≤ lvT x) : x = 13 ∨ x = 14 := by
  have := lvT_le x
  rcases (show lvT x = 3 ∨ lvT x = 4 by omega) with h | h
  · exact Or.inl ((lvT_v x).2.2.2.1.mp h)
  · exact Or.inr ((lvT_v x).2.2.2.2.mp h)
theorem lv_ge {x : Nat} (h : 1 ≤ lvT x) : 11 ≤ x := by
  by_cases h2 : 11 ≤ x
  · exact h2
  · have : lvT x = 0 := (lvT_v x).1.mpr (by omega)
    omega
theorem GI_top {n : Nat} {g : Nat → Nat → Nat} {L : Nat → List Nat} {d : Nat} {e : Nat × Nat} {l : List (Nat × Nat)} {i : Nat} (h : GIv n g L d (e :: l) i) (he : 2 ≤ e.1) : dm g (d + 1) e.2 ∧ TgO g L i e ∧ (∀ x ∈ l, 2 ≤ x.1 → x.2 < e.2) ∧ (1 ≤ lvT e.1 → lvT e.1 ≤ 3 → lvT (hdT l) < lvT e.1) ∧ (e.1 ≤ 6 → lvT (hdT l) = 0) ∧ l ≠ [] := by
  obtain ⟨a1, a2, a3, a4, a5, a6, a7, a8, a9⟩ := h
  rcases a6 with ⟨h, _⟩ | ⟨h1, h2⟩
  · omega
  · rcases h2 with h2 | ⟨b1, b2, b3, b4, b5, b6, b7, b8⟩
    · omega
    · exact ⟨b2, b5, b6, b7, b8, StO_ne h1⟩
theorem lsO_pop {g : Nat → Nat → Nat} {L : Nat → List Nat} {e : Nat × Nat} {l : List (Nat × Nat)} {x : List Nat} (h : ∀ y ∈ l, 2 ≤ y.1 → y.2 < e.2) : lsO g (upL L e.2 x) l = lsO g L l :=
  lsO_cg (fun y hy h6 => ⟨rfl, by rw [upL_i, if_neg (by have := h y hy (by omega); omega)]⟩)
theorem pop_one {n : Nat} {g : Nat → Nat → Nat} {L : Nat → List Nat} {d : Nat} {e : Nat × Nat} {l : List (Nat × Nat)} {i la : Nat} (h : GIv n g L d (e :: l) i) (hla : LaO g L d (e :: l) la) (he : 1 ≤ lvT e.1 ∨ e.1 = 4 ∨ e.1 = 6 ∨ e.1 = 7 ∨ e.1 = 9 ∨ e.1 = 10) : GIv n g (upL L e.2 (L e.2 ++ [la])) d l i ∧ LaO g (upL L e.2 (L e.2 ++ [la])) d l e.2 := by
  have he : 11 ≤ e.1 ∨ e.1 = 4 ∨ e.1 = 6 ∨ e.1 = 7 ∨ e.1 = 9 ∨ e.1 = 10 := he.imp lv_ge id
  have h2 : 2 ≤ e.1 := by omega
  have hT := (GI_top h h2).2.1
  have hc : Cp g (upL L e.2 (L e.2 ++ [la])) e.2 := by
    unfold Cp
    rw [upL_s, List.length_append]
    rcases hT with ⟨a, b, c⟩ | ⟨a, b, c⟩ | ⟨a, b, c⟩ | ⟨a, b, c, f⟩ | ⟨a, b, c, f⟩ | ⟨a, b, c, f⟩ | ⟨a, b, c, f⟩ | ⟨a, b, c, f, k⟩ | ⟨a, b, c⟩ | ⟨a, b, c⟩ | ⟨a, b, c⟩ | ⟨a, b, c⟩ | ⟨a, b, c⟩
    · omega
    · omega
    · exact Or.inr (Or.inr (Or.inr (Or.inr (Or.inl ⟨b, by rw [c]; rfl⟩))))
    · omega
    · exact Or.inr (Or.inr (Or.inr (Or.inr (Or.inr (Or.inl ⟨b, by rw [c]; rfl⟩)))))
    · exact Or.inr (Or.inr (Or.inr (Or.inr (Or.inr (Or.inr (Or.inl ⟨b, c⟩))))))
    · omega
    · exact Or.inr (Or.inr (Or.inr (Or.inr (Or.inr (Or.inr (Or.inr (Or.inl ⟨b, by simp, f⟩)))))))
    · exact Or.inr (Or.inr (Or.inr (Or.inr (Or.inr (Or.inr (Or.inr (Or.inr (Or.inl ⟨b, by rw [c]; rfl⟩))))))))
    · refine Or.inr (Or.inr (Or.inr (Or.inr (Or.inr (Or.inr (Or.inr (Or.inr (Or.inr ⟨?_, by rw [c]; rfl⟩))))))))
      rcases b with b | b | b <;> rw [b] <;> decide
    · refine Or.inr (Or.inr (Or.inr (Or.inr (Or.inr (Or.inr (Or.inr (Or.inr (Or.inr ⟨?_, by rw [c]; rfl⟩))))))))
      rcases b with b | b <;> rw [b] <;> decide
    · refine Or.inr (Or.inr (Or.inr (Or.inr (Or.inr (Or.inr (Or.inr (Or.inr (Or.inr ⟨?_, by rw [c]; rfl⟩))))))))
      rcases b with b | b | b <;> rw [b] <;> decide
    · exact Or.inr (Or.inr (Or.inr (Or.inl ⟨b, by rw [c]; rfl⟩)))
  have hNC : g 7 e.2 ≠ 0 → NC (g 7 e.2) ∧ g 8 e.2 ≤ 1500 := (h.2.2.2.2.1.1 e.2 (GI_top h h2).1).2.2.1
  obtain ⟨q1, q2, _⟩ := GI_att (l' := l) h h2 hla ⟨fun _ _ _ _ => rfl, fun _ _ => ⟨rfl, rfl⟩, hNC⟩ (Or.inl ⟨rfl, hc⟩)
  exact ⟨q1, q2 rfl⟩
theorem popS_GI {n : Nat} {g : Nat → Nat → Nat} {d i fl : Nat} (hfl : 1 ≤ fl) : ∀ (l : List (Nat × Nat)) (L : Nat → List Nat) (la : Nat), GIv n g L d l i → LaO g L d l la → GIv n g (popS fl l L la).2.1 d (popS fl l L la).1 i ∧ LaO g (popS fl l L la).2.1 d (popS fl l L la).1 (popS fl l L la).2.2 ∧ lvT (hdT (popS fl l L la).1) < fl ∧ paN (popS fl l L la).1 = paN l ∧ lsO g (popS fl l L la).2.1 (popS fl l L la).1 = lsO g L l
  | [], L, la, h, _ => absurd rfl (StO_ne h.2.2.2.2.2.1)
  | e :: l, L, la, h, hla => by
    simp only [popS]
    by_cases hc : fl ≤ lvT e.1
    · rw [if_pos hc]
      obtain ⟨q1, q2⟩ := pop_one h hla (Or.inl (by omega))
      have h2 : 2 ≤ e.1 := lvT_2 (by omega)
      obtain ⟨r1, r2, r3, r4, r5⟩ := popS_GI hfl l _ _ q1 q2
      refine ⟨r1, r2, r3, by rw [r4, paN_0 (by omega)], ?_⟩
      have h6 : e.1 ≠ 6 := by
        intro h6
        rw [h6] at hc
        have : lvT 6 = 0 := rfl
        omega
      rw [r5, lsO_pop (GI_top h h2).2.2.1, lsO_0 h6]
    · rw [if_neg hc]
      exact ⟨h, hla, by show lvT e.1 < fl; omega, rfl, rfl⟩
theorem popS_comp {fl fl' : Nat} (hf : fl ≤ fl') : ∀ (l : List (Nat × Nat)) (L : Nat → List Nat) (la : Nat), popS fl l L la = popS fl (popS fl' l L la).1 (popS fl' l L la).2.1 (popS fl' l L la).2.2
  | [], _, _ => rfl
  | e :: l, L, la => by
    by_cases hc : fl' ≤ lvT e.1
    · simp only [popS]; rw [if_pos hc, if_pos (by omega)]; exact popS_comp hf l _ _
    · have : popS fl' (e :: l) L la = (e :: l, L, la) := by simp only [popS]; rw [if_neg hc]
      rw [this]
theorem popE_GI {n : Nat} {g : Nat → Nat → Nat} {d i : Nat} : ∀ (l : List (Nat × Nat)) (L : Nat → List Nat) (la : Nat), GIv n g L d l i → LaO g L d l la → lvT (hdT l) = 0 → GIv n g (popE l L la).2.1 d (popE l L la).1 i ∧ LaO g (popE l L la).2.1 d (popE l L la).1 (popE l L la).2.2 ∧ lvT (hdT (popE l L la).1) = 0 ∧ hdT (popE l L la).1 ≠ 4 ∧ hdT (popE l L la).1 ≠ 6 ∧ paN (popE l L la).1 = paN l
  | [], L, la, h, _, _ => absurd rfl (StO_ne h.2.2.2.2.2.1)
  | e :: l, L, la, h, hla, hlv => by
    simp only [popE]
    by_cases hc : e.1 = 4 ∨ e.1 = 6
    · rw [if_pos hc]
      obtain ⟨q1, q2⟩ := pop_one h hla (by omega)
      have hl0 := (GI_top h (by omega)).2.2.2.2.1 (by omega)
      obtain ⟨r1, r2, r3, r4, r5, r6⟩ := popE_GI l _ _ q1 q2 hl0
      exact ⟨r1, r2, r3, r4, r5, by rw [r6, paN_0 (by omega)]⟩
    · rw [if_neg hc]
      exact ⟨h, hla, hlv, fun h => hc (Or.inl h), fun h => hc (Or.inr h), rfl⟩
/-- the reference: second -/
theorem m_second {t : Nat → Nat} {n : Nat} {v0 v : St} {b : Nat} {g : Nat → Nat → Nat} {L : Nat → List Nat} {d : Nat} {T : List (Nat × Nat)} {ls : List (Nat × Nat)} {bk i : Nat} {p la : Nat} (h : RM t n v0 b g L d T [la] ls bk i v) (hb : b ≤ 1) (hd : d < 12) (hp : dm g (d + 1) p) (h3 : g 5 p ≠ 3) (h7 : g 5 p ≠ 7) (h8 : g 5 p ≠ 8) (hl : (L p).length = 1) {x : Int32} (hx : x = nI (720 * b + p)) {P : St → Prop} (k : ∀ V, RM t n v0 b g (upL L p (L p ++ [la])) d T [p] ls bk i V → P V) : wp_X7_second v x P := by
  subst hx
  have hp7 := dm_lt hp (by omega)
  refine m_got h (by decide) (fun V hV => ⟨inN (by omega) (by decide), nm_i ?_⟩)
  rw [ixN (by omega)]
  exact m_give (RM_set2 hV hd hp h3 h7 h8 hl) rfl (by decide) k
theorem noSame {n : Nat} {g : Nat → Nat → Nat} {L : Nat → List Nat} {d : Nat} {l : List (Nat × Nat)} {i p : Nat} (h : GIv n g L d l i) (h6 : g 5 p ≠ 6 ∨ L p ≠ []) : ∀ q, dm g (d + 1) q → g 5 q = 3 → g 6 q = p → L p ≠ [] := fun q hq h3 he => by
  obtain ⟨c1, c2, c3, c4⟩ := (h.2.2.2.2.1.1 q hq).2.2.2.2 h3
  rw [he] at c3 c4; exact c4
theorem mX3 {t : Nat → Nat} {n : Nat} {v0 : St} {b : Nat} {g : Nat → Nat → Nat} {d : Nat} {ls : List (Nat × Nat)} {bk i : Nat} {P : St → Prop} (hb : b ≤ 1) : ∀ (l : List (Nat × Nat)) (L : Nat → List Nat) (la : Nat), GIv n g L d l i → LaO g L d l la → RunM (RM t n v0 b g (popS 3 l L la).2.1 d (bX (popS 3 l L la).1 3) [(popS 3 l L la).2.2] ls bk i) P → RunM (RM t n v0 b g L d (bX l 3) [la] ls bk i) P
  | [], L, la, h, _, _ => absurd rfl (StO_ne h.2.2.2.2.2.1)
  | e :: l, L, la, h, hla, hr => by
    have hl81 := (GI_len h).1
    simp only [List.length_cons] at hl81
    have b2 := bX_len l 2
    have b3 := bX_len l 3
    simp only [popS] at hr
    by_cases hc : 3 ≤ lvT e.1
    · rw [if_pos hc] at hr
      obtain ⟨q1, q2⟩ := pop_one h hla (Or.inl (by omega))
      have h2 : 2 ≤ e.1 := lvT_2 (by omega)
      have h1314 := lv_3 hc
      obtain ⟨t1, t2, t3, t4, t5, t6⟩ := GI_top h h2
      have ih := mX3 hb l _ _ q1 q2 hr
      have hp7 := dm_lt t1 (by have := h.1; omega)
      by_cases h13 : e.1 = 13
      · have ht : (g 5 e.2 = 42 ∨ g 5 e.2 = 47 ∨ g 5 e.2 = 37) ∧ (L e.2).length = 1 := tgi13 t2 h13
        have hX : bX (e :: l) 3 = (14, e.2) :: bX l 2 := by show xF e _ _ _ = _; unfold xF; rw [if_pos h13]
        have hlv : lvT (hdT l) < 3 := by have := t4 (by omega) (by rw [h13]; decide); rw [h13] at this; exact this
        rw [hX]
        refine m_pop (by omega) (fun v x K hx hv k => to_more (by decide) (by decide) ?_) ih
        refine br_n (by decide) (br_n (by decide) (br_n (by decide) (br_n (by decide) (br_n (by decide) (br_n (by decide) (br_n (by decide) (br_p rfl ?_)))))))
        refine m_second hv hb h.1 t1 (by omega) (by omega) (by omega) ht.2 (hx rfl) (fun V hV => br_n (by decide) (m_later hV rfl (p := 0) (fun h => by cases h) (by omega) (fun W hW => k W ?_)))
        rw [bX_3 t6 (lv_lt3 hlv).1 (lv_lt3 hlv).2]; exact hW
      · have h14 : e.1 = 14 := by omega
        have ht : g 5 e.2 = 4 ∧ (L e.2).length = 0 := tgi14 t2 h14
        have hX : bX (e :: l) 3 = (16, e.2) :: bX l 3 := by show xF e _ _ _ = _; unfold xF; rw [if_neg h13, if_pos h14]
        rw [hX]
        refine m_pop (by omega) (fun v x K hx hv k => to_rest (by decide) (by decide) (br_n (by decide) (br_p rfl ?_))) ih
        rw [hx rfl]
        refine m_got hv (by decide) (fun V hV => ⟨inN (by omega) (by decide), nm_i ?_⟩)
        rw [ixN (by omega)]
        exact m_give (RM_set1 hV h.1 t1 (noSame h (Or.inl (by omega))) (by omega) (by omega) (List.length_eq_zero_iff.mp ht.2) (fun h8 => by omega)) rfl (by decide) k
    · rw [if_neg hc] at hr; exact hr
theorem mX2 {t : Nat → Nat} {n : Nat} {v0 : St} {b : Nat} {g : Nat → Nat → Nat} {d : Nat} {ls : List (Nat × Nat)} {bk i : Nat} {P : St → Prop} (hb : b ≤ 1) : ∀ (l : List (Nat × Nat)) (L : Nat → List Nat) (la : Nat), GIv n g L d l i → LaO g L d l la → lvT (hdT l) < 3 → RunM (RM t n v0 b g (popS 2 l L la).2.1 d (bX (popS 2 l L la).1 2) [(popS 2 l L la).2.2] ls bk i) P → RunM (RM t n v0 b g L d (bX l 2) [la] ls bk i) P
  | [], L, la, h, _, _, _ => absurd rfl (StO_ne h.2.2.2.2.2.1)
  | e :: l, L, la, h, hla, hlv3, hr => by
    have hl81 := (GI_len h).1
    simp only [List.length_cons] at hl81
    have b1 := bX_len l 1
    have hlv3 : lvT e.1 < 3 := hlv3
    simp only [popS] at hr
    by_cases hc : 2 ≤ lvT e.1
    · rw [if_pos hc] at hr
      obtain ⟨q1, q2⟩ := pop_one h hla (Or.inl (by omega))
      have h2 : 2 ≤ e.1 := lvT_2 (by omega)
      obtain ⟨t1, t2, t3, t4, t5, t6⟩ := GI_top h h2
      have hlv := t4 (by omega) (by omega)
      have ih := mX2 hb l _ _ q1 q2 (by omega) hr
      have h12 : e.1 = 12 := lv_2 hc hlv3
      have ht : (g 5 e.2 = 43 ∨ g 5 e.2 = 45) ∧ (L e.2).length = 1 := tgi12 t2 h12
      have hX : bX (e :: l) 2 = (11, e.2) :: bX l 1 := by show xT e _ _ = _; unfold xT; rw [if_pos h12]
      rw [hX]
      refine m_pop (by omega) (fun v x K hx hv k => to_more (by decide) (by decide) ?_) ih
      refine br_n (by decide) (br_n (by decide) (br_n (by decide) (br_n (by decide) (br_n (by decide) (br_n (by decide) (br_p rfl ?_))))))
      refine m_second hv hb h.1 t1 (by omega) (by omega) (by omega) ht.2 (hx rfl) (fun V hV => br_p rfl (m_later hV rfl (p := 0) (fun h => by cases h) (by omega) (fun W hW => k W ?_)))
      rw [bX_2 t6 (lv_lt2 (by omega))]; exact hW
    · rw [if_neg hc] at hr; exact hr
theorem mX1 {t : Nat → Nat} {n : Nat} {v0 : St} {b : Nat} {g : Nat → Nat → Nat} {d : Nat} {ls : List (Nat × Nat)} {bk i : Nat} {P : St → Prop} (hb : b ≤ 1) {e : Nat × Nat} {l : List (Nat × Nat)} {L : Nat → List Nat} {la : Nat} (h : GIv n g L d (e :: l) i) (h11 : e.1 = 11) (hr : RunM (RM t n v0 b g (upL L e.2 (L e.2 ++ [la])) d (bX l 0) [e.2] ls bk i) P) : RunM (RM t n v0 b g L d (bX (e :: l) 1) [la] ls bk i) P := by
  have hl81 := (GI_len h).1
  simp only [List.length_cons] at hl81
  have b0 := bX_len l 0
  obtain ⟨t1, t2, t3, t4, t5, t6⟩ := GI_top h (by omega)
  have ht : (g 5 e.2 = 60 ∨ g 5 e.2 = 61 ∨ g 5 e.2 = 62) ∧ (L e.2).length = 1 := tgi11 t2 h11
  have hX : bX (e :: l) 1 = (8, e.2) :: bX l 0 := by show xS e _ _ = _; unfold xS; rw [if_pos h11]
  rw [hX]
  refine m_pop (by omega) (fun v x K hx hv k => to_more (by decide) (by decide) (br_n (by decide) (br_p rfl ?_))) hr
  exact m_second hv hb h.1 t1 (by omega) (by omega) (by omega) ht.2 (hx rfl) k
/-- if's and let's last expressions end -/
theorem mX0 {t : Nat → Nat} {n : Nat} {v0 : St} {b : Nat} {g : Nat → Nat → Nat} {d : Nat} {bk i : Nat} {P : St → Prop} (hb : b ≤ 1) : ∀ (l : List (Nat × Nat)) (L : Nat → List Nat) (la : Nat), GIv n g L d l i → LaO g L d l la → lvT (hdT l) = 0 → RunM (RM t n v0 b g (popE l L la).2.1 d (bX (popE l L la).1 0) [(popE l L la).2.2] (lsO g (popE l L la).2.1 (popE l L la).1) bk i) P → RunM (RM t n v0 b g L d (bX l 0) [la] (lsO g L l) bk i) P
  | [], L, la, h, _, _, _ => absurd rfl (StO_ne h.2.2.2.2.2.1)
  | e :: l, L, la, h, hla, hlv0, hr => by
    have hl81 := (GI_len h).1
    simp only [List.length_cons] at hl81
    have b0 := bX_len l 0
    simp only [popE] at hr
    by_cases hc : e.1 = 4 ∨ e.1 = 6
    · rw [if_pos hc] at hr
      obtain ⟨q1, q2⟩ := pop_one h hla (by omega)
      obtain ⟨t1, t2, t3, t4, t5, t6⟩ := GI_top h (by omega)
      have hl0 := t5 (by omega)
      have hp7 := dm_lt t1 (by have := h.1; omega)
      have ih := mX0 hb l _ _ q1 q2 hl0 hr
      rw [lsO_pop t3] at ih
      have hX : bX (e :: l) 0 = (e.1, e.2) :: bX l 0 := by show xE e _ _ = _; unfold xE; rw [if_neg (by omega), if_neg (by omega), if_pos (by omega)]
      rw [hX]
      rcases hc with h4 | h6
      · have ht : g 5 e.2 = 5 ∧ (L e.2).length = 2 := (TgO_lv t2).2.2.2.1.mp h4
        rw [lsO_0 (by omega), h4]
        refine m_pop (by omega) (fun v x K hx hv k => br_n (by decide) (br_n (by decide) (br_n (by decide) (br_p rfl ?_)))) ih
        rw [hx rfl]
        refine m_got hv (by decide) (fun V hV => ⟨inN (by omega) (by decide), nm_i ?_⟩)
        rw [ixN (by omega)]
        exact m_give (RM_set3 hV h.1 t1 ht.1 ht.2) rfl (by decide) k
      · have ht : g 5 e.2 = 6 ∧ (L e.2).length = 1 := (TgO_lv t2).2.2.2.2.1.mp h6
        have hls : lsO g L (e :: l) = (g 7 e.2, (L e.2).getD 0 0) :: lsO g L l := by simp only [lsO]; rw [if_pos h6]
        rw [hls, h6]
        refine m_pop (by omega) (fun v x K hx hv k => br_n (by decide) (br_n (by decide) (br_n (by decide) (br_n (by decide) (br_n (by decide) (br_p rfl (nm_i ?_))))))) ih
        have hv2 : RM t n v0 b g L d (bX l 0) [la] (lsO g L l) bk i (sI v 8 (gI v 8 - 1)) := by
          obtain ⟨hT, hK, hF, hM, hN, hR, hS, hV, hL⟩ := hv
          exact ⟨hT, hK, hF, hM, hN, hR, hS, hV, ⟨by show gI v 8 - 1 = _; rw [hL.1]; exact nI_pred _, hL.2.2.2⟩⟩
        exact m_second hv2 hb h.1 t1 (by omega) (by omega) (by omega) ht.2 (hx rfl) k
    · rw [if_neg hc] at hr; exact hr
