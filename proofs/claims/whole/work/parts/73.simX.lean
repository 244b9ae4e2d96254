/-! 73.simX: an expression ends, both together -/
theorem BtC_fr {t : Nat → Nat} {n : Nat} {u0 : St} {g : Nat → Nat → Nat} {L : Nat → List Nat} {m i i' : Nat} {u U : St} (h : BtC t n u0 g L m i u) (f : FrC u U) (hK : TkC U t n i') : BtC t n u0 g L m i' U := by
  obtain ⟨hT, _, hF, hC, ⟨h12, h6, h5⟩, hR⟩ := h
  refine ⟨hT.fr f, hK, ⟨?_, ?_, ?_, fun k hk => ?_⟩, ?_, ⟨?_, ?_, ?_⟩, ?_⟩
  · rw [f.1 0 (by decide) (by decide) (by decide) (by decide)]; exact hF.1
  · rw [f.1 13 (by decide) (by decide) (by decide) (by decide)]; exact hF.2.1
  · rw [f.2.2.1]; exact hF.2.2.1
  · rw [f.2.2.1]; exact hF.2.2.2 k hk
  · unfold CT at *; simp only [f.2.2.1, f.2.2.2]; exact hC
  · rw [f.1 12 (by decide) (by decide) (by decide) (by decide)]; exact h12
  · rw [f.1 6 (by decide) (by decide) (by decide) (by decide)]; exact h6
  · rw [f.1 5 (by decide) (by decide) (by decide) (by decide)]; exact h5
  · simp only [f.2.2.1]; exact hR
theorem cF {t : Nat → Nat} {n : Nat} {u0 : St} {g : Nat → Nat → Nat} {L : Nat → List Nat} {d : Nat} {l : List (Nat × Nat)} {i la k : Nat} (hn15 : n ≤ 1500) (hk : k ≤ i) (hi : i ≤ n) (hs : tk t n i ≠ 0 → ∀ (u : St) (Q : St → Prop), RC t n u0 g L d l i 7 la u → (∀ U, FlC n u0 (tp t n i) U → Q U) → wpT 7 u Q) {P : Int32 → St → Prop} (hP : ∀ U, FlC n u0 (tp t n i) U → P (nI (tp t n i)) U) : RunC (RC t n u0 g L d l i 7 la) k P := by
  have hte := tp_te (t := t) hi
  by_cases htk : tk t n i = 0
  · exact c_early hn15 (by decide) (by decide) hi htk hP
  · exact c_bad hn15 (by omega) (by decide) hk hi htk (hs htk) hP
theorem TgO_14 {g : Nat → Nat → Nat} {L : Nat → List Nat} {i : Nat} {e : Nat × Nat} (h : TgO g L i e) : e.1 ≤ 14 := by
  rcases h with ⟨a, _⟩ | ⟨a, _⟩ | ⟨a, _⟩ | ⟨a, _⟩ | ⟨a, _⟩ | ⟨a, _⟩ | ⟨a, _⟩ | ⟨a, _⟩ | ⟨a, _⟩ | ⟨a, _⟩ | ⟨a, _⟩ | ⟨a, _⟩ | ⟨a, _⟩ <;> omega
theorem LaO_tl {g : Nat → Nat → Nat} {L : Nat → List Nat} {d : Nat} {e : Nat × Nat} {l : List (Nat × Nat)} {la : Nat} (h : LaO g L d (e :: l) la) (he : e.1 = 1) : LaO g L d l la :=
  ⟨(Fr1_p he).mp h.1, fun p hp => h.2 p ((Fr1_p he).mpr hp)⟩
theorem GIb_of2 {n : Nat} {g : Nat → Nat → Nat} {L : Nat → List Nat} {d : Nat} {e : Nat × Nat} {l : List (Nat × Nat)} {i : Nat} {X : Prop} (h : GIv n g L d (e :: l) i ∧ X ∧ (e :: l ≠ l → BeO g L d (e :: l))) : GIb n g L d (e :: l) i := GIb_of h
theorem upL_ls {g : Nat → Nat → Nat} {L : Nat → List Nat} {e : Nat × Nat} {l : List (Nat × Nat)} {x : List Nat} {tag : Nat} (h6 : e.1 ≠ 6) (ht : tag ≠ 6) (h : ∀ y ∈ l, 2 ≤ y.1 → y.2 < e.2) : lsO g (upL L e.2 x) ((tag, e.2) :: l) = lsO g L (e :: l) := by
  rw [lsO_0 (by exact ht), lsO_0 h6, lsO_pop h]
/-- a part goes on behind its first, second .. expression -/
theorem simX0 {t : Nat → Nat} {n : Nat} {u0 v0 : St} {b : Nat} {g : Nat → Nat → Nat} {L : Nat → List Nat} {d : Nat} {e : Nat × Nat} {l : List (Nat × Nat)} {i la k : Nat} {g0 : Nat → Nat → Nat} {L0 : Nat → List Nat} {l0 : List (Nat × Nat)} {la0 : Nat} (hn15 : n ≤ 1500) (hb : b ≤ 1) (hG : GIv n g L d (e :: l) i) (hla : LaO g L d (e :: l) la) (hlv : lvT e.1 = 0) (h4 : e.1 ≠ 4) (h6 : e.1 ≠ 6) (hk : k ≤ i)
    (IHB : ∀ g' L' l' i' k', i < i' → GIb n g' L' d l' i' → k' ≤ i' → SimB t n u0 v0 b g' L' d l' i' k')
    (IHC : ∀ g' L' l' la' i' k', i < i' → GIv n g' L' d l' i' → LaO g' L' d l' la' → k' ≤ i' → SimC t n u0 v0 b g' L' d l' la' i' k')
    (hC : ∀ (u : St) (Q : St → Prop), RC t n u0 g0 L0 d l0 i 7 la0 u → (∀ U, RC t n u0 g L d (e :: l) i 7 la U → wp_X3_endExpression_35 U Q) → wpT 7 u Q) : Sim t n u0 v0 b d (RC t n u0 g0 L0 d l0 i 7 la0) k (RM t n v0 b g L d (bX (e :: l) 0) [la] (lsO g L (e :: l)) (paN (e :: l)) i) := by
  obtain ⟨hl81, hls, _, _⟩ := GI_len hG
  simp only [List.length_cons] at hl81
  have hi := hG.2.1
  have hd := hG.1
  have hte := tp_te (t := t) hi
  have hlv := lv_0 hlv
  by_cases h0 : e.1 = 0
  · -- the body
    obtain ⟨x, rfl⟩ : ∃ x, e = (0, x) := ⟨e.2, by cases e; exact congrArg (·, _) h0⟩
    have hl0 : l = [] := by
      rcases hG.2.2.2.2.2.1 with ⟨_, h⟩ | ⟨_, h | h⟩
      · exact h
      · exact absurd h (by show ¬ (0 = 1); decide)
      · exact absurd h.1 (by show ¬ (2 ≤ 0); decide)
    subst hl0
    refine Or.inr ⟨g, L, x, la, i, k, hG, hla, hk, fun P p1 p2 => ?_, fun P hP => hP⟩
    by_cases h59 : tk t n i = 59
    · obtain ⟨v1, v2, v3⟩ := tk_adv hi (show tk t n i ≠ 0 by omega)
      refine c_okX (B := fun j => BtC t n u0 (up g 2 d la) L (d + 1) j) hk hi (by omega) (fun u hu => ⟨7, by decide, hu.1, hu.2.1, hu.2.2.2.2.1.2.2.1, hu.2.2.2.2.1.2.2.2, fun Q hQ => hC u Q hu (fun U hU => c_body (l := []) hU hd (fun _ => hQ) (fun h => absurd h59 h))⟩) (fun U hU => ⟨hU.1, hU.2.1, hU.2.2.2.2.1.2.1⟩) (fun U V hU f hK => BtC_fr hU f hK) (p1 h59)
    · exact cF hn15 hk hi (fun _ u Q hu hQ => hC u Q hu (fun U hU => c_body (l := []) hU hd (fun h => absurd h h59) (fun _ => hQ))) (p2 h59)
  by_cases h1 : e.1 = 1
  · -- a parenthesis
    by_cases c : tk t n i = 41
    · obtain ⟨v1, v2, v3⟩ := tk_adv hi (show tk t n i ≠ 0 by omega)
      have h := IHC g L l la (te t n i) (k + 1) v1 (GI_mono (GI_unparen hG h1) (by omega) v2) (LaO_tl hla h1) (by omega)
      refine Sim.back h (fun P hP => c_ok (F := fun x => x = la) (by decide) hk hi (by omega) (fun u Q hu hQ => hC u Q hu (fun U hU => c_closeP hU h1 (by omega) (fun _ V hV => hQ V _ rfl hV) (fun h => absurd c h))) (toC hP)) (fun P hP => m_x1 hG h1 (fun _ V hV => ?_) (fun h => absurd c h) hP)
      rw [lsO_0 h6] at hV; exact hV
    · exact Or.inl ⟨tp t n i, by omega, fun P hP => cF hn15 hk hi (fun _ u Q hu hQ => hC u Q hu (fun U hU => c_closeP hU h1 (by omega) (fun h => absurd h c) (fun _ => hQ))) hP, fun P hP => m_x1 hG h1 (fun h => absurd h c) (fun _ V hV => hV) (m_failed hP)⟩
  have h2 : 2 ≤ e.1 := by omega
  obtain ⟨t1, t2, t3, t4, t5, t6⟩ := GI_top hG h2
  have h14 := TgO_14 t2
  have hNC : g 7 e.2 ≠ 0 → NC (g 7 e.2) ∧ g 8 e.2 ≤ 1500 := (hG.2.2.2.2.1.1 e.2 t1).2.2.1
  have hpa : paN (e :: l) = paN l := paN_0 h1
  by_cases h23 : e.1 = 2 ∨ e.1 = 3
  · by_cases c : tk t n i = e.1 + 3
    · obtain ⟨v1, v2, v3⟩ := tk_adv hi (show tk t n i ≠ 0 by omega)
      have hT : TgO g (upL L e.2 (L e.2 ++ [la])) i (e.1 + 1, e.2) := by
        rcases h23 with he | he
        · have := tgi2 t2 he; rw [he]; exact tg3 this.1 (by rw [upL_s, List.length_append, this.2]; rfl)
        · have := tgi3 t2 he; rw [he]; exact tg4 this.1 (by rw [upL_s, List.length_append, this.2]; rfl)
      have hv0 : lvT (e.1 + 1) = 0 := by rcases h23 with he | he <;> rw [he] <;> rfl
      have hG2 := GIb_of (GI_att (l' := (e.1 + 1, e.2) :: l) hG h2 hla ⟨fun _ _ _ _ => rfl, fun _ _ => ⟨rfl, rfl⟩, hNC⟩ (Or.inr ⟨e.1 + 1, rfl, by omega, hT, hv0, fun _ => t5 (by omega)⟩))
      have h := IHB _ _ _ (te t n i) (k + 1) v1 (GIb_mono hG2 (by omega) v2) (by omega)
      refine Sim.back h (fun P hP => c_ok (F := fun _ => True) (by decide) hk hi (by omega) (fun u Q hu hQ => hC u Q hu (fun U hU => c_inW hU hG hn15 (by omega) (fun _ V la' hV => hQ V la' trivial hV) (fun h => absurd c h))) (toB hP)) (fun P hP => m_x23 hG hb h23 (fun _ V hV => ?_) (fun h => absurd c h) hP)
      rw [upL_ls h6 (by omega) t3, paN_0 (show e.1 + 1 ≠ 1 by omega)]
      rw [hpa] at hV
      have hX : tB ((e.1 + 1, e.2) :: l) = (1, 0) :: (e.1 + 1, e.2) :: bX l 0 := by
        unfold tB
        rw [if_pos (by exact hv0), bX0_6 (by show 2 ≤ e.1 + 1 ∧ e.1 + 1 ≤ 6; omega)]
      rw [hX]; exact hV
    · exact Or.inl ⟨tp t n i, by omega, fun P hP => cF hn15 hk hi (fun _ u Q hu hQ => hC u Q hu (fun U hU => c_inW hU hG hn15 (by omega) (fun h => absurd h c) (fun _ => hQ))) hP, fun P hP => m_x23 hG hb h23 (fun h => absurd h c) (fun _ V hV => hV) (m_failed hP)⟩
  by_cases h5 : e.1 = 5
  · by_cases c : tk t n i = 8
    · obtain ⟨v1, v2, v3⟩ := tk_adv hi (show tk t n i ≠ 0 by omega)
      have ht := tgi5 t2 h5
      have hL0 : L e.2 = [] := List.length_eq_zero_iff.mp ht.2.1
      have hT : TgO g (upL L e.2 (L e.2 ++ [la])) i (6, e.2) := tg6 ht.1 (by rw [upL_s, List.length_append, ht.2.1]; rfl) ht.2.2
      have hG2 := GIb_of (GI_att (l' := (6, e.2) :: l) hG h2 hla ⟨fun _ _ _ _ => rfl, fun _ _ => ⟨rfl, rfl⟩, hNC⟩ (Or.inr ⟨6, rfl, by omega, hT, rfl, fun _ => t5 (by omega)⟩))
      have h := IHB _ _ _ (te t n i) (k + 1) v1 (GIb_mono hG2 (by omega) v2) (by omega)
      refine Sim.back h (fun P hP => c_ok (F := fun _ => True) (by decide) hk hi (by omega) (fun u Q hu hQ => hC u Q hu (fun U hU => c_inW hU hG hn15 (by omega) (fun _ V la' hV => hQ V la' trivial (by rw [h5] at hV; exact hV)) (fun h => absurd (by omega) h))) (toB hP)) (fun P hP => m_x5 hG hb hls h5 (fun _ V hV => ?_) (fun h => absurd c h) hP)
      have hlsE : lsO g (upL L e.2 (L e.2 ++ [la])) ((6, e.2) :: l) = (g 7 e.2, la) :: lsO g L (e :: l) := by
        simp only [lsO]; rw [if_pos trivial, if_neg h6, lsO_pop t3, upL_s, hL0]; rfl
      rw [hlsE, paN_0 (show (6 : Nat) ≠ 1 by decide)]
      rw [hpa] at hV
      exact hV
    · exact Or.inl ⟨tp t n i, by omega, fun P hP => cF hn15 hk hi (fun _ u Q hu hQ => hC u Q hu (fun U hU => c_inW hU hG hn15 (by omega) (fun h => by omega) (fun _ => hQ))) hP, fun P hP => m_x5 hG hb hls h5 (fun h => absurd h c) (fun _ V hV => hV) (m_failed hP)⟩
  by_cases h10 : e.1 = 10
  · by_cases c : tk t n i = 93
    · obtain ⟨v1, v2, v3⟩ := tk_adv hi (show tk t n i ≠ 0 by omega)
      obtain ⟨q1, q2⟩ := pop_one hG hla (by omega)
      have h := IHC _ _ _ _ (te t n i) (k + 1) v1 (GI_mono q1 (by omega) v2) q2 (by omega)
      refine Sim.back h (fun P hP => c_ok (F := fun x => x = e.2) (by decide) hk hi (by omega) (fun u Q hu hQ => hC u Q hu (fun U hU => c_in10 hU hG hn15 h10 (fun _ V hV => hQ V _ rfl hV) (fun h => absurd c h))) (toC hP)) (fun P hP => m_x10 hG hb h10 (fun _ V hV => ?_) (fun h => absurd c h) hP)
      rw [lsO_0 h6, hpa] at hV; rw [lsO_pop t3]; exact hV
    · exact Or.inl ⟨tp t n i, by omega, fun P hP => cF hn15 hk hi (fun _ u Q hu hQ => hC u Q hu (fun U hU => c_in10 hU hG hn15 h10 (fun h => absurd h c) (fun _ => hQ))) hP, fun P hP => m_x10 hG hb h10 (fun h => absurd h c) (fun _ V hV => hV) (m_failed hP)⟩
  by_cases h79 : e.1 = 7 ∨ e.1 = 9
  · by_cases c : tk t n i = 41
    · obtain ⟨v1, v2, v3⟩ := tk_adv hi (show tk t n i ≠ 0 by omega)
      obtain ⟨q1, q2⟩ := pop_one hG hla (by omega)
      have h := IHC _ _ _ _ (te t n i) (k + 1) v1 (GI_mono q1 (by omega) v2) q2 (by omega)
      refine Sim.back h (fun P hP => c_ok (F := fun x => x = e.2) (by decide) hk hi (by omega) (fun u Q hu hQ => hC u Q hu (fun U hU => c_inA hU hG hn15 h79 (fun _ V hV => hQ V _ rfl hV) (fun h => by omega) (fun h => absurd c h))) (toC hP)) (fun P hP => m_x79 hG hla hb h79 (fun h => by omega) (fun _ V hV => ?_) (fun _ h => absurd c h) hP)
      rw [lsO_0 h6, hpa] at hV; rw [lsO_pop t3]; exact hV
    · by_cases c2 : tk t n i = 44
      · obtain ⟨v1, v2, v3⟩ := tk_adv hi (show tk t n i ≠ 0 by omega)
        have hG1 := GI_mono hG (show i ≤ te t n i by omega) v2
        have hv0 : lvT e.1 = 0 := by rcases h79 with he | he <;> rw [he] <;> rfl
        have hT : TgO g (upL L e.2 (L e.2 ++ [la])) (te t n i) (e.1, e.2) := by
          rcases h79 with he | he
          · have := tgi7 t2 he; rw [he]; exact tg7 this.1 this.2.1 (by rw [upL_s, List.length_append]; show _ + 1 ≤ _; omega)
          · have := tgi9 t2 he; rw [he]; exact tg9 this.1 (by rw [upL_s, List.length_append]; show 1 ≤ _ + 1; omega) this.2.2.1 (by rw [upL_s, List.length_append]; show _ + 1 ≤ _; omega)
        have hG2 := GIb_of (GI_att (l' := (e.1, e.2) :: l) hG1 h2 hla ⟨fun _ _ _ _ => rfl, fun _ _ => ⟨rfl, rfl⟩, hNC⟩ (Or.inr ⟨e.1, rfl, h2, hT, hv0, fun h => t5 h⟩))
        have h := IHB _ _ _ (te t n i) (k + 1) v1 hG2 (by omega)
        refine Sim.back h (fun P hP => c_ok (F := fun _ => True) (by decide) hk hi (by omega) (fun u Q hu hQ => hC u Q hu (fun U hU => c_inA hU hG hn15 h79 (fun h => absurd h c) (fun _ V la' hV => hQ V la' trivial hV) (fun _ h => absurd c2 h))) (toB hP)) (fun P hP => m_x79 hG hla hb h79 (fun _ V hV => ?_) (fun h => absurd h c) (fun h => absurd c2 h) hP)
        rw [upL_ls h6 h6 t3]
        have hX : tB ((e.1, e.2) :: l) = (1, 0) :: bX (e :: l) 0 := by unfold tB; rw [if_pos (by exact hv0)]
        rw [hX]; exact hV
      · exact Or.inl ⟨tp t n i, by omega, fun P hP => cF hn15 hk hi (fun _ u Q hu hQ => hC u Q hu (fun U hU => c_inA hU hG hn15 h79 (fun h => absurd h c) (fun h => absurd h c2) (fun _ _ => hQ))) hP, fun P hP => m_x79 hG hla hb h79 (fun h => absurd h c2) (fun h => absurd h c) (fun _ _ V hV => hV) (m_failed hP)⟩
  have h8 : e.1 = 8 := by omega
  have ht := tgi8 t2 h8
  by_cases c : tk t n i = 44
  · obtain ⟨v1, v2, v3⟩ := tk_adv hi (show tk t n i ≠ 0 by omega)
    have hte1 := tp_te (t := t) v2
    have go1 : ∀ {P : Int32 → St → Prop}, RunC (fun u => ∃ la', True ∧ RC t n u0 g (upL L e.2 (L e.2 ++ [la])) d (e :: l) (te t n i) 11 la' u) (k + 1) P → RunC (RC t n u0 g0 L0 d l0 i 7 la0) k P := fun hP =>
      c_ok (F := fun _ => True) (by decide) hk hi (by omega) (fun u Q hu hQ => hC u Q hu (fun U hU => c_in8 hU hG hn15 h8 (fun _ V la' hV => hQ V la' trivial hV) (fun h => absurd c h))) hP
    have w11 : ∀ {u : St} {la' : Nat} {Q : St → Prop}, RC t n u0 g (upL L e.2 (L e.2 ++ [la])) d (e :: l) (te t n i) 11 la' u → wp_X3_keepName u (nI e.2) (fun U => wp_X3_expect U 2 12 Q) → wpT 11 u Q := fun hu hq => by
      have q5 := hu.2.2.2.2.1.2.2.2
      refine br_n (by rw [q5]; decide) (br_n (by rw [q5]; decide) (br_n (by rw [q5]; decide) (br_p (by rw [q5]; rfl) (c_inner hu (by omega) ?_))))
      rw [cdE_2 h2]; exact hq
    by_cases c1 : tk t n (te t n i) = 2
    · obtain ⟨w1, w2, w3⟩ := tk_adv v2 (show tk t n (te t n i) ≠ 0 by omega)
      have hte2 := tp_te (t := t) w2
      have hN := nmT_NC v2 (Or.inl c1)
      have n5 : ∀ {f j : Nat}, f ≠ 7 → f ≠ 8 → up (up g 7 e.2 (nmT t n (te t n i))) 8 e.2 (tp t n (te t n i)) f j = g f j := fun a c => by rw [up_f c, up_f a]
      have hgc : (∀ f j, f ≠ 7 → f ≠ 8 → up (up g 7 e.2 (nmT t n (te t n i))) 8 e.2 (tp t n (te t n i)) f j = g f j) ∧ (∀ j, j ≠ e.2 → up (up g 7 e.2 (nmT t n (te t n i))) 8 e.2 (tp t n (te t n i)) 7 j = g 7 j ∧ up (up g 7 e.2 (nmT t n (te t n i))) 8 e.2 (tp t n (te t n i)) 8 j = g 8 j) ∧ (up (up g 7 e.2 (nmT t n (te t n i))) 8 e.2 (tp t n (te t n i)) 7 e.2 ≠ 0 → NC (up (up g 7 e.2 (nmT t n (te t n i))) 8 e.2 (tp t n (te t n i)) 7 e.2) ∧ up (up g 7 e.2 (nmT t n (te t n i))) 8 e.2 (tp t n (te t n i)) 8 e.2 ≤ 1500) :=
        ⟨fun f j a c => n5 a c, fun j hj => ⟨by rw [up_f (by decide), up_i, if_neg hj], by rw [up_i, if_neg hj, up_f (by decide)]⟩, fun _ => ⟨by rw [nm_7]; exact hN.1, by rw [up_i, if_pos rfl]; omega⟩⟩
      have hlen1 : (upL L e.2 (L e.2 ++ [la]) e.2).length = 1 := by rw [upL_s, List.length_append, ht.2.1]; rfl
      have hlg : ∀ {l' : List (Nat × Nat)}, (∀ y ∈ l', 2 ≤ y.1 → y.2 < e.2) → lsO (up (up g 7 e.2 (nmT t n (te t n i))) 8 e.2 (tp t n (te t n i))) (upL L e.2 (L e.2 ++ [la])) l' = lsO g L l' := fun {l'} hl' =>
        lsO_cg (fun y hy y6 => by
          have := hl' y hy (by omega)
          exact ⟨by rw [up_f (by decide), up_i, if_neg (by omega)], by rw [upL_i, if_neg (by omega)]⟩)
      have go2 : ∀ {P : Int32 → St → Prop}, RunC (fun u => ∃ la', True ∧ RC t n u0 (up (up g 7 e.2 (nmT t n (te t n i))) 8 e.2 (tp t n (te t n i))) (upL L e.2 (L e.2 ++ [la])) d (e :: l) (te t n (te t n i)) 12 la' u) (k + 2) P → RunC (RC t n u0 g0 L0 d l0 i 7 la0) k P := fun hP =>
        go1 (c_okG (F := fun _ => True) (by omega) v2 (by omega) (fun u ⟨la', _, hu⟩ => ⟨11, la', by decide, hu, fun Q hQ => w11 hu (c_keep hu hd t1 (Or.inl c1) rfl (fun U hU => c_expect hU rfl rfl (by decide) (by decide) (fun _ V la' hV => hQ V la' trivial hV) (fun h => absurd c1 h)))⟩) hP)
      have w12 : ∀ {u : St} {la' : Nat} {Q : St → Prop}, RC t n u0 (up (up g 7 e.2 (nmT t n (te t n i))) 8 e.2 (tp t n (te t n i))) (upL L e.2 (L e.2 ++ [la])) d (e :: l) (te t n (te t n i)) 12 la' u → br (gI u 9 = 41) (wp_X3_end u Q) (wp_X3_expect u 44 6 Q) → wpT 12 u Q := fun hu hq => by
        have q5 := hu.2.2.2.2.1.2.2.2
        exact br_n (by rw [q5]; decide) (br_n (by rw [q5]; decide) (br_n (by rw [q5]; decide) (br_n (by rw [q5]; decide) (br_p (by rw [q5]; rfl) hq))))
      by_cases c41 : tk t n (te t n (te t n i)) = 41
      · obtain ⟨x1, x2, x3⟩ := tk_adv w2 (show tk t n (te t n (te t n i)) ≠ 0 by omega)
        have hcp : Cp (up (up g 7 e.2 (nmT t n (te t n i))) 8 e.2 (tp t n (te t n i))) (upL L e.2 (L e.2 ++ [la])) e.2 := by
          unfold Cp; rw [nm_7, n5 (by decide) (by decide), hlen1]
          exact Or.inr (Or.inr (Or.inr (Or.inr (Or.inr (Or.inr (Or.inr (Or.inl ⟨ht.1, by decide, hN.2⟩)))))))
        obtain ⟨q1, q2, _⟩ := GI_att (l' := l) hG h2 hla hgc (Or.inl ⟨rfl, hcp⟩)
        have h := IHC _ _ _ _ (te t n (te t n (te t n i))) (k + 3) (by omega) (GI_mono q1 (by omega) x2) (q2 rfl) (by omega)
        refine Sim.back h (fun P hP => go2 (c_okG (F := fun x => x = e.2) (by omega) w2 (by omega) (fun u ⟨la', _, hu⟩ => ⟨12, la', by decide, hu, fun Q hQ => w12 hu (br_p ((tk9 hu.2.1 (c := 41) (by decide)).mpr c41) (c_end hu h2 (by omega) (fun U hU => hQ U _ rfl hU)))⟩) (toC hP))) (fun P hP => m_x8 hG hb h8 rfl rfl (fun h => absurd c h) (fun _ h => absurd c1 h) (fun _ _ h => by omega) (fun _ _ _ V hV => ?_) (fun _ _ _ h => absurd c41 h) hP)
        rw [lsO_0 h6, hpa] at hV
        rw [hlg t3]; exact hV
      · by_cases c44 : tk t n (te t n (te t n i)) = 44
        · obtain ⟨x1, x2, x3⟩ := tk_adv w2 (show tk t n (te t n (te t n i)) ≠ 0 by omega)
          have hG1 := GI_mono hG (show i ≤ te t n (te t n (te t n i)) by omega) x2
          have hT : TgO (up (up g 7 e.2 (nmT t n (te t n i))) 8 e.2 (tp t n (te t n i))) (upL L e.2 (L e.2 ++ [la])) (te t n (te t n (te t n i))) (9, e.2) := tg9 (by rw [n5 (by decide) (by decide)]; exact ht.1) (by rw [hlen1]; decide) (by rw [nm_7]; exact hN.2) (by rw [hlen1]; omega)
          have hG2 := GIb_of (GI_att (l' := (9, e.2) :: l) hG1 h2 hla hgc (Or.inr ⟨9, rfl, by decide, hT, rfl, fun h => absurd h (by decide)⟩))
          have h := IHB _ _ _ (te t n (te t n (te t n i))) (k + 3) (by omega) hG2 (by omega)
          refine Sim.back h (fun P hP => go2 (c_okG (F := fun _ => True) (by omega) w2 (by omega) (fun u ⟨la', _, hu⟩ => ⟨12, la', by decide, hu, fun Q hQ => w12 hu (br_n (fun h => c41 ((tk9 hu.2.1 (c := 41) (by decide)).mp h)) (c_expect hu rfl rfl (by decide) (by decide) (fun _ U la' hU => hQ U la' trivial (RC_tag hU h2 (by decide))) (fun h => absurd c44 h)))⟩) (toB hP))) (fun P hP => m_x8 hG hb h8 rfl rfl (fun h => absurd c h) (fun _ h => absurd c1 h) (fun _ _ _ V hV => ?_) (fun _ _ h => absurd h c41) (fun _ _ h => absurd c44 h) hP)
          rw [lsO_0 h6, hpa] at hV
          rw [lsO_0 (show (9 : Nat) ≠ 6 by decide), hlg t3, paN_0 (show (9 : Nat) ≠ 1 by decide)]; exact hV
        · refine Or.inl ⟨tp t n (te t n (te t n i)), by omega, fun P hP => go2 ?_, fun P hP => m_x8 hG hb h8 rfl rfl (fun h => absurd c h) (fun _ h => absurd c1 h) (fun _ _ h => absurd h c44) (fun _ _ h => absurd h c41) (fun _ _ _ _ V hV => hV) (m_failed hP)⟩
          by_cases hz : tk t n (te t n (te t n i)) = 0
          · exact c_earlyG hn15 w2 hz (fun u ⟨la', _, hu⟩ => ⟨12, la', by decide, by decide, hu⟩) hP
          · exact c_badG hn15 (by omega) (by omega) w2 hz (fun u ⟨la', _, hu⟩ => ⟨12, la', by decide, hu, fun Q hQ => w12 hu (br_n (fun h => c41 ((tk9 hu.2.1 (c := 41) (by decide)).mp h)) (c_expect hu rfl rfl (by decide) (by decide) (fun h => absurd h c44) (fun _ => hQ)))⟩) hP
    · refine Or.inl ⟨tp t n (te t n i), by omega, fun P hP => go1 ?_, fun P hP => m_x8 hG hb h8 rfl rfl (fun h => absurd c h) (fun _ _ V hV => hV) (fun _ h => absurd h c1) (fun _ h => absurd h c1) (fun _ h => absurd h c1) (m_failed hP)⟩
      by_cases hz : tk t n (te t n i) = 0
      · exact c_earlyG hn15 v2 hz (fun u ⟨la', _, hu⟩ => ⟨11, la', by decide, by decide, hu⟩) hP
      · exact c_badG hn15 (by omega) (by omega) v2 hz (fun u ⟨la', _, hu⟩ => ⟨11, la', by decide, hu, fun Q hQ => w11 hu (c_keepX hu (dm_lt t1 (by omega)) c1 rfl hQ)⟩) hP
  · exact Or.inl ⟨tp t n i, by omega, fun P hP => cF hn15 hk hi (fun _ u Q hu hQ => hC u Q hu (fun U hU => c_in8 hU hG hn15 h8 (fun h => absurd h c) (fun _ => hQ))) hP, fun P hP => m_x8 hG hb h8 rfl rfl (fun _ V hV => hV) (fun h => absurd h c) (fun h => absurd h c) (fun h => absurd h c) (fun h => absurd h c) (m_failed hP)⟩
