/-! 74.stepC: a continuation, both together; whole expressions -/
theorem simXF {t : Nat → Nat} {n : Nat} {u0 v0 : St} {b : Nat} {g : Nat → Nat → Nat} {L : Nat → List Nat} {d : Nat} {e : Nat × Nat} {l : List (Nat × Nat)} {i la k : Nat} {C : St → Prop} (hb : b ≤ 1) (hG : GIv n g L d (e :: l) i) (hla : LaO g L d (e :: l) la) (hlv : lvT e.1 = 0) (h4 : e.1 ≠ 4) (h6 : e.1 ≠ 6) (hk : k ≤ i) (hs : lvS (tk t n i) = 1) (hC : ∀ P : Int32 → St → Prop, (∀ U, FlC n u0 (tp t n i) U → P (nI (tp t n i)) U) → RunC C k P) : Sim t n u0 v0 b d C k (RM t n v0 b g L d (bX (e :: l) 0) [la] (lsO g L (e :: l)) (paN (e :: l)) i) := by
  obtain ⟨hl81, hls, _, _⟩ := GI_len hG
  have hi := hG.2.1
  have hte := tp_te (t := t) hi
  have hlv := lv_0 hlv
  have hs := (lvS_v (tk t n i)).1.mp hs
  by_cases h0 : e.1 = 0
  · obtain ⟨x, rfl⟩ : ∃ x, e = (0, x) := ⟨e.2, by cases e; exact congrArg (·, _) h0⟩
    have hl0 : l = [] := by
      rcases hG.2.2.2.2.2.1 with ⟨_, h⟩ | ⟨_, h | h⟩
      · exact h
      · exact absurd h (by show ¬ (0 = 1); decide)
      · exact absurd h.1 (by show ¬ (2 ≤ 0); decide)
    subst hl0
    exact Or.inr ⟨g, L, x, la, i, k, hG, hla, hk, fun P p1 p2 => hC P (p2 (by omega)), fun P hP => hP⟩
  refine Or.inl ⟨tp t n i, by omega, hC, fun P hP => ?_⟩
  by_cases h1 : e.1 = 1
  · exact m_x1 hG h1 (fun h => by omega) (fun _ V hV => hV) (m_failed hP)
  obtain ⟨t1, t2, t3, t4, t5, t6⟩ := GI_top hG (show 2 ≤ e.1 by omega)
  have h14 := TgO_14 t2
  by_cases h23 : e.1 = 2 ∨ e.1 = 3
  · exact m_x23 hG hb h23 (fun h => by omega) (fun _ V hV => hV) (m_failed hP)
  by_cases h5 : e.1 = 5
  · exact m_x5 hG hb hls h5 (fun h => by omega) (fun _ V hV => hV) (m_failed hP)
  by_cases h10 : e.1 = 10
  · exact m_x10 hG hb h10 (fun h => by omega) (fun _ V hV => hV) (m_failed hP)
  by_cases h79 : e.1 = 7 ∨ e.1 = 9
  · exact m_x79 hG hla hb h79 (fun h => by omega) (fun h => by omega) (fun _ _ V hV => hV) (m_failed hP)
  have h8 : e.1 = 8 := by omega
  exact m_x8 hG hb h8 rfl rfl (fun _ V hV => hV) (fun h => by omega) (fun h => by omega) (fun h => by omega) (fun h => by omega) (m_failed hP)
theorem simBehind {t : Nat → Nat} {n : Nat} {u0 v0 : St} {b : Nat} {g : Nat → Nat → Nat} {L : Nat → List Nat} {d : Nat} {l : List (Nat × Nat)} {i j k la : Nat} {kd tag : Nat} {C M : St → Prop} (hG : GIv n g L d l i) (hla : LaO g L d l la) (hn : g 1 d < 60) (h2 : kd ≠ 2) (h3 : kd ≠ 3) (ht : 10 ≤ tag) (hT : TgO (addP g d kd 0) (upL L (60 * d + g 1 d) [la]) i (tag, 60 * d + g 1 d)) (hv : 1 ≤ lvT tag → lvT tag ≤ 3 → lvT (hdT l) < lvT tag) (hij : i ≤ j) (hj : j ≤ n)
    (IHB : GIb n (addP g d kd 0) (upL L (60 * d + g 1 d) [la]) d ((tag, 60 * d + g 1 d) :: l) j → SimB t n u0 v0 b (addP g d kd 0) (upL L (60 * d + g 1 d) [la]) d ((tag, 60 * d + g 1 d) :: l) j k) {k0 : Nat}
    (hC : ∀ P, RunC (BC t n u0 (addP g d kd 0) (upL L (60 * d + g 1 d) [la]) d ((tag, 60 * d + g 1 d) :: l) j) k P → RunC C k0 P) (hM : ∀ P, RunM (RM t n v0 b (addP g d kd 0) (upL L (60 * d + g 1 d) [la]) d (tB ((tag, 60 * d + g 1 d) :: l)) [] (lsO g L l) (paN l) j) P → RunM M P) : Sim t n u0 v0 b d C k0 M := by
  have hG2 := GIb_of (GI_ext (l' := (tag, 60 * d + g 1 d) :: l) hG hn (Ext_add g L d kd 0 [la]) (Or.inr ⟨la, upL_s, hla⟩) (fun e => absurd addP_7n e) (fun e => absurd (addP_5n.symm.trans e) h2) (fun e => absurd (addP_5n.symm.trans e) h3) (Or.inr ⟨tag, rfl, by omega, hT, hv, fun h => by omega, by omega⟩))
  have h := IHB (GIb_mono hG2 hij hj)
  refine Sim.back h hC ?_
  rw [lsO_0 (by show tag ≠ 6; omega), lsO_ext (Ext_add g L d kd 0 [la]) hn hG.2.2.2.2.2.1, paN_0 (show tag ≠ 1 by omega)]
  exact hM
/-- all signs and all last expressions end -/
theorem simEnd {t : Nat → Nat} {n : Nat} {u0 v0 : St} {b : Nat} {g : Nat → Nat → Nat} {L : Nat → List Nat} {d : Nat} {l : List (Nat × Nat)} {i la k : Nat} (hb : b ≤ 1) (hG : GIv n g L d l i) (hla : LaO g L d l la) (h91 : tk t n i ≠ 91) (h3 : lvS (tk t n i) ≠ 3) (h2 : lvS (tk t n i) ≠ 2) (h1 : lvS (tk t n i) = 1 → hdT (popS 2 l L la).1 = 11)
    (hs : ∀ (L1 : Nat → List Nat) (l1 : List (Nat × Nat)) (la1 : Nat) (L2 : Nat → List Nat) (e : Nat × Nat) (l2 : List (Nat × Nat)) (la2 : Nat), popS 1 l L la = (l1, L1, la1) → popE l1 L1 la1 = (e :: l2, L2, la2) → GIv n g L1 d l1 i → LaO g L1 d l1 la1 → GIv n g L2 d (e :: l2) i → LaO g L2 d (e :: l2) la2 → lvT e.1 = 0 → e.1 ≠ 4 → e.1 ≠ 6 → Sim t n u0 v0 b d (RC t n u0 g L d l i 7 la) k (RM t n v0 b g L2 d (bX (e :: l2) 0) [la2] (lsO g L2 (e :: l2)) (paN (e :: l2)) i)) : SimC t n u0 v0 b g L d l la i k := by
  obtain ⟨r1, r2, r3, r4, r5⟩ := popS_GI (fl := 1) (by decide) l L la hG hla
  obtain ⟨s1, s2, s3, s4, s5, s6⟩ := popE_GI _ _ _ r1 r2 (by omega)
  have to0 := fun (P : St → Prop) (hr : RunM (RM t n v0 b g (popS 1 l L la).2.1 d (bX (popS 1 l L la).1 0) [(popS 1 l L la).2.2] (lsO g L l) (paN l) i) P) => m_to0 (v0 := v0) hG hla hb h91 h3 h2 h1 hr
  rw [← r5, ← r4] at to0
  have hX0 := fun (P : St → Prop) => mX0 (t := t) (v0 := v0) (bk := paN (popS 1 l L la).1) (P := P) hb _ _ _ r1 r2 (by omega)
  generalize hq : popS 1 l L la = q at *
  obtain ⟨l1, L1, la1⟩ := q
  generalize hq2 : popE l1 L1 la1 = q2 at *
  obtain ⟨l2, L2, la2⟩ := q2
  cases l2 with
  | nil => exact absurd rfl (StO_ne s1.2.2.2.2.2.1)
  | cons e l2 =>
    have h := hs L1 l1 la1 L2 e l2 la2 rfl hq2 r1 r2 s1 s2 s3 s4 s5
    unfold SimC
    refine Sim.back h (fun P hP => hP) (fun P hP => ?_)
    have s6 : paN (e :: l2) = paN l1 := s6
    rw [s6] at hP
    have := to0 P (hX0 P hP)
    have r5 : lsO g L1 l1 = lsO g L l := r5
    have r4 : paN l1 = paN l := r4
    have this : RunM (RM t n v0 b g L d ((18, 0) :: bX l 3) [la] (lsO g L1 l1) (paN l1) i) P := this
    rw [r5, r4] at this; exact this
theorem stepC {t : Nat → Nat} {n : Nat} {u0 v0 : St} {b : Nat} {g : Nat → Nat → Nat} {L : Nat → List Nat} {d : Nat} {l : List (Nat × Nat)} {i la k : Nat} (hn15 : n ≤ 1500) (hb : b ≤ 1) (hG : GIv n g L d l i) (hla : LaO g L d l la) (hk : k ≤ i)
    (IHB : ∀ g' L' l' i' k', i < i' → GIb n g' L' d l' i' → k' ≤ i' → SimB t n u0 v0 b g' L' d l' i' k')
    (IHC : ∀ g' L' l' la' i' k', i < i' → GIv n g' L' d l' i' → LaO g' L' d l' la' → k' ≤ i' → SimC t n u0 v0 b g' L' d l' la' i' k') : SimC t n u0 v0 b g L d l la i k := by
  obtain ⟨hl81, hls, hl1, _⟩ := GI_len hG
  have hi := hG.2.1
  have hd := hG.1
  have hte := tp_te (t := t) hi
  have hnp := (hG.2.2.1 d (Nat.le_refl _)).2.1
  by_cases h91 : tk t n i = 91
  · have hl0 : lvS (tk t n i) = 0 := by rw [h91]; rfl
    by_cases hn : g 1 d < 60
    · obtain ⟨v1, v2, v3⟩ := tk_adv hi (show tk t n i ≠ 0 by omega)
      refine simBehind (k := k + 1) (j := te t n i) (kd := 9) (tag := 10) hG hla hn (by decide) (by decide) (by decide) (tg10 addP_5n (by rw [upL_s]; rfl)) (fun h => absurd h (by decide)) (by omega) v2 (fun h => IHB _ _ _ _ _ v1 h (by omega)) (fun P hP => c_ok (F := fun _ => True) (by decide) hk hi (by omega) (fun u Q hu hQ => ?_) (toB hP)) (fun P hP => m_post hG hb h91 hn hP)
      refine c_cont hu (fun _ => c_isFull hu hd hnp ?_) (fun h => absurd hl0 h) (fun h => absurd h91 h)
      rw [decide_eq_false (show ¬ 60 ≤ g 1 d by omega)]
      exact br_p rfl (c_behind hu hd hn 10 (by decide) rfl (hl1 hn) (fun U la' hU => hQ U la' trivial hU))
    · have hn : g 1 d = 60 := by omega
      refine Or.inl ⟨tp t n i, by omega, fun P hP => cF hn15 hk hi (fun _ u Q hu hQ => ?_) hP, fun P hP => m_postF hG h91 hn hP⟩
      refine c_cont hu (fun _ => c_isFull hu hd hnp ?_) (fun h => absurd hl0 h) (fun h => absurd h91 h)
      rw [decide_eq_true (show 60 ≤ g 1 d by omega)]
      exact br_n (by decide) (c_fail hu hQ)
  have hv := lvS_v (tk t n i)
  by_cases h3 : lvS (tk t n i) = 3
  · obtain ⟨r1, r2, r3, r4, r5⟩ := popS_GI (fl := 3) (by decide) l L la hG hla
    have hs10 := lvS_10 (show lvS (tk t n i) ≠ 0 by omega)
    have b2 := bX_len (popS 3 l L la).1 2
    have hl3 := (GI_len r1).1
    by_cases hn : g 1 d < 60
    · obtain ⟨v1, v2, v3⟩ := tk_adv hi (show tk t n i ≠ 0 by omega)
      refine simBehind (k := k + 1) (j := te t n i) (kd := tk t n i) (tag := 13) r1 r2 hn (by omega) (by omega) (by decide) (tg13 (by rw [addP_5n]; exact hv.2.2.1.mp h3) (by rw [upL_s]; rfl)) (fun _ _ => r3) (by omega) v2 (fun h => IHB _ _ _ _ _ v1 h (by omega)) (fun P hP => c_ok (F := fun _ => True) (by decide) hk hi (by omega) (fun u Q hu hQ => ?_) (toB hP)) (fun P hP => ?_)
      · exact c_cont hu (fun h => absurd h h91) (fun _ => c_sign hu hG hla hn15 (lv := 3) (fl := 3) (by omega) (by rw [h3]) (fun _ _ U la' hU => hQ U la' trivial hU) (fun h => by omega)) (fun _ h => by omega)
      · refine m_to3 hG hla hb h91 (m_T (by omega) hi (fun _ v K hv k => m_oper (vs := []) hv hb hd hi hn (GI_kids r1) hs10 (by omega) (w1 := 14) (w2 := 15) rfl rfl rfl k) (fun h => absurd h3 h) ?_)
        rw [r5, r4] at hP; exact hP
    · have hn : g 1 d = 60 := by omega
      refine Or.inl ⟨tp t n i, by omega, fun P hP => cF hn15 hk hi (fun _ u Q hu hQ => ?_) hP, fun P hP => ?_⟩
      · exact c_cont hu (fun h => absurd h h91) (fun _ => c_sign hu hG hla hn15 (lv := 3) (fl := 3) (by omega) (by rw [h3]) (fun h => by omega) (fun _ => hQ)) (fun _ h => by omega)
      · exact m_to3 hG hla hb h91 (m_T (by omega) hi (fun _ v K hv k => m_operF (vs := []) hv hn hs10 (by omega) k) (fun h => absurd h3 h) (m_failed hP))
  obtain ⟨r1, r2, r3, r4, r5⟩ := popS_GI (fl := 2) (by decide) l L la hG hla
  have b1 := bX_len (popS 2 l L la).1 1
  have b0 := bX_len (popS 2 l L la).1 0
  have hl3 := (GI_len r1).1
  by_cases h2 : lvS (tk t n i) = 2
  · have hs10 := lvS_10 (show lvS (tk t n i) ≠ 0 by omega)
    by_cases hn : g 1 d < 60
    · obtain ⟨v1, v2, v3⟩ := tk_adv hi (show tk t n i ≠ 0 by omega)
      refine simBehind (k := k + 1) (j := te t n i) (kd := tk t n i) (tag := 12) r1 r2 hn (by omega) (by omega) (by decide) (tg12 (by rw [addP_5n]; exact hv.2.1.mp h2) (by rw [upL_s]; rfl)) (fun _ _ => r3) (by omega) v2 (fun h => IHB _ _ _ _ _ v1 h (by omega)) (fun P hP => c_ok (F := fun _ => True) (by decide) hk hi (by omega) (fun u Q hu hQ => ?_) (toB hP)) (fun P hP => ?_)
      · exact c_cont hu (fun h => absurd h h91) (fun _ => c_sign hu hG hla hn15 (lv := 2) (fl := 2) (by omega) (by rw [h2]) (fun _ _ U la' hU => hQ U la' trivial hU) (fun h => by omega)) (fun _ h => by omega)
      · refine m_to2 hG hla hb h91 h3 (m_S (by omega) hi (fun _ v K hv k => m_oper (vs := []) hv hb hd hi hn (GI_kids r1) hs10 (by omega) (w1 := 11) (w2 := 12) rfl rfl rfl k) (fun h => absurd h2 h) ?_)
        rw [r5, r4] at hP; exact hP
    · have hn : g 1 d = 60 := by omega
      refine Or.inl ⟨tp t n i, by omega, fun P hP => cF hn15 hk hi (fun _ u Q hu hQ => ?_) hP, fun P hP => ?_⟩
      · exact c_cont hu (fun h => absurd h h91) (fun _ => c_sign hu hG hla hn15 (lv := 2) (fl := 2) (by omega) (by rw [h2]) (fun h => by omega) (fun _ => hQ)) (fun _ h => by omega)
      · exact m_to2 hG hla hb h91 h3 (m_S (by omega) hi (fun _ v K hv k => m_operF (vs := []) hv hn hs10 (by omega) k) (fun h => absurd h2 h) (m_failed hP))
  by_cases h1 : lvS (tk t n i) = 1
  · have hs10 := lvS_10 (show lvS (tk t n i) ≠ 0 by omega)
    by_cases h11 : hdT (popS 2 l L la).1 = 11
    · refine simEnd hb hG hla h91 h3 h2 (fun _ => h11) (fun L1 l1 la1 L2 e l2 la2 _ _ _ _ s1 s2 s3 s4 s5 => simXF hb s1 s2 s3 s4 s5 hk h1 (fun P hP => cF hn15 hk hi (fun _ u Q hu hQ => ?_) hP))
      exact c_cont hu (fun h => absurd h h91) (fun _ => c_sign hu hG hla hn15 (lv := 1) (fl := 2) (by omega) (by rw [h1]) (fun _ h => absurd h11 (h rfl)) (fun _ => hQ)) (fun _ h => by omega)
    · have hv0 : lvT (hdT (popS 2 l L la).1) = 0 := by
        rcases (show lvT (hdT (popS 2 l L la).1) = 0 ∨ lvT (hdT (popS 2 l L la).1) = 1 by omega) with h | h
        · exact h
        · exact absurd ((lvT_v _).2.1.mp h) h11
      by_cases hn : g 1 d < 60
      · obtain ⟨v1, v2, v3⟩ := tk_adv hi (show tk t n i ≠ 0 by omega)
        refine simBehind (k := k + 1) (j := te t n i) (kd := tk t n i) (tag := 11) r1 r2 hn (by omega) (by omega) (by decide) (tg11 (by rw [addP_5n]; exact hv.1.mp h1) (by rw [upL_s]; rfl)) (fun _ _ => by rw [hv0]; decide) (by omega) v2 (fun h => IHB _ _ _ _ _ v1 h (by omega)) (fun P hP => c_ok (F := fun _ => True) (by decide) hk hi (by omega) (fun u Q hu hQ => ?_) (toB hP)) (fun P hP => ?_)
        · exact c_cont hu (fun h => absurd h h91) (fun _ => c_sign hu hG hla hn15 (lv := 1) (fl := 2) (by omega) (by rw [h1]) (fun _ _ U la' hU => hQ U la' trivial hU) (fun h => by omega)) (fun _ h => by omega)
        · refine m_to1 hG hla hb h91 h3 h2 ?_
          rw [bX_1 (StO_ne r1.2.2.2.2.2.1) h11]
          refine m_C (by omega) hi (fun _ v K hv k => m_oper (vs := []) hv hb hd hi hn (GI_kids r1) hs10 (by omega) (w1 := 8) (w2 := 9) rfl rfl rfl k) (fun h => absurd h1 h) ?_
          rw [r5, r4] at hP; exact hP
      · have hn : g 1 d = 60 := by omega
        refine Or.inl ⟨tp t n i, by omega, fun P hP => cF hn15 hk hi (fun _ u Q hu hQ => ?_) hP, fun P hP => ?_⟩
        · exact c_cont hu (fun h => absurd h h91) (fun _ => c_sign hu hG hla hn15 (lv := 1) (fl := 2) (by omega) (by rw [h1]) (fun h => by omega) (fun _ => hQ)) (fun _ h => by omega)
        · refine m_to1 hG hla hb h91 h3 h2 ?_
          rw [bX_1 (StO_ne r1.2.2.2.2.2.1) h11]
          exact m_C (by omega) hi (fun _ v K hv k => m_operF (vs := []) hv hn hs10 (by omega) k) (fun h => absurd h1 h) (m_failed hP)
  have h0 : lvS (tk t n i) = 0 := by omega
  refine simEnd hb hG hla h91 h3 h2 (fun h => absurd h h1) (fun L1 l1 la1 L2 e l2 la2 e1 e2 q1 q2 s1 s2 s3 s4 s5 => simX0 hn15 hb s1 s2 s3 s4 s5 hk IHB IHC (fun u Q hu hQ => ?_))
  refine c_cont hu (fun h => absurd h h91) (fun h => absurd h0 h) (fun _ _ => c_signs hu hG hn15 (fl := 1) (by decide) (by decide) rfl (fun U hU => ?_))
  rw [e1] at hU
  refine c_lasts hU q1 hn15 (fun W hW => ?_)
  rw [e2] at hW
  exact hQ W hW
/-- every expression: class and reference together -/
theorem exprSim {t : Nat → Nat} {n : Nat} {u0 v0 : St} {b d : Nat} (hn15 : n ≤ 1500) (hb : b ≤ 1) : ∀ (f i : Nat), n - i ≤ f → (∀ g L l k, GIb n g L d l i → k ≤ i → SimB t n u0 v0 b g L d l i k) ∧ (∀ g L l la k, GIv n g L d l i → LaO g L d l la → k ≤ i → SimC t n u0 v0 b g L d l la i k) := by
  intro f
  induction f with
  | zero =>
    intro i hf
    have hB : ∀ g' L' l' i' k', i < i' → GIb n g' L' d l' i' → k' ≤ i' → SimB t n u0 v0 b g' L' d l' i' k' := fun g' L' l' i' k' h hG _ => by have := hG.1.2.1; omega
    have hC : ∀ g' L' l' la' i' k', i < i' → GIv n g' L' d l' i' → LaO g' L' d l' la' → k' ≤ i' → SimC t n u0 v0 b g' L' d l' la' i' k' := fun g' L' l' la' i' k' h hG _ _ => by have := hG.2.1; omega
    exact ⟨fun g L l k hG hk => stepB hn15 hb hG hk hB hC, fun g L l la k hG hla hk => stepC hn15 hb hG hla hk hB hC⟩
  | succ f ih =>
    intro i hf
    have hB : ∀ g' L' l' i' k', i < i' → GIb n g' L' d l' i' → k' ≤ i' → SimB t n u0 v0 b g' L' d l' i' k' := fun g' L' l' i' k' h hG hk => (ih i' (by omega)).1 g' L' l' k' hG hk
    have hC : ∀ g' L' l' la' i' k', i < i' → GIv n g' L' d l' i' → LaO g' L' d l' la' → k' ≤ i' → SimC t n u0 v0 b g' L' d l' la' i' k' := fun g' L' l' la' i' k' h hG hla hk => (ih i' (by omega)).2 g' L' l' la' k' hG hla hk
    exact ⟨fun g L l k hG hk => stepB hn15 hb hG hk hB hC, fun g L l la k hG hla hk => stepC hn15 hb hG hla hk hB hC⟩
