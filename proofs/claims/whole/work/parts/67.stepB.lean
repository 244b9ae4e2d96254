/-! 67.stepB: a beginning, both together -/
def SimB (t : Nat → Nat) (n : Nat) (u0 v0 : St) (b : Nat) (g : Nat → Nat → Nat) (L : Nat → List Nat) (d : Nat) (l : List (Nat × Nat)) (i k : Nat) : Prop := Sim t n u0 v0 b d (BC t n u0 g L d l i) k (RM t n v0 b g L d (tB l) [] (lsO g L l) (paN l) i)
def SimC (t : Nat → Nat) (n : Nat) (u0 v0 : St) (b : Nat) (g : Nat → Nat → Nat) (L : Nat → List Nat) (d : Nat) (l : List (Nat × Nat)) (la i k : Nat) : Prop := Sim t n u0 v0 b d (RC t n u0 g L d l i 7 la) k (RM t n v0 b g L d ((18, 0) :: bX l 3) [la] (lsO g L l) (paN l) i)
theorem tk_adv {t : Nat → Nat} {n i : Nat} (hi : i ≤ n) (h : tk t n i ≠ 0) : i < te t n i ∧ te t n i ≤ n ∧ tp t n i < n := by
  have hte := tp_te (t := t) hi
  have : tp t n i ≠ n := fun e => h ((tk_end (t := t) hi).mpr e)
  omega
theorem lsO_0 {g : Nat → Nat → Nat} {L : Nat → List Nat} {e : Nat × Nat} {l : List (Nat × Nat)} (h : e.1 ≠ 6) : lsO g L (e :: l) = lsO g L l := by simp only [lsO]; rw [if_neg h]
/-- a part that begins -/
theorem simPush {t : Nat → Nat} {n : Nat} {u0 v0 : St} {b : Nat} {g : Nat → Nat → Nat} {L : Nat → List Nat} {d : Nat} {l : List (Nat × Nat)} {i j k : Nat} {kd tag : Nat} {C M : St → Prop} (hGb : GIb n g L d l i) (hn : g 1 d < 60) (h2 : kd ≠ 2) (h3 : kd ≠ 3) (ht : 2 ≤ tag) (ht6 : tag ≠ 6) (hT : TgO (addP g d kd 0) (upL L (60 * d + g 1 d) []) i (tag, 60 * d + g 1 d)) (hv : 1 ≤ lvT tag → lvT tag ≤ 3 → lvT (hdT l) < lvT tag) (hv2 : tag ≤ 6 → lvT (hdT l) = 0) (hij : i ≤ j) (hj : j ≤ n)
    (IHB : GIb n (addP g d kd 0) (upL L (60 * d + g 1 d) []) d ((tag, 60 * d + g 1 d) :: l) j → SimB t n u0 v0 b (addP g d kd 0) (upL L (60 * d + g 1 d) []) d ((tag, 60 * d + g 1 d) :: l) j k) {k0 : Nat}
    (hC : ∀ P, RunC (BC t n u0 (addP g d kd 0) (upL L (60 * d + g 1 d) []) d ((tag, 60 * d + g 1 d) :: l) j) k P → RunC C k0 P) (hM : ∀ P, RunM (RM t n v0 b (addP g d kd 0) (upL L (60 * d + g 1 d) []) d (tB ((tag, 60 * d + g 1 d) :: l)) [] (lsO g L l) (paN l) j) P → RunM M P) : Sim t n u0 v0 b d C k0 M := by
  have hG := hGb.1
  have h := IHB (GIb_mono (GI_push hGb hn h2 h3 ht hT hv hv2 ht6) hij hj)
  refine Sim.back h hC ?_
  rw [lsO_0 (by exact ht6), lsO_ext (Ext_add g L d kd 0 []) hn hG.2.2.2.2.2.1, paN_0 (show tag ≠ 1 by omega)]
  exact hM
theorem simPushN {t : Nat → Nat} {n : Nat} {u0 v0 : St} {b : Nat} {g : Nat → Nat → Nat} {L : Nat → List Nat} {d : Nat} {l : List (Nat × Nat)} {i j k : Nat} {kd tag a c : Nat} {C M : St → Prop} (hGb : GIb n g L d l i) (hn : g 1 d < 60) (h2 : kd ≠ 2) (h3 : kd ≠ 3) (ht : 2 ≤ tag) (ht6 : tag ≠ 6) (ha : NC a) (hc : c ≤ 1500) (hT : TgO (up (up (addP g d kd 0) 7 (60 * d + g 1 d) a) 8 (60 * d + g 1 d) c) (upL L (60 * d + g 1 d) []) i (tag, 60 * d + g 1 d)) (hv : 1 ≤ lvT tag → lvT tag ≤ 3 → lvT (hdT l) < lvT tag) (hv2 : tag ≤ 6 → lvT (hdT l) = 0) (hij : i ≤ j) (hj : j ≤ n)
    (IHB : GIb n (up (up (addP g d kd 0) 7 (60 * d + g 1 d) a) 8 (60 * d + g 1 d) c) (upL L (60 * d + g 1 d) []) d ((tag, 60 * d + g 1 d) :: l) j → SimB t n u0 v0 b (up (up (addP g d kd 0) 7 (60 * d + g 1 d) a) 8 (60 * d + g 1 d) c) (upL L (60 * d + g 1 d) []) d ((tag, 60 * d + g 1 d) :: l) j k) {k0 : Nat}
    (hC : ∀ P, RunC (BC t n u0 (up (up (addP g d kd 0) 7 (60 * d + g 1 d) a) 8 (60 * d + g 1 d) c) (upL L (60 * d + g 1 d) []) d ((tag, 60 * d + g 1 d) :: l) j) k P → RunC C k0 P) (hM : ∀ P, RunM (RM t n v0 b (up (up (addP g d kd 0) 7 (60 * d + g 1 d) a) 8 (60 * d + g 1 d) c) (upL L (60 * d + g 1 d) []) d (tB ((tag, 60 * d + g 1 d) :: l)) [] (lsO g L l) (paN l) j) P → RunM M P) : Sim t n u0 v0 b d C k0 M := by
  have hG := hGb.1
  have h := IHB (GIb_mono (GI_pushN hGb hn h2 h3 ht ha hc hT hv hv2 ht6) hij hj)
  refine Sim.back h hC ?_
  rw [lsO_0 (by exact ht6), lsO_ext (Ext_named (Ext_add g L d kd 0 []) a c) hn hG.2.2.2.2.2.1, paN_0 (show tag ≠ 1 by omega)]
  exact hM
/-- a leaf -/
theorem simLeaf {t : Nat → Nat} {n : Nat} {u0 v0 : St} {b : Nat} {g : Nat → Nat → Nat} {L : Nat → List Nat} {d : Nat} {l : List (Nat × Nat)} {i j k : Nat} {kd nu : Nat} {C M : St → Prop} (hGb : GIb n g L d l i) (hn : g 1 d < 60) (h123 : kd = 1 ∨ kd = 2 ∨ kd = 3) (h2 : kd = 2 → nu < g 0 d) (h3 : kd = 3 → dm g (d + 1) nu ∧ nu / 60 = d ∧ g 5 nu = 6 ∧ L nu ≠ [] ∧ (6, nu) ∈ l) (hij : i ≤ j) (hj : j ≤ n)
    (IHC : GIv n (addP g d kd nu) (upL L (60 * d + g 1 d) []) d l j → LaO (addP g d kd nu) (upL L (60 * d + g 1 d) []) d l (60 * d + g 1 d) → SimC t n u0 v0 b (addP g d kd nu) (upL L (60 * d + g 1 d) []) d l (60 * d + g 1 d) j k) {k0 : Nat}
    (hC : ∀ P, RunC (RC t n u0 (addP g d kd nu) (upL L (60 * d + g 1 d) []) d l j 7 (60 * d + g 1 d)) k P → RunC C k0 P) (hM : ∀ P, RunM (RM t n v0 b (addP g d kd nu) (upL L (60 * d + g 1 d) []) d ((18, 0) :: bX l 3) [60 * d + g 1 d] (lsO g L l) (paN l) j) P → RunM M P) : Sim t n u0 v0 b d C k0 M := by
  have hG := hGb.1
  obtain ⟨h1, h4, _⟩ := GI_ext (l' := l) hG hn (Ext_add g L d kd nu []) (Or.inl ⟨upL_s, hGb.2⟩) (fun e => absurd addP_7n e) (fun e => by rw [addP_6n]; exact h2 (addP_5n.symm.trans e)) (fun e => by rw [addP_6n]; exact h3 (addP_5n.symm.trans e)) (Or.inl ⟨rfl, by
    have hl : (upL L (60 * d + g 1 d) [] (60 * d + g 1 d)).length = 0 := by rw [upL_s]; rfl
    unfold Cp; rw [addP_5n, hl]
    rcases h123 with rfl | rfl | rfl
    · exact Or.inl ⟨rfl, rfl⟩
    · exact Or.inr (Or.inl ⟨rfl, rfl⟩)
    · exact Or.inr (Or.inr (Or.inl ⟨rfl, rfl⟩))⟩)
  refine Sim.back (IHC (GI_mono h1 hij hj) h4) hC ?_
  rw [lsO_ext (Ext_add g L d kd nu []) hn hG.2.2.2.2.2.1]
  exact hM
theorem ltF_mem {g : Nat → Nat → Nat} {e p0 : Nat} : ∀ {l : List (Nat × Nat)}, ltF g e l = p0 + 1 → (6, p0) ∈ l
  | [], h => by cases h
  | x :: l, h => by
    simp only [ltF] at h
    split at h
    · next hc =>
      have : x = (6, p0) := by
        cases x with
        | mk a c => simp only at hc h; rw [hc.1]; congr 1; omega
      rw [this]; exact List.mem_cons_self
    · exact List.mem_cons_of_mem _ (ltF_mem h)
theorem stepB {t : Nat → Nat} {n : Nat} {u0 v0 : St} {b : Nat} {g : Nat → Nat → Nat} {L : Nat → List Nat} {d : Nat} {l : List (Nat × Nat)} {i k : Nat} (hn15 : n ≤ 1500) (hb : b ≤ 1) (hGb : GIb n g L d l i) (hk : k ≤ i)
    (IHB : ∀ g' L' l' i' k', i < i' → GIb n g' L' d l' i' → k' ≤ i' → SimB t n u0 v0 b g' L' d l' i' k')
    (IHC : ∀ g' L' l' la' i' k', i < i' → GIv n g' L' d l' i' → LaO g' L' d l' la' → k' ≤ i' → SimC t n u0 v0 b g' L' d l' la' i' k') : SimB t n u0 v0 b g L d l i k := by
  have hG := hGb.1
  obtain ⟨hl81, hls, hl1, hl2⟩ := GI_len hG
  obtain ⟨a1, a2, a3, a4, a5, a6, a7, a8, a9⟩ := id hG
  have hnp := (a3 d (Nat.le_refl _)).2.1
  have hte := tp_te (t := t) a2
  by_cases h40 : tk t n i = 40
  · -- a parenthesis
    obtain ⟨v1, v2, v3⟩ := tk_adv a2 (show tk t n i ≠ 0 by omega)
    by_cases hp : paN l < 20
    · have h := IHB g L ((1, 0) :: l) (te t n i) (k + 1) v1 (GIb_mono ⟨GI_paren hG hp, fun p hp => hGb.2 p ((Fr1_p rfl).mp hp)⟩ (by omega) v2) (by omega)
      refine Sim.back h (fun P hP => B_ok (fun _ => True) hk a2 (by omega) (fun u du la Q hu hQ => ?_) (toB hP)) (fun P hP => m_par hG h40 hp ?_)
      · exact c_tb hu a1 hnp (fun _ => c_paren hu a7 hl2 (fun _ U la' hU => hQ U la' trivial hU) (fun e => by omega)) (fun h => absurd h40 h) (fun h => by omega) (fun h => by omega) (fun h => by omega) (fun h => by omega) (fun h => by omega) (fun h => absurd h40 h)
      · rw [lsO_0 (by decide)] at hP; exact hP
    · refine Or.inl ⟨tp t n i, by omega, fun P hP => B_bad hn15 hk a2 (fun _ u du la Q hu hQ => ?_) hP, fun P hP => m_parF hG h40 (by omega) hP⟩
      exact c_tb hu a1 hnp (fun _ => c_paren hu a7 hl2 (fun e => by omega) (fun _ U hU => hQ U hU)) (fun h => absurd h40 h) (fun h => by omega) (fun h => by omega) (fun h => by omega) (fun h => by omega) (fun h => by omega) (fun h => absurd h40 h)
  by_cases hfull : g 1 d = 60
  · refine Or.inl ⟨tp t n i, by omega, fun P hP => B_bad hn15 hk a2 (fun _ u du la Q hu hQ => ?_) hP, fun P hP => m_fullF hG hb hfull h40 hP⟩
    exact c_tb hu a1 hnp (fun h => absurd h h40) (fun _ _ => hQ) (fun _ h => by omega) (fun _ h => by omega) (fun _ h => by omega) (fun _ h => by omega) (fun _ h => by omega) (fun _ _ _ _ _ _ _ => hQ)
  have hn : g 1 d < 60 := by omega
  have h0 := (Nat.lt_of_lt_of_le hn (Nat.le_refl 60))
  have nol : (upL L (60 * d + g 1 d) [] (60 * d + g 1 d)).length = 0 := by rw [upL_s]; rfl
  by_cases h45 : tk t n i = 45
  · obtain ⟨v1, v2, v3⟩ := tk_adv a2 (show tk t n i ≠ 0 by omega)
    refine simPush (k := k + 1) (j := te t n i) hGb hn (kd := 4) (tag := 14) (by decide) (by decide) (by decide) (by decide) (tg14 addP_5n nol) (fun _ h => absurd h (by decide)) (fun h => absurd h (by decide)) (by omega) v2 (fun h => IHB _ _ _ _ _ v1 h (by omega)) (fun P hP => B_ok (fun _ => True) hk a2 (by omega) (fun u du la Q hu hQ => ?_) (toB hP)) (fun P hP => m_neg hG hb h45 hn hP)
    exact c_tb hu a1 hnp (fun h => absurd h h40) (fun _ h => absurd h hfull) (fun h => by omega) (fun h => by omega) (fun h => by omega) (fun h => by omega) (fun _ _ => c_beginPart hu a1 hn 14 (by decide) (by decide) rfl rfl (hl1 hn) (fun U la' hU => hQ U la' trivial hU)) (fun _ _ _ _ _ _ h => absurd h45 h)
  by_cases h3 : tk t n i = 3
  · obtain ⟨v1, v2, v3⟩ := tk_adv a2 (show tk t n i ≠ 0 by omega)
    refine simLeaf (k := k + 1) (j := te t n i) hGb hn (kd := 1) (nu := vlt t (tp t n i) (te t n i - tp t n i)) (Or.inl rfl) (fun h => by omega) (fun h => by omega) (by omega) v2 (fun h h' => IHC _ _ _ _ _ _ v1 h h' (by omega)) (fun P hP => B_ok (fun x => x = 60 * d + g 1 d) hk a2 (by omega) (fun u du la Q hu hQ => ?_) (toC hP)) (fun P hP => m_num hG hb h3 hn hP)
    exact c_tb hu a1 hnp (fun h => absurd h h40) (fun _ h => absurd h hfull) (fun h => by omega) (fun _ _ => c_leaf hu a1 hn rfl (hu.2.1.2.2.2.2 h3) (fun U hU => hQ U _ rfl hU)) (fun h => by omega) (fun h => by omega) (fun h => by omega) (fun _ _ h => absurd h3 h)
  by_cases h9 : tk t n i = 9
  · obtain ⟨v1, v2, v3⟩ := tk_adv a2 (show tk t n i ≠ 0 by omega)
    have hte1 := tp_te (t := t) v2
    have go1 : ∀ {P : Int32 → St → Prop}, RunC (fun u => ∃ la', True ∧ RC t n u0 (addP g d 8 0) (upL L (60 * d + g 1 d) []) d ((8, 60 * d + g 1 d) :: l) (te t n i) 10 la' u) (k + 1) P → RunC (BC t n u0 g L d l i) k P := fun hP => B_ok (fun _ => True) hk a2 (by omega) (fun u du la Q hu hQ => c_tb hu a1 hnp (fun h => absurd h h40) (fun _ h => absurd h hfull) (fun h => by omega) (fun h => by omega) (fun h => by omega) (fun _ _ => c_beginPart hu a1 hn 8 (by decide) (by decide) rfl rfl (hl1 hn) (fun U la' hU => hQ U la' trivial hU)) (fun h => by omega) (fun _ _ _ _ _ h => absurd h9 h)) hP
    by_cases hy : tk t n (te t n i) = 40
    · obtain ⟨w1, w2, w3⟩ := tk_adv v2 (show tk t n (te t n i) ≠ 0 by omega)
      refine simPush (k := k + 2) (j := te t n (te t n i)) hGb hn (kd := 8) (tag := 8) (by decide) (by decide) (by decide) (by decide) (tg8 addP_5n nol addP_7n) (fun h => absurd h (by decide)) (fun h => absurd h (by decide)) (by omega) w2 (fun h => IHB _ _ _ _ _ (by omega) h (by omega)) (fun P hP => go1 (c_okG (F := fun _ => True) (by omega) v2 (by omega) (fun u ⟨la, _, hu⟩ => ⟨10, la, by decide, hu, fun Q hQ => ?_⟩) (toB hP))) (fun P hP => m_make hG hb h9 hn rfl (fun _ V hV => hV) (fun h => absurd hy h) hP)
      have h5 := hu.2.2.2.2.1.2.2.2
      exact br_n (by rw [h5]; decide) (br_n (by rw [h5]; decide) (br_p (by rw [h5]; rfl) (c_expect hu rfl rfl (by decide) (by decide) (fun _ U la' hU => hQ U la' trivial hU) (fun h => absurd hy h))))
    · refine Or.inl ⟨tp t n (te t n i), by omega, fun P hP => go1 ?_, fun P hP => m_make hG hb h9 hn rfl (fun h => absurd h hy) (fun _ V hV => hV) (m_failed hP)⟩
      by_cases hz : tk t n (te t n i) = 0
      · exact c_earlyG hn15 v2 hz (fun u ⟨la, _, hu⟩ => ⟨10, la, by decide, by decide, hu⟩) hP
      · refine c_badG hn15 (by omega) (by omega) v2 hz (fun u ⟨la, _, hu⟩ => ⟨10, la, by decide, hu, fun Q hQ => ?_⟩) hP
        have h5 := hu.2.2.2.2.1.2.2.2
        exact br_n (by rw [h5]; decide) (br_n (by rw [h5]; decide) (br_p (by rw [h5]; rfl) (c_expect hu rfl rfl (by decide) (by decide) (fun h => absurd h hy) (fun _ => hQ))))
  by_cases h2 : tk t n i = 2
  · obtain ⟨v1, v2, v3⟩ := tk_adv a2 (show tk t n i ≠ 0 by omega)
    have hNC := nmT_NC a2 (Or.inl h2)
    cases hpar : parN t n (te t n i) with
    | false =>
      by_cases hlt : ltF g (nmT t n i) l = 0
      · have hfl := fnd_le (g 4) (nmT t n i) (g 0 d) 0
        by_cases hf : fnd (g 4) (nmT t n i) (g 0 d) 0 < g 0 d
        · refine simLeaf (k := k + 1) (j := te t n i) hGb hn (kd := 2) (nu := fnd (g 4) (nmT t n i) (g 0 d) 0) (Or.inr (Or.inl rfl)) (fun _ => hf) (fun h => by omega) (by omega) v2 (fun h h' => IHC _ _ _ _ _ _ v1 h h' (by omega)) (fun P hP => B_ok (fun x => x = 60 * d + g 1 d) hk a2 (by omega) (fun u du la Q hu hQ => ?_) (toC hP)) (fun P hP => m_vari hG hb h2 hpar hn (fun p0 h => by omega) (fun _ _ V hV => hV) (fun _ h => by omega) hP)
          exact c_tb hu a1 hnp (fun h => absurd h h40) (fun _ h => absurd h hfull) (fun _ _ => c_name hu hG h2 hn (fun h => by rw [hpar] at h; cases h) (fun _ p0 h => by omega) (fun _ _ _ U hU => hQ U _ rfl hU) (fun _ _ h => by omega)) (fun h => by omega) (fun h => by omega) (fun h => by omega) (fun h => by omega) (fun _ h => absurd h2 h)
        · refine Or.inl ⟨tp t n i, by omega, fun P hP => B_bad hn15 hk a2 (fun _ u du la Q hu hQ => ?_) hP, fun P hP => m_vari hG hb h2 hpar hn (fun p0 h => by omega) (fun _ h => absurd h hf) (fun _ _ V hV => hV) (m_failed hP)⟩
          exact c_tb hu a1 hnp (fun h => absurd h h40) (fun _ h => absurd h hfull) (fun _ _ => c_name hu hG h2 hn (fun h => by rw [hpar] at h; cases h) (fun _ p0 h => by omega) (fun _ _ h => absurd h hf) (fun _ _ _ => hQ)) (fun h => by omega) (fun h => by omega) (fun h => by omega) (fun h => by omega) (fun _ h => absurd h2 h)
      · obtain ⟨p0, hp0⟩ : ∃ p0, ltF g (nmT t n i) l = p0 + 1 := ⟨ltF g (nmT t n i) l - 1, by omega⟩
        obtain ⟨c1, c2, c3, c4⟩ := StO_mem a6 (6, p0) (ltF_mem hp0) (show 2 ≤ 6 by decide)
        have c5 := ((TgO_lv c4).2.2.2.2.1).mp rfl
        refine simLeaf (k := k + 1) (j := te t n i) hGb hn (kd := 3) (nu := p0) (Or.inr (Or.inr rfl)) (fun h => by omega) (fun _ => ⟨c1, c2, c5.1, fun e => (by have := c5.2; rw [e] at this; cases this), ltF_mem hp0⟩) (by omega) v2 (fun h h' => IHC _ _ _ _ _ _ v1 h h' (by omega)) (fun P hP => B_ok (fun x => x = 60 * d + g 1 d) hk a2 (by omega) (fun u du la Q hu hQ => ?_) (toC hP)) (fun P hP => m_vari hG hb h2 hpar hn (fun q hq V hV => by rw [hp0] at hq; rw [show p0 = q by omega]; exact hV) (fun h => absurd h hlt) (fun h => absurd h hlt) hP)
        exact c_tb hu a1 hnp (fun h => absurd h h40) (fun _ h => absurd h hfull) (fun _ _ => c_name hu hG h2 hn (fun h => by rw [hpar] at h; cases h) (fun _ q hq U hU => hQ U _ rfl (by rw [hp0] at hq; rw [show p0 = q by omega]; exact hU)) (fun _ h => absurd h hlt) (fun _ h => absurd h hlt)) (fun h => by omega) (fun h => by omega) (fun h => by omega) (fun h => by omega) (fun _ h => absurd h2 h)
    | true =>
      have hy := tk_par hpar
      obtain ⟨w1, w2, w3⟩ := tk_adv v2 (show tk t n (te t n i) ≠ 0 by omega)
      have n5 : ∀ {a c : Nat}, up (up (addP g d 7 0) 7 (60 * d + g 1 d) a) 8 (60 * d + g 1 d) c 5 (60 * d + g 1 d) = 7 := fun {a c} => by rw [nm_5 (by decide) (by decide)]; exact addP_5n
      have go2 : ∀ {P : Int32 → St → Prop}, RunC (fun u => ∃ la', True ∧ RC t n u0 (up (up (addP g d 7 0) 7 (60 * d + g 1 d) (nmT t n i)) 8 (60 * d + g 1 d) (tp t n i)) (upL L (60 * d + g 1 d) []) d ((7, 60 * d + g 1 d) :: l) (te t n (te t n i)) 9 la' u) (k + 2) P → RunC (BC t n u0 g L d l i) k P := fun hP => by
        refine B_ok (fun _ => True) (g' := up (up (addP g d 7 0) 7 (60 * d + g 1 d) (nmT t n i)) 8 (60 * d + g 1 d) (tp t n i)) (L' := upL L (60 * d + g 1 d) []) (l' := (7, 60 * d + g 1 d) :: l) (du' := 8) hk a2 (by omega) (fun u du la Q hu hQ => ?_) (c_okG (F := fun _ => True) (by omega) v2 (by omega) (fun u ⟨la, _, hu⟩ => ⟨8, la, by decide, hu, fun Q hQ => ?_⟩) hP)
        · exact c_tb hu a1 hnp (fun h => absurd h h40) (fun _ h => absurd h hfull) (fun _ _ => c_name hu hG h2 hn (fun _ U la' hU => hQ U la' trivial hU) (fun h => by rw [hpar] at h; cases h) (fun h => by rw [hpar] at h; cases h) (fun h => by rw [hpar] at h; cases h)) (fun h => by omega) (fun h => by omega) (fun h => by omega) (fun h => by omega) (fun _ h => absurd h2 h)
        · have h5 := hu.2.2.2.2.1.2.2.2
          exact br_p (by rw [h5]; rfl) (c_expect hu rfl rfl (by decide) (by decide) (fun _ U la' hU => hQ U la' trivial hU) (fun h => absurd hy h))
      by_cases h41 : tk t n (te t n (te t n i)) = 41
      · obtain ⟨x1, x2, x3⟩ := tk_adv w2 (show tk t n (te t n (te t n i)) ≠ 0 by omega)
        obtain ⟨hG3, hL3, _⟩ := GI_ext (l' := l) hG hn (Ext_named (Ext_add g L d 7 0 []) (nmT t n i) (tp t n i)) (Or.inl ⟨upL_s, hGb.2⟩) (fun _ => ⟨by rw [nm_7]; exact hNC.1, by rw [up_i, if_pos rfl]; omega⟩) (fun e => by rw [n5] at e; cases e) (fun e => by rw [n5] at e; cases e) (Or.inl ⟨rfl, by
          unfold Cp; rw [n5, nm_7]
          exact Or.inr (Or.inr (Or.inr (Or.inr (Or.inr (Or.inr (Or.inl ⟨rfl, hNC.2⟩))))))⟩)
        have h := IHC _ _ _ _ (te t n (te t n (te t n i))) (k + 3) (by omega) (GI_mono hG3 (by omega) x2) hL3 (by omega)
        refine Sim.back h (fun P hP => go2 (c_okG (F := fun x => x = 60 * d + g 1 d) (by omega) w2 (by omega) (fun u ⟨la, _, hu⟩ => ⟨9, la, by decide, hu, fun Q hQ => ?_⟩) (toC hP))) (fun P hP => m_call hG hb h2 hpar hn rfl (fun _ V hV => ?_) (fun h => absurd h41 h) hP)
        · have h5 := hu.2.2.2.2.1.2.2.2
          have h9' := hu.2.1.2.2.1
          exact br_n (by rw [h5]; decide) (br_p (by rw [h5]; rfl) (br_p (by rw [h9', h41]; rfl) (c_end hu (show 2 ≤ 7 by decide) (hl1 hn) (fun U hU => hQ U _ rfl hU))))
        · rw [lsO_ext (Ext_named (Ext_add g L d 7 0 []) (nmT t n i) (tp t n i)) hn a6]; exact hV
      · refine simPushN (k := k + 2) (j := te t n (te t n i)) hGb hn (kd := 7) (tag := 7) (a := nmT t n i) (c := tp t n i) (by decide) (by decide) (by decide) (by decide) hNC.1 (by omega) (tg7 n5 (by rw [nm_7]; exact hNC.2) (by rw [nol]; exact Nat.zero_le _)) (fun h => absurd h (by decide)) (fun h => absurd h (by decide)) (by omega) w2 (fun h => IHB _ _ _ _ _ (by omega) h (by omega)) (fun P hP => go2 (hP.mono (fun u ⟨la, _, hu⟩ => ⟨9, la, Or.inr ⟨rfl, h41⟩, hu⟩))) (fun P hP => m_call hG hb h2 hpar hn rfl (fun h => absurd h h41) (fun _ V hV => hV) hP)
  by_cases h47 : (tk t n i = 4 ∨ tk t n i = 7) ∧ lvT (hdT l) = 0
  · obtain ⟨v1, v2, v3⟩ := tk_adv a2 (show tk t n i ≠ 0 by omega)
    have hte1 := tp_te (t := t) v2
    obtain ⟨e, l2, rfl⟩ : ∃ e l2, l = e :: l2 := by
      cases l with
      | nil => exact absurd rfl (StO_ne a6)
      | cons e l2 => exact ⟨e, l2, rfl⟩
    have hel : 2 ≤ e.1 → dm g (d + 1) e.2 ∧ lvK (g 5 e.2) = lvT e.1 ∧ g 5 e.2 < 1000 := fun h => by
      obtain ⟨c1, c2, c3, c4⟩ := StO_mem a6 e List.mem_cons_self h
      exact ⟨c1, (TgO_lv c4).1, (TgO_lv c4).2.1⟩
    have hl2' : l2.length < 81 := by simp only [List.length_cons] at hl81; omega
    by_cases h4 : tk t n i = 4
    · refine simPush (k := k + 1) (j := te t n i) hGb hn (kd := 5) (tag := 2) (by decide) (by decide) (by decide) (by decide) (tg2 addP_5n nol) (fun h => absurd h (by decide)) (fun _ => h47.2) (by omega) v2 (fun h => IHB _ _ _ _ _ v1 h (by omega)) (fun P hP => B_ok (fun _ => True) hk a2 (by omega) (fun u du la Q hu hQ => ?_) (toB hP)) (fun P hP => m_if hG hb h4 h47.2 hn hP)
      exact c_tb hu a1 hnp (fun h => absurd h h40) (fun _ h => absurd h hfull) (fun h => by omega) (fun h => by omega) (fun _ _ => c_iol hu a1 hl2' hel (Or.inl h4) (fun _ _ => c_beginPart hu a1 hn 2 (by decide) (by decide) rfl rfl (hl1 hn) (fun U la' hU => hQ U la' trivial hU)) (fun h => by omega) (fun h => absurd h47.2 h)) (fun h => by omega) (fun h => by omega) (fun _ _ _ h => absurd h4 h)
    · have h7 : tk t n i = 7 := by omega
      have go1 : ∀ {P : Int32 → St → Prop}, RunC (fun u => ∃ la', True ∧ RC t n u0 (addP g d 6 0) (upL L (60 * d + g 1 d) []) d ((5, 60 * d + g 1 d) :: e :: l2) (te t n i) 13 la' u) (k + 1) P → RunC (BC t n u0 g L d (e :: l2) i) k P := fun hP => B_ok (fun _ => True) hk a2 (by omega) (fun u du la Q hu hQ => c_tb hu a1 hnp (fun h => absurd h h40) (fun _ h => absurd h hfull) (fun h => by omega) (fun h => by omega) (fun _ _ => c_iol hu a1 hl2' hel (Or.inr h7) (fun h => by omega) (fun _ _ => c_beginPart hu a1 hn 5 (by decide) (by decide) rfl rfl (hl1 hn) (fun U la' hU => hQ U la' trivial hU)) (fun h => absurd h47.2 h)) (fun h => by omega) (fun h => by omega) (fun _ _ _ _ h => absurd h7 h)) hP
      by_cases hz : tk t n (te t n i) = 2
      · obtain ⟨w1, w2, w3⟩ := tk_adv v2 (show tk t n (te t n i) ≠ 0 by omega)
        have hte2 := tp_te (t := t) w2
        have hNC := nmT_NC v2 (Or.inl hz)
        have go2 : ∀ {P : Int32 → St → Prop}, RunC (fun u => ∃ la', True ∧ RC t n u0 (up (up (addP g d 6 0) 7 (60 * d + g 1 d) (nmT t n (te t n i))) 8 (60 * d + g 1 d) (tp t n (te t n i))) (upL L (60 * d + g 1 d) []) d ((5, 60 * d + g 1 d) :: e :: l2) (te t n (te t n i)) 14 la' u) (k + 2) P → RunC (BC t n u0 g L d (e :: l2) i) k P := fun hP => by
          refine go1 (c_okG (F := fun _ => True) (by omega) v2 (by omega) (fun u ⟨la, _, hu⟩ => ⟨13, la, by decide, hu, fun Q hQ => ?_⟩) hP)
          have h5 := hu.2.2.2.2.1.2.2.2
          refine br_n (by rw [h5]; decide) (br_n (by rw [h5]; decide) (br_n (by rw [h5]; decide) (br_n (by rw [h5]; decide) (br_n (by rw [h5]; decide) (br_p (by rw [h5]; rfl) (c_inner hu (hl1 hn) ?_))))))
          exact c_keep hu a1 (dm_new (by omega) hn) (Or.inl hz) rfl (fun U hU => c_expect hU rfl rfl (by decide) (by decide) (fun _ U la' hU => hQ U la' trivial hU) (fun h => absurd hz h))
        have n5 : ∀ {a c : Nat}, up (up (addP g d 6 0) 7 (60 * d + g 1 d) a) 8 (60 * d + g 1 d) c 5 (60 * d + g 1 d) = 6 := fun {a c} => by rw [nm_5 (by decide) (by decide)]; exact addP_5n
        by_cases h61 : tk t n (te t n (te t n i)) = 61
        · obtain ⟨x1, x2, x3⟩ := tk_adv w2 (show tk t n (te t n (te t n i)) ≠ 0 by omega)
          refine simPushN (k := k + 3) (j := te t n (te t n (te t n i))) hGb hn (kd := 6) (tag := 5) (a := nmT t n (te t n i)) (c := tp t n (te t n i)) (by decide) (by decide) (by decide) (by decide) hNC.1 (by omega) (tg5 n5 nol (by rw [nm_7]; exact hNC.2)) (fun h => absurd h (by decide)) (fun _ => h47.2) (by omega) x2 (fun h => IHB _ _ _ _ _ (by omega) h (by omega)) (fun P hP => go2 (c_okG (F := fun _ => True) (by omega) w2 (by omega) (fun u ⟨la, _, hu⟩ => ⟨14, la, by decide, hu, fun Q hQ => ?_⟩) (toB hP))) (fun P hP => m_let hG hb h7 h47.2 hn rfl rfl (fun h => absurd hz h) (fun _ h => absurd h61 h) (fun _ _ V hV => hV) hP)
          have h5 := hu.2.2.2.2.1.2.2.2
          exact br_n (by rw [h5]; decide) (br_n (by rw [h5]; decide) (br_n (by rw [h5]; decide) (br_n (by rw [h5]; decide) (br_n (by rw [h5]; decide) (br_n (by rw [h5]; decide) (c_expect hu rfl rfl (by decide) (by decide) (fun _ U la' hU => hQ U la' trivial hU) (fun h => absurd h61 h)))))))
        · refine Or.inl ⟨tp t n (te t n (te t n i)), by omega, fun P hP => go2 ?_, fun P hP => m_let hG hb h7 h47.2 hn rfl rfl (fun h => absurd hz h) (fun _ _ V hV => hV) (fun _ h => absurd h h61) (m_failed hP)⟩
          by_cases hzz : tk t n (te t n (te t n i)) = 0
          · exact c_earlyG hn15 w2 hzz (fun u ⟨la, _, hu⟩ => ⟨14, la, by decide, by decide, hu⟩) hP
          · refine c_badG hn15 (by omega) (by omega) w2 hzz (fun u ⟨la, _, hu⟩ => ⟨14, la, by decide, hu, fun Q hQ => ?_⟩) hP
            have h5 := hu.2.2.2.2.1.2.2.2
            exact br_n (by rw [h5]; decide) (br_n (by rw [h5]; decide) (br_n (by rw [h5]; decide) (br_n (by rw [h5]; decide) (br_n (by rw [h5]; decide) (br_n (by rw [h5]; decide) (c_expect hu rfl rfl (by decide) (by decide) (fun h => absurd h h61) (fun _ => hQ)))))))
      · refine Or.inl ⟨tp t n (te t n i), by omega, fun P hP => go1 ?_, fun P hP => m_let hG hb h7 h47.2 hn rfl rfl (fun _ V hV => hV) (fun h => absurd h hz) (fun h => absurd h hz) (m_failed hP)⟩
        by_cases hzz : tk t n (te t n i) = 0
        · exact c_earlyG hn15 v2 hzz (fun u ⟨la, _, hu⟩ => ⟨13, la, by decide, by decide, hu⟩) hP
        · refine c_badG hn15 (by omega) (by omega) v2 hzz (fun u ⟨la, _, hu⟩ => ⟨13, la, by decide, hu, fun Q hQ => ?_⟩) hP
          have h5 := hu.2.2.2.2.1.2.2.2
          refine br_n (by rw [h5]; decide) (br_n (by rw [h5]; decide) (br_n (by rw [h5]; decide) (br_n (by rw [h5]; decide) (br_n (by rw [h5]; decide) (br_p (by rw [h5]; rfl) (c_inner hu (hl1 hn) ?_))))))
          exact c_keepX hu (by omega) hz (cdE_2 (show 2 ≤ 5 by decide)) hQ
  · refine Or.inl ⟨tp t n i, by omega, fun P hP => B_bad hn15 hk a2 (fun _ u du la Q hu hQ => ?_) hP, fun P hP => m_badF hG h45 h40 h3 h9 h2 (fun h h' => h47 ⟨h, h'⟩) hP⟩
    refine c_tb hu a1 hnp (fun h => absurd h h40) (fun _ h => absurd h hfull) (fun h => absurd h h2) (fun h => absurd h h3) (fun h _ => ?_) (fun h => absurd h h9) (fun h => absurd h h45) (fun _ _ _ _ _ _ _ => hQ)
    cases l with
    | nil => exact absurd rfl (StO_ne a6)
    | cons e l2 =>
      have hel : 2 ≤ e.1 → dm g (d + 1) e.2 ∧ lvK (g 5 e.2) = lvT e.1 ∧ g 5 e.2 < 1000 := fun h => by
        obtain ⟨c1, c2, c3, c4⟩ := StO_mem a6 e List.mem_cons_self h
        exact ⟨c1, (TgO_lv c4).1, (TgO_lv c4).2.1⟩
      exact c_iol hu a1 (by simp only [List.length_cons] at hl81; omega) hel h (fun _ h0 => absurd ⟨h, h0⟩ h47) (fun _ h0 => absurd ⟨h, h0⟩ h47) (fun _ => hQ)
