/-! 77.defs: definitions, both together -/
theorem te_lt {t : Nat → Nat} {n i : Nat} (hi : i ≤ n) (h : tk t n i ≠ 0) : i < te t n i ∧ te t n i ≤ n := ⟨(tk_adv hi h).1, (tk_adv hi h).2.1⟩
def AC (t : Nat → Nat) (n : Nat) (u0 : St) (g : Nat → Nat → Nat) (L : Nat → List Nat) (d i : Nat) (u : St) : Prop := ∃ du la, (du = 3 ∨ (du = 2 ∧ tk t n i ≠ 41)) ∧ RC t n u0 g L d [(0, 0)] i du la u
theorem ac_w {t : Nat → Nat} {n : Nat} {u0 u : St} {g : Nat → Nat → Nat} {L : Nat → List Nat} {d i du la : Nat} (hu : RC t n u0 g L d [(0, 0)] i du la u) (hdu : du = 3 ∨ (du = 2 ∧ tk t n i ≠ 41)) {Q : St → Prop} (k : wp_X3_takeArgumentName u Q) : wpT du u Q := by
  have h5 := hu.2.2.2.2.1.2.2.2
  rcases hdu with rfl | ⟨rfl, h41⟩
  · exact br_n (by rw [h5]; decide) (br_n (by rw [h5]; decide) (br_n (by rw [h5]; decide) (br_p (by rw [h5]; rfl) k)))
  · exact br_n (by rw [h5]; decide) (br_n (by rw [h5]; decide) (br_p (by rw [h5]; rfl) (br_n (fun c => h41 ((tk9 hu.2.1 (c := 41) (by decide)).mp c)) k)))
theorem w4 {t : Nat → Nat} {n : Nat} {u0 u : St} {g : Nat → Nat → Nat} {L : Nat → List Nat} {d i la : Nat} (hu : RC t n u0 g L d [(0, 0)] i 4 la u) {Q : St → Prop} (k44 : tk t n i = 44 → ∀ U la', RC t n u0 g L d [(0, 0)] i 3 la' U → Q U) (k41 : tk t n i = 41 → ∀ U la', RC t n u0 g L d [(0, 0)] i 5 la' U → Q U) (kn : tk t n i ≠ 44 → tk t n i ≠ 41 → ∀ U, FlC n u0 (tp t n i) U → Q U) : wpT 4 u Q := by
  have h5 := hu.2.2.2.2.1.2.2.2
  refine br_n (by rw [h5]; decide) (br_n (by rw [h5]; decide) (br_n (by rw [h5]; decide) (br_n (by rw [h5]; decide) (br_p (by rw [h5]; rfl) (br_b (fun c => nm_i ?_) (fun c => ?_))))))
  · exact k44 ((tk9 hu.2.1 (c := 44) (by decide)).mp c) _ 0 (c_due hu 3 (by decide) 0)
  · have c1 : tk t n i ≠ 44 := fun e => c ((tk9 hu.2.1 (c := 44) (by decide)).mpr e)
    exact c_expect hu rfl rfl (by decide) (by decide) (fun h => k41 h) (fun h => kn c1 h)
theorem argSim {t : Nat → Nat} {n : Nat} {u0 v0 : St} {b : Nat} {L : Nat → List Nat} {d : Nat} (hn15 : n ≤ 1500) (hb : b ≤ 1) : ∀ (f i : Nat), n - i ≤ f → ∀ (g : Nat → Nat → Nat) (k : Nat), HIv n g L d i → k ≤ i →
    (∃ q, q ≤ n ∧ (∀ P : Int32 → St → Prop, (∀ U, FlC n u0 q U → P (nI q) U) → RunC (AC t n u0 g L d i) k P) ∧ ∀ P : St → Prop, (∀ V, FlH n v0 b q V → P V) → RunA (HM t n v0 b g L d i) (nI (12 * b + d)) P) ∨
    ∃ (g' : Nat → Nat → Nat) (i' k' : Nat), HIv n g' L d i' ∧ i < i' ∧ k' ≤ i' ∧ (∀ P : Int32 → St → Prop, RunC (fun u => ∃ la, True ∧ RC t n u0 g' L d [(0, 0)] i' 5 la u) k' P → RunC (AC t n u0 g L d i) k P) ∧ ∀ P : St → Prop, (∀ V, HM t n v0 b g' L d i' V → P V) → RunA (HM t n v0 b g L d i) (nI (12 * b + d)) P := by
  intro f
  induction f with
  | zero =>
    intro i hf g k hH hk
    have hi : i ≤ n := hH.2.1.2.1
    have hte := tp_te (t := t) hi
    have htk : tk t n i = 0 := (tk_end hi).mpr (by omega)
    refine Or.inl ⟨tp t n i, by omega, fun P hP => ?_, fun P hP => a_fail hb hH.1 hi hH.2.2.1.1 hH.2.2.2 (Or.inl (by omega)) hP⟩
    exact c_earlyG hn15 hi htk (fun u ⟨du, la, hdu, hu⟩ => ⟨du, la, by omega, by omega, hu⟩) hP
  | succ f ih =>
    intro i hf g k hH hk
    have hi : i ≤ n := hH.2.1.2.1
    have hte := tp_te (t := t) hi
    have ha := hH.2.2.1.1
    have hN := hH.2.2.2
    have hfn := fnd_le (g 4) (nmT t n i) (g 0 d) 0
    by_cases hbad : tk t n i ≠ 2 ∨ g 0 d = 6 ∨ fnd (g 4) (nmT t n i) (g 0 d) 0 < g 0 d
    · refine Or.inl ⟨tp t n i, by omega, fun P hP => ?_, fun P hP => a_fail hb hH.1 hi ha hN hbad hP⟩
      by_cases htk : tk t n i = 0
      · exact c_earlyG hn15 hi htk (fun u ⟨du, la, hdu, hu⟩ => ⟨du, la, by omega, by omega, hu⟩) hP
      · exact c_badG hn15 (by omega) hk hi htk (fun u ⟨du, la, hdu, hu⟩ => ⟨du, la, by omega, hu, fun Q hQ => ac_w hu hdu (c_argName hu hH.1 hi ha hN (fun h1 h2 h3 => by omega) (fun _ => hQ))⟩) hP
    · have c2 : tk t n i = 2 := by omega
      have h6 : g 0 d < 6 := by omega
      have hff : fnd (g 4) (nmT t n i) (g 0 d) 0 = g 0 d := by omega
      obtain ⟨v1, v2⟩ := te_lt hi (show tk t n i ≠ 0 by omega)
      have hte1 := tp_te (t := t) v2
      have hNC := nmT_NC hi (Or.inl c2)
      have go1 : ∀ {P : Int32 → St → Prop}, RunC (fun u => ∃ la', True ∧ RC t n u0 (gA1 g d (nmT t n i)) L d [(0, 0)] (te t n i) 4 la' u) (k + 1) P → RunC (AC t n u0 g L d i) k P := fun hP =>
        c_okG (F := fun _ => True) hk hi (by omega) (fun u ⟨du, la, hdu, hu⟩ => ⟨du, la, by omega, hu, fun Q hQ => ac_w hu hdu (c_argName hu hH.1 hi ha hN (fun _ _ _ U la' hU => hQ U la' trivial hU) (fun h => absurd h hbad))⟩) hP
      have hH1 : ∀ j, j ≤ n → HIv n (gA1 g d (nmT t n i)) L d j := fun j hj => HIv_mono (HIv_arg hH hNC.1 h6) hj
      by_cases c44 : tk t n (te t n i) = 44
      · obtain ⟨w1, w2⟩ := te_lt v2 (show tk t n (te t n i) ≠ 0 by omega)
        have go2 : ∀ {P : Int32 → St → Prop}, RunC (AC t n u0 (gA1 g d (nmT t n i)) L d (te t n (te t n i))) (k + 2) P → RunC (AC t n u0 g L d i) k P := fun hP =>
          go1 (c_okG (F := fun _ => True) (du' := 3) (by omega) v2 (by omega) (fun u ⟨la, _, hu⟩ => ⟨4, la, by decide, hu, fun Q hQ => w4 hu (fun _ U la' hU => hQ U la' trivial hU) (fun h => by omega) (fun h => absurd c44 h)⟩) (hP.mono (fun u ⟨la, _, hu⟩ => ⟨3, la, Or.inl rfl, hu⟩)))
        rcases ih (te t n (te t n i)) (by omega) (gA1 g d (nmT t n i)) (k + 2) (hH1 _ w2) (by omega) with ⟨q, hq, r1, r2⟩ | ⟨g', i', k', r1, r2, r3, r4, r5⟩
        · exact Or.inl ⟨q, hq, fun P hP => go2 (r1 P hP), fun P hP => a_name hb hH.1 hi hN c2 h6 hff (fun _ => r2 P hP) (fun h => by omega) (fun h => absurd c44 h)⟩
        · exact Or.inr ⟨g', i', k', r1, by omega, r3, fun P hP => go2 (r4 P hP), fun P hP => a_name hb hH.1 hi hN c2 h6 hff (fun _ => r5 P hP) (fun h => by omega) (fun h => absurd c44 h)⟩
      · by_cases c41 : tk t n (te t n i) = 41
        · obtain ⟨w1, w2⟩ := te_lt v2 (show tk t n (te t n i) ≠ 0 by omega)
          refine Or.inr ⟨gA1 g d (nmT t n i), te t n (te t n i), k + 2, hH1 _ w2, by omega, by omega, fun P hP => go1 ?_, fun P hP => a_name hb hH.1 hi hN c2 h6 hff (fun h => absurd h c44) (fun _ => hP) (fun _ h => absurd c41 h)⟩
          exact c_okG (F := fun _ => True) (du' := 5) (by omega) v2 (by omega) (fun u ⟨la, _, hu⟩ => ⟨4, la, by decide, hu, fun Q hQ => w4 hu (fun h => absurd h c44) (fun _ U la' hU => hQ U la' trivial hU) (fun _ h => absurd c41 h)⟩) hP
        · refine Or.inl ⟨tp t n (te t n i), by omega, fun P hP => go1 ?_, fun P hP => a_name hb hH.1 hi hN c2 h6 hff (fun h => absurd h c44) (fun h => absurd h c41) (fun _ _ => hP)⟩
          by_cases hz : tk t n (te t n i) = 0
          · exact c_earlyG hn15 v2 hz (fun u ⟨la, _, hu⟩ => ⟨4, la, by decide, by decide, hu⟩) hP
          · exact c_badG hn15 (by omega) (by omega) v2 hz (fun u ⟨la, _, hu⟩ => ⟨4, la, by decide, hu, fun Q hQ => w4 hu (fun h => absurd h c44) (fun h => absurd h c41) (fun _ _ => hQ)⟩) hP
/-- the expression begins -/
theorem m_expr {t : Nat → Nat} {n : Nat} {v0 v : St} {b : Nat} {g : Nat → Nat → Nat} {L : Nat → List Nat} {d i : Nat} (h : HM t n v0 b g L d i v) (h1 : g 1 d = 0) {P : St → Prop} (hr : RunM (RM t n v0 b g L d [(1, 0)] [] [] 0 i) P) : wp_X7_readExpression v P := by
  obtain ⟨M, hM⟩ := hr
  obtain ⟨⟨⟨hT, hK, hF, hMt, ⟨h2, h10, h13⟩, hR⟩, h15⟩, h2a, h16⟩ := h
  refine nm_i (nm_i (nm_i (nm_i (nm_i ?_))))
  have hRM : RM t n v0 b g L d [] [] [] 0 i (sI (sI (sI (sI (sI v 9 0) 8 0) 11 0) 14 0) 12 0) := by
    refine ⟨hT, hK, hF, ⟨fun k hk => ?_, fun p hp => ?_⟩, ⟨h2, h10, by rw [h1]; rfl, h13, rfl⟩, ⟨hR, h16⟩, ⟨rfl, trivial⟩, ⟨rfl, trivial⟩, rfl, trivial⟩
    · rcases (show k < d ∨ k = d by omega) with hk | rfl
      · exact hMt.1 k hk
      · exact ⟨h2a, h15⟩
    · have r := hMt.2 p ((dm_0 h1).mp hp)
      have hfree : free g L (d + 1) p ↔ free g L d p := ⟨fun hf q hq => hf q ((dm_0 h1).mpr hq), fun hf q hq => hf q ((dm_0 h1).mp hq)⟩
      unfold MTp at r ⊢
      rw [hfree]; exact r
  exact m_later hRM (w := 1) rfl (p := 0) (fun h => by cases h) (by decide) (fun V hV => ⟨M, hM V hV M (Nat.le_refl _)⟩)
/-- the expression ends -/
theorem m_exprE {t : Nat → Nat} {n : Nat} {v0 : St} {b : Nat} {g : Nat → Nat → Nat} {L : Nat → List Nat} {d i la : Nat} (hb : b ≤ 1) (hd : d < 12) (hi : i ≤ n) {P : St → Prop} (ky : tk t n i = 59 → ∀ V, gI V 13 = 1 → gI V 10 = nI d → BtM t n v0 b (up g 2 d la) L (d + 1) (te t n i) (sI V 10 (nI (d + 1))) → P V) (kn : tk t n i ≠ 59 → ∀ V, FlH n v0 b (tp t n i) V → P V) : RunM (RM t n v0 b g L d [] [la] [] 0 i) (fun V => wp_X7_readDefinition_120 V P) := by
  refine ⟨1, fun v h m hm => ?_⟩
  obtain ⟨m, rfl⟩ : ∃ m', m = m' + 1 := ⟨m - 1, by omega⟩
  refine br_p (by rw [h.2.2.2.2.2.2.1.1]; decide) (br_n (by rw [h.2.2.2.2.1.2.2.2.1]; decide) (m_got h (by decide) (fun V hV => ?_)))
  have e12 : 12 * gI v 2 + gI v 10 = nI (12 * b + d) := by rw [h.2.2.2.2.1.1, h.2.2.2.2.1.2.1]; show nI 12 * nI b + nI d = _; rw [pk_mul, nI_add]
  obtain ⟨hT, hK, hF, hMt, ⟨h2, h10, h9, h13, h14⟩, hR, _, _, _⟩ := hV
  have e12' : ∀ W : St, gI W 2 = gI V 2 → gI W 10 = gI V 10 → 12 * gI W 2 + gI W 10 = nI (12 * b + d) := fun W a c => by rw [a, c, h2, h10]; show nI 12 * nI b + nI d = _; rw [pk_mul, nI_add]
  rw [e12]
  refine ⟨inN (by omega) (by decide), nm_i ?_⟩
  rw [ixN (by omega), e12' (sA V 4 (12 * b + d) (nI (720 * b + la))) rfl rfl]
  refine ⟨inN (by omega) (by decide), nm_i ?_⟩
  rw [ixN (by omega)]
  have e9 : gI (sA V 4 (12 * b + d) (nI (720 * b + la))) 9 = nI (g 1 d) := h9
  rw [e9]
  have hX : BtM t n v0 b (up g 2 d la) L (d + 1) i (sI (sA (sA V 4 (12 * b + d) (nI (720 * b + la))) 3 (12 * b + d) (nI (g 1 d))) 10 (nI (d + 1))) := by
    refine ⟨hT, hK, (hF.a (by omega)).a (by omega), ⟨fun k hk => ?_, fun p hp => ?_⟩, ⟨h2, rfl, h13⟩, fun k hk => ?_⟩
    · rw [up_f (by decide), up_f (by decide)]; exact hMt.1 k hk
    · have e : ∀ q, dm (up g 2 d la) (d + 1) q ↔ dm g (d + 1) q := fun q => by unfold dm; rw [up_f (by decide)]
      have r := hMt.2 p ((e p).mp hp)
      have hfree : free (up g 2 d la) L (d + 1) p ↔ free g L (d + 1) p := ⟨fun hf q hq => hf q ((e q).mpr hq), fun hf q hq => hf q ((e q).mp hq)⟩
      unfold MTp at r ⊢
      rw [hfree]
      simp only [up_f (f := 2) (f' := 5) (show (5 : Nat) ≠ 2 by decide), up_f (f := 2) (f' := 6) (show (6 : Nat) ≠ 2 by decide), up_f (f := 2) (f' := 7) (show (7 : Nat) ≠ 2 by decide), up_f (f := 2) (f' := 8) (show (8 : Nat) ≠ 2 by decide)]
      exact r
    · rw [up_f (by decide), up_i]
      show upd (gA V 3) (12 * b + d) (nI (g 1 d)) (12 * b + k) = _ ∧ upd (gA V 4) (12 * b + d) (nI (720 * b + la)) (12 * b + k) = _
      rw [updE, updE]
      by_cases hkd : k = d
      · subst hkd; rw [if_pos rfl, if_pos rfl, if_pos rfl]; exact ⟨rfl, rfl⟩
      · rw [if_neg (by omega), if_neg (by omega), if_neg hkd]; exact hR.1 k (by omega)
  refine x_needSign (v := sA (sA V 4 (12 * b + d) (nI (720 * b + la))) 3 (12 * b + d) (nI (g 1 d))) (t := t) (n := n) (i := i) hT hK h13 hi (c := 59) (by decide) rfl (fun c W f hK2 => ?_) (fun c => ?_)
  · refine ky c W ?_ ?_ ?_
    · rw [f.1 13 (by decide) (by decide) (by decide) (by decide)]; exact h13
    · rw [f.1 10 (by decide) (by decide) (by decide) (by decide)]; exact h10
    · refine FrM_Bt hX ⟨fun k a c d e => ?_, f.2.1, f.2.2.1, f.2.2.2⟩ hK2
      show gI (sI W 10 _) k = gI (sI _ 10 _) k
      rw [gI_sI, gI_sI]
      by_cases hk : k = 10
      · rw [if_pos hk, if_pos hk]
      · rw [if_neg hk, if_neg hk]; exact f.1 k a c d e
  · have hfl := Bt_fl hX hi
    exact kn c _ ⟨hfl.1, hfl.2.1, hfl.2.2.1, hfl.2.2.2.1, hfl.2.2.2.2.1, hfl.2.2.2.2.2⟩
theorem defSim {t : Nat → Nat} {n : Nat} {u0 v0 : St} {b : Nat} {g : Nat → Nat → Nat} {L : Nat → List Nat} {m i k : Nat} (hn15 : n ≤ 1500) (hb : b ≤ 1) (hD : DIv n g L m i) (hk : k ≤ i) (hm0 : tk t n i = 0 → m = 0) :
    (∃ q, q ≤ n ∧ (∀ P : Int32 → St → Prop, (∀ U, FlC n u0 q U → P (nI q) U) → RunC (BtC t n u0 g L m i) k P) ∧ ∀ P : St → Prop, (∀ V, FlH n v0 b q V → P V) → ∀ v, BtM t n v0 b g L m i v → wp_X7_readDefinition v P) ∨
    ∃ (g' : Nat → Nat → Nat) (L' : Nat → List Nat) (i' k' : Nat), DIv n g' L' (m + 1) i' ∧ k' ≤ i' ∧ (∀ P : Int32 → St → Prop, RunC (BtC t n u0 g' L' (m + 1) i') k' P → RunC (BtC t n u0 g L m i) k P) ∧ ∀ P : St → Prop, (∀ V, gI V 13 = 1 → gI V 10 = nI m → BtM t n v0 b g' L' (m + 1) i' (sI V 10 (nI (m + 1))) → P V) → ∀ v, BtM t n v0 b g L m i v → wp_X7_readDefinition v P := by
  have hi : i ≤ n := hD.2.1
  have hm : m ≤ 12 := hD.1
  have hte := tp_te (t := t) hi
  have hN : ∀ k, k < m → NC (g 3 k) := fun k hk => (hD.2.2.1 k hk).2.2.1
  have hfn := fnd_le (g 3) (nmT t n i) m 0
  by_cases hbad : tk t n i ≠ 2 ∨ m = 12 ∨ fnd (g 3) (nmT t n i) m 0 < m
  · refine Or.inl ⟨tp t n i, by omega, fun P hP => ?_, fun P hP v hv => m_def hv hb hm hi hN (fun h1 h2 h3 => by omega) (fun _ => hP)⟩
    refine ⟨2, fun u hu q hq => ?_⟩
    obtain ⟨q, rfl⟩ : ∃ q', q = q' + 2 := ⟨q - 2, by omega⟩
    have hu' := hu
    obtain ⟨hT, hK, hF, hC, ⟨h12, h6, h5⟩, hR⟩ := hu
    have hle := (tk_le (t := t) (n := n) (i := i)).1
    by_cases htk : tk t n i = 0
    · have hm00 := hm0 htk
      subst hm00
      have h129 : wp_X3_readText_129 u P := by
        refine br_p h5 (br_p (by rw [h12]; decide) (br_p h6 (br_p rfl (nm_i (br_n ?_ ?_)))))
        · show ¬ gI u 10 = -1; rw [hK.1]; exact nI_m1 (by omega)
        · show P (gI u 10) _; rw [hK.1]; exact hP _ ⟨hF, rfl, hT.2.1⟩
      refine br_b (fun _ => h129) (fun _ => br_p h6 (br_p ?_ h129))
      rw [hK.2.2.1, htk]; rfl
    · have hw := c_defName hu' hm hi hN (P := fun U => wp_X3_readText_108 (wp_X3_readText_27 P (q + 1)) U (nI k) P) (fun h1 h2 h3 => by omega) (fun _ U hU => br_n (by rw [hU.2.1]; exact nI_m1 (by omega)) (nm_i (c_faulted (by omega) hU hP)))
      have hte0 : tp t n i ≠ n := fun e => htk ((tk_end (t := t) hi).mpr e)
      refine br_n ?_ (br_p h6 (br_n ?_ (br_n (by rw [h5]; decide) (br_n (by rw [h5]; decide) (br_n (by rw [h5]; decide) hw)))))
      · rw [hT.2.1]; simp (disch := omega) only [nI_leI, nI_ltI, nI_eq]; omega
      · rw [hK.2.2.1]; simp (disch := omega) only [ln_0, ln_1, ln_2, ln_3, ln_4, ln_5, ln_6, ln_7, ln_8, ln_9, ln_10, ln_11, ln_12, ln_13, ln_14, ln_15, ln_16, ln_17, ln_18, ln_19, ln_20, ln_21, ln_22, ln_23, ln_24, ln_25, ln_26, ln_27, ln_28, ln_29, ln_30, ln_31, ln_32, ln_33, ln_34, ln_35, ln_36, ln_37, ln_38, ln_39, ln_40, ln_41, ln_42, ln_43, ln_44, ln_45, ln_46, ln_47, ln_48, ln_49, ln_50, ln_51, ln_52, ln_53, ln_54, ln_55, ln_56, ln_57, ln_58, ln_59, ln_60, ln_61, ln_62, ln_91, ln_93, ln_97, ln_122, ln_120, ln_123, ln_124, ln_255, ln_256, ln_300, ln_720, ln_1500, ln_12000, ln_18000, nI_leI, nI_ltI, nI_eq]; exact htk
  · have c2 : tk t n i = 2 := by omega
    have hff : fnd (g 3) (nmT t n i) m 0 = m := by omega
    have hm12 : m < 12 := by omega
    have hNC := nmT_NC hi (Or.inl c2)
    have hHI := HIv_name hD hm12 hNC.1 hff
    generalize hgh : gH g m (nmT t n i) = gh at hHI
    obtain ⟨v1, v2⟩ := te_lt hi (show tk t n i ≠ 0 by omega)
    have hte1 := tp_te (t := t) v2
    have go1 : ∀ {P : Int32 → St → Prop}, RunC (fun u => ∃ la', True ∧ RC t n u0 gh L m [(0, 0)] (te t n i) 1 la' u) (k + 1) P → RunC (BtC t n u0 g L m i) k P := fun {P} hP =>
      c_okX (B := fun j u => ∃ la', True ∧ RC t n u0 gh L m [(0, 0)] j 1 la' u) hk hi (by omega) (fun u hu => ⟨0, by decide, hu.1, hu.2.1, hu.2.2.2.2.1.2.1, hu.2.2.2.2.1.2.2, fun Q hQ => c_defName hu hm hi hN (fun _ _ _ U la hU => hQ U ⟨la, trivial, by rw [← hgh]; exact hU⟩) (fun h => absurd h hbad)⟩) (fun U ⟨la, _, hU⟩ => ⟨hU.1, hU.2.1, hU.2.2.2.2.1.2.2.1⟩) (fun U V ⟨la, _, hU⟩ f hK => ⟨la, trivial, FrC_RC hU f hK⟩) hP
    have mgo : ∀ {P : St → Prop}, (∀ V, HM0 t n v0 b gh L m (te t n i) V → wp_X7_readDefinition_86 V P) → ∀ v, BtM t n v0 b g L m i v → wp_X7_readDefinition v P := fun hP v hv => m_def hv hb hm hi hN (fun _ _ _ V hV => hP V (by rw [← hgh]; exact hV)) (fun h => absurd h hbad)
    have h1g : gh 1 m = 0 := hHI.2.2.1.2.1
    have h0g : gh 0 m = 0 := by rw [← hgh, gH_0, if_pos rfl]
    clear hgh
    by_cases c40 : tk t n (te t n i) = 40
    · obtain ⟨w1, w2⟩ := te_lt v2 (show tk t n (te t n i) ≠ 0 by omega)
      have hte2 := tp_te (t := t) w2
      have go2 : ∀ {P : Int32 → St → Prop}, RunC (fun u => ∃ la', True ∧ RC t n u0 gh L m [(0, 0)] (te t n (te t n i)) 2 la' u) (k + 2) P → RunC (BtC t n u0 g L m i) k P := fun hP =>
        go1 (c_okG (F := fun _ => True) (by omega) v2 (by omega) (fun u ⟨la, _, hu⟩ => ⟨1, la, by decide, hu, fun Q hQ => by
          have h5 := hu.2.2.2.2.1.2.2.2
          exact br_n (by rw [h5]; decide) (br_p (by rw [h5]; rfl) (c_expect hu rfl rfl (by decide) (by decide) (fun _ U la' hU => hQ U la' trivial hU) (fun h => absurd c40 h)))⟩) hP)
      -- the reference: sets the arity, then arguments
      have mgo2 : ∀ {P : St → Prop}, (∀ V, HM t n v0 b gh L m (te t n (te t n i)) V → wp_X7_take V 41 (fun (r4 : Int32) (u3 : St) => br (r4 = 0) (∃ n, wp_X7_readArguments_32 (fun u18 => wp_X7_readDefinition_103 u18 P) n u3 (nI (12 * b + m)) 1) (wp_X7_readDefinition_103 u3 P))) → ∀ v, BtM t n v0 b g L m i v → wp_X7_readDefinition v P := fun {P} hP => mgo (fun V hV => by
        refine x_needSign hV.1.1 hV.1.2.1 hV.1.2.2.2.2.1.2.2 v2 (c := 40) (by decide) rfl (fun _ W f hK => ?_) (fun h => absurd c40 h)
        have hW := FrM_H0 hV f hK
        have e12 : 12 * gI W 2 + gI W 10 = nI (12 * b + m) := by rw [hW.1.2.2.2.2.1.1, hW.1.2.2.2.2.1.2.1]; show nI 12 * nI b + nI m = _; rw [pk_mul, nI_add]
        refine br_n (by rw [hW.1.2.2.2.2.1.2.2]; decide) (nm_i ?_)
        rw [e12]
        refine ⟨inN (by omega) (by decide), nm_i ?_⟩
        rw [ixN (by omega)]
        refine hP _ ⟨⟨⟨hW.1.1, hW.1.2.1, hW.1.2.2.1.a (by omega), ⟨fun q hq => ?_, hW.1.2.2.2.1.2⟩, hW.1.2.2.2.2.1, hW.1.2.2.2.2.2⟩, hW.2⟩, ?_, fun q hq => by rw [h0g] at hq; exact absurd hq (Nat.not_lt_zero _)⟩
        · show upd (gA W 2) (12 * b + m) 0 (12 * b + q) = _ ∧ _
          rw [updE, if_neg (by omega)]; exact hW.1.2.2.2.1.1 q hq
        · show upd (gA W 2) (12 * b + m) 0 (12 * b + m) = _
          rw [updE, if_pos rfl, h0g]; rfl)
      -- to the end of the arguments, both
      have hargs : (∃ q, q ≤ n ∧ (∀ P : Int32 → St → Prop, (∀ U, FlC n u0 q U → P (nI q) U) → RunC (BtC t n u0 g L m i) k P) ∧ ∀ P : St → Prop, (∀ V, FlH n v0 b q V → P V) → ∀ v, BtM t n v0 b g L m i v → wp_X7_readDefinition v P) ∨ ∃ (g' : Nat → Nat → Nat) (i' k' : Nat), HIv n g' L m i' ∧ i < i' ∧ k' ≤ i' ∧ (∀ P : Int32 → St → Prop, RunC (fun u => ∃ la, True ∧ RC t n u0 g' L m [(0, 0)] i' 5 la u) k' P → RunC (BtC t n u0 g L m i) k P) ∧ ∀ P : St → Prop, (∀ V, HM t n v0 b g' L m i' V → wp_X7_readDefinition_103 V P) → ∀ v, BtM t n v0 b g L m i v → wp_X7_readDefinition v P := by
        by_cases c41 : tk t n (te t n (te t n i)) = 41
        · obtain ⟨x1, x2⟩ := te_lt w2 (show tk t n (te t n (te t n i)) ≠ 0 by omega)
          refine Or.inr ⟨gh, te t n (te t n (te t n i)), k + 3, HIv_mono hHI x2, by omega, by omega, fun P hP => go2 ?_, fun P hP => mgo2 (fun V hV => ?_)⟩
          · refine c_okG (F := fun _ => True) (du' := 5) (by omega) w2 (by omega) (fun u ⟨la, _, hu⟩ => ⟨2, la, by decide, hu, fun Q hQ => ?_⟩) hP
            have h5 := hu.2.2.2.2.1.2.2.2
            exact br_n (by rw [h5]; decide) (br_n (by rw [h5]; decide) (br_p (by rw [h5]; rfl) (br_p ((tk9 hu.2.1 (c := 41) (by decide)).mpr c41) (nm_i (hQ _ 0 trivial (c_due hu 5 (by decide) 0))))))
          · unfold wp_X7_take
            refine x_isSign hV.1.1.1 hV.1.1.2.1 w2 (c := 41) (by decide) rfl ?_
            rw [decide_eq_true c41]
            exact br_n (by decide) (x_go hV.1.1.1 hV.1.1.2.1 hV.1.1.2.2.2.2.1.2.2 w2 (fun W f hK => ⟨bz1, br_n (by decide) (hP W (FrM_H hV f hK))⟩))
        · have mgo3 : ∀ {P : St → Prop}, RunA (HM t n v0 b gh L m (te t n (te t n i))) (nI (12 * b + m)) (fun V => wp_X7_readDefinition_103 V P) → ∀ v, BtM t n v0 b g L m i v → wp_X7_readDefinition v P := fun {P} ⟨M, hM⟩ => mgo2 (fun V hV => by
            unfold wp_X7_take
            refine x_isSign hV.1.1.1 hV.1.1.2.1 w2 (c := 41) (by decide) rfl ?_
            rw [decide_eq_false c41]
            exact br_p rfl ⟨bz0, br_p rfl ⟨M, hM V hV M (Nat.le_refl _)⟩⟩)
          rcases argSim (t := t) (u0 := u0) (v0 := v0) (b := b) (L := L) (d := m) hn15 hb (n - te t n (te t n i)) (te t n (te t n i)) (Nat.le_refl _) gh (k + 2) (HIv_mono hHI w2) (by omega) with ⟨q, hq, r1, r2⟩ | ⟨g', i', k', r1, r2, r3, r4, r5⟩
          · exact Or.inl ⟨q, hq, fun P hP => go2 ((r1 P hP).mono (fun u ⟨la, _, hu⟩ => ⟨2, la, Or.inr ⟨rfl, c41⟩, hu⟩)), fun P hP => mgo3 (r2 _ (fun V hV => h_103 hV hP))⟩
          · exact Or.inr ⟨g', i', k', r1, by omega, r3, fun P hP => go2 ((r4 P hP).mono (fun u ⟨la, _, hu⟩ => ⟨2, la, Or.inr ⟨rfl, c41⟩, hu⟩)), fun P hP => mgo3 (r5 _ hP)⟩
      rcases hargs with h | ⟨g2, i2, k2, hH2, hlt, hk2, go3, mgo3⟩
      · exact Or.inl h
      have hi2 : i2 ≤ n := hH2.2.1.2.1
      have hte3 := tp_te (t := t) hi2
      have w5 : ∀ {u : St} {la : Nat} {Q : St → Prop}, RC t n u0 g2 L m [(0, 0)] i2 5 la u → wp_X3_expect u 61 6 Q → wpT 5 u Q := fun hu hq => by
        have h5 := hu.2.2.2.2.1.2.2.2
        exact br_n (by rw [h5]; decide) (br_n (by rw [h5]; decide) (br_n (by rw [h5]; decide) (br_n (by rw [h5]; decide) (br_n (by rw [h5]; decide) hq))))
      by_cases c61 : tk t n i2 = 61
      · obtain ⟨x1, x2⟩ := te_lt hi2 (show tk t n i2 ≠ 0 by omega)
        have hGb := HIv_GIb (HIv_mono hH2 x2)
        have hsim := (exprSim (t := t) (u0 := u0) (v0 := v0) (b := b) (d := m) hn15 hb (n - te t n i2) (te t n i2) (Nat.le_refl _)).1 g2 L [(0, 0)] (k2 + 1) hGb (by omega)
        have goE : ∀ {P : Int32 → St → Prop}, RunC (BC t n u0 g2 L m [(0, 0)] (te t n i2)) (k2 + 1) P → RunC (BtC t n u0 g L m i) k P := fun hP =>
          go3 _ (c_okG (F := fun _ => True) (by omega) hi2 (by omega) (fun u ⟨la, _, hu⟩ => ⟨5, la, by decide, hu, fun Q hQ => w5 hu (c_expect hu rfl rfl (by decide) (by decide) (fun _ U la' hU => hQ U la' trivial hU) (fun h => absurd c61 h))⟩) (toB hP))
        have mgoE : ∀ {P : St → Prop}, RunM (RM t n v0 b g2 L m [(1, 0)] [] [] 0 (te t n i2)) (fun V => wp_X7_readDefinition_120 V P) → ∀ v, BtM t n v0 b g L m i v → wp_X7_readDefinition v P := fun {P} hP => mgo3 P (fun V hV =>
          x_needSign hV.1.1.1 hV.1.1.2.1 hV.1.1.2.2.2.2.1.2.2 hi2 (c := 61) (by decide) rfl (fun _ W f hK => by
            have hW := FrM_H hV f hK
            exact br_n (by rw [hW.1.1.2.2.2.2.1.2.2]; decide) (m_expr hW hH2.2.2.1.2.1 hP)) (fun h => absurd c61 h))
        rcases hsim with ⟨q, hq, r1, r2⟩ | ⟨g', L', x, la, i', k', a1, a2, a3, a4, a5⟩
        · exact Or.inl ⟨q, hq, fun P hP => goE (r1 P hP), fun P hP => mgoE (r2 _ (fun V hV => h_needSign hV.h hP))⟩
        · have hi' : i' ≤ n := a1.2.1
          have hte4 := tp_te (t := t) hi'
          by_cases c59 : tk t n i' = 59
          · obtain ⟨y1, y2⟩ := te_lt hi' (show tk t n i' ≠ 0 by omega)
            exact Or.inr ⟨up g' 2 m la, L', te t n i', k' + 1, GIv_DIv a1 a2 y2, by omega, fun P hP => goE (a4 P (fun _ => hP) (fun h => absurd c59 h)), fun P hP => mgoE (a5 _ (m_exprE hb hm12 hi' (fun _ => hP) (fun h => absurd c59 h)))⟩
          · exact Or.inl ⟨tp t n i', by omega, fun P hP => goE (a4 P (fun h => absurd h c59) (fun _ => hP)), fun P hP => mgoE (a5 _ (m_exprE hb hm12 hi' (fun h => absurd h c59) (fun _ => hP)))⟩
      · refine Or.inl ⟨tp t n i2, by omega, fun P hP => go3 P ?_, fun P hP => mgo3 P (fun V hV => x_needSign hV.1.1.1 hV.1.1.2.1 hV.1.1.2.2.2.2.1.2.2 hi2 (c := 61) (by decide) rfl (fun h => absurd h c61) (fun _ => br_p rfl (h_needSign (Bt_fl hV.1.1 hi2) hP)))⟩
        by_cases hz : tk t n i2 = 0
        · exact c_earlyG hn15 hi2 hz (fun u ⟨la, _, hu⟩ => ⟨5, la, by decide, by decide, hu⟩) hP
        · exact c_badG hn15 (by omega) (by omega) hi2 hz (fun u ⟨la, _, hu⟩ => ⟨5, la, by decide, hu, fun Q hQ => w5 hu (c_expect hu rfl rfl (by decide) (by decide) (fun h => absurd h c61) (fun _ => hQ))⟩) hP
    · refine Or.inl ⟨tp t n (te t n i), by omega, fun P hP => go1 ?_, fun P hP => mgo (fun V hV => x_needSign hV.1.1 hV.1.2.1 hV.1.2.2.2.2.1.2.2 v2 (c := 40) (by decide) rfl (fun h => absurd h c40) (fun _ => br_p rfl (h_103 (Bt_fl hV.1 v2) hP)))⟩
      have w1' : ∀ {u : St} {la : Nat} {Q : St → Prop}, RC t n u0 gh L m [(0, 0)] (te t n i) 1 la u → wp_X3_expect u 40 2 Q → wpT 1 u Q := fun hu hq => by
        have h5 := hu.2.2.2.2.1.2.2.2
        exact br_n (by rw [h5]; decide) (br_p (by rw [h5]; rfl) hq)
      by_cases hz : tk t n (te t n i) = 0
      · exact c_earlyG hn15 v2 hz (fun u ⟨la, _, hu⟩ => ⟨1, la, by decide, by decide, hu⟩) hP
      · exact c_badG hn15 (by omega) (by omega) v2 hz (fun u ⟨la, _, hu⟩ => ⟨1, la, by decide, hu, fun Q hQ => w1' hu (c_expect hu rfl rfl (by decide) (by decide) (fun h => absurd h c40) (fun _ => hQ))⟩) hP
