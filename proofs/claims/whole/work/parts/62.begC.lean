/-! 62.begC: the class at a beginning -/
theorem c_okG {t : Nat → Nat} {n : Nat} {u0 : St} {g g' : Nat → Nat → Nat} {L L' : Nat → List Nat} {d : Nat} {l l' : List (Nat × Nat)} {i du' : Nat} {C : St → Prop} {F : Nat → Prop} {k : Nat} (hk : k ≤ i) (hi : i ≤ n) (htk : tk t n i ≠ 0) {P : Int32 → St → Prop} (hC : ∀ u, C u → ∃ du la, du < 100 ∧ RC t n u0 g L d l i du la u ∧ ∀ Q : St → Prop, (∀ U la', F la' → RC t n u0 g' L' d l' i du' la' U → Q U) → wpT du u Q) (hr : RunC (fun u => ∃ la', F la' ∧ RC t n u0 g' L' d l' (te t n i) du' la' u) (k + 1) P) : RunC C k P := by
  obtain ⟨M, hM⟩ := hr
  have hte := tp_te (t := t) hi
  refine ⟨M + 1, fun u h m hm => ?_⟩
  obtain ⟨m, rfl⟩ : ∃ m', m = m' + 1 := ⟨m - 1, by omega⟩
  obtain ⟨du, la, hdu, h, hs⟩ := hC u h
  refine c_disp h hdu hk hi htk (hs _ (fun U la' hF hU => ?_))
  obtain ⟨V, h1, h2, h3⟩ := advC (u := U) (t := t) (n := n) (i := te t n i) hU.1 hU.2.1.2.1 hte.2.2.1
  refine br_p hU.2.2.2.2.1.2.2.1 (h1 _ (nm_i ?_))
  rw [nI_1]
  exact hM V ⟨la', hF, FrC_RC hU h2 h3⟩ m (by omega)
theorem c_badG {t : Nat → Nat} {n : Nat} {u0 : St} {g : Nat → Nat → Nat} {L : Nat → List Nat} {d : Nat} {l : List (Nat × Nat)} {i f : Nat} {C : St → Prop} (hn : n ≤ 1500) (hf : f ≤ n) {k : Nat} (hk : k ≤ i) (hi : i ≤ n) (htk : tk t n i ≠ 0) {P : Int32 → St → Prop} (hC : ∀ u, C u → ∃ du la, du < 100 ∧ RC t n u0 g L d l i du la u ∧ ∀ Q : St → Prop, (∀ U, FlC n u0 f U → Q U) → wpT du u Q) (hP : ∀ U, FlC n u0 f U → P (nI f) U) : RunC C k P := by
  refine ⟨2, fun u h m hm => ?_⟩
  obtain ⟨m, rfl⟩ : ∃ m', m = m' + 2 := ⟨m - 2, by omega⟩
  obtain ⟨du, la, hdu, h, hs⟩ := hC u h
  refine c_disp h hdu hk hi htk (hs _ (fun U hU => ?_))
  have h6 : ¬ gI U 6 = -1 := by rw [hU.2.1]; exact nI_m1 (by omega)
  exact br_n h6 (nm_i (c_faulted (by omega) hU hP))
theorem c_earlyG {t : Nat → Nat} {n : Nat} {u0 : St} {g : Nat → Nat → Nat} {L : Nat → List Nat} {d : Nat} {l : List (Nat × Nat)} {i : Nat} {C : St → Prop} (hn : n ≤ 1500) {k : Nat} (hi : i ≤ n) (htk : tk t n i = 0) {P : Int32 → St → Prop} (hC : ∀ u, C u → ∃ du la, du < 100 ∧ du ≠ 0 ∧ RC t n u0 g L d l i du la u) (hP : ∀ U, FlC n u0 (tp t n i) U → P (nI (tp t n i)) U) : RunC C k P := by
  refine ⟨1, fun u h m hm => ?_⟩
  obtain ⟨m, rfl⟩ : ∃ m', m = m' + 1 := ⟨m - 1, by omega⟩
  obtain ⟨du, la, hdu, hdu0, hh⟩ := hC u h
  obtain ⟨hT, hK, hF, hCt, ⟨h12, h1, h6, h5⟩, hla, hR, h2, h3, hS⟩ := id hh
  have hte := tp_te (t := t) hi
  have h129 : wp_X3_readText_129 u P := by
    refine br_n ?_ (br_p h6 (br_p rfl (c_fail hh (fun U hU => ?_))))
    · rw [h5]; simp (disch := omega) only [ln_0, ln_1, ln_2, ln_3, ln_4, ln_5, ln_6, ln_7, ln_8, ln_9, ln_10, ln_11, ln_12, ln_13, ln_14, ln_15, ln_16, ln_17, ln_18, ln_19, ln_20, ln_21, ln_22, ln_23, ln_24, ln_25, ln_26, ln_27, ln_28, ln_29, ln_30, ln_31, ln_32, ln_33, ln_34, ln_35, ln_36, ln_37, ln_38, ln_39, ln_40, ln_41, ln_42, ln_43, ln_44, ln_45, ln_46, ln_47, ln_48, ln_49, ln_50, ln_51, ln_52, ln_53, ln_54, ln_55, ln_56, ln_57, ln_58, ln_59, ln_60, ln_61, ln_62, ln_91, ln_93, ln_97, ln_122, ln_120, ln_123, ln_124, ln_255, ln_256, ln_300, ln_720, ln_1500, ln_12000, ln_18000, nI_leI, nI_ltI, nI_eq]; exact hdu0
    · refine br_n ?_ ?_
      · rw [hU.2.1]; exact nI_m1 (by omega)
      · rw [hU.2.1]; exact hP U hU
  refine br_b (fun _ => h129) (fun _ => br_p h6 (br_p ?_ h129))
  rw [hK.2.2.1, htk]; rfl
def BC (t : Nat → Nat) (n : Nat) (u0 : St) (g : Nat → Nat → Nat) (L : Nat → List Nat) (d : Nat) (l : List (Nat × Nat)) (i : Nat) (u : St) : Prop := ∃ du la', (du = 6 ∨ (du = 9 ∧ tk t n i ≠ 41)) ∧ RC t n u0 g L d l i du la' u
theorem c_wpB {t : Nat → Nat} {n : Nat} {u0 u : St} {g : Nat → Nat → Nat} {L : Nat → List Nat} {d : Nat} {l : List (Nat × Nat)} {i du la : Nat} (h : RC t n u0 g L d l i du la u) (hdu : du = 6 ∨ (du = 9 ∧ tk t n i ≠ 41)) {Q : St → Prop} (k : wp_X3_takeBeginning u Q) : wpT du u Q := by
  have hle := (tk_le (t := t) (n := n) (i := i)).1
  unfold wpT
  rcases hdu with rfl | ⟨rfl, h41⟩
  · rw [if_pos rfl]; exact k
  · rw [if_neg (by decide), if_neg (by decide), if_pos (by decide)]
    have h5 := h.2.2.2.2.1.2.2.2
    have h9 := h.2.1.2.2.1
    refine br_n (by rw [h5]; decide) (br_p (by rw [h5]; rfl) (br_n ?_ k))
    rw [h9]; simp (disch := omega) only [ln_0, ln_1, ln_2, ln_3, ln_4, ln_5, ln_6, ln_7, ln_8, ln_9, ln_10, ln_11, ln_12, ln_13, ln_14, ln_15, ln_16, ln_17, ln_18, ln_19, ln_20, ln_21, ln_22, ln_23, ln_24, ln_25, ln_26, ln_27, ln_28, ln_29, ln_30, ln_31, ln_32, ln_33, ln_34, ln_35, ln_36, ln_37, ln_38, ln_39, ln_40, ln_41, ln_42, ln_43, ln_44, ln_45, ln_46, ln_47, ln_48, ln_49, ln_50, ln_51, ln_52, ln_53, ln_54, ln_55, ln_56, ln_57, ln_58, ln_59, ln_60, ln_61, ln_62, ln_91, ln_93, ln_97, ln_122, ln_120, ln_123, ln_124, ln_255, ln_256, ln_300, ln_720, ln_1500, ln_12000, ln_18000, nI_leI, nI_ltI, nI_eq]; exact h41
theorem c_tb {t : Nat → Nat} {n : Nat} {u0 u : St} {g : Nat → Nat → Nat} {L : Nat → List Nat} {d : Nat} {l : List (Nat × Nat)} {i du la : Nat} (h : RC t n u0 g L d l i du la u) (hd : d < 12) (hn : g 1 d ≤ 60) {Q : St → Prop} (k40 : tk t n i = 40 → wp_X3_takeParenthesis u Q) (kf : tk t n i ≠ 40 → g 1 d = 60 → ∀ U, FlC n u0 (tp t n i) U → Q U) (k2 : tk t n i = 2 → g 1 d < 60 → wp_X3_takeName u Q) (k3 : tk t n i = 3 → g 1 d < 60 → wp_X3_addLeaf u 1 (gI u 11) Q) (k4 : tk t n i = 4 ∨ tk t n i = 7 → g 1 d < 60 → wp_X3_takeIfOrLet u Q) (k9 : tk t n i = 9 → g 1 d < 60 → wp_X3_beginPart u 8 10 (fun _ => Q)) (k45 : tk t n i = 45 → g 1 d < 60 → wp_X3_beginPart u 4 6 (fun _ => Q)) (kx : tk t n i ≠ 40 → tk t n i ≠ 2 → tk t n i ≠ 3 → tk t n i ≠ 4 → tk t n i ≠ 7 → tk t n i ≠ 9 → tk t n i ≠ 45 → ∀ U, FlC n u0 (tp t n i) U → Q U) : wp_X3_takeBeginning u Q := by
  have h9 := h.2.1.2.2.1
  have hle := (tk_le (t := t) (n := n) (i := i)).1
  have q : ∀ a : Nat, a < 1000 → (gI u 9 = nI a ↔ tk t n i = a) := fun a ha => by rw [h9]; exact nI_eq (by omega) (by omega)
  have h31 : tk t n i = 40 ∨ g 1 d < 60 → wp_X3_takeBeginning_31 u Q := by
    intro hor
    refine br_b (fun c => k2 ((q 2 (by decide)).mp c) ?_) (fun c2 => br_b (fun c => k3 ((q 3 (by decide)).mp c) ?_) (fun c3 => br_b (fun c => k4 (Or.inl ((q 4 (by decide)).mp c)) ?_) (fun c4 => br_b (fun c => k4 (Or.inr ((q 7 (by decide)).mp c)) ?_) (fun c7 => br_b (fun c => k9 ((q 9 (by decide)).mp c) ?_) (fun c9 => br_b (fun c => k40 ((q 40 (by decide)).mp c)) (fun c40 => br_b (fun c => k45 ((q 45 (by decide)).mp c) ?_) (fun c45 => c_fail h (kx ?_ ?_ ?_ ?_ ?_ ?_ ?_))))))))
    · have := (q 2 (by decide)).mp c; omega
    · have := (q 3 (by decide)).mp c; omega
    · have := (q 4 (by decide)).mp c; omega
    · have := (q 7 (by decide)).mp c; omega
    · have := (q 9 (by decide)).mp c; omega
    · have := (q 45 (by decide)).mp c; omega
    · exact fun e => c40 ((q 40 (by decide)).mpr e)
    · exact fun e => c2 ((q 2 (by decide)).mpr e)
    · exact fun e => c3 ((q 3 (by decide)).mpr e)
    · exact fun e => c4 ((q 4 (by decide)).mpr e)
    · exact fun e => c7 ((q 7 (by decide)).mpr e)
    · exact fun e => c9 ((q 9 (by decide)).mpr e)
    · exact fun e => c45 ((q 45 (by decide)).mpr e)
  refine br_b (fun c => h31 (Or.inl ((q 40 (by decide)).mp c))) (fun c => c_isFull h hd hn ?_)
  have c' : tk t n i ≠ 40 := fun e => c ((q 40 (by decide)).mpr e)
  by_cases h60 : 60 ≤ g 1 d
  · rw [decide_eq_true h60]
    exact br_n (by decide) (c_fail h (kf c' (by omega)))
  · rw [decide_eq_false h60]
    exact br_p rfl (h31 (Or.inr (by omega)))
theorem c_iol {t : Nat → Nat} {n : Nat} {u0 u : St} {g : Nat → Nat → Nat} {L : Nat → List Nat} {d : Nat} {l : List (Nat × Nat)} {i du la : Nat} {e : Nat × Nat} (h : RC t n u0 g L d (e :: l) i du la u) (hd : d < 12) (hl : l.length < 81) (he : 2 ≤ e.1 → dm g (d + 1) e.2 ∧ lvK (g 5 e.2) = lvT e.1 ∧ g 5 e.2 < 1000) (h47 : tk t n i = 4 ∨ tk t n i = 7) {Q : St → Prop} (k4 : tk t n i = 4 → lvT e.1 = 0 → wp_X3_beginPart u 5 6 (fun _ => Q)) (k7 : tk t n i = 7 → lvT e.1 = 0 → wp_X3_beginPart u 6 13 (fun _ => Q)) (kn : lvT e.1 ≠ 0 → ∀ U, FlC n u0 (tp t n i) U → Q U) : wp_X3_takeIfOrLet u Q := by
  have h9 := h.2.1.2.2.1
  have hlt := lvT_le e.1
  refine c_inner h hl (c_level h hd he rfl ?_)
  refine br_b (fun c => br_p rfl (br_b (fun c4 => k4 ?_ ?_) (fun c4 => k7 ?_ ?_))) (fun c => br_n (by decide) (c_fail h (kn ?_)))
  · rw [h9] at c4; simp (disch := omega) only [ln_0, ln_1, ln_2, ln_3, ln_4, ln_5, ln_6, ln_7, ln_8, ln_9, ln_10, ln_11, ln_12, ln_13, ln_14, ln_15, ln_16, ln_17, ln_18, ln_19, ln_20, ln_21, ln_22, ln_23, ln_24, ln_25, ln_26, ln_27, ln_28, ln_29, ln_30, ln_31, ln_32, ln_33, ln_34, ln_35, ln_36, ln_37, ln_38, ln_39, ln_40, ln_41, ln_42, ln_43, ln_44, ln_45, ln_46, ln_47, ln_48, ln_49, ln_50, ln_51, ln_52, ln_53, ln_54, ln_55, ln_56, ln_57, ln_58, ln_59, ln_60, ln_61, ln_62, ln_91, ln_93, ln_97, ln_122, ln_120, ln_123, ln_124, ln_255, ln_256, ln_300, ln_720, ln_1500, ln_12000, ln_18000, nI_leI, nI_ltI, nI_eq] at c4; exact c4
  · have : (0 : Int32) = nI 0 := rfl
    rw [this, nI_leI (by omega) (by omega)] at c; omega
  · rw [h9] at c4; simp (disch := omega) only [ln_0, ln_1, ln_2, ln_3, ln_4, ln_5, ln_6, ln_7, ln_8, ln_9, ln_10, ln_11, ln_12, ln_13, ln_14, ln_15, ln_16, ln_17, ln_18, ln_19, ln_20, ln_21, ln_22, ln_23, ln_24, ln_25, ln_26, ln_27, ln_28, ln_29, ln_30, ln_31, ln_32, ln_33, ln_34, ln_35, ln_36, ln_37, ln_38, ln_39, ln_40, ln_41, ln_42, ln_43, ln_44, ln_45, ln_46, ln_47, ln_48, ln_49, ln_50, ln_51, ln_52, ln_53, ln_54, ln_55, ln_56, ln_57, ln_58, ln_59, ln_60, ln_61, ln_62, ln_91, ln_93, ln_97, ln_122, ln_120, ln_123, ln_124, ln_255, ln_256, ln_300, ln_720, ln_1500, ln_12000, ln_18000, nI_leI, nI_ltI, nI_eq] at c4; omega
  · have : (0 : Int32) = nI 0 := rfl
    rw [this, nI_leI (by omega) (by omega)] at c; omega
  · have : (0 : Int32) = nI 0 := rfl
    rw [this, nI_leI (by omega) (by omega)] at c; omega
theorem c_name {t : Nat → Nat} {n : Nat} {u0 u : St} {g : Nat → Nat → Nat} {L : Nat → List Nat} {d : Nat} {l : List (Nat × Nat)} {i du la : Nat} (h : RC t n u0 g L d l i du la u) (hG : GIv n g L d l i) (h2 : tk t n i = 2) (hn : g 1 d < 60) {Q : St → Prop} (kc : parN t n (te t n i) = true → ∀ U la', RC t n u0 (up (up (addP g d 7 0) 7 (60 * d + g 1 d) (nmT t n i)) 8 (60 * d + g 1 d) (tp t n i)) (upL L (60 * d + g 1 d) []) d ((7, 60 * d + g 1 d) :: l) i 8 la' U → Q U) (kl : parN t n (te t n i) = false → ∀ p0, ltF g (nmT t n i) l = p0 + 1 → ∀ U, RC t n u0 (addP g d 3 p0) (upL L (60 * d + g 1 d) []) d l i 7 (60 * d + g 1 d) U → Q U) (ka : parN t n (te t n i) = false → ltF g (nmT t n i) l = 0 → fnd (g 4) (nmT t n i) (g 0 d) 0 < g 0 d → ∀ U, RC t n u0 (addP g d 2 (fnd (g 4) (nmT t n i) (g 0 d) 0)) (upL L (60 * d + g 1 d) []) d l i 7 (60 * d + g 1 d) U → Q U) (kn : parN t n (te t n i) = false → ltF g (nmT t n i) l = 0 → fnd (g 4) (nmT t n i) (g 0 d) 0 = g 0 d → ∀ U, FlC n u0 (tp t n i) U → Q U) : wp_X3_takeName u Q := by
  obtain ⟨hl81, hls, hl1, hl2⟩ := GI_len hG
  obtain ⟨a1, a2, a3, a4, a5, a6, a7, a8, a9⟩ := hG
  have hte := tp_te (t := t) a2
  have hNC := nmT_NC a2 (Or.inl h2)
  have hnm : gL u 0 = lN (nmT t n i) := h.2.1.2.2.2.1 (Or.inl h2)
  have hn15 : n ≤ 1500 := h.1.1
  refine parC h.1 h.2.1.2.1 hte.2.2.1 ?_
  cases hpar : parN t n (te t n i) with
  | true =>
    refine br_n (by decide) (c_beginPart h a1 hn (tag := 7) (by decide) (by decide) rfl rfl (hl1 hn) (fun U la' hU => ?_))
    exact c_keep hU a1 (dm_new (by omega) hn) (Or.inl h2) rfl (fun V hV => kc hpar V la' hV)
  | false =>
    refine br_p rfl ?_
    refine c_letNamed h a1 hl81 (fun x hx hx2 => ?_) hNC.1 hnm ?_
    · obtain ⟨c1, c2, c3, c4⟩ := StO_mem a6 x hx hx2
      obtain ⟨q1, q2, q3, q4, q5, q6⟩ := TgO_lv c4
      exact ⟨c1, q2, by omega, q5, fun h6 => ⟨((a5.1 _ c1).2.2.1 (q6 h6)).1, q6 h6⟩⟩
    refine c_argNamed h a1 (a3 d (Nat.le_refl _)).1 a4 hNC.1 hnm ?_
    have hfl := fnd_le (g 4) (nmT t n i) (g 0 d) 0
    have har := (a3 d (Nat.le_refl _)).1
    cases hlt : ltF g (nmT t n i) l with
    | succ p0 =>
      have hp0 : p0 < 720 := by
        have key : ∀ l', (∀ x ∈ l', x ∈ l) → ltF g (nmT t n i) l' = p0 + 1 → p0 < 720 := by
          intro l'
          induction l' with
          | nil => intro _ h; cases h
          | cons x l' ih =>
            intro hs h
            simp only [ltF] at h
            split at h
            · next hc =>
              have := dm_lt (StO_mem a6 x (hs x List.mem_cons_self) (by omega)).1 (by omega)
              omega
            · exact ih (fun y hy => hs y (List.mem_cons_of_mem _ hy)) h
        exact key l (fun x hx => hx) hlt
      refine br_n ?_ (c_leaf h a1 hn rfl (nu := p0) ?_ (fun U hU => kl hpar p0 hlt U hU))
      · unfold rL; rw [if_neg (by omega)]; exact nI_m1 (by omega)
      · unfold rL; rw [if_neg (by omega)]; rfl
    | zero =>
      refine br_p rfl ?_
      by_cases hf : fnd (g 4) (nmT t n i) (g 0 d) 0 = g 0 d
      · refine br_p ?_ (c_fail h (kn hpar hlt hf))
        unfold rF; rw [if_pos hf]
      · refine br_n ?_ (c_leaf h a1 hn rfl (nu := fnd (g 4) (nmT t n i) (g 0 d) 0) ?_ (fun U hU => ka hpar hlt (by omega) U hU))
        · unfold rF; rw [if_neg hf]; exact nI_m1 (by omega)
        · unfold rF; rw [if_neg hf]
