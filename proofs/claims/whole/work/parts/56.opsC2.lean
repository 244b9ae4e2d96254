/-! 56.opsC2: more of them -/
theorem c_keep {t : Nat → Nat} {n : Nat} {u0 u : St} {g : Nat → Nat → Nat} {L : Nat → List Nat} {d : Nat} {l : List (Nat × Nat)} {i du la : Nat} (h : RC t n u0 g L d l i du la u) (hd : d < 12) {p : Nat} (hp : dm g (d + 1) p) (hk : tk t n i = 2 ∨ (4 ≤ tk t n i ∧ tk t n i ≤ 9)) {x : Int32} (hx : x = nI p) {P : St → Prop} (k : ∀ U, RC t n u0 (up (up g 7 p (nmT t n i)) 8 p (tp t n i)) L d l i du la U → P U) : wp_X3_keepName u x P := by
  subst hx
  obtain ⟨hT, hK, hF, hC, ⟨h12, h1, h6, h5⟩, hla, hR, h2, h3, hS⟩ := h
  have hp7 := dm_lt hp (by omega)
  have hin : vp_in (nI p) 720 := inN hp7 (by decide)
  refine br_n (nI_pos (by omega)) ⟨hin, nm_i ⟨hin, nm_i ?_⟩⟩
  refine k _ ⟨hT, hK, ⟨hF.1, hF.2.1, hF.2.2.1, fun j hj => ?_⟩, ⟨fun j hj => ?_, fun q hq => ?_⟩, ⟨h12, h1, h6, h5⟩, hla, ⟨fun j hj => ?_, fun j hj => ?_⟩, h2, h3, hS⟩
  · rw [← hF.2.2.2 j hj]; simp only [gA_sB, gA_sA, if_neg (show j ≠ 12 by omega)]
  · rw [up_f (by decide), up_f (by decide), up_f (f' := 1) (by decide), up_f (f' := 1) (by decide), up_f (f' := 3) (by decide), up_f (f' := 3) (by decide)]
    exact hC.1 j hj
  · have hq2 : dm g (d + 1) q := hq
    obtain ⟨r1, r2, r3, r4, r5⟩ := hC.2 q hq2
    rw [up_f (f' := 5) (by decide), up_f (f' := 5) (by decide), up_f (f' := 6) (by decide), up_f (f' := 6) (by decide), up_f (f' := 7) (by decide), up_i, up_i, up_f (f' := 8) (by decide)]
    refine ⟨r1, r2, r3, r4, ?_⟩
    show _ → vp_updL (gB u 11) (ix (nI p)) (gL u 0) q = _ ∧ upd (gA u 12) (ix (nI p)) (gI u 10) q = _
    rw [ixN (by omega), updLE, updE]
    by_cases hqp : q = p
    · rw [if_pos hqp, if_pos hqp, if_pos hqp, if_pos hqp]; intro _
      exact ⟨hK.2.2.2.1 hk, hK.1⟩
    · rw [if_neg hqp, if_neg hqp, if_neg hqp, if_neg hqp]; exact r5
  · rw [up_f (by decide), up_f (by decide)]; exact hR.1 j hj
  · rw [up_f (by decide), up_f (by decide)] at hj ⊢; exact hR.2 j hj
theorem c_leaf {t : Nat → Nat} {n : Nat} {u0 u : St} {g : Nat → Nat → Nat} {L : Nat → List Nat} {d : Nat} {l : List (Nat × Nat)} {i du la : Nat} (h : RC t n u0 g L d l i du la u) (hd : d < 12) (hn : g 1 d < 60) {kd nu : Nat} {x2 x3 : Int32} (e2 : x2 = nI kd) (e3 : x3 = nI nu) {P : St → Prop} (k : ∀ U, RC t n u0 (addP g d kd nu) (upL L (60 * d + g 1 d) []) d l i 7 (60 * d + g 1 d) U → P U) : wp_X3_addLeaf u x2 x3 P := by
  refine c_addPart h hd hn rfl e2 e3 (fun U hU => nm_i (nm_i ?_))
  obtain ⟨hT, hK, hF, hC, ⟨h12, h1, h6, h5⟩, hla, hR, h2, h3, hS⟩ := hU
  exact k _ ⟨hT, hK, hF, hC, ⟨h12, h1, h6, rfl⟩, fun _ => rfl, hR, h2, h3, hS⟩
theorem c_beginPart {t : Nat → Nat} {n : Nat} {u0 u : St} {g : Nat → Nat → Nat} {L : Nat → List Nat} {d : Nat} {l : List (Nat × Nat)} {i du la : Nat} (h : RC t n u0 g L d l i du la u) (hd : d < 12) (hn : g 1 d < 60) {kd du' : Nat} (tag : Nat) (ht : 2 ≤ tag) (hdu : du' ≠ 7) {x2 x3 : Int32} (e2 : x2 = nI kd) (e3 : x3 = nI du') (hl : l.length < 81) {P : Int32 → St → Prop} (k : ∀ U la', RC t n u0 (addP g d kd 0) (upL L (60 * d + g 1 d) []) d ((tag, 60 * d + g 1 d) :: l) i du' la' U → P (nI (60 * d + g 1 d)) U) : wp_X3_beginPart u x2 x3 P := by
  refine c_addPart h hd hn rfl e2 rfl (fun U hU => ?_)
  exact c_begin hU (e := (tag, 60 * d + g 1 d)) (by show tag ≠ 1; omega) hdu (cdE_2 ht).symm e3 hl (fun V la' hV => k V la' hV)
theorem dm_new {g : Nat → Nat → Nat} {m d kd nu : Nat} (hd : d < m) (hn : g 1 d < 60) : dm (addP g d kd nu) m (60 * d + g 1 d) := (dm_add hd hn).mpr (Or.inr rfl)
theorem upL_s {L : Nat → List Nat} {p : Nat} {x : List Nat} : upL L p x p = x := by rw [upL_i, if_pos rfl]
theorem upL_2 {L : Nat → List Nat} {p : Nat} {x y : List Nat} : upL (upL L p x) p y = upL L p y := by
  funext q; simp only [upL_i]; split <;> rfl
theorem c_behind {t : Nat → Nat} {n : Nat} {u0 u : St} {g : Nat → Nat → Nat} {L : Nat → List Nat} {d : Nat} {l : List (Nat × Nat)} {i la : Nat} (h : RC t n u0 g L d l i 7 la u) (hd : d < 12) (hn : g 1 d < 60) {kd : Nat} (tag : Nat) (ht : 2 ≤ tag) {x2 : Int32} (e2 : x2 = nI kd) (hl : l.length < 81) {P : St → Prop} (k : ∀ U la', RC t n u0 (addP g d kd 0) (upL L (60 * d + g 1 d) [la]) d ((tag, 60 * d + g 1 d) :: l) i 6 la' U → P U) : wp_X3_beginPartBehind u x2 P := by
  refine nm_i ?_
  refine c_beginPart h hd hn tag ht (by decide) e2 rfl hl (fun U la' hU => ?_)
  refine c_attach hU hd (dm_new (by omega) hn) (by rw [upL_s]; decide) rfl (h.2.2.2.2.2.1 rfl) (fun V hV => k V la' ?_)
  rw [upL_s, upL_2] at hV; exact hV
/-- the first of f j, f (j+1) .. (k of them) that is e, or j + k -/
def fnd (f : Nat → Nat) (e : Nat) : Nat → Nat → Nat
  | 0, j => j
  | k + 1, j => if f j = e then j else fnd f e k (j + 1)
def rF (f : Nat → Nat) (e m : Nat) : Int32 := if fnd f e m 0 = m then -1 else nI (fnd f e m 0)
theorem fnd_le (f : Nat → Nat) (e : Nat) : ∀ k j, j ≤ fnd f e k j ∧ fnd f e k j ≤ j + k ∧ (fnd f e k j < j + k → f (fnd f e k j) = e) ∧ (∀ q, j ≤ q → q < fnd f e k j → f q ≠ e) := by
  intro k
  induction k with
  | zero => intro j; exact ⟨Nat.le_refl _, Nat.le_refl _, fun h => absurd h (by simp [fnd]), fun q h1 h2 => by simp only [fnd] at h2; omega⟩
  | succ k ih =>
    intro j
    simp only [fnd]
    split
    · next h => exact ⟨Nat.le_refl _, by omega, fun _ => h, fun q h1 h2 => by omega⟩
    · next h =>
      obtain ⟨h1, h2, h3, h4⟩ := ih (j + 1)
      refine ⟨by omega, by omega, fun h5 => h3 (by omega), fun q hq1 hq2 => ?_⟩
      by_cases hqj : q = j
      · rw [hqj]; exact h
      · exact h4 q (by omega) hq2
theorem c_argNamed {t : Nat → Nat} {n : Nat} {u0 u : St} {g : Nat → Nat → Nat} {L : Nat → List Nat} {d : Nat} {l : List (Nat × Nat)} {i du la : Nat} (h : RC t n u0 g L d l i du la u) (hd : d < 12) (ha : g 0 d ≤ 6) (hN : ∀ k, k < g 0 d → NC (g 4 k)) {e : Nat} (he : NC e) {x : Int64} (hx : x = lN e) {P : Int32 → St → Prop} (k : P (rF (g 4) e (g 0 d)) u) : wp_X3_argumentNamed u x P := by
  subst hx
  obtain ⟨hT, hK, hF, hC, ⟨h12, h1, h6, h5⟩, hla, hR, h2, h3, hS⟩ := h
  have key : ∀ m j, j + m = g 0 d → fnd (g 4) e (g 0 d) 0 = fnd (g 4) e m j → wp_X3_argumentNamed_2 P (m + 1) u (lN e) (nI j) := by
    intro m
    induction m with
    | zero =>
      intro j hj hf
      refine ⟨by rw [h1]; exact inN hd (by decide), br_p ?_ ?_⟩
      · rw [h1, ixN (by omega), (hC.1 d (by omega)).1]; simp (disch := omega) only [nI_leI, nI_ltI, nI_eq]; omega
      · unfold rF at k; rw [if_pos (by rw [hf]; exact hj)] at k; exact k
    | succ m ih =>
      intro j hj hf
      simp only [fnd] at hf
      refine ⟨by rw [h1]; exact inN hd (by decide), br_n ?_ ⟨inN (by omega) (by decide), ?_⟩⟩
      · rw [h1, ixN (by omega), (hC.1 d (by omega)).1]; simp (disch := omega) only [nI_leI, nI_ltI, nI_eq]; omega
      · rw [ixN (by omega), hR.2 j (by omega)]
        refine br_b (fun c => ?_) (fun c => nm_i ?_)
        · have c := (nC_eq (hN j (by omega)) he).mp c
          rw [if_pos c] at hf
          unfold rF at k; rw [if_neg (by omega), hf] at k; exact k
        · have c := fun h => c ((nC_eq (hN j (by omega)) he).mpr h)
          rw [if_neg c] at hf
          rw [nI_1]; exact ih (j + 1) (by omega) hf
  exact ⟨g 0 d + 1, key (g 0 d) 0 (by omega) rfl⟩
theorem c_defNamed {u : St} {g : Nat → Nat → Nat} {d : Nat} (hd : d ≤ 12) (h12 : gI u 12 = nI d) (hC : ∀ k, k < d → gB u 9 k = lN (g 3 k)) (hN : ∀ k, k < d → NC (g 3 k)) {e : Nat} (he : NC e) {x : Int64} (hx : x = lN e) {P : Int32 → St → Prop} (k : P (rF (g 3) e d) u) : wp_X3_definitionNamed u x P := by
  subst hx
  have key : ∀ m j, j + m = d → fnd (g 3) e d 0 = fnd (g 3) e m j → wp_X3_definitionNamed_2 P (m + 1) u (lN e) (nI j) := by
    intro m
    induction m with
    | zero =>
      intro j hj hf
      refine br_p ?_ ?_
      · rw [h12]; simp (disch := omega) only [nI_leI, nI_ltI, nI_eq]; omega
      · unfold rF at k; rw [if_pos (by rw [hf]; exact hj)] at k; exact k
    | succ m ih =>
      intro j hj hf
      simp only [fnd] at hf
      refine br_n ?_ ⟨inN (by omega) (by decide), ?_⟩
      · rw [h12]; simp (disch := omega) only [nI_leI, nI_ltI, nI_eq]; omega
      · rw [ixN (by omega), hC j (by omega)]
        refine br_b (fun c => ?_) (fun c => nm_i ?_)
        · have c := (nC_eq (hN j (by omega)) he).mp c
          rw [if_pos c] at hf
          unfold rF at k; rw [if_neg (by omega), hf] at k; exact k
        · have c := fun h => c ((nC_eq (hN j (by omega)) he).mpr h)
          rw [if_neg c] at hf
          rw [nI_1]; exact ih (j + 1) (by omega) hf
  exact ⟨d + 1, key d 0 (by omega) rfl⟩
theorem i32_m1 (x : Int32) : x + -1 = x - 1 := (Int32.sub_eq_add_neg x 1).symm
/-- the innermost let of that name, or 0 -/
def ltF (g : Nat → Nat → Nat) (e : Nat) : List (Nat × Nat) → Nat
  | [] => 0
  | x :: l => if x.1 = 6 ∧ g 7 x.2 = e then x.2 + 1 else ltF g e l
def rL (k : Nat) : Int32 := if k = 0 then -1 else nI (k - 1)
theorem c_letNamed {t : Nat → Nat} {n : Nat} {u0 u : St} {g : Nat → Nat → Nat} {L : Nat → List Nat} {d : Nat} {l : List (Nat × Nat)} {i du la : Nat} (h : RC t n u0 g L d l i du la u) (hd : d < 12) (hl : l.length ≤ 81) (hN : ∀ x ∈ l, 2 ≤ x.1 → dm g (d + 1) x.2 ∧ g 5 x.2 < 1000 ∧ (L x.2).length < 10000 ∧ (x.1 = 6 ↔ g 5 x.2 = 6 ∧ (L x.2).length = 1) ∧ (x.1 = 6 → NC (g 7 x.2) ∧ g 7 x.2 ≠ 0)) {e : Nat} (he : NC e) {x : Int64} (hx : x = lN e) {P : Int32 → St → Prop} (k : P (rL (ltF g e l)) u) : wp_X3_letNamed u x P := by
  subst hx
  obtain ⟨hT, hK, hF, hC, ⟨h12, h1, h6, h5⟩, hla, hR, h2, h3, hS⟩ := h
  have key : ∀ l' : List (Nat × Nat), l'.length ≤ 81 → (∀ x ∈ l', 2 ≤ x.1 → dm g (d + 1) x.2 ∧ g 5 x.2 < 1000 ∧ (L x.2).length < 10000 ∧ (x.1 = 6 ↔ g 5 x.2 = 6 ∧ (L x.2).length = 1) ∧ (x.1 = 6 → NC (g 7 x.2) ∧ g 7 x.2 ≠ 0)) → CS (gA u 13) l' → ltF g e l = ltF g e l' → ∀ y : Int32, y = nI l'.length - 1 → wp_X3_letNamed_7 P (l'.length + 1) u (lN e) y := by
    intro l'
    induction l' with
    | nil =>
      intro _ _ _ hf y hy
      rw [hf] at k
      subst hy
      exact br_p (by decide) k
    | cons a l' ih =>
      intro hlen hq hs hf y hy
      have e1 : y = nI l'.length := by rw [hy]; exact nI_pred _
      subst e1
      simp only [List.length_cons] at hlen
      refine br_n (nI_pos (by omega)) ⟨inN (by omega) (by decide), nm_i ?_⟩
      rw [ixN (by omega), hs.1]
      have nx : ltF g e l = ltF g e l' → wp_X3_letNamed_68 (wp_X3_letNamed_7 P (l'.length + 1)) u (lN e) (nI l'.length) P := fun hf2 => nm_i (ih (by omega) (fun x hx => hq x (List.mem_cons_of_mem _ hx)) hs.2 hf2 _ (i32_m1 _))
      simp only [ltF] at hf
      by_cases ha : 2 ≤ a.1
      · obtain ⟨q1, q2, q2b, q3, q4⟩ := hq a (List.mem_cons_self) ha
        have hp := dm_lt q1 (by omega)
        obtain ⟨r1, r2, r3, r4, r5⟩ := hC.2 a.2 q1
        have hin : vp_in (nI a.2) 720 := inN hp (by decide)
        rw [cdE_2 ha]
        refine br_n (nI_pos (by omega)) ⟨hin, ?_⟩
        rw [ixN (by omega), r1, r3]
        refine br_b (fun c => ⟨hin, br_b (fun c2 => ⟨hin, ?_⟩) (fun c2 => nx ?_)⟩) (fun c => nx ?_)
        · simp (disch := omega) only [ln_0, ln_1, ln_2, ln_3, ln_4, ln_5, ln_6, ln_7, ln_8, ln_9, ln_10, ln_11, ln_12, ln_13, ln_14, ln_15, ln_16, ln_17, ln_18, ln_19, ln_20, ln_21, ln_22, ln_23, ln_24, ln_25, ln_26, ln_27, ln_28, ln_29, ln_30, ln_31, ln_32, ln_33, ln_34, ln_35, ln_36, ln_37, ln_38, ln_39, ln_40, ln_41, ln_42, ln_43, ln_44, ln_45, ln_46, ln_47, ln_48, ln_49, ln_50, ln_51, ln_52, ln_53, ln_54, ln_55, ln_56, ln_57, ln_58, ln_59, ln_60, ln_61, ln_62, ln_91, ln_93, ln_97, ln_122, ln_120, ln_123, ln_124, ln_255, ln_256, ln_300, ln_720, ln_1500, ln_12000, ln_18000, nI_leI, nI_ltI, nI_eq] at c c2
          have h6' := q3.mpr ⟨c, c2⟩
          obtain ⟨n1, n2⟩ := q4 h6'
          rw [(r5 n2).1]
          refine br_b (fun c3 => ?_) (fun c3 => nx ?_)
          · have c3 := (nC_eq n1 he).mp c3
            rw [if_pos ⟨h6', c3⟩] at hf
            rw [hf] at k; exact k
          · have c3 := fun h => c3 ((nC_eq n1 he).mpr h)
            rw [if_neg (fun h => c3 h.2)] at hf; exact hf
        · simp (disch := omega) only [ln_0, ln_1, ln_2, ln_3, ln_4, ln_5, ln_6, ln_7, ln_8, ln_9, ln_10, ln_11, ln_12, ln_13, ln_14, ln_15, ln_16, ln_17, ln_18, ln_19, ln_20, ln_21, ln_22, ln_23, ln_24, ln_25, ln_26, ln_27, ln_28, ln_29, ln_30, ln_31, ln_32, ln_33, ln_34, ln_35, ln_36, ln_37, ln_38, ln_39, ln_40, ln_41, ln_42, ln_43, ln_44, ln_45, ln_46, ln_47, ln_48, ln_49, ln_50, ln_51, ln_52, ln_53, ln_54, ln_55, ln_56, ln_57, ln_58, ln_59, ln_60, ln_61, ln_62, ln_91, ln_93, ln_97, ln_122, ln_120, ln_123, ln_124, ln_255, ln_256, ln_300, ln_720, ln_1500, ln_12000, ln_18000, nI_leI, nI_ltI, nI_eq] at c2
          rw [if_neg (fun h => c2 (q3.mp h.1).2)] at hf; exact hf
        · simp (disch := omega) only [ln_0, ln_1, ln_2, ln_3, ln_4, ln_5, ln_6, ln_7, ln_8, ln_9, ln_10, ln_11, ln_12, ln_13, ln_14, ln_15, ln_16, ln_17, ln_18, ln_19, ln_20, ln_21, ln_22, ln_23, ln_24, ln_25, ln_26, ln_27, ln_28, ln_29, ln_30, ln_31, ln_32, ln_33, ln_34, ln_35, ln_36, ln_37, ln_38, ln_39, ln_40, ln_41, ln_42, ln_43, ln_44, ln_45, ln_46, ln_47, ln_48, ln_49, ln_50, ln_51, ln_52, ln_53, ln_54, ln_55, ln_56, ln_57, ln_58, ln_59, ln_60, ln_61, ln_62, ln_91, ln_93, ln_97, ln_122, ln_120, ln_123, ln_124, ln_255, ln_256, ln_300, ln_720, ln_1500, ln_12000, ln_18000, nI_leI, nI_ltI, nI_eq] at c
          rw [if_neg (fun h => c (q3.mp h.1).1)] at hf; exact hf
      · have hc : cdE a < 0 := by
          rcases (show a.1 = 0 ∨ a.1 = 1 by omega) with h0 | h0
          · unfold cdE; rw [if_pos h0]; decide
          · unfold cdE; rw [if_neg (by omega), if_pos h0]; decide
        rw [if_neg (fun h => by omega)] at hf
        exact br_p hc (nx hf)
  refine nm_i ⟨l.length + 1, key l hl hN hS rfl _ ?_⟩
  rw [h2]
/-- the signs from a level on end -/
def popS (fl : Nat) : List (Nat × Nat) → (Nat → List Nat) → Nat → List (Nat × Nat) × (Nat → List Nat) × Nat
  | [], L, la => ([], L, la)
  | e :: l, L, la => if fl ≤ lvT e.1 then popS fl l (upL L e.2 (L e.2 ++ [la])) e.2 else (e :: l, L, la)
theorem upL_len {L : Nat → List Nat} {p c q : Nat} : (upL L p (L p ++ [c]) q).length ≤ (L q).length + 1 := by
  rw [upL_i]; split
  · next h => rw [List.length_append, h]; exact Nat.le_refl _
  · omega
theorem lvT_2 {e : Nat} (h : 1 ≤ lvT e) : 2 ≤ e := by unfold lvT at h; repeat' split at h <;> try omega
theorem lvT_le (e : Nat) : lvT e ≤ 4 := by unfold lvT; repeat' split <;> try omega
theorem c_endSigns {t : Nat → Nat} {n : Nat} {u0 : St} {g : Nat → Nat → Nat} {d i : Nat} (hd : d < 12) {fl : Nat} (hfl : 1 ≤ fl) (hfl4 : fl ≤ 4) {P : St → Prop} : ∀ (l : List (Nat × Nat)) (L : Nat → List Nat) (la : Nat) (u : St), RC t n u0 g L d l i 7 la u → l.length ≤ 81 → (∀ x ∈ l, 2 ≤ x.1 → (dm g (d + 1) x.2 ∧ lvK (g 5 x.2) = lvT x.1 ∧ g 5 x.2 < 1000) ∧ (L x.2).length + l.length < 10000) → (∀ U, RC t n u0 g (popS fl l L la).2.1 d (popS fl l L la).1 i 7 (popS fl l L la).2.2 U → P U) → ∀ m, l.length + 1 ≤ m → wp_X3_endSigns_5 P m u (nI fl) (nI l.length) := by
  intro l
  induction l with
  | nil =>
    intro L la u h hl hN k m hm
    obtain ⟨m, rfl⟩ : ∃ m', m = m' + 1 := ⟨m - 1, by omega⟩
    exact br_p (by decide) (k u h)
  | cons e l ih =>
    intro L la u h hl hN k m hm
    obtain ⟨m, rfl⟩ : ∃ m', m = m' + 1 := ⟨m - 1, by omega⟩
    simp only [List.length_cons] at hl hm
    have q1 := fun h => (hN e List.mem_cons_self h).1
    have hlt := lvT_le e.1
    refine br_n (nI_nle (by simp) (by simp only [List.length_cons]; omega)) (c_inner h (by omega) (c_level h hd q1 rfl ?_))
    simp only [popS] at k
    refine br_b (fun c => ?_) (fun c => ?_)
    · simp (disch := omega) only [nI_leI, nI_ltI, nI_eq] at c
      rw [if_neg (by omega)] at k; exact k u h
    · simp (disch := omega) only [nI_leI, nI_ltI, nI_eq] at c
      rw [if_pos (by omega)] at k
      have h2 : 2 ≤ e.1 := lvT_2 (by omega)
      have q2 := (hN e List.mem_cons_self h2).2
      simp only [List.length_cons] at q2
      refine c_endLatest h hd h2 (by omega) (q1 h2).1 (by omega) (fun U hU => nm_i ?_)
      have e1 : nI (e :: l).length + -1 = nI l.length := pk_m1 l.length
      rw [e1]
      refine ih _ _ U hU (by omega) (fun x hx hx2 => ⟨(hN x (List.mem_cons_of_mem _ hx) hx2).1, ?_⟩) k m (by omega)
      have := (hN x (List.mem_cons_of_mem _ hx) hx2).2
      have := upL_len (L := L) (p := e.2) (c := la) (q := x.2)
      simp only [List.length_cons] at *
      omega
/-- the last expressions of if and let end -/
def popE : List (Nat × Nat) → (Nat → List Nat) → Nat → List (Nat × Nat) × (Nat → List Nat) × Nat
  | [], L, la => ([], L, la)
  | e :: l, L, la => if e.1 = 4 ∨ e.1 = 6 then popE l (upL L e.2 (L e.2 ++ [la])) e.2 else (e :: l, L, la)
theorem c_isLast {t : Nat → Nat} {n : Nat} {u0 u : St} {g : Nat → Nat → Nat} {L : Nat → List Nat} {d : Nat} {l : List (Nat × Nat)} {i du la : Nat} (h : RC t n u0 g L d l i du la u) (hd : d < 12) {e : Nat × Nat} (he : 2 ≤ e.1 → dm g (d + 1) e.2 ∧ g 5 e.2 < 1000 ∧ (L e.2).length < 10000 ∧ (e.1 = 4 ↔ g 5 e.2 = 5 ∧ (L e.2).length = 2) ∧ (e.1 = 6 ↔ g 5 e.2 = 6 ∧ (L e.2).length = 1)) {x : Int32} (hx : x = cdE e) {P : Int32 → St → Prop} (k : P (b2i (decide (e.1 = 4 ∨ e.1 = 6))) u) : wp_X3_isInLastExpression u x P := by
  subst hx
  obtain ⟨hT, hK, hF, hC, ⟨h12, h1, h6, h5⟩, hla, hR, h2, h3, hS⟩ := h
  have kn : ¬ (e.1 = 4 ∨ e.1 = 6) → bz 0 ∧ P 0 u := fun hn => ⟨bz0, by rw [decide_eq_false hn] at k; exact k⟩
  have ky : (e.1 = 4 ∨ e.1 = 6) → bz 1 ∧ P 1 u := fun hn => ⟨bz1, by rw [decide_eq_true hn] at k; exact k⟩
  by_cases h2e : 2 ≤ e.1
  · obtain ⟨q1, q2, q2b, q3, q4⟩ := he h2e
    have hp := dm_lt q1 (by omega)
    obtain ⟨r1, r2, r3, r4, r5⟩ := hC.2 e.2 q1
    have hin : vp_in (nI e.2) 720 := inN hp (by decide)
    rw [cdE_2 h2e]
    refine br_p (nI_0le (by omega)) ⟨hin, nm_i ?_⟩
    have c34 : ¬ e.1 = 4 → wp_X3_isInLastExpression_34 u (nI e.2) (gA u 18 (ix (nI e.2))) P := by
      intro h4
      unfold wp_X3_isInLastExpression_34
      rw [ixN (by omega), r1, r3]
      refine br_b (fun c => ⟨hin, br_b (fun c2 => ?_) (fun c2 => ?_)⟩) (fun c => ?_)
      · simp (disch := omega) only [ln_0, ln_1, ln_2, ln_3, ln_4, ln_5, ln_6, ln_7, ln_8, ln_9, ln_10, ln_11, ln_12, ln_13, ln_14, ln_15, ln_16, ln_17, ln_18, ln_19, ln_20, ln_21, ln_22, ln_23, ln_24, ln_25, ln_26, ln_27, ln_28, ln_29, ln_30, ln_31, ln_32, ln_33, ln_34, ln_35, ln_36, ln_37, ln_38, ln_39, ln_40, ln_41, ln_42, ln_43, ln_44, ln_45, ln_46, ln_47, ln_48, ln_49, ln_50, ln_51, ln_52, ln_53, ln_54, ln_55, ln_56, ln_57, ln_58, ln_59, ln_60, ln_61, ln_62, ln_91, ln_93, ln_97, ln_122, ln_120, ln_123, ln_124, ln_255, ln_256, ln_300, ln_720, ln_1500, ln_12000, ln_18000, nI_leI, nI_ltI, nI_eq] at c c2
        exact ky (Or.inr (q4.mpr ⟨c, c2⟩))
      · simp (disch := omega) only [ln_0, ln_1, ln_2, ln_3, ln_4, ln_5, ln_6, ln_7, ln_8, ln_9, ln_10, ln_11, ln_12, ln_13, ln_14, ln_15, ln_16, ln_17, ln_18, ln_19, ln_20, ln_21, ln_22, ln_23, ln_24, ln_25, ln_26, ln_27, ln_28, ln_29, ln_30, ln_31, ln_32, ln_33, ln_34, ln_35, ln_36, ln_37, ln_38, ln_39, ln_40, ln_41, ln_42, ln_43, ln_44, ln_45, ln_46, ln_47, ln_48, ln_49, ln_50, ln_51, ln_52, ln_53, ln_54, ln_55, ln_56, ln_57, ln_58, ln_59, ln_60, ln_61, ln_62, ln_91, ln_93, ln_97, ln_122, ln_120, ln_123, ln_124, ln_255, ln_256, ln_300, ln_720, ln_1500, ln_12000, ln_18000, nI_leI, nI_ltI, nI_eq] at c2
        exact kn (fun h => h.elim h4 (fun h => c2 (q4.mp h).2))
      · simp (disch := omega) only [ln_0, ln_1, ln_2, ln_3, ln_4, ln_5, ln_6, ln_7, ln_8, ln_9, ln_10, ln_11, ln_12, ln_13, ln_14, ln_15, ln_16, ln_17, ln_18, ln_19, ln_20, ln_21, ln_22, ln_23, ln_24, ln_25, ln_26, ln_27, ln_28, ln_29, ln_30, ln_31, ln_32, ln_33, ln_34, ln_35, ln_36, ln_37, ln_38, ln_39, ln_40, ln_41, ln_42, ln_43, ln_44, ln_45, ln_46, ln_47, ln_48, ln_49, ln_50, ln_51, ln_52, ln_53, ln_54, ln_55, ln_56, ln_57, ln_58, ln_59, ln_60, ln_61, ln_62, ln_91, ln_93, ln_97, ln_122, ln_120, ln_123, ln_124, ln_255, ln_256, ln_300, ln_720, ln_1500, ln_12000, ln_18000, nI_leI, nI_ltI, nI_eq] at c
        exact kn (fun h => h.elim h4 (fun h => c (q4.mp h).1))
    refine br_b (fun c => ⟨hin, br_b (fun c2 => ?_) (fun c2 => c34 ?_)⟩) (fun c => c34 ?_)
    · rw [ixN (by omega)] at c c2
      rw [r1] at c; rw [r3] at c2
      simp (disch := omega) only [ln_0, ln_1, ln_2, ln_3, ln_4, ln_5, ln_6, ln_7, ln_8, ln_9, ln_10, ln_11, ln_12, ln_13, ln_14, ln_15, ln_16, ln_17, ln_18, ln_19, ln_20, ln_21, ln_22, ln_23, ln_24, ln_25, ln_26, ln_27, ln_28, ln_29, ln_30, ln_31, ln_32, ln_33, ln_34, ln_35, ln_36, ln_37, ln_38, ln_39, ln_40, ln_41, ln_42, ln_43, ln_44, ln_45, ln_46, ln_47, ln_48, ln_49, ln_50, ln_51, ln_52, ln_53, ln_54, ln_55, ln_56, ln_57, ln_58, ln_59, ln_60, ln_61, ln_62, ln_91, ln_93, ln_97, ln_122, ln_120, ln_123, ln_124, ln_255, ln_256, ln_300, ln_720, ln_1500, ln_12000, ln_18000, nI_leI, nI_ltI, nI_eq] at c c2
      exact ky (Or.inl (q3.mpr ⟨c, c2⟩))
    · rw [ixN (by omega), r3] at c2
      simp (disch := omega) only [ln_0, ln_1, ln_2, ln_3, ln_4, ln_5, ln_6, ln_7, ln_8, ln_9, ln_10, ln_11, ln_12, ln_13, ln_14, ln_15, ln_16, ln_17, ln_18, ln_19, ln_20, ln_21, ln_22, ln_23, ln_24, ln_25, ln_26, ln_27, ln_28, ln_29, ln_30, ln_31, ln_32, ln_33, ln_34, ln_35, ln_36, ln_37, ln_38, ln_39, ln_40, ln_41, ln_42, ln_43, ln_44, ln_45, ln_46, ln_47, ln_48, ln_49, ln_50, ln_51, ln_52, ln_53, ln_54, ln_55, ln_56, ln_57, ln_58, ln_59, ln_60, ln_61, ln_62, ln_91, ln_93, ln_97, ln_122, ln_120, ln_123, ln_124, ln_255, ln_256, ln_300, ln_720, ln_1500, ln_12000, ln_18000, nI_leI, nI_ltI, nI_eq] at c2
      exact fun h => c2 (q3.mp h).2
    · rw [ixN (by omega), r1] at c
      simp (disch := omega) only [ln_0, ln_1, ln_2, ln_3, ln_4, ln_5, ln_6, ln_7, ln_8, ln_9, ln_10, ln_11, ln_12, ln_13, ln_14, ln_15, ln_16, ln_17, ln_18, ln_19, ln_20, ln_21, ln_22, ln_23, ln_24, ln_25, ln_26, ln_27, ln_28, ln_29, ln_30, ln_31, ln_32, ln_33, ln_34, ln_35, ln_36, ln_37, ln_38, ln_39, ln_40, ln_41, ln_42, ln_43, ln_44, ln_45, ln_46, ln_47, ln_48, ln_49, ln_50, ln_51, ln_52, ln_53, ln_54, ln_55, ln_56, ln_57, ln_58, ln_59, ln_60, ln_61, ln_62, ln_91, ln_93, ln_97, ln_122, ln_120, ln_123, ln_124, ln_255, ln_256, ln_300, ln_720, ln_1500, ln_12000, ln_18000, nI_leI, nI_ltI, nI_eq] at c
      exact fun h => c (q3.mp h).1
  · have hc : ¬ (0 : Int32) ≤ cdE e := by
      rcases (show e.1 = 0 ∨ e.1 = 1 by omega) with h0 | h0
      · unfold cdE; rw [if_pos h0]; decide
      · unfold cdE; rw [if_neg (by omega), if_pos h0]; decide
    exact br_n hc (kn (fun h => by omega))
theorem c_endLasts {t : Nat → Nat} {n : Nat} {u0 : St} {g : Nat → Nat → Nat} {d i : Nat} (hd : d < 12) {P : St → Prop} : ∀ (l : List (Nat × Nat)) (L : Nat → List Nat) (la : Nat) (u : St), RC t n u0 g L d l i 7 la u → l.length ≤ 81 → l ≠ [] → (∀ x ∈ l, 2 ≤ x.1 → dm g (d + 1) x.2 ∧ g 5 x.2 < 1000 ∧ (L x.2).length + l.length < 10000 ∧ (x.1 = 4 ↔ g 5 x.2 = 5 ∧ (L x.2).length = 2) ∧ (x.1 = 6 ↔ g 5 x.2 = 6 ∧ (L x.2).length = 1)) → (∀ e l', l = e :: l' → 2 ≤ e.1 → ∀ x ∈ l', 2 ≤ x.1 → x.2 ≠ e.2) → (∀ l1 e l2, l = l1 ++ e :: l2 → 2 ≤ e.1 → ∀ x ∈ l2, 2 ≤ x.1 → x.2 ≠ e.2) → ((l.getLastD (0, 0)).1 = 0) → (∀ U, RC t n u0 g (popE l L la).2.1 d (popE l L la).1 i 7 (popE l L la).2.2 U → wp_X3_endExpression_35 U P) → ∀ m, l.length + 1 ≤ m → wp_X3_endExpression_10 P m u (nI l.length) := by
  intro l
  induction l with
  | nil => intro L la u h hl hne; exact absurd rfl hne
  | cons e l ih =>
    intro L la u h hl hne hN hdj hdj2 hlast k m hm
    obtain ⟨m, rfl⟩ : ∃ m', m = m' + 1 := ⟨m - 1, by omega⟩
    simp only [List.length_cons] at hl hm
    refine br_n (nI_nle (by simp) (by simp only [List.length_cons]; omega)) (c_inner h (by omega) (c_isLast h hd (fun h2 => ?_) rfl ?_))
    · obtain ⟨q1, q2, q3, q4, q5⟩ := hN e List.mem_cons_self h2
      exact ⟨q1, q2, by omega, q4, q5⟩
    simp only [popE] at k
    by_cases hc : e.1 = 4 ∨ e.1 = 6
    · rw [decide_eq_true hc]
      rw [if_pos hc] at k
      have h2 : 2 ≤ e.1 := by omega
      obtain ⟨q1, q2, q3, q4, q5⟩ := hN e List.mem_cons_self h2
      refine br_n (by decide) (c_endLatest h hd h2 (by omega) q1 (by simp only [List.length_cons] at q3; omega) (fun U hU => nm_i ?_))
      have e1 : nI (e :: l).length + -1 = nI l.length := pk_m1 l.length
      rw [e1]
      have hlne : l ≠ [] := by
        intro hl0
        subst hl0
        simp at hlast
        omega
      have hll : (e :: l).getLastD (0, 0) = l.getLastD (0, 0) := by
        cases l with
        | nil => exact absurd rfl hlne
        | cons f l => rfl
      refine ih _ _ U hU (by omega) hlne (fun x hx hx2 => ?_) (fun f l' hfl hf2 => hdj2 [e] f l' (by rw [hfl]; rfl) hf2) (fun l1 f l2 hfl hf2 => hdj2 (e :: l1) f l2 (by rw [hfl]; rfl) hf2) (by rw [← hll]; exact hlast) k m (by omega)
      obtain ⟨r1, r2, r3, r4, r5⟩ := hN x (List.mem_cons_of_mem _ hx) hx2
      have hne2 := hdj e l rfl h2 x hx hx2
      rw [upL_i, if_neg hne2]
      simp only [List.length_cons] at r3
      exact ⟨r1, r2, by omega, r4, r5⟩
    · rw [decide_eq_false hc]
      rw [if_neg hc] at k
      exact br_p rfl (k u h)
