/-! 59.opsM3: arguments, names and variables in the reference -/
theorem m_partFull {t : Nat → Nat} {n : Nat} {v0 v : St} {b : Nat} {g : Nat → Nat → Nat} {L : Nat → List Nat} {d : Nat} {T : List (Nat × Nat)} {vs : List Nat} {ls : List (Nat × Nat)} {bk i : Nat} (h : RM t n v0 b g L d T vs ls bk i v) (hn : g 1 d = 60) {x1 x2 : Int32} {D : Nat} (hD : T.length ≤ D ∧ vs.length ≤ D) {P : Int32 → St → Prop} (k : ∀ V, FlM n v0 b (tp t n i) D V → P 0 V) : wp_X7_part v x1 x2 P := by
  have h9 := h.2.2.2.2.1.2.2.1
  refine br_p ?_ (m_need h false rfl hD (fun h => by cases h) (fun _ V hV => br_p hV.2.1 (k V hV)))
  rw [h9, hn]; decide
theorem Ch_app {nx : Nat → Int32} {o c z : Nat} (hc : nx (o + c) = -1) (hcz : c ≠ z) : ∀ {A : List Nat} {a : Int32}, Ch nx o a (A ++ [z]) → z ∉ A → Ch (upd nx (o + z) (nI (o + c))) o a (A ++ [z] ++ [c])
  | [], a, h, _ => ⟨h.1, by rw [updE, if_pos rfl], by rw [updE, if_neg (by omega)]; exact hc⟩
  | y :: A, a, h, hz => by
    have hy : y ≠ z := fun e => hz (by rw [e]; exact List.mem_cons_self)
    refine ⟨h.1, ?_⟩
    rw [updE, if_neg (by omega)]
    exact Ch_app hc hcz h.2 (fun hm => hz (List.mem_cons_of_mem _ hm))
theorem m_walk {P : St → Prop} {u : St} {o z : Nat} {x2 : Int32} (k : P (sA u 11 (o + z) x2)) : ∀ (A : List Nat) (x : Int32), Ch (gA u 11) o x (A ++ [z]) → (∀ y ∈ A ++ [z], o + y < 1440) → wp_X7_addArgument_35 P (A.length + 1) u x2 x
  | [], x, h, hb => by
    have hz := hb z (by simp)
    have e : x = nI (o + z) := h.1
    subst e
    refine ⟨inN hz (by decide), br_p ?_ ⟨inN hz (by decide), nm_i ?_⟩⟩
    · rw [ixN (by omega)]; exact h.2
    · rw [ixN (by omega)]; exact k
  | y :: A, x, h, hb => by
    have hy := hb y (by simp)
    have e : x = nI (o + y) := h.1
    subst e
    have h2 := m_walk k A (gA u 11 (o + y)) h.2 (fun y' hy' => hb y' (by simp at hy' ⊢; right; exact hy'))
    refine ⟨inN hy (by decide), br_n ?_ ⟨inN hy (by decide), nm_i ?_⟩⟩
    · rw [ixN (by omega)]
      cases A with
      | nil =>
        have e2 : gA u 11 (o + y) = nI (o + z) := h.2.1
        have := hb z (by simp)
        rw [e2]; exact nI_m1 (by omega)
      | cons w A =>
        have e2 : gA u 11 (o + y) = nI (o + w) := h.2.1
        have := hb w (by simp)
        rw [e2]; exact nI_m1 (by omega)
    · rw [ixN (by omega)]; exact h2
theorem m_arg {t : Nat → Nat} {n : Nat} {v0 v : St} {b : Nat} {g : Nat → Nat → Nat} {L : Nat → List Nat} {d : Nat} {T : List (Nat × Nat)} {vs : List Nat} {ls : List (Nat × Nat)} {bk i : Nat} {p c : Nat} (h : RM t n v0 b g L d T vs ls bk i v) (hb : b ≤ 1) (hd : d < 12) (hp : dm g (d + 1) p) (hc : dm g (d + 1) c) (hkid : ∀ x ∈ L p, dm g (d + 1) x) (h78 : g 5 p = 7 ∨ (g 5 p = 8 ∧ 1 ≤ (L p).length ∧ g 7 p ≠ 0)) (hS : ∀ q, dm g (d + 1) q → g 5 q = 3 → g 6 q = p → L p ≠ []) (hfc : free g L (d + 1) c) (hnd : (L p).Nodup) (hun : ∀ q, dm g (d + 1) q → q ≠ p → ∀ x ∈ L q, x ∉ L p) {x1 x2 : Int32} (e1 : x1 = nI (720 * b + p)) (e2 : x2 = nI (720 * b + c)) {P : St → Prop} (k : ∀ V, RM t n v0 b g (upL L p (L p ++ [c])) d T vs ls bk i V → P V) : wp_X7_addArgument v x1 x2 P := by
  subst e1 e2
  obtain ⟨hT, hK, hF, hM, hN, hR, hSt, hV, hL⟩ := h
  have hp7 := dm_lt hp (by omega)
  have hc7 := dm_lt hc (by omega)
  have hin : vp_in (nI (720 * b + p)) 1440 := inN (by omega) (by decide)
  obtain ⟨⟨r1, r2⟩, r3, r4, r5, r6, r7, r8, r9, r10, r11⟩ := hM.2 p hp
  have hcn : gA v 11 (720 * b + c) = -1 := (hM.2 c hc).2.2.2.2.2.2.1 hfc
  have hclA : cl (g 5 p) (L p ++ [c]) = cl (g 5 p) (L p) ++ [c] := by
    rcases h78 with h7 | ⟨h8, hl, _⟩
    · unfold cl; rw [if_pos h7, if_pos h7]
    · have h7 : ¬ g 5 p = 7 := by omega
      simp only [cl, if_neg h7, if_pos h8]
      cases hLp : L p with
      | nil => rw [hLp] at hl; exact absurd hl (by simp)
      | cons a l => rfl
  have har : gA v 13 (720 * b + p) + 1 = nI ((L p).length + (if g 5 p = 7 then 1 else 2)) := by
    rcases h78 with h7 | ⟨h8, hl, hw⟩
    · rw [r9.1 h7, nI_1, if_pos h7]
    · rw [r9.2 h8 hw, nI_1, if_neg (by omega)]
  refine ⟨hin, hin, nm_i ⟨hin, ?_⟩⟩
  rw [ixN (by omega)]
  have fin : ∀ (a10 a11 : Nat → Int32), (∀ q, dm g (d + 1) q → q ≠ p → a10 (720 * b + q) = gA v 10 (720 * b + q)) → (∀ j, ¬ (720 * b ≤ j ∧ j < 720 * b + 720) → a10 j = gA v 10 j ∧ a11 j = gA v 11 j) → (∀ q, dm g (d + 1) q → q ≠ p → Ch a11 (720 * b) (gA v 10 (720 * b + q)) (cl (g 5 q) (L q))) → (∀ q, dm g (d + 1) q → free g (upL L p (L p ++ [c])) (d + 1) q → a11 (720 * b + q) = -1) → Ch a11 (720 * b) (a10 (720 * b + p)) (cl (g 5 p) (L p) ++ [c]) → ∀ V : St, gA V 10 = a10 → gA V 11 = a11 → gA V 13 = upd (gA v 13) (720 * b + p) (gA v 13 (720 * b + p) + 1) → (∀ j, j ≠ 10 → j ≠ 11 → j ≠ 13 → gA V j = gA v j) → (∀ j, gI V j = gI v j) → (∀ j, gB V j = gB v j) → (∀ j, gL V j = gL v j) → P V := by
    intro a10 a11 w1 w2 w3 w4 w5 V z10 z11 z13 zA zI zB zL
    refine k V ⟨⟨hT.1, by rw [zI]; exact hT.2.1, fun j hj => by rw [zA 1 (by decide) (by decide) (by decide)]; exact hT.2.2 j hj⟩, ?_, ⟨?_, ?_, ?_, fun q a c2 j hj => ?_, fun q a c2 j hj => ?_⟩, MT_att hM hS (zA 2 (by decide) (by decide) (by decide)) (zB 15) (zB 19) (zA 5 (by decide) (by decide) (by decide)) (zA 6 (by decide) (by decide) (by decide)) (zA 12 (by decide) (by decide) (by decide)) (zA 14 (by decide) (by decide) (by decide)) (fun q hq r hr hrp => ?_) (fun q hq hqp => by rw [z11]; exact w3 q hq hqp) (fun q hq hf => by rw [z11]; exact w4 q hq hf) (fun _ => ?_), ?_, ?_, ?_, ?_, ?_⟩
    · unfold TkM; simp only [zI, zL]; exact hK
    · rw [zI]; exact hF.1
    · rw [zI]; exact hF.2.1
    · rw [zA 33 (by decide) (by decide) (by decide)]; exact hF.2.2.1
    · rw [zA q (by omega) (by omega) (by omega)]; exact hF.2.2.2.1 q a c2 j hj
    · by_cases q10 : q = 10
      · subst q10; rw [z10, (w2 j hj).1]; exact hF.2.2.2.2 10 a c2 j hj
      · by_cases q11 : q = 11
        · subst q11; rw [z11, (w2 j hj).2]; exact hF.2.2.2.2 11 a c2 j hj
        · by_cases q13 : q = 13
          · subst q13; rw [z13, updE, if_neg (by omega)]; exact hF.2.2.2.2 13 a c2 j hj
          · rw [zA q q10 q11 q13]; exact hF.2.2.2.2 q a c2 j hj
    · rcases hq with rfl | rfl | rfl | rfl | rfl
      · rw [zA 7 (by decide) (by decide) (by decide)]
      · rw [zA 8 (by decide) (by decide) (by decide)]
      · rw [zA 9 (by decide) (by decide) (by decide)]
      · rw [z10]; exact w1 r hr hrp
      · rw [z13, updE, if_neg (by omega)]
    · rw [zA 7 (by decide) (by decide) (by decide), zA 8 (by decide) (by decide) (by decide), zA 9 (by decide) (by decide) (by decide), z11, z10, z13, hclA]
      refine ⟨fun a1 a2 => ?_, fun h => by omega, fun a1 a2 => by omega, fun h => by omega, w5, fun h => ?_, fun h h2 => ?_⟩
      · rw [gD_l (by omega)]; exact r3 a1 a2 (by omega)
      · rw [updE, if_pos rfl, har, if_pos h]
      · rw [updE, if_pos rfl, har, if_neg (by omega)]
    · rw [zI, zI, zI, zI, zI]; exact hN
    · rw [zA 3 (by decide) (by decide) (by decide), zA 4 (by decide) (by decide) (by decide), zB]; exact hR
    · rw [zI, zA 20 (by decide) (by decide) (by decide), zA 21 (by decide) (by decide) (by decide)]; exact hSt
    · rw [zI, zA 22 (by decide) (by decide) (by decide)]; exact hV
    · rw [zI, zA 18 (by decide) (by decide) (by decide), zB]; exact hL
  rcases List.eq_nil_or_concat (cl (g 5 p) (L p)) with hA | ⟨A, z, hA⟩
  · rw [hA] at r7
    refine br_p r7 ⟨hin, nm_i ?_⟩
    refine fin (upd (gA v 10) (720 * b + p) (nI (720 * b + c))) (gA v 11) (fun q _ hqp => by rw [updE, if_neg (by omega)]) (fun j hj => ⟨by rw [updE, if_neg (by omega)], rfl⟩) (fun q hq _ => (hM.2 q hq).2.2.2.2.2.1) (fun q hq hf => (hM.2 q hq).2.2.2.2.2.2.1 (free_mono hf)) ?_ _ rfl rfl rfl (fun j a1 a2 a3 => ?_) (fun _ => rfl) (fun _ => rfl) (fun _ => rfl)
    · rw [hA, updE, if_pos rfl]; exact ⟨rfl, hcn⟩
    · rw [gA_sA, if_neg a1, gA_sA, if_neg a3]
  · rw [List.concat_eq_append] at hA
    rw [hA] at r7
    have hzL : z ∈ L p := cl_mem (k := g 5 p) (by rw [hA]; simp)
    have hz7 := dm_lt (hkid z hzL) (by omega)
    have hcz : c ≠ z := fun e => hfc p hp (by rw [e]; exact hzL)
    have hndA : (A ++ [z]).Nodup := by
      rw [← hA]; unfold cl
      split
      · exact hnd
      · split
        · exact List.Nodup.sublist (List.drop_sublist 1 (L p)) hnd
        · exact List.nodup_nil
    have hzA : z ∉ A := fun hm => by
      have := List.nodup_append.mp hndA
      exact this.2.2 z hm z (by simp) rfl
    have hbd : ∀ y ∈ A ++ [z], 720 * b + y < 1440 := fun y hy => by
      have := dm_lt (hkid y (cl_mem (k := g 5 p) (by rw [hA]; exact hy))) (by omega)
      omega
    refine br_n ?_ ⟨hin, nm_i ⟨A.length + 1, m_walk ?_ A _ r7 hbd⟩⟩
    · cases A with
      | nil =>
        have : gA v 10 (720 * b + p) = nI (720 * b + z) := r7.1
        show ¬ gA v 10 (720 * b + p) = -1
        rw [this]; exact nI_m1 (by omega)
      | cons y A =>
        have : gA v 10 (720 * b + p) = nI (720 * b + y) := r7.1
        have := hbd y (by simp)
        show ¬ gA v 10 (720 * b + p) = -1
        rw [r7.1]; exact nI_m1 (by omega)
    refine fin (gA v 10) (upd (gA v 11) (720 * b + z) (nI (720 * b + c))) (fun q _ _ => rfl) (fun j hj => ⟨rfl, by rw [updE, if_neg (by omega)]⟩) (fun q hq hqp => Ch_upd (hM.2 q hq).2.2.2.2.2.1 (fun x hx e => hun q hq hqp x (cl_mem hx) (by rw [show x = z by omega]; exact hzL))) (fun q hq hf => ?_) ?_ _ rfl rfl rfl (fun j a1 a2 a3 => ?_) (fun _ => rfl) (fun _ => rfl) (fun _ => rfl)
    · have hqz : q ≠ z := fun e => by
        have := hf p hp
        rw [upL_s] at this
        exact this (List.mem_append_left _ (by rw [e]; exact hzL))
      rw [updE, if_neg (by omega)]
      exact (hM.2 q hq).2.2.2.2.2.2.1 (free_mono hf)
    · rw [hA]; exact Ch_app hcn hcz r7 hzA
    · rw [gA_sA, if_neg a2, gA_sA, if_neg a3]
/-- names -/
def mV (t : Nat → Nat) (p : Nat) : Nat → Nat
  | 0 => 0
  | k + 1 => 32 * mV t p k + (t (p + k) - 96)
theorem mF_0 : ∀ k, mF k 0 = 0
  | 0 => rfl
  | k + 1 => by simp only [mF, Nat.zero_div, mF_0 k]
theorem mF_V {t : Nat → Nat} {p : Nat} : ∀ k K, k ≤ K → (∀ j, j < k → t (p + j) < 256) → mF K (eC t p k) = mV t p k := by
  intro k
  induction k with
  | zero => intro K _ _; exact mF_0 K
  | succ k ih =>
    intro K hK h
    obtain ⟨K, rfl⟩ : ∃ K', K = K' + 1 := ⟨K - 1, by omega⟩
    have hk := h k (by omega)
    have e1 : eC t p (k + 1) % 256 = t (p + k) := by simp only [eC]; omega
    have e2 : eC t p (k + 1) / 256 = eC t p k := by simp only [eC]; omega
    simp only [mF, mV]
    rw [e1, e2, ih K (by omega) (fun j hj => h j (by omega))]
theorem x_nameOf {t : Nat → Nat} {n i : Nat} {v : St} (hT : TpM v t n) (hK : TkM v t n i) (hi : i ≤ n) (hk : tk t n i = 2) {P : Int64 → St → Prop} (k : P (lN (mN (nmT t n i))) v) : wp_X7_nameOf v P := by
  obtain ⟨h1, h2, h3, h4⟩ := tk_name hi (Or.inl hk)
  have hl := clt_all h1
  have hte := tp_te (t := t) hi
  have hn : n ≤ 1500 := hT.1
  have hb : ∀ j, j < te t n i - tp t n i → 97 ≤ t (tp t n i + j) ∧ t (tp t n i + j) ≤ 122 := fun j hj => isL_b (hl j hj)
  have e : mN (nmT t n i) = mV t (tp t n i) (te t n i - tp t n i) := mF_V _ 8 h2 (fun j hj => by have := hb j hj; omega)
  rw [e] at k
  refine nm_i ⟨te t n i - tp t n i + 1, ?_⟩
  rw [hK.1]
  have key : ∀ f j, j + f = te t n i - tp t n i → wp_X7_nameOf_7 P (f + 1) v (lN (mV t (tp t n i) j)) (nI (tp t n i + j)) := by
    intro f
    induction f with
    | zero =>
      intro j hj
      refine br_p ?_ ?_
      · rw [hK.2.1]; simp (disch := omega) only [nI_leI, nI_ltI, nI_eq]; omega
      · rw [show j = te t n i - tp t n i by omega]; exact k
    | succ f ih =>
      intro j hj
      have hbj := hb j (by omega)
      refine br_n ?_ ⟨inN (by omega) (by decide), nm_i (nm_i ?_)⟩
      · rw [hK.2.1]; simp (disch := omega) only [nI_leI, nI_ltI, nI_eq]; omega
      · rw [ixN (by omega), (hT.2.2 _ (by omega)).2, ch_lt _ (by omega) (by omega), nI_l (by omega), nI_1]
        have e2 : (32 * lN (mV t (tp t n i) j) + lN (t (tp t n i + j)) - 97 + 1 : Int64) = lN (mV t (tp t n i) (j + 1)) := by
          show lN 32 * lN _ + lN _ - lN 97 + 1 = _
          rw [lN_mul, lN_add, lN_sub (by omega), lN_1]
          congr 1
          simp only [mV]
          omega
        rw [e2]; exact ih (j + 1) (by omega)
  exact key _ 0 (by omega)
theorem m_nameOf {t : Nat → Nat} {n : Nat} {v0 v : St} {b : Nat} {g : Nat → Nat → Nat} {L : Nat → List Nat} {d : Nat} {T : List (Nat × Nat)} {vs : List Nat} {ls : List (Nat × Nat)} {bk i : Nat} (h : RM t n v0 b g L d T vs ls bk i v) (hi : i ≤ n) (hk : tk t n i = 2) {P : Int64 → St → Prop} (k : P (lN (mN (nmT t n i))) v) : wp_X7_nameOf v P := x_nameOf h.1 h.2.1 hi hk k
/-- the name of a part -/
theorem RM_name {t : Nat → Nat} {n : Nat} {v0 v : St} {b : Nat} {g : Nat → Nat → Nat} {L : Nat → List Nat} {d : Nat} {T : List (Nat × Nat)} {vs : List Nat} {ls : List (Nat × Nat)} {bk i : Nat} {p : Nat} (h : RM t n v0 b g L d T vs ls bk i v) (hd : d < 12) (hk : ∀ q, dm g (d + 1) q → q = p → (g 5 q = 8 → gA v 13 (720 * b + p) = nI ((L q).length + 1)) ∧ (g 5 q ≠ 6 → gA v 12 (720 * b + p) = nI (tp t n i))) : RM t n v0 b (up (up g 7 p (nmT t n i)) 8 p (tp t n i)) L d T vs ls bk i (sB v 19 (720 * b + p) (lN (mN (nmT t n i)))) := by
  obtain ⟨hT, hK, hF, hM, hN, hR, hSt, hV, hL⟩ := h
  have eg : ∀ f j, f ≠ 7 → f ≠ 8 → up (up g 7 p (nmT t n i)) 8 p (tp t n i) f j = g f j := fun f j a c => by rw [up_f c, up_f a]
  refine ⟨hT, hK, hF, ⟨fun k hk => ?_, fun q hq => ?_⟩, ?_, ?_, hSt, hV, hL⟩
  · rw [eg 0 _ (by decide) (by decide), eg 3 _ (by decide) (by decide)]; exact hM.1 k hk
  · have hq : dm g (d + 1) q := by unfold dm at hq; rw [eg 1 _ (by decide) (by decide)] at hq; exact hq
    obtain ⟨⟨r1, r2⟩, r3, r4, r5, r6, r7, r8, r9, r10, r11⟩ := hM.2 q hq
    have hfree : free (up (up g 7 p (nmT t n i)) 8 p (tp t n i)) L (d + 1) q → free g L (d + 1) q := fun hf r hr => hf r (by unfold dm; rw [eg 1 _ (by decide) (by decide)]; exact hr)
    unfold MTp
    rw [eg 5 _ (by decide) (by decide), eg 6 _ (by decide) (by decide), up_f (f := 8) (f' := 7) (by decide), up_i, up_i, up_f (f := 7) (f' := 8) (by decide)]
    refine ⟨⟨r1, r2⟩, r3, r4, r5, r6, r7, fun hf => r8 (hfree hf), ⟨r9.1, fun h8 _ => ?_⟩, r10, ?_⟩
    · by_cases hqp : q = p
      · have := (hk q hq hqp).1 h8; rw [hqp] at this ⊢; exact this
      · rw [if_neg hqp] at *; exact r9.2 h8 (by assumption)
    · show _ → vp_updL (gB v 19) (720 * b + p) _ (720 * b + q) = _ ∧ _
      rw [updLE]
      by_cases hqp : q = p
      · rw [if_pos (show 720 * b + q = 720 * b + p by omega), if_pos hqp, if_pos hqp]
        intro _
        exact ⟨rfl, fun h6 => by have := (hk q hq hqp).2 h6; rw [hqp]; exact this⟩
      · rw [if_neg (show ¬ 720 * b + q = 720 * b + p by omega), if_neg hqp, if_neg hqp]; exact r11
  · rw [eg 1 _ (by decide) (by decide)]; exact hN
  · refine ⟨fun k hk => ?_, fun k hk => ?_⟩
    · rw [eg 1 _ (by decide) (by decide), eg 2 _ (by decide) (by decide)]; exact hR.1 k hk
    · rw [eg 0 _ (by decide) (by decide)] at hk; rw [eg 4 _ (by decide) (by decide)]; exact hR.2 k hk
