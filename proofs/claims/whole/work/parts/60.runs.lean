/-! 60.runs: variables; the two loops -/
def lsO (g : Nat → Nat → Nat) (L : Nat → List Nat) : List (Nat × Nat) → List (Nat × Nat)
  | [] => []
  | x :: l => if x.1 = 6 then (g 7 x.2, (L x.2).getD 0 0) :: lsO g L l else lsO g L l
theorem LSt_suf {b : Nat} {a : Nat → Int64} {c : Nat → Int32} {B : List (Nat × Nat)} : ∀ {A : List (Nat × Nat)}, LSt b a c (A ++ B) → LSt b a c B
  | [], h => h
  | _ :: _, h => LSt_suf h.2.2
theorem m_variable {t : Nat → Nat} {n : Nat} {v0 v : St} {b : Nat} {g : Nat → Nat → Nat} {L : Nat → List Nat} {d : Nat} {T : List (Nat × Nat)} {vs : List Nat} {ls : List (Nat × Nat)} {bk i : Nat} {l : List (Nat × Nat)} (h : RM t n v0 b g L d T vs (lsO g L l) bk i v) (hb : b ≤ 1) (hd : d < 12) (hi : i ≤ n) (hn : g 1 d ≤ 60) (hk : ∀ q, dm g (d + 1) q → (∀ x ∈ L q, dm g (d + 1) x) ∧ (g 5 q = 3 → dm g (d + 1) (g 6 q))) (h2 : tk t n i = 2) (hls : (lsO g L l).length ≤ 60) (hlt : ∀ x ∈ l, x.1 = 6 → NC (g 7 x.2) ∧ dm g (d + 1) x.2) (har : g 0 d ≤ 6) (hNa : ∀ k, k < g 0 d → NC (g 4 k)) {D : Nat} (hD : T.length ≤ D ∧ vs.length ≤ D) {P : Int32 → St → Prop}
    (kl : g 1 d < 60 → ∀ p0, ltF g (nmT t n i) l = p0 + 1 → ∀ V, RM t n v0 b (addP g d 3 p0) (upL L (60 * d + g 1 d) []) d T vs (lsO g L l) bk i V → P (nI (720 * b + (60 * d + g 1 d))) V)
    (ka : g 1 d < 60 → ltF g (nmT t n i) l = 0 → fnd (g 4) (nmT t n i) (g 0 d) 0 < g 0 d → ∀ V, RM t n v0 b (addP g d 2 (fnd (g 4) (nmT t n i) (g 0 d) 0)) (upL L (60 * d + g 1 d) []) d T vs (lsO g L l) bk i V → P (nI (720 * b + (60 * d + g 1 d))) V)
    (kn : g 1 d = 60 ∨ (ltF g (nmT t n i) l = 0 ∧ fnd (g 4) (nmT t n i) (g 0 d) 0 = g 0 d) → ∀ V, FlM n v0 b (tp t n i) D V → P 0 V) : wp_X7_variable v P := by
  have hNC := (nmT_NC hi (Or.inl h2)).1
  have hN := h.2.2.2.2.1
  have hix : (12 * gI v 2) + gI v 10 = nI (12 * b + d) := by
    rw [hN.1, hN.2.1]; show nI 12 * nI b + nI d = _; rw [pk_mul, nI_add]
  have har2 : gA v 2 (12 * b + d) = nI (g 0 d) := (h.2.2.2.1.1 d (by omega)).1
  have hargs := h.2.2.2.2.2.1.2
  refine m_nameOf h hi h2 (nm_i ?_)
  -- arguments
  have args : ltF g (nmT t n i) l = 0 → ∃ m, wp_X7_variable_66 P m v (lN (mN (nmT t n i))) 0 := by
    intro hz
    have key : ∀ m j, j + m = g 0 d → fnd (g 4) (nmT t n i) (g 0 d) 0 = fnd (g 4) (nmT t n i) m j → wp_X7_variable_66 P (m + 1) v (lN (mN (nmT t n i))) (nI j) := by
      intro m
      induction m with
      | zero =>
        intro j hj hf
        refine ⟨by rw [hix]; exact inN (by omega) (by decide), br_p ?_ ?_⟩
        · rw [hix, ixN (by omega), har2]; simp (disch := omega) only [nI_leI, nI_ltI, nI_eq]; omega
        · exact m_need h false rfl hD (fun h => by cases h) (fun _ V hV => kn (Or.inr ⟨hz, by rw [hf]; exact hj⟩) V hV)
      | succ m ih =>
        intro j hj hf
        simp only [fnd] at hf
        refine ⟨by rw [hix]; exact inN (by omega) (by decide), br_n ?_ ⟨inN (by omega) (by decide), ?_⟩⟩
        · rw [hix, ixN (by omega), har2]; simp (disch := omega) only [nI_leI, nI_ltI, nI_eq]; omega
        · rw [ixN (by omega), hargs j (by omega)]
          refine br_b (fun c => ?_) (fun c => nm_i ?_)
          · have c := (nM_eq (hNa j (by omega)) hNC).mp c
            rw [if_pos c] at hf
            by_cases h60 : g 1 d < 60
            · have e2 : nI j = nI (sM 2 (fnd (g 4) (nmT t n i) (g 0 d) 0)) := by rw [hf]; rfl
              exact m_part h hb hd h60 hk (kd := 2) (nu := fnd (g 4) (nmT t n i) (g 0 d) 0) (by decide) rfl e2 (fun V hV _ => ka h60 hz (by omega) V hV)
            · exact m_partFull h (by omega) hD (fun V hV => kn (Or.inl (by omega)) V hV)
          · have c := fun h => c ((nM_eq (hNa j (by omega)) hNC).mpr h)
            rw [if_neg c] at hf
            rw [nI_1]; exact ih (j + 1) (by omega) hf
    exact ⟨g 0 d + 1, key (g 0 d) 0 (by omega) rfl⟩
  have lets : ∀ (l' : List (Nat × Nat)) (A : List (Nat × Nat)), lsO g L l = A ++ lsO g L l' → (∀ x ∈ l', x.1 = 6 → NC (g 7 x.2) ∧ dm g (d + 1) x.2) → ltF g (nmT t n i) l = ltF g (nmT t n i) l' → ∀ y : Int32, y = nI (lsO g L l').length - 1 → wp_X7_variable_12 P ((lsO g L l').length + 1) v (lN (mN (nmT t n i))) y := by
    intro l'
    induction l' with
    | nil =>
      intro A _ _ hf y hy
      subst hy
      exact br_p (show nI 0 - 1 < 0 by decide) (args hf)
    | cons x l' ih =>
      intro A hA hq hf y hy
      simp only [lsO, ltF] at hA hf hy ⊢
      by_cases hx6 : x.1 = 6
      · rw [if_pos hx6] at hA hy ⊢
        obtain ⟨q1, q2⟩ := hq x List.mem_cons_self hx6
        have hlen : (lsO g L l').length < 60 := by
          have := congrArg List.length hA
          simp only [List.length_append, List.length_cons] at this
          omega
        have hLS := LSt_suf (A := A) (B := (g 7 x.2, (L x.2).getD 0 0) :: lsO g L l') (by rw [← hA]; exact h.2.2.2.2.2.2.2.2.2)
        have e1 : y = nI (lsO g L l').length := by rw [hy]; exact nI_pred _
        subst e1
        refine br_n (nI_pos (by omega)) ⟨inN (by omega) (by decide), ?_⟩
        rw [ixN (by omega), hLS.1]
        refine br_b (fun c => ?_) (fun c => nm_i ?_)
        · have c := (nM_eq q1 hNC).mp c
          rw [if_pos ⟨hx6, c⟩] at hf
          by_cases h60 : g 1 d < 60
          · refine m_same h hb hd h60 hk q2 (fun V h13 hl18 hV => br_n (by rw [h13]; decide) ⟨inN (by omega) (by decide), inN (by omega) (by decide), nm_i ?_⟩)
            have hl2 := LSt_suf (A := A) (B := (g 7 x.2, (L x.2).getD 0 0) :: lsO g L l') (by rw [← hA]; exact hl18)
            rw [ixN (by omega), hl2.2.1]
            exact kl h60 x.2 hf _ hV
          · exact m_partFull h (by omega) hD (fun V hV => br_p hV.2.1 (kn (Or.inl (by omega)) V hV))
        · have c := fun h => c ((nM_eq q1 hNC).mpr h)
          rw [if_neg (fun h => c h.2)] at hf
          exact ih (A ++ [(g 7 x.2, (L x.2).getD 0 0)]) (by rw [hA]; simp) (fun y hy => hq y (List.mem_cons_of_mem _ hy)) hf _ (i32_m1 _)
      · rw [if_neg hx6] at hA hy ⊢
        rw [if_neg (fun h => hx6 h.1)] at hf
        exact ih A hA (fun y hy => hq y (List.mem_cons_of_mem _ hy)) hf y hy
  refine ⟨_, lets l [] rfl hlt rfl _ ?_⟩
  rw [h.2.2.2.2.2.2.2.2.1]
theorem m_named {t : Nat → Nat} {n : Nat} {v0 v : St} {b : Nat} {g : Nat → Nat → Nat} {L : Nat → List Nat} {d : Nat} {T : List (Nat × Nat)} {vs : List Nat} {ls : List (Nat × Nat)} {bk i : Nat} (h : RM t n v0 b g L d T vs ls bk i v) (hi : i ≤ n) {P : St → Prop} (kn : parN t n (te t n i) = false → wp_X7_named_50 v P)
    (ky : parN t n (te t n i) = true → wp_X7_part v 8 0 (fun (r10 : Int32) (u9 : St) => br ((gI u9 13) = 0) (P u9) (wp_X7_nameOf u9 (fun (r13 : Int64) (u12 : St) => (vp_in r10 1440 ∧ nm (sB u12 19 (ix r10) r13) (fun u14 : St => wp_X7_go u14 (fun (u15 : St) => wp_X7_go u15 (fun (u16 : St) => wp_X7_take u16 41 (fun (r18 : Int32) (u17 : St) => br (r18 = 0) (wp_X7_later u17 22 r10 (fun (u20 : St) => wp_X7_later u20 1 0 (fun (u21 : St) => P u21))) (wp_X7_give u17 r10 (fun (u22 : St) => wp_X7_later u22 18 0 (fun (u23 : St) => P u23)))))))))))) : wp_X7_named v P := by
  have hT := h.1
  have hK := h.2.1
  have hte := tp_te (t := t) hi
  have hn : n ≤ 1500 := hT.1
  have e31 : ∀ j, j ≤ n → sk t n j = j → parN t n (te t n i) = parN t n j → wp_X7_named_31 v (nI j) P := by
    intro j hj hs hpar
    have hpn : parN t n j = (decide (j < n) && decide (t j = 40)) := by unfold parN; rw [hs]
    by_cases hjn : j = n
    · refine br_p (by rw [hT.2.1, hjn]) (kn ?_)
      rw [hpar, hpn, decide_eq_false (by omega)]; rfl
    · obtain ⟨hb1, hb2⟩ := hT.2.2 j (by omega)
      refine br_n ?_ ⟨inN (by omega) (by decide), ?_⟩
      · rw [hT.2.1]; simp (disch := omega) only [nI_leI, nI_ltI, nI_eq]; omega
      · rw [ixN (by omega), hb2]
        refine br_b (fun c => ky ?_) (fun c => kn ?_)
        · have c := (ch_eq _ hb1 40 (by decide)).mp c
          rw [hpar, hpn, decide_eq_true (show j < n by omega), decide_eq_true c]; rfl
        · have c := fun e => c ((ch_eq _ hb1 40 (by decide)).mpr e)
          rw [hpar, hpn, decide_eq_false c, Bool.and_false]
  have loop : ∀ f j, n - j = f → j ≤ n → parN t n (te t n i) = parN t n j → ∃ m, wp_X7_named_5 P m v (nI j) := by
    intro f
    induction f with
    | zero =>
      intro j hf hj hpar
      refine ⟨1, br_p ?_ (e31 j hj (sk_here (by omega)) hpar)⟩
      rw [hT.2.1]; simp (disch := omega) only [nI_leI, nI_ltI, nI_eq]; omega
    | succ f ih =>
      intro j hf hj hpar
      obtain ⟨hb1, hb2⟩ := hT.2.2 j (by omega)
      have hnge : ¬ gI v 1 ≤ nI j := by rw [hT.2.1]; simp (disch := omega) only [nI_leI, nI_ltI, nI_eq]; omega
      cases hB : isB (t j) with
      | false =>
        refine ⟨1, br_n hnge ⟨inN (by omega) (by decide), wpX7_bl (br_p ?_ (e31 j hj (sk_here (by rw [hB]; simp)) hpar))⟩⟩
        rw [ixN (by omega), hb2, (ch_bl _ hb1).2, hB]; rfl
      | true =>
        obtain ⟨m, hm⟩ := ih (j + 1) (by omega) (by omega) (by rw [hpar]; unfold parN; rw [sk_step (by omega) hB])
        refine ⟨m + 1, br_n hnge ⟨inN (by omega) (by decide), wpX7_bl (br_n ?_ (nm_i ?_))⟩⟩
        · rw [ixN (by omega), hb2, (ch_bl _ hb1).2, hB]; decide
        · rw [nI_1]; exact hm
  refine nm_i ?_
  rw [hK.2.1]
  exact loop _ _ rfl hte.2.2.1 rfl
/-- the reference's loop ends well from all such states -/
def RunM (R : St → Prop) (P : St → Prop) : Prop := ∃ M, ∀ v, R v → ∀ m, M ≤ m → wp_X7_readExpression_31 P m v
theorem m_pop {t : Nat → Nat} {n : Nat} {v0 : St} {b : Nat} {g : Nat → Nat → Nat} {L : Nat → List Nat} {d : Nat} {T : List (Nat × Nat)} {vs : List Nat} {ls : List (Nat × Nat)} {bk i : Nat} {w p : Nat} {P R : St → Prop} (hl : T.length < 12000) (hs : ∀ (v : St) (x : Int32) (K : St → Prop), (hasP w = true → x = nI (720 * b + p)) → RM t n v0 b g L d T vs ls bk i v → (∀ V, R V → K V) → wp_X7_step v (nI w) x K) (hr : RunM R P) : RunM (RM t n v0 b g L d ((w, p) :: T) vs ls bk i) P := by
  obtain ⟨M, hM⟩ := hr
  refine ⟨M + 1, fun v h m hm => ?_⟩
  obtain ⟨m, rfl⟩ : ∃ m', m = m' + 1 := ⟨m - 1, by omega⟩
  obtain ⟨hT, hK, hF, hMt, ⟨h2, h10, h9, h13, h14⟩, hR, ⟨h11, hS⟩, hV, hL⟩ := h
  have e1 : gI v 11 - 1 = nI T.length := by rw [h11]; exact nI_pred _
  refine br_n (by rw [h11]; exact nI_nle (by simp) (by simp only [List.length_cons]; omega)) (br_n (by rw [h13]; decide) (nm_i ?_))
  have hin : vp_in (gI (sI v 11 (gI v 11 - 1)) 11) 12000 := by show vp_in (gI v 11 - 1) 12000; rw [e1]; exact inN hl (by decide)
  refine ⟨hin, hin, ?_⟩
  have ew : gA (sI v 11 (gI v 11 - 1)) 20 (ix (gI (sI v 11 (gI v 11 - 1)) 11)) = nI w := by
    show gA v 20 (ix (gI v 11 - 1)) = _
    rw [e1, ixN (by omega)]; exact hS.1
  rw [ew]
  refine hs _ _ _ (fun hp => ?_) ⟨hT, hK, hF, hMt, ⟨h2, h10, h9, h13, h14⟩, hR, ⟨e1, hS.2.2⟩, hV, hL⟩ (fun V hV => hM V hV m (by omega))
  show gA v 21 (ix (gI v 11 - 1)) = _
  rw [e1, ixN (by omega)]; exact hS.2.1 hp
theorem m_failed {n : Nat} {v0 : St} {b f D : Nat} {P : St → Prop} (h : ∀ V, FlM n v0 b f D V → P V) : RunM (FlM n v0 b f D) P := by
  refine ⟨1, fun v hv m hm => ?_⟩
  obtain ⟨m, rfl⟩ : ∃ m', m = m' + 1 := ⟨m - 1, by omega⟩
  exact br_b (fun _ => br_p hv.2.1 (h v hv)) (fun _ => br_p hv.2.1 (br_p hv.2.1 (h v hv)))
theorem RunM.mono {R R' P : St → Prop} (h : RunM R P) (hR : ∀ v, R' v → R v) : RunM R' P := by
  obtain ⟨M, hM⟩ := h
  exact ⟨M, fun v hv => hM v (hR v hv)⟩
/-- the class's loop -/
def RunC (R : St → Prop) (k : Nat) (P : Int32 → St → Prop) : Prop := ∃ M, ∀ u, R u → ∀ m, M ≤ m → wp_X3_readText_27 P m u (nI k)
def wpT (du : Nat) (u : St) (Q : St → Prop) : Prop := if du = 6 then wp_X3_takeBeginning u Q else if du = 7 then wp_X3_takeContinuation u Q else if 6 ≤ du then wp_X3_takeOfCallMakeLet u Q else wp_X3_takeOfHead u Q
theorem c_disp {t : Nat → Nat} {n : Nat} {u0 u : St} {g : Nat → Nat → Nat} {L : Nat → List Nat} {d : Nat} {l : List (Nat × Nat)} {i du la : Nat} (h : RC t n u0 g L d l i du la u) (hdu : du < 100) {k : Nat} (hk : k ≤ i) (hi : i ≤ n) (htk : tk t n i ≠ 0) {m : Nat} {P : Int32 → St → Prop} (hw : wpT du u (fun U => wp_X3_readText_108 (wp_X3_readText_27 P m) U (nI k) P)) : wp_X3_readText_27 P (m + 1) u (nI k) := by
  obtain ⟨hT, hK, hF, hC, ⟨h12, h1, h6, h5⟩, hla, hR, h2, h3, hS⟩ := h
  have hte := tp_te (t := t) hi
  have hte0 : tp t n i ≠ n := fun e => htk ((tk_end (t := t) hi).mpr e)
  have hle := (tk_le (t := t) (n := n) (i := i)).1
  have hn : n ≤ 1500 := hT.1
  refine br_n ?_ (br_p h6 (br_n ?_ ?_))
  · rw [hT.2.1]; simp (disch := omega) only [nI_leI, nI_ltI, nI_eq]; omega
  · rw [hK.2.2.1]; simp (disch := omega) only [ln_0, ln_1, ln_2, ln_3, ln_4, ln_5, ln_6, ln_7, ln_8, ln_9, ln_10, ln_11, ln_12, ln_13, ln_14, ln_15, ln_16, ln_17, ln_18, ln_19, ln_20, ln_21, ln_22, ln_23, ln_24, ln_25, ln_26, ln_27, ln_28, ln_29, ln_30, ln_31, ln_32, ln_33, ln_34, ln_35, ln_36, ln_37, ln_38, ln_39, ln_40, ln_41, ln_42, ln_43, ln_44, ln_45, ln_46, ln_47, ln_48, ln_49, ln_50, ln_51, ln_52, ln_53, ln_54, ln_55, ln_56, ln_57, ln_58, ln_59, ln_60, ln_61, ln_62, ln_91, ln_93, ln_97, ln_122, ln_120, ln_123, ln_124, ln_255, ln_256, ln_300, ln_720, ln_1500, ln_12000, ln_18000, nI_leI, nI_ltI, nI_eq]; exact htk
  · unfold wpT at hw
    rw [h5]
    refine br_b (fun c => ?_) (fun c => br_b (fun c2 => ?_) (fun c2 => br_b (fun c3 => ?_) (fun c3 => ?_)))
    · simp (disch := omega) only [ln_0, ln_1, ln_2, ln_3, ln_4, ln_5, ln_6, ln_7, ln_8, ln_9, ln_10, ln_11, ln_12, ln_13, ln_14, ln_15, ln_16, ln_17, ln_18, ln_19, ln_20, ln_21, ln_22, ln_23, ln_24, ln_25, ln_26, ln_27, ln_28, ln_29, ln_30, ln_31, ln_32, ln_33, ln_34, ln_35, ln_36, ln_37, ln_38, ln_39, ln_40, ln_41, ln_42, ln_43, ln_44, ln_45, ln_46, ln_47, ln_48, ln_49, ln_50, ln_51, ln_52, ln_53, ln_54, ln_55, ln_56, ln_57, ln_58, ln_59, ln_60, ln_61, ln_62, ln_91, ln_93, ln_97, ln_122, ln_120, ln_123, ln_124, ln_255, ln_256, ln_300, ln_720, ln_1500, ln_12000, ln_18000, nI_leI, nI_ltI, nI_eq] at c; rw [if_pos c] at hw; exact hw
    · simp (disch := omega) only [ln_0, ln_1, ln_2, ln_3, ln_4, ln_5, ln_6, ln_7, ln_8, ln_9, ln_10, ln_11, ln_12, ln_13, ln_14, ln_15, ln_16, ln_17, ln_18, ln_19, ln_20, ln_21, ln_22, ln_23, ln_24, ln_25, ln_26, ln_27, ln_28, ln_29, ln_30, ln_31, ln_32, ln_33, ln_34, ln_35, ln_36, ln_37, ln_38, ln_39, ln_40, ln_41, ln_42, ln_43, ln_44, ln_45, ln_46, ln_47, ln_48, ln_49, ln_50, ln_51, ln_52, ln_53, ln_54, ln_55, ln_56, ln_57, ln_58, ln_59, ln_60, ln_61, ln_62, ln_91, ln_93, ln_97, ln_122, ln_120, ln_123, ln_124, ln_255, ln_256, ln_300, ln_720, ln_1500, ln_12000, ln_18000, nI_leI, nI_ltI, nI_eq] at c c2; rw [if_neg c, if_pos c2] at hw; exact hw
    · simp (disch := omega) only [ln_0, ln_1, ln_2, ln_3, ln_4, ln_5, ln_6, ln_7, ln_8, ln_9, ln_10, ln_11, ln_12, ln_13, ln_14, ln_15, ln_16, ln_17, ln_18, ln_19, ln_20, ln_21, ln_22, ln_23, ln_24, ln_25, ln_26, ln_27, ln_28, ln_29, ln_30, ln_31, ln_32, ln_33, ln_34, ln_35, ln_36, ln_37, ln_38, ln_39, ln_40, ln_41, ln_42, ln_43, ln_44, ln_45, ln_46, ln_47, ln_48, ln_49, ln_50, ln_51, ln_52, ln_53, ln_54, ln_55, ln_56, ln_57, ln_58, ln_59, ln_60, ln_61, ln_62, ln_91, ln_93, ln_97, ln_122, ln_120, ln_123, ln_124, ln_255, ln_256, ln_300, ln_720, ln_1500, ln_12000, ln_18000, nI_leI, nI_ltI, nI_eq] at c c2 c3; rw [if_neg c, if_neg c2, if_pos c3] at hw; exact hw
    · simp (disch := omega) only [ln_0, ln_1, ln_2, ln_3, ln_4, ln_5, ln_6, ln_7, ln_8, ln_9, ln_10, ln_11, ln_12, ln_13, ln_14, ln_15, ln_16, ln_17, ln_18, ln_19, ln_20, ln_21, ln_22, ln_23, ln_24, ln_25, ln_26, ln_27, ln_28, ln_29, ln_30, ln_31, ln_32, ln_33, ln_34, ln_35, ln_36, ln_37, ln_38, ln_39, ln_40, ln_41, ln_42, ln_43, ln_44, ln_45, ln_46, ln_47, ln_48, ln_49, ln_50, ln_51, ln_52, ln_53, ln_54, ln_55, ln_56, ln_57, ln_58, ln_59, ln_60, ln_61, ln_62, ln_91, ln_93, ln_97, ln_122, ln_120, ln_123, ln_124, ln_255, ln_256, ln_300, ln_720, ln_1500, ln_12000, ln_18000, nI_leI, nI_ltI, nI_eq] at c c2 c3; rw [if_neg c, if_neg c2, if_neg c3] at hw; exact hw
theorem FrC_RC {t : Nat → Nat} {n : Nat} {u0 u U : St} {g : Nat → Nat → Nat} {L : Nat → List Nat} {d : Nat} {l : List (Nat × Nat)} {i i' du la : Nat} (h : RC t n u0 g L d l i du la u) (f : FrC u U) (hK : TkC U t n i') : RC t n u0 g L d l i' du la U := by
  obtain ⟨hT, _, hF, hC, ⟨h12, h1, h6, h5⟩, hla, hR, h2, h3, hS⟩ := h
  refine ⟨hT.fr f, hK, ⟨?_, ?_, ?_, fun k hk => ?_⟩, ?_, ⟨?_, ?_, ?_, ?_⟩, fun h7 => ?_, ?_, ?_, ?_, ?_⟩
  · rw [f.1 0 (by decide) (by decide) (by decide) (by decide)]; exact hF.1
  · rw [f.1 13 (by decide) (by decide) (by decide) (by decide)]; exact hF.2.1
  · rw [f.2.2.1]; exact hF.2.2.1
  · rw [f.2.2.1]; exact hF.2.2.2 k hk
  · unfold CT at *; simp only [f.2.2.1, f.2.2.2]; exact hC
  · rw [f.1 12 (by decide) (by decide) (by decide) (by decide)]; exact h12
  · rw [f.1 1 (by decide) (by decide) (by decide) (by decide)]; exact h1
  · rw [f.1 6 (by decide) (by decide) (by decide) (by decide)]; exact h6
  · rw [f.1 5 (by decide) (by decide) (by decide) (by decide)]; exact h5
  · rw [f.1 4 (by decide) (by decide) (by decide) (by decide)]; exact hla h7
  · simp only [f.2.2.1, f.2.2.2]; exact hR
  · rw [f.1 2 (by decide) (by decide) (by decide) (by decide)]; exact h2
  · rw [f.1 3 (by decide) (by decide) (by decide) (by decide)]; exact h3
  · rw [f.2.2.1]; exact hS
/-- a token taken, and the next one -/
theorem c_ok {t : Nat → Nat} {n : Nat} {u0 : St} {g g' : Nat → Nat → Nat} {L L' : Nat → List Nat} {d : Nat} {l l' : List (Nat × Nat)} {i du la du' : Nat} {F : Nat → Prop} (hdu : du < 100) {k : Nat} (hk : k ≤ i) (hi : i ≤ n) (htk : tk t n i ≠ 0) {P : Int32 → St → Prop} (hs : ∀ (u : St) (Q : St → Prop), RC t n u0 g L d l i du la u → (∀ U la', F la' → RC t n u0 g' L' d l' i du' la' U → Q U) → wpT du u Q) (hr : RunC (fun u => ∃ la', F la' ∧ RC t n u0 g' L' d l' (te t n i) du' la' u) (k + 1) P) : RunC (RC t n u0 g L d l i du la) k P := by
  obtain ⟨M, hM⟩ := hr
  have hte := tp_te (t := t) hi
  refine ⟨M + 1, fun u h m hm => ?_⟩
  obtain ⟨m, rfl⟩ : ∃ m', m = m' + 1 := ⟨m - 1, by omega⟩
  refine c_disp h hdu hk hi htk (hs u _ h (fun U la' hF hU => ?_))
  obtain ⟨V, h1, h2, h3⟩ := advC (u := U) (t := t) (n := n) (i := te t n i) hU.1 hU.2.1.2.1 hte.2.2.1
  refine br_p hU.2.2.2.2.1.2.2.1 (h1 _ (nm_i ?_))
  rw [nI_1]
  exact hM V ⟨la', hF, FrC_RC hU h2 h3⟩ m (by omega)
theorem c_faulted {n : Nat} {u0 u : St} {f : Nat} (hf : f < 2000) (h : FlC n u0 f u) {P : Int32 → St → Prop} (hP : ∀ U, FlC n u0 f U → P (nI f) U) {m : Nat} {x : Int32} : wp_X3_readText_27 P (m + 1) u x := by
  have h6 : ¬ gI u 6 = -1 := by rw [h.2.1]; exact nI_m1 (by omega)
  have h168 : wp_X3_readText_168 u P := br_n h6 (by rw [h.2.1]; exact hP u h)
  have h151 : ∀ y, wp_X3_readText_151 u y P := fun y => br_n h6 h168
  have h129 : wp_X3_readText_129 u P := br_b (fun _ => br_b (fun _ => h151 0) (fun _ => h151 1)) (fun _ => h151 0)
  exact br_b (fun _ => h129) (fun _ => br_n h6 h129)
/-- a token refused -/
theorem c_bad {t : Nat → Nat} {n : Nat} {u0 : St} {g : Nat → Nat → Nat} {L : Nat → List Nat} {d : Nat} {l : List (Nat × Nat)} {i du la f : Nat} (hn : n ≤ 1500) (hf : f ≤ n) (hdu : du < 100) {k : Nat} (hk : k ≤ i) (hi : i ≤ n) (htk : tk t n i ≠ 0) {P : Int32 → St → Prop} (hs : ∀ (u : St) (Q : St → Prop), RC t n u0 g L d l i du la u → (∀ U, FlC n u0 f U → Q U) → wpT du u Q) (hP : ∀ U, FlC n u0 f U → P (nI f) U) : RunC (RC t n u0 g L d l i du la) k P := by
  refine ⟨2, fun u h m hm => ?_⟩
  obtain ⟨m, rfl⟩ : ∃ m', m = m' + 2 := ⟨m - 2, by omega⟩
  refine c_disp h hdu hk hi htk (hs u _ h (fun U hU => ?_))
  have h6 : ¬ gI U 6 = -1 := by rw [hU.2.1]; exact nI_m1 (by omega)
  exact br_n h6 (nm_i (c_faulted (by omega) hU hP))
/-- the text ends too early -/
theorem c_early {t : Nat → Nat} {n : Nat} {u0 : St} {g : Nat → Nat → Nat} {L : Nat → List Nat} {d : Nat} {l : List (Nat × Nat)} {i du la : Nat} (hn : n ≤ 1500) (hdu : du < 100) (hdu0 : du ≠ 0) {k : Nat} (hi : i ≤ n) (htk : tk t n i = 0) {P : Int32 → St → Prop} (hP : ∀ U, FlC n u0 (tp t n i) U → P (nI (tp t n i)) U) : RunC (RC t n u0 g L d l i du la) k P := by
  refine ⟨1, fun u h m hm => ?_⟩
  obtain ⟨m, rfl⟩ : ∃ m', m = m' + 1 := ⟨m - 1, by omega⟩
  have hh := h
  obtain ⟨hT, hK, hF, hC, ⟨h12, h1, h6, h5⟩, hla, hR, h2, h3, hS⟩ := h
  have hte := tp_te (t := t) hi
  have h129 : wp_X3_readText_129 u P := by
    refine br_n ?_ (br_p h6 (br_p rfl (c_fail hh (fun U hU => ?_))))
    · rw [h5]; simp (disch := omega) only [ln_0, ln_1, ln_2, ln_3, ln_4, ln_5, ln_6, ln_7, ln_8, ln_9, ln_10, ln_11, ln_12, ln_13, ln_14, ln_15, ln_16, ln_17, ln_18, ln_19, ln_20, ln_21, ln_22, ln_23, ln_24, ln_25, ln_26, ln_27, ln_28, ln_29, ln_30, ln_31, ln_32, ln_33, ln_34, ln_35, ln_36, ln_37, ln_38, ln_39, ln_40, ln_41, ln_42, ln_43, ln_44, ln_45, ln_46, ln_47, ln_48, ln_49, ln_50, ln_51, ln_52, ln_53, ln_54, ln_55, ln_56, ln_57, ln_58, ln_59, ln_60, ln_61, ln_62, ln_91, ln_93, ln_97, ln_122, ln_120, ln_123, ln_124, ln_255, ln_256, ln_300, ln_720, ln_1500, ln_12000, ln_18000, nI_leI, nI_ltI, nI_eq]; exact hdu0
    · refine br_n ?_ ?_
      · rw [hU.2.1]; exact nI_m1 (by omega)
      · rw [hU.2.1]; exact hP U hU
  refine br_b (fun _ => h129) (fun _ => br_p h6 (br_p ?_ h129))
  rw [hK.2.2.1, htk]; rfl
theorem RunC.mono {R R' : St → Prop} {k : Nat} {P : Int32 → St → Prop} (h : RunC R k P) (hR : ∀ v, R' v → R v) : RunC R' k P := by
  obtain ⟨M, hM⟩ := h
  exact ⟨M, fun v hv => hM v (hR v hv)⟩
