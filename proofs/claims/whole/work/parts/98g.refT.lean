/-! 98g.refT: what the reference tells -/
def TV (v V : St) (t0 t1 t2 t3 : Int32) : Prop := ((∀ i, gI V i = gI v i) ∧ ∀ i, i ≠ 33 → gA V i = gA v i) ∧ gA V 33 0 = t0 ∧ gA V 33 1 = t1 ∧ gA V 33 2 = t2 ∧ gA V 33 3 = t3
theorem TV_0 {v V : St} {t0 t1 t2 t3 w : Int32} (h : TV v V t0 t1 t2 t3) : TV v (sA V 33 0 w) w t1 t2 t3 := by
  refine ⟨⟨h.1.1, fun i hi => by rw [gA_sA, if_neg hi]; exact h.1.2 i hi⟩, ?_, ?_, ?_, ?_⟩
  · show upd (gA V 33) 0 w 0 = _; rw [updE, if_pos rfl]
  · show upd (gA V 33) 0 w 1 = _; rw [updE, if_neg (by decide)]; exact h.2.2.1
  · show upd (gA V 33) 0 w 2 = _; rw [updE, if_neg (by decide)]; exact h.2.2.2.1
  · show upd (gA V 33) 0 w 3 = _; rw [updE, if_neg (by decide)]; exact h.2.2.2.2
theorem TV_1 {v V : St} {t0 t1 t2 t3 w : Int32} (h : TV v V t0 t1 t2 t3) : TV v (sA V 33 1 w) t0 w t2 t3 := by
  refine ⟨⟨h.1.1, fun i hi => by rw [gA_sA, if_neg hi]; exact h.1.2 i hi⟩, ?_, ?_, ?_, ?_⟩
  · show upd (gA V 33) 1 w 0 = _; rw [updE, if_neg (by decide)]; exact h.2.1
  · show upd (gA V 33) 1 w 1 = _; rw [updE, if_pos rfl]
  · show upd (gA V 33) 1 w 2 = _; rw [updE, if_neg (by decide)]; exact h.2.2.2.1
  · show upd (gA V 33) 1 w 3 = _; rw [updE, if_neg (by decide)]; exact h.2.2.2.2
theorem TV_2 {v V : St} {t0 t1 t2 t3 w : Int32} (h : TV v V t0 t1 t2 t3) : TV v (sA V 33 2 w) t0 t1 w t3 := by
  refine ⟨⟨h.1.1, fun i hi => by rw [gA_sA, if_neg hi]; exact h.1.2 i hi⟩, ?_, ?_, ?_, ?_⟩
  · show upd (gA V 33) 2 w 0 = _; rw [updE, if_neg (by decide)]; exact h.2.1
  · show upd (gA V 33) 2 w 1 = _; rw [updE, if_neg (by decide)]; exact h.2.2.1
  · show upd (gA V 33) 2 w 2 = _; rw [updE, if_pos rfl]
  · show upd (gA V 33) 2 w 3 = _; rw [updE, if_neg (by decide)]; exact h.2.2.2.2
theorem TV_3 {v V : St} {t0 t1 t2 t3 w : Int32} (h : TV v V t0 t1 t2 t3) : TV v (sA V 33 3 w) t0 t1 t2 w := by
  refine ⟨⟨h.1.1, fun i hi => by rw [gA_sA, if_neg hi]; exact h.1.2 i hi⟩, ?_, ?_, ?_, ?_⟩
  · show upd (gA V 33) 3 w 0 = _; rw [updE, if_neg (by decide)]; exact h.2.1
  · show upd (gA V 33) 3 w 1 = _; rw [updE, if_neg (by decide)]; exact h.2.2.1
  · show upd (gA V 33) 3 w 2 = _; rw [updE, if_neg (by decide)]; exact h.2.2.2.1
  · show upd (gA V 33) 3 w 3 = _; rw [updE, if_pos rfl]
theorem ixL1 : ix (1 : Int32) = 1 := ixN (n := 1) (by decide)
theorem ixL2 : ix (2 : Int32) = 2 := ixN (n := 2) (by decide)
theorem ixL3 : ix (3 : Int32) = 3 := ixN (n := 3) (by decide)
theorem m_k9 {G : Prg} {bk : Nat} {v : St} (hw : WFp G) (hP : MPv G bk v) {d p : Nat} (hd : d < gn G) (hp : p < gnp G d) : (gkd G d p = 8 → gA v 5 (60 * (12 * bk + d) + p) = 9) ∧ (gkd G d p ≠ 8 → gA v 5 (60 * (12 * bk + d) + p) ≠ 9) := by
  obtain ⟨m1, m2, m3, m4, m5, m6, m7, m8, m9, m10⟩ := (hP.2.2.2 _ hd).2.2.2 _ hp
  refine ⟨fun e => (m8 e).1, fun hne => ?_⟩
  rcases ((hw.2 _ hd).2.2.2.2 _ hp).2.2 with e | ⟨e, _⟩ | ⟨e, q, hq, hnu, _⟩ | ⟨e, _⟩ | ⟨e, _⟩ | ⟨e, _⟩ | ⟨e, _⟩ | ⟨e, _⟩ | ⟨e, _⟩ | ⟨e, _⟩
  · rw [(m1 e).1]; decide
  · rw [(m2 e).1]; decide
  · rw [(m3 q hq e hnu).1]; decide
  · rw [(m4 e).1]; decide
  · rw [(m5 e).1]; decide
  · rw [(m6 e).1]; decide
  · rw [(m7 e).1]; decide
  · exact absurd e hne
  · rw [(m9 e).1]; decide
  · rw [(m10 e).1]; decide
def krB (G : Prg) (id : Nat → Cid) (st : Nat → Nat) (j : Nat) : Bool := decide (st (60 * j + grt G (dfn G (id j))) = 3)
def knB (G : Prg) (id : Nat → Cid) (st : Nat → Nat) (x : Nat) : Bool := decide (x % 60 < gnp G (dfn G (id (x / 60))) ∧ st x = 3)
def clL (G : Prg) (id : Nat → Cid) (st : Nat → Nat) (v : St) (x : Nat) : List Nat := if knB G id st x = true then (List.range (ix (gA v 32 x))).map (fun k => ix (gA v 31 x) + k) else []
def CLt (G : Prg) (id : Nat → Cid) (st : Nat → Nat) (v : St) (y : Nat) : List Nat := (List.range y).flatMap (clL G id st v)
theorem CLt_s {G : Prg} {id : Nat → Cid} {st : Nat → Nat} {v : St} {y : Nat} : CLt G id st v (y + 1) = CLt G id st v y ++ clL G id st v y := by
  unfold CLt; rw [List.range_succ, List.flatMap_append]; simp
theorem t_154 {G : Prg} {bk M N : Nat} {id : Nat → Cid} {st : Nat → Nat} {v0 v : St} (hw : WFp G) (hSR : SRm G bk M N id st v0 v) {x q f0 c : Nat} (hx : vld G N id x) (h32 : gA v 32 x = nI q) (hq : q ≤ 40) (h8 : q ≠ 0 → kdS G (slO id x) = 8 ∧ gA v 31 x = nI f0 ∧ ∀ k, k < q → f0 + k < N) {t0 t1 t3 : Int32} {K41 : St → Int32 → Prop} {P : St → Prop} (kk : ∀ V, TV v V t0 t1 (nI (c + (((List.range q).map (fun k => f0 + k)).filter (krB G id st)).length)) t3 → K41 V (nI (x + 1))) : ∀ (f k : Nat) (V : St), k + f = q → TV v V t0 t1 (nI (c + (((List.range k).map (fun k => f0 + k)).filter (krB G id st)).length)) t3 → wp_X7_tell_154 K41 P (f + 1) V (nI x) 1 (nI k) := by
  intro f
  have hN : N ≤ 300 := by have := hSR.2.2.1.1; omega
  have hlt := vld_lt hx hN
  have hinx : vp_in (nI x) 18000 := inN hlt (by decide)
  induction f with
  | zero =>
    intro k V hk hV
    rw [show k = q by omega] at hV ⊢
    refine ⟨hinx, br_p ?_ (nm_i (by rw [nI_1]; exact kk V hV))⟩
    rw [ixN (by omega), hV.1.2 32 (by decide), h32]; simp (disch := omega) only [nI_leI, nI_ltI, nI_eq] <;> omega
  | succ f ih =>
    intro k V hk hV
    have hSV : SRm G bk M N id st v0 V := SR_fr hSR (fun i _ => hV.1.1 i) (fun i hi => hV.1.2 i (by omega))
    obtain ⟨e8, e31, hc⟩ := h8 (by omega)
    have hd := (hSR.2.2.1.2 _ hx.1).1
    have hfk := hc k (by omega)
    have hdf := (hSR.2.2.1.2 _ hfk).1
    obtain ⟨g1, g2, g3, g4⟩ := vld_in hw hfk hdf (WF_d hw hdf).2.2
    have hglt := vld_lt g1 hN
    obtain ⟨s0, s1, s2⟩ := hSV.2.2.2 _ g1
    have hb1 : bk ≤ 1 := hSR.2.1.2.1
    have d12 := (WF_d hw hd).1
    refine ⟨hinx, br_n ?_ (br_n (by decide) ⟨inN (n := 2) (by decide) (by decide), r_part hw hSV.2.1 hSV.2.2.1 hx ⟨inN (by omega) (by decide), br_p ?_ ⟨hinx, r_root hw hSV.2.1 hSV.2.2.1 hfk ?_ ⟨inN hglt (by decide), ?_⟩⟩⟩⟩)⟩
    · rw [ixN (by omega), hV.1.2 32 (by decide), h32]; simp (disch := omega) only [nI_leI, nI_ltI, nI_eq]; omega
    · rw [ixN (by omega)]; exact (m_k9 hw hSV.2.1 hd hx.2).1 e8
    · rw [ixN (by omega), hV.1.2 31 (by decide), e31, nI_add]
    · rw [ixN (by omega), s2, ixL2]
      have hrng : ((List.range (k + 1)).map (fun k => f0 + k)).filter (krB G id st) = ((List.range k).map (fun k => f0 + k)).filter (krB G id st) ++ [f0 + k].filter (krB G id st) := by
        rw [List.range_succ, List.map_append, List.filter_append]; rfl
      by_cases h3 : st (60 * (f0 + k) + grt G (dfn G (id (f0 + k)))) = 3
      · rw [if_pos h3]
        refine br_n (by decide) ⟨inN (n := 2) (by decide) (by decide), nm_i (nm_i ?_)⟩
        rw [nI_1, ixL2]
        refine ih (k + 1) _ (by omega) ?_
        rw [hrng, List.filter_cons_of_pos (by unfold krB; exact decide_eq_true h3), List.filter_nil, List.length_append, hV.2.2.2.1, nI_1]
        exact TV_2 hV
      · rw [if_neg h3]
        refine br_p rfl ⟨inN (n := 2) (by decide) (by decide), nm_i (nm_i ?_)⟩
        rw [nI_1, ixL2]
        refine ih (k + 1) _ (by omega) ?_
        rw [hrng, List.filter_cons_of_neg (by unfold krB; rw [decide_eq_true_iff]; exact h3), List.filter_nil, List.append_nil, hV.2.2.2.1]
        have := TV_2 (w := nI (c + (((List.range k).map (fun k => f0 + k)).filter (krB G id st)).length) + 0) hV
        rw [show ∀ n : Int32, n + 0 = n from Int32.add_zero] at this
        rw [show ∀ n : Int32, n + 0 = n from Int32.add_zero]
        exact this
