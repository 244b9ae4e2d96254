/-! 98f.refQ: the reference's passes -/
def PQ (G : Prg) (a b : Int32) (bk M : Nat) (v0 : St) (K0 y : Nat) (R : Nat → (Nat → Cid) → Prop) (v : St) : Prop := ∃ (N : Nat) (id : Nat → Cid) (st : Nat → Nat) (va : Nat → Vl), SRm G bk M N id st v0 v ∧ SMm G a b N id st va (fun _ => False) v ∧ R N id ∧ ((gI v 18 = 0 ∧ sumTo st 18000 = K0 ∧ ∀ z, z < y → vld G N id z → st z = 1 → Bl G N id st va z) ∨ (gI v 18 = 1 ∧ K0 < sumTo st 18000))
theorem p_152o {K85 : St → Prop} {K107 : St → Int32 → Prop} {post : Int32 → St → Prop} {j : Nat} {v : St} (h17 : gI v 17 = 1) (k : K107 v (nI (j + 1))) {n : Nat} {x6 x7 : Int32} : wp_X7_run_152 K85 K107 post (n + 1) v (nI j) x6 x7 := by
  have e : wp_X7_run_204 K85 K107 v (nI j) post := nm_i (by rw [nI_1]; exact k)
  exact br_b (fun _ => e) (fun _ => br_n (by rw [h17]; decide) e)
theorem p_152 {G : Prg} {a b : Int32} {bk M : Nat} {v0 : St} {K0 : Nat} {K85 : St → Prop} {K107 : St → Int32 → Prop} {post : Int32 → St → Prop} (hw : WFp G) (hP0 : MPv G bk v0) {j : Nat} {c : Cid} (hj : j < 300) (hdc : dfn G c < gn G) (kq : ∀ v, PQ G a b bk M v0 K0 (60 * j + gnp G (dfn G c)) (fun N id => j < N ∧ id j = c) v → K107 v (nI (j + 1))) (ko : ∀ v, OVm G a b M v0 v → K107 v (nI (j + 1))) : ∀ (f i : Nat) (v : St), i + f = gnp G (dfn G c) → PQ G a b bk M v0 K0 (60 * j + i) (fun N id => j < N ∧ id j = c) v → wp_X7_run_152 K85 K107 post (f + 1) v (nI j) (nI (gnp G (dfn G c))) (nI (60 * j + i))
  | 0, i, v, hi, h => by
    have hnp := (WF_d hw hdc).2.1
    have e : 60 * nI j + nI (gnp G (dfn G c)) = nI (60 * j + gnp G (dfn G c)) := by show nI 60 * nI j + _ = _; rw [pk_mul, nI_add]
    rw [show i = gnp G (dfn G c) by omega] at h ⊢
    refine br_p ?_ (nm_i ?_)
    · rw [e]; simp (disch := omega) only [nI_leI, nI_ltI, nI_eq] <;> omega
    · rw [nI_1]; exact kq v h
  | f + 1, i, v, hi, h => by
    obtain ⟨N, id, st, va, hSR, hSM, ⟨hjN, hidj⟩, hor⟩ := h
    have hnp := (WF_d hw hdc).2.1
    have e : 60 * nI j + nI (gnp G (dfn G c)) = nI (60 * j + gnp G (dfn G c)) := by show nI 60 * nI j + _ = _; rw [pk_mul, nI_add]
    have hin : vp_in (nI (60 * j + i)) 18000 := inN (by omega) (by decide)
    have hv : vld G N id (60 * j + i) := (vld_in hw hjN (by rw [hidj]; exact hdc) (by rw [hidj]; omega)).1
    obtain ⟨s0, s1, s2⟩ := hSR.2.2.2 _ hv
    have next : ∀ V, PQ G a b bk M v0 K0 (60 * j + (i + 1)) (fun N id => j < N ∧ id j = c) V → wp_X7_run_198 K85 K107 (wp_X7_run_152 K85 K107 post (f + 1)) V (nI j) (nI (gnp G (dfn G c))) (nI (60 * j + i)) post := fun V hV => nm_i (by rw [nI_1]; exact p_152 hw hP0 hj hdc kq ko f (i + 1) V (by omega) hV)
    refine br_n (by rw [e]; simp (disch := omega) only [nI_leI, nI_ltI, nI_eq]; omega) (br_p hSM.1.1 ⟨hin, ?_⟩)
    rw [ixN (by omega), s1]
    have ext : (st (60 * j + i) = 1 → gI v 18 = 0 → Bl G N id st va (60 * j + i)) → PQ G a b bk M v0 K0 (60 * j + (i + 1)) (fun N id => j < N ∧ id j = c) v := fun hb => ⟨N, id, st, va, hSR, hSM, ⟨hjN, hidj⟩, hor.imp (fun ⟨q1, q2, q3⟩ => ⟨q1, q2, fun z hz hvz h1 => by
        rcases (show z < 60 * j + i ∨ z = 60 * j + i by omega) with hz | hz
        · exact q3 z hz hvz h1
        · rw [hz] at h1 ⊢; exact hb h1 q1⟩) (fun h => h)⟩
    rcases s0 with h0 | h1 | h3
    · rw [if_pos h0]; exact br_p rfl (next v (ext (fun h => by omega)))
    · rw [if_neg (by omega)]
      refine br_n (by decide) ⟨hin, ?_⟩
      rw [s2, if_neg (by omega)]
      refine br_p rfl (W_work hw rfl hP0 (st0 := st) (vs := v) ⟨hSR, hSM, hv, h1, Or.inl ⟨rfl, rfl⟩⟩ (fun V hV => ?_) (fun hb => next v (ext (fun _ _ => hb))) (fun V hV => nm_i (p_152o hV.2.1 (ko V hV))))
      obtain ⟨N', id', st', va', g1, g2, g3, g4, g5, g6⟩ := hV
      refine next V ⟨N', id', st', va', g1, g2, ⟨by omega, by rw [g4 j hjN]; exact hidj⟩, Or.inr ⟨g5, ?_⟩⟩
      rcases hor with ⟨_, q2, _⟩ | ⟨_, q2⟩ <;> omega
    · rw [if_neg (by omega)]
      refine br_n (by decide) ⟨hin, ?_⟩
      rw [s2, if_pos h3]
      exact br_n (by decide) (next v (ext (fun h => by omega)))
theorem p_107 {G : Prg} {a b : Int32} {bk M : Nat} {v0 : St} {K0 : Nat} {K85 : St → Prop} {post : Int32 → St → Prop} (hw : WFp G) (hP0 : MPv G bk v0) (kq : ∀ (v : St) (N : Nat) (id : Nat → Cid) (st : Nat → Nat) (va : Nat → Vl), SRm G bk M N id st v0 v → SMm G a b N id st va (fun _ => False) v → ((gI v 18 = 0 ∧ ClM G a b N id st va) ∨ (gI v 18 = 1 ∧ K0 < sumTo st 18000)) → K85 v) (ko : ∀ v, OVm G a b M v0 v → K85 v) : ∀ (f j : Nat) (v : St), j + f = 300 → PQ G a b bk M v0 K0 (60 * j) (fun _ _ => True) v → wp_X7_run_107 K85 post (f + 1) v (nI j) := by
  intro f
  induction f with
  | zero =>
    intro j v hj ⟨N, id, st, va, hSR, hSM, _, hor⟩
    have hNM := hSR.2.2.1.1
    refine br_p ?_ ?_
    · rw [hNM.1]; simp (disch := omega) only [nI_leI, nI_ltI, nI_eq]; omega
    · exact kq v N id st va hSR hSM (hor.imp (fun ⟨q1, _, q3⟩ => ⟨q1, r_closed hw hSR.2.2.1 hSR.2.2.2 hSM (fun z hz h1 => q3 z (by have := hz.1; omega) hz h1)⟩) (fun h => h))
  | succ f ih =>
    intro j v hj ⟨N, id, st, va, hSR, hSM, _, hor⟩
    have hNM := hSR.2.2.1.1
    refine br_b (fun cN => ?_) (fun cN => ?_)
    · rw [hNM.1] at cN; simp (disch := omega) only [nI_leI, nI_ltI, nI_eq] at cN
      exact kq v N id st va hSR hSM (hor.imp (fun ⟨q1, _, q3⟩ => ⟨q1, r_closed hw hSR.2.2.1 hSR.2.2.2 hSM (fun z hz h1 => q3 z (by have := hz.1; omega) hz h1)⟩) (fun h => h))
    · rw [hNM.1] at cN; simp (disch := omega) only [nI_leI, nI_ltI, nI_eq] at cN
      have hjN : j < N := by omega
      have hd := (hSR.2.2.1.2 j hjN).1
      have d12 := (WF_d hw hd).1
      have hb1 : bk ≤ 1 := hP0.2.1
      refine br_p hSM.1.1 ⟨inN (by omega) (by decide), ?_⟩
      rw [ixN (by omega), r_ix hw hSR.2.1 hSR.2.2.1 hjN]
      refine ⟨inN (by omega) (by decide), nm_i (nm_i ⟨gnp G (dfn G (id j)) + 1, ?_⟩)⟩
      have e60 : 60 * nI j = nI (60 * j) := by show nI 60 * nI j = _; rw [pk_mul]
      rw [ixN (by omega), (hSR.2.1.2.2.2 _ hd).2.1, e60]
      refine p_152 hw hP0 (by omega) hd (fun v ⟨N', id', st', va', g1, g2, ⟨g3, g3'⟩, g4⟩ => ih (j + 1) v (by omega) ⟨N', id', st', va', g1, g2, trivial, g4.imp (fun ⟨q1, q2, q3⟩ => ⟨q1, q2, fun z hz hvz h1 => q3 z ?_ hvz h1⟩) (fun h => h)⟩) (fun v hv => br_b (fun _ => ko v hv) (fun _ => br_n (by rw [hv.2.1]; decide) (ko v hv))) (gnp G (dfn G (id j))) 0 v (by omega) ⟨N, id, st, va, hSR, hSM, ⟨hjN, rfl⟩, hor⟩
      have hz2 := hvz.2
      by_cases hzj : z / 60 = j
      · rw [hzj, g3'] at hz2; omega
      · omega
theorem p_85 {G : Prg} {a b : Int32} {bk M : Nat} {v0 : St} {post : Int32 → St → Prop} (hw : WFp G) (hP0 : MPv G bk v0) (kc : ∀ (v : St) (N : Nat) (id : Nat → Cid) (st : Nat → Nat) (va : Nat → Vl), SRm G bk M N id st v0 v → SMm G a b N id st va (fun _ => False) v → ClM G a b N id st va → wp_X7_run_213 v post) (ko : ∀ v, OVm G a b M v0 v → wp_X7_run_213 v post) : ∀ (f : Nat) (v : St) (N : Nat) (id : Nat → Cid) (st : Nat → Nat) (va : Nat → Vl), SRm G bk M N id st v0 v → SMm G a b N id st va (fun _ => False) v → gI v 18 = 1 → 72000 ≤ sumTo st 18000 + f → wp_X7_run_85 post (f + 2) v := by
  intro f
  induction f with
  | zero =>
    intro v N id st va hSR hSM h18 hf
    refine br_n (by rw [h18]; decide) (br_p hSM.1.1 (nm_i ⟨301, p_107 (K0 := sumTo st 18000) hw hP0 (fun v' N' id' st' va' g1 g2 hor => ?_) (fun v' hv => br_b (fun _ => ko v' hv) (fun _ => br_n (by rw [hv.2.1]; decide) (ko v' hv))) 300 0 (sI v 18 0) rfl ⟨N, id, st, va, SR_fr hSR (fun i hi => by rw [gI_sI, if_neg (by omega)]) (fun i hi => rfl), hSM, trivial, Or.inl ⟨rfl, rfl, fun z hz => by omega⟩⟩⟩))
    rcases hor with ⟨q1, q2⟩ | ⟨q1, q2⟩
    · exact br_p q1 (kc v' N' id' st' va' g1 g2 q2)
    · have := sumTo_le (f := st') (fun z => by
        by_cases hv : vld G N' id' z
        · have := (g1.2.2.2 z hv).1; omega
        · have := g2.2.2.2.2.2.2.2.2.2.2.1 z hv; omega) 18000
      omega
  | succ f ih =>
    intro v N id st va hSR hSM h18 hf
    refine br_n (by rw [h18]; decide) (br_p hSM.1.1 (nm_i ⟨301, p_107 (K0 := sumTo st 18000) hw hP0 (fun v' N' id' st' va' g1 g2 hor => ?_) (fun v' hv => br_b (fun _ => ko v' hv) (fun _ => br_n (by rw [hv.2.1]; decide) (ko v' hv))) 300 0 (sI v 18 0) rfl ⟨N, id, st, va, SR_fr hSR (fun i hi => by rw [gI_sI, if_neg (by omega)]) (fun i hi => rfl), hSM, trivial, Or.inl ⟨rfl, rfl, fun z hz => by omega⟩⟩⟩))
    rcases hor with ⟨q1, q2⟩ | ⟨q1, q2⟩
    · exact br_p q1 (kc v' N' id' st' va' g1 g2 q2)
    · exact ih v' N' id' st' va' g1 g2 q1 (by omega)
