/-! 97.refW: the reference works at a slot -/
def OVm (G : Prg) (a b : Int32) (M : Nat) (v0 v : St) : Prop := FRv v0 v ∧ gI v 17 = 1 ∧ ∃ (N : Nat) (id : Nat → Cid) (st : Nat → Nat) (va : Nat → Vl) (c : Cid), SdM G a b N id st va ∧ N = M ∧ exC G (Lfp G a b) c ∧ ∀ j, j < N → id j ≠ c
/-- at work at x; begun at vs, with st0 -/
def InW (G : Prg) (a b : Int32) (bk M N : Nat) (id : Nat → Cid) (st : Nat → Nat) (va : Nat → Vl) (x S : Nat) (st0 : Nat → Nat) (v0 vs v : St) : Prop :=
  SRm G bk M N id st v0 v ∧ SMm G a b N id st va (fun _ => False) v ∧ vld G N id x ∧ st x = 1 ∧ ((v = vs ∧ st = st0) ∨ (gI v 18 = 1 ∧ sumTo st0 S < sumTo st S))
def WkY (G : Prg) (a b : Int32) (bk M N : Nat) (id : Nat → Cid) (S : Nat) (st0 : Nat → Nat) (v0 v : St) : Prop := ∃ (N' : Nat) (id' : Nat → Cid) (st' : Nat → Nat) (va' : Nat → Vl), SRm G bk M N' id' st' v0 v ∧ SMm G a b N' id' st' va' (fun _ => False) v ∧ N ≤ N' ∧ (∀ j, j < N → id' j = id j) ∧ gI v 18 = 1 ∧ sumTo st0 S < sumTo st' S
theorem sumTo_s {f : Nat → Nat} {x v : Nat} : ∀ n, x < n → sumTo (uF f x v) n + f x = sumTo f n + v
  | 0, h => absurd h (Nat.not_lt_zero _)
  | n + 1, h => by
    simp only [sumTo]
    rcases (show x < n ∨ x = n by omega) with h | h
    · have := sumTo_s (f := f) (v := v) n h
      rw [uF_o (show n ≠ x by omega)]; omega
    · rw [← h, sumTo_o x (Nat.le_refl _), uF_s]; omega
theorem W_d {G : Prg} {a b : Int32} {bk M N : Nat} {id : Nat → Cid} {st : Nat → Nat} {va : Nat → Vl} {x S : Nat} {st0 : Nat → Nat} {v0 vs v : St} (h : InW G a b bk M N id st va x S st0 v0 vs v) : dfn G (id (x / 60)) < gn G ∧ N ≤ 300 ∧ x < 18000 := ⟨(h.1.2.2.1.2 _ h.2.2.1.1).1, by have := h.1.2.2.1.1; omega, vld_lt h.2.2.1 (by have := h.1.2.2.1.1; omega)⟩
theorem W_reach {G : Prg} {a b : Int32} {bk M N : Nat} {id : Nat → Cid} {st : Nat → Nat} {va : Nat → Vl} {x S : Nat} {st0 : Nat → Nat} {v0 vs v : St} (hS : S = 18000) (h : InW G a b bk M N id st va x S st0 v0 vs v) {z : Nat} (hz : vld G N id z) (hL : Lfp G a b (slO id z, none)) {y : Int32} (hy : y = nI z) {P : St → Prop} (k : ∀ st' V, InW G a b bk M N id st' va x S st0 v0 vs V → 1 ≤ st' z → (∀ y, st y = 3 ↔ st' y = 3) → (∀ y, 1 ≤ st y → 1 ≤ st' y) → P V) : wp_X7_reach v y P := by
  have hh := h
  obtain ⟨hSR, hSM, hx, hx1, hch⟩ := h
  have hlt := vld_lt hz (W_d hh).2.1
  refine r_reach hSR hz hy (fun h1 => k st v hh h1 (fun _ => Iff.rfl) (fun _ h => h)) (fun h0 V hV eI e18 eA => ?_)
  refine k (uF st z 1) V ⟨hV, Rm_reach hSM hz h0 hL (fun h => h) (eI 17 (by decide)) eA, hx, by rw [uF_o (fun e => by rw [e] at hx1; omega)]; exact hx1, Or.inr ⟨e18, ?_⟩⟩ (by rw [uF_s]; decide) (fun y => ?_) (fun y hy => ?_)
  · have := sumTo_s (f := st) (x := z) (v := 1) S (by omega)
    rcases hch with ⟨_, e⟩ | ⟨_, e⟩
    · rw [← e]; omega
    · omega
  · by_cases e : y = z
    · rw [e, uF_s, h0]; exact ⟨fun h => by omega, fun h => by omega⟩
    · rw [uF_o e]
  · by_cases e : y = z
    · rw [e, uF_s]; decide
    · rw [uF_o e]; exact hy
theorem W_block {G : Prg} {a b : Int32} {bk M N : Nat} {id : Nat → Cid} {st : Nat → Nat} {va : Nat → Vl} {x S : Nat} {st0 : Nat → Nat} {v0 vs v : St} (h : InW G a b bk M N id st va x S st0 v0 vs v) (hb : Bl G N id st va x) {P : St → Prop} (ky : ∀ V, WkY G a b bk M N id S st0 v0 V → P V) (kb : Bl G N id st0 va x → P vs) : P v := by
  obtain ⟨hSR, hSM, hx, hx1, hch⟩ := h
  rcases hch with ⟨e1, e2⟩ | ⟨e1, e2⟩
  · rw [e1]; rw [e2] at hb; exact kb hb
  · exact ky v ⟨N, id, st, va, hSR, hSM, Nat.le_refl _, fun _ _ => rfl, e1, e2⟩
theorem W_know {G : Prg} {a b : Int32} {bk M N : Nat} {id : Nat → Cid} {st : Nat → Nat} {va : Nat → Vl} {x S : Nat} {st0 : Nat → Nat} {v0 vs v : St} (hS : S = 18000) (h : InW G a b bk M N id st va x S st0 v0 vs v) {w : Vl} {y n q : Int32} (hy : y = nI x) (hkn : Kn G a b (XM G N id st va) (slO id x) w) (hop : Op G N id st va x) (h8 : kdS G (slO id x) ≠ 8)
    (hv : (w.2 = none → q = -1 ∧ n = w.1) ∧ ∀ o, w.2 = some o → ∃ y r fc, vld G N id y ∧ slO id y = o ∧ q = nI y ∧ w.1 = nI r ∧ (r ≤ 40 ∧ st y = 3) ∧ gA v 32 y = nI r ∧ gA v 31 y = nI fc ∧ fc ≤ 300 ∧ ∀ k, k < r → fc + k < N ∧ id (fc + k) = (o.2, k + 1) :: o.1) {P : St → Prop} (ky : ∀ V, WkY G a b bk M N id S st0 v0 V → P V) : wp_X7_know v y n q P := by
  have hlt := (W_d h).2.2
  obtain ⟨hSR, hSM, hx, hx1, hch⟩ := h
  have hD := hSM.2.1
  have hL : Lfp G a b (slO id x, some w) := Lfp_step ⟨(hD.2.2 x hx).1 (by omega), Kn_mono (fun _ => SdM_X hD) hkn⟩
  refine r_know hSR hx hy (fun V hV eI e18 eA e29 e30 => ky V ⟨N, id, uF st x 3, uF va x w, hV, ?_, Nat.le_refl _, fun _ _ => rfl, e18, ?_⟩) (by omega)
  · refine Rm_know hSM hx hx1 hL hkn hop (fun z hz => Or.inl hz) (fun z hz => hz) (fun e => absurd e h8) (eI 17 (by decide)) eA (fun z hz => ?_) ?_
    · rw [e29, e30, updE, updE, if_neg hz, if_neg hz]; exact ⟨rfl, rfl⟩
    · rw [e29, e30, updE, updE, if_pos rfl, if_pos rfl]
      refine ⟨hv.1, fun o ho => ?_⟩
      obtain ⟨y, q, fc, t1, t2, t3, t4, t5, t6⟩ := hv.2 o ho
      exact ⟨y, q, fc, t1, t2, t3, t4, ⟨t5.1, Or.inl t5.2⟩, t6⟩
  · have := sumTo_s (f := st) (x := x) (v := 3) S (by omega)
    rcases hch with ⟨_, e⟩ | ⟨_, e⟩
    · rw [← e]; omega
    · omega
theorem W_same {G : Prg} {a b : Int32} {bk M N : Nat} {id : Nat → Cid} {st : Nat → Nat} {va : Nat → Vl} {x S : Nat} {st0 : Nat → Nat} {v0 vs v : St} (hS : S = 18000) (h : InW G a b bk M N id st va x S st0 v0 vs v) {y l : Nat} (hy : vld G N id y) (hn : Nd G (XM G N id st va) (slO id x) (slO id y) l) (hkn : st y = 3 → Kn G a b (XM G N id st va) (slO id x) (va y)) (hop : Op G N id st va x) (h8 : kdS G (slO id x) ≠ 8) {i1 i2 : Int32} (e1 : i1 = nI x) (e2 : i2 = nI y) {P : St → Prop} (ky : ∀ V, WkY G a b bk M N id S st0 v0 V → P V) (kb : Bl G N id st0 va x → P vs) : wp_X7_same v i1 i2 P := by
  subst e2
  have hylt := vld_lt hy (W_d h).2.1
  have hin : vp_in (nI y) 18000 := inN hylt (by decide)
  obtain ⟨s0, s1, s2⟩ := h.1.2.2.2 y hy
  refine ⟨hin, ?_⟩
  rw [ixN (by omega), s2]
  by_cases h3 : st y = 3
  · rw [if_pos h3]
    refine br_n (by decide) ⟨hin, hin, W_know hS h e1 (hkn h3) hop h8 ?_ ky⟩
    obtain ⟨q1, q2⟩ := h.2.1.2.2.1 y hy h3
    exact ⟨q1, q2⟩
  · rw [if_neg h3]
    exact br_p rfl (W_block h ⟨hop, y, l, hy, h3, hn⟩ ky kb)
theorem r_num {G : Prg} {N : Nat} {id : Nat → Cid} {st : Nat → Nat} {va : Nat → Vl} {v : St} (hN : N ≤ 300) (hV : VaM G N id st va v) {y : Nat} (hy : vld G N id y) (h3 : st y = 3) {P : Int32 → St → Prop} (k : P (va y).1 v) : wp_X7_numberOf v (nI y) P := by
  have hylt := vld_lt hy hN
  have hin : vp_in (nI y) 18000 := inN hylt (by decide)
  obtain ⟨q1, q2⟩ := hV y hy h3
  refine ⟨hin, ?_⟩
  rw [ixN (by omega)]
  cases ho : (va y).2 with
  | none =>
    obtain ⟨r1, r2⟩ := q1 ho
    rw [r1]
    exact br_p rfl ⟨hin, by rw [r2]; exact k⟩
  | some o =>
    obtain ⟨z, q, fc, z1, z2, z3, z4, z5, z6, _⟩ := q2 o ho
    have hzlt := vld_lt z1 hN
    rw [z3]
    refine br_n (nI_m1 (by omega)) ⟨hin, inN hzlt (by decide), ?_⟩
    rw [ixN (by omega), z6, ← z4]; exact k
theorem W_kid {G : Prg} {a b : Int32} {bk M N : Nat} {id : Nat → Cid} {st : Nat → Nat} {va : Nat → Vl} {x S : Nat} {st0 : Nat → Nat} {v0 vs v : St} (hw : WFp G) (h : InW G a b bk M N id st va x S st0 v0 vs v) {k0 : Nat} (hk : k0 < gnk G (dfn G (id (x / 60))) (x % 60)) : vld G N id (kiO G id x k0) ∧ slO id (kiO G id x k0) = kidS G (slO id x) k0 ∧ gkid G (dfn G (id (x / 60))) (x % 60) k0 < 60 := by
  obtain ⟨q1, q2, q3, q4⟩ := kiO_v hw h.2.2.1 (W_d h).1 hk
  exact ⟨q1, q2, by have : kiO G id x k0 % 60 < 60 := Nat.mod_lt _ (by decide); omega⟩
theorem W_L {G : Prg} {a b : Int32} {bk M N : Nat} {id : Nat → Cid} {st : Nat → Nat} {va : Nat → Vl} {x S : Nat} {st0 : Nat → Nat} {v0 vs v : St} (h : InW G a b bk M N id st va x S st0 v0 vs v) {k0 : Nat} (hk : k0 < (if kdS G (slO id x) = 5 then 1 else gnk G (dfn G (id (x / 60))) (x % 60))) : Lfp G a b (kidS G (slO id x) k0, none) :=
  Lfp_step (Or.inr (Or.inl ⟨x % 60, k0, h.2.2.1.2, hk, rfl, (h.2.1.2.1.2.2 x h.2.2.1).1 (by have := h.2.2.2.1; omega)⟩))
/-- an argument -/
theorem W_arg {G : Prg} {a b : Int32} {bk M N : Nat} {id : Nat → Cid} {st : Nat → Nat} {va : Nat → Vl} {x S : Nat} {st0 : Nat → Nat} {v0 vs v : St} (hw : WFp G) (hS : S = 18000) (h : InW G a b bk M N id st va x S st0 v0 vs v) (e : kdS G (slO id x) = 2) (hnk0 : gnk G (dfn G (id (x / 60))) (x % 60) = 0) {q : Nat} (hq : q < gar G (dfn G (id (x / 60)))) (hnu : nuS G (slO id x) = nI q) {Pt : Nat} (hPt : Pt < 1440) (h6 : gA v 6 Pt = nI q) {P : St → Prop} (ky : ∀ V, WkY G a b bk M N id S st0 v0 V → P V) (kb : Bl G N id st0 va x → P vs) : wp_X7_workArgument v (nI x) (nI Pt) P := by
  obtain ⟨hd, hN, hlt⟩ := W_d h
  have hx := h.2.2.1
  have hx1 := hx.1
  have har := (hw.2 _ hd).1
  have hixq : ix (nuS G (slO id x)) = q := by rw [hnu, ixN (by omega)]
  have hop : Op G N id st va x := ⟨fun k hk => by rw [if_neg (by omega), hnk0] at hk; omega, fun e7 => by omega, fun e5 => by omega⟩
  have hin : vp_in (nI (6 * (x / 60) + q)) 1800 := inN (by omega) (by decide)
  refine ⟨inN hPt (by decide), nm_i ?_⟩
  rw [ixN (by omega), h6, pk_d6 (by omega)]
  have e6 : 6 * nI (x / 60) + nI q = nI (6 * (x / 60) + q) := by show nI 6 * _ + _ = _; rw [pk_mul, nI_add]
  rw [e6]
  refine ⟨hin, ?_⟩
  rw [ixN (by omega)]
  have hA := h.2.1.2.2.2.1 (x / 60) hx1 q hq
  unfold ArJ at hA
  cases hid : id (x / 60) with
  | nil =>
    rw [hid] at hA
    obtain ⟨a1, a2, a3⟩ := hA
    rw [a1]
    refine br_p rfl ⟨hin, hin, ?_⟩
    rw [a2, a3]
    have hsrc : srcS G (slO id x) q = none := by unfold srcS slO; rw [hid]
    have harg : argS a b (slO id x) q = if q = 0 then a else if q = 1 then b else 0 := by unfold argS slO; rw [hid]
    exact W_know hS h (w := (if q = 0 then a else if q = 1 then b else 0, none)) rfl (by rw [Kn_2 e, hixq]; exact Or.inl ⟨hsrc, by rw [harg]⟩) hop (by omega) ⟨fun _ => ⟨rfl, rfl⟩, fun o ho => by cases ho⟩ ky
  | cons ec c =>
    rw [hid] at hA
    obtain ⟨j', m1, m2, m3, hor⟩ := hA
    have hdc : dfn G (id j') < gn G := (h.1.2.2.1.2 j' m1).1
    have hkc : dfn G c < gn G := by rw [← m2]; exact hdc
    have m3' : ec.1 < gnp G (dfn G (id j')) := by rw [m2]; exact m3
    obtain ⟨y1, y2, y3, y4⟩ := vld_in hw m1 hdc m3'
    rw [m2] at y2
    have hdx : dfn G (id (x / 60)) = ix (gnu G (dfn G c) ec.1) := by rw [hid]; rfl
    have hkinds := ((hw.2 _ hkc).2.2.2.2 ec.1 m3).2.2
    have hlty := vld_lt y1 hN
    have hyk : ∀ k0, k0 < gnk G (dfn G c) ec.1 → vld G N id (60 * j' + gkid G (dfn G c) ec.1 k0) ∧ slO id (60 * j' + gkid G (dfn G c) ec.1 k0) = kidS G (c, ec.1) k0 := fun k0 hk0 => by
      have hkid := ((hw.2 _ hkc).2.2.2.2 ec.1 m3).2.1 k0 hk0
      obtain ⟨g1, g2, _⟩ := vld_in hw m1 hdc (p := gkid G (dfn G c) ec.1 k0) (by rw [m2]; exact hkid)
      exact ⟨g1, by rw [g2, m2]; rfl⟩
    have follow : ∀ y, vld G N id y → srcS G (slO id x) q = some (slO id y) → wp_X7_same v (nI x) (nI y) P := fun y hy hs => W_same hS h hy (l := 1) (Or.inl ⟨e, rfl, by rw [hixq]; exact hs⟩) (fun h3 => by rw [Kn_2 e, hixq]; exact Or.inr ⟨_, hs, XM_k hy rfl h3⟩) hop (by omega) rfl rfl ky kb
    rcases hor with ⟨e0, k7, a1⟩ | ⟨e0, e40, k8, b1, b2, b3⟩
    · have hqn : q < gnk G (dfn G c) ec.1 := by
        rcases hkinds with r | r | r | r | r | r | r | r | r | r
        all_goals first | (exfalso; omega) | skip
        · obtain ⟨_, t, t1, t2, t3⟩ := r
          rw [hdx, t2, ixN (by have := (WF_d hw hkc).1; omega)] at hq
          rw [t3] at hq; exact hq
        · exfalso; have := r.1; rw [k7] at this; simp at this
      obtain ⟨g1, g2⟩ := hyk q hqn
      have hglt := vld_lt g1 hN
      rw [a1]
      refine br_n (nI_m1 (by omega)) ⟨hin, follow _ g1 ?_⟩
      unfold srcS slO; rw [hid]; show (if ec.2 = 0 then _ else _) = _; rw [if_pos e0]
      have := g2; unfold slO at this; rw [this]
    · have hqn : q < gnk G (dfn G c) ec.1 + 1 := by
        rcases hkinds with r | r | r | r | r | r | r | r | r | r
        all_goals first | (exfalso; omega) | skip
        · obtain ⟨_, _, t, t1, t2, t3⟩ := r
          rw [hdx, t2, ixN (by have := (WF_d hw hkc).1; omega)] at hq
          rw [t3] at hq; exact hq
        · exfalso; have := r.1; rw [k8] at this; simp at this
      have hsrc : srcS G (slO id x) q = if q = 0 then none else if q = 1 then some (c, ec.1) else some (kidS G (c, ec.1) (q - 1)) := by unfold srcS slO; rw [hid]; show (if ec.2 = 0 then _ else _) = _; rw [if_neg e0]
      by_cases hq0 : q = 0
      · obtain ⟨a1, a2, a3⟩ := b1 hq0
        rw [if_pos hq0] at hsrc
        rw [a1]
        refine br_p rfl ⟨hin, hin, ?_⟩
        rw [a2, a3]
        exact W_know hS h (w := (nI (ec.2 - 1), none)) rfl (by rw [Kn_2 e, hixq]; exact Or.inl ⟨hsrc, by unfold argS slO; rw [hid]⟩) hop (by omega) ⟨fun _ => ⟨rfl, rfl⟩, fun o ho => by cases ho⟩ ky
      · by_cases hq1 : q = 1
        · obtain ⟨a1, a3⟩ := b2 hq1
          rw [if_neg hq0, if_pos hq1] at hsrc
          rw [a1]
          refine br_p rfl ⟨hin, hin, ?_⟩
          rw [a3]
          -- the array is known: its cell is there
          have h3 : st (60 * j' + ec.1) = 3 := ((h.2.1.2.2.2.2.2.2.2.1 (x / 60) ec c j' hx1 hid m1 m2).2 e0).elim (fun h => h) (fun h => h.elim)
          have hva : (va (60 * j' + ec.1)).2 = some (slO id (60 * j' + ec.1)) := h.2.1.2.2.2.2.2.2.2.2.2.1 _ y1 (by rw [y2]; exact k8) h3
          obtain ⟨z, r, fc, z1, z2, z3, z4, z5, z6, z7, z8, z9⟩ := (h.2.1.2.2.1 _ y1 h3).2 _ hva
          have hzz : z = 60 * j' + ec.1 := slO_inj h.2.1.2.1.1 z1.1 y1.1 z2
          subst hzz
          refine W_know hS h (w := va (60 * j' + ec.1)) rfl (by rw [Kn_2 e, hixq]; exact Or.inr ⟨_, hsrc, XM_k y1 y2 h3⟩) hop (by omega) ⟨(fun hn => by rw [hva] at hn; cases hn), fun o ho => ?_⟩ ky
          rw [hva] at ho; cases ho
          exact ⟨_, r, fc, z1, rfl, rfl, z4, z5, z6, z7, z8, z9⟩
        · have a1 := b3 (by omega)
          rw [if_neg hq0, if_neg hq1] at hsrc
          obtain ⟨g1, g2⟩ := hyk (q - 1) (by omega)
          have hglt := vld_lt g1 hN
          rw [a1]
          exact br_n (nI_m1 (by omega)) ⟨hin, follow _ g1 (by rw [hsrc, g2])⟩
