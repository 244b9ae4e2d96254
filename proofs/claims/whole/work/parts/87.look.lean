/-! 87.look: a look at a slot: settled, or waiting -/
def isCl (c : Cid) : Bool := match c with
  | [] => false
  | e :: _ => decide (e.2 ≠ 0)
def cellN (N : Nat) (id : Nat → Cid) : Nat := ((List.range N).filter (fun j => isCl (id j))).length
theorem cellN_new {N : Nat} {id : Nat → Cid} {c : Cid} : cellN (N + 1) (uF id N c) = cellN N id + (if isCl c = true then 1 else 0) := by
  unfold cellN
  rw [List.range_succ, List.filter_append, List.length_append]
  congr 1
  · congr 1
    refine List.filter_congr (fun j hj => ?_)
    rw [uF_o (by have := List.mem_range.mp hj; omega)]
  · by_cases h : isCl c = true
    · rw [if_pos h, List.filter_cons_of_pos (by rw [uF_s]; exact h)]; rfl
    · rw [if_neg h, List.filter_cons_of_neg (by rw [uF_s]; exact h)]; rfl
def CNc (G : Prg) (N : Nat) (id : Nat → Cid) (st : Nat → Nat) (KS : List Nat) (cn : Nat) (u : St) : Prop := gI u 20 = nI KS.length ∧ KS.Nodup ∧ (∀ z, z ∈ KS ↔ vld G N id z ∧ st z = 3) ∧ gI u 19 = nI cn
def LKc (G : Prg) (N : Nat) (id : Nat → Cid) (st lk : Nat → Nat) : Prop := (∀ z, lk z ≤ 4) ∧ ∀ z, (¬ vld G N id z ∨ st z ≤ 1) → lk z = 0
def RIs (G : Prg) (a b : Int32) (sc : Nat → Nat → List Nat) (M : Nat) (u0 : St) (lk : Nat → Nat) (u : St) : Prop := ∃ (N : Nat) (id : Nat → Cid) (st : Nat → Nat) (va : Nat → Vl) (B : List Nat) (W : Nat → List Nat) (KS : List Nat), SIc G M N id st B W (fun _ => False) u0 u ∧ SMc G a b sc N id st va B W (fun _ => False) (fun _ => False) lk u ∧ CNc G N id st KS (cellN N id) u ∧ LKc G N id st lk
def OVs (G : Prg) (a b : Int32) (M : Nat) (u0 u : St) : Prop := FRu u0 u ∧ gI u 17 = 1 ∧ ∃ (N : Nat) (id : Nat → Cid) (st : Nat → Nat) (va : Nat → Vl) (c : Cid), SdM G a b N id st va ∧ N = M ∧ exC G (Lfp G a b) c ∧ ∀ j, j < N → id j ≠ c
def ScF (G : Prg) (sc : Nat → Nat → List Nat) : Prop := ∀ d, d < gn G → sc d (grt G d) = [] ∧ ∀ p, p < gnp G d → (∀ k, k < gnk G d p → sc d (gkid G d p k) = if gkd G d p = 6 ∧ k = 1 then p :: sc d p else sc d p) ∧ ∀ q, gkd G d p = 3 → q < gnp G d → gnu G d p = nI (60 * d + q) → q ∈ sc d p
/-- in a look at x -/
def InL (G : Prg) (a b : Int32) (sc : Nat → Nat → List Nat) (M N : Nat) (id : Nat → Cid) (st : Nat → Nat) (va : Nat → Vl) (B : List Nat) (W : Nat → List Nat) (KS : List Nat) (lk : Nat → Nat) (x : Nat) (u0 u : St) : Prop :=
  SIc G M N id st B W (fun z => z = x) u0 u ∧ SMc G a b sc N id st va B W (fun _ => False) (fun _ => False) lk u ∧ CNc G N id st KS (cellN N id) u ∧ LKc G N id st lk ∧ (lk x ≤ 1 ∨ ∃ l o w, Nd G (XM G N id st va) (slO id x) o l ∧ XM G N id st va (o, some w) ∧ lk x ≤ l + 1)
theorem cuF {x : Nat} : (fun z => z = x ∧ z ≠ x) = (fun _ : Nat => False) := funext fun _ => propext ⟨fun h => h.2 h.1, False.elim⟩
theorem InL_x {G : Prg} {a b : Int32} {sc : Nat → Nat → List Nat} {M N : Nat} {id : Nat → Cid} {st : Nat → Nat} {va : Nat → Vl} {B : List Nat} {W : Nat → List Nat} {KS : List Nat} {lk : Nat → Nat} {x : Nat} {u0 u : St} (h : InL G a b sc M N id st va B W KS lk x u0 u) : vld G N id x ∧ st x = 2 ∧ x ∉ B ∧ ∀ y, x ∉ W y := h.1.2.2.2.2.2.2.2 x rfl
theorem InL_d {G : Prg} {a b : Int32} {sc : Nat → Nat → List Nat} {M N : Nat} {id : Nat → Cid} {st : Nat → Nat} {va : Nat → Vl} {B : List Nat} {W : Nat → List Nat} {KS : List Nat} {lk : Nat → Nat} {x : Nat} {u0 u : St} (h : InL G a b sc M N id st va B W KS lk x u0 u) : dfn G (id (x / 60)) < gn G ∧ N ≤ 300 ∧ x < 18000 := ⟨vld_d h.1.2.2.1 (InL_x h).1, by have := h.1.2.2.1.1; omega, vld_lt (InL_x h).1 (by have := h.1.2.2.1.1; omega)⟩
/-- a slot's value, as the class keeps it -/
def RpV (N : Nat) (id : Nat → Cid) (w : Vl) (q : Int32) : Prop := (w.2 = none → q = -1) ∧ ∀ o, w.2 = some o → ∃ fc r, w.1 = nI r ∧ r ≤ 40 ∧ q = nI fc ∧ fc ≤ 300 ∧ ∀ k, k < r → fc + k < N ∧ id (fc + k) = (o.2, k + 1) :: o.1
theorem L_settle {G : Prg} {a b : Int32} {sc : Nat → Nat → List Nat} {M N : Nat} {id : Nat → Cid} {st : Nat → Nat} {va : Nat → Vl} {B : List Nat} {W : Nat → List Nat} {KS : List Nat} {lk : Nat → Nat} {x : Nat} {u0 u : St} (h : InL G a b sc M N id st va B W KS lk x u0 u) {w : Vl} {y v q : Int32} (hy : y = nI x) (hv : v = w.1) (hk : Kn G a b (XM G N id st va) (slO id x) w) (hq : RpV N id w q) (hif : kdS G (slO id x) = 5 → ∃ w, XM G N id st va (kidS G (slO id x) 0, some w) ∧ XM G N id st va (kidS G (slO id x) (if w.1 = 0 then 2 else 1), none)) {P : St → Prop} (k : ∀ U, RIs G a b sc M u0 lk U → P U) : wp_X4_settle u y v q P := by
  obtain ⟨c1, c2, c3, c4⟩ := InL_x h
  obtain ⟨hSI, hSM, ⟨k1, k2, k3, k4⟩, ⟨l1, l2⟩, _⟩ := h
  subst hv
  have hD := hSM.2.1
  have hL : Lfp G a b (slO id x, some w) := Lfp_step ⟨(hD.2.2 x c1).1 (by omega), Kn_mono (fun _ => SdM_X hD) hk⟩
  refine o_settle hSI rfl hy (fun U hU eI e20 eA e34 e35 => k U ⟨N, id, uF st x 3, uF va x w, B ++ W x, uF W x [], x :: KS, ?_, ?_, ⟨?_, ?_, fun z => ?_, ?_⟩, l1, fun z hz => l2 z (hz.imp (fun h => h) (fun h => ?_))⟩)
  · rw [cuF] at hU; exact hU
  · exact M_settle hSM c1 c2 c4 (fun h => h) hL hk hq hif (fun z hz => absurd hz (fun h => h)) (fun y z hz => (hSI.2.2.2.2.2.1.2.2.1 y z hz).2.2.1) (fun i hi => eI i (by omega) (by omega)) (eA 29 (by decide) (by decide) (by decide) (by decide)) e34 e35
  · rw [e20, k1, nI_1]; rfl
  · exact List.nodup_cons.mpr ⟨fun hm => by have := ((k3 x).mp hm).2; omega, k2⟩
  · rw [List.mem_cons, k3 z]
    constructor
    · rintro (rfl | ⟨q1, q2⟩)
      · exact ⟨c1, uF_s⟩
      · exact ⟨q1, by rw [uF_o (fun e => by rw [e] at q2; omega)]; exact q2⟩
    · rintro ⟨q1, q2⟩
      by_cases e : z = x
      · exact Or.inl e
      · rw [uF_o e] at q2; exact Or.inr ⟨q1, q2⟩
  · rw [eI 19 (by decide) (by decide)]; exact k4
  · by_cases e : z = x
    · rw [e, uF_s] at h; omega
    · rw [uF_o e] at h; exact h
theorem L_has {G : Prg} {a b : Int32} {sc : Nat → Nat → List Nat} {M N : Nat} {id : Nat → Cid} {st : Nat → Nat} {va : Nat → Vl} {B : List Nat} {W : Nat → List Nat} {KS : List Nat} {lk : Nat → Nat} {x : Nat} {u0 u : St} (h : InL G a b sc M N id st va B W KS lk x u0 u) {y l : Nat} (hy : vld G N id y) (hy1 : 1 ≤ st y) (hn : Nd G (XM G N id st va) (slO id x) (slO id y) l) {i1 i2 : Int32} (e1 : i1 = nI x) (e2 : i2 = nI y) {P : Int32 → St → Prop} (ky : st y = 3 → P 1 u) (kn : ∀ U, RIs G a b sc M u0 lk U → P 0 U) : wp_X4_has u i1 i2 P := by
  obtain ⟨c1, c2, c3, c4⟩ := InL_x h
  obtain ⟨hSI, hSM, ⟨k1, k2, k3, k4⟩, hLK, hlv⟩ := h
  have hF := XM_fn hSM.2.1
  refine o_has hSI rfl hy hy1 e1 e2 ky (fun h3 U hU eI eA => kn U ⟨N, id, st, va, B, uF W y (x :: W y), KS, ?_, M_wait hSM hn ?_ (fun i _ => eI i) (fun i hi => eA i (by omega) (by omega)), ⟨by rw [eI 20]; exact k1, k2, k3, by rw [eI 19]; exact k4⟩, hLK⟩)
  · rw [cuF] at hU; exact hU
  · have hu : ∀ w', ¬ XM G N id st va (slO id y, some w') := fun w' ⟨z, q1, q2, q3, _⟩ => by
      have := slO_inj hSM.2.1.1 q1.1 hy.1 q2
      rw [this] at q3; exact h3 q3
    rcases hlv with h | ⟨l0, o, w, p1, p2, p3⟩
    · have := (Nd_13 hn).1; omega
    · have := Nd_lt hF p1 p2 hn hu; omega
theorem VaC_rp {G : Prg} {N : Nat} {id : Nat → Cid} {st : Nat → Nat} {va : Nat → Vl} {u : St} (h : VaC G N id st va u) {y : Nat} (hy : vld G N id y) (h3 : st y = 3) : gA u 34 y = (va y).1 ∧ RpV N id (va y) (gA u 35 y) := ⟨(h y hy h3).1, (h y hy h3).2.1, (h y hy h3).2.2⟩
theorem L_follow {G : Prg} {a b : Int32} {sc : Nat → Nat → List Nat} {M N : Nat} {id : Nat → Cid} {st : Nat → Nat} {va : Nat → Vl} {B : List Nat} {W : Nat → List Nat} {KS : List Nat} {lk : Nat → Nat} {x : Nat} {u0 u : St} (h : InL G a b sc M N id st va B W KS lk x u0 u) {y l : Nat} (hy : vld G N id y) (hy1 : 1 ≤ st y) (hn : Nd G (XM G N id st va) (slO id x) (slO id y) l) (hk : st y = 3 → Kn G a b (XM G N id st va) (slO id x) (va y)) (hif : kdS G (slO id x) = 5 → ∃ w, XM G N id st va (kidS G (slO id x) 0, some w) ∧ XM G N id st va (kidS G (slO id x) (if w.1 = 0 then 2 else 1), none)) {i1 i2 : Int32} (e1 : i1 = nI x) (e2 : i2 = nI y) {P : St → Prop} (k : ∀ U, RIs G a b sc M u0 lk U → P U) : wp_X4_follow u i1 i2 P := by
  have hylt := vld_lt hy (InL_d h).2.1
  have hin : vp_in (nI y) 18000 := inN hylt (by decide)
  refine L_has h hy hy1 hn e1 e2 (fun h3 => br_n (by decide) ?_) (fun U hU => br_p rfl (k U hU))
  obtain ⟨v1, v2⟩ := VaC_rp h.2.1.2.2.1 hy h3
  subst e2
  refine ⟨hin, hin, ?_⟩
  rw [ixN (by omega), v1]
  exact L_settle h e1 rfl (hk h3) v2 hif k
/-- a slot inside -/
theorem L_kid {G : Prg} {a b : Int32} {sc : Nat → Nat → List Nat} {M N : Nat} {id : Nat → Cid} {st : Nat → Nat} {va : Nat → Vl} {B : List Nat} {W : Nat → List Nat} {KS : List Nat} {lk : Nat → Nat} {x : Nat} {u0 u : St} (hw : WFp G) (h : InL G a b sc M N id st va B W KS lk x u0 u) {k0 : Nat} (hk : k0 < gnk G (dfn G (id (x / 60))) (x % 60)) (h5 : kdS G (slO id x) = 5 → k0 = 0) : vld G N id (kiO G id x k0) ∧ slO id (kiO G id x k0) = kidS G (slO id x) k0 ∧ 1 ≤ st (kiO G id x k0) := by
  obtain ⟨c1, c2, c3, c4⟩ := InL_x h
  obtain ⟨q1, q2, q3, q4⟩ := kiO_v hw c1 (InL_d h).1 hk
  refine ⟨q1, q2, h.2.1.2.2.2.2.1 x c1 (by omega) (fun h => h) k0 ?_⟩
  by_cases e : kdS G (slO id x) = 5
  · rw [if_pos e, h5 e]; decide
  · rw [if_neg e]; exact hk
theorem XM_k {G : Prg} {N : Nat} {id : Nat → Cid} {st : Nat → Nat} {va : Nat → Vl} {y : Nat} {o : Sl} (hy : vld G N id y) (he : slO id y = o) (h3 : st y = 3) : XM G N id st va (o, some (va y)) := ⟨y, hy, he, h3, rfl⟩
