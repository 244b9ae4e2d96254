/-! 91.closed: when the bag is empty, nothing is left -/
theorem c_closed {G : Prg} {a b : Int32} {sc : Nat → Nat → List Nat} {M N : Nat} {id : Nat → Cid} {st : Nat → Nat} {va : Nat → Vl} {W : Nat → List Nat} {lk : Nat → Nat} {u0 u : St} (hw : WFp G) (hSI : SIc G M N id st [] W (fun _ => False) u0 u) (hSM : SMc G a b sc N id st va [] W (fun _ => False) (fun _ => False) lk u) : ClM G a b N id st va := by
  obtain ⟨hF, hC, hJ, hS, hBg, ⟨w1, w2, w3, w4⟩, hcov, hcu⟩ := hSI
  obtain ⟨⟨n1, n2, n3, n4, n5⟩, hD, hV, hMd, hK, hR, hSc, hMk, hW, hB, hI, hKn⟩ := hSM
  have hFn := XM_fn hD
  -- a reached slot has been seen
  have seen : ∀ x, vld G N id x → 1 ≤ st x → 2 ≤ st x := fun x hx h1 => by
    by_cases h : st x = 1
    · have := (hcov x hx).1 h; cases this
    · omega
  -- a slot that isn't known waits for one that isn't
  have waits : ∀ x, vld G N id x → st x = 2 → ∃ y l, vld G N id y ∧ 1 ≤ st y ∧ st y ≤ 2 ∧ Nd G (XM G N id st va) (slO id x) (slO id y) l := fun x hx h2 => by
    rcases (hcov x hx).2 h2 with h | ⟨y, hy⟩ | h
    · cases h
    · obtain ⟨l, q1, _⟩ := hW y x hy
      obtain ⟨⟨a1, a2, a3⟩, _⟩ := w3 y x hy
      exact ⟨y, l, a1, a2, a3, q1⟩
    · exact h.elim
  have noK : ∀ y, vld G N id y → st y ≤ 2 → ∀ w, ¬ XM G N id st va (slO id y, some w) := fun y hy h2 w ⟨z, q1, q2, q3, _⟩ => by
    have := slO_inj hD.1 q1.1 hy.1 q2
    rw [this] at q3; omega
  have calls : ∀ c, exC G (XM G N id st va) c → ∃ j, j < N ∧ id j = c := fun c hc => by
    cases c with
    | nil => exact ⟨0, by omega, n5⟩
    | cons e c =>
      obtain ⟨h1, h2⟩ := hc
      rcases h2 with ⟨e0, k7, x, x1, x2, x3⟩ | ⟨k8, k, q, e1, hkq, hq, x, x1, x2, x3, x4⟩
      · have x2' : slO id x = (c, e.1) := x2
        obtain ⟨j, j1, _, j3⟩ := hMd x x1 (by rw [x2']; exact k7) (seen x x1 x3) (fun h => h)
        have f1 : id (x / 60) = c := congrArg Prod.fst x2'
        have f2 : x % 60 = e.1 := congrArg Prod.snd x2'
        refine ⟨j, j1, ?_⟩
        rw [j3, f1, f2]
        exact congrArg (· :: c) (Prod.ext rfl e0.symm)
      · obtain ⟨fc, r, t1, t2, t3, t4, t5⟩ := (hV x x1 x3).2.2 (c, e.1) (by rw [x4])
        rw [x4] at t1
        have hqr : q = r := by
          have t1 : nI q = nI r := t1
          rw [nI_eq (by omega) (by omega)] at t1; exact t1
        obtain ⟨f1, f2⟩ := t5 k (by omega)
        refine ⟨fc + k, f1, ?_⟩
        rw [f2]
        exact congrArg (· :: c) (Prod.ext rfl e1.symm)
  refine ⟨fun f hf => ?_, calls⟩
  obtain ⟨s, v⟩ := f
  cases v with
  | none =>
    rcases hf with ⟨h1, h2⟩ | ⟨p, k, h1, h2, h3, h4⟩ | ⟨p, w, h1, h2, h3, h4, h5⟩
    · obtain ⟨j, j1, j2⟩ := calls _ h1
      have hd := (hJ.2 j j1).1
      obtain ⟨g1, g2, g3, g4⟩ := vld_in hw j1 hd (WF_d hw hd).2.2
      refine ⟨_, g1, ?_, hR j j1⟩
      rw [g2, j2, ← h2]
    · obtain ⟨x, x1, x2, x3⟩ := h4
      have x2' : slO id x = (s.1, p) := x2
      have f1 : id (x / 60) = s.1 := congrArg Prod.fst x2'
      have f2 : x % 60 = p := congrArg Prod.snd x2'
      have hd := vld_d hJ x1
      have hkd : kdS G (slO id x) = gkd G (dfn G s.1) p := by rw [x2']; rfl
      have h2' : k < (if kdS G (slO id x) = 5 then 1 else gnk G (dfn G (id (x / 60))) (x % 60)) := by rw [hkd, f1, f2]; exact h2
      have hk : k < gnk G (dfn G (id (x / 60))) (x % 60) := by
        by_cases h5 : kdS G (slO id x) = 5
        · rw [if_pos h5] at h2'
          have h5' : gkd G (dfn G (id (x / 60))) (x % 60) = 5 := h5
          rcases ((hw.2 _ hd).2.2.2.2 _ x1.2).2.2 with t | t | t | t | t | t | t | t | t | t
          all_goals first | omega | (exfalso; have := t.1; rw [h5'] at this; simp at this)
        · rw [if_neg h5] at h2'; exact h2'
      obtain ⟨g1, g2, _⟩ := kiO_v hw x1 hd hk
      refine ⟨_, g1, ?_, hK x x1 (seen x x1 x3) (fun h => h) k h2'⟩
      rw [g2, x2']
      show (s.1, gkid G (dfn G s.1) p k) = s
      rw [← h3]
    · obtain ⟨x, x1, x2, x3⟩ := h3
      have x2' : slO id x = (s.1, p) := x2
      have e5 : kdS G (slO id x) = 5 := by rw [x2']; exact h2
      have hgoal : ∀ w', XM G N id st va (kidS G (slO id x) 0, some w') → XM G N id st va (kidS G (slO id x) (if w'.1 = 0 then 2 else 1), none) → XM G N id st va (s, none) := fun w' q1 q2 => by
        rw [x2'] at q1 q2
        have : w' = w := hFn _ _ _ q1 h4
        rw [this] at q2
        have es : kidS G (s.1, p) (if w.1 = 0 then 2 else 1) = s := by
          show (s.1, gkid G (dfn G s.1) p (if w.1 = 0 then 2 else 1)) = s
          rw [← h5]
        rw [es] at q2; exact q2
      have hst := (hS x x1).1
      rcases (show st x = 2 ∨ st x = 3 by have := seen x x1 x3; omega) with h2x | h3x
      · obtain ⟨y, l, y1, y2, y3, hn⟩ := waits x x1 h2x
        rcases hn with ⟨e, _⟩ | ⟨e, _⟩ | ⟨e, _⟩ | ⟨e, _⟩ | ⟨e, _⟩ | ⟨e, h⟩ | ⟨e, _⟩ | ⟨e, _⟩
        all_goals first | (exfalso; omega) | skip
        rcases h with ⟨_, h⟩ | ⟨_, w', q1, h⟩
        · exfalso
          rw [x2'] at h
          exact noK y y1 y3 w (by rw [h]; exact h4)
        · exact hgoal w' q1 ⟨y, y1, h, y2⟩
      · obtain ⟨w', q1, q2⟩ := hI x x1 e5 h3x
        exact hgoal w' q1 q2
  | some v =>
    obtain ⟨⟨x, x1, x2, x3⟩, hk⟩ := hf
    have x2' : slO id x = s := x2
    have hst := (hS x x1).1
    rw [← x2'] at hk
    rcases (show st x = 2 ∨ st x = 3 by have := seen x x1 x3; omega) with h2x | h3x
    · obtain ⟨y, l, y1, y2, y3, hn⟩ := waits x x1 h2x
      obtain ⟨w, hw'⟩ := Nd_blk hFn hn hk
      exact absurd hw' (noK y y1 y3 w)
    · exact ⟨x, x1, x2', h3x, Kn_fn hFn (hKn x x1 h3x) hk⟩
/-- seen -/
theorem M_see {G : Prg} {a b : Int32} {sc : Nat → Nat → List Nat} {N : Nat} {id : Nat → Cid} {st : Nat → Nat} {va : Nat → Vl} {B : List Nat} {W : Nat → List Nat} {ex mk : Nat → Prop} {lk : Nat → Nat} {u U : St} (h : SMc G a b sc N id st va B W (fun _ => False) (fun _ => False) lk u) {x : Nat} {B' : List Nat} (hx : st x = 1 ∨ st x = 2) (hB' : ∀ z, z ∈ B' ↔ z ∈ B ∧ z ≠ x) (hxW : ∀ y, x ∉ W y) (eI : ∀ i, i = 14 ∨ i = 15 ∨ i = 17 → gI U i = gI u i) (eA : ∀ i, i = 29 ∨ i = 34 ∨ i = 35 → gA U i = gA u i) : SMc G a b sc N id (uF st x 2) va B' W (fun z => z = x ∧ st x = 1) (fun _ => False) (uF lk x (lk x + 1)) U := by
  obtain ⟨⟨n1, n2, n3, n4, n5⟩, ⟨s1, s2, s3⟩, hV, hM, hK, hR, hS, hJ, hW, hBg, hI, hKn⟩ := h
  have up1 : ∀ z, 1 ≤ st z → 1 ≤ uF st x 2 z := fun z hz => by
    by_cases e : z = x
    · rw [e, uF_s]; decide
    · rw [uF_o e]; exact hz
  have up2 : ∀ z, 2 ≤ st z → 2 ≤ uF st x 2 z := fun z hz => by
    by_cases e : z = x
    · rw [e, uF_s]; decide
    · rw [uF_o e]; exact hz
  have dn1 : ∀ z, 1 ≤ uF st x 2 z → 1 ≤ st z := fun z hz => by
    by_cases e : z = x
    · rw [e]; omega
    · rw [uF_o e] at hz; exact hz
  have up3 : ∀ z, st z = 3 → uF st x 2 z = 3 := fun z hz => by rw [uF_o (fun e => by rw [e] at hz; omega)]; exact hz
  have dn3 : ∀ z, uF st x 2 z = 3 → st z = 3 := fun z hz => by
    by_cases e : z = x
    · rw [e, uF_s] at hz; omega
    · rw [uF_o e] at hz; exact hz
  have dn2 : ∀ z, 2 ≤ uF st x 2 z → ¬ (z = x ∧ st x = 1) → 2 ≤ st z := fun z hz he => by
    by_cases e : z = x
    · rw [e]; rcases hx with h | h
      · exact absurd ⟨e, h⟩ he
      · omega
    · rw [uF_o e] at hz; exact hz
  have hX := XM_up (G := G) (N := N) (id := id) (st := st) (st' := uF st x 2) (va := va) (fun z _ => up1 z) (fun z _ => up3 z)
  refine ⟨⟨by rw [eI 14 (by decide)]; exact n1, by rw [eI 15 (by decide)]; exact n2, by rw [eI 17 (by decide)]; exact n3, n4, n5⟩, ⟨s1, s2, fun z hz => ⟨fun h1 => (s3 z hz).1 (dn1 z h1), fun h3 => (s3 z hz).2 (dn3 z h3)⟩⟩, fun z hz h3 => by rw [eA 34 (by decide), eA 35 (by decide)]; exact hV z hz (dn3 z h3), fun z hz h7 h2 he => by rw [eA 29 (by decide)]; exact hM z hz h7 (dn2 z h2 he) (fun h => h), fun z hz h2 he k hk => up1 _ (hK z hz (dn2 z h2 he) (fun h => h) k hk), fun j hj => up1 _ (hR j hj), fun z hz h1 q hq => ⟨(hS z hz (dn1 z h1) q hq).1, up1 _ (hS z hz (dn1 z h1) q hq).2⟩, fun j e c j' a1 a2 a3 a4 => ?_, fun y z hz => ?_, fun z hz h2 => ?_, fun z hz h5 h3 => ?_, fun z hz h3 => Kn_mono hX (hKn z hz (dn3 z h3))⟩
  · obtain ⟨q1, q2, q3⟩ := hJ j e c j' a1 a2 a3 a4
    exact ⟨up2 _ q1, q2, fun hne => ⟨(q3 hne).1, (q3 hne).2.imp (up3 _) (fun h => h)⟩⟩
  · obtain ⟨l, q1, q2⟩ := hW y z hz
    exact ⟨l, Nd_mono hX q1, by rw [uF_o (fun e => hxW y (by rw [← e]; exact hz))]; exact q2⟩
  · obtain ⟨hzB, hzx⟩ := (hB' z).mp hz
    rw [uF_o hzx] at h2
    obtain ⟨l, o, w, q1, q2, q3⟩ := hBg z hzB h2
    exact ⟨l, o, w, Nd_mono hX q1, hX _ q2, by rw [uF_o hzx]; exact q3⟩
  · obtain ⟨w, q1, q2⟩ := hI z hz h5 (dn3 z h3)
    exact ⟨w, hX _ q1, hX _ q2⟩
