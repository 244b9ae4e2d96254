/-! 85.sem: what the class's slots mean -/
def kiO (G : Prg) (id : Nat → Cid) (x k : Nat) : Nat := 60 * (x / 60) + gkid G (dfn G (id (x / 60))) (x % 60) k
theorem kiO_v {G : Prg} (hw : WFp G) {N : Nat} {id : Nat → Cid} {x k : Nat} (hx : vld G N id x) (hd : dfn G (id (x / 60)) < gn G) (hk : k < gnk G (dfn G (id (x / 60))) (x % 60)) : vld G N id (kiO G id x k) ∧ slO id (kiO G id x k) = kidS G (slO id x) k ∧ kiO G id x k / 60 = x / 60 ∧ kiO G id x k % 60 = gkid G (dfn G (id (x / 60))) (x % 60) k := by
  obtain ⟨_, _, _, _, w5⟩ := hw.2 _ hd
  have hkid := (w5 _ hx.2).2.1 k hk
  exact vld_in hw hx.1 hd hkid
/-- the l-th thing that a slot needs -/
def Nd (G : Prg) (X : Fa → Prop) (s o : Sl) (l : Nat) : Prop :=
  (kdS G s = 2 ∧ l = 1 ∧ srcS G s (ix (nuS G s)) = some o) ∨ (kdS G s = 3 ∧ l = 1 ∧ o = (s.1, gkid G (dfn G s.1) (ix (nuS G s) % 60) 0)) ∨ ((kdS G s = 4 ∨ kdS G s = 8) ∧ l = 1 ∧ o = kidS G s 0) ∨ (kdS G s = 6 ∧ l = 1 ∧ o = kidS G s 1) ∨ (kdS G s = 7 ∧ l = 1 ∧ o = rtS G ((s.2, 0) :: s.1)) ∨
  (kdS G s = 5 ∧ ((l = 1 ∧ o = kidS G s 0) ∨ (l = 2 ∧ ∃ w, X (kidS G s 0, some w) ∧ o = kidS G s (if w.1 = 0 then 2 else 1)))) ∨
  (kdS G s = 9 ∧ ((l = 1 ∧ o = kidS G s 0) ∨ (l = 2 ∧ (∃ w, X (kidS G s 0, some w)) ∧ o = kidS G s 1) ∨ (l = 3 ∧ ∃ w z o', X (kidS G s 0, some w) ∧ X (kidS G s 1, some z) ∧ w.2 = some o' ∧ ¬ z.1 < 0 ∧ ¬ w.1 ≤ z.1 ∧ o = rtS G ((o'.2, ix z.1 + 1) :: o'.1)))) ∨
  (10 ≤ kdS G s ∧ ((l = 1 ∧ o = kidS G s 0) ∨ (l = 2 ∧ (∃ w, X (kidS G s 0, some w)) ∧ o = kidS G s 1)))
def Fn (X : Fa → Prop) : Prop := ∀ o v w, X (o, some v) → X (o, some w) → v = w
theorem Nd_mono {G : Prg} {X Y : Fa → Prop} (h : ∀ f, X f → Y f) {s o : Sl} {l : Nat} (hn : Nd G X s o l) : Nd G Y s o l := by
  rcases hn with a | a | a | a | a | ⟨a, b⟩ | ⟨a, b⟩ | ⟨a, b⟩
  · exact Or.inl a
  · exact Or.inr (Or.inl a)
  · exact Or.inr (Or.inr (Or.inl a))
  · exact Or.inr (Or.inr (Or.inr (Or.inl a)))
  · exact Or.inr (Or.inr (Or.inr (Or.inr (Or.inl a))))
  · refine Or.inr (Or.inr (Or.inr (Or.inr (Or.inr (Or.inl ⟨a, b.imp (fun x => x) (fun ⟨c, w, d, e⟩ => ⟨c, w, h _ d, e⟩)⟩)))))
  · refine Or.inr (Or.inr (Or.inr (Or.inr (Or.inr (Or.inr (Or.inl ⟨a, b.imp (fun x => x) (fun y => y.imp (fun ⟨c, ⟨w, d⟩, e⟩ => ⟨c, ⟨w, h _ d⟩, e⟩) (fun ⟨c, w, z, o', d, e, f⟩ => ⟨c, w, z, o', h _ d, h _ e, f⟩))⟩))))))
  · refine Or.inr (Or.inr (Or.inr (Or.inr (Or.inr (Or.inr (Or.inr ⟨a, b.imp (fun x => x) (fun ⟨c, ⟨w, d⟩, e⟩ => ⟨c, ⟨w, h _ d⟩, e⟩)⟩))))))
theorem Nd_13 {G : Prg} {X : Fa → Prop} {s o : Sl} {l : Nat} (hn : Nd G X s o l) : 1 ≤ l ∧ l ≤ 3 := by
  rcases hn with a | a | a | a | a | ⟨a, b⟩ | ⟨a, b⟩ | ⟨a, b⟩
  · omega
  · omega
  · omega
  · omega
  · omega
  · rcases b with b | b <;> omega
  · rcases b with b | b | b <;> omega
  · rcases b with b | b <;> omega
/-- what needs a thing that isn't known isn't known -/
theorem Nd_blk {G : Prg} {a b : Int32} {X : Fa → Prop} (hF : Fn X) {s o : Sl} {l : Nat} {v : Vl} (hn : Nd G X s o l) (hk : Kn G a b X s v) : ∃ w, X (o, some w) := by
  rcases hn with ⟨e, _, h⟩ | ⟨e, _, h⟩ | ⟨e, _, h⟩ | ⟨e, _, h⟩ | ⟨e, _, h⟩ | ⟨e, h⟩ | ⟨e, h⟩ | ⟨e, h⟩
  · rw [Kn_2 e] at hk
    rcases hk with ⟨h1, _⟩ | ⟨o', h1, h2⟩
    · rw [h] at h1; cases h1
    · rw [h] at h1; cases h1; exact ⟨v, h2⟩
  · rw [Kn_3 e] at hk; rw [h]; exact ⟨v, hk⟩
  · rcases e with e | e
    · rw [Kn_4 e] at hk; obtain ⟨w, h1, _⟩ := hk; rw [h]; exact ⟨w, h1⟩
    · rw [Kn_8 e] at hk; obtain ⟨w, h1, _⟩ := hk; rw [h]; exact ⟨w, h1⟩
  · rw [Kn_6 e] at hk; rw [h]; exact ⟨v, hk⟩
  · rw [Kn_7 e] at hk; rw [h]; exact ⟨v, hk⟩
  · rw [Kn_5 e] at hk
    obtain ⟨w, h1, h2⟩ := hk
    rcases h with ⟨_, h⟩ | ⟨_, w', h3, h⟩
    · rw [h]; exact ⟨w, h1⟩
    · rw [hF _ _ _ h3 h1] at h; rw [h]; exact ⟨v, h2⟩
  · rw [Kn_9 e] at hk
    obtain ⟨w, z, h1, h2, h3⟩ := hk
    rcases h with ⟨_, h⟩ | ⟨_, _, h⟩ | ⟨_, w', z', o', p1, p2, p3, p4, p5, h⟩
    · rw [h]; exact ⟨w, h1⟩
    · rw [h]; exact ⟨z, h2⟩
    · have e1 := hF _ _ _ p1 h1
      have e2 := hF _ _ _ p2 h2
      subst e1 e2
      rcases h3 with ⟨q, _⟩ | ⟨o2, q1, q2, q3, q4⟩
      · rcases q with q | q | q
        · rw [p3] at q; cases q
        · exact absurd q p4
        · exact absurd q p5
      · rw [p3] at q1; cases q1; rw [h]; exact ⟨v, q4⟩
  · rw [Kn_10 e] at hk
    obtain ⟨w, z, h1, h2, _⟩ := hk
    rcases h with ⟨_, h⟩ | ⟨_, _, h⟩
    · rw [h]; exact ⟨w, h1⟩
    · rw [h]; exact ⟨z, h2⟩
theorem Nd_lt {G : Prg} {X : Fa → Prop} (hF : Fn X) {s o o' : Sl} {l l' : Nat} {w : Vl} (hn : Nd G X s o l) (hk : X (o, some w)) (hn' : Nd G X s o' l') (hu : ∀ w', ¬ X (o', some w')) : l < l' := by
  rcases hn with ⟨e, _, h⟩ | ⟨e, _, h⟩ | ⟨e, _, h⟩ | ⟨e, _, h⟩ | ⟨e, _, h⟩ | ⟨e, h⟩ | ⟨e, h⟩ | ⟨e, h⟩ <;> rcases hn' with ⟨e', _, h'⟩ | ⟨e', _, h'⟩ | ⟨e', _, h'⟩ | ⟨e', _, h'⟩ | ⟨e', _, h'⟩ | ⟨e', h'⟩ | ⟨e', h'⟩ | ⟨e', h'⟩ <;> first
    | omega
    | skip
  · rw [h] at h'; cases h'; exact absurd hk (hu w)
  · rw [h'] at hu; rw [h] at hk; exact absurd hk (hu w)
  · rw [h'] at hu; rw [h] at hk; exact absurd hk (hu w)
  · rw [h'] at hu; rw [h] at hk; exact absurd hk (hu w)
  · rw [h'] at hu; rw [h] at hk; exact absurd hk (hu w)
  · rcases h with ⟨l1, h⟩ | ⟨l1, w1, p1, h⟩ <;> rcases h' with ⟨l2, h'⟩ | ⟨l2, w2, p2, h'⟩
    · rw [h'] at hu; rw [h] at hk; exact absurd hk (hu w)
    · omega
    · rw [h'] at hu; exact absurd p1 (hu w1)
    · rw [hF _ _ _ p1 p2] at h; rw [h'] at hu; rw [h] at hk; exact absurd hk (hu w)
  · rcases h with ⟨l1, h⟩ | ⟨l1, ⟨w1, p1⟩, h⟩ | ⟨l1, w1, z1, o1, p1, q1, r1, r2, r3, h⟩ <;> rcases h' with ⟨l2, h'⟩ | ⟨l2, ⟨w2, p2⟩, h'⟩ | ⟨l2, w2, z2, o2, p2, q2, s1, s2, s3, h'⟩
    · rw [h'] at hu; rw [h] at hk; exact absurd hk (hu w)
    · omega
    · omega
    · rw [h'] at hu; exact absurd p1 (hu w1)
    · rw [h'] at hu; rw [h] at hk; exact absurd hk (hu w)
    · omega
    · rw [h'] at hu; exact absurd p1 (hu w1)
    · rw [h'] at hu; exact absurd q1 (hu z1)
    · have e1 := hF _ _ _ p1 p2
      have e2 := hF _ _ _ q1 q2
      subst e1 e2
      rw [r1] at s1; cases s1
      rw [h'] at hu; rw [h] at hk; exact absurd hk (hu w)
  · rcases h with ⟨l1, h⟩ | ⟨l1, ⟨w1, p1⟩, h⟩ <;> rcases h' with ⟨l2, h'⟩ | ⟨l2, ⟨w2, p2⟩, h'⟩
    · rw [h'] at hu; rw [h] at hk; exact absurd hk (hu w)
    · omega
    · rw [h'] at hu; exact absurd p1 (hu w1)
    · rw [h'] at hu; rw [h] at hk; exact absurd hk (hu w)
def VaC (G : Prg) (N : Nat) (id : Nat → Cid) (st : Nat → Nat) (va : Nat → Vl) (u : St) : Prop := ∀ x, vld G N id x → st x = 3 → gA u 34 x = (va x).1 ∧ ((va x).2 = none → gA u 35 x = -1) ∧ ∀ o, (va x).2 = some o → ∃ fc q, (va x).1 = nI q ∧ q ≤ 40 ∧ gA u 35 x = nI fc ∧ fc ≤ 300 ∧ ∀ k, k < q → fc + k < N ∧ id (fc + k) = (o.2, k + 1) :: o.1
/-- the slots' meaning; ex: seen, and not yet reached inside -/
def SMc (G : Prg) (a b : Int32) (sc : Nat → Nat → List Nat) (N : Nat) (id : Nat → Cid) (st : Nat → Nat) (va : Nat → Vl) (B : List Nat) (W : Nat → List Nat) (ex cu : Nat → Prop) (lk : Nat → Nat) (u : St) : Prop :=
  (gI u 14 = a ∧ gI u 15 = b ∧ gI u 17 = 0 ∧ 1 ≤ N ∧ id 0 = []) ∧ SdM G a b N id st va ∧ VaC G N id st va u ∧
  (∀ x, vld G N id x → kdS G (slO id x) = 7 → 2 ≤ st x → ¬ ex x → ∃ j, j < N ∧ gA u 29 x = nI j ∧ id j = (x % 60, 0) :: id (x / 60)) ∧
  (∀ x, vld G N id x → 2 ≤ st x → ¬ ex x → ∀ k, k < (if kdS G (slO id x) = 5 then 1 else gnk G (dfn G (id (x / 60))) (x % 60)) → 1 ≤ st (kiO G id x k)) ∧
  (∀ j, j < N → 1 ≤ st (60 * j + grt G (dfn G (id j)))) ∧
  (∀ x, vld G N id x → 1 ≤ st x → ∀ q, q ∈ sc (dfn G (id (x / 60))) (x % 60) → (q < gnp G (dfn G (id (x / 60))) ∧ 0 < gnk G (dfn G (id (x / 60))) q) ∧ 1 ≤ st (60 * (x / 60) + gkid G (dfn G (id (x / 60))) q 0)) ∧
  (∀ j e c j', j < N → id j = e :: c → j' < N → id j' = c → 2 ≤ st (60 * j' + e.1) ∧ (e.2 = 0 → kdS G (c, e.1) = 7) ∧ (e.2 ≠ 0 → kdS G (c, e.1) = 8 ∧ (st (60 * j' + e.1) = 3 ∨ cu (60 * j' + e.1)))) ∧
  (∀ y x, x ∈ W y → ∃ l, Nd G (XM G N id st va) (slO id x) (slO id y) l ∧ lk x ≤ l) ∧
  (∀ x, x ∈ B → st x = 2 → ∃ l o w, Nd G (XM G N id st va) (slO id x) o l ∧ XM G N id st va (o, some w) ∧ lk x ≤ l) ∧
  (∀ x, vld G N id x → kdS G (slO id x) = 5 → st x = 3 → ∃ w, XM G N id st va (kidS G (slO id x) 0, some w) ∧ XM G N id st va (kidS G (slO id x) (if w.1 = 0 then 2 else 1), none)) ∧
  ∀ x, vld G N id x → st x = 3 → Kn G a b (XM G N id st va) (slO id x) (va x)
/-- one value at most -/
theorem Kn_fn {G : Prg} {a b : Int32} {X : Fa → Prop} (hF : Fn X) {s : Sl} {v v' : Vl} (h : Kn G a b X s v) (h' : Kn G a b X s v') : v = v' := by
  rcases (show kdS G s = 0 ∨ kdS G s = 1 ∨ kdS G s = 2 ∨ kdS G s = 3 ∨ kdS G s = 4 ∨ kdS G s = 5 ∨ kdS G s = 6 ∨ kdS G s = 7 ∨ kdS G s = 8 ∨ kdS G s = 9 ∨ 10 ≤ kdS G s by omega) with e | e | e | e | e | e | e | e | e | e | e
  · rw [Kn_0 e] at h h'
    obtain ⟨w, z, h1, h2, h3⟩ := h
    obtain ⟨w', z', g1, g2, g3⟩ := h'
    rw [h3, g3, hF _ _ _ h1 g1, hF _ _ _ h2 g2]
  · rw [Kn_1 e] at h h'; rw [h, h']
  · rw [Kn_2 e] at h h'
    rcases h with ⟨h1, h2⟩ | ⟨o, h1, h2⟩ <;> rcases h' with ⟨g1, g2⟩ | ⟨o', g1, g2⟩
    · rw [h2, g2]
    · rw [h1] at g1; cases g1
    · rw [h1] at g1; cases g1
    · rw [h1] at g1; cases g1; exact hF _ _ _ h2 g2
  · rw [Kn_3 e] at h h'; exact hF _ _ _ h h'
  · rw [Kn_4 e] at h h'
    obtain ⟨w, h1, h2⟩ := h
    obtain ⟨w', g1, g2⟩ := h'
    rw [h2, g2, hF _ _ _ h1 g1]
  · rw [Kn_5 e] at h h'
    obtain ⟨w, h1, h2⟩ := h
    obtain ⟨w', g1, g2⟩ := h'
    rw [hF _ _ _ g1 h1] at g2
    exact hF _ _ _ h2 g2
  · rw [Kn_6 e] at h h'; exact hF _ _ _ h h'
  · rw [Kn_7 e] at h h'; exact hF _ _ _ h h'
  · rw [Kn_8 e] at h h'
    obtain ⟨w, h1, h2⟩ := h
    obtain ⟨w', g1, g2⟩ := h'
    rw [h2, g2, hF _ _ _ h1 g1]
  · rw [Kn_9 e] at h h'
    obtain ⟨w, z, h1, h2, h3⟩ := h
    obtain ⟨w', z', g1, g2, g3⟩ := h'
    have e1 := hF _ _ _ h1 g1
    have e2 := hF _ _ _ h2 g2
    subst e1 e2
    rcases h3 with ⟨p, q⟩ | ⟨o, p1, p2, p3, p4⟩ <;> rcases g3 with ⟨p', q'⟩ | ⟨o', r1, r2, r3, r4⟩
    · rw [q, q']
    · rcases p with p | p | p
      · rw [p] at r1; cases r1
      · exact absurd p r2
      · exact absurd p r3
    · rcases p' with p | p | p
      · rw [p] at p1; cases p1
      · exact absurd p p2
      · exact absurd p p3
    · rw [p1] at r1; cases r1; exact hF _ _ _ p4 r4
  · rw [Kn_10 e] at h h'
    obtain ⟨w, z, h1, h2, h3⟩ := h
    obtain ⟨w', z', g1, g2, g3⟩ := h'
    rw [h3, g3, hF _ _ _ h1 g1, hF _ _ _ h2 g2]
theorem XM_fn {G : Prg} {a b : Int32} {N : Nat} {id : Nat → Cid} {st : Nat → Nat} {va : Nat → Vl} (h : SdM G a b N id st va) : Fn (XM G N id st va) := fun o v w ⟨x, h1, h2, h3, h4⟩ ⟨y, g1, g2, g3, g4⟩ => by
  have := slO_inj h.1 h1.1 g1.1 (h2.trans g2.symm)
  subst this
  rw [← h4, ← g4]
theorem XM_up {G : Prg} {N : Nat} {id : Nat → Cid} {st st' : Nat → Nat} {va : Nat → Vl} (h1 : ∀ x, vld G N id x → 1 ≤ st x → 1 ≤ st' x) (h3 : ∀ x, vld G N id x → st x = 3 → st' x = 3) : ∀ f, XM G N id st va f → XM G N id st' va f := fun f ⟨x, a, b, c⟩ => by
  refine ⟨x, a, b, ?_⟩
  cases hf : f.2 with
  | none => rw [hf] at c; exact h1 x a c
  | some v => rw [hf] at c; exact ⟨h3 x a c.1, c.2⟩
