/-! 81.spec: what a run works out, whatever is known first -/
abbrev Cid : Type := List (Nat × Nat)
abbrev Sl : Type := Cid × Nat
abbrev Vl : Type := Int32 × Option Sl
abbrev Fa : Type := Sl × Option Vl
def dfn (G : Prg) : Cid → Nat
  | [] => 0
  | e :: c => ix (gnu G (dfn G c) e.1)
def kdS (G : Prg) (s : Sl) : Nat := gkd G (dfn G s.1) s.2
def nuS (G : Prg) (s : Sl) : Int32 := gnu G (dfn G s.1) s.2
def kidS (G : Prg) (s : Sl) (k : Nat) : Sl := (s.1, gkid G (dfn G s.1) s.2 k)
def rtS (G : Prg) (c : Cid) : Sl := (c, grt G (dfn G c))
def clC (x : Int32) : Int32 := if 0 < (if 40 < x then 40 else x) then (if 40 < x then 40 else x) else 0
def opr (sg : Nat) (x y : Int32) : Int32 := if sg = 37 then (if y = 0 then 0 else x - x / y * y) else if sg = 42 then x * y else if sg = 43 then x + y else if sg = 45 then x - y else if sg = 47 then (if y = 0 then 0 else x / y) else if sg = 60 then (if y ≤ x then 0 else 1) else if sg = 62 then (if x ≤ y then 0 else 1) else (if x = y then 1 else 0)
/-- a call is there -/
def exC (G : Prg) (X : Fa → Prop) : Cid → Prop
  | [] => True
  | e :: c => e.1 < gnp G (dfn G c) ∧ ((e.2 = 0 ∧ gkd G (dfn G c) e.1 = 7 ∧ X ((c, e.1), none)) ∨ (gkd G (dfn G c) e.1 = 8 ∧ ∃ k q, e.2 = k + 1 ∧ k < q ∧ q ≤ 40 ∧ X ((c, e.1), some (nI q, some (c, e.1)))))
/-- where an argument comes from -/
def srcS (G : Prg) (s : Sl) (k : Nat) : Option Sl :=
  match s.1 with
  | [] => none
  | e :: c => if e.2 = 0 then some (kidS G (c, e.1) k) else if k = 0 then none else if k = 1 then some (c, e.1) else some (kidS G (c, e.1) (k - 1))
def argS (a b : Int32) (s : Sl) (k : Nat) : Int32 :=
  match s.1 with
  | [] => if k = 0 then a else if k = 1 then b else 0
  | e :: _ => nI (e.2 - 1)
def Kn (G : Prg) (a b : Int32) (X : Fa → Prop) (s : Sl) (v : Vl) : Prop :=
  if kdS G s = 1 then v = (nuS G s, none)
  else if kdS G s = 2 then (srcS G s (ix (nuS G s)) = none ∧ v = (argS a b s (ix (nuS G s)), none)) ∨ ∃ o, srcS G s (ix (nuS G s)) = some o ∧ X (o, some v)
  else if kdS G s = 3 then X ((s.1, gkid G (dfn G s.1) (ix (nuS G s) % 60) 0), some v)
  else if kdS G s = 4 then ∃ w, X (kidS G s 0, some w) ∧ v = (-w.1, none)
  else if kdS G s = 5 then ∃ w, X (kidS G s 0, some w) ∧ X (kidS G s (if w.1 = 0 then 2 else 1), some v)
  else if kdS G s = 6 then X (kidS G s 1, some v)
  else if kdS G s = 7 then X (rtS G ((s.2, 0) :: s.1), some v)
  else if kdS G s = 8 then ∃ w, X (kidS G s 0, some w) ∧ v = (clC w.1, some s)
  else if kdS G s = 9 then ∃ w z, X (kidS G s 0, some w) ∧ X (kidS G s 1, some z) ∧ (((w.2 = none ∨ z.1 < 0 ∨ w.1 ≤ z.1) ∧ v = (0, none)) ∨ ∃ o, w.2 = some o ∧ ¬ z.1 < 0 ∧ ¬ w.1 ≤ z.1 ∧ X (rtS G ((o.2, ix z.1 + 1) :: o.1), some v))
  else ∃ w z, X (kidS G s 0, some w) ∧ X (kidS G s 1, some z) ∧ v = (opr (kdS G s) w.1 z.1, none)
def Rc (G : Prg) (X : Fa → Prop) (s : Sl) : Prop :=
  (exC G X s.1 ∧ s.2 = grt G (dfn G s.1)) ∨
  (∃ p k, p < gnp G (dfn G s.1) ∧ k < (if gkd G (dfn G s.1) p = 5 then 1 else gnk G (dfn G s.1) p) ∧ s.2 = gkid G (dfn G s.1) p k ∧ X ((s.1, p), none)) ∨
  ∃ p w, p < gnp G (dfn G s.1) ∧ gkd G (dfn G s.1) p = 5 ∧ X ((s.1, p), none) ∧ X ((s.1, gkid G (dfn G s.1) p 0), some w) ∧ s.2 = gkid G (dfn G s.1) p (if w.1 = 0 then 2 else 1)
def SpR (G : Prg) (a b : Int32) (X : Fa → Prop) (f : Fa) : Prop := match f.2 with
  | none => Rc G X f.1
  | some v => X (f.1, none) ∧ Kn G a b X f.1 v
def Lfp (G : Prg) (a b : Int32) (f : Fa) : Prop := ∀ X : Fa → Prop, (∀ g, SpR G a b X g → X g) → X f
theorem exC_mono {G : Prg} {X Y : Fa → Prop} (h : ∀ f, X f → Y f) : ∀ {c : Cid}, exC G X c → exC G Y c
  | [], _ => trivial
  | _ :: _, hc => ⟨hc.1, hc.2.imp (fun ⟨a, b, c⟩ => ⟨a, b, h _ c⟩) (fun ⟨a, k, q, b, c, d, e⟩ => ⟨a, k, q, b, c, d, h _ e⟩)⟩
theorem Kn_1 {G : Prg} {a b : Int32} {X : Fa → Prop} {s : Sl} {v : Vl} (h : kdS G s = 1) : Kn G a b X s v = (v = (nuS G s, none)) := by unfold Kn; rw [if_pos h]
theorem Kn_2 {G : Prg} {a b : Int32} {X : Fa → Prop} {s : Sl} {v : Vl} (h : kdS G s = 2) : Kn G a b X s v = (((srcS G s (ix (nuS G s)) = none ∧ v = (argS a b s (ix (nuS G s)), none)) ∨ ∃ o, srcS G s (ix (nuS G s)) = some o ∧ X (o, some v))) := by unfold Kn; rw [if_neg (by omega), if_pos h]
theorem Kn_3 {G : Prg} {a b : Int32} {X : Fa → Prop} {s : Sl} {v : Vl} (h : kdS G s = 3) : Kn G a b X s v = (X ((s.1, gkid G (dfn G s.1) (ix (nuS G s) % 60) 0), some v)) := by unfold Kn; rw [if_neg (by omega), if_neg (by omega), if_pos h]
theorem Kn_4 {G : Prg} {a b : Int32} {X : Fa → Prop} {s : Sl} {v : Vl} (h : kdS G s = 4) : Kn G a b X s v = ((∃ w, X (kidS G s 0, some w) ∧ v = (-w.1, none))) := by unfold Kn; rw [if_neg (by omega), if_neg (by omega), if_neg (by omega), if_pos h]
theorem Kn_5 {G : Prg} {a b : Int32} {X : Fa → Prop} {s : Sl} {v : Vl} (h : kdS G s = 5) : Kn G a b X s v = ((∃ w, X (kidS G s 0, some w) ∧ X (kidS G s (if w.1 = 0 then 2 else 1), some v))) := by unfold Kn; rw [if_neg (by omega), if_neg (by omega), if_neg (by omega), if_neg (by omega), if_pos h]
theorem Kn_6 {G : Prg} {a b : Int32} {X : Fa → Prop} {s : Sl} {v : Vl} (h : kdS G s = 6) : Kn G a b X s v = (X (kidS G s 1, some v)) := by unfold Kn; rw [if_neg (by omega), if_neg (by omega), if_neg (by omega), if_neg (by omega), if_neg (by omega), if_pos h]
theorem Kn_7 {G : Prg} {a b : Int32} {X : Fa → Prop} {s : Sl} {v : Vl} (h : kdS G s = 7) : Kn G a b X s v = (X (rtS G ((s.2, 0) :: s.1), some v)) := by unfold Kn; rw [if_neg (by omega), if_neg (by omega), if_neg (by omega), if_neg (by omega), if_neg (by omega), if_neg (by omega), if_pos h]
theorem Kn_8 {G : Prg} {a b : Int32} {X : Fa → Prop} {s : Sl} {v : Vl} (h : kdS G s = 8) : Kn G a b X s v = ((∃ w, X (kidS G s 0, some w) ∧ v = (clC w.1, some s))) := by unfold Kn; rw [if_neg (by omega), if_neg (by omega), if_neg (by omega), if_neg (by omega), if_neg (by omega), if_neg (by omega), if_neg (by omega), if_pos h]
theorem Kn_9 {G : Prg} {a b : Int32} {X : Fa → Prop} {s : Sl} {v : Vl} (h : kdS G s = 9) : Kn G a b X s v = ((∃ w z, X (kidS G s 0, some w) ∧ X (kidS G s 1, some z) ∧ (((w.2 = none ∨ z.1 < 0 ∨ w.1 ≤ z.1) ∧ v = (0, none)) ∨ ∃ o, w.2 = some o ∧ ¬ z.1 < 0 ∧ ¬ w.1 ≤ z.1 ∧ X (rtS G ((o.2, ix z.1 + 1) :: o.1), some v)))) := by unfold Kn; rw [if_neg (by omega), if_neg (by omega), if_neg (by omega), if_neg (by omega), if_neg (by omega), if_neg (by omega), if_neg (by omega), if_neg (by omega), if_pos h]
theorem Kn_10 {G : Prg} {a b : Int32} {X : Fa → Prop} {s : Sl} {v : Vl} (h : 10 ≤ kdS G s) : Kn G a b X s v = ((∃ w z, X (kidS G s 0, some w) ∧ X (kidS G s 1, some z) ∧ v = (opr (kdS G s) w.1 z.1, none))) := by unfold Kn; rw [if_neg (by omega), if_neg (by omega), if_neg (by omega), if_neg (by omega), if_neg (by omega), if_neg (by omega), if_neg (by omega), if_neg (by omega), if_neg (by omega)]
theorem Kn_0 {G : Prg} {a b : Int32} {X : Fa → Prop} {s : Sl} {v : Vl} (h : kdS G s = 0) : Kn G a b X s v = ((∃ w z, X (kidS G s 0, some w) ∧ X (kidS G s 1, some z) ∧ v = (opr (kdS G s) w.1 z.1, none))) := by unfold Kn; rw [if_neg (by omega), if_neg (by omega), if_neg (by omega), if_neg (by omega), if_neg (by omega), if_neg (by omega), if_neg (by omega), if_neg (by omega), if_neg (by omega)]
theorem Kn_mono {G : Prg} {a b : Int32} {X Y : Fa → Prop} (h : ∀ f, X f → Y f) {s : Sl} {v : Vl} (hk : Kn G a b X s v) : Kn G a b Y s v := by
  rcases (show kdS G s = 0 ∨ kdS G s = 1 ∨ kdS G s = 2 ∨ kdS G s = 3 ∨ kdS G s = 4 ∨ kdS G s = 5 ∨ kdS G s = 6 ∨ kdS G s = 7 ∨ kdS G s = 8 ∨ kdS G s = 9 ∨ 10 ≤ kdS G s by omega) with e | e | e | e | e | e | e | e | e | e | e
  · rw [Kn_0 e] at hk ⊢; obtain ⟨w, z, h1, h2, h3⟩ := hk; exact ⟨w, z, h _ h1, h _ h2, h3⟩
  · rw [Kn_1 e] at hk ⊢; exact hk
  · rw [Kn_2 e] at hk ⊢; exact hk.imp id (fun ⟨o, h1, h2⟩ => ⟨o, h1, h _ h2⟩)
  · rw [Kn_3 e] at hk ⊢; exact h _ hk
  · rw [Kn_4 e] at hk ⊢; obtain ⟨w, h1, h2⟩ := hk; exact ⟨w, h _ h1, h2⟩
  · rw [Kn_5 e] at hk ⊢; obtain ⟨w, h1, h2⟩ := hk; exact ⟨w, h _ h1, h _ h2⟩
  · rw [Kn_6 e] at hk ⊢; exact h _ hk
  · rw [Kn_7 e] at hk ⊢; exact h _ hk
  · rw [Kn_8 e] at hk ⊢; obtain ⟨w, h1, h2⟩ := hk; exact ⟨w, h _ h1, h2⟩
  · rw [Kn_9 e] at hk ⊢
    obtain ⟨w, z, h1, h2, h3⟩ := hk
    exact ⟨w, z, h _ h1, h _ h2, h3.imp id (fun ⟨o, a1, a2, a3, a4⟩ => ⟨o, a1, a2, a3, h _ a4⟩)⟩
  · rw [Kn_10 e] at hk ⊢; obtain ⟨w, z, h1, h2, h3⟩ := hk; exact ⟨w, z, h _ h1, h _ h2, h3⟩
theorem SpR_mono {G : Prg} {a b : Int32} {X Y : Fa → Prop} (h : ∀ f, X f → Y f) {f : Fa} (hf : SpR G a b X f) : SpR G a b Y f := by
  obtain ⟨s, v⟩ := f
  cases v with
  | none =>
    rcases hf with ⟨h1, h2⟩ | ⟨p, k, h1, h2, h3, h4⟩ | ⟨p, w, h1, h2, h3, h4, h5⟩
    · exact Or.inl ⟨exC_mono h h1, h2⟩
    · exact Or.inr (Or.inl ⟨p, k, h1, h2, h3, h _ h4⟩)
    · exact Or.inr (Or.inr ⟨p, w, h1, h2, h _ h3, h _ h4, h5⟩)
  | some v => exact ⟨h _ hf.1, Kn_mono h hf.2⟩
theorem Lfp_step {G : Prg} {a b : Int32} {f : Fa} (h : SpR G a b (Lfp G a b) f) : Lfp G a b f := fun X hX => hX f (SpR_mono (fun _ hg => hg X hX) h)
/-- a machine: how many calls, which each is, what has become of each slot (0 absent, 3 known, else reached), its value -/
def vld (G : Prg) (N : Nat) (id : Nat → Cid) (x : Nat) : Prop := x / 60 < N ∧ x % 60 < gnp G (dfn G (id (x / 60)))
def slO (id : Nat → Cid) (x : Nat) : Sl := (id (x / 60), x % 60)
def XM (G : Prg) (N : Nat) (id : Nat → Cid) (st : Nat → Nat) (va : Nat → Vl) (f : Fa) : Prop := ∃ x, vld G N id x ∧ slO id x = f.1 ∧ match f.2 with
  | none => 1 ≤ st x
  | some v => st x = 3 ∧ va x = v
/-- each call has its own name; the program's definitions; all is derived -/
def SdM (G : Prg) (a b : Int32) (N : Nat) (id : Nat → Cid) (st : Nat → Nat) (va : Nat → Vl) : Prop :=
  (∀ i j, i < N → j < N → id i = id j → i = j) ∧ (∀ j, j < N → dfn G (id j) < gn G ∧ exC G (Lfp G a b) (id j)) ∧ ∀ x, vld G N id x → (1 ≤ st x → Lfp G a b (slO id x, none)) ∧ (st x = 3 → Lfp G a b (slO id x, some (va x)))
/-- nothing is left -/
def ClM (G : Prg) (a b : Int32) (N : Nat) (id : Nat → Cid) (st : Nat → Nat) (va : Nat → Vl) : Prop :=
  (∀ f, SpR G a b (XM G N id st va) f → XM G N id st va f) ∧ ∀ c, exC G (XM G N id st va) c → ∃ j, j < N ∧ id j = c
theorem SdM_X {G : Prg} {a b : Int32} {N : Nat} {id : Nat → Cid} {st : Nat → Nat} {va : Nat → Vl} (h : SdM G a b N id st va) {f : Fa} (hf : XM G N id st va f) : Lfp G a b f := by
  obtain ⟨s, v⟩ := f
  obtain ⟨x, h1, h2, h3⟩ := hf
  have := h.2.2 x h1
  rw [h2] at this
  cases v with
  | none => exact this.1 h3
  | some v => obtain ⟨h4, h5⟩ := h3; rw [← h5]; exact this.2 h4
theorem ClM_L {G : Prg} {a b : Int32} {N : Nat} {id : Nat → Cid} {st : Nat → Nat} {va : Nat → Vl} (h : ClM G a b N id st va) {f : Fa} (hf : Lfp G a b f) : XM G N id st va f := hf _ h.1
theorem ClM_c {G : Prg} {a b : Int32} {N : Nat} {id : Nat → Cid} {st : Nat → Nat} {va : Nat → Vl} (h : ClM G a b N id st va) {c : Cid} (hc : exC G (Lfp G a b) c) : ∃ j, j < N ∧ id j = c := h.2 c (exC_mono (fun _ => ClM_L h) hc)
theorem ids_nd {N : Nat} {id : Nat → Cid} (h : ∀ i j, i < N → j < N → id i = id j → i = j) : ((List.range N).map id).Nodup := by
  rw [List.nodup_iff_pairwise_ne, List.pairwise_map]
  refine List.Pairwise.imp_of_mem (fun {i j} hi hj hne he => ?_) (List.nodup_iff_pairwise_ne.mp List.nodup_range)
  exact hne (h i j (List.mem_range.mp hi) (List.mem_range.mp hj) he)
/-- as many calls as a machine that has ended, at most -/
theorem cmp_N {G : Prg} {a b : Int32} {N N' : Nat} {id id' : Nat → Cid} {st st' : Nat → Nat} {va va' : Nat → Vl} (h : SdM G a b N id st va) (h' : ClM G a b N' id' st' va') : N ≤ N' := by
  have := nd_sub ((List.range N).map id) ((List.range N').map id') (ids_nd h.1) (fun c hc => by
    obtain ⟨j, hj, rfl⟩ := List.mem_map.mp hc
    obtain ⟨j', h1, h2⟩ := ClM_c h' (h.2.1 j (List.mem_range.mp hj)).2
    exact List.mem_map.mpr ⟨j', List.mem_range.mpr h1, h2⟩)
  simpa using this
/-- one call more than there are -/
theorem cmp_over {G : Prg} {a b : Int32} {N N' : Nat} {id id' : Nat → Cid} {st st' : Nat → Nat} {va va' : Nat → Vl} {c : Cid} (h : SdM G a b N id st va) (hc : exC G (Lfp G a b) c) (hn : ∀ j, j < N → id j ≠ c) (h' : ClM G a b N' id' st' va') : N < N' := by
  have := nd_sub (c :: (List.range N).map id) ((List.range N').map id') (List.nodup_cons.mpr ⟨fun hm => by
    obtain ⟨j, hj, he⟩ := List.mem_map.mp hm
    exact hn j (List.mem_range.mp hj) he, ids_nd h.1⟩) (fun d hd => by
    rcases List.mem_cons.mp hd with rfl | hd
    · obtain ⟨j', h1, h2⟩ := ClM_c h' hc
      exact List.mem_map.mpr ⟨j', List.mem_range.mpr h1, h2⟩
    · obtain ⟨j, hj, rfl⟩ := List.mem_map.mp hd
      obtain ⟨j', h1, h2⟩ := ClM_c h' (h.2.1 j (List.mem_range.mp hj)).2
      exact List.mem_map.mpr ⟨j', List.mem_range.mpr h1, h2⟩)
  simp at this
  omega
/-- the same slots known, the same values -/
theorem cmp_K {G : Prg} {a b : Int32} {N N' : Nat} {id id' : Nat → Cid} {st st' : Nat → Nat} {va va' : Nat → Vl} (h : SdM G a b N id st va) (h' : ClM G a b N' id' st' va') {x : Nat} (hx : vld G N id x) (h3 : st x = 3) : ∃ y, vld G N' id' y ∧ slO id' y = slO id x ∧ st' y = 3 ∧ va' y = va x := ClM_L h' ((h.2.2 x hx).2 h3)
theorem slO_inj {N : Nat} {id : Nat → Cid} (h : ∀ i j, i < N → j < N → id i = id j → i = j) {x y : Nat} (hx : x / 60 < N) (hy : y / 60 < N) (he : slO id x = slO id y) : x = y := by
  unfold slO at he
  have h1 := congrArg Prod.fst he
  have h2 := congrArg Prod.snd he
  have h3 := h _ _ hx hy h1
  have h2 : x % 60 = y % 60 := h2
  omega
theorem sls_nd {G : Prg} {N : Nat} {id : Nat → Cid} (h : ∀ i j, i < N → j < N → id i = id j → i = j) : ∀ (l : List Nat), l.Nodup → (∀ x ∈ l, vld G N id x) → (l.map (slO id)).Nodup
  | [], _, _ => List.nodup_nil
  | x :: l, hl, hv => by
    obtain ⟨h1, h2⟩ := List.nodup_cons.mp hl
    rw [List.map_cons]
    refine List.nodup_cons.mpr ⟨fun hm => ?_, sls_nd h l h2 (fun y hy => hv y (List.mem_cons_of_mem _ hy))⟩
    obtain ⟨y, hy, he⟩ := List.mem_map.mp hm
    have := slO_inj h (hv y (List.mem_cons_of_mem _ hy)).1 (hv x List.mem_cons_self).1 he
    exact h1 (by rw [← this]; exact hy)
/-- as many slots known -/
theorem cmp_KL {G : Prg} {a b : Int32} {N N' : Nat} {id id' : Nat → Cid} {st st' : Nat → Nat} {va va' : Nat → Vl} (h : SdM G a b N id st va) (h' : ClM G a b N' id' st' va') {l l' : List Nat} (hl : l.Nodup) (hm : ∀ x, x ∈ l → vld G N id x ∧ st x = 3) (hm' : ∀ x, vld G N' id' x → st' x = 3 → x ∈ l') : l.length ≤ l'.length := by
  have := nd_sub (l.map (slO id)) (l'.map (slO id')) (sls_nd h.1 l hl (fun x hx => (hm x hx).1)) (fun s hs => by
    obtain ⟨x, hx, rfl⟩ := List.mem_map.mp hs
    obtain ⟨y, h1, h2, h3, h4⟩ := cmp_K h h' (hm x hx).1 (hm x hx).2
    exact List.mem_map.mpr ⟨y, hm' y h1 h3, h2⟩)
  simpa using this
