/-! 40.law: the law's own walk. The judgement V: as Z, for the law's frame; its world: the class's cells, the reference's, 'out' -/
def aL (s : State) : Nat → Prop := fun q => s.heap.size ≤ q
abbrev VX : Type := Program × Launch × Env × State × MethodId × List Frame × Method × Code × va_G × Nat × Nat × (Nat → Int32)
def V (X : VX) (w : va_W) (tys : List (ClassId × FieldType)) (cells slots pc : Nat) (lv : List (Nat × Value)) (st : List Value) : Prop :=
  match X with
  | (p, l, e, s, m, below, meth, c, D, b, L, xs) => ∀ (H : Heap) (locs : List Loc) (ls : Array Slot), va_P D vwCl w H → va_K D vwCl tys s → va_D (aL s) w → va_S (aL s) s.heap H locs → lv_has ls 7 lv → W p l e room_1 s m #[Value.ref b] below meth c H locs cells slots (lw_Z below #[Value.ref b] s) (F0 m pc ls st)
def CV (X : VX) (sg : Nat × Nat) : Prop :=
  match X with
  | (p, l, e, s, m, below, meth, c, D, b, L, xs) => p.tables.exec = Jvm.exec ∧ c.code = cL_law ∧ meth.sig.returnType = ret ∧ c.maxLocals = 7 ∧ s.vm.findClass RL = some m.cls ∧ (∀ w ∈ W0, w.before #[Value.ref b] s = true) ∧ (∀ w ∈ W0, ∀ (a' : Array Value) (U : State), s.WarmedH U.vm → w.before a' U = true) ∧ (va_X b L xs s s.heap ∧ b < s.heap.size) ∧ meth.locks = false ∧ SG sg (aL s) s ∧ TH (aL s) s ∧ NCX s ∧ NW s
def vl (X : VX) : Launch := match X with
  | (_, l, _, _, _, _, _, _, _, _, _, _) => l
def vD (X : VX) : va_G := match X with
  | (_, _, _, _, _, _, _, _, D, _, _, _) => D
def vb (X : VX) : Nat := match X with
  | (_, _, _, _, _, _, _, _, _, b, _, _) => b
def vLn (X : VX) : Nat := match X with
  | (_, _, _, _, _, _, _, _, _, _, L, _) => L
def vxs (X : VX) : Nat → Int32 := match X with
  | (_, _, _, _, _, _, _, _, _, _, _, xs) => xs
def wL (ad : Nat → Nat) (cs : Nat → ClassId) (u : St) (am : Nat → Nat) (ks : Nat → ClassId) (v : St) (f : Nat → Int64) : va_W := wC ad cs u ++ (wM am ks v ++ [(ad 80, .inl (cs 80, 1, .inr (.inl f)))])
def tysL (cs ks : Nat → ClassId) : List (ClassId × FieldType) := tysC cs ++ (tysM ks ++ [(cs 80, .long)])
section LAW
variable {X : VX} {sg : Nat × Nat} {pc cells slots : Nat} {w : va_W} {tys : List (ClassId × FieldType)} {lv lv' : List (Nat × Value)} {st : List Value}
theorem v_lv (ks : List Nat) (hl : lv_pick lv ks = lv') (k : V X w tys cells slots pc lv' st) : V X w tys cells slots pc lv st := by
  obtain ⟨p, l, e, s, m, below, meth, c, D, b, L, xs⟩ := X
  exact fun H locs ls hP hK hD hS h => k H locs ls hP hK hD hS (lv_sub h ks hl)
theorem v_wide {c2 s2 : Nat} (h1 : cells ≤ c2) (h2 : slots ≤ s2) (k : V X w tys c2 s2 pc lv st) : V X w tys cells slots pc lv st := by
  obtain ⟨p, l, e, s, m, below, meth, c, D, b, L, xs⟩ := X
  exact fun H locs ls hP hK hD hS h => W.widen h1 h2 (k H locs ls hP hK hD hS h)
theorem v_topi {x : Int32} (k : ∀ y : Int32, y = x → V X w tys cells slots pc lv (.int y :: st)) : V X w tys cells slots pc lv (.int x :: st) := k x rfl
theorem v_iconst (C : CV X sg) {n : Int} {v : Int32} (hdg : decode cL_law pc = .ok (.iconst n, 1)) (hv : Int32.ofInt n = v)
    (k : V X w tys cells slots (pc + 1) lv (.int v :: st)) : V X w tys cells slots pc lv st := by
  obtain ⟨p, l, e, s, m, below, meth, c, D, b, L, xs⟩ := X
  obtain ⟨hx, hb, hr, hml, hown, hts, hgd, hX, hlocks, hSG, hTH, hNC, hNW⟩ := C
  intro H locs ls hP hK hD hS hl
  exact lv_iconst hx hb hdg hv (k H locs ls hP hK hD hS hl)
theorem v_bipush (C : CV X sg) {n : Int} {v : Int32} (hdg : decode cL_law pc = .ok (.bipush n, 2)) (hv : (Int8.ofInt n).toInt32 = v)
    (k : V X w tys cells slots (pc + 2) lv (.int v :: st)) : V X w tys cells slots pc lv st := by
  obtain ⟨p, l, e, s, m, below, meth, c, D, b, L, xs⟩ := X
  obtain ⟨hx, hb, hr, hml, hown, hts, hgd, hX, hlocks, hSG, hTH, hNC, hNW⟩ := C
  intro H locs ls hP hK hD hS hl
  exact lv_bipush hx hb hdg hv (k H locs ls hP hK hD hS hl)
theorem v_iload_n (C : CV X sg) {k0 : Fin 4} {i : Nat} {x : Int32} (hdg : decode cL_law pc = .ok (.iload_n k0, 1)) (hi : (k0 : Nat) = i) (j : Nat) (hj : lv[j]? = some (i, .int x))
    (k : V X w tys cells slots (pc + 1) lv (.int x :: st)) : V X w tys cells slots pc lv st := by
  obtain ⟨p, l, e, s, m, below, meth, c, D, b, L, xs⟩ := X
  obtain ⟨hx, hb, hr, hml, hown, hts, hgd, hX, hlocks, hSG, hTH, hNC, hNW⟩ := C
  intro H locs ls hP hK hD hS hl
  exact lv_iload_n hx hb hdg hi (lv_at hl j hj) (k H locs ls hP hK hD hS hl)
theorem v_iload (C : CV X sg) {i : Nat} {x : Int32} (hdg : decode cL_law pc = .ok (.iload i, 2)) (j : Nat) (hj : lv[j]? = some (i, .int x))
    (k : V X w tys cells slots (pc + 2) lv (.int x :: st)) : V X w tys cells slots pc lv st := by
  obtain ⟨p, l, e, s, m, below, meth, c, D, b, L, xs⟩ := X
  obtain ⟨hx, hb, hr, hml, hown, hts, hgd, hX, hlocks, hSG, hTH, hNC, hNW⟩ := C
  intro H locs ls hP hK hD hS hl
  exact lv_iload hx hb hdg (lv_at hl j hj) (k H locs ls hP hK hD hS hl)
theorem v_aload_n (C : CV X sg) {k0 : Fin 4} {i : Nat} {x : Nat} (hdg : decode cL_law pc = .ok (.aload_n k0, 1)) (hi : (k0 : Nat) = i) (j : Nat) (hj : lv[j]? = some (i, .ref x))
    (k : V X w tys cells slots (pc + 1) lv (.ref x :: st)) : V X w tys cells slots pc lv st := by
  obtain ⟨p, l, e, s, m, below, meth, c, D, b, L, xs⟩ := X
  obtain ⟨hx, hb, hr, hml, hown, hts, hgd, hX, hlocks, hSG, hTH, hNC, hNW⟩ := C
  intro H locs ls hP hK hD hS hl
  exact lv_aload_n hx hb hdg hi (lv_at hl j hj) (k H locs ls hP hK hD hS hl)
theorem v_aload (C : CV X sg) {i : Nat} {x : Nat} (hdg : decode cL_law pc = .ok (.aload i, 2)) (j : Nat) (hj : lv[j]? = some (i, .ref x))
    (k : V X w tys cells slots (pc + 2) lv (.ref x :: st)) : V X w tys cells slots pc lv st := by
  obtain ⟨p, l, e, s, m, below, meth, c, D, b, L, xs⟩ := X
  obtain ⟨hx, hb, hr, hml, hown, hts, hgd, hX, hlocks, hSG, hTH, hNC, hNW⟩ := C
  intro H locs ls hP hK hD hS hl
  exact lv_aload hx hb hdg (lv_at hl j hj) (k H locs ls hP hK hD hS hl)
theorem v_istore_n (C : CV X sg) {k0 : Fin 4} {i : Nat} {x : Int32} (hdg : decode cL_law pc = .ok (.istore_n k0, 1)) (hi : (k0 : Nat) = i) (hn : i < 7) (hv : (i, Value.int x) :: lv.filter (fun q => !(q.1 == i) && !(q.1 + 1 == i && q.2.category == 2)) = lv')
    (k : V X w tys cells slots (pc + 1) lv' st) : V X w tys cells slots pc lv (.int x :: st) := by
  obtain ⟨p, l, e, s, m, below, meth, c, D, b, L, xs⟩ := X
  obtain ⟨hx, hb, hr, hml, hown, hts, hgd, hX, hlocks, hSG, hTH, hNC, hNW⟩ := C
  intro H locs ls hP hK hD hS hl
  exact lv_istore_n hx hb hdg hi hl hn hv (fun ls h => k H locs ls hP hK hD hS h)
theorem v_istore (C : CV X sg) {i : Nat} {x : Int32} (hdg : decode cL_law pc = .ok (.istore i, 2)) (hn : i < 7) (hv : (i, Value.int x) :: lv.filter (fun q => !(q.1 == i) && !(q.1 + 1 == i && q.2.category == 2)) = lv')
    (k : V X w tys cells slots (pc + 2) lv' st) : V X w tys cells slots pc lv (.int x :: st) := by
  obtain ⟨p, l, e, s, m, below, meth, c, D, b, L, xs⟩ := X
  obtain ⟨hx, hb, hr, hml, hown, hts, hgd, hX, hlocks, hSG, hTH, hNC, hNW⟩ := C
  intro H locs ls hP hK hD hS hl
  exact lv_istore hx hb hdg hl hn hv (fun ls h => k H locs ls hP hK hD hS h)
theorem v_astore_n (C : CV X sg) {k0 : Fin 4} {i : Nat} {x : Nat} (hdg : decode cL_law pc = .ok (.astore_n k0, 1)) (hi : (k0 : Nat) = i) (hn : i < 7) (hv : (i, Value.ref x) :: lv.filter (fun q => !(q.1 == i) && !(q.1 + 1 == i && q.2.category == 2)) = lv')
    (k : V X w tys cells slots (pc + 1) lv' st) : V X w tys cells slots pc lv (.ref x :: st) := by
  obtain ⟨p, l, e, s, m, below, meth, c, D, b, L, xs⟩ := X
  obtain ⟨hx, hb, hr, hml, hown, hts, hgd, hX, hlocks, hSG, hTH, hNC, hNW⟩ := C
  intro H locs ls hP hK hD hS hl
  exact lv_astore_n hx hb hdg hi hl hn hv (fun ls h => k H locs ls hP hK hD hS h)
theorem v_astore (C : CV X sg) {i : Nat} {x : Nat} (hdg : decode cL_law pc = .ok (.astore i, 2)) (hn : i < 7) (hv : (i, Value.ref x) :: lv.filter (fun q => !(q.1 == i) && !(q.1 + 1 == i && q.2.category == 2)) = lv')
    (k : V X w tys cells slots (pc + 2) lv' st) : V X w tys cells slots pc lv (.ref x :: st) := by
  obtain ⟨p, l, e, s, m, below, meth, c, D, b, L, xs⟩ := X
  obtain ⟨hx, hb, hr, hml, hown, hts, hgd, hX, hlocks, hSG, hTH, hNC, hNW⟩ := C
  intro H locs ls hP hK hD hS hl
  exact lv_astore hx hb hdg hl hn hv (fun ls h => k H locs ls hP hK hD hS h)
theorem v_iinc (C : CV X sg) {i j : Nat} {n : Int} {x v : Int32} (hdg : decode cL_law pc = .ok (.iinc i n, 3)) (hj : lv[j]? = some (i, .int x)) (hx1 : x + Int32.ofInt n = v) (hn : i < 7) (hv : (i, Value.int v) :: lv.filter (fun q => !(q.1 == i) && !(q.1 + 1 == i && q.2.category == 2)) = lv')
    (k : V X w tys cells slots (pc + 3) lv' st) : V X w tys cells slots pc lv st := by
  obtain ⟨p, l, e, s, m, below, meth, c, D, b, L, xs⟩ := X
  obtain ⟨hx, hb, hr, hml, hown, hts, hgd, hX, hlocks, hSG, hTH, hNC, hNW⟩ := C
  intro H locs ls hP hK hD hS hl
  exact lv_iinc hx hb hdg hl hj hx1 hn hv (fun ls h => k H locs ls hP hK hD hS h)
theorem v_iadd (C : CV X sg) {x y : Int32} (hdg : decode cL_law pc = .ok (.iadd, 1))
    (k : V X w tys cells slots (pc + 1) lv (.int (x + y) :: st)) : V X w tys cells slots pc lv (.int y :: .int x :: st) := by
  obtain ⟨p, l, e, s, m, below, meth, c, D, b, L, xs⟩ := X
  obtain ⟨hx, hb, hr, hml, hown, hts, hgd, hX, hlocks, hSG, hTH, hNC, hNW⟩ := C
  intro H locs ls hP hK hD hS hl
  exact lv_iadd hx hb hdg (k H locs ls hP hK hD hS hl)
theorem v_isub (C : CV X sg) {x y : Int32} (hdg : decode cL_law pc = .ok (.isub, 1))
    (k : V X w tys cells slots (pc + 1) lv (.int (x - y) :: st)) : V X w tys cells slots pc lv (.int y :: .int x :: st) := by
  obtain ⟨p, l, e, s, m, below, meth, c, D, b, L, xs⟩ := X
  obtain ⟨hx, hb, hr, hml, hown, hts, hgd, hX, hlocks, hSG, hTH, hNC, hNW⟩ := C
  intro H locs ls hP hK hD hS hl
  exact lv_isub hx hb hdg (k H locs ls hP hK hD hS hl)
theorem v_iand (C : CV X sg) {x y : Int32} (hdg : decode cL_law pc = .ok (.iand, 1))
    (k : V X w tys cells slots (pc + 1) lv (.int (x &&& y) :: st)) : V X w tys cells slots pc lv (.int y :: .int x :: st) := by
  obtain ⟨p, l, e, s, m, below, meth, c, D, b, L, xs⟩ := X
  obtain ⟨hx, hb, hr, hml, hown, hts, hgd, hX, hlocks, hSG, hTH, hNC, hNW⟩ := C
  intro H locs ls hP hK hD hS hl
  exact lv_iand hx hb hdg (k H locs ls hP hK hD hS hl)
theorem v_i2l (C : CV X sg) {x : Int32} (hdg : decode cL_law pc = .ok (.i2l, 1))
    (k : V X w tys cells slots (pc + 1) lv (.long x.toInt64 :: st)) : V X w tys cells slots pc lv (.int x :: st) := by
  obtain ⟨p, l, e, s, m, below, meth, c, D, b, L, xs⟩ := X
  obtain ⟨hx, hb, hr, hml, hown, hts, hgd, hX, hlocks, hSG, hTH, hNC, hNW⟩ := C
  intro H locs ls hP hK hD hS hl
  exact lv_i2l hx hb hdg rfl (k H locs ls hP hK hD hS hl)
theorem v_lcmp (C : CV X sg) {x y : Int64} (hdg : decode cL_law pc = .ok (.lcmp, 1))
    (k : V X w tys cells slots (pc + 1) lv (.int (lg_cmp x y) :: st)) : V X w tys cells slots pc lv (.long y :: .long x :: st) := by
  obtain ⟨p, l, e, s, m, below, meth, c, D, b, L, xs⟩ := X
  obtain ⟨hx, hb, hr, hml, hown, hts, hgd, hX, hlocks, hSG, hTH, hNC, hNW⟩ := C
  intro H locs ls hP hK hD hS hl
  exact W.lcmp hx hb hdg (k H locs ls hP hK hD hS hl)
theorem v_dup (C : CV X sg) {a : Value} (hdg : decode cL_law pc = .ok (.dup, 1)) (ha : a.category = 1)
    (k : V X w tys cells slots (pc + 1) lv (a :: a :: st)) : V X w tys cells slots pc lv (a :: st) := by
  obtain ⟨p, l, e, s, m, below, meth, c, D, b, L, xs⟩ := X
  obtain ⟨hx, hb, hr, hml, hown, hts, hgd, hX, hlocks, hSG, hTH, hNC, hNW⟩ := C
  intro H locs ls hP hK hD hS hl
  exact lv_dup hx hb hdg ha (k H locs ls hP hK hD hS hl)
theorem v_goto (C : CV X sg) {off : Int} {tgt : Nat} (hdg : decode cL_law pc = .ok (.goto off, 3)) (ht : (pc : Int) + off = (tgt : Int))
    (k : V X w tys cells slots tgt lv st) : V X w tys cells slots pc lv st := by
  obtain ⟨p, l, e, s, m, below, meth, c, D, b, L, xs⟩ := X
  obtain ⟨hx, hb, hr, hml, hown, hts, hgd, hX, hlocks, hSG, hTH, hNC, hNW⟩ := C
  intro H locs ls hP hK hD hS hl
  exact lv_goto hx hb hdg ht (k H locs ls hP hK hD hS hl)
theorem v_icmp_eq (C : CV X sg) {x y : Int32} {off : Int} {tgt : Nat} (hdg : decode cL_law pc = .ok (.if_icmp .eq off, 3)) (ht : (pc : Int) + off = (tgt : Int)) (kt : x = y → V X w tys cells slots tgt lv st)
    (k : ¬ (x = y) → V X w tys cells slots (pc + 3) lv st) : V X w tys cells slots pc lv (.int y :: .int x :: st) := by
  obtain ⟨p, l, e, s, m, below, meth, c, D, b, L, xs⟩ := X
  obtain ⟨hx, hb, hr, hml, hown, hts, hgd, hX, hlocks, hSG, hTH, hNC, hNW⟩ := C
  intro H locs ls hP hK hD hS hl
  exact lv_icmp_eq hx hb hdg ht (fun h => kt h H locs ls hP hK hD hS hl) (fun h => k h H locs ls hP hK hD hS hl)
theorem v_icmp_gt (C : CV X sg) {x y : Int32} {off : Int} {tgt : Nat} (hdg : decode cL_law pc = .ok (.if_icmp .gt off, 3)) (ht : (pc : Int) + off = (tgt : Int)) (kt : y < x → V X w tys cells slots tgt lv st)
    (k : ¬ (y < x) → V X w tys cells slots (pc + 3) lv st) : V X w tys cells slots pc lv (.int y :: .int x :: st) := by
  obtain ⟨p, l, e, s, m, below, meth, c, D, b, L, xs⟩ := X
  obtain ⟨hx, hb, hr, hml, hown, hts, hgd, hX, hlocks, hSG, hTH, hNC, hNW⟩ := C
  intro H locs ls hP hK hD hS hl
  exact lv_icmp_gt hx hb hdg ht (fun h => kt h H locs ls hP hK hD hS hl) (fun h => k h H locs ls hP hK hD hS hl)
theorem v_if_eq (C : CV X sg) {x : Int32} {off : Int} {tgt : Nat} (hdg : decode cL_law pc = .ok (.ifCond .eq off, 3)) (ht : (pc : Int) + off = (tgt : Int)) (kt : x = 0 → V X w tys cells slots tgt lv st)
    (k : ¬ (x = 0) → V X w tys cells slots (pc + 3) lv st) : V X w tys cells slots pc lv (.int x :: st) := by
  obtain ⟨p, l, e, s, m, below, meth, c, D, b, L, xs⟩ := X
  obtain ⟨hx, hb, hr, hml, hown, hts, hgd, hX, hlocks, hSG, hTH, hNC, hNW⟩ := C
  intro H locs ls hP hK hD hS hl
  exact lv_if_eq hx hb hdg ht (fun h => kt h H locs ls hP hK hD hS hl) (fun h => k h H locs ls hP hK hD hS hl)
theorem v_if_ne (C : CV X sg) {x : Int32} {off : Int} {tgt : Nat} (hdg : decode cL_law pc = .ok (.ifCond .ne off, 3)) (ht : (pc : Int) + off = (tgt : Int)) (kt : ¬ x = 0 → V X w tys cells slots tgt lv st)
    (k : x = 0 → V X w tys cells slots (pc + 3) lv st) : V X w tys cells slots pc lv (.int x :: st) := by
  obtain ⟨p, l, e, s, m, below, meth, c, D, b, L, xs⟩ := X
  obtain ⟨hx, hb, hr, hml, hown, hts, hgd, hX, hlocks, hSG, hTH, hNC, hNW⟩ := C
  intro H locs ls hP hK hD hS hl
  exact lv_if_ne hx hb hdg ht (fun h => kt h H locs ls hP hK hD hS hl) (fun h => k h H locs ls hP hK hD hS hl)
theorem v_tabIn (C : CV X sg) {dflt lo1 hi1 : Int} {offs : Array Int} {len : Nat} {x v : Int32} {off : Int} {tgt : Nat} (hv : x = v) (hdg : decode cL_law pc = .ok (.tableswitch dflt lo1 hi1 offs, len)) (h1 : ¬ v.toInt < lo1) (h2 : ¬ hi1 < v.toInt) (ho : offs[(v.toInt - lo1).toNat]? = some off) (ht : (pc : Int) + off = (tgt : Int))
    (k : V X w tys cells slots tgt lv st) : V X w tys cells slots pc lv (.int x :: st) := by
  obtain ⟨p, l, e, s, m, below, meth, c, D, b, L, xs⟩ := X
  obtain ⟨hx, hb, hr, hml, hown, hts, hgd, hX, hlocks, hSG, hTH, hNC, hNW⟩ := C
  intro H locs ls hP hK hD hS hl
  subst hv
  exact lv_tableIn hx hb hdg h1 h2 ho ht (k H locs ls hP hK hD hS hl)
theorem v_tabOut (C : CV X sg) {dflt lo1 hi1 : Int} {offs : Array Int} {len : Nat} {x : Int32} {tgt : Nat} (hdg : decode cL_law pc = .ok (.tableswitch dflt lo1 hi1 offs, len)) (h : x.toInt < lo1 ∨ hi1 < x.toInt) (ht : (pc : Int) + dflt = (tgt : Int))
    (k : V X w tys cells slots tgt lv st) : V X w tys cells slots pc lv (.int x :: st) := by
  obtain ⟨p, l, e, s, m, below, meth, c, D, b, L, xs⟩ := X
  obtain ⟨hx, hb, hr, hml, hown, hts, hgd, hX, hlocks, hSG, hTH, hNC, hNW⟩ := C
  intro H locs ls hP hK hD hS hl
  exact lv_tableOut hx hb hdg h ht (k H locs ls hP hK hD hS hl)
theorem v_sld (C : CV X sg) {i : Int32} (hin : vp_in i (vLn X)) (hdg : decode cL_law pc = .ok (.iaload, 1))
    (k : V X w tys cells slots (pc + 1) lv (.int (vxs X i.toNatClampNeg) :: st)) : V X w tys cells slots pc lv (.int i :: .ref (vb X) :: st) := by
  obtain ⟨p, l, e, s, m, below, meth, c, D, b, L, xs⟩ := X
  obtain ⟨hx, hb, hr, hml, hown, hts, hgd, hX, hlocks, hSG, hTH, hNC, hNW⟩ := C
  intro H locs ls hP hK hD hS hl
  exact va_sld hx hb hX.1 hX.2 (Nat.not_le.mpr hX.2) hS hin hdg (k H locs ls hP hK hD hS hl)
theorem v_slen (C : CV X sg) (hdg : decode cL_law pc = .ok (.arraylength, 1))
    (k : V X w tys cells slots (pc + 1) lv (.int (nI (vLn X)) :: st)) : V X w tys cells slots pc lv (.ref (vb X) :: st) := by
  obtain ⟨p, l, e, s, m, below, meth, c, D, b, L, xs⟩ := X
  obtain ⟨hx, hb, hr, hml, hown, hts, hgd, hX, hlocks, hSG, hTH, hNC, hNW⟩ := C
  intro H locs ls hP hK hD hS hl
  exact va_slen hx hb hX.1 hX.2 (Nat.not_le.mpr hX.2) hS hdg (k H locs ls hP hK hD hS hl)
end LAW
section LAW2
variable {X : VX} {pc cells slots : Nat} {lv lv' : List (Nat × Value)} {st rest : List Value} {ad am : Nat → Nat} {cs ks : Nat → ClassId} {u v : St} {f : Nat → Int64}
theorem v_out (C : CV X (ad 90, ad 91)) {i : Int32} (hi : i = 0) (hdg : decode cL_law pc = .ok (.laload, 1))
    (k : V X (wL ad cs u am ks v f) (tysL cs ks) cells slots (pc + 1) lv (.long (f 0) :: st)) : V X (wL ad cs u am ks v f) (tysL cs ks) cells slots pc lv (.int i :: .ref (ad 80) :: st) := by
  subst hi
  obtain ⟨p, l, e, s, m, below, meth, c, D, b, L, xs⟩ := X
  obtain ⟨hx, hb, hr, hml, hown, hts, hgd, hX, hlocks, hSG, hTH, hNC, hNW⟩ := C
  intro H locs ls hP hK hD hS hl
  exact va_lald (D := D) (tys := tysL cs ks) hx hb hK hP 73 64 rfl rfl (show vp_in 0 1 from vp_in_iff.mpr (by decide)) hdg (k H locs ls hP hK hD hS hl)
theorem wM_D {A : Nat → Prop} {ad : Nat → Nat} {cs : Nat → ClassId} {u u2 : St} (h : va_D A (wM ad cs u)) : va_D A (wM ad cs u2) := by
  have e : (wM ad cs u).map Prod.fst = (wM ad cs u2).map Prod.fst := rfl
  have key : ∀ (k : Nat) (x : Nat × va_E), (wM ad cs u2)[k]? = some x → ∃ y : Nat × va_E, (wM ad cs u)[k]? = some y ∧ y.1 = x.1 := by
    intro k x hx
    have h1 : ((wM ad cs u2).map Prod.fst)[k]? = some x.1 := by rw [List.getElem?_map, hx]; rfl
    rw [← e, List.getElem?_map] at h1
    cases h2 : (wM ad cs u)[k]? with
    | none => rw [h2] at h1; cases h1
    | some y => rw [h2] at h1; exact ⟨y, rfl, Option.some.inj h1⟩
  refine ⟨fun i j x y hi hj hxy => ?_, fun k x hx => ?_⟩
  · obtain ⟨x2, hx2, ex⟩ := key i x hi
    obtain ⟨y2, hy2, ey⟩ := key j y hj
    exact h.1 i j x2 y2 hx2 hy2 (by rw [ex, ey, hxy])
  · obtain ⟨y, hy, ey⟩ := key k x hx
    rw [← ey]; exact h.2 k y hy
theorem v_callCi (C : CV X (ad 90, ad 91)) {y : MethodName} {bytes : ByteArray} {maxL f1 l1 idx : Nat} (na : Nat) {rt : Option FieldType} {As : List Value} {post : Int32 → St → Prop} (hM : ∀ A : Nat → Prop, (∀ u : St, va_D A (wC ad cs u)) → MI (ad 90, ad 91) (vl X) y bytes maxL rt (rmm f1 l1) (vD X) (tysC cs) A (wC ad cs) u (.ref (ad 0) :: As) post) (hI : Cond.instanceMethod y ∈ W0) (hSel : Cond.selects y.cls y y ∈ W0) (hCo : Cond.code y bytes maxL rt ∈ W0) (hZ : Cond.initialized y.cls ∈ W0) (hcls : y.cls = RX6)
    (hd : y.cls ≠ "java/lang/invoke/MethodHandle" ∧ y.cls ≠ "java/lang/invoke/VarHandle" ∧ (parseMethodDescriptor y.desc).map (fun d => d.parameters.length) = some na) (hna : As.length = na) (hlink : Cond.methodLink RL idx y ∈ W0) (hroom : f1 + 1 ≤ 15 ∧ 8 + (maxL + 11) + l1 ≤ 564) (hcc : cells ≤ 1104 ∧ slots ≤ 308591) (hst : (rest.map fun v => v.category).sum ≤ 8) (hdg : decode cL_law pc = .ok (.invokevirtual idx, 3))
    (k : ∀ (r : Int32) (u2 : St), post r u2 → V X (wL ad cs u2 am ks v f) (tysL cs ks) cells slots (pc + 3) lv (.int r :: rest)) : V X (wL ad cs u am ks v f) (tysL cs ks) cells slots pc lv (As.reverse ++ .ref (ad 0) :: rest) := by
  obtain ⟨p, l, e, s, m, below, meth, c, D, b, L, xs⟩ := X
  obtain ⟨hx, hb, hr, hml, hown, hts, hgd, hX, hlocks, hSG, hTH, hNC, hNW⟩ := C
  intro H locs ls hP hK hD hS hl
  have hy : y.cls ≠ "java/lang/invoke/MethodHandle" ∧ y.cls ≠ "java/lang/invoke/VarHandle" := ⟨hd.1, hd.2.1⟩
  have hgw : ∀ w ∈ (Cond.code y bytes maxL rt :: W0), ∀ (a' : Array Value) (U : State), s.WarmedH U.vm → w.before a' U = true := fun w h => (List.mem_cons.mp h).elim (fun e => by rw [e]; exact hgd _ hCo) (hgd w)
  have hsig : ∀ sig, parseMethodDescriptor y.desc = some sig → As.length = sig.parameters.length := fun sig h => by
    have h2 := hd.2.2
    rw [h] at h2
    exact hna.trans (Option.some.inj h2).symm
  have hPc : va_P D vwCl (wC ad cs u) H := hP.sub [0, 1, 2, 3, 4, 5, 6, 7, 8, 9, 10, 11, 12, 13, 14, 15, 16, 17, 18, 19, 20, 21, 22, 23, 24, 25, 26, 27, 28, 29, 30, 31, 32, 33, 34, 35, 36, 37, 38] rfl
  have hDc : va_D (aL s) (wC ad cs u) := hD.sub [0, 1, 2, 3, 4, 5, 6, 7, 8, 9, 10, 11, 12, 13, 14, 15, 16, 17, 18, 19, 20, 21, 22, 23, 24, 25, 26, 27, 28, 29, 30, 31, 32, 33, 34, 35, 36, 37, 38] (by decide) rfl
  have hKc : va_K D vwCl (tysC cs) s := hK.sub [0, 1, 2, 3, 4, 5, 6, 7, 8, 9, 10, 11, 12, 13, 14, 15, 16, 17, 18, 19, 20, 21, 22, 23, 24, 25, 26, 27, 28, 29, 30] rfl
  have hFc := va_free (wc := wC ad cs u) hD hS (fun q h => h) [0, 1, 2, 3, 4, 5, 6, 7, 8, 9, 10, 11, 12, 13, 14, 15, 16, 17, 18, 19, 20, 21, 22, 23, 24, 25, 26, 27, 28, 29, 30, 31, 32, 33, 34, 35, 36, 37, 38] rfl
  refine va_calli (va_runV (y := y) (As := As) (rest := rest) ⟨hx, hb, hml, hown, hts⟩ (hM (va_A (wC ad cs u) H.size) (fun _ => wC_D hDc.self)) ⟨⟨rfl, rfl, hroom.1, hroom.2, hgw, List.mem_cons_self, hts _ hCo, hts _ hZ, hy, hsig, hts _ hlink⟩, hts _ hI, hts _ hSel⟩ ⟨pp_blind, by rw [hcls]; exact va_recv hK hP (ci := 6) (q0 := 0) rfl rfl, fun U hU hW => ⟨rfl, by rw [hU]; exact hPc, va_K.moved hW.alike hKc, sg_narrow (sg_at hSG hS hU hW) hFc⟩⟩ rfl rfl hl.1 rfl (lv_room hst) hdg hcc) hS (fun q _ h => hFc q h) hFc (fun r u2 t H1 locs1 ht hvm hp hB hz1 hk1 hS1 => ?_)
  obtain ⟨hP1, hK1⟩ := hB
  rw [ht] at hP1
  have hD1 : va_D (va_A (wC ad cs u) H.size) (wC ad cs u2) := wC_D hDc.self
  obtain ⟨hP2, hD2⟩ := va_join (wc := wC ad cs u) (wr := (wM am ks v ++ [(ad 80, .inl (cs 80, 1, .inr (.inl f)))])) (w1 := wC ad cs u2) hP hD [0, 1, 2, 3, 4, 5, 6, 7, 8, 9, 10, 11, 12, 13, 14, 15, 16, 17, 18, 19, 20, 21, 22, 23, 24, 25, 26, 27, 28, 29, 30, 31, 32, 33, 34, 35, 36, 37, 38] [39, 40, 41, 42, 43, 44, 45, 46, 47, 48, 49, 50, 51, 52, 53, 54, 55, 56, 57, 58, 59, 60, 61, 62, 63, 64, 65, 66, 67, 68, 69, 70, 71, 72, 73] rfl rfl (by decide) (by decide) hk1 hFc hP1 hD1
  exact k r u2 hp H1 locs1 ls (hP2.sub [35, 36, 37, 38, 39, 40, 41, 42, 43, 44, 45, 46, 47, 48, 49, 50, 51, 52, 53, 54, 55, 56, 57, 58, 59, 60, 61, 62, 63, 64, 65, 66, 67, 68, 69, 70, 71, 72, 73, 0, 1, 2, 3, 4, 5, 6, 7, 8, 9, 10, 11, 12, 13, 14, 15, 16, 17, 18, 19, 20, 21, 22, 23, 24, 25, 26, 27, 28, 29, 30, 31, 32, 33, 34] rfl) hK (hD2.sub [35, 36, 37, 38, 39, 40, 41, 42, 43, 44, 45, 46, 47, 48, 49, 50, 51, 52, 53, 54, 55, 56, 57, 58, 59, 60, 61, 62, 63, 64, 65, 66, 67, 68, 69, 70, 71, 72, 73, 0, 1, 2, 3, 4, 5, 6, 7, 8, 9, 10, 11, 12, 13, 14, 15, 16, 17, 18, 19, 20, 21, 22, 23, 24, 25, 26, 27, 28, 29, 30, 31, 32, 33, 34] (by decide) rfl) hS1 hl
theorem v_callCv (C : CV X (ad 90, ad 91)) {y : MethodName} {bytes : ByteArray} {maxL f1 l1 idx : Nat} (na : Nat) {rt : Option FieldType} {As : List Value} {post : St → Prop} (hM : ∀ A : Nat → Prop, (∀ u : St, va_D A (wC ad cs u)) → MV (ad 90, ad 91) (vl X) y bytes maxL rt (rmm f1 l1) (vD X) (tysC cs) A (wC ad cs) u (.ref (ad 0) :: As) post) (hI : Cond.instanceMethod y ∈ W0) (hSel : Cond.selects y.cls y y ∈ W0) (hCo : Cond.code y bytes maxL rt ∈ W0) (hZ : Cond.initialized y.cls ∈ W0) (hcls : y.cls = RX6)
    (hd : y.cls ≠ "java/lang/invoke/MethodHandle" ∧ y.cls ≠ "java/lang/invoke/VarHandle" ∧ (parseMethodDescriptor y.desc).map (fun d => d.parameters.length) = some na) (hna : As.length = na) (hlink : Cond.methodLink RL idx y ∈ W0) (hroom : f1 + 1 ≤ 15 ∧ 8 + (maxL + 11) + l1 ≤ 564) (hcc : cells ≤ 1104 ∧ slots ≤ 308591) (hst : (rest.map fun v => v.category).sum ≤ 8) (hdg : decode cL_law pc = .ok (.invokevirtual idx, 3))
    (k : ∀ (u2 : St), post u2 → V X (wL ad cs u2 am ks v f) (tysL cs ks) cells slots (pc + 3) lv rest) : V X (wL ad cs u am ks v f) (tysL cs ks) cells slots pc lv (As.reverse ++ .ref (ad 0) :: rest) := by
  obtain ⟨p, l, e, s, m, below, meth, c, D, b, L, xs⟩ := X
  obtain ⟨hx, hb, hr, hml, hown, hts, hgd, hX, hlocks, hSG, hTH, hNC, hNW⟩ := C
  intro H locs ls hP hK hD hS hl
  have hy : y.cls ≠ "java/lang/invoke/MethodHandle" ∧ y.cls ≠ "java/lang/invoke/VarHandle" := ⟨hd.1, hd.2.1⟩
  have hgw : ∀ w ∈ (Cond.code y bytes maxL rt :: W0), ∀ (a' : Array Value) (U : State), s.WarmedH U.vm → w.before a' U = true := fun w h => (List.mem_cons.mp h).elim (fun e => by rw [e]; exact hgd _ hCo) (hgd w)
  have hsig : ∀ sig, parseMethodDescriptor y.desc = some sig → As.length = sig.parameters.length := fun sig h => by
    have h2 := hd.2.2
    rw [h] at h2
    exact hna.trans (Option.some.inj h2).symm
  have hPc : va_P D vwCl (wC ad cs u) H := hP.sub [0, 1, 2, 3, 4, 5, 6, 7, 8, 9, 10, 11, 12, 13, 14, 15, 16, 17, 18, 19, 20, 21, 22, 23, 24, 25, 26, 27, 28, 29, 30, 31, 32, 33, 34, 35, 36, 37, 38] rfl
  have hDc : va_D (aL s) (wC ad cs u) := hD.sub [0, 1, 2, 3, 4, 5, 6, 7, 8, 9, 10, 11, 12, 13, 14, 15, 16, 17, 18, 19, 20, 21, 22, 23, 24, 25, 26, 27, 28, 29, 30, 31, 32, 33, 34, 35, 36, 37, 38] (by decide) rfl
  have hKc : va_K D vwCl (tysC cs) s := hK.sub [0, 1, 2, 3, 4, 5, 6, 7, 8, 9, 10, 11, 12, 13, 14, 15, 16, 17, 18, 19, 20, 21, 22, 23, 24, 25, 26, 27, 28, 29, 30] rfl
  have hFc := va_free (wc := wC ad cs u) hD hS (fun q h => h) [0, 1, 2, 3, 4, 5, 6, 7, 8, 9, 10, 11, 12, 13, 14, 15, 16, 17, 18, 19, 20, 21, 22, 23, 24, 25, 26, 27, 28, 29, 30, 31, 32, 33, 34, 35, 36, 37, 38] rfl
  refine va_callv (va_runV (y := y) (As := As) (rest := rest) ⟨hx, hb, hml, hown, hts⟩ (hM (va_A (wC ad cs u) H.size) (fun _ => wC_D hDc.self)) ⟨⟨rfl, rfl, hroom.1, hroom.2, hgw, List.mem_cons_self, hts _ hCo, hts _ hZ, hy, hsig, hts _ hlink⟩, hts _ hI, hts _ hSel⟩ ⟨pp_blind, by rw [hcls]; exact va_recv hK hP (ci := 6) (q0 := 0) rfl rfl, fun U hU hW => ⟨rfl, by rw [hU]; exact hPc, va_K.moved hW.alike hKc, sg_narrow (sg_at hSG hS hU hW) hFc⟩⟩ rfl rfl hl.1 rfl (lv_room hst) hdg hcc) hS (fun q _ h => hFc q h) hFc (fun u2 t H1 locs1 ht hvm hp hB hz1 hk1 hS1 => ?_)
  obtain ⟨hP1, hK1⟩ := hB
  rw [ht] at hP1
  have hD1 : va_D (va_A (wC ad cs u) H.size) (wC ad cs u2) := wC_D hDc.self
  obtain ⟨hP2, hD2⟩ := va_join (wc := wC ad cs u) (wr := (wM am ks v ++ [(ad 80, .inl (cs 80, 1, .inr (.inl f)))])) (w1 := wC ad cs u2) hP hD [0, 1, 2, 3, 4, 5, 6, 7, 8, 9, 10, 11, 12, 13, 14, 15, 16, 17, 18, 19, 20, 21, 22, 23, 24, 25, 26, 27, 28, 29, 30, 31, 32, 33, 34, 35, 36, 37, 38] [39, 40, 41, 42, 43, 44, 45, 46, 47, 48, 49, 50, 51, 52, 53, 54, 55, 56, 57, 58, 59, 60, 61, 62, 63, 64, 65, 66, 67, 68, 69, 70, 71, 72, 73] rfl rfl (by decide) (by decide) hk1 hFc hP1 hD1
  exact k u2 hp H1 locs1 ls (hP2.sub [35, 36, 37, 38, 39, 40, 41, 42, 43, 44, 45, 46, 47, 48, 49, 50, 51, 52, 53, 54, 55, 56, 57, 58, 59, 60, 61, 62, 63, 64, 65, 66, 67, 68, 69, 70, 71, 72, 73, 0, 1, 2, 3, 4, 5, 6, 7, 8, 9, 10, 11, 12, 13, 14, 15, 16, 17, 18, 19, 20, 21, 22, 23, 24, 25, 26, 27, 28, 29, 30, 31, 32, 33, 34] rfl) hK (hD2.sub [35, 36, 37, 38, 39, 40, 41, 42, 43, 44, 45, 46, 47, 48, 49, 50, 51, 52, 53, 54, 55, 56, 57, 58, 59, 60, 61, 62, 63, 64, 65, 66, 67, 68, 69, 70, 71, 72, 73, 0, 1, 2, 3, 4, 5, 6, 7, 8, 9, 10, 11, 12, 13, 14, 15, 16, 17, 18, 19, 20, 21, 22, 23, 24, 25, 26, 27, 28, 29, 30, 31, 32, 33, 34] (by decide) rfl) hS1 hl
theorem v_callMi (C : CV X (ad 90, ad 91)) (hm : am 90 = ad 90 ∧ am 91 = ad 91) {y : MethodName} {bytes : ByteArray} {maxL f1 l1 idx : Nat} (na : Nat) {rt : Option FieldType} {As : List Value} {post : Int32 → St → Prop} (hM : ∀ A : Nat → Prop, (∀ u : St, va_D A (wM am ks u)) → MI (am 90, am 91) (vl X) y bytes maxL rt (rmm f1 l1) (vD X) (tysM ks) A (wM am ks) v (.ref (am 0) :: As) post) (hI : Cond.instanceMethod y ∈ W0) (hSel : Cond.selects y.cls y y ∈ W0) (hCo : Cond.code y bytes maxL rt ∈ W0) (hZ : Cond.initialized y.cls ∈ W0) (hcls : y.cls = RX7)
    (hd : y.cls ≠ "java/lang/invoke/MethodHandle" ∧ y.cls ≠ "java/lang/invoke/VarHandle" ∧ (parseMethodDescriptor y.desc).map (fun d => d.parameters.length) = some na) (hna : As.length = na) (hlink : Cond.methodLink RL idx y ∈ W0) (hroom : f1 + 1 ≤ 15 ∧ 8 + (maxL + 11) + l1 ≤ 564) (hcc : cells ≤ 1104 ∧ slots ≤ 308591) (hst : (rest.map fun v => v.category).sum ≤ 8) (hdg : decode cL_law pc = .ok (.invokevirtual idx, 3))
    (k : ∀ (r : Int32) (u2 : St), post r u2 → V X (wL ad cs u am ks u2 f) (tysL cs ks) cells slots (pc + 3) lv (.int r :: rest)) : V X (wL ad cs u am ks v f) (tysL cs ks) cells slots pc lv (As.reverse ++ .ref (am 0) :: rest) := by
  obtain ⟨p, l, e, s, m, below, meth, c, D, b, L, xs⟩ := X
  obtain ⟨hx, hb, hr, hml, hown, hts, hgd, hX, hlocks, hSG, hTH, hNC, hNW⟩ := C
  intro H locs ls hP hK hD hS hl
  have hy : y.cls ≠ "java/lang/invoke/MethodHandle" ∧ y.cls ≠ "java/lang/invoke/VarHandle" := ⟨hd.1, hd.2.1⟩
  have hgw : ∀ w ∈ (Cond.code y bytes maxL rt :: W0), ∀ (a' : Array Value) (U : State), s.WarmedH U.vm → w.before a' U = true := fun w h => (List.mem_cons.mp h).elim (fun e => by rw [e]; exact hgd _ hCo) (hgd w)
  have hsig : ∀ sig, parseMethodDescriptor y.desc = some sig → As.length = sig.parameters.length := fun sig h => by
    have h2 := hd.2.2
    rw [h] at h2
    exact hna.trans (Option.some.inj h2).symm
  have hPc : va_P D vwCl (wM am ks v) H := hP.sub [39, 40, 41, 42, 43, 44, 45, 46, 47, 48, 49, 50, 51, 52, 53, 54, 55, 56, 57, 58, 59, 60, 61, 62, 63, 64, 65, 66, 67, 68, 69, 70, 71, 72] rfl
  have hDc : va_D (aL s) (wM am ks v) := hD.sub [39, 40, 41, 42, 43, 44, 45, 46, 47, 48, 49, 50, 51, 52, 53, 54, 55, 56, 57, 58, 59, 60, 61, 62, 63, 64, 65, 66, 67, 68, 69, 70, 71, 72] (by decide) rfl
  have hKc : va_K D vwCl (tysM ks) s := hK.sub [31, 32, 33, 34, 35, 36, 37, 38, 39, 40, 41, 42, 43, 44, 45, 46, 47, 48, 49, 50, 51, 52, 53, 54, 55, 56, 57, 58, 59, 60, 61, 62, 63] rfl
  have hFc := va_free (wc := wM am ks v) hD hS (fun q h => h) [39, 40, 41, 42, 43, 44, 45, 46, 47, 48, 49, 50, 51, 52, 53, 54, 55, 56, 57, 58, 59, 60, 61, 62, 63, 64, 65, 66, 67, 68, 69, 70, 71, 72] rfl
  refine va_calli (va_runV (y := y) (As := As) (rest := rest) ⟨hx, hb, hml, hown, hts⟩ (hM (va_A (wM am ks v) H.size) (fun _ => wM_D hDc.self)) ⟨⟨rfl, rfl, hroom.1, hroom.2, hgw, List.mem_cons_self, hts _ hCo, hts _ hZ, hy, hsig, hts _ hlink⟩, hts _ hI, hts _ hSel⟩ ⟨pp_blind, by rw [hcls]; exact va_recv hK hP (ci := 7) (q0 := 39) rfl rfl, fun U hU hW => ⟨rfl, by rw [hU]; exact hPc, va_K.moved hW.alike hKc, by rw [hm.1, hm.2]; exact sg_narrow (sg_at hSG hS hU hW) hFc⟩⟩ rfl rfl hl.1 rfl (lv_room hst) hdg hcc) hS (fun q _ h => hFc q h) hFc (fun r u2 t H1 locs1 ht hvm hp hB hz1 hk1 hS1 => ?_)
  obtain ⟨hP1, hK1⟩ := hB
  rw [ht] at hP1
  have hD1 : va_D (va_A (wM am ks v) H.size) (wM am ks u2) := wM_D hDc.self
  obtain ⟨hP2, hD2⟩ := va_join (wc := wM am ks v) (wr := (wC ad cs u ++ [(ad 80, .inl (cs 80, 1, .inr (.inl f)))])) (w1 := wM am ks u2) hP hD [39, 40, 41, 42, 43, 44, 45, 46, 47, 48, 49, 50, 51, 52, 53, 54, 55, 56, 57, 58, 59, 60, 61, 62, 63, 64, 65, 66, 67, 68, 69, 70, 71, 72] [0, 1, 2, 3, 4, 5, 6, 7, 8, 9, 10, 11, 12, 13, 14, 15, 16, 17, 18, 19, 20, 21, 22, 23, 24, 25, 26, 27, 28, 29, 30, 31, 32, 33, 34, 35, 36, 37, 38, 73] rfl rfl (by decide) (by decide) hk1 hFc hP1 hD1
  exact k r u2 hp H1 locs1 ls (hP2.sub [0, 1, 2, 3, 4, 5, 6, 7, 8, 9, 10, 11, 12, 13, 14, 15, 16, 17, 18, 19, 20, 21, 22, 23, 24, 25, 26, 27, 28, 29, 30, 31, 32, 33, 34, 35, 36, 37, 38, 40, 41, 42, 43, 44, 45, 46, 47, 48, 49, 50, 51, 52, 53, 54, 55, 56, 57, 58, 59, 60, 61, 62, 63, 64, 65, 66, 67, 68, 69, 70, 71, 72, 73, 39] rfl) hK (hD2.sub [0, 1, 2, 3, 4, 5, 6, 7, 8, 9, 10, 11, 12, 13, 14, 15, 16, 17, 18, 19, 20, 21, 22, 23, 24, 25, 26, 27, 28, 29, 30, 31, 32, 33, 34, 35, 36, 37, 38, 40, 41, 42, 43, 44, 45, 46, 47, 48, 49, 50, 51, 52, 53, 54, 55, 56, 57, 58, 59, 60, 61, 62, 63, 64, 65, 66, 67, 68, 69, 70, 71, 72, 73, 39] (by decide) rfl) hS1 hl
theorem v_callMv (C : CV X (ad 90, ad 91)) (hm : am 90 = ad 90 ∧ am 91 = ad 91) {y : MethodName} {bytes : ByteArray} {maxL f1 l1 idx : Nat} (na : Nat) {rt : Option FieldType} {As : List Value} {post : St → Prop} (hM : ∀ A : Nat → Prop, (∀ u : St, va_D A (wM am ks u)) → MV (am 90, am 91) (vl X) y bytes maxL rt (rmm f1 l1) (vD X) (tysM ks) A (wM am ks) v (.ref (am 0) :: As) post) (hI : Cond.instanceMethod y ∈ W0) (hSel : Cond.selects y.cls y y ∈ W0) (hCo : Cond.code y bytes maxL rt ∈ W0) (hZ : Cond.initialized y.cls ∈ W0) (hcls : y.cls = RX7)
    (hd : y.cls ≠ "java/lang/invoke/MethodHandle" ∧ y.cls ≠ "java/lang/invoke/VarHandle" ∧ (parseMethodDescriptor y.desc).map (fun d => d.parameters.length) = some na) (hna : As.length = na) (hlink : Cond.methodLink RL idx y ∈ W0) (hroom : f1 + 1 ≤ 15 ∧ 8 + (maxL + 11) + l1 ≤ 564) (hcc : cells ≤ 1104 ∧ slots ≤ 308591) (hst : (rest.map fun v => v.category).sum ≤ 8) (hdg : decode cL_law pc = .ok (.invokevirtual idx, 3))
    (k : ∀ (u2 : St), post u2 → V X (wL ad cs u am ks u2 f) (tysL cs ks) cells slots (pc + 3) lv rest) : V X (wL ad cs u am ks v f) (tysL cs ks) cells slots pc lv (As.reverse ++ .ref (am 0) :: rest) := by
  obtain ⟨p, l, e, s, m, below, meth, c, D, b, L, xs⟩ := X
  obtain ⟨hx, hb, hr, hml, hown, hts, hgd, hX, hlocks, hSG, hTH, hNC, hNW⟩ := C
  intro H locs ls hP hK hD hS hl
  have hy : y.cls ≠ "java/lang/invoke/MethodHandle" ∧ y.cls ≠ "java/lang/invoke/VarHandle" := ⟨hd.1, hd.2.1⟩
  have hgw : ∀ w ∈ (Cond.code y bytes maxL rt :: W0), ∀ (a' : Array Value) (U : State), s.WarmedH U.vm → w.before a' U = true := fun w h => (List.mem_cons.mp h).elim (fun e => by rw [e]; exact hgd _ hCo) (hgd w)
  have hsig : ∀ sig, parseMethodDescriptor y.desc = some sig → As.length = sig.parameters.length := fun sig h => by
    have h2 := hd.2.2
    rw [h] at h2
    exact hna.trans (Option.some.inj h2).symm
  have hPc : va_P D vwCl (wM am ks v) H := hP.sub [39, 40, 41, 42, 43, 44, 45, 46, 47, 48, 49, 50, 51, 52, 53, 54, 55, 56, 57, 58, 59, 60, 61, 62, 63, 64, 65, 66, 67, 68, 69, 70, 71, 72] rfl
  have hDc : va_D (aL s) (wM am ks v) := hD.sub [39, 40, 41, 42, 43, 44, 45, 46, 47, 48, 49, 50, 51, 52, 53, 54, 55, 56, 57, 58, 59, 60, 61, 62, 63, 64, 65, 66, 67, 68, 69, 70, 71, 72] (by decide) rfl
  have hKc : va_K D vwCl (tysM ks) s := hK.sub [31, 32, 33, 34, 35, 36, 37, 38, 39, 40, 41, 42, 43, 44, 45, 46, 47, 48, 49, 50, 51, 52, 53, 54, 55, 56, 57, 58, 59, 60, 61, 62, 63] rfl
  have hFc := va_free (wc := wM am ks v) hD hS (fun q h => h) [39, 40, 41, 42, 43, 44, 45, 46, 47, 48, 49, 50, 51, 52, 53, 54, 55, 56, 57, 58, 59, 60, 61, 62, 63, 64, 65, 66, 67, 68, 69, 70, 71, 72] rfl
  refine va_callv (va_runV (y := y) (As := As) (rest := rest) ⟨hx, hb, hml, hown, hts⟩ (hM (va_A (wM am ks v) H.size) (fun _ => wM_D hDc.self)) ⟨⟨rfl, rfl, hroom.1, hroom.2, hgw, List.mem_cons_self, hts _ hCo, hts _ hZ, hy, hsig, hts _ hlink⟩, hts _ hI, hts _ hSel⟩ ⟨pp_blind, by rw [hcls]; exact va_recv hK hP (ci := 7) (q0 := 39) rfl rfl, fun U hU hW => ⟨rfl, by rw [hU]; exact hPc, va_K.moved hW.alike hKc, by rw [hm.1, hm.2]; exact sg_narrow (sg_at hSG hS hU hW) hFc⟩⟩ rfl rfl hl.1 rfl (lv_room hst) hdg hcc) hS (fun q _ h => hFc q h) hFc (fun u2 t H1 locs1 ht hvm hp hB hz1 hk1 hS1 => ?_)
  obtain ⟨hP1, hK1⟩ := hB
  rw [ht] at hP1
  have hD1 : va_D (va_A (wM am ks v) H.size) (wM am ks u2) := wM_D hDc.self
  obtain ⟨hP2, hD2⟩ := va_join (wc := wM am ks v) (wr := (wC ad cs u ++ [(ad 80, .inl (cs 80, 1, .inr (.inl f)))])) (w1 := wM am ks u2) hP hD [39, 40, 41, 42, 43, 44, 45, 46, 47, 48, 49, 50, 51, 52, 53, 54, 55, 56, 57, 58, 59, 60, 61, 62, 63, 64, 65, 66, 67, 68, 69, 70, 71, 72] [0, 1, 2, 3, 4, 5, 6, 7, 8, 9, 10, 11, 12, 13, 14, 15, 16, 17, 18, 19, 20, 21, 22, 23, 24, 25, 26, 27, 28, 29, 30, 31, 32, 33, 34, 35, 36, 37, 38, 73] rfl rfl (by decide) (by decide) hk1 hFc hP1 hD1
  exact k u2 hp H1 locs1 ls (hP2.sub [0, 1, 2, 3, 4, 5, 6, 7, 8, 9, 10, 11, 12, 13, 14, 15, 16, 17, 18, 19, 20, 21, 22, 23, 24, 25, 26, 27, 28, 29, 30, 31, 32, 33, 34, 35, 36, 37, 38, 40, 41, 42, 43, 44, 45, 46, 47, 48, 49, 50, 51, 52, 53, 54, 55, 56, 57, 58, 59, 60, 61, 62, 63, 64, 65, 66, 67, 68, 69, 70, 71, 72, 73, 39] rfl) hK (hD2.sub [0, 1, 2, 3, 4, 5, 6, 7, 8, 9, 10, 11, 12, 13, 14, 15, 16, 17, 18, 19, 20, 21, 22, 23, 24, 25, 26, 27, 28, 29, 30, 31, 32, 33, 34, 35, 36, 37, 38, 40, 41, 42, 43, 44, 45, 46, 47, 48, 49, 50, 51, 52, 53, 54, 55, 56, 57, 58, 59, 60, 61, 62, 63, 64, 65, 66, 67, 68, 69, 70, 71, 72, 73, 39] (by decide) rfl) hS1 hl
theorem v_read (C : CV X (ad 90, ad 91)) {idx : Nat} {post : Int32 → Bool → St → Prop} (hw : wp_X6_read u post) (hlink : Cond.methodLink RL idx yX6_read ∈ W0) (hcc : cells ≤ 1104 ∧ slots ≤ 308591) (hst : (rest.map fun v => v.category).sum ≤ 8) (hdg : decode cL_law pc = .ok (.invokevirtual idx, 3))
    (k : ∀ (r : Int32) (z : Bool) (u2 : St), post r z u2 → V X (wL (adS z ad) (adS z cs) u2 am ks v f) (tysL (adS z cs) ks) cells slots (pc + 3) lv (.int r :: rest)) : V X (wL ad cs u am ks v f) (tysL cs ks) cells slots pc lv (.ref (ad 0) :: rest) := by
  obtain ⟨p, l, e, s, m, below, meth, c, D, b, L, xs⟩ := X
  obtain ⟨hx, hb, hr, hml, hown, hts, hgd, hX, hlocks, hSG, hTH, hNC, hNW⟩ := C
  intro H locs ls hP hK hD hS hl
  have hgw : ∀ w ∈ (Cond.code yX6_read cX6_read 2 (some .int) :: W0), ∀ (a' : Array Value) (U : State), s.WarmedH U.vm → w.before a' U = true := fun w h => (List.mem_cons.mp h).elim (fun e => by rw [e]; exact hgd _ mC_X6_read) (hgd w)
  have hsig : ∀ sig, parseMethodDescriptor yX6_read.desc = some sig → 0 = sig.parameters.length := fun sig h => by
    have h2 : (parseMethodDescriptor yX6_read.desc).map (fun d => d.parameters.length) = some 0 := by decide +kernel
    rw [h] at h2
    exact (Option.some.inj h2).symm
  have hPc : va_P D vwCl (wC ad cs u) H := hP.sub [0, 1, 2, 3, 4, 5, 6, 7, 8, 9, 10, 11, 12, 13, 14, 15, 16, 17, 18, 19, 20, 21, 22, 23, 24, 25, 26, 27, 28, 29, 30, 31, 32, 33, 34, 35, 36, 37, 38] rfl
  have hDc : va_D (aL s) (wC ad cs u) := hD.sub [0, 1, 2, 3, 4, 5, 6, 7, 8, 9, 10, 11, 12, 13, 14, 15, 16, 17, 18, 19, 20, 21, 22, 23, 24, 25, 26, 27, 28, 29, 30, 31, 32, 33, 34, 35, 36, 37, 38] (by decide) rfl
  have hKc : va_K D vwCl (tysC cs) s := hK.sub [0, 1, 2, 3, 4, 5, 6, 7, 8, 9, 10, 11, 12, 13, 14, 15, 16, 17, 18, 19, 20, 21, 22, 23, 24, 25, 26, 27, 28, 29, 30] rfl
  have hFc := va_free (wc := wC ad cs u) hD hS (fun q h => h) [0, 1, 2, 3, 4, 5, 6, 7, 8, 9, 10, 11, 12, 13, 14, 15, 16, 17, 18, 19, 20, 21, 22, 23, 24, 25, 26, 27, 28, 29, 30, 31, 32, 33, 34, 35, 36, 37, 38] rfl
  refine va_calli (va_runV (y := yX6_read) (As := []) (rest := rest) ⟨hx, hb, hml, hown, hts⟩ (c_X6_read (A := va_A (wC ad cs u) H.size) (fun _ => wC_D hDc.self) u post hw) ⟨⟨rfl, rfl, by decide, by decide, hgw, List.mem_cons_self, hts _ mC_X6_read, hts _ mZ_X6, by decide +kernel, hsig, hts _ hlink⟩, hts _ mI_X6_read, hts _ mS_X6_read⟩ ⟨pp_blind, va_recv hK hP (ci := 6) (q0 := 0) rfl rfl, fun U hU hW => ⟨rfl, by rw [hU]; exact hPc, va_K.moved hW.alike hKc, sg_narrow (sg_at hSG hS hU hW) hFc⟩⟩ rfl rfl hl.1 rfl (lv_room hst) hdg hcc) hS (fun q _ h => hFc q h) hFc (fun r q2 t H1 locs1 ht hvm hp hB hz1 hk1 hS1 => ?_)
  obtain ⟨z, u2⟩ := q2
  obtain ⟨hP1, hK1⟩ := hB
  rw [ht] at hP1
  cases z with
  | false =>
    have hD1 : va_D (va_A (wC ad cs u) H.size) (wC ad cs u2) := wC_D hDc.self
    obtain ⟨hP2, hD2⟩ := va_join (wc := wC ad cs u) (wr := (wM am ks v ++ [(ad 80, .inl (cs 80, 1, .inr (.inl f)))])) (w1 := wC ad cs u2) hP hD [0, 1, 2, 3, 4, 5, 6, 7, 8, 9, 10, 11, 12, 13, 14, 15, 16, 17, 18, 19, 20, 21, 22, 23, 24, 25, 26, 27, 28, 29, 30, 31, 32, 33, 34, 35, 36, 37, 38] [39, 40, 41, 42, 43, 44, 45, 46, 47, 48, 49, 50, 51, 52, 53, 54, 55, 56, 57, 58, 59, 60, 61, 62, 63, 64, 65, 66, 67, 68, 69, 70, 71, 72, 73] rfl rfl (by decide) (by decide) hk1 hFc hP1 hD1
    exact k r false u2 hp H1 locs1 ls (hP2.sub [35, 36, 37, 38, 39, 40, 41, 42, 43, 44, 45, 46, 47, 48, 49, 50, 51, 52, 53, 54, 55, 56, 57, 58, 59, 60, 61, 62, 63, 64, 65, 66, 67, 68, 69, 70, 71, 72, 73, 0, 1, 2, 3, 4, 5, 6, 7, 8, 9, 10, 11, 12, 13, 14, 15, 16, 17, 18, 19, 20, 21, 22, 23, 24, 25, 26, 27, 28, 29, 30, 31, 32, 33, 34] rfl) hK (hD2.sub [35, 36, 37, 38, 39, 40, 41, 42, 43, 44, 45, 46, 47, 48, 49, 50, 51, 52, 53, 54, 55, 56, 57, 58, 59, 60, 61, 62, 63, 64, 65, 66, 67, 68, 69, 70, 71, 72, 73, 0, 1, 2, 3, 4, 5, 6, 7, 8, 9, 10, 11, 12, 13, 14, 15, 16, 17, 18, 19, 20, 21, 22, 23, 24, 25, 26, 27, 28, 29, 30, 31, 32, 33, 34] (by decide) rfl) hS1 hl
  | true =>
    have hD1 : va_D (va_A (wC ad cs u) H.size) (wC (adS true ad) (adS true cs) u2) := wC_D (u := swU u) (va_D.sub (wX_D (ra := ad 4) (ma := ad 3) (hDc.self (sz := H.size))) [0, 1, 2, 4, 3, 5, 6, 7, 8, 9, 10, 11, 12, 13, 14, 22, 23, 24, 25, 26, 27, 28, 15, 16, 17, 18, 19, 20, 21, 29, 30, 31, 32, 33, 34, 35, 36, 37, 38] (by decide) rfl)
    obtain ⟨hP2, hD2⟩ := va_join (wc := wC ad cs u) (wr := (wM am ks v ++ [(ad 80, .inl (cs 80, 1, .inr (.inl f)))])) (w1 := wC (adS true ad) (adS true cs) u2) hP hD [0, 1, 2, 3, 4, 5, 6, 7, 8, 9, 10, 11, 12, 13, 14, 15, 16, 17, 18, 19, 20, 21, 22, 23, 24, 25, 26, 27, 28, 29, 30, 31, 32, 33, 34, 35, 36, 37, 38] [39, 40, 41, 42, 43, 44, 45, 46, 47, 48, 49, 50, 51, 52, 53, 54, 55, 56, 57, 58, 59, 60, 61, 62, 63, 64, 65, 66, 67, 68, 69, 70, 71, 72, 73] rfl rfl (by decide) (by decide) hk1 hFc hP1 hD1
    exact k r true u2 hp H1 locs1 ls (hP2.sub [35, 36, 37, 38, 39, 40, 41, 42, 43, 44, 45, 46, 47, 48, 49, 50, 51, 52, 53, 54, 55, 56, 57, 58, 59, 60, 61, 62, 63, 64, 65, 66, 67, 68, 69, 70, 71, 72, 73, 0, 1, 2, 3, 4, 5, 6, 7, 8, 9, 10, 11, 12, 13, 14, 15, 16, 17, 18, 19, 20, 21, 22, 23, 24, 25, 26, 27, 28, 29, 30, 31, 32, 33, 34] rfl) (hK.sub [0, 1, 2, 3, 4, 5, 6, 14, 15, 16, 17, 18, 19, 20, 7, 8, 9, 10, 11, 12, 13, 21, 22, 23, 24, 25, 26, 27, 28, 29, 30, 31, 32, 33, 34, 35, 36, 37, 38, 39, 40, 41, 42, 43, 44, 45, 46, 47, 48, 49, 50, 51, 52, 53, 54, 55, 56, 57, 58, 59, 60, 61, 62, 63, 64] rfl) (hD2.sub [35, 36, 37, 38, 39, 40, 41, 42, 43, 44, 45, 46, 47, 48, 49, 50, 51, 52, 53, 54, 55, 56, 57, 58, 59, 60, 61, 62, 63, 64, 65, 66, 67, 68, 69, 70, 71, 72, 73, 0, 1, 2, 3, 4, 5, 6, 7, 8, 9, 10, 11, 12, 13, 14, 15, 16, 17, 18, 19, 20, 21, 22, 23, 24, 25, 26, 27, 28, 29, 30, 31, 32, 33, 34] (by decide) rfl) hS1 hl
theorem v_h_feed (C : CV X (ad 90, ad 91)) (hl1 : (vl X).stackTraces = false) {idx : Nat} {x1 : Int32} {x2 : Int32} {x3 : Int32} {x4 : Int32} {x5 : Int32} {post : Int32 → St × (Nat → Int64) → Prop} (hw : wp_X6_feed u x1 x2 x3 x4 x5 (fun r u2 => post 0 (u2, vp_updL f 0 r.toInt64)) (fun E u2 => (E = "java/lang/IllegalArgumentException" ∧ post 1 (u2, f)) ∨ (E = "java/lang/UnsupportedOperationException" ∧ post 2 (u2, f)))) (hlink : Cond.methodLink RL idx yL_feed ∈ W0) (hcc : cells + 1 ≤ 1104 ∧ slots + 6 ≤ 308591) (hst : (rest.map fun v => v.category).sum ≤ 8) (hdg : decode cL_law pc = .ok (.invokestatic idx, 3))
    (k : ∀ (r : Int32) (u2 : St) (f2 : Nat → Int64), post r (u2, f2) → V X (wL ad cs u2 am ks v f2) (tysL cs ks) (cells + 1) (slots + 6) (pc + 3) lv (.int r :: rest)) : V X (wL ad cs u am ks v f) (tysL cs ks) cells slots pc lv (.ref (ad 80) :: .int x5 :: .int x4 :: .int x3 :: .int x2 :: .int x1 :: .ref (ad 0) :: rest) := by
  obtain ⟨p, l, e, s, m, below, meth, c, D, b, L, xs⟩ := X
  obtain ⟨hx, hb, hr, hml, hown, hts, hgd, hX, hlocks, hSG, hTH, hNC, hNW⟩ := C
  intro H locs ls hP hK hD hS hl
  have hgw : ∀ w ∈ (Cond.codeWith yL_feed cL_feed 8 (some .int) [(0, 16, 19, 13), (0, 16, 23, 15)] :: W0), ∀ (a' : Array Value) (U : State), s.WarmedH U.vm → w.before a' U = true := fun w h => (List.mem_cons.mp h).elim (fun e => by rw [e]; exact hgd _ mH_L_feed) (hgd w)
  have hsig : ∀ sig, parseMethodDescriptor yL_feed.desc = some sig → 7 = sig.parameters.length := fun sig h => by
    have h2 : (parseMethodDescriptor yL_feed.desc).map (fun d => d.parameters.length) = some 7 := by decide +kernel
    rw [h] at h2
    exact (Option.some.inj h2).symm
  have hPc : va_P D vwCl (wH ad cs (u, f)) H := hP.sub [0, 1, 2, 3, 4, 5, 6, 7, 8, 9, 10, 11, 12, 13, 14, 15, 16, 17, 18, 19, 20, 21, 22, 23, 24, 25, 26, 27, 28, 29, 30, 31, 32, 33, 34, 35, 36, 37, 38, 73] rfl
  have hDc : va_D (aL s) (wH ad cs (u, f)) := hD.sub [0, 1, 2, 3, 4, 5, 6, 7, 8, 9, 10, 11, 12, 13, 14, 15, 16, 17, 18, 19, 20, 21, 22, 23, 24, 25, 26, 27, 28, 29, 30, 31, 32, 33, 34, 35, 36, 37, 38, 73] (by decide) rfl
  have hKc : va_K D vwCl (tysH cs) s := hK.sub [0, 1, 2, 3, 4, 5, 6, 7, 8, 9, 10, 11, 12, 13, 14, 15, 16, 17, 18, 19, 20, 21, 22, 23, 24, 25, 26, 27, 28, 29, 30, 64] rfl
  have hFc := va_free (wc := wH ad cs (u, f)) hD hS (fun q h => h) [0, 1, 2, 3, 4, 5, 6, 7, 8, 9, 10, 11, 12, 13, 14, 15, 16, 17, 18, 19, 20, 21, 22, 23, 24, 25, 26, 27, 28, 29, 30, 31, 32, 33, 34, 35, 36, 37, 38, 73] rfl
  refine vx_calli (vx_runSX (y := yL_feed) (As := [.ref (ad 0), .int x1, .int x2, .int x3, .int x4, .int x5, .ref (ad 80)]) (rest := rest) ⟨hx, hb, hml, hown, hts⟩ (h_feed (A := va_A (wH ad cs (u, f)) H.size) hl1 u f hDc.self x1 x2 x3 x4 x5 post hw) ⟨⟨rfl, rfl, by decide, by decide, hgw, List.mem_cons_self⟩, hts _ mH_L_feed, hts _ mZ_L, by decide +kernel, hsig, hts _ hlink, hts _ mT_L_feed⟩ ⟨ph_blind, fun U hU hW => ⟨rfl, by rw [hU]; exact hPc, va_K.moved hW.alike hKc, sg_narrow (sg_at hSG hS hU hW) hFc, th_narrow (th_at hTH hS hU hW) hFc, ncx_at hNC hW.alike⟩⟩ rfl rfl hl.1 rfl (lv_room hst) hdg hcc) hS (fun q _ h => hFc q h) hFc (fun q _ h => hFc q h) (fun E ce q9 u3 t H1 locs1 ht hvm hp hB hz1 hk1 hS1 hce hcv hcl => hp.elim) (fun r q2 t H1 locs1 ht hvm hp hB hz1 hk1 hS1 => ?_)
  obtain ⟨u2, f2⟩ := q2
  obtain ⟨hP1, hK1⟩ := hB
  rw [ht] at hP1
  have hD1 : va_D (va_A (wH ad cs (u, f)) H.size) (wH ad cs (u2, f2)) := wH_D hDc.self
  obtain ⟨hP2, hD2⟩ := va_join (wc := wH ad cs (u, f)) (wr := wM am ks v) (w1 := wH ad cs (u2, f2)) hP hD [0, 1, 2, 3, 4, 5, 6, 7, 8, 9, 10, 11, 12, 13, 14, 15, 16, 17, 18, 19, 20, 21, 22, 23, 24, 25, 26, 27, 28, 29, 30, 31, 32, 33, 34, 35, 36, 37, 38, 73] [39, 40, 41, 42, 43, 44, 45, 46, 47, 48, 49, 50, 51, 52, 53, 54, 55, 56, 57, 58, 59, 60, 61, 62, 63, 64, 65, 66, 67, 68, 69, 70, 71, 72] rfl rfl (by decide) (by decide) hk1 hFc hP1 hD1
  exact k r u2 f2 hp H1 locs1 ls (hP2.sub [34, 35, 36, 37, 38, 39, 40, 41, 42, 43, 44, 45, 46, 47, 48, 49, 50, 51, 52, 53, 54, 55, 56, 57, 58, 59, 60, 61, 62, 63, 64, 65, 66, 67, 68, 69, 70, 71, 72, 0, 1, 2, 3, 4, 5, 6, 7, 8, 9, 10, 11, 12, 13, 14, 15, 16, 17, 18, 19, 20, 21, 22, 23, 24, 25, 26, 27, 28, 29, 30, 31, 32, 33, 73] rfl) hK (hD2.sub [34, 35, 36, 37, 38, 39, 40, 41, 42, 43, 44, 45, 46, 47, 48, 49, 50, 51, 52, 53, 54, 55, 56, 57, 58, 59, 60, 61, 62, 63, 64, 65, 66, 67, 68, 69, 70, 71, 72, 0, 1, 2, 3, 4, 5, 6, 7, 8, 9, 10, 11, 12, 13, 14, 15, 16, 17, 18, 19, 20, 21, 22, 23, 24, 25, 26, 27, 28, 29, 30, 31, 32, 33, 73] (by decide) rfl) hS1 hl
theorem v_h_run (C : CV X (ad 90, ad 91)) (hl1 : (vl X).stackTraces = false) {idx : Nat} {x1 : Int32} {x2 : Int32} {x3 : Int32} {x4 : Int32} {post : Int32 → St × (Nat → Int64) → Prop} (hw : wp_X6_run u x1 x2 x3 x4 (fun r u2 => post 0 (u2, vp_updL f 0 r.toInt64)) (fun E u2 => (E = "java/lang/IllegalStateException" ∧ post 1 (u2, f)) ∨ (E = "java/lang/IllegalArgumentException" ∧ post 2 (u2, f)))) (hlink : Cond.methodLink RL idx yL_run ∈ W0) (hcc : cells + 1 ≤ 1104 ∧ slots + 6 ≤ 308591) (hst : (rest.map fun v => v.category).sum ≤ 8) (hdg : decode cL_law pc = .ok (.invokestatic idx, 3))
    (k : ∀ (r : Int32) (u2 : St) (f2 : Nat → Int64), post r (u2, f2) → V X (wL ad cs u2 am ks v f2) (tysL cs ks) (cells + 1) (slots + 6) (pc + 3) lv (.int r :: rest)) : V X (wL ad cs u am ks v f) (tysL cs ks) cells slots pc lv (.ref (ad 80) :: .int x4 :: .int x3 :: .int x2 :: .int x1 :: .ref (ad 0) :: rest) := by
  obtain ⟨p, l, e, s, m, below, meth, c, D, b, L, xs⟩ := X
  obtain ⟨hx, hb, hr, hml, hown, hts, hgd, hX, hlocks, hSG, hTH, hNC, hNW⟩ := C
  intro H locs ls hP hK hD hS hl
  have hgw : ∀ w ∈ (Cond.codeWith yL_run cL_run 7 (some .int) [(0, 14, 17, 21), (0, 14, 21, 13)] :: W0), ∀ (a' : Array Value) (U : State), s.WarmedH U.vm → w.before a' U = true := fun w h => (List.mem_cons.mp h).elim (fun e => by rw [e]; exact hgd _ mH_L_run) (hgd w)
  have hsig : ∀ sig, parseMethodDescriptor yL_run.desc = some sig → 6 = sig.parameters.length := fun sig h => by
    have h2 : (parseMethodDescriptor yL_run.desc).map (fun d => d.parameters.length) = some 6 := by decide +kernel
    rw [h] at h2
    exact (Option.some.inj h2).symm
  have hPc : va_P D vwCl (wH ad cs (u, f)) H := hP.sub [0, 1, 2, 3, 4, 5, 6, 7, 8, 9, 10, 11, 12, 13, 14, 15, 16, 17, 18, 19, 20, 21, 22, 23, 24, 25, 26, 27, 28, 29, 30, 31, 32, 33, 34, 35, 36, 37, 38, 73] rfl
  have hDc : va_D (aL s) (wH ad cs (u, f)) := hD.sub [0, 1, 2, 3, 4, 5, 6, 7, 8, 9, 10, 11, 12, 13, 14, 15, 16, 17, 18, 19, 20, 21, 22, 23, 24, 25, 26, 27, 28, 29, 30, 31, 32, 33, 34, 35, 36, 37, 38, 73] (by decide) rfl
  have hKc : va_K D vwCl (tysH cs) s := hK.sub [0, 1, 2, 3, 4, 5, 6, 7, 8, 9, 10, 11, 12, 13, 14, 15, 16, 17, 18, 19, 20, 21, 22, 23, 24, 25, 26, 27, 28, 29, 30, 64] rfl
  have hFc := va_free (wc := wH ad cs (u, f)) hD hS (fun q h => h) [0, 1, 2, 3, 4, 5, 6, 7, 8, 9, 10, 11, 12, 13, 14, 15, 16, 17, 18, 19, 20, 21, 22, 23, 24, 25, 26, 27, 28, 29, 30, 31, 32, 33, 34, 35, 36, 37, 38, 73] rfl
  refine vx_calli (vx_runSX (y := yL_run) (As := [.ref (ad 0), .int x1, .int x2, .int x3, .int x4, .ref (ad 80)]) (rest := rest) ⟨hx, hb, hml, hown, hts⟩ (h_run (A := va_A (wH ad cs (u, f)) H.size) hl1 u f hDc.self x1 x2 x3 x4 post hw) ⟨⟨rfl, rfl, by decide, by decide, hgw, List.mem_cons_self⟩, hts _ mH_L_run, hts _ mZ_L, by decide +kernel, hsig, hts _ hlink, hts _ mT_L_run⟩ ⟨ph_blind, fun U hU hW => ⟨rfl, by rw [hU]; exact hPc, va_K.moved hW.alike hKc, sg_narrow (sg_at hSG hS hU hW) hFc, th_narrow (th_at hTH hS hU hW) hFc, ncx_at hNC hW.alike⟩⟩ rfl rfl hl.1 rfl (lv_room hst) hdg hcc) hS (fun q _ h => hFc q h) hFc (fun q _ h => hFc q h) (fun E ce q9 u3 t H1 locs1 ht hvm hp hB hz1 hk1 hS1 hce hcv hcl => hp.elim) (fun r q2 t H1 locs1 ht hvm hp hB hz1 hk1 hS1 => ?_)
  obtain ⟨u2, f2⟩ := q2
  obtain ⟨hP1, hK1⟩ := hB
  rw [ht] at hP1
  have hD1 : va_D (va_A (wH ad cs (u, f)) H.size) (wH ad cs (u2, f2)) := wH_D hDc.self
  obtain ⟨hP2, hD2⟩ := va_join (wc := wH ad cs (u, f)) (wr := wM am ks v) (w1 := wH ad cs (u2, f2)) hP hD [0, 1, 2, 3, 4, 5, 6, 7, 8, 9, 10, 11, 12, 13, 14, 15, 16, 17, 18, 19, 20, 21, 22, 23, 24, 25, 26, 27, 28, 29, 30, 31, 32, 33, 34, 35, 36, 37, 38, 73] [39, 40, 41, 42, 43, 44, 45, 46, 47, 48, 49, 50, 51, 52, 53, 54, 55, 56, 57, 58, 59, 60, 61, 62, 63, 64, 65, 66, 67, 68, 69, 70, 71, 72] rfl rfl (by decide) (by decide) hk1 hFc hP1 hD1
  exact k r u2 f2 hp H1 locs1 ls (hP2.sub [34, 35, 36, 37, 38, 39, 40, 41, 42, 43, 44, 45, 46, 47, 48, 49, 50, 51, 52, 53, 54, 55, 56, 57, 58, 59, 60, 61, 62, 63, 64, 65, 66, 67, 68, 69, 70, 71, 72, 0, 1, 2, 3, 4, 5, 6, 7, 8, 9, 10, 11, 12, 13, 14, 15, 16, 17, 18, 19, 20, 21, 22, 23, 24, 25, 26, 27, 28, 29, 30, 31, 32, 33, 73] rfl) hK (hD2.sub [34, 35, 36, 37, 38, 39, 40, 41, 42, 43, 44, 45, 46, 47, 48, 49, 50, 51, 52, 53, 54, 55, 56, 57, 58, 59, 60, 61, 62, 63, 64, 65, 66, 67, 68, 69, 70, 71, 72, 0, 1, 2, 3, 4, 5, 6, 7, 8, 9, 10, 11, 12, 13, 14, 15, 16, 17, 18, 19, 20, 21, 22, 23, 24, 25, 26, 27, 28, 29, 30, 31, 32, 33, 73] (by decide) rfl) hS1 hl
theorem v_h_count (C : CV X (ad 90, ad 91)) (hl1 : (vl X).stackTraces = false) {idx : Nat} {x1 : Int32} {post : Int32 → St × (Nat → Int64) → Prop} (hw : wp_X6_count u x1 (fun r u2 => post 0 (u2, vp_updL f 0 r.toInt64)) (fun E u2 => (E = "java/lang/IndexOutOfBoundsException" ∧ post 1 (u2, f)))) (hlink : Cond.methodLink RL idx yL_count ∈ W0) (hcc : cells + 1 ≤ 1104 ∧ slots + 6 ≤ 308591) (hst : (rest.map fun v => v.category).sum ≤ 8) (hdg : decode cL_law pc = .ok (.invokestatic idx, 3))
    (k : ∀ (r : Int32) (u2 : St) (f2 : Nat → Int64), post r (u2, f2) → V X (wL ad cs u2 am ks v f2) (tysL cs ks) (cells + 1) (slots + 6) (pc + 3) lv (.int r :: rest)) : V X (wL ad cs u am ks v f) (tysL cs ks) cells slots pc lv (.ref (ad 80) :: .int x1 :: .ref (ad 0) :: rest) := by
  obtain ⟨p, l, e, s, m, below, meth, c, D, b, L, xs⟩ := X
  obtain ⟨hx, hb, hr, hml, hown, hts, hgd, hX, hlocks, hSG, hTH, hNC, hNW⟩ := C
  intro H locs ls hP hK hD hS hl
  have hgw : ∀ w ∈ (Cond.codeWith yL_count cL_count 4 (some .int) [(0, 9, 12, 27)] :: W0), ∀ (a' : Array Value) (U : State), s.WarmedH U.vm → w.before a' U = true := fun w h => (List.mem_cons.mp h).elim (fun e => by rw [e]; exact hgd _ mH_L_count) (hgd w)
  have hsig : ∀ sig, parseMethodDescriptor yL_count.desc = some sig → 3 = sig.parameters.length := fun sig h => by
    have h2 : (parseMethodDescriptor yL_count.desc).map (fun d => d.parameters.length) = some 3 := by decide +kernel
    rw [h] at h2
    exact (Option.some.inj h2).symm
  have hPc : va_P D vwCl (wH ad cs (u, f)) H := hP.sub [0, 1, 2, 3, 4, 5, 6, 7, 8, 9, 10, 11, 12, 13, 14, 15, 16, 17, 18, 19, 20, 21, 22, 23, 24, 25, 26, 27, 28, 29, 30, 31, 32, 33, 34, 35, 36, 37, 38, 73] rfl
  have hDc : va_D (aL s) (wH ad cs (u, f)) := hD.sub [0, 1, 2, 3, 4, 5, 6, 7, 8, 9, 10, 11, 12, 13, 14, 15, 16, 17, 18, 19, 20, 21, 22, 23, 24, 25, 26, 27, 28, 29, 30, 31, 32, 33, 34, 35, 36, 37, 38, 73] (by decide) rfl
  have hKc : va_K D vwCl (tysH cs) s := hK.sub [0, 1, 2, 3, 4, 5, 6, 7, 8, 9, 10, 11, 12, 13, 14, 15, 16, 17, 18, 19, 20, 21, 22, 23, 24, 25, 26, 27, 28, 29, 30, 64] rfl
  have hFc := va_free (wc := wH ad cs (u, f)) hD hS (fun q h => h) [0, 1, 2, 3, 4, 5, 6, 7, 8, 9, 10, 11, 12, 13, 14, 15, 16, 17, 18, 19, 20, 21, 22, 23, 24, 25, 26, 27, 28, 29, 30, 31, 32, 33, 34, 35, 36, 37, 38, 73] rfl
  refine vx_calli (vx_runSX (y := yL_count) (As := [.ref (ad 0), .int x1, .ref (ad 80)]) (rest := rest) ⟨hx, hb, hml, hown, hts⟩ (h_count (A := va_A (wH ad cs (u, f)) H.size) hl1 u f hDc.self x1 post hw) ⟨⟨rfl, rfl, by decide, by decide, hgw, List.mem_cons_self⟩, hts _ mH_L_count, hts _ mZ_L, by decide +kernel, hsig, hts _ hlink, hts _ mT_L_count⟩ ⟨ph_blind, fun U hU hW => ⟨rfl, by rw [hU]; exact hPc, va_K.moved hW.alike hKc, sg_narrow (sg_at hSG hS hU hW) hFc, th_narrow (th_at hTH hS hU hW) hFc, ncx_at hNC hW.alike⟩⟩ rfl rfl hl.1 rfl (lv_room hst) hdg hcc) hS (fun q _ h => hFc q h) hFc (fun q _ h => hFc q h) (fun E ce q9 u3 t H1 locs1 ht hvm hp hB hz1 hk1 hS1 hce hcv hcl => hp.elim) (fun r q2 t H1 locs1 ht hvm hp hB hz1 hk1 hS1 => ?_)
  obtain ⟨u2, f2⟩ := q2
  obtain ⟨hP1, hK1⟩ := hB
  rw [ht] at hP1
  have hD1 : va_D (va_A (wH ad cs (u, f)) H.size) (wH ad cs (u2, f2)) := wH_D hDc.self
  obtain ⟨hP2, hD2⟩ := va_join (wc := wH ad cs (u, f)) (wr := wM am ks v) (w1 := wH ad cs (u2, f2)) hP hD [0, 1, 2, 3, 4, 5, 6, 7, 8, 9, 10, 11, 12, 13, 14, 15, 16, 17, 18, 19, 20, 21, 22, 23, 24, 25, 26, 27, 28, 29, 30, 31, 32, 33, 34, 35, 36, 37, 38, 73] [39, 40, 41, 42, 43, 44, 45, 46, 47, 48, 49, 50, 51, 52, 53, 54, 55, 56, 57, 58, 59, 60, 61, 62, 63, 64, 65, 66, 67, 68, 69, 70, 71, 72] rfl rfl (by decide) (by decide) hk1 hFc hP1 hD1
  exact k r u2 f2 hp H1 locs1 ls (hP2.sub [34, 35, 36, 37, 38, 39, 40, 41, 42, 43, 44, 45, 46, 47, 48, 49, 50, 51, 52, 53, 54, 55, 56, 57, 58, 59, 60, 61, 62, 63, 64, 65, 66, 67, 68, 69, 70, 71, 72, 0, 1, 2, 3, 4, 5, 6, 7, 8, 9, 10, 11, 12, 13, 14, 15, 16, 17, 18, 19, 20, 21, 22, 23, 24, 25, 26, 27, 28, 29, 30, 31, 32, 33, 73] rfl) hK (hD2.sub [34, 35, 36, 37, 38, 39, 40, 41, 42, 43, 44, 45, 46, 47, 48, 49, 50, 51, 52, 53, 54, 55, 56, 57, 58, 59, 60, 61, 62, 63, 64, 65, 66, 67, 68, 69, 70, 71, 72, 0, 1, 2, 3, 4, 5, 6, 7, 8, 9, 10, 11, 12, 13, 14, 15, 16, 17, 18, 19, 20, 21, 22, 23, 24, 25, 26, 27, 28, 29, 30, 31, 32, 33, 73] (by decide) rfl) hS1 hl
theorem v_h_definition (C : CV X (ad 90, ad 91)) (hl1 : (vl X).stackTraces = false) {idx : Nat} {x1 : Int32} {x2 : Int32} {post : Int32 → St × (Nat → Int64) → Prop} (hw : wp_X6_definition u x1 x2 (fun r u2 => post 0 (u2, vp_updL f 0 r.toInt64)) (fun E u2 => (E = "java/lang/IndexOutOfBoundsException" ∧ post 1 (u2, f)))) (hlink : Cond.methodLink RL idx yL_definition ∈ W0) (hcc : cells + 1 ≤ 1104 ∧ slots + 6 ≤ 308591) (hst : (rest.map fun v => v.category).sum ≤ 8) (hdg : decode cL_law pc = .ok (.invokestatic idx, 3))
    (k : ∀ (r : Int32) (u2 : St) (f2 : Nat → Int64), post r (u2, f2) → V X (wL ad cs u2 am ks v f2) (tysL cs ks) (cells + 1) (slots + 6) (pc + 3) lv (.int r :: rest)) : V X (wL ad cs u am ks v f) (tysL cs ks) cells slots pc lv (.ref (ad 80) :: .int x2 :: .int x1 :: .ref (ad 0) :: rest) := by
  obtain ⟨p, l, e, s, m, below, meth, c, D, b, L, xs⟩ := X
  obtain ⟨hx, hb, hr, hml, hown, hts, hgd, hX, hlocks, hSG, hTH, hNC, hNW⟩ := C
  intro H locs ls hP hK hD hS hl
  have hgw : ∀ w ∈ (Cond.codeWith yL_definition cL_definition 5 (some .int) [(0, 10, 13, 27)] :: W0), ∀ (a' : Array Value) (U : State), s.WarmedH U.vm → w.before a' U = true := fun w h => (List.mem_cons.mp h).elim (fun e => by rw [e]; exact hgd _ mH_L_definition) (hgd w)
  have hsig : ∀ sig, parseMethodDescriptor yL_definition.desc = some sig → 4 = sig.parameters.length := fun sig h => by
    have h2 : (parseMethodDescriptor yL_definition.desc).map (fun d => d.parameters.length) = some 4 := by decide +kernel
    rw [h] at h2
    exact (Option.some.inj h2).symm
  have hPc : va_P D vwCl (wH ad cs (u, f)) H := hP.sub [0, 1, 2, 3, 4, 5, 6, 7, 8, 9, 10, 11, 12, 13, 14, 15, 16, 17, 18, 19, 20, 21, 22, 23, 24, 25, 26, 27, 28, 29, 30, 31, 32, 33, 34, 35, 36, 37, 38, 73] rfl
  have hDc : va_D (aL s) (wH ad cs (u, f)) := hD.sub [0, 1, 2, 3, 4, 5, 6, 7, 8, 9, 10, 11, 12, 13, 14, 15, 16, 17, 18, 19, 20, 21, 22, 23, 24, 25, 26, 27, 28, 29, 30, 31, 32, 33, 34, 35, 36, 37, 38, 73] (by decide) rfl
  have hKc : va_K D vwCl (tysH cs) s := hK.sub [0, 1, 2, 3, 4, 5, 6, 7, 8, 9, 10, 11, 12, 13, 14, 15, 16, 17, 18, 19, 20, 21, 22, 23, 24, 25, 26, 27, 28, 29, 30, 64] rfl
  have hFc := va_free (wc := wH ad cs (u, f)) hD hS (fun q h => h) [0, 1, 2, 3, 4, 5, 6, 7, 8, 9, 10, 11, 12, 13, 14, 15, 16, 17, 18, 19, 20, 21, 22, 23, 24, 25, 26, 27, 28, 29, 30, 31, 32, 33, 34, 35, 36, 37, 38, 73] rfl
  refine vx_calli (vx_runSX (y := yL_definition) (As := [.ref (ad 0), .int x1, .int x2, .ref (ad 80)]) (rest := rest) ⟨hx, hb, hml, hown, hts⟩ (h_definition (A := va_A (wH ad cs (u, f)) H.size) hl1 u f hDc.self x1 x2 post hw) ⟨⟨rfl, rfl, by decide, by decide, hgw, List.mem_cons_self⟩, hts _ mH_L_definition, hts _ mZ_L, by decide +kernel, hsig, hts _ hlink, hts _ mT_L_definition⟩ ⟨ph_blind, fun U hU hW => ⟨rfl, by rw [hU]; exact hPc, va_K.moved hW.alike hKc, sg_narrow (sg_at hSG hS hU hW) hFc, th_narrow (th_at hTH hS hU hW) hFc, ncx_at hNC hW.alike⟩⟩ rfl rfl hl.1 rfl (lv_room hst) hdg hcc) hS (fun q _ h => hFc q h) hFc (fun q _ h => hFc q h) (fun E ce q9 u3 t H1 locs1 ht hvm hp hB hz1 hk1 hS1 hce hcv hcl => hp.elim) (fun r q2 t H1 locs1 ht hvm hp hB hz1 hk1 hS1 => ?_)
  obtain ⟨u2, f2⟩ := q2
  obtain ⟨hP1, hK1⟩ := hB
  rw [ht] at hP1
  have hD1 : va_D (va_A (wH ad cs (u, f)) H.size) (wH ad cs (u2, f2)) := wH_D hDc.self
  obtain ⟨hP2, hD2⟩ := va_join (wc := wH ad cs (u, f)) (wr := wM am ks v) (w1 := wH ad cs (u2, f2)) hP hD [0, 1, 2, 3, 4, 5, 6, 7, 8, 9, 10, 11, 12, 13, 14, 15, 16, 17, 18, 19, 20, 21, 22, 23, 24, 25, 26, 27, 28, 29, 30, 31, 32, 33, 34, 35, 36, 37, 38, 73] [39, 40, 41, 42, 43, 44, 45, 46, 47, 48, 49, 50, 51, 52, 53, 54, 55, 56, 57, 58, 59, 60, 61, 62, 63, 64, 65, 66, 67, 68, 69, 70, 71, 72] rfl rfl (by decide) (by decide) hk1 hFc hP1 hD1
  exact k r u2 f2 hp H1 locs1 ls (hP2.sub [34, 35, 36, 37, 38, 39, 40, 41, 42, 43, 44, 45, 46, 47, 48, 49, 50, 51, 52, 53, 54, 55, 56, 57, 58, 59, 60, 61, 62, 63, 64, 65, 66, 67, 68, 69, 70, 71, 72, 0, 1, 2, 3, 4, 5, 6, 7, 8, 9, 10, 11, 12, 13, 14, 15, 16, 17, 18, 19, 20, 21, 22, 23, 24, 25, 26, 27, 28, 29, 30, 31, 32, 33, 73] rfl) hK (hD2.sub [34, 35, 36, 37, 38, 39, 40, 41, 42, 43, 44, 45, 46, 47, 48, 49, 50, 51, 52, 53, 54, 55, 56, 57, 58, 59, 60, 61, 62, 63, 64, 65, 66, 67, 68, 69, 70, 71, 72, 0, 1, 2, 3, 4, 5, 6, 7, 8, 9, 10, 11, 12, 13, 14, 15, 16, 17, 18, 19, 20, 21, 22, 23, 24, 25, 26, 27, 28, 29, 30, 31, 32, 33, 73] (by decide) rfl) hS1 hl
end LAW2
