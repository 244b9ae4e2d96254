/-! 10.core: what a state is (numbers and arrays by their names), the judgement Z (the machine in a world of cells), its rows -/
abbrev St : Type := (Nat → Int32) × (Nat → Int64) × (Nat → Nat → Int32) × (Nat → Nat → Int64)
def gI (u : St) (k : Nat) : Int32 := u.1 k
def gL (u : St) (k : Nat) : Int64 := u.2.1 k
def gA (u : St) (k : Nat) : Nat → Int32 := u.2.2.1 k
def gB (u : St) (k : Nat) : Nat → Int64 := u.2.2.2 k
def sI (u : St) (k : Nat) (v : Int32) : St := (fun j => if j = k then v else u.1 j, u.2)
def sL (u : St) (k : Nat) (v : Int64) : St := (u.1, fun j => if j = k then v else u.2.1 j, u.2.2)
def sA (u : St) (k i : Nat) (v : Int32) : St := (u.1, u.2.1, fun j => if j = k then upd (u.2.2.1 j) i v else u.2.2.1 j, u.2.2.2)
def sB (u : St) (k i : Nat) (v : Int64) : St := (u.1, u.2.1, u.2.2.1, fun j => if j = k then vp_updL (u.2.2.2 j) i v else u.2.2.2 j)
abbrev ix (i : Int32) : Nat := i.toNatClampNeg
def bz (x : Int32) : Prop := x = 0 ∨ x = 1
theorem bz0 : bz 0 := Or.inl rfl
theorem bz1 : bz 1 := Or.inr rfl
theorem bz_nar {x : Int32} (h : bz x) : narrow .boolean (.int x) = .int x := by rcases h with rfl | rfl <;> rfl
theorem bz_narB {x : Int32} (h : bz x) : narrow .byte (.int x) = .int x := by rcases h with rfl | rfl <;> rfl
theorem bz_fit {x : Int32} (h : bz x) : fits .boolean (.int x) = true := by rcases h with rfl | rfl <;> rfl
/-- two ways to go on -/
def br (c A B : Prop) : Prop := (c → A) ∧ (¬ c → B)
/-- a value with a name -/
def nm {α : Type} (e : α) (P : α → Prop) : Prop := ∀ x, x = e → P x
/-- the class's one text, its signs: where it lies (the String, its bytes), unwritten; texts are packed -/
def sgL : List Int32 := [40, 41, 44, 59, 91, 93, 61, 60, 62, 43, 45, 42, 47, 37]
def SG (sg : Nat × Nat) (A : Nat → Prop) (U : State) : Prop := vk_R RX5 42 "(),;[]=<>+-*/%" sg.1 U ∧ vk_S 1 [14] [sgL] (fun _ => sg.1) (fun _ => sg.2) A U U.heap ∧ va_Z "java/lang/String" "COMPACT_STRINGS" "Z" (.int 1) A U U.heap
theorem sg_at {sg : Nat × Nat} {A : Nat → Prop} {s U : State} {H : Heap} {locs : List Loc} (h : SG sg A s) (hS : va_S A s.heap H locs) (hU : U.heap = H) (hW : s.WarmedH U.vm) : SG sg A U := by
  refine ⟨h.1.warm hW, ?_, ?_⟩
  · rw [hU]; exact (h.2.1.kept hS.2.1).moved hW.alike
  · rw [hU]; exact va_Z.moved hW.alike (va_Z.kept h.2.2 hS.2.1)
theorem sg_same {sg : Nat × Nat} {A : Nat → Prop} {U : State} {g : JFrame} {mk : MethodId} {a : Array Value} (h : SG sg A U) : SG sg A (U.calling g mk a) := ⟨vk_R.same (u := U) (U := U.calling g mk a) rfl h.1, vk_S.moved (u := U) (U := U.calling g mk a) (Vm.Alike.refl U.vm) h.2.1, va_Z.moved (u := U) (U := U.calling g mk a) (Vm.Alike.refl U.vm) h.2.2⟩
/-- the machine, the method, its code, what is to be reached, the classes' places, the arrays' classes, what may be written, locals, the class -/
abbrev XX : Type := Program × Launch × Env × Room × State × MethodId × Array Value × List Frame × Method × Code × (State → Prop) × va_G × List (ClassId × FieldType) × (Nat → Prop) × Nat × (Nat × Nat)
def Z (X : XX) (w : va_W) (pc : Nat) (lv : List (Nat × Value)) (st : List Value) : Prop :=
  match X with
  | (p, l, e, R, s, m, args, below, meth, c, Q, D, tys, A, nL, sg) => ∀ (H : Heap) (locs : List Loc) (ls : Array Slot), va_P D vwCl w H → va_S A s.heap H locs → lv_has ls nL lv → W p l e R s m args below meth c H locs 0 0 Q (F0 m pc ls st)
def Cx (X : XX) (cc : ByteArray) (own : String) (fr lo : Nat) : Prop :=
  match X with
  | (p, l, e, R, s, m, args, below, meth, c, Q, D, tys, A, nL, sg) => p.tables.exec = Jvm.exec ∧ c.code = cc ∧ c.maxLocals = nL ∧ s.vm.findClass own = some m.cls ∧ (∀ w ∈ W0, w.before args s = true) ∧ (∀ w ∈ W0, ∀ (a' : Array Value) (U : State), s.WarmedH U.vm → w.before a' U = true) ∧ (fr ≤ R.frames ∧ lo ≤ R.locals) ∧ va_K D vwCl tys s ∧ SG sg A s
def xtys (X : XX) : List (ClassId × FieldType) := match X with
  | (_, _, _, _, _, _, _, _, _, _, _, _, tys, _, _, _) => tys
def xA (X : XX) : Nat → Prop := match X with
  | (_, _, _, _, _, _, _, _, _, _, _, _, _, A, _, _) => A
def xnL (X : XX) : Nat := match X with
  | (_, _, _, _, _, _, _, _, _, _, _, _, _, _, nL, _) => nL
def xsg (X : XX) : Nat × Nat := match X with
  | (_, _, _, _, _, _, _, _, _, _, _, _, _, _, _, sg) => sg
section CORE
variable {X : XX} {cc : ByteArray} {own : String} {fr lo pc : Nat} {w : va_W} {lv lv' : List (Nat × Value)} {st : List Value}
/-- locals in another order, or fewer -/
theorem z_lv (ks : List Nat) (hl : lv_pick lv ks = lv') (k : Z X w pc lv' st) : Z X w pc lv st := by
  obtain ⟨p, l, e, R, s, m, args, below, meth, c, Q, D, tys, A, nL, sg⟩ := X
  exact fun H locs ls hP hS h => k H locs ls hP hS (lv_sub h ks hl)
theorem z_eq {w' : va_W} (h : w = w') (k : Z X w' pc lv st) : Z X w pc lv st := h ▸ k
theorem z_iconst (C : Cx X cc own fr lo) {n : Int} {v : Int32} (hdg : decode cc pc = .ok (.iconst n, 1)) (hv : Int32.ofInt n = v)
    (k : Z X w (pc + 1) lv (.int v :: st)) : Z X w pc lv st := by
  obtain ⟨p, l, e, R, s, m, args, below, meth, c, Q, D, tys, A, nL, sg⟩ := X
  obtain ⟨hx, hb, hml, hown, hts, hgd, hR, hK, hSG⟩ := C
  intro H locs ls hP hS hl
  exact lv_iconst hx hb hdg hv (k H locs ls hP hS hl)
theorem z_bipush (C : Cx X cc own fr lo) {n : Int} {v : Int32} (hdg : decode cc pc = .ok (.bipush n, 2)) (hv : (Int8.ofInt n).toInt32 = v)
    (k : Z X w (pc + 2) lv (.int v :: st)) : Z X w pc lv st := by
  obtain ⟨p, l, e, R, s, m, args, below, meth, c, Q, D, tys, A, nL, sg⟩ := X
  obtain ⟨hx, hb, hml, hown, hts, hgd, hR, hK, hSG⟩ := C
  intro H locs ls hP hS hl
  exact lv_bipush hx hb hdg hv (k H locs ls hP hS hl)
theorem z_sipush (C : Cx X cc own fr lo) {n : Int} {v : Int32} (hdg : decode cc pc = .ok (.sipush n, 3)) (hv : (Int16.ofInt n).toInt32 = v)
    (k : Z X w (pc + 3) lv (.int v :: st)) : Z X w pc lv st := by
  obtain ⟨p, l, e, R, s, m, args, below, meth, c, Q, D, tys, A, nL, sg⟩ := X
  obtain ⟨hx, hb, hml, hown, hts, hgd, hR, hK, hSG⟩ := C
  intro H locs ls hP hS hl
  exact lv_sipush hx hb hdg hv (k H locs ls hP hS hl)
theorem z_lconst (C : Cx X cc own fr lo) {n : Fin 2} {v : Int64} (hdg : decode cc pc = .ok (.lconst n, 1)) (hv : Int64.ofNat (n : Nat) = v)
    (k : Z X w (pc + 1) lv (.long v :: st)) : Z X w pc lv st := by
  obtain ⟨p, l, e, R, s, m, args, below, meth, c, Q, D, tys, A, nL, sg⟩ := X
  obtain ⟨hx, hb, hml, hown, hts, hgd, hR, hK, hSG⟩ := C
  intro H locs ls hP hS hl
  exact lv_lconst hx hb hdg hv (k H locs ls hP hS hl)
theorem z_ldc (C : Cx X cc own fr lo) {index : Nat} {v : Int32} (hc : Cond.constant own index v ∈ W0) (hdg : decode cc pc = .ok (.ldc index, 2))
    (k : Z X w (pc + 2) lv (.int v :: st)) : Z X w pc lv st := by
  obtain ⟨p, l, e, R, s, m, args, below, meth, c, Q, D, tys, A, nL, sg⟩ := X
  obtain ⟨hx, hb, hml, hown, hts, hgd, hR, hK, hSG⟩ := C
  intro H locs ls hP hS hl
  exact lv_ldc hx hb hown (hts _ hc) hdg (k H locs ls hP hS hl)
theorem z_ldc2 (C : Cx X cc own fr lo) {index : Nat} {v : Int64} (hc : Cond.constantLong own index v ∈ W0) (hdg : decode cc pc = .ok (.ldc2_w index, 3))
    (k : Z X w (pc + 3) lv (.long v :: st)) : Z X w pc lv st := by
  obtain ⟨p, l, e, R, s, m, args, below, meth, c, Q, D, tys, A, nL, sg⟩ := X
  obtain ⟨hx, hb, hml, hown, hts, hgd, hR, hK, hSG⟩ := C
  intro H locs ls hP hS hl
  exact lv_ldc2 hx hb hown (hts _ hc) hdg (k H locs ls hP hS hl)
theorem z_iload_n (C : Cx X cc own fr lo) {k0 : Fin 4} {i : Nat} {x : Int32} (hdg : decode cc pc = .ok (.iload_n k0, 1)) (hi : (k0 : Nat) = i) (j : Nat) (hj : lv[j]? = some (i, .int x))
    (k : Z X w (pc + 1) lv (.int x :: st)) : Z X w pc lv st := by
  obtain ⟨p, l, e, R, s, m, args, below, meth, c, Q, D, tys, A, nL, sg⟩ := X
  obtain ⟨hx, hb, hml, hown, hts, hgd, hR, hK, hSG⟩ := C
  intro H locs ls hP hS hl
  exact lv_iload_n hx hb hdg hi (lv_at hl j hj) (k H locs ls hP hS hl)
theorem z_iload (C : Cx X cc own fr lo) {i : Nat} {x : Int32} (hdg : decode cc pc = .ok (.iload i, 2)) (j : Nat) (hj : lv[j]? = some (i, .int x))
    (k : Z X w (pc + 2) lv (.int x :: st)) : Z X w pc lv st := by
  obtain ⟨p, l, e, R, s, m, args, below, meth, c, Q, D, tys, A, nL, sg⟩ := X
  obtain ⟨hx, hb, hml, hown, hts, hgd, hR, hK, hSG⟩ := C
  intro H locs ls hP hS hl
  exact lv_iload hx hb hdg (lv_at hl j hj) (k H locs ls hP hS hl)
theorem z_lload_n (C : Cx X cc own fr lo) {k0 : Fin 4} {i : Nat} {x : Int64} (hdg : decode cc pc = .ok (.lload_n k0, 1)) (hi : (k0 : Nat) = i) (j : Nat) (hj : lv[j]? = some (i, .long x))
    (k : Z X w (pc + 1) lv (.long x :: st)) : Z X w pc lv st := by
  obtain ⟨p, l, e, R, s, m, args, below, meth, c, Q, D, tys, A, nL, sg⟩ := X
  obtain ⟨hx, hb, hml, hown, hts, hgd, hR, hK, hSG⟩ := C
  intro H locs ls hP hS hl
  exact lv_lload_n hx hb hdg hi (lv_at hl j hj) (k H locs ls hP hS hl)
theorem z_lload (C : Cx X cc own fr lo) {i : Nat} {x : Int64} (hdg : decode cc pc = .ok (.lload i, 2)) (j : Nat) (hj : lv[j]? = some (i, .long x))
    (k : Z X w (pc + 2) lv (.long x :: st)) : Z X w pc lv st := by
  obtain ⟨p, l, e, R, s, m, args, below, meth, c, Q, D, tys, A, nL, sg⟩ := X
  obtain ⟨hx, hb, hml, hown, hts, hgd, hR, hK, hSG⟩ := C
  intro H locs ls hP hS hl
  exact lv_lload hx hb hdg (lv_at hl j hj) (k H locs ls hP hS hl)
theorem z_aload_n (C : Cx X cc own fr lo) {k0 : Fin 4} {i : Nat} {x : Nat} (hdg : decode cc pc = .ok (.aload_n k0, 1)) (hi : (k0 : Nat) = i) (j : Nat) (hj : lv[j]? = some (i, .ref x))
    (k : Z X w (pc + 1) lv (.ref x :: st)) : Z X w pc lv st := by
  obtain ⟨p, l, e, R, s, m, args, below, meth, c, Q, D, tys, A, nL, sg⟩ := X
  obtain ⟨hx, hb, hml, hown, hts, hgd, hR, hK, hSG⟩ := C
  intro H locs ls hP hS hl
  exact lv_aload_n hx hb hdg hi (lv_at hl j hj) (k H locs ls hP hS hl)
theorem z_aload (C : Cx X cc own fr lo) {i : Nat} {x : Nat} (hdg : decode cc pc = .ok (.aload i, 2)) (j : Nat) (hj : lv[j]? = some (i, .ref x))
    (k : Z X w (pc + 2) lv (.ref x :: st)) : Z X w pc lv st := by
  obtain ⟨p, l, e, R, s, m, args, below, meth, c, Q, D, tys, A, nL, sg⟩ := X
  obtain ⟨hx, hb, hml, hown, hts, hgd, hR, hK, hSG⟩ := C
  intro H locs ls hP hS hl
  exact lv_aload hx hb hdg (lv_at hl j hj) (k H locs ls hP hS hl)
theorem z_istore_n (C : Cx X cc own fr lo) {k0 : Fin 4} {i : Nat} {x : Int32} (hdg : decode cc pc = .ok (.istore_n k0, 1)) (hi : (k0 : Nat) = i) (hn : i < xnL X) (hv : (i, Value.int x) :: lv.filter (fun q => !(q.1 == i) && !(q.1 + 1 == i && q.2.category == 2)) = lv')
    (k : Z X w (pc + 1) lv' st) : Z X w pc lv (.int x :: st) := by
  obtain ⟨p, l, e, R, s, m, args, below, meth, c, Q, D, tys, A, nL, sg⟩ := X
  obtain ⟨hx, hb, hml, hown, hts, hgd, hR, hK, hSG⟩ := C
  intro H locs ls hP hS hl
  exact lv_istore_n hx hb hdg hi hl hn hv (fun ls h => k H locs ls hP hS h)
theorem z_istore (C : Cx X cc own fr lo) {i : Nat} {x : Int32} (hdg : decode cc pc = .ok (.istore i, 2)) (hn : i < xnL X) (hv : (i, Value.int x) :: lv.filter (fun q => !(q.1 == i) && !(q.1 + 1 == i && q.2.category == 2)) = lv')
    (k : Z X w (pc + 2) lv' st) : Z X w pc lv (.int x :: st) := by
  obtain ⟨p, l, e, R, s, m, args, below, meth, c, Q, D, tys, A, nL, sg⟩ := X
  obtain ⟨hx, hb, hml, hown, hts, hgd, hR, hK, hSG⟩ := C
  intro H locs ls hP hS hl
  exact lv_istore hx hb hdg hl hn hv (fun ls h => k H locs ls hP hS h)
theorem z_lstore_n (C : Cx X cc own fr lo) {k0 : Fin 4} {i : Nat} {x : Int64} (hdg : decode cc pc = .ok (.lstore_n k0, 1)) (hi : (k0 : Nat) = i) (hn : i + 1 < xnL X) (hv : (i, Value.long x) :: lv.filter (fun q => !(q.1 == i) && (!(q.1 == i + 1) && !(q.1 + 1 == i && q.2.category == 2))) = lv')
    (k : Z X w (pc + 1) lv' st) : Z X w pc lv (.long x :: st) := by
  obtain ⟨p, l, e, R, s, m, args, below, meth, c, Q, D, tys, A, nL, sg⟩ := X
  obtain ⟨hx, hb, hml, hown, hts, hgd, hR, hK, hSG⟩ := C
  intro H locs ls hP hS hl
  exact lv_lstore_n hx hb hdg hi hl hn hv (fun ls h => k H locs ls hP hS h)
theorem z_lstore (C : Cx X cc own fr lo) {i : Nat} {x : Int64} (hdg : decode cc pc = .ok (.lstore i, 2)) (hn : i + 1 < xnL X) (hv : (i, Value.long x) :: lv.filter (fun q => !(q.1 == i) && (!(q.1 == i + 1) && !(q.1 + 1 == i && q.2.category == 2))) = lv')
    (k : Z X w (pc + 2) lv' st) : Z X w pc lv (.long x :: st) := by
  obtain ⟨p, l, e, R, s, m, args, below, meth, c, Q, D, tys, A, nL, sg⟩ := X
  obtain ⟨hx, hb, hml, hown, hts, hgd, hR, hK, hSG⟩ := C
  intro H locs ls hP hS hl
  exact lv_lstore hx hb hdg hl hn hv (fun ls h => k H locs ls hP hS h)
theorem z_astore_n (C : Cx X cc own fr lo) {k0 : Fin 4} {i : Nat} {x : Nat} (hdg : decode cc pc = .ok (.astore_n k0, 1)) (hi : (k0 : Nat) = i) (hn : i < xnL X) (hv : (i, Value.ref x) :: lv.filter (fun q => !(q.1 == i) && !(q.1 + 1 == i && q.2.category == 2)) = lv')
    (k : Z X w (pc + 1) lv' st) : Z X w pc lv (.ref x :: st) := by
  obtain ⟨p, l, e, R, s, m, args, below, meth, c, Q, D, tys, A, nL, sg⟩ := X
  obtain ⟨hx, hb, hml, hown, hts, hgd, hR, hK, hSG⟩ := C
  intro H locs ls hP hS hl
  exact lv_astore_n hx hb hdg hi hl hn hv (fun ls h => k H locs ls hP hS h)
theorem z_astore (C : Cx X cc own fr lo) {i : Nat} {x : Nat} (hdg : decode cc pc = .ok (.astore i, 2)) (hn : i < xnL X) (hv : (i, Value.ref x) :: lv.filter (fun q => !(q.1 == i) && !(q.1 + 1 == i && q.2.category == 2)) = lv')
    (k : Z X w (pc + 2) lv' st) : Z X w pc lv (.ref x :: st) := by
  obtain ⟨p, l, e, R, s, m, args, below, meth, c, Q, D, tys, A, nL, sg⟩ := X
  obtain ⟨hx, hb, hml, hown, hts, hgd, hR, hK, hSG⟩ := C
  intro H locs ls hP hS hl
  exact lv_astore hx hb hdg hl hn hv (fun ls h => k H locs ls hP hS h)
theorem z_iinc (C : Cx X cc own fr lo) {i j : Nat} {n : Int} {x v : Int32} (hdg : decode cc pc = .ok (.iinc i n, 3)) (hj : lv[j]? = some (i, .int x)) (hx1 : x + Int32.ofInt n = v) (hn : i < xnL X) (hv : (i, Value.int v) :: lv.filter (fun q => !(q.1 == i) && !(q.1 + 1 == i && q.2.category == 2)) = lv')
    (k : Z X w (pc + 3) lv' st) : Z X w pc lv st := by
  obtain ⟨p, l, e, R, s, m, args, below, meth, c, Q, D, tys, A, nL, sg⟩ := X
  obtain ⟨hx, hb, hml, hown, hts, hgd, hR, hK, hSG⟩ := C
  intro H locs ls hP hS hl
  exact lv_iinc hx hb hdg hl hj hx1 hn hv (fun ls h => k H locs ls hP hS h)
theorem z_iadd (C : Cx X cc own fr lo) {x y : Int32} (hdg : decode cc pc = .ok (.iadd, 1))
    (k : Z X w (pc + 1) lv (.int (x + y) :: st)) : Z X w pc lv (.int y :: .int x :: st) := by
  obtain ⟨p, l, e, R, s, m, args, below, meth, c, Q, D, tys, A, nL, sg⟩ := X
  obtain ⟨hx, hb, hml, hown, hts, hgd, hR, hK, hSG⟩ := C
  intro H locs ls hP hS hl
  exact lv_iadd hx hb hdg (k H locs ls hP hS hl)
theorem z_isub (C : Cx X cc own fr lo) {x y : Int32} (hdg : decode cc pc = .ok (.isub, 1))
    (k : Z X w (pc + 1) lv (.int (x - y) :: st)) : Z X w pc lv (.int y :: .int x :: st) := by
  obtain ⟨p, l, e, R, s, m, args, below, meth, c, Q, D, tys, A, nL, sg⟩ := X
  obtain ⟨hx, hb, hml, hown, hts, hgd, hR, hK, hSG⟩ := C
  intro H locs ls hP hS hl
  exact lv_isub hx hb hdg (k H locs ls hP hS hl)
theorem z_imul (C : Cx X cc own fr lo) {x y : Int32} (hdg : decode cc pc = .ok (.imul, 1))
    (k : Z X w (pc + 1) lv (.int (x * y) :: st)) : Z X w pc lv (.int y :: .int x :: st) := by
  obtain ⟨p, l, e, R, s, m, args, below, meth, c, Q, D, tys, A, nL, sg⟩ := X
  obtain ⟨hx, hb, hml, hown, hts, hgd, hR, hK, hSG⟩ := C
  intro H locs ls hP hS hl
  exact lv_imul hx hb hdg (k H locs ls hP hS hl)
theorem z_iand (C : Cx X cc own fr lo) {x y : Int32} (hdg : decode cc pc = .ok (.iand, 1))
    (k : Z X w (pc + 1) lv (.int (x &&& y) :: st)) : Z X w pc lv (.int y :: .int x :: st) := by
  obtain ⟨p, l, e, R, s, m, args, below, meth, c, Q, D, tys, A, nL, sg⟩ := X
  obtain ⟨hx, hb, hml, hown, hts, hgd, hR, hK, hSG⟩ := C
  intro H locs ls hP hS hl
  exact lv_iand hx hb hdg (k H locs ls hP hS hl)
theorem z_ior (C : Cx X cc own fr lo) {x y : Int32} (hdg : decode cc pc = .ok (.ior, 1))
    (k : Z X w (pc + 1) lv (.int (x ||| y) :: st)) : Z X w pc lv (.int y :: .int x :: st) := by
  obtain ⟨p, l, e, R, s, m, args, below, meth, c, Q, D, tys, A, nL, sg⟩ := X
  obtain ⟨hx, hb, hml, hown, hts, hgd, hR, hK, hSG⟩ := C
  intro H locs ls hP hS hl
  exact lv_ior hx hb hdg (k H locs ls hP hS hl)
theorem z_ishl (C : Cx X cc own fr lo) {x y : Int32} (hdg : decode cc pc = .ok (.ishl, 1))
    (k : Z X w (pc + 1) lv (.int (x <<< (y &&& 31)) :: st)) : Z X w pc lv (.int y :: .int x :: st) := by
  obtain ⟨p, l, e, R, s, m, args, below, meth, c, Q, D, tys, A, nL, sg⟩ := X
  obtain ⟨hx, hb, hml, hown, hts, hgd, hR, hK, hSG⟩ := C
  intro H locs ls hP hS hl
  exact lv_ishl hx hb hdg (k H locs ls hP hS hl)
theorem z_ishr (C : Cx X cc own fr lo) {x y : Int32} (hdg : decode cc pc = .ok (.ishr, 1))
    (k : Z X w (pc + 1) lv (.int (x >>> (y &&& 31)) :: st)) : Z X w pc lv (.int y :: .int x :: st) := by
  obtain ⟨p, l, e, R, s, m, args, below, meth, c, Q, D, tys, A, nL, sg⟩ := X
  obtain ⟨hx, hb, hml, hown, hts, hgd, hR, hK, hSG⟩ := C
  intro H locs ls hP hS hl
  exact lv_ishr hx hb hdg (k H locs ls hP hS hl)
theorem z_idiv (C : Cx X cc own fr lo) {x y : Int32} (hdg : decode cc pc = .ok (.idiv, 1)) (hne : ¬ y = 0)
    (k : Z X w (pc + 1) lv (.int (x / y) :: st)) : Z X w pc lv (.int y :: .int x :: st) := by
  obtain ⟨p, l, e, R, s, m, args, below, meth, c, Q, D, tys, A, nL, sg⟩ := X
  obtain ⟨hx, hb, hml, hown, hts, hgd, hR, hK, hSG⟩ := C
  intro H locs ls hP hS hl
  exact lv_idiv hx hb hdg hne (k H locs ls hP hS hl)
theorem z_irem (C : Cx X cc own fr lo) {x y : Int32} (hdg : decode cc pc = .ok (.irem, 1)) (hne : ¬ y = 0)
    (k : Z X w (pc + 1) lv (.int (x - x / y * y) :: st)) : Z X w pc lv (.int y :: .int x :: st) := by
  obtain ⟨p, l, e, R, s, m, args, below, meth, c, Q, D, tys, A, nL, sg⟩ := X
  obtain ⟨hx, hb, hml, hown, hts, hgd, hR, hK, hSG⟩ := C
  intro H locs ls hP hS hl
  exact lv_irem hx hb hdg hne (k H locs ls hP hS hl)
theorem z_ineg (C : Cx X cc own fr lo) {x : Int32} (hdg : decode cc pc = .ok (.ineg, 1))
    (k : Z X w (pc + 1) lv (.int (-x) :: st)) : Z X w pc lv (.int x :: st) := by
  obtain ⟨p, l, e, R, s, m, args, below, meth, c, Q, D, tys, A, nL, sg⟩ := X
  obtain ⟨hx, hb, hml, hown, hts, hgd, hR, hK, hSG⟩ := C
  intro H locs ls hP hS hl
  exact lv_ineg hx hb hdg (k H locs ls hP hS hl)
theorem z_ladd (C : Cx X cc own fr lo) {x y : Int64} (hdg : decode cc pc = .ok (.ladd, 1))
    (k : Z X w (pc + 1) lv (.long (x + y) :: st)) : Z X w pc lv (.long y :: .long x :: st) := by
  obtain ⟨p, l, e, R, s, m, args, below, meth, c, Q, D, tys, A, nL, sg⟩ := X
  obtain ⟨hx, hb, hml, hown, hts, hgd, hR, hK, hSG⟩ := C
  intro H locs ls hP hS hl
  exact lv_ladd hx hb hdg (k H locs ls hP hS hl)
theorem z_lsub (C : Cx X cc own fr lo) {x y : Int64} (hdg : decode cc pc = .ok (.lsub, 1))
    (k : Z X w (pc + 1) lv (.long (x - y) :: st)) : Z X w pc lv (.long y :: .long x :: st) := by
  obtain ⟨p, l, e, R, s, m, args, below, meth, c, Q, D, tys, A, nL, sg⟩ := X
  obtain ⟨hx, hb, hml, hown, hts, hgd, hR, hK, hSG⟩ := C
  intro H locs ls hP hS hl
  exact lv_lsub hx hb hdg (k H locs ls hP hS hl)
theorem z_lmul (C : Cx X cc own fr lo) {x y : Int64} (hdg : decode cc pc = .ok (.lmul, 1))
    (k : Z X w (pc + 1) lv (.long (x * y) :: st)) : Z X w pc lv (.long y :: .long x :: st) := by
  obtain ⟨p, l, e, R, s, m, args, below, meth, c, Q, D, tys, A, nL, sg⟩ := X
  obtain ⟨hx, hb, hml, hown, hts, hgd, hR, hK, hSG⟩ := C
  intro H locs ls hP hS hl
  exact lv_lmul hx hb hdg (k H locs ls hP hS hl)
theorem z_lor (C : Cx X cc own fr lo) {x y : Int64} (hdg : decode cc pc = .ok (.lor, 1))
    (k : Z X w (pc + 1) lv (.long (x ||| y) :: st)) : Z X w pc lv (.long y :: .long x :: st) := by
  obtain ⟨p, l, e, R, s, m, args, below, meth, c, Q, D, tys, A, nL, sg⟩ := X
  obtain ⟨hx, hb, hml, hown, hts, hgd, hR, hK, hSG⟩ := C
  intro H locs ls hP hS hl
  exact lv_lor hx hb hdg (k H locs ls hP hS hl)
theorem z_lcmp (C : Cx X cc own fr lo) {x y : Int64} (hdg : decode cc pc = .ok (.lcmp, 1))
    (k : Z X w (pc + 1) lv (.int (lg_cmp x y) :: st)) : Z X w pc lv (.long y :: .long x :: st) := by
  obtain ⟨p, l, e, R, s, m, args, below, meth, c, Q, D, tys, A, nL, sg⟩ := X
  obtain ⟨hx, hb, hml, hown, hts, hgd, hR, hK, hSG⟩ := C
  intro H locs ls hP hS hl
  exact W.lcmp hx hb hdg (k H locs ls hP hS hl)
theorem z_lshl (C : Cx X cc own fr lo) {x : Int64} {y : Int32} (hdg : decode cc pc = .ok (.lshl, 1))
    (k : Z X w (pc + 1) lv (.long (x <<< (y.toInt64 &&& 63)) :: st)) : Z X w pc lv (.int y :: .long x :: st) := by
  obtain ⟨p, l, e, R, s, m, args, below, meth, c, Q, D, tys, A, nL, sg⟩ := X
  obtain ⟨hx, hb, hml, hown, hts, hgd, hR, hK, hSG⟩ := C
  intro H locs ls hP hS hl
  exact lv_lshl hx hb hdg rfl (k H locs ls hP hS hl)
theorem z_i2l (C : Cx X cc own fr lo) {x : Int32} (hdg : decode cc pc = .ok (.i2l, 1))
    (k : Z X w (pc + 1) lv (.long x.toInt64 :: st)) : Z X w pc lv (.int x :: st) := by
  obtain ⟨p, l, e, R, s, m, args, below, meth, c, Q, D, tys, A, nL, sg⟩ := X
  obtain ⟨hx, hb, hml, hown, hts, hgd, hR, hK, hSG⟩ := C
  intro H locs ls hP hS hl
  exact lv_i2l hx hb hdg rfl (k H locs ls hP hS hl)
theorem z_l2i (C : Cx X cc own fr lo) {x : Int64} (hdg : decode cc pc = .ok (.l2i, 1))
    (k : Z X w (pc + 1) lv (.int x.toInt32 :: st)) : Z X w pc lv (.long x :: st) := by
  obtain ⟨p, l, e, R, s, m, args, below, meth, c, Q, D, tys, A, nL, sg⟩ := X
  obtain ⟨hx, hb, hml, hown, hts, hgd, hR, hK, hSG⟩ := C
  intro H locs ls hP hS hl
  exact lv_l2i hx hb hdg rfl (k H locs ls hP hS hl)
theorem z_i2b (C : Cx X cc own fr lo) {x : Int32} (hdg : decode cc pc = .ok (.i2b, 1))
    (k : Z X w (pc + 1) lv (.int x.toInt8.toInt32 :: st)) : Z X w pc lv (.int x :: st) := by
  obtain ⟨p, l, e, R, s, m, args, below, meth, c, Q, D, tys, A, nL, sg⟩ := X
  obtain ⟨hx, hb, hml, hown, hts, hgd, hR, hK, hSG⟩ := C
  intro H locs ls hP hS hl
  exact lv_i2b hx hb hdg rfl (k H locs ls hP hS hl)
theorem z_i2c (C : Cx X cc own fr lo) {x : Int32} (hdg : decode cc pc = .ok (.i2c, 1))
    (k : Z X w (pc + 1) lv (.int (x.toUInt32 % 65536).toInt32 :: st)) : Z X w pc lv (.int x :: st) := by
  obtain ⟨p, l, e, R, s, m, args, below, meth, c, Q, D, tys, A, nL, sg⟩ := X
  obtain ⟨hx, hb, hml, hown, hts, hgd, hR, hK, hSG⟩ := C
  intro H locs ls hP hS hl
  exact lv_i2c hx hb hdg rfl (k H locs ls hP hS hl)
theorem z_iushr (C : Cx X cc own fr lo) {x y : Int32} (hdg : decode cc pc = .ok (.iushr, 1))
    (k : Z X w (pc + 1) lv (.int (x.toUInt32 >>> (y.toUInt32 &&& Int32.toUInt32 31)).toInt32 :: st)) : Z X w pc lv (.int y :: .int x :: st) := by
  obtain ⟨p, l, e, R, s, m, args, below, meth, c, Q, D, tys, A, nL, sg⟩ := X
  obtain ⟨hx, hb, hml, hown, hts, hgd, hR, hK, hSG⟩ := C
  intro H locs ls hP hS hl
  exact lv_iushr hx hb hdg rfl (k H locs ls hP hS hl)
theorem z_dup (C : Cx X cc own fr lo) {a : Value} (hdg : decode cc pc = .ok (.dup, 1)) (ha : a.category = 1)
    (k : Z X w (pc + 1) lv (a :: a :: st)) : Z X w pc lv (a :: st) := by
  obtain ⟨p, l, e, R, s, m, args, below, meth, c, Q, D, tys, A, nL, sg⟩ := X
  obtain ⟨hx, hb, hml, hown, hts, hgd, hR, hK, hSG⟩ := C
  intro H locs ls hP hS hl
  exact lv_dup hx hb hdg ha (k H locs ls hP hS hl)
theorem z_pop (C : Cx X cc own fr lo) {a : Value} (hdg : decode cc pc = .ok (.pop, 1)) (ha : a.category = 1)
    (k : Z X w (pc + 1) lv st) : Z X w pc lv (a :: st) := by
  obtain ⟨p, l, e, R, s, m, args, below, meth, c, Q, D, tys, A, nL, sg⟩ := X
  obtain ⟨hx, hb, hml, hown, hts, hgd, hR, hK, hSG⟩ := C
  intro H locs ls hP hS hl
  exact lv_pop hx hb hdg ha (k H locs ls hP hS hl)
theorem z_dup_x1 (C : Cx X cc own fr lo) {a b : Value} (hdg : decode cc pc = .ok (.dup_x1, 1)) (ha : a.category = 1) (hb1 : b.category = 1)
    (k : Z X w (pc + 1) lv (a :: b :: a :: st)) : Z X w pc lv (a :: b :: st) := by
  obtain ⟨p, l, e, R, s, m, args, below, meth, c, Q, D, tys, A, nL, sg⟩ := X
  obtain ⟨hx, hb, hml, hown, hts, hgd, hR, hK, hSG⟩ := C
  intro H locs ls hP hS hl
  exact lv_dup_x1 hx hb hdg ha hb1 (k H locs ls hP hS hl)
theorem z_dup_x2 (C : Cx X cc own fr lo) {a b d : Value} (hdg : decode cc pc = .ok (.dup_x2, 1)) (ha : a.category = 1) (hb1 : b.category = 1) (hd1 : d.category = 1)
    (k : Z X w (pc + 1) lv (a :: b :: d :: a :: st)) : Z X w pc lv (a :: b :: d :: st) := by
  obtain ⟨p, l, e, R, s, m, args, below, meth, c, Q, D, tys, A, nL, sg⟩ := X
  obtain ⟨hx, hb, hml, hown, hts, hgd, hR, hK, hSG⟩ := C
  intro H locs ls hP hS hl
  exact lv_dup_x2 hx hb hdg ha hb1 hd1 (k H locs ls hP hS hl)
theorem z_dup2 (C : Cx X cc own fr lo) {a b : Value} (hdg : decode cc pc = .ok (.dup2, 1)) (ha : a.category = 1) (hb1 : b.category = 1)
    (k : Z X w (pc + 1) lv (a :: b :: a :: b :: st)) : Z X w pc lv (a :: b :: st) := by
  obtain ⟨p, l, e, R, s, m, args, below, meth, c, Q, D, tys, A, nL, sg⟩ := X
  obtain ⟨hx, hb, hml, hown, hts, hgd, hR, hK, hSG⟩ := C
  intro H locs ls hP hS hl
  exact lv_dup2_11 hx hb hdg ha hb1 (k H locs ls hP hS hl)
theorem z_topi {x : Int32} (k : ∀ y : Int32, y = x → Z X w pc lv (.int y :: st)) : Z X w pc lv (.int x :: st) := k x rfl
theorem z_topl {x : Int64} (k : ∀ y : Int64, y = x → Z X w pc lv (.long y :: st)) : Z X w pc lv (.long x :: st) := k x rfl
theorem z_if_eq (C : Cx X cc own fr lo) {x : Int32} {off : Int} {tgt : Nat} (hdg : decode cc pc = .ok (.ifCond .eq off, 3)) (ht : (pc : Int) + off = (tgt : Int)) (kt : x = 0 → Z X w tgt lv st)
    (k : ¬ (x = 0) → Z X w (pc + 3) lv st) : Z X w pc lv (.int x :: st) := by
  obtain ⟨p, l, e, R, s, m, args, below, meth, c, Q, D, tys, A, nL, sg⟩ := X
  obtain ⟨hx, hb, hml, hown, hts, hgd, hR, hK, hSG⟩ := C
  intro H locs ls hP hS hl
  exact lv_if_eq hx hb hdg ht (fun h => kt h H locs ls hP hS hl) (fun h => k h H locs ls hP hS hl)
theorem z_icmp_eq (C : Cx X cc own fr lo) {x y : Int32} {off : Int} {tgt : Nat} (hdg : decode cc pc = .ok (.if_icmp .eq off, 3)) (ht : (pc : Int) + off = (tgt : Int)) (kt : x = y → Z X w tgt lv st)
    (k : ¬ (x = y) → Z X w (pc + 3) lv st) : Z X w pc lv (.int y :: .int x :: st) := by
  obtain ⟨p, l, e, R, s, m, args, below, meth, c, Q, D, tys, A, nL, sg⟩ := X
  obtain ⟨hx, hb, hml, hown, hts, hgd, hR, hK, hSG⟩ := C
  intro H locs ls hP hS hl
  exact lv_icmp_eq hx hb hdg ht (fun h => kt h H locs ls hP hS hl) (fun h => k h H locs ls hP hS hl)
theorem z_if_ne (C : Cx X cc own fr lo) {x : Int32} {off : Int} {tgt : Nat} (hdg : decode cc pc = .ok (.ifCond .ne off, 3)) (ht : (pc : Int) + off = (tgt : Int)) (kt : ¬ x = 0 → Z X w tgt lv st)
    (k : x = 0 → Z X w (pc + 3) lv st) : Z X w pc lv (.int x :: st) := by
  obtain ⟨p, l, e, R, s, m, args, below, meth, c, Q, D, tys, A, nL, sg⟩ := X
  obtain ⟨hx, hb, hml, hown, hts, hgd, hR, hK, hSG⟩ := C
  intro H locs ls hP hS hl
  exact lv_if_ne hx hb hdg ht (fun h => kt h H locs ls hP hS hl) (fun h => k h H locs ls hP hS hl)
theorem z_icmp_ne (C : Cx X cc own fr lo) {x y : Int32} {off : Int} {tgt : Nat} (hdg : decode cc pc = .ok (.if_icmp .ne off, 3)) (ht : (pc : Int) + off = (tgt : Int)) (kt : ¬ x = y → Z X w tgt lv st)
    (k : x = y → Z X w (pc + 3) lv st) : Z X w pc lv (.int y :: .int x :: st) := by
  obtain ⟨p, l, e, R, s, m, args, below, meth, c, Q, D, tys, A, nL, sg⟩ := X
  obtain ⟨hx, hb, hml, hown, hts, hgd, hR, hK, hSG⟩ := C
  intro H locs ls hP hS hl
  exact lv_icmp_ne hx hb hdg ht (fun h => kt h H locs ls hP hS hl) (fun h => k h H locs ls hP hS hl)
theorem z_if_lt (C : Cx X cc own fr lo) {x : Int32} {off : Int} {tgt : Nat} (hdg : decode cc pc = .ok (.ifCond .lt off, 3)) (ht : (pc : Int) + off = (tgt : Int)) (kt : x < 0 → Z X w tgt lv st)
    (k : ¬ (x < 0) → Z X w (pc + 3) lv st) : Z X w pc lv (.int x :: st) := by
  obtain ⟨p, l, e, R, s, m, args, below, meth, c, Q, D, tys, A, nL, sg⟩ := X
  obtain ⟨hx, hb, hml, hown, hts, hgd, hR, hK, hSG⟩ := C
  intro H locs ls hP hS hl
  exact lv_if_lt hx hb hdg ht (fun h => kt h H locs ls hP hS hl) (fun h => k h H locs ls hP hS hl)
theorem z_icmp_lt (C : Cx X cc own fr lo) {x y : Int32} {off : Int} {tgt : Nat} (hdg : decode cc pc = .ok (.if_icmp .lt off, 3)) (ht : (pc : Int) + off = (tgt : Int)) (kt : x < y → Z X w tgt lv st)
    (k : ¬ (x < y) → Z X w (pc + 3) lv st) : Z X w pc lv (.int y :: .int x :: st) := by
  obtain ⟨p, l, e, R, s, m, args, below, meth, c, Q, D, tys, A, nL, sg⟩ := X
  obtain ⟨hx, hb, hml, hown, hts, hgd, hR, hK, hSG⟩ := C
  intro H locs ls hP hS hl
  exact lv_icmp_lt hx hb hdg ht (fun h => kt h H locs ls hP hS hl) (fun h => k h H locs ls hP hS hl)
theorem z_if_ge (C : Cx X cc own fr lo) {x : Int32} {off : Int} {tgt : Nat} (hdg : decode cc pc = .ok (.ifCond .ge off, 3)) (ht : (pc : Int) + off = (tgt : Int)) (kt : 0 ≤ x → Z X w tgt lv st)
    (k : ¬ (0 ≤ x) → Z X w (pc + 3) lv st) : Z X w pc lv (.int x :: st) := by
  obtain ⟨p, l, e, R, s, m, args, below, meth, c, Q, D, tys, A, nL, sg⟩ := X
  obtain ⟨hx, hb, hml, hown, hts, hgd, hR, hK, hSG⟩ := C
  intro H locs ls hP hS hl
  exact lv_if_ge hx hb hdg ht (fun h => kt h H locs ls hP hS hl) (fun h => k h H locs ls hP hS hl)
theorem z_icmp_ge (C : Cx X cc own fr lo) {x y : Int32} {off : Int} {tgt : Nat} (hdg : decode cc pc = .ok (.if_icmp .ge off, 3)) (ht : (pc : Int) + off = (tgt : Int)) (kt : y ≤ x → Z X w tgt lv st)
    (k : ¬ (y ≤ x) → Z X w (pc + 3) lv st) : Z X w pc lv (.int y :: .int x :: st) := by
  obtain ⟨p, l, e, R, s, m, args, below, meth, c, Q, D, tys, A, nL, sg⟩ := X
  obtain ⟨hx, hb, hml, hown, hts, hgd, hR, hK, hSG⟩ := C
  intro H locs ls hP hS hl
  exact lv_icmp_ge hx hb hdg ht (fun h => kt h H locs ls hP hS hl) (fun h => k h H locs ls hP hS hl)
theorem z_if_gt (C : Cx X cc own fr lo) {x : Int32} {off : Int} {tgt : Nat} (hdg : decode cc pc = .ok (.ifCond .gt off, 3)) (ht : (pc : Int) + off = (tgt : Int)) (kt : 0 < x → Z X w tgt lv st)
    (k : ¬ (0 < x) → Z X w (pc + 3) lv st) : Z X w pc lv (.int x :: st) := by
  obtain ⟨p, l, e, R, s, m, args, below, meth, c, Q, D, tys, A, nL, sg⟩ := X
  obtain ⟨hx, hb, hml, hown, hts, hgd, hR, hK, hSG⟩ := C
  intro H locs ls hP hS hl
  exact lv_if_gt hx hb hdg ht (fun h => kt h H locs ls hP hS hl) (fun h => k h H locs ls hP hS hl)
theorem z_icmp_gt (C : Cx X cc own fr lo) {x y : Int32} {off : Int} {tgt : Nat} (hdg : decode cc pc = .ok (.if_icmp .gt off, 3)) (ht : (pc : Int) + off = (tgt : Int)) (kt : y < x → Z X w tgt lv st)
    (k : ¬ (y < x) → Z X w (pc + 3) lv st) : Z X w pc lv (.int y :: .int x :: st) := by
  obtain ⟨p, l, e, R, s, m, args, below, meth, c, Q, D, tys, A, nL, sg⟩ := X
  obtain ⟨hx, hb, hml, hown, hts, hgd, hR, hK, hSG⟩ := C
  intro H locs ls hP hS hl
  exact lv_icmp_gt hx hb hdg ht (fun h => kt h H locs ls hP hS hl) (fun h => k h H locs ls hP hS hl)
theorem z_if_le (C : Cx X cc own fr lo) {x : Int32} {off : Int} {tgt : Nat} (hdg : decode cc pc = .ok (.ifCond .le off, 3)) (ht : (pc : Int) + off = (tgt : Int)) (kt : x ≤ 0 → Z X w tgt lv st)
    (k : ¬ (x ≤ 0) → Z X w (pc + 3) lv st) : Z X w pc lv (.int x :: st) := by
  obtain ⟨p, l, e, R, s, m, args, below, meth, c, Q, D, tys, A, nL, sg⟩ := X
  obtain ⟨hx, hb, hml, hown, hts, hgd, hR, hK, hSG⟩ := C
  intro H locs ls hP hS hl
  exact lv_if_le hx hb hdg ht (fun h => kt h H locs ls hP hS hl) (fun h => k h H locs ls hP hS hl)
theorem z_icmp_le (C : Cx X cc own fr lo) {x y : Int32} {off : Int} {tgt : Nat} (hdg : decode cc pc = .ok (.if_icmp .le off, 3)) (ht : (pc : Int) + off = (tgt : Int)) (kt : x ≤ y → Z X w tgt lv st)
    (k : ¬ (x ≤ y) → Z X w (pc + 3) lv st) : Z X w pc lv (.int y :: .int x :: st) := by
  obtain ⟨p, l, e, R, s, m, args, below, meth, c, Q, D, tys, A, nL, sg⟩ := X
  obtain ⟨hx, hb, hml, hown, hts, hgd, hR, hK, hSG⟩ := C
  intro H locs ls hP hS hl
  exact lv_icmp_le hx hb hdg ht (fun h => kt h H locs ls hP hS hl) (fun h => k h H locs ls hP hS hl)
theorem z_goto (C : Cx X cc own fr lo) {off : Int} {tgt : Nat} (hdg : decode cc pc = .ok (.goto off, 3)) (ht : (pc : Int) + off = (tgt : Int))
    (k : Z X w tgt lv st) : Z X w pc lv st := by
  obtain ⟨p, l, e, R, s, m, args, below, meth, c, Q, D, tys, A, nL, sg⟩ := X
  obtain ⟨hx, hb, hml, hown, hts, hgd, hR, hK, hSG⟩ := C
  intro H locs ls hP hS hl
  exact lv_goto hx hb hdg ht (k H locs ls hP hS hl)
theorem z_tabIn (C : Cx X cc own fr lo) {dflt lo1 hi1 : Int} {offs : Array Int} {len : Nat} {x v : Int32} {off : Int} {tgt : Nat} (hv : x = v) (hdg : decode cc pc = .ok (.tableswitch dflt lo1 hi1 offs, len)) (h1 : ¬ v.toInt < lo1) (h2 : ¬ hi1 < v.toInt) (ho : offs[(v.toInt - lo1).toNat]? = some off) (ht : (pc : Int) + off = (tgt : Int))
    (k : Z X w tgt lv st) : Z X w pc lv (.int x :: st) := by
  obtain ⟨p, l, e, R, s, m, args, below, meth, c, Q, D, tys, A, nL, sg⟩ := X
  obtain ⟨hx, hb, hml, hown, hts, hgd, hR, hK, hSG⟩ := C
  intro H locs ls hP hS hl
  subst hv
  exact lv_tableIn hx hb hdg h1 h2 ho ht (k H locs ls hP hS hl)
theorem z_tabOut (C : Cx X cc own fr lo) {dflt lo1 hi1 : Int} {offs : Array Int} {len : Nat} {x : Int32} {tgt : Nat} (hdg : decode cc pc = .ok (.tableswitch dflt lo1 hi1 offs, len)) (h : x.toInt < lo1 ∨ hi1 < x.toInt) (ht : (pc : Int) + dflt = (tgt : Int))
    (k : Z X w tgt lv st) : Z X w pc lv (.int x :: st) := by
  obtain ⟨p, l, e, R, s, m, args, below, meth, c, Q, D, tys, A, nL, sg⟩ := X
  obtain ⟨hx, hb, hml, hown, hts, hgd, hR, hK, hSG⟩ := C
  intro H locs ls hP hS hl
  exact lv_tableOut hx hb hdg h ht (k H locs ls hP hS hl)
theorem z_look (C : Cx X cc own fr lo) {dflt : Int} {ps : Array (Int × Int)} {len : Nat} {x : Int32} {off : Int} {tgt : Nat} (hdg : decode cc pc = .ok (.lookupswitch dflt ps, len)) (hp : (ps.toList.zip (ps.toList.drop 1)).all (fun (a, next) => a.1 < next.1) = true) (ho : Op.lookupswitch.offset ps.toList dflt x.toInt = off) (ht : (pc : Int) + off = (tgt : Int))
    (k : Z X w tgt lv st) : Z X w pc lv (.int x :: st) := by
  obtain ⟨p, l, e, R, s, m, args, below, meth, c, Q, D, tys, A, nL, sg⟩ := X
  obtain ⟨hx, hb, hml, hown, hts, hgd, hR, hK, hSG⟩ := C
  intro H locs ls hP hS hl
  exact lv_lookup hx hb hdg hp ho ht (k H locs ls hP hS hl)
theorem z_get (C : Cx X cc own fr lo) {Cn : String} {T : u_T} {N ci idx a : Nat} (hin : ∀ w ∈ u_ws Cn T N, w ∈ W0) (q0 : Nat) {fs : List Value} (he : w[q0]? = some (a, .inr (ci, fs))) (hc : vwCl[ci]? = some (Cn, T, N)) (j : Nat) (hj : j < N) {v : Value} (hv : fs[j]? = some v) (hlink : Cond.fieldLink own idx (T j).1 (T j).2.1 (T j).2.2.1 ∈ W0) (hdg : decode cc pc = .ok (.getfield idx, 3))
    (k : Z X w (pc + 3) lv (v :: st)) : Z X w pc lv (.ref a :: st) := by
  obtain ⟨p, l, e, R, s, m, args, below, meth, c, Q, D, tys, A, nL, sg⟩ := X
  obtain ⟨hx, hb, hml, hown, hts, hgd, hR, hK, hSG⟩ := C
  intro H locs ls hP hS hl
  exact va_get hx hb hts hin hown hK hP q0 he hc j hj (hts _ hlink) (fun _ h => h) hv hdg (k H locs ls hP hS hl)
theorem z_put (C : Cx X cc own fr lo) {Cn : String} {T : u_T} {N ci idx a : Nat} (hin : ∀ w ∈ u_ws Cn T N, w ∈ W0) (ty0 : Nat → FieldType) (hty : ∀ k, k < N → parseFieldDescriptor (T k).2.2.1 = some (ty0 k)) (hnm : ∀ a, a < N → ∀ b, b < N → a ≠ b → (T a).2.1 ≠ (T b).2.1) (hD : va_D (xA X) w) (q0 : Nat) {fs : List Value} (he : w[q0]? = some (a, .inr (ci, fs))) (hc : vwCl[ci]? = some (Cn, T, N)) (j : Nat) (hj : j < N) (hfin : (T j).2.2.2 = false) {ty : FieldType} {v : Value} (hd : parseFieldDescriptor (T j).2.2.1 = some ty) (hn : narrow ty v = v) (hfit : fits ty v = true) (hlen : j < fs.length) (hlink : Cond.fieldLink own idx (T j).1 (T j).2.1 (T j).2.2.1 ∈ W0) (hdg : decode cc pc = .ok (.putfield idx, 3))
    (k : Z X (w.set q0 (a, .inr (ci, fs.set j v))) (pc + 3) lv st) : Z X w pc lv (v :: .ref a :: st) := by
  obtain ⟨p, l, e, R, s, m, args, below, meth, c, Q, D, tys, A, nL, sg⟩ := X
  obtain ⟨hx, hb, hml, hown, hts, hgd, hR, hK, hSG⟩ := C
  intro H locs ls hP hS hl
  exact va_put hx hb hts hin ty0 hty hnm hown hK hP hD hS q0 he hc j hj (hts _ hlink) (fun _ h => h) hfin hd hn hfit hlen hdg (fun H1 locs1 hP1 _ hS1 => k H1 locs1 ls hP1 hS1 hl)
theorem z_iald (C : Cx X cc own fr lo) {a : Nat} (q0 t0 : Nat) {cA : ClassId} {n : Nat} {f : Nat → Int32} (ha : w[q0]? = some (a, .inl (cA, n, .inl f))) (ht : (xtys X)[t0]? = some (cA, .int)) {i : Int32} (hin : vp_in i n) (hdg : decode cc pc = .ok (.iaload, 1))
    (k : Z X w (pc + 1) lv (.int (f i.toNatClampNeg) :: st)) : Z X w pc lv (.int i :: .ref a :: st) := by
  obtain ⟨p, l, e, R, s, m, args, below, meth, c, Q, D, tys, A, nL, sg⟩ := X
  obtain ⟨hx, hb, hml, hown, hts, hgd, hR, hK, hSG⟩ := C
  intro H locs ls hP hS hl
  exact va_iald hx hb hK hP q0 t0 ha ht hin hdg (k H locs ls hP hS hl)
theorem z_bald (C : Cx X cc own fr lo) {a : Nat} (q0 t0 : Nat) {cA : ClassId} {n : Nat} {f : Nat → Int32} (ha : w[q0]? = some (a, .inl (cA, n, .inl f))) (ht : (xtys X)[t0]? = some (cA, .byte)) {i : Int32} (hin : vp_in i n) (hdg : decode cc pc = .ok (.baload, 1))
    (k : Z X w (pc + 1) lv (.int (f i.toNatClampNeg) :: st)) : Z X w pc lv (.int i :: .ref a :: st) := by
  obtain ⟨p, l, e, R, s, m, args, below, meth, c, Q, D, tys, A, nL, sg⟩ := X
  obtain ⟨hx, hb, hml, hown, hts, hgd, hR, hK, hSG⟩ := C
  intro H locs ls hP hS hl
  exact va_bald hx hb hK hP q0 t0 ha ht hin hdg (k H locs ls hP hS hl)
theorem z_zald (C : Cx X cc own fr lo) {a : Nat} (q0 t0 : Nat) {cA : ClassId} {n : Nat} {f : Nat → Int32} (ha : w[q0]? = some (a, .inl (cA, n, .inl f))) (ht : (xtys X)[t0]? = some (cA, .boolean)) {i : Int32} (hin : vp_in i n) (hdg : decode cc pc = .ok (.baload, 1))
    (k : Z X w (pc + 1) lv (.int (f i.toNatClampNeg) :: st)) : Z X w pc lv (.int i :: .ref a :: st) := by
  obtain ⟨p, l, e, R, s, m, args, below, meth, c, Q, D, tys, A, nL, sg⟩ := X
  obtain ⟨hx, hb, hml, hown, hts, hgd, hR, hK, hSG⟩ := C
  intro H locs ls hP hS hl
  exact va_zald hx hb hK hP q0 t0 ha ht hin hdg (k H locs ls hP hS hl)
theorem z_lald (C : Cx X cc own fr lo) {a : Nat} (q0 t0 : Nat) {cA : ClassId} {n : Nat} {f : Nat → Int64} (ha : w[q0]? = some (a, .inl (cA, n, .inr (.inl f)))) (ht : (xtys X)[t0]? = some (cA, .long)) {i : Int32} (hin : vp_in i n) (hdg : decode cc pc = .ok (.laload, 1))
    (k : Z X w (pc + 1) lv (.long (f i.toNatClampNeg) :: st)) : Z X w pc lv (.int i :: .ref a :: st) := by
  obtain ⟨p, l, e, R, s, m, args, below, meth, c, Q, D, tys, A, nL, sg⟩ := X
  obtain ⟨hx, hb, hml, hown, hts, hgd, hR, hK, hSG⟩ := C
  intro H locs ls hP hS hl
  exact va_lald hx hb hK hP q0 t0 ha ht hin hdg (k H locs ls hP hS hl)
theorem z_iast (C : Cx X cc own fr lo) {a : Nat} (hD : va_D (xA X) w) (q0 t0 : Nat) {cA : ClassId} {n : Nat} {f : Nat → Int32} (ha : w[q0]? = some (a, .inl (cA, n, .inl f))) (ht : (xtys X)[t0]? = some (cA, .int)) {i : Int32} {x : Int32} (hin : vp_in i n) (hdg : decode cc pc = .ok (.iastore, 1))
    (k : Z X (w.set q0 (a, .inl (cA, n, .inl (upd f i.toNatClampNeg x)))) (pc + 1) lv st) : Z X w pc lv (.int x :: .int i :: .ref a :: st) := by
  obtain ⟨p, l, e, R, s, m, args, below, meth, c, Q, D, tys, A, nL, sg⟩ := X
  obtain ⟨hx, hb, hml, hown, hts, hgd, hR, hK, hSG⟩ := C
  intro H locs ls hP hS hl
  exact va_iast hx hb hK hP hD hS q0 t0 ha ht hin hdg (fun H1 locs1 hP1 _ hS1 => k H1 locs1 ls hP1 hS1 hl)
theorem z_bast (C : Cx X cc own fr lo) {a : Nat} (hD : va_D (xA X) w) (q0 t0 : Nat) {cA : ClassId} {n : Nat} {f : Nat → Int32} (ha : w[q0]? = some (a, .inl (cA, n, .inl f))) (ht : (xtys X)[t0]? = some (cA, .byte)) {i : Int32} {x : Int32} (hin : vp_in i n) (hdg : decode cc pc = .ok (.bastore, 1))
    (k : Z X (w.set q0 (a, .inl (cA, n, .inl (upd f i.toNatClampNeg (vp_nar .byte x))))) (pc + 1) lv st) : Z X w pc lv (.int x :: .int i :: .ref a :: st) := by
  obtain ⟨p, l, e, R, s, m, args, below, meth, c, Q, D, tys, A, nL, sg⟩ := X
  obtain ⟨hx, hb, hml, hown, hts, hgd, hR, hK, hSG⟩ := C
  intro H locs ls hP hS hl
  exact va_bast hx hb hK hP hD hS q0 t0 ha ht hin hdg (fun H1 locs1 hP1 _ hS1 => k H1 locs1 ls hP1 hS1 hl)
theorem z_zast (C : Cx X cc own fr lo) {a : Nat} (hD : va_D (xA X) w) (q0 t0 : Nat) {cA : ClassId} {n : Nat} {f : Nat → Int32} (ha : w[q0]? = some (a, .inl (cA, n, .inl f))) (ht : (xtys X)[t0]? = some (cA, .boolean)) {i : Int32} {x : Int32} (hin : vp_in i n) (hdg : decode cc pc = .ok (.bastore, 1))
    (k : Z X (w.set q0 (a, .inl (cA, n, .inl (upd f i.toNatClampNeg (vp_nar .boolean x))))) (pc + 1) lv st) : Z X w pc lv (.int x :: .int i :: .ref a :: st) := by
  obtain ⟨p, l, e, R, s, m, args, below, meth, c, Q, D, tys, A, nL, sg⟩ := X
  obtain ⟨hx, hb, hml, hown, hts, hgd, hR, hK, hSG⟩ := C
  intro H locs ls hP hS hl
  exact va_zast hx hb hK hP hD hS q0 t0 ha ht hin hdg (fun H1 locs1 hP1 _ hS1 => k H1 locs1 ls hP1 hS1 hl)
theorem z_last (C : Cx X cc own fr lo) {a : Nat} (hD : va_D (xA X) w) (q0 t0 : Nat) {cA : ClassId} {n : Nat} {f : Nat → Int64} (ha : w[q0]? = some (a, .inl (cA, n, .inr (.inl f)))) (ht : (xtys X)[t0]? = some (cA, .long)) {i : Int32} {x : Int64} (hin : vp_in i n) (hdg : decode cc pc = .ok (.lastore, 1))
    (k : Z X (w.set q0 (a, .inl (cA, n, .inr (.inl (vp_updL f i.toNatClampNeg x))))) (pc + 1) lv st) : Z X w pc lv (.long x :: .int i :: .ref a :: st) := by
  obtain ⟨p, l, e, R, s, m, args, below, meth, c, Q, D, tys, A, nL, sg⟩ := X
  obtain ⟨hx, hb, hml, hown, hts, hgd, hR, hK, hSG⟩ := C
  intro H locs ls hP hS hl
  exact va_last hx hb hK hP hD hS q0 t0 ha ht hin hdg (fun H1 locs1 hP1 _ hS1 => k H1 locs1 ls hP1 hS1 hl)
theorem z_alen (C : Cx X cc own fr lo) {a : Nat} (q0 t0 : Nat) {cA : ClassId} {x : vp_A} (ha : w[q0]? = some (a, .inl (cA, x))) {ty : FieldType} (ht : (xtys X)[t0]? = some (cA, ty)) {v : Int32} (hv : Int32.ofNat x.1 = v) (hdg : decode cc pc = .ok (.arraylength, 1))
    (k : Z X w (pc + 1) lv (.int v :: st)) : Z X w pc lv (.ref a :: st) := by
  obtain ⟨p, l, e, R, s, m, args, below, meth, c, Q, D, tys, A, nL, sg⟩ := X
  obtain ⟨hx, hb, hml, hown, hts, hgd, hR, hK, hSG⟩ := C
  intro H locs ls hP hS hl
  exact va_alen hx hb hK hP q0 t0 ha ht hv hdg (k H locs ls hP hS hl)
theorem z_mmax (C : Cx X cc own fr lo) {index : Nat} (hlink : Cond.methodLink own index yJ9_max_7cf53 ∈ W0) (hr : 1 ≤ fr ∧ (st.map fun v => v.category).sum + 13 ≤ lo) {x y : Int32} (hdg : decode cc pc = .ok (.invokestatic index, 3))
    (k : Z X w (pc + 3) lv (.int (if x < y then y else x) :: st)) : Z X w pc lv (.int y :: .int x :: st) := by
  obtain ⟨p, l, e, R, s, m, args, below, meth, c, Q, D, tys, A, nL, sg⟩ := X
  obtain ⟨hx, hb, hml, hown, hts, hgd, hR, hK, hSG⟩ := C
  intro H locs ls hP hS hl
  exact va_mmax hx hb (hml.trans hl.1.symm) hown (hts _ hlink) (hts _ mT_J9_max_7cf53) (hts _ mZ_J9) (hts _ mC_J9_max_7cf53) (Nat.le_trans hr.1 hR.1) (Nat.le_trans hr.2 hR.2) (Nat.zero_le _) (Nat.zero_le _) hdg (k H locs ls hP hS hl)
theorem z_mmin (C : Cx X cc own fr lo) {index : Nat} (hlink : Cond.methodLink own index yJ9_min_7cf53 ∈ W0) (hr : 1 ≤ fr ∧ (st.map fun v => v.category).sum + 13 ≤ lo) {x y : Int32} (hdg : decode cc pc = .ok (.invokestatic index, 3))
    (k : Z X w (pc + 3) lv (.int (if y < x then y else x) :: st)) : Z X w pc lv (.int y :: .int x :: st) := by
  obtain ⟨p, l, e, R, s, m, args, below, meth, c, Q, D, tys, A, nL, sg⟩ := X
  obtain ⟨hx, hb, hml, hown, hts, hgd, hR, hK, hSG⟩ := C
  intro H locs ls hP hS hl
  exact va_mmin hx hb (hml.trans hl.1.symm) hown (hts _ hlink) (hts _ mT_J9_min_7cf53) (hts _ mZ_J9) (hts _ mC_J9_min_7cf53) (Nat.le_trans hr.1 hR.1) (Nat.le_trans hr.2 hR.2) (Nat.zero_le _) (Nat.zero_le _) hdg (k H locs ls hP hS hl)
theorem z_mminL (C : Cx X cc own fr lo) {index : Nat} (hlink : Cond.methodLink own index yJ9_min_f86c9 ∈ W0) (hr : 1 ≤ fr ∧ (st.map fun v => v.category).sum + 15 ≤ lo) {x y : Int64} (hdg : decode cc pc = .ok (.invokestatic index, 3))
    (k : Z X w (pc + 3) lv (.long (if y < x then y else x) :: st)) : Z X w pc lv (.long y :: .long x :: st) := by
  obtain ⟨p, l, e, R, s, m, args, below, meth, c, Q, D, tys, A, nL, sg⟩ := X
  obtain ⟨hx, hb, hml, hown, hts, hgd, hR, hK, hSG⟩ := C
  intro H locs ls hP hS hl
  exact va_mmin_long hx hb (hml.trans hl.1.symm) hown (hts _ hlink) (hts _ mT_J9_min_f86c9) (hts _ mZ_J9) (hts _ mC_J9_min_f86c9) (Nat.le_trans hr.1 hR.1) (Nat.le_trans hr.2 hR.2) (Nat.zero_le _) (Nat.zero_le _) hdg (k H locs ls hP hS hl)
end CORE
