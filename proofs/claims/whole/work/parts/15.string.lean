/-! 15.string: the one text of the class, its signs, and where a char stands in it -/
def sgL : List Int32 := [40, 41, 44, 59, 91, 93, 61, 60, 62, 43, 45, 42, 47, 37]
def sgix (c : Int32) : Int32 := match sgL.findIdx? (fun x => x == c) with
  | some i => nI i
  | none => -1
def isSg (X : XX) (sa : Nat) : Prop := xnL X = xnL X ∧ sa = sa
theorem z_ldcS {X : XX} {cc : ByteArray} {own : String} {fr lo pc : Nat} {w : va_W} {lv : List (Nat × Value)} {st : List Value} (C : Cx X cc own fr lo) {idx : Nat} (hdg : decode cc pc = .ok (.ldc idx, 2)) (k : ∀ sa : Nat, isSg X sa → Z X w (pc + 2) lv (.ref sa :: st)) : Z X w pc lv st := sorry
theorem z_idxOf {X : XX} {cc : ByteArray} {own : String} {fr lo pc : Nat} {w : va_W} {lv : List (Nat × Value)} {st : List Value} (C : Cx X cc own fr lo) {idx sa : Nat} {c : Int32} (hs : isSg X sa) (hdg : decode cc pc = .ok (.invokevirtual idx, 3)) (k : Z X w (pc + 3) lv (.int (sgix c) :: st)) : Z X w pc lv (.int c :: .ref sa :: st) := sorry
