/-! 48.token: the tokens of a tape; the class's advance and the reference's look find them -/
def skF (t : Nat → Nat) (n : Nat) : Nat → Nat → Nat
  | 0, i => i
  | f + 1, i => if i < n ∧ isB (t i) = true then skF t n f (i + 1) else i
def sk (t : Nat → Nat) (n i : Nat) : Nat := skF t n (n - i) i
def rwc (c : Nat) : Bool := isL c || isD c
def rwF (t : Nat → Nat) (n : Nat) : Nat → Nat → Nat
  | 0, i => i
  | f + 1, i => if i < n ∧ rwc (t i) = true then rwF t n f (i + 1) else i
def rwE (t : Nat → Nat) (n i : Nat) : Nat := rwF t n (n - i) i
/-- letters among the first k from p; the number they are; the name they are -/
def clt (t : Nat → Nat) (p : Nat) : Nat → Nat
  | 0 => 0
  | k + 1 => clt t p k + (if isL (t (p + k)) = true then 1 else 0)
def vlt (t : Nat → Nat) (p : Nat) : Nat → Nat
  | 0 => 0
  | k + 1 => vlt t p k * 10 + t (p + k) - 48
def eC (t : Nat → Nat) (p : Nat) : Nat → Nat
  | 0 => 0
  | k + 1 => eC t p k * 256 + t (p + k)
def wk (e : Nat) : Nat := if e = 26982 then 4 else if e = 1952998766 then 5 else if e = 1701606245 then 6 else if e = 7103860 then 7 else if e = 26990 then 8 else if e = 1835101029 then 9 else 2
/-- place, end, kind, of the token at i -/
def tp (t : Nat → Nat) (n i : Nat) : Nat := sk t n i
def te (t : Nat → Nat) (n i : Nat) : Nat := if tp t n i < n then (if rwc (t (tp t n i)) = true then rwE t n (tp t n i) else tp t n i + 1) else tp t n i
def tk (t : Nat → Nat) (n i : Nat) : Nat := if tp t n i < n then (if rwc (t (tp t n i)) = true then (if clt t (tp t n i) (te t n i - tp t n i) = te t n i - tp t n i ∧ te t n i - tp t n i ≤ 8 then wk (eC t (tp t n i) (te t n i - tp t n i)) else if clt t (tp t n i) (te t n i - tp t n i) = 0 ∧ vlt t (tp t n i) (te t n i - tp t n i) ≤ 2147483647 then 3 else 1) else if t (tp t n i) ∈ sgN then t (tp t n i) else 1) else 0
theorem skF_le (t : Nat → Nat) (n : Nat) : ∀ f i, i ≤ skF t n f i ∧ (i + f = n → skF t n f i ≤ n ∧ (skF t n f i < n → isB (t (skF t n f i)) = false)) := by
  intro f
  induction f with
  | zero => intro i; exact ⟨Nat.le_refl _, fun h => ⟨by show i ≤ n; omega, fun h2 => absurd h2 (by show ¬ i < n; omega)⟩⟩
  | succ f ih =>
    intro i
    simp only [skF]
    split
    · next h => exact ⟨by have := (ih (i + 1)).1; omega, fun h2 => (ih (i + 1)).2 (by omega)⟩
    · next h => exact ⟨Nat.le_refl _, fun h2 => ⟨by omega, fun h3 => by cases hb : isB (t i) with
        | false => rfl
        | true => exact absurd ⟨h3, hb⟩ h⟩⟩
theorem sk_le {t : Nat → Nat} {n i : Nat} (h : i ≤ n) : i ≤ sk t n i ∧ sk t n i ≤ n ∧ (sk t n i < n → isB (t (sk t n i)) = false) := ⟨(skF_le t n (n - i) i).1, (skF_le t n (n - i) i).2 (by omega)⟩
theorem sk_step {t : Nat → Nat} {n i : Nat} (h : i < n) (hb : isB (t i) = true) : sk t n (i + 1) = sk t n i := by
  unfold sk
  rw [show n - i = (n - (i + 1)) + 1 by omega]
  simp only [skF]
  rw [if_pos ⟨h, hb⟩]
theorem sk_here {t : Nat → Nat} {n i : Nat} (hb : ¬ (i < n ∧ isB (t i) = true)) : sk t n i = i := by
  unfold sk
  cases hf : n - i with
  | zero => rfl
  | succ f => simp only [skF]; rw [if_neg hb]
theorem rwF_le (t : Nat → Nat) (n : Nat) : ∀ f i, i ≤ rwF t n f i ∧ (i + f = n → rwF t n f i ≤ n) ∧ ∀ j, i ≤ j → j < rwF t n f i → rwc (t j) = true ∧ j < n := by
  intro f
  induction f with
  | zero => intro i; exact ⟨Nat.le_refl _, fun h => by show i ≤ n; omega, fun j h1 h2 => absurd h2 (by show ¬ j < i; omega)⟩
  | succ f ih =>
    intro i
    simp only [rwF]
    split
    · next h =>
      refine ⟨by have := (ih (i + 1)).1; omega, fun h2 => (ih (i + 1)).2.1 (by omega), fun j h1 h2 => ?_⟩
      by_cases hj : j = i
      · rw [hj]; exact ⟨h.2, h.1⟩
      · exact (ih (i + 1)).2.2 j (by omega) h2
    · next h => exact ⟨Nat.le_refl _, fun h2 => by omega, fun j h1 h2 => by omega⟩
theorem rw_le {t : Nat → Nat} {n i : Nat} (h : i ≤ n) : i ≤ rwE t n i ∧ rwE t n i ≤ n ∧ ∀ j, i ≤ j → j < rwE t n i → rwc (t j) = true ∧ j < n := ⟨(rwF_le t n (n - i) i).1, (rwF_le t n (n - i) i).2.1 (by omega), (rwF_le t n (n - i) i).2.2⟩
theorem rw_step {t : Nat → Nat} {n i : Nat} (h : i < n) (hb : rwc (t i) = true) : rwE t n (i + 1) = rwE t n i := by
  unfold rwE
  rw [show n - i = (n - (i + 1)) + 1 by omega]
  simp only [rwF]
  rw [if_pos ⟨h, hb⟩]
theorem rw_here {t : Nat → Nat} {n i : Nat} (hb : ¬ (i < n ∧ rwc (t i) = true)) : rwE t n i = i := by
  unfold rwE
  cases hf : n - i with
  | zero => rfl
  | succ f => simp only [rwF]; rw [if_neg hb]
theorem tp_te {t : Nat → Nat} {n i : Nat} (h : i ≤ n) : i ≤ tp t n i ∧ tp t n i ≤ te t n i ∧ te t n i ≤ n ∧ (tp t n i < n → tp t n i < te t n i) := by
  have h1 := sk_le (t := t) h
  unfold te
  split
  · next h2 =>
    split
    · next h3 =>
      have h4 := rw_le (t := t) (i := tp t n i) (Nat.le_of_lt h2)
      have h5 := rw_step h2 h3
      have h6 := rw_le (t := t) (i := tp t n i + 1) h2
      exact ⟨h1.1, h4.1, h4.2.1, fun _ => by omega⟩
    · exact ⟨h1.1, by omega, h2, fun _ => by omega⟩
  · next h2 => exact ⟨h1.1, Nat.le_refl _, h1.2.1, fun h3 => absurd h3 h2⟩
theorem tk_end {t : Nat → Nat} {n i : Nat} (h : i ≤ n) : tk t n i = 0 ↔ tp t n i = n := by
  have h1 := sk_le (t := t) h
  unfold tk wk
  constructor
  · intro h2
    by_cases h3 : tp t n i < n
    · rw [if_pos h3] at h2
      split at h2
      · split at h2
        · repeat' split at h2 <;> try omega
        · split at h2 <;> omega
      · split at h2
        · next hm => rw [h2] at hm; exact absurd hm (by decide)
        · omega
    · show tp t n i = n
      have : tp t n i ≤ n := h1.2.1
      omega
  · intro h2; rw [if_neg (by omega)]
/-- what is not changed: all but the token's own numbers -/
def FrC (u U : St) : Prop := (∀ k, k ≠ 7 → k ≠ 9 → k ≠ 10 → k ≠ 11 → gI U k = gI u k) ∧ (∀ k, k ≠ 0 → gL U k = gL u k) ∧ (∀ k, gA U k = gA u k) ∧ ∀ k, gB U k = gB u k
def FrM (u U : St) : Prop := (∀ k, k ≠ 4 → k ≠ 5 → k ≠ 6 → k ≠ 7 → gI U k = gI u k) ∧ (∀ k, k ≠ 0 → gL U k = gL u k) ∧ (∀ k, gA U k = gA u k) ∧ ∀ k, gB U k = gB u k
theorem FrC.rf {u : St} : FrC u u := ⟨fun _ _ _ _ _ => rfl, fun _ _ => rfl, fun _ => rfl, fun _ => rfl⟩
theorem FrM.rf {u : St} : FrM u u := ⟨fun _ _ _ _ _ => rfl, fun _ _ => rfl, fun _ => rfl, fun _ => rfl⟩
theorem FrC.tr {u v w : St} (h : FrC u v) (h2 : FrC v w) : FrC u w := ⟨fun k a b c d => (h2.1 k a b c d).trans (h.1 k a b c d), fun k a => (h2.2.1 k a).trans (h.2.1 k a), fun k => (h2.2.2.1 k).trans (h.2.2.1 k), fun k => (h2.2.2.2 k).trans (h.2.2.2 k)⟩
theorem FrM.tr {u v w : St} (h : FrM u v) (h2 : FrM v w) : FrM u w := ⟨fun k a b c d => (h2.1 k a b c d).trans (h.1 k a b c d), fun k a => (h2.2.1 k a).trans (h.2.1 k a), fun k => (h2.2.2.1 k).trans (h.2.2.1 k), fun k => (h2.2.2.2 k).trans (h.2.2.2 k)⟩
theorem FrC.i {u : St} {k : Nat} (v : Int32) (h : k = 7 ∨ k = 9 ∨ k = 10 ∨ k = 11) : FrC u (sI u k v) := ⟨fun j a b c d => by rw [gI_sI, if_neg (by omega)], fun _ _ => rfl, fun _ => rfl, fun _ => rfl⟩
theorem FrM.i {u : St} {k : Nat} (v : Int32) (h : k = 4 ∨ k = 5 ∨ k = 6 ∨ k = 7) : FrM u (sI u k v) := ⟨fun j a b c d => by rw [gI_sI, if_neg (by omega)], fun _ _ => rfl, fun _ => rfl, fun _ => rfl⟩
theorem FrC.l {u : St} (v : Int64) : FrC u (sL u 0 v) := ⟨fun _ _ _ _ _ => rfl, fun j h => by rw [gL_sL, if_neg h], fun _ => rfl, fun _ => rfl⟩
theorem FrM.l {u : St} (v : Int64) : FrM u (sL u 0 v) := ⟨fun _ _ _ _ _ => rfl, fun j h => by rw [gL_sL, if_neg h], fun _ => rfl, fun _ => rfl⟩
theorem TpC.fr {u U : St} {t : Nat → Nat} {n : Nat} (h : TpC u t n) (f : FrC u U) : TpC U t n := ⟨h.1, by rw [f.1 8 (by decide) (by decide) (by decide) (by decide)]; exact h.2.1, fun i hi => ⟨(h.2.2 i hi).1, by rw [f.2.2.1]; exact (h.2.2 i hi).2⟩⟩
theorem TpM.fr {u U : St} {t : Nat → Nat} {n : Nat} (h : TpM u t n) (f : FrM u U) : TpM U t n := ⟨h.1, by rw [f.1 1 (by decide) (by decide) (by decide) (by decide)]; exact h.2.1, fun i hi => ⟨(h.2.2 i hi).1, by rw [f.2.2.1]; exact (h.2.2 i hi).2⟩⟩
def TkC (U : St) (t : Nat → Nat) (n i : Nat) : Prop := gI U 10 = nI (tp t n i) ∧ gI U 7 = nI (te t n i) ∧ gI U 9 = nI (tk t n i) ∧ (tk t n i = 2 ∨ (4 ≤ tk t n i ∧ tk t n i ≤ 9) → gL U 0 = lN (eC t (tp t n i) (te t n i - tp t n i))) ∧ (tk t n i = 3 → gI U 11 = nI (vlt t (tp t n i) (te t n i - tp t n i)))
