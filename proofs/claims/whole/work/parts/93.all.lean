/-! 93.all: the class works out all of it -/
theorem c_look {G : Prg} {a b : Int32} {sc : Nat → Nat → List Nat} {M N : Nat} {id : Nat → Cid} {st : Nat → Nat} {va : Nat → Vl} {B : List Nat} {W : Nat → List Nat} {KS : List Nat} {lk : Nat → Nat} {x : Nat} {u0 u : St} {B' : List Nat} (hw : WFp G) (hsc : ScF G sc) (hSIx : SIx G M N id st B' W x u0 u) (hSM : SMc G a b sc N id st va B W (fun _ => False) (fun _ => False) lk u) (hB' : ∀ z, z ∈ B' ↔ z ∈ B ∧ z ≠ x) (hxB : x ∈ B) (hCN : CNc G N id st KS (cellN N id) u) (hLK : LKc G N id st lk) {P : St → Prop} (ky : ∀ U, RIs G a b sc M u0 (uF lk x (lk x + 1)) U → P U) (ko : ∀ U, OVs G a b M u0 U → P U) : wp_X1_lookAt u (nI x) P := by
  obtain ⟨c1, c2, c3, c4⟩ := hSIx.2.2.2.2.2.2.2
  have hJ := hSIx.2.2.1
  have hN : N ≤ 300 := by have := hJ.1; omega
  have hd := vld_d hJ c1
  have hp := c1.2
  obtain ⟨d1, d2, d3⟩ := WF_d hw hd
  obtain ⟨k1, k2, k3, k4⟩ := hCN
  obtain ⟨l1, l2⟩ := hLK
  refine a_part hw hJ c1 (o_see hSIx (fun U hU eI eA => ?_))
  have hSM2 := M_see (ex := fun _ => False) (mk := fun _ => False) (U := U) hSM c2 hB' c4 (fun i _ => eI i) (fun i hi => eA i (by omega))
  have hCN2 : CNc G N id (uF st x 2) KS (cellN N id) U := by
    refine ⟨by rw [eI 20]; exact k1, k2, fun z => ?_, by rw [eI 19]; exact k4⟩
    rw [k3 z]
    by_cases e : z = x
    · rw [e, uF_s]; exact ⟨fun h => by have := h.2; omega, fun h => by have := h.2; omega⟩
    · rw [uF_o e]
  have hlk4 : lk x + 1 ≤ 4 → ∀ z, uF lk x (lk x + 1) z ≤ 4 := fun h z => by
    by_cases e : z = x
    · rw [e, uF_s]; exact h
    · rw [uF_o e]; exact l1 z
  have hlk0 : ∀ z, (¬ vld G N id z ∨ uF st x 2 z ≤ 1) → uF lk x (lk x + 1) z = 0 := fun z hz => by
    by_cases e : z = x
    · rw [e, uF_s] at hz
      rcases hz with h | h
      · exact absurd c1 h
      · omega
    · rw [uF_o e] at hz ⊢; exact l2 z hz
  by_cases h1 : st x = 1
  · rw [if_pos h1]
    have hl0 : lk x = 0 := l2 x (Or.inr (by omega))
    have hex : (fun z => z = x ∧ st x = 1) = (fun z : Nat => z = x) := funext fun z => propext ⟨fun h => h.1, fun h => ⟨h, h1⟩⟩
    rw [hex] at hSM2
    have hE : InE G a b sc M N id (uF st x 2) va B' W KS (uF lk x (lk x + 1)) x u0 U := ⟨hU, hSM2, hCN2, ⟨hlk4 (by omega), hlk0⟩, by rw [uF_s]; omega⟩
    have hnoj : ∀ j m, j < N → id j ≠ (x % 60, m) :: id (x / 60) := fun j m hj he => by
      have := (hSM.2.2.2.2.2.2.2.1 j _ _ (x / 60) hj he c1.1 rfl).1
      have hx2 : 60 * (x / 60) + (x % 60, m).1 = x := by show 60 * (x / 60) + x % 60 = x; omega
      rw [hx2] at this; omega
    have hC := hU.2.1
    obtain ⟨p1, p2, p3, p4⟩ := (hC.2 _ hd).2.2.2 _ hp
    have hin : vp_in (nI (60 * dfn G (id (x / 60)) + x % 60)) 720 := inN (by omega) (by decide)
    have ky' : ∀ N' id' st' B'' W' V, InL G a b sc M N' id' st' va B'' W' KS (uF lk x (lk x + 1)) x u0 V → id' (x / 60) = id (x / 60) → wp_X1_lookAt_23 V (nI x) (nI (60 * dfn G (id (x / 60)) + x % 60)) P := fun N' id' st' B'' W' V hV he => by
      rw [← he]; exact c_23 hw hsc hV ky ko
    have ko' : ∀ V, OVs G a b M u0 V → wp_X1_lookAt_23 V (nI x) (nI (60 * dfn G (id (x / 60)) + x % 60)) P := fun V hV => br_n (by rw [hV.2.1]; decide) (ko V hV)
    refine br_n (by decide) ⟨hin, nm_i ?_⟩
    rw [ixN (by omega), p1]
    have hkds : gkd G (dfn G (id (x / 60))) (x % 60) = kdS G (slO id x) := rfl
    rw [hkds]
    have hkd : kdS G (slO id x) < 1000 := by
      rcases ((hw.2 _ hd).2.2.2.2 _ hp).2.2 with t | t | t | t | t | t | t | t | t | t
      all_goals first | omega | (have := t.1; simp at this; omega)
    refine br_b (fun c => ?_) (fun c => ⟨hin, ?_⟩)
    · simp (disch := omega) only [ln_0, ln_1, ln_2, ln_3, ln_4, ln_5, ln_6, ln_7, ln_8, ln_9, ln_10, ln_11, ln_12, ln_13, ln_14, ln_15, ln_16, ln_17, ln_18, ln_19, ln_20, ln_21, ln_22, ln_23, ln_24, ln_25, ln_26, ln_27, ln_28, ln_29, ln_30, ln_31, ln_32, ln_33, ln_34, ln_35, ln_36, ln_37, ln_38, ln_39, ln_40, ln_41, ln_42, ln_43, ln_44, ln_45, ln_46, ln_47, ln_48, ln_49, ln_50, ln_51, ln_52, ln_53, ln_54, ln_55, ln_56, ln_57, ln_58, ln_59, ln_60, ln_61, ln_62, ln_91, ln_93, ln_97, ln_122, ln_120, ln_123, ln_124, ln_255, ln_256, ln_300, ln_720, ln_1500, ln_12000, ln_18000, nI_leI, nI_ltI, nI_eq] at c
      have := c_kids (KS := KS) hw hsc (P := fun V => wp_X1_lookAt_23 V (nI x) (nI (60 * dfn G (id (x / 60)) + x % 60)) P) (many := 1) (by rw [if_pos c]) hnoj ky' ko' 1 0 _ _ _ U rfl hE (fun k' hk' => absurd hk' (Nat.not_lt_zero _))
      exact ⟨_, this⟩
    · simp (disch := omega) only [ln_0, ln_1, ln_2, ln_3, ln_4, ln_5, ln_6, ln_7, ln_8, ln_9, ln_10, ln_11, ln_12, ln_13, ln_14, ln_15, ln_16, ln_17, ln_18, ln_19, ln_20, ln_21, ln_22, ln_23, ln_24, ln_25, ln_26, ln_27, ln_28, ln_29, ln_30, ln_31, ln_32, ln_33, ln_34, ln_35, ln_36, ln_37, ln_38, ln_39, ln_40, ln_41, ln_42, ln_43, ln_44, ln_45, ln_46, ln_47, ln_48, ln_49, ln_50, ln_51, ln_52, ln_53, ln_54, ln_55, ln_56, ln_57, ln_58, ln_59, ln_60, ln_61, ln_62, ln_91, ln_93, ln_97, ln_122, ln_120, ln_123, ln_124, ln_255, ln_256, ln_300, ln_720, ln_1500, ln_12000, ln_18000, nI_leI, nI_ltI, nI_eq] at c
      have := c_kids (KS := KS) hw hsc (P := fun V => wp_X1_lookAt_23 V (nI x) (nI (60 * dfn G (id (x / 60)) + x % 60)) P) (many := gnk G (dfn G (id (x / 60))) (x % 60)) (by rw [if_neg c]) hnoj ky' ko' _ 0 _ _ _ U (Nat.zero_add _) hE (fun k' hk' => absurd hk' (Nat.not_lt_zero _))
      exact ⟨gnk G (dfn G (id (x / 60))) (x % 60) + 1, by rw [p3]; exact this⟩
  · rw [if_neg h1]
    have h2 : st x = 2 := by omega
    have hex : (fun z => z = x ∧ st x = 1) = (fun _ : Nat => False) := funext fun z => propext ⟨fun h => h1 h.2, fun h => h.elim⟩
    rw [hex] at hSM2
    obtain ⟨l, o, w, q1, q2, q3⟩ := hSM.2.2.2.2.2.2.2.2.2.1 x hxB h2
    have h13 := Nd_13 q1
    have hX := XM_up (G := G) (N := N) (id := id) (st := st) (st' := uF st x 2) (va := va) (fun z _ hz => by
      by_cases e : z = x
      · rw [e, uF_s]; decide
      · rw [uF_o e]; exact hz) (fun z _ hz => by rw [uF_o (fun e => by rw [e] at hz; omega)]; exact hz)
    exact br_p rfl (c_23 hw hsc ⟨hU, hSM2, hCN2, ⟨hlk4 (by omega), hlk0⟩, Or.inr ⟨l, o, w, Nd_mono hX q1, hX _ q2, by rw [uF_s]; omega⟩⟩ ky ko)
def sumTo (f : Nat → Nat) : Nat → Nat
  | 0 => 0
  | n + 1 => sumTo f n + f n
theorem sumTo_le {f : Nat → Nat} (h : ∀ z, f z ≤ 4) : ∀ n, sumTo f n ≤ 4 * n
  | 0 => Nat.le_refl _
  | n + 1 => by have := sumTo_le h n; have := h n; simp only [sumTo]; omega
theorem sumTo_o {f : Nat → Nat} {x v : Nat} : ∀ n, n ≤ x → sumTo (uF f x v) n = sumTo f n
  | 0, _ => rfl
  | n + 1, h => by simp only [sumTo]; rw [sumTo_o n (by omega), uF_o (by omega)]
theorem sumTo_up {f : Nat → Nat} {x : Nat} : ∀ n, x < n → sumTo (uF f x (f x + 1)) n = sumTo f n + 1
  | 0, h => absurd h (Nat.not_lt_zero _)
  | n + 1, h => by
    simp only [sumTo]
    rcases (show x < n ∨ x = n by omega) with h | h
    · rw [sumTo_up n h, uF_o (by omega)]; omega
    · rw [← h, sumTo_o x (Nat.le_refl _), uF_s]; omega
/-- the end: nothing in the bag -/
def FNs (G : Prg) (a b : Int32) (sc : Nat → Nat → List Nat) (M : Nat) (u0 u : St) : Prop := ∃ (N : Nat) (id : Nat → Cid) (st : Nat → Nat) (va : Nat → Vl) (W : Nat → List Nat) (KS : List Nat) (lk : Nat → Nat), SIc G M N id st [] W (fun _ => False) u0 u ∧ SMc G a b sc N id st va [] W (fun _ => False) (fun _ => False) lk u ∧ CNc G N id st KS (cellN N id) u
theorem c_loop {G : Prg} {a b : Int32} {sc : Nat → Nat → List Nat} {M : Nat} {u0 : St} {S : Nat} (hS : S = 18000) (hw : WFp G) (hsc : ScF G sc) {P : Int32 → St → Prop} (ky : ∀ U, FNs G a b sc M u0 U → wp_X1_workOutAll_56 U P) (ko : ∀ U, OVs G a b M u0 U → P 2 U) : ∀ (f k : Nat) (lk : Nat → Nat) (u : St), k + f = 72001 → sumTo lk S = k → RIs G a b sc M u0 lk u → wp_X1_workOutAll_10 P (f + 1) u (nI k) := by
  intro f
  induction f with
  | zero =>
    intro k lk u hkf hsum ⟨N, id, st, va, B, W, KS, hSI, hSM, hCN, hLK⟩
    have hle := sumTo_le hLK.1 S
    omega
  | succ f ih =>
    intro k lk u hkf hsum ⟨N, id, st, va, B, W, KS, hSI, hSM, hCN, hLK⟩
    have hle := sumTo_le hLK.1 S
    have hb3 := hSI.2.2.2.2.1.1
    obtain ⟨o, b1, b2, b3, b4⟩ := hb3
    have hN : N ≤ 300 := by have := hSI.2.2.1.1; omega
    have hB18 : B.length ≤ 18000 := by
      have := nd_sub B (List.range 18000) hSI.2.2.2.2.1.2.1 (fun z hz => List.mem_range.mpr (vld_lt (hSI.2.2.2.2.1.2.2 z hz).1 hN))
      rw [List.length_range] at this; exact this
    refine br_n (by simp (disch := omega) only [show (1000000 : Int32) = nI 1000000 from rfl, nI_leI, nI_ltI, nI_eq]; omega) (br_p hSM.1.2.2.1 ?_)
    by_cases hB : B = []
    · subst hB
      exact br_p (by rw [b3]; rfl) ⟨bz1, br_n (by decide) (ky u ⟨N, id, st, va, W, KS, lk, hSI, hSM, hCN⟩)⟩
    · have hpos := List.length_pos_iff.mpr hB
      refine br_n (by rw [b3]; simp (disch := omega) only [ln_0, ln_1, ln_2, ln_3, ln_4, ln_5, ln_6, ln_7, ln_8, ln_9, ln_10, ln_11, ln_12, ln_13, ln_14, ln_15, ln_16, ln_17, ln_18, ln_19, ln_20, ln_21, ln_22, ln_23, ln_24, ln_25, ln_26, ln_27, ln_28, ln_29, ln_30, ln_31, ln_32, ln_33, ln_34, ln_35, ln_36, ln_37, ln_38, ln_39, ln_40, ln_41, ln_42, ln_43, ln_44, ln_45, ln_46, ln_47, ln_48, ln_49, ln_50, ln_51, ln_52, ln_53, ln_54, ln_55, ln_56, ln_57, ln_58, ln_59, ln_60, ln_61, ln_62, ln_91, ln_93, ln_97, ln_122, ln_120, ln_123, ln_124, ln_255, ln_256, ln_300, ln_720, ln_1500, ln_12000, ln_18000, nI_leI, nI_ltI, nI_eq]; omega) ⟨bz0, br_p rfl (o_take hSI hB (fun x B' U hxB hB' hSIx eI eA => ?_))⟩
      have hSM' := M_fr (U := U) hSM (fun i hi => eI i (by omega) (by omega) (by omega)) (fun i hi => eA i (by omega))
      have hCN' : CNc G N id st KS (cellN N id) U := ⟨by rw [eI 20 (by decide) (by decide) (by decide)]; exact hCN.1, hCN.2.1, hCN.2.2.1, by rw [eI 19 (by decide) (by decide) (by decide)]; exact hCN.2.2.2⟩
      · refine c_look hw hsc hSIx hSM' hB' hxB hCN' hLK (fun V hV => nm_i ?_) (fun V hV => nm_i ?_)
        · rw [nI_1]
          refine ih (k + 1) _ V (by omega) ?_ hV
          rw [sumTo_up S (by rw [hS]; exact vld_lt (hSI.2.2.2.2.1.2.2 x hxB).1 hN), hsum]
        · have h56 : wp_X1_workOutAll_56 V P := br_n (by rw [hV.2.1]; decide) (ko V hV)
          exact br_b (fun _ => h56) (fun _ => br_n (by rw [hV.2.1]; decide) h56)
