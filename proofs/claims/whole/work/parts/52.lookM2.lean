/-! 52.lookM2: the reference's rows -/
def mw (t : Nat → Nat) (p k : Nat) : Nat := if k ≤ 8 ∧ wk (eC t p k) ≠ 2 then wk (eC t p k) - 3 else 0
theorem wordM {v : St} {t : Nat → Nat} {n p k : Nat} (hT : TpM v t n) (hpk : p + k ≤ n) (h4 : gI v 4 = nI p) (h5 : gI v 5 = nI (p + k)) (hk : clt t p k = k) (hk0 : 0 < k) {P : Int32 → St → Prop} (hp : P (nI (mw t p k)) v) : wp_X7_wordOf v P := by
  have key : ∀ (w e : Nat), w ≠ 2 → (k ≤ 8 → eC t p k = e) → k ≤ 8 → wk e = w → P (nI (w - 3)) v := fun w e hw he h8 hwk => by
    unfold mw at hp
    rw [he h8, hwk, if_pos ⟨h8, hw⟩] at hp; exact hp
  refine isM hT hpk h4 h5 hk hk0 (decide (k = 2 ∧ t p = 105 ∧ t (p + 1) = 102)) (l := 2) (Or.inl ⟨rfl, rfl, rfl⟩) (by decide) (by decide) (by decide) (by decide) (by simp) ?_
  refine br_b (fun c1 => ?_) (fun c1 => ?_)
  rotate_left
  · have h := of_decide_eq_true (by cases hb : decide (k = 2 ∧ t p = 105 ∧ t (p + 1) = 102) with
      | true => rfl
      | false => rw [hb] at c1; exact absurd rfl c1)
    exact key 4 26982 (by decide) (fun h8 => (spell hk h8 hk0).1.mpr h) (by omega) rfl
  have n1 : ¬ (k = 2 ∧ t p = 105 ∧ t (p + 1) = 102) := fun h => by rw [decide_eq_true h] at c1; exact absurd c1 (by decide)
  refine isM hT hpk h4 h5 hk hk0 (decide (k = 4 ∧ t p = 116 ∧ t (p + 1) = 104 ∧ t (p + 2) = 101 ∧ t (p + 3) = 110)) (l := 4) (Or.inr (Or.inr ⟨rfl, by decide, by decide⟩)) (by decide) (by decide) (by decide) (by decide) (by simp) ?_
  refine br_b (fun c2 => ?_) (fun c2 => ?_)
  rotate_left
  · have h := of_decide_eq_true (by cases hb : decide (k = 4 ∧ t p = 116 ∧ t (p + 1) = 104 ∧ t (p + 2) = 101 ∧ t (p + 3) = 110) with
      | true => rfl
      | false => rw [hb] at c2; exact absurd rfl c2)
    exact key 5 1952998766 (by decide) (fun h8 => (spell hk h8 hk0).2.1.mpr h) (by omega) rfl
  have n2 : ¬ (k = 4 ∧ t p = 116 ∧ t (p + 1) = 104 ∧ t (p + 2) = 101 ∧ t (p + 3) = 110) := fun h => by rw [decide_eq_true h] at c2; exact absurd c2 (by decide)
  refine isM hT hpk h4 h5 hk hk0 (decide (k = 4 ∧ t p = 101 ∧ t (p + 1) = 108 ∧ t (p + 2) = 115 ∧ t (p + 3) = 101)) (l := 4) (Or.inr (Or.inr ⟨rfl, by decide, by decide⟩)) (by decide) (by decide) (by decide) (by decide) (by simp) ?_
  refine br_b (fun c3 => ?_) (fun c3 => ?_)
  rotate_left
  · have h := of_decide_eq_true (by cases hb : decide (k = 4 ∧ t p = 101 ∧ t (p + 1) = 108 ∧ t (p + 2) = 115 ∧ t (p + 3) = 101) with
      | true => rfl
      | false => rw [hb] at c3; exact absurd rfl c3)
    exact key 6 1701606245 (by decide) (fun h8 => (spell hk h8 hk0).2.2.1.mpr h) (by omega) rfl
  have n3 : ¬ (k = 4 ∧ t p = 101 ∧ t (p + 1) = 108 ∧ t (p + 2) = 115 ∧ t (p + 3) = 101) := fun h => by rw [decide_eq_true h] at c3; exact absurd c3 (by decide)
  refine isM hT hpk h4 h5 hk hk0 (decide (k = 3 ∧ t p = 108 ∧ t (p + 1) = 101 ∧ t (p + 2) = 116)) (l := 3) (Or.inr (Or.inl ⟨rfl, rfl, by decide⟩)) (by decide) (by decide) (by decide) (by decide) (by simp) ?_
  refine br_b (fun c4 => ?_) (fun c4 => ?_)
  rotate_left
  · have h := of_decide_eq_true (by cases hb : decide (k = 3 ∧ t p = 108 ∧ t (p + 1) = 101 ∧ t (p + 2) = 116) with
      | true => rfl
      | false => rw [hb] at c4; exact absurd rfl c4)
    exact key 7 7103860 (by decide) (fun h8 => (spell hk h8 hk0).2.2.2.1.mpr h) (by omega) rfl
  have n4 : ¬ (k = 3 ∧ t p = 108 ∧ t (p + 1) = 101 ∧ t (p + 2) = 116) := fun h => by rw [decide_eq_true h] at c4; exact absurd c4 (by decide)
  refine isM hT hpk h4 h5 hk hk0 (decide (k = 2 ∧ t p = 105 ∧ t (p + 1) = 110)) (l := 2) (Or.inl ⟨rfl, rfl, rfl⟩) (by decide) (by decide) (by decide) (by decide) (by simp) ?_
  refine br_b (fun c5 => ?_) (fun c5 => ?_)
  rotate_left
  · have h := of_decide_eq_true (by cases hb : decide (k = 2 ∧ t p = 105 ∧ t (p + 1) = 110) with
      | true => rfl
      | false => rw [hb] at c5; exact absurd rfl c5)
    exact key 8 26990 (by decide) (fun h8 => (spell hk h8 hk0).2.2.2.2.1.mpr h) (by omega) rfl
  have n5 : ¬ (k = 2 ∧ t p = 105 ∧ t (p + 1) = 110) := fun h => by rw [decide_eq_true h] at c5; exact absurd c5 (by decide)
  refine isM hT hpk h4 h5 hk hk0 (decide (k = 4 ∧ t p = 109 ∧ t (p + 1) = 97 ∧ t (p + 2) = 107 ∧ t (p + 3) = 101)) (l := 4) (Or.inr (Or.inr ⟨rfl, by decide, by decide⟩)) (by decide) (by decide) (by decide) (by decide) (by simp) ?_
  refine br_b (fun c6 => ?_) (fun c6 => ?_)
  rotate_left
  · have h := of_decide_eq_true (by cases hb : decide (k = 4 ∧ t p = 109 ∧ t (p + 1) = 97 ∧ t (p + 2) = 107 ∧ t (p + 3) = 101) with
      | true => rfl
      | false => rw [hb] at c6; exact absurd rfl c6)
    exact key 9 1835101029 (by decide) (fun h8 => (spell hk h8 hk0).2.2.2.2.2.mpr h) (by omega) rfl
  have n6 : ¬ (k = 4 ∧ t p = 109 ∧ t (p + 1) = 97 ∧ t (p + 2) = 107 ∧ t (p + 3) = 101) := fun h => by rw [decide_eq_true h] at c6; exact absurd c6 (by decide)
  have e : mw t p k = 0 := by
    unfold mw
    by_cases h8 : k ≤ 8
    · obtain ⟨s1, s2, s3, s4, s5, s6⟩ := spell hk h8 hk0
      have : wk (eC t p k) = 2 := by
        unfold wk
        rw [if_neg (fun h => n1 (s1.mp h)), if_neg (fun h => n2 (s2.mp h)), if_neg (fun h => n3 (s3.mp h)), if_neg (fun h => n4 (s4.mp h)), if_neg (fun h => n5 (s5.mp h)), if_neg (fun h => n6 (s6.mp h))]
      rw [this]; simp
    · rw [if_neg (fun h => h8 h.1)]
  rw [e] at hp; exact hp
theorem isRowX {v : St} {t : Nat → Nat} {n i : Nat} {x : Int32} (hT : TpM v t n) (hi : i ≤ n) (hx : x = nI i) {P : Int32 → St → Prop} (hp : P (b2i (decide (i < n) && rwc (t i))) v) : wp_X7_isRow v x P := by
  rw [hx]; exact isRowM hT hi hp
theorem rk_r (t : Nat → Nat) (p k : Nat) : rk t p k ≤ 9 ∧ 1 ≤ rk t p k := by
  unfold rk
  have := wk_r (eC t p k)
  split
  · omega
  · split <;> omega
theorem rowM_end {v : St} {t : Nat → Nat} {n p k : Nat} (hT : TpM v t n) (hpk : p + k ≤ n) (h4 : gI v 4 = nI p) (h5 : gI v 5 = nI (p + k)) (hk0 : 0 < k) {c : Nat} (hc : gL v 0 = lN c) (hcb : c < 2 ^ 35) (hc0 : clt t p k = 0 → (vlt t p k ≤ 2147483647 → c = vlt t p k) ∧ (2147483647 < vlt t p k → 2147483647 < c)) :
    ∃ V : St, (∀ P : St → Prop, P V → br (b2i (decide (clt t p k = k)) = 0) (wp_X7_look_330 v (b2i (decide (clt t p k = k))) (b2i (decide (clt t p k = 0))) 0 P) (wp_X7_wordOf v (fun (r36 : Int32) (u35 : St) => wp_X7_look_330 u35 (b2i (decide (clt t p k = k))) (b2i (decide (clt t p k = 0))) r36 P))) ∧ FrM v V ∧ gI V 4 = nI p ∧ gI V 5 = nI (p + k) ∧ gI V 6 = nI (mt (rk t p k)) ∧ (4 ≤ rk t p k ∧ rk t p k ≤ 9 → gI V 7 = nI (rk t p k - 3)) ∧ (rk t p k = 3 → gL V 0 = lN (vlt t p k)) := by
  have hn : n ≤ 1500 := hT.1
  have hcl := clt_le t p k
  have hsub : ∀ y : Int32, gI (sI v 7 y) 5 - gI (sI v 7 y) 4 = nI k := fun y => by show gI v 5 - gI v 4 = _; rw [h5, h4, pk_sub (by omega)]; congr 1; omega
  by_cases hall : clt t p k = k
  · have e1 : b2i (decide (clt t p k = k)) = 1 := by rw [decide_eq_true hall]; rfl
    have e2 : b2i (decide (clt t p k = 0)) = 0 := by rw [decide_eq_false (by omega)]; rfl
    rw [e1, e2]
    by_cases hw : k ≤ 8 ∧ wk (eC t p k) ≠ 2
    · have hwr := wk_r (eC t p k)
      have emw : mw t p k = wk (eC t p k) - 3 := by unfold mw; rw [if_pos hw]
      have erk : rk t p k = wk (eC t p k) := by unfold rk; rw [if_pos ⟨hall, hw.1⟩]
      refine ⟨sI (sI v 7 (nI (mw t p k))) 6 3, fun P hp => br_n (by decide) (wordM hT hpk h4 h5 hall hk0 (nm_i (br_n ?_ (nm_i hp)))), FrM.tr (FrM.i _ (by omega)) (FrM.i _ (by omega)), h4, h5, ?_, fun _ => ?_, fun h => by omega⟩
      · show ¬ nI (mw t p k) ≤ 0
        exact nI_nle (by omega) (by omega)
      · rw [erk]; unfold mt; rw [if_neg (by omega), if_neg (by omega), if_neg (by omega), if_neg (by omega), if_pos (by omega)]; rfl
      · rw [erk, ← emw]; rfl
    · have emw : mw t p k = 0 := by unfold mw; rw [if_neg hw]
      by_cases h8 : k ≤ 8
      · have hwk : wk (eC t p k) = 2 := by
          by_cases h : wk (eC t p k) = 2
          · exact h
          · exact absurd ⟨h8, h⟩ hw
        have erk : rk t p k = 2 := by unfold rk; rw [if_pos ⟨hall, h8⟩]; exact hwk
        refine ⟨sI (sI v 7 (nI (mw t p k))) 6 1, fun P hp => br_n (by decide) (wordM hT hpk h4 h5 hall hk0 (nm_i (br_p ?_ (br_n (by decide) (br_n ?_ (nm_i hp)))))), FrM.tr (FrM.i _ (by omega)) (FrM.i _ (by omega)), h4, h5, by rw [erk]; rfl, fun h => by omega, fun h => by omega⟩
        · show nI (mw t p k) ≤ 0; rw [emw]; decide
        · rw [hsub]; simp (disch := omega) only [ln_0, ln_1, ln_2, ln_3, ln_4, ln_5, ln_6, ln_7, ln_8, ln_9, ln_10, ln_11, ln_12, ln_13, ln_14, ln_15, ln_16, ln_17, ln_18, ln_19, ln_20, ln_21, ln_22, ln_23, ln_24, ln_25, ln_26, ln_27, ln_28, ln_29, ln_30, ln_31, ln_32, ln_33, ln_34, ln_35, ln_36, ln_37, ln_38, ln_39, ln_40, ln_41, ln_42, ln_43, ln_44, ln_45, ln_46, ln_47, ln_48, ln_49, ln_50, ln_51, ln_52, ln_53, ln_54, ln_55, ln_56, ln_57, ln_58, ln_59, ln_60, ln_61, ln_62, ln_91, ln_93, ln_97, ln_122, ln_120, ln_123, ln_124, ln_255, ln_256, ln_300, ln_720, ln_1500, ln_12000, ln_18000, nI_leI, nI_ltI, nI_eq]; omega
      · have erk : rk t p k = 1 := by unfold rk; rw [if_neg (fun h => h8 h.2), if_neg (fun h => by omega)]
        refine ⟨sI (sI v 7 (nI (mw t p k))) 6 5, fun P hp => br_n (by decide) (wordM hT hpk h4 h5 hall hk0 (nm_i (br_p ?_ (br_n (by decide) (br_p ?_ (br_p rfl (nm_i hp))))))), FrM.tr (FrM.i _ (by omega)) (FrM.i _ (by omega)), h4, h5, by rw [erk]; rfl, fun h => by omega, fun h => by omega⟩
        · show nI (mw t p k) ≤ 0; rw [emw]; decide
        · rw [hsub]; simp (disch := omega) only [ln_0, ln_1, ln_2, ln_3, ln_4, ln_5, ln_6, ln_7, ln_8, ln_9, ln_10, ln_11, ln_12, ln_13, ln_14, ln_15, ln_16, ln_17, ln_18, ln_19, ln_20, ln_21, ln_22, ln_23, ln_24, ln_25, ln_26, ln_27, ln_28, ln_29, ln_30, ln_31, ln_32, ln_33, ln_34, ln_35, ln_36, ln_37, ln_38, ln_39, ln_40, ln_41, ln_42, ln_43, ln_44, ln_45, ln_46, ln_47, ln_48, ln_49, ln_50, ln_51, ln_52, ln_53, ln_54, ln_55, ln_56, ln_57, ln_58, ln_59, ln_60, ln_61, ln_62, ln_91, ln_93, ln_97, ln_122, ln_120, ln_123, ln_124, ln_255, ln_256, ln_300, ln_720, ln_1500, ln_12000, ln_18000, nI_leI, nI_ltI, nI_eq]; omega
  · have e1 : b2i (decide (clt t p k = k)) = 0 := by rw [decide_eq_false hall]; rfl
    rw [e1]
    by_cases h0 : clt t p k = 0
    · have e2 : b2i (decide (clt t p k = 0)) = 1 := by rw [decide_eq_true h0]; rfl
      rw [e2]
      have e4 : (0 < lg_cmp (gL v 0) 2147483647) ↔ 2147483647 < c := by
        rw [lg_cmp_gt, hc]; exact pk_lLT (a := 2147483647) (by decide) (by omega)
      by_cases hv : vlt t p k ≤ 2147483647
      · have hcv := (hc0 h0).1 hv
        have erk : rk t p k = 3 := by unfold rk; rw [if_neg (fun h => hall h.1), if_pos ⟨h0, hv⟩]
        refine ⟨sI (sI v 7 0) 6 2, fun P hp => br_p rfl (nm_i (br_p (by show (0 : Int32) ≤ 0; decide) (br_p rfl (br_n (by decide) (br_n (by show ¬ 0 < lg_cmp (gL v 0) 2147483647; rw [e4]; omega) (nm_i hp)))))), FrM.tr (FrM.i _ (by omega)) (FrM.i _ (by omega)), h4, h5, by rw [erk]; rfl, fun h => by omega, fun _ => by show gL v 0 = _; rw [hc, hcv]⟩
      · have erk : rk t p k = 1 := by unfold rk; rw [if_neg (fun h => hall h.1), if_neg (fun h => hv h.2)]
        refine ⟨sI (sI v 7 0) 6 5, fun P hp => br_p rfl (nm_i (br_p (by show (0 : Int32) ≤ 0; decide) (br_p rfl (br_n (by decide) (br_p (by show 0 < lg_cmp (gL v 0) 2147483647; rw [e4]; exact (hc0 h0).2 (by omega)) (nm_i hp)))))), FrM.tr (FrM.i _ (by omega)) (FrM.i _ (by omega)), h4, h5, by rw [erk]; rfl, fun h => by omega, fun h => by omega⟩
    · have e2 : b2i (decide (clt t p k = 0)) = 0 := by rw [decide_eq_false h0]; rfl
      rw [e2]
      have erk : rk t p k = 1 := by unfold rk; rw [if_neg (fun h => hall h.1), if_neg (fun h => h0 h.1)]
      refine ⟨sI (sI v 7 0) 6 5, fun P hp => br_p rfl (nm_i (br_p (by show (0 : Int32) ≤ 0; decide) (br_p rfl (br_p rfl (nm_i hp))))), FrM.tr (FrM.i _ (by omega)) (FrM.i _ (by omega)), h4, h5, by rw [erk]; rfl, fun h => by omega, fun h => by omega⟩
theorem rowM {t : Nat → Nat} {n p : Nat} : ∀ (f k : Nat) (v : St) (c : Nat), TpM v t n → n - (p + k) = f → p + k ≤ n → gI v 4 = nI p → gI v 5 = nI (p + k) → gL v 0 = lN c → c < 2 ^ 35 → (clt t p k = 0 → (vlt t p k ≤ 2147483647 → c = vlt t p k) ∧ (2147483647 < vlt t p k → 2147483647 < c)) → (0 < k ∨ (p < n ∧ rwc (t p) = true)) →
    ∃ V : St, (∀ P : St → Prop, P V → ∃ m, wp_X7_look_198 P m v (b2i (decide (clt t p k = k))) (b2i (decide (clt t p k = 0)))) ∧ FrM v V ∧ gI V 4 = nI p ∧ gI V 5 = nI (rwE t n (p + k)) ∧ gI V 6 = nI (mt (rk t p (rwE t n (p + k) - p))) ∧ (4 ≤ rk t p (rwE t n (p + k) - p) ∧ rk t p (rwE t n (p + k) - p) ≤ 9 → gI V 7 = nI (rk t p (rwE t n (p + k) - p) - 3)) ∧ (rk t p (rwE t n (p + k) - p) = 3 → gL V 0 = lN (vlt t p (rwE t n (p + k) - p))) := by
  intro f
  induction f with
  | zero =>
    intro k v c hT hf hpk h4 h5 hc hcb hc0 hk
    have e : rwE t n (p + k) = p + k := rw_here (by omega)
    rw [e, show p + k - p = k by omega]
    obtain ⟨V, h1, h2⟩ := rowM_end hT hpk h4 h5 (by omega) hc hcb hc0
    refine ⟨V, fun P hp => ⟨1, ?_⟩, h2⟩
    unfold wp_X7_look_198 wp_X7_look_198s; refine isRowX hT hpk h5 ?_
    rw [show (decide (p + k < n) && rwc (t (p + k))) = false by simp; omega]
    exact br_p rfl (h1 P hp)
  | succ f ih =>
    intro k v c hT hf hpk h4 h5 hc hcb hc0 hk
    have hn : n ≤ 1500 := hT.1
    have hlt : p + k < n := by omega
    have hcl := clt_le t p k
    obtain ⟨hc256, hb⟩ := hT.2.2 (p + k) hlt
    have hix : ix (gI v 5) = p + k := by rw [h5, ixN (by omega)]
    have hin : vp_in (gI v 5) 1500 := by rw [h5]; exact inN (by omega) (by decide)
    cases hr : rwc (t (p + k)) with
    | false =>
      have e : rwE t n (p + k) = p + k := rw_here (by rw [hr]; simp)
      have hk0 : 0 < k := by
        rcases hk with h | ⟨h, h2⟩
        · exact h
        · by_cases hk0 : k = 0
          · subst hk0; rw [Nat.add_zero] at hr; rw [hr] at h2; cases h2
          · omega
      rw [e, show p + k - p = k by omega]
      obtain ⟨V, h1, h2⟩ := rowM_end hT hpk h4 h5 hk0 hc hcb hc0
      refine ⟨V, fun P hp => ⟨1, ?_⟩, h2⟩
      unfold wp_X7_look_198 wp_X7_look_198s; refine isRowX hT hpk h5 ?_
      rw [show (decide (p + k < n) && rwc (t (p + k))) = false by simp [hr]]
      exact br_p rfl (h1 P hp)
    | true =>
      have estep : rwE t n (p + k) = rwE t n (p + (k + 1)) := (rw_step hlt hr).symm
      have hcb128 : 48 ≤ t (p + k) ∧ t (p + k) ≤ 122 := by
        cases hL : isL (t (p + k)) with
        | true => have := isL_b hL; omega
        | false => have := isD_b (show isD (t (p + k)) = true by simpa [rwc, hL] using hr); omega
      have hmb : mb (t (p + k)) = nI (t (p + k)) := ch_lt _ (by omega) (by omega)
      rw [estep]
      have e10 : (lg_cmp (gL v 0) 2147483647 ≤ 0) ↔ c ≤ 2147483647 := by
        rw [lg_cmp_le, hc]; exact pk_lLE (b := 2147483647) (by omega) (by decide)
      -- the number behind this byte
      obtain ⟨c2, hc2, hc2b, hc2v⟩ : ∃ c2 : Nat, c2 = (if c ≤ 2147483647 then 10 * c + t (p + k) - 48 else c) ∧ c2 < 2 ^ 35 ∧ (clt t p (k + 1) = 0 → (vlt t p (k + 1) ≤ 2147483647 → c2 = vlt t p (k + 1)) ∧ (2147483647 < vlt t p (k + 1) → 2147483647 < c2)) := by
        refine ⟨_, rfl, by split <;> omega, fun h => ?_⟩
        have h0 : clt t p k = 0 := by simp only [clt] at h; split at h <;> omega
        have := hc0 h0
        simp only [vlt]
        split <;> omega
      obtain ⟨V, h1, h2, h3⟩ := ih (k + 1) (sI (sL v 0 (lN c2)) 5 (gI v 5 + 1)) c2 (hT.fr (FrM.tr (FrM.l _) (FrM.i _ (by omega)))) (by omega) (by omega) h4 (by show gI v 5 + 1 = _; rw [h5, nI_1]; rfl) rfl hc2b hc2v (Or.inl (by omega))
      refine ⟨V, fun P hp => ?_, FrM.tr (FrM.tr (FrM.l _) (FrM.i _ (by omega))) h2, h3⟩
      obtain ⟨m, hm⟩ := h1 P hp
      have h258 : wp_X7_look_258 (wp_X7_look_198 P m) v (b2i (decide (clt t p (k + 1) = k + 1))) (b2i (decide (clt t p (k + 1) = 0))) P := by
        have h301 : wp_X7_look_301 (wp_X7_look_198 P m) v (b2i (decide (clt t p (k + 1) = k + 1))) (b2i (decide (clt t p (k + 1) = 0))) (lN c2) P := nm_i (nm_i hm)
        refine br_b (fun hle => ⟨hin, ?_⟩) (fun hle => ?_)
        · rw [hix, hb, hmb, hc, nI_l (by omega)]
          have hle := e10.mp hle
          have e1 : (10 * lN c + lN (t (p + k)) - 48 : Int64) = lN c2 := by
            show lN 10 * lN c + lN (t (p + k)) - lN 48 = _
            rw [lN_mul, lN_add, lN_sub (by omega), hc2, if_pos hle]
          rw [e1]; exact h301
        · have hle := fun h => hle (e10.mpr h)
          rw [hc]
          rw [hc2, if_neg hle] at h301; exact h301
      have h233 : ∀ y : Int32, y = b2i (decide (clt t p (k + 1) = k + 1)) → wp_X7_look_233 (wp_X7_look_198 P m) v (b2i (decide (clt t p k = 0))) y P := by
        intro y hy
        rw [hy]
        refine br_b (fun hz => ?_) (fun hz => ⟨hin, wpX7_di ?_⟩)
        · have hz := of_decide_eq_false (b2i0.mp hz)
          have : clt t p (k + 1) ≠ 0 := by simp only [clt]; split <;> omega
          rw [decide_eq_false this] at h258; exact h258
        · rw [hix, hb, (ch_di _ hc256).2]
          have hz : clt t p k = 0 := by
            cases hd : decide (clt t p k = 0) with
            | true => exact of_decide_eq_true hd
            | false => rw [hd] at hz; exact absurd rfl hz
          refine br_b (fun hd => ?_) (fun hd => ?_)
          · have hd := b2i0.mp hd
            have hL : isL (t (p + k)) = true := by simpa [rwc, hd] using hr
            have : clt t p (k + 1) ≠ 0 := by simp only [clt]; rw [if_pos hL]; omega
            rw [decide_eq_false this] at h258; exact h258
          · have hD : isD (t (p + k)) = true := by
              cases hdd : isD (t (p + k)) with
              | true => rfl
              | false => rw [hdd] at hd; exact absurd rfl hd
            have hL : isL (t (p + k)) = false := by
              cases hLL : isL (t (p + k)) with
              | false => rfl
              | true => have := isL_b hLL; have := isD_b hD; omega
            have : clt t p (k + 1) = 0 := by simp only [clt]; rw [if_neg (by rw [hL]; decide), hz]
            rw [decide_eq_true this] at h258; exact h258
      refine ⟨m + 1, ?_⟩
      unfold wp_X7_look_198 wp_X7_look_198s; refine isRowX hT hpk h5 ?_
      rw [show (decide (p + k < n) && rwc (t (p + k))) = true by simp [hr, hlt]]
      refine br_n (by decide) (br_b (fun hz => ?_) (fun hz => ⟨hin, wpX7_le ?_⟩))
      · have hz := of_decide_eq_false (b2i0.mp hz)
        refine h233 0 ?_
        have : clt t p (k + 1) ≠ k + 1 := by simp only [clt]; split <;> omega
        rw [decide_eq_false this]; rfl
      · rw [hix, hb, (ch_le _ hc256).2]
        have hz : clt t p k = k := by
          cases hd : decide (clt t p k = k) with
          | true => exact of_decide_eq_true hd
          | false => rw [hd] at hz; exact absurd rfl hz
        refine br_b (fun hL => ?_) (fun hL => ?_)
        · have hL := b2i0.mp hL
          refine h233 0 ?_
          have : clt t p (k + 1) ≠ k + 1 := by simp only [clt]; rw [if_neg (by rw [hL]; decide)]; omega
          rw [decide_eq_false this]; rfl
        · have hL : isL (t (p + k)) = true := by
            cases hLL : isL (t (p + k)) with
            | true => rfl
            | false => rw [hLL] at hL; exact absurd rfl hL
          refine h233 1 ?_
          have : clt t p (k + 1) = k + 1 := by simp only [clt]; rw [if_pos hL]; omega
          rw [decide_eq_true this]; rfl
