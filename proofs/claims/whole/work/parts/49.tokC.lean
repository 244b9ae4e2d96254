/-! 49.tokC: the class's advance finds the token -/
theorem eC_b {t : Nat → Nat} {p : Nat} : ∀ k, (∀ j, j < k → t (p + j) ≤ 122) → eC t p k * 255 ≤ 122 * (256 ^ k - 1) := by
  intro k
  induction k with
  | zero => intro _; simp [eC]
  | succ k ih =>
    intro h
    have h1 := ih (fun j hj => h j (by omega))
    have h2 := h k (by omega)
    have h3 : 1 ≤ 256 ^ k := Nat.pos_of_ne_zero (by simp)
    simp only [eC, Nat.pow_succ]
    generalize 256 ^ k = Y at h1 h3 ⊢
    generalize eC t p k = e at h1 ⊢
    generalize t (p + k) = c at h2 ⊢
    clear ih h
    obtain ⟨z, rfl⟩ : ∃ z, Y = z + 1 := ⟨Y - 1, by omega⟩
    rw [Nat.add_sub_cancel] at h1
    rw [show (z + 1) * 256 - 1 = z * 256 + 255 by omega]
    have h4 : (e * 256 + c) * 255 = e * 255 * 256 + c * 255 := by rw [Nat.add_mul, Nat.mul_assoc, Nat.mul_assoc, Nat.mul_comm 256 255]
    rw [h4, Nat.mul_add, ← Nat.mul_assoc]
    exact Nat.add_le_add (Nat.mul_le_mul_right 256 h1) (Nat.mul_le_mul_right 255 h2)
theorem clt_le (t : Nat → Nat) (p : Nat) : ∀ k, clt t p k ≤ k := by
  intro k
  induction k with
  | zero => exact Nat.le_refl _
  | succ k ih => simp only [clt]; split <;> omega
theorem clt_all {t : Nat → Nat} {p : Nat} : ∀ {k}, clt t p k = k → ∀ j, j < k → isL (t (p + j)) = true := by
  intro k
  induction k with
  | zero => intro _ j hj; omega
  | succ k ih =>
    intro h j hj
    simp only [clt] at h
    have := clt_le t p k
    split at h
    · next hl =>
      by_cases hjk : j = k
      · rw [hjk]; exact hl
      · exact ih (by omega) j (by omega)
    · omega
theorem isL_b {c : Nat} (h : isL c = true) : 97 ≤ c ∧ c ≤ 122 := by simpa [isL] using h
theorem isD_b {c : Nat} (h : isD c = true) : 48 ≤ c ∧ c ≤ 57 := by simpa [isD] using h
theorem eC_63 {t : Nat → Nat} {p k : Nat} (h : clt t p k = k) (hk : k ≤ 8) : eC t p k < 2 ^ 63 := by
  have h1 := eC_b k (fun j hj => (isL_b (clt_all h j hj)).2)
  have h2 : (256 : Nat) ^ k ≤ 256 ^ 8 := Nat.pow_le_pow_right (by decide) hk
  have h3 : (256 : Nat) ^ 8 = 18446744073709551616 := by decide
  omega
theorem wp_word {u : St} {e : Nat} (he : e < 2 ^ 63) {P : Int32 → St → Prop} (h : P (nI (wk e)) u) : wp_X5_wordOrName u (lN e) P := by
  have key : ∀ c : Nat, c < 2 ^ 63 → ((lg_cmp (lN e) (lN c) = 0) ↔ e = c) := fun c hc => by rw [lg_cmp_eq, pk_lEQ he hc]
  unfold wk at h
  refine br_b (fun a => ?_) (fun a => br_b (fun b => ?_) (fun b => br_b (fun c => ?_) (fun c => br_b (fun d => ?_) (fun d => br_b (fun f => ?_) (fun f => br_b (fun g => ?_) (fun g => ?_))))))
  all_goals (try replace a := mt (key 26982 (by decide)).mpr a)
  · rw [if_pos ((key 26982 (by decide)).mp a)] at h; exact h
  · rw [if_neg a, if_pos ((key 1952998766 (by decide)).mp b)] at h; exact h
  all_goals (replace b := mt (key 1952998766 (by decide)).mpr b)
  · rw [if_neg a, if_neg b, if_pos ((key 1701606245 (by decide)).mp c)] at h; exact h
  all_goals (replace c := mt (key 1701606245 (by decide)).mpr c)
  · rw [if_neg a, if_neg b, if_neg c, if_pos ((key 7103860 (by decide)).mp d)] at h; exact h
  all_goals (replace d := mt (key 7103860 (by decide)).mpr d)
  · rw [if_neg a, if_neg b, if_neg c, if_neg d, if_pos ((key 26990 (by decide)).mp f)] at h; exact h
  all_goals (replace f := mt (key 26990 (by decide)).mpr f)
  · rw [if_neg a, if_neg b, if_neg c, if_neg d, if_neg f, if_pos ((key 1835101029 (by decide)).mp g)] at h; exact h
  · replace g := mt (key 1835101029 (by decide)).mpr g
    rw [if_neg a, if_neg b, if_neg c, if_neg d, if_neg f, if_neg g] at h; exact h
/-- the kind of a row of k from p -/
def rk (t : Nat → Nat) (p k : Nat) : Nat := if clt t p k = k ∧ k ≤ 8 then wk (eC t p k) else if clt t p k = 0 ∧ vlt t p k ≤ 2147483647 then 3 else 1
theorem wk_r (e : Nat) : wk e = 2 ∨ (4 ≤ wk e ∧ wk e ≤ 9) := by unfold wk; (repeat' split) <;> omega
theorem rowC_end {u : St} {t : Nat → Nat} {n p k : Nat} (hT : TpC u t n) (hpk : p + k ≤ n) (h10 : gI u 10 = nI p) (h7 : gI u 7 = nI (p + k)) {x2 x4 : Int64} (hx2 : clt t p k = k → k ≤ 8 → x2 = lN (eC t p k)) {c : Nat} (hx4 : x4 = lN c) (hc : c ≤ 2147483648) (hc0 : clt t p k = 0 → c = min (vlt t p k) 2147483648) (hk0 : 0 < k) :
    ∃ U : St, (∀ P : St → Prop, P U → wp_X5_takeRow_117 u (nI (clt t p k)) x2 x4 P) ∧ FrC u U ∧ gI U 7 = nI (p + k) ∧ gI U 10 = nI p ∧ gI U 9 = nI (rk t p k) ∧ (clt t p k = k ∧ k ≤ 8 → gL U 0 = lN (eC t p k)) ∧ (rk t p k = 3 → gI U 11 = nI (vlt t p k)) := by
  have hn : n ≤ 1500 := hT.1
  have hcl := clt_le t p k
  have hsub : gI u 7 - gI u 10 = nI k := by rw [h7, h10, pk_sub (by omega)]; congr 1; omega
  by_cases hl : clt t p k = k ∧ k ≤ 8
  · refine ⟨sI (sL u 0 x2) 9 (nI (rk t p k)), fun P hp => ?_, FrC.tr (FrC.l _) (FrC.i _ (by omega)), h7, h10, rfl, fun _ => hx2 hl.1 hl.2, fun h3 => ?_⟩
    · refine br_p (by rw [hsub, hl.1]) (br_n ?_ (nm_i ?_))
      · simp (disch := omega) only [ln_0, ln_1, ln_2, ln_3, ln_4, ln_5, ln_6, ln_7, ln_8, ln_9, ln_10, ln_11, ln_12, ln_13, ln_14, ln_15, ln_16, ln_17, ln_18, ln_19, ln_20, ln_21, ln_22, ln_23, ln_24, ln_25, ln_26, ln_27, ln_28, ln_29, ln_30, ln_31, ln_32, ln_33, ln_34, ln_35, ln_36, ln_37, ln_38, ln_39, ln_40, ln_41, ln_42, ln_43, ln_44, ln_45, ln_46, ln_47, ln_48, ln_49, ln_50, ln_51, ln_52, ln_53, ln_54, ln_55, ln_56, ln_57, ln_58, ln_59, ln_60, ln_61, ln_62, ln_91, ln_93, ln_97, ln_122, ln_120, ln_123, ln_124, ln_255, ln_256, ln_300, ln_720, ln_1500, ln_12000, ln_18000, nI_leI, nI_ltI, nI_eq]; omega
      · rw [hx2 hl.1 hl.2]
        refine wp_word (eC_63 hl.1 hl.2) (nm_i ?_)
        rw [← hx2 hl.1 hl.2]
        unfold rk at hp; rw [if_pos hl] at hp; exact hp
    · unfold rk at h3; rw [if_pos hl] at h3
      have := wk_r (eC t p k); omega
  · have h152 : ∃ U : St, (∀ P : St → Prop, P U → wp_X5_takeRow_152 u (nI (clt t p k)) x4 P) ∧ FrC u U ∧ gI U 7 = nI (p + k) ∧ gI U 10 = nI p ∧ gI U 9 = nI (rk t p k) ∧ (rk t p k = 3 → gI U 11 = nI (vlt t p k)) := by
      have e4 : (0 < lg_cmp x4 2147483647) ↔ 2147483647 < c := by
        rw [lg_cmp_gt, hx4]; exact pk_lLT (a := 2147483647) (by decide) (by omega)
      by_cases h0 : clt t p k = 0
      · by_cases hv : vlt t p k ≤ 2147483647
        · refine ⟨sI (sI u 11 (Int64.toInt32 x4)) 9 3, fun P hp => br_p (by rw [h0]; rfl) (br_n (by rw [e4, hc0 h0]; omega) (nm_i (nm_i hp))), FrC.tr (FrC.i _ (by omega)) (FrC.i _ (by omega)), h7, h10, ?_, fun _ => ?_⟩
          · unfold rk; rw [if_neg hl, if_pos ⟨h0, hv⟩]; rfl
          · show Int64.toInt32 x4 = _
            rw [hx4, lN_i, hc0 h0]; congr 1; omega
        · refine ⟨sI u 9 1, fun P hp => br_p (by rw [h0]; rfl) (br_p (by rw [e4, hc0 h0]; omega) (nm_i hp)), FrC.i _ (by omega), h7, h10, ?_, fun h3 => ?_⟩
          · unfold rk; rw [if_neg hl, if_neg (fun h => hv h.2)]; rfl
          · unfold rk at h3; rw [if_neg hl, if_neg (fun h => hv h.2)] at h3; omega
      · refine ⟨sI u 9 1, fun P hp => br_n (nI_ne0 (by omega) (by omega)) (nm_i hp), FrC.i _ (by omega), h7, h10, ?_, fun h3 => ?_⟩
        · unfold rk; rw [if_neg hl, if_neg (fun h => h0 h.1)]; rfl
        · unfold rk at h3; rw [if_neg hl, if_neg (fun h => h0 h.1)] at h3; omega
    obtain ⟨U, h1, h2, h3, h4, h5, h6⟩ := h152
    refine ⟨U, fun P hp => br_b (fun he => br_p ?_ (h1 P hp)) (fun _ => h1 P hp), h2, h3, h4, h5, fun h => absurd h hl, h6⟩
    rw [hsub, nI_eq (by omega) (by omega)] at he
    simp (disch := omega) only [ln_0, ln_1, ln_2, ln_3, ln_4, ln_5, ln_6, ln_7, ln_8, ln_9, ln_10, ln_11, ln_12, ln_13, ln_14, ln_15, ln_16, ln_17, ln_18, ln_19, ln_20, ln_21, ln_22, ln_23, ln_24, ln_25, ln_26, ln_27, ln_28, ln_29, ln_30, ln_31, ln_32, ln_33, ln_34, ln_35, ln_36, ln_37, ln_38, ln_39, ln_40, ln_41, ln_42, ln_43, ln_44, ln_45, ln_46, ln_47, ln_48, ln_49, ln_50, ln_51, ln_52, ln_53, ln_54, ln_55, ln_56, ln_57, ln_58, ln_59, ln_60, ln_61, ln_62, ln_91, ln_93, ln_97, ln_122, ln_120, ln_123, ln_124, ln_255, ln_256, ln_300, ln_720, ln_1500, ln_12000, ln_18000, nI_leI, nI_ltI, nI_eq]
    by_cases h8 : k ≤ 8
    · exact absurd ⟨he, h8⟩ hl
    · omega
theorem rowC {t : Nat → Nat} {n p : Nat} : ∀ (f k : Nat) (u : St) (x2 x4 : Int64) (c : Nat), TpC u t n → n - (p + k) = f → p + k ≤ n → gI u 10 = nI p → gI u 7 = nI (p + k) → (clt t p k = k → k ≤ 8 → x2 = lN (eC t p k)) → x4 = lN c → c ≤ 2147483648 → (clt t p k = 0 → c = min (vlt t p k) 2147483648) → (0 < k ∨ (p < n ∧ rwc (t p) = true)) →
    ∃ U : St, (∀ P : St → Prop, P U → ∃ m, wp_X5_takeRow_7 P m u (nI (clt t p k)) x2 x4) ∧ FrC u U ∧ gI U 7 = nI (rwE t n (p + k)) ∧ gI U 10 = nI p ∧ gI U 9 = nI (rk t p (rwE t n (p + k) - p)) ∧ (clt t p (rwE t n (p + k) - p) = rwE t n (p + k) - p ∧ rwE t n (p + k) - p ≤ 8 → gL U 0 = lN (eC t p (rwE t n (p + k) - p))) ∧ (rk t p (rwE t n (p + k) - p) = 3 → gI U 11 = nI (vlt t p (rwE t n (p + k) - p))) := by
  intro f
  induction f with
  | zero =>
    intro k u x2 x4 c hT hf hpk h10 h7 hx2 hx4 hc hc0 hk
    have hn : n ≤ 1500 := hT.1
    have e : rwE t n (p + k) = p + k := rw_here (by omega)
    rw [e, show p + k - p = k by omega]
    obtain ⟨U, h1, h2⟩ := rowC_end hT hpk h10 h7 hx2 hx4 hc hc0 (by omega)
    refine ⟨U, fun P hp => ⟨1, br_p ?_ (h1 P hp)⟩, h2⟩
    rw [hT.2.1, h7]; simp (disch := omega) only [nI_leI, nI_ltI, nI_eq]; omega
  | succ f ih =>
    intro k u x2 x4 c hT hf hpk h10 h7 hx2 hx4 hc hc0 hk
    have hn : n ≤ 1500 := hT.1
    have hlt : p + k < n := by omega
    have hcl := clt_le t p k
    obtain ⟨hc256, hb⟩ := hT.2.2 (p + k) hlt
    have hix : ix (gI u 7) = p + k := by rw [h7, ixN (by omega)]
    have hin : vp_in (gI u 7) 1500 := by rw [h7]; exact inN (by omega) (by decide)
    have hnge : ¬ gI u 8 ≤ gI u 7 := by rw [hT.2.1, h7]; simp (disch := omega) only [nI_leI, nI_ltI, nI_eq]; omega
    cases hr : rwc (t (p + k)) with
    | false =>
      have e : rwE t n (p + k) = p + k := rw_here (by rw [hr]; simp)
      have hk0 : 0 < k := by
        rcases hk with h | ⟨h, h2⟩
        · exact h
        · by_cases hk0 : k = 0
          · subst hk0; rw [Nat.add_zero] at hr; rw [hr] at h2; cases h2
          · omega
      rw [e, show p + k - p = k by omega]
      obtain ⟨U, h1, h2⟩ := rowC_end hT hpk h10 h7 hx2 hx4 hc hc0 hk0
      have hr2 : isL (t (p + k)) = false ∧ isD (t (p + k)) = false := by simpa [rwc] using hr
      refine ⟨U, fun P hp => ⟨1, br_n hnge ⟨hin, wpX5_le (br_p ?_ ⟨hin, wpX5_di (br_p ?_ (h1 P hp))⟩)⟩⟩, h2⟩
      · rw [hix, hb, (ch_le _ hc256).1, hr2.1]; rfl
      · rw [hix, hb, (ch_di _ hc256).1, hr2.2]; rfl
    | true =>
      have estep : rwE t n (p + k) = rwE t n (p + (k + 1)) := (rw_step hlt hr).symm
      have hu2 : TpC (sI u 7 (gI u 7 + 1)) t n := hT.fr (FrC.i _ (by omega))
      have h72 : gI (sI u 7 (gI u 7 + 1)) 7 = nI (p + (k + 1)) := by show gI u 7 + 1 = _; rw [h7, nI_1]; rfl
      rw [estep]
      cases hL : isL (t (p + k)) with
      | true =>
        have hcl1 : clt t p (k + 1) = clt t p k + 1 := by simp only [clt]; rw [if_pos hL]
        obtain ⟨U, h1, h2, h3⟩ := ih (k + 1) (sI u 7 (gI u 7 + 1)) ((x2 <<< (Int32.toInt64 8 &&& 63)) ||| (Int32.toInt64 (nI (t (p + k))))) x4 c hu2 (by omega) (by omega) h10 h72 (fun ha hb8 => by
          rw [hcl1] at ha
          have he := hx2 (by omega) (by omega)
          have hlt2 : eC t p k < 256 ^ k := by
            have h1 := eC_b k (fun j hj => (isL_b (clt_all (t := t) (p := p) (k := k) (by omega) j hj)).2)
            have : 1 ≤ 256 ^ k := Nat.pos_of_ne_zero (by simp)
            omega
          have h256 : (256 : Nat) ^ k ≤ 256 ^ 7 := Nat.pow_le_pow_right (by decide) (by omega)
          have h2567 : (256 : Nat) ^ 7 = 72057594037927936 := by decide
          rw [he, nI_l (by omega)]
          have e1 : lN (eC t p k) <<< (Int32.toInt64 8 &&& 63) = lN (eC t p k * 256) := wb_shl (eC t p k) (k := 8) (by decide)
          rw [e1]
          show _ = lN (eC t p k * 256 + t (p + k))
          exact g_or (k := 8) (p := 256) (by decide) hc256 (by omega)) hx4 hc (fun h => by omega) (Or.inl (by omega))
        refine ⟨U, fun P hp => ?_, FrC.tr (FrC.i _ (by omega)) h2, h3⟩
        obtain ⟨m, hm⟩ := h1 P hp
        have h48 : wp_X5_takeRow_48 (wp_X5_takeRow_7 P m) u (nI (clt t p k)) x2 x4 P := by
          refine ⟨hin, nm_i (wpX5_le (br_n ?_ (nm_i (nm_i (nm_i ?_)))))⟩
          · rw [hix, hb, (ch_le _ hc256).1, hL]; decide
          · rw [hix, hb, nI_1, ← hcl1]; exact hm
        refine ⟨m + 1, br_n hnge ⟨hin, wpX5_le (br_n ?_ h48)⟩⟩
        rw [hix, hb, (ch_le _ hc256).1, hL]; decide
      | false =>
        have hD : isD (t (p + k)) = true := by simpa [rwc, hL] using hr
        have hDb := isD_b hD
        have hcl1 : clt t p (k + 1) = clt t p k := by simp only [clt]; rw [if_neg (by rw [hL]; decide)]; rfl
        obtain ⟨U, h1, h2, h3⟩ := ih (k + 1) (sI u 7 (gI u 7 + 1)) x2 (lN (min (c * 10 + t (p + k) - 48) 2147483648)) (min (c * 10 + t (p + k) - 48) 2147483648) hu2 (by omega) (by omega) h10 h72 (fun ha _ => by omega) rfl (by omega) (fun h => by
          have := hc0 (by omega)
          simp only [vlt]
          omega) (Or.inl (by omega))
        refine ⟨U, fun P hp => ?_, FrC.tr (FrC.i _ (by omega)) h2, h3⟩
        obtain ⟨m, hm⟩ := h1 P hp
        have emin : (if (2147483648 : Int64) < (((x4 * 10) + (Int32.toInt64 (nI (t (p + k))))) - 48) then 2147483648 else (((x4 * 10) + (Int32.toInt64 (nI (t (p + k))))) - 48)) = lN (min (c * 10 + t (p + k) - 48) 2147483648) := by
          have e1 : (((x4 * 10) + (Int32.toInt64 (nI (t (p + k))))) - 48 : Int64) = lN (c * 10 + t (p + k) - 48) := by
            rw [hx4, nI_l (by omega)]
            show lN c * lN 10 + lN (t (p + k)) - lN 48 = _
            rw [lN_mul, lN_add, lN_sub (by omega)]
          rw [e1]
          have e2 : ((2147483648 : Int64) < lN (c * 10 + t (p + k) - 48)) ↔ 2147483648 < c * 10 + t (p + k) - 48 := pk_lLT (a := 2147483648) (by decide) (by omega)
          by_cases hm2 : 2147483648 < c * 10 + t (p + k) - 48
          · rw [if_pos (e2.mpr hm2)]; show lN 2147483648 = _; congr 1; omega
          · rw [if_neg (fun h => hm2 (e2.mp h))]; congr 1; omega
        have h48 : wp_X5_takeRow_48 (wp_X5_takeRow_7 P m) u (nI (clt t p k)) x2 x4 P := by
          refine ⟨hin, nm_i (wpX5_le (br_p ?_ (nm_i (nm_i ?_))))⟩
          · rw [hix, hb, (ch_le _ hc256).1, hL]; rfl
          · rw [hix, hb, emin, ← hcl1]; exact hm
        refine ⟨m + 1, br_n hnge ⟨hin, wpX5_le (br_p ?_ ⟨hin, wpX5_di (br_n ?_ h48)⟩)⟩⟩
        · rw [hix, hb, (ch_le _ hc256).1, hL]; rfl
        · rw [hix, hb, (ch_di _ hc256).1, hD]; decide
