/-! 44.easy: clear and feed -/
theorem ok_clear (u v : St) (h : Inv u v) : ∃ U V : St, (∀ Pc : St → Prop, Pc U → wp_X6_clear u Pc) ∧ (∀ Pm : St → Prop, Pm V → wp_X7_clear v Pm) ∧ Inv U V := by
  obtain ⟨ht, hl, g, b, hw, hb, hc, hm⟩ := id h
  refine ⟨_, _, fun P hp => nm_i (nm_i (nm_i ⟨5, br_n (by decide) ⟨vp_in_iff.mpr (by decide), nm_i (nm_i (br_n (by decide) ⟨vp_in_iff.mpr (by decide), nm_i (nm_i (br_n (by decide) ⟨vp_in_iff.mpr (by decide), nm_i (nm_i (br_n (by decide) ⟨vp_in_iff.mpr (by decide), nm_i (nm_i (br_p (by decide) hp))⟩))⟩))⟩))⟩⟩)),
    fun P hp => nm_i (nm_i (nm_i (nm_i (nm_i ⟨5, br_n (by decide) ⟨vp_in_iff.mpr (by decide), nm_i (nm_i (br_n (by decide) ⟨vp_in_iff.mpr (by decide), nm_i (nm_i (br_n (by decide) ⟨vp_in_iff.mpr (by decide), nm_i (nm_i (br_n (by decide) ⟨vp_in_iff.mpr (by decide), nm_i (nm_i (br_p (by decide) hp))⟩))⟩))⟩))⟩⟩)))), ?_⟩
  refine ⟨⟨0, by omega, rfl, rfl, fun i h => by omega⟩, ⟨rfl, fun k hk => ?_⟩, ⟨g0, b, ⟨⟨by decide, ⟨fun _ _ => [], fun d h => absurd h (Nat.not_lt_zero d)⟩, fun d h => absurd h (Nat.not_lt_zero d)⟩, fun d h => absurd h (Nat.not_lt_zero d)⟩, hb, ⟨rfl, fun d h => absurd h (Nat.not_lt_zero d)⟩, hm.1, rfl, fun d h => absurd h (Nat.not_lt_zero d)⟩⟩
  match k, hk with
  | 0, _ => rfl
  | 1, _ => rfl
  | 2, _ => rfl
  | 3, _ => rfl
  | k + 4, hk => omega
/-- the byte that feed takes: the class's and the reference's -/
theorem feed_byte (y : Int32) {s : Int32} {k : Nat} (hs : s = nI k) (hk : k = 24 ∨ k = 16 ∨ k = 8 ∨ k = 0) : ∃ c : Nat, c < 256 ∧ ((Int32.toUInt32 y >>> (Int32.toUInt32 s &&& Int32.toUInt32 31)).toInt32 &&& 255) = nI c ∧ vp_nar .byte (Int8.toInt32 (Int32.toInt8 (y >>> (s &&& 31)))) = (nI c).toInt8.toInt32 := by
  refine ⟨y.toBitVec.toNat / 2 ^ k % 2 ^ 8, Nat.mod_lt _ (by decide), ?_, ?_⟩
  · rw [pk_and _ 8 (by decide), pk_ushr y s k (by subst hs; rcases hk with rfl | rfl | rfl | rfl <;> decide)]
  · rw [pk_vb]
    refine congrArg Int8.toInt32 (Int8.toInt_inj.mp ?_)
    rw [Int32.toInt_toInt8, Int32.toInt_toInt8, pk_shr y (s &&& 31) k (by subst hs; rcases hk with rfl | rfl | rfl | rfl <;> decide), nI_toInt (Nat.lt_of_lt_of_le (Nat.mod_lt _ (by decide)) (by decide))]
    have hlt : y.toBitVec.toNat < 2 ^ 32 := y.toBitVec.isLt
    have e : y.toInt = if 2 * y.toBitVec.toNat < 2 ^ 32 then (y.toBitVec.toNat : Int) else (y.toBitVec.toNat : Int) - 2 ^ 32 := BitVec.toInt_eq_toNat_cond y.toBitVec
    rw [e, Int.shiftRight_eq_div_pow]
    generalize y.toBitVec.toNat = a at hlt ⊢
    rcases hk with rfl | rfl | rfl | rfl <;> simp only [Int.bmod] <;> split <;> omega
def fdw (a b c d : Int32) (j : Nat) : Int32 := if j < 4 then a else if j < 8 then b else if j < 12 then c else d
theorem feed_loop (a b c d : Int32) (N : Nat) (hN : N ≤ 16) : ∀ (k j t : Nat) (u v : St), j + k = N → t + k ≤ 1500 → Inv u v → gI u 8 = nI t → gI v 0 = 0 →
    ∃ U V : St, (∀ (P : Int32 → St → Prop) (px : String → St → Prop), P (nI (t + k)) U → ∃ n, wp_X6_feed_47 P px n u a b c d (nI N) (nI j)) ∧ (∀ P : Int32 → St → Prop, P (nI (t + k)) V → ∃ n, wp_X7_feed_42 P n v a b c d (nI N) (nI j)) ∧ Inv U V ∧ gI V 0 = 0 := by
  intro k
  induction k with
  | zero =>
    intro j t u v hj ht hI hu hv
    have hj : j = N := by omega
    subst hj
    obtain ⟨n, hn, e1, e2, e3⟩ := hI.1
    refine ⟨u, v, fun P px hp => ⟨1, br_p ?_ (by rw [hu]; exact hp)⟩, fun P hp => ⟨1, br_p ?_ ?_⟩, hI, hv⟩
    · simp (disch := omega) only [nI_leI, nI_ltI, nI_eq]; omega
    · simp (disch := omega) only [nI_leI, nI_ltI, nI_eq]; omega
    · refine br_p (by rw [hv]; decide) ?_
      rw [e2, ← e1, hu]; exact hp
  | succ k ih =>
    intro j t u v hj ht hI hu hv
    obtain ⟨⟨n, hn, e1, e2, e3⟩, hl, hg⟩ := id hI
    have en : n = t := by
      have := e1.symm.trans hu
      rw [nI_eq (by omega) (by omega)] at this
      exact this
    subst en
    have hs : (24 - (8 * (nI j - nI j / 4 * 4)) : Int32) = nI (24 - 8 * (j % 4)) := by
      have h1 : (nI j - nI j / 4 * 4 : Int32) = nI (j % 4) := pk_rem (d := 4) (by omega) (by decide) (by decide)
      rw [h1]
      show nI 24 - nI 8 * nI (j % 4) = _
      rw [pk_mul, pk_sub (by omega)]
    obtain ⟨cb, hcb, hc1, hc2⟩ := feed_byte (fdw a b c d j) (s := (24 - (8 * (nI j - nI j / 4 * 4)))) (k := 24 - 8 * (j % 4)) hs (by omega)
    have hI2 : Inv (sI (sA u 14 n (nI cb)) 8 (nI (n + 1))) (sI (sA v 1 n ((nI cb).toInt8.toInt32)) 1 (nI (n + 1))) := by
      refine ⟨⟨n + 1, by omega, rfl, rfl, fun i hi => ?_⟩, hl, hg⟩
      simp only [gI_sI, gI_sL, gI_sA, gI_sB, gL_sI, gL_sL, gL_sA, gL_sB, gA_sI, gA_sL, gA_sA, gA_sB, gB_sI, gB_sL, gB_sA, gB_sB, if_true, updE]
      by_cases h9 : i = n
      · rw [if_pos h9, if_pos h9]; exact ⟨cb, hcb, rfl, rfl⟩
      · rw [if_neg h9, if_neg h9]; exact e3 i (by omega)
    obtain ⟨U, V, hU, hV, hI3, hv3⟩ := ih (j + 1) (n + 1) _ _ (by omega) (by omega) hI2 rfl (show gI (sI (sA v 1 n ((nI cb).toInt8.toInt32)) 1 (nI (n + 1))) 0 = 0 from hv)
    rw [show n + 1 + k = n + (k + 1) by omega] at hU hV
    refine ⟨U, V, fun P px hp => ?_, fun P hp => ?_, hI3, hv3⟩
    · obtain ⟨m, hm⟩ := hU P px hp
      have key : wp_X6_feed_88 (wp_X6_feed_47 P px m) u a b c d (nI N) (nI j) (fdw a b c d j) P px := by
        unfold wp_X6_feed_88
        rw [hc1]
        refine br_n (by rw [e1]; simp (disch := omega) only [ln_0, ln_1, ln_2, ln_3, ln_4, ln_5, ln_6, ln_7, ln_8, ln_9, ln_10, ln_11, ln_12, ln_13, ln_14, ln_15, ln_16, ln_17, ln_18, ln_19, ln_20, ln_21, ln_22, ln_23, ln_24, ln_25, ln_26, ln_27, ln_28, ln_29, ln_30, ln_31, ln_32, ln_33, ln_34, ln_35, ln_36, ln_37, ln_38, ln_39, ln_40, ln_41, ln_42, ln_43, ln_44, ln_45, ln_46, ln_47, ln_48, ln_49, ln_50, ln_51, ln_52, ln_53, ln_54, ln_55, ln_56, ln_57, ln_58, ln_59, ln_60, ln_61, ln_62, ln_91, ln_93, ln_97, ln_122, ln_120, ln_123, ln_124, ln_255, ln_256, ln_300, ln_720, ln_1500, ln_12000, ln_18000, nI_leI, nI_ltI, nI_eq]; omega) ⟨by rw [e1]; exact inN (by omega) (by decide), nm_i (nm_i (nm_i ?_))⟩
        rw [nI_1]
        have e9 : sI (sA u 14 (ix (gI u 8)) (nI cb)) 8 (gI (sA u 14 (ix (gI u 8)) (nI cb)) 8 + 1) = sI (sA u 14 n (nI cb)) 8 (nI (n + 1)) := by
          rw [gI_sA, e1, ixN (by omega), nI_1]
        rw [e9]; exact hm
      refine ⟨m + 1, br_n ?_ ?_⟩
      · simp (disch := omega) only [nI_leI, nI_ltI, nI_eq]; omega
      · refine br_b (fun h4 => br_b (fun h8 => br_b (fun h12 => ?_) (fun h12 => ?_)) (fun h8 => ?_)) (fun h4 => ?_)
        all_goals (simp (disch := omega) only [ln_0, ln_1, ln_2, ln_3, ln_4, ln_5, ln_6, ln_7, ln_8, ln_9, ln_10, ln_11, ln_12, ln_13, ln_14, ln_15, ln_16, ln_17, ln_18, ln_19, ln_20, ln_21, ln_22, ln_23, ln_24, ln_25, ln_26, ln_27, ln_28, ln_29, ln_30, ln_31, ln_32, ln_33, ln_34, ln_35, ln_36, ln_37, ln_38, ln_39, ln_40, ln_41, ln_42, ln_43, ln_44, ln_45, ln_46, ln_47, ln_48, ln_49, ln_50, ln_51, ln_52, ln_53, ln_54, ln_55, ln_56, ln_57, ln_58, ln_59, ln_60, ln_61, ln_62, ln_91, ln_93, ln_97, ln_122, ln_120, ln_123, ln_124, ln_255, ln_256, ln_300, ln_720, ln_1500, ln_12000, ln_18000, nI_leI, nI_ltI, nI_eq] at *)
        · rwa [show fdw a b c d j = d by unfold fdw; rw [if_neg (by omega), if_neg (by omega), if_neg (by omega)]] at key
        · rwa [show fdw a b c d j = c by unfold fdw; rw [if_neg (by omega), if_neg (by omega), if_pos (by omega)]] at key
        · rwa [show fdw a b c d j = b by unfold fdw; rw [if_neg (by omega), if_pos (by omega)]] at key
        · rwa [show fdw a b c d j = a by unfold fdw; rw [if_pos (by omega)]] at key
    · obtain ⟨m, hm⟩ := hV P hp
      have key : wp_X7_feed_90 (wp_X7_feed_42 P m) v a b c d (nI N) (nI j) (fdw a b c d j) P := by
        unfold wp_X7_feed_90
        rw [hc2]
        refine ⟨by rw [e2]; exact inN (by omega) (by decide), nm_i (nm_i (nm_i ?_))⟩
        rw [nI_1]
        have e9 : sI (sA v 1 (ix (gI v 1)) ((nI cb).toInt8.toInt32)) 1 (gI (sA v 1 (ix (gI v 1)) ((nI cb).toInt8.toInt32)) 1 + 1) = sI (sA v 1 n ((nI cb).toInt8.toInt32)) 1 (nI (n + 1)) := by
          rw [gI_sA, e2, ixN (by omega), nI_1]
        rw [e9]; exact hm
      refine ⟨m + 1, br_n ?_ (br_p hv ?_)⟩
      · simp (disch := omega) only [nI_leI, nI_ltI, nI_eq]; omega
      · refine br_b (fun h4 => br_b (fun h8 => br_b (fun h12 => ?_) (fun h12 => ?_)) (fun h8 => ?_)) (fun h4 => ?_)
        all_goals (simp (disch := omega) only [ln_0, ln_1, ln_2, ln_3, ln_4, ln_5, ln_6, ln_7, ln_8, ln_9, ln_10, ln_11, ln_12, ln_13, ln_14, ln_15, ln_16, ln_17, ln_18, ln_19, ln_20, ln_21, ln_22, ln_23, ln_24, ln_25, ln_26, ln_27, ln_28, ln_29, ln_30, ln_31, ln_32, ln_33, ln_34, ln_35, ln_36, ln_37, ln_38, ln_39, ln_40, ln_41, ln_42, ln_43, ln_44, ln_45, ln_46, ln_47, ln_48, ln_49, ln_50, ln_51, ln_52, ln_53, ln_54, ln_55, ln_56, ln_57, ln_58, ln_59, ln_60, ln_61, ln_62, ln_91, ln_93, ln_97, ln_122, ln_120, ln_123, ln_124, ln_255, ln_256, ln_300, ln_720, ln_1500, ln_12000, ln_18000, nI_leI, nI_ltI, nI_eq] at *)
        · rwa [show fdw a b c d j = d by unfold fdw; rw [if_neg (by omega), if_neg (by omega), if_neg (by omega)]] at key
        · rwa [show fdw a b c d j = c by unfold fdw; rw [if_neg (by omega), if_neg (by omega), if_pos (by omega)]] at key
        · rwa [show fdw a b c d j = b by unfold fdw; rw [if_neg (by omega), if_pos (by omega)]] at key
        · rwa [show fdw a b c d j = a by unfold fdw; rw [if_pos (by omega)]] at key
