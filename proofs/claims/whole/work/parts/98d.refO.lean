/-! 98d.refO: the reference makes an array -/
theorem Mk_loop {G : Prg} {a b : Int32} {bk M N0 : Nat} {id0 : Nat → Cid} {x S : Nat} {st0 : Nat → Nat} {v0 : St} {va : Nat → Vl} {q : Nat} (hw : WFp G) (hS : S = 18000) (hq : q ≤ 40) (e : kdS G (slO id0 x) = 8) (hnk : 1 ≤ gnk G (dfn G (id0 (x / 60))) (x % 60)) {t : Nat} (ht : t < gn G) (hnu : gnu G (dfn G (id0 (x / 60))) (x % 60) = nI t) (hta : gar G t = gnk G (dfn G (id0 (x / 60))) (x % 60) + 1) (hc0 : 12 * bk + dfn G (id0 (x / 60)) < 24) (hx18 : x < 18000)
    (h7 : ∀ V, FRv v0 V → gA V 14 (60 * (12 * bk + dfn G (id0 (x / 60))) + x % 60) = nI t ∧ Ch (gA v0 11) (60 * (12 * bk + dfn G (id0 (x / 60)))) (gA V 10 (60 * (12 * bk + dfn G (id0 (x / 60))) + x % 60)) ((List.range (gnk G (dfn G (id0 (x / 60))) (x % 60) - 1)).map (fun k => gkid G (dfn G (id0 (x / 60))) (x % 60) (k + 1)))) {P : St → Prop} (ky : ∀ V, WkY G a b bk M N0 id0 S st0 v0 V → P V) (ko : ∀ V, OVm G a b M v0 V → P V) : ∀ (f k N : Nat) (id : Nat → Cid) (st : Nat → Nat) (v : St), k + f = q → MkI G a b bk M N0 id0 x S st0 v0 va q k N id st v → wp_X7_workMake_81 P (f + 1) v (nI x) (nI (60 * (12 * bk + dfn G (id0 (x / 60))) + x % 60)) (nI k)
  | 0, k, N, id, st, v, hk, h => by
    have hkq : k = q := by omega
    rw [hkq] at h ⊢
    have hinx : vp_in (nI x) 18000 := inN hx18 (by decide)
    refine ⟨hinx, ?_⟩
    rw [ixN (by omega), h.2.2.2.2.1.1]
    exact br_p (by simp (disch := omega) only [nI_leI, nI_ltI, nI_eq] <;> omega) (Mk_end hw hS hq h e hnk ky)
  | f + 1, k, N, id, st, v, hk, h => by
    have hh := h
    obtain ⟨hSR, hSM, ⟨hN0, hx0, hid0⟩, ⟨hx, hx1⟩, ⟨e32, e31⟩, hcs, hnw, hsum, hki, hk3, hcl⟩ := h
    obtain ⟨e8, hkn, hop, hLf⟩ := Mk_kn hw hh e hnk
    have hid : id (x / 60) = id0 (x / 60) := hid0 _ hx0
    have hNM := hSR.2.2.1.1
    have hx1' := hx.1
    have hxp : x % 60 < gnp G (dfn G (id0 (x / 60))) := by have := hx.2; rw [hid] at this; exact this
    have hinx : vp_in (nI x) 18000 := inN hx18 (by decide)
    have hinP : vp_in (nI (60 * (12 * bk + dfn G (id0 (x / 60))) + x % 60)) 1440 := inN (by omega) (by decide)
    have e' : gkd G (dfn G (id0 (x / 60))) (x % 60) = 8 := e
    have hd : dfn G (id0 (x / 60)) < gn G := by rw [← hid]; exact (hSR.2.2.1.2 _ hx.1).1
    have hnk5 : gnk G (dfn G (id0 (x / 60))) (x % 60) + 1 ≤ 6 := by rw [← hta]; exact (hw.2 _ ht).1
    have hp60 : x % 60 < 60 := Nat.mod_lt _ (by decide)
    refine ⟨hinx, ?_⟩
    rw [ixN (by omega), e32]
    refine br_n (by simp (disch := omega) only [nI_leI, nI_ltI, nI_eq]; omega) (br_p hSM.1.1 ⟨hinP, ?_⟩)
    rw [ixN (by omega), (h7 v hSR.1).1]
    have hdc : dfn G ((x % 60, k + 1) :: id0 (x / 60)) = t := by show ix (gnu G (dfn G (id0 (x / 60))) (x % 60)) = t; rw [hnu, ixN (by have := (WF_d hw hd).1; omega)]
    have hslx : slO id x = (id0 (x / 60), x % 60) := by unfold slO; rw [hid]
    rw [hslx] at hLf
    have hexC : exC G (Lfp G a b) ((x % 60, k + 1) :: id0 (x / 60)) := ⟨hxp, Or.inr ⟨e', k, q, rfl, by omega, hq, hLf⟩⟩
    have hnew : ∀ j, j < N → id j ≠ (x % 60, k + 1) :: id0 (x / 60) := fun j hj => hnw j k hj (Nat.le_refl _)
    refine r_call hw hSR (c := (x % 60, k + 1) :: id0 (x / 60)) (by rw [hdc]; exact ht) (by rw [hdc]) (fun hlt V2 hV2 uI u18 u29 u30 u31 u24 => ?_) (fun hNM2 => br_p rfl ?_)
    · have hvx : vld G (N + 1) (uF id N ((x % 60, k + 1) :: id0 (x / 60))) x := vld_new.mpr (Or.inl hx)
      have hid' : uF id N ((x % 60, k + 1) :: id0 (x / 60)) (x / 60) = id0 (x / 60) := by rw [uF_o (by omega)]; exact hid
      refine br_n (nI_m1 (by omega)) (r_argu2 (by omega) (fun V3 a1 a2 a3 a4 a5 => ?_))
      have hV3 : SRm G bk M (N + 1) (uF id N ((x % 60, k + 1) :: id0 (x / 60))) (stN st N (60 * N + grt G (dfn G ((x % 60, k + 1) :: id0 (x / 60))))) v0 V3 := SR_fr hV2 (fun i _ => a1 i) (fun i hi => a2 i (by omega) (by omega) (by omega))
      have e11 : gA V3 11 = gA v0 11 := hV3.1.2.2.2 11 (by decide)
      refine r_hd hw hV3.2.1 hV3.2.2.1 hvx (cn := N) (n := 2) (l := (List.range (gnk G (dfn G (id0 (x / 60))) (x % 60) - 1)).map (fun k => gkid G (dfn G (id0 (x / 60))) (x % 60) (k + 1))) (by rw [hid']; exact hc0) (by omega) (by rw [hid', e11]; exact (h7 _ hV3.1).2) (fun p hp => ?_) (by simp; omega) rfl (fun V4 w1 w2 w3 w4 => nm_i ?_)
      · obtain ⟨i, hi, rfl⟩ := List.mem_map.mp hp
        have hi := List.mem_range.mp hi
        have q1 := ((hw.2 _ hd).2.2.2.2 _ hxp).2.1 (i + 1) (by omega)
        have q2 := (WF_d hw hd).2.1
        show gkid G (dfn G (id0 (x / 60))) (x % 60) (i + 1) < 60
        omega
      rw [nI_1]
      have hV4 : SRm G bk M (N + 1) (uF id N ((x % 60, k + 1) :: id0 (x / 60))) (stN st N (60 * N + grt G (dfn G ((x % 60, k + 1) :: id0 (x / 60))))) v0 V4 := SR_fr hV3 (fun i _ => w1 i) (fun i hi => w2 i (by omega) (by omega) (by omega))
      have e31' : gA V4 31 = gA V2 31 := by rw [w2 31 (by decide) (by decide) (by decide), a2 31 (by decide) (by decide) (by decide)]
      have e32' : gA V4 32 = gA V2 32 := by rw [w2 32 (by decide) (by decide) (by decide), a2 32 (by decide) (by decide) (by decide)]
      have hlenl : ((List.range (gnk G (dfn G (id0 (x / 60))) (x % 60) - 1)).map (fun k => gkid G (dfn G (id0 (x / 60))) (x % 60) (k + 1))).length = gnk G (dfn G (id0 (x / 60))) (x % 60) - 1 := by simp
      have h24 : ∀ r, r / 6 ≠ N → gA V4 24 r = gA v 24 r ∧ gA V4 25 r = gA v 25 r ∧ gA V4 26 r = gA v 26 r := fun r hr => by
        obtain ⟨q1, q2, q3⟩ := w4 r (by rw [hlenl]; omega)
        obtain ⟨p1, p2, p3⟩ := a5 r (by omega) (by omega)
        rw [q1, q2, q3, p1, p2, p3]; exact (u24 r).2 hr
      have hSM4 : SMm G a b (N + 1) (uF id N ((x % 60, k + 1) :: id0 (x / 60))) (stN st N (60 * N + grt G (dfn G ((x % 60, k + 1) :: id0 (x / 60))))) va (fun z => z = x) V4 := by
        refine Rm_call hw hSM (by rw [hdc]; exact ht) hexC hnew (fun j hj => (hSR.2.2.1.2 j hj).1) rfl (fun ec c' hec => ?_) (fun q' hq' => ?_) (fun z hz e7 hne => ?_) (fun z hz e7 he => ?_) (fun z hz e7 => ?_) (fun z hz => ?_) (fun z hz => ?_) (by rw [w1 17, a1 17]; exact uI 17 (by decide) (by decide)) (by rw [w2 29 (by decide) (by decide) (by decide), a2 29 (by decide) (by decide) (by decide)]; exact u29) (by rw [w2 30 (by decide) (by decide) (by decide), a2 30 (by decide) (by decide) (by decide)]; exact u30) h24 (fun z hz => by rw [hz]; exact hx1')
        · cases hec
          exact ⟨x / 60, hx1', hid, hp60, fun _ => Or.inr (show 60 * (x / 60) + x % 60 = x by omega)⟩
        · rw [hdc, hta] at hq'
          unfold ArJ
          rw [uF_s]
          refine ⟨x / 60, by omega, hid', hxp, Or.inr ⟨Nat.succ_ne_zero k, (show k + 1 ≤ 40 by omega), e', fun h0 => ?_, fun h1 => ?_, fun h2 => ?_⟩⟩
          · subst h0
            obtain ⟨q1, q2, q3⟩ := w4 (6 * N + 0) (Or.inl (by omega))
            rw [q1, q2, q3]; exact a3
          · subst h1
            obtain ⟨q1, q2, q3⟩ := w4 (6 * N + 1) (Or.inl (by omega))
            rw [q1, q3]
            refine ⟨a4.1, ?_⟩
            show _ = nI (60 * (x / 60) + x % 60)
            rw [a4.2.2, show 60 * (x / 60) + x % 60 = x by omega]
          · have := w3 (q' - 2) (by rw [hlenl]; omega)
            rw [rg_get (by omega), show 6 * N + 2 + (q' - 2) = 6 * N + q' by omega, show q' - 2 + 1 = q' - 1 by omega] at this
            exact this
        · rw [e31']; exact ((u31 z).2 (by have := hz.1; omega)).1
        · exfalso
          exact absurd (congrArg Prod.snd (List.cons.inj he).1) (Nat.succ_ne_zero k)
        · rw [e31']; exact ((u31 z).2 (by have := hz.1; omega)).1
        · rw [e31', e32']; exact (u31 z).1 hz
        · rw [e32']; exact ((u31 z).2 (by omega)).2
      have hz0 : ∀ z, z / 60 = N → st z = 0 := fun z hz => hSM.2.2.2.2.2.2.2.2.2.2.1 z (fun hv => by have := hv.1; omega)
      have hsum' : sumTo st0 S ≤ sumTo (stN st N (60 * N + grt G (dfn G ((x % 60, k + 1) :: id0 (x / 60))))) S := by
        obtain ⟨d1, d2, d3⟩ := WF_d hw (show dfn G ((x % 60, k + 1) :: id0 (x / 60)) < gn G by rw [hdc]; exact ht)
        rw [stN_eq hz0 (by omega)]
        have := sumTo_s (f := st) (x := 60 * N + grt G (dfn G ((x % 60, k + 1) :: id0 (x / 60)))) (v := 1) S (by rw [hS]; omega)
        rw [hz0 _ (by omega)] at this
        omega
      have hst : ∀ i, i < gnk G (dfn G (id0 (x / 60))) (x % 60) → stN st N (60 * N + grt G (dfn G ((x % 60, k + 1) :: id0 (x / 60)))) (kiO G id0 x i) = st (kiO G id0 x i) := fun i hi => by
        have hki := (kiO_v hw hx (by rw [hid]; exact hd) (k := i) (by rw [hid]; exact hi)).2.2.1
        have ek : kiO G id x i = kiO G id0 x i := by unfold kiO; rw [hid]
        rw [ek] at hki
        unfold stN; rw [if_neg (by rw [hki]; omega)]
      refine Mk_loop hw hS hq e hnk ht hnu hta hc0 hx18 h7 ky ko f (k + 1) (N + 1) (uF id N ((x % 60, k + 1) :: id0 (x / 60))) (stN st N (60 * N + grt G (dfn G ((x % 60, k + 1) :: id0 (x / 60))))) V4 (by omega) ⟨hV4, hSM4, ⟨by omega, hx0, fun j hj => by rw [uF_o (by omega)]; exact hid0 j hj⟩, ⟨hvx, by unfold stN; rw [if_neg (by omega)]; exact hx1⟩, ⟨by rw [e32', ((u31 x).2 (by omega)).2]; exact e32, by rw [e31', ((u31 x).2 (by omega)).1]; exact e31⟩, (fun i hi => ?_), (fun j i hj hi he => ?_), hsum', (fun i hi => by rw [hst i hi]; exact hki i hi), by rw [hst 0 (by omega)]; exact hk3, hcl⟩
      · rcases (show i < k ∨ i = k by omega) with hi | hi
        · rw [uF_o (by omega)]; exact hcs i hi
        · rw [hi, show N0 + k = N by omega, uF_s]
      · rcases (show j < N ∨ j = N by omega) with hj | hj
        · rw [uF_o (by omega)] at he; exact hnw j i hj (by omega) he
        · rw [hj, uF_s] at he
          have : k + 1 = i + 1 := congrArg Prod.snd (List.cons.inj he).1
          omega
    · have fin : wp_X7_workMake_152 (sI v 17 1) (nI x) P := by
        refine ⟨hinx, nm_i ⟨hinx, nm_i ⟨hinx, nm_i (nm_i (ko _ ⟨?_, rfl, N, id, st, va, _, hSM.2.1, hNM2, hexC, hnew⟩))⟩⟩⟩
        exact ⟨hSR.1.1, hSR.1.2.1, hSR.1.2.2.1, fun k hk => by rw [gA_sI, gA_sA, if_neg (by omega), gA_sA, if_neg (by omega), gA_sA, if_neg (by omega)]; exact hSR.1.2.2.2 k hk⟩
      refine nm_i ⟨hinx, br_b (fun _ => fin) (fun _ => br_n (show ¬ (1 : Int32) = 0 by decide) fin)⟩
theorem clC_1 {r : Int32} (h0 : 0 ≤ r) (h1 : r ≤ 40) : clC r = r := by
  have e40 : (40 : Int32).toInt = 40 := rfl
  have e0 : (0 : Int32).toInt = 0 := rfl
  rw [Int32.le_iff_toInt_le] at h0 h1
  unfold clC
  rw [if_neg (show ¬ 40 < r by rw [Int32.lt_iff_toInt_lt]; omega)]
  by_cases h : 0 < r
  · rw [if_pos h]
  · rw [if_neg h]
    rw [Int32.lt_iff_toInt_lt] at h
    exact Int32.toInt_inj.mp (by omega)
theorem clC_2 {r : Int32} (h1 : ¬ r ≤ 40) : clC r = 40 := by
  rw [Int32.le_iff_toInt_le] at h1
  unfold clC
  rw [if_pos (show 40 < r by rw [Int32.lt_iff_toInt_lt]; omega)]; rfl
theorem clC_3 {r : Int32} (h1 : ¬ 0 ≤ r) : clC r = 0 := by
  have e40 : (40 : Int32).toInt = 40 := rfl
  have e0 : (0 : Int32).toInt = 0 := rfl
  rw [Int32.le_iff_toInt_le] at h1
  unfold clC
  rw [if_neg (show ¬ 40 < r by rw [Int32.lt_iff_toInt_lt]; omega), if_neg (show ¬ 0 < r by rw [Int32.lt_iff_toInt_lt]; omega)]
theorem W_make {G : Prg} {a b : Int32} {bk M N : Nat} {id : Nat → Cid} {st : Nat → Nat} {va : Nat → Vl} {x S : Nat} {st0 : Nat → Nat} {v0 vs v : St} (hw : WFp G) (hS : S = 18000) (h : InW G a b bk M N id st va x S st0 v0 vs v) (e : kdS G (slO id x) = 8) {t : Nat} (ht : t < gn G) (hnu : gnu G (dfn G (id (x / 60))) (x % 60) = nI t) (hta : gar G t = gnk G (dfn G (id (x / 60))) (x % 60) + 1) (hnk : 1 ≤ gnk G (dfn G (id (x / 60))) (x % 60)) (hc0 : 12 * bk + dfn G (id (x / 60)) < 24)
    (h7 : ∀ V, FRv v0 V → gA V 14 (60 * (12 * bk + dfn G (id (x / 60))) + x % 60) = nI t ∧ gA V 7 (60 * (12 * bk + dfn G (id (x / 60))) + x % 60) = nI (60 * (12 * bk + dfn G (id (x / 60))) + gkid G (dfn G (id (x / 60))) (x % 60) 0) ∧ Ch (gA v0 11) (60 * (12 * bk + dfn G (id (x / 60)))) (gA V 10 (60 * (12 * bk + dfn G (id (x / 60))) + x % 60)) ((List.range (gnk G (dfn G (id (x / 60))) (x % 60) - 1)).map (fun k => gkid G (dfn G (id (x / 60))) (x % 60) (k + 1)))) {P : St → Prop} (ky : ∀ V, WkY G a b bk M N id S st0 v0 V → P V) (kb : Bl G N id st0 va x → P vs) (ko : ∀ V, OVm G a b M v0 V → P V) : wp_X7_workMake v (nI x) (nI (60 * (12 * bk + dfn G (id (x / 60))) + x % 60)) P := by
  obtain ⟨hd, hN, hlt⟩ := W_d h
  have hx := h.2.2.1
  have hp60 : x % 60 < 60 := Nat.mod_lt _ (by decide)
  have hinP : vp_in (nI (60 * (12 * bk + dfn G (id (x / 60))) + x % 60)) 1440 := inN (by omega) (by decide)
  have hinx : vp_in (nI x) 18000 := inN hlt (by decide)
  refine W_ra hw hS h hc0 (h7 v h.1.1).2.2 (fun p hp => ?_) (fun st1 V1 h1 s1 s3 su => ⟨hinP, ?_⟩)
  · obtain ⟨k, hk, rfl⟩ := List.mem_map.mp hp
    have hk := List.mem_range.mp hk
    obtain ⟨q1, q2, q3⟩ := W_kid hw h (k0 := k + 1) (by omega)
    refine ⟨q3, q1, ?_⟩
    have q2' : slO id (60 * (x / 60) + gkid G (dfn G (id (x / 60))) (x % 60) (k + 1)) = kidS G (slO id x) (k + 1) := q2
    show Lfp G a b (slO id (60 * (x / 60) + gkid G (dfn G (id (x / 60))) (x % 60) (k + 1)), none)
    rw [q2']; exact W_L h (by rw [if_neg (by omega)]; omega)
  rw [ixN (by omega), (h7 V1 h1.1.1).2.1]
  obtain ⟨z1, z2, z3⟩ := W_kid hw h1 (k0 := 0) (by omega)
  refine r_here hlt z3 hc0 rfl (W_reach hS h1 z1 (by rw [z2]; exact W_L h1 (by rw [if_neg (by omega)]; omega)) rfl (fun st2 V2 h2 t1 t3 tu => ?_))
  have hki : ∀ i, i < gnk G (dfn G (id (x / 60))) (x % 60) → 1 ≤ st2 (kiO G id x i) := fun i hi => by
    cases i with
    | zero => exact t1
    | succ i => exact tu _ (s1 _ (List.mem_map.mpr ⟨i, List.mem_range.mpr (by omega), rfl⟩))
  have hop : Op G N id st2 va x := ⟨fun k hk => by rw [if_neg (by omega)] at hk; exact hki k hk, fun e7 => by omega, fun e5 => by omega⟩
  refine W_kn h2 z1 (fun hn => W_block h2 ⟨hop, _, 1, z1, hn, Or.inr (Or.inr (Or.inl ⟨Or.inr e, rfl, z2⟩))⟩ ky kb) (fun hk => r_num hN h2.2.1.2.2.1 z1 hk ?_)
  obtain ⟨q, hq, hcl⟩ := clC_q (va (kiO G id x 0)).1
  have main : ∀ y0, y0 = nI q → wp_X7_workMake_67 V2 (nI x) (nI (60 * (12 * bk + dfn G (id (x / 60))) + x % 60)) y0 (nI x) P := fun y0 hy => by
    subst hy
    refine ⟨hinx, nm_i ⟨hinx, nm_i ⟨q + 1, ?_⟩⟩⟩
    rw [ixN (by omega)]
    have e15 : gI (sA V2 32 x (nI q)) 15 = nI N := h2.1.2.2.1.1.1
    rw [e15]
    refine Mk_loop hw hS hq e hnk ht hnu hta hc0 hlt (fun V hV => ⟨(h7 V hV).1, (h7 V hV).2.2⟩) ky ko q 0 N id st2 _ (by omega) ⟨SR_fr h2.1 (fun _ _ => rfl) (fun i hi => by rw [gA_sA, if_neg (by omega), gA_sA, if_neg (by omega)]), SM_mk h2.2.1 e h2.2.2.2.1, ⟨rfl, hx.1, fun _ _ => rfl⟩, ⟨hx, h2.2.2.2.1⟩, ⟨?_, ?_⟩, (fun i hi => absurd hi (Nat.not_lt_zero _)), (fun j i hj _ he => ?_), ?_, hki, hk, hcl⟩
    · show upd (gA V2 32) x (nI q) x = _; rw [updE, if_pos rfl]
    · show upd (gA V2 31) x (nI N) x = _; rw [updE, if_pos rfl]
    · have hC := h2.2.1.2.2.2.2.2.2.2.1 j _ _ (x / 60) hj he hx.1 rfl
      rcases hC.2 (Nat.succ_ne_zero i) with h3 | h3
      · have h3 : st2 (60 * (x / 60) + x % 60) = 3 := h3
        rw [show 60 * (x / 60) + x % 60 = x by omega, h2.2.2.2.1] at h3; omega
      · exact h3
    · rcases h2.2.2.2.2 with ⟨_, e0⟩ | ⟨_, e0⟩
      · rw [e0]; exact Nat.le_refl _
      · omega
  refine br_b (fun c0 => br_b (fun c1 => main _ ?_) (fun c1 => main _ ?_)) (fun c0 => main _ ?_)
  · rw [← hcl, clC_1 c0 c1]
  · rw [← hcl, clC_2 c1]
  · rw [← hcl, clC_3 c0]
