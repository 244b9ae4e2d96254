/-! 98b.refC: the reference's calls -/
theorem W_row {G : Prg} {a b : Int32} {bk M N : Nat} {id : Nat → Cid} {va : Nat → Vl} {x S : Nat} {st0 : Nat → Nat} {v0 vs : St} (hS : S = 18000) {c0 : Nat} (hc0 : c0 < 24) {P : St → Prop} : ∀ (l : List Nat) (st : Nat → Nat) (v : St) (xc : Int32), InW G a b bk M N id st va x S st0 v0 vs v → Ch (gA v0 11) (60 * c0) xc l → (∀ p, p ∈ l → p < 60 ∧ vld G N id (60 * (x / 60) + p) ∧ Lfp G a b (slO id (60 * (x / 60) + p), none)) → (∀ st' V, InW G a b bk M N id st' va x S st0 v0 vs V → (∀ p, p ∈ l → 1 ≤ st' (60 * (x / 60) + p)) → (∀ y, st y = 3 ↔ st' y = 3) → (∀ y, 1 ≤ st y → 1 ≤ st' y) → P V) → wp_X7_reachArguments_11 P (l.length + 1) v (nI x) xc
  | [], st, v, xc, h, hc, hl, k => by
    have hc : xc = -1 := hc
    exact br_p hc (k st v h (fun p hp => by cases hp) (fun _ => Iff.rfl) (fun _ h => h))
  | p :: l, st, v, xc, h, hc, hl, k => by
    obtain ⟨hx, hc⟩ := hc
    subst hx
    obtain ⟨p1, p2, p3⟩ := hl p List.mem_cons_self
    have hlt := (W_d h).2.2
    refine br_n (nI_m1 (by omega)) (r_here hlt p1 hc0 rfl (W_reach hS h p2 p3 rfl (fun st1 V1 h1 s1 s3 su => ⟨inN (by omega) (by decide), nm_i ?_⟩)))
    rw [ixN (by omega), h1.1.1.2.2.2 11 (by decide)]
    refine W_row hS hc0 l st1 V1 _ h1 hc (fun q hq => hl q (List.mem_cons_of_mem _ hq)) (fun st2 V2 h2 t1 t3 tu => k st2 V2 h2 (fun q hq => ?_) (fun y => (s3 y).trans (t3 y)) (fun y hy => tu y (su y hy)))
    rcases List.mem_cons.mp hq with e | hq
    · rw [e]; exact tu _ s1
    · exact t1 q hq
theorem W_ra {G : Prg} {a b : Int32} {bk M N : Nat} {id : Nat → Cid} {st : Nat → Nat} {va : Nat → Vl} {x S : Nat} {st0 : Nat → Nat} {v0 vs v : St} (hw : WFp G) (hS : S = 18000) (h : InW G a b bk M N id st va x S st0 v0 vs v) (hc0 : 12 * bk + dfn G (id (x / 60)) < 24) {l : List Nat} (hc : Ch (gA v0 11) (60 * (12 * bk + dfn G (id (x / 60)))) (gA v 10 (60 * (12 * bk + dfn G (id (x / 60))) + x % 60)) l) (hl : ∀ p, p ∈ l → p < 60 ∧ vld G N id (60 * (x / 60) + p) ∧ Lfp G a b (slO id (60 * (x / 60) + p), none)) {P : St → Prop} (k : ∀ st' V, InW G a b bk M N id st' va x S st0 v0 vs V → (∀ p, p ∈ l → 1 ≤ st' (60 * (x / 60) + p)) → (∀ y, st y = 3 ↔ st' y = 3) → (∀ y, 1 ≤ st y → 1 ≤ st' y) → P V) : wp_X7_reachArguments v (nI x) P := by
  unfold wp_X7_reachArguments
  refine r_part hw h.1.2.1 h.1.2.2.1 h.2.2.1 ⟨inN (by omega) (by decide), nm_i ⟨l.length + 1, ?_⟩⟩
  rw [ixN (by omega)]
  exact W_row hS hc0 l st v _ h hc hl k
theorem r_hand {P : St → Prop} {x c0 cn : Nat} (hx : x < 18000) (hc0 : c0 < 24) (hcn : cn < 300) : ∀ (l : List Nat) (n : Nat) (v : St) (xc : Int32), Ch (gA v 11) (60 * c0) xc l → (∀ p, p ∈ l → p < 60) → n + l.length ≤ 6 → (∀ V, (∀ i, gI V i = gI v i) → (∀ i, i ≠ 24 → i ≠ 25 → i ≠ 26 → gA V i = gA v i) → (∀ i, i < l.length → gA V 24 (6 * cn + n + i) = nI (60 * (x / 60) + l.getD i 0)) → (∀ r, r < 6 * cn + n ∨ 6 * cn + n + l.length ≤ r → gA V 24 r = gA v 24 r ∧ gA V 25 r = gA v 25 r ∧ gA V 26 r = gA v 26 r) → P V) → wp_X7_hand_15 P (l.length + 1) v (nI x) (nI cn) (nI n) xc
  | [], n, v, xc, hc, hl, hn, k => by
    have hc : xc = -1 := hc
    exact br_p hc (k v (fun _ => rfl) (fun _ _ _ _ => rfl) (fun i hi => absurd hi (Nat.not_lt_zero _)) (fun _ _ => ⟨rfl, rfl, rfl⟩))
  | p :: l, n, v, xc, hc, hl, hn, k => by
    obtain ⟨he, hc⟩ := hc
    subst he
    rw [List.length_cons] at hn
    have p1 := hl p List.mem_cons_self
    have e : 6 * nI cn + nI n = nI (6 * cn + n) := by show nI 6 * nI cn + _ = _; rw [pk_mul, nI_add]
    have hin : vp_in (nI (6 * cn + n)) 1800 := inN (by omega) (by decide)
    refine br_n (nI_m1 (by omega)) (r_here hx p1 hc0 rfl (br_n (by simp (disch := omega) only [ln_0, ln_1, ln_2, ln_3, ln_4, ln_5, ln_6, ln_7, ln_8, ln_9, ln_10, ln_11, ln_12, ln_13, ln_14, ln_15, ln_16, ln_17, ln_18, ln_19, ln_20, ln_21, ln_22, ln_23, ln_24, ln_25, ln_26, ln_27, ln_28, ln_29, ln_30, ln_31, ln_32, ln_33, ln_34, ln_35, ln_36, ln_37, ln_38, ln_39, ln_40, ln_41, ln_42, ln_43, ln_44, ln_45, ln_46, ln_47, ln_48, ln_49, ln_50, ln_51, ln_52, ln_53, ln_54, ln_55, ln_56, ln_57, ln_58, ln_59, ln_60, ln_61, ln_62, ln_91, ln_93, ln_97, ln_122, ln_120, ln_123, ln_124, ln_255, ln_256, ln_300, ln_720, ln_1500, ln_12000, ln_18000, nI_leI, nI_ltI, nI_eq]; omega) ?_))
    rw [e]
    refine ⟨hin, nm_i ⟨hin, nm_i ⟨hin, nm_i (nm_i ⟨inN (by omega) (by decide), nm_i ?_⟩)⟩⟩⟩
    rw [ixN (by omega), nI_1]
    have e11 : gA (sA (sA (sA v 24 (6 * cn + n) (nI (60 * (x / 60) + p))) 25 (6 * cn + n) 0) 26 (6 * cn + n) (-1)) 11 = gA v 11 := rfl
    rw [ixN (by omega), e11]
    refine r_hand hx hc0 hcn l (n + 1) _ _ hc (fun q hq => hl q (List.mem_cons_of_mem _ hq)) (by omega) (fun V h1 h2 h3 h4 => k V (fun i => h1 i) (fun i a c d => by rw [h2 i a c d, gA_sA, if_neg d, gA_sA, if_neg c, gA_sA, if_neg a]) (fun i hi => ?_) (fun r hr => ?_))
    · cases i with
      | zero =>
        rw [(h4 (6 * cn + n + 0) (by omega)).1]
        show upd (gA v 24) (6 * cn + n) (nI (60 * (x / 60) + p)) (6 * cn + n + 0) = _
        rw [updE, if_pos (by omega)]; rfl
      | succ i =>
        rw [List.length_cons] at hi
        have := h3 i (by omega)
        rw [show 6 * cn + n + (i + 1) = 6 * cn + (n + 1) + i by omega, this]; rfl
    · rw [List.length_cons] at hr
      obtain ⟨q1, q2, q3⟩ := h4 r (by omega)
      rw [q1, q2, q3]
      show upd (gA v 24) (6 * cn + n) _ r = _ ∧ upd (gA v 25) (6 * cn + n) 0 r = _ ∧ upd (gA v 26) (6 * cn + n) (-1) r = _
      rw [updE, updE, updE, if_neg (by omega), if_neg (by omega), if_neg (by omega)]; exact ⟨rfl, rfl, rfl⟩
theorem r_hd {G : Prg} {bk M N : Nat} {id : Nat → Cid} {v : St} (hw : WFp G) (hP : MPv G bk v) (hJ : CaM G M N id v) {x cn n : Nat} (hx : vld G N id x) (hc0 : 12 * bk + dfn G (id (x / 60)) < 24) (hcn : cn < 300) {l : List Nat} (hc : Ch (gA v 11) (60 * (12 * bk + dfn G (id (x / 60)))) (gA v 10 (60 * (12 * bk + dfn G (id (x / 60))) + x % 60)) l) (hl : ∀ p, p ∈ l → p < 60) (hn : n + l.length ≤ 6) {y : Int32} (hy : y = nI n) {P : St → Prop} (k : ∀ V, (∀ i, gI V i = gI v i) → (∀ i, i ≠ 24 → i ≠ 25 → i ≠ 26 → gA V i = gA v i) → (∀ i, i < l.length → gA V 24 (6 * cn + n + i) = nI (60 * (x / 60) + l.getD i 0)) → (∀ r, r < 6 * cn + n ∨ 6 * cn + n + l.length ≤ r → gA V 24 r = gA v 24 r ∧ gA V 25 r = gA v 25 r ∧ gA V 26 r = gA v 26 r) → P V) : wp_X7_hand v (nI x) (nI cn) y P := by
  subst hy
  unfold wp_X7_hand
  refine r_part hw hP hJ hx ⟨inN (by omega) (by decide), nm_i ⟨l.length + 1, ?_⟩⟩
  rw [ixN (by omega)]
  exact r_hand (vld_lt hx (by have := hJ.1; omega)) hc0 hcn l n v _ hc hl hn k
theorem SR_fr {G : Prg} {bk M N : Nat} {id : Nat → Cid} {st : Nat → Nat} {v0 v V : St} (h : SRm G bk M N id st v0 v) (eI : ∀ i, i ≤ 16 → gI V i = gI v i) (eA : ∀ i, i ≤ 23 ∨ i = 27 ∨ i = 28 → gA V i = gA v i) : SRm G bk M N id st v0 V := by
  obtain ⟨hF, hP, hJ, hS⟩ := h
  have hF' : FRv v0 V := ⟨by rw [eI 1 (by decide), eI 0 (by decide)]; exact hF.1, by rw [eI 2 (by decide)]; exact hF.2.1, by rw [eI 3 (by decide)]; exact hF.2.2.1, fun k hk => by rw [eA k (by omega)]; exact hF.2.2.2 k hk⟩
  refine ⟨hF', ?_, ?_, fun z hz => ?_⟩
  · unfold MPv at hP ⊢
    rw [eI 2 (by decide), eI 3 (by decide)]
    simp (disch := decide) only [eA]
    exact hP
  · unfold CaM at hJ ⊢
    rw [eI 15 (by decide), eI 16 (by decide), eA 23 (by decide)]; exact hJ
  · rw [eA 27 (by decide), eA 28 (by decide)]; exact hS z hz
theorem stN_eq {st : Nat → Nat} {N r : Nat} (h : ∀ z, z / 60 = N → st z = 0) (hr : r / 60 = N) : stN st N r = uF st r 1 := by
  funext z
  unfold stN uF
  by_cases e : z = r
  · rw [if_pos (by rw [e]; exact hr), if_pos e, if_pos e]
  · rw [if_neg e]
    by_cases hz : z / 60 = N
    · rw [if_pos hz, if_neg e, h z hz]
    · rw [if_neg hz, if_neg e]
theorem rg_get {f : Nat → Nat} {n i : Nat} (h : i < n) : ((List.range n).map f).getD i 0 = f i := by
  rw [List.getD_eq_getElem?_getD, List.getElem?_map, List.getElem?_range h]; rfl
theorem W_call {G : Prg} {a b : Int32} {bk M N : Nat} {id : Nat → Cid} {st : Nat → Nat} {va : Nat → Vl} {x S : Nat} {st0 : Nat → Nat} {v0 vs v : St} (hw : WFp G) (hS : S = 18000) (h : InW G a b bk M N id st va x S st0 v0 vs v) (e : kdS G (slO id x) = 7) {t : Nat} (ht : t < gn G) (hnu : gnu G (dfn G (id (x / 60))) (x % 60) = nI t) (hta : gar G t = gnk G (dfn G (id (x / 60))) (x % 60)) (hc0 : 12 * bk + dfn G (id (x / 60)) < 24)
    (h7 : ∀ V, FRv v0 V → gA V 14 (60 * (12 * bk + dfn G (id (x / 60))) + x % 60) = nI t ∧ Ch (gA v0 11) (60 * (12 * bk + dfn G (id (x / 60)))) (gA V 10 (60 * (12 * bk + dfn G (id (x / 60))) + x % 60)) ((List.range (gnk G (dfn G (id (x / 60))) (x % 60))).map (gkid G (dfn G (id (x / 60))) (x % 60)))) {P : St → Prop} (ky : ∀ V, WkY G a b bk M N id S st0 v0 V → P V) (kb : Bl G N id st0 va x → P vs) (ko : ∀ V, OVm G a b M v0 V → P V) : wp_X7_workCall v (nI x) (nI (60 * (12 * bk + dfn G (id (x / 60))) + x % 60)) P := by
  obtain ⟨hd, hN, hlt⟩ := W_d h
  have hx := h.2.2.1
  have hx1 := hx.1
  have hp60 : x % 60 < 60 := Nat.mod_lt _ (by decide)
  obtain ⟨_, _, _, _, w5⟩ := hw.2 _ hd
  have hnk6 := (w5 _ hx.2).1
  have hinP : vp_in (nI (60 * (12 * bk + dfn G (id (x / 60))) + x % 60)) 1440 := inN (by omega) (by decide)
  have hinx : vp_in (nI x) 18000 := inN hlt (by decide)
  have e' : gkd G (dfn G (id (x / 60))) (x % 60) = 7 := e
  have hkidl : ∀ p, p ∈ (List.range (gnk G (dfn G (id (x / 60))) (x % 60))).map (gkid G (dfn G (id (x / 60))) (x % 60)) → p < 60 := fun p hp => by
    obtain ⟨k, hk, rfl⟩ := List.mem_map.mp hp
    exact (W_kid hw h (List.mem_range.mp hk)).2.2
  refine W_ra hw hS h hc0 (h7 v h.1.1).2 (fun p hp => ?_) (fun st1 V1 h1 s1 s3 su => ⟨hinx, ?_⟩)
  · obtain ⟨k, hk, rfl⟩ := List.mem_map.mp hp
    have hk := List.mem_range.mp hk
    obtain ⟨q1, q2, q3⟩ := W_kid hw h hk
    refine ⟨q3, q1, ?_⟩
    have q2' : slO id (60 * (x / 60) + gkid G (dfn G (id (x / 60))) (x % 60) k) = kidS G (slO id x) k := q2
    rw [q2']; exact W_L h (by rw [if_neg (by omega)]; exact hk)
  have hkr : ∀ k, k < gnk G (dfn G (id (x / 60))) (x % 60) → 1 ≤ st1 (kiO G id x k) := fun k hk => s1 _ (List.mem_map.mpr ⟨k, List.mem_range.mpr hk, rfl⟩)
  rw [ixN (by omega)]
  rcases h1.2.1.2.2.2.2.1 x hx e with ⟨m1, m2⟩ | ⟨j, m1, m2, m3⟩
  · rw [m1]
    refine br_p rfl ⟨hinP, ?_⟩
    rw [ixN (by omega), (h7 V1 h1.1.1).1]
    have hdc : dfn G ((x % 60, 0) :: id (x / 60)) = t := by show ix (gnu G (dfn G (id (x / 60))) (x % 60)) = t; rw [hnu, ixN (by have := (WF_d hw hd).1; omega)]
    have hexC : exC G (Lfp G a b) ((x % 60, 0) :: id (x / 60)) := ⟨hx.2, Or.inl ⟨rfl, e', (h1.2.1.2.1.2.2 x hx).1 (by have := h1.2.2.2.1; omega)⟩⟩
    refine r_call hw h1.1 (c := (x % 60, 0) :: id (x / 60)) (by rw [hdc]; exact ht) (by rw [hdc]) (fun hNM V2 hV2 uI u18 u29 u30 u31 u24 => ?_) (fun hNM => br_p rfl (ko _ ⟨h1.1.1, rfl, N, id, st1, va, _, h1.2.1.2.1, hNM, hexC, m2⟩))
    refine br_n (nI_m1 (by omega)) ⟨hinx, nm_i ?_⟩
    have hid' : uF id N ((x % 60, 0) :: id (x / 60)) (x / 60) = id (x / 60) := uF_o (by omega)
    have hV3 : SRm G bk M (N + 1) (uF id N ((x % 60, 0) :: id (x / 60))) (stN st1 N (60 * N + grt G (dfn G ((x % 60, 0) :: id (x / 60))))) v0 (sA V2 31 x (nI N)) := SR_fr hV2 (fun _ _ => rfl) (fun i hi => by rw [gA_sA, if_neg (by omega)])
    have hvx : vld G (N + 1) (uF id N ((x % 60, 0) :: id (x / 60))) x := vld_new.mpr (Or.inl hx)
    have e11 : gA (sA V2 31 x (nI N)) 11 = gA v0 11 := hV3.1.2.2.2 11 (by decide)
    refine r_hd hw hV3.2.1 hV3.2.2.1 hvx (cn := N) (n := 0) (l := (List.range (gnk G (dfn G (id (x / 60))) (x % 60))).map (gkid G (dfn G (id (x / 60))) (x % 60))) (by rw [hid']; exact hc0) (by have := h1.1.2.2.1.1; omega) (by rw [hid', e11]; exact (h7 _ hV3.1).2) hkidl (by simp; omega) rfl (fun V4 w1 w2 w3 w4 => ?_)
    have hlenl : ((List.range (gnk G (dfn G (id (x / 60))) (x % 60))).map (gkid G (dfn G (id (x / 60))) (x % 60))).length = gnk G (dfn G (id (x / 60))) (x % 60) := by simp
    have hV4 : SRm G bk M (N + 1) (uF id N ((x % 60, 0) :: id (x / 60))) (stN st1 N (60 * N + grt G (dfn G ((x % 60, 0) :: id (x / 60))))) v0 V4 := SR_fr hV3 (fun i _ => w1 i) (fun i hi => w2 i (by omega) (by omega) (by omega))
    have e31 : gA V4 31 = upd (gA V2 31) x (nI N) := by rw [w2 31 (by decide) (by decide) (by decide)]; rfl
    have e32 : gA V4 32 = gA V2 32 := by rw [w2 32 (by decide) (by decide) (by decide)]; rfl
    have h24 : ∀ r, r / 6 ≠ N → gA V4 24 r = gA V1 24 r ∧ gA V4 25 r = gA V1 25 r ∧ gA V4 26 r = gA V1 26 r := fun r hr => by
      obtain ⟨q1, q2, q3⟩ := w4 r (by rw [hlenl]; omega)
      rw [q1, q2, q3]
      exact (u24 r).2 hr
    have hSM4 : SMm G a b (N + 1) (uF id N ((x % 60, 0) :: id (x / 60))) (stN st1 N (60 * N + grt G (dfn G ((x % 60, 0) :: id (x / 60))))) va (fun _ => False) V4 := by
      refine Rm_call hw h1.2.1 (by rw [hdc]; exact ht) hexC m2 (fun j hj => (h1.1.2.2.1.2 j hj).1) rfl (fun ec c' hec => ?_) (fun q hq => ?_) (fun z hz e7 hne => ?_) (fun z hz e7 he => ?_) (fun z hz e7 => ?_) (fun z hz => ?_) (fun z hz => ?_) (by rw [w1 17]; show gI V2 17 = _; exact uI 17 (by decide) (by decide)) (by rw [w2 29 (by decide) (by decide) (by decide)]; exact u29) (by rw [w2 30 (by decide) (by decide) (by decide)]; exact u30) h24 (fun z hz => hz.elim)
      · cases hec
        exact ⟨x / 60, hx1, rfl, hp60, fun hne => absurd rfl hne⟩
      · rw [hdc, hta] at hq
        unfold ArJ
        rw [uF_s]
        refine ⟨x / 60, by omega, hid', hx.2, Or.inl ⟨rfl, e', ?_⟩⟩
        have := w3 q (by rw [hlenl]; exact hq)
        rw [rg_get hq] at this
        rw [show 6 * N + q = 6 * N + 0 + q by omega]; exact this
      · rw [e31, updE, if_neg (fun ez => hne (by rw [ez]))]
        exact ((u31 z).2 (by have := hz.1; omega)).1
      · have hzx : z = x := by
          have he1 : x % 60 = z % 60 := congrArg Prod.fst (List.cons.inj he).1
          have he2 := h1.2.1.2.1.1 _ _ hx1 hz.1 (List.cons.inj he).2
          omega
        rw [e31, updE, if_pos hzx]
      · rw [e31, updE, if_neg (fun ez => e7 (by rw [ez]; exact e))]
        exact ((u31 z).2 (by have := hz.1; omega)).1
      · rw [e31, e32, updE, if_neg (by omega)]; exact (u31 z).1 hz
      · rw [e32]; exact ((u31 z).2 (by omega)).2
    have hsl' : slO (uF id N ((x % 60, 0) :: id (x / 60))) x = slO id x := by unfold slO; rw [hid']
    have hstx : stN st1 N (60 * N + grt G (dfn G ((x % 60, 0) :: id (x / 60)))) x = 1 := by unfold stN; rw [if_neg (by omega)]; exact h1.2.2.2.1
    obtain ⟨d1, d2, d3⟩ := WF_d hw (show dfn G ((x % 60, 0) :: id (x / 60)) < gn G by rw [hdc]; exact ht)
    have hsum : sumTo st0 S < sumTo (stN st1 N (60 * N + grt G (dfn G ((x % 60, 0) :: id (x / 60))))) S := by
      have hz0 : ∀ z, z / 60 = N → st1 z = 0 := fun z hz => h1.2.1.2.2.2.2.2.2.2.2.2.2.1 z (fun hv => by have := hv.1; omega)
      rw [stN_eq hz0 (by omega)]
      have := sumTo_s (f := st1) (x := 60 * N + grt G (dfn G ((x % 60, 0) :: id (x / 60)))) (v := 1) S (by rw [hS]; have := h1.1.2.2.1.1; omega)
      rw [hz0 _ (by omega)] at this
      rcases h1.2.2.2.2 with ⟨_, e0⟩ | ⟨_, e0⟩
      · rw [← e0]; omega
      · omega
    have e18 : gI V4 18 = 1 := by rw [w1 18]; exact u18
    have hIW : InW G a b bk M (N + 1) (uF id N ((x % 60, 0) :: id (x / 60))) (stN st1 N (60 * N + grt G (dfn G ((x % 60, 0) :: id (x / 60))))) va x S st0 v0 V4 V4 := ⟨hV4, hSM4, hvx, hstx, Or.inr ⟨e18, hsum⟩⟩
    have ky' : ∀ V, WkY G a b bk M (N + 1) (uF id N ((x % 60, 0) :: id (x / 60))) S st0 v0 V → P V := fun V ⟨N', id', st', va', g1, g2, g3, g4, g5, g6⟩ => ky V ⟨N', id', st', va', g1, g2, by omega, fun j hj => by rw [g4 j (by omega), uF_o (by omega)], g5, g6⟩
    have hj1 : N < N + 1 := by omega
    refine ⟨hinx, ?_⟩
    rw [ixN (by omega), e31, updE, if_pos rfl]
    refine r_root hw hV4.2.1 hV4.2.2.1 hj1 rfl ?_
    obtain ⟨g1, g2, g3, g4⟩ := vld_in hw (id := uF id N ((x % 60, 0) :: id (x / 60))) hj1 (by rw [uF_s, hdc]; exact ht) (p := grt G (dfn G (uF id N ((x % 60, 0) :: id (x / 60)) N))) (by rw [uF_s]; exact d3)
    have hop : Op G (N + 1) (uF id N ((x % 60, 0) :: id (x / 60))) (stN st1 N (60 * N + grt G (dfn G ((x % 60, 0) :: id (x / 60))))) va x := by
      refine ⟨fun k hk => ?_, fun _ => ⟨N, hj1, by rw [uF_s, hid']⟩, fun e5 => by rw [hsl'] at e5; omega⟩
      rw [hsl', if_neg (by omega), hid'] at hk
      have hki := (kiO_v hw hx hd hk).2.2.1
      have ek : kiO G (uF id N ((x % 60, 0) :: id (x / 60))) x k = kiO G id x k := by unfold kiO; rw [hid']
      rw [ek]; unfold stN; rw [if_neg (by rw [hki]; omega)]; exact hkr k hk
    have hsl : slO (uF id N ((x % 60, 0) :: id (x / 60))) (60 * N + grt G (dfn G (uF id N ((x % 60, 0) :: id (x / 60)) N))) = rtS G (((slO (uF id N ((x % 60, 0) :: id (x / 60))) x).2, 0) :: (slO (uF id N ((x % 60, 0) :: id (x / 60))) x).1) := by rw [g2, hsl', uF_s]; rfl
    exact W_same hS hIW g1 (l := 1) (Or.inr (Or.inr (Or.inr (Or.inr (Or.inl ⟨by rw [hsl']; exact e, rfl, hsl⟩))))) (fun h3 => by rw [Kn_7 (by rw [hsl']; exact e)]; exact XM_k g1 hsl h3) hop (by rw [hsl']; omega) rfl rfl ky' (fun _ => ky' V4 ⟨N + 1, _, _, va, hV4, hSM4, Nat.le_refl _, fun _ _ => rfl, e18, hsum⟩)
  · rw [m2]
    have hj300 := m1
    refine br_n (nI_m1 (by omega)) ⟨hinx, ?_⟩
    rw [ixN (by omega), m2]
    refine r_root hw h1.1.2.1 h1.1.2.2.1 m1 rfl ?_
    have hdf := (h1.1.2.2.1.2 _ m1).1
    obtain ⟨g1, g2, g3, g4⟩ := vld_in hw m1 hdf (WF_d hw hdf).2.2
    have hsl : slO id (60 * j + grt G (dfn G (id j))) = rtS G (((slO id x).2, 0) :: (slO id x).1) := by rw [g2, m3]; rfl
    have hop : Op G N id st1 va x := ⟨fun k hk => by rw [if_neg (by omega)] at hk; exact hkr k hk, fun _ => ⟨j, m1, m3⟩, fun e5 => by omega⟩
    exact W_same hS h1 g1 (l := 1) (Or.inr (Or.inr (Or.inr (Or.inr (Or.inl ⟨e, rfl, hsl⟩))))) (fun h3 => by rw [Kn_7 e]; exact XM_k g1 hsl h3) hop (by omega) rfl rfl ky kb
