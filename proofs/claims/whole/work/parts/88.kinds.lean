/-! 88.kinds: a look, kind by kind -/
theorem L_reach {G : Prg} {a b : Int32} {sc : Nat → Nat → List Nat} {M N : Nat} {id : Nat → Cid} {st : Nat → Nat} {va : Nat → Vl} {B : List Nat} {W : Nat → List Nat} {KS : List Nat} {lk : Nat → Nat} {x : Nat} {u0 u : St} (h : InL G a b sc M N id st va B W KS lk x u0 u) {z : Nat} (hz : vld G N id z) (hL : Lfp G a b (slO id z, none)) (hsc : ∀ q, q ∈ sc (dfn G (id (z / 60))) (z % 60) → (q < gnp G (dfn G (id (z / 60))) ∧ 0 < gnk G (dfn G (id (z / 60))) q) ∧ 1 ≤ st (60 * (z / 60) + gkid G (dfn G (id (z / 60))) q 0)) {y : Int32} (hy : y = nI z) {P : St → Prop} (k : ∀ st' B' W' U, InL G a b sc M N id st' va B' W' KS lk x u0 U → 1 ≤ st' z → (∀ y, st y = 3 → st' y = 3) → (∀ y, st' y = 3 → st y = 3) → (∀ y, 1 ≤ st y → 1 ≤ st' y) → P U) : wp_X4_reach u y P := by
  obtain ⟨c1, c2, c3, c4⟩ := InL_x h
  have hh := h
  obtain ⟨hSI, hSM, ⟨k1, k2, k3, k4⟩, ⟨l1, l2⟩, hlv⟩ := h
  refine o_reach hSI hz hy (fun h1 => k st B W u hh h1 (fun _ h => h) (fun _ h => h) (fun _ h => h)) (fun h0 U eI eA hU => ?_)
  have up1 : ∀ y, 1 ≤ st y → 1 ≤ uF st z 1 y := fun y hy => by
    by_cases e : y = z
    · rw [e, uF_s]; decide
    · rw [uF_o e]; exact hy
  have up3 : ∀ y, st y = 3 → uF st z 1 y = 3 := fun y hy => by rw [uF_o (fun e => by rw [e] at hy; omega)]; exact hy
  have dn3 : ∀ y, uF st z 1 y = 3 → st y = 3 := fun y hy => by
    by_cases e : y = z
    · rw [e, uF_s] at hy; omega
    · rw [uF_o e] at hy; exact hy
  have hX := XM_up (G := G) (N := N) (id := id) (st := st) (st' := uF st z 1) (va := va) (fun y _ => up1 y) (fun y _ => up3 y)
  refine k (uF st z 1) (B ++ [z]) (uF W z []) U ⟨hU, M_reach hSM hz h0 hL (fun q hq => ⟨(hsc q hq).1, up1 _ (hsc q hq).2⟩) (fun i hi => eI i (by omega)) (fun i hi => eA i (by omega) (by omega) (by omega)), ⟨by rw [eI 20 (by decide)]; exact k1, k2, fun r => ?_, by rw [eI 19 (by decide)]; exact k4⟩, ⟨l1, fun r hr => l2 r (hr.imp (fun h => h) (fun h => ?_))⟩, ?_⟩ (by rw [uF_s]; decide) up3 dn3 up1
  · rw [k3 r]; exact ⟨fun ⟨p, q⟩ => ⟨p, up3 r q⟩, fun ⟨p, q⟩ => ⟨p, dn3 r q⟩⟩
  · by_cases e : r = z
    · rw [e, h0]; decide
    · rw [uF_o e] at h; exact h
  · exact hlv.imp (fun h => h) (fun ⟨l, o, w, q1, q2, q3⟩ => ⟨l, o, w, Nd_mono hX q1, hX _ q2, q3⟩)
theorem rp_no {N : Nat} {id : Nat → Cid} {n : Int32} : RpV N id (n, none) (-1) := ⟨fun _ => rfl, fun o h => by cases h⟩
theorem c_comb {u : St} {sg : Nat} (hs : sg ∈ [43, 45, 42, 47, 37, 60, 62, 61]) {z x y : Int32} (hz : z = nI sg) {P : Int32 → St → Prop} (k : P (opr sg x y) u) : wp_X1_combined u z x y P := by
  subst hz
  simp only [List.mem_cons, List.not_mem_nil, or_false] at hs
  unfold opr at k
  rcases hs with rfl | rfl | rfl | rfl | rfl | rfl | rfl | rfl
  · exact br_n (by decide) (br_n (by decide) (br_p rfl k))
  · exact br_n (by decide) (br_n (by decide) (br_n (by decide) (br_p rfl k)))
  · exact br_n (by decide) (br_p rfl k)
  · refine br_n (by decide) (br_n (by decide) (br_n (by decide) (br_n (by decide) (br_p rfl (br_b (fun c => ?_) (fun c => ⟨c, ?_⟩))))))
    · rw [if_neg (by decide), if_neg (by decide), if_neg (by decide), if_neg (by decide), if_pos rfl, if_pos c] at k; exact k
    · rw [if_neg (by decide), if_neg (by decide), if_neg (by decide), if_neg (by decide), if_pos rfl, if_neg c] at k; exact k
  · refine br_p rfl (br_b (fun c => ?_) (fun c => ⟨c, ?_⟩))
    · rw [if_pos rfl, if_pos c] at k; exact k
    · rw [if_pos rfl, if_neg c] at k; exact k
  · refine br_n (by decide) (br_n (by decide) (br_n (by decide) (br_n (by decide) (br_n (by decide) (br_p rfl (br_b (fun c => ?_) (fun c => ?_)))))))
    · rw [if_neg (by decide), if_neg (by decide), if_neg (by decide), if_neg (by decide), if_neg (by decide), if_pos rfl, if_pos c] at k; exact k
    · rw [if_neg (by decide), if_neg (by decide), if_neg (by decide), if_neg (by decide), if_neg (by decide), if_pos rfl, if_neg c] at k; exact k
  · refine br_n (by decide) (br_n (by decide) (br_n (by decide) (br_n (by decide) (br_n (by decide) (br_n (by decide) (br_p rfl (br_b (fun c => ?_) (fun c => ?_))))))))
    · rw [if_neg (by decide), if_neg (by decide), if_neg (by decide), if_neg (by decide), if_neg (by decide), if_neg (by decide), if_pos rfl, if_pos c] at k; exact k
    · rw [if_neg (by decide), if_neg (by decide), if_neg (by decide), if_neg (by decide), if_neg (by decide), if_neg (by decide), if_pos rfl, if_neg c] at k; exact k
  · refine br_n (by decide) (br_n (by decide) (br_n (by decide) (br_n (by decide) (br_n (by decide) (br_n (by decide) (br_n (by decide) (br_b (fun c => ?_) (fun c => ?_))))))))
    · rw [if_neg (by decide), if_neg (by decide), if_neg (by decide), if_neg (by decide), if_neg (by decide), if_neg (by decide), if_neg (by decide), if_pos c] at k; exact k
    · rw [if_neg (by decide), if_neg (by decide), if_neg (by decide), if_neg (by decide), if_neg (by decide), if_neg (by decide), if_neg (by decide), if_neg c] at k; exact k
theorem numAt {u : St} {y : Nat} (hy : y < 18000) {P : Int32 → St → Prop} (k : P (gA u 34 y) u) : wp_X4_numberAt u (nI y) P := ⟨inN hy (by decide), by rw [ixN (by omega)]; exact k⟩
theorem arrAt {u : St} {y : Nat} (hy : y < 18000) {P : Int32 → St → Prop} (k : P (gA u 35 y) u) : wp_X4_arrayAt u (nI y) P := ⟨inN hy (by decide), by rw [ixN (by omega)]; exact k⟩
/-- an argument -/
theorem c_arg {G : Prg} {a b : Int32} {sc : Nat → Nat → List Nat} {M N : Nat} {id : Nat → Cid} {st : Nat → Nat} {va : Nat → Vl} {B : List Nat} {W : Nat → List Nat} {KS : List Nat} {lk : Nat → Nat} {x : Nat} {u0 u : St} (hw : WFp G) (h : InL G a b sc M N id st va B W KS lk x u0 u) (h2 : kdS G (slO id x) = 2) {q : Nat} (hq : q < gar G (dfn G (id (x / 60)))) (hnu : nuS G (slO id x) = nI q) {P : St → Prop} (k : ∀ U, RIs G a b sc M u0 lk U → P U) : wp_X1_workOutArgument u (nI x) (nI q) P := by
  obtain ⟨c1, c2, c3, c4⟩ := InL_x h
  obtain ⟨hd, hN, hlt⟩ := InL_d h
  have hx1 := c1.1
  have hJ := h.1.2.2.1
  have hC := h.1.2.1
  obtain ⟨n1, n2, _, _, _⟩ := h.2.1.1
  have har := (hw.2 _ hd).1
  have hixq : ix (nuS G (slO id x)) = q := by rw [hnu, ixN (by omega)]
  have hif : kdS G (slO id x) = 5 → ∃ w, XM G N id st va (kidS G (slO id x) 0, some w) ∧ XM G N id st va (kidS G (slO id x) (if w.1 = 0 then 2 else 1), none) := fun e => by omega
  have hin : vp_in (nI (x / 60)) 300 := inN (by omega) (by decide)
  refine nm_i ?_
  rw [pk_d6 (by omega)]
  refine ⟨hin, nm_i ?_⟩
  rw [ixN (by omega)]
  have hmk := (hJ.2 (x / 60) hx1).2.2
  unfold mkJ at hmk
  cases hid : id (x / 60) with
  | nil =>
    rw [hid] at hmk
    have hsrc : srcS G (slO id x) q = none := by unfold srcS slO; rw [hid]
    have hfin : ∀ n : Int32, argS a b (slO id x) q = n → wp_X4_settle u (nI x) n (-1) P := fun n hn => L_settle h (w := (n, none)) rfl rfl (by
      rw [Kn_2 h2, hixq]; exact Or.inl ⟨hsrc, by rw [hn]⟩) rp_no hif k
    have harg : argS a b (slO id x) q = if q = 0 then a else if q = 1 then b else 0 := by unfold argS slO; rw [hid]
    rw [hmk.1]
    refine br_p rfl (br_b (fun c => ?_) (fun c => br_b (fun c2 => ?_) (fun c2 => ?_)))
    · simp (disch := omega) only [ln_0, ln_1, ln_2, ln_3, ln_4, ln_5, ln_6, ln_7, ln_8, ln_9, ln_10, ln_11, ln_12, ln_13, ln_14, ln_15, ln_16, ln_17, ln_18, ln_19, ln_20, ln_21, ln_22, ln_23, ln_24, ln_25, ln_26, ln_27, ln_28, ln_29, ln_30, ln_31, ln_32, ln_33, ln_34, ln_35, ln_36, ln_37, ln_38, ln_39, ln_40, ln_41, ln_42, ln_43, ln_44, ln_45, ln_46, ln_47, ln_48, ln_49, ln_50, ln_51, ln_52, ln_53, ln_54, ln_55, ln_56, ln_57, ln_58, ln_59, ln_60, ln_61, ln_62, ln_91, ln_93, ln_97, ln_122, ln_120, ln_123, ln_124, ln_255, ln_256, ln_300, ln_720, ln_1500, ln_12000, ln_18000, nI_leI, nI_ltI, nI_eq] at c
      rw [n1]; exact hfin a (by rw [harg, if_pos c])
    · simp (disch := omega) only [ln_0, ln_1, ln_2, ln_3, ln_4, ln_5, ln_6, ln_7, ln_8, ln_9, ln_10, ln_11, ln_12, ln_13, ln_14, ln_15, ln_16, ln_17, ln_18, ln_19, ln_20, ln_21, ln_22, ln_23, ln_24, ln_25, ln_26, ln_27, ln_28, ln_29, ln_30, ln_31, ln_32, ln_33, ln_34, ln_35, ln_36, ln_37, ln_38, ln_39, ln_40, ln_41, ln_42, ln_43, ln_44, ln_45, ln_46, ln_47, ln_48, ln_49, ln_50, ln_51, ln_52, ln_53, ln_54, ln_55, ln_56, ln_57, ln_58, ln_59, ln_60, ln_61, ln_62, ln_91, ln_93, ln_97, ln_122, ln_120, ln_123, ln_124, ln_255, ln_256, ln_300, ln_720, ln_1500, ln_12000, ln_18000, nI_leI, nI_ltI, nI_eq] at c c2
      rw [n2]; exact hfin b (by rw [harg, if_neg c, if_pos c2])
    · simp (disch := omega) only [ln_0, ln_1, ln_2, ln_3, ln_4, ln_5, ln_6, ln_7, ln_8, ln_9, ln_10, ln_11, ln_12, ln_13, ln_14, ln_15, ln_16, ln_17, ln_18, ln_19, ln_20, ln_21, ln_22, ln_23, ln_24, ln_25, ln_26, ln_27, ln_28, ln_29, ln_30, ln_31, ln_32, ln_33, ln_34, ln_35, ln_36, ln_37, ln_38, ln_39, ln_40, ln_41, ln_42, ln_43, ln_44, ln_45, ln_46, ln_47, ln_48, ln_49, ln_50, ln_51, ln_52, ln_53, ln_54, ln_55, ln_56, ln_57, ln_58, ln_59, ln_60, ln_61, ln_62, ln_91, ln_93, ln_97, ln_122, ln_120, ln_123, ln_124, ln_255, ln_256, ln_300, ln_720, ln_1500, ln_12000, ln_18000, nI_leI, nI_ltI, nI_eq] at c c2
      exact hfin 0 (by rw [harg, if_neg c, if_neg c2])
  | cons e c =>
    rw [hid] at hmk
    obtain ⟨j', m1, m2, m3, m4, m5, m6⟩ := hmk
    have hdc : dfn G (id j') < gn G := (hJ.2 j' m1).1
    have hmkr := h.2.1.2.2.2.2.2.2.2.1 (x / 60) e c j' hx1 hid m1 m2
    have m3' : e.1 < gnp G (dfn G (id j')) := by rw [m2]; exact m3
    obtain ⟨y1, y2, y3, y4⟩ := vld_in hw m1 hdc m3'
    rw [m2] at y2
    have h60 := (WF_d hw hdc).2.1
    -- the target's arity
    have hdx : dfn G (id (x / 60)) = ix (gnu G (dfn G c) e.1) := by rw [hid]; rfl
    have hkc : dfn G c < gn G := by rw [← m2]; exact hdc
    have hkinds := ((hw.2 _ hkc).2.2.2.2 e.1 m3).2.2
    have hlty := vld_lt y1 hN
    rw [m5]
    have hyk : ∀ k0, k0 < gnk G (dfn G c) e.1 → kdS G (c, e.1) ≠ 5 → vld G N id (kiO G id (60 * j' + e.1) k0) ∧ slO id (kiO G id (60 * j' + e.1) k0) = kidS G (c, e.1) k0 ∧ 1 ≤ st (kiO G id (60 * j' + e.1) k0) ∧ kiO G id (60 * j' + e.1) k0 = 60 * ((60 * j' + e.1) / 60) + gkid G (dfn G (id ((60 * j' + e.1) / 60))) ((60 * j' + e.1) % 60) k0 := fun k0 hk0 h5 => by
      have hk0' : k0 < gnk G (dfn G (id ((60 * j' + e.1) / 60))) ((60 * j' + e.1) % 60) := by rw [y3, y4, m2]; exact hk0
      obtain ⟨q1, q2, q3, q4⟩ := kiO_v hw y1 (by rw [y3]; exact hdc) hk0'
      refine ⟨q1, by rw [q2, y2], h.2.1.2.2.2.2.1 _ y1 hmkr.1 (fun h => h) k0 ?_, rfl⟩
      rw [y2, if_neg h5]; exact hk0'
    refine br_n (nI_m1 (by omega)) ⟨hin, ?_⟩
    rw [m6]
    by_cases he0 : e.2 = 0
    · rw [if_pos he0]
      have hk7 := hmkr.2.1 he0
      have hk7' : gkd G (dfn G c) e.1 = 7 := hk7
      have hqn : q < gnk G (dfn G c) e.1 := by
        rcases hkinds with r | r | r | r | r | r | r | r | r | r
        all_goals first | (exfalso; omega) | skip
        · obtain ⟨_, t, t1, t2, t3⟩ := r
          rw [hdx, t2, ixN (by have := (WF_d hw hkc).1; omega)] at hq
          rw [t3] at hq; exact hq
        · exfalso; have := r.1; rw [hk7'] at this; simp at this
      obtain ⟨z1, z2, z3, z4⟩ := hyk q hqn (by omega)
      have hsrc : srcS G (slO id x) q = some (kidS G (c, e.1) q) := by unfold srcS slO; rw [hid]; show (if e.2 = 0 then _ else _) = _; rw [if_pos he0]
      refine br_p rfl (a_part hw hJ y1 (a_inside hw hC hJ y1 y1.2 (by rw [y3, y4, m2]; exact hqn) rfl rfl ?_))
      rw [← z4]
      exact L_follow h z1 z3 (l := 1) (Or.inl ⟨h2, rfl, by rw [hixq, hsrc, z2]⟩) (fun h3 => by rw [Kn_2 h2, hixq]; exact Or.inr ⟨_, hsrc, XM_k z1 z2 h3⟩) hif rfl rfl k
    · rw [if_neg he0]
      obtain ⟨hk8, _⟩ := hmkr.2.2 he0
      have hk8' : gkd G (dfn G c) e.1 = 8 := hk8
      have hqn : q < gnk G (dfn G c) e.1 + 1 := by
        rcases hkinds with r | r | r | r | r | r | r | r | r | r
        all_goals first | (exfalso; omega) | skip
        · obtain ⟨_, _, t, t1, t2, t3⟩ := r
          rw [hdx, t2, ixN (by have := (WF_d hw hkc).1; omega)] at hq
          rw [t3] at hq; exact hq
        · exfalso; have := r.1; rw [hk8'] at this; simp at this
      have hsrc : srcS G (slO id x) q = if q = 0 then none else if q = 1 then some (c, e.1) else some (kidS G (c, e.1) (q - 1)) := by unfold srcS slO; rw [hid]; show (if e.2 = 0 then _ else _) = _; rw [if_neg he0]
      refine br_n (nI_m1 (by omega)) (br_b (fun c0 => ⟨hin, ?_⟩) (fun c0 => br_b (fun c1' => ?_) (fun c1' => ?_)))
      · simp (disch := omega) only [ln_0, ln_1, ln_2, ln_3, ln_4, ln_5, ln_6, ln_7, ln_8, ln_9, ln_10, ln_11, ln_12, ln_13, ln_14, ln_15, ln_16, ln_17, ln_18, ln_19, ln_20, ln_21, ln_22, ln_23, ln_24, ln_25, ln_26, ln_27, ln_28, ln_29, ln_30, ln_31, ln_32, ln_33, ln_34, ln_35, ln_36, ln_37, ln_38, ln_39, ln_40, ln_41, ln_42, ln_43, ln_44, ln_45, ln_46, ln_47, ln_48, ln_49, ln_50, ln_51, ln_52, ln_53, ln_54, ln_55, ln_56, ln_57, ln_58, ln_59, ln_60, ln_61, ln_62, ln_91, ln_93, ln_97, ln_122, ln_120, ln_123, ln_124, ln_255, ln_256, ln_300, ln_720, ln_1500, ln_12000, ln_18000, nI_leI, nI_ltI, nI_eq] at c0
        rw [if_pos c0] at hsrc
        refine L_settle h (w := (nI (e.2 - 1), none)) rfl rfl ?_ rp_no hif k
        rw [Kn_2 h2, hixq]
        exact Or.inl ⟨hsrc, by unfold argS slO; rw [hid]⟩
      · simp (disch := omega) only [ln_0, ln_1, ln_2, ln_3, ln_4, ln_5, ln_6, ln_7, ln_8, ln_9, ln_10, ln_11, ln_12, ln_13, ln_14, ln_15, ln_16, ln_17, ln_18, ln_19, ln_20, ln_21, ln_22, ln_23, ln_24, ln_25, ln_26, ln_27, ln_28, ln_29, ln_30, ln_31, ln_32, ln_33, ln_34, ln_35, ln_36, ln_37, ln_38, ln_39, ln_40, ln_41, ln_42, ln_43, ln_44, ln_45, ln_46, ln_47, ln_48, ln_49, ln_50, ln_51, ln_52, ln_53, ln_54, ln_55, ln_56, ln_57, ln_58, ln_59, ln_60, ln_61, ln_62, ln_91, ln_93, ln_97, ln_122, ln_120, ln_123, ln_124, ln_255, ln_256, ln_300, ln_720, ln_1500, ln_12000, ln_18000, nI_leI, nI_ltI, nI_eq] at c0 c1'
        rw [if_neg c0, if_pos c1'] at hsrc
        exact L_follow h y1 (by omega) (l := 1) (Or.inl ⟨h2, rfl, by rw [hixq, hsrc, y2]⟩) (fun h3 => by rw [Kn_2 h2, hixq]; exact Or.inr ⟨_, hsrc, XM_k y1 y2 h3⟩) hif rfl rfl k
      · simp (disch := omega) only [ln_0, ln_1, ln_2, ln_3, ln_4, ln_5, ln_6, ln_7, ln_8, ln_9, ln_10, ln_11, ln_12, ln_13, ln_14, ln_15, ln_16, ln_17, ln_18, ln_19, ln_20, ln_21, ln_22, ln_23, ln_24, ln_25, ln_26, ln_27, ln_28, ln_29, ln_30, ln_31, ln_32, ln_33, ln_34, ln_35, ln_36, ln_37, ln_38, ln_39, ln_40, ln_41, ln_42, ln_43, ln_44, ln_45, ln_46, ln_47, ln_48, ln_49, ln_50, ln_51, ln_52, ln_53, ln_54, ln_55, ln_56, ln_57, ln_58, ln_59, ln_60, ln_61, ln_62, ln_91, ln_93, ln_97, ln_122, ln_120, ln_123, ln_124, ln_255, ln_256, ln_300, ln_720, ln_1500, ln_12000, ln_18000, nI_leI, nI_ltI, nI_eq] at c0 c1'
        rw [if_neg c0, if_neg c1'] at hsrc
        obtain ⟨z1, z2, z3, z4⟩ := hyk (q - 1) (by omega) (by omega)
        have eq1 : nI q - 1 = nI (q - 1) := by show nI q - nI 1 = _; rw [pk_sub (by omega)]
        refine a_part hw hJ y1 (a_inside hw hC hJ y1 y1.2 (k0 := q - 1) (by rw [y3, y4, m2]; omega) rfl eq1 ?_)
        rw [← z4]
        exact L_follow h z1 z3 (l := 1) (Or.inl ⟨h2, rfl, by rw [hixq, hsrc, z2]⟩) (fun h3 => by rw [Kn_2 h2, hixq]; exact Or.inr ⟨_, hsrc, XM_k z1 z2 h3⟩) hif rfl rfl k
