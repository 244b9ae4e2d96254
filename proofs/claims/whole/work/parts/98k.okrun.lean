/-! 98k.okrun: both run to the same -/
theorem fl_nd {α : Type} {f : Nat → α} {p : Nat → Bool} {l : List Nat} (h : (l.map f).Nodup) : ((l.filter p).map f).Nodup := List.Nodup.sublist (List.Sublist.map f List.filter_sublist) h
theorem cmp_half {G : Prg} {a b : Int32} {N N' : Nat} {id id' : Nat → Cid} {st st' : Nat → Nat} {va va' : Nat → Vl} (hw : WFp G) (hg : 0 < gn G) (h : SdM G a b N id st va) (hS' : SdM G a b N' id' st' va') (h' : ClM G a b N' id' st' va') (hn : 1 ≤ N ∧ id 0 = []) (hn' : 1 ≤ N' ∧ id' 0 = []) : (st (grt G 0) = 3 → st' (grt G 0) = 3 ∧ va' (grt G 0) = va (grt G 0)) ∧ cellN N id ≤ cellN N' id' ∧ kcN G N id st ≤ kcN G N' id' st' := by
  have hrt := (WF_d hw hg).2.2
  have h60 := (WF_d hw hg).2.1
  have rv : ∀ (N : Nat) (id : Nat → Cid), 1 ≤ N → id 0 = [] → vld G N id (grt G 0) ∧ slO id (grt G 0) = ([], grt G 0) := fun N id h1 h2 => by
    have e : id (grt G 0 / 60) = [] := by rw [show grt G 0 / 60 = 0 by omega]; exact h2
    have e2 : grt G 0 % 60 = grt G 0 := by omega
    refine ⟨⟨by omega, ?_⟩, ?_⟩
    · rw [e, e2]; exact hrt
    · unfold slO; rw [e, e2]
  obtain ⟨r1, r2⟩ := rv N id hn.1 hn.2
  obtain ⟨q1, q2⟩ := rv N' id' hn'.1 hn'.2
  refine ⟨fun h3 => ?_, ?_, ?_⟩
  · obtain ⟨y, y1, y2, y3, y4⟩ := cmp_K h h' r1 h3
    have : y = grt G 0 := slO_inj hS'.1 y1.1 q1.1 (by rw [y2, r2, q2])
    rw [this] at y3 y4
    exact ⟨y3, y4⟩
  · have := nd_sub _ (((List.range N').filter (fun j => isCl (id' j))).map id') (fl_nd (p := fun j => isCl (id j)) (ids_nd h.1)) (fun c hc => by
      obtain ⟨j, hj, rfl⟩ := List.mem_map.mp hc
      obtain ⟨hj, hcl⟩ := List.mem_filter.mp hj
      obtain ⟨j', h1, h2⟩ := ClM_c h' (h.2.1 j (List.mem_range.mp hj)).2
      refine List.mem_map.mpr ⟨j', List.mem_filter.mpr ⟨List.mem_range.mpr h1, ?_⟩, h2⟩
      have hcl : isCl (id j) = true := hcl
      show isCl (id' j') = true
      rw [h2]; exact hcl)
    rw [List.length_map, List.length_map] at this
    exact this
  · have := nd_sub _ (((List.range N').filter (fun j => isCl (id' j) && decide (st' (60 * j + grt G (dfn G (id' j))) = 3))).map id') (fl_nd (p := fun j => isCl (id j) && decide (st (60 * j + grt G (dfn G (id j))) = 3)) (ids_nd h.1)) (fun c hc => by
      obtain ⟨j, hj, rfl⟩ := List.mem_map.mp hc
      obtain ⟨hj, hcl⟩ := List.mem_filter.mp hj
      have hj := List.mem_range.mp hj
      have hcl : (isCl (id j) && decide (st (60 * j + grt G (dfn G (id j))) = 3)) = true := hcl
      rw [Bool.and_eq_true, decide_eq_true_iff] at hcl
      have hd := (h.2.1 j hj).1
      obtain ⟨g1, g2, g3, g4⟩ := vld_in hw hj hd (WF_d hw hd).2.2
      obtain ⟨y, y1, y2, y3, y4⟩ := cmp_K h h' g1 hcl.2
      rw [g2] at y2
      have e1 : id' (y / 60) = id j := congrArg Prod.fst y2
      have e2 : y % 60 = grt G (dfn G (id j)) := congrArg Prod.snd y2
      refine List.mem_map.mpr ⟨y / 60, List.mem_filter.mpr ⟨List.mem_range.mpr y1.1, ?_⟩, e1⟩
      show (isCl (id' (y / 60)) && decide (st' (60 * (y / 60) + grt G (dfn G (id' (y / 60)))) = 3)) = true
      rw [Bool.and_eq_true, decide_eq_true_iff, e1, ← e2, show 60 * (y / 60) + y % 60 = y by omega]
      exact ⟨hcl.1, y3⟩)
    rw [List.length_map, List.length_map] at this
    exact this
theorem cmp_all {G : Prg} {a b : Int32} {N N' : Nat} {id id' : Nat → Cid} {st st' : Nat → Nat} {va va' : Nat → Vl} {KS KS' : List Nat} (hw : WFp G) (hg : 0 < gn G) (h : SdM G a b N id st va) (hc : ClM G a b N id st va) (hS' : SdM G a b N' id' st' va') (h' : ClM G a b N' id' st' va') (hn : 1 ≤ N ∧ id 0 = []) (hn' : 1 ≤ N' ∧ id' 0 = []) (k1 : KS.Nodup) (k2 : ∀ z, z ∈ KS ↔ vld G N id z ∧ st z = 3) (k1' : KS'.Nodup) (k2' : ∀ z, z ∈ KS' ↔ vld G N' id' z ∧ st' z = 3) : (if st (grt G 0) = 3 then (0 : Int32) else 1) = (if st' (grt G 0) = 3 then 0 else 1) ∧ (if st (grt G 0) = 3 then (va (grt G 0)).1 else 0) = (if st' (grt G 0) = 3 then (va' (grt G 0)).1 else 0) ∧ N = N' ∧ KS.length = KS'.length ∧ kcN G N id st = kcN G N' id' st' ∧ cellN N id = cellN N' id' := by
  obtain ⟨a1, a2, a3⟩ := cmp_half hw hg h hS' h' hn hn'
  obtain ⟨b1, b2, b3⟩ := cmp_half hw hg hS' h hc hn' hn
  have n1 := cmp_N h h'
  have n2 := cmp_N hS' hc
  have l1 := cmp_KL h h' k1 (fun x hx => (k2 x).mp hx) (fun x hx h3 => (k2' x).mpr ⟨hx, h3⟩)
  have l2 := cmp_KL hS' hc k1' (fun x hx => (k2' x).mp hx) (fun x hx h3 => (k2 x).mpr ⟨hx, h3⟩)
  refine ⟨?_, ?_, by omega, by omega, by omega, by omega⟩
  · by_cases h3 : st (grt G 0) = 3
    · rw [if_pos h3, if_pos (a1 h3).1]
    · rw [if_neg h3, if_neg (fun h => h3 (b1 h).1)]
  · by_cases h3 : st (grt G 0) = 3
    · rw [if_pos h3, if_pos (a1 h3).1, (a1 h3).2]
    · rw [if_neg h3, if_neg (fun h => h3 (b1 h).1)]
theorem inv_run {u v U V : St} (h : Inv u v) (hu : FRu u U) (hv : FRv (sI v 0 0) V) (e0 : gI U 0 = gI V 20) (e8 : ∀ j, j < 4 → gA U 8 j = gA V 33 j) : gI V 0 = 0 ∧ Inv U V := by
  obtain ⟨u1, u2, u3, u4, u5, u6, u7, u8, u9, u10⟩ := hu
  obtain ⟨⟨v1, v0⟩, v2, v3, vA⟩ := hv
  have vA : ∀ k, k ≤ 14 → gA V k = gA v k := vA
  have v1 : gI V 1 = gI v 1 := v1
  have v2 : gI V 2 = gI v 2 := v2
  have v3 : gI V 3 = gI v 3 := v3
  obtain ⟨⟨n, n1, n2, n3, n4⟩, _, hP⟩ := h
  refine ⟨v0, ⟨n, n1, by rw [u1]; exact n2, by rw [v1]; exact n3, fun i hi => by rw [u3, vA 1 (by decide)]; exact n4 i hi⟩, ⟨e0, e8⟩, ?_⟩
  unfold ProgR at hP ⊢
  rw [u2, u4, u5, u6, u7, u8, u9, u10, v2, v3, vA 2 (by decide), vA 3 (by decide), vA 4 (by decide), vA 5 (by decide), vA 6 (by decide), vA 7 (by decide), vA 8 (by decide), vA 9 (by decide), vA 10 (by decide), vA 11 (by decide), vA 14 (by decide)]
  exact hP
theorem j4 {p : Nat → Prop} (h0 : p 0) (h1 : p 1) (h2 : p 2) (h3 : p 3) : ∀ j, j < 4 → p j
  | 0, _ => h0
  | 1, _ => h1
  | 2, _ => h2
  | 3, _ => h3
  | j + 4, h => by omega
theorem ok_run (u v : St) (h : Inv u v) (a b c d : Int32) : okS Inv (wp_X6_run u a b c d) (wp_X7_run v a b c d) [("java/lang/IllegalStateException", 1), ("java/lang/IllegalArgumentException", 2)] := by
  have h' := h
  obtain ⟨ht, hl, G, bk, hw, hb, hc, hm⟩ := h'
  have hC : CPu G u := hc
  have hP : MPv G bk v := ⟨hb, hm⟩
  have hd : gI v 3 = gI u 13 := by rw [hm.2.1, hc.1]
  have i02 : ¬ (2 : Int32) ≤ 0 := by decide
  by_cases h1 : gI u 13 = 0
  · exact Or.inr ⟨_, 1, 0, u, sI v 0 1, by simp, fun P px hp => br_p h1 hp, fun P hp => br_p (by rw [hd]; exact h1) (nm_i (br_n i01 hp)), rfl, h⟩
  have h1' : ¬ gI v 3 = 0 := by rw [hd]; exact h1
  by_cases h2 : c < 1
  · exact Or.inr ⟨_, 2, 0, u, sI v 0 2, by simp, fun P px hp => br_n h1 (br_p h2 hp), fun P hp => br_n h1' (br_p h2 (nm_i (br_n i02 hp))), rfl, h⟩
  by_cases h3 : c ≤ 300
  · obtain ⟨M, hM3, rfl⟩ := nI_of2 (M := 300) (n := 300) (by decide) (fun h0 => h2 (lt1_le0.mpr (Int32.le_of_lt h0))) h3
    have hgn : gn G ≤ 12 := hw.1.1
    have hg : 0 < gn G := by
      by_cases e : gn G = 0
      · rw [hc.1, e] at h1; exact absurd rfl h1
      · omega
    have hM : 1 ≤ M ∧ M ≤ 300 := by
      simp (disch := omega) only [ln_0, ln_1, ln_2, ln_3, ln_4, ln_5, ln_6, ln_7, ln_8, ln_9, ln_10, ln_11, ln_12, ln_13, ln_14, ln_15, ln_16, ln_17, ln_18, ln_19, ln_20, ln_21, ln_22, ln_23, ln_24, ln_25, ln_26, ln_27, ln_28, ln_29, ln_30, ln_31, ln_32, ln_33, ln_34, ln_35, ln_36, ln_37, ln_38, ln_39, ln_40, ln_41, ln_42, ln_43, ln_44, ln_45, ln_46, ln_47, ln_48, ln_49, ln_50, ln_51, ln_52, ln_53, ln_54, ln_55, ln_56, ln_57, ln_58, ln_59, ln_60, ln_61, ln_62, ln_91, ln_93, ln_97, ln_122, ln_120, ln_123, ln_124, ln_255, ln_256, ln_300, ln_720, ln_1500, ln_12000, ln_18000, nI_leI, nI_ltI, nI_eq] at h2
      omega
    obtain ⟨sc, hsc⟩ := hw.1.2.1
    refine Or.inl ?_
    by_cases hov : ∃ (N : Nat) (id : Nat → Cid) (st : Nat → Nat) (va : Nat → Vl) (c : Cid), SdM G a b N id st va ∧ N = M ∧ exC G (Lfp G a b) c ∧ ∀ j, j < N → id j ≠ c
    · refine ⟨2, fun U => FRu u U ∧ gI U 0 = 0 ∧ ∀ j, j < 4 → gA U 8 j = 0, fun V => FRv (sI v 0 0) V ∧ gI V 20 = 0 ∧ ∀ j, j < 4 → gA V 33 j = 0, fun P px hp => ?_, fun P hp => ?_, fun U V hU hV => inv_run h hU.1 hV.1 (by rw [hU.2.1, hV.2.1]) (fun j hj => by rw [hU.2.2 j hj, hV.2.2 j hj])⟩
      · refine c_run hw hsc hC hg hM (fun U N id st va KS k1 k2 k3 _ _ _ _ _ _ _ _ _ => ?_) (fun U g1 g2 g3 _ => hp U ⟨g1, g2, g3⟩)
        obtain ⟨N0, id0, st0, va0, c0, o1, o2, o3, o4⟩ := hov
        have := cmp_over o1 o3 o4 k2
        omega
      · refine m_run hw hP hg hM (fun V N id st va KS k1 k2 k3 _ _ _ _ _ _ _ _ => ?_) (fun V g1 g2 g3 _ => hp V ⟨g1, g2, g3⟩)
        obtain ⟨N0, id0, st0, va0, c0, o1, o2, o3, o4⟩ := hov
        have := cmp_over o1 o3 o4 k2
        omega
    by_cases hen : ∃ (N : Nat) (id : Nat → Cid) (st : Nat → Nat) (va : Nat → Vl) (KS : List Nat), SdM G a b N id st va ∧ ClM G a b N id st va ∧ (N ≤ M ∧ 1 ≤ N ∧ id 0 = []) ∧ KS.Nodup ∧ ∀ z, z ∈ KS ↔ vld G N id z ∧ st z = 3
    · obtain ⟨N0, id0, st0, va0, KS0, o1, o2, o3, o4, o5⟩ := hen
      refine ⟨(if st0 (grt G 0) = 3 then 0 else 1), fun U => FRu u U ∧ gI U 0 = (if st0 (grt G 0) = 3 then (va0 (grt G 0)).1 else 0) ∧ gA U 8 0 = nI N0 ∧ gA U 8 1 = nI KS0.length ∧ gA U 8 2 = nI (kcN G N0 id0 st0) ∧ gA U 8 3 = nI (cellN N0 id0), fun V => FRv (sI v 0 0) V ∧ gI V 20 = (if st0 (grt G 0) = 3 then (va0 (grt G 0)).1 else 0) ∧ gA V 33 0 = nI N0 ∧ gA V 33 1 = nI KS0.length ∧ gA V 33 2 = nI (kcN G N0 id0 st0) ∧ gA V 33 3 = nI (cellN N0 id0), fun P px hp => ?_, fun P hp => ?_, fun U V hU hV => inv_run h hU.1 hV.1 (by rw [hU.2.1, hV.2.1]) (j4 (by rw [hU.2.2.1, hV.2.2.1]) (by rw [hU.2.2.2.1, hV.2.2.2.1]) (by rw [hU.2.2.2.2.1, hV.2.2.2.2.1]) (by rw [hU.2.2.2.2.2, hV.2.2.2.2.2]))⟩
      · refine c_run hw hsc hC hg hM (fun U N id st va KS k1 k2 k3 _ k4 k5 g1 g2 g3 g4 g5 g6 => ?_) (fun U g1 g2 g3 hx => absurd hx hov)
        obtain ⟨q1, q2, q3, q4, q5, q6⟩ := cmp_all hw hg k1 k2 o1 o2 k3.2 o3.2 k4 k5 o4 o5
        rw [q1]; rw [q2] at g2; rw [q3] at g3; rw [q4] at g4; rw [q5] at g5; rw [q6] at g6
        exact hp U ⟨g1, g2, g3, g4, g5, g6⟩
      · refine m_run hw hP hg hM (fun V N id st va KS k1 k2 k3 k4 k5 g1 g2 g3 g4 g5 g6 => ?_) (fun V g1 g2 g3 hx => absurd hx hov)
        obtain ⟨q1, q2, q3, q4, q5, q6⟩ := cmp_all hw hg k1 k2 o1 o2 k3.2 o3.2 k4 k5 o4 o5
        rw [q1]; rw [q2] at g2; rw [q3] at g3; rw [q4] at g4; rw [q5] at g5; rw [q6] at g6
        exact hp V ⟨g1, g2, g3, g4, g5, g6⟩
    · refine ⟨0, fun _ => False, fun _ => False, fun P px hp => ?_, fun P hp => ?_, fun U V hU => hU.elim⟩
      · exact c_run hw hsc hC hg hM (fun U N id st va KS k1 k2 k3 _ k4 k5 _ _ _ _ _ _ => absurd ⟨N, id, st, va, KS, k1, k2, k3, k4, k5⟩ hen) (fun U g1 g2 g3 hx => absurd hx hov)
      · exact m_run hw hP hg hM (fun V N id st va KS k1 k2 k3 k4 k5 _ _ _ _ _ _ => absurd ⟨N, id, st, va, KS, k1, k2, k3, k4, k5⟩ hen) (fun V g1 g2 g3 hx => absurd hx hov)
  · exact Or.inr ⟨_, 2, 0, u, sI v 0 2, by simp, fun P px hp => br_n h1 (br_n h2 (br_n h3 hp)), fun P hp => br_n h1' (br_n h2 (br_n h3 (nm_i (br_n i02 hp)))), rfl, h⟩
theorem law_ok : LawOK Inv := ⟨ok_feed, ok_read, ok_run, ok_value, ok_count, ok_definition, ok_clear⟩
