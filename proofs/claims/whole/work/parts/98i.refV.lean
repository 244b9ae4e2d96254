/-! 98i.refV: the cells that the reference counts -/
theorem m_32 {G : Prg} {a b : Int32} {N : Nat} {id : Nat → Cid} {st : Nat → Nat} {va : Nat → Vl} {v : St} (h : SMm G a b N id st va (fun _ => False) v) {x : Nat} (hx : vld G N id x) (h3 : st x = 3) : (gA v 32 x = nI (ix (gA v 32 x)) ∧ ix (gA v 32 x) ≤ 40 ∧ (kdS G (slO id x) ≠ 8 → ix (gA v 32 x) = 0) ∧ (ix (gA v 32 x) ≠ 0 → kdS G (slO id x) = 8 ∧ gA v 31 x = nI (ix (gA v 31 x)) ∧ ∀ k, k < ix (gA v 32 x) → ix (gA v 31 x) + k < N)) ∧ (∀ k, k < ix (gA v 32 x) → id (ix (gA v 31 x) + k) = (x % 60, k + 1) :: id (x / 60)) ∧ (kdS G (slO id x) = 8 → (va x).1 = nI (ix (gA v 32 x))) := by
  obtain ⟨hn, hD, hV, hAr, hMa, hK, hR, hC, h32, h8, hz0, hpa⟩ := h
  by_cases e : kdS G (slO id x) = 8
  · obtain ⟨y, q, fc, t1, t2, t3, t4, t5, t6, t7, t8, t9⟩ := (hV x hx h3).2 _ (h8 x hx e h3)
    have hyx : y = x := slO_inj hD.1 t1.1 hx.1 t2
    subst hyx
    have e1 : ix (gA v 32 y) = q := by rw [t6, ixN (by omega)]
    have e2 : ix (gA v 31 y) = fc := by rw [t7, ixN (by omega)]
    rw [e1, e2]
    exact ⟨⟨t6, t5.1, fun h => absurd e h, fun _ => ⟨e, t7, fun k hk => (t9 k hk).1⟩⟩, fun k hk => (t9 k hk).2, fun _ => t4⟩
  · have e0 : gA v 32 x = nI 0 := h32 x hx (Or.inl e)
    have e1 : ix (gA v 32 x) = 0 := by rw [e0, ixN (by decide)]
    rw [e1]
    exact ⟨⟨e0, by decide, fun _ => rfl, fun h => absurd rfl h⟩, fun k hk => absurd hk (Nat.not_lt_zero _), fun h => absurd h e⟩
theorem CL_of {G : Prg} {a b : Int32} {N : Nat} {id : Nat → Cid} {st : Nat → Nat} {va : Nat → Vl} {v : St} (h : SMm G a b N id st va (fun _ => False) v) {y j : Nat} (hy : y ≤ 60 * N) (hj : j ∈ CLt G id st v y) : j < N ∧ ∃ x k, x < y ∧ vld G N id x ∧ id j = (x % 60, k + 1) :: id (x / 60) := by
  obtain ⟨x, hx, hm⟩ := List.mem_flatMap.mp hj
  have hx := List.mem_range.mp hx
  unfold clL at hm
  by_cases hk : knB G id st x = true
  · rw [if_pos hk] at hm
    obtain ⟨k, hk2, rfl⟩ := List.mem_map.mp hm
    have hk2 := List.mem_range.mp hk2
    unfold knB at hk
    have hk := of_decide_eq_true hk
    have hv : vld G N id x := ⟨by omega, hk.1⟩
    obtain ⟨q1, q2, q3⟩ := m_32 h hv hk.2
    exact ⟨(q1.2.2.2 (by omega)).2.2 k hk2, x, k, hx, hv, q2 k hk2⟩
  · rw [if_neg hk] at hm; cases hm
theorem CL_nd {G : Prg} {a b : Int32} {N : Nat} {id : Nat → Cid} {st : Nat → Nat} {va : Nat → Vl} {v : St} (h : SMm G a b N id st va (fun _ => False) v) : ∀ y, y ≤ 60 * N → (CLt G id st v y).Nodup
  | 0, _ => by unfold CLt; exact List.nodup_nil
  | y + 1, hy => by
    rw [CLt_s]
    refine List.nodup_append.mpr ⟨CL_nd h y (by omega), ?_, fun j hj j' hj' he => ?_⟩
    · unfold clL
      by_cases hk : knB G id st y = true
      · rw [if_pos hk, List.nodup_iff_pairwise_ne, List.pairwise_map]
        exact List.Pairwise.imp (fun {i j} hne he => hne (by omega)) (List.nodup_iff_pairwise_ne.mp List.nodup_range)
      · rw [if_neg hk]; exact List.nodup_nil
    · subst he
      obtain ⟨j1, x, k, x1, x2, x3⟩ := CL_of h (by omega) hj
      unfold clL at hj'
      by_cases hk : knB G id st y = true
      · rw [if_pos hk] at hj'
        obtain ⟨k', hk2, he⟩ := List.mem_map.mp hj'
        have hk2 := List.mem_range.mp hk2
        unfold knB at hk
        have hk := of_decide_eq_true hk
        have hv : vld G N id y := ⟨by omega, hk.1⟩
        have := (m_32 h hv hk.2).2.1 k' hk2
        rw [he, x3] at this
        have i1 : x % 60 = y % 60 := congrArg Prod.fst (List.cons.inj this).1
        have i2 := h.2.1.1 _ _ x2.1 hv.1 (List.cons.inj this).2
        omega
      · rw [if_neg hk] at hj'; cases hj'
theorem CL_mem {G : Prg} {a b : Int32} {N : Nat} {id : Nat → Cid} {st : Nat → Nat} {va : Nat → Vl} {v : St} (h : SMm G a b N id st va (fun _ => False) v) (hCl : ClM G a b N id st va) {j : Nat} : j ∈ CLt G id st v (60 * N) ↔ j < N ∧ isCl (id j) = true := by
  refine ⟨fun hj => ?_, fun ⟨hj, hc⟩ => ?_⟩
  · obtain ⟨j1, x, k, x1, x2, x3⟩ := CL_of h (Nat.le_refl _) hj
    exact ⟨j1, by rw [x3]; exact decide_eq_true (Nat.succ_ne_zero k)⟩
  · have hex := (h.2.1.2.1 j hj).2
    cases hid : id j with
    | nil => rw [hid] at hc; cases hc
    | cons e c =>
      rw [hid] at hex hc
      have hc := of_decide_eq_true hc
      obtain ⟨h1, h2⟩ := hex
      rcases h2 with ⟨e0, _⟩ | ⟨k8, k, q, e1, hkq, hq, hL⟩
      · exact absurd e0 hc
      · obtain ⟨x, x1, x2, x3, x4⟩ := ClM_L hCl hL
        have x2 : slO id x = (c, e.1) := x2
        have f1 : id (x / 60) = c := congrArg Prod.fst x2
        have f2 : x % 60 = e.1 := congrArg Prod.snd x2
        obtain ⟨q1, q2, q3⟩ := m_32 h x1 x3
        have q3 := q3 (by rw [x2]; exact k8)
        rw [x4] at q3
        have q3 : nI q = nI (ix (gA v 32 x)) := q3
        rw [nI_eq (by omega) (by omega)] at q3
        have hk2 : k < ix (gA v 32 x) := by omega
        have hcell := q2 k hk2
        have hfN := (q1.2.2.2 (by omega)).2.2 k hk2
        have hjf : ix (gA v 31 x) + k = j := h.2.1.1 _ _ hfN hj (by rw [hcell, hid, f1, f2]; exact congrArg (· :: c) (Prod.ext rfl e1.symm))
        refine List.mem_flatMap.mpr ⟨x, List.mem_range.mpr (by have := x1.1; omega), ?_⟩
        unfold clL
        rw [if_pos (by unfold knB; exact decide_eq_true ⟨x1.2, x3⟩)]
        exact List.mem_map.mpr ⟨k, List.mem_range.mpr hk2, hjf⟩
theorem CL_len {G : Prg} {a b : Int32} {N : Nat} {id : Nat → Cid} {st : Nat → Nat} {va : Nat → Vl} {v : St} (h : SMm G a b N id st va (fun _ => False) v) (hCl : ClM G a b N id st va) : (CLt G id st v (60 * N)).length = cellN N id ∧ ((CLt G id st v (60 * N)).filter (krB G id st)).length = kcN G N id st := by
  have hnd := CL_nd h (60 * N) (Nat.le_refl _)
  constructor
  · refine Nat.le_antisymm (nd_sub _ _ hnd (fun j hj => ?_)) (nd_sub _ _ (List.Pairwise.filter _ List.nodup_range) (fun j hj => ?_))
    · obtain ⟨h1, h2⟩ := (CL_mem h hCl).mp hj
      exact List.mem_filter.mpr ⟨List.mem_range.mpr h1, h2⟩
    · obtain ⟨h1, h2⟩ := List.mem_filter.mp hj
      exact (CL_mem h hCl).mpr ⟨List.mem_range.mp h1, h2⟩
  · refine Nat.le_antisymm (nd_sub _ _ (List.Pairwise.filter _ hnd) (fun j hj => ?_)) (nd_sub _ _ (List.Pairwise.filter _ List.nodup_range) (fun j hj => ?_))
    · obtain ⟨h0, h3⟩ := List.mem_filter.mp hj
      obtain ⟨h1, h2⟩ := (CL_mem h hCl).mp h0
      refine List.mem_filter.mpr ⟨List.mem_range.mpr h1, ?_⟩
      rw [Bool.and_eq_true]; exact ⟨h2, h3⟩
    · obtain ⟨h1, h2⟩ := List.mem_filter.mp hj
      rw [Bool.and_eq_true] at h2
      exact List.mem_filter.mpr ⟨(CL_mem h hCl).mpr ⟨List.mem_range.mp h1, h2.1⟩, h2.2⟩
theorem KS_of {G : Prg} {N : Nat} {id : Nat → Cid} {st : Nat → Nat} : ((List.range (60 * N)).filter (knB G id st)).Nodup ∧ ∀ z, z ∈ (List.range (60 * N)).filter (knB G id st) ↔ vld G N id z ∧ st z = 3 := by
  refine ⟨List.Pairwise.filter _ List.nodup_range, fun z => ?_⟩
  rw [List.mem_filter, List.mem_range]
  unfold knB vld
  rw [decide_eq_true_iff]
  constructor
  · intro ⟨h1, h2, h3⟩; exact ⟨⟨by omega, h2⟩, h3⟩
  · intro ⟨⟨h1, h2⟩, h3⟩; exact ⟨by omega, h2, h3⟩
