/-! 98.refK: the reference's kinds: all but calls and arrays -/
theorem m_oper7 {u : St} {sg : Nat} (hs : sg ∈ [43, 45, 42, 47, 37, 60, 62, 61]) {z x y : Int32} (hz : z = nI sg) {P : Int32 → St → Prop} (k : P (opr sg x y) u) : wp_X7_operate u z x y P := by
  subst hz
  simp only [List.mem_cons, List.not_mem_nil, or_false] at hs
  unfold opr at k
  rcases hs with rfl | rfl | rfl | rfl | rfl | rfl | rfl | rfl
  · exact br_n (by decide) (br_n (by decide) (br_p rfl k))
  · exact br_n (by decide) (br_n (by decide) (br_n (by decide) (br_p rfl k)))
  · exact br_n (by decide) (br_p rfl k)
  · refine br_n (by decide) (br_n (by decide) (br_n (by decide) (br_n (by decide) (br_p rfl (br_b (fun c => ?_) (fun c => ⟨c, ?_⟩))))))
    · rw [if_neg (by decide), if_neg (by decide), if_neg (by decide), if_neg (by decide), if_pos rfl, if_pos c] at k; exact k
    · rw [if_neg (by decide), if_neg (by decide), if_neg (by decide), if_neg (by decide), if_pos rfl, if_neg c] at k; exact k
  · refine br_p rfl (br_b (fun c => ?_) (fun c => ⟨c, ?_⟩))
    · rw [if_pos rfl, if_pos c] at k; exact k
    · rw [if_pos rfl, if_neg c] at k; exact k
  · refine br_n (by decide) (br_n (by decide) (br_n (by decide) (br_n (by decide) (br_n (by decide) (br_p rfl (br_b (fun c => ?_) (fun c => ?_)))))))
    · rw [if_neg (by decide), if_neg (by decide), if_neg (by decide), if_neg (by decide), if_neg (by decide), if_pos rfl, if_pos c] at k; exact k
    · rw [if_neg (by decide), if_neg (by decide), if_neg (by decide), if_neg (by decide), if_neg (by decide), if_pos rfl, if_neg c] at k; exact k
  · refine br_n (by decide) (br_n (by decide) (br_n (by decide) (br_n (by decide) (br_n (by decide) (br_n (by decide) (br_n (by decide) (br_b (fun c => ?_) (fun c => ?_))))))))
    · rw [if_neg (by decide), if_neg (by decide), if_neg (by decide), if_neg (by decide), if_neg (by decide), if_neg (by decide), if_pos rfl, if_pos c] at k; exact k
    · rw [if_neg (by decide), if_neg (by decide), if_neg (by decide), if_neg (by decide), if_neg (by decide), if_neg (by decide), if_pos rfl, if_neg c] at k; exact k
  · refine br_n (by decide) (br_n (by decide) (br_n (by decide) (br_n (by decide) (br_n (by decide) (br_n (by decide) (br_p rfl (br_b (fun c => ?_) (fun c => ?_))))))))
    · rw [if_neg (by decide), if_neg (by decide), if_neg (by decide), if_neg (by decide), if_neg (by decide), if_neg (by decide), if_neg (by decide), if_pos c] at k; exact k
    · rw [if_neg (by decide), if_neg (by decide), if_neg (by decide), if_neg (by decide), if_neg (by decide), if_neg (by decide), if_neg (by decide), if_neg c] at k; exact k
/-- known or not -/
theorem W_kn {G : Prg} {a b : Int32} {bk M N : Nat} {id : Nat → Cid} {st : Nat → Nat} {va : Nat → Vl} {x S : Nat} {st0 : Nat → Nat} {v0 vs v : St} (h : InW G a b bk M N id st va x S st0 v0 vs v) {y : Nat} (hy : vld G N id y) {A C : Prop} (ka : st y ≠ 3 → A) (kc : st y = 3 → C) : vp_in (nI y) 18000 ∧ br (gA v 28 (ix (nI y)) = 0) A C := by
  have hylt := vld_lt hy (W_d h).2.1
  obtain ⟨s0, s1, s2⟩ := h.1.2.2.2 y hy
  refine ⟨inN hylt (by decide), ?_⟩
  rw [ixN (by omega), s2]
  by_cases h3 : st y = 3
  · rw [if_pos h3]; exact br_n (by decide) (kc h3)
  · rw [if_neg h3]; exact br_p rfl (ka h3)
theorem W_if {G : Prg} {a b : Int32} {bk M N : Nat} {id : Nat → Cid} {st : Nat → Nat} {va : Nat → Vl} {x S : Nat} {st0 : Nat → Nat} {v0 vs v : St} (hw : WFp G) (hS : S = 18000) (h : InW G a b bk M N id st va x S st0 v0 vs v) (e : kdS G (slO id x) = 5) (hnk : gnk G (dfn G (id (x / 60))) (x % 60) = 3) {c0 Pt : Nat} (hc0 : c0 < 24) (hPt : Pt < 1440) (h7 : ∀ V, FRv v0 V → gA V 7 Pt = nI (60 * c0 + gkid G (dfn G (id (x / 60))) (x % 60) 0) ∧ gA V 8 Pt = nI (60 * c0 + gkid G (dfn G (id (x / 60))) (x % 60) 1) ∧ gA V 9 Pt = nI (60 * c0 + gkid G (dfn G (id (x / 60))) (x % 60) 2)) {P : St → Prop} (ky : ∀ V, WkY G a b bk M N id S st0 v0 V → P V) (kb : Bl G N id st0 va x → P vs) : wp_X7_workIf v (nI x) (nI Pt) P := by
  obtain ⟨hd, hN, hlt⟩ := W_d h
  obtain ⟨z1, z2, z3⟩ := W_kid hw h (k0 := 0) (by omega)
  have hinP : vp_in (nI Pt) 1440 := inN hPt (by decide)
  have e' : gkd G (dfn G (id (x / 60))) (x % 60) = 5 := e
  refine ⟨hinP, ?_⟩
  rw [ixN (by omega), (h7 v h.1.1).1]
  refine r_here hlt z3 hc0 rfl ?_
  refine W_reach hS h z1 (by rw [z2]; exact W_L h (by rw [if_pos e]; decide)) rfl (fun st1 V1 h1 s1 s3 su => W_kn h1 z1 (fun hn => ?_) (fun hk => ?_))
  · refine W_block h1 ⟨⟨fun k hk => ?_, fun e7 => by omega, fun _ w hw2 => ?_⟩, _, 1, z1, hn, Or.inr (Or.inr (Or.inr (Or.inr (Or.inr (Or.inl ⟨e, Or.inl ⟨rfl, z2⟩⟩)))))⟩ ky kb
    · rw [if_pos e] at hk; rw [show k = 0 by omega]; exact s1
    · obtain ⟨y, y1, y2, y3, _⟩ := hw2
      have := slO_inj h.2.1.2.1.1 y1.1 z1.1 (y2.trans z2.symm)
      rw [this] at y3; exact absurd y3 hn
  · refine r_num hN h1.2.1.2.2.1 z1 hk ?_
    have hX0 : XM G N id st1 va (kidS G (slO id x) 0, some (va (kiO G id x 0))) := XM_k z1 z2 hk
    have fin : ∀ k0, k0 < 3 → k0 ≠ 0 → (if (va (kiO G id x 0)).1 = 0 then 2 else 1) = k0 → ∀ y : Int32, y = nI (60 * c0 + gkid G (dfn G (id (x / 60))) (x % 60) k0) → wp_X7_workIf_51 V1 (nI x) y (nI x) P := fun k0 hk0 hk00 hw0 y hy => by
      obtain ⟨q1, q2, q3⟩ := W_kid hw h1 (k0 := k0) (by omega)
      refine r_here hlt q3 hc0 hy ?_
      have hL : Lfp G a b (slO id (kiO G id x k0), none) := by
        rw [q2]
        refine Lfp_step (Or.inr (Or.inr ⟨x % 60, va (kiO G id x 0), h.2.2.1.2, e', (h1.2.1.2.1.2.2 x h1.2.2.1).1 (by have := h1.2.2.2.1; omega), SdM_X h1.2.1.2.1 hX0, ?_⟩))
        rw [hw0]; rfl
      refine W_reach hS h1 q1 hL rfl (fun st2 V2 h2 t1 t3 tu => ?_)
      have hX0' : XM G N id st2 va (kidS G (slO id x) 0, some (va (kiO G id x 0))) := XM_up2 tu (fun y hy => (t3 y).mp hy) hX0
      have hop : Op G N id st2 va x := by
        refine ⟨fun k hk => ?_, fun e7 => by omega, fun _ w hw2 => ?_⟩
        · rw [if_pos e] at hk; rw [show k = 0 by omega]; exact tu _ s1
        · rw [XM_fn h2.2.1.2.1 _ _ _ hw2 hX0', hw0]; exact ⟨_, q1, q2, t1⟩
      exact W_same hS h2 q1 (l := 2) (Or.inr (Or.inr (Or.inr (Or.inr (Or.inr (Or.inl ⟨e, Or.inr ⟨rfl, _, hX0', by rw [hw0]; exact q2⟩⟩)))))) (fun h3' => by rw [Kn_5 e]; exact ⟨_, hX0', by rw [hw0]; exact XM_k q1 q2 h3'⟩) hop (by omega) rfl rfl ky kb
    refine br_b (fun c => ⟨hinP, ?_⟩) (fun c => ⟨hinP, ?_⟩)
    · rw [(h7 V1 h1.1.1).2.2]
      exact fin 2 (by decide) (by decide) (by rw [if_pos c]) _ rfl
    · rw [(h7 V1 h1.1.1).2.1]
      exact fin 1 (by decide) (by decide) (by rw [if_neg c]) _ rfl
theorem W_fetch {G : Prg} {a b : Int32} {bk M N : Nat} {id : Nat → Cid} {st : Nat → Nat} {va : Nat → Vl} {x S : Nat} {st0 : Nat → Nat} {v0 vs v : St} (hw : WFp G) (hS : S = 18000) (h : InW G a b bk M N id st va x S st0 v0 vs v) (e : kdS G (slO id x) = 9) (hnk : gnk G (dfn G (id (x / 60))) (x % 60) = 2) {c0 Pt : Nat} (hc0 : c0 < 24) (hPt : Pt < 1440) (h7 : ∀ V, FRv v0 V → gA V 7 Pt = nI (60 * c0 + gkid G (dfn G (id (x / 60))) (x % 60) 0) ∧ gA V 8 Pt = nI (60 * c0 + gkid G (dfn G (id (x / 60))) (x % 60) 1)) {P : St → Prop} (ky : ∀ V, WkY G a b bk M N id S st0 v0 V → P V) (kb : Bl G N id st0 va x → P vs) : wp_X7_workFetch v (nI x) (nI Pt) P := by
  obtain ⟨hd, hN, hlt⟩ := W_d h
  obtain ⟨z1, z2, z3⟩ := W_kid hw h (k0 := 0) (by omega)
  obtain ⟨y1, y2, y3⟩ := W_kid hw h (k0 := 1) (by omega)
  have hz0 := vld_lt z1 hN
  have hinP : vp_in (nI Pt) 1440 := inN hPt (by decide)
  refine ⟨hinP, ?_⟩
  rw [ixN (by omega), (h7 v h.1.1).1]
  refine r_here hlt z3 hc0 rfl ⟨hinP, ?_⟩
  rw [(h7 v h.1.1).2]
  refine r_here hlt y3 hc0 rfl ?_
  refine W_reach hS h z1 (by rw [z2]; exact W_L h (by rw [if_neg (by omega)]; omega)) rfl (fun st1 V1 h1 s1 s3 su => ?_)
  refine W_reach hS h1 y1 (by rw [y2]; exact W_L h1 (by rw [if_neg (by omega)]; omega)) rfl (fun st2 V2 h2 t1 t3 tu => ?_)
  have hop : Op G N id st2 va x := by
    refine ⟨fun k hk => ?_, fun e7 => by omega, fun e5 => by omega⟩
    rw [if_neg (by omega), hnk] at hk
    rcases (show k = 0 ∨ k = 1 by omega) with rfl | rfl
    · exact tu _ s1
    · exact t1
  refine W_kn h2 z1 (fun hn => W_block h2 ⟨hop, _, 1, z1, hn, Or.inr (Or.inr (Or.inr (Or.inr (Or.inr (Or.inr (Or.inl ⟨e, Or.inl ⟨rfl, z2⟩⟩))))))⟩ ky kb) (fun hk0 => ?_)
  have hX0 : XM G N id st2 va (kidS G (slO id x) 0, some (va (kiO G id x 0))) := XM_k z1 z2 hk0
  refine W_kn h2 y1 (fun hn => W_block h2 ⟨hop, _, 2, y1, hn, Or.inr (Or.inr (Or.inr (Or.inr (Or.inr (Or.inr (Or.inl ⟨e, Or.inr (Or.inl ⟨rfl, ⟨_, hX0⟩, y2⟩)⟩))))))⟩ ky kb) (fun hk1 => ?_)
  have hX1 : XM G N id st2 va (kidS G (slO id x) 1, some (va (kiO G id x 1))) := XM_k y1 y2 hk1
  refine r_num hN h2.2.1.2.2.1 y1 hk1 ⟨inN hz0 (by decide), ?_⟩
  rw [ixN (by omega), show 60 * (x / 60) + gkid G (dfn G (id (x / 60))) (x % 60) 0 = kiO G id x 0 from rfl]
  obtain ⟨v1, v2⟩ := h2.2.1.2.2.1 _ z1 hk0
  have no : ((va (kiO G id x 0)).2 = none ∨ (va (kiO G id x 1)).1 < 0 ∨ (va (kiO G id x 0)).1 ≤ (va (kiO G id x 1)).1) → wp_X7_workFetch_95 V2 (nI x) P := fun hn => W_know hS h2 (w := (0, none)) rfl (by rw [Kn_9 e]; exact ⟨_, _, hX0, hX1, Or.inl ⟨hn, rfl⟩⟩) hop (by omega) ⟨fun _ => ⟨rfl, rfl⟩, (fun o ho => by cases ho)⟩ ky
  cases ho : (va (kiO G id x 0)).2 with
  | none => rw [(v1 ho).1]; exact br_p rfl (no (Or.inl ho))
  | some o =>
    obtain ⟨z, r, fc, q1, q2, q3, t1', t2, t4, t5, t6, t7⟩ := v2 o ho
    have hzlt := vld_lt q1 hN
    have hinz : vp_in (nI z) 18000 := inN hzlt (by decide)
    have hin0 : vp_in (nI (kiO G id x 0)) 18000 := inN hz0 (by decide)
    rw [q3]
    refine br_n (nI_m1 (by omega)) (br_b (fun c => no (Or.inr (Or.inl c))) (fun c => ⟨hin0, hinz, ?_⟩))
    rw [ixN (by omega), t4]
    refine br_b (fun c2 => ⟨hin0, hinz, ?_⟩) (fun c2 => no (Or.inr (Or.inr ?_)))
    · have c2' : ¬ nI r ≤ (va (kiO G id x 1)).1 := fun hc => by
        rw [Int32.le_iff_toInt_le] at hc; rw [Int32.lt_iff_toInt_lt] at c2; omega
      obtain ⟨kk, hk1', hk2, _⟩ := pk_mu c c2' (by omega)
      obtain ⟨f1, f2⟩ := t7 kk hk1'
      rw [t5, hk2, nI_add]
      refine r_root hw h2.1.2.1 h2.1.2.2.1 f1 rfl ?_
      have hdf := (h2.1.2.2.1.2 _ f1).1
      obtain ⟨g1, g2, g3, g4⟩ := vld_in hw f1 hdf (WF_d hw hdf).2.2
      have hsl : slO id (60 * (fc + kk) + grt G (dfn G (id (fc + kk)))) = rtS G ((o.2, ix (va (kiO G id x 1)).1 + 1) :: o.1) := by
        rw [g2, hk2, ixN (by omega), f2]; rfl
      have hc2' : ¬ (va (kiO G id x 0)).1 ≤ (va (kiO G id x 1)).1 := by rw [t1']; exact c2'
      exact W_same hS h2 g1 (l := 3) (Or.inr (Or.inr (Or.inr (Or.inr (Or.inr (Or.inr (Or.inl ⟨e, Or.inr (Or.inr ⟨rfl, _, _, o, hX0, hX1, ho, c, hc2', hsl⟩)⟩))))))) (fun h5 => by rw [Kn_9 e]; exact ⟨_, _, hX0, hX1, Or.inr ⟨o, ho, c, hc2', XM_k g1 hsl h5⟩⟩) hop (by omega) rfl rfl ky kb
    · rw [t1', Int32.le_iff_toInt_le]; rw [Int32.lt_iff_toInt_lt] at c2; omega
