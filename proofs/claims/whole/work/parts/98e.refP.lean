/-! 98e.refP: the reference works at a slot of any kind -/
theorem W_work {G : Prg} {a b : Int32} {bk M N : Nat} {id : Nat → Cid} {st : Nat → Nat} {va : Nat → Vl} {x S : Nat} {st0 : Nat → Nat} {v0 vs v : St} (hw : WFp G) (hS : S = 18000) (hP0 : MPv G bk v0) (h : InW G a b bk M N id st va x S st0 v0 vs v) {P : St → Prop} (ky : ∀ V, WkY G a b bk M N id S st0 v0 V → P V) (kb : Bl G N id st0 va x → P vs) (ko : ∀ V, OVm G a b M v0 V → P V) : wp_X7_work v (nI x) P := by
  obtain ⟨hd, hN, hlt⟩ := W_d h
  have hx := h.2.2.1
  obtain ⟨d1, d2, d3⟩ := WF_d hw hd
  have hb1 : bk ≤ 1 := hP0.2.1
  have hp60 : x % 60 < 60 := Nat.mod_lt _ (by decide)
  have hc0 : 12 * bk + dfn G (id (x / 60)) < 24 := by omega
  have hPt : 60 * (12 * bk + dfn G (id (x / 60))) + x % 60 < 1440 := by omega
  have mp := fun V (hV : FRv v0 V) => ((MPv_fr hP0 hV).2.2.2 _ hd).2.2.2 _ hx.2
  have hinP : vp_in (nI (60 * (12 * bk + dfn G (id (x / 60))) + x % 60)) 1440 := inN hPt (by decide)
  have hLf := hw.1.2.2 _ hd _ hx.2
  have hkid : ∀ q k, q < gnp G (dfn G (id (x / 60))) → k < gnk G (dfn G (id (x / 60))) q → gkid G (dfn G (id (x / 60))) q k < gnp G (dfn G (id (x / 60))) := fun q k hq hk => ((hw.2 _ hd).2.2.2.2 q hq).2.1 k hk
  unfold wp_X7_work
  refine r_part hw h.1.2.1 h.1.2.2.1 hx ⟨hinP, nm_i ?_⟩
  rw [ixN (by omega)]
  rcases ((hw.2 _ hd).2.2.2.2 _ hx.2).2.2 with e | ⟨e, q, hq, hnu⟩ | ⟨e, q, hq, hnu, h6⟩ | ⟨e, hnk⟩ | ⟨e, hnk⟩ | ⟨e, hnk⟩ | ⟨e, t, ht, hnu, hta⟩ | ⟨e, hnk, t, ht, hnu, hta⟩ | ⟨e, hnk⟩ | ⟨e, hnk⟩
  · have ek : kdS G (slO id x) = 1 := e
    have hn0 := hLf (by omega)
    have m := (mp v h.1.1).1 e
    rw [m.1]
    refine br_p rfl ⟨hinP, ?_⟩
    rw [m.2]
    exact W_know hS h (w := (gnu G (dfn G (id (x / 60))) (x % 60), none)) rfl (by rw [Kn_1 ek]; rfl) ⟨fun k hk => by rw [if_neg (by omega), hn0] at hk; omega, fun e7 => by omega, fun e5 => by omega⟩ (by omega) ⟨fun _ => ⟨rfl, rfl⟩, (fun o ho => by cases ho)⟩ ky
  · have ek : kdS G (slO id x) = 2 := e
    have m := (mp v h.1.1).2.1 e
    rw [m.1]
    exact br_n (by decide) (br_p rfl (W_arg hw hS h ek (hLf (by omega)) hq hnu hPt (by rw [m.2]; exact hnu) ky kb))
  · have ek : kdS G (slO id x) = 3 := e
    have hn0 := hLf (by omega)
    have m := (mp v h.1.1).2.2.1 q hq e hnu
    rw [m.1]
    refine br_n (by decide) (br_n (by decide) (br_p rfl ⟨hinP, ?_⟩))
    rw [m.2]
    have hk2 : 0 < gnk G (dfn G (id (x / 60))) q := by
      rcases ((hw.2 _ hd).2.2.2.2 _ hq).2.2 with t | t | t | t | t | t | t | t | t | t
      all_goals first | omega | (exfalso; have := t.1; rw [h6] at this; simp at this)
    have hkq := hkid q 0 hq hk2
    refine r_here hlt (by omega) hc0 rfl ?_
    obtain ⟨g1, g2, g3, g4⟩ := vld_in hw hx.1 hd hkq
    have hix : ix (nuS G (slO id x)) % 60 = q := by
      have : nuS G (slO id x) = nI (60 * dfn G (id (x / 60)) + q) := hnu
      rw [this, ixN (by omega)]; omega
    have hsl : slO id (60 * (x / 60) + gkid G (dfn G (id (x / 60))) q 0) = ((slO id x).1, gkid G (dfn G (slO id x).1) (ix (nuS G (slO id x)) % 60) 0) := by rw [g2, hix]; rfl
    exact W_same hS h g1 (l := 1) (Or.inr (Or.inl ⟨ek, rfl, hsl⟩)) (fun h3 => by rw [Kn_3 ek]; exact XM_k g1 hsl h3) ⟨fun k hk => by rw [if_neg (by omega), hn0] at hk; omega, fun e7 => by omega, fun e5 => by omega⟩ (by omega) rfl rfl ky kb
  · have ek : kdS G (slO id x) = 4 := e
    have m := (mp v h.1.1).2.2.2.1 e
    obtain ⟨z1, z2, z3⟩ := W_kid hw h (k0 := 0) (by omega)
    rw [m.1]
    refine br_n (by decide) (br_n (by decide) (br_n (by decide) (br_p rfl ⟨hinP, ?_⟩)))
    rw [m.2]
    refine r_here hlt z3 hc0 rfl (W_reach hS h z1 (by rw [z2]; exact W_L h (by rw [if_neg (by omega)]; omega)) rfl (fun st2 V2 h2 t1 t3 tu => ?_))
    have hop : Op G N id st2 va x := ⟨fun k hk => by rw [if_neg (by omega), hnk] at hk; rw [show k = 0 by omega]; exact t1, fun e7 => by omega, fun e5 => by omega⟩
    refine W_kn h2 z1 (fun hn => W_block h2 ⟨hop, _, 1, z1, hn, Or.inr (Or.inr (Or.inl ⟨Or.inl ek, rfl, z2⟩))⟩ ky kb) (fun hk => r_num hN h2.2.1.2.2.1 z1 hk ?_)
    exact W_know hS h2 (w := (-(va (kiO G id x 0)).1, none)) rfl (by rw [Kn_4 ek]; exact ⟨_, XM_k z1 z2 hk, rfl⟩) hop (by omega) ⟨fun _ => ⟨rfl, rfl⟩, (fun o ho => by cases ho)⟩ ky
  · have ek : kdS G (slO id x) = 5 := e
    have m := fun V hV => (mp V hV).2.2.2.2.1 e
    rw [(m v h.1.1).1]
    exact br_n (by decide) (br_n (by decide) (br_n (by decide) (br_n (by decide) (br_n (by decide) (br_n (by decide) (br_p rfl (W_if hw hS h ek hnk hc0 hPt (fun V hV => (m V hV).2) ky kb)))))))
  · have ek : kdS G (slO id x) = 6 := e
    have m := fun V hV => (mp V hV).2.2.2.2.2.1 e
    obtain ⟨z1, z2, z3⟩ := W_kid hw h (k0 := 0) (by omega)
    obtain ⟨y1, y2, y3⟩ := W_kid hw h (k0 := 1) (by omega)
    rw [(m v h.1.1).1]
    refine br_n (by decide) (br_n (by decide) (br_n (by decide) (br_n (by decide) (br_n (by decide) (br_p rfl ⟨hinP, ?_⟩)))))
    rw [(m v h.1.1).2.1]
    refine r_here hlt z3 hc0 rfl (W_reach hS h z1 (by rw [z2]; exact W_L h (by rw [if_neg (by omega)]; omega)) rfl (fun st1 V1 h1 s1 s3 su => ⟨hinP, ?_⟩))
    rw [(m V1 h1.1.1).2.2]
    refine r_here hlt y3 hc0 rfl (W_reach hS h1 y1 (by rw [y2]; exact W_L h1 (by rw [if_neg (by omega)]; omega)) rfl (fun st2 V2 h2 t1 t3 tu => ⟨hinP, ?_⟩))
    rw [(m V2 h2.1.1).2.2]
    have hop : Op G N id st2 va x := ⟨fun k hk => by
      rw [if_neg (by omega), hnk] at hk
      rcases (show k = 0 ∨ k = 1 by omega) with rfl | rfl
      · exact tu _ s1
      · exact t1, fun e7 => by omega, fun e5 => by omega⟩
    exact r_here hlt y3 hc0 rfl (W_same hS h2 y1 (l := 1) (Or.inr (Or.inr (Or.inr (Or.inl ⟨ek, rfl, y2⟩)))) (fun h3 => by rw [Kn_6 ek]; exact XM_k y1 y2 h3) hop (by omega) rfl rfl ky kb)
  · have ek : kdS G (slO id x) = 7 := e
    have m := fun V hV => (mp V hV).2.2.2.2.2.2.1 e
    rw [(m v h.1.1).1]
    exact br_n (by decide) (br_n (by decide) (br_n (by decide) (br_n (by decide) (br_n (by decide) (br_n (by decide) (br_n (by decide) (br_p rfl (W_call hw hS h ek ht hnu hta hc0 (fun V hV => ⟨(m V hV).2.1.trans hnu, by rw [← hV.2.2.2 11 (by decide)]; exact (m V hV).2.2⟩) ky kb ko))))))))
  · have ek : kdS G (slO id x) = 8 := e
    have m := fun V hV => (mp V hV).2.2.2.2.2.2.2.1 e
    rw [(m v h.1.1).1]
    exact br_n (by decide) (br_n (by decide) (br_n (by decide) (br_n (by decide) (br_n (by decide) (br_n (by decide) (br_n (by decide) (br_n (by decide) (br_p rfl (W_make hw hS h ek ht hnu hta hnk hc0 (fun V hV => ⟨(m V hV).2.1.trans hnu, (m V hV).2.2.1, by rw [← hV.2.2.2 11 (by decide)]; exact (m V hV).2.2.2⟩) ky kb ko)))))))))
  · have ek : kdS G (slO id x) = 9 := e
    have m := fun V hV => (mp V hV).2.2.2.2.2.2.2.2.1 e
    rw [(m v h.1.1).1]
    exact br_n (by decide) (br_n (by decide) (br_n (by decide) (br_n (by decide) (br_n (by decide) (br_n (by decide) (br_n (by decide) (br_n (by decide) (br_n (by decide) (W_fetch hw hS h ek hnk hc0 hPt (fun V hV => (m V hV).2) ky kb)))))))))
  · have ek : kdS G (slO id x) ∈ [43, 45, 42, 47, 37, 60, 62, 61] := e
    have e10 : 10 ≤ kdS G (slO id x) := by
      simp only [List.mem_cons, List.not_mem_nil, or_false] at ek; omega
    have m := fun V hV => (mp V hV).2.2.2.2.2.2.2.2.2 e
    obtain ⟨z1, z2, z3⟩ := W_kid hw h (k0 := 0) (by omega)
    obtain ⟨y1, y2, y3⟩ := W_kid hw h (k0 := 1) (by omega)
    rw [(m v h.1.1).1]
    refine br_n (by decide) (br_n (by decide) (br_n (by decide) (br_n (by decide) (br_p rfl ⟨hinP, ?_⟩))))
    rw [(m v h.1.1).2.2.1]
    refine r_here hlt z3 hc0 rfl ⟨hinP, ?_⟩
    rw [(m v h.1.1).2.2.2]
    refine r_here hlt y3 hc0 rfl (W_reach hS h z1 (by rw [z2]; exact W_L h (by rw [if_neg (by omega)]; omega)) rfl (fun st1 V1 h1 s1 s3 su => ?_))
    refine W_reach hS h1 y1 (by rw [y2]; exact W_L h1 (by rw [if_neg (by omega)]; omega)) rfl (fun st2 V2 h2 t1 t3 tu => ?_)
    have hop : Op G N id st2 va x := ⟨fun k hk => by
      rw [if_neg (by omega), hnk] at hk
      rcases (show k = 0 ∨ k = 1 by omega) with rfl | rfl
      · exact tu _ s1
      · exact t1, fun e7 => by omega, fun e5 => by omega⟩
    refine W_kn h2 z1 (fun hn => W_block h2 ⟨hop, _, 1, z1, hn, Or.inr (Or.inr (Or.inr (Or.inr (Or.inr (Or.inr (Or.inr ⟨e10, Or.inl ⟨rfl, z2⟩⟩))))))⟩ ky kb) (fun hk0 => ?_)
    have hX0 : XM G N id st2 va (kidS G (slO id x) 0, some (va (kiO G id x 0))) := XM_k z1 z2 hk0
    refine W_kn h2 y1 (fun hn => W_block h2 ⟨hop, _, 2, y1, hn, Or.inr (Or.inr (Or.inr (Or.inr (Or.inr (Or.inr (Or.inr ⟨e10, Or.inr ⟨rfl, ⟨_, hX0⟩, y2⟩⟩))))))⟩ ky kb) (fun hk1 => ⟨hinP, ?_⟩)
    have hX1 : XM G N id st2 va (kidS G (slO id x) 1, some (va (kiO G id x 1))) := XM_k y1 y2 hk1
    rw [(m V2 h2.1.1).2.1]
    refine r_num hN h2.2.1.2.2.1 z1 hk0 (r_num hN h2.2.1.2.2.1 y1 hk1 (m_oper7 ek rfl ?_))
    exact W_know hS h2 (w := (opr (kdS G (slO id x)) (va (kiO G id x 0)).1 (va (kiO G id x 1)).1, none)) rfl (by rw [Kn_10 e10]; exact ⟨_, _, hX0, hX1, rfl⟩) hop (by omega) ⟨fun _ => ⟨rfl, rfl⟩, (fun o ho => by cases ho)⟩ ky
