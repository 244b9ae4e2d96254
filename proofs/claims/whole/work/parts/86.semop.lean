/-! 86.semop: the meaning is kept -/
theorem M_reach {G : Prg} {a b : Int32} {sc : Nat → Nat → List Nat} {N : Nat} {id : Nat → Cid} {st : Nat → Nat} {va : Nat → Vl} {B : List Nat} {W : Nat → List Nat} {ex mk : Nat → Prop} {lk : Nat → Nat} {u U : St} (h : SMc G a b sc N id st va B W ex mk lk u) {z : Nat} (hz : vld G N id z) (h0 : st z = 0) (hL : Lfp G a b (slO id z, none)) (hsc : ∀ q, q ∈ sc (dfn G (id (z / 60))) (z % 60) → (q < gnp G (dfn G (id (z / 60))) ∧ 0 < gnk G (dfn G (id (z / 60))) q) ∧ 1 ≤ uF st z 1 (60 * (z / 60) + gkid G (dfn G (id (z / 60))) q 0)) (eI : ∀ i, i = 14 ∨ i = 15 ∨ i = 17 → gI U i = gI u i) (eA : ∀ i, i = 29 ∨ i = 34 ∨ i = 35 → gA U i = gA u i) : SMc G a b sc N id (uF st z 1) va (B ++ [z]) (uF W z []) ex mk lk U := by
  obtain ⟨⟨n1, n2, n3, n4, n5⟩, ⟨s1, s2, s3⟩, hV, hM, hK, hR, hS, hJ, hW, hB, hI, hKn⟩ := h
  have up1 : ∀ x, 1 ≤ st x → 1 ≤ uF st z 1 x := fun x hx => by
    by_cases e : x = z
    · rw [e, uF_s]; decide
    · rw [uF_o e]; exact hx
  have up3 : ∀ x, st x = 3 → uF st z 1 x = 3 := fun x hx => by rw [uF_o (fun e => by rw [e] at hx; omega)]; exact hx
  have dn : ∀ x, 2 ≤ uF st z 1 x → st x = uF st z 1 x := fun x hx => by
    by_cases e : x = z
    · rw [e, uF_s] at hx; omega
    · rw [uF_o e]
  have hX := XM_up (G := G) (N := N) (id := id) (st := st) (st' := uF st z 1) (va := va) (fun x _ => up1 x) (fun x _ => up3 x)
  refine ⟨⟨by rw [eI 14 (by decide)]; exact n1, by rw [eI 15 (by decide)]; exact n2, by rw [eI 17 (by decide)]; exact n3, n4, n5⟩, ⟨s1, s2, fun x hx => ⟨fun h1 => ?_, fun h3 => ?_⟩⟩, fun x hx h3 => ?_, fun x hx h7 h2 he => ?_, fun x hx h2 he k hk => ?_, fun j hj => up1 _ (hR j hj), fun x hx h1 q hq => ?_, fun j e c j' a1 a2 a3 a4 => ?_, fun y x hxy => ?_, fun x hxB h2 => ?_, fun x hx h5 h3 => ?_, fun x hx h3 => Kn_mono hX (hKn x hx (by rw [← dn x (by omega)] at h3; exact h3))⟩
  · by_cases e : x = z
    · rw [e]; exact hL
    · rw [uF_o e] at h1; exact (s3 x hx).1 h1
  · rw [← dn x (by omega)] at h3; exact (s3 x hx).2 h3
  · rw [← dn x (by omega)] at h3
    rw [eA 34 (by decide), eA 35 (by decide)]; exact hV x hx h3
  · rw [← dn x h2] at h2; rw [eA 29 (by decide)]; exact hM x hx h7 h2 he
  · rw [← dn x h2] at h2; exact up1 _ (hK x hx h2 he k hk)
  · by_cases e : x = z
    · rw [e] at hq ⊢; exact hsc q hq
    · rw [uF_o e] at h1; exact ⟨(hS x hx h1 q hq).1, up1 _ (hS x hx h1 q hq).2⟩
  · obtain ⟨q1, q2, q3⟩ := hJ j e c j' a1 a2 a3 a4
    refine ⟨?_, q2, fun hne => ⟨(q3 hne).1, (q3 hne).2.imp (up3 _) (fun h => h)⟩⟩
    rw [uF_o (fun e => by rw [e] at q1; omega)]; exact q1
  · by_cases e : y = z
    · rw [e, uF_s] at hxy; cases hxy
    · rw [uF_o e] at hxy
      obtain ⟨l, q1, q2⟩ := hW y x hxy
      exact ⟨l, Nd_mono hX q1, q2⟩
  · rcases List.mem_append.mp hxB with hm | hm
    · rw [← dn x (by omega)] at h2
      obtain ⟨l, o, w, q1, q2, q3⟩ := hB x hm h2
      exact ⟨l, o, w, Nd_mono hX q1, hX _ q2, q3⟩
    · simp at hm; rw [hm, uF_s] at h2; omega
  · rw [← dn x (by omega)] at h3
    obtain ⟨w, q1, q2⟩ := hI x hx h5 h3
    exact ⟨w, hX _ q1, hX _ q2⟩
theorem M_settle {G : Prg} {a b : Int32} {sc : Nat → Nat → List Nat} {N : Nat} {id : Nat → Cid} {st : Nat → Nat} {va : Nat → Vl} {B : List Nat} {W : Nat → List Nat} {ex mk : Nat → Prop} {lk : Nat → Nat} {u U : St} {mk' : Nat → Prop} (h : SMc G a b sc N id st va B W ex mk lk u) {x : Nat} (hx : vld G N id x) (h2 : st x = 2) (hxW : ∀ y, x ∉ W y) (hex : ¬ ex x) {w : Vl} {q : Int32} (hL : Lfp G a b (slO id x, some w)) (hkn : Kn G a b (XM G N id st va) (slO id x) w) (hq : (w.2 = none → q = -1) ∧ ∀ o, w.2 = some o → ∃ fc r, w.1 = nI r ∧ r ≤ 40 ∧ q = nI fc ∧ fc ≤ 300 ∧ ∀ k, k < r → fc + k < N ∧ id (fc + k) = (o.2, k + 1) :: o.1)
    (hif : kdS G (slO id x) = 5 → ∃ w, XM G N id st va (kidS G (slO id x) 0, some w) ∧ XM G N id st va (kidS G (slO id x) (if w.1 = 0 then 2 else 1), none)) (hmk : ∀ z, mk z → mk' z ∨ z = x) (hWv : ∀ y z, z ∈ W y → st z = 2) (eI : ∀ i, i = 14 ∨ i = 15 ∨ i = 17 → gI U i = gI u i) (e29 : gA U 29 = gA u 29) (e34 : gA U 34 = upd (gA u 34) x w.1) (e35 : gA U 35 = upd (gA u 35) x q) : SMc G a b sc N id (uF st x 3) (uF va x w) (B ++ W x) (uF W x []) ex mk' lk U := by
  obtain ⟨⟨n1, n2, n3, n4, n5⟩, ⟨s1, s2, s3⟩, hV, hM, hK, hR, hS, hJ, hW, hB, hI, hKn⟩ := h
  have up1 : ∀ z, 1 ≤ st z → 1 ≤ uF st x 3 z := fun z hz => by
    by_cases e : z = x
    · rw [e, uF_s]; decide
    · rw [uF_o e]; exact hz
  have up2 : ∀ z, 2 ≤ st z → 2 ≤ uF st x 3 z := fun z hz => by
    by_cases e : z = x
    · rw [e, uF_s]; decide
    · rw [uF_o e]; exact hz
  have hX : ∀ f, XM G N id st va f → XM G N id (uF st x 3) (uF va x w) f := fun f ⟨z, q1, q2, q3⟩ => by
    refine ⟨z, q1, q2, ?_⟩
    cases hf : f.2 with
    | none => rw [hf] at q3; exact up1 z q3
    | some v =>
      rw [hf] at q3
      have hzx : z ≠ x := fun e => by have := q3.1; rw [e] at this; omega
      show uF st x 3 z = 3 ∧ uF va x w z = v
      rw [uF_o hzx, uF_o hzx]; exact q3
  have hXx : XM G N id (uF st x 3) (uF va x w) (slO id x, some w) := ⟨x, hx, rfl, uF_s, uF_s⟩
  refine ⟨⟨by rw [eI 14 (by decide)]; exact n1, by rw [eI 15 (by decide)]; exact n2, by rw [eI 17 (by decide)]; exact n3, n4, n5⟩, ⟨s1, s2, fun z hz => ⟨fun h1 => ?_, fun h3 => ?_⟩⟩, fun z hz h3 => ?_, fun z hz h7 h2z he => ?_, fun z hz h2z he k hk => ?_, fun j hj => up1 _ (hR j hj), fun z hz h1 r hr => ?_, fun j e c j' a1 a2 a3 a4 => ?_, fun y z hzy => ?_, fun z hzB h2z => ?_, fun z hz h5 h3 => ?_, fun z hz h3 => ?_⟩
  · by_cases e : z = x
    · rw [e]; exact (s3 x hx).1 (by omega)
    · rw [uF_o e] at h1; exact (s3 z hz).1 h1
  · by_cases e : z = x
    · rw [e, uF_s]; exact hL
    · rw [uF_o e] at h3 ⊢; exact (s3 z hz).2 h3
  · rw [e34, e35, updE, updE]
    by_cases e : z = x
    · rw [e, uF_s, if_pos rfl, if_pos rfl]; exact ⟨rfl, hq.1, hq.2⟩
    · rw [uF_o e] at h3 ⊢; rw [if_neg e, if_neg e]; exact hV z hz h3
  · rw [e29]
    by_cases e : z = x
    · rw [e] at h7 ⊢; exact hM x hx h7 (by omega) hex
    · rw [uF_o e] at h2z; exact hM z hz h7 h2z he
  · by_cases e : z = x
    · rw [e] at hk ⊢; exact up1 _ (hK x hx (by omega) hex k hk)
    · rw [uF_o e] at h2z; exact up1 _ (hK z hz h2z he k hk)
  · by_cases e : z = x
    · rw [e] at hr ⊢; exact ⟨(hS x hx (by omega) r hr).1, up1 _ (hS x hx (by omega) r hr).2⟩
    · rw [uF_o e] at h1; exact ⟨(hS z hz h1 r hr).1, up1 _ (hS z hz h1 r hr).2⟩
  · obtain ⟨q1, q2, q3⟩ := hJ j e c j' a1 a2 a3 a4
    refine ⟨up2 _ q1, q2, fun hne => ⟨(q3 hne).1, ?_⟩⟩
    rcases (q3 hne).2 with h | h
    · exact Or.inl (by rw [uF_o (fun e => by rw [e] at h; omega)]; exact h)
    · rcases hmk _ h with h | h
      · exact Or.inr h
      · exact Or.inl (by rw [h, uF_s])
  · by_cases e : y = x
    · rw [e, uF_s] at hzy; cases hzy
    · rw [uF_o e] at hzy
      obtain ⟨l, q1, q2⟩ := hW y z hzy
      exact ⟨l, Nd_mono hX q1, q2⟩
  · rcases List.mem_append.mp hzB with hm | hm
    · have hzx : z ≠ x := fun e => by rw [e, uF_s] at h2z; omega
      rw [uF_o hzx] at h2z
      obtain ⟨l, o, w, q1, q2, q3⟩ := hB z hm h2z
      exact ⟨l, o, w, Nd_mono hX q1, hX _ q2, q3⟩
    · obtain ⟨l, q1, q2⟩ := hW x z hm
      exact ⟨l, _, w, Nd_mono hX q1, hXx, q2⟩
  · by_cases e : z = x
    · rw [e] at h5 ⊢
      obtain ⟨w', q1, q2⟩ := hif h5
      exact ⟨w', hX _ q1, hX _ q2⟩
    · rw [uF_o e] at h3
      obtain ⟨w', q1, q2⟩ := hI z hz h5 h3
      exact ⟨w', hX _ q1, hX _ q2⟩
  · by_cases e : z = x
    · rw [e, uF_s]; exact Kn_mono hX hkn
    · rw [uF_o e] at h3 ⊢; exact Kn_mono hX (hKn z hz h3)
theorem M_wait {G : Prg} {a b : Int32} {sc : Nat → Nat → List Nat} {N : Nat} {id : Nat → Cid} {st : Nat → Nat} {va : Nat → Vl} {B : List Nat} {W : Nat → List Nat} {ex mk : Nat → Prop} {lk : Nat → Nat} {u U : St} (h : SMc G a b sc N id st va B W ex mk lk u) {x y l : Nat} (hn : Nd G (XM G N id st va) (slO id x) (slO id y) l) (hl : lk x ≤ l) (eI : ∀ i, i = 14 ∨ i = 15 ∨ i = 17 → gI U i = gI u i) (eA : ∀ i, i = 29 ∨ i = 34 ∨ i = 35 → gA U i = gA u i) : SMc G a b sc N id st va B (uF W y (x :: W y)) ex mk lk U := by
  obtain ⟨⟨n1, n2, n3, n4, n5⟩, hD, hV, hM, hK, hR, hS, hJ, hW, hB, hI, hKn⟩ := h
  refine ⟨⟨by rw [eI 14 (by decide)]; exact n1, by rw [eI 15 (by decide)]; exact n2, by rw [eI 17 (by decide)]; exact n3, n4, n5⟩, hD, fun z hz h3 => by rw [eA 34 (by decide), eA 35 (by decide)]; exact hV z hz h3, fun z hz h7 h2 he => by rw [eA 29 (by decide)]; exact hM z hz h7 h2 he, hK, hR, hS, hJ, fun y' z hz => ?_, hB, hI, hKn⟩
  by_cases e : y' = y
  · rw [e, uF_s] at hz
    rcases List.mem_cons.mp hz with rfl | hz
    · rw [e]; exact ⟨l, hn, hl⟩
    · rw [e]; exact hW y z hz
  · rw [uF_o e] at hz; exact hW y' z hz
/-- state only changes that nothing here speaks of -/
theorem M_fr {G : Prg} {a b : Int32} {sc : Nat → Nat → List Nat} {N : Nat} {id : Nat → Cid} {st : Nat → Nat} {va : Nat → Vl} {B : List Nat} {W : Nat → List Nat} {ex mk : Nat → Prop} {lk : Nat → Nat} {u U : St} (h : SMc G a b sc N id st va B W ex mk lk u) (eI : ∀ i, i = 14 ∨ i = 15 ∨ i = 17 → gI U i = gI u i) (eA : ∀ i, i = 29 ∨ i = 34 ∨ i = 35 → gA U i = gA u i) : SMc G a b sc N id st va B W ex mk lk U := by
  obtain ⟨⟨n1, n2, n3, n4, n5⟩, hD, hV, hM, hR⟩ := h
  exact ⟨⟨by rw [eI 14 (by decide)]; exact n1, by rw [eI 15 (by decide)]; exact n2, by rw [eI 17 (by decide)]; exact n3, n4, n5⟩, hD, fun z hz h3 => by rw [eA 34 (by decide), eA 35 (by decide)]; exact hV z hz h3, fun z hz h7 h2 he => by rw [eA 29 (by decide)]; exact hM z hz h7 h2 he, hR⟩
theorem M_begin {G : Prg} {a b : Int32} {sc : Nat → Nat → List Nat} {N : Nat} {id : Nat → Cid} {st : Nat → Nat} {va : Nat → Vl} {B : List Nat} {W : Nat → List Nat} {ex mk : Nat → Prop} {lk : Nat → Nat} {u U : St} (hw : WFp G) (h : SMc G a b sc N id st va B W ex mk lk u) {c : Cid} (hdg : dfn G c < gn G) (hc : exC G (Lfp G a b) c) (hnew : ∀ j, j < N → id j ≠ c) (hpar : ∀ j e c', j < N → id j = e :: c' → ∃ j', j' < N ∧ id j' = c') (hWv : ∀ y z, z ∈ W y → vld G N id y ∧ vld G N id z) (hBv : ∀ z, z ∈ B → vld G N id z) (hsc0 : sc (dfn G c) (grt G (dfn G c)) = [])
    (hdgs : ∀ j, j < N → dfn G (id j) < gn G) (hmkr : ∀ e c' j', c = e :: c' → j' < N → id j' = c' → 2 ≤ st (60 * j' + e.1) ∧ (e.2 = 0 → kdS G (c', e.1) = 7) ∧ (e.2 ≠ 0 → kdS G (c', e.1) = 8 ∧ (st (60 * j' + e.1) = 3 ∨ mk (60 * j' + e.1)))) (hmv : ∀ e c' j', c = e :: c' → j' < N → id j' = c' → e.1 < 60) (hmv2 : ∀ j e c', j < N → id j = e :: c' → e.1 < 60) (eI : ∀ i, i = 14 ∨ i = 15 ∨ i = 17 → gI U i = gI u i) (eA : ∀ i, i = 29 ∨ i = 34 ∨ i = 35 → gA U i = gA u i) : SMc G a b sc (N + 1) (uF id N c) (stN st N (60 * N + grt G (dfn G c))) va (B ++ [60 * N + grt G (dfn G c)]) (uF W (60 * N + grt G (dfn G c)) []) ex mk lk U := by
  obtain ⟨⟨n1, n2, n3, n4, n5⟩, ⟨s1, s2, s3⟩, hV, hM, hK, hR, hS, hJ, hW, hB, hI, hKn⟩ := h
  obtain ⟨d1, d2, d3⟩ := WF_d hw hdg
  have hst : ∀ z, z / 60 < N → stN st N (60 * N + grt G (dfn G c)) z = st z := fun z hz => by unfold stN; rw [if_neg (by omega)]
  have hid : ∀ j, j < N → uF id N c j = id j := fun j hj => uF_o (by omega)
  have hsl : ∀ z, z / 60 < N → slO (uF id N c) z = slO id z := fun z hz => by unfold slO; rw [hid _ hz]
  have hX : ∀ f, XM G N id st va f → XM G (N + 1) (uF id N c) (stN st N (60 * N + grt G (dfn G c))) va f := fun f ⟨z, q1, q2, q3⟩ => by
    refine ⟨z, vld_new.mpr (Or.inl q1), by rw [hsl z q1.1]; exact q2, ?_⟩
    rw [hst z q1.1]; exact q3
  have hlow : ∀ z, z / 60 = N → stN st N (60 * N + grt G (dfn G c)) z ≤ 1 := fun z hz => by unfold stN; rw [if_pos hz]; split <;> omega
  have hnewR : stN st N (60 * N + grt G (dfn G c)) (60 * N + grt G (dfn G c)) = 1 := by unfold stN; rw [if_pos (by omega), if_pos rfl]
  have hL : Lfp G a b (rtS G c, none) := Lfp_step (Or.inl ⟨hc, rfl⟩)
  refine ⟨⟨by rw [eI 14 (by decide)]; exact n1, by rw [eI 15 (by decide)]; exact n2, by rw [eI 17 (by decide)]; exact n3, by omega, by rw [hid 0 (by omega)]; exact n5⟩, ⟨fun i j hi hj he => ?_, fun j hj => ?_, fun x hx => ?_⟩, fun x hx h3 => ?_, fun x hx h7 h2 he => ?_, fun x hx h2 he k hk => ?_, fun j hj => ?_, fun x hx h1 q hq => ?_, fun j e c' j' a1 a2 a3 a4 => ?_, fun y x hxy => ?_, fun x hxB h2 => ?_, fun x hx h5 h3 => ?_, fun x hx h3 => ?_⟩
  · rcases (show i < N ∨ i = N by omega) with hi | hi <;> rcases (show j < N ∨ j = N by omega) with hj | hj
    · rw [hid i hi, hid j hj] at he; exact s1 i j hi hj he
    · rw [hid i hi, hj, uF_s] at he; exact absurd he (hnew i hi)
    · rw [hid j hj, hi, uF_s] at he; exact absurd he.symm (hnew j hj)
    · rw [hi, hj]
  · rcases (show j < N ∨ j = N by omega) with hj | rfl
    · rw [hid j hj]; exact s2 j hj
    · rw [uF_s]; exact ⟨hdg, hc⟩
  · rcases vld_new.mp hx with hx | ⟨q1, q2⟩
    · rw [hst x hx.1, hsl x hx.1]; exact s3 x hx
    · refine ⟨fun h1 => ?_, fun h3 => by have := hlow x q1; omega⟩
      unfold stN at h1; rw [if_pos q1] at h1
      by_cases hr : x = 60 * N + grt G (dfn G c)
      · have e : slO (uF id N c) x = rtS G c := by unfold slO rtS; rw [q1, uF_s]; congr 1; omega
        rw [e]; exact hL
      · rw [if_neg hr] at h1; omega
  · rcases vld_new.mp hx with hx | ⟨q1, q2⟩
    · rw [hst x hx.1] at h3
      rw [eA 34 (by decide), eA 35 (by decide)]
      obtain ⟨r1, r2, r3⟩ := hV x hx h3
      refine ⟨r1, r2, fun o ho => ?_⟩
      obtain ⟨fc, q, t1, t2, t3, t4, t5⟩ := r3 o ho
      exact ⟨fc, q, t1, t2, t3, t4, fun k hk => ⟨by have := (t5 k hk).1; omega, by rw [hid _ (t5 k hk).1]; exact (t5 k hk).2⟩⟩
    · have := hlow x q1; omega
  · rcases vld_new.mp hx with hx | ⟨q1, q2⟩
    · rw [hst x hx.1] at h2; rw [hsl x hx.1] at h7
      obtain ⟨j, r1, r2, r3⟩ := hM x hx h7 h2 he
      exact ⟨j, by omega, by rw [eA 29 (by decide)]; exact r2, by rw [hid j r1, hid _ hx.1]; exact r3⟩
    · have := hlow x q1; omega
  · rcases vld_new.mp hx with hx | ⟨q1, q2⟩
    · rw [hst x hx.1] at h2; rw [hsl x hx.1, hid _ hx.1] at hk
      have hd := hdgs _ hx.1
      have e : kiO G (uF id N c) x k = kiO G id x k := by unfold kiO; rw [hid _ hx.1]
      have hk2 : k < gnk G (dfn G (id (x / 60))) (x % 60) := by
        by_cases h5 : kdS G (slO id x) = 5
        · rw [if_pos h5] at hk
          obtain ⟨_, _, _, _, w5⟩ := hw.2 _ hd
          have h5' : gkd G (dfn G (id (x / 60))) (x % 60) = 5 := h5
          have := (w5 _ hx.2).2.2
          rcases this with h | h | h | h | h | h | h | h | h | h
          all_goals first | omega | (have := h.1; rw [h5'] at this; simp at this)
        · rw [if_neg h5] at hk; exact hk
      have hki := (kiO_v hw hx hd hk2).2.2.1
      rw [e, hst _ (by rw [hki]; exact hx.1)]; exact hK x hx h2 he k hk
    · have := hlow x q1; omega
  · rcases (show j < N ∨ j = N by omega) with hj | rfl
    · rw [hid j hj]
      obtain ⟨_, e2, e3⟩ := WF_d hw (hdgs j hj)
      rw [hst _ (by omega)]; exact hR j hj
    · rw [uF_s, hnewR]; decide
  · rcases vld_new.mp hx with hx | ⟨q1, q2⟩
    · rw [hst x hx.1] at h1; rw [hid _ hx.1] at hq ⊢
      obtain ⟨⟨t1, t2⟩, t3⟩ := hS x hx h1 q hq
      have hd := hdgs _ hx.1
      obtain ⟨_, e2, _⟩ := WF_d hw hd
      have hkid := ((hw.2 _ hd).2.2.2.2 q t1).2.1 0 t2
      have hx1 := hx.1
      rw [hst _ (by omega)]; exact ⟨⟨t1, t2⟩, t3⟩
    · unfold stN at h1; rw [if_pos q1] at h1
      by_cases hr : x = 60 * N + grt G (dfn G c)
      · have hx60 : x % 60 = grt G (dfn G c) := by omega
        rw [q1, uF_s, hx60, hsc0] at hq; cases hq
      · rw [if_neg hr] at h1; omega
  · rcases (show j < N ∨ j = N by omega) with hj | rfl
    · rw [hid j hj] at a2
      obtain ⟨j'', t1, t2⟩ := hpar j e c' hj a2
      rcases (show j' < N ∨ j' = N by omega) with hj' | rfl
      · rw [hid j' hj'] at a4
        have h60 := hmv2 j e c' hj a2
        obtain ⟨q1, q2, q3⟩ := hJ j e c' j' hj a2 hj' a4
        rw [hst _ (by omega)]; exact ⟨q1, q2, q3⟩
      · rw [uF_s] at a4; exact absurd (t2.trans a4.symm) (hnew j'' t1)
    · rw [uF_s] at a2
      rcases (show j' < j ∨ j' = j by omega) with hj' | rfl
      · rw [hid j' hj'] at a4
        have h60 := hmv e c' j' a2 hj' a4
        rw [hst _ (by omega)]; exact hmkr e c' j' a2 hj' a4
      · rw [uF_s, a2] at a4
        have := congrArg List.length a4; simp at this
  · by_cases e : y = 60 * N + grt G (dfn G c)
    · rw [e, uF_s] at hxy; cases hxy
    · rw [uF_o e] at hxy
      obtain ⟨v1, v2⟩ := hWv y x hxy
      obtain ⟨l, q1, q2⟩ := hW y x hxy
      rw [hsl x v2.1, hsl y v1.1]
      exact ⟨l, Nd_mono hX q1, q2⟩
  · rcases List.mem_append.mp hxB with hm | hm
    · have hv := hBv x hm
      rw [hst x hv.1] at h2
      obtain ⟨l, o, w, q1, q2, q3⟩ := hB x hm h2
      rw [hsl x hv.1]
      exact ⟨l, o, w, Nd_mono hX q1, hX _ q2, q3⟩
    · simp at hm; rw [hm, hnewR] at h2; omega
  · rcases vld_new.mp hx with hx | ⟨q1, q2⟩
    · rw [hst x hx.1] at h3; rw [hsl x hx.1] at h5 ⊢
      obtain ⟨w, q1, q2⟩ := hI x hx h5 h3
      exact ⟨w, hX _ q1, hX _ q2⟩
    · have := hlow x q1; omega
  · rcases vld_new.mp hx with hx | ⟨q1, q2⟩
    · rw [hst x hx.1] at h3; rw [hsl x hx.1]; exact Kn_mono hX (hKn x hx h3)
    · have := hlow x q1; omega
theorem XM_new {G : Prg} {N : Nat} {id : Nat → Cid} {st : Nat → Nat} {va : Nat → Vl} {c : Cid} {r : Nat} {f : Fa} (h : XM G N id st va f) : XM G (N + 1) (uF id N c) (stN st N r) va f := by
  obtain ⟨z, q1, q2, q3⟩ := h
  have hz := q1.1
  refine ⟨z, vld_new.mpr (Or.inl q1), ?_, ?_⟩
  · unfold slO at q2 ⊢; rw [uF_o (by omega)]; exact q2
  · have : stN st N r z = st z := by unfold stN; rw [if_neg (by omega)]
    rw [this]; exact q3
