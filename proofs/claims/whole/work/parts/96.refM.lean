/-! 96.refM: what the reference's slots mean -/
/-- a slot's own closure, its value apart -/
def Op (G : Prg) (N : Nat) (id : Nat → Cid) (st : Nat → Nat) (va : Nat → Vl) (x : Nat) : Prop :=
  (∀ k, k < (if kdS G (slO id x) = 5 then 1 else gnk G (dfn G (id (x / 60))) (x % 60)) → 1 ≤ st (kiO G id x k)) ∧ (kdS G (slO id x) = 7 → ∃ j, j < N ∧ id j = (x % 60, 0) :: id (x / 60)) ∧ (kdS G (slO id x) = 5 → ∀ w, XM G N id st va (kidS G (slO id x) 0, some w) → XM G N id st va (kidS G (slO id x) (if w.1 = 0 then 2 else 1), none))
def Bl (G : Prg) (N : Nat) (id : Nat → Cid) (st : Nat → Nat) (va : Nat → Vl) (x : Nat) : Prop := Op G N id st va x ∧ ∃ y l, vld G N id y ∧ st y ≠ 3 ∧ Nd G (XM G N id st va) (slO id x) (slO id y) l
def MaM (G : Prg) (N : Nat) (id : Nat → Cid) (v : St) : Prop := ∀ x, vld G N id x → kdS G (slO id x) = 7 → (gA v 31 x = -1 ∧ ∀ j, j < N → id j ≠ (x % 60, 0) :: id (x / 60)) ∨ ∃ j, j < N ∧ gA v 31 x = nI j ∧ id j = (x % 60, 0) :: id (x / 60)
def SMm (G : Prg) (a b : Int32) (N : Nat) (id : Nat → Cid) (st : Nat → Nat) (va : Nat → Vl) (mk : Nat → Prop) (v : St) : Prop :=
  (gI v 17 = 0 ∧ 1 ≤ N ∧ id 0 = []) ∧ SdM G a b N id st va ∧ VaM G N id st va v ∧ ArM G a b N id N v ∧ MaM G N id v ∧
  (∀ x, vld G N id x → st x = 3 → Op G N id st va x ∧ Kn G a b (XM G N id st va) (slO id x) (va x)) ∧
  (∀ j, j < N → 1 ≤ st (60 * j + grt G (dfn G (id j)))) ∧
  (∀ j e c j', j < N → id j = e :: c → j' < N → id j' = c → e.1 < 60 ∧ (e.2 ≠ 0 → st (60 * j' + e.1) = 3 ∨ mk (60 * j' + e.1))) ∧
  (∀ x, vld G N id x → kdS G (slO id x) ≠ 8 ∨ (st x ≠ 3 ∧ ¬ mk x) → gA v 32 x = 0) ∧
  (∀ x, vld G N id x → kdS G (slO id x) = 8 → st x = 3 → (va x).2 = some (slO id x)) ∧
  (∀ x, ¬ vld G N id x → st x = 0) ∧ ∀ j e c, j < N → id j = e :: c → ∃ j', j' < N ∧ id j' = c
theorem Op_mono {G : Prg} {N : Nat} {id : Nat → Cid} {st st' : Nat → Nat} {va : Nat → Vl} {x : Nat} (hF : Fn (XM G N id st' va)) (h1 : ∀ y, 1 ≤ st y → 1 ≤ st' y) (h3 : ∀ y, st y = 3 → st' y = 3) (h5 : kdS G (slO id x) = 5 → ∃ w, XM G N id st va (kidS G (slO id x) 0, some w)) (h : Op G N id st va x) : Op G N id st' va x := by
  have hX := fun f => XM_up2 (G := G) (N := N) (id := id) (va := va) (f := f) h1 h3
  refine ⟨fun k hk => h1 _ (h.1 k hk), h.2.1, fun e w hw => ?_⟩
  obtain ⟨w', hw'⟩ := h5 e
  rw [hF _ _ _ hw (hX _ hw')]
  exact hX _ (h.2.2 e w' hw')
theorem Kn_5w {G : Prg} {a b : Int32} {X : Fa → Prop} {s : Sl} {v : Vl} (h : Kn G a b X s v) (e : kdS G s = 5) : ∃ w, X (kidS G s 0, some w) := by
  rw [Kn_5 e] at h; obtain ⟨w, h1, _⟩ := h; exact ⟨w, h1⟩
theorem Rm_reach {G : Prg} {a b : Int32} {N : Nat} {id : Nat → Cid} {st : Nat → Nat} {va : Nat → Vl} {mk : Nat → Prop} {v V : St} (h : SMm G a b N id st va mk v) {z : Nat} (hz : vld G N id z) (h0 : st z = 0) (hL : Lfp G a b (slO id z, none)) (hmk : ¬ mk z) (eI : gI V 17 = gI v 17) (eA : ∀ i, i ≠ 27 → gA V i = gA v i) : SMm G a b N id (uF st z 1) va mk V := by
  obtain ⟨⟨n1, n2, n3⟩, ⟨s1, s2, s3⟩, hV, hAr, hMa, hK, hR, hC, h32, h8, hz0, hpa⟩ := h
  have up1 : ∀ x, 1 ≤ st x → 1 ≤ uF st z 1 x := fun x hx => by
    by_cases e : x = z
    · rw [e, uF_s]; decide
    · rw [uF_o e]; exact hx
  have up3 : ∀ x, st x = 3 → uF st z 1 x = 3 := fun x hx => by rw [uF_o (fun e => by rw [e] at hx; omega)]; exact hx
  have dn3 : ∀ x, uF st z 1 x = 3 → st x = 3 := fun x hx => by
    by_cases e : x = z
    · rw [e, uF_s] at hx; omega
    · rw [uF_o e] at hx; exact hx
  have hX := fun f => XM_up2 (G := G) (N := N) (id := id) (va := va) (f := f) up1 up3
  have hD' : SdM G a b N id (uF st z 1) va := ⟨s1, s2, fun x hx => ⟨fun h1 => by
    by_cases e : x = z
    · rw [e]; exact hL
    · rw [uF_o e] at h1; exact (s3 x hx).1 h1, fun h3 => (s3 x hx).2 (dn3 x h3)⟩⟩
  refine ⟨⟨by rw [eI]; exact n1, n2, n3⟩, hD', fun x hx h3 => ?_, fun j hj q hq => ?_, fun x hx h7 => by rw [eA 31 (by decide)]; exact hMa x hx h7, fun x hx h3 => ?_, fun j hj => up1 _ (hR j hj), fun j e c j' a1 a2 a3 a4 => ⟨(hC j e c j' a1 a2 a3 a4).1, fun hne => ((hC j e c j' a1 a2 a3 a4).2 hne).imp (up3 _) (fun h => h)⟩, fun x hx hor => by rw [eA 32 (by decide)]; exact h32 x hx (hor.imp (fun h => h) (fun ⟨p, q⟩ => ⟨fun h => p (up3 x h), q⟩)), fun x hx e h3 => h8 x hx e (dn3 x h3), fun x hx => by rw [uF_o (fun e => hx (by rw [e]; exact hz))]; exact hz0 x hx, hpa⟩
  · rw [eA 30 (by decide), eA 29 (by decide), eA 32 (by decide), eA 31 (by decide)]
    obtain ⟨r1, r2⟩ := hV x hx (dn3 x h3)
    refine ⟨r1, fun o ho => ?_⟩
    obtain ⟨y, q, fc, t1, t2, t3, t4, t5, t6⟩ := r2 o ho
    exact ⟨y, q, fc, t1, t2, t3, t4, ⟨t5.1, up3 y t5.2⟩, t6⟩
  · have := hAr j hj q hq
    unfold ArJ at this ⊢
    rw [eA 24 (by decide), eA 25 (by decide), eA 26 (by decide)]; exact this
  · obtain ⟨q1, q2⟩ := hK x hx (dn3 x h3)
    exact ⟨Op_mono (XM_fn hD') up1 up3 (Kn_5w q2) q1, Kn_mono hX q2⟩
theorem Rm_know {G : Prg} {a b : Int32} {N : Nat} {id : Nat → Cid} {st : Nat → Nat} {va : Nat → Vl} {mk : Nat → Prop} {v V : St} {mk' : Nat → Prop} (h : SMm G a b N id st va mk v) {x : Nat} (hx : vld G N id x) (h1 : st x = 1) {w : Vl} (hL : Lfp G a b (slO id x, some w)) (hkn : Kn G a b (XM G N id st va) (slO id x) w) (hop : Op G N id st va x) (hmk : ∀ z, mk z → mk' z ∨ z = x) (hmk2 : ∀ z, mk' z → mk z) (h8x : kdS G (slO id x) = 8 → w.2 = some (slO id x)) (eI : gI V 17 = gI v 17) (eA : ∀ i, i ≠ 28 → i ≠ 29 → i ≠ 30 → gA V i = gA v i) (eo : ∀ z, z ≠ x → gA V 29 z = gA v 29 z ∧ gA V 30 z = gA v 30 z)
    (hv : (w.2 = none → gA V 30 x = -1 ∧ gA V 29 x = w.1) ∧ ∀ o, w.2 = some o → ∃ y q fc, vld G N id y ∧ slO id y = o ∧ gA V 30 x = nI y ∧ w.1 = nI q ∧ (q ≤ 40 ∧ (st y = 3 ∨ y = x)) ∧ gA v 32 y = nI q ∧ gA v 31 y = nI fc ∧ fc ≤ 300 ∧ ∀ k, k < q → fc + k < N ∧ id (fc + k) = (o.2, k + 1) :: o.1) : SMm G a b N id (uF st x 3) (uF va x w) mk' V := by
  obtain ⟨⟨n1, n2, n3⟩, ⟨s1, s2, s3⟩, hV, hAr, hMa, hK, hR, hC, h32, h8, hz0, hpa⟩ := h
  have up1 : ∀ z, 1 ≤ st z → 1 ≤ uF st x 3 z := fun z hz => by
    by_cases e : z = x
    · rw [e, uF_s]; decide
    · rw [uF_o e]; exact hz
  have up3 : ∀ z, st z = 3 → uF st x 3 z = 3 := fun z hz => by rw [uF_o (fun e => by rw [e] at hz; omega)]; exact hz
  have hX : ∀ f, XM G N id st va f → XM G N id (uF st x 3) (uF va x w) f := fun f ⟨z, q1, q2, q3⟩ => by
    refine ⟨z, q1, q2, ?_⟩
    cases hf : f.2 with
    | none => rw [hf] at q3; exact up1 z q3
    | some v =>
      rw [hf] at q3
      have hzx : z ≠ x := fun e => by have := q3.1; rw [e] at this; omega
      show uF st x 3 z = 3 ∧ uF va x w z = v
      rw [uF_o hzx, uF_o hzx]; exact q3
  have hD' : SdM G a b N id (uF st x 3) (uF va x w) := ⟨s1, s2, fun z hz => ⟨fun hz1 => by
    by_cases e : z = x
    · rw [e]; exact (s3 x hx).1 (by omega)
    · rw [uF_o e] at hz1; exact (s3 z hz).1 hz1, fun h3 => by
    by_cases e : z = x
    · rw [e, uF_s]; exact hL
    · rw [uF_o e] at h3 ⊢; exact (s3 z hz).2 h3⟩⟩
  have hFn := XM_fn hD'
  have opm : ∀ z, (kdS G (slO id z) = 5 → ∃ w, XM G N id st va (kidS G (slO id z) 0, some w)) → Op G N id st va z → Op G N id (uF st x 3) (uF va x w) z := fun z h5 h => by
    refine ⟨fun k hk => up1 _ (h.1 k hk), h.2.1, fun e w2 hw2 => ?_⟩
    obtain ⟨w', hw'⟩ := h5 e
    rw [hFn _ _ _ hw2 (hX _ hw')]
    exact hX _ (h.2.2 e w' hw')
  refine ⟨⟨by rw [eI]; exact n1, n2, n3⟩, hD', fun z hz h3 => ?_, fun j hj q hq => ?_, fun z hz h7 => by rw [eA 31 (by decide) (by decide) (by decide)]; exact hMa z hz h7, fun z hz h3 => ?_, fun j hj => up1 _ (hR j hj), fun j e c j' a1 a2 a3 a4 => ⟨(hC j e c j' a1 a2 a3 a4).1, fun hne => ?_⟩, fun z hz hor => ?_, fun z hz e h3 => ?_, fun z hz => by rw [uF_o (fun e => hz (by rw [e]; exact hx))]; exact hz0 z hz, hpa⟩
  · rw [eA 32 (by decide) (by decide) (by decide), eA 31 (by decide) (by decide) (by decide)]
    by_cases e : z = x
    · rw [e, uF_s]
      refine ⟨hv.1, fun o ho => ?_⟩
      obtain ⟨y, q, fc, t1, t2, t3, t4, t5, t6⟩ := hv.2 o ho
      refine ⟨y, q, fc, t1, t2, t3, t4, ⟨t5.1, t5.2.elim (up3 y) (fun h => by rw [h, uF_s])⟩, t6⟩
    · rw [uF_o e] at h3 ⊢
      rw [(eo z e).1, (eo z e).2]
      obtain ⟨r1, r2⟩ := hV z hz h3
      refine ⟨r1, fun o ho => ?_⟩
      obtain ⟨y, q, fc, t1, t2, t3, t4, t5, t6⟩ := r2 o ho
      exact ⟨y, q, fc, t1, t2, t3, t4, ⟨t5.1, up3 y t5.2⟩, t6⟩
  · have := hAr j hj q hq
    unfold ArJ at this ⊢
    rw [eA 24 (by decide) (by decide) (by decide), eA 25 (by decide) (by decide) (by decide), eA 26 (by decide) (by decide) (by decide)]; exact this
  · by_cases e : z = x
    · rw [e, uF_s]; exact ⟨opm x (Kn_5w hkn) hop, Kn_mono hX hkn⟩
    · rw [uF_o e] at h3 ⊢
      obtain ⟨q1, q2⟩ := hK z hz h3
      exact ⟨opm z (Kn_5w q2) q1, Kn_mono hX q2⟩
  · rcases (hC j e c j' a1 a2 a3 a4).2 hne with h | h
    · exact Or.inl (up3 _ h)
    · rcases hmk _ h with h | h
      · exact Or.inr h
      · exact Or.inl (by rw [h, uF_s])
  · rw [eA 32 (by decide) (by decide) (by decide)]
    refine h32 z hz (hor.imp (fun h => h) (fun ⟨p, q⟩ => ⟨fun h => p (up3 z h), fun hm => ?_⟩))
    rcases hmk z hm with h | h
    · exact q h
    · exact p (by rw [h, uF_s])
  · by_cases ex : z = x
    · rw [ex] at e ⊢; rw [uF_s]; exact h8x e
    · rw [uF_o ex] at h3 ⊢; exact h8 z hz e h3
/-- when a pass changes nothing, nothing is left -/
theorem r_closed {G : Prg} {a b : Int32} {M N : Nat} {id : Nat → Cid} {st : Nat → Nat} {va : Nat → Vl} {v : St} (hw : WFp G) (hJ : CaM G M N id v) (hSl : SlM G N id st v) (h : SMm G a b N id st va (fun _ => False) v) (hb : ∀ x, vld G N id x → st x = 1 → Bl G N id st va x) : ClM G a b N id st va := by
  obtain ⟨⟨n1, n2, n3⟩, hD, hV, hAr, hMa, hK, hR, hC, h32, h8, hz0, hpa⟩ := h
  have hFn := XM_fn hD
  have op : ∀ x, vld G N id x → 1 ≤ st x → Op G N id st va x := fun x hx h1 => by
    rcases (hSl x hx).1 with h | h | h
    · omega
    · exact (hb x hx h).1
    · exact (hK x hx h).1
  have noK : ∀ y, vld G N id y → st y ≠ 3 → ∀ w, ¬ XM G N id st va (slO id y, some w) := fun y hy h2 w ⟨z, q1, q2, q3, _⟩ => by
    have := slO_inj hD.1 q1.1 hy.1 q2
    rw [this] at q3; exact h2 q3
  have calls : ∀ c, exC G (XM G N id st va) c → ∃ j, j < N ∧ id j = c := fun c hc => by
    cases c with
    | nil => exact ⟨0, by omega, n3⟩
    | cons e c =>
      obtain ⟨h1, h2⟩ := hc
      rcases h2 with ⟨e0, k7, x, x1, x2, x3⟩ | ⟨k8, k, q, e1, hkq, hq, x, x1, x2, x3, x4⟩
      · have x2' : slO id x = (c, e.1) := x2
        obtain ⟨j, j1, j3⟩ := (op x x1 x3).2.1 (by rw [x2']; exact k7)
        have f1 : id (x / 60) = c := congrArg Prod.fst x2'
        have f2 : x % 60 = e.1 := congrArg Prod.snd x2'
        refine ⟨j, j1, ?_⟩
        rw [j3, f1, f2]
        exact congrArg (· :: c) (Prod.ext rfl e0.symm)
      · obtain ⟨y, r, fc, _, _, _, t1, t2, _, _, _, t5⟩ := (hV x x1 x3).2 (c, e.1) (by rw [x4])
        rw [x4] at t1
        have hqr : q = r := by
          have t1 : nI q = nI r := t1
          rw [nI_eq (by omega) (by omega)] at t1; exact t1
        obtain ⟨f1, f2⟩ := t5 k (by omega)
        refine ⟨fc + k, f1, ?_⟩
        rw [f2]
        exact congrArg (· :: c) (Prod.ext rfl e1.symm)
  refine ⟨fun f hf => ?_, calls⟩
  obtain ⟨s, v'⟩ := f
  cases v' with
  | none =>
    rcases hf with ⟨h1, h2⟩ | ⟨p, k, h1, h2, h3, h4⟩ | ⟨p, w, h1, h2, h3, h4, h5⟩
    · obtain ⟨j, j1, j2⟩ := calls _ h1
      have hd := (hJ.2 j j1).1
      obtain ⟨g1, g2, g3, g4⟩ := vld_in hw j1 hd (WF_d hw hd).2.2
      refine ⟨_, g1, ?_, hR j j1⟩
      rw [g2, j2, ← h2]
    · obtain ⟨x, x1, x2, x3⟩ := h4
      have x2' : slO id x = (s.1, p) := x2
      have f1 : id (x / 60) = s.1 := congrArg Prod.fst x2'
      have f2 : x % 60 = p := congrArg Prod.snd x2'
      have hd := (hJ.2 _ x1.1).1
      have hkd : kdS G (slO id x) = gkd G (dfn G s.1) p := by rw [x2']; rfl
      have h2' : k < (if kdS G (slO id x) = 5 then 1 else gnk G (dfn G (id (x / 60))) (x % 60)) := by rw [hkd, f1, f2]; exact h2
      have hk : k < gnk G (dfn G (id (x / 60))) (x % 60) := by
        by_cases h5 : kdS G (slO id x) = 5
        · rw [if_pos h5] at h2'
          have h5' : gkd G (dfn G (id (x / 60))) (x % 60) = 5 := h5
          rcases ((hw.2 _ hd).2.2.2.2 _ x1.2).2.2 with t | t | t | t | t | t | t | t | t | t
          all_goals first | omega | (exfalso; have := t.1; rw [h5'] at this; simp at this)
        · rw [if_neg h5] at h2'; exact h2'
      obtain ⟨g1, g2, _⟩ := kiO_v hw x1 hd hk
      refine ⟨_, g1, ?_, (op x x1 x3).1 k h2'⟩
      rw [g2, x2']
      show (s.1, gkid G (dfn G s.1) p k) = s
      rw [← h3]
    · obtain ⟨x, x1, x2, x3⟩ := h3
      have x2' : slO id x = (s.1, p) := x2
      have e5 : kdS G (slO id x) = 5 := by rw [x2']; exact h2
      have := (op x x1 x3).2.2 e5 w (by rw [x2']; exact h4)
      rw [x2'] at this
      have es : kidS G (s.1, p) (if w.1 = 0 then 2 else 1) = s := by
        show (s.1, gkid G (dfn G s.1) p (if w.1 = 0 then 2 else 1)) = s
        rw [← h5]
      rw [es] at this; exact this
  | some v' =>
    obtain ⟨⟨x, x1, x2, x3⟩, hk⟩ := hf
    have x2' : slO id x = s := x2
    rw [← x2'] at hk
    rcases (hSl x x1).1 with h | h | h
    · have x3 : 1 ≤ st x := x3
      omega
    · obtain ⟨_, y, l, y1, y2, hn⟩ := hb x x1 h
      obtain ⟨w, hw'⟩ := Nd_blk hFn hn hk
      exact absurd hw' (noK y y1 y2 w)
    · exact ⟨x, x1, x2', h, Kn_fn hFn (hK x x1 h).2 hk⟩
/-- one call more, its arguments handed -/
theorem Rm_call {G : Prg} {a b : Int32} {N : Nat} {id : Nat → Cid} {st : Nat → Nat} {va : Nat → Vl} {mk : Nat → Prop} {v V : St} {r : Nat} (hw : WFp G) (h : SMm G a b N id st va mk v) {c : Cid} (hdg : dfn G c < gn G) (hc : exC G (Lfp G a b) c) (hnew : ∀ j, j < N → id j ≠ c) (hdgs : ∀ j, j < N → dfn G (id j) < gn G) (hr : r = 60 * N + grt G (dfn G c)) (hpar : ∀ e c', c = e :: c' → ∃ j', j' < N ∧ id j' = c' ∧ e.1 < 60 ∧ (e.2 ≠ 0 → st (60 * j' + e.1) = 3 ∨ mk (60 * j' + e.1))) (har : ∀ q, q < gar G (dfn G c) → ArJ G a b (N + 1) (uF id N c) V N q)
    (hm31 : ∀ z, vld G N id z → kdS G (slO id z) = 7 → c ≠ (z % 60, 0) :: id (z / 60) → gA V 31 z = gA v 31 z) (hm31c : ∀ z, vld G N id z → kdS G (slO id z) = 7 → c = (z % 60, 0) :: id (z / 60) → gA V 31 z = nI N) (hm31o : ∀ z, vld G N id z → kdS G (slO id z) ≠ 7 → gA V 31 z = gA v 31 z) (h31n : ∀ z, z / 60 = N → gA V 31 z = -1 ∧ gA V 32 z = 0) (h32o : ∀ z, z / 60 < N → gA V 32 z = gA v 32 z) (eI : gI V 17 = gI v 17) (e29 : gA V 29 = gA v 29) (e30 : gA V 30 = gA v 30) (ear : ∀ q, q / 6 ≠ N → gA V 24 q = gA v 24 q ∧ gA V 25 q = gA v 25 q ∧ gA V 26 q = gA v 26 q) (hmv : ∀ z, mk z → z / 60 < N) : SMm G a b (N + 1) (uF id N c) (stN st N r) va mk V := by
  subst hr
  obtain ⟨⟨n1, n2, n3⟩, ⟨s1, s2, s3⟩, hV, hAr, hMa, hK, hR, hC, h32, h8, hz0, hpa⟩ := h
  obtain ⟨d1, d2, d3⟩ := WF_d hw hdg
  have hst : ∀ z, z / 60 < N → stN st N (60 * N + grt G (dfn G c)) z = st z := fun z hz => by unfold stN; rw [if_neg (by omega)]
  have hid : ∀ j, j < N → uF id N c j = id j := fun j hj => uF_o (by omega)
  have hsl : ∀ z, z / 60 < N → slO (uF id N c) z = slO id z := fun z hz => by unfold slO; rw [hid _ hz]
  have hX : ∀ f, XM G N id st va f → XM G (N + 1) (uF id N c) (stN st N (60 * N + grt G (dfn G c))) va f := fun f hf => XM_new hf
  have hlow : ∀ z, z / 60 = N → stN st N (60 * N + grt G (dfn G c)) z ≤ 1 := fun z hz => by unfold stN; rw [if_pos hz]; split <;> omega
  have hnewR : stN st N (60 * N + grt G (dfn G c)) (60 * N + grt G (dfn G c)) = 1 := by unfold stN; rw [if_pos (by omega), if_pos rfl]
  have hL : Lfp G a b (rtS G c, none) := Lfp_step (Or.inl ⟨hc, rfl⟩)
  have hnoc : ∀ j p, j < N + 1 → uF id N c j ≠ p :: c := fun j p hj he => by
    rcases (show j < N ∨ j = N by omega) with hj | hj
    · rw [hid j hj] at he
      obtain ⟨j', q1, q2⟩ := hpa j p c hj he
      exact hnew j' q1 q2
    · rw [hj, uF_s] at he
      have := congrArg List.length he; simp at this
  have hD' : SdM G a b (N + 1) (uF id N c) (stN st N (60 * N + grt G (dfn G c))) va := by
    refine ⟨fun i j hi hj he => ?_, fun j hj => ?_, fun x hx => ?_⟩
    · rcases (show i < N ∨ i = N by omega) with hi | hi <;> rcases (show j < N ∨ j = N by omega) with hj | hj
      · rw [hid i hi, hid j hj] at he; exact s1 i j hi hj he
      · rw [hid i hi, hj, uF_s] at he; exact absurd he (hnew i hi)
      · rw [hid j hj, hi, uF_s] at he; exact absurd he.symm (hnew j hj)
      · rw [hi, hj]
    · rcases (show j < N ∨ j = N by omega) with hj | hj
      · rw [hid j hj]; exact s2 j hj
      · rw [hj, uF_s]; exact ⟨hdg, hc⟩
    · rcases vld_new.mp hx with hx | ⟨q1, q2⟩
      · rw [hst x hx.1, hsl x hx.1]; exact s3 x hx
      · refine ⟨fun h1 => ?_, fun h3 => by have := hlow x q1; omega⟩
        unfold stN at h1; rw [if_pos q1] at h1
        by_cases hr : x = 60 * N + grt G (dfn G c)
        · have e : slO (uF id N c) x = rtS G c := by unfold slO rtS; rw [q1, uF_s]; congr 1; omega
          rw [e]; exact hL
        · rw [if_neg hr] at h1; omega
  have hFn := XM_fn hD'
  refine ⟨⟨by rw [eI]; exact n1, by omega, by rw [hid 0 (by omega)]; exact n3⟩, hD', fun x hx h3 => ?_, fun j hj q hq => ?_, fun x hx h7 => ?_, fun x hx h3 => ?_, fun j hj => ?_, fun j e c' j' a1 a2 a3 a4 => ?_, fun x hx hor => ?_, fun x hx e h3 => ?_, fun x hx => ?_, fun j e c' hj he => ?_⟩
  · rcases vld_new.mp hx with hx | ⟨q1, q2⟩
    · rw [hst x hx.1] at h3
      obtain ⟨r1, r2⟩ := hV x hx h3
      rw [e29, e30]
      refine ⟨r1, fun o ho => ?_⟩
      obtain ⟨y, q, fc, t1, t2, t3, t4, t5, t6, t7, t8, t9⟩ := r2 o ho
      have hy1 := t1.1
      refine ⟨y, q, fc, vld_new.mpr (Or.inl t1), by rw [hsl y hy1]; exact t2, t3, t4, ⟨t5.1, by rw [hst y hy1]; exact t5.2⟩, by rw [h32o y hy1]; exact t6, ?_, t8, fun k hk => ⟨by have := (t9 k hk).1; omega, by rw [hid _ (t9 k hk).1]; exact (t9 k hk).2⟩⟩
      by_cases e7 : kdS G (slO id y) = 7
      · by_cases ec : c = (y % 60, 0) :: id (y / 60)
        · exfalso
          rcases hMa y t1 e7 with ⟨p1, _⟩ | ⟨j, p1, _, p3⟩
          · rw [p1] at t7
            exact nI_m1 (n := fc) (by omega) t7.symm
          · exact hnew j p1 (p3.trans ec.symm)
        · rw [hm31 y t1 e7 ec]; exact t7
      · rw [hm31o y t1 e7]; exact t7
    · have := hlow x q1; omega
  · rcases (show j < N ∨ j = N by omega) with hj | hj
    · rw [hid j hj] at hq
      have := hAr j hj q hq
      have har6 := (hw.2 _ (hdgs j hj)).1
      unfold ArJ at this ⊢
      rw [hid j hj]
      obtain ⟨g1, g2, g3⟩ := ear (6 * j + q) (by omega)
      rw [g1, g2, g3]
      cases hidj : id j with
      | nil => rw [hidj] at this; exact this
      | cons e c' =>
        rw [hidj] at this
        obtain ⟨j', m1, m2, m3⟩ := this
        exact ⟨j', by omega, by rw [hid j' m1]; exact m2, m3⟩
    · rw [hj, uF_s] at hq; rw [hj]; exact har q hq
  · rcases vld_new.mp hx with hx | ⟨q1, q2⟩
    · rw [hsl x hx.1] at h7
      have hx1 := hx.1
      rw [hid _ hx1]
      by_cases ec : c = (x % 60, 0) :: id (x / 60)
      · exact Or.inr ⟨N, by omega, hm31c x hx h7 ec, by rw [uF_s]; exact ec⟩
      · rw [hm31 x hx h7 ec]
        rcases hMa x hx h7 with ⟨p1, p2⟩ | ⟨j, p1, p2, p3⟩
        · refine Or.inl ⟨p1, fun j hj => ?_⟩
          rcases (show j < N ∨ j = N by omega) with hj | hj
          · rw [hid j hj]; exact p2 j hj
          · rw [hj, uF_s]; exact ec
        · exact Or.inr ⟨j, by omega, p2, by rw [hid j p1]; exact p3⟩
    · refine Or.inl ⟨(h31n x q1).1, fun j hj => ?_⟩
      rw [q1, uF_s]; exact hnoc j _ hj
  · rcases vld_new.mp hx with hx | ⟨q1, q2⟩
    · have hx1 := hx.1
      rw [hst x hx1] at h3; rw [hsl x hx1]
      obtain ⟨q1, q2⟩ := hK x hx h3
      refine ⟨⟨fun k hk => ?_, fun e7 => ?_, fun e5 w hw2 => ?_⟩, Kn_mono hX q2⟩
      · rw [hsl x hx1, hid _ hx1] at hk
        have hd := hdgs _ hx1
        have hk2 : k < gnk G (dfn G (id (x / 60))) (x % 60) := by
          by_cases h5 : kdS G (slO id x) = 5
          · rw [if_pos h5] at hk
            obtain ⟨_, _, _, _, w5⟩ := hw.2 _ hd
            have h5' : gkd G (dfn G (id (x / 60))) (x % 60) = 5 := h5
            rcases (w5 _ hx.2).2.2 with t | t | t | t | t | t | t | t | t | t
            all_goals first | omega | (exfalso; have := t.1; rw [h5'] at this; simp at this)
          · rw [if_neg h5] at hk; exact hk
        have hki := (kiO_v hw hx hd hk2).2.2.1
        have e : kiO G (uF id N c) x k = kiO G id x k := by unfold kiO; rw [hid _ hx1]
        rw [e, hst _ (by rw [hki]; exact hx1)]; exact q1.1 k hk
      · rw [hsl x hx1] at e7
        obtain ⟨j, p1, p2⟩ := q1.2.1 e7
        exact ⟨j, by omega, by rw [hid j p1, hid _ hx1]; exact p2⟩
      · rw [hsl x hx1] at e5 hw2 ⊢
        obtain ⟨w', hw'⟩ := Kn_5w q2 e5
        rw [hFn _ _ _ hw2 (hX _ hw')]
        exact hX _ (q1.2.2 e5 w' hw')
    · have := hlow x q1; omega
  · rcases (show j < N ∨ j = N by omega) with hj | hj
    · rw [hid j hj]
      obtain ⟨_, e2, e3⟩ := WF_d hw (hdgs j hj)
      rw [hst _ (by omega)]; exact hR j hj
    · rw [hj, uF_s, hnewR]; decide
  · rcases (show j < N ∨ j = N by omega) with hj | hj
    · rw [hid j hj] at a2
      rcases (show j' < N ∨ j' = N by omega) with hj' | hj'
      · rw [hid j' hj'] at a4
        obtain ⟨q1, q2⟩ := hC j e c' j' hj a2 hj' a4
        rw [hst _ (by omega)]; exact ⟨q1, q2⟩
      · rw [hj', uF_s] at a4
        obtain ⟨j2, p1, p2⟩ := hpa j e c' hj a2
        exact absurd (p2.trans a4.symm) (hnew j2 p1)
    · rw [hj, uF_s] at a2
      rcases (show j' < N ∨ j' = N by omega) with hj' | hj'
      · rw [hid j' hj'] at a4
        obtain ⟨j2, p1, p2, p3, p4⟩ := hpar e c' a2
        have : j' = j2 := s1 j' j2 hj' p1 (a4.trans p2.symm)
        subst this
        rw [hst _ (by omega)]; exact ⟨p3, p4⟩
      · rw [hj', uF_s, a2] at a4
        have := congrArg List.length a4; simp at this
  · rcases vld_new.mp hx with hx | ⟨q1, q2⟩
    · rw [hsl x hx.1, hst x hx.1] at hor
      rw [h32o x hx.1]; exact h32 x hx hor
    · exact (h31n x q1).2
  · rcases vld_new.mp hx with hx | ⟨q1, q2⟩
    · rw [hst x hx.1] at h3; rw [hsl x hx.1] at e ⊢; exact h8 x hx e h3
    · have := hlow x q1; omega
  · have hnv : ¬ vld G N id x := fun h => hx (vld_new.mpr (Or.inl h))
    unfold stN
    by_cases q1 : x / 60 = N
    · rw [if_pos q1]
      by_cases hr : x = 60 * N + grt G (dfn G c)
      · exact absurd (vld_new.mpr (Or.inr ⟨q1, by omega⟩)) hx
      · rw [if_neg hr]
    · rw [if_neg q1]; exact hz0 x hnv
  · rcases (show j < N ∨ j = N by omega) with hj | hj
    · rw [hid j hj] at he
      obtain ⟨j', q1, q2⟩ := hpa j e c' hj he
      exact ⟨j', by omega, by rw [hid j' q1]; exact q2⟩
    · rw [hj, uF_s] at he
      obtain ⟨j', q1, q2, _⟩ := hpar e c' he
      exact ⟨j', by omega, by rw [hid j' q1]; exact q2⟩
