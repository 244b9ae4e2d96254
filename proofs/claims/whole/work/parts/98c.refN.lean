/-! 98c.refN: the reference's arrays -/
theorem r_argu {v : St} {cn q : Nat} (hcn : cn < 300) (hq : q < 6) {y p n o : Int32} (hy : y = nI q) {P : St → Prop} (k : P (sA (sA (sA v 24 (6 * cn + q) p) 25 (6 * cn + q) n) 26 (6 * cn + q) o)) : wp_X7_argument v (nI cn) y p n o P := by
  subst hy
  have e : 6 * nI cn + nI q = nI (6 * cn + q) := by show nI 6 * nI cn + _ = _; rw [pk_mul, nI_add]
  have hin : vp_in (nI (6 * cn + q)) 1800 := inN (by omega) (by decide)
  unfold wp_X7_argument
  rw [e]
  refine br_n (by simp (disch := omega) only [ln_0, ln_1, ln_2, ln_3, ln_4, ln_5, ln_6, ln_7, ln_8, ln_9, ln_10, ln_11, ln_12, ln_13, ln_14, ln_15, ln_16, ln_17, ln_18, ln_19, ln_20, ln_21, ln_22, ln_23, ln_24, ln_25, ln_26, ln_27, ln_28, ln_29, ln_30, ln_31, ln_32, ln_33, ln_34, ln_35, ln_36, ln_37, ln_38, ln_39, ln_40, ln_41, ln_42, ln_43, ln_44, ln_45, ln_46, ln_47, ln_48, ln_49, ln_50, ln_51, ln_52, ln_53, ln_54, ln_55, ln_56, ln_57, ln_58, ln_59, ln_60, ln_61, ln_62, ln_91, ln_93, ln_97, ln_122, ln_120, ln_123, ln_124, ln_255, ln_256, ln_300, ln_720, ln_1500, ln_12000, ln_18000, nI_leI, nI_ltI, nI_eq]; omega) ⟨hin, nm_i ⟨hin, nm_i ⟨hin, nm_i ?_⟩⟩⟩
  rw [ixN (by omega)]; exact k
theorem upd2a {g : Nat → Int32} {cn : Nat} {p q : Int32} : upd (upd g (6 * cn + 0) p) (6 * cn + 1) q (6 * cn + 0) = p := by rw [updE, if_neg (by omega), updE, if_pos rfl]
theorem upd2b {g : Nat → Int32} {cn : Nat} {p q : Int32} : upd (upd g (6 * cn + 0) p) (6 * cn + 1) q (6 * cn + 1) = q := by rw [updE, if_pos rfl]
theorem r_argu2 {v : St} {cn : Nat} (hcn : cn < 300) {p n2 o o2 : Int32} {P : St → Prop} (k : ∀ V, (∀ i, gI V i = gI v i) → (∀ i, i ≠ 24 → i ≠ 25 → i ≠ 26 → gA V i = gA v i) → (gA V 24 (6 * cn + 0) = -1 ∧ gA V 25 (6 * cn + 0) = p ∧ gA V 26 (6 * cn + 0) = o2) → (gA V 24 (6 * cn + 1) = -1 ∧ gA V 25 (6 * cn + 1) = n2 ∧ gA V 26 (6 * cn + 1) = o) → (∀ r, r ≠ 6 * cn → r ≠ 6 * cn + 1 → gA V 24 r = gA v 24 r ∧ gA V 25 r = gA v 25 r ∧ gA V 26 r = gA v 26 r) → P V) : wp_X7_argument v (nI cn) 0 (-1) p o2 (fun u => wp_X7_argument u (nI cn) 1 (-1) n2 o P) := by
  refine r_argu hcn (q := 0) (by decide) rfl (r_argu hcn (q := 1) (by decide) rfl (k _ (fun _ => rfl) (fun i p1 p2 p3 => by simp only [gA_sA, if_neg p1, if_neg p2, if_neg p3]) ?_ ?_ (fun r h0 h1 => ?_)))
  · exact ⟨upd2a, upd2a, upd2a⟩
  · exact ⟨upd2b, upd2b, upd2b⟩
  · show upd (upd (gA v 24) (6 * cn + 0) (-1)) (6 * cn + 1) (-1) r = _ ∧ upd (upd (gA v 25) (6 * cn + 0) p) (6 * cn + 1) n2 r = _ ∧ upd (upd (gA v 26) (6 * cn + 0) o2) (6 * cn + 1) o r = _
    rw [updE, updE, updE, updE, updE, updE, if_neg h1, if_neg h1, if_neg h1, if_neg (show r ≠ 6 * cn + 0 from h0), if_neg (show r ≠ 6 * cn + 0 from h0), if_neg (show r ≠ 6 * cn + 0 from h0)]; exact ⟨rfl, rfl, rfl⟩
/-- x is being made -/
theorem SM_mk {G : Prg} {a b : Int32} {N : Nat} {id : Nat → Cid} {st : Nat → Nat} {va : Nat → Vl} {v : St} (h : SMm G a b N id st va (fun _ => False) v) {x : Nat} (e : kdS G (slO id x) = 8) (hx1 : st x = 1) {y0 y1 : Int32} : SMm G a b N id st va (fun z => z = x) (sA (sA v 32 x y0) 31 x y1) := by
  obtain ⟨hn, hD, hV, hAr, hMa, hK, hR, hC, h32, h8, hz0, hpa⟩ := h
  have e31 : ∀ z, z ≠ x → gA (sA (sA v 32 x y0) 31 x y1) 31 z = gA v 31 z := fun z hz => by
    show upd (gA v 31) x y1 z = _; rw [updE, if_neg hz]
  have e32 : ∀ z, z ≠ x → gA (sA (sA v 32 x y0) 31 x y1) 32 z = gA v 32 z := fun z hz => by
    show upd (gA v 32) x y0 z = _; rw [updE, if_neg hz]
  refine ⟨hn, hD, fun z hz h3 => ?_, hAr, fun z hz e7 => ?_, hK, hR, fun j ec c j' a1 a2 a3 a4 => ⟨(hC j ec c j' a1 a2 a3 a4).1, fun hne => ((hC j ec c j' a1 a2 a3 a4).2 hne).imp (fun h => h) (fun h => h.elim)⟩, fun z hz hor => ?_, h8, hz0, hpa⟩
  · obtain ⟨r1, r2⟩ := hV z hz h3
    refine ⟨r1, fun o ho => ?_⟩
    obtain ⟨y, q, fc, t1, t2, t3, t4, t5, t6, t7, t8⟩ := r2 o ho
    have hyx : y ≠ x := fun ey => by have := t5.2; rw [ey] at this; omega
    exact ⟨y, q, fc, t1, t2, t3, t4, t5, by rw [e32 y hyx]; exact t6, by rw [e31 y hyx]; exact t7, t8⟩
  · have hzx : z ≠ x := fun ez => by rw [ez] at e7; omega
    rw [e31 z hzx]; exact hMa z hz e7
  · have hzx : z ≠ x := fun ez => by
      rcases hor with h | h
      · exact h (by rw [ez]; exact e)
      · exact h.2 ez
    rw [e32 z hzx]
    exact h32 z hz (hor.imp (fun h => h) (fun h => ⟨h.1, fun h => h⟩))
def MkI (G : Prg) (a b : Int32) (bk M N0 : Nat) (id0 : Nat → Cid) (x S : Nat) (st0 : Nat → Nat) (v0 : St) (va : Nat → Vl) (q k N : Nat) (id : Nat → Cid) (st : Nat → Nat) (v : St) : Prop :=
  SRm G bk M N id st v0 v ∧ SMm G a b N id st va (fun z => z = x) v ∧ (N = N0 + k ∧ x / 60 < N0 ∧ ∀ j, j < N0 → id j = id0 j) ∧ (vld G N id x ∧ st x = 1) ∧ (gA v 32 x = nI q ∧ gA v 31 x = nI N0) ∧ (∀ i, i < k → id (N0 + i) = (x % 60, i + 1) :: id0 (x / 60)) ∧ (∀ j i, j < N → k ≤ i → id j ≠ (x % 60, i + 1) :: id0 (x / 60)) ∧ sumTo st0 S ≤ sumTo st S ∧ (∀ i, i < gnk G (dfn G (id0 (x / 60))) (x % 60) → 1 ≤ st (kiO G id0 x i)) ∧ st (kiO G id0 x 0) = 3 ∧ clC (va (kiO G id0 x 0)).1 = nI q
theorem Mk_kn {G : Prg} {a b : Int32} {bk M N0 : Nat} {id0 : Nat → Cid} {x S : Nat} {st0 : Nat → Nat} {v0 : St} {va : Nat → Vl} {q k N : Nat} {id : Nat → Cid} {st : Nat → Nat} {v : St} (hw : WFp G) (h : MkI G a b bk M N0 id0 x S st0 v0 va q k N id st v) (e : kdS G (slO id0 x) = 8) (hnk : 1 ≤ gnk G (dfn G (id0 (x / 60))) (x % 60)) : kdS G (slO id x) = 8 ∧ Kn G a b (XM G N id st va) (slO id x) (nI q, some (slO id x)) ∧ Op G N id st va x ∧ Lfp G a b (slO id x, some (nI q, some (slO id x))) := by
  obtain ⟨hSR, hSM, ⟨hN0, hx0, hid0⟩, ⟨hx, hx1⟩, ⟨e32, e31⟩, hcs, hnw, hsum, hki, hk3, hcl⟩ := h
  have hid : id (x / 60) = id0 (x / 60) := hid0 _ hx0
  have hsl : slO id x = slO id0 x := by unfold slO; rw [hid]
  have ek : ∀ k, kiO G id x k = kiO G id0 x k := fun k => by unfold kiO; rw [hid]
  have hd : dfn G (id (x / 60)) < gn G := (hSR.2.2.1.2 _ hx.1).1
  obtain ⟨q1, q2, _⟩ := kiO_v hw hx hd (k := 0) (by rw [hid]; omega)
  have e8 : kdS G (slO id x) = 8 := by rw [hsl]; exact e
  have hkn : Kn G a b (XM G N id st va) (slO id x) (nI q, some (slO id x)) := by
    rw [Kn_8 e8]; exact ⟨_, XM_k q1 q2 (by rw [ek]; exact hk3), by rw [ek, hcl]⟩
  refine ⟨e8, hkn, ⟨fun k hk => ?_, fun e7 => by omega, fun e5 => by omega⟩, Lfp_step ⟨(hSM.2.1.2.2 x hx).1 (by omega), Kn_mono (fun _ => SdM_X hSM.2.1) hkn⟩⟩
  rw [if_neg (by omega), hid] at hk
  rw [ek]; exact hki k hk
theorem Mk_end {G : Prg} {a b : Int32} {bk M N0 : Nat} {id0 : Nat → Cid} {x S : Nat} {st0 : Nat → Nat} {v0 : St} {va : Nat → Vl} {q N : Nat} {id : Nat → Cid} {st : Nat → Nat} {v : St} (hw : WFp G) (hS : S = 18000) (hq : q ≤ 40) (h : MkI G a b bk M N0 id0 x S st0 v0 va q q N id st v) (e : kdS G (slO id0 x) = 8) (hnk : 1 ≤ gnk G (dfn G (id0 (x / 60))) (x % 60)) {P : St → Prop} (ky : ∀ V, WkY G a b bk M N0 id0 S st0 v0 V → P V) : wp_X7_workMake_152 v (nI x) P := by
  obtain ⟨e8, hkn, hop, hL⟩ := Mk_kn hw h e hnk
  obtain ⟨hSR, hSM, ⟨hN0, hx0, hid0⟩, ⟨hx, hx1⟩, ⟨e32, e31⟩, hcs, hnw, hsum, hki, hk3, hcl⟩ := h
  have hNM := hSR.2.2.1.1
  have hlt := vld_lt hx (by omega)
  have hid : id (x / 60) = id0 (x / 60) := hid0 _ hx0
  unfold wp_X7_workMake_152
  refine r_know hSR hx rfl (fun V hV eI e18 eA e29 e30 => ky V ⟨N, id, uF st x 3, uF va x (nI q, some (slO id x)), hV, ?_, by omega, hid0, e18, ?_⟩) (by omega)
  · refine Rm_know hSM hx hx1 hL hkn hop (fun z hz => Or.inr hz) (fun z hz => hz.elim) (fun _ => rfl) (eI 17 (by decide)) eA (fun z hz => ?_) ⟨(fun hn => by cases hn), fun o ho => ?_⟩
    · rw [e29, e30, updE, updE, if_neg hz, if_neg hz]; exact ⟨rfl, rfl⟩
    · cases ho
      refine ⟨x, q, N0, hx, rfl, by rw [e30, updE, if_pos rfl], rfl, ⟨hq, Or.inr rfl⟩, e32, e31, by omega, fun k hk => ⟨by omega, ?_⟩⟩
      rw [hcs k hk, ← hid]; rfl
  · have := sumTo_s (f := st) (x := x) (v := 3) S (by omega)
    omega
