/-! 95.refS: the reference's slots -/
def FRv (v0 v : St) : Prop := (gI v 1 = gI v0 1 ∧ gI v 0 = gI v0 0) ∧ gI v 2 = gI v0 2 ∧ gI v 3 = gI v0 3 ∧ ∀ k, k ≤ 14 → gA v k = gA v0 k
def MPv (G : Prg) (b : Nat) (v : St) : Prop := gI v 2 = nI b ∧ MP G b (gI v 3) (gA v 2) (gA v 3) (gA v 4) (gA v 5) (gA v 6) (gA v 7) (gA v 8) (gA v 9) (gA v 10) (gA v 11) (gA v 14)
theorem MPv_fr {G : Prg} {b : Nat} {v0 v : St} (h : MPv G b v0) (hF : FRv v0 v) : MPv G b v := by
  unfold MPv at h ⊢
  obtain ⟨f1, f2, f3, f4⟩ := hF
  rw [f2, f3, f4 2 (by decide), f4 3 (by decide), f4 4 (by decide), f4 5 (by decide), f4 6 (by decide), f4 7 (by decide), f4 8 (by decide), f4 9 (by decide), f4 10 (by decide), f4 11 (by decide), f4 14 (by decide)]; exact h
/-- an argument of call j, as the reference keeps it -/
def ArJ (G : Prg) (a b : Int32) (N : Nat) (id : Nat → Cid) (v : St) (j q : Nat) : Prop := match id j with
  | [] => gA v 24 (6 * j + q) = -1 ∧ gA v 25 (6 * j + q) = (if q = 0 then a else if q = 1 then b else 0) ∧ gA v 26 (6 * j + q) = -1
  | e :: c => ∃ j', j' < N ∧ id j' = c ∧ e.1 < gnp G (dfn G c) ∧
    ((e.2 = 0 ∧ gkd G (dfn G c) e.1 = 7 ∧ gA v 24 (6 * j + q) = nI (60 * j' + gkid G (dfn G c) e.1 q)) ∨
     (e.2 ≠ 0 ∧ e.2 ≤ 40 ∧ gkd G (dfn G c) e.1 = 8 ∧ (q = 0 → gA v 24 (6 * j + q) = -1 ∧ gA v 25 (6 * j + q) = nI (e.2 - 1) ∧ gA v 26 (6 * j + q) = -1) ∧ (q = 1 → gA v 24 (6 * j + q) = -1 ∧ gA v 26 (6 * j + q) = nI (60 * j' + e.1)) ∧ (2 ≤ q → gA v 24 (6 * j + q) = nI (60 * j' + gkid G (dfn G c) e.1 (q - 1)))))
def CaM (G : Prg) (M N : Nat) (id : Nat → Cid) (v : St) : Prop := (gI v 15 = nI N ∧ gI v 16 = nI M ∧ N ≤ M ∧ M ≤ 300) ∧ ∀ j, j < N → dfn G (id j) < gn G ∧ gA v 23 j = nI (dfn G (id j))
/-- the arguments of the first L calls stand -/
def ArM (G : Prg) (a b : Int32) (N : Nat) (id : Nat → Cid) (L : Nat) (v : St) : Prop := ∀ j, j < L → ∀ q, q < gar G (dfn G (id j)) → ArJ G a b N id v j q
def SlM (G : Prg) (N : Nat) (id : Nat → Cid) (st : Nat → Nat) (v : St) : Prop := ∀ x, vld G N id x → (st x = 0 ∨ st x = 1 ∨ st x = 3) ∧ gA v 27 x = (if st x = 0 then 0 else 1) ∧ gA v 28 x = (if st x = 3 then 1 else 0)
/-- values; the cells of an array -/
def VaM (G : Prg) (N : Nat) (id : Nat → Cid) (st : Nat → Nat) (va : Nat → Vl) (v : St) : Prop := ∀ x, vld G N id x → st x = 3 → ((va x).2 = none → gA v 30 x = -1 ∧ gA v 29 x = (va x).1) ∧ ∀ o, (va x).2 = some o → ∃ y q fc, vld G N id y ∧ slO id y = o ∧ gA v 30 x = nI y ∧ (va x).1 = nI q ∧ (q ≤ 40 ∧ st y = 3) ∧ gA v 32 y = nI q ∧ gA v 31 y = nI fc ∧ fc ≤ 300 ∧ ∀ k, k < q → fc + k < N ∧ id (fc + k) = (o.2, k + 1) :: o.1
/-- addresses -/
theorem r_ix {G : Prg} {bk M N : Nat} {id : Nat → Cid} {v : St} (hw : WFp G) (hP : MPv G bk v) (hJ : CaM G M N id v) {j : Nat} (hj : j < N) : 12 * gI v 2 + gA v 23 j = nI (12 * bk + dfn G (id j)) := by
  rw [hP.1, (hJ.2 j hj).2]; show nI 12 * nI bk + _ = _; rw [pk_mul, nI_add]
theorem r_part {G : Prg} {bk M N : Nat} {id : Nat → Cid} {v : St} (hw : WFp G) (hP : MPv G bk v) (hJ : CaM G M N id v) {x : Nat} (hx : vld G N id x) {P : Int32 → St → Prop} (k : P (nI (60 * (12 * bk + dfn G (id (x / 60))) + x % 60)) v) : wp_X7_partOf v (nI x) P := by
  have h300 : N ≤ 300 := by have := hJ.1; omega
  have hlt := vld_lt hx h300
  have hx1 := hx.1
  unfold wp_X7_partOf
  rw [pk_d6 (by omega)]
  refine ⟨inN (by omega) (by decide), ?_⟩
  rw [ixN (by omega), r_ix hw hP hJ hx1]
  have e : 60 * nI (12 * bk + dfn G (id (x / 60))) + (nI x - nI (x / 60) * 60) = nI (60 * (12 * bk + dfn G (id (x / 60))) + x % 60) := by
    have h1 : nI x - nI (x / 60) * 60 = nI (x % 60) := by rw [← pk_d6 (by omega)]; exact pk_m6 (by omega)
    rw [h1]; show nI 60 * _ + _ = _; rw [pk_mul, nI_add]
  rw [e]; exact k
theorem r_here {x p c : Nat} {v : St} (hx : x < 18000) (hp : p < 60) (hc : c < 24) {y : Int32} (hy : y = nI (60 * c + p)) {P : Int32 → St → Prop} (k : P (nI (60 * (x / 60) + p)) v) : wp_X7_here v (nI x) y P := by
  subst hy
  unfold wp_X7_here
  have e : nI x / 60 * 60 + (nI (60 * c + p) - nI (60 * c + p) / 60 * 60) = nI (60 * (x / 60) + p) := by
    rw [pk_d6 (by omega), pk_m6 (by omega)]
    show nI _ * nI 60 + _ = _
    rw [pk_mul, nI_add]; congr 1; omega
  rw [e]; exact k
theorem r_root {G : Prg} {bk M N : Nat} {id : Nat → Cid} {v : St} (hw : WFp G) (hP : MPv G bk v) (hJ : CaM G M N id v) {j : Nat} (hj : j < N) {y : Int32} (hy : y = nI j) {P : Int32 → St → Prop} (k : P (nI (60 * j + grt G (dfn G (id j)))) v) : wp_X7_rootOf v y P := by
  subst hy
  have h300 : N ≤ 300 := by have := hJ.1; omega
  have hd := (hJ.2 j hj).1
  obtain ⟨d1, d2, d3⟩ := WF_d hw hd
  have hb1 : bk ≤ 1 := hP.2.1
  refine ⟨inN (by omega) (by decide), ?_⟩
  rw [ixN (by omega), r_ix hw hP hJ hj]
  refine ⟨inN (by omega) (by decide), ?_⟩
  rw [ixN (by omega), (hP.2.2.2 _ hd).2.2.1, pk_m6 (by omega), show (60 * (12 * bk + dfn G (id j)) + grt G (dfn G (id j))) % 60 = grt G (dfn G (id j)) by omega]
  have e : 60 * nI j + nI (grt G (dfn G (id j))) = nI (60 * j + grt G (dfn G (id j))) := by show nI 60 * nI j + _ = _; rw [pk_mul, nI_add]
  rw [e]; exact k
/-- the structural part of the reference's state -/
def SRm (G : Prg) (bk M N : Nat) (id : Nat → Cid) (st : Nat → Nat) (v0 v : St) : Prop := FRv v0 v ∧ MPv G bk v ∧ CaM G M N id v ∧ SlM G N id st v
theorem r_reach {G : Prg} {bk M N : Nat} {id : Nat → Cid} {st : Nat → Nat} {v0 v : St} (h : SRm G bk M N id st v0 v) {x : Nat} (hx : vld G N id x) {y : Int32} (hy : y = nI x) {P : St → Prop} (kn : 1 ≤ st x → P v) (k : st x = 0 → ∀ V, SRm G bk M N id (uF st x 1) v0 V → (∀ i, i ≠ 18 → gI V i = gI v i) → gI V 18 = 1 → (∀ i, i ≠ 27 → gA V i = gA v i) → P V) : wp_X7_reach v y P := by
  subst hy
  obtain ⟨hF, hP, hJ, hS⟩ := h
  have h300 : N ≤ 300 := by have := hJ.1; omega
  have hlt := vld_lt hx h300
  have hin : vp_in (nI x) 18000 := inN hlt (by decide)
  obtain ⟨s0, s1, s2⟩ := hS x hx
  refine ⟨hin, ?_⟩
  rw [ixN (by omega), s1]
  refine br_b (fun c => ⟨hin, nm_i (nm_i ?_)⟩) (fun c => kn ?_)
  · have h0 : st x = 0 := by
      by_cases e : st x = 0
      · exact e
      · rw [if_neg e] at c; exact absurd c (by decide)
    refine k h0 _ ⟨?_, ?_, ?_, fun z hz => ?_⟩ (fun i hi => by rw [gI_sI, if_neg hi]; rfl) rfl (fun i hi => by rw [gA_sI, gA_sA, if_neg hi])
    · exact ⟨hF.1, hF.2.1, hF.2.2.1, fun k hk => by rw [gA_sI, gA_sA, if_neg (by omega)]; exact hF.2.2.2 k hk⟩
    · exact hP
    · exact hJ
    · obtain ⟨z0, z1, z2⟩ := hS z hz
      show _ ∧ upd (gA v 27) x (vp_nar .boolean 1) z = _ ∧ gA v 28 z = _
      rw [updE]
      by_cases e : z = x
      · rw [e, uF_s, if_pos rfl]
        refine ⟨Or.inr (Or.inl rfl), rfl, ?_⟩
        rw [s2, if_neg (by omega)]; rfl
      · rw [uF_o e, if_neg e]; exact ⟨z0, z1, z2⟩
  · by_cases e : st x = 0
    · rw [if_pos e] at c; exact absurd rfl c
    · omega
theorem r_know {G : Prg} {bk M N : Nat} {id : Nat → Cid} {st : Nat → Nat} {v0 v : St} (h : SRm G bk M N id st v0 v) {x : Nat} (hx : vld G N id x) {y n q : Int32} (hy : y = nI x) {P : St → Prop} (k : ∀ V, SRm G bk M N id (uF st x 3) v0 V → (∀ i, i ≠ 18 → gI V i = gI v i) → gI V 18 = 1 → (∀ i, i ≠ 28 → i ≠ 29 → i ≠ 30 → gA V i = gA v i) → gA V 29 = upd (gA v 29) x n → gA V 30 = upd (gA v 30) x q → P V) (h1 : 1 ≤ st x) : wp_X7_know v y n q P := by
  subst hy
  obtain ⟨hF, hP, hJ, hS⟩ := h
  have h300 : N ≤ 300 := by have := hJ.1; omega
  have hlt := vld_lt hx h300
  have hin : vp_in (nI x) 18000 := inN hlt (by decide)
  refine ⟨hin, nm_i ⟨hin, nm_i ⟨hin, nm_i (nm_i ?_)⟩⟩⟩
  rw [ixN (by omega)]
  refine k _ ⟨?_, ?_, ?_, fun z hz => ?_⟩ (fun i hi => by rw [gI_sI, if_neg hi]; rfl) rfl (fun i a c d => by rw [gA_sI, gA_sA, if_neg d, gA_sA, if_neg c, gA_sA, if_neg a]) rfl rfl
  · exact ⟨hF.1, hF.2.1, hF.2.2.1, fun k hk => by rw [gA_sI, gA_sA, if_neg (by omega), gA_sA, if_neg (by omega), gA_sA, if_neg (by omega)]; exact hF.2.2.2 k hk⟩
  · exact hP
  · exact hJ
  · obtain ⟨z0, z1, z2⟩ := hS z hz
    show _ ∧ gA v 27 z = _ ∧ upd (gA v 28) x (vp_nar .boolean 1) z = _
    rw [updE]
    by_cases e : z = x
    · rw [e, uF_s, if_pos rfl]
      obtain ⟨s0, s1, s2⟩ := hS x hx
      refine ⟨Or.inr (Or.inr rfl), ?_, rfl⟩
      rw [s1, if_neg (by omega)]; rfl
    · rw [uF_o e, if_neg e]; exact ⟨z0, z1, z2⟩
/-- a row of arguments is emptied -/
theorem r_args {P : Int32 → St → Prop} {c : Nat} (hc : c < 300) : ∀ (f q : Nat) (v : St), q + f = 6 → (∀ V, (∀ i, gI V i = gI v i) → (∀ i, i ≠ 24 → i ≠ 25 → i ≠ 26 → gA V i = gA v i) → (∀ r, (6 * c + q ≤ r ∧ r < 6 * c + 6 → gA V 24 r = -1 ∧ gA V 25 r = 0 ∧ gA V 26 r = -1) ∧ (¬ (6 * c + q ≤ r ∧ r < 6 * c + 6) → gA V 24 r = gA v 24 r ∧ gA V 25 r = gA v 25 r ∧ gA V 26 r = gA v 26 r)) → nm (60 * nI c) (fun v7 : Int32 => ∃ n, wp_X7_call_68 P n V (nI c) v7)) → wp_X7_call_42 P (f + 1) v (nI c) (nI q)
  | 0, q, v, hq, k => br_p (by simp (disch := omega) only [ln_0, ln_1, ln_2, ln_3, ln_4, ln_5, ln_6, ln_7, ln_8, ln_9, ln_10, ln_11, ln_12, ln_13, ln_14, ln_15, ln_16, ln_17, ln_18, ln_19, ln_20, ln_21, ln_22, ln_23, ln_24, ln_25, ln_26, ln_27, ln_28, ln_29, ln_30, ln_31, ln_32, ln_33, ln_34, ln_35, ln_36, ln_37, ln_38, ln_39, ln_40, ln_41, ln_42, ln_43, ln_44, ln_45, ln_46, ln_47, ln_48, ln_49, ln_50, ln_51, ln_52, ln_53, ln_54, ln_55, ln_56, ln_57, ln_58, ln_59, ln_60, ln_61, ln_62, ln_91, ln_93, ln_97, ln_122, ln_120, ln_123, ln_124, ln_255, ln_256, ln_300, ln_720, ln_1500, ln_12000, ln_18000, nI_leI, nI_ltI, nI_eq]; omega) (k v (fun _ => rfl) (fun _ _ _ _ => rfl) (fun r => ⟨fun h => by omega, fun _ => ⟨rfl, rfl, rfl⟩⟩))
  | f + 1, q, v, hq, k => by
    have e : 6 * nI c + nI q = nI (6 * c + q) := by show nI 6 * nI c + _ = _; rw [pk_mul, nI_add]
    have hin : vp_in (nI (6 * c + q)) 1800 := inN (by omega) (by decide)
    refine br_n (by simp (disch := omega) only [ln_0, ln_1, ln_2, ln_3, ln_4, ln_5, ln_6, ln_7, ln_8, ln_9, ln_10, ln_11, ln_12, ln_13, ln_14, ln_15, ln_16, ln_17, ln_18, ln_19, ln_20, ln_21, ln_22, ln_23, ln_24, ln_25, ln_26, ln_27, ln_28, ln_29, ln_30, ln_31, ln_32, ln_33, ln_34, ln_35, ln_36, ln_37, ln_38, ln_39, ln_40, ln_41, ln_42, ln_43, ln_44, ln_45, ln_46, ln_47, ln_48, ln_49, ln_50, ln_51, ln_52, ln_53, ln_54, ln_55, ln_56, ln_57, ln_58, ln_59, ln_60, ln_61, ln_62, ln_91, ln_93, ln_97, ln_122, ln_120, ln_123, ln_124, ln_255, ln_256, ln_300, ln_720, ln_1500, ln_12000, ln_18000, nI_leI, nI_ltI, nI_eq]; omega) (br_n (by simp (disch := omega) only [ln_0, ln_1, ln_2, ln_3, ln_4, ln_5, ln_6, ln_7, ln_8, ln_9, ln_10, ln_11, ln_12, ln_13, ln_14, ln_15, ln_16, ln_17, ln_18, ln_19, ln_20, ln_21, ln_22, ln_23, ln_24, ln_25, ln_26, ln_27, ln_28, ln_29, ln_30, ln_31, ln_32, ln_33, ln_34, ln_35, ln_36, ln_37, ln_38, ln_39, ln_40, ln_41, ln_42, ln_43, ln_44, ln_45, ln_46, ln_47, ln_48, ln_49, ln_50, ln_51, ln_52, ln_53, ln_54, ln_55, ln_56, ln_57, ln_58, ln_59, ln_60, ln_61, ln_62, ln_91, ln_93, ln_97, ln_122, ln_120, ln_123, ln_124, ln_255, ln_256, ln_300, ln_720, ln_1500, ln_12000, ln_18000, nI_leI, nI_ltI, nI_eq]; omega) ?_)
    rw [e]
    refine ⟨hin, nm_i ⟨hin, nm_i ⟨hin, nm_i (nm_i ?_)⟩⟩⟩
    rw [ixN (by omega), nI_1]
    refine r_args hc f (q + 1) _ (by omega) (fun V h1 h2 h3 => k V (fun i => h1 i) (fun i a c d => by rw [h2 i a c d, gA_sA, if_neg d, gA_sA, if_neg c, gA_sA, if_neg a]) (fun r => ⟨fun h => ?_, fun h => ?_⟩))
    · by_cases e : r = 6 * c + q
      · obtain ⟨q1, q2, q3⟩ := (h3 r).2 (by omega)
        rw [q1, q2, q3, e]
        show upd (gA v 24) (6 * c + q) (-1) (6 * c + q) = _ ∧ upd (gA v 25) (6 * c + q) 0 (6 * c + q) = _ ∧ upd (gA v 26) (6 * c + q) (-1) (6 * c + q) = _
        rw [updE, updE, updE, if_pos rfl, if_pos rfl, if_pos rfl]; exact ⟨rfl, rfl, rfl⟩
      · exact (h3 r).1 (by omega)
    · obtain ⟨q1, q2, q3⟩ := (h3 r).2 (by omega)
      rw [q1, q2, q3]
      show upd (gA v 24) (6 * c + q) (-1) r = _ ∧ upd (gA v 25) (6 * c + q) 0 r = _ ∧ upd (gA v 26) (6 * c + q) (-1) r = _
      rw [updE, updE, updE, if_neg (by omega), if_neg (by omega), if_neg (by omega)]; exact ⟨rfl, rfl, rfl⟩
theorem r_clear {P : Int32 → St → Prop} {c : Nat} (hc : c < 300) : ∀ (f i : Nat) (v : St), i + f = 60 * c + 60 → 60 * c ≤ i → (∀ V, (∀ j, gI V j = gI v j) → (∀ j, j ≠ 27 → j ≠ 28 → j ≠ 31 → j ≠ 32 → gA V j = gA v j) → (∀ z, (i ≤ z ∧ z < 60 * c + 60 → gA V 27 z = 0 ∧ gA V 28 z = 0 ∧ gA V 31 z = -1 ∧ gA V 32 z = 0) ∧ (¬ (i ≤ z ∧ z < 60 * c + 60) → gA V 27 z = gA v 27 z ∧ gA V 28 z = gA v 28 z ∧ gA V 31 z = gA v 31 z ∧ gA V 32 z = gA v 32 z)) → wp_X7_rootOf V (nI c) (fun (r12 : Int32) (u11 : St) => wp_X7_reach u11 r12 (fun (u13 : St) => P (nI c) u13))) → wp_X7_call_68 P (f + 1) v (nI c) (nI i)
  | 0, i, v, hi, hlo, k => by
    refine br_p ?_ (k v (fun _ => rfl) (fun _ _ _ _ _ => rfl) (fun z => ⟨fun h => by omega, fun _ => ⟨rfl, rfl, rfl, rfl⟩⟩))
    have e : 60 * nI c + 60 = nI (60 * c + 60) := by show nI 60 * nI c + nI 60 = _; rw [pk_mul, nI_add]
    rw [e]; simp (disch := omega) only [nI_leI, nI_ltI, nI_eq]; omega
  | f + 1, i, v, hi, hlo, k => by
    have e : 60 * nI c + 60 = nI (60 * c + 60) := by show nI 60 * nI c + nI 60 = _; rw [pk_mul, nI_add]
    have hin : vp_in (nI i) 18000 := inN (by omega) (by decide)
    refine br_n (by rw [e]; simp (disch := omega) only [nI_leI, nI_ltI, nI_eq]; omega) ⟨hin, nm_i ⟨hin, nm_i ⟨hin, nm_i ⟨hin, nm_i (nm_i ?_)⟩⟩⟩⟩
    rw [ixN (by omega), nI_1]
    refine r_clear hc f (i + 1) _ (by omega) (by omega) (fun V h1 h2 h3 => k V (fun j => h1 j) (fun j a c d e => by rw [h2 j a c d e, gA_sA, if_neg e, gA_sA, if_neg d, gA_sA, if_neg c, gA_sA, if_neg a]) (fun z => ⟨fun h => ?_, fun h => ?_⟩))
    · by_cases e : z = i
      · obtain ⟨q1, q2, q3, q4⟩ := (h3 z).2 (by omega)
        rw [q1, q2, q3, q4, e]
        show upd (gA v 27) i (vp_nar .boolean 0) i = _ ∧ upd (gA v 28) i (vp_nar .boolean 0) i = _ ∧ upd (gA v 31) i (-1) i = _ ∧ upd (gA v 32) i 0 i = _
        rw [updE, updE, updE, updE, if_pos rfl, if_pos rfl, if_pos rfl, if_pos rfl]; exact ⟨rfl, rfl, rfl, rfl⟩
      · exact (h3 z).1 (by omega)
    · obtain ⟨q1, q2, q3, q4⟩ := (h3 z).2 (by omega)
      rw [q1, q2, q3, q4]
      show upd (gA v 27) i _ z = _ ∧ upd (gA v 28) i _ z = _ ∧ upd (gA v 31) i (-1) z = _ ∧ upd (gA v 32) i 0 z = _
      rw [updE, updE, updE, updE, if_neg (by omega), if_neg (by omega), if_neg (by omega), if_neg (by omega)]; exact ⟨rfl, rfl, rfl, rfl⟩
/-- a call begun -/
theorem r_call {G : Prg} {bk M N : Nat} {id : Nat → Cid} {st : Nat → Nat} {v0 v : St} (hw : WFp G) (h : SRm G bk M N id st v0 v) {c : Cid} (hdg : dfn G c < gn G) {x : Int32} (hx : x = nI (dfn G c)) {P : Int32 → St → Prop}
    (ky : N < M → ∀ V, SRm G bk M (N + 1) (uF id N c) (stN st N (60 * N + grt G (dfn G c))) v0 V → (∀ i, i ≠ 15 → i ≠ 18 → gI V i = gI v i) → gI V 18 = 1 → gA V 29 = gA v 29 → gA V 30 = gA v 30 → (∀ z, (z / 60 = N → gA V 31 z = -1 ∧ gA V 32 z = 0) ∧ (z / 60 ≠ N → gA V 31 z = gA v 31 z ∧ gA V 32 z = gA v 32 z)) → (∀ r, (r / 6 = N → gA V 24 r = -1 ∧ gA V 25 r = 0 ∧ gA V 26 r = -1) ∧ (r / 6 ≠ N → gA V 24 r = gA v 24 r ∧ gA V 25 r = gA v 25 r ∧ gA V 26 r = gA v 26 r)) → P (nI N) V)
    (kn : N = M → P (-1) (sI v 17 1)) : wp_X7_call v x P := by
  subst hx
  obtain ⟨hF, hP, ⟨⟨j15, j16, jle, jM⟩, hJ⟩, hS⟩ := h
  obtain ⟨d1, d2, d3⟩ := WF_d hw hdg
  refine br_b (fun cN => nm_i (kn ?_)) (fun cN => nm_i (nm_i ?_))
  · rw [j15, j16] at cN; simp (disch := omega) only [nI_leI, nI_ltI, nI_eq] at cN; exact cN
  · rw [j15, j16] at cN; simp (disch := omega) only [nI_leI, nI_ltI, nI_eq] at cN
    rw [j15]
    refine ⟨inN (by omega) (by decide), nm_i ?_⟩
    rw [ixN (by omega)]
    generalize hv4 : sA (sI v 15 (nI N + 1)) 23 N (nI (dfn G c)) = v4
    have e4I : ∀ i, i ≠ 15 → gI v4 i = gI v i := fun i hi => by rw [← hv4]; simp only [gI_sA, gI_sI, if_neg hi]
    have e415 : gI v4 15 = nI (N + 1) := by rw [← hv4]; show nI N + 1 = _; rw [nI_1]
    have e4A : ∀ i, i ≠ 23 → gA v4 i = gA v i := fun i hi => by rw [← hv4]; simp only [gA_sA, gA_sI, if_neg hi]
    have e423 : gA v4 23 = upd (gA v 23) N (nI (dfn G c)) := by rw [← hv4]; rfl
    refine ⟨7, r_args (c := N) (by omega) 6 0 v4 rfl (fun V5 a1 a2 a3 => nm_i ?_)⟩
    have e60 : 60 * nI N = nI (60 * N) := by show nI 60 * nI N = _; rw [pk_mul]
    rw [e60]
    refine ⟨61, r_clear (c := N) (by omega) 60 (60 * N) V5 rfl (Nat.le_refl _) (fun V b1 b2 b3 => ?_)⟩
    have eI : ∀ i, i ≠ 15 → gI V i = gI v i := fun i hi => by rw [b1, a1, e4I i hi]
    have e15 : gI V 15 = nI (N + 1) := by rw [b1, a1, e415]
    have eA : ∀ i, i ≠ 23 → i ≠ 24 → i ≠ 25 → i ≠ 26 → i ≠ 27 → i ≠ 28 → i ≠ 31 → i ≠ 32 → gA V i = gA v i := fun i p1 p2 p3 p4 p5 p6 p7 p8 => by rw [b2 i p5 p6 p7 p8, a2 i p2 p3 p4, e4A i p1]
    have e23 : gA V 23 = upd (gA v 23) N (nI (dfn G c)) := by rw [b2 23 (by decide) (by decide) (by decide) (by decide), a2 23 (by decide) (by decide) (by decide), e423]
    have hSR : SRm G bk M (N + 1) (uF id N c) (fun x => if x / 60 = N then 0 else st x) v0 V := by
      have hF' : FRv v0 V := ⟨by rw [eI 1 (by decide), eI 0 (by decide)]; exact hF.1, by rw [eI 2 (by decide)]; exact hF.2.1, by rw [eI 3 (by decide)]; exact hF.2.2.1, fun k hk => by rw [eA k (by omega) (by omega) (by omega) (by omega) (by omega) (by omega) (by omega) (by omega)]; exact hF.2.2.2 k hk⟩
      refine ⟨hF', ?_, ⟨⟨e15, by rw [eI 16 (by decide)]; exact j16, by omega, jM⟩, fun j hj => ?_⟩, fun z hz => ?_⟩
      · unfold MPv at hP ⊢
        rw [eI 2 (by decide), eI 3 (by decide)]
        simp (disch := decide) only [eA]
        exact hP
      · rw [e23, updE]
        by_cases hjn : j = N
        · rw [hjn, uF_s, if_pos rfl]; exact ⟨hdg, rfl⟩
        · rw [uF_o hjn, if_neg hjn]; exact hJ j (by omega)
      · show ((if z / 60 = N then 0 else st z) = 0 ∨ (if z / 60 = N then 0 else st z) = 1 ∨ (if z / 60 = N then 0 else st z) = 3) ∧ gA V 27 z = (if (if z / 60 = N then 0 else st z) = 0 then 0 else 1) ∧ gA V 28 z = (if (if z / 60 = N then 0 else st z) = 3 then 1 else 0)
        rcases vld_new.mp hz with hz | ⟨h1, h2⟩
        · have hz1 := hz.1
          obtain ⟨q1, q2, _, _⟩ := (b3 z).2 (by omega)
          rw [if_neg (by omega), q1, q2, a2 27 (by decide) (by decide) (by decide), a2 28 (by decide) (by decide) (by decide), e4A 27 (by decide), e4A 28 (by decide)]
          exact hS z hz
        · obtain ⟨q1, q2, _, _⟩ := (b3 z).1 (by omega)
          rw [if_pos h1, q1, q2]; exact ⟨Or.inl rfl, rfl, rfl⟩
    have hvr : vld G (N + 1) (uF id N c) (60 * N + grt G (dfn G c)) := vld_new.mpr (Or.inr (by omega))
    refine r_root hw hSR.2.1 hSR.2.2.1 (show N < N + 1 by omega) rfl ?_
    rw [uF_s]
    refine r_reach hSR hvr rfl (fun h1 => ?_) (fun _ U hU uI u18 uA => ky (by omega) U ?_ (fun i p1 p2 => by rw [uI i p2, eI i p1]) u18 ?_ ?_ (fun z => ⟨fun hz => ?_, fun hz => ?_⟩) (fun r => ⟨fun hr => ?_, fun hr => ?_⟩))
    · have h1 : 1 ≤ (if (60 * N + grt G (dfn G c)) / 60 = N then 0 else _) := h1
      rw [if_pos (by omega)] at h1; omega
    · have e : uF (fun x => if x / 60 = N then 0 else st x) (60 * N + grt G (dfn G c)) 1 = stN st N (60 * N + grt G (dfn G c)) := by
        funext z
        unfold uF stN
        by_cases hz : z = 60 * N + grt G (dfn G c)
        · rw [if_pos hz, if_pos (by omega), if_pos hz]
        · rw [if_neg hz]
          by_cases hz2 : z / 60 = N
          · show (if z / 60 = N then 0 else st z) = _
            rw [if_pos hz2, if_pos hz2, if_neg hz]
          · show (if z / 60 = N then 0 else st z) = _
            rw [if_neg hz2, if_neg hz2]
      rw [← e]; exact hU
    · rw [uA 29 (by decide), eA 29 (by decide) (by decide) (by decide) (by decide) (by decide) (by decide) (by decide) (by decide)]
    · rw [uA 30 (by decide), eA 30 (by decide) (by decide) (by decide) (by decide) (by decide) (by decide) (by decide) (by decide)]
    · rw [uA 31 (by decide), uA 32 (by decide)]
      exact ((b3 z).1 (by omega)).2.2
    · rw [uA 31 (by decide), uA 32 (by decide)]
      obtain ⟨_, _, q3, q4⟩ := (b3 z).2 (by omega)
      rw [q3, q4, a2 31 (by decide) (by decide) (by decide), a2 32 (by decide) (by decide) (by decide), e4A 31 (by decide), e4A 32 (by decide)]; exact ⟨rfl, rfl⟩
    · rw [uA 24 (by decide), uA 25 (by decide), uA 26 (by decide), b2 24 (by decide) (by decide) (by decide) (by decide), b2 25 (by decide) (by decide) (by decide) (by decide), b2 26 (by decide) (by decide) (by decide) (by decide)]
      exact (a3 r).1 (by omega)
    · rw [uA 24 (by decide), uA 25 (by decide), uA 26 (by decide), b2 24 (by decide) (by decide) (by decide) (by decide), b2 25 (by decide) (by decide) (by decide) (by decide), b2 26 (by decide) (by decide) (by decide) (by decide)]
      obtain ⟨q1, q2, q3⟩ := (a3 r).2 (by omega)
      rw [q1, q2, q3, e4A 24 (by decide), e4A 25 (by decide), e4A 26 (by decide)]; exact ⟨rfl, rfl, rfl⟩
