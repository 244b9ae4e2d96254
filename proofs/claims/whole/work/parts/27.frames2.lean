/-! 27.frames2: the contracts of the methods that may throw; read, which exchanges the two programs -/
theorem cx_le {X : XX} {cc : ByteArray} {own : String} {fr lo fr2 lo2 : Nat} (C : Cx X cc own fr lo) (h1 : fr2 ≤ fr) (h2 : lo2 ≤ lo) : Cx X cc own fr2 lo2 := by
  obtain ⟨p, l, e, R, s, m, args, below, meth, c, Q, D, tys, A, nL, sg⟩ := X
  obtain ⟨hx, hb, hml, hown, hts, hgd, hR, hK, hSG⟩ := C
  exact ⟨hx, hb, hml, hown, hts, hgd, ⟨Nat.le_trans h1 hR.1, Nat.le_trans h2 hR.2⟩, hK, hSG⟩
theorem c_X6_feed {l : Launch} (hl : l.stackTraces = false) {D : va_G} {A : Nat → Prop} {ad : Nat → Nat} {cs : Nat → ClassId} (hD : ∀ u : St, va_D A (wC ad cs u)) (u : St) (x1 : Int32) (x2 : Int32) (x3 : Int32) (x4 : Int32) (x5 : Int32) (post : Int32 → St → Prop) (px : String → St → Prop) (hw : wp_X6_feed u x1 x2 x3 x4 x5 post px) : MT (ad 90, ad 91) l yX6_feed cX6_feed 8 (some .int) (rmt 6 81) D (tysC cs) A (wC ad cs) u [.ref (ad 0), .int x1, .int x2, .int x3, .int x4, .int x5] post px :=
  met_t (by decide) rfl (Nat.le_of_ble_eq_true rfl) hl (by decide) (by decide) (fun X C _ _ ht hA hn hsg hR hT => z_X6_feed ⟨cx_le C (by decide) (by decide), ht, fun u => by rw [hA]; exact hD u, hsg⟩ hn hR hT u x1 x2 x3 x4 x5 hw)
theorem c_X6_run {l : Launch} (hl : l.stackTraces = false) {D : va_G} {A : Nat → Prop} {ad : Nat → Nat} {cs : Nat → ClassId} (hD : ∀ u : St, va_D A (wC ad cs u)) (u : St) (x1 : Int32) (x2 : Int32) (x3 : Int32) (x4 : Int32) (post : Int32 → St → Prop) (px : String → St → Prop) (hw : wp_X6_run u x1 x2 x3 x4 post px) : MT (ad 90, ad 91) l yX6_run cX6_run 6 (some .int) (rmt 6 136) D (tysC cs) A (wC ad cs) u [.ref (ad 0), .int x1, .int x2, .int x3, .int x4] post px :=
  met_t (by decide) rfl (Nat.le_of_ble_eq_true rfl) hl (by decide) (by decide) (fun X C _ _ ht hA hn hsg hR hT => z_X6_run ⟨cx_le C (by decide) (by decide), ht, fun u => by rw [hA]; exact hD u, hsg⟩ hn hR hT u x1 x2 x3 x4 hw)
theorem c_X6_count {l : Launch} (hl : l.stackTraces = false) {D : va_G} {A : Nat → Prop} {ad : Nat → Nat} {cs : Nat → ClassId} (hD : ∀ u : St, va_D A (wC ad cs u)) (u : St) (x1 : Int32) (post : Int32 → St → Prop) (px : String → St → Prop) (hw : wp_X6_count u x1 post px) : MT (ad 90, ad 91) l yX6_count cX6_count 2 (some .int) (rmt 6 81) D (tysC cs) A (wC ad cs) u [.ref (ad 0), .int x1] post px :=
  met_t (by decide) rfl (Nat.le_of_ble_eq_true rfl) hl (by decide) (by decide) (fun X C _ _ ht hA hn hsg hR hT => z_X6_count ⟨cx_le C (by decide) (by decide), ht, fun u => by rw [hA]; exact hD u, hsg⟩ hn hR hT u x1 hw)
theorem c_X6_definition {l : Launch} (hl : l.stackTraces = false) {D : va_G} {A : Nat → Prop} {ad : Nat → Nat} {cs : Nat → ClassId} (hD : ∀ u : St, va_D A (wC ad cs u)) (u : St) (x1 : Int32) (x2 : Int32) (post : Int32 → St → Prop) (px : String → St → Prop) (hw : wp_X6_definition u x1 x2 post px) : MT (ad 90, ad 91) l yX6_definition cX6_definition 3 (some .int) (rmt 6 81) D (tysC cs) A (wC ad cs) u [.ref (ad 0), .int x1, .int x2] post px :=
  met_t (by decide) rfl (Nat.le_of_ble_eq_true rfl) hl (by decide) (by decide) (fun X C _ _ ht hA hn hsg hR hT => z_X6_definition ⟨cx_le C (by decide) (by decide), ht, fun u => by rw [hA]; exact hD u, hsg⟩ hn hR hT u x1 x2 hw)
def wX (ad : Nat → Nat) (cs : Nat → ClassId) (u : St) (ra ma : Nat) : va_W := [(ad 0, .inr (6, [.ref (ad 1), .ref (ad 5), .ref (ad 8), .int (gI u 0)])), (ad 1, .inr (3, [.ref (ad 2), .ref (ad 9), .ref (ad 10), .ref (ad 11), .ref (ad 12), .ref (ad 13), .ref ra, .int (gI u 1), .int (gI u 2), .int (gI u 3), .int (gI u 4), .int (gI u 5), .int (gI u 6)])), (ad 2, .inr (5, [.ref (ad 14), .int (gI u 7), .int (gI u 8), .int (gI u 9), .int (gI u 10), .long (gL u 0), .int (gI u 11)])), (ad 3, .inr (2, [.int (gI u 12), .ref (ad 15), .ref (ad 16), .ref (ad 17), .ref (ad 18), .ref (ad 19), .ref (ad 20), .ref (ad 21)])), (ad 4, .inr (2, [.int (gI u 13), .ref (ad 22), .ref (ad 23), .ref (ad 24), .ref (ad 25), .ref (ad 26), .ref (ad 27), .ref (ad 28)])), (ad 5, .inr (1, [.ref (ad 6), .ref (ad 29), .ref (ad 30), .ref (ad 31), .ref (ad 32), .ref ma, .int (gI u 14), .int (gI u 15), .int (gI u 16), .int (gI u 17), .int (gI u 18), .int (gI u 19)])), (ad 6, .inr (4, [.ref (ad 7), .ref (ad 33), .ref (ad 34), .ref (ad 35), .ref (ad 36), .ref (ad 37), .int (gI u 20)])), (ad 7, .inr (0, [.ref (ad 38), .int (gI u 21), .int (gI u 22), .int (gI u 23), .int (gI u 24)])), (ad 8, .inl (cs 8, 4, .inl (gA u 8))), (ad 9, .inl (cs 9, 12, .inr (.inl (gB u 9)))), (ad 10, .inl (cs 10, 6, .inr (.inl (gB u 10)))), (ad 11, .inl (cs 11, 720, .inr (.inl (gB u 11)))), (ad 12, .inl (cs 12, 720, .inl (gA u 12))), (ad 13, .inl (cs 13, 81, .inl (gA u 13))), (ad 14, .inl (cs 14, 1500, .inl (gA u 14))), (ad 15, .inl (cs 15, 12, .inl (gA u 15))), (ad 16, .inl (cs 16, 12, .inl (gA u 16))), (ad 17, .inl (cs 17, 12, .inl (gA u 17))), (ad 18, .inl (cs 18, 720, .inl (gA u 18))), (ad 19, .inl (cs 19, 720, .inl (gA u 19))), (ad 20, .inl (cs 20, 720, .inl (gA u 20))), (ad 21, .inl (cs 21, 4320, .inl (gA u 21))), (ad 22, .inl (cs 22, 12, .inl (gA u 22))), (ad 23, .inl (cs 23, 12, .inl (gA u 23))), (ad 24, .inl (cs 24, 12, .inl (gA u 24))), (ad 25, .inl (cs 25, 720, .inl (gA u 25))), (ad 26, .inl (cs 26, 720, .inl (gA u 26))), (ad 27, .inl (cs 27, 720, .inl (gA u 27))), (ad 28, .inl (cs 28, 4320, .inl (gA u 28))), (ad 29, .inl (cs 29, 18000, .inl (gA u 29))), (ad 30, .inl (cs 30, 300, .inl (gA u 30))), (ad 31, .inl (cs 31, 300, .inl (gA u 31))), (ad 32, .inl (cs 32, 300, .inl (gA u 32))), (ad 33, .inl (cs 33, 18000, .inl (gA u 33))), (ad 34, .inl (cs 34, 18000, .inl (gA u 34))), (ad 35, .inl (cs 35, 18000, .inl (gA u 35))), (ad 36, .inl (cs 36, 18000, .inl (gA u 36))), (ad 37, .inl (cs 37, 18000, .inl (gA u 37))), (ad 38, .inl (cs 38, 18000, .inl (gA u 38)))]
theorem wX_wC (ad : Nat → Nat) (cs : Nat → ClassId) (u : St) : wC ad cs u = wX ad cs u (ad 3) (ad 4) := rfl
def sw (k : Nat) : Nat := if k = 3 then 4 else if k = 4 then 3 else if 15 ≤ k ∧ k < 22 then k + 7 else if 22 ≤ k ∧ k < 29 then k - 7 else k
def adS {α : Type} (b : Bool) (f : Nat → α) : Nat → α := fun k => f (cond b (sw k) k)
def swU (u : St) : St := (fun j => if j = 12 then u.1 13 else if j = 13 then u.1 12 else u.1 j, u.2.1, fun j => u.2.2.1 (sw j), u.2.2.2)
theorem wX_sw {D : va_G} {ad : Nat → Nat} {cs : Nat → ClassId} {u : St} {H : Heap} (h : va_P D vwCl (wX ad cs u (ad 4) (ad 3)) H) : va_P D vwCl (wC (adS true ad) (adS true cs) (swU u)) H := h.sub [0, 1, 2, 4, 3, 5, 6, 7, 8, 9, 10, 11, 12, 13, 14, 22, 23, 24, 25, 26, 27, 28, 15, 16, 17, 18, 19, 20, 21, 29, 30, 31, 32, 33, 34, 35, 36, 37, 38] rfl
theorem tys_sw {D : va_G} {cs : Nat → ClassId} {U : State} (h : va_K D vwCl (tysC cs) U) : va_K D vwCl (tysC (adS true cs)) U := h.sub [0, 1, 2, 3, 4, 5, 6, 14, 15, 16, 17, 18, 19, 20, 7, 8, 9, 10, 11, 12, 13, 21, 22, 23, 24, 25, 26, 27, 28, 29, 30] rfl
theorem wX_D {A : Nat → Prop} {ad : Nat → Nat} {cs : Nat → ClassId} {u : St} {ra ma : Nat} (h : va_D A (wC ad cs u)) : va_D A (wX ad cs u ra ma) := by
  have e : (wC ad cs u).map Prod.fst = (wX ad cs u ra ma).map Prod.fst := rfl
  have key : ∀ (k : Nat) (q : Nat × va_E), (wX ad cs u ra ma)[k]? = some q → ∃ q2 : Nat × va_E, (wC ad cs u)[k]? = some q2 ∧ q2.1 = q.1 := by
    intro k q hq
    have h1 : ((wX ad cs u ra ma).map Prod.fst)[k]? = some q.1 := by rw [List.getElem?_map, hq]; rfl
    rw [← e, List.getElem?_map] at h1
    cases h2 : (wC ad cs u)[k]? with
    | none => rw [h2] at h1; cases h1
    | some q2 => rw [h2] at h1; exact ⟨q2, rfl, Option.some.inj h1⟩
  refine ⟨fun i j p q hi hj hpq => ?_, fun k q hq => ?_⟩
  · obtain ⟨p2, hp2, ep⟩ := key i p hi
    obtain ⟨q2, hq2, eq⟩ := key j q hj
    exact h.1 i j p2 q2 hp2 hq2 (by rw [ep, eq, hpq])
  · obtain ⟨q2, hq2, eq⟩ := key k q hq
    rw [← eq]; exact h.2 k q2 hq2
set_option maxHeartbeats 4000000 in
set_option maxRecDepth 20000 in
theorem c_X3_exchangeFor {sg : Nat × Nat} {l : Launch} {D : va_G} {A : Nat → Prop} {ad : Nat → Nat} {cs : Nat → ClassId} (hD : ∀ u : St, va_D A (wC ad cs u)) (u : St) : Met l yX3_exchangeFor (.code yX3_exchangeFor cX3_exchangeFor 3 (some (.object "TokenFrames$Program")) :: W0) (rmm 0 0) (PP sg D (tysC cs) A (wC ad cs) u [.ref (ad 1), .ref (ad 4)]) (va_Qr (fun _ : Unit => True) (fun _ a t => a = ad 3 ∧ va_P D vwCl (wX ad cs u (ad 4) (ad 4)) t.heap ∧ va_K D vwCl (tysC cs) t) A) 0 0 A := by
  refine Met.ofW (cc := cX3_exchangeFor) (maxL := 3) (ret := (some (.object "TokenFrames$Program"))) (by decide) rfl ?_
  intro p e s m args below meth c s₁ B hml hv
  obtain ⟨rfl, hP, hK, hSG⟩ := hv
  have hts := atoms_spec (ws := .code yX3_exchangeFor cX3_exchangeFor 3 (some (.object "TokenFrames$Program")) :: W0) B.pre
  have hts0 : ∀ w ∈ W0, w.before ([Value.ref (ad 1), .ref (ad 4)]).toArray s = true := fun w h => hts w (List.mem_cons_of_mem _ h)
  have hown : s.vm.findClass RX3 = some m.cls := findClass_of_methodNamed B.named
  have C : Cx (p, l, e, (headSpec (.code yX3_exchangeFor cX3_exchangeFor 3 (some (.object "TokenFrames$Program")) :: W0) (rmm 0 0)).room, s, m, ([Value.ref (ad 1), .ref (ad 4)]).toArray, below, meth, c, MQ below (va_Qr (fun _ : Unit => True) (fun _ a t => a = ad 3 ∧ va_P D vwCl (wX ad cs u (ad 4) (ad 4)) t.heap ∧ va_K D vwCl (tysC cs) t) A) ([Value.ref (ad 1), .ref (ad 4)]).toArray s 0 0 A, D, tysC cs, A, 3, sg) cX3_exchangeFor RX3 0 0 := ⟨B.exec, B.bytes, hml, hown, hts0, pay_in hts0 (W0_good (fun _ h => h)), ⟨Nat.le_refl _, Nat.le_refl _⟩, hK, hSG⟩
  rw [lg_entry_eq]
  have hz : Z (p, l, e, (headSpec (.code yX3_exchangeFor cX3_exchangeFor 3 (some (.object "TokenFrames$Program")) :: W0) (rmm 0 0)).room, s, m, ([Value.ref (ad 1), .ref (ad 4)]).toArray, below, meth, c, MQ below (va_Qr (fun _ : Unit => True) (fun _ a t => a = ad 3 ∧ va_P D vwCl (wX ad cs u (ad 4) (ad 4)) t.heap ∧ va_K D vwCl (tysC cs) t) A) ([Value.ref (ad 1), .ref (ad 4)]).toArray s 0 0 A, D, tysC cs, A, 3, sg) (wX ad cs u (ad 3) (ad 4)) 0 [(0, .ref (ad 1)), (1, .ref (ad 4))] [] := by
    refine z_aload_n C dX3_exchangeFor_0 rfl 0 rfl ?_
    refine z_get C mW_X3 1 rfl (rfl : vwCl[3]? = some (RX3, TX3, 13)) 6 (by decide) rfl mF_X3_38 dX3_exchangeFor_1 ?_
    refine z_astore_n (lv' := [(2, .ref (ad 3)), (0, .ref (ad 1)), (1, .ref (ad 4))]) C dX3_exchangeFor_4 rfl (show 2 < 3 by decide) rfl ?_
    refine z_aload_n C dX3_exchangeFor_5 rfl 1 rfl ?_
    refine z_aload_n C dX3_exchangeFor_6 rfl 2 rfl ?_
    refine z_put C mW_X3 tyX3 tyX3_ok nmX3 (wX_D (hD u)) 1 rfl (rfl : vwCl[3]? = some (RX3, TX3, 13)) 6 (by decide) rfl (ty := .object "TokenFrames$Program") (by decide +kernel) rfl rfl (Nat.le_of_ble_eq_true rfl) mF_X3_38 dX3_exchangeFor_7 ?_
    refine z_aload_n C dX3_exchangeFor_10 rfl 0 rfl ?_
    intro H2 locs2 ls2 hP2 hS2 hl2
    exact W.aret B.exec B.bytes B.returns (Or.inl ⟨_, rfl⟩) (Or.inr ⟨_, rfl⟩) (fun t ht hW => ⟨⟨(), ad 3, rfl, trivial, rfl, by rw [ht]; exact hP2, va_K.moved hW.alike hK⟩, hS2.F ht⟩) hS2.2.2 dX3_exchangeFor_11 (hlocks := B.notSynchronized)
  exact hz s.heap [] _ hP va_S.rf (lv_entry ([Value.ref (ad 1), .ref (ad 4)]) (Nat.le_of_ble_eq_true rfl))
def wp_X6_read (u : St) (post : Int32 → Bool → St → Prop) : Prop := wp_X3_readText u (fun (r1 : Int32) (u1 : St) => wp_X5_makeEmpty u1 (fun (u2 : St) => br (r1 = (-1)) (post (gI u2 12) true (swU u2)) (post ((-1) - r1) false u2)))
def BR (D : va_G) (ad : Nat → Nat) (cs : Nat → ClassId) : Bool × St → State → Prop := fun q t => va_P D vwCl (wC (adS q.1 ad) (adS q.1 cs) q.2) t.heap ∧ va_K D vwCl (tysC (adS q.1 cs)) t
set_option maxHeartbeats 4000000 in
set_option maxRecDepth 20000 in
theorem c_X6_read {l : Launch} {D : va_G} {A : Nat → Prop} {ad : Nat → Nat} {cs : Nat → ClassId} (hD : ∀ u : St, va_D A (wC ad cs u)) (u : St) (post : Int32 → Bool → St → Prop) (hw : wp_X6_read u post) : Met l yX6_read (.code yX6_read cX6_read 2 (some .int) :: W0) (rmm 7 152) (PP (ad 90, ad 91) D (tysC cs) A (wC ad cs) u [.ref (ad 0)]) (va_Qi (fun r (q : Bool × St) => post r q.1 q.2) (BR D ad cs) A) 0 0 A := by
  refine Met.ofW (cc := cX6_read) (maxL := 2) (ret := (some .int)) (by decide) rfl ?_
  intro p e s m args below meth c s₁ B hml hv
  obtain ⟨rfl, hP, hK, hSG⟩ := hv
  have hts := atoms_spec (ws := .code yX6_read cX6_read 2 (some .int) :: W0) B.pre
  have hts0 : ∀ w ∈ W0, w.before ([Value.ref (ad 0)]).toArray s = true := fun w h => hts w (List.mem_cons_of_mem _ h)
  have hown : s.vm.findClass RX6 = some m.cls := findClass_of_methodNamed B.named
  have C : CxC (p, l, e, (headSpec (.code yX6_read cX6_read 2 (some .int) :: W0) (rmm 7 152)).room, s, m, ([Value.ref (ad 0)]).toArray, below, meth, c, MQ below (va_Qi (fun r (q : Bool × St) => post r q.1 q.2) (BR D ad cs) A) ([Value.ref (ad 0)]).toArray s 0 0 A, D, tysC cs, A, 2, (ad 90, ad 91)) ad cs cX6_read RX6 7 152 := ⟨⟨B.exec, B.bytes, hml, hown, hts0, pay_in hts0 (W0_good (fun _ h => h)), ⟨Nat.le_refl _, Nat.le_refl _⟩, hK, hSG⟩, rfl, hD, rfl⟩
  rw [lg_entry_eq]
  have hz : Z (p, l, e, (headSpec (.code yX6_read cX6_read 2 (some .int) :: W0) (rmm 7 152)).room, s, m, ([Value.ref (ad 0)]).toArray, below, meth, c, MQ below (va_Qi (fun r (q : Bool × St) => post r q.1 q.2) (BR D ad cs) A) ([Value.ref (ad 0)]).toArray s 0 0 A, D, tysC cs, A, 2, (ad 90, ad 91)) (wC ad cs u) 0 [(0, .ref (ad 0))] [] := by
    unfold wp_X6_read at hw
    refine z_aload_n C.1 dX6_read_0 rfl 0 rfl ?_
    refine gC_0_reader C mF_X6_10 dX6_read_1 ?_
    refine k_X3_readText C mM_X6_51 hw (by decide) (Nat.le_of_ble_eq_true rfl) dX6_read_4 (fun r1 u1 hw => ?_)
    refine z_istore_n (lv' := [(1, .int r1), (0, .ref (ad 0))]) C.1 dX6_read_7 rfl (show 1 < 2 by decide) rfl ?_
    refine z_aload_n C.1 dX6_read_8 rfl 1 rfl ?_
    refine gC_0_reader C mF_X6_10 dX6_read_9 ?_
    refine gC_1_tape C mF_X6_30 dX6_read_12 ?_
    refine k_X5_makeEmpty C mM_X6_54 hw (by decide) (Nat.le_of_ble_eq_true rfl) dX6_read_15 (fun u2 hw => ?_)
    refine z_iload_n C.1 dX6_read_18 rfl 0 rfl ?_
    refine z_iconst (v := (-1)) C.1 dX6_read_19 (by decide) ?_
    refine z_icmp_eq (tgt := 27) C.1 dX6_read_20 (by decide) (fun c1 => ?_) (fun c1 => ?_)
    · replace hw := hw.1 c1
      refine z_aload_n C.1 dX6_read_27 rfl 1 rfl ?_
      refine gC_0_machine C mF_X6_19 dX6_read_28 ?_
      refine z_aload_n C.1 dX6_read_31 rfl 1 rfl ?_
      refine gC_0_reader C mF_X6_10 dX6_read_32 ?_
      refine z_aload_n C.1 dX6_read_35 rfl 1 rfl ?_
      refine gC_0_machine C mF_X6_19 dX6_read_36 ?_
      refine gC_5_program C mF_X6_57 dX6_read_39 ?_
      intro H2 locs2 ls2 hP2 hS2 hl2
      refine va_callr (va_runV (y := yX3_exchangeFor) (As := [.ref (ad 4)]) (rest := [.ref (ad 5)]) ⟨B.exec, B.bytes, hml, hown, hts0⟩ (c_X3_exchangeFor (sg := (ad 90, ad 91)) hD u2) ⟨⟨rfl, rfl, by decide, by decide, fun w h => (List.mem_cons.mp h).elim (fun e => by rw [e]; exact C.1.2.2.2.2.2.1 _ mC_X3_exchangeFor) (C.1.2.2.2.2.2.1 w), List.mem_cons_self, hts0 _ mC_X3_exchangeFor, hts0 _ mZ_X3, by decide +kernel, fun sig h => ?hsig, hts0 _ mM_X6_61⟩, hts0 _ mI_X3_exchangeFor, hts0 _ mS_X3_exchangeFor⟩ ⟨pp_blind, va_recv hK hP2 (ci := 3) (q0 := 1) rfl rfl, fun U hU hW => ⟨rfl, by rw [hU]; exact hP2, va_K.moved hW.alike hK, sg_at hSG hS2 hU hW⟩⟩ rfl rfl hl2.1 rfl (lv_room (Nat.le_of_ble_eq_true rfl)) dX6_read_42 ⟨Nat.zero_le _, Nat.zero_le _⟩) hS2 (fun q _ h => h) (fun q h => h) (fun u3 ra t H1 locs1 ht hvm hp hB hz1 hk1 hS1 => ?_)
      case hsig =>
        have h2 : (parseMethodDescriptor yX3_exchangeFor.desc).map (fun d => d.parameters.length) = some 1 := by decide +kernel
        rw [h] at h2
        exact (Option.some.inj h2).symm
      obtain ⟨rfl, hP3, hK3⟩ := hB
      rw [ht] at hP3
      have hz2 : Z (p, l, e, (headSpec (.code yX6_read cX6_read 2 (some .int) :: W0) (rmm 7 152)).room, s, m, ([Value.ref (ad 0)]).toArray, below, meth, c, MQ below (va_Qi (fun r (q : Bool × St) => post r q.1 q.2) (BR D ad cs) A) ([Value.ref (ad 0)]).toArray s 0 0 A, D, tysC cs, A, 2, (ad 90, ad 91)) (wX ad cs u2 (ad 4) (ad 4)) 45 [(1, .int r1), (0, .ref (ad 0))] [.ref (ad 3), .ref (ad 5)] := by
        refine z_put C.1 mW_X1 tyX1 tyX1_ok nmX1 (wX_D (hD u2)) 5 rfl (rfl : vwCl[1]? = some (RX1, TX1, 12)) 5 (by decide) rfl (ty := .object "TokenFrames$Program") (by decide +kernel) rfl rfl (Nat.le_of_ble_eq_true rfl) mF_X6_57 dX6_read_45 ?_
        refine z_aload_n C.1 dX6_read_48 rfl 1 rfl ?_
        refine z_get C.1 mW_X6 0 rfl (rfl : vwCl[6]? = some (RX6, TX6, 4)) 1 (by decide) rfl mF_X6_19 dX6_read_49 ?_
        refine z_get C.1 mW_X1 5 rfl (rfl : vwCl[1]? = some (RX1, TX1, 12)) 5 (by decide) rfl mF_X6_57 dX6_read_52 ?_
        refine z_get C.1 mW_X2 3 rfl (rfl : vwCl[2]? = some (RX2, TX2, 8)) 0 (by decide) rfl mF_X6_65 dX6_read_55 ?_
        intro H4 locs4 ls4 hP4 hS4 hl4
        exact W.iret B.exec B.bytes B.returns (fun t ht hW => ⟨⟨gI u2 12, (true, swU u2), rfl, hw, ⟨by rw [ht]; exact wX_sw hP4, tys_sw (va_K.moved hW.alike hK)⟩⟩, hS4.F ht⟩) hS4.2.2 dX6_read_58 (hlocks := B.notSynchronized)
      exact hz2 H1 locs1 ls2 hP3 hS1 hl2
    · replace hw := hw.2 c1
      refine z_iconst (v := (-1)) C.1 dX6_read_23 (by decide) ?_
      refine z_iload_n C.1 dX6_read_24 rfl 0 rfl ?_
      refine z_isub C.1 dX6_read_25 ?_
      intro H4 locs4 ls4 hP4 hS4 hl4
      exact W.iret B.exec B.bytes B.returns (fun t ht hW => ⟨⟨(-1) - r1, (false, u2), rfl, hw, ⟨by rw [ht]; exact hP4, va_K.moved hW.alike hK⟩⟩, hS4.F ht⟩) hS4.2.2 dX6_read_26 (hlocks := B.notSynchronized)
  exact hz s.heap [] _ hP va_S.rf (lv_entry ([Value.ref (ad 0)]) (Nat.le_of_ble_eq_true rfl))
