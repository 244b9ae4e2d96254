/-! 42.start: the law from its entry -/
theorem tb_of {w : Cond} (h : w ∈ tables_1) : w ∈ lw_tbl := List.mem_append_right _ h
theorem tb_1 (i : Nat) {w : Cond} (h : tables_1_1[i]? = some w) : w ∈ lw_tbl := tb_of (List.mem_append_left _ (List.mem_of_getElem? h))
theorem tb_2 (i : Nat) {w : Cond} (h : tables_1_2[i]? = some w) : w ∈ lw_tbl := tb_of (List.mem_append_right _ (List.mem_append_left _ (List.mem_of_getElem? h)))
theorem tb_3 (i : Nat) {w : Cond} (h : tables_1_3[i]? = some w) : w ∈ lw_tbl := tb_of (List.mem_append_right _ (List.mem_append_right _ (List.mem_append_left _ (List.mem_of_getElem? h))))
theorem tb_4 (i : Nat) {w : Cond} (h : tables_1_4[i]? = some w) : w ∈ lw_tbl := tb_of (List.mem_append_right _ (List.mem_append_right _ (List.mem_append_right _ (List.mem_append_left _ (List.mem_of_getElem? h)))))
def u0C : St := (fun _ => 0, fun _ => 0, fun _ _ => 0, fun _ _ => 0)
def u0M : St := (fun j => if j = 19 then -1 else 0, fun _ => 0, fun _ _ => 0, fun _ _ => 0)
theorem start_sg {s : State} {args : Array Value} (hts : ∀ w ∈ lw_tbl, w.before args s = true) (hgv : (Jvm.Cond.and given_1 narrow_1).before args s = true) : ∃ sg : Nat × Nat, SG sg (aL s) s := by
  have hA : ∀ a : Nat, a < s.heap.size → ¬ aL s a := fun a h => Nat.not_le.mpr h
  have hs := flat_of_before _ hgv
  obtain ⟨adK, adV, hS, hev⟩ := vk_Sof (args := args) (s := s) (N := 1) (tm := fun _ => Term.string "TokenFrames$Tape" 42) (len := [14]) (byt := [sgL]) (A := aL s)
    (fun i hi => by match i, hi with
      | 0, _ => decide)
    (fun i hi => by match i, hi with
      | 0, _ => exact hs _ (by decide +kernel))
    (fun i hi => by match i, hi with
      | 0, _ => exact hs _ (by decide +kernel))
    (fun i hi => by match i, hi with
      | 0, _ => exact hs _ (by decide +kernel))
    (fun i hi => by match i, hi with
      | 0, _ => exact hs _ (by decide +kernel))
    (fun i hi j hj => by
      match i, hi with
      | 0, _ =>
        have hj : j < 14 := hj
        match j, hj with
        | 0, _ => exact hs _ (by decide +kernel)
        | 1, _ => exact hs _ (by decide +kernel)
        | 2, _ => exact hs _ (by decide +kernel)
        | 3, _ => exact hs _ (by decide +kernel)
        | 4, _ => exact hs _ (by decide +kernel)
        | 5, _ => exact hs _ (by decide +kernel)
        | 6, _ => exact hs _ (by decide +kernel)
        | 7, _ => exact hs _ (by decide +kernel)
        | 8, _ => exact hs _ (by decide +kernel)
        | 9, _ => exact hs _ (by decide +kernel)
        | 10, _ => exact hs _ (by decide +kernel)
        | 11, _ => exact hs _ (by decide +kernel)
        | 12, _ => exact hs _ (by decide +kernel)
        | 13, _ => exact hs _ (by decide +kernel)
        | j + 14, hj => omega)
    (fun i j hi hj hne => absurd (show i = j by omega) hne) hA
  refine ⟨(adK 0, adV 0), vk_R.of (A := args) (hts _ (tb_2 76 rfl)) (hev 0 (by decide)), ?_, va_Zof (args := args) (hts _ (tb_2 90 rfl)) (hts _ (List.mem_filter.mp mZ_J0).1) (va_eqt (hs _ (by decide +kernel))) hA⟩
  refine ⟨fun i hi => ?_, fun i j hi hj _ => by omega⟩
  match i, hi with
  | 0, _ => exact hS.1 0 (by decide)
theorem start_th {s : State} {args : Array Value} (hts : ∀ w ∈ lw_tbl, w.before args s = true) (hgv : (Jvm.Cond.and given_1 narrow_1).before args s = true) : TH (aL s) s ∧ NCX s ∧ NW s := by
  have hA : ∀ a : Nat, a < s.heap.size → ¬ aL s a := fun a h => Nat.not_le.mpr h
  have hs := flat_of_before _ hgv
  refine ⟨⟨vx_Zqof (args := args) (hts _ (tb_3 133 rfl)) (hts _ (tb_1 9 rfl)) (hs _ (by decide +kernel)) hA, vx_Zqof (args := args) (hts _ (tb_3 135 rfl)) (hts _ (tb_1 9 rfl)) (hs _ (by decide +kernel)) hA, va_Nw.of (A := args) rfl (hts _ (tb_3 108 rfl)), va_Nw.of (A := args) rfl (hts _ (tb_3 176 rfl)), va_Nw.of (A := args) rfl (hts _ (tb_3 203 rfl)), va_Nw.of (A := args) rfl (hts _ (tb_4 127 rfl)), va_Nw.of (A := args) rfl (hts _ (tb_3 109 rfl)), va_Nw.of (A := args) rfl (hts _ (tb_3 111 rfl)), va_Nw.of (A := args) rfl (hts _ (tb_3 113 rfl))⟩, ⟨va_Nc.of (args := args) (hs _ (by decide +kernel)), va_Nc.of (args := args) (hs _ (by decide +kernel))⟩, ⟨va_Nw.of (A := args) rfl (hts _ (tb_1 32 rfl)), va_Nw.of (A := args) rfl (hts _ (tb_1 38 rfl)), va_Nw.of (A := args) rfl (hts _ (tb_1 73 rfl)), va_Nw.of (A := args) rfl (hts _ (tb_1 160 rfl)), va_Nw.of (A := args) rfl (hts _ (tb_1 166 rfl)), va_Nw.of (A := args) rfl (hts _ (tb_1 172 rfl)), va_Nw.of (A := args) rfl (hts _ (tb_1 217 rfl))⟩⟩
set_option maxHeartbeats 4000000 in
set_option maxRecDepth 100000 in
theorem start_open {Inv : St → St → Prop} (hO : LawOK Inv) (hI0 : Inv u0C u0M) {p : Program} {e : Env} {s : State} {m : MethodId} {below : List Frame} {meth : Method} {c : Code} (l : Launch) (hst : l.stackTraces = false) {b L : Nat} {xs : Nat → Int32} (hL : L ≤ 3072) (C0 : lw_At p s m meth c b L xs) : W p l e room_1 s m #[Value.ref b] below meth c s.heap [] 0 0 (lw_Z below #[Value.ref b] s) (entryFrame m ([Value.ref b] : List Value).toArray 7) := by
  obtain ⟨hx, hb, hr, hml, hown, htsL, hX, hbl, hlocks, hgv⟩ := id C0
  have hts : ∀ w ∈ W0, w.before #[Value.ref b] s = true := fun w h => htsL w (List.mem_filter.mp h).1
  have hgd := pay_in hts (W0_good (fun _ h => h))
  obtain ⟨sg, hSG⟩ := start_sg htsL hgv
  obtain ⟨hTH, hNC, hNW⟩ := start_th htsL hgv
  have hA : ∀ q : Nat, s.heap.size ≤ q → aL s q := fun _ h => h
  obtain ⟨c0, iS0, hKn0⟩ := u_known (C := RX0) (T := TX0) (N := 5) (n := 5) hts mW_X0 (hts _ mN_X0)
  obtain ⟨c1, iS1, hKn1⟩ := u_known (C := RX1) (T := TX1) (N := 12) (n := 12) hts mW_X1 (hts _ mN_X1)
  obtain ⟨c2, iS2, hKn2⟩ := u_known (C := RX2) (T := TX2) (N := 8) (n := 8) hts mW_X2 (hts _ mN_X2)
  obtain ⟨c3, iS3, hKn3⟩ := u_known (C := RX3) (T := TX3) (N := 13) (n := 13) hts mW_X3 (hts _ mN_X3)
  obtain ⟨c4, iS4, hKn4⟩ := u_known (C := RX4) (T := TX4) (N := 7) (n := 7) hts mW_X4 (hts _ mN_X4)
  obtain ⟨c5, iS5, hKn5⟩ := u_known (C := RX5) (T := TX5) (N := 7) (n := 7) hts mW_X5 (hts _ mN_X5)
  obtain ⟨c6, iS6, hKn6⟩ := u_known (C := RX6) (T := TX6) (N := 4) (n := 4) hts mW_X6 (hts _ mN_X6)
  obtain ⟨c7, iS7, hKn7⟩ := u_known (C := RX7) (T := TX7) (N := 55) (n := 55) hts mW_X7 (hts _ mN_X7)
  obtain ⟨dC, dI, hKc⟩ : ∃ (dC : Nat → ClassId) (dI : Nat → Nat → Nat), ∀ (k : Nat) (q : vw_C), vwCl[k]? = some q → u_Kn s q.1 q.2.1 q.2.2 (dC k) (dI k) := by
    refine ⟨fun k => [c0, c1, c2, c3, c4, c5, c6, c7].getD k 0, fun k => [iS0, iS1, iS2, iS3, iS4, iS5, iS6, iS7].getD k (fun _ => 0), ?_⟩
    intro k q hq
    match k, hq with
    | 0, hq => cases hq; exact hKn0
    | 1, hq => cases hq; exact hKn1
    | 2, hq => cases hq; exact hKn2
    | 3, hq => cases hq; exact hKn3
    | 4, hq => cases hq; exact hKn4
    | 5, hq => cases hq; exact hKn5
    | 6, hq => cases hq; exact hKn6
    | 7, hq => cases hq; exact hKn7
    | k + 8, hq => simp [vwCl] at hq
  have hS : va_S (aL s) s.heap s.heap [] := va_S.rf
  have hK : va_K (dC, dI) vwCl [] s := ⟨hKc, fun k q h => by simp at h⟩
  have hP : va_P (dC, dI) vwCl [] s.heap := fun k q h => by simp at h
  have hD : va_D (aL s) [] := ⟨fun i j p q h => by simp at h, fun k q h => by simp at h⟩
  have hl := lv_entry ([.ref b]) (n := 7) (Nat.le_of_ble_eq_true rfl)
  rw [lg_entry_eq]
  generalize (lg_sl ([.ref b]) ++ List.replicate (7 - (lg_sl ([.ref b])).length) Slot.unset).toArray = ls at hl ⊢
  have hl : lv_has ls 7 [(0, .ref b)] := hl
  refine va_new (ci := 6) (fs := [.null, .null, .null, .int 0]) (C := RX6) (T := TX6) (N := 4) hx hb hts mW_X6 tyX6 tyX6_ok hown (hts _ mL_L_8) (hts _ mN_X6) (hts _ mZ_X6) hK hP hD hS hA rfl (by decide) (by decide) (by decide) dL_law_0 (fun q1 H hP hD hS => ?_)
  refine lv_dup hx hb dL_law_3 rfl ?_
  have hPc := hP.sub (ws' := [(q1, .inr (6, [.null, .null, .null, .int 0]))]) [0] rfl
  have hFc := va_free (wc := [(q1, .inr (6, [.null, .null, .null, .int 0]))]) hD hS hA [0] rfl
  refine va_callv (va_runI (y := yX6_init) (As := []) (rest := [.ref q1]) ⟨hx, hb, hml, hown, hts⟩ (c_X6_init (l := l) (D := (dC, dI)) q1 H.size) ⟨⟨rfl, rfl, by decide, by decide, fun w h => (List.mem_cons.mp h).elim (fun e => by rw [e]; exact hgd _ mC_X6_init) (hgd w), List.mem_cons_self, hts _ mC_X6_init, hts _ mZ_X6, by decide +kernel, fun sig h => ?hs1, hts _ mM_L_33⟩, rfl, hts _ mI_X6_init⟩ ⟨mc_blind, fun U hU hW => ⟨rfl, by rw [hU], by rw [hU]; exact hPc, va_K.moved hW.alike (hK.sub [] rfl), nw_at hW hNW⟩⟩ rfl rfl hl.1 rfl (lv_room (Nat.le_of_ble_eq_true rfl)) dL_law_4 ⟨by decide, by decide⟩) hS (fun q _ h => hFc q h) hFc (fun u9 t H1 locs1 ht hvm hp hB hz1 hk1 hS => ?_)
  case hs1 =>
    have h2 : (parseMethodDescriptor yX6_init.desc).map (fun d => d.parameters.length) = some 0 := by decide +kernel
    rw [h] at h2
    exact (Option.some.inj h2).symm
  obtain ⟨ad1, cs1, h01, hP1, hK1, hD1⟩ := hB
  rw [ht] at hP1
  have hK1 := va_K.moved hvm.symm hK1
  subst h01
  obtain ⟨hP, hD⟩ := va_join (wc := [(ad1 0, .inr (6, [.null, .null, .null, .int 0]))]) (wr := []) (w1 := wk_X6 ad1 cs1) hP hD [0] [] rfl rfl (by decide) (by decide) hk1 hFc hP1 hD1
  have hK := hK.app hK1
  refine lv_astore_n (lv' := [(1, .ref (ad1 0)), (0, .ref b)]) hx hb dL_law_7 rfl hl (by decide) rfl (fun ls hl => ?_)
  refine va_new (ci := 7) (fs := [.int 0, .null, .int 0, .int 0, .int 0, .null, .null, .null, .null, .null, .null, .null, .null, .null, .null, .null, .null, .null, .int 0, .int 0, .int 0, .int 0, .long 0, .null, .null, .null, .null, .int 0, .int 0, .int 0, .null, .null, .null, .int 0, .null, .int 0, .int 0, .int 0, .null, .null, .null, .null, .int 0, .int 0, .int 0, .null, .null, .null, .null, .null, .null, .int 0, .int 0, .int 0, .null]) (C := RX7) (T := TX7) (N := 55) hx hb hts mW_X7 tyX7 tyX7_ok hown (hts _ mL_L_34) (hts _ mN_X7) (hts _ mZ_X7) hK hP hD hS hA rfl (by decide) (by decide) (by decide) dL_law_8 (fun q2 H hP hD hS => ?_)
  refine lv_dup hx hb dL_law_11 rfl ?_
  have hPc := hP.sub (ws' := [(q2, .inr (7, [.int 0, .null, .int 0, .int 0, .int 0, .null, .null, .null, .null, .null, .null, .null, .null, .null, .null, .null, .null, .null, .int 0, .int 0, .int 0, .int 0, .long 0, .null, .null, .null, .null, .int 0, .int 0, .int 0, .null, .null, .null, .int 0, .null, .int 0, .int 0, .int 0, .null, .null, .null, .null, .int 0, .int 0, .int 0, .null, .null, .null, .null, .null, .null, .int 0, .int 0, .int 0, .null]))]) [39] rfl
  have hFc := va_free (wc := [(q2, .inr (7, [.int 0, .null, .int 0, .int 0, .int 0, .null, .null, .null, .null, .null, .null, .null, .null, .null, .null, .null, .null, .null, .int 0, .int 0, .int 0, .int 0, .long 0, .null, .null, .null, .null, .int 0, .int 0, .int 0, .null, .null, .null, .int 0, .null, .int 0, .int 0, .int 0, .null, .null, .null, .null, .int 0, .int 0, .int 0, .null, .null, .null, .null, .null, .null, .int 0, .int 0, .int 0, .null]))]) hD hS hA [39] rfl
  refine va_callv (va_runI (y := yX7_init) (As := []) (rest := [.ref q2]) ⟨hx, hb, hml, hown, hts⟩ (c_X7_init (l := l) (D := (dC, dI)) q2 H.size) ⟨⟨rfl, rfl, by decide, by decide, fun w h => (List.mem_cons.mp h).elim (fun e => by rw [e]; exact hgd _ mC_X7_init) (hgd w), List.mem_cons_self, hts _ mC_X7_init, hts _ mZ_X7, by decide +kernel, fun sig h => ?hs2, hts _ mM_L_36⟩, rfl, hts _ mI_X7_init⟩ ⟨mc_blind, fun U hU hW => ⟨rfl, by rw [hU], by rw [hU]; exact hPc, va_K.moved hW.alike (hK.sub [] rfl), nw_at hW hNW⟩⟩ rfl rfl hl.1 rfl (lv_room (Nat.le_of_ble_eq_true rfl)) dL_law_12 ⟨by decide, by decide⟩) hS (fun q _ h => hFc q h) hFc (fun u9 t H1 locs1 ht hvm hp hB hz1 hk1 hS => ?_)
  case hs2 =>
    have h2 : (parseMethodDescriptor yX7_init.desc).map (fun d => d.parameters.length) = some 0 := by decide +kernel
    rw [h] at h2
    exact (Option.some.inj h2).symm
  obtain ⟨ad2, cs2, h02, hP1, hK1, hD1⟩ := hB
  rw [ht] at hP1
  have hK1 := va_K.moved hvm.symm hK1
  subst h02
  obtain ⟨hP, hD⟩ := va_join (wc := [(ad2 0, .inr (7, [.int 0, .null, .int 0, .int 0, .int 0, .null, .null, .null, .null, .null, .null, .null, .null, .null, .null, .null, .null, .null, .int 0, .int 0, .int 0, .int 0, .long 0, .null, .null, .null, .null, .int 0, .int 0, .int 0, .null, .null, .null, .int 0, .null, .int 0, .int 0, .int 0, .null, .null, .null, .null, .int 0, .int 0, .int 0, .null, .null, .null, .null, .null, .null, .int 0, .int 0, .int 0, .null]))]) (wr := wk_X6 ad1 cs1) (w1 := wk_X7 ad2 cs2) hP hD [39] [0, 1, 2, 3, 4, 5, 6, 7, 8, 9, 10, 11, 12, 13, 14, 15, 16, 17, 18, 19, 20, 21, 22, 23, 24, 25, 26, 27, 28, 29, 30, 31, 32, 33, 34, 35, 36, 37, 38] rfl rfl (by decide) (by decide) hk1 hFc hP1 hD1
  have hK := hK.app hK1
  refine lv_astore_n (lv' := [(2, .ref (ad2 0)), (1, .ref (ad1 0)), (0, .ref b)]) hx hb dL_law_15 rfl hl (by decide) rfl (fun ls hl => ?_)
  refine lv_iconst (v := 1) hx hb dL_law_16 (by decide) ?_
  refine va_newa (atype := .long) (ty := .long) (a0 := (1, .inr (.inl (fun _ => 0)))) hx hb (hts _ mA_long) rfl hK hP hD hS hA (fun _ => rfl) (by decide) (by decide) (by decide) (by decide) (by decide) dL_law_17 (fun q3 k3 H hK hP hD hS => ?_)
  refine lv_astore_n (lv' := [(3, .ref q3), (2, .ref (ad2 0)), (1, .ref (ad1 0)), (0, .ref b)]) hx hb dL_law_19 rfl hl (by decide) rfl (fun ls hl => ?_)
  refine lv_iconst (v := 0) hx hb dL_law_20 (by decide) ?_
  refine lv_istore (lv' := [(4, .int 0), (3, .ref q3), (2, .ref (ad2 0)), (1, .ref (ad1 0)), (0, .ref b)]) hx hb dL_law_21 hl (by decide) rfl (fun ls hl => ?_)
  have hP2 : va_P (dC, dI) vwCl (wL (fun k => if k = 80 then q3 else if k = 90 then sg.1 else if k = 91 then sg.2 else ad1 (([0, 1, 2, 9, 30, 17, 18, 19, 38, 4, 5, 6, 7, 8, 3, 10, 11, 12, 13, 14, 15, 16, 31, 32, 33, 34, 35, 36, 37, 26, 27, 28, 29, 21, 22, 23, 24, 25, 20]).getD k 0)) (fun k => if k = 80 then k3 else cs1 (([0, 1, 2, 9, 30, 17, 18, 19, 38, 4, 5, 6, 7, 8, 3, 10, 11, 12, 13, 14, 15, 16, 31, 32, 33, 34, 35, 36, 37, 26, 27, 28, 29, 21, 22, 23, 24, 25, 20]).getD k 0)) u0C (fun k => if k = 90 then sg.1 else if k = 91 then sg.2 else ad2 k) cs2 u0M (fun _ => 0)) H := hP.sub [0, 1, 2, 9, 30, 17, 18, 19, 38, 4, 5, 6, 7, 8, 3, 10, 11, 12, 13, 14, 15, 16, 31, 32, 33, 34, 35, 36, 37, 26, 27, 28, 29, 21, 22, 23, 24, 25, 20, 39, 40, 41, 42, 43, 44, 45, 46, 47, 48, 49, 50, 51, 52, 53, 54, 55, 56, 57, 58, 59, 60, 61, 62, 63, 64, 65, 66, 67, 68, 69, 70, 71, 72, 73] rfl
  have hD2 : va_D (aL s) (wL (fun k => if k = 80 then q3 else if k = 90 then sg.1 else if k = 91 then sg.2 else ad1 (([0, 1, 2, 9, 30, 17, 18, 19, 38, 4, 5, 6, 7, 8, 3, 10, 11, 12, 13, 14, 15, 16, 31, 32, 33, 34, 35, 36, 37, 26, 27, 28, 29, 21, 22, 23, 24, 25, 20]).getD k 0)) (fun k => if k = 80 then k3 else cs1 (([0, 1, 2, 9, 30, 17, 18, 19, 38, 4, 5, 6, 7, 8, 3, 10, 11, 12, 13, 14, 15, 16, 31, 32, 33, 34, 35, 36, 37, 26, 27, 28, 29, 21, 22, 23, 24, 25, 20]).getD k 0)) u0C (fun k => if k = 90 then sg.1 else if k = 91 then sg.2 else ad2 k) cs2 u0M (fun _ => 0)) := hD.sub [0, 1, 2, 9, 30, 17, 18, 19, 38, 4, 5, 6, 7, 8, 3, 10, 11, 12, 13, 14, 15, 16, 31, 32, 33, 34, 35, 36, 37, 26, 27, 28, 29, 21, 22, 23, 24, 25, 20, 39, 40, 41, 42, 43, 44, 45, 46, 47, 48, 49, 50, 51, 52, 53, 54, 55, 56, 57, 58, 59, 60, 61, 62, 63, 64, 65, 66, 67, 68, 69, 70, 71, 72, 73] (by decide) rfl
  have hK2 : va_K (dC, dI) vwCl (tysL (fun k => if k = 80 then k3 else cs1 (([0, 1, 2, 9, 30, 17, 18, 19, 38, 4, 5, 6, 7, 8, 3, 10, 11, 12, 13, 14, 15, 16, 31, 32, 33, 34, 35, 36, 37, 26, 27, 28, 29, 21, 22, 23, 24, 25, 20]).getD k 0)) cs2) s := hK.sub [30, 1, 2, 3, 4, 5, 0, 6, 7, 8, 9, 10, 11, 12, 23, 24, 25, 26, 27, 28, 29, 19, 20, 21, 22, 14, 15, 16, 17, 18, 13, 31, 32, 33, 34, 35, 36, 37, 38, 39, 40, 41, 42, 43, 44, 45, 46, 47, 48, 49, 50, 51, 52, 53, 54, 55, 56, 57, 58, 59, 60, 61, 62, 63, 64] rfl
  have C : CV (p, l, e, s, m, below, meth, c, (dC, dI), b, L, xs) (sg.1, sg.2) := ⟨hx, hb, hr, hml, hown, hts, hgd, ⟨hX, hbl⟩, hlocks, hSG, hTH, hNC, hNW⟩
  have hend : ∀ (w : va_W) (tys : List (ClassId × FieldType)) (lv : List (Nat × Value)) (c2 s2 : Nat), c2 ≤ 1104 → s2 ≤ 308591 → V (p, l, e, s, m, below, meth, c, (dC, dI), b, L, xs) w tys c2 s2 447 lv [] := by
    intro w tys lv c2 s2 h1 h2
    refine v_iconst (v := 1) C dL_law_447 (by decide) ?_
    intro H locs ls hP hK hD hS hl
    refine va_forget (fun q hq => hS.2.2 q hq) ?_
    refine W.widen (k := 1104) (n := 308591) h1 h2 ?_
    exact lw_ret hx hb hr hlocks dL_law_448
  have hloop := law_loop (X := (p, l, e, s, m, below, meth, c, (dC, dI), b, L, xs)) hO hst hL hend 513 0 0 (by omega) (by omega) (by exact nI_0.symm) (fun k => if k = 80 then q3 else if k = 90 then sg.1 else if k = 91 then sg.2 else ad1 (([0, 1, 2, 9, 30, 17, 18, 19, 38, 4, 5, 6, 7, 8, 3, 10, 11, 12, 13, 14, 15, 16, 31, 32, 33, 34, 35, 36, 37, 26, 27, 28, 29, 21, 22, 23, 24, 25, 20]).getD k 0)) (fun k => if k = 90 then sg.1 else if k = 91 then sg.2 else ad2 k) (fun k => if k = 80 then k3 else cs1 (([0, 1, 2, 9, 30, 17, 18, 19, 38, 4, 5, 6, 7, 8, 3, 10, 11, 12, 13, 14, 15, 16, 31, 32, 33, 34, 35, 36, 37, 26, 27, 28, 29, 21, 22, 23, 24, 25, 20]).getD k 0)) cs2 u0C u0M (fun _ => 0) C ⟨rfl, rfl⟩ hI0
  exact hloop H _ ls hP2 hK2 hD2 hS (lv_sub hl [0, 4, 3, 2, 1] rfl)
