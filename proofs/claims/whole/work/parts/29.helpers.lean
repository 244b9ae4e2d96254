/-! 29.helpers: the law's helpers: a call of the class, its answer in the cell 'out', or the number of what was thrown -/
def NCX (U : State) : Prop := va_Nc "java/lang/UnsupportedOperationException" "java/lang/IllegalArgumentException" U ∧ va_Nc "java/lang/IllegalArgumentException" "java/lang/IllegalStateException" U
def wH (ad : Nat → Nat) (cs : Nat → ClassId) (q : St × (Nat → Int64)) : va_W := wC ad cs q.1 ++ [(ad 80, .inl (cs 80, 1, .inr (.inl q.2)))]
def tysH (cs : Nat → ClassId) : List (ClassId × FieldType) := tysC cs ++ [(cs 80, .long)]
def PH (D : va_G) (A : Nat → Prop) (ad : Nat → Nat) (cs : Nat → ClassId) (q : St × (Nat → Int64)) (As : List Value) : Array Value → State → Prop := va_Pc As (fun U => va_P D vwCl (wH ad cs q) U.heap ∧ va_K D vwCl (tysH cs) U ∧ SG (ad 90, ad 91) A U ∧ TH A U ∧ NCX U)
def BH (D : va_G) (ad : Nat → Nat) (cs : Nat → ClassId) : St × (Nat → Int64) → State → Prop := fun q t => va_P D vwCl (wH ad cs q) t.heap ∧ va_K D vwCl (tysH cs) t
theorem ph_blind {D : va_G} {A : Nat → Prop} {ad : Nat → Nat} {cs : Nat → ClassId} {q : St × (Nat → Int64)} {As : List Value} : FrameBlind (PH D A ad cs q As) := fun a U g mk h => by
  obtain ⟨h1, h2, h3, h4, h5, h6, h7⟩ := h
  exact ⟨h1, h2, va_K.moved (u := U) (U := U.calling g mk a) (Vm.Alike.refl U.vm) h3, sg_same h4, th_same h5, va_Nc.moved (u := U) (U := U.calling g mk a) (Vm.Alike.refl U.vm) h6, va_Nc.moved (u := U) (U := U.calling g mk a) (Vm.Alike.refl U.vm) h7⟩
theorem wH_D {A : Nat → Prop} {ad : Nat → Nat} {cs : Nat → ClassId} {q q2 : St × (Nat → Int64)} (h : va_D A (wH ad cs q)) : va_D A (wH ad cs q2) := by
  have e : (wH ad cs q).map Prod.fst = (wH ad cs q2).map Prod.fst := rfl
  have key : ∀ (k : Nat) (x : Nat × va_E), (wH ad cs q2)[k]? = some x → ∃ y : Nat × va_E, (wH ad cs q)[k]? = some y ∧ y.1 = x.1 := by
    intro k x hx
    have h1 : ((wH ad cs q2).map Prod.fst)[k]? = some x.1 := by rw [List.getElem?_map, hx]; rfl
    rw [← e, List.getElem?_map] at h1
    cases h2 : (wH ad cs q)[k]? with
    | none => rw [h2] at h1; cases h1
    | some y => rw [h2] at h1; exact ⟨y, rfl, Option.some.inj h1⟩
  refine ⟨fun i j x y hi hj hxy => ?_, fun k x hx => ?_⟩
  · obtain ⟨x2, hx2, ex⟩ := key i x hi
    obtain ⟨y2, hy2, ey⟩ := key j y hj
    exact h.1 i j x2 y2 hx2 hy2 (by rw [ex, ey, hxy])
  · obtain ⟨y, hy, ey⟩ := key k x hx
    rw [← ey]; exact h.2 k y hy
theorem wC_D {A : Nat → Prop} {ad : Nat → Nat} {cs : Nat → ClassId} {u u2 : St} (h : va_D A (wC ad cs u)) : va_D A (wC ad cs u2) := by
  have e : (wC ad cs u).map Prod.fst = (wC ad cs u2).map Prod.fst := rfl
  have key : ∀ (k : Nat) (x : Nat × va_E), (wC ad cs u2)[k]? = some x → ∃ y : Nat × va_E, (wC ad cs u)[k]? = some y ∧ y.1 = x.1 := by
    intro k x hx
    have h1 : ((wC ad cs u2).map Prod.fst)[k]? = some x.1 := by rw [List.getElem?_map, hx]; rfl
    rw [← e, List.getElem?_map] at h1
    cases h2 : (wC ad cs u)[k]? with
    | none => rw [h2] at h1; cases h1
    | some y => rw [h2] at h1; exact ⟨y, rfl, Option.some.inj h1⟩
  refine ⟨fun i j x y hi hj hxy => ?_, fun k x hx => ?_⟩
  · obtain ⟨x2, hx2, ex⟩ := key i x hi
    obtain ⟨y2, hy2, ey⟩ := key j y hj
    exact h.1 i j x2 y2 hx2 hy2 (by rw [ex, ey, hxy])
  · obtain ⟨y, hy, ey⟩ := key k x hx
    rw [← ey]; exact h.2 k y hy
theorem sg_narrow {sg : Nat × Nat} {A B : Nat → Prop} {U : State} (h : SG sg A U) (hAB : ∀ q, B q → A q) : SG sg B U := ⟨h.1, h.2.1.narrow hAB, va_Z.narrow h.2.2 hAB⟩
theorem th_narrow {A B : Nat → Prop} {U : State} (h : TH A U) (hAB : ∀ q, B q → A q) : TH B U := ⟨h.1.narrow hAB, h.2.1.narrow hAB, h.2.2⟩
theorem out_kept {D : va_G} {ad : Nat → Nat} {cs : Nat → ClassId} {q : St × (Nat → Int64)} {H H1 : Heap} (hP : va_P D vwCl (wH ad cs q) H) (hk : H1[ad 80]? = H[ad 80]?) : va_P D vwCl [(ad 80, .inl (cs 80, 1, .inr (.inl q.2)))] H1 := va_P.kept (ws := [(ad 80, .inl (cs 80, 1, .inr (.inl q.2)))]) (hP.sub [39] rfl) (fun k x hx => by
  match k, hx with
  | 0, hx => cases hx; exact hk
  | k + 1, hx => cases hx)
theorem wH_A1 {A : Nat → Prop} {ad : Nat → Nat} {cs : Nat → ClassId} {q : St × (Nat → Int64)} (h : va_D A (wH ad cs q)) : va_D (fun x => A x ∧ x ≠ ad 80) (wC ad cs q.1) := by
  have h1 : va_D A (wC ad cs q.1) := h.sub [0, 1, 2, 3, 4, 5, 6, 7, 8, 9, 10, 11, 12, 13, 14, 15, 16, 17, 18, 19, 20, 21, 22, 23, 24, 25, 26, 27, 28, 29, 30, 31, 32, 33, 34, 35, 36, 37, 38] (by decide) rfl
  refine h1.weaken (fun k x hk hA => ⟨hA, fun e => ?_⟩)
  have hlt : k < 39 := (List.getElem?_eq_some_iff.mp hk).1
  have h2 : (wH ad cs q)[k]? = some x := by
    show (wC ad cs q.1 ++ _)[k]? = _
    rw [List.getElem?_append_left hlt]; exact hk
  have := h.1 k 39 x (ad 80, .inl (cs 80, 1, .inr (.inl q.2))) h2 rfl e
  omega
theorem ncx_at {s U : State} (h : NCX s) (hvm : s.vm.Alike U.vm) : NCX U := ⟨va_Nc.moved hvm h.1, va_Nc.moved hvm h.2⟩
theorem mH_L_feed : Cond.codeWith yL_feed cL_feed 8 (some .int) [(0, 16, 19, 13), (0, 16, 23, 15)] ∈ W0 := w0_3 99 rfl (by decide +kernel)
set_option maxHeartbeats 4000000 in
set_option maxRecDepth 20000 in
theorem h_feed {l : Launch} (hl1 : l.stackTraces = false) {D : va_G} {A : Nat → Prop} {ad : Nat → Nat} {cs : Nat → ClassId} (u : St) (f : Nat → Int64) (hD0 : va_D A (wH ad cs (u, f))) (x1 : Int32) (x2 : Int32) (x3 : Int32) (x4 : Int32) (x5 : Int32) (post : Int32 → St × (Nat → Int64) → Prop) (hw : wp_X6_feed u x1 x2 x3 x4 x5 (fun r u2 => post 0 (u2, vp_updL f 0 r.toInt64)) (fun E u2 => (E = "java/lang/IllegalArgumentException" ∧ post 1 (u2, f)) ∨ (E = "java/lang/UnsupportedOperationException" ∧ post 2 (u2, f)))) : vx_Met l yL_feed (.codeWith yL_feed cL_feed 8 (some .int) [(0, 16, 19, 13), (0, 16, 23, 15)] :: W0) (rmt 7 108) (PH D A ad cs (u, f) [.ref (ad 0), .int x1, .int x2, .int x3, .int x4, .int x5, .ref (ad 80)]) (va_Qi post (BH D ad cs) A) (vx_X (fun _ : Unit => False) (fun _ _ _ => False) A) 1 6 A := by
  refine vx_ofWH (cc := cL_feed) (maxL := 8) (ret := (some .int)) (hh := [(0, 16, 19, 13), (0, 16, 23, 15)]) (by decide) rfl ?_
  intro p e s m args below meth c s₁ B hml hv
  obtain ⟨rfl, hP, hK, hSG, hTH, hNC⟩ := hv
  have hts := atoms_spec (ws := .codeWith yL_feed cL_feed 8 (some .int) [(0, 16, 19, 13), (0, 16, 23, 15)] :: W0) B.pre
  have hts0 : ∀ w ∈ W0, w.before ([.ref (ad 0), .int x1, .int x2, .int x3, .int x4, .int x5, .ref (ad 80)] : List Value).toArray s = true := fun w h => hts w (List.mem_cons_of_mem _ h)
  have hgd := pay_in hts0 (W0_good (fun _ h => h))
  have hown : s.vm.findClass RL = some m.cls := findClass_of_methodNamed B.named
  have htab := vx_table (x := yL_law) B (hts _ List.mem_cons_self)
  have hx := B.exec
  have hb := B.bytes
  have hr := B.returns
  have hlocks := B.notSynchronized
  have hl := lv_entry ([.ref (ad 0), .int x1, .int x2, .int x3, .int x4, .int x5, .ref (ad 80)]) (n := 8) (Nat.le_of_ble_eq_true rfl)
  rw [lg_entry_eq]
  generalize (lg_sl ([.ref (ad 0), .int x1, .int x2, .int x3, .int x4, .int x5, .ref (ad 80)]) ++ List.replicate (8 - (lg_sl ([.ref (ad 0), .int x1, .int x2, .int x3, .int x4, .int x5, .ref (ad 80)])).length) Slot.unset).toArray = ls at hl ⊢
  have hl : lv_has ls 8 [(0, .ref (ad 0)), (1, .int x1), (2, .int x2), (3, .int x3), (4, .int x4), (5, .int x5), (6, .ref (ad 80))] := hl
  have hS : va_S A s.heap s.heap [] := va_S.rf
  have hPc : va_P D vwCl (wC ad cs u) s.heap := hP.sub [0, 1, 2, 3, 4, 5, 6, 7, 8, 9, 10, 11, 12, 13, 14, 15, 16, 17, 18, 19, 20, 21, 22, 23, 24, 25, 26, 27, 28, 29, 30, 31, 32, 33, 34, 35, 36, 37, 38] rfl
  have hDc : va_D A (wC ad cs u) := hD0.sub [0, 1, 2, 3, 4, 5, 6, 7, 8, 9, 10, 11, 12, 13, 14, 15, 16, 17, 18, 19, 20, 21, 22, 23, 24, 25, 26, 27, 28, 29, 30, 31, 32, 33, 34, 35, 36, 37, 38] (by decide) rfl
  have hKc : va_K D vwCl (tysC cs) s := hK.sub [0, 1, 2, 3, 4, 5, 6, 7, 8, 9, 10, 11, 12, 13, 14, 15, 16, 17, 18, 19, 20, 21, 22, 23, 24, 25, 26, 27, 28, 29, 30] rfl
  refine lv_aload hx hb dL_feed_0 (lv_at hl 6 rfl) ?_
  refine lv_iconst (v := 0) hx hb dL_feed_2 (by decide) ?_
  refine lv_aload_n hx hb dL_feed_3 rfl (lv_at hl 0 rfl) ?_
  refine lv_iload_n hx hb dL_feed_4 rfl (lv_at hl 1 rfl) ?_
  refine lv_iload_n hx hb dL_feed_5 rfl (lv_at hl 2 rfl) ?_
  refine lv_iload_n hx hb dL_feed_6 rfl (lv_at hl 3 rfl) ?_
  refine lv_iload hx hb dL_feed_7 (lv_at hl 4 rfl) ?_
  refine lv_iload hx hb dL_feed_9 (lv_at hl 5 rfl) ?_
  refine vx_calli (vx_runV (y := yX6_feed) (As := [.int x1, .int x2, .int x3, .int x4, .int x5]) (rest := [.int 0, .ref (ad 80)]) ⟨hx, hb, hml, hown, hts0⟩ (c_X6_feed (A := fun x => A x ∧ x ≠ ad 80) hl1 (fun _ => wC_D (wH_A1 hD0)) u x1 x2 x3 x4 x5 _ _ hw) ⟨⟨rfl, rfl, by decide, by decide, fun w h => (List.mem_cons.mp h).elim (fun e => by rw [e]; exact hgd _ mC_X6_feed) (hgd w), List.mem_cons_self, hts0 _ mC_X6_feed, hts0 _ mZ_X6, by decide +kernel, fun sig h => ?hsig, hts0 _ mM_L_7⟩, hts0 _ mI_X6_feed, hts0 _ mS_X6_feed⟩ ⟨pt_blind, va_recv hK hP (ci := 6) (q0 := 0) rfl rfl, fun U hU hW => ⟨rfl, by rw [hU]; exact hPc, va_K.moved hW.alike hKc, sg_narrow (sg_at hSG hS hU hW) (fun _ h => h.1), th_narrow (th_at hTH hS hU hW) (fun _ h => h.1)⟩⟩ rfl rfl hl.1 rfl (lv_room (Nat.le_of_ble_eq_true rfl)) dL_feed_11 ⟨by decide, by decide⟩) hS (fun q _ h => h.1) (fun q h => h.1) (fun q _ h => h.1) (fun E ce q9 u3 t H1 locs1 ht hvm hp hB hz1 hk1 hS1 hce hcv hcl => ?_) (fun r u3 t H1 locs1 ht hvm hp hB hz1 hk1 hS1 => ?_)
  case hsig =>
    have h2 : (parseMethodDescriptor yX6_feed.desc).map (fun d => d.parameters.length) = some 5 := by decide +kernel
    rw [h] at h2
    exact (Option.some.inj h2).symm
  · obtain ⟨E2, u4⟩ := u3
    obtain ⟨rfl, hP4, hK4⟩ := hB
    rw [ht] at hP4
    have hK4 := va_K.moved hvm.symm hK4
    have hP5 : va_P D vwCl (wH ad cs (u4, f)) H1 := va_P.app hP4 (out_kept (q := (u, f)) hP (hk1 (ad 80) (vx_lt hP (k := 39) rfl) (fun h => h.2 rfl)))
    rcases hp with ⟨hE, hp⟩ | ⟨hE, hp⟩
    · refine cq_catch (own := RL) (name := "java/lang/IllegalArgumentException") hown [] ⟨0, 16, 19, 13⟩ [⟨0, 16, 23, 15⟩] htab (fun z hz => by cases hz) (by decide) (by decide) (hts0 _ mL_L_13) (by rw [hE]; exact va_Nw.use rfl hTH.2.2.1) hce hcv hcl ?_
      refine lv_astore (lv' := [(7, .ref q9), (0, .ref (ad 0)), (1, .int x1), (2, .int x2), (3, .int x3), (4, .int x4), (5, .int x5), (6, .ref (ad 80))]) hx hb dL_feed_19 hl (by decide) rfl (fun ls hl => ?_)
      refine lv_iconst (v := 1) hx hb dL_feed_21 (by decide) ?_
      exact vx_ret (W.iret (v := 1) hx hb hr (fun t2 ht2 hW => ⟨⟨1, (u4, f), rfl, hp, by rw [ht2]; exact hP5, va_K.moved hW.alike hK⟩, hS1.F ht2⟩) hS1.2.2 dL_feed_22)
    · refine cq_catch (own := RL) (name := "java/lang/UnsupportedOperationException") hown [⟨0, 16, 19, 13⟩] ⟨0, 16, 23, 15⟩ [] htab (fun z hz => by rw [List.mem_singleton] at hz; subst hz; exact Or.inr ⟨by decide, "java/lang/IllegalArgumentException", hts0 _ mL_L_13, by rw [hE]; exact hNC.1⟩) (by decide) (by decide) (hts0 _ mL_L_15) (by rw [hE]; exact va_Nw.use rfl hTH.2.2.2.1) hce hcv hcl ?_
      refine lv_astore (lv' := [(7, .ref q9), (0, .ref (ad 0)), (1, .int x1), (2, .int x2), (3, .int x3), (4, .int x4), (5, .int x5), (6, .ref (ad 80))]) hx hb dL_feed_23 hl (by decide) rfl (fun ls hl => ?_)
      refine lv_iconst (v := 2) hx hb dL_feed_25 (by decide) ?_
      exact vx_ret (W.iret (v := 2) hx hb hr (fun t2 ht2 hW => ⟨⟨2, (u4, f), rfl, hp, by rw [ht2]; exact hP5, va_K.moved hW.alike hK⟩, hS1.F ht2⟩) hS1.2.2 dL_feed_26)
  · obtain ⟨hP4, hK4⟩ := hB
    rw [ht] at hP4
    have hP5 : va_P D vwCl (wH ad cs (u3, f)) H1 := va_P.app hP4 (out_kept (q := (u, f)) hP (hk1 (ad 80) (vx_lt hP (k := 39) rfl) (fun h => h.2 rfl)))
    refine lv_i2l hx hb dL_feed_14 rfl ?_
    refine va_last (D := D) (tys := tysH cs) hx hb hK hP5 (wH_D hD0) hS1 39 31 rfl rfl (show vp_in 0 1 from vp_in_iff.mpr (by decide)) dL_feed_15 (fun H6 locs6 hP6 hD6 hS6 => ?_)
    refine lv_goto (tgt := 27) hx hb dL_feed_16 (by decide) ?_
    refine lv_iconst (v := 0) hx hb dL_feed_27 (by decide) ?_
    exact vx_ret (W.iret (v := 0) hx hb hr (fun t2 ht2 hW => ⟨⟨0, (u3, vp_updL f 0 r.toInt64), rfl, hp, by rw [ht2]; exact hP6, va_K.moved hW.alike hK⟩, hS6.F ht2⟩) hS6.2.2 dL_feed_28)
theorem mH_L_run : Cond.codeWith yL_run cL_run 7 (some .int) [(0, 14, 17, 21), (0, 14, 21, 13)] ∈ W0 := w0_3 195 rfl (by decide +kernel)
set_option maxHeartbeats 4000000 in
set_option maxRecDepth 20000 in
theorem h_run {l : Launch} (hl1 : l.stackTraces = false) {D : va_G} {A : Nat → Prop} {ad : Nat → Nat} {cs : Nat → ClassId} (u : St) (f : Nat → Int64) (hD0 : va_D A (wH ad cs (u, f))) (x1 : Int32) (x2 : Int32) (x3 : Int32) (x4 : Int32) (post : Int32 → St × (Nat → Int64) → Prop) (hw : wp_X6_run u x1 x2 x3 x4 (fun r u2 => post 0 (u2, vp_updL f 0 r.toInt64)) (fun E u2 => (E = "java/lang/IllegalStateException" ∧ post 1 (u2, f)) ∨ (E = "java/lang/IllegalArgumentException" ∧ post 2 (u2, f)))) : vx_Met l yL_run (.codeWith yL_run cL_run 7 (some .int) [(0, 14, 17, 21), (0, 14, 21, 13)] :: W0) (rmt 7 161) (PH D A ad cs (u, f) [.ref (ad 0), .int x1, .int x2, .int x3, .int x4, .ref (ad 80)]) (va_Qi post (BH D ad cs) A) (vx_X (fun _ : Unit => False) (fun _ _ _ => False) A) 1 6 A := by
  refine vx_ofWH (cc := cL_run) (maxL := 7) (ret := (some .int)) (hh := [(0, 14, 17, 21), (0, 14, 21, 13)]) (by decide) rfl ?_
  intro p e s m args below meth c s₁ B hml hv
  obtain ⟨rfl, hP, hK, hSG, hTH, hNC⟩ := hv
  have hts := atoms_spec (ws := .codeWith yL_run cL_run 7 (some .int) [(0, 14, 17, 21), (0, 14, 21, 13)] :: W0) B.pre
  have hts0 : ∀ w ∈ W0, w.before ([.ref (ad 0), .int x1, .int x2, .int x3, .int x4, .ref (ad 80)] : List Value).toArray s = true := fun w h => hts w (List.mem_cons_of_mem _ h)
  have hgd := pay_in hts0 (W0_good (fun _ h => h))
  have hown : s.vm.findClass RL = some m.cls := findClass_of_methodNamed B.named
  have htab := vx_table (x := yL_law) B (hts _ List.mem_cons_self)
  have hx := B.exec
  have hb := B.bytes
  have hr := B.returns
  have hlocks := B.notSynchronized
  have hl := lv_entry ([.ref (ad 0), .int x1, .int x2, .int x3, .int x4, .ref (ad 80)]) (n := 7) (Nat.le_of_ble_eq_true rfl)
  rw [lg_entry_eq]
  generalize (lg_sl ([.ref (ad 0), .int x1, .int x2, .int x3, .int x4, .ref (ad 80)]) ++ List.replicate (7 - (lg_sl ([.ref (ad 0), .int x1, .int x2, .int x3, .int x4, .ref (ad 80)])).length) Slot.unset).toArray = ls at hl ⊢
  have hl : lv_has ls 7 [(0, .ref (ad 0)), (1, .int x1), (2, .int x2), (3, .int x3), (4, .int x4), (5, .ref (ad 80))] := hl
  have hS : va_S A s.heap s.heap [] := va_S.rf
  have hPc : va_P D vwCl (wC ad cs u) s.heap := hP.sub [0, 1, 2, 3, 4, 5, 6, 7, 8, 9, 10, 11, 12, 13, 14, 15, 16, 17, 18, 19, 20, 21, 22, 23, 24, 25, 26, 27, 28, 29, 30, 31, 32, 33, 34, 35, 36, 37, 38] rfl
  have hDc : va_D A (wC ad cs u) := hD0.sub [0, 1, 2, 3, 4, 5, 6, 7, 8, 9, 10, 11, 12, 13, 14, 15, 16, 17, 18, 19, 20, 21, 22, 23, 24, 25, 26, 27, 28, 29, 30, 31, 32, 33, 34, 35, 36, 37, 38] (by decide) rfl
  have hKc : va_K D vwCl (tysC cs) s := hK.sub [0, 1, 2, 3, 4, 5, 6, 7, 8, 9, 10, 11, 12, 13, 14, 15, 16, 17, 18, 19, 20, 21, 22, 23, 24, 25, 26, 27, 28, 29, 30] rfl
  refine lv_aload hx hb dL_run_0 (lv_at hl 5 rfl) ?_
  refine lv_iconst (v := 0) hx hb dL_run_2 (by decide) ?_
  refine lv_aload_n hx hb dL_run_3 rfl (lv_at hl 0 rfl) ?_
  refine lv_iload_n hx hb dL_run_4 rfl (lv_at hl 1 rfl) ?_
  refine lv_iload_n hx hb dL_run_5 rfl (lv_at hl 2 rfl) ?_
  refine lv_iload_n hx hb dL_run_6 rfl (lv_at hl 3 rfl) ?_
  refine lv_iload hx hb dL_run_7 (lv_at hl 4 rfl) ?_
  refine vx_calli (vx_runV (y := yX6_run) (As := [.int x1, .int x2, .int x3, .int x4]) (rest := [.int 0, .ref (ad 80)]) ⟨hx, hb, hml, hown, hts0⟩ (c_X6_run (A := fun x => A x ∧ x ≠ ad 80) hl1 (fun _ => wC_D (wH_A1 hD0)) u x1 x2 x3 x4 _ _ hw) ⟨⟨rfl, rfl, by decide, by decide, fun w h => (List.mem_cons.mp h).elim (fun e => by rw [e]; exact hgd _ mC_X6_run) (hgd w), List.mem_cons_self, hts0 _ mC_X6_run, hts0 _ mZ_X6, by decide +kernel, fun sig h => ?hsig, hts0 _ mM_L_17⟩, hts0 _ mI_X6_run, hts0 _ mS_X6_run⟩ ⟨pt_blind, va_recv hK hP (ci := 6) (q0 := 0) rfl rfl, fun U hU hW => ⟨rfl, by rw [hU]; exact hPc, va_K.moved hW.alike hKc, sg_narrow (sg_at hSG hS hU hW) (fun _ h => h.1), th_narrow (th_at hTH hS hU hW) (fun _ h => h.1)⟩⟩ rfl rfl hl.1 rfl (lv_room (Nat.le_of_ble_eq_true rfl)) dL_run_9 ⟨by decide, by decide⟩) hS (fun q _ h => h.1) (fun q h => h.1) (fun q _ h => h.1) (fun E ce q9 u3 t H1 locs1 ht hvm hp hB hz1 hk1 hS1 hce hcv hcl => ?_) (fun r u3 t H1 locs1 ht hvm hp hB hz1 hk1 hS1 => ?_)
  case hsig =>
    have h2 : (parseMethodDescriptor yX6_run.desc).map (fun d => d.parameters.length) = some 4 := by decide +kernel
    rw [h] at h2
    exact (Option.some.inj h2).symm
  · obtain ⟨E2, u4⟩ := u3
    obtain ⟨rfl, hP4, hK4⟩ := hB
    rw [ht] at hP4
    have hK4 := va_K.moved hvm.symm hK4
    have hP5 : va_P D vwCl (wH ad cs (u4, f)) H1 := va_P.app hP4 (out_kept (q := (u, f)) hP (hk1 (ad 80) (vx_lt hP (k := 39) rfl) (fun h => h.2 rfl)))
    rcases hp with ⟨hE, hp⟩ | ⟨hE, hp⟩
    · refine cq_catch (own := RL) (name := "java/lang/IllegalStateException") hown [] ⟨0, 14, 17, 21⟩ [⟨0, 14, 21, 13⟩] htab (fun z hz => by cases hz) (by decide) (by decide) (hts0 _ mL_L_21) (by rw [hE]; exact va_Nw.use rfl hTH.2.2.2.2.1) hce hcv hcl ?_
      refine lv_astore (lv' := [(6, .ref q9), (0, .ref (ad 0)), (1, .int x1), (2, .int x2), (3, .int x3), (4, .int x4), (5, .ref (ad 80))]) hx hb dL_run_17 hl (by decide) rfl (fun ls hl => ?_)
      refine lv_iconst (v := 1) hx hb dL_run_19 (by decide) ?_
      exact vx_ret (W.iret (v := 1) hx hb hr (fun t2 ht2 hW => ⟨⟨1, (u4, f), rfl, hp, by rw [ht2]; exact hP5, va_K.moved hW.alike hK⟩, hS1.F ht2⟩) hS1.2.2 dL_run_20)
    · refine cq_catch (own := RL) (name := "java/lang/IllegalArgumentException") hown [⟨0, 14, 17, 21⟩] ⟨0, 14, 21, 13⟩ [] htab (fun z hz => by rw [List.mem_singleton] at hz; subst hz; exact Or.inr ⟨by decide, "java/lang/IllegalStateException", hts0 _ mL_L_21, by rw [hE]; exact hNC.2⟩) (by decide) (by decide) (hts0 _ mL_L_13) (by rw [hE]; exact va_Nw.use rfl hTH.2.2.1) hce hcv hcl ?_
      refine lv_astore (lv' := [(6, .ref q9), (0, .ref (ad 0)), (1, .int x1), (2, .int x2), (3, .int x3), (4, .int x4), (5, .ref (ad 80))]) hx hb dL_run_21 hl (by decide) rfl (fun ls hl => ?_)
      refine lv_iconst (v := 2) hx hb dL_run_23 (by decide) ?_
      exact vx_ret (W.iret (v := 2) hx hb hr (fun t2 ht2 hW => ⟨⟨2, (u4, f), rfl, hp, by rw [ht2]; exact hP5, va_K.moved hW.alike hK⟩, hS1.F ht2⟩) hS1.2.2 dL_run_24)
  · obtain ⟨hP4, hK4⟩ := hB
    rw [ht] at hP4
    have hP5 : va_P D vwCl (wH ad cs (u3, f)) H1 := va_P.app hP4 (out_kept (q := (u, f)) hP (hk1 (ad 80) (vx_lt hP (k := 39) rfl) (fun h => h.2 rfl)))
    refine lv_i2l hx hb dL_run_12 rfl ?_
    refine va_last (D := D) (tys := tysH cs) hx hb hK hP5 (wH_D hD0) hS1 39 31 rfl rfl (show vp_in 0 1 from vp_in_iff.mpr (by decide)) dL_run_13 (fun H6 locs6 hP6 hD6 hS6 => ?_)
    refine lv_goto (tgt := 25) hx hb dL_run_14 (by decide) ?_
    refine lv_iconst (v := 0) hx hb dL_run_25 (by decide) ?_
    exact vx_ret (W.iret (v := 0) hx hb hr (fun t2 ht2 hW => ⟨⟨0, (u3, vp_updL f 0 r.toInt64), rfl, hp, by rw [ht2]; exact hP6, va_K.moved hW.alike hK⟩, hS6.F ht2⟩) hS6.2.2 dL_run_26)
theorem mH_L_count : Cond.codeWith yL_count cL_count 4 (some .int) [(0, 9, 12, 27)] ∈ W0 := w0_4 119 rfl (by decide +kernel)
set_option maxHeartbeats 4000000 in
set_option maxRecDepth 20000 in
theorem h_count {l : Launch} (hl1 : l.stackTraces = false) {D : va_G} {A : Nat → Prop} {ad : Nat → Nat} {cs : Nat → ClassId} (u : St) (f : Nat → Int64) (hD0 : va_D A (wH ad cs (u, f))) (x1 : Int32) (post : Int32 → St × (Nat → Int64) → Prop) (hw : wp_X6_count u x1 (fun r u2 => post 0 (u2, vp_updL f 0 r.toInt64)) (fun E u2 => (E = "java/lang/IndexOutOfBoundsException" ∧ post 1 (u2, f)))) : vx_Met l yL_count (.codeWith yL_count cL_count 4 (some .int) [(0, 9, 12, 27)] :: W0) (rmt 7 102) (PH D A ad cs (u, f) [.ref (ad 0), .int x1, .ref (ad 80)]) (va_Qi post (BH D ad cs) A) (vx_X (fun _ : Unit => False) (fun _ _ _ => False) A) 1 6 A := by
  refine vx_ofWH (cc := cL_count) (maxL := 4) (ret := (some .int)) (hh := [(0, 9, 12, 27)]) (by decide) rfl ?_
  intro p e s m args below meth c s₁ B hml hv
  obtain ⟨rfl, hP, hK, hSG, hTH, hNC⟩ := hv
  have hts := atoms_spec (ws := .codeWith yL_count cL_count 4 (some .int) [(0, 9, 12, 27)] :: W0) B.pre
  have hts0 : ∀ w ∈ W0, w.before ([.ref (ad 0), .int x1, .ref (ad 80)] : List Value).toArray s = true := fun w h => hts w (List.mem_cons_of_mem _ h)
  have hgd := pay_in hts0 (W0_good (fun _ h => h))
  have hown : s.vm.findClass RL = some m.cls := findClass_of_methodNamed B.named
  have htab := vx_table (x := yL_law) B (hts _ List.mem_cons_self)
  have hx := B.exec
  have hb := B.bytes
  have hr := B.returns
  have hlocks := B.notSynchronized
  have hl := lv_entry ([.ref (ad 0), .int x1, .ref (ad 80)]) (n := 4) (Nat.le_of_ble_eq_true rfl)
  rw [lg_entry_eq]
  generalize (lg_sl ([.ref (ad 0), .int x1, .ref (ad 80)]) ++ List.replicate (4 - (lg_sl ([.ref (ad 0), .int x1, .ref (ad 80)])).length) Slot.unset).toArray = ls at hl ⊢
  have hl : lv_has ls 4 [(0, .ref (ad 0)), (1, .int x1), (2, .ref (ad 80))] := hl
  have hS : va_S A s.heap s.heap [] := va_S.rf
  have hPc : va_P D vwCl (wC ad cs u) s.heap := hP.sub [0, 1, 2, 3, 4, 5, 6, 7, 8, 9, 10, 11, 12, 13, 14, 15, 16, 17, 18, 19, 20, 21, 22, 23, 24, 25, 26, 27, 28, 29, 30, 31, 32, 33, 34, 35, 36, 37, 38] rfl
  have hDc : va_D A (wC ad cs u) := hD0.sub [0, 1, 2, 3, 4, 5, 6, 7, 8, 9, 10, 11, 12, 13, 14, 15, 16, 17, 18, 19, 20, 21, 22, 23, 24, 25, 26, 27, 28, 29, 30, 31, 32, 33, 34, 35, 36, 37, 38] (by decide) rfl
  have hKc : va_K D vwCl (tysC cs) s := hK.sub [0, 1, 2, 3, 4, 5, 6, 7, 8, 9, 10, 11, 12, 13, 14, 15, 16, 17, 18, 19, 20, 21, 22, 23, 24, 25, 26, 27, 28, 29, 30] rfl
  refine lv_aload_n hx hb dL_count_0 rfl (lv_at hl 2 rfl) ?_
  refine lv_iconst (v := 0) hx hb dL_count_1 (by decide) ?_
  refine lv_aload_n hx hb dL_count_2 rfl (lv_at hl 0 rfl) ?_
  refine lv_iload_n hx hb dL_count_3 rfl (lv_at hl 1 rfl) ?_
  refine vx_calli (vx_runV (y := yX6_count) (As := [.int x1]) (rest := [.int 0, .ref (ad 80)]) ⟨hx, hb, hml, hown, hts0⟩ (c_X6_count (A := fun x => A x ∧ x ≠ ad 80) hl1 (fun _ => wC_D (wH_A1 hD0)) u x1 _ _ hw) ⟨⟨rfl, rfl, by decide, by decide, fun w h => (List.mem_cons.mp h).elim (fun e => by rw [e]; exact hgd _ mC_X6_count) (hgd w), List.mem_cons_self, hts0 _ mC_X6_count, hts0 _ mZ_X6, by decide +kernel, fun sig h => ?hsig, hts0 _ mM_L_23⟩, hts0 _ mI_X6_count, hts0 _ mS_X6_count⟩ ⟨pt_blind, va_recv hK hP (ci := 6) (q0 := 0) rfl rfl, fun U hU hW => ⟨rfl, by rw [hU]; exact hPc, va_K.moved hW.alike hKc, sg_narrow (sg_at hSG hS hU hW) (fun _ h => h.1), th_narrow (th_at hTH hS hU hW) (fun _ h => h.1)⟩⟩ rfl rfl hl.1 rfl (lv_room (Nat.le_of_ble_eq_true rfl)) dL_count_4 ⟨by decide, by decide⟩) hS (fun q _ h => h.1) (fun q h => h.1) (fun q _ h => h.1) (fun E ce q9 u3 t H1 locs1 ht hvm hp hB hz1 hk1 hS1 hce hcv hcl => ?_) (fun r u3 t H1 locs1 ht hvm hp hB hz1 hk1 hS1 => ?_)
  case hsig =>
    have h2 : (parseMethodDescriptor yX6_count.desc).map (fun d => d.parameters.length) = some 1 := by decide +kernel
    rw [h] at h2
    exact (Option.some.inj h2).symm
  · obtain ⟨E2, u4⟩ := u3
    obtain ⟨rfl, hP4, hK4⟩ := hB
    rw [ht] at hP4
    have hK4 := va_K.moved hvm.symm hK4
    have hP5 : va_P D vwCl (wH ad cs (u4, f)) H1 := va_P.app hP4 (out_kept (q := (u, f)) hP (hk1 (ad 80) (vx_lt hP (k := 39) rfl) (fun h => h.2 rfl)))
    obtain ⟨hE, hp⟩ := hp
    refine cq_catch (own := RL) (name := "java/lang/IndexOutOfBoundsException") hown [] ⟨0, 9, 12, 27⟩ [] htab (fun z hz => by cases hz) (by decide) (by decide) (hts0 _ mL_L_27) (by rw [hE]; exact va_Nw.use rfl hTH.2.2.2.2.2.1) hce hcv hcl ?_
    refine lv_astore_n (lv' := [(3, .ref q9), (0, .ref (ad 0)), (1, .int x1), (2, .ref (ad 80))]) hx hb dL_count_12 rfl hl (by decide) rfl (fun ls hl => ?_)
    refine lv_iconst (v := 1) hx hb dL_count_13 (by decide) ?_
    exact vx_ret (W.iret (v := 1) hx hb hr (fun t2 ht2 hW => ⟨⟨1, (u4, f), rfl, hp, by rw [ht2]; exact hP5, va_K.moved hW.alike hK⟩, hS1.F ht2⟩) hS1.2.2 dL_count_14)
  · obtain ⟨hP4, hK4⟩ := hB
    rw [ht] at hP4
    have hP5 : va_P D vwCl (wH ad cs (u3, f)) H1 := va_P.app hP4 (out_kept (q := (u, f)) hP (hk1 (ad 80) (vx_lt hP (k := 39) rfl) (fun h => h.2 rfl)))
    refine lv_i2l hx hb dL_count_7 rfl ?_
    refine va_last (D := D) (tys := tysH cs) hx hb hK hP5 (wH_D hD0) hS1 39 31 rfl rfl (show vp_in 0 1 from vp_in_iff.mpr (by decide)) dL_count_8 (fun H6 locs6 hP6 hD6 hS6 => ?_)
    refine lv_goto (tgt := 15) hx hb dL_count_9 (by decide) ?_
    refine lv_iconst (v := 0) hx hb dL_count_15 (by decide) ?_
    exact vx_ret (W.iret (v := 0) hx hb hr (fun t2 ht2 hW => ⟨⟨0, (u3, vp_updL f 0 r.toInt64), rfl, hp, by rw [ht2]; exact hP6, va_K.moved hW.alike hK⟩, hS6.F ht2⟩) hS6.2.2 dL_count_16)
theorem mH_L_definition : Cond.codeWith yL_definition cL_definition 5 (some .int) [(0, 10, 13, 27)] ∈ W0 := w0_4 142 rfl (by decide +kernel)
set_option maxHeartbeats 4000000 in
set_option maxRecDepth 20000 in
theorem h_definition {l : Launch} (hl1 : l.stackTraces = false) {D : va_G} {A : Nat → Prop} {ad : Nat → Nat} {cs : Nat → ClassId} (u : St) (f : Nat → Int64) (hD0 : va_D A (wH ad cs (u, f))) (x1 : Int32) (x2 : Int32) (post : Int32 → St × (Nat → Int64) → Prop) (hw : wp_X6_definition u x1 x2 (fun r u2 => post 0 (u2, vp_updL f 0 r.toInt64)) (fun E u2 => (E = "java/lang/IndexOutOfBoundsException" ∧ post 1 (u2, f)))) : vx_Met l yL_definition (.codeWith yL_definition cL_definition 5 (some .int) [(0, 10, 13, 27)] :: W0) (rmt 7 103) (PH D A ad cs (u, f) [.ref (ad 0), .int x1, .int x2, .ref (ad 80)]) (va_Qi post (BH D ad cs) A) (vx_X (fun _ : Unit => False) (fun _ _ _ => False) A) 1 6 A := by
  refine vx_ofWH (cc := cL_definition) (maxL := 5) (ret := (some .int)) (hh := [(0, 10, 13, 27)]) (by decide) rfl ?_
  intro p e s m args below meth c s₁ B hml hv
  obtain ⟨rfl, hP, hK, hSG, hTH, hNC⟩ := hv
  have hts := atoms_spec (ws := .codeWith yL_definition cL_definition 5 (some .int) [(0, 10, 13, 27)] :: W0) B.pre
  have hts0 : ∀ w ∈ W0, w.before ([.ref (ad 0), .int x1, .int x2, .ref (ad 80)] : List Value).toArray s = true := fun w h => hts w (List.mem_cons_of_mem _ h)
  have hgd := pay_in hts0 (W0_good (fun _ h => h))
  have hown : s.vm.findClass RL = some m.cls := findClass_of_methodNamed B.named
  have htab := vx_table (x := yL_law) B (hts _ List.mem_cons_self)
  have hx := B.exec
  have hb := B.bytes
  have hr := B.returns
  have hlocks := B.notSynchronized
  have hl := lv_entry ([.ref (ad 0), .int x1, .int x2, .ref (ad 80)]) (n := 5) (Nat.le_of_ble_eq_true rfl)
  rw [lg_entry_eq]
  generalize (lg_sl ([.ref (ad 0), .int x1, .int x2, .ref (ad 80)]) ++ List.replicate (5 - (lg_sl ([.ref (ad 0), .int x1, .int x2, .ref (ad 80)])).length) Slot.unset).toArray = ls at hl ⊢
  have hl : lv_has ls 5 [(0, .ref (ad 0)), (1, .int x1), (2, .int x2), (3, .ref (ad 80))] := hl
  have hS : va_S A s.heap s.heap [] := va_S.rf
  have hPc : va_P D vwCl (wC ad cs u) s.heap := hP.sub [0, 1, 2, 3, 4, 5, 6, 7, 8, 9, 10, 11, 12, 13, 14, 15, 16, 17, 18, 19, 20, 21, 22, 23, 24, 25, 26, 27, 28, 29, 30, 31, 32, 33, 34, 35, 36, 37, 38] rfl
  have hDc : va_D A (wC ad cs u) := hD0.sub [0, 1, 2, 3, 4, 5, 6, 7, 8, 9, 10, 11, 12, 13, 14, 15, 16, 17, 18, 19, 20, 21, 22, 23, 24, 25, 26, 27, 28, 29, 30, 31, 32, 33, 34, 35, 36, 37, 38] (by decide) rfl
  have hKc : va_K D vwCl (tysC cs) s := hK.sub [0, 1, 2, 3, 4, 5, 6, 7, 8, 9, 10, 11, 12, 13, 14, 15, 16, 17, 18, 19, 20, 21, 22, 23, 24, 25, 26, 27, 28, 29, 30] rfl
  refine lv_aload_n hx hb dL_definition_0 rfl (lv_at hl 3 rfl) ?_
  refine lv_iconst (v := 0) hx hb dL_definition_1 (by decide) ?_
  refine lv_aload_n hx hb dL_definition_2 rfl (lv_at hl 0 rfl) ?_
  refine lv_iload_n hx hb dL_definition_3 rfl (lv_at hl 1 rfl) ?_
  refine lv_iload_n hx hb dL_definition_4 rfl (lv_at hl 2 rfl) ?_
  refine vx_calli (vx_runV (y := yX6_definition) (As := [.int x1, .int x2]) (rest := [.int 0, .ref (ad 80)]) ⟨hx, hb, hml, hown, hts0⟩ (c_X6_definition (A := fun x => A x ∧ x ≠ ad 80) hl1 (fun _ => wC_D (wH_A1 hD0)) u x1 x2 _ _ hw) ⟨⟨rfl, rfl, by decide, by decide, fun w h => (List.mem_cons.mp h).elim (fun e => by rw [e]; exact hgd _ mC_X6_definition) (hgd w), List.mem_cons_self, hts0 _ mC_X6_definition, hts0 _ mZ_X6, by decide +kernel, fun sig h => ?hsig, hts0 _ mM_L_29⟩, hts0 _ mI_X6_definition, hts0 _ mS_X6_definition⟩ ⟨pt_blind, va_recv hK hP (ci := 6) (q0 := 0) rfl rfl, fun U hU hW => ⟨rfl, by rw [hU]; exact hPc, va_K.moved hW.alike hKc, sg_narrow (sg_at hSG hS hU hW) (fun _ h => h.1), th_narrow (th_at hTH hS hU hW) (fun _ h => h.1)⟩⟩ rfl rfl hl.1 rfl (lv_room (Nat.le_of_ble_eq_true rfl)) dL_definition_5 ⟨by decide, by decide⟩) hS (fun q _ h => h.1) (fun q h => h.1) (fun q _ h => h.1) (fun E ce q9 u3 t H1 locs1 ht hvm hp hB hz1 hk1 hS1 hce hcv hcl => ?_) (fun r u3 t H1 locs1 ht hvm hp hB hz1 hk1 hS1 => ?_)
  case hsig =>
    have h2 : (parseMethodDescriptor yX6_definition.desc).map (fun d => d.parameters.length) = some 2 := by decide +kernel
    rw [h] at h2
    exact (Option.some.inj h2).symm
  · obtain ⟨E2, u4⟩ := u3
    obtain ⟨rfl, hP4, hK4⟩ := hB
    rw [ht] at hP4
    have hK4 := va_K.moved hvm.symm hK4
    have hP5 : va_P D vwCl (wH ad cs (u4, f)) H1 := va_P.app hP4 (out_kept (q := (u, f)) hP (hk1 (ad 80) (vx_lt hP (k := 39) rfl) (fun h => h.2 rfl)))
    obtain ⟨hE, hp⟩ := hp
    refine cq_catch (own := RL) (name := "java/lang/IndexOutOfBoundsException") hown [] ⟨0, 10, 13, 27⟩ [] htab (fun z hz => by cases hz) (by decide) (by decide) (hts0 _ mL_L_27) (by rw [hE]; exact va_Nw.use rfl hTH.2.2.2.2.2.1) hce hcv hcl ?_
    refine lv_astore (lv' := [(4, .ref q9), (0, .ref (ad 0)), (1, .int x1), (2, .int x2), (3, .ref (ad 80))]) hx hb dL_definition_13 hl (by decide) rfl (fun ls hl => ?_)
    refine lv_iconst (v := 1) hx hb dL_definition_15 (by decide) ?_
    exact vx_ret (W.iret (v := 1) hx hb hr (fun t2 ht2 hW => ⟨⟨1, (u4, f), rfl, hp, by rw [ht2]; exact hP5, va_K.moved hW.alike hK⟩, hS1.F ht2⟩) hS1.2.2 dL_definition_16)
  · obtain ⟨hP4, hK4⟩ := hB
    rw [ht] at hP4
    have hP5 : va_P D vwCl (wH ad cs (u3, f)) H1 := va_P.app hP4 (out_kept (q := (u, f)) hP (hk1 (ad 80) (vx_lt hP (k := 39) rfl) (fun h => h.2 rfl)))
    refine lv_i2l hx hb dL_definition_8 rfl ?_
    refine va_last (D := D) (tys := tysH cs) hx hb hK hP5 (wH_D hD0) hS1 39 31 rfl rfl (show vp_in 0 1 from vp_in_iff.mpr (by decide)) dL_definition_9 (fun H6 locs6 hP6 hD6 hS6 => ?_)
    refine lv_goto (tgt := 17) hx hb dL_definition_10 (by decide) ?_
    refine lv_iconst (v := 0) hx hb dL_definition_17 (by decide) ?_
    exact vx_ret (W.iret (v := 0) hx hb hr (fun t2 ht2 hW => ⟨⟨0, (u3, vp_updL f 0 r.toInt64), rfl, hp, by rw [ht2]; exact hP6, va_K.moved hW.alike hK⟩, hS6.F ht2⟩) hS6.2.2 dL_definition_18)
