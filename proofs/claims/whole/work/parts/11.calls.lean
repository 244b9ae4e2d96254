/-! 11.calls: what a method's contract is; how it is met by a walk; how it is called -/
def rtI (X : XX) (cc : ByteArray) (wf : St → va_W) (post : Int32 → St → Prop) : Prop := ∀ (v : Int32) (u : St) (pc : Nat) (lv : List (Nat × Value)), decode cc pc = .ok (.ireturn, 1) → post v u → Z X (wf u) pc lv [.int v]
def rtZ (X : XX) (cc : ByteArray) (wf : St → va_W) (post : Int32 → St → Prop) : Prop := ∀ (v : Int32) (u : St) (pc : Nat) (lv : List (Nat × Value)), decode cc pc = .ok (.ireturn, 1) → bz v ∧ post v u → Z X (wf u) pc lv [.int v]
def rtL (X : XX) (cc : ByteArray) (wf : St → va_W) (post : Int64 → St → Prop) : Prop := ∀ (v : Int64) (u : St) (pc : Nat) (lv : List (Nat × Value)), decode cc pc = .ok (.lreturn, 1) → post v u → Z X (wf u) pc lv [.long v]
def rtV (X : XX) (cc : ByteArray) (wf : St → va_W) (post : St → Prop) : Prop := ∀ (u : St) (pc : Nat) (lv : List (Nat × Value)), decode cc pc = .ok (.return_, 1) → post u → Z X (wf u) pc lv []
def PP (sg : Nat × Nat) (D : va_G) (tys : List (ClassId × FieldType)) (A : Nat → Prop) (wf : St → va_W) (u : St) (As : List Value) : Array Value → State → Prop := va_Pc As (fun U => va_P D vwCl (wf u) U.heap ∧ va_K D vwCl tys U ∧ SG sg A U)
def BB (D : va_G) (tys : List (ClassId × FieldType)) (wf : St → va_W) : St → State → Prop := fun u t => va_P D vwCl (wf u) t.heap ∧ va_K D vwCl tys t
def MI (sg : Nat × Nat) (l : Launch) (y : MethodName) (cc : ByteArray) (maxL : Nat) (ret : Option FieldType) (rm : Room) (D : va_G) (tys : List (ClassId × FieldType)) (A : Nat → Prop) (wf : St → va_W) (u : St) (As : List Value) (post : Int32 → St → Prop) : Prop := Met l y (.code y cc maxL ret :: W0) rm (PP sg D tys A wf u As) (va_Qi post (BB D tys wf) A) 0 0 A
def ML (sg : Nat × Nat) (l : Launch) (y : MethodName) (cc : ByteArray) (maxL : Nat) (ret : Option FieldType) (rm : Room) (D : va_G) (tys : List (ClassId × FieldType)) (A : Nat → Prop) (wf : St → va_W) (u : St) (As : List Value) (post : Int64 → St → Prop) : Prop := Met l y (.code y cc maxL ret :: W0) rm (PP sg D tys A wf u As) (va_Ql post (BB D tys wf) A) 0 0 A
def MV (sg : Nat × Nat) (l : Launch) (y : MethodName) (cc : ByteArray) (maxL : Nat) (ret : Option FieldType) (rm : Room) (D : va_G) (tys : List (ClassId × FieldType)) (A : Nat → Prop) (wf : St → va_W) (u : St) (As : List Value) (post : St → Prop) : Prop := Met l y (.code y cc maxL ret :: W0) rm (PP sg D tys A wf u As) (va_Qv post (BB D tys wf) A) 0 0 A
def xl (X : XX) : Launch := match X with
  | (_, l, _, _, _, _, _, _, _, _, _, _, _, _, _, _) => l
def xD (X : XX) : va_G := match X with
  | (_, _, _, _, _, _, _, _, _, _, _, D, _, _, _, _) => D
def rmm (fr lo : Nat) : Room := { frames := fr, cells := 0, slots := 0, locals := lo }
theorem pp_blind {sg : Nat × Nat} {A : Nat → Prop} {D : va_G} {tys : List (ClassId × FieldType)} {wf : St → va_W} {u : St} {As : List Value} : FrameBlind (PP sg D tys A wf u As) := fun a U g mk q => by
  obtain ⟨h1, h2, h3, h4⟩ := q
  exact ⟨h1, h2, va_K.moved (u := U) (U := U.calling g mk a) (Vm.Alike.refl U.vm) h3, sg_same h4⟩
theorem met_i {sg : Nat × Nat} {l : Launch} {y : MethodName} {cc : ByteArray} {maxL fr lo : Nat} {D : va_G} {tys : List (ClassId × FieldType)} {A : Nat → Prop} {wf : St → va_W} {u : St} {As : List Value} {post : Int32 → St → Prop} (hy : plainName y.cls = true) (hn : (lg_sl As).length ≤ maxL)
    (body : ∀ X : XX, Cx X cc y.cls fr lo → xl X = l → xD X = D → xtys X = tys → xA X = A → xnL X = maxL → xsg X = sg → rtI X cc wf post → Z X (wf u) 0 (lv_args 0 As) []) : MI sg l y cc maxL (some .int) (rmm fr lo) D tys A wf u As post := by
  refine Met.ofW (cc := cc) (maxL := maxL) (ret := (some .int)) hy rfl ?_
  intro p e s m args below meth c s₁ B hml hv
  obtain ⟨rfl, hP, hK, hSG⟩ := hv
  have hts := atoms_spec (ws := .code y cc maxL (some .int) :: W0) B.pre
  have hts0 : ∀ w ∈ W0, w.before As.toArray s = true := fun w h => hts w (List.mem_cons_of_mem _ h)
  have hR : rtI (p, l, e, (headSpec (.code y cc maxL (some .int) :: W0) (rmm fr lo)).room, s, m, As.toArray, below, meth, c, MQ below (va_Qi post (BB D tys wf) A) As.toArray s 0 0 A, D, tys, A, maxL, sg) cc wf post := by
    intro v u2 pc lv hdg hp H2 locs2 ls2 hP2 hS2 hl2
    exact W.iret B.exec B.bytes B.returns (fun t ht hW => ⟨⟨v, u2, rfl, hp, by rw [ht]; exact hP2, va_K.moved hW.alike hK⟩, hS2.F ht⟩) hS2.2.2 hdg (hlocks := B.notSynchronized)
  have hb := body _ ⟨B.exec, B.bytes, hml, findClass_of_methodNamed B.named, hts0, pay_in hts0 (W0_good (fun _ h => h)), ⟨Nat.le_refl _, Nat.le_refl _⟩, hK, hSG⟩ rfl rfl rfl rfl rfl rfl hR
  rw [lg_entry_eq]
  exact hb s.heap [] _ hP va_S.rf (lv_entry As hn)
theorem met_z {sg : Nat × Nat} {l : Launch} {y : MethodName} {cc : ByteArray} {maxL fr lo : Nat} {D : va_G} {tys : List (ClassId × FieldType)} {A : Nat → Prop} {wf : St → va_W} {u : St} {As : List Value} {post : Int32 → St → Prop} (hy : plainName y.cls = true) (hn : (lg_sl As).length ≤ maxL)
    (body : ∀ X : XX, Cx X cc y.cls fr lo → xl X = l → xD X = D → xtys X = tys → xA X = A → xnL X = maxL → xsg X = sg → rtZ X cc wf post → Z X (wf u) 0 (lv_args 0 As) []) : MI sg l y cc maxL (some .boolean) (rmm fr lo) D tys A wf u As post := by
  refine Met.ofW (cc := cc) (maxL := maxL) (ret := (some .boolean)) hy rfl ?_
  intro p e s m args below meth c s₁ B hml hv
  obtain ⟨rfl, hP, hK, hSG⟩ := hv
  have hts := atoms_spec (ws := .code y cc maxL (some .boolean) :: W0) B.pre
  have hts0 : ∀ w ∈ W0, w.before As.toArray s = true := fun w h => hts w (List.mem_cons_of_mem _ h)
  have hR : rtZ (p, l, e, (headSpec (.code y cc maxL (some .boolean) :: W0) (rmm fr lo)).room, s, m, As.toArray, below, meth, c, MQ below (va_Qi post (BB D tys wf) A) As.toArray s 0 0 A, D, tys, A, maxL, sg) cc wf post := by
    intro v u2 pc lv hdg hp H2 locs2 ls2 hP2 hS2 hl2
    exact W.zret B.exec B.bytes B.returns (bz_nar hp.1) (fun t ht hW => ⟨⟨v, u2, rfl, hp.2, by rw [ht]; exact hP2, va_K.moved hW.alike hK⟩, hS2.F ht⟩) hS2.2.2 hdg (hlocks := B.notSynchronized)
  have hb := body _ ⟨B.exec, B.bytes, hml, findClass_of_methodNamed B.named, hts0, pay_in hts0 (W0_good (fun _ h => h)), ⟨Nat.le_refl _, Nat.le_refl _⟩, hK, hSG⟩ rfl rfl rfl rfl rfl rfl hR
  rw [lg_entry_eq]
  exact hb s.heap [] _ hP va_S.rf (lv_entry As hn)
theorem met_b {sg : Nat × Nat} {l : Launch} {y : MethodName} {cc : ByteArray} {maxL fr lo : Nat} {D : va_G} {tys : List (ClassId × FieldType)} {A : Nat → Prop} {wf : St → va_W} {u : St} {As : List Value} {post : Int32 → St → Prop} (hy : plainName y.cls = true) (hn : (lg_sl As).length ≤ maxL)
    (body : ∀ X : XX, Cx X cc y.cls fr lo → xl X = l → xD X = D → xtys X = tys → xA X = A → xnL X = maxL → xsg X = sg → rtZ X cc wf post → Z X (wf u) 0 (lv_args 0 As) []) : MI sg l y cc maxL (some .byte) (rmm fr lo) D tys A wf u As post := by
  refine Met.ofW (cc := cc) (maxL := maxL) (ret := (some .byte)) hy rfl ?_
  intro p e s m args below meth c s₁ B hml hv
  obtain ⟨rfl, hP, hK, hSG⟩ := hv
  have hts := atoms_spec (ws := .code y cc maxL (some .byte) :: W0) B.pre
  have hts0 : ∀ w ∈ W0, w.before As.toArray s = true := fun w h => hts w (List.mem_cons_of_mem _ h)
  have hR : rtZ (p, l, e, (headSpec (.code y cc maxL (some .byte) :: W0) (rmm fr lo)).room, s, m, As.toArray, below, meth, c, MQ below (va_Qi post (BB D tys wf) A) As.toArray s 0 0 A, D, tys, A, maxL, sg) cc wf post := by
    intro v u2 pc lv hdg hp H2 locs2 ls2 hP2 hS2 hl2
    exact W.zret B.exec B.bytes B.returns (bz_narB hp.1) (fun t ht hW => ⟨⟨v, u2, rfl, hp.2, by rw [ht]; exact hP2, va_K.moved hW.alike hK⟩, hS2.F ht⟩) hS2.2.2 hdg (hlocks := B.notSynchronized)
  have hb := body _ ⟨B.exec, B.bytes, hml, findClass_of_methodNamed B.named, hts0, pay_in hts0 (W0_good (fun _ h => h)), ⟨Nat.le_refl _, Nat.le_refl _⟩, hK, hSG⟩ rfl rfl rfl rfl rfl rfl hR
  rw [lg_entry_eq]
  exact hb s.heap [] _ hP va_S.rf (lv_entry As hn)
theorem met_l {sg : Nat × Nat} {l : Launch} {y : MethodName} {cc : ByteArray} {maxL fr lo : Nat} {D : va_G} {tys : List (ClassId × FieldType)} {A : Nat → Prop} {wf : St → va_W} {u : St} {As : List Value} {post : Int64 → St → Prop} (hy : plainName y.cls = true) (hn : (lg_sl As).length ≤ maxL)
    (body : ∀ X : XX, Cx X cc y.cls fr lo → xl X = l → xD X = D → xtys X = tys → xA X = A → xnL X = maxL → xsg X = sg → rtL X cc wf post → Z X (wf u) 0 (lv_args 0 As) []) : ML sg l y cc maxL (some .long) (rmm fr lo) D tys A wf u As post := by
  refine Met.ofW (cc := cc) (maxL := maxL) (ret := (some .long)) hy rfl ?_
  intro p e s m args below meth c s₁ B hml hv
  obtain ⟨rfl, hP, hK, hSG⟩ := hv
  have hts := atoms_spec (ws := .code y cc maxL (some .long) :: W0) B.pre
  have hts0 : ∀ w ∈ W0, w.before As.toArray s = true := fun w h => hts w (List.mem_cons_of_mem _ h)
  have hR : rtL (p, l, e, (headSpec (.code y cc maxL (some .long) :: W0) (rmm fr lo)).room, s, m, As.toArray, below, meth, c, MQ below (va_Ql post (BB D tys wf) A) As.toArray s 0 0 A, D, tys, A, maxL, sg) cc wf post := by
    intro v u2 pc lv hdg hp H2 locs2 ls2 hP2 hS2 hl2
    exact W.lret B.exec B.bytes B.returns (fun t ht hW => ⟨⟨v, u2, rfl, hp, by rw [ht]; exact hP2, va_K.moved hW.alike hK⟩, hS2.F ht⟩) hS2.2.2 hdg (hlocks := B.notSynchronized)
  have hb := body _ ⟨B.exec, B.bytes, hml, findClass_of_methodNamed B.named, hts0, pay_in hts0 (W0_good (fun _ h => h)), ⟨Nat.le_refl _, Nat.le_refl _⟩, hK, hSG⟩ rfl rfl rfl rfl rfl rfl hR
  rw [lg_entry_eq]
  exact hb s.heap [] _ hP va_S.rf (lv_entry As hn)
theorem met_v {sg : Nat × Nat} {l : Launch} {y : MethodName} {cc : ByteArray} {maxL fr lo : Nat} {D : va_G} {tys : List (ClassId × FieldType)} {A : Nat → Prop} {wf : St → va_W} {u : St} {As : List Value} {post : St → Prop} (hy : plainName y.cls = true) (hn : (lg_sl As).length ≤ maxL)
    (body : ∀ X : XX, Cx X cc y.cls fr lo → xl X = l → xD X = D → xtys X = tys → xA X = A → xnL X = maxL → xsg X = sg → rtV X cc wf post → Z X (wf u) 0 (lv_args 0 As) []) : MV sg l y cc maxL none (rmm fr lo) D tys A wf u As post := by
  refine Met.ofW (cc := cc) (maxL := maxL) (ret := none) hy rfl ?_
  intro p e s m args below meth c s₁ B hml hv
  obtain ⟨rfl, hP, hK, hSG⟩ := hv
  have hts := atoms_spec (ws := .code y cc maxL none :: W0) B.pre
  have hts0 : ∀ w ∈ W0, w.before As.toArray s = true := fun w h => hts w (List.mem_cons_of_mem _ h)
  have hR : rtV (p, l, e, (headSpec (.code y cc maxL none :: W0) (rmm fr lo)).room, s, m, As.toArray, below, meth, c, MQ below (va_Qv post (BB D tys wf) A) As.toArray s 0 0 A, D, tys, A, maxL, sg) cc wf post := by
    intro u2 pc lv hdg hp H2 locs2 ls2 hP2 hS2 hl2
    exact W.vret B.exec B.bytes B.returns (fun t ht hW => ⟨⟨u2, rfl, hp, by rw [ht]; exact hP2, va_K.moved hW.alike hK⟩, hS2.F ht⟩) hS2.2.2 hdg (hlocks := B.notSynchronized)
  have hb := body _ ⟨B.exec, B.bytes, hml, findClass_of_methodNamed B.named, hts0, pay_in hts0 (W0_good (fun _ h => h)), ⟨Nat.le_refl _, Nat.le_refl _⟩, hK, hSG⟩ rfl rfl rfl rfl rfl rfl hR
  rw [lg_entry_eq]
  exact hb s.heap [] _ hP va_S.rf (lv_entry As hn)
theorem z_callVi {X : XX} {cc : ByteArray} {own : String} {fr lo pc : Nat} {lv : List (Nat × Value)} (C : Cx X cc own fr lo) {y : MethodName} {bytes : ByteArray} {maxL f1 l1 idx : Nat} (na : Nat) {ret : Option FieldType} {wf : St → va_W} {u : St} {As rest : List Value} {post : Int32 → St → Prop} {b q0 ci N : Nat} {fs : List Value} {T : u_T} (hI : Cond.instanceMethod y ∈ W0) (hSel : Cond.selects y.cls y y ∈ W0) (he : (wf u)[q0]? = some (b, .inr (ci, fs))) (hc : vwCl[ci]? = some (y.cls, T, N)) (hM : MI (xsg X) (xl X) y bytes maxL ret (rmm f1 l1) (xD X) (xtys X) (xA X) wf u (.ref b :: As) post) (hCo : Cond.code y bytes maxL ret ∈ W0) (hZ : Cond.initialized y.cls ∈ W0)
    (hd : y.cls ≠ "java/lang/invoke/MethodHandle" ∧ y.cls ≠ "java/lang/invoke/VarHandle" ∧ (parseMethodDescriptor y.desc).map (fun d => d.parameters.length) = some na) (hna : As.length = na) (hlink : Cond.methodLink own idx y ∈ W0) (hroom : f1 + 1 ≤ fr ∧ 8 + (maxL + 11) + l1 ≤ lo) (hst : (rest.map fun v => v.category).sum ≤ 8) (hdg : decode cc pc = .ok (.invokevirtual idx, 3))
    (k : ∀ (r : Int32) (u2 : St), post r u2 → Z X (wf u2) (pc + 3) lv (.int r :: rest)) : Z X (wf u) pc lv (As.reverse ++ .ref b :: rest) := by
  obtain ⟨p, l, e, R, s, m, args, below, meth, c, Q, D, tys, A, nL, sg⟩ := X
  obtain ⟨hx, hb, hml, hown, hts, hgd, hR, hK, hSG⟩ := C
  intro H locs ls hP hS hl
  have hy : y.cls ≠ "java/lang/invoke/MethodHandle" ∧ y.cls ≠ "java/lang/invoke/VarHandle" := ⟨hd.1, hd.2.1⟩
  have hgw : ∀ w ∈ (Cond.code y bytes maxL ret :: W0), ∀ (a' : Array Value) (U : State), s.WarmedH U.vm → w.before a' U = true := fun w h => (List.mem_cons.mp h).elim (fun e => by rw [e]; exact hgd _ hCo) (hgd w)
  have hsig : ∀ sig, parseMethodDescriptor y.desc = some sig → As.length = sig.parameters.length := fun sig h => by
    have h2 := hd.2.2
    rw [h] at h2
    exact hna.trans (Option.some.inj h2).symm
  refine va_calli (va_runV (y := y) (As := As) (rest := rest) ⟨hx, hb, hml, hown, hts⟩ hM ⟨⟨rfl, rfl, Nat.le_trans hroom.1 hR.1, Nat.le_trans hroom.2 hR.2, hgw, List.mem_cons_self, hts _ hCo, hts _ hZ, hy, fun sig h => hsig sig h, hts _ hlink⟩, hts _ hI, hts _ hSel⟩ ⟨pp_blind, va_recv hK hP hc he, fun U hU hW => ⟨rfl, by rw [hU]; exact hP, va_K.moved hW.alike hK, sg_at hSG hS hU hW⟩⟩ rfl rfl hl.1 rfl (lv_room hst) hdg ⟨Nat.zero_le _, Nat.zero_le _⟩) hS (fun q _ h => h) (fun q h => h) (fun r u2 t H1 locs1 ht hvm hp hB hz1 hk1 hS1 => ?_)
  obtain ⟨hP1, hK1⟩ := hB
  rw [ht] at hP1
  exact k r u2 hp H1 locs1 ls hP1 hS1 hl
theorem z_callVl {X : XX} {cc : ByteArray} {own : String} {fr lo pc : Nat} {lv : List (Nat × Value)} (C : Cx X cc own fr lo) {y : MethodName} {bytes : ByteArray} {maxL f1 l1 idx : Nat} (na : Nat) {ret : Option FieldType} {wf : St → va_W} {u : St} {As rest : List Value} {post : Int64 → St → Prop} {b q0 ci N : Nat} {fs : List Value} {T : u_T} (hI : Cond.instanceMethod y ∈ W0) (hSel : Cond.selects y.cls y y ∈ W0) (he : (wf u)[q0]? = some (b, .inr (ci, fs))) (hc : vwCl[ci]? = some (y.cls, T, N)) (hM : ML (xsg X) (xl X) y bytes maxL ret (rmm f1 l1) (xD X) (xtys X) (xA X) wf u (.ref b :: As) post) (hCo : Cond.code y bytes maxL ret ∈ W0) (hZ : Cond.initialized y.cls ∈ W0)
    (hd : y.cls ≠ "java/lang/invoke/MethodHandle" ∧ y.cls ≠ "java/lang/invoke/VarHandle" ∧ (parseMethodDescriptor y.desc).map (fun d => d.parameters.length) = some na) (hna : As.length = na) (hlink : Cond.methodLink own idx y ∈ W0) (hroom : f1 + 1 ≤ fr ∧ 8 + (maxL + 11) + l1 ≤ lo) (hst : (rest.map fun v => v.category).sum ≤ 8) (hdg : decode cc pc = .ok (.invokevirtual idx, 3))
    (k : ∀ (r : Int64) (u2 : St), post r u2 → Z X (wf u2) (pc + 3) lv (.long r :: rest)) : Z X (wf u) pc lv (As.reverse ++ .ref b :: rest) := by
  obtain ⟨p, l, e, R, s, m, args, below, meth, c, Q, D, tys, A, nL, sg⟩ := X
  obtain ⟨hx, hb, hml, hown, hts, hgd, hR, hK, hSG⟩ := C
  intro H locs ls hP hS hl
  have hy : y.cls ≠ "java/lang/invoke/MethodHandle" ∧ y.cls ≠ "java/lang/invoke/VarHandle" := ⟨hd.1, hd.2.1⟩
  have hgw : ∀ w ∈ (Cond.code y bytes maxL ret :: W0), ∀ (a' : Array Value) (U : State), s.WarmedH U.vm → w.before a' U = true := fun w h => (List.mem_cons.mp h).elim (fun e => by rw [e]; exact hgd _ hCo) (hgd w)
  have hsig : ∀ sig, parseMethodDescriptor y.desc = some sig → As.length = sig.parameters.length := fun sig h => by
    have h2 := hd.2.2
    rw [h] at h2
    exact hna.trans (Option.some.inj h2).symm
  refine va_calll (va_runV (y := y) (As := As) (rest := rest) ⟨hx, hb, hml, hown, hts⟩ hM ⟨⟨rfl, rfl, Nat.le_trans hroom.1 hR.1, Nat.le_trans hroom.2 hR.2, hgw, List.mem_cons_self, hts _ hCo, hts _ hZ, hy, fun sig h => hsig sig h, hts _ hlink⟩, hts _ hI, hts _ hSel⟩ ⟨pp_blind, va_recv hK hP hc he, fun U hU hW => ⟨rfl, by rw [hU]; exact hP, va_K.moved hW.alike hK, sg_at hSG hS hU hW⟩⟩ rfl rfl hl.1 rfl (lv_room hst) hdg ⟨Nat.zero_le _, Nat.zero_le _⟩) hS (fun q _ h => h) (fun q h => h) (fun r u2 t H1 locs1 ht hvm hp hB hz1 hk1 hS1 => ?_)
  obtain ⟨hP1, hK1⟩ := hB
  rw [ht] at hP1
  exact k r u2 hp H1 locs1 ls hP1 hS1 hl
theorem z_callVv {X : XX} {cc : ByteArray} {own : String} {fr lo pc : Nat} {lv : List (Nat × Value)} (C : Cx X cc own fr lo) {y : MethodName} {bytes : ByteArray} {maxL f1 l1 idx : Nat} (na : Nat) {ret : Option FieldType} {wf : St → va_W} {u : St} {As rest : List Value} {post : St → Prop} {b q0 ci N : Nat} {fs : List Value} {T : u_T} (hI : Cond.instanceMethod y ∈ W0) (hSel : Cond.selects y.cls y y ∈ W0) (he : (wf u)[q0]? = some (b, .inr (ci, fs))) (hc : vwCl[ci]? = some (y.cls, T, N)) (hM : MV (xsg X) (xl X) y bytes maxL ret (rmm f1 l1) (xD X) (xtys X) (xA X) wf u (.ref b :: As) post) (hCo : Cond.code y bytes maxL ret ∈ W0) (hZ : Cond.initialized y.cls ∈ W0)
    (hd : y.cls ≠ "java/lang/invoke/MethodHandle" ∧ y.cls ≠ "java/lang/invoke/VarHandle" ∧ (parseMethodDescriptor y.desc).map (fun d => d.parameters.length) = some na) (hna : As.length = na) (hlink : Cond.methodLink own idx y ∈ W0) (hroom : f1 + 1 ≤ fr ∧ 8 + (maxL + 11) + l1 ≤ lo) (hst : (rest.map fun v => v.category).sum ≤ 8) (hdg : decode cc pc = .ok (.invokevirtual idx, 3))
    (k : ∀ (u2 : St), post u2 → Z X (wf u2) (pc + 3) lv rest) : Z X (wf u) pc lv (As.reverse ++ .ref b :: rest) := by
  obtain ⟨p, l, e, R, s, m, args, below, meth, c, Q, D, tys, A, nL, sg⟩ := X
  obtain ⟨hx, hb, hml, hown, hts, hgd, hR, hK, hSG⟩ := C
  intro H locs ls hP hS hl
  have hy : y.cls ≠ "java/lang/invoke/MethodHandle" ∧ y.cls ≠ "java/lang/invoke/VarHandle" := ⟨hd.1, hd.2.1⟩
  have hgw : ∀ w ∈ (Cond.code y bytes maxL ret :: W0), ∀ (a' : Array Value) (U : State), s.WarmedH U.vm → w.before a' U = true := fun w h => (List.mem_cons.mp h).elim (fun e => by rw [e]; exact hgd _ hCo) (hgd w)
  have hsig : ∀ sig, parseMethodDescriptor y.desc = some sig → As.length = sig.parameters.length := fun sig h => by
    have h2 := hd.2.2
    rw [h] at h2
    exact hna.trans (Option.some.inj h2).symm
  refine va_callv (va_runV (y := y) (As := As) (rest := rest) ⟨hx, hb, hml, hown, hts⟩ hM ⟨⟨rfl, rfl, Nat.le_trans hroom.1 hR.1, Nat.le_trans hroom.2 hR.2, hgw, List.mem_cons_self, hts _ hCo, hts _ hZ, hy, fun sig h => hsig sig h, hts _ hlink⟩, hts _ hI, hts _ hSel⟩ ⟨pp_blind, va_recv hK hP hc he, fun U hU hW => ⟨rfl, by rw [hU]; exact hP, va_K.moved hW.alike hK, sg_at hSG hS hU hW⟩⟩ rfl rfl hl.1 rfl (lv_room hst) hdg ⟨Nat.zero_le _, Nat.zero_le _⟩) hS (fun q _ h => h) (fun q h => h) (fun u2 t H1 locs1 ht hvm hp hB hz1 hk1 hS1 => ?_)
  obtain ⟨hP1, hK1⟩ := hB
  rw [ht] at hP1
  exact k u2 hp H1 locs1 ls hP1 hS1 hl
theorem z_callSi {X : XX} {cc : ByteArray} {own : String} {fr lo pc : Nat} {lv : List (Nat × Value)} (C : Cx X cc own fr lo) {y : MethodName} {bytes : ByteArray} {maxL f1 l1 idx : Nat} (na : Nat) {ret : Option FieldType} {wf : St → va_W} {u : St} {As rest : List Value} {post : Int32 → St → Prop} (hT : Cond.static y ∈ W0) (hM : MI (xsg X) (xl X) y bytes maxL ret (rmm f1 l1) (xD X) (xtys X) (xA X) wf u As post) (hCo : Cond.code y bytes maxL ret ∈ W0) (hZ : Cond.initialized y.cls ∈ W0)
    (hd : y.cls ≠ "java/lang/invoke/MethodHandle" ∧ y.cls ≠ "java/lang/invoke/VarHandle" ∧ (parseMethodDescriptor y.desc).map (fun d => d.parameters.length) = some na) (hna : As.length = na) (hlink : Cond.methodLink own idx y ∈ W0) (hroom : f1 + 1 ≤ fr ∧ 8 + (maxL + 11) + l1 ≤ lo) (hst : (rest.map fun v => v.category).sum ≤ 8) (hdg : decode cc pc = .ok (.invokestatic idx, 3))
    (k : ∀ (r : Int32) (u2 : St), post r u2 → Z X (wf u2) (pc + 3) lv (.int r :: rest)) : Z X (wf u) pc lv (As.reverse ++ rest) := by
  obtain ⟨p, l, e, R, s, m, args, below, meth, c, Q, D, tys, A, nL, sg⟩ := X
  obtain ⟨hx, hb, hml, hown, hts, hgd, hR, hK, hSG⟩ := C
  intro H locs ls hP hS hl
  have hy : y.cls ≠ "java/lang/invoke/MethodHandle" ∧ y.cls ≠ "java/lang/invoke/VarHandle" := ⟨hd.1, hd.2.1⟩
  have hgw : ∀ w ∈ (Cond.code y bytes maxL ret :: W0), ∀ (a' : Array Value) (U : State), s.WarmedH U.vm → w.before a' U = true := fun w h => (List.mem_cons.mp h).elim (fun e => by rw [e]; exact hgd _ hCo) (hgd w)
  have hsig : ∀ sig, parseMethodDescriptor y.desc = some sig → As.length = sig.parameters.length := fun sig h => by
    have h2 := hd.2.2
    rw [h] at h2
    exact hna.trans (Option.some.inj h2).symm
  refine va_calli (va_runS (y := y) (As := As) (rest := rest) ⟨hx, hb, hml, hown, hts⟩ hM ⟨⟨rfl, rfl, Nat.le_trans hroom.1 hR.1, Nat.le_trans hroom.2 hR.2, hgw, List.mem_cons_self, hts _ hCo, hts _ hZ, hy, fun sig h => hsig sig h, hts _ hlink⟩, hts _ hT⟩ ⟨pp_blind, fun U hU hW => ⟨rfl, by rw [hU]; exact hP, va_K.moved hW.alike hK, sg_at hSG hS hU hW⟩⟩ rfl rfl hl.1 rfl (lv_room hst) hdg ⟨Nat.zero_le _, Nat.zero_le _⟩) hS (fun q _ h => h) (fun q h => h) (fun r u2 t H1 locs1 ht hvm hp hB hz1 hk1 hS1 => ?_)
  obtain ⟨hP1, hK1⟩ := hB
  rw [ht] at hP1
  exact k r u2 hp H1 locs1 ls hP1 hS1 hl
theorem z_callSl {X : XX} {cc : ByteArray} {own : String} {fr lo pc : Nat} {lv : List (Nat × Value)} (C : Cx X cc own fr lo) {y : MethodName} {bytes : ByteArray} {maxL f1 l1 idx : Nat} (na : Nat) {ret : Option FieldType} {wf : St → va_W} {u : St} {As rest : List Value} {post : Int64 → St → Prop} (hT : Cond.static y ∈ W0) (hM : ML (xsg X) (xl X) y bytes maxL ret (rmm f1 l1) (xD X) (xtys X) (xA X) wf u As post) (hCo : Cond.code y bytes maxL ret ∈ W0) (hZ : Cond.initialized y.cls ∈ W0)
    (hd : y.cls ≠ "java/lang/invoke/MethodHandle" ∧ y.cls ≠ "java/lang/invoke/VarHandle" ∧ (parseMethodDescriptor y.desc).map (fun d => d.parameters.length) = some na) (hna : As.length = na) (hlink : Cond.methodLink own idx y ∈ W0) (hroom : f1 + 1 ≤ fr ∧ 8 + (maxL + 11) + l1 ≤ lo) (hst : (rest.map fun v => v.category).sum ≤ 8) (hdg : decode cc pc = .ok (.invokestatic idx, 3))
    (k : ∀ (r : Int64) (u2 : St), post r u2 → Z X (wf u2) (pc + 3) lv (.long r :: rest)) : Z X (wf u) pc lv (As.reverse ++ rest) := by
  obtain ⟨p, l, e, R, s, m, args, below, meth, c, Q, D, tys, A, nL, sg⟩ := X
  obtain ⟨hx, hb, hml, hown, hts, hgd, hR, hK, hSG⟩ := C
  intro H locs ls hP hS hl
  have hy : y.cls ≠ "java/lang/invoke/MethodHandle" ∧ y.cls ≠ "java/lang/invoke/VarHandle" := ⟨hd.1, hd.2.1⟩
  have hgw : ∀ w ∈ (Cond.code y bytes maxL ret :: W0), ∀ (a' : Array Value) (U : State), s.WarmedH U.vm → w.before a' U = true := fun w h => (List.mem_cons.mp h).elim (fun e => by rw [e]; exact hgd _ hCo) (hgd w)
  have hsig : ∀ sig, parseMethodDescriptor y.desc = some sig → As.length = sig.parameters.length := fun sig h => by
    have h2 := hd.2.2
    rw [h] at h2
    exact hna.trans (Option.some.inj h2).symm
  refine va_calll (va_runS (y := y) (As := As) (rest := rest) ⟨hx, hb, hml, hown, hts⟩ hM ⟨⟨rfl, rfl, Nat.le_trans hroom.1 hR.1, Nat.le_trans hroom.2 hR.2, hgw, List.mem_cons_self, hts _ hCo, hts _ hZ, hy, fun sig h => hsig sig h, hts _ hlink⟩, hts _ hT⟩ ⟨pp_blind, fun U hU hW => ⟨rfl, by rw [hU]; exact hP, va_K.moved hW.alike hK, sg_at hSG hS hU hW⟩⟩ rfl rfl hl.1 rfl (lv_room hst) hdg ⟨Nat.zero_le _, Nat.zero_le _⟩) hS (fun q _ h => h) (fun q h => h) (fun r u2 t H1 locs1 ht hvm hp hB hz1 hk1 hS1 => ?_)
  obtain ⟨hP1, hK1⟩ := hB
  rw [ht] at hP1
  exact k r u2 hp H1 locs1 ls hP1 hS1 hl
theorem z_callSv {X : XX} {cc : ByteArray} {own : String} {fr lo pc : Nat} {lv : List (Nat × Value)} (C : Cx X cc own fr lo) {y : MethodName} {bytes : ByteArray} {maxL f1 l1 idx : Nat} (na : Nat) {ret : Option FieldType} {wf : St → va_W} {u : St} {As rest : List Value} {post : St → Prop} (hT : Cond.static y ∈ W0) (hM : MV (xsg X) (xl X) y bytes maxL ret (rmm f1 l1) (xD X) (xtys X) (xA X) wf u As post) (hCo : Cond.code y bytes maxL ret ∈ W0) (hZ : Cond.initialized y.cls ∈ W0)
    (hd : y.cls ≠ "java/lang/invoke/MethodHandle" ∧ y.cls ≠ "java/lang/invoke/VarHandle" ∧ (parseMethodDescriptor y.desc).map (fun d => d.parameters.length) = some na) (hna : As.length = na) (hlink : Cond.methodLink own idx y ∈ W0) (hroom : f1 + 1 ≤ fr ∧ 8 + (maxL + 11) + l1 ≤ lo) (hst : (rest.map fun v => v.category).sum ≤ 8) (hdg : decode cc pc = .ok (.invokestatic idx, 3))
    (k : ∀ (u2 : St), post u2 → Z X (wf u2) (pc + 3) lv rest) : Z X (wf u) pc lv (As.reverse ++ rest) := by
  obtain ⟨p, l, e, R, s, m, args, below, meth, c, Q, D, tys, A, nL, sg⟩ := X
  obtain ⟨hx, hb, hml, hown, hts, hgd, hR, hK, hSG⟩ := C
  intro H locs ls hP hS hl
  have hy : y.cls ≠ "java/lang/invoke/MethodHandle" ∧ y.cls ≠ "java/lang/invoke/VarHandle" := ⟨hd.1, hd.2.1⟩
  have hgw : ∀ w ∈ (Cond.code y bytes maxL ret :: W0), ∀ (a' : Array Value) (U : State), s.WarmedH U.vm → w.before a' U = true := fun w h => (List.mem_cons.mp h).elim (fun e => by rw [e]; exact hgd _ hCo) (hgd w)
  have hsig : ∀ sig, parseMethodDescriptor y.desc = some sig → As.length = sig.parameters.length := fun sig h => by
    have h2 := hd.2.2
    rw [h] at h2
    exact hna.trans (Option.some.inj h2).symm
  refine va_callv (va_runS (y := y) (As := As) (rest := rest) ⟨hx, hb, hml, hown, hts⟩ hM ⟨⟨rfl, rfl, Nat.le_trans hroom.1 hR.1, Nat.le_trans hroom.2 hR.2, hgw, List.mem_cons_self, hts _ hCo, hts _ hZ, hy, fun sig h => hsig sig h, hts _ hlink⟩, hts _ hT⟩ ⟨pp_blind, fun U hU hW => ⟨rfl, by rw [hU]; exact hP, va_K.moved hW.alike hK, sg_at hSG hS hU hW⟩⟩ rfl rfl hl.1 rfl (lv_room hst) hdg ⟨Nat.zero_le _, Nat.zero_le _⟩) hS (fun q _ h => h) (fun q h => h) (fun u2 t H1 locs1 ht hvm hp hB hz1 hk1 hS1 => ?_)
  obtain ⟨hP1, hK1⟩ := hB
  rw [ht] at hP1
  exact k u2 hp H1 locs1 ls hP1 hS1 hl
theorem z_callTi {X : XX} {cc : ByteArray} {own : String} {fr lo pc : Nat} {lv : List (Nat × Value)} (C : Cx X cc own fr lo) {y : MethodName} {bytes : ByteArray} {maxL f1 l1 idx : Nat} (na : Nat) {ret : Option FieldType} {wf : St → va_W} {u : St} {As rest : List Value} {post : Int32 → St → Prop} {b : Nat} (hI : Cond.instanceMethod y ∈ W0) (hSel : Cond.selects y.cls y y ∈ W0) (hb9 : (xsg X).1 = b) (hc : y.cls = "java/lang/String") (hM : MI (xsg X) (xl X) y bytes maxL ret (rmm f1 l1) (xD X) (xtys X) (xA X) wf u (.ref b :: As) post) (hCo : Cond.code y bytes maxL ret ∈ W0) (hZ : Cond.initialized y.cls ∈ W0)
    (hd : y.cls ≠ "java/lang/invoke/MethodHandle" ∧ y.cls ≠ "java/lang/invoke/VarHandle" ∧ (parseMethodDescriptor y.desc).map (fun d => d.parameters.length) = some na) (hna : As.length = na) (hlink : Cond.methodLink own idx y ∈ W0) (hroom : f1 + 1 ≤ fr ∧ 8 + (maxL + 11) + l1 ≤ lo) (hst : (rest.map fun v => v.category).sum ≤ 8) (hdg : decode cc pc = .ok (.invokevirtual idx, 3))
    (k : ∀ (r : Int32) (u2 : St), post r u2 → Z X (wf u2) (pc + 3) lv (.int r :: rest)) : Z X (wf u) pc lv (As.reverse ++ .ref b :: rest) := by
  obtain ⟨p, l, e, R, s, m, args, below, meth, c, Q, D, tys, A, nL, sg⟩ := X
  obtain ⟨hx, hb, hml, hown, hts, hgd, hR, hK, hSG⟩ := C
  intro H locs ls hP hS hl
  have hy : y.cls ≠ "java/lang/invoke/MethodHandle" ∧ y.cls ≠ "java/lang/invoke/VarHandle" := ⟨hd.1, hd.2.1⟩
  have hgw : ∀ w ∈ (Cond.code y bytes maxL ret :: W0), ∀ (a' : Array Value) (U : State), s.WarmedH U.vm → w.before a' U = true := fun w h => (List.mem_cons.mp h).elim (fun e => by rw [e]; exact hgd _ hCo) (hgd w)
  have hsig : ∀ sig, parseMethodDescriptor y.desc = some sig → As.length = sig.parameters.length := fun sig h => by
    have h2 := hd.2.2
    rw [h] at h2
    exact hna.trans (Option.some.inj h2).symm
  refine va_calli (va_runV (y := y) (As := As) (rest := rest) ⟨hx, hb, hml, hown, hts⟩ hM ⟨⟨rfl, rfl, Nat.le_trans hroom.1 hR.1, Nat.le_trans hroom.2 hR.2, hgw, List.mem_cons_self, hts _ hCo, hts _ hZ, hy, fun sig h => hsig sig h, hts _ hlink⟩, hts _ hI, hts _ hSel⟩ ⟨pp_blind, by rw [hc, ← hb9]; exact vk_recv hSG.2.1 (i := 0) (by decide) hS, fun U hU hW => ⟨rfl, by rw [hU]; exact hP, va_K.moved hW.alike hK, sg_at hSG hS hU hW⟩⟩ rfl rfl hl.1 rfl (lv_room hst) hdg ⟨Nat.zero_le _, Nat.zero_le _⟩) hS (fun q _ h => h) (fun q h => h) (fun r u2 t H1 locs1 ht hvm hp hB hz1 hk1 hS1 => ?_)
  obtain ⟨hP1, hK1⟩ := hB
  rw [ht] at hP1
  exact k r u2 hp H1 locs1 ls hP1 hS1 hl
theorem z_callTl {X : XX} {cc : ByteArray} {own : String} {fr lo pc : Nat} {lv : List (Nat × Value)} (C : Cx X cc own fr lo) {y : MethodName} {bytes : ByteArray} {maxL f1 l1 idx : Nat} (na : Nat) {ret : Option FieldType} {wf : St → va_W} {u : St} {As rest : List Value} {post : Int64 → St → Prop} {b : Nat} (hI : Cond.instanceMethod y ∈ W0) (hSel : Cond.selects y.cls y y ∈ W0) (hb9 : (xsg X).1 = b) (hc : y.cls = "java/lang/String") (hM : ML (xsg X) (xl X) y bytes maxL ret (rmm f1 l1) (xD X) (xtys X) (xA X) wf u (.ref b :: As) post) (hCo : Cond.code y bytes maxL ret ∈ W0) (hZ : Cond.initialized y.cls ∈ W0)
    (hd : y.cls ≠ "java/lang/invoke/MethodHandle" ∧ y.cls ≠ "java/lang/invoke/VarHandle" ∧ (parseMethodDescriptor y.desc).map (fun d => d.parameters.length) = some na) (hna : As.length = na) (hlink : Cond.methodLink own idx y ∈ W0) (hroom : f1 + 1 ≤ fr ∧ 8 + (maxL + 11) + l1 ≤ lo) (hst : (rest.map fun v => v.category).sum ≤ 8) (hdg : decode cc pc = .ok (.invokevirtual idx, 3))
    (k : ∀ (r : Int64) (u2 : St), post r u2 → Z X (wf u2) (pc + 3) lv (.long r :: rest)) : Z X (wf u) pc lv (As.reverse ++ .ref b :: rest) := by
  obtain ⟨p, l, e, R, s, m, args, below, meth, c, Q, D, tys, A, nL, sg⟩ := X
  obtain ⟨hx, hb, hml, hown, hts, hgd, hR, hK, hSG⟩ := C
  intro H locs ls hP hS hl
  have hy : y.cls ≠ "java/lang/invoke/MethodHandle" ∧ y.cls ≠ "java/lang/invoke/VarHandle" := ⟨hd.1, hd.2.1⟩
  have hgw : ∀ w ∈ (Cond.code y bytes maxL ret :: W0), ∀ (a' : Array Value) (U : State), s.WarmedH U.vm → w.before a' U = true := fun w h => (List.mem_cons.mp h).elim (fun e => by rw [e]; exact hgd _ hCo) (hgd w)
  have hsig : ∀ sig, parseMethodDescriptor y.desc = some sig → As.length = sig.parameters.length := fun sig h => by
    have h2 := hd.2.2
    rw [h] at h2
    exact hna.trans (Option.some.inj h2).symm
  refine va_calll (va_runV (y := y) (As := As) (rest := rest) ⟨hx, hb, hml, hown, hts⟩ hM ⟨⟨rfl, rfl, Nat.le_trans hroom.1 hR.1, Nat.le_trans hroom.2 hR.2, hgw, List.mem_cons_self, hts _ hCo, hts _ hZ, hy, fun sig h => hsig sig h, hts _ hlink⟩, hts _ hI, hts _ hSel⟩ ⟨pp_blind, by rw [hc, ← hb9]; exact vk_recv hSG.2.1 (i := 0) (by decide) hS, fun U hU hW => ⟨rfl, by rw [hU]; exact hP, va_K.moved hW.alike hK, sg_at hSG hS hU hW⟩⟩ rfl rfl hl.1 rfl (lv_room hst) hdg ⟨Nat.zero_le _, Nat.zero_le _⟩) hS (fun q _ h => h) (fun q h => h) (fun r u2 t H1 locs1 ht hvm hp hB hz1 hk1 hS1 => ?_)
  obtain ⟨hP1, hK1⟩ := hB
  rw [ht] at hP1
  exact k r u2 hp H1 locs1 ls hP1 hS1 hl
theorem z_callTv {X : XX} {cc : ByteArray} {own : String} {fr lo pc : Nat} {lv : List (Nat × Value)} (C : Cx X cc own fr lo) {y : MethodName} {bytes : ByteArray} {maxL f1 l1 idx : Nat} (na : Nat) {ret : Option FieldType} {wf : St → va_W} {u : St} {As rest : List Value} {post : St → Prop} {b : Nat} (hI : Cond.instanceMethod y ∈ W0) (hSel : Cond.selects y.cls y y ∈ W0) (hb9 : (xsg X).1 = b) (hc : y.cls = "java/lang/String") (hM : MV (xsg X) (xl X) y bytes maxL ret (rmm f1 l1) (xD X) (xtys X) (xA X) wf u (.ref b :: As) post) (hCo : Cond.code y bytes maxL ret ∈ W0) (hZ : Cond.initialized y.cls ∈ W0)
    (hd : y.cls ≠ "java/lang/invoke/MethodHandle" ∧ y.cls ≠ "java/lang/invoke/VarHandle" ∧ (parseMethodDescriptor y.desc).map (fun d => d.parameters.length) = some na) (hna : As.length = na) (hlink : Cond.methodLink own idx y ∈ W0) (hroom : f1 + 1 ≤ fr ∧ 8 + (maxL + 11) + l1 ≤ lo) (hst : (rest.map fun v => v.category).sum ≤ 8) (hdg : decode cc pc = .ok (.invokevirtual idx, 3))
    (k : ∀ (u2 : St), post u2 → Z X (wf u2) (pc + 3) lv rest) : Z X (wf u) pc lv (As.reverse ++ .ref b :: rest) := by
  obtain ⟨p, l, e, R, s, m, args, below, meth, c, Q, D, tys, A, nL, sg⟩ := X
  obtain ⟨hx, hb, hml, hown, hts, hgd, hR, hK, hSG⟩ := C
  intro H locs ls hP hS hl
  have hy : y.cls ≠ "java/lang/invoke/MethodHandle" ∧ y.cls ≠ "java/lang/invoke/VarHandle" := ⟨hd.1, hd.2.1⟩
  have hgw : ∀ w ∈ (Cond.code y bytes maxL ret :: W0), ∀ (a' : Array Value) (U : State), s.WarmedH U.vm → w.before a' U = true := fun w h => (List.mem_cons.mp h).elim (fun e => by rw [e]; exact hgd _ hCo) (hgd w)
  have hsig : ∀ sig, parseMethodDescriptor y.desc = some sig → As.length = sig.parameters.length := fun sig h => by
    have h2 := hd.2.2
    rw [h] at h2
    exact hna.trans (Option.some.inj h2).symm
  refine va_callv (va_runV (y := y) (As := As) (rest := rest) ⟨hx, hb, hml, hown, hts⟩ hM ⟨⟨rfl, rfl, Nat.le_trans hroom.1 hR.1, Nat.le_trans hroom.2 hR.2, hgw, List.mem_cons_self, hts _ hCo, hts _ hZ, hy, fun sig h => hsig sig h, hts _ hlink⟩, hts _ hI, hts _ hSel⟩ ⟨pp_blind, by rw [hc, ← hb9]; exact vk_recv hSG.2.1 (i := 0) (by decide) hS, fun U hU hW => ⟨rfl, by rw [hU]; exact hP, va_K.moved hW.alike hK, sg_at hSG hS hU hW⟩⟩ rfl rfl hl.1 rfl (lv_room hst) hdg ⟨Nat.zero_le _, Nat.zero_le _⟩) hS (fun q _ h => h) (fun q h => h) (fun u2 t H1 locs1 ht hvm hp hB hz1 hk1 hS1 => ?_)
  obtain ⟨hP1, hK1⟩ := hB
  rw [ht] at hP1
  exact k u2 hp H1 locs1 ls hP1 hS1 hl
