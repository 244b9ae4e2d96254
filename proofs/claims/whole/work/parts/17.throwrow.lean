/-! 17.throwrow: the contract of a method that may throw, and the row of a throw -/
def exN : List String := ["java/lang/RuntimeException", "java/lang/Exception"]
/-- what a throw needs of the heap's old part and of the tables, beside the words -/
def TH (A : Nat → Prop) (U : State) : Prop := vx_Zq Bundle.tN "UNASSIGNED_STACK" Bundle.steD A U U.heap ∧ vx_Zq Bundle.tN "SUPPRESSED_SENTINEL" Bundle.listD A U U.heap ∧ va_Nw (.castable "java/lang/IllegalArgumentException" "java/lang/IllegalArgumentException") U ∧ va_Nw (.castable "java/lang/UnsupportedOperationException" "java/lang/UnsupportedOperationException") U ∧ va_Nw (.castable "java/lang/IllegalStateException" "java/lang/IllegalStateException") U ∧ va_Nw (.castable "java/lang/IndexOutOfBoundsException" "java/lang/IndexOutOfBoundsException") U ∧ va_Nw (.declares ⟨"java/lang/RuntimeException", "<init>", "()V"⟩) U ∧ va_Nw (.declares ⟨"java/lang/Exception", "<init>", "()V"⟩) U ∧ va_Nw (.declares ⟨"java/lang/Throwable", "<init>", "()V"⟩) U
theorem th_at {A : Nat → Prop} {s U : State} {H : Heap} {locs : List Loc} (h : TH A s) (hS : va_S A s.heap H locs) (hU : U.heap = H) (hW : s.WarmedH U.vm) : TH A U := by
  obtain ⟨h1, h2, h3, h4, h5, h6, h7, h8, h9⟩ := h
  refine ⟨?_, ?_, h3.warmC hW, h4.warmC hW, h5.warmC hW, h6.warmC hW, h7.warmD hW, h8.warmD hW, h9.warmD hW⟩
  · rw [hU]; exact vx_Zq.moved hW.alike (h1.kept hS.2.1)
  · rw [hU]; exact vx_Zq.moved hW.alike (h2.kept hS.2.1)
theorem th_same {A : Nat → Prop} {U : State} {g : JFrame} {mk : MethodId} {a : Array Value} (h : TH A U) : TH A (U.calling g mk a) := by
  obtain ⟨h1, h2, h3, h4, h5, h6, h7, h8, h9⟩ := h
  exact ⟨vx_Zq.moved (u := U) (U := U.calling g mk a) (Vm.Alike.refl U.vm) h1, vx_Zq.moved (u := U) (U := U.calling g mk a) (Vm.Alike.refl U.vm) h2, va_Nw.same (u := U) (U := U.calling g mk a) rfl rfl h3, va_Nw.same (u := U) (U := U.calling g mk a) rfl rfl h4, va_Nw.same (u := U) (U := U.calling g mk a) rfl rfl h5, va_Nw.same (u := U) (U := U.calling g mk a) rfl rfl h6, va_Nw.same (u := U) (U := U.calling g mk a) rfl rfl h7, va_Nw.same (u := U) (U := U.calling g mk a) rfl rfl h8, va_Nw.same (u := U) (U := U.calling g mk a) rfl rfl h9⟩
def PT (sg : Nat × Nat) (D : va_G) (tys : List (ClassId × FieldType)) (A : Nat → Prop) (wf : St → va_W) (u : St) (As : List Value) : Array Value → State → Prop := va_Pc As (fun U => va_P D vwCl (wf u) U.heap ∧ va_K D vwCl tys U ∧ SG sg A U ∧ TH A U)
theorem pt_blind {sg : Nat × Nat} {A : Nat → Prop} {D : va_G} {tys : List (ClassId × FieldType)} {wf : St → va_W} {u : St} {As : List Value} : FrameBlind (PT sg D tys A wf u As) := fun a U g mk q => by
  obtain ⟨h1, h2, h3, h4, h5⟩ := q
  exact ⟨h1, h2, va_K.moved (u := U) (U := U.calling g mk a) (Vm.Alike.refl U.vm) h3, sg_same h4, th_same h5⟩
def XT (D : va_G) (tys : List (ClassId × FieldType)) (A : Nat → Prop) (wf : St → va_W) (px : String → St → Prop) : String → State → State → Prop := vx_X (fun q : String × St => px q.1 q.2) (fun E q t => q.1 = E ∧ BB D tys wf q.2 t) A
def rmt (fr lo : Nat) : Room := { frames := fr, cells := 1, slots := 6, locals := lo }
def MT (sg : Nat × Nat) (l : Launch) (y : MethodName) (cc : ByteArray) (maxL : Nat) (ret : Option FieldType) (rm : Room) (D : va_G) (tys : List (ClassId × FieldType)) (A : Nat → Prop) (wf : St → va_W) (u : St) (As : List Value) (post : Int32 → St → Prop) (px : String → St → Prop) : Prop := vx_Met l y (.code y cc maxL ret :: W0) rm (PT sg D tys A wf u As) (va_Qi post (BB D tys wf) A) (XT D tys A wf px) 1 6 A
theorem ex_m0 : ∀ w ∈ vx_at0 RX6 29 "java/lang/IllegalArgumentException" exN, w ∈ lw_tbl := by decide +kernel
theorem ex_n0 : (vx_at0 RX6 29 "java/lang/IllegalArgumentException" exN).filter (fun w => !goodWord w) = [.declares ⟨"java/lang/RuntimeException", "<init>", "()V"⟩, .declares ⟨"java/lang/Exception", "<init>", "()V"⟩, .declares ⟨"java/lang/Throwable", "<init>", "()V"⟩, .castable "java/lang/IllegalArgumentException" "java/lang/IllegalArgumentException"] := by decide +kernel
theorem ex_o0 : ∀ w ∈ Cond.classLink RX6 27 "java/lang/IllegalArgumentException" :: Cond.initialized "java/lang/IllegalArgumentException" :: vx_at0 RX6 29 "java/lang/IllegalArgumentException" exN, vx_ot w = true := by decide +kernel
theorem ex_k0 : Cond.classLink RX6 27 "java/lang/IllegalArgumentException" ∈ W0 := w0_3 106 rfl (by decide +kernel)
theorem ex_z0 : Cond.initialized "java/lang/IllegalArgumentException" ∈ W0 := w0_1 12 rfl (by decide +kernel)
theorem ex_m1 : ∀ w ∈ vx_at0 RX6 42 "java/lang/UnsupportedOperationException" exN, w ∈ lw_tbl := by decide +kernel
theorem ex_n1 : (vx_at0 RX6 42 "java/lang/UnsupportedOperationException" exN).filter (fun w => !goodWord w) = [.declares ⟨"java/lang/RuntimeException", "<init>", "()V"⟩, .declares ⟨"java/lang/Exception", "<init>", "()V"⟩, .declares ⟨"java/lang/Throwable", "<init>", "()V"⟩, .castable "java/lang/UnsupportedOperationException" "java/lang/UnsupportedOperationException"] := by decide +kernel
theorem ex_o1 : ∀ w ∈ Cond.classLink RX6 40 "java/lang/UnsupportedOperationException" :: Cond.initialized "java/lang/UnsupportedOperationException" :: vx_at0 RX6 42 "java/lang/UnsupportedOperationException" exN, vx_ot w = true := by decide +kernel
theorem ex_k1 : Cond.classLink RX6 40 "java/lang/UnsupportedOperationException" ∈ W0 := w0_3 174 rfl (by decide +kernel)
theorem ex_z1 : Cond.initialized "java/lang/UnsupportedOperationException" ∈ W0 := w0_1 13 rfl (by decide +kernel)
theorem ex_m2 : ∀ w ∈ vx_at0 RX6 72 "java/lang/IllegalStateException" exN, w ∈ lw_tbl := by decide +kernel
theorem ex_n2 : (vx_at0 RX6 72 "java/lang/IllegalStateException" exN).filter (fun w => !goodWord w) = [.declares ⟨"java/lang/RuntimeException", "<init>", "()V"⟩, .declares ⟨"java/lang/Exception", "<init>", "()V"⟩, .declares ⟨"java/lang/Throwable", "<init>", "()V"⟩, .castable "java/lang/IllegalStateException" "java/lang/IllegalStateException"] := by decide +kernel
theorem ex_o2 : ∀ w ∈ Cond.classLink RX6 70 "java/lang/IllegalStateException" :: Cond.initialized "java/lang/IllegalStateException" :: vx_at0 RX6 72 "java/lang/IllegalStateException" exN, vx_ot w = true := by decide +kernel
theorem ex_k2 : Cond.classLink RX6 70 "java/lang/IllegalStateException" ∈ W0 := w0_3 201 rfl (by decide +kernel)
theorem ex_z2 : Cond.initialized "java/lang/IllegalStateException" ∈ W0 := w0_1 20 rfl (by decide +kernel)
theorem ex_m3 : ∀ w ∈ vx_at0 RX6 103 "java/lang/IndexOutOfBoundsException" exN, w ∈ lw_tbl := by decide +kernel
theorem ex_n3 : (vx_at0 RX6 103 "java/lang/IndexOutOfBoundsException" exN).filter (fun w => !goodWord w) = [.declares ⟨"java/lang/RuntimeException", "<init>", "()V"⟩, .declares ⟨"java/lang/Exception", "<init>", "()V"⟩, .declares ⟨"java/lang/Throwable", "<init>", "()V"⟩, .castable "java/lang/IndexOutOfBoundsException" "java/lang/IndexOutOfBoundsException"] := by decide +kernel
theorem ex_o3 : ∀ w ∈ Cond.classLink RX6 101 "java/lang/IndexOutOfBoundsException" :: Cond.initialized "java/lang/IndexOutOfBoundsException" :: vx_at0 RX6 103 "java/lang/IndexOutOfBoundsException" exN, vx_ot w = true := by decide +kernel
theorem ex_k3 : Cond.classLink RX6 101 "java/lang/IndexOutOfBoundsException" ∈ W0 := w0_4 125 rfl (by decide +kernel)
theorem ex_z3 : Cond.initialized "java/lang/IndexOutOfBoundsException" ∈ W0 := w0_1 21 rfl (by decide +kernel)
theorem ex_hat {args : Array Value} {s : State} {L : List Cond} {E : String} (hm : ∀ w ∈ L, w ∈ lw_tbl) (hn : L.filter (fun w => !goodWord w) = [.declares ⟨"java/lang/RuntimeException", "<init>", "()V"⟩, .declares ⟨"java/lang/Exception", "<init>", "()V"⟩, .declares ⟨"java/lang/Throwable", "<init>", "()V"⟩, .castable E E]) (hts : ∀ w ∈ W0, w.before args s = true) (hc : va_Nw (.castable E E) s) (hd0 : va_Nw (.declares ⟨"java/lang/RuntimeException", "<init>", "()V"⟩) s) (hd1 : va_Nw (.declares ⟨"java/lang/Exception", "<init>", "()V"⟩) s) (hd2 : va_Nw (.declares ⟨"java/lang/Throwable", "<init>", "()V"⟩) s) : ∀ w ∈ L, w.before args s = true := by
  intro w h
  cases hg : goodWord w with
  | true => exact hts w (List.mem_filter.mpr ⟨hm w h, hg⟩)
  | false =>
    have h1 : w ∈ L.filter (fun w => !goodWord w) := List.mem_filter.mpr ⟨h, by rw [hg]; rfl⟩
    rw [hn] at h1
    simp only [List.mem_cons, List.not_mem_nil, or_false] at h1
    rcases h1 with rfl | rfl | rfl | rfl
    · exact va_Nw.use rfl hd0
    · exact va_Nw.use rfl hd1
    · exact va_Nw.use rfl hd2
    · exact va_Nw.use rfl hc
theorem met_t {sg : Nat × Nat} {l : Launch} {y : MethodName} {cc : ByteArray} {maxL fr lo : Nat} {D : va_G} {tys : List (ClassId × FieldType)} {A : Nat → Prop} {wf : St → va_W} {u : St} {As : List Value} {post : Int32 → St → Prop} {px : String → St → Prop} (hy : plainName y.cls = true) (hy6 : y.cls = RX6) (hn : (lg_sl As).length ≤ maxL) (hst : l.stackTraces = false) (hfr : 6 ≤ fr) (hlo : 81 ≤ lo)
    (body : ∀ X : XX, Cx X cc y.cls fr lo → xl X = l → xD X = D → xtys X = tys → xA X = A → xnL X = maxL → xsg X = sg → rtI X cc wf post → thT X cc wf px → Z X (wf u) 0 (lv_args 0 As) []) : MT sg l y cc maxL (some .int) (rmt fr lo) D tys A wf u As post px := by
  refine vx_ofW (cc := cc) (maxL := maxL) (ret := (some .int)) hy rfl ?_
  intro p e s m args below meth c s₁ B hml hex hv
  obtain ⟨rfl, hP, hK, hSG, hTH⟩ := hv
  have hts := atoms_spec (ws := .code y cc maxL (some .int) :: W0) B.pre
  have hts0 : ∀ w ∈ W0, w.before As.toArray s = true := fun w h => hts w (List.mem_cons_of_mem _ h)
  have hown : s.vm.findClass RX6 = some m.cls := by rw [← hy6]; exact findClass_of_methodNamed B.named
  have hR : rtI (p, l, e, (headSpec (.code y cc maxL (some .int) :: W0) (rmt fr lo)).room, s, m, As.toArray, below, meth, c, vx_MQ below (va_Qi post (BB D tys wf) A) (XT D tys A wf px) As.toArray s 1 6 A, D, tys, A, maxL, sg) cc wf post := by
    intro v u2 pc lv hdg hp H2 locs2 ls2 hP2 hS2 hl2
    refine W.widen (k := 1) (n := 6) (Nat.zero_le _) (Nat.zero_le _) (vx_ret ?_)
    exact W.iret B.exec B.bytes B.returns (fun t ht hW => ⟨⟨v, u2, rfl, hp, by rw [ht]; exact hP2, va_K.moved hW.alike hK⟩, hS2.F ht⟩) hS2.2.2 hdg (hlocks := B.notSynchronized)
  have hT : thT (p, l, e, (headSpec (.code y cc maxL (some .int) :: W0) (rmt fr lo)).room, s, m, As.toArray, below, meth, c, vx_MQ below (va_Qi post (BB D tys wf) A) (XT D tys A wf px) As.toArray s 1 6 A, D, tys, A, maxL, sg) cc wf px := by
    intro pc ik ic E u2 lv d0 d3 d4 d7 hE hp H2 locs2 ls2 hP2 hS2 hl2
    have key : ∀ (hk : Cond.classLink RX6 ik E ∈ W0) (hz : Cond.initialized E ∈ W0) (hf : Bundle.fit E = true) (hat : ∀ w ∈ vx_at0 RX6 ic E exN, w.before As.toArray s = true) (hgd : ∀ w ∈ Cond.classLink RX6 ik E :: Cond.initialized E :: vx_at0 RX6 ic E exN, vx_ot w = true), W p l e (headSpec (.code y cc maxL (some .int) :: W0) (rmt fr lo)).room s m As.toArray below meth c H2 locs2 0 0 (vx_MQ below (va_Qi post (BB D tys wf) A) (XT D tys A wf px) As.toArray s 1 6 A) (F0 m pc ls2 []) := by
      intro hk hz hf hat hgd
      refine vx_throw0 (names := exN) B.exec B.bytes hst hown hf (by decide) (hts0 _ hk) (hts0 _ hz) hat hgd hTH.1 hTH.2.1 hS2 (hl2.1.trans hml.symm) d0 d3 d4 d7 (fun x hx => (hex x hx).elim) (Nat.lt_of_lt_of_le (by decide) hfr) (Nat.le_trans (by decide) hlo) (Nat.le_refl _) (Nat.le_refl _) B.notSynchronized (fun t hal hsz hkp => ⟨(E, u2), hp, ⟨rfl, ?_, va_K.moved hal hK⟩, ?_⟩) hS2.2.2 (Nat.le_refl _) (Nat.le_refl _)
      · exact hP2.kept (fun k q hq => hkp q.1 (hP2 k q hq).lt)
      · exact ⟨Nat.le_trans hS2.1 hsz, fun q h1 h2 => by rw [hkp q (Nat.lt_of_lt_of_le h1 hS2.1)]; exact hS2.2.1 q h1 h2⟩
    simp only [thL, List.mem_cons, Prod.mk.injEq, List.not_mem_nil, or_false] at hE
    rcases hE with ⟨rfl, rfl, rfl⟩ | ⟨rfl, rfl, rfl⟩ | ⟨rfl, rfl, rfl⟩ | ⟨rfl, rfl, rfl⟩
    · exact key ex_k0 ex_z0 (by decide +kernel) (ex_hat ex_m0 ex_n0 hts0 hTH.2.2.1 hTH.2.2.2.2.2.2.1 hTH.2.2.2.2.2.2.2.1 hTH.2.2.2.2.2.2.2.2) ex_o0
    · exact key ex_k1 ex_z1 (by decide +kernel) (ex_hat ex_m1 ex_n1 hts0 hTH.2.2.2.1 hTH.2.2.2.2.2.2.1 hTH.2.2.2.2.2.2.2.1 hTH.2.2.2.2.2.2.2.2) ex_o1
    · exact key ex_k2 ex_z2 (by decide +kernel) (ex_hat ex_m2 ex_n2 hts0 hTH.2.2.2.2.1 hTH.2.2.2.2.2.2.1 hTH.2.2.2.2.2.2.2.1 hTH.2.2.2.2.2.2.2.2) ex_o2
    · exact key ex_k3 ex_z3 (by decide +kernel) (ex_hat ex_m3 ex_n3 hts0 hTH.2.2.2.2.2.1 hTH.2.2.2.2.2.2.1 hTH.2.2.2.2.2.2.2.1 hTH.2.2.2.2.2.2.2.2) ex_o3
  have hb := body _ ⟨B.exec, B.bytes, hml, findClass_of_methodNamed B.named, hts0, pay_in hts0 (W0_good (fun _ h => h)), ⟨Nat.le_refl _, Nat.le_refl _⟩, hK, hSG⟩ rfl rfl rfl rfl rfl rfl hR hT
  rw [lg_entry_eq]
  exact hb s.heap [] _ hP va_S.rf (lv_entry As hn)
