def wp_X7_readExpression_80 (u : St) (post : St → Prop) : Prop :=
  br ((gI u 13) = 0) (post u) (wp_X7_got u (fun (r13 : Int32) (u12 : St) => (vp_in ((12 * (gI u 2)) + (gI u 10)) 24 ∧ nm (sA u12 4 (ix ((12 * (gI u 2)) + (gI u 10))) r13) (fun u14 : St => (vp_in ((12 * (gI u14 2)) + (gI u14 10)) 24 ∧ nm (sA u14 3 (ix ((12 * (gI u14 2)) + (gI u14 10))) (gI u14 9)) (fun u15 : St => post u15))))))
set_option maxHeartbeats 4000000 in
set_option maxRecDepth 20000 in
theorem z_X7_readExpression_80 {X : XX} {ad : Nat → Nat} {cs : Nat → ClassId} {post : St → Prop} (C : CxM X ad cs cX7_readExpression RX7 10 221) (hn : xnL X = 1) (hR : rtV X cX7_readExpression (wM ad cs) post) (u : St) (hw : wp_X7_readExpression_80 u post) : Z X (wM ad cs u) 80 [(0, .ref (ad 0))] [] := by
  unfold wp_X7_readExpression_80 at hw
  refine z_aload_n C.1 dX7_readExpression_80 rfl 0 rfl ?_
  refine gM_0_right C mF_X7_165 dX7_readExpression_81 ?_
  refine z_if_eq (tgt := 129) C.1 dX7_readExpression_84 (by decide) (fun c11 => ?_) (fun c11 => ?_)
  · replace hw := hw.1 c11
    exact hR _ _ _ dX7_readExpression_129 hw
  · replace hw := hw.2 c11
    refine z_aload_n C.1 dX7_readExpression_87 rfl 0 rfl ?_
    refine gM_0_roots C mF_X7_20 dX7_readExpression_88 ?_
    refine z_bipush (v := 12) C.1 dX7_readExpression_91 (by decide) ?_
    refine z_aload_n C.1 dX7_readExpression_93 rfl 0 rfl ?_
    refine gM_0_bank C mF_X7_182 dX7_readExpression_94 ?_
    refine z_imul C.1 dX7_readExpression_97 ?_
    refine z_aload_n C.1 dX7_readExpression_98 rfl 0 rfl ?_
    refine gM_0_definition C mF_X7_185 dX7_readExpression_99 ?_
    refine z_iadd C.1 dX7_readExpression_102 ?_
    refine z_aload_n C.1 dX7_readExpression_103 rfl 0 rfl ?_
    refine k_X7_got C mM_X7_235 hw (by decide) (Nat.le_of_ble_eq_true rfl) dX7_readExpression_104 (fun r13 u12 hw => ?_)
    refine sM_4 C hw.1 dX7_readExpression_107 (fun u14 eu14 => ?_)
    replace hw := hw.2 u14 eu14
    refine z_aload_n C.1 dX7_readExpression_108 rfl 0 rfl ?_
    refine gM_0_partCounts C mF_X7_17 dX7_readExpression_109 ?_
    refine z_bipush (v := 12) C.1 dX7_readExpression_112 (by decide) ?_
    refine z_aload_n C.1 dX7_readExpression_114 rfl 0 rfl ?_
    refine gM_0_bank C mF_X7_182 dX7_readExpression_115 ?_
    refine z_imul C.1 dX7_readExpression_118 ?_
    refine z_aload_n C.1 dX7_readExpression_119 rfl 0 rfl ?_
    refine gM_0_definition C mF_X7_185 dX7_readExpression_120 ?_
    refine z_iadd C.1 dX7_readExpression_123 ?_
    refine z_aload_n C.1 dX7_readExpression_124 rfl 0 rfl ?_
    refine gM_0_parts C mF_X7_188 dX7_readExpression_125 ?_
    refine sM_3 C hw.1 dX7_readExpression_128 (fun u15 eu15 => ?_)
    replace hw := hw.2 u15 eu15
    exact hR _ _ _ dX7_readExpression_129 hw
def wp_X7_readExpression_31s (K31 : St → Prop) (u : St) (post : St → Prop) : Prop :=
  br ((gI u 11) ≤ 0) (wp_X7_readExpression_80 u post) (br ((gI u 13) = 0) (wp_X7_readExpression_80 u post) (nm (sI u 11 ((gI u 11) - 1)) (fun u9 : St => (vp_in (gI u9 11) 12000 ∧ (vp_in (gI u9 11) 12000 ∧ wp_X7_step u9 (gA u9 20 (ix (gI u9 11))) (gA u9 21 (ix (gI u9 11))) (fun (u10 : St) => K31 u10))))))
def wp_X7_readExpression_31 (post : St → Prop) : Nat → St → Prop
  | 0 => fun _ => False
  | n + 1 => fun u => wp_X7_readExpression_31s (wp_X7_readExpression_31 post n) u post
set_option maxHeartbeats 4000000 in
set_option maxRecDepth 20000 in
theorem z_X7_readExpression_31s {X : XX} {ad : Nat → Nat} {cs : Nat → ClassId} {post : St → Prop} (C : CxM X ad cs cX7_readExpression RX7 10 221) (hn : xnL X = 1) (hR : rtV X cX7_readExpression (wM ad cs) post) {K31 : St → Prop} (hK31 : ∀ (u : St), K31 u → Z X (wM ad cs u) 31 [(0, .ref (ad 0))] []) (u : St) (hw : wp_X7_readExpression_31s K31 u post) : Z X (wM ad cs u) 31 [(0, .ref (ad 0))] [] := by
  unfold wp_X7_readExpression_31s at hw
  refine z_aload_n C.1 dX7_readExpression_31 rfl 0 rfl ?_
  refine gM_0_depth C mF_X7_198 dX7_readExpression_32 ?_
  refine z_if_le (tgt := 80) C.1 dX7_readExpression_35 (by decide) (fun c7 => ?_) (fun c7 => ?_)
  · replace hw := hw.1 c7
    refine z_lv [0] rfl ?_
    exact z_X7_readExpression_80 C hn hR _ hw
  · replace hw := hw.2 c7
    refine z_aload_n C.1 dX7_readExpression_38 rfl 0 rfl ?_
    refine gM_0_right C mF_X7_165 dX7_readExpression_39 ?_
    refine z_if_eq (tgt := 80) C.1 dX7_readExpression_42 (by decide) (fun c8 => ?_) (fun c8 => ?_)
    · replace hw := hw.1 c8
      refine z_lv [0] rfl ?_
      exact z_X7_readExpression_80 C hn hR _ hw
    · replace hw := hw.2 c8
      refine z_aload_n C.1 dX7_readExpression_45 rfl 0 rfl ?_
      refine z_dup C.1 dX7_readExpression_46 rfl ?_
      refine gM_0_depth C mF_X7_198 dX7_readExpression_47 ?_
      refine z_iconst (v := 1) C.1 dX7_readExpression_50 (by decide) ?_
      refine z_isub C.1 dX7_readExpression_51 ?_
      refine pM_0_depth C mF_X7_198 dX7_readExpression_52 (fun u9 eu9 => ?_)
      replace hw := hw u9 eu9
      refine z_aload_n C.1 dX7_readExpression_55 rfl 0 rfl ?_
      refine z_aload_n C.1 dX7_readExpression_56 rfl 0 rfl ?_
      refine gM_0_todo C mF_X7_69 dX7_readExpression_57 ?_
      refine z_aload_n C.1 dX7_readExpression_60 rfl 0 rfl ?_
      refine gM_0_depth C mF_X7_198 dX7_readExpression_61 ?_
      refine lM_20 C hw.1 dX7_readExpression_64 ?_
      replace hw := hw.2
      refine z_aload_n C.1 dX7_readExpression_65 rfl 0 rfl ?_
      refine gM_0_with C mF_X7_72 dX7_readExpression_66 ?_
      refine z_aload_n C.1 dX7_readExpression_69 rfl 0 rfl ?_
      refine gM_0_depth C mF_X7_198 dX7_readExpression_70 ?_
      refine lM_21 C hw.1 dX7_readExpression_73 ?_
      replace hw := hw.2
      refine k_X7_step C mM_X7_266 hw (by decide) (Nat.le_of_ble_eq_true rfl) dX7_readExpression_74 (fun u10 hw => ?_)
      refine z_goto (tgt := 31) C.1 dX7_readExpression_77 (by decide) ?_
      refine z_lv [0] rfl ?_
      exact hK31 _ hw
theorem z_X7_readExpression_31 {X : XX} {ad : Nat → Nat} {cs : Nat → ClassId} {post : St → Prop} (C : CxM X ad cs cX7_readExpression RX7 10 221) (hn : xnL X = 1) (hR : rtV X cX7_readExpression (wM ad cs) post) : ∀ (n : Nat) (u : St), wp_X7_readExpression_31 post n u → Z X (wM ad cs u) 31 [(0, .ref (ad 0))] []
  | 0, _, hw => absurd hw (fun h => h)
  | n + 1, u, hw => z_X7_readExpression_31s C hn hR (z_X7_readExpression_31 C hn hR n) u hw
def wp_X7_readExpression (u : St) (post : St → Prop) : Prop :=
  nm (sI u 9 0) (fun u1 : St => nm (sI u1 8 0) (fun u2 : St => nm (sI u2 11 0) (fun u3 : St => nm (sI u3 14 0) (fun u4 : St => nm (sI u4 12 0) (fun u5 : St => wp_X7_later u5 1 0 (fun (u6 : St) => ∃ n, wp_X7_readExpression_31 post n u6))))))
set_option maxHeartbeats 4000000 in
set_option maxRecDepth 20000 in
theorem z_X7_readExpression {X : XX} {ad : Nat → Nat} {cs : Nat → ClassId} {post : St → Prop} (C : CxM X ad cs cX7_readExpression RX7 10 221) (hn : xnL X = 1) (hR : rtV X cX7_readExpression (wM ad cs) post) (u : St) (hw : wp_X7_readExpression u post) : Z X (wM ad cs u) 0 [(0, .ref (ad 0))] [] := by
  unfold wp_X7_readExpression at hw
  refine z_aload_n C.1 dX7_readExpression_0 rfl 0 rfl ?_
  refine z_iconst (v := 0) C.1 dX7_readExpression_1 (by decide) ?_
  refine pM_0_parts C mF_X7_188 dX7_readExpression_2 (fun u1 eu1 => ?_)
  replace hw := hw u1 eu1
  refine z_aload_n C.1 dX7_readExpression_5 rfl 0 rfl ?_
  refine z_iconst (v := 0) C.1 dX7_readExpression_6 (by decide) ?_
  refine pM_0_lets C mF_X7_208 dX7_readExpression_7 (fun u2 eu2 => ?_)
  replace hw := hw u2 eu2
  refine z_aload_n C.1 dX7_readExpression_10 rfl 0 rfl ?_
  refine z_iconst (v := 0) C.1 dX7_readExpression_11 (by decide) ?_
  refine pM_0_depth C mF_X7_198 dX7_readExpression_12 (fun u3 eu3 => ?_)
  replace hw := hw u3 eu3
  refine z_aload_n C.1 dX7_readExpression_15 rfl 0 rfl ?_
  refine z_iconst (v := 0) C.1 dX7_readExpression_16 (by decide) ?_
  refine pM_0_brackets C mF_X7_219 dX7_readExpression_17 (fun u4 eu4 => ?_)
  replace hw := hw u4 eu4
  refine z_aload_n C.1 dX7_readExpression_20 rfl 0 rfl ?_
  refine z_iconst (v := 0) C.1 dX7_readExpression_21 (by decide) ?_
  refine pM_0_valueCount C mF_X7_201 dX7_readExpression_22 (fun u5 eu5 => ?_)
  replace hw := hw u5 eu5
  refine z_aload_n C.1 dX7_readExpression_25 rfl 0 rfl ?_
  refine z_iconst (v := 1) C.1 dX7_readExpression_26 (by decide) ?_
  refine z_iconst (v := 0) C.1 dX7_readExpression_27 (by decide) ?_
  refine k_X7_later C mM_X7_215 hw (by decide) (Nat.le_of_ble_eq_true rfl) dX7_readExpression_28 (fun u6 hw => ?_)
  refine z_lv [0] rfl ?_
  obtain ⟨n, hw⟩ := hw
  exact z_X7_readExpression_31 C hn hR n _ hw
theorem c_X7_readExpression {l : Launch} {D : va_G} {A : Nat → Prop} {ad : Nat → Nat} {cs : Nat → ClassId} (hD : ∀ u : St, va_D A (wM ad cs u)) (u : St) (post : St → Prop) (hw : wp_X7_readExpression u post) : MV (ad 90, ad 91) l yX7_readExpression cX7_readExpression 1 none (rmm 10 221) D (tysM cs) A (wM ad cs) u [.ref (ad 0)] post :=
  met_v (by decide) (Nat.le_of_ble_eq_true rfl) (fun X C _ _ ht hA hn hsg hR => z_X7_readExpression ⟨C, ht, fun u => by rw [hA]; exact hD u, hsg⟩ hn hR u hw)
theorem k_X7_readExpression {X : XX} {ad : Nat → Nat} {cs : Nat → ClassId} {cc : ByteArray} {own : String} {fr lo pc : Nat} {lv : List (Nat × Value)} {st : List Value} {u : St} (C : CxM X ad cs cc own fr lo) {idx : Nat} {P : St → Prop} (hlink : Cond.methodLink own idx yX7_readExpression ∈ W0) (hw : wp_X7_readExpression u P) (hr : 10 + 1 ≤ fr ∧ 8 + (1 + 11) + 221 ≤ lo) (hst : (st.map fun v => v.category).sum ≤ 8) (hdg : decode cc pc = .ok (.invokevirtual idx, 3)) (k : ∀ (u2 : St), P u2 → Z X (wM ad cs u2) (pc + 3) lv st) : Z X (wM ad cs u) pc lv (.ref (ad 0) :: st) :=
  z_callVv (wf := wM ad cs) (As := []) (rest := st) C.1 0 (q0 := 0) mI_X7_readExpression mS_X7_readExpression rfl rfl (by rw [C.2.1, C.2.2.2]; exact c_X7_readExpression C.2.2.1 u P hw) mC_X7_readExpression mZ_X7 (by decide +kernel) rfl hlink hr hst hdg k

def wp_X7_isTaken_43 (K5 : St → Int64 → Int32 → Int32 → Prop) (u : St) (x1 : Int64) (x4 : Int32) (y0 : Int32) (post : Int32 → St → Prop) : Prop :=
  nm (x4 + 1) (fun v4 : Int32 => K5 u x1 y0 v4)
set_option maxHeartbeats 4000000 in
set_option maxRecDepth 20000 in
theorem z_X7_isTaken_43 {X : XX} {ad : Nat → Nat} {cs : Nat → ClassId} {post : Int32 → St → Prop} (C : CxM X ad cs cX7_isTaken RX7 0 0) (hn : xnL X = 5) (hR : rtZ X cX7_isTaken (wM ad cs) post) {K5 : St → Int64 → Int32 → Int32 → Prop} (hK5 : ∀ (u : St) (x1 : Int64) (x3 : Int32) (x4 : Int32), K5 u x1 x3 x4 → Z X (wM ad cs u) 5 [(0, .ref (ad 0)), (1, .long x1), (3, .int x3), (4, .int x4)] []) (u : St) (x1 : Int64) (x4 : Int32) (y0 : Int32) (hw : wp_X7_isTaken_43 K5 u x1 x4 y0 post) : Z X (wM ad cs u) 43 [(0, .ref (ad 0)), (1, .long x1), (4, .int x4)] [.int y0] := by
  unfold wp_X7_isTaken_43 at hw
  refine z_istore_n (lv' := [(3, .int y0), (0, .ref (ad 0)), (1, .long x1), (4, .int x4)]) C.1 dX7_isTaken_43 rfl (by rw [hn]; decide) rfl ?_
  obtain ⟨v4, ev4⟩ : ∃ z : Int32, z = x4 + 1 := ⟨_, rfl⟩
  replace hw := hw v4 ev4
  refine z_iinc (v := v4) (lv' := [(4, .int v4), (3, .int y0), (0, .ref (ad 0)), (1, .long x1)]) C.1 (j := 3) dX7_isTaken_44 rfl (by rw [ev4]; rfl) (by rw [hn]; decide) rfl ?_
  refine z_goto (tgt := 5) C.1 dX7_isTaken_47 (by decide) ?_
  refine z_lv [2, 3, 1, 0] rfl ?_
  exact hK5 _ _ _ _ hw
def wp_X7_isTaken_38 (K5 : St → Int64 → Int32 → Int32 → Prop) (u : St) (x1 : Int64) (x4 : Int32) (post : Int32 → St → Prop) : Prop :=
  wp_X7_isTaken_43 K5 u x1 x4 1 post
set_option maxHeartbeats 4000000 in
set_option maxRecDepth 20000 in
theorem z_X7_isTaken_38 {X : XX} {ad : Nat → Nat} {cs : Nat → ClassId} {post : Int32 → St → Prop} (C : CxM X ad cs cX7_isTaken RX7 0 0) (hn : xnL X = 5) (hR : rtZ X cX7_isTaken (wM ad cs) post) {K5 : St → Int64 → Int32 → Int32 → Prop} (hK5 : ∀ (u : St) (x1 : Int64) (x3 : Int32) (x4 : Int32), K5 u x1 x3 x4 → Z X (wM ad cs u) 5 [(0, .ref (ad 0)), (1, .long x1), (3, .int x3), (4, .int x4)] []) (u : St) (x1 : Int64) (x4 : Int32) (hw : wp_X7_isTaken_38 K5 u x1 x4 post) : Z X (wM ad cs u) 38 [(0, .ref (ad 0)), (1, .long x1), (4, .int x4)] [] := by
  unfold wp_X7_isTaken_38 at hw
  refine z_iconst (v := 1) C.1 dX7_isTaken_38 (by decide) ?_
  refine z_goto (tgt := 43) C.1 dX7_isTaken_39 (by decide) ?_
  refine z_lv [0, 1, 2] rfl ?_
  exact z_X7_isTaken_43 C hn hR hK5 _ _ _ _ hw
def wp_X7_isTaken_5s (K5 : St → Int64 → Int32 → Int32 → Prop) (u : St) (x1 : Int64) (x3 : Int32) (x4 : Int32) (post : Int32 → St → Prop) : Prop :=
  br ((gI u 10) ≤ x4) ((bz x3 ∧ post x3 u)) (br (x3 = 0) ((vp_in ((12 * (gI u 2)) + x4) 24 ∧ br ((lg_cmp (gB u 15 (ix ((12 * (gI u 2)) + x4))) x1) = 0) (wp_X7_isTaken_38 K5 u x1 x4 post) (wp_X7_isTaken_43 K5 u x1 x4 0 post))) (wp_X7_isTaken_38 K5 u x1 x4 post))
def wp_X7_isTaken_5 (post : Int32 → St → Prop) : Nat → St → Int64 → Int32 → Int32 → Prop
  | 0 => fun _ _ _ _ => False
  | n + 1 => fun u x1 x3 x4 => wp_X7_isTaken_5s (wp_X7_isTaken_5 post n) u x1 x3 x4 post
set_option maxHeartbeats 4000000 in
set_option maxRecDepth 20000 in
theorem z_X7_isTaken_5s {X : XX} {ad : Nat → Nat} {cs : Nat → ClassId} {post : Int32 → St → Prop} (C : CxM X ad cs cX7_isTaken RX7 0 0) (hn : xnL X = 5) (hR : rtZ X cX7_isTaken (wM ad cs) post) {K5 : St → Int64 → Int32 → Int32 → Prop} (hK5 : ∀ (u : St) (x1 : Int64) (x3 : Int32) (x4 : Int32), K5 u x1 x3 x4 → Z X (wM ad cs u) 5 [(0, .ref (ad 0)), (1, .long x1), (3, .int x3), (4, .int x4)] []) (u : St) (x1 : Int64) (x3 : Int32) (x4 : Int32) (hw : wp_X7_isTaken_5s K5 u x1 x3 x4 post) : Z X (wM ad cs u) 5 [(0, .ref (ad 0)), (1, .long x1), (3, .int x3), (4, .int x4)] [] := by
  unfold wp_X7_isTaken_5s at hw
  refine z_iload C.1 dX7_isTaken_5 3 rfl ?_
  refine z_aload_n C.1 dX7_isTaken_7 rfl 0 rfl ?_
  refine gM_0_definition C mF_X7_185 dX7_isTaken_8 ?_
  refine z_icmp_ge (tgt := 50) C.1 dX7_isTaken_11 (by decide) (fun c1 => ?_) (fun c1 => ?_)
  · replace hw := hw.1 c1
    refine z_iload_n C.1 dX7_isTaken_50 rfl 2 rfl ?_
    exact hR _ _ _ _ dX7_isTaken_51 hw
  · replace hw := hw.2 c1
    refine z_iload_n C.1 dX7_isTaken_14 rfl 2 rfl ?_
    refine z_if_ne (tgt := 38) C.1 dX7_isTaken_15 (by decide) (fun c2 => ?_) (fun c2 => ?_)
    · replace hw := hw.2 c2
      refine z_lv [0, 1, 3] rfl ?_
      exact z_X7_isTaken_38 C hn hR hK5 _ _ _ hw
    · replace hw := hw.1 c2
      refine z_aload_n C.1 dX7_isTaken_18 rfl 0 rfl ?_
      refine gM_0_definitionNames C mF_X7_53 dX7_isTaken_19 ?_
      refine z_bipush (v := 12) C.1 dX7_isTaken_22 (by decide) ?_
      refine z_aload_n C.1 dX7_isTaken_24 rfl 0 rfl ?_
      refine gM_0_bank C mF_X7_182 dX7_isTaken_25 ?_
      refine z_imul C.1 dX7_isTaken_28 ?_
      refine z_iload C.1 dX7_isTaken_29 3 rfl ?_
      refine z_iadd C.1 dX7_isTaken_31 ?_
      refine lM_15 C hw.1 dX7_isTaken_32 ?_
      replace hw := hw.2
      refine z_lload_n C.1 dX7_isTaken_33 rfl 1 rfl ?_
      refine z_lcmp C.1 dX7_isTaken_34 ?_
      refine z_if_ne (tgt := 42) C.1 dX7_isTaken_35 (by decide) (fun c3 => ?_) (fun c3 => ?_)
      · replace hw := hw.2 c3
        refine z_iconst (v := 0) C.1 dX7_isTaken_42 (by decide) ?_
        refine z_lv [0, 1, 3] rfl ?_
        exact z_X7_isTaken_43 C hn hR hK5 _ _ _ _ hw
      · replace hw := hw.1 c3
        refine z_lv [0, 1, 3] rfl ?_
        exact z_X7_isTaken_38 C hn hR hK5 _ _ _ hw
theorem z_X7_isTaken_5 {X : XX} {ad : Nat → Nat} {cs : Nat → ClassId} {post : Int32 → St → Prop} (C : CxM X ad cs cX7_isTaken RX7 0 0) (hn : xnL X = 5) (hR : rtZ X cX7_isTaken (wM ad cs) post) : ∀ (n : Nat) (u : St) (x1 : Int64) (x3 : Int32) (x4 : Int32), wp_X7_isTaken_5 post n u x1 x3 x4 → Z X (wM ad cs u) 5 [(0, .ref (ad 0)), (1, .long x1), (3, .int x3), (4, .int x4)] []
  | 0, _, _, _, _, hw => absurd hw (fun h => h)
  | n + 1, u, x1, x3, x4, hw => z_X7_isTaken_5s C hn hR (z_X7_isTaken_5 C hn hR n) u x1 x3 x4 hw
def wp_X7_isTaken (u : St) (x1 : Int64) (post : Int32 → St → Prop) : Prop :=
  ∃ n, wp_X7_isTaken_5 post n u x1 0 0
set_option maxHeartbeats 4000000 in
set_option maxRecDepth 20000 in
theorem z_X7_isTaken {X : XX} {ad : Nat → Nat} {cs : Nat → ClassId} {post : Int32 → St → Prop} (C : CxM X ad cs cX7_isTaken RX7 0 0) (hn : xnL X = 5) (hR : rtZ X cX7_isTaken (wM ad cs) post) (u : St) (x1 : Int64) (hw : wp_X7_isTaken u x1 post) : Z X (wM ad cs u) 0 [(0, .ref (ad 0)), (1, .long x1)] [] := by
  unfold wp_X7_isTaken at hw
  refine z_iconst (v := 0) C.1 dX7_isTaken_0 (by decide) ?_
  refine z_istore_n (lv' := [(3, .int 0), (0, .ref (ad 0)), (1, .long x1)]) C.1 dX7_isTaken_1 rfl (by rw [hn]; decide) rfl ?_
  refine z_iconst (v := 0) C.1 dX7_isTaken_2 (by decide) ?_
  refine z_istore (lv' := [(4, .int 0), (3, .int 0), (0, .ref (ad 0)), (1, .long x1)]) C.1 dX7_isTaken_3 (by rw [hn]; decide) rfl ?_
  refine z_lv [2, 3, 1, 0] rfl ?_
  obtain ⟨n, hw⟩ := hw
  exact z_X7_isTaken_5 C hn hR n _ _ _ _ hw
theorem c_X7_isTaken {l : Launch} {D : va_G} {A : Nat → Prop} {ad : Nat → Nat} {cs : Nat → ClassId} (hD : ∀ u : St, va_D A (wM ad cs u)) (u : St) (x1 : Int64) (post : Int32 → St → Prop) (hw : wp_X7_isTaken u x1 post) : MI (ad 90, ad 91) l yX7_isTaken cX7_isTaken 5 (some .boolean) (rmm 0 0) D (tysM cs) A (wM ad cs) u [.ref (ad 0), .long x1] post :=
  met_z (by decide) (Nat.le_of_ble_eq_true rfl) (fun X C _ _ ht hA hn hsg hR => z_X7_isTaken ⟨C, ht, fun u => by rw [hA]; exact hD u, hsg⟩ hn hR u x1 hw)
theorem k_X7_isTaken {X : XX} {ad : Nat → Nat} {cs : Nat → ClassId} {cc : ByteArray} {own : String} {fr lo pc : Nat} {lv : List (Nat × Value)} {st : List Value} {u : St} (C : CxM X ad cs cc own fr lo) {idx : Nat} {x1 : Int64} {P : Int32 → St → Prop} (hlink : Cond.methodLink own idx yX7_isTaken ∈ W0) (hw : wp_X7_isTaken u x1 P) (hr : 0 + 1 ≤ fr ∧ 8 + (5 + 11) + 0 ≤ lo) (hst : (st.map fun v => v.category).sum ≤ 8) (hdg : decode cc pc = .ok (.invokevirtual idx, 3)) (k : ∀ (r : Int32) (u2 : St), P r u2 → Z X (wM ad cs u2) (pc + 3) lv (.int r :: st)) : Z X (wM ad cs u) pc lv (.long x1 :: .ref (ad 0) :: st) :=
  z_callVi (wf := wM ad cs) (As := [.long x1]) (rest := st) C.1 1 (q0 := 0) mI_X7_isTaken mS_X7_isTaken rfl rfl (by rw [C.2.1, C.2.2.2]; exact c_X7_isTaken C.2.2.1 u x1 P hw) mC_X7_isTaken mZ_X7 (by decide +kernel) rfl hlink hr hst hdg k

def wp_X7_readArguments_178 (u : St) (post : St → Prop) : Prop :=
  wp_X7_isSign u 41 (fun (r26 : Int32) (u25 : St) => wp_X7_need u25 r26 (fun (u27 : St) => br ((gI u27 13) = 0) (post u27) (wp_X7_go u27 (fun (u29 : St) => post u29))))
set_option maxHeartbeats 4000000 in
set_option maxRecDepth 20000 in
theorem z_X7_readArguments_178 {X : XX} {ad : Nat → Nat} {cs : Nat → ClassId} {post : St → Prop} (C : CxM X ad cs cX7_readArguments RX7 5 109) (hn : xnL X = 6) (hR : rtV X cX7_readArguments (wM ad cs) post) (u : St) (hw : wp_X7_readArguments_178 u post) : Z X (wM ad cs u) 178 [(0, .ref (ad 0))] [] := by
  unfold wp_X7_readArguments_178 at hw
  refine z_aload_n C.1 dX7_readArguments_178 rfl 0 rfl ?_
  refine z_aload_n C.1 dX7_readArguments_179 rfl 0 rfl ?_
  refine z_bipush (v := 41) C.1 dX7_readArguments_180 (by decide) ?_
  refine k_X7_isSign C mM_X7_172 hw (by decide) (Nat.le_of_ble_eq_true rfl) dX7_readArguments_182 (fun r26 u25 hw => ?_)
  refine k_X7_need C mM_X7_191 hw (by decide) (Nat.le_of_ble_eq_true rfl) dX7_readArguments_185 (fun u27 hw => ?_)
  refine z_aload_n C.1 dX7_readArguments_188 rfl 0 rfl ?_
  refine gM_0_right C mF_X7_165 dX7_readArguments_189 ?_
  refine z_if_eq (tgt := 199) C.1 dX7_readArguments_192 (by decide) (fun c28 => ?_) (fun c28 => ?_)
  · replace hw := hw.1 c28
    exact hR _ _ _ dX7_readArguments_199 hw
  · replace hw := hw.2 c28
    refine z_aload_n C.1 dX7_readArguments_195 rfl 0 rfl ?_
    refine k_X7_go C mM_X7_175 hw (by decide) (Nat.le_of_ble_eq_true rfl) dX7_readArguments_196 (fun u29 hw => ?_)
    exact hR _ _ _ dX7_readArguments_199 hw
def wp_X7_readArguments_175 (K32 : St → Int32 → Int32 → Prop) (u : St) (x1 : Int32) (x2 : Int32) (post : St → Prop) : Prop :=
  K32 u x1 x2
set_option maxHeartbeats 4000000 in
set_option maxRecDepth 20000 in
theorem z_X7_readArguments_175 {X : XX} {ad : Nat → Nat} {cs : Nat → ClassId} {post : St → Prop} (C : CxM X ad cs cX7_readArguments RX7 5 109) (hn : xnL X = 6) (hR : rtV X cX7_readArguments (wM ad cs) post) {K32 : St → Int32 → Int32 → Prop} (hK32 : ∀ (u : St) (x1 : Int32) (x2 : Int32), K32 u x1 x2 → Z X (wM ad cs u) 32 [(0, .ref (ad 0)), (1, .int x1), (2, .int x2)] []) (u : St) (x1 : Int32) (x2 : Int32) (hw : wp_X7_readArguments_175 K32 u x1 x2 post) : Z X (wM ad cs u) 175 [(0, .ref (ad 0)), (1, .int x1), (2, .int x2)] [] := by
  unfold wp_X7_readArguments_175 at hw
  refine z_goto (tgt := 32) C.1 dX7_readArguments_175 (by decide) ?_
  refine z_lv [0, 1, 2] rfl ?_
  exact hK32 _ _ _ hw
def wp_X7_readArguments_135 (K32 : St → Int32 → Int32 → Prop) (u : St) (x1 : Int32) (x2 : Int32) (x3 : Int64) (post : St → Prop) : Prop :=
  br ((gI u 13) = 0) (wp_X7_readArguments_175 K32 u x1 x2 post) ((vp_in x1 24 ∧ (vp_in (gA u 2 (ix x1)) 6 ∧ nm (sB u 16 (ix (gA u 2 (ix x1))) x3) (fun u20 : St => (vp_in x1 24 ∧ (vp_in x1 24 ∧ nm (sA u20 2 (ix x1) ((gA u20 2 (ix x1)) + 1)) (fun u21 : St => wp_X7_go u21 (fun (u22 : St) => wp_X7_take u22 44 (fun (r24 : Int32) (u23 : St) => wp_X7_readArguments_175 K32 u23 x1 r24 post)))))))))
set_option maxHeartbeats 4000000 in
set_option maxRecDepth 20000 in
theorem z_X7_readArguments_135 {X : XX} {ad : Nat → Nat} {cs : Nat → ClassId} {post : St → Prop} (C : CxM X ad cs cX7_readArguments RX7 5 109) (hn : xnL X = 6) (hR : rtV X cX7_readArguments (wM ad cs) post) {K32 : St → Int32 → Int32 → Prop} (hK32 : ∀ (u : St) (x1 : Int32) (x2 : Int32), K32 u x1 x2 → Z X (wM ad cs u) 32 [(0, .ref (ad 0)), (1, .int x1), (2, .int x2)] []) (u : St) (x1 : Int32) (x2 : Int32) (x3 : Int64) (hw : wp_X7_readArguments_135 K32 u x1 x2 x3 post) : Z X (wM ad cs u) 135 [(0, .ref (ad 0)), (1, .int x1), (2, .int x2), (3, .long x3)] [] := by
  unfold wp_X7_readArguments_135 at hw
  refine z_aload_n C.1 dX7_readArguments_135 rfl 0 rfl ?_
  refine gM_0_right C mF_X7_165 dX7_readArguments_136 ?_
  refine z_if_eq (tgt := 175) C.1 dX7_readArguments_139 (by decide) (fun c19 => ?_) (fun c19 => ?_)
  · replace hw := hw.1 c19
    refine z_lv [0, 1, 2] rfl ?_
    exact z_X7_readArguments_175 C hn hR hK32 _ _ _ hw
  · replace hw := hw.2 c19
    refine z_aload_n C.1 dX7_readArguments_142 rfl 0 rfl ?_
    refine gM_0_argumentNames C mF_X7_57 dX7_readArguments_143 ?_
    refine z_aload_n C.1 dX7_readArguments_146 rfl 0 rfl ?_
    refine gM_0_arities C mF_X7_13 dX7_readArguments_147 ?_
    refine z_iload_n C.1 dX7_readArguments_150 rfl 1 rfl ?_
    refine lM_2 C hw.1 dX7_readArguments_151 ?_
    replace hw := hw.2
    refine z_lload_n C.1 dX7_readArguments_152 rfl 3 rfl ?_
    refine sM_16 C hw.1 dX7_readArguments_153 (fun u20 eu20 => ?_)
    replace hw := hw.2 u20 eu20
    refine z_aload_n C.1 dX7_readArguments_154 rfl 0 rfl ?_
    refine gM_0_arities C mF_X7_13 dX7_readArguments_155 ?_
    refine z_iload_n C.1 dX7_readArguments_158 rfl 1 rfl ?_
    refine z_dup2 C.1 dX7_readArguments_159 rfl rfl ?_
    refine lM_2 C hw.1 dX7_readArguments_160 ?_
    replace hw := hw.2
    refine z_iconst (v := 1) C.1 dX7_readArguments_161 (by decide) ?_
    refine z_iadd C.1 dX7_readArguments_162 ?_
    refine sM_2 C hw.1 dX7_readArguments_163 (fun u21 eu21 => ?_)
    replace hw := hw.2 u21 eu21
    refine z_aload_n C.1 dX7_readArguments_164 rfl 0 rfl ?_
    refine k_X7_go C mM_X7_175 hw (by decide) (Nat.le_of_ble_eq_true rfl) dX7_readArguments_165 (fun u22 hw => ?_)
    refine z_aload_n C.1 dX7_readArguments_168 rfl 0 rfl ?_
    refine z_bipush (v := 44) C.1 dX7_readArguments_169 (by decide) ?_
    refine k_X7_take C mM_X7_232 hw (by decide) (Nat.le_of_ble_eq_true rfl) dX7_readArguments_171 (fun r24 u23 hw => ?_)
    refine z_istore_n (lv' := [(2, .int r24), (0, .ref (ad 0)), (1, .int x1), (3, .long x3)]) C.1 dX7_readArguments_174 rfl (by rw [hn]; decide) rfl ?_
    refine z_lv [1, 2, 0] rfl ?_
    exact z_X7_readArguments_175 C hn hR hK32 _ _ _ hw
def wp_X7_readArguments_126 (K32 : St → Int32 → Int32 → Prop) (K90 : St → Int32 → Int32 → Int64 → Int32 → Prop) (u : St) (x1 : Int32) (x2 : Int32) (x3 : Int64) (x5 : Int32) (y0 : Int32) (post : St → Prop) : Prop :=
  wp_X7_need u y0 (fun (u17 : St) => nm (x5 + 1) (fun v18 : Int32 => K90 u17 x1 x2 x3 v18))
set_option maxHeartbeats 4000000 in
set_option maxRecDepth 20000 in
theorem z_X7_readArguments_126 {X : XX} {ad : Nat → Nat} {cs : Nat → ClassId} {post : St → Prop} (C : CxM X ad cs cX7_readArguments RX7 5 109) (hn : xnL X = 6) (hR : rtV X cX7_readArguments (wM ad cs) post) {K32 : St → Int32 → Int32 → Prop} (hK32 : ∀ (u : St) (x1 : Int32) (x2 : Int32), K32 u x1 x2 → Z X (wM ad cs u) 32 [(0, .ref (ad 0)), (1, .int x1), (2, .int x2)] []) {K90 : St → Int32 → Int32 → Int64 → Int32 → Prop} (hK90 : ∀ (u : St) (x1 : Int32) (x2 : Int32) (x3 : Int64) (x5 : Int32), K90 u x1 x2 x3 x5 → Z X (wM ad cs u) 90 [(0, .ref (ad 0)), (1, .int x1), (2, .int x2), (3, .long x3), (5, .int x5)] []) (u : St) (x1 : Int32) (x2 : Int32) (x3 : Int64) (x5 : Int32) (y0 : Int32) (hw : wp_X7_readArguments_126 K32 K90 u x1 x2 x3 x5 y0 post) : Z X (wM ad cs u) 126 [(0, .ref (ad 0)), (1, .int x1), (2, .int x2), (3, .long x3), (5, .int x5)] [.int y0, .ref (ad 0)] := by
  unfold wp_X7_readArguments_126 at hw
  refine k_X7_need C mM_X7_191 hw (by decide) (Nat.le_of_ble_eq_true rfl) dX7_readArguments_126 (fun u17 hw => ?_)
  obtain ⟨v18, ev18⟩ : ∃ z : Int32, z = x5 + 1 := ⟨_, rfl⟩
  replace hw := hw v18 ev18
  refine z_iinc (v := v18) (lv' := [(5, .int v18), (0, .ref (ad 0)), (1, .int x1), (2, .int x2), (3, .long x3)]) C.1 (j := 4) dX7_readArguments_129 rfl (by rw [ev18]; rfl) (by rw [hn]; decide) rfl ?_
  refine z_goto (tgt := 90) C.1 dX7_readArguments_132 (by decide) ?_
  refine z_lv [1, 2, 3, 4, 0] rfl ?_
  exact hK90 _ _ _ _ _ hw
def wp_X7_readArguments_90s (K32 : St → Int32 → Int32 → Prop) (K90 : St → Int32 → Int32 → Int64 → Int32 → Prop) (u : St) (x1 : Int32) (x2 : Int32) (x3 : Int64) (x5 : Int32) (post : St → Prop) : Prop :=
  (vp_in x1 24 ∧ br ((gA u 2 (ix x1)) ≤ x5) (wp_X7_readArguments_135 K32 u x1 x2 x3 post) (br ((gI u 13) = 0) (wp_X7_readArguments_135 K32 u x1 x2 x3 post) ((vp_in x5 6 ∧ br ((lg_cmp (gB u 16 (ix x5)) x3) = 0) (wp_X7_readArguments_126 K32 K90 u x1 x2 x3 x5 0 post) (wp_X7_readArguments_126 K32 K90 u x1 x2 x3 x5 1 post)))))
def wp_X7_readArguments_90 (K32 : St → Int32 → Int32 → Prop) (post : St → Prop) : Nat → St → Int32 → Int32 → Int64 → Int32 → Prop
  | 0 => fun _ _ _ _ _ => False
  | n + 1 => fun u x1 x2 x3 x5 => wp_X7_readArguments_90s K32 (wp_X7_readArguments_90 K32 post n) u x1 x2 x3 x5 post
set_option maxHeartbeats 4000000 in
set_option maxRecDepth 20000 in
theorem z_X7_readArguments_90s {X : XX} {ad : Nat → Nat} {cs : Nat → ClassId} {post : St → Prop} (C : CxM X ad cs cX7_readArguments RX7 5 109) (hn : xnL X = 6) (hR : rtV X cX7_readArguments (wM ad cs) post) {K32 : St → Int32 → Int32 → Prop} (hK32 : ∀ (u : St) (x1 : Int32) (x2 : Int32), K32 u x1 x2 → Z X (wM ad cs u) 32 [(0, .ref (ad 0)), (1, .int x1), (2, .int x2)] []) {K90 : St → Int32 → Int32 → Int64 → Int32 → Prop} (hK90 : ∀ (u : St) (x1 : Int32) (x2 : Int32) (x3 : Int64) (x5 : Int32), K90 u x1 x2 x3 x5 → Z X (wM ad cs u) 90 [(0, .ref (ad 0)), (1, .int x1), (2, .int x2), (3, .long x3), (5, .int x5)] []) (u : St) (x1 : Int32) (x2 : Int32) (x3 : Int64) (x5 : Int32) (hw : wp_X7_readArguments_90s K32 K90 u x1 x2 x3 x5 post) : Z X (wM ad cs u) 90 [(0, .ref (ad 0)), (1, .int x1), (2, .int x2), (3, .long x3), (5, .int x5)] [] := by
  unfold wp_X7_readArguments_90s at hw
  refine z_iload C.1 dX7_readArguments_90 4 rfl ?_
  refine z_aload_n C.1 dX7_readArguments_92 rfl 0 rfl ?_
  refine gM_0_arities C mF_X7_13 dX7_readArguments_93 ?_
  refine z_iload_n C.1 dX7_readArguments_96 rfl 1 rfl ?_
  refine lM_2 C hw.1 dX7_readArguments_97 ?_
  replace hw := hw.2
  refine z_icmp_ge (tgt := 135) C.1 dX7_readArguments_98 (by decide) (fun c14 => ?_) (fun c14 => ?_)
  · replace hw := hw.1 c14
    refine z_lv [0, 1, 2, 3] rfl ?_
    exact z_X7_readArguments_135 C hn hR hK32 _ _ _ _ hw
  · replace hw := hw.2 c14
    refine z_aload_n C.1 dX7_readArguments_101 rfl 0 rfl ?_
    refine gM_0_right C mF_X7_165 dX7_readArguments_102 ?_
    refine z_if_eq (tgt := 135) C.1 dX7_readArguments_105 (by decide) (fun c15 => ?_) (fun c15 => ?_)
    · replace hw := hw.1 c15
      refine z_lv [0, 1, 2, 3] rfl ?_
      exact z_X7_readArguments_135 C hn hR hK32 _ _ _ _ hw
    · replace hw := hw.2 c15
      refine z_aload_n C.1 dX7_readArguments_108 rfl 0 rfl ?_
      refine z_aload_n C.1 dX7_readArguments_109 rfl 0 rfl ?_
      refine gM_0_argumentNames C mF_X7_57 dX7_readArguments_110 ?_
      refine z_iload C.1 dX7_readArguments_113 4 rfl ?_
      refine lM_16 C hw.1 dX7_readArguments_115 ?_
      replace hw := hw.2
      refine z_lload_n C.1 dX7_readArguments_116 rfl 3 rfl ?_
      refine z_lcmp C.1 dX7_readArguments_117 ?_
      refine z_if_eq (tgt := 125) C.1 dX7_readArguments_118 (by decide) (fun c16 => ?_) (fun c16 => ?_)
      · replace hw := hw.1 c16
        refine z_iconst (v := 0) C.1 dX7_readArguments_125 (by decide) ?_
        refine z_lv [0, 1, 2, 3, 4] rfl ?_
        exact z_X7_readArguments_126 C hn hR hK32 hK90 _ _ _ _ _ _ hw
      · replace hw := hw.2 c16
        refine z_iconst (v := 1) C.1 dX7_readArguments_121 (by decide) ?_
        refine z_goto (tgt := 126) C.1 dX7_readArguments_122 (by decide) ?_
        refine z_lv [0, 1, 2, 3, 4] rfl ?_
        exact z_X7_readArguments_126 C hn hR hK32 hK90 _ _ _ _ _ _ hw
theorem z_X7_readArguments_90 {X : XX} {ad : Nat → Nat} {cs : Nat → ClassId} {post : St → Prop} (C : CxM X ad cs cX7_readArguments RX7 5 109) (hn : xnL X = 6) (hR : rtV X cX7_readArguments (wM ad cs) post) {K32 : St → Int32 → Int32 → Prop} (hK32 : ∀ (u : St) (x1 : Int32) (x2 : Int32), K32 u x1 x2 → Z X (wM ad cs u) 32 [(0, .ref (ad 0)), (1, .int x1), (2, .int x2)] []) : ∀ (n : Nat) (u : St) (x1 : Int32) (x2 : Int32) (x3 : Int64) (x5 : Int32), wp_X7_readArguments_90 K32 post n u x1 x2 x3 x5 → Z X (wM ad cs u) 90 [(0, .ref (ad 0)), (1, .int x1), (2, .int x2), (3, .long x3), (5, .int x5)] []
  | 0, _, _, _, _, _, hw => absurd hw (fun h => h)
  | n + 1, u, x1, x2, x3, x5, hw => z_X7_readArguments_90s C hn hR hK32 (z_X7_readArguments_90 C hn hR hK32 n) u x1 x2 x3 x5 hw
def wp_X7_readArguments_86 (K32 : St → Int32 → Int32 → Prop) (u : St) (x1 : Int32) (x2 : Int32) (y0 : Int64) (post : St → Prop) : Prop :=
  ∃ n, wp_X7_readArguments_90 K32 post n u x1 x2 y0 0
set_option maxHeartbeats 4000000 in
set_option maxRecDepth 20000 in
theorem z_X7_readArguments_86 {X : XX} {ad : Nat → Nat} {cs : Nat → ClassId} {post : St → Prop} (C : CxM X ad cs cX7_readArguments RX7 5 109) (hn : xnL X = 6) (hR : rtV X cX7_readArguments (wM ad cs) post) {K32 : St → Int32 → Int32 → Prop} (hK32 : ∀ (u : St) (x1 : Int32) (x2 : Int32), K32 u x1 x2 → Z X (wM ad cs u) 32 [(0, .ref (ad 0)), (1, .int x1), (2, .int x2)] []) (u : St) (x1 : Int32) (x2 : Int32) (y0 : Int64) (hw : wp_X7_readArguments_86 K32 u x1 x2 y0 post) : Z X (wM ad cs u) 86 [(0, .ref (ad 0)), (1, .int x1), (2, .int x2)] [.long y0] := by
  unfold wp_X7_readArguments_86 at hw
  refine z_lstore_n (lv' := [(3, .long y0), (0, .ref (ad 0)), (1, .int x1), (2, .int x2)]) C.1 dX7_readArguments_86 rfl (by rw [hn]; decide) rfl ?_
  refine z_iconst (v := 0) C.1 dX7_readArguments_87 (by decide) ?_
  refine z_istore (lv' := [(5, .int 0), (3, .long y0), (0, .ref (ad 0)), (1, .int x1), (2, .int x2)]) C.1 dX7_readArguments_88 (by rw [hn]; decide) rfl ?_
  refine z_lv [2, 3, 4, 1, 0] rfl ?_
  obtain ⟨n, hw⟩ := hw
  exact z_X7_readArguments_90 C hn hR hK32 n _ _ _ _ _ hw
def wp_X7_readArguments_68 (K32 : St → Int32 → Int32 → Prop) (u : St) (x1 : Int32) (x2 : Int32) (y0 : Int32) (post : St → Prop) : Prop :=
  wp_X7_need u y0 (fun (u10 : St) => br ((gI u10 13) = 0) (wp_X7_readArguments_86 K32 u10 x1 x2 0 post) (wp_X7_nameOf u10 (fun (r13 : Int64) (u12 : St) => wp_X7_readArguments_86 K32 u12 x1 x2 r13 post)))
set_option maxHeartbeats 4000000 in
set_option maxRecDepth 20000 in
theorem z_X7_readArguments_68 {X : XX} {ad : Nat → Nat} {cs : Nat → ClassId} {post : St → Prop} (C : CxM X ad cs cX7_readArguments RX7 5 109) (hn : xnL X = 6) (hR : rtV X cX7_readArguments (wM ad cs) post) {K32 : St → Int32 → Int32 → Prop} (hK32 : ∀ (u : St) (x1 : Int32) (x2 : Int32), K32 u x1 x2 → Z X (wM ad cs u) 32 [(0, .ref (ad 0)), (1, .int x1), (2, .int x2)] []) (u : St) (x1 : Int32) (x2 : Int32) (y0 : Int32) (hw : wp_X7_readArguments_68 K32 u x1 x2 y0 post) : Z X (wM ad cs u) 68 [(0, .ref (ad 0)), (1, .int x1), (2, .int x2)] [.int y0, .ref (ad 0)] := by
  unfold wp_X7_readArguments_68 at hw
  refine k_X7_need C mM_X7_191 hw (by decide) (Nat.le_of_ble_eq_true rfl) dX7_readArguments_68 (fun u10 hw => ?_)
  refine z_aload_n C.1 dX7_readArguments_71 rfl 0 rfl ?_
  refine gM_0_right C mF_X7_165 dX7_readArguments_72 ?_
  refine z_if_eq (tgt := 85) C.1 dX7_readArguments_75 (by decide) (fun c11 => ?_) (fun c11 => ?_)
  · replace hw := hw.1 c11
    refine z_lconst (v := 0) C.1 dX7_readArguments_85 (by decide) ?_
    refine z_lv [0, 1, 2] rfl ?_
    exact z_X7_readArguments_86 C hn hR hK32 _ _ _ _ hw
  · replace hw := hw.2 c11
    refine z_aload_n C.1 dX7_readArguments_78 rfl 0 rfl ?_
    refine k_X7_nameOf C mM_X7_204 hw (by decide) (Nat.le_of_ble_eq_true rfl) dX7_readArguments_79 (fun r13 u12 hw => ?_)
    refine z_goto (tgt := 86) C.1 dX7_readArguments_82 (by decide) ?_
    refine z_lv [0, 1, 2] rfl ?_
    exact z_X7_readArguments_86 C hn hR hK32 _ _ _ _ hw
def wp_X7_readArguments_67 (K32 : St → Int32 → Int32 → Prop) (u : St) (x1 : Int32) (x2 : Int32) (post : St → Prop) : Prop :=
  wp_X7_readArguments_68 K32 u x1 x2 0 post
set_option maxHeartbeats 4000000 in
set_option maxRecDepth 20000 in
theorem z_X7_readArguments_67 {X : XX} {ad : Nat → Nat} {cs : Nat → ClassId} {post : St → Prop} (C : CxM X ad cs cX7_readArguments RX7 5 109) (hn : xnL X = 6) (hR : rtV X cX7_readArguments (wM ad cs) post) {K32 : St → Int32 → Int32 → Prop} (hK32 : ∀ (u : St) (x1 : Int32) (x2 : Int32), K32 u x1 x2 → Z X (wM ad cs u) 32 [(0, .ref (ad 0)), (1, .int x1), (2, .int x2)] []) (u : St) (x1 : Int32) (x2 : Int32) (hw : wp_X7_readArguments_67 K32 u x1 x2 post) : Z X (wM ad cs u) 67 [(0, .ref (ad 0)), (1, .int x1), (2, .int x2)] [.ref (ad 0)] := by
  unfold wp_X7_readArguments_67 at hw
  refine z_iconst (v := 0) C.1 dX7_readArguments_67 (by decide) ?_
  refine z_lv [0, 1, 2] rfl ?_
  exact z_X7_readArguments_68 C hn hR hK32 _ _ _ _ hw
def wp_X7_readArguments_32s (K32 : St → Int32 → Int32 → Prop) (u : St) (x1 : Int32) (x2 : Int32) (post : St → Prop) : Prop :=
  br (x2 = 0) (wp_X7_readArguments_178 u post) (br ((gI u 13) = 0) (wp_X7_readArguments_178 u post) (br ((gI u 6) = 1) ((vp_in x1 24 ∧ br (6 ≤ (gA u 2 (ix x1))) (wp_X7_readArguments_67 K32 u x1 x2 post) (wp_X7_readArguments_68 K32 u x1 x2 1 post))) (wp_X7_readArguments_67 K32 u x1 x2 post)))
def wp_X7_readArguments_32 (post : St → Prop) : Nat → St → Int32 → Int32 → Prop
  | 0 => fun _ _ _ => False
  | n + 1 => fun u x1 x2 => wp_X7_readArguments_32s (wp_X7_readArguments_32 post n) u x1 x2 post
set_option maxHeartbeats 4000000 in
set_option maxRecDepth 20000 in
theorem z_X7_readArguments_32s {X : XX} {ad : Nat → Nat} {cs : Nat → ClassId} {post : St → Prop} (C : CxM X ad cs cX7_readArguments RX7 5 109) (hn : xnL X = 6) (hR : rtV X cX7_readArguments (wM ad cs) post) {K32 : St → Int32 → Int32 → Prop} (hK32 : ∀ (u : St) (x1 : Int32) (x2 : Int32), K32 u x1 x2 → Z X (wM ad cs u) 32 [(0, .ref (ad 0)), (1, .int x1), (2, .int x2)] []) (u : St) (x1 : Int32) (x2 : Int32) (hw : wp_X7_readArguments_32s K32 u x1 x2 post) : Z X (wM ad cs u) 32 [(0, .ref (ad 0)), (1, .int x1), (2, .int x2)] [] := by
  unfold wp_X7_readArguments_32s at hw
  refine z_iload_n C.1 dX7_readArguments_32 rfl 2 rfl ?_
  refine z_if_eq (tgt := 178) C.1 dX7_readArguments_33 (by decide) (fun c6 => ?_) (fun c6 => ?_)
  · replace hw := hw.1 c6
    refine z_lv [0] rfl ?_
    exact z_X7_readArguments_178 C hn hR _ hw
  · replace hw := hw.2 c6
    refine z_aload_n C.1 dX7_readArguments_36 rfl 0 rfl ?_
    refine gM_0_right C mF_X7_165 dX7_readArguments_37 ?_
    refine z_if_eq (tgt := 178) C.1 dX7_readArguments_40 (by decide) (fun c7 => ?_) (fun c7 => ?_)
    · replace hw := hw.1 c7
      refine z_lv [0] rfl ?_
      exact z_X7_readArguments_178 C hn hR _ hw
    · replace hw := hw.2 c7
      refine z_aload_n C.1 dX7_readArguments_43 rfl 0 rfl ?_
      refine z_aload_n C.1 dX7_readArguments_44 rfl 0 rfl ?_
      refine gM_0_token C mF_X7_142 dX7_readArguments_45 ?_
      refine z_iconst (v := 1) C.1 dX7_readArguments_48 (by decide) ?_
      refine z_icmp_ne (tgt := 67) C.1 dX7_readArguments_49 (by decide) (fun c8 => ?_) (fun c8 => ?_)
      · replace hw := hw.2 c8
        refine z_lv [0, 1, 2] rfl ?_
        exact z_X7_readArguments_67 C hn hR hK32 _ _ _ hw
      · replace hw := hw.1 c8
        refine z_aload_n C.1 dX7_readArguments_52 rfl 0 rfl ?_
        refine gM_0_arities C mF_X7_13 dX7_readArguments_53 ?_
        refine z_iload_n C.1 dX7_readArguments_56 rfl 1 rfl ?_
        refine lM_2 C hw.1 dX7_readArguments_57 ?_
        replace hw := hw.2
        refine z_bipush (v := 6) C.1 dX7_readArguments_58 (by decide) ?_
        refine z_icmp_ge (tgt := 67) C.1 dX7_readArguments_60 (by decide) (fun c9 => ?_) (fun c9 => ?_)
        · replace hw := hw.1 c9
          refine z_lv [0, 1, 2] rfl ?_
          exact z_X7_readArguments_67 C hn hR hK32 _ _ _ hw
        · replace hw := hw.2 c9
          refine z_iconst (v := 1) C.1 dX7_readArguments_63 (by decide) ?_
          refine z_goto (tgt := 68) C.1 dX7_readArguments_64 (by decide) ?_
          refine z_lv [0, 1, 2] rfl ?_
          exact z_X7_readArguments_68 C hn hR hK32 _ _ _ _ hw
theorem z_X7_readArguments_32 {X : XX} {ad : Nat → Nat} {cs : Nat → ClassId} {post : St → Prop} (C : CxM X ad cs cX7_readArguments RX7 5 109) (hn : xnL X = 6) (hR : rtV X cX7_readArguments (wM ad cs) post) : ∀ (n : Nat) (u : St) (x1 : Int32) (x2 : Int32), wp_X7_readArguments_32 post n u x1 x2 → Z X (wM ad cs u) 32 [(0, .ref (ad 0)), (1, .int x1), (2, .int x2)] []
  | 0, _, _, _, hw => absurd hw (fun h => h)
  | n + 1, u, x1, x2, hw => z_X7_readArguments_32s C hn hR (z_X7_readArguments_32 C hn hR n) u x1 x2 hw
def wp_X7_readArguments (u : St) (post : St → Prop) : Prop :=
  nm ((12 * (gI u 2)) + (gI u 10)) (fun v1 : Int32 => (vp_in v1 24 ∧ nm (sA u 2 (ix v1) 0) (fun u2 : St => wp_X7_take u2 41 (fun (r4 : Int32) (u3 : St) => br (r4 = 0) (∃ n, wp_X7_readArguments_32 post n u3 v1 1) (post u3)))))
set_option maxHeartbeats 4000000 in
set_option maxRecDepth 20000 in
theorem z_X7_readArguments {X : XX} {ad : Nat → Nat} {cs : Nat → ClassId} {post : St → Prop} (C : CxM X ad cs cX7_readArguments RX7 5 109) (hn : xnL X = 6) (hR : rtV X cX7_readArguments (wM ad cs) post) (u : St) (hw : wp_X7_readArguments u post) : Z X (wM ad cs u) 0 [(0, .ref (ad 0))] [] := by
  unfold wp_X7_readArguments at hw
  refine z_bipush (v := 12) C.1 dX7_readArguments_0 (by decide) ?_
  refine z_aload_n C.1 dX7_readArguments_2 rfl 0 rfl ?_
  refine gM_0_bank C mF_X7_182 dX7_readArguments_3 ?_
  refine z_imul C.1 dX7_readArguments_6 ?_
  refine z_aload_n C.1 dX7_readArguments_7 rfl 0 rfl ?_
  refine gM_0_definition C mF_X7_185 dX7_readArguments_8 ?_
  refine z_iadd C.1 dX7_readArguments_11 ?_
  refine z_topi (fun v1 ev1 => ?_)
  replace hw := hw v1 ev1
  refine z_istore_n (lv' := [(1, .int v1), (0, .ref (ad 0))]) C.1 dX7_readArguments_12 rfl (by rw [hn]; decide) rfl ?_
  refine z_aload_n C.1 dX7_readArguments_13 rfl 1 rfl ?_
  refine gM_0_arities C mF_X7_13 dX7_readArguments_14 ?_
  refine z_iload_n C.1 dX7_readArguments_17 rfl 0 rfl ?_
  refine z_iconst (v := 0) C.1 dX7_readArguments_18 (by decide) ?_
  refine sM_2 C hw.1 dX7_readArguments_19 (fun u2 eu2 => ?_)
  replace hw := hw.2 u2 eu2
  refine z_aload_n C.1 dX7_readArguments_20 rfl 1 rfl ?_
  refine z_bipush (v := 41) C.1 dX7_readArguments_21 (by decide) ?_
  refine k_X7_take C mM_X7_232 hw (by decide) (Nat.le_of_ble_eq_true rfl) dX7_readArguments_23 (fun r4 u3 hw => ?_)
  refine z_if_eq (tgt := 30) C.1 dX7_readArguments_26 (by decide) (fun c5 => ?_) (fun c5 => ?_)
  · replace hw := hw.1 c5
    refine z_iconst (v := 1) C.1 dX7_readArguments_30 (by decide) ?_
    refine z_istore_n (lv' := [(2, .int 1), (1, .int v1), (0, .ref (ad 0))]) C.1 dX7_readArguments_31 rfl (by rw [hn]; decide) rfl ?_
    refine z_lv [2, 1, 0] rfl ?_
    obtain ⟨n, hw⟩ := hw
    exact z_X7_readArguments_32 C hn hR n _ _ _ hw
  · replace hw := hw.2 c5
    exact hR _ _ _ dX7_readArguments_29 hw
theorem c_X7_readArguments {l : Launch} {D : va_G} {A : Nat → Prop} {ad : Nat → Nat} {cs : Nat → ClassId} (hD : ∀ u : St, va_D A (wM ad cs u)) (u : St) (post : St → Prop) (hw : wp_X7_readArguments u post) : MV (ad 90, ad 91) l yX7_readArguments cX7_readArguments 6 none (rmm 5 109) D (tysM cs) A (wM ad cs) u [.ref (ad 0)] post :=
  met_v (by decide) (Nat.le_of_ble_eq_true rfl) (fun X C _ _ ht hA hn hsg hR => z_X7_readArguments ⟨C, ht, fun u => by rw [hA]; exact hD u, hsg⟩ hn hR u hw)
theorem k_X7_readArguments {X : XX} {ad : Nat → Nat} {cs : Nat → ClassId} {cc : ByteArray} {own : String} {fr lo pc : Nat} {lv : List (Nat × Value)} {st : List Value} {u : St} (C : CxM X ad cs cc own fr lo) {idx : Nat} {P : St → Prop} (hlink : Cond.methodLink own idx yX7_readArguments ∈ W0) (hw : wp_X7_readArguments u P) (hr : 5 + 1 ≤ fr ∧ 8 + (6 + 11) + 109 ≤ lo) (hst : (st.map fun v => v.category).sum ≤ 8) (hdg : decode cc pc = .ok (.invokevirtual idx, 3)) (k : ∀ (u2 : St), P u2 → Z X (wM ad cs u2) (pc + 3) lv st) : Z X (wM ad cs u) pc lv (.ref (ad 0) :: st) :=
  z_callVv (wf := wM ad cs) (As := []) (rest := st) C.1 0 (q0 := 0) mI_X7_readArguments mS_X7_readArguments rfl rfl (by rw [C.2.1, C.2.2.2]; exact c_X7_readArguments C.2.2.1 u P hw) mC_X7_readArguments mZ_X7 (by decide +kernel) rfl hlink hr hst hdg k

def wp_X7_needSign (u : St) (x1 : Int32) (post : St → Prop) : Prop :=
  wp_X7_isSign u x1 (fun (r2 : Int32) (u1 : St) => wp_X7_need u1 r2 (fun (u3 : St) => br ((gI u3 13) = 0) (post u3) (wp_X7_go u3 (fun (u5 : St) => post u5))))
set_option maxHeartbeats 4000000 in
set_option maxRecDepth 20000 in
theorem z_X7_needSign {X : XX} {ad : Nat → Nat} {cs : Nat → ClassId} {post : St → Prop} (C : CxM X ad cs cX7_needSign RX7 4 87) (hn : xnL X = 2) (hR : rtV X cX7_needSign (wM ad cs) post) (u : St) (x1 : Int32) (hw : wp_X7_needSign u x1 post) : Z X (wM ad cs u) 0 [(0, .ref (ad 0)), (1, .int x1)] [] := by
  unfold wp_X7_needSign at hw
  refine z_aload_n C.1 dX7_needSign_0 rfl 0 rfl ?_
  refine z_aload_n C.1 dX7_needSign_1 rfl 0 rfl ?_
  refine z_iload_n C.1 dX7_needSign_2 rfl 1 rfl ?_
  refine k_X7_isSign C mM_X7_172 hw (by decide) (Nat.le_of_ble_eq_true rfl) dX7_needSign_3 (fun r2 u1 hw => ?_)
  refine k_X7_need C mM_X7_191 hw (by decide) (Nat.le_of_ble_eq_true rfl) dX7_needSign_6 (fun u3 hw => ?_)
  refine z_aload_n C.1 dX7_needSign_9 rfl 0 rfl ?_
  refine gM_0_right C mF_X7_165 dX7_needSign_10 ?_
  refine z_if_eq (tgt := 20) C.1 dX7_needSign_13 (by decide) (fun c4 => ?_) (fun c4 => ?_)
  · replace hw := hw.1 c4
    exact hR _ _ _ dX7_needSign_20 hw
  · replace hw := hw.2 c4
    refine z_aload_n C.1 dX7_needSign_16 rfl 0 rfl ?_
    refine k_X7_go C mM_X7_175 hw (by decide) (Nat.le_of_ble_eq_true rfl) dX7_needSign_17 (fun u5 hw => ?_)
    exact hR _ _ _ dX7_needSign_20 hw
theorem c_X7_needSign {l : Launch} {D : va_G} {A : Nat → Prop} {ad : Nat → Nat} {cs : Nat → ClassId} (hD : ∀ u : St, va_D A (wM ad cs u)) (u : St) (x1 : Int32) (post : St → Prop) (hw : wp_X7_needSign u x1 post) : MV (ad 90, ad 91) l yX7_needSign cX7_needSign 2 none (rmm 4 87) D (tysM cs) A (wM ad cs) u [.ref (ad 0), .int x1] post :=
  met_v (by decide) (Nat.le_of_ble_eq_true rfl) (fun X C _ _ ht hA hn hsg hR => z_X7_needSign ⟨C, ht, fun u => by rw [hA]; exact hD u, hsg⟩ hn hR u x1 hw)
theorem k_X7_needSign {X : XX} {ad : Nat → Nat} {cs : Nat → ClassId} {cc : ByteArray} {own : String} {fr lo pc : Nat} {lv : List (Nat × Value)} {st : List Value} {u : St} (C : CxM X ad cs cc own fr lo) {idx : Nat} {x1 : Int32} {P : St → Prop} (hlink : Cond.methodLink own idx yX7_needSign ∈ W0) (hw : wp_X7_needSign u x1 P) (hr : 4 + 1 ≤ fr ∧ 8 + (2 + 11) + 87 ≤ lo) (hst : (st.map fun v => v.category).sum ≤ 8) (hdg : decode cc pc = .ok (.invokevirtual idx, 3)) (k : ∀ (u2 : St), P u2 → Z X (wM ad cs u2) (pc + 3) lv st) : Z X (wM ad cs u) pc lv (.int x1 :: .ref (ad 0) :: st) :=
  z_callVv (wf := wM ad cs) (As := [.int x1]) (rest := st) C.1 1 (q0 := 0) mI_X7_needSign mS_X7_needSign rfl rfl (by rw [C.2.1, C.2.2.2]; exact c_X7_needSign C.2.2.1 u x1 P hw) mC_X7_needSign mZ_X7 (by decide +kernel) rfl hlink hr hst hdg k

def wp_X7_readDefinition_120 (u : St) (post : St → Prop) : Prop :=
  wp_X7_needSign u 59 (fun (u22 : St) => post u22)
set_option maxHeartbeats 4000000 in
set_option maxRecDepth 20000 in
theorem z_X7_readDefinition_120 {X : XX} {ad : Nat → Nat} {cs : Nat → ClassId} {post : St → Prop} (C : CxM X ad cs cX7_readDefinition RX7 11 241) (hn : xnL X = 1) (hR : rtV X cX7_readDefinition (wM ad cs) post) (u : St) (hw : wp_X7_readDefinition_120 u post) : Z X (wM ad cs u) 120 [(0, .ref (ad 0))] [] := by
  unfold wp_X7_readDefinition_120 at hw
  refine z_aload_n C.1 dX7_readDefinition_120 rfl 0 rfl ?_
  refine z_bipush (v := 59) C.1 dX7_readDefinition_121 (by decide) ?_
  refine k_X7_needSign C mM_X7_273 hw (by decide) (Nat.le_of_ble_eq_true rfl) dX7_readDefinition_123 (fun u22 hw => ?_)
  exact hR _ _ _ dX7_readDefinition_126 hw
def wp_X7_readDefinition_103 (u : St) (post : St → Prop) : Prop :=
  wp_X7_needSign u 61 (fun (u19 : St) => br ((gI u19 13) = 0) (wp_X7_readDefinition_120 u19 post) (wp_X7_readExpression u19 (fun (u21 : St) => wp_X7_readDefinition_120 u21 post)))
set_option maxHeartbeats 4000000 in
set_option maxRecDepth 20000 in
theorem z_X7_readDefinition_103 {X : XX} {ad : Nat → Nat} {cs : Nat → ClassId} {post : St → Prop} (C : CxM X ad cs cX7_readDefinition RX7 11 241) (hn : xnL X = 1) (hR : rtV X cX7_readDefinition (wM ad cs) post) (u : St) (hw : wp_X7_readDefinition_103 u post) : Z X (wM ad cs u) 103 [(0, .ref (ad 0))] [] := by
  unfold wp_X7_readDefinition_103 at hw
  refine z_aload_n C.1 dX7_readDefinition_103 rfl 0 rfl ?_
  refine z_bipush (v := 61) C.1 dX7_readDefinition_104 (by decide) ?_
  refine k_X7_needSign C mM_X7_273 hw (by decide) (Nat.le_of_ble_eq_true rfl) dX7_readDefinition_106 (fun u19 hw => ?_)
  refine z_aload_n C.1 dX7_readDefinition_109 rfl 0 rfl ?_
  refine gM_0_right C mF_X7_165 dX7_readDefinition_110 ?_
  refine z_if_eq (tgt := 120) C.1 dX7_readDefinition_113 (by decide) (fun c20 => ?_) (fun c20 => ?_)
  · replace hw := hw.1 c20
    refine z_lv [0] rfl ?_
    exact z_X7_readDefinition_120 C hn hR _ hw
  · replace hw := hw.2 c20
    refine z_aload_n C.1 dX7_readDefinition_116 rfl 0 rfl ?_
    refine k_X7_readExpression C mM_X7_279 hw (by decide) (Nat.le_of_ble_eq_true rfl) dX7_readDefinition_117 (fun u21 hw => ?_)
    refine z_lv [0] rfl ?_
    exact z_X7_readDefinition_120 C hn hR _ hw
def wp_X7_readDefinition_86 (u : St) (post : St → Prop) : Prop :=
  wp_X7_needSign u 40 (fun (u16 : St) => br ((gI u16 13) = 0) (wp_X7_readDefinition_103 u16 post) (wp_X7_readArguments u16 (fun (u18 : St) => wp_X7_readDefinition_103 u18 post)))
set_option maxHeartbeats 4000000 in
set_option maxRecDepth 20000 in
theorem z_X7_readDefinition_86 {X : XX} {ad : Nat → Nat} {cs : Nat → ClassId} {post : St → Prop} (C : CxM X ad cs cX7_readDefinition RX7 11 241) (hn : xnL X = 1) (hR : rtV X cX7_readDefinition (wM ad cs) post) (u : St) (hw : wp_X7_readDefinition_86 u post) : Z X (wM ad cs u) 86 [(0, .ref (ad 0))] [] := by
  unfold wp_X7_readDefinition_86 at hw
  refine z_aload_n C.1 dX7_readDefinition_86 rfl 0 rfl ?_
  refine z_bipush (v := 40) C.1 dX7_readDefinition_87 (by decide) ?_
  refine k_X7_needSign C mM_X7_273 hw (by decide) (Nat.le_of_ble_eq_true rfl) dX7_readDefinition_89 (fun u16 hw => ?_)
  refine z_aload_n C.1 dX7_readDefinition_92 rfl 0 rfl ?_
  refine gM_0_right C mF_X7_165 dX7_readDefinition_93 ?_
  refine z_if_eq (tgt := 103) C.1 dX7_readDefinition_96 (by decide) (fun c17 => ?_) (fun c17 => ?_)
  · replace hw := hw.1 c17
    refine z_lv [0] rfl ?_
    exact z_X7_readDefinition_103 C hn hR _ hw
  · replace hw := hw.2 c17
    refine z_aload_n C.1 dX7_readDefinition_99 rfl 0 rfl ?_
    refine k_X7_readArguments C mM_X7_276 hw (by decide) (Nat.le_of_ble_eq_true rfl) dX7_readDefinition_100 (fun u18 hw => ?_)
    refine z_lv [0] rfl ?_
    exact z_X7_readDefinition_103 C hn hR _ hw
def wp_X7_readDefinition_51 (u : St) (y0 : Int32) (post : St → Prop) : Prop :=
  wp_X7_need u y0 (fun (u10 : St) => wp_X7_nameOf u10 (fun (r12 : Int64) (u11 : St) => (vp_in ((12 * (gI u10 2)) + (gI u10 10)) 24 ∧ nm (sB u11 15 (ix ((12 * (gI u10 2)) + (gI u10 10))) r12) (fun u13 : St => br ((gI u13 13) = 0) (wp_X7_readDefinition_86 u13 post) (wp_X7_go u13 (fun (u15 : St) => wp_X7_readDefinition_86 u15 post))))))
set_option maxHeartbeats 4000000 in
set_option maxRecDepth 20000 in
theorem z_X7_readDefinition_51 {X : XX} {ad : Nat → Nat} {cs : Nat → ClassId} {post : St → Prop} (C : CxM X ad cs cX7_readDefinition RX7 11 241) (hn : xnL X = 1) (hR : rtV X cX7_readDefinition (wM ad cs) post) (u : St) (y0 : Int32) (hw : wp_X7_readDefinition_51 u y0 post) : Z X (wM ad cs u) 51 [(0, .ref (ad 0))] [.int y0, .ref (ad 0)] := by
  unfold wp_X7_readDefinition_51 at hw
  refine k_X7_need C mM_X7_191 hw (by decide) (Nat.le_of_ble_eq_true rfl) dX7_readDefinition_51 (fun u10 hw => ?_)
  refine z_aload_n C.1 dX7_readDefinition_54 rfl 0 rfl ?_
  refine gM_0_definitionNames C mF_X7_53 dX7_readDefinition_55 ?_
  refine z_bipush (v := 12) C.1 dX7_readDefinition_58 (by decide) ?_
  refine z_aload_n C.1 dX7_readDefinition_60 rfl 0 rfl ?_
  refine gM_0_bank C mF_X7_182 dX7_readDefinition_61 ?_
  refine z_imul C.1 dX7_readDefinition_64 ?_
  refine z_aload_n C.1 dX7_readDefinition_65 rfl 0 rfl ?_
  refine gM_0_definition C mF_X7_185 dX7_readDefinition_66 ?_
  refine z_iadd C.1 dX7_readDefinition_69 ?_
  refine z_aload_n C.1 dX7_readDefinition_70 rfl 0 rfl ?_
  refine k_X7_nameOf C mM_X7_204 hw (by decide) (Nat.le_of_ble_eq_true rfl) dX7_readDefinition_71 (fun r12 u11 hw => ?_)
  refine sM_15 C hw.1 dX7_readDefinition_74 (fun u13 eu13 => ?_)
  replace hw := hw.2 u13 eu13
  refine z_aload_n C.1 dX7_readDefinition_75 rfl 0 rfl ?_
  refine gM_0_right C mF_X7_165 dX7_readDefinition_76 ?_
  refine z_if_eq (tgt := 86) C.1 dX7_readDefinition_79 (by decide) (fun c14 => ?_) (fun c14 => ?_)
  · replace hw := hw.1 c14
    refine z_lv [0] rfl ?_
    exact z_X7_readDefinition_86 C hn hR _ hw
  · replace hw := hw.2 c14
    refine z_aload_n C.1 dX7_readDefinition_82 rfl 0 rfl ?_
    refine k_X7_go C mM_X7_175 hw (by decide) (Nat.le_of_ble_eq_true rfl) dX7_readDefinition_83 (fun u15 hw => ?_)
    refine z_lv [0] rfl ?_
    exact z_X7_readDefinition_86 C hn hR _ hw
def wp_X7_readDefinition_23 (u : St) (y0 : Int32) (post : St → Prop) : Prop :=
  wp_X7_need u y0 (fun (u3 : St) => br ((gI u3 13) = 0) (post u3) (wp_X7_nameOf u3 (fun (r6 : Int64) (u5 : St) => wp_X7_isTaken u5 r6 (fun (r8 : Int32) (u7 : St) => br (r8 = 0) (wp_X7_readDefinition_51 u7 1 post) (wp_X7_readDefinition_51 u7 0 post)))))
set_option maxHeartbeats 4000000 in
set_option maxRecDepth 20000 in
theorem z_X7_readDefinition_23 {X : XX} {ad : Nat → Nat} {cs : Nat → ClassId} {post : St → Prop} (C : CxM X ad cs cX7_readDefinition RX7 11 241) (hn : xnL X = 1) (hR : rtV X cX7_readDefinition (wM ad cs) post) (u : St) (y0 : Int32) (hw : wp_X7_readDefinition_23 u y0 post) : Z X (wM ad cs u) 23 [(0, .ref (ad 0))] [.int y0, .ref (ad 0)] := by
  unfold wp_X7_readDefinition_23 at hw
  refine k_X7_need C mM_X7_191 hw (by decide) (Nat.le_of_ble_eq_true rfl) dX7_readDefinition_23 (fun u3 hw => ?_)
  refine z_aload_n C.1 dX7_readDefinition_26 rfl 0 rfl ?_
  refine gM_0_right C mF_X7_165 dX7_readDefinition_27 ?_
  refine z_if_ne (tgt := 34) C.1 dX7_readDefinition_30 (by decide) (fun c4 => ?_) (fun c4 => ?_)
  · replace hw := hw.2 c4
    refine z_aload_n C.1 dX7_readDefinition_34 rfl 0 rfl ?_
    refine z_aload_n C.1 dX7_readDefinition_35 rfl 0 rfl ?_
    refine z_aload_n C.1 dX7_readDefinition_36 rfl 0 rfl ?_
    refine k_X7_nameOf C mM_X7_204 hw (by decide) (Nat.le_of_ble_eq_true rfl) dX7_readDefinition_37 (fun r6 u5 hw => ?_)
    refine k_X7_isTaken C mM_X7_269 hw (by decide) (Nat.le_of_ble_eq_true rfl) dX7_readDefinition_40 (fun r8 u7 hw => ?_)
    refine z_if_ne (tgt := 50) C.1 dX7_readDefinition_43 (by decide) (fun c9 => ?_) (fun c9 => ?_)
    · replace hw := hw.2 c9
      refine z_iconst (v := 0) C.1 dX7_readDefinition_50 (by decide) ?_
      refine z_lv [0] rfl ?_
      exact z_X7_readDefinition_51 C hn hR _ _ hw
    · replace hw := hw.1 c9
      refine z_iconst (v := 1) C.1 dX7_readDefinition_46 (by decide) ?_
      refine z_goto (tgt := 51) C.1 dX7_readDefinition_47 (by decide) ?_
      refine z_lv [0] rfl ?_
      exact z_X7_readDefinition_51 C hn hR _ _ hw
  · replace hw := hw.1 c4
    exact hR _ _ _ dX7_readDefinition_33 hw
def wp_X7_readDefinition_22 (u : St) (post : St → Prop) : Prop :=
  wp_X7_readDefinition_23 u 0 post
set_option maxHeartbeats 4000000 in
set_option maxRecDepth 20000 in
theorem z_X7_readDefinition_22 {X : XX} {ad : Nat → Nat} {cs : Nat → ClassId} {post : St → Prop} (C : CxM X ad cs cX7_readDefinition RX7 11 241) (hn : xnL X = 1) (hR : rtV X cX7_readDefinition (wM ad cs) post) (u : St) (hw : wp_X7_readDefinition_22 u post) : Z X (wM ad cs u) 22 [(0, .ref (ad 0))] [.ref (ad 0)] := by
  unfold wp_X7_readDefinition_22 at hw
  refine z_iconst (v := 0) C.1 dX7_readDefinition_22 (by decide) ?_
  refine z_lv [0] rfl ?_
  exact z_X7_readDefinition_23 C hn hR _ _ hw
def wp_X7_readDefinition (u : St) (post : St → Prop) : Prop :=
  br ((gI u 6) = 1) (br (12 ≤ (gI u 10)) (wp_X7_readDefinition_22 u post) (wp_X7_readDefinition_23 u 1 post)) (wp_X7_readDefinition_22 u post)
set_option maxHeartbeats 4000000 in
set_option maxRecDepth 20000 in
theorem z_X7_readDefinition {X : XX} {ad : Nat → Nat} {cs : Nat → ClassId} {post : St → Prop} (C : CxM X ad cs cX7_readDefinition RX7 11 241) (hn : xnL X = 1) (hR : rtV X cX7_readDefinition (wM ad cs) post) (u : St) (hw : wp_X7_readDefinition u post) : Z X (wM ad cs u) 0 [(0, .ref (ad 0))] [] := by
  unfold wp_X7_readDefinition at hw
  refine z_aload_n C.1 dX7_readDefinition_0 rfl 0 rfl ?_
  refine z_aload_n C.1 dX7_readDefinition_1 rfl 0 rfl ?_
  refine gM_0_token C mF_X7_142 dX7_readDefinition_2 ?_
  refine z_iconst (v := 1) C.1 dX7_readDefinition_5 (by decide) ?_
  refine z_icmp_ne (tgt := 22) C.1 dX7_readDefinition_6 (by decide) (fun c1 => ?_) (fun c1 => ?_)
  · replace hw := hw.2 c1
    refine z_lv [0] rfl ?_
    exact z_X7_readDefinition_22 C hn hR _ hw
  · replace hw := hw.1 c1
    refine z_aload_n C.1 dX7_readDefinition_9 rfl 0 rfl ?_
    refine gM_0_definition C mF_X7_185 dX7_readDefinition_10 ?_
    refine z_bipush (v := 12) C.1 dX7_readDefinition_13 (by decide) ?_
    refine z_icmp_ge (tgt := 22) C.1 dX7_readDefinition_15 (by decide) (fun c2 => ?_) (fun c2 => ?_)
    · replace hw := hw.1 c2
      refine z_lv [0] rfl ?_
      exact z_X7_readDefinition_22 C hn hR _ hw
    · replace hw := hw.2 c2
      refine z_iconst (v := 1) C.1 dX7_readDefinition_18 (by decide) ?_
      refine z_goto (tgt := 23) C.1 dX7_readDefinition_19 (by decide) ?_
      refine z_lv [0] rfl ?_
      exact z_X7_readDefinition_23 C hn hR _ _ hw
theorem c_X7_readDefinition {l : Launch} {D : va_G} {A : Nat → Prop} {ad : Nat → Nat} {cs : Nat → ClassId} (hD : ∀ u : St, va_D A (wM ad cs u)) (u : St) (post : St → Prop) (hw : wp_X7_readDefinition u post) : MV (ad 90, ad 91) l yX7_readDefinition cX7_readDefinition 1 none (rmm 11 241) D (tysM cs) A (wM ad cs) u [.ref (ad 0)] post :=
  met_v (by decide) (Nat.le_of_ble_eq_true rfl) (fun X C _ _ ht hA hn hsg hR => z_X7_readDefinition ⟨C, ht, fun u => by rw [hA]; exact hD u, hsg⟩ hn hR u hw)
theorem k_X7_readDefinition {X : XX} {ad : Nat → Nat} {cs : Nat → ClassId} {cc : ByteArray} {own : String} {fr lo pc : Nat} {lv : List (Nat × Value)} {st : List Value} {u : St} (C : CxM X ad cs cc own fr lo) {idx : Nat} {P : St → Prop} (hlink : Cond.methodLink own idx yX7_readDefinition ∈ W0) (hw : wp_X7_readDefinition u P) (hr : 11 + 1 ≤ fr ∧ 8 + (1 + 11) + 241 ≤ lo) (hst : (st.map fun v => v.category).sum ≤ 8) (hdg : decode cc pc = .ok (.invokevirtual idx, 3)) (k : ∀ (u2 : St), P u2 → Z X (wM ad cs u2) (pc + 3) lv st) : Z X (wM ad cs u) pc lv (.ref (ad 0) :: st) :=
  z_callVv (wf := wM ad cs) (As := []) (rest := st) C.1 0 (q0 := 0) mI_X7_readDefinition mS_X7_readDefinition rfl rfl (by rw [C.2.1, C.2.2.2]; exact c_X7_readDefinition C.2.2.1 u P hw) mC_X7_readDefinition mZ_X7 (by decide +kernel) rfl hlink hr hst hdg k

def wp_X7_link_211 (K4 : St → Int32 → Int32 → Int32 → Prop) (K12 : St → Int32 → Int32 → Int32 → Int32 → Prop) (u : St) (x1 : Int32) (x2 : Int32) (x3 : Int32) (x4 : Int32) (post : Int32 → St → Prop) : Prop :=
  nm (x4 + 1) (fun v7 : Int32 => K12 u x1 x2 x3 v7)
set_option maxHeartbeats 4000000 in
set_option maxRecDepth 20000 in
theorem z_X7_link_211 {X : XX} {ad : Nat → Nat} {cs : Nat → ClassId} {post : Int32 → St → Prop} (C : CxM X ad cs cX7_link RX7 0 0) (hn : xnL X = 8) (hR : rtI X cX7_link (wM ad cs) post) {K4 : St → Int32 → Int32 → Int32 → Prop} (hK4 : ∀ (u : St) (x1 : Int32) (x2 : Int32) (x3 : Int32), K4 u x1 x2 x3 → Z X (wM ad cs u) 4 [(0, .ref (ad 0)), (1, .int x1), (2, .int x2), (3, .int x3)] []) {K12 : St → Int32 → Int32 → Int32 → Int32 → Prop} (hK12 : ∀ (u : St) (x1 : Int32) (x2 : Int32) (x3 : Int32) (x4 : Int32), K12 u x1 x2 x3 x4 → Z X (wM ad cs u) 12 [(0, .ref (ad 0)), (1, .int x1), (2, .int x2), (3, .int x3), (4, .int x4)] []) (u : St) (x1 : Int32) (x2 : Int32) (x3 : Int32) (x4 : Int32) (hw : wp_X7_link_211 K4 K12 u x1 x2 x3 x4 post) : Z X (wM ad cs u) 211 [(0, .ref (ad 0)), (1, .int x1), (2, .int x2), (3, .int x3), (4, .int x4)] [] := by
  unfold wp_X7_link_211 at hw
  obtain ⟨v7, ev7⟩ : ∃ z : Int32, z = x4 + 1 := ⟨_, rfl⟩
  replace hw := hw v7 ev7
  refine z_iinc (v := v7) (lv' := [(4, .int v7), (0, .ref (ad 0)), (1, .int x1), (2, .int x2), (3, .int x3)]) C.1 (j := 4) dX7_link_211 rfl (by rw [ev7]; rfl) (by rw [hn]; decide) rfl ?_
  refine z_goto (tgt := 12) C.1 dX7_link_214 (by decide) ?_
  refine z_lv [1, 2, 3, 4, 0] rfl ?_
  exact hK12 _ _ _ _ _ hw
def wp_X7_link_210 (K4 : St → Int32 → Int32 → Int32 → Prop) (K12 : St → Int32 → Int32 → Int32 → Int32 → Prop) (u : St) (x1 : Int32) (x3 : Int32) (x4 : Int32) (y0 : Int32) (post : Int32 → St → Prop) : Prop :=
  wp_X7_link_211 K4 K12 u x1 y0 x3 x4 post
set_option maxHeartbeats 4000000 in
set_option maxRecDepth 20000 in
theorem z_X7_link_210 {X : XX} {ad : Nat → Nat} {cs : Nat → ClassId} {post : Int32 → St → Prop} (C : CxM X ad cs cX7_link RX7 0 0) (hn : xnL X = 8) (hR : rtI X cX7_link (wM ad cs) post) {K4 : St → Int32 → Int32 → Int32 → Prop} (hK4 : ∀ (u : St) (x1 : Int32) (x2 : Int32) (x3 : Int32), K4 u x1 x2 x3 → Z X (wM ad cs u) 4 [(0, .ref (ad 0)), (1, .int x1), (2, .int x2), (3, .int x3)] []) {K12 : St → Int32 → Int32 → Int32 → Int32 → Prop} (hK12 : ∀ (u : St) (x1 : Int32) (x2 : Int32) (x3 : Int32) (x4 : Int32), K12 u x1 x2 x3 x4 → Z X (wM ad cs u) 12 [(0, .ref (ad 0)), (1, .int x1), (2, .int x2), (3, .int x3), (4, .int x4)] []) (u : St) (x1 : Int32) (x3 : Int32) (x4 : Int32) (y0 : Int32) (hw : wp_X7_link_210 K4 K12 u x1 x3 x4 y0 post) : Z X (wM ad cs u) 210 [(0, .ref (ad 0)), (1, .int x1), (3, .int x3), (4, .int x4)] [.int y0] := by
  unfold wp_X7_link_210 at hw
  refine z_istore_n (lv' := [(2, .int y0), (0, .ref (ad 0)), (1, .int x1), (3, .int x3), (4, .int x4)]) C.1 dX7_link_210 rfl (by rw [hn]; decide) rfl ?_
  refine z_lv [1, 2, 0, 3, 4] rfl ?_
  exact z_X7_link_211 C hn hR hK4 hK12 _ _ _ _ _ hw
def wp_X7_link_209 (K4 : St → Int32 → Int32 → Int32 → Prop) (K12 : St → Int32 → Int32 → Int32 → Int32 → Prop) (u : St) (x1 : Int32) (x2 : Int32) (x3 : Int32) (x4 : Int32) (post : Int32 → St → Prop) : Prop :=
  wp_X7_link_210 K4 K12 u x1 x3 x4 x2 post
set_option maxHeartbeats 4000000 in
set_option maxRecDepth 20000 in
theorem z_X7_link_209 {X : XX} {ad : Nat → Nat} {cs : Nat → ClassId} {post : Int32 → St → Prop} (C : CxM X ad cs cX7_link RX7 0 0) (hn : xnL X = 8) (hR : rtI X cX7_link (wM ad cs) post) {K4 : St → Int32 → Int32 → Int32 → Prop} (hK4 : ∀ (u : St) (x1 : Int32) (x2 : Int32) (x3 : Int32), K4 u x1 x2 x3 → Z X (wM ad cs u) 4 [(0, .ref (ad 0)), (1, .int x1), (2, .int x2), (3, .int x3)] []) {K12 : St → Int32 → Int32 → Int32 → Int32 → Prop} (hK12 : ∀ (u : St) (x1 : Int32) (x2 : Int32) (x3 : Int32) (x4 : Int32), K12 u x1 x2 x3 x4 → Z X (wM ad cs u) 12 [(0, .ref (ad 0)), (1, .int x1), (2, .int x2), (3, .int x3), (4, .int x4)] []) (u : St) (x1 : Int32) (x2 : Int32) (x3 : Int32) (x4 : Int32) (hw : wp_X7_link_209 K4 K12 u x1 x2 x3 x4 post) : Z X (wM ad cs u) 209 [(0, .ref (ad 0)), (1, .int x1), (2, .int x2), (3, .int x3), (4, .int x4)] [] := by
  unfold wp_X7_link_209 at hw
  refine z_iload_n C.1 dX7_link_209 rfl 2 rfl ?_
  refine z_lv [0, 1, 3, 4] rfl ?_
  exact z_X7_link_210 C hn hR hK4 hK12 _ _ _ _ _ hw
def wp_X7_link_199 (K4 : St → Int32 → Int32 → Int32 → Prop) (K12 : St → Int32 → Int32 → Int32 → Int32 → Prop) (u : St) (x1 : Int32) (x3 : Int32) (x4 : Int32) (x5 : Int32) (post : Int32 → St → Prop) : Prop :=
  (vp_in x5 1440 ∧ wp_X7_link_210 K4 K12 u x1 x3 x4 (gA u 12 (ix x5)) post)
set_option maxHeartbeats 4000000 in
set_option maxRecDepth 20000 in
theorem z_X7_link_199 {X : XX} {ad : Nat → Nat} {cs : Nat → ClassId} {post : Int32 → St → Prop} (C : CxM X ad cs cX7_link RX7 0 0) (hn : xnL X = 8) (hR : rtI X cX7_link (wM ad cs) post) {K4 : St → Int32 → Int32 → Int32 → Prop} (hK4 : ∀ (u : St) (x1 : Int32) (x2 : Int32) (x3 : Int32), K4 u x1 x2 x3 → Z X (wM ad cs u) 4 [(0, .ref (ad 0)), (1, .int x1), (2, .int x2), (3, .int x3)] []) {K12 : St → Int32 → Int32 → Int32 → Int32 → Prop} (hK12 : ∀ (u : St) (x1 : Int32) (x2 : Int32) (x3 : Int32) (x4 : Int32), K12 u x1 x2 x3 x4 → Z X (wM ad cs u) 12 [(0, .ref (ad 0)), (1, .int x1), (2, .int x2), (3, .int x3), (4, .int x4)] []) (u : St) (x1 : Int32) (x3 : Int32) (x4 : Int32) (x5 : Int32) (hw : wp_X7_link_199 K4 K12 u x1 x3 x4 x5 post) : Z X (wM ad cs u) 199 [(0, .ref (ad 0)), (1, .int x1), (3, .int x3), (4, .int x4), (5, .int x5)] [] := by
  unfold wp_X7_link_199 at hw
  refine z_aload_n C.1 dX7_link_199 rfl 0 rfl ?_
  refine gM_0_places C mF_X7_44 dX7_link_200 ?_
  refine z_iload C.1 dX7_link_203 4 rfl ?_
  refine lM_12 C hw.1 dX7_link_205 ?_
  replace hw := hw.2
  refine z_goto (tgt := 210) C.1 dX7_link_206 (by decide) ?_
  refine z_lv [0, 1, 2, 3] rfl ?_
  exact z_X7_link_210 C hn hR hK4 hK12 _ _ _ _ _ hw
def wp_X7_link_165 (K4 : St → Int32 → Int32 → Int32 → Prop) (K12 : St → Int32 → Int32 → Int32 → Int32 → Prop) (K78 : St → Int32 → Int32 → Int32 → Int32 → Int32 → Int32 → Prop) (u : St) (x1 : Int32) (x2 : Int32) (x3 : Int32) (x4 : Int32) (x5 : Int32) (x6 : Int32) (y0 : Int32) (y1 : Int32) (post : Int32 → St → Prop) : Prop :=
  (vp_in y1 1440 ∧ nm (sA u 14 (ix y1) y0) (fun u15 : St => nm (x6 + 1) (fun v16 : Int32 => K78 u15 x1 x2 x3 x4 x5 v16)))
set_option maxHeartbeats 4000000 in
set_option maxRecDepth 20000 in
theorem z_X7_link_165 {X : XX} {ad : Nat → Nat} {cs : Nat → ClassId} {post : Int32 → St → Prop} (C : CxM X ad cs cX7_link RX7 0 0) (hn : xnL X = 8) (hR : rtI X cX7_link (wM ad cs) post) {K4 : St → Int32 → Int32 → Int32 → Prop} (hK4 : ∀ (u : St) (x1 : Int32) (x2 : Int32) (x3 : Int32), K4 u x1 x2 x3 → Z X (wM ad cs u) 4 [(0, .ref (ad 0)), (1, .int x1), (2, .int x2), (3, .int x3)] []) {K12 : St → Int32 → Int32 → Int32 → Int32 → Prop} (hK12 : ∀ (u : St) (x1 : Int32) (x2 : Int32) (x3 : Int32) (x4 : Int32), K12 u x1 x2 x3 x4 → Z X (wM ad cs u) 12 [(0, .ref (ad 0)), (1, .int x1), (2, .int x2), (3, .int x3), (4, .int x4)] []) {K78 : St → Int32 → Int32 → Int32 → Int32 → Int32 → Int32 → Prop} (hK78 : ∀ (u : St) (x1 : Int32) (x2 : Int32) (x3 : Int32) (x4 : Int32) (x5 : Int32) (x6 : Int32), K78 u x1 x2 x3 x4 x5 x6 → Z X (wM ad cs u) 78 [(0, .ref (ad 0)), (1, .int x1), (2, .int x2), (3, .int x3), (4, .int x4), (5, .int x5), (6, .int x6)] []) (u : St) (x1 : Int32) (x2 : Int32) (x3 : Int32) (x4 : Int32) (x5 : Int32) (x6 : Int32) (y0 : Int32) (y1 : Int32) (hw : wp_X7_link_165 K4 K12 K78 u x1 x2 x3 x4 x5 x6 y0 y1 post) : Z X (wM ad cs u) 165 [(0, .ref (ad 0)), (1, .int x1), (2, .int x2), (3, .int x3), (4, .int x4), (5, .int x5), (6, .int x6)] [.int y0, .int y1, .ref (ad 14)] := by
  unfold wp_X7_link_165 at hw
  refine sM_14 C hw.1 dX7_link_165 (fun u15 eu15 => ?_)
  replace hw := hw.2 u15 eu15
  obtain ⟨v16, ev16⟩ : ∃ z : Int32, z = x6 + 1 := ⟨_, rfl⟩
  replace hw := hw v16 ev16
  refine z_iinc (v := v16) (lv' := [(6, .int v16), (0, .ref (ad 0)), (1, .int x1), (2, .int x2), (3, .int x3), (4, .int x4), (5, .int x5)]) C.1 (j := 6) dX7_link_166 rfl (by rw [ev16]; rfl) (by rw [hn]; decide) rfl ?_
  refine z_goto (tgt := 78) C.1 dX7_link_169 (by decide) ?_
  refine z_lv [1, 2, 3, 4, 5, 6, 0] rfl ?_
  exact hK78 _ _ _ _ _ _ _ hw
def wp_X7_link_140 (K4 : St → Int32 → Int32 → Int32 → Prop) (K12 : St → Int32 → Int32 → Int32 → Int32 → Prop) (K78 : St → Int32 → Int32 → Int32 → Int32 → Int32 → Int32 → Prop) (u : St) (x1 : Int32) (x2 : Int32) (x3 : Int32) (x4 : Int32) (x5 : Int32) (x6 : Int32) (y0 : Int32) (post : Int32 → St → Prop) : Prop :=
  br (y0 = 0) ((vp_in x5 1440 ∧ wp_X7_link_165 K4 K12 K78 u x1 x2 x3 x4 x5 x6 (gA u 14 (ix x5)) x5 post)) (wp_X7_link_165 K4 K12 K78 u x1 x2 x3 x4 x5 x6 x6 x5 post)
set_option maxHeartbeats 4000000 in
set_option maxRecDepth 20000 in
theorem z_X7_link_140 {X : XX} {ad : Nat → Nat} {cs : Nat → ClassId} {post : Int32 → St → Prop} (C : CxM X ad cs cX7_link RX7 0 0) (hn : xnL X = 8) (hR : rtI X cX7_link (wM ad cs) post) {K4 : St → Int32 → Int32 → Int32 → Prop} (hK4 : ∀ (u : St) (x1 : Int32) (x2 : Int32) (x3 : Int32), K4 u x1 x2 x3 → Z X (wM ad cs u) 4 [(0, .ref (ad 0)), (1, .int x1), (2, .int x2), (3, .int x3)] []) {K12 : St → Int32 → Int32 → Int32 → Int32 → Prop} (hK12 : ∀ (u : St) (x1 : Int32) (x2 : Int32) (x3 : Int32) (x4 : Int32), K12 u x1 x2 x3 x4 → Z X (wM ad cs u) 12 [(0, .ref (ad 0)), (1, .int x1), (2, .int x2), (3, .int x3), (4, .int x4)] []) {K78 : St → Int32 → Int32 → Int32 → Int32 → Int32 → Int32 → Prop} (hK78 : ∀ (u : St) (x1 : Int32) (x2 : Int32) (x3 : Int32) (x4 : Int32) (x5 : Int32) (x6 : Int32), K78 u x1 x2 x3 x4 x5 x6 → Z X (wM ad cs u) 78 [(0, .ref (ad 0)), (1, .int x1), (2, .int x2), (3, .int x3), (4, .int x4), (5, .int x5), (6, .int x6)] []) (u : St) (x1 : Int32) (x2 : Int32) (x3 : Int32) (x4 : Int32) (x5 : Int32) (x6 : Int32) (y0 : Int32) (hw : wp_X7_link_140 K4 K12 K78 u x1 x2 x3 x4 x5 x6 y0 post) : Z X (wM ad cs u) 140 [(0, .ref (ad 0)), (1, .int x1), (2, .int x2), (3, .int x3), (4, .int x4), (5, .int x5), (6, .int x6)] [.int y0] := by
  unfold wp_X7_link_140 at hw
  refine z_istore (lv' := [(7, .int y0), (0, .ref (ad 0)), (1, .int x1), (2, .int x2), (3, .int x3), (4, .int x4), (5, .int x5), (6, .int x6)]) C.1 dX7_link_140 (by rw [hn]; decide) rfl ?_
  refine z_aload_n C.1 dX7_link_142 rfl 1 rfl ?_
  refine gM_0_targets C mF_X7_50 dX7_link_143 ?_
  refine z_iload C.1 dX7_link_146 6 rfl ?_
  refine z_iload C.1 dX7_link_148 0 rfl ?_
  refine z_if_eq (tgt := 158) C.1 dX7_link_150 (by decide) (fun c14 => ?_) (fun c14 => ?_)
  · replace hw := hw.1 c14
    refine z_aload_n C.1 dX7_link_158 rfl 1 rfl ?_
    refine gM_0_targets C mF_X7_50 dX7_link_159 ?_
    refine z_iload C.1 dX7_link_162 6 rfl ?_
    refine lM_14 C hw.1 dX7_link_164 ?_
    replace hw := hw.2
    refine z_lv [1, 2, 3, 4, 5, 6, 7] rfl ?_
    exact z_X7_link_165 C hn hR hK4 hK12 hK78 _ _ _ _ _ _ _ _ _ hw
  · replace hw := hw.2 c14
    refine z_iload C.1 dX7_link_153 7 rfl ?_
    refine z_goto (tgt := 165) C.1 dX7_link_155 (by decide) ?_
    refine z_lv [1, 2, 3, 4, 5, 6, 7] rfl ?_
    exact z_X7_link_165 C hn hR hK4 hK12 hK78 _ _ _ _ _ _ _ _ _ hw
def wp_X7_link_139 (K4 : St → Int32 → Int32 → Int32 → Prop) (K12 : St → Int32 → Int32 → Int32 → Int32 → Prop) (K78 : St → Int32 → Int32 → Int32 → Int32 → Int32 → Int32 → Prop) (u : St) (x1 : Int32) (x2 : Int32) (x3 : Int32) (x4 : Int32) (x5 : Int32) (x6 : Int32) (post : Int32 → St → Prop) : Prop :=
  wp_X7_link_140 K4 K12 K78 u x1 x2 x3 x4 x5 x6 0 post
set_option maxHeartbeats 4000000 in
set_option maxRecDepth 20000 in
theorem z_X7_link_139 {X : XX} {ad : Nat → Nat} {cs : Nat → ClassId} {post : Int32 → St → Prop} (C : CxM X ad cs cX7_link RX7 0 0) (hn : xnL X = 8) (hR : rtI X cX7_link (wM ad cs) post) {K4 : St → Int32 → Int32 → Int32 → Prop} (hK4 : ∀ (u : St) (x1 : Int32) (x2 : Int32) (x3 : Int32), K4 u x1 x2 x3 → Z X (wM ad cs u) 4 [(0, .ref (ad 0)), (1, .int x1), (2, .int x2), (3, .int x3)] []) {K12 : St → Int32 → Int32 → Int32 → Int32 → Prop} (hK12 : ∀ (u : St) (x1 : Int32) (x2 : Int32) (x3 : Int32) (x4 : Int32), K12 u x1 x2 x3 x4 → Z X (wM ad cs u) 12 [(0, .ref (ad 0)), (1, .int x1), (2, .int x2), (3, .int x3), (4, .int x4)] []) {K78 : St → Int32 → Int32 → Int32 → Int32 → Int32 → Int32 → Prop} (hK78 : ∀ (u : St) (x1 : Int32) (x2 : Int32) (x3 : Int32) (x4 : Int32) (x5 : Int32) (x6 : Int32), K78 u x1 x2 x3 x4 x5 x6 → Z X (wM ad cs u) 78 [(0, .ref (ad 0)), (1, .int x1), (2, .int x2), (3, .int x3), (4, .int x4), (5, .int x5), (6, .int x6)] []) (u : St) (x1 : Int32) (x2 : Int32) (x3 : Int32) (x4 : Int32) (x5 : Int32) (x6 : Int32) (hw : wp_X7_link_139 K4 K12 K78 u x1 x2 x3 x4 x5 x6 post) : Z X (wM ad cs u) 139 [(0, .ref (ad 0)), (1, .int x1), (2, .int x2), (3, .int x3), (4, .int x4), (5, .int x5), (6, .int x6)] [] := by
  unfold wp_X7_link_139 at hw
  refine z_iconst (v := 0) C.1 dX7_link_139 (by decide) ?_
  refine z_lv [0, 1, 2, 3, 4, 5, 6] rfl ?_
  exact z_X7_link_140 C hn hR hK4 hK12 hK78 _ _ _ _ _ _ _ _ hw
def wp_X7_link_78s (K4 : St → Int32 → Int32 → Int32 → Prop) (K12 : St → Int32 → Int32 → Int32 → Int32 → Prop) (K78 : St → Int32 → Int32 → Int32 → Int32 → Int32 → Int32 → Prop) (u : St) (x1 : Int32) (x2 : Int32) (x3 : Int32) (x4 : Int32) (x5 : Int32) (x6 : Int32) (post : Int32 → St → Prop) : Prop :=
  br (x1 ≤ x6) ((vp_in x5 1440 ∧ br ((gA u 14 (ix x5)) = (-1)) (br (x2 = (-1)) (wp_X7_link_199 K4 K12 u x1 x3 x4 x5 post) ((vp_in x5 1440 ∧ br (x2 ≤ (gA u 12 (ix x5))) (wp_X7_link_209 K4 K12 u x1 x2 x3 x4 post) (wp_X7_link_199 K4 K12 u x1 x3 x4 x5 post)))) (wp_X7_link_209 K4 K12 u x1 x2 x3 x4 post))) ((vp_in ((12 * (gI u 2)) + x6) 24 ∧ (vp_in x5 1440 ∧ br ((lg_cmp (gB u 15 (ix ((12 * (gI u 2)) + x6))) (gB u 19 (ix x5))) = 0) ((vp_in ((12 * (gI u 2)) + x6) 24 ∧ (vp_in x5 1440 ∧ br ((gA u 2 (ix ((12 * (gI u 2)) + x6))) = (gA u 13 (ix x5))) (wp_X7_link_140 K4 K12 K78 u x1 x2 x3 x4 x5 x6 1 post) (wp_X7_link_139 K4 K12 K78 u x1 x2 x3 x4 x5 x6 post)))) (wp_X7_link_139 K4 K12 K78 u x1 x2 x3 x4 x5 x6 post))))
def wp_X7_link_78 (K4 : St → Int32 → Int32 → Int32 → Prop) (K12 : St → Int32 → Int32 → Int32 → Int32 → Prop) (post : Int32 → St → Prop) : Nat → St → Int32 → Int32 → Int32 → Int32 → Int32 → Int32 → Prop
  | 0 => fun _ _ _ _ _ _ _ => False
  | n + 1 => fun u x1 x2 x3 x4 x5 x6 => wp_X7_link_78s K4 K12 (wp_X7_link_78 K4 K12 post n) u x1 x2 x3 x4 x5 x6 post
set_option maxHeartbeats 4000000 in
set_option maxRecDepth 20000 in
theorem z_X7_link_78s {X : XX} {ad : Nat → Nat} {cs : Nat → ClassId} {post : Int32 → St → Prop} (C : CxM X ad cs cX7_link RX7 0 0) (hn : xnL X = 8) (hR : rtI X cX7_link (wM ad cs) post) {K4 : St → Int32 → Int32 → Int32 → Prop} (hK4 : ∀ (u : St) (x1 : Int32) (x2 : Int32) (x3 : Int32), K4 u x1 x2 x3 → Z X (wM ad cs u) 4 [(0, .ref (ad 0)), (1, .int x1), (2, .int x2), (3, .int x3)] []) {K12 : St → Int32 → Int32 → Int32 → Int32 → Prop} (hK12 : ∀ (u : St) (x1 : Int32) (x2 : Int32) (x3 : Int32) (x4 : Int32), K12 u x1 x2 x3 x4 → Z X (wM ad cs u) 12 [(0, .ref (ad 0)), (1, .int x1), (2, .int x2), (3, .int x3), (4, .int x4)] []) {K78 : St → Int32 → Int32 → Int32 → Int32 → Int32 → Int32 → Prop} (hK78 : ∀ (u : St) (x1 : Int32) (x2 : Int32) (x3 : Int32) (x4 : Int32) (x5 : Int32) (x6 : Int32), K78 u x1 x2 x3 x4 x5 x6 → Z X (wM ad cs u) 78 [(0, .ref (ad 0)), (1, .int x1), (2, .int x2), (3, .int x3), (4, .int x4), (5, .int x5), (6, .int x6)] []) (u : St) (x1 : Int32) (x2 : Int32) (x3 : Int32) (x4 : Int32) (x5 : Int32) (x6 : Int32) (hw : wp_X7_link_78s K4 K12 K78 u x1 x2 x3 x4 x5 x6 post) : Z X (wM ad cs u) 78 [(0, .ref (ad 0)), (1, .int x1), (2, .int x2), (3, .int x3), (4, .int x4), (5, .int x5), (6, .int x6)] [] := by
  unfold wp_X7_link_78s at hw
  refine z_iload C.1 dX7_link_78 6 rfl ?_
  refine z_iload_n C.1 dX7_link_80 rfl 1 rfl ?_
  refine z_icmp_ge (tgt := 172) C.1 dX7_link_81 (by decide) (fun c8 => ?_) (fun c8 => ?_)
  · replace hw := hw.1 c8
    refine z_aload_n C.1 dX7_link_172 rfl 0 rfl ?_
    refine gM_0_targets C mF_X7_50 dX7_link_173 ?_
    refine z_iload C.1 dX7_link_176 5 rfl ?_
    refine lM_14 C hw.1 dX7_link_178 ?_
    replace hw := hw.2
    refine z_iconst (v := (-1)) C.1 dX7_link_179 (by decide) ?_
    refine z_icmp_ne (tgt := 209) C.1 dX7_link_180 (by decide) (fun c9 => ?_) (fun c9 => ?_)
    · replace hw := hw.2 c9
      refine z_lv [0, 1, 2, 3, 4] rfl ?_
      exact z_X7_link_209 C hn hR hK4 hK12 _ _ _ _ _ hw
    · replace hw := hw.1 c9
      refine z_iload_n C.1 dX7_link_183 rfl 2 rfl ?_
      refine z_iconst (v := (-1)) C.1 dX7_link_184 (by decide) ?_
      refine z_icmp_eq (tgt := 199) C.1 dX7_link_185 (by decide) (fun c10 => ?_) (fun c10 => ?_)
      · replace hw := hw.1 c10
        refine z_lv [0, 1, 3, 4, 5] rfl ?_
        exact z_X7_link_199 C hn hR hK4 hK12 _ _ _ _ _ hw
      · replace hw := hw.2 c10
        refine z_aload_n C.1 dX7_link_188 rfl 0 rfl ?_
        refine gM_0_places C mF_X7_44 dX7_link_189 ?_
        refine z_iload C.1 dX7_link_192 5 rfl ?_
        refine lM_12 C hw.1 dX7_link_194 ?_
        replace hw := hw.2
        refine z_iload_n C.1 dX7_link_195 rfl 2 rfl ?_
        refine z_icmp_ge (tgt := 209) C.1 dX7_link_196 (by decide) (fun c11 => ?_) (fun c11 => ?_)
        · replace hw := hw.1 c11
          refine z_lv [0, 1, 2, 3, 4] rfl ?_
          exact z_X7_link_209 C hn hR hK4 hK12 _ _ _ _ _ hw
        · replace hw := hw.2 c11
          refine z_lv [0, 1, 3, 4, 5] rfl ?_
          exact z_X7_link_199 C hn hR hK4 hK12 _ _ _ _ _ hw
  · replace hw := hw.2 c8
    refine z_aload_n C.1 dX7_link_84 rfl 0 rfl ?_
    refine gM_0_definitionNames C mF_X7_53 dX7_link_85 ?_
    refine z_bipush (v := 12) C.1 dX7_link_88 (by decide) ?_
    refine z_aload_n C.1 dX7_link_90 rfl 0 rfl ?_
    refine gM_0_bank C mF_X7_182 dX7_link_91 ?_
    refine z_imul C.1 dX7_link_94 ?_
    refine z_iload C.1 dX7_link_95 6 rfl ?_
    refine z_iadd C.1 dX7_link_97 ?_
    refine lM_15 C hw.1 dX7_link_98 ?_
    replace hw := hw.2
    refine z_aload_n C.1 dX7_link_99 rfl 0 rfl ?_
    refine gM_0_calledNames C mF_X7_66 dX7_link_100 ?_
    refine z_iload C.1 dX7_link_103 5 rfl ?_
    refine lM_19 C hw.1 dX7_link_105 ?_
    replace hw := hw.2
    refine z_lcmp C.1 dX7_link_106 ?_
    refine z_if_ne (tgt := 139) C.1 dX7_link_107 (by decide) (fun c12 => ?_) (fun c12 => ?_)
    · replace hw := hw.2 c12
      refine z_lv [0, 1, 2, 3, 4, 5, 6] rfl ?_
      exact z_X7_link_139 C hn hR hK4 hK12 hK78 _ _ _ _ _ _ _ hw
    · replace hw := hw.1 c12
      refine z_aload_n C.1 dX7_link_110 rfl 0 rfl ?_
      refine gM_0_arities C mF_X7_13 dX7_link_111 ?_
      refine z_bipush (v := 12) C.1 dX7_link_114 (by decide) ?_
      refine z_aload_n C.1 dX7_link_116 rfl 0 rfl ?_
      refine gM_0_bank C mF_X7_182 dX7_link_117 ?_
      refine z_imul C.1 dX7_link_120 ?_
      refine z_iload C.1 dX7_link_121 6 rfl ?_
      refine z_iadd C.1 dX7_link_123 ?_
      refine lM_2 C hw.1 dX7_link_124 ?_
      replace hw := hw.2
      refine z_aload_n C.1 dX7_link_125 rfl 0 rfl ?_
      refine gM_0_calledArities C mF_X7_47 dX7_link_126 ?_
      refine z_iload C.1 dX7_link_129 5 rfl ?_
      refine lM_13 C hw.1 dX7_link_131 ?_
      replace hw := hw.2
      refine z_icmp_ne (tgt := 139) C.1 dX7_link_132 (by decide) (fun c13 => ?_) (fun c13 => ?_)
      · replace hw := hw.2 c13
        refine z_lv [0, 1, 2, 3, 4, 5, 6] rfl ?_
        exact z_X7_link_139 C hn hR hK4 hK12 hK78 _ _ _ _ _ _ _ hw
      · replace hw := hw.1 c13
        refine z_iconst (v := 1) C.1 dX7_link_135 (by decide) ?_
        refine z_goto (tgt := 140) C.1 dX7_link_136 (by decide) ?_
        refine z_lv [0, 1, 2, 3, 4, 5, 6] rfl ?_
        exact z_X7_link_140 C hn hR hK4 hK12 hK78 _ _ _ _ _ _ _ _ hw
theorem z_X7_link_78 {X : XX} {ad : Nat → Nat} {cs : Nat → ClassId} {post : Int32 → St → Prop} (C : CxM X ad cs cX7_link RX7 0 0) (hn : xnL X = 8) (hR : rtI X cX7_link (wM ad cs) post) {K4 : St → Int32 → Int32 → Int32 → Prop} (hK4 : ∀ (u : St) (x1 : Int32) (x2 : Int32) (x3 : Int32), K4 u x1 x2 x3 → Z X (wM ad cs u) 4 [(0, .ref (ad 0)), (1, .int x1), (2, .int x2), (3, .int x3)] []) {K12 : St → Int32 → Int32 → Int32 → Int32 → Prop} (hK12 : ∀ (u : St) (x1 : Int32) (x2 : Int32) (x3 : Int32) (x4 : Int32), K12 u x1 x2 x3 x4 → Z X (wM ad cs u) 12 [(0, .ref (ad 0)), (1, .int x1), (2, .int x2), (3, .int x3), (4, .int x4)] []) : ∀ (n : Nat) (u : St) (x1 : Int32) (x2 : Int32) (x3 : Int32) (x4 : Int32) (x5 : Int32) (x6 : Int32), wp_X7_link_78 K4 K12 post n u x1 x2 x3 x4 x5 x6 → Z X (wM ad cs u) 78 [(0, .ref (ad 0)), (1, .int x1), (2, .int x2), (3, .int x3), (4, .int x4), (5, .int x5), (6, .int x6)] []
  | 0, _, _, _, _, _, _, _, hw => absurd hw (fun h => h)
  | n + 1, u, x1, x2, x3, x4, x5, x6, hw => z_X7_link_78s C hn hR hK4 hK12 (z_X7_link_78 C hn hR hK4 hK12 n) u x1 x2 x3 x4 x5 x6 hw
def wp_X7_link_75 (K4 : St → Int32 → Int32 → Int32 → Prop) (K12 : St → Int32 → Int32 → Int32 → Int32 → Prop) (u : St) (x1 : Int32) (x2 : Int32) (x3 : Int32) (x4 : Int32) (x5 : Int32) (post : Int32 → St → Prop) : Prop :=
  ∃ n, wp_X7_link_78 K4 K12 post n u x1 x2 x3 x4 x5 0
set_option maxHeartbeats 4000000 in
set_option maxRecDepth 20000 in
theorem z_X7_link_75 {X : XX} {ad : Nat → Nat} {cs : Nat → ClassId} {post : Int32 → St → Prop} (C : CxM X ad cs cX7_link RX7 0 0) (hn : xnL X = 8) (hR : rtI X cX7_link (wM ad cs) post) {K4 : St → Int32 → Int32 → Int32 → Prop} (hK4 : ∀ (u : St) (x1 : Int32) (x2 : Int32) (x3 : Int32), K4 u x1 x2 x3 → Z X (wM ad cs u) 4 [(0, .ref (ad 0)), (1, .int x1), (2, .int x2), (3, .int x3)] []) {K12 : St → Int32 → Int32 → Int32 → Int32 → Prop} (hK12 : ∀ (u : St) (x1 : Int32) (x2 : Int32) (x3 : Int32) (x4 : Int32), K12 u x1 x2 x3 x4 → Z X (wM ad cs u) 12 [(0, .ref (ad 0)), (1, .int x1), (2, .int x2), (3, .int x3), (4, .int x4)] []) (u : St) (x1 : Int32) (x2 : Int32) (x3 : Int32) (x4 : Int32) (x5 : Int32) (hw : wp_X7_link_75 K4 K12 u x1 x2 x3 x4 x5 post) : Z X (wM ad cs u) 75 [(0, .ref (ad 0)), (1, .int x1), (2, .int x2), (3, .int x3), (4, .int x4), (5, .int x5)] [] := by
  unfold wp_X7_link_75 at hw
  refine z_iconst (v := 0) C.1 dX7_link_75 (by decide) ?_
  refine z_istore (lv' := [(6, .int 0), (0, .ref (ad 0)), (1, .int x1), (2, .int x2), (3, .int x3), (4, .int x4), (5, .int x5)]) C.1 dX7_link_76 (by rw [hn]; decide) rfl ?_
  refine z_lv [1, 2, 3, 4, 5, 6, 0] rfl ?_
  obtain ⟨n, hw⟩ := hw
  exact z_X7_link_78 C hn hR hK4 hK12 n _ _ _ _ _ _ _ hw
def wp_X7_link_12s (K4 : St → Int32 → Int32 → Int32 → Prop) (K12 : St → Int32 → Int32 → Int32 → Int32 → Prop) (u : St) (x1 : Int32) (x2 : Int32) (x3 : Int32) (x4 : Int32) (post : Int32 → St → Prop) : Prop :=
  (vp_in ((12 * (gI u 2)) + x3) 24 ∧ br ((gA u 3 (ix ((12 * (gI u 2)) + x3))) ≤ x4) (nm (x3 + 1) (fun v3 : Int32 => K4 u x1 x2 v3)) (nm ((60 * ((12 * (gI u 2)) + x3)) + x4) (fun v4 : Int32 => (vp_in v4 1440 ∧ br ((gA u 5 (ix v4)) = 8) (wp_X7_link_75 K4 K12 u x1 x2 x3 x4 v4 post) ((vp_in v4 1440 ∧ br ((gA u 5 (ix v4)) = 9) (wp_X7_link_75 K4 K12 u x1 x2 x3 x4 v4 post) (wp_X7_link_211 K4 K12 u x1 x2 x3 x4 post)))))))
def wp_X7_link_12 (K4 : St → Int32 → Int32 → Int32 → Prop) (post : Int32 → St → Prop) : Nat → St → Int32 → Int32 → Int32 → Int32 → Prop
  | 0 => fun _ _ _ _ _ => False
  | n + 1 => fun u x1 x2 x3 x4 => wp_X7_link_12s K4 (wp_X7_link_12 K4 post n) u x1 x2 x3 x4 post
set_option maxHeartbeats 4000000 in
set_option maxRecDepth 20000 in
theorem z_X7_link_12s {X : XX} {ad : Nat → Nat} {cs : Nat → ClassId} {post : Int32 → St → Prop} (C : CxM X ad cs cX7_link RX7 0 0) (hn : xnL X = 8) (hR : rtI X cX7_link (wM ad cs) post) {K4 : St → Int32 → Int32 → Int32 → Prop} (hK4 : ∀ (u : St) (x1 : Int32) (x2 : Int32) (x3 : Int32), K4 u x1 x2 x3 → Z X (wM ad cs u) 4 [(0, .ref (ad 0)), (1, .int x1), (2, .int x2), (3, .int x3)] []) {K12 : St → Int32 → Int32 → Int32 → Int32 → Prop} (hK12 : ∀ (u : St) (x1 : Int32) (x2 : Int32) (x3 : Int32) (x4 : Int32), K12 u x1 x2 x3 x4 → Z X (wM ad cs u) 12 [(0, .ref (ad 0)), (1, .int x1), (2, .int x2), (3, .int x3), (4, .int x4)] []) (u : St) (x1 : Int32) (x2 : Int32) (x3 : Int32) (x4 : Int32) (hw : wp_X7_link_12s K4 K12 u x1 x2 x3 x4 post) : Z X (wM ad cs u) 12 [(0, .ref (ad 0)), (1, .int x1), (2, .int x2), (3, .int x3), (4, .int x4)] [] := by
  unfold wp_X7_link_12s at hw
  refine z_iload C.1 dX7_link_12 4 rfl ?_
  refine z_aload_n C.1 dX7_link_14 rfl 0 rfl ?_
  refine gM_0_partCounts C mF_X7_17 dX7_link_15 ?_
  refine z_bipush (v := 12) C.1 dX7_link_18 (by decide) ?_
  refine z_aload_n C.1 dX7_link_20 rfl 0 rfl ?_
  refine gM_0_bank C mF_X7_182 dX7_link_21 ?_
  refine z_imul C.1 dX7_link_24 ?_
  refine z_iload_n C.1 dX7_link_25 rfl 3 rfl ?_
  refine z_iadd C.1 dX7_link_26 ?_
  refine lM_3 C hw.1 dX7_link_27 ?_
  replace hw := hw.2
  refine z_icmp_ge (tgt := 217) C.1 dX7_link_28 (by decide) (fun c2 => ?_) (fun c2 => ?_)
  · replace hw := hw.1 c2
    obtain ⟨v3, ev3⟩ : ∃ z : Int32, z = x3 + 1 := ⟨_, rfl⟩
    replace hw := hw v3 ev3
    refine z_iinc (v := v3) (lv' := [(3, .int v3), (0, .ref (ad 0)), (1, .int x1), (2, .int x2), (4, .int x4)]) C.1 (j := 3) dX7_link_217 rfl (by rw [ev3]; rfl) (by rw [hn]; decide) rfl ?_
    refine z_goto (tgt := 4) C.1 dX7_link_220 (by decide) ?_
    refine z_lv [1, 2, 3, 0] rfl ?_
    exact hK4 _ _ _ _ hw
  · replace hw := hw.2 c2
    refine z_bipush (v := 60) C.1 dX7_link_31 (by decide) ?_
    refine z_bipush (v := 12) C.1 dX7_link_33 (by decide) ?_
    refine z_aload_n C.1 dX7_link_35 rfl 0 rfl ?_
    refine gM_0_bank C mF_X7_182 dX7_link_36 ?_
    refine z_imul C.1 dX7_link_39 ?_
    refine z_iload_n C.1 dX7_link_40 rfl 3 rfl ?_
    refine z_iadd C.1 dX7_link_41 ?_
    refine z_imul C.1 dX7_link_42 ?_
    refine z_iload C.1 dX7_link_43 4 rfl ?_
    refine z_iadd C.1 dX7_link_45 ?_
    refine z_topi (fun v4 ev4 => ?_)
    replace hw := hw v4 ev4
    refine z_istore (lv' := [(5, .int v4), (0, .ref (ad 0)), (1, .int x1), (2, .int x2), (3, .int x3), (4, .int x4)]) C.1 dX7_link_46 (by rw [hn]; decide) rfl ?_
    refine z_aload_n C.1 dX7_link_48 rfl 1 rfl ?_
    refine gM_0_kinds C mF_X7_23 dX7_link_49 ?_
    refine z_iload C.1 dX7_link_52 0 rfl ?_
    refine lM_5 C hw.1 dX7_link_54 ?_
    replace hw := hw.2
    refine z_bipush (v := 8) C.1 dX7_link_55 (by decide) ?_
    refine z_icmp_eq (tgt := 75) C.1 dX7_link_57 (by decide) (fun c5 => ?_) (fun c5 => ?_)
    · replace hw := hw.1 c5
      refine z_lv [1, 2, 3, 4, 5, 0] rfl ?_
      exact z_X7_link_75 C hn hR hK4 hK12 _ _ _ _ _ _ hw
    · replace hw := hw.2 c5
      refine z_aload_n C.1 dX7_link_60 rfl 1 rfl ?_
      refine gM_0_kinds C mF_X7_23 dX7_link_61 ?_
      refine z_iload C.1 dX7_link_64 0 rfl ?_
      refine lM_5 C hw.1 dX7_link_66 ?_
      replace hw := hw.2
      refine z_bipush (v := 9) C.1 dX7_link_67 (by decide) ?_
      refine z_icmp_eq (tgt := 75) C.1 dX7_link_69 (by decide) (fun c6 => ?_) (fun c6 => ?_)
      · replace hw := hw.1 c6
        refine z_lv [1, 2, 3, 4, 5, 0] rfl ?_
        exact z_X7_link_75 C hn hR hK4 hK12 _ _ _ _ _ _ hw
      · replace hw := hw.2 c6
        refine z_goto (tgt := 211) C.1 dX7_link_72 (by decide) ?_
        refine z_lv [1, 2, 3, 4, 5] rfl ?_
        exact z_X7_link_211 C hn hR hK4 hK12 _ _ _ _ _ hw
theorem z_X7_link_12 {X : XX} {ad : Nat → Nat} {cs : Nat → ClassId} {post : Int32 → St → Prop} (C : CxM X ad cs cX7_link RX7 0 0) (hn : xnL X = 8) (hR : rtI X cX7_link (wM ad cs) post) {K4 : St → Int32 → Int32 → Int32 → Prop} (hK4 : ∀ (u : St) (x1 : Int32) (x2 : Int32) (x3 : Int32), K4 u x1 x2 x3 → Z X (wM ad cs u) 4 [(0, .ref (ad 0)), (1, .int x1), (2, .int x2), (3, .int x3)] []) : ∀ (n : Nat) (u : St) (x1 : Int32) (x2 : Int32) (x3 : Int32) (x4 : Int32), wp_X7_link_12 K4 post n u x1 x2 x3 x4 → Z X (wM ad cs u) 12 [(0, .ref (ad 0)), (1, .int x1), (2, .int x2), (3, .int x3), (4, .int x4)] []
  | 0, _, _, _, _, _, hw => absurd hw (fun h => h)
  | n + 1, u, x1, x2, x3, x4, hw => z_X7_link_12s C hn hR hK4 (z_X7_link_12 C hn hR hK4 n) u x1 x2 x3 x4 hw
def wp_X7_link_4s (K4 : St → Int32 → Int32 → Int32 → Prop) (u : St) (x1 : Int32) (x2 : Int32) (x3 : Int32) (post : Int32 → St → Prop) : Prop :=
  br (x1 ≤ x3) (post x2 u) (∃ n, wp_X7_link_12 K4 post n u x1 x2 x3 0)
def wp_X7_link_4 (post : Int32 → St → Prop) : Nat → St → Int32 → Int32 → Int32 → Prop
  | 0 => fun _ _ _ _ => False
  | n + 1 => fun u x1 x2 x3 => wp_X7_link_4s (wp_X7_link_4 post n) u x1 x2 x3 post
set_option maxHeartbeats 4000000 in
set_option maxRecDepth 20000 in
theorem z_X7_link_4s {X : XX} {ad : Nat → Nat} {cs : Nat → ClassId} {post : Int32 → St → Prop} (C : CxM X ad cs cX7_link RX7 0 0) (hn : xnL X = 8) (hR : rtI X cX7_link (wM ad cs) post) {K4 : St → Int32 → Int32 → Int32 → Prop} (hK4 : ∀ (u : St) (x1 : Int32) (x2 : Int32) (x3 : Int32), K4 u x1 x2 x3 → Z X (wM ad cs u) 4 [(0, .ref (ad 0)), (1, .int x1), (2, .int x2), (3, .int x3)] []) (u : St) (x1 : Int32) (x2 : Int32) (x3 : Int32) (hw : wp_X7_link_4s K4 u x1 x2 x3 post) : Z X (wM ad cs u) 4 [(0, .ref (ad 0)), (1, .int x1), (2, .int x2), (3, .int x3)] [] := by
  unfold wp_X7_link_4s at hw
  refine z_iload_n C.1 dX7_link_4 rfl 3 rfl ?_
  refine z_iload_n C.1 dX7_link_5 rfl 1 rfl ?_
  refine z_icmp_ge (tgt := 223) C.1 dX7_link_6 (by decide) (fun c1 => ?_) (fun c1 => ?_)
  · replace hw := hw.1 c1
    refine z_iload_n C.1 dX7_link_223 rfl 2 rfl ?_
    exact hR _ _ _ _ dX7_link_224 hw
  · replace hw := hw.2 c1
    refine z_iconst (v := 0) C.1 dX7_link_9 (by decide) ?_
    refine z_istore (lv' := [(4, .int 0), (0, .ref (ad 0)), (1, .int x1), (2, .int x2), (3, .int x3)]) C.1 dX7_link_10 (by rw [hn]; decide) rfl ?_
    refine z_lv [1, 2, 3, 4, 0] rfl ?_
    obtain ⟨n, hw⟩ := hw
    exact z_X7_link_12 C hn hR hK4 n _ _ _ _ _ hw
theorem z_X7_link_4 {X : XX} {ad : Nat → Nat} {cs : Nat → ClassId} {post : Int32 → St → Prop} (C : CxM X ad cs cX7_link RX7 0 0) (hn : xnL X = 8) (hR : rtI X cX7_link (wM ad cs) post) : ∀ (n : Nat) (u : St) (x1 : Int32) (x2 : Int32) (x3 : Int32), wp_X7_link_4 post n u x1 x2 x3 → Z X (wM ad cs u) 4 [(0, .ref (ad 0)), (1, .int x1), (2, .int x2), (3, .int x3)] []
  | 0, _, _, _, _, hw => absurd hw (fun h => h)
  | n + 1, u, x1, x2, x3, hw => z_X7_link_4s C hn hR (z_X7_link_4 C hn hR n) u x1 x2 x3 hw
def wp_X7_link (u : St) (x1 : Int32) (post : Int32 → St → Prop) : Prop :=
  ∃ n, wp_X7_link_4 post n u x1 (-1) 0
set_option maxHeartbeats 4000000 in
set_option maxRecDepth 20000 in
theorem z_X7_link {X : XX} {ad : Nat → Nat} {cs : Nat → ClassId} {post : Int32 → St → Prop} (C : CxM X ad cs cX7_link RX7 0 0) (hn : xnL X = 8) (hR : rtI X cX7_link (wM ad cs) post) (u : St) (x1 : Int32) (hw : wp_X7_link u x1 post) : Z X (wM ad cs u) 0 [(0, .ref (ad 0)), (1, .int x1)] [] := by
  unfold wp_X7_link at hw
  refine z_iconst (v := (-1)) C.1 dX7_link_0 (by decide) ?_
  refine z_istore_n (lv' := [(2, .int (-1)), (0, .ref (ad 0)), (1, .int x1)]) C.1 dX7_link_1 rfl (by rw [hn]; decide) rfl ?_
  refine z_iconst (v := 0) C.1 dX7_link_2 (by decide) ?_
  refine z_istore_n (lv' := [(3, .int 0), (2, .int (-1)), (0, .ref (ad 0)), (1, .int x1)]) C.1 dX7_link_3 rfl (by rw [hn]; decide) rfl ?_
  refine z_lv [2, 3, 1, 0] rfl ?_
  obtain ⟨n, hw⟩ := hw
  exact z_X7_link_4 C hn hR n _ _ _ _ hw
theorem c_X7_link {l : Launch} {D : va_G} {A : Nat → Prop} {ad : Nat → Nat} {cs : Nat → ClassId} (hD : ∀ u : St, va_D A (wM ad cs u)) (u : St) (x1 : Int32) (post : Int32 → St → Prop) (hw : wp_X7_link u x1 post) : MI (ad 90, ad 91) l yX7_link cX7_link 8 (some .int) (rmm 0 0) D (tysM cs) A (wM ad cs) u [.ref (ad 0), .int x1] post :=
  met_i (by decide) (Nat.le_of_ble_eq_true rfl) (fun X C _ _ ht hA hn hsg hR => z_X7_link ⟨C, ht, fun u => by rw [hA]; exact hD u, hsg⟩ hn hR u x1 hw)
theorem k_X7_link {X : XX} {ad : Nat → Nat} {cs : Nat → ClassId} {cc : ByteArray} {own : String} {fr lo pc : Nat} {lv : List (Nat × Value)} {st : List Value} {u : St} (C : CxM X ad cs cc own fr lo) {idx : Nat} {x1 : Int32} {P : Int32 → St → Prop} (hlink : Cond.methodLink own idx yX7_link ∈ W0) (hw : wp_X7_link u x1 P) (hr : 0 + 1 ≤ fr ∧ 8 + (8 + 11) + 0 ≤ lo) (hst : (st.map fun v => v.category).sum ≤ 8) (hdg : decode cc pc = .ok (.invokevirtual idx, 3)) (k : ∀ (r : Int32) (u2 : St), P r u2 → Z X (wM ad cs u2) (pc + 3) lv (.int r :: st)) : Z X (wM ad cs u) pc lv (.int x1 :: .ref (ad 0) :: st) :=
  z_callVi (wf := wM ad cs) (As := [.int x1]) (rest := st) C.1 1 (q0 := 0) mI_X7_link mS_X7_link rfl rfl (by rw [C.2.1, C.2.2.2]; exact c_X7_link C.2.2.1 u x1 P hw) mC_X7_link mZ_X7 (by decide +kernel) rfl hlink hr hst hdg k

def wp_X7_read_123 (u : St) (x1 : Int32) (post : Int32 → St → Prop) : Prop :=
  nm (sI u 2 (1 - (gI u 2))) (fun u20 : St => post ((-1) - x1) u20)
set_option maxHeartbeats 4000000 in
set_option maxRecDepth 20000 in
theorem z_X7_read_123 {X : XX} {ad : Nat → Nat} {cs : Nat → ClassId} {post : Int32 → St → Prop} (C : CxM X ad cs cX7_read RX7 12 261) (hn : xnL X = 2) (hR : rtI X cX7_read (wM ad cs) post) (u : St) (x1 : Int32) (hw : wp_X7_read_123 u x1 post) : Z X (wM ad cs u) 123 [(0, .ref (ad 0)), (1, .int x1)] [] := by
  unfold wp_X7_read_123 at hw
  refine z_aload_n C.1 dX7_read_123 rfl 0 rfl ?_
  refine z_iconst (v := 1) C.1 dX7_read_124 (by decide) ?_
  refine z_aload_n C.1 dX7_read_125 rfl 0 rfl ?_
  refine gM_0_bank C mF_X7_182 dX7_read_126 ?_
  refine z_isub C.1 dX7_read_129 ?_
  refine pM_0_bank C mF_X7_182 dX7_read_130 (fun u20 eu20 => ?_)
  replace hw := hw u20 eu20
  refine z_iconst (v := (-1)) C.1 dX7_read_133 (by decide) ?_
  refine z_iload_n C.1 dX7_read_134 rfl 1 rfl ?_
  refine z_isub C.1 dX7_read_135 ?_
  exact hR _ _ _ _ dX7_read_136 hw
def wp_X7_read_105 (u : St) (y0 : Int32) (post : Int32 → St → Prop) : Prop :=
  nm (sI u 1 0) (fun u16 : St => br ((gI u16 13) = 0) (wp_X7_read_123 u16 y0 post) (br (y0 = (-1)) (nm (sI u16 3 (gI u16 10)) (fun u19 : St => post (gI u19 3) u19)) (wp_X7_read_123 u16 y0 post)))
set_option maxHeartbeats 4000000 in
set_option maxRecDepth 20000 in
theorem z_X7_read_105 {X : XX} {ad : Nat → Nat} {cs : Nat → ClassId} {post : Int32 → St → Prop} (C : CxM X ad cs cX7_read RX7 12 261) (hn : xnL X = 2) (hR : rtI X cX7_read (wM ad cs) post) (u : St) (y0 : Int32) (hw : wp_X7_read_105 u y0 post) : Z X (wM ad cs u) 105 [(0, .ref (ad 0))] [.int y0] := by
  unfold wp_X7_read_105 at hw
  refine z_istore_n (lv' := [(1, .int y0), (0, .ref (ad 0))]) C.1 dX7_read_105 rfl (by rw [hn]; decide) rfl ?_
  refine z_aload_n C.1 dX7_read_106 rfl 1 rfl ?_
  refine z_iconst (v := 0) C.1 dX7_read_107 (by decide) ?_
  refine pM_0_size C mF_X7_119 dX7_read_108 (fun u16 eu16 => ?_)
  replace hw := hw u16 eu16
  refine z_aload_n C.1 dX7_read_111 rfl 1 rfl ?_
  refine gM_0_right C mF_X7_165 dX7_read_112 ?_
  refine z_if_eq (tgt := 123) C.1 dX7_read_115 (by decide) (fun c17 => ?_) (fun c17 => ?_)
  · replace hw := hw.1 c17
    refine z_lv [1, 0] rfl ?_
    exact z_X7_read_123 C hn hR _ _ hw
  · replace hw := hw.2 c17
    refine z_iload_n C.1 dX7_read_118 rfl 0 rfl ?_
    refine z_iconst (v := (-1)) C.1 dX7_read_119 (by decide) ?_
    refine z_icmp_eq (tgt := 137) C.1 dX7_read_120 (by decide) (fun c18 => ?_) (fun c18 => ?_)
    · replace hw := hw.1 c18
      refine z_aload_n C.1 dX7_read_137 rfl 1 rfl ?_
      refine z_aload_n C.1 dX7_read_138 rfl 1 rfl ?_
      refine gM_0_definition C mF_X7_185 dX7_read_139 ?_
      refine pM_0_definitions C mF_X7_288 dX7_read_142 (fun u19 eu19 => ?_)
      replace hw := hw u19 eu19
      refine z_aload_n C.1 dX7_read_145 rfl 1 rfl ?_
      refine gM_0_definitions C mF_X7_288 dX7_read_146 ?_
      exact hR _ _ _ _ dX7_read_149 hw
    · replace hw := hw.2 c18
      refine z_lv [1, 0] rfl ?_
      exact z_X7_read_123 C hn hR _ _ hw
def wp_X7_read_83 (u : St) (post : Int32 → St → Prop) : Prop :=
  br ((gI u 13) = 0) (wp_X7_read_105 u (gI u 4) post) (wp_X7_link u (gI u 10) (fun (r15 : Int32) (u14 : St) => wp_X7_read_105 u14 r15 post))
set_option maxHeartbeats 4000000 in
set_option maxRecDepth 20000 in
theorem z_X7_read_83 {X : XX} {ad : Nat → Nat} {cs : Nat → ClassId} {post : Int32 → St → Prop} (C : CxM X ad cs cX7_read RX7 12 261) (hn : xnL X = 2) (hR : rtI X cX7_read (wM ad cs) post) (u : St) (hw : wp_X7_read_83 u post) : Z X (wM ad cs u) 83 [(0, .ref (ad 0))] [] := by
  unfold wp_X7_read_83 at hw
  refine z_aload_n C.1 dX7_read_83 rfl 0 rfl ?_
  refine gM_0_right C mF_X7_165 dX7_read_84 ?_
  refine z_if_eq (tgt := 101) C.1 dX7_read_87 (by decide) (fun c13 => ?_) (fun c13 => ?_)
  · replace hw := hw.1 c13
    refine z_aload_n C.1 dX7_read_101 rfl 0 rfl ?_
    refine gM_0_at C mF_X7_132 dX7_read_102 ?_
    refine z_lv [0] rfl ?_
    exact z_X7_read_105 C hn hR _ _ hw
  · replace hw := hw.2 c13
    refine z_aload_n C.1 dX7_read_90 rfl 0 rfl ?_
    refine z_aload_n C.1 dX7_read_91 rfl 0 rfl ?_
    refine gM_0_definition C mF_X7_185 dX7_read_92 ?_
    refine k_X7_link C mM_X7_285 hw (by decide) (Nat.le_of_ble_eq_true rfl) dX7_read_95 (fun r15 u14 hw => ?_)
    refine z_goto (tgt := 105) C.1 dX7_read_98 (by decide) ?_
    refine z_lv [0] rfl ?_
    exact z_X7_read_105 C hn hR _ _ hw
def wp_X7_read_76 (K34 : St → Prop) (u : St) (y0 : Int32) (y1 : Int32) (post : Int32 → St → Prop) : Prop :=
  nm (sI u 10 (y1 + y0)) (fun u12 : St => K34 u12)
set_option maxHeartbeats 4000000 in
set_option maxRecDepth 20000 in
theorem z_X7_read_76 {X : XX} {ad : Nat → Nat} {cs : Nat → ClassId} {post : Int32 → St → Prop} (C : CxM X ad cs cX7_read RX7 12 261) (hn : xnL X = 2) (hR : rtI X cX7_read (wM ad cs) post) {K34 : St → Prop} (hK34 : ∀ (u : St), K34 u → Z X (wM ad cs u) 34 [(0, .ref (ad 0))] []) (u : St) (y0 : Int32) (y1 : Int32) (hw : wp_X7_read_76 K34 u y0 y1 post) : Z X (wM ad cs u) 76 [(0, .ref (ad 0))] [.int y0, .int y1, .ref (ad 0)] := by
  unfold wp_X7_read_76 at hw
  refine z_iadd C.1 dX7_read_76 ?_
  refine pM_0_definition C mF_X7_185 dX7_read_77 (fun u12 eu12 => ?_)
  replace hw := hw u12 eu12
  refine z_goto (tgt := 34) C.1 dX7_read_80 (by decide) ?_
  refine z_lv [0] rfl ?_
  exact hK34 _ hw
def wp_X7_read_55 (K34 : St → Prop) (u : St) (post : Int32 → St → Prop) : Prop :=
  wp_X7_readDefinition u (fun (u10 : St) => br ((gI u10 13) = 0) (wp_X7_read_76 K34 u10 0 (gI u10 10) post) (wp_X7_read_76 K34 u10 1 (gI u10 10) post))
set_option maxHeartbeats 4000000 in
set_option maxRecDepth 20000 in
theorem z_X7_read_55 {X : XX} {ad : Nat → Nat} {cs : Nat → ClassId} {post : Int32 → St → Prop} (C : CxM X ad cs cX7_read RX7 12 261) (hn : xnL X = 2) (hR : rtI X cX7_read (wM ad cs) post) {K34 : St → Prop} (hK34 : ∀ (u : St), K34 u → Z X (wM ad cs u) 34 [(0, .ref (ad 0))] []) (u : St) (hw : wp_X7_read_55 K34 u post) : Z X (wM ad cs u) 55 [(0, .ref (ad 0))] [] := by
  unfold wp_X7_read_55 at hw
  refine z_aload_n C.1 dX7_read_55 rfl 0 rfl ?_
  refine k_X7_readDefinition C mM_X7_282 hw (by decide) (Nat.le_of_ble_eq_true rfl) dX7_read_56 (fun u10 hw => ?_)
  refine z_aload_n C.1 dX7_read_59 rfl 0 rfl ?_
  refine z_dup C.1 dX7_read_60 rfl ?_
  refine gM_0_definition C mF_X7_185 dX7_read_61 ?_
  refine z_aload_n C.1 dX7_read_64 rfl 0 rfl ?_
  refine gM_0_right C mF_X7_165 dX7_read_65 ?_
  refine z_if_eq (tgt := 75) C.1 dX7_read_68 (by decide) (fun c11 => ?_) (fun c11 => ?_)
  · replace hw := hw.1 c11
    refine z_iconst (v := 0) C.1 dX7_read_75 (by decide) ?_
    refine z_lv [0] rfl ?_
    exact z_X7_read_76 C hn hR hK34 _ _ _ hw
  · replace hw := hw.2 c11
    refine z_iconst (v := 1) C.1 dX7_read_71 (by decide) ?_
    refine z_goto (tgt := 76) C.1 dX7_read_72 (by decide) ?_
    refine z_lv [0] rfl ?_
    exact z_X7_read_76 C hn hR hK34 _ _ _ hw
def wp_X7_read_34s (K34 : St → Prop) (u : St) (post : Int32 → St → Prop) : Prop :=
  br ((gI u 13) = 0) (wp_X7_read_83 u post) (br ((gI u 6) = 0) (br ((gI u 10) = 0) (wp_X7_read_55 K34 u post) (wp_X7_read_83 u post)) (wp_X7_read_55 K34 u post))
def wp_X7_read_34 (post : Int32 → St → Prop) : Nat → St → Prop
  | 0 => fun _ => False
  | n + 1 => fun u => wp_X7_read_34s (wp_X7_read_34 post n) u post
set_option maxHeartbeats 4000000 in
set_option maxRecDepth 20000 in
theorem z_X7_read_34s {X : XX} {ad : Nat → Nat} {cs : Nat → ClassId} {post : Int32 → St → Prop} (C : CxM X ad cs cX7_read RX7 12 261) (hn : xnL X = 2) (hR : rtI X cX7_read (wM ad cs) post) {K34 : St → Prop} (hK34 : ∀ (u : St), K34 u → Z X (wM ad cs u) 34 [(0, .ref (ad 0))] []) (u : St) (hw : wp_X7_read_34s K34 u post) : Z X (wM ad cs u) 34 [(0, .ref (ad 0))] [] := by
  unfold wp_X7_read_34s at hw
  refine z_aload_n C.1 dX7_read_34 rfl 0 rfl ?_
  refine gM_0_right C mF_X7_165 dX7_read_35 ?_
  refine z_if_eq (tgt := 83) C.1 dX7_read_38 (by decide) (fun c7 => ?_) (fun c7 => ?_)
  · replace hw := hw.1 c7
    refine z_lv [0] rfl ?_
    exact z_X7_read_83 C hn hR _ hw
  · replace hw := hw.2 c7
    refine z_aload_n C.1 dX7_read_41 rfl 0 rfl ?_
    refine gM_0_token C mF_X7_142 dX7_read_42 ?_
    refine z_if_ne (tgt := 55) C.1 dX7_read_45 (by decide) (fun c8 => ?_) (fun c8 => ?_)
    · replace hw := hw.2 c8
      refine z_lv [0] rfl ?_
      exact z_X7_read_55 C hn hR hK34 _ hw
    · replace hw := hw.1 c8
      refine z_aload_n C.1 dX7_read_48 rfl 0 rfl ?_
      refine gM_0_definition C mF_X7_185 dX7_read_49 ?_
      refine z_if_ne (tgt := 83) C.1 dX7_read_52 (by decide) (fun c9 => ?_) (fun c9 => ?_)
      · replace hw := hw.2 c9
        refine z_lv [0] rfl ?_
        exact z_X7_read_83 C hn hR _ hw
      · replace hw := hw.1 c9
        refine z_lv [0] rfl ?_
        exact z_X7_read_55 C hn hR hK34 _ hw
theorem z_X7_read_34 {X : XX} {ad : Nat → Nat} {cs : Nat → ClassId} {post : Int32 → St → Prop} (C : CxM X ad cs cX7_read RX7 12 261) (hn : xnL X = 2) (hR : rtI X cX7_read (wM ad cs) post) : ∀ (n : Nat) (u : St), wp_X7_read_34 post n u → Z X (wM ad cs u) 34 [(0, .ref (ad 0))] []
  | 0, _, hw => absurd hw (fun h => h)
  | n + 1, u, hw => z_X7_read_34s C hn hR (z_X7_read_34 C hn hR n) u hw
def wp_X7_read (u : St) (post : Int32 → St → Prop) : Prop :=
  nm (sI u 0 0) (fun u1 : St => nm (sI u1 2 (1 - (gI u1 2))) (fun u2 : St => nm (sI u2 13 1) (fun u3 : St => nm (sI u3 10 0) (fun u4 : St => nm (sI u4 4 0) (fun u5 : St => wp_X7_look u5 (fun (u6 : St) => ∃ n, wp_X7_read_34 post n u6))))))
set_option maxHeartbeats 4000000 in
set_option maxRecDepth 20000 in
theorem z_X7_read {X : XX} {ad : Nat → Nat} {cs : Nat → ClassId} {post : Int32 → St → Prop} (C : CxM X ad cs cX7_read RX7 12 261) (hn : xnL X = 2) (hR : rtI X cX7_read (wM ad cs) post) (u : St) (hw : wp_X7_read u post) : Z X (wM ad cs u) 0 [(0, .ref (ad 0))] [] := by
  unfold wp_X7_read at hw
  refine z_aload_n C.1 dX7_read_0 rfl 0 rfl ?_
  refine z_iconst (v := 0) C.1 dX7_read_1 (by decide) ?_
  refine pM_0_code C mF_X7_116 dX7_read_2 (fun u1 eu1 => ?_)
  replace hw := hw u1 eu1
  refine z_aload_n C.1 dX7_read_5 rfl 0 rfl ?_
  refine z_iconst (v := 1) C.1 dX7_read_6 (by decide) ?_
  refine z_aload_n C.1 dX7_read_7 rfl 0 rfl ?_
  refine gM_0_bank C mF_X7_182 dX7_read_8 ?_
  refine z_isub C.1 dX7_read_11 ?_
  refine pM_0_bank C mF_X7_182 dX7_read_12 (fun u2 eu2 => ?_)
  replace hw := hw u2 eu2
  refine z_aload_n C.1 dX7_read_15 rfl 0 rfl ?_
  refine z_iconst (v := 1) C.1 dX7_read_16 (by decide) ?_
  refine pM_0_right C bz1 mF_X7_165 dX7_read_17 (fun u3 eu3 => ?_)
  replace hw := hw u3 eu3
  refine z_aload_n C.1 dX7_read_20 rfl 0 rfl ?_
  refine z_iconst (v := 0) C.1 dX7_read_21 (by decide) ?_
  refine pM_0_definition C mF_X7_185 dX7_read_22 (fun u4 eu4 => ?_)
  replace hw := hw u4 eu4
  refine z_aload_n C.1 dX7_read_25 rfl 0 rfl ?_
  refine z_iconst (v := 0) C.1 dX7_read_26 (by decide) ?_
  refine pM_0_at C mF_X7_132 dX7_read_27 (fun u5 eu5 => ?_)
  replace hw := hw u5 eu5
  refine z_aload_n C.1 dX7_read_30 rfl 0 rfl ?_
  refine k_X7_look C mM_X7_169 hw (by decide) (Nat.le_of_ble_eq_true rfl) dX7_read_31 (fun u6 hw => ?_)
  refine z_lv [0] rfl ?_
  obtain ⟨n, hw⟩ := hw
  exact z_X7_read_34 C hn hR n _ hw
theorem c_X7_read {l : Launch} {D : va_G} {A : Nat → Prop} {ad : Nat → Nat} {cs : Nat → ClassId} (hD : ∀ u : St, va_D A (wM ad cs u)) (u : St) (post : Int32 → St → Prop) (hw : wp_X7_read u post) : MI (ad 90, ad 91) l yX7_read cX7_read 2 (some .int) (rmm 12 261) D (tysM cs) A (wM ad cs) u [.ref (ad 0)] post :=
  met_i (by decide) (Nat.le_of_ble_eq_true rfl) (fun X C _ _ ht hA hn hsg hR => z_X7_read ⟨C, ht, fun u => by rw [hA]; exact hD u, hsg⟩ hn hR u hw)
theorem k_X7_read {X : XX} {ad : Nat → Nat} {cs : Nat → ClassId} {cc : ByteArray} {own : String} {fr lo pc : Nat} {lv : List (Nat × Value)} {st : List Value} {u : St} (C : CxM X ad cs cc own fr lo) {idx : Nat} {P : Int32 → St → Prop} (hlink : Cond.methodLink own idx yX7_read ∈ W0) (hw : wp_X7_read u P) (hr : 12 + 1 ≤ fr ∧ 8 + (2 + 11) + 261 ≤ lo) (hst : (st.map fun v => v.category).sum ≤ 8) (hdg : decode cc pc = .ok (.invokevirtual idx, 3)) (k : ∀ (r : Int32) (u2 : St), P r u2 → Z X (wM ad cs u2) (pc + 3) lv (.int r :: st)) : Z X (wM ad cs u) pc lv (.ref (ad 0) :: st) :=
  z_callVi (wf := wM ad cs) (As := []) (rest := st) C.1 0 (q0 := 0) mI_X7_read mS_X7_read rfl rfl (by rw [C.2.1, C.2.2.2]; exact c_X7_read C.2.2.1 u P hw) mC_X7_read mZ_X7 (by decide +kernel) rfl hlink hr hst hdg k

def wp_X7_partOf (u : St) (x1 : Int32) (post : Int32 → St → Prop) : Prop :=
  (vp_in (x1 / 60) 300 ∧ post ((60 * ((12 * (gI u 2)) + (gA u 23 (ix (x1 / 60))))) + (x1 - x1 / 60 * 60)) u)
set_option maxHeartbeats 4000000 in
set_option maxRecDepth 20000 in
theorem z_X7_partOf {X : XX} {ad : Nat → Nat} {cs : Nat → ClassId} {post : Int32 → St → Prop} (C : CxM X ad cs cX7_partOf RX7 0 0) (hn : xnL X = 2) (hR : rtI X cX7_partOf (wM ad cs) post) (u : St) (x1 : Int32) (hw : wp_X7_partOf u x1 post) : Z X (wM ad cs u) 0 [(0, .ref (ad 0)), (1, .int x1)] [] := by
  unfold wp_X7_partOf at hw
  refine z_bipush (v := 60) C.1 dX7_partOf_0 (by decide) ?_
  refine z_bipush (v := 12) C.1 dX7_partOf_2 (by decide) ?_
  refine z_aload_n C.1 dX7_partOf_4 rfl 0 rfl ?_
  refine gM_0_bank C mF_X7_182 dX7_partOf_5 ?_
  refine z_imul C.1 dX7_partOf_8 ?_
  refine z_aload_n C.1 dX7_partOf_9 rfl 0 rfl ?_
  refine gM_0_callDefinitions C mF_X7_78 dX7_partOf_10 ?_
  refine z_iload_n C.1 dX7_partOf_13 rfl 1 rfl ?_
  refine z_bipush (v := 60) C.1 dX7_partOf_14 (by decide) ?_
  refine z_idiv C.1 dX7_partOf_16 (by decide) ?_
  refine lM_23 C hw.1 dX7_partOf_17 ?_
  replace hw := hw.2
  refine z_iadd C.1 dX7_partOf_18 ?_
  refine z_imul C.1 dX7_partOf_19 ?_
  refine z_iload_n C.1 dX7_partOf_20 rfl 1 rfl ?_
  refine z_bipush (v := 60) C.1 dX7_partOf_21 (by decide) ?_
  refine z_irem C.1 dX7_partOf_23 (by decide) ?_
  refine z_iadd C.1 dX7_partOf_24 ?_
  exact hR _ _ _ _ dX7_partOf_25 hw
theorem c_X7_partOf {l : Launch} {D : va_G} {A : Nat → Prop} {ad : Nat → Nat} {cs : Nat → ClassId} (hD : ∀ u : St, va_D A (wM ad cs u)) (u : St) (x1 : Int32) (post : Int32 → St → Prop) (hw : wp_X7_partOf u x1 post) : MI (ad 90, ad 91) l yX7_partOf cX7_partOf 2 (some .int) (rmm 0 0) D (tysM cs) A (wM ad cs) u [.ref (ad 0), .int x1] post :=
  met_i (by decide) (Nat.le_of_ble_eq_true rfl) (fun X C _ _ ht hA hn hsg hR => z_X7_partOf ⟨C, ht, fun u => by rw [hA]; exact hD u, hsg⟩ hn hR u x1 hw)
theorem k_X7_partOf {X : XX} {ad : Nat → Nat} {cs : Nat → ClassId} {cc : ByteArray} {own : String} {fr lo pc : Nat} {lv : List (Nat × Value)} {st : List Value} {u : St} (C : CxM X ad cs cc own fr lo) {idx : Nat} {x1 : Int32} {P : Int32 → St → Prop} (hlink : Cond.methodLink own idx yX7_partOf ∈ W0) (hw : wp_X7_partOf u x1 P) (hr : 0 + 1 ≤ fr ∧ 8 + (2 + 11) + 0 ≤ lo) (hst : (st.map fun v => v.category).sum ≤ 8) (hdg : decode cc pc = .ok (.invokevirtual idx, 3)) (k : ∀ (r : Int32) (u2 : St), P r u2 → Z X (wM ad cs u2) (pc + 3) lv (.int r :: st)) : Z X (wM ad cs u) pc lv (.int x1 :: .ref (ad 0) :: st) :=
  z_callVi (wf := wM ad cs) (As := [.int x1]) (rest := st) C.1 1 (q0 := 0) mI_X7_partOf mS_X7_partOf rfl rfl (by rw [C.2.1, C.2.2.2]; exact c_X7_partOf C.2.2.1 u x1 P hw) mC_X7_partOf mZ_X7 (by decide +kernel) rfl hlink hr hst hdg k

def wp_X7_here (u : St) (x1 : Int32) (x2 : Int32) (post : Int32 → St → Prop) : Prop :=
  post (((x1 / 60) * 60) + (x2 - x2 / 60 * 60)) u
set_option maxHeartbeats 4000000 in
set_option maxRecDepth 20000 in
theorem z_X7_here {X : XX} {ad : Nat → Nat} {cs : Nat → ClassId} {post : Int32 → St → Prop} (C : CxM X ad cs cX7_here RX7 0 0) (hn : xnL X = 3) (hR : rtI X cX7_here (wM ad cs) post) (u : St) (x1 : Int32) (x2 : Int32) (hw : wp_X7_here u x1 x2 post) : Z X (wM ad cs u) 0 [(0, .ref (ad 0)), (1, .int x1), (2, .int x2)] [] := by
  unfold wp_X7_here at hw
  refine z_iload_n C.1 dX7_here_0 rfl 1 rfl ?_
  refine z_bipush (v := 60) C.1 dX7_here_1 (by decide) ?_
  refine z_idiv C.1 dX7_here_3 (by decide) ?_
  refine z_bipush (v := 60) C.1 dX7_here_4 (by decide) ?_
  refine z_imul C.1 dX7_here_6 ?_
  refine z_iload_n C.1 dX7_here_7 rfl 2 rfl ?_
  refine z_bipush (v := 60) C.1 dX7_here_8 (by decide) ?_
  refine z_irem C.1 dX7_here_10 (by decide) ?_
  refine z_iadd C.1 dX7_here_11 ?_
  exact hR _ _ _ _ dX7_here_12 hw
theorem c_X7_here {l : Launch} {D : va_G} {A : Nat → Prop} {ad : Nat → Nat} {cs : Nat → ClassId} (hD : ∀ u : St, va_D A (wM ad cs u)) (u : St) (x1 : Int32) (x2 : Int32) (post : Int32 → St → Prop) (hw : wp_X7_here u x1 x2 post) : MI (ad 90, ad 91) l yX7_here cX7_here 3 (some .int) (rmm 0 0) D (tysM cs) A (wM ad cs) u [.ref (ad 0), .int x1, .int x2] post :=
  met_i (by decide) (Nat.le_of_ble_eq_true rfl) (fun X C _ _ ht hA hn hsg hR => z_X7_here ⟨C, ht, fun u => by rw [hA]; exact hD u, hsg⟩ hn hR u x1 x2 hw)
theorem k_X7_here {X : XX} {ad : Nat → Nat} {cs : Nat → ClassId} {cc : ByteArray} {own : String} {fr lo pc : Nat} {lv : List (Nat × Value)} {st : List Value} {u : St} (C : CxM X ad cs cc own fr lo) {idx : Nat} {x1 : Int32} {x2 : Int32} {P : Int32 → St → Prop} (hlink : Cond.methodLink own idx yX7_here ∈ W0) (hw : wp_X7_here u x1 x2 P) (hr : 0 + 1 ≤ fr ∧ 8 + (3 + 11) + 0 ≤ lo) (hst : (st.map fun v => v.category).sum ≤ 8) (hdg : decode cc pc = .ok (.invokevirtual idx, 3)) (k : ∀ (r : Int32) (u2 : St), P r u2 → Z X (wM ad cs u2) (pc + 3) lv (.int r :: st)) : Z X (wM ad cs u) pc lv (.int x2 :: .int x1 :: .ref (ad 0) :: st) :=
  z_callVi (wf := wM ad cs) (As := [.int x1, .int x2]) (rest := st) C.1 2 (q0 := 0) mI_X7_here mS_X7_here rfl rfl (by rw [C.2.1, C.2.2.2]; exact c_X7_here C.2.2.1 u x1 x2 P hw) mC_X7_here mZ_X7 (by decide +kernel) rfl hlink hr hst hdg k

def wp_X7_rootOf (u : St) (x1 : Int32) (post : Int32 → St → Prop) : Prop :=
  (vp_in x1 300 ∧ (vp_in ((12 * (gI u 2)) + (gA u 23 (ix x1))) 24 ∧ post ((60 * x1) + ((gA u 4 (ix ((12 * (gI u 2)) + (gA u 23 (ix x1))))) - (gA u 4 (ix ((12 * (gI u 2)) + (gA u 23 (ix x1))))) / 60 * 60)) u))
set_option maxHeartbeats 4000000 in
set_option maxRecDepth 20000 in
theorem z_X7_rootOf {X : XX} {ad : Nat → Nat} {cs : Nat → ClassId} {post : Int32 → St → Prop} (C : CxM X ad cs cX7_rootOf RX7 0 0) (hn : xnL X = 2) (hR : rtI X cX7_rootOf (wM ad cs) post) (u : St) (x1 : Int32) (hw : wp_X7_rootOf u x1 post) : Z X (wM ad cs u) 0 [(0, .ref (ad 0)), (1, .int x1)] [] := by
  unfold wp_X7_rootOf at hw
  refine z_bipush (v := 60) C.1 dX7_rootOf_0 (by decide) ?_
  refine z_iload_n C.1 dX7_rootOf_2 rfl 1 rfl ?_
  refine z_imul C.1 dX7_rootOf_3 ?_
  refine z_aload_n C.1 dX7_rootOf_4 rfl 0 rfl ?_
  refine gM_0_roots C mF_X7_20 dX7_rootOf_5 ?_
  refine z_bipush (v := 12) C.1 dX7_rootOf_8 (by decide) ?_
  refine z_aload_n C.1 dX7_rootOf_10 rfl 0 rfl ?_
  refine gM_0_bank C mF_X7_182 dX7_rootOf_11 ?_
  refine z_imul C.1 dX7_rootOf_14 ?_
  refine z_aload_n C.1 dX7_rootOf_15 rfl 0 rfl ?_
  refine gM_0_callDefinitions C mF_X7_78 dX7_rootOf_16 ?_
  refine z_iload_n C.1 dX7_rootOf_19 rfl 1 rfl ?_
  refine lM_23 C hw.1 dX7_rootOf_20 ?_
  replace hw := hw.2
  refine z_iadd C.1 dX7_rootOf_21 ?_
  refine lM_4 C hw.1 dX7_rootOf_22 ?_
  replace hw := hw.2
  refine z_bipush (v := 60) C.1 dX7_rootOf_23 (by decide) ?_
  refine z_irem C.1 dX7_rootOf_25 (by decide) ?_
  refine z_iadd C.1 dX7_rootOf_26 ?_
  exact hR _ _ _ _ dX7_rootOf_27 hw
theorem c_X7_rootOf {l : Launch} {D : va_G} {A : Nat → Prop} {ad : Nat → Nat} {cs : Nat → ClassId} (hD : ∀ u : St, va_D A (wM ad cs u)) (u : St) (x1 : Int32) (post : Int32 → St → Prop) (hw : wp_X7_rootOf u x1 post) : MI (ad 90, ad 91) l yX7_rootOf cX7_rootOf 2 (some .int) (rmm 0 0) D (tysM cs) A (wM ad cs) u [.ref (ad 0), .int x1] post :=
  met_i (by decide) (Nat.le_of_ble_eq_true rfl) (fun X C _ _ ht hA hn hsg hR => z_X7_rootOf ⟨C, ht, fun u => by rw [hA]; exact hD u, hsg⟩ hn hR u x1 hw)
theorem k_X7_rootOf {X : XX} {ad : Nat → Nat} {cs : Nat → ClassId} {cc : ByteArray} {own : String} {fr lo pc : Nat} {lv : List (Nat × Value)} {st : List Value} {u : St} (C : CxM X ad cs cc own fr lo) {idx : Nat} {x1 : Int32} {P : Int32 → St → Prop} (hlink : Cond.methodLink own idx yX7_rootOf ∈ W0) (hw : wp_X7_rootOf u x1 P) (hr : 0 + 1 ≤ fr ∧ 8 + (2 + 11) + 0 ≤ lo) (hst : (st.map fun v => v.category).sum ≤ 8) (hdg : decode cc pc = .ok (.invokevirtual idx, 3)) (k : ∀ (r : Int32) (u2 : St), P r u2 → Z X (wM ad cs u2) (pc + 3) lv (.int r :: st)) : Z X (wM ad cs u) pc lv (.int x1 :: .ref (ad 0) :: st) :=
  z_callVi (wf := wM ad cs) (As := [.int x1]) (rest := st) C.1 1 (q0 := 0) mI_X7_rootOf mS_X7_rootOf rfl rfl (by rw [C.2.1, C.2.2.2]; exact c_X7_rootOf C.2.2.1 u x1 P hw) mC_X7_rootOf mZ_X7 (by decide +kernel) rfl hlink hr hst hdg k

def wp_X7_reach (u : St) (x1 : Int32) (post : St → Prop) : Prop :=
  (vp_in x1 18000 ∧ br ((gA u 27 (ix x1)) = 0) ((vp_in x1 18000 ∧ nm (sA u 27 (ix x1) (vp_nar .boolean 1)) (fun u2 : St => nm (sI u2 18 1) (fun u3 : St => post u3)))) (post u))
set_option maxHeartbeats 4000000 in
set_option maxRecDepth 20000 in
theorem z_X7_reach {X : XX} {ad : Nat → Nat} {cs : Nat → ClassId} {post : St → Prop} (C : CxM X ad cs cX7_reach RX7 0 0) (hn : xnL X = 2) (hR : rtV X cX7_reach (wM ad cs) post) (u : St) (x1 : Int32) (hw : wp_X7_reach u x1 post) : Z X (wM ad cs u) 0 [(0, .ref (ad 0)), (1, .int x1)] [] := by
  unfold wp_X7_reach at hw
  refine z_aload_n C.1 dX7_reach_0 rfl 0 rfl ?_
  refine gM_0_reached C mF_X7_90 dX7_reach_1 ?_
  refine z_iload_n C.1 dX7_reach_4 rfl 1 rfl ?_
  refine lM_27 C hw.1 dX7_reach_5 ?_
  replace hw := hw.2
  refine z_if_ne (tgt := 21) C.1 dX7_reach_6 (by decide) (fun c1 => ?_) (fun c1 => ?_)
  · replace hw := hw.2 c1
    exact hR _ _ _ dX7_reach_21 hw
  · replace hw := hw.1 c1
    refine z_aload_n C.1 dX7_reach_9 rfl 0 rfl ?_
    refine gM_0_reached C mF_X7_90 dX7_reach_10 ?_
    refine z_iload_n C.1 dX7_reach_13 rfl 1 rfl ?_
    refine z_iconst (v := 1) C.1 dX7_reach_14 (by decide) ?_
    refine sM_27 C hw.1 dX7_reach_15 (fun u2 eu2 => ?_)
    replace hw := hw.2 u2 eu2
    refine z_aload_n C.1 dX7_reach_16 rfl 0 rfl ?_
    refine z_iconst (v := 1) C.1 dX7_reach_17 (by decide) ?_
    refine pM_0_changed C bz1 mF_X7_291 dX7_reach_18 (fun u3 eu3 => ?_)
    replace hw := hw u3 eu3
    exact hR _ _ _ dX7_reach_21 hw
theorem c_X7_reach {l : Launch} {D : va_G} {A : Nat → Prop} {ad : Nat → Nat} {cs : Nat → ClassId} (hD : ∀ u : St, va_D A (wM ad cs u)) (u : St) (x1 : Int32) (post : St → Prop) (hw : wp_X7_reach u x1 post) : MV (ad 90, ad 91) l yX7_reach cX7_reach 2 none (rmm 0 0) D (tysM cs) A (wM ad cs) u [.ref (ad 0), .int x1] post :=
  met_v (by decide) (Nat.le_of_ble_eq_true rfl) (fun X C _ _ ht hA hn hsg hR => z_X7_reach ⟨C, ht, fun u => by rw [hA]; exact hD u, hsg⟩ hn hR u x1 hw)
theorem k_X7_reach {X : XX} {ad : Nat → Nat} {cs : Nat → ClassId} {cc : ByteArray} {own : String} {fr lo pc : Nat} {lv : List (Nat × Value)} {st : List Value} {u : St} (C : CxM X ad cs cc own fr lo) {idx : Nat} {x1 : Int32} {P : St → Prop} (hlink : Cond.methodLink own idx yX7_reach ∈ W0) (hw : wp_X7_reach u x1 P) (hr : 0 + 1 ≤ fr ∧ 8 + (2 + 11) + 0 ≤ lo) (hst : (st.map fun v => v.category).sum ≤ 8) (hdg : decode cc pc = .ok (.invokevirtual idx, 3)) (k : ∀ (u2 : St), P u2 → Z X (wM ad cs u2) (pc + 3) lv st) : Z X (wM ad cs u) pc lv (.int x1 :: .ref (ad 0) :: st) :=
  z_callVv (wf := wM ad cs) (As := [.int x1]) (rest := st) C.1 1 (q0 := 0) mI_X7_reach mS_X7_reach rfl rfl (by rw [C.2.1, C.2.2.2]; exact c_X7_reach C.2.2.1 u x1 P hw) mC_X7_reach mZ_X7 (by decide +kernel) rfl hlink hr hst hdg k

def wp_X7_know (u : St) (x1 : Int32) (x2 : Int32) (x3 : Int32) (post : St → Prop) : Prop :=
  (vp_in x1 18000 ∧ nm (sA u 28 (ix x1) (vp_nar .boolean 1)) (fun u1 : St => (vp_in x1 18000 ∧ nm (sA u1 29 (ix x1) x2) (fun u2 : St => (vp_in x1 18000 ∧ nm (sA u2 30 (ix x1) x3) (fun u3 : St => nm (sI u3 18 1) (fun u4 : St => post u4)))))))
set_option maxHeartbeats 4000000 in
set_option maxRecDepth 20000 in
theorem z_X7_know {X : XX} {ad : Nat → Nat} {cs : Nat → ClassId} {post : St → Prop} (C : CxM X ad cs cX7_know RX7 0 0) (hn : xnL X = 4) (hR : rtV X cX7_know (wM ad cs) post) (u : St) (x1 : Int32) (x2 : Int32) (x3 : Int32) (hw : wp_X7_know u x1 x2 x3 post) : Z X (wM ad cs u) 0 [(0, .ref (ad 0)), (1, .int x1), (2, .int x2), (3, .int x3)] [] := by
  unfold wp_X7_know at hw
  refine z_aload_n C.1 dX7_know_0 rfl 0 rfl ?_
  refine gM_0_known C mF_X7_94 dX7_know_1 ?_
  refine z_iload_n C.1 dX7_know_4 rfl 1 rfl ?_
  refine z_iconst (v := 1) C.1 dX7_know_5 (by decide) ?_
  refine sM_28 C hw.1 dX7_know_6 (fun u1 eu1 => ?_)
  replace hw := hw.2 u1 eu1
  refine z_aload_n C.1 dX7_know_7 rfl 0 rfl ?_
  refine gM_0_numbers C mF_X7_97 dX7_know_8 ?_
  refine z_iload_n C.1 dX7_know_11 rfl 1 rfl ?_
  refine z_iload_n C.1 dX7_know_12 rfl 2 rfl ?_
  refine sM_29 C hw.1 dX7_know_13 (fun u2 eu2 => ?_)
  replace hw := hw.2 u2 eu2
  refine z_aload_n C.1 dX7_know_14 rfl 0 rfl ?_
  refine gM_0_arrays C mF_X7_100 dX7_know_15 ?_
  refine z_iload_n C.1 dX7_know_18 rfl 1 rfl ?_
  refine z_iload_n C.1 dX7_know_19 rfl 3 rfl ?_
  refine sM_30 C hw.1 dX7_know_20 (fun u3 eu3 => ?_)
  replace hw := hw.2 u3 eu3
  refine z_aload_n C.1 dX7_know_21 rfl 0 rfl ?_
  refine z_iconst (v := 1) C.1 dX7_know_22 (by decide) ?_
  refine pM_0_changed C bz1 mF_X7_291 dX7_know_23 (fun u4 eu4 => ?_)
  replace hw := hw u4 eu4
  exact hR _ _ _ dX7_know_26 hw
theorem c_X7_know {l : Launch} {D : va_G} {A : Nat → Prop} {ad : Nat → Nat} {cs : Nat → ClassId} (hD : ∀ u : St, va_D A (wM ad cs u)) (u : St) (x1 : Int32) (x2 : Int32) (x3 : Int32) (post : St → Prop) (hw : wp_X7_know u x1 x2 x3 post) : MV (ad 90, ad 91) l yX7_know cX7_know 4 none (rmm 0 0) D (tysM cs) A (wM ad cs) u [.ref (ad 0), .int x1, .int x2, .int x3] post :=
  met_v (by decide) (Nat.le_of_ble_eq_true rfl) (fun X C _ _ ht hA hn hsg hR => z_X7_know ⟨C, ht, fun u => by rw [hA]; exact hD u, hsg⟩ hn hR u x1 x2 x3 hw)
theorem k_X7_know {X : XX} {ad : Nat → Nat} {cs : Nat → ClassId} {cc : ByteArray} {own : String} {fr lo pc : Nat} {lv : List (Nat × Value)} {st : List Value} {u : St} (C : CxM X ad cs cc own fr lo) {idx : Nat} {x1 : Int32} {x2 : Int32} {x3 : Int32} {P : St → Prop} (hlink : Cond.methodLink own idx yX7_know ∈ W0) (hw : wp_X7_know u x1 x2 x3 P) (hr : 0 + 1 ≤ fr ∧ 8 + (4 + 11) + 0 ≤ lo) (hst : (st.map fun v => v.category).sum ≤ 8) (hdg : decode cc pc = .ok (.invokevirtual idx, 3)) (k : ∀ (u2 : St), P u2 → Z X (wM ad cs u2) (pc + 3) lv st) : Z X (wM ad cs u) pc lv (.int x3 :: .int x2 :: .int x1 :: .ref (ad 0) :: st) :=
  z_callVv (wf := wM ad cs) (As := [.int x1, .int x2, .int x3]) (rest := st) C.1 3 (q0 := 0) mI_X7_know mS_X7_know rfl rfl (by rw [C.2.1, C.2.2.2]; exact c_X7_know C.2.2.1 u x1 x2 x3 P hw) mC_X7_know mZ_X7 (by decide +kernel) rfl hlink hr hst hdg k

def wp_X7_same (u : St) (x1 : Int32) (x2 : Int32) (post : St → Prop) : Prop :=
  (vp_in x2 18000 ∧ br ((gA u 28 (ix x2)) = 0) (post u) ((vp_in x2 18000 ∧ (vp_in x2 18000 ∧ wp_X7_know u x1 (gA u 29 (ix x2)) (gA u 30 (ix x2)) (fun (u2 : St) => post u2)))))
set_option maxHeartbeats 4000000 in
set_option maxRecDepth 20000 in
theorem z_X7_same {X : XX} {ad : Nat → Nat} {cs : Nat → ClassId} {post : St → Prop} (C : CxM X ad cs cX7_same RX7 1 23) (hn : xnL X = 3) (hR : rtV X cX7_same (wM ad cs) post) (u : St) (x1 : Int32) (x2 : Int32) (hw : wp_X7_same u x1 x2 post) : Z X (wM ad cs u) 0 [(0, .ref (ad 0)), (1, .int x1), (2, .int x2)] [] := by
  unfold wp_X7_same at hw
  refine z_aload_n C.1 dX7_same_0 rfl 0 rfl ?_
  refine gM_0_known C mF_X7_94 dX7_same_1 ?_
  refine z_iload_n C.1 dX7_same_4 rfl 2 rfl ?_
  refine lM_28 C hw.1 dX7_same_5 ?_
  replace hw := hw.2
  refine z_if_eq (tgt := 26) C.1 dX7_same_6 (by decide) (fun c1 => ?_) (fun c1 => ?_)
  · replace hw := hw.1 c1
    exact hR _ _ _ dX7_same_26 hw
  · replace hw := hw.2 c1
    refine z_aload_n C.1 dX7_same_9 rfl 0 rfl ?_
    refine z_iload_n C.1 dX7_same_10 rfl 1 rfl ?_
    refine z_aload_n C.1 dX7_same_11 rfl 0 rfl ?_
    refine gM_0_numbers C mF_X7_97 dX7_same_12 ?_
    refine z_iload_n C.1 dX7_same_15 rfl 2 rfl ?_
    refine lM_29 C hw.1 dX7_same_16 ?_
    replace hw := hw.2
    refine z_aload_n C.1 dX7_same_17 rfl 0 rfl ?_
    refine gM_0_arrays C mF_X7_100 dX7_same_18 ?_
    refine z_iload_n C.1 dX7_same_21 rfl 2 rfl ?_
    refine lM_30 C hw.1 dX7_same_22 ?_
    replace hw := hw.2
    refine k_X7_know C mM_X7_294 hw (by decide) (Nat.le_of_ble_eq_true rfl) dX7_same_23 (fun u2 hw => ?_)
    exact hR _ _ _ dX7_same_26 hw
theorem c_X7_same {l : Launch} {D : va_G} {A : Nat → Prop} {ad : Nat → Nat} {cs : Nat → ClassId} (hD : ∀ u : St, va_D A (wM ad cs u)) (u : St) (x1 : Int32) (x2 : Int32) (post : St → Prop) (hw : wp_X7_same u x1 x2 post) : MV (ad 90, ad 91) l yX7_same cX7_same 3 none (rmm 1 23) D (tysM cs) A (wM ad cs) u [.ref (ad 0), .int x1, .int x2] post :=
  met_v (by decide) (Nat.le_of_ble_eq_true rfl) (fun X C _ _ ht hA hn hsg hR => z_X7_same ⟨C, ht, fun u => by rw [hA]; exact hD u, hsg⟩ hn hR u x1 x2 hw)
theorem k_X7_same {X : XX} {ad : Nat → Nat} {cs : Nat → ClassId} {cc : ByteArray} {own : String} {fr lo pc : Nat} {lv : List (Nat × Value)} {st : List Value} {u : St} (C : CxM X ad cs cc own fr lo) {idx : Nat} {x1 : Int32} {x2 : Int32} {P : St → Prop} (hlink : Cond.methodLink own idx yX7_same ∈ W0) (hw : wp_X7_same u x1 x2 P) (hr : 1 + 1 ≤ fr ∧ 8 + (3 + 11) + 23 ≤ lo) (hst : (st.map fun v => v.category).sum ≤ 8) (hdg : decode cc pc = .ok (.invokevirtual idx, 3)) (k : ∀ (u2 : St), P u2 → Z X (wM ad cs u2) (pc + 3) lv st) : Z X (wM ad cs u) pc lv (.int x2 :: .int x1 :: .ref (ad 0) :: st) :=
  z_callVv (wf := wM ad cs) (As := [.int x1, .int x2]) (rest := st) C.1 2 (q0 := 0) mI_X7_same mS_X7_same rfl rfl (by rw [C.2.1, C.2.2.2]; exact c_X7_same C.2.2.1 u x1 x2 P hw) mC_X7_same mZ_X7 (by decide +kernel) rfl hlink hr hst hdg k

def wp_X7_numberOf (u : St) (x1 : Int32) (post : Int32 → St → Prop) : Prop :=
  (vp_in x1 18000 ∧ br ((gA u 30 (ix x1)) = (-1)) ((vp_in x1 18000 ∧ post (gA u 29 (ix x1)) u)) ((vp_in x1 18000 ∧ (vp_in (gA u 30 (ix x1)) 18000 ∧ post (gA u 32 (ix (gA u 30 (ix x1)))) u))))
set_option maxHeartbeats 4000000 in
set_option maxRecDepth 20000 in
theorem z_X7_numberOf {X : XX} {ad : Nat → Nat} {cs : Nat → ClassId} {post : Int32 → St → Prop} (C : CxM X ad cs cX7_numberOf RX7 0 0) (hn : xnL X = 2) (hR : rtI X cX7_numberOf (wM ad cs) post) (u : St) (x1 : Int32) (hw : wp_X7_numberOf u x1 post) : Z X (wM ad cs u) 0 [(0, .ref (ad 0)), (1, .int x1)] [] := by
  unfold wp_X7_numberOf at hw
  refine z_aload_n C.1 dX7_numberOf_0 rfl 0 rfl ?_
  refine gM_0_arrays C mF_X7_100 dX7_numberOf_1 ?_
  refine z_iload_n C.1 dX7_numberOf_4 rfl 1 rfl ?_
  refine lM_30 C hw.1 dX7_numberOf_5 ?_
  replace hw := hw.2
  refine z_iconst (v := (-1)) C.1 dX7_numberOf_6 (by decide) ?_
  refine z_icmp_ne (tgt := 19) C.1 dX7_numberOf_7 (by decide) (fun c1 => ?_) (fun c1 => ?_)
  · replace hw := hw.2 c1
    refine z_aload_n C.1 dX7_numberOf_19 rfl 0 rfl ?_
    refine gM_0_cellCounts C mF_X7_106 dX7_numberOf_20 ?_
    refine z_aload_n C.1 dX7_numberOf_23 rfl 0 rfl ?_
    refine gM_0_arrays C mF_X7_100 dX7_numberOf_24 ?_
    refine z_iload_n C.1 dX7_numberOf_27 rfl 1 rfl ?_
    refine lM_30 C hw.1 dX7_numberOf_28 ?_
    replace hw := hw.2
    refine lM_32 C hw.1 dX7_numberOf_29 ?_
    replace hw := hw.2
    exact hR _ _ _ _ dX7_numberOf_30 hw
  · replace hw := hw.1 c1
    refine z_aload_n C.1 dX7_numberOf_10 rfl 0 rfl ?_
    refine gM_0_numbers C mF_X7_97 dX7_numberOf_11 ?_
    refine z_iload_n C.1 dX7_numberOf_14 rfl 1 rfl ?_
    refine lM_29 C hw.1 dX7_numberOf_15 ?_
    replace hw := hw.2
    refine z_goto (tgt := 30) C.1 dX7_numberOf_16 (by decide) ?_
    exact hR _ _ _ _ dX7_numberOf_30 hw
theorem c_X7_numberOf {l : Launch} {D : va_G} {A : Nat → Prop} {ad : Nat → Nat} {cs : Nat → ClassId} (hD : ∀ u : St, va_D A (wM ad cs u)) (u : St) (x1 : Int32) (post : Int32 → St → Prop) (hw : wp_X7_numberOf u x1 post) : MI (ad 90, ad 91) l yX7_numberOf cX7_numberOf 2 (some .int) (rmm 0 0) D (tysM cs) A (wM ad cs) u [.ref (ad 0), .int x1] post :=
  met_i (by decide) (Nat.le_of_ble_eq_true rfl) (fun X C _ _ ht hA hn hsg hR => z_X7_numberOf ⟨C, ht, fun u => by rw [hA]; exact hD u, hsg⟩ hn hR u x1 hw)
theorem k_X7_numberOf {X : XX} {ad : Nat → Nat} {cs : Nat → ClassId} {cc : ByteArray} {own : String} {fr lo pc : Nat} {lv : List (Nat × Value)} {st : List Value} {u : St} (C : CxM X ad cs cc own fr lo) {idx : Nat} {x1 : Int32} {P : Int32 → St → Prop} (hlink : Cond.methodLink own idx yX7_numberOf ∈ W0) (hw : wp_X7_numberOf u x1 P) (hr : 0 + 1 ≤ fr ∧ 8 + (2 + 11) + 0 ≤ lo) (hst : (st.map fun v => v.category).sum ≤ 8) (hdg : decode cc pc = .ok (.invokevirtual idx, 3)) (k : ∀ (r : Int32) (u2 : St), P r u2 → Z X (wM ad cs u2) (pc + 3) lv (.int r :: st)) : Z X (wM ad cs u) pc lv (.int x1 :: .ref (ad 0) :: st) :=
  z_callVi (wf := wM ad cs) (As := [.int x1]) (rest := st) C.1 1 (q0 := 0) mI_X7_numberOf mS_X7_numberOf rfl rfl (by rw [C.2.1, C.2.2.2]; exact c_X7_numberOf C.2.2.1 u x1 P hw) mC_X7_numberOf mZ_X7 (by decide +kernel) rfl hlink hr hst hdg k

def wp_X7_argument (u : St) (x1 : Int32) (x2 : Int32) (x3 : Int32) (x4 : Int32) (x5 : Int32) (post : St → Prop) : Prop :=
  br (6 ≤ x2) (post u) ((vp_in ((6 * x1) + x2) 1800 ∧ nm (sA u 24 (ix ((6 * x1) + x2)) x3) (fun u2 : St => (vp_in ((6 * x1) + x2) 1800 ∧ nm (sA u2 25 (ix ((6 * x1) + x2)) x4) (fun u3 : St => (vp_in ((6 * x1) + x2) 1800 ∧ nm (sA u3 26 (ix ((6 * x1) + x2)) x5) (fun u4 : St => post u4)))))))
set_option maxHeartbeats 4000000 in
set_option maxRecDepth 20000 in
theorem z_X7_argument {X : XX} {ad : Nat → Nat} {cs : Nat → ClassId} {post : St → Prop} (C : CxM X ad cs cX7_argument RX7 0 0) (hn : xnL X = 6) (hR : rtV X cX7_argument (wM ad cs) post) (u : St) (x1 : Int32) (x2 : Int32) (x3 : Int32) (x4 : Int32) (x5 : Int32) (hw : wp_X7_argument u x1 x2 x3 x4 x5 post) : Z X (wM ad cs u) 0 [(0, .ref (ad 0)), (1, .int x1), (2, .int x2), (3, .int x3), (4, .int x4), (5, .int x5)] [] := by
  unfold wp_X7_argument at hw
  refine z_iload_n C.1 dX7_argument_0 rfl 2 rfl ?_
  refine z_bipush (v := 6) C.1 dX7_argument_1 (by decide) ?_
  refine z_icmp_ge (tgt := 44) C.1 dX7_argument_3 (by decide) (fun c1 => ?_) (fun c1 => ?_)
  · replace hw := hw.1 c1
    exact hR _ _ _ dX7_argument_44 hw
  · replace hw := hw.2 c1
    refine z_aload_n C.1 dX7_argument_6 rfl 0 rfl ?_
    refine gM_0_argumentParts C mF_X7_81 dX7_argument_7 ?_
    refine z_bipush (v := 6) C.1 dX7_argument_10 (by decide) ?_
    refine z_iload_n C.1 dX7_argument_12 rfl 1 rfl ?_
    refine z_imul C.1 dX7_argument_13 ?_
    refine z_iload_n C.1 dX7_argument_14 rfl 2 rfl ?_
    refine z_iadd C.1 dX7_argument_15 ?_
    refine z_iload_n C.1 dX7_argument_16 rfl 3 rfl ?_
    refine sM_24 C hw.1 dX7_argument_17 (fun u2 eu2 => ?_)
    replace hw := hw.2 u2 eu2
    refine z_aload_n C.1 dX7_argument_18 rfl 0 rfl ?_
    refine gM_0_argumentNumbers C mF_X7_84 dX7_argument_19 ?_
    refine z_bipush (v := 6) C.1 dX7_argument_22 (by decide) ?_
    refine z_iload_n C.1 dX7_argument_24 rfl 1 rfl ?_
    refine z_imul C.1 dX7_argument_25 ?_
    refine z_iload_n C.1 dX7_argument_26 rfl 2 rfl ?_
    refine z_iadd C.1 dX7_argument_27 ?_
    refine z_iload C.1 dX7_argument_28 4 rfl ?_
    refine sM_25 C hw.1 dX7_argument_30 (fun u3 eu3 => ?_)
    replace hw := hw.2 u3 eu3
    refine z_aload_n C.1 dX7_argument_31 rfl 0 rfl ?_
    refine gM_0_argumentArrays C mF_X7_87 dX7_argument_32 ?_
    refine z_bipush (v := 6) C.1 dX7_argument_35 (by decide) ?_
    refine z_iload_n C.1 dX7_argument_37 rfl 1 rfl ?_
    refine z_imul C.1 dX7_argument_38 ?_
    refine z_iload_n C.1 dX7_argument_39 rfl 2 rfl ?_
    refine z_iadd C.1 dX7_argument_40 ?_
    refine z_iload C.1 dX7_argument_41 5 rfl ?_
    refine sM_26 C hw.1 dX7_argument_43 (fun u4 eu4 => ?_)
    replace hw := hw.2 u4 eu4
    exact hR _ _ _ dX7_argument_44 hw
theorem c_X7_argument {l : Launch} {D : va_G} {A : Nat → Prop} {ad : Nat → Nat} {cs : Nat → ClassId} (hD : ∀ u : St, va_D A (wM ad cs u)) (u : St) (x1 : Int32) (x2 : Int32) (x3 : Int32) (x4 : Int32) (x5 : Int32) (post : St → Prop) (hw : wp_X7_argument u x1 x2 x3 x4 x5 post) : MV (ad 90, ad 91) l yX7_argument cX7_argument 6 none (rmm 0 0) D (tysM cs) A (wM ad cs) u [.ref (ad 0), .int x1, .int x2, .int x3, .int x4, .int x5] post :=
  met_v (by decide) (Nat.le_of_ble_eq_true rfl) (fun X C _ _ ht hA hn hsg hR => z_X7_argument ⟨C, ht, fun u => by rw [hA]; exact hD u, hsg⟩ hn hR u x1 x2 x3 x4 x5 hw)
theorem k_X7_argument {X : XX} {ad : Nat → Nat} {cs : Nat → ClassId} {cc : ByteArray} {own : String} {fr lo pc : Nat} {lv : List (Nat × Value)} {st : List Value} {u : St} (C : CxM X ad cs cc own fr lo) {idx : Nat} {x1 : Int32} {x2 : Int32} {x3 : Int32} {x4 : Int32} {x5 : Int32} {P : St → Prop} (hlink : Cond.methodLink own idx yX7_argument ∈ W0) (hw : wp_X7_argument u x1 x2 x3 x4 x5 P) (hr : 0 + 1 ≤ fr ∧ 8 + (6 + 11) + 0 ≤ lo) (hst : (st.map fun v => v.category).sum ≤ 8) (hdg : decode cc pc = .ok (.invokevirtual idx, 3)) (k : ∀ (u2 : St), P u2 → Z X (wM ad cs u2) (pc + 3) lv st) : Z X (wM ad cs u) pc lv (.int x5 :: .int x4 :: .int x3 :: .int x2 :: .int x1 :: .ref (ad 0) :: st) :=
  z_callVv (wf := wM ad cs) (As := [.int x1, .int x2, .int x3, .int x4, .int x5]) (rest := st) C.1 5 (q0 := 0) mI_X7_argument mS_X7_argument rfl rfl (by rw [C.2.1, C.2.2.2]; exact c_X7_argument C.2.2.1 u x1 x2 x3 x4 x5 P hw) mC_X7_argument mZ_X7 (by decide +kernel) rfl hlink hr hst hdg k

def wp_X7_call_68s (K68 : St → Int32 → Int32 → Prop) (u : St) (x2 : Int32) (x3 : Int32) (post : Int32 → St → Prop) : Prop :=
  br (((60 * x2) + 60) ≤ x3) (wp_X7_rootOf u x2 (fun (r12 : Int32) (u11 : St) => wp_X7_reach u11 r12 (fun (u13 : St) => post x2 u13))) ((vp_in x3 18000 ∧ nm (sA u 27 (ix x3) (vp_nar .boolean 0)) (fun u14 : St => (vp_in x3 18000 ∧ nm (sA u14 28 (ix x3) (vp_nar .boolean 0)) (fun u15 : St => (vp_in x3 18000 ∧ nm (sA u15 31 (ix x3) (-1)) (fun u16 : St => (vp_in x3 18000 ∧ nm (sA u16 32 (ix x3) 0) (fun u17 : St => nm (x3 + 1) (fun v18 : Int32 => K68 u17 x2 v18))))))))))
def wp_X7_call_68 (post : Int32 → St → Prop) : Nat → St → Int32 → Int32 → Prop
  | 0 => fun _ _ _ => False
  | n + 1 => fun u x2 x3 => wp_X7_call_68s (wp_X7_call_68 post n) u x2 x3 post
set_option maxHeartbeats 4000000 in
set_option maxRecDepth 20000 in
theorem z_X7_call_68s {X : XX} {ad : Nat → Nat} {cs : Nat → ClassId} {post : Int32 → St → Prop} (C : CxM X ad cs cX7_call RX7 1 25) (hn : xnL X = 4) (hR : rtI X cX7_call (wM ad cs) post) {K68 : St → Int32 → Int32 → Prop} (hK68 : ∀ (u : St) (x2 : Int32) (x3 : Int32), K68 u x2 x3 → Z X (wM ad cs u) 68 [(0, .ref (ad 0)), (2, .int x2), (3, .int x3)] []) (u : St) (x2 : Int32) (x3 : Int32) (hw : wp_X7_call_68s K68 u x2 x3 post) : Z X (wM ad cs u) 68 [(0, .ref (ad 0)), (2, .int x2), (3, .int x3)] [] := by
  unfold wp_X7_call_68s at hw
  refine z_iload_n C.1 dX7_call_68 rfl 2 rfl ?_
  refine z_bipush (v := 60) C.1 dX7_call_69 (by decide) ?_
  refine z_iload_n C.1 dX7_call_71 rfl 1 rfl ?_
  refine z_imul C.1 dX7_call_72 ?_
  refine z_bipush (v := 60) C.1 dX7_call_73 (by decide) ?_
  refine z_iadd C.1 dX7_call_75 ?_
  refine z_icmp_ge (tgt := 113) C.1 dX7_call_76 (by decide) (fun c10 => ?_) (fun c10 => ?_)
  · replace hw := hw.1 c10
    refine z_aload_n C.1 dX7_call_113 rfl 0 rfl ?_
    refine z_aload_n C.1 dX7_call_114 rfl 0 rfl ?_
    refine z_iload_n C.1 dX7_call_115 rfl 1 rfl ?_
    refine k_X7_rootOf C mM_X7_311 hw (by decide) (Nat.le_of_ble_eq_true rfl) dX7_call_116 (fun r12 u11 hw => ?_)
    refine k_X7_reach C mM_X7_314 hw (by decide) (Nat.le_of_ble_eq_true rfl) dX7_call_119 (fun u13 hw => ?_)
    refine z_iload_n C.1 dX7_call_122 rfl 1 rfl ?_
    exact hR _ _ _ _ dX7_call_123 hw
  · replace hw := hw.2 c10
    refine z_aload_n C.1 dX7_call_79 rfl 0 rfl ?_
    refine gM_0_reached C mF_X7_90 dX7_call_80 ?_
    refine z_iload_n C.1 dX7_call_83 rfl 2 rfl ?_
    refine z_iconst (v := 0) C.1 dX7_call_84 (by decide) ?_
    refine sM_27 C hw.1 dX7_call_85 (fun u14 eu14 => ?_)
    replace hw := hw.2 u14 eu14
    refine z_aload_n C.1 dX7_call_86 rfl 0 rfl ?_
    refine gM_0_known C mF_X7_94 dX7_call_87 ?_
    refine z_iload_n C.1 dX7_call_90 rfl 2 rfl ?_
    refine z_iconst (v := 0) C.1 dX7_call_91 (by decide) ?_
    refine sM_28 C hw.1 dX7_call_92 (fun u15 eu15 => ?_)
    replace hw := hw.2 u15 eu15
    refine z_aload_n C.1 dX7_call_93 rfl 0 rfl ?_
    refine gM_0_made C mF_X7_103 dX7_call_94 ?_
    refine z_iload_n C.1 dX7_call_97 rfl 2 rfl ?_
    refine z_iconst (v := (-1)) C.1 dX7_call_98 (by decide) ?_
    refine sM_31 C hw.1 dX7_call_99 (fun u16 eu16 => ?_)
    replace hw := hw.2 u16 eu16
    refine z_aload_n C.1 dX7_call_100 rfl 0 rfl ?_
    refine gM_0_cellCounts C mF_X7_106 dX7_call_101 ?_
    refine z_iload_n C.1 dX7_call_104 rfl 2 rfl ?_
    refine z_iconst (v := 0) C.1 dX7_call_105 (by decide) ?_
    refine sM_32 C hw.1 dX7_call_106 (fun u17 eu17 => ?_)
    replace hw := hw.2 u17 eu17
    obtain ⟨v18, ev18⟩ : ∃ z : Int32, z = x3 + 1 := ⟨_, rfl⟩
    replace hw := hw v18 ev18
    refine z_iinc (v := v18) (lv' := [(3, .int v18), (0, .ref (ad 0)), (2, .int x2)]) C.1 (j := 2) dX7_call_107 rfl (by rw [ev18]; rfl) (by rw [hn]; decide) rfl ?_
    refine z_goto (tgt := 68) C.1 dX7_call_110 (by decide) ?_
    refine z_lv [1, 2, 0] rfl ?_
    exact hK68 _ _ _ hw
theorem z_X7_call_68 {X : XX} {ad : Nat → Nat} {cs : Nat → ClassId} {post : Int32 → St → Prop} (C : CxM X ad cs cX7_call RX7 1 25) (hn : xnL X = 4) (hR : rtI X cX7_call (wM ad cs) post) : ∀ (n : Nat) (u : St) (x2 : Int32) (x3 : Int32), wp_X7_call_68 post n u x2 x3 → Z X (wM ad cs u) 68 [(0, .ref (ad 0)), (2, .int x2), (3, .int x3)] []
  | 0, _, _, _, hw => absurd hw (fun h => h)
  | n + 1, u, x2, x3, hw => z_X7_call_68s C hn hR (z_X7_call_68 C hn hR n) u x2 x3 hw
def wp_X7_call_42s (K42 : St → Int32 → Int32 → Prop) (u : St) (x2 : Int32) (x3 : Int32) (post : Int32 → St → Prop) : Prop :=
  br (6 ≤ x3) (nm (60 * x2) (fun v7 : Int32 => ∃ n, wp_X7_call_68 post n u x2 v7)) (wp_X7_argument u x2 x3 (-1) 0 (-1) (fun (u8 : St) => nm (x3 + 1) (fun v9 : Int32 => K42 u8 x2 v9)))
def wp_X7_call_42 (post : Int32 → St → Prop) : Nat → St → Int32 → Int32 → Prop
  | 0 => fun _ _ _ => False
  | n + 1 => fun u x2 x3 => wp_X7_call_42s (wp_X7_call_42 post n) u x2 x3 post
set_option maxHeartbeats 4000000 in
set_option maxRecDepth 20000 in
theorem z_X7_call_42s {X : XX} {ad : Nat → Nat} {cs : Nat → ClassId} {post : Int32 → St → Prop} (C : CxM X ad cs cX7_call RX7 1 25) (hn : xnL X = 4) (hR : rtI X cX7_call (wM ad cs) post) {K42 : St → Int32 → Int32 → Prop} (hK42 : ∀ (u : St) (x2 : Int32) (x3 : Int32), K42 u x2 x3 → Z X (wM ad cs u) 42 [(0, .ref (ad 0)), (2, .int x2), (3, .int x3)] []) (u : St) (x2 : Int32) (x3 : Int32) (hw : wp_X7_call_42s K42 u x2 x3 post) : Z X (wM ad cs u) 42 [(0, .ref (ad 0)), (2, .int x2), (3, .int x3)] [] := by
  unfold wp_X7_call_42s at hw
  refine z_iload_n C.1 dX7_call_42 rfl 2 rfl ?_
  refine z_bipush (v := 6) C.1 dX7_call_43 (by decide) ?_
  refine z_icmp_ge (tgt := 63) C.1 dX7_call_45 (by decide) (fun c6 => ?_) (fun c6 => ?_)
  · replace hw := hw.1 c6
    refine z_bipush (v := 60) C.1 dX7_call_63 (by decide) ?_
    refine z_iload_n C.1 dX7_call_65 rfl 1 rfl ?_
    refine z_imul C.1 dX7_call_66 ?_
    refine z_topi (fun v7 ev7 => ?_)
    replace hw := hw v7 ev7
    refine z_istore_n (lv' := [(3, .int v7), (0, .ref (ad 0)), (2, .int x2)]) C.1 dX7_call_67 rfl (by rw [hn]; decide) rfl ?_
    refine z_lv [1, 2, 0] rfl ?_
    obtain ⟨n, hw⟩ := hw
    exact z_X7_call_68 C hn hR n _ _ _ hw
  · replace hw := hw.2 c6
    refine z_aload_n C.1 dX7_call_48 rfl 0 rfl ?_
    refine z_iload_n C.1 dX7_call_49 rfl 1 rfl ?_
    refine z_iload_n C.1 dX7_call_50 rfl 2 rfl ?_
    refine z_iconst (v := (-1)) C.1 dX7_call_51 (by decide) ?_
    refine z_iconst (v := 0) C.1 dX7_call_52 (by decide) ?_
    refine z_iconst (v := (-1)) C.1 dX7_call_53 (by decide) ?_
    refine k_X7_argument C mM_X7_307 hw (by decide) (Nat.le_of_ble_eq_true rfl) dX7_call_54 (fun u8 hw => ?_)
    obtain ⟨v9, ev9⟩ : ∃ z : Int32, z = x3 + 1 := ⟨_, rfl⟩
    replace hw := hw v9 ev9
    refine z_iinc (v := v9) (lv' := [(3, .int v9), (0, .ref (ad 0)), (2, .int x2)]) C.1 (j := 2) dX7_call_57 rfl (by rw [ev9]; rfl) (by rw [hn]; decide) rfl ?_
    refine z_goto (tgt := 42) C.1 dX7_call_60 (by decide) ?_
    refine z_lv [1, 2, 0] rfl ?_
    exact hK42 _ _ _ hw
theorem z_X7_call_42 {X : XX} {ad : Nat → Nat} {cs : Nat → ClassId} {post : Int32 → St → Prop} (C : CxM X ad cs cX7_call RX7 1 25) (hn : xnL X = 4) (hR : rtI X cX7_call (wM ad cs) post) : ∀ (n : Nat) (u : St) (x2 : Int32) (x3 : Int32), wp_X7_call_42 post n u x2 x3 → Z X (wM ad cs u) 42 [(0, .ref (ad 0)), (2, .int x2), (3, .int x3)] []
  | 0, _, _, _, hw => absurd hw (fun h => h)
  | n + 1, u, x2, x3, hw => z_X7_call_42s C hn hR (z_X7_call_42 C hn hR n) u x2 x3 hw
def wp_X7_call (u : St) (x1 : Int32) (post : Int32 → St → Prop) : Prop :=
  br ((gI u 15) = (gI u 16)) (nm (sI u 17 1) (fun u5 : St => post (-1) u5)) (nm (gI u 15) (fun v2 : Int32 => nm (sI u 15 ((gI u 15) + 1)) (fun u3 : St => (vp_in v2 300 ∧ nm (sA u3 23 (ix v2) x1) (fun u4 : St => ∃ n, wp_X7_call_42 post n u4 v2 0)))))
set_option maxHeartbeats 4000000 in
set_option maxRecDepth 20000 in
theorem z_X7_call {X : XX} {ad : Nat → Nat} {cs : Nat → ClassId} {post : Int32 → St → Prop} (C : CxM X ad cs cX7_call RX7 1 25) (hn : xnL X = 4) (hR : rtI X cX7_call (wM ad cs) post) (u : St) (x1 : Int32) (hw : wp_X7_call u x1 post) : Z X (wM ad cs u) 0 [(0, .ref (ad 0)), (1, .int x1)] [] := by
  unfold wp_X7_call at hw
  refine z_aload_n C.1 dX7_call_0 rfl 0 rfl ?_
  refine gM_0_calls C mF_X7_298 dX7_call_1 ?_
  refine z_aload_n C.1 dX7_call_4 rfl 0 rfl ?_
  refine gM_0_most C mF_X7_301 dX7_call_5 ?_
  refine z_icmp_ne (tgt := 18) C.1 dX7_call_8 (by decide) (fun c1 => ?_) (fun c1 => ?_)
  · replace hw := hw.2 c1
    refine z_aload_n C.1 dX7_call_18 rfl 0 rfl ?_
    refine gM_0_calls C mF_X7_298 dX7_call_19 ?_
    refine z_topi (fun v2 ev2 => ?_)
    replace hw := hw v2 ev2
    refine z_istore_n (lv' := [(2, .int v2), (0, .ref (ad 0)), (1, .int x1)]) C.1 dX7_call_22 rfl (by rw [hn]; decide) rfl ?_
    refine z_aload_n C.1 dX7_call_23 rfl 1 rfl ?_
    refine z_dup C.1 dX7_call_24 rfl ?_
    refine gM_0_calls C mF_X7_298 dX7_call_25 ?_
    refine z_iconst (v := 1) C.1 dX7_call_28 (by decide) ?_
    refine z_iadd C.1 dX7_call_29 ?_
    refine pM_0_calls C mF_X7_298 dX7_call_30 (fun u3 eu3 => ?_)
    replace hw := hw u3 eu3
    refine z_aload_n C.1 dX7_call_33 rfl 1 rfl ?_
    refine gM_0_callDefinitions C mF_X7_78 dX7_call_34 ?_
    refine z_iload_n C.1 dX7_call_37 rfl 0 rfl ?_
    refine z_iload_n C.1 dX7_call_38 rfl 2 rfl ?_
    refine sM_23 C hw.1 dX7_call_39 (fun u4 eu4 => ?_)
    replace hw := hw.2 u4 eu4
    refine z_iconst (v := 0) C.1 dX7_call_40 (by decide) ?_
    refine z_istore_n (lv' := [(3, .int 0), (2, .int v2), (0, .ref (ad 0)), (1, .int x1)]) C.1 dX7_call_41 rfl (by rw [hn]; decide) rfl ?_
    refine z_lv [2, 1, 0] rfl ?_
    obtain ⟨n, hw⟩ := hw
    exact z_X7_call_42 C hn hR n _ _ _ hw
  · replace hw := hw.1 c1
    refine z_aload_n C.1 dX7_call_11 rfl 0 rfl ?_
    refine z_iconst (v := 1) C.1 dX7_call_12 (by decide) ?_
    refine pM_0_over C bz1 mF_X7_304 dX7_call_13 (fun u5 eu5 => ?_)
    replace hw := hw u5 eu5
    refine z_iconst (v := (-1)) C.1 dX7_call_16 (by decide) ?_
    exact hR _ _ _ _ dX7_call_17 hw
theorem c_X7_call {l : Launch} {D : va_G} {A : Nat → Prop} {ad : Nat → Nat} {cs : Nat → ClassId} (hD : ∀ u : St, va_D A (wM ad cs u)) (u : St) (x1 : Int32) (post : Int32 → St → Prop) (hw : wp_X7_call u x1 post) : MI (ad 90, ad 91) l yX7_call cX7_call 4 (some .int) (rmm 1 25) D (tysM cs) A (wM ad cs) u [.ref (ad 0), .int x1] post :=
  met_i (by decide) (Nat.le_of_ble_eq_true rfl) (fun X C _ _ ht hA hn hsg hR => z_X7_call ⟨C, ht, fun u => by rw [hA]; exact hD u, hsg⟩ hn hR u x1 hw)
theorem k_X7_call {X : XX} {ad : Nat → Nat} {cs : Nat → ClassId} {cc : ByteArray} {own : String} {fr lo pc : Nat} {lv : List (Nat × Value)} {st : List Value} {u : St} (C : CxM X ad cs cc own fr lo) {idx : Nat} {x1 : Int32} {P : Int32 → St → Prop} (hlink : Cond.methodLink own idx yX7_call ∈ W0) (hw : wp_X7_call u x1 P) (hr : 1 + 1 ≤ fr ∧ 8 + (4 + 11) + 25 ≤ lo) (hst : (st.map fun v => v.category).sum ≤ 8) (hdg : decode cc pc = .ok (.invokevirtual idx, 3)) (k : ∀ (r : Int32) (u2 : St), P r u2 → Z X (wM ad cs u2) (pc + 3) lv (.int r :: st)) : Z X (wM ad cs u) pc lv (.int x1 :: .ref (ad 0) :: st) :=
  z_callVi (wf := wM ad cs) (As := [.int x1]) (rest := st) C.1 1 (q0 := 0) mI_X7_call mS_X7_call rfl rfl (by rw [C.2.1, C.2.2.2]; exact c_X7_call C.2.2.1 u x1 P hw) mC_X7_call mZ_X7 (by decide +kernel) rfl hlink hr hst hdg k

def wp_X7_hand_15s (K15 : St → Int32 → Int32 → Int32 → Int32 → Prop) (u : St) (x1 : Int32) (x2 : Int32) (x4 : Int32) (x5 : Int32) (post : St → Prop) : Prop :=
  br (x5 = (-1)) (post u) (wp_X7_here u x1 x5 (fun (r6 : Int32) (u5 : St) => wp_X7_argument u5 x2 x4 r6 0 (-1) (fun (u7 : St) => nm (x4 + 1) (fun v8 : Int32 => (vp_in x5 1440 ∧ nm (gA u7 11 (ix x5)) (fun v9 : Int32 => K15 u7 x1 x2 v8 v9))))))
def wp_X7_hand_15 (post : St → Prop) : Nat → St → Int32 → Int32 → Int32 → Int32 → Prop
  | 0 => fun _ _ _ _ _ => False
  | n + 1 => fun u x1 x2 x4 x5 => wp_X7_hand_15s (wp_X7_hand_15 post n) u x1 x2 x4 x5 post
set_option maxHeartbeats 4000000 in
set_option maxRecDepth 20000 in
theorem z_X7_hand_15s {X : XX} {ad : Nat → Nat} {cs : Nat → ClassId} {post : St → Prop} (C : CxM X ad cs cX7_hand RX7 1 25) (hn : xnL X = 6) (hR : rtV X cX7_hand (wM ad cs) post) {K15 : St → Int32 → Int32 → Int32 → Int32 → Prop} (hK15 : ∀ (u : St) (x1 : Int32) (x2 : Int32) (x4 : Int32) (x5 : Int32), K15 u x1 x2 x4 x5 → Z X (wM ad cs u) 15 [(0, .ref (ad 0)), (1, .int x1), (2, .int x2), (4, .int x4), (5, .int x5)] []) (u : St) (x1 : Int32) (x2 : Int32) (x4 : Int32) (x5 : Int32) (hw : wp_X7_hand_15s K15 u x1 x2 x4 x5 post) : Z X (wM ad cs u) 15 [(0, .ref (ad 0)), (1, .int x1), (2, .int x2), (4, .int x4), (5, .int x5)] [] := by
  unfold wp_X7_hand_15s at hw
  refine z_iload C.1 dX7_hand_15 4 rfl ?_
  refine z_iconst (v := (-1)) C.1 dX7_hand_17 (by decide) ?_
  refine z_icmp_eq (tgt := 52) C.1 dX7_hand_18 (by decide) (fun c4 => ?_) (fun c4 => ?_)
  · replace hw := hw.1 c4
    exact hR _ _ _ dX7_hand_52 hw
  · replace hw := hw.2 c4
    refine z_aload_n C.1 dX7_hand_21 rfl 0 rfl ?_
    refine z_iload_n C.1 dX7_hand_22 rfl 2 rfl ?_
    refine z_iload C.1 dX7_hand_23 3 rfl ?_
    refine z_aload_n C.1 dX7_hand_25 rfl 0 rfl ?_
    refine z_iload_n C.1 dX7_hand_26 rfl 1 rfl ?_
    refine z_iload C.1 dX7_hand_27 4 rfl ?_
    refine k_X7_here C mM_X7_320 hw (by decide) (Nat.le_of_ble_eq_true rfl) dX7_hand_29 (fun r6 u5 hw => ?_)
    refine z_iconst (v := 0) C.1 dX7_hand_32 (by decide) ?_
    refine z_iconst (v := (-1)) C.1 dX7_hand_33 (by decide) ?_
    refine k_X7_argument C mM_X7_307 hw (by decide) (Nat.le_of_ble_eq_true rfl) dX7_hand_34 (fun u7 hw => ?_)
    obtain ⟨v8, ev8⟩ : ∃ z : Int32, z = x4 + 1 := ⟨_, rfl⟩
    replace hw := hw v8 ev8
    refine z_iinc (v := v8) (lv' := [(4, .int v8), (0, .ref (ad 0)), (1, .int x1), (2, .int x2), (5, .int x5)]) C.1 (j := 3) dX7_hand_37 rfl (by rw [ev8]; rfl) (by rw [hn]; decide) rfl ?_
    refine z_aload_n C.1 dX7_hand_40 rfl 1 rfl ?_
    refine gM_0_nextArguments C mF_X7_41 dX7_hand_41 ?_
    refine z_iload C.1 dX7_hand_44 4 rfl ?_
    refine lM_11 C hw.1 dX7_hand_46 ?_
    replace hw := hw.2
    refine z_topi (fun v9 ev9 => ?_)
    replace hw := hw v9 ev9
    refine z_istore (lv' := [(5, .int v9), (4, .int v8), (0, .ref (ad 0)), (1, .int x1), (2, .int x2)]) C.1 dX7_hand_47 (by rw [hn]; decide) rfl ?_
    refine z_goto (tgt := 15) C.1 dX7_hand_49 (by decide) ?_
    refine z_lv [2, 3, 4, 1, 0] rfl ?_
    exact hK15 _ _ _ _ _ hw
theorem z_X7_hand_15 {X : XX} {ad : Nat → Nat} {cs : Nat → ClassId} {post : St → Prop} (C : CxM X ad cs cX7_hand RX7 1 25) (hn : xnL X = 6) (hR : rtV X cX7_hand (wM ad cs) post) : ∀ (n : Nat) (u : St) (x1 : Int32) (x2 : Int32) (x4 : Int32) (x5 : Int32), wp_X7_hand_15 post n u x1 x2 x4 x5 → Z X (wM ad cs u) 15 [(0, .ref (ad 0)), (1, .int x1), (2, .int x2), (4, .int x4), (5, .int x5)] []
  | 0, _, _, _, _, _, hw => absurd hw (fun h => h)
  | n + 1, u, x1, x2, x4, x5, hw => z_X7_hand_15s C hn hR (z_X7_hand_15 C hn hR n) u x1 x2 x4 x5 hw
def wp_X7_hand (u : St) (x1 : Int32) (x2 : Int32) (x3 : Int32) (post : St → Prop) : Prop :=
  wp_X7_partOf u x1 (fun (r2 : Int32) (u1 : St) => (vp_in r2 1440 ∧ nm (gA u1 10 (ix r2)) (fun v3 : Int32 => ∃ n, wp_X7_hand_15 post n u1 x1 x2 x3 v3)))
set_option maxHeartbeats 4000000 in
set_option maxRecDepth 20000 in
theorem z_X7_hand {X : XX} {ad : Nat → Nat} {cs : Nat → ClassId} {post : St → Prop} (C : CxM X ad cs cX7_hand RX7 1 25) (hn : xnL X = 6) (hR : rtV X cX7_hand (wM ad cs) post) (u : St) (x1 : Int32) (x2 : Int32) (x3 : Int32) (hw : wp_X7_hand u x1 x2 x3 post) : Z X (wM ad cs u) 0 [(0, .ref (ad 0)), (1, .int x1), (2, .int x2), (3, .int x3)] [] := by
  unfold wp_X7_hand at hw
  refine z_iload_n C.1 dX7_hand_0 rfl 3 rfl ?_
  refine z_istore (lv' := [(4, .int x3), (0, .ref (ad 0)), (1, .int x1), (2, .int x2), (3, .int x3)]) C.1 dX7_hand_1 (by rw [hn]; decide) rfl ?_
  refine z_aload_n C.1 dX7_hand_3 rfl 1 rfl ?_
  refine gM_0_argumentRows C mF_X7_38 dX7_hand_4 ?_
  refine z_aload_n C.1 dX7_hand_7 rfl 1 rfl ?_
  refine z_iload_n C.1 dX7_hand_8 rfl 2 rfl ?_
  refine k_X7_partOf C mM_X7_317 hw (by decide) (Nat.le_of_ble_eq_true rfl) dX7_hand_9 (fun r2 u1 hw => ?_)
  refine lM_10 C hw.1 dX7_hand_12 ?_
  replace hw := hw.2
  refine z_topi (fun v3 ev3 => ?_)
  replace hw := hw v3 ev3
  refine z_istore (lv' := [(5, .int v3), (4, .int x3), (0, .ref (ad 0)), (1, .int x1), (2, .int x2), (3, .int x3)]) C.1 dX7_hand_13 (by rw [hn]; decide) rfl ?_
  refine z_lv [2, 3, 4, 1, 0] rfl ?_
  obtain ⟨n, hw⟩ := hw
  exact z_X7_hand_15 C hn hR n _ _ _ _ _ hw
theorem c_X7_hand {l : Launch} {D : va_G} {A : Nat → Prop} {ad : Nat → Nat} {cs : Nat → ClassId} (hD : ∀ u : St, va_D A (wM ad cs u)) (u : St) (x1 : Int32) (x2 : Int32) (x3 : Int32) (post : St → Prop) (hw : wp_X7_hand u x1 x2 x3 post) : MV (ad 90, ad 91) l yX7_hand cX7_hand 6 none (rmm 1 25) D (tysM cs) A (wM ad cs) u [.ref (ad 0), .int x1, .int x2, .int x3] post :=
  met_v (by decide) (Nat.le_of_ble_eq_true rfl) (fun X C _ _ ht hA hn hsg hR => z_X7_hand ⟨C, ht, fun u => by rw [hA]; exact hD u, hsg⟩ hn hR u x1 x2 x3 hw)
theorem k_X7_hand {X : XX} {ad : Nat → Nat} {cs : Nat → ClassId} {cc : ByteArray} {own : String} {fr lo pc : Nat} {lv : List (Nat × Value)} {st : List Value} {u : St} (C : CxM X ad cs cc own fr lo) {idx : Nat} {x1 : Int32} {x2 : Int32} {x3 : Int32} {P : St → Prop} (hlink : Cond.methodLink own idx yX7_hand ∈ W0) (hw : wp_X7_hand u x1 x2 x3 P) (hr : 1 + 1 ≤ fr ∧ 8 + (6 + 11) + 25 ≤ lo) (hst : (st.map fun v => v.category).sum ≤ 8) (hdg : decode cc pc = .ok (.invokevirtual idx, 3)) (k : ∀ (u2 : St), P u2 → Z X (wM ad cs u2) (pc + 3) lv st) : Z X (wM ad cs u) pc lv (.int x3 :: .int x2 :: .int x1 :: .ref (ad 0) :: st) :=
  z_callVv (wf := wM ad cs) (As := [.int x1, .int x2, .int x3]) (rest := st) C.1 3 (q0 := 0) mI_X7_hand mS_X7_hand rfl rfl (by rw [C.2.1, C.2.2.2]; exact c_X7_hand C.2.2.1 u x1 x2 x3 P hw) mC_X7_hand mZ_X7 (by decide +kernel) rfl hlink hr hst hdg k

def wp_X7_reachArguments_11s (K11 : St → Int32 → Int32 → Prop) (u : St) (x1 : Int32) (x2 : Int32) (post : St → Prop) : Prop :=
  br (x2 = (-1)) (post u) (wp_X7_here u x1 x2 (fun (r6 : Int32) (u5 : St) => wp_X7_reach u5 r6 (fun (u7 : St) => (vp_in x2 1440 ∧ nm (gA u7 11 (ix x2)) (fun v8 : Int32 => K11 u7 x1 v8)))))
def wp_X7_reachArguments_11 (post : St → Prop) : Nat → St → Int32 → Int32 → Prop
  | 0 => fun _ _ _ => False
  | n + 1 => fun u x1 x2 => wp_X7_reachArguments_11s (wp_X7_reachArguments_11 post n) u x1 x2 post
set_option maxHeartbeats 4000000 in
set_option maxRecDepth 20000 in
theorem z_X7_reachArguments_11s {X : XX} {ad : Nat → Nat} {cs : Nat → ClassId} {post : St → Prop} (C : CxM X ad cs cX7_reachArguments RX7 1 22) (hn : xnL X = 3) (hR : rtV X cX7_reachArguments (wM ad cs) post) {K11 : St → Int32 → Int32 → Prop} (hK11 : ∀ (u : St) (x1 : Int32) (x2 : Int32), K11 u x1 x2 → Z X (wM ad cs u) 11 [(0, .ref (ad 0)), (1, .int x1), (2, .int x2)] []) (u : St) (x1 : Int32) (x2 : Int32) (hw : wp_X7_reachArguments_11s K11 u x1 x2 post) : Z X (wM ad cs u) 11 [(0, .ref (ad 0)), (1, .int x1), (2, .int x2)] [] := by
  unfold wp_X7_reachArguments_11s at hw
  refine z_iload_n C.1 dX7_reachArguments_11 rfl 2 rfl ?_
  refine z_iconst (v := (-1)) C.1 dX7_reachArguments_12 (by decide) ?_
  refine z_icmp_eq (tgt := 36) C.1 dX7_reachArguments_13 (by decide) (fun c4 => ?_) (fun c4 => ?_)
  · replace hw := hw.1 c4
    exact hR _ _ _ dX7_reachArguments_36 hw
  · replace hw := hw.2 c4
    refine z_aload_n C.1 dX7_reachArguments_16 rfl 0 rfl ?_
    refine z_aload_n C.1 dX7_reachArguments_17 rfl 0 rfl ?_
    refine z_iload_n C.1 dX7_reachArguments_18 rfl 1 rfl ?_
    refine z_iload_n C.1 dX7_reachArguments_19 rfl 2 rfl ?_
    refine k_X7_here C mM_X7_320 hw (by decide) (Nat.le_of_ble_eq_true rfl) dX7_reachArguments_20 (fun r6 u5 hw => ?_)
    refine k_X7_reach C mM_X7_314 hw (by decide) (Nat.le_of_ble_eq_true rfl) dX7_reachArguments_23 (fun u7 hw => ?_)
    refine z_aload_n C.1 dX7_reachArguments_26 rfl 0 rfl ?_
    refine gM_0_nextArguments C mF_X7_41 dX7_reachArguments_27 ?_
    refine z_iload_n C.1 dX7_reachArguments_30 rfl 2 rfl ?_
    refine lM_11 C hw.1 dX7_reachArguments_31 ?_
    replace hw := hw.2
    refine z_topi (fun v8 ev8 => ?_)
    replace hw := hw v8 ev8
    refine z_istore_n (lv' := [(2, .int v8), (0, .ref (ad 0)), (1, .int x1)]) C.1 dX7_reachArguments_32 rfl (by rw [hn]; decide) rfl ?_
    refine z_goto (tgt := 11) C.1 dX7_reachArguments_33 (by decide) ?_
    refine z_lv [1, 2, 0] rfl ?_
    exact hK11 _ _ _ hw
theorem z_X7_reachArguments_11 {X : XX} {ad : Nat → Nat} {cs : Nat → ClassId} {post : St → Prop} (C : CxM X ad cs cX7_reachArguments RX7 1 22) (hn : xnL X = 3) (hR : rtV X cX7_reachArguments (wM ad cs) post) : ∀ (n : Nat) (u : St) (x1 : Int32) (x2 : Int32), wp_X7_reachArguments_11 post n u x1 x2 → Z X (wM ad cs u) 11 [(0, .ref (ad 0)), (1, .int x1), (2, .int x2)] []
  | 0, _, _, _, hw => absurd hw (fun h => h)
  | n + 1, u, x1, x2, hw => z_X7_reachArguments_11s C hn hR (z_X7_reachArguments_11 C hn hR n) u x1 x2 hw
def wp_X7_reachArguments (u : St) (x1 : Int32) (post : St → Prop) : Prop :=
  wp_X7_partOf u x1 (fun (r2 : Int32) (u1 : St) => (vp_in r2 1440 ∧ nm (gA u1 10 (ix r2)) (fun v3 : Int32 => ∃ n, wp_X7_reachArguments_11 post n u1 x1 v3)))
set_option maxHeartbeats 4000000 in
set_option maxRecDepth 20000 in
theorem z_X7_reachArguments {X : XX} {ad : Nat → Nat} {cs : Nat → ClassId} {post : St → Prop} (C : CxM X ad cs cX7_reachArguments RX7 1 22) (hn : xnL X = 3) (hR : rtV X cX7_reachArguments (wM ad cs) post) (u : St) (x1 : Int32) (hw : wp_X7_reachArguments u x1 post) : Z X (wM ad cs u) 0 [(0, .ref (ad 0)), (1, .int x1)] [] := by
  unfold wp_X7_reachArguments at hw
  refine z_aload_n C.1 dX7_reachArguments_0 rfl 0 rfl ?_
  refine gM_0_argumentRows C mF_X7_38 dX7_reachArguments_1 ?_
  refine z_aload_n C.1 dX7_reachArguments_4 rfl 0 rfl ?_
  refine z_iload_n C.1 dX7_reachArguments_5 rfl 1 rfl ?_
  refine k_X7_partOf C mM_X7_317 hw (by decide) (Nat.le_of_ble_eq_true rfl) dX7_reachArguments_6 (fun r2 u1 hw => ?_)
  refine lM_10 C hw.1 dX7_reachArguments_9 ?_
  replace hw := hw.2
  refine z_topi (fun v3 ev3 => ?_)
  replace hw := hw v3 ev3
  refine z_istore_n (lv' := [(2, .int v3), (0, .ref (ad 0)), (1, .int x1)]) C.1 dX7_reachArguments_10 rfl (by rw [hn]; decide) rfl ?_
  refine z_lv [1, 2, 0] rfl ?_
  obtain ⟨n, hw⟩ := hw
  exact z_X7_reachArguments_11 C hn hR n _ _ _ hw
theorem c_X7_reachArguments {l : Launch} {D : va_G} {A : Nat → Prop} {ad : Nat → Nat} {cs : Nat → ClassId} (hD : ∀ u : St, va_D A (wM ad cs u)) (u : St) (x1 : Int32) (post : St → Prop) (hw : wp_X7_reachArguments u x1 post) : MV (ad 90, ad 91) l yX7_reachArguments cX7_reachArguments 3 none (rmm 1 22) D (tysM cs) A (wM ad cs) u [.ref (ad 0), .int x1] post :=
  met_v (by decide) (Nat.le_of_ble_eq_true rfl) (fun X C _ _ ht hA hn hsg hR => z_X7_reachArguments ⟨C, ht, fun u => by rw [hA]; exact hD u, hsg⟩ hn hR u x1 hw)
theorem k_X7_reachArguments {X : XX} {ad : Nat → Nat} {cs : Nat → ClassId} {cc : ByteArray} {own : String} {fr lo pc : Nat} {lv : List (Nat × Value)} {st : List Value} {u : St} (C : CxM X ad cs cc own fr lo) {idx : Nat} {x1 : Int32} {P : St → Prop} (hlink : Cond.methodLink own idx yX7_reachArguments ∈ W0) (hw : wp_X7_reachArguments u x1 P) (hr : 1 + 1 ≤ fr ∧ 8 + (3 + 11) + 22 ≤ lo) (hst : (st.map fun v => v.category).sum ≤ 8) (hdg : decode cc pc = .ok (.invokevirtual idx, 3)) (k : ∀ (u2 : St), P u2 → Z X (wM ad cs u2) (pc + 3) lv st) : Z X (wM ad cs u) pc lv (.int x1 :: .ref (ad 0) :: st) :=
  z_callVv (wf := wM ad cs) (As := [.int x1]) (rest := st) C.1 1 (q0 := 0) mI_X7_reachArguments mS_X7_reachArguments rfl rfl (by rw [C.2.1, C.2.2.2]; exact c_X7_reachArguments C.2.2.1 u x1 P hw) mC_X7_reachArguments mZ_X7 (by decide +kernel) rfl hlink hr hst hdg k

def wp_X7_operate (u : St) (x0 : Int32) (x1 : Int32) (x2 : Int32) (post : Int32 → St → Prop) : Prop :=
  br (x0 = 37) (br (x2 = 0) (post 0 u) ((¬ x2 = 0 ∧ post (x1 - x1 / x2 * x2) u))) (br (x0 = 42) (post (x1 * x2) u) (br (x0 = 43) (post (x1 + x2) u) (br (x0 = 45) (post (x1 - x2) u) (br (x0 = 47) (br (x2 = 0) (post 0 u) ((¬ x2 = 0 ∧ post (x1 / x2) u))) (br (x0 = 60) (br (x2 ≤ x1) (post 0 u) (post 1 u)) (br (x0 = 61) (br (x1 = x2) (post 1 u) (post 0 u)) (br (x1 ≤ x2) (post 0 u) (post 1 u))))))))
set_option maxHeartbeats 4000000 in
set_option maxRecDepth 20000 in
theorem z_X7_operate {X : XX} {ad : Nat → Nat} {cs : Nat → ClassId} {post : Int32 → St → Prop} (C : CxM X ad cs cX7_operate RX7 0 0) (hn : xnL X = 3) (hR : rtI X cX7_operate (wM ad cs) post) (u : St) (x0 : Int32) (x1 : Int32) (x2 : Int32) (hw : wp_X7_operate u x0 x1 x2 post) : Z X (wM ad cs u) 0 [(0, .int x0), (1, .int x1), (2, .int x2)] [] := by
  unfold wp_X7_operate at hw
  refine z_iload_n C.1 dX7_operate_0 rfl 0 rfl ?_
  by_cases c1 : x0 = 37
  · replace hw := hw.1 c1
    refine z_tabIn (tgt := 140) (off := 139) C.1 c1 dX7_operate_1 (by decide) (by decide) (by decide) (by decide) ?_
    refine z_iload_n C.1 dX7_operate_140 rfl 2 rfl ?_
    refine z_if_ne (tgt := 148) C.1 dX7_operate_141 (by decide) (fun c2 => ?_) (fun c2 => ?_)
    · replace hw := hw.2 c2
      refine z_iload_n C.1 dX7_operate_148 rfl 1 rfl ?_
      refine z_iload_n C.1 dX7_operate_149 rfl 2 rfl ?_
      refine z_irem C.1 dX7_operate_150 hw.1 ?_
      replace hw := hw.2
      exact hR _ _ _ _ dX7_operate_151 hw
    · replace hw := hw.1 c2
      refine z_iconst (v := 0) C.1 dX7_operate_144 (by decide) ?_
      refine z_goto (tgt := 151) C.1 dX7_operate_145 (by decide) ?_
      exact hR _ _ _ _ dX7_operate_151 hw
  replace hw := hw.2 c1
  by_cases c3 : x0 = 42
  · replace hw := hw.1 c3
    refine z_tabIn (tgt := 124) (off := 123) C.1 c3 dX7_operate_1 (by decide) (by decide) (by decide) (by decide) ?_
    refine z_iload_n C.1 dX7_operate_124 rfl 1 rfl ?_
    refine z_iload_n C.1 dX7_operate_125 rfl 2 rfl ?_
    refine z_imul C.1 dX7_operate_126 ?_
    exact hR _ _ _ _ dX7_operate_127 hw
  replace hw := hw.2 c3
  by_cases c4 : x0 = 43
  · replace hw := hw.1 c4
    refine z_tabIn (tgt := 116) (off := 115) C.1 c4 dX7_operate_1 (by decide) (by decide) (by decide) (by decide) ?_
    refine z_iload_n C.1 dX7_operate_116 rfl 1 rfl ?_
    refine z_iload_n C.1 dX7_operate_117 rfl 2 rfl ?_
    refine z_iadd C.1 dX7_operate_118 ?_
    exact hR _ _ _ _ dX7_operate_119 hw
  replace hw := hw.2 c4
  by_cases c5 : x0 = 45
  · replace hw := hw.1 c5
    refine z_tabIn (tgt := 120) (off := 119) C.1 c5 dX7_operate_1 (by decide) (by decide) (by decide) (by decide) ?_
    refine z_iload_n C.1 dX7_operate_120 rfl 1 rfl ?_
    refine z_iload_n C.1 dX7_operate_121 rfl 2 rfl ?_
    refine z_isub C.1 dX7_operate_122 ?_
    exact hR _ _ _ _ dX7_operate_123 hw
  replace hw := hw.2 c5
  by_cases c6 : x0 = 47
  · replace hw := hw.1 c6
    refine z_tabIn (tgt := 128) (off := 127) C.1 c6 dX7_operate_1 (by decide) (by decide) (by decide) (by decide) ?_
    refine z_iload_n C.1 dX7_operate_128 rfl 2 rfl ?_
    refine z_if_ne (tgt := 136) C.1 dX7_operate_129 (by decide) (fun c7 => ?_) (fun c7 => ?_)
    · replace hw := hw.2 c7
      refine z_iload_n C.1 dX7_operate_136 rfl 1 rfl ?_
      refine z_iload_n C.1 dX7_operate_137 rfl 2 rfl ?_
      refine z_idiv C.1 dX7_operate_138 hw.1 ?_
      replace hw := hw.2
      exact hR _ _ _ _ dX7_operate_139 hw
    · replace hw := hw.1 c7
      refine z_iconst (v := 0) C.1 dX7_operate_132 (by decide) ?_
      refine z_goto (tgt := 139) C.1 dX7_operate_133 (by decide) ?_
      exact hR _ _ _ _ dX7_operate_139 hw
  replace hw := hw.2 c6
  by_cases c8 : x0 = 60
  · replace hw := hw.1 c8
    refine z_tabIn (tgt := 152) (off := 151) C.1 c8 dX7_operate_1 (by decide) (by decide) (by decide) (by decide) ?_
    refine z_iload_n C.1 dX7_operate_152 rfl 1 rfl ?_
    refine z_iload_n C.1 dX7_operate_153 rfl 2 rfl ?_
    refine z_icmp_ge (tgt := 161) C.1 dX7_operate_154 (by decide) (fun c9 => ?_) (fun c9 => ?_)
    · replace hw := hw.1 c9
      refine z_iconst (v := 0) C.1 dX7_operate_161 (by decide) ?_
      exact hR _ _ _ _ dX7_operate_162 hw
    · replace hw := hw.2 c9
      refine z_iconst (v := 1) C.1 dX7_operate_157 (by decide) ?_
      refine z_goto (tgt := 162) C.1 dX7_operate_158 (by decide) ?_
      exact hR _ _ _ _ dX7_operate_162 hw
  replace hw := hw.2 c8
  by_cases c10 : x0 = 61
  · replace hw := hw.1 c10
    refine z_tabIn (tgt := 163) (off := 162) C.1 c10 dX7_operate_1 (by decide) (by decide) (by decide) (by decide) ?_
    refine z_iload_n C.1 dX7_operate_163 rfl 1 rfl ?_
    refine z_iload_n C.1 dX7_operate_164 rfl 2 rfl ?_
    refine z_icmp_ne (tgt := 172) C.1 dX7_operate_165 (by decide) (fun c11 => ?_) (fun c11 => ?_)
    · replace hw := hw.2 c11
      refine z_iconst (v := 0) C.1 dX7_operate_172 (by decide) ?_
      exact hR _ _ _ _ dX7_operate_173 hw
    · replace hw := hw.1 c11
      refine z_iconst (v := 1) C.1 dX7_operate_168 (by decide) ?_
      refine z_goto (tgt := 173) C.1 dX7_operate_169 (by decide) ?_
      exact hR _ _ _ _ dX7_operate_173 hw
  replace hw := hw.2 c10
  have hdf : Z X (wM ad cs u) 174 [(0, .int x0), (1, .int x1), (2, .int x2)] [] := by
    refine z_iload_n C.1 dX7_operate_174 rfl 1 rfl ?_
    refine z_iload_n C.1 dX7_operate_175 rfl 2 rfl ?_
    refine z_icmp_le (tgt := 183) C.1 dX7_operate_176 (by decide) (fun c12 => ?_) (fun c12 => ?_)
    · replace hw := hw.1 c12
      refine z_iconst (v := 0) C.1 dX7_operate_183 (by decide) ?_
      exact hR _ _ _ _ dX7_operate_184 hw
    · replace hw := hw.2 c12
      refine z_iconst (v := 1) C.1 dX7_operate_179 (by decide) ?_
      refine z_goto (tgt := 184) C.1 dX7_operate_180 (by decide) ?_
      exact hR _ _ _ _ dX7_operate_184 hw
  by_cases c13 : x0 = 38
  · exact z_tabIn (tgt := 174) (off := 173) C.1 c13 dX7_operate_1 (by decide) (by decide) (by decide) (by decide) hdf
  by_cases c14 : x0 = 39
  · exact z_tabIn (tgt := 174) (off := 173) C.1 c14 dX7_operate_1 (by decide) (by decide) (by decide) (by decide) hdf
  by_cases c15 : x0 = 40
  · exact z_tabIn (tgt := 174) (off := 173) C.1 c15 dX7_operate_1 (by decide) (by decide) (by decide) (by decide) hdf
  by_cases c16 : x0 = 41
  · exact z_tabIn (tgt := 174) (off := 173) C.1 c16 dX7_operate_1 (by decide) (by decide) (by decide) (by decide) hdf
  by_cases c17 : x0 = 44
  · exact z_tabIn (tgt := 174) (off := 173) C.1 c17 dX7_operate_1 (by decide) (by decide) (by decide) (by decide) hdf
  by_cases c18 : x0 = 46
  · exact z_tabIn (tgt := 174) (off := 173) C.1 c18 dX7_operate_1 (by decide) (by decide) (by decide) (by decide) hdf
  by_cases c19 : x0 = 48
  · exact z_tabIn (tgt := 174) (off := 173) C.1 c19 dX7_operate_1 (by decide) (by decide) (by decide) (by decide) hdf
  by_cases c20 : x0 = 49
  · exact z_tabIn (tgt := 174) (off := 173) C.1 c20 dX7_operate_1 (by decide) (by decide) (by decide) (by decide) hdf
  by_cases c21 : x0 = 50
  · exact z_tabIn (tgt := 174) (off := 173) C.1 c21 dX7_operate_1 (by decide) (by decide) (by decide) (by decide) hdf
  by_cases c22 : x0 = 51
  · exact z_tabIn (tgt := 174) (off := 173) C.1 c22 dX7_operate_1 (by decide) (by decide) (by decide) (by decide) hdf
  by_cases c23 : x0 = 52
  · exact z_tabIn (tgt := 174) (off := 173) C.1 c23 dX7_operate_1 (by decide) (by decide) (by decide) (by decide) hdf
  by_cases c24 : x0 = 53
  · exact z_tabIn (tgt := 174) (off := 173) C.1 c24 dX7_operate_1 (by decide) (by decide) (by decide) (by decide) hdf
  by_cases c25 : x0 = 54
  · exact z_tabIn (tgt := 174) (off := 173) C.1 c25 dX7_operate_1 (by decide) (by decide) (by decide) (by decide) hdf
  by_cases c26 : x0 = 55
  · exact z_tabIn (tgt := 174) (off := 173) C.1 c26 dX7_operate_1 (by decide) (by decide) (by decide) (by decide) hdf
  by_cases c27 : x0 = 56
  · exact z_tabIn (tgt := 174) (off := 173) C.1 c27 dX7_operate_1 (by decide) (by decide) (by decide) (by decide) hdf
  by_cases c28 : x0 = 57
  · exact z_tabIn (tgt := 174) (off := 173) C.1 c28 dX7_operate_1 (by decide) (by decide) (by decide) (by decide) hdf
  by_cases c29 : x0 = 58
  · exact z_tabIn (tgt := 174) (off := 173) C.1 c29 dX7_operate_1 (by decide) (by decide) (by decide) (by decide) hdf
  by_cases c30 : x0 = 59
  · exact z_tabIn (tgt := 174) (off := 173) C.1 c30 dX7_operate_1 (by decide) (by decide) (by decide) (by decide) hdf
  replace c1 := lv_neT c1 (a := 37) (by decide)
  replace c3 := lv_neT c3 (a := 42) (by decide)
  replace c4 := lv_neT c4 (a := 43) (by decide)
  replace c5 := lv_neT c5 (a := 45) (by decide)
  replace c6 := lv_neT c6 (a := 47) (by decide)
  replace c8 := lv_neT c8 (a := 60) (by decide)
  replace c10 := lv_neT c10 (a := 61) (by decide)
  replace c13 := lv_neT c13 (a := 38) (by decide)
  replace c14 := lv_neT c14 (a := 39) (by decide)
  replace c15 := lv_neT c15 (a := 40) (by decide)
  replace c16 := lv_neT c16 (a := 41) (by decide)
  replace c17 := lv_neT c17 (a := 44) (by decide)
  replace c18 := lv_neT c18 (a := 46) (by decide)
  replace c19 := lv_neT c19 (a := 48) (by decide)
  replace c20 := lv_neT c20 (a := 49) (by decide)
  replace c21 := lv_neT c21 (a := 50) (by decide)
  replace c22 := lv_neT c22 (a := 51) (by decide)
  replace c23 := lv_neT c23 (a := 52) (by decide)
  replace c24 := lv_neT c24 (a := 53) (by decide)
  replace c25 := lv_neT c25 (a := 54) (by decide)
  replace c26 := lv_neT c26 (a := 55) (by decide)
  replace c27 := lv_neT c27 (a := 56) (by decide)
  replace c28 := lv_neT c28 (a := 57) (by decide)
  replace c29 := lv_neT c29 (a := 58) (by decide)
  replace c30 := lv_neT c30 (a := 59) (by decide)
  exact z_tabOut (tgt := 174) C.1 dX7_operate_1 (by omega) (by decide) hdf
theorem c_X7_operate {l : Launch} {D : va_G} {A : Nat → Prop} {ad : Nat → Nat} {cs : Nat → ClassId} (hD : ∀ u : St, va_D A (wM ad cs u)) (u : St) (x0 : Int32) (x1 : Int32) (x2 : Int32) (post : Int32 → St → Prop) (hw : wp_X7_operate u x0 x1 x2 post) : MI (ad 90, ad 91) l yX7_operate cX7_operate 3 (some .int) (rmm 0 0) D (tysM cs) A (wM ad cs) u [.int x0, .int x1, .int x2] post :=
  met_i (by decide) (Nat.le_of_ble_eq_true rfl) (fun X C _ _ ht hA hn hsg hR => z_X7_operate ⟨C, ht, fun u => by rw [hA]; exact hD u, hsg⟩ hn hR u x0 x1 x2 hw)
theorem k_X7_operate {X : XX} {ad : Nat → Nat} {cs : Nat → ClassId} {cc : ByteArray} {own : String} {fr lo pc : Nat} {lv : List (Nat × Value)} {st : List Value} {u : St} (C : CxM X ad cs cc own fr lo) {idx : Nat} {x0 : Int32} {x1 : Int32} {x2 : Int32} {P : Int32 → St → Prop} (hlink : Cond.methodLink own idx yX7_operate ∈ W0) (hw : wp_X7_operate u x0 x1 x2 P) (hr : 0 + 1 ≤ fr ∧ 8 + (3 + 11) + 0 ≤ lo) (hst : (st.map fun v => v.category).sum ≤ 8) (hdg : decode cc pc = .ok (.invokestatic idx, 3)) (k : ∀ (r : Int32) (u2 : St), P r u2 → Z X (wM ad cs u2) (pc + 3) lv (.int r :: st)) : Z X (wM ad cs u) pc lv (.int x2 :: .int x1 :: .int x0 :: st) :=
  z_callSi (wf := wM ad cs) (As := [.int x0, .int x1, .int x2]) (rest := st) C.1 3 mT_X7_operate (by rw [C.2.1, C.2.2.2]; exact c_X7_operate C.2.2.1 u x0 x1 x2 P hw) mC_X7_operate mZ_X7 (by decide +kernel) rfl hlink hr hst hdg k

def wp_X7_workCall_46 (u : St) (x1 : Int32) (post : St → Prop) : Prop :=
  (vp_in x1 18000 ∧ wp_X7_rootOf u (gA u 31 (ix x1)) (fun (r9 : Int32) (u8 : St) => wp_X7_same u8 x1 r9 (fun (u10 : St) => post u10)))
set_option maxHeartbeats 4000000 in
set_option maxRecDepth 20000 in
theorem z_X7_workCall_46 {X : XX} {ad : Nat → Nat} {cs : Nat → ClassId} {post : St → Prop} (C : CxM X ad cs cX7_workCall RX7 2 50) (hn : xnL X = 4) (hR : rtV X cX7_workCall (wM ad cs) post) (u : St) (x1 : Int32) (hw : wp_X7_workCall_46 u x1 post) : Z X (wM ad cs u) 46 [(0, .ref (ad 0)), (1, .int x1)] [] := by
  unfold wp_X7_workCall_46 at hw
  refine z_aload_n C.1 dX7_workCall_46 rfl 0 rfl ?_
  refine z_iload_n C.1 dX7_workCall_47 rfl 1 rfl ?_
  refine z_aload_n C.1 dX7_workCall_48 rfl 0 rfl ?_
  refine z_aload_n C.1 dX7_workCall_49 rfl 0 rfl ?_
  refine gM_0_made C mF_X7_103 dX7_workCall_50 ?_
  refine z_iload_n C.1 dX7_workCall_53 rfl 1 rfl ?_
  refine lM_31 C hw.1 dX7_workCall_54 ?_
  replace hw := hw.2
  refine k_X7_rootOf C mM_X7_311 hw (by decide) (Nat.le_of_ble_eq_true rfl) dX7_workCall_55 (fun r9 u8 hw => ?_)
  refine k_X7_same C mM_X7_332 hw (by decide) (Nat.le_of_ble_eq_true rfl) dX7_workCall_58 (fun u10 hw => ?_)
  exact hR _ _ _ dX7_workCall_61 hw
def wp_X7_workCall (u : St) (x1 : Int32) (x2 : Int32) (post : St → Prop) : Prop :=
  wp_X7_reachArguments u x1 (fun (u1 : St) => (vp_in x1 18000 ∧ br ((gA u1 31 (ix x1)) = (-1)) ((vp_in x2 1440 ∧ wp_X7_call u1 (gA u1 14 (ix x2)) (fun (r4 : Int32) (u3 : St) => br (r4 = (-1)) (post u3) ((vp_in x1 18000 ∧ nm (sA u3 31 (ix x1) r4) (fun u6 : St => wp_X7_hand u6 x1 r4 0 (fun (u7 : St) => wp_X7_workCall_46 u7 x1 post))))))) (wp_X7_workCall_46 u1 x1 post)))
set_option maxHeartbeats 4000000 in
set_option maxRecDepth 20000 in
theorem z_X7_workCall {X : XX} {ad : Nat → Nat} {cs : Nat → ClassId} {post : St → Prop} (C : CxM X ad cs cX7_workCall RX7 2 50) (hn : xnL X = 4) (hR : rtV X cX7_workCall (wM ad cs) post) (u : St) (x1 : Int32) (x2 : Int32) (hw : wp_X7_workCall u x1 x2 post) : Z X (wM ad cs u) 0 [(0, .ref (ad 0)), (1, .int x1), (2, .int x2)] [] := by
  unfold wp_X7_workCall at hw
  refine z_aload_n C.1 dX7_workCall_0 rfl 0 rfl ?_
  refine z_iload_n C.1 dX7_workCall_1 rfl 1 rfl ?_
  refine k_X7_reachArguments C mM_X7_323 hw (by decide) (Nat.le_of_ble_eq_true rfl) dX7_workCall_2 (fun u1 hw => ?_)
  refine z_aload_n C.1 dX7_workCall_5 rfl 0 rfl ?_
  refine gM_0_made C mF_X7_103 dX7_workCall_6 ?_
  refine z_iload_n C.1 dX7_workCall_9 rfl 1 rfl ?_
  refine lM_31 C hw.1 dX7_workCall_10 ?_
  replace hw := hw.2
  refine z_iconst (v := (-1)) C.1 dX7_workCall_11 (by decide) ?_
  refine z_icmp_ne (tgt := 46) C.1 dX7_workCall_12 (by decide) (fun c2 => ?_) (fun c2 => ?_)
  · replace hw := hw.2 c2
    refine z_lv [0, 1] rfl ?_
    exact z_X7_workCall_46 C hn hR _ _ hw
  · replace hw := hw.1 c2
    refine z_aload_n C.1 dX7_workCall_15 rfl 0 rfl ?_
    refine z_aload_n C.1 dX7_workCall_16 rfl 0 rfl ?_
    refine gM_0_targets C mF_X7_50 dX7_workCall_17 ?_
    refine z_iload_n C.1 dX7_workCall_20 rfl 2 rfl ?_
    refine lM_14 C hw.1 dX7_workCall_21 ?_
    replace hw := hw.2
    refine k_X7_call C mM_X7_326 hw (by decide) (Nat.le_of_ble_eq_true rfl) dX7_workCall_22 (fun r4 u3 hw => ?_)
    refine z_istore_n (lv' := [(3, .int r4), (0, .ref (ad 0)), (1, .int x1), (2, .int x2)]) C.1 dX7_workCall_25 rfl (by rw [hn]; decide) rfl ?_
    refine z_iload_n C.1 dX7_workCall_26 rfl 0 rfl ?_
    refine z_iconst (v := (-1)) C.1 dX7_workCall_27 (by decide) ?_
    refine z_icmp_ne (tgt := 32) C.1 dX7_workCall_28 (by decide) (fun c5 => ?_) (fun c5 => ?_)
    · replace hw := hw.2 c5
      refine z_aload_n C.1 dX7_workCall_32 rfl 1 rfl ?_
      refine gM_0_made C mF_X7_103 dX7_workCall_33 ?_
      refine z_iload_n C.1 dX7_workCall_36 rfl 2 rfl ?_
      refine z_iload_n C.1 dX7_workCall_37 rfl 0 rfl ?_
      refine sM_31 C hw.1 dX7_workCall_38 (fun u6 eu6 => ?_)
      replace hw := hw.2 u6 eu6
      refine z_aload_n C.1 dX7_workCall_39 rfl 1 rfl ?_
      refine z_iload_n C.1 dX7_workCall_40 rfl 2 rfl ?_
      refine z_iload_n C.1 dX7_workCall_41 rfl 0 rfl ?_
      refine z_iconst (v := 0) C.1 dX7_workCall_42 (by decide) ?_
      refine k_X7_hand C mM_X7_329 hw (by decide) (Nat.le_of_ble_eq_true rfl) dX7_workCall_43 (fun u7 hw => ?_)
      refine z_lv [1, 2] rfl ?_
      exact z_X7_workCall_46 C hn hR _ _ hw
    · replace hw := hw.1 c5
      exact hR _ _ _ dX7_workCall_31 hw
theorem c_X7_workCall {l : Launch} {D : va_G} {A : Nat → Prop} {ad : Nat → Nat} {cs : Nat → ClassId} (hD : ∀ u : St, va_D A (wM ad cs u)) (u : St) (x1 : Int32) (x2 : Int32) (post : St → Prop) (hw : wp_X7_workCall u x1 x2 post) : MV (ad 90, ad 91) l yX7_workCall cX7_workCall 4 none (rmm 2 50) D (tysM cs) A (wM ad cs) u [.ref (ad 0), .int x1, .int x2] post :=
  met_v (by decide) (Nat.le_of_ble_eq_true rfl) (fun X C _ _ ht hA hn hsg hR => z_X7_workCall ⟨C, ht, fun u => by rw [hA]; exact hD u, hsg⟩ hn hR u x1 x2 hw)
theorem k_X7_workCall {X : XX} {ad : Nat → Nat} {cs : Nat → ClassId} {cc : ByteArray} {own : String} {fr lo pc : Nat} {lv : List (Nat × Value)} {st : List Value} {u : St} (C : CxM X ad cs cc own fr lo) {idx : Nat} {x1 : Int32} {x2 : Int32} {P : St → Prop} (hlink : Cond.methodLink own idx yX7_workCall ∈ W0) (hw : wp_X7_workCall u x1 x2 P) (hr : 2 + 1 ≤ fr ∧ 8 + (4 + 11) + 50 ≤ lo) (hst : (st.map fun v => v.category).sum ≤ 8) (hdg : decode cc pc = .ok (.invokevirtual idx, 3)) (k : ∀ (u2 : St), P u2 → Z X (wM ad cs u2) (pc + 3) lv st) : Z X (wM ad cs u) pc lv (.int x2 :: .int x1 :: .ref (ad 0) :: st) :=
  z_callVv (wf := wM ad cs) (As := [.int x1, .int x2]) (rest := st) C.1 2 (q0 := 0) mI_X7_workCall mS_X7_workCall rfl rfl (by rw [C.2.1, C.2.2.2]; exact c_X7_workCall C.2.2.1 u x1 x2 P hw) mC_X7_workCall mZ_X7 (by decide +kernel) rfl hlink hr hst hdg k

def wp_X7_workMake_152 (u : St) (x1 : Int32) (post : St → Prop) : Prop :=
  wp_X7_know u x1 0 x1 (fun (u21 : St) => post u21)
set_option maxHeartbeats 4000000 in
set_option maxRecDepth 20000 in
theorem z_X7_workMake_152 {X : XX} {ad : Nat → Nat} {cs : Nat → ClassId} {post : St → Prop} (C : CxM X ad cs cX7_workMake RX7 2 50) (hn : xnL X = 7) (hR : rtV X cX7_workMake (wM ad cs) post) (u : St) (x1 : Int32) (hw : wp_X7_workMake_152 u x1 post) : Z X (wM ad cs u) 152 [(0, .ref (ad 0)), (1, .int x1)] [] := by
  unfold wp_X7_workMake_152 at hw
  refine z_aload_n C.1 dX7_workMake_152 rfl 0 rfl ?_
  refine z_iload_n C.1 dX7_workMake_153 rfl 1 rfl ?_
  refine z_iconst (v := 0) C.1 dX7_workMake_154 (by decide) ?_
  refine z_iload_n C.1 dX7_workMake_155 rfl 1 rfl ?_
  refine k_X7_know C mM_X7_294 hw (by decide) (Nat.le_of_ble_eq_true rfl) dX7_workMake_156 (fun u21 hw => ?_)
  exact hR _ _ _ dX7_workMake_159 hw
def wp_X7_workMake_146 (K81 : St → Int32 → Int32 → Int32 → Prop) (u : St) (x1 : Int32) (x2 : Int32) (x5 : Int32) (post : St → Prop) : Prop :=
  nm (x5 + 1) (fun v20 : Int32 => K81 u x1 x2 v20)
set_option maxHeartbeats 4000000 in
set_option maxRecDepth 20000 in
theorem z_X7_workMake_146 {X : XX} {ad : Nat → Nat} {cs : Nat → ClassId} {post : St → Prop} (C : CxM X ad cs cX7_workMake RX7 2 50) (hn : xnL X = 7) (hR : rtV X cX7_workMake (wM ad cs) post) {K81 : St → Int32 → Int32 → Int32 → Prop} (hK81 : ∀ (u : St) (x1 : Int32) (x2 : Int32) (x5 : Int32), K81 u x1 x2 x5 → Z X (wM ad cs u) 81 [(0, .ref (ad 0)), (1, .int x1), (2, .int x2), (5, .int x5)] []) (u : St) (x1 : Int32) (x2 : Int32) (x5 : Int32) (hw : wp_X7_workMake_146 K81 u x1 x2 x5 post) : Z X (wM ad cs u) 146 [(0, .ref (ad 0)), (1, .int x1), (2, .int x2), (5, .int x5)] [] := by
  unfold wp_X7_workMake_146 at hw
  obtain ⟨v20, ev20⟩ : ∃ z : Int32, z = x5 + 1 := ⟨_, rfl⟩
  replace hw := hw v20 ev20
  refine z_iinc (v := v20) (lv' := [(5, .int v20), (0, .ref (ad 0)), (1, .int x1), (2, .int x2)]) C.1 (j := 3) dX7_workMake_146 rfl (by rw [ev20]; rfl) (by rw [hn]; decide) rfl ?_
  refine z_goto (tgt := 81) C.1 dX7_workMake_149 (by decide) ?_
  refine z_lv [1, 2, 3, 0] rfl ?_
  exact hK81 _ _ _ _ hw
def wp_X7_workMake_81s (K81 : St → Int32 → Int32 → Int32 → Prop) (u : St) (x1 : Int32) (x2 : Int32) (x5 : Int32) (post : St → Prop) : Prop :=
  (vp_in x1 18000 ∧ br ((gA u 32 (ix x1)) ≤ x5) (wp_X7_workMake_152 u x1 post) (br ((gI u 17) = 0) ((vp_in x2 1440 ∧ wp_X7_call u (gA u 14 (ix x2)) (fun (r15 : Int32) (u14 : St) => br (r15 = (-1)) (wp_X7_workMake_146 K81 u14 x1 x2 x5 post) (wp_X7_argument u14 r15 0 (-1) x5 (-1) (fun (u17 : St) => wp_X7_argument u17 r15 1 (-1) 0 x1 (fun (u18 : St) => wp_X7_hand u18 x1 r15 2 (fun (u19 : St) => wp_X7_workMake_146 K81 u19 x1 x2 x5 post))))))) (wp_X7_workMake_152 u x1 post)))
def wp_X7_workMake_81 (post : St → Prop) : Nat → St → Int32 → Int32 → Int32 → Prop
  | 0 => fun _ _ _ _ => False
  | n + 1 => fun u x1 x2 x5 => wp_X7_workMake_81s (wp_X7_workMake_81 post n) u x1 x2 x5 post
set_option maxHeartbeats 4000000 in
set_option maxRecDepth 20000 in
theorem z_X7_workMake_81s {X : XX} {ad : Nat → Nat} {cs : Nat → ClassId} {post : St → Prop} (C : CxM X ad cs cX7_workMake RX7 2 50) (hn : xnL X = 7) (hR : rtV X cX7_workMake (wM ad cs) post) {K81 : St → Int32 → Int32 → Int32 → Prop} (hK81 : ∀ (u : St) (x1 : Int32) (x2 : Int32) (x5 : Int32), K81 u x1 x2 x5 → Z X (wM ad cs u) 81 [(0, .ref (ad 0)), (1, .int x1), (2, .int x2), (5, .int x5)] []) (u : St) (x1 : Int32) (x2 : Int32) (x5 : Int32) (hw : wp_X7_workMake_81s K81 u x1 x2 x5 post) : Z X (wM ad cs u) 81 [(0, .ref (ad 0)), (1, .int x1), (2, .int x2), (5, .int x5)] [] := by
  unfold wp_X7_workMake_81s at hw
  refine z_iload C.1 dX7_workMake_81 3 rfl ?_
  refine z_aload_n C.1 dX7_workMake_83 rfl 0 rfl ?_
  refine gM_0_cellCounts C mF_X7_106 dX7_workMake_84 ?_
  refine z_iload_n C.1 dX7_workMake_87 rfl 1 rfl ?_
  refine lM_32 C hw.1 dX7_workMake_88 ?_
  replace hw := hw.2
  refine z_icmp_ge (tgt := 152) C.1 dX7_workMake_89 (by decide) (fun c12 => ?_) (fun c12 => ?_)
  · replace hw := hw.1 c12
    refine z_lv [0, 1] rfl ?_
    exact z_X7_workMake_152 C hn hR _ _ hw
  · replace hw := hw.2 c12
    refine z_aload_n C.1 dX7_workMake_92 rfl 0 rfl ?_
    refine gM_0_over C mF_X7_304 dX7_workMake_93 ?_
    refine z_if_ne (tgt := 152) C.1 dX7_workMake_96 (by decide) (fun c13 => ?_) (fun c13 => ?_)
    · replace hw := hw.2 c13
      refine z_lv [0, 1] rfl ?_
      exact z_X7_workMake_152 C hn hR _ _ hw
    · replace hw := hw.1 c13
      refine z_aload_n C.1 dX7_workMake_99 rfl 0 rfl ?_
      refine z_aload_n C.1 dX7_workMake_100 rfl 0 rfl ?_
      refine gM_0_targets C mF_X7_50 dX7_workMake_101 ?_
      refine z_iload_n C.1 dX7_workMake_104 rfl 2 rfl ?_
      refine lM_14 C hw.1 dX7_workMake_105 ?_
      replace hw := hw.2
      refine k_X7_call C mM_X7_326 hw (by decide) (Nat.le_of_ble_eq_true rfl) dX7_workMake_106 (fun r15 u14 hw => ?_)
      refine z_istore (lv' := [(6, .int r15), (0, .ref (ad 0)), (1, .int x1), (2, .int x2), (5, .int x5)]) C.1 dX7_workMake_109 (by rw [hn]; decide) rfl ?_
      refine z_iload C.1 dX7_workMake_111 0 rfl ?_
      refine z_iconst (v := (-1)) C.1 dX7_workMake_113 (by decide) ?_
      refine z_icmp_eq (tgt := 146) C.1 dX7_workMake_114 (by decide) (fun c16 => ?_) (fun c16 => ?_)
      · replace hw := hw.1 c16
        refine z_lv [1, 2, 3, 4] rfl ?_
        exact z_X7_workMake_146 C hn hR hK81 _ _ _ _ hw
      · replace hw := hw.2 c16
        refine z_aload_n C.1 dX7_workMake_117 rfl 1 rfl ?_
        refine z_iload C.1 dX7_workMake_118 0 rfl ?_
        refine z_iconst (v := 0) C.1 dX7_workMake_120 (by decide) ?_
        refine z_iconst (v := (-1)) C.1 dX7_workMake_121 (by decide) ?_
        refine z_iload C.1 dX7_workMake_122 4 rfl ?_
        refine z_iconst (v := (-1)) C.1 dX7_workMake_124 (by decide) ?_
        refine k_X7_argument C mM_X7_307 hw (by decide) (Nat.le_of_ble_eq_true rfl) dX7_workMake_125 (fun u17 hw => ?_)
        refine z_aload_n C.1 dX7_workMake_128 rfl 1 rfl ?_
        refine z_iload C.1 dX7_workMake_129 0 rfl ?_
        refine z_iconst (v := 1) C.1 dX7_workMake_131 (by decide) ?_
        refine z_iconst (v := (-1)) C.1 dX7_workMake_132 (by decide) ?_
        refine z_iconst (v := 0) C.1 dX7_workMake_133 (by decide) ?_
        refine z_iload_n C.1 dX7_workMake_134 rfl 2 rfl ?_
        refine k_X7_argument C mM_X7_307 hw (by decide) (Nat.le_of_ble_eq_true rfl) dX7_workMake_135 (fun u18 hw => ?_)
        refine z_aload_n C.1 dX7_workMake_138 rfl 1 rfl ?_
        refine z_iload_n C.1 dX7_workMake_139 rfl 2 rfl ?_
        refine z_iload C.1 dX7_workMake_140 0 rfl ?_
        refine z_iconst (v := 2) C.1 dX7_workMake_142 (by decide) ?_
        refine k_X7_hand C mM_X7_329 hw (by decide) (Nat.le_of_ble_eq_true rfl) dX7_workMake_143 (fun u19 hw => ?_)
        refine z_lv [1, 2, 3, 4] rfl ?_
        exact z_X7_workMake_146 C hn hR hK81 _ _ _ _ hw
theorem z_X7_workMake_81 {X : XX} {ad : Nat → Nat} {cs : Nat → ClassId} {post : St → Prop} (C : CxM X ad cs cX7_workMake RX7 2 50) (hn : xnL X = 7) (hR : rtV X cX7_workMake (wM ad cs) post) : ∀ (n : Nat) (u : St) (x1 : Int32) (x2 : Int32) (x5 : Int32), wp_X7_workMake_81 post n u x1 x2 x5 → Z X (wM ad cs u) 81 [(0, .ref (ad 0)), (1, .int x1), (2, .int x2), (5, .int x5)] []
  | 0, _, _, _, _, hw => absurd hw (fun h => h)
  | n + 1, u, x1, x2, x5, hw => z_X7_workMake_81s C hn hR (z_X7_workMake_81 C hn hR n) u x1 x2 x5 hw
def wp_X7_workMake_67 (u : St) (x1 : Int32) (x2 : Int32) (y0 : Int32) (y1 : Int32) (post : St → Prop) : Prop :=
  (vp_in y1 18000 ∧ nm (sA u 32 (ix y1) y0) (fun u10 : St => (vp_in x1 18000 ∧ nm (sA u10 31 (ix x1) (gI u10 15)) (fun u11 : St => ∃ n, wp_X7_workMake_81 post n u11 x1 x2 0))))
set_option maxHeartbeats 4000000 in
set_option maxRecDepth 20000 in
theorem z_X7_workMake_67 {X : XX} {ad : Nat → Nat} {cs : Nat → ClassId} {post : St → Prop} (C : CxM X ad cs cX7_workMake RX7 2 50) (hn : xnL X = 7) (hR : rtV X cX7_workMake (wM ad cs) post) (u : St) (x1 : Int32) (x2 : Int32) (y0 : Int32) (y1 : Int32) (hw : wp_X7_workMake_67 u x1 x2 y0 y1 post) : Z X (wM ad cs u) 67 [(0, .ref (ad 0)), (1, .int x1), (2, .int x2)] [.int y0, .int y1, .ref (ad 32)] := by
  unfold wp_X7_workMake_67 at hw
  refine sM_32 C hw.1 dX7_workMake_67 (fun u10 eu10 => ?_)
  replace hw := hw.2 u10 eu10
  refine z_aload_n C.1 dX7_workMake_68 rfl 0 rfl ?_
  refine gM_0_made C mF_X7_103 dX7_workMake_69 ?_
  refine z_iload_n C.1 dX7_workMake_72 rfl 1 rfl ?_
  refine z_aload_n C.1 dX7_workMake_73 rfl 0 rfl ?_
  refine gM_0_calls C mF_X7_298 dX7_workMake_74 ?_
  refine sM_31 C hw.1 dX7_workMake_77 (fun u11 eu11 => ?_)
  replace hw := hw.2 u11 eu11
  refine z_iconst (v := 0) C.1 dX7_workMake_78 (by decide) ?_
  refine z_istore (lv' := [(5, .int 0), (0, .ref (ad 0)), (1, .int x1), (2, .int x2)]) C.1 dX7_workMake_79 (by rw [hn]; decide) rfl ?_
  refine z_lv [1, 2, 3, 0] rfl ?_
  obtain ⟨n, hw⟩ := hw
  exact z_X7_workMake_81 C hn hR n _ _ _ _ hw
def wp_X7_workMake (u : St) (x1 : Int32) (x2 : Int32) (post : St → Prop) : Prop :=
  wp_X7_reachArguments u x1 (fun (u1 : St) => (vp_in x2 1440 ∧ wp_X7_here u1 x1 (gA u1 7 (ix x2)) (fun (r3 : Int32) (u2 : St) => wp_X7_reach u2 r3 (fun (u4 : St) => (vp_in r3 18000 ∧ br ((gA u4 28 (ix r3)) = 0) (post u4) (wp_X7_numberOf u4 r3 (fun (r7 : Int32) (u6 : St) => br (0 ≤ r7) (br (r7 ≤ 40) (wp_X7_workMake_67 u6 x1 x2 r7 x1 post) (wp_X7_workMake_67 u6 x1 x2 40 x1 post)) (wp_X7_workMake_67 u6 x1 x2 0 x1 post))))))))
set_option maxHeartbeats 4000000 in
set_option maxRecDepth 20000 in
theorem z_X7_workMake {X : XX} {ad : Nat → Nat} {cs : Nat → ClassId} {post : St → Prop} (C : CxM X ad cs cX7_workMake RX7 2 50) (hn : xnL X = 7) (hR : rtV X cX7_workMake (wM ad cs) post) (u : St) (x1 : Int32) (x2 : Int32) (hw : wp_X7_workMake u x1 x2 post) : Z X (wM ad cs u) 0 [(0, .ref (ad 0)), (1, .int x1), (2, .int x2)] [] := by
  unfold wp_X7_workMake at hw
  refine z_aload_n C.1 dX7_workMake_0 rfl 0 rfl ?_
  refine z_iload_n C.1 dX7_workMake_1 rfl 1 rfl ?_
  refine k_X7_reachArguments C mM_X7_323 hw (by decide) (Nat.le_of_ble_eq_true rfl) dX7_workMake_2 (fun u1 hw => ?_)
  refine z_aload_n C.1 dX7_workMake_5 rfl 0 rfl ?_
  refine z_iload_n C.1 dX7_workMake_6 rfl 1 rfl ?_
  refine z_aload_n C.1 dX7_workMake_7 rfl 0 rfl ?_
  refine gM_0_firsts C mF_X7_29 dX7_workMake_8 ?_
  refine z_iload_n C.1 dX7_workMake_11 rfl 2 rfl ?_
  refine lM_7 C hw.1 dX7_workMake_12 ?_
  replace hw := hw.2
  refine k_X7_here C mM_X7_320 hw (by decide) (Nat.le_of_ble_eq_true rfl) dX7_workMake_13 (fun r3 u2 hw => ?_)
  refine z_istore_n (lv' := [(3, .int r3), (0, .ref (ad 0)), (1, .int x1), (2, .int x2)]) C.1 dX7_workMake_16 rfl (by rw [hn]; decide) rfl ?_
  refine z_aload_n C.1 dX7_workMake_17 rfl 1 rfl ?_
  refine z_iload_n C.1 dX7_workMake_18 rfl 0 rfl ?_
  refine k_X7_reach C mM_X7_314 hw (by decide) (Nat.le_of_ble_eq_true rfl) dX7_workMake_19 (fun u4 hw => ?_)
  refine z_aload_n C.1 dX7_workMake_22 rfl 1 rfl ?_
  refine gM_0_known C mF_X7_94 dX7_workMake_23 ?_
  refine z_iload_n C.1 dX7_workMake_26 rfl 0 rfl ?_
  refine lM_28 C hw.1 dX7_workMake_27 ?_
  replace hw := hw.2
  refine z_if_ne (tgt := 32) C.1 dX7_workMake_28 (by decide) (fun c5 => ?_) (fun c5 => ?_)
  · replace hw := hw.2 c5
    refine z_aload_n C.1 dX7_workMake_32 rfl 1 rfl ?_
    refine z_iload_n C.1 dX7_workMake_33 rfl 0 rfl ?_
    refine k_X7_numberOf C mM_X7_335 hw (by decide) (Nat.le_of_ble_eq_true rfl) dX7_workMake_34 (fun r7 u6 hw => ?_)
    refine z_istore (lv' := [(4, .int r7), (3, .int r3), (0, .ref (ad 0)), (1, .int x1), (2, .int x2)]) C.1 dX7_workMake_37 (by rw [hn]; decide) rfl ?_
    refine z_aload_n C.1 dX7_workMake_39 rfl 2 rfl ?_
    refine gM_0_cellCounts C mF_X7_106 dX7_workMake_40 ?_
    refine z_iload_n C.1 dX7_workMake_43 rfl 3 rfl ?_
    refine z_iload C.1 dX7_workMake_44 0 rfl ?_
    refine z_if_ge (tgt := 53) C.1 dX7_workMake_46 (by decide) (fun c8 => ?_) (fun c8 => ?_)
    · replace hw := hw.1 c8
      refine z_iload C.1 dX7_workMake_53 0 rfl ?_
      refine z_bipush (v := 40) C.1 dX7_workMake_55 (by decide) ?_
      refine z_icmp_le (tgt := 65) C.1 dX7_workMake_57 (by decide) (fun c9 => ?_) (fun c9 => ?_)
      · replace hw := hw.1 c9
        refine z_iload C.1 dX7_workMake_65 0 rfl ?_
        refine z_lv [2, 3, 4] rfl ?_
        exact z_X7_workMake_67 C hn hR _ _ _ _ _ hw
      · replace hw := hw.2 c9
        refine z_bipush (v := 40) C.1 dX7_workMake_60 (by decide) ?_
        refine z_goto (tgt := 67) C.1 dX7_workMake_62 (by decide) ?_
        refine z_lv [2, 3, 4] rfl ?_
        exact z_X7_workMake_67 C hn hR _ _ _ _ _ hw
    · replace hw := hw.2 c8
      refine z_iconst (v := 0) C.1 dX7_workMake_49 (by decide) ?_
      refine z_goto (tgt := 67) C.1 dX7_workMake_50 (by decide) ?_
      refine z_lv [2, 3, 4] rfl ?_
      exact z_X7_workMake_67 C hn hR _ _ _ _ _ hw
  · replace hw := hw.1 c5
    exact hR _ _ _ dX7_workMake_31 hw
theorem c_X7_workMake {l : Launch} {D : va_G} {A : Nat → Prop} {ad : Nat → Nat} {cs : Nat → ClassId} (hD : ∀ u : St, va_D A (wM ad cs u)) (u : St) (x1 : Int32) (x2 : Int32) (post : St → Prop) (hw : wp_X7_workMake u x1 x2 post) : MV (ad 90, ad 91) l yX7_workMake cX7_workMake 7 none (rmm 2 50) D (tysM cs) A (wM ad cs) u [.ref (ad 0), .int x1, .int x2] post :=
  met_v (by decide) (Nat.le_of_ble_eq_true rfl) (fun X C _ _ ht hA hn hsg hR => z_X7_workMake ⟨C, ht, fun u => by rw [hA]; exact hD u, hsg⟩ hn hR u x1 x2 hw)
theorem k_X7_workMake {X : XX} {ad : Nat → Nat} {cs : Nat → ClassId} {cc : ByteArray} {own : String} {fr lo pc : Nat} {lv : List (Nat × Value)} {st : List Value} {u : St} (C : CxM X ad cs cc own fr lo) {idx : Nat} {x1 : Int32} {x2 : Int32} {P : St → Prop} (hlink : Cond.methodLink own idx yX7_workMake ∈ W0) (hw : wp_X7_workMake u x1 x2 P) (hr : 2 + 1 ≤ fr ∧ 8 + (7 + 11) + 50 ≤ lo) (hst : (st.map fun v => v.category).sum ≤ 8) (hdg : decode cc pc = .ok (.invokevirtual idx, 3)) (k : ∀ (u2 : St), P u2 → Z X (wM ad cs u2) (pc + 3) lv st) : Z X (wM ad cs u) pc lv (.int x2 :: .int x1 :: .ref (ad 0) :: st) :=
  z_callVv (wf := wM ad cs) (As := [.int x1, .int x2]) (rest := st) C.1 2 (q0 := 0) mI_X7_workMake mS_X7_workMake rfl rfl (by rw [C.2.1, C.2.2.2]; exact c_X7_workMake C.2.2.1 u x1 x2 P hw) mC_X7_workMake mZ_X7 (by decide +kernel) rfl hlink hr hst hdg k

def wp_X7_workFetch_95 (u : St) (x1 : Int32) (post : St → Prop) : Prop :=
  wp_X7_know u x1 0 (-1) (fun (u17 : St) => post u17)
set_option maxHeartbeats 4000000 in
set_option maxRecDepth 20000 in
theorem z_X7_workFetch_95 {X : XX} {ad : Nat → Nat} {cs : Nat → ClassId} {post : St → Prop} (C : CxM X ad cs cX7_workFetch RX7 2 45) (hn : xnL X = 6) (hR : rtV X cX7_workFetch (wM ad cs) post) (u : St) (x1 : Int32) (hw : wp_X7_workFetch_95 u x1 post) : Z X (wM ad cs u) 95 [(0, .ref (ad 0)), (1, .int x1)] [] := by
  unfold wp_X7_workFetch_95 at hw
  refine z_aload_n C.1 dX7_workFetch_95 rfl 0 rfl ?_
  refine z_iload_n C.1 dX7_workFetch_96 rfl 1 rfl ?_
  refine z_iconst (v := 0) C.1 dX7_workFetch_97 (by decide) ?_
  refine z_iconst (v := (-1)) C.1 dX7_workFetch_98 (by decide) ?_
  refine k_X7_know C mM_X7_294 hw (by decide) (Nat.le_of_ble_eq_true rfl) dX7_workFetch_99 (fun u17 hw => ?_)
  refine z_goto (tgt := 128) C.1 dX7_workFetch_102 (by decide) ?_
  exact hR _ _ _ dX7_workFetch_128 hw
def wp_X7_workFetch (u : St) (x1 : Int32) (x2 : Int32) (post : St → Prop) : Prop :=
  (vp_in x2 1440 ∧ wp_X7_here u x1 (gA u 7 (ix x2)) (fun (r2 : Int32) (u1 : St) => (vp_in x2 1440 ∧ wp_X7_here u1 x1 (gA u1 8 (ix x2)) (fun (r4 : Int32) (u3 : St) => wp_X7_reach u3 r2 (fun (u5 : St) => wp_X7_reach u5 r4 (fun (u6 : St) => (vp_in r2 18000 ∧ br ((gA u6 28 (ix r2)) = 0) (post u6) ((vp_in r4 18000 ∧ br ((gA u6 28 (ix r4)) = 0) (post u6) (wp_X7_numberOf u6 r4 (fun (r10 : Int32) (u9 : St) => (vp_in r2 18000 ∧ br ((gA u9 30 (ix r2)) = (-1)) (wp_X7_workFetch_95 u9 x1 post) (br (r10 < 0) (wp_X7_workFetch_95 u9 x1 post) ((vp_in r2 18000 ∧ (vp_in (gA u9 30 (ix r2)) 18000 ∧ br (r10 < (gA u9 32 (ix (gA u9 30 (ix r2))))) ((vp_in r2 18000 ∧ (vp_in (gA u9 30 (ix r2)) 18000 ∧ wp_X7_rootOf u9 ((gA u9 31 (ix (gA u9 30 (ix r2)))) + r10) (fun (r15 : Int32) (u14 : St) => wp_X7_same u14 x1 r15 (fun (u16 : St) => post u16))))) (wp_X7_workFetch_95 u9 x1 post)))))))))))))))))
set_option maxHeartbeats 4000000 in
set_option maxRecDepth 20000 in
theorem z_X7_workFetch {X : XX} {ad : Nat → Nat} {cs : Nat → ClassId} {post : St → Prop} (C : CxM X ad cs cX7_workFetch RX7 2 45) (hn : xnL X = 6) (hR : rtV X cX7_workFetch (wM ad cs) post) (u : St) (x1 : Int32) (x2 : Int32) (hw : wp_X7_workFetch u x1 x2 post) : Z X (wM ad cs u) 0 [(0, .ref (ad 0)), (1, .int x1), (2, .int x2)] [] := by
  unfold wp_X7_workFetch at hw
  refine z_aload_n C.1 dX7_workFetch_0 rfl 0 rfl ?_
  refine z_iload_n C.1 dX7_workFetch_1 rfl 1 rfl ?_
  refine z_aload_n C.1 dX7_workFetch_2 rfl 0 rfl ?_
  refine gM_0_firsts C mF_X7_29 dX7_workFetch_3 ?_
  refine z_iload_n C.1 dX7_workFetch_6 rfl 2 rfl ?_
  refine lM_7 C hw.1 dX7_workFetch_7 ?_
  replace hw := hw.2
  refine k_X7_here C mM_X7_320 hw (by decide) (Nat.le_of_ble_eq_true rfl) dX7_workFetch_8 (fun r2 u1 hw => ?_)
  refine z_istore_n (lv' := [(3, .int r2), (0, .ref (ad 0)), (1, .int x1), (2, .int x2)]) C.1 dX7_workFetch_11 rfl (by rw [hn]; decide) rfl ?_
  refine z_aload_n C.1 dX7_workFetch_12 rfl 1 rfl ?_
  refine z_iload_n C.1 dX7_workFetch_13 rfl 2 rfl ?_
  refine z_aload_n C.1 dX7_workFetch_14 rfl 1 rfl ?_
  refine gM_0_seconds C mF_X7_32 dX7_workFetch_15 ?_
  refine z_iload_n C.1 dX7_workFetch_18 rfl 3 rfl ?_
  refine lM_8 C hw.1 dX7_workFetch_19 ?_
  replace hw := hw.2
  refine k_X7_here C mM_X7_320 hw (by decide) (Nat.le_of_ble_eq_true rfl) dX7_workFetch_20 (fun r4 u3 hw => ?_)
  refine z_istore (lv' := [(4, .int r4), (3, .int r2), (0, .ref (ad 0)), (1, .int x1), (2, .int x2)]) C.1 dX7_workFetch_23 (by rw [hn]; decide) rfl ?_
  refine z_aload_n C.1 dX7_workFetch_25 rfl 2 rfl ?_
  refine z_iload_n C.1 dX7_workFetch_26 rfl 1 rfl ?_
  refine k_X7_reach C mM_X7_314 hw (by decide) (Nat.le_of_ble_eq_true rfl) dX7_workFetch_27 (fun u5 hw => ?_)
  refine z_aload_n C.1 dX7_workFetch_30 rfl 2 rfl ?_
  refine z_iload C.1 dX7_workFetch_31 0 rfl ?_
  refine k_X7_reach C mM_X7_314 hw (by decide) (Nat.le_of_ble_eq_true rfl) dX7_workFetch_33 (fun u6 hw => ?_)
  refine z_aload_n C.1 dX7_workFetch_36 rfl 2 rfl ?_
  refine gM_0_known C mF_X7_94 dX7_workFetch_37 ?_
  refine z_iload_n C.1 dX7_workFetch_40 rfl 1 rfl ?_
  refine lM_28 C hw.1 dX7_workFetch_41 ?_
  replace hw := hw.2
  refine z_if_eq (tgt := 55) C.1 dX7_workFetch_42 (by decide) (fun c7 => ?_) (fun c7 => ?_)
  · replace hw := hw.1 c7
    exact hR _ _ _ dX7_workFetch_55 hw
  · replace hw := hw.2 c7
    refine z_aload_n C.1 dX7_workFetch_45 rfl 2 rfl ?_
    refine gM_0_known C mF_X7_94 dX7_workFetch_46 ?_
    refine z_iload C.1 dX7_workFetch_49 0 rfl ?_
    refine lM_28 C hw.1 dX7_workFetch_51 ?_
    replace hw := hw.2
    refine z_if_ne (tgt := 56) C.1 dX7_workFetch_52 (by decide) (fun c8 => ?_) (fun c8 => ?_)
    · replace hw := hw.2 c8
      refine z_aload_n C.1 dX7_workFetch_56 rfl 2 rfl ?_
      refine z_iload C.1 dX7_workFetch_57 0 rfl ?_
      refine k_X7_numberOf C mM_X7_335 hw (by decide) (Nat.le_of_ble_eq_true rfl) dX7_workFetch_59 (fun r10 u9 hw => ?_)
      refine z_istore (lv' := [(5, .int r10), (4, .int r4), (3, .int r2), (0, .ref (ad 0)), (1, .int x1), (2, .int x2)]) C.1 dX7_workFetch_62 (by rw [hn]; decide) rfl ?_
      refine z_aload_n C.1 dX7_workFetch_64 rfl 3 rfl ?_
      refine gM_0_arrays C mF_X7_100 dX7_workFetch_65 ?_
      refine z_iload_n C.1 dX7_workFetch_68 rfl 2 rfl ?_
      refine lM_30 C hw.1 dX7_workFetch_69 ?_
      replace hw := hw.2
      refine z_iconst (v := (-1)) C.1 dX7_workFetch_70 (by decide) ?_
      refine z_icmp_eq (tgt := 95) C.1 dX7_workFetch_71 (by decide) (fun c11 => ?_) (fun c11 => ?_)
      · replace hw := hw.1 c11
        refine z_lv [3, 4] rfl ?_
        exact z_X7_workFetch_95 C hn hR _ _ hw
      · replace hw := hw.2 c11
        refine z_iload C.1 dX7_workFetch_74 0 rfl ?_
        refine z_if_lt (tgt := 95) C.1 dX7_workFetch_76 (by decide) (fun c12 => ?_) (fun c12 => ?_)
        · replace hw := hw.1 c12
          refine z_lv [3, 4] rfl ?_
          exact z_X7_workFetch_95 C hn hR _ _ hw
        · replace hw := hw.2 c12
          refine z_iload C.1 dX7_workFetch_79 0 rfl ?_
          refine z_aload_n C.1 dX7_workFetch_81 rfl 3 rfl ?_
          refine gM_0_cellCounts C mF_X7_106 dX7_workFetch_82 ?_
          refine z_aload_n C.1 dX7_workFetch_85 rfl 3 rfl ?_
          refine gM_0_arrays C mF_X7_100 dX7_workFetch_86 ?_
          refine z_iload_n C.1 dX7_workFetch_89 rfl 2 rfl ?_
          refine lM_30 C hw.1 dX7_workFetch_90 ?_
          replace hw := hw.2
          refine lM_32 C hw.1 dX7_workFetch_91 ?_
          replace hw := hw.2
          refine z_icmp_lt (tgt := 105) C.1 dX7_workFetch_92 (by decide) (fun c13 => ?_) (fun c13 => ?_)
          · replace hw := hw.1 c13
            refine z_aload_n C.1 dX7_workFetch_105 rfl 3 rfl ?_
            refine z_iload_n C.1 dX7_workFetch_106 rfl 4 rfl ?_
            refine z_aload_n C.1 dX7_workFetch_107 rfl 3 rfl ?_
            refine z_aload_n C.1 dX7_workFetch_108 rfl 3 rfl ?_
            refine gM_0_made C mF_X7_103 dX7_workFetch_109 ?_
            refine z_aload_n C.1 dX7_workFetch_112 rfl 3 rfl ?_
            refine gM_0_arrays C mF_X7_100 dX7_workFetch_113 ?_
            refine z_iload_n C.1 dX7_workFetch_116 rfl 2 rfl ?_
            refine lM_30 C hw.1 dX7_workFetch_117 ?_
            replace hw := hw.2
            refine lM_31 C hw.1 dX7_workFetch_118 ?_
            replace hw := hw.2
            refine z_iload C.1 dX7_workFetch_119 0 rfl ?_
            refine z_iadd C.1 dX7_workFetch_121 ?_
            refine k_X7_rootOf C mM_X7_311 hw (by decide) (Nat.le_of_ble_eq_true rfl) dX7_workFetch_122 (fun r15 u14 hw => ?_)
            refine k_X7_same C mM_X7_332 hw (by decide) (Nat.le_of_ble_eq_true rfl) dX7_workFetch_125 (fun u16 hw => ?_)
            exact hR _ _ _ dX7_workFetch_128 hw
          · replace hw := hw.2 c13
            refine z_lv [3, 4] rfl ?_
            exact z_X7_workFetch_95 C hn hR _ _ hw
    · replace hw := hw.1 c8
      exact hR _ _ _ dX7_workFetch_55 hw
theorem c_X7_workFetch {l : Launch} {D : va_G} {A : Nat → Prop} {ad : Nat → Nat} {cs : Nat → ClassId} (hD : ∀ u : St, va_D A (wM ad cs u)) (u : St) (x1 : Int32) (x2 : Int32) (post : St → Prop) (hw : wp_X7_workFetch u x1 x2 post) : MV (ad 90, ad 91) l yX7_workFetch cX7_workFetch 6 none (rmm 2 45) D (tysM cs) A (wM ad cs) u [.ref (ad 0), .int x1, .int x2] post :=
  met_v (by decide) (Nat.le_of_ble_eq_true rfl) (fun X C _ _ ht hA hn hsg hR => z_X7_workFetch ⟨C, ht, fun u => by rw [hA]; exact hD u, hsg⟩ hn hR u x1 x2 hw)
theorem k_X7_workFetch {X : XX} {ad : Nat → Nat} {cs : Nat → ClassId} {cc : ByteArray} {own : String} {fr lo pc : Nat} {lv : List (Nat × Value)} {st : List Value} {u : St} (C : CxM X ad cs cc own fr lo) {idx : Nat} {x1 : Int32} {x2 : Int32} {P : St → Prop} (hlink : Cond.methodLink own idx yX7_workFetch ∈ W0) (hw : wp_X7_workFetch u x1 x2 P) (hr : 2 + 1 ≤ fr ∧ 8 + (6 + 11) + 45 ≤ lo) (hst : (st.map fun v => v.category).sum ≤ 8) (hdg : decode cc pc = .ok (.invokevirtual idx, 3)) (k : ∀ (u2 : St), P u2 → Z X (wM ad cs u2) (pc + 3) lv st) : Z X (wM ad cs u) pc lv (.int x2 :: .int x1 :: .ref (ad 0) :: st) :=
  z_callVv (wf := wM ad cs) (As := [.int x1, .int x2]) (rest := st) C.1 2 (q0 := 0) mI_X7_workFetch mS_X7_workFetch rfl rfl (by rw [C.2.1, C.2.2.2]; exact c_X7_workFetch C.2.2.1 u x1 x2 P hw) mC_X7_workFetch mZ_X7 (by decide +kernel) rfl hlink hr hst hdg k

def wp_X7_workIf_51 (u : St) (x1 : Int32) (y0 : Int32) (y1 : Int32) (post : St → Prop) : Prop :=
  wp_X7_here u y1 y0 (fun (r9 : Int32) (u8 : St) => wp_X7_reach u8 r9 (fun (u10 : St) => wp_X7_same u10 x1 r9 (fun (u11 : St) => post u11)))
set_option maxHeartbeats 4000000 in
set_option maxRecDepth 20000 in
theorem z_X7_workIf_51 {X : XX} {ad : Nat → Nat} {cs : Nat → ClassId} {post : St → Prop} (C : CxM X ad cs cX7_workIf RX7 2 45) (hn : xnL X = 5) (hR : rtV X cX7_workIf (wM ad cs) post) (u : St) (x1 : Int32) (y0 : Int32) (y1 : Int32) (hw : wp_X7_workIf_51 u x1 y0 y1 post) : Z X (wM ad cs u) 51 [(0, .ref (ad 0)), (1, .int x1)] [.int y0, .int y1, .ref (ad 0)] := by
  unfold wp_X7_workIf_51 at hw
  refine k_X7_here C mM_X7_320 hw (by decide) (Nat.le_of_ble_eq_true rfl) dX7_workIf_51 (fun r9 u8 hw => ?_)
  refine z_istore (lv' := [(4, .int r9), (0, .ref (ad 0)), (1, .int x1)]) C.1 dX7_workIf_54 (by rw [hn]; decide) rfl ?_
  refine z_aload_n C.1 dX7_workIf_56 rfl 1 rfl ?_
  refine z_iload C.1 dX7_workIf_57 0 rfl ?_
  refine k_X7_reach C mM_X7_314 hw (by decide) (Nat.le_of_ble_eq_true rfl) dX7_workIf_59 (fun u10 hw => ?_)
  refine z_aload_n C.1 dX7_workIf_62 rfl 1 rfl ?_
  refine z_iload_n C.1 dX7_workIf_63 rfl 2 rfl ?_
  refine z_iload C.1 dX7_workIf_64 0 rfl ?_
  refine k_X7_same C mM_X7_332 hw (by decide) (Nat.le_of_ble_eq_true rfl) dX7_workIf_66 (fun u11 hw => ?_)
  exact hR _ _ _ dX7_workIf_69 hw
def wp_X7_workIf (u : St) (x1 : Int32) (x2 : Int32) (post : St → Prop) : Prop :=
  (vp_in x2 1440 ∧ wp_X7_here u x1 (gA u 7 (ix x2)) (fun (r2 : Int32) (u1 : St) => wp_X7_reach u1 r2 (fun (u3 : St) => (vp_in r2 18000 ∧ br ((gA u3 28 (ix r2)) = 0) (post u3) (wp_X7_numberOf u3 r2 (fun (r6 : Int32) (u5 : St) => br (r6 = 0) ((vp_in x2 1440 ∧ wp_X7_workIf_51 u5 x1 (gA u5 9 (ix x2)) x1 post)) ((vp_in x2 1440 ∧ wp_X7_workIf_51 u5 x1 (gA u5 8 (ix x2)) x1 post))))))))
set_option maxHeartbeats 4000000 in
set_option maxRecDepth 20000 in
theorem z_X7_workIf {X : XX} {ad : Nat → Nat} {cs : Nat → ClassId} {post : St → Prop} (C : CxM X ad cs cX7_workIf RX7 2 45) (hn : xnL X = 5) (hR : rtV X cX7_workIf (wM ad cs) post) (u : St) (x1 : Int32) (x2 : Int32) (hw : wp_X7_workIf u x1 x2 post) : Z X (wM ad cs u) 0 [(0, .ref (ad 0)), (1, .int x1), (2, .int x2)] [] := by
  unfold wp_X7_workIf at hw
  refine z_aload_n C.1 dX7_workIf_0 rfl 0 rfl ?_
  refine z_iload_n C.1 dX7_workIf_1 rfl 1 rfl ?_
  refine z_aload_n C.1 dX7_workIf_2 rfl 0 rfl ?_
  refine gM_0_firsts C mF_X7_29 dX7_workIf_3 ?_
  refine z_iload_n C.1 dX7_workIf_6 rfl 2 rfl ?_
  refine lM_7 C hw.1 dX7_workIf_7 ?_
  replace hw := hw.2
  refine k_X7_here C mM_X7_320 hw (by decide) (Nat.le_of_ble_eq_true rfl) dX7_workIf_8 (fun r2 u1 hw => ?_)
  refine z_istore_n (lv' := [(3, .int r2), (0, .ref (ad 0)), (1, .int x1), (2, .int x2)]) C.1 dX7_workIf_11 rfl (by rw [hn]; decide) rfl ?_
  refine z_aload_n C.1 dX7_workIf_12 rfl 1 rfl ?_
  refine z_iload_n C.1 dX7_workIf_13 rfl 0 rfl ?_
  refine k_X7_reach C mM_X7_314 hw (by decide) (Nat.le_of_ble_eq_true rfl) dX7_workIf_14 (fun u3 hw => ?_)
  refine z_aload_n C.1 dX7_workIf_17 rfl 1 rfl ?_
  refine gM_0_known C mF_X7_94 dX7_workIf_18 ?_
  refine z_iload_n C.1 dX7_workIf_21 rfl 0 rfl ?_
  refine lM_28 C hw.1 dX7_workIf_22 ?_
  replace hw := hw.2
  refine z_if_eq (tgt := 69) C.1 dX7_workIf_23 (by decide) (fun c4 => ?_) (fun c4 => ?_)
  · replace hw := hw.1 c4
    exact hR _ _ _ dX7_workIf_69 hw
  · replace hw := hw.2 c4
    refine z_aload_n C.1 dX7_workIf_26 rfl 1 rfl ?_
    refine z_iload_n C.1 dX7_workIf_27 rfl 2 rfl ?_
    refine z_aload_n C.1 dX7_workIf_28 rfl 1 rfl ?_
    refine z_iload_n C.1 dX7_workIf_29 rfl 0 rfl ?_
    refine k_X7_numberOf C mM_X7_335 hw (by decide) (Nat.le_of_ble_eq_true rfl) dX7_workIf_30 (fun r6 u5 hw => ?_)
    refine z_if_eq (tgt := 45) C.1 dX7_workIf_33 (by decide) (fun c7 => ?_) (fun c7 => ?_)
    · replace hw := hw.1 c7
      refine z_aload_n C.1 dX7_workIf_45 rfl 1 rfl ?_
      refine gM_0_thirds C mF_X7_35 dX7_workIf_46 ?_
      refine z_iload_n C.1 dX7_workIf_49 rfl 3 rfl ?_
      refine lM_9 C hw.1 dX7_workIf_50 ?_
      replace hw := hw.2
      refine z_lv [1, 2] rfl ?_
      exact z_X7_workIf_51 C hn hR _ _ _ _ hw
    · replace hw := hw.2 c7
      refine z_aload_n C.1 dX7_workIf_36 rfl 1 rfl ?_
      refine gM_0_seconds C mF_X7_32 dX7_workIf_37 ?_
      refine z_iload_n C.1 dX7_workIf_40 rfl 3 rfl ?_
      refine lM_8 C hw.1 dX7_workIf_41 ?_
      replace hw := hw.2
      refine z_goto (tgt := 51) C.1 dX7_workIf_42 (by decide) ?_
      refine z_lv [1, 2] rfl ?_
      exact z_X7_workIf_51 C hn hR _ _ _ _ hw
theorem c_X7_workIf {l : Launch} {D : va_G} {A : Nat → Prop} {ad : Nat → Nat} {cs : Nat → ClassId} (hD : ∀ u : St, va_D A (wM ad cs u)) (u : St) (x1 : Int32) (x2 : Int32) (post : St → Prop) (hw : wp_X7_workIf u x1 x2 post) : MV (ad 90, ad 91) l yX7_workIf cX7_workIf 5 none (rmm 2 45) D (tysM cs) A (wM ad cs) u [.ref (ad 0), .int x1, .int x2] post :=
  met_v (by decide) (Nat.le_of_ble_eq_true rfl) (fun X C _ _ ht hA hn hsg hR => z_X7_workIf ⟨C, ht, fun u => by rw [hA]; exact hD u, hsg⟩ hn hR u x1 x2 hw)
theorem k_X7_workIf {X : XX} {ad : Nat → Nat} {cs : Nat → ClassId} {cc : ByteArray} {own : String} {fr lo pc : Nat} {lv : List (Nat × Value)} {st : List Value} {u : St} (C : CxM X ad cs cc own fr lo) {idx : Nat} {x1 : Int32} {x2 : Int32} {P : St → Prop} (hlink : Cond.methodLink own idx yX7_workIf ∈ W0) (hw : wp_X7_workIf u x1 x2 P) (hr : 2 + 1 ≤ fr ∧ 8 + (5 + 11) + 45 ≤ lo) (hst : (st.map fun v => v.category).sum ≤ 8) (hdg : decode cc pc = .ok (.invokevirtual idx, 3)) (k : ∀ (u2 : St), P u2 → Z X (wM ad cs u2) (pc + 3) lv st) : Z X (wM ad cs u) pc lv (.int x2 :: .int x1 :: .ref (ad 0) :: st) :=
  z_callVv (wf := wM ad cs) (As := [.int x1, .int x2]) (rest := st) C.1 2 (q0 := 0) mI_X7_workIf mS_X7_workIf rfl rfl (by rw [C.2.1, C.2.2.2]; exact c_X7_workIf C.2.2.1 u x1 x2 P hw) mC_X7_workIf mZ_X7 (by decide +kernel) rfl hlink hr hst hdg k

def wp_X7_workArgument (u : St) (x1 : Int32) (x2 : Int32) (post : St → Prop) : Prop :=
  (vp_in x2 1440 ∧ nm ((6 * (x1 / 60)) + (gA u 6 (ix x2))) (fun v1 : Int32 => (vp_in v1 1800 ∧ br ((gA u 24 (ix v1)) = (-1)) ((vp_in v1 1800 ∧ (vp_in v1 1800 ∧ wp_X7_know u x1 (gA u 25 (ix v1)) (gA u 26 (ix v1)) (fun (u4 : St) => post u4)))) ((vp_in v1 1800 ∧ wp_X7_same u x1 (gA u 24 (ix v1)) (fun (u3 : St) => post u3))))))
set_option maxHeartbeats 4000000 in
set_option maxRecDepth 20000 in
theorem z_X7_workArgument {X : XX} {ad : Nat → Nat} {cs : Nat → ClassId} {post : St → Prop} (C : CxM X ad cs cX7_workArgument RX7 2 45) (hn : xnL X = 4) (hR : rtV X cX7_workArgument (wM ad cs) post) (u : St) (x1 : Int32) (x2 : Int32) (hw : wp_X7_workArgument u x1 x2 post) : Z X (wM ad cs u) 0 [(0, .ref (ad 0)), (1, .int x1), (2, .int x2)] [] := by
  unfold wp_X7_workArgument at hw
  refine z_bipush (v := 6) C.1 dX7_workArgument_0 (by decide) ?_
  refine z_iload_n C.1 dX7_workArgument_2 rfl 1 rfl ?_
  refine z_bipush (v := 60) C.1 dX7_workArgument_3 (by decide) ?_
  refine z_idiv C.1 dX7_workArgument_5 (by decide) ?_
  refine z_imul C.1 dX7_workArgument_6 ?_
  refine z_aload_n C.1 dX7_workArgument_7 rfl 0 rfl ?_
  refine gM_0_signs C mF_X7_26 dX7_workArgument_8 ?_
  refine z_iload_n C.1 dX7_workArgument_11 rfl 2 rfl ?_
  refine lM_6 C hw.1 dX7_workArgument_12 ?_
  replace hw := hw.2
  refine z_iadd C.1 dX7_workArgument_13 ?_
  refine z_topi (fun v1 ev1 => ?_)
  replace hw := hw v1 ev1
  refine z_istore_n (lv' := [(3, .int v1), (0, .ref (ad 0)), (1, .int x1), (2, .int x2)]) C.1 dX7_workArgument_14 rfl (by rw [hn]; decide) rfl ?_
  refine z_aload_n C.1 dX7_workArgument_15 rfl 1 rfl ?_
  refine gM_0_argumentParts C mF_X7_81 dX7_workArgument_16 ?_
  refine z_iload_n C.1 dX7_workArgument_19 rfl 0 rfl ?_
  refine lM_24 C hw.1 dX7_workArgument_20 ?_
  replace hw := hw.2
  refine z_iconst (v := (-1)) C.1 dX7_workArgument_21 (by decide) ?_
  refine z_icmp_ne (tgt := 45) C.1 dX7_workArgument_22 (by decide) (fun c2 => ?_) (fun c2 => ?_)
  · replace hw := hw.2 c2
    refine z_aload_n C.1 dX7_workArgument_45 rfl 1 rfl ?_
    refine z_iload_n C.1 dX7_workArgument_46 rfl 2 rfl ?_
    refine z_aload_n C.1 dX7_workArgument_47 rfl 1 rfl ?_
    refine gM_0_argumentParts C mF_X7_81 dX7_workArgument_48 ?_
    refine z_iload_n C.1 dX7_workArgument_51 rfl 0 rfl ?_
    refine lM_24 C hw.1 dX7_workArgument_52 ?_
    replace hw := hw.2
    refine k_X7_same C mM_X7_332 hw (by decide) (Nat.le_of_ble_eq_true rfl) dX7_workArgument_53 (fun u3 hw => ?_)
    exact hR _ _ _ dX7_workArgument_56 hw
  · replace hw := hw.1 c2
    refine z_aload_n C.1 dX7_workArgument_25 rfl 1 rfl ?_
    refine z_iload_n C.1 dX7_workArgument_26 rfl 2 rfl ?_
    refine z_aload_n C.1 dX7_workArgument_27 rfl 1 rfl ?_
    refine gM_0_argumentNumbers C mF_X7_84 dX7_workArgument_28 ?_
    refine z_iload_n C.1 dX7_workArgument_31 rfl 0 rfl ?_
    refine lM_25 C hw.1 dX7_workArgument_32 ?_
    replace hw := hw.2
    refine z_aload_n C.1 dX7_workArgument_33 rfl 1 rfl ?_
    refine gM_0_argumentArrays C mF_X7_87 dX7_workArgument_34 ?_
    refine z_iload_n C.1 dX7_workArgument_37 rfl 0 rfl ?_
    refine lM_26 C hw.1 dX7_workArgument_38 ?_
    replace hw := hw.2
    refine k_X7_know C mM_X7_294 hw (by decide) (Nat.le_of_ble_eq_true rfl) dX7_workArgument_39 (fun u4 hw => ?_)
    refine z_goto (tgt := 56) C.1 dX7_workArgument_42 (by decide) ?_
    exact hR _ _ _ dX7_workArgument_56 hw
theorem c_X7_workArgument {l : Launch} {D : va_G} {A : Nat → Prop} {ad : Nat → Nat} {cs : Nat → ClassId} (hD : ∀ u : St, va_D A (wM ad cs u)) (u : St) (x1 : Int32) (x2 : Int32) (post : St → Prop) (hw : wp_X7_workArgument u x1 x2 post) : MV (ad 90, ad 91) l yX7_workArgument cX7_workArgument 4 none (rmm 2 45) D (tysM cs) A (wM ad cs) u [.ref (ad 0), .int x1, .int x2] post :=
  met_v (by decide) (Nat.le_of_ble_eq_true rfl) (fun X C _ _ ht hA hn hsg hR => z_X7_workArgument ⟨C, ht, fun u => by rw [hA]; exact hD u, hsg⟩ hn hR u x1 x2 hw)
theorem k_X7_workArgument {X : XX} {ad : Nat → Nat} {cs : Nat → ClassId} {cc : ByteArray} {own : String} {fr lo pc : Nat} {lv : List (Nat × Value)} {st : List Value} {u : St} (C : CxM X ad cs cc own fr lo) {idx : Nat} {x1 : Int32} {x2 : Int32} {P : St → Prop} (hlink : Cond.methodLink own idx yX7_workArgument ∈ W0) (hw : wp_X7_workArgument u x1 x2 P) (hr : 2 + 1 ≤ fr ∧ 8 + (4 + 11) + 45 ≤ lo) (hst : (st.map fun v => v.category).sum ≤ 8) (hdg : decode cc pc = .ok (.invokevirtual idx, 3)) (k : ∀ (u2 : St), P u2 → Z X (wM ad cs u2) (pc + 3) lv st) : Z X (wM ad cs u) pc lv (.int x2 :: .int x1 :: .ref (ad 0) :: st) :=
  z_callVv (wf := wM ad cs) (As := [.int x1, .int x2]) (rest := st) C.1 2 (q0 := 0) mI_X7_workArgument mS_X7_workArgument rfl rfl (by rw [C.2.1, C.2.2.2]; exact c_X7_workArgument C.2.2.1 u x1 x2 P hw) mC_X7_workArgument mZ_X7 (by decide +kernel) rfl hlink hr hst hdg k

def wp_X7_work_211 (u : St) (post : St → Prop) : Prop :=
  post u
set_option maxHeartbeats 4000000 in
set_option maxRecDepth 20000 in
theorem z_X7_work_211 {X : XX} {ad : Nat → Nat} {cs : Nat → ClassId} {post : St → Prop} (C : CxM X ad cs cX7_work RX7 3 76) (hn : xnL X = 6) (hR : rtV X cX7_work (wM ad cs) post) (u : St) (hw : wp_X7_work_211 u post) : Z X (wM ad cs u) 211 [] [] := by
  unfold wp_X7_work_211 at hw
  refine z_goto (tgt := 320) C.1 dX7_work_211 (by decide) ?_
  exact hR _ _ _ dX7_work_320 hw
def wp_X7_work_118 (u : St) (post : St → Prop) : Prop :=
  post u
set_option maxHeartbeats 4000000 in
set_option maxRecDepth 20000 in
theorem z_X7_work_118 {X : XX} {ad : Nat → Nat} {cs : Nat → ClassId} {post : St → Prop} (C : CxM X ad cs cX7_work RX7 3 76) (hn : xnL X = 6) (hR : rtV X cX7_work (wM ad cs) post) (u : St) (hw : wp_X7_work_118 u post) : Z X (wM ad cs u) 118 [] [] := by
  unfold wp_X7_work_118 at hw
  refine z_goto (tgt := 320) C.1 dX7_work_118 (by decide) ?_
  exact hR _ _ _ dX7_work_320 hw
def wp_X7_work (u : St) (x1 : Int32) (post : St → Prop) : Prop :=
  wp_X7_partOf u x1 (fun (r2 : Int32) (u1 : St) => (vp_in r2 1440 ∧ nm (gA u1 5 (ix r2)) (fun v3 : Int32 => br (v3 = 1) ((vp_in r2 1440 ∧ wp_X7_know u1 x1 (gA u1 6 (ix r2)) (-1) (fun (u52 : St) => post u52))) (br (v3 = 2) (wp_X7_workArgument u1 x1 r2 (fun (u51 : St) => post u51)) (br (v3 = 3) ((vp_in r2 1440 ∧ wp_X7_here u1 x1 (gA u1 7 (ix r2)) (fun (r49 : Int32) (u48 : St) => wp_X7_same u48 x1 r49 (fun (u50 : St) => post u50)))) (br (v3 = 4) ((vp_in r2 1440 ∧ wp_X7_here u1 x1 (gA u1 7 (ix r2)) (fun (r42 : Int32) (u41 : St) => wp_X7_reach u41 r42 (fun (u43 : St) => (vp_in r42 18000 ∧ br ((gA u43 28 (ix r42)) = 0) (wp_X7_work_118 u43 post) (wp_X7_numberOf u43 r42 (fun (r46 : Int32) (u45 : St) => wp_X7_know u45 x1 (-r46) (-1) (fun (u47 : St) => wp_X7_work_118 u47 post)))))))) (br (v3 = 5) ((vp_in r2 1440 ∧ wp_X7_here u1 x1 (gA u1 7 (ix r2)) (fun (r27 : Int32) (u26 : St) => (vp_in r2 1440 ∧ wp_X7_here u26 x1 (gA u26 8 (ix r2)) (fun (r29 : Int32) (u28 : St) => wp_X7_reach u28 r27 (fun (u30 : St) => wp_X7_reach u30 r29 (fun (u31 : St) => (vp_in r27 18000 ∧ br ((gA u31 28 (ix r27)) = 0) (wp_X7_work_211 u31 post) ((vp_in r29 18000 ∧ br ((gA u31 28 (ix r29)) = 0) (wp_X7_work_211 u31 post) ((vp_in r2 1440 ∧ wp_X7_numberOf u31 r27 (fun (r35 : Int32) (u34 : St) => wp_X7_numberOf u34 r29 (fun (r37 : Int32) (u36 : St) => wp_X7_operate u36 (gA u31 6 (ix r2)) r35 r37 (fun (r39 : Int32) (u38 : St) => wp_X7_know u38 x1 r39 (-1) (fun (u40 : St) => wp_X7_work_211 u40 post)))))))))))))))) (br (v3 = 7) ((vp_in r2 1440 ∧ wp_X7_here u1 x1 (gA u1 7 (ix r2)) (fun (r18 : Int32) (u17 : St) => wp_X7_reach u17 r18 (fun (u19 : St) => (vp_in r2 1440 ∧ wp_X7_here u19 x1 (gA u19 8 (ix r2)) (fun (r21 : Int32) (u20 : St) => wp_X7_reach u20 r21 (fun (u22 : St) => (vp_in r2 1440 ∧ wp_X7_here u22 x1 (gA u22 8 (ix r2)) (fun (r24 : Int32) (u23 : St) => wp_X7_same u23 x1 r24 (fun (u25 : St) => post u25)))))))))) (br (v3 = 6) (wp_X7_workIf u1 x1 r2 (fun (u16 : St) => post u16)) (br (v3 = 8) (wp_X7_workCall u1 x1 r2 (fun (u15 : St) => post u15)) (br (v3 = 9) (wp_X7_workMake u1 x1 r2 (fun (u14 : St) => post u14)) (wp_X7_workFetch u1 x1 r2 (fun (u13 : St) => post u13)))))))))))))
set_option maxHeartbeats 4000000 in
set_option maxRecDepth 20000 in
theorem z_X7_work {X : XX} {ad : Nat → Nat} {cs : Nat → ClassId} {post : St → Prop} (C : CxM X ad cs cX7_work RX7 3 76) (hn : xnL X = 6) (hR : rtV X cX7_work (wM ad cs) post) (u : St) (x1 : Int32) (hw : wp_X7_work u x1 post) : Z X (wM ad cs u) 0 [(0, .ref (ad 0)), (1, .int x1)] [] := by
  unfold wp_X7_work at hw
  refine z_aload_n C.1 dX7_work_0 rfl 0 rfl ?_
  refine z_iload_n C.1 dX7_work_1 rfl 1 rfl ?_
  refine k_X7_partOf C mM_X7_317 hw (by decide) (Nat.le_of_ble_eq_true rfl) dX7_work_2 (fun r2 u1 hw => ?_)
  refine z_istore_n (lv' := [(2, .int r2), (0, .ref (ad 0)), (1, .int x1)]) C.1 dX7_work_5 rfl (by rw [hn]; decide) rfl ?_
  refine z_aload_n C.1 dX7_work_6 rfl 1 rfl ?_
  refine gM_0_kinds C mF_X7_23 dX7_work_7 ?_
  refine z_iload_n C.1 dX7_work_10 rfl 0 rfl ?_
  refine lM_5 C hw.1 dX7_work_11 ?_
  replace hw := hw.2
  refine z_topi (fun v3 ev3 => ?_)
  replace hw := hw v3 ev3
  refine z_istore_n (lv' := [(3, .int v3), (2, .int r2), (0, .ref (ad 0)), (1, .int x1)]) C.1 dX7_work_12 rfl (by rw [hn]; decide) rfl ?_
  refine z_iload_n C.1 dX7_work_13 rfl 0 rfl ?_
  refine z_iconst (v := 1) C.1 dX7_work_14 (by decide) ?_
  refine z_icmp_ne (tgt := 33) C.1 dX7_work_15 (by decide) (fun c4 => ?_) (fun c4 => ?_)
  · replace hw := hw.2 c4
    refine z_iload_n C.1 dX7_work_33 rfl 0 rfl ?_
    refine z_iconst (v := 2) C.1 dX7_work_34 (by decide) ?_
    refine z_icmp_ne (tgt := 47) C.1 dX7_work_35 (by decide) (fun c5 => ?_) (fun c5 => ?_)
    · replace hw := hw.2 c5
      refine z_iload_n C.1 dX7_work_47 rfl 0 rfl ?_
      refine z_iconst (v := 3) C.1 dX7_work_48 (by decide) ?_
      refine z_icmp_ne (tgt := 71) C.1 dX7_work_49 (by decide) (fun c6 => ?_) (fun c6 => ?_)
      · replace hw := hw.2 c6
        refine z_iload_n C.1 dX7_work_71 rfl 0 rfl ?_
        refine z_iconst (v := 4) C.1 dX7_work_72 (by decide) ?_
        refine z_icmp_ne (tgt := 121) C.1 dX7_work_73 (by decide) (fun c7 => ?_) (fun c7 => ?_)
        · replace hw := hw.2 c7
          refine z_iload_n C.1 dX7_work_121 rfl 0 rfl ?_
          refine z_iconst (v := 5) C.1 dX7_work_122 (by decide) ?_
          refine z_icmp_ne (tgt := 214) C.1 dX7_work_123 (by decide) (fun c8 => ?_) (fun c8 => ?_)
          · replace hw := hw.2 c8
            refine z_iload_n C.1 dX7_work_214 rfl 0 rfl ?_
            refine z_bipush (v := 7) C.1 dX7_work_215 (by decide) ?_
            refine z_icmp_ne (tgt := 269) C.1 dX7_work_217 (by decide) (fun c9 => ?_) (fun c9 => ?_)
            · replace hw := hw.2 c9
              refine z_iload_n C.1 dX7_work_269 rfl 0 rfl ?_
              refine z_bipush (v := 6) C.1 dX7_work_270 (by decide) ?_
              refine z_icmp_ne (tgt := 284) C.1 dX7_work_272 (by decide) (fun c10 => ?_) (fun c10 => ?_)
              · replace hw := hw.2 c10
                refine z_iload_n C.1 dX7_work_284 rfl 0 rfl ?_
                refine z_bipush (v := 8) C.1 dX7_work_285 (by decide) ?_
                refine z_icmp_ne (tgt := 299) C.1 dX7_work_287 (by decide) (fun c11 => ?_) (fun c11 => ?_)
                · replace hw := hw.2 c11
                  refine z_iload_n C.1 dX7_work_299 rfl 0 rfl ?_
                  refine z_bipush (v := 9) C.1 dX7_work_300 (by decide) ?_
                  refine z_icmp_ne (tgt := 314) C.1 dX7_work_302 (by decide) (fun c12 => ?_) (fun c12 => ?_)
                  · replace hw := hw.2 c12
                    refine z_aload_n C.1 dX7_work_314 rfl 2 rfl ?_
                    refine z_iload_n C.1 dX7_work_315 rfl 3 rfl ?_
                    refine z_iload_n C.1 dX7_work_316 rfl 1 rfl ?_
                    refine k_X7_workFetch C mM_X7_354 hw (by decide) (Nat.le_of_ble_eq_true rfl) dX7_work_317 (fun u13 hw => ?_)
                    exact hR _ _ _ dX7_work_320 hw
                  · replace hw := hw.1 c12
                    refine z_aload_n C.1 dX7_work_305 rfl 2 rfl ?_
                    refine z_iload_n C.1 dX7_work_306 rfl 3 rfl ?_
                    refine z_iload_n C.1 dX7_work_307 rfl 1 rfl ?_
                    refine k_X7_workMake C mM_X7_351 hw (by decide) (Nat.le_of_ble_eq_true rfl) dX7_work_308 (fun u14 hw => ?_)
                    refine z_goto (tgt := 320) C.1 dX7_work_311 (by decide) ?_
                    exact hR _ _ _ dX7_work_320 hw
                · replace hw := hw.1 c11
                  refine z_aload_n C.1 dX7_work_290 rfl 2 rfl ?_
                  refine z_iload_n C.1 dX7_work_291 rfl 3 rfl ?_
                  refine z_iload_n C.1 dX7_work_292 rfl 1 rfl ?_
                  refine k_X7_workCall C mM_X7_348 hw (by decide) (Nat.le_of_ble_eq_true rfl) dX7_work_293 (fun u15 hw => ?_)
                  refine z_goto (tgt := 320) C.1 dX7_work_296 (by decide) ?_
                  exact hR _ _ _ dX7_work_320 hw
              · replace hw := hw.1 c10
                refine z_aload_n C.1 dX7_work_275 rfl 2 rfl ?_
                refine z_iload_n C.1 dX7_work_276 rfl 3 rfl ?_
                refine z_iload_n C.1 dX7_work_277 rfl 1 rfl ?_
                refine k_X7_workIf C mM_X7_345 hw (by decide) (Nat.le_of_ble_eq_true rfl) dX7_work_278 (fun u16 hw => ?_)
                refine z_goto (tgt := 320) C.1 dX7_work_281 (by decide) ?_
                exact hR _ _ _ dX7_work_320 hw
            · replace hw := hw.1 c9
              refine z_aload_n C.1 dX7_work_220 rfl 2 rfl ?_
              refine z_aload_n C.1 dX7_work_221 rfl 2 rfl ?_
              refine z_iload_n C.1 dX7_work_222 rfl 3 rfl ?_
              refine z_aload_n C.1 dX7_work_223 rfl 2 rfl ?_
              refine gM_0_firsts C mF_X7_29 dX7_work_224 ?_
              refine z_iload_n C.1 dX7_work_227 rfl 1 rfl ?_
              refine lM_7 C hw.1 dX7_work_228 ?_
              replace hw := hw.2
              refine k_X7_here C mM_X7_320 hw (by decide) (Nat.le_of_ble_eq_true rfl) dX7_work_229 (fun r18 u17 hw => ?_)
              refine k_X7_reach C mM_X7_314 hw (by decide) (Nat.le_of_ble_eq_true rfl) dX7_work_232 (fun u19 hw => ?_)
              refine z_aload_n C.1 dX7_work_235 rfl 2 rfl ?_
              refine z_aload_n C.1 dX7_work_236 rfl 2 rfl ?_
              refine z_iload_n C.1 dX7_work_237 rfl 3 rfl ?_
              refine z_aload_n C.1 dX7_work_238 rfl 2 rfl ?_
              refine gM_0_seconds C mF_X7_32 dX7_work_239 ?_
              refine z_iload_n C.1 dX7_work_242 rfl 1 rfl ?_
              refine lM_8 C hw.1 dX7_work_243 ?_
              replace hw := hw.2
              refine k_X7_here C mM_X7_320 hw (by decide) (Nat.le_of_ble_eq_true rfl) dX7_work_244 (fun r21 u20 hw => ?_)
              refine k_X7_reach C mM_X7_314 hw (by decide) (Nat.le_of_ble_eq_true rfl) dX7_work_247 (fun u22 hw => ?_)
              refine z_aload_n C.1 dX7_work_250 rfl 2 rfl ?_
              refine z_iload_n C.1 dX7_work_251 rfl 3 rfl ?_
              refine z_aload_n C.1 dX7_work_252 rfl 2 rfl ?_
              refine z_iload_n C.1 dX7_work_253 rfl 3 rfl ?_
              refine z_aload_n C.1 dX7_work_254 rfl 2 rfl ?_
              refine gM_0_seconds C mF_X7_32 dX7_work_255 ?_
              refine z_iload_n C.1 dX7_work_258 rfl 1 rfl ?_
              refine lM_8 C hw.1 dX7_work_259 ?_
              replace hw := hw.2
              refine k_X7_here C mM_X7_320 hw (by decide) (Nat.le_of_ble_eq_true rfl) dX7_work_260 (fun r24 u23 hw => ?_)
              refine k_X7_same C mM_X7_332 hw (by decide) (Nat.le_of_ble_eq_true rfl) dX7_work_263 (fun u25 hw => ?_)
              refine z_goto (tgt := 320) C.1 dX7_work_266 (by decide) ?_
              exact hR _ _ _ dX7_work_320 hw
          · replace hw := hw.1 c8
            refine z_aload_n C.1 dX7_work_126 rfl 2 rfl ?_
            refine z_iload_n C.1 dX7_work_127 rfl 3 rfl ?_
            refine z_aload_n C.1 dX7_work_128 rfl 2 rfl ?_
            refine gM_0_firsts C mF_X7_29 dX7_work_129 ?_
            refine z_iload_n C.1 dX7_work_132 rfl 1 rfl ?_
            refine lM_7 C hw.1 dX7_work_133 ?_
            replace hw := hw.2
            refine k_X7_here C mM_X7_320 hw (by decide) (Nat.le_of_ble_eq_true rfl) dX7_work_134 (fun r27 u26 hw => ?_)
            refine z_istore (lv' := [(4, .int r27), (3, .int v3), (2, .int r2), (0, .ref (ad 0)), (1, .int x1)]) C.1 dX7_work_137 (by rw [hn]; decide) rfl ?_
            refine z_aload_n C.1 dX7_work_139 rfl 3 rfl ?_
            refine z_iload_n C.1 dX7_work_140 rfl 4 rfl ?_
            refine z_aload_n C.1 dX7_work_141 rfl 3 rfl ?_
            refine gM_0_seconds C mF_X7_32 dX7_work_142 ?_
            refine z_iload_n C.1 dX7_work_145 rfl 2 rfl ?_
            refine lM_8 C hw.1 dX7_work_146 ?_
            replace hw := hw.2
            refine k_X7_here C mM_X7_320 hw (by decide) (Nat.le_of_ble_eq_true rfl) dX7_work_147 (fun r29 u28 hw => ?_)
            refine z_istore (lv' := [(5, .int r29), (4, .int r27), (3, .int v3), (2, .int r2), (0, .ref (ad 0)), (1, .int x1)]) C.1 dX7_work_150 (by rw [hn]; decide) rfl ?_
            refine z_aload_n C.1 dX7_work_152 rfl 4 rfl ?_
            refine z_iload C.1 dX7_work_153 1 rfl ?_
            refine k_X7_reach C mM_X7_314 hw (by decide) (Nat.le_of_ble_eq_true rfl) dX7_work_155 (fun u30 hw => ?_)
            refine z_aload_n C.1 dX7_work_158 rfl 4 rfl ?_
            refine z_iload C.1 dX7_work_159 0 rfl ?_
            refine k_X7_reach C mM_X7_314 hw (by decide) (Nat.le_of_ble_eq_true rfl) dX7_work_161 (fun u31 hw => ?_)
            refine z_aload_n C.1 dX7_work_164 rfl 4 rfl ?_
            refine gM_0_known C mF_X7_94 dX7_work_165 ?_
            refine z_iload C.1 dX7_work_168 1 rfl ?_
            refine lM_28 C hw.1 dX7_work_170 ?_
            replace hw := hw.2
            refine z_if_eq (tgt := 211) C.1 dX7_work_171 (by decide) (fun c32 => ?_) (fun c32 => ?_)
            · replace hw := hw.1 c32
              refine z_lv [] rfl ?_
              exact z_X7_work_211 C hn hR _ hw
            · replace hw := hw.2 c32
              refine z_aload_n C.1 dX7_work_174 rfl 4 rfl ?_
              refine gM_0_known C mF_X7_94 dX7_work_175 ?_
              refine z_iload C.1 dX7_work_178 0 rfl ?_
              refine lM_28 C hw.1 dX7_work_180 ?_
              replace hw := hw.2
              refine z_if_eq (tgt := 211) C.1 dX7_work_181 (by decide) (fun c33 => ?_) (fun c33 => ?_)
              · replace hw := hw.1 c33
                refine z_lv [] rfl ?_
                exact z_X7_work_211 C hn hR _ hw
              · replace hw := hw.2 c33
                refine z_aload_n C.1 dX7_work_184 rfl 4 rfl ?_
                refine z_iload_n C.1 dX7_work_185 rfl 5 rfl ?_
                refine z_aload_n C.1 dX7_work_186 rfl 4 rfl ?_
                refine gM_0_signs C mF_X7_26 dX7_work_187 ?_
                refine z_iload_n C.1 dX7_work_190 rfl 3 rfl ?_
                refine lM_6 C hw.1 dX7_work_191 ?_
                replace hw := hw.2
                refine z_aload_n C.1 dX7_work_192 rfl 4 rfl ?_
                refine z_iload C.1 dX7_work_193 1 rfl ?_
                refine k_X7_numberOf C mM_X7_335 hw (by decide) (Nat.le_of_ble_eq_true rfl) dX7_work_195 (fun r35 u34 hw => ?_)
                refine z_aload_n C.1 dX7_work_198 rfl 4 rfl ?_
                refine z_iload C.1 dX7_work_199 0 rfl ?_
                refine k_X7_numberOf C mM_X7_335 hw (by decide) (Nat.le_of_ble_eq_true rfl) dX7_work_201 (fun r37 u36 hw => ?_)
                refine k_X7_operate C mM_X7_341 hw (by decide) (Nat.le_of_ble_eq_true rfl) dX7_work_204 (fun r39 u38 hw => ?_)
                refine z_iconst (v := (-1)) C.1 dX7_work_207 (by decide) ?_
                refine k_X7_know C mM_X7_294 hw (by decide) (Nat.le_of_ble_eq_true rfl) dX7_work_208 (fun u40 hw => ?_)
                refine z_lv [] rfl ?_
                exact z_X7_work_211 C hn hR _ hw
        · replace hw := hw.1 c7
          refine z_aload_n C.1 dX7_work_76 rfl 2 rfl ?_
          refine z_iload_n C.1 dX7_work_77 rfl 3 rfl ?_
          refine z_aload_n C.1 dX7_work_78 rfl 2 rfl ?_
          refine gM_0_firsts C mF_X7_29 dX7_work_79 ?_
          refine z_iload_n C.1 dX7_work_82 rfl 1 rfl ?_
          refine lM_7 C hw.1 dX7_work_83 ?_
          replace hw := hw.2
          refine k_X7_here C mM_X7_320 hw (by decide) (Nat.le_of_ble_eq_true rfl) dX7_work_84 (fun r42 u41 hw => ?_)
          refine z_istore (lv' := [(4, .int r42), (3, .int v3), (2, .int r2), (0, .ref (ad 0)), (1, .int x1)]) C.1 dX7_work_87 (by rw [hn]; decide) rfl ?_
          refine z_aload_n C.1 dX7_work_89 rfl 3 rfl ?_
          refine z_iload C.1 dX7_work_90 0 rfl ?_
          refine k_X7_reach C mM_X7_314 hw (by decide) (Nat.le_of_ble_eq_true rfl) dX7_work_92 (fun u43 hw => ?_)
          refine z_aload_n C.1 dX7_work_95 rfl 3 rfl ?_
          refine gM_0_known C mF_X7_94 dX7_work_96 ?_
          refine z_iload C.1 dX7_work_99 0 rfl ?_
          refine lM_28 C hw.1 dX7_work_101 ?_
          replace hw := hw.2
          refine z_if_eq (tgt := 118) C.1 dX7_work_102 (by decide) (fun c44 => ?_) (fun c44 => ?_)
          · replace hw := hw.1 c44
            refine z_lv [] rfl ?_
            exact z_X7_work_118 C hn hR _ hw
          · replace hw := hw.2 c44
            refine z_aload_n C.1 dX7_work_105 rfl 3 rfl ?_
            refine z_iload_n C.1 dX7_work_106 rfl 4 rfl ?_
            refine z_aload_n C.1 dX7_work_107 rfl 3 rfl ?_
            refine z_iload C.1 dX7_work_108 0 rfl ?_
            refine k_X7_numberOf C mM_X7_335 hw (by decide) (Nat.le_of_ble_eq_true rfl) dX7_work_110 (fun r46 u45 hw => ?_)
            refine z_ineg C.1 dX7_work_113 ?_
            refine z_iconst (v := (-1)) C.1 dX7_work_114 (by decide) ?_
            refine k_X7_know C mM_X7_294 hw (by decide) (Nat.le_of_ble_eq_true rfl) dX7_work_115 (fun u47 hw => ?_)
            refine z_lv [] rfl ?_
            exact z_X7_work_118 C hn hR _ hw
      · replace hw := hw.1 c6
        refine z_aload_n C.1 dX7_work_52 rfl 2 rfl ?_
        refine z_iload_n C.1 dX7_work_53 rfl 3 rfl ?_
        refine z_aload_n C.1 dX7_work_54 rfl 2 rfl ?_
        refine z_iload_n C.1 dX7_work_55 rfl 3 rfl ?_
        refine z_aload_n C.1 dX7_work_56 rfl 2 rfl ?_
        refine gM_0_firsts C mF_X7_29 dX7_work_57 ?_
        refine z_iload_n C.1 dX7_work_60 rfl 1 rfl ?_
        refine lM_7 C hw.1 dX7_work_61 ?_
        replace hw := hw.2
        refine k_X7_here C mM_X7_320 hw (by decide) (Nat.le_of_ble_eq_true rfl) dX7_work_62 (fun r49 u48 hw => ?_)
        refine k_X7_same C mM_X7_332 hw (by decide) (Nat.le_of_ble_eq_true rfl) dX7_work_65 (fun u50 hw => ?_)
        refine z_goto (tgt := 320) C.1 dX7_work_68 (by decide) ?_
        exact hR _ _ _ dX7_work_320 hw
    · replace hw := hw.1 c5
      refine z_aload_n C.1 dX7_work_38 rfl 2 rfl ?_
      refine z_iload_n C.1 dX7_work_39 rfl 3 rfl ?_
      refine z_iload_n C.1 dX7_work_40 rfl 1 rfl ?_
      refine k_X7_workArgument C mM_X7_338 hw (by decide) (Nat.le_of_ble_eq_true rfl) dX7_work_41 (fun u51 hw => ?_)
      refine z_goto (tgt := 320) C.1 dX7_work_44 (by decide) ?_
      exact hR _ _ _ dX7_work_320 hw
  · replace hw := hw.1 c4
    refine z_aload_n C.1 dX7_work_18 rfl 2 rfl ?_
    refine z_iload_n C.1 dX7_work_19 rfl 3 rfl ?_
    refine z_aload_n C.1 dX7_work_20 rfl 2 rfl ?_
    refine gM_0_signs C mF_X7_26 dX7_work_21 ?_
    refine z_iload_n C.1 dX7_work_24 rfl 1 rfl ?_
    refine lM_6 C hw.1 dX7_work_25 ?_
    replace hw := hw.2
    refine z_iconst (v := (-1)) C.1 dX7_work_26 (by decide) ?_
    refine k_X7_know C mM_X7_294 hw (by decide) (Nat.le_of_ble_eq_true rfl) dX7_work_27 (fun u52 hw => ?_)
    refine z_goto (tgt := 320) C.1 dX7_work_30 (by decide) ?_
    exact hR _ _ _ dX7_work_320 hw
theorem c_X7_work {l : Launch} {D : va_G} {A : Nat → Prop} {ad : Nat → Nat} {cs : Nat → ClassId} (hD : ∀ u : St, va_D A (wM ad cs u)) (u : St) (x1 : Int32) (post : St → Prop) (hw : wp_X7_work u x1 post) : MV (ad 90, ad 91) l yX7_work cX7_work 6 none (rmm 3 76) D (tysM cs) A (wM ad cs) u [.ref (ad 0), .int x1] post :=
  met_v (by decide) (Nat.le_of_ble_eq_true rfl) (fun X C _ _ ht hA hn hsg hR => z_X7_work ⟨C, ht, fun u => by rw [hA]; exact hD u, hsg⟩ hn hR u x1 hw)
theorem k_X7_work {X : XX} {ad : Nat → Nat} {cs : Nat → ClassId} {cc : ByteArray} {own : String} {fr lo pc : Nat} {lv : List (Nat × Value)} {st : List Value} {u : St} (C : CxM X ad cs cc own fr lo) {idx : Nat} {x1 : Int32} {P : St → Prop} (hlink : Cond.methodLink own idx yX7_work ∈ W0) (hw : wp_X7_work u x1 P) (hr : 3 + 1 ≤ fr ∧ 8 + (6 + 11) + 76 ≤ lo) (hst : (st.map fun v => v.category).sum ≤ 8) (hdg : decode cc pc = .ok (.invokevirtual idx, 3)) (k : ∀ (u2 : St), P u2 → Z X (wM ad cs u2) (pc + 3) lv st) : Z X (wM ad cs u) pc lv (.int x1 :: .ref (ad 0) :: st) :=
  z_callVv (wf := wM ad cs) (As := [.int x1]) (rest := st) C.1 1 (q0 := 0) mI_X7_work mS_X7_work rfl rfl (by rw [C.2.1, C.2.2.2]; exact c_X7_work C.2.2.1 u x1 P hw) mC_X7_work mZ_X7 (by decide +kernel) rfl hlink hr hst hdg k

def wp_X7_tell_223 (K41 : St → Int32 → Prop) (u : St) (x1 : Int32) (post : St → Prop) : Prop :=
  nm (x1 + 1) (fun v26 : Int32 => K41 u v26)
set_option maxHeartbeats 4000000 in
set_option maxRecDepth 20000 in
theorem z_X7_tell_223 {X : XX} {ad : Nat → Nat} {cs : Nat → ClassId} {post : St → Prop} (C : CxM X ad cs cX7_tell RX7 1 21) (hn : xnL X = 4) (hR : rtV X cX7_tell (wM ad cs) post) {K41 : St → Int32 → Prop} (hK41 : ∀ (u : St) (x1 : Int32), K41 u x1 → Z X (wM ad cs u) 41 [(0, .ref (ad 0)), (1, .int x1)] []) (u : St) (x1 : Int32) (hw : wp_X7_tell_223 K41 u x1 post) : Z X (wM ad cs u) 223 [(0, .ref (ad 0)), (1, .int x1)] [] := by
  unfold wp_X7_tell_223 at hw
  obtain ⟨v26, ev26⟩ : ∃ z : Int32, z = x1 + 1 := ⟨_, rfl⟩
  replace hw := hw v26 ev26
  refine z_iinc (v := v26) (lv' := [(1, .int v26), (0, .ref (ad 0))]) C.1 (j := 1) dX7_tell_223 rfl (by rw [ev26]; rfl) (by rw [hn]; decide) rfl ?_
  refine z_goto (tgt := 41) C.1 dX7_tell_226 (by decide) ?_
  refine z_lv [1, 0] rfl ?_
  exact hK41 _ _ hw
def wp_X7_tell_215 (K41 : St → Int32 → Prop) (K154 : St → Int32 → Int32 → Int32 → Prop) (u : St) (x1 : Int32) (x2 : Int32) (x3 : Int32) (y0 : Int32) (y1 : Int32) (y2 : Int32) (post : St → Prop) : Prop :=
  (vp_in y2 4 ∧ nm (sA u 33 (ix y2) (y1 + y0)) (fun u24 : St => nm (x3 + 1) (fun v25 : Int32 => K154 u24 x1 x2 v25)))
set_option maxHeartbeats 4000000 in
set_option maxRecDepth 20000 in
theorem z_X7_tell_215 {X : XX} {ad : Nat → Nat} {cs : Nat → ClassId} {post : St → Prop} (C : CxM X ad cs cX7_tell RX7 1 21) (hn : xnL X = 4) (hR : rtV X cX7_tell (wM ad cs) post) {K41 : St → Int32 → Prop} (hK41 : ∀ (u : St) (x1 : Int32), K41 u x1 → Z X (wM ad cs u) 41 [(0, .ref (ad 0)), (1, .int x1)] []) {K154 : St → Int32 → Int32 → Int32 → Prop} (hK154 : ∀ (u : St) (x1 : Int32) (x2 : Int32) (x3 : Int32), K154 u x1 x2 x3 → Z X (wM ad cs u) 154 [(0, .ref (ad 0)), (1, .int x1), (2, .int x2), (3, .int x3)] []) (u : St) (x1 : Int32) (x2 : Int32) (x3 : Int32) (y0 : Int32) (y1 : Int32) (y2 : Int32) (hw : wp_X7_tell_215 K41 K154 u x1 x2 x3 y0 y1 y2 post) : Z X (wM ad cs u) 215 [(0, .ref (ad 0)), (1, .int x1), (2, .int x2), (3, .int x3)] [.int y0, .int y1, .int y2, .ref (ad 33)] := by
  unfold wp_X7_tell_215 at hw
  refine z_iadd C.1 dX7_tell_215 ?_
  refine sM_33 C hw.1 dX7_tell_216 (fun u24 eu24 => ?_)
  replace hw := hw.2 u24 eu24
  obtain ⟨v25, ev25⟩ : ∃ z : Int32, z = x3 + 1 := ⟨_, rfl⟩
  replace hw := hw v25 ev25
  refine z_iinc (v := v25) (lv' := [(3, .int v25), (0, .ref (ad 0)), (1, .int x1), (2, .int x2)]) C.1 (j := 3) dX7_tell_217 rfl (by rw [ev25]; rfl) (by rw [hn]; decide) rfl ?_
  refine z_goto (tgt := 154) C.1 dX7_tell_220 (by decide) ?_
  refine z_lv [1, 2, 3, 0] rfl ?_
  exact hK154 _ _ _ _ hw
def wp_X7_tell_214 (K41 : St → Int32 → Prop) (K154 : St → Int32 → Int32 → Int32 → Prop) (u : St) (x1 : Int32) (x2 : Int32) (x3 : Int32) (y0 : Int32) (y1 : Int32) (post : St → Prop) : Prop :=
  wp_X7_tell_215 K41 K154 u x1 x2 x3 0 y0 y1 post
set_option maxHeartbeats 4000000 in
set_option maxRecDepth 20000 in
theorem z_X7_tell_214 {X : XX} {ad : Nat → Nat} {cs : Nat → ClassId} {post : St → Prop} (C : CxM X ad cs cX7_tell RX7 1 21) (hn : xnL X = 4) (hR : rtV X cX7_tell (wM ad cs) post) {K41 : St → Int32 → Prop} (hK41 : ∀ (u : St) (x1 : Int32), K41 u x1 → Z X (wM ad cs u) 41 [(0, .ref (ad 0)), (1, .int x1)] []) {K154 : St → Int32 → Int32 → Int32 → Prop} (hK154 : ∀ (u : St) (x1 : Int32) (x2 : Int32) (x3 : Int32), K154 u x1 x2 x3 → Z X (wM ad cs u) 154 [(0, .ref (ad 0)), (1, .int x1), (2, .int x2), (3, .int x3)] []) (u : St) (x1 : Int32) (x2 : Int32) (x3 : Int32) (y0 : Int32) (y1 : Int32) (hw : wp_X7_tell_214 K41 K154 u x1 x2 x3 y0 y1 post) : Z X (wM ad cs u) 214 [(0, .ref (ad 0)), (1, .int x1), (2, .int x2), (3, .int x3)] [.int y0, .int y1, .ref (ad 33)] := by
  unfold wp_X7_tell_214 at hw
  refine z_iconst (v := 0) C.1 dX7_tell_214 (by decide) ?_
  refine z_lv [0, 1, 2, 3] rfl ?_
  exact z_X7_tell_215 C hn hR hK41 hK154 _ _ _ _ _ _ _ hw
def wp_X7_tell_154s (K41 : St → Int32 → Prop) (K154 : St → Int32 → Int32 → Int32 → Prop) (u : St) (x1 : Int32) (x2 : Int32) (x3 : Int32) (post : St → Prop) : Prop :=
  (vp_in x1 18000 ∧ br ((gA u 32 (ix x1)) ≤ x3) (wp_X7_tell_223 K41 u x1 post) (br (x2 = 0) (wp_X7_tell_223 K41 u x1 post) ((vp_in 2 4 ∧ wp_X7_partOf u x1 (fun (r19 : Int32) (u18 : St) => (vp_in r19 1440 ∧ br ((gA u18 5 (ix r19)) = 9) ((vp_in x1 18000 ∧ wp_X7_rootOf u18 ((gA u18 31 (ix x1)) + x3) (fun (r22 : Int32) (u21 : St) => (vp_in r22 18000 ∧ br ((gA u21 28 (ix r22)) = 0) (wp_X7_tell_214 K41 K154 u21 x1 x2 x3 (gA u 33 (ix 2)) 2 post) (wp_X7_tell_215 K41 K154 u21 x1 x2 x3 1 (gA u 33 (ix 2)) 2 post))))) (wp_X7_tell_214 K41 K154 u18 x1 x2 x3 (gA u 33 (ix 2)) 2 post)))))))
def wp_X7_tell_154 (K41 : St → Int32 → Prop) (post : St → Prop) : Nat → St → Int32 → Int32 → Int32 → Prop
  | 0 => fun _ _ _ _ => False
  | n + 1 => fun u x1 x2 x3 => wp_X7_tell_154s K41 (wp_X7_tell_154 K41 post n) u x1 x2 x3 post
set_option maxHeartbeats 4000000 in
set_option maxRecDepth 20000 in
theorem z_X7_tell_154s {X : XX} {ad : Nat → Nat} {cs : Nat → ClassId} {post : St → Prop} (C : CxM X ad cs cX7_tell RX7 1 21) (hn : xnL X = 4) (hR : rtV X cX7_tell (wM ad cs) post) {K41 : St → Int32 → Prop} (hK41 : ∀ (u : St) (x1 : Int32), K41 u x1 → Z X (wM ad cs u) 41 [(0, .ref (ad 0)), (1, .int x1)] []) {K154 : St → Int32 → Int32 → Int32 → Prop} (hK154 : ∀ (u : St) (x1 : Int32) (x2 : Int32) (x3 : Int32), K154 u x1 x2 x3 → Z X (wM ad cs u) 154 [(0, .ref (ad 0)), (1, .int x1), (2, .int x2), (3, .int x3)] []) (u : St) (x1 : Int32) (x2 : Int32) (x3 : Int32) (hw : wp_X7_tell_154s K41 K154 u x1 x2 x3 post) : Z X (wM ad cs u) 154 [(0, .ref (ad 0)), (1, .int x1), (2, .int x2), (3, .int x3)] [] := by
  unfold wp_X7_tell_154s at hw
  refine z_iload_n C.1 dX7_tell_154 rfl 3 rfl ?_
  refine z_aload_n C.1 dX7_tell_155 rfl 0 rfl ?_
  refine gM_0_cellCounts C mF_X7_106 dX7_tell_156 ?_
  refine z_iload_n C.1 dX7_tell_159 rfl 1 rfl ?_
  refine lM_32 C hw.1 dX7_tell_160 ?_
  replace hw := hw.2
  refine z_icmp_ge (tgt := 223) C.1 dX7_tell_161 (by decide) (fun c16 => ?_) (fun c16 => ?_)
  · replace hw := hw.1 c16
    refine z_lv [0, 1] rfl ?_
    exact z_X7_tell_223 C hn hR hK41 _ _ hw
  · replace hw := hw.2 c16
    refine z_iload_n C.1 dX7_tell_164 rfl 2 rfl ?_
    refine z_if_eq (tgt := 223) C.1 dX7_tell_165 (by decide) (fun c17 => ?_) (fun c17 => ?_)
    · replace hw := hw.1 c17
      refine z_lv [0, 1] rfl ?_
      exact z_X7_tell_223 C hn hR hK41 _ _ hw
    · replace hw := hw.2 c17
      refine z_aload_n C.1 dX7_tell_168 rfl 0 rfl ?_
      refine gM_0_told C mF_X7_113 dX7_tell_169 ?_
      refine z_iconst (v := 2) C.1 dX7_tell_172 (by decide) ?_
      refine z_dup2 C.1 dX7_tell_173 rfl rfl ?_
      refine lM_33 C hw.1 dX7_tell_174 ?_
      replace hw := hw.2
      refine z_aload_n C.1 dX7_tell_175 rfl 0 rfl ?_
      refine gM_0_kinds C mF_X7_23 dX7_tell_176 ?_
      refine z_aload_n C.1 dX7_tell_179 rfl 0 rfl ?_
      refine z_iload_n C.1 dX7_tell_180 rfl 1 rfl ?_
      refine k_X7_partOf C mM_X7_317 hw (by decide) (Nat.le_of_ble_eq_true rfl) dX7_tell_181 (fun r19 u18 hw => ?_)
      refine lM_5 C hw.1 dX7_tell_184 ?_
      replace hw := hw.2
      refine z_bipush (v := 9) C.1 dX7_tell_185 (by decide) ?_
      refine z_icmp_ne (tgt := 214) C.1 dX7_tell_187 (by decide) (fun c20 => ?_) (fun c20 => ?_)
      · replace hw := hw.2 c20
        refine z_lv [0, 1, 2, 3] rfl ?_
        exact z_X7_tell_214 C hn hR hK41 hK154 _ _ _ _ _ _ hw
      · replace hw := hw.1 c20
        refine z_aload_n C.1 dX7_tell_190 rfl 0 rfl ?_
        refine gM_0_known C mF_X7_94 dX7_tell_191 ?_
        refine z_aload_n C.1 dX7_tell_194 rfl 0 rfl ?_
        refine z_aload_n C.1 dX7_tell_195 rfl 0 rfl ?_
        refine gM_0_made C mF_X7_103 dX7_tell_196 ?_
        refine z_iload_n C.1 dX7_tell_199 rfl 1 rfl ?_
        refine lM_31 C hw.1 dX7_tell_200 ?_
        replace hw := hw.2
        refine z_iload_n C.1 dX7_tell_201 rfl 3 rfl ?_
        refine z_iadd C.1 dX7_tell_202 ?_
        refine k_X7_rootOf C mM_X7_311 hw (by decide) (Nat.le_of_ble_eq_true rfl) dX7_tell_203 (fun r22 u21 hw => ?_)
        refine lM_28 C hw.1 dX7_tell_206 ?_
        replace hw := hw.2
        refine z_if_eq (tgt := 214) C.1 dX7_tell_207 (by decide) (fun c23 => ?_) (fun c23 => ?_)
        · replace hw := hw.1 c23
          refine z_lv [0, 1, 2, 3] rfl ?_
          exact z_X7_tell_214 C hn hR hK41 hK154 _ _ _ _ _ _ hw
        · replace hw := hw.2 c23
          refine z_iconst (v := 1) C.1 dX7_tell_210 (by decide) ?_
          refine z_goto (tgt := 215) C.1 dX7_tell_211 (by decide) ?_
          refine z_lv [0, 1, 2, 3] rfl ?_
          exact z_X7_tell_215 C hn hR hK41 hK154 _ _ _ _ _ _ _ hw
theorem z_X7_tell_154 {X : XX} {ad : Nat → Nat} {cs : Nat → ClassId} {post : St → Prop} (C : CxM X ad cs cX7_tell RX7 1 21) (hn : xnL X = 4) (hR : rtV X cX7_tell (wM ad cs) post) {K41 : St → Int32 → Prop} (hK41 : ∀ (u : St) (x1 : Int32), K41 u x1 → Z X (wM ad cs u) 41 [(0, .ref (ad 0)), (1, .int x1)] []) : ∀ (n : Nat) (u : St) (x1 : Int32) (x2 : Int32) (x3 : Int32), wp_X7_tell_154 K41 post n u x1 x2 x3 → Z X (wM ad cs u) 154 [(0, .ref (ad 0)), (1, .int x1), (2, .int x2), (3, .int x3)] []
  | 0, _, _, _, _, hw => absurd hw (fun h => h)
  | n + 1, u, x1, x2, x3, hw => z_X7_tell_154s C hn hR hK41 (z_X7_tell_154 C hn hR hK41 n) u x1 x2 x3 hw
def wp_X7_tell_150 (K41 : St → Int32 → Prop) (u : St) (x1 : Int32) (x2 : Int32) (y0 : Int32) (y1 : Int32) (y2 : Int32) (post : St → Prop) : Prop :=
  (vp_in y2 4 ∧ nm (sA u 33 (ix y2) (y1 + y0)) (fun u15 : St => ∃ n, wp_X7_tell_154 K41 post n u15 x1 x2 0))
set_option maxHeartbeats 4000000 in
set_option maxRecDepth 20000 in
theorem z_X7_tell_150 {X : XX} {ad : Nat → Nat} {cs : Nat → ClassId} {post : St → Prop} (C : CxM X ad cs cX7_tell RX7 1 21) (hn : xnL X = 4) (hR : rtV X cX7_tell (wM ad cs) post) {K41 : St → Int32 → Prop} (hK41 : ∀ (u : St) (x1 : Int32), K41 u x1 → Z X (wM ad cs u) 41 [(0, .ref (ad 0)), (1, .int x1)] []) (u : St) (x1 : Int32) (x2 : Int32) (y0 : Int32) (y1 : Int32) (y2 : Int32) (hw : wp_X7_tell_150 K41 u x1 x2 y0 y1 y2 post) : Z X (wM ad cs u) 150 [(0, .ref (ad 0)), (1, .int x1), (2, .int x2)] [.int y0, .int y1, .int y2, .ref (ad 33)] := by
  unfold wp_X7_tell_150 at hw
  refine z_iadd C.1 dX7_tell_150 ?_
  refine sM_33 C hw.1 dX7_tell_151 (fun u15 eu15 => ?_)
  replace hw := hw.2 u15 eu15
  refine z_iconst (v := 0) C.1 dX7_tell_152 (by decide) ?_
  refine z_istore_n (lv' := [(3, .int 0), (0, .ref (ad 0)), (1, .int x1), (2, .int x2)]) C.1 dX7_tell_153 rfl (by rw [hn]; decide) rfl ?_
  refine z_lv [1, 2, 3, 0] rfl ?_
  obtain ⟨n, hw⟩ := hw
  exact z_X7_tell_154 C hn hR hK41 n _ _ _ _ hw
def wp_X7_tell_149 (K41 : St → Int32 → Prop) (u : St) (x1 : Int32) (x2 : Int32) (y0 : Int32) (y1 : Int32) (post : St → Prop) : Prop :=
  wp_X7_tell_150 K41 u x1 x2 0 y0 y1 post
set_option maxHeartbeats 4000000 in
set_option maxRecDepth 20000 in
theorem z_X7_tell_149 {X : XX} {ad : Nat → Nat} {cs : Nat → ClassId} {post : St → Prop} (C : CxM X ad cs cX7_tell RX7 1 21) (hn : xnL X = 4) (hR : rtV X cX7_tell (wM ad cs) post) {K41 : St → Int32 → Prop} (hK41 : ∀ (u : St) (x1 : Int32), K41 u x1 → Z X (wM ad cs u) 41 [(0, .ref (ad 0)), (1, .int x1)] []) (u : St) (x1 : Int32) (x2 : Int32) (y0 : Int32) (y1 : Int32) (hw : wp_X7_tell_149 K41 u x1 x2 y0 y1 post) : Z X (wM ad cs u) 149 [(0, .ref (ad 0)), (1, .int x1), (2, .int x2)] [.int y0, .int y1, .ref (ad 33)] := by
  unfold wp_X7_tell_149 at hw
  refine z_iconst (v := 0) C.1 dX7_tell_149 (by decide) ?_
  refine z_lv [0, 1, 2] rfl ?_
  exact z_X7_tell_150 C hn hR hK41 _ _ _ _ _ _ hw
def wp_X7_tell_112 (K41 : St → Int32 → Prop) (u : St) (x1 : Int32) (x2 : Int32) (y0 : Int32) (y1 : Int32) (y2 : Int32) (post : St → Prop) : Prop :=
  (vp_in y2 4 ∧ nm (sA u 33 (ix y2) (y1 + y0)) (fun u10 : St => (vp_in 3 4 ∧ br (x2 = 0) (wp_X7_tell_149 K41 u10 x1 x2 (gA u10 33 (ix 3)) 3 post) (wp_X7_partOf u10 x1 (fun (r13 : Int32) (u12 : St) => (vp_in r13 1440 ∧ br ((gA u12 5 (ix r13)) = 9) ((vp_in x1 18000 ∧ wp_X7_tell_150 K41 u12 x1 x2 (gA u12 32 (ix x1)) (gA u10 33 (ix 3)) 3 post)) (wp_X7_tell_149 K41 u12 x1 x2 (gA u10 33 (ix 3)) 3 post)))))))
set_option maxHeartbeats 4000000 in
set_option maxRecDepth 20000 in
theorem z_X7_tell_112 {X : XX} {ad : Nat → Nat} {cs : Nat → ClassId} {post : St → Prop} (C : CxM X ad cs cX7_tell RX7 1 21) (hn : xnL X = 4) (hR : rtV X cX7_tell (wM ad cs) post) {K41 : St → Int32 → Prop} (hK41 : ∀ (u : St) (x1 : Int32), K41 u x1 → Z X (wM ad cs u) 41 [(0, .ref (ad 0)), (1, .int x1)] []) (u : St) (x1 : Int32) (x2 : Int32) (y0 : Int32) (y1 : Int32) (y2 : Int32) (hw : wp_X7_tell_112 K41 u x1 x2 y0 y1 y2 post) : Z X (wM ad cs u) 112 [(0, .ref (ad 0)), (1, .int x1), (2, .int x2)] [.int y0, .int y1, .int y2, .ref (ad 33)] := by
  unfold wp_X7_tell_112 at hw
  refine z_iadd C.1 dX7_tell_112 ?_
  refine sM_33 C hw.1 dX7_tell_113 (fun u10 eu10 => ?_)
  replace hw := hw.2 u10 eu10
  refine z_aload_n C.1 dX7_tell_114 rfl 0 rfl ?_
  refine gM_0_told C mF_X7_113 dX7_tell_115 ?_
  refine z_iconst (v := 3) C.1 dX7_tell_118 (by decide) ?_
  refine z_dup2 C.1 dX7_tell_119 rfl rfl ?_
  refine lM_33 C hw.1 dX7_tell_120 ?_
  replace hw := hw.2
  refine z_iload_n C.1 dX7_tell_121 rfl 2 rfl ?_
  refine z_if_eq (tgt := 149) C.1 dX7_tell_122 (by decide) (fun c11 => ?_) (fun c11 => ?_)
  · replace hw := hw.1 c11
    refine z_lv [0, 1, 2] rfl ?_
    exact z_X7_tell_149 C hn hR hK41 _ _ _ _ _ hw
  · replace hw := hw.2 c11
    refine z_aload_n C.1 dX7_tell_125 rfl 0 rfl ?_
    refine gM_0_kinds C mF_X7_23 dX7_tell_126 ?_
    refine z_aload_n C.1 dX7_tell_129 rfl 0 rfl ?_
    refine z_iload_n C.1 dX7_tell_130 rfl 1 rfl ?_
    refine k_X7_partOf C mM_X7_317 hw (by decide) (Nat.le_of_ble_eq_true rfl) dX7_tell_131 (fun r13 u12 hw => ?_)
    refine lM_5 C hw.1 dX7_tell_134 ?_
    replace hw := hw.2
    refine z_bipush (v := 9) C.1 dX7_tell_135 (by decide) ?_
    refine z_icmp_ne (tgt := 149) C.1 dX7_tell_137 (by decide) (fun c14 => ?_) (fun c14 => ?_)
    · replace hw := hw.2 c14
      refine z_lv [0, 1, 2] rfl ?_
      exact z_X7_tell_149 C hn hR hK41 _ _ _ _ _ hw
    · replace hw := hw.1 c14
      refine z_aload_n C.1 dX7_tell_140 rfl 0 rfl ?_
      refine gM_0_cellCounts C mF_X7_106 dX7_tell_141 ?_
      refine z_iload_n C.1 dX7_tell_144 rfl 1 rfl ?_
      refine lM_32 C hw.1 dX7_tell_145 ?_
      replace hw := hw.2
      refine z_goto (tgt := 150) C.1 dX7_tell_146 (by decide) ?_
      refine z_lv [0, 1, 2] rfl ?_
      exact z_X7_tell_150 C hn hR hK41 _ _ _ _ _ _ hw
def wp_X7_tell_95 (K41 : St → Int32 → Prop) (u : St) (x1 : Int32) (y0 : Int32) (post : St → Prop) : Prop :=
  (vp_in 1 4 ∧ br (y0 = 0) (wp_X7_tell_112 K41 u x1 y0 0 (gA u 33 (ix 1)) 1 post) (wp_X7_tell_112 K41 u x1 y0 1 (gA u 33 (ix 1)) 1 post))
set_option maxHeartbeats 4000000 in
set_option maxRecDepth 20000 in
theorem z_X7_tell_95 {X : XX} {ad : Nat → Nat} {cs : Nat → ClassId} {post : St → Prop} (C : CxM X ad cs cX7_tell RX7 1 21) (hn : xnL X = 4) (hR : rtV X cX7_tell (wM ad cs) post) {K41 : St → Int32 → Prop} (hK41 : ∀ (u : St) (x1 : Int32), K41 u x1 → Z X (wM ad cs u) 41 [(0, .ref (ad 0)), (1, .int x1)] []) (u : St) (x1 : Int32) (y0 : Int32) (hw : wp_X7_tell_95 K41 u x1 y0 post) : Z X (wM ad cs u) 95 [(0, .ref (ad 0)), (1, .int x1)] [.int y0] := by
  unfold wp_X7_tell_95 at hw
  refine z_istore_n (lv' := [(2, .int y0), (0, .ref (ad 0)), (1, .int x1)]) C.1 dX7_tell_95 rfl (by rw [hn]; decide) rfl ?_
  refine z_aload_n C.1 dX7_tell_96 rfl 1 rfl ?_
  refine gM_0_told C mF_X7_113 dX7_tell_97 ?_
  refine z_iconst (v := 1) C.1 dX7_tell_100 (by decide) ?_
  refine z_dup2 C.1 dX7_tell_101 rfl rfl ?_
  refine lM_33 C hw.1 dX7_tell_102 ?_
  replace hw := hw.2
  refine z_iload_n C.1 dX7_tell_103 rfl 0 rfl ?_
  refine z_if_eq (tgt := 111) C.1 dX7_tell_104 (by decide) (fun c9 => ?_) (fun c9 => ?_)
  · replace hw := hw.1 c9
    refine z_iconst (v := 0) C.1 dX7_tell_111 (by decide) ?_
    refine z_lv [1, 2, 0] rfl ?_
    exact z_X7_tell_112 C hn hR hK41 _ _ _ _ _ _ hw
  · replace hw := hw.2 c9
    refine z_iconst (v := 1) C.1 dX7_tell_107 (by decide) ?_
    refine z_goto (tgt := 112) C.1 dX7_tell_108 (by decide) ?_
    refine z_lv [1, 2, 0] rfl ?_
    exact z_X7_tell_112 C hn hR hK41 _ _ _ _ _ _ hw
def wp_X7_tell_94 (K41 : St → Int32 → Prop) (u : St) (x1 : Int32) (post : St → Prop) : Prop :=
  wp_X7_tell_95 K41 u x1 0 post
set_option maxHeartbeats 4000000 in
set_option maxRecDepth 20000 in
theorem z_X7_tell_94 {X : XX} {ad : Nat → Nat} {cs : Nat → ClassId} {post : St → Prop} (C : CxM X ad cs cX7_tell RX7 1 21) (hn : xnL X = 4) (hR : rtV X cX7_tell (wM ad cs) post) {K41 : St → Int32 → Prop} (hK41 : ∀ (u : St) (x1 : Int32), K41 u x1 → Z X (wM ad cs u) 41 [(0, .ref (ad 0)), (1, .int x1)] []) (u : St) (x1 : Int32) (hw : wp_X7_tell_94 K41 u x1 post) : Z X (wM ad cs u) 94 [(0, .ref (ad 0)), (1, .int x1)] [] := by
  unfold wp_X7_tell_94 at hw
  refine z_iconst (v := 0) C.1 dX7_tell_94 (by decide) ?_
  refine z_lv [0, 1] rfl ?_
  exact z_X7_tell_95 C hn hR hK41 _ _ _ hw
def wp_X7_tell_41s (K41 : St → Int32 → Prop) (u : St) (x1 : Int32) (post : St → Prop) : Prop :=
  br ((60 * (gI u 15)) ≤ x1) (post u) ((vp_in (x1 / 60) 300 ∧ (vp_in ((12 * (gI u 2)) + (gA u 23 (ix (x1 / 60)))) 24 ∧ br ((gA u 3 (ix ((12 * (gI u 2)) + (gA u 23 (ix (x1 / 60)))))) ≤ (x1 - x1 / 60 * 60)) (wp_X7_tell_94 K41 u x1 post) ((vp_in x1 18000 ∧ br ((gA u 28 (ix x1)) = 0) (wp_X7_tell_94 K41 u x1 post) (wp_X7_tell_95 K41 u x1 1 post))))))
def wp_X7_tell_41 (post : St → Prop) : Nat → St → Int32 → Prop
  | 0 => fun _ _ => False
  | n + 1 => fun u x1 => wp_X7_tell_41s (wp_X7_tell_41 post n) u x1 post
set_option maxHeartbeats 4000000 in
set_option maxRecDepth 20000 in
theorem z_X7_tell_41s {X : XX} {ad : Nat → Nat} {cs : Nat → ClassId} {post : St → Prop} (C : CxM X ad cs cX7_tell RX7 1 21) (hn : xnL X = 4) (hR : rtV X cX7_tell (wM ad cs) post) {K41 : St → Int32 → Prop} (hK41 : ∀ (u : St) (x1 : Int32), K41 u x1 → Z X (wM ad cs u) 41 [(0, .ref (ad 0)), (1, .int x1)] []) (u : St) (x1 : Int32) (hw : wp_X7_tell_41s K41 u x1 post) : Z X (wM ad cs u) 41 [(0, .ref (ad 0)), (1, .int x1)] [] := by
  unfold wp_X7_tell_41s at hw
  refine z_iload_n C.1 dX7_tell_41 rfl 1 rfl ?_
  refine z_bipush (v := 60) C.1 dX7_tell_42 (by decide) ?_
  refine z_aload_n C.1 dX7_tell_44 rfl 0 rfl ?_
  refine gM_0_calls C mF_X7_298 dX7_tell_45 ?_
  refine z_imul C.1 dX7_tell_48 ?_
  refine z_icmp_ge (tgt := 229) C.1 dX7_tell_49 (by decide) (fun c6 => ?_) (fun c6 => ?_)
  · replace hw := hw.1 c6
    exact hR _ _ _ dX7_tell_229 hw
  · replace hw := hw.2 c6
    refine z_iload_n C.1 dX7_tell_52 rfl 1 rfl ?_
    refine z_bipush (v := 60) C.1 dX7_tell_53 (by decide) ?_
    refine z_irem C.1 dX7_tell_55 (by decide) ?_
    refine z_aload_n C.1 dX7_tell_56 rfl 0 rfl ?_
    refine gM_0_partCounts C mF_X7_17 dX7_tell_57 ?_
    refine z_bipush (v := 12) C.1 dX7_tell_60 (by decide) ?_
    refine z_aload_n C.1 dX7_tell_62 rfl 0 rfl ?_
    refine gM_0_bank C mF_X7_182 dX7_tell_63 ?_
    refine z_imul C.1 dX7_tell_66 ?_
    refine z_aload_n C.1 dX7_tell_67 rfl 0 rfl ?_
    refine gM_0_callDefinitions C mF_X7_78 dX7_tell_68 ?_
    refine z_iload_n C.1 dX7_tell_71 rfl 1 rfl ?_
    refine z_bipush (v := 60) C.1 dX7_tell_72 (by decide) ?_
    refine z_idiv C.1 dX7_tell_74 (by decide) ?_
    refine lM_23 C hw.1 dX7_tell_75 ?_
    replace hw := hw.2
    refine z_iadd C.1 dX7_tell_76 ?_
    refine lM_3 C hw.1 dX7_tell_77 ?_
    replace hw := hw.2
    refine z_icmp_ge (tgt := 94) C.1 dX7_tell_78 (by decide) (fun c7 => ?_) (fun c7 => ?_)
    · replace hw := hw.1 c7
      refine z_lv [0, 1] rfl ?_
      exact z_X7_tell_94 C hn hR hK41 _ _ hw
    · replace hw := hw.2 c7
      refine z_aload_n C.1 dX7_tell_81 rfl 0 rfl ?_
      refine gM_0_known C mF_X7_94 dX7_tell_82 ?_
      refine z_iload_n C.1 dX7_tell_85 rfl 1 rfl ?_
      refine lM_28 C hw.1 dX7_tell_86 ?_
      replace hw := hw.2
      refine z_if_eq (tgt := 94) C.1 dX7_tell_87 (by decide) (fun c8 => ?_) (fun c8 => ?_)
      · replace hw := hw.1 c8
        refine z_lv [0, 1] rfl ?_
        exact z_X7_tell_94 C hn hR hK41 _ _ hw
      · replace hw := hw.2 c8
        refine z_iconst (v := 1) C.1 dX7_tell_90 (by decide) ?_
        refine z_goto (tgt := 95) C.1 dX7_tell_91 (by decide) ?_
        refine z_lv [0, 1] rfl ?_
        exact z_X7_tell_95 C hn hR hK41 _ _ _ hw
theorem z_X7_tell_41 {X : XX} {ad : Nat → Nat} {cs : Nat → ClassId} {post : St → Prop} (C : CxM X ad cs cX7_tell RX7 1 21) (hn : xnL X = 4) (hR : rtV X cX7_tell (wM ad cs) post) : ∀ (n : Nat) (u : St) (x1 : Int32), wp_X7_tell_41 post n u x1 → Z X (wM ad cs u) 41 [(0, .ref (ad 0)), (1, .int x1)] []
  | 0, _, _, hw => absurd hw (fun h => h)
  | n + 1, u, x1, hw => z_X7_tell_41s C hn hR (z_X7_tell_41 C hn hR n) u x1 hw
def wp_X7_tell_2s (K2 : St → Int32 → Prop) (u : St) (x1 : Int32) (post : St → Prop) : Prop :=
  br (4 ≤ x1) (br ((gI u 19) = 2) (post u) ((vp_in 0 4 ∧ nm (sA u 33 (ix 0) (gI u 15)) (fun u3 : St => ∃ n, wp_X7_tell_41 post n u3 0)))) ((vp_in x1 4 ∧ nm (sA u 33 (ix x1) 0) (fun u4 : St => nm (x1 + 1) (fun v5 : Int32 => K2 u4 v5))))
def wp_X7_tell_2 (post : St → Prop) : Nat → St → Int32 → Prop
  | 0 => fun _ _ => False
  | n + 1 => fun u x1 => wp_X7_tell_2s (wp_X7_tell_2 post n) u x1 post
set_option maxHeartbeats 4000000 in
set_option maxRecDepth 20000 in
theorem z_X7_tell_2s {X : XX} {ad : Nat → Nat} {cs : Nat → ClassId} {post : St → Prop} (C : CxM X ad cs cX7_tell RX7 1 21) (hn : xnL X = 4) (hR : rtV X cX7_tell (wM ad cs) post) {K2 : St → Int32 → Prop} (hK2 : ∀ (u : St) (x1 : Int32), K2 u x1 → Z X (wM ad cs u) 2 [(0, .ref (ad 0)), (1, .int x1)] []) (u : St) (x1 : Int32) (hw : wp_X7_tell_2s K2 u x1 post) : Z X (wM ad cs u) 2 [(0, .ref (ad 0)), (1, .int x1)] [] := by
  unfold wp_X7_tell_2s at hw
  refine z_iload_n C.1 dX7_tell_2 rfl 1 rfl ?_
  refine z_iconst (v := 4) C.1 dX7_tell_3 (by decide) ?_
  refine z_icmp_ge (tgt := 20) C.1 dX7_tell_4 (by decide) (fun c1 => ?_) (fun c1 => ?_)
  · replace hw := hw.1 c1
    refine z_aload_n C.1 dX7_tell_20 rfl 0 rfl ?_
    refine gM_0_outcome C mF_X7_109 dX7_tell_21 ?_
    refine z_iconst (v := 2) C.1 dX7_tell_24 (by decide) ?_
    refine z_icmp_ne (tgt := 29) C.1 dX7_tell_25 (by decide) (fun c2 => ?_) (fun c2 => ?_)
    · replace hw := hw.2 c2
      refine z_aload_n C.1 dX7_tell_29 rfl 0 rfl ?_
      refine gM_0_told C mF_X7_113 dX7_tell_30 ?_
      refine z_iconst (v := 0) C.1 dX7_tell_33 (by decide) ?_
      refine z_aload_n C.1 dX7_tell_34 rfl 0 rfl ?_
      refine gM_0_calls C mF_X7_298 dX7_tell_35 ?_
      refine sM_33 C hw.1 dX7_tell_38 (fun u3 eu3 => ?_)
      replace hw := hw.2 u3 eu3
      refine z_iconst (v := 0) C.1 dX7_tell_39 (by decide) ?_
      refine z_istore_n (lv' := [(1, .int 0), (0, .ref (ad 0))]) C.1 dX7_tell_40 rfl (by rw [hn]; decide) rfl ?_
      refine z_lv [1, 0] rfl ?_
      obtain ⟨n, hw⟩ := hw
      exact z_X7_tell_41 C hn hR n _ _ hw
    · replace hw := hw.1 c2
      exact hR _ _ _ dX7_tell_28 hw
  · replace hw := hw.2 c1
    refine z_aload_n C.1 dX7_tell_7 rfl 0 rfl ?_
    refine gM_0_told C mF_X7_113 dX7_tell_8 ?_
    refine z_iload_n C.1 dX7_tell_11 rfl 1 rfl ?_
    refine z_iconst (v := 0) C.1 dX7_tell_12 (by decide) ?_
    refine sM_33 C hw.1 dX7_tell_13 (fun u4 eu4 => ?_)
    replace hw := hw.2 u4 eu4
    obtain ⟨v5, ev5⟩ : ∃ z : Int32, z = x1 + 1 := ⟨_, rfl⟩
    replace hw := hw v5 ev5
    refine z_iinc (v := v5) (lv' := [(1, .int v5), (0, .ref (ad 0))]) C.1 (j := 1) dX7_tell_14 rfl (by rw [ev5]; rfl) (by rw [hn]; decide) rfl ?_
    refine z_goto (tgt := 2) C.1 dX7_tell_17 (by decide) ?_
    refine z_lv [1, 0] rfl ?_
    exact hK2 _ _ hw
theorem z_X7_tell_2 {X : XX} {ad : Nat → Nat} {cs : Nat → ClassId} {post : St → Prop} (C : CxM X ad cs cX7_tell RX7 1 21) (hn : xnL X = 4) (hR : rtV X cX7_tell (wM ad cs) post) : ∀ (n : Nat) (u : St) (x1 : Int32), wp_X7_tell_2 post n u x1 → Z X (wM ad cs u) 2 [(0, .ref (ad 0)), (1, .int x1)] []
  | 0, _, _, hw => absurd hw (fun h => h)
  | n + 1, u, x1, hw => z_X7_tell_2s C hn hR (z_X7_tell_2 C hn hR n) u x1 hw
def wp_X7_tell (u : St) (post : St → Prop) : Prop :=
  ∃ n, wp_X7_tell_2 post n u 0
set_option maxHeartbeats 4000000 in
set_option maxRecDepth 20000 in
theorem z_X7_tell {X : XX} {ad : Nat → Nat} {cs : Nat → ClassId} {post : St → Prop} (C : CxM X ad cs cX7_tell RX7 1 21) (hn : xnL X = 4) (hR : rtV X cX7_tell (wM ad cs) post) (u : St) (hw : wp_X7_tell u post) : Z X (wM ad cs u) 0 [(0, .ref (ad 0))] [] := by
  unfold wp_X7_tell at hw
  refine z_iconst (v := 0) C.1 dX7_tell_0 (by decide) ?_
  refine z_istore_n (lv' := [(1, .int 0), (0, .ref (ad 0))]) C.1 dX7_tell_1 rfl (by rw [hn]; decide) rfl ?_
  refine z_lv [1, 0] rfl ?_
  obtain ⟨n, hw⟩ := hw
  exact z_X7_tell_2 C hn hR n _ _ hw
theorem c_X7_tell {l : Launch} {D : va_G} {A : Nat → Prop} {ad : Nat → Nat} {cs : Nat → ClassId} (hD : ∀ u : St, va_D A (wM ad cs u)) (u : St) (post : St → Prop) (hw : wp_X7_tell u post) : MV (ad 90, ad 91) l yX7_tell cX7_tell 4 none (rmm 1 21) D (tysM cs) A (wM ad cs) u [.ref (ad 0)] post :=
  met_v (by decide) (Nat.le_of_ble_eq_true rfl) (fun X C _ _ ht hA hn hsg hR => z_X7_tell ⟨C, ht, fun u => by rw [hA]; exact hD u, hsg⟩ hn hR u hw)
theorem k_X7_tell {X : XX} {ad : Nat → Nat} {cs : Nat → ClassId} {cc : ByteArray} {own : String} {fr lo pc : Nat} {lv : List (Nat × Value)} {st : List Value} {u : St} (C : CxM X ad cs cc own fr lo) {idx : Nat} {P : St → Prop} (hlink : Cond.methodLink own idx yX7_tell ∈ W0) (hw : wp_X7_tell u P) (hr : 1 + 1 ≤ fr ∧ 8 + (4 + 11) + 21 ≤ lo) (hst : (st.map fun v => v.category).sum ≤ 8) (hdg : decode cc pc = .ok (.invokevirtual idx, 3)) (k : ∀ (u2 : St), P u2 → Z X (wM ad cs u2) (pc + 3) lv st) : Z X (wM ad cs u) pc lv (.ref (ad 0) :: st) :=
  z_callVv (wf := wM ad cs) (As := []) (rest := st) C.1 0 (q0 := 0) mI_X7_tell mS_X7_tell rfl rfl (by rw [C.2.1, C.2.2.2]; exact c_X7_tell C.2.2.1 u P hw) mC_X7_tell mZ_X7 (by decide +kernel) rfl hlink hr hst hdg k

def wp_X7_run_267 (u : St) (y0 : Int32) (post : Int32 → St → Prop) : Prop :=
  nm (sI u 20 y0) (fun u38 : St => wp_X7_tell u38 (fun (u39 : St) => post (gI u39 19) u39))
set_option maxHeartbeats 4000000 in
set_option maxRecDepth 20000 in
theorem z_X7_run_267 {X : XX} {ad : Nat → Nat} {cs : Nat → ClassId} {post : Int32 → St → Prop} (C : CxM X ad cs cX7_run RX7 4 101) (hn : xnL X = 8) (hR : rtI X cX7_run (wM ad cs) post) (u : St) (y0 : Int32) (hw : wp_X7_run_267 u y0 post) : Z X (wM ad cs u) 267 [(0, .ref (ad 0))] [.int y0, .ref (ad 0)] := by
  unfold wp_X7_run_267 at hw
  refine pM_0_result C mF_X7_360 dX7_run_267 (fun u38 eu38 => ?_)
  replace hw := hw u38 eu38
  refine z_aload_n C.1 dX7_run_270 rfl 0 rfl ?_
  refine k_X7_tell C mM_X7_363 hw (by decide) (Nat.le_of_ble_eq_true rfl) dX7_run_271 (fun u39 hw => ?_)
  refine z_aload_n C.1 dX7_run_274 rfl 0 rfl ?_
  refine gM_0_outcome C mF_X7_109 dX7_run_275 ?_
  exact hR _ _ _ _ dX7_run_278 hw
def wp_X7_run_243 (u : St) (y0 : Int32) (post : Int32 → St → Prop) : Prop :=
  nm (sI u 19 y0) (fun u32 : St => br ((gI u32 19) = 0) (wp_X7_rootOf u32 0 (fun (r35 : Int32) (u34 : St) => wp_X7_numberOf u34 r35 (fun (r37 : Int32) (u36 : St) => wp_X7_run_267 u36 r37 post))) (wp_X7_run_267 u32 0 post))
set_option maxHeartbeats 4000000 in
set_option maxRecDepth 20000 in
theorem z_X7_run_243 {X : XX} {ad : Nat → Nat} {cs : Nat → ClassId} {post : Int32 → St → Prop} (C : CxM X ad cs cX7_run RX7 4 101) (hn : xnL X = 8) (hR : rtI X cX7_run (wM ad cs) post) (u : St) (y0 : Int32) (hw : wp_X7_run_243 u y0 post) : Z X (wM ad cs u) 243 [(0, .ref (ad 0))] [.int y0, .ref (ad 0)] := by
  unfold wp_X7_run_243 at hw
  refine pM_0_outcome C mF_X7_109 dX7_run_243 (fun u32 eu32 => ?_)
  replace hw := hw u32 eu32
  refine z_aload_n C.1 dX7_run_246 rfl 0 rfl ?_
  refine z_aload_n C.1 dX7_run_247 rfl 0 rfl ?_
  refine gM_0_outcome C mF_X7_109 dX7_run_248 ?_
  refine z_if_ne (tgt := 266) C.1 dX7_run_251 (by decide) (fun c33 => ?_) (fun c33 => ?_)
  · replace hw := hw.2 c33
    refine z_iconst (v := 0) C.1 dX7_run_266 (by decide) ?_
    refine z_lv [0] rfl ?_
    exact z_X7_run_267 C hn hR _ _ hw
  · replace hw := hw.1 c33
    refine z_aload_n C.1 dX7_run_254 rfl 0 rfl ?_
    refine z_aload_n C.1 dX7_run_255 rfl 0 rfl ?_
    refine z_iconst (v := 0) C.1 dX7_run_256 (by decide) ?_
    refine k_X7_rootOf C mM_X7_311 hw (by decide) (Nat.le_of_ble_eq_true rfl) dX7_run_257 (fun r35 u34 hw => ?_)
    refine k_X7_numberOf C mM_X7_335 hw (by decide) (Nat.le_of_ble_eq_true rfl) dX7_run_260 (fun r37 u36 hw => ?_)
    refine z_goto (tgt := 267) C.1 dX7_run_263 (by decide) ?_
    refine z_lv [0] rfl ?_
    exact z_X7_run_267 C hn hR _ _ hw
def wp_X7_run_213 (u : St) (post : Int32 → St → Prop) : Prop :=
  br ((gI u 17) = 0) (wp_X7_rootOf u 0 (fun (r30 : Int32) (u29 : St) => (vp_in r30 18000 ∧ br ((gA u29 28 (ix r30)) = 0) (wp_X7_run_243 u29 1 post) (wp_X7_run_243 u29 0 post)))) (wp_X7_run_243 u 2 post)
set_option maxHeartbeats 4000000 in
set_option maxRecDepth 20000 in
theorem z_X7_run_213 {X : XX} {ad : Nat → Nat} {cs : Nat → ClassId} {post : Int32 → St → Prop} (C : CxM X ad cs cX7_run RX7 4 101) (hn : xnL X = 8) (hR : rtI X cX7_run (wM ad cs) post) (u : St) (hw : wp_X7_run_213 u post) : Z X (wM ad cs u) 213 [(0, .ref (ad 0))] [] := by
  unfold wp_X7_run_213 at hw
  refine z_aload_n C.1 dX7_run_213 rfl 0 rfl ?_
  refine z_aload_n C.1 dX7_run_214 rfl 0 rfl ?_
  refine gM_0_over C mF_X7_304 dX7_run_215 ?_
  refine z_if_eq (tgt := 225) C.1 dX7_run_218 (by decide) (fun c28 => ?_) (fun c28 => ?_)
  · replace hw := hw.1 c28
    refine z_aload_n C.1 dX7_run_225 rfl 0 rfl ?_
    refine gM_0_known C mF_X7_94 dX7_run_226 ?_
    refine z_aload_n C.1 dX7_run_229 rfl 0 rfl ?_
    refine z_iconst (v := 0) C.1 dX7_run_230 (by decide) ?_
    refine k_X7_rootOf C mM_X7_311 hw (by decide) (Nat.le_of_ble_eq_true rfl) dX7_run_231 (fun r30 u29 hw => ?_)
    refine lM_28 C hw.1 dX7_run_234 ?_
    replace hw := hw.2
    refine z_if_eq (tgt := 242) C.1 dX7_run_235 (by decide) (fun c31 => ?_) (fun c31 => ?_)
    · replace hw := hw.1 c31
      refine z_iconst (v := 1) C.1 dX7_run_242 (by decide) ?_
      refine z_lv [0] rfl ?_
      exact z_X7_run_243 C hn hR _ _ hw
    · replace hw := hw.2 c31
      refine z_iconst (v := 0) C.1 dX7_run_238 (by decide) ?_
      refine z_goto (tgt := 243) C.1 dX7_run_239 (by decide) ?_
      refine z_lv [0] rfl ?_
      exact z_X7_run_243 C hn hR _ _ hw
  · replace hw := hw.2 c28
    refine z_iconst (v := 2) C.1 dX7_run_221 (by decide) ?_
    refine z_goto (tgt := 243) C.1 dX7_run_222 (by decide) ?_
    refine z_lv [0] rfl ?_
    exact z_X7_run_243 C hn hR _ _ hw
def wp_X7_run_210 (K85 : St → Prop) (u : St) (post : Int32 → St → Prop) : Prop :=
  K85 u
set_option maxHeartbeats 4000000 in
set_option maxRecDepth 20000 in
theorem z_X7_run_210 {X : XX} {ad : Nat → Nat} {cs : Nat → ClassId} {post : Int32 → St → Prop} (C : CxM X ad cs cX7_run RX7 4 101) (hn : xnL X = 8) (hR : rtI X cX7_run (wM ad cs) post) {K85 : St → Prop} (hK85 : ∀ (u : St), K85 u → Z X (wM ad cs u) 85 [(0, .ref (ad 0))] []) (u : St) (hw : wp_X7_run_210 K85 u post) : Z X (wM ad cs u) 210 [(0, .ref (ad 0))] [] := by
  unfold wp_X7_run_210 at hw
  refine z_goto (tgt := 85) C.1 dX7_run_210 (by decide) ?_
  refine z_lv [0] rfl ?_
  exact hK85 _ hw
def wp_X7_run_204 (K85 : St → Prop) (K107 : St → Int32 → Prop) (u : St) (x5 : Int32) (post : Int32 → St → Prop) : Prop :=
  nm (x5 + 1) (fun v27 : Int32 => K107 u v27)
set_option maxHeartbeats 4000000 in
set_option maxRecDepth 20000 in
theorem z_X7_run_204 {X : XX} {ad : Nat → Nat} {cs : Nat → ClassId} {post : Int32 → St → Prop} (C : CxM X ad cs cX7_run RX7 4 101) (hn : xnL X = 8) (hR : rtI X cX7_run (wM ad cs) post) {K85 : St → Prop} (hK85 : ∀ (u : St), K85 u → Z X (wM ad cs u) 85 [(0, .ref (ad 0))] []) {K107 : St → Int32 → Prop} (hK107 : ∀ (u : St) (x5 : Int32), K107 u x5 → Z X (wM ad cs u) 107 [(0, .ref (ad 0)), (5, .int x5)] []) (u : St) (x5 : Int32) (hw : wp_X7_run_204 K85 K107 u x5 post) : Z X (wM ad cs u) 204 [(0, .ref (ad 0)), (5, .int x5)] [] := by
  unfold wp_X7_run_204 at hw
  obtain ⟨v27, ev27⟩ : ∃ z : Int32, z = x5 + 1 := ⟨_, rfl⟩
  replace hw := hw v27 ev27
  refine z_iinc (v := v27) (lv' := [(5, .int v27), (0, .ref (ad 0))]) C.1 (j := 1) dX7_run_204 rfl (by rw [ev27]; rfl) (by rw [hn]; decide) rfl ?_
  refine z_goto (tgt := 107) C.1 dX7_run_207 (by decide) ?_
  refine z_lv [1, 0] rfl ?_
  exact hK107 _ _ hw
def wp_X7_run_198 (K85 : St → Prop) (K107 : St → Int32 → Prop) (K152 : St → Int32 → Int32 → Int32 → Prop) (u : St) (x5 : Int32) (x6 : Int32) (x7 : Int32) (post : Int32 → St → Prop) : Prop :=
  nm (x7 + 1) (fun v26 : Int32 => K152 u x5 x6 v26)
set_option maxHeartbeats 4000000 in
set_option maxRecDepth 20000 in
theorem z_X7_run_198 {X : XX} {ad : Nat → Nat} {cs : Nat → ClassId} {post : Int32 → St → Prop} (C : CxM X ad cs cX7_run RX7 4 101) (hn : xnL X = 8) (hR : rtI X cX7_run (wM ad cs) post) {K85 : St → Prop} (hK85 : ∀ (u : St), K85 u → Z X (wM ad cs u) 85 [(0, .ref (ad 0))] []) {K107 : St → Int32 → Prop} (hK107 : ∀ (u : St) (x5 : Int32), K107 u x5 → Z X (wM ad cs u) 107 [(0, .ref (ad 0)), (5, .int x5)] []) {K152 : St → Int32 → Int32 → Int32 → Prop} (hK152 : ∀ (u : St) (x5 : Int32) (x6 : Int32) (x7 : Int32), K152 u x5 x6 x7 → Z X (wM ad cs u) 152 [(0, .ref (ad 0)), (5, .int x5), (6, .int x6), (7, .int x7)] []) (u : St) (x5 : Int32) (x6 : Int32) (x7 : Int32) (hw : wp_X7_run_198 K85 K107 K152 u x5 x6 x7 post) : Z X (wM ad cs u) 198 [(0, .ref (ad 0)), (5, .int x5), (6, .int x6), (7, .int x7)] [] := by
  unfold wp_X7_run_198 at hw
  obtain ⟨v26, ev26⟩ : ∃ z : Int32, z = x7 + 1 := ⟨_, rfl⟩
  replace hw := hw v26 ev26
  refine z_iinc (v := v26) (lv' := [(7, .int v26), (0, .ref (ad 0)), (5, .int x5), (6, .int x6)]) C.1 (j := 3) dX7_run_198 rfl (by rw [ev26]; rfl) (by rw [hn]; decide) rfl ?_
  refine z_goto (tgt := 152) C.1 dX7_run_201 (by decide) ?_
  refine z_lv [1, 2, 3, 0] rfl ?_
  exact hK152 _ _ _ _ hw
def wp_X7_run_152s (K85 : St → Prop) (K107 : St → Int32 → Prop) (K152 : St → Int32 → Int32 → Int32 → Prop) (u : St) (x5 : Int32) (x6 : Int32) (x7 : Int32) (post : Int32 → St → Prop) : Prop :=
  br (((60 * x5) + x6) ≤ x7) (wp_X7_run_204 K85 K107 u x5 post) (br ((gI u 17) = 0) ((vp_in x7 18000 ∧ br ((gA u 27 (ix x7)) = 0) (wp_X7_run_198 K85 K107 K152 u x5 x6 x7 post) ((vp_in x7 18000 ∧ br ((gA u 28 (ix x7)) = 0) (wp_X7_work u x7 (fun (u25 : St) => wp_X7_run_198 K85 K107 K152 u25 x5 x6 x7 post)) (wp_X7_run_198 K85 K107 K152 u x5 x6 x7 post))))) (wp_X7_run_204 K85 K107 u x5 post))
def wp_X7_run_152 (K85 : St → Prop) (K107 : St → Int32 → Prop) (post : Int32 → St → Prop) : Nat → St → Int32 → Int32 → Int32 → Prop
  | 0 => fun _ _ _ _ => False
  | n + 1 => fun u x5 x6 x7 => wp_X7_run_152s K85 K107 (wp_X7_run_152 K85 K107 post n) u x5 x6 x7 post
set_option maxHeartbeats 4000000 in
set_option maxRecDepth 20000 in
theorem z_X7_run_152s {X : XX} {ad : Nat → Nat} {cs : Nat → ClassId} {post : Int32 → St → Prop} (C : CxM X ad cs cX7_run RX7 4 101) (hn : xnL X = 8) (hR : rtI X cX7_run (wM ad cs) post) {K85 : St → Prop} (hK85 : ∀ (u : St), K85 u → Z X (wM ad cs u) 85 [(0, .ref (ad 0))] []) {K107 : St → Int32 → Prop} (hK107 : ∀ (u : St) (x5 : Int32), K107 u x5 → Z X (wM ad cs u) 107 [(0, .ref (ad 0)), (5, .int x5)] []) {K152 : St → Int32 → Int32 → Int32 → Prop} (hK152 : ∀ (u : St) (x5 : Int32) (x6 : Int32) (x7 : Int32), K152 u x5 x6 x7 → Z X (wM ad cs u) 152 [(0, .ref (ad 0)), (5, .int x5), (6, .int x6), (7, .int x7)] []) (u : St) (x5 : Int32) (x6 : Int32) (x7 : Int32) (hw : wp_X7_run_152s K85 K107 K152 u x5 x6 x7 post) : Z X (wM ad cs u) 152 [(0, .ref (ad 0)), (5, .int x5), (6, .int x6), (7, .int x7)] [] := by
  unfold wp_X7_run_152s at hw
  refine z_iload C.1 dX7_run_152 3 rfl ?_
  refine z_bipush (v := 60) C.1 dX7_run_154 (by decide) ?_
  refine z_iload C.1 dX7_run_156 1 rfl ?_
  refine z_imul C.1 dX7_run_158 ?_
  refine z_iload C.1 dX7_run_159 2 rfl ?_
  refine z_iadd C.1 dX7_run_161 ?_
  refine z_icmp_ge (tgt := 204) C.1 dX7_run_162 (by decide) (fun c21 => ?_) (fun c21 => ?_)
  · replace hw := hw.1 c21
    refine z_lv [0, 1] rfl ?_
    exact z_X7_run_204 C hn hR hK85 hK107 _ _ hw
  · replace hw := hw.2 c21
    refine z_aload_n C.1 dX7_run_165 rfl 0 rfl ?_
    refine gM_0_over C mF_X7_304 dX7_run_166 ?_
    refine z_if_ne (tgt := 204) C.1 dX7_run_169 (by decide) (fun c22 => ?_) (fun c22 => ?_)
    · replace hw := hw.2 c22
      refine z_lv [0, 1] rfl ?_
      exact z_X7_run_204 C hn hR hK85 hK107 _ _ hw
    · replace hw := hw.1 c22
      refine z_aload_n C.1 dX7_run_172 rfl 0 rfl ?_
      refine gM_0_reached C mF_X7_90 dX7_run_173 ?_
      refine z_iload C.1 dX7_run_176 3 rfl ?_
      refine lM_27 C hw.1 dX7_run_178 ?_
      replace hw := hw.2
      refine z_if_eq (tgt := 198) C.1 dX7_run_179 (by decide) (fun c23 => ?_) (fun c23 => ?_)
      · replace hw := hw.1 c23
        refine z_lv [0, 1, 2, 3] rfl ?_
        exact z_X7_run_198 C hn hR hK85 hK107 hK152 _ _ _ _ hw
      · replace hw := hw.2 c23
        refine z_aload_n C.1 dX7_run_182 rfl 0 rfl ?_
        refine gM_0_known C mF_X7_94 dX7_run_183 ?_
        refine z_iload C.1 dX7_run_186 3 rfl ?_
        refine lM_28 C hw.1 dX7_run_188 ?_
        replace hw := hw.2
        refine z_if_ne (tgt := 198) C.1 dX7_run_189 (by decide) (fun c24 => ?_) (fun c24 => ?_)
        · replace hw := hw.2 c24
          refine z_lv [0, 1, 2, 3] rfl ?_
          exact z_X7_run_198 C hn hR hK85 hK107 hK152 _ _ _ _ hw
        · replace hw := hw.1 c24
          refine z_aload_n C.1 dX7_run_192 rfl 0 rfl ?_
          refine z_iload C.1 dX7_run_193 3 rfl ?_
          refine k_X7_work C mM_X7_357 hw (by decide) (Nat.le_of_ble_eq_true rfl) dX7_run_195 (fun u25 hw => ?_)
          refine z_lv [0, 1, 2, 3] rfl ?_
          exact z_X7_run_198 C hn hR hK85 hK107 hK152 _ _ _ _ hw
theorem z_X7_run_152 {X : XX} {ad : Nat → Nat} {cs : Nat → ClassId} {post : Int32 → St → Prop} (C : CxM X ad cs cX7_run RX7 4 101) (hn : xnL X = 8) (hR : rtI X cX7_run (wM ad cs) post) {K85 : St → Prop} (hK85 : ∀ (u : St), K85 u → Z X (wM ad cs u) 85 [(0, .ref (ad 0))] []) {K107 : St → Int32 → Prop} (hK107 : ∀ (u : St) (x5 : Int32), K107 u x5 → Z X (wM ad cs u) 107 [(0, .ref (ad 0)), (5, .int x5)] []) : ∀ (n : Nat) (u : St) (x5 : Int32) (x6 : Int32) (x7 : Int32), wp_X7_run_152 K85 K107 post n u x5 x6 x7 → Z X (wM ad cs u) 152 [(0, .ref (ad 0)), (5, .int x5), (6, .int x6), (7, .int x7)] []
  | 0, _, _, _, _, hw => absurd hw (fun h => h)
  | n + 1, u, x5, x6, x7, hw => z_X7_run_152s C hn hR hK85 hK107 (z_X7_run_152 C hn hR hK85 hK107 n) u x5 x6 x7 hw
def wp_X7_run_107s (K85 : St → Prop) (K107 : St → Int32 → Prop) (u : St) (x5 : Int32) (post : Int32 → St → Prop) : Prop :=
  br ((gI u 15) ≤ x5) (wp_X7_run_210 K85 u post) (br ((gI u 17) = 0) ((vp_in x5 300 ∧ (vp_in ((12 * (gI u 2)) + (gA u 23 (ix x5))) 24 ∧ nm (gA u 3 (ix ((12 * (gI u 2)) + (gA u 23 (ix x5))))) (fun v19 : Int32 => nm (60 * x5) (fun v20 : Int32 => ∃ n, wp_X7_run_152 K85 K107 post n u x5 v19 v20))))) (wp_X7_run_210 K85 u post))
def wp_X7_run_107 (K85 : St → Prop) (post : Int32 → St → Prop) : Nat → St → Int32 → Prop
  | 0 => fun _ _ => False
  | n + 1 => fun u x5 => wp_X7_run_107s K85 (wp_X7_run_107 K85 post n) u x5 post
set_option maxHeartbeats 4000000 in
set_option maxRecDepth 20000 in
theorem z_X7_run_107s {X : XX} {ad : Nat → Nat} {cs : Nat → ClassId} {post : Int32 → St → Prop} (C : CxM X ad cs cX7_run RX7 4 101) (hn : xnL X = 8) (hR : rtI X cX7_run (wM ad cs) post) {K85 : St → Prop} (hK85 : ∀ (u : St), K85 u → Z X (wM ad cs u) 85 [(0, .ref (ad 0))] []) {K107 : St → Int32 → Prop} (hK107 : ∀ (u : St) (x5 : Int32), K107 u x5 → Z X (wM ad cs u) 107 [(0, .ref (ad 0)), (5, .int x5)] []) (u : St) (x5 : Int32) (hw : wp_X7_run_107s K85 K107 u x5 post) : Z X (wM ad cs u) 107 [(0, .ref (ad 0)), (5, .int x5)] [] := by
  unfold wp_X7_run_107s at hw
  refine z_iload C.1 dX7_run_107 1 rfl ?_
  refine z_aload_n C.1 dX7_run_109 rfl 0 rfl ?_
  refine gM_0_calls C mF_X7_298 dX7_run_110 ?_
  refine z_icmp_ge (tgt := 210) C.1 dX7_run_113 (by decide) (fun c17 => ?_) (fun c17 => ?_)
  · replace hw := hw.1 c17
    refine z_lv [0] rfl ?_
    exact z_X7_run_210 C hn hR hK85 _ hw
  · replace hw := hw.2 c17
    refine z_aload_n C.1 dX7_run_116 rfl 0 rfl ?_
    refine gM_0_over C mF_X7_304 dX7_run_117 ?_
    refine z_if_ne (tgt := 210) C.1 dX7_run_120 (by decide) (fun c18 => ?_) (fun c18 => ?_)
    · replace hw := hw.2 c18
      refine z_lv [0] rfl ?_
      exact z_X7_run_210 C hn hR hK85 _ hw
    · replace hw := hw.1 c18
      refine z_aload_n C.1 dX7_run_123 rfl 0 rfl ?_
      refine gM_0_partCounts C mF_X7_17 dX7_run_124 ?_
      refine z_bipush (v := 12) C.1 dX7_run_127 (by decide) ?_
      refine z_aload_n C.1 dX7_run_129 rfl 0 rfl ?_
      refine gM_0_bank C mF_X7_182 dX7_run_130 ?_
      refine z_imul C.1 dX7_run_133 ?_
      refine z_aload_n C.1 dX7_run_134 rfl 0 rfl ?_
      refine gM_0_callDefinitions C mF_X7_78 dX7_run_135 ?_
      refine z_iload C.1 dX7_run_138 1 rfl ?_
      refine lM_23 C hw.1 dX7_run_140 ?_
      replace hw := hw.2
      refine z_iadd C.1 dX7_run_141 ?_
      refine lM_3 C hw.1 dX7_run_142 ?_
      replace hw := hw.2
      refine z_topi (fun v19 ev19 => ?_)
      replace hw := hw v19 ev19
      refine z_istore (lv' := [(6, .int v19), (0, .ref (ad 0)), (5, .int x5)]) C.1 dX7_run_143 (by rw [hn]; decide) rfl ?_
      refine z_bipush (v := 60) C.1 dX7_run_145 (by decide) ?_
      refine z_iload C.1 dX7_run_147 2 rfl ?_
      refine z_imul C.1 dX7_run_149 ?_
      refine z_topi (fun v20 ev20 => ?_)
      replace hw := hw v20 ev20
      refine z_istore (lv' := [(7, .int v20), (6, .int v19), (0, .ref (ad 0)), (5, .int x5)]) C.1 dX7_run_150 (by rw [hn]; decide) rfl ?_
      refine z_lv [2, 3, 1, 0] rfl ?_
      obtain ⟨n, hw⟩ := hw
      exact z_X7_run_152 C hn hR hK85 hK107 n _ _ _ _ hw
theorem z_X7_run_107 {X : XX} {ad : Nat → Nat} {cs : Nat → ClassId} {post : Int32 → St → Prop} (C : CxM X ad cs cX7_run RX7 4 101) (hn : xnL X = 8) (hR : rtI X cX7_run (wM ad cs) post) {K85 : St → Prop} (hK85 : ∀ (u : St), K85 u → Z X (wM ad cs u) 85 [(0, .ref (ad 0))] []) : ∀ (n : Nat) (u : St) (x5 : Int32), wp_X7_run_107 K85 post n u x5 → Z X (wM ad cs u) 107 [(0, .ref (ad 0)), (5, .int x5)] []
  | 0, _, _, hw => absurd hw (fun h => h)
  | n + 1, u, x5, hw => z_X7_run_107s C hn hR hK85 (z_X7_run_107 C hn hR hK85 n) u x5 hw
def wp_X7_run_85s (K85 : St → Prop) (u : St) (post : Int32 → St → Prop) : Prop :=
  br ((gI u 18) = 0) (wp_X7_run_213 u post) (br ((gI u 17) = 0) (nm (sI u 18 0) (fun u16 : St => ∃ n, wp_X7_run_107 K85 post n u16 0)) (wp_X7_run_213 u post))
def wp_X7_run_85 (post : Int32 → St → Prop) : Nat → St → Prop
  | 0 => fun _ => False
  | n + 1 => fun u => wp_X7_run_85s (wp_X7_run_85 post n) u post
set_option maxHeartbeats 4000000 in
set_option maxRecDepth 20000 in
theorem z_X7_run_85s {X : XX} {ad : Nat → Nat} {cs : Nat → ClassId} {post : Int32 → St → Prop} (C : CxM X ad cs cX7_run RX7 4 101) (hn : xnL X = 8) (hR : rtI X cX7_run (wM ad cs) post) {K85 : St → Prop} (hK85 : ∀ (u : St), K85 u → Z X (wM ad cs u) 85 [(0, .ref (ad 0))] []) (u : St) (hw : wp_X7_run_85s K85 u post) : Z X (wM ad cs u) 85 [(0, .ref (ad 0))] [] := by
  unfold wp_X7_run_85s at hw
  refine z_aload_n C.1 dX7_run_85 rfl 0 rfl ?_
  refine gM_0_changed C mF_X7_291 dX7_run_86 ?_
  refine z_if_eq (tgt := 213) C.1 dX7_run_89 (by decide) (fun c14 => ?_) (fun c14 => ?_)
  · replace hw := hw.1 c14
    refine z_lv [0] rfl ?_
    exact z_X7_run_213 C hn hR _ hw
  · replace hw := hw.2 c14
    refine z_aload_n C.1 dX7_run_92 rfl 0 rfl ?_
    refine gM_0_over C mF_X7_304 dX7_run_93 ?_
    refine z_if_ne (tgt := 213) C.1 dX7_run_96 (by decide) (fun c15 => ?_) (fun c15 => ?_)
    · replace hw := hw.2 c15
      refine z_lv [0] rfl ?_
      exact z_X7_run_213 C hn hR _ hw
    · replace hw := hw.1 c15
      refine z_aload_n C.1 dX7_run_99 rfl 0 rfl ?_
      refine z_iconst (v := 0) C.1 dX7_run_100 (by decide) ?_
      refine pM_0_changed C bz0 mF_X7_291 dX7_run_101 (fun u16 eu16 => ?_)
      replace hw := hw u16 eu16
      refine z_iconst (v := 0) C.1 dX7_run_104 (by decide) ?_
      refine z_istore (lv' := [(5, .int 0), (0, .ref (ad 0))]) C.1 dX7_run_105 (by rw [hn]; decide) rfl ?_
      refine z_lv [1, 0] rfl ?_
      obtain ⟨n, hw⟩ := hw
      exact z_X7_run_107 C hn hR hK85 n _ _ hw
theorem z_X7_run_85 {X : XX} {ad : Nat → Nat} {cs : Nat → ClassId} {post : Int32 → St → Prop} (C : CxM X ad cs cX7_run RX7 4 101) (hn : xnL X = 8) (hR : rtI X cX7_run (wM ad cs) post) : ∀ (n : Nat) (u : St), wp_X7_run_85 post n u → Z X (wM ad cs u) 85 [(0, .ref (ad 0))] []
  | 0, _, hw => absurd hw (fun h => h)
  | n + 1, u, hw => z_X7_run_85s C hn hR (z_X7_run_85 C hn hR n) u hw
def wp_X7_run_29 (u : St) (x1 : Int32) (x2 : Int32) (x3 : Int32) (y0 : Int32) (post : Int32 → St → Prop) : Prop :=
  nm (sI u 0 y0) (fun u4 : St => br ((gI u4 0) ≤ 0) (nm (sI u4 15 0) (fun u6 : St => nm (sI u6 16 x3) (fun u7 : St => nm (sI u7 17 0) (fun u8 : St => wp_X7_call u8 0 (fun (r10 : Int32) (u9 : St) => wp_X7_argument u9 0 0 (-1) x1 (-1) (fun (u11 : St) => wp_X7_argument u11 0 1 (-1) x2 (-1) (fun (u12 : St) => nm (sI u12 18 1) (fun u13 : St => ∃ n, wp_X7_run_85 post n u13)))))))) (post 0 u4))
set_option maxHeartbeats 4000000 in
set_option maxRecDepth 20000 in
theorem z_X7_run_29 {X : XX} {ad : Nat → Nat} {cs : Nat → ClassId} {post : Int32 → St → Prop} (C : CxM X ad cs cX7_run RX7 4 101) (hn : xnL X = 8) (hR : rtI X cX7_run (wM ad cs) post) (u : St) (x1 : Int32) (x2 : Int32) (x3 : Int32) (y0 : Int32) (hw : wp_X7_run_29 u x1 x2 x3 y0 post) : Z X (wM ad cs u) 29 [(0, .ref (ad 0)), (1, .int x1), (2, .int x2), (3, .int x3)] [.int y0, .ref (ad 0)] := by
  unfold wp_X7_run_29 at hw
  refine pM_0_code C mF_X7_116 dX7_run_29 (fun u4 eu4 => ?_)
  replace hw := hw u4 eu4
  refine z_aload_n C.1 dX7_run_32 rfl 0 rfl ?_
  refine gM_0_code C mF_X7_116 dX7_run_33 ?_
  refine z_if_le (tgt := 41) C.1 dX7_run_36 (by decide) (fun c5 => ?_) (fun c5 => ?_)
  · replace hw := hw.1 c5
    refine z_aload_n C.1 dX7_run_41 rfl 0 rfl ?_
    refine z_iconst (v := 0) C.1 dX7_run_42 (by decide) ?_
    refine pM_0_calls C mF_X7_298 dX7_run_43 (fun u6 eu6 => ?_)
    replace hw := hw u6 eu6
    refine z_aload_n C.1 dX7_run_46 rfl 0 rfl ?_
    refine z_iload_n C.1 dX7_run_47 rfl 3 rfl ?_
    refine pM_0_most C mF_X7_301 dX7_run_48 (fun u7 eu7 => ?_)
    replace hw := hw u7 eu7
    refine z_aload_n C.1 dX7_run_51 rfl 0 rfl ?_
    refine z_iconst (v := 0) C.1 dX7_run_52 (by decide) ?_
    refine pM_0_over C bz0 mF_X7_304 dX7_run_53 (fun u8 eu8 => ?_)
    replace hw := hw u8 eu8
    refine z_aload_n C.1 dX7_run_56 rfl 0 rfl ?_
    refine z_iconst (v := 0) C.1 dX7_run_57 (by decide) ?_
    refine k_X7_call C mM_X7_326 hw (by decide) (Nat.le_of_ble_eq_true rfl) dX7_run_58 (fun r10 u9 hw => ?_)
    refine z_pop C.1 dX7_run_61 rfl ?_
    refine z_aload_n C.1 dX7_run_62 rfl 0 rfl ?_
    refine z_iconst (v := 0) C.1 dX7_run_63 (by decide) ?_
    refine z_iconst (v := 0) C.1 dX7_run_64 (by decide) ?_
    refine z_iconst (v := (-1)) C.1 dX7_run_65 (by decide) ?_
    refine z_iload_n C.1 dX7_run_66 rfl 1 rfl ?_
    refine z_iconst (v := (-1)) C.1 dX7_run_67 (by decide) ?_
    refine k_X7_argument C mM_X7_307 hw (by decide) (Nat.le_of_ble_eq_true rfl) dX7_run_68 (fun u11 hw => ?_)
    refine z_aload_n C.1 dX7_run_71 rfl 0 rfl ?_
    refine z_iconst (v := 0) C.1 dX7_run_72 (by decide) ?_
    refine z_iconst (v := 1) C.1 dX7_run_73 (by decide) ?_
    refine z_iconst (v := (-1)) C.1 dX7_run_74 (by decide) ?_
    refine z_iload_n C.1 dX7_run_75 rfl 2 rfl ?_
    refine z_iconst (v := (-1)) C.1 dX7_run_76 (by decide) ?_
    refine k_X7_argument C mM_X7_307 hw (by decide) (Nat.le_of_ble_eq_true rfl) dX7_run_77 (fun u12 hw => ?_)
    refine z_aload_n C.1 dX7_run_80 rfl 0 rfl ?_
    refine z_iconst (v := 1) C.1 dX7_run_81 (by decide) ?_
    refine pM_0_changed C bz1 mF_X7_291 dX7_run_82 (fun u13 eu13 => ?_)
    replace hw := hw u13 eu13
    refine z_lv [0] rfl ?_
    obtain ⟨n, hw⟩ := hw
    exact z_X7_run_85 C hn hR n _ hw
  · replace hw := hw.2 c5
    refine z_iconst (v := 0) C.1 dX7_run_39 (by decide) ?_
    exact hR _ _ _ _ dX7_run_40 hw
def wp_X7_run_24 (u : St) (x1 : Int32) (x2 : Int32) (x3 : Int32) (post : Int32 → St → Prop) : Prop :=
  wp_X7_run_29 u x1 x2 x3 2 post
set_option maxHeartbeats 4000000 in
set_option maxRecDepth 20000 in
theorem z_X7_run_24 {X : XX} {ad : Nat → Nat} {cs : Nat → ClassId} {post : Int32 → St → Prop} (C : CxM X ad cs cX7_run RX7 4 101) (hn : xnL X = 8) (hR : rtI X cX7_run (wM ad cs) post) (u : St) (x1 : Int32) (x2 : Int32) (x3 : Int32) (hw : wp_X7_run_24 u x1 x2 x3 post) : Z X (wM ad cs u) 24 [(0, .ref (ad 0)), (1, .int x1), (2, .int x2), (3, .int x3)] [.ref (ad 0)] := by
  unfold wp_X7_run_24 at hw
  refine z_iconst (v := 2) C.1 dX7_run_24 (by decide) ?_
  refine z_goto (tgt := 29) C.1 dX7_run_25 (by decide) ?_
  refine z_lv [0, 1, 2, 3] rfl ?_
  exact z_X7_run_29 C hn hR _ _ _ _ _ hw
def wp_X7_run (u : St) (x1 : Int32) (x2 : Int32) (x3 : Int32) (x4 : Int32) (post : Int32 → St → Prop) : Prop :=
  br ((gI u 3) = 0) (wp_X7_run_29 u x1 x2 x3 1 post) (br (x3 < 1) (wp_X7_run_24 u x1 x2 x3 post) (br (x3 ≤ 300) (wp_X7_run_29 u x1 x2 x3 0 post) (wp_X7_run_24 u x1 x2 x3 post)))
set_option maxHeartbeats 4000000 in
set_option maxRecDepth 20000 in
theorem z_X7_run {X : XX} {ad : Nat → Nat} {cs : Nat → ClassId} {post : Int32 → St → Prop} (C : CxM X ad cs cX7_run RX7 4 101) (hn : xnL X = 8) (hR : rtI X cX7_run (wM ad cs) post) (u : St) (x1 : Int32) (x2 : Int32) (x3 : Int32) (x4 : Int32) (hw : wp_X7_run u x1 x2 x3 x4 post) : Z X (wM ad cs u) 0 [(0, .ref (ad 0)), (1, .int x1), (2, .int x2), (3, .int x3), (4, .int x4)] [] := by
  unfold wp_X7_run at hw
  refine z_aload_n C.1 dX7_run_0 rfl 0 rfl ?_
  refine z_aload_n C.1 dX7_run_1 rfl 0 rfl ?_
  refine gM_0_definitions C mF_X7_288 dX7_run_2 ?_
  refine z_if_ne (tgt := 12) C.1 dX7_run_5 (by decide) (fun c1 => ?_) (fun c1 => ?_)
  · replace hw := hw.2 c1
    refine z_iload_n C.1 dX7_run_12 rfl 3 rfl ?_
    refine z_iconst (v := 1) C.1 dX7_run_13 (by decide) ?_
    refine z_icmp_lt (tgt := 24) C.1 dX7_run_14 (by decide) (fun c2 => ?_) (fun c2 => ?_)
    · replace hw := hw.1 c2
      refine z_lv [0, 1, 2, 3] rfl ?_
      exact z_X7_run_24 C hn hR _ _ _ _ hw
    · replace hw := hw.2 c2
      refine z_iload_n C.1 dX7_run_17 rfl 3 rfl ?_
      refine z_sipush (v := 300) C.1 dX7_run_18 (by decide) ?_
      refine z_icmp_le (tgt := 28) C.1 dX7_run_21 (by decide) (fun c3 => ?_) (fun c3 => ?_)
      · replace hw := hw.1 c3
        refine z_iconst (v := 0) C.1 dX7_run_28 (by decide) ?_
        refine z_lv [0, 1, 2, 3] rfl ?_
        exact z_X7_run_29 C hn hR _ _ _ _ _ hw
      · replace hw := hw.2 c3
        refine z_lv [0, 1, 2, 3] rfl ?_
        exact z_X7_run_24 C hn hR _ _ _ _ hw
  · replace hw := hw.1 c1
    refine z_iconst (v := 1) C.1 dX7_run_8 (by decide) ?_
    refine z_goto (tgt := 29) C.1 dX7_run_9 (by decide) ?_
    refine z_lv [0, 1, 2, 3] rfl ?_
    exact z_X7_run_29 C hn hR _ _ _ _ _ hw
theorem c_X7_run {l : Launch} {D : va_G} {A : Nat → Prop} {ad : Nat → Nat} {cs : Nat → ClassId} (hD : ∀ u : St, va_D A (wM ad cs u)) (u : St) (x1 : Int32) (x2 : Int32) (x3 : Int32) (x4 : Int32) (post : Int32 → St → Prop) (hw : wp_X7_run u x1 x2 x3 x4 post) : MI (ad 90, ad 91) l yX7_run cX7_run 8 (some .int) (rmm 4 101) D (tysM cs) A (wM ad cs) u [.ref (ad 0), .int x1, .int x2, .int x3, .int x4] post :=
  met_i (by decide) (Nat.le_of_ble_eq_true rfl) (fun X C _ _ ht hA hn hsg hR => z_X7_run ⟨C, ht, fun u => by rw [hA]; exact hD u, hsg⟩ hn hR u x1 x2 x3 x4 hw)
theorem k_X7_run {X : XX} {ad : Nat → Nat} {cs : Nat → ClassId} {cc : ByteArray} {own : String} {fr lo pc : Nat} {lv : List (Nat × Value)} {st : List Value} {u : St} (C : CxM X ad cs cc own fr lo) {idx : Nat} {x1 : Int32} {x2 : Int32} {x3 : Int32} {x4 : Int32} {P : Int32 → St → Prop} (hlink : Cond.methodLink own idx yX7_run ∈ W0) (hw : wp_X7_run u x1 x2 x3 x4 P) (hr : 4 + 1 ≤ fr ∧ 8 + (8 + 11) + 101 ≤ lo) (hst : (st.map fun v => v.category).sum ≤ 8) (hdg : decode cc pc = .ok (.invokevirtual idx, 3)) (k : ∀ (r : Int32) (u2 : St), P r u2 → Z X (wM ad cs u2) (pc + 3) lv (.int r :: st)) : Z X (wM ad cs u) pc lv (.int x4 :: .int x3 :: .int x2 :: .int x1 :: .ref (ad 0) :: st) :=
  z_callVi (wf := wM ad cs) (As := [.int x1, .int x2, .int x3, .int x4]) (rest := st) C.1 4 (q0 := 0) mI_X7_run mS_X7_run rfl rfl (by rw [C.2.1, C.2.2.2]; exact c_X7_run C.2.2.1 u x1 x2 x3 x4 P hw) mC_X7_run mZ_X7 (by decide +kernel) rfl hlink hr hst hdg k

def wp_X7_value (u : St) (post : Int32 → St → Prop) : Prop :=
  nm (sI u 0 0) (fun u1 : St => post (gI u1 20) u1)
set_option maxHeartbeats 4000000 in
set_option maxRecDepth 20000 in
theorem z_X7_value {X : XX} {ad : Nat → Nat} {cs : Nat → ClassId} {post : Int32 → St → Prop} (C : CxM X ad cs cX7_value RX7 0 0) (hn : xnL X = 1) (hR : rtI X cX7_value (wM ad cs) post) (u : St) (hw : wp_X7_value u post) : Z X (wM ad cs u) 0 [(0, .ref (ad 0))] [] := by
  unfold wp_X7_value at hw
  refine z_aload_n C.1 dX7_value_0 rfl 0 rfl ?_
  refine z_iconst (v := 0) C.1 dX7_value_1 (by decide) ?_
  refine pM_0_code C mF_X7_116 dX7_value_2 (fun u1 eu1 => ?_)
  replace hw := hw u1 eu1
  refine z_aload_n C.1 dX7_value_5 rfl 0 rfl ?_
  refine gM_0_result C mF_X7_360 dX7_value_6 ?_
  exact hR _ _ _ _ dX7_value_9 hw
theorem c_X7_value {l : Launch} {D : va_G} {A : Nat → Prop} {ad : Nat → Nat} {cs : Nat → ClassId} (hD : ∀ u : St, va_D A (wM ad cs u)) (u : St) (post : Int32 → St → Prop) (hw : wp_X7_value u post) : MI (ad 90, ad 91) l yX7_value cX7_value 1 (some .int) (rmm 0 0) D (tysM cs) A (wM ad cs) u [.ref (ad 0)] post :=
  met_i (by decide) (Nat.le_of_ble_eq_true rfl) (fun X C _ _ ht hA hn hsg hR => z_X7_value ⟨C, ht, fun u => by rw [hA]; exact hD u, hsg⟩ hn hR u hw)
theorem k_X7_value {X : XX} {ad : Nat → Nat} {cs : Nat → ClassId} {cc : ByteArray} {own : String} {fr lo pc : Nat} {lv : List (Nat × Value)} {st : List Value} {u : St} (C : CxM X ad cs cc own fr lo) {idx : Nat} {P : Int32 → St → Prop} (hlink : Cond.methodLink own idx yX7_value ∈ W0) (hw : wp_X7_value u P) (hr : 0 + 1 ≤ fr ∧ 8 + (1 + 11) + 0 ≤ lo) (hst : (st.map fun v => v.category).sum ≤ 8) (hdg : decode cc pc = .ok (.invokevirtual idx, 3)) (k : ∀ (r : Int32) (u2 : St), P r u2 → Z X (wM ad cs u2) (pc + 3) lv (.int r :: st)) : Z X (wM ad cs u) pc lv (.ref (ad 0) :: st) :=
  z_callVi (wf := wM ad cs) (As := []) (rest := st) C.1 0 (q0 := 0) mI_X7_value mS_X7_value rfl rfl (by rw [C.2.1, C.2.2.2]; exact c_X7_value C.2.2.1 u P hw) mC_X7_value mZ_X7 (by decide +kernel) rfl hlink hr hst hdg k

def wp_X7_count_15 (u : St) (x1 : Int32) (y0 : Int32) (post : Int32 → St → Prop) : Prop :=
  nm (sI u 0 y0) (fun u3 : St => br ((gI u3 0) ≤ 0) (br (4 ≤ x1) (br (x1 = 4) (post (gI u3 3) u3) (post (gI u3 1) u3)) ((vp_in x1 4 ∧ post (gA u3 33 (ix x1)) u3))) (post 0 u3))
set_option maxHeartbeats 4000000 in
set_option maxRecDepth 20000 in
theorem z_X7_count_15 {X : XX} {ad : Nat → Nat} {cs : Nat → ClassId} {post : Int32 → St → Prop} (C : CxM X ad cs cX7_count RX7 0 0) (hn : xnL X = 2) (hR : rtI X cX7_count (wM ad cs) post) (u : St) (x1 : Int32) (y0 : Int32) (hw : wp_X7_count_15 u x1 y0 post) : Z X (wM ad cs u) 15 [(0, .ref (ad 0)), (1, .int x1)] [.int y0, .ref (ad 0)] := by
  unfold wp_X7_count_15 at hw
  refine pM_0_code C mF_X7_116 dX7_count_15 (fun u3 eu3 => ?_)
  replace hw := hw u3 eu3
  refine z_aload_n C.1 dX7_count_18 rfl 0 rfl ?_
  refine gM_0_code C mF_X7_116 dX7_count_19 ?_
  refine z_if_le (tgt := 29) C.1 dX7_count_22 (by decide) (fun c4 => ?_) (fun c4 => ?_)
  · replace hw := hw.1 c4
    refine z_iload_n C.1 dX7_count_29 rfl 1 rfl ?_
    refine z_iconst (v := 4) C.1 dX7_count_30 (by decide) ?_
    refine z_icmp_ge (tgt := 43) C.1 dX7_count_31 (by decide) (fun c5 => ?_) (fun c5 => ?_)
    · replace hw := hw.1 c5
      refine z_iload_n C.1 dX7_count_43 rfl 1 rfl ?_
      refine z_iconst (v := 4) C.1 dX7_count_44 (by decide) ?_
      refine z_icmp_ne (tgt := 55) C.1 dX7_count_45 (by decide) (fun c6 => ?_) (fun c6 => ?_)
      · replace hw := hw.2 c6
        refine z_aload_n C.1 dX7_count_55 rfl 0 rfl ?_
        refine gM_0_size C mF_X7_119 dX7_count_56 ?_
        exact hR _ _ _ _ dX7_count_59 hw
      · replace hw := hw.1 c6
        refine z_aload_n C.1 dX7_count_48 rfl 0 rfl ?_
        refine gM_0_definitions C mF_X7_288 dX7_count_49 ?_
        refine z_goto (tgt := 59) C.1 dX7_count_52 (by decide) ?_
        exact hR _ _ _ _ dX7_count_59 hw
    · replace hw := hw.2 c5
      refine z_aload_n C.1 dX7_count_34 rfl 0 rfl ?_
      refine gM_0_told C mF_X7_113 dX7_count_35 ?_
      refine z_iload_n C.1 dX7_count_38 rfl 1 rfl ?_
      refine lM_33 C hw.1 dX7_count_39 ?_
      replace hw := hw.2
      refine z_goto (tgt := 59) C.1 dX7_count_40 (by decide) ?_
      exact hR _ _ _ _ dX7_count_59 hw
  · replace hw := hw.2 c4
    refine z_iconst (v := 0) C.1 dX7_count_25 (by decide) ?_
    refine z_goto (tgt := 59) C.1 dX7_count_26 (by decide) ?_
    exact hR _ _ _ _ dX7_count_59 hw
def wp_X7_count_10 (u : St) (x1 : Int32) (post : Int32 → St → Prop) : Prop :=
  wp_X7_count_15 u x1 1 post
set_option maxHeartbeats 4000000 in
set_option maxRecDepth 20000 in
theorem z_X7_count_10 {X : XX} {ad : Nat → Nat} {cs : Nat → ClassId} {post : Int32 → St → Prop} (C : CxM X ad cs cX7_count RX7 0 0) (hn : xnL X = 2) (hR : rtI X cX7_count (wM ad cs) post) (u : St) (x1 : Int32) (hw : wp_X7_count_10 u x1 post) : Z X (wM ad cs u) 10 [(0, .ref (ad 0)), (1, .int x1)] [.ref (ad 0)] := by
  unfold wp_X7_count_10 at hw
  refine z_iconst (v := 1) C.1 dX7_count_10 (by decide) ?_
  refine z_goto (tgt := 15) C.1 dX7_count_11 (by decide) ?_
  refine z_lv [0, 1] rfl ?_
  exact z_X7_count_15 C hn hR _ _ _ hw
def wp_X7_count (u : St) (x1 : Int32) (post : Int32 → St → Prop) : Prop :=
  br (x1 < 0) (wp_X7_count_10 u x1 post) (br (x1 ≤ 5) (wp_X7_count_15 u x1 0 post) (wp_X7_count_10 u x1 post))
set_option maxHeartbeats 4000000 in
set_option maxRecDepth 20000 in
theorem z_X7_count {X : XX} {ad : Nat → Nat} {cs : Nat → ClassId} {post : Int32 → St → Prop} (C : CxM X ad cs cX7_count RX7 0 0) (hn : xnL X = 2) (hR : rtI X cX7_count (wM ad cs) post) (u : St) (x1 : Int32) (hw : wp_X7_count u x1 post) : Z X (wM ad cs u) 0 [(0, .ref (ad 0)), (1, .int x1)] [] := by
  unfold wp_X7_count at hw
  refine z_aload_n C.1 dX7_count_0 rfl 0 rfl ?_
  refine z_iload_n C.1 dX7_count_1 rfl 1 rfl ?_
  refine z_if_lt (tgt := 10) C.1 dX7_count_2 (by decide) (fun c1 => ?_) (fun c1 => ?_)
  · replace hw := hw.1 c1
    refine z_lv [0, 1] rfl ?_
    exact z_X7_count_10 C hn hR _ _ hw
  · replace hw := hw.2 c1
    refine z_iload_n C.1 dX7_count_5 rfl 1 rfl ?_
    refine z_iconst (v := 5) C.1 dX7_count_6 (by decide) ?_
    refine z_icmp_le (tgt := 14) C.1 dX7_count_7 (by decide) (fun c2 => ?_) (fun c2 => ?_)
    · replace hw := hw.1 c2
      refine z_iconst (v := 0) C.1 dX7_count_14 (by decide) ?_
      refine z_lv [0, 1] rfl ?_
      exact z_X7_count_15 C hn hR _ _ _ hw
    · replace hw := hw.2 c2
      refine z_lv [0, 1] rfl ?_
      exact z_X7_count_10 C hn hR _ _ hw
theorem c_X7_count {l : Launch} {D : va_G} {A : Nat → Prop} {ad : Nat → Nat} {cs : Nat → ClassId} (hD : ∀ u : St, va_D A (wM ad cs u)) (u : St) (x1 : Int32) (post : Int32 → St → Prop) (hw : wp_X7_count u x1 post) : MI (ad 90, ad 91) l yX7_count cX7_count 2 (some .int) (rmm 0 0) D (tysM cs) A (wM ad cs) u [.ref (ad 0), .int x1] post :=
  met_i (by decide) (Nat.le_of_ble_eq_true rfl) (fun X C _ _ ht hA hn hsg hR => z_X7_count ⟨C, ht, fun u => by rw [hA]; exact hD u, hsg⟩ hn hR u x1 hw)
theorem k_X7_count {X : XX} {ad : Nat → Nat} {cs : Nat → ClassId} {cc : ByteArray} {own : String} {fr lo pc : Nat} {lv : List (Nat × Value)} {st : List Value} {u : St} (C : CxM X ad cs cc own fr lo) {idx : Nat} {x1 : Int32} {P : Int32 → St → Prop} (hlink : Cond.methodLink own idx yX7_count ∈ W0) (hw : wp_X7_count u x1 P) (hr : 0 + 1 ≤ fr ∧ 8 + (2 + 11) + 0 ≤ lo) (hst : (st.map fun v => v.category).sum ≤ 8) (hdg : decode cc pc = .ok (.invokevirtual idx, 3)) (k : ∀ (r : Int32) (u2 : St), P r u2 → Z X (wM ad cs u2) (pc + 3) lv (.int r :: st)) : Z X (wM ad cs u) pc lv (.int x1 :: .ref (ad 0) :: st) :=
  z_callVi (wf := wM ad cs) (As := [.int x1]) (rest := st) C.1 1 (q0 := 0) mI_X7_count mS_X7_count rfl rfl (by rw [C.2.1, C.2.2.2]; exact c_X7_count C.2.2.1 u x1 P hw) mC_X7_count mZ_X7 (by decide +kernel) rfl hlink hr hst hdg k

def wp_X7_definition_27 (u : St) (x1 : Int32) (x2 : Int32) (y0 : Int32) (post : Int32 → St → Prop) : Prop :=
  nm (sI u 0 y0) (fun u5 : St => br ((gI u5 0) ≤ 0) (br (x2 = 0) ((vp_in ((12 * (gI u5 2)) + x1) 24 ∧ post (gA u5 2 (ix ((12 * (gI u5 2)) + x1))) u5)) ((vp_in ((12 * (gI u5 2)) + x1) 24 ∧ post (gA u5 3 (ix ((12 * (gI u5 2)) + x1))) u5))) (post 0 u5))
set_option maxHeartbeats 4000000 in
set_option maxRecDepth 20000 in
theorem z_X7_definition_27 {X : XX} {ad : Nat → Nat} {cs : Nat → ClassId} {post : Int32 → St → Prop} (C : CxM X ad cs cX7_definition RX7 0 0) (hn : xnL X = 3) (hR : rtI X cX7_definition (wM ad cs) post) (u : St) (x1 : Int32) (x2 : Int32) (y0 : Int32) (hw : wp_X7_definition_27 u x1 x2 y0 post) : Z X (wM ad cs u) 27 [(0, .ref (ad 0)), (1, .int x1), (2, .int x2)] [.int y0, .ref (ad 0)] := by
  unfold wp_X7_definition_27 at hw
  refine pM_0_code C mF_X7_116 dX7_definition_27 (fun u5 eu5 => ?_)
  replace hw := hw u5 eu5
  refine z_aload_n C.1 dX7_definition_30 rfl 0 rfl ?_
  refine gM_0_code C mF_X7_116 dX7_definition_31 ?_
  refine z_if_le (tgt := 41) C.1 dX7_definition_34 (by decide) (fun c6 => ?_) (fun c6 => ?_)
  · replace hw := hw.1 c6
    refine z_iload_n C.1 dX7_definition_41 rfl 2 rfl ?_
    refine z_if_ne (tgt := 62) C.1 dX7_definition_42 (by decide) (fun c7 => ?_) (fun c7 => ?_)
    · replace hw := hw.2 c7
      refine z_aload_n C.1 dX7_definition_62 rfl 0 rfl ?_
      refine gM_0_partCounts C mF_X7_17 dX7_definition_63 ?_
      refine z_bipush (v := 12) C.1 dX7_definition_66 (by decide) ?_
      refine z_aload_n C.1 dX7_definition_68 rfl 0 rfl ?_
      refine gM_0_bank C mF_X7_182 dX7_definition_69 ?_
      refine z_imul C.1 dX7_definition_72 ?_
      refine z_iload_n C.1 dX7_definition_73 rfl 1 rfl ?_
      refine z_iadd C.1 dX7_definition_74 ?_
      refine lM_3 C hw.1 dX7_definition_75 ?_
      replace hw := hw.2
      exact hR _ _ _ _ dX7_definition_76 hw
    · replace hw := hw.1 c7
      refine z_aload_n C.1 dX7_definition_45 rfl 0 rfl ?_
      refine gM_0_arities C mF_X7_13 dX7_definition_46 ?_
      refine z_bipush (v := 12) C.1 dX7_definition_49 (by decide) ?_
      refine z_aload_n C.1 dX7_definition_51 rfl 0 rfl ?_
      refine gM_0_bank C mF_X7_182 dX7_definition_52 ?_
      refine z_imul C.1 dX7_definition_55 ?_
      refine z_iload_n C.1 dX7_definition_56 rfl 1 rfl ?_
      refine z_iadd C.1 dX7_definition_57 ?_
      refine lM_2 C hw.1 dX7_definition_58 ?_
      replace hw := hw.2
      refine z_goto (tgt := 76) C.1 dX7_definition_59 (by decide) ?_
      exact hR _ _ _ _ dX7_definition_76 hw
  · replace hw := hw.2 c6
    refine z_iconst (v := 0) C.1 dX7_definition_37 (by decide) ?_
    refine z_goto (tgt := 76) C.1 dX7_definition_38 (by decide) ?_
    exact hR _ _ _ _ dX7_definition_76 hw
def wp_X7_definition_22 (u : St) (x1 : Int32) (x2 : Int32) (post : Int32 → St → Prop) : Prop :=
  wp_X7_definition_27 u x1 x2 1 post
set_option maxHeartbeats 4000000 in
set_option maxRecDepth 20000 in
theorem z_X7_definition_22 {X : XX} {ad : Nat → Nat} {cs : Nat → ClassId} {post : Int32 → St → Prop} (C : CxM X ad cs cX7_definition RX7 0 0) (hn : xnL X = 3) (hR : rtI X cX7_definition (wM ad cs) post) (u : St) (x1 : Int32) (x2 : Int32) (hw : wp_X7_definition_22 u x1 x2 post) : Z X (wM ad cs u) 22 [(0, .ref (ad 0)), (1, .int x1), (2, .int x2)] [.ref (ad 0)] := by
  unfold wp_X7_definition_22 at hw
  refine z_iconst (v := 1) C.1 dX7_definition_22 (by decide) ?_
  refine z_goto (tgt := 27) C.1 dX7_definition_23 (by decide) ?_
  refine z_lv [0, 1, 2] rfl ?_
  exact z_X7_definition_27 C hn hR _ _ _ _ hw
def wp_X7_definition (u : St) (x1 : Int32) (x2 : Int32) (post : Int32 → St → Prop) : Prop :=
  br (x1 < 0) (wp_X7_definition_22 u x1 x2 post) (br ((gI u 3) ≤ x1) (wp_X7_definition_22 u x1 x2 post) (br (x2 < 0) (wp_X7_definition_22 u x1 x2 post) (br (x2 ≤ 1) (wp_X7_definition_27 u x1 x2 0 post) (wp_X7_definition_22 u x1 x2 post))))
set_option maxHeartbeats 4000000 in
set_option maxRecDepth 20000 in
theorem z_X7_definition {X : XX} {ad : Nat → Nat} {cs : Nat → ClassId} {post : Int32 → St → Prop} (C : CxM X ad cs cX7_definition RX7 0 0) (hn : xnL X = 3) (hR : rtI X cX7_definition (wM ad cs) post) (u : St) (x1 : Int32) (x2 : Int32) (hw : wp_X7_definition u x1 x2 post) : Z X (wM ad cs u) 0 [(0, .ref (ad 0)), (1, .int x1), (2, .int x2)] [] := by
  unfold wp_X7_definition at hw
  refine z_aload_n C.1 dX7_definition_0 rfl 0 rfl ?_
  refine z_iload_n C.1 dX7_definition_1 rfl 1 rfl ?_
  refine z_if_lt (tgt := 22) C.1 dX7_definition_2 (by decide) (fun c1 => ?_) (fun c1 => ?_)
  · replace hw := hw.1 c1
    refine z_lv [0, 1, 2] rfl ?_
    exact z_X7_definition_22 C hn hR _ _ _ hw
  · replace hw := hw.2 c1
    refine z_iload_n C.1 dX7_definition_5 rfl 1 rfl ?_
    refine z_aload_n C.1 dX7_definition_6 rfl 0 rfl ?_
    refine gM_0_definitions C mF_X7_288 dX7_definition_7 ?_
    refine z_icmp_ge (tgt := 22) C.1 dX7_definition_10 (by decide) (fun c2 => ?_) (fun c2 => ?_)
    · replace hw := hw.1 c2
      refine z_lv [0, 1, 2] rfl ?_
      exact z_X7_definition_22 C hn hR _ _ _ hw
    · replace hw := hw.2 c2
      refine z_iload_n C.1 dX7_definition_13 rfl 2 rfl ?_
      refine z_if_lt (tgt := 22) C.1 dX7_definition_14 (by decide) (fun c3 => ?_) (fun c3 => ?_)
      · replace hw := hw.1 c3
        refine z_lv [0, 1, 2] rfl ?_
        exact z_X7_definition_22 C hn hR _ _ _ hw
      · replace hw := hw.2 c3
        refine z_iload_n C.1 dX7_definition_17 rfl 2 rfl ?_
        refine z_iconst (v := 1) C.1 dX7_definition_18 (by decide) ?_
        refine z_icmp_le (tgt := 26) C.1 dX7_definition_19 (by decide) (fun c4 => ?_) (fun c4 => ?_)
        · replace hw := hw.1 c4
          refine z_iconst (v := 0) C.1 dX7_definition_26 (by decide) ?_
          refine z_lv [0, 1, 2] rfl ?_
          exact z_X7_definition_27 C hn hR _ _ _ _ hw
        · replace hw := hw.2 c4
          refine z_lv [0, 1, 2] rfl ?_
          exact z_X7_definition_22 C hn hR _ _ _ hw
theorem c_X7_definition {l : Launch} {D : va_G} {A : Nat → Prop} {ad : Nat → Nat} {cs : Nat → ClassId} (hD : ∀ u : St, va_D A (wM ad cs u)) (u : St) (x1 : Int32) (x2 : Int32) (post : Int32 → St → Prop) (hw : wp_X7_definition u x1 x2 post) : MI (ad 90, ad 91) l yX7_definition cX7_definition 3 (some .int) (rmm 0 0) D (tysM cs) A (wM ad cs) u [.ref (ad 0), .int x1, .int x2] post :=
  met_i (by decide) (Nat.le_of_ble_eq_true rfl) (fun X C _ _ ht hA hn hsg hR => z_X7_definition ⟨C, ht, fun u => by rw [hA]; exact hD u, hsg⟩ hn hR u x1 x2 hw)
theorem k_X7_definition {X : XX} {ad : Nat → Nat} {cs : Nat → ClassId} {cc : ByteArray} {own : String} {fr lo pc : Nat} {lv : List (Nat × Value)} {st : List Value} {u : St} (C : CxM X ad cs cc own fr lo) {idx : Nat} {x1 : Int32} {x2 : Int32} {P : Int32 → St → Prop} (hlink : Cond.methodLink own idx yX7_definition ∈ W0) (hw : wp_X7_definition u x1 x2 P) (hr : 0 + 1 ≤ fr ∧ 8 + (3 + 11) + 0 ≤ lo) (hst : (st.map fun v => v.category).sum ≤ 8) (hdg : decode cc pc = .ok (.invokevirtual idx, 3)) (k : ∀ (r : Int32) (u2 : St), P r u2 → Z X (wM ad cs u2) (pc + 3) lv (.int r :: st)) : Z X (wM ad cs u) pc lv (.int x2 :: .int x1 :: .ref (ad 0) :: st) :=
  z_callVi (wf := wM ad cs) (As := [.int x1, .int x2]) (rest := st) C.1 2 (q0 := 0) mI_X7_definition mS_X7_definition rfl rfl (by rw [C.2.1, C.2.2.2]; exact c_X7_definition C.2.2.1 u x1 x2 P hw) mC_X7_definition mZ_X7 (by decide +kernel) rfl hlink hr hst hdg k

def wp_X7_clear_27s (K27 : St → Int32 → Prop) (u : St) (x1 : Int32) (post : St → Prop) : Prop :=
  br (4 ≤ x1) (post u) ((vp_in x1 4 ∧ nm (sA u 33 (ix x1) 0) (fun u7 : St => nm (x1 + 1) (fun v8 : Int32 => K27 u7 v8))))
def wp_X7_clear_27 (post : St → Prop) : Nat → St → Int32 → Prop
  | 0 => fun _ _ => False
  | n + 1 => fun u x1 => wp_X7_clear_27s (wp_X7_clear_27 post n) u x1 post
set_option maxHeartbeats 4000000 in
set_option maxRecDepth 20000 in
theorem z_X7_clear_27s {X : XX} {ad : Nat → Nat} {cs : Nat → ClassId} {post : St → Prop} (C : CxM X ad cs cX7_clear RX7 0 0) (hn : xnL X = 2) (hR : rtV X cX7_clear (wM ad cs) post) {K27 : St → Int32 → Prop} (hK27 : ∀ (u : St) (x1 : Int32), K27 u x1 → Z X (wM ad cs u) 27 [(0, .ref (ad 0)), (1, .int x1)] []) (u : St) (x1 : Int32) (hw : wp_X7_clear_27s K27 u x1 post) : Z X (wM ad cs u) 27 [(0, .ref (ad 0)), (1, .int x1)] [] := by
  unfold wp_X7_clear_27s at hw
  refine z_iload_n C.1 dX7_clear_27 rfl 1 rfl ?_
  refine z_iconst (v := 4) C.1 dX7_clear_28 (by decide) ?_
  refine z_icmp_ge (tgt := 45) C.1 dX7_clear_29 (by decide) (fun c6 => ?_) (fun c6 => ?_)
  · replace hw := hw.1 c6
    exact hR _ _ _ dX7_clear_45 hw
  · replace hw := hw.2 c6
    refine z_aload_n C.1 dX7_clear_32 rfl 0 rfl ?_
    refine gM_0_told C mF_X7_113 dX7_clear_33 ?_
    refine z_iload_n C.1 dX7_clear_36 rfl 1 rfl ?_
    refine z_iconst (v := 0) C.1 dX7_clear_37 (by decide) ?_
    refine sM_33 C hw.1 dX7_clear_38 (fun u7 eu7 => ?_)
    replace hw := hw.2 u7 eu7
    obtain ⟨v8, ev8⟩ : ∃ z : Int32, z = x1 + 1 := ⟨_, rfl⟩
    replace hw := hw v8 ev8
    refine z_iinc (v := v8) (lv' := [(1, .int v8), (0, .ref (ad 0))]) C.1 (j := 1) dX7_clear_39 rfl (by rw [ev8]; rfl) (by rw [hn]; decide) rfl ?_
    refine z_goto (tgt := 27) C.1 dX7_clear_42 (by decide) ?_
    refine z_lv [1, 0] rfl ?_
    exact hK27 _ _ hw
theorem z_X7_clear_27 {X : XX} {ad : Nat → Nat} {cs : Nat → ClassId} {post : St → Prop} (C : CxM X ad cs cX7_clear RX7 0 0) (hn : xnL X = 2) (hR : rtV X cX7_clear (wM ad cs) post) : ∀ (n : Nat) (u : St) (x1 : Int32), wp_X7_clear_27 post n u x1 → Z X (wM ad cs u) 27 [(0, .ref (ad 0)), (1, .int x1)] []
  | 0, _, _, hw => absurd hw (fun h => h)
  | n + 1, u, x1, hw => z_X7_clear_27s C hn hR (z_X7_clear_27 C hn hR n) u x1 hw
def wp_X7_clear (u : St) (post : St → Prop) : Prop :=
  nm (sI u 0 0) (fun u1 : St => nm (sI u1 1 0) (fun u2 : St => nm (sI u2 3 0) (fun u3 : St => nm (sI u3 19 (-1)) (fun u4 : St => nm (sI u4 20 0) (fun u5 : St => ∃ n, wp_X7_clear_27 post n u5 0)))))
set_option maxHeartbeats 4000000 in
set_option maxRecDepth 20000 in
theorem z_X7_clear {X : XX} {ad : Nat → Nat} {cs : Nat → ClassId} {post : St → Prop} (C : CxM X ad cs cX7_clear RX7 0 0) (hn : xnL X = 2) (hR : rtV X cX7_clear (wM ad cs) post) (u : St) (hw : wp_X7_clear u post) : Z X (wM ad cs u) 0 [(0, .ref (ad 0))] [] := by
  unfold wp_X7_clear at hw
  refine z_aload_n C.1 dX7_clear_0 rfl 0 rfl ?_
  refine z_iconst (v := 0) C.1 dX7_clear_1 (by decide) ?_
  refine pM_0_code C mF_X7_116 dX7_clear_2 (fun u1 eu1 => ?_)
  replace hw := hw u1 eu1
  refine z_aload_n C.1 dX7_clear_5 rfl 0 rfl ?_
  refine z_iconst (v := 0) C.1 dX7_clear_6 (by decide) ?_
  refine pM_0_size C mF_X7_119 dX7_clear_7 (fun u2 eu2 => ?_)
  replace hw := hw u2 eu2
  refine z_aload_n C.1 dX7_clear_10 rfl 0 rfl ?_
  refine z_iconst (v := 0) C.1 dX7_clear_11 (by decide) ?_
  refine pM_0_definitions C mF_X7_288 dX7_clear_12 (fun u3 eu3 => ?_)
  replace hw := hw u3 eu3
  refine z_aload_n C.1 dX7_clear_15 rfl 0 rfl ?_
  refine z_iconst (v := (-1)) C.1 dX7_clear_16 (by decide) ?_
  refine pM_0_outcome C mF_X7_109 dX7_clear_17 (fun u4 eu4 => ?_)
  replace hw := hw u4 eu4
  refine z_aload_n C.1 dX7_clear_20 rfl 0 rfl ?_
  refine z_iconst (v := 0) C.1 dX7_clear_21 (by decide) ?_
  refine pM_0_result C mF_X7_360 dX7_clear_22 (fun u5 eu5 => ?_)
  replace hw := hw u5 eu5
  refine z_iconst (v := 0) C.1 dX7_clear_25 (by decide) ?_
  refine z_istore_n (lv' := [(1, .int 0), (0, .ref (ad 0))]) C.1 dX7_clear_26 rfl (by rw [hn]; decide) rfl ?_
  refine z_lv [1, 0] rfl ?_
  obtain ⟨n, hw⟩ := hw
  exact z_X7_clear_27 C hn hR n _ _ hw
theorem c_X7_clear {l : Launch} {D : va_G} {A : Nat → Prop} {ad : Nat → Nat} {cs : Nat → ClassId} (hD : ∀ u : St, va_D A (wM ad cs u)) (u : St) (post : St → Prop) (hw : wp_X7_clear u post) : MV (ad 90, ad 91) l yX7_clear cX7_clear 2 none (rmm 0 0) D (tysM cs) A (wM ad cs) u [.ref (ad 0)] post :=
  met_v (by decide) (Nat.le_of_ble_eq_true rfl) (fun X C _ _ ht hA hn hsg hR => z_X7_clear ⟨C, ht, fun u => by rw [hA]; exact hD u, hsg⟩ hn hR u hw)
theorem k_X7_clear {X : XX} {ad : Nat → Nat} {cs : Nat → ClassId} {cc : ByteArray} {own : String} {fr lo pc : Nat} {lv : List (Nat × Value)} {st : List Value} {u : St} (C : CxM X ad cs cc own fr lo) {idx : Nat} {P : St → Prop} (hlink : Cond.methodLink own idx yX7_clear ∈ W0) (hw : wp_X7_clear u P) (hr : 0 + 1 ≤ fr ∧ 8 + (2 + 11) + 0 ≤ lo) (hst : (st.map fun v => v.category).sum ≤ 8) (hdg : decode cc pc = .ok (.invokevirtual idx, 3)) (k : ∀ (u2 : St), P u2 → Z X (wM ad cs u2) (pc + 3) lv st) : Z X (wM ad cs u) pc lv (.ref (ad 0) :: st) :=
  z_callVv (wf := wM ad cs) (As := []) (rest := st) C.1 0 (q0 := 0) mI_X7_clear mS_X7_clear rfl rfl (by rw [C.2.1, C.2.2.2]; exact c_X7_clear C.2.2.1 u P hw) mC_X7_clear mZ_X7 (by decide +kernel) rfl hlink hr hst hdg k
