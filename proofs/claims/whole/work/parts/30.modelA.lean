def wp_X7_thrown (u : St) (post : Int32 → St → Prop) : Prop :=
  post (gI u 0) u
set_option maxHeartbeats 4000000 in
set_option maxRecDepth 20000 in
theorem z_X7_thrown {X : XX} {ad : Nat → Nat} {cs : Nat → ClassId} {post : Int32 → St → Prop} (C : CxM X ad cs cX7_thrown RX7 0 0) (hn : xnL X = 1) (hR : rtI X cX7_thrown (wM ad cs) post) (u : St) (hw : wp_X7_thrown u post) : Z X (wM ad cs u) 0 [(0, .ref (ad 0))] [] := by
  unfold wp_X7_thrown at hw
  refine z_aload_n C.1 dX7_thrown_0 rfl 0 rfl ?_
  refine gM_0_code C mF_X7_116 dX7_thrown_1 ?_
  exact hR _ _ _ _ dX7_thrown_4 hw
theorem c_X7_thrown {l : Launch} {D : va_G} {A : Nat → Prop} {ad : Nat → Nat} {cs : Nat → ClassId} (hD : ∀ u : St, va_D A (wM ad cs u)) (u : St) (post : Int32 → St → Prop) (hw : wp_X7_thrown u post) : MI (ad 90, ad 91) l yX7_thrown cX7_thrown 1 (some .int) (rmm 0 0) D (tysM cs) A (wM ad cs) u [.ref (ad 0)] post :=
  met_i (by decide) (Nat.le_of_ble_eq_true rfl) (fun X C _ _ ht hA hn hsg hR => z_X7_thrown ⟨C, ht, fun u => by rw [hA]; exact hD u, hsg⟩ hn hR u hw)
theorem k_X7_thrown {X : XX} {ad : Nat → Nat} {cs : Nat → ClassId} {cc : ByteArray} {own : String} {fr lo pc : Nat} {lv : List (Nat × Value)} {st : List Value} {u : St} (C : CxM X ad cs cc own fr lo) {idx : Nat} {P : Int32 → St → Prop} (hlink : Cond.methodLink own idx yX7_thrown ∈ W0) (hw : wp_X7_thrown u P) (hr : 0 + 1 ≤ fr ∧ 8 + (1 + 11) + 0 ≤ lo) (hst : (st.map fun v => v.category).sum ≤ 8) (hdg : decode cc pc = .ok (.invokevirtual idx, 3)) (k : ∀ (r : Int32) (u2 : St), P r u2 → Z X (wM ad cs u2) (pc + 3) lv (.int r :: st)) : Z X (wM ad cs u) pc lv (.ref (ad 0) :: st) :=
  z_callVi (wf := wM ad cs) (As := []) (rest := st) C.1 0 (q0 := 0) mI_X7_thrown mS_X7_thrown rfl rfl (by rw [C.2.1, C.2.2.2]; exact c_X7_thrown C.2.2.1 u P hw) mC_X7_thrown mZ_X7 (by decide +kernel) rfl hlink hr hst hdg k

def wp_X7_feed_131 (u : St) (post : Int32 → St → Prop) : Prop :=
  br ((gI u 0) ≤ 0) (post (gI u 1) u) (post 0 u)
set_option maxHeartbeats 4000000 in
set_option maxRecDepth 20000 in
theorem z_X7_feed_131 {X : XX} {ad : Nat → Nat} {cs : Nat → ClassId} {post : Int32 → St → Prop} (C : CxM X ad cs cX7_feed RX7 0 0) (hn : xnL X = 8) (hR : rtI X cX7_feed (wM ad cs) post) (u : St) (hw : wp_X7_feed_131 u post) : Z X (wM ad cs u) 131 [(0, .ref (ad 0))] [] := by
  unfold wp_X7_feed_131 at hw
  refine z_aload_n C.1 dX7_feed_131 rfl 0 rfl ?_
  refine gM_0_code C mF_X7_116 dX7_feed_132 ?_
  refine z_if_le (tgt := 142) C.1 dX7_feed_135 (by decide) (fun c13 => ?_) (fun c13 => ?_)
  · replace hw := hw.1 c13
    refine z_aload_n C.1 dX7_feed_142 rfl 0 rfl ?_
    refine gM_0_size C mF_X7_119 dX7_feed_143 ?_
    exact hR _ _ _ _ dX7_feed_146 hw
  · replace hw := hw.2 c13
    refine z_iconst (v := 0) C.1 dX7_feed_138 (by decide) ?_
    refine z_goto (tgt := 146) C.1 dX7_feed_139 (by decide) ?_
    exact hR _ _ _ _ dX7_feed_146 hw
def wp_X7_feed_90 (K42 : St → Int32 → Int32 → Int32 → Int32 → Int32 → Int32 → Prop) (u : St) (x1 : Int32) (x2 : Int32) (x3 : Int32) (x4 : Int32) (x5 : Int32) (x6 : Int32) (y0 : Int32) (post : Int32 → St → Prop) : Prop :=
  (vp_in (gI u 1) 1500 ∧ nm (sA u 1 (ix (gI u 1)) (vp_nar .byte (Int8.toInt32 (Int32.toInt8 (y0 >>> ((24 - (8 * (x6 - x6 / 4 * 4))) &&& 31)))))) (fun u10 : St => nm (sI u10 1 ((gI u10 1) + 1)) (fun u11 : St => nm (x6 + 1) (fun v12 : Int32 => K42 u11 x1 x2 x3 x4 x5 v12))))
set_option maxHeartbeats 4000000 in
set_option maxRecDepth 20000 in
theorem z_X7_feed_90 {X : XX} {ad : Nat → Nat} {cs : Nat → ClassId} {post : Int32 → St → Prop} (C : CxM X ad cs cX7_feed RX7 0 0) (hn : xnL X = 8) (hR : rtI X cX7_feed (wM ad cs) post) {K42 : St → Int32 → Int32 → Int32 → Int32 → Int32 → Int32 → Prop} (hK42 : ∀ (u : St) (x1 : Int32) (x2 : Int32) (x3 : Int32) (x4 : Int32) (x5 : Int32) (x6 : Int32), K42 u x1 x2 x3 x4 x5 x6 → Z X (wM ad cs u) 42 [(0, .ref (ad 0)), (1, .int x1), (2, .int x2), (3, .int x3), (4, .int x4), (5, .int x5), (6, .int x6)] []) (u : St) (x1 : Int32) (x2 : Int32) (x3 : Int32) (x4 : Int32) (x5 : Int32) (x6 : Int32) (y0 : Int32) (hw : wp_X7_feed_90 K42 u x1 x2 x3 x4 x5 x6 y0 post) : Z X (wM ad cs u) 90 [(0, .ref (ad 0)), (1, .int x1), (2, .int x2), (3, .int x3), (4, .int x4), (5, .int x5), (6, .int x6)] [.int y0] := by
  unfold wp_X7_feed_90 at hw
  refine z_istore (lv' := [(7, .int y0), (0, .ref (ad 0)), (1, .int x1), (2, .int x2), (3, .int x3), (4, .int x4), (5, .int x5), (6, .int x6)]) C.1 dX7_feed_90 (by rw [hn]; decide) rfl ?_
  refine z_aload_n C.1 dX7_feed_92 rfl 1 rfl ?_
  refine gM_0_tape C mF_X7_7 dX7_feed_93 ?_
  refine z_aload_n C.1 dX7_feed_96 rfl 1 rfl ?_
  refine gM_0_size C mF_X7_119 dX7_feed_97 ?_
  refine z_iload C.1 dX7_feed_100 0 rfl ?_
  refine z_bipush (v := 24) C.1 dX7_feed_102 (by decide) ?_
  refine z_bipush (v := 8) C.1 dX7_feed_104 (by decide) ?_
  refine z_iload C.1 dX7_feed_106 7 rfl ?_
  refine z_iconst (v := 4) C.1 dX7_feed_108 (by decide) ?_
  refine z_irem C.1 dX7_feed_109 (by decide) ?_
  refine z_imul C.1 dX7_feed_110 ?_
  refine z_isub C.1 dX7_feed_111 ?_
  refine z_ishr C.1 dX7_feed_112 ?_
  refine z_i2b C.1 dX7_feed_113 ?_
  refine sM_1 C hw.1 dX7_feed_114 (fun u10 eu10 => ?_)
  replace hw := hw.2 u10 eu10
  refine z_aload_n C.1 dX7_feed_115 rfl 1 rfl ?_
  refine z_dup C.1 dX7_feed_116 rfl ?_
  refine gM_0_size C mF_X7_119 dX7_feed_117 ?_
  refine z_iconst (v := 1) C.1 dX7_feed_120 (by decide) ?_
  refine z_iadd C.1 dX7_feed_121 ?_
  refine pM_0_size C mF_X7_119 dX7_feed_122 (fun u11 eu11 => ?_)
  replace hw := hw u11 eu11
  obtain ⟨v12, ev12⟩ : ∃ z : Int32, z = x6 + 1 := ⟨_, rfl⟩
  replace hw := hw v12 ev12
  refine z_iinc (v := v12) (lv' := [(6, .int v12), (7, .int y0), (0, .ref (ad 0)), (1, .int x1), (2, .int x2), (3, .int x3), (4, .int x4), (5, .int x5)]) C.1 (j := 7) dX7_feed_125 rfl (by rw [ev12]; rfl) (by rw [hn]; decide) rfl ?_
  refine z_goto (tgt := 42) C.1 dX7_feed_128 (by decide) ?_
  refine z_lv [2, 3, 4, 5, 6, 7, 0] rfl ?_
  exact hK42 _ _ _ _ _ _ _ hw
def wp_X7_feed_42s (K42 : St → Int32 → Int32 → Int32 → Int32 → Int32 → Int32 → Prop) (u : St) (x1 : Int32) (x2 : Int32) (x3 : Int32) (x4 : Int32) (x5 : Int32) (x6 : Int32) (post : Int32 → St → Prop) : Prop :=
  br (x5 ≤ x6) (wp_X7_feed_131 u post) (br ((gI u 0) = 0) (br (4 ≤ x6) (br (8 ≤ x6) (br (12 ≤ x6) (wp_X7_feed_90 K42 u x1 x2 x3 x4 x5 x6 x4 post) (wp_X7_feed_90 K42 u x1 x2 x3 x4 x5 x6 x3 post)) (wp_X7_feed_90 K42 u x1 x2 x3 x4 x5 x6 x2 post)) (wp_X7_feed_90 K42 u x1 x2 x3 x4 x5 x6 x1 post)) (wp_X7_feed_131 u post))
def wp_X7_feed_42 (post : Int32 → St → Prop) : Nat → St → Int32 → Int32 → Int32 → Int32 → Int32 → Int32 → Prop
  | 0 => fun _ _ _ _ _ _ _ => False
  | n + 1 => fun u x1 x2 x3 x4 x5 x6 => wp_X7_feed_42s (wp_X7_feed_42 post n) u x1 x2 x3 x4 x5 x6 post
set_option maxHeartbeats 4000000 in
set_option maxRecDepth 20000 in
theorem z_X7_feed_42s {X : XX} {ad : Nat → Nat} {cs : Nat → ClassId} {post : Int32 → St → Prop} (C : CxM X ad cs cX7_feed RX7 0 0) (hn : xnL X = 8) (hR : rtI X cX7_feed (wM ad cs) post) {K42 : St → Int32 → Int32 → Int32 → Int32 → Int32 → Int32 → Prop} (hK42 : ∀ (u : St) (x1 : Int32) (x2 : Int32) (x3 : Int32) (x4 : Int32) (x5 : Int32) (x6 : Int32), K42 u x1 x2 x3 x4 x5 x6 → Z X (wM ad cs u) 42 [(0, .ref (ad 0)), (1, .int x1), (2, .int x2), (3, .int x3), (4, .int x4), (5, .int x5), (6, .int x6)] []) (u : St) (x1 : Int32) (x2 : Int32) (x3 : Int32) (x4 : Int32) (x5 : Int32) (x6 : Int32) (hw : wp_X7_feed_42s K42 u x1 x2 x3 x4 x5 x6 post) : Z X (wM ad cs u) 42 [(0, .ref (ad 0)), (1, .int x1), (2, .int x2), (3, .int x3), (4, .int x4), (5, .int x5), (6, .int x6)] [] := by
  unfold wp_X7_feed_42s at hw
  refine z_iload C.1 dX7_feed_42 6 rfl ?_
  refine z_iload C.1 dX7_feed_44 5 rfl ?_
  refine z_icmp_ge (tgt := 131) C.1 dX7_feed_46 (by decide) (fun c5 => ?_) (fun c5 => ?_)
  · replace hw := hw.1 c5
    refine z_lv [0] rfl ?_
    exact z_X7_feed_131 C hn hR _ hw
  · replace hw := hw.2 c5
    refine z_aload_n C.1 dX7_feed_49 rfl 0 rfl ?_
    refine gM_0_code C mF_X7_116 dX7_feed_50 ?_
    refine z_if_ne (tgt := 131) C.1 dX7_feed_53 (by decide) (fun c6 => ?_) (fun c6 => ?_)
    · replace hw := hw.2 c6
      refine z_lv [0] rfl ?_
      exact z_X7_feed_131 C hn hR _ hw
    · replace hw := hw.1 c6
      refine z_iload C.1 dX7_feed_56 6 rfl ?_
      refine z_iconst (v := 4) C.1 dX7_feed_58 (by decide) ?_
      refine z_icmp_ge (tgt := 66) C.1 dX7_feed_59 (by decide) (fun c7 => ?_) (fun c7 => ?_)
      · replace hw := hw.1 c7
        refine z_iload C.1 dX7_feed_66 6 rfl ?_
        refine z_bipush (v := 8) C.1 dX7_feed_68 (by decide) ?_
        refine z_icmp_ge (tgt := 77) C.1 dX7_feed_70 (by decide) (fun c8 => ?_) (fun c8 => ?_)
        · replace hw := hw.1 c8
          refine z_iload C.1 dX7_feed_77 6 rfl ?_
          refine z_bipush (v := 12) C.1 dX7_feed_79 (by decide) ?_
          refine z_icmp_ge (tgt := 88) C.1 dX7_feed_81 (by decide) (fun c9 => ?_) (fun c9 => ?_)
          · replace hw := hw.1 c9
            refine z_iload C.1 dX7_feed_88 4 rfl ?_
            refine z_lv [0, 1, 2, 3, 4, 5, 6] rfl ?_
            exact z_X7_feed_90 C hn hR hK42 _ _ _ _ _ _ _ _ hw
          · replace hw := hw.2 c9
            refine z_iload_n C.1 dX7_feed_84 rfl 3 rfl ?_
            refine z_goto (tgt := 90) C.1 dX7_feed_85 (by decide) ?_
            refine z_lv [0, 1, 2, 3, 4, 5, 6] rfl ?_
            exact z_X7_feed_90 C hn hR hK42 _ _ _ _ _ _ _ _ hw
        · replace hw := hw.2 c8
          refine z_iload_n C.1 dX7_feed_73 rfl 2 rfl ?_
          refine z_goto (tgt := 90) C.1 dX7_feed_74 (by decide) ?_
          refine z_lv [0, 1, 2, 3, 4, 5, 6] rfl ?_
          exact z_X7_feed_90 C hn hR hK42 _ _ _ _ _ _ _ _ hw
      · replace hw := hw.2 c7
        refine z_iload_n C.1 dX7_feed_62 rfl 1 rfl ?_
        refine z_goto (tgt := 90) C.1 dX7_feed_63 (by decide) ?_
        refine z_lv [0, 1, 2, 3, 4, 5, 6] rfl ?_
        exact z_X7_feed_90 C hn hR hK42 _ _ _ _ _ _ _ _ hw
theorem z_X7_feed_42 {X : XX} {ad : Nat → Nat} {cs : Nat → ClassId} {post : Int32 → St → Prop} (C : CxM X ad cs cX7_feed RX7 0 0) (hn : xnL X = 8) (hR : rtI X cX7_feed (wM ad cs) post) : ∀ (n : Nat) (u : St) (x1 : Int32) (x2 : Int32) (x3 : Int32) (x4 : Int32) (x5 : Int32) (x6 : Int32), wp_X7_feed_42 post n u x1 x2 x3 x4 x5 x6 → Z X (wM ad cs u) 42 [(0, .ref (ad 0)), (1, .int x1), (2, .int x2), (3, .int x3), (4, .int x4), (5, .int x5), (6, .int x6)] []
  | 0, _, _, _, _, _, _, _, hw => absurd hw (fun h => h)
  | n + 1, u, x1, x2, x3, x4, x5, x6, hw => z_X7_feed_42s C hn hR (z_X7_feed_42 C hn hR n) u x1 x2 x3 x4 x5 x6 hw
def wp_X7_feed_36 (u : St) (x1 : Int32) (x2 : Int32) (x3 : Int32) (x4 : Int32) (x5 : Int32) (y0 : Int32) (post : Int32 → St → Prop) : Prop :=
  nm (sI u 0 y0) (fun u4 : St => ∃ n, wp_X7_feed_42 post n u4 x1 x2 x3 x4 x5 0)
set_option maxHeartbeats 4000000 in
set_option maxRecDepth 20000 in
theorem z_X7_feed_36 {X : XX} {ad : Nat → Nat} {cs : Nat → ClassId} {post : Int32 → St → Prop} (C : CxM X ad cs cX7_feed RX7 0 0) (hn : xnL X = 8) (hR : rtI X cX7_feed (wM ad cs) post) (u : St) (x1 : Int32) (x2 : Int32) (x3 : Int32) (x4 : Int32) (x5 : Int32) (y0 : Int32) (hw : wp_X7_feed_36 u x1 x2 x3 x4 x5 y0 post) : Z X (wM ad cs u) 36 [(0, .ref (ad 0)), (1, .int x1), (2, .int x2), (3, .int x3), (4, .int x4), (5, .int x5)] [.int y0, .ref (ad 0)] := by
  unfold wp_X7_feed_36 at hw
  refine pM_0_code C mF_X7_116 dX7_feed_36 (fun u4 eu4 => ?_)
  replace hw := hw u4 eu4
  refine z_iconst (v := 0) C.1 dX7_feed_39 (by decide) ?_
  refine z_istore (lv' := [(6, .int 0), (0, .ref (ad 0)), (1, .int x1), (2, .int x2), (3, .int x3), (4, .int x4), (5, .int x5)]) C.1 dX7_feed_40 (by rw [hn]; decide) rfl ?_
  refine z_lv [1, 2, 3, 4, 5, 6, 0] rfl ?_
  obtain ⟨n, hw⟩ := hw
  exact z_X7_feed_42 C hn hR n _ _ _ _ _ _ _ hw
def wp_X7_feed_14 (u : St) (x1 : Int32) (x2 : Int32) (x3 : Int32) (x4 : Int32) (x5 : Int32) (post : Int32 → St → Prop) : Prop :=
  wp_X7_feed_36 u x1 x2 x3 x4 x5 1 post
set_option maxHeartbeats 4000000 in
set_option maxRecDepth 20000 in
theorem z_X7_feed_14 {X : XX} {ad : Nat → Nat} {cs : Nat → ClassId} {post : Int32 → St → Prop} (C : CxM X ad cs cX7_feed RX7 0 0) (hn : xnL X = 8) (hR : rtI X cX7_feed (wM ad cs) post) (u : St) (x1 : Int32) (x2 : Int32) (x3 : Int32) (x4 : Int32) (x5 : Int32) (hw : wp_X7_feed_14 u x1 x2 x3 x4 x5 post) : Z X (wM ad cs u) 14 [(0, .ref (ad 0)), (1, .int x1), (2, .int x2), (3, .int x3), (4, .int x4), (5, .int x5)] [.ref (ad 0)] := by
  unfold wp_X7_feed_14 at hw
  refine z_iconst (v := 1) C.1 dX7_feed_14 (by decide) ?_
  refine z_goto (tgt := 36) C.1 dX7_feed_15 (by decide) ?_
  refine z_lv [0, 1, 2, 3, 4, 5] rfl ?_
  exact z_X7_feed_36 C hn hR _ _ _ _ _ _ _ hw
def wp_X7_feed (u : St) (x1 : Int32) (x2 : Int32) (x3 : Int32) (x4 : Int32) (x5 : Int32) (post : Int32 → St → Prop) : Prop :=
  br (x5 < 1) (wp_X7_feed_14 u x1 x2 x3 x4 x5 post) (br (x5 ≤ 16) (br (((gI u 1) + x5) ≤ 1500) (wp_X7_feed_36 u x1 x2 x3 x4 x5 0 post) (wp_X7_feed_36 u x1 x2 x3 x4 x5 2 post)) (wp_X7_feed_14 u x1 x2 x3 x4 x5 post))
set_option maxHeartbeats 4000000 in
set_option maxRecDepth 20000 in
theorem z_X7_feed {X : XX} {ad : Nat → Nat} {cs : Nat → ClassId} {post : Int32 → St → Prop} (C : CxM X ad cs cX7_feed RX7 0 0) (hn : xnL X = 8) (hR : rtI X cX7_feed (wM ad cs) post) (u : St) (x1 : Int32) (x2 : Int32) (x3 : Int32) (x4 : Int32) (x5 : Int32) (hw : wp_X7_feed u x1 x2 x3 x4 x5 post) : Z X (wM ad cs u) 0 [(0, .ref (ad 0)), (1, .int x1), (2, .int x2), (3, .int x3), (4, .int x4), (5, .int x5)] [] := by
  unfold wp_X7_feed at hw
  refine z_aload_n C.1 dX7_feed_0 rfl 0 rfl ?_
  refine z_iload C.1 dX7_feed_1 5 rfl ?_
  refine z_iconst (v := 1) C.1 dX7_feed_3 (by decide) ?_
  refine z_icmp_lt (tgt := 14) C.1 dX7_feed_4 (by decide) (fun c1 => ?_) (fun c1 => ?_)
  · replace hw := hw.1 c1
    refine z_lv [0, 1, 2, 3, 4, 5] rfl ?_
    exact z_X7_feed_14 C hn hR _ _ _ _ _ _ hw
  · replace hw := hw.2 c1
    refine z_iload C.1 dX7_feed_7 5 rfl ?_
    refine z_bipush (v := 16) C.1 dX7_feed_9 (by decide) ?_
    refine z_icmp_le (tgt := 18) C.1 dX7_feed_11 (by decide) (fun c2 => ?_) (fun c2 => ?_)
    · replace hw := hw.1 c2
      refine z_aload_n C.1 dX7_feed_18 rfl 0 rfl ?_
      refine gM_0_size C mF_X7_119 dX7_feed_19 ?_
      refine z_iload C.1 dX7_feed_22 5 rfl ?_
      refine z_iadd C.1 dX7_feed_24 ?_
      refine z_sipush (v := 1500) C.1 dX7_feed_25 (by decide) ?_
      refine z_icmp_le (tgt := 35) C.1 dX7_feed_28 (by decide) (fun c3 => ?_) (fun c3 => ?_)
      · replace hw := hw.1 c3
        refine z_iconst (v := 0) C.1 dX7_feed_35 (by decide) ?_
        refine z_lv [0, 1, 2, 3, 4, 5] rfl ?_
        exact z_X7_feed_36 C hn hR _ _ _ _ _ _ _ hw
      · replace hw := hw.2 c3
        refine z_iconst (v := 2) C.1 dX7_feed_31 (by decide) ?_
        refine z_goto (tgt := 36) C.1 dX7_feed_32 (by decide) ?_
        refine z_lv [0, 1, 2, 3, 4, 5] rfl ?_
        exact z_X7_feed_36 C hn hR _ _ _ _ _ _ _ hw
    · replace hw := hw.2 c2
      refine z_lv [0, 1, 2, 3, 4, 5] rfl ?_
      exact z_X7_feed_14 C hn hR _ _ _ _ _ _ hw
theorem c_X7_feed {l : Launch} {D : va_G} {A : Nat → Prop} {ad : Nat → Nat} {cs : Nat → ClassId} (hD : ∀ u : St, va_D A (wM ad cs u)) (u : St) (x1 : Int32) (x2 : Int32) (x3 : Int32) (x4 : Int32) (x5 : Int32) (post : Int32 → St → Prop) (hw : wp_X7_feed u x1 x2 x3 x4 x5 post) : MI (ad 90, ad 91) l yX7_feed cX7_feed 8 (some .int) (rmm 0 0) D (tysM cs) A (wM ad cs) u [.ref (ad 0), .int x1, .int x2, .int x3, .int x4, .int x5] post :=
  met_i (by decide) (Nat.le_of_ble_eq_true rfl) (fun X C _ _ ht hA hn hsg hR => z_X7_feed ⟨C, ht, fun u => by rw [hA]; exact hD u, hsg⟩ hn hR u x1 x2 x3 x4 x5 hw)
theorem k_X7_feed {X : XX} {ad : Nat → Nat} {cs : Nat → ClassId} {cc : ByteArray} {own : String} {fr lo pc : Nat} {lv : List (Nat × Value)} {st : List Value} {u : St} (C : CxM X ad cs cc own fr lo) {idx : Nat} {x1 : Int32} {x2 : Int32} {x3 : Int32} {x4 : Int32} {x5 : Int32} {P : Int32 → St → Prop} (hlink : Cond.methodLink own idx yX7_feed ∈ W0) (hw : wp_X7_feed u x1 x2 x3 x4 x5 P) (hr : 0 + 1 ≤ fr ∧ 8 + (8 + 11) + 0 ≤ lo) (hst : (st.map fun v => v.category).sum ≤ 8) (hdg : decode cc pc = .ok (.invokevirtual idx, 3)) (k : ∀ (r : Int32) (u2 : St), P r u2 → Z X (wM ad cs u2) (pc + 3) lv (.int r :: st)) : Z X (wM ad cs u) pc lv (.int x5 :: .int x4 :: .int x3 :: .int x2 :: .int x1 :: .ref (ad 0) :: st) :=
  z_callVi (wf := wM ad cs) (As := [.int x1, .int x2, .int x3, .int x4, .int x5]) (rest := st) C.1 5 (q0 := 0) mI_X7_feed mS_X7_feed rfl rfl (by rw [C.2.1, C.2.2.2]; exact c_X7_feed C.2.2.1 u x1 x2 x3 x4 x5 P hw) mC_X7_feed mZ_X7 (by decide +kernel) rfl hlink hr hst hdg k

def wp_X7_isBlank_24 (u : St) (post : Int32 → St → Prop) : Prop :=
  (bz 1 ∧ post 1 u)
set_option maxHeartbeats 4000000 in
set_option maxRecDepth 20000 in
theorem z_X7_isBlank_24 {X : XX} {ad : Nat → Nat} {cs : Nat → ClassId} {post : Int32 → St → Prop} (C : CxM X ad cs cX7_isBlank RX7 0 0) (hn : xnL X = 1) (hR : rtZ X cX7_isBlank (wM ad cs) post) (u : St) (hw : wp_X7_isBlank_24 u post) : Z X (wM ad cs u) 24 [] [] := by
  unfold wp_X7_isBlank_24 at hw
  refine z_iconst (v := 1) C.1 dX7_isBlank_24 (by decide) ?_
  refine z_goto (tgt := 29) C.1 dX7_isBlank_25 (by decide) ?_
  exact hR _ _ _ _ dX7_isBlank_29 hw
def wp_X7_isBlank (u : St) (x0 : Int32) (post : Int32 → St → Prop) : Prop :=
  br (x0 = 9) (wp_X7_isBlank_24 u post) (br (x0 = 10) (wp_X7_isBlank_24 u post) (br (x0 = 13) (wp_X7_isBlank_24 u post) (br (x0 = 32) (wp_X7_isBlank_24 u post) ((bz 0 ∧ post 0 u)))))
set_option maxHeartbeats 4000000 in
set_option maxRecDepth 20000 in
theorem z_X7_isBlank {X : XX} {ad : Nat → Nat} {cs : Nat → ClassId} {post : Int32 → St → Prop} (C : CxM X ad cs cX7_isBlank RX7 0 0) (hn : xnL X = 1) (hR : rtZ X cX7_isBlank (wM ad cs) post) (u : St) (x0 : Int32) (hw : wp_X7_isBlank u x0 post) : Z X (wM ad cs u) 0 [(0, .int x0)] [] := by
  unfold wp_X7_isBlank at hw
  refine z_iload_n C.1 dX7_isBlank_0 rfl 0 rfl ?_
  refine z_bipush (v := 9) C.1 dX7_isBlank_1 (by decide) ?_
  refine z_icmp_eq (tgt := 24) C.1 dX7_isBlank_3 (by decide) (fun c1 => ?_) (fun c1 => ?_)
  · replace hw := hw.1 c1
    refine z_lv [] rfl ?_
    exact z_X7_isBlank_24 C hn hR _ hw
  · replace hw := hw.2 c1
    refine z_iload_n C.1 dX7_isBlank_6 rfl 0 rfl ?_
    refine z_bipush (v := 10) C.1 dX7_isBlank_7 (by decide) ?_
    refine z_icmp_eq (tgt := 24) C.1 dX7_isBlank_9 (by decide) (fun c2 => ?_) (fun c2 => ?_)
    · replace hw := hw.1 c2
      refine z_lv [] rfl ?_
      exact z_X7_isBlank_24 C hn hR _ hw
    · replace hw := hw.2 c2
      refine z_iload_n C.1 dX7_isBlank_12 rfl 0 rfl ?_
      refine z_bipush (v := 13) C.1 dX7_isBlank_13 (by decide) ?_
      refine z_icmp_eq (tgt := 24) C.1 dX7_isBlank_15 (by decide) (fun c3 => ?_) (fun c3 => ?_)
      · replace hw := hw.1 c3
        refine z_lv [] rfl ?_
        exact z_X7_isBlank_24 C hn hR _ hw
      · replace hw := hw.2 c3
        refine z_iload_n C.1 dX7_isBlank_18 rfl 0 rfl ?_
        refine z_bipush (v := 32) C.1 dX7_isBlank_19 (by decide) ?_
        refine z_icmp_ne (tgt := 28) C.1 dX7_isBlank_21 (by decide) (fun c4 => ?_) (fun c4 => ?_)
        · replace hw := hw.2 c4
          refine z_iconst (v := 0) C.1 dX7_isBlank_28 (by decide) ?_
          exact hR _ _ _ _ dX7_isBlank_29 hw
        · replace hw := hw.1 c4
          refine z_lv [] rfl ?_
          exact z_X7_isBlank_24 C hn hR _ hw
theorem c_X7_isBlank {l : Launch} {D : va_G} {A : Nat → Prop} {ad : Nat → Nat} {cs : Nat → ClassId} (hD : ∀ u : St, va_D A (wM ad cs u)) (u : St) (x0 : Int32) (post : Int32 → St → Prop) (hw : wp_X7_isBlank u x0 post) : MI (ad 90, ad 91) l yX7_isBlank cX7_isBlank 1 (some .boolean) (rmm 0 0) D (tysM cs) A (wM ad cs) u [.int x0] post :=
  met_z (by decide) (Nat.le_of_ble_eq_true rfl) (fun X C _ _ ht hA hn hsg hR => z_X7_isBlank ⟨C, ht, fun u => by rw [hA]; exact hD u, hsg⟩ hn hR u x0 hw)
theorem k_X7_isBlank {X : XX} {ad : Nat → Nat} {cs : Nat → ClassId} {cc : ByteArray} {own : String} {fr lo pc : Nat} {lv : List (Nat × Value)} {st : List Value} {u : St} (C : CxM X ad cs cc own fr lo) {idx : Nat} {x0 : Int32} {P : Int32 → St → Prop} (hlink : Cond.methodLink own idx yX7_isBlank ∈ W0) (hw : wp_X7_isBlank u x0 P) (hr : 0 + 1 ≤ fr ∧ 8 + (1 + 11) + 0 ≤ lo) (hst : (st.map fun v => v.category).sum ≤ 8) (hdg : decode cc pc = .ok (.invokestatic idx, 3)) (k : ∀ (r : Int32) (u2 : St), P r u2 → Z X (wM ad cs u2) (pc + 3) lv (.int r :: st)) : Z X (wM ad cs u) pc lv (.int x0 :: st) :=
  z_callSi (wf := wM ad cs) (As := [.int x0]) (rest := st) C.1 1 mT_X7_isBlank (by rw [C.2.1, C.2.2.2]; exact c_X7_isBlank C.2.2.1 u x0 P hw) mC_X7_isBlank mZ_X7 (by decide +kernel) rfl hlink hr hst hdg k

def wp_X7_isLetter (u : St) (x0 : Int32) (post : Int32 → St → Prop) : Prop :=
  br (x0 < 97) ((bz 0 ∧ post 0 u)) (br (122 < x0) ((bz 0 ∧ post 0 u)) ((bz 1 ∧ post 1 u)))
set_option maxHeartbeats 4000000 in
set_option maxRecDepth 20000 in
theorem z_X7_isLetter {X : XX} {ad : Nat → Nat} {cs : Nat → ClassId} {post : Int32 → St → Prop} (C : CxM X ad cs cX7_isLetter RX7 0 0) (hn : xnL X = 1) (hR : rtZ X cX7_isLetter (wM ad cs) post) (u : St) (x0 : Int32) (hw : wp_X7_isLetter u x0 post) : Z X (wM ad cs u) 0 [(0, .int x0)] [] := by
  unfold wp_X7_isLetter at hw
  refine z_iload_n C.1 dX7_isLetter_0 rfl 0 rfl ?_
  refine z_bipush (v := 97) C.1 dX7_isLetter_1 (by decide) ?_
  refine z_icmp_lt (tgt := 16) C.1 dX7_isLetter_3 (by decide) (fun c1 => ?_) (fun c1 => ?_)
  · replace hw := hw.1 c1
    refine z_iconst (v := 0) C.1 dX7_isLetter_16 (by decide) ?_
    exact hR _ _ _ _ dX7_isLetter_17 hw
  · replace hw := hw.2 c1
    refine z_iload_n C.1 dX7_isLetter_6 rfl 0 rfl ?_
    refine z_bipush (v := 122) C.1 dX7_isLetter_7 (by decide) ?_
    refine z_icmp_gt (tgt := 16) C.1 dX7_isLetter_9 (by decide) (fun c2 => ?_) (fun c2 => ?_)
    · replace hw := hw.1 c2
      refine z_iconst (v := 0) C.1 dX7_isLetter_16 (by decide) ?_
      exact hR _ _ _ _ dX7_isLetter_17 hw
    · replace hw := hw.2 c2
      refine z_iconst (v := 1) C.1 dX7_isLetter_12 (by decide) ?_
      refine z_goto (tgt := 17) C.1 dX7_isLetter_13 (by decide) ?_
      exact hR _ _ _ _ dX7_isLetter_17 hw
theorem c_X7_isLetter {l : Launch} {D : va_G} {A : Nat → Prop} {ad : Nat → Nat} {cs : Nat → ClassId} (hD : ∀ u : St, va_D A (wM ad cs u)) (u : St) (x0 : Int32) (post : Int32 → St → Prop) (hw : wp_X7_isLetter u x0 post) : MI (ad 90, ad 91) l yX7_isLetter cX7_isLetter 1 (some .boolean) (rmm 0 0) D (tysM cs) A (wM ad cs) u [.int x0] post :=
  met_z (by decide) (Nat.le_of_ble_eq_true rfl) (fun X C _ _ ht hA hn hsg hR => z_X7_isLetter ⟨C, ht, fun u => by rw [hA]; exact hD u, hsg⟩ hn hR u x0 hw)
theorem k_X7_isLetter {X : XX} {ad : Nat → Nat} {cs : Nat → ClassId} {cc : ByteArray} {own : String} {fr lo pc : Nat} {lv : List (Nat × Value)} {st : List Value} {u : St} (C : CxM X ad cs cc own fr lo) {idx : Nat} {x0 : Int32} {P : Int32 → St → Prop} (hlink : Cond.methodLink own idx yX7_isLetter ∈ W0) (hw : wp_X7_isLetter u x0 P) (hr : 0 + 1 ≤ fr ∧ 8 + (1 + 11) + 0 ≤ lo) (hst : (st.map fun v => v.category).sum ≤ 8) (hdg : decode cc pc = .ok (.invokestatic idx, 3)) (k : ∀ (r : Int32) (u2 : St), P r u2 → Z X (wM ad cs u2) (pc + 3) lv (.int r :: st)) : Z X (wM ad cs u) pc lv (.int x0 :: st) :=
  z_callSi (wf := wM ad cs) (As := [.int x0]) (rest := st) C.1 1 mT_X7_isLetter (by rw [C.2.1, C.2.2.2]; exact c_X7_isLetter C.2.2.1 u x0 P hw) mC_X7_isLetter mZ_X7 (by decide +kernel) rfl hlink hr hst hdg k

def wp_X7_isDigit (u : St) (x0 : Int32) (post : Int32 → St → Prop) : Prop :=
  br (x0 < 48) ((bz 0 ∧ post 0 u)) (br (57 < x0) ((bz 0 ∧ post 0 u)) ((bz 1 ∧ post 1 u)))
set_option maxHeartbeats 4000000 in
set_option maxRecDepth 20000 in
theorem z_X7_isDigit {X : XX} {ad : Nat → Nat} {cs : Nat → ClassId} {post : Int32 → St → Prop} (C : CxM X ad cs cX7_isDigit RX7 0 0) (hn : xnL X = 1) (hR : rtZ X cX7_isDigit (wM ad cs) post) (u : St) (x0 : Int32) (hw : wp_X7_isDigit u x0 post) : Z X (wM ad cs u) 0 [(0, .int x0)] [] := by
  unfold wp_X7_isDigit at hw
  refine z_iload_n C.1 dX7_isDigit_0 rfl 0 rfl ?_
  refine z_bipush (v := 48) C.1 dX7_isDigit_1 (by decide) ?_
  refine z_icmp_lt (tgt := 16) C.1 dX7_isDigit_3 (by decide) (fun c1 => ?_) (fun c1 => ?_)
  · replace hw := hw.1 c1
    refine z_iconst (v := 0) C.1 dX7_isDigit_16 (by decide) ?_
    exact hR _ _ _ _ dX7_isDigit_17 hw
  · replace hw := hw.2 c1
    refine z_iload_n C.1 dX7_isDigit_6 rfl 0 rfl ?_
    refine z_bipush (v := 57) C.1 dX7_isDigit_7 (by decide) ?_
    refine z_icmp_gt (tgt := 16) C.1 dX7_isDigit_9 (by decide) (fun c2 => ?_) (fun c2 => ?_)
    · replace hw := hw.1 c2
      refine z_iconst (v := 0) C.1 dX7_isDigit_16 (by decide) ?_
      exact hR _ _ _ _ dX7_isDigit_17 hw
    · replace hw := hw.2 c2
      refine z_iconst (v := 1) C.1 dX7_isDigit_12 (by decide) ?_
      refine z_goto (tgt := 17) C.1 dX7_isDigit_13 (by decide) ?_
      exact hR _ _ _ _ dX7_isDigit_17 hw
theorem c_X7_isDigit {l : Launch} {D : va_G} {A : Nat → Prop} {ad : Nat → Nat} {cs : Nat → ClassId} (hD : ∀ u : St, va_D A (wM ad cs u)) (u : St) (x0 : Int32) (post : Int32 → St → Prop) (hw : wp_X7_isDigit u x0 post) : MI (ad 90, ad 91) l yX7_isDigit cX7_isDigit 1 (some .boolean) (rmm 0 0) D (tysM cs) A (wM ad cs) u [.int x0] post :=
  met_z (by decide) (Nat.le_of_ble_eq_true rfl) (fun X C _ _ ht hA hn hsg hR => z_X7_isDigit ⟨C, ht, fun u => by rw [hA]; exact hD u, hsg⟩ hn hR u x0 hw)
theorem k_X7_isDigit {X : XX} {ad : Nat → Nat} {cs : Nat → ClassId} {cc : ByteArray} {own : String} {fr lo pc : Nat} {lv : List (Nat × Value)} {st : List Value} {u : St} (C : CxM X ad cs cc own fr lo) {idx : Nat} {x0 : Int32} {P : Int32 → St → Prop} (hlink : Cond.methodLink own idx yX7_isDigit ∈ W0) (hw : wp_X7_isDigit u x0 P) (hr : 0 + 1 ≤ fr ∧ 8 + (1 + 11) + 0 ≤ lo) (hst : (st.map fun v => v.category).sum ≤ 8) (hdg : decode cc pc = .ok (.invokestatic idx, 3)) (k : ∀ (r : Int32) (u2 : St), P r u2 → Z X (wM ad cs u2) (pc + 3) lv (.int r :: st)) : Z X (wM ad cs u) pc lv (.int x0 :: st) :=
  z_callSi (wf := wM ad cs) (As := [.int x0]) (rest := st) C.1 1 mT_X7_isDigit (by rw [C.2.1, C.2.2.2]; exact c_X7_isDigit C.2.2.1 u x0 P hw) mC_X7_isDigit mZ_X7 (by decide +kernel) rfl hlink hr hst hdg k

def wp_X7_isRow_32 (u : St) (post : Int32 → St → Prop) : Prop :=
  (bz 1 ∧ post 1 u)
set_option maxHeartbeats 4000000 in
set_option maxRecDepth 20000 in
theorem z_X7_isRow_32 {X : XX} {ad : Nat → Nat} {cs : Nat → ClassId} {post : Int32 → St → Prop} (C : CxM X ad cs cX7_isRow RX7 1 20) (hn : xnL X = 2) (hR : rtZ X cX7_isRow (wM ad cs) post) (u : St) (hw : wp_X7_isRow_32 u post) : Z X (wM ad cs u) 32 [] [] := by
  unfold wp_X7_isRow_32 at hw
  refine z_iconst (v := 1) C.1 dX7_isRow_32 (by decide) ?_
  refine z_goto (tgt := 37) C.1 dX7_isRow_33 (by decide) ?_
  exact hR _ _ _ _ dX7_isRow_37 hw
def wp_X7_isRow (u : St) (x1 : Int32) (post : Int32 → St → Prop) : Prop :=
  br ((gI u 1) ≤ x1) ((bz 0 ∧ post 0 u)) ((vp_in x1 1500 ∧ wp_X7_isLetter u (gA u 1 (ix x1)) (fun (r3 : Int32) (u2 : St) => br (r3 = 0) ((vp_in x1 1500 ∧ wp_X7_isDigit u2 (gA u2 1 (ix x1)) (fun (r6 : Int32) (u5 : St) => br (r6 = 0) ((bz 0 ∧ post 0 u5)) (wp_X7_isRow_32 u5 post)))) (wp_X7_isRow_32 u2 post))))
set_option maxHeartbeats 4000000 in
set_option maxRecDepth 20000 in
theorem z_X7_isRow {X : XX} {ad : Nat → Nat} {cs : Nat → ClassId} {post : Int32 → St → Prop} (C : CxM X ad cs cX7_isRow RX7 1 20) (hn : xnL X = 2) (hR : rtZ X cX7_isRow (wM ad cs) post) (u : St) (x1 : Int32) (hw : wp_X7_isRow u x1 post) : Z X (wM ad cs u) 0 [(0, .ref (ad 0)), (1, .int x1)] [] := by
  unfold wp_X7_isRow at hw
  refine z_iload_n C.1 dX7_isRow_0 rfl 1 rfl ?_
  refine z_aload_n C.1 dX7_isRow_1 rfl 0 rfl ?_
  refine gM_0_size C mF_X7_119 dX7_isRow_2 ?_
  refine z_icmp_ge (tgt := 36) C.1 dX7_isRow_5 (by decide) (fun c1 => ?_) (fun c1 => ?_)
  · replace hw := hw.1 c1
    refine z_iconst (v := 0) C.1 dX7_isRow_36 (by decide) ?_
    exact hR _ _ _ _ dX7_isRow_37 hw
  · replace hw := hw.2 c1
    refine z_aload_n C.1 dX7_isRow_8 rfl 0 rfl ?_
    refine gM_0_tape C mF_X7_7 dX7_isRow_9 ?_
    refine z_iload_n C.1 dX7_isRow_12 rfl 1 rfl ?_
    refine lM_1 C hw.1 dX7_isRow_13 ?_
    replace hw := hw.2
    refine k_X7_isLetter C mM_X7_122 hw (by decide) (Nat.le_of_ble_eq_true rfl) dX7_isRow_14 (fun r3 u2 hw => ?_)
    refine z_if_ne (tgt := 32) C.1 dX7_isRow_17 (by decide) (fun c4 => ?_) (fun c4 => ?_)
    · replace hw := hw.2 c4
      refine z_lv [] rfl ?_
      exact z_X7_isRow_32 C hn hR _ hw
    · replace hw := hw.1 c4
      refine z_aload_n C.1 dX7_isRow_20 rfl 0 rfl ?_
      refine gM_0_tape C mF_X7_7 dX7_isRow_21 ?_
      refine z_iload_n C.1 dX7_isRow_24 rfl 1 rfl ?_
      refine lM_1 C hw.1 dX7_isRow_25 ?_
      replace hw := hw.2
      refine k_X7_isDigit C mM_X7_126 hw (by decide) (Nat.le_of_ble_eq_true rfl) dX7_isRow_26 (fun r6 u5 hw => ?_)
      refine z_if_eq (tgt := 36) C.1 dX7_isRow_29 (by decide) (fun c7 => ?_) (fun c7 => ?_)
      · replace hw := hw.1 c7
        refine z_iconst (v := 0) C.1 dX7_isRow_36 (by decide) ?_
        exact hR _ _ _ _ dX7_isRow_37 hw
      · replace hw := hw.2 c7
        refine z_lv [] rfl ?_
        exact z_X7_isRow_32 C hn hR _ hw
theorem c_X7_isRow {l : Launch} {D : va_G} {A : Nat → Prop} {ad : Nat → Nat} {cs : Nat → ClassId} (hD : ∀ u : St, va_D A (wM ad cs u)) (u : St) (x1 : Int32) (post : Int32 → St → Prop) (hw : wp_X7_isRow u x1 post) : MI (ad 90, ad 91) l yX7_isRow cX7_isRow 2 (some .boolean) (rmm 1 20) D (tysM cs) A (wM ad cs) u [.ref (ad 0), .int x1] post :=
  met_z (by decide) (Nat.le_of_ble_eq_true rfl) (fun X C _ _ ht hA hn hsg hR => z_X7_isRow ⟨C, ht, fun u => by rw [hA]; exact hD u, hsg⟩ hn hR u x1 hw)
theorem k_X7_isRow {X : XX} {ad : Nat → Nat} {cs : Nat → ClassId} {cc : ByteArray} {own : String} {fr lo pc : Nat} {lv : List (Nat × Value)} {st : List Value} {u : St} (C : CxM X ad cs cc own fr lo) {idx : Nat} {x1 : Int32} {P : Int32 → St → Prop} (hlink : Cond.methodLink own idx yX7_isRow ∈ W0) (hw : wp_X7_isRow u x1 P) (hr : 1 + 1 ≤ fr ∧ 8 + (2 + 11) + 20 ≤ lo) (hst : (st.map fun v => v.category).sum ≤ 8) (hdg : decode cc pc = .ok (.invokevirtual idx, 3)) (k : ∀ (r : Int32) (u2 : St), P r u2 → Z X (wM ad cs u2) (pc + 3) lv (.int r :: st)) : Z X (wM ad cs u) pc lv (.int x1 :: .ref (ad 0) :: st) :=
  z_callVi (wf := wM ad cs) (As := [.int x1]) (rest := st) C.1 1 (q0 := 0) mI_X7_isRow mS_X7_isRow rfl rfl (by rw [C.2.1, C.2.2.2]; exact c_X7_isRow C.2.2.1 u x1 P hw) mC_X7_isRow mZ_X7 (by decide +kernel) rfl hlink hr hst hdg k

def wp_X7_is_127 (u : St) (post : Int32 → St → Prop) : Prop :=
  (bz 1 ∧ post 1 u)
set_option maxHeartbeats 4000000 in
set_option maxRecDepth 20000 in
theorem z_X7_is_127 {X : XX} {ad : Nat → Nat} {cs : Nat → ClassId} {post : Int32 → St → Prop} (C : CxM X ad cs cX7_is RX7 0 0) (hn : xnL X = 6) (hR : rtZ X cX7_is (wM ad cs) post) (u : St) (hw : wp_X7_is_127 u post) : Z X (wM ad cs u) 127 [] [] := by
  unfold wp_X7_is_127 at hw
  refine z_iconst (v := 1) C.1 dX7_is_127 (by decide) ?_
  refine z_goto (tgt := 132) C.1 dX7_is_128 (by decide) ?_
  exact hR _ _ _ _ dX7_is_132 hw
def wp_X7_is_105 (u : St) (x4 : Int32) (x5 : Int32) (post : Int32 → St → Prop) : Prop :=
  br (x5 < 4) (wp_X7_is_127 u post) ((vp_in ((gI u 4) + 3) 1500 ∧ br ((gA u 1 (ix ((gI u 4) + 3))) = x4) (wp_X7_is_127 u post) ((bz 0 ∧ post 0 u))))
set_option maxHeartbeats 4000000 in
set_option maxRecDepth 20000 in
theorem z_X7_is_105 {X : XX} {ad : Nat → Nat} {cs : Nat → ClassId} {post : Int32 → St → Prop} (C : CxM X ad cs cX7_is RX7 0 0) (hn : xnL X = 6) (hR : rtZ X cX7_is (wM ad cs) post) (u : St) (x4 : Int32) (x5 : Int32) (hw : wp_X7_is_105 u x4 x5 post) : Z X (wM ad cs u) 105 [(0, .ref (ad 0)), (4, .int x4), (5, .int x5)] [] := by
  unfold wp_X7_is_105 at hw
  refine z_iload C.1 dX7_is_105 2 rfl ?_
  refine z_iconst (v := 4) C.1 dX7_is_107 (by decide) ?_
  refine z_icmp_lt (tgt := 127) C.1 dX7_is_108 (by decide) (fun c11 => ?_) (fun c11 => ?_)
  · replace hw := hw.1 c11
    refine z_lv [] rfl ?_
    exact z_X7_is_127 C hn hR _ hw
  · replace hw := hw.2 c11
    refine z_aload_n C.1 dX7_is_111 rfl 0 rfl ?_
    refine gM_0_tape C mF_X7_7 dX7_is_112 ?_
    refine z_aload_n C.1 dX7_is_115 rfl 0 rfl ?_
    refine gM_0_at C mF_X7_132 dX7_is_116 ?_
    refine z_iconst (v := 3) C.1 dX7_is_119 (by decide) ?_
    refine z_iadd C.1 dX7_is_120 ?_
    refine lM_1 C hw.1 dX7_is_121 ?_
    replace hw := hw.2
    refine z_iload C.1 dX7_is_122 1 rfl ?_
    refine z_icmp_ne (tgt := 131) C.1 dX7_is_124 (by decide) (fun c12 => ?_) (fun c12 => ?_)
    · replace hw := hw.2 c12
      refine z_iconst (v := 0) C.1 dX7_is_131 (by decide) ?_
      exact hR _ _ _ _ dX7_is_132 hw
    · replace hw := hw.1 c12
      refine z_lv [] rfl ?_
      exact z_X7_is_127 C hn hR _ hw
def wp_X7_is_84 (u : St) (x3 : Int32) (x4 : Int32) (x5 : Int32) (post : Int32 → St → Prop) : Prop :=
  br (x5 < 3) (wp_X7_is_105 u x4 x5 post) ((vp_in ((gI u 4) + 2) 1500 ∧ br ((gA u 1 (ix ((gI u 4) + 2))) = x3) (wp_X7_is_105 u x4 x5 post) ((bz 0 ∧ post 0 u))))
set_option maxHeartbeats 4000000 in
set_option maxRecDepth 20000 in
theorem z_X7_is_84 {X : XX} {ad : Nat → Nat} {cs : Nat → ClassId} {post : Int32 → St → Prop} (C : CxM X ad cs cX7_is RX7 0 0) (hn : xnL X = 6) (hR : rtZ X cX7_is (wM ad cs) post) (u : St) (x3 : Int32) (x4 : Int32) (x5 : Int32) (hw : wp_X7_is_84 u x3 x4 x5 post) : Z X (wM ad cs u) 84 [(0, .ref (ad 0)), (3, .int x3), (4, .int x4), (5, .int x5)] [] := by
  unfold wp_X7_is_84 at hw
  refine z_iload C.1 dX7_is_84 3 rfl ?_
  refine z_iconst (v := 3) C.1 dX7_is_86 (by decide) ?_
  refine z_icmp_lt (tgt := 105) C.1 dX7_is_87 (by decide) (fun c9 => ?_) (fun c9 => ?_)
  · replace hw := hw.1 c9
    refine z_lv [0, 2, 3] rfl ?_
    exact z_X7_is_105 C hn hR _ _ _ hw
  · replace hw := hw.2 c9
    refine z_aload_n C.1 dX7_is_90 rfl 0 rfl ?_
    refine gM_0_tape C mF_X7_7 dX7_is_91 ?_
    refine z_aload_n C.1 dX7_is_94 rfl 0 rfl ?_
    refine gM_0_at C mF_X7_132 dX7_is_95 ?_
    refine z_iconst (v := 2) C.1 dX7_is_98 (by decide) ?_
    refine z_iadd C.1 dX7_is_99 ?_
    refine lM_1 C hw.1 dX7_is_100 ?_
    replace hw := hw.2
    refine z_iload_n C.1 dX7_is_101 rfl 1 rfl ?_
    refine z_icmp_ne (tgt := 131) C.1 dX7_is_102 (by decide) (fun c10 => ?_) (fun c10 => ?_)
    · replace hw := hw.2 c10
      refine z_iconst (v := 0) C.1 dX7_is_131 (by decide) ?_
      exact hR _ _ _ _ dX7_is_132 hw
    · replace hw := hw.1 c10
      refine z_lv [0, 2, 3] rfl ?_
      exact z_X7_is_105 C hn hR _ _ _ hw
def wp_X7_is_34 (u : St) (x1 : Int32) (x2 : Int32) (x3 : Int32) (x4 : Int32) (y0 : Int32) (post : Int32 → St → Prop) : Prop :=
  br (((gI u 5) - (gI u 4)) = y0) ((vp_in (gI u 4) 1500 ∧ br ((gA u 1 (ix (gI u 4))) = x1) (br (y0 < 2) (wp_X7_is_84 u x3 x4 y0 post) ((vp_in ((gI u 4) + 1) 1500 ∧ br ((gA u 1 (ix ((gI u 4) + 1))) = x2) (wp_X7_is_84 u x3 x4 y0 post) ((bz 0 ∧ post 0 u))))) ((bz 0 ∧ post 0 u)))) ((bz 0 ∧ post 0 u))
set_option maxHeartbeats 4000000 in
set_option maxRecDepth 20000 in
theorem z_X7_is_34 {X : XX} {ad : Nat → Nat} {cs : Nat → ClassId} {post : Int32 → St → Prop} (C : CxM X ad cs cX7_is RX7 0 0) (hn : xnL X = 6) (hR : rtZ X cX7_is (wM ad cs) post) (u : St) (x1 : Int32) (x2 : Int32) (x3 : Int32) (x4 : Int32) (y0 : Int32) (hw : wp_X7_is_34 u x1 x2 x3 x4 y0 post) : Z X (wM ad cs u) 34 [(0, .ref (ad 0)), (1, .int x1), (2, .int x2), (3, .int x3), (4, .int x4)] [.int y0] := by
  unfold wp_X7_is_34 at hw
  refine z_istore (lv' := [(5, .int y0), (0, .ref (ad 0)), (1, .int x1), (2, .int x2), (3, .int x3), (4, .int x4)]) C.1 dX7_is_34 (by rw [hn]; decide) rfl ?_
  refine z_aload_n C.1 dX7_is_36 rfl 1 rfl ?_
  refine gM_0_end C mF_X7_129 dX7_is_37 ?_
  refine z_aload_n C.1 dX7_is_40 rfl 1 rfl ?_
  refine gM_0_at C mF_X7_132 dX7_is_41 ?_
  refine z_isub C.1 dX7_is_44 ?_
  refine z_iload C.1 dX7_is_45 0 rfl ?_
  refine z_icmp_ne (tgt := 131) C.1 dX7_is_47 (by decide) (fun c5 => ?_) (fun c5 => ?_)
  · replace hw := hw.2 c5
    refine z_iconst (v := 0) C.1 dX7_is_131 (by decide) ?_
    exact hR _ _ _ _ dX7_is_132 hw
  · replace hw := hw.1 c5
    refine z_aload_n C.1 dX7_is_50 rfl 1 rfl ?_
    refine gM_0_tape C mF_X7_7 dX7_is_51 ?_
    refine z_aload_n C.1 dX7_is_54 rfl 1 rfl ?_
    refine gM_0_at C mF_X7_132 dX7_is_55 ?_
    refine lM_1 C hw.1 dX7_is_58 ?_
    replace hw := hw.2
    refine z_iload_n C.1 dX7_is_59 rfl 2 rfl ?_
    refine z_icmp_ne (tgt := 131) C.1 dX7_is_60 (by decide) (fun c6 => ?_) (fun c6 => ?_)
    · replace hw := hw.2 c6
      refine z_iconst (v := 0) C.1 dX7_is_131 (by decide) ?_
      exact hR _ _ _ _ dX7_is_132 hw
    · replace hw := hw.1 c6
      refine z_iload C.1 dX7_is_63 0 rfl ?_
      refine z_iconst (v := 2) C.1 dX7_is_65 (by decide) ?_
      refine z_icmp_lt (tgt := 84) C.1 dX7_is_66 (by decide) (fun c7 => ?_) (fun c7 => ?_)
      · replace hw := hw.1 c7
        refine z_lv [1, 4, 5, 0] rfl ?_
        exact z_X7_is_84 C hn hR _ _ _ _ hw
      · replace hw := hw.2 c7
        refine z_aload_n C.1 dX7_is_69 rfl 1 rfl ?_
        refine gM_0_tape C mF_X7_7 dX7_is_70 ?_
        refine z_aload_n C.1 dX7_is_73 rfl 1 rfl ?_
        refine gM_0_at C mF_X7_132 dX7_is_74 ?_
        refine z_iconst (v := 1) C.1 dX7_is_77 (by decide) ?_
        refine z_iadd C.1 dX7_is_78 ?_
        refine lM_1 C hw.1 dX7_is_79 ?_
        replace hw := hw.2
        refine z_iload_n C.1 dX7_is_80 rfl 3 rfl ?_
        refine z_icmp_ne (tgt := 131) C.1 dX7_is_81 (by decide) (fun c8 => ?_) (fun c8 => ?_)
        · replace hw := hw.2 c8
          refine z_iconst (v := 0) C.1 dX7_is_131 (by decide) ?_
          exact hR _ _ _ _ dX7_is_132 hw
        · replace hw := hw.1 c8
          refine z_lv [1, 4, 5, 0] rfl ?_
          exact z_X7_is_84 C hn hR _ _ _ _ hw
def wp_X7_is (u : St) (x1 : Int32) (x2 : Int32) (x3 : Int32) (x4 : Int32) (post : Int32 → St → Prop) : Prop :=
  br (x1 = 0) (wp_X7_is_34 u x1 x2 x3 x4 0 post) (br (x2 = 0) (wp_X7_is_34 u x1 x2 x3 x4 1 post) (br (x3 = 0) (wp_X7_is_34 u x1 x2 x3 x4 2 post) (br (x4 = 0) (wp_X7_is_34 u x1 x2 x3 x4 3 post) (wp_X7_is_34 u x1 x2 x3 x4 4 post))))
set_option maxHeartbeats 4000000 in
set_option maxRecDepth 20000 in
theorem z_X7_is {X : XX} {ad : Nat → Nat} {cs : Nat → ClassId} {post : Int32 → St → Prop} (C : CxM X ad cs cX7_is RX7 0 0) (hn : xnL X = 6) (hR : rtZ X cX7_is (wM ad cs) post) (u : St) (x1 : Int32) (x2 : Int32) (x3 : Int32) (x4 : Int32) (hw : wp_X7_is u x1 x2 x3 x4 post) : Z X (wM ad cs u) 0 [(0, .ref (ad 0)), (1, .int x1), (2, .int x2), (3, .int x3), (4, .int x4)] [] := by
  unfold wp_X7_is at hw
  refine z_iload_n C.1 dX7_is_0 rfl 1 rfl ?_
  refine z_if_ne (tgt := 8) C.1 dX7_is_1 (by decide) (fun c1 => ?_) (fun c1 => ?_)
  · replace hw := hw.2 c1
    refine z_iload_n C.1 dX7_is_8 rfl 2 rfl ?_
    refine z_if_ne (tgt := 16) C.1 dX7_is_9 (by decide) (fun c2 => ?_) (fun c2 => ?_)
    · replace hw := hw.2 c2
      refine z_iload_n C.1 dX7_is_16 rfl 3 rfl ?_
      refine z_if_ne (tgt := 24) C.1 dX7_is_17 (by decide) (fun c3 => ?_) (fun c3 => ?_)
      · replace hw := hw.2 c3
        refine z_iload C.1 dX7_is_24 4 rfl ?_
        refine z_if_ne (tgt := 33) C.1 dX7_is_26 (by decide) (fun c4 => ?_) (fun c4 => ?_)
        · replace hw := hw.2 c4
          refine z_iconst (v := 4) C.1 dX7_is_33 (by decide) ?_
          refine z_lv [0, 1, 2, 3, 4] rfl ?_
          exact z_X7_is_34 C hn hR _ _ _ _ _ _ hw
        · replace hw := hw.1 c4
          refine z_iconst (v := 3) C.1 dX7_is_29 (by decide) ?_
          refine z_goto (tgt := 34) C.1 dX7_is_30 (by decide) ?_
          refine z_lv [0, 1, 2, 3, 4] rfl ?_
          exact z_X7_is_34 C hn hR _ _ _ _ _ _ hw
      · replace hw := hw.1 c3
        refine z_iconst (v := 2) C.1 dX7_is_20 (by decide) ?_
        refine z_goto (tgt := 34) C.1 dX7_is_21 (by decide) ?_
        refine z_lv [0, 1, 2, 3, 4] rfl ?_
        exact z_X7_is_34 C hn hR _ _ _ _ _ _ hw
    · replace hw := hw.1 c2
      refine z_iconst (v := 1) C.1 dX7_is_12 (by decide) ?_
      refine z_goto (tgt := 34) C.1 dX7_is_13 (by decide) ?_
      refine z_lv [0, 1, 2, 3, 4] rfl ?_
      exact z_X7_is_34 C hn hR _ _ _ _ _ _ hw
  · replace hw := hw.1 c1
    refine z_iconst (v := 0) C.1 dX7_is_4 (by decide) ?_
    refine z_goto (tgt := 34) C.1 dX7_is_5 (by decide) ?_
    refine z_lv [0, 1, 2, 3, 4] rfl ?_
    exact z_X7_is_34 C hn hR _ _ _ _ _ _ hw
theorem c_X7_is {l : Launch} {D : va_G} {A : Nat → Prop} {ad : Nat → Nat} {cs : Nat → ClassId} (hD : ∀ u : St, va_D A (wM ad cs u)) (u : St) (x1 : Int32) (x2 : Int32) (x3 : Int32) (x4 : Int32) (post : Int32 → St → Prop) (hw : wp_X7_is u x1 x2 x3 x4 post) : MI (ad 90, ad 91) l yX7_is cX7_is 6 (some .boolean) (rmm 0 0) D (tysM cs) A (wM ad cs) u [.ref (ad 0), .int x1, .int x2, .int x3, .int x4] post :=
  met_z (by decide) (Nat.le_of_ble_eq_true rfl) (fun X C _ _ ht hA hn hsg hR => z_X7_is ⟨C, ht, fun u => by rw [hA]; exact hD u, hsg⟩ hn hR u x1 x2 x3 x4 hw)
theorem k_X7_is {X : XX} {ad : Nat → Nat} {cs : Nat → ClassId} {cc : ByteArray} {own : String} {fr lo pc : Nat} {lv : List (Nat × Value)} {st : List Value} {u : St} (C : CxM X ad cs cc own fr lo) {idx : Nat} {x1 : Int32} {x2 : Int32} {x3 : Int32} {x4 : Int32} {P : Int32 → St → Prop} (hlink : Cond.methodLink own idx yX7_is ∈ W0) (hw : wp_X7_is u x1 x2 x3 x4 P) (hr : 0 + 1 ≤ fr ∧ 8 + (6 + 11) + 0 ≤ lo) (hst : (st.map fun v => v.category).sum ≤ 8) (hdg : decode cc pc = .ok (.invokevirtual idx, 3)) (k : ∀ (r : Int32) (u2 : St), P r u2 → Z X (wM ad cs u2) (pc + 3) lv (.int r :: st)) : Z X (wM ad cs u) pc lv (.int x4 :: .int x3 :: .int x2 :: .int x1 :: .ref (ad 0) :: st) :=
  z_callVi (wf := wM ad cs) (As := [.int x1, .int x2, .int x3, .int x4]) (rest := st) C.1 4 (q0 := 0) mI_X7_is mS_X7_is rfl rfl (by rw [C.2.1, C.2.2.2]; exact c_X7_is C.2.2.1 u x1 x2 x3 x4 P hw) mC_X7_is mZ_X7 (by decide +kernel) rfl hlink hr hst hdg k

def wp_X7_wordOf (u : St) (post : Int32 → St → Prop) : Prop :=
  wp_X7_is u 105 102 0 0 (fun (r2 : Int32) (u1 : St) => br (r2 = 0) (wp_X7_is u1 116 104 101 110 (fun (r5 : Int32) (u4 : St) => br (r5 = 0) (wp_X7_is u4 101 108 115 101 (fun (r8 : Int32) (u7 : St) => br (r8 = 0) (wp_X7_is u7 108 101 116 0 (fun (r11 : Int32) (u10 : St) => br (r11 = 0) (wp_X7_is u10 105 110 0 0 (fun (r14 : Int32) (u13 : St) => br (r14 = 0) (wp_X7_is u13 109 97 107 101 (fun (r17 : Int32) (u16 : St) => br (r17 = 0) (post 0 u16) (post 6 u16))) (post 5 u13))) (post 4 u10))) (post 3 u7))) (post 2 u4))) (post 1 u1))
set_option maxHeartbeats 4000000 in
set_option maxRecDepth 20000 in
theorem z_X7_wordOf {X : XX} {ad : Nat → Nat} {cs : Nat → ClassId} {post : Int32 → St → Prop} (C : CxM X ad cs cX7_wordOf RX7 1 25) (hn : xnL X = 1) (hR : rtI X cX7_wordOf (wM ad cs) post) (u : St) (hw : wp_X7_wordOf u post) : Z X (wM ad cs u) 0 [(0, .ref (ad 0))] [] := by
  unfold wp_X7_wordOf at hw
  refine z_aload_n C.1 dX7_wordOf_0 rfl 0 rfl ?_
  refine z_bipush (v := 105) C.1 dX7_wordOf_1 (by decide) ?_
  refine z_bipush (v := 102) C.1 dX7_wordOf_3 (by decide) ?_
  refine z_iconst (v := 0) C.1 dX7_wordOf_5 (by decide) ?_
  refine z_iconst (v := 0) C.1 dX7_wordOf_6 (by decide) ?_
  refine k_X7_is C mM_X7_135 hw (by decide) (Nat.le_of_ble_eq_true rfl) dX7_wordOf_7 (fun r2 u1 hw => ?_)
  refine z_if_eq (tgt := 17) C.1 dX7_wordOf_10 (by decide) (fun c3 => ?_) (fun c3 => ?_)
  · replace hw := hw.1 c3
    refine z_aload_n C.1 dX7_wordOf_17 rfl 0 rfl ?_
    refine z_bipush (v := 116) C.1 dX7_wordOf_18 (by decide) ?_
    refine z_bipush (v := 104) C.1 dX7_wordOf_20 (by decide) ?_
    refine z_bipush (v := 101) C.1 dX7_wordOf_22 (by decide) ?_
    refine z_bipush (v := 110) C.1 dX7_wordOf_24 (by decide) ?_
    refine k_X7_is C mM_X7_135 hw (by decide) (Nat.le_of_ble_eq_true rfl) dX7_wordOf_26 (fun r5 u4 hw => ?_)
    refine z_if_eq (tgt := 36) C.1 dX7_wordOf_29 (by decide) (fun c6 => ?_) (fun c6 => ?_)
    · replace hw := hw.1 c6
      refine z_aload_n C.1 dX7_wordOf_36 rfl 0 rfl ?_
      refine z_bipush (v := 101) C.1 dX7_wordOf_37 (by decide) ?_
      refine z_bipush (v := 108) C.1 dX7_wordOf_39 (by decide) ?_
      refine z_bipush (v := 115) C.1 dX7_wordOf_41 (by decide) ?_
      refine z_bipush (v := 101) C.1 dX7_wordOf_43 (by decide) ?_
      refine k_X7_is C mM_X7_135 hw (by decide) (Nat.le_of_ble_eq_true rfl) dX7_wordOf_45 (fun r8 u7 hw => ?_)
      refine z_if_eq (tgt := 55) C.1 dX7_wordOf_48 (by decide) (fun c9 => ?_) (fun c9 => ?_)
      · replace hw := hw.1 c9
        refine z_aload_n C.1 dX7_wordOf_55 rfl 0 rfl ?_
        refine z_bipush (v := 108) C.1 dX7_wordOf_56 (by decide) ?_
        refine z_bipush (v := 101) C.1 dX7_wordOf_58 (by decide) ?_
        refine z_bipush (v := 116) C.1 dX7_wordOf_60 (by decide) ?_
        refine z_iconst (v := 0) C.1 dX7_wordOf_62 (by decide) ?_
        refine k_X7_is C mM_X7_135 hw (by decide) (Nat.le_of_ble_eq_true rfl) dX7_wordOf_63 (fun r11 u10 hw => ?_)
        refine z_if_eq (tgt := 73) C.1 dX7_wordOf_66 (by decide) (fun c12 => ?_) (fun c12 => ?_)
        · replace hw := hw.1 c12
          refine z_aload_n C.1 dX7_wordOf_73 rfl 0 rfl ?_
          refine z_bipush (v := 105) C.1 dX7_wordOf_74 (by decide) ?_
          refine z_bipush (v := 110) C.1 dX7_wordOf_76 (by decide) ?_
          refine z_iconst (v := 0) C.1 dX7_wordOf_78 (by decide) ?_
          refine z_iconst (v := 0) C.1 dX7_wordOf_79 (by decide) ?_
          refine k_X7_is C mM_X7_135 hw (by decide) (Nat.le_of_ble_eq_true rfl) dX7_wordOf_80 (fun r14 u13 hw => ?_)
          refine z_if_eq (tgt := 90) C.1 dX7_wordOf_83 (by decide) (fun c15 => ?_) (fun c15 => ?_)
          · replace hw := hw.1 c15
            refine z_aload_n C.1 dX7_wordOf_90 rfl 0 rfl ?_
            refine z_bipush (v := 109) C.1 dX7_wordOf_91 (by decide) ?_
            refine z_bipush (v := 97) C.1 dX7_wordOf_93 (by decide) ?_
            refine z_bipush (v := 107) C.1 dX7_wordOf_95 (by decide) ?_
            refine z_bipush (v := 101) C.1 dX7_wordOf_97 (by decide) ?_
            refine k_X7_is C mM_X7_135 hw (by decide) (Nat.le_of_ble_eq_true rfl) dX7_wordOf_99 (fun r17 u16 hw => ?_)
            refine z_if_eq (tgt := 110) C.1 dX7_wordOf_102 (by decide) (fun c18 => ?_) (fun c18 => ?_)
            · replace hw := hw.1 c18
              refine z_iconst (v := 0) C.1 dX7_wordOf_110 (by decide) ?_
              exact hR _ _ _ _ dX7_wordOf_111 hw
            · replace hw := hw.2 c18
              refine z_bipush (v := 6) C.1 dX7_wordOf_105 (by decide) ?_
              refine z_goto (tgt := 111) C.1 dX7_wordOf_107 (by decide) ?_
              exact hR _ _ _ _ dX7_wordOf_111 hw
          · replace hw := hw.2 c15
            refine z_iconst (v := 5) C.1 dX7_wordOf_86 (by decide) ?_
            refine z_goto (tgt := 111) C.1 dX7_wordOf_87 (by decide) ?_
            exact hR _ _ _ _ dX7_wordOf_111 hw
        · replace hw := hw.2 c12
          refine z_iconst (v := 4) C.1 dX7_wordOf_69 (by decide) ?_
          refine z_goto (tgt := 111) C.1 dX7_wordOf_70 (by decide) ?_
          exact hR _ _ _ _ dX7_wordOf_111 hw
      · replace hw := hw.2 c9
        refine z_iconst (v := 3) C.1 dX7_wordOf_51 (by decide) ?_
        refine z_goto (tgt := 111) C.1 dX7_wordOf_52 (by decide) ?_
        exact hR _ _ _ _ dX7_wordOf_111 hw
    · replace hw := hw.2 c6
      refine z_iconst (v := 2) C.1 dX7_wordOf_32 (by decide) ?_
      refine z_goto (tgt := 111) C.1 dX7_wordOf_33 (by decide) ?_
      exact hR _ _ _ _ dX7_wordOf_111 hw
  · replace hw := hw.2 c3
    refine z_iconst (v := 1) C.1 dX7_wordOf_13 (by decide) ?_
    refine z_goto (tgt := 111) C.1 dX7_wordOf_14 (by decide) ?_
    exact hR _ _ _ _ dX7_wordOf_111 hw
theorem c_X7_wordOf {l : Launch} {D : va_G} {A : Nat → Prop} {ad : Nat → Nat} {cs : Nat → ClassId} (hD : ∀ u : St, va_D A (wM ad cs u)) (u : St) (post : Int32 → St → Prop) (hw : wp_X7_wordOf u post) : MI (ad 90, ad 91) l yX7_wordOf cX7_wordOf 1 (some .int) (rmm 1 25) D (tysM cs) A (wM ad cs) u [.ref (ad 0)] post :=
  met_i (by decide) (Nat.le_of_ble_eq_true rfl) (fun X C _ _ ht hA hn hsg hR => z_X7_wordOf ⟨C, ht, fun u => by rw [hA]; exact hD u, hsg⟩ hn hR u hw)
theorem k_X7_wordOf {X : XX} {ad : Nat → Nat} {cs : Nat → ClassId} {cc : ByteArray} {own : String} {fr lo pc : Nat} {lv : List (Nat × Value)} {st : List Value} {u : St} (C : CxM X ad cs cc own fr lo) {idx : Nat} {P : Int32 → St → Prop} (hlink : Cond.methodLink own idx yX7_wordOf ∈ W0) (hw : wp_X7_wordOf u P) (hr : 1 + 1 ≤ fr ∧ 8 + (1 + 11) + 25 ≤ lo) (hst : (st.map fun v => v.category).sum ≤ 8) (hdg : decode cc pc = .ok (.invokevirtual idx, 3)) (k : ∀ (r : Int32) (u2 : St), P r u2 → Z X (wM ad cs u2) (pc + 3) lv (.int r :: st)) : Z X (wM ad cs u) pc lv (.ref (ad 0) :: st) :=
  z_callVi (wf := wM ad cs) (As := []) (rest := st) C.1 0 (q0 := 0) mI_X7_wordOf mS_X7_wordOf rfl rfl (by rw [C.2.1, C.2.2.2]; exact c_X7_wordOf C.2.2.1 u P hw) mC_X7_wordOf mZ_X7 (by decide +kernel) rfl hlink hr hst hdg k

def wp_X7_look_367 (u : St) (x2 : Int32) (post : St → Prop) : Prop :=
  br (x2 = 0) (nm (sI u 6 5) (fun u55 : St => post u55)) (br (0 < (lg_cmp (gL u 0) 2147483647)) (nm (sI u 6 5) (fun u57 : St => post u57)) (nm (sI u 6 2) (fun u58 : St => post u58)))
set_option maxHeartbeats 4000000 in
set_option maxRecDepth 20000 in
theorem z_X7_look_367 {X : XX} {ad : Nat → Nat} {cs : Nat → ClassId} {post : St → Prop} (C : CxM X ad cs cX7_look RX7 2 45) (hn : xnL X = 3) (hR : rtV X cX7_look (wM ad cs) post) (u : St) (x2 : Int32) (hw : wp_X7_look_367 u x2 post) : Z X (wM ad cs u) 367 [(0, .ref (ad 0)), (2, .int x2)] [.ref (ad 0)] := by
  unfold wp_X7_look_367 at hw
  refine z_iload_n C.1 dX7_look_367 rfl 1 rfl ?_
  refine z_if_eq (tgt := 386) C.1 dX7_look_368 (by decide) (fun c54 => ?_) (fun c54 => ?_)
  · replace hw := hw.1 c54
    refine z_iconst (v := 5) C.1 dX7_look_386 (by decide) ?_
    refine pM_0_token C mF_X7_142 dX7_look_387 (fun u55 eu55 => ?_)
    replace hw := hw u55 eu55
    exact hR _ _ _ dX7_look_390 hw
  · replace hw := hw.2 c54
    refine z_aload_n C.1 dX7_look_371 rfl 0 rfl ?_
    refine gM_0_number C mF_X7_148 dX7_look_372 ?_
    refine z_ldc2 C.1 mK_X7_152 dX7_look_375 ?_
    refine z_lcmp C.1 dX7_look_378 ?_
    refine z_if_gt (tgt := 386) C.1 dX7_look_379 (by decide) (fun c56 => ?_) (fun c56 => ?_)
    · replace hw := hw.1 c56
      refine z_iconst (v := 5) C.1 dX7_look_386 (by decide) ?_
      refine pM_0_token C mF_X7_142 dX7_look_387 (fun u57 eu57 => ?_)
      replace hw := hw u57 eu57
      exact hR _ _ _ dX7_look_390 hw
    · replace hw := hw.2 c56
      refine z_iconst (v := 2) C.1 dX7_look_382 (by decide) ?_
      refine z_goto (tgt := 387) C.1 dX7_look_383 (by decide) ?_
      refine pM_0_token C mF_X7_142 dX7_look_387 (fun u58 eu58 => ?_)
      replace hw := hw u58 eu58
      exact hR _ _ _ dX7_look_390 hw
def wp_X7_look_330 (u : St) (x1 : Int32) (x2 : Int32) (y0 : Int32) (post : St → Prop) : Prop :=
  nm (sI u 7 y0) (fun u48 : St => br ((gI u48 7) ≤ 0) (br (x1 = 0) (wp_X7_look_367 u48 x2 post) (br (8 < ((gI u48 5) - (gI u48 4))) (wp_X7_look_367 u48 x2 post) (nm (sI u48 6 1) (fun u52 : St => post u52)))) (nm (sI u48 6 3) (fun u53 : St => post u53)))
set_option maxHeartbeats 4000000 in
set_option maxRecDepth 20000 in
theorem z_X7_look_330 {X : XX} {ad : Nat → Nat} {cs : Nat → ClassId} {post : St → Prop} (C : CxM X ad cs cX7_look RX7 2 45) (hn : xnL X = 3) (hR : rtV X cX7_look (wM ad cs) post) (u : St) (x1 : Int32) (x2 : Int32) (y0 : Int32) (hw : wp_X7_look_330 u x1 x2 y0 post) : Z X (wM ad cs u) 330 [(0, .ref (ad 0)), (1, .int x1), (2, .int x2)] [.int y0, .ref (ad 0)] := by
  unfold wp_X7_look_330 at hw
  refine pM_0_word C mF_X7_162 dX7_look_330 (fun u48 eu48 => ?_)
  replace hw := hw u48 eu48
  refine z_aload_n C.1 dX7_look_333 rfl 0 rfl ?_
  refine z_aload_n C.1 dX7_look_334 rfl 0 rfl ?_
  refine gM_0_word C mF_X7_162 dX7_look_335 ?_
  refine z_if_le (tgt := 345) C.1 dX7_look_338 (by decide) (fun c49 => ?_) (fun c49 => ?_)
  · replace hw := hw.1 c49
    refine z_iload_n C.1 dX7_look_345 rfl 1 rfl ?_
    refine z_if_eq (tgt := 367) C.1 dX7_look_346 (by decide) (fun c50 => ?_) (fun c50 => ?_)
    · replace hw := hw.1 c50
      refine z_lv [0, 2] rfl ?_
      exact z_X7_look_367 C hn hR _ _ hw
    · replace hw := hw.2 c50
      refine z_aload_n C.1 dX7_look_349 rfl 0 rfl ?_
      refine gM_0_end C mF_X7_129 dX7_look_350 ?_
      refine z_aload_n C.1 dX7_look_353 rfl 0 rfl ?_
      refine gM_0_at C mF_X7_132 dX7_look_354 ?_
      refine z_isub C.1 dX7_look_357 ?_
      refine z_bipush (v := 8) C.1 dX7_look_358 (by decide) ?_
      refine z_icmp_gt (tgt := 367) C.1 dX7_look_360 (by decide) (fun c51 => ?_) (fun c51 => ?_)
      · replace hw := hw.1 c51
        refine z_lv [0, 2] rfl ?_
        exact z_X7_look_367 C hn hR _ _ hw
      · replace hw := hw.2 c51
        refine z_iconst (v := 1) C.1 dX7_look_363 (by decide) ?_
        refine z_goto (tgt := 387) C.1 dX7_look_364 (by decide) ?_
        refine pM_0_token C mF_X7_142 dX7_look_387 (fun u52 eu52 => ?_)
        replace hw := hw u52 eu52
        exact hR _ _ _ dX7_look_390 hw
  · replace hw := hw.2 c49
    refine z_iconst (v := 3) C.1 dX7_look_341 (by decide) ?_
    refine z_goto (tgt := 387) C.1 dX7_look_342 (by decide) ?_
    refine pM_0_token C mF_X7_142 dX7_look_387 (fun u53 eu53 => ?_)
    replace hw := hw u53 eu53
    exact hR _ _ _ dX7_look_390 hw
def wp_X7_look_301 (K198 : St → Int32 → Int32 → Prop) (u : St) (x1 : Int32) (x2 : Int32) (y0 : Int64) (post : St → Prop) : Prop :=
  nm (sL u 0 y0) (fun u46 : St => nm (sI u46 5 ((gI u46 5) + 1)) (fun u47 : St => K198 u47 x1 x2))
set_option maxHeartbeats 4000000 in
set_option maxRecDepth 20000 in
theorem z_X7_look_301 {X : XX} {ad : Nat → Nat} {cs : Nat → ClassId} {post : St → Prop} (C : CxM X ad cs cX7_look RX7 2 45) (hn : xnL X = 3) (hR : rtV X cX7_look (wM ad cs) post) {K198 : St → Int32 → Int32 → Prop} (hK198 : ∀ (u : St) (x1 : Int32) (x2 : Int32), K198 u x1 x2 → Z X (wM ad cs u) 198 [(0, .ref (ad 0)), (1, .int x1), (2, .int x2)] []) (u : St) (x1 : Int32) (x2 : Int32) (y0 : Int64) (hw : wp_X7_look_301 K198 u x1 x2 y0 post) : Z X (wM ad cs u) 301 [(0, .ref (ad 0)), (1, .int x1), (2, .int x2)] [.long y0, .ref (ad 0)] := by
  unfold wp_X7_look_301 at hw
  refine pM_0_number C mF_X7_148 dX7_look_301 (fun u46 eu46 => ?_)
  replace hw := hw u46 eu46
  refine z_aload_n C.1 dX7_look_304 rfl 0 rfl ?_
  refine z_dup C.1 dX7_look_305 rfl ?_
  refine gM_0_end C mF_X7_129 dX7_look_306 ?_
  refine z_iconst (v := 1) C.1 dX7_look_309 (by decide) ?_
  refine z_iadd C.1 dX7_look_310 ?_
  refine pM_0_end C mF_X7_129 dX7_look_311 (fun u47 eu47 => ?_)
  replace hw := hw u47 eu47
  refine z_goto (tgt := 198) C.1 dX7_look_314 (by decide) ?_
  refine z_lv [0, 1, 2] rfl ?_
  exact hK198 _ _ _ hw
def wp_X7_look_258 (K198 : St → Int32 → Int32 → Prop) (u : St) (x1 : Int32) (y0 : Int32) (post : St → Prop) : Prop :=
  br ((lg_cmp (gL u 0) 2147483647) ≤ 0) ((vp_in (gI u 5) 1500 ∧ wp_X7_look_301 K198 u x1 y0 (((10 * (gL u 0)) + (Int32.toInt64 (gA u 1 (ix (gI u 5))))) - 48) post)) (wp_X7_look_301 K198 u x1 y0 (gL u 0) post)
set_option maxHeartbeats 4000000 in
set_option maxRecDepth 20000 in
theorem z_X7_look_258 {X : XX} {ad : Nat → Nat} {cs : Nat → ClassId} {post : St → Prop} (C : CxM X ad cs cX7_look RX7 2 45) (hn : xnL X = 3) (hR : rtV X cX7_look (wM ad cs) post) {K198 : St → Int32 → Int32 → Prop} (hK198 : ∀ (u : St) (x1 : Int32) (x2 : Int32), K198 u x1 x2 → Z X (wM ad cs u) 198 [(0, .ref (ad 0)), (1, .int x1), (2, .int x2)] []) (u : St) (x1 : Int32) (y0 : Int32) (hw : wp_X7_look_258 K198 u x1 y0 post) : Z X (wM ad cs u) 258 [(0, .ref (ad 0)), (1, .int x1)] [.int y0] := by
  unfold wp_X7_look_258 at hw
  refine z_istore_n (lv' := [(2, .int y0), (0, .ref (ad 0)), (1, .int x1)]) C.1 dX7_look_258 rfl (by rw [hn]; decide) rfl ?_
  refine z_aload_n C.1 dX7_look_259 rfl 1 rfl ?_
  refine z_aload_n C.1 dX7_look_260 rfl 1 rfl ?_
  refine gM_0_number C mF_X7_148 dX7_look_261 ?_
  refine z_ldc2 C.1 mK_X7_152 dX7_look_264 ?_
  refine z_lcmp C.1 dX7_look_267 ?_
  refine z_if_le (tgt := 278) C.1 dX7_look_268 (by decide) (fun c45 => ?_) (fun c45 => ?_)
  · replace hw := hw.1 c45
    refine z_ldc2 C.1 mK_X7_154 dX7_look_278 ?_
    refine z_aload_n C.1 dX7_look_281 rfl 1 rfl ?_
    refine gM_0_number C mF_X7_148 dX7_look_282 ?_
    refine z_lmul C.1 dX7_look_285 ?_
    refine z_aload_n C.1 dX7_look_286 rfl 1 rfl ?_
    refine gM_0_tape C mF_X7_7 dX7_look_287 ?_
    refine z_aload_n C.1 dX7_look_290 rfl 1 rfl ?_
    refine gM_0_end C mF_X7_129 dX7_look_291 ?_
    refine lM_1 C hw.1 dX7_look_294 ?_
    replace hw := hw.2
    refine z_i2l C.1 dX7_look_295 ?_
    refine z_ladd C.1 dX7_look_296 ?_
    refine z_ldc2 C.1 mK_X7_156 dX7_look_297 ?_
    refine z_lsub C.1 dX7_look_300 ?_
    refine z_lv [1, 2, 0] rfl ?_
    exact z_X7_look_301 C hn hR hK198 _ _ _ _ hw
  · replace hw := hw.2 c45
    refine z_aload_n C.1 dX7_look_271 rfl 1 rfl ?_
    refine gM_0_number C mF_X7_148 dX7_look_272 ?_
    refine z_goto (tgt := 301) C.1 dX7_look_275 (by decide) ?_
    refine z_lv [1, 2, 0] rfl ?_
    exact z_X7_look_301 C hn hR hK198 _ _ _ _ hw
def wp_X7_look_257 (K198 : St → Int32 → Int32 → Prop) (u : St) (x1 : Int32) (post : St → Prop) : Prop :=
  wp_X7_look_258 K198 u x1 0 post
set_option maxHeartbeats 4000000 in
set_option maxRecDepth 20000 in
theorem z_X7_look_257 {X : XX} {ad : Nat → Nat} {cs : Nat → ClassId} {post : St → Prop} (C : CxM X ad cs cX7_look RX7 2 45) (hn : xnL X = 3) (hR : rtV X cX7_look (wM ad cs) post) {K198 : St → Int32 → Int32 → Prop} (hK198 : ∀ (u : St) (x1 : Int32) (x2 : Int32), K198 u x1 x2 → Z X (wM ad cs u) 198 [(0, .ref (ad 0)), (1, .int x1), (2, .int x2)] []) (u : St) (x1 : Int32) (hw : wp_X7_look_257 K198 u x1 post) : Z X (wM ad cs u) 257 [(0, .ref (ad 0)), (1, .int x1)] [] := by
  unfold wp_X7_look_257 at hw
  refine z_iconst (v := 0) C.1 dX7_look_257 (by decide) ?_
  refine z_lv [0, 1] rfl ?_
  exact z_X7_look_258 C hn hR hK198 _ _ _ hw
def wp_X7_look_233 (K198 : St → Int32 → Int32 → Prop) (u : St) (x2 : Int32) (y0 : Int32) (post : St → Prop) : Prop :=
  br (x2 = 0) (wp_X7_look_257 K198 u y0 post) ((vp_in (gI u 5) 1500 ∧ wp_X7_isDigit u (gA u 1 (ix (gI u 5))) (fun (r43 : Int32) (u42 : St) => br (r43 = 0) (wp_X7_look_257 K198 u42 y0 post) (wp_X7_look_258 K198 u42 y0 1 post))))
set_option maxHeartbeats 4000000 in
set_option maxRecDepth 20000 in
theorem z_X7_look_233 {X : XX} {ad : Nat → Nat} {cs : Nat → ClassId} {post : St → Prop} (C : CxM X ad cs cX7_look RX7 2 45) (hn : xnL X = 3) (hR : rtV X cX7_look (wM ad cs) post) {K198 : St → Int32 → Int32 → Prop} (hK198 : ∀ (u : St) (x1 : Int32) (x2 : Int32), K198 u x1 x2 → Z X (wM ad cs u) 198 [(0, .ref (ad 0)), (1, .int x1), (2, .int x2)] []) (u : St) (x2 : Int32) (y0 : Int32) (hw : wp_X7_look_233 K198 u x2 y0 post) : Z X (wM ad cs u) 233 [(0, .ref (ad 0)), (2, .int x2)] [.int y0] := by
  unfold wp_X7_look_233 at hw
  refine z_istore_n (lv' := [(1, .int y0), (0, .ref (ad 0)), (2, .int x2)]) C.1 dX7_look_233 rfl (by rw [hn]; decide) rfl ?_
  refine z_iload_n C.1 dX7_look_234 rfl 2 rfl ?_
  refine z_if_eq (tgt := 257) C.1 dX7_look_235 (by decide) (fun c41 => ?_) (fun c41 => ?_)
  · replace hw := hw.1 c41
    refine z_lv [1, 0] rfl ?_
    exact z_X7_look_257 C hn hR hK198 _ _ hw
  · replace hw := hw.2 c41
    refine z_aload_n C.1 dX7_look_238 rfl 1 rfl ?_
    refine gM_0_tape C mF_X7_7 dX7_look_239 ?_
    refine z_aload_n C.1 dX7_look_242 rfl 1 rfl ?_
    refine gM_0_end C mF_X7_129 dX7_look_243 ?_
    refine lM_1 C hw.1 dX7_look_246 ?_
    replace hw := hw.2
    refine k_X7_isDigit C mM_X7_126 hw (by decide) (Nat.le_of_ble_eq_true rfl) dX7_look_247 (fun r43 u42 hw => ?_)
    refine z_if_eq (tgt := 257) C.1 dX7_look_250 (by decide) (fun c44 => ?_) (fun c44 => ?_)
    · replace hw := hw.1 c44
      refine z_lv [1, 0] rfl ?_
      exact z_X7_look_257 C hn hR hK198 _ _ hw
    · replace hw := hw.2 c44
      refine z_iconst (v := 1) C.1 dX7_look_253 (by decide) ?_
      refine z_goto (tgt := 258) C.1 dX7_look_254 (by decide) ?_
      refine z_lv [1, 0] rfl ?_
      exact z_X7_look_258 C hn hR hK198 _ _ _ hw
def wp_X7_look_232 (K198 : St → Int32 → Int32 → Prop) (u : St) (x2 : Int32) (post : St → Prop) : Prop :=
  wp_X7_look_233 K198 u x2 0 post
set_option maxHeartbeats 4000000 in
set_option maxRecDepth 20000 in
theorem z_X7_look_232 {X : XX} {ad : Nat → Nat} {cs : Nat → ClassId} {post : St → Prop} (C : CxM X ad cs cX7_look RX7 2 45) (hn : xnL X = 3) (hR : rtV X cX7_look (wM ad cs) post) {K198 : St → Int32 → Int32 → Prop} (hK198 : ∀ (u : St) (x1 : Int32) (x2 : Int32), K198 u x1 x2 → Z X (wM ad cs u) 198 [(0, .ref (ad 0)), (1, .int x1), (2, .int x2)] []) (u : St) (x2 : Int32) (hw : wp_X7_look_232 K198 u x2 post) : Z X (wM ad cs u) 232 [(0, .ref (ad 0)), (2, .int x2)] [] := by
  unfold wp_X7_look_232 at hw
  refine z_iconst (v := 0) C.1 dX7_look_232 (by decide) ?_
  refine z_lv [0, 1] rfl ?_
  exact z_X7_look_233 C hn hR hK198 _ _ _ hw
def wp_X7_look_198s (K198 : St → Int32 → Int32 → Prop) (u : St) (x1 : Int32) (x2 : Int32) (post : St → Prop) : Prop :=
  wp_X7_isRow u (gI u 5) (fun (r32 : Int32) (u31 : St) => br (r32 = 0) (br (x1 = 0) (wp_X7_look_330 u31 x1 x2 0 post) (wp_X7_wordOf u31 (fun (r36 : Int32) (u35 : St) => wp_X7_look_330 u35 x1 x2 r36 post))) (br (x1 = 0) (wp_X7_look_232 K198 u31 x2 post) ((vp_in (gI u31 5) 1500 ∧ wp_X7_isLetter u31 (gA u31 1 (ix (gI u31 5))) (fun (r39 : Int32) (u38 : St) => br (r39 = 0) (wp_X7_look_232 K198 u38 x2 post) (wp_X7_look_233 K198 u38 x2 1 post))))))
def wp_X7_look_198 (post : St → Prop) : Nat → St → Int32 → Int32 → Prop
  | 0 => fun _ _ _ => False
  | n + 1 => fun u x1 x2 => wp_X7_look_198s (wp_X7_look_198 post n) u x1 x2 post
set_option maxHeartbeats 4000000 in
set_option maxRecDepth 20000 in
theorem z_X7_look_198s {X : XX} {ad : Nat → Nat} {cs : Nat → ClassId} {post : St → Prop} (C : CxM X ad cs cX7_look RX7 2 45) (hn : xnL X = 3) (hR : rtV X cX7_look (wM ad cs) post) {K198 : St → Int32 → Int32 → Prop} (hK198 : ∀ (u : St) (x1 : Int32) (x2 : Int32), K198 u x1 x2 → Z X (wM ad cs u) 198 [(0, .ref (ad 0)), (1, .int x1), (2, .int x2)] []) (u : St) (x1 : Int32) (x2 : Int32) (hw : wp_X7_look_198s K198 u x1 x2 post) : Z X (wM ad cs u) 198 [(0, .ref (ad 0)), (1, .int x1), (2, .int x2)] [] := by
  unfold wp_X7_look_198s at hw
  refine z_aload_n C.1 dX7_look_198 rfl 0 rfl ?_
  refine z_aload_n C.1 dX7_look_199 rfl 0 rfl ?_
  refine gM_0_end C mF_X7_129 dX7_look_200 ?_
  refine k_X7_isRow C mM_X7_145 hw (by decide) (Nat.le_of_ble_eq_true rfl) dX7_look_203 (fun r32 u31 hw => ?_)
  refine z_if_eq (tgt := 317) C.1 dX7_look_206 (by decide) (fun c33 => ?_) (fun c33 => ?_)
  · replace hw := hw.1 c33
    refine z_aload_n C.1 dX7_look_317 rfl 0 rfl ?_
    refine z_iload_n C.1 dX7_look_318 rfl 1 rfl ?_
    refine z_if_eq (tgt := 329) C.1 dX7_look_319 (by decide) (fun c34 => ?_) (fun c34 => ?_)
    · replace hw := hw.1 c34
      refine z_iconst (v := 0) C.1 dX7_look_329 (by decide) ?_
      refine z_lv [0, 1, 2] rfl ?_
      exact z_X7_look_330 C hn hR _ _ _ _ hw
    · replace hw := hw.2 c34
      refine z_aload_n C.1 dX7_look_322 rfl 0 rfl ?_
      refine k_X7_wordOf C mM_X7_158 hw (by decide) (Nat.le_of_ble_eq_true rfl) dX7_look_323 (fun r36 u35 hw => ?_)
      refine z_goto (tgt := 330) C.1 dX7_look_326 (by decide) ?_
      refine z_lv [0, 1, 2] rfl ?_
      exact z_X7_look_330 C hn hR _ _ _ _ hw
  · replace hw := hw.2 c33
    refine z_iload_n C.1 dX7_look_209 rfl 1 rfl ?_
    refine z_if_eq (tgt := 232) C.1 dX7_look_210 (by decide) (fun c37 => ?_) (fun c37 => ?_)
    · replace hw := hw.1 c37
      refine z_lv [0, 2] rfl ?_
      exact z_X7_look_232 C hn hR hK198 _ _ hw
    · replace hw := hw.2 c37
      refine z_aload_n C.1 dX7_look_213 rfl 0 rfl ?_
      refine gM_0_tape C mF_X7_7 dX7_look_214 ?_
      refine z_aload_n C.1 dX7_look_217 rfl 0 rfl ?_
      refine gM_0_end C mF_X7_129 dX7_look_218 ?_
      refine lM_1 C hw.1 dX7_look_221 ?_
      replace hw := hw.2
      refine k_X7_isLetter C mM_X7_122 hw (by decide) (Nat.le_of_ble_eq_true rfl) dX7_look_222 (fun r39 u38 hw => ?_)
      refine z_if_eq (tgt := 232) C.1 dX7_look_225 (by decide) (fun c40 => ?_) (fun c40 => ?_)
      · replace hw := hw.1 c40
        refine z_lv [0, 2] rfl ?_
        exact z_X7_look_232 C hn hR hK198 _ _ hw
      · replace hw := hw.2 c40
        refine z_iconst (v := 1) C.1 dX7_look_228 (by decide) ?_
        refine z_goto (tgt := 233) C.1 dX7_look_229 (by decide) ?_
        refine z_lv [0, 2] rfl ?_
        exact z_X7_look_233 C hn hR hK198 _ _ _ hw
theorem z_X7_look_198 {X : XX} {ad : Nat → Nat} {cs : Nat → ClassId} {post : St → Prop} (C : CxM X ad cs cX7_look RX7 2 45) (hn : xnL X = 3) (hR : rtV X cX7_look (wM ad cs) post) : ∀ (n : Nat) (u : St) (x1 : Int32) (x2 : Int32), wp_X7_look_198 post n u x1 x2 → Z X (wM ad cs u) 198 [(0, .ref (ad 0)), (1, .int x1), (2, .int x2)] []
  | 0, _, _, _, hw => absurd hw (fun h => h)
  | n + 1, u, x1, x2, hw => z_X7_look_198s C hn hR (z_X7_look_198 C hn hR n) u x1 x2 hw
def wp_X7_look_180 (u : St) (post : St → Prop) : Prop :=
  nm (sI u 6 4) (fun u30 : St => post u30)
set_option maxHeartbeats 4000000 in
set_option maxRecDepth 20000 in
theorem z_X7_look_180 {X : XX} {ad : Nat → Nat} {cs : Nat → ClassId} {post : St → Prop} (C : CxM X ad cs cX7_look RX7 2 45) (hn : xnL X = 3) (hR : rtV X cX7_look (wM ad cs) post) (u : St) (hw : wp_X7_look_180 u post) : Z X (wM ad cs u) 180 [] [.ref (ad 0)] := by
  unfold wp_X7_look_180 at hw
  refine z_iconst (v := 4) C.1 dX7_look_180 (by decide) ?_
  refine z_goto (tgt := 185) C.1 dX7_look_181 (by decide) ?_
  refine pM_0_token C mF_X7_142 dX7_look_185 (fun u30 eu30 => ?_)
  replace hw := hw u30 eu30
  exact hR _ _ _ dX7_look_188 hw
def wp_X7_look_39 (u : St) (post : St → Prop) : Prop :=
  nm (sI u 5 (gI u 4)) (fun u6 : St => br ((gI u6 4) = (gI u6 1)) (nm (sI u6 6 0) (fun u29 : St => post u29)) (wp_X7_isRow u6 (gI u6 4) (fun (r9 : Int32) (u8 : St) => br (r9 = 0) ((vp_in (gI u8 4) 1500 ∧ nm (gA u8 1 (ix (gI u8 4))) (fun v12 : Int32 => nm (sI u8 5 ((gI u8 4) + 1)) (fun u13 : St => br (v12 = 40) (wp_X7_look_180 u13 post) (br (v12 = 41) (wp_X7_look_180 u13 post) (br (v12 = 44) (wp_X7_look_180 u13 post) (br (v12 = 61) (wp_X7_look_180 u13 post) (br (v12 = 59) (wp_X7_look_180 u13 post) (br (v12 = 60) (wp_X7_look_180 u13 post) (br (v12 = 62) (wp_X7_look_180 u13 post) (br (v12 = 43) (wp_X7_look_180 u13 post) (br (v12 = 45) (wp_X7_look_180 u13 post) (br (v12 = 42) (wp_X7_look_180 u13 post) (br (v12 = 47) (wp_X7_look_180 u13 post) (br (v12 = 37) (wp_X7_look_180 u13 post) (br (v12 = 91) (wp_X7_look_180 u13 post) (br (v12 = 93) (wp_X7_look_180 u13 post) (nm (sI u13 6 5) (fun u28 : St => post u28))))))))))))))))))) (nm (sL u8 0 0) (fun u11 : St => ∃ n, wp_X7_look_198 post n u11 1 1)))))
set_option maxHeartbeats 4000000 in
set_option maxRecDepth 20000 in
theorem z_X7_look_39 {X : XX} {ad : Nat → Nat} {cs : Nat → ClassId} {post : St → Prop} (C : CxM X ad cs cX7_look RX7 2 45) (hn : xnL X = 3) (hR : rtV X cX7_look (wM ad cs) post) (u : St) (hw : wp_X7_look_39 u post) : Z X (wM ad cs u) 39 [(0, .ref (ad 0))] [] := by
  unfold wp_X7_look_39 at hw
  refine z_aload_n C.1 dX7_look_39 rfl 0 rfl ?_
  refine z_aload_n C.1 dX7_look_40 rfl 0 rfl ?_
  refine gM_0_at C mF_X7_132 dX7_look_41 ?_
  refine pM_0_end C mF_X7_129 dX7_look_44 (fun u6 eu6 => ?_)
  replace hw := hw u6 eu6
  refine z_aload_n C.1 dX7_look_47 rfl 0 rfl ?_
  refine gM_0_at C mF_X7_132 dX7_look_48 ?_
  refine z_aload_n C.1 dX7_look_51 rfl 0 rfl ?_
  refine gM_0_size C mF_X7_119 dX7_look_52 ?_
  refine z_icmp_ne (tgt := 64) C.1 dX7_look_55 (by decide) (fun c7 => ?_) (fun c7 => ?_)
  · replace hw := hw.2 c7
    refine z_aload_n C.1 dX7_look_64 rfl 0 rfl ?_
    refine z_aload_n C.1 dX7_look_65 rfl 0 rfl ?_
    refine gM_0_at C mF_X7_132 dX7_look_66 ?_
    refine k_X7_isRow C mM_X7_145 hw (by decide) (Nat.le_of_ble_eq_true rfl) dX7_look_69 (fun r9 u8 hw => ?_)
    refine z_if_ne (tgt := 189) C.1 dX7_look_72 (by decide) (fun c10 => ?_) (fun c10 => ?_)
    · replace hw := hw.2 c10
      refine z_iconst (v := 1) C.1 dX7_look_189 (by decide) ?_
      refine z_istore_n (lv' := [(1, .int 1), (0, .ref (ad 0))]) C.1 dX7_look_190 rfl (by rw [hn]; decide) rfl ?_
      refine z_iconst (v := 1) C.1 dX7_look_191 (by decide) ?_
      refine z_istore_n (lv' := [(2, .int 1), (1, .int 1), (0, .ref (ad 0))]) C.1 dX7_look_192 rfl (by rw [hn]; decide) rfl ?_
      refine z_aload_n C.1 dX7_look_193 rfl 2 rfl ?_
      refine z_lconst (v := 0) C.1 dX7_look_194 (by decide) ?_
      refine pM_0_number C mF_X7_148 dX7_look_195 (fun u11 eu11 => ?_)
      replace hw := hw u11 eu11
      refine z_lv [2, 1, 0] rfl ?_
      obtain ⟨n, hw⟩ := hw
      exact z_X7_look_198 C hn hR n _ _ _ hw
    · replace hw := hw.1 c10
      refine z_aload_n C.1 dX7_look_75 rfl 0 rfl ?_
      refine gM_0_tape C mF_X7_7 dX7_look_76 ?_
      refine z_aload_n C.1 dX7_look_79 rfl 0 rfl ?_
      refine gM_0_at C mF_X7_132 dX7_look_80 ?_
      refine lM_1 C hw.1 dX7_look_83 ?_
      replace hw := hw.2
      refine z_topi (fun v12 ev12 => ?_)
      replace hw := hw v12 ev12
      refine z_istore_n (lv' := [(1, .int v12), (0, .ref (ad 0))]) C.1 dX7_look_84 rfl (by rw [hn]; decide) rfl ?_
      refine z_aload_n C.1 dX7_look_85 rfl 1 rfl ?_
      refine z_aload_n C.1 dX7_look_86 rfl 1 rfl ?_
      refine gM_0_at C mF_X7_132 dX7_look_87 ?_
      refine z_iconst (v := 1) C.1 dX7_look_90 (by decide) ?_
      refine z_iadd C.1 dX7_look_91 ?_
      refine pM_0_end C mF_X7_129 dX7_look_92 (fun u13 eu13 => ?_)
      replace hw := hw u13 eu13
      refine z_aload_n C.1 dX7_look_95 rfl 1 rfl ?_
      refine z_iload_n C.1 dX7_look_96 rfl 0 rfl ?_
      refine z_bipush (v := 40) C.1 dX7_look_97 (by decide) ?_
      refine z_icmp_eq (tgt := 180) C.1 dX7_look_99 (by decide) (fun c14 => ?_) (fun c14 => ?_)
      · replace hw := hw.1 c14
        refine z_lv [] rfl ?_
        exact z_X7_look_180 C hn hR _ hw
      · replace hw := hw.2 c14
        refine z_iload_n C.1 dX7_look_102 rfl 0 rfl ?_
        refine z_bipush (v := 41) C.1 dX7_look_103 (by decide) ?_
        refine z_icmp_eq (tgt := 180) C.1 dX7_look_105 (by decide) (fun c15 => ?_) (fun c15 => ?_)
        · replace hw := hw.1 c15
          refine z_lv [] rfl ?_
          exact z_X7_look_180 C hn hR _ hw
        · replace hw := hw.2 c15
          refine z_iload_n C.1 dX7_look_108 rfl 0 rfl ?_
          refine z_bipush (v := 44) C.1 dX7_look_109 (by decide) ?_
          refine z_icmp_eq (tgt := 180) C.1 dX7_look_111 (by decide) (fun c16 => ?_) (fun c16 => ?_)
          · replace hw := hw.1 c16
            refine z_lv [] rfl ?_
            exact z_X7_look_180 C hn hR _ hw
          · replace hw := hw.2 c16
            refine z_iload_n C.1 dX7_look_114 rfl 0 rfl ?_
            refine z_bipush (v := 61) C.1 dX7_look_115 (by decide) ?_
            refine z_icmp_eq (tgt := 180) C.1 dX7_look_117 (by decide) (fun c17 => ?_) (fun c17 => ?_)
            · replace hw := hw.1 c17
              refine z_lv [] rfl ?_
              exact z_X7_look_180 C hn hR _ hw
            · replace hw := hw.2 c17
              refine z_iload_n C.1 dX7_look_120 rfl 0 rfl ?_
              refine z_bipush (v := 59) C.1 dX7_look_121 (by decide) ?_
              refine z_icmp_eq (tgt := 180) C.1 dX7_look_123 (by decide) (fun c18 => ?_) (fun c18 => ?_)
              · replace hw := hw.1 c18
                refine z_lv [] rfl ?_
                exact z_X7_look_180 C hn hR _ hw
              · replace hw := hw.2 c18
                refine z_iload_n C.1 dX7_look_126 rfl 0 rfl ?_
                refine z_bipush (v := 60) C.1 dX7_look_127 (by decide) ?_
                refine z_icmp_eq (tgt := 180) C.1 dX7_look_129 (by decide) (fun c19 => ?_) (fun c19 => ?_)
                · replace hw := hw.1 c19
                  refine z_lv [] rfl ?_
                  exact z_X7_look_180 C hn hR _ hw
                · replace hw := hw.2 c19
                  refine z_iload_n C.1 dX7_look_132 rfl 0 rfl ?_
                  refine z_bipush (v := 62) C.1 dX7_look_133 (by decide) ?_
                  refine z_icmp_eq (tgt := 180) C.1 dX7_look_135 (by decide) (fun c20 => ?_) (fun c20 => ?_)
                  · replace hw := hw.1 c20
                    refine z_lv [] rfl ?_
                    exact z_X7_look_180 C hn hR _ hw
                  · replace hw := hw.2 c20
                    refine z_iload_n C.1 dX7_look_138 rfl 0 rfl ?_
                    refine z_bipush (v := 43) C.1 dX7_look_139 (by decide) ?_
                    refine z_icmp_eq (tgt := 180) C.1 dX7_look_141 (by decide) (fun c21 => ?_) (fun c21 => ?_)
                    · replace hw := hw.1 c21
                      refine z_lv [] rfl ?_
                      exact z_X7_look_180 C hn hR _ hw
                    · replace hw := hw.2 c21
                      refine z_iload_n C.1 dX7_look_144 rfl 0 rfl ?_
                      refine z_bipush (v := 45) C.1 dX7_look_145 (by decide) ?_
                      refine z_icmp_eq (tgt := 180) C.1 dX7_look_147 (by decide) (fun c22 => ?_) (fun c22 => ?_)
                      · replace hw := hw.1 c22
                        refine z_lv [] rfl ?_
                        exact z_X7_look_180 C hn hR _ hw
                      · replace hw := hw.2 c22
                        refine z_iload_n C.1 dX7_look_150 rfl 0 rfl ?_
                        refine z_bipush (v := 42) C.1 dX7_look_151 (by decide) ?_
                        refine z_icmp_eq (tgt := 180) C.1 dX7_look_153 (by decide) (fun c23 => ?_) (fun c23 => ?_)
                        · replace hw := hw.1 c23
                          refine z_lv [] rfl ?_
                          exact z_X7_look_180 C hn hR _ hw
                        · replace hw := hw.2 c23
                          refine z_iload_n C.1 dX7_look_156 rfl 0 rfl ?_
                          refine z_bipush (v := 47) C.1 dX7_look_157 (by decide) ?_
                          refine z_icmp_eq (tgt := 180) C.1 dX7_look_159 (by decide) (fun c24 => ?_) (fun c24 => ?_)
                          · replace hw := hw.1 c24
                            refine z_lv [] rfl ?_
                            exact z_X7_look_180 C hn hR _ hw
                          · replace hw := hw.2 c24
                            refine z_iload_n C.1 dX7_look_162 rfl 0 rfl ?_
                            refine z_bipush (v := 37) C.1 dX7_look_163 (by decide) ?_
                            refine z_icmp_eq (tgt := 180) C.1 dX7_look_165 (by decide) (fun c25 => ?_) (fun c25 => ?_)
                            · replace hw := hw.1 c25
                              refine z_lv [] rfl ?_
                              exact z_X7_look_180 C hn hR _ hw
                            · replace hw := hw.2 c25
                              refine z_iload_n C.1 dX7_look_168 rfl 0 rfl ?_
                              refine z_bipush (v := 91) C.1 dX7_look_169 (by decide) ?_
                              refine z_icmp_eq (tgt := 180) C.1 dX7_look_171 (by decide) (fun c26 => ?_) (fun c26 => ?_)
                              · replace hw := hw.1 c26
                                refine z_lv [] rfl ?_
                                exact z_X7_look_180 C hn hR _ hw
                              · replace hw := hw.2 c26
                                refine z_iload_n C.1 dX7_look_174 rfl 0 rfl ?_
                                refine z_bipush (v := 93) C.1 dX7_look_175 (by decide) ?_
                                refine z_icmp_ne (tgt := 184) C.1 dX7_look_177 (by decide) (fun c27 => ?_) (fun c27 => ?_)
                                · replace hw := hw.2 c27
                                  refine z_iconst (v := 5) C.1 dX7_look_184 (by decide) ?_
                                  refine pM_0_token C mF_X7_142 dX7_look_185 (fun u28 eu28 => ?_)
                                  replace hw := hw u28 eu28
                                  exact hR _ _ _ dX7_look_188 hw
                                · replace hw := hw.1 c27
                                  refine z_lv [] rfl ?_
                                  exact z_X7_look_180 C hn hR _ hw
  · replace hw := hw.1 c7
    refine z_aload_n C.1 dX7_look_58 rfl 0 rfl ?_
    refine z_iconst (v := 0) C.1 dX7_look_59 (by decide) ?_
    refine pM_0_token C mF_X7_142 dX7_look_60 (fun u29 eu29 => ?_)
    replace hw := hw u29 eu29
    exact hR _ _ _ dX7_look_63 hw
def wp_X7_look_0s (K0 : St → Prop) (u : St) (post : St → Prop) : Prop :=
  br ((gI u 1) ≤ (gI u 4)) (wp_X7_look_39 u post) ((vp_in (gI u 4) 1500 ∧ wp_X7_isBlank u (gA u 1 (ix (gI u 4))) (fun (r3 : Int32) (u2 : St) => br (r3 = 0) (wp_X7_look_39 u2 post) (nm (sI u2 4 ((gI u2 4) + 1)) (fun u5 : St => K0 u5)))))
def wp_X7_look_0 (post : St → Prop) : Nat → St → Prop
  | 0 => fun _ => False
  | n + 1 => fun u => wp_X7_look_0s (wp_X7_look_0 post n) u post
set_option maxHeartbeats 4000000 in
set_option maxRecDepth 20000 in
theorem z_X7_look_0s {X : XX} {ad : Nat → Nat} {cs : Nat → ClassId} {post : St → Prop} (C : CxM X ad cs cX7_look RX7 2 45) (hn : xnL X = 3) (hR : rtV X cX7_look (wM ad cs) post) {K0 : St → Prop} (hK0 : ∀ (u : St), K0 u → Z X (wM ad cs u) 0 [(0, .ref (ad 0))] []) (u : St) (hw : wp_X7_look_0s K0 u post) : Z X (wM ad cs u) 0 [(0, .ref (ad 0))] [] := by
  unfold wp_X7_look_0s at hw
  refine z_aload_n C.1 dX7_look_0 rfl 0 rfl ?_
  refine gM_0_at C mF_X7_132 dX7_look_1 ?_
  refine z_aload_n C.1 dX7_look_4 rfl 0 rfl ?_
  refine gM_0_size C mF_X7_119 dX7_look_5 ?_
  refine z_icmp_ge (tgt := 39) C.1 dX7_look_8 (by decide) (fun c1 => ?_) (fun c1 => ?_)
  · replace hw := hw.1 c1
    refine z_lv [0] rfl ?_
    exact z_X7_look_39 C hn hR _ hw
  · replace hw := hw.2 c1
    refine z_aload_n C.1 dX7_look_11 rfl 0 rfl ?_
    refine gM_0_tape C mF_X7_7 dX7_look_12 ?_
    refine z_aload_n C.1 dX7_look_15 rfl 0 rfl ?_
    refine gM_0_at C mF_X7_132 dX7_look_16 ?_
    refine lM_1 C hw.1 dX7_look_19 ?_
    replace hw := hw.2
    refine k_X7_isBlank C mM_X7_139 hw (by decide) (Nat.le_of_ble_eq_true rfl) dX7_look_20 (fun r3 u2 hw => ?_)
    refine z_if_eq (tgt := 39) C.1 dX7_look_23 (by decide) (fun c4 => ?_) (fun c4 => ?_)
    · replace hw := hw.1 c4
      refine z_lv [0] rfl ?_
      exact z_X7_look_39 C hn hR _ hw
    · replace hw := hw.2 c4
      refine z_aload_n C.1 dX7_look_26 rfl 0 rfl ?_
      refine z_dup C.1 dX7_look_27 rfl ?_
      refine gM_0_at C mF_X7_132 dX7_look_28 ?_
      refine z_iconst (v := 1) C.1 dX7_look_31 (by decide) ?_
      refine z_iadd C.1 dX7_look_32 ?_
      refine pM_0_at C mF_X7_132 dX7_look_33 (fun u5 eu5 => ?_)
      replace hw := hw u5 eu5
      refine z_goto (tgt := 0) C.1 dX7_look_36 (by decide) ?_
      refine z_lv [0] rfl ?_
      exact hK0 _ hw
theorem z_X7_look_0 {X : XX} {ad : Nat → Nat} {cs : Nat → ClassId} {post : St → Prop} (C : CxM X ad cs cX7_look RX7 2 45) (hn : xnL X = 3) (hR : rtV X cX7_look (wM ad cs) post) : ∀ (n : Nat) (u : St), wp_X7_look_0 post n u → Z X (wM ad cs u) 0 [(0, .ref (ad 0))] []
  | 0, _, hw => absurd hw (fun h => h)
  | n + 1, u, hw => z_X7_look_0s C hn hR (z_X7_look_0 C hn hR n) u hw
def wp_X7_look (u : St) (post : St → Prop) : Prop :=
  ∃ n, wp_X7_look_0 post n u
set_option maxHeartbeats 4000000 in
set_option maxRecDepth 20000 in
theorem z_X7_look {X : XX} {ad : Nat → Nat} {cs : Nat → ClassId} {post : St → Prop} (C : CxM X ad cs cX7_look RX7 2 45) (hn : xnL X = 3) (hR : rtV X cX7_look (wM ad cs) post) (u : St) (hw : wp_X7_look u post) : Z X (wM ad cs u) 0 [(0, .ref (ad 0))] [] := by
  unfold wp_X7_look at hw
  refine z_lv [0] rfl ?_
  obtain ⟨n, hw⟩ := hw
  exact z_X7_look_0 C hn hR n _ hw
theorem c_X7_look {l : Launch} {D : va_G} {A : Nat → Prop} {ad : Nat → Nat} {cs : Nat → ClassId} (hD : ∀ u : St, va_D A (wM ad cs u)) (u : St) (post : St → Prop) (hw : wp_X7_look u post) : MV (ad 90, ad 91) l yX7_look cX7_look 3 none (rmm 2 45) D (tysM cs) A (wM ad cs) u [.ref (ad 0)] post :=
  met_v (by decide) (Nat.le_of_ble_eq_true rfl) (fun X C _ _ ht hA hn hsg hR => z_X7_look ⟨C, ht, fun u => by rw [hA]; exact hD u, hsg⟩ hn hR u hw)
theorem k_X7_look {X : XX} {ad : Nat → Nat} {cs : Nat → ClassId} {cc : ByteArray} {own : String} {fr lo pc : Nat} {lv : List (Nat × Value)} {st : List Value} {u : St} (C : CxM X ad cs cc own fr lo) {idx : Nat} {P : St → Prop} (hlink : Cond.methodLink own idx yX7_look ∈ W0) (hw : wp_X7_look u P) (hr : 2 + 1 ≤ fr ∧ 8 + (3 + 11) + 45 ≤ lo) (hst : (st.map fun v => v.category).sum ≤ 8) (hdg : decode cc pc = .ok (.invokevirtual idx, 3)) (k : ∀ (u2 : St), P u2 → Z X (wM ad cs u2) (pc + 3) lv st) : Z X (wM ad cs u) pc lv (.ref (ad 0) :: st) :=
  z_callVv (wf := wM ad cs) (As := []) (rest := st) C.1 0 (q0 := 0) mI_X7_look mS_X7_look rfl rfl (by rw [C.2.1, C.2.2.2]; exact c_X7_look C.2.2.1 u P hw) mC_X7_look mZ_X7 (by decide +kernel) rfl hlink hr hst hdg k

def wp_X7_go (u : St) (post : St → Prop) : Prop :=
  br ((gI u 13) = 0) (post u) (nm (sI u 4 (gI u 5)) (fun u2 : St => wp_X7_look u2 (fun (u3 : St) => post u3)))
set_option maxHeartbeats 4000000 in
set_option maxRecDepth 20000 in
theorem z_X7_go {X : XX} {ad : Nat → Nat} {cs : Nat → ClassId} {post : St → Prop} (C : CxM X ad cs cX7_go RX7 3 67) (hn : xnL X = 1) (hR : rtV X cX7_go (wM ad cs) post) (u : St) (hw : wp_X7_go u post) : Z X (wM ad cs u) 0 [(0, .ref (ad 0))] [] := by
  unfold wp_X7_go at hw
  refine z_aload_n C.1 dX7_go_0 rfl 0 rfl ?_
  refine gM_0_right C mF_X7_165 dX7_go_1 ?_
  refine z_if_eq (tgt := 19) C.1 dX7_go_4 (by decide) (fun c1 => ?_) (fun c1 => ?_)
  · replace hw := hw.1 c1
    exact hR _ _ _ dX7_go_19 hw
  · replace hw := hw.2 c1
    refine z_aload_n C.1 dX7_go_7 rfl 0 rfl ?_
    refine z_aload_n C.1 dX7_go_8 rfl 0 rfl ?_
    refine gM_0_end C mF_X7_129 dX7_go_9 ?_
    refine pM_0_at C mF_X7_132 dX7_go_12 (fun u2 eu2 => ?_)
    replace hw := hw u2 eu2
    refine z_aload_n C.1 dX7_go_15 rfl 0 rfl ?_
    refine k_X7_look C mM_X7_169 hw (by decide) (Nat.le_of_ble_eq_true rfl) dX7_go_16 (fun u3 hw => ?_)
    exact hR _ _ _ dX7_go_19 hw
theorem c_X7_go {l : Launch} {D : va_G} {A : Nat → Prop} {ad : Nat → Nat} {cs : Nat → ClassId} (hD : ∀ u : St, va_D A (wM ad cs u)) (u : St) (post : St → Prop) (hw : wp_X7_go u post) : MV (ad 90, ad 91) l yX7_go cX7_go 1 none (rmm 3 67) D (tysM cs) A (wM ad cs) u [.ref (ad 0)] post :=
  met_v (by decide) (Nat.le_of_ble_eq_true rfl) (fun X C _ _ ht hA hn hsg hR => z_X7_go ⟨C, ht, fun u => by rw [hA]; exact hD u, hsg⟩ hn hR u hw)
theorem k_X7_go {X : XX} {ad : Nat → Nat} {cs : Nat → ClassId} {cc : ByteArray} {own : String} {fr lo pc : Nat} {lv : List (Nat × Value)} {st : List Value} {u : St} (C : CxM X ad cs cc own fr lo) {idx : Nat} {P : St → Prop} (hlink : Cond.methodLink own idx yX7_go ∈ W0) (hw : wp_X7_go u P) (hr : 3 + 1 ≤ fr ∧ 8 + (1 + 11) + 67 ≤ lo) (hst : (st.map fun v => v.category).sum ≤ 8) (hdg : decode cc pc = .ok (.invokevirtual idx, 3)) (k : ∀ (u2 : St), P u2 → Z X (wM ad cs u2) (pc + 3) lv st) : Z X (wM ad cs u) pc lv (.ref (ad 0) :: st) :=
  z_callVv (wf := wM ad cs) (As := []) (rest := st) C.1 0 (q0 := 0) mI_X7_go mS_X7_go rfl rfl (by rw [C.2.1, C.2.2.2]; exact c_X7_go C.2.2.1 u P hw) mC_X7_go mZ_X7 (by decide +kernel) rfl hlink hr hst hdg k

def wp_X7_isSign (u : St) (x1 : Int32) (post : Int32 → St → Prop) : Prop :=
  br ((gI u 6) = 4) ((vp_in (gI u 4) 1500 ∧ br ((gA u 1 (ix (gI u 4))) = x1) ((bz 1 ∧ post 1 u)) ((bz 0 ∧ post 0 u)))) ((bz 0 ∧ post 0 u))
set_option maxHeartbeats 4000000 in
set_option maxRecDepth 20000 in
theorem z_X7_isSign {X : XX} {ad : Nat → Nat} {cs : Nat → ClassId} {post : Int32 → St → Prop} (C : CxM X ad cs cX7_isSign RX7 0 0) (hn : xnL X = 2) (hR : rtZ X cX7_isSign (wM ad cs) post) (u : St) (x1 : Int32) (hw : wp_X7_isSign u x1 post) : Z X (wM ad cs u) 0 [(0, .ref (ad 0)), (1, .int x1)] [] := by
  unfold wp_X7_isSign at hw
  refine z_aload_n C.1 dX7_isSign_0 rfl 0 rfl ?_
  refine gM_0_token C mF_X7_142 dX7_isSign_1 ?_
  refine z_iconst (v := 4) C.1 dX7_isSign_4 (by decide) ?_
  refine z_icmp_ne (tgt := 25) C.1 dX7_isSign_5 (by decide) (fun c1 => ?_) (fun c1 => ?_)
  · replace hw := hw.2 c1
    refine z_iconst (v := 0) C.1 dX7_isSign_25 (by decide) ?_
    exact hR _ _ _ _ dX7_isSign_26 hw
  · replace hw := hw.1 c1
    refine z_aload_n C.1 dX7_isSign_8 rfl 0 rfl ?_
    refine gM_0_tape C mF_X7_7 dX7_isSign_9 ?_
    refine z_aload_n C.1 dX7_isSign_12 rfl 0 rfl ?_
    refine gM_0_at C mF_X7_132 dX7_isSign_13 ?_
    refine lM_1 C hw.1 dX7_isSign_16 ?_
    replace hw := hw.2
    refine z_iload_n C.1 dX7_isSign_17 rfl 1 rfl ?_
    refine z_icmp_ne (tgt := 25) C.1 dX7_isSign_18 (by decide) (fun c2 => ?_) (fun c2 => ?_)
    · replace hw := hw.2 c2
      refine z_iconst (v := 0) C.1 dX7_isSign_25 (by decide) ?_
      exact hR _ _ _ _ dX7_isSign_26 hw
    · replace hw := hw.1 c2
      refine z_iconst (v := 1) C.1 dX7_isSign_21 (by decide) ?_
      refine z_goto (tgt := 26) C.1 dX7_isSign_22 (by decide) ?_
      exact hR _ _ _ _ dX7_isSign_26 hw
theorem c_X7_isSign {l : Launch} {D : va_G} {A : Nat → Prop} {ad : Nat → Nat} {cs : Nat → ClassId} (hD : ∀ u : St, va_D A (wM ad cs u)) (u : St) (x1 : Int32) (post : Int32 → St → Prop) (hw : wp_X7_isSign u x1 post) : MI (ad 90, ad 91) l yX7_isSign cX7_isSign 2 (some .boolean) (rmm 0 0) D (tysM cs) A (wM ad cs) u [.ref (ad 0), .int x1] post :=
  met_z (by decide) (Nat.le_of_ble_eq_true rfl) (fun X C _ _ ht hA hn hsg hR => z_X7_isSign ⟨C, ht, fun u => by rw [hA]; exact hD u, hsg⟩ hn hR u x1 hw)
theorem k_X7_isSign {X : XX} {ad : Nat → Nat} {cs : Nat → ClassId} {cc : ByteArray} {own : String} {fr lo pc : Nat} {lv : List (Nat × Value)} {st : List Value} {u : St} (C : CxM X ad cs cc own fr lo) {idx : Nat} {x1 : Int32} {P : Int32 → St → Prop} (hlink : Cond.methodLink own idx yX7_isSign ∈ W0) (hw : wp_X7_isSign u x1 P) (hr : 0 + 1 ≤ fr ∧ 8 + (2 + 11) + 0 ≤ lo) (hst : (st.map fun v => v.category).sum ≤ 8) (hdg : decode cc pc = .ok (.invokevirtual idx, 3)) (k : ∀ (r : Int32) (u2 : St), P r u2 → Z X (wM ad cs u2) (pc + 3) lv (.int r :: st)) : Z X (wM ad cs u) pc lv (.int x1 :: .ref (ad 0) :: st) :=
  z_callVi (wf := wM ad cs) (As := [.int x1]) (rest := st) C.1 1 (q0 := 0) mI_X7_isSign mS_X7_isSign rfl rfl (by rw [C.2.1, C.2.2.2]; exact c_X7_isSign C.2.2.1 u x1 P hw) mC_X7_isSign mZ_X7 (by decide +kernel) rfl hlink hr hst hdg k

def wp_X7_take (u : St) (x1 : Int32) (post : Int32 → St → Prop) : Prop :=
  wp_X7_isSign u x1 (fun (r2 : Int32) (u1 : St) => br (r2 = 0) ((bz r2 ∧ post r2 u1)) (wp_X7_go u1 (fun (u4 : St) => (bz r2 ∧ post r2 u4))))
set_option maxHeartbeats 4000000 in
set_option maxRecDepth 20000 in
theorem z_X7_take {X : XX} {ad : Nat → Nat} {cs : Nat → ClassId} {post : Int32 → St → Prop} (C : CxM X ad cs cX7_take RX7 4 87) (hn : xnL X = 3) (hR : rtZ X cX7_take (wM ad cs) post) (u : St) (x1 : Int32) (hw : wp_X7_take u x1 post) : Z X (wM ad cs u) 0 [(0, .ref (ad 0)), (1, .int x1)] [] := by
  unfold wp_X7_take at hw
  refine z_aload_n C.1 dX7_take_0 rfl 0 rfl ?_
  refine z_iload_n C.1 dX7_take_1 rfl 1 rfl ?_
  refine k_X7_isSign C mM_X7_172 hw (by decide) (Nat.le_of_ble_eq_true rfl) dX7_take_2 (fun r2 u1 hw => ?_)
  refine z_istore_n (lv' := [(2, .int r2), (0, .ref (ad 0)), (1, .int x1)]) C.1 dX7_take_5 rfl (by rw [hn]; decide) rfl ?_
  refine z_iload_n C.1 dX7_take_6 rfl 0 rfl ?_
  refine z_if_eq (tgt := 14) C.1 dX7_take_7 (by decide) (fun c3 => ?_) (fun c3 => ?_)
  · replace hw := hw.1 c3
    refine z_iload_n C.1 dX7_take_14 rfl 0 rfl ?_
    exact hR _ _ _ _ dX7_take_15 hw
  · replace hw := hw.2 c3
    refine z_aload_n C.1 dX7_take_10 rfl 1 rfl ?_
    refine k_X7_go C mM_X7_175 hw (by decide) (Nat.le_of_ble_eq_true rfl) dX7_take_11 (fun u4 hw => ?_)
    refine z_iload_n C.1 dX7_take_14 rfl 0 rfl ?_
    exact hR _ _ _ _ dX7_take_15 hw
theorem c_X7_take {l : Launch} {D : va_G} {A : Nat → Prop} {ad : Nat → Nat} {cs : Nat → ClassId} (hD : ∀ u : St, va_D A (wM ad cs u)) (u : St) (x1 : Int32) (post : Int32 → St → Prop) (hw : wp_X7_take u x1 post) : MI (ad 90, ad 91) l yX7_take cX7_take 3 (some .boolean) (rmm 4 87) D (tysM cs) A (wM ad cs) u [.ref (ad 0), .int x1] post :=
  met_z (by decide) (Nat.le_of_ble_eq_true rfl) (fun X C _ _ ht hA hn hsg hR => z_X7_take ⟨C, ht, fun u => by rw [hA]; exact hD u, hsg⟩ hn hR u x1 hw)
theorem k_X7_take {X : XX} {ad : Nat → Nat} {cs : Nat → ClassId} {cc : ByteArray} {own : String} {fr lo pc : Nat} {lv : List (Nat × Value)} {st : List Value} {u : St} (C : CxM X ad cs cc own fr lo) {idx : Nat} {x1 : Int32} {P : Int32 → St → Prop} (hlink : Cond.methodLink own idx yX7_take ∈ W0) (hw : wp_X7_take u x1 P) (hr : 4 + 1 ≤ fr ∧ 8 + (3 + 11) + 87 ≤ lo) (hst : (st.map fun v => v.category).sum ≤ 8) (hdg : decode cc pc = .ok (.invokevirtual idx, 3)) (k : ∀ (r : Int32) (u2 : St), P r u2 → Z X (wM ad cs u2) (pc + 3) lv (.int r :: st)) : Z X (wM ad cs u) pc lv (.int x1 :: .ref (ad 0) :: st) :=
  z_callVi (wf := wM ad cs) (As := [.int x1]) (rest := st) C.1 1 (q0 := 0) mI_X7_take mS_X7_take rfl rfl (by rw [C.2.1, C.2.2.2]; exact c_X7_take C.2.2.1 u x1 P hw) mC_X7_take mZ_X7 (by decide +kernel) rfl hlink hr hst hdg k

def wp_X7_nameOf_7s (K7 : St → Int64 → Int32 → Prop) (u : St) (x1 : Int64) (x3 : Int32) (post : Int64 → St → Prop) : Prop :=
  br ((gI u 5) ≤ x3) (post x1 u) ((vp_in x3 1500 ∧ nm ((((32 * x1) + (Int32.toInt64 (gA u 1 (ix x3)))) - 97) + 1) (fun v3 : Int64 => nm (x3 + 1) (fun v4 : Int32 => K7 u v3 v4))))
def wp_X7_nameOf_7 (post : Int64 → St → Prop) : Nat → St → Int64 → Int32 → Prop
  | 0 => fun _ _ _ => False
  | n + 1 => fun u x1 x3 => wp_X7_nameOf_7s (wp_X7_nameOf_7 post n) u x1 x3 post
set_option maxHeartbeats 4000000 in
set_option maxRecDepth 20000 in
theorem z_X7_nameOf_7s {X : XX} {ad : Nat → Nat} {cs : Nat → ClassId} {post : Int64 → St → Prop} (C : CxM X ad cs cX7_nameOf RX7 0 0) (hn : xnL X = 4) (hR : rtL X cX7_nameOf (wM ad cs) post) {K7 : St → Int64 → Int32 → Prop} (hK7 : ∀ (u : St) (x1 : Int64) (x3 : Int32), K7 u x1 x3 → Z X (wM ad cs u) 7 [(0, .ref (ad 0)), (1, .long x1), (3, .int x3)] []) (u : St) (x1 : Int64) (x3 : Int32) (hw : wp_X7_nameOf_7s K7 u x1 x3 post) : Z X (wM ad cs u) 7 [(0, .ref (ad 0)), (1, .long x1), (3, .int x3)] [] := by
  unfold wp_X7_nameOf_7s at hw
  refine z_iload_n C.1 dX7_nameOf_7 rfl 2 rfl ?_
  refine z_aload_n C.1 dX7_nameOf_8 rfl 0 rfl ?_
  refine gM_0_end C mF_X7_129 dX7_nameOf_9 ?_
  refine z_icmp_ge (tgt := 41) C.1 dX7_nameOf_12 (by decide) (fun c2 => ?_) (fun c2 => ?_)
  · replace hw := hw.1 c2
    refine z_lload_n C.1 dX7_nameOf_41 rfl 1 rfl ?_
    exact hR _ _ _ _ dX7_nameOf_42 hw
  · replace hw := hw.2 c2
    refine z_ldc2 C.1 mK_X7_178 dX7_nameOf_15 ?_
    refine z_lload_n C.1 dX7_nameOf_18 rfl 1 rfl ?_
    refine z_lmul C.1 dX7_nameOf_19 ?_
    refine z_aload_n C.1 dX7_nameOf_20 rfl 0 rfl ?_
    refine gM_0_tape C mF_X7_7 dX7_nameOf_21 ?_
    refine z_iload_n C.1 dX7_nameOf_24 rfl 2 rfl ?_
    refine lM_1 C hw.1 dX7_nameOf_25 ?_
    replace hw := hw.2
    refine z_i2l C.1 dX7_nameOf_26 ?_
    refine z_ladd C.1 dX7_nameOf_27 ?_
    refine z_ldc2 C.1 mK_X7_180 dX7_nameOf_28 ?_
    refine z_lsub C.1 dX7_nameOf_31 ?_
    refine z_lconst (v := 1) C.1 dX7_nameOf_32 (by decide) ?_
    refine z_ladd C.1 dX7_nameOf_33 ?_
    refine z_topl (fun v3 ev3 => ?_)
    replace hw := hw v3 ev3
    refine z_lstore_n (lv' := [(1, .long v3), (0, .ref (ad 0)), (3, .int x3)]) C.1 dX7_nameOf_34 rfl (by rw [hn]; decide) rfl ?_
    obtain ⟨v4, ev4⟩ : ∃ z : Int32, z = x3 + 1 := ⟨_, rfl⟩
    replace hw := hw v4 ev4
    refine z_iinc (v := v4) (lv' := [(3, .int v4), (1, .long v3), (0, .ref (ad 0))]) C.1 (j := 2) dX7_nameOf_35 rfl (by rw [ev4]; rfl) (by rw [hn]; decide) rfl ?_
    refine z_goto (tgt := 7) C.1 dX7_nameOf_38 (by decide) ?_
    refine z_lv [2, 1, 0] rfl ?_
    exact hK7 _ _ _ hw
theorem z_X7_nameOf_7 {X : XX} {ad : Nat → Nat} {cs : Nat → ClassId} {post : Int64 → St → Prop} (C : CxM X ad cs cX7_nameOf RX7 0 0) (hn : xnL X = 4) (hR : rtL X cX7_nameOf (wM ad cs) post) : ∀ (n : Nat) (u : St) (x1 : Int64) (x3 : Int32), wp_X7_nameOf_7 post n u x1 x3 → Z X (wM ad cs u) 7 [(0, .ref (ad 0)), (1, .long x1), (3, .int x3)] []
  | 0, _, _, _, hw => absurd hw (fun h => h)
  | n + 1, u, x1, x3, hw => z_X7_nameOf_7s C hn hR (z_X7_nameOf_7 C hn hR n) u x1 x3 hw
def wp_X7_nameOf (u : St) (post : Int64 → St → Prop) : Prop :=
  nm (gI u 4) (fun v1 : Int32 => ∃ n, wp_X7_nameOf_7 post n u 0 v1)
set_option maxHeartbeats 4000000 in
set_option maxRecDepth 20000 in
theorem z_X7_nameOf {X : XX} {ad : Nat → Nat} {cs : Nat → ClassId} {post : Int64 → St → Prop} (C : CxM X ad cs cX7_nameOf RX7 0 0) (hn : xnL X = 4) (hR : rtL X cX7_nameOf (wM ad cs) post) (u : St) (hw : wp_X7_nameOf u post) : Z X (wM ad cs u) 0 [(0, .ref (ad 0))] [] := by
  unfold wp_X7_nameOf at hw
  refine z_lconst (v := 0) C.1 dX7_nameOf_0 (by decide) ?_
  refine z_lstore_n (lv' := [(1, .long 0), (0, .ref (ad 0))]) C.1 dX7_nameOf_1 rfl (by rw [hn]; decide) rfl ?_
  refine z_aload_n C.1 dX7_nameOf_2 rfl 1 rfl ?_
  refine gM_0_at C mF_X7_132 dX7_nameOf_3 ?_
  refine z_topi (fun v1 ev1 => ?_)
  replace hw := hw v1 ev1
  refine z_istore_n (lv' := [(3, .int v1), (1, .long 0), (0, .ref (ad 0))]) C.1 dX7_nameOf_6 rfl (by rw [hn]; decide) rfl ?_
  refine z_lv [2, 1, 0] rfl ?_
  obtain ⟨n, hw⟩ := hw
  exact z_X7_nameOf_7 C hn hR n _ _ _ hw
theorem c_X7_nameOf {l : Launch} {D : va_G} {A : Nat → Prop} {ad : Nat → Nat} {cs : Nat → ClassId} (hD : ∀ u : St, va_D A (wM ad cs u)) (u : St) (post : Int64 → St → Prop) (hw : wp_X7_nameOf u post) : ML (ad 90, ad 91) l yX7_nameOf cX7_nameOf 4 (some .long) (rmm 0 0) D (tysM cs) A (wM ad cs) u [.ref (ad 0)] post :=
  met_l (by decide) (Nat.le_of_ble_eq_true rfl) (fun X C _ _ ht hA hn hsg hR => z_X7_nameOf ⟨C, ht, fun u => by rw [hA]; exact hD u, hsg⟩ hn hR u hw)
theorem k_X7_nameOf {X : XX} {ad : Nat → Nat} {cs : Nat → ClassId} {cc : ByteArray} {own : String} {fr lo pc : Nat} {lv : List (Nat × Value)} {st : List Value} {u : St} (C : CxM X ad cs cc own fr lo) {idx : Nat} {P : Int64 → St → Prop} (hlink : Cond.methodLink own idx yX7_nameOf ∈ W0) (hw : wp_X7_nameOf u P) (hr : 0 + 1 ≤ fr ∧ 8 + (4 + 11) + 0 ≤ lo) (hst : (st.map fun v => v.category).sum ≤ 8) (hdg : decode cc pc = .ok (.invokevirtual idx, 3)) (k : ∀ (r : Int64) (u2 : St), P r u2 → Z X (wM ad cs u2) (pc + 3) lv (.long r :: st)) : Z X (wM ad cs u) pc lv (.ref (ad 0) :: st) :=
  z_callVl (wf := wM ad cs) (As := []) (rest := st) C.1 0 (q0 := 0) mI_X7_nameOf mS_X7_nameOf rfl rfl (by rw [C.2.1, C.2.2.2]; exact c_X7_nameOf C.2.2.1 u P hw) mC_X7_nameOf mZ_X7 (by decide +kernel) rfl hlink hr hst hdg k

def wp_X7_part0 (u : St) (post : Int32 → St → Prop) : Prop :=
  post (60 * ((12 * (gI u 2)) + (gI u 10))) u
set_option maxHeartbeats 4000000 in
set_option maxRecDepth 20000 in
theorem z_X7_part0 {X : XX} {ad : Nat → Nat} {cs : Nat → ClassId} {post : Int32 → St → Prop} (C : CxM X ad cs cX7_part0 RX7 0 0) (hn : xnL X = 1) (hR : rtI X cX7_part0 (wM ad cs) post) (u : St) (hw : wp_X7_part0 u post) : Z X (wM ad cs u) 0 [(0, .ref (ad 0))] [] := by
  unfold wp_X7_part0 at hw
  refine z_bipush (v := 60) C.1 dX7_part0_0 (by decide) ?_
  refine z_bipush (v := 12) C.1 dX7_part0_2 (by decide) ?_
  refine z_aload_n C.1 dX7_part0_4 rfl 0 rfl ?_
  refine gM_0_bank C mF_X7_182 dX7_part0_5 ?_
  refine z_imul C.1 dX7_part0_8 ?_
  refine z_aload_n C.1 dX7_part0_9 rfl 0 rfl ?_
  refine gM_0_definition C mF_X7_185 dX7_part0_10 ?_
  refine z_iadd C.1 dX7_part0_13 ?_
  refine z_imul C.1 dX7_part0_14 ?_
  exact hR _ _ _ _ dX7_part0_15 hw
theorem c_X7_part0 {l : Launch} {D : va_G} {A : Nat → Prop} {ad : Nat → Nat} {cs : Nat → ClassId} (hD : ∀ u : St, va_D A (wM ad cs u)) (u : St) (post : Int32 → St → Prop) (hw : wp_X7_part0 u post) : MI (ad 90, ad 91) l yX7_part0 cX7_part0 1 (some .int) (rmm 0 0) D (tysM cs) A (wM ad cs) u [.ref (ad 0)] post :=
  met_i (by decide) (Nat.le_of_ble_eq_true rfl) (fun X C _ _ ht hA hn hsg hR => z_X7_part0 ⟨C, ht, fun u => by rw [hA]; exact hD u, hsg⟩ hn hR u hw)
theorem k_X7_part0 {X : XX} {ad : Nat → Nat} {cs : Nat → ClassId} {cc : ByteArray} {own : String} {fr lo pc : Nat} {lv : List (Nat × Value)} {st : List Value} {u : St} (C : CxM X ad cs cc own fr lo) {idx : Nat} {P : Int32 → St → Prop} (hlink : Cond.methodLink own idx yX7_part0 ∈ W0) (hw : wp_X7_part0 u P) (hr : 0 + 1 ≤ fr ∧ 8 + (1 + 11) + 0 ≤ lo) (hst : (st.map fun v => v.category).sum ≤ 8) (hdg : decode cc pc = .ok (.invokevirtual idx, 3)) (k : ∀ (r : Int32) (u2 : St), P r u2 → Z X (wM ad cs u2) (pc + 3) lv (.int r :: st)) : Z X (wM ad cs u) pc lv (.ref (ad 0) :: st) :=
  z_callVi (wf := wM ad cs) (As := []) (rest := st) C.1 0 (q0 := 0) mI_X7_part0 mS_X7_part0 rfl rfl (by rw [C.2.1, C.2.2.2]; exact c_X7_part0 C.2.2.1 u P hw) mC_X7_part0 mZ_X7 (by decide +kernel) rfl hlink hr hst hdg k

def wp_X7_need (u : St) (x1 : Int32) (post : St → Prop) : Prop :=
  br ((gI u 13) = 0) (nm (sI u 13 0) (fun u2 : St => post u2)) (br (x1 = 0) (nm (sI u 13 0) (fun u4 : St => post u4)) (nm (sI u 13 1) (fun u5 : St => post u5)))
set_option maxHeartbeats 4000000 in
set_option maxRecDepth 20000 in
theorem z_X7_need {X : XX} {ad : Nat → Nat} {cs : Nat → ClassId} {post : St → Prop} (C : CxM X ad cs cX7_need RX7 0 0) (hn : xnL X = 2) (hR : rtV X cX7_need (wM ad cs) post) (u : St) (x1 : Int32) (hw : wp_X7_need u x1 post) : Z X (wM ad cs u) 0 [(0, .ref (ad 0)), (1, .int x1)] [] := by
  unfold wp_X7_need at hw
  refine z_aload_n C.1 dX7_need_0 rfl 0 rfl ?_
  refine z_aload_n C.1 dX7_need_1 rfl 0 rfl ?_
  refine gM_0_right C mF_X7_165 dX7_need_2 ?_
  refine z_if_eq (tgt := 16) C.1 dX7_need_5 (by decide) (fun c1 => ?_) (fun c1 => ?_)
  · replace hw := hw.1 c1
    refine z_iconst (v := 0) C.1 dX7_need_16 (by decide) ?_
    refine pM_0_right C bz0 mF_X7_165 dX7_need_17 (fun u2 eu2 => ?_)
    replace hw := hw u2 eu2
    exact hR _ _ _ dX7_need_20 hw
  · replace hw := hw.2 c1
    refine z_iload_n C.1 dX7_need_8 rfl 1 rfl ?_
    refine z_if_eq (tgt := 16) C.1 dX7_need_9 (by decide) (fun c3 => ?_) (fun c3 => ?_)
    · replace hw := hw.1 c3
      refine z_iconst (v := 0) C.1 dX7_need_16 (by decide) ?_
      refine pM_0_right C bz0 mF_X7_165 dX7_need_17 (fun u4 eu4 => ?_)
      replace hw := hw u4 eu4
      exact hR _ _ _ dX7_need_20 hw
    · replace hw := hw.2 c3
      refine z_iconst (v := 1) C.1 dX7_need_12 (by decide) ?_
      refine z_goto (tgt := 17) C.1 dX7_need_13 (by decide) ?_
      refine pM_0_right C bz1 mF_X7_165 dX7_need_17 (fun u5 eu5 => ?_)
      replace hw := hw u5 eu5
      exact hR _ _ _ dX7_need_20 hw
theorem c_X7_need {l : Launch} {D : va_G} {A : Nat → Prop} {ad : Nat → Nat} {cs : Nat → ClassId} (hD : ∀ u : St, va_D A (wM ad cs u)) (u : St) (x1 : Int32) (post : St → Prop) (hw : wp_X7_need u x1 post) : MV (ad 90, ad 91) l yX7_need cX7_need 2 none (rmm 0 0) D (tysM cs) A (wM ad cs) u [.ref (ad 0), .int x1] post :=
  met_v (by decide) (Nat.le_of_ble_eq_true rfl) (fun X C _ _ ht hA hn hsg hR => z_X7_need ⟨C, ht, fun u => by rw [hA]; exact hD u, hsg⟩ hn hR u x1 hw)
theorem k_X7_need {X : XX} {ad : Nat → Nat} {cs : Nat → ClassId} {cc : ByteArray} {own : String} {fr lo pc : Nat} {lv : List (Nat × Value)} {st : List Value} {u : St} (C : CxM X ad cs cc own fr lo) {idx : Nat} {x1 : Int32} {P : St → Prop} (hlink : Cond.methodLink own idx yX7_need ∈ W0) (hw : wp_X7_need u x1 P) (hr : 0 + 1 ≤ fr ∧ 8 + (2 + 11) + 0 ≤ lo) (hst : (st.map fun v => v.category).sum ≤ 8) (hdg : decode cc pc = .ok (.invokevirtual idx, 3)) (k : ∀ (u2 : St), P u2 → Z X (wM ad cs u2) (pc + 3) lv st) : Z X (wM ad cs u) pc lv (.int x1 :: .ref (ad 0) :: st) :=
  z_callVv (wf := wM ad cs) (As := [.int x1]) (rest := st) C.1 1 (q0 := 0) mI_X7_need mS_X7_need rfl rfl (by rw [C.2.1, C.2.2.2]; exact c_X7_need C.2.2.1 u x1 P hw) mC_X7_need mZ_X7 (by decide +kernel) rfl hlink hr hst hdg k

def wp_X7_part_15 (u : St) (x1 : Int32) (x2 : Int32) (y0 : Int32) (post : Int32 → St → Prop) : Prop :=
  wp_X7_need u y0 (fun (u2 : St) => br ((gI u2 13) = 0) (post 0 u2) (wp_X7_part0 u2 (fun (r5 : Int32) (u4 : St) => nm (r5 + (gI u4 9)) (fun v6 : Int32 => (vp_in v6 1440 ∧ nm (sA u4 5 (ix v6) x1) (fun u7 : St => (vp_in v6 1440 ∧ nm (sA u7 6 (ix v6) x2) (fun u8 : St => (vp_in v6 1440 ∧ nm (sA u8 10 (ix v6) (-1)) (fun u9 : St => (vp_in v6 1440 ∧ nm (sA u9 11 (ix v6) (-1)) (fun u10 : St => (vp_in v6 1440 ∧ nm (sA u10 12 (ix v6) (gI u10 4)) (fun u11 : St => (vp_in v6 1440 ∧ nm (sA u11 13 (ix v6) 0) (fun u12 : St => (vp_in v6 1440 ∧ nm (sA u12 14 (ix v6) (-1)) (fun u13 : St => nm (sI u13 9 ((gI u13 9) + 1)) (fun u14 : St => post v6 u14)))))))))))))))))))
set_option maxHeartbeats 4000000 in
set_option maxRecDepth 20000 in
theorem z_X7_part_15 {X : XX} {ad : Nat → Nat} {cs : Nat → ClassId} {post : Int32 → St → Prop} (C : CxM X ad cs cX7_part RX7 1 21) (hn : xnL X = 4) (hR : rtI X cX7_part (wM ad cs) post) (u : St) (x1 : Int32) (x2 : Int32) (y0 : Int32) (hw : wp_X7_part_15 u x1 x2 y0 post) : Z X (wM ad cs u) 15 [(0, .ref (ad 0)), (1, .int x1), (2, .int x2)] [.int y0, .ref (ad 0)] := by
  unfold wp_X7_part_15 at hw
  refine k_X7_need C mM_X7_191 hw (by decide) (Nat.le_of_ble_eq_true rfl) dX7_part_15 (fun u2 hw => ?_)
  refine z_aload_n C.1 dX7_part_18 rfl 0 rfl ?_
  refine gM_0_right C mF_X7_165 dX7_part_19 ?_
  refine z_if_ne (tgt := 27) C.1 dX7_part_22 (by decide) (fun c3 => ?_) (fun c3 => ?_)
  · replace hw := hw.2 c3
    refine z_aload_n C.1 dX7_part_27 rfl 0 rfl ?_
    refine k_X7_part0 C mM_X7_195 hw (by decide) (Nat.le_of_ble_eq_true rfl) dX7_part_28 (fun r5 u4 hw => ?_)
    refine z_aload_n C.1 dX7_part_31 rfl 0 rfl ?_
    refine gM_0_parts C mF_X7_188 dX7_part_32 ?_
    refine z_iadd C.1 dX7_part_35 ?_
    refine z_topi (fun v6 ev6 => ?_)
    replace hw := hw v6 ev6
    refine z_istore_n (lv' := [(3, .int v6), (0, .ref (ad 0)), (1, .int x1), (2, .int x2)]) C.1 dX7_part_36 rfl (by rw [hn]; decide) rfl ?_
    refine z_aload_n C.1 dX7_part_37 rfl 1 rfl ?_
    refine gM_0_kinds C mF_X7_23 dX7_part_38 ?_
    refine z_iload_n C.1 dX7_part_41 rfl 0 rfl ?_
    refine z_iload_n C.1 dX7_part_42 rfl 2 rfl ?_
    refine sM_5 C hw.1 dX7_part_43 (fun u7 eu7 => ?_)
    replace hw := hw.2 u7 eu7
    refine z_aload_n C.1 dX7_part_44 rfl 1 rfl ?_
    refine gM_0_signs C mF_X7_26 dX7_part_45 ?_
    refine z_iload_n C.1 dX7_part_48 rfl 0 rfl ?_
    refine z_iload_n C.1 dX7_part_49 rfl 3 rfl ?_
    refine sM_6 C hw.1 dX7_part_50 (fun u8 eu8 => ?_)
    replace hw := hw.2 u8 eu8
    refine z_aload_n C.1 dX7_part_51 rfl 1 rfl ?_
    refine gM_0_argumentRows C mF_X7_38 dX7_part_52 ?_
    refine z_iload_n C.1 dX7_part_55 rfl 0 rfl ?_
    refine z_iconst (v := (-1)) C.1 dX7_part_56 (by decide) ?_
    refine sM_10 C hw.1 dX7_part_57 (fun u9 eu9 => ?_)
    replace hw := hw.2 u9 eu9
    refine z_aload_n C.1 dX7_part_58 rfl 1 rfl ?_
    refine gM_0_nextArguments C mF_X7_41 dX7_part_59 ?_
    refine z_iload_n C.1 dX7_part_62 rfl 0 rfl ?_
    refine z_iconst (v := (-1)) C.1 dX7_part_63 (by decide) ?_
    refine sM_11 C hw.1 dX7_part_64 (fun u10 eu10 => ?_)
    replace hw := hw.2 u10 eu10
    refine z_aload_n C.1 dX7_part_65 rfl 1 rfl ?_
    refine gM_0_places C mF_X7_44 dX7_part_66 ?_
    refine z_iload_n C.1 dX7_part_69 rfl 0 rfl ?_
    refine z_aload_n C.1 dX7_part_70 rfl 1 rfl ?_
    refine gM_0_at C mF_X7_132 dX7_part_71 ?_
    refine sM_12 C hw.1 dX7_part_74 (fun u11 eu11 => ?_)
    replace hw := hw.2 u11 eu11
    refine z_aload_n C.1 dX7_part_75 rfl 1 rfl ?_
    refine gM_0_calledArities C mF_X7_47 dX7_part_76 ?_
    refine z_iload_n C.1 dX7_part_79 rfl 0 rfl ?_
    refine z_iconst (v := 0) C.1 dX7_part_80 (by decide) ?_
    refine sM_13 C hw.1 dX7_part_81 (fun u12 eu12 => ?_)
    replace hw := hw.2 u12 eu12
    refine z_aload_n C.1 dX7_part_82 rfl 1 rfl ?_
    refine gM_0_targets C mF_X7_50 dX7_part_83 ?_
    refine z_iload_n C.1 dX7_part_86 rfl 0 rfl ?_
    refine z_iconst (v := (-1)) C.1 dX7_part_87 (by decide) ?_
    refine sM_14 C hw.1 dX7_part_88 (fun u13 eu13 => ?_)
    replace hw := hw.2 u13 eu13
    refine z_aload_n C.1 dX7_part_89 rfl 1 rfl ?_
    refine z_dup C.1 dX7_part_90 rfl ?_
    refine gM_0_parts C mF_X7_188 dX7_part_91 ?_
    refine z_iconst (v := 1) C.1 dX7_part_94 (by decide) ?_
    refine z_iadd C.1 dX7_part_95 ?_
    refine pM_0_parts C mF_X7_188 dX7_part_96 (fun u14 eu14 => ?_)
    replace hw := hw u14 eu14
    refine z_iload_n C.1 dX7_part_99 rfl 0 rfl ?_
    exact hR _ _ _ _ dX7_part_100 hw
  · replace hw := hw.1 c3
    refine z_iconst (v := 0) C.1 dX7_part_25 (by decide) ?_
    exact hR _ _ _ _ dX7_part_26 hw
def wp_X7_part (u : St) (x1 : Int32) (x2 : Int32) (post : Int32 → St → Prop) : Prop :=
  br (60 ≤ (gI u 9)) (wp_X7_part_15 u x1 x2 0 post) (wp_X7_part_15 u x1 x2 1 post)
set_option maxHeartbeats 4000000 in
set_option maxRecDepth 20000 in
theorem z_X7_part {X : XX} {ad : Nat → Nat} {cs : Nat → ClassId} {post : Int32 → St → Prop} (C : CxM X ad cs cX7_part RX7 1 21) (hn : xnL X = 4) (hR : rtI X cX7_part (wM ad cs) post) (u : St) (x1 : Int32) (x2 : Int32) (hw : wp_X7_part u x1 x2 post) : Z X (wM ad cs u) 0 [(0, .ref (ad 0)), (1, .int x1), (2, .int x2)] [] := by
  unfold wp_X7_part at hw
  refine z_aload_n C.1 dX7_part_0 rfl 0 rfl ?_
  refine z_aload_n C.1 dX7_part_1 rfl 0 rfl ?_
  refine gM_0_parts C mF_X7_188 dX7_part_2 ?_
  refine z_bipush (v := 60) C.1 dX7_part_5 (by decide) ?_
  refine z_icmp_ge (tgt := 14) C.1 dX7_part_7 (by decide) (fun c1 => ?_) (fun c1 => ?_)
  · replace hw := hw.1 c1
    refine z_iconst (v := 0) C.1 dX7_part_14 (by decide) ?_
    refine z_lv [0, 1, 2] rfl ?_
    exact z_X7_part_15 C hn hR _ _ _ _ hw
  · replace hw := hw.2 c1
    refine z_iconst (v := 1) C.1 dX7_part_10 (by decide) ?_
    refine z_goto (tgt := 15) C.1 dX7_part_11 (by decide) ?_
    refine z_lv [0, 1, 2] rfl ?_
    exact z_X7_part_15 C hn hR _ _ _ _ hw
theorem c_X7_part {l : Launch} {D : va_G} {A : Nat → Prop} {ad : Nat → Nat} {cs : Nat → ClassId} (hD : ∀ u : St, va_D A (wM ad cs u)) (u : St) (x1 : Int32) (x2 : Int32) (post : Int32 → St → Prop) (hw : wp_X7_part u x1 x2 post) : MI (ad 90, ad 91) l yX7_part cX7_part 4 (some .int) (rmm 1 21) D (tysM cs) A (wM ad cs) u [.ref (ad 0), .int x1, .int x2] post :=
  met_i (by decide) (Nat.le_of_ble_eq_true rfl) (fun X C _ _ ht hA hn hsg hR => z_X7_part ⟨C, ht, fun u => by rw [hA]; exact hD u, hsg⟩ hn hR u x1 x2 hw)
theorem k_X7_part {X : XX} {ad : Nat → Nat} {cs : Nat → ClassId} {cc : ByteArray} {own : String} {fr lo pc : Nat} {lv : List (Nat × Value)} {st : List Value} {u : St} (C : CxM X ad cs cc own fr lo) {idx : Nat} {x1 : Int32} {x2 : Int32} {P : Int32 → St → Prop} (hlink : Cond.methodLink own idx yX7_part ∈ W0) (hw : wp_X7_part u x1 x2 P) (hr : 1 + 1 ≤ fr ∧ 8 + (4 + 11) + 21 ≤ lo) (hst : (st.map fun v => v.category).sum ≤ 8) (hdg : decode cc pc = .ok (.invokevirtual idx, 3)) (k : ∀ (r : Int32) (u2 : St), P r u2 → Z X (wM ad cs u2) (pc + 3) lv (.int r :: st)) : Z X (wM ad cs u) pc lv (.int x2 :: .int x1 :: .ref (ad 0) :: st) :=
  z_callVi (wf := wM ad cs) (As := [.int x1, .int x2]) (rest := st) C.1 2 (q0 := 0) mI_X7_part mS_X7_part rfl rfl (by rw [C.2.1, C.2.2.2]; exact c_X7_part C.2.2.1 u x1 x2 P hw) mC_X7_part mZ_X7 (by decide +kernel) rfl hlink hr hst hdg k

def wp_X7_later (u : St) (x1 : Int32) (x2 : Int32) (post : St → Prop) : Prop :=
  (vp_in (gI u 11) 12000 ∧ nm (sA u 20 (ix (gI u 11)) x1) (fun u1 : St => (vp_in (gI u1 11) 12000 ∧ nm (sA u1 21 (ix (gI u1 11)) x2) (fun u2 : St => nm (sI u2 11 ((gI u2 11) + 1)) (fun u3 : St => post u3)))))
set_option maxHeartbeats 4000000 in
set_option maxRecDepth 20000 in
theorem z_X7_later {X : XX} {ad : Nat → Nat} {cs : Nat → ClassId} {post : St → Prop} (C : CxM X ad cs cX7_later RX7 0 0) (hn : xnL X = 3) (hR : rtV X cX7_later (wM ad cs) post) (u : St) (x1 : Int32) (x2 : Int32) (hw : wp_X7_later u x1 x2 post) : Z X (wM ad cs u) 0 [(0, .ref (ad 0)), (1, .int x1), (2, .int x2)] [] := by
  unfold wp_X7_later at hw
  refine z_aload_n C.1 dX7_later_0 rfl 0 rfl ?_
  refine gM_0_todo C mF_X7_69 dX7_later_1 ?_
  refine z_aload_n C.1 dX7_later_4 rfl 0 rfl ?_
  refine gM_0_depth C mF_X7_198 dX7_later_5 ?_
  refine z_iload_n C.1 dX7_later_8 rfl 1 rfl ?_
  refine sM_20 C hw.1 dX7_later_9 (fun u1 eu1 => ?_)
  replace hw := hw.2 u1 eu1
  refine z_aload_n C.1 dX7_later_10 rfl 0 rfl ?_
  refine gM_0_with C mF_X7_72 dX7_later_11 ?_
  refine z_aload_n C.1 dX7_later_14 rfl 0 rfl ?_
  refine gM_0_depth C mF_X7_198 dX7_later_15 ?_
  refine z_iload_n C.1 dX7_later_18 rfl 2 rfl ?_
  refine sM_21 C hw.1 dX7_later_19 (fun u2 eu2 => ?_)
  replace hw := hw.2 u2 eu2
  refine z_aload_n C.1 dX7_later_20 rfl 0 rfl ?_
  refine z_dup C.1 dX7_later_21 rfl ?_
  refine gM_0_depth C mF_X7_198 dX7_later_22 ?_
  refine z_iconst (v := 1) C.1 dX7_later_25 (by decide) ?_
  refine z_iadd C.1 dX7_later_26 ?_
  refine pM_0_depth C mF_X7_198 dX7_later_27 (fun u3 eu3 => ?_)
  replace hw := hw u3 eu3
  exact hR _ _ _ dX7_later_30 hw
theorem c_X7_later {l : Launch} {D : va_G} {A : Nat → Prop} {ad : Nat → Nat} {cs : Nat → ClassId} (hD : ∀ u : St, va_D A (wM ad cs u)) (u : St) (x1 : Int32) (x2 : Int32) (post : St → Prop) (hw : wp_X7_later u x1 x2 post) : MV (ad 90, ad 91) l yX7_later cX7_later 3 none (rmm 0 0) D (tysM cs) A (wM ad cs) u [.ref (ad 0), .int x1, .int x2] post :=
  met_v (by decide) (Nat.le_of_ble_eq_true rfl) (fun X C _ _ ht hA hn hsg hR => z_X7_later ⟨C, ht, fun u => by rw [hA]; exact hD u, hsg⟩ hn hR u x1 x2 hw)
theorem k_X7_later {X : XX} {ad : Nat → Nat} {cs : Nat → ClassId} {cc : ByteArray} {own : String} {fr lo pc : Nat} {lv : List (Nat × Value)} {st : List Value} {u : St} (C : CxM X ad cs cc own fr lo) {idx : Nat} {x1 : Int32} {x2 : Int32} {P : St → Prop} (hlink : Cond.methodLink own idx yX7_later ∈ W0) (hw : wp_X7_later u x1 x2 P) (hr : 0 + 1 ≤ fr ∧ 8 + (3 + 11) + 0 ≤ lo) (hst : (st.map fun v => v.category).sum ≤ 8) (hdg : decode cc pc = .ok (.invokevirtual idx, 3)) (k : ∀ (u2 : St), P u2 → Z X (wM ad cs u2) (pc + 3) lv st) : Z X (wM ad cs u) pc lv (.int x2 :: .int x1 :: .ref (ad 0) :: st) :=
  z_callVv (wf := wM ad cs) (As := [.int x1, .int x2]) (rest := st) C.1 2 (q0 := 0) mI_X7_later mS_X7_later rfl rfl (by rw [C.2.1, C.2.2.2]; exact c_X7_later C.2.2.1 u x1 x2 P hw) mC_X7_later mZ_X7 (by decide +kernel) rfl hlink hr hst hdg k

def wp_X7_give (u : St) (x1 : Int32) (post : St → Prop) : Prop :=
  (vp_in (gI u 12) 2000 ∧ nm (sA u 22 (ix (gI u 12)) x1) (fun u1 : St => nm (sI u1 12 ((gI u1 12) + 1)) (fun u2 : St => post u2)))
set_option maxHeartbeats 4000000 in
set_option maxRecDepth 20000 in
theorem z_X7_give {X : XX} {ad : Nat → Nat} {cs : Nat → ClassId} {post : St → Prop} (C : CxM X ad cs cX7_give RX7 0 0) (hn : xnL X = 2) (hR : rtV X cX7_give (wM ad cs) post) (u : St) (x1 : Int32) (hw : wp_X7_give u x1 post) : Z X (wM ad cs u) 0 [(0, .ref (ad 0)), (1, .int x1)] [] := by
  unfold wp_X7_give at hw
  refine z_aload_n C.1 dX7_give_0 rfl 0 rfl ?_
  refine gM_0_values C mF_X7_75 dX7_give_1 ?_
  refine z_aload_n C.1 dX7_give_4 rfl 0 rfl ?_
  refine gM_0_valueCount C mF_X7_201 dX7_give_5 ?_
  refine z_iload_n C.1 dX7_give_8 rfl 1 rfl ?_
  refine sM_22 C hw.1 dX7_give_9 (fun u1 eu1 => ?_)
  replace hw := hw.2 u1 eu1
  refine z_aload_n C.1 dX7_give_10 rfl 0 rfl ?_
  refine z_dup C.1 dX7_give_11 rfl ?_
  refine gM_0_valueCount C mF_X7_201 dX7_give_12 ?_
  refine z_iconst (v := 1) C.1 dX7_give_15 (by decide) ?_
  refine z_iadd C.1 dX7_give_16 ?_
  refine pM_0_valueCount C mF_X7_201 dX7_give_17 (fun u2 eu2 => ?_)
  replace hw := hw u2 eu2
  exact hR _ _ _ dX7_give_20 hw
theorem c_X7_give {l : Launch} {D : va_G} {A : Nat → Prop} {ad : Nat → Nat} {cs : Nat → ClassId} (hD : ∀ u : St, va_D A (wM ad cs u)) (u : St) (x1 : Int32) (post : St → Prop) (hw : wp_X7_give u x1 post) : MV (ad 90, ad 91) l yX7_give cX7_give 2 none (rmm 0 0) D (tysM cs) A (wM ad cs) u [.ref (ad 0), .int x1] post :=
  met_v (by decide) (Nat.le_of_ble_eq_true rfl) (fun X C _ _ ht hA hn hsg hR => z_X7_give ⟨C, ht, fun u => by rw [hA]; exact hD u, hsg⟩ hn hR u x1 hw)
theorem k_X7_give {X : XX} {ad : Nat → Nat} {cs : Nat → ClassId} {cc : ByteArray} {own : String} {fr lo pc : Nat} {lv : List (Nat × Value)} {st : List Value} {u : St} (C : CxM X ad cs cc own fr lo) {idx : Nat} {x1 : Int32} {P : St → Prop} (hlink : Cond.methodLink own idx yX7_give ∈ W0) (hw : wp_X7_give u x1 P) (hr : 0 + 1 ≤ fr ∧ 8 + (2 + 11) + 0 ≤ lo) (hst : (st.map fun v => v.category).sum ≤ 8) (hdg : decode cc pc = .ok (.invokevirtual idx, 3)) (k : ∀ (u2 : St), P u2 → Z X (wM ad cs u2) (pc + 3) lv st) : Z X (wM ad cs u) pc lv (.int x1 :: .ref (ad 0) :: st) :=
  z_callVv (wf := wM ad cs) (As := [.int x1]) (rest := st) C.1 1 (q0 := 0) mI_X7_give mS_X7_give rfl rfl (by rw [C.2.1, C.2.2.2]; exact c_X7_give C.2.2.1 u x1 P hw) mC_X7_give mZ_X7 (by decide +kernel) rfl hlink hr hst hdg k

def wp_X7_got (u : St) (post : Int32 → St → Prop) : Prop :=
  nm (sI u 12 ((gI u 12) - 1)) (fun u1 : St => (vp_in (gI u1 12) 2000 ∧ post (gA u1 22 (ix (gI u1 12))) u1))
set_option maxHeartbeats 4000000 in
set_option maxRecDepth 20000 in
theorem z_X7_got {X : XX} {ad : Nat → Nat} {cs : Nat → ClassId} {post : Int32 → St → Prop} (C : CxM X ad cs cX7_got RX7 0 0) (hn : xnL X = 1) (hR : rtI X cX7_got (wM ad cs) post) (u : St) (hw : wp_X7_got u post) : Z X (wM ad cs u) 0 [(0, .ref (ad 0))] [] := by
  unfold wp_X7_got at hw
  refine z_aload_n C.1 dX7_got_0 rfl 0 rfl ?_
  refine z_dup C.1 dX7_got_1 rfl ?_
  refine gM_0_valueCount C mF_X7_201 dX7_got_2 ?_
  refine z_iconst (v := 1) C.1 dX7_got_5 (by decide) ?_
  refine z_isub C.1 dX7_got_6 ?_
  refine pM_0_valueCount C mF_X7_201 dX7_got_7 (fun u1 eu1 => ?_)
  replace hw := hw u1 eu1
  refine z_aload_n C.1 dX7_got_10 rfl 0 rfl ?_
  refine gM_0_values C mF_X7_75 dX7_got_11 ?_
  refine z_aload_n C.1 dX7_got_14 rfl 0 rfl ?_
  refine gM_0_valueCount C mF_X7_201 dX7_got_15 ?_
  refine lM_22 C hw.1 dX7_got_18 ?_
  replace hw := hw.2
  exact hR _ _ _ _ dX7_got_19 hw
theorem c_X7_got {l : Launch} {D : va_G} {A : Nat → Prop} {ad : Nat → Nat} {cs : Nat → ClassId} (hD : ∀ u : St, va_D A (wM ad cs u)) (u : St) (post : Int32 → St → Prop) (hw : wp_X7_got u post) : MI (ad 90, ad 91) l yX7_got cX7_got 1 (some .int) (rmm 0 0) D (tysM cs) A (wM ad cs) u [.ref (ad 0)] post :=
  met_i (by decide) (Nat.le_of_ble_eq_true rfl) (fun X C _ _ ht hA hn hsg hR => z_X7_got ⟨C, ht, fun u => by rw [hA]; exact hD u, hsg⟩ hn hR u hw)
theorem k_X7_got {X : XX} {ad : Nat → Nat} {cs : Nat → ClassId} {cc : ByteArray} {own : String} {fr lo pc : Nat} {lv : List (Nat × Value)} {st : List Value} {u : St} (C : CxM X ad cs cc own fr lo) {idx : Nat} {P : Int32 → St → Prop} (hlink : Cond.methodLink own idx yX7_got ∈ W0) (hw : wp_X7_got u P) (hr : 0 + 1 ≤ fr ∧ 8 + (1 + 11) + 0 ≤ lo) (hst : (st.map fun v => v.category).sum ≤ 8) (hdg : decode cc pc = .ok (.invokevirtual idx, 3)) (k : ∀ (r : Int32) (u2 : St), P r u2 → Z X (wM ad cs u2) (pc + 3) lv (.int r :: st)) : Z X (wM ad cs u) pc lv (.ref (ad 0) :: st) :=
  z_callVi (wf := wM ad cs) (As := []) (rest := st) C.1 0 (q0 := 0) mI_X7_got mS_X7_got rfl rfl (by rw [C.2.1, C.2.2.2]; exact c_X7_got C.2.2.1 u P hw) mC_X7_got mZ_X7 (by decide +kernel) rfl hlink hr hst hdg k

def wp_X7_variable_66s (K66 : St → Int64 → Int32 → Prop) (u : St) (x1 : Int64) (x3 : Int32) (post : Int32 → St → Prop) : Prop :=
  (vp_in ((12 * (gI u 2)) + (gI u 10)) 24 ∧ br ((gA u 2 (ix ((12 * (gI u 2)) + (gI u 10)))) ≤ x3) (wp_X7_need u 0 (fun (u12 : St) => post 0 u12)) ((vp_in x3 6 ∧ br ((lg_cmp (gB u 16 (ix x3)) x1) = 0) (wp_X7_part u 2 x3 (fun (r16 : Int32) (u15 : St) => post r16 u15)) (nm (x3 + 1) (fun v14 : Int32 => K66 u x1 v14)))))
def wp_X7_variable_66 (post : Int32 → St → Prop) : Nat → St → Int64 → Int32 → Prop
  | 0 => fun _ _ _ => False
  | n + 1 => fun u x1 x3 => wp_X7_variable_66s (wp_X7_variable_66 post n) u x1 x3 post
set_option maxHeartbeats 4000000 in
set_option maxRecDepth 20000 in
theorem z_X7_variable_66s {X : XX} {ad : Nat → Nat} {cs : Nat → ClassId} {post : Int32 → St → Prop} (C : CxM X ad cs cX7_variable RX7 2 44) (hn : xnL X = 5) (hR : rtI X cX7_variable (wM ad cs) post) {K66 : St → Int64 → Int32 → Prop} (hK66 : ∀ (u : St) (x1 : Int64) (x3 : Int32), K66 u x1 x3 → Z X (wM ad cs u) 66 [(0, .ref (ad 0)), (1, .long x1), (3, .int x3)] []) (u : St) (x1 : Int64) (x3 : Int32) (hw : wp_X7_variable_66s K66 u x1 x3 post) : Z X (wM ad cs u) 66 [(0, .ref (ad 0)), (1, .long x1), (3, .int x3)] [] := by
  unfold wp_X7_variable_66s at hw
  refine z_iload_n C.1 dX7_variable_66 rfl 2 rfl ?_
  refine z_aload_n C.1 dX7_variable_67 rfl 0 rfl ?_
  refine gM_0_arities C mF_X7_13 dX7_variable_68 ?_
  refine z_bipush (v := 12) C.1 dX7_variable_71 (by decide) ?_
  refine z_aload_n C.1 dX7_variable_73 rfl 0 rfl ?_
  refine gM_0_bank C mF_X7_182 dX7_variable_74 ?_
  refine z_imul C.1 dX7_variable_77 ?_
  refine z_aload_n C.1 dX7_variable_78 rfl 0 rfl ?_
  refine gM_0_definition C mF_X7_185 dX7_variable_79 ?_
  refine z_iadd C.1 dX7_variable_82 ?_
  refine lM_2 C hw.1 dX7_variable_83 ?_
  replace hw := hw.2
  refine z_icmp_ge (tgt := 111) C.1 dX7_variable_84 (by decide) (fun c11 => ?_) (fun c11 => ?_)
  · replace hw := hw.1 c11
    refine z_aload_n C.1 dX7_variable_111 rfl 0 rfl ?_
    refine z_iconst (v := 0) C.1 dX7_variable_112 (by decide) ?_
    refine k_X7_need C mM_X7_191 hw (by decide) (Nat.le_of_ble_eq_true rfl) dX7_variable_113 (fun u12 hw => ?_)
    refine z_iconst (v := 0) C.1 dX7_variable_116 (by decide) ?_
    exact hR _ _ _ _ dX7_variable_117 hw
  · replace hw := hw.2 c11
    refine z_aload_n C.1 dX7_variable_87 rfl 0 rfl ?_
    refine gM_0_argumentNames C mF_X7_57 dX7_variable_88 ?_
    refine z_iload_n C.1 dX7_variable_91 rfl 2 rfl ?_
    refine lM_16 C hw.1 dX7_variable_92 ?_
    replace hw := hw.2
    refine z_lload_n C.1 dX7_variable_93 rfl 1 rfl ?_
    refine z_lcmp C.1 dX7_variable_94 ?_
    refine z_if_ne (tgt := 105) C.1 dX7_variable_95 (by decide) (fun c13 => ?_) (fun c13 => ?_)
    · replace hw := hw.2 c13
      obtain ⟨v14, ev14⟩ : ∃ z : Int32, z = x3 + 1 := ⟨_, rfl⟩
      replace hw := hw v14 ev14
      refine z_iinc (v := v14) (lv' := [(3, .int v14), (0, .ref (ad 0)), (1, .long x1)]) C.1 (j := 2) dX7_variable_105 rfl (by rw [ev14]; rfl) (by rw [hn]; decide) rfl ?_
      refine z_goto (tgt := 66) C.1 dX7_variable_108 (by decide) ?_
      refine z_lv [1, 2, 0] rfl ?_
      exact hK66 _ _ _ hw
    · replace hw := hw.1 c13
      refine z_aload_n C.1 dX7_variable_98 rfl 0 rfl ?_
      refine z_iconst (v := 2) C.1 dX7_variable_99 (by decide) ?_
      refine z_iload_n C.1 dX7_variable_100 rfl 2 rfl ?_
      refine k_X7_part C mM_X7_211 hw (by decide) (Nat.le_of_ble_eq_true rfl) dX7_variable_101 (fun r16 u15 hw => ?_)
      exact hR _ _ _ _ dX7_variable_104 hw
theorem z_X7_variable_66 {X : XX} {ad : Nat → Nat} {cs : Nat → ClassId} {post : Int32 → St → Prop} (C : CxM X ad cs cX7_variable RX7 2 44) (hn : xnL X = 5) (hR : rtI X cX7_variable (wM ad cs) post) : ∀ (n : Nat) (u : St) (x1 : Int64) (x3 : Int32), wp_X7_variable_66 post n u x1 x3 → Z X (wM ad cs u) 66 [(0, .ref (ad 0)), (1, .long x1), (3, .int x3)] []
  | 0, _, _, _, hw => absurd hw (fun h => h)
  | n + 1, u, x1, x3, hw => z_X7_variable_66s C hn hR (z_X7_variable_66 C hn hR n) u x1 x3 hw
def wp_X7_variable_12s (K12 : St → Int64 → Int32 → Prop) (u : St) (x1 : Int64) (x3 : Int32) (post : Int32 → St → Prop) : Prop :=
  br (x3 < 0) (∃ n, wp_X7_variable_66 post n u x1 0) ((vp_in x3 61 ∧ br ((lg_cmp (gB u 17 (ix x3)) x1) = 0) (wp_X7_part u 3 0 (fun (r8 : Int32) (u7 : St) => br ((gI u7 13) = 0) (post r8 u7) ((vp_in x3 61 ∧ (vp_in r8 1440 ∧ nm (sA u7 7 (ix r8) (gA u7 18 (ix x3))) (fun u10 : St => post r8 u10)))))) (nm (x3 + (-1)) (fun v6 : Int32 => K12 u x1 v6))))
def wp_X7_variable_12 (post : Int32 → St → Prop) : Nat → St → Int64 → Int32 → Prop
  | 0 => fun _ _ _ => False
  | n + 1 => fun u x1 x3 => wp_X7_variable_12s (wp_X7_variable_12 post n) u x1 x3 post
set_option maxHeartbeats 4000000 in
set_option maxRecDepth 20000 in
theorem z_X7_variable_12s {X : XX} {ad : Nat → Nat} {cs : Nat → ClassId} {post : Int32 → St → Prop} (C : CxM X ad cs cX7_variable RX7 2 44) (hn : xnL X = 5) (hR : rtI X cX7_variable (wM ad cs) post) {K12 : St → Int64 → Int32 → Prop} (hK12 : ∀ (u : St) (x1 : Int64) (x3 : Int32), K12 u x1 x3 → Z X (wM ad cs u) 12 [(0, .ref (ad 0)), (1, .long x1), (3, .int x3)] []) (u : St) (x1 : Int64) (x3 : Int32) (hw : wp_X7_variable_12s K12 u x1 x3 post) : Z X (wM ad cs u) 12 [(0, .ref (ad 0)), (1, .long x1), (3, .int x3)] [] := by
  unfold wp_X7_variable_12s at hw
  refine z_iload_n C.1 dX7_variable_12 rfl 2 rfl ?_
  refine z_if_lt (tgt := 64) C.1 dX7_variable_13 (by decide) (fun c4 => ?_) (fun c4 => ?_)
  · replace hw := hw.1 c4
    refine z_iconst (v := 0) C.1 dX7_variable_64 (by decide) ?_
    refine z_istore_n (lv' := [(3, .int 0), (0, .ref (ad 0)), (1, .long x1)]) C.1 dX7_variable_65 rfl (by rw [hn]; decide) rfl ?_
    refine z_lv [1, 2, 0] rfl ?_
    obtain ⟨n, hw⟩ := hw
    exact z_X7_variable_66 C hn hR n _ _ _ hw
  · replace hw := hw.2 c4
    refine z_aload_n C.1 dX7_variable_16 rfl 0 rfl ?_
    refine gM_0_letNames C mF_X7_60 dX7_variable_17 ?_
    refine z_iload_n C.1 dX7_variable_20 rfl 2 rfl ?_
    refine lM_17 C hw.1 dX7_variable_21 ?_
    replace hw := hw.2
    refine z_lload_n C.1 dX7_variable_22 rfl 1 rfl ?_
    refine z_lcmp C.1 dX7_variable_23 ?_
    refine z_if_ne (tgt := 58) C.1 dX7_variable_24 (by decide) (fun c5 => ?_) (fun c5 => ?_)
    · replace hw := hw.2 c5
      obtain ⟨v6, ev6⟩ : ∃ z : Int32, z = x3 + (-1) := ⟨_, rfl⟩
      replace hw := hw v6 ev6
      refine z_iinc (v := v6) (lv' := [(3, .int v6), (0, .ref (ad 0)), (1, .long x1)]) C.1 (j := 2) dX7_variable_58 rfl (by rw [ev6]; rfl) (by rw [hn]; decide) rfl ?_
      refine z_goto (tgt := 12) C.1 dX7_variable_61 (by decide) ?_
      refine z_lv [1, 2, 0] rfl ?_
      exact hK12 _ _ _ hw
    · replace hw := hw.1 c5
      refine z_aload_n C.1 dX7_variable_27 rfl 0 rfl ?_
      refine z_iconst (v := 3) C.1 dX7_variable_28 (by decide) ?_
      refine z_iconst (v := 0) C.1 dX7_variable_29 (by decide) ?_
      refine k_X7_part C mM_X7_211 hw (by decide) (Nat.le_of_ble_eq_true rfl) dX7_variable_30 (fun r8 u7 hw => ?_)
      refine z_istore (lv' := [(4, .int r8), (0, .ref (ad 0)), (1, .long x1), (3, .int x3)]) C.1 dX7_variable_33 (by rw [hn]; decide) rfl ?_
      refine z_aload_n C.1 dX7_variable_35 rfl 1 rfl ?_
      refine gM_0_right C mF_X7_165 dX7_variable_36 ?_
      refine z_if_eq (tgt := 55) C.1 dX7_variable_39 (by decide) (fun c9 => ?_) (fun c9 => ?_)
      · replace hw := hw.1 c9
        refine z_iload C.1 dX7_variable_55 0 rfl ?_
        exact hR _ _ _ _ dX7_variable_57 hw
      · replace hw := hw.2 c9
        refine z_aload_n C.1 dX7_variable_42 rfl 1 rfl ?_
        refine gM_0_firsts C mF_X7_29 dX7_variable_43 ?_
        refine z_iload C.1 dX7_variable_46 0 rfl ?_
        refine z_aload_n C.1 dX7_variable_48 rfl 1 rfl ?_
        refine gM_0_letParts C mF_X7_63 dX7_variable_49 ?_
        refine z_iload_n C.1 dX7_variable_52 rfl 3 rfl ?_
        refine lM_18 C hw.1 dX7_variable_53 ?_
        replace hw := hw.2
        refine sM_7 C hw.1 dX7_variable_54 (fun u10 eu10 => ?_)
        replace hw := hw.2 u10 eu10
        refine z_iload C.1 dX7_variable_55 0 rfl ?_
        exact hR _ _ _ _ dX7_variable_57 hw
theorem z_X7_variable_12 {X : XX} {ad : Nat → Nat} {cs : Nat → ClassId} {post : Int32 → St → Prop} (C : CxM X ad cs cX7_variable RX7 2 44) (hn : xnL X = 5) (hR : rtI X cX7_variable (wM ad cs) post) : ∀ (n : Nat) (u : St) (x1 : Int64) (x3 : Int32), wp_X7_variable_12 post n u x1 x3 → Z X (wM ad cs u) 12 [(0, .ref (ad 0)), (1, .long x1), (3, .int x3)] []
  | 0, _, _, _, hw => absurd hw (fun h => h)
  | n + 1, u, x1, x3, hw => z_X7_variable_12s C hn hR (z_X7_variable_12 C hn hR n) u x1 x3 hw
def wp_X7_variable (u : St) (post : Int32 → St → Prop) : Prop :=
  wp_X7_nameOf u (fun (r2 : Int64) (u1 : St) => nm ((gI u1 8) - 1) (fun v3 : Int32 => ∃ n, wp_X7_variable_12 post n u1 r2 v3))
set_option maxHeartbeats 4000000 in
set_option maxRecDepth 20000 in
theorem z_X7_variable {X : XX} {ad : Nat → Nat} {cs : Nat → ClassId} {post : Int32 → St → Prop} (C : CxM X ad cs cX7_variable RX7 2 44) (hn : xnL X = 5) (hR : rtI X cX7_variable (wM ad cs) post) (u : St) (hw : wp_X7_variable u post) : Z X (wM ad cs u) 0 [(0, .ref (ad 0))] [] := by
  unfold wp_X7_variable at hw
  refine z_aload_n C.1 dX7_variable_0 rfl 0 rfl ?_
  refine k_X7_nameOf C mM_X7_204 hw (by decide) (Nat.le_of_ble_eq_true rfl) dX7_variable_1 (fun r2 u1 hw => ?_)
  refine z_lstore_n (lv' := [(1, .long r2), (0, .ref (ad 0))]) C.1 dX7_variable_4 rfl (by rw [hn]; decide) rfl ?_
  refine z_aload_n C.1 dX7_variable_5 rfl 1 rfl ?_
  refine gM_0_lets C mF_X7_208 dX7_variable_6 ?_
  refine z_iconst (v := 1) C.1 dX7_variable_9 (by decide) ?_
  refine z_isub C.1 dX7_variable_10 ?_
  refine z_topi (fun v3 ev3 => ?_)
  replace hw := hw v3 ev3
  refine z_istore_n (lv' := [(3, .int v3), (1, .long r2), (0, .ref (ad 0))]) C.1 dX7_variable_11 rfl (by rw [hn]; decide) rfl ?_
  refine z_lv [2, 1, 0] rfl ?_
  obtain ⟨n, hw⟩ := hw
  exact z_X7_variable_12 C hn hR n _ _ _ hw
theorem c_X7_variable {l : Launch} {D : va_G} {A : Nat → Prop} {ad : Nat → Nat} {cs : Nat → ClassId} (hD : ∀ u : St, va_D A (wM ad cs u)) (u : St) (post : Int32 → St → Prop) (hw : wp_X7_variable u post) : MI (ad 90, ad 91) l yX7_variable cX7_variable 5 (some .int) (rmm 2 44) D (tysM cs) A (wM ad cs) u [.ref (ad 0)] post :=
  met_i (by decide) (Nat.le_of_ble_eq_true rfl) (fun X C _ _ ht hA hn hsg hR => z_X7_variable ⟨C, ht, fun u => by rw [hA]; exact hD u, hsg⟩ hn hR u hw)
theorem k_X7_variable {X : XX} {ad : Nat → Nat} {cs : Nat → ClassId} {cc : ByteArray} {own : String} {fr lo pc : Nat} {lv : List (Nat × Value)} {st : List Value} {u : St} (C : CxM X ad cs cc own fr lo) {idx : Nat} {P : Int32 → St → Prop} (hlink : Cond.methodLink own idx yX7_variable ∈ W0) (hw : wp_X7_variable u P) (hr : 2 + 1 ≤ fr ∧ 8 + (5 + 11) + 44 ≤ lo) (hst : (st.map fun v => v.category).sum ≤ 8) (hdg : decode cc pc = .ok (.invokevirtual idx, 3)) (k : ∀ (r : Int32) (u2 : St), P r u2 → Z X (wM ad cs u2) (pc + 3) lv (.int r :: st)) : Z X (wM ad cs u) pc lv (.ref (ad 0) :: st) :=
  z_callVi (wf := wM ad cs) (As := []) (rest := st) C.1 0 (q0 := 0) mI_X7_variable mS_X7_variable rfl rfl (by rw [C.2.1, C.2.2.2]; exact c_X7_variable C.2.2.1 u P hw) mC_X7_variable mZ_X7 (by decide +kernel) rfl hlink hr hst hdg k

def wp_X7_addArgument_35s (K35 : St → Int32 → Int32 → Prop) (u : St) (x2 : Int32) (x3 : Int32) (post : St → Prop) : Prop :=
  (vp_in x3 1440 ∧ br ((gA u 11 (ix x3)) = (-1)) ((vp_in x3 1440 ∧ nm (sA u 11 (ix x3) x2) (fun u6 : St => post u6))) ((vp_in x3 1440 ∧ nm (gA u 11 (ix x3)) (fun v7 : Int32 => K35 u x2 v7))))
def wp_X7_addArgument_35 (post : St → Prop) : Nat → St → Int32 → Int32 → Prop
  | 0 => fun _ _ _ => False
  | n + 1 => fun u x2 x3 => wp_X7_addArgument_35s (wp_X7_addArgument_35 post n) u x2 x3 post
set_option maxHeartbeats 4000000 in
set_option maxRecDepth 20000 in
theorem z_X7_addArgument_35s {X : XX} {ad : Nat → Nat} {cs : Nat → ClassId} {post : St → Prop} (C : CxM X ad cs cX7_addArgument RX7 0 0) (hn : xnL X = 4) (hR : rtV X cX7_addArgument (wM ad cs) post) {K35 : St → Int32 → Int32 → Prop} (hK35 : ∀ (u : St) (x2 : Int32) (x3 : Int32), K35 u x2 x3 → Z X (wM ad cs u) 35 [(0, .ref (ad 0)), (2, .int x2), (3, .int x3)] []) (u : St) (x2 : Int32) (x3 : Int32) (hw : wp_X7_addArgument_35s K35 u x2 x3 post) : Z X (wM ad cs u) 35 [(0, .ref (ad 0)), (2, .int x2), (3, .int x3)] [] := by
  unfold wp_X7_addArgument_35s at hw
  refine z_aload_n C.1 dX7_addArgument_35 rfl 0 rfl ?_
  refine gM_0_nextArguments C mF_X7_41 dX7_addArgument_36 ?_
  refine z_iload_n C.1 dX7_addArgument_39 rfl 2 rfl ?_
  refine lM_11 C hw.1 dX7_addArgument_40 ?_
  replace hw := hw.2
  refine z_iconst (v := (-1)) C.1 dX7_addArgument_41 (by decide) ?_
  refine z_icmp_eq (tgt := 55) C.1 dX7_addArgument_42 (by decide) (fun c5 => ?_) (fun c5 => ?_)
  · replace hw := hw.1 c5
    refine z_aload_n C.1 dX7_addArgument_55 rfl 0 rfl ?_
    refine gM_0_nextArguments C mF_X7_41 dX7_addArgument_56 ?_
    refine z_iload_n C.1 dX7_addArgument_59 rfl 2 rfl ?_
    refine z_iload_n C.1 dX7_addArgument_60 rfl 1 rfl ?_
    refine sM_11 C hw.1 dX7_addArgument_61 (fun u6 eu6 => ?_)
    replace hw := hw.2 u6 eu6
    exact hR _ _ _ dX7_addArgument_62 hw
  · replace hw := hw.2 c5
    refine z_aload_n C.1 dX7_addArgument_45 rfl 0 rfl ?_
    refine gM_0_nextArguments C mF_X7_41 dX7_addArgument_46 ?_
    refine z_iload_n C.1 dX7_addArgument_49 rfl 2 rfl ?_
    refine lM_11 C hw.1 dX7_addArgument_50 ?_
    replace hw := hw.2
    refine z_topi (fun v7 ev7 => ?_)
    replace hw := hw v7 ev7
    refine z_istore_n (lv' := [(3, .int v7), (0, .ref (ad 0)), (2, .int x2)]) C.1 dX7_addArgument_51 rfl (by rw [hn]; decide) rfl ?_
    refine z_goto (tgt := 35) C.1 dX7_addArgument_52 (by decide) ?_
    refine z_lv [1, 2, 0] rfl ?_
    exact hK35 _ _ _ hw
theorem z_X7_addArgument_35 {X : XX} {ad : Nat → Nat} {cs : Nat → ClassId} {post : St → Prop} (C : CxM X ad cs cX7_addArgument RX7 0 0) (hn : xnL X = 4) (hR : rtV X cX7_addArgument (wM ad cs) post) : ∀ (n : Nat) (u : St) (x2 : Int32) (x3 : Int32), wp_X7_addArgument_35 post n u x2 x3 → Z X (wM ad cs u) 35 [(0, .ref (ad 0)), (2, .int x2), (3, .int x3)] []
  | 0, _, _, _, hw => absurd hw (fun h => h)
  | n + 1, u, x2, x3, hw => z_X7_addArgument_35s C hn hR (z_X7_addArgument_35 C hn hR n) u x2 x3 hw
def wp_X7_addArgument (u : St) (x1 : Int32) (x2 : Int32) (post : St → Prop) : Prop :=
  (vp_in x1 1440 ∧ (vp_in x1 1440 ∧ nm (sA u 13 (ix x1) ((gA u 13 (ix x1)) + 1)) (fun u1 : St => (vp_in x1 1440 ∧ br ((gA u1 10 (ix x1)) = (-1)) ((vp_in x1 1440 ∧ nm (sA u1 10 (ix x1) x2) (fun u4 : St => post u4))) ((vp_in x1 1440 ∧ nm (gA u1 10 (ix x1)) (fun v3 : Int32 => ∃ n, wp_X7_addArgument_35 post n u1 x2 v3)))))))
set_option maxHeartbeats 4000000 in
set_option maxRecDepth 20000 in
theorem z_X7_addArgument {X : XX} {ad : Nat → Nat} {cs : Nat → ClassId} {post : St → Prop} (C : CxM X ad cs cX7_addArgument RX7 0 0) (hn : xnL X = 4) (hR : rtV X cX7_addArgument (wM ad cs) post) (u : St) (x1 : Int32) (x2 : Int32) (hw : wp_X7_addArgument u x1 x2 post) : Z X (wM ad cs u) 0 [(0, .ref (ad 0)), (1, .int x1), (2, .int x2)] [] := by
  unfold wp_X7_addArgument at hw
  refine z_aload_n C.1 dX7_addArgument_0 rfl 0 rfl ?_
  refine gM_0_calledArities C mF_X7_47 dX7_addArgument_1 ?_
  refine z_iload_n C.1 dX7_addArgument_4 rfl 1 rfl ?_
  refine z_dup2 C.1 dX7_addArgument_5 rfl rfl ?_
  refine lM_13 C hw.1 dX7_addArgument_6 ?_
  replace hw := hw.2
  refine z_iconst (v := 1) C.1 dX7_addArgument_7 (by decide) ?_
  refine z_iadd C.1 dX7_addArgument_8 ?_
  refine sM_13 C hw.1 dX7_addArgument_9 (fun u1 eu1 => ?_)
  replace hw := hw.2 u1 eu1
  refine z_aload_n C.1 dX7_addArgument_10 rfl 0 rfl ?_
  refine gM_0_argumentRows C mF_X7_38 dX7_addArgument_11 ?_
  refine z_iload_n C.1 dX7_addArgument_14 rfl 1 rfl ?_
  refine lM_10 C hw.1 dX7_addArgument_15 ?_
  replace hw := hw.2
  refine z_iconst (v := (-1)) C.1 dX7_addArgument_16 (by decide) ?_
  refine z_icmp_ne (tgt := 28) C.1 dX7_addArgument_17 (by decide) (fun c2 => ?_) (fun c2 => ?_)
  · replace hw := hw.2 c2
    refine z_aload_n C.1 dX7_addArgument_28 rfl 0 rfl ?_
    refine gM_0_argumentRows C mF_X7_38 dX7_addArgument_29 ?_
    refine z_iload_n C.1 dX7_addArgument_32 rfl 1 rfl ?_
    refine lM_10 C hw.1 dX7_addArgument_33 ?_
    replace hw := hw.2
    refine z_topi (fun v3 ev3 => ?_)
    replace hw := hw v3 ev3
    refine z_istore_n (lv' := [(3, .int v3), (0, .ref (ad 0)), (1, .int x1), (2, .int x2)]) C.1 dX7_addArgument_34 rfl (by rw [hn]; decide) rfl ?_
    refine z_lv [1, 3, 0] rfl ?_
    obtain ⟨n, hw⟩ := hw
    exact z_X7_addArgument_35 C hn hR n _ _ _ hw
  · replace hw := hw.1 c2
    refine z_aload_n C.1 dX7_addArgument_20 rfl 0 rfl ?_
    refine gM_0_argumentRows C mF_X7_38 dX7_addArgument_21 ?_
    refine z_iload_n C.1 dX7_addArgument_24 rfl 1 rfl ?_
    refine z_iload_n C.1 dX7_addArgument_25 rfl 2 rfl ?_
    refine sM_10 C hw.1 dX7_addArgument_26 (fun u4 eu4 => ?_)
    replace hw := hw.2 u4 eu4
    exact hR _ _ _ dX7_addArgument_27 hw
theorem c_X7_addArgument {l : Launch} {D : va_G} {A : Nat → Prop} {ad : Nat → Nat} {cs : Nat → ClassId} (hD : ∀ u : St, va_D A (wM ad cs u)) (u : St) (x1 : Int32) (x2 : Int32) (post : St → Prop) (hw : wp_X7_addArgument u x1 x2 post) : MV (ad 90, ad 91) l yX7_addArgument cX7_addArgument 4 none (rmm 0 0) D (tysM cs) A (wM ad cs) u [.ref (ad 0), .int x1, .int x2] post :=
  met_v (by decide) (Nat.le_of_ble_eq_true rfl) (fun X C _ _ ht hA hn hsg hR => z_X7_addArgument ⟨C, ht, fun u => by rw [hA]; exact hD u, hsg⟩ hn hR u x1 x2 hw)
theorem k_X7_addArgument {X : XX} {ad : Nat → Nat} {cs : Nat → ClassId} {cc : ByteArray} {own : String} {fr lo pc : Nat} {lv : List (Nat × Value)} {st : List Value} {u : St} (C : CxM X ad cs cc own fr lo) {idx : Nat} {x1 : Int32} {x2 : Int32} {P : St → Prop} (hlink : Cond.methodLink own idx yX7_addArgument ∈ W0) (hw : wp_X7_addArgument u x1 x2 P) (hr : 0 + 1 ≤ fr ∧ 8 + (4 + 11) + 0 ≤ lo) (hst : (st.map fun v => v.category).sum ≤ 8) (hdg : decode cc pc = .ok (.invokevirtual idx, 3)) (k : ∀ (u2 : St), P u2 → Z X (wM ad cs u2) (pc + 3) lv st) : Z X (wM ad cs u) pc lv (.int x2 :: .int x1 :: .ref (ad 0) :: st) :=
  z_callVv (wf := wM ad cs) (As := [.int x1, .int x2]) (rest := st) C.1 2 (q0 := 0) mI_X7_addArgument mS_X7_addArgument rfl rfl (by rw [C.2.1, C.2.2.2]; exact c_X7_addArgument C.2.2.1 u x1 x2 P hw) mC_X7_addArgument mZ_X7 (by decide +kernel) rfl hlink hr hst hdg k

def wp_X7_expression_145 (u : St) (post : St → Prop) : Prop :=
  wp_X7_later u 7 0 (fun (u27 : St) => wp_X7_later u27 9 0 (fun (u28 : St) => post u28))
set_option maxHeartbeats 4000000 in
set_option maxRecDepth 20000 in
theorem z_X7_expression_145 {X : XX} {ad : Nat → Nat} {cs : Nat → ClassId} {post : St → Prop} (C : CxM X ad cs cX7_expression RX7 4 87) (hn : xnL X = 2) (hR : rtV X cX7_expression (wM ad cs) post) (u : St) (hw : wp_X7_expression_145 u post) : Z X (wM ad cs u) 145 [(0, .ref (ad 0))] [] := by
  unfold wp_X7_expression_145 at hw
  refine z_aload_n C.1 dX7_expression_145 rfl 0 rfl ?_
  refine z_bipush (v := 7) C.1 dX7_expression_146 (by decide) ?_
  refine z_iconst (v := 0) C.1 dX7_expression_148 (by decide) ?_
  refine k_X7_later C mM_X7_215 hw (by decide) (Nat.le_of_ble_eq_true rfl) dX7_expression_149 (fun u27 hw => ?_)
  refine z_aload_n C.1 dX7_expression_152 rfl 0 rfl ?_
  refine z_bipush (v := 9) C.1 dX7_expression_153 (by decide) ?_
  refine z_iconst (v := 0) C.1 dX7_expression_155 (by decide) ?_
  refine k_X7_later C mM_X7_215 hw (by decide) (Nat.le_of_ble_eq_true rfl) dX7_expression_156 (fun u28 hw => ?_)
  exact hR _ _ _ dX7_expression_159 hw
def wp_X7_expression_142 (u : St) (post : St → Prop) : Prop :=
  post u
set_option maxHeartbeats 4000000 in
set_option maxRecDepth 20000 in
theorem z_X7_expression_142 {X : XX} {ad : Nat → Nat} {cs : Nat → ClassId} {post : St → Prop} (C : CxM X ad cs cX7_expression RX7 4 87) (hn : xnL X = 2) (hR : rtV X cX7_expression (wM ad cs) post) (u : St) (hw : wp_X7_expression_142 u post) : Z X (wM ad cs u) 142 [] [] := by
  unfold wp_X7_expression_142 at hw
  refine z_goto (tgt := 159) C.1 dX7_expression_142 (by decide) ?_
  exact hR _ _ _ dX7_expression_159 hw
def wp_X7_expression_109 (u : St) (x1 : Int32) (post : St → Prop) : Prop :=
  wp_X7_isSign u 61 (fun (r21 : Int32) (u20 : St) => wp_X7_need u20 r21 (fun (u22 : St) => br ((gI u22 13) = 0) (wp_X7_expression_142 u22 post) (wp_X7_go u22 (fun (u24 : St) => wp_X7_later u24 5 x1 (fun (u25 : St) => wp_X7_later u25 1 0 (fun (u26 : St) => wp_X7_expression_142 u26 post))))))
set_option maxHeartbeats 4000000 in
set_option maxRecDepth 20000 in
theorem z_X7_expression_109 {X : XX} {ad : Nat → Nat} {cs : Nat → ClassId} {post : St → Prop} (C : CxM X ad cs cX7_expression RX7 4 87) (hn : xnL X = 2) (hR : rtV X cX7_expression (wM ad cs) post) (u : St) (x1 : Int32) (hw : wp_X7_expression_109 u x1 post) : Z X (wM ad cs u) 109 [(0, .ref (ad 0)), (1, .int x1)] [] := by
  unfold wp_X7_expression_109 at hw
  refine z_aload_n C.1 dX7_expression_109 rfl 0 rfl ?_
  refine z_aload_n C.1 dX7_expression_110 rfl 0 rfl ?_
  refine z_bipush (v := 61) C.1 dX7_expression_111 (by decide) ?_
  refine k_X7_isSign C mM_X7_172 hw (by decide) (Nat.le_of_ble_eq_true rfl) dX7_expression_113 (fun r21 u20 hw => ?_)
  refine k_X7_need C mM_X7_191 hw (by decide) (Nat.le_of_ble_eq_true rfl) dX7_expression_116 (fun u22 hw => ?_)
  refine z_aload_n C.1 dX7_expression_119 rfl 0 rfl ?_
  refine gM_0_right C mF_X7_165 dX7_expression_120 ?_
  refine z_if_eq (tgt := 142) C.1 dX7_expression_123 (by decide) (fun c23 => ?_) (fun c23 => ?_)
  · replace hw := hw.1 c23
    refine z_lv [] rfl ?_
    exact z_X7_expression_142 C hn hR _ hw
  · replace hw := hw.2 c23
    refine z_aload_n C.1 dX7_expression_126 rfl 0 rfl ?_
    refine k_X7_go C mM_X7_175 hw (by decide) (Nat.le_of_ble_eq_true rfl) dX7_expression_127 (fun u24 hw => ?_)
    refine z_aload_n C.1 dX7_expression_130 rfl 0 rfl ?_
    refine z_iconst (v := 5) C.1 dX7_expression_131 (by decide) ?_
    refine z_iload_n C.1 dX7_expression_132 rfl 1 rfl ?_
    refine k_X7_later C mM_X7_215 hw (by decide) (Nat.le_of_ble_eq_true rfl) dX7_expression_133 (fun u25 hw => ?_)
    refine z_aload_n C.1 dX7_expression_136 rfl 0 rfl ?_
    refine z_iconst (v := 1) C.1 dX7_expression_137 (by decide) ?_
    refine z_iconst (v := 0) C.1 dX7_expression_138 (by decide) ?_
    refine k_X7_later C mM_X7_215 hw (by decide) (Nat.le_of_ble_eq_true rfl) dX7_expression_139 (fun u26 hw => ?_)
    refine z_lv [] rfl ?_
    exact z_X7_expression_142 C hn hR _ hw
def wp_X7_expression_85 (u : St) (x1 : Int32) (y0 : Int32) (post : St → Prop) : Prop :=
  wp_X7_need u y0 (fun (u14 : St) => br ((gI u14 13) = 0) (wp_X7_expression_109 u14 x1 post) (wp_X7_nameOf u14 (fun (r17 : Int64) (u16 : St) => (vp_in x1 1440 ∧ nm (sB u16 19 (ix x1) r17) (fun u18 : St => wp_X7_go u18 (fun (u19 : St) => wp_X7_expression_109 u19 x1 post))))))
set_option maxHeartbeats 4000000 in
set_option maxRecDepth 20000 in
theorem z_X7_expression_85 {X : XX} {ad : Nat → Nat} {cs : Nat → ClassId} {post : St → Prop} (C : CxM X ad cs cX7_expression RX7 4 87) (hn : xnL X = 2) (hR : rtV X cX7_expression (wM ad cs) post) (u : St) (x1 : Int32) (y0 : Int32) (hw : wp_X7_expression_85 u x1 y0 post) : Z X (wM ad cs u) 85 [(0, .ref (ad 0)), (1, .int x1)] [.int y0, .ref (ad 0)] := by
  unfold wp_X7_expression_85 at hw
  refine k_X7_need C mM_X7_191 hw (by decide) (Nat.le_of_ble_eq_true rfl) dX7_expression_85 (fun u14 hw => ?_)
  refine z_aload_n C.1 dX7_expression_88 rfl 0 rfl ?_
  refine gM_0_right C mF_X7_165 dX7_expression_89 ?_
  refine z_if_eq (tgt := 109) C.1 dX7_expression_92 (by decide) (fun c15 => ?_) (fun c15 => ?_)
  · replace hw := hw.1 c15
    refine z_lv [0, 1] rfl ?_
    exact z_X7_expression_109 C hn hR _ _ hw
  · replace hw := hw.2 c15
    refine z_aload_n C.1 dX7_expression_95 rfl 0 rfl ?_
    refine gM_0_calledNames C mF_X7_66 dX7_expression_96 ?_
    refine z_iload_n C.1 dX7_expression_99 rfl 1 rfl ?_
    refine z_aload_n C.1 dX7_expression_100 rfl 0 rfl ?_
    refine k_X7_nameOf C mM_X7_204 hw (by decide) (Nat.le_of_ble_eq_true rfl) dX7_expression_101 (fun r17 u16 hw => ?_)
    refine sM_19 C hw.1 dX7_expression_104 (fun u18 eu18 => ?_)
    replace hw := hw.2 u18 eu18
    refine z_aload_n C.1 dX7_expression_105 rfl 0 rfl ?_
    refine k_X7_go C mM_X7_175 hw (by decide) (Nat.le_of_ble_eq_true rfl) dX7_expression_106 (fun u19 hw => ?_)
    refine z_lv [0, 1] rfl ?_
    exact z_X7_expression_109 C hn hR _ _ hw
def wp_X7_expression_43 (u : St) (post : St → Prop) : Prop :=
  br ((gI u 6) = 3) (br ((gI u 7) = 4) (wp_X7_part u 7 0 (fun (r11 : Int32) (u10 : St) => wp_X7_go u10 (fun (u12 : St) => br ((gI u12 6) = 1) (wp_X7_expression_85 u12 r11 1 post) (wp_X7_expression_85 u12 r11 0 post)))) (wp_X7_expression_145 u post)) (wp_X7_expression_145 u post)
set_option maxHeartbeats 4000000 in
set_option maxRecDepth 20000 in
theorem z_X7_expression_43 {X : XX} {ad : Nat → Nat} {cs : Nat → ClassId} {post : St → Prop} (C : CxM X ad cs cX7_expression RX7 4 87) (hn : xnL X = 2) (hR : rtV X cX7_expression (wM ad cs) post) (u : St) (hw : wp_X7_expression_43 u post) : Z X (wM ad cs u) 43 [(0, .ref (ad 0))] [] := by
  unfold wp_X7_expression_43 at hw
  refine z_aload_n C.1 dX7_expression_43 rfl 0 rfl ?_
  refine gM_0_token C mF_X7_142 dX7_expression_44 ?_
  refine z_iconst (v := 3) C.1 dX7_expression_47 (by decide) ?_
  refine z_icmp_ne (tgt := 145) C.1 dX7_expression_48 (by decide) (fun c8 => ?_) (fun c8 => ?_)
  · replace hw := hw.2 c8
    refine z_lv [0] rfl ?_
    exact z_X7_expression_145 C hn hR _ hw
  · replace hw := hw.1 c8
    refine z_aload_n C.1 dX7_expression_51 rfl 0 rfl ?_
    refine gM_0_word C mF_X7_162 dX7_expression_52 ?_
    refine z_iconst (v := 4) C.1 dX7_expression_55 (by decide) ?_
    refine z_icmp_ne (tgt := 145) C.1 dX7_expression_56 (by decide) (fun c9 => ?_) (fun c9 => ?_)
    · replace hw := hw.2 c9
      refine z_lv [0] rfl ?_
      exact z_X7_expression_145 C hn hR _ hw
    · replace hw := hw.1 c9
      refine z_aload_n C.1 dX7_expression_59 rfl 0 rfl ?_
      refine z_bipush (v := 7) C.1 dX7_expression_60 (by decide) ?_
      refine z_iconst (v := 0) C.1 dX7_expression_62 (by decide) ?_
      refine k_X7_part C mM_X7_211 hw (by decide) (Nat.le_of_ble_eq_true rfl) dX7_expression_63 (fun r11 u10 hw => ?_)
      refine z_istore_n (lv' := [(1, .int r11), (0, .ref (ad 0))]) C.1 dX7_expression_66 rfl (by rw [hn]; decide) rfl ?_
      refine z_aload_n C.1 dX7_expression_67 rfl 1 rfl ?_
      refine k_X7_go C mM_X7_175 hw (by decide) (Nat.le_of_ble_eq_true rfl) dX7_expression_68 (fun u12 hw => ?_)
      refine z_aload_n C.1 dX7_expression_71 rfl 1 rfl ?_
      refine z_aload_n C.1 dX7_expression_72 rfl 1 rfl ?_
      refine gM_0_token C mF_X7_142 dX7_expression_73 ?_
      refine z_iconst (v := 1) C.1 dX7_expression_76 (by decide) ?_
      refine z_icmp_ne (tgt := 84) C.1 dX7_expression_77 (by decide) (fun c13 => ?_) (fun c13 => ?_)
      · replace hw := hw.2 c13
        refine z_iconst (v := 0) C.1 dX7_expression_84 (by decide) ?_
        refine z_lv [1, 0] rfl ?_
        exact z_X7_expression_85 C hn hR _ _ _ hw
      · replace hw := hw.1 c13
        refine z_iconst (v := 1) C.1 dX7_expression_80 (by decide) ?_
        refine z_goto (tgt := 85) C.1 dX7_expression_81 (by decide) ?_
        refine z_lv [1, 0] rfl ?_
        exact z_X7_expression_85 C hn hR _ _ _ hw
def wp_X7_expression (u : St) (post : St → Prop) : Prop :=
  br ((gI u 6) = 3) (br ((gI u 7) = 1) (wp_X7_part u 6 0 (fun (r4 : Int32) (u3 : St) => wp_X7_go u3 (fun (u5 : St) => wp_X7_later u5 2 r4 (fun (u6 : St) => wp_X7_later u6 1 0 (fun (u7 : St) => post u7))))) (wp_X7_expression_43 u post)) (wp_X7_expression_43 u post)
set_option maxHeartbeats 4000000 in
set_option maxRecDepth 20000 in
theorem z_X7_expression {X : XX} {ad : Nat → Nat} {cs : Nat → ClassId} {post : St → Prop} (C : CxM X ad cs cX7_expression RX7 4 87) (hn : xnL X = 2) (hR : rtV X cX7_expression (wM ad cs) post) (u : St) (hw : wp_X7_expression u post) : Z X (wM ad cs u) 0 [(0, .ref (ad 0))] [] := by
  unfold wp_X7_expression at hw
  refine z_aload_n C.1 dX7_expression_0 rfl 0 rfl ?_
  refine gM_0_token C mF_X7_142 dX7_expression_1 ?_
  refine z_iconst (v := 3) C.1 dX7_expression_4 (by decide) ?_
  refine z_icmp_ne (tgt := 43) C.1 dX7_expression_5 (by decide) (fun c1 => ?_) (fun c1 => ?_)
  · replace hw := hw.2 c1
    refine z_lv [0] rfl ?_
    exact z_X7_expression_43 C hn hR _ hw
  · replace hw := hw.1 c1
    refine z_aload_n C.1 dX7_expression_8 rfl 0 rfl ?_
    refine gM_0_word C mF_X7_162 dX7_expression_9 ?_
    refine z_iconst (v := 1) C.1 dX7_expression_12 (by decide) ?_
    refine z_icmp_ne (tgt := 43) C.1 dX7_expression_13 (by decide) (fun c2 => ?_) (fun c2 => ?_)
    · replace hw := hw.2 c2
      refine z_lv [0] rfl ?_
      exact z_X7_expression_43 C hn hR _ hw
    · replace hw := hw.1 c2
      refine z_aload_n C.1 dX7_expression_16 rfl 0 rfl ?_
      refine z_bipush (v := 6) C.1 dX7_expression_17 (by decide) ?_
      refine z_iconst (v := 0) C.1 dX7_expression_19 (by decide) ?_
      refine k_X7_part C mM_X7_211 hw (by decide) (Nat.le_of_ble_eq_true rfl) dX7_expression_20 (fun r4 u3 hw => ?_)
      refine z_istore_n (lv' := [(1, .int r4), (0, .ref (ad 0))]) C.1 dX7_expression_23 rfl (by rw [hn]; decide) rfl ?_
      refine z_aload_n C.1 dX7_expression_24 rfl 1 rfl ?_
      refine k_X7_go C mM_X7_175 hw (by decide) (Nat.le_of_ble_eq_true rfl) dX7_expression_25 (fun u5 hw => ?_)
      refine z_aload_n C.1 dX7_expression_28 rfl 1 rfl ?_
      refine z_iconst (v := 2) C.1 dX7_expression_29 (by decide) ?_
      refine z_iload_n C.1 dX7_expression_30 rfl 0 rfl ?_
      refine k_X7_later C mM_X7_215 hw (by decide) (Nat.le_of_ble_eq_true rfl) dX7_expression_31 (fun u6 hw => ?_)
      refine z_aload_n C.1 dX7_expression_34 rfl 1 rfl ?_
      refine z_iconst (v := 1) C.1 dX7_expression_35 (by decide) ?_
      refine z_iconst (v := 0) C.1 dX7_expression_36 (by decide) ?_
      refine k_X7_later C mM_X7_215 hw (by decide) (Nat.le_of_ble_eq_true rfl) dX7_expression_37 (fun u7 hw => ?_)
      refine z_goto (tgt := 159) C.1 dX7_expression_40 (by decide) ?_
      exact hR _ _ _ dX7_expression_159 hw
theorem c_X7_expression {l : Launch} {D : va_G} {A : Nat → Prop} {ad : Nat → Nat} {cs : Nat → ClassId} (hD : ∀ u : St, va_D A (wM ad cs u)) (u : St) (post : St → Prop) (hw : wp_X7_expression u post) : MV (ad 90, ad 91) l yX7_expression cX7_expression 2 none (rmm 4 87) D (tysM cs) A (wM ad cs) u [.ref (ad 0)] post :=
  met_v (by decide) (Nat.le_of_ble_eq_true rfl) (fun X C _ _ ht hA hn hsg hR => z_X7_expression ⟨C, ht, fun u => by rw [hA]; exact hD u, hsg⟩ hn hR u hw)
theorem k_X7_expression {X : XX} {ad : Nat → Nat} {cs : Nat → ClassId} {cc : ByteArray} {own : String} {fr lo pc : Nat} {lv : List (Nat × Value)} {st : List Value} {u : St} (C : CxM X ad cs cc own fr lo) {idx : Nat} {P : St → Prop} (hlink : Cond.methodLink own idx yX7_expression ∈ W0) (hw : wp_X7_expression u P) (hr : 4 + 1 ≤ fr ∧ 8 + (2 + 11) + 87 ≤ lo) (hst : (st.map fun v => v.category).sum ≤ 8) (hdg : decode cc pc = .ok (.invokevirtual idx, 3)) (k : ∀ (u2 : St), P u2 → Z X (wM ad cs u2) (pc + 3) lv st) : Z X (wM ad cs u) pc lv (.ref (ad 0) :: st) :=
  z_callVv (wf := wM ad cs) (As := []) (rest := st) C.1 0 (q0 := 0) mI_X7_expression mS_X7_expression rfl rfl (by rw [C.2.1, C.2.2.2]; exact c_X7_expression C.2.2.1 u P hw) mC_X7_expression mZ_X7 (by decide +kernel) rfl hlink hr hst hdg k

def wp_X7_named_50 (u : St) (post : St → Prop) : Prop :=
  wp_X7_variable u (fun (r25 : Int32) (u24 : St) => wp_X7_give u24 r25 (fun (u26 : St) => br ((gI u26 13) = 0) (post u26) (wp_X7_go u26 (fun (u28 : St) => wp_X7_later u28 18 0 (fun (u29 : St) => post u29)))))
set_option maxHeartbeats 4000000 in
set_option maxRecDepth 20000 in
theorem z_X7_named_50 {X : XX} {ad : Nat → Nat} {cs : Nat → ClassId} {post : St → Prop} (C : CxM X ad cs cX7_named RX7 5 109) (hn : xnL X = 3) (hR : rtV X cX7_named (wM ad cs) post) (u : St) (hw : wp_X7_named_50 u post) : Z X (wM ad cs u) 50 [(0, .ref (ad 0))] [] := by
  unfold wp_X7_named_50 at hw
  refine z_aload_n C.1 dX7_named_50 rfl 0 rfl ?_
  refine k_X7_variable C mM_X7_229 hw (by decide) (Nat.le_of_ble_eq_true rfl) dX7_named_51 (fun r25 u24 hw => ?_)
  refine z_istore_n (lv' := [(2, .int r25), (0, .ref (ad 0))]) C.1 dX7_named_54 rfl (by rw [hn]; decide) rfl ?_
  refine z_aload_n C.1 dX7_named_55 rfl 1 rfl ?_
  refine z_iload_n C.1 dX7_named_56 rfl 0 rfl ?_
  refine k_X7_give C mM_X7_222 hw (by decide) (Nat.le_of_ble_eq_true rfl) dX7_named_57 (fun u26 hw => ?_)
  refine z_aload_n C.1 dX7_named_60 rfl 1 rfl ?_
  refine gM_0_right C mF_X7_165 dX7_named_61 ?_
  refine z_if_eq (tgt := 78) C.1 dX7_named_64 (by decide) (fun c27 => ?_) (fun c27 => ?_)
  · replace hw := hw.1 c27
    exact hR _ _ _ dX7_named_78 hw
  · replace hw := hw.2 c27
    refine z_aload_n C.1 dX7_named_67 rfl 1 rfl ?_
    refine k_X7_go C mM_X7_175 hw (by decide) (Nat.le_of_ble_eq_true rfl) dX7_named_68 (fun u28 hw => ?_)
    refine z_aload_n C.1 dX7_named_71 rfl 1 rfl ?_
    refine z_bipush (v := 18) C.1 dX7_named_72 (by decide) ?_
    refine z_iconst (v := 0) C.1 dX7_named_74 (by decide) ?_
    refine k_X7_later C mM_X7_215 hw (by decide) (Nat.le_of_ble_eq_true rfl) dX7_named_75 (fun u29 hw => ?_)
    exact hR _ _ _ dX7_named_78 hw
def wp_X7_named_31 (u : St) (x1 : Int32) (post : St → Prop) : Prop :=
  br (x1 = (gI u 1)) (wp_X7_named_50 u post) ((vp_in x1 1500 ∧ br ((gA u 1 (ix x1)) = 40) (wp_X7_part u 8 0 (fun (r10 : Int32) (u9 : St) => br ((gI u9 13) = 0) (post u9) (wp_X7_nameOf u9 (fun (r13 : Int64) (u12 : St) => (vp_in r10 1440 ∧ nm (sB u12 19 (ix r10) r13) (fun u14 : St => wp_X7_go u14 (fun (u15 : St) => wp_X7_go u15 (fun (u16 : St) => wp_X7_take u16 41 (fun (r18 : Int32) (u17 : St) => br (r18 = 0) (wp_X7_later u17 22 r10 (fun (u20 : St) => wp_X7_later u20 1 0 (fun (u21 : St) => post u21))) (wp_X7_give u17 r10 (fun (u22 : St) => wp_X7_later u22 18 0 (fun (u23 : St) => post u23)))))))))))) (wp_X7_named_50 u post)))
set_option maxHeartbeats 4000000 in
set_option maxRecDepth 20000 in
theorem z_X7_named_31 {X : XX} {ad : Nat → Nat} {cs : Nat → ClassId} {post : St → Prop} (C : CxM X ad cs cX7_named RX7 5 109) (hn : xnL X = 3) (hR : rtV X cX7_named (wM ad cs) post) (u : St) (x1 : Int32) (hw : wp_X7_named_31 u x1 post) : Z X (wM ad cs u) 31 [(0, .ref (ad 0)), (1, .int x1)] [] := by
  unfold wp_X7_named_31 at hw
  refine z_iload_n C.1 dX7_named_31 rfl 1 rfl ?_
  refine z_aload_n C.1 dX7_named_32 rfl 0 rfl ?_
  refine gM_0_size C mF_X7_119 dX7_named_33 ?_
  refine z_icmp_eq (tgt := 50) C.1 dX7_named_36 (by decide) (fun c7 => ?_) (fun c7 => ?_)
  · replace hw := hw.1 c7
    refine z_lv [0] rfl ?_
    exact z_X7_named_50 C hn hR _ hw
  · replace hw := hw.2 c7
    refine z_aload_n C.1 dX7_named_39 rfl 0 rfl ?_
    refine gM_0_tape C mF_X7_7 dX7_named_40 ?_
    refine z_iload_n C.1 dX7_named_43 rfl 1 rfl ?_
    refine lM_1 C hw.1 dX7_named_44 ?_
    replace hw := hw.2
    refine z_bipush (v := 40) C.1 dX7_named_45 (by decide) ?_
    refine z_icmp_eq (tgt := 79) C.1 dX7_named_47 (by decide) (fun c8 => ?_) (fun c8 => ?_)
    · replace hw := hw.1 c8
      refine z_aload_n C.1 dX7_named_79 rfl 0 rfl ?_
      refine z_bipush (v := 8) C.1 dX7_named_80 (by decide) ?_
      refine z_iconst (v := 0) C.1 dX7_named_82 (by decide) ?_
      refine k_X7_part C mM_X7_211 hw (by decide) (Nat.le_of_ble_eq_true rfl) dX7_named_83 (fun r10 u9 hw => ?_)
      refine z_istore_n (lv' := [(2, .int r10), (0, .ref (ad 0)), (1, .int x1)]) C.1 dX7_named_86 rfl (by rw [hn]; decide) rfl ?_
      refine z_aload_n C.1 dX7_named_87 rfl 1 rfl ?_
      refine gM_0_right C mF_X7_165 dX7_named_88 ?_
      refine z_if_ne (tgt := 95) C.1 dX7_named_91 (by decide) (fun c11 => ?_) (fun c11 => ?_)
      · replace hw := hw.2 c11
        refine z_aload_n C.1 dX7_named_95 rfl 1 rfl ?_
        refine gM_0_calledNames C mF_X7_66 dX7_named_96 ?_
        refine z_iload_n C.1 dX7_named_99 rfl 0 rfl ?_
        refine z_aload_n C.1 dX7_named_100 rfl 1 rfl ?_
        refine k_X7_nameOf C mM_X7_204 hw (by decide) (Nat.le_of_ble_eq_true rfl) dX7_named_101 (fun r13 u12 hw => ?_)
        refine sM_19 C hw.1 dX7_named_104 (fun u14 eu14 => ?_)
        replace hw := hw.2 u14 eu14
        refine z_aload_n C.1 dX7_named_105 rfl 1 rfl ?_
        refine k_X7_go C mM_X7_175 hw (by decide) (Nat.le_of_ble_eq_true rfl) dX7_named_106 (fun u15 hw => ?_)
        refine z_aload_n C.1 dX7_named_109 rfl 1 rfl ?_
        refine k_X7_go C mM_X7_175 hw (by decide) (Nat.le_of_ble_eq_true rfl) dX7_named_110 (fun u16 hw => ?_)
        refine z_aload_n C.1 dX7_named_113 rfl 1 rfl ?_
        refine z_bipush (v := 41) C.1 dX7_named_114 (by decide) ?_
        refine k_X7_take C mM_X7_232 hw (by decide) (Nat.le_of_ble_eq_true rfl) dX7_named_116 (fun r18 u17 hw => ?_)
        refine z_if_eq (tgt := 137) C.1 dX7_named_119 (by decide) (fun c19 => ?_) (fun c19 => ?_)
        · replace hw := hw.1 c19
          refine z_aload_n C.1 dX7_named_137 rfl 1 rfl ?_
          refine z_bipush (v := 22) C.1 dX7_named_138 (by decide) ?_
          refine z_iload_n C.1 dX7_named_140 rfl 0 rfl ?_
          refine k_X7_later C mM_X7_215 hw (by decide) (Nat.le_of_ble_eq_true rfl) dX7_named_141 (fun u20 hw => ?_)
          refine z_aload_n C.1 dX7_named_144 rfl 1 rfl ?_
          refine z_iconst (v := 1) C.1 dX7_named_145 (by decide) ?_
          refine z_iconst (v := 0) C.1 dX7_named_146 (by decide) ?_
          refine k_X7_later C mM_X7_215 hw (by decide) (Nat.le_of_ble_eq_true rfl) dX7_named_147 (fun u21 hw => ?_)
          exact hR _ _ _ dX7_named_150 hw
        · replace hw := hw.2 c19
          refine z_aload_n C.1 dX7_named_122 rfl 1 rfl ?_
          refine z_iload_n C.1 dX7_named_123 rfl 0 rfl ?_
          refine k_X7_give C mM_X7_222 hw (by decide) (Nat.le_of_ble_eq_true rfl) dX7_named_124 (fun u22 hw => ?_)
          refine z_aload_n C.1 dX7_named_127 rfl 1 rfl ?_
          refine z_bipush (v := 18) C.1 dX7_named_128 (by decide) ?_
          refine z_iconst (v := 0) C.1 dX7_named_130 (by decide) ?_
          refine k_X7_later C mM_X7_215 hw (by decide) (Nat.le_of_ble_eq_true rfl) dX7_named_131 (fun u23 hw => ?_)
          refine z_goto (tgt := 150) C.1 dX7_named_134 (by decide) ?_
          exact hR _ _ _ dX7_named_150 hw
      · replace hw := hw.1 c11
        exact hR _ _ _ dX7_named_94 hw
    · replace hw := hw.2 c8
      refine z_lv [0] rfl ?_
      exact z_X7_named_50 C hn hR _ hw
def wp_X7_named_5s (K5 : St → Int32 → Prop) (u : St) (x1 : Int32) (post : St → Prop) : Prop :=
  br ((gI u 1) ≤ x1) (wp_X7_named_31 u x1 post) ((vp_in x1 1500 ∧ wp_X7_isBlank u (gA u 1 (ix x1)) (fun (r4 : Int32) (u3 : St) => br (r4 = 0) (wp_X7_named_31 u3 x1 post) (nm (x1 + 1) (fun v6 : Int32 => K5 u3 v6)))))
def wp_X7_named_5 (post : St → Prop) : Nat → St → Int32 → Prop
  | 0 => fun _ _ => False
  | n + 1 => fun u x1 => wp_X7_named_5s (wp_X7_named_5 post n) u x1 post
set_option maxHeartbeats 4000000 in
set_option maxRecDepth 20000 in
theorem z_X7_named_5s {X : XX} {ad : Nat → Nat} {cs : Nat → ClassId} {post : St → Prop} (C : CxM X ad cs cX7_named RX7 5 109) (hn : xnL X = 3) (hR : rtV X cX7_named (wM ad cs) post) {K5 : St → Int32 → Prop} (hK5 : ∀ (u : St) (x1 : Int32), K5 u x1 → Z X (wM ad cs u) 5 [(0, .ref (ad 0)), (1, .int x1)] []) (u : St) (x1 : Int32) (hw : wp_X7_named_5s K5 u x1 post) : Z X (wM ad cs u) 5 [(0, .ref (ad 0)), (1, .int x1)] [] := by
  unfold wp_X7_named_5s at hw
  refine z_iload_n C.1 dX7_named_5 rfl 1 rfl ?_
  refine z_aload_n C.1 dX7_named_6 rfl 0 rfl ?_
  refine gM_0_size C mF_X7_119 dX7_named_7 ?_
  refine z_icmp_ge (tgt := 31) C.1 dX7_named_10 (by decide) (fun c2 => ?_) (fun c2 => ?_)
  · replace hw := hw.1 c2
    refine z_lv [0, 1] rfl ?_
    exact z_X7_named_31 C hn hR _ _ hw
  · replace hw := hw.2 c2
    refine z_aload_n C.1 dX7_named_13 rfl 0 rfl ?_
    refine gM_0_tape C mF_X7_7 dX7_named_14 ?_
    refine z_iload_n C.1 dX7_named_17 rfl 1 rfl ?_
    refine lM_1 C hw.1 dX7_named_18 ?_
    replace hw := hw.2
    refine k_X7_isBlank C mM_X7_139 hw (by decide) (Nat.le_of_ble_eq_true rfl) dX7_named_19 (fun r4 u3 hw => ?_)
    refine z_if_eq (tgt := 31) C.1 dX7_named_22 (by decide) (fun c5 => ?_) (fun c5 => ?_)
    · replace hw := hw.1 c5
      refine z_lv [0, 1] rfl ?_
      exact z_X7_named_31 C hn hR _ _ hw
    · replace hw := hw.2 c5
      obtain ⟨v6, ev6⟩ : ∃ z : Int32, z = x1 + 1 := ⟨_, rfl⟩
      replace hw := hw v6 ev6
      refine z_iinc (v := v6) (lv' := [(1, .int v6), (0, .ref (ad 0))]) C.1 (j := 1) dX7_named_25 rfl (by rw [ev6]; rfl) (by rw [hn]; decide) rfl ?_
      refine z_goto (tgt := 5) C.1 dX7_named_28 (by decide) ?_
      refine z_lv [1, 0] rfl ?_
      exact hK5 _ _ hw
theorem z_X7_named_5 {X : XX} {ad : Nat → Nat} {cs : Nat → ClassId} {post : St → Prop} (C : CxM X ad cs cX7_named RX7 5 109) (hn : xnL X = 3) (hR : rtV X cX7_named (wM ad cs) post) : ∀ (n : Nat) (u : St) (x1 : Int32), wp_X7_named_5 post n u x1 → Z X (wM ad cs u) 5 [(0, .ref (ad 0)), (1, .int x1)] []
  | 0, _, _, hw => absurd hw (fun h => h)
  | n + 1, u, x1, hw => z_X7_named_5s C hn hR (z_X7_named_5 C hn hR n) u x1 hw
def wp_X7_named (u : St) (post : St → Prop) : Prop :=
  nm (gI u 5) (fun v1 : Int32 => ∃ n, wp_X7_named_5 post n u v1)
set_option maxHeartbeats 4000000 in
set_option maxRecDepth 20000 in
theorem z_X7_named {X : XX} {ad : Nat → Nat} {cs : Nat → ClassId} {post : St → Prop} (C : CxM X ad cs cX7_named RX7 5 109) (hn : xnL X = 3) (hR : rtV X cX7_named (wM ad cs) post) (u : St) (hw : wp_X7_named u post) : Z X (wM ad cs u) 0 [(0, .ref (ad 0))] [] := by
  unfold wp_X7_named at hw
  refine z_aload_n C.1 dX7_named_0 rfl 0 rfl ?_
  refine gM_0_end C mF_X7_129 dX7_named_1 ?_
  refine z_topi (fun v1 ev1 => ?_)
  replace hw := hw v1 ev1
  refine z_istore_n (lv' := [(1, .int v1), (0, .ref (ad 0))]) C.1 dX7_named_4 rfl (by rw [hn]; decide) rfl ?_
  refine z_lv [1, 0] rfl ?_
  obtain ⟨n, hw⟩ := hw
  exact z_X7_named_5 C hn hR n _ _ hw
theorem c_X7_named {l : Launch} {D : va_G} {A : Nat → Prop} {ad : Nat → Nat} {cs : Nat → ClassId} (hD : ∀ u : St, va_D A (wM ad cs u)) (u : St) (post : St → Prop) (hw : wp_X7_named u post) : MV (ad 90, ad 91) l yX7_named cX7_named 3 none (rmm 5 109) D (tysM cs) A (wM ad cs) u [.ref (ad 0)] post :=
  met_v (by decide) (Nat.le_of_ble_eq_true rfl) (fun X C _ _ ht hA hn hsg hR => z_X7_named ⟨C, ht, fun u => by rw [hA]; exact hD u, hsg⟩ hn hR u hw)
theorem k_X7_named {X : XX} {ad : Nat → Nat} {cs : Nat → ClassId} {cc : ByteArray} {own : String} {fr lo pc : Nat} {lv : List (Nat × Value)} {st : List Value} {u : St} (C : CxM X ad cs cc own fr lo) {idx : Nat} {P : St → Prop} (hlink : Cond.methodLink own idx yX7_named ∈ W0) (hw : wp_X7_named u P) (hr : 5 + 1 ≤ fr ∧ 8 + (3 + 11) + 109 ≤ lo) (hst : (st.map fun v => v.category).sum ≤ 8) (hdg : decode cc pc = .ok (.invokevirtual idx, 3)) (k : ∀ (u2 : St), P u2 → Z X (wM ad cs u2) (pc + 3) lv st) : Z X (wM ad cs u) pc lv (.ref (ad 0) :: st) :=
  z_callVv (wf := wM ad cs) (As := []) (rest := st) C.1 0 (q0 := 0) mI_X7_named mS_X7_named rfl rfl (by rw [C.2.1, C.2.2.2]; exact c_X7_named C.2.2.1 u P hw) mC_X7_named mZ_X7 (by decide +kernel) rfl hlink hr hst hdg k

def wp_X7_factor_210 (u : St) (y0 : Int32) (post : St → Prop) : Prop :=
  wp_X7_need u y0 (fun (u37 : St) => br ((gI u37 13) = 0) (post u37) (wp_X7_named u37 (fun (u39 : St) => post u39)))
set_option maxHeartbeats 4000000 in
set_option maxRecDepth 20000 in
theorem z_X7_factor_210 {X : XX} {ad : Nat → Nat} {cs : Nat → ClassId} {post : St → Prop} (C : CxM X ad cs cX7_factor RX7 6 131) (hn : xnL X = 2) (hR : rtV X cX7_factor (wM ad cs) post) (u : St) (y0 : Int32) (hw : wp_X7_factor_210 u y0 post) : Z X (wM ad cs u) 210 [(0, .ref (ad 0))] [.int y0, .ref (ad 0)] := by
  unfold wp_X7_factor_210 at hw
  refine k_X7_need C mM_X7_191 hw (by decide) (Nat.le_of_ble_eq_true rfl) dX7_factor_210 (fun u37 hw => ?_)
  refine z_aload_n C.1 dX7_factor_213 rfl 0 rfl ?_
  refine gM_0_right C mF_X7_165 dX7_factor_214 ?_
  refine z_if_eq (tgt := 224) C.1 dX7_factor_217 (by decide) (fun c38 => ?_) (fun c38 => ?_)
  · replace hw := hw.1 c38
    exact hR _ _ _ dX7_factor_224 hw
  · replace hw := hw.2 c38
    refine z_aload_n C.1 dX7_factor_220 rfl 0 rfl ?_
    refine k_X7_named C mM_X7_226 hw (by decide) (Nat.le_of_ble_eq_true rfl) dX7_factor_221 (fun u39 hw => ?_)
    exact hR _ _ _ dX7_factor_224 hw
def wp_X7_factor_196 (u : St) (post : St → Prop) : Prop :=
  br ((gI u 6) = 1) (wp_X7_factor_210 u 1 post) (wp_X7_factor_210 u 0 post)
set_option maxHeartbeats 4000000 in
set_option maxRecDepth 20000 in
theorem z_X7_factor_196 {X : XX} {ad : Nat → Nat} {cs : Nat → ClassId} {post : St → Prop} (C : CxM X ad cs cX7_factor RX7 6 131) (hn : xnL X = 2) (hR : rtV X cX7_factor (wM ad cs) post) (u : St) (hw : wp_X7_factor_196 u post) : Z X (wM ad cs u) 196 [(0, .ref (ad 0))] [] := by
  unfold wp_X7_factor_196 at hw
  refine z_aload_n C.1 dX7_factor_196 rfl 0 rfl ?_
  refine z_aload_n C.1 dX7_factor_197 rfl 0 rfl ?_
  refine gM_0_token C mF_X7_142 dX7_factor_198 ?_
  refine z_iconst (v := 1) C.1 dX7_factor_201 (by decide) ?_
  refine z_icmp_ne (tgt := 209) C.1 dX7_factor_202 (by decide) (fun c36 => ?_) (fun c36 => ?_)
  · replace hw := hw.2 c36
    refine z_iconst (v := 0) C.1 dX7_factor_209 (by decide) ?_
    refine z_lv [0] rfl ?_
    exact z_X7_factor_210 C hn hR _ _ hw
  · replace hw := hw.1 c36
    refine z_iconst (v := 1) C.1 dX7_factor_205 (by decide) ?_
    refine z_goto (tgt := 210) C.1 dX7_factor_206 (by decide) ?_
    refine z_lv [0] rfl ?_
    exact z_X7_factor_210 C hn hR _ _ hw
def wp_X7_factor_193 (u : St) (post : St → Prop) : Prop :=
  post u
set_option maxHeartbeats 4000000 in
set_option maxRecDepth 20000 in
theorem z_X7_factor_193 {X : XX} {ad : Nat → Nat} {cs : Nat → ClassId} {post : St → Prop} (C : CxM X ad cs cX7_factor RX7 6 131) (hn : xnL X = 2) (hR : rtV X cX7_factor (wM ad cs) post) (u : St) (hw : wp_X7_factor_193 u post) : Z X (wM ad cs u) 193 [] [] := by
  unfold wp_X7_factor_193 at hw
  refine z_goto (tgt := 224) C.1 dX7_factor_193 (by decide) ?_
  exact hR _ _ _ dX7_factor_224 hw
def wp_X7_factor_61 (u : St) (y0 : Int32) (post : St → Prop) : Prop :=
  wp_X7_need u y0 (fun (u31 : St) => nm (sI u31 14 ((gI u31 14) + 1)) (fun u32 : St => wp_X7_go u32 (fun (u33 : St) => wp_X7_later u33 17 0 (fun (u34 : St) => wp_X7_later u34 1 0 (fun (u35 : St) => post u35)))))
set_option maxHeartbeats 4000000 in
set_option maxRecDepth 20000 in
theorem z_X7_factor_61 {X : XX} {ad : Nat → Nat} {cs : Nat → ClassId} {post : St → Prop} (C : CxM X ad cs cX7_factor RX7 6 131) (hn : xnL X = 2) (hR : rtV X cX7_factor (wM ad cs) post) (u : St) (y0 : Int32) (hw : wp_X7_factor_61 u y0 post) : Z X (wM ad cs u) 61 [(0, .ref (ad 0))] [.int y0, .ref (ad 0)] := by
  unfold wp_X7_factor_61 at hw
  refine k_X7_need C mM_X7_191 hw (by decide) (Nat.le_of_ble_eq_true rfl) dX7_factor_61 (fun u31 hw => ?_)
  refine z_aload_n C.1 dX7_factor_64 rfl 0 rfl ?_
  refine z_dup C.1 dX7_factor_65 rfl ?_
  refine gM_0_brackets C mF_X7_219 dX7_factor_66 ?_
  refine z_iconst (v := 1) C.1 dX7_factor_69 (by decide) ?_
  refine z_iadd C.1 dX7_factor_70 ?_
  refine pM_0_brackets C mF_X7_219 dX7_factor_71 (fun u32 eu32 => ?_)
  replace hw := hw u32 eu32
  refine z_aload_n C.1 dX7_factor_74 rfl 0 rfl ?_
  refine k_X7_go C mM_X7_175 hw (by decide) (Nat.le_of_ble_eq_true rfl) dX7_factor_75 (fun u33 hw => ?_)
  refine z_aload_n C.1 dX7_factor_78 rfl 0 rfl ?_
  refine z_bipush (v := 17) C.1 dX7_factor_79 (by decide) ?_
  refine z_iconst (v := 0) C.1 dX7_factor_81 (by decide) ?_
  refine k_X7_later C mM_X7_215 hw (by decide) (Nat.le_of_ble_eq_true rfl) dX7_factor_82 (fun u34 hw => ?_)
  refine z_aload_n C.1 dX7_factor_85 rfl 0 rfl ?_
  refine z_iconst (v := 1) C.1 dX7_factor_86 (by decide) ?_
  refine z_iconst (v := 0) C.1 dX7_factor_87 (by decide) ?_
  refine k_X7_later C mM_X7_215 hw (by decide) (Nat.le_of_ble_eq_true rfl) dX7_factor_88 (fun u35 hw => ?_)
  refine z_goto (tgt := 224) C.1 dX7_factor_91 (by decide) ?_
  exact hR _ _ _ dX7_factor_224 hw
def wp_X7_factor (u : St) (post : St → Prop) : Prop :=
  wp_X7_isSign u 45 (fun (r2 : Int32) (u1 : St) => br (r2 = 0) (wp_X7_isSign u1 40 (fun (r5 : Int32) (u4 : St) => br (r5 = 0) (br ((gI u4 6) = 2) (wp_X7_part u4 1 (Int64.toInt32 (gL u4 0)) (fun (r21 : Int32) (u20 : St) => wp_X7_give u20 r21 (fun (u22 : St) => wp_X7_go u22 (fun (u23 : St) => wp_X7_later u23 18 0 (fun (u24 : St) => post u24))))) (br ((gI u4 6) = 3) (br ((gI u4 7) = 6) (wp_X7_part u4 9 0 (fun (r11 : Int32) (u10 : St) => wp_X7_go u10 (fun (u12 : St) => wp_X7_isSign u12 40 (fun (r14 : Int32) (u13 : St) => wp_X7_need u13 r14 (fun (u15 : St) => br ((gI u15 13) = 0) (wp_X7_factor_193 u15 post) (wp_X7_go u15 (fun (u17 : St) => wp_X7_later u17 20 r11 (fun (u18 : St) => wp_X7_later u18 1 0 (fun (u19 : St) => wp_X7_factor_193 u19 post))))))))) (wp_X7_factor_196 u4 post)) (wp_X7_factor_196 u4 post))) (br (20 ≤ (gI u4 14)) (wp_X7_factor_61 u4 0 post) (wp_X7_factor_61 u4 1 post)))) (wp_X7_part u1 4 0 (fun (r27 : Int32) (u26 : St) => wp_X7_go u26 (fun (u28 : St) => wp_X7_later u28 16 r27 (fun (u29 : St) => wp_X7_later u29 15 0 (fun (u30 : St) => post u30))))))
set_option maxHeartbeats 4000000 in
set_option maxRecDepth 20000 in
theorem z_X7_factor {X : XX} {ad : Nat → Nat} {cs : Nat → ClassId} {post : St → Prop} (C : CxM X ad cs cX7_factor RX7 6 131) (hn : xnL X = 2) (hR : rtV X cX7_factor (wM ad cs) post) (u : St) (hw : wp_X7_factor u post) : Z X (wM ad cs u) 0 [(0, .ref (ad 0))] [] := by
  unfold wp_X7_factor at hw
  refine z_aload_n C.1 dX7_factor_0 rfl 0 rfl ?_
  refine z_bipush (v := 45) C.1 dX7_factor_1 (by decide) ?_
  refine k_X7_isSign C mM_X7_172 hw (by decide) (Nat.le_of_ble_eq_true rfl) dX7_factor_3 (fun r2 u1 hw => ?_)
  refine z_if_eq (tgt := 37) C.1 dX7_factor_6 (by decide) (fun c3 => ?_) (fun c3 => ?_)
  · replace hw := hw.1 c3
    refine z_aload_n C.1 dX7_factor_37 rfl 0 rfl ?_
    refine z_bipush (v := 40) C.1 dX7_factor_38 (by decide) ?_
    refine k_X7_isSign C mM_X7_172 hw (by decide) (Nat.le_of_ble_eq_true rfl) dX7_factor_40 (fun r5 u4 hw => ?_)
    refine z_if_eq (tgt := 94) C.1 dX7_factor_43 (by decide) (fun c6 => ?_) (fun c6 => ?_)
    · replace hw := hw.1 c6
      refine z_aload_n C.1 dX7_factor_94 rfl 0 rfl ?_
      refine gM_0_token C mF_X7_142 dX7_factor_95 ?_
      refine z_iconst (v := 2) C.1 dX7_factor_98 (by decide) ?_
      refine z_icmp_ne (tgt := 130) C.1 dX7_factor_99 (by decide) (fun c7 => ?_) (fun c7 => ?_)
      · replace hw := hw.2 c7
        refine z_aload_n C.1 dX7_factor_130 rfl 0 rfl ?_
        refine gM_0_token C mF_X7_142 dX7_factor_131 ?_
        refine z_iconst (v := 3) C.1 dX7_factor_134 (by decide) ?_
        refine z_icmp_ne (tgt := 196) C.1 dX7_factor_135 (by decide) (fun c8 => ?_) (fun c8 => ?_)
        · replace hw := hw.2 c8
          refine z_lv [0] rfl ?_
          exact z_X7_factor_196 C hn hR _ hw
        · replace hw := hw.1 c8
          refine z_aload_n C.1 dX7_factor_138 rfl 0 rfl ?_
          refine gM_0_word C mF_X7_162 dX7_factor_139 ?_
          refine z_bipush (v := 6) C.1 dX7_factor_142 (by decide) ?_
          refine z_icmp_ne (tgt := 196) C.1 dX7_factor_144 (by decide) (fun c9 => ?_) (fun c9 => ?_)
          · replace hw := hw.2 c9
            refine z_lv [0] rfl ?_
            exact z_X7_factor_196 C hn hR _ hw
          · replace hw := hw.1 c9
            refine z_aload_n C.1 dX7_factor_147 rfl 0 rfl ?_
            refine z_bipush (v := 9) C.1 dX7_factor_148 (by decide) ?_
            refine z_iconst (v := 0) C.1 dX7_factor_150 (by decide) ?_
            refine k_X7_part C mM_X7_211 hw (by decide) (Nat.le_of_ble_eq_true rfl) dX7_factor_151 (fun r11 u10 hw => ?_)
            refine z_istore_n (lv' := [(1, .int r11), (0, .ref (ad 0))]) C.1 dX7_factor_154 rfl (by rw [hn]; decide) rfl ?_
            refine z_aload_n C.1 dX7_factor_155 rfl 1 rfl ?_
            refine k_X7_go C mM_X7_175 hw (by decide) (Nat.le_of_ble_eq_true rfl) dX7_factor_156 (fun u12 hw => ?_)
            refine z_aload_n C.1 dX7_factor_159 rfl 1 rfl ?_
            refine z_aload_n C.1 dX7_factor_160 rfl 1 rfl ?_
            refine z_bipush (v := 40) C.1 dX7_factor_161 (by decide) ?_
            refine k_X7_isSign C mM_X7_172 hw (by decide) (Nat.le_of_ble_eq_true rfl) dX7_factor_163 (fun r14 u13 hw => ?_)
            refine k_X7_need C mM_X7_191 hw (by decide) (Nat.le_of_ble_eq_true rfl) dX7_factor_166 (fun u15 hw => ?_)
            refine z_aload_n C.1 dX7_factor_169 rfl 1 rfl ?_
            refine gM_0_right C mF_X7_165 dX7_factor_170 ?_
            refine z_if_eq (tgt := 193) C.1 dX7_factor_173 (by decide) (fun c16 => ?_) (fun c16 => ?_)
            · replace hw := hw.1 c16
              refine z_lv [] rfl ?_
              exact z_X7_factor_193 C hn hR _ hw
            · replace hw := hw.2 c16
              refine z_aload_n C.1 dX7_factor_176 rfl 1 rfl ?_
              refine k_X7_go C mM_X7_175 hw (by decide) (Nat.le_of_ble_eq_true rfl) dX7_factor_177 (fun u17 hw => ?_)
              refine z_aload_n C.1 dX7_factor_180 rfl 1 rfl ?_
              refine z_bipush (v := 20) C.1 dX7_factor_181 (by decide) ?_
              refine z_iload_n C.1 dX7_factor_183 rfl 0 rfl ?_
              refine k_X7_later C mM_X7_215 hw (by decide) (Nat.le_of_ble_eq_true rfl) dX7_factor_184 (fun u18 hw => ?_)
              refine z_aload_n C.1 dX7_factor_187 rfl 1 rfl ?_
              refine z_iconst (v := 1) C.1 dX7_factor_188 (by decide) ?_
              refine z_iconst (v := 0) C.1 dX7_factor_189 (by decide) ?_
              refine k_X7_later C mM_X7_215 hw (by decide) (Nat.le_of_ble_eq_true rfl) dX7_factor_190 (fun u19 hw => ?_)
              refine z_lv [] rfl ?_
              exact z_X7_factor_193 C hn hR _ hw
      · replace hw := hw.1 c7
        refine z_aload_n C.1 dX7_factor_102 rfl 0 rfl ?_
        refine z_aload_n C.1 dX7_factor_103 rfl 0 rfl ?_
        refine z_iconst (v := 1) C.1 dX7_factor_104 (by decide) ?_
        refine z_aload_n C.1 dX7_factor_105 rfl 0 rfl ?_
        refine gM_0_number C mF_X7_148 dX7_factor_106 ?_
        refine z_l2i C.1 dX7_factor_109 ?_
        refine k_X7_part C mM_X7_211 hw (by decide) (Nat.le_of_ble_eq_true rfl) dX7_factor_110 (fun r21 u20 hw => ?_)
        refine k_X7_give C mM_X7_222 hw (by decide) (Nat.le_of_ble_eq_true rfl) dX7_factor_113 (fun u22 hw => ?_)
        refine z_aload_n C.1 dX7_factor_116 rfl 0 rfl ?_
        refine k_X7_go C mM_X7_175 hw (by decide) (Nat.le_of_ble_eq_true rfl) dX7_factor_117 (fun u23 hw => ?_)
        refine z_aload_n C.1 dX7_factor_120 rfl 0 rfl ?_
        refine z_bipush (v := 18) C.1 dX7_factor_121 (by decide) ?_
        refine z_iconst (v := 0) C.1 dX7_factor_123 (by decide) ?_
        refine k_X7_later C mM_X7_215 hw (by decide) (Nat.le_of_ble_eq_true rfl) dX7_factor_124 (fun u24 hw => ?_)
        refine z_goto (tgt := 224) C.1 dX7_factor_127 (by decide) ?_
        exact hR _ _ _ dX7_factor_224 hw
    · replace hw := hw.2 c6
      refine z_aload_n C.1 dX7_factor_46 rfl 0 rfl ?_
      refine z_aload_n C.1 dX7_factor_47 rfl 0 rfl ?_
      refine gM_0_brackets C mF_X7_219 dX7_factor_48 ?_
      refine z_bipush (v := 20) C.1 dX7_factor_51 (by decide) ?_
      refine z_icmp_ge (tgt := 60) C.1 dX7_factor_53 (by decide) (fun c25 => ?_) (fun c25 => ?_)
      · replace hw := hw.1 c25
        refine z_iconst (v := 0) C.1 dX7_factor_60 (by decide) ?_
        refine z_lv [0] rfl ?_
        exact z_X7_factor_61 C hn hR _ _ hw
      · replace hw := hw.2 c25
        refine z_iconst (v := 1) C.1 dX7_factor_56 (by decide) ?_
        refine z_goto (tgt := 61) C.1 dX7_factor_57 (by decide) ?_
        refine z_lv [0] rfl ?_
        exact z_X7_factor_61 C hn hR _ _ hw
  · replace hw := hw.2 c3
    refine z_aload_n C.1 dX7_factor_9 rfl 0 rfl ?_
    refine z_iconst (v := 4) C.1 dX7_factor_10 (by decide) ?_
    refine z_iconst (v := 0) C.1 dX7_factor_11 (by decide) ?_
    refine k_X7_part C mM_X7_211 hw (by decide) (Nat.le_of_ble_eq_true rfl) dX7_factor_12 (fun r27 u26 hw => ?_)
    refine z_istore_n (lv' := [(1, .int r27), (0, .ref (ad 0))]) C.1 dX7_factor_15 rfl (by rw [hn]; decide) rfl ?_
    refine z_aload_n C.1 dX7_factor_16 rfl 1 rfl ?_
    refine k_X7_go C mM_X7_175 hw (by decide) (Nat.le_of_ble_eq_true rfl) dX7_factor_17 (fun u28 hw => ?_)
    refine z_aload_n C.1 dX7_factor_20 rfl 1 rfl ?_
    refine z_bipush (v := 16) C.1 dX7_factor_21 (by decide) ?_
    refine z_iload_n C.1 dX7_factor_23 rfl 0 rfl ?_
    refine k_X7_later C mM_X7_215 hw (by decide) (Nat.le_of_ble_eq_true rfl) dX7_factor_24 (fun u29 hw => ?_)
    refine z_aload_n C.1 dX7_factor_27 rfl 1 rfl ?_
    refine z_bipush (v := 15) C.1 dX7_factor_28 (by decide) ?_
    refine z_iconst (v := 0) C.1 dX7_factor_30 (by decide) ?_
    refine k_X7_later C mM_X7_215 hw (by decide) (Nat.le_of_ble_eq_true rfl) dX7_factor_31 (fun u30 hw => ?_)
    refine z_goto (tgt := 224) C.1 dX7_factor_34 (by decide) ?_
    exact hR _ _ _ dX7_factor_224 hw
theorem c_X7_factor {l : Launch} {D : va_G} {A : Nat → Prop} {ad : Nat → Nat} {cs : Nat → ClassId} (hD : ∀ u : St, va_D A (wM ad cs u)) (u : St) (post : St → Prop) (hw : wp_X7_factor u post) : MV (ad 90, ad 91) l yX7_factor cX7_factor 2 none (rmm 6 131) D (tysM cs) A (wM ad cs) u [.ref (ad 0)] post :=
  met_v (by decide) (Nat.le_of_ble_eq_true rfl) (fun X C _ _ ht hA hn hsg hR => z_X7_factor ⟨C, ht, fun u => by rw [hA]; exact hD u, hsg⟩ hn hR u hw)
theorem k_X7_factor {X : XX} {ad : Nat → Nat} {cs : Nat → ClassId} {cc : ByteArray} {own : String} {fr lo pc : Nat} {lv : List (Nat × Value)} {st : List Value} {u : St} (C : CxM X ad cs cc own fr lo) {idx : Nat} {P : St → Prop} (hlink : Cond.methodLink own idx yX7_factor ∈ W0) (hw : wp_X7_factor u P) (hr : 6 + 1 ≤ fr ∧ 8 + (2 + 11) + 131 ≤ lo) (hst : (st.map fun v => v.category).sum ≤ 8) (hdg : decode cc pc = .ok (.invokevirtual idx, 3)) (k : ∀ (u2 : St), P u2 → Z X (wM ad cs u2) (pc + 3) lv st) : Z X (wM ad cs u) pc lv (.ref (ad 0) :: st) :=
  z_callVv (wf := wM ad cs) (As := []) (rest := st) C.1 0 (q0 := 0) mI_X7_factor mS_X7_factor rfl rfl (by rw [C.2.1, C.2.2.2]; exact c_X7_factor C.2.2.1 u P hw) mC_X7_factor mZ_X7 (by decide +kernel) rfl hlink hr hst hdg k

def wp_X7_closed (u : St) (x1 : Int32) (x2 : Int32) (post : St → Prop) : Prop :=
  wp_X7_take u 44 (fun (r2 : Int32) (u1 : St) => br (r2 = 0) (wp_X7_isSign u1 41 (fun (r5 : Int32) (u4 : St) => wp_X7_need u4 r5 (fun (u6 : St) => br ((gI u6 13) = 0) (post u6) (wp_X7_go u6 (fun (u8 : St) => wp_X7_give u8 x1 (fun (u9 : St) => wp_X7_later u9 18 0 (fun (u10 : St) => post u10))))))) (wp_X7_later u1 x2 x1 (fun (u11 : St) => wp_X7_later u11 1 0 (fun (u12 : St) => post u12))))
set_option maxHeartbeats 4000000 in
set_option maxRecDepth 20000 in
theorem z_X7_closed {X : XX} {ad : Nat → Nat} {cs : Nat → ClassId} {post : St → Prop} (C : CxM X ad cs cX7_closed RX7 5 109) (hn : xnL X = 3) (hR : rtV X cX7_closed (wM ad cs) post) (u : St) (x1 : Int32) (x2 : Int32) (hw : wp_X7_closed u x1 x2 post) : Z X (wM ad cs u) 0 [(0, .ref (ad 0)), (1, .int x1), (2, .int x2)] [] := by
  unfold wp_X7_closed at hw
  refine z_aload_n C.1 dX7_closed_0 rfl 0 rfl ?_
  refine z_bipush (v := 44) C.1 dX7_closed_1 (by decide) ?_
  refine k_X7_take C mM_X7_232 hw (by decide) (Nat.le_of_ble_eq_true rfl) dX7_closed_3 (fun r2 u1 hw => ?_)
  refine z_if_eq (tgt := 22) C.1 dX7_closed_6 (by decide) (fun c3 => ?_) (fun c3 => ?_)
  · replace hw := hw.1 c3
    refine z_aload_n C.1 dX7_closed_22 rfl 0 rfl ?_
    refine z_aload_n C.1 dX7_closed_23 rfl 0 rfl ?_
    refine z_bipush (v := 41) C.1 dX7_closed_24 (by decide) ?_
    refine k_X7_isSign C mM_X7_172 hw (by decide) (Nat.le_of_ble_eq_true rfl) dX7_closed_26 (fun r5 u4 hw => ?_)
    refine k_X7_need C mM_X7_191 hw (by decide) (Nat.le_of_ble_eq_true rfl) dX7_closed_29 (fun u6 hw => ?_)
    refine z_aload_n C.1 dX7_closed_32 rfl 0 rfl ?_
    refine gM_0_right C mF_X7_165 dX7_closed_33 ?_
    refine z_if_eq (tgt := 55) C.1 dX7_closed_36 (by decide) (fun c7 => ?_) (fun c7 => ?_)
    · replace hw := hw.1 c7
      exact hR _ _ _ dX7_closed_55 hw
    · replace hw := hw.2 c7
      refine z_aload_n C.1 dX7_closed_39 rfl 0 rfl ?_
      refine k_X7_go C mM_X7_175 hw (by decide) (Nat.le_of_ble_eq_true rfl) dX7_closed_40 (fun u8 hw => ?_)
      refine z_aload_n C.1 dX7_closed_43 rfl 0 rfl ?_
      refine z_iload_n C.1 dX7_closed_44 rfl 1 rfl ?_
      refine k_X7_give C mM_X7_222 hw (by decide) (Nat.le_of_ble_eq_true rfl) dX7_closed_45 (fun u9 hw => ?_)
      refine z_aload_n C.1 dX7_closed_48 rfl 0 rfl ?_
      refine z_bipush (v := 18) C.1 dX7_closed_49 (by decide) ?_
      refine z_iconst (v := 0) C.1 dX7_closed_51 (by decide) ?_
      refine k_X7_later C mM_X7_215 hw (by decide) (Nat.le_of_ble_eq_true rfl) dX7_closed_52 (fun u10 hw => ?_)
      exact hR _ _ _ dX7_closed_55 hw
  · replace hw := hw.2 c3
    refine z_aload_n C.1 dX7_closed_9 rfl 0 rfl ?_
    refine z_iload_n C.1 dX7_closed_10 rfl 2 rfl ?_
    refine z_iload_n C.1 dX7_closed_11 rfl 1 rfl ?_
    refine k_X7_later C mM_X7_215 hw (by decide) (Nat.le_of_ble_eq_true rfl) dX7_closed_12 (fun u11 hw => ?_)
    refine z_aload_n C.1 dX7_closed_15 rfl 0 rfl ?_
    refine z_iconst (v := 1) C.1 dX7_closed_16 (by decide) ?_
    refine z_iconst (v := 0) C.1 dX7_closed_17 (by decide) ?_
    refine k_X7_later C mM_X7_215 hw (by decide) (Nat.le_of_ble_eq_true rfl) dX7_closed_18 (fun u12 hw => ?_)
    exact hR _ _ _ dX7_closed_21 hw
theorem c_X7_closed {l : Launch} {D : va_G} {A : Nat → Prop} {ad : Nat → Nat} {cs : Nat → ClassId} (hD : ∀ u : St, va_D A (wM ad cs u)) (u : St) (x1 : Int32) (x2 : Int32) (post : St → Prop) (hw : wp_X7_closed u x1 x2 post) : MV (ad 90, ad 91) l yX7_closed cX7_closed 3 none (rmm 5 109) D (tysM cs) A (wM ad cs) u [.ref (ad 0), .int x1, .int x2] post :=
  met_v (by decide) (Nat.le_of_ble_eq_true rfl) (fun X C _ _ ht hA hn hsg hR => z_X7_closed ⟨C, ht, fun u => by rw [hA]; exact hD u, hsg⟩ hn hR u x1 x2 hw)
theorem k_X7_closed {X : XX} {ad : Nat → Nat} {cs : Nat → ClassId} {cc : ByteArray} {own : String} {fr lo pc : Nat} {lv : List (Nat × Value)} {st : List Value} {u : St} (C : CxM X ad cs cc own fr lo) {idx : Nat} {x1 : Int32} {x2 : Int32} {P : St → Prop} (hlink : Cond.methodLink own idx yX7_closed ∈ W0) (hw : wp_X7_closed u x1 x2 P) (hr : 5 + 1 ≤ fr ∧ 8 + (3 + 11) + 109 ≤ lo) (hst : (st.map fun v => v.category).sum ≤ 8) (hdg : decode cc pc = .ok (.invokevirtual idx, 3)) (k : ∀ (u2 : St), P u2 → Z X (wM ad cs u2) (pc + 3) lv st) : Z X (wM ad cs u) pc lv (.int x2 :: .int x1 :: .ref (ad 0) :: st) :=
  z_callVv (wf := wM ad cs) (As := [.int x1, .int x2]) (rest := st) C.1 2 (q0 := 0) mI_X7_closed mS_X7_closed rfl rfl (by rw [C.2.1, C.2.2.2]; exact c_X7_closed C.2.2.1 u x1 x2 P hw) mC_X7_closed mZ_X7 (by decide +kernel) rfl hlink hr hst hdg k

def wp_X7_listed (u : St) (x1 : Int32) (x2 : Int32) (post : St → Prop) : Prop :=
  wp_X7_got u (fun (r2 : Int32) (u1 : St) => wp_X7_addArgument u1 x1 r2 (fun (u3 : St) => wp_X7_closed u3 x1 x2 (fun (u4 : St) => post u4)))
set_option maxHeartbeats 4000000 in
set_option maxRecDepth 20000 in
theorem z_X7_listed {X : XX} {ad : Nat → Nat} {cs : Nat → ClassId} {post : St → Prop} (C : CxM X ad cs cX7_listed RX7 6 131) (hn : xnL X = 3) (hR : rtV X cX7_listed (wM ad cs) post) (u : St) (x1 : Int32) (x2 : Int32) (hw : wp_X7_listed u x1 x2 post) : Z X (wM ad cs u) 0 [(0, .ref (ad 0)), (1, .int x1), (2, .int x2)] [] := by
  unfold wp_X7_listed at hw
  refine z_aload_n C.1 dX7_listed_0 rfl 0 rfl ?_
  refine z_iload_n C.1 dX7_listed_1 rfl 1 rfl ?_
  refine z_aload_n C.1 dX7_listed_2 rfl 0 rfl ?_
  refine k_X7_got C mM_X7_235 hw (by decide) (Nat.le_of_ble_eq_true rfl) dX7_listed_3 (fun r2 u1 hw => ?_)
  refine k_X7_addArgument C mM_X7_238 hw (by decide) (Nat.le_of_ble_eq_true rfl) dX7_listed_6 (fun u3 hw => ?_)
  refine z_aload_n C.1 dX7_listed_9 rfl 0 rfl ?_
  refine z_iload_n C.1 dX7_listed_10 rfl 1 rfl ?_
  refine z_iload_n C.1 dX7_listed_11 rfl 2 rfl ?_
  refine k_X7_closed C mM_X7_241 hw (by decide) (Nat.le_of_ble_eq_true rfl) dX7_listed_12 (fun u4 hw => ?_)
  exact hR _ _ _ dX7_listed_15 hw
theorem c_X7_listed {l : Launch} {D : va_G} {A : Nat → Prop} {ad : Nat → Nat} {cs : Nat → ClassId} (hD : ∀ u : St, va_D A (wM ad cs u)) (u : St) (x1 : Int32) (x2 : Int32) (post : St → Prop) (hw : wp_X7_listed u x1 x2 post) : MV (ad 90, ad 91) l yX7_listed cX7_listed 3 none (rmm 6 131) D (tysM cs) A (wM ad cs) u [.ref (ad 0), .int x1, .int x2] post :=
  met_v (by decide) (Nat.le_of_ble_eq_true rfl) (fun X C _ _ ht hA hn hsg hR => z_X7_listed ⟨C, ht, fun u => by rw [hA]; exact hD u, hsg⟩ hn hR u x1 x2 hw)
theorem k_X7_listed {X : XX} {ad : Nat → Nat} {cs : Nat → ClassId} {cc : ByteArray} {own : String} {fr lo pc : Nat} {lv : List (Nat × Value)} {st : List Value} {u : St} (C : CxM X ad cs cc own fr lo) {idx : Nat} {x1 : Int32} {x2 : Int32} {P : St → Prop} (hlink : Cond.methodLink own idx yX7_listed ∈ W0) (hw : wp_X7_listed u x1 x2 P) (hr : 6 + 1 ≤ fr ∧ 8 + (3 + 11) + 131 ≤ lo) (hst : (st.map fun v => v.category).sum ≤ 8) (hdg : decode cc pc = .ok (.invokevirtual idx, 3)) (k : ∀ (u2 : St), P u2 → Z X (wM ad cs u2) (pc + 3) lv st) : Z X (wM ad cs u) pc lv (.int x2 :: .int x1 :: .ref (ad 0) :: st) :=
  z_callVv (wf := wM ad cs) (As := [.int x1, .int x2]) (rest := st) C.1 2 (q0 := 0) mI_X7_listed mS_X7_listed rfl rfl (by rw [C.2.1, C.2.2.2]; exact c_X7_listed C.2.2.1 u x1 x2 P hw) mC_X7_listed mZ_X7 (by decide +kernel) rfl hlink hr hst hdg k

def wp_X7_operator (u : St) (x1 : Int32) (post : Int32 → St → Prop) : Prop :=
  wp_X7_part u 5 x1 (fun (r2 : Int32) (u1 : St) => br ((gI u1 13) = 0) (post r2 u1) (wp_X7_got u1 (fun (r5 : Int32) (u4 : St) => (vp_in r2 1440 ∧ nm (sA u4 7 (ix r2) r5) (fun u6 : St => post r2 u6)))))
set_option maxHeartbeats 4000000 in
set_option maxRecDepth 20000 in
theorem z_X7_operator {X : XX} {ad : Nat → Nat} {cs : Nat → ClassId} {post : Int32 → St → Prop} (C : CxM X ad cs cX7_operator RX7 2 44) (hn : xnL X = 3) (hR : rtI X cX7_operator (wM ad cs) post) (u : St) (x1 : Int32) (hw : wp_X7_operator u x1 post) : Z X (wM ad cs u) 0 [(0, .ref (ad 0)), (1, .int x1)] [] := by
  unfold wp_X7_operator at hw
  refine z_aload_n C.1 dX7_operator_0 rfl 0 rfl ?_
  refine z_iconst (v := 5) C.1 dX7_operator_1 (by decide) ?_
  refine z_iload_n C.1 dX7_operator_2 rfl 1 rfl ?_
  refine k_X7_part C mM_X7_211 hw (by decide) (Nat.le_of_ble_eq_true rfl) dX7_operator_3 (fun r2 u1 hw => ?_)
  refine z_istore_n (lv' := [(2, .int r2), (0, .ref (ad 0)), (1, .int x1)]) C.1 dX7_operator_6 rfl (by rw [hn]; decide) rfl ?_
  refine z_aload_n C.1 dX7_operator_7 rfl 1 rfl ?_
  refine gM_0_right C mF_X7_165 dX7_operator_8 ?_
  refine z_if_eq (tgt := 24) C.1 dX7_operator_11 (by decide) (fun c3 => ?_) (fun c3 => ?_)
  · replace hw := hw.1 c3
    refine z_iload_n C.1 dX7_operator_24 rfl 0 rfl ?_
    exact hR _ _ _ _ dX7_operator_25 hw
  · replace hw := hw.2 c3
    refine z_aload_n C.1 dX7_operator_14 rfl 1 rfl ?_
    refine gM_0_firsts C mF_X7_29 dX7_operator_15 ?_
    refine z_iload_n C.1 dX7_operator_18 rfl 0 rfl ?_
    refine z_aload_n C.1 dX7_operator_19 rfl 1 rfl ?_
    refine k_X7_got C mM_X7_235 hw (by decide) (Nat.le_of_ble_eq_true rfl) dX7_operator_20 (fun r5 u4 hw => ?_)
    refine sM_7 C hw.1 dX7_operator_23 (fun u6 eu6 => ?_)
    replace hw := hw.2 u6 eu6
    refine z_iload_n C.1 dX7_operator_24 rfl 0 rfl ?_
    exact hR _ _ _ _ dX7_operator_25 hw
theorem c_X7_operator {l : Launch} {D : va_G} {A : Nat → Prop} {ad : Nat → Nat} {cs : Nat → ClassId} (hD : ∀ u : St, va_D A (wM ad cs u)) (u : St) (x1 : Int32) (post : Int32 → St → Prop) (hw : wp_X7_operator u x1 post) : MI (ad 90, ad 91) l yX7_operator cX7_operator 3 (some .int) (rmm 2 44) D (tysM cs) A (wM ad cs) u [.ref (ad 0), .int x1] post :=
  met_i (by decide) (Nat.le_of_ble_eq_true rfl) (fun X C _ _ ht hA hn hsg hR => z_X7_operator ⟨C, ht, fun u => by rw [hA]; exact hD u, hsg⟩ hn hR u x1 hw)
theorem k_X7_operator {X : XX} {ad : Nat → Nat} {cs : Nat → ClassId} {cc : ByteArray} {own : String} {fr lo pc : Nat} {lv : List (Nat × Value)} {st : List Value} {u : St} (C : CxM X ad cs cc own fr lo) {idx : Nat} {x1 : Int32} {P : Int32 → St → Prop} (hlink : Cond.methodLink own idx yX7_operator ∈ W0) (hw : wp_X7_operator u x1 P) (hr : 2 + 1 ≤ fr ∧ 8 + (3 + 11) + 44 ≤ lo) (hst : (st.map fun v => v.category).sum ≤ 8) (hdg : decode cc pc = .ok (.invokevirtual idx, 3)) (k : ∀ (r : Int32) (u2 : St), P r u2 → Z X (wM ad cs u2) (pc + 3) lv (.int r :: st)) : Z X (wM ad cs u) pc lv (.int x1 :: .ref (ad 0) :: st) :=
  z_callVi (wf := wM ad cs) (As := [.int x1]) (rest := st) C.1 1 (q0 := 0) mI_X7_operator mS_X7_operator rfl rfl (by rw [C.2.1, C.2.2.2]; exact c_X7_operator C.2.2.1 u x1 P hw) mC_X7_operator mZ_X7 (by decide +kernel) rfl hlink hr hst hdg k

def wp_X7_second (u : St) (x1 : Int32) (post : St → Prop) : Prop :=
  wp_X7_got u (fun (r2 : Int32) (u1 : St) => (vp_in x1 1440 ∧ nm (sA u1 8 (ix x1) r2) (fun u3 : St => wp_X7_give u3 x1 (fun (u4 : St) => post u4))))
set_option maxHeartbeats 4000000 in
set_option maxRecDepth 20000 in
theorem z_X7_second {X : XX} {ad : Nat → Nat} {cs : Nat → ClassId} {post : St → Prop} (C : CxM X ad cs cX7_second RX7 1 21) (hn : xnL X = 2) (hR : rtV X cX7_second (wM ad cs) post) (u : St) (x1 : Int32) (hw : wp_X7_second u x1 post) : Z X (wM ad cs u) 0 [(0, .ref (ad 0)), (1, .int x1)] [] := by
  unfold wp_X7_second at hw
  refine z_aload_n C.1 dX7_second_0 rfl 0 rfl ?_
  refine gM_0_seconds C mF_X7_32 dX7_second_1 ?_
  refine z_iload_n C.1 dX7_second_4 rfl 1 rfl ?_
  refine z_aload_n C.1 dX7_second_5 rfl 0 rfl ?_
  refine k_X7_got C mM_X7_235 hw (by decide) (Nat.le_of_ble_eq_true rfl) dX7_second_6 (fun r2 u1 hw => ?_)
  refine sM_8 C hw.1 dX7_second_9 (fun u3 eu3 => ?_)
  replace hw := hw.2 u3 eu3
  refine z_aload_n C.1 dX7_second_10 rfl 0 rfl ?_
  refine z_iload_n C.1 dX7_second_11 rfl 1 rfl ?_
  refine k_X7_give C mM_X7_222 hw (by decide) (Nat.le_of_ble_eq_true rfl) dX7_second_12 (fun u4 hw => ?_)
  exact hR _ _ _ dX7_second_15 hw
theorem c_X7_second {l : Launch} {D : va_G} {A : Nat → Prop} {ad : Nat → Nat} {cs : Nat → ClassId} (hD : ∀ u : St, va_D A (wM ad cs u)) (u : St) (x1 : Int32) (post : St → Prop) (hw : wp_X7_second u x1 post) : MV (ad 90, ad 91) l yX7_second cX7_second 2 none (rmm 1 21) D (tysM cs) A (wM ad cs) u [.ref (ad 0), .int x1] post :=
  met_v (by decide) (Nat.le_of_ble_eq_true rfl) (fun X C _ _ ht hA hn hsg hR => z_X7_second ⟨C, ht, fun u => by rw [hA]; exact hD u, hsg⟩ hn hR u x1 hw)
theorem k_X7_second {X : XX} {ad : Nat → Nat} {cs : Nat → ClassId} {cc : ByteArray} {own : String} {fr lo pc : Nat} {lv : List (Nat × Value)} {st : List Value} {u : St} (C : CxM X ad cs cc own fr lo) {idx : Nat} {x1 : Int32} {P : St → Prop} (hlink : Cond.methodLink own idx yX7_second ∈ W0) (hw : wp_X7_second u x1 P) (hr : 1 + 1 ≤ fr ∧ 8 + (2 + 11) + 21 ≤ lo) (hst : (st.map fun v => v.category).sum ≤ 8) (hdg : decode cc pc = .ok (.invokevirtual idx, 3)) (k : ∀ (u2 : St), P u2 → Z X (wM ad cs u2) (pc + 3) lv st) : Z X (wM ad cs u) pc lv (.int x1 :: .ref (ad 0) :: st) :=
  z_callVv (wf := wM ad cs) (As := [.int x1]) (rest := st) C.1 1 (q0 := 0) mI_X7_second mS_X7_second rfl rfl (by rw [C.2.1, C.2.2.2]; exact c_X7_second C.2.2.1 u x1 P hw) mC_X7_second mZ_X7 (by decide +kernel) rfl hlink hr hst hdg k

def wp_X7_rest_105 (u : St) (post : St → Prop) : Prop :=
  wp_X7_later u 18 0 (fun (u52 : St) => post u52)
set_option maxHeartbeats 4000000 in
set_option maxRecDepth 20000 in
theorem z_X7_rest_105 {X : XX} {ad : Nat → Nat} {cs : Nat → ClassId} {post : St → Prop} (C : CxM X ad cs cX7_rest RX7 7 153) (hn : xnL X = 4) (hR : rtV X cX7_rest (wM ad cs) post) (u : St) (hw : wp_X7_rest_105 u post) : Z X (wM ad cs u) 105 [(0, .ref (ad 0))] [] := by
  unfold wp_X7_rest_105 at hw
  refine z_aload_n C.1 dX7_rest_105 rfl 0 rfl ?_
  refine z_bipush (v := 18) C.1 dX7_rest_106 (by decide) ?_
  refine z_iconst (v := 0) C.1 dX7_rest_108 (by decide) ?_
  refine k_X7_later C mM_X7_215 hw (by decide) (Nat.le_of_ble_eq_true rfl) dX7_rest_109 (fun u52 hw => ?_)
  refine z_goto (tgt := 283) C.1 dX7_rest_112 (by decide) ?_
  exact hR _ _ _ dX7_rest_283 hw
def wp_X7_rest_64 (u : St) (x1 : Int32) (x2 : Int32) (y0 : Int32) (post : St → Prop) : Prop :=
  wp_X7_isSign u y0 (fun (r45 : Int32) (u44 : St) => wp_X7_need u44 r45 (fun (u46 : St) => br ((gI u46 13) = 0) (post u46) (wp_X7_go u46 (fun (u48 : St) => br (x1 = 19) (wp_X7_second u48 x2 (fun (u51 : St) => wp_X7_rest_105 u51 post)) (nm (sI u48 14 ((gI u48 14) - 1)) (fun u50 : St => wp_X7_rest_105 u50 post))))))
set_option maxHeartbeats 4000000 in
set_option maxRecDepth 20000 in
theorem z_X7_rest_64 {X : XX} {ad : Nat → Nat} {cs : Nat → ClassId} {post : St → Prop} (C : CxM X ad cs cX7_rest RX7 7 153) (hn : xnL X = 4) (hR : rtV X cX7_rest (wM ad cs) post) (u : St) (x1 : Int32) (x2 : Int32) (y0 : Int32) (hw : wp_X7_rest_64 u x1 x2 y0 post) : Z X (wM ad cs u) 64 [(0, .ref (ad 0)), (1, .int x1), (2, .int x2)] [.int y0, .ref (ad 0), .ref (ad 0)] := by
  unfold wp_X7_rest_64 at hw
  refine k_X7_isSign C mM_X7_172 hw (by decide) (Nat.le_of_ble_eq_true rfl) dX7_rest_64 (fun r45 u44 hw => ?_)
  refine k_X7_need C mM_X7_191 hw (by decide) (Nat.le_of_ble_eq_true rfl) dX7_rest_67 (fun u46 hw => ?_)
  refine z_aload_n C.1 dX7_rest_70 rfl 0 rfl ?_
  refine gM_0_right C mF_X7_165 dX7_rest_71 ?_
  refine z_if_eq (tgt := 283) C.1 dX7_rest_74 (by decide) (fun c47 => ?_) (fun c47 => ?_)
  · replace hw := hw.1 c47
    exact hR _ _ _ dX7_rest_283 hw
  · replace hw := hw.2 c47
    refine z_aload_n C.1 dX7_rest_77 rfl 0 rfl ?_
    refine k_X7_go C mM_X7_175 hw (by decide) (Nat.le_of_ble_eq_true rfl) dX7_rest_78 (fun u48 hw => ?_)
    refine z_iload_n C.1 dX7_rest_81 rfl 1 rfl ?_
    refine z_bipush (v := 19) C.1 dX7_rest_82 (by decide) ?_
    refine z_icmp_ne (tgt := 95) C.1 dX7_rest_84 (by decide) (fun c49 => ?_) (fun c49 => ?_)
    · replace hw := hw.2 c49
      refine z_aload_n C.1 dX7_rest_95 rfl 0 rfl ?_
      refine z_dup C.1 dX7_rest_96 rfl ?_
      refine gM_0_brackets C mF_X7_219 dX7_rest_97 ?_
      refine z_iconst (v := 1) C.1 dX7_rest_100 (by decide) ?_
      refine z_isub C.1 dX7_rest_101 ?_
      refine pM_0_brackets C mF_X7_219 dX7_rest_102 (fun u50 eu50 => ?_)
      replace hw := hw u50 eu50
      refine z_lv [0] rfl ?_
      exact z_X7_rest_105 C hn hR _ hw
    · replace hw := hw.1 c49
      refine z_aload_n C.1 dX7_rest_87 rfl 0 rfl ?_
      refine z_iload_n C.1 dX7_rest_88 rfl 2 rfl ?_
      refine k_X7_second C mM_X7_247 hw (by decide) (Nat.le_of_ble_eq_true rfl) dX7_rest_89 (fun u51 hw => ?_)
      refine z_goto (tgt := 105) C.1 dX7_rest_92 (by decide) ?_
      refine z_lv [0] rfl ?_
      exact z_X7_rest_105 C hn hR _ hw
def wp_X7_rest_49 (u : St) (x1 : Int32) (x2 : Int32) (post : St → Prop) : Prop :=
  br (x1 = 17) (wp_X7_rest_64 u x1 x2 41 post) (wp_X7_rest_64 u x1 x2 93 post)
set_option maxHeartbeats 4000000 in
set_option maxRecDepth 20000 in
theorem z_X7_rest_49 {X : XX} {ad : Nat → Nat} {cs : Nat → ClassId} {post : St → Prop} (C : CxM X ad cs cX7_rest RX7 7 153) (hn : xnL X = 4) (hR : rtV X cX7_rest (wM ad cs) post) (u : St) (x1 : Int32) (x2 : Int32) (hw : wp_X7_rest_49 u x1 x2 post) : Z X (wM ad cs u) 49 [(0, .ref (ad 0)), (1, .int x1), (2, .int x2)] [] := by
  unfold wp_X7_rest_49 at hw
  refine z_aload_n C.1 dX7_rest_49 rfl 0 rfl ?_
  refine z_aload_n C.1 dX7_rest_50 rfl 0 rfl ?_
  refine z_iload_n C.1 dX7_rest_51 rfl 1 rfl ?_
  refine z_bipush (v := 17) C.1 dX7_rest_52 (by decide) ?_
  refine z_icmp_ne (tgt := 62) C.1 dX7_rest_54 (by decide) (fun c43 => ?_) (fun c43 => ?_)
  · replace hw := hw.2 c43
    refine z_bipush (v := 93) C.1 dX7_rest_62 (by decide) ?_
    refine z_lv [0, 1, 2] rfl ?_
    exact z_X7_rest_64 C hn hR _ _ _ _ hw
  · replace hw := hw.1 c43
    refine z_bipush (v := 41) C.1 dX7_rest_57 (by decide) ?_
    refine z_goto (tgt := 64) C.1 dX7_rest_59 (by decide) ?_
    refine z_lv [0, 1, 2] rfl ?_
    exact z_X7_rest_64 C hn hR _ _ _ _ hw
def wp_X7_rest_229 (u : St) (x2 : Int32) (post : St → Prop) : Prop :=
  br ((gI u 13) = 0) (post u) ((vp_in x2 1440 ∧ nm (sA u 12 (ix x2) (gI u 4)) (fun u36 : St => wp_X7_nameOf u36 (fun (r38 : Int64) (u37 : St) => (vp_in x2 1440 ∧ nm (sB u37 19 (ix x2) r38) (fun u39 : St => (vp_in x2 1440 ∧ nm (sA u39 13 (ix x2) 2) (fun u40 : St => wp_X7_go u40 (fun (u41 : St) => wp_X7_closed u41 x2 21 (fun (u42 : St) => post u42))))))))))
set_option maxHeartbeats 4000000 in
set_option maxRecDepth 20000 in
theorem z_X7_rest_229 {X : XX} {ad : Nat → Nat} {cs : Nat → ClassId} {post : St → Prop} (C : CxM X ad cs cX7_rest RX7 7 153) (hn : xnL X = 4) (hR : rtV X cX7_rest (wM ad cs) post) (u : St) (x2 : Int32) (hw : wp_X7_rest_229 u x2 post) : Z X (wM ad cs u) 229 [(0, .ref (ad 0)), (2, .int x2)] [] := by
  unfold wp_X7_rest_229 at hw
  refine z_aload_n C.1 dX7_rest_229 rfl 0 rfl ?_
  refine gM_0_right C mF_X7_165 dX7_rest_230 ?_
  refine z_if_eq (tgt := 283) C.1 dX7_rest_233 (by decide) (fun c35 => ?_) (fun c35 => ?_)
  · replace hw := hw.1 c35
    exact hR _ _ _ dX7_rest_283 hw
  · replace hw := hw.2 c35
    refine z_aload_n C.1 dX7_rest_236 rfl 0 rfl ?_
    refine gM_0_places C mF_X7_44 dX7_rest_237 ?_
    refine z_iload_n C.1 dX7_rest_240 rfl 1 rfl ?_
    refine z_aload_n C.1 dX7_rest_241 rfl 0 rfl ?_
    refine gM_0_at C mF_X7_132 dX7_rest_242 ?_
    refine sM_12 C hw.1 dX7_rest_245 (fun u36 eu36 => ?_)
    replace hw := hw.2 u36 eu36
    refine z_aload_n C.1 dX7_rest_246 rfl 0 rfl ?_
    refine gM_0_calledNames C mF_X7_66 dX7_rest_247 ?_
    refine z_iload_n C.1 dX7_rest_250 rfl 1 rfl ?_
    refine z_aload_n C.1 dX7_rest_251 rfl 0 rfl ?_
    refine k_X7_nameOf C mM_X7_204 hw (by decide) (Nat.le_of_ble_eq_true rfl) dX7_rest_252 (fun r38 u37 hw => ?_)
    refine sM_19 C hw.1 dX7_rest_255 (fun u39 eu39 => ?_)
    replace hw := hw.2 u39 eu39
    refine z_aload_n C.1 dX7_rest_256 rfl 0 rfl ?_
    refine gM_0_calledArities C mF_X7_47 dX7_rest_257 ?_
    refine z_iload_n C.1 dX7_rest_260 rfl 1 rfl ?_
    refine z_iconst (v := 2) C.1 dX7_rest_261 (by decide) ?_
    refine sM_13 C hw.1 dX7_rest_262 (fun u40 eu40 => ?_)
    replace hw := hw.2 u40 eu40
    refine z_aload_n C.1 dX7_rest_263 rfl 0 rfl ?_
    refine k_X7_go C mM_X7_175 hw (by decide) (Nat.le_of_ble_eq_true rfl) dX7_rest_264 (fun u41 hw => ?_)
    refine z_aload_n C.1 dX7_rest_267 rfl 0 rfl ?_
    refine z_iload_n C.1 dX7_rest_268 rfl 1 rfl ?_
    refine z_bipush (v := 21) C.1 dX7_rest_269 (by decide) ?_
    refine k_X7_closed C mM_X7_241 hw (by decide) (Nat.le_of_ble_eq_true rfl) dX7_rest_271 (fun u42 hw => ?_)
    refine z_goto (tgt := 283) C.1 dX7_rest_274 (by decide) ?_
    exact hR _ _ _ dX7_rest_283 hw
def wp_X7_rest_226 (u : St) (x2 : Int32) (y0 : Int32) (post : St → Prop) : Prop :=
  wp_X7_need u y0 (fun (u34 : St) => wp_X7_rest_229 u34 x2 post)
set_option maxHeartbeats 4000000 in
set_option maxRecDepth 20000 in
theorem z_X7_rest_226 {X : XX} {ad : Nat → Nat} {cs : Nat → ClassId} {post : St → Prop} (C : CxM X ad cs cX7_rest RX7 7 153) (hn : xnL X = 4) (hR : rtV X cX7_rest (wM ad cs) post) (u : St) (x2 : Int32) (y0 : Int32) (hw : wp_X7_rest_226 u x2 y0 post) : Z X (wM ad cs u) 226 [(0, .ref (ad 0)), (2, .int x2)] [.int y0, .ref (ad 0)] := by
  unfold wp_X7_rest_226 at hw
  refine k_X7_need C mM_X7_191 hw (by decide) (Nat.le_of_ble_eq_true rfl) dX7_rest_226 (fun u34 hw => ?_)
  refine z_lv [0, 1] rfl ?_
  exact z_X7_rest_229 C hn hR _ _ hw
def wp_X7_rest_155 (u : St) (x3 : Int32) (post : St → Prop) : Prop :=
  wp_X7_go u (fun (u31 : St) => wp_X7_later u31 19 x3 (fun (u32 : St) => wp_X7_later u32 1 0 (fun (u33 : St) => post u33)))
set_option maxHeartbeats 4000000 in
set_option maxRecDepth 20000 in
theorem z_X7_rest_155 {X : XX} {ad : Nat → Nat} {cs : Nat → ClassId} {post : St → Prop} (C : CxM X ad cs cX7_rest RX7 7 153) (hn : xnL X = 4) (hR : rtV X cX7_rest (wM ad cs) post) (u : St) (x3 : Int32) (hw : wp_X7_rest_155 u x3 post) : Z X (wM ad cs u) 155 [(0, .ref (ad 0)), (3, .int x3)] [] := by
  unfold wp_X7_rest_155 at hw
  refine z_aload_n C.1 dX7_rest_155 rfl 0 rfl ?_
  refine k_X7_go C mM_X7_175 hw (by decide) (Nat.le_of_ble_eq_true rfl) dX7_rest_156 (fun u31 hw => ?_)
  refine z_aload_n C.1 dX7_rest_159 rfl 0 rfl ?_
  refine z_bipush (v := 19) C.1 dX7_rest_160 (by decide) ?_
  refine z_iload_n C.1 dX7_rest_162 rfl 1 rfl ?_
  refine k_X7_later C mM_X7_215 hw (by decide) (Nat.le_of_ble_eq_true rfl) dX7_rest_163 (fun u32 hw => ?_)
  refine z_aload_n C.1 dX7_rest_166 rfl 0 rfl ?_
  refine z_iconst (v := 1) C.1 dX7_rest_167 (by decide) ?_
  refine z_iconst (v := 0) C.1 dX7_rest_168 (by decide) ?_
  refine k_X7_later C mM_X7_215 hw (by decide) (Nat.le_of_ble_eq_true rfl) dX7_rest_169 (fun u33 hw => ?_)
  refine z_goto (tgt := 283) C.1 dX7_rest_172 (by decide) ?_
  exact hR _ _ _ dX7_rest_283 hw
def wp_X7_rest (u : St) (x1 : Int32) (x2 : Int32) (post : St → Prop) : Prop :=
  br (x1 = 15) (wp_X7_factor u (fun (u30 : St) => post u30)) (br (x1 = 16) (wp_X7_got u (fun (r27 : Int32) (u26 : St) => (vp_in x2 1440 ∧ nm (sA u26 7 (ix x2) r27) (fun u28 : St => wp_X7_give u28 x2 (fun (u29 : St) => post u29))))) (br (x1 = 17) (wp_X7_rest_49 u x1 x2 post) (br (x1 = 19) (wp_X7_rest_49 u x1 x2 post) (br (x1 = 18) (wp_X7_isSign u 91 (fun (r18 : Int32) (u17 : St) => br (r18 = 0) (post u17) (wp_X7_part u17 10 0 (fun (r21 : Int32) (u20 : St) => br ((gI u20 13) = 0) (wp_X7_rest_155 u20 r21 post) (wp_X7_got u20 (fun (r24 : Int32) (u23 : St) => (vp_in r21 1440 ∧ nm (sA u23 7 (ix r21) r24) (fun u25 : St => wp_X7_rest_155 u25 r21 post)))))))) (br (x1 = 20) (wp_X7_isSign u 44 (fun (r9 : Int32) (u8 : St) => wp_X7_need u8 r9 (fun (u10 : St) => br ((gI u10 13) = 0) (wp_X7_rest_229 u10 x2 post) (wp_X7_got u10 (fun (r13 : Int32) (u12 : St) => (vp_in x2 1440 ∧ nm (sA u12 7 (ix x2) r13) (fun u14 : St => wp_X7_go u14 (fun (u15 : St) => br ((gI u15 6) = 1) (wp_X7_rest_226 u15 x2 1 post) (wp_X7_rest_226 u15 x2 0 post))))))))) (wp_X7_listed u x2 x1 (fun (u7 : St) => post u7)))))))
set_option maxHeartbeats 4000000 in
set_option maxRecDepth 20000 in
theorem z_X7_rest {X : XX} {ad : Nat → Nat} {cs : Nat → ClassId} {post : St → Prop} (C : CxM X ad cs cX7_rest RX7 7 153) (hn : xnL X = 4) (hR : rtV X cX7_rest (wM ad cs) post) (u : St) (x1 : Int32) (x2 : Int32) (hw : wp_X7_rest u x1 x2 post) : Z X (wM ad cs u) 0 [(0, .ref (ad 0)), (1, .int x1), (2, .int x2)] [] := by
  unfold wp_X7_rest at hw
  refine z_iload_n C.1 dX7_rest_0 rfl 1 rfl ?_
  refine z_bipush (v := 15) C.1 dX7_rest_1 (by decide) ?_
  refine z_icmp_ne (tgt := 13) C.1 dX7_rest_3 (by decide) (fun c1 => ?_) (fun c1 => ?_)
  · replace hw := hw.2 c1
    refine z_iload_n C.1 dX7_rest_13 rfl 1 rfl ?_
    refine z_bipush (v := 16) C.1 dX7_rest_14 (by decide) ?_
    refine z_icmp_ne (tgt := 37) C.1 dX7_rest_16 (by decide) (fun c2 => ?_) (fun c2 => ?_)
    · replace hw := hw.2 c2
      refine z_iload_n C.1 dX7_rest_37 rfl 1 rfl ?_
      refine z_bipush (v := 17) C.1 dX7_rest_38 (by decide) ?_
      refine z_icmp_eq (tgt := 49) C.1 dX7_rest_40 (by decide) (fun c3 => ?_) (fun c3 => ?_)
      · replace hw := hw.1 c3
        refine z_lv [0, 1, 2] rfl ?_
        exact z_X7_rest_49 C hn hR _ _ _ hw
      · replace hw := hw.2 c3
        refine z_iload_n C.1 dX7_rest_43 rfl 1 rfl ?_
        refine z_bipush (v := 19) C.1 dX7_rest_44 (by decide) ?_
        refine z_icmp_ne (tgt := 115) C.1 dX7_rest_46 (by decide) (fun c4 => ?_) (fun c4 => ?_)
        · replace hw := hw.2 c4
          refine z_iload_n C.1 dX7_rest_115 rfl 1 rfl ?_
          refine z_bipush (v := 18) C.1 dX7_rest_116 (by decide) ?_
          refine z_icmp_ne (tgt := 175) C.1 dX7_rest_118 (by decide) (fun c5 => ?_) (fun c5 => ?_)
          · replace hw := hw.2 c5
            refine z_iload_n C.1 dX7_rest_175 rfl 1 rfl ?_
            refine z_bipush (v := 20) C.1 dX7_rest_176 (by decide) ?_
            refine z_icmp_ne (tgt := 277) C.1 dX7_rest_178 (by decide) (fun c6 => ?_) (fun c6 => ?_)
            · replace hw := hw.2 c6
              refine z_aload_n C.1 dX7_rest_277 rfl 0 rfl ?_
              refine z_iload_n C.1 dX7_rest_278 rfl 2 rfl ?_
              refine z_iload_n C.1 dX7_rest_279 rfl 1 rfl ?_
              refine k_X7_listed C mM_X7_263 hw (by decide) (Nat.le_of_ble_eq_true rfl) dX7_rest_280 (fun u7 hw => ?_)
              exact hR _ _ _ dX7_rest_283 hw
            · replace hw := hw.1 c6
              refine z_aload_n C.1 dX7_rest_181 rfl 0 rfl ?_
              refine z_aload_n C.1 dX7_rest_182 rfl 0 rfl ?_
              refine z_bipush (v := 44) C.1 dX7_rest_183 (by decide) ?_
              refine k_X7_isSign C mM_X7_172 hw (by decide) (Nat.le_of_ble_eq_true rfl) dX7_rest_185 (fun r9 u8 hw => ?_)
              refine k_X7_need C mM_X7_191 hw (by decide) (Nat.le_of_ble_eq_true rfl) dX7_rest_188 (fun u10 hw => ?_)
              refine z_aload_n C.1 dX7_rest_191 rfl 0 rfl ?_
              refine gM_0_right C mF_X7_165 dX7_rest_192 ?_
              refine z_if_eq (tgt := 229) C.1 dX7_rest_195 (by decide) (fun c11 => ?_) (fun c11 => ?_)
              · replace hw := hw.1 c11
                refine z_lv [0, 2] rfl ?_
                exact z_X7_rest_229 C hn hR _ _ hw
              · replace hw := hw.2 c11
                refine z_aload_n C.1 dX7_rest_198 rfl 0 rfl ?_
                refine gM_0_firsts C mF_X7_29 dX7_rest_199 ?_
                refine z_iload_n C.1 dX7_rest_202 rfl 2 rfl ?_
                refine z_aload_n C.1 dX7_rest_203 rfl 0 rfl ?_
                refine k_X7_got C mM_X7_235 hw (by decide) (Nat.le_of_ble_eq_true rfl) dX7_rest_204 (fun r13 u12 hw => ?_)
                refine sM_7 C hw.1 dX7_rest_207 (fun u14 eu14 => ?_)
                replace hw := hw.2 u14 eu14
                refine z_aload_n C.1 dX7_rest_208 rfl 0 rfl ?_
                refine k_X7_go C mM_X7_175 hw (by decide) (Nat.le_of_ble_eq_true rfl) dX7_rest_209 (fun u15 hw => ?_)
                refine z_aload_n C.1 dX7_rest_212 rfl 0 rfl ?_
                refine z_aload_n C.1 dX7_rest_213 rfl 0 rfl ?_
                refine gM_0_token C mF_X7_142 dX7_rest_214 ?_
                refine z_iconst (v := 1) C.1 dX7_rest_217 (by decide) ?_
                refine z_icmp_ne (tgt := 225) C.1 dX7_rest_218 (by decide) (fun c16 => ?_) (fun c16 => ?_)
                · replace hw := hw.2 c16
                  refine z_iconst (v := 0) C.1 dX7_rest_225 (by decide) ?_
                  refine z_lv [0, 2] rfl ?_
                  exact z_X7_rest_226 C hn hR _ _ _ hw
                · replace hw := hw.1 c16
                  refine z_iconst (v := 1) C.1 dX7_rest_221 (by decide) ?_
                  refine z_goto (tgt := 226) C.1 dX7_rest_222 (by decide) ?_
                  refine z_lv [0, 2] rfl ?_
                  exact z_X7_rest_226 C hn hR _ _ _ hw
          · replace hw := hw.1 c5
            refine z_aload_n C.1 dX7_rest_121 rfl 0 rfl ?_
            refine z_bipush (v := 91) C.1 dX7_rest_122 (by decide) ?_
            refine k_X7_isSign C mM_X7_172 hw (by decide) (Nat.le_of_ble_eq_true rfl) dX7_rest_124 (fun r18 u17 hw => ?_)
            refine z_if_eq (tgt := 283) C.1 dX7_rest_127 (by decide) (fun c19 => ?_) (fun c19 => ?_)
            · replace hw := hw.1 c19
              exact hR _ _ _ dX7_rest_283 hw
            · replace hw := hw.2 c19
              refine z_aload_n C.1 dX7_rest_130 rfl 0 rfl ?_
              refine z_bipush (v := 10) C.1 dX7_rest_131 (by decide) ?_
              refine z_iconst (v := 0) C.1 dX7_rest_133 (by decide) ?_
              refine k_X7_part C mM_X7_211 hw (by decide) (Nat.le_of_ble_eq_true rfl) dX7_rest_134 (fun r21 u20 hw => ?_)
              refine z_istore_n (lv' := [(3, .int r21), (0, .ref (ad 0)), (1, .int x1), (2, .int x2)]) C.1 dX7_rest_137 rfl (by rw [hn]; decide) rfl ?_
              refine z_aload_n C.1 dX7_rest_138 rfl 1 rfl ?_
              refine gM_0_right C mF_X7_165 dX7_rest_139 ?_
              refine z_if_eq (tgt := 155) C.1 dX7_rest_142 (by decide) (fun c22 => ?_) (fun c22 => ?_)
              · replace hw := hw.1 c22
                refine z_lv [1, 0] rfl ?_
                exact z_X7_rest_155 C hn hR _ _ hw
              · replace hw := hw.2 c22
                refine z_aload_n C.1 dX7_rest_145 rfl 1 rfl ?_
                refine gM_0_firsts C mF_X7_29 dX7_rest_146 ?_
                refine z_iload_n C.1 dX7_rest_149 rfl 0 rfl ?_
                refine z_aload_n C.1 dX7_rest_150 rfl 1 rfl ?_
                refine k_X7_got C mM_X7_235 hw (by decide) (Nat.le_of_ble_eq_true rfl) dX7_rest_151 (fun r24 u23 hw => ?_)
                refine sM_7 C hw.1 dX7_rest_154 (fun u25 eu25 => ?_)
                replace hw := hw.2 u25 eu25
                refine z_lv [1, 0] rfl ?_
                exact z_X7_rest_155 C hn hR _ _ hw
        · replace hw := hw.1 c4
          refine z_lv [0, 1, 2] rfl ?_
          exact z_X7_rest_49 C hn hR _ _ _ hw
    · replace hw := hw.1 c2
      refine z_aload_n C.1 dX7_rest_19 rfl 0 rfl ?_
      refine gM_0_firsts C mF_X7_29 dX7_rest_20 ?_
      refine z_iload_n C.1 dX7_rest_23 rfl 2 rfl ?_
      refine z_aload_n C.1 dX7_rest_24 rfl 0 rfl ?_
      refine k_X7_got C mM_X7_235 hw (by decide) (Nat.le_of_ble_eq_true rfl) dX7_rest_25 (fun r27 u26 hw => ?_)
      refine sM_7 C hw.1 dX7_rest_28 (fun u28 eu28 => ?_)
      replace hw := hw.2 u28 eu28
      refine z_aload_n C.1 dX7_rest_29 rfl 0 rfl ?_
      refine z_iload_n C.1 dX7_rest_30 rfl 2 rfl ?_
      refine k_X7_give C mM_X7_222 hw (by decide) (Nat.le_of_ble_eq_true rfl) dX7_rest_31 (fun u29 hw => ?_)
      refine z_goto (tgt := 283) C.1 dX7_rest_34 (by decide) ?_
      exact hR _ _ _ dX7_rest_283 hw
  · replace hw := hw.1 c1
    refine z_aload_n C.1 dX7_rest_6 rfl 0 rfl ?_
    refine k_X7_factor C mM_X7_260 hw (by decide) (Nat.le_of_ble_eq_true rfl) dX7_rest_7 (fun u30 hw => ?_)
    refine z_goto (tgt := 283) C.1 dX7_rest_10 (by decide) ?_
    exact hR _ _ _ dX7_rest_283 hw
theorem c_X7_rest {l : Launch} {D : va_G} {A : Nat → Prop} {ad : Nat → Nat} {cs : Nat → ClassId} (hD : ∀ u : St, va_D A (wM ad cs u)) (u : St) (x1 : Int32) (x2 : Int32) (post : St → Prop) (hw : wp_X7_rest u x1 x2 post) : MV (ad 90, ad 91) l yX7_rest cX7_rest 4 none (rmm 7 153) D (tysM cs) A (wM ad cs) u [.ref (ad 0), .int x1, .int x2] post :=
  met_v (by decide) (Nat.le_of_ble_eq_true rfl) (fun X C _ _ ht hA hn hsg hR => z_X7_rest ⟨C, ht, fun u => by rw [hA]; exact hD u, hsg⟩ hn hR u x1 x2 hw)
theorem k_X7_rest {X : XX} {ad : Nat → Nat} {cs : Nat → ClassId} {cc : ByteArray} {own : String} {fr lo pc : Nat} {lv : List (Nat × Value)} {st : List Value} {u : St} (C : CxM X ad cs cc own fr lo) {idx : Nat} {x1 : Int32} {x2 : Int32} {P : St → Prop} (hlink : Cond.methodLink own idx yX7_rest ∈ W0) (hw : wp_X7_rest u x1 x2 P) (hr : 7 + 1 ≤ fr ∧ 8 + (4 + 11) + 153 ≤ lo) (hst : (st.map fun v => v.category).sum ≤ 8) (hdg : decode cc pc = .ok (.invokevirtual idx, 3)) (k : ∀ (u2 : St), P u2 → Z X (wM ad cs u2) (pc + 3) lv st) : Z X (wM ad cs u) pc lv (.int x2 :: .int x1 :: .ref (ad 0) :: st) :=
  z_callVv (wf := wM ad cs) (As := [.int x1, .int x2]) (rest := st) C.1 2 (q0 := 0) mI_X7_rest mS_X7_rest rfl rfl (by rw [C.2.1, C.2.2.2]; exact c_X7_rest C.2.2.1 u x1 x2 P hw) mC_X7_rest mZ_X7 (by decide +kernel) rfl hlink hr hst hdg k

def wp_X7_more_126 (u : St) (y0 : Int32) (post : St → Prop) : Prop :=
  wp_X7_later u y0 0 (fun (u56 : St) => post u56)
set_option maxHeartbeats 4000000 in
set_option maxRecDepth 20000 in
theorem z_X7_more_126 {X : XX} {ad : Nat → Nat} {cs : Nat → ClassId} {post : St → Prop} (C : CxM X ad cs cX7_more RX7 8 176) (hn : xnL X = 4) (hR : rtV X cX7_more (wM ad cs) post) (u : St) (y0 : Int32) (hw : wp_X7_more_126 u y0 post) : Z X (wM ad cs u) 126 [] [.int y0, .ref (ad 0)] := by
  unfold wp_X7_more_126 at hw
  refine z_iconst (v := 0) C.1 dX7_more_126 (by decide) ?_
  refine k_X7_later C mM_X7_215 hw (by decide) (Nat.le_of_ble_eq_true rfl) dX7_more_127 (fun u56 hw => ?_)
  refine z_goto (tgt := 304) C.1 dX7_more_130 (by decide) ?_
  exact hR _ _ _ dX7_more_304 hw
def wp_X7_more_108 (u : St) (x1 : Int32) (y0 : Int32) (post : St → Prop) : Prop :=
  wp_X7_later u y0 0 (fun (u54 : St) => br (x1 = 9) (wp_X7_more_126 u54 12 post) (wp_X7_more_126 u54 15 post))
set_option maxHeartbeats 4000000 in
set_option maxRecDepth 20000 in
theorem z_X7_more_108 {X : XX} {ad : Nat → Nat} {cs : Nat → ClassId} {post : St → Prop} (C : CxM X ad cs cX7_more RX7 8 176) (hn : xnL X = 4) (hR : rtV X cX7_more (wM ad cs) post) (u : St) (x1 : Int32) (y0 : Int32) (hw : wp_X7_more_108 u x1 y0 post) : Z X (wM ad cs u) 108 [(0, .ref (ad 0)), (1, .int x1)] [.int y0, .ref (ad 0)] := by
  unfold wp_X7_more_108 at hw
  refine z_iconst (v := 0) C.1 dX7_more_108 (by decide) ?_
  refine k_X7_later C mM_X7_215 hw (by decide) (Nat.le_of_ble_eq_true rfl) dX7_more_109 (fun u54 hw => ?_)
  refine z_aload_n C.1 dX7_more_112 rfl 0 rfl ?_
  refine z_iload_n C.1 dX7_more_113 rfl 1 rfl ?_
  refine z_bipush (v := 9) C.1 dX7_more_114 (by decide) ?_
  refine z_icmp_ne (tgt := 124) C.1 dX7_more_116 (by decide) (fun c55 => ?_) (fun c55 => ?_)
  · replace hw := hw.2 c55
    refine z_bipush (v := 15) C.1 dX7_more_124 (by decide) ?_
    refine z_lv [] rfl ?_
    exact z_X7_more_126 C hn hR _ _ hw
  · replace hw := hw.1 c55
    refine z_bipush (v := 12) C.1 dX7_more_119 (by decide) ?_
    refine z_goto (tgt := 126) C.1 dX7_more_121 (by decide) ?_
    refine z_lv [] rfl ?_
    exact z_X7_more_126 C hn hR _ _ hw
def wp_X7_more_94 (u : St) (x1 : Int32) (post : St → Prop) : Prop :=
  br (x1 = 9) (wp_X7_more_108 u x1 10 post) (wp_X7_more_108 u x1 13 post)
set_option maxHeartbeats 4000000 in
set_option maxRecDepth 20000 in
theorem z_X7_more_94 {X : XX} {ad : Nat → Nat} {cs : Nat → ClassId} {post : St → Prop} (C : CxM X ad cs cX7_more RX7 8 176) (hn : xnL X = 4) (hR : rtV X cX7_more (wM ad cs) post) (u : St) (x1 : Int32) (hw : wp_X7_more_94 u x1 post) : Z X (wM ad cs u) 94 [(0, .ref (ad 0)), (1, .int x1)] [] := by
  unfold wp_X7_more_94 at hw
  refine z_aload_n C.1 dX7_more_94 rfl 0 rfl ?_
  refine z_iload_n C.1 dX7_more_95 rfl 1 rfl ?_
  refine z_bipush (v := 9) C.1 dX7_more_96 (by decide) ?_
  refine z_icmp_ne (tgt := 106) C.1 dX7_more_98 (by decide) (fun c53 => ?_) (fun c53 => ?_)
  · replace hw := hw.2 c53
    refine z_bipush (v := 13) C.1 dX7_more_106 (by decide) ?_
    refine z_lv [0, 1] rfl ?_
    exact z_X7_more_108 C hn hR _ _ _ hw
  · replace hw := hw.1 c53
    refine z_bipush (v := 10) C.1 dX7_more_101 (by decide) ?_
    refine z_goto (tgt := 108) C.1 dX7_more_103 (by decide) ?_
    refine z_lv [0, 1] rfl ?_
    exact z_X7_more_108 C hn hR _ _ _ hw
def wp_X7_more_291 (u : St) (y0 : Int32) (post : St → Prop) : Prop :=
  wp_X7_later u y0 0 (fun (u52 : St) => post u52)
set_option maxHeartbeats 4000000 in
set_option maxRecDepth 20000 in
theorem z_X7_more_291 {X : XX} {ad : Nat → Nat} {cs : Nat → ClassId} {post : St → Prop} (C : CxM X ad cs cX7_more RX7 8 176) (hn : xnL X = 4) (hR : rtV X cX7_more (wM ad cs) post) (u : St) (y0 : Int32) (hw : wp_X7_more_291 u y0 post) : Z X (wM ad cs u) 291 [] [.int y0, .ref (ad 0)] := by
  unfold wp_X7_more_291 at hw
  refine z_iconst (v := 0) C.1 dX7_more_291 (by decide) ?_
  refine k_X7_later C mM_X7_215 hw (by decide) (Nat.le_of_ble_eq_true rfl) dX7_more_292 (fun u52 hw => ?_)
  refine z_goto (tgt := 304) C.1 dX7_more_295 (by decide) ?_
  exact hR _ _ _ dX7_more_304 hw
def wp_X7_more_272 (u : St) (x1 : Int32) (x2 : Int32) (post : St → Prop) : Prop :=
  wp_X7_second u x2 (fun (u50 : St) => br (x1 = 11) (wp_X7_more_291 u50 10 post) (wp_X7_more_291 u50 13 post))
set_option maxHeartbeats 4000000 in
set_option maxRecDepth 20000 in
theorem z_X7_more_272 {X : XX} {ad : Nat → Nat} {cs : Nat → ClassId} {post : St → Prop} (C : CxM X ad cs cX7_more RX7 8 176) (hn : xnL X = 4) (hR : rtV X cX7_more (wM ad cs) post) (u : St) (x1 : Int32) (x2 : Int32) (hw : wp_X7_more_272 u x1 x2 post) : Z X (wM ad cs u) 272 [(0, .ref (ad 0)), (1, .int x1), (2, .int x2)] [] := by
  unfold wp_X7_more_272 at hw
  refine z_aload_n C.1 dX7_more_272 rfl 0 rfl ?_
  refine z_iload_n C.1 dX7_more_273 rfl 2 rfl ?_
  refine k_X7_second C mM_X7_247 hw (by decide) (Nat.le_of_ble_eq_true rfl) dX7_more_274 (fun u50 hw => ?_)
  refine z_aload_n C.1 dX7_more_277 rfl 0 rfl ?_
  refine z_iload_n C.1 dX7_more_278 rfl 1 rfl ?_
  refine z_bipush (v := 11) C.1 dX7_more_279 (by decide) ?_
  refine z_icmp_ne (tgt := 289) C.1 dX7_more_281 (by decide) (fun c51 => ?_) (fun c51 => ?_)
  · replace hw := hw.2 c51
    refine z_bipush (v := 13) C.1 dX7_more_289 (by decide) ?_
    refine z_lv [] rfl ?_
    exact z_X7_more_291 C hn hR _ _ hw
  · replace hw := hw.1 c51
    refine z_bipush (v := 10) C.1 dX7_more_284 (by decide) ?_
    refine z_goto (tgt := 291) C.1 dX7_more_286 (by decide) ?_
    refine z_lv [] rfl ?_
    exact z_X7_more_291 C hn hR _ _ hw
def wp_X7_more_225 (u : St) (post : St → Prop) : Prop :=
  (vp_in (gI u 4) 1500 ∧ wp_X7_operator u (gA u 1 (ix (gI u 4))) (fun (r46 : Int32) (u45 : St) => wp_X7_go u45 (fun (u47 : St) => wp_X7_later u47 14 r46 (fun (u48 : St) => wp_X7_later u48 15 0 (fun (u49 : St) => post u49)))))
set_option maxHeartbeats 4000000 in
set_option maxRecDepth 20000 in
theorem z_X7_more_225 {X : XX} {ad : Nat → Nat} {cs : Nat → ClassId} {post : St → Prop} (C : CxM X ad cs cX7_more RX7 8 176) (hn : xnL X = 4) (hR : rtV X cX7_more (wM ad cs) post) (u : St) (hw : wp_X7_more_225 u post) : Z X (wM ad cs u) 225 [(0, .ref (ad 0))] [] := by
  unfold wp_X7_more_225 at hw
  refine z_aload_n C.1 dX7_more_225 rfl 0 rfl ?_
  refine z_aload_n C.1 dX7_more_226 rfl 0 rfl ?_
  refine gM_0_tape C mF_X7_7 dX7_more_227 ?_
  refine z_aload_n C.1 dX7_more_230 rfl 0 rfl ?_
  refine gM_0_at C mF_X7_132 dX7_more_231 ?_
  refine lM_1 C hw.1 dX7_more_234 ?_
  replace hw := hw.2
  refine k_X7_operator C mM_X7_253 hw (by decide) (Nat.le_of_ble_eq_true rfl) dX7_more_235 (fun r46 u45 hw => ?_)
  refine z_istore_n (lv' := [(3, .int r46), (0, .ref (ad 0))]) C.1 dX7_more_238 rfl (by rw [hn]; decide) rfl ?_
  refine z_aload_n C.1 dX7_more_239 rfl 1 rfl ?_
  refine k_X7_go C mM_X7_175 hw (by decide) (Nat.le_of_ble_eq_true rfl) dX7_more_240 (fun u47 hw => ?_)
  refine z_aload_n C.1 dX7_more_243 rfl 1 rfl ?_
  refine z_bipush (v := 14) C.1 dX7_more_244 (by decide) ?_
  refine z_iload_n C.1 dX7_more_246 rfl 0 rfl ?_
  refine k_X7_later C mM_X7_215 hw (by decide) (Nat.le_of_ble_eq_true rfl) dX7_more_247 (fun u48 hw => ?_)
  refine z_aload_n C.1 dX7_more_250 rfl 1 rfl ?_
  refine z_bipush (v := 15) C.1 dX7_more_251 (by decide) ?_
  refine z_iconst (v := 0) C.1 dX7_more_253 (by decide) ?_
  refine k_X7_later C mM_X7_215 hw (by decide) (Nat.le_of_ble_eq_true rfl) dX7_more_254 (fun u49 hw => ?_)
  refine z_goto (tgt := 304) C.1 dX7_more_257 (by decide) ?_
  exact hR _ _ _ dX7_more_304 hw
def wp_X7_more_157 (u : St) (post : St → Prop) : Prop :=
  (vp_in (gI u 4) 1500 ∧ wp_X7_operator u (gA u 1 (ix (gI u 4))) (fun (r41 : Int32) (u40 : St) => wp_X7_go u40 (fun (u42 : St) => wp_X7_later u42 11 r41 (fun (u43 : St) => wp_X7_later u43 12 0 (fun (u44 : St) => post u44)))))
set_option maxHeartbeats 4000000 in
set_option maxRecDepth 20000 in
theorem z_X7_more_157 {X : XX} {ad : Nat → Nat} {cs : Nat → ClassId} {post : St → Prop} (C : CxM X ad cs cX7_more RX7 8 176) (hn : xnL X = 4) (hR : rtV X cX7_more (wM ad cs) post) (u : St) (hw : wp_X7_more_157 u post) : Z X (wM ad cs u) 157 [(0, .ref (ad 0))] [] := by
  unfold wp_X7_more_157 at hw
  refine z_aload_n C.1 dX7_more_157 rfl 0 rfl ?_
  refine z_aload_n C.1 dX7_more_158 rfl 0 rfl ?_
  refine gM_0_tape C mF_X7_7 dX7_more_159 ?_
  refine z_aload_n C.1 dX7_more_162 rfl 0 rfl ?_
  refine gM_0_at C mF_X7_132 dX7_more_163 ?_
  refine lM_1 C hw.1 dX7_more_166 ?_
  replace hw := hw.2
  refine k_X7_operator C mM_X7_253 hw (by decide) (Nat.le_of_ble_eq_true rfl) dX7_more_167 (fun r41 u40 hw => ?_)
  refine z_istore_n (lv' := [(3, .int r41), (0, .ref (ad 0))]) C.1 dX7_more_170 rfl (by rw [hn]; decide) rfl ?_
  refine z_aload_n C.1 dX7_more_171 rfl 1 rfl ?_
  refine k_X7_go C mM_X7_175 hw (by decide) (Nat.le_of_ble_eq_true rfl) dX7_more_172 (fun u42 hw => ?_)
  refine z_aload_n C.1 dX7_more_175 rfl 1 rfl ?_
  refine z_bipush (v := 11) C.1 dX7_more_176 (by decide) ?_
  refine z_iload_n C.1 dX7_more_178 rfl 0 rfl ?_
  refine k_X7_later C mM_X7_215 hw (by decide) (Nat.le_of_ble_eq_true rfl) dX7_more_179 (fun u43 hw => ?_)
  refine z_aload_n C.1 dX7_more_182 rfl 1 rfl ?_
  refine z_bipush (v := 12) C.1 dX7_more_183 (by decide) ?_
  refine z_iconst (v := 0) C.1 dX7_more_185 (by decide) ?_
  refine k_X7_later C mM_X7_215 hw (by decide) (Nat.le_of_ble_eq_true rfl) dX7_more_186 (fun u44 hw => ?_)
  refine z_goto (tgt := 304) C.1 dX7_more_189 (by decide) ?_
  exact hR _ _ _ dX7_more_304 hw
def wp_X7_more_33 (u : St) (post : St → Prop) : Prop :=
  (vp_in (gI u 4) 1500 ∧ wp_X7_operator u (gA u 1 (ix (gI u 4))) (fun (r36 : Int32) (u35 : St) => wp_X7_go u35 (fun (u37 : St) => wp_X7_later u37 8 r36 (fun (u38 : St) => wp_X7_later u38 9 0 (fun (u39 : St) => post u39)))))
set_option maxHeartbeats 4000000 in
set_option maxRecDepth 20000 in
theorem z_X7_more_33 {X : XX} {ad : Nat → Nat} {cs : Nat → ClassId} {post : St → Prop} (C : CxM X ad cs cX7_more RX7 8 176) (hn : xnL X = 4) (hR : rtV X cX7_more (wM ad cs) post) (u : St) (hw : wp_X7_more_33 u post) : Z X (wM ad cs u) 33 [(0, .ref (ad 0))] [] := by
  unfold wp_X7_more_33 at hw
  refine z_aload_n C.1 dX7_more_33 rfl 0 rfl ?_
  refine z_aload_n C.1 dX7_more_34 rfl 0 rfl ?_
  refine gM_0_tape C mF_X7_7 dX7_more_35 ?_
  refine z_aload_n C.1 dX7_more_38 rfl 0 rfl ?_
  refine gM_0_at C mF_X7_132 dX7_more_39 ?_
  refine lM_1 C hw.1 dX7_more_42 ?_
  replace hw := hw.2
  refine k_X7_operator C mM_X7_253 hw (by decide) (Nat.le_of_ble_eq_true rfl) dX7_more_43 (fun r36 u35 hw => ?_)
  refine z_istore_n (lv' := [(3, .int r36), (0, .ref (ad 0))]) C.1 dX7_more_46 rfl (by rw [hn]; decide) rfl ?_
  refine z_aload_n C.1 dX7_more_47 rfl 1 rfl ?_
  refine k_X7_go C mM_X7_175 hw (by decide) (Nat.le_of_ble_eq_true rfl) dX7_more_48 (fun u37 hw => ?_)
  refine z_aload_n C.1 dX7_more_51 rfl 1 rfl ?_
  refine z_bipush (v := 8) C.1 dX7_more_52 (by decide) ?_
  refine z_iload_n C.1 dX7_more_54 rfl 0 rfl ?_
  refine k_X7_later C mM_X7_215 hw (by decide) (Nat.le_of_ble_eq_true rfl) dX7_more_55 (fun u38 hw => ?_)
  refine z_aload_n C.1 dX7_more_58 rfl 1 rfl ?_
  refine z_bipush (v := 9) C.1 dX7_more_59 (by decide) ?_
  refine z_iconst (v := 0) C.1 dX7_more_61 (by decide) ?_
  refine k_X7_later C mM_X7_215 hw (by decide) (Nat.le_of_ble_eq_true rfl) dX7_more_62 (fun u39 hw => ?_)
  refine z_goto (tgt := 304) C.1 dX7_more_65 (by decide) ?_
  exact hR _ _ _ dX7_more_304 hw
def wp_X7_more (u : St) (x1 : Int32) (x2 : Int32) (post : St → Prop) : Prop :=
  br (x1 = 7) (wp_X7_isSign u 60 (fun (r27 : Int32) (u26 : St) => br (r27 = 0) (wp_X7_isSign u26 61 (fun (r30 : Int32) (u29 : St) => br (r30 = 0) (wp_X7_isSign u29 62 (fun (r33 : Int32) (u32 : St) => br (r33 = 0) (post u32) (wp_X7_more_33 u32 post))) (wp_X7_more_33 u29 post))) (wp_X7_more_33 u26 post))) (br (x1 = 8) (wp_X7_second u x2 (fun (u25 : St) => post u25)) (br (x1 = 9) (wp_X7_more_94 u x1 post) (br (x1 = 12) (wp_X7_more_94 u x1 post) (br (x1 = 10) (wp_X7_isSign u 43 (fun (r20 : Int32) (u19 : St) => br (r20 = 0) (wp_X7_isSign u19 45 (fun (r23 : Int32) (u22 : St) => br (r23 = 0) (post u22) (wp_X7_more_157 u22 post))) (wp_X7_more_157 u19 post))) (br (x1 = 13) (wp_X7_isSign u 42 (fun (r11 : Int32) (u10 : St) => br (r11 = 0) (wp_X7_isSign u10 47 (fun (r14 : Int32) (u13 : St) => br (r14 = 0) (wp_X7_isSign u13 37 (fun (r17 : Int32) (u16 : St) => br (r17 = 0) (post u16) (wp_X7_more_225 u16 post))) (wp_X7_more_225 u13 post))) (wp_X7_more_225 u10 post))) (br (x1 = 11) (wp_X7_more_272 u x1 x2 post) (br (x1 = 14) (wp_X7_more_272 u x1 x2 post) (wp_X7_rest u x1 x2 (fun (u9 : St) => post u9)))))))))
set_option maxHeartbeats 4000000 in
set_option maxRecDepth 20000 in
theorem z_X7_more {X : XX} {ad : Nat → Nat} {cs : Nat → ClassId} {post : St → Prop} (C : CxM X ad cs cX7_more RX7 8 176) (hn : xnL X = 4) (hR : rtV X cX7_more (wM ad cs) post) (u : St) (x1 : Int32) (x2 : Int32) (hw : wp_X7_more u x1 x2 post) : Z X (wM ad cs u) 0 [(0, .ref (ad 0)), (1, .int x1), (2, .int x2)] [] := by
  unfold wp_X7_more at hw
  refine z_iload_n C.1 dX7_more_0 rfl 1 rfl ?_
  refine z_bipush (v := 7) C.1 dX7_more_1 (by decide) ?_
  refine z_icmp_ne (tgt := 68) C.1 dX7_more_3 (by decide) (fun c1 => ?_) (fun c1 => ?_)
  · replace hw := hw.2 c1
    refine z_iload_n C.1 dX7_more_68 rfl 1 rfl ?_
    refine z_bipush (v := 8) C.1 dX7_more_69 (by decide) ?_
    refine z_icmp_ne (tgt := 82) C.1 dX7_more_71 (by decide) (fun c2 => ?_) (fun c2 => ?_)
    · replace hw := hw.2 c2
      refine z_iload_n C.1 dX7_more_82 rfl 1 rfl ?_
      refine z_bipush (v := 9) C.1 dX7_more_83 (by decide) ?_
      refine z_icmp_eq (tgt := 94) C.1 dX7_more_85 (by decide) (fun c3 => ?_) (fun c3 => ?_)
      · replace hw := hw.1 c3
        refine z_lv [0, 1] rfl ?_
        exact z_X7_more_94 C hn hR _ _ hw
      · replace hw := hw.2 c3
        refine z_iload_n C.1 dX7_more_88 rfl 1 rfl ?_
        refine z_bipush (v := 12) C.1 dX7_more_89 (by decide) ?_
        refine z_icmp_ne (tgt := 133) C.1 dX7_more_91 (by decide) (fun c4 => ?_) (fun c4 => ?_)
        · replace hw := hw.2 c4
          refine z_iload_n C.1 dX7_more_133 rfl 1 rfl ?_
          refine z_bipush (v := 10) C.1 dX7_more_134 (by decide) ?_
          refine z_icmp_ne (tgt := 192) C.1 dX7_more_136 (by decide) (fun c5 => ?_) (fun c5 => ?_)
          · replace hw := hw.2 c5
            refine z_iload_n C.1 dX7_more_192 rfl 1 rfl ?_
            refine z_bipush (v := 13) C.1 dX7_more_193 (by decide) ?_
            refine z_icmp_ne (tgt := 260) C.1 dX7_more_195 (by decide) (fun c6 => ?_) (fun c6 => ?_)
            · replace hw := hw.2 c6
              refine z_iload_n C.1 dX7_more_260 rfl 1 rfl ?_
              refine z_bipush (v := 11) C.1 dX7_more_261 (by decide) ?_
              refine z_icmp_eq (tgt := 272) C.1 dX7_more_263 (by decide) (fun c7 => ?_) (fun c7 => ?_)
              · replace hw := hw.1 c7
                refine z_lv [0, 1, 2] rfl ?_
                exact z_X7_more_272 C hn hR _ _ _ hw
              · replace hw := hw.2 c7
                refine z_iload_n C.1 dX7_more_266 rfl 1 rfl ?_
                refine z_bipush (v := 14) C.1 dX7_more_267 (by decide) ?_
                refine z_icmp_ne (tgt := 298) C.1 dX7_more_269 (by decide) (fun c8 => ?_) (fun c8 => ?_)
                · replace hw := hw.2 c8
                  refine z_aload_n C.1 dX7_more_298 rfl 0 rfl ?_
                  refine z_iload_n C.1 dX7_more_299 rfl 1 rfl ?_
                  refine z_iload_n C.1 dX7_more_300 rfl 2 rfl ?_
                  refine k_X7_rest C mM_X7_257 hw (by decide) (Nat.le_of_ble_eq_true rfl) dX7_more_301 (fun u9 hw => ?_)
                  exact hR _ _ _ dX7_more_304 hw
                · replace hw := hw.1 c8
                  refine z_lv [0, 1, 2] rfl ?_
                  exact z_X7_more_272 C hn hR _ _ _ hw
            · replace hw := hw.1 c6
              refine z_aload_n C.1 dX7_more_198 rfl 0 rfl ?_
              refine z_bipush (v := 42) C.1 dX7_more_199 (by decide) ?_
              refine k_X7_isSign C mM_X7_172 hw (by decide) (Nat.le_of_ble_eq_true rfl) dX7_more_201 (fun r11 u10 hw => ?_)
              refine z_if_ne (tgt := 225) C.1 dX7_more_204 (by decide) (fun c12 => ?_) (fun c12 => ?_)
              · replace hw := hw.2 c12
                refine z_lv [0] rfl ?_
                exact z_X7_more_225 C hn hR _ hw
              · replace hw := hw.1 c12
                refine z_aload_n C.1 dX7_more_207 rfl 0 rfl ?_
                refine z_bipush (v := 47) C.1 dX7_more_208 (by decide) ?_
                refine k_X7_isSign C mM_X7_172 hw (by decide) (Nat.le_of_ble_eq_true rfl) dX7_more_210 (fun r14 u13 hw => ?_)
                refine z_if_ne (tgt := 225) C.1 dX7_more_213 (by decide) (fun c15 => ?_) (fun c15 => ?_)
                · replace hw := hw.2 c15
                  refine z_lv [0] rfl ?_
                  exact z_X7_more_225 C hn hR _ hw
                · replace hw := hw.1 c15
                  refine z_aload_n C.1 dX7_more_216 rfl 0 rfl ?_
                  refine z_bipush (v := 37) C.1 dX7_more_217 (by decide) ?_
                  refine k_X7_isSign C mM_X7_172 hw (by decide) (Nat.le_of_ble_eq_true rfl) dX7_more_219 (fun r17 u16 hw => ?_)
                  refine z_if_eq (tgt := 304) C.1 dX7_more_222 (by decide) (fun c18 => ?_) (fun c18 => ?_)
                  · replace hw := hw.1 c18
                    exact hR _ _ _ dX7_more_304 hw
                  · replace hw := hw.2 c18
                    refine z_lv [0] rfl ?_
                    exact z_X7_more_225 C hn hR _ hw
          · replace hw := hw.1 c5
            refine z_aload_n C.1 dX7_more_139 rfl 0 rfl ?_
            refine z_bipush (v := 43) C.1 dX7_more_140 (by decide) ?_
            refine k_X7_isSign C mM_X7_172 hw (by decide) (Nat.le_of_ble_eq_true rfl) dX7_more_142 (fun r20 u19 hw => ?_)
            refine z_if_ne (tgt := 157) C.1 dX7_more_145 (by decide) (fun c21 => ?_) (fun c21 => ?_)
            · replace hw := hw.2 c21
              refine z_lv [0] rfl ?_
              exact z_X7_more_157 C hn hR _ hw
            · replace hw := hw.1 c21
              refine z_aload_n C.1 dX7_more_148 rfl 0 rfl ?_
              refine z_bipush (v := 45) C.1 dX7_more_149 (by decide) ?_
              refine k_X7_isSign C mM_X7_172 hw (by decide) (Nat.le_of_ble_eq_true rfl) dX7_more_151 (fun r23 u22 hw => ?_)
              refine z_if_eq (tgt := 304) C.1 dX7_more_154 (by decide) (fun c24 => ?_) (fun c24 => ?_)
              · replace hw := hw.1 c24
                exact hR _ _ _ dX7_more_304 hw
              · replace hw := hw.2 c24
                refine z_lv [0] rfl ?_
                exact z_X7_more_157 C hn hR _ hw
        · replace hw := hw.1 c4
          refine z_lv [0, 1] rfl ?_
          exact z_X7_more_94 C hn hR _ _ hw
    · replace hw := hw.1 c2
      refine z_aload_n C.1 dX7_more_74 rfl 0 rfl ?_
      refine z_iload_n C.1 dX7_more_75 rfl 2 rfl ?_
      refine k_X7_second C mM_X7_247 hw (by decide) (Nat.le_of_ble_eq_true rfl) dX7_more_76 (fun u25 hw => ?_)
      refine z_goto (tgt := 304) C.1 dX7_more_79 (by decide) ?_
      exact hR _ _ _ dX7_more_304 hw
  · replace hw := hw.1 c1
    refine z_aload_n C.1 dX7_more_6 rfl 0 rfl ?_
    refine z_bipush (v := 60) C.1 dX7_more_7 (by decide) ?_
    refine k_X7_isSign C mM_X7_172 hw (by decide) (Nat.le_of_ble_eq_true rfl) dX7_more_9 (fun r27 u26 hw => ?_)
    refine z_if_ne (tgt := 33) C.1 dX7_more_12 (by decide) (fun c28 => ?_) (fun c28 => ?_)
    · replace hw := hw.2 c28
      refine z_lv [0] rfl ?_
      exact z_X7_more_33 C hn hR _ hw
    · replace hw := hw.1 c28
      refine z_aload_n C.1 dX7_more_15 rfl 0 rfl ?_
      refine z_bipush (v := 61) C.1 dX7_more_16 (by decide) ?_
      refine k_X7_isSign C mM_X7_172 hw (by decide) (Nat.le_of_ble_eq_true rfl) dX7_more_18 (fun r30 u29 hw => ?_)
      refine z_if_ne (tgt := 33) C.1 dX7_more_21 (by decide) (fun c31 => ?_) (fun c31 => ?_)
      · replace hw := hw.2 c31
        refine z_lv [0] rfl ?_
        exact z_X7_more_33 C hn hR _ hw
      · replace hw := hw.1 c31
        refine z_aload_n C.1 dX7_more_24 rfl 0 rfl ?_
        refine z_bipush (v := 62) C.1 dX7_more_25 (by decide) ?_
        refine k_X7_isSign C mM_X7_172 hw (by decide) (Nat.le_of_ble_eq_true rfl) dX7_more_27 (fun r33 u32 hw => ?_)
        refine z_if_eq (tgt := 304) C.1 dX7_more_30 (by decide) (fun c34 => ?_) (fun c34 => ?_)
        · replace hw := hw.1 c34
          exact hR _ _ _ dX7_more_304 hw
        · replace hw := hw.2 c34
          refine z_lv [0] rfl ?_
          exact z_X7_more_33 C hn hR _ hw
theorem c_X7_more {l : Launch} {D : va_G} {A : Nat → Prop} {ad : Nat → Nat} {cs : Nat → ClassId} (hD : ∀ u : St, va_D A (wM ad cs u)) (u : St) (x1 : Int32) (x2 : Int32) (post : St → Prop) (hw : wp_X7_more u x1 x2 post) : MV (ad 90, ad 91) l yX7_more cX7_more 4 none (rmm 8 176) D (tysM cs) A (wM ad cs) u [.ref (ad 0), .int x1, .int x2] post :=
  met_v (by decide) (Nat.le_of_ble_eq_true rfl) (fun X C _ _ ht hA hn hsg hR => z_X7_more ⟨C, ht, fun u => by rw [hA]; exact hD u, hsg⟩ hn hR u x1 x2 hw)
theorem k_X7_more {X : XX} {ad : Nat → Nat} {cs : Nat → ClassId} {cc : ByteArray} {own : String} {fr lo pc : Nat} {lv : List (Nat × Value)} {st : List Value} {u : St} (C : CxM X ad cs cc own fr lo) {idx : Nat} {x1 : Int32} {x2 : Int32} {P : St → Prop} (hlink : Cond.methodLink own idx yX7_more ∈ W0) (hw : wp_X7_more u x1 x2 P) (hr : 8 + 1 ≤ fr ∧ 8 + (4 + 11) + 176 ≤ lo) (hst : (st.map fun v => v.category).sum ≤ 8) (hdg : decode cc pc = .ok (.invokevirtual idx, 3)) (k : ∀ (u2 : St), P u2 → Z X (wM ad cs u2) (pc + 3) lv st) : Z X (wM ad cs u) pc lv (.int x2 :: .int x1 :: .ref (ad 0) :: st) :=
  z_callVv (wf := wM ad cs) (As := [.int x1, .int x2]) (rest := st) C.1 2 (q0 := 0) mI_X7_more mS_X7_more rfl rfl (by rw [C.2.1, C.2.2.2]; exact c_X7_more C.2.2.1 u x1 x2 P hw) mC_X7_more mZ_X7 (by decide +kernel) rfl hlink hr hst hdg k

def wp_X7_step_95 (u : St) (x1 : Int32) (x2 : Int32) (post : St → Prop) : Prop :=
  wp_X7_later u (x1 + 1) x2 (fun (u41 : St) => wp_X7_later u41 1 0 (fun (u42 : St) => post u42))
set_option maxHeartbeats 4000000 in
set_option maxRecDepth 20000 in
theorem z_X7_step_95 {X : XX} {ad : Nat → Nat} {cs : Nat → ClassId} {post : St → Prop} (C : CxM X ad cs cX7_step RX7 9 199) (hn : xnL X = 3) (hR : rtV X cX7_step (wM ad cs) post) (u : St) (x1 : Int32) (x2 : Int32) (hw : wp_X7_step_95 u x1 x2 post) : Z X (wM ad cs u) 95 [(0, .ref (ad 0)), (1, .int x1), (2, .int x2)] [] := by
  unfold wp_X7_step_95 at hw
  refine z_aload_n C.1 dX7_step_95 rfl 0 rfl ?_
  refine z_iload_n C.1 dX7_step_96 rfl 1 rfl ?_
  refine z_iconst (v := 1) C.1 dX7_step_97 (by decide) ?_
  refine z_iadd C.1 dX7_step_98 ?_
  refine z_iload_n C.1 dX7_step_99 rfl 2 rfl ?_
  refine k_X7_later C mM_X7_215 hw (by decide) (Nat.le_of_ble_eq_true rfl) dX7_step_100 (fun u41 hw => ?_)
  refine z_aload_n C.1 dX7_step_103 rfl 0 rfl ?_
  refine z_iconst (v := 1) C.1 dX7_step_104 (by decide) ?_
  refine z_iconst (v := 0) C.1 dX7_step_105 (by decide) ?_
  refine k_X7_later C mM_X7_215 hw (by decide) (Nat.le_of_ble_eq_true rfl) dX7_step_106 (fun u42 hw => ?_)
  refine z_goto (tgt := 272) C.1 dX7_step_109 (by decide) ?_
  exact hR _ _ _ dX7_step_272 hw
def wp_X7_step_53 (u : St) (x1 : Int32) (x2 : Int32) (y0 : Int32) (post : St → Prop) : Prop :=
  wp_X7_need u y0 (fun (u31 : St) => br ((gI u31 13) = 0) (post u31) (wp_X7_go u31 (fun (u33 : St) => br (x1 = 2) (wp_X7_got u33 (fun (r39 : Int32) (u38 : St) => (vp_in x2 1440 ∧ nm (sA u38 7 (ix x2) r39) (fun u40 : St => wp_X7_step_95 u40 x1 x2 post)))) (wp_X7_got u33 (fun (r36 : Int32) (u35 : St) => (vp_in x2 1440 ∧ nm (sA u35 8 (ix x2) r36) (fun u37 : St => wp_X7_step_95 u37 x1 x2 post)))))))
set_option maxHeartbeats 4000000 in
set_option maxRecDepth 20000 in
theorem z_X7_step_53 {X : XX} {ad : Nat → Nat} {cs : Nat → ClassId} {post : St → Prop} (C : CxM X ad cs cX7_step RX7 9 199) (hn : xnL X = 3) (hR : rtV X cX7_step (wM ad cs) post) (u : St) (x1 : Int32) (x2 : Int32) (y0 : Int32) (hw : wp_X7_step_53 u x1 x2 y0 post) : Z X (wM ad cs u) 53 [(0, .ref (ad 0)), (1, .int x1), (2, .int x2)] [.int y0, .ref (ad 0)] := by
  unfold wp_X7_step_53 at hw
  refine k_X7_need C mM_X7_191 hw (by decide) (Nat.le_of_ble_eq_true rfl) dX7_step_53 (fun u31 hw => ?_)
  refine z_aload_n C.1 dX7_step_56 rfl 0 rfl ?_
  refine gM_0_right C mF_X7_165 dX7_step_57 ?_
  refine z_if_eq (tgt := 272) C.1 dX7_step_60 (by decide) (fun c32 => ?_) (fun c32 => ?_)
  · replace hw := hw.1 c32
    exact hR _ _ _ dX7_step_272 hw
  · replace hw := hw.2 c32
    refine z_aload_n C.1 dX7_step_63 rfl 0 rfl ?_
    refine k_X7_go C mM_X7_175 hw (by decide) (Nat.le_of_ble_eq_true rfl) dX7_step_64 (fun u33 hw => ?_)
    refine z_iload_n C.1 dX7_step_67 rfl 1 rfl ?_
    refine z_iconst (v := 2) C.1 dX7_step_68 (by decide) ?_
    refine z_icmp_ne (tgt := 85) C.1 dX7_step_69 (by decide) (fun c34 => ?_) (fun c34 => ?_)
    · replace hw := hw.2 c34
      refine z_aload_n C.1 dX7_step_85 rfl 0 rfl ?_
      refine gM_0_seconds C mF_X7_32 dX7_step_86 ?_
      refine z_iload_n C.1 dX7_step_89 rfl 2 rfl ?_
      refine z_aload_n C.1 dX7_step_90 rfl 0 rfl ?_
      refine k_X7_got C mM_X7_235 hw (by decide) (Nat.le_of_ble_eq_true rfl) dX7_step_91 (fun r36 u35 hw => ?_)
      refine sM_8 C hw.1 dX7_step_94 (fun u37 eu37 => ?_)
      replace hw := hw.2 u37 eu37
      refine z_lv [0, 1, 2] rfl ?_
      exact z_X7_step_95 C hn hR _ _ _ hw
    · replace hw := hw.1 c34
      refine z_aload_n C.1 dX7_step_72 rfl 0 rfl ?_
      refine gM_0_firsts C mF_X7_29 dX7_step_73 ?_
      refine z_iload_n C.1 dX7_step_76 rfl 2 rfl ?_
      refine z_aload_n C.1 dX7_step_77 rfl 0 rfl ?_
      refine k_X7_got C mM_X7_235 hw (by decide) (Nat.le_of_ble_eq_true rfl) dX7_step_78 (fun r39 u38 hw => ?_)
      refine sM_7 C hw.1 dX7_step_81 (fun u40 eu40 => ?_)
      replace hw := hw.2 u40 eu40
      refine z_goto (tgt := 95) C.1 dX7_step_82 (by decide) ?_
      refine z_lv [0, 1, 2] rfl ?_
      exact z_X7_step_95 C hn hR _ _ _ hw
def wp_X7_step_52 (u : St) (x1 : Int32) (x2 : Int32) (post : St → Prop) : Prop :=
  wp_X7_step_53 u x1 x2 0 post
set_option maxHeartbeats 4000000 in
set_option maxRecDepth 20000 in
theorem z_X7_step_52 {X : XX} {ad : Nat → Nat} {cs : Nat → ClassId} {post : St → Prop} (C : CxM X ad cs cX7_step RX7 9 199) (hn : xnL X = 3) (hR : rtV X cX7_step (wM ad cs) post) (u : St) (x1 : Int32) (x2 : Int32) (hw : wp_X7_step_52 u x1 x2 post) : Z X (wM ad cs u) 52 [(0, .ref (ad 0)), (1, .int x1), (2, .int x2)] [.ref (ad 0)] := by
  unfold wp_X7_step_52 at hw
  refine z_iconst (v := 0) C.1 dX7_step_52 (by decide) ?_
  refine z_lv [0, 1, 2] rfl ?_
  exact z_X7_step_53 C hn hR _ _ _ _ hw
def wp_X7_step_45 (u : St) (x1 : Int32) (x2 : Int32) (y0 : Int32) (y1 : Int32) (post : St → Prop) : Prop :=
  br (y1 = y0) (wp_X7_step_53 u x1 x2 1 post) (wp_X7_step_52 u x1 x2 post)
set_option maxHeartbeats 4000000 in
set_option maxRecDepth 20000 in
theorem z_X7_step_45 {X : XX} {ad : Nat → Nat} {cs : Nat → ClassId} {post : St → Prop} (C : CxM X ad cs cX7_step RX7 9 199) (hn : xnL X = 3) (hR : rtV X cX7_step (wM ad cs) post) (u : St) (x1 : Int32) (x2 : Int32) (y0 : Int32) (y1 : Int32) (hw : wp_X7_step_45 u x1 x2 y0 y1 post) : Z X (wM ad cs u) 45 [(0, .ref (ad 0)), (1, .int x1), (2, .int x2)] [.int y0, .int y1, .ref (ad 0)] := by
  unfold wp_X7_step_45 at hw
  refine z_icmp_ne (tgt := 52) C.1 dX7_step_45 (by decide) (fun c30 => ?_) (fun c30 => ?_)
  · replace hw := hw.2 c30
    refine z_lv [0, 1, 2] rfl ?_
    exact z_X7_step_52 C hn hR _ _ _ hw
  · replace hw := hw.1 c30
    refine z_iconst (v := 1) C.1 dX7_step_48 (by decide) ?_
    refine z_goto (tgt := 53) C.1 dX7_step_49 (by decide) ?_
    refine z_lv [0, 1, 2] rfl ?_
    exact z_X7_step_53 C hn hR _ _ _ _ hw
def wp_X7_step_22 (u : St) (x1 : Int32) (x2 : Int32) (post : St → Prop) : Prop :=
  br ((gI u 6) = 3) (br (x1 = 2) (wp_X7_step_45 u x1 x2 2 (gI u 7) post) (wp_X7_step_45 u x1 x2 3 (gI u 7) post)) (wp_X7_step_52 u x1 x2 post)
set_option maxHeartbeats 4000000 in
set_option maxRecDepth 20000 in
theorem z_X7_step_22 {X : XX} {ad : Nat → Nat} {cs : Nat → ClassId} {post : St → Prop} (C : CxM X ad cs cX7_step RX7 9 199) (hn : xnL X = 3) (hR : rtV X cX7_step (wM ad cs) post) (u : St) (x1 : Int32) (x2 : Int32) (hw : wp_X7_step_22 u x1 x2 post) : Z X (wM ad cs u) 22 [(0, .ref (ad 0)), (1, .int x1), (2, .int x2)] [] := by
  unfold wp_X7_step_22 at hw
  refine z_aload_n C.1 dX7_step_22 rfl 0 rfl ?_
  refine z_aload_n C.1 dX7_step_23 rfl 0 rfl ?_
  refine gM_0_token C mF_X7_142 dX7_step_24 ?_
  refine z_iconst (v := 3) C.1 dX7_step_27 (by decide) ?_
  refine z_icmp_ne (tgt := 52) C.1 dX7_step_28 (by decide) (fun c28 => ?_) (fun c28 => ?_)
  · replace hw := hw.2 c28
    refine z_lv [0, 1, 2] rfl ?_
    exact z_X7_step_52 C hn hR _ _ _ hw
  · replace hw := hw.1 c28
    refine z_aload_n C.1 dX7_step_31 rfl 0 rfl ?_
    refine gM_0_word C mF_X7_162 dX7_step_32 ?_
    refine z_iload_n C.1 dX7_step_35 rfl 1 rfl ?_
    refine z_iconst (v := 2) C.1 dX7_step_36 (by decide) ?_
    refine z_icmp_ne (tgt := 44) C.1 dX7_step_37 (by decide) (fun c29 => ?_) (fun c29 => ?_)
    · replace hw := hw.2 c29
      refine z_iconst (v := 3) C.1 dX7_step_44 (by decide) ?_
      refine z_lv [0, 1, 2] rfl ?_
      exact z_X7_step_45 C hn hR _ _ _ _ _ hw
    · replace hw := hw.1 c29
      refine z_iconst (v := 2) C.1 dX7_step_40 (by decide) ?_
      refine z_goto (tgt := 45) C.1 dX7_step_41 (by decide) ?_
      refine z_lv [0, 1, 2] rfl ?_
      exact z_X7_step_45 C hn hR _ _ _ _ _ hw
def wp_X7_step_162 (u : St) (x2 : Int32) (y0 : Int32) (post : St → Prop) : Prop :=
  wp_X7_need u y0 (fun (u17 : St) => br ((gI u17 13) = 0) (post u17) (wp_X7_go u17 (fun (u19 : St) => wp_X7_got u19 (fun (r21 : Int32) (u20 : St) => (vp_in x2 1440 ∧ nm (sA u20 7 (ix x2) r21) (fun u22 : St => (vp_in x2 1440 ∧ (vp_in (gI u22 8) 61 ∧ nm (sB u22 17 (ix (gI u22 8)) (gB u22 19 (ix x2))) (fun u23 : St => (vp_in x2 1440 ∧ (vp_in (gI u23 8) 61 ∧ nm (sA u23 18 (ix (gI u23 8)) (gA u23 7 (ix x2))) (fun u24 : St => nm (sI u24 8 ((gI u24 8) + 1)) (fun u25 : St => wp_X7_later u25 6 x2 (fun (u26 : St) => wp_X7_later u26 1 0 (fun (u27 : St) => post u27)))))))))))))))
set_option maxHeartbeats 4000000 in
set_option maxRecDepth 20000 in
theorem z_X7_step_162 {X : XX} {ad : Nat → Nat} {cs : Nat → ClassId} {post : St → Prop} (C : CxM X ad cs cX7_step RX7 9 199) (hn : xnL X = 3) (hR : rtV X cX7_step (wM ad cs) post) (u : St) (x2 : Int32) (y0 : Int32) (hw : wp_X7_step_162 u x2 y0 post) : Z X (wM ad cs u) 162 [(0, .ref (ad 0)), (2, .int x2)] [.int y0, .ref (ad 0)] := by
  unfold wp_X7_step_162 at hw
  refine k_X7_need C mM_X7_191 hw (by decide) (Nat.le_of_ble_eq_true rfl) dX7_step_162 (fun u17 hw => ?_)
  refine z_aload_n C.1 dX7_step_165 rfl 0 rfl ?_
  refine gM_0_right C mF_X7_165 dX7_step_166 ?_
  refine z_if_eq (tgt := 272) C.1 dX7_step_169 (by decide) (fun c18 => ?_) (fun c18 => ?_)
  · replace hw := hw.1 c18
    exact hR _ _ _ dX7_step_272 hw
  · replace hw := hw.2 c18
    refine z_aload_n C.1 dX7_step_172 rfl 0 rfl ?_
    refine k_X7_go C mM_X7_175 hw (by decide) (Nat.le_of_ble_eq_true rfl) dX7_step_173 (fun u19 hw => ?_)
    refine z_aload_n C.1 dX7_step_176 rfl 0 rfl ?_
    refine gM_0_firsts C mF_X7_29 dX7_step_177 ?_
    refine z_iload_n C.1 dX7_step_180 rfl 1 rfl ?_
    refine z_aload_n C.1 dX7_step_181 rfl 0 rfl ?_
    refine k_X7_got C mM_X7_235 hw (by decide) (Nat.le_of_ble_eq_true rfl) dX7_step_182 (fun r21 u20 hw => ?_)
    refine sM_7 C hw.1 dX7_step_185 (fun u22 eu22 => ?_)
    replace hw := hw.2 u22 eu22
    refine z_aload_n C.1 dX7_step_186 rfl 0 rfl ?_
    refine gM_0_letNames C mF_X7_60 dX7_step_187 ?_
    refine z_aload_n C.1 dX7_step_190 rfl 0 rfl ?_
    refine gM_0_lets C mF_X7_208 dX7_step_191 ?_
    refine z_aload_n C.1 dX7_step_194 rfl 0 rfl ?_
    refine gM_0_calledNames C mF_X7_66 dX7_step_195 ?_
    refine z_iload_n C.1 dX7_step_198 rfl 1 rfl ?_
    refine lM_19 C hw.1 dX7_step_199 ?_
    replace hw := hw.2
    refine sM_17 C hw.1 dX7_step_200 (fun u23 eu23 => ?_)
    replace hw := hw.2 u23 eu23
    refine z_aload_n C.1 dX7_step_201 rfl 0 rfl ?_
    refine gM_0_letParts C mF_X7_63 dX7_step_202 ?_
    refine z_aload_n C.1 dX7_step_205 rfl 0 rfl ?_
    refine gM_0_lets C mF_X7_208 dX7_step_206 ?_
    refine z_aload_n C.1 dX7_step_209 rfl 0 rfl ?_
    refine gM_0_firsts C mF_X7_29 dX7_step_210 ?_
    refine z_iload_n C.1 dX7_step_213 rfl 1 rfl ?_
    refine lM_7 C hw.1 dX7_step_214 ?_
    replace hw := hw.2
    refine sM_18 C hw.1 dX7_step_215 (fun u24 eu24 => ?_)
    replace hw := hw.2 u24 eu24
    refine z_aload_n C.1 dX7_step_216 rfl 0 rfl ?_
    refine z_dup C.1 dX7_step_217 rfl ?_
    refine gM_0_lets C mF_X7_208 dX7_step_218 ?_
    refine z_iconst (v := 1) C.1 dX7_step_221 (by decide) ?_
    refine z_iadd C.1 dX7_step_222 ?_
    refine pM_0_lets C mF_X7_208 dX7_step_223 (fun u25 eu25 => ?_)
    replace hw := hw u25 eu25
    refine z_aload_n C.1 dX7_step_226 rfl 0 rfl ?_
    refine z_bipush (v := 6) C.1 dX7_step_227 (by decide) ?_
    refine z_iload_n C.1 dX7_step_229 rfl 1 rfl ?_
    refine k_X7_later C mM_X7_215 hw (by decide) (Nat.le_of_ble_eq_true rfl) dX7_step_230 (fun u26 hw => ?_)
    refine z_aload_n C.1 dX7_step_233 rfl 0 rfl ?_
    refine z_iconst (v := 1) C.1 dX7_step_234 (by decide) ?_
    refine z_iconst (v := 0) C.1 dX7_step_235 (by decide) ?_
    refine k_X7_later C mM_X7_215 hw (by decide) (Nat.le_of_ble_eq_true rfl) dX7_step_236 (fun u27 hw => ?_)
    refine z_goto (tgt := 272) C.1 dX7_step_239 (by decide) ?_
    exact hR _ _ _ dX7_step_272 hw
def wp_X7_step_161 (u : St) (x2 : Int32) (post : St → Prop) : Prop :=
  wp_X7_step_162 u x2 0 post
set_option maxHeartbeats 4000000 in
set_option maxRecDepth 20000 in
theorem z_X7_step_161 {X : XX} {ad : Nat → Nat} {cs : Nat → ClassId} {post : St → Prop} (C : CxM X ad cs cX7_step RX7 9 199) (hn : xnL X = 3) (hR : rtV X cX7_step (wM ad cs) post) (u : St) (x2 : Int32) (hw : wp_X7_step_161 u x2 post) : Z X (wM ad cs u) 161 [(0, .ref (ad 0)), (2, .int x2)] [.ref (ad 0)] := by
  unfold wp_X7_step_161 at hw
  refine z_iconst (v := 0) C.1 dX7_step_161 (by decide) ?_
  refine z_lv [0, 1] rfl ?_
  exact z_X7_step_162 C hn hR _ _ _ hw
def wp_X7_step (u : St) (x1 : Int32) (x2 : Int32) (post : St → Prop) : Prop :=
  br (x1 = 1) (wp_X7_expression u (fun (u16 : St) => post u16)) (br (x1 = 2) (wp_X7_step_22 u x1 x2 post) (br (x1 = 3) (wp_X7_step_22 u x1 x2 post) (br (x1 = 4) (wp_X7_got u (fun (r13 : Int32) (u12 : St) => (vp_in x2 1440 ∧ nm (sA u12 9 (ix x2) r13) (fun u14 : St => wp_X7_give u14 x2 (fun (u15 : St) => post u15))))) (br (x1 = 5) (br ((gI u 6) = 3) (br ((gI u 7) = 5) (wp_X7_step_162 u x2 1 post) (wp_X7_step_161 u x2 post)) (wp_X7_step_161 u x2 post)) (br (x1 = 6) (nm (sI u 8 ((gI u 8) - 1)) (fun u8 : St => wp_X7_second u8 x2 (fun (u9 : St) => post u9))) (wp_X7_more u x1 x2 (fun (u7 : St) => post u7)))))))
set_option maxHeartbeats 4000000 in
set_option maxRecDepth 20000 in
theorem z_X7_step {X : XX} {ad : Nat → Nat} {cs : Nat → ClassId} {post : St → Prop} (C : CxM X ad cs cX7_step RX7 9 199) (hn : xnL X = 3) (hR : rtV X cX7_step (wM ad cs) post) (u : St) (x1 : Int32) (x2 : Int32) (hw : wp_X7_step u x1 x2 post) : Z X (wM ad cs u) 0 [(0, .ref (ad 0)), (1, .int x1), (2, .int x2)] [] := by
  unfold wp_X7_step at hw
  refine z_iload_n C.1 dX7_step_0 rfl 1 rfl ?_
  refine z_iconst (v := 1) C.1 dX7_step_1 (by decide) ?_
  refine z_icmp_ne (tgt := 12) C.1 dX7_step_2 (by decide) (fun c1 => ?_) (fun c1 => ?_)
  · replace hw := hw.2 c1
    refine z_iload_n C.1 dX7_step_12 rfl 1 rfl ?_
    refine z_iconst (v := 2) C.1 dX7_step_13 (by decide) ?_
    refine z_icmp_eq (tgt := 22) C.1 dX7_step_14 (by decide) (fun c2 => ?_) (fun c2 => ?_)
    · replace hw := hw.1 c2
      refine z_lv [0, 1, 2] rfl ?_
      exact z_X7_step_22 C hn hR _ _ _ hw
    · replace hw := hw.2 c2
      refine z_iload_n C.1 dX7_step_17 rfl 1 rfl ?_
      refine z_iconst (v := 3) C.1 dX7_step_18 (by decide) ?_
      refine z_icmp_ne (tgt := 112) C.1 dX7_step_19 (by decide) (fun c3 => ?_) (fun c3 => ?_)
      · replace hw := hw.2 c3
        refine z_iload_n C.1 dX7_step_112 rfl 1 rfl ?_
        refine z_iconst (v := 4) C.1 dX7_step_113 (by decide) ?_
        refine z_icmp_ne (tgt := 135) C.1 dX7_step_114 (by decide) (fun c4 => ?_) (fun c4 => ?_)
        · replace hw := hw.2 c4
          refine z_iload_n C.1 dX7_step_135 rfl 1 rfl ?_
          refine z_iconst (v := 5) C.1 dX7_step_136 (by decide) ?_
          refine z_icmp_ne (tgt := 242) C.1 dX7_step_137 (by decide) (fun c5 => ?_) (fun c5 => ?_)
          · replace hw := hw.2 c5
            refine z_iload_n C.1 dX7_step_242 rfl 1 rfl ?_
            refine z_bipush (v := 6) C.1 dX7_step_243 (by decide) ?_
            refine z_icmp_ne (tgt := 266) C.1 dX7_step_245 (by decide) (fun c6 => ?_) (fun c6 => ?_)
            · replace hw := hw.2 c6
              refine z_aload_n C.1 dX7_step_266 rfl 0 rfl ?_
              refine z_iload_n C.1 dX7_step_267 rfl 1 rfl ?_
              refine z_iload_n C.1 dX7_step_268 rfl 2 rfl ?_
              refine k_X7_more C mM_X7_250 hw (by decide) (Nat.le_of_ble_eq_true rfl) dX7_step_269 (fun u7 hw => ?_)
              exact hR _ _ _ dX7_step_272 hw
            · replace hw := hw.1 c6
              refine z_aload_n C.1 dX7_step_248 rfl 0 rfl ?_
              refine z_dup C.1 dX7_step_249 rfl ?_
              refine gM_0_lets C mF_X7_208 dX7_step_250 ?_
              refine z_iconst (v := 1) C.1 dX7_step_253 (by decide) ?_
              refine z_isub C.1 dX7_step_254 ?_
              refine pM_0_lets C mF_X7_208 dX7_step_255 (fun u8 eu8 => ?_)
              replace hw := hw u8 eu8
              refine z_aload_n C.1 dX7_step_258 rfl 0 rfl ?_
              refine z_iload_n C.1 dX7_step_259 rfl 2 rfl ?_
              refine k_X7_second C mM_X7_247 hw (by decide) (Nat.le_of_ble_eq_true rfl) dX7_step_260 (fun u9 hw => ?_)
              refine z_goto (tgt := 272) C.1 dX7_step_263 (by decide) ?_
              exact hR _ _ _ dX7_step_272 hw
          · replace hw := hw.1 c5
            refine z_aload_n C.1 dX7_step_140 rfl 0 rfl ?_
            refine z_aload_n C.1 dX7_step_141 rfl 0 rfl ?_
            refine gM_0_token C mF_X7_142 dX7_step_142 ?_
            refine z_iconst (v := 3) C.1 dX7_step_145 (by decide) ?_
            refine z_icmp_ne (tgt := 161) C.1 dX7_step_146 (by decide) (fun c10 => ?_) (fun c10 => ?_)
            · replace hw := hw.2 c10
              refine z_lv [0, 2] rfl ?_
              exact z_X7_step_161 C hn hR _ _ hw
            · replace hw := hw.1 c10
              refine z_aload_n C.1 dX7_step_149 rfl 0 rfl ?_
              refine gM_0_word C mF_X7_162 dX7_step_150 ?_
              refine z_iconst (v := 5) C.1 dX7_step_153 (by decide) ?_
              refine z_icmp_ne (tgt := 161) C.1 dX7_step_154 (by decide) (fun c11 => ?_) (fun c11 => ?_)
              · replace hw := hw.2 c11
                refine z_lv [0, 2] rfl ?_
                exact z_X7_step_161 C hn hR _ _ hw
              · replace hw := hw.1 c11
                refine z_iconst (v := 1) C.1 dX7_step_157 (by decide) ?_
                refine z_goto (tgt := 162) C.1 dX7_step_158 (by decide) ?_
                refine z_lv [0, 2] rfl ?_
                exact z_X7_step_162 C hn hR _ _ _ hw
        · replace hw := hw.1 c4
          refine z_aload_n C.1 dX7_step_117 rfl 0 rfl ?_
          refine gM_0_thirds C mF_X7_35 dX7_step_118 ?_
          refine z_iload_n C.1 dX7_step_121 rfl 2 rfl ?_
          refine z_aload_n C.1 dX7_step_122 rfl 0 rfl ?_
          refine k_X7_got C mM_X7_235 hw (by decide) (Nat.le_of_ble_eq_true rfl) dX7_step_123 (fun r13 u12 hw => ?_)
          refine sM_9 C hw.1 dX7_step_126 (fun u14 eu14 => ?_)
          replace hw := hw.2 u14 eu14
          refine z_aload_n C.1 dX7_step_127 rfl 0 rfl ?_
          refine z_iload_n C.1 dX7_step_128 rfl 2 rfl ?_
          refine k_X7_give C mM_X7_222 hw (by decide) (Nat.le_of_ble_eq_true rfl) dX7_step_129 (fun u15 hw => ?_)
          refine z_goto (tgt := 272) C.1 dX7_step_132 (by decide) ?_
          exact hR _ _ _ dX7_step_272 hw
      · replace hw := hw.1 c3
        refine z_lv [0, 1, 2] rfl ?_
        exact z_X7_step_22 C hn hR _ _ _ hw
  · replace hw := hw.1 c1
    refine z_aload_n C.1 dX7_step_5 rfl 0 rfl ?_
    refine k_X7_expression C mM_X7_244 hw (by decide) (Nat.le_of_ble_eq_true rfl) dX7_step_6 (fun u16 hw => ?_)
    refine z_goto (tgt := 272) C.1 dX7_step_9 (by decide) ?_
    exact hR _ _ _ dX7_step_272 hw
theorem c_X7_step {l : Launch} {D : va_G} {A : Nat → Prop} {ad : Nat → Nat} {cs : Nat → ClassId} (hD : ∀ u : St, va_D A (wM ad cs u)) (u : St) (x1 : Int32) (x2 : Int32) (post : St → Prop) (hw : wp_X7_step u x1 x2 post) : MV (ad 90, ad 91) l yX7_step cX7_step 3 none (rmm 9 199) D (tysM cs) A (wM ad cs) u [.ref (ad 0), .int x1, .int x2] post :=
  met_v (by decide) (Nat.le_of_ble_eq_true rfl) (fun X C _ _ ht hA hn hsg hR => z_X7_step ⟨C, ht, fun u => by rw [hA]; exact hD u, hsg⟩ hn hR u x1 x2 hw)
theorem k_X7_step {X : XX} {ad : Nat → Nat} {cs : Nat → ClassId} {cc : ByteArray} {own : String} {fr lo pc : Nat} {lv : List (Nat × Value)} {st : List Value} {u : St} (C : CxM X ad cs cc own fr lo) {idx : Nat} {x1 : Int32} {x2 : Int32} {P : St → Prop} (hlink : Cond.methodLink own idx yX7_step ∈ W0) (hw : wp_X7_step u x1 x2 P) (hr : 9 + 1 ≤ fr ∧ 8 + (3 + 11) + 199 ≤ lo) (hst : (st.map fun v => v.category).sum ≤ 8) (hdg : decode cc pc = .ok (.invokevirtual idx, 3)) (k : ∀ (u2 : St), P u2 → Z X (wM ad cs u2) (pc + 3) lv st) : Z X (wM ad cs u) pc lv (.int x2 :: .int x1 :: .ref (ad 0) :: st) :=
  z_callVv (wf := wM ad cs) (As := [.int x1, .int x2]) (rest := st) C.1 2 (q0 := 0) mI_X7_step mS_X7_step rfl rfl (by rw [C.2.1, C.2.2.2]; exact c_X7_step C.2.2.1 u x1 x2 P hw) mC_X7_step mZ_X7 (by decide +kernel) rfl hlink hr hst hdg k
