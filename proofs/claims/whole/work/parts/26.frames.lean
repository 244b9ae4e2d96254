def wp_X6_feed_13 (u : St) (post : Int32 → St → Prop) (px : String → St → Prop) : Prop :=
  px "java/lang/IllegalArgumentException" u
set_option maxHeartbeats 4000000 in
set_option maxRecDepth 20000 in
theorem z_X6_feed_13 {X : XX} {ad : Nat → Nat} {cs : Nat → ClassId} {post : Int32 → St → Prop} (C : CxC X ad cs cX6_feed RX6 1 21) (hn : xnL X = 8) (hR : rtI X cX6_feed (wC ad cs) post) {px : String → St → Prop} (hT : thT X cX6_feed (wC ad cs) px) (u : St) (hw : wp_X6_feed_13 u post px) : Z X (wC ad cs u) 13 [] [] := by
  unfold wp_X6_feed_13 at hw
  exact hT 13 27 29 "java/lang/IllegalArgumentException" _ _ dX6_feed_13 dX6_feed_16 dX6_feed_17 dX6_feed_20 (by decide) hw
def wp_X6_feed_88 (K47 : St → Int32 → Int32 → Int32 → Int32 → Int32 → Int32 → Prop) (u : St) (x1 : Int32) (x2 : Int32) (x3 : Int32) (x4 : Int32) (x5 : Int32) (x6 : Int32) (y0 : Int32) (post : Int32 → St → Prop) (px : String → St → Prop) : Prop :=
  wp_X5_add u (((Int32.toUInt32 y0 >>> (Int32.toUInt32 (24 - (8 * (x6 - x6 / 4 * 4))) &&& Int32.toUInt32 31)).toInt32) &&& 255) (fun (u10 : St) => nm (x6 + 1) (fun v11 : Int32 => K47 u10 x1 x2 x3 x4 x5 v11))
set_option maxHeartbeats 4000000 in
set_option maxRecDepth 20000 in
theorem z_X6_feed_88 {X : XX} {ad : Nat → Nat} {cs : Nat → ClassId} {post : Int32 → St → Prop} (C : CxC X ad cs cX6_feed RX6 1 21) (hn : xnL X = 8) (hR : rtI X cX6_feed (wC ad cs) post) {K47 : St → Int32 → Int32 → Int32 → Int32 → Int32 → Int32 → Prop} (hK47 : ∀ (u : St) (x1 : Int32) (x2 : Int32) (x3 : Int32) (x4 : Int32) (x5 : Int32) (x6 : Int32), K47 u x1 x2 x3 x4 x5 x6 → Z X (wC ad cs u) 47 [(0, .ref (ad 0)), (1, .int x1), (2, .int x2), (3, .int x3), (4, .int x4), (5, .int x5), (6, .int x6)] []) {px : String → St → Prop} (hT : thT X cX6_feed (wC ad cs) px) (u : St) (x1 : Int32) (x2 : Int32) (x3 : Int32) (x4 : Int32) (x5 : Int32) (x6 : Int32) (y0 : Int32) (hw : wp_X6_feed_88 K47 u x1 x2 x3 x4 x5 x6 y0 post px) : Z X (wC ad cs u) 88 [(0, .ref (ad 0)), (1, .int x1), (2, .int x2), (3, .int x3), (4, .int x4), (5, .int x5), (6, .int x6)] [.int y0] := by
  unfold wp_X6_feed_88 at hw
  refine z_istore (lv' := [(7, .int y0), (0, .ref (ad 0)), (1, .int x1), (2, .int x2), (3, .int x3), (4, .int x4), (5, .int x5), (6, .int x6)]) C.1 dX6_feed_88 (by rw [hn]; decide) rfl ?_
  refine z_aload_n C.1 dX6_feed_90 rfl 1 rfl ?_
  refine gC_0_reader C mF_X6_10 dX6_feed_91 ?_
  refine gC_1_tape C mF_X6_30 dX6_feed_94 ?_
  refine z_iload C.1 dX6_feed_97 0 rfl ?_
  refine z_bipush (v := 24) C.1 dX6_feed_99 (by decide) ?_
  refine z_bipush (v := 8) C.1 dX6_feed_101 (by decide) ?_
  refine z_iload C.1 dX6_feed_103 7 rfl ?_
  refine z_iconst (v := 4) C.1 dX6_feed_105 (by decide) ?_
  refine z_irem C.1 dX6_feed_106 (by decide) ?_
  refine z_imul C.1 dX6_feed_107 ?_
  refine z_isub C.1 dX6_feed_108 ?_
  refine z_iushr C.1 dX6_feed_109 ?_
  refine z_sipush (v := 255) C.1 dX6_feed_110 (by decide) ?_
  refine z_iand C.1 dX6_feed_113 ?_
  refine k_X5_add C mM_X6_43 hw (by decide) (Nat.le_of_ble_eq_true rfl) dX6_feed_114 (fun u10 hw => ?_)
  obtain ⟨v11, ev11⟩ : ∃ z : Int32, z = x6 + 1 := ⟨_, rfl⟩
  replace hw := hw v11 ev11
  refine z_iinc (v := v11) (lv' := [(6, .int v11), (7, .int y0), (0, .ref (ad 0)), (1, .int x1), (2, .int x2), (3, .int x3), (4, .int x4), (5, .int x5)]) C.1 (j := 7) dX6_feed_117 rfl (by rw [ev11]; rfl) (by rw [hn]; decide) rfl ?_
  refine z_goto (tgt := 47) C.1 dX6_feed_120 (by decide) ?_
  refine z_lv [2, 3, 4, 5, 6, 7, 0] rfl ?_
  exact hK47 _ _ _ _ _ _ _ hw
def wp_X6_feed_47s (K47 : St → Int32 → Int32 → Int32 → Int32 → Int32 → Int32 → Prop) (u : St) (x1 : Int32) (x2 : Int32) (x3 : Int32) (x4 : Int32) (x5 : Int32) (x6 : Int32) (post : Int32 → St → Prop) (px : String → St → Prop) : Prop :=
  br (x5 ≤ x6) (post (gI u 8) u) (br (4 ≤ x6) (br (8 ≤ x6) (br (12 ≤ x6) (wp_X6_feed_88 K47 u x1 x2 x3 x4 x5 x6 x4 post px) (wp_X6_feed_88 K47 u x1 x2 x3 x4 x5 x6 x3 post px)) (wp_X6_feed_88 K47 u x1 x2 x3 x4 x5 x6 x2 post px)) (wp_X6_feed_88 K47 u x1 x2 x3 x4 x5 x6 x1 post px))
def wp_X6_feed_47 (post : Int32 → St → Prop) (px : String → St → Prop) : Nat → St → Int32 → Int32 → Int32 → Int32 → Int32 → Int32 → Prop
  | 0 => fun _ _ _ _ _ _ _ => False
  | n + 1 => fun u x1 x2 x3 x4 x5 x6 => wp_X6_feed_47s (wp_X6_feed_47 post px n) u x1 x2 x3 x4 x5 x6 post px
set_option maxHeartbeats 4000000 in
set_option maxRecDepth 20000 in
theorem z_X6_feed_47s {X : XX} {ad : Nat → Nat} {cs : Nat → ClassId} {post : Int32 → St → Prop} (C : CxC X ad cs cX6_feed RX6 1 21) (hn : xnL X = 8) (hR : rtI X cX6_feed (wC ad cs) post) {K47 : St → Int32 → Int32 → Int32 → Int32 → Int32 → Int32 → Prop} (hK47 : ∀ (u : St) (x1 : Int32) (x2 : Int32) (x3 : Int32) (x4 : Int32) (x5 : Int32) (x6 : Int32), K47 u x1 x2 x3 x4 x5 x6 → Z X (wC ad cs u) 47 [(0, .ref (ad 0)), (1, .int x1), (2, .int x2), (3, .int x3), (4, .int x4), (5, .int x5), (6, .int x6)] []) {px : String → St → Prop} (hT : thT X cX6_feed (wC ad cs) px) (u : St) (x1 : Int32) (x2 : Int32) (x3 : Int32) (x4 : Int32) (x5 : Int32) (x6 : Int32) (hw : wp_X6_feed_47s K47 u x1 x2 x3 x4 x5 x6 post px) : Z X (wC ad cs u) 47 [(0, .ref (ad 0)), (1, .int x1), (2, .int x2), (3, .int x3), (4, .int x4), (5, .int x5), (6, .int x6)] [] := by
  unfold wp_X6_feed_47s at hw
  refine z_iload C.1 dX6_feed_47 6 rfl ?_
  refine z_iload C.1 dX6_feed_49 5 rfl ?_
  refine z_icmp_ge (tgt := 123) C.1 dX6_feed_51 (by decide) (fun c6 => ?_) (fun c6 => ?_)
  · replace hw := hw.1 c6
    refine z_aload_n C.1 dX6_feed_123 rfl 0 rfl ?_
    refine gC_0_reader C mF_X6_10 dX6_feed_124 ?_
    refine gC_1_tape C mF_X6_30 dX6_feed_127 ?_
    refine gC_2_length C mF_X6_47 dX6_feed_130 ?_
    exact hR _ _ _ _ dX6_feed_133 hw
  · replace hw := hw.2 c6
    refine z_iload C.1 dX6_feed_54 6 rfl ?_
    refine z_iconst (v := 4) C.1 dX6_feed_56 (by decide) ?_
    refine z_icmp_ge (tgt := 64) C.1 dX6_feed_57 (by decide) (fun c7 => ?_) (fun c7 => ?_)
    · replace hw := hw.1 c7
      refine z_iload C.1 dX6_feed_64 6 rfl ?_
      refine z_bipush (v := 8) C.1 dX6_feed_66 (by decide) ?_
      refine z_icmp_ge (tgt := 75) C.1 dX6_feed_68 (by decide) (fun c8 => ?_) (fun c8 => ?_)
      · replace hw := hw.1 c8
        refine z_iload C.1 dX6_feed_75 6 rfl ?_
        refine z_bipush (v := 12) C.1 dX6_feed_77 (by decide) ?_
        refine z_icmp_ge (tgt := 86) C.1 dX6_feed_79 (by decide) (fun c9 => ?_) (fun c9 => ?_)
        · replace hw := hw.1 c9
          refine z_iload C.1 dX6_feed_86 4 rfl ?_
          refine z_lv [0, 1, 2, 3, 4, 5, 6] rfl ?_
          exact z_X6_feed_88 C hn hR hK47 hT _ _ _ _ _ _ _ _ hw
        · replace hw := hw.2 c9
          refine z_iload_n C.1 dX6_feed_82 rfl 3 rfl ?_
          refine z_goto (tgt := 88) C.1 dX6_feed_83 (by decide) ?_
          refine z_lv [0, 1, 2, 3, 4, 5, 6] rfl ?_
          exact z_X6_feed_88 C hn hR hK47 hT _ _ _ _ _ _ _ _ hw
      · replace hw := hw.2 c8
        refine z_iload_n C.1 dX6_feed_71 rfl 2 rfl ?_
        refine z_goto (tgt := 88) C.1 dX6_feed_72 (by decide) ?_
        refine z_lv [0, 1, 2, 3, 4, 5, 6] rfl ?_
        exact z_X6_feed_88 C hn hR hK47 hT _ _ _ _ _ _ _ _ hw
    · replace hw := hw.2 c7
      refine z_iload_n C.1 dX6_feed_60 rfl 1 rfl ?_
      refine z_goto (tgt := 88) C.1 dX6_feed_61 (by decide) ?_
      refine z_lv [0, 1, 2, 3, 4, 5, 6] rfl ?_
      exact z_X6_feed_88 C hn hR hK47 hT _ _ _ _ _ _ _ _ hw
theorem z_X6_feed_47 {X : XX} {ad : Nat → Nat} {cs : Nat → ClassId} {post : Int32 → St → Prop} (C : CxC X ad cs cX6_feed RX6 1 21) (hn : xnL X = 8) (hR : rtI X cX6_feed (wC ad cs) post) {px : String → St → Prop} (hT : thT X cX6_feed (wC ad cs) px) : ∀ (n : Nat) (u : St) (x1 : Int32) (x2 : Int32) (x3 : Int32) (x4 : Int32) (x5 : Int32) (x6 : Int32), wp_X6_feed_47 post px n u x1 x2 x3 x4 x5 x6 → Z X (wC ad cs u) 47 [(0, .ref (ad 0)), (1, .int x1), (2, .int x2), (3, .int x3), (4, .int x4), (5, .int x5), (6, .int x6)] []
  | 0, _, _, _, _, _, _, _, hw => absurd hw (fun h => h)
  | n + 1, u, x1, x2, x3, x4, x5, x6, hw => z_X6_feed_47s C hn hR (z_X6_feed_47 C hn hR hT n) hT u x1 x2 x3 x4 x5 x6 hw
def wp_X6_feed (u : St) (x1 : Int32) (x2 : Int32) (x3 : Int32) (x4 : Int32) (x5 : Int32) (post : Int32 → St → Prop) (px : String → St → Prop) : Prop :=
  br (x5 < 1) (wp_X6_feed_13 u post px) (br (x5 ≤ 16) (wp_X5_room u (fun (r4 : Int32) (u3 : St) => br (x5 ≤ r4) (∃ n, wp_X6_feed_47 post px n u3 x1 x2 x3 x4 x5 0) (px "java/lang/UnsupportedOperationException" u3))) (wp_X6_feed_13 u post px))
set_option maxHeartbeats 4000000 in
set_option maxRecDepth 20000 in
theorem z_X6_feed {X : XX} {ad : Nat → Nat} {cs : Nat → ClassId} {post : Int32 → St → Prop} (C : CxC X ad cs cX6_feed RX6 1 21) (hn : xnL X = 8) (hR : rtI X cX6_feed (wC ad cs) post) {px : String → St → Prop} (hT : thT X cX6_feed (wC ad cs) px) (u : St) (x1 : Int32) (x2 : Int32) (x3 : Int32) (x4 : Int32) (x5 : Int32) (hw : wp_X6_feed u x1 x2 x3 x4 x5 post px) : Z X (wC ad cs u) 0 [(0, .ref (ad 0)), (1, .int x1), (2, .int x2), (3, .int x3), (4, .int x4), (5, .int x5)] [] := by
  unfold wp_X6_feed at hw
  refine z_iload C.1 dX6_feed_0 5 rfl ?_
  refine z_iconst (v := 1) C.1 dX6_feed_2 (by decide) ?_
  refine z_icmp_lt (tgt := 13) C.1 dX6_feed_3 (by decide) (fun c1 => ?_) (fun c1 => ?_)
  · replace hw := hw.1 c1
    refine z_lv [] rfl ?_
    exact z_X6_feed_13 C hn hR hT _ hw
  · replace hw := hw.2 c1
    refine z_iload C.1 dX6_feed_6 5 rfl ?_
    refine z_bipush (v := 16) C.1 dX6_feed_8 (by decide) ?_
    refine z_icmp_le (tgt := 21) C.1 dX6_feed_10 (by decide) (fun c2 => ?_) (fun c2 => ?_)
    · replace hw := hw.1 c2
      refine z_iload C.1 dX6_feed_21 5 rfl ?_
      refine z_aload_n C.1 dX6_feed_23 rfl 0 rfl ?_
      refine gC_0_reader C mF_X6_10 dX6_feed_24 ?_
      refine gC_1_tape C mF_X6_30 dX6_feed_27 ?_
      refine k_X5_room C mM_X6_34 hw (by decide) (Nat.le_of_ble_eq_true rfl) dX6_feed_30 (fun r4 u3 hw => ?_)
      refine z_icmp_le (tgt := 44) C.1 dX6_feed_33 (by decide) (fun c5 => ?_) (fun c5 => ?_)
      · replace hw := hw.1 c5
        refine z_iconst (v := 0) C.1 dX6_feed_44 (by decide) ?_
        refine z_istore (lv' := [(6, .int 0), (0, .ref (ad 0)), (1, .int x1), (2, .int x2), (3, .int x3), (4, .int x4), (5, .int x5)]) C.1 dX6_feed_45 (by rw [hn]; decide) rfl ?_
        refine z_lv [1, 2, 3, 4, 5, 6, 0] rfl ?_
        obtain ⟨n, hw⟩ := hw
        exact z_X6_feed_47 C hn hR hT n _ _ _ _ _ _ _ hw
      · replace hw := hw.2 c5
        exact hT 36 40 42 "java/lang/UnsupportedOperationException" _ _ dX6_feed_36 dX6_feed_39 dX6_feed_40 dX6_feed_43 (by decide) hw
    · replace hw := hw.2 c2
      refine z_lv [] rfl ?_
      exact z_X6_feed_13 C hn hR hT _ hw

def wp_X6_forgetRun_7s (K7 : St → Int32 → Prop) (u : St) (x1 : Int32) (post : St → Prop) : Prop :=
  br (4 ≤ x1) (post u) ((vp_in x1 4 ∧ nm (sA u 8 (ix x1) 0) (fun u3 : St => nm (x1 + 1) (fun v4 : Int32 => K7 u3 v4))))
def wp_X6_forgetRun_7 (post : St → Prop) : Nat → St → Int32 → Prop
  | 0 => fun _ _ => False
  | n + 1 => fun u x1 => wp_X6_forgetRun_7s (wp_X6_forgetRun_7 post n) u x1 post
set_option maxHeartbeats 4000000 in
set_option maxRecDepth 20000 in
theorem z_X6_forgetRun_7s {X : XX} {ad : Nat → Nat} {cs : Nat → ClassId} {post : St → Prop} (C : CxC X ad cs cX6_forgetRun RX6 0 0) (hn : xnL X = 2) (hR : rtV X cX6_forgetRun (wC ad cs) post) {K7 : St → Int32 → Prop} (hK7 : ∀ (u : St) (x1 : Int32), K7 u x1 → Z X (wC ad cs u) 7 [(0, .ref (ad 0)), (1, .int x1)] []) (u : St) (x1 : Int32) (hw : wp_X6_forgetRun_7s K7 u x1 post) : Z X (wC ad cs u) 7 [(0, .ref (ad 0)), (1, .int x1)] [] := by
  unfold wp_X6_forgetRun_7s at hw
  refine z_iload_n C.1 dX6_forgetRun_7 rfl 1 rfl ?_
  refine z_iconst (v := 4) C.1 dX6_forgetRun_8 (by decide) ?_
  refine z_icmp_ge (tgt := 25) C.1 dX6_forgetRun_9 (by decide) (fun c2 => ?_) (fun c2 => ?_)
  · replace hw := hw.1 c2
    exact hR _ _ _ dX6_forgetRun_25 hw
  · replace hw := hw.2 c2
    refine z_aload_n C.1 dX6_forgetRun_12 rfl 0 rfl ?_
    refine gC_0_latestCounts C mF_X6_23 dX6_forgetRun_13 ?_
    refine z_iload_n C.1 dX6_forgetRun_16 rfl 1 rfl ?_
    refine z_iconst (v := 0) C.1 dX6_forgetRun_17 (by decide) ?_
    refine sC_8 C hw.1 dX6_forgetRun_18 (fun u3 eu3 => ?_)
    replace hw := hw.2 u3 eu3
    obtain ⟨v4, ev4⟩ : ∃ z : Int32, z = x1 + 1 := ⟨_, rfl⟩
    replace hw := hw v4 ev4
    refine z_iinc (v := v4) (lv' := [(1, .int v4), (0, .ref (ad 0))]) C.1 (j := 1) dX6_forgetRun_19 rfl (by rw [ev4]; rfl) (by rw [hn]; decide) rfl ?_
    refine z_goto (tgt := 7) C.1 dX6_forgetRun_22 (by decide) ?_
    refine z_lv [1, 0] rfl ?_
    exact hK7 _ _ hw
theorem z_X6_forgetRun_7 {X : XX} {ad : Nat → Nat} {cs : Nat → ClassId} {post : St → Prop} (C : CxC X ad cs cX6_forgetRun RX6 0 0) (hn : xnL X = 2) (hR : rtV X cX6_forgetRun (wC ad cs) post) : ∀ (n : Nat) (u : St) (x1 : Int32), wp_X6_forgetRun_7 post n u x1 → Z X (wC ad cs u) 7 [(0, .ref (ad 0)), (1, .int x1)] []
  | 0, _, _, hw => absurd hw (fun h => h)
  | n + 1, u, x1, hw => z_X6_forgetRun_7s C hn hR (z_X6_forgetRun_7 C hn hR n) u x1 hw
def wp_X6_forgetRun (u : St) (post : St → Prop) : Prop :=
  nm (sI u 0 0) (fun u1 : St => ∃ n, wp_X6_forgetRun_7 post n u1 0)
set_option maxHeartbeats 4000000 in
set_option maxRecDepth 20000 in
theorem z_X6_forgetRun {X : XX} {ad : Nat → Nat} {cs : Nat → ClassId} {post : St → Prop} (C : CxC X ad cs cX6_forgetRun RX6 0 0) (hn : xnL X = 2) (hR : rtV X cX6_forgetRun (wC ad cs) post) (u : St) (hw : wp_X6_forgetRun u post) : Z X (wC ad cs u) 0 [(0, .ref (ad 0))] [] := by
  unfold wp_X6_forgetRun at hw
  refine z_aload_n C.1 dX6_forgetRun_0 rfl 0 rfl ?_
  refine z_iconst (v := 0) C.1 dX6_forgetRun_1 (by decide) ?_
  refine pC_0_latestValue C mF_X6_86 dX6_forgetRun_2 (fun u1 eu1 => ?_)
  replace hw := hw u1 eu1
  refine z_iconst (v := 0) C.1 dX6_forgetRun_5 (by decide) ?_
  refine z_istore_n (lv' := [(1, .int 0), (0, .ref (ad 0))]) C.1 dX6_forgetRun_6 rfl (by rw [hn]; decide) rfl ?_
  refine z_lv [1, 0] rfl ?_
  obtain ⟨n, hw⟩ := hw
  exact z_X6_forgetRun_7 C hn hR n _ _ hw
theorem c_X6_forgetRun {l : Launch} {D : va_G} {A : Nat → Prop} {ad : Nat → Nat} {cs : Nat → ClassId} (hD : ∀ u : St, va_D A (wC ad cs u)) (u : St) (post : St → Prop) (hw : wp_X6_forgetRun u post) : MV (ad 90, ad 91) l yX6_forgetRun cX6_forgetRun 2 none (rmm 0 0) D (tysC cs) A (wC ad cs) u [.ref (ad 0)] post :=
  met_v (by decide) (Nat.le_of_ble_eq_true rfl) (fun X C _ _ ht hA hn hsg hR => z_X6_forgetRun ⟨C, ht, fun u => by rw [hA]; exact hD u, hsg⟩ hn hR u hw)
theorem k_X6_forgetRun {X : XX} {ad : Nat → Nat} {cs : Nat → ClassId} {cc : ByteArray} {own : String} {fr lo pc : Nat} {lv : List (Nat × Value)} {st : List Value} {u : St} (C : CxC X ad cs cc own fr lo) {idx : Nat} {P : St → Prop} (hlink : Cond.methodLink own idx yX6_forgetRun ∈ W0) (hw : wp_X6_forgetRun u P) (hr : 0 + 1 ≤ fr ∧ 8 + (2 + 11) + 0 ≤ lo) (hst : (st.map fun v => v.category).sum ≤ 8) (hdg : decode cc pc = .ok (.invokevirtual idx, 3)) (k : ∀ (u2 : St), P u2 → Z X (wC ad cs u2) (pc + 3) lv st) : Z X (wC ad cs u) pc lv (.ref (ad 0) :: st) :=
  z_callVv (wf := wC ad cs) (As := []) (rest := st) C.1 0 (q0 := 0) mI_X6_forgetRun mS_X6_forgetRun rfl rfl (by rw [C.2.1, C.2.2.2]; exact c_X6_forgetRun C.2.2.1 u P hw) mC_X6_forgetRun mZ_X6 (by decide +kernel) rfl hlink hr hst hdg k

def wp_X6_run_33 (u : St) (post : Int32 → St → Prop) (px : String → St → Prop) : Prop :=
  px "java/lang/IllegalArgumentException" u
set_option maxHeartbeats 4000000 in
set_option maxRecDepth 20000 in
theorem z_X6_run_33 {X : XX} {ad : Nat → Nat} {cs : Nat → ClassId} {post : Int32 → St → Prop} (C : CxC X ad cs cX6_run RX6 6 136) (hn : xnL X = 6) (hR : rtI X cX6_run (wC ad cs) post) {px : String → St → Prop} (hT : thT X cX6_run (wC ad cs) px) (u : St) (hw : wp_X6_run_33 u post px) : Z X (wC ad cs u) 33 [] [] := by
  unfold wp_X6_run_33 at hw
  exact hT 33 27 29 "java/lang/IllegalArgumentException" _ _ dX6_run_33 dX6_run_36 dX6_run_37 dX6_run_40 (by decide) hw
def wp_X6_run_89 (u : St) (x5 : Int32) (y0 : Int32) (post : Int32 → St → Prop) (px : String → St → Prop) : Prop :=
  nm (sI u 0 y0) (fun u12 : St => (vp_in 0 4 ∧ nm (sA u12 8 (ix 0) (gI u12 18)) (fun u13 : St => wp_X1_knownParts u13 (fun (r15 : Int32) (u14 : St) => (vp_in 1 4 ∧ nm (sA u14 8 (ix 1) r15) (fun u16 : St => wp_X1_knownCells u16 (fun (r18 : Int32) (u17 : St) => (vp_in 2 4 ∧ nm (sA u17 8 (ix 2) r18) (fun u19 : St => (vp_in 3 4 ∧ nm (sA u19 8 (ix 3) (gI u19 19)) (fun u20 : St => post x5 u20)))))))))))
set_option maxHeartbeats 4000000 in
set_option maxRecDepth 20000 in
theorem z_X6_run_89 {X : XX} {ad : Nat → Nat} {cs : Nat → ClassId} {post : Int32 → St → Prop} (C : CxC X ad cs cX6_run RX6 6 136) (hn : xnL X = 6) (hR : rtI X cX6_run (wC ad cs) post) {px : String → St → Prop} (hT : thT X cX6_run (wC ad cs) px) (u : St) (x5 : Int32) (y0 : Int32) (hw : wp_X6_run_89 u x5 y0 post px) : Z X (wC ad cs u) 89 [(0, .ref (ad 0)), (5, .int x5)] [.int y0, .ref (ad 0)] := by
  unfold wp_X6_run_89 at hw
  refine pC_0_latestValue C mF_X6_86 dX6_run_89 (fun u12 eu12 => ?_)
  replace hw := hw u12 eu12
  refine z_aload_n C.1 dX6_run_92 rfl 0 rfl ?_
  refine gC_0_latestCounts C mF_X6_23 dX6_run_93 ?_
  refine z_iconst (v := 0) C.1 dX6_run_96 (by decide) ?_
  refine z_aload_n C.1 dX6_run_97 rfl 0 rfl ?_
  refine gC_0_machine C mF_X6_19 dX6_run_98 ?_
  refine gC_5_calls C mF_X6_89 dX6_run_101 ?_
  refine sC_8 C hw.1 dX6_run_104 (fun u13 eu13 => ?_)
  replace hw := hw.2 u13 eu13
  refine z_aload_n C.1 dX6_run_105 rfl 0 rfl ?_
  refine gC_0_latestCounts C mF_X6_23 dX6_run_106 ?_
  refine z_iconst (v := 1) C.1 dX6_run_109 (by decide) ?_
  refine z_aload_n C.1 dX6_run_110 rfl 0 rfl ?_
  refine gC_0_machine C mF_X6_19 dX6_run_111 ?_
  refine k_X1_knownParts C mM_X6_92 hw (by decide) (Nat.le_of_ble_eq_true rfl) dX6_run_114 (fun r15 u14 hw => ?_)
  refine sC_8 C hw.1 dX6_run_117 (fun u16 eu16 => ?_)
  replace hw := hw.2 u16 eu16
  refine z_aload_n C.1 dX6_run_118 rfl 0 rfl ?_
  refine gC_0_latestCounts C mF_X6_23 dX6_run_119 ?_
  refine z_iconst (v := 2) C.1 dX6_run_122 (by decide) ?_
  refine z_aload_n C.1 dX6_run_123 rfl 0 rfl ?_
  refine gC_0_machine C mF_X6_19 dX6_run_124 ?_
  refine k_X1_knownCells C mM_X6_95 hw (by decide) (Nat.le_of_ble_eq_true rfl) dX6_run_127 (fun r18 u17 hw => ?_)
  refine sC_8 C hw.1 dX6_run_130 (fun u19 eu19 => ?_)
  replace hw := hw.2 u19 eu19
  refine z_aload_n C.1 dX6_run_131 rfl 0 rfl ?_
  refine gC_0_latestCounts C mF_X6_23 dX6_run_132 ?_
  refine z_iconst (v := 3) C.1 dX6_run_135 (by decide) ?_
  refine z_aload_n C.1 dX6_run_136 rfl 0 rfl ?_
  refine gC_0_machine C mF_X6_19 dX6_run_137 ?_
  refine gC_5_cells C mF_X6_98 dX6_run_140 ?_
  refine sC_8 C hw.1 dX6_run_143 (fun u20 eu20 => ?_)
  replace hw := hw.2 u20 eu20
  refine z_iload C.1 dX6_run_144 1 rfl ?_
  exact hR _ _ _ _ dX6_run_146 hw
def wp_X6_run (u : St) (x1 : Int32) (x2 : Int32) (x3 : Int32) (x4 : Int32) (post : Int32 → St → Prop) (px : String → St → Prop) : Prop :=
  br ((gI u 13) = 0) (px "java/lang/IllegalStateException" u) (br (x3 < 1) (wp_X6_run_33 u post px) (br (x3 ≤ 300) (wp_X1_prepare u x1 x2 x3 x4 (fun (u4 : St) => wp_X1_workOutAll u4 (fun (r6 : Int32) (u5 : St) => wp_X6_forgetRun u5 (fun (u7 : St) => br (r6 = 2) (post r6 u7) (br (r6 = 0) (wp_X1_outcomeNumber u7 (fun (r11 : Int32) (u10 : St) => wp_X6_run_89 u10 r6 r11 post px)) (wp_X6_run_89 u7 r6 0 post px)))))) (wp_X6_run_33 u post px)))
set_option maxHeartbeats 4000000 in
set_option maxRecDepth 20000 in
theorem z_X6_run {X : XX} {ad : Nat → Nat} {cs : Nat → ClassId} {post : Int32 → St → Prop} (C : CxC X ad cs cX6_run RX6 6 136) (hn : xnL X = 6) (hR : rtI X cX6_run (wC ad cs) post) {px : String → St → Prop} (hT : thT X cX6_run (wC ad cs) px) (u : St) (x1 : Int32) (x2 : Int32) (x3 : Int32) (x4 : Int32) (hw : wp_X6_run u x1 x2 x3 x4 post px) : Z X (wC ad cs u) 0 [(0, .ref (ad 0)), (1, .int x1), (2, .int x2), (3, .int x3), (4, .int x4)] [] := by
  unfold wp_X6_run at hw
  refine z_aload_n C.1 dX6_run_0 rfl 0 rfl ?_
  refine gC_0_machine C mF_X6_19 dX6_run_1 ?_
  refine gC_5_program C mF_X6_57 dX6_run_4 ?_
  refine gC_4_definitions C mF_X6_65 dX6_run_7 ?_
  refine z_if_ne (tgt := 21) C.1 dX6_run_10 (by decide) (fun c1 => ?_) (fun c1 => ?_)
  · replace hw := hw.2 c1
    refine z_iload_n C.1 dX6_run_21 rfl 3 rfl ?_
    refine z_iconst (v := 1) C.1 dX6_run_22 (by decide) ?_
    refine z_icmp_lt (tgt := 33) C.1 dX6_run_23 (by decide) (fun c2 => ?_) (fun c2 => ?_)
    · replace hw := hw.1 c2
      refine z_lv [] rfl ?_
      exact z_X6_run_33 C hn hR hT _ hw
    · replace hw := hw.2 c2
      refine z_iload_n C.1 dX6_run_26 rfl 3 rfl ?_
      refine z_sipush (v := 300) C.1 dX6_run_27 (by decide) ?_
      refine z_icmp_le (tgt := 41) C.1 dX6_run_30 (by decide) (fun c3 => ?_) (fun c3 => ?_)
      · replace hw := hw.1 c3
        refine z_aload_n C.1 dX6_run_41 rfl 0 rfl ?_
        refine gC_0_machine C mF_X6_19 dX6_run_42 ?_
        refine z_iload_n C.1 dX6_run_45 rfl 1 rfl ?_
        refine z_iload_n C.1 dX6_run_46 rfl 2 rfl ?_
        refine z_iload_n C.1 dX6_run_47 rfl 3 rfl ?_
        refine z_iload C.1 dX6_run_48 4 rfl ?_
        refine k_X1_prepare C mM_X6_73 hw (by decide) (Nat.le_of_ble_eq_true rfl) dX6_run_50 (fun u4 hw => ?_)
        refine z_aload_n C.1 dX6_run_53 rfl 0 rfl ?_
        refine gC_0_machine C mF_X6_19 dX6_run_54 ?_
        refine k_X1_workOutAll C mM_X6_77 hw (by decide) (Nat.le_of_ble_eq_true rfl) dX6_run_57 (fun r6 u5 hw => ?_)
        refine z_istore (lv' := [(5, .int r6), (0, .ref (ad 0)), (1, .int x1), (2, .int x2), (3, .int x3), (4, .int x4)]) C.1 dX6_run_60 (by rw [hn]; decide) rfl ?_
        refine z_aload_n C.1 dX6_run_62 rfl 1 rfl ?_
        refine k_X6_forgetRun C mM_X6_80 hw (by decide) (Nat.le_of_ble_eq_true rfl) dX6_run_63 (fun u7 hw => ?_)
        refine z_iload C.1 dX6_run_66 0 rfl ?_
        refine z_iconst (v := 2) C.1 dX6_run_68 (by decide) ?_
        refine z_icmp_eq (tgt := 144) C.1 dX6_run_69 (by decide) (fun c8 => ?_) (fun c8 => ?_)
        · replace hw := hw.1 c8
          refine z_iload C.1 dX6_run_144 0 rfl ?_
          exact hR _ _ _ _ dX6_run_146 hw
        · replace hw := hw.2 c8
          refine z_aload_n C.1 dX6_run_72 rfl 1 rfl ?_
          refine z_iload C.1 dX6_run_73 0 rfl ?_
          refine z_if_ne (tgt := 88) C.1 dX6_run_75 (by decide) (fun c9 => ?_) (fun c9 => ?_)
          · replace hw := hw.2 c9
            refine z_iconst (v := 0) C.1 dX6_run_88 (by decide) ?_
            refine z_lv [1, 0] rfl ?_
            exact z_X6_run_89 C hn hR hT _ _ _ hw
          · replace hw := hw.1 c9
            refine z_aload_n C.1 dX6_run_78 rfl 1 rfl ?_
            refine gC_0_machine C mF_X6_19 dX6_run_79 ?_
            refine k_X1_outcomeNumber C mM_X6_83 hw (by decide) (Nat.le_of_ble_eq_true rfl) dX6_run_82 (fun r11 u10 hw => ?_)
            refine z_goto (tgt := 89) C.1 dX6_run_85 (by decide) ?_
            refine z_lv [1, 0] rfl ?_
            exact z_X6_run_89 C hn hR hT _ _ _ hw
      · replace hw := hw.2 c3
        refine z_lv [] rfl ?_
        exact z_X6_run_33 C hn hR hT _ hw
  · replace hw := hw.1 c1
    exact hT 13 70 72 "java/lang/IllegalStateException" _ _ dX6_run_13 dX6_run_16 dX6_run_17 dX6_run_20 (by decide) hw

def wp_X6_value (u : St) (post : Int32 → St → Prop) : Prop :=
  post (gI u 0) u
set_option maxHeartbeats 4000000 in
set_option maxRecDepth 20000 in
theorem z_X6_value {X : XX} {ad : Nat → Nat} {cs : Nat → ClassId} {post : Int32 → St → Prop} (C : CxC X ad cs cX6_value RX6 0 0) (hn : xnL X = 1) (hR : rtI X cX6_value (wC ad cs) post) (u : St) (hw : wp_X6_value u post) : Z X (wC ad cs u) 0 [(0, .ref (ad 0))] [] := by
  unfold wp_X6_value at hw
  refine z_aload_n C.1 dX6_value_0 rfl 0 rfl ?_
  refine gC_0_latestValue C mF_X6_86 dX6_value_1 ?_
  exact hR _ _ _ _ dX6_value_4 hw
theorem c_X6_value {l : Launch} {D : va_G} {A : Nat → Prop} {ad : Nat → Nat} {cs : Nat → ClassId} (hD : ∀ u : St, va_D A (wC ad cs u)) (u : St) (post : Int32 → St → Prop) (hw : wp_X6_value u post) : MI (ad 90, ad 91) l yX6_value cX6_value 1 (some .int) (rmm 0 0) D (tysC cs) A (wC ad cs) u [.ref (ad 0)] post :=
  met_i (by decide) (Nat.le_of_ble_eq_true rfl) (fun X C _ _ ht hA hn hsg hR => z_X6_value ⟨C, ht, fun u => by rw [hA]; exact hD u, hsg⟩ hn hR u hw)
theorem k_X6_value {X : XX} {ad : Nat → Nat} {cs : Nat → ClassId} {cc : ByteArray} {own : String} {fr lo pc : Nat} {lv : List (Nat × Value)} {st : List Value} {u : St} (C : CxC X ad cs cc own fr lo) {idx : Nat} {P : Int32 → St → Prop} (hlink : Cond.methodLink own idx yX6_value ∈ W0) (hw : wp_X6_value u P) (hr : 0 + 1 ≤ fr ∧ 8 + (1 + 11) + 0 ≤ lo) (hst : (st.map fun v => v.category).sum ≤ 8) (hdg : decode cc pc = .ok (.invokevirtual idx, 3)) (k : ∀ (r : Int32) (u2 : St), P r u2 → Z X (wC ad cs u2) (pc + 3) lv (.int r :: st)) : Z X (wC ad cs u) pc lv (.ref (ad 0) :: st) :=
  z_callVi (wf := wC ad cs) (As := []) (rest := st) C.1 0 (q0 := 0) mI_X6_value mS_X6_value rfl rfl (by rw [C.2.1, C.2.2.2]; exact c_X6_value C.2.2.1 u P hw) mC_X6_value mZ_X6 (by decide +kernel) rfl hlink hr hst hdg k

def wp_X6_count_9 (u : St) (post : Int32 → St → Prop) (px : String → St → Prop) : Prop :=
  px "java/lang/IndexOutOfBoundsException" u
set_option maxHeartbeats 4000000 in
set_option maxRecDepth 20000 in
theorem z_X6_count_9 {X : XX} {ad : Nat → Nat} {cs : Nat → ClassId} {post : Int32 → St → Prop} (C : CxC X ad cs cX6_count RX6 0 0) (hn : xnL X = 2) (hR : rtI X cX6_count (wC ad cs) post) {px : String → St → Prop} (hT : thT X cX6_count (wC ad cs) px) (u : St) (hw : wp_X6_count_9 u post px) : Z X (wC ad cs u) 9 [] [] := by
  unfold wp_X6_count_9 at hw
  exact hT 9 101 103 "java/lang/IndexOutOfBoundsException" _ _ dX6_count_9 dX6_count_12 dX6_count_13 dX6_count_16 (by decide) hw
def wp_X6_count (u : St) (x1 : Int32) (post : Int32 → St → Prop) (px : String → St → Prop) : Prop :=
  br (x1 < 0) (wp_X6_count_9 u post px) (br (x1 ≤ 5) (br (x1 = 5) (post (gI u 8) u) (br (x1 = 4) (post (gI u 13) u) ((vp_in x1 4 ∧ post (gA u 8 (ix x1)) u)))) (wp_X6_count_9 u post px))
set_option maxHeartbeats 4000000 in
set_option maxRecDepth 20000 in
theorem z_X6_count {X : XX} {ad : Nat → Nat} {cs : Nat → ClassId} {post : Int32 → St → Prop} (C : CxC X ad cs cX6_count RX6 0 0) (hn : xnL X = 2) (hR : rtI X cX6_count (wC ad cs) post) {px : String → St → Prop} (hT : thT X cX6_count (wC ad cs) px) (u : St) (x1 : Int32) (hw : wp_X6_count u x1 post px) : Z X (wC ad cs u) 0 [(0, .ref (ad 0)), (1, .int x1)] [] := by
  unfold wp_X6_count at hw
  refine z_iload_n C.1 dX6_count_0 rfl 1 rfl ?_
  refine z_if_lt (tgt := 9) C.1 dX6_count_1 (by decide) (fun c1 => ?_) (fun c1 => ?_)
  · replace hw := hw.1 c1
    refine z_lv [] rfl ?_
    exact z_X6_count_9 C hn hR hT _ hw
  · replace hw := hw.2 c1
    refine z_iload_n C.1 dX6_count_4 rfl 1 rfl ?_
    refine z_iconst (v := 5) C.1 dX6_count_5 (by decide) ?_
    refine z_icmp_le (tgt := 17) C.1 dX6_count_6 (by decide) (fun c2 => ?_) (fun c2 => ?_)
    · replace hw := hw.1 c2
      refine z_iload_n C.1 dX6_count_17 rfl 1 rfl ?_
      refine z_iconst (v := 5) C.1 dX6_count_18 (by decide) ?_
      refine z_icmp_ne (tgt := 33) C.1 dX6_count_19 (by decide) (fun c3 => ?_) (fun c3 => ?_)
      · replace hw := hw.2 c3
        refine z_iload_n C.1 dX6_count_33 rfl 1 rfl ?_
        refine z_iconst (v := 4) C.1 dX6_count_34 (by decide) ?_
        refine z_icmp_ne (tgt := 51) C.1 dX6_count_35 (by decide) (fun c4 => ?_) (fun c4 => ?_)
        · replace hw := hw.2 c4
          refine z_aload_n C.1 dX6_count_51 rfl 0 rfl ?_
          refine gC_0_latestCounts C mF_X6_23 dX6_count_52 ?_
          refine z_iload_n C.1 dX6_count_55 rfl 1 rfl ?_
          refine lC_8 C hw.1 dX6_count_56 ?_
          replace hw := hw.2
          exact hR _ _ _ _ dX6_count_57 hw
        · replace hw := hw.1 c4
          refine z_aload_n C.1 dX6_count_38 rfl 0 rfl ?_
          refine gC_0_machine C mF_X6_19 dX6_count_39 ?_
          refine gC_5_program C mF_X6_57 dX6_count_42 ?_
          refine gC_4_definitions C mF_X6_65 dX6_count_45 ?_
          refine z_goto (tgt := 57) C.1 dX6_count_48 (by decide) ?_
          exact hR _ _ _ _ dX6_count_57 hw
      · replace hw := hw.1 c3
        refine z_aload_n C.1 dX6_count_22 rfl 0 rfl ?_
        refine gC_0_reader C mF_X6_10 dX6_count_23 ?_
        refine gC_1_tape C mF_X6_30 dX6_count_26 ?_
        refine gC_2_length C mF_X6_47 dX6_count_29 ?_
        exact hR _ _ _ _ dX6_count_32 hw
    · replace hw := hw.2 c2
      refine z_lv [] rfl ?_
      exact z_X6_count_9 C hn hR hT _ hw

def wp_X6_definition_27 (u : St) (post : Int32 → St → Prop) (px : String → St → Prop) : Prop :=
  px "java/lang/IndexOutOfBoundsException" u
set_option maxHeartbeats 4000000 in
set_option maxRecDepth 20000 in
theorem z_X6_definition_27 {X : XX} {ad : Nat → Nat} {cs : Nat → ClassId} {post : Int32 → St → Prop} (C : CxC X ad cs cX6_definition RX6 0 0) (hn : xnL X = 3) (hR : rtI X cX6_definition (wC ad cs) post) {px : String → St → Prop} (hT : thT X cX6_definition (wC ad cs) px) (u : St) (hw : wp_X6_definition_27 u post px) : Z X (wC ad cs u) 27 [] [] := by
  unfold wp_X6_definition_27 at hw
  exact hT 27 101 103 "java/lang/IndexOutOfBoundsException" _ _ dX6_definition_27 dX6_definition_30 dX6_definition_31 dX6_definition_34 (by decide) hw
def wp_X6_definition (u : St) (x1 : Int32) (x2 : Int32) (post : Int32 → St → Prop) (px : String → St → Prop) : Prop :=
  br (x1 < 0) (wp_X6_definition_27 u post px) (br ((gI u 13) ≤ x1) (wp_X6_definition_27 u post px) (br (x2 < 0) (wp_X6_definition_27 u post px) (br (x2 ≤ 1) (br (x2 = 0) ((vp_in x1 12 ∧ post (gA u 22 (ix x1)) u)) ((vp_in x1 12 ∧ post (gA u 23 (ix x1)) u))) (wp_X6_definition_27 u post px))))
set_option maxHeartbeats 4000000 in
set_option maxRecDepth 20000 in
theorem z_X6_definition {X : XX} {ad : Nat → Nat} {cs : Nat → ClassId} {post : Int32 → St → Prop} (C : CxC X ad cs cX6_definition RX6 0 0) (hn : xnL X = 3) (hR : rtI X cX6_definition (wC ad cs) post) {px : String → St → Prop} (hT : thT X cX6_definition (wC ad cs) px) (u : St) (x1 : Int32) (x2 : Int32) (hw : wp_X6_definition u x1 x2 post px) : Z X (wC ad cs u) 0 [(0, .ref (ad 0)), (1, .int x1), (2, .int x2)] [] := by
  unfold wp_X6_definition at hw
  refine z_iload_n C.1 dX6_definition_0 rfl 1 rfl ?_
  refine z_if_lt (tgt := 27) C.1 dX6_definition_1 (by decide) (fun c1 => ?_) (fun c1 => ?_)
  · replace hw := hw.1 c1
    refine z_lv [] rfl ?_
    exact z_X6_definition_27 C hn hR hT _ hw
  · replace hw := hw.2 c1
    refine z_iload_n C.1 dX6_definition_4 rfl 1 rfl ?_
    refine z_aload_n C.1 dX6_definition_5 rfl 0 rfl ?_
    refine gC_0_machine C mF_X6_19 dX6_definition_6 ?_
    refine gC_5_program C mF_X6_57 dX6_definition_9 ?_
    refine gC_4_definitions C mF_X6_65 dX6_definition_12 ?_
    refine z_icmp_ge (tgt := 27) C.1 dX6_definition_15 (by decide) (fun c2 => ?_) (fun c2 => ?_)
    · replace hw := hw.1 c2
      refine z_lv [] rfl ?_
      exact z_X6_definition_27 C hn hR hT _ hw
    · replace hw := hw.2 c2
      refine z_iload_n C.1 dX6_definition_18 rfl 2 rfl ?_
      refine z_if_lt (tgt := 27) C.1 dX6_definition_19 (by decide) (fun c3 => ?_) (fun c3 => ?_)
      · replace hw := hw.1 c3
        refine z_lv [] rfl ?_
        exact z_X6_definition_27 C hn hR hT _ hw
      · replace hw := hw.2 c3
        refine z_iload_n C.1 dX6_definition_22 rfl 2 rfl ?_
        refine z_iconst (v := 1) C.1 dX6_definition_23 (by decide) ?_
        refine z_icmp_le (tgt := 35) C.1 dX6_definition_24 (by decide) (fun c4 => ?_) (fun c4 => ?_)
        · replace hw := hw.1 c4
          refine z_iload_n C.1 dX6_definition_35 rfl 2 rfl ?_
          refine z_if_ne (tgt := 54) C.1 dX6_definition_36 (by decide) (fun c5 => ?_) (fun c5 => ?_)
          · replace hw := hw.2 c5
            refine z_aload_n C.1 dX6_definition_54 rfl 0 rfl ?_
            refine gC_0_machine C mF_X6_19 dX6_definition_55 ?_
            refine gC_5_program C mF_X6_57 dX6_definition_58 ?_
            refine gC_4_parts C mF_X6_107 dX6_definition_61 ?_
            refine z_iload_n C.1 dX6_definition_64 rfl 1 rfl ?_
            refine lC_23 C hw.1 dX6_definition_65 ?_
            replace hw := hw.2
            exact hR _ _ _ _ dX6_definition_66 hw
          · replace hw := hw.1 c5
            refine z_aload_n C.1 dX6_definition_39 rfl 0 rfl ?_
            refine gC_0_machine C mF_X6_19 dX6_definition_40 ?_
            refine gC_5_program C mF_X6_57 dX6_definition_43 ?_
            refine gC_4_arguments C mF_X6_104 dX6_definition_46 ?_
            refine z_iload_n C.1 dX6_definition_49 rfl 1 rfl ?_
            refine lC_22 C hw.1 dX6_definition_50 ?_
            replace hw := hw.2
            refine z_goto (tgt := 66) C.1 dX6_definition_51 (by decide) ?_
            exact hR _ _ _ _ dX6_definition_66 hw
        · replace hw := hw.2 c4
          refine z_lv [] rfl ?_
          exact z_X6_definition_27 C hn hR hT _ hw

def wp_X6_clear (u : St) (post : St → Prop) : Prop :=
  nm (sI u 13 0) (fun u1 : St => wp_X5_makeEmpty u1 (fun (u2 : St) => wp_X6_forgetRun u2 (fun (u3 : St) => post u3)))
set_option maxHeartbeats 4000000 in
set_option maxRecDepth 20000 in
theorem z_X6_clear {X : XX} {ad : Nat → Nat} {cs : Nat → ClassId} {post : St → Prop} (C : CxC X ad cs cX6_clear RX6 1 21) (hn : xnL X = 1) (hR : rtV X cX6_clear (wC ad cs) post) (u : St) (hw : wp_X6_clear u post) : Z X (wC ad cs u) 0 [(0, .ref (ad 0))] [] := by
  unfold wp_X6_clear at hw
  refine z_aload_n C.1 dX6_clear_0 rfl 0 rfl ?_
  refine gC_0_machine C mF_X6_19 dX6_clear_1 ?_
  refine gC_5_program C mF_X6_57 dX6_clear_4 ?_
  refine z_iconst (v := 0) C.1 dX6_clear_7 (by decide) ?_
  refine pC_4_definitions C mF_X6_65 dX6_clear_8 (fun u1 eu1 => ?_)
  replace hw := hw u1 eu1
  refine z_aload_n C.1 dX6_clear_11 rfl 0 rfl ?_
  refine gC_0_reader C mF_X6_10 dX6_clear_12 ?_
  refine gC_1_tape C mF_X6_30 dX6_clear_15 ?_
  refine k_X5_makeEmpty C mM_X6_54 hw (by decide) (Nat.le_of_ble_eq_true rfl) dX6_clear_18 (fun u2 hw => ?_)
  refine z_aload_n C.1 dX6_clear_21 rfl 0 rfl ?_
  refine k_X6_forgetRun C mM_X6_80 hw (by decide) (Nat.le_of_ble_eq_true rfl) dX6_clear_22 (fun u3 hw => ?_)
  exact hR _ _ _ dX6_clear_25 hw
theorem c_X6_clear {l : Launch} {D : va_G} {A : Nat → Prop} {ad : Nat → Nat} {cs : Nat → ClassId} (hD : ∀ u : St, va_D A (wC ad cs u)) (u : St) (post : St → Prop) (hw : wp_X6_clear u post) : MV (ad 90, ad 91) l yX6_clear cX6_clear 1 none (rmm 1 21) D (tysC cs) A (wC ad cs) u [.ref (ad 0)] post :=
  met_v (by decide) (Nat.le_of_ble_eq_true rfl) (fun X C _ _ ht hA hn hsg hR => z_X6_clear ⟨C, ht, fun u => by rw [hA]; exact hD u, hsg⟩ hn hR u hw)
theorem k_X6_clear {X : XX} {ad : Nat → Nat} {cs : Nat → ClassId} {cc : ByteArray} {own : String} {fr lo pc : Nat} {lv : List (Nat × Value)} {st : List Value} {u : St} (C : CxC X ad cs cc own fr lo) {idx : Nat} {P : St → Prop} (hlink : Cond.methodLink own idx yX6_clear ∈ W0) (hw : wp_X6_clear u P) (hr : 1 + 1 ≤ fr ∧ 8 + (1 + 11) + 21 ≤ lo) (hst : (st.map fun v => v.category).sum ≤ 8) (hdg : decode cc pc = .ok (.invokevirtual idx, 3)) (k : ∀ (u2 : St), P u2 → Z X (wC ad cs u2) (pc + 3) lv st) : Z X (wC ad cs u) pc lv (.ref (ad 0) :: st) :=
  z_callVv (wf := wC ad cs) (As := []) (rest := st) C.1 0 (q0 := 0) mI_X6_clear mS_X6_clear rfl rfl (by rw [C.2.1, C.2.2.2]; exact c_X6_clear C.2.2.1 u P hw) mC_X6_clear mZ_X6 (by decide +kernel) rfl hlink hr hst hdg k
