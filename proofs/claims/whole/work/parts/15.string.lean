def wp_J0_isLatin1_aae02 (u : St) (post : Int32 → St → Prop) : Prop :=
  br ((1 : Int32) = 0) ((bz 0 ∧ post 0 u)) (br ((0 : Int32) = 0) ((bz 1 ∧ post 1 u)) ((bz 0 ∧ post 0 u)))
set_option maxHeartbeats 4000000 in
set_option maxRecDepth 20000 in
theorem z_J0_isLatin1_aae02 {X : XX} {ad : Nat → Nat} {cs : Nat → ClassId} {post : Int32 → St → Prop} (C : CxC X ad cs cJ0_isLatin1_aae02 RJ0 0 0) (hn : xnL X = 1) (hR : rtZ X cJ0_isLatin1_aae02 (wC ad cs) post) (u : St) (hw : wp_J0_isLatin1_aae02 u post) : Z X (wC ad cs u) 0 [(0, .ref (ad 90))] [] := by
  unfold wp_J0_isLatin1_aae02 at hw
  refine z_compact C mF_J0_38 dJ0_isLatin1_aae02_0 ?_
  refine z_if_eq (tgt := 17) C.1 dJ0_isLatin1_aae02_3 (by decide) (fun c1 => ?_) (fun c1 => ?_)
  · replace hw := hw.1 c1
    refine z_iconst (v := 0) C.1 dJ0_isLatin1_aae02_17 (by decide) ?_
    exact hR _ _ _ _ dJ0_isLatin1_aae02_18 hw
  · replace hw := hw.2 c1
    refine z_aload_n C.1 dJ0_isLatin1_aae02_6 rfl 0 rfl ?_
    refine gC_90_coder C mF_J0_15 dJ0_isLatin1_aae02_7 ?_
    refine z_if_ne (tgt := 17) C.1 dJ0_isLatin1_aae02_10 (by decide) (fun c2 => ?_) (fun c2 => ?_)
    · replace hw := hw.2 c2
      refine z_iconst (v := 0) C.1 dJ0_isLatin1_aae02_17 (by decide) ?_
      exact hR _ _ _ _ dJ0_isLatin1_aae02_18 hw
    · replace hw := hw.1 c2
      refine z_iconst (v := 1) C.1 dJ0_isLatin1_aae02_13 (by decide) ?_
      refine z_goto (tgt := 18) C.1 dJ0_isLatin1_aae02_14 (by decide) ?_
      exact hR _ _ _ _ dJ0_isLatin1_aae02_18 hw
theorem c_J0_isLatin1_aae02 {l : Launch} {D : va_G} {A : Nat → Prop} {ad : Nat → Nat} {cs : Nat → ClassId} (hD : ∀ u : St, va_D A (wC ad cs u)) (u : St) (post : Int32 → St → Prop) (hw : wp_J0_isLatin1_aae02 u post) : MI (ad 90, ad 91) l yJ0_isLatin1_aae02 cJ0_isLatin1_aae02 1 (some .boolean) (rmm 0 0) D (tysC cs) A (wC ad cs) u [.ref (ad 90)] post :=
  met_z (by decide) (Nat.le_of_ble_eq_true rfl) (fun X C _ _ ht hA hn hsg hR => z_J0_isLatin1_aae02 ⟨C, ht, fun u => by rw [hA]; exact hD u, hsg⟩ hn hR u hw)
theorem k_J0_isLatin1_aae02 {X : XX} {ad : Nat → Nat} {cs : Nat → ClassId} {cc : ByteArray} {own : String} {fr lo pc : Nat} {lv : List (Nat × Value)} {st : List Value} {u : St} (C : CxC X ad cs cc own fr lo) {idx : Nat} {P : Int32 → St → Prop} (hlink : Cond.methodLink own idx yJ0_isLatin1_aae02 ∈ W0) (hw : wp_J0_isLatin1_aae02 u P) (hr : 0 + 1 ≤ fr ∧ 8 + (1 + 11) + 0 ≤ lo) (hst : (st.map fun v => v.category).sum ≤ 8) (hdg : decode cc pc = .ok (.invokevirtual idx, 3)) (k : ∀ (r : Int32) (u2 : St), P r u2 → Z X (wC ad cs u2) (pc + 3) lv (.int r :: st)) : Z X (wC ad cs u) pc lv (.ref (ad 90) :: st) :=
  z_callTi (wf := wC ad cs) (As := []) (rest := st) C.1 0 mI_J0_isLatin1_aae02 mS_J0_isLatin1_aae02 (by rw [C.2.2.2]) rfl (by rw [C.2.1, C.2.2.2]; exact c_J0_isLatin1_aae02 C.2.2.1 u P hw) mC_J0_isLatin1_aae02 mZ_J0 (by decide +kernel) rfl hlink hr hst hdg k

def wp_J0_coder_7d493 (u : St) (post : Int32 → St → Prop) : Prop :=
  br ((1 : Int32) = 0) ((bz 1 ∧ post 1 u)) ((bz 0 ∧ post 0 u))
set_option maxHeartbeats 4000000 in
set_option maxRecDepth 20000 in
theorem z_J0_coder_7d493 {X : XX} {ad : Nat → Nat} {cs : Nat → ClassId} {post : Int32 → St → Prop} (C : CxC X ad cs cJ0_coder_7d493 RJ0 0 0) (hn : xnL X = 1) (hR : rtZ X cJ0_coder_7d493 (wC ad cs) post) (u : St) (hw : wp_J0_coder_7d493 u post) : Z X (wC ad cs u) 0 [(0, .ref (ad 90))] [] := by
  unfold wp_J0_coder_7d493 at hw
  refine z_compact C mF_J0_38 dJ0_coder_7d493_0 ?_
  refine z_if_eq (tgt := 13) C.1 dJ0_coder_7d493_3 (by decide) (fun c1 => ?_) (fun c1 => ?_)
  · replace hw := hw.1 c1
    refine z_iconst (v := 1) C.1 dJ0_coder_7d493_13 (by decide) ?_
    exact hR _ _ _ _ dJ0_coder_7d493_14 hw
  · replace hw := hw.2 c1
    refine z_aload_n C.1 dJ0_coder_7d493_6 rfl 0 rfl ?_
    refine gC_90_coder C mF_J0_15 dJ0_coder_7d493_7 ?_
    refine z_goto (tgt := 14) C.1 dJ0_coder_7d493_10 (by decide) ?_
    exact hR _ _ _ _ dJ0_coder_7d493_14 hw
theorem c_J0_coder_7d493 {l : Launch} {D : va_G} {A : Nat → Prop} {ad : Nat → Nat} {cs : Nat → ClassId} (hD : ∀ u : St, va_D A (wC ad cs u)) (u : St) (post : Int32 → St → Prop) (hw : wp_J0_coder_7d493 u post) : MI (ad 90, ad 91) l yJ0_coder_7d493 cJ0_coder_7d493 1 (some .byte) (rmm 0 0) D (tysC cs) A (wC ad cs) u [.ref (ad 90)] post :=
  met_b (by decide) (Nat.le_of_ble_eq_true rfl) (fun X C _ _ ht hA hn hsg hR => z_J0_coder_7d493 ⟨C, ht, fun u => by rw [hA]; exact hD u, hsg⟩ hn hR u hw)
theorem k_J0_coder_7d493 {X : XX} {ad : Nat → Nat} {cs : Nat → ClassId} {cc : ByteArray} {own : String} {fr lo pc : Nat} {lv : List (Nat × Value)} {st : List Value} {u : St} (C : CxC X ad cs cc own fr lo) {idx : Nat} {P : Int32 → St → Prop} (hlink : Cond.methodLink own idx yJ0_coder_7d493 ∈ W0) (hw : wp_J0_coder_7d493 u P) (hr : 0 + 1 ≤ fr ∧ 8 + (1 + 11) + 0 ≤ lo) (hst : (st.map fun v => v.category).sum ≤ 8) (hdg : decode cc pc = .ok (.invokevirtual idx, 3)) (k : ∀ (r : Int32) (u2 : St), P r u2 → Z X (wC ad cs u2) (pc + 3) lv (.int r :: st)) : Z X (wC ad cs u) pc lv (.ref (ad 90) :: st) :=
  z_callTi (wf := wC ad cs) (As := []) (rest := st) C.1 0 mI_J0_coder_7d493 mS_J0_coder_7d493 (by rw [C.2.2.2]) rfl (by rw [C.2.1, C.2.2.2]; exact c_J0_coder_7d493 C.2.2.1 u P hw) mC_J0_coder_7d493 mZ_J0 (by decide +kernel) rfl hlink hr hst hdg k

def wp_J0_length_8abf5 (u : St) (post : Int32 → St → Prop) : Prop :=
  wp_J0_coder_7d493 u (fun (r2 : Int32) (u1 : St) => post (14 >>> (r2 &&& 31)) u1)
set_option maxHeartbeats 4000000 in
set_option maxRecDepth 20000 in
theorem z_J0_length_8abf5 {X : XX} {ad : Nat → Nat} {cs : Nat → ClassId} {post : Int32 → St → Prop} (C : CxC X ad cs cJ0_length_8abf5 RJ0 1 20) (hn : xnL X = 1) (hR : rtI X cJ0_length_8abf5 (wC ad cs) post) (u : St) (hw : wp_J0_length_8abf5 u post) : Z X (wC ad cs u) 0 [(0, .ref (ad 90))] [] := by
  unfold wp_J0_length_8abf5 at hw
  refine z_aload_n C.1 dJ0_length_8abf5_0 rfl 0 rfl ?_
  refine gC_90_value C mF_J0_9 dJ0_length_8abf5_1 ?_
  refine nC_91 C dJ0_length_8abf5_4 ?_
  refine z_aload_n C.1 dJ0_length_8abf5_5 rfl 0 rfl ?_
  refine k_J0_coder_7d493 C mM_J0_335 hw (by decide) (Nat.le_of_ble_eq_true rfl) dJ0_length_8abf5_6 (fun r2 u1 hw => ?_)
  refine z_ishr C.1 dJ0_length_8abf5_9 ?_
  exact hR _ _ _ _ dJ0_length_8abf5_10 hw
theorem c_J0_length_8abf5 {l : Launch} {D : va_G} {A : Nat → Prop} {ad : Nat → Nat} {cs : Nat → ClassId} (hD : ∀ u : St, va_D A (wC ad cs u)) (u : St) (post : Int32 → St → Prop) (hw : wp_J0_length_8abf5 u post) : MI (ad 90, ad 91) l yJ0_length_8abf5 cJ0_length_8abf5 1 (some .int) (rmm 1 20) D (tysC cs) A (wC ad cs) u [.ref (ad 90)] post :=
  met_i (by decide) (Nat.le_of_ble_eq_true rfl) (fun X C _ _ ht hA hn hsg hR => z_J0_length_8abf5 ⟨C, ht, fun u => by rw [hA]; exact hD u, hsg⟩ hn hR u hw)
theorem k_J0_length_8abf5 {X : XX} {ad : Nat → Nat} {cs : Nat → ClassId} {cc : ByteArray} {own : String} {fr lo pc : Nat} {lv : List (Nat × Value)} {st : List Value} {u : St} (C : CxC X ad cs cc own fr lo) {idx : Nat} {P : Int32 → St → Prop} (hlink : Cond.methodLink own idx yJ0_length_8abf5 ∈ W0) (hw : wp_J0_length_8abf5 u P) (hr : 1 + 1 ≤ fr ∧ 8 + (1 + 11) + 20 ≤ lo) (hst : (st.map fun v => v.category).sum ≤ 8) (hdg : decode cc pc = .ok (.invokevirtual idx, 3)) (k : ∀ (r : Int32) (u2 : St), P r u2 → Z X (wC ad cs u2) (pc + 3) lv (.int r :: st)) : Z X (wC ad cs u) pc lv (.ref (ad 90) :: st) :=
  z_callTi (wf := wC ad cs) (As := []) (rest := st) C.1 0 mI_J0_length_8abf5 mS_J0_length_8abf5 (by rw [C.2.2.2]) rfl (by rw [C.2.1, C.2.2.2]; exact c_J0_length_8abf5 C.2.2.1 u P hw) mC_J0_length_8abf5 mZ_J0 (by decide +kernel) rfl hlink hr hst hdg k

def wp_J1_canEncode_9a6ad (u : St) (x0 : Int32) (post : Int32 → St → Prop) : Prop :=
  br (x0 < 0) ((bz 0 ∧ post 0 u)) (br (255 < x0) ((bz 0 ∧ post 0 u)) ((bz 1 ∧ post 1 u)))
set_option maxHeartbeats 4000000 in
set_option maxRecDepth 20000 in
theorem z_J1_canEncode_9a6ad {X : XX} {ad : Nat → Nat} {cs : Nat → ClassId} {post : Int32 → St → Prop} (C : CxC X ad cs cJ1_canEncode_9a6ad RJ1 0 0) (hn : xnL X = 1) (hR : rtZ X cJ1_canEncode_9a6ad (wC ad cs) post) (u : St) (x0 : Int32) (hw : wp_J1_canEncode_9a6ad u x0 post) : Z X (wC ad cs u) 0 [(0, .int x0)] [] := by
  unfold wp_J1_canEncode_9a6ad at hw
  refine z_iload_n C.1 dJ1_canEncode_9a6ad_0 rfl 0 rfl ?_
  refine z_if_lt (tgt := 15) C.1 dJ1_canEncode_9a6ad_1 (by decide) (fun c1 => ?_) (fun c1 => ?_)
  · replace hw := hw.1 c1
    refine z_iconst (v := 0) C.1 dJ1_canEncode_9a6ad_15 (by decide) ?_
    exact hR _ _ _ _ dJ1_canEncode_9a6ad_16 hw
  · replace hw := hw.2 c1
    refine z_iload_n C.1 dJ1_canEncode_9a6ad_4 rfl 0 rfl ?_
    refine z_sipush (v := 255) C.1 dJ1_canEncode_9a6ad_5 (by decide) ?_
    refine z_icmp_gt (tgt := 15) C.1 dJ1_canEncode_9a6ad_8 (by decide) (fun c2 => ?_) (fun c2 => ?_)
    · replace hw := hw.1 c2
      refine z_iconst (v := 0) C.1 dJ1_canEncode_9a6ad_15 (by decide) ?_
      exact hR _ _ _ _ dJ1_canEncode_9a6ad_16 hw
    · replace hw := hw.2 c2
      refine z_iconst (v := 1) C.1 dJ1_canEncode_9a6ad_11 (by decide) ?_
      refine z_goto (tgt := 16) C.1 dJ1_canEncode_9a6ad_12 (by decide) ?_
      exact hR _ _ _ _ dJ1_canEncode_9a6ad_16 hw
theorem c_J1_canEncode_9a6ad {l : Launch} {D : va_G} {A : Nat → Prop} {ad : Nat → Nat} {cs : Nat → ClassId} (hD : ∀ u : St, va_D A (wC ad cs u)) (u : St) (x0 : Int32) (post : Int32 → St → Prop) (hw : wp_J1_canEncode_9a6ad u x0 post) : MI (ad 90, ad 91) l yJ1_canEncode_9a6ad cJ1_canEncode_9a6ad 1 (some .boolean) (rmm 0 0) D (tysC cs) A (wC ad cs) u [.int x0] post :=
  met_z (by decide) (Nat.le_of_ble_eq_true rfl) (fun X C _ _ ht hA hn hsg hR => z_J1_canEncode_9a6ad ⟨C, ht, fun u => by rw [hA]; exact hD u, hsg⟩ hn hR u x0 hw)
theorem k_J1_canEncode_9a6ad {X : XX} {ad : Nat → Nat} {cs : Nat → ClassId} {cc : ByteArray} {own : String} {fr lo pc : Nat} {lv : List (Nat × Value)} {st : List Value} {u : St} (C : CxC X ad cs cc own fr lo) {idx : Nat} {x0 : Int32} {P : Int32 → St → Prop} (hlink : Cond.methodLink own idx yJ1_canEncode_9a6ad ∈ W0) (hw : wp_J1_canEncode_9a6ad u x0 P) (hr : 0 + 1 ≤ fr ∧ 8 + (1 + 11) + 0 ≤ lo) (hst : (st.map fun v => v.category).sum ≤ 8) (hdg : decode cc pc = .ok (.invokestatic idx, 3)) (k : ∀ (r : Int32) (u2 : St), P r u2 → Z X (wC ad cs u2) (pc + 3) lv (.int r :: st)) : Z X (wC ad cs u) pc lv (.int x0 :: st) :=
  z_callSi (wf := wC ad cs) (As := [.int x0]) (rest := st) C.1 1 mT_J1_canEncode_9a6ad (by rw [C.2.1, C.2.2.2]; exact c_J1_canEncode_9a6ad C.2.2.1 u x0 P hw) mC_J1_canEncode_9a6ad mZ_J1 (by decide +kernel) rfl hlink hr hst hdg k

def wp_J1_indexOfChar_4cfef_7s (K7 : St → Int32 → Int32 → Int32 → Prop) (u : St) (x3 : Int32) (x4 : Int32) (x5 : Int32) (post : Int32 → St → Prop) : Prop :=
  br (x3 ≤ x5) (post (-1) u) ((vp_in x5 14 ∧ br ((sgA (ix x5)) = x4) (post x5 u) (nm (x5 + 1) (fun v4 : Int32 => K7 u x3 x4 v4))))
def wp_J1_indexOfChar_4cfef_7 (post : Int32 → St → Prop) : Nat → St → Int32 → Int32 → Int32 → Prop
  | 0 => fun _ _ _ _ => False
  | n + 1 => fun u x3 x4 x5 => wp_J1_indexOfChar_4cfef_7s (wp_J1_indexOfChar_4cfef_7 post n) u x3 x4 x5 post
set_option maxHeartbeats 4000000 in
set_option maxRecDepth 20000 in
theorem z_J1_indexOfChar_4cfef_7s {X : XX} {ad : Nat → Nat} {cs : Nat → ClassId} {post : Int32 → St → Prop} (C : CxC X ad cs cJ1_indexOfChar_4cfef RJ1 0 0) (hn : xnL X = 6) (hR : rtI X cJ1_indexOfChar_4cfef (wC ad cs) post) {K7 : St → Int32 → Int32 → Int32 → Prop} (hK7 : ∀ (u : St) (x3 : Int32) (x4 : Int32) (x5 : Int32), K7 u x3 x4 x5 → Z X (wC ad cs u) 7 [(0, .ref (ad 91)), (3, .int x3), (4, .int x4), (5, .int x5)] []) (u : St) (x3 : Int32) (x4 : Int32) (x5 : Int32) (hw : wp_J1_indexOfChar_4cfef_7s K7 u x3 x4 x5 post) : Z X (wC ad cs u) 7 [(0, .ref (ad 91)), (3, .int x3), (4, .int x4), (5, .int x5)] [] := by
  unfold wp_J1_indexOfChar_4cfef_7s at hw
  refine z_iload C.1 dJ1_indexOfChar_4cfef_7 3 rfl ?_
  refine z_iload_n C.1 dJ1_indexOfChar_4cfef_9 rfl 1 rfl ?_
  refine z_icmp_ge (tgt := 31) C.1 dJ1_indexOfChar_4cfef_10 (by decide) (fun c2 => ?_) (fun c2 => ?_)
  · replace hw := hw.1 c2
    refine z_iconst (v := (-1)) C.1 dJ1_indexOfChar_4cfef_31 (by decide) ?_
    exact hR _ _ _ _ dJ1_indexOfChar_4cfef_32 hw
  · replace hw := hw.2 c2
    refine z_aload_n C.1 dJ1_indexOfChar_4cfef_13 rfl 0 rfl ?_
    refine z_iload C.1 dJ1_indexOfChar_4cfef_14 3 rfl ?_
    refine lC_91 C hw.1 dJ1_indexOfChar_4cfef_16 ?_
    replace hw := hw.2
    refine z_iload C.1 dJ1_indexOfChar_4cfef_17 2 rfl ?_
    refine z_icmp_ne (tgt := 25) C.1 dJ1_indexOfChar_4cfef_19 (by decide) (fun c3 => ?_) (fun c3 => ?_)
    · replace hw := hw.2 c3
      obtain ⟨v4, ev4⟩ : ∃ z : Int32, z = x5 + 1 := ⟨_, rfl⟩
      replace hw := hw v4 ev4
      refine z_iinc (v := v4) (lv' := [(5, .int v4), (0, .ref (ad 91)), (3, .int x3), (4, .int x4)]) C.1 (j := 3) dJ1_indexOfChar_4cfef_25 rfl (by rw [ev4]; rfl) (by rw [hn]; decide) rfl ?_
      refine z_goto (tgt := 7) C.1 dJ1_indexOfChar_4cfef_28 (by decide) ?_
      refine z_lv [1, 2, 3, 0] rfl ?_
      exact hK7 _ _ _ _ hw
    · replace hw := hw.1 c3
      refine z_iload C.1 dJ1_indexOfChar_4cfef_22 3 rfl ?_
      exact hR _ _ _ _ dJ1_indexOfChar_4cfef_24 hw
theorem z_J1_indexOfChar_4cfef_7 {X : XX} {ad : Nat → Nat} {cs : Nat → ClassId} {post : Int32 → St → Prop} (C : CxC X ad cs cJ1_indexOfChar_4cfef RJ1 0 0) (hn : xnL X = 6) (hR : rtI X cJ1_indexOfChar_4cfef (wC ad cs) post) : ∀ (n : Nat) (u : St) (x3 : Int32) (x4 : Int32) (x5 : Int32), wp_J1_indexOfChar_4cfef_7 post n u x3 x4 x5 → Z X (wC ad cs u) 7 [(0, .ref (ad 91)), (3, .int x3), (4, .int x4), (5, .int x5)] []
  | 0, _, _, _, _, hw => absurd hw (fun h => h)
  | n + 1, u, x3, x4, x5, hw => z_J1_indexOfChar_4cfef_7s C hn hR (z_J1_indexOfChar_4cfef_7 C hn hR n) u x3 x4 x5 hw
def wp_J1_indexOfChar_4cfef (u : St) (x1 : Int32) (x2 : Int32) (x3 : Int32) (post : Int32 → St → Prop) : Prop :=
  nm (Int8.toInt32 (Int32.toInt8 x1)) (fun v1 : Int32 => ∃ n, wp_J1_indexOfChar_4cfef_7 post n u x3 v1 x2)
set_option maxHeartbeats 4000000 in
set_option maxRecDepth 20000 in
theorem z_J1_indexOfChar_4cfef {X : XX} {ad : Nat → Nat} {cs : Nat → ClassId} {post : Int32 → St → Prop} (C : CxC X ad cs cJ1_indexOfChar_4cfef RJ1 0 0) (hn : xnL X = 6) (hR : rtI X cJ1_indexOfChar_4cfef (wC ad cs) post) (u : St) (x1 : Int32) (x2 : Int32) (x3 : Int32) (hw : wp_J1_indexOfChar_4cfef u x1 x2 x3 post) : Z X (wC ad cs u) 0 [(0, .ref (ad 91)), (1, .int x1), (2, .int x2), (3, .int x3)] [] := by
  unfold wp_J1_indexOfChar_4cfef at hw
  refine z_iload_n C.1 dJ1_indexOfChar_4cfef_0 rfl 1 rfl ?_
  refine z_i2b C.1 dJ1_indexOfChar_4cfef_1 ?_
  refine z_topi (fun v1 ev1 => ?_)
  replace hw := hw v1 ev1
  refine z_istore (lv' := [(4, .int v1), (0, .ref (ad 91)), (1, .int x1), (2, .int x2), (3, .int x3)]) C.1 dJ1_indexOfChar_4cfef_2 (by rw [hn]; decide) rfl ?_
  refine z_iload_n C.1 dJ1_indexOfChar_4cfef_4 rfl 3 rfl ?_
  refine z_istore (lv' := [(5, .int x2), (4, .int v1), (0, .ref (ad 91)), (1, .int x1), (2, .int x2), (3, .int x3)]) C.1 dJ1_indexOfChar_4cfef_5 (by rw [hn]; decide) rfl ?_
  refine z_lv [2, 5, 1, 0] rfl ?_
  obtain ⟨n, hw⟩ := hw
  exact z_J1_indexOfChar_4cfef_7 C hn hR n _ _ _ _ hw
theorem c_J1_indexOfChar_4cfef {l : Launch} {D : va_G} {A : Nat → Prop} {ad : Nat → Nat} {cs : Nat → ClassId} (hD : ∀ u : St, va_D A (wC ad cs u)) (u : St) (x1 : Int32) (x2 : Int32) (x3 : Int32) (post : Int32 → St → Prop) (hw : wp_J1_indexOfChar_4cfef u x1 x2 x3 post) : MI (ad 90, ad 91) l yJ1_indexOfChar_4cfef cJ1_indexOfChar_4cfef 6 (some .int) (rmm 0 0) D (tysC cs) A (wC ad cs) u [.ref (ad 91), .int x1, .int x2, .int x3] post :=
  met_i (by decide) (Nat.le_of_ble_eq_true rfl) (fun X C _ _ ht hA hn hsg hR => z_J1_indexOfChar_4cfef ⟨C, ht, fun u => by rw [hA]; exact hD u, hsg⟩ hn hR u x1 x2 x3 hw)
theorem k_J1_indexOfChar_4cfef {X : XX} {ad : Nat → Nat} {cs : Nat → ClassId} {cc : ByteArray} {own : String} {fr lo pc : Nat} {lv : List (Nat × Value)} {st : List Value} {u : St} (C : CxC X ad cs cc own fr lo) {idx : Nat} {x1 : Int32} {x2 : Int32} {x3 : Int32} {P : Int32 → St → Prop} (hlink : Cond.methodLink own idx yJ1_indexOfChar_4cfef ∈ W0) (hw : wp_J1_indexOfChar_4cfef u x1 x2 x3 P) (hr : 0 + 1 ≤ fr ∧ 8 + (6 + 11) + 0 ≤ lo) (hst : (st.map fun v => v.category).sum ≤ 8) (hdg : decode cc pc = .ok (.invokestatic idx, 3)) (k : ∀ (r : Int32) (u2 : St), P r u2 → Z X (wC ad cs u2) (pc + 3) lv (.int r :: st)) : Z X (wC ad cs u) pc lv (.int x3 :: .int x2 :: .int x1 :: .ref (ad 91) :: st) :=
  z_callSi (wf := wC ad cs) (As := [.ref (ad 91), .int x1, .int x2, .int x3]) (rest := st) C.1 4 mT_J1_indexOfChar_4cfef (by rw [C.2.1, C.2.2.2]; exact c_J1_indexOfChar_4cfef C.2.2.1 u x1 x2 x3 P hw) mC_J1_indexOfChar_4cfef mZ_J1 (by decide +kernel) rfl hlink hr hst hdg k

def wp_J1_indexOf_4cfef (u : St) (x1 : Int32) (x2 : Int32) (x3 : Int32) (post : Int32 → St → Prop) : Prop :=
  wp_J1_canEncode_9a6ad u x1 (fun (r2 : Int32) (u1 : St) => br (r2 = 0) (post (-1) u1) (nm (if x2 < 0 then 0 else x2) (fun v4 : Int32 => nm (if 14 < x3 then 14 else x3) (fun v5 : Int32 => br (v4 < v5) (wp_J1_indexOfChar_4cfef u1 x1 v4 v5 (fun (r8 : Int32) (u7 : St) => post r8 u7)) (post (-1) u1)))))
set_option maxHeartbeats 4000000 in
set_option maxRecDepth 20000 in
theorem z_J1_indexOf_4cfef {X : XX} {ad : Nat → Nat} {cs : Nat → ClassId} {post : Int32 → St → Prop} (C : CxC X ad cs cJ1_indexOf_4cfef RJ1 1 25) (hn : xnL X = 4) (hR : rtI X cJ1_indexOf_4cfef (wC ad cs) post) (u : St) (x1 : Int32) (x2 : Int32) (x3 : Int32) (hw : wp_J1_indexOf_4cfef u x1 x2 x3 post) : Z X (wC ad cs u) 0 [(0, .ref (ad 91)), (1, .int x1), (2, .int x2), (3, .int x3)] [] := by
  unfold wp_J1_indexOf_4cfef at hw
  refine z_iload_n C.1 dJ1_indexOf_4cfef_0 rfl 1 rfl ?_
  refine k_J1_canEncode_9a6ad C mM_J1_88 hw (by decide) (Nat.le_of_ble_eq_true rfl) dJ1_indexOf_4cfef_1 (fun r2 u1 hw => ?_)
  refine z_if_ne (tgt := 9) C.1 dJ1_indexOf_4cfef_4 (by decide) (fun c3 => ?_) (fun c3 => ?_)
  · replace hw := hw.2 c3
    refine z_iload_n C.1 dJ1_indexOf_4cfef_9 rfl 2 rfl ?_
    refine z_iconst (v := 0) C.1 dJ1_indexOf_4cfef_10 (by decide) ?_
    refine z_mmax C.1 mM_J1_92 ⟨by decide, Nat.le_of_ble_eq_true rfl⟩ dJ1_indexOf_4cfef_11 ?_
    refine z_topi (fun v4 ev4 => ?_)
    replace hw := hw v4 ev4
    refine z_istore_n (lv' := [(2, .int v4), (0, .ref (ad 91)), (1, .int x1), (3, .int x3)]) C.1 dJ1_indexOf_4cfef_14 rfl (by rw [hn]; decide) rfl ?_
    refine z_iload_n C.1 dJ1_indexOf_4cfef_15 rfl 3 rfl ?_
    refine z_aload_n C.1 dJ1_indexOf_4cfef_16 rfl 1 rfl ?_
    refine nC_91 C dJ1_indexOf_4cfef_17 ?_
    refine z_mmin C.1 mM_J1_38 ⟨by decide, Nat.le_of_ble_eq_true rfl⟩ dJ1_indexOf_4cfef_18 ?_
    refine z_topi (fun v5 ev5 => ?_)
    replace hw := hw v5 ev5
    refine z_istore_n (lv' := [(3, .int v5), (2, .int v4), (0, .ref (ad 91)), (1, .int x1)]) C.1 dJ1_indexOf_4cfef_21 rfl (by rw [hn]; decide) rfl ?_
    refine z_iload_n C.1 dJ1_indexOf_4cfef_22 rfl 1 rfl ?_
    refine z_iload_n C.1 dJ1_indexOf_4cfef_23 rfl 0 rfl ?_
    refine z_icmp_lt (tgt := 29) C.1 dJ1_indexOf_4cfef_24 (by decide) (fun c6 => ?_) (fun c6 => ?_)
    · replace hw := hw.1 c6
      refine z_aload_n C.1 dJ1_indexOf_4cfef_29 rfl 2 rfl ?_
      refine z_iload_n C.1 dJ1_indexOf_4cfef_30 rfl 3 rfl ?_
      refine z_iload_n C.1 dJ1_indexOf_4cfef_31 rfl 1 rfl ?_
      refine z_iload_n C.1 dJ1_indexOf_4cfef_32 rfl 0 rfl ?_
      refine k_J1_indexOfChar_4cfef C mM_J1_95 hw (by decide) (Nat.le_of_ble_eq_true rfl) dJ1_indexOf_4cfef_33 (fun r8 u7 hw => ?_)
      exact hR _ _ _ _ dJ1_indexOf_4cfef_36 hw
    · replace hw := hw.2 c6
      refine z_iconst (v := (-1)) C.1 dJ1_indexOf_4cfef_27 (by decide) ?_
      exact hR _ _ _ _ dJ1_indexOf_4cfef_28 hw
  · replace hw := hw.1 c3
    refine z_iconst (v := (-1)) C.1 dJ1_indexOf_4cfef_7 (by decide) ?_
    exact hR _ _ _ _ dJ1_indexOf_4cfef_8 hw
theorem c_J1_indexOf_4cfef {l : Launch} {D : va_G} {A : Nat → Prop} {ad : Nat → Nat} {cs : Nat → ClassId} (hD : ∀ u : St, va_D A (wC ad cs u)) (u : St) (x1 : Int32) (x2 : Int32) (x3 : Int32) (post : Int32 → St → Prop) (hw : wp_J1_indexOf_4cfef u x1 x2 x3 post) : MI (ad 90, ad 91) l yJ1_indexOf_4cfef cJ1_indexOf_4cfef 4 (some .int) (rmm 1 25) D (tysC cs) A (wC ad cs) u [.ref (ad 91), .int x1, .int x2, .int x3] post :=
  met_i (by decide) (Nat.le_of_ble_eq_true rfl) (fun X C _ _ ht hA hn hsg hR => z_J1_indexOf_4cfef ⟨C, ht, fun u => by rw [hA]; exact hD u, hsg⟩ hn hR u x1 x2 x3 hw)
theorem k_J1_indexOf_4cfef {X : XX} {ad : Nat → Nat} {cs : Nat → ClassId} {cc : ByteArray} {own : String} {fr lo pc : Nat} {lv : List (Nat × Value)} {st : List Value} {u : St} (C : CxC X ad cs cc own fr lo) {idx : Nat} {x1 : Int32} {x2 : Int32} {x3 : Int32} {P : Int32 → St → Prop} (hlink : Cond.methodLink own idx yJ1_indexOf_4cfef ∈ W0) (hw : wp_J1_indexOf_4cfef u x1 x2 x3 P) (hr : 1 + 1 ≤ fr ∧ 8 + (4 + 11) + 25 ≤ lo) (hst : (st.map fun v => v.category).sum ≤ 8) (hdg : decode cc pc = .ok (.invokestatic idx, 3)) (k : ∀ (r : Int32) (u2 : St), P r u2 → Z X (wC ad cs u2) (pc + 3) lv (.int r :: st)) : Z X (wC ad cs u) pc lv (.int x3 :: .int x2 :: .int x1 :: .ref (ad 91) :: st) :=
  z_callSi (wf := wC ad cs) (As := [.ref (ad 91), .int x1, .int x2, .int x3]) (rest := st) C.1 4 mT_J1_indexOf_4cfef (by rw [C.2.1, C.2.2.2]; exact c_J1_indexOf_4cfef C.2.2.1 u x1 x2 x3 P hw) mC_J1_indexOf_4cfef mZ_J1 (by decide +kernel) rfl hlink hr hst hdg k

def wp_J0_indexOf_7cf53 (u : St) (x1 : Int32) (x2 : Int32) (post : Int32 → St → Prop) : Prop :=
  wp_J0_isLatin1_aae02 u (fun (r2 : Int32) (u1 : St) => br (r2 = 0) (wp_J0_length_8abf5 u1 (fun (r5 : Int32) (u4 : St) => False)) (wp_J0_length_8abf5 u1 (fun (r7 : Int32) (u6 : St) => wp_J1_indexOf_4cfef u6 x1 x2 r7 (fun (r9 : Int32) (u8 : St) => post r9 u8))))
set_option maxHeartbeats 4000000 in
set_option maxRecDepth 20000 in
theorem z_J0_indexOf_7cf53 {X : XX} {ad : Nat → Nat} {cs : Nat → ClassId} {post : Int32 → St → Prop} (C : CxC X ad cs cJ0_indexOf_7cf53 RJ0 2 48) (hn : xnL X = 3) (hR : rtI X cJ0_indexOf_7cf53 (wC ad cs) post) (u : St) (x1 : Int32) (x2 : Int32) (hw : wp_J0_indexOf_7cf53 u x1 x2 post) : Z X (wC ad cs u) 0 [(0, .ref (ad 90)), (1, .int x1), (2, .int x2)] [] := by
  unfold wp_J0_indexOf_7cf53 at hw
  refine z_aload_n C.1 dJ0_indexOf_7cf53_0 rfl 0 rfl ?_
  refine k_J0_isLatin1_aae02 C mM_J0_492 hw (by decide) (Nat.le_of_ble_eq_true rfl) dJ0_indexOf_7cf53_1 (fun r2 u1 hw => ?_)
  refine z_if_eq (tgt := 23) C.1 dJ0_indexOf_7cf53_4 (by decide) (fun c3 => ?_) (fun c3 => ?_)
  · replace hw := hw.1 c3
    refine z_aload_n C.1 dJ0_indexOf_7cf53_23 rfl 0 rfl ?_
    refine gC_90_value C mF_J0_9 dJ0_indexOf_7cf53_24 ?_
    refine z_iload_n C.1 dJ0_indexOf_7cf53_27 rfl 1 rfl ?_
    refine z_iload_n C.1 dJ0_indexOf_7cf53_28 rfl 2 rfl ?_
    refine z_aload_n C.1 dJ0_indexOf_7cf53_29 rfl 0 rfl ?_
    refine k_J0_length_8abf5 C mM_J0_505 hw (by decide) (Nat.le_of_ble_eq_true rfl) dJ0_indexOf_7cf53_30 (fun r5 u4 hw => ?_)
    exact hw.elim
  · replace hw := hw.2 c3
    refine z_aload_n C.1 dJ0_indexOf_7cf53_7 rfl 0 rfl ?_
    refine gC_90_value C mF_J0_9 dJ0_indexOf_7cf53_8 ?_
    refine z_iload_n C.1 dJ0_indexOf_7cf53_11 rfl 1 rfl ?_
    refine z_iload_n C.1 dJ0_indexOf_7cf53_12 rfl 2 rfl ?_
    refine z_aload_n C.1 dJ0_indexOf_7cf53_13 rfl 0 rfl ?_
    refine k_J0_length_8abf5 C mM_J0_505 hw (by decide) (Nat.le_of_ble_eq_true rfl) dJ0_indexOf_7cf53_14 (fun r7 u6 hw => ?_)
    refine k_J1_indexOf_4cfef C mM_J0_637 hw (by decide) (Nat.le_of_ble_eq_true rfl) dJ0_indexOf_7cf53_17 (fun r9 u8 hw => ?_)
    refine z_goto (tgt := 36) C.1 dJ0_indexOf_7cf53_20 (by decide) ?_
    exact hR _ _ _ _ dJ0_indexOf_7cf53_36 hw
theorem c_J0_indexOf_7cf53 {l : Launch} {D : va_G} {A : Nat → Prop} {ad : Nat → Nat} {cs : Nat → ClassId} (hD : ∀ u : St, va_D A (wC ad cs u)) (u : St) (x1 : Int32) (x2 : Int32) (post : Int32 → St → Prop) (hw : wp_J0_indexOf_7cf53 u x1 x2 post) : MI (ad 90, ad 91) l yJ0_indexOf_7cf53 cJ0_indexOf_7cf53 3 (some .int) (rmm 2 48) D (tysC cs) A (wC ad cs) u [.ref (ad 90), .int x1, .int x2] post :=
  met_i (by decide) (Nat.le_of_ble_eq_true rfl) (fun X C _ _ ht hA hn hsg hR => z_J0_indexOf_7cf53 ⟨C, ht, fun u => by rw [hA]; exact hD u, hsg⟩ hn hR u x1 x2 hw)
theorem k_J0_indexOf_7cf53 {X : XX} {ad : Nat → Nat} {cs : Nat → ClassId} {cc : ByteArray} {own : String} {fr lo pc : Nat} {lv : List (Nat × Value)} {st : List Value} {u : St} (C : CxC X ad cs cc own fr lo) {idx : Nat} {x1 : Int32} {x2 : Int32} {P : Int32 → St → Prop} (hlink : Cond.methodLink own idx yJ0_indexOf_7cf53 ∈ W0) (hw : wp_J0_indexOf_7cf53 u x1 x2 P) (hr : 2 + 1 ≤ fr ∧ 8 + (3 + 11) + 48 ≤ lo) (hst : (st.map fun v => v.category).sum ≤ 8) (hdg : decode cc pc = .ok (.invokevirtual idx, 3)) (k : ∀ (r : Int32) (u2 : St), P r u2 → Z X (wC ad cs u2) (pc + 3) lv (.int r :: st)) : Z X (wC ad cs u) pc lv (.int x2 :: .int x1 :: .ref (ad 90) :: st) :=
  z_callTi (wf := wC ad cs) (As := [.int x1, .int x2]) (rest := st) C.1 2 mI_J0_indexOf_7cf53 mS_J0_indexOf_7cf53 (by rw [C.2.2.2]) rfl (by rw [C.2.1, C.2.2.2]; exact c_J0_indexOf_7cf53 C.2.2.1 u x1 x2 P hw) mC_J0_indexOf_7cf53 mZ_J0 (by decide +kernel) rfl hlink hr hst hdg k

def wp_J0_indexOf_0f7a4 (u : St) (x1 : Int32) (post : Int32 → St → Prop) : Prop :=
  wp_J0_indexOf_7cf53 u x1 0 (fun (r2 : Int32) (u1 : St) => post r2 u1)
set_option maxHeartbeats 4000000 in
set_option maxRecDepth 20000 in
theorem z_J0_indexOf_0f7a4 {X : XX} {ad : Nat → Nat} {cs : Nat → ClassId} {post : Int32 → St → Prop} (C : CxC X ad cs cJ0_indexOf_0f7a4 RJ0 3 70) (hn : xnL X = 2) (hR : rtI X cJ0_indexOf_0f7a4 (wC ad cs) post) (u : St) (x1 : Int32) (hw : wp_J0_indexOf_0f7a4 u x1 post) : Z X (wC ad cs u) 0 [(0, .ref (ad 90)), (1, .int x1)] [] := by
  unfold wp_J0_indexOf_0f7a4 at hw
  refine z_aload_n C.1 dJ0_indexOf_0f7a4_0 rfl 0 rfl ?_
  refine z_iload_n C.1 dJ0_indexOf_0f7a4_1 rfl 1 rfl ?_
  refine z_iconst (v := 0) C.1 dJ0_indexOf_0f7a4_2 (by decide) ?_
  refine k_J0_indexOf_7cf53 C mM_J0_633 hw (by decide) (Nat.le_of_ble_eq_true rfl) dJ0_indexOf_0f7a4_3 (fun r2 u1 hw => ?_)
  exact hR _ _ _ _ dJ0_indexOf_0f7a4_6 hw
theorem c_J0_indexOf_0f7a4 {l : Launch} {D : va_G} {A : Nat → Prop} {ad : Nat → Nat} {cs : Nat → ClassId} (hD : ∀ u : St, va_D A (wC ad cs u)) (u : St) (x1 : Int32) (post : Int32 → St → Prop) (hw : wp_J0_indexOf_0f7a4 u x1 post) : MI (ad 90, ad 91) l yJ0_indexOf_0f7a4 cJ0_indexOf_0f7a4 2 (some .int) (rmm 3 70) D (tysC cs) A (wC ad cs) u [.ref (ad 90), .int x1] post :=
  met_i (by decide) (Nat.le_of_ble_eq_true rfl) (fun X C _ _ ht hA hn hsg hR => z_J0_indexOf_0f7a4 ⟨C, ht, fun u => by rw [hA]; exact hD u, hsg⟩ hn hR u x1 hw)
theorem k_J0_indexOf_0f7a4 {X : XX} {ad : Nat → Nat} {cs : Nat → ClassId} {cc : ByteArray} {own : String} {fr lo pc : Nat} {lv : List (Nat × Value)} {st : List Value} {u : St} (C : CxC X ad cs cc own fr lo) {idx : Nat} {x1 : Int32} {P : Int32 → St → Prop} (hlink : Cond.methodLink own idx yJ0_indexOf_0f7a4 ∈ W0) (hw : wp_J0_indexOf_0f7a4 u x1 P) (hr : 3 + 1 ≤ fr ∧ 8 + (2 + 11) + 70 ≤ lo) (hst : (st.map fun v => v.category).sum ≤ 8) (hdg : decode cc pc = .ok (.invokevirtual idx, 3)) (k : ∀ (r : Int32) (u2 : St), P r u2 → Z X (wC ad cs u2) (pc + 3) lv (.int r :: st)) : Z X (wC ad cs u) pc lv (.int x1 :: .ref (ad 90) :: st) :=
  z_callTi (wf := wC ad cs) (As := [.int x1]) (rest := st) C.1 1 mI_J0_indexOf_0f7a4 mS_J0_indexOf_0f7a4 (by rw [C.2.2.2]) rfl (by rw [C.2.1, C.2.2.2]; exact c_J0_indexOf_0f7a4 C.2.2.1 u x1 P hw) mC_J0_indexOf_0f7a4 mZ_J0 (by decide +kernel) rfl hlink hr hst hdg k
