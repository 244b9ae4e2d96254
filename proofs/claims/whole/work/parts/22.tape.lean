def wp_X5_room (u : St) (post : Int32 → St → Prop) : Prop :=
  post (1500 - (gI u 8)) u
set_option maxHeartbeats 4000000 in
set_option maxRecDepth 20000 in
theorem z_X5_room {X : XX} {ad : Nat → Nat} {cs : Nat → ClassId} {post : Int32 → St → Prop} (C : CxC X ad cs cX5_room RX5 0 0) (hn : xnL X = 1) (hR : rtI X cX5_room (wC ad cs) post) (u : St) (hw : wp_X5_room u post) : Z X (wC ad cs u) 0 [(0, .ref (ad 2))] [] := by
  unfold wp_X5_room at hw
  refine z_sipush (v := 1500) C.1 dX5_room_0 (by decide) ?_
  refine z_aload_n C.1 dX5_room_3 rfl 0 rfl ?_
  refine gC_2_length C mF_X5_13 dX5_room_4 ?_
  refine z_isub C.1 dX5_room_7 ?_
  exact hR _ _ _ _ dX5_room_8 hw
theorem c_X5_room {l : Launch} {D : va_G} {A : Nat → Prop} {ad : Nat → Nat} {cs : Nat → ClassId} (hD : ∀ u : St, va_D A (wC ad cs u)) (u : St) (post : Int32 → St → Prop) (hw : wp_X5_room u post) : MI (ad 90, ad 91) l yX5_room cX5_room 1 (some .int) (rmm 0 0) D (tysC cs) A (wC ad cs) u [.ref (ad 2)] post :=
  met_i (by decide) (Nat.le_of_ble_eq_true rfl) (fun X C _ _ ht hA hn hsg hR => z_X5_room ⟨C, ht, fun u => by rw [hA]; exact hD u, hsg⟩ hn hR u hw)
theorem k_X5_room {X : XX} {ad : Nat → Nat} {cs : Nat → ClassId} {cc : ByteArray} {own : String} {fr lo pc : Nat} {lv : List (Nat × Value)} {st : List Value} {u : St} (C : CxC X ad cs cc own fr lo) {idx : Nat} {P : Int32 → St → Prop} (hlink : Cond.methodLink own idx yX5_room ∈ W0) (hw : wp_X5_room u P) (hr : 0 + 1 ≤ fr ∧ 8 + (1 + 11) + 0 ≤ lo) (hst : (st.map fun v => v.category).sum ≤ 8) (hdg : decode cc pc = .ok (.invokevirtual idx, 3)) (k : ∀ (r : Int32) (u2 : St), P r u2 → Z X (wC ad cs u2) (pc + 3) lv (.int r :: st)) : Z X (wC ad cs u) pc lv (.ref (ad 2) :: st) :=
  z_callVi (wf := wC ad cs) (As := []) (rest := st) C.1 0 (q0 := 2) mI_X5_room mS_X5_room rfl rfl (by rw [C.2.1, C.2.2.2]; exact c_X5_room C.2.2.1 u P hw) mC_X5_room mZ_X5 (by decide +kernel) rfl hlink hr hst hdg k

def wp_X5_add (u : St) (x1 : Int32) (post : St → Prop) : Prop :=
  br (1500 ≤ (gI u 8)) (post u) ((vp_in (gI u 8) 1500 ∧ nm (sA u 14 (ix (gI u 8)) x1) (fun u2 : St => nm (sI u2 8 ((gI u2 8) + 1)) (fun u3 : St => post u3))))
set_option maxHeartbeats 4000000 in
set_option maxRecDepth 20000 in
theorem z_X5_add {X : XX} {ad : Nat → Nat} {cs : Nat → ClassId} {post : St → Prop} (C : CxC X ad cs cX5_add RX5 0 0) (hn : xnL X = 2) (hR : rtV X cX5_add (wC ad cs) post) (u : St) (x1 : Int32) (hw : wp_X5_add u x1 post) : Z X (wC ad cs u) 0 [(0, .ref (ad 2)), (1, .int x1)] [] := by
  unfold wp_X5_add at hw
  refine z_aload_n C.1 dX5_add_0 rfl 0 rfl ?_
  refine gC_2_length C mF_X5_13 dX5_add_1 ?_
  refine z_sipush (v := 1500) C.1 dX5_add_4 (by decide) ?_
  refine z_icmp_ge (tgt := 30) C.1 dX5_add_7 (by decide) (fun c1 => ?_) (fun c1 => ?_)
  · replace hw := hw.1 c1
    exact hR _ _ _ dX5_add_30 hw
  · replace hw := hw.2 c1
    refine z_aload_n C.1 dX5_add_10 rfl 0 rfl ?_
    refine gC_2_bytes C mF_X5_9 dX5_add_11 ?_
    refine z_aload_n C.1 dX5_add_14 rfl 0 rfl ?_
    refine gC_2_length C mF_X5_13 dX5_add_15 ?_
    refine z_iload_n C.1 dX5_add_18 rfl 1 rfl ?_
    refine sC_14 C hw.1 dX5_add_19 (fun u2 eu2 => ?_)
    replace hw := hw.2 u2 eu2
    refine z_aload_n C.1 dX5_add_20 rfl 0 rfl ?_
    refine z_dup C.1 dX5_add_21 rfl ?_
    refine gC_2_length C mF_X5_13 dX5_add_22 ?_
    refine z_iconst (v := 1) C.1 dX5_add_25 (by decide) ?_
    refine z_iadd C.1 dX5_add_26 ?_
    refine pC_2_length C mF_X5_13 dX5_add_27 (fun u3 eu3 => ?_)
    replace hw := hw u3 eu3
    exact hR _ _ _ dX5_add_30 hw
theorem c_X5_add {l : Launch} {D : va_G} {A : Nat → Prop} {ad : Nat → Nat} {cs : Nat → ClassId} (hD : ∀ u : St, va_D A (wC ad cs u)) (u : St) (x1 : Int32) (post : St → Prop) (hw : wp_X5_add u x1 post) : MV (ad 90, ad 91) l yX5_add cX5_add 2 none (rmm 0 0) D (tysC cs) A (wC ad cs) u [.ref (ad 2), .int x1] post :=
  met_v (by decide) (Nat.le_of_ble_eq_true rfl) (fun X C _ _ ht hA hn hsg hR => z_X5_add ⟨C, ht, fun u => by rw [hA]; exact hD u, hsg⟩ hn hR u x1 hw)
theorem k_X5_add {X : XX} {ad : Nat → Nat} {cs : Nat → ClassId} {cc : ByteArray} {own : String} {fr lo pc : Nat} {lv : List (Nat × Value)} {st : List Value} {u : St} (C : CxC X ad cs cc own fr lo) {idx : Nat} {x1 : Int32} {P : St → Prop} (hlink : Cond.methodLink own idx yX5_add ∈ W0) (hw : wp_X5_add u x1 P) (hr : 0 + 1 ≤ fr ∧ 8 + (2 + 11) + 0 ≤ lo) (hst : (st.map fun v => v.category).sum ≤ 8) (hdg : decode cc pc = .ok (.invokevirtual idx, 3)) (k : ∀ (u2 : St), P u2 → Z X (wC ad cs u2) (pc + 3) lv st) : Z X (wC ad cs u) pc lv (.int x1 :: .ref (ad 2) :: st) :=
  z_callVv (wf := wC ad cs) (As := [.int x1]) (rest := st) C.1 1 (q0 := 2) mI_X5_add mS_X5_add rfl rfl (by rw [C.2.1, C.2.2.2]; exact c_X5_add C.2.2.1 u x1 P hw) mC_X5_add mZ_X5 (by decide +kernel) rfl hlink hr hst hdg k

def wp_X5_makeEmpty (u : St) (post : St → Prop) : Prop :=
  nm (sI u 8 0) (fun u1 : St => post u1)
set_option maxHeartbeats 4000000 in
set_option maxRecDepth 20000 in
theorem z_X5_makeEmpty {X : XX} {ad : Nat → Nat} {cs : Nat → ClassId} {post : St → Prop} (C : CxC X ad cs cX5_makeEmpty RX5 0 0) (hn : xnL X = 1) (hR : rtV X cX5_makeEmpty (wC ad cs) post) (u : St) (hw : wp_X5_makeEmpty u post) : Z X (wC ad cs u) 0 [(0, .ref (ad 2))] [] := by
  unfold wp_X5_makeEmpty at hw
  refine z_aload_n C.1 dX5_makeEmpty_0 rfl 0 rfl ?_
  refine z_iconst (v := 0) C.1 dX5_makeEmpty_1 (by decide) ?_
  refine pC_2_length C mF_X5_13 dX5_makeEmpty_2 (fun u1 eu1 => ?_)
  replace hw := hw u1 eu1
  exact hR _ _ _ dX5_makeEmpty_5 hw
theorem c_X5_makeEmpty {l : Launch} {D : va_G} {A : Nat → Prop} {ad : Nat → Nat} {cs : Nat → ClassId} (hD : ∀ u : St, va_D A (wC ad cs u)) (u : St) (post : St → Prop) (hw : wp_X5_makeEmpty u post) : MV (ad 90, ad 91) l yX5_makeEmpty cX5_makeEmpty 1 none (rmm 0 0) D (tysC cs) A (wC ad cs) u [.ref (ad 2)] post :=
  met_v (by decide) (Nat.le_of_ble_eq_true rfl) (fun X C _ _ ht hA hn hsg hR => z_X5_makeEmpty ⟨C, ht, fun u => by rw [hA]; exact hD u, hsg⟩ hn hR u hw)
theorem k_X5_makeEmpty {X : XX} {ad : Nat → Nat} {cs : Nat → ClassId} {cc : ByteArray} {own : String} {fr lo pc : Nat} {lv : List (Nat × Value)} {st : List Value} {u : St} (C : CxC X ad cs cc own fr lo) {idx : Nat} {P : St → Prop} (hlink : Cond.methodLink own idx yX5_makeEmpty ∈ W0) (hw : wp_X5_makeEmpty u P) (hr : 0 + 1 ≤ fr ∧ 8 + (1 + 11) + 0 ≤ lo) (hst : (st.map fun v => v.category).sum ≤ 8) (hdg : decode cc pc = .ok (.invokevirtual idx, 3)) (k : ∀ (u2 : St), P u2 → Z X (wC ad cs u2) (pc + 3) lv st) : Z X (wC ad cs u) pc lv (.ref (ad 2) :: st) :=
  z_callVv (wf := wC ad cs) (As := []) (rest := st) C.1 0 (q0 := 2) mI_X5_makeEmpty mS_X5_makeEmpty rfl rfl (by rw [C.2.1, C.2.2.2]; exact c_X5_makeEmpty C.2.2.1 u P hw) mC_X5_makeEmpty mZ_X5 (by decide +kernel) rfl hlink hr hst hdg k

def wp_X5_isBlank_24 (u : St) (post : Int32 → St → Prop) : Prop :=
  (bz 1 ∧ post 1 u)
set_option maxHeartbeats 4000000 in
set_option maxRecDepth 20000 in
theorem z_X5_isBlank_24 {X : XX} {ad : Nat → Nat} {cs : Nat → ClassId} {post : Int32 → St → Prop} (C : CxC X ad cs cX5_isBlank RX5 0 0) (hn : xnL X = 1) (hR : rtZ X cX5_isBlank (wC ad cs) post) (u : St) (hw : wp_X5_isBlank_24 u post) : Z X (wC ad cs u) 24 [] [] := by
  unfold wp_X5_isBlank_24 at hw
  refine z_iconst (v := 1) C.1 dX5_isBlank_24 (by decide) ?_
  refine z_goto (tgt := 29) C.1 dX5_isBlank_25 (by decide) ?_
  exact hR _ _ _ _ dX5_isBlank_29 hw
def wp_X5_isBlank (u : St) (x0 : Int32) (post : Int32 → St → Prop) : Prop :=
  br (x0 = 9) (wp_X5_isBlank_24 u post) (br (x0 = 10) (wp_X5_isBlank_24 u post) (br (x0 = 13) (wp_X5_isBlank_24 u post) (br (x0 = 32) (wp_X5_isBlank_24 u post) ((bz 0 ∧ post 0 u)))))
set_option maxHeartbeats 4000000 in
set_option maxRecDepth 20000 in
theorem z_X5_isBlank {X : XX} {ad : Nat → Nat} {cs : Nat → ClassId} {post : Int32 → St → Prop} (C : CxC X ad cs cX5_isBlank RX5 0 0) (hn : xnL X = 1) (hR : rtZ X cX5_isBlank (wC ad cs) post) (u : St) (x0 : Int32) (hw : wp_X5_isBlank u x0 post) : Z X (wC ad cs u) 0 [(0, .int x0)] [] := by
  unfold wp_X5_isBlank at hw
  refine z_iload_n C.1 dX5_isBlank_0 rfl 0 rfl ?_
  refine z_bipush (v := 9) C.1 dX5_isBlank_1 (by decide) ?_
  refine z_icmp_eq (tgt := 24) C.1 dX5_isBlank_3 (by decide) (fun c1 => ?_) (fun c1 => ?_)
  · replace hw := hw.1 c1
    refine z_lv [] rfl ?_
    exact z_X5_isBlank_24 C hn hR _ hw
  · replace hw := hw.2 c1
    refine z_iload_n C.1 dX5_isBlank_6 rfl 0 rfl ?_
    refine z_bipush (v := 10) C.1 dX5_isBlank_7 (by decide) ?_
    refine z_icmp_eq (tgt := 24) C.1 dX5_isBlank_9 (by decide) (fun c2 => ?_) (fun c2 => ?_)
    · replace hw := hw.1 c2
      refine z_lv [] rfl ?_
      exact z_X5_isBlank_24 C hn hR _ hw
    · replace hw := hw.2 c2
      refine z_iload_n C.1 dX5_isBlank_12 rfl 0 rfl ?_
      refine z_bipush (v := 13) C.1 dX5_isBlank_13 (by decide) ?_
      refine z_icmp_eq (tgt := 24) C.1 dX5_isBlank_15 (by decide) (fun c3 => ?_) (fun c3 => ?_)
      · replace hw := hw.1 c3
        refine z_lv [] rfl ?_
        exact z_X5_isBlank_24 C hn hR _ hw
      · replace hw := hw.2 c3
        refine z_iload_n C.1 dX5_isBlank_18 rfl 0 rfl ?_
        refine z_bipush (v := 32) C.1 dX5_isBlank_19 (by decide) ?_
        refine z_icmp_ne (tgt := 28) C.1 dX5_isBlank_21 (by decide) (fun c4 => ?_) (fun c4 => ?_)
        · replace hw := hw.2 c4
          refine z_iconst (v := 0) C.1 dX5_isBlank_28 (by decide) ?_
          exact hR _ _ _ _ dX5_isBlank_29 hw
        · replace hw := hw.1 c4
          refine z_lv [] rfl ?_
          exact z_X5_isBlank_24 C hn hR _ hw
theorem c_X5_isBlank {l : Launch} {D : va_G} {A : Nat → Prop} {ad : Nat → Nat} {cs : Nat → ClassId} (hD : ∀ u : St, va_D A (wC ad cs u)) (u : St) (x0 : Int32) (post : Int32 → St → Prop) (hw : wp_X5_isBlank u x0 post) : MI (ad 90, ad 91) l yX5_isBlank cX5_isBlank 1 (some .boolean) (rmm 0 0) D (tysC cs) A (wC ad cs) u [.int x0] post :=
  met_z (by decide) (Nat.le_of_ble_eq_true rfl) (fun X C _ _ ht hA hn hsg hR => z_X5_isBlank ⟨C, ht, fun u => by rw [hA]; exact hD u, hsg⟩ hn hR u x0 hw)
theorem k_X5_isBlank {X : XX} {ad : Nat → Nat} {cs : Nat → ClassId} {cc : ByteArray} {own : String} {fr lo pc : Nat} {lv : List (Nat × Value)} {st : List Value} {u : St} (C : CxC X ad cs cc own fr lo) {idx : Nat} {x0 : Int32} {P : Int32 → St → Prop} (hlink : Cond.methodLink own idx yX5_isBlank ∈ W0) (hw : wp_X5_isBlank u x0 P) (hr : 0 + 1 ≤ fr ∧ 8 + (1 + 11) + 0 ≤ lo) (hst : (st.map fun v => v.category).sum ≤ 8) (hdg : decode cc pc = .ok (.invokestatic idx, 3)) (k : ∀ (r : Int32) (u2 : St), P r u2 → Z X (wC ad cs u2) (pc + 3) lv (.int r :: st)) : Z X (wC ad cs u) pc lv (.int x0 :: st) :=
  z_callSi (wf := wC ad cs) (As := [.int x0]) (rest := st) C.1 1 mT_X5_isBlank (by rw [C.2.1, C.2.2.2]; exact c_X5_isBlank C.2.2.1 u x0 P hw) mC_X5_isBlank mZ_X5 (by decide +kernel) rfl hlink hr hst hdg k

def wp_X5_isLetter (u : St) (x0 : Int32) (post : Int32 → St → Prop) : Prop :=
  br (x0 < 97) ((bz 0 ∧ post 0 u)) (br (122 < x0) ((bz 0 ∧ post 0 u)) ((bz 1 ∧ post 1 u)))
set_option maxHeartbeats 4000000 in
set_option maxRecDepth 20000 in
theorem z_X5_isLetter {X : XX} {ad : Nat → Nat} {cs : Nat → ClassId} {post : Int32 → St → Prop} (C : CxC X ad cs cX5_isLetter RX5 0 0) (hn : xnL X = 1) (hR : rtZ X cX5_isLetter (wC ad cs) post) (u : St) (x0 : Int32) (hw : wp_X5_isLetter u x0 post) : Z X (wC ad cs u) 0 [(0, .int x0)] [] := by
  unfold wp_X5_isLetter at hw
  refine z_iload_n C.1 dX5_isLetter_0 rfl 0 rfl ?_
  refine z_bipush (v := 97) C.1 dX5_isLetter_1 (by decide) ?_
  refine z_icmp_lt (tgt := 16) C.1 dX5_isLetter_3 (by decide) (fun c1 => ?_) (fun c1 => ?_)
  · replace hw := hw.1 c1
    refine z_iconst (v := 0) C.1 dX5_isLetter_16 (by decide) ?_
    exact hR _ _ _ _ dX5_isLetter_17 hw
  · replace hw := hw.2 c1
    refine z_iload_n C.1 dX5_isLetter_6 rfl 0 rfl ?_
    refine z_bipush (v := 122) C.1 dX5_isLetter_7 (by decide) ?_
    refine z_icmp_gt (tgt := 16) C.1 dX5_isLetter_9 (by decide) (fun c2 => ?_) (fun c2 => ?_)
    · replace hw := hw.1 c2
      refine z_iconst (v := 0) C.1 dX5_isLetter_16 (by decide) ?_
      exact hR _ _ _ _ dX5_isLetter_17 hw
    · replace hw := hw.2 c2
      refine z_iconst (v := 1) C.1 dX5_isLetter_12 (by decide) ?_
      refine z_goto (tgt := 17) C.1 dX5_isLetter_13 (by decide) ?_
      exact hR _ _ _ _ dX5_isLetter_17 hw
theorem c_X5_isLetter {l : Launch} {D : va_G} {A : Nat → Prop} {ad : Nat → Nat} {cs : Nat → ClassId} (hD : ∀ u : St, va_D A (wC ad cs u)) (u : St) (x0 : Int32) (post : Int32 → St → Prop) (hw : wp_X5_isLetter u x0 post) : MI (ad 90, ad 91) l yX5_isLetter cX5_isLetter 1 (some .boolean) (rmm 0 0) D (tysC cs) A (wC ad cs) u [.int x0] post :=
  met_z (by decide) (Nat.le_of_ble_eq_true rfl) (fun X C _ _ ht hA hn hsg hR => z_X5_isLetter ⟨C, ht, fun u => by rw [hA]; exact hD u, hsg⟩ hn hR u x0 hw)
theorem k_X5_isLetter {X : XX} {ad : Nat → Nat} {cs : Nat → ClassId} {cc : ByteArray} {own : String} {fr lo pc : Nat} {lv : List (Nat × Value)} {st : List Value} {u : St} (C : CxC X ad cs cc own fr lo) {idx : Nat} {x0 : Int32} {P : Int32 → St → Prop} (hlink : Cond.methodLink own idx yX5_isLetter ∈ W0) (hw : wp_X5_isLetter u x0 P) (hr : 0 + 1 ≤ fr ∧ 8 + (1 + 11) + 0 ≤ lo) (hst : (st.map fun v => v.category).sum ≤ 8) (hdg : decode cc pc = .ok (.invokestatic idx, 3)) (k : ∀ (r : Int32) (u2 : St), P r u2 → Z X (wC ad cs u2) (pc + 3) lv (.int r :: st)) : Z X (wC ad cs u) pc lv (.int x0 :: st) :=
  z_callSi (wf := wC ad cs) (As := [.int x0]) (rest := st) C.1 1 mT_X5_isLetter (by rw [C.2.1, C.2.2.2]; exact c_X5_isLetter C.2.2.1 u x0 P hw) mC_X5_isLetter mZ_X5 (by decide +kernel) rfl hlink hr hst hdg k

def wp_X5_isDigit (u : St) (x0 : Int32) (post : Int32 → St → Prop) : Prop :=
  br (x0 < 48) ((bz 0 ∧ post 0 u)) (br (57 < x0) ((bz 0 ∧ post 0 u)) ((bz 1 ∧ post 1 u)))
set_option maxHeartbeats 4000000 in
set_option maxRecDepth 20000 in
theorem z_X5_isDigit {X : XX} {ad : Nat → Nat} {cs : Nat → ClassId} {post : Int32 → St → Prop} (C : CxC X ad cs cX5_isDigit RX5 0 0) (hn : xnL X = 1) (hR : rtZ X cX5_isDigit (wC ad cs) post) (u : St) (x0 : Int32) (hw : wp_X5_isDigit u x0 post) : Z X (wC ad cs u) 0 [(0, .int x0)] [] := by
  unfold wp_X5_isDigit at hw
  refine z_iload_n C.1 dX5_isDigit_0 rfl 0 rfl ?_
  refine z_bipush (v := 48) C.1 dX5_isDigit_1 (by decide) ?_
  refine z_icmp_lt (tgt := 16) C.1 dX5_isDigit_3 (by decide) (fun c1 => ?_) (fun c1 => ?_)
  · replace hw := hw.1 c1
    refine z_iconst (v := 0) C.1 dX5_isDigit_16 (by decide) ?_
    exact hR _ _ _ _ dX5_isDigit_17 hw
  · replace hw := hw.2 c1
    refine z_iload_n C.1 dX5_isDigit_6 rfl 0 rfl ?_
    refine z_bipush (v := 57) C.1 dX5_isDigit_7 (by decide) ?_
    refine z_icmp_gt (tgt := 16) C.1 dX5_isDigit_9 (by decide) (fun c2 => ?_) (fun c2 => ?_)
    · replace hw := hw.1 c2
      refine z_iconst (v := 0) C.1 dX5_isDigit_16 (by decide) ?_
      exact hR _ _ _ _ dX5_isDigit_17 hw
    · replace hw := hw.2 c2
      refine z_iconst (v := 1) C.1 dX5_isDigit_12 (by decide) ?_
      refine z_goto (tgt := 17) C.1 dX5_isDigit_13 (by decide) ?_
      exact hR _ _ _ _ dX5_isDigit_17 hw
theorem c_X5_isDigit {l : Launch} {D : va_G} {A : Nat → Prop} {ad : Nat → Nat} {cs : Nat → ClassId} (hD : ∀ u : St, va_D A (wC ad cs u)) (u : St) (x0 : Int32) (post : Int32 → St → Prop) (hw : wp_X5_isDigit u x0 post) : MI (ad 90, ad 91) l yX5_isDigit cX5_isDigit 1 (some .boolean) (rmm 0 0) D (tysC cs) A (wC ad cs) u [.int x0] post :=
  met_z (by decide) (Nat.le_of_ble_eq_true rfl) (fun X C _ _ ht hA hn hsg hR => z_X5_isDigit ⟨C, ht, fun u => by rw [hA]; exact hD u, hsg⟩ hn hR u x0 hw)
theorem k_X5_isDigit {X : XX} {ad : Nat → Nat} {cs : Nat → ClassId} {cc : ByteArray} {own : String} {fr lo pc : Nat} {lv : List (Nat × Value)} {st : List Value} {u : St} (C : CxC X ad cs cc own fr lo) {idx : Nat} {x0 : Int32} {P : Int32 → St → Prop} (hlink : Cond.methodLink own idx yX5_isDigit ∈ W0) (hw : wp_X5_isDigit u x0 P) (hr : 0 + 1 ≤ fr ∧ 8 + (1 + 11) + 0 ≤ lo) (hst : (st.map fun v => v.category).sum ≤ 8) (hdg : decode cc pc = .ok (.invokestatic idx, 3)) (k : ∀ (r : Int32) (u2 : St), P r u2 → Z X (wC ad cs u2) (pc + 3) lv (.int r :: st)) : Z X (wC ad cs u) pc lv (.int x0 :: st) :=
  z_callSi (wf := wC ad cs) (As := [.int x0]) (rest := st) C.1 1 mT_X5_isDigit (by rw [C.2.1, C.2.2.2]; exact c_X5_isDigit C.2.2.1 u x0 P hw) mC_X5_isDigit mZ_X5 (by decide +kernel) rfl hlink hr hst hdg k

def wp_X5_wordOrName (u : St) (x0 : Int64) (post : Int32 → St → Prop) : Prop :=
  br ((lg_cmp x0 26982) = 0) (post 4 u) (br ((lg_cmp x0 1952998766) = 0) (post 5 u) (br ((lg_cmp x0 1701606245) = 0) (post 6 u) (br ((lg_cmp x0 7103860) = 0) (post 7 u) (br ((lg_cmp x0 26990) = 0) (post 8 u) (br ((lg_cmp x0 1835101029) = 0) (post 9 u) (post 2 u))))))
set_option maxHeartbeats 4000000 in
set_option maxRecDepth 20000 in
theorem z_X5_wordOrName {X : XX} {ad : Nat → Nat} {cs : Nat → ClassId} {post : Int32 → St → Prop} (C : CxC X ad cs cX5_wordOrName RX5 0 0) (hn : xnL X = 2) (hR : rtI X cX5_wordOrName (wC ad cs) post) (u : St) (x0 : Int64) (hw : wp_X5_wordOrName u x0 post) : Z X (wC ad cs u) 0 [(0, .long x0)] [] := by
  unfold wp_X5_wordOrName at hw
  refine z_lload_n C.1 dX5_wordOrName_0 rfl 0 rfl ?_
  refine z_ldc2 C.1 mK_X5_75 dX5_wordOrName_1 ?_
  refine z_lcmp C.1 dX5_wordOrName_4 ?_
  refine z_if_ne (tgt := 10) C.1 dX5_wordOrName_5 (by decide) (fun c1 => ?_) (fun c1 => ?_)
  · replace hw := hw.2 c1
    refine z_lload_n C.1 dX5_wordOrName_10 rfl 0 rfl ?_
    refine z_ldc2 C.1 mK_X5_77 dX5_wordOrName_11 ?_
    refine z_lcmp C.1 dX5_wordOrName_14 ?_
    refine z_if_ne (tgt := 20) C.1 dX5_wordOrName_15 (by decide) (fun c2 => ?_) (fun c2 => ?_)
    · replace hw := hw.2 c2
      refine z_lload_n C.1 dX5_wordOrName_20 rfl 0 rfl ?_
      refine z_ldc2 C.1 mK_X5_79 dX5_wordOrName_21 ?_
      refine z_lcmp C.1 dX5_wordOrName_24 ?_
      refine z_if_ne (tgt := 31) C.1 dX5_wordOrName_25 (by decide) (fun c3 => ?_) (fun c3 => ?_)
      · replace hw := hw.2 c3
        refine z_lload_n C.1 dX5_wordOrName_31 rfl 0 rfl ?_
        refine z_ldc2 C.1 mK_X5_81 dX5_wordOrName_32 ?_
        refine z_lcmp C.1 dX5_wordOrName_35 ?_
        refine z_if_ne (tgt := 42) C.1 dX5_wordOrName_36 (by decide) (fun c4 => ?_) (fun c4 => ?_)
        · replace hw := hw.2 c4
          refine z_lload_n C.1 dX5_wordOrName_42 rfl 0 rfl ?_
          refine z_ldc2 C.1 mK_X5_83 dX5_wordOrName_43 ?_
          refine z_lcmp C.1 dX5_wordOrName_46 ?_
          refine z_if_ne (tgt := 53) C.1 dX5_wordOrName_47 (by decide) (fun c5 => ?_) (fun c5 => ?_)
          · replace hw := hw.2 c5
            refine z_lload_n C.1 dX5_wordOrName_53 rfl 0 rfl ?_
            refine z_ldc2 C.1 mK_X5_85 dX5_wordOrName_54 ?_
            refine z_lcmp C.1 dX5_wordOrName_57 ?_
            refine z_if_ne (tgt := 66) C.1 dX5_wordOrName_58 (by decide) (fun c6 => ?_) (fun c6 => ?_)
            · replace hw := hw.2 c6
              refine z_iconst (v := 2) C.1 dX5_wordOrName_66 (by decide) ?_
              exact hR _ _ _ _ dX5_wordOrName_67 hw
            · replace hw := hw.1 c6
              refine z_bipush (v := 9) C.1 dX5_wordOrName_61 (by decide) ?_
              refine z_goto (tgt := 67) C.1 dX5_wordOrName_63 (by decide) ?_
              exact hR _ _ _ _ dX5_wordOrName_67 hw
          · replace hw := hw.1 c5
            refine z_bipush (v := 8) C.1 dX5_wordOrName_50 (by decide) ?_
            exact hR _ _ _ _ dX5_wordOrName_52 hw
        · replace hw := hw.1 c4
          refine z_bipush (v := 7) C.1 dX5_wordOrName_39 (by decide) ?_
          exact hR _ _ _ _ dX5_wordOrName_41 hw
      · replace hw := hw.1 c3
        refine z_bipush (v := 6) C.1 dX5_wordOrName_28 (by decide) ?_
        exact hR _ _ _ _ dX5_wordOrName_30 hw
    · replace hw := hw.1 c2
      refine z_iconst (v := 5) C.1 dX5_wordOrName_18 (by decide) ?_
      exact hR _ _ _ _ dX5_wordOrName_19 hw
  · replace hw := hw.1 c1
    refine z_iconst (v := 4) C.1 dX5_wordOrName_8 (by decide) ?_
    exact hR _ _ _ _ dX5_wordOrName_9 hw
theorem c_X5_wordOrName {l : Launch} {D : va_G} {A : Nat → Prop} {ad : Nat → Nat} {cs : Nat → ClassId} (hD : ∀ u : St, va_D A (wC ad cs u)) (u : St) (x0 : Int64) (post : Int32 → St → Prop) (hw : wp_X5_wordOrName u x0 post) : MI (ad 90, ad 91) l yX5_wordOrName cX5_wordOrName 2 (some .int) (rmm 0 0) D (tysC cs) A (wC ad cs) u [.long x0] post :=
  met_i (by decide) (Nat.le_of_ble_eq_true rfl) (fun X C _ _ ht hA hn hsg hR => z_X5_wordOrName ⟨C, ht, fun u => by rw [hA]; exact hD u, hsg⟩ hn hR u x0 hw)
theorem k_X5_wordOrName {X : XX} {ad : Nat → Nat} {cs : Nat → ClassId} {cc : ByteArray} {own : String} {fr lo pc : Nat} {lv : List (Nat × Value)} {st : List Value} {u : St} (C : CxC X ad cs cc own fr lo) {idx : Nat} {x0 : Int64} {P : Int32 → St → Prop} (hlink : Cond.methodLink own idx yX5_wordOrName ∈ W0) (hw : wp_X5_wordOrName u x0 P) (hr : 0 + 1 ≤ fr ∧ 8 + (2 + 11) + 0 ≤ lo) (hst : (st.map fun v => v.category).sum ≤ 8) (hdg : decode cc pc = .ok (.invokestatic idx, 3)) (k : ∀ (r : Int32) (u2 : St), P r u2 → Z X (wC ad cs u2) (pc + 3) lv (.int r :: st)) : Z X (wC ad cs u) pc lv (.long x0 :: st) :=
  z_callSi (wf := wC ad cs) (As := [.long x0]) (rest := st) C.1 1 mT_X5_wordOrName (by rw [C.2.1, C.2.2.2]; exact c_X5_wordOrName C.2.2.1 u x0 P hw) mC_X5_wordOrName mZ_X5 (by decide +kernel) rfl hlink hr hst hdg k

def wp_X5_takeRow_180 (u : St) (post : St → Prop) : Prop :=
  nm (sI u 9 1) (fun u26 : St => post u26)
set_option maxHeartbeats 4000000 in
set_option maxRecDepth 20000 in
theorem z_X5_takeRow_180 {X : XX} {ad : Nat → Nat} {cs : Nat → ClassId} {post : St → Prop} (C : CxC X ad cs cX5_takeRow RX5 1 21) (hn : xnL X = 7) (hR : rtV X cX5_takeRow (wC ad cs) post) (u : St) (hw : wp_X5_takeRow_180 u post) : Z X (wC ad cs u) 180 [(0, .ref (ad 2))] [] := by
  unfold wp_X5_takeRow_180 at hw
  refine z_aload_n C.1 dX5_takeRow_180 rfl 0 rfl ?_
  refine z_iconst (v := 1) C.1 dX5_takeRow_181 (by decide) ?_
  refine pC_2_kind C mF_X5_30 dX5_takeRow_182 (fun u26 eu26 => ?_)
  replace hw := hw u26 eu26
  exact hR _ _ _ dX5_takeRow_185 hw
def wp_X5_takeRow_152 (u : St) (x1 : Int32) (x4 : Int64) (post : St → Prop) : Prop :=
  br (x1 = 0) (br (0 < (lg_cmp x4 2147483647)) (wp_X5_takeRow_180 u post) (nm (sI u 11 (Int64.toInt32 x4)) (fun u24 : St => nm (sI u24 9 3) (fun u25 : St => post u25)))) (wp_X5_takeRow_180 u post)
set_option maxHeartbeats 4000000 in
set_option maxRecDepth 20000 in
theorem z_X5_takeRow_152 {X : XX} {ad : Nat → Nat} {cs : Nat → ClassId} {post : St → Prop} (C : CxC X ad cs cX5_takeRow RX5 1 21) (hn : xnL X = 7) (hR : rtV X cX5_takeRow (wC ad cs) post) (u : St) (x1 : Int32) (x4 : Int64) (hw : wp_X5_takeRow_152 u x1 x4 post) : Z X (wC ad cs u) 152 [(0, .ref (ad 2)), (1, .int x1), (4, .long x4)] [] := by
  unfold wp_X5_takeRow_152 at hw
  refine z_iload_n C.1 dX5_takeRow_152 rfl 1 rfl ?_
  refine z_if_ne (tgt := 180) C.1 dX5_takeRow_153 (by decide) (fun c22 => ?_) (fun c22 => ?_)
  · replace hw := hw.2 c22
    refine z_lv [0] rfl ?_
    exact z_X5_takeRow_180 C hn hR _ hw
  · replace hw := hw.1 c22
    refine z_lload C.1 dX5_takeRow_156 2 rfl ?_
    refine z_ldc2 C.1 mK_X5_70 dX5_takeRow_158 ?_
    refine z_lcmp C.1 dX5_takeRow_161 ?_
    refine z_if_gt (tgt := 180) C.1 dX5_takeRow_162 (by decide) (fun c23 => ?_) (fun c23 => ?_)
    · replace hw := hw.1 c23
      refine z_lv [0] rfl ?_
      exact z_X5_takeRow_180 C hn hR _ hw
    · replace hw := hw.2 c23
      refine z_aload_n C.1 dX5_takeRow_165 rfl 0 rfl ?_
      refine z_lload C.1 dX5_takeRow_166 2 rfl ?_
      refine z_l2i C.1 dX5_takeRow_168 ?_
      refine pC_2_number C mF_X5_72 dX5_takeRow_169 (fun u24 eu24 => ?_)
      replace hw := hw u24 eu24
      refine z_aload_n C.1 dX5_takeRow_172 rfl 0 rfl ?_
      refine z_iconst (v := 3) C.1 dX5_takeRow_173 (by decide) ?_
      refine pC_2_kind C mF_X5_30 dX5_takeRow_174 (fun u25 eu25 => ?_)
      replace hw := hw u25 eu25
      refine z_goto (tgt := 185) C.1 dX5_takeRow_177 (by decide) ?_
      exact hR _ _ _ dX5_takeRow_185 hw
def wp_X5_takeRow_117 (u : St) (x1 : Int32) (x2 : Int64) (x4 : Int64) (post : St → Prop) : Prop :=
  br (x1 = ((gI u 7) - (gI u 10))) (br (8 < x1) (wp_X5_takeRow_152 u x1 x4 post) (nm (sL u 0 x2) (fun u18 : St => wp_X5_wordOrName u18 x2 (fun (r20 : Int32) (u19 : St) => nm (sI u19 9 r20) (fun u21 : St => post u21))))) (wp_X5_takeRow_152 u x1 x4 post)
set_option maxHeartbeats 4000000 in
set_option maxRecDepth 20000 in
theorem z_X5_takeRow_117 {X : XX} {ad : Nat → Nat} {cs : Nat → ClassId} {post : St → Prop} (C : CxC X ad cs cX5_takeRow RX5 1 21) (hn : xnL X = 7) (hR : rtV X cX5_takeRow (wC ad cs) post) (u : St) (x1 : Int32) (x2 : Int64) (x4 : Int64) (hw : wp_X5_takeRow_117 u x1 x2 x4 post) : Z X (wC ad cs u) 117 [(0, .ref (ad 2)), (1, .int x1), (2, .long x2), (4, .long x4)] [] := by
  unfold wp_X5_takeRow_117 at hw
  refine z_iload_n C.1 dX5_takeRow_117 rfl 1 rfl ?_
  refine z_aload_n C.1 dX5_takeRow_118 rfl 0 rfl ?_
  refine gC_2_next C mF_X5_17 dX5_takeRow_119 ?_
  refine z_aload_n C.1 dX5_takeRow_122 rfl 0 rfl ?_
  refine gC_2_place C mF_X5_27 dX5_takeRow_123 ?_
  refine z_isub C.1 dX5_takeRow_126 ?_
  refine z_icmp_ne (tgt := 152) C.1 dX5_takeRow_127 (by decide) (fun c16 => ?_) (fun c16 => ?_)
  · replace hw := hw.2 c16
    refine z_lv [0, 1, 3] rfl ?_
    exact z_X5_takeRow_152 C hn hR _ _ _ hw
  · replace hw := hw.1 c16
    refine z_iload_n C.1 dX5_takeRow_130 rfl 1 rfl ?_
    refine z_bipush (v := 8) C.1 dX5_takeRow_131 (by decide) ?_
    refine z_icmp_gt (tgt := 152) C.1 dX5_takeRow_133 (by decide) (fun c17 => ?_) (fun c17 => ?_)
    · replace hw := hw.1 c17
      refine z_lv [0, 1, 3] rfl ?_
      exact z_X5_takeRow_152 C hn hR _ _ _ hw
    · replace hw := hw.2 c17
      refine z_aload_n C.1 dX5_takeRow_136 rfl 0 rfl ?_
      refine z_lload_n C.1 dX5_takeRow_137 rfl 2 rfl ?_
      refine pC_2_name C mF_X5_62 dX5_takeRow_138 (fun u18 eu18 => ?_)
      replace hw := hw u18 eu18
      refine z_aload_n C.1 dX5_takeRow_141 rfl 0 rfl ?_
      refine z_lload_n C.1 dX5_takeRow_142 rfl 2 rfl ?_
      refine k_X5_wordOrName C mM_X5_66 hw (by decide) (Nat.le_of_ble_eq_true rfl) dX5_takeRow_143 (fun r20 u19 hw => ?_)
      refine pC_2_kind C mF_X5_30 dX5_takeRow_146 (fun u21 eu21 => ?_)
      replace hw := hw u21 eu21
      refine z_goto (tgt := 185) C.1 dX5_takeRow_149 (by decide) ?_
      exact hR _ _ _ dX5_takeRow_185 hw
def wp_X5_takeRow_104 (K7 : St → Int32 → Int64 → Int64 → Prop) (u : St) (x1 : Int32) (x2 : Int64) (x4 : Int64) (post : St → Prop) : Prop :=
  nm (sI u 7 ((gI u 7) + 1)) (fun u15 : St => K7 u15 x1 x2 x4)
set_option maxHeartbeats 4000000 in
set_option maxRecDepth 20000 in
theorem z_X5_takeRow_104 {X : XX} {ad : Nat → Nat} {cs : Nat → ClassId} {post : St → Prop} (C : CxC X ad cs cX5_takeRow RX5 1 21) (hn : xnL X = 7) (hR : rtV X cX5_takeRow (wC ad cs) post) {K7 : St → Int32 → Int64 → Int64 → Prop} (hK7 : ∀ (u : St) (x1 : Int32) (x2 : Int64) (x4 : Int64), K7 u x1 x2 x4 → Z X (wC ad cs u) 7 [(0, .ref (ad 2)), (1, .int x1), (2, .long x2), (4, .long x4)] []) (u : St) (x1 : Int32) (x2 : Int64) (x4 : Int64) (hw : wp_X5_takeRow_104 K7 u x1 x2 x4 post) : Z X (wC ad cs u) 104 [(0, .ref (ad 2)), (1, .int x1), (2, .long x2), (4, .long x4)] [] := by
  unfold wp_X5_takeRow_104 at hw
  refine z_aload_n C.1 dX5_takeRow_104 rfl 0 rfl ?_
  refine z_dup C.1 dX5_takeRow_105 rfl ?_
  refine gC_2_next C mF_X5_17 dX5_takeRow_106 ?_
  refine z_iconst (v := 1) C.1 dX5_takeRow_109 (by decide) ?_
  refine z_iadd C.1 dX5_takeRow_110 ?_
  refine pC_2_next C mF_X5_17 dX5_takeRow_111 (fun u15 eu15 => ?_)
  replace hw := hw u15 eu15
  refine z_goto (tgt := 7) C.1 dX5_takeRow_114 (by decide) ?_
  refine z_lv [0, 1, 2, 3] rfl ?_
  exact hK7 _ _ _ _ hw
def wp_X5_takeRow_48 (K7 : St → Int32 → Int64 → Int64 → Prop) (u : St) (x1 : Int32) (x2 : Int64) (x4 : Int64) (post : St → Prop) : Prop :=
  (vp_in (gI u 7) 1500 ∧ nm (gA u 14 (ix (gI u 7))) (fun v8 : Int32 => wp_X5_isLetter u v8 (fun (r10 : Int32) (u9 : St) => br (r10 = 0) (nm (if 2147483648 < (((x4 * 10) + (Int32.toInt64 v8)) - 48) then 2147483648 else (((x4 * 10) + (Int32.toInt64 v8)) - 48)) (fun v12 : Int64 => wp_X5_takeRow_104 K7 u9 x1 x2 v12 post)) (nm (x1 + 1) (fun v13 : Int32 => nm ((x2 <<< (Int32.toInt64 8 &&& 63)) ||| (Int32.toInt64 v8)) (fun v14 : Int64 => wp_X5_takeRow_104 K7 u9 v13 v14 x4 post))))))
set_option maxHeartbeats 4000000 in
set_option maxRecDepth 20000 in
theorem z_X5_takeRow_48 {X : XX} {ad : Nat → Nat} {cs : Nat → ClassId} {post : St → Prop} (C : CxC X ad cs cX5_takeRow RX5 1 21) (hn : xnL X = 7) (hR : rtV X cX5_takeRow (wC ad cs) post) {K7 : St → Int32 → Int64 → Int64 → Prop} (hK7 : ∀ (u : St) (x1 : Int32) (x2 : Int64) (x4 : Int64), K7 u x1 x2 x4 → Z X (wC ad cs u) 7 [(0, .ref (ad 2)), (1, .int x1), (2, .long x2), (4, .long x4)] []) (u : St) (x1 : Int32) (x2 : Int64) (x4 : Int64) (hw : wp_X5_takeRow_48 K7 u x1 x2 x4 post) : Z X (wC ad cs u) 48 [(0, .ref (ad 2)), (1, .int x1), (2, .long x2), (4, .long x4)] [] := by
  unfold wp_X5_takeRow_48 at hw
  refine z_aload_n C.1 dX5_takeRow_48 rfl 0 rfl ?_
  refine gC_2_bytes C mF_X5_9 dX5_takeRow_49 ?_
  refine z_aload_n C.1 dX5_takeRow_52 rfl 0 rfl ?_
  refine gC_2_next C mF_X5_17 dX5_takeRow_53 ?_
  refine lC_14 C hw.1 dX5_takeRow_56 ?_
  replace hw := hw.2
  refine z_topi (fun v8 ev8 => ?_)
  replace hw := hw v8 ev8
  refine z_istore (lv' := [(6, .int v8), (0, .ref (ad 2)), (1, .int x1), (2, .long x2), (4, .long x4)]) C.1 dX5_takeRow_57 (by rw [hn]; decide) rfl ?_
  refine z_iload C.1 dX5_takeRow_59 0 rfl ?_
  refine k_X5_isLetter C mM_X5_33 hw (by decide) (Nat.le_of_ble_eq_true rfl) dX5_takeRow_61 (fun r10 u9 hw => ?_)
  refine z_if_eq (tgt := 82) C.1 dX5_takeRow_64 (by decide) (fun c11 => ?_) (fun c11 => ?_)
  · replace hw := hw.1 c11
    refine z_lload C.1 dX5_takeRow_82 4 rfl ?_
    refine z_ldc2 C.1 mK_X5_50 dX5_takeRow_84 ?_
    refine z_lmul C.1 dX5_takeRow_87 ?_
    refine z_iload C.1 dX5_takeRow_88 0 rfl ?_
    refine z_i2l C.1 dX5_takeRow_90 ?_
    refine z_ladd C.1 dX5_takeRow_91 ?_
    refine z_ldc2 C.1 mK_X5_52 dX5_takeRow_92 ?_
    refine z_lsub C.1 dX5_takeRow_95 ?_
    refine z_ldc2 C.1 mK_X5_54 dX5_takeRow_96 ?_
    refine z_mminL C.1 mM_X5_56 ⟨by decide, Nat.le_of_ble_eq_true rfl⟩ dX5_takeRow_99 ?_
    refine z_topl (fun v12 ev12 => ?_)
    replace hw := hw v12 ev12
    refine z_lstore (lv' := [(4, .long v12), (6, .int v8), (0, .ref (ad 2)), (1, .int x1), (2, .long x2)]) C.1 dX5_takeRow_102 (by rw [hn]; decide) rfl ?_
    refine z_lv [2, 3, 4, 0] rfl ?_
    exact z_X5_takeRow_104 C hn hR hK7 _ _ _ _ hw
  · replace hw := hw.2 c11
    obtain ⟨v13, ev13⟩ : ∃ z : Int32, z = x1 + 1 := ⟨_, rfl⟩
    replace hw := hw v13 ev13
    refine z_iinc (v := v13) (lv' := [(1, .int v13), (6, .int v8), (0, .ref (ad 2)), (2, .long x2), (4, .long x4)]) C.1 (j := 2) dX5_takeRow_67 rfl (by rw [ev13]; rfl) (by rw [hn]; decide) rfl ?_
    refine z_lload_n C.1 dX5_takeRow_70 rfl 3 rfl ?_
    refine z_bipush (v := 8) C.1 dX5_takeRow_71 (by decide) ?_
    refine z_lshl C.1 dX5_takeRow_73 ?_
    refine z_iload C.1 dX5_takeRow_74 1 rfl ?_
    refine z_i2l C.1 dX5_takeRow_76 ?_
    refine z_lor C.1 dX5_takeRow_77 ?_
    refine z_topl (fun v14 ev14 => ?_)
    replace hw := hw v14 ev14
    refine z_lstore_n (lv' := [(2, .long v14), (1, .int v13), (6, .int v8), (0, .ref (ad 2)), (4, .long x4)]) C.1 dX5_takeRow_78 rfl (by rw [hn]; decide) rfl ?_
    refine z_goto (tgt := 104) C.1 dX5_takeRow_79 (by decide) ?_
    refine z_lv [3, 1, 0, 4] rfl ?_
    exact z_X5_takeRow_104 C hn hR hK7 _ _ _ _ hw
def wp_X5_takeRow_7s (K7 : St → Int32 → Int64 → Int64 → Prop) (u : St) (x1 : Int32) (x2 : Int64) (x4 : Int64) (post : St → Prop) : Prop :=
  br ((gI u 8) ≤ (gI u 7)) (wp_X5_takeRow_117 u x1 x2 x4 post) ((vp_in (gI u 7) 1500 ∧ wp_X5_isLetter u (gA u 14 (ix (gI u 7))) (fun (r3 : Int32) (u2 : St) => br (r3 = 0) ((vp_in (gI u2 7) 1500 ∧ wp_X5_isDigit u2 (gA u2 14 (ix (gI u2 7))) (fun (r6 : Int32) (u5 : St) => br (r6 = 0) (wp_X5_takeRow_117 u5 x1 x2 x4 post) (wp_X5_takeRow_48 K7 u5 x1 x2 x4 post)))) (wp_X5_takeRow_48 K7 u2 x1 x2 x4 post))))
def wp_X5_takeRow_7 (post : St → Prop) : Nat → St → Int32 → Int64 → Int64 → Prop
  | 0 => fun _ _ _ _ => False
  | n + 1 => fun u x1 x2 x4 => wp_X5_takeRow_7s (wp_X5_takeRow_7 post n) u x1 x2 x4 post
set_option maxHeartbeats 4000000 in
set_option maxRecDepth 20000 in
theorem z_X5_takeRow_7s {X : XX} {ad : Nat → Nat} {cs : Nat → ClassId} {post : St → Prop} (C : CxC X ad cs cX5_takeRow RX5 1 21) (hn : xnL X = 7) (hR : rtV X cX5_takeRow (wC ad cs) post) {K7 : St → Int32 → Int64 → Int64 → Prop} (hK7 : ∀ (u : St) (x1 : Int32) (x2 : Int64) (x4 : Int64), K7 u x1 x2 x4 → Z X (wC ad cs u) 7 [(0, .ref (ad 2)), (1, .int x1), (2, .long x2), (4, .long x4)] []) (u : St) (x1 : Int32) (x2 : Int64) (x4 : Int64) (hw : wp_X5_takeRow_7s K7 u x1 x2 x4 post) : Z X (wC ad cs u) 7 [(0, .ref (ad 2)), (1, .int x1), (2, .long x2), (4, .long x4)] [] := by
  unfold wp_X5_takeRow_7s at hw
  refine z_aload_n C.1 dX5_takeRow_7 rfl 0 rfl ?_
  refine gC_2_next C mF_X5_17 dX5_takeRow_8 ?_
  refine z_aload_n C.1 dX5_takeRow_11 rfl 0 rfl ?_
  refine gC_2_length C mF_X5_13 dX5_takeRow_12 ?_
  refine z_icmp_ge (tgt := 117) C.1 dX5_takeRow_15 (by decide) (fun c1 => ?_) (fun c1 => ?_)
  · replace hw := hw.1 c1
    refine z_lv [0, 1, 2, 3] rfl ?_
    exact z_X5_takeRow_117 C hn hR _ _ _ _ hw
  · replace hw := hw.2 c1
    refine z_aload_n C.1 dX5_takeRow_18 rfl 0 rfl ?_
    refine gC_2_bytes C mF_X5_9 dX5_takeRow_19 ?_
    refine z_aload_n C.1 dX5_takeRow_22 rfl 0 rfl ?_
    refine gC_2_next C mF_X5_17 dX5_takeRow_23 ?_
    refine lC_14 C hw.1 dX5_takeRow_26 ?_
    replace hw := hw.2
    refine k_X5_isLetter C mM_X5_33 hw (by decide) (Nat.le_of_ble_eq_true rfl) dX5_takeRow_27 (fun r3 u2 hw => ?_)
    refine z_if_ne (tgt := 48) C.1 dX5_takeRow_30 (by decide) (fun c4 => ?_) (fun c4 => ?_)
    · replace hw := hw.2 c4
      refine z_lv [0, 1, 2, 3] rfl ?_
      exact z_X5_takeRow_48 C hn hR hK7 _ _ _ _ hw
    · replace hw := hw.1 c4
      refine z_aload_n C.1 dX5_takeRow_33 rfl 0 rfl ?_
      refine gC_2_bytes C mF_X5_9 dX5_takeRow_34 ?_
      refine z_aload_n C.1 dX5_takeRow_37 rfl 0 rfl ?_
      refine gC_2_next C mF_X5_17 dX5_takeRow_38 ?_
      refine lC_14 C hw.1 dX5_takeRow_41 ?_
      replace hw := hw.2
      refine k_X5_isDigit C mM_X5_36 hw (by decide) (Nat.le_of_ble_eq_true rfl) dX5_takeRow_42 (fun r6 u5 hw => ?_)
      refine z_if_eq (tgt := 117) C.1 dX5_takeRow_45 (by decide) (fun c7 => ?_) (fun c7 => ?_)
      · replace hw := hw.1 c7
        refine z_lv [0, 1, 2, 3] rfl ?_
        exact z_X5_takeRow_117 C hn hR _ _ _ _ hw
      · replace hw := hw.2 c7
        refine z_lv [0, 1, 2, 3] rfl ?_
        exact z_X5_takeRow_48 C hn hR hK7 _ _ _ _ hw
theorem z_X5_takeRow_7 {X : XX} {ad : Nat → Nat} {cs : Nat → ClassId} {post : St → Prop} (C : CxC X ad cs cX5_takeRow RX5 1 21) (hn : xnL X = 7) (hR : rtV X cX5_takeRow (wC ad cs) post) : ∀ (n : Nat) (u : St) (x1 : Int32) (x2 : Int64) (x4 : Int64), wp_X5_takeRow_7 post n u x1 x2 x4 → Z X (wC ad cs u) 7 [(0, .ref (ad 2)), (1, .int x1), (2, .long x2), (4, .long x4)] []
  | 0, _, _, _, _, hw => absurd hw (fun h => h)
  | n + 1, u, x1, x2, x4, hw => z_X5_takeRow_7s C hn hR (z_X5_takeRow_7 C hn hR n) u x1 x2 x4 hw
def wp_X5_takeRow (u : St) (post : St → Prop) : Prop :=
  ∃ n, wp_X5_takeRow_7 post n u 0 0 0
set_option maxHeartbeats 4000000 in
set_option maxRecDepth 20000 in
theorem z_X5_takeRow {X : XX} {ad : Nat → Nat} {cs : Nat → ClassId} {post : St → Prop} (C : CxC X ad cs cX5_takeRow RX5 1 21) (hn : xnL X = 7) (hR : rtV X cX5_takeRow (wC ad cs) post) (u : St) (hw : wp_X5_takeRow u post) : Z X (wC ad cs u) 0 [(0, .ref (ad 2))] [] := by
  unfold wp_X5_takeRow at hw
  refine z_iconst (v := 0) C.1 dX5_takeRow_0 (by decide) ?_
  refine z_istore_n (lv' := [(1, .int 0), (0, .ref (ad 2))]) C.1 dX5_takeRow_1 rfl (by rw [hn]; decide) rfl ?_
  refine z_lconst (v := 0) C.1 dX5_takeRow_2 (by decide) ?_
  refine z_lstore_n (lv' := [(2, .long 0), (1, .int 0), (0, .ref (ad 2))]) C.1 dX5_takeRow_3 rfl (by rw [hn]; decide) rfl ?_
  refine z_lconst (v := 0) C.1 dX5_takeRow_4 (by decide) ?_
  refine z_lstore (lv' := [(4, .long 0), (2, .long 0), (1, .int 0), (0, .ref (ad 2))]) C.1 dX5_takeRow_5 (by rw [hn]; decide) rfl ?_
  refine z_lv [3, 2, 1, 0] rfl ?_
  obtain ⟨n, hw⟩ := hw
  exact z_X5_takeRow_7 C hn hR n _ _ _ _ hw
theorem c_X5_takeRow {l : Launch} {D : va_G} {A : Nat → Prop} {ad : Nat → Nat} {cs : Nat → ClassId} (hD : ∀ u : St, va_D A (wC ad cs u)) (u : St) (post : St → Prop) (hw : wp_X5_takeRow u post) : MV (ad 90, ad 91) l yX5_takeRow cX5_takeRow 7 none (rmm 1 21) D (tysC cs) A (wC ad cs) u [.ref (ad 2)] post :=
  met_v (by decide) (Nat.le_of_ble_eq_true rfl) (fun X C _ _ ht hA hn hsg hR => z_X5_takeRow ⟨C, ht, fun u => by rw [hA]; exact hD u, hsg⟩ hn hR u hw)
theorem k_X5_takeRow {X : XX} {ad : Nat → Nat} {cs : Nat → ClassId} {cc : ByteArray} {own : String} {fr lo pc : Nat} {lv : List (Nat × Value)} {st : List Value} {u : St} (C : CxC X ad cs cc own fr lo) {idx : Nat} {P : St → Prop} (hlink : Cond.methodLink own idx yX5_takeRow ∈ W0) (hw : wp_X5_takeRow u P) (hr : 1 + 1 ≤ fr ∧ 8 + (7 + 11) + 21 ≤ lo) (hst : (st.map fun v => v.category).sum ≤ 8) (hdg : decode cc pc = .ok (.invokevirtual idx, 3)) (k : ∀ (u2 : St), P u2 → Z X (wC ad cs u2) (pc + 3) lv st) : Z X (wC ad cs u) pc lv (.ref (ad 2) :: st) :=
  z_callVv (wf := wC ad cs) (As := []) (rest := st) C.1 0 (q0 := 2) mI_X5_takeRow mS_X5_takeRow rfl rfl (by rw [C.2.1, C.2.2.2]; exact c_X5_takeRow C.2.2.1 u P hw) mC_X5_takeRow mZ_X5 (by decide +kernel) rfl hlink hr hst hdg k

def wp_X5_advance_96 (u : St) (post : St → Prop) : Prop :=
  wp_X5_takeRow u (fun (u20 : St) => post u20)
set_option maxHeartbeats 4000000 in
set_option maxRecDepth 20000 in
theorem z_X5_advance_96 {X : XX} {ad : Nat → Nat} {cs : Nat → ClassId} {post : St → Prop} (C : CxC X ad cs cX5_advance RX5 4 91) (hn : xnL X = 1) (hR : rtV X cX5_advance (wC ad cs) post) (u : St) (hw : wp_X5_advance_96 u post) : Z X (wC ad cs u) 96 [(0, .ref (ad 2))] [] := by
  unfold wp_X5_advance_96 at hw
  refine z_aload_n C.1 dX5_advance_96 rfl 0 rfl ?_
  refine k_X5_takeRow C mM_X5_39 hw (by decide) (Nat.le_of_ble_eq_true rfl) dX5_advance_97 (fun u20 hw => ?_)
  refine z_goto (tgt := 148) C.1 dX5_advance_100 (by decide) ?_
  exact hR _ _ _ dX5_advance_148 hw
def wp_X5_advance_135 (u : St) (y0 : Int32) (post : St → Prop) : Prop :=
  nm (sI u 9 y0) (fun u18 : St => nm (sI u18 7 ((gI u18 7) + 1)) (fun u19 : St => post u19))
set_option maxHeartbeats 4000000 in
set_option maxRecDepth 20000 in
theorem z_X5_advance_135 {X : XX} {ad : Nat → Nat} {cs : Nat → ClassId} {post : St → Prop} (C : CxC X ad cs cX5_advance RX5 4 91) (hn : xnL X = 1) (hR : rtV X cX5_advance (wC ad cs) post) (u : St) (y0 : Int32) (hw : wp_X5_advance_135 u y0 post) : Z X (wC ad cs u) 135 [(0, .ref (ad 2))] [.int y0, .ref (ad 2)] := by
  unfold wp_X5_advance_135 at hw
  refine pC_2_kind C mF_X5_30 dX5_advance_135 (fun u18 eu18 => ?_)
  replace hw := hw u18 eu18
  refine z_aload_n C.1 dX5_advance_138 rfl 0 rfl ?_
  refine z_dup C.1 dX5_advance_139 rfl ?_
  refine gC_2_next C mF_X5_17 dX5_advance_140 ?_
  refine z_iconst (v := 1) C.1 dX5_advance_143 (by decide) ?_
  refine z_iadd C.1 dX5_advance_144 ?_
  refine pC_2_next C mF_X5_17 dX5_advance_145 (fun u19 eu19 => ?_)
  replace hw := hw u19 eu19
  exact hR _ _ _ dX5_advance_148 hw
def wp_X5_advance_39 (u : St) (post : St → Prop) : Prop :=
  nm (sI u 10 (gI u 7)) (fun u6 : St => br ((gI u6 7) < (gI u6 8)) ((vp_in (gI u6 7) 1500 ∧ wp_X5_isLetter u6 (gA u6 14 (ix (gI u6 7))) (fun (r9 : Int32) (u8 : St) => br (r9 = 0) ((vp_in (gI u8 7) 1500 ∧ wp_X5_isDigit u8 (gA u8 14 (ix (gI u8 7))) (fun (r12 : Int32) (u11 : St) => br (r12 = 0) ((vp_in (gI u11 7) 1500 ∧ wp_J0_indexOf_0f7a4 u11 ((Int32.toUInt32 (gA u11 14 (ix (gI u11 7))) % 65536).toInt32) (fun (r15 : Int32) (u14 : St) => br (r15 < 0) (wp_X5_advance_135 u14 1 post) ((vp_in (gI u14 7) 1500 ∧ wp_X5_advance_135 u14 (gA u14 14 (ix (gI u14 7))) post))))) (wp_X5_advance_96 u11 post)))) (wp_X5_advance_96 u8 post)))) (nm (sI u6 9 0) (fun u17 : St => post u17)))
set_option maxHeartbeats 4000000 in
set_option maxRecDepth 20000 in
theorem z_X5_advance_39 {X : XX} {ad : Nat → Nat} {cs : Nat → ClassId} {post : St → Prop} (C : CxC X ad cs cX5_advance RX5 4 91) (hn : xnL X = 1) (hR : rtV X cX5_advance (wC ad cs) post) (u : St) (hw : wp_X5_advance_39 u post) : Z X (wC ad cs u) 39 [(0, .ref (ad 2))] [] := by
  unfold wp_X5_advance_39 at hw
  refine z_aload_n C.1 dX5_advance_39 rfl 0 rfl ?_
  refine z_aload_n C.1 dX5_advance_40 rfl 0 rfl ?_
  refine gC_2_next C mF_X5_17 dX5_advance_41 ?_
  refine pC_2_place C mF_X5_27 dX5_advance_44 (fun u6 eu6 => ?_)
  replace hw := hw u6 eu6
  refine z_aload_n C.1 dX5_advance_47 rfl 0 rfl ?_
  refine gC_2_next C mF_X5_17 dX5_advance_48 ?_
  refine z_aload_n C.1 dX5_advance_51 rfl 0 rfl ?_
  refine gC_2_length C mF_X5_13 dX5_advance_52 ?_
  refine z_icmp_lt (tgt := 66) C.1 dX5_advance_55 (by decide) (fun c7 => ?_) (fun c7 => ?_)
  · replace hw := hw.1 c7
    refine z_aload_n C.1 dX5_advance_66 rfl 0 rfl ?_
    refine gC_2_bytes C mF_X5_9 dX5_advance_67 ?_
    refine z_aload_n C.1 dX5_advance_70 rfl 0 rfl ?_
    refine gC_2_next C mF_X5_17 dX5_advance_71 ?_
    refine lC_14 C hw.1 dX5_advance_74 ?_
    replace hw := hw.2
    refine k_X5_isLetter C mM_X5_33 hw (by decide) (Nat.le_of_ble_eq_true rfl) dX5_advance_75 (fun r9 u8 hw => ?_)
    refine z_if_ne (tgt := 96) C.1 dX5_advance_78 (by decide) (fun c10 => ?_) (fun c10 => ?_)
    · replace hw := hw.2 c10
      refine z_lv [0] rfl ?_
      exact z_X5_advance_96 C hn hR _ hw
    · replace hw := hw.1 c10
      refine z_aload_n C.1 dX5_advance_81 rfl 0 rfl ?_
      refine gC_2_bytes C mF_X5_9 dX5_advance_82 ?_
      refine z_aload_n C.1 dX5_advance_85 rfl 0 rfl ?_
      refine gC_2_next C mF_X5_17 dX5_advance_86 ?_
      refine lC_14 C hw.1 dX5_advance_89 ?_
      replace hw := hw.2
      refine k_X5_isDigit C mM_X5_36 hw (by decide) (Nat.le_of_ble_eq_true rfl) dX5_advance_90 (fun r12 u11 hw => ?_)
      refine z_if_eq (tgt := 103) C.1 dX5_advance_93 (by decide) (fun c13 => ?_) (fun c13 => ?_)
      · replace hw := hw.1 c13
        refine z_aload_n C.1 dX5_advance_103 rfl 0 rfl ?_
        refine z_ldcS C dX5_advance_104 ?_
        refine z_aload_n C.1 dX5_advance_106 rfl 0 rfl ?_
        refine gC_2_bytes C mF_X5_9 dX5_advance_107 ?_
        refine z_aload_n C.1 dX5_advance_110 rfl 0 rfl ?_
        refine gC_2_next C mF_X5_17 dX5_advance_111 ?_
        refine lC_14 C hw.1 dX5_advance_114 ?_
        replace hw := hw.2
        refine z_i2c C.1 dX5_advance_115 ?_
        refine k_J0_indexOf_0f7a4 C mM_X5_44 hw (by decide) (Nat.le_of_ble_eq_true rfl) dX5_advance_116 (fun r15 u14 hw => ?_)
        refine z_if_lt (tgt := 134) C.1 dX5_advance_119 (by decide) (fun c16 => ?_) (fun c16 => ?_)
        · replace hw := hw.1 c16
          refine z_iconst (v := 1) C.1 dX5_advance_134 (by decide) ?_
          refine z_lv [0] rfl ?_
          exact z_X5_advance_135 C hn hR _ _ hw
        · replace hw := hw.2 c16
          refine z_aload_n C.1 dX5_advance_122 rfl 0 rfl ?_
          refine gC_2_bytes C mF_X5_9 dX5_advance_123 ?_
          refine z_aload_n C.1 dX5_advance_126 rfl 0 rfl ?_
          refine gC_2_next C mF_X5_17 dX5_advance_127 ?_
          refine lC_14 C hw.1 dX5_advance_130 ?_
          replace hw := hw.2
          refine z_goto (tgt := 135) C.1 dX5_advance_131 (by decide) ?_
          refine z_lv [0] rfl ?_
          exact z_X5_advance_135 C hn hR _ _ hw
      · replace hw := hw.2 c13
        refine z_lv [0] rfl ?_
        exact z_X5_advance_96 C hn hR _ hw
  · replace hw := hw.2 c7
    refine z_aload_n C.1 dX5_advance_58 rfl 0 rfl ?_
    refine z_iconst (v := 0) C.1 dX5_advance_59 (by decide) ?_
    refine pC_2_kind C mF_X5_30 dX5_advance_60 (fun u17 eu17 => ?_)
    replace hw := hw u17 eu17
    refine z_goto (tgt := 148) C.1 dX5_advance_63 (by decide) ?_
    exact hR _ _ _ dX5_advance_148 hw
def wp_X5_advance_0s (K0 : St → Prop) (u : St) (post : St → Prop) : Prop :=
  br ((gI u 8) ≤ (gI u 7)) (wp_X5_advance_39 u post) ((vp_in (gI u 7) 1500 ∧ wp_X5_isBlank u (gA u 14 (ix (gI u 7))) (fun (r3 : Int32) (u2 : St) => br (r3 = 0) (wp_X5_advance_39 u2 post) (nm (sI u2 7 ((gI u2 7) + 1)) (fun u5 : St => K0 u5)))))
def wp_X5_advance_0 (post : St → Prop) : Nat → St → Prop
  | 0 => fun _ => False
  | n + 1 => fun u => wp_X5_advance_0s (wp_X5_advance_0 post n) u post
set_option maxHeartbeats 4000000 in
set_option maxRecDepth 20000 in
theorem z_X5_advance_0s {X : XX} {ad : Nat → Nat} {cs : Nat → ClassId} {post : St → Prop} (C : CxC X ad cs cX5_advance RX5 4 91) (hn : xnL X = 1) (hR : rtV X cX5_advance (wC ad cs) post) {K0 : St → Prop} (hK0 : ∀ (u : St), K0 u → Z X (wC ad cs u) 0 [(0, .ref (ad 2))] []) (u : St) (hw : wp_X5_advance_0s K0 u post) : Z X (wC ad cs u) 0 [(0, .ref (ad 2))] [] := by
  unfold wp_X5_advance_0s at hw
  refine z_aload_n C.1 dX5_advance_0 rfl 0 rfl ?_
  refine gC_2_next C mF_X5_17 dX5_advance_1 ?_
  refine z_aload_n C.1 dX5_advance_4 rfl 0 rfl ?_
  refine gC_2_length C mF_X5_13 dX5_advance_5 ?_
  refine z_icmp_ge (tgt := 39) C.1 dX5_advance_8 (by decide) (fun c1 => ?_) (fun c1 => ?_)
  · replace hw := hw.1 c1
    refine z_lv [0] rfl ?_
    exact z_X5_advance_39 C hn hR _ hw
  · replace hw := hw.2 c1
    refine z_aload_n C.1 dX5_advance_11 rfl 0 rfl ?_
    refine gC_2_bytes C mF_X5_9 dX5_advance_12 ?_
    refine z_aload_n C.1 dX5_advance_15 rfl 0 rfl ?_
    refine gC_2_next C mF_X5_17 dX5_advance_16 ?_
    refine lC_14 C hw.1 dX5_advance_19 ?_
    replace hw := hw.2
    refine k_X5_isBlank C mM_X5_23 hw (by decide) (Nat.le_of_ble_eq_true rfl) dX5_advance_20 (fun r3 u2 hw => ?_)
    refine z_if_eq (tgt := 39) C.1 dX5_advance_23 (by decide) (fun c4 => ?_) (fun c4 => ?_)
    · replace hw := hw.1 c4
      refine z_lv [0] rfl ?_
      exact z_X5_advance_39 C hn hR _ hw
    · replace hw := hw.2 c4
      refine z_aload_n C.1 dX5_advance_26 rfl 0 rfl ?_
      refine z_dup C.1 dX5_advance_27 rfl ?_
      refine gC_2_next C mF_X5_17 dX5_advance_28 ?_
      refine z_iconst (v := 1) C.1 dX5_advance_31 (by decide) ?_
      refine z_iadd C.1 dX5_advance_32 ?_
      refine pC_2_next C mF_X5_17 dX5_advance_33 (fun u5 eu5 => ?_)
      replace hw := hw u5 eu5
      refine z_goto (tgt := 0) C.1 dX5_advance_36 (by decide) ?_
      refine z_lv [0] rfl ?_
      exact hK0 _ hw
theorem z_X5_advance_0 {X : XX} {ad : Nat → Nat} {cs : Nat → ClassId} {post : St → Prop} (C : CxC X ad cs cX5_advance RX5 4 91) (hn : xnL X = 1) (hR : rtV X cX5_advance (wC ad cs) post) : ∀ (n : Nat) (u : St), wp_X5_advance_0 post n u → Z X (wC ad cs u) 0 [(0, .ref (ad 2))] []
  | 0, _, hw => absurd hw (fun h => h)
  | n + 1, u, hw => z_X5_advance_0s C hn hR (z_X5_advance_0 C hn hR n) u hw
def wp_X5_advance (u : St) (post : St → Prop) : Prop :=
  ∃ n, wp_X5_advance_0 post n u
set_option maxHeartbeats 4000000 in
set_option maxRecDepth 20000 in
theorem z_X5_advance {X : XX} {ad : Nat → Nat} {cs : Nat → ClassId} {post : St → Prop} (C : CxC X ad cs cX5_advance RX5 4 91) (hn : xnL X = 1) (hR : rtV X cX5_advance (wC ad cs) post) (u : St) (hw : wp_X5_advance u post) : Z X (wC ad cs u) 0 [(0, .ref (ad 2))] [] := by
  unfold wp_X5_advance at hw
  refine z_lv [0] rfl ?_
  obtain ⟨n, hw⟩ := hw
  exact z_X5_advance_0 C hn hR n _ hw
theorem c_X5_advance {l : Launch} {D : va_G} {A : Nat → Prop} {ad : Nat → Nat} {cs : Nat → ClassId} (hD : ∀ u : St, va_D A (wC ad cs u)) (u : St) (post : St → Prop) (hw : wp_X5_advance u post) : MV (ad 90, ad 91) l yX5_advance cX5_advance 1 none (rmm 4 91) D (tysC cs) A (wC ad cs) u [.ref (ad 2)] post :=
  met_v (by decide) (Nat.le_of_ble_eq_true rfl) (fun X C _ _ ht hA hn hsg hR => z_X5_advance ⟨C, ht, fun u => by rw [hA]; exact hD u, hsg⟩ hn hR u hw)
theorem k_X5_advance {X : XX} {ad : Nat → Nat} {cs : Nat → ClassId} {cc : ByteArray} {own : String} {fr lo pc : Nat} {lv : List (Nat × Value)} {st : List Value} {u : St} (C : CxC X ad cs cc own fr lo) {idx : Nat} {P : St → Prop} (hlink : Cond.methodLink own idx yX5_advance ∈ W0) (hw : wp_X5_advance u P) (hr : 4 + 1 ≤ fr ∧ 8 + (1 + 11) + 91 ≤ lo) (hst : (st.map fun v => v.category).sum ≤ 8) (hdg : decode cc pc = .ok (.invokevirtual idx, 3)) (k : ∀ (u2 : St), P u2 → Z X (wC ad cs u2) (pc + 3) lv st) : Z X (wC ad cs u) pc lv (.ref (ad 2) :: st) :=
  z_callVv (wf := wC ad cs) (As := []) (rest := st) C.1 0 (q0 := 2) mI_X5_advance mS_X5_advance rfl rfl (by rw [C.2.1, C.2.2.2]; exact c_X5_advance C.2.2.1 u P hw) mC_X5_advance mZ_X5 (by decide +kernel) rfl hlink hr hst hdg k

def wp_X5_goToFirst (u : St) (post : St → Prop) : Prop :=
  nm (sI u 7 0) (fun u1 : St => wp_X5_advance u1 (fun (u2 : St) => post u2))
set_option maxHeartbeats 4000000 in
set_option maxRecDepth 20000 in
theorem z_X5_goToFirst {X : XX} {ad : Nat → Nat} {cs : Nat → ClassId} {post : St → Prop} (C : CxC X ad cs cX5_goToFirst RX5 5 111) (hn : xnL X = 1) (hR : rtV X cX5_goToFirst (wC ad cs) post) (u : St) (hw : wp_X5_goToFirst u post) : Z X (wC ad cs u) 0 [(0, .ref (ad 2))] [] := by
  unfold wp_X5_goToFirst at hw
  refine z_aload_n C.1 dX5_goToFirst_0 rfl 0 rfl ?_
  refine z_iconst (v := 0) C.1 dX5_goToFirst_1 (by decide) ?_
  refine pC_2_next C mF_X5_17 dX5_goToFirst_2 (fun u1 eu1 => ?_)
  replace hw := hw u1 eu1
  refine z_aload_n C.1 dX5_goToFirst_5 rfl 0 rfl ?_
  refine k_X5_advance C mM_X5_20 hw (by decide) (Nat.le_of_ble_eq_true rfl) dX5_goToFirst_6 (fun u2 hw => ?_)
  exact hR _ _ _ dX5_goToFirst_9 hw
theorem c_X5_goToFirst {l : Launch} {D : va_G} {A : Nat → Prop} {ad : Nat → Nat} {cs : Nat → ClassId} (hD : ∀ u : St, va_D A (wC ad cs u)) (u : St) (post : St → Prop) (hw : wp_X5_goToFirst u post) : MV (ad 90, ad 91) l yX5_goToFirst cX5_goToFirst 1 none (rmm 5 111) D (tysC cs) A (wC ad cs) u [.ref (ad 2)] post :=
  met_v (by decide) (Nat.le_of_ble_eq_true rfl) (fun X C _ _ ht hA hn hsg hR => z_X5_goToFirst ⟨C, ht, fun u => by rw [hA]; exact hD u, hsg⟩ hn hR u hw)
theorem k_X5_goToFirst {X : XX} {ad : Nat → Nat} {cs : Nat → ClassId} {cc : ByteArray} {own : String} {fr lo pc : Nat} {lv : List (Nat × Value)} {st : List Value} {u : St} (C : CxC X ad cs cc own fr lo) {idx : Nat} {P : St → Prop} (hlink : Cond.methodLink own idx yX5_goToFirst ∈ W0) (hw : wp_X5_goToFirst u P) (hr : 5 + 1 ≤ fr ∧ 8 + (1 + 11) + 111 ≤ lo) (hst : (st.map fun v => v.category).sum ≤ 8) (hdg : decode cc pc = .ok (.invokevirtual idx, 3)) (k : ∀ (u2 : St), P u2 → Z X (wC ad cs u2) (pc + 3) lv st) : Z X (wC ad cs u) pc lv (.ref (ad 2) :: st) :=
  z_callVv (wf := wC ad cs) (As := []) (rest := st) C.1 0 (q0 := 2) mI_X5_goToFirst mS_X5_goToFirst rfl rfl (by rw [C.2.1, C.2.2.2]; exact c_X5_goToFirst C.2.2.1 u P hw) mC_X5_goToFirst mZ_X5 (by decide +kernel) rfl hlink hr hst hdg k

def wp_X5_isParenthesisNext_31 (u : St) (x1 : Int32) (post : Int32 → St → Prop) : Prop :=
  br ((gI u 8) ≤ x1) ((bz 0 ∧ post 0 u)) ((vp_in x1 1500 ∧ br ((gA u 14 (ix x1)) = 40) ((bz 1 ∧ post 1 u)) ((bz 0 ∧ post 0 u))))
set_option maxHeartbeats 4000000 in
set_option maxRecDepth 20000 in
theorem z_X5_isParenthesisNext_31 {X : XX} {ad : Nat → Nat} {cs : Nat → ClassId} {post : Int32 → St → Prop} (C : CxC X ad cs cX5_isParenthesisNext RX5 1 20) (hn : xnL X = 2) (hR : rtZ X cX5_isParenthesisNext (wC ad cs) post) (u : St) (x1 : Int32) (hw : wp_X5_isParenthesisNext_31 u x1 post) : Z X (wC ad cs u) 31 [(0, .ref (ad 2)), (1, .int x1)] [] := by
  unfold wp_X5_isParenthesisNext_31 at hw
  refine z_iload_n C.1 dX5_isParenthesisNext_31 rfl 1 rfl ?_
  refine z_aload_n C.1 dX5_isParenthesisNext_32 rfl 0 rfl ?_
  refine gC_2_length C mF_X5_13 dX5_isParenthesisNext_33 ?_
  refine z_icmp_ge (tgt := 54) C.1 dX5_isParenthesisNext_36 (by decide) (fun c7 => ?_) (fun c7 => ?_)
  · replace hw := hw.1 c7
    refine z_iconst (v := 0) C.1 dX5_isParenthesisNext_54 (by decide) ?_
    exact hR _ _ _ _ dX5_isParenthesisNext_55 hw
  · replace hw := hw.2 c7
    refine z_aload_n C.1 dX5_isParenthesisNext_39 rfl 0 rfl ?_
    refine gC_2_bytes C mF_X5_9 dX5_isParenthesisNext_40 ?_
    refine z_iload_n C.1 dX5_isParenthesisNext_43 rfl 1 rfl ?_
    refine lC_14 C hw.1 dX5_isParenthesisNext_44 ?_
    replace hw := hw.2
    refine z_bipush (v := 40) C.1 dX5_isParenthesisNext_45 (by decide) ?_
    refine z_icmp_ne (tgt := 54) C.1 dX5_isParenthesisNext_47 (by decide) (fun c8 => ?_) (fun c8 => ?_)
    · replace hw := hw.2 c8
      refine z_iconst (v := 0) C.1 dX5_isParenthesisNext_54 (by decide) ?_
      exact hR _ _ _ _ dX5_isParenthesisNext_55 hw
    · replace hw := hw.1 c8
      refine z_iconst (v := 1) C.1 dX5_isParenthesisNext_50 (by decide) ?_
      refine z_goto (tgt := 55) C.1 dX5_isParenthesisNext_51 (by decide) ?_
      exact hR _ _ _ _ dX5_isParenthesisNext_55 hw
def wp_X5_isParenthesisNext_5s (K5 : St → Int32 → Prop) (u : St) (x1 : Int32) (post : Int32 → St → Prop) : Prop :=
  br ((gI u 8) ≤ x1) (wp_X5_isParenthesisNext_31 u x1 post) ((vp_in x1 1500 ∧ wp_X5_isBlank u (gA u 14 (ix x1)) (fun (r4 : Int32) (u3 : St) => br (r4 = 0) (wp_X5_isParenthesisNext_31 u3 x1 post) (nm (x1 + 1) (fun v6 : Int32 => K5 u3 v6)))))
def wp_X5_isParenthesisNext_5 (post : Int32 → St → Prop) : Nat → St → Int32 → Prop
  | 0 => fun _ _ => False
  | n + 1 => fun u x1 => wp_X5_isParenthesisNext_5s (wp_X5_isParenthesisNext_5 post n) u x1 post
set_option maxHeartbeats 4000000 in
set_option maxRecDepth 20000 in
theorem z_X5_isParenthesisNext_5s {X : XX} {ad : Nat → Nat} {cs : Nat → ClassId} {post : Int32 → St → Prop} (C : CxC X ad cs cX5_isParenthesisNext RX5 1 20) (hn : xnL X = 2) (hR : rtZ X cX5_isParenthesisNext (wC ad cs) post) {K5 : St → Int32 → Prop} (hK5 : ∀ (u : St) (x1 : Int32), K5 u x1 → Z X (wC ad cs u) 5 [(0, .ref (ad 2)), (1, .int x1)] []) (u : St) (x1 : Int32) (hw : wp_X5_isParenthesisNext_5s K5 u x1 post) : Z X (wC ad cs u) 5 [(0, .ref (ad 2)), (1, .int x1)] [] := by
  unfold wp_X5_isParenthesisNext_5s at hw
  refine z_iload_n C.1 dX5_isParenthesisNext_5 rfl 1 rfl ?_
  refine z_aload_n C.1 dX5_isParenthesisNext_6 rfl 0 rfl ?_
  refine gC_2_length C mF_X5_13 dX5_isParenthesisNext_7 ?_
  refine z_icmp_ge (tgt := 31) C.1 dX5_isParenthesisNext_10 (by decide) (fun c2 => ?_) (fun c2 => ?_)
  · replace hw := hw.1 c2
    refine z_lv [0, 1] rfl ?_
    exact z_X5_isParenthesisNext_31 C hn hR _ _ hw
  · replace hw := hw.2 c2
    refine z_aload_n C.1 dX5_isParenthesisNext_13 rfl 0 rfl ?_
    refine gC_2_bytes C mF_X5_9 dX5_isParenthesisNext_14 ?_
    refine z_iload_n C.1 dX5_isParenthesisNext_17 rfl 1 rfl ?_
    refine lC_14 C hw.1 dX5_isParenthesisNext_18 ?_
    replace hw := hw.2
    refine k_X5_isBlank C mM_X5_23 hw (by decide) (Nat.le_of_ble_eq_true rfl) dX5_isParenthesisNext_19 (fun r4 u3 hw => ?_)
    refine z_if_eq (tgt := 31) C.1 dX5_isParenthesisNext_22 (by decide) (fun c5 => ?_) (fun c5 => ?_)
    · replace hw := hw.1 c5
      refine z_lv [0, 1] rfl ?_
      exact z_X5_isParenthesisNext_31 C hn hR _ _ hw
    · replace hw := hw.2 c5
      obtain ⟨v6, ev6⟩ : ∃ z : Int32, z = x1 + 1 := ⟨_, rfl⟩
      replace hw := hw v6 ev6
      refine z_iinc (v := v6) (lv' := [(1, .int v6), (0, .ref (ad 2))]) C.1 (j := 1) dX5_isParenthesisNext_25 rfl (by rw [ev6]; rfl) (by rw [hn]; decide) rfl ?_
      refine z_goto (tgt := 5) C.1 dX5_isParenthesisNext_28 (by decide) ?_
      refine z_lv [1, 0] rfl ?_
      exact hK5 _ _ hw
theorem z_X5_isParenthesisNext_5 {X : XX} {ad : Nat → Nat} {cs : Nat → ClassId} {post : Int32 → St → Prop} (C : CxC X ad cs cX5_isParenthesisNext RX5 1 20) (hn : xnL X = 2) (hR : rtZ X cX5_isParenthesisNext (wC ad cs) post) : ∀ (n : Nat) (u : St) (x1 : Int32), wp_X5_isParenthesisNext_5 post n u x1 → Z X (wC ad cs u) 5 [(0, .ref (ad 2)), (1, .int x1)] []
  | 0, _, _, hw => absurd hw (fun h => h)
  | n + 1, u, x1, hw => z_X5_isParenthesisNext_5s C hn hR (z_X5_isParenthesisNext_5 C hn hR n) u x1 hw
def wp_X5_isParenthesisNext (u : St) (post : Int32 → St → Prop) : Prop :=
  nm (gI u 7) (fun v1 : Int32 => ∃ n, wp_X5_isParenthesisNext_5 post n u v1)
set_option maxHeartbeats 4000000 in
set_option maxRecDepth 20000 in
theorem z_X5_isParenthesisNext {X : XX} {ad : Nat → Nat} {cs : Nat → ClassId} {post : Int32 → St → Prop} (C : CxC X ad cs cX5_isParenthesisNext RX5 1 20) (hn : xnL X = 2) (hR : rtZ X cX5_isParenthesisNext (wC ad cs) post) (u : St) (hw : wp_X5_isParenthesisNext u post) : Z X (wC ad cs u) 0 [(0, .ref (ad 2))] [] := by
  unfold wp_X5_isParenthesisNext at hw
  refine z_aload_n C.1 dX5_isParenthesisNext_0 rfl 0 rfl ?_
  refine gC_2_next C mF_X5_17 dX5_isParenthesisNext_1 ?_
  refine z_topi (fun v1 ev1 => ?_)
  replace hw := hw v1 ev1
  refine z_istore_n (lv' := [(1, .int v1), (0, .ref (ad 2))]) C.1 dX5_isParenthesisNext_4 rfl (by rw [hn]; decide) rfl ?_
  refine z_lv [1, 0] rfl ?_
  obtain ⟨n, hw⟩ := hw
  exact z_X5_isParenthesisNext_5 C hn hR n _ _ hw
theorem c_X5_isParenthesisNext {l : Launch} {D : va_G} {A : Nat → Prop} {ad : Nat → Nat} {cs : Nat → ClassId} (hD : ∀ u : St, va_D A (wC ad cs u)) (u : St) (post : Int32 → St → Prop) (hw : wp_X5_isParenthesisNext u post) : MI (ad 90, ad 91) l yX5_isParenthesisNext cX5_isParenthesisNext 2 (some .boolean) (rmm 1 20) D (tysC cs) A (wC ad cs) u [.ref (ad 2)] post :=
  met_z (by decide) (Nat.le_of_ble_eq_true rfl) (fun X C _ _ ht hA hn hsg hR => z_X5_isParenthesisNext ⟨C, ht, fun u => by rw [hA]; exact hD u, hsg⟩ hn hR u hw)
theorem k_X5_isParenthesisNext {X : XX} {ad : Nat → Nat} {cs : Nat → ClassId} {cc : ByteArray} {own : String} {fr lo pc : Nat} {lv : List (Nat × Value)} {st : List Value} {u : St} (C : CxC X ad cs cc own fr lo) {idx : Nat} {P : Int32 → St → Prop} (hlink : Cond.methodLink own idx yX5_isParenthesisNext ∈ W0) (hw : wp_X5_isParenthesisNext u P) (hr : 1 + 1 ≤ fr ∧ 8 + (2 + 11) + 20 ≤ lo) (hst : (st.map fun v => v.category).sum ≤ 8) (hdg : decode cc pc = .ok (.invokevirtual idx, 3)) (k : ∀ (r : Int32) (u2 : St), P r u2 → Z X (wC ad cs u2) (pc + 3) lv (.int r :: st)) : Z X (wC ad cs u) pc lv (.ref (ad 2) :: st) :=
  z_callVi (wf := wC ad cs) (As := []) (rest := st) C.1 0 (q0 := 2) mI_X5_isParenthesisNext mS_X5_isParenthesisNext rfl rfl (by rw [C.2.1, C.2.2.2]; exact c_X5_isParenthesisNext C.2.2.1 u P hw) mC_X5_isParenthesisNext mZ_X5 (by decide +kernel) rfl hlink hr hst hdg k
