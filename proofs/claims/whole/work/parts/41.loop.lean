/-! 41.loop: what is owed of the two states (class u, reference v), call by call; the law's loop out of it -/
/-- a call that may throw: the class answers or throws, the reference's answer and its code agree -/
def okT (Inv : St → St → Prop) (wpC : (Int32 → St → Prop) → (String → St → Prop) → Prop) (wpM : (Int32 → St → Prop) → Prop) (exs : List (String × Int32)) : Prop :=
  (∃ (r : Int32) (U V : St), (∀ (Pc : Int32 → St → Prop) (px : String → St → Prop), Pc r U → wpC Pc px) ∧ (∀ Pm : Int32 → St → Prop, Pm r V → wpM Pm) ∧ gI V 0 = 0 ∧ Inv U V) ∨
  ∃ (E : String) (k r : Int32) (U V : St), (E, k) ∈ exs ∧ (∀ (Pc : Int32 → St → Prop) (px : String → St → Prop), px E U → wpC Pc px) ∧ (∀ Pm : Int32 → St → Prop, Pm r V → wpM Pm) ∧ gI V 0 = k ∧ Inv U V
def okS (Inv : St → St → Prop) (wpC : (Int32 → St → Prop) → (String → St → Prop) → Prop) (wpM : (Int32 → St → Prop) → Prop) (exs : List (String × Int32)) : Prop :=
  (∃ (r : Int32) (SC SM : St → Prop), (∀ (Pc : Int32 → St → Prop) (px : String → St → Prop), (∀ U, SC U → Pc r U) → wpC Pc px) ∧ (∀ Pm : Int32 → St → Prop, (∀ V, SM V → Pm r V) → wpM Pm) ∧ ∀ U V, SC U → SM V → gI V 0 = 0 ∧ Inv U V) ∨
  ∃ (E : String) (k r : Int32) (U V : St), (E, k) ∈ exs ∧ (∀ (Pc : Int32 → St → Prop) (px : String → St → Prop), px E U → wpC Pc px) ∧ (∀ Pm : Int32 → St → Prop, Pm r V → wpM Pm) ∧ gI V 0 = k ∧ Inv U V
def LawOK (Inv : St → St → Prop) : Prop :=
  (∀ u v : St, Inv u v → ∀ a b c d n : Int32, okT Inv (wp_X6_feed u a b c d n) (wp_X7_feed v a b c d n) [("java/lang/IllegalArgumentException", 1), ("java/lang/UnsupportedOperationException", 2)]) ∧
  (∀ u v : St, Inv u v → ∃ (r : Int32) (z : Bool) (SC SM : St → Prop), (∀ Pc : Int32 → Bool → St → Prop, (∀ U, SC U → Pc r z U) → wp_X6_read u Pc) ∧ (∀ Pm : Int32 → St → Prop, (∀ V, SM V → Pm r V) → wp_X7_read v Pm) ∧ ∀ U V, SC U → SM V → Inv U V) ∧
  (∀ u v : St, Inv u v → ∀ a b c d : Int32, okS Inv (wp_X6_run u a b c d) (wp_X7_run v a b c d) [("java/lang/IllegalStateException", 1), ("java/lang/IllegalArgumentException", 2)]) ∧
  (∀ u v : St, Inv u v → ∃ (r : Int32) (U V : St), (∀ Pc : Int32 → St → Prop, Pc r U → wp_X6_value u Pc) ∧ (∀ Pm : Int32 → St → Prop, Pm r V → wp_X7_value v Pm) ∧ Inv U V) ∧
  (∀ u v : St, Inv u v → ∀ a : Int32, okT Inv (wp_X6_count u a) (wp_X7_count v a) [("java/lang/IndexOutOfBoundsException", 1)]) ∧
  (∀ u v : St, Inv u v → ∀ a b : Int32, okT Inv (wp_X6_definition u a b) (wp_X7_definition v a b) [("java/lang/IndexOutOfBoundsException", 1)]) ∧
  (∀ u v : St, Inv u v → ∃ U V : St, (∀ Pc : St → Prop, Pc U → wp_X6_clear u Pc) ∧ (∀ Pm : St → Prop, Pm V → wp_X7_clear v Pm) ∧ Inv U V)
theorem i32_add {a : Nat} {k : Nat} {L : Nat} (h : a + k < L) (hL : L ≤ 3072) {x y : Int32} (hx : x = nI a) (hy : y = nI k) : vp_in (x + y) L := by
  rw [hx, hy, nI_add]; exact vp_in_nI h (by omega)
theorem law_more {a L : Nat} (hL : L ≤ 3072) (ha : a ≤ 3072) (h : ¬ (nI L - 6 < nI a)) : a + 6 ≤ L := by
  rw [Int32.lt_iff_toInt_lt] at h
  have e : (nI L - 6).toInt = (L : Int) - 6 := pk_sub_toInt (a := L) (b := 6) (by omega) (by omega)
  rw [e, nI_toInt (by omega)] at h
  omega
set_option maxHeartbeats 4000000 in
set_option maxRecDepth 20000 in
theorem law_feed {X : VX} {Inv : St → St → Prop} (hO : LawOK Inv) (hl1 : (vl X).stackTraces = false) (hL : vLn X ≤ 3072) {j : Nat} {x4 : Int32} (hj : 6 * j + 6 ≤ vLn X) (hx4 : x4 = nI (6 * j)) (hnx : ∀ (ad am : Nat → Nat) (cs ks : Nat → ClassId) (u v : St) (f : Nat → Int64), CV X (ad 90, ad 91) → (am 90 = ad 90 ∧ am 91 = ad 91) → Inv u v → V X (wL ad cs u am ks v f) (tysL cs ks) (74 + (j + 1)) (300363 + 6 * (j + 1)) 441 [(4, .int x4), (0, .ref (vb X)), (1, .ref (ad 0)), (2, .ref (am 0)), (3, .ref (ad 80))] []) (ad am : Nat → Nat) (cs ks : Nat → ClassId) (u v : St) (f : Nat → Int64) (C : CV X (ad 90, ad 91)) (hm : am 90 = ad 90 ∧ am 91 = ad 91) (hI : Inv u v) : V X (wL ad cs u am ks v f) (tysL cs ks) (74 + j) (300363 + 6 * j) 84 [(4, .int x4), (0, .ref (vb X)), (1, .ref (ad 0)), (2, .ref (am 0)), (3, .ref (ad 80))] [] := by
  have hjb : j < 512 := by omega
  have hcc : 74 + j + 1 ≤ 1104 ∧ 300363 + 6 * j + 6 ≤ 308591 := ⟨by omega, by omega⟩
  refine v_aload_n C dL_law_84 rfl 2 rfl ?_
  refine v_aload_n C dL_law_85 rfl 1 rfl ?_
  refine v_iload C dL_law_86 0 rfl ?_
  refine v_iconst (v := 1) C dL_law_88 (by decide) ?_
  refine v_iadd C dL_law_89 ?_
  refine v_sld C (i32_add (k := 1) (by omega) hL hx4 rfl) dL_law_90 ?_
  refine v_aload_n C dL_law_91 rfl 1 rfl ?_
  refine v_iload C dL_law_92 0 rfl ?_
  refine v_iconst (v := 2) C dL_law_94 (by decide) ?_
  refine v_iadd C dL_law_95 ?_
  refine v_sld C (i32_add (k := 2) (by omega) hL hx4 rfl) dL_law_96 ?_
  refine v_aload_n C dL_law_97 rfl 1 rfl ?_
  refine v_iload C dL_law_98 0 rfl ?_
  refine v_iconst (v := 3) C dL_law_100 (by decide) ?_
  refine v_iadd C dL_law_101 ?_
  refine v_sld C (i32_add (k := 3) (by omega) hL hx4 rfl) dL_law_102 ?_
  refine v_aload_n C dL_law_103 rfl 1 rfl ?_
  refine v_iload C dL_law_104 0 rfl ?_
  refine v_iconst (v := 4) C dL_law_106 (by decide) ?_
  refine v_iadd C dL_law_107 ?_
  refine v_sld C (i32_add (k := 4) (by omega) hL hx4 rfl) dL_law_108 ?_
  refine v_aload_n C dL_law_109 rfl 1 rfl ?_
  refine v_iload C dL_law_110 0 rfl ?_
  refine v_iconst (v := 5) C dL_law_112 (by decide) ?_
  refine v_iadd C dL_law_113 ?_
  refine v_sld C (i32_add (k := 5) (by omega) hL hx4 rfl) dL_law_114 ?_
  refine v_aload_n C dL_law_115 rfl 4 rfl ?_
  rcases hO.1 u v hI (vxs X (x4 + 1).toNatClampNeg) (vxs X (x4 + 2).toNatClampNeg) (vxs X (x4 + 3).toNatClampNeg) (vxs X (x4 + 4).toNatClampNeg) (vxs X (x4 + 5).toNatClampNeg) with ⟨r, U, V2, hC, hM, hz, hI2⟩ | ⟨E, k, r, U, V2, hE, hC, hM, hz, hI2⟩
  · have hz : gI V2 0 = 0 := hz
    refine v_h_feed (post := (fun r2 q2 => r2 = 0 ∧ q2.1 = U ∧ q2.2 = vp_updL f 0 r.toInt64)) C hl1 (hC _ _ ⟨rfl, rfl, rfl⟩) mM_L_37 hcc (Nat.le_of_ble_eq_true rfl) dL_law_116 (fun r2 u2 f2 hp => ?_)
    obtain ⟨rfl, rfl, rfl⟩ := hp
    refine v_istore (lv' := [(5, .int 0), (4, .int x4), (0, .ref (vb X)), (1, .ref (ad 0)), (2, .ref (am 0)), (3, .ref (ad 80))]) C dL_law_119 (by decide) rfl ?_
    refine v_aload_n C dL_law_121 rfl 4 rfl ?_
    refine v_aload_n C dL_law_122 rfl 2 rfl ?_
    refine v_iload C dL_law_123 1 rfl ?_
    refine v_iconst (v := 1) C dL_law_125 (by decide) ?_
    refine v_iadd C dL_law_126 ?_
    refine v_sld C (i32_add (k := 1) (by omega) hL hx4 rfl) dL_law_127 ?_
    refine v_aload_n C dL_law_128 rfl 2 rfl ?_
    refine v_iload C dL_law_129 1 rfl ?_
    refine v_iconst (v := 2) C dL_law_131 (by decide) ?_
    refine v_iadd C dL_law_132 ?_
    refine v_sld C (i32_add (k := 2) (by omega) hL hx4 rfl) dL_law_133 ?_
    refine v_aload_n C dL_law_134 rfl 2 rfl ?_
    refine v_iload C dL_law_135 1 rfl ?_
    refine v_iconst (v := 3) C dL_law_137 (by decide) ?_
    refine v_iadd C dL_law_138 ?_
    refine v_sld C (i32_add (k := 3) (by omega) hL hx4 rfl) dL_law_139 ?_
    refine v_aload_n C dL_law_140 rfl 2 rfl ?_
    refine v_iload C dL_law_141 1 rfl ?_
    refine v_iconst (v := 4) C dL_law_143 (by decide) ?_
    refine v_iadd C dL_law_144 ?_
    refine v_sld C (i32_add (k := 4) (by omega) hL hx4 rfl) dL_law_145 ?_
    refine v_aload_n C dL_law_146 rfl 2 rfl ?_
    refine v_iload C dL_law_147 1 rfl ?_
    refine v_iconst (v := 5) C dL_law_149 (by decide) ?_
    refine v_iadd C dL_law_150 ?_
    refine v_sld C (i32_add (k := 5) (by omega) hL hx4 rfl) dL_law_151 ?_
    refine v_callMi (u := u2) (As := [.int (vxs X (x4 + 1).toNatClampNeg), .int (vxs X (x4 + 2).toNatClampNeg), .int (vxs X (x4 + 3).toNatClampNeg), .int (vxs X (x4 + 4).toNatClampNeg), .int (vxs X (x4 + 5).toNatClampNeg)]) (post := fun r3 v3 => r3 = r ∧ v3 = V2) C hm 5 (fun A hD => c_X7_feed hD v (vxs X (x4 + 1).toNatClampNeg) (vxs X (x4 + 2).toNatClampNeg) (vxs X (x4 + 3).toNatClampNeg) (vxs X (x4 + 4).toNatClampNeg) (vxs X (x4 + 5).toNatClampNeg) _ (hM _ ⟨rfl, rfl⟩)) mI_X7_feed mS_X7_feed mC_X7_feed mZ_X7 rfl (by decide +kernel) rfl mM_L_42 (by decide) ⟨by omega, by omega⟩ (Nat.le_of_ble_eq_true rfl) dL_law_152 (fun r3 v3 hp => ?_)
    obtain ⟨rfl, rfl⟩ := hp
    refine v_istore (lv' := [(6, .int r3), (5, .int 0), (4, .int x4), (0, .ref (vb X)), (1, .ref (ad 0)), (2, .ref (am 0)), (3, .ref (ad 80))]) C dL_law_155 (by decide) rfl ?_
    refine v_aload_n C dL_law_157 rfl 5 rfl ?_
    refine v_callMi (u := u2) (As := []) (post := fun r4 v4 => r4 = gI v3 0 ∧ v4 = v3) C hm 0 (fun A hD => c_X7_thrown hD v3 _ ⟨rfl, rfl⟩) mI_X7_thrown mS_X7_thrown mC_X7_thrown mZ_X7 rfl (by decide +kernel) rfl mM_L_43 (by decide) ⟨by omega, by omega⟩ (Nat.le_of_ble_eq_true rfl) dL_law_158 (fun r4 v4 hp => ?_)
    obtain ⟨rfl, rfl⟩ := hp
    refine v_iload C dL_law_161 1 rfl ?_
    refine v_icmp_eq (tgt := 168) C dL_law_163 (by decide) (fun _ => ?_) (fun h => absurd hz h)
    refine v_iload C dL_law_168 1 rfl ?_
    refine v_if_ne (tgt := 185) C dL_law_170 (by decide) (fun h => absurd rfl h) (fun _ => ?_)
    refine v_aload_n C dL_law_173 rfl 6 rfl ?_
    refine v_iconst (v := 0) C dL_law_174 (by decide) ?_
    refine v_out C rfl dL_law_175 ?_
    refine v_iload C dL_law_176 0 rfl ?_
    refine v_i2l C dL_law_178 ?_
    refine v_lcmp C dL_law_179 ?_
    refine v_if_eq (tgt := 185) C dL_law_180 (by decide) (fun _ => ?_) (fun h => absurd ((lg_cmp_eq _ _).mpr rfl) h)
    refine v_goto (tgt := 441) C dL_law_185 (by decide) ?_
    refine v_lv [2, 3, 4, 5, 6] rfl ?_
    exact hnx ad am cs ks _ _ _ C hm hI2
  · simp only [List.mem_cons, Prod.mk.injEq, List.not_mem_nil, or_false] at hE
    rcases hE with ⟨rfl, rfl⟩ | ⟨rfl, rfl⟩
    · have hz : gI V2 0 = 1 := hz
      refine v_h_feed (post := (fun r2 q2 => r2 = 1 ∧ q2.1 = U ∧ q2.2 = f)) C hl1 (hC _ _ (Or.inl ⟨rfl, rfl, rfl, rfl⟩)) mM_L_37 hcc (Nat.le_of_ble_eq_true rfl) dL_law_116 (fun r2 u2 f2 hp => ?_)
      obtain ⟨rfl, rfl, rfl⟩ := hp
      refine v_istore (lv' := [(5, .int 1), (4, .int x4), (0, .ref (vb X)), (1, .ref (ad 0)), (2, .ref (am 0)), (3, .ref (ad 80))]) C dL_law_119 (by decide) rfl ?_
      refine v_aload_n C dL_law_121 rfl 4 rfl ?_
      refine v_aload_n C dL_law_122 rfl 2 rfl ?_
      refine v_iload C dL_law_123 1 rfl ?_
      refine v_iconst (v := 1) C dL_law_125 (by decide) ?_
      refine v_iadd C dL_law_126 ?_
      refine v_sld C (i32_add (k := 1) (by omega) hL hx4 rfl) dL_law_127 ?_
      refine v_aload_n C dL_law_128 rfl 2 rfl ?_
      refine v_iload C dL_law_129 1 rfl ?_
      refine v_iconst (v := 2) C dL_law_131 (by decide) ?_
      refine v_iadd C dL_law_132 ?_
      refine v_sld C (i32_add (k := 2) (by omega) hL hx4 rfl) dL_law_133 ?_
      refine v_aload_n C dL_law_134 rfl 2 rfl ?_
      refine v_iload C dL_law_135 1 rfl ?_
      refine v_iconst (v := 3) C dL_law_137 (by decide) ?_
      refine v_iadd C dL_law_138 ?_
      refine v_sld C (i32_add (k := 3) (by omega) hL hx4 rfl) dL_law_139 ?_
      refine v_aload_n C dL_law_140 rfl 2 rfl ?_
      refine v_iload C dL_law_141 1 rfl ?_
      refine v_iconst (v := 4) C dL_law_143 (by decide) ?_
      refine v_iadd C dL_law_144 ?_
      refine v_sld C (i32_add (k := 4) (by omega) hL hx4 rfl) dL_law_145 ?_
      refine v_aload_n C dL_law_146 rfl 2 rfl ?_
      refine v_iload C dL_law_147 1 rfl ?_
      refine v_iconst (v := 5) C dL_law_149 (by decide) ?_
      refine v_iadd C dL_law_150 ?_
      refine v_sld C (i32_add (k := 5) (by omega) hL hx4 rfl) dL_law_151 ?_
      refine v_callMi (u := u2) (As := [.int (vxs X (x4 + 1).toNatClampNeg), .int (vxs X (x4 + 2).toNatClampNeg), .int (vxs X (x4 + 3).toNatClampNeg), .int (vxs X (x4 + 4).toNatClampNeg), .int (vxs X (x4 + 5).toNatClampNeg)]) (post := fun r3 v3 => r3 = r ∧ v3 = V2) C hm 5 (fun A hD => c_X7_feed hD v (vxs X (x4 + 1).toNatClampNeg) (vxs X (x4 + 2).toNatClampNeg) (vxs X (x4 + 3).toNatClampNeg) (vxs X (x4 + 4).toNatClampNeg) (vxs X (x4 + 5).toNatClampNeg) _ (hM _ ⟨rfl, rfl⟩)) mI_X7_feed mS_X7_feed mC_X7_feed mZ_X7 rfl (by decide +kernel) rfl mM_L_42 (by decide) ⟨by omega, by omega⟩ (Nat.le_of_ble_eq_true rfl) dL_law_152 (fun r3 v3 hp => ?_)
      obtain ⟨rfl, rfl⟩ := hp
      refine v_istore (lv' := [(6, .int r3), (5, .int 1), (4, .int x4), (0, .ref (vb X)), (1, .ref (ad 0)), (2, .ref (am 0)), (3, .ref (ad 80))]) C dL_law_155 (by decide) rfl ?_
      refine v_aload_n C dL_law_157 rfl 5 rfl ?_
      refine v_callMi (u := u2) (As := []) (post := fun r4 v4 => r4 = gI v3 0 ∧ v4 = v3) C hm 0 (fun A hD => c_X7_thrown hD v3 _ ⟨rfl, rfl⟩) mI_X7_thrown mS_X7_thrown mC_X7_thrown mZ_X7 rfl (by decide +kernel) rfl mM_L_43 (by decide) ⟨by omega, by omega⟩ (Nat.le_of_ble_eq_true rfl) dL_law_158 (fun r4 v4 hp => ?_)
      obtain ⟨rfl, rfl⟩ := hp
      refine v_iload C dL_law_161 1 rfl ?_
      refine v_icmp_eq (tgt := 168) C dL_law_163 (by decide) (fun _ => ?_) (fun h => absurd hz h)
      refine v_iload C dL_law_168 1 rfl ?_
      refine v_if_ne (tgt := 185) C dL_law_170 (by decide) (fun _ => ?_) (fun h => absurd h (by decide))
      refine v_goto (tgt := 441) C dL_law_185 (by decide) ?_
      refine v_lv [2, 3, 4, 5, 6] rfl ?_
      exact hnx ad am cs ks _ _ _ C hm hI2
    · have hz : gI V2 0 = 2 := hz
      refine v_h_feed (post := (fun r2 q2 => r2 = 2 ∧ q2.1 = U ∧ q2.2 = f)) C hl1 (hC _ _ (Or.inr ⟨rfl, rfl, rfl, rfl⟩)) mM_L_37 hcc (Nat.le_of_ble_eq_true rfl) dL_law_116 (fun r2 u2 f2 hp => ?_)
      obtain ⟨rfl, rfl, rfl⟩ := hp
      refine v_istore (lv' := [(5, .int 2), (4, .int x4), (0, .ref (vb X)), (1, .ref (ad 0)), (2, .ref (am 0)), (3, .ref (ad 80))]) C dL_law_119 (by decide) rfl ?_
      refine v_aload_n C dL_law_121 rfl 4 rfl ?_
      refine v_aload_n C dL_law_122 rfl 2 rfl ?_
      refine v_iload C dL_law_123 1 rfl ?_
      refine v_iconst (v := 1) C dL_law_125 (by decide) ?_
      refine v_iadd C dL_law_126 ?_
      refine v_sld C (i32_add (k := 1) (by omega) hL hx4 rfl) dL_law_127 ?_
      refine v_aload_n C dL_law_128 rfl 2 rfl ?_
      refine v_iload C dL_law_129 1 rfl ?_
      refine v_iconst (v := 2) C dL_law_131 (by decide) ?_
      refine v_iadd C dL_law_132 ?_
      refine v_sld C (i32_add (k := 2) (by omega) hL hx4 rfl) dL_law_133 ?_
      refine v_aload_n C dL_law_134 rfl 2 rfl ?_
      refine v_iload C dL_law_135 1 rfl ?_
      refine v_iconst (v := 3) C dL_law_137 (by decide) ?_
      refine v_iadd C dL_law_138 ?_
      refine v_sld C (i32_add (k := 3) (by omega) hL hx4 rfl) dL_law_139 ?_
      refine v_aload_n C dL_law_140 rfl 2 rfl ?_
      refine v_iload C dL_law_141 1 rfl ?_
      refine v_iconst (v := 4) C dL_law_143 (by decide) ?_
      refine v_iadd C dL_law_144 ?_
      refine v_sld C (i32_add (k := 4) (by omega) hL hx4 rfl) dL_law_145 ?_
      refine v_aload_n C dL_law_146 rfl 2 rfl ?_
      refine v_iload C dL_law_147 1 rfl ?_
      refine v_iconst (v := 5) C dL_law_149 (by decide) ?_
      refine v_iadd C dL_law_150 ?_
      refine v_sld C (i32_add (k := 5) (by omega) hL hx4 rfl) dL_law_151 ?_
      refine v_callMi (u := u2) (As := [.int (vxs X (x4 + 1).toNatClampNeg), .int (vxs X (x4 + 2).toNatClampNeg), .int (vxs X (x4 + 3).toNatClampNeg), .int (vxs X (x4 + 4).toNatClampNeg), .int (vxs X (x4 + 5).toNatClampNeg)]) (post := fun r3 v3 => r3 = r ∧ v3 = V2) C hm 5 (fun A hD => c_X7_feed hD v (vxs X (x4 + 1).toNatClampNeg) (vxs X (x4 + 2).toNatClampNeg) (vxs X (x4 + 3).toNatClampNeg) (vxs X (x4 + 4).toNatClampNeg) (vxs X (x4 + 5).toNatClampNeg) _ (hM _ ⟨rfl, rfl⟩)) mI_X7_feed mS_X7_feed mC_X7_feed mZ_X7 rfl (by decide +kernel) rfl mM_L_42 (by decide) ⟨by omega, by omega⟩ (Nat.le_of_ble_eq_true rfl) dL_law_152 (fun r3 v3 hp => ?_)
      obtain ⟨rfl, rfl⟩ := hp
      refine v_istore (lv' := [(6, .int r3), (5, .int 2), (4, .int x4), (0, .ref (vb X)), (1, .ref (ad 0)), (2, .ref (am 0)), (3, .ref (ad 80))]) C dL_law_155 (by decide) rfl ?_
      refine v_aload_n C dL_law_157 rfl 5 rfl ?_
      refine v_callMi (u := u2) (As := []) (post := fun r4 v4 => r4 = gI v3 0 ∧ v4 = v3) C hm 0 (fun A hD => c_X7_thrown hD v3 _ ⟨rfl, rfl⟩) mI_X7_thrown mS_X7_thrown mC_X7_thrown mZ_X7 rfl (by decide +kernel) rfl mM_L_43 (by decide) ⟨by omega, by omega⟩ (Nat.le_of_ble_eq_true rfl) dL_law_158 (fun r4 v4 hp => ?_)
      obtain ⟨rfl, rfl⟩ := hp
      refine v_iload C dL_law_161 1 rfl ?_
      refine v_icmp_eq (tgt := 168) C dL_law_163 (by decide) (fun _ => ?_) (fun h => absurd hz h)
      refine v_iload C dL_law_168 1 rfl ?_
      refine v_if_ne (tgt := 185) C dL_law_170 (by decide) (fun _ => ?_) (fun h => absurd h (by decide))
      refine v_goto (tgt := 441) C dL_law_185 (by decide) ?_
      refine v_lv [2, 3, 4, 5, 6] rfl ?_
      exact hnx ad am cs ks _ _ _ C hm hI2
set_option maxHeartbeats 4000000 in
set_option maxRecDepth 20000 in
theorem law_run {X : VX} {Inv : St → St → Prop} (hO : LawOK Inv) (hl1 : (vl X).stackTraces = false) (hL : vLn X ≤ 3072) {j : Nat} {x4 : Int32} (hj : 6 * j + 6 ≤ vLn X) (hx4 : x4 = nI (6 * j)) (hnx : ∀ (ad am : Nat → Nat) (cs ks : Nat → ClassId) (u v : St) (f : Nat → Int64), CV X (ad 90, ad 91) → (am 90 = ad 90 ∧ am 91 = ad 91) → Inv u v → V X (wL ad cs u am ks v f) (tysL cs ks) (74 + (j + 1)) (300363 + 6 * (j + 1)) 441 [(4, .int x4), (0, .ref (vb X)), (1, .ref (ad 0)), (2, .ref (am 0)), (3, .ref (ad 80))] []) (ad am : Nat → Nat) (cs ks : Nat → ClassId) (u v : St) (f : Nat → Int64) (C : CV X (ad 90, ad 91)) (hm : am 90 = ad 90 ∧ am 91 = ad 91) (hI : Inv u v) : V X (wL ad cs u am ks v f) (tysL cs ks) (74 + j) (300363 + 6 * j) 201 [(4, .int x4), (0, .ref (vb X)), (1, .ref (ad 0)), (2, .ref (am 0)), (3, .ref (ad 80))] [] := by
  have hjb : j < 512 := by omega
  have hcc : 74 + j + 1 ≤ 1104 ∧ 300363 + 6 * j + 6 ≤ 308591 := ⟨by omega, by omega⟩
  refine v_aload_n C dL_law_201 rfl 2 rfl ?_
  refine v_aload_n C dL_law_202 rfl 1 rfl ?_
  refine v_iload C dL_law_203 0 rfl ?_
  refine v_iconst (v := 1) C dL_law_205 (by decide) ?_
  refine v_iadd C dL_law_206 ?_
  refine v_sld C (i32_add (k := 1) (by omega) hL hx4 rfl) dL_law_207 ?_
  refine v_aload_n C dL_law_208 rfl 1 rfl ?_
  refine v_iload C dL_law_209 0 rfl ?_
  refine v_iconst (v := 2) C dL_law_211 (by decide) ?_
  refine v_iadd C dL_law_212 ?_
  refine v_sld C (i32_add (k := 2) (by omega) hL hx4 rfl) dL_law_213 ?_
  refine v_aload_n C dL_law_214 rfl 1 rfl ?_
  refine v_iload C dL_law_215 0 rfl ?_
  refine v_iconst (v := 3) C dL_law_217 (by decide) ?_
  refine v_iadd C dL_law_218 ?_
  refine v_sld C (i32_add (k := 3) (by omega) hL hx4 rfl) dL_law_219 ?_
  refine v_aload_n C dL_law_220 rfl 1 rfl ?_
  refine v_iload C dL_law_221 0 rfl ?_
  refine v_iconst (v := 4) C dL_law_223 (by decide) ?_
  refine v_iadd C dL_law_224 ?_
  refine v_sld C (i32_add (k := 4) (by omega) hL hx4 rfl) dL_law_225 ?_
  refine v_aload_n C dL_law_226 rfl 4 rfl ?_
  rcases hO.2.2.1 u v hI (vxs X (x4 + 1).toNatClampNeg) (vxs X (x4 + 2).toNatClampNeg) (vxs X (x4 + 3).toNatClampNeg) (vxs X (x4 + 4).toNatClampNeg) with ⟨r, SC, SM, hC, hM, hI2⟩ | ⟨E, k, r, U, V2, hE, hC, hM, hz, hI2⟩
  · refine v_h_run (post := (fun r2 q2 => r2 = 0 ∧ SC q2.1 ∧ q2.2 = vp_updL f 0 r.toInt64)) C hl1 (hC _ _ (fun U hU => ⟨rfl, hU, rfl⟩)) mM_L_51 hcc (Nat.le_of_ble_eq_true rfl) dL_law_227 (fun r2 u2 f2 hp => ?_)
    obtain ⟨rfl, hU2, rfl⟩ := hp
    refine v_istore (lv' := [(5, .int 0), (4, .int x4), (0, .ref (vb X)), (1, .ref (ad 0)), (2, .ref (am 0)), (3, .ref (ad 80))]) C dL_law_230 (by decide) rfl ?_
    refine v_aload_n C dL_law_232 rfl 4 rfl ?_
    refine v_aload_n C dL_law_233 rfl 2 rfl ?_
    refine v_iload C dL_law_234 1 rfl ?_
    refine v_iconst (v := 1) C dL_law_236 (by decide) ?_
    refine v_iadd C dL_law_237 ?_
    refine v_sld C (i32_add (k := 1) (by omega) hL hx4 rfl) dL_law_238 ?_
    refine v_aload_n C dL_law_239 rfl 2 rfl ?_
    refine v_iload C dL_law_240 1 rfl ?_
    refine v_iconst (v := 2) C dL_law_242 (by decide) ?_
    refine v_iadd C dL_law_243 ?_
    refine v_sld C (i32_add (k := 2) (by omega) hL hx4 rfl) dL_law_244 ?_
    refine v_aload_n C dL_law_245 rfl 2 rfl ?_
    refine v_iload C dL_law_246 1 rfl ?_
    refine v_iconst (v := 3) C dL_law_248 (by decide) ?_
    refine v_iadd C dL_law_249 ?_
    refine v_sld C (i32_add (k := 3) (by omega) hL hx4 rfl) dL_law_250 ?_
    refine v_aload_n C dL_law_251 rfl 2 rfl ?_
    refine v_iload C dL_law_252 1 rfl ?_
    refine v_iconst (v := 4) C dL_law_254 (by decide) ?_
    refine v_iadd C dL_law_255 ?_
    refine v_sld C (i32_add (k := 4) (by omega) hL hx4 rfl) dL_law_256 ?_
    refine v_callMi (u := u2) (As := [.int (vxs X (x4 + 1).toNatClampNeg), .int (vxs X (x4 + 2).toNatClampNeg), .int (vxs X (x4 + 3).toNatClampNeg), .int (vxs X (x4 + 4).toNatClampNeg)]) (post := fun r3 v3 => r3 = r ∧ SM v3) C hm 4 (fun A hD => c_X7_run hD v (vxs X (x4 + 1).toNatClampNeg) (vxs X (x4 + 2).toNatClampNeg) (vxs X (x4 + 3).toNatClampNeg) (vxs X (x4 + 4).toNatClampNeg) _ (hM _ (fun V hV => ⟨rfl, hV⟩))) mI_X7_run mS_X7_run mC_X7_run mZ_X7 rfl (by decide +kernel) rfl mM_L_54 (by decide) ⟨by omega, by omega⟩ (Nat.le_of_ble_eq_true rfl) dL_law_257 (fun r3 v3 hp => ?_)
    obtain ⟨rfl, hV3⟩ := hp
    have hz := (hI2 _ _ hU2 hV3).1
    refine v_istore (lv' := [(6, .int r3), (5, .int 0), (4, .int x4), (0, .ref (vb X)), (1, .ref (ad 0)), (2, .ref (am 0)), (3, .ref (ad 80))]) C dL_law_260 (by decide) rfl ?_
    refine v_aload_n C dL_law_262 rfl 5 rfl ?_
    refine v_callMi (u := u2) (As := []) (post := fun r4 v4 => r4 = gI v3 0 ∧ v4 = v3) C hm 0 (fun A hD => c_X7_thrown hD v3 _ ⟨rfl, rfl⟩) mI_X7_thrown mS_X7_thrown mC_X7_thrown mZ_X7 rfl (by decide +kernel) rfl mM_L_43 (by decide) ⟨by omega, by omega⟩ (Nat.le_of_ble_eq_true rfl) dL_law_263 (fun r4 v4 hp => ?_)
    obtain ⟨rfl, rfl⟩ := hp
    refine v_iload C dL_law_266 1 rfl ?_
    refine v_icmp_eq (tgt := 273) C dL_law_268 (by decide) (fun _ => ?_) (fun h => absurd hz h)
    refine v_iload C dL_law_273 1 rfl ?_
    refine v_if_ne (tgt := 290) C dL_law_275 (by decide) (fun h => absurd rfl h) (fun _ => ?_)
    refine v_aload_n C dL_law_278 rfl 6 rfl ?_
    refine v_iconst (v := 0) C dL_law_279 (by decide) ?_
    refine v_out C rfl dL_law_280 ?_
    refine v_iload C dL_law_281 0 rfl ?_
    refine v_i2l C dL_law_283 ?_
    refine v_lcmp C dL_law_284 ?_
    refine v_if_eq (tgt := 290) C dL_law_285 (by decide) (fun _ => ?_) (fun h => absurd ((lg_cmp_eq _ _).mpr rfl) h)
    refine v_goto (tgt := 441) C dL_law_290 (by decide) ?_
    refine v_lv [2, 3, 4, 5, 6] rfl ?_
    exact hnx ad am cs ks _ _ _ C hm (hI2 _ _ hU2 hV3).2
  · simp only [List.mem_cons, Prod.mk.injEq, List.not_mem_nil, or_false] at hE
    rcases hE with ⟨rfl, rfl⟩ | ⟨rfl, rfl⟩
    · have hz : gI V2 0 = 1 := hz
      refine v_h_run (post := (fun r2 q2 => r2 = 1 ∧ q2.1 = U ∧ q2.2 = f)) C hl1 (hC _ _ (Or.inl ⟨rfl, rfl, rfl, rfl⟩)) mM_L_51 hcc (Nat.le_of_ble_eq_true rfl) dL_law_227 (fun r2 u2 f2 hp => ?_)
      obtain ⟨rfl, rfl, rfl⟩ := hp
      refine v_istore (lv' := [(5, .int 1), (4, .int x4), (0, .ref (vb X)), (1, .ref (ad 0)), (2, .ref (am 0)), (3, .ref (ad 80))]) C dL_law_230 (by decide) rfl ?_
      refine v_aload_n C dL_law_232 rfl 4 rfl ?_
      refine v_aload_n C dL_law_233 rfl 2 rfl ?_
      refine v_iload C dL_law_234 1 rfl ?_
      refine v_iconst (v := 1) C dL_law_236 (by decide) ?_
      refine v_iadd C dL_law_237 ?_
      refine v_sld C (i32_add (k := 1) (by omega) hL hx4 rfl) dL_law_238 ?_
      refine v_aload_n C dL_law_239 rfl 2 rfl ?_
      refine v_iload C dL_law_240 1 rfl ?_
      refine v_iconst (v := 2) C dL_law_242 (by decide) ?_
      refine v_iadd C dL_law_243 ?_
      refine v_sld C (i32_add (k := 2) (by omega) hL hx4 rfl) dL_law_244 ?_
      refine v_aload_n C dL_law_245 rfl 2 rfl ?_
      refine v_iload C dL_law_246 1 rfl ?_
      refine v_iconst (v := 3) C dL_law_248 (by decide) ?_
      refine v_iadd C dL_law_249 ?_
      refine v_sld C (i32_add (k := 3) (by omega) hL hx4 rfl) dL_law_250 ?_
      refine v_aload_n C dL_law_251 rfl 2 rfl ?_
      refine v_iload C dL_law_252 1 rfl ?_
      refine v_iconst (v := 4) C dL_law_254 (by decide) ?_
      refine v_iadd C dL_law_255 ?_
      refine v_sld C (i32_add (k := 4) (by omega) hL hx4 rfl) dL_law_256 ?_
      refine v_callMi (u := u2) (As := [.int (vxs X (x4 + 1).toNatClampNeg), .int (vxs X (x4 + 2).toNatClampNeg), .int (vxs X (x4 + 3).toNatClampNeg), .int (vxs X (x4 + 4).toNatClampNeg)]) (post := fun r3 v3 => r3 = r ∧ v3 = V2) C hm 4 (fun A hD => c_X7_run hD v (vxs X (x4 + 1).toNatClampNeg) (vxs X (x4 + 2).toNatClampNeg) (vxs X (x4 + 3).toNatClampNeg) (vxs X (x4 + 4).toNatClampNeg) _ (hM _ ⟨rfl, rfl⟩)) mI_X7_run mS_X7_run mC_X7_run mZ_X7 rfl (by decide +kernel) rfl mM_L_54 (by decide) ⟨by omega, by omega⟩ (Nat.le_of_ble_eq_true rfl) dL_law_257 (fun r3 v3 hp => ?_)
      obtain ⟨rfl, rfl⟩ := hp
      refine v_istore (lv' := [(6, .int r3), (5, .int 1), (4, .int x4), (0, .ref (vb X)), (1, .ref (ad 0)), (2, .ref (am 0)), (3, .ref (ad 80))]) C dL_law_260 (by decide) rfl ?_
      refine v_aload_n C dL_law_262 rfl 5 rfl ?_
      refine v_callMi (u := u2) (As := []) (post := fun r4 v4 => r4 = gI v3 0 ∧ v4 = v3) C hm 0 (fun A hD => c_X7_thrown hD v3 _ ⟨rfl, rfl⟩) mI_X7_thrown mS_X7_thrown mC_X7_thrown mZ_X7 rfl (by decide +kernel) rfl mM_L_43 (by decide) ⟨by omega, by omega⟩ (Nat.le_of_ble_eq_true rfl) dL_law_263 (fun r4 v4 hp => ?_)
      obtain ⟨rfl, rfl⟩ := hp
      refine v_iload C dL_law_266 1 rfl ?_
      refine v_icmp_eq (tgt := 273) C dL_law_268 (by decide) (fun _ => ?_) (fun h => absurd hz h)
      refine v_iload C dL_law_273 1 rfl ?_
      refine v_if_ne (tgt := 290) C dL_law_275 (by decide) (fun _ => ?_) (fun h => absurd h (by decide))
      refine v_goto (tgt := 441) C dL_law_290 (by decide) ?_
      refine v_lv [2, 3, 4, 5, 6] rfl ?_
      exact hnx ad am cs ks _ _ _ C hm hI2
    · have hz : gI V2 0 = 2 := hz
      refine v_h_run (post := (fun r2 q2 => r2 = 2 ∧ q2.1 = U ∧ q2.2 = f)) C hl1 (hC _ _ (Or.inr ⟨rfl, rfl, rfl, rfl⟩)) mM_L_51 hcc (Nat.le_of_ble_eq_true rfl) dL_law_227 (fun r2 u2 f2 hp => ?_)
      obtain ⟨rfl, rfl, rfl⟩ := hp
      refine v_istore (lv' := [(5, .int 2), (4, .int x4), (0, .ref (vb X)), (1, .ref (ad 0)), (2, .ref (am 0)), (3, .ref (ad 80))]) C dL_law_230 (by decide) rfl ?_
      refine v_aload_n C dL_law_232 rfl 4 rfl ?_
      refine v_aload_n C dL_law_233 rfl 2 rfl ?_
      refine v_iload C dL_law_234 1 rfl ?_
      refine v_iconst (v := 1) C dL_law_236 (by decide) ?_
      refine v_iadd C dL_law_237 ?_
      refine v_sld C (i32_add (k := 1) (by omega) hL hx4 rfl) dL_law_238 ?_
      refine v_aload_n C dL_law_239 rfl 2 rfl ?_
      refine v_iload C dL_law_240 1 rfl ?_
      refine v_iconst (v := 2) C dL_law_242 (by decide) ?_
      refine v_iadd C dL_law_243 ?_
      refine v_sld C (i32_add (k := 2) (by omega) hL hx4 rfl) dL_law_244 ?_
      refine v_aload_n C dL_law_245 rfl 2 rfl ?_
      refine v_iload C dL_law_246 1 rfl ?_
      refine v_iconst (v := 3) C dL_law_248 (by decide) ?_
      refine v_iadd C dL_law_249 ?_
      refine v_sld C (i32_add (k := 3) (by omega) hL hx4 rfl) dL_law_250 ?_
      refine v_aload_n C dL_law_251 rfl 2 rfl ?_
      refine v_iload C dL_law_252 1 rfl ?_
      refine v_iconst (v := 4) C dL_law_254 (by decide) ?_
      refine v_iadd C dL_law_255 ?_
      refine v_sld C (i32_add (k := 4) (by omega) hL hx4 rfl) dL_law_256 ?_
      refine v_callMi (u := u2) (As := [.int (vxs X (x4 + 1).toNatClampNeg), .int (vxs X (x4 + 2).toNatClampNeg), .int (vxs X (x4 + 3).toNatClampNeg), .int (vxs X (x4 + 4).toNatClampNeg)]) (post := fun r3 v3 => r3 = r ∧ v3 = V2) C hm 4 (fun A hD => c_X7_run hD v (vxs X (x4 + 1).toNatClampNeg) (vxs X (x4 + 2).toNatClampNeg) (vxs X (x4 + 3).toNatClampNeg) (vxs X (x4 + 4).toNatClampNeg) _ (hM _ ⟨rfl, rfl⟩)) mI_X7_run mS_X7_run mC_X7_run mZ_X7 rfl (by decide +kernel) rfl mM_L_54 (by decide) ⟨by omega, by omega⟩ (Nat.le_of_ble_eq_true rfl) dL_law_257 (fun r3 v3 hp => ?_)
      obtain ⟨rfl, rfl⟩ := hp
      refine v_istore (lv' := [(6, .int r3), (5, .int 2), (4, .int x4), (0, .ref (vb X)), (1, .ref (ad 0)), (2, .ref (am 0)), (3, .ref (ad 80))]) C dL_law_260 (by decide) rfl ?_
      refine v_aload_n C dL_law_262 rfl 5 rfl ?_
      refine v_callMi (u := u2) (As := []) (post := fun r4 v4 => r4 = gI v3 0 ∧ v4 = v3) C hm 0 (fun A hD => c_X7_thrown hD v3 _ ⟨rfl, rfl⟩) mI_X7_thrown mS_X7_thrown mC_X7_thrown mZ_X7 rfl (by decide +kernel) rfl mM_L_43 (by decide) ⟨by omega, by omega⟩ (Nat.le_of_ble_eq_true rfl) dL_law_263 (fun r4 v4 hp => ?_)
      obtain ⟨rfl, rfl⟩ := hp
      refine v_iload C dL_law_266 1 rfl ?_
      refine v_icmp_eq (tgt := 273) C dL_law_268 (by decide) (fun _ => ?_) (fun h => absurd hz h)
      refine v_iload C dL_law_273 1 rfl ?_
      refine v_if_ne (tgt := 290) C dL_law_275 (by decide) (fun _ => ?_) (fun h => absurd h (by decide))
      refine v_goto (tgt := 441) C dL_law_290 (by decide) ?_
      refine v_lv [2, 3, 4, 5, 6] rfl ?_
      exact hnx ad am cs ks _ _ _ C hm hI2
set_option maxHeartbeats 4000000 in
set_option maxRecDepth 20000 in
theorem law_count {X : VX} {Inv : St → St → Prop} (hO : LawOK Inv) (hl1 : (vl X).stackTraces = false) (hL : vLn X ≤ 3072) {j : Nat} {x4 : Int32} (hj : 6 * j + 6 ≤ vLn X) (hx4 : x4 = nI (6 * j)) (hnx : ∀ (ad am : Nat → Nat) (cs ks : Nat → ClassId) (u v : St) (f : Nat → Int64), CV X (ad 90, ad 91) → (am 90 = ad 90 ∧ am 91 = ad 91) → Inv u v → V X (wL ad cs u am ks v f) (tysL cs ks) (74 + (j + 1)) (300363 + 6 * (j + 1)) 441 [(4, .int x4), (0, .ref (vb X)), (1, .ref (ad 0)), (2, .ref (am 0)), (3, .ref (ad 80))] []) (ad am : Nat → Nat) (cs ks : Nat → ClassId) (u v : St) (f : Nat → Int64) (C : CV X (ad 90, ad 91)) (hm : am 90 = ad 90 ∧ am 91 = ad 91) (hI : Inv u v) : V X (wL ad cs u am ks v f) (tysL cs ks) (74 + j) (300363 + 6 * j) 306 [(4, .int x4), (0, .ref (vb X)), (1, .ref (ad 0)), (2, .ref (am 0)), (3, .ref (ad 80))] [] := by
  have hjb : j < 512 := by omega
  have hcc : 74 + j + 1 ≤ 1104 ∧ 300363 + 6 * j + 6 ≤ 308591 := ⟨by omega, by omega⟩
  refine v_aload_n C dL_law_306 rfl 2 rfl ?_
  refine v_aload_n C dL_law_307 rfl 1 rfl ?_
  refine v_iload C dL_law_308 0 rfl ?_
  refine v_iconst (v := 1) C dL_law_310 (by decide) ?_
  refine v_iadd C dL_law_311 ?_
  refine v_sld C (i32_add (k := 1) (by omega) hL hx4 rfl) dL_law_312 ?_
  refine v_aload_n C dL_law_313 rfl 4 rfl ?_
  rcases hO.2.2.2.2.1 u v hI (vxs X (x4 + 1).toNatClampNeg) with ⟨r, U, V2, hC, hM, hz, hI2⟩ | ⟨E, k, r, U, V2, hE, hC, hM, hz, hI2⟩
  · have hz : gI V2 0 = 0 := hz
    refine v_h_count (post := (fun r2 q2 => r2 = 0 ∧ q2.1 = U ∧ q2.2 = vp_updL f 0 r.toInt64)) C hl1 (hC _ _ ⟨rfl, rfl, rfl⟩) mM_L_59 hcc (Nat.le_of_ble_eq_true rfl) dL_law_314 (fun r2 u2 f2 hp => ?_)
    obtain ⟨rfl, rfl, rfl⟩ := hp
    refine v_istore (lv' := [(5, .int 0), (4, .int x4), (0, .ref (vb X)), (1, .ref (ad 0)), (2, .ref (am 0)), (3, .ref (ad 80))]) C dL_law_317 (by decide) rfl ?_
    refine v_aload_n C dL_law_319 rfl 4 rfl ?_
    refine v_aload_n C dL_law_320 rfl 2 rfl ?_
    refine v_iload C dL_law_321 1 rfl ?_
    refine v_iconst (v := 1) C dL_law_323 (by decide) ?_
    refine v_iadd C dL_law_324 ?_
    refine v_sld C (i32_add (k := 1) (by omega) hL hx4 rfl) dL_law_325 ?_
    refine v_callMi (u := u2) (As := [.int (vxs X (x4 + 1).toNatClampNeg)]) (post := fun r3 v3 => r3 = r ∧ v3 = V2) C hm 1 (fun A hD => c_X7_count hD v (vxs X (x4 + 1).toNatClampNeg) _ (hM _ ⟨rfl, rfl⟩)) mI_X7_count mS_X7_count mC_X7_count mZ_X7 rfl (by decide +kernel) rfl mM_L_62 (by decide) ⟨by omega, by omega⟩ (Nat.le_of_ble_eq_true rfl) dL_law_326 (fun r3 v3 hp => ?_)
    obtain ⟨rfl, rfl⟩ := hp
    refine v_istore (lv' := [(6, .int r3), (5, .int 0), (4, .int x4), (0, .ref (vb X)), (1, .ref (ad 0)), (2, .ref (am 0)), (3, .ref (ad 80))]) C dL_law_329 (by decide) rfl ?_
    refine v_aload_n C dL_law_331 rfl 5 rfl ?_
    refine v_callMi (u := u2) (As := []) (post := fun r4 v4 => r4 = gI v3 0 ∧ v4 = v3) C hm 0 (fun A hD => c_X7_thrown hD v3 _ ⟨rfl, rfl⟩) mI_X7_thrown mS_X7_thrown mC_X7_thrown mZ_X7 rfl (by decide +kernel) rfl mM_L_43 (by decide) ⟨by omega, by omega⟩ (Nat.le_of_ble_eq_true rfl) dL_law_332 (fun r4 v4 hp => ?_)
    obtain ⟨rfl, rfl⟩ := hp
    refine v_iload C dL_law_335 1 rfl ?_
    refine v_icmp_eq (tgt := 342) C dL_law_337 (by decide) (fun _ => ?_) (fun h => absurd hz h)
    refine v_iload C dL_law_342 1 rfl ?_
    refine v_if_ne (tgt := 359) C dL_law_344 (by decide) (fun h => absurd rfl h) (fun _ => ?_)
    refine v_aload_n C dL_law_347 rfl 6 rfl ?_
    refine v_iconst (v := 0) C dL_law_348 (by decide) ?_
    refine v_out C rfl dL_law_349 ?_
    refine v_iload C dL_law_350 0 rfl ?_
    refine v_i2l C dL_law_352 ?_
    refine v_lcmp C dL_law_353 ?_
    refine v_if_eq (tgt := 359) C dL_law_354 (by decide) (fun _ => ?_) (fun h => absurd ((lg_cmp_eq _ _).mpr rfl) h)
    refine v_goto (tgt := 441) C dL_law_359 (by decide) ?_
    refine v_lv [2, 3, 4, 5, 6] rfl ?_
    exact hnx ad am cs ks _ _ _ C hm hI2
  · simp only [List.mem_cons, Prod.mk.injEq, List.not_mem_nil, or_false] at hE
    obtain ⟨rfl, rfl⟩ := hE
    have hz : gI V2 0 = 1 := hz
    refine v_h_count (post := (fun r2 q2 => r2 = 1 ∧ q2.1 = U ∧ q2.2 = f)) C hl1 (hC _ _ ⟨rfl, rfl, rfl, rfl⟩) mM_L_59 hcc (Nat.le_of_ble_eq_true rfl) dL_law_314 (fun r2 u2 f2 hp => ?_)
    obtain ⟨rfl, rfl, rfl⟩ := hp
    refine v_istore (lv' := [(5, .int 1), (4, .int x4), (0, .ref (vb X)), (1, .ref (ad 0)), (2, .ref (am 0)), (3, .ref (ad 80))]) C dL_law_317 (by decide) rfl ?_
    refine v_aload_n C dL_law_319 rfl 4 rfl ?_
    refine v_aload_n C dL_law_320 rfl 2 rfl ?_
    refine v_iload C dL_law_321 1 rfl ?_
    refine v_iconst (v := 1) C dL_law_323 (by decide) ?_
    refine v_iadd C dL_law_324 ?_
    refine v_sld C (i32_add (k := 1) (by omega) hL hx4 rfl) dL_law_325 ?_
    refine v_callMi (u := u2) (As := [.int (vxs X (x4 + 1).toNatClampNeg)]) (post := fun r3 v3 => r3 = r ∧ v3 = V2) C hm 1 (fun A hD => c_X7_count hD v (vxs X (x4 + 1).toNatClampNeg) _ (hM _ ⟨rfl, rfl⟩)) mI_X7_count mS_X7_count mC_X7_count mZ_X7 rfl (by decide +kernel) rfl mM_L_62 (by decide) ⟨by omega, by omega⟩ (Nat.le_of_ble_eq_true rfl) dL_law_326 (fun r3 v3 hp => ?_)
    obtain ⟨rfl, rfl⟩ := hp
    refine v_istore (lv' := [(6, .int r3), (5, .int 1), (4, .int x4), (0, .ref (vb X)), (1, .ref (ad 0)), (2, .ref (am 0)), (3, .ref (ad 80))]) C dL_law_329 (by decide) rfl ?_
    refine v_aload_n C dL_law_331 rfl 5 rfl ?_
    refine v_callMi (u := u2) (As := []) (post := fun r4 v4 => r4 = gI v3 0 ∧ v4 = v3) C hm 0 (fun A hD => c_X7_thrown hD v3 _ ⟨rfl, rfl⟩) mI_X7_thrown mS_X7_thrown mC_X7_thrown mZ_X7 rfl (by decide +kernel) rfl mM_L_43 (by decide) ⟨by omega, by omega⟩ (Nat.le_of_ble_eq_true rfl) dL_law_332 (fun r4 v4 hp => ?_)
    obtain ⟨rfl, rfl⟩ := hp
    refine v_iload C dL_law_335 1 rfl ?_
    refine v_icmp_eq (tgt := 342) C dL_law_337 (by decide) (fun _ => ?_) (fun h => absurd hz h)
    refine v_iload C dL_law_342 1 rfl ?_
    refine v_if_ne (tgt := 359) C dL_law_344 (by decide) (fun _ => ?_) (fun h => absurd h (by decide))
    refine v_goto (tgt := 441) C dL_law_359 (by decide) ?_
    refine v_lv [2, 3, 4, 5, 6] rfl ?_
    exact hnx ad am cs ks _ _ _ C hm hI2
set_option maxHeartbeats 4000000 in
set_option maxRecDepth 20000 in
theorem law_definition {X : VX} {Inv : St → St → Prop} (hO : LawOK Inv) (hl1 : (vl X).stackTraces = false) (hL : vLn X ≤ 3072) {j : Nat} {x4 : Int32} (hj : 6 * j + 6 ≤ vLn X) (hx4 : x4 = nI (6 * j)) (hnx : ∀ (ad am : Nat → Nat) (cs ks : Nat → ClassId) (u v : St) (f : Nat → Int64), CV X (ad 90, ad 91) → (am 90 = ad 90 ∧ am 91 = ad 91) → Inv u v → V X (wL ad cs u am ks v f) (tysL cs ks) (74 + (j + 1)) (300363 + 6 * (j + 1)) 441 [(4, .int x4), (0, .ref (vb X)), (1, .ref (ad 0)), (2, .ref (am 0)), (3, .ref (ad 80))] []) (ad am : Nat → Nat) (cs ks : Nat → ClassId) (u v : St) (f : Nat → Int64) (C : CV X (ad 90, ad 91)) (hm : am 90 = ad 90 ∧ am 91 = ad 91) (hI : Inv u v) : V X (wL ad cs u am ks v f) (tysL cs ks) (74 + j) (300363 + 6 * j) 362 [(4, .int x4), (0, .ref (vb X)), (1, .ref (ad 0)), (2, .ref (am 0)), (3, .ref (ad 80))] [] := by
  have hjb : j < 512 := by omega
  have hcc : 74 + j + 1 ≤ 1104 ∧ 300363 + 6 * j + 6 ≤ 308591 := ⟨by omega, by omega⟩
  refine v_aload_n C dL_law_362 rfl 2 rfl ?_
  refine v_aload_n C dL_law_363 rfl 1 rfl ?_
  refine v_iload C dL_law_364 0 rfl ?_
  refine v_iconst (v := 1) C dL_law_366 (by decide) ?_
  refine v_iadd C dL_law_367 ?_
  refine v_sld C (i32_add (k := 1) (by omega) hL hx4 rfl) dL_law_368 ?_
  refine v_aload_n C dL_law_369 rfl 1 rfl ?_
  refine v_iload C dL_law_370 0 rfl ?_
  refine v_iconst (v := 2) C dL_law_372 (by decide) ?_
  refine v_iadd C dL_law_373 ?_
  refine v_sld C (i32_add (k := 2) (by omega) hL hx4 rfl) dL_law_374 ?_
  refine v_aload_n C dL_law_375 rfl 4 rfl ?_
  rcases hO.2.2.2.2.2.1 u v hI (vxs X (x4 + 1).toNatClampNeg) (vxs X (x4 + 2).toNatClampNeg) with ⟨r, U, V2, hC, hM, hz, hI2⟩ | ⟨E, k, r, U, V2, hE, hC, hM, hz, hI2⟩
  · have hz : gI V2 0 = 0 := hz
    refine v_h_definition (post := (fun r2 q2 => r2 = 0 ∧ q2.1 = U ∧ q2.2 = vp_updL f 0 r.toInt64)) C hl1 (hC _ _ ⟨rfl, rfl, rfl⟩) mM_L_63 hcc (Nat.le_of_ble_eq_true rfl) dL_law_376 (fun r2 u2 f2 hp => ?_)
    obtain ⟨rfl, rfl, rfl⟩ := hp
    refine v_istore (lv' := [(5, .int 0), (4, .int x4), (0, .ref (vb X)), (1, .ref (ad 0)), (2, .ref (am 0)), (3, .ref (ad 80))]) C dL_law_379 (by decide) rfl ?_
    refine v_aload_n C dL_law_381 rfl 4 rfl ?_
    refine v_aload_n C dL_law_382 rfl 2 rfl ?_
    refine v_iload C dL_law_383 1 rfl ?_
    refine v_iconst (v := 1) C dL_law_385 (by decide) ?_
    refine v_iadd C dL_law_386 ?_
    refine v_sld C (i32_add (k := 1) (by omega) hL hx4 rfl) dL_law_387 ?_
    refine v_aload_n C dL_law_388 rfl 2 rfl ?_
    refine v_iload C dL_law_389 1 rfl ?_
    refine v_iconst (v := 2) C dL_law_391 (by decide) ?_
    refine v_iadd C dL_law_392 ?_
    refine v_sld C (i32_add (k := 2) (by omega) hL hx4 rfl) dL_law_393 ?_
    refine v_callMi (u := u2) (As := [.int (vxs X (x4 + 1).toNatClampNeg), .int (vxs X (x4 + 2).toNatClampNeg)]) (post := fun r3 v3 => r3 = r ∧ v3 = V2) C hm 2 (fun A hD => c_X7_definition hD v (vxs X (x4 + 1).toNatClampNeg) (vxs X (x4 + 2).toNatClampNeg) _ (hM _ ⟨rfl, rfl⟩)) mI_X7_definition mS_X7_definition mC_X7_definition mZ_X7 rfl (by decide +kernel) rfl mM_L_66 (by decide) ⟨by omega, by omega⟩ (Nat.le_of_ble_eq_true rfl) dL_law_394 (fun r3 v3 hp => ?_)
    obtain ⟨rfl, rfl⟩ := hp
    refine v_istore (lv' := [(6, .int r3), (5, .int 0), (4, .int x4), (0, .ref (vb X)), (1, .ref (ad 0)), (2, .ref (am 0)), (3, .ref (ad 80))]) C dL_law_397 (by decide) rfl ?_
    refine v_aload_n C dL_law_399 rfl 5 rfl ?_
    refine v_callMi (u := u2) (As := []) (post := fun r4 v4 => r4 = gI v3 0 ∧ v4 = v3) C hm 0 (fun A hD => c_X7_thrown hD v3 _ ⟨rfl, rfl⟩) mI_X7_thrown mS_X7_thrown mC_X7_thrown mZ_X7 rfl (by decide +kernel) rfl mM_L_43 (by decide) ⟨by omega, by omega⟩ (Nat.le_of_ble_eq_true rfl) dL_law_400 (fun r4 v4 hp => ?_)
    obtain ⟨rfl, rfl⟩ := hp
    refine v_iload C dL_law_403 1 rfl ?_
    refine v_icmp_eq (tgt := 410) C dL_law_405 (by decide) (fun _ => ?_) (fun h => absurd hz h)
    refine v_iload C dL_law_410 1 rfl ?_
    refine v_if_ne (tgt := 427) C dL_law_412 (by decide) (fun h => absurd rfl h) (fun _ => ?_)
    refine v_aload_n C dL_law_415 rfl 6 rfl ?_
    refine v_iconst (v := 0) C dL_law_416 (by decide) ?_
    refine v_out C rfl dL_law_417 ?_
    refine v_iload C dL_law_418 0 rfl ?_
    refine v_i2l C dL_law_420 ?_
    refine v_lcmp C dL_law_421 ?_
    refine v_if_eq (tgt := 427) C dL_law_422 (by decide) (fun _ => ?_) (fun h => absurd ((lg_cmp_eq _ _).mpr rfl) h)
    refine v_goto (tgt := 441) C dL_law_427 (by decide) ?_
    refine v_lv [2, 3, 4, 5, 6] rfl ?_
    exact hnx ad am cs ks _ _ _ C hm hI2
  · simp only [List.mem_cons, Prod.mk.injEq, List.not_mem_nil, or_false] at hE
    obtain ⟨rfl, rfl⟩ := hE
    have hz : gI V2 0 = 1 := hz
    refine v_h_definition (post := (fun r2 q2 => r2 = 1 ∧ q2.1 = U ∧ q2.2 = f)) C hl1 (hC _ _ ⟨rfl, rfl, rfl, rfl⟩) mM_L_63 hcc (Nat.le_of_ble_eq_true rfl) dL_law_376 (fun r2 u2 f2 hp => ?_)
    obtain ⟨rfl, rfl, rfl⟩ := hp
    refine v_istore (lv' := [(5, .int 1), (4, .int x4), (0, .ref (vb X)), (1, .ref (ad 0)), (2, .ref (am 0)), (3, .ref (ad 80))]) C dL_law_379 (by decide) rfl ?_
    refine v_aload_n C dL_law_381 rfl 4 rfl ?_
    refine v_aload_n C dL_law_382 rfl 2 rfl ?_
    refine v_iload C dL_law_383 1 rfl ?_
    refine v_iconst (v := 1) C dL_law_385 (by decide) ?_
    refine v_iadd C dL_law_386 ?_
    refine v_sld C (i32_add (k := 1) (by omega) hL hx4 rfl) dL_law_387 ?_
    refine v_aload_n C dL_law_388 rfl 2 rfl ?_
    refine v_iload C dL_law_389 1 rfl ?_
    refine v_iconst (v := 2) C dL_law_391 (by decide) ?_
    refine v_iadd C dL_law_392 ?_
    refine v_sld C (i32_add (k := 2) (by omega) hL hx4 rfl) dL_law_393 ?_
    refine v_callMi (u := u2) (As := [.int (vxs X (x4 + 1).toNatClampNeg), .int (vxs X (x4 + 2).toNatClampNeg)]) (post := fun r3 v3 => r3 = r ∧ v3 = V2) C hm 2 (fun A hD => c_X7_definition hD v (vxs X (x4 + 1).toNatClampNeg) (vxs X (x4 + 2).toNatClampNeg) _ (hM _ ⟨rfl, rfl⟩)) mI_X7_definition mS_X7_definition mC_X7_definition mZ_X7 rfl (by decide +kernel) rfl mM_L_66 (by decide) ⟨by omega, by omega⟩ (Nat.le_of_ble_eq_true rfl) dL_law_394 (fun r3 v3 hp => ?_)
    obtain ⟨rfl, rfl⟩ := hp
    refine v_istore (lv' := [(6, .int r3), (5, .int 1), (4, .int x4), (0, .ref (vb X)), (1, .ref (ad 0)), (2, .ref (am 0)), (3, .ref (ad 80))]) C dL_law_397 (by decide) rfl ?_
    refine v_aload_n C dL_law_399 rfl 5 rfl ?_
    refine v_callMi (u := u2) (As := []) (post := fun r4 v4 => r4 = gI v3 0 ∧ v4 = v3) C hm 0 (fun A hD => c_X7_thrown hD v3 _ ⟨rfl, rfl⟩) mI_X7_thrown mS_X7_thrown mC_X7_thrown mZ_X7 rfl (by decide +kernel) rfl mM_L_43 (by decide) ⟨by omega, by omega⟩ (Nat.le_of_ble_eq_true rfl) dL_law_400 (fun r4 v4 hp => ?_)
    obtain ⟨rfl, rfl⟩ := hp
    refine v_iload C dL_law_403 1 rfl ?_
    refine v_icmp_eq (tgt := 410) C dL_law_405 (by decide) (fun _ => ?_) (fun h => absurd hz h)
    refine v_iload C dL_law_410 1 rfl ?_
    refine v_if_ne (tgt := 427) C dL_law_412 (by decide) (fun _ => ?_) (fun h => absurd h (by decide))
    refine v_goto (tgt := 441) C dL_law_427 (by decide) ?_
    refine v_lv [2, 3, 4, 5, 6] rfl ?_
    exact hnx ad am cs ks _ _ _ C hm hI2
set_option maxHeartbeats 4000000 in
set_option maxRecDepth 20000 in
theorem law_read {X : VX} {Inv : St → St → Prop} (hO : LawOK Inv) (hl1 : (vl X).stackTraces = false) (hL : vLn X ≤ 3072) {j : Nat} {x4 : Int32} (hj : 6 * j + 6 ≤ vLn X) (hx4 : x4 = nI (6 * j)) (hnx : ∀ (ad am : Nat → Nat) (cs ks : Nat → ClassId) (u v : St) (f : Nat → Int64), CV X (ad 90, ad 91) → (am 90 = ad 90 ∧ am 91 = ad 91) → Inv u v → V X (wL ad cs u am ks v f) (tysL cs ks) (74 + (j + 1)) (300363 + 6 * (j + 1)) 441 [(4, .int x4), (0, .ref (vb X)), (1, .ref (ad 0)), (2, .ref (am 0)), (3, .ref (ad 80))] []) (ad am : Nat → Nat) (cs ks : Nat → ClassId) (u v : St) (f : Nat → Int64) (C : CV X (ad 90, ad 91)) (hm : am 90 = ad 90 ∧ am 91 = ad 91) (hI : Inv u v) : V X (wL ad cs u am ks v f) (tysL cs ks) (74 + j) (300363 + 6 * j) 188 [(4, .int x4), (0, .ref (vb X)), (1, .ref (ad 0)), (2, .ref (am 0)), (3, .ref (ad 80))] [] := by
  obtain ⟨r, z, SC, SM, hC, hM, hI2⟩ := hO.2.1 u v hI
  refine v_aload_n C dL_law_188 rfl 2 rfl ?_
  refine v_read (post := fun r2 z2 u2 => r2 = r ∧ z2 = z ∧ SC u2) C (hC _ (fun U hU => ⟨rfl, rfl, hU⟩)) mM_L_47 ⟨by omega, by omega⟩ (Nat.le_of_ble_eq_true rfl) dL_law_189 (fun r2 z2 u2 hp => ?_)
  obtain ⟨rfl, rfl, hU2⟩ := hp
  refine v_aload_n C dL_law_192 rfl 3 rfl ?_
  have C2 : CV X ((adS z2 ad) 90, (adS z2 ad) 91) := by cases z2 <;> exact C
  have hm2 : am 90 = (adS z2 ad) 90 ∧ am 91 = (adS z2 ad) 91 := by cases z2 <;> exact hm
  refine v_callMi (ad := adS z2 ad) (cs := adS z2 cs) (u := u2) (As := []) (post := fun r3 v3 => r3 = r2 ∧ SM v3) C2 hm2 0 (fun A hD => c_X7_read hD v _ (hM _ (fun V hV => ⟨rfl, hV⟩))) mI_X7_read mS_X7_read mC_X7_read mZ_X7 rfl (by decide +kernel) rfl mM_L_50 (by decide) ⟨by omega, by omega⟩ (Nat.le_of_ble_eq_true rfl) dL_law_193 (fun r3 v3 hp => ?_)
  obtain ⟨rfl, hV3⟩ := hp
  refine v_icmp_eq (tgt := 441) C dL_law_196 (by decide) (fun _ => ?_) (fun h => absurd rfl h)
  refine v_wide (c2 := 74 + (j + 1)) (s2 := 300363 + 6 * (j + 1)) (by omega) (by omega) ?_
  have hlast := hnx (adS z2 ad) am (adS z2 cs) ks u2 v3 f C2 hm2 (hI2 _ _ hU2 hV3)
  cases z2 <;> exact hlast
set_option maxHeartbeats 4000000 in
set_option maxRecDepth 20000 in
theorem law_value {X : VX} {Inv : St → St → Prop} (hO : LawOK Inv) (hl1 : (vl X).stackTraces = false) (hL : vLn X ≤ 3072) {j : Nat} {x4 : Int32} (hj : 6 * j + 6 ≤ vLn X) (hx4 : x4 = nI (6 * j)) (hnx : ∀ (ad am : Nat → Nat) (cs ks : Nat → ClassId) (u v : St) (f : Nat → Int64), CV X (ad 90, ad 91) → (am 90 = ad 90 ∧ am 91 = ad 91) → Inv u v → V X (wL ad cs u am ks v f) (tysL cs ks) (74 + (j + 1)) (300363 + 6 * (j + 1)) 441 [(4, .int x4), (0, .ref (vb X)), (1, .ref (ad 0)), (2, .ref (am 0)), (3, .ref (ad 80))] []) (ad am : Nat → Nat) (cs ks : Nat → ClassId) (u v : St) (f : Nat → Int64) (C : CV X (ad 90, ad 91)) (hm : am 90 = ad 90 ∧ am 91 = ad 91) (hI : Inv u v) : V X (wL ad cs u am ks v f) (tysL cs ks) (74 + j) (300363 + 6 * j) 293 [(4, .int x4), (0, .ref (vb X)), (1, .ref (ad 0)), (2, .ref (am 0)), (3, .ref (ad 80))] [] := by
  obtain ⟨r, U, V2, hC, hM, hI2⟩ := hO.2.2.2.1 u v hI
  refine v_aload_n C dL_law_293 rfl 2 rfl ?_
  refine v_callCi (As := []) (post := fun r2 u2 => r2 = r ∧ u2 = U) C 0 (fun A hD => c_X6_value hD u _ (hC _ ⟨rfl, rfl⟩)) mI_X6_value mS_X6_value mC_X6_value mZ_X6 rfl (by decide +kernel) rfl mM_L_55 (by decide) ⟨by omega, by omega⟩ (Nat.le_of_ble_eq_true rfl) dL_law_294 (fun r2 u2 hp => ?_)
  obtain ⟨rfl, rfl⟩ := hp
  refine v_aload_n C dL_law_297 rfl 3 rfl ?_
  refine v_callMi (u := u2) (As := []) (post := fun r3 v3 => r3 = r2 ∧ v3 = V2) C hm 0 (fun A hD => c_X7_value hD v _ (hM _ ⟨rfl, rfl⟩)) mI_X7_value mS_X7_value mC_X7_value mZ_X7 rfl (by decide +kernel) rfl mM_L_58 (by decide) ⟨by omega, by omega⟩ (Nat.le_of_ble_eq_true rfl) dL_law_298 (fun r3 v3 hp => ?_)
  obtain ⟨rfl, rfl⟩ := hp
  refine v_icmp_eq (tgt := 441) C dL_law_301 (by decide) (fun _ => ?_) (fun h => absurd rfl h)
  refine v_wide (c2 := 74 + (j + 1)) (s2 := 300363 + 6 * (j + 1)) (by omega) (by omega) ?_
  exact hnx ad am cs ks u2 v3 f C hm hI2
set_option maxHeartbeats 4000000 in
set_option maxRecDepth 20000 in
theorem law_clear {X : VX} {Inv : St → St → Prop} (hO : LawOK Inv) (hl1 : (vl X).stackTraces = false) (hL : vLn X ≤ 3072) {j : Nat} {x4 : Int32} (hj : 6 * j + 6 ≤ vLn X) (hx4 : x4 = nI (6 * j)) (hnx : ∀ (ad am : Nat → Nat) (cs ks : Nat → ClassId) (u v : St) (f : Nat → Int64), CV X (ad 90, ad 91) → (am 90 = ad 90 ∧ am 91 = ad 91) → Inv u v → V X (wL ad cs u am ks v f) (tysL cs ks) (74 + (j + 1)) (300363 + 6 * (j + 1)) 441 [(4, .int x4), (0, .ref (vb X)), (1, .ref (ad 0)), (2, .ref (am 0)), (3, .ref (ad 80))] []) (ad am : Nat → Nat) (cs ks : Nat → ClassId) (u v : St) (f : Nat → Int64) (C : CV X (ad 90, ad 91)) (hm : am 90 = ad 90 ∧ am 91 = ad 91) (hI : Inv u v) : V X (wL ad cs u am ks v f) (tysL cs ks) (74 + j) (300363 + 6 * j) 430 [(4, .int x4), (0, .ref (vb X)), (1, .ref (ad 0)), (2, .ref (am 0)), (3, .ref (ad 80))] [] := by
  obtain ⟨U, V2, hC, hM, hI2⟩ := hO.2.2.2.2.2.2 u v hI
  refine v_aload_n C dL_law_430 rfl 2 rfl ?_
  refine v_callCv (As := []) (post := fun u2 => u2 = U) C 0 (fun A hD => c_X6_clear hD u _ (hC _ rfl)) mI_X6_clear mS_X6_clear mC_X6_clear mZ_X6 rfl (by decide +kernel) rfl mM_L_67 (by decide) ⟨by omega, by omega⟩ (Nat.le_of_ble_eq_true rfl) dL_law_431 (fun u2 hp => ?_)
  obtain rfl := hp
  refine v_aload_n C dL_law_434 rfl 3 rfl ?_
  refine v_callMv (u := u2) (As := []) (post := fun v3 => v3 = V2) C hm 0 (fun A hD => c_X7_clear hD v _ (hM _ rfl)) mI_X7_clear mS_X7_clear mC_X7_clear mZ_X7 rfl (by decide +kernel) rfl mM_L_70 (by decide) ⟨by omega, by omega⟩ (Nat.le_of_ble_eq_true rfl) dL_law_435 (fun v3 hp => ?_)
  obtain rfl := hp
  refine v_goto (tgt := 441) C dL_law_438 (by decide) ?_
  refine v_wide (c2 := 74 + (j + 1)) (s2 := 300363 + 6 * (j + 1)) (by omega) (by omega) ?_
  exact hnx ad am cs ks u2 v3 f C hm hI2
set_option maxHeartbeats 4000000 in
set_option maxRecDepth 20000 in
theorem law_loop {X : VX} {Inv : St → St → Prop} (hO : LawOK Inv) (hl1 : (vl X).stackTraces = false) (hL : vLn X ≤ 3072) (hend : ∀ (w : va_W) (tys : List (ClassId × FieldType)) (lv : List (Nat × Value)) (c2 s2 : Nat), c2 ≤ 1104 → s2 ≤ 308591 → V X w tys c2 s2 447 lv []) : ∀ (n j : Nat) (x4 : Int32), 513 ≤ j + n → j ≤ 512 → x4 = nI (6 * j) → ∀ (ad am : Nat → Nat) (cs ks : Nat → ClassId) (u v : St) (f : Nat → Int64), CV X (ad 90, ad 91) → (am 90 = ad 90 ∧ am 91 = ad 91) → Inv u v → V X (wL ad cs u am ks v f) (tysL cs ks) (74 + j) (300363 + 6 * j) 23 [(4, .int x4), (0, .ref (vb X)), (1, .ref (ad 0)), (2, .ref (am 0)), (3, .ref (ad 80))] [] := by
  intro n
  induction n with
  | zero => intro j x4 h1 h2; omega
  | succ n ih =>
    intro j x4 h1 h2 hx4 ad am cs ks u v f C hm hI
    have hb6 : 6 * j ≤ 3072 := by omega
    refine v_iload C dL_law_23 0 rfl ?_
    refine v_aload_n C dL_law_25 rfl 1 rfl ?_
    refine v_slen C dL_law_26 ?_
    refine v_bipush (v := 6) C dL_law_27 (by decide) ?_
    refine v_isub C dL_law_29 ?_
    refine v_icmp_gt (tgt := 447) C dL_law_30 (by decide) (fun _ => hend _ _ _ _ _ (by omega) (by omega)) (fun hc => ?_)
    have hj : 6 * j + 6 ≤ vLn X := law_more hL hb6 (by rw [← hx4]; exact hc)
    have hnx : ∀ (ad am : Nat → Nat) (cs ks : Nat → ClassId) (u v : St) (f : Nat → Int64), CV X (ad 90, ad 91) → (am 90 = ad 90 ∧ am 91 = ad 91) → Inv u v → V X (wL ad cs u am ks v f) (tysL cs ks) (74 + (j + 1)) (300363 + 6 * (j + 1)) 441 [(4, .int x4), (0, .ref (vb X)), (1, .ref (ad 0)), (2, .ref (am 0)), (3, .ref (ad 80))] [] := by
      intro ad am cs ks u v f C hm hI
      obtain ⟨x5, ex5⟩ : ∃ z : Int32, z = x4 + 6 := ⟨_, rfl⟩
      refine v_iinc (v := x5) (lv' := [(4, .int x5), (0, .ref (vb X)), (1, .ref (ad 0)), (2, .ref (am 0)), (3, .ref (ad 80))]) C (j := 0) dL_law_441 rfl (by rw [ex5]; rfl) (by decide) rfl ?_
      refine v_goto (tgt := 23) C dL_law_444 (by decide) ?_
      exact ih (j + 1) x5 (by omega) (by omega) (by rw [ex5, hx4]; exact nI_add (6 * j) 6) ad am cs ks u v f C hm hI
    refine v_aload_n C dL_law_33 rfl 1 rfl ?_
    refine v_iload C dL_law_34 0 rfl ?_
    refine v_sld C (by rw [hx4]; exact vp_in_nI (by omega) (by omega)) dL_law_36 ?_
    refine v_bipush (v := 7) C dL_law_37 (by decide) ?_
    refine v_iand C dL_law_39 ?_
    refine v_topi (fun y ey => ?_)
    by_cases c0 : y = 0
    · exact v_tabIn (tgt := 84) (off := 44) C c0 dL_law_40 (by decide) (by decide) (by decide) (by decide) (law_feed hO hl1 hL hj hx4 hnx ad am cs ks u v f C hm hI)
    by_cases c1 : y = 1
    · exact v_tabIn (tgt := 188) (off := 148) C c1 dL_law_40 (by decide) (by decide) (by decide) (by decide) (law_read hO hl1 hL hj hx4 hnx ad am cs ks u v f C hm hI)
    by_cases c2 : y = 2
    · exact v_tabIn (tgt := 201) (off := 161) C c2 dL_law_40 (by decide) (by decide) (by decide) (by decide) (law_run hO hl1 hL hj hx4 hnx ad am cs ks u v f C hm hI)
    by_cases c3 : y = 3
    · exact v_tabIn (tgt := 293) (off := 253) C c3 dL_law_40 (by decide) (by decide) (by decide) (by decide) (law_value hO hl1 hL hj hx4 hnx ad am cs ks u v f C hm hI)
    by_cases c4 : y = 4
    · exact v_tabIn (tgt := 306) (off := 266) C c4 dL_law_40 (by decide) (by decide) (by decide) (by decide) (law_count hO hl1 hL hj hx4 hnx ad am cs ks u v f C hm hI)
    by_cases c5 : y = 5
    · exact v_tabIn (tgt := 362) (off := 322) C c5 dL_law_40 (by decide) (by decide) (by decide) (by decide) (law_definition hO hl1 hL hj hx4 hnx ad am cs ks u v f C hm hI)
    by_cases c6 : y = 6
    · exact v_tabIn (tgt := 430) (off := 390) C c6 dL_law_40 (by decide) (by decide) (by decide) (by decide) (law_clear hO hl1 hL hj hx4 hnx ad am cs ks u v f C hm hI)
    replace c0 := lv_neT c0 (a := 0) (by decide)
    replace c1 := lv_neT c1 (a := 1) (by decide)
    replace c2 := lv_neT c2 (a := 2) (by decide)
    replace c3 := lv_neT c3 (a := 3) (by decide)
    replace c4 := lv_neT c4 (a := 4) (by decide)
    replace c5 := lv_neT c5 (a := 5) (by decide)
    replace c6 := lv_neT c6 (a := 6) (by decide)
    refine v_tabOut (tgt := 441) C dL_law_40 (by omega) (by decide) ?_
    refine v_wide (c2 := 74 + (j + 1)) (s2 := 300363 + 6 * (j + 1)) (by omega) (by omega) ?_
    exact hnx ad am cs ks u v f C hm hI
