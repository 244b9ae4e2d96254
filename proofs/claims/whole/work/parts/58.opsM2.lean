/-! 58.opsM2: parts and children in the reference -/
theorem Ch_upd {nx : Nat → Int32} {o : Nat} : ∀ {l : List Nat} {a : Int32} {j : Nat} {y : Int32}, Ch nx o a l → (∀ x ∈ l, o + x ≠ j) → Ch (upd nx j y) o a l
  | [], _, _, _, h, _ => h
  | p :: l, a, j, y, h, hj => ⟨h.1, by
      rw [updE, if_neg (hj p List.mem_cons_self)]
      exact Ch_upd h.2 (fun x hx => hj x (List.mem_cons_of_mem _ hx))⟩
theorem Ch_cg {nx nx' : Nat → Int32} {o : Nat} : ∀ {l : List Nat} {a : Int32}, Ch nx o a l → (∀ x ∈ l, nx' (o + x) = nx (o + x)) → Ch nx' o a l
  | [], _, h, _ => h
  | p :: l, a, h, hj => ⟨h.1, by
      rw [hj p List.mem_cons_self]
      exact Ch_cg h.2 (fun x hx => hj x (List.mem_cons_of_mem _ hx))⟩
theorem cl_mem {k : Nat} {l : List Nat} {x : Nat} (h : x ∈ cl k l) : x ∈ l := by
  unfold cl at h
  split at h
  · exact h
  · split at h
    · exact List.mem_of_mem_drop h
    · cases h
theorem cl_nil (k : Nat) : cl k [] = [] := by unfold cl; split <;> (try split) <;> rfl
theorem MT_add {v V : St} {b : Nat} {g : Nat → Nat → Nat} {L : Nat → List Nat} {d : Nat} (hM : MTb b g L (d + 1) v) (hn : g 1 d < 60) (hk : ∀ q, dm g (d + 1) q → (∀ x ∈ L q, dm g (d + 1) x) ∧ (g 5 q = 3 → dm g (d + 1) (g 6 q))) {kd nu : Nat}
    (e2 : gA V 2 = gA v 2) (e15 : gB V 15 = gB v 15) (e19 : gB V 19 = gB v 19) (eA : ∀ k, 5 ≤ k → k ≤ 14 → ∀ j, j ≠ 720 * b + (60 * d + g 1 d) → gA V k j = gA v k j)
    (n5 : gA V 5 (720 * b + (60 * d + g 1 d)) = nI (kM kd)) (n6 : gA V 6 (720 * b + (60 * d + g 1 d)) = nI (sM kd nu)) (n10 : gA V 10 (720 * b + (60 * d + g 1 d)) = -1) (n11 : gA V 11 (720 * b + (60 * d + g 1 d)) = -1) (n13 : gA V 13 (720 * b + (60 * d + g 1 d)) = 0) (n14 : gA V 14 (720 * b + (60 * d + g 1 d)) = -1)
    (h3 : kd = 3 → nu ≠ 60 * d + g 1 d ∧ gA V 7 (720 * b + (60 * d + g 1 d)) = nI (720 * b + (L nu).getD 0 0)) : MTb b (addP g d kd nu) (upL L (60 * d + g 1 d) []) (d + 1) V := by
  refine ⟨fun k hk => ?_, fun p hp => ?_⟩
  · rw [e2, e15, addP_o (f := 0) (by decide) (by decide) (by decide) (by decide) (by decide), addP_o (f := 3) (by decide) (by decide) (by decide) (by decide) (by decide)]
    exact hM.1 k hk
  · rw [dm_add (by omega) hn] at hp
    unfold MTp
    simp only [addP_5, addP_6, addP_7, addP_o (f := 8) (show 8 ≠ 1 by decide) (by decide) (by decide) (by decide) (by decide), upL_i]
    by_cases hpe : p = 60 * d + g 1 d
    · rw [if_pos hpe, if_pos hpe, if_pos hpe, if_pos hpe]
      rw [hpe]
      refine ⟨⟨n5, n6⟩, fun _ _ h => absurd h (by simp), fun h => ?_, fun _ _ h => absurd h (by simp), fun _ h => absurd h (by simp), ?_, fun _ => n11, ⟨fun _ => n13, fun _ h => absurd rfl h⟩, n14, fun h => absurd rfl h⟩
      · rw [if_neg (h3 h).1]; exact (h3 h).2
      · rw [cl_nil]; exact n10
    · have hp : dm g (d + 1) p := hp.resolve_right hpe
      obtain ⟨⟨r1, r2⟩, r3, r4, r5, r6, r7, r8, r9, r10, r11⟩ := hM.2 p hp
      rw [if_neg hpe, if_neg hpe, if_neg hpe, if_neg hpe]
      have hne : 720 * b + p ≠ 720 * b + (60 * d + g 1 d) := by omega
      rw [eA 5 (by decide) (by decide) _ hne, eA 6 (by decide) (by decide) _ hne, eA 7 (by decide) (by decide) _ hne, eA 8 (by decide) (by decide) _ hne, eA 9 (by decide) (by decide) _ hne, eA 10 (by decide) (by decide) _ hne, eA 11 (by decide) (by decide) _ hne, eA 12 (by decide) (by decide) _ hne, eA 13 (by decide) (by decide) _ hne, eA 14 (by decide) (by decide) _ hne, e19]
      refine ⟨⟨r1, r2⟩, r3, fun h => ?_, r5, r6, ?_, fun h => r8 (fun q hq => ?_), r9, r10, r11⟩
      · rw [if_neg (dm_ne ((hk p hp).2 h) hn)]; exact r4 h
      · refine Ch_cg r7 (fun x hx => eA 11 (by decide) (by decide) _ ?_)
        have := dm_ne ((hk p hp).1 x (cl_mem hx)) hn
        omega
      · have := h q ((dm_add (by omega) hn).mpr (Or.inl hq))
        rw [upL_i, if_neg (dm_ne hq hn)] at this; exact this
theorem RM_add_o {g : Nat → Nat → Nat} {d kd nu : Nat} {b : Nat} {v : St} (hR : (∀ k, k < d → gA v 3 (12 * b + k) = nI (g 1 k) ∧ gA v 4 (12 * b + k) = nI (720 * b + g 2 k)) ∧ ∀ k, k < g 0 d → gB v 16 k = lN (mN (g 4 k))) : (∀ k, k < d → gA v 3 (12 * b + k) = nI (addP g d kd nu 1 k) ∧ gA v 4 (12 * b + k) = nI (720 * b + addP g d kd nu 2 k)) ∧ ∀ k, k < addP g d kd nu 0 d → gB v 16 k = lN (mN (addP g d kd nu 4 k)) := by
  refine ⟨fun k hk => ?_, fun k hk => ?_⟩
  · rw [addP_1, if_neg (by omega), addP_o (by decide) (by decide) (by decide) (by decide) (by decide)]; exact hR.1 k hk
  · rw [addP_o (by decide) (by decide) (by decide) (by decide) (by decide)] at hk
    rw [addP_o (by decide) (by decide) (by decide) (by decide) (by decide)]; exact hR.2 k hk
/-- a part, and (of a let's name) its first -/
theorem m_partV {t : Nat → Nat} {n : Nat} {v0 v : St} {b : Nat} {g : Nat → Nat → Nat} {L : Nat → List Nat} {d : Nat} {T : List (Nat × Nat)} {vs : List Nat} {ls : List (Nat × Nat)} {bk i : Nat} (h : RM t n v0 b g L d T vs ls bk i v) (hb : b ≤ 1) (hd : d < 12) (hn : g 1 d < 60) {kd nu : Nat} {x1 x2 : Int32} (e1 : x1 = nI (kM kd)) (e2 : x2 = nI (sM kd nu)) {P : Int32 → St → Prop}
    (k : ∀ V : St, TpM V t n → TkM V t n i → FM b v0 V → (gA V 2 = gA v 2 ∧ gB V 15 = gB v 15 ∧ gB V 19 = gB v 19 ∧ (∀ k, 5 ≤ k → k ≤ 14 → ∀ j, j ≠ 720 * b + (60 * d + g 1 d) → gA V k j = gA v k j) ∧ gA V 5 (720 * b + (60 * d + g 1 d)) = nI (kM kd) ∧ gA V 6 (720 * b + (60 * d + g 1 d)) = nI (sM kd nu) ∧ gA V 10 (720 * b + (60 * d + g 1 d)) = -1 ∧ gA V 11 (720 * b + (60 * d + g 1 d)) = -1 ∧ gA V 13 (720 * b + (60 * d + g 1 d)) = 0 ∧ gA V 14 (720 * b + (60 * d + g 1 d)) = -1 ∧ gA V 12 (720 * b + (60 * d + g 1 d)) = nI (tp t n i)) →
      (gI V 2 = nI b ∧ gI V 10 = nI d ∧ gI V 9 = nI (g 1 d + 1) ∧ gI V 13 = 1 ∧ gI V 14 = nI bk) → (gA V 3 = gA v 3 ∧ gA V 4 = gA v 4 ∧ gB V 16 = gB v 16) → (gI V 11 = nI T.length ∧ MS b (gA V 20) (gA V 21) T) → (gI V 12 = nI vs.length ∧ VS b (gA V 22) vs) → (gI V 8 = nI ls.length ∧ LSt b (gB V 17) (gA V 18) ls) → P (nI (720 * b + (60 * d + g 1 d))) V) : wp_X7_part v x1 x2 P := by
  obtain ⟨hT, hK, hF, hM, ⟨h2, h10, h9, h13, h14⟩, hR, hS, hV, hL⟩ := h
  refine br_n ?_ ?_
  · rw [h9]; simp (disch := omega) only [ln_0, ln_1, ln_2, ln_3, ln_4, ln_5, ln_6, ln_7, ln_8, ln_9, ln_10, ln_11, ln_12, ln_13, ln_14, ln_15, ln_16, ln_17, ln_18, ln_19, ln_20, ln_21, ln_22, ln_23, ln_24, ln_25, ln_26, ln_27, ln_28, ln_29, ln_30, ln_31, ln_32, ln_33, ln_34, ln_35, ln_36, ln_37, ln_38, ln_39, ln_40, ln_41, ln_42, ln_43, ln_44, ln_45, ln_46, ln_47, ln_48, ln_49, ln_50, ln_51, ln_52, ln_53, ln_54, ln_55, ln_56, ln_57, ln_58, ln_59, ln_60, ln_61, ln_62, ln_91, ln_93, ln_97, ln_122, ln_120, ln_123, ln_124, ln_255, ln_256, ln_300, ln_720, ln_1500, ln_12000, ln_18000, nI_leI, nI_ltI, nI_eq]; omega
  refine br_n (by rw [h13]; decide) (br_n (by decide) (nm_i (br_n (show ¬ (1 : Int32) = 0 by decide) (nm_i ?_))))
  have ev : (60 * (12 * gI (sI v 13 1) 2 + gI (sI v 13 1) 10)) + gI (sI v 13 1) 9 = nI (720 * b + (60 * d + g 1 d)) := by
    show (nI 60 * (nI 12 * gI v 2 + gI v 10)) + gI v 9 = _
    rw [h2, h10, h9, pk_mul, nI_add, pk_mul, nI_add]; congr 1; omega
  have hin : vp_in (nI (720 * b + (60 * d + g 1 d))) 1440 := inN (by omega) (by decide)
  rw [ev]
  refine ⟨hin, nm_i ⟨hin, nm_i ⟨hin, nm_i ⟨hin, nm_i ⟨hin, nm_i ⟨hin, nm_i ⟨hin, nm_i (nm_i ?_)⟩⟩⟩⟩⟩⟩⟩
  rw [ixN (by omega)]
  have hFF : ∀ (w : St) (kk : Nat) (x : Int32), 5 ≤ kk → kk ≤ 14 → FM b v0 w → FM b v0 (sA w kk (720 * b + (60 * d + g 1 d)) x) := fun w kk x a c hw => hw.a (by omega)
  refine k _ hT hK ?_ ⟨rfl, rfl, rfl, fun kk a c j hj => ?_, ?_, ?_, ?_, ?_, ?_, ?_, ?_⟩ ⟨h2, h10, ?_, rfl, h14⟩ ⟨rfl, rfl, rfl⟩ hS hV hL
  · have h0 : FM b v0 (sI v 13 1) := hF
    exact hFF _ 14 _ (by decide) (by decide) (hFF _ 13 _ (by decide) (by decide) (hFF _ 12 _ (by decide) (by decide) (hFF _ 11 _ (by decide) (by decide) (hFF _ 10 _ (by decide) (by decide) (hFF _ 6 _ (by decide) (by decide) (hFF _ 5 _ (by decide) (by decide) h0))))))
  · have hu : ∀ (f : Nat → Int32) (x : Int32), upd f (720 * b + (60 * d + g 1 d)) x j = f j := fun f x => by rw [updE, if_neg hj]
    have hs : ∀ (w : St) (c : Nat) (x : Int32), gA (sA w c (720 * b + (60 * d + g 1 d)) x) kk j = gA w kk j := fun w c x => by
      rw [gA_sA]; split
      · rw [hu]
      · rfl
    rw [gA_sI, hs, hs, hs, hs, hs, hs, hs]; rfl
  · show upd (gA v 5) _ _ _ = _; rw [updE, if_pos rfl]; exact e1
  · show upd (gA v 6) _ _ _ = _; rw [updE, if_pos rfl]; exact e2
  · show upd (gA v 10) _ _ _ = _; rw [updE, if_pos rfl]
  · show upd (gA v 11) _ _ _ = _; rw [updE, if_pos rfl]
  · show upd (gA v 13) _ _ _ = _; rw [updE, if_pos rfl]
  · show upd (gA v 14) _ _ _ = _; rw [updE, if_pos rfl]
  · show upd (gA v 12) _ (gI v 4) _ = _; rw [updE, if_pos rfl]; exact hK.1
  · show gI v 9 + 1 = _; rw [h9, nI_1]
theorem m_part {t : Nat → Nat} {n : Nat} {v0 v : St} {b : Nat} {g : Nat → Nat → Nat} {L : Nat → List Nat} {d : Nat} {T : List (Nat × Nat)} {vs : List Nat} {ls : List (Nat × Nat)} {bk i : Nat} (h : RM t n v0 b g L d T vs ls bk i v) (hb : b ≤ 1) (hd : d < 12) (hn : g 1 d < 60) (hk : ∀ q, dm g (d + 1) q → (∀ x ∈ L q, dm g (d + 1) x) ∧ (g 5 q = 3 → dm g (d + 1) (g 6 q))) {kd nu : Nat} (h3 : kd ≠ 3) {x1 x2 : Int32} (e1 : x1 = nI (kM kd)) (e2 : x2 = nI (sM kd nu)) {P : Int32 → St → Prop} (k : ∀ V, RM t n v0 b (addP g d kd nu) (upL L (60 * d + g 1 d) []) d T vs ls bk i V → gA V 12 (720 * b + (60 * d + g 1 d)) = nI (tp t n i) → P (nI (720 * b + (60 * d + g 1 d))) V) : wp_X7_part v x1 x2 P := by
  refine m_partV h hb hd hn e1 e2 (fun V a1 a2 a3 ⟨q1, q2, q3, q4, q5, q6, q7, q8, q9, q10, q11⟩ ⟨s1, s2, s3, s4, s5⟩ ⟨w1, w2, w3⟩ a6 a7 a8 => ?_)
  obtain ⟨hT, hK, hF, hM, hN, hR, hS, hV, hL⟩ := h
  refine k V ⟨a1, a2, a3, MT_add hM hn hk q1 q2 q3 q4 q5 q6 q7 q8 q9 q10 (fun h => absurd h h3), ⟨s1, s2, ?_, s4, s5⟩, ?_, a6, a7, a8⟩ q11
  · rw [s3, addP_1, if_pos rfl]
  · have := RM_add_o (kd := kd) (nu := nu) hR
    rw [w1, w2, w3]; exact this
/-- a let's name: a part and its first -/
theorem m_same {t : Nat → Nat} {n : Nat} {v0 v : St} {b : Nat} {g : Nat → Nat → Nat} {L : Nat → List Nat} {d : Nat} {T : List (Nat × Nat)} {vs : List Nat} {ls : List (Nat × Nat)} {bk i : Nat} (h : RM t n v0 b g L d T vs ls bk i v) (hb : b ≤ 1) (hd : d < 12) (hn : g 1 d < 60) (hk : ∀ q, dm g (d + 1) q → (∀ x ∈ L q, dm g (d + 1) x) ∧ (g 5 q = 3 → dm g (d + 1) (g 6 q))) {nu : Nat} (hnu : dm g (d + 1) nu) {P : Int32 → St → Prop} (k : ∀ V, gI V 13 = 1 → LSt b (gB V 17) (gA V 18) ls → RM t n v0 b (addP g d 3 nu) (upL L (60 * d + g 1 d) []) d T vs ls bk i (sA V 7 (720 * b + (60 * d + g 1 d)) (nI (720 * b + (L nu).getD 0 0))) → P (nI (720 * b + (60 * d + g 1 d))) V) : wp_X7_part v 3 0 P := by
  refine m_partV h hb hd hn (kd := 3) (nu := nu) rfl rfl (fun V a1 a2 a3 ⟨q1, q2, q3, q4, q5, q6, q7, q8, q9, q10, q11⟩ ⟨s1, s2, s3, s4, s5⟩ ⟨w1, w2, w3⟩ a6 a7 a8 => ?_)
  obtain ⟨hT, hK, hF, hM, hN, hR, hS, hV, hL⟩ := h
  refine k V s4 a8.2 ⟨a1, a2, a3.a (by omega), MT_add hM hn hk q1 q2 q3 (fun kk c1 c2 j hj => ?_) q5 q6 q7 q8 q9 q10 (fun _ => ⟨dm_ne hnu hn, ?_⟩), ⟨s1, s2, ?_, s4, s5⟩, ?_, a6, a7, a8⟩
  · rw [gA_sA]; split
    · rw [updE, if_neg hj]; exact q4 kk c1 c2 j hj
    · exact q4 kk c1 c2 j hj
  · show upd (gA V 7) _ _ _ = _; rw [updE, if_pos rfl]
  · show gI V 9 = _; rw [s3, addP_1, if_pos rfl]
  · have := RM_add_o (kd := 3) (nu := nu) hR
    show (∀ k, k < d → gA V 3 _ = _ ∧ gA V 4 _ = _) ∧ ∀ k, k < _ → gB V 16 k = _
    rw [w1, w2, w3]; exact this
/-- a child more -/
theorem MT_att {v V : St} {b : Nat} {g : Nat → Nat → Nat} {L : Nat → List Nat} {m : Nat} (hM : MTb b g L m v) {p c : Nat} (hS : ∀ q, dm g m q → g 5 q = 3 → g 6 q = p → L p ≠ [])
    (e2 : gA V 2 = gA v 2) (e15 : gB V 15 = gB v 15) (e19 : gB V 19 = gB v 19) (e5 : gA V 5 = gA v 5) (e6 : gA V 6 = gA v 6) (e12 : gA V 12 = gA v 12) (e14 : gA V 14 = gA v 14) (eA : ∀ k, k = 7 ∨ k = 8 ∨ k = 9 ∨ k = 10 ∨ k = 13 → ∀ q, dm g m q → q ≠ p → gA V k (720 * b + q) = gA v k (720 * b + q))
    (hch : ∀ q, dm g m q → q ≠ p → Ch (gA V 11) (720 * b) (gA v 10 (720 * b + q)) (cl (g 5 q) (L q))) (hfr : ∀ q, dm g m q → free g (upL L p (L p ++ [c])) m q → gA V 11 (720 * b + q) = -1)
    (hp : dm g m p → (g 5 p ≠ 3 → g 5 p ≠ 7 → gA V 7 (720 * b + p) = nI (720 * b + (L p ++ [c]).getD 0 0)) ∧ (g 5 p = 3 → gA V 7 (720 * b + p) = gA v 7 (720 * b + p) ∧ g 6 p ≠ p) ∧ (g 5 p ≠ 7 → g 5 p ≠ 8 → 1 ≤ (L p).length → gA V 8 (720 * b + p) = nI (720 * b + (L p ++ [c]).getD 1 0)) ∧ (g 5 p = 5 → 2 ≤ (L p).length → gA V 9 (720 * b + p) = nI (720 * b + (L p ++ [c]).getD 2 0)) ∧ Ch (gA V 11) (720 * b) (gA V 10 (720 * b + p)) (cl (g 5 p) (L p ++ [c])) ∧ (g 5 p = 7 → gA V 13 (720 * b + p) = nI ((L p).length + 1)) ∧ (g 5 p = 8 → g 7 p ≠ 0 → gA V 13 (720 * b + p) = nI ((L p).length + 2))) : MTb b g (upL L p (L p ++ [c])) m V := by
  refine ⟨fun k hk => by rw [e2, e15]; exact hM.1 k hk, fun q hq => ?_⟩
  obtain ⟨⟨r1, r2⟩, r3, r4, r5, r6, r7, r8, r9, r10, r11⟩ := hM.2 q hq
  have h3 : g 5 q = 3 → g 6 q ≠ q → (upL L p (L p ++ [c]) (g 6 q)).getD 0 0 = (L (g 6 q)).getD 0 0 := fun h _ => by
    rw [upL_i]
    by_cases h6 : g 6 q = p
    · rw [if_pos h6, h6]
      have hne := hS q hq h h6
      cases hl : L p with
      | nil => exact absurd hl hne
      | cons a l => rfl
    · rw [if_neg h6]
  unfold MTp
  rw [e5, e6, e12, e14, e19]
  by_cases hqp : q = p
  · subst hqp
    obtain ⟨p1, p2, p3, p4, p5, p6, p7⟩ := hp hq
    simp only [upL_s, List.length_append, List.length_cons, List.length_nil]
    refine ⟨⟨r1, r2⟩, fun a1 a2 _ => p1 a1 a2, fun h => ?_, fun a1 a2 a3 => p3 a1 a2 (by omega), fun a1 a2 => p4 a1 (by omega), p5, hfr q hq, ⟨p6, p7⟩, r10, r11⟩
    rw [h3 h (p2 h).2, (p2 h).1]; exact r4 h
  · rw [eA 7 (by decide) q hq hqp, eA 8 (by decide) q hq hqp, eA 9 (by decide) q hq hqp, eA 10 (by decide) q hq hqp, eA 13 (by decide) q hq hqp, upL_i, if_neg hqp]
    refine ⟨⟨r1, r2⟩, r3, fun h => ?_, r5, r6, hch q hq hqp, hfr q hq, r9, r10, r11⟩
    by_cases h6 : g 6 q = q
    · rw [upL_i, if_neg (by omega)]; exact r4 h
    · rw [h3 h h6]; exact r4 h
theorem free_mono {g : Nat → Nat → Nat} {L : Nat → List Nat} {m p c q : Nat} (h : free g (upL L p (L p ++ [c])) m q) : free g L m q := fun r hr hx => by
  have := h r hr
  rw [upL_i] at this
  split at this
  · next e => subst e; exact this (List.mem_append_left _ hx)
  · exact this hx
theorem RM_set1 {t : Nat → Nat} {n : Nat} {v0 v : St} {b : Nat} {g : Nat → Nat → Nat} {L : Nat → List Nat} {d : Nat} {T : List (Nat × Nat)} {vs : List Nat} {ls : List (Nat × Nat)} {bk i : Nat} {p c : Nat} (h : RM t n v0 b g L d T vs ls bk i v) (hd : d < 12) (hp : dm g (d + 1) p) (hS : ∀ q, dm g (d + 1) q → g 5 q = 3 → g 6 q = p → L p ≠ []) (h3 : g 5 p ≠ 3) (h7 : g 5 p ≠ 7) (hl : L p = []) (hW : g 5 p = 8 → g 7 p = 0) : RM t n v0 b g (upL L p (L p ++ [c])) d T vs ls bk i (sA v 7 (720 * b + p) (nI (720 * b + c))) := by
  obtain ⟨hT, hK, hF, hM, hN, hR, hSt, hV, hL⟩ := h
  have hp7 := dm_lt hp (by omega)
  refine ⟨hT, hK, hF.a (by omega), MT_att hM hS rfl rfl rfl rfl rfl rfl rfl (fun k hk q hq hqp => ?_) (fun q hq hqp => (hM.2 q hq).2.2.2.2.2.1) (fun q hq hf => (hM.2 q hq).2.2.2.2.2.2.1 (free_mono hf)) (fun _ => ?_), hN, hR, hSt, hV, hL⟩
  · rw [gA_sA]; split
    · rw [updE, if_neg (by omega)]
    · rfl
  · rw [hl]
    refine ⟨fun _ _ => ?_, fun h => absurd h h3, fun _ _ h => absurd h (by simp), fun _ h => absurd h (by simp), ?_, fun h => absurd h h7, fun h1 h2 => absurd (hW h1) h2⟩
    · show upd (gA v 7) _ _ _ = _; rw [updE, if_pos rfl]; rfl
    · have := (hM.2 p hp).2.2.2.2.2.1
      rw [hl, cl_nil] at this
      have e : cl (g 5 p) ([] ++ [c]) = [] := by unfold cl; rw [if_neg h7]; split <;> rfl
      rw [e]; exact this
theorem RM_set2 {t : Nat → Nat} {n : Nat} {v0 v : St} {b : Nat} {g : Nat → Nat → Nat} {L : Nat → List Nat} {d : Nat} {T : List (Nat × Nat)} {vs : List Nat} {ls : List (Nat × Nat)} {bk i : Nat} {p c : Nat} (h : RM t n v0 b g L d T vs ls bk i v) (hd : d < 12) (hp : dm g (d + 1) p) (h3 : g 5 p ≠ 3) (h7 : g 5 p ≠ 7) (h8 : g 5 p ≠ 8) (hl : (L p).length = 1) : RM t n v0 b g (upL L p (L p ++ [c])) d T vs ls bk i (sA v 8 (720 * b + p) (nI (720 * b + c))) := by
  obtain ⟨hT, hK, hF, hM, hN, hR, hSt, hV, hL⟩ := h
  have hp7 := dm_lt hp (by omega)
  have hc : ∀ l, cl (g 5 p) l = [] := fun l => by unfold cl; rw [if_neg h7, if_neg h8]
  refine ⟨hT, hK, hF.a (by omega), MT_att hM (fun q _ _ _ e => by rw [e] at hl; cases hl) rfl rfl rfl rfl rfl rfl rfl (fun k hk q hq hqp => ?_) (fun q hq hqp => (hM.2 q hq).2.2.2.2.2.1) (fun q hq hf => (hM.2 q hq).2.2.2.2.2.2.1 (free_mono hf)) (fun _ => ?_), hN, hR, hSt, hV, hL⟩
  · rw [gA_sA]; split
    · rw [updE, if_neg (by omega)]
    · rfl
  · refine ⟨fun a1 a2 => ?_, fun h => absurd h h3, fun _ _ _ => ?_, fun _ h => by omega, ?_, fun h => absurd h h7, fun h1 h2 => absurd h1 h8⟩
    · rw [gD_l (by omega)]; exact (hM.2 p hp).2.1 a1 a2 (by omega)
    · show upd (gA v 8) _ _ _ = _; rw [updE, if_pos rfl]
      have e := gD_r (l := L p) (c := c)
      rw [hl] at e; rw [e]
    · rw [hc]; have := (hM.2 p hp).2.2.2.2.2.1
      rw [hc] at this; exact this
theorem RM_set3 {t : Nat → Nat} {n : Nat} {v0 v : St} {b : Nat} {g : Nat → Nat → Nat} {L : Nat → List Nat} {d : Nat} {T : List (Nat × Nat)} {vs : List Nat} {ls : List (Nat × Nat)} {bk i : Nat} {p c : Nat} (h : RM t n v0 b g L d T vs ls bk i v) (hd : d < 12) (hp : dm g (d + 1) p) (h5 : g 5 p = 5) (hl : (L p).length = 2) : RM t n v0 b g (upL L p (L p ++ [c])) d T vs ls bk i (sA v 9 (720 * b + p) (nI (720 * b + c))) := by
  obtain ⟨hT, hK, hF, hM, hN, hR, hSt, hV, hL⟩ := h
  have hp7 := dm_lt hp (by omega)
  have hc : ∀ l, cl (g 5 p) l = [] := fun l => by unfold cl; rw [if_neg (by omega), if_neg (by omega)]
  refine ⟨hT, hK, hF.a (by omega), MT_att hM (fun q _ _ _ e => by rw [e] at hl; cases hl) rfl rfl rfl rfl rfl rfl rfl (fun k hk q hq hqp => ?_) (fun q hq hqp => (hM.2 q hq).2.2.2.2.2.1) (fun q hq hf => (hM.2 q hq).2.2.2.2.2.2.1 (free_mono hf)) (fun _ => ?_), hN, hR, hSt, hV, hL⟩
  · rw [gA_sA]; split
    · rw [updE, if_neg (by omega)]
    · rfl
  · refine ⟨fun a1 a2 => ?_, fun h => by omega, fun _ _ _ => ?_, fun _ h => ?_, ?_, fun h => by omega, fun h1 h2 => by omega⟩
    · rw [gD_l (by omega)]; exact (hM.2 p hp).2.1 a1 a2 (by omega)
    · rw [gD_l (by omega)]; exact (hM.2 p hp).2.2.2.1 (by omega) (by omega) (by omega)
    · show upd (gA v 9) _ _ _ = _; rw [updE, if_pos rfl]
      have e := gD_r (l := L p) (c := c)
      rw [hl] at e; rw [e]
    · rw [hc]; have := (hM.2 p hp).2.2.2.2.2.1
      rw [hc] at this; exact this
