/-! 66.sim: both together, at a beginning -/
theorem tg2 {g : Nat → Nat → Nat} {L : Nat → List Nat} {i p : Nat} (h5 : g 5 p = 5) (hl : (L p).length = 0) : TgO g L i (2, p) := Or.inl ⟨rfl, h5, hl⟩
theorem tg3 {g : Nat → Nat → Nat} {L : Nat → List Nat} {i p : Nat} (h5 : g 5 p = 5) (hl : (L p).length = 1) : TgO g L i (3, p) := Or.inr (Or.inl ⟨rfl, h5, hl⟩)
theorem tg4 {g : Nat → Nat → Nat} {L : Nat → List Nat} {i p : Nat} (h5 : g 5 p = 5) (hl : (L p).length = 2) : TgO g L i (4, p) := Or.inr (Or.inr (Or.inl ⟨rfl, h5, hl⟩))
theorem tg5 {g : Nat → Nat → Nat} {L : Nat → List Nat} {i p : Nat} (h5 : g 5 p = 6) (hl : (L p).length = 0) (h7 : g 7 p ≠ 0) : TgO g L i (5, p) := Or.inr (Or.inr (Or.inr (Or.inl ⟨rfl, h5, hl, h7⟩)))
theorem tg6 {g : Nat → Nat → Nat} {L : Nat → List Nat} {i p : Nat} (h5 : g 5 p = 6) (hl : (L p).length = 1) (h7 : g 7 p ≠ 0) : TgO g L i (6, p) := Or.inr (Or.inr (Or.inr (Or.inr (Or.inl ⟨rfl, h5, hl, h7⟩))))
theorem tg7 {g : Nat → Nat → Nat} {L : Nat → List Nat} {i p : Nat} (h5 : g 5 p = 7) (h7 : g 7 p ≠ 0) (hl : (L p).length ≤ i) : TgO g L i (7, p) := Or.inr (Or.inr (Or.inr (Or.inr (Or.inr (Or.inl ⟨rfl, h5, h7, hl⟩)))))
theorem tg8 {g : Nat → Nat → Nat} {L : Nat → List Nat} {i p : Nat} (h5 : g 5 p = 8) (hl : (L p).length = 0) (h7 : g 7 p = 0) : TgO g L i (8, p) := Or.inr (Or.inr (Or.inr (Or.inr (Or.inr (Or.inr (Or.inl ⟨rfl, h5, hl, h7⟩))))))
theorem tg9 {g : Nat → Nat → Nat} {L : Nat → List Nat} {i p : Nat} (h5 : g 5 p = 8) (h1 : 1 ≤ (L p).length) (h7 : g 7 p ≠ 0) (hl : (L p).length ≤ i) : TgO g L i (9, p) := Or.inr (Or.inr (Or.inr (Or.inr (Or.inr (Or.inr (Or.inr (Or.inl ⟨rfl, h5, h1, h7, hl⟩)))))))
theorem tg10 {g : Nat → Nat → Nat} {L : Nat → List Nat} {i p : Nat} (h5 : g 5 p = 9) (hl : (L p).length = 1) : TgO g L i (10, p) := Or.inr (Or.inr (Or.inr (Or.inr (Or.inr (Or.inr (Or.inr (Or.inr (Or.inl ⟨rfl, h5, hl⟩))))))))
theorem tg11 {g : Nat → Nat → Nat} {L : Nat → List Nat} {i p : Nat} (h5 : (g 5 p = 60 ∨ g 5 p = 61 ∨ g 5 p = 62)) (hl : (L p).length = 1) : TgO g L i (11, p) := Or.inr (Or.inr (Or.inr (Or.inr (Or.inr (Or.inr (Or.inr (Or.inr (Or.inr (Or.inl ⟨rfl, h5, hl⟩)))))))))
theorem tg12 {g : Nat → Nat → Nat} {L : Nat → List Nat} {i p : Nat} (h5 : (g 5 p = 43 ∨ g 5 p = 45)) (hl : (L p).length = 1) : TgO g L i (12, p) := Or.inr (Or.inr (Or.inr (Or.inr (Or.inr (Or.inr (Or.inr (Or.inr (Or.inr (Or.inr (Or.inl ⟨rfl, h5, hl⟩))))))))))
theorem tg13 {g : Nat → Nat → Nat} {L : Nat → List Nat} {i p : Nat} (h5 : (g 5 p = 42 ∨ g 5 p = 47 ∨ g 5 p = 37)) (hl : (L p).length = 1) : TgO g L i (13, p) := Or.inr (Or.inr (Or.inr (Or.inr (Or.inr (Or.inr (Or.inr (Or.inr (Or.inr (Or.inr (Or.inr (Or.inl ⟨rfl, h5, hl⟩)))))))))))
theorem tg14 {g : Nat → Nat → Nat} {L : Nat → List Nat} {i p : Nat} (h5 : g 5 p = 4) (hl : (L p).length = 0) : TgO g L i (14, p) := Or.inr (Or.inr (Or.inr (Or.inr (Or.inr (Or.inr (Or.inr (Or.inr (Or.inr (Or.inr (Or.inr (Or.inr (⟨rfl, h5, hl⟩))))))))))))
theorem addP_5n {g : Nat → Nat → Nat} {d kd nu : Nat} : addP g d kd nu 5 (60 * d + g 1 d) = kd := by rw [addP_5, if_pos rfl]
theorem addP_6n {g : Nat → Nat → Nat} {d kd nu : Nat} : addP g d kd nu 6 (60 * d + g 1 d) = nu := by rw [addP_6, if_pos rfl]
theorem addP_7n {g : Nat → Nat → Nat} {d kd nu : Nat} : addP g d kd nu 7 (60 * d + g 1 d) = 0 := by rw [addP_7, if_pos rfl]
theorem GIb_of {n : Nat} {g : Nat → Nat → Nat} {L : Nat → List Nat} {d : Nat} {e : Nat × Nat} {l : List (Nat × Nat)} {i : Nat} {X : Prop} (h : GIv n g L d (e :: l) i ∧ X ∧ (e :: l ≠ l → BeO g L d (e :: l))) : GIb n g L d (e :: l) i := ⟨h.1, h.2.2 (fun hc => by have := congrArg List.length hc; simp at this)⟩
theorem GI_push {n : Nat} {g : Nat → Nat → Nat} {L : Nat → List Nat} {d : Nat} {l : List (Nat × Nat)} {i : Nat} (h : GIb n g L d l i) (hn : g 1 d < 60) {kd tag : Nat} (h2 : kd ≠ 2) (h3 : kd ≠ 3) (ht : 2 ≤ tag) (hT : TgO (addP g d kd 0) (upL L (60 * d + g 1 d) []) i (tag, 60 * d + g 1 d)) (hv : 1 ≤ lvT tag → lvT tag ≤ 3 → lvT (hdT l) < lvT tag) (hv2 : tag ≤ 6 → lvT (hdT l) = 0) (ht6 : tag ≠ 6) : GIb n (addP g d kd 0) (upL L (60 * d + g 1 d) []) d ((tag, 60 * d + g 1 d) :: l) i :=
  GIb_of (GI_ext h.1 hn (Ext_add g L d kd 0 []) (Or.inl ⟨upL_s, h.2⟩) (fun e => absurd addP_7n e) (fun e => absurd (addP_5n.symm.trans e) h2) (fun e => absurd (addP_5n.symm.trans e) h3) (Or.inr ⟨tag, rfl, ht, hT, hv, hv2, ht6⟩))
theorem nm_5 {g : Nat → Nat → Nat} {f p a c j : Nat} (h7 : f ≠ 7) (h8 : f ≠ 8) : up (up g 7 p a) 8 p c f j = g f j := by rw [up_f h8, up_f h7]
theorem nm_7 {g : Nat → Nat → Nat} {p a c : Nat} : up (up g 7 p a) 8 p c 7 p = a := by rw [up_f (by decide), up_i, if_pos rfl]
theorem GI_pushN {n : Nat} {g : Nat → Nat → Nat} {L : Nat → List Nat} {d : Nat} {l : List (Nat × Nat)} {i : Nat} (h : GIb n g L d l i) (hn : g 1 d < 60) {kd tag : Nat} (h2 : kd ≠ 2) (h3 : kd ≠ 3) (ht : 2 ≤ tag) {a c : Nat} (ha : NC a) (hc : c ≤ 1500) (hT : TgO (up (up (addP g d kd 0) 7 (60 * d + g 1 d) a) 8 (60 * d + g 1 d) c) (upL L (60 * d + g 1 d) []) i (tag, 60 * d + g 1 d)) (hv : 1 ≤ lvT tag → lvT tag ≤ 3 → lvT (hdT l) < lvT tag) (hv2 : tag ≤ 6 → lvT (hdT l) = 0) (ht6 : tag ≠ 6) : GIb n (up (up (addP g d kd 0) 7 (60 * d + g 1 d) a) 8 (60 * d + g 1 d) c) (upL L (60 * d + g 1 d) []) d ((tag, 60 * d + g 1 d) :: l) i :=
  GIb_of (GI_ext h.1 hn (Ext_named (Ext_add g L d kd 0 []) a c) (Or.inl ⟨upL_s, h.2⟩) (fun _ => ⟨by rw [nm_7]; exact ha, by rw [up_i, if_pos rfl]; exact hc⟩) (fun e => by rw [nm_5 (by decide) (by decide)] at e; exact absurd (addP_5n.symm.trans e) h2) (fun e => by rw [nm_5 (by decide) (by decide)] at e; exact absurd (addP_5n.symm.trans e) h3) (Or.inr ⟨tag, rfl, ht, hT, hv, hv2, ht6⟩))
/-- the class between two definitions -/
def BtC (t : Nat → Nat) (n : Nat) (u0 : St) (g : Nat → Nat → Nat) (L : Nat → List Nat) (m i : Nat) (u : St) : Prop :=
  TpC u t n ∧ TkC u t n i ∧ FC u0 u ∧ CT g L m u ∧ (gI u 12 = nI m ∧ gI u 6 = -1 ∧ gI u 5 = 0) ∧ ∀ k, k < m → gA u 17 k = nI (g 2 k)
/-- class and reference come to the same, whatever is then asked of it -/
def Sim (t : Nat → Nat) (n : Nat) (u0 v0 : St) (b d : Nat) (C : St → Prop) (k : Nat) (M : St → Prop) : Prop :=
  (∃ f, f ≤ n ∧ (∀ P : Int32 → St → Prop, (∀ U, FlC n u0 f U → P (nI f) U) → RunC C k P) ∧ ∀ P : St → Prop, (∀ V, FlM n v0 b f 1000 V → P V) → RunM M P) ∨
  ∃ (g' : Nat → Nat → Nat) (L' : Nat → List Nat) (x la i' k' : Nat), GIv n g' L' d [(0, x)] i' ∧ LaO g' L' d [(0, x)] la ∧ k' ≤ i' ∧ (∀ P : Int32 → St → Prop, (tk t n i' = 59 → RunC (BtC t n u0 (up g' 2 d la) L' (d + 1) (te t n i')) (k' + 1) P) → (tk t n i' ≠ 59 → ∀ U, FlC n u0 (tp t n i') U → P (nI (tp t n i')) U) → RunC C k P) ∧ ∀ P : St → Prop, RunM (RM t n v0 b g' L' d [] [la] [] 0 i') P → RunM M P
theorem Sim.back {t : Nat → Nat} {n : Nat} {u0 v0 : St} {b d : Nat} {C C' M M' : St → Prop} {k k' : Nat} (h : Sim t n u0 v0 b d C' k' M') (hC : ∀ P, RunC C' k' P → RunC C k P) (hM : ∀ P, RunM M' P → RunM M P) : Sim t n u0 v0 b d C k M := by
  rcases h with ⟨f, hf, h1, h2⟩ | ⟨g', L', x, la, i', k2, a1, a2, a3, a4, a5⟩
  · exact Or.inl ⟨f, hf, fun P hP => hC P (h1 P hP), fun P hP => hM P (h2 P hP)⟩
  · exact Or.inr ⟨g', L', x, la, i', k2, a1, a2, a3, fun P p1 p2 => hC P (a4 P p1 p2), fun P p1 => hM P (a5 P p1)⟩
theorem B_ok {t : Nat → Nat} {n : Nat} {u0 : St} {g g' : Nat → Nat → Nat} {L L' : Nat → List Nat} {d : Nat} {l l' : List (Nat × Nat)} {i du' : Nat} (F : Nat → Prop) {k : Nat} (hk : k ≤ i) (hi : i ≤ n) (htk : tk t n i ≠ 0) {P : Int32 → St → Prop} (hs : ∀ (u : St) (du la : Nat) (Q : St → Prop), RC t n u0 g L d l i du la u → (∀ U la', F la' → RC t n u0 g' L' d l' i du' la' U → Q U) → wp_X3_takeBeginning u Q) (hr : RunC (fun u => ∃ la', F la' ∧ RC t n u0 g' L' d l' (te t n i) du' la' u) (k + 1) P) : RunC (BC t n u0 g L d l i) k P :=
  c_okG (F := F) hk hi htk (fun u ⟨du, la, hdu, h⟩ => ⟨du, la, by omega, h, fun Q hQ => c_wpB h hdu (hs u du la Q h hQ)⟩) hr
theorem B_bad {t : Nat → Nat} {n : Nat} {u0 : St} {g : Nat → Nat → Nat} {L : Nat → List Nat} {d : Nat} {l : List (Nat × Nat)} {i : Nat} (hn : n ≤ 1500) {k : Nat} (hk : k ≤ i) (hi : i ≤ n) {P : Int32 → St → Prop} (hs : tk t n i ≠ 0 → ∀ (u : St) (du la : Nat) (Q : St → Prop), RC t n u0 g L d l i du la u → (∀ U, FlC n u0 (tp t n i) U → Q U) → wp_X3_takeBeginning u Q) (hP : ∀ U, FlC n u0 (tp t n i) U → P (nI (tp t n i)) U) : RunC (BC t n u0 g L d l i) k P := by
  have hte := tp_te (t := t) hi
  by_cases htk : tk t n i = 0
  · exact c_earlyG hn hi htk (fun u ⟨du, la, hdu, h⟩ => ⟨du, la, by omega, by omega, h⟩) hP
  · exact c_badG hn (by omega) hk hi htk (fun u ⟨du, la, hdu, h⟩ => ⟨du, la, by omega, h, fun Q hQ => c_wpB h hdu (hs htk u du la Q h hQ)⟩) hP
theorem toB {t : Nat → Nat} {n : Nat} {u0 : St} {g : Nat → Nat → Nat} {L : Nat → List Nat} {d : Nat} {l : List (Nat × Nat)} {i k : Nat} {P : Int32 → St → Prop} (h : RunC (BC t n u0 g L d l i) k P) : RunC (fun u => ∃ la', True ∧ RC t n u0 g L d l i 6 la' u) k P := h.mono (fun u ⟨la, _, hu⟩ => ⟨6, la, Or.inl rfl, hu⟩)
theorem toC {t : Nat → Nat} {n : Nat} {u0 : St} {g : Nat → Nat → Nat} {L : Nat → List Nat} {d : Nat} {l : List (Nat × Nat)} {i la k : Nat} {P : Int32 → St → Prop} (h : RunC (RC t n u0 g L d l i 7 la) k P) : RunC (fun u => ∃ la', la' = la ∧ RC t n u0 g L d l i 7 la' u) k P := h.mono (fun u ⟨la', e, hu⟩ => by rw [← e]; exact hu)
theorem tk_par {t : Nat → Nat} {n j : Nat} (h : parN t n j = true) : tk t n j = 40 := by
  unfold parN at h
  simp only [Bool.and_eq_true, decide_eq_true_eq] at h
  have h1 : tp t n j < n := h.1
  have h2 : t (tp t n j) = 40 := h.2
  unfold tk
  rw [if_pos h1, h2, if_neg (by decide), if_pos (by decide)]
/-- a name that is none: kept, then refused -/
theorem c_keepX {t : Nat → Nat} {n : Nat} {u0 u : St} {g : Nat → Nat → Nat} {L : Nat → List Nat} {d : Nat} {l : List (Nat × Nat)} {i du la : Nat} (h : RC t n u0 g L d l i du la u) {p : Nat} (hp : p < 720) (hk : tk t n i ≠ 2) {x y : Int32} (hx : x = nI p) {Q : St → Prop} (k : ∀ U, FlC n u0 (tp t n i) U → Q U) : wp_X3_keepName u x (fun U => wp_X3_expect U 2 y Q) := by
  subst hx
  obtain ⟨hT, hK, hF, hC, ⟨h12, h1, h6, h5⟩, hla, hR, h2, h3, hS⟩ := h
  have hin : vp_in (nI p) 720 := inN hp (by decide)
  have hle := (tk_le (t := t) (n := n) (i := i)).1
  refine br_n (nI_pos (by omega)) ⟨hin, nm_i ⟨hin, nm_i (br_n ?_ (nm_i (k _ ⟨⟨hF.1, hF.2.1, hF.2.2.1, fun j hj => ?_⟩, hK.1, hT.2.1⟩)))⟩⟩
  · show ¬ gI u 9 = 2
    rw [hK.2.2.1]; simp (disch := omega) only [ln_0, ln_1, ln_2, ln_3, ln_4, ln_5, ln_6, ln_7, ln_8, ln_9, ln_10, ln_11, ln_12, ln_13, ln_14, ln_15, ln_16, ln_17, ln_18, ln_19, ln_20, ln_21, ln_22, ln_23, ln_24, ln_25, ln_26, ln_27, ln_28, ln_29, ln_30, ln_31, ln_32, ln_33, ln_34, ln_35, ln_36, ln_37, ln_38, ln_39, ln_40, ln_41, ln_42, ln_43, ln_44, ln_45, ln_46, ln_47, ln_48, ln_49, ln_50, ln_51, ln_52, ln_53, ln_54, ln_55, ln_56, ln_57, ln_58, ln_59, ln_60, ln_61, ln_62, ln_91, ln_93, ln_97, ln_122, ln_120, ln_123, ln_124, ln_255, ln_256, ln_300, ln_720, ln_1500, ln_12000, ln_18000, nI_leI, nI_ltI, nI_eq]; exact hk
  · rw [← hF.2.2.2 j hj]; simp only [gA_sI, gA_sB, gA_sA, if_neg (show j ≠ 12 by omega)]
