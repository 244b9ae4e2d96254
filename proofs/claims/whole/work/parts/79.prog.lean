/-! 79.prog: the program that was read -/
def mkP (g : Nat → Nat → Nat) (L : Nat → List Nat) (m : Nat) : Prg := (m, g 0, g 1, fun d => g 2 d % 60, fun d p => g 5 (60 * d + p), fun d p => if g 5 (60 * d + p) = 7 ∨ g 5 (60 * d + p) = 8 then nI (tgt g m (60 * d + p)) else nI (g 6 (60 * d + p)), fun d p => (L (60 * d + p)).length, fun d p k => (L (60 * d + p)).getD k 0 % 60)
theorem dm_of {g : Nat → Nat → Nat} {m d p : Nat} (hd : d < m) (h60 : g 1 d ≤ 60) (hp : p < g 1 d) : dm g m (60 * d + p) ∧ (60 * d + p) / 60 = d ∧ (60 * d + p) % 60 = p := by
  have e1 : (60 * d + p) / 60 = d := by omega
  have e2 : (60 * d + p) % 60 = p := by omega
  refine ⟨?_, e1, e2⟩
  unfold dm; rw [e1, e2]; exact ⟨hd, hp⟩
theorem getD_mem {l : List Nat} {k : Nat} (h : k < l.length) : l.getD k 0 ∈ l := by
  rw [List.getD_eq_getElem?_getD, List.getElem?_eq_getElem h]; exact List.getElem_mem h
theorem mk_kid {n : Nat} {g : Nat → Nat → Nat} {L : Nat → List Nat} {m i d p k : Nat} (hD : DIv n g L m i) (hd : d < m) (hp : p < g 1 d) (hk : k < (L (60 * d + p)).length) : (L (60 * d + p)).getD k 0 % 60 < g 1 d ∧ (L (60 * d + p)).getD k 0 = 60 * d + (L (60 * d + p)).getD k 0 % 60 := by
  obtain ⟨h1, h2, h3⟩ := dm_of hd (hD.2.2.1 d hd).2.1 hp
  obtain ⟨c1, c2⟩ := (hD.2.2.2.1.1 _ h1).1 _ (getD_mem hk)
  rw [h2] at c2
  have := c1.2; rw [c2] at this
  exact ⟨this, by omega⟩
theorem mk_WF {n : Nat} {g : Nat → Nat → Nat} {L : Nat → List Nat} {m i : Nat} (hD : DIv n g L m i) (hbad : ∀ p, dm g m p → badc g L m p = false) : WFp (mkP g L m) := by
  obtain ⟨sc, s1, s2, s3⟩ := hD.2.2.2.2.2
  refine ⟨⟨hD.1, ⟨fun d p => (sc (60 * d + p)).map (· % 60), fun d hd => ?_⟩, fun d hd p hp h3 => ?_⟩, fun d hd => ?_⟩
  · have hd : d < m := hd
    obtain ⟨b1, b2, b3, b4, b5⟩ := hD.2.2.1 d hd
    obtain ⟨c1, c2, c3⟩ := b4 hd
    refine ⟨?_, fun p hp => ⟨fun k hk => ?_, fun q h3 hq hnu => ?_⟩⟩
    · show (sc (60 * d + g 2 d % 60)).map _ = []
      rw [show 60 * d + g 2 d % 60 = g 2 d by omega, s3 d hd]; rfl
    · have hp : p < g 1 d := hp
      have hk : k < (L (60 * d + p)).length := hk
      obtain ⟨h1, h2, h3⟩ := dm_of hd b2 hp
      show (sc (60 * d + (L (60 * d + p)).getD k 0 % 60)).map _ = if g 5 (60 * d + p) = 6 ∧ k = 1 then p :: (sc (60 * d + p)).map _ else (sc (60 * d + p)).map _
      rw [← (mk_kid hD hd hp hk).2, s1 _ h1 k hk]
      by_cases c : g 5 (60 * d + p) = 6 ∧ k = 1
      · rw [if_pos c, if_pos c, List.map_cons, h3]
      · rw [if_neg c, if_neg c]
    · have hp : p < g 1 d := hp
      have h3 : g 5 (60 * d + p) = 3 := h3
      obtain ⟨h1, h2, h4⟩ := dm_of hd b2 hp
      have hm := s2 _ h1 h3
      have hq60 : q < 60 := by have : q < g 1 d := hq; omega
      have hnu : (if g 5 (60 * d + p) = 7 ∨ g 5 (60 * d + p) = 8 then nI (tgt g m (60 * d + p)) else nI (g 6 (60 * d + p))) = nI (60 * d + q) := hnu
      rw [if_neg (by omega)] at hnu
      obtain ⟨e1, e2, _⟩ := (hD.2.2.2.1.1 _ h1).2.2.2.2 h3
      have hm12 := hD.1
      have hlt := dm_lt e1 (by omega)
      rw [nI_eq (by omega) (by omega)] at hnu
      rw [hnu] at hm
      exact List.mem_map.mpr ⟨_, hm, by omega⟩
  · have hd : d < m := hd
    have hp : p < g 1 d := hp
    have h3 : g 5 (60 * d + p) ≤ 3 := h3
    obtain ⟨h1, h2, h4⟩ := dm_of hd (hD.2.2.1 d hd).2.1 hp
    show (L (60 * d + p)).length = 0
    rcases hD.2.2.2.2.1 _ h1 with h | h | h | h | h | h | h | h | h | h
    all_goals first | omega | (exfalso; have := h.1; simp at this; omega)
  · have hd : d < m := hd
    obtain ⟨b1, b2, b3, b4, b5⟩ := hD.2.2.1 d hd
    obtain ⟨c1, c2, c3⟩ := b4 hd
    refine ⟨b1, c1, b2, ?_, fun p hp => ?_⟩
    · show g 2 d % 60 < g 1 d
      have := c2.2; rw [c3] at this; exact this
    · have hp : p < g 1 d := hp
      obtain ⟨h1, h2, h4⟩ := dm_of hd b2 hp
      obtain ⟨q1, q2, q3, q4, q5⟩ := hD.2.2.2.1.1 _ h1
      have hcp := hD.2.2.2.2.1 _ h1
      have hbd := hbad _ h1
      have hcall : ∀ {x : Nat}, (g 5 (60 * d + p) = 7 ∨ g 5 (60 * d + p) = 8) → nar g L (60 * d + p) = x → ∃ t, t < m ∧ (if g 5 (60 * d + p) = 7 ∨ g 5 (60 * d + p) = 8 then nI (tgt g m (60 * d + p)) else nI (g 6 (60 * d + p))) = nI t ∧ g 0 t = x := fun {x} hc hx => by
        obtain ⟨e1, e2⟩ := (badc_cl hc).mp hbd
        exact ⟨_, e1, by rw [if_pos hc], by rw [e2, hx]⟩
      have hle : (g 5 (60 * d + p) = 7 ∨ g 5 (60 * d + p) = 8) → nar g L (60 * d + p) ≤ 6 := fun hc => by
        obtain ⟨e1, e2⟩ := (badc_cl hc).mp hbd
        rw [← e2]; exact (hD.2.2.1 _ e1).1
      refine ⟨?_, fun k hk => (mk_kid hD hd hp hk).1, ?_⟩
      · show (L (60 * d + p)).length ≤ 6
        rcases hcp with h | h | h | h | h | h | h | h | h | h
        · omega
        · omega
        · omega
        · omega
        · omega
        · omega
        · have := hle (Or.inl h.1); unfold nar at this; rw [h.1, if_neg (by decide)] at this; exact this
        · have := hle (Or.inr h.1); unfold nar at this; rw [if_pos h.1] at this; omega
        · omega
        · omega
      · rcases hcp with h | h | h | h | h | h | h | h | h | h
        · exact Or.inl h.1
        · refine Or.inr (Or.inl ⟨h.1, g 6 (60 * d + p), ?_, ?_⟩)
          · have := q4 h.1; rw [h2] at this; exact this
          · show (if g 5 (60 * d + p) = 7 ∨ g 5 (60 * d + p) = 8 then _ else _) = _
            rw [if_neg (by omega)]
        · obtain ⟨e1, e2, e3, e4⟩ := q5 h.1
          rw [h2] at e2
          refine Or.inr (Or.inr (Or.inl ⟨h.1, g 6 (60 * d + p) % 60, ?_, ?_, ?_⟩))
          · have := e1.2; rw [e2] at this; exact this
          · show (if g 5 (60 * d + p) = 7 ∨ g 5 (60 * d + p) = 8 then _ else _) = _
            rw [if_neg (by omega)]; congr 1; omega
          · show g 5 (60 * d + g 6 (60 * d + p) % 60) = 6
            rw [show 60 * d + g 6 (60 * d + p) % 60 = g 6 (60 * d + p) by omega]; exact e3
        · exact Or.inr (Or.inr (Or.inr (Or.inl h)))
        · exact Or.inr (Or.inr (Or.inr (Or.inr (Or.inl h))))
        · exact Or.inr (Or.inr (Or.inr (Or.inr (Or.inr (Or.inl h)))))
        · exact Or.inr (Or.inr (Or.inr (Or.inr (Or.inr (Or.inr (Or.inl ⟨h.1, hcall (Or.inl h.1) (by unfold nar; rw [h.1, if_neg (by decide)]; rfl)⟩))))))
        · exact Or.inr (Or.inr (Or.inr (Or.inr (Or.inr (Or.inr (Or.inr (Or.inl ⟨h.1, h.2.1, hcall (Or.inr h.1) (by unfold nar; rw [if_pos h.1]; rfl)⟩)))))))
        · exact Or.inr (Or.inr (Or.inr (Or.inr (Or.inr (Or.inr (Or.inr (Or.inr (Or.inl h))))))))
        · exact Or.inr (Or.inr (Or.inr (Or.inr (Or.inr (Or.inr (Or.inr (Or.inr (Or.inr h))))))))
theorem mk_CP {n : Nat} {u0 u : St} {g : Nat → Nat → Nat} {L : Nat → List Nat} {m i a : Nat} (hD : DIv n g L m i) (hbad : ∀ p, dm g m p → badc g L m p = false) (h : KC n u0 g L m (60 * m) a u) : CP (mkP g L m) (gI u 12) (gA u 15) (gA u 16) (gA u 17) (gA u 18) (gA u 19) (gA u 20) (gA u 21) := by
  obtain ⟨hF, ⟨h12, _⟩, hk, hp⟩ := h
  refine ⟨h12, fun d hd => ?_⟩
  have hd : d < m := hd
  obtain ⟨b1, b2, b3, b4, b5⟩ := hD.2.2.1 d hd
  obtain ⟨c1, c2, c3⟩ := b4 hd
  obtain ⟨k1, k2, k3, k4⟩ := hk d hd
  refine ⟨k1, k2, ?_, fun p hpp => ?_⟩
  · show gA u 17 d = nI (60 * d + g 2 d % 60)
    rw [show 60 * d + g 2 d % 60 = g 2 d by omega]; exact k4
  · have hpp : p < g 1 d := hpp
    obtain ⟨h1, h2, h4⟩ := dm_of hd b2 hpp
    obtain ⟨p1, p2, p3, p4, p5, p6⟩ := hp _ h1
    refine ⟨p1, fun _ => ?_, p4, fun k hk => ?_⟩
    · show gA u 19 (60 * d + p) = if g 5 (60 * d + p) = 7 ∨ g 5 (60 * d + p) = 8 then nI (tgt g m (60 * d + p)) else nI (g 6 (60 * d + p))
      by_cases hc : g 5 (60 * d + p) = 7 ∨ g 5 (60 * d + p) = 8
      · rw [if_pos hc]; exact p3 (by omega) (hbad _ h1) hc
      · rw [if_neg hc]; exact p2 (by omega) (by omega)
    · have hk : k < (L (60 * d + p)).length := hk
      show gA u 21 ((60 * d + p) * 6 + k) = nI (60 * d + (L (60 * d + p)).getD k 0 % 60)
      rw [← (mk_kid hD hd hpp hk).2]
      refine p5 k hk ?_
      have := (mk_WF hD hbad).2 d hd
      have := (this.2.2.2.2 p hpp).1
      have : (L (60 * d + p)).length ≤ 6 := this
      omega
theorem Ch_sh {nx : Nat → Int32} {o d : Nat} : ∀ (l : List Nat) (x : Int32), (∀ e ∈ l, e / 60 = d) → Ch nx o x l → Ch nx (o + 60 * d) x (l.map (· % 60))
  | [], _, _, h => h
  | e :: l, x, hl, h => by
    have he := hl e List.mem_cons_self
    have e1 : o + 60 * d + e % 60 = o + e := by omega
    refine ⟨by rw [e1]; exact h.1, ?_⟩
    rw [e1]; exact Ch_sh l _ (fun y hy => hl y (List.mem_cons_of_mem _ hy)) h.2
theorem map_rg (l : List Nat) (f : Nat → Nat) : (List.range l.length).map (fun k => f (l.getD k 0)) = l.map f := by
  apply List.ext_getElem
  · simp
  · intro k h1 h2
    simp only [List.length_map, List.length_range] at h1
    simp only [List.getElem_map, List.getElem_range]
    rw [List.getD_eq_getElem?_getD, List.getElem?_eq_getElem h1]; rfl
theorem map_rg1 (l : List Nat) (f : Nat → Nat) : (List.range (l.length - 1)).map (fun k => f (l.getD (k + 1) 0)) = (l.drop 1).map f := by
  have := map_rg (l.drop 1) f
  rw [List.length_drop] at this
  rw [← this]
  refine List.map_congr_left (fun k _ => ?_)
  congr 1
  rw [List.getD_eq_getElem?_getD, List.getD_eq_getElem?_getD, List.getElem?_drop, Nat.add_comm]
theorem mk_MP {n : Nat} {v0 v : St} {b : Nat} {g : Nat → Nat → Nat} {L : Nat → List Nat} {m i : Nat} (hb : b ≤ 1) (hD : DIv n g L m i) (hbad : ∀ p, dm g m p → badc g L m p = false) (h : KM n v0 b g L m (60 * m) v) : MP (mkP g L m) b (nI m) (gA v 2) (gA v 3) (gA v 4) (gA v 5) (gA v 6) (gA v 7) (gA v 8) (gA v 9) (gA v 10) (gA v 11) (gA v 14) := by
  obtain ⟨hF, hN, hk, hpt⟩ := h
  refine ⟨hb, rfl, fun d hd => ?_⟩
  have hd : d < m := hd
  obtain ⟨b1, b2, b3, b4, b5⟩ := hD.2.2.1 d hd
  obtain ⟨c1, c2, c3⟩ := b4 hd
  obtain ⟨k1, k2, k3, k4⟩ := hk d hd
  refine ⟨k1, k3, ?_, fun p hpp => ?_⟩
  · show gA v 4 (12 * b + d) = nI (60 * (12 * b + d) + g 2 d % 60)
    rw [show 60 * (12 * b + d) + g 2 d % 60 = 720 * b + g 2 d by omega]; exact k4
  · have hpp : p < g 1 d := hpp
    obtain ⟨h1, h2, h4⟩ := dm_of hd b2 hpp
    obtain ⟨⟨r1, r2⟩, r3, r4, r5, r6, r7, r8, r9, r10, r11⟩ := (hpt _ h1).1
    have r14 := (hpt _ h1).2.1 (by omega) (hbad _ h1)
    have eP : 60 * (12 * b + d) + p = 720 * b + (60 * d + p) := by omega
    have eK : ∀ k, k < (L (60 * d + p)).length → 720 * b + (L (60 * d + p)).getD k 0 = 60 * (12 * b + d) + (L (60 * d + p)).getD k 0 % 60 := fun k hk => by have := (mk_kid hD hd hpp hk).2; omega
    have hcp := hD.2.2.2.2.1 _ h1
    have hkd : ∀ e ∈ L (60 * d + p), e / 60 = d := fun e he => by rw [((hD.2.2.2.1.1 _ h1).1 e he).2, h2]
    have hK1 : g 5 (60 * d + p) ≠ 3 → g 5 (60 * d + p) ≠ 7 → 1 ≤ (L (60 * d + p)).length → gA v 7 (720 * b + (60 * d + p)) = nI (60 * (12 * b + d) + (L (60 * d + p)).getD 0 0 % 60) := fun a c e => by rw [← eK 0 e]; exact r3 a c e
    have hK2 : g 5 (60 * d + p) ≠ 7 → g 5 (60 * d + p) ≠ 8 → 2 ≤ (L (60 * d + p)).length → gA v 8 (720 * b + (60 * d + p)) = nI (60 * (12 * b + d) + (L (60 * d + p)).getD 1 0 % 60) := fun a c e => by rw [← eK 1 e]; exact r5 a c e
    have hK3 : g 5 (60 * d + p) = 5 → 3 ≤ (L (60 * d + p)).length → gA v 9 (720 * b + (60 * d + p)) = nI (60 * (12 * b + d) + (L (60 * d + p)).getD 2 0 % 60) := fun a c => by rw [← eK 2 c]; exact r6 a c
    have r1 : gA v 5 (720 * b + (60 * d + p)) = nI (kM (g 5 (60 * d + p))) := r1
    have r2 : gA v 6 (720 * b + (60 * d + p)) = nI (sM (g 5 (60 * d + p)) (g 6 (60 * d + p))) := r2
    have r7 : Ch (gA v 11) (720 * b) (gA v 10 (720 * b + (60 * d + p))) (cl (g 5 (60 * d + p)) (L (60 * d + p))) := r7
    have hnu : (g 5 (60 * d + p) ≠ 7 ∧ g 5 (60 * d + p) ≠ 8) → gnu (mkP g L m) d p = nI (g 6 (60 * d + p)) := fun hc => by
      show (if g 5 (60 * d + p) = 7 ∨ g 5 (60 * d + p) = 8 then _ else _) = _
      rw [if_neg (by omega)]
    have hnt : (g 5 (60 * d + p) = 7 ∨ g 5 (60 * d + p) = 8) → gnu (mkP g L m) d p = nI (tgt g m (60 * d + p)) := fun hc => by
      show (if g 5 (60 * d + p) = 7 ∨ g 5 (60 * d + p) = 8 then _ else _) = _
      rw [if_pos hc]
    have eo : 60 * (12 * b + d) = 720 * b + 60 * d := by omega
    unfold Cp at hcp
    rw [eP]
    refine ⟨fun h => ?_, fun h => ?_, fun q hql h hq => ?_, fun h => ?_, fun h => ?_, fun h => ?_, fun h => ?_, fun h => ?_, fun h => ?_, fun h => ?_⟩
    · have h : g 5 (60 * d + p) = 1 := h
      rw [hnu (by omega), r1, r2, h]; exact ⟨rfl, rfl⟩
    · have h : g 5 (60 * d + p) = 2 := h
      rw [hnu (by omega), r1, r2, h]; exact ⟨rfl, rfl⟩
    · have h : g 5 (60 * d + p) = 3 := h
      obtain ⟨e1, e2, e3, e4⟩ := (hD.2.2.2.1.1 _ h1).2.2.2.2 h
      rw [h2] at e2
      have hm12 := hD.1
      have hlt := dm_lt e1 (by omega)
      rw [hnu (by omega)] at hq
      have r4 : gA v 7 (720 * b + (60 * d + p)) = nI (720 * b + (L (g 6 (60 * d + p))).getD 0 0) := r4 h
      rw [r1, r4, h]
      refine ⟨rfl, ?_⟩
      have hq60 : q < 60 := by have : q < g 1 d := hql; omega
      rw [nI_eq (by omega) (by omega)] at hq
      show nI (720 * b + (L (g 6 (60 * d + p))).getD 0 0) = nI (60 * (12 * b + d) + (L (60 * d + q)).getD 0 0 % 60)
      rw [hq] at e4 ⊢
      have hlen : 0 < (L (60 * d + q)).length := List.length_pos_iff.mpr e4
      have := (mk_kid hD hd (show q < g 1 d from hql) hlen).2
      congr 1; omega
    · have h : g 5 (60 * d + p) = 4 := h
      rw [h] at hcp; simp at hcp
      rw [r1, hK1 (by omega) (by omega) (by omega), h]; exact ⟨rfl, rfl⟩
    · have h : g 5 (60 * d + p) = 5 := h
      rw [h] at hcp; simp at hcp
      rw [r1, hK1 (by omega) (by omega) (by omega), hK2 (by omega) (by omega) (by omega), hK3 h (by omega), h]; exact ⟨rfl, rfl, rfl, rfl⟩
    · have h : g 5 (60 * d + p) = 6 := h
      rw [h] at hcp; simp at hcp
      rw [r1, hK1 (by omega) (by omega) (by omega), hK2 (by omega) (by omega) (by omega), h]; exact ⟨rfl, rfl, rfl⟩
    · have h : g 5 (60 * d + p) = 7 := h
      rw [hnt (Or.inl h), r1, r14 (Or.inl h), h, eo]
      refine ⟨rfl, rfl, ?_⟩
      show Ch _ _ _ ((List.range (L (60 * d + p)).length).map (fun k => (L (60 * d + p)).getD k 0 % 60))
      rw [map_rg (L (60 * d + p)) (· % 60)]
      refine Ch_sh _ _ hkd ?_
      unfold cl at r7; rw [if_pos h] at r7; exact r7
    · have h : g 5 (60 * d + p) = 8 := h
      have h1' : 1 ≤ (L (60 * d + p)).length := by rw [h] at hcp; simp at hcp; omega
      rw [hnt (Or.inr h), r1, r14 (Or.inr h), hK1 (by omega) (by omega) h1', h, eo]
      refine ⟨rfl, rfl, rfl, ?_⟩
      show Ch _ _ _ ((List.range ((L (60 * d + p)).length - 1)).map (fun k => (L (60 * d + p)).getD (k + 1) 0 % 60))
      rw [map_rg1 (L (60 * d + p)) (· % 60)]
      refine Ch_sh _ _ (fun e he => hkd e (List.mem_of_mem_drop he)) ?_
      unfold cl at r7; rw [if_neg (by omega), if_pos h] at r7; exact r7
    · have h : g 5 (60 * d + p) = 9 := h
      rw [h] at hcp; simp at hcp
      rw [r1, hK1 (by omega) (by omega) (by omega), hK2 (by omega) (by omega) (by omega), h]; exact ⟨rfl, rfl, rfl⟩
    · have h : g 5 (60 * d + p) ∈ [43, 45, 42, 47, 37, 60, 62, 61] := h
      have h10 : 10 ≤ g 5 (60 * d + p) := by simp at h; omega
      have hl2 : (L (60 * d + p)).length = 2 := by
        rcases hcp with h | h | h | h | h | h | h | h | h | h <;> first | omega | exact h.2
      rw [r1, r2, hK1 (by omega) (by omega) (by omega), hK2 (by omega) (by omega) (by omega), (kM_10 h10).1]
      refine ⟨rfl, ?_, rfl, rfl⟩
      show nI (sM (g 5 (60 * d + p)) (g 6 (60 * d + p))) = nI (g 5 (60 * d + p))
      unfold sM; rw [if_neg (by omega), if_neg (by omega)]
