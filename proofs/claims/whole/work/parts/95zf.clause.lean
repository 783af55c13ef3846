/-! a clause, and all of them -/
theorem ob_id {α : Type} (x : Option α) : Option.bind x (fun v => some v) = x := by cases x <;> rfl
theorem s_end (N : Nat) (hNB : NB N) {f : Int → Int} {n p : Int} (hf : FN f n) {μX μ0 : Mm} {u : Nat} (hu : 5 < u) (hS0 : PS f n μX μ0 u p p) : ∃ νX, fX4_readEnd N μX = some νX ∧ FX μX νX u ∧ ∀ μM, PS f n μX μM u p p → ∀ rec : Mm → Option (Int × Mm), ∃ νM, (bP (fX9_here N μM) (fun v33 μ34 => if wr v33 = 59 then (fX9_loom_j93 N rec μ34 1) else (fX9_loom_j93 N rec μ34 0))) = rec νM ∧ FM μM νM ∧ ((∃ p', p < p' ∧ PS f n νX νM u p' p') ∨ FT νX νM) := by
  obtain ⟨hTX, -, ⟨hp, -, p0, -, p1⟩, ⟨hF4, hF5, -, -⟩, hTD0⟩ := id hS0
  have hn := hf.2.1
  have hs := sk_b (f := f) p1
  have w1 : ¬ wr (1 : Int) = 0 := by decide
  have w0 : wr (0 : Int) = 0 := by decide
  obtain ⟨ν1, a1, a2, a3, a4⟩ := x_skip N hNB hf hTX hp p0 p1
  have hT1 : TX f n ν1 := hTX.fr (a2 2 (by decide)) (a3 1 (by decide))
  have hlb := ltr_b hf (p := sk f n p) (by omega)
  unfold fX4_readEnd
  rw [a1, ob_s, x_ltr N hf hT1 a4 (by omega) hs.2.1, ob_s, wr_id (a := ltr f n (sk f n p)) (by omega) (by omega), a4]
  by_cases q : ltr f n (sk f n p) = 59
  · have hlt : sk f n p < n := by
      rcases Int.lt_or_le (sk f n p) n with z | z
      · exact z
      · have : ltr f n (sk f n p) = -1 := if_neg (by omega)
        omega
    rw [if_pos q, ob_s]
    refine ⟨_, rfl, ⟨fun x h1 _ => by rw [row_pI h1, a2 x h1], by rw [gI_pI_k (by decide), a3 1 (by decide)]⟩, fun μM hS rec => ?_⟩
    obtain ⟨-, hTM, ⟨-, hq, -, -, -⟩, ⟨-, -, g4, g5⟩, hTD⟩ := id hS
    obtain ⟨νM, c1, c2, c3, c4⟩ := m_here N hNB hf hTM hq p0 p1
    have g16 : gI νM 332 16 = 0 := by rw [c3 16 (by decide), g4]
    rw [c1, bP_s, wr_id (a := ltr f n (sk f n p)) (by omega) (by omega), if_pos q]
    unfold fX9_loom_j93
    rw [c4, p_want1 N w1, g16, if_pos rfl, bP_s, if_neg w1, ob_s, c4]
    refine ⟨_, rfl, ⟨fun x h1 _ _ _ _ => by rw [row_pI h1, c2 x h1], fun k _ _ _ h4 _ _ _ => by rw [gI_pI_k h4, c3 k h4], fun i _ _ => by rw [gZ_pI_a (by decide), gZ_row (c2 335 (by decide))], fun i _ _ => by rw [gZ_pI_a (by decide), gZ_row (c2 337 (by decide))]⟩, Or.inl ⟨sk f n p + 1, by omega, hT1.fr (row_pI (by decide)) (gI_pI_k (by decide)), hTM.fr (by rw [row_pI (by decide), c2 339 (by decide)]) (by rw [gI_pI_k (by decide), c3 13 (by decide)]), ⟨by rw [gI_pI_s, wr_id (by omega) (by omega)], by rw [gI_pI_s, wr_id (by omega) (by omega)], by omega, Int.le_refl _, by omega⟩, ⟨by rw [gI_pI_k (by decide), a3 4 (by decide), hF4], by rw [gI_pI_k (by decide), a3 5 (by decide), hF5], by rw [gI_pI_k (by decide), g16], by rw [gI_pI_k (by decide), c3 17 (by decide), g5]⟩, hTD.o hu (fun x h => by rw [row_pI h, a2 x h]) (fun x h => by rw [row_pI h, c2 x h]) (fun k h1 _ _ _ => by rw [gI_pI_k h1, c3 k h1])⟩⟩
  · rw [if_neg q, x_setF, ob_s]
    obtain ⟨g1, g2, g3, g4'⟩ := setF_g (μ := ν1) (F := 1) (q := sk f n p) (by omega) (by omega)
    refine ⟨_, rfl, FX.o (fun x h => by rw [g1 x h, a2 x h]) (by rw [g2 1 (by decide) (by decide), a3 1 (by decide)]), fun μM hS rec => ?_⟩
    obtain ⟨-, hTM, ⟨-, hq, -, -, -⟩, ⟨-, -, g4, g5⟩, hTD⟩ := id hS
    obtain ⟨νM, c1, c2, c3, c4⟩ := m_here N hNB hf hTM hq p0 p1
    have g16 : gI νM 332 16 = 0 := by rw [c3 16 (by decide), g4]
    obtain ⟨k1, k2, k3, k4⟩ := mF_g (μ := νM) (F := 1) (q := sk f n p) (by omega) (by omega)
    rw [c1, bP_s, wr_id (a := ltr f n (sk f n p)) (by omega) (by omega), if_neg q]
    unfold fX9_loom_j93
    rw [c4, p_want0 N w0 g16 (by decide), bP_s, if_pos w0]
    exact ⟨_, rfl, FM.o (fun x h => by rw [k1 x h, c2 x h]) (fun k h1 h2 h3 h4 => by rw [k2 k h3 h4, c3 k h1]), Or.inr ⟨1, sk f n p, by omega, by omega, g3, g4', k3, k4⟩⟩
/-- behind the reading of one kind of clause: its end -/
theorem s_tail (N : Nat) (hNB : NB N) {f : Int → Int} {n p : Int} (hf : FN f n) {μX νX1 μ1 : Mm} {u : Nat} (hu : 5 < u) (T : Mm → Option Mm) (hS1 : PS f n (pI μX 1 2 (p + 1)) μ1 u (p + 1) (p + 1)) (hX : FX (pI μX 1 2 (p + 1)) νX1 u) (hM : ∀ μM, PS f n (pI μX 1 2 (p + 1)) μM u (p + 1) (p + 1) → ∃ νM, T μM = some νM ∧ FM μM νM ∧ ((∃ p', p + 1 ≤ p' ∧ PS f n νX1 νM u p' p') ∨ FT νX1 νM)) : ∃ νX, fX4_readClause_j129 N νX1 = some νX ∧ FX μX νX u ∧ ∀ μM, PS f n (pI μX 1 2 (p + 1)) μM u (p + 1) (p + 1) → ∀ rec : Mm → Option (Int × Mm), ∃ νM, (Option.bind (T μM) (fun μ30 => if wr (gI μ30 332 16) = 0 then (bP (fX9_here N μ30) (fun v33 μ34 => if wr v33 = 59 then (fX9_loom_j93 N rec μ34 1) else (fX9_loom_j93 N rec μ34 0))) else (rec μ30))) = rec νM ∧ FM μM νM ∧ ((∃ p', p < p' ∧ PS f n νX νM u p' p') ∨ FT νX νM) := by
  have hX0 : FX μX νX1 u := by
    have h : FX μX (pI μX 1 2 (p + 1)) u := ⟨fun x h1 _ => row_pI h1, gI_pI_k (by decide)⟩
    exact h.t hX
  obtain ⟨ν0, t1, t2, t3⟩ := hM μ1 hS1
  unfold fX4_readClause_j129
  rw [wr_gI]
  rcases t3 with ⟨p', q1, q2⟩ | hft
  · have h4 := q2.2.2.2.1.1
    obtain ⟨νX, e1, e2, e3⟩ := s_end N hNB hf hu q2
    rw [if_pos h4, e1, ob_s]
    refine ⟨νX, rfl, hX0.t e2, fun μM hS rec => ?_⟩
    obtain ⟨νM, o1, o2, o3⟩ := hM μM hS
    rcases o3 with ⟨p2, y1, y2⟩ | ⟨F, q, y1, y2, y3, y4, y5, y6⟩
    · have hpp : p2 = p' := by
        have a := y2.2.2.1.1
        have b := q2.2.2.1.1
        omega
      subst hpp
      obtain ⟨νM2, z1, z2, z3⟩ := e3 νM y2 rec
      refine ⟨νM2, ?_, o2.t z2, z3.imp (fun ⟨p3, v1, v2⟩ => ⟨p3, by omega, v2⟩) id⟩
      rw [o1, ob_s, wr_gI, y2.2.2.2.1.2.2.1, if_pos rfl]
      exact z1
    · omega
  · obtain ⟨F, q, y1, y2, y3, y4, y5, y6⟩ := hft
    rw [if_neg (by omega)]
    refine ⟨νX1, rfl, hX0, fun μM hS rec => ?_⟩
    obtain ⟨νM, o1, o2, o3⟩ := hM μM hS
    rcases o3 with ⟨p2, z1, z2⟩ | hft2
    · have := z2.2.2.2.1.1; omega
    · obtain ⟨F2, q2, z1, z2, z3, z4, z5, z6⟩ := id hft2
      refine ⟨νM, ?_, o2, Or.inr hft2⟩
      rw [o1, ob_s, wr_gI, if_neg (by omega)]
def CLQ (N : Nat) (f : Int → Int) (n : Int) (u : Nat) (p : Int) (μX νX : Mm) : Prop := FX μX νX u ∧ ∀ μM, PS f n μX μM u p p → ∀ rec : Mm → Option (Int × Mm), ∃ νM, (Option.bind (fX9_takeClause N μM) (fun μ30 => if wr (gI μ30 332 16) = 0 then (bP (fX9_here N μ30) (fun v33 μ34 => if wr v33 = 59 then (fX9_loom_j93 N rec μ34 1) else (fX9_loom_j93 N rec μ34 0))) else (rec μ30))) = rec νM ∧ FM μM νM ∧ ((∃ p', p < p' ∧ PS f n νX νM u p' p') ∨ FT νX νM)
theorem s_clause (N : Nat) (hNB : NB N) {f : Int → Int} {n p : Int} (hf : FN f n) {μX μ0 : Mm} {u : Nat} (hu : 5 < u) (hu2 : u + 5 < 332) (hS0 : PS f n μX μ0 u p p) (hpn : p < n) (hsp : f p ≠ 32) : ∃ νX, fX4_readClause N u μX = some νX ∧ CLQ N f n u p μX νX := by
  obtain ⟨hTX, -, ⟨hp, -, p0, -, p1⟩, ⟨hF4, hF5, -, -⟩, hTD0⟩ := id hS0
  have hn := hf.2.1
  have hc := hf.2.2 p p0 hpn
  have w1 : ¬ wr (1 : Int) = 0 := by decide
  have w0 : wr (0 : Int) = 0 := by decide
  have hsk : sk f n p = p := sk_i (by omega) (fun _ => hsp)
  have el : ltr f n p = f p := if_pos hpn
  have hlt := x_ltr N hf hTX hp p0 (by omega)
  rw [el] at hlt
  obtain ⟨t1, t2, t3, t4, -⟩ := id hTD0
  have hwc : wr (f p) = f p := wr_id (by omega) (by omega)
  -- the reference up to its word
  have mod : ∀ μM, PS f n μX μM u p p → ∃ μ3 μ4, fX9_takeClause N μM = (if f p = 108 then (fX9_takeClause_j39 N (f p) μ3 μ4 1) else (if gI μX u 5 ≤ 0 then (fX9_takeClause_j39 N (f p) μ3 μ4 0) else (fX9_takeClause_j39 N (f p) μ3 μ4 1))) ∧ gI μ3 332 14 = p ∧ FM μM μ4 ∧ PS f n (pI μX 1 2 (p + 1)) μ4 u (p + 1) (p + 1) := by
    intro μM hS
    obtain ⟨-, hTM, ⟨-, hq, -, -, -⟩, ⟨-, -, g4, g5⟩, hTD⟩ := id hS
    obtain ⟨μ3, c1, c2, c3, c4⟩ := m_here N hNB hf hTM hq p0 (by omega)
    rw [hsk] at c1 c4
    rw [el] at c1
    have e3 : gI (pI μ3 332 14 (p + 1)) 332 3 = gI μX u 5 := by rw [gI_pI_k (by decide), c3 3 (by decide), hTD.1.1]
    refine ⟨μ3, pI μ3 332 14 (p + 1), ?_, c4, ⟨fun x h1 _ _ _ _ => by rw [row_pI h1, c2 x h1], fun k _ _ _ h4 _ _ _ => by rw [gI_pI_k h4, c3 k h4], fun i _ _ => by rw [gZ_pI_a (by decide), gZ_row (c2 335 (by decide))], fun i _ _ => by rw [gZ_pI_a (by decide), gZ_row (c2 337 (by decide))]⟩, hTX.fr (row_pI (by decide)) (gI_pI_k (by decide)), hTM.fr (by rw [row_pI (by decide), c2 339 (by decide)]) (by rw [gI_pI_k (by decide), c3 13 (by decide)]), ⟨by rw [gI_pI_s, wr_id (by omega) (by omega)], by rw [gI_pI_s, wr_id (by omega) (by omega)], by omega, Int.le_refl _, by omega⟩, ⟨by rw [gI_pI_k (by decide), hF4], by rw [gI_pI_k (by decide), hF5], by rw [gI_pI_k (by decide), c3 16 (by decide), g4], by rw [gI_pI_k (by decide), c3 17 (by decide), g5]⟩, hTD.o hu (fun x h => row_pI h) (fun x h => by rw [row_pI h, c2 x h]) (fun k h1 _ _ _ => by rw [gI_pI_k h1, c3 k h1])⟩
    unfold fX9_takeClause
    rw [c1, bP_s, ob_s, c4, hwc, wr_gI, e3]
  obtain ⟨m30, m40, -, -, -, hS1⟩ := mod μ0 hS0
  -- a fault at the word itself
  have flt : ∀ F : Int, (F = 1 ∨ F = 3) → (∀ μM, PS f n μX μM u p p → ∀ μ3 μ4, gI μ3 332 14 = p → FM μM μ4 → PS f n (pI μX 1 2 (p + 1)) μ4 u (p + 1) (p + 1) → fX9_takeClause N μM = (if f p = 108 then (fX9_takeClause_j39 N (f p) μ3 μ4 1) else (if gI μX u 5 ≤ 0 then (fX9_takeClause_j39 N (f p) μ3 μ4 0) else (fX9_takeClause_j39 N (f p) μ3 μ4 1))) → fX9_takeClause N μM = some (pI (pI μ4 332 16 F) 332 17 p)) → ∃ νX, Option.bind (fX4_setFault N F p μX) (fun μ7 => some μ7) = some νX ∧ CLQ N f n u p μX νX := by
    intro F hF hT
    obtain ⟨g1, g2, g3, g4⟩ := setF_g (μ := μX) (F := F) (q := p) (by omega) (by omega)
    refine ⟨_, rfl, FX.o g1 (g2 1 (by decide) (by decide)), fun μM hS rec => ?_⟩
    obtain ⟨μ3, μ4, b1, b2, b3, b4⟩ := mod μM hS
    obtain ⟨k1, k2, k3, k4⟩ := mF_g (μ := μ4) (F := F) (q := p) (by omega) (by omega)
    rw [hT μM hS μ3 μ4 b2 b3 b4 b1, ob_s, wr_gI, k3, if_neg (by omega)]
    exact ⟨_, rfl, b3.t (FM.o k1 (fun k _ _ h3 h4 => k2 k h3 h4)), Or.inr ⟨F, p, by omega, by omega, g3, g4, k3, k4⟩⟩
  -- the kinds that go on
  have go : ∀ (R : Option Mm) (T : Int → Mm → Option Mm), (∃ νX1, R = some νX1 ∧ FX (pI μX 1 2 (p + 1)) νX1 u ∧ ∀ μM, PS f n (pI μX 1 2 (p + 1)) μM u (p + 1) (p + 1) → ∀ w, ∃ νM, T w μM = some νM ∧ FM μM νM ∧ ((∃ p', p + 1 ≤ p' ∧ PS f n νX1 νM u p' p') ∨ FT νX1 νM)) → (∀ μM, PS f n μX μM u p p → ∀ μ3 μ4, gI μ3 332 14 = p → FM μM μ4 → PS f n (pI μX 1 2 (p + 1)) μ4 u (p + 1) (p + 1) → fX9_takeClause N μM = (if f p = 108 then (fX9_takeClause_j39 N (f p) μ3 μ4 1) else (if gI μX u 5 ≤ 0 then (fX9_takeClause_j39 N (f p) μ3 μ4 0) else (fX9_takeClause_j39 N (f p) μ3 μ4 1))) → fX9_takeClause N μM = T p μ4) → ∃ νX, Option.bind R (fun μ21 => fX4_readClause_j129 N μ21) = some νX ∧ CLQ N f n u p μX νX := by
    intro R T hR hT
    obtain ⟨νX1, r1, r2, r3⟩ := hR
    obtain ⟨νX, e1, e2, e3⟩ := s_tail N hNB hf hu (T p) hS1 r2 (fun μM hS => r3 μM hS p)
    rw [r1, ob_s]
    refine ⟨νX, e1, e2, fun μM hS rec => ?_⟩
    obtain ⟨μ3, μ4, b1, b2, b3, b4⟩ := mod μM hS
    obtain ⟨νM, o1, o2, o3⟩ := e3 μ4 b4 rec
    exact ⟨νM, by rw [hT μM hS μ3 μ4 b2 b3 b4 b1]; exact o1, b3.t o2, o3⟩
  have x5 : gI (pI μX 1 2 (p + 1)) u 5 = gI μX u 5 := gI_pI_a (by omega)
  have x6 : gI (pI μX 1 2 (p + 1)) u 6 = gI μX u 6 := gI_pI_a (by omega)
  have x7 : gI (pI μX 1 2 (p + 1)) u 7 = gI μX u 7 := gI_pI_a (by omega)
  unfold fX4_readClause fX4_isWord
  rw [hlt, ob_s, hp]
  simp only [hwc, wr_gI]
  by_cases c108 : f p = 108
  · simp only [if_pos c108, ob_s, if_neg w1]
    by_cases k0 : gI μX u 5 = 0
    · have hot : fX4_isOneTooMany N (f p) u μX = some 0 := by
        unfold fX4_isOneTooMany
        simp only [hwc, wr_gI, c108, k0]
        rfl
      rw [if_pos k0, hot, ob_s, if_pos w0, if_neg (by omega), if_neg (by omega)]
      refine go _ (fun w μ => fX9_takeColours N w μ) (s_col N hNB hf hu hS1 (by rw [x5, k0])) (fun μM hS μ3 μ4 b2 b3 b4 b1 => ?_)
      rw [b1, if_pos c108]
      unfold fX9_takeClause_j39
      rw [b2, p_want1 N w1, b4.2.2.2.1.2.2.1, if_pos rfl, bP_s, if_neg w1, hwc, if_neg (by omega), if_neg (by omega), if_pos c108, ob_id]
    · have hot : fX4_isOneTooMany N (f p) u μX = some 1 := by
        unfold fX4_isOneTooMany
        rw [hwc, wr_gI, if_pos c108, if_pos (by omega)]
      rw [if_neg k0, hot, ob_s, if_neg w1]
      refine flt 3 (Or.inr rfl) (fun μM hS μ3 μ4 b2 b3 b4 b1 => ?_)
      have e3 : gI μ4 332 3 = gI μX u 5 := by rw [← b4.2.2.2.2.1.1, x5]
      rw [b1, if_pos c108]
      unfold fX9_takeClause_j39
      rw [b2, p_want1 N w1, b4.2.2.2.1.2.2.1, if_pos rfl, bP_s, if_neg w1, hwc, if_neg (by omega), if_neg (by omega), if_pos c108, ob_id]
      unfold fX9_takeColours fX9_takeColours_j13
      rw [wr_gI, e3, if_neg k0, p_want0 N w0 b4.2.2.2.1.2.2.1 (by decide), bP_s, if_pos w0]
  · by_cases k0 : gI μX u 5 = 0
    · -- another word first, or none
      have hT : ∀ μM, PS f n μX μM u p p → ∀ μ3 μ4, gI μ3 332 14 = p → FM μM μ4 → PS f n (pI μX 1 2 (p + 1)) μ4 u (p + 1) (p + 1) → fX9_takeClause N μM = (if f p = 108 then (fX9_takeClause_j39 N (f p) μ3 μ4 1) else (if gI μX u 5 ≤ 0 then (fX9_takeClause_j39 N (f p) μ3 μ4 0) else (fX9_takeClause_j39 N (f p) μ3 μ4 1))) → fX9_takeClause N μM = some (pI (pI μ4 332 16 1) 332 17 p) := by
        intro μM hS μ3 μ4 b2 b3 b4 b1
        rw [b1, if_neg c108, if_pos (by omega)]
        unfold fX9_takeClause_j39
        rw [b2, p_want0 N w0 b4.2.2.2.1.2.2.1 (by decide), bP_s, if_pos w0]
      have hfl := flt 1 (Or.inl rfl) hT
      by_cases c99 : f p = 99
      · simp only [if_neg c108, if_pos c99, ob_s, if_neg w1, if_pos k0]
        exact hfl
      · by_cases c107 : f p = 107
        · simp only [if_neg c108, if_neg c99, if_pos c107, ob_s, if_neg w1, if_pos k0]
          exact hfl
        · by_cases c121 : f p = 121
          · simp only [if_neg c108, if_neg c99, if_neg c107, if_pos c121, ob_s, if_neg w1, if_pos k0]
            exact hfl
          · simp only [if_neg c108, if_neg c99, if_neg c107, if_neg c121, ob_s, if_pos w0]
            exact hfl
    · have hj : ∀ μM, PS f n μX μM u p p → ∀ μ3 μ4, gI μ3 332 14 = p → PS f n (pI μX 1 2 (p + 1)) μ4 u (p + 1) (p + 1) → fX9_takeClause N μM = (if f p = 108 then (fX9_takeClause_j39 N (f p) μ3 μ4 1) else (if gI μX u 5 ≤ 0 then (fX9_takeClause_j39 N (f p) μ3 μ4 0) else (fX9_takeClause_j39 N (f p) μ3 μ4 1))) → fX9_takeClause N μM = (if f p = 99 then fX9_takeCard N p μ4 else (if f p = 107 then fX9_takePack N p μ4 else (if f p = 121 then fX9_takeYarn N μ4 else some (pI (pI μ4 332 16 1) 332 17 p)))) := by
        intro μM hS μ3 μ4 b2 b4 b1
        rw [b1, if_neg c108, if_neg (show ¬ gI μX u 5 ≤ 0 by omega)]
        unfold fX9_takeClause_j39
        rw [b2, p_want1 N w1, b4.2.2.2.1.2.2.1, if_pos rfl, bP_s, if_neg w1, hwc, if_neg c108, ob_id, ob_id, ob_id, p_want0 N w0 b4.2.2.2.1.2.2.1 (by decide), bP_s]
      by_cases c99 : f p = 99
      · simp only [if_neg c108, if_pos c99, ob_s, if_neg w1, if_neg k0]
        by_cases h8 : 8 ≤ gI μX u 6
        · have hot : fX4_isOneTooMany N (f p) u μX = some 1 := by
            unfold fX4_isOneTooMany
            simp only [hwc, wr_gI, if_neg c108, if_pos c99, if_pos h8]
          rw [hot, ob_s, if_neg w1]
          refine flt 3 (Or.inr rfl) (fun μM hS μ3 μ4 b2 b3 b4 b1 => ?_)
          have e7 : gI μ4 332 7 = gI μX u 6 := by rw [← b4.2.2.2.2.2.1.1, x6]
          rw [hj μM hS μ3 μ4 b2 b4 b1, if_pos c99]
          unfold fX9_takeCard fX9_takeCard_j15
          rw [wr_gI, e7, if_pos h8, p_want0 N w0 b4.2.2.2.1.2.2.1 (by decide), bP_s, if_pos w0]
        · have hot : fX4_isOneTooMany N (f p) u μX = some 0 := by
            unfold fX4_isOneTooMany
            simp only [hwc, wr_gI, if_neg c108, if_pos c99, if_neg h8, if_neg (show ¬ f p = 107 by omega)]
          rw [hot, ob_s, if_pos w0]
          refine go _ (fun w μ => fX9_takeCard N w μ) (s_card N hNB hf hu hu2 hS1 (by rw [x5]; omega) (by rw [x6]; omega)) (fun μM hS μ3 μ4 b2 b3 b4 b1 => ?_)
          rw [hj μM hS μ3 μ4 b2 b4 b1, if_pos c99]
      · by_cases c107 : f p = 107
        · simp only [if_neg c108, if_neg c99, if_pos c107, ob_s, if_neg w1, if_neg k0]
          by_cases h4 : gI μX u 7 < 4
          · have hot : fX4_isOneTooMany N (f p) u μX = some 0 := by
              unfold fX4_isOneTooMany
              simp only [hwc, wr_gI, if_neg c108, if_neg c99, if_pos c107, if_pos h4]
            rw [hot, ob_s, if_pos w0]
            refine go _ (fun w μ => fX9_takePack N w μ) (s_pack N hNB hf hu hu2 hS1 (by rw [x7]; omega)) (fun μM hS μ3 μ4 b2 b3 b4 b1 => ?_)
            rw [hj μM hS μ3 μ4 b2 b4 b1, if_neg c99, if_pos c107]
          · have hot : fX4_isOneTooMany N (f p) u μX = some 1 := by
              unfold fX4_isOneTooMany
              simp only [hwc, wr_gI, if_neg c108, if_neg c99, if_pos c107, if_neg h4]
            rw [hot, ob_s, if_neg w1]
            refine flt 3 (Or.inr rfl) (fun μM hS μ3 μ4 b2 b3 b4 b1 => ?_)
            have e10 : gI μ4 332 10 = gI μX u 7 := by rw [← b4.2.2.2.2.2.2.1.1, x7]
            rw [hj μM hS μ3 μ4 b2 b4 b1, if_neg c99, if_pos c107]
            unfold fX9_takePack fX9_takePack_j14
            rw [wr_gI, e10, if_pos (by omega), p_want0 N w0 b4.2.2.2.1.2.2.1 (by decide), bP_s, if_pos w0]
        · by_cases c121 : f p = 121
          · have hot : fX4_isOneTooMany N (f p) u μX = some 0 := by
              unfold fX4_isOneTooMany
              simp only [hwc, wr_gI, if_neg c108, if_neg c99, if_neg c107]
            simp only [if_neg c108, if_neg c99, if_neg c107, if_pos c121, ob_s, if_neg w1, if_neg k0, hot, if_pos w0]
            obtain ⟨νX1, r1, r2, r3⟩ := s_yarn N hNB hf hu hS1 (by rw [x5]; omega)
            refine go _ (fun _ μ => fX9_takeYarn N μ) ⟨νX1, r1, r2, fun μM hS _ => r3 μM hS⟩ (fun μM hS μ3 μ4 b2 b3 b4 b1 => ?_)
            rw [hj μM hS μ3 μ4 b2 b4 b1, if_neg c99, if_neg c107, if_pos c121]
          · simp only [if_neg c108, if_neg c99, if_neg c107, if_neg c121, ob_s, if_pos w0]
            refine flt 1 (Or.inl rfl) (fun μM hS μ3 μ4 b2 b3 b4 b1 => ?_)
            rw [hj μM hS μ3 μ4 b2 b4 b1, if_neg c99, if_neg c107, if_neg c121]
theorem x_skipAny (N : Nat) {f : Int → Int} {n : Int} (hf : FN f n) : ∀ (fl : Nat) (μ : Mm), 0 < fl → (0 ≤ gI μ 1 2 → n - gI μ 1 2 < fl) → TX f n μ → ∃ ν, fX4_skipBlanks_l0 N fl μ = some ν ∧ (∀ r, r ≠ 1 → ν r = μ r) ∧ (∀ k, k ≠ 2 → gI ν 1 k = gI μ 1 k) := by
  have hn := hf.2.1
  intro fl
  induction fl with
  | zero => intro μ h; omega
  | succ g ih =>
    intro μ _ hb hT
    rw [fX4_skipBlanks_l0, hT.1, wr_gI, wr_id (a := n) (by have := hf.1; omega) (by omega)]
    by_cases q : n ≤ gI μ 1 2
    · rw [if_pos q]; exact ⟨μ, rfl, fun _ _ => rfl, fun _ _ => rfl⟩
    · rw [if_neg q]
      by_cases z : gI μ 1 2 < 0
      · have hl : fX4_letterHere N μ = some (-1) := by
          unfold fX4_letterHere
          rw [wr_gI, if_pos z]
        rw [hl, ob_s, if_neg (by decide)]
        exact ⟨μ, rfl, fun _ _ => rfl, fun _ _ => rfl⟩
      · rw [x_ltr N hf hT rfl (by omega) (by omega), ob_s]
        by_cases y : wr (ltr f n (gI μ 1 2)) = 32
        · rw [if_pos y, ob_s]
          obtain ⟨ν, g1, g2, g3⟩ := ih (pI μ 1 2 (gI μ 1 2 + 1)) (by omega) (fun _ => by rw [gI_pI_s, wr_id (by omega) (by omega)]; omega) (hT.fr (row_pI (by decide)) (gI_pI_k (by decide)))
          exact ⟨ν, g1, fun r hr => by rw [g2 r hr, row_pI hr], fun k hk => by rw [g3 k hk, gI_pI_k hk]⟩
        · rw [if_neg y]; exact ⟨μ, rfl, fun _ _ => rfl, fun _ _ => rfl⟩
theorem s_loop (N : Nat) (hNB : NB N) {f : Int → Int} {n : Int} (hf : FN f n) {u : Nat} (hu : 5 < u) (hu2 : u + 5 < 332) : ∀ (J fl fm : Nat) (i q : Int) (μX μ0 : Mm), n - q ≤ J → J + 2 ≤ fl → J + 2 ≤ fm → 0 ≤ i → i ≤ q → PS f n μX μ0 u (sk f n q) q → ∃ r νX, fX4_readInto_l25 N u fl i μX = some (r, νX) ∧ FX μX νX u ∧ ∀ μM, PS f n μX μM u (sk f n q) q → ∃ νM, fX9_loom_l53 N fm μM = fX9_loom_k117 N νM ∧ FM μM νM ∧ ((r = 1 ∧ gI νX 1 4 = 0 ∧ gI νX 1 5 = -1 ∧ gI νM 332 16 = 0 ∧ gI νM 332 17 = -1 ∧ TD νX νM u) ∨ (r = 0 ∧ FT νX νM)) := by
  have hn := hf.2.1
  have hN2 : 300 ≤ N := hNB
  intro J
  induction J with
  | zero =>
    intro fl fm i q μX μ0 hJ hfl hfm i0 iq hS0
    obtain ⟨g, rfl⟩ : ∃ g, fl = g + 1 := ⟨fl - 1, by omega⟩
    obtain ⟨gm, rfl⟩ : ∃ gm, fm = gm + 1 := ⟨fm - 1, by omega⟩
    obtain ⟨hTX, -, ⟨hp, -, q0, qp, p1⟩, ⟨hF4, hF5, -, -⟩, hTD0⟩ := id hS0
    have hk : fX4_readInto_k65 N μX = some (1, μX) := by
      unfold fX4_readInto_k65
      rw [wr_gI, if_pos hF4]
    have hx : fX4_readInto_l25 N u (g + 1) i μX = some (1, μX) := by
      rw [fX4_readInto_l25, hTX.1, hp, hk, wr_id (a := n) (by omega) (by omega), wr_id (a := sk f n q) (by omega) (by omega), if_pos (show n ≤ sk f n q by omega)]
      by_cases z : 240 ≤ wr i
      · rw [if_pos z]
      · rw [if_neg z]
    refine ⟨1, μX, hx, FX.r _ _, fun μM hS => ?_⟩
    obtain ⟨-, hTM, ⟨-, hq, -, -, -⟩, ⟨-, -, g4, g5⟩, hTD⟩ := id hS
    obtain ⟨νM, c1, c2, c3, c4⟩ := m_here N hNB hf hTM hq q0 (by omega)
    have el : ltr f n (sk f n q) = -1 := if_neg (by omega)
    rw [fX9_loom_l53, wr_gI, g4, if_pos rfl, c1, bP_s, el, if_pos (by decide)]
    exact ⟨νM, rfl, FM.o c2 (fun k h1 _ _ _ => c3 k h1), Or.inl ⟨rfl, hF4, hF5, by rw [c3 16 (by decide), g4], by rw [c3 17 (by decide), g5], hTD.o hu (fun _ _ => rfl) c2 (fun k h1 _ _ _ => c3 k h1)⟩⟩
  | succ J ih =>
    intro fl fm i q μX μ0 hJ hfl hfm i0 iq hS0
    obtain ⟨g, rfl⟩ : ∃ g, fl = g + 1 := ⟨fl - 1, by omega⟩
    obtain ⟨gm, rfl⟩ : ∃ gm, fm = gm + 1 := ⟨fm - 1, by omega⟩
    obtain ⟨hTX, hTM0, ⟨hp, hq0, q0, qp, p1⟩, ⟨hF4, hF5, g40, g50⟩, hTD0⟩ := id hS0
    -- the reference behind its first look
    have look : ∀ μM, PS f n μX μM u (sk f n q) q → ∃ νM, fX9_here N μM = some (ltr f n (sk f n q), νM) ∧ FM μM νM ∧ PS f n μX νM u (sk f n q) (sk f n q) ∧ TD μX νM u ∧ gI νM 332 16 = 0 ∧ gI νM 332 17 = -1 := by
      intro μM hS
      obtain ⟨-, hTM, ⟨-, hq, -, -, -⟩, ⟨-, -, g4, g5⟩, hTD⟩ := id hS
      obtain ⟨νM, c1, c2, c3, c4⟩ := m_here N hNB hf hTM hq q0 (by omega)
      have hTD2 : TD μX νM u := hTD.o hu (fun _ _ => rfl) c2 (fun k h1 _ _ _ => c3 k h1)
      refine ⟨νM, c1, FM.o c2 (fun k h1 _ _ _ => c3 k h1), ⟨hTX, hTM.fr (c2 339 (by decide)) (c3 13 (by decide)), ⟨hp, c4, by omega, Int.le_refl _, p1⟩, ⟨hF4, hF5, by rw [c3 16 (by decide), g4], by rw [c3 17 (by decide), g5]⟩, hTD2⟩, hTD2, by rw [c3 16 (by decide), g4], by rw [c3 17 (by decide), g5]⟩
    by_cases z : n ≤ sk f n q
    · have hk : fX4_readInto_k65 N μX = some (1, μX) := by
        unfold fX4_readInto_k65
        rw [wr_gI, if_pos hF4]
      have hx : fX4_readInto_l25 N u (g + 1) i μX = some (1, μX) := by
        rw [fX4_readInto_l25, hTX.1, hp, hk, wr_id (a := n) (by omega) (by omega), wr_id (a := sk f n q) (by omega) (by omega), if_pos z]
        by_cases y : 240 ≤ wr i
        · rw [if_pos y]
        · rw [if_neg y]
      refine ⟨1, μX, hx, FX.r _ _, fun μM hS => ?_⟩
      obtain ⟨νM, c1, c2, c3, c4, c5, c6⟩ := look μM hS
      have el : ltr f n (sk f n q) = -1 := if_neg (by omega)
      rw [fX9_loom_l53, wr_gI, hS.2.2.2.1.2.2.1, if_pos rfl, c1, bP_s, el, if_pos (by decide)]
      exact ⟨νM, rfl, c2, Or.inl ⟨rfl, hF4, hF5, c5, c6, c4⟩⟩
    · have hpn : sk f n q < n := by omega
      have hsp := (sk_b (f := f) (show q ≤ n by omega)).2.2 hpn
      have hcp := hf.2.2 (sk f n q) (by omega) hpn
      have el : ltr f n (sk f n q) = f (sk f n q) := if_pos hpn
      obtain ⟨ν0, -, -, hS1, -⟩ := look μ0 hS0
      obtain ⟨νX1, e1, e2, e3⟩ := s_clause N hNB hf hu hu2 hS1 hpn hsp
      obtain ⟨νM0, o1, o2, o3⟩ := e3 ν0 hS1 (fun _ => none)
      -- the class' step
      have hx : fX4_readInto_l25 N u (g + 1) i μX = Option.bind (fX4_skipBlanks N νX1) (fun μ23 => fX4_readInto_l25 N u g (i + 1) μ23) := by
        rw [fX4_readInto_l25, hTX.1, hp, wr_id (a := n) (by omega) (by omega), wr_id (a := sk f n q) (by omega) (by omega), wr_id (a := i) (by omega) (by omega), if_neg (by omega), if_neg z, wr_gI, if_pos hF4, e1, ob_s]
      -- the reference's step
      have hm : ∀ μM, PS f n μX μM u (sk f n q) q → ∃ νM, fX9_loom_l53 N (gm + 1) μM = fX9_loom_l53 N gm νM ∧ FM μM νM ∧ ((∃ p', sk f n q < p' ∧ PS f n νX1 νM u p' p') ∨ FT νX1 νM) := by
        intro μM hS
        obtain ⟨νM, c1, c2, c3, -⟩ := look μM hS
        obtain ⟨νM2, d1, d2, d3⟩ := e3 νM c3 (fX9_loom_l53 N gm)
        refine ⟨νM2, ?_, c2.t d2, d3⟩
        rw [fX9_loom_l53, wr_gI, hS.2.2.2.1.2.2.1, if_pos rfl, c1, bP_s, el, wr_id (a := f (sk f n q)) (by omega) (by omega), if_neg (by omega)]
        exact d1
      rcases o3 with ⟨p', y1, y2⟩ | hft
      · obtain ⟨hT1, hM1, ⟨r1, r2, r3, r4, r5⟩, ⟨s1, s2, s3, s4⟩, hD1⟩ := id y2
        obtain ⟨νX2, k1, k2, k3, k4⟩ := x_skip N hNB hf hT1 r1 r3 r5
        have up : ∀ νM, PS f n νX1 νM u p' p' → PS f n νX2 νM u (sk f n p') p' := fun νM h => ⟨h.1.fr (k2 2 (by decide)) (k3 1 (by decide)), h.2.1, ⟨k4, h.2.2.1.2.1, by omega, (sk_b r5).1, (sk_b r5).2.1⟩, ⟨by rw [k3 4 (by decide)]; exact h.2.2.2.1.1, by rw [k3 5 (by decide)]; exact h.2.2.2.1.2.1, h.2.2.2.1.2.2.1, h.2.2.2.1.2.2.2⟩, h.2.2.2.2.o hu k2 (fun _ _ => rfl) (fun _ _ _ _ _ => rfl)⟩
        obtain ⟨r, νX, t1, t2, t3⟩ := ih g gm (i + 1) p' νX2 νM0 (by omega) (by omega) (by omega) (by omega) (by omega) (up νM0 y2)
        refine ⟨r, νX, by rw [hx, k1, ob_s]; exact t1, (e2.t (FX.o k2 (k3 1 (by decide)))).t t2, fun μM hS => ?_⟩
        obtain ⟨νM, b1, b2, b3⟩ := hm μM hS
        rcases b3 with ⟨p2, v1, v2⟩ | ⟨F, w, v1, v2, v3, v4, v5, v6⟩
        · have hpp : p2 = p' := by
            have a := v2.2.2.1.1
            omega
          subst hpp
          obtain ⟨νM2, w1, w2, w3⟩ := t3 νM (up νM v2)
          exact ⟨νM2, by rw [b1, w1], b2.t w2, w3⟩
        · omega
      · obtain ⟨F, w, v1, v2, v3, v4, v5, v6⟩ := id hft
        have hT1 : TX f n νX1 := hTX.fr (e2.1 2 (by decide) (by omega)) e2.2
        obtain ⟨νX2, k1, k2, k3⟩ := x_skipAny N hf N νX1 (by omega) (fun h => by omega) hT1
        have f4 : gI νX2 1 4 = F := by rw [k3 4 (by decide), v3]
        have hk : fX4_readInto_k65 N νX2 = some (0, νX2) := by
          unfold fX4_readInto_k65
          rw [wr_gI, if_neg (by omega)]
        have hl : fX4_readInto_l25 N u g (i + 1) νX2 = some (0, νX2) := by
          obtain ⟨g', rfl⟩ : ∃ g', g = g' + 1 := ⟨g - 1, by omega⟩
          rw [fX4_readInto_l25, hk, wr_gI νX2 1 4, if_neg (show ¬ gI νX2 1 4 = 0 by omega)]
          by_cases y : 240 ≤ wr (i + 1)
          · rw [if_pos y]
          · rw [if_neg y]
            by_cases y2 : wr (gI νX2 1 1) ≤ wr (gI νX2 1 2)
            · rw [if_pos y2]
            · rw [if_neg y2]
        refine ⟨0, νX2, by rw [hx]; unfold fX4_skipBlanks; rw [k1, ob_s]; exact hl, e2.t (FX.o k2 (k3 1 (by decide))), fun μM hS => ?_⟩
        obtain ⟨νM, b1, b2, b3⟩ := hm μM hS
        rcases b3 with ⟨p2, q1, q2⟩ | hft2
        · have := q2.2.2.2.1.1; omega
        · obtain ⟨F2, w2, z1, z2, z3, z4, z5, z6⟩ := hft2
          obtain ⟨gm', rfl⟩ : ∃ gm', gm = gm' + 1 := ⟨gm - 1, by omega⟩
          refine ⟨νM, ?_, b2, Or.inr ⟨rfl, F2, w2, z1, z2, by rw [k3 4 (by decide), z3], by rw [k3 5 (by decide), z4], z5, z6⟩⟩
          rw [b1, fX9_loom_l53, wr_gI, if_neg (by omega)]
