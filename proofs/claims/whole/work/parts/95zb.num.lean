/-! readNumber, takeIn -/
theorem x_setF (N : Nat) (F q : Int) (μ : Mm) : fX4_setFault N F q μ = some (pI (pI μ 1 4 F) 1 5 q) := rfl
theorem setF_g {μ : Mm} {F q : Int} (hF : -100 ≤ F ∧ F ≤ 100) (hq : -100 ≤ q ∧ q ≤ 1000) : (∀ x, x ≠ 1 → (pI (pI μ 1 4 F) 1 5 q) x = μ x) ∧ (∀ k, k ≠ 4 → k ≠ 5 → gI (pI (pI μ 1 4 F) 1 5 q) 1 k = gI μ 1 k) ∧ gI (pI (pI μ 1 4 F) 1 5 q) 1 4 = F ∧ gI (pI (pI μ 1 4 F) 1 5 q) 1 5 = q := by
  refine ⟨fun x hx => by rw [row_pI hx, row_pI hx], fun k h4 h5 => by rw [gI_pI_k h5, gI_pI_k h4], ?_, ?_⟩
  · rw [gI_pI_k (by decide), gI_pI_s, wr_id (by omega) (by omega)]
  · rw [gI_pI_s, wr_id (by omega) (by omega)]
theorem x_read (N : Nat) (hNB : NB N) {f : Int → Int} {n p lo hi : Int} (hf : FN f n) {μ : Mm} (hT : TX f n μ) (hp : gI μ 1 2 = p) (h0 : 0 ≤ p) (h1 : p ≤ n) (hlo : 0 ≤ lo ∧ lo ≤ 1000) (hhi : -1 ≤ hi ∧ hi ≤ 1000) : ∃ r ν, fX4_readNumber N lo hi μ = some (r, ν) ∧ (∀ x, x ≠ 1 → ν x = μ x) ∧ gI ν 1 1 = gI μ 1 1 ∧ ((rdF f n p lo hi = 0 ∧ r = rdV f n p ∧ 0 ≤ r ∧ r ≤ 999 ∧ lo ≤ r ∧ r ≤ hi ∧ gI ν 1 2 = rdE f n p ∧ gI ν 1 3 = rdP f n p ∧ gI ν 1 4 = gI μ 1 4 ∧ gI ν 1 5 = gI μ 1 5) ∨ ((rdF f n p lo hi = 1 ∨ rdF f n p lo hi = 2) ∧ r = -1 ∧ gI ν 1 4 = rdF f n p lo hi ∧ gI ν 1 5 = rdP f n p)) := by
  have hN2 : 300 ≤ N := hNB
  have hn := hf.2.1
  have hs := sk_b (f := f) h1
  have hb := rd_b hf h0 h1
  obtain ⟨ν1, a1, a2, a3, a4⟩ := x_skip N hNB hf hT hp h0 h1
  have hT1 : TX f n ν1 := ⟨by rw [a3 1 (by decide)]; exact hT.1, fun i x y => by rw [gZ_row (a2 2 (by decide))]; exact hT.2 i x y⟩
  have hlb := ltr_b hf (p := sk f n p) (by omega)
  unfold fX4_readNumber
  rw [a1, ob_s, x_ltr N hf hT1 a4 (by omega) hs.2.1, ob_s, x_fgr N hlb ν1, ob_s]
  by_cases q : 48 ≤ ltr f n (sk f n p) ∧ ltr f n (sk f n p) ≤ 57
  · rw [if_pos q, if_neg (show ¬ wr (1 : Int) = 0 by decide), ob_s, a4]
    obtain ⟨ν3, d1, d2, d3, d4⟩ := x_dg N (lo := lo) (hi := hi) hf (q0 := sk f n p) (by omega) (n - sk f n p).toNat N 0 (sk f n p) (pI ν1 1 3 (sk f n p)) (by omega) (by omega) (by omega) ⟨by rw [gI_pI_k (by decide)]; exact hT1.1, fun i x y => by rw [gZ_pI_a (by decide)]; exact hT1.2 i x y⟩ (by rw [gI_pI_k (by decide)]; exact a4) (by rw [gI_pI_s, wr_id (by omega) (by omega)])
    have d1' : fX4_readNumber_l35 N lo hi N 0 (pI ν1 1 3 (sk f n p)) = fX4_readNumber_k95 N lo hi (vlN f (sk f n p) (if rdE f n p - sk f n p ≤ 3 then (rdE f n p - sk f n p).toNat else 3)) ν3 := d1
    have d4' : gI ν3 1 2 = rdE f n p := d4
    have r3 : ∀ x, x ≠ 1 → ν3 x = μ x := fun x hx => by rw [d2 x hx, row_pI hx, a2 x hx]
    have f1 : gI ν3 1 1 = gI μ 1 1 := by rw [d3 1 (by decide), gI_pI_k (by decide), a3 1 (by decide)]
    have f3 : gI ν3 1 3 = sk f n p := by rw [d3 3 (by decide), gI_pI_s, wr_id (by omega) (by omega)]
    have f4 : gI ν3 1 4 = gI μ 1 4 := by rw [d3 4 (by decide), gI_pI_k (by decide), a3 4 (by decide)]
    have f5 : gI ν3 1 5 = gI μ 1 5 := by rw [d3 5 (by decide), gI_pI_k (by decide), a3 5 (by decide)]
    have hq := hb.2.2.2.1 q
    have hE := hb.2.2.1
    have hPq : rdP f n p = sk f n p := rfl
    rw [d1']
    unfold fX4_readNumber_k95
    rw [d4', f3, wr_id (a := rdE f n p - sk f n p) (by omega) (by omega)]
    have flt : (¬ (rdE f n p - sk f n p ≤ 3 ∧ lo ≤ rdV f n p ∧ rdV f n p ≤ hi)) → ∃ r ν, Option.bind (fX4_setFault N 2 (sk f n p) ν3) (fun μ15 => some ((-1 : Int), μ15)) = some (r, ν) ∧ (∀ x, x ≠ 1 → ν x = μ x) ∧ gI ν 1 1 = gI μ 1 1 ∧ ((rdF f n p lo hi = 0 ∧ r = rdV f n p ∧ 0 ≤ r ∧ r ≤ 999 ∧ lo ≤ r ∧ r ≤ hi ∧ gI ν 1 2 = rdE f n p ∧ gI ν 1 3 = rdP f n p ∧ gI ν 1 4 = gI μ 1 4 ∧ gI ν 1 5 = gI μ 1 5) ∨ ((rdF f n p lo hi = 1 ∨ rdF f n p lo hi = 2) ∧ r = -1 ∧ gI ν 1 4 = rdF f n p lo hi ∧ gI ν 1 5 = rdP f n p)) := by
      intro h
      have e : rdF f n p lo hi = 2 := by unfold rdF; rw [if_pos q, if_neg h]
      obtain ⟨g1, g2, g3, g4⟩ := setF_g (μ := ν3) (F := 2) (q := sk f n p) (by omega) (by omega)
      refine ⟨-1, _, rfl, fun x hx => by rw [g1 x hx, r3 x hx], by rw [g2 1 (by decide) (by decide), f1], Or.inr ⟨Or.inr e, rfl, by rw [e, g3], g4⟩⟩
    by_cases z : rdE f n p - sk f n p ≤ 3
    · have hv := hb.2.2.2.2 z
      rw [if_neg (show ¬ 3 < rdE f n p - sk f n p by omega), if_pos z, show vlN f (sk f n p) (rdE f n p - sk f n p).toNat = rdV f n p from rfl, wr_id (a := rdV f n p) (by omega) (by omega), wr_id (a := lo) (by omega) (by omega), wr_id (a := hi) (by omega) (by omega)]
      by_cases y1 : rdV f n p < lo
      · rw [if_pos y1]; exact flt (by omega)
      · rw [if_neg y1]
        by_cases y2 : rdV f n p ≤ hi
        · rw [if_pos y2]
          refine ⟨rdV f n p, ν3, rfl, r3, f1, Or.inl ⟨?_, rfl, hv.1, hv.2, by omega, y2, d4', f3, f4, f5⟩⟩
          unfold rdF
          rw [if_pos q, if_pos ⟨z, by omega, y2⟩]
        · rw [if_neg y2]; exact flt (by omega)
    · rw [if_pos (show 3 < rdE f n p - sk f n p by omega)]
      exact flt (by omega)
  · have e : rdF f n p lo hi = 1 := by unfold rdF; rw [if_neg q]
    obtain ⟨g1, g2, g3, g4⟩ := setF_g (μ := ν1) (F := 1) (q := sk f n p) (by omega) (by omega)
    rw [if_neg q, if_pos (show wr (0 : Int) = 0 by decide), a4]
    refine ⟨-1, _, rfl, fun x hx => by rw [g1 x hx, a2 x hx], by rw [g2 1 (by decide) (by decide), a3 1 (by decide)], Or.inr ⟨Or.inl e, rfl, by rw [e, g3], g4⟩⟩
theorem p_want1 (N : Nat) {y1 y2 y3 : Int} {μ : Mm} (h : ¬ wr y1 = 0) : fX9_want N y1 y2 y3 μ = some (if gI μ 332 16 = 0 then 1 else 0, μ) := by
  unfold fX9_want fX9_want_j21
  rw [if_neg h, wr_gI]
  by_cases q : gI μ 332 16 = 0
  · rw [if_pos q, if_pos q]
  · rw [if_neg q, if_neg q]
theorem p_want0 (N : Nat) {y1 y2 y3 : Int} {μ : Mm} (h : wr y1 = 0) (hF : gI μ 332 16 = 0) (h2 : 0 < y2 ∧ y2 < 100) : fX9_want N y1 y2 y3 μ = some (0, pI (pI μ 332 16 y2) 332 17 y3) := by
  unfold fX9_want fX9_want_j21
  rw [if_pos h, wr_gI, if_pos hF, ob_s, ob_s, gI_pI_k (by decide), gI_pI_s, wr_wr, wr_id (by omega) (by omega), if_neg (by omega)]
theorem p_wantF (N : Nat) {y1 y2 y3 : Int} {μ : Mm} (hF : ¬ gI μ 332 16 = 0) : fX9_want N y1 y2 y3 μ = some (0, μ) := by
  unfold fX9_want fX9_want_j21
  rw [wr_gI, if_neg hF, if_neg hF]
  by_cases h : wr y1 = 0
  · rw [if_pos h]
  · rw [if_neg h]
theorem m_takeF (N : Nat) {lo hi : Int} {μ : Mm} (hF : 0 < gI μ 332 16) : fX9_takeIn N lo hi μ = some (0, μ) := by
  unfold fX9_takeIn fX9_takeNumber fX9_takeIn_j30
  rw [wr_gI, if_neg (by omega), bP_s, wr_gI, if_pos hF, p_wantF N (by omega), bP_s, wr_gI, if_neg (by omega)]
theorem mF_g {μ : Mm} {F q : Int} (hF : -100 ≤ F ∧ F ≤ 100) (hq : -100 ≤ q ∧ q ≤ 1000) : (∀ x, x ≠ 332 → (pI (pI μ 332 16 F) 332 17 q) x = μ x) ∧ (∀ k, k ≠ 16 → k ≠ 17 → gI (pI (pI μ 332 16 F) 332 17 q) 332 k = gI μ 332 k) ∧ gI (pI (pI μ 332 16 F) 332 17 q) 332 16 = F ∧ gI (pI (pI μ 332 16 F) 332 17 q) 332 17 = q := by
  refine ⟨fun x hx => by rw [row_pI hx, row_pI hx], fun k h4 h5 => by rw [gI_pI_k h5, gI_pI_k h4], ?_, ?_⟩
  · rw [gI_pI_k (by decide), gI_pI_s, wr_id (by omega) (by omega)]
  · rw [gI_pI_s, wr_id (by omega) (by omega)]
theorem m_take (N : Nat) (hNB : NB N) {f : Int → Int} {n p lo hi : Int} (hf : FN f n) {μ : Mm} (hT : TM f n μ) (hp : gI μ 332 14 = p) (h0 : 0 ≤ p) (h1 : p ≤ n) (hlo : 0 ≤ lo ∧ lo ≤ 1000) (hhi : -1 ≤ hi ∧ hi ≤ 1000) (hF : gI μ 332 16 = 0) : ∃ r ν, fX9_takeIn N lo hi μ = some (r, ν) ∧ (∀ x, x ≠ 332 → ν x = μ x) ∧ (∀ k, k ≠ 14 → k ≠ 15 → k ≠ 16 → k ≠ 17 → gI ν 332 k = gI μ 332 k) ∧ gI ν 332 15 = rdP f n p ∧ ((rdF f n p lo hi = 0 ∧ r = rdV f n p ∧ gI ν 332 14 = rdE f n p ∧ gI ν 332 16 = 0 ∧ gI ν 332 17 = gI μ 332 17) ∨ ((rdF f n p lo hi = 1 ∨ rdF f n p lo hi = 2) ∧ r = 0 ∧ gI ν 332 16 = rdF f n p lo hi ∧ gI ν 332 17 = rdP f n p)) := by
  have hN2 : 300 ≤ N := hNB
  have hn := hf.2.1
  have hs := sk_b (f := f) h1
  have hb := rd_b hf h0 h1
  obtain ⟨ν1, a1, a2, a3, a4⟩ := m_here N hNB hf hT hp h0 h1
  have hT1 : TM f n ν1 := ⟨by rw [a3 13 (by decide)]; exact hT.1, fun i x y => by rw [gZ_row (a2 339 (by decide))]; exact hT.2 i x y⟩
  have hlb := ltr_b hf (p := sk f n p) (by omega)
  have hPq : rdP f n p = sk f n p := rfl
  have w1 : ¬ wr (1 : Int) = 0 := by decide
  have w0 : wr (0 : Int) = 0 := by decide
  unfold fX9_takeIn fX9_takeNumber
  rw [wr_gI, hF, if_pos (by decide), a1, bP_s, ob_s, a4, wr_id (a := ltr f n (sk f n p)) (by omega) (by omega), p_in N _ 48 57 _ (by omega) (by omega) (by omega), ob_s]
  have b16 : gI (pI ν1 332 15 (sk f n p)) 332 16 = 0 := by rw [gI_pI_k (by decide), a3 16 (by decide), hF]
  have b14 : gI (pI ν1 332 15 (sk f n p)) 332 14 = sk f n p := by rw [gI_pI_k (by decide), a4]
  have b15 : gI (pI ν1 332 15 (sk f n p)) 332 15 = sk f n p := by rw [gI_pI_s, wr_id (by omega) (by omega)]
  by_cases q : 48 ≤ ltr f n (sk f n p) ∧ ltr f n (sk f n p) ≤ 57
  · obtain ⟨ν3, v, d1, d2, d3, d4, d5⟩ := m_dg N hf (q0 := sk f n p) (by omega) (n - sk f n p).toNat N 0 (sk f n p) 0 (pI ν1 332 15 (sk f n p)) (by omega) (by omega) (by omega) ⟨by rw [gI_pI_k (by decide)]; exact hT1.1, fun i x y => by rw [gZ_pI_a (by decide)]; exact hT1.2 i x y⟩ b14 (fun i x y => by omega) (fun _ => rfl)
    have d4' : gI ν3 332 14 = rdE f n p := d4
    have d5' : rdE f n p - sk f n p ≤ 3 → v = rdV f n p := d5
    have r3 : ∀ x, x ≠ 332 → ν3 x = μ x := fun x hx => by rw [d2 x hx, row_pI hx, a2 x hx]
    have k3 : ∀ k, k ≠ 14 → k ≠ 15 → gI ν3 332 k = gI μ 332 k := fun k h1 h2 => by rw [d3 k h1, gI_pI_k h2, a3 k h1]
    have f15 : gI ν3 332 15 = sk f n p := by rw [d3 15 (by decide), b15]
    have f16 : gI ν3 332 16 = 0 := by rw [k3 16 (by decide) (by decide), hF]
    have hq := hb.2.2.2.1 q
    have hE := hb.2.2.1
    rw [if_pos q, p_want1 N w1, b16, if_pos rfl, bP_s, if_neg w1, d1]
    unfold fX9_takeNumber_k123 fX9_takeNumber_j142 fX9_takeIn_j30
    rw [d4', f15, wr_id (a := rdE f n p - sk f n p) (by omega) (by omega)]
    have flt : ∀ ν4 : Mm, (∀ x, x ≠ 332 → ν4 x = μ x) → (∀ k, k ≠ 14 → k ≠ 15 → gI ν4 332 k = gI μ 332 k) → gI ν4 332 15 = sk f n p → (¬ (rdE f n p - sk f n p ≤ 3 ∧ lo ≤ rdV f n p ∧ rdV f n p ≤ hi)) → (∀ x, x ≠ 332 → (pI (pI ν4 332 16 2) 332 17 (sk f n p)) x = μ x) ∧ (∀ k, k ≠ 14 → k ≠ 15 → k ≠ 16 → k ≠ 17 → gI (pI (pI ν4 332 16 2) 332 17 (sk f n p)) 332 k = gI μ 332 k) ∧ gI (pI (pI ν4 332 16 2) 332 17 (sk f n p)) 332 15 = rdP f n p ∧ gI (pI (pI ν4 332 16 2) 332 17 (sk f n p)) 332 16 = 2 ∧ rdF f n p lo hi = 2 ∧ gI (pI (pI ν4 332 16 2) 332 17 (sk f n p)) 332 17 = rdP f n p := by
      intro ν4 h1 h2 h3 h4
      obtain ⟨g1, g2, g3, g4⟩ := mF_g (μ := ν4) (F := 2) (q := sk f n p) (by omega) (by omega)
      refine ⟨fun x hx => by rw [g1 x hx, h1 x hx], fun k y1 y2 y3 y4 => by rw [g2 k y3 y4, h2 k y1 y2], by rw [g2 15 (by decide) (by decide), h3, hPq], g3, ?_, g4⟩
      unfold rdF
      rw [if_pos q, if_neg h4]
    by_cases z : rdE f n p - sk f n p ≤ 3
    · have hv := hb.2.2.2.2 z
      rw [if_neg (show ¬ 4 ≤ rdE f n p - sk f n p by omega), p_want1 N w1, f16, if_pos rfl, bP_s, bP_s, wr_gI, f16, if_neg (by decide), d5' z, wr_id (a := rdV f n p) (by omega) (by omega), wr_id (a := lo) (by omega) (by omega), wr_id (a := hi) (by omega) (by omega), p_in N _ lo hi _ (by omega) (by omega) (by omega), ob_s]
      by_cases y : lo ≤ rdV f n p ∧ rdV f n p ≤ hi
      · rw [if_pos y, if_neg w1, p_want1 N w1, f16, if_pos rfl, bP_s, wr_gI, f16, if_pos (by decide)]
        refine ⟨_, ν3, rfl, r3, fun k h1 h2 _ _ => k3 k h1 h2, f15, Or.inl ⟨?_, rfl, d4', f16, k3 17 (by decide) (by decide)⟩⟩
        unfold rdF
        rw [if_pos q, if_pos ⟨z, y⟩]
      · obtain ⟨g1, g2, g3, g4, g5, g6⟩ := flt ν3 r3 k3 f15 (fun h => y h.2)
        rw [if_neg y, if_pos w0, f15, p_want0 N w0 f16 (by decide), bP_s, wr_gI, g4, if_neg (by decide)]
        exact ⟨0, _, rfl, g1, g2, g3, Or.inr ⟨Or.inr g5, rfl, by rw [g5, g4], g6⟩⟩
    · obtain ⟨g1, g2, g3, g4, g5, g6⟩ := flt ν3 r3 k3 f15 (fun h => z h.1)
      rw [if_pos (show 4 ≤ rdE f n p - sk f n p by omega), p_want0 N w0 f16 (by decide), bP_s, bP_s, wr_gI, g4, if_pos (by decide), p_wantF N (by rw [g4]; decide), bP_s, wr_gI, g4, if_neg (by decide)]
      exact ⟨0, _, rfl, g1, g2, g3, Or.inr ⟨Or.inr g5, rfl, by rw [g5, g4], g6⟩⟩
  · have e : rdF f n p lo hi = 1 := by unfold rdF; rw [if_neg q]
    obtain ⟨g1, g2, g3, g4⟩ := mF_g (μ := pI ν1 332 15 (sk f n p)) (F := 1) (q := sk f n p) (by omega) (by omega)
    rw [if_neg q, b14, p_want0 N w0 b16 (by decide), bP_s, if_pos w0, bP_s, wr_gI, g3, if_pos (by decide)]
    unfold fX9_takeIn_j30
    rw [p_wantF N (by rw [g3]; decide), bP_s, wr_gI, g3, if_neg (by decide)]
    refine ⟨0, _, rfl, fun x hx => by rw [g1 x hx, row_pI hx, a2 x hx], fun k h1 h2 h3 h4 => by rw [g2 k h3 h4, gI_pI_k h2, a3 k h1], by rw [g2 15 (by decide) (by decide), b15, hPq], Or.inr ⟨Or.inl e, rfl, by rw [e, g3], g4⟩⟩
