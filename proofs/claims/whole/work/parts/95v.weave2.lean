/-! weaveOnce as a whole -/
theorem trn_l (N : Nat) (hNB : NB N) {μ : Mm} {t a : Nat} (hta : t + 5 < a ∨ a + 8 < t) (hL : LoomR μ t) (ha : a + 8 < 332) {m : Int} (m0 : 0 ≤ m) (m1 : m < 2147483648) {v : Int → Int} (hv : Vok (gI μ t 5) (gI μ t 6) v) : ∀ (j n : Nat) (c : Int) (ν : Mm), 0 ≤ c → c + j = gI μ t 6 → j < n → (∀ r, (r < a + 2 ∨ a + 6 < r) → r ≠ a + 7 → ν r = μ r) → XBk ν a (gI μ t 5) (gI μ t 6) (fun j => gZ μ 335 j) (hwQ μ t m) v c → ∃ ν1, fX7_weaveOnce_l23 N a t m n c ν = fX7_weaveOnce_k55 N a ν1 ∧ (∀ r, (r < a + 2 ∨ a + 6 < r) → r ≠ a + 7 → ν1 r = μ r) ∧ XBk ν1 a (gI μ t 5) (gI μ t 6) (fun j => gZ μ 335 j) (hwQ μ t m) v (gI μ t 6) := by
  obtain ⟨⟨e5, a5, b5⟩, ⟨e6, a6, b6⟩, -⟩ := id hL
  intro j
  induction j with
  | zero =>
    intro n c ν c0 hc hn hr hB
    obtain ⟨f, rfl⟩ : ∃ f, n = f + 1 := ⟨n - 1, by omega⟩
    rw [fX7_weaveOnce_l23, gI_row (hr t (by omega) (by omega)), wr_gI, wr_id (a := c) (by omega) (by omega), if_pos (by omega)]
    exact ⟨ν, rfl, hr, by rw [show gI μ t 6 = c by omega] at hB ⊢; exact hB⟩
  | succ j ih =>
    intro n c ν c0 hc hn hr hB
    obtain ⟨f, rfl⟩ : ∃ f, n = f + 1 := ⟨n - 1, by omega⟩
    have c1 : c < gI μ t 6 := by omega
    have hL2 : LoomR ν t := hL.fr (fun r h => hr r (by omega) (by omega)) (gI_row (hr 332 (by omega) (by omega)) 2) (gI_row (hr 332 (by omega) (by omega)) 6) (gI_row (hr 332 (by omega) (by omega)) 9)
    have e6n : gI ν t 6 = gI μ t 6 := gI_row (hr t (by omega) (by omega)) 6
    have hwn : hwQ ν t m c = hwQ μ t m c := by unfold hwQ; rw [gZ_row (hr (t + 3) (by omega) (by omega))]
    have hwv := hwQ_v μ t m c
    have hvc := hv.1 c c0 c1
    have hq := qC_ok hL (H := hwQ μ t m) c0 c1 hvc.1
    have hmv := x_move N hNB hL2 m0 m1 c0 (by rw [e6n]; exact c1)
    rw [hwn] at hmv
    rw [fX7_weaveOnce_l23, e6n, wr_gI, wr_id (a := c) (by omega) (by omega), if_neg (by omega), if_neg (by omega), hmv, ob_s]
    by_cases q : hwQ μ t m c = 0
    · have : fX7_turnCard N a t c (hwQ μ t m c) ν = some ν := by
        unfold fX7_turnCard
        rw [q, if_pos (by decide)]
      rw [this, ob_s]
      exact ih f (c + 1) ν (by omega) (by omega) (by omega) hr (XBk_0 c0 hB q)
    · obtain ⟨z1, z2, z3, z4, z5⟩ := hB.1 c c0 c1
      have lc : ¬ c < c := by omega
      have s1 : gZ ν (a + 2) c = v c := by rw [z1]; unfold qS; rw [if_neg lc]
      have s2 : gZ ν (a + 3) c = v (8 + c) := by rw [z2]; unfold qT; rw [if_neg lc]
      have hyv := hv.2.1 (qC (fun j => gZ μ 335 j) (hwQ μ t m) v c) hq.1 hq.2.1
      have hyn := qN_b (fun j => gZ μ 335 j) (hwQ μ t m) v (qC (fun j => gZ μ 335 j) (hwQ μ t m) v c) c.toNat
      have hy6 := hB.2 (qC (fun j => gZ μ 335 j) (hwQ μ t m) v c) hq.1 hq.2.1
      obtain ⟨ν1, t1, t2, t3⟩ := x_turn N (μ := ν) hta hL2 ha c0 (by rw [e6n]; exact c1) (show hwQ μ t m c = 1 ∨ hwQ μ t m c = 2 by omega) (by rw [s1]; exact hvc.1) (by rw [s2]; omega) (by rw [z5]; exact hvc.2.2) (W := qC (fun j => gZ μ 335 j) (hwQ μ t m) v c) (by rw [s1, gZ_row (hr 335 (by omega) (by omega))]; rfl) hq.1 (by omega) (by rw [hy6]; omega)
      rw [t1, ob_s]
      exact ih f (c + 1) ν1 (by omega) (by omega) (by omega) (fun r h h2 => by rw [t2 r h, hr r h h2]) (XBk_s c0 c1 hB ⟨hq.1, hq.2.1⟩ (by omega) (t2 (a + 1) (by omega)) t3)
theorem x_addRow (N : Nat) {μ : Mm} {a : Nat} (hp : 0 ≤ gI μ a 8 ∧ gI μ a 8 ≤ 30000) : ∃ ν, fX7_addRow N a μ = some ν ∧ (∀ r, r ≠ a → r ≠ a + 8 → ν r = μ r) ∧ gI ν a 8 = gI μ a 8 + 1 ∧ ∀ k, 0 ≤ k → k < 192 → gZ ν (a + 8) k = if gI μ a 8 % 24 * 8 ≤ k ∧ k < gI μ a 8 % 24 * 8 + 8 then gZ μ (a + 4) (k - gI μ a 8 % 24 * 8) else gZ μ (a + 8) k := by
  have hs : fX7_slotOf N (gI μ a 8) μ = some (gI μ a 8 % 24 * 8) := p_slotOf N μ hp.1 (by omega)
  have hc : cpA μ (a + 4) 8 (a + 8) 192 0 (gI μ a 8 % 24 * 8) 8 = some (sM μ (a + 8) (va_cpy (μ (a + 4)) (μ (a + 8)) 0 (gI μ a 8 % 24 * 8).toNat 8)) := by
    unfold cpA
    rw [wr_id (a := 0) (by decide) (by decide), wr_id (a := 8) (by decide) (by decide), wr_id (a := gI μ a 8 % 24 * 8) (by omega) (by omega), if_pos (by omega)]
    rfl
  unfold fX7_addRow
  rw [hs, ob_s, hc, ob_s, ob_s]
  have e8 : gI (sM μ (a + 8) (va_cpy (μ (a + 4)) (μ (a + 8)) 0 (gI μ a 8 % 24 * 8).toNat 8)) a 8 = gI μ a 8 := gI_row (row_sM (by omega)) 8
  rw [e8]
  refine ⟨_, rfl, fun r h1 h2 => by rw [row_pI h1, row_sM h2], ?_, fun k k0 k1 => ?_⟩
  · rw [gI_pI_s, wr_id (by omega) (by omega)]
  · rw [gZ_pI_a (by omega)]
    have hSb : 0 ≤ gI μ a 8 % 24 * 8 := by omega
    generalize gI μ a 8 % 24 * 8 = S at hSb ⊢
    unfold gZ gI sM va_cpy
    rw [if_pos rfl]
    by_cases q : S ≤ k ∧ k < S + 8
    · rw [if_pos q, if_pos (by omega)]
      congr 2
      omega
    · rw [if_neg q, if_neg (by omega)]
theorem PV_twist {μ : Mm} {t : Nat} {m : Int} {G v : Int → Int} {C : Int} {d : Int} (d0 : 0 ≤ d) (d1 : d < 8) (dC : d < C) : PVf G (hwQ μ t m) v C (8 + d) = if hwQ μ t m d = 1 then v (8 + d) + 1 else if hwQ μ t m d = 2 then v (8 + d) - 1 else v (8 + d) := by
  rw [(PVf_0 G (hwQ μ t m) v C d0 d1).2.1]
  unfold qT
  rw [if_pos dC]
theorem x_weave (N : Nat) (hNB : NB N) {μ : Mm} {t a : Nat} (hta : t + 5 < a ∨ a + 8 < t) (hL : LoomR μ t) (ha : a + 8 < 332) {m : Int} (m0 : 0 ≤ m) (m1 : m < 2147483648) {v : Int → Int} {M : Int} (hM : M ≤ 20000) (hT : TRf M (gI μ t 5) (gI μ t 6) (fun j c => gZ μ (a + j) c) (gI μ a 8) v) : ∃ r ν, fX7_weaveOnce N a t m μ = some (r, ν) ∧ (∀ x, (x < a ∨ a + 8 < x) → ν x = μ x) ∧ ((r = 1 ∧ GdP (gI μ t 5) (gI μ t 6) (PVf (fun j => gZ μ 335 j) (hwQ μ t m) v (gI μ t 6)) ∧ TRf (M + 1) (gI μ t 5) (gI μ t 6) (fun j c => gZ ν (a + j) c) (gI ν a 8) (PVf (fun j => gZ μ 335 j) (hwQ μ t m) v (gI μ t 6)) ∧ gI ν a 8 = gI μ a 8 + 1) ∨ (r = 0 ∧ ¬ GdP (gI μ t 5) (gI μ t 6) (PVf (fun j => gZ μ 335 j) (hwQ μ t m) v (gI μ t 6)) ∧ ∀ x, x ≠ a + 7 → ν x = μ x)) := by
  have hN2 : 300 ≤ N := hNB
  have hV := hT.ok hM
  have h49 := hT.b49
  obtain ⟨⟨e5, a5, b5⟩, ⟨e6, a6, b6⟩, -⟩ := id hL
  obtain ⟨T1, T2, T3, ⟨T4, T5, T6, T7⟩, T8⟩ := id hT
  obtain ⟨ro, ro1, ro2⟩ := over_l N hNB (a := a) hL m0 m1 (v := v) (fun c c0 c1 => (T1 c c0 c1).2.2.2.1) N 0 (by omega) (by omega) (by omega)
  obtain ⟨rl, νl, rl1, rl2, rl3⟩ := x_lacking N hNB hta hL ha m0 m1 (v := v) (fun c c0 c1 => ⟨(T1 c c0 c1).1, (T1 c c0 c1).2.1, (T1 c c0 c1).2.2.1⟩) (fun k k0 k1 => (T2 k k0 k1).1)
  have tw := fun d d0 d1 => PV_twist (μ := μ) (t := t) (m := m) (G := fun j => gZ μ 335 j) (v := v) (C := gI μ t 6) (d := d) d0 (show d < 8 by omega) d1
  have yn := fun k k0 k1 => (PVf_0 (fun j => gZ μ 335 j) (hwQ μ t m) v (gI μ t 6) (d := k) k0 k1).2.2.2.2.2
  unfold fX7_weaveOnce fX7_isOvertwisted
  rw [ro1, ob_s]
  rcases ro2 with ⟨rfl, ro2⟩ | ⟨rfl, d, d0, d1, hd⟩
  · rw [if_pos (by decide), rl1, bP_s]
    have hTg : TgP (gI μ t 6) (PVf (fun j => gZ μ 335 j) (hwQ μ t m) v (gI μ t 6)) := by
      intro d d0 d1
      rw [tw d d0 d1]
      have h1 := ro2 d d0 d1
      have h2 := (hV.1 d d0 d1).2.1
      by_cases q1 : hwQ μ t m d = 1
      · rw [if_pos q1]
        have : ¬ 99 ≤ v (8 + d) := fun y => h1.1 ⟨q1, y⟩
        omega
      · rw [if_neg q1]
        by_cases q2 : hwQ μ t m d = 2
        · rw [if_pos q2]
          have : ¬ v (8 + d) ≤ -99 := fun y => h1.2 ⟨q2, y⟩
          omega
        · rw [if_neg q2]; exact h2
    rcases rl3 with ⟨rfl, rl3⟩ | ⟨rl0, rlK, rly, rl3⟩
    · rw [if_pos (by decide)]
      have hGd : GdP (gI μ t 5) (gI μ t 6) (PVf (fun j => gZ μ 335 j) (hwQ μ t m) v (gI μ t 6)) := ⟨fun k k0 k1 => by rw [yn k k0 (by omega)]; have := rl3 k k0 k1; omega, hTg⟩
      have hB0 : XBk νl a (gI μ t 5) (gI μ t 6) (fun j => gZ μ 335 j) (hwQ μ t m) v 0 := by
        refine ⟨fun d d0 d1 => ?_, fun k k0 k1 => ?_⟩
        · have l : ¬ d < 0 := by omega
          have h := T1 d d0 d1
          unfold qS qT qW qL
          rw [if_neg l, if_neg l, if_neg l, if_neg l, gZ_row (rl2 _ (by omega)), gZ_row (rl2 _ (by omega)), gZ_row (rl2 _ (by omega)), gZ_row (rl2 _ (by omega)), gZ_row (rl2 _ (by omega))]
          exact ⟨h.1, h.2.2.2.1, h.2.2.2.2.2.2.1, h.2.2.2.2.2.2.2.2.2.1, h.2.2.2.2.2.2.2.2.2.2.2.2.1⟩
        · rw [gZ_row (rl2 _ (by omega))]
          show _ = v (40 + k) - 0
          rw [Int.sub_zero]
          exact (T2 k k0 k1).1
      obtain ⟨ν1, g1, g2, g3⟩ := trn_l N hNB hta hL ha m0 m1 hV (gI μ t 6).toNat N 0 νl (by omega) (by omega) (by omega) (fun r h h2 => rl2 r h2) hB0
      have e8 : gI ν1 a 8 = gI μ a 8 := gI_row (g2 a (by omega) (by omega)) 8
      obtain ⟨ν2, k1, k2, k3, k4⟩ := x_addRow N (μ := ν1) (a := a) (by rw [e8]; omega)
      rw [e8] at k3 k4
      have hr2 : ∀ j : Nat, 1 ≤ j → j ≤ 6 → ∀ i, gZ ν2 (a + j) i = gZ ν1 (a + j) i := fun j j0 j1 i => gZ_row (k2 _ (by omega) (by omega)) i
      rw [g1]
      unfold fX7_weaveOnce_k55
      rw [k1, ob_s]
      refine ⟨1, ν2, rfl, fun x h => by rw [k2 x (by omega) (by omega), g2 x (by omega) (by omega)], Or.inl ⟨rfl, hGd, ⟨fun c c0 c1 => ?_, fun k k0 k1 => ?_, fun k k0 k1 => ?_, ?_, fun i c i0 i1 c0 c1 => ?_⟩, k3⟩⟩
      · obtain ⟨p1, p2, p3, p4, p5, -⟩ := PVf_0 (fun j => gZ μ 335 j) (hwQ μ t m) v (gI μ t 6) (d := c) c0 (by omega)
        obtain ⟨x1, x2, x3, x4, x5⟩ := g3.1 c c0 c1
        have h := T1 c c0 c1
        have hTgc := hTg c c0 c1
        have hq := qC_ok hL (H := hwQ μ t m) (v := v) c0 c1 ⟨h.2.1, h.2.2.1⟩
        show gZ ν2 (a + 2) c = _ ∧ _ ∧ _ ∧ gZ ν2 (a + 3) c = _ ∧ _ ∧ _ ∧ gZ ν2 (a + 4) c = _ ∧ _ ∧ _ ∧ gZ ν2 (a + 5) c = _ ∧ _ ∧ _ ∧ gZ ν2 (a + 1) c = _ ∧ _ ∧ _
        rw [hr2 2 (by decide) (by decide), hr2 3 (by decide) (by decide), hr2 4 (by decide) (by decide), hr2 5 (by decide) (by decide), hr2 1 (by decide) (by decide), x1, x2, x3, x4, x5, p5]
        rw [p2] at hTgc
        rw [p1, p2, p3, p4]
        have hwv := hwQ_v μ t m c
        refine ⟨rfl, ?_, ?_, rfl, hTgc.1, hTgc.2, rfl, ?_, ?_, rfl, ?_, ?_, rfl, h.2.2.2.2.2.2.2.2.2.2.2.2.2.1, h.2.2.2.2.2.2.2.2.2.2.2.2.2.2⟩
        · unfold qS; rw [if_pos c1]
          by_cases q1 : hwQ μ t m c = 1
          · rw [if_pos q1]; omega
          · rw [if_neg q1]
            by_cases q2 : hwQ μ t m c = 2
            · rw [if_pos q2]; omega
            · rw [if_neg q2]; exact h.2.1
        · unfold qS; rw [if_pos c1]
          by_cases q1 : hwQ μ t m c = 1
          · rw [if_pos q1]; omega
          · rw [if_neg q1]
            by_cases q2 : hwQ μ t m c = 2
            · rw [if_pos q2]; omega
            · rw [if_neg q2]; exact h.2.2.1
        · unfold qW; rw [if_pos c1]
          by_cases q1 : hwQ μ t m c = 0
          · rw [if_pos q1]; exact h.2.2.2.2.2.2.2.1
          · rw [if_neg q1]; omega
        · unfold qW; rw [if_pos c1]
          by_cases q1 : hwQ μ t m c = 0
          · rw [if_pos q1]; exact h.2.2.2.2.2.2.2.2.1
          · rw [if_neg q1]; exact hq.2.1
        · unfold qL; rw [if_pos c1]
          by_cases q1 : hwQ μ t m c = 1
          · rw [if_pos q1]; omega
          · rw [if_neg q1]
            by_cases q2 : hwQ μ t m c = 2
            · rw [if_pos q2]; omega
            · rw [if_neg q2]; exact h.2.2.2.2.2.2.2.2.2.2.1
        · unfold qL; rw [if_pos c1]
          by_cases q1 : hwQ μ t m c = 1
          · rw [if_pos q1]; omega
          · rw [if_neg q1]
            by_cases q2 : hwQ μ t m c = 2
            · rw [if_pos q2]; omega
            · rw [if_neg q2]; exact h.2.2.2.2.2.2.2.2.2.2.2.1
      · have hn := qN_b (fun j => gZ μ 335 j) (hwQ μ t m) v k (gI μ t 6).toNat
        have h := T2 k k0 k1
        have h3 := rl3 k k0 k1
        show gZ ν2 (a + 6) k = _ ∧ _ ∧ _
        rw [hr2 6 (by decide) (by decide), g3.2 k k0 k1, yn k k0 (by omega)]
        exact ⟨rfl, by omega, by omega⟩
      · rw [yn k (by omega) k1, T3 k k0 k1]
        have hz : ∀ n : Nat, (n : Int) ≤ gI μ t 6 → qN (fun j => gZ μ 335 j) (hwQ μ t m) v k n = 0 := by
          intro n
          induction n with
          | zero => intro _; rfl
          | succ n ih =>
            intro hn
            show qN (fun j => gZ μ 335 j) (hwQ μ t m) v k n + (if hwQ μ t m n = 0 then 0 else if qC (fun j => gZ μ 335 j) (hwQ μ t m) v n = k then 1 else 0) = 0
            have h := T1 n (by omega) (by omega)
            have hq := qC_ok hL (H := hwQ μ t m) (v := v) (d := n) (by omega) (by omega) ⟨h.2.1, h.2.2.1⟩
            rw [ih (by omega), if_neg (show ¬ qC (fun j => gZ μ 335 j) (hwQ μ t m) v n = k by omega)]
            by_cases q : hwQ μ t m n = 0
            · rw [if_pos q]; rfl
            · rw [if_neg q]; rfl
        rw [hz _ (by omega)]
        rfl
      · obtain ⟨p48, p49⟩ := PVf_48 (fun j => gZ μ 335 j) (hwQ μ t m) v (gI μ t 6)
        rw [p48, p49, k3]
        refine ⟨by omega, by omega, by omega, ?_⟩
        by_cases q : gI μ a 8 < 24
        · have := h49.2.2.1 q
          by_cases q2 : gI μ a 8 + 1 < 24
          · rw [if_pos (by omega), if_pos q2]; omega
          · rw [if_pos (by omega), if_neg q2]; omega
        · have := h49.2.2.2 q
          rw [if_neg (by omega), if_neg (by omega)]
      · have p49 := (PVf_48 (fun j => gZ μ 335 j) (hwQ μ t m) v (gI μ t 6)).2
        rw [p49] at i1 ⊢
        have hq := fun d d0 d1 => qC_ok hL (H := hwQ μ t m) (v := v) (d := d) d0 d1 ⟨(T1 d d0 d1).2.1, (T1 d d0 d1).2.2.1⟩
        have hwb : -1 ≤ qW (fun j => gZ μ 335 j) (hwQ μ t m) v (gI μ t 6) c ∧ qW (fun j => gZ μ 335 j) (hwQ μ t m) v (gI μ t 6) c < gI μ t 5 := by
          unfold qW; rw [if_pos c1]
          by_cases q1 : hwQ μ t m c = 0
          · rw [if_pos q1]; exact ⟨(T1 c c0 c1).2.2.2.2.2.2.2.1, (T1 c c0 c1).2.2.2.2.2.2.2.2.1⟩
          · rw [if_neg q1]; have := hq c c0 c1; omega
        show gZ ν2 (a + 8) ((gI ν2 a 8 - 1 - i) % 24 * 8 + c) = _ ∧ _ ∧ _
        rw [k3, show gI μ a 8 + 1 - 1 - i = gI μ a 8 - i by omega, k4 _ (by omega) (by omega)]
        -- the place of the i-th row, the reference's
        have hI24 : i < 24 := by
          by_cases q : v 49 < 24
          · rw [if_pos q] at i1; omega
          · rw [if_neg q] at i1; omega
        by_cases zi : i = 0
        · subst zi
          rw [if_pos (by omega), show (gI μ a 8 - 0) % 24 * 8 + c - gI μ a 8 % 24 * 8 = c by omega, (g3.1 c c0 c1).2.2.1]
          have : PVf (fun j => gZ μ 335 j) (hwQ μ t m) v (gI μ t 6) (50 + 8 * ((if v 49 < 24 then v 49 + 1 else 24) - 1 - 0) + c) = qW (fun j => gZ μ 335 j) (hwQ μ t m) v (gI μ t 6) c := by
            by_cases q : v 49 < 24
            · unfold PVf
              rw [if_pos q, if_pos q]
              rw [if_neg (by omega), if_neg (by omega), if_neg (by omega), if_neg (by omega), if_neg (by omega), if_neg (by omega), if_neg (by omega), if_neg (by omega), if_pos (by omega)]
              congr 1
              omega
            · unfold PVf
              rw [if_neg q, if_neg q]
              rw [if_neg (by omega), if_neg (by omega), if_neg (by omega), if_neg (by omega), if_neg (by omega), if_neg (by omega), if_neg (by omega), if_neg (by omega), if_pos (by omega)]
              congr 1
              omega
          rw [this]
          exact ⟨rfl, hwb⟩
        · rw [if_neg (by omega), gZ_row (g2 (a + 8) (by omega) (by omega))]
          have hold : i - 1 < v 49 := by
            by_cases q : v 49 < 24
            · rw [if_pos q] at i1; omega
            · rw [if_neg q] at i1; omega
          have h8 := T8 (i - 1) c (by omega) hold c0 c1
          rw [show gI μ a 8 - 1 - (i - 1) = gI μ a 8 - i by omega] at h8
          have : PVf (fun j => gZ μ 335 j) (hwQ μ t m) v (gI μ t 6) (50 + 8 * ((if v 49 < 24 then v 49 + 1 else 24) - 1 - i) + c) = v (50 + 8 * (v 49 - 1 - (i - 1)) + c) := by
            by_cases q : v 49 < 24
            · unfold PVf
              rw [if_pos q] at i1
              rw [if_pos q, if_pos q]
              rw [if_neg (by omega), if_neg (by omega), if_neg (by omega), if_neg (by omega), if_neg (by omega), if_neg (by omega), if_neg (by omega), if_neg (by omega), if_neg (by omega), if_pos q]
              congr 1
              omega
            · have := h49
              unfold PVf
              rw [if_neg q] at i1
              rw [if_neg q, if_neg q]
              rw [if_neg (by omega), if_neg (by omega), if_neg (by omega), if_neg (by omega), if_neg (by omega), if_neg (by omega), if_neg (by omega), if_neg (by omega), if_neg (by omega), if_neg q]
              congr 1
              omega
          rw [this]
          exact h8
    · rw [if_neg (by rw [wr_id (by omega) (by omega)]; omega)]
      refine ⟨0, νl, rfl, fun x h => rl2 x (by omega), Or.inr ⟨rfl, fun hg => ?_, rl2⟩⟩
      have := hg.1 rl rl0 rlK
      rw [yn rl rl0 (by omega)] at this
      omega
  · rw [if_neg (by decide)]
    refine ⟨0, μ, rfl, fun _ _ => rfl, Or.inr ⟨rfl, fun hg => ?_, fun _ _ => rfl⟩⟩
    have h1 := hg.2 d d0 d1
    rw [tw d d0 d1] at h1
    rcases hd with ⟨q1, q2⟩ | ⟨q1, q2⟩
    · rw [if_pos q1] at h1; omega
    · rw [if_neg (by omega), if_pos q1] at h1; omega
