/-! drift: draws -/
def drwS (s : Int) : Int := (s * 1103515245 + 12345) % 2147483648
theorem drwS_b (s : Int) : 0 ≤ drwS s ∧ drwS s < 2147483648 := by unfold drwS; omega
theorem rmL_p {a b : Int} (h0 : 0 ≤ a) (h1 : a < 9223372036854775808) (h2 : 0 < b) (h3 : b < 9223372036854775808) : rmL a b = a % b := by
  unfold rmL
  rw [wL_id (by omega) h1, wL_id (by omega) h3, Int.tmod_eq_emod_of_nonneg h0]
theorem dvL_p {a b : Int} (h0 : 0 ≤ a) (h1 : a < 9223372036854775808) (h2 : 0 < b) (h3 : b < 9223372036854775808) : dvL a b = a / b := by
  unfold dvL
  rw [wL_id (by omega) h1, wL_id (by omega) h3, Int.tdiv_eq_ediv_of_nonneg h0]
theorem x_fig (N : Nat) {μ : Mm} {s : Int} (hs : gI μ 0 8 = s) (s0 : 0 ≤ s) (s1 : s < 2147483648) : fX8_drawFigure N μ = some (drwS s / 65536 % 3, pI μ 0 8 (drwS s)) := by
  have hb := drwS_b s
  have e : rmL (s * 1103515245 + 12345) 2147483648 = drwS s := rmL_p (by omega) (by omega) (by decide) (by decide)
  unfold fX8_drawFigure
  rw [hs, e, gd_p (by omega), ob_s, gI_pI_s, wr_id (by omega) hb.2, dvL_p hb.1 (by omega) (by decide) (by decide), rmL_p (by omega) (by omega) (by decide) (by decide)]
theorem m_draw (N : Nat) {μ : Mm} {s : Int} (hs : gZ μ 333 242 = s) (s0 : 0 ≤ s) (s1 : s < 2147483648) : fX9_draw N 3 μ = some (drwS s / 65536 % 3, pZ μ 333 242 (drwS s)) := by
  have hb := drwS_b s
  have e : rmL (s * 1103515245 + 12345) 2147483648 = drwS s := rmL_p (by omega) (by omega) (by decide) (by decide)
  unfold fX9_draw
  rw [ldA_ok (by decide) (by decide) (by decide), ob_s, hs, wr_id (a := s) (by omega) s1, e, stA_ok (by decide) (by decide) (by decide), ob_s, ldA_ok (by decide) (by decide) (by decide), ob_s, gZ_pZ_s, wr_id (a := drwS s) (by omega) hb.2, gd_p (by decide), dvI_p hb.1 hb.2 (by decide) (by decide), rmI_p (by omega) (by omega) (by decide) (by decide)]
def dmM : Nat → Int → Int → Int → Int × Int
  | 0, x, _, s => (x, s)
  | j + 1, x, w, s => dmM j (x + w * (drwS s / 65536 % 3)) (w * 3) (drwS s)
theorem dmM_s : ∀ (j : Nat) (x w s : Int), 0 ≤ s → s < 2147483648 → 0 ≤ (dmM j x w s).2 ∧ (dmM j x w s).2 < 2147483648 := by
  intro j
  induction j with
  | zero => intro x w s h0 h1; exact ⟨h0, h1⟩
  | succ j ih => intro x w s h0 h1; exact ih _ _ _ (drwS_b s).1 (drwS_b s).2
theorem dmM_b : ∀ (j : Nat) (s : Int), j ≤ 4 → 0 ≤ (dmM j 0 1 s).1 ∧ (dmM j 0 1 s).1 ≤ 80 := by
  intro j s hj
  rcases (show j = 0 ∨ j = 1 ∨ j = 2 ∨ j = 3 ∨ j = 4 by omega) with rfl | rfl | rfl | rfl | rfl <;> simp only [dmM] <;> omega
theorem x_dm (N : Nat) {t : Nat} (hk : kd t = 4) (t0 : t ≠ 0) {P : Int} (p0 : 0 ≤ P) (p1 : P ≤ 4) : ∀ (j n : Nat) (k x w s : Int) (μ : Mm), (gI μ 0 6).toNat = t → gI μ t 7 = P → 0 ≤ k → k + j = P → j < n → gI μ 0 8 = s → 0 ≤ s → s < 2147483648 → ∃ ν, fX8_drawMoves_l6 N n x w k μ = some ((dmM j x w s).1, ν) ∧ (∀ r, r ≠ 0 → ν r = μ r) ∧ (∀ k, k ≠ 8 → gI ν 0 k = gI μ 0 k) ∧ gI ν 0 8 = (dmM j x w s).2 := by
  intro j
  induction j with
  | zero =>
    intro n k x w s μ ht hP k0 kj hn hs s0 s1
    obtain ⟨f, rfl⟩ : ∃ f, n = f + 1 := ⟨n - 1, by omega⟩
    rw [fX8_drawMoves_l6, ht, gd_p hk, hP, wr_id (a := P) (by omega) (by omega), wr_id (a := k) (by omega) (by omega), if_pos (by omega)]
    exact ⟨μ, rfl, fun _ _ => rfl, fun _ _ => rfl, hs⟩
  | succ j ih =>
    intro n k x w s μ ht hP k0 kj hn hs s0 s1
    obtain ⟨f, rfl⟩ : ∃ f, n = f + 1 := ⟨n - 1, by omega⟩
    have hb := drwS_b s
    obtain ⟨ν, g1, g2, g3, g4⟩ := ih f (k + 1) (x + (drwS s / 65536 % 3) * w) (w * 3) (drwS s) (pI μ 0 8 (drwS s)) (by rw [gI_pI_k (by decide)]; exact ht) (by rw [gI_pI_a t0]; exact hP) (by omega) (by omega) (by omega) (by rw [gI_pI_s, wr_id (by omega) hb.2]) hb.1 hb.2
    rw [fX8_drawMoves_l6, ht, gd_p hk, hP, wr_id (a := P) (by omega) (by omega), wr_id (a := k) (by omega) (by omega), if_neg (by omega), x_fig N hs s0 s1, bP_s, g1]
    refine ⟨ν, ?_, fun r hr => by rw [g2 r hr, row_pI hr], fun k hk => by rw [g3 k hk, gI_pI_k hk], ?_⟩
    · show _ = some ((dmM j (x + w * (drwS s / 65536 % 3)) (w * 3) (drwS s)).1, ν)
      rw [Int.mul_comm w (drwS s / 65536 % 3)]
    · show _ = (dmM j (x + w * (drwS s / 65536 % 3)) (w * 3) (drwS s)).2
      rw [Int.mul_comm w (drwS s / 65536 % 3)]; exact g4
theorem m_dm (N : Nat) {P : Int} (p0 : 0 ≤ P) (p1 : P ≤ 4) : ∀ (j n : Nat) (k x w s : Int) (μ : Mm), gI μ 332 9 = P → 0 ≤ k → k + j = P → j < n → gZ μ 333 242 = s → 0 ≤ s → s < 2147483648 → ∃ ν, fX9_drawMoves_l6 N n x w k μ = some ((dmM j x w s).1, ν) ∧ (∀ r, r ≠ 333 → ν r = μ r) ∧ (∀ k, 0 ≤ k → k ≠ 242 → gZ ν 333 k = gZ μ 333 k) ∧ gZ ν 333 242 = (dmM j x w s).2 := by
  intro j
  induction j with
  | zero =>
    intro n k x w s μ hP k0 kj hn hs s0 s1
    obtain ⟨f, rfl⟩ : ∃ f, n = f + 1 := ⟨n - 1, by omega⟩
    rw [fX9_drawMoves_l6, hP, wr_id (a := P) (by omega) (by omega), wr_id (a := k) (by omega) (by omega), if_pos (by omega)]
    exact ⟨μ, rfl, fun _ _ => rfl, fun _ _ _ => rfl, hs⟩
  | succ j ih =>
    intro n k x w s μ hP k0 kj hn hs s0 s1
    obtain ⟨f, rfl⟩ : ∃ f, n = f + 1 := ⟨n - 1, by omega⟩
    have hb := drwS_b s
    obtain ⟨ν, g1, g2, g3, g4⟩ := ih f (k + 1) (x + w * (drwS s / 65536 % 3)) (w * 3) (drwS s) (pZ μ 333 242 (drwS s)) (by rw [gI_pZ_a (by decide)]; exact hP) (by omega) (by omega) (by omega) (by rw [gZ_pZ_s, wr_id (by omega) hb.2]) hb.1 hb.2
    rw [fX9_drawMoves_l6, hP, wr_id (a := P) (by omega) (by omega), wr_id (a := k) (by omega) (by omega), if_neg (by omega), m_draw N hs s0 s1, bP_s, g1]
    exact ⟨ν, rfl, fun r hr => by rw [g2 r hr, row_pZ hr], fun k k0 hk => by rw [g3 k k0 hk, gZ_pZ_n (by decide) k0 hk], g4⟩
theorem drift_l (N : Nat) (hNB : NB N) {y : Int} (hy : y ≤ 30) {t u : Nat} : ∀ (n : Nat) (i : Int) (μX μ0 : Mm), Sim μX μ0 t u → 0 ≤ i → i ≤ y → y - i < n → gI μX 3 8 + (y - i) ≤ 9030 → ∃ p νX, fX8_drift_l45 N y n i μX = some (p, νX) ∧ (∀ r, ((300 ≤ r ∧ r ≤ 311) ∨ 332 ≤ r) → νX r = μX r) ∧ ∀ μM, Sim μX μM t u → ∃ νM, fX9_drift_l43 N y n i μM = some (p, νM) ∧ (∀ r, r < 332 → νM r = μM r) ∧ Sim νX νM t u := by
  have hN2 : 300 ≤ N := hNB
  intro n
  induction n with
  | zero => intro i μX μ0 _ h0 h1 h2; omega
  | succ n ih =>
    intro i μX μ0 hS0 h0 h1 h2 hp
    have ht := hS0.tr
    have htc : t = 300 ∨ t = 306 := hS0.2.2.1.2.2.imp (fun z => z.1) (fun z => z.1)
    rw [fX8_drift_l45, wr_id (a := y) (by omega) (by omega), wr_id (a := i) (by omega) (by omega)]
    by_cases q : y ≤ i
    · rw [if_pos q]
      refine ⟨_, _, rfl, fun _ _ => rfl, fun μM hS => ⟨μM, ?_, fun _ _ => rfl, hS⟩⟩
      rw [fX9_drift_l43, wr_id (a := y) (by omega) (by omega), wr_id (a := i) (by omega) (by omega), if_pos q]
      unfold fX9_drift_k78
      rw [ldA_ok (by decide) (by decide) (by decide), ob_s]
      have := (hS.2.2.2.2.1.pk).1
      rw [gI_row (mg_x (by decide)), gZ_row (mg_m (by decide))] at this
      rw [← this]
    · obtain ⟨ν1, f1, f2⟩ := hS0.rx N
      have hLx := hS0.lx
      have tt : (gI ν1 0 6).toNat = t := by
        have h6 := hS0.2.2.1.1
        rw [gI_row (mg_x (by decide))] at h6
        rw [gI_row (f2 0 (by decide)) 6, h6, Int.toNat_natCast]
      obtain ⟨⟨e5, a5, b5⟩, ⟨e6, a6, b6⟩, ⟨e7, a7, b7⟩, -⟩ := id hLx
      have hseed : 0 ≤ gI μX 0 8 := by
        have := hS0.2.2.2.2.2.2.2.2.2.2
        rw [gI_row (mg_x (by decide))] at this
        exact this
      have hsx : gI ν1 0 8 = gI μX 0 8 := gI_row (f2 0 (by decide)) 8
      have hsl := gI_hi μX 0 8
      -- the draws, the class' side
      obtain ⟨ν1', d1, d2, d3, d4⟩ := x_dm N hS0.2.2.1.kt (by omega) a7 b7 (gI μX t 7).toNat N 0 0 1 (gI μX 0 8) ν1 tt (gI_row (f2 t (by omega)) 7) (by decide) (by omega) (by omega) hsx hseed hsl
      have hmb := dmM_b (gI μX t 7).toNat (gI μX 0 8) (by omega)
      have hsb := dmM_s (gI μX t 7).toNat 0 1 (gI μX 0 8) hseed hsl
      generalize hdm : dmM (gI μX t 7).toNat 0 1 (gI μX 0 8) = dm at *
      obtain ⟨m, s'⟩ := dm
      simp only at d1 d4 hmb hsb
      have m0 := hmb.1
      have m80 := hmb.2
      have f3 : ∀ r, r ≠ 0 → (r < 21 ∨ r = 22 ∨ 292 < r) → ν1' r = μX r := fun r a b => by rw [d2 r a, f2 r b]
      have hL1 : LoomR ν1' t := hLx.fr (fun r h => f3 r (by omega) (by omega)) (gI_row (f3 332 (by decide) (by decide)) 2) (gI_row (f3 332 (by decide) (by decide)) 6) (gI_row (f3 332 (by decide) (by decide)) 9)
      have k5 : gI ν1' t 5 = gI μX t 5 := gI_row (f3 t (by omega) (by omega)) 5
      have k6 : gI ν1' t 6 = gI μX t 6 := gI_row (f3 t (by omega) (by omega)) 6
      have kG : (fun j => gZ ν1' 335 j) = (fun j => gZ μX 335 j) := G_row (f3 335 (by omega) (by omega))
      have kH : hwQ ν1' t m = hwQ μX t m := H_row (f3 (t + 3) (by omega) (by omega))
      have k8 : gI ν1' 3 8 = gI μX 3 8 := gI_row (f3 3 (by decide) (by decide)) 8
      have wv : ∀ (μM : Mm) (w : Int → Int), Sim μX μM t u → BlkR μM 0 w → ∃ r νX, fX7_weaveOnce N 3 t m ν1' = some (r, νX) ∧ (∀ x, (x < 3 ∨ 11 < x) → νX x = ν1' x) ∧ ((r = 1 ∧ GdP (gI μX t 5) (gI μX t 6) (PVf (fun j => gZ μX 335 j) (hwQ μX t m) w (gI μX t 6)) ∧ TRf 9031 (gI μX t 5) (gI μX t 6) (fun j c => gZ νX (3 + j) c) (gI νX 3 8) (PVf (fun j => gZ μX 335 j) (hwQ μX t m) w (gI μX t 6)) ∧ gI νX 3 8 = gI μX 3 8 + 1) ∨ (r = 0 ∧ ¬ GdP (gI μX t 5) (gI μX t 6) (PVf (fun j => gZ μX 335 j) (hwQ μX t m) w (gI μX t 6)) ∧ TRf 9031 (gI μX t 5) (gI μX t 6) (fun j c => gZ νX (3 + j) c) (gI νX 3 8) w ∧ gI νX 3 8 = gI μX 3 8)) := by
        intro μM w hS hb
        have hT := hS.w hb
        have hT1 : TRf 9030 (gI μX t 5) (gI μX t 6) (fun j c => gZ ν1' (3 + j) c) (gI ν1' 3 8) w := by
          rw [k8]
          exact hT.cg (fun j p1 p2 _ i => gZ_row (f3 _ (by omega) (by omega)) i)
        obtain ⟨r, νX, g1, g2, g3⟩ := x_weave N hNB (a := 3) (t := t) (by omega) hL1 (by decide) m0 (by omega) (M := 9030) (v := w) (by decide) (by rw [k5, k6]; exact hT1)
        rw [k5, k6, kG, kH] at g3
        refine ⟨r, νX, g1, fun x h => g2 x (by omega), g3.imp (fun z => ⟨z.1, z.2.1, z.2.2.1, by rw [z.2.2.2, k8]⟩) (fun z => ⟨z.1, z.2.1, ?_, by rw [gI_row (z.2.2 3 (by decide)), k8]⟩)⟩
        rw [gI_row (z.2.2 3 (by decide))]
        exact (hT1.mono (by decide)).cg (fun j p1 p2 p3 i => gZ_row (z.2.2 _ (by omega)) i)
      obtain ⟨r, νX, g1, g2, g3⟩ := wv μ0 (fun k => gZ μ0 333 (0 + k)) hS0 (fun k _ _ => rfl)
      have hpx : gI νX 3 8 ≤ gI μX 3 8 + 1 := by rcases g3 with z | z <;> omega
      -- the reference's step
      have step : ∀ μM, Sim μX μM t u → ∃ ν2 ν3 fl ν4 νM, fX9_remember N μM = some ν2 ∧ fX9_drawMoves N ν2 = some (m, ν3) ∧ fX9_canPick N m 1 ν3 = some (fl, ν4) ∧ ((wr fl = 0 ∧ νM = ν4) ∨ (¬ wr fl = 0 ∧ fX9_pickIn N 0 m ν4 = some νM)) ∧ (∀ r, r < 332 → νM r = μM r) ∧ Sim νX νM t u := by
        intro μM hS
        have hb2 : BlkR μM 0 (fun k => gZ μM 333 (0 + k)) := fun k _ _ => rfl
        generalize (fun k => gZ μM 333 (0 + k)) = w2 at hb2
        obtain ⟨r2, νX2, g1', g2', g3'⟩ := wv μM w2 hS hb2
        rw [g1] at g1'
        obtain ⟨rfl, rfl⟩ := Prod.mk.inj (Option.some.inj g1')
        obtain ⟨ν2, c1, c2, c3, c4⟩ := hS.rm N hNB
        have hLm := hS.lm
        have hsM : gZ ν2 333 242 = gI μX 0 8 := by
          have hs := hS.2.2.2.2.2.2.2.2.2.1
          rw [gI_row (mg_x (by decide)), gZ_row (mg_m (by decide))] at hs
          rw [c4 242 (by decide) (by decide)]; exact hs.symm
        have hPM : gI ν2 332 9 = gI μX t 7 := by rw [c3 9 (by decide), hS.2.1 9 (by decide), e7]
        obtain ⟨ν3, y1, y2, y3, y4⟩ := m_dm N a7 b7 (gI μX t 7).toNat N 0 0 1 (gI μX 0 8) ν2 hPM (by decide) (by omega) (by omega) hsM hseed hsl
        rw [hdm] at y1 y4
        have r3 : ∀ r, r ≠ 332 → r ≠ 333 → ν3 r = μM r := fun r a b => by rw [y2 r b, c2 r a b]
        have i3 : ∀ k, k ≠ 18 → gI ν3 332 k = gI μM 332 k := fun k hk => by rw [gI_row (y2 332 (by decide)), c3 k hk]
        have hL3 : LoomR ν3 t := hLm.fr (fun r h => r3 r (by omega) (by omega)) (i3 2 (by decide)) (i3 6 (by decide)) (i3 9 (by decide))
        have j5 : gI ν3 t 5 = gI μX t 5 := by rw [gI_row (r3 t (by omega) (by omega)), gI_row (hS.1 t (by omega))]
        have j6 : gI ν3 t 6 = gI μX t 6 := by rw [gI_row (r3 t (by omega) (by omega)), gI_row (hS.1 t (by omega))]
        have jG : (fun j => gZ ν3 335 j) = (fun j => gZ μX 335 j) := G_row (by rw [r3 335 (by decide) (by decide), hS.1 335 (by omega)])
        have jH : hwQ ν3 t m = hwQ μX t m := H_row (by rw [r3 (t + 3) (by omega) (by omega), hS.1 (t + 3) (by omega)])
        have hV := (hS.w hb2).ok (by decide)
        have hp2 := (hS.w hb2).p
        have b3 : BlkR ν3 0 w2 := fun k k0 k1 => by
          have := hb2 k k0 k1
          rw [Int.zero_add] at this ⊢
          rw [y3 k k0 (by omega), c4 k k0 (by omega)]; exact this
        obtain ⟨ν3c, q1, q2, q3, q4⟩ := m_trial N hNB (μ := ν3)
        have q4' : BlkR ν3c 243 w2 := fun k k0 k1 => by rw [q4 k k0 k1]; exact b3 k k0 k1
        -- what the trial says
        have can : ∀ rn : Nat, (rn = 1 ∧ GdP (gI μX t 5) (gI μX t 6) (PVf (fun j => gZ μX 335 j) (hwQ μX t m) w2 (gI μX t 6))) ∨ (rn = 0 ∧ ¬ GdP (gI μX t 5) (gI μX t 6) (PVf (fun j => gZ μX 335 j) (hwQ μX t m) w2 (gI μX t 6))) → ∃ ν4, fX9_canPick N m 1 ν3 = some ((rn : Int), ν4) ∧ (∀ x, x ≠ 333 → ν4 x = ν3 x) ∧ (∀ k, 0 ≤ k → (k < 243 ∨ 486 ≤ k) → gZ ν4 333 k = gZ ν3 333 k) := by
          intro rn hrn
          obtain ⟨ν4, l1, l2, l3⟩ := m_can N hNB (by omega) hL3 (m := m) (y := 1) m0 (by omega) (by decide) rn N 0 ν3c w2 (by decide) (by omega) (by omega) q2 q3 q4' (by rw [j5, j6]; exact hV) (by omega) (fun j hj => by
            rw [j5, j6, jG, jH]
            obtain rfl : j = 0 := by omega
            rcases hrn with z | z
            · exact z.2
            · omega) (fun hlt => by
            rw [j5, j6, jG, jH]
            rcases hrn with z | z
            · omega
            · rw [z.1]; exact z.2)
          refine ⟨ν4, ?_, l2, l3⟩
          unfold fX9_canPick
          rw [q1, ob_s, l1, Int.zero_add]
          rcases hrn with ⟨z, -⟩ | ⟨z, -⟩ <;> subst z <;> rfl
        rcases g3' with ⟨rfl, gg, gT2, gp⟩ | ⟨rfl, gg, gT2, gp⟩
        · obtain ⟨ν4, l1, l2, l3⟩ := can 1 (Or.inl ⟨rfl, gg⟩)
          have r4 : ∀ r, r ≠ 332 → r ≠ 333 → ν4 r = μM r := fun r a b => by rw [l2 r b, r3 r a b]
          have i4 : ∀ k, k ≠ 18 → gI ν4 332 k = gI μM 332 k := fun k hk => by rw [gI_row (l2 332 (by decide)), i3 k hk]
          have hL4 : LoomR ν4 t := hLm.fr (fun r h => r4 r (by omega) (by omega)) (i4 2 (by decide)) (i4 6 (by decide)) (i4 9 (by decide))
          have o5 : gI ν4 t 5 = gI μX t 5 := by rw [gI_row (l2 t (by omega)), j5]
          have o6 : gI ν4 t 6 = gI μX t 6 := by rw [gI_row (l2 t (by omega)), j6]
          have oG : (fun j => gZ ν4 335 j) = (fun j => gZ μX 335 j) := by rw [G_row (l2 335 (by decide)), jG]
          have oH : hwQ ν4 t m = hwQ μX t m := by rw [H_row (l2 (t + 3) (by omega)), jH]
          obtain ⟨νM, z1, z2, z3, z4⟩ := m_pickIn N hNB (by omega) hL4 (o := 0) (m := m) (by decide) m0 (by omega) (v := w2) (by rw [o5, o6]; exact hV) (fun k k0 k1 => by rw [Int.zero_add, l3 k k0 (by omega)]; have := b3 k k0 k1; rw [Int.zero_add] at this; exact this)
          rw [o6, oG, oH] at z4
          refine ⟨ν2, ν3, _, ν4, νM, c1, y1, l1, Or.inr ⟨by decide, z1⟩, fun r hr => by rw [z2 r (by omega), r4 r (by omega) (by omega)], ?_⟩
          refine hS.deed N hNB f1 c1 (fun r a b c => by rw [g2 r b, d2 r c]) (fun r a => by rw [g2 r (by omega), d2 r (by omega)]) (by rw [gI_row (g2 0 (by decide)), d3 6 (by decide)]) (by rw [gI_row (g2 0 (by decide)), d3 7 (by decide)]) (fun r hr => by rw [z2 r hr, l2 r hr, y2 r hr]) (fun k a b => by rw [z3 k (by omega) (by omega), l3 k (by omega) (by omega), y3 k (by omega) (by omega)]) (wr_mg (by omega) ⟨a5, b5⟩ ⟨a6, b6⟩ (by rw [gI_row (g2 t (by omega)), k5]) (by rw [gI_row (g2 t (by omega)), k6]) gT2 (by omega) z4) ?_
          rw [gI_row (g2 0 (by decide)), d4, z3 242 (by decide) (by decide), l3 242 (by decide) (by decide), y4]
          exact ⟨rfl, hsb.1⟩
        · obtain ⟨ν4, l1, l2, l3⟩ := can 0 (Or.inr ⟨rfl, gg⟩)
          have r4 : ∀ r, r ≠ 332 → r ≠ 333 → ν4 r = μM r := fun r a b => by rw [l2 r b, r3 r a b]
          have b4 : BlkR ν4 0 w2 := fun k k0 k1 => by rw [Int.zero_add, l3 k k0 (by omega)]; have := b3 k k0 k1; rw [Int.zero_add] at this; exact this
          refine ⟨ν2, ν3, _, ν4, ν4, c1, y1, l1, Or.inl ⟨by decide, rfl⟩, fun r hr => by rw [r4 r (by omega) (by omega)], ?_⟩
          refine hS.deed N hNB f1 c1 (fun r a b c => by rw [g2 r b, d2 r c]) (fun r a => by rw [g2 r (by omega), d2 r (by omega)]) (by rw [gI_row (g2 0 (by decide)), d3 6 (by decide)]) (by rw [gI_row (g2 0 (by decide)), d3 7 (by decide)]) (fun r hr => by rw [l2 r hr, y2 r hr]) (fun k a b => by rw [l3 k (by omega) (by omega), y3 k (by omega) (by omega)]) (wr_mg (by omega) ⟨a5, b5⟩ ⟨a6, b6⟩ (by rw [gI_row (g2 t (by omega)), k5]) (by rw [gI_row (g2 t (by omega)), k6]) gT2 (by omega) b4) ?_
          rw [gI_row (g2 0 (by decide)), d4, l3 242 (by decide) (by decide), y4]
          exact ⟨rfl, hsb.1⟩
      obtain ⟨-, -, -, -, νM0, -, -, -, -, -, s4⟩ := step μ0 hS0
      obtain ⟨p, νX2, i1, i2, i3⟩ := ih (i + 1) νX νM0 s4 (by omega) (by omega) (by omega) (by omega)
      refine ⟨p, νX2, ?_, fun r hr => by rw [i2 r hr, g2 r (by omega), f3 r (by omega) (by omega)], fun μM hS => ?_⟩
      · unfold fX8_drawMoves
        rw [if_neg q, f1, ob_s, d1, bP_s, tt, gd_p hS0.2.2.1.kt, g1, bP_s]
        exact i1
      · obtain ⟨ν2, ν3, fl, ν4, νM, s1, s2, s3, s5, s6, s7⟩ := step μM hS
        obtain ⟨νM2, j1, j2, j3⟩ := i3 νM s7
        refine ⟨νM2, ?_, fun r hr => by rw [j2 r hr, s6 r hr], j3⟩
        rw [fX9_drift_l43, wr_id (a := y) (by omega) (by omega), wr_id (a := i) (by omega) (by omega), if_neg q, s1, ob_s, s2, bP_s, s3, bP_s]
        rcases s5 with ⟨z1, z2⟩ | ⟨z1, z2⟩
        · rw [if_pos z1, ← z2]; exact j1
        · rw [if_neg z1, z2, ob_s]; exact j1
theorem okp_drift (N : Nat) (hNB : NB N) : ok_drift N Inv := by
  intro μ y hy hI
  obtain ⟨t, u, hT, hL, hW, hU, hG, hN, hX, hS⟩ := id hI
  have ht := hT.r
  have hN2 : 300 ≤ N := hNB
  have w1 : ¬ wr (1 : Int) = 0 := by decide
  have w0 : wr (0 : Int) = 0 := by decide
  obtain ⟨⟨e5, a5, b5⟩, ⟨e6, a6, b6⟩, -⟩ := id hL
  have hin : ∀ μ', fX9_in N y 1 30 μ' = some (if 1 ≤ y ∧ y ≤ 30 then 1 else 0) := fun μ' => p_in N y 1 30 μ' (by omega) (by omega) (by omega)
  unfold fX8_drift fX9_drift
  simp only [hT.t, gd_p hT.kt, ob_s, p_isMade, wr_id hy.1 hy.2, hin]
  by_cases qy : 1 ≤ y ∧ y ≤ 30
  · simp only [if_neg (show ¬ y < 1 by omega), if_pos qy.2, if_pos qy, if_neg w1]
    by_cases qk : 0 < gI μ t 5
    · simp only [if_pos qk, if_neg w1, wr_gI]
      have hpk := (hW.pk).1
      by_cases q9 : gI μ 3 8 ≤ 9000
      · rw [if_pos q9]
        obtain ⟨p, νX, y1, y2, y3⟩ := drift_l N hNB (y := y) (by omega) (t := t) (u := u) N 0 μ μ (Sim.same ⟨hT, hL, hW, hU, hG, hN, hX, hS⟩) (by decide) (by omega) (by omega) (by omega)
        have hSm : Sim μ νX t u := by
          refine ⟨fun r hr => y2 r (by omega), fun k _ => gI_row (y2 332 (by omega)) k, ?_⟩
          have e : mg μ νX = μ := funext (fun r => by
            by_cases z : r < 332
            · rw [mg_x z]
            · rw [mg_m (by omega), y2 r (by omega)])
          rw [e]
          exact ⟨hT, hL, hW, hU, hG, hN, hX, hS⟩
        obtain ⟨νM, l1, l2, l3⟩ := y3 νX hSm
        refine ⟨p, p, νX, νM, y1, ?_, rfl, t, u, ?_⟩
        · rw [p_isLoom, gI_row (y2 332 (by omega)), e5, if_pos qk, ob_s, if_neg w1, ldA_ok (by decide) (by decide) (by decide), ob_s, gZ_row (y2 333 (by omega)), wr_gZ, ← hpk, if_pos q9]
          exact l1
        · have e : mg νX νM = νM := funext (fun r => by
            by_cases z : r < 332
            · rw [mg_x z, l2 r z]
            · rw [mg_m (by omega)])
          have := l3.2.2
          rw [e] at this
          exact this
      · rw [if_neg q9]
        refine ⟨-1000000004, -1000000004, μ, μ, rfl, ?_, rfl, hI⟩
        rw [p_isLoom, e5, if_pos qk, ob_s, if_neg w1, ldA_ok (by decide) (by decide) (by decide), ob_s, wr_gZ, ← hpk, if_neg q9]
    · simp only [if_neg qk, if_pos w0]
      refine ⟨-1000000003, -1000000003, μ, μ, rfl, ?_, rfl, hI⟩
      rw [p_isLoom, e5, if_neg qk, ob_s, if_pos w0]
  · by_cases q1 : y < 1
    · simp only [if_pos q1, if_neg qy, if_pos w0]
      exact ⟨-1000000002, -1000000002, μ, μ, rfl, rfl, rfl, hI⟩
    · simp only [if_neg q1, if_neg (show ¬ y ≤ 30 by omega), if_neg qy, if_pos w0]
      exact ⟨-1000000002, -1000000002, μ, μ, rfl, rfl, rfl, hI⟩
