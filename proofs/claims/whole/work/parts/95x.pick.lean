/-! pick: the two sides step by step, each on a memory of its own -/
def InvT (μ : Mm) (t u : Nat) : Prop := TU μ t u ∧ LoomR μ t ∧ WR μ t 3 0 ∧ UndoR μ t ∧ ImageR μ t ∧ NotesR μ t ∧ TextR μ ∧ (gI μ 0 8 = gZ μ 333 242 ∧ 0 ≤ gI μ 0 8)
theorem InvT.side {μ ν : Mm} {t u : Nat} (hI : InvT μ t u) (hr : ∀ r, r ≠ 340 → r ≠ 333 → (r < 12 ∨ 20 < r) → ν r = μ r) (hv : ∀ k, 0 ≤ k → (k < 243 ∨ 486 ≤ k) → k < 8262 → gZ ν 333 k = gZ μ 333 k) : InvT ν t u := by
  obtain ⟨hT, hL, hW, hU, hG, hN, hX, hS⟩ := id hI
  have ht := hT.r
  have g0 := gI_row (hr 0 (by decide) (by decide) (by decide))
  have g332 := gI_row (hr 332 (by decide) (by decide) (by decide))
  refine ⟨hT.fr (g0 6) (g0 7), hL.fr (fun r h => hr r (by omega) (by omega) (by omega)) (g332 2) (g332 6) (g332 9), hW.fr hL (fun r h => hr r (by omega) (by omega) (by omega)) (fun k a b => hv _ (by omega) (by omega) (by omega)), hU.fr hL (fun r h => hr r (by omega) (by omega) (by omega)) (g332 18) (fun k a b => hv k (by omega) (by omega) b), hG.fr hL (fun r h => hr r (by omega) (by omega) (by omega)) (fun k a b => hv k (by omega) (by omega) (by omega)), hN.fr (fun r h => hr r (by omega) (by omega) (by omega)) (g332 23) (g332 26), hX.fr (fun r h => hr r (by omega) (by omega) (by omega)) (g332 13) (g332 17), ?_⟩
  rw [g0 8, hv 242 (by decide) (by decide) (by decide)]
  exact hS
def mg (μX μM : Mm) : Mm := fun r => if r < 332 then μX r else μM r
theorem mg_x {μX μM : Mm} {r : Nat} (h : r < 332) : mg μX μM r = μX r := if_pos h
theorem mg_m {μX μM : Mm} {r : Nat} (h : 332 ≤ r) : mg μX μM r = μM r := if_neg (by omega)
def Sim (μX μM : Mm) (t u : Nat) : Prop := (∀ r, ((300 ≤ r ∧ r ≤ 311) ∨ r = 335 ∨ r = 337) → μM r = μX r) ∧ (∀ k, (k = 2 ∨ k = 6 ∨ k = 9) → gI μM 332 k = gI μX 332 k) ∧ InvT (mg μX μM) t u
theorem Sim.same {μ : Mm} {t u : Nat} (h : InvT μ t u) : Sim μ μ t u := by
  refine ⟨fun _ _ => rfl, fun _ _ => rfl, ?_⟩
  have : mg μ μ = μ := funext (fun r => by unfold mg; by_cases q : r < 332 <;> simp only [q, ↓reduceIte])
  rw [this]; exact h
theorem Sim.tr {μX μM : Mm} {t u : Nat} (h : Sim μX μM t u) : 300 ≤ t ∧ t ≤ 306 := h.2.2.1.r
theorem Sim.lx {μX μM : Mm} {t u : Nat} (h : Sim μX μM t u) : LoomR μX t := by
  have ht := h.tr
  obtain ⟨h1, h2, -, hL, -⟩ := id h
  refine hL.fr (fun r hr => ?_) ?_ ?_ ?_
  · by_cases q : r < 332
    · rw [mg_x q]
    · rw [mg_m (by omega), h1 r (by omega)]
  · rw [gI_row (mg_m (by decide)), h2 2 (by decide)]
  · rw [gI_row (mg_m (by decide)), h2 6 (by decide)]
  · rw [gI_row (mg_m (by decide)), h2 9 (by decide)]
theorem Sim.lm {μX μM : Mm} {t u : Nat} (h : Sim μX μM t u) : LoomR μM t := by
  have ht := h.tr
  obtain ⟨h1, h2, -, hL, -⟩ := id h
  refine hL.fr (fun r hr => ?_) ?_ ?_ ?_
  · by_cases q : r < 332
    · rw [mg_x q, h1 r (by omega)]
    · rw [mg_m (by omega)]
  · rw [gI_row (mg_m (by decide))]
  · rw [gI_row (mg_m (by decide))]
  · rw [gI_row (mg_m (by decide))]
/-- the state of the class' rows and the reference's block, as a relation of two memories -/
theorem Sim.w {μX μM : Mm} {t u : Nat} (h : Sim μX μM t u) {w : Int → Int} (hb : BlkR μM 0 w) : TRf 9030 (gI μX t 5) (gI μX t 6) (fun j c => gZ μX (3 + j) c) (gI μX 3 8) w := by
  have ht := h.tr
  obtain ⟨⟨e5, a5, b5⟩, ⟨e6, a6, b6⟩, -⟩ := id h.lx
  have hW := h.2.2.2.2.1
  unfold WR at hW
  rw [gI_row (mg_x (show t < 332 by omega)), gI_row (mg_x (show t < 332 by omega)), gI_row (mg_x (show 3 < 332 by decide))] at hW
  refine TRf.of (WRf.fr ⟨a5, b5⟩ ⟨a6, b6⟩ hW (fun j i p1 p2 _ _ _ _ => ?_) (fun k k0 k1 => ?_))
  · exact (gZ_row (mg_x (by omega)) i).symm
  · rw [gZ_row (mg_m (by decide)), hb k k0 k1]
theorem wr_mg {νX νM : Mm} {t : Nat} (ht : t ≤ 306) {w : Int → Int} {M K C : Int} (hK : 0 ≤ K ∧ K ≤ 8) (hC : 0 ≤ C ∧ C ≤ 8) (e5 : gI νX t 5 = K) (e6 : gI νX t 6 = C) (hT : TRf M K C (fun j c => gZ νX (3 + j) c) (gI νX 3 8) w) (hp : gI νX 3 8 ≤ 9030) (hb : BlkR νM 0 w) : WR (mg νX νM) t 3 0 := by
  unfold WR
  rw [gI_row (mg_x (show t < 332 by omega)), gI_row (mg_x (show t < 332 by omega)), gI_row (mg_x (show 3 < 332 by decide)), e5, e6]
  refine WRf.fr hK hC (hT.to hp) (fun j i p1 p2 _ _ _ _ => ?_) (fun k k0 k1 => ?_)
  · exact gZ_row (mg_x (by omega)) i
  · rw [gZ_row (mg_m (by decide)), hb k k0 k1]
/-- a deed: remember on both sides, then section 2 changes alike -/
theorem Sim.deed (N : Nat) (hNB : NB N) {μX μM ν1 ν2 νX νM : Mm} {t u : Nat} (h : Sim μX μM t u) (hx : fX1_remember N 3 μX = some ν1) (hm : fX9_remember N μM = some ν2) (rx : ∀ r, r < 332 → (r < 3 ∨ 11 < r) → r ≠ 0 → νX r = ν1 r) (rx3 : ∀ r, 332 ≤ r → νX r = ν1 r) (rx6 : gI νX 0 6 = gI ν1 0 6) (rx7 : gI νX 0 7 = gI ν1 0 7) (rm : ∀ r, r ≠ 333 → νM r = ν2 r) (rm2 : ∀ k, 486 ≤ k → k < 8262 → gZ νM 333 k = gZ ν2 333 k) (hw : WR (mg νX νM) t 3 0) (hs : gI νX 0 8 = gZ νM 333 242 ∧ 0 ≤ gI νX 0 8) : Sim νX νM t u := by
  have ht := h.tr
  obtain ⟨h1, h2, hT, hL, hW, hU, hG, hN, hX, hS⟩ := id h
  obtain ⟨⟨u1, u2⟩, ⟨u3, u4, u5⟩, u6⟩ := id hU
  rw [gI_row (mg_x (show 21 < 332 by decide))] at u1 u2 u3 u4 u5
  rw [gI_row (mg_m (show 332 ≤ 332 by decide))] at u3
  obtain ⟨ν1', f1, f2, f3, f4, f5, f6, f7⟩ := x_remember N μX ⟨u1, u2⟩ ⟨u4, u5⟩
  rw [hx] at f1
  obtain rfl := Option.some.inj f1
  obtain ⟨ν2', g1, g2, g3, g4, g5, g6, g7⟩ := m_remember N hNB μM (by rw [← u3]; exact ⟨u4, u5⟩)
  rw [hm] at g1
  obtain rfl := Option.some.inj g1
  -- rows of the two results
  have qx : ∀ r, r < 332 → (r < 3 ∨ 11 < r) → (r < 21 ∨ r = 22 ∨ 292 < r) → r ≠ 0 → νX r = μX r := fun r a b c d => by rw [rx r a b d, f2 r c]
  have qm : ∀ r, 332 < r → r ≠ 333 → νM r = μM r := fun r a b => by rw [rm r b, g2 r (by omega) b]
  have qf : ∀ k, k ≠ 18 → gI νM 332 k = gI μM 332 k := fun k hk => by rw [gI_row (rm 332 (by decide)), g3 k hk]
  have q0 : ∀ k, gI ν1 0 k = gI μX 0 k := fun k => gI_row (f2 0 (by decide)) k
  have rr : ∀ r, r ≠ 0 → (r < 3 ∨ 11 < r) → (r < 21 ∨ r = 22 ∨ 292 < r) → r ≠ 332 → r ≠ 333 → mg νX νM r = mg μX μM r := fun r a b c d e => by
    by_cases q : r < 332
    · rw [mg_x q, mg_x q, qx r q b c a]
    · rw [mg_m (by omega), mg_m (by omega), qm r (by omega) e]
  have i332 : ∀ k, k ≠ 18 → gI (mg νX νM) 332 k = gI (mg μX μM) 332 k := fun k hk => by rw [gI_row (mg_m (by decide)), gI_row (mg_m (by decide)), qf k hk]
  have v333 : ∀ k, 486 ≤ k → k < 972 → gZ (mg νX νM) 333 k = gZ (mg μX μM) 333 k := fun k a b => by rw [gZ_row (mg_m (by decide)), gZ_row (mg_m (by decide)), rm2 k a (by omega), g5 k (by omega) b]
  refine ⟨fun r hr => ?_, fun k hk => ?_, ⟨?_, ?_, ?_⟩, hL.fr (fun r hr => rr r (by omega) (by omega) (by omega) (by omega) (by omega)) (i332 2 (by decide)) (i332 6 (by decide)) (i332 9 (by decide)), hw, ?_, hG.fr hL (fun r hr => rr r (by omega) (by omega) (by omega) (by omega) (by omega)) (fun k a b => v333 k a b), hN.fr (fun r hr => rr r (by omega) (by omega) (by omega) (by omega) (by omega)) (i332 23 (by decide)) (i332 26 (by decide)), hX.fr (fun r hr => rr r (by omega) (by omega) (by omega) (by omega) (by omega)) (i332 13 (by decide)) (i332 17 (by decide)), ?_⟩
  · by_cases q : r < 332
    · rw [rm r (by omega), g2 r (by omega) (by omega), h1 r hr, qx r q (by omega) (by omega) (by omega)]
    · rw [rm r (by omega), g2 r (by omega) (by omega), h1 r hr, rx3 r (by omega), f2 r (by omega)]
  · rw [qf k (by omega), h2 k hk, gI_row (rx3 332 (by decide)), gI_row (f2 332 (by decide))]
  · rw [gI_row (mg_x (by decide)), rx6, q0]
    have := hT.1
    rw [gI_row (mg_x (by decide))] at this
    exact this
  · rw [gI_row (mg_x (by decide)), rx7, q0]
    have := hT.2.1
    rw [gI_row (mg_x (by decide))] at this
    exact this
  · exact hT.2.2
  · -- what can be undone
    have e21 : ∀ k, gI (mg νX νM) 21 k = gI ν1 21 k := fun k => by rw [gI_row (mg_x (by decide)), gI_row (rx 21 (by decide) (by decide) (by decide))]
    have m21 : ∀ k, gI (mg μX μM) 21 k = gI μX 21 k := fun k => gI_row (mg_x (by decide)) k
    have m33 : ∀ k, gI (mg μX μM) 332 k = gI μM 332 k := fun k => gI_row (mg_m (by decide)) k
    have eb : ∀ r, 21 ≤ r → r ≤ 292 → mg νX νM r = ν1 r := fun r a b => by rw [mg_x (by omega), rx r (by omega) (by omega) (by omega)]
    have et : ∀ k, gI (mg νX νM) t k = gI (mg μX μM) t k := fun k => gI_row (rr t (by omega) (by omega) (by omega) (by omega) (by omega)) k
    have hb : 0 ≤ (if gI μM 332 18 < 30 then gI μM 332 18 else 29) ∧ (if gI μM 332 18 < 30 then gI μM 332 18 else 29) ≤ 29 := by
      by_cases q : gI μM 332 18 < 30
      · rw [if_pos q]; omega
      · rw [if_neg q]; omega
    refine undo_after hL hW hU (et 5) (et 6) ?_ ?_ ?_ (fun r a b c => ?_) ?_ (fun j i b1 b2 b3 b4 b5 b6 => ?_) (fun j k a1 a2 a3 a4 => ?_) (fun k a1 a2 => ?_)
    · rw [e21, m21, f3]
    · rw [e21, m21, f4]
    · rw [gI_row (mg_m (by decide)), gI_row (rm 332 (by decide)), m33, g4]
    · rw [m21] at c
      rw [eb r (by omega) b, mg_x (by omega), f5 r a b c]
    · rw [m21, gI_row (eb _ (by omega) (by omega)), f6, gI_row (mg_x (by decide))]
    · rw [m21, gZ_row (eb _ (by omega) (by omega)), f7 j i b1 b2 b3 b4 b5 b6, gZ_row (mg_x (by omega))]
    · rw [m33] at a2 ⊢
      rw [gZ_row (mg_m (by decide)), rm2 _ (by omega) (by omega), g6 j k a1 a2 a3 a4, gZ_row (mg_m (by decide))]
    · rw [m33, gZ_row (mg_m (by decide)), rm2 _ (by omega) (by omega), g7 k a1 a2, gZ_row (mg_m (by decide))]
  · rw [gI_row (mg_x (by decide)), gZ_row (mg_m (by decide))]
    exact hs
/-- remember on each side, from the relation -/
theorem Sim.rx {μX μM : Mm} {t u : Nat} (N : Nat) (h : Sim μX μM t u) : ∃ ν1, fX1_remember N 3 μX = some ν1 ∧ (∀ r, (r < 21 ∨ r = 22 ∨ 292 < r) → ν1 r = μX r) := by
  obtain ⟨h1, h2, hT, hL, hW, hU, hG, hN, hX, hS⟩ := id h
  obtain ⟨⟨u1, u2⟩, ⟨u3, u4, u5⟩, u6⟩ := id hU
  rw [gI_row (mg_x (show 21 < 332 by decide))] at u1 u2 u4 u5
  obtain ⟨ν1, f1, f2, -⟩ := x_remember N μX ⟨u1, u2⟩ ⟨u4, u5⟩
  exact ⟨ν1, f1, f2⟩
theorem Sim.rm {μX μM : Mm} {t u : Nat} (N : Nat) (hNB : NB N) (h : Sim μX μM t u) : ∃ ν2, fX9_remember N μM = some ν2 ∧ (∀ r, r ≠ 332 → r ≠ 333 → ν2 r = μM r) ∧ (∀ k, k ≠ 18 → gI ν2 332 k = gI μM 332 k) ∧ (∀ k, 0 ≤ k → k < 972 → gZ ν2 333 k = gZ μM 333 k) := by
  obtain ⟨h1, h2, hT, hL, hW, hU, hG, hN, hX, hS⟩ := id h
  obtain ⟨⟨u1, u2⟩, ⟨u3, u4, u5⟩, u6⟩ := id hU
  rw [u3, gI_row (mg_m (show 332 ≤ 332 by decide))] at u4 u5
  obtain ⟨ν2, g1, g2, g3, g4, g5, -⟩ := m_remember N hNB μM ⟨u4, u5⟩
  exact ⟨ν2, g1, g2, g3, g5⟩
theorem pick_l (N : Nat) (hNB : NB N) {m y : Int} (m0 : 0 ≤ m) (m1 : m < 2147483648) (hy : y ≤ 30) {t u : Nat} : ∀ (n : Nat) (i : Int) (μX μ0 : Mm) (w : Int → Int), Sim μX μ0 t u → BlkR μ0 0 w → 0 ≤ i → i ≤ y → y - i < n → gI μX 3 8 + (y - i) ≤ 9030 → (∀ j : Nat, (j : Int) < y - i → GdP (gI μX t 5) (gI μX t 6) (runF (fun j => gZ μX 335 j) (hwQ μX t m) (gI μX t 6) (j + 1) w)) → ∃ p νX, fX8_pick_l66 N m y n i μX = some (p, νX) ∧ (∀ r, ((300 ≤ r ∧ r ≤ 311) ∨ 332 ≤ r) → νX r = μX r) ∧ ∀ μM, Sim μX μM t u → ∃ νM, fX9_pick_l60 N m y n i μM = some (p, νM) ∧ (∀ r, r < 332 → νM r = μM r) ∧ Sim νX νM t u := by
  intro n
  induction n with
  | zero => intro i μX μ0 w _ _ h0 h1 h2; omega
  | succ n ih =>
    intro i μX μ0 w hS0 hb0 h0 h1 h2 hp hg
    have ht := hS0.tr
    have htc : t = 300 ∨ t = 306 := hS0.2.2.1.2.2.imp (fun z => z.1) (fun z => z.1)
    rw [fX8_pick_l66, wr_id (a := y) (by omega) (by omega), wr_id (a := i) (by omega) (by omega)]
    by_cases q : y ≤ i
    · rw [if_pos q]
      refine ⟨_, _, rfl, fun _ _ => rfl, fun μM hS => ⟨μM, ?_, fun _ _ => rfl, hS⟩⟩
      rw [fX9_pick_l60, wr_id (a := y) (by omega) (by omega), wr_id (a := i) (by omega) (by omega), if_pos q]
      unfold fX9_pick_k81
      rw [ldA_ok (by decide) (by decide) (by decide), ob_s]
      have := (hS.2.2.2.2.1.pk).1
      rw [gI_row (mg_x (by decide)), gZ_row (mg_m (by decide))] at this
      rw [← this]
    · obtain ⟨ν1, f1, f2⟩ := hS0.rx N
      have hLx := hS0.lx
      have tt : (gI ν1 0 6).toNat = t := by
        have h6 := hS0.2.2.1.1
        rw [gI_row (mg_x (by decide))] at h6
        rw [gI_row (f2 0 (by decide)) 6, h6, Int.toNat_natCast]
      have hL1 : LoomR ν1 t := hLx.fr (fun r h => f2 r (by omega)) (gI_row (f2 332 (by decide)) 2) (gI_row (f2 332 (by decide)) 6) (gI_row (f2 332 (by decide)) 9)
      have k5 : gI ν1 t 5 = gI μX t 5 := gI_row (f2 t (by omega)) 5
      have k6 : gI ν1 t 6 = gI μX t 6 := gI_row (f2 t (by omega)) 6
      have kG : (fun j => gZ ν1 335 j) = (fun j => gZ μX 335 j) := G_row (f2 335 (by omega))
      have kH : hwQ ν1 t m = hwQ μX t m := H_row (f2 (t + 3) (by omega))
      have k8 : gI ν1 3 8 = gI μX 3 8 := gI_row (f2 3 (by decide)) 8
      obtain ⟨⟨e5, a5, b5⟩, ⟨e6, a6, b6⟩, -⟩ := id hLx
      -- the class' pick, held against any state w of the reference that the relation allows
      have wv : ∀ (μM : Mm) (w : Int → Int), Sim μX μM t u → BlkR μM 0 w → ∃ r νX, fX7_weaveOnce N 3 t m ν1 = some (r, νX) ∧ (∀ x, (x < 3 ∨ 11 < x) → νX x = ν1 x) ∧ ((r = 1 ∧ GdP (gI μX t 5) (gI μX t 6) (PVf (fun j => gZ μX 335 j) (hwQ μX t m) w (gI μX t 6)) ∧ TRf 9031 (gI μX t 5) (gI μX t 6) (fun j c => gZ νX (3 + j) c) (gI νX 3 8) (PVf (fun j => gZ μX 335 j) (hwQ μX t m) w (gI μX t 6)) ∧ gI νX 3 8 = gI μX 3 8 + 1) ∨ (r = 0 ∧ ¬ GdP (gI μX t 5) (gI μX t 6) (PVf (fun j => gZ μX 335 j) (hwQ μX t m) w (gI μX t 6)))) := by
        intro μM w hS hb
        have hT := hS.w hb
        obtain ⟨r, νX, g1, g2, g3⟩ := x_weave N hNB (a := 3) (t := t) (by omega) hL1 (by decide) m0 m1 (M := 9030) (v := w) (by decide) (by rw [k5, k6, k8]; exact hT.cg (fun j p1 p2 _ i => gZ_row (f2 _ (by omega)) i))
        rw [k5, k6, kG, kH, k8] at g3
        refine ⟨r, νX, g1, fun x h => g2 x (by omega), g3.imp (fun z => ⟨z.1, z.2.1, z.2.2.1, z.2.2.2⟩) (fun z => ⟨z.1, z.2.1⟩)⟩
      obtain ⟨r, νX, g1, g2, g3⟩ := wv μ0 w hS0 hb0
      have g3' := g3.resolve_right (fun z => z.2 (hg 0 (by omega)))
      obtain ⟨rfl, -, gT, gp⟩ := g3'
      -- the reference's step
      have step : ∀ μM, Sim μX μM t u → ∀ w2, BlkR μM 0 w2 → ∃ ν2 νM, fX9_remember N μM = some ν2 ∧ fX9_pickIn N 0 m ν2 = some νM ∧ (∀ r, r < 332 → νM r = μM r) ∧ Sim νX νM t u ∧ BlkR νM 0 (PVf (fun j => gZ μX 335 j) (hwQ μX t m) w2 (gI μX t 6)) := by
        intro μM hS w2 hb2
        obtain ⟨r2, νX2, g1', g2', g3'⟩ := wv μM w2 hS hb2
        rw [g1] at g1'
        obtain ⟨rfl, rfl⟩ := Prod.mk.inj (Option.some.inj g1')
        obtain ⟨-, -, gT2, -⟩ := g3'.resolve_right (fun z => absurd z.1 (by decide))
        obtain ⟨ν2, c1, c2, c3, c4⟩ := hS.rm N hNB
        have hLm := hS.lm
        have hL2 : LoomR ν2 t := hLm.fr (fun r h => c2 r (by omega) (by omega)) (c3 2 (by decide)) (c3 6 (by decide)) (c3 9 (by decide))
        have j5 : gI ν2 t 5 = gI μX t 5 := by rw [gI_row (c2 t (by omega) (by omega)), gI_row (hS.1 t (by omega))]
        have j6 : gI ν2 t 6 = gI μX t 6 := by rw [gI_row (c2 t (by omega) (by omega)), gI_row (hS.1 t (by omega))]
        have jG : (fun j => gZ ν2 335 j) = (fun j => gZ μX 335 j) := G_row (by rw [c2 335 (by decide) (by decide), hS.1 335 (by omega)])
        have jH : hwQ ν2 t m = hwQ μX t m := H_row (by rw [c2 (t + 3) (by omega) (by omega), hS.1 (t + 3) (by omega)])
        have hV := (hS.w hb2).ok (by decide)
        obtain ⟨νM, d1, d2, d3, d4⟩ := m_pickIn N hNB (by omega) hL2 (o := 0) (m := m) (by decide) m0 m1 (v := w2) (by rw [j5, j6]; exact hV) (fun k k0 k1 => by rw [Int.zero_add, c4 k k0 (by omega)]; have := hb2 k k0 k1; rw [Int.zero_add] at this; exact this)
        rw [j6, jG, jH] at d4
        refine ⟨ν2, νM, c1, d1, fun r hr => by rw [d2 r (by omega), c2 r (by omega) (by omega)], ?_, d4⟩
        refine hS.deed N hNB f1 c1 (fun r a b _ => g2 r b) (fun r a => g2 r (by omega)) (by rw [gI_row (g2 0 (by decide))]) (by rw [gI_row (g2 0 (by decide))]) d2 (fun k a b => d3 k (by omega) (by omega)) (wr_mg (by omega) ⟨a5, b5⟩ ⟨a6, b6⟩ (by rw [gI_row (g2 t (by omega)), k5]) (by rw [gI_row (g2 t (by omega)), k6]) gT2 (by omega) d4) ?_
        have hs := hS.2.2.2.2.2.2.2.2.2
        rw [gI_row (mg_x (by decide)), gZ_row (mg_m (by decide))] at hs
        rw [gI_row (g2 0 (by decide)), gI_row (f2 0 (by decide)), d3 242 (by decide) (by decide), c4 242 (by decide) (by decide)]
        exact hs
      obtain ⟨ν20, νM0, -, -, -, s4, s5⟩ := step μ0 hS0 w hb0
      have kGx : (fun j => gZ νX 335 j) = (fun j => gZ μX 335 j) := by rw [G_row (g2 335 (by omega)), kG]
      have kHx : hwQ νX t m = hwQ μX t m := by rw [H_row (g2 (t + 3) (by omega)), kH]
      have x5 : gI νX t 5 = gI μX t 5 := by rw [gI_row (g2 t (by omega)), k5]
      have x6 : gI νX t 6 = gI μX t 6 := by rw [gI_row (g2 t (by omega)), k6]
      obtain ⟨p, νX2, i1, i2, i3⟩ := ih (i + 1) νX νM0 (PVf (fun j => gZ μX 335 j) (hwQ μX t m) w (gI μX t 6)) s4 s5 (by omega) (by omega) (by omega) (by omega) (fun j hj => by rw [x5, x6, kGx, kHx]; exact hg (j + 1) (by omega))
      refine ⟨p, νX2, ?_, fun r hr => by rw [i2 r hr, g2 r (by omega), f2 r (by omega)], fun μM hS => ?_⟩
      · rw [if_neg q, f1, ob_s, tt, gd_p hS0.2.2.1.kt, g1, bP_s]
        exact i1
      · obtain ⟨ν2, νM, s1, s2, s3, s4', -⟩ := step μM hS (fun k => gZ μM 333 (0 + k)) (fun k _ _ => rfl)
        obtain ⟨νM2, j1, j2, j3⟩ := i3 νM s4'
        refine ⟨νM2, ?_, fun r hr => by rw [j2 r hr, s3 r hr], j3⟩
        rw [fX9_pick_l60, wr_id (a := y) (by omega) (by omega), wr_id (a := i) (by omega) (by omega), if_neg q, s1, ob_s, s2, ob_s]
        exact j1
theorem okp_pick (N : Nat) (hNB : NB N) : ok_pick N Inv := by
  intro μ m y hm hy hI
  obtain ⟨t, u, hT, hL, hW, hU, hG, hN, hX, hS⟩ := id hI
  have ht := hT.r
  have htc : t = 300 ∨ t = 306 := hT.2.2.imp (fun z => z.1) (fun z => z.1)
  have hN2 : 300 ≤ N := hNB
  have w1 : ¬ wr (1 : Int) = 0 := by decide
  have w0 : wr (0 : Int) = 0 := by decide
  obtain ⟨⟨e5, a5, b5⟩, ⟨e6, a6, b6⟩, -⟩ := id hL
  obtain ⟨rm, rm1, rm2, rm3⟩ := r_moves N hNB hL m hm
  have hin : ∀ μ', fX9_in N y 1 30 μ' = some (if 1 ≤ y ∧ y ≤ 30 then 1 else 0) := fun μ' => p_in N y 1 30 μ' (by omega) (by omega) (by omega)
  unfold fX8_pick fX9_pick
  simp only [hT.t, gd_p hT.kt, rm1, ob_s, p_isMade, wr_id hy.1 hy.2, hin]
  by_cases qm : rm = 0
  · rw [qm]
    refine ⟨-1000000002, -1000000002, μ, μ, by simp only [if_pos w0], by rw [rm2, ob_s, qm, if_pos w0], rfl, hI⟩
  obtain ⟨rfl, m0, m80⟩ := rm3.resolve_left qm
  simp only [if_neg w1]
  by_cases qy : 1 ≤ y ∧ y ≤ 30
  · simp only [if_neg (show ¬ y < 1 by omega), if_pos qy.2, if_pos qy]
    by_cases qk : 0 < gI μ t 5
    · simp only [if_pos qk, if_neg w1]
      obtain ⟨ν0, c1, c2, c3⟩ := x_trial N hT hL hW
      obtain ⟨r, ν1, x1, x2, x3, x4, x5, x6⟩ := x_count N hNB hT hL (m := m) (y := y) m0 (by omega) (by omega) N 0 ν0 (fun k => gZ μ 333 (0 + k)) 9030 (by decide) (by omega) (by omega) (by omega) c2 c3
      rw [Int.zero_add] at x1 x3 x5
      have hcp : fX8_countPicks N m y μ = some ((r : Int), ν1) := by
        unfold fX8_countPicks
        rw [c1, ob_s, x1]
      rw [hcp, bP_s, wr_id (a := (r : Int)) (by omega) (by omega), wr_gI, gI_row (x2 3 (by decide))]
      -- the reference up to the end of its trial
      have mod : ∀ μ1 : Mm, (∀ r, ((300 ≤ r ∧ r ≤ 311) ∨ 332 ≤ r) → μ1 r = μ r) → fX9_isMoves N m μ1 = some 1 ∧ fX9_isLoom N μ1 = some 1 ∧ ∃ μ2, fX9_canPick N m y μ1 = some (if (r : Int) = y then 1 else 0, μ2) ∧ (∀ x, x ≠ 333 → μ2 x = μ1 x) ∧ (∀ k, 0 ≤ k → (k < 243 ∨ 486 ≤ k) → gZ μ2 333 k = gZ μ 333 k) := by
        intro μ1 hμ1
        have hL1 : LoomR μ1 t := hL.fr (fun x h => hμ1 x (by omega)) (gI_row (hμ1 332 (by omega)) 2) (gI_row (hμ1 332 (by omega)) 6) (gI_row (hμ1 332 (by omega)) 9)
        have k5 : gI μ1 t 5 = gI μ t 5 := gI_row (hμ1 t (by omega)) 5
        have k6 : gI μ1 t 6 = gI μ t 6 := gI_row (hμ1 t (by omega)) 6
        have kG : (fun j => gZ μ1 335 j) = (fun j => gZ μ 335 j) := G_row (hμ1 335 (by omega))
        have kH : hwQ μ1 t m = hwQ μ t m := H_row (hμ1 (t + 3) (by omega))
        have kb : (fun k => gZ μ1 333 (0 + k)) = (fun k => gZ μ 333 (0 + k)) := funext (fun k => gZ_row (hμ1 333 (by omega)) _)
        obtain ⟨r2, s1, s2, s3⟩ := r_moves N hNB hL1 m hm
        have hr2 : r2 = 1 := by
          have e : fX5_takesMoves N t m μ1 = fX5_takesMoves N t m μ := by
            have key : ∀ n x k, fX5_takesMoves_l4 N t m μ1 n x k = fX5_takesMoves_l4 N t m μ n x k := by
              intro n
              induction n with
              | zero => intro x k; rfl
              | succ n ih => intro x k; rw [fX5_takesMoves_l4, fX5_takesMoves_l4, gI_row (hμ1 t (by omega)), ih]
            exact key N 1 0
          rw [e, rm1] at s1
          exact (Option.some.inj s1).symm
        obtain ⟨μ3, d1, d2, d3, d4⟩ := m_trial N hNB (μ := μ1)
        obtain ⟨μ2, l1, l2, l3⟩ := m_can N hNB (by omega) hL1 (m := m) (y := y) m0 (by omega) (by omega) r N 0 μ3 (fun k => gZ μ 333 (0 + k)) (by decide) (by omega) (by omega) d2 d3 (by rw [← kb]; exact d4) (by rw [k5, k6]; exact c3.ok (by decide)) (by have := c3.p; show gZ μ 333 (0 + 48) + (r : Int) ≤ 19000; have e := this.1; omega) (by rw [k5, k6, kG, kH]; exact x4) (by rw [k5, k6, kG, kH, Int.zero_add]; exact x5)
        rw [Int.zero_add] at l1
        refine ⟨by rw [s2, hr2], by rw [p_isLoom, gI_row (hμ1 332 (by omega)), e5, if_pos qk], μ2, ?_, l2, fun k k0 k1 => by rw [l3 k k0 k1, gZ_row (hμ1 333 (by omega))]⟩
        unfold fX9_canPick
        rw [d1, ob_s]
        exact l1
      have side : ∀ μ1 μ2 : Mm, (∀ x, (x < 12 ∨ 20 < x) → μ1 x = μ x) → (∀ x, x ≠ 333 → μ2 x = μ1 x) → (∀ k, 0 ≤ k → (k < 243 ∨ 486 ≤ k) → gZ μ2 333 k = gZ μ 333 k) → Inv μ2 := fun μ1 μ2 h1 h2 h3 => hI.side (fun x a b c => by rw [h2 x b, h1 x c]) (fun k k0 k1 _ => h3 k k0 k1)
      by_cases qr : y ≤ (r : Int)
      · have er : (r : Int) = y := by omega
        rw [if_pos qr]
        by_cases q9 : gI μ 3 8 ≤ 9000
        · rw [if_pos q9]
          have hI1 : InvT ν1 t u := InvT.side (μ := μ) ⟨hT, hL, hW, hU, hG, hN, hX, hS⟩ (fun r a b c => x2 r c) (fun k _ _ _ => gZ_row (x2 333 (by omega)) k)
          have z5 : gI ν1 t 5 = gI μ t 5 := gI_row (x2 t (by omega)) 5
          have z6 : gI ν1 t 6 = gI μ t 6 := gI_row (x2 t (by omega)) 6
          obtain ⟨p, νX, y1, y2, y3⟩ := pick_l N hNB (m := m) (y := y) m0 (by omega) (by omega) (t := t) (u := u) N 0 ν1 ν1 (fun k => gZ μ 333 (0 + k)) (Sim.same hI1) (fun k _ _ => gZ_row (x2 333 (by omega)) _) (by decide) (by omega) (by omega) (by rw [gI_row (x2 3 (by decide))]; omega) (fun j hj => by
            rw [z5, z6, G_row (x2 335 (by omega)), H_row (x2 (t + 3) (by omega))]
            exact x4 j (by omega))
          obtain ⟨v1, v2, μ2, v3, v4, v5⟩ := mod νX (fun r hr => by rw [y2 r hr, x2 r (by omega)])
          have hSm : Sim ν1 μ2 t u := by
            refine ⟨fun r hr => by rw [v4 r (by omega), y2 r (by omega)], fun k hk => by rw [gI_row (v4 332 (by decide)), gI_row (y2 332 (by omega))], ?_⟩
            refine InvT.side hI1 (fun r a b c => ?_) (fun k k0 k1 _ => ?_)
            · by_cases z : r < 332
              · rw [mg_x z]
              · rw [mg_m (by omega), v4 r b, y2 r (by omega)]
            · rw [gZ_row (mg_m (by decide)), v5 k k0 k1, gZ_row (x2 333 (by omega))]
          obtain ⟨νM, l1, l2, l3⟩ := y3 μ2 hSm
          refine ⟨p, p, νX, νM, y1, ?_, rfl, t, u, ?_⟩
          · rw [v1, ob_s, if_neg w1, v2, ob_s, if_neg w1, v3, bP_s, if_pos er, if_neg w1, ldA_ok (by decide) (by decide) (by decide), ob_s, v5 48 (by decide) (by decide), wr_gZ, if_pos (by have := (hW.pk).1; omega)]
            exact l1
          · have e : mg νX νM = νM := funext (fun r => by
              by_cases z : r < 332
              · rw [mg_x z, l2 r z, v4 r (by omega)]
              · rw [mg_m (by omega)])
            have := l3.2.2
            rw [e] at this
            exact this
        · rw [if_neg q9]
          obtain ⟨v1, v2, μ2, v3, v4, v5⟩ := mod ν1 (fun r hr => x2 r (by omega))
          refine ⟨-1000000004, -1000000004, ν1, μ2, rfl, ?_, rfl, side ν1 μ2 x2 v4 v5⟩
          rw [v1, ob_s, if_neg w1, v2, ob_s, if_neg w1, v3, bP_s, if_pos er, if_neg w1, ldA_ok (by decide) (by decide) (by decide), ob_s, v5 48 (by decide) (by decide), wr_gZ, if_neg (by have := (hW.pk).1; omega)]
      · rw [if_neg qr]
        obtain ⟨v1, v2, μ2, v3, v4, v5⟩ := mod ν1 (fun r hr => x2 r (by omega))
        refine ⟨-1000000003, -1000000003, ν1, μ2, rfl, ?_, rfl, side ν1 μ2 x2 v4 v5⟩
        rw [v1, ob_s, if_neg w1, v2, ob_s, if_neg w1, v3, bP_s, if_neg (show ¬ (r : Int) = y by omega), if_pos w0]
    · simp only [if_neg qk, if_pos w0]
      refine ⟨-1000000003, -1000000003, μ, μ, rfl, ?_, rfl, hI⟩
      rw [rm2, ob_s, if_neg w1, p_isLoom, e5, if_neg qk, ob_s, if_pos w0, if_neg w1]
  · by_cases q1 : y < 1
    · simp only [if_pos q1, if_neg qy, if_pos w0]
      refine ⟨-1000000002, -1000000002, μ, μ, rfl, ?_, rfl, hI⟩
      rw [rm2, ob_s, if_neg w1]
    · simp only [if_neg q1, if_neg (show ¬ y ≤ 30 by omega), if_neg qy, if_pos w0]
      refine ⟨-1000000002, -1000000002, μ, μ, rfl, ?_, rfl, hI⟩
      rw [rm2, ob_s, if_neg w1]
