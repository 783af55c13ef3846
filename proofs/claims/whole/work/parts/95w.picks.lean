/-! many picks one behind the other; lasts; pick -/
def runF (G H : Int → Int) (C : Int) : Nat → (Int → Int) → (Int → Int)
  | 0, u => u
  | n + 1, u => runF G H C n (PVf G H u C)
theorem runF_s (G H : Int → Int) (C : Int) : ∀ (n : Nat) (u : Int → Int), runF G H C (n + 1) u = PVf G H (runF G H C n u) C := by
  intro n
  induction n with
  | zero => intro u; rfl
  | succ n ih => intro u; exact ih (PVf G H u C)
theorem G_row {μ ν : Mm} (h : ν 335 = μ 335) : (fun j => gZ ν 335 j) = (fun j => gZ μ 335 j) := funext (fun j => gZ_row h j)
theorem H_row {μ ν : Mm} {t : Nat} {m : Int} (h : ν (t + 3) = μ (t + 3)) : hwQ ν t m = hwQ μ t m := funext (fun c => by unfold hwQ; rw [gZ_row h])
theorem TRf.cg {M K C : Int} {X X' : Nat → Int → Int} {p : Int} {v : Int → Int} (h : TRf M K C X p v) (e : ∀ j, 1 ≤ j → j ≤ 8 → j ≠ 7 → ∀ i, X' j i = X j i) : TRf M K C X' p v := by
  obtain ⟨h1, h2, h3, h4, h5⟩ := h
  refine ⟨fun c a b => ?_, fun k a b => ?_, h3, h4, fun i c a b d f => ?_⟩
  · rw [e 2 (by decide) (by decide) (by decide), e 3 (by decide) (by decide) (by decide), e 4 (by decide) (by decide) (by decide), e 5 (by decide) (by decide) (by decide), e 1 (by decide) (by decide) (by decide)]
    exact h1 c a b
  · rw [e 6 (by decide) (by decide) (by decide)]
    exact h2 k a b
  · rw [e 8 (by decide) (by decide) (by decide)]
    exact h5 i c a b d f
theorem TRf.p {M K C : Int} {X : Nat → Int → Int} {p : Int} {v : Int → Int} (h : TRf M K C X p v) : p = v 48 ∧ 0 ≤ p ∧ p ≤ M := ⟨h.2.2.2.1.1, h.2.2.2.1.2.1, h.2.2.2.1.2.2.1⟩
theorem x_count (N : Nat) (hNB : NB N) {μ : Mm} {t u0 : Nat} (hTU : TU μ t u0) (hL : LoomR μ t) {m y : Int} (m0 : 0 ≤ m) (m1 : m < 2147483648) (hy : y ≤ 99) : ∀ (n : Nat) (i : Int) (μX : Mm) (u : Int → Int) (M : Int), 0 ≤ i → i ≤ y → y - i < n → M + (y - i) ≤ 19000 → (∀ r, (r < 12 ∨ 20 < r) → μX r = μ r) → TRf M (gI μ t 5) (gI μ t 6) (fun j c => gZ μX (12 + j) c) (gI μX 12 8) u → ∃ (r : Nat) (ν : Mm), fX8_countPicks_l13 N m y n i μX = some (i + r, ν) ∧ (∀ x, (x < 12 ∨ 20 < x) → ν x = μ x) ∧ i + r ≤ y ∧ (∀ j : Nat, j < r → GdP (gI μ t 5) (gI μ t 6) (runF (fun j => gZ μ 335 j) (hwQ μ t m) (gI μ t 6) (j + 1) u)) ∧ (i + r < y → ¬ GdP (gI μ t 5) (gI μ t 6) (runF (fun j => gZ μ 335 j) (hwQ μ t m) (gI μ t 6) (r + 1) u)) ∧ TRf 19000 (gI μ t 5) (gI μ t 6) (fun j c => gZ ν (12 + j) c) (gI ν 12 8) (runF (fun j => gZ μ 335 j) (hwQ μ t m) (gI μ t 6) r u) := by
  have hN2 : 300 ≤ N := hNB
  have htr := hTU.r
  have htc : t = 300 ∨ t = 306 := hTU.2.2.imp (fun z => z.1) (fun z => z.1)
  intro n
  induction n with
  | zero => intro i μX u M h0 h1 h2; omega
  | succ n ih =>
    intro i μX u M h0 h1 h2 hM hr hT
    rw [fX8_countPicks_l13, wr_id (a := y) (by omega) (by omega), wr_id (a := i) (by omega) (by omega)]
    by_cases q : y ≤ i
    · rw [if_pos q]
      exact ⟨0, μX, by rw [show i + ((0 : Nat) : Int) = i from Int.add_zero i], hr, by omega, fun j hj => by omega, fun hj => by omega, hT.mono (by omega)⟩
    · have ht : (gI μX 0 6).toNat = t := by rw [gI_row (hr 0 (by omega)) 6]; exact hTU.t
      have hL2 : LoomR μX t := hL.fr (fun r h => hr r (by omega)) (gI_row (hr 332 (by omega)) 2) (gI_row (hr 332 (by omega)) 6) (gI_row (hr 332 (by omega)) 9)
      have e5 : gI μX t 5 = gI μ t 5 := gI_row (hr t (by omega)) 5
      have e6 : gI μX t 6 = gI μ t 6 := gI_row (hr t (by omega)) 6
      obtain ⟨r, ν, g1, g2, g3⟩ := x_weave N hNB (a := 12) (t := t) (by omega) hL2 (by decide) m0 m1 (M := M) (by omega) (by rw [e5, e6]; exact hT)
      rw [e5, e6, G_row (hr 335 (by omega)), H_row (hr (t + 3) (by omega))] at g3
      rw [if_neg q, ht, gd_p hTU.kt, g1, bP_s]
      rcases g3 with ⟨rfl, g4, g5, -⟩ | ⟨rfl, g4, g5⟩
      · rw [if_neg (by decide)]
        obtain ⟨s, ν2, s1, s2, s3, s4, s5, s6⟩ := ih (i + 1) ν (PVf (fun j => gZ μ 335 j) (hwQ μ t m) u (gI μ t 6)) (M + 1) (by omega) (by omega) (by omega) (by omega) (fun x h => by rw [g2 x (by omega), hr x h]) g5
        refine ⟨s + 1, ν2, ?_, s2, by omega, fun j hj => ?_, fun hj => s5 (by omega), s6⟩
        · rw [s1]; congr 2; omega
        · cases j with
          | zero => exact g4
          | succ j => exact s4 j (by omega)
      · rw [if_pos (by decide)]
        refine ⟨0, ν, by rw [show i + ((0 : Nat) : Int) = i from Int.add_zero i], fun x h => by rw [g2 x (by omega), hr x h], by omega, fun j hj => by omega, fun _ => g4, ?_⟩
        show TRf 19000 _ _ _ _ u
        rw [gI_row (g5 12 (by decide)) 8]
        exact (hT.mono (by omega)).cg (fun j a b d i => gZ_row (g5 (12 + j) (by omega)) i)
theorem Vok_s {K C : Int} (hK : 0 ≤ K ∧ K ≤ 8) (hC : 0 ≤ C ∧ C ≤ 8) {μ : Mm} {t : Nat} {m : Int} {G u : Int → Int} (hv : Vok K C u) (hg : GdP K C (PVf G (hwQ μ t m) u C)) (h48 : u 48 + 1 ≤ 20000) : Vok K C (PVf G (hwQ μ t m) u C) := by
  obtain ⟨h1, h2, h3, h4, h5, h6⟩ := hv
  obtain ⟨p48, p49⟩ := PVf_48 G (hwQ μ t m) u C
  refine ⟨fun d d0 d1 => ?_, fun k k0 k1 => ?_, ?_, ?_, ?_, ?_⟩
  · obtain ⟨p1, -, -, -, p5, -⟩ := PVf_0 G (hwQ μ t m) u C (d := d) d0 (by omega)
    refine ⟨?_, hg.2 d d0 d1, by rw [p5]; exact (h1 d d0 d1).2.2⟩
    rw [p1]
    have := (h1 d d0 d1).1
    unfold qS; rw [if_pos d1]
    by_cases q1 : hwQ μ t m d = 1
    · rw [if_pos q1]; omega
    · rw [if_neg q1]
      by_cases q2 : hwQ μ t m d = 2
      · rw [if_pos q2]; omega
      · rw [if_neg q2]; exact this
  · have h := hg.1 k k0 k1
    have hn := qN_b G (hwQ μ t m) u k C.toNat
    have := h2 k k0 k1
    refine ⟨h, ?_⟩
    rw [(PVf_0 G (hwQ μ t m) u C (d := k) k0 (by omega)).2.2.2.2.2]
    omega
  · rw [p49]
    by_cases q : u 49 < 24
    · rw [if_pos q]; omega
    · rw [if_neg q]; decide
  · rw [p49]
    by_cases q : u 49 < 24
    · rw [if_pos q]; omega
    · rw [if_neg q]; decide
  · rw [p48]; omega
  · rw [p48]; exact h48
/-- one trial pick of the reference: the state, what lacks, whether it is too tight -/
theorem m_one (N : Nat) (hNB : NB N) {μ : Mm} {t : Nat} (ht : t ≤ 306) (hL : LoomR μ t) {o m : Int} (ho : 0 ≤ o ∧ o + 243 ≤ 8262) (m0 : 0 ≤ m) (m1 : m < 2147483648) {v : Int → Int} (hv : Vok (gI μ t 5) (gI μ t 6) v) (hb : BlkR μ o v) : ∃ ν lk tg, fX9_pickIn N o m μ = some ν ∧ (∀ r, r ≠ 333 → ν r = μ r) ∧ (∀ k, 0 ≤ k → (k < o ∨ o + 242 ≤ k) → gZ ν 333 k = gZ μ 333 k) ∧ BlkR ν o (PVf (fun j => gZ μ 335 j) (hwQ μ t m) v (gI μ t 6)) ∧ fX9_lacks N o ν = some lk ∧ fX9_isTight N o ν = some tg ∧ (tg = 0 ∨ tg = 1) ∧ ((lk = -1 ∧ ∀ k, 0 ≤ k → k < gI μ t 5 → 0 ≤ PVf (fun j => gZ μ 335 j) (hwQ μ t m) v (gI μ t 6) (40 + k)) ∨ (0 ≤ lk ∧ lk < gI μ t 5 ∧ PVf (fun j => gZ μ 335 j) (hwQ μ t m) v (gI μ t 6) (40 + lk) < 0 ∧ ∀ k, 0 ≤ k → k < lk → 0 ≤ PVf (fun j => gZ μ 335 j) (hwQ μ t m) v (gI μ t 6) (40 + k))) ∧ ((lk = -1 ∧ tg = 0) ↔ GdP (gI μ t 5) (gI μ t 6) (PVf (fun j => gZ μ 335 j) (hwQ μ t m) v (gI μ t 6))) := by
  obtain ⟨⟨e5, a5, b5⟩, ⟨e6, a6, b6⟩, -⟩ := id hL
  obtain ⟨ν, g1, g2, g3, g4⟩ := m_pickIn N hNB ht hL ho m0 m1 hv hb
  have k5 : gI ν 332 2 = gI μ t 5 := by rw [gI_row (g2 332 (by decide)), e5]
  have k6 : gI ν 332 6 = gI μ t 6 := by rw [gI_row (g2 332 (by decide)), e6]
  obtain ⟨lk, l1, l2⟩ := m_lacks N hNB ho ⟨a5, b5⟩ k5 g4
  obtain ⟨tg, t1, t2, t3⟩ := m_tight N hNB ho ⟨a6, b6⟩ k6 g4 (fun d d0 d1 => by
    rw [PV_twist d0 (by omega) d1]
    have := (hv.1 d d0 d1).2.1
    by_cases q1 : hwQ μ t m d = 1
    · rw [if_pos q1]; omega
    · rw [if_neg q1]
      by_cases q2 : hwQ μ t m d = 2
      · rw [if_pos q2]; omega
      · rw [if_neg q2]; omega)
  refine ⟨ν, lk, tg, g1, g2, g3, g4, l1, t1, t2, l2, fun z => ⟨?_, t3.1 z.2⟩, fun z => ⟨?_, t3.2 z.2⟩⟩
  · rcases l2 with y | y
    · exact y.2
    · omega
  · rcases l2 with y | y
    · exact y.1
    · have := z.1 lk y.1 y.2.1; omega
theorem m_can (N : Nat) (hNB : NB N) {μ : Mm} {t : Nat} (ht : t ≤ 306) (hL : LoomR μ t) {m y : Int} (m0 : 0 ≤ m) (m1 : m < 2147483648) (hy : y ≤ 99) : ∀ (r n : Nat) (i : Int) (ν : Mm) (u : Int → Int), 0 ≤ i → i + r ≤ y → r + 1 < n → (∀ x, x ≠ 333 → ν x = μ x) → (∀ k, 0 ≤ k → (k < 243 ∨ 486 ≤ k) → gZ ν 333 k = gZ μ 333 k) → BlkR ν 243 u → Vok (gI μ t 5) (gI μ t 6) u → u 48 + r ≤ 19000 → (∀ j : Nat, j < r → GdP (gI μ t 5) (gI μ t 6) (runF (fun j => gZ μ 335 j) (hwQ μ t m) (gI μ t 6) (j + 1) u)) → (i + r < y → ¬ GdP (gI μ t 5) (gI μ t 6) (runF (fun j => gZ μ 335 j) (hwQ μ t m) (gI μ t 6) (r + 1) u)) → ∃ ν1, fX9_canPick_l13 N m y n 1 i ν = some (if i + r = y then 1 else 0, ν1) ∧ (∀ x, x ≠ 333 → ν1 x = μ x) ∧ (∀ k, 0 ≤ k → (k < 243 ∨ 486 ≤ k) → gZ ν1 333 k = gZ μ 333 k) := by
  have hN2 : 300 ≤ N := hNB
  obtain ⟨⟨e5, a5, b5⟩, ⟨e6, a6, b6⟩, -⟩ := id hL
  intro r
  induction r with
  | zero =>
    intro n i ν u i0 i1 hn hr ho hb hv h48 hg hn2
    obtain ⟨f, rfl⟩ : ∃ f, n = f + 2 := ⟨n - 2, by omega⟩
    have e0 : i + ((0 : Nat) : Int) = i := Int.add_zero i
    rw [e0] at hn2 ⊢
    rw [fX9_canPick_l13, wr_id (a := y) (by omega) (by omega), wr_id (a := i) (by omega) (by omega)]
    by_cases q : y ≤ i
    · rw [if_pos q, gd_p (by decide), if_pos (show i = y by omega)]
      exact ⟨ν, rfl, hr, ho⟩
    · have hL2 : LoomR ν t := hL.fr (fun x h => hr x (by omega)) (gI_row (hr 332 (by omega)) 2) (gI_row (hr 332 (by omega)) 6) (gI_row (hr 332 (by omega)) 9)
      have k5 : gI ν t 5 = gI μ t 5 := gI_row (hr t (by omega)) 5
      have k6 : gI ν t 6 = gI μ t 6 := gI_row (hr t (by omega)) 6
      obtain ⟨ν1, lk, tg, g1, g2, g3, g4, g5, g6, g7, g8, g9⟩ := m_one N hNB ht hL2 (o := 243) (m := m) (by decide) m0 m1 (v := u) (by rw [k5, k6]; exact hv) hb
      rw [k5, k6, G_row (hr 335 (by omega)), H_row (hr (t + 3) (by omega))] at g9
      rw [k5] at g8
      have hno := fun z => hn2 (by omega) (g9.1 z)
      have fin : fX9_canPick_l13 N m y (f + 1) 0 (i + 1) ν1 = some (0, ν1) := by
        rw [fX9_canPick_l13, wr_id (a := y) (by omega) (by omega), wr_id (a := i + 1) (by omega) (by omega)]
        by_cases z : y ≤ i + 1
        · rw [if_pos z, gd_p (by decide)]
        · rw [if_neg z, if_pos (by decide), gd_p (by decide)]
      rw [if_neg q, if_neg (by decide), g1, ob_s, g5, ob_s, if_neg (show ¬ i = y by omega), wr_id (a := lk) (by omega) (by omega)]
      refine ⟨ν1, ?_, fun x h => by rw [g2 x h, hr x h], fun k k0 k1 => by rw [g3 k k0 (by omega), ho k k0 k1]⟩
      by_cases z : lk = -1
      · rw [if_pos z, g6, ob_s, wr_id (a := tg) (by omega) (by omega), if_neg (fun w => hno ⟨z, w⟩)]
        exact fin
      · rw [if_neg z]; exact fin
  | succ r ih =>
    intro n i ν u i0 i1 hn hr ho hb hv h48 hg hn2
    obtain ⟨f, rfl⟩ : ∃ f, n = f + 1 := ⟨n - 1, by omega⟩
    have hL2 : LoomR ν t := hL.fr (fun x h => hr x (by omega)) (gI_row (hr 332 (by omega)) 2) (gI_row (hr 332 (by omega)) 6) (gI_row (hr 332 (by omega)) 9)
    have k5 : gI ν t 5 = gI μ t 5 := gI_row (hr t (by omega)) 5
    have k6 : gI ν t 6 = gI μ t 6 := gI_row (hr t (by omega)) 6
    obtain ⟨ν1, lk, tg, g1, g2, g3, g4, g5, g6, g7, g8, g9⟩ := m_one N hNB ht hL2 (o := 243) (m := m) (by decide) m0 m1 (v := u) (by rw [k5, k6]; exact hv) hb
    rw [k5, k6, G_row (hr 335 (by omega)), H_row (hr (t + 3) (by omega))] at g9
    rw [k6, G_row (hr 335 (by omega)), H_row (hr (t + 3) (by omega))] at g4
    have hg0 := hg 0 (by omega)
    obtain ⟨z1, z2⟩ := g9.2 hg0
    rw [fX9_canPick_l13, wr_id (a := y) (by omega) (by omega), wr_id (a := i) (by omega) (by omega), if_neg (by omega), if_neg (by decide), g1, ob_s, g5, ob_s, z1, if_pos (by decide), g6, ob_s, z2, if_pos (by decide)]
    obtain ⟨ν2, s1, s2, s3⟩ := ih f (i + 1) ν1 (PVf (fun j => gZ μ 335 j) (hwQ μ t m) u (gI μ t 6)) (by omega) (by omega) (by omega) (fun x h => by rw [g2 x h, hr x h]) (fun k k0 k1 => by rw [g3 k k0 (by omega), ho k k0 k1]) g4 (Vok_s ⟨a5, b5⟩ ⟨a6, b6⟩ hv hg0 (by omega)) (by rw [(PVf_48 _ _ u _).1]; omega) (fun j hj => hg (j + 1) (by omega)) (fun hj => hn2 (by omega))
    refine ⟨ν2, ?_, s2, s3⟩
    rw [s1, show i + 1 + (r : Int) = i + ((r + 1 : Nat) : Int) by omega]
theorem m_lasts (N : Nat) (hNB : NB N) {μ : Mm} {t : Nat} (ht : t ≤ 306) (hL : LoomR μ t) {m w : Int} (m0 : 0 ≤ m) (m1 : m < 2147483648) : ∀ (r n : Nat) (i : Int) (ν : Mm) (u : Int → Int), 0 ≤ i → i + r ≤ 99 → r + 1 < n → (∀ x, x ≠ 333 → ν x = μ x) → (∀ k, 0 ≤ k → (k < 243 ∨ 486 ≤ k) → gZ ν 333 k = gZ μ 333 k) → BlkR ν 243 u → Vok (gI μ t 5) (gI μ t 6) u → u 48 + r ≤ 19000 → (∀ j : Nat, j < r → GdP (gI μ t 5) (gI μ t 6) (runF (fun j => gZ μ 335 j) (hwQ μ t m) (gI μ t 6) (j + 1) u)) → (i + r < 99 → ¬ GdP (gI μ t 5) (gI μ t 6) (runF (fun j => gZ μ 335 j) (hwQ μ t m) (gI μ t 6) (r + 1) u)) → ∃ ν1 lk, fX9_lasts_l41 N m w n i ν = some (if wr w = 0 then i + r else lk, ν1) ∧ (∀ x, x ≠ 333 → ν1 x = μ x) ∧ (∀ k, 0 ≤ k → (k < 243 ∨ 486 ≤ k) → gZ ν1 333 k = gZ μ 333 k) ∧ (i + r = 99 → lk = -1) ∧ (i + r < 99 → ((lk = -1 ∧ ∀ k, 0 ≤ k → k < gI μ t 5 → 0 ≤ runF (fun j => gZ μ 335 j) (hwQ μ t m) (gI μ t 6) (r + 1) u (40 + k)) ∨ (0 ≤ lk ∧ lk < gI μ t 5 ∧ runF (fun j => gZ μ 335 j) (hwQ μ t m) (gI μ t 6) (r + 1) u (40 + lk) < 0 ∧ ∀ k, 0 ≤ k → k < lk → 0 ≤ runF (fun j => gZ μ 335 j) (hwQ μ t m) (gI μ t 6) (r + 1) u (40 + k)))) := by
  have hN2 : 300 ≤ N := hNB
  obtain ⟨⟨e5, a5, b5⟩, ⟨e6, a6, b6⟩, -⟩ := id hL
  intro r
  induction r with
  | zero =>
    intro n i ν u i0 i1 hn hr ho hb hv h48 hg hn2
    obtain ⟨f, rfl⟩ : ∃ f, n = f + 1 := ⟨n - 1, by omega⟩
    have e0 : i + ((0 : Nat) : Int) = i := Int.add_zero i
    rw [e0] at hn2 ⊢
    rw [fX9_lasts_l41, wr_id (a := i) (by omega) (by omega)]
    by_cases q : 99 ≤ i
    · rw [if_pos q]
      unfold fX9_lasts_k98
      refine ⟨ν, -1, ?_, hr, ho, fun _ => rfl, fun h => by omega⟩
      by_cases z : wr w = 0
      · rw [if_pos z, if_pos z, show i = 99 by omega]
      · rw [if_neg z, if_neg z]
    · have hL2 : LoomR ν t := hL.fr (fun x h => hr x (by omega)) (gI_row (hr 332 (by omega)) 2) (gI_row (hr 332 (by omega)) 6) (gI_row (hr 332 (by omega)) 9)
      have k5 : gI ν t 5 = gI μ t 5 := gI_row (hr t (by omega)) 5
      have k6 : gI ν t 6 = gI μ t 6 := gI_row (hr t (by omega)) 6
      obtain ⟨ν1, lk, tg, g1, g2, g3, g4, g5, g6, g7, g8, g9⟩ := m_one N hNB ht hL2 (o := 243) (m := m) (by decide) m0 m1 (v := u) (by rw [k5, k6]; exact hv) hb
      rw [k5, k6, G_row (hr 335 (by omega)), H_row (hr (t + 3) (by omega))] at g9
      rw [k5, k6, G_row (hr 335 (by omega)), H_row (hr (t + 3) (by omega))] at g8
      have hno := fun z => hn2 (by omega) (g9.1 z)
      rw [if_neg q, g1, ob_s, g5, ob_s, wr_id (a := lk) (by omega) (by omega)]
      refine ⟨ν1, lk, ?_, fun x h => by rw [g2 x h, hr x h], fun k k0 k1 => by rw [g3 k k0 (by omega), ho k k0 k1], fun h => by omega, fun _ => g8⟩
      by_cases z : lk = -1
      · rw [if_pos z, g6, ob_s, wr_id (a := tg) (by omega) (by omega), if_neg (fun w => hno ⟨z, w⟩)]
        by_cases y : wr w = 0
        · rw [if_pos y, if_pos y]
        · rw [if_neg y, if_neg y, ob_s]
      · rw [if_neg z]
        by_cases y : wr w = 0
        · rw [if_pos y, if_pos y]
        · rw [if_neg y, if_neg y, ob_s]
  | succ r ih =>
    intro n i ν u i0 i1 hn hr ho hb hv h48 hg hn2
    obtain ⟨f, rfl⟩ : ∃ f, n = f + 1 := ⟨n - 1, by omega⟩
    have hL2 : LoomR ν t := hL.fr (fun x h => hr x (by omega)) (gI_row (hr 332 (by omega)) 2) (gI_row (hr 332 (by omega)) 6) (gI_row (hr 332 (by omega)) 9)
    have k5 : gI ν t 5 = gI μ t 5 := gI_row (hr t (by omega)) 5
    have k6 : gI ν t 6 = gI μ t 6 := gI_row (hr t (by omega)) 6
    obtain ⟨ν1, lk, tg, g1, g2, g3, g4, g5, g6, g7, g8, g9⟩ := m_one N hNB ht hL2 (o := 243) (m := m) (by decide) m0 m1 (v := u) (by rw [k5, k6]; exact hv) hb
    rw [k5, k6, G_row (hr 335 (by omega)), H_row (hr (t + 3) (by omega))] at g9
    rw [k6, G_row (hr 335 (by omega)), H_row (hr (t + 3) (by omega))] at g4
    have hg0 := hg 0 (by omega)
    obtain ⟨z1, z2⟩ := g9.2 hg0
    rw [fX9_lasts_l41, wr_id (a := i) (by omega) (by omega), if_neg (by omega), g1, ob_s, g5, ob_s, z1, if_pos (by decide), g6, ob_s, z2, if_pos (by decide)]
    obtain ⟨ν2, lk2, s1, s2, s3, s4, s5⟩ := ih f (i + 1) ν1 (PVf (fun j => gZ μ 335 j) (hwQ μ t m) u (gI μ t 6)) (by omega) (by omega) (by omega) (fun x h => by rw [g2 x h, hr x h]) (fun k k0 k1 => by rw [g3 k k0 (by omega), ho k k0 k1]) g4 (Vok_s ⟨a5, b5⟩ ⟨a6, b6⟩ hv hg0 (by omega)) (by rw [(PVf_48 _ _ u _).1]; omega) (fun j hj => hg (j + 1) (by omega)) (fun hj => hn2 (by omega))
    refine ⟨ν2, lk2, ?_, s2, s3, fun h => s4 (by omega), fun h => s5 (by omega)⟩
    rw [s1, show i + 1 + (r : Int) = i + ((r + 1 : Nat) : Int) by omega]
theorem mv_l (N : Nat) {μ : Mm} {t : Nat} (hL : LoomR μ t) (m : Int) : ∀ (j n : Nat) (k x : Int), 0 ≤ k → k + j = gI μ t 7 → j < n → fX5_takesMoves_l4 N t m μ n x k = fX5_takesMoves_k22 N m (x * 3 ^ j) ∧ fX9_isMoves_l4 N m μ n x k = fX9_isMoves_k22 N m μ (x * 3 ^ j) := by
  obtain ⟨-, -, ⟨e7, a7, b7⟩, -⟩ := id hL
  intro j
  induction j with
  | zero =>
    intro n k x k0 k1 hn
    obtain ⟨f, rfl⟩ : ∃ f, n = f + 1 := ⟨n - 1, by omega⟩
    rw [fX5_takesMoves_l4, fX9_isMoves_l4, e7, wr_gI, wr_id (a := k) (by omega) (by omega), if_pos (by omega), if_pos (by omega), Int.pow_zero, Int.mul_one]
    exact ⟨rfl, rfl⟩
  | succ j ih =>
    intro n k x k0 k1 hn
    obtain ⟨f, rfl⟩ : ∃ f, n = f + 1 := ⟨n - 1, by omega⟩
    rw [fX5_takesMoves_l4, fX9_isMoves_l4, e7, wr_gI, wr_id (a := k) (by omega) (by omega), if_neg (by omega), if_neg (by omega), Int.pow_succ, show x * (3 ^ j * 3) = x * 3 * 3 ^ j by rw [Int.mul_comm (3 ^ j) 3, Int.mul_assoc]]
    exact ih f (k + 1) (x * 3) (by omega) (by omega) (by omega)
theorem p3_b : ∀ j : Nat, j < 5 → 1 ≤ (3 : Int) ^ j ∧ (3 : Int) ^ j ≤ 81 := by decide +kernel
theorem r_moves (N : Nat) (hNB : NB N) {μ : Mm} {t : Nat} (hL : LoomR μ t) (m : Int) (hm : -2147483648 ≤ m ∧ m < 2147483648) : ∃ r, fX5_takesMoves N t m μ = some r ∧ fX9_isMoves N m μ = some r ∧ (r = 0 ∨ (r = 1 ∧ 0 ≤ m ∧ m ≤ 80)) := by
  have hN2 : 300 ≤ N := hNB
  obtain ⟨-, -, ⟨e7, a7, b7⟩, -⟩ := id hL
  obtain ⟨h1, h2⟩ := mv_l N hL m (gI μ t 7).toNat N 0 1 (by omega) (by omega) (by omega)
  have hb := p3_b (gI μ t 7).toNat (by omega)
  unfold fX5_takesMoves fX9_isMoves
  rw [h1, h2, Int.one_mul]
  generalize (3 : Int) ^ (gI μ t 7).toNat = b at *
  unfold fX5_takesMoves_k22 fX9_isMoves_k22
  rw [wr_id hm.1 hm.2, wr_id (a := b) (by omega) (by omega), wr_id (a := b - 1) (by omega) (by omega), p_in N m 0 _ μ (by omega) (by omega) (by omega), ob_s]
  by_cases q : 0 ≤ m ∧ m ≤ b - 1
  · rw [if_pos q, if_neg (by omega), if_neg (by omega), gd_p (by decide)]
    exact ⟨1, rfl, rfl, Or.inr ⟨rfl, q.1, by omega⟩⟩
  · rw [if_neg q, gd_p (by decide)]
    refine ⟨0, ?_, rfl, Or.inl rfl⟩
    by_cases q2 : m < 0
    · rw [if_pos q2]
    · rw [if_neg q2, if_pos (by omega)]
/-- the trial behind become -/
theorem x_trial (N : Nat) {μ : Mm} {t u : Nat} (hT : TU μ t u) (hL : LoomR μ t) (hW : WR μ t 3 0) : ∃ ν, fX7_become N 12 3 μ = some ν ∧ (∀ r, (r < 12 ∨ 20 < r) → ν r = μ r) ∧ TRf 9030 (gI μ t 5) (gI μ t 6) (fun j c => gZ ν (12 + j) c) (gI ν 12 8) (fun k => gZ μ 333 (0 + k)) := by
  have ht := hT.r
  obtain ⟨ν, h1, h2, h3, h4, h5, h6⟩ := p_become N (a := 12) (b := 3) μ (by omega)
  obtain ⟨⟨f5, a5, b5⟩, ⟨f6, a6, b6⟩, -⟩ := id hL
  refine ⟨ν, h1, fun r hr => h2 r (by omega), TRf.of ?_⟩
  rw [h4]
  refine WRf.fr ⟨a5, b5⟩ ⟨a6, b6⟩ hW (fun j i a b c d e f => ?_) (fun k _ _ => rfl)
  by_cases y : j = 8
  · subst y; exact h6 i d e
  · exact h5 j i a (by omega) d (f y)
theorem m_trial (N : Nat) (hNB : NB N) {μ : Mm} : ∃ ν, fX9_copy N 0 243 μ = some ν ∧ (∀ r, r ≠ 333 → ν r = μ r) ∧ (∀ k, 0 ≤ k → (k < 243 ∨ 486 ≤ k) → gZ ν 333 k = gZ μ 333 k) ∧ BlkR ν 243 (fun k => gZ μ 333 (0 + k)) := by
  obtain ⟨ν, h1, h2, h3⟩ := p_copy N hNB (x := 0) (y := 243) μ (by decide) (by decide) (by decide)
  refine ⟨ν, h1, h2, fun k k0 k1 => by rw [h3 k k0, if_neg (by omega)], fun k k0 k1 => ?_⟩
  rw [h3 _ (by omega), if_pos (by omega)]
  congr 1
  omega
theorem okp_lasts (N : Nat) (hNB : NB N) : ok_lasts N Inv := by
  intro μ m w hm hw hI
  obtain ⟨t, u, hT, hL, hW, hU, hG, hN, hX, hS⟩ := id hI
  have ht := hT.r
  have htc : t = 300 ∨ t = 306 := hT.2.2.imp (fun z => z.1) (fun z => z.1)
  have hN2 : 300 ≤ N := hNB
  obtain ⟨⟨e5, a5, b5⟩, ⟨e6, a6, b6⟩, -⟩ := id hL
  obtain ⟨rm, rm1, rm2, rm3⟩ := r_moves N hNB hL m hm
  unfold fX8_lasts fX9_lasts
  simp only [hT.t, gd_p hT.kt, rm1, ob_s, p_how N w _ hw, p_isMade]
  by_cases qm : rm = 0
  · rw [qm]
    exact ⟨-1000000002, -1000000002, μ, μ, by rw [if_pos (by decide)], by rw [rm2, ob_s, qm, if_pos (by decide)], rfl, hI⟩
  obtain ⟨rfl, m0, m80⟩ := rm3.resolve_left qm
  rw [if_neg (show ¬ wr (1 : Int) = 0 by decide)]
  by_cases qw : 0 ≤ w ∧ w ≤ 1
  · rw [if_pos qw, if_neg (show ¬ wr (1 : Int) = 0 by decide)]
    by_cases qk : 0 < gI μ t 5
    · rw [if_pos qk, if_neg (show ¬ wr (1 : Int) = 0 by decide)]
      obtain ⟨ν0, c1, c2, c3⟩ := x_trial N hT hL hW
      obtain ⟨r, ν1, x1, x2, x3, x4, x5, x6⟩ := x_count N hNB hT hL (m := m) (y := 99) m0 (by omega) (by decide) N 0 ν0 (fun k => gZ μ 333 (0 + k)) 9030 (by decide) (by decide) (by omega) (by omega) c2 c3
      rw [Int.zero_add] at x1 x3 x5
      have hcp : fX8_countPicks N m 99 μ = some ((r : Int), ν1) := by
        unfold fX8_countPicks
        rw [c1, ob_s, x1]
      rw [hcp, bP_s, wr_id hw.1 hw.2, wr_id (a := (r : Int)) (by omega) (by omega)]
      -- the reference, from any memory that has the same rows of its own and the loom
      have mod : ∀ μ1 : Mm, (∀ x, (x < 12 ∨ 20 < x) → μ1 x = μ x) → ∃ μ2 lk, fX9_isMoves N m μ1 = some 1 ∧ fX9_isLoom N μ1 = some 1 ∧ (∃ μ3, fX9_copy N 0 243 μ1 = some μ3 ∧ fX9_lasts_l41 N m w N 0 μ3 = some (if wr w = 0 then (r : Int) else lk, μ2)) ∧ Inv μ2 ∧ ((r : Int) = 99 → lk = -1) ∧ ((r : Int) < 99 → ((lk = -1 ∧ ∀ k, 0 ≤ k → k < gI μ t 5 → 0 ≤ runF (fun j => gZ μ 335 j) (hwQ μ t m) (gI μ t 6) (r + 1) (fun k => gZ μ 333 (0 + k)) (40 + k)) ∨ (0 ≤ lk ∧ lk < gI μ t 5 ∧ runF (fun j => gZ μ 335 j) (hwQ μ t m) (gI μ t 6) (r + 1) (fun k => gZ μ 333 (0 + k)) (40 + lk) < 0 ∧ ∀ k, 0 ≤ k → k < lk → 0 ≤ runF (fun j => gZ μ 335 j) (hwQ μ t m) (gI μ t 6) (r + 1) (fun k => gZ μ 333 (0 + k)) (40 + k)))) := by
        intro μ1 hμ1
        have hL1 : LoomR μ1 t := hL.fr (fun x h => hμ1 x (by omega)) (gI_row (hμ1 332 (by omega)) 2) (gI_row (hμ1 332 (by omega)) 6) (gI_row (hμ1 332 (by omega)) 9)
        have k5 : gI μ1 t 5 = gI μ t 5 := gI_row (hμ1 t (by omega)) 5
        have k6 : gI μ1 t 6 = gI μ t 6 := gI_row (hμ1 t (by omega)) 6
        have kG : (fun j => gZ μ1 335 j) = (fun j => gZ μ 335 j) := G_row (hμ1 335 (by omega))
        have kH : hwQ μ1 t m = hwQ μ t m := H_row (hμ1 (t + 3) (by omega))
        have kb : (fun k => gZ μ1 333 (0 + k)) = (fun k => gZ μ 333 (0 + k)) := funext (fun k => gZ_row (hμ1 333 (by omega)) _)
        obtain ⟨r2, s1, s2, s3⟩ := r_moves N hNB hL1 m hm
        have hr2 : r2 = 1 := by
          have e : fX5_takesMoves N t m μ1 = fX5_takesMoves N t m μ := by
            have key : ∀ n x k, fX5_takesMoves_l4 N t m μ1 n x k = fX5_takesMoves_l4 N t m μ n x k := by
              intro n
              induction n with
              | zero => intro x k; rfl
              | succ n ih => intro x k; rw [fX5_takesMoves_l4, fX5_takesMoves_l4, gI_row (hμ1 t (by omega)), ih]
            exact key N 1 0
          rw [e, rm1] at s1
          exact (Option.some.inj s1).symm
        obtain ⟨μ3, d1, d2, d3, d4⟩ := m_trial N hNB (μ := μ1)
        have hL3 : LoomR μ1 t := hL1
        obtain ⟨μ2, lk, l1, l2, l3, l4, l5⟩ := m_lasts N hNB (by omega) hL1 (m := m) (w := w) m0 (by omega) r N 0 μ3 (fun k => gZ μ 333 (0 + k)) (by decide) (by omega) (by omega) d2 d3 (by rw [← kb]; exact d4) (by rw [k5, k6]; exact c3.ok (by decide)) (by have := c3.p; show gZ μ 333 (0 + 48) + (r : Int) ≤ 19000; have e := this.1; omega) (by rw [k5, k6, kG, kH]; exact x4) (by rw [k5, k6, kG, kH, Int.zero_add]; exact x5)
        rw [Int.zero_add] at l1 l4 l5
        rw [k5, k6, kG, kH] at l5
        refine ⟨μ2, lk, by rw [s2, hr2], by rw [p_isLoom, gI_row (hμ1 332 (by omega)), e5, if_pos qk], ⟨μ3, d1, l1⟩, hI.side (fun x a b c => by rw [l2 x b, hμ1 x c]) (fun k k0 k1 _ => by rw [l3 k k0 k1, gZ_row (hμ1 333 (by omega))]), l4, l5⟩
      have hin : ∀ μ', fX9_in N w 0 1 μ' = some 1 := fun μ' => by rw [p_in N w 0 1 μ' (by omega) (by omega) (by omega), if_pos qw]
      by_cases qz : w = 0
      · rw [if_pos qz]
        obtain ⟨μ2, lk, y1, y2, ⟨μ3, y3, y4⟩, y5, -, -⟩ := mod ν1 x2
        refine ⟨r, r, ν1, μ2, rfl, ?_, rfl, y5⟩
        rw [y1, ob_s, if_neg (by decide), hin, ob_s, if_neg (by decide), y2, ob_s, if_neg (by decide), y3, ob_s, y4, if_pos (by rw [qz]; decide)]
      · rw [if_neg qz]
        have nz : ¬ wr w = 0 := by rw [wr_id hw.1 hw.2]; exact qz
        by_cases q99 : (r : Int) = 99
        · rw [if_pos q99]
          obtain ⟨μ2, lk, y1, y2, ⟨μ3, y3, y4⟩, y5, y6, -⟩ := mod ν1 x2
          refine ⟨-1, lk, ν1, μ2, rfl, ?_, by rw [y6 q99], y5⟩
          rw [y1, ob_s, if_neg (by decide), hin, ob_s, if_neg (by decide), y2, ob_s, if_neg (by decide), y3, ob_s, y4, if_neg nz]
        · have tt : (gI ν1 0 6).toNat = t := by rw [gI_row (x2 0 (by omega)) 6]; exact hT.t
          have hL1 : LoomR ν1 t := hL.fr (fun x h => x2 x (by omega)) (gI_row (x2 332 (by omega)) 2) (gI_row (x2 332 (by omega)) 6) (gI_row (x2 332 (by omega)) 9)
          have k5 : gI ν1 t 5 = gI μ t 5 := gI_row (x2 t (by omega)) 5
          have k6 : gI ν1 t 6 = gI μ t 6 := gI_row (x2 t (by omega)) 6
          obtain ⟨f1, f2, f3, f4, -⟩ := id x6
          obtain ⟨rl, ν2, g1, g2, g3⟩ := x_lacking N hNB (a := 12) (t := t) (by omega) hL1 (by decide) m0 (show m < 2147483648 by omega) (v := runF (fun j => gZ μ 335 j) (hwQ μ t m) (gI μ t 6) r (fun k => gZ μ 333 (0 + k))) (fun c c0 c1 => by rw [k6] at c1; exact ⟨(f1 c c0 c1).1, (f1 c c0 c1).2.1, (f1 c c0 c1).2.2.1⟩) (fun k k0 k1 => by rw [k5] at k1; exact (f2 k k0 k1).1)
          rw [k5, k6, G_row (x2 335 (by omega)), H_row (x2 (t + 3) (by omega))] at g3
          obtain ⟨μ2, lk, y1, y2, ⟨μ3, y3, y4⟩, y5, -, y7⟩ := mod ν2 (fun x h => by rw [g2 x (by omega), x2 x h])
          have y8 := y7 (by omega)
          rw [runF_s] at y8
          have yn := fun k k0 k1 => (PVf_0 (fun j => gZ μ 335 j) (hwQ μ t m) (runF (fun j => gZ μ 335 j) (hwQ μ t m) (gI μ t 6) r (fun k => gZ μ 333 (0 + k))) (gI μ t 6) (d := k) k0 k1).2.2.2.2.2
          have hl : lk = rl := by
            rcases y8 with ⟨z1, z2⟩ | ⟨z1, z2, z3, z4⟩
            · rcases g3 with ⟨w1, w2⟩ | ⟨w1, w2, w3, w4⟩
              · rw [z1, w1]
              · have := z2 rl w1 w2
                rw [yn rl w1 (by omega)] at this
                omega
            · rw [yn lk z1 (by omega)] at z3
              rcases g3 with ⟨w1, w2⟩ | ⟨w1, w2, w3, w4⟩
              · have := w2 lk z1 z2; omega
              · rcases Int.lt_trichotomy lk rl with h | h | h
                · have := w4 lk z1 h; omega
                · exact h
                · have := z4 rl w1 h
                  rw [yn rl w1 (by omega)] at this
                  omega
          rw [if_neg q99, tt, gd_p hT.kt, g1, bP_s]
          refine ⟨rl, lk, ν2, μ2, rfl, ?_, by rw [hl], y5⟩
          rw [y1, ob_s, if_neg (by decide), hin, ob_s, if_neg (by decide), y2, ob_s, if_neg (by decide), y3, ob_s, y4, if_neg nz]
    · rw [if_neg qk, if_pos (show wr (0 : Int) = 0 by decide)]
      refine ⟨-1000000003, -1000000003, μ, μ, rfl, ?_, rfl, hI⟩
      rw [rm2, ob_s, if_neg (by decide), wr_id hw.1 hw.2, p_in N w 0 1 μ (by omega) (by omega) (by omega), if_pos qw, ob_s, if_neg (by decide), p_isLoom, e5, if_neg qk, ob_s, if_pos (by decide)]
  · rw [if_neg qw, if_pos (show wr (0 : Int) = 0 by decide)]
    refine ⟨-1000000002, -1000000002, μ, μ, rfl, ?_, rfl, hI⟩
    rw [rm2, ob_s, if_neg (by decide), wr_id hw.1 hw.2, p_in N w 0 1 μ (by omega) (by omega) (by omega), if_neg qw, ob_s, if_pos (by decide)]
