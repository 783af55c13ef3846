/-! a pick, the class' side -/
def TRf (M K C : Int) (X : Nat → Int → Int) (p : Int) (v : Int → Int) : Prop :=
  (∀ c : Int, 0 ≤ c → c < C → X 2 c = v c ∧ 0 ≤ v c ∧ v c ≤ 3 ∧ X 3 c = v (8 + c) ∧ -99 ≤ v (8 + c) ∧ v (8 + c) ≤ 99 ∧ X 4 c = v (16 + c) ∧ -1 ≤ v (16 + c) ∧ v (16 + c) < K ∧ X 5 c = v (24 + c) ∧ -1 ≤ v (24 + c) ∧ v (24 + c) ≤ 1 ∧ X 1 c = v (32 + c) ∧ 0 ≤ v (32 + c) ∧ v (32 + c) ≤ 1) ∧
  (∀ k : Int, 0 ≤ k → k < K → X 6 k = v (40 + k) ∧ 0 ≤ v (40 + k) ∧ v (40 + k) ≤ 999) ∧ (∀ k : Int, K ≤ k → k < 8 → v (40 + k) = 0) ∧
  (p = v 48 ∧ 0 ≤ p ∧ p ≤ M ∧ v 49 = if p < 24 then p else 24) ∧
  (∀ i c : Int, 0 ≤ i → i < v 49 → 0 ≤ c → c < C → X 8 ((p - 1 - i) % 24 * 8 + c) = v (50 + 8 * (v 49 - 1 - i) + c) ∧ -1 ≤ v (50 + 8 * (v 49 - 1 - i) + c) ∧ v (50 + 8 * (v 49 - 1 - i) + c) < K)
theorem TRf.of {K C : Int} {X : Nat → Int → Int} {p : Int} {v : Int → Int} (h : WRf K C X p v) : TRf 9030 K C X p v := h
theorem TRf.to {M K C : Int} {X : Nat → Int → Int} {p : Int} {v : Int → Int} (h : TRf M K C X p v) (hp : p ≤ 9030) : WRf K C X p v := ⟨h.1, h.2.1, h.2.2.1, ⟨h.2.2.2.1.1, h.2.2.2.1.2.1, hp, h.2.2.2.1.2.2.2⟩, h.2.2.2.2⟩
theorem TRf.mono {M M2 K C : Int} {X : Nat → Int → Int} {p : Int} {v : Int → Int} (h : TRf M K C X p v) (hm : M ≤ M2) : TRf M2 K C X p v := ⟨h.1, h.2.1, h.2.2.1, ⟨h.2.2.2.1.1, h.2.2.2.1.2.1, Int.le_trans h.2.2.2.1.2.2.1 hm, h.2.2.2.1.2.2.2⟩, h.2.2.2.2⟩
theorem TRf.b49 {M K C : Int} {X : Nat → Int → Int} {p : Int} {v : Int → Int} (h : TRf M K C X p v) : 0 ≤ v 49 ∧ v 49 ≤ 24 ∧ (p < 24 → v 49 = p) ∧ (¬ p < 24 → v 49 = 24) := by
  obtain ⟨-, -, -, ⟨h1, h2, h3, h4⟩, -⟩ := h
  rw [h4]
  by_cases q : p < 24
  · rw [if_pos q]; omega
  · rw [if_neg q]; omega
theorem TRf.ok {M K C : Int} {X : Nat → Int → Int} {p : Int} {v : Int → Int} (h : TRf M K C X p v) (hM : M ≤ 20000) : Vok K C v := by
  have hb := h.b49
  obtain ⟨h1, h2, h3, h4, h5⟩ := h
  exact ⟨fun d a b => ⟨⟨(h1 d a b).2.1, (h1 d a b).2.2.1⟩, ⟨(h1 d a b).2.2.2.2.1, (h1 d a b).2.2.2.2.2.1⟩, ⟨(h1 d a b).2.2.2.2.2.2.2.2.2.2.2.2.2.1, (h1 d a b).2.2.2.2.2.2.2.2.2.2.2.2.2.2⟩⟩, fun k a b => (h2 k a b).2, hb.1, hb.2.1, by omega, by omega⟩
/-- good: the state behind the pick may be -/
def GdP (K C : Int) (u : Int → Int) : Prop := (∀ k, 0 ≤ k → k < K → 0 ≤ u (40 + k)) ∧ TgP C u
theorem over_l (N : Nat) (hNB : NB N) {μ : Mm} {t a : Nat} (hL : LoomR μ t) {m : Int} (m0 : 0 ≤ m) (m1 : m < 2147483648) {v : Int → Int} (hv : ∀ c, 0 ≤ c → c < gI μ t 6 → gZ μ (a + 3) c = v (8 + c)) : ∀ (n : Nat) (c : Int), 0 ≤ c → c ≤ gI μ t 6 → gI μ t 6 - c < n → ∃ r, fX7_isOvertwisted_l2 N a t m μ n c = some r ∧ ((r = 0 ∧ ∀ d, c ≤ d → d < gI μ t 6 → ¬ (hwQ μ t m d = 1 ∧ 99 ≤ v (8 + d)) ∧ ¬ (hwQ μ t m d = 2 ∧ v (8 + d) ≤ -99)) ∨ (r = 1 ∧ ∃ d, c ≤ d ∧ d < gI μ t 6 ∧ ((hwQ μ t m d = 1 ∧ 99 ≤ v (8 + d)) ∨ (hwQ μ t m d = 2 ∧ v (8 + d) ≤ -99)))) := by
  obtain ⟨-, ⟨e6, a6, b6⟩, -⟩ := id hL
  intro n
  induction n with
  | zero => intro c h0 h1 h2; omega
  | succ n ih =>
    intro c h0 h1 h2
    rw [fX7_isOvertwisted_l2, wr_gI, wr_id (a := c) (by omega) (by omega)]
    by_cases q : gI μ t 6 ≤ c
    · rw [if_pos q]
      exact ⟨0, rfl, Or.inl ⟨rfl, fun d a b => by omega⟩⟩
    · have hwv := hwQ_v μ t m c
      have hvc := hv c h0 (by omega)
      rw [if_neg q, if_neg (by omega), x_move N hNB hL m0 m1 h0 (by omega), ob_s, wr_id (a := hwQ μ t m c) (by omega) (by omega), ldA_ok h0 (by omega) (by omega)]
      have hvw : wr (v (8 + c)) = v (8 + c) := by rw [← hvc, wr_gZ]
      simp only [ob_s, wr_gZ, hvc, hvw]
      have next : (¬ (hwQ μ t m c = 1 ∧ 99 ≤ v (8 + c)) ∧ ¬ (hwQ μ t m c = 2 ∧ v (8 + c) ≤ -99)) → ∃ r, fX7_isOvertwisted_l2 N a t m μ n (c + 1) = some r ∧ ((r = 0 ∧ ∀ d, c ≤ d → d < gI μ t 6 → ¬ (hwQ μ t m d = 1 ∧ 99 ≤ v (8 + d)) ∧ ¬ (hwQ μ t m d = 2 ∧ v (8 + d) ≤ -99)) ∨ (r = 1 ∧ ∃ d, c ≤ d ∧ d < gI μ t 6 ∧ ((hwQ μ t m d = 1 ∧ 99 ≤ v (8 + d)) ∨ (hwQ μ t m d = 2 ∧ v (8 + d) ≤ -99)))) := by
        intro hno
        obtain ⟨r, r1, r2⟩ := ih (c + 1) (by omega) (by omega) (by omega)
        refine ⟨r, r1, r2.imp (fun z => ⟨z.1, fun d x y => ?_⟩) (fun ⟨z, d, x, y⟩ => ⟨z, d, by omega, y⟩)⟩
        by_cases w : d = c
        · rw [w]; exact hno
        · exact z.2 d (by omega) y
      by_cases z1 : hwQ μ t m c = 1
      · rw [if_pos z1]
        by_cases z2 : 99 ≤ v (8 + c)
        · rw [if_pos z2]
          exact ⟨1, rfl, Or.inr ⟨rfl, c, by omega, by omega, Or.inl ⟨z1, z2⟩⟩⟩
        · rw [if_neg z2, if_neg (by omega)]
          exact next ⟨fun y => z2 y.2, fun y => by omega⟩
      · rw [if_neg z1]
        by_cases z3 : hwQ μ t m c = 2
        · rw [if_pos z3]
          by_cases z4 : -99 < v (8 + c)
          · rw [if_pos z4]
            exact next ⟨fun y => z1 y.1, fun y => by omega⟩
          · rw [if_neg z4]
            exact ⟨1, rfl, Or.inr ⟨rfl, c, by omega, by omega, Or.inr ⟨z3, by omega⟩⟩⟩
        · rw [if_neg z3]
          exact next ⟨fun y => z1 y.1, fun y => z3 y.1⟩
theorem fill_l (N : Nat) {μ : Mm} {a : Nat} {y : Int} (hy : -2147483648 ≤ y ∧ y < 2147483648) : ∀ (n : Nat) (i : Int) (ν : Mm), 0 ≤ i → i ≤ 8 → 8 - i < n → (∀ r, r ≠ a → ν r = μ r) → (∀ k, 0 ≤ k → k < i → gZ ν a k = y) → ∃ ν1, fJ7_fill_53178_l5 N a y n i ν = some ν1 ∧ (∀ r, r ≠ a → ν1 r = μ r) ∧ (∀ k, 0 ≤ k → k < 8 → gZ ν1 a k = y) := by
  intro n
  induction n with
  | zero => intro i ν h0 h1 h2; omega
  | succ n ih =>
    intro i ν h0 h1 h2 hr hv
    rw [fJ7_fill_53178_l5, wr_id (a := i) (by omega) (by omega)]
    by_cases q : 8 ≤ i
    · rw [if_pos q]
      exact ⟨ν, rfl, hr, fun k a b => hv k a (by omega)⟩
    · rw [if_neg q, stA_ok h0 (by omega) (by omega), ob_s]
      refine ih (i + 1) _ (by omega) (by omega) (by omega) (fun r h => by rw [row_pZ h]; exact hr r h) (fun k k0 k1 => ?_)
      rw [gZ_pZ h0 k0]
      by_cases z : k = i
      · rw [if_pos z, wr_id hy.1 hy.2]
      · rw [if_neg z]; exact hv k k0 (by omega)
theorem x_fill (N : Nat) (hNB : NB N) {μ : Mm} {a : Nat} {y : Int} (hy : -2147483648 ≤ y ∧ y < 2147483648) : ∃ ν, fJ7_fill_53178 N a y μ = some ν ∧ (∀ r, r ≠ a → ν r = μ r) ∧ (∀ k, 0 ≤ k → k < 8 → gZ ν a k = y) := by
  have hN2 : 300 ≤ N := hNB
  exact fill_l N hy N 0 μ (by omega) (by omega) (by omega) (fun _ _ => rfl) (fun k _ _ => by omega)
theorem x_hole (N : Nat) {μ : Mm} {a : Nat} {c h s : Int} (c0 : 0 ≤ c) (c1 : c < 8) (hs : gZ μ (a + 2) c = s) (s0 : 0 ≤ s) (s1 : s ≤ 3) (hh : h = 0 ∨ h = 1 ∨ h = 2) : fX7_holeShownBy N a c h μ = some (if h = 2 then (s + 3) % 4 else s) := by
  unfold fX7_holeShownBy
  rw [andI_7, show c % 8 = c by omega, ldA_ok c0 (by omega) (by omega), ob_s, hs, wr_id (a := h) (by omega) (by omega), andI_3]
  by_cases q : h = 2
  · rw [if_pos q, if_pos q]
    congr 1
    omega
  · rw [if_neg q, if_neg q]
theorem wnt_l (N : Nat) (hNB : NB N) {μ : Mm} {t a : Nat} (hta : t + 5 < a ∨ a + 8 < t) (hL : LoomR μ t) (ha : a + 8 < 332) {m : Int} (m0 : 0 ≤ m) (m1 : m < 2147483648) {v : Int → Int} (hv : ∀ c, 0 ≤ c → c < gI μ t 6 → gZ μ (a + 2) c = v c ∧ 0 ≤ v c ∧ v c ≤ 3) : ∀ (j n : Nat) (c : Int) (ν : Mm), 0 ≤ c → c + j = gI μ t 6 → j < n → (∀ r, r ≠ a + 7 → ν r = μ r) → (∀ k, 0 ≤ k → k < 8 → gZ ν (a + 7) k = qN (fun j => gZ μ 335 j) (hwQ μ t m) v k c.toNat) → ∃ ν1, fX7_countWanted_l10 N a t m n c ν = some ν1 ∧ (∀ r, r ≠ a + 7 → ν1 r = μ r) ∧ (∀ k, 0 ≤ k → k < 8 → gZ ν1 (a + 7) k = qN (fun j => gZ μ 335 j) (hwQ μ t m) v k (gI μ t 6).toNat) := by
  obtain ⟨⟨e5, a5, b5⟩, ⟨e6, a6, b6⟩, -⟩ := id hL
  intro j
  induction j with
  | zero =>
    intro n c ν c0 hc hn hr hw
    obtain ⟨f, rfl⟩ : ∃ f, n = f + 1 := ⟨n - 1, by omega⟩
    rw [fX7_countWanted_l10, gI_row (hr t (by omega)), wr_gI, wr_id (a := c) (by omega) (by omega), if_pos (by omega)]
    exact ⟨ν, rfl, hr, by rw [show gI μ t 6 = c by omega]; exact hw⟩
  | succ j ih =>
    intro n c ν c0 hc hn hr hw
    obtain ⟨f, rfl⟩ : ∃ f, n = f + 1 := ⟨n - 1, by omega⟩
    have c1 : c < gI μ t 6 := by omega
    have hL2 : LoomR ν t := hL.fr (fun r h => hr r (by omega)) (gI_row (hr 332 (by omega)) 2) (gI_row (hr 332 (by omega)) 6) (gI_row (hr 332 (by omega)) 9)
    have e6n : gI ν t 6 = gI μ t 6 := gI_row (hr t (by omega)) 6
    have hwn : hwQ ν t m c = hwQ μ t m c := by unfold hwQ; rw [gZ_row (hr (t + 3) (by omega))]
    have hwv := hwQ_v μ t m c
    obtain ⟨hv1, hv2, hv3⟩ := hv c c0 c1
    have hq := qC_ok hL (H := hwQ μ t m) c0 c1 ⟨hv2, hv3⟩
    have hmv := x_move N hNB hL2 m0 m1 c0 (by rw [e6n]; exact c1)
    rw [hwn] at hmv
    have hho := x_hole N (μ := ν) (a := a) (c := c) (h := hwQ μ t m c) (s := v c) c0 (by omega) (by rw [gZ_row (hr (a + 2) (by omega))]; exact hv1) hv2 hv3 hwv
    have hcl := (r_col N hL2 (if hwQ μ t m c = 2 then (v c + 3) % 4 else v c) c0 (by rw [e6n]; exact c1)).1
    rw [gZ_row (hr 335 (by omega)), show (if hwQ μ t m c = 2 then (v c + 3) % 4 else v c) % 4 = (if hwQ μ t m c = 2 then (v c + 3) % 4 else v c) from (by have := hq.2.2; unfold qH at this; omega), show gZ μ 335 (4 * c + (if hwQ μ t m c = 2 then (v c + 3) % 4 else v c)) = qC (fun j => gZ μ 335 j) (hwQ μ t m) v c from rfl] at hcl
    have hqs := fun k => qN_s (fun j => gZ μ 335 j) (hwQ μ t m) v k c0
    rw [fX7_countWanted_l10, e6n, wr_gI, wr_id (a := c) (by omega) (by omega), if_neg (by omega), if_neg (by omega), hmv, ob_s, hho, ob_s, hcl, ob_s, wr_id (a := hwQ μ t m c) (by omega) (by omega)]
    generalize qC (fun j => gZ μ 335 j) (hwQ μ t m) v c = W at *
    rw [wr_id (a := W) (by omega) (by omega)]
    by_cases z : hwQ μ t m c = 0
    · rw [if_pos z]
      refine ih f (c + 1) ν (by omega) (by omega) (by omega) hr (fun k k0 k1 => ?_)
      rw [hqs, if_pos z, Int.add_zero]
      exact hw k k0 k1
    · have hb := qN_b (fun j => gZ μ 335 j) (hwQ μ t m) v W c.toNat
      rw [if_neg z, if_neg (by omega), if_neg (by omega), ldA_ok hq.1 (by omega) (by omega), ob_s, stA_ok hq.1 (by omega) (by omega), ob_s, hw W hq.1 (by omega)]
      refine ih f (c + 1) _ (by omega) (by omega) (by omega) (fun r h => by rw [row_pZ h]; exact hr r h) (fun k k0 k1 => ?_)
      rw [gZ_pZ hq.1 k0, hqs, if_neg z]
      by_cases y : k = W
      · rw [if_pos y, if_pos y.symm, wr_id (by omega) (by omega), y]
      · rw [if_neg y, if_neg (fun e => y e.symm), Int.add_zero]
        exact hw k k0 k1
theorem lkg_l (N : Nat) {μ : Mm} {t a : Nat} (hL : LoomR μ t) {w y : Int → Int} (hw : ∀ k, 0 ≤ k → k < 8 → gZ μ (a + 7) k = w k) (hy : ∀ k, 0 ≤ k → k < gI μ t 5 → gZ μ (a + 6) k = y k) : ∀ (n : Nat) (k : Int), 0 ≤ k → k ≤ gI μ t 5 → gI μ t 5 - k < n → (∀ i, 0 ≤ i → i < k → w i ≤ y i) → ∃ r, fX7_findLacking_l8 N a t μ n k = some (r, μ) ∧ ((r = -1 ∧ ∀ i, 0 ≤ i → i < gI μ t 5 → w i ≤ y i) ∨ (0 ≤ r ∧ r < gI μ t 5 ∧ y r < w r ∧ ∀ i, 0 ≤ i → i < r → w i ≤ y i)) := by
  obtain ⟨⟨e5, a5, b5⟩, -⟩ := id hL
  intro n
  induction n with
  | zero => intro k h0 h1 h2; omega
  | succ n ih =>
    intro k h0 h1 h2 h3
    rw [fX7_findLacking_l8, wr_gI, wr_id (a := k) (by omega) (by omega)]
    by_cases q : gI μ t 5 ≤ k
    · rw [if_pos q]
      exact ⟨-1, rfl, Or.inl ⟨rfl, fun i a b => h3 i a (by omega)⟩⟩
    · rw [if_neg q, if_neg (by omega), ldA_ok h0 (by omega) (by omega), ob_s, ldA_ok h0 (by omega) (by omega), ob_s, wr_gZ, wr_gZ, hw k h0 (by omega), hy k h0 (by omega)]
      by_cases z : w k ≤ y k
      · rw [if_pos z]
        refine ih (k + 1) (by omega) (by omega) (by omega) (fun i a b => ?_)
        by_cases e : i = k
        · rw [e]; exact z
        · exact h3 i a (by omega)
      · rw [if_neg z]
        exact ⟨k, rfl, Or.inr ⟨h0, by omega, by omega, h3⟩⟩
theorem x_lacking (N : Nat) (hNB : NB N) {μ : Mm} {t a : Nat} (hta : t + 5 < a ∨ a + 8 < t) (hL : LoomR μ t) (ha : a + 8 < 332) {m : Int} (m0 : 0 ≤ m) (m1 : m < 2147483648) {v : Int → Int} (hv : ∀ c, 0 ≤ c → c < gI μ t 6 → gZ μ (a + 2) c = v c ∧ 0 ≤ v c ∧ v c ≤ 3) (hy : ∀ k, 0 ≤ k → k < gI μ t 5 → gZ μ (a + 6) k = v (40 + k)) : ∃ r ν, fX7_findLacking N a t m μ = some (r, ν) ∧ (∀ x, x ≠ a + 7 → ν x = μ x) ∧ ((r = -1 ∧ ∀ k, 0 ≤ k → k < gI μ t 5 → qN (fun j => gZ μ 335 j) (hwQ μ t m) v k (gI μ t 6).toNat ≤ v (40 + k)) ∨ (0 ≤ r ∧ r < gI μ t 5 ∧ v (40 + r) < qN (fun j => gZ μ 335 j) (hwQ μ t m) v r (gI μ t 6).toNat ∧ ∀ k, 0 ≤ k → k < r → qN (fun j => gZ μ 335 j) (hwQ μ t m) v k (gI μ t 6).toNat ≤ v (40 + k))) := by
  have hN2 : 300 ≤ N := hNB
  obtain ⟨⟨e5, a5, b5⟩, ⟨e6, a6, b6⟩, -⟩ := id hL
  obtain ⟨ν1, f1, f2, f3⟩ := x_fill N hNB (μ := μ) (a := a + 7) (y := 0) (by decide)
  obtain ⟨ν2, g1, g2, g3⟩ := wnt_l N hNB hta hL ha m0 m1 hv (gI μ t 6).toNat N 0 ν1 (by omega) (by omega) (by omega) f2 f3
  have hL2 : LoomR ν2 t := hL.fr (fun r h => g2 r (by omega)) (gI_row (g2 332 (by omega)) 2) (gI_row (g2 332 (by omega)) 6) (gI_row (g2 332 (by omega)) 9)
  have e5n : gI ν2 t 5 = gI μ t 5 := gI_row (g2 t (by omega)) 5
  obtain ⟨r, r1, r2⟩ := lkg_l N hL2 (a := a) (w := fun k => qN (fun j => gZ μ 335 j) (hwQ μ t m) v k (gI μ t 6).toNat) (y := fun k => v (40 + k)) g3 (fun k a b => by rw [gZ_row (g2 _ (by omega))]; exact hy k a (by omega)) N 0 (by omega) (by omega) (by omega) (fun i a b => by omega)
  rw [e5n] at r2
  refine ⟨r, ν2, ?_, g2, r2⟩
  unfold fX7_findLacking fX7_countWanted
  rw [f1, ob_s, g1, ob_s]
  exact r1
theorem x_turn (N : Nat) {μ : Mm} {t a : Nat} (hta : t + 5 < a ∨ a + 8 < t) (hL : LoomR μ t) (ha : a + 8 < 332) {c h : Int} (c0 : 0 ≤ c) (c1 : c < gI μ t 6) (hh : h = 1 ∨ h = 2) (hs : 0 ≤ gZ μ (a + 2) c ∧ gZ μ (a + 2) c ≤ 3) (ht : -1000 ≤ gZ μ (a + 3) c ∧ gZ μ (a + 3) c ≤ 1000) (hw : 0 ≤ gZ μ (a + 1) c ∧ gZ μ (a + 1) c ≤ 1) {W : Int} (hW : W = gZ μ 335 (4 * c + (if h = 2 then (gZ μ (a + 2) c + 3) % 4 else gZ μ (a + 2) c))) (w0 : 0 ≤ W) (w1 : W < 8) (hy : -10000 ≤ gZ μ (a + 6) W ∧ gZ μ (a + 6) W ≤ 10000) : ∃ ν, fX7_turnCard N a t c h μ = some ν ∧ (∀ r, (r < a + 2 ∨ a + 6 < r) → ν r = μ r) ∧ (∀ i, 0 ≤ i → gZ ν (a + 2) i = (if i = c then (if h = 1 then (gZ μ (a + 2) c + 1) % 4 else (gZ μ (a + 2) c + 3) % 4) else gZ μ (a + 2) i) ∧ gZ ν (a + 3) i = (if i = c then (if h = 1 then gZ μ (a + 3) c + 1 else gZ μ (a + 3) c - 1) else gZ μ (a + 3) i) ∧ gZ ν (a + 4) i = (if i = c then W else gZ μ (a + 4) i) ∧ gZ ν (a + 5) i = (if i = c then (if h = 1 then gZ μ (a + 1) c else 1 - gZ μ (a + 1) c) else gZ μ (a + 5) i) ∧ gZ ν (a + 6) i = (if i = W then gZ μ (a + 6) W - 1 else gZ μ (a + 6) i)) := by
  obtain ⟨⟨e5, a5, b5⟩, ⟨e6, a6, b6⟩, -⟩ := id hL
  have hho := x_hole N (μ := μ) (a := a) (c := c) (h := h) (s := gZ μ (a + 2) c) c0 (by omega) rfl hs.1 hs.2 (by omega)
  have hcl := (r_col N hL (if h = 2 then (gZ μ (a + 2) c + 3) % 4 else gZ μ (a + 2) c) c0 c1).1
  have hb : 0 ≤ (if h = 2 then (gZ μ (a + 2) c + 3) % 4 else gZ μ (a + 2) c) ∧ (if h = 2 then (gZ μ (a + 2) c + 3) % 4 else gZ μ (a + 2) c) ≤ 3 := by
    by_cases q : h = 2
    · rw [if_pos q]; omega
    · rw [if_neg q]; exact hs
  rw [show (if h = 2 then (gZ μ (a + 2) c + 3) % 4 else gZ μ (a + 2) c) % 4 = (if h = 2 then (gZ μ (a + 2) c + 3) % 4 else gZ μ (a + 2) c) by omega, ← hW] at hcl
  have fin : ∀ (S T L : Int), 0 ≤ S → S ≤ 3 → -1001 ≤ T → T ≤ 1001 → 0 ≤ L → L ≤ 1 → (∀ r, (r < a + 2 ∨ a + 6 < r) → (pZ (pZ (pZ (pZ (pZ μ (a + 2) c S) (a + 3) c T) (a + 5) c L) (a + 4) c W) (a + 6) W (gZ μ (a + 6) W - 1)) r = μ r) ∧ (∀ i, 0 ≤ i → gZ (pZ (pZ (pZ (pZ (pZ μ (a + 2) c S) (a + 3) c T) (a + 5) c L) (a + 4) c W) (a + 6) W (gZ μ (a + 6) W - 1)) (a + 2) i = (if i = c then S else gZ μ (a + 2) i) ∧ gZ (pZ (pZ (pZ (pZ (pZ μ (a + 2) c S) (a + 3) c T) (a + 5) c L) (a + 4) c W) (a + 6) W (gZ μ (a + 6) W - 1)) (a + 3) i = (if i = c then T else gZ μ (a + 3) i) ∧ gZ (pZ (pZ (pZ (pZ (pZ μ (a + 2) c S) (a + 3) c T) (a + 5) c L) (a + 4) c W) (a + 6) W (gZ μ (a + 6) W - 1)) (a + 4) i = (if i = c then W else gZ μ (a + 4) i) ∧ gZ (pZ (pZ (pZ (pZ (pZ μ (a + 2) c S) (a + 3) c T) (a + 5) c L) (a + 4) c W) (a + 6) W (gZ μ (a + 6) W - 1)) (a + 5) i = (if i = c then L else gZ μ (a + 5) i) ∧ gZ (pZ (pZ (pZ (pZ (pZ μ (a + 2) c S) (a + 3) c T) (a + 5) c L) (a + 4) c W) (a + 6) W (gZ μ (a + 6) W - 1)) (a + 6) i = (if i = W then gZ μ (a + 6) W - 1 else gZ μ (a + 6) i)) := by
    intro S T L s0 s1 t0 t1 l0 l1
    refine ⟨fun r hr => by rw [row_pZ (by omega), row_pZ (by omega), row_pZ (by omega), row_pZ (by omega), row_pZ (by omega)], fun i i0 => ⟨?_, ?_, ?_, ?_, ?_⟩⟩
    · rw [gZ_pZ_a (by omega), gZ_pZ_a (by omega), gZ_pZ_a (by omega), gZ_pZ_a (by omega), gZ_pZ c0 i0, wr_id (by omega) (by omega)]
    · rw [gZ_pZ_a (by omega), gZ_pZ_a (by omega), gZ_pZ_a (by omega), gZ_pZ c0 i0, gZ_pZ_a (by omega), wr_id (by omega) (by omega)]
    · rw [gZ_pZ_a (by omega), gZ_pZ c0 i0, gZ_pZ_a (by omega), gZ_pZ_a (by omega), gZ_pZ_a (by omega), wr_id (by omega) (by omega)]
    · rw [gZ_pZ_a (by omega), gZ_pZ_a (by omega), gZ_pZ c0 i0, gZ_pZ_a (by omega), gZ_pZ_a (by omega), wr_id (by omega) (by omega)]
    · rw [gZ_pZ w0 i0, gZ_pZ_a (by omega), gZ_pZ_a (by omega), gZ_pZ_a (by omega), gZ_pZ_a (by omega), wr_id (by omega) (by omega)]
  unfold fX7_turnCard fX7_turnCard_j106
  rw [wr_id (a := h) (by omega) (by omega), if_neg (by omega), wr_id (a := c) (by omega) (by omega), if_neg (by omega), if_pos (by omega), hho, ob_s, hcl, ob_s]
  simp only [wr_id (show -2147483648 ≤ W by omega) (show W < 2147483648 by omega), if_neg (show ¬ W < 0 by omega), if_neg (show ¬ 8 ≤ W by omega)]
  rcases hh with rfl | rfl
  · have f := fin ((gZ μ (a + 2) c + 1) % 4) (gZ μ (a + 3) c + 1) (gZ μ (a + 1) c) (by omega) (by omega) (by omega) (by omega) (by omega) (by omega)
    refine ⟨_, ?_, f.1, f.2⟩
    rw [if_pos rfl, if_neg (by decide), andI_3, stA_ok c0 (by omega) (by omega), ob_s, ldA_ok c0 (by omega) (by omega), ob_s, gZ_pZ_a (by omega), stA_ok c0 (by omega) (by omega), ob_s, ldA_ok c0 (by omega) (by omega), ob_s, gZ_pZ_a (by omega), gZ_pZ_a (by omega), stA_ok c0 (by omega) (by omega), ob_s, stA_ok c0 (by omega) (by omega), ob_s, ldA_ok w0 (by omega) (by omega), ob_s, gZ_pZ_a (by omega), gZ_pZ_a (by omega), gZ_pZ_a (by omega), gZ_pZ_a (by omega), stA_ok w0 (by omega) (by omega), ob_s]
  · have f := fin ((gZ μ (a + 2) c + 3) % 4) (gZ μ (a + 3) c - 1) (1 - gZ μ (a + 1) c) (by omega) (by omega) (by omega) (by omega) (by omega) (by omega)
    refine ⟨_, ?_, f.1, f.2⟩
    rw [if_neg (by decide), if_pos rfl, stA_ok c0 (by omega) (by omega), ob_s, ldA_ok c0 (by omega) (by omega), ob_s, gZ_pZ_a (by omega), stA_ok c0 (by omega) (by omega), ob_s, ldA_ok c0 (by omega) (by omega), ob_s, gZ_pZ_a (by omega), gZ_pZ_a (by omega), stA_ok c0 (by omega) (by omega), ob_s, stA_ok c0 (by omega) (by omega), ob_s, ldA_ok w0 (by omega) (by omega), ob_s, gZ_pZ_a (by omega), gZ_pZ_a (by omega), gZ_pZ_a (by omega), gZ_pZ_a (by omega), stA_ok w0 (by omega) (by omega), ob_s]
/-- the class' rows behind the first n cards -/
def XBk (ν : Mm) (a : Nat) (K C : Int) (G H v : Int → Int) (n : Int) : Prop := (∀ d, 0 ≤ d → d < C → gZ ν (a + 2) d = qS H v n d ∧ gZ ν (a + 3) d = qT H v n d ∧ gZ ν (a + 4) d = qW G H v n d ∧ gZ ν (a + 5) d = qL H v n d ∧ gZ ν (a + 1) d = v (32 + d)) ∧ (∀ k, 0 ≤ k → k < K → gZ ν (a + 6) k = v (40 + k) - qN G H v k n.toNat)
theorem XBk_s {μ ν : Mm} {a : Nat} {K C : Int} {G H v : Int → Int} {c : Int} (c0 : 0 ≤ c) (c1 : c < C) (hB : XBk μ a K C G H v c) (hG : 0 ≤ qC G H v c ∧ qC G H v c < K) (hH : H c = 1 ∨ H c = 2) (h1 : ν (a + 1) = μ (a + 1)) (hv : ∀ i, 0 ≤ i → gZ ν (a + 2) i = (if i = c then (if H c = 1 then (gZ μ (a + 2) c + 1) % 4 else (gZ μ (a + 2) c + 3) % 4) else gZ μ (a + 2) i) ∧ gZ ν (a + 3) i = (if i = c then (if H c = 1 then gZ μ (a + 3) c + 1 else gZ μ (a + 3) c - 1) else gZ μ (a + 3) i) ∧ gZ ν (a + 4) i = (if i = c then qC G H v c else gZ μ (a + 4) i) ∧ gZ ν (a + 5) i = (if i = c then (if H c = 1 then gZ μ (a + 1) c else 1 - gZ μ (a + 1) c) else gZ μ (a + 5) i) ∧ gZ ν (a + 6) i = (if i = qC G H v c then gZ μ (a + 6) (qC G H v c) - 1 else gZ μ (a + 6) i)) : XBk ν a K C G H v (c + 1) := by
  obtain ⟨hB1, hB2⟩ := hB
  obtain ⟨y1, y2, y3, y4, y5⟩ := hB1 c c0 c1
  have n0 : H c ≠ 0 := by omega
  have lc : ¬ c < c := by omega
  have lc1 : c < c + 1 := by omega
  refine ⟨fun d d0 d1 => ?_, fun k k0 k1 => ?_⟩
  · obtain ⟨z1, z2, z3, z4, z5⟩ := hB1 d d0 d1
    obtain ⟨v1, v2, v3, v4, v5⟩ := hv d d0
    rw [v1, v2, v3, v4, gZ_row h1, z5, y1, y2, y5]
    by_cases e : d = c
    · subst e
      rw [if_pos rfl, if_pos rfl, if_pos rfl, if_pos rfl]
      unfold qS qT qW qL
      rw [if_neg lc, if_neg lc, if_pos lc1, if_pos lc1, if_pos lc1, if_pos lc1, if_neg n0]
      rcases hH with h | h
      · rw [if_pos h, if_pos h, if_pos h, if_pos h, if_pos h, if_pos h]
        exact ⟨rfl, rfl, rfl, rfl, rfl⟩
      · have h' : ¬ H d = 1 := by omega
        rw [if_neg h', if_neg h', if_neg h', if_neg h', if_neg h', if_neg h', if_pos h, if_pos h, if_pos h]
        exact ⟨rfl, rfl, rfl, rfl, rfl⟩
    · rw [if_neg e, if_neg e, if_neg e, if_neg e, z1, z2, z3, z4]
      unfold qS qT qW qL
      by_cases l : d < c
      · have lp : d < c + 1 := by omega
        rw [if_pos l, if_pos l, if_pos l, if_pos l, if_pos lp, if_pos lp, if_pos lp, if_pos lp]
        exact ⟨rfl, rfl, rfl, rfl, rfl⟩
      · have lp : ¬ d < c + 1 := by omega
        rw [if_neg l, if_neg l, if_neg l, if_neg l, if_neg lp, if_neg lp, if_neg lp, if_neg lp]
        exact ⟨rfl, rfl, rfl, rfl, rfl⟩
  · rw [(hv k k0).2.2.2.2, qN_s G H v k c0, if_neg n0]
    by_cases e : k = qC G H v c
    · rw [if_pos e, if_pos e.symm, hB2 _ hG.1 hG.2, ← e]
      omega
    · rw [if_neg e, if_neg (fun y => e y.symm), hB2 k k0 k1]
      omega
theorem XBk_0 {μ : Mm} {a : Nat} {K C : Int} {G H v : Int → Int} {c : Int} (c0 : 0 ≤ c) (hB : XBk μ a K C G H v c) (hH : H c = 0) : XBk μ a K C G H v (c + 1) := by
  obtain ⟨hB1, hB2⟩ := hB
  refine ⟨fun d d0 d1 => ?_, fun k k0 k1 => by rw [qN_s G H v k c0, if_pos hH, Int.add_zero]; exact hB2 k k0 k1⟩
  obtain ⟨z1, z2, z3, z4, z5⟩ := hB1 d d0 d1
  rw [z1, z2, z3, z4, z5]
  unfold qS qT qW qL
  by_cases e : d = c
  · subst e
    have lc : ¬ d < d := by omega
    have lc1 : d < d + 1 := by omega
    rw [if_neg lc, if_neg lc, if_neg lc, if_neg lc, if_pos lc1, if_pos lc1, if_pos lc1, if_pos lc1, hH]
    exact ⟨rfl, rfl, rfl, rfl, rfl⟩
  · by_cases l : d < c
    · have lp : d < c + 1 := by omega
      rw [if_pos l, if_pos l, if_pos l, if_pos l, if_pos lp, if_pos lp, if_pos lp, if_pos lp]
      exact ⟨rfl, rfl, rfl, rfl, rfl⟩
    · have lp : ¬ d < c + 1 := by omega
      rw [if_neg l, if_neg l, if_neg l, if_neg l, if_neg lp, if_neg lp, if_neg lp, if_neg lp]
      exact ⟨rfl, rfl, rfl, rfl, rfl⟩
