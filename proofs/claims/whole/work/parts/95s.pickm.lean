/-! a pick: what it makes of a state; the reference's side -/
def figN : Nat → Int → Int
  | 0, m => m % 3
  | k + 1, m => figN k (m / 3)
theorem figN_b : ∀ (k : Nat) (m : Int), 0 ≤ figN k m ∧ figN k m ≤ 2 := by
  intro k
  induction k with
  | zero => intro m; show 0 ≤ m % 3 ∧ m % 3 ≤ 2; omega
  | succ k ih => intro m; exact ih (m / 3)
def hwQ (μ : Mm) (t : Nat) (m c : Int) : Int := if gZ μ (t + 3) c = -1 then 0 else figN (gZ μ (t + 3) c).toNat m
theorem hwQ_v (μ : Mm) (t : Nat) (m c : Int) : hwQ μ t m c = 0 ∨ hwQ μ t m c = 1 ∨ hwQ μ t m c = 2 := by
  unfold hwQ
  by_cases q : gZ μ (t + 3) c = -1
  · rw [if_pos q]; exact Or.inl rfl
  · rw [if_neg q]
    have := figN_b (gZ μ (t + 3) c).toNat m
    omega
theorem fig_m (N : Nat) (y : Int) : ∀ (k n : Nat) (x i : Int), 0 ≤ x → x < 2147483648 → 0 ≤ i → i + k = y → y < 100 → k < n → fX9_figureOf_l4 N y n x i = some (figN k x) := by
  intro k
  induction k with
  | zero =>
    intro n x i x0 x1 i0 hi hy hn
    obtain ⟨f, rfl⟩ : ∃ f, n = f + 1 := ⟨n - 1, by omega⟩
    rw [fX9_figureOf_l4, wr_id (a := y) (by omega) (by omega), wr_id (a := i) (by omega) (by omega), if_pos (by omega), rmI_p x0 x1 (by decide) (by decide)]
    rfl
  | succ k ih =>
    intro n x i x0 x1 i0 hi hy hn
    obtain ⟨f, rfl⟩ : ∃ f, n = f + 1 := ⟨n - 1, by omega⟩
    rw [fX9_figureOf_l4, wr_id (a := y) (by omega) (by omega), wr_id (a := i) (by omega) (by omega), if_neg (by omega), dvI_p x0 x1 (by decide) (by decide)]
    exact ih f (x / 3) (i + 1) (by omega) (by omega) (by omega) (by omega) hy (by omega)
theorem fig_x (N : Nat) (y : Int) : ∀ (k n : Nat) (x i : Int), 0 ≤ x → x < 2147483648 → 0 ≤ i → i + k = y → y < 100 → k < n → fX5_moveOf_l23 N y n x i = some (figN k x) := by
  intro k
  induction k with
  | zero =>
    intro n x i x0 x1 i0 hi hy hn
    obtain ⟨f, rfl⟩ : ∃ f, n = f + 1 := ⟨n - 1, by omega⟩
    rw [fX5_moveOf_l23, wr_id (a := y) (by omega) (by omega), wr_id (a := i) (by omega) (by omega), if_pos (by omega), rmI_p x0 x1 (by decide) (by decide)]
    rfl
  | succ k ih =>
    intro n x i x0 x1 i0 hi hy hn
    obtain ⟨f, rfl⟩ : ∃ f, n = f + 1 := ⟨n - 1, by omega⟩
    rw [fX5_moveOf_l23, wr_id (a := y) (by omega) (by omega), wr_id (a := i) (by omega) (by omega), if_neg (by omega), dvI_p x0 x1 (by decide) (by decide)]
    exact ih f (x / 3) (i + 1) (by omega) (by omega) (by omega) (by omega) hy (by omega)
theorem x_move (N : Nat) (hNB : NB N) {μ : Mm} {t : Nat} (hL : LoomR μ t) {m c : Int} (m0 : 0 ≤ m) (m1 : m < 2147483648) (c0 : 0 ≤ c) (c1 : c < gI μ t 6) : fX5_moveOf N t c m μ = some (hwQ μ t m c) := by
  have hN2 : 300 ≤ N := hNB
  have hp := r_pk hL c0 c1
  obtain ⟨-, ⟨e6, a6, b6⟩, ⟨e7, a7, b7⟩, -⟩ := id hL
  unfold fX5_moveOf hwQ
  rw [andI_7, show c % 8 = c by omega, ldA_ok c0 (by omega) (by omega), ob_s, wr_gZ]
  by_cases q : gZ μ (t + 3) c = -1
  · rw [if_pos q, if_pos q]
  · rw [if_neg q, if_neg q]
    exact fig_x N _ _ N m 0 m0 m1 (by omega) (by omega) (by omega) (by omega)
def qH (H v : Int → Int) (d : Int) : Int := if H d = 2 then (v d + 3) % 4 else v d
def qC (G H v : Int → Int) (d : Int) : Int := G (4 * d + qH H v d)
def qS (H v : Int → Int) (n d : Int) : Int := if d < n then (if H d = 1 then (v d + 1) % 4 else if H d = 2 then (v d + 3) % 4 else v d) else v d
def qT (H v : Int → Int) (n d : Int) : Int := if d < n then (if H d = 1 then v (8 + d) + 1 else if H d = 2 then v (8 + d) - 1 else v (8 + d)) else v (8 + d)
def qW (G H v : Int → Int) (n d : Int) : Int := if d < n then (if H d = 0 then v (16 + d) else qC G H v d) else v (16 + d)
def qL (H v : Int → Int) (n d : Int) : Int := if d < n then (if H d = 1 then v (32 + d) else if H d = 2 then 1 - v (32 + d) else v (24 + d)) else v (24 + d)
def qN (G H v : Int → Int) (k : Int) : Nat → Int
  | 0 => 0
  | n + 1 => qN G H v k n + (if H n = 0 then 0 else if qC G H v n = k then 1 else 0)
theorem qN_b (G H v : Int → Int) (k : Int) : ∀ n : Nat, 0 ≤ qN G H v k n ∧ qN G H v k n ≤ n := by
  intro n
  induction n with
  | zero => exact ⟨Int.le_refl _, Int.le_refl _⟩
  | succ n ih =>
    show 0 ≤ qN G H v k n + (if H n = 0 then 0 else if qC G H v n = k then 1 else 0) ∧ qN G H v k n + (if H n = 0 then 0 else if qC G H v n = k then 1 else 0) ≤ _
    by_cases q : H n = 0
    · rw [if_pos q]; omega
    · rw [if_neg q]
      by_cases q2 : qC G H v n = k
      · rw [if_pos q2]; omega
      · rw [if_neg q2]; omega
theorem qN_s (G H v : Int → Int) (k : Int) {c : Int} (c0 : 0 ≤ c) : qN G H v k (c + 1).toNat = qN G H v k c.toNat + (if H c = 0 then 0 else if qC G H v c = k then 1 else 0) := by
  rw [show (c + 1).toNat = c.toNat + 1 by omega]
  show qN G H v k c.toNat + (if H ((c.toNat : Nat) : Int) = 0 then 0 else if qC G H v ((c.toNat : Nat) : Int) = k then 1 else 0) = _
  rw [show ((c.toNat : Nat) : Int) = c by omega]
def PVf (G H v : Int → Int) (C k : Int) : Int :=
  if k < 8 then qS H v C k else if k < 16 then qT H v C (k - 8) else if k < 24 then qW G H v C (k - 16) else if k < 32 then qL H v C (k - 24) else if k < 40 then v k else if k < 48 then v k - qN G H v (k - 40) C.toNat else if k = 48 then v 48 + 1 else if k = 49 then (if v 49 < 24 then v 49 + 1 else 24) else if 50 + 8 * (if v 49 < 24 then v 49 else 23) ≤ k ∧ k < 58 + 8 * (if v 49 < 24 then v 49 else 23) then qW G H v C (k - 50 - 8 * (if v 49 < 24 then v 49 else 23)) else if v 49 < 24 then v k else v (k + 8)
def BlkR (μ : Mm) (o : Int) (u : Int → Int) : Prop := ∀ k, 0 ≤ k → k < 242 → gZ μ 333 (o + k) = u k
def Vok (K C : Int) (v : Int → Int) : Prop := (∀ d, 0 ≤ d → d < C → (0 ≤ v d ∧ v d ≤ 3) ∧ (-99 ≤ v (8 + d) ∧ v (8 + d) ≤ 99) ∧ (0 ≤ v (32 + d) ∧ v (32 + d) ≤ 1)) ∧ (∀ k, 0 ≤ k → k < K → 0 ≤ v (40 + k) ∧ v (40 + k) ≤ 999) ∧ 0 ≤ v 49 ∧ v 49 ≤ 24 ∧ 0 ≤ v 48 ∧ v 48 ≤ 20000
def Blk (ν : Mm) (o : Int) (G H v : Int → Int) (n : Int) : Prop := (∀ d, 0 ≤ d → d < 8 → gZ ν 333 (o + d) = qS H v n d ∧ gZ ν 333 (o + 8 + d) = qT H v n d ∧ gZ ν 333 (o + 16 + d) = qW G H v n d ∧ gZ ν 333 (o + 24 + d) = qL H v n d ∧ gZ ν 333 (o + 32 + d) = v (32 + d) ∧ gZ ν 333 (o + 40 + d) = v (40 + d) - qN G H v d n.toNat) ∧ (∀ k, 48 ≤ k → k < 242 → gZ ν 333 (o + k) = v k)
theorem m_turn (N : Nat) {μ : Mm} {o c how : Int} (ho : 0 ≤ o ∧ o + 243 ≤ 8262) (c0 : 0 ≤ c) (c1 : c < 8) (hh : how = 1 ∨ how = 2) (hs : 0 ≤ gZ μ 333 (o + c) ∧ gZ μ 333 (o + c) ≤ 3) (ht : -1000 ≤ gZ μ 333 (o + 8 + c) ∧ gZ μ 333 (o + 8 + c) ≤ 1000) (hw : 0 ≤ gZ μ 333 (o + 32 + c) ∧ gZ μ 333 (o + 32 + c) ≤ 1) {W : Int} (hW : W = gZ μ 335 (4 * c + (if how = 2 then (gZ μ 333 (o + c) + 3) % 4 else gZ μ 333 (o + c)))) (w0 : 0 ≤ W) (w1 : W < 8) (hy : -10000 ≤ gZ μ 333 (o + 40 + W) ∧ gZ μ 333 (o + 40 + W) ≤ 10000) : ∃ ν, fX9_turn N o c how μ = some ν ∧ (∀ r, r ≠ 333 → ν r = μ r) ∧ ∀ k, 0 ≤ k → gZ ν 333 k = if k = o + 40 + W then gZ μ 333 (o + 40 + W) - 1 else if k = o + 24 + c then (if how = 1 then gZ μ 333 (o + 32 + c) else 1 - gZ μ 333 (o + 32 + c)) else if k = o + 16 + c then W else if k = o + 8 + c then (if how = 1 then gZ μ 333 (o + 8 + c) + 1 else gZ μ 333 (o + 8 + c) - 1) else if k = o + c then (if how = 1 then (gZ μ 333 (o + c) + 1) % 4 else (gZ μ 333 (o + c) + 3) % 4) else gZ μ 333 k := by
  have fin : ∀ (μ1 : Mm) (S T L : Int), 0 ≤ S → S ≤ 3 → -1001 ≤ T → T ≤ 1001 → 0 ≤ L → L ≤ 1 → μ1 = pZ μ 333 (o + c) S → (∀ r, r ≠ 333 → (pZ (pZ (pZ (pZ μ1 333 (o + 8 + c) T) 333 (o + 16 + c) W) 333 (o + 24 + c) L) 333 (o + 40 + W) (gZ μ 333 (o + 40 + W) - 1)) r = μ r) ∧ ∀ k, 0 ≤ k → gZ (pZ (pZ (pZ (pZ μ1 333 (o + 8 + c) T) 333 (o + 16 + c) W) 333 (o + 24 + c) L) 333 (o + 40 + W) (gZ μ 333 (o + 40 + W) - 1)) 333 k = if k = o + 40 + W then gZ μ 333 (o + 40 + W) - 1 else if k = o + 24 + c then L else if k = o + 16 + c then W else if k = o + 8 + c then T else if k = o + c then S else gZ μ 333 k := by
    intro μ1 S T L s0 s1 t0 t1 l0 l1 e
    refine ⟨fun r hr => by rw [row_pZ hr, row_pZ hr, row_pZ hr, row_pZ hr, e, row_pZ hr], fun k hk => ?_⟩
    rw [gZ_pZ (by omega) hk, gZ_pZ (by omega) hk, gZ_pZ (by omega) hk, gZ_pZ (by omega) hk, e, gZ_pZ (by omega) hk, wr_id (a := gZ μ 333 (o + 40 + W) - 1) (by omega) (by omega), wr_id (a := L) (by omega) (by omega), wr_id (a := W) (by omega) (by omega), wr_id (a := T) (by omega) (by omega), wr_id (a := S) (by omega) (by omega)]
  rcases hh with rfl | rfl
  · rw [if_neg (by decide)] at hW
    obtain ⟨f1, f2⟩ := fin (pZ μ 333 (o + c) ((gZ μ 333 (o + c) + 1) % 4)) ((gZ μ 333 (o + c) + 1) % 4) (gZ μ 333 (o + 8 + c) + 1) (gZ μ 333 (o + 32 + c)) (by omega) (by omega) (by omega) (by omega) (by omega) (by omega) rfl
    have hcol : fX9_colourOf N c (gZ μ 333 (o + c)) μ = some W := by rw [p_colourOf N _ μ c0 (by omega), show (gZ μ 333 (o + c)) % 4 = gZ μ 333 (o + c) by omega, ← hW]
    refine ⟨_, ?_, f1, f2⟩
    unfold fX9_turn fX9_turn_j25 fX9_turn_j65 fX9_turn_j87 fX9_turn_j144
    simp (disch := first | omega | decide) only [hcol, ob_s, ldA_ok, stA_ok, rmI_p, if_pos, if_neg, gZ_pZ_n]
  · rw [if_pos rfl] at hW
    obtain ⟨f1, f2⟩ := fin (pZ μ 333 (o + c) ((gZ μ 333 (o + c) + 3) % 4)) ((gZ μ 333 (o + c) + 3) % 4) (gZ μ 333 (o + 8 + c) - 1) (1 - gZ μ 333 (o + 32 + c)) (by omega) (by omega) (by omega) (by omega) (by omega) (by omega) rfl
    have hcol : fX9_colourOf N c ((gZ μ 333 (o + c) + 3) % 4) (pZ μ 333 (o + c) ((gZ μ 333 (o + c) + 3) % 4)) = some W := by rw [p_colourOf N _ _ c0 (by omega), gZ_pZ_a (by decide), show ((gZ μ 333 (o + c) + 3) % 4) % 4 = (gZ μ 333 (o + c) + 3) % 4 by omega, ← hW]
    have hrd : gZ (pZ μ 333 (o + c) ((gZ μ 333 (o + c) + 3) % 4)) 333 (o + c) = (gZ μ 333 (o + c) + 3) % 4 := by rw [gZ_pZ_s, wr_id (by omega) (by omega)]
    refine ⟨_, ?_, f1, f2⟩
    unfold fX9_turn fX9_turn_j25 fX9_turn_j65 fX9_turn_j87 fX9_turn_j144
    simp (disch := first | omega | decide) only [hcol, hrd, ob_s, ldA_ok, stA_ok, rmI_p, if_pos, if_neg, gZ_pZ_n]
    rfl
theorem Blk_s {μ ν : Mm} {o K : Int} {G H v : Int → Int} {c : Int} (c0 : 0 ≤ c) (c1 : c < 8) (hB : Blk μ o G H v c) (hG : 0 ≤ qC G H v c ∧ qC G H v c < 8) (hH : H c = 1 ∨ H c = 2) (hv : ∀ k, 0 ≤ k → gZ ν 333 k = if k = o + 40 + qC G H v c then gZ μ 333 (o + 40 + qC G H v c) - 1 else if k = o + 24 + c then (if H c = 1 then gZ μ 333 (o + 32 + c) else 1 - gZ μ 333 (o + 32 + c)) else if k = o + 16 + c then qC G H v c else if k = o + 8 + c then (if H c = 1 then gZ μ 333 (o + 8 + c) + 1 else gZ μ 333 (o + 8 + c) - 1) else if k = o + c then (if H c = 1 then (gZ μ 333 (o + c) + 1) % 4 else (gZ μ 333 (o + c) + 3) % 4) else gZ μ 333 k) (ho : 0 ≤ o) : Blk ν o G H v (c + 1) := by
  obtain ⟨hB1, hB2⟩ := hB
  obtain ⟨y1, y2, y3, y4, y5, y6⟩ := hB1 c c0 c1
  have n0 : H c ≠ 0 := by omega
  have lc : ¬ c < c := by omega
  have lc1 : c < c + 1 := by omega
  refine ⟨fun d d0 d1 => ?_, fun k k0 k1 => ?_⟩
  · obtain ⟨z1, z2, z3, z4, z5, z6⟩ := hB1 d d0 d1
    refine ⟨?_, ?_, ?_, ?_, ?_, ?_⟩
    · rw [hv _ (by omega), if_neg (by omega), if_neg (by omega), if_neg (by omega), if_neg (by omega), z1, y1]
      by_cases e : d = c
      · subst e
        rw [if_pos rfl]
        unfold qS
        rw [if_neg lc, if_pos lc1]
        rcases hH with h | h
        · rw [if_pos h, if_pos h]
        · rw [if_neg (by omega), if_neg (by omega), if_pos h]
      · rw [if_neg (by omega)]
        unfold qS
        by_cases l : d < c
        · rw [if_pos l, if_pos (show d < c + 1 by omega)]
        · rw [if_neg l, if_neg (show ¬ d < c + 1 by omega)]
    · rw [hv _ (by omega), if_neg (by omega), if_neg (by omega), if_neg (by omega), z2, y2]
      by_cases e : d = c
      · subst e
        rw [if_pos rfl]
        unfold qT
        rw [if_neg lc, if_pos lc1]
        rcases hH with h | h
        · rw [if_pos h, if_pos h]
        · rw [if_neg (by omega), if_neg (by omega), if_pos h]
      · rw [if_neg (by omega), if_neg (by omega)]
        unfold qT
        by_cases l : d < c
        · rw [if_pos l, if_pos (show d < c + 1 by omega)]
        · rw [if_neg l, if_neg (show ¬ d < c + 1 by omega)]
    · rw [hv _ (by omega), if_neg (by omega), if_neg (by omega), z3]
      by_cases e : d = c
      · subst e
        rw [if_pos rfl]
        unfold qW
        rw [if_pos lc1, if_neg n0]
      · rw [if_neg (by omega), if_neg (by omega), if_neg (by omega)]
        unfold qW
        by_cases l : d < c
        · rw [if_pos l, if_pos (show d < c + 1 by omega)]
        · rw [if_neg l, if_neg (show ¬ d < c + 1 by omega)]
    · rw [hv _ (by omega), if_neg (by omega), z4, y5]
      by_cases e : d = c
      · subst e
        rw [if_pos rfl]
        unfold qL
        rw [if_pos lc1]
        rcases hH with h | h
        · rw [if_pos h, if_pos h]
        · rw [if_neg (by omega), if_neg (by omega), if_pos h]
      · rw [if_neg (by omega), if_neg (by omega), if_neg (by omega), if_neg (by omega)]
        unfold qL
        by_cases l : d < c
        · rw [if_pos l, if_pos (show d < c + 1 by omega)]
        · rw [if_neg l, if_neg (show ¬ d < c + 1 by omega)]
    · rw [hv _ (by omega), if_neg (by omega), if_neg (by omega), if_neg (by omega), if_neg (by omega), if_neg (by omega), z5]
    · rw [hv _ (by omega), qN_s G H v d c0, if_neg n0]
      by_cases e : d = qC G H v c
      · rw [if_pos (by omega), if_pos e.symm]
        have := (hB1 (qC G H v c) hG.1 hG.2).2.2.2.2.2
        rw [this, ← e]
        omega
      · rw [if_neg (by omega), if_neg (by omega), if_neg (by omega), if_neg (by omega), if_neg (by omega), if_neg (fun y => e y.symm), z6]
        omega
  · rw [hv _ (by omega), if_neg (by omega), if_neg (by omega), if_neg (by omega), if_neg (by omega), if_neg (by omega)]
    exact hB2 k k0 k1
theorem Blk_0 {μ : Mm} {o : Int} {G H v : Int → Int} {c : Int} (c0 : 0 ≤ c) (hB : Blk μ o G H v c) (hH : H c = 0) : Blk μ o G H v (c + 1) := by
  obtain ⟨hB1, hB2⟩ := hB
  refine ⟨fun d d0 d1 => ?_, hB2⟩
  obtain ⟨z1, z2, z3, z4, z5, z6⟩ := hB1 d d0 d1
  rw [z1, z2, z3, z4, z5, z6, qN_s G H v d c0, if_pos hH, Int.add_zero]
  unfold qS qT qW qL
  by_cases e : d = c
  · subst e
    have lc : ¬ d < d := by omega
    have lc1 : d < d + 1 := by omega
    rw [if_neg lc, if_neg lc, if_neg lc, if_neg lc, if_pos lc1, if_pos lc1, if_pos lc1, if_pos lc1, hH]
    exact ⟨rfl, rfl, rfl, rfl, rfl, rfl⟩
  · by_cases l : d < c
    · have lp : d < c + 1 := by omega
      rw [if_pos l, if_pos l, if_pos l, if_pos l, if_pos lp, if_pos lp, if_pos lp, if_pos lp]
      exact ⟨rfl, rfl, rfl, rfl, rfl, rfl⟩
    · have lp : ¬ d < c + 1 := by omega
      rw [if_neg l, if_neg l, if_neg l, if_neg l, if_neg lp, if_neg lp, if_neg lp, if_neg lp]
      exact ⟨rfl, rfl, rfl, rfl, rfl, rfl⟩
theorem qC_ok {μ : Mm} {t : Nat} (hL : LoomR μ t) {H v : Int → Int} {d : Int} (d0 : 0 ≤ d) (d1 : d < gI μ t 6) (hv : 0 ≤ v d ∧ v d ≤ 3) : 0 ≤ qC (fun j => gZ μ 335 j) H v d ∧ qC (fun j => gZ μ 335 j) H v d < gI μ t 5 ∧ 0 ≤ qH H v d ∧ qH H v d ≤ 3 := by
  have hb : 0 ≤ qH H v d ∧ qH H v d ≤ 3 := by
    unfold qH
    by_cases q : H d = 2
    · rw [if_pos q]; omega
    · rw [if_neg q]; exact hv
  have h := (r_col 0 hL (qH H v d) d0 d1).2
  rw [show qH H v d % 4 = qH H v d by omega] at h
  exact ⟨h.1, h.2, hb.1, hb.2⟩
theorem m_pl (N : Nat) (hNB : NB N) {μ : Mm} {t : Nat} (ht : t ≤ 306) (hL : LoomR μ t) {o m : Int} (ho : 0 ≤ o ∧ o + 243 ≤ 8262) (m0 : 0 ≤ m) (m1 : m < 2147483648) {v : Int → Int} (hv : Vok (gI μ t 5) (gI μ t 6) v) : ∀ (j n : Nat) (c : Int) (ν : Mm), 0 ≤ c → c + j = gI μ t 6 → j < n → (∀ r, r ≠ 333 → ν r = μ r) → (∀ k, 0 ≤ k → (k < o ∨ o + 242 ≤ k) → gZ ν 333 k = gZ μ 333 k) → Blk ν o (fun j => gZ μ 335 j) (hwQ μ t m) v c → ∃ ν1, fX9_pickIn_l2 N o m n c ν = fX9_pickIn_k54 N o ν1 ∧ (∀ r, r ≠ 333 → ν1 r = μ r) ∧ (∀ k, 0 ≤ k → (k < o ∨ o + 242 ≤ k) → gZ ν1 333 k = gZ μ 333 k) ∧ Blk ν1 o (fun j => gZ μ 335 j) (hwQ μ t m) v (gI μ t 6) := by
  have hN2 : 300 ≤ N := hNB
  obtain ⟨⟨e5, a5, b5⟩, ⟨e6, a6, b6⟩, ⟨e7, a7, b7⟩, -⟩ := id hL
  intro j
  induction j with
  | zero =>
    intro n c ν c0 hc hn hr ho2 hB
    obtain ⟨f, rfl⟩ : ∃ f, n = f + 1 := ⟨n - 1, by omega⟩
    rw [fX9_pickIn_l2, gI_row (hr 332 (by decide)), e6, wr_gI, wr_id (a := c) (by omega) (by omega), if_pos (by omega)]
    exact ⟨ν, rfl, hr, ho2, by rw [show gI μ t 6 = c by omega]; exact hB⟩
  | succ j ih =>
    intro n c ν c0 hc hn hr ho2 hB
    obtain ⟨f, rfl⟩ : ∃ f, n = f + 1 := ⟨n - 1, by omega⟩
    have c1 : c < gI μ t 6 := by omega
    have hpk := r_pk hL c0 c1
    have hpo : fX9_packOf N c ν = some (gZ μ (t + 3) c) := by
      have hL2 : LoomR ν t := hL.fr (fun r h => hr r (by omega)) (gI_row (hr 332 (by decide)) 2) (gI_row (hr 332 (by decide)) 6) (gI_row (hr 332 (by decide)) 9)
      rw [(r_packOf N hNB hL2 c0 (by rw [gI_row (hr t (by omega))]; exact c1)).1, gZ_row (hr (t + 3) (by omega))]
    have step : fX9_pickIn_l2 N o m (f + 1) c ν = fX9_pickIn_j33 N o c ν (fX9_pickIn_l2 N o m f) (hwQ μ t m c) := by
      rw [fX9_pickIn_l2, gI_row (hr 332 (by decide)), e6, wr_gI, wr_id (a := c) (by omega) (by omega), if_neg (by omega), hpo, ob_s, wr_gZ]
      unfold hwQ
      by_cases q : gZ μ (t + 3) c = -1
      · rw [if_pos q, if_pos q]
      · rw [if_neg q, if_neg q]
        have : fX9_figureOf N m (gZ μ (t + 3) c) ν = some (figN (gZ μ (t + 3) c).toNat m) := fig_m N _ _ N m 0 m0 m1 (by omega) (by omega) (by omega) (by omega)
        rw [this, ob_s]
    rw [step]
    unfold fX9_pickIn_j33
    have hwv := hwQ_v μ t m c
    rw [wr_id (a := hwQ μ t m c) (by omega) (by omega)]
    by_cases q : hwQ μ t m c = 0
    · rw [if_pos (by omega)]
      exact ih f (c + 1) ν (by omega) (by omega) (by omega) hr ho2 (Blk_0 c0 hB q)
    · have hvc := hv.1 c c0 c1
      have hq := qC_ok hL (H := hwQ μ t m) c0 c1 hvc.1
      obtain ⟨z1, z2, z3, z4, z5, z6⟩ := hB.1 c c0 (by omega)
      have lc : ¬ c < c := by omega
      have s1 : gZ ν 333 (o + c) = v c := by rw [z1]; unfold qS; rw [if_neg lc]
      have s2 : gZ ν 333 (o + 8 + c) = v (8 + c) := by rw [z2]; unfold qT; rw [if_neg lc]
      have hyv := hv.2.1 (qC (fun j => gZ μ 335 j) (hwQ μ t m) v c) hq.1 hq.2.1
      have hyn := qN_b (fun j => gZ μ 335 j) (hwQ μ t m) v (qC (fun j => gZ μ 335 j) (hwQ μ t m) v c) c.toNat
      have hy6 := (hB.1 (qC (fun j => gZ μ 335 j) (hwQ μ t m) v c) hq.1 (by omega)).2.2.2.2.2
      obtain ⟨ν1, t1, t2, t3⟩ := m_turn N (μ := ν) (o := o) (c := c) (how := hwQ μ t m c) ho c0 (by omega) (by omega) (by rw [s1]; exact hvc.1) (by rw [s2]; omega) (by rw [z5]; exact hvc.2.2) (W := qC (fun j => gZ μ 335 j) (hwQ μ t m) v c) (by rw [s1, gZ_row (hr 335 (by decide))]; rfl) hq.1 (by omega) (by rw [hy6]; omega)
      rw [if_neg (by omega), t1, ob_s]
      refine ih f (c + 1) ν1 (by omega) (by omega) (by omega) (fun r h => by rw [t2 r h, hr r h]) (fun k k0 k1 => ?_) (Blk_s (K := 0) c0 (by omega) hB ⟨hq.1, by omega⟩ (by omega) t3 ho.1)
      rw [t3 k k0, if_neg (by omega), if_neg (by omega), if_neg (by omega), if_neg (by omega), if_neg (by omega)]
      exact ho2 k k0 k1
