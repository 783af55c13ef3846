/-! the loom begins: both sides -/
theorem x_begin (N : Nat) (hNB : NB N) {μ : Mm} {u : Nat} (hu : 12 < u) : ∃ ν, fX7_begin N 3 u μ = some ν ∧ (∀ r, (r < 3 ∨ 9 < r) → ν r = μ r) ∧ gI ν 3 8 = 0 ∧ (∀ i : Int, 0 ≤ i → i < 8 → gZ ν 4 i = gZ μ (u + 2) i ∧ gZ ν 9 i = gZ μ (u + 5) i ∧ gZ ν 5 i = 0 ∧ gZ ν 6 i = 0 ∧ gZ ν 7 i = -1 ∧ gZ ν 8 i = -1) := by
  have c8 : ∀ (ν : Mm) (x y : Nat), cpA ν x 8 y 8 0 0 8 = some (sM ν y (va_cpy (ν x) (ν y) 0 0 8)) := fun ν x y => cpA_z (n := 8) (by decide)
  unfold fX7_begin
  simp only [c8, ob_s]
  generalize e1 : sM μ (3 + 1) (va_cpy (μ (u + 2)) (μ (3 + 1)) 0 0 8) = μ1
  generalize e2 : sM μ1 (3 + 6) (va_cpy (μ1 (u + 5)) (μ1 (3 + 6)) 0 0 8) = μ2
  have r1 : ∀ r, r ≠ 4 → μ1 r = μ r := fun r h => by rw [← e1, row_sM h]
  have r2 : ∀ r, r ≠ 9 → μ2 r = μ1 r := fun r h => by rw [← e2, row_sM h]
  have g1 : ∀ i : Int, 0 ≤ i → i < 8 → gZ μ1 4 i = gZ μ (u + 2) i := fun i h0 h1 => by rw [← e1, gZ_cpy h0 (by omega)]
  have g2 : ∀ i : Int, 0 ≤ i → i < 8 → gZ μ2 9 i = gZ μ1 (u + 5) i := fun i h0 h1 => by rw [← e2, gZ_cpy h0 (by omega)]
  obtain ⟨μ3, a1, a2, a3⟩ := x_fill N hNB (μ := μ2) (a := 3 + 2) (y := 0) (by decide)
  rw [a1, ob_s]
  obtain ⟨μ4, b1, b2, b3⟩ := x_fill N hNB (μ := μ3) (a := 3 + 3) (y := 0) (by decide)
  rw [b1, ob_s]
  obtain ⟨μ5, c1, c2, c3⟩ := x_fill N hNB (μ := μ4) (a := 3 + 4) (y := -1) (by decide)
  rw [c1, ob_s]
  obtain ⟨μ6, d1, d2, d3⟩ := x_fill N hNB (μ := μ5) (a := 3 + 5) (y := -1) (by decide)
  rw [d1, ob_s]
  refine ⟨_, rfl, fun r hr => by rw [row_pI (by omega), d2 r (by omega), c2 r (by omega), b2 r (by omega), a2 r (by omega), r2 r (by omega), r1 r (by omega)], by rw [gI_pI_s]; decide, fun i i0 i1 => ⟨?_, ?_, ?_, ?_, ?_, ?_⟩⟩
  · rw [gZ_pI_a (by decide), gZ_row (d2 4 (by decide)), gZ_row (c2 4 (by decide)), gZ_row (b2 4 (by decide)), gZ_row (a2 4 (by decide)), gZ_row (r2 4 (by decide)), g1 i i0 i1]
  · rw [gZ_pI_a (by decide), gZ_row (d2 9 (by decide)), gZ_row (c2 9 (by decide)), gZ_row (b2 9 (by decide)), gZ_row (a2 9 (by decide)), g2 i i0 i1, gZ_row (r1 _ (by omega))]
  · rw [gZ_pI_a (by decide), gZ_row (d2 5 (by decide)), gZ_row (c2 5 (by decide)), gZ_row (b2 5 (by decide))]; exact a3 i i0 i1
  · rw [gZ_pI_a (by decide), gZ_row (d2 6 (by decide)), gZ_row (c2 6 (by decide))]; exact b3 i i0 i1
  · rw [gZ_pI_a (by decide), gZ_row (d2 7 (by decide))]; exact c3 i i0 i1
  · rw [gZ_pI_a (by decide)]; exact d3 i i0 i1
theorem x_forgI (N : Nat) (hNB : NB N) (μ : Mm) : fX8_forgetImages N μ = some (pI (pI μ 312 2 0) 322 2 0) := by
  have hN2 : 300 ≤ N := hNB
  have key : ∀ m : Nat, fX8_forgetImages_l2 N (m + 3) 0 μ = some (pI (pI μ 312 2 0) 322 2 0) := by
    intro m
    rw [fX8_forgetImages_l2, if_neg (by decide), ckI_ok (by decide) (by decide) (by decide), ob_s, gd_p (by decide +kernel), ob_s, show (0 + 1 : Int) = 1 from rfl, fX8_forgetImages_l2, if_neg (by decide), ckI_ok (by decide) (by decide) (by decide), ob_s, gd_p (by decide +kernel), ob_s, show (1 + 1 : Int) = 2 from rfl, fX8_forgetImages_l2, if_pos (by decide)]
    rfl
  have := key (N - 3)
  rw [show N - 3 + 3 = N by omega] at this
  exact this
theorem tk1 (N : Nat) {v : Int} {μ : Mm} : ∀ (n : Nat) (i : Int) (ν : Mm), 0 ≤ i → i ≤ 243 → 243 - i < n → (∀ r, r ≠ 333 → ν r = μ r) → (∀ k, 0 ≤ k → gZ ν 333 k = if k < i then 0 else gZ μ 333 k) → ∃ ν1, fX9_take_l35 N v n i ν = fX9_take_k55 N v ν1 ∧ (∀ r, r ≠ 333 → ν1 r = μ r) ∧ (∀ k, 0 ≤ k → gZ ν1 333 k = if k < 243 then 0 else gZ μ 333 k) := by
  intro n
  induction n with
  | zero => intro i ν h0 h1 h2; omega
  | succ n ih =>
    intro i ν h0 h1 h2 hr hv
    rw [fX9_take_l35, wr_id (a := i) (by omega) (by omega)]
    by_cases q : 243 ≤ i
    · rw [if_pos q]; exact ⟨ν, rfl, hr, by rw [show (243 : Int) = i by omega]; exact hv⟩
    · rw [if_neg q, stA_ok h0 (by omega) (by omega), ob_s]
      refine ih (i + 1) _ (by omega) (by omega) (by omega) (fun r h => by rw [row_pZ h]; exact hr r h) (fun k hk => ?_)
      rw [gZ_pZ h0 hk]
      by_cases z : k = i
      · rw [if_pos z, if_pos (by omega)]; rfl
      · rw [if_neg z, hv k hk]
        by_cases y : k < i
        · rw [if_pos y, if_pos (by omega)]
        · rw [if_neg y, if_neg (by omega)]
theorem tk2 (N : Nat) {μ : Mm} : ∀ (n : Nat) (i : Int) (ν : Mm), 0 ≤ i → i ≤ 32 → 32 - i < n → (∀ r, r ≠ 335 → ν r = μ r) → (∀ k, 0 ≤ k → gZ ν 335 k = if k < i then gZ μ 335 (32 + k) else gZ μ 335 k) → ∃ ν1, fX9_take_l66 N n i ν = fX9_take_k93 N ν1 ∧ (∀ r, r ≠ 335 → ν1 r = μ r) ∧ (∀ k, 0 ≤ k → gZ ν1 335 k = if k < 32 then gZ μ 335 (32 + k) else gZ μ 335 k) := by
  intro n
  induction n with
  | zero => intro i ν h0 h1 h2; omega
  | succ n ih =>
    intro i ν h0 h1 h2 hr hv
    rw [fX9_take_l66, wr_id (a := i) (by omega) (by omega)]
    by_cases q : 32 ≤ i
    · rw [if_pos q]
      refine ⟨ν, rfl, hr, fun k hk => ?_⟩
      rw [hv k hk, show i = 32 by omega]
    · rw [if_neg q, ldA_ok (by omega) (by omega) (by omega), ob_s, stA_ok h0 (by omega) (by omega), ob_s]
      refine ih (i + 1) _ (by omega) (by omega) (by omega) (fun r h => by rw [row_pZ h]; exact hr r h) (fun k hk => ?_)
      rw [gZ_pZ h0 hk]
      by_cases z : k = i
      · rw [if_pos z, wr_gZ, hv _ (by omega), if_neg (by omega), if_pos (by omega), z]
      · rw [if_neg z, hv k hk]
        by_cases y : k < i
        · rw [if_pos y, if_pos (by omega)]
        · rw [if_neg y, if_neg (by omega)]
theorem tk3 (N : Nat) {μ : Mm} {C : Int} (hC : 0 ≤ C ∧ C ≤ 8) (eC : gI μ 332 6 = C) : ∀ (n : Nat) (i : Int) (ν : Mm), 0 ≤ i → i ≤ 8 → 8 - i < n → (∀ r, r ≠ 333 → r ≠ 336 → ν r = μ r) → (∀ k, 8 ≤ k → gZ ν 336 k = gZ μ 336 k) → (∀ k, 0 ≤ k → gZ ν 333 k = if 16 ≤ k ∧ k < 16 + i then -1 else if 24 ≤ k ∧ k < 24 + i then -1 else if 32 ≤ k ∧ k < 32 + i then (if k - 32 < C then gZ μ 336 (8 + (k - 32)) else 0) else gZ μ 333 k) → ∃ ν1, fX9_take_l95 N n i ν = fX9_take_k169 N ν1 ∧ (∀ r, r ≠ 333 → r ≠ 336 → ν1 r = μ r) ∧ (∀ k, 0 ≤ k → gZ ν1 333 k = if 16 ≤ k ∧ k < 24 then -1 else if 24 ≤ k ∧ k < 32 then -1 else if 32 ≤ k ∧ k < 40 then (if k - 32 < C then gZ μ 336 (8 + (k - 32)) else 0) else gZ μ 333 k) := by
  intro n
  induction n with
  | zero => intro i ν h0 h1 h2; omega
  | succ n ih =>
    intro i ν h0 h1 h2 hr h6 hv
    rw [fX9_take_l95, wr_id (a := i) (by omega) (by omega)]
    by_cases q : 8 ≤ i
    · rw [if_pos q]
      refine ⟨ν, rfl, hr, fun k hk => ?_⟩
      rw [hv k hk, show i = 8 by omega]
      rfl
    · rw [if_neg q, ldA_ok (by omega) (by omega) (by omega), ob_s, h6 _ (by omega), stA_ok h0 (by omega) (by omega), ob_s, stA_ok (by omega) (by omega) (by omega), ob_s, stA_ok (by omega) (by omega) (by omega), ob_s, gI_pZ_a (by decide), gI_pZ_a (by decide), gI_pZ_a (by decide), gI_row (hr 332 (by decide) (by decide)), eC, wr_id (a := C) (by omega) (by omega)]
      have go : ∀ s : Int, s = (if i < C then gZ μ 336 (8 + i) else 0) → ∃ ν1, fX9_take_j162 N i (fX9_take_l95 N n) (pZ (pZ (pZ ν 336 i (gZ μ 336 (8 + i))) 333 (16 + i) (-1)) 333 (24 + i) (-1)) s = fX9_take_k169 N ν1 ∧ (∀ r, r ≠ 333 → r ≠ 336 → ν1 r = μ r) ∧ (∀ k, 0 ≤ k → gZ ν1 333 k = if 16 ≤ k ∧ k < 24 then -1 else if 24 ≤ k ∧ k < 32 then -1 else if 32 ≤ k ∧ k < 40 then (if k - 32 < C then gZ μ 336 (8 + (k - 32)) else 0) else gZ μ 333 k) := by
        intro s hs
        have hwr : wr s = s := by
          rw [hs]
          by_cases y : i < C
          · rw [if_pos y, wr_gZ]
          · rw [if_neg y]; rfl
        unfold fX9_take_j162
        rw [stA_ok (by omega) (by omega) (by omega), ob_s]
        refine ih (i + 1) _ (by omega) (by omega) (by omega) (fun r a b => by rw [row_pZ a, row_pZ a, row_pZ a, row_pZ b]; exact hr r a b) (fun k hk => by rw [gZ_pZ_a (by decide), gZ_pZ_a (by decide), gZ_pZ_a (by decide), gZ_pZ_n h0 (by omega) (by omega)]; exact h6 k hk) (fun k hk => ?_)
        rw [gZ_pZ (by omega) hk, gZ_pZ (by omega) hk, gZ_pZ (by omega) hk, gZ_pZ_a (by decide), hv k hk, hwr, wr_id (a := -1) (by decide) (by decide)]
        by_cases z1 : k = 32 + i
        · rw [if_pos z1, if_neg (by omega), if_neg (by omega), if_pos (by omega), hs, z1, show 32 + i - 32 = i by omega]
        · rw [if_neg z1]
          by_cases z2 : k = 24 + i
          · rw [if_pos z2, if_neg (by omega), if_pos (by omega)]
          · rw [if_neg z2]
            by_cases z3 : k = 16 + i
            · rw [if_pos z3, if_pos (by omega)]
            · rw [if_neg z3]
              by_cases y1 : 16 ≤ k ∧ k < 16 + i
              · rw [if_pos y1, if_pos (show 16 ≤ k ∧ k < 16 + (i + 1) by omega)]
              · rw [if_neg y1, if_neg (show ¬ (16 ≤ k ∧ k < 16 + (i + 1)) by omega)]
                by_cases y2 : 24 ≤ k ∧ k < 24 + i
                · rw [if_pos y2, if_pos (show 24 ≤ k ∧ k < 24 + (i + 1) by omega)]
                · rw [if_neg y2, if_neg (show ¬ (24 ≤ k ∧ k < 24 + (i + 1)) by omega)]
                  by_cases y3 : 32 ≤ k ∧ k < 32 + i
                  · rw [if_pos y3, if_pos (show 32 ≤ k ∧ k < 32 + (i + 1) by omega)]
                  · rw [if_neg y3, if_neg (show ¬ (32 ≤ k ∧ k < 32 + (i + 1)) by omega)]
      by_cases y : C ≤ i
      · rw [if_pos y]; exact go 0 (by rw [if_neg (by omega)])
      · rw [if_neg y, ldA_ok h0 (by omega) (by omega), ob_s, gZ_pZ_a (by decide), gZ_pZ_a (by decide), gZ_pZ_s, wr_gZ]
        exact go _ (by rw [if_pos (by omega)])
theorem tk4 (N : Nat) {μ : Mm} {P : Int} (hP : 0 ≤ P ∧ P ≤ 4) (eP : gI μ 332 9 = P) : ∀ (n : Nat) (i : Int) (ν : Mm), 0 ≤ i → i ≤ 4 → 4 - i < n → (∀ r, r ≠ 337 → ν r = μ r) → (∀ k, 0 ≤ k → gZ ν 337 k = if k < i then (if k < P then gZ μ 337 (4 + k) else 0) else gZ μ 337 k) → ∃ ν1, fX9_take_l171 N n i ν = fX9_take_k208 N ν1 ∧ (∀ r, r ≠ 337 → ν1 r = μ r) ∧ (∀ k, 0 ≤ k → gZ ν1 337 k = if k < 4 then (if k < P then gZ μ 337 (4 + k) else 0) else gZ μ 337 k) := by
  intro n
  induction n with
  | zero => intro i ν h0 h1 h2; omega
  | succ n ih =>
    intro i ν h0 h1 h2 hr hv
    rw [fX9_take_l171, wr_id (a := i) (by omega) (by omega)]
    by_cases q : 4 ≤ i
    · rw [if_pos q]
      refine ⟨ν, rfl, hr, fun k hk => ?_⟩
      rw [hv k hk, show i = 4 by omega]
    · rw [if_neg q, gI_row (hr 332 (by decide)), eP, wr_id (a := P) (by omega) (by omega)]
      have go : ∀ s : Int, s = (if i < P then gZ μ 337 (4 + i) else 0) → ∃ ν1, fX9_take_j201 N i ν (fX9_take_l171 N n) s = fX9_take_k208 N ν1 ∧ (∀ r, r ≠ 337 → ν1 r = μ r) ∧ (∀ k, 0 ≤ k → gZ ν1 337 k = if k < 4 then (if k < P then gZ μ 337 (4 + k) else 0) else gZ μ 337 k) := by
        intro s hs
        have hwr : wr s = s := by
          rw [hs]
          by_cases y : i < P
          · rw [if_pos y, wr_gZ]
          · rw [if_neg y]; rfl
        unfold fX9_take_j201
        rw [stA_ok h0 (by omega) (by omega), ob_s]
        refine ih (i + 1) _ (by omega) (by omega) (by omega) (fun r a => by rw [row_pZ a]; exact hr r a) (fun k hk => ?_)
        rw [gZ_pZ h0 hk, hv k hk, hwr]
        by_cases z : k = i
        · rw [if_pos z, if_pos (by omega), hs, z]
        · rw [if_neg z]
          by_cases y : k < i
          · rw [if_pos y, if_pos (show k < i + 1 by omega)]
          · rw [if_neg y, if_neg (show ¬ k < i + 1 by omega)]
      by_cases y : P ≤ i
      · rw [if_pos y]; exact go 0 (by rw [if_neg (by omega)])
      · rw [if_neg y, ldA_ok (by omega) (by omega) (by omega), ob_s, hv _ (by omega), if_neg (by omega)]
        exact go _ (by rw [if_pos (by omega)])
theorem tk5 (N : Nat) {μ : Mm} {K : Int} (hK : 0 ≤ K ∧ K ≤ 8) (eK : gI μ 332 2 = K) : ∀ (n : Nat) (i : Int) (ν : Mm), 0 ≤ i → i ≤ 8 → 8 - i < n → (∀ r, r ≠ 333 → ν r = μ r) → (∀ k, 0 ≤ k → gZ ν 333 k = if 40 ≤ k ∧ k < 40 + i then (if k - 40 < K then gZ μ 338 (k - 40) else 0) else gZ μ 333 k) → ∃ ν1, fX9_take_l210 N n i ν = fX9_take_k249 N ν1 ∧ (∀ r, r ≠ 333 → ν1 r = μ r) ∧ (∀ k, 0 ≤ k → gZ ν1 333 k = if 40 ≤ k ∧ k < 48 then (if k - 40 < K then gZ μ 338 (k - 40) else 0) else gZ μ 333 k) := by
  intro n
  induction n with
  | zero => intro i ν h0 h1 h2; omega
  | succ n ih =>
    intro i ν h0 h1 h2 hr hv
    rw [fX9_take_l210, wr_id (a := i) (by omega) (by omega)]
    by_cases q : 8 ≤ i
    · rw [if_pos q]
      refine ⟨ν, rfl, hr, fun k hk => ?_⟩
      rw [hv k hk, show i = 8 by omega]
      rfl
    · rw [if_neg q, gI_row (hr 332 (by decide)), eK, wr_id (a := K) (by omega) (by omega)]
      have go : ∀ s : Int, s = (if i < K then gZ μ 338 i else 0) → ∃ ν1, fX9_take_j242 N i ν (fX9_take_l210 N n) s = fX9_take_k249 N ν1 ∧ (∀ r, r ≠ 333 → ν1 r = μ r) ∧ (∀ k, 0 ≤ k → gZ ν1 333 k = if 40 ≤ k ∧ k < 48 then (if k - 40 < K then gZ μ 338 (k - 40) else 0) else gZ μ 333 k) := by
        intro s hs
        have hwr : wr s = s := by
          rw [hs]
          by_cases y : i < K
          · rw [if_pos y, wr_gZ]
          · rw [if_neg y]; rfl
        unfold fX9_take_j242
        rw [stA_ok (by omega) (by omega) (by omega), ob_s]
        refine ih (i + 1) _ (by omega) (by omega) (by omega) (fun r a => by rw [row_pZ a]; exact hr r a) (fun k hk => ?_)
        rw [gZ_pZ (by omega) hk, hv k hk, hwr]
        by_cases z : k = 40 + i
        · rw [if_pos z, if_pos (by omega), hs, z, show 40 + i - 40 = i by omega]
        · rw [if_neg z]
          by_cases y : 40 ≤ k ∧ k < 40 + i
          · rw [if_pos y, if_pos (show 40 ≤ k ∧ k < 40 + (i + 1) by omega)]
          · rw [if_neg y, if_neg (show ¬ (40 ≤ k ∧ k < 40 + (i + 1)) by omega)]
      by_cases y : K ≤ i
      · rw [if_pos y]; exact go 0 (by rw [if_neg (by omega)])
      · rw [if_neg y, ldA_ok h0 (by omega) (by omega), ob_s, gZ_row (hr 338 (by decide))]
        exact go _ (by rw [if_pos (by omega)])
theorem m_taken (N : Nat) (hNB : NB N) {μ : Mm} {K C P : Int} (eK : gI μ 332 3 = K) (eC : gI μ 332 7 = C) (eP : gI μ 332 10 = P) (hK : 0 ≤ K ∧ K ≤ 8) (hC : 0 ≤ C ∧ C ≤ 8) (hP : 0 ≤ P ∧ P ≤ 4) : ∃ ν, fX9_take N μ = some ν ∧ (∀ r, (r < 332 ∨ 337 < r) → ν r = μ r) ∧ (gI ν 332 2 = K ∧ gI ν 332 6 = C ∧ gI ν 332 9 = P ∧ gI ν 332 23 = 0 ∧ gI ν 332 26 = 0 ∧ gI ν 332 18 = 0) ∧ (∀ k, k ≠ 2 → k ≠ 6 → k ≠ 9 → k ≠ 23 → k ≠ 26 → k ≠ 18 → gI ν 332 k = gI μ 332 k) ∧ (∀ k, 242 ≤ k → gZ ν 333 k = gZ μ 333 k) ∧ (∀ k, 0 ≤ k → k < 242 → gZ ν 333 k = if 40 ≤ k ∧ k < 48 then (if k - 40 < K then gZ μ 338 (k - 40) else 0) else if 16 ≤ k ∧ k < 24 then -1 else if 24 ≤ k ∧ k < 32 then -1 else if 32 ≤ k ∧ k < 40 then (if k - 32 < C then gZ μ 336 (8 + (k - 32)) else 0) else 0) ∧ (∀ j, 0 ≤ j → j < 32 → gZ ν 335 j = gZ μ 335 (32 + j)) ∧ (∀ k, 0 ≤ k → k < P → gZ ν 337 k = gZ μ 337 (4 + k)) ∧ gZ ν 334 0 = 0 ∧ gZ ν 334 1 = 0 := by
  have hN2 : 300 ≤ N := hNB
  unfold fX9_take
  rw [eK, ob_s, gI_pI_k (by decide), eC, ob_s, gI_pI_k (by decide), gI_pI_k (by decide), eP, ob_s, ldA_ok (by decide) (by decide) (by decide), ob_s]
  have f2 : gI (pI (pI (pI μ 332 2 K) 332 6 C) 332 9 P) 332 2 = K := by rw [gI_pI_k (by decide), gI_pI_k (by decide), gI_pI_s, wr_id (by omega) (by omega)]
  have f6 : gI (pI (pI (pI μ 332 2 K) 332 6 C) 332 9 P) 332 6 = C := by rw [gI_pI_k (by decide), gI_pI_s, wr_id (by omega) (by omega)]
  have f9 : gI (pI (pI (pI μ 332 2 K) 332 6 C) 332 9 P) 332 9 = P := by rw [gI_pI_s, wr_id (by omega) (by omega)]
  have fk : ∀ k, k ≠ 2 → k ≠ 6 → k ≠ 9 → gI (pI (pI (pI μ 332 2 K) 332 6 C) 332 9 P) 332 k = gI μ 332 k := fun k a b c => by rw [gI_pI_k c, gI_pI_k b, gI_pI_k a]
  have fr : ∀ r, r ≠ 332 → (pI (pI (pI μ 332 2 K) 332 6 C) 332 9 P) r = μ r := fun r h => by rw [row_pI h, row_pI h, row_pI h]
  generalize pI (pI (pI μ 332 2 K) 332 6 C) 332 9 P = μ0 at *
  have hsd : gZ μ0 333 242 = gZ μ 333 242 := gZ_row (fr 333 (by decide)) _
  rw [hsd]
  obtain ⟨μ1, a1, a2, a3⟩ := tk1 N (v := gZ μ 333 242) (μ := μ0) N 0 μ0 (by decide) (by decide) (by omega) (fun _ _ => rfl) (fun k hk => by rw [if_neg (by omega)])
  rw [a1]
  unfold fX9_take_k55
  rw [stA_ok (by decide) (by decide) (by decide), ob_s]
  obtain ⟨μ2, b1, b2, b3⟩ := tk2 N (μ := pZ μ1 333 242 (gZ μ 333 242)) N 0 _ (by decide) (by decide) (by omega) (fun _ _ => rfl) (fun k hk => by rw [if_neg (by omega)])
  rw [b1]
  unfold fX9_take_k93
  have e26 : gI μ2 332 6 = C := by rw [gI_row (b2 332 (by decide)), gI_pZ_a (by decide), gI_row (a2 332 (by decide)), f6]
  obtain ⟨μ3, c1, c2, c3⟩ := tk3 N (μ := μ2) hC e26 N 0 μ2 (by decide) (by decide) (by omega) (fun _ _ _ => rfl) (fun _ _ => rfl) (fun k hk => by rw [if_neg (by omega), if_neg (by omega), if_neg (by omega)])
  rw [c1]
  unfold fX9_take_k169
  have e39 : gI μ3 332 9 = P := by rw [gI_row (c2 332 (by decide) (by decide)), gI_row (b2 332 (by decide)), gI_pZ_a (by decide), gI_row (a2 332 (by decide)), f9]
  obtain ⟨μ4, d1, d2, d3⟩ := tk4 N (μ := μ3) hP e39 N 0 μ3 (by decide) (by decide) (by omega) (fun _ _ => rfl) (fun k hk => by rw [if_neg (by omega)])
  rw [d1]
  unfold fX9_take_k208
  have e42 : gI μ4 332 2 = K := by rw [gI_row (d2 332 (by decide)), gI_row (c2 332 (by decide) (by decide)), gI_row (b2 332 (by decide)), gI_pZ_a (by decide), gI_row (a2 332 (by decide)), f2]
  obtain ⟨μ5, g1, g2, g3⟩ := tk5 N (μ := μ4) hK e42 N 0 μ4 (by decide) (by decide) (by omega) (fun _ _ => rfl) (fun k hk => by rw [if_neg (by omega)])
  rw [g1]
  unfold fX9_take_k249
  rw [ob_s, ob_s, ob_s, stA_ok (by decide) (by decide) (by decide), ob_s, stA_ok (by decide) (by decide) (by decide), ob_s]
  -- rows and fields on the way
  have r5 : ∀ r, r ≠ 332 → r ≠ 333 → r ≠ 335 → r ≠ 336 → r ≠ 337 → μ5 r = μ r := fun r h2 h3 h5 h6 h7 => by rw [g2 r h3, d2 r h7, c2 r h3 h6, b2 r h5, row_pZ h3, a2 r h3, fr r h2]
  have i5 : ∀ k, gI μ5 332 k = gI μ0 332 k := fun k => by rw [gI_row (g2 332 (by decide)), gI_row (d2 332 (by decide)), gI_row (c2 332 (by decide) (by decide)), gI_row (b2 332 (by decide)), gI_pZ_a (by decide), gI_row (a2 332 (by decide))]
  have v1 : ∀ k, 0 ≤ k → gZ μ2 333 k = if k = 242 then gZ μ 333 242 else if k < 243 then 0 else gZ μ 333 k := fun k hk => by rw [gZ_row (b2 333 (by decide)), gZ_pZ (by decide) hk, wr_gZ, a3 k hk, gZ_row (fr 333 (by decide))]
  have w336 : ∀ i, gZ μ2 336 i = gZ μ 336 i := fun i => by rw [gZ_row (b2 336 (by decide)), gZ_pZ_a (by decide), gZ_row (a2 336 (by decide)), gZ_row (fr 336 (by decide))]
  have w338 : ∀ i, gZ μ4 338 i = gZ μ 338 i := fun i => by rw [gZ_row (d2 338 (by decide)), gZ_row (c2 338 (by decide) (by decide)), gZ_row (b2 338 (by decide)), gZ_pZ_a (by decide), gZ_row (a2 338 (by decide)), gZ_row (fr 338 (by decide))]
  have w337 : ∀ i, gZ μ3 337 i = gZ μ 337 i := fun i => by rw [gZ_row (c2 337 (by decide) (by decide)), gZ_row (b2 337 (by decide)), gZ_pZ_a (by decide), gZ_row (a2 337 (by decide)), gZ_row (fr 337 (by decide))]
  refine ⟨_, rfl, fun r hr => ?_, ⟨?_, ?_, ?_, ?_, ?_, ?_⟩, fun k h1 h2 h3 h4 h5 h6 => ?_, fun k hk => ?_, fun k k0 k1 => ?_, fun j j0 j1 => ?_, fun k k0 k1 => ?_, ?_, ?_⟩
  · rw [row_pZ (by omega), row_pZ (by omega), row_pI (by omega), row_pI (by omega), row_pI (by omega), r5 r (by omega) (by omega) (by omega) (by omega) (by omega)]
  · rw [gI_pZ_a (by decide), gI_pZ_a (by decide), gI_pI_k (by decide), gI_pI_k (by decide), gI_pI_k (by decide), i5, f2]
  · rw [gI_pZ_a (by decide), gI_pZ_a (by decide), gI_pI_k (by decide), gI_pI_k (by decide), gI_pI_k (by decide), i5, f6]
  · rw [gI_pZ_a (by decide), gI_pZ_a (by decide), gI_pI_k (by decide), gI_pI_k (by decide), gI_pI_k (by decide), i5, f9]
  · rw [gI_pZ_a (by decide), gI_pZ_a (by decide), gI_pI_k (by decide), gI_pI_k (by decide), gI_pI_s]; decide
  · rw [gI_pZ_a (by decide), gI_pZ_a (by decide), gI_pI_k (by decide), gI_pI_s]; decide
  · rw [gI_pZ_a (by decide), gI_pZ_a (by decide), gI_pI_s]; decide
  · rw [gI_pZ_a (by decide), gI_pZ_a (by decide), gI_pI_k h6, gI_pI_k h5, gI_pI_k h4, i5, fk k h1 h2 h3]
  · rw [gZ_pZ_a (by decide), gZ_pZ_a (by decide), gZ_pI_a (by decide), gZ_pI_a (by decide), gZ_pI_a (by decide), g3 k (by omega), if_neg (by omega), gZ_row (d2 333 (by decide)), c3 k (by omega), if_neg (by omega), if_neg (by omega), if_neg (by omega), v1 k (by omega)]
    by_cases z : k = 242
    · rw [if_pos z, z]
    · rw [if_neg z, if_neg (by omega)]
  · rw [gZ_pZ_a (by decide), gZ_pZ_a (by decide), gZ_pI_a (by decide), gZ_pI_a (by decide), gZ_pI_a (by decide), g3 k k0, w338, gZ_row (d2 333 (by decide)), c3 k k0, w336, v1 k k0, if_neg (show ¬ k = 242 by omega), if_pos (show k < 243 by omega)]
  · rw [gZ_pZ_a (by decide), gZ_pZ_a (by decide), gZ_pI_a (by decide), gZ_pI_a (by decide), gZ_pI_a (by decide), gZ_row (g2 335 (by decide)), gZ_row (d2 335 (by decide)), gZ_row (c2 335 (by decide) (by decide)), b3 j j0, if_pos j1, gZ_pZ_a (by decide), gZ_row (a2 335 (by decide)), gZ_row (fr 335 (by decide))]
  · rw [gZ_pZ_a (by decide), gZ_pZ_a (by decide), gZ_pI_a (by decide), gZ_pI_a (by decide), gZ_pI_a (by decide), gZ_row (g2 337 (by decide)), d3 k k0, if_pos (by omega), if_pos k1, w337]
  · rw [gZ_pZ_n (by decide) (by decide) (by decide), gZ_pZ_s]; decide
  · rw [gZ_pZ_s]; decide
