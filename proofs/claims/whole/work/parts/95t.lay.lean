/-! the row of a pick; pickIn as a whole; lacks, isTight -/
theorem lay_a (N : Nat) {μ : Mm} {o : Int} (ho : 0 ≤ o ∧ o + 243 ≤ 8262) : ∀ (n : Nat) (x : Int) (ν : Mm), 8 ≤ x → x ≤ 192 → 192 - x < n → (∀ r, r ≠ 333 → ν r = μ r) → (∀ k, 0 ≤ k → gZ ν 333 k = if o + 50 ≤ k ∧ k < o + 50 + (x - 8) then gZ μ 333 (k + 8) else gZ μ 333 k) → ∃ ν1, fX9_lay_l17 N o n x ν = fX9_lay_k55 N o ν1 ∧ (∀ r, r ≠ 333 → ν1 r = μ r) ∧ (∀ k, 0 ≤ k → gZ ν1 333 k = if o + 50 ≤ k ∧ k < o + 234 then gZ μ 333 (k + 8) else gZ μ 333 k) := by
  intro n
  induction n with
  | zero => intro x ν h0 h1 h2; omega
  | succ n ih =>
    intro x ν h0 h1 h2 hr hv
    rw [fX9_lay_l17, wr_id (a := x) (by omega) (by omega)]
    by_cases q : 192 ≤ x
    · rw [if_pos q]
      refine ⟨ν, rfl, hr, fun k hk => ?_⟩
      rw [hv k hk, show o + 50 + (x - 8) = o + 234 by omega]
    · rw [if_neg q, ldA_ok (by omega) (by omega) (by omega), ob_s, stA_ok (by omega) (by omega) (by omega), ob_s]
      refine ih (x + 1) _ (by omega) (by omega) (by omega) (fun r h => by rw [row_pZ h]; exact hr r h) (fun k hk => ?_)
      rw [gZ_pZ (by omega) hk]
      by_cases q2 : k = o + 50 + x - 8
      · rw [if_pos q2, wr_gZ, hv _ (by omega), if_neg (by omega), if_pos (by omega)]
        congr 1
        omega
      · rw [if_neg q2, hv k hk]
        by_cases q3 : o + 50 ≤ k ∧ k < o + 50 + (x - 8)
        · rw [if_pos q3, if_pos (by omega)]
        · rw [if_neg q3, if_neg (by omega)]
theorem lay_b (N : Nat) {μ : Mm} {o B : Int} (ho : 0 ≤ o ∧ o + 243 ≤ 8262) (hB : gZ μ 333 (o + 49) = B) (b0 : 0 ≤ B) (b1 : B ≤ 23) : ∀ (n : Nat) (x : Int) (ν : Mm), 0 ≤ x → x ≤ 8 → 8 - x < n → (∀ r, r ≠ 333 → ν r = μ r) → (∀ k, 0 ≤ k → gZ ν 333 k = if o + 50 + 8 * B ≤ k ∧ k < o + 50 + 8 * B + x then gZ μ 333 (o + 16 + (k - (o + 50 + 8 * B))) else gZ μ 333 k) → ∃ ν1, fX9_lay_l70 N o n x ν = fX9_lay_k117 N o ν1 ∧ (∀ r, r ≠ 333 → ν1 r = μ r) ∧ (∀ k, 0 ≤ k → gZ ν1 333 k = if o + 50 + 8 * B ≤ k ∧ k < o + 50 + 8 * B + 8 then gZ μ 333 (o + 16 + (k - (o + 50 + 8 * B))) else gZ μ 333 k) := by
  intro n
  induction n with
  | zero => intro x ν h0 h1 h2; omega
  | succ n ih =>
    intro x ν h0 h1 h2 hr hv
    rw [fX9_lay_l70, wr_id (a := x) (by omega) (by omega)]
    by_cases q : 8 ≤ x
    · rw [if_pos q]
      refine ⟨ν, rfl, hr, fun k hk => ?_⟩
      rw [hv k hk, show x = 8 by omega]
    · have e49 : gZ ν 333 (o + 49) = B := by rw [hv _ (by omega), if_neg (by omega)]; exact hB
      rw [if_neg q, ldA_ok (by omega) (by omega) (by omega), ob_s, ldA_ok (by omega) (by omega) (by omega), ob_s, e49, stA_ok (by omega) (by omega) (by omega), ob_s]
      refine ih (x + 1) _ (by omega) (by omega) (by omega) (fun r h => by rw [row_pZ h]; exact hr r h) (fun k hk => ?_)
      rw [gZ_pZ (by omega) hk]
      by_cases q2 : k = o + 50 + 8 * B + x
      · rw [if_pos q2, wr_gZ, hv _ (by omega), if_neg (by omega), if_pos (by omega)]
        congr 1
        omega
      · rw [if_neg q2, hv k hk]
        by_cases q3 : o + 50 + 8 * B ≤ k ∧ k < o + 50 + 8 * B + x
        · rw [if_pos q3, if_pos (by omega)]
        · rw [if_neg q3, if_neg (by omega)]
theorem lay_c (N : Nat) (hNB : NB N) {μ : Mm} {o B : Int} (ho : 0 ≤ o ∧ o + 243 ≤ 8262) (hB : gZ μ 333 (o + 49) = B) (b0 : 0 ≤ B) (b1 : B ≤ 23) (hp : 0 ≤ gZ μ 333 (o + 48) ∧ gZ μ 333 (o + 48) ≤ 30000) : ∃ ν, fX9_lay_j68 N o μ = some ν ∧ (∀ r, r ≠ 333 → ν r = μ r) ∧ (∀ k, 0 ≤ k → gZ ν 333 k = if k = o + 48 then gZ μ 333 (o + 48) + 1 else if k = o + 49 then B + 1 else if o + 50 + 8 * B ≤ k ∧ k < o + 50 + 8 * B + 8 then gZ μ 333 (o + 16 + (k - (o + 50 + 8 * B))) else gZ μ 333 k) := by
  have hN2 : 300 ≤ N := hNB
  obtain ⟨ν1, r1, r2, r3⟩ := lay_b N ho hB b0 b1 N 0 μ (by omega) (by omega) (by omega) (fun _ _ => rfl) (fun k hk => by rw [if_neg (by omega)])
  have e49 : gZ ν1 333 (o + 49) = B := by rw [r3 _ (by omega), if_neg (by omega)]; exact hB
  have e48 : gZ ν1 333 (o + 48) = gZ μ 333 (o + 48) := by rw [r3 _ (by omega), if_neg (by omega)]
  unfold fX9_lay_j68
  rw [r1]
  unfold fX9_lay_k117
  rw [ldA_ok (by omega) (by omega) (by omega), ob_s, stA_ok (by omega) (by omega) (by omega), ob_s, ldA_ok (by omega) (by omega) (by omega), ob_s, stA_ok (by omega) (by omega) (by omega), ob_s, gZ_pZ_n (by omega) (by omega) (by omega), e48, e49]
  refine ⟨_, rfl, fun r h => by rw [row_pZ h, row_pZ h, r2 r h], fun k hk => ?_⟩
  rw [gZ_pZ (by omega) hk, gZ_pZ (by omega) hk, wr_id (by omega) (by omega), wr_id (a := B + 1) (by omega) (by omega), r3 k hk]
theorem m_lay (N : Nat) (hNB : NB N) {μ : Mm} {o B : Int} (ho : 0 ≤ o ∧ o + 243 ≤ 8262) (hB : gZ μ 333 (o + 49) = B) (b0 : 0 ≤ B) (b1 : B ≤ 24) (hp : 0 ≤ gZ μ 333 (o + 48) ∧ gZ μ 333 (o + 48) ≤ 30000) : ∃ ν, fX9_lay N o μ = some ν ∧ (∀ r, r ≠ 333 → ν r = μ r) ∧ (∀ k, 0 ≤ k → gZ ν 333 k = if k = o + 48 then gZ μ 333 (o + 48) + 1 else if k = o + 49 then (if B < 24 then B + 1 else 24) else if o + 50 + 8 * (if B < 24 then B else 23) ≤ k ∧ k < o + 50 + 8 * (if B < 24 then B else 23) + 8 then gZ μ 333 (o + 16 + (k - (o + 50 + 8 * (if B < 24 then B else 23)))) else if ¬ B < 24 ∧ o + 50 ≤ k ∧ k < o + 234 then gZ μ 333 (k + 8) else gZ μ 333 k) := by
  have hN2 : 300 ≤ N := hNB
  unfold fX9_lay
  rw [ldA_ok (by omega) (by omega) (by omega), ob_s, hB, wr_id (a := B) (by omega) (by omega)]
  by_cases q : B = 24
  · rw [if_pos q]
    obtain ⟨ν1, r1, r2, r3⟩ := lay_a N (μ := μ) ho N 8 μ (by omega) (by omega) (by omega) (fun _ _ => rfl) (fun k hk => by rw [if_neg (by omega)])
    have e49 : gZ ν1 333 (o + 49) = 24 := by rw [r3 _ (by omega), if_neg (by omega), hB, q]
    rw [r1]
    unfold fX9_lay_k55
    rw [ldA_ok (by omega) (by omega) (by omega), ob_s, stA_ok (by omega) (by omega) (by omega), ob_s, e49]
    have f49 : gZ (pZ ν1 333 (o + 49) (24 - 1)) 333 (o + 49) = 23 := by rw [gZ_pZ_s]; rfl
    have f48 : gZ (pZ ν1 333 (o + 49) (24 - 1)) 333 (o + 48) = gZ μ 333 (o + 48) := by rw [gZ_pZ_n (by omega) (by omega) (by omega), r3 _ (by omega), if_neg (by omega)]
    obtain ⟨ν2, s1, s2, s3⟩ := lay_c N hNB ho f49 (by decide) (by decide) (by rw [f48]; exact hp)
    refine ⟨ν2, s1, fun r h => by rw [s2 r h, row_pZ h, r2 r h], fun k hk => ?_⟩
    have nB : ¬ B < 24 := by omega
    rw [if_neg nB, if_neg nB, s3 k hk, f48]
    by_cases z1 : k = o + 48
    · rw [if_pos z1, if_pos z1]
    rw [if_neg z1, if_neg z1]
    by_cases z2 : k = o + 49
    · rw [if_pos z2, if_pos z2]; rfl
    rw [if_neg z2, if_neg z2]
    by_cases z3 : o + 50 + 8 * 23 ≤ k ∧ k < o + 50 + 8 * 23 + 8
    · rw [if_pos z3, if_pos z3, gZ_pZ_n (by omega) (by omega) (by omega), r3 _ (by omega), if_neg (by omega)]
    · rw [if_neg z3, if_neg z3, gZ_pZ_n (by omega) hk z2, r3 k hk]
      by_cases z4 : o + 50 ≤ k ∧ k < o + 234
      · rw [if_pos z4, if_pos ⟨nB, z4⟩]
      · rw [if_neg z4, if_neg (fun y => z4 y.2)]
  · rw [if_neg q]
    obtain ⟨ν2, s1, s2, s3⟩ := lay_c N hNB ho hB b0 (by omega) hp
    refine ⟨ν2, s1, s2, fun k hk => ?_⟩
    have yB : B < 24 := by omega
    rw [if_pos yB, if_pos yB, s3 k hk, if_neg (show ¬ (¬ B < 24 ∧ o + 50 ≤ k ∧ k < o + 234) from fun y => y.1 yB)]
/-- the values of the state behind a pick -/
theorem PVf_0 (G H v : Int → Int) (C : Int) {d : Int} (d0 : 0 ≤ d) (d1 : d < 8) : PVf G H v C d = qS H v C d ∧ PVf G H v C (8 + d) = qT H v C d ∧ PVf G H v C (16 + d) = qW G H v C d ∧ PVf G H v C (24 + d) = qL H v C d ∧ PVf G H v C (32 + d) = v (32 + d) ∧ PVf G H v C (40 + d) = v (40 + d) - qN G H v d C.toNat := by
  unfold PVf
  simp (disch := omega) only [if_pos, if_neg]
  rw [show 8 + d - 8 = d by omega, show 16 + d - 16 = d by omega, show 24 + d - 24 = d by omega, show 40 + d - 40 = d by omega]
  refine ⟨?_, ?_, ?_, ?_, ?_, ?_⟩ <;> first | trivial | rfl
theorem PVf_48 (G H v : Int → Int) (C : Int) : PVf G H v C 48 = v 48 + 1 ∧ PVf G H v C 49 = if v 49 < 24 then v 49 + 1 else 24 := by
  constructor
  · unfold PVf
    rw [if_neg (by decide), if_neg (by decide), if_neg (by decide), if_neg (by decide), if_neg (by decide), if_neg (by decide), if_pos rfl]
  · unfold PVf
    rw [if_neg (by decide), if_neg (by decide), if_neg (by decide), if_neg (by decide), if_neg (by decide), if_neg (by decide), if_neg (by decide), if_pos rfl]
theorem m_pickIn (N : Nat) (hNB : NB N) {μ : Mm} {t : Nat} (ht : t ≤ 306) (hL : LoomR μ t) {o m : Int} (ho : 0 ≤ o ∧ o + 243 ≤ 8262) (m0 : 0 ≤ m) (m1 : m < 2147483648) {v : Int → Int} (hv : Vok (gI μ t 5) (gI μ t 6) v) (hb : BlkR μ o v) : ∃ ν, fX9_pickIn N o m μ = some ν ∧ (∀ r, r ≠ 333 → ν r = μ r) ∧ (∀ k, 0 ≤ k → (k < o ∨ o + 242 ≤ k) → gZ ν 333 k = gZ μ 333 k) ∧ BlkR ν o (PVf (fun j => gZ μ 335 j) (hwQ μ t m) v (gI μ t 6)) := by
  have hN2 : 300 ≤ N := hNB
  obtain ⟨⟨e5, a5, b5⟩, ⟨e6, a6, b6⟩, ⟨e7, a7, b7⟩, -⟩ := id hL
  have hB0 : Blk μ o (fun j => gZ μ 335 j) (hwQ μ t m) v 0 := by
    refine ⟨fun d d0 d1 => ?_, fun k k0 k1 => hb k (by omega) k1⟩
    have l : ¬ d < 0 := by omega
    unfold qS qT qW qL
    rw [if_neg l, if_neg l, if_neg l, if_neg l]
    refine ⟨hb d d0 (by omega), ?_, ?_, ?_, ?_, ?_⟩
    · rw [show o + 8 + d = o + (8 + d) by omega]; exact hb _ (by omega) (by omega)
    · rw [show o + 16 + d = o + (16 + d) by omega]; exact hb _ (by omega) (by omega)
    · rw [show o + 24 + d = o + (24 + d) by omega]; exact hb _ (by omega) (by omega)
    · rw [show o + 32 + d = o + (32 + d) by omega]; exact hb _ (by omega) (by omega)
    · rw [show o + 40 + d = o + (40 + d) by omega, hb _ (by omega) (by omega)]
      show v (40 + d) = v (40 + d) - 0
      omega
  obtain ⟨ν1, r1, r2, r3, r4⟩ := m_pl N hNB ht hL ho m0 m1 hv (gI μ t 6).toNat N 0 μ (by omega) (by omega) (by omega) (fun _ _ => rfl) (fun _ _ _ => rfl) hB0
  obtain ⟨B1, B2⟩ := r4
  have e49 : gZ ν1 333 (o + 49) = v 49 := B2 49 (by decide) (by decide)
  have e48 : gZ ν1 333 (o + 48) = v 48 := B2 48 (by decide) (by decide)
  obtain ⟨ν2, s1, s2, s3⟩ := m_lay N hNB ho e49 hv.2.2.1 hv.2.2.2.1 (by rw [e48]; have := hv.2.2.2.2; omega)
  have h49 := hv.2.2
  refine ⟨ν2, ?_, fun r h => by rw [s2 r h, r2 r h], fun k k0 k1 => ?_, fun k k0 k1 => ?_⟩
  · unfold fX9_pickIn
    rw [r1]
    unfold fX9_pickIn_k54
    rw [s1, ob_s]
  · have hB' : 0 ≤ (if v 49 < 24 then v 49 else 23) ∧ (if v 49 < 24 then v 49 else 23) ≤ 23 := by
      by_cases q : v 49 < 24
      · rw [if_pos q]; omega
      · rw [if_neg q]; omega
    generalize (if v 49 < 24 then v 49 else 23) = B' at *
    rw [s3 k k0, if_neg (by omega), if_neg (by omega), if_neg (by omega), if_neg (by omega)]
    exact r3 k k0 k1
  · have hB' : 0 ≤ (if v 49 < 24 then v 49 else 23) ∧ (if v 49 < 24 then v 49 else 23) ≤ 23 ∧ (¬ v 49 < 24 → (if v 49 < 24 then v 49 else 23) = 23) := by
      by_cases q : v 49 < 24
      · rw [if_pos q]; omega
      · rw [if_neg q]; omega
    have small : ∀ d, 0 ≤ d → d < 48 → gZ ν2 333 (o + d) = gZ ν1 333 (o + d) := by
      intro d d0 d1
      generalize (if v 49 < 24 then v 49 else 23) = B' at *
      rw [s3 _ (by omega), if_neg (by omega), if_neg (by omega), if_neg (by omega), if_neg (by omega)]
    by_cases z48 : k < 48
    · rw [small k k0 z48]
      rcases (show (k < 8 ∨ (8 ≤ k ∧ k < 16)) ∨ ((16 ≤ k ∧ k < 24) ∨ (24 ≤ k ∧ k < 32)) ∨ ((32 ≤ k ∧ k < 40) ∨ (40 ≤ k ∧ k < 48)) by omega) with (h | h) | (h | h) | (h | h)
      · rw [(PVf_0 _ _ v _ k0 h).1, (B1 k k0 h).1]
      · obtain ⟨d, d0, d1, rfl⟩ : ∃ d, 0 ≤ d ∧ d < 8 ∧ k = 8 + d := ⟨k - 8, by omega, by omega, by omega⟩
        rw [(PVf_0 _ _ v _ d0 d1).2.1, ← (B1 d d0 d1).2.1, show o + (8 + d) = o + 8 + d by omega]
      · obtain ⟨d, d0, d1, rfl⟩ : ∃ d, 0 ≤ d ∧ d < 8 ∧ k = 16 + d := ⟨k - 16, by omega, by omega, by omega⟩
        rw [(PVf_0 _ _ v _ d0 d1).2.2.1, ← (B1 d d0 d1).2.2.1, show o + (16 + d) = o + 16 + d by omega]
      · obtain ⟨d, d0, d1, rfl⟩ : ∃ d, 0 ≤ d ∧ d < 8 ∧ k = 24 + d := ⟨k - 24, by omega, by omega, by omega⟩
        rw [(PVf_0 _ _ v _ d0 d1).2.2.2.1, ← (B1 d d0 d1).2.2.2.1, show o + (24 + d) = o + 24 + d by omega]
      · obtain ⟨d, d0, d1, rfl⟩ : ∃ d, 0 ≤ d ∧ d < 8 ∧ k = 32 + d := ⟨k - 32, by omega, by omega, by omega⟩
        rw [(PVf_0 _ _ v _ d0 d1).2.2.2.2.1, ← (B1 d d0 d1).2.2.2.2.1, show o + (32 + d) = o + 32 + d by omega]
      · obtain ⟨d, d0, d1, rfl⟩ : ∃ d, 0 ≤ d ∧ d < 8 ∧ k = 40 + d := ⟨k - 40, by omega, by omega, by omega⟩
        rw [(PVf_0 _ _ v _ d0 d1).2.2.2.2.2, ← (B1 d d0 d1).2.2.2.2.2, show o + (40 + d) = o + 40 + d by omega]
    · rw [s3 _ (by omega), e48]
      unfold PVf
      rw [if_neg (show ¬ k < 8 by omega), if_neg (show ¬ k < 16 by omega), if_neg (show ¬ k < 24 by omega), if_neg (show ¬ k < 32 by omega), if_neg (show ¬ k < 40 by omega), if_neg (show ¬ k < 48 by omega)]
      by_cases y1 : k = 48
      · rw [if_pos y1, if_pos (by omega)]
      rw [if_neg y1, if_neg (show ¬ o + k = o + 48 by omega)]
      by_cases y2 : k = 49
      · rw [if_pos y2, if_pos (by omega)]
      rw [if_neg y2, if_neg (show ¬ o + k = o + 49 by omega)]
      by_cases y3 : 50 + 8 * (if v 49 < 24 then v 49 else 23) ≤ k ∧ k < 58 + 8 * (if v 49 < 24 then v 49 else 23)
      · rw [if_pos y3, if_pos (by omega)]
        have := (B1 (k - 50 - 8 * (if v 49 < 24 then v 49 else 23)) (by omega) (by omega)).2.2.1
        rw [← this]
        congr 1
        omega
      · rw [if_neg y3, if_neg (by omega)]
        by_cases y4 : v 49 < 24
        · rw [if_pos y4, if_neg (fun y => y.1 y4)]
          exact B2 k (by omega) (by omega)
        · have e23 := hB'.2.2 y4
          rw [e23] at y3
          rw [if_neg y4, if_pos ⟨y4, by omega, by omega⟩, show o + k + 8 = o + (k + 8) by omega]
          exact B2 (k + 8) (by omega) (by omega)
theorem lck_l (N : Nat) {ν : Mm} {o K : Int} {u : Int → Int} (ho : 0 ≤ o ∧ o + 243 ≤ 8262) (hK : 0 ≤ K ∧ K ≤ 8) (hb : ∀ k, 0 ≤ k → k < K → gZ ν 333 (o + 40 + k) = u (40 + k)) : ∀ (n : Nat) (i f : Int), -1 ≤ i → i < K → i < n → ((f = -1 ∧ ∀ k, i < k → k < K → 0 ≤ u (40 + k)) ∨ (i < f ∧ f < K ∧ u (40 + f) < 0 ∧ ∀ k, i < k → k < f → 0 ≤ u (40 + k))) → ∃ r, fX9_lacks_l9 N o ν (n + 1) f i = some r ∧ ((r = -1 ∧ ∀ k, 0 ≤ k → k < K → 0 ≤ u (40 + k)) ∨ (0 ≤ r ∧ r < K ∧ u (40 + r) < 0 ∧ ∀ k, 0 ≤ k → k < r → 0 ≤ u (40 + k))) := by
  intro n
  induction n with
  | zero =>
    intro i f i0 i1 i2 h
    rw [fX9_lacks_l9, wr_id (a := i) (by omega) (by omega), if_pos (by omega)]
    refine ⟨f, rfl, h.imp (fun z => ⟨z.1, fun k a b => z.2 k (by omega) b⟩) (fun z => ⟨by omega, z.2.1, z.2.2.1, fun k a b => z.2.2.2 k (by omega) b⟩)⟩
  | succ n ih =>
    intro i f i0 i1 i2 h
    rw [fX9_lacks_l9, wr_id (a := i) (by omega) (by omega)]
    by_cases q : i < 0
    · rw [if_pos q]
      refine ⟨f, rfl, h.imp (fun z => ⟨z.1, fun k a b => z.2 k (by omega) b⟩) (fun z => ⟨by omega, z.2.1, z.2.2.1, fun k a b => z.2.2.2 k (by omega) b⟩)⟩
    · rw [if_neg q, ldA_ok (by omega) (by omega) (by omega), ob_s, wr_gZ, hb i (by omega) i1]
      by_cases z : 0 ≤ u (40 + i)
      · rw [if_pos z]
        refine ih (i + (-1)) f (by omega) (by omega) (by omega) (h.imp (fun y => ⟨y.1, fun k a b => ?_⟩) (fun y => ⟨by omega, y.2.1, y.2.2.1, fun k a b => ?_⟩))
        · by_cases w : k = i
          · rw [w]; exact z
          · exact y.2 k (by omega) b
        · by_cases w : k = i
          · rw [w]; exact z
          · exact y.2.2.2 k (by omega) b
      · rw [if_neg z]
        exact ih (i + (-1)) i (by omega) (by omega) (by omega) (Or.inr ⟨by omega, i1, by omega, fun k a b => by omega⟩)
theorem m_lacks (N : Nat) (hNB : NB N) {ν : Mm} {o K : Int} {u : Int → Int} (ho : 0 ≤ o ∧ o + 243 ≤ 8262) (hK : 0 ≤ K ∧ K ≤ 8) (hKe : gI ν 332 2 = K) (hb : BlkR ν o u) : ∃ r, fX9_lacks N o ν = some r ∧ ((r = -1 ∧ ∀ k, 0 ≤ k → k < K → 0 ≤ u (40 + k)) ∨ (0 ≤ r ∧ r < K ∧ u (40 + r) < 0 ∧ ∀ k, 0 ≤ k → k < r → 0 ≤ u (40 + k))) := by
  have hN2 : 300 ≤ N := hNB
  unfold fX9_lacks
  rw [hKe]
  obtain ⟨f, rfl⟩ : ∃ f, N = f + 1 := ⟨N - 1, by omega⟩
  exact lck_l (f + 1) ho hK (fun k a b => by rw [show o + 40 + k = o + (40 + k) by omega]; exact hb _ (by omega) (by omega)) f (K - 1) (-1) (by omega) (by omega) (by omega) (Or.inl ⟨rfl, fun k a b => by omega⟩)
def TgP (C : Int) (u : Int → Int) : Prop := ∀ d, 0 ≤ d → d < C → -99 ≤ u (8 + d) ∧ u (8 + d) ≤ 99
theorem tgt_l (N : Nat) {ν : Mm} {o C : Int} {u : Int → Int} (ho : 0 ≤ o ∧ o + 243 ≤ 8262) (hC : 0 ≤ C ∧ C ≤ 8) (hCe : gI ν 332 6 = C) (hb : ∀ d, 0 ≤ d → d < C → gZ ν 333 (o + 8 + d) = u (8 + d) ∧ -1000 ≤ u (8 + d) ∧ u (8 + d) ≤ 1000) : ∀ (n : Nat) (c f : Int), 0 ≤ c → c ≤ C → C - c < n → (f = 0 ∨ f = 1) → ∃ r, fX9_isTight_l4 N o ν n f c = some r ∧ (r = 0 ∨ r = 1) ∧ (r = 0 ↔ (f = 0 ∧ ∀ d, c ≤ d → d < C → -99 ≤ u (8 + d) ∧ u (8 + d) ≤ 99)) := by
  intro n
  induction n with
  | zero => intro c f h0 h1 h2; omega
  | succ n ih =>
    intro c f h0 h1 h2 h3
    rw [fX9_isTight_l4, hCe, wr_id (a := C) (by omega) (by omega), wr_id (a := c) (by omega) (by omega)]
    by_cases q : C ≤ c
    · rw [if_pos q, gd_p h3]
      exact ⟨f, rfl, h3, fun z => ⟨z, fun d a b => by omega⟩, fun z => z.1⟩
    · rw [if_neg q]
      rcases h3 with rfl | rfl
      · obtain ⟨g1, g2, g3⟩ := hb c h0 (by omega)
        have es : fX9_size N (u (8 + c)) ν = some (if 0 ≤ u (8 + c) then u (8 + c) else -u (8 + c)) := by
          unfold fX9_size
          rw [wr_id (a := u (8 + c)) (by omega) (by omega)]
          by_cases y : 0 ≤ u (8 + c)
          · rw [if_pos y, if_pos y]
          · rw [if_neg y, if_neg y]
        have ez : (if 0 ≤ u (8 + c) then u (8 + c) else -u (8 + c)) ≤ 99 ↔ (-99 ≤ u (8 + c) ∧ u (8 + c) ≤ 99) := by
          by_cases y : 0 ≤ u (8 + c)
          · rw [if_pos y]; omega
          · rw [if_neg y]; omega
        have eb : -1000 ≤ (if 0 ≤ u (8 + c) then u (8 + c) else -u (8 + c)) ∧ (if 0 ≤ u (8 + c) then u (8 + c) else -u (8 + c)) ≤ 1000 := by
          by_cases y : 0 ≤ u (8 + c)
          · rw [if_pos y]; omega
          · rw [if_neg y]; omega
        rw [if_pos (by decide), ldA_ok (by omega) (by omega) (by omega), ob_s, g1, es, ob_s, wr_id (by omega) (by omega)]
        by_cases z : (if 0 ≤ u (8 + c) then u (8 + c) else -u (8 + c)) ≤ 99
        · rw [if_pos z]
          obtain ⟨r, r1, r2, r3⟩ := ih (c + 1) 0 (by omega) (by omega) (by omega) (Or.inl rfl)
          refine ⟨r, r1, r2, fun y => ⟨rfl, fun d a b => ?_⟩, fun y => r3.2 ⟨rfl, fun d a b => y.2 d (by omega) b⟩⟩
          by_cases w : d = c
          · rw [w]; exact ez.1 z
          · exact (r3.1 y).2 d (by omega) b
        · rw [if_neg z]
          obtain ⟨r, r1, r2, r3⟩ := ih (c + 1) 1 (by omega) (by omega) (by omega) (Or.inr rfl)
          exact ⟨r, r1, r2, fun y => absurd (r3.1 y).1 (by decide), fun y => absurd (ez.2 (y.2 c (by omega) (by omega))) z⟩
      · rw [if_neg (by decide)]
        obtain ⟨r, r1, r2, r3⟩ := ih (c + 1) 1 (by omega) (by omega) (by omega) (Or.inr rfl)
        exact ⟨r, r1, r2, fun y => absurd (r3.1 y).1 (by decide), fun y => absurd y.1 (by decide)⟩
theorem m_tight (N : Nat) (hNB : NB N) {ν : Mm} {o C : Int} {u : Int → Int} (ho : 0 ≤ o ∧ o + 243 ≤ 8262) (hC : 0 ≤ C ∧ C ≤ 8) (hCe : gI ν 332 6 = C) (hb : BlkR ν o u) (hu : ∀ d, 0 ≤ d → d < C → -1000 ≤ u (8 + d) ∧ u (8 + d) ≤ 1000) : ∃ r, fX9_isTight N o ν = some r ∧ (r = 0 ∨ r = 1) ∧ (r = 0 ↔ TgP C u) := by
  have hN2 : 300 ≤ N := hNB
  obtain ⟨r, r1, r2, r3⟩ := tgt_l N ho hC hCe (fun d a b => ⟨by rw [show o + 8 + d = o + (8 + d) by omega]; exact hb _ (by omega) (by omega), hu d a b⟩) N 0 0 (by omega) (by omega) (by omega) (Or.inl rfl)
  exact ⟨r, r1, r2, r3.trans ⟨fun z => z.2, fun z => ⟨rfl, z⟩⟩⟩
