/-! turned, holes, lookAt -/
theorem or8 : ∀ a : Nat, a < 8 → orI a 0 = a ∧ orI a 2 = ((a ||| 2 : Nat) : Int) ∧ a ||| 2 < 8 ∧ orI a 4 = ((a ||| 4 : Nat) : Int) ∧ a ||| 4 < 8 := by decide +kernel
theorem tnd_m0 (N : Nat) {μ : Mm} {c : Int} (c0 : 0 ≤ c) (c1 : c < 8) (x : Int) (a : Nat) (ha : a < 8) (h : Int) (rec : Int → Int → Option Int) : fX9_turned_j105 N c μ x a h rec 0 = rec a (h + 1) := by
  have o := (or8 a ha).1
  have k : ∀ s25 s27, s27 = 0 → fX9_turned_j163 N c μ x a h rec 0 s25 s27 = rec a (h + 1) := by
    intro s25 s27 e
    unfold fX9_turned_j163
    rw [if_pos (by decide), e, o, o]
  unfold fX9_turned_j105 fX9_turned_j130
  by_cases q : wr x = -1
  · rw [if_pos q, if_pos (by decide)]; exact k 1 0 rfl
  · rw [if_neg q, p_colourOf N h μ c0 (by omega), ob_s]
    by_cases q2 : wr x = wr (gZ μ 335 (4 * c + h % 4))
    · rw [if_pos q2, if_pos (by decide)]; exact k 1 0 rfl
    · rw [if_neg q2, if_pos (by decide)]; exact k 0 0 rfl
theorem tnd_l (N : Nat) {μ : Mm} {t : Nat} (hL : LoomR μ t) {c : Int} (c0 : 0 ≤ c) (c1 : c < gI μ t 6) {y x : Int} (hy : wr y = y) (hx : wr x = x) : ∀ (n : Nat) (h : Int) (a : Nat), 0 ≤ h → h ≤ 4 → 4 - h < n → a < 8 → ∃ r, fX0_findTurns_l15 N t c y x μ n a h = some r ∧ fX9_turned_l78 N c μ y x n a h = some r := by
  obtain ⟨-, ⟨e6, a6, b6⟩, -⟩ := id hL
  intro n
  induction n with
  | zero => intro h a h0 h1 h2; omega
  | succ n ih =>
    intro h a h0 h1 h2 ha
    rw [fX0_findTurns_l15, fX9_turned_l78, hy, wr_id (a := h) (by omega) (by omega)]
    by_cases q4 : 4 ≤ h
    · rw [if_pos q4, if_pos q4]
      by_cases q : y = -1
      · rw [if_pos q]; exact ⟨a, rfl, rfl⟩
      · rw [if_neg q]; exact ⟨a, rfl, rfl⟩
    · rw [if_neg q4, if_neg q4]
      by_cases q : y = -1
      · rw [if_pos q, if_pos q, tnd_m0 N c0 (by omega) x a ha]
        obtain ⟨r, r1, r2⟩ := ih (h + 1) a (by omega) (by omega) (by omega) ha
        refine ⟨a, rfl, ?_⟩
        have : fX0_findTurns_l15 N t c y x μ n a (h + 1) = some (a : Int) := by
          obtain ⟨m, rfl⟩ : ∃ m, n = m + 1 := ⟨n - 1, by omega⟩
          rw [fX0_findTurns_l15, hy, if_pos q]
        rw [this] at r1
        rw [r2, ← Option.some.inj r1]
      · rw [if_neg q, if_neg q, (r_col N hL h c0 c1).1, ob_s, p_colourOf N h μ c0 (by omega), ob_s, wr_gZ]
        by_cases q2 : gZ μ 335 (4 * c + h % 4) = y
        · rw [if_pos q2, if_pos q2]
          obtain ⟨o0, o2, l2, o4, l4⟩ := or8 a ha
          obtain ⟨p0, p2, -, p4, -⟩ := or8 (a ||| 2) l2
          have l24 : (a ||| 2) ||| 4 < 8 := (or8 (a ||| 2) l2).2.2.2.2
          -- the last step, both sides: w whether the second bit was set
          have last : ∀ (b : Nat) (e : Int) (s27 : Int), b < 8 → (e = 0 ∨ e = 1) → orI a s27 = b → ∃ r, fX0_findTurns_j78 N t c x μ h (fX0_findTurns_l15 N t c y x μ n) e b = some r ∧ fX9_turned_j163 N c μ x a h (fX9_turned_l78 N c μ y x n) 1 e s27 = some r := by
            intro b e s27 hb he hs
            obtain ⟨u0, u2, -, u4, v4⟩ := or8 b hb
            unfold fX0_findTurns_j78 fX9_turned_j163
            rw [if_neg (show ¬ wr (1 : Int) = 0 by decide), hs]
            rcases he with rfl | rfl
            · rw [if_pos (by decide), if_pos (by decide), (r_col N hL (h + 1) c0 c1).1, p_colourOf N (h + 1) μ c0 (by omega), ob_s, ob_s]
              by_cases z : wr x = wr (gZ μ 335 (4 * c + (h + 1) % 4))
              · rw [if_pos z, if_pos z, u4]
                exact ih (h + 1) (b ||| 4) (by omega) (by omega) (by omega) v4
              · rw [if_neg z, if_neg z, u0]
                exact ih (h + 1) b (by omega) (by omega) (by omega) hb
            · rw [if_neg (by decide), if_neg (by decide), u4]
              exact ih (h + 1) (b ||| 4) (by omega) (by omega) (by omega) v4
          have mid : ∀ e : Int, (e = 0 ∨ e = 1) → ∃ r, fX0_findTurns_j52 N t c x μ a h (fX0_findTurns_l15 N t c y x μ n) e = some r ∧ fX9_turned_j130 N c μ x a h (fX9_turned_l78 N c μ y x n) 1 e = some r := by
            intro e he
            unfold fX0_findTurns_j52 fX9_turned_j130
            rw [if_neg (show ¬ wr (1 : Int) = 0 by decide), o2]
            rcases he with rfl | rfl
            · rw [if_pos (by decide), if_pos (by decide), (r_col N hL (h - 1) c0 c1).1, p_colourOf N (h + 3) μ c0 (by omega), ob_s, ob_s, show (h + 3) % 4 = (h - 1) % 4 by omega]
              by_cases z : wr x = wr (gZ μ 335 (4 * c + (h - 1) % 4))
              · rw [if_pos z, if_pos z]
                exact last (a ||| 2) 0 2 l2 (Or.inl rfl) o2
              · rw [if_neg z, if_neg z]
                exact last a 0 0 ha (Or.inl rfl) o0
            · rw [if_neg (by decide), if_neg (by decide)]
              exact last (a ||| 2) 1 2 l2 (Or.inr rfl) o2
          unfold fX9_turned_j105
          rw [hx, p_colourOf N h μ c0 (by omega), ob_s, wr_gZ, q2]
          by_cases z : x = -1
          · rw [if_pos z, if_pos z]; exact mid 1 (Or.inr rfl)
          · rw [if_neg z, if_neg z]
            by_cases z2 : x = y
            · rw [if_pos z2, if_pos z2]; exact mid 1 (Or.inr rfl)
            · rw [if_neg z2, if_neg z2]; exact mid 0 (Or.inl rfl)
        · rw [if_neg q2, if_neg q2, tnd_m0 N c0 (by omega) x a ha]
          exact ih (h + 1) a (by omega) (by omega) (by omega) ha
theorem okp_turned (N : Nat) (hNB : NB N) : ok_turned N Inv := by
  intro μ c i hc hi hI
  obtain ⟨t, u, hT, hL, hW, hU, hG, hN, hX, hS⟩ := id hI
  obtain ⟨⟨e5, a5, b5⟩, ⟨e6, a6, b6⟩, -⟩ := id hL
  obtain ⟨hr, hb0, hb1⟩ := r_rows N hW
  have hN2 : 300 ≤ N := hNB
  have w1 : ¬ wr (1 : Int) = 0 := by decide
  have w0 : wr (0 : Int) = 0 := by decide
  unfold fX8_turned fX9_turned
  rw [hT.t, gd_p hT.kt, p_hasCard N t c μ hc, p_isCard N c μ (by omega) hc, e6, wr_id hi.1 hi.2, p_in N i 0 22 μ (by omega) (by omega) (by omega), ob_s, ob_s, ob_s, hr, ob_s, ldA_ok (by decide) (by decide) (by decide), ob_s, wr_gZ]
  by_cases q : 0 ≤ c ∧ c < gI μ t 6
  · simp only [if_pos q, if_neg w1]
    by_cases q2 : 0 ≤ i ∧ i ≤ 22
    · simp only [if_pos q2, if_neg (show ¬ i < 0 by omega), if_pos q2.2, if_neg w1, wr_id (show -2147483648 ≤ i + 1 by omega) (show i + 1 < 2147483648 by omega)]
      by_cases q3 : i + 1 < gZ μ 333 49
      · rw [if_pos q3, if_pos q3, r_showB N hL hW q2.1 (by omega) q.1 q.2, ob_s, r_showB N hL hW (show 0 ≤ i + 1 by omega) q3 q.1 q.2, ob_s, p_wasB N μ hb1 q2.1 (by omega) q.1 (by omega), ob_s, p_wasB N μ hb1 (show 0 ≤ i + 1 by omega) q3 q.1 (by omega), ob_s]
        unfold fX0_findTurns fX0_findTurns_j10 fX9_turned_j70 fX9_one
        rw [wr_bd, wr_bd]
        by_cases z : bd μ i c = bd μ (i + 1) c
        · obtain ⟨r, r1, r2⟩ := tnd_l N hL q.1 q.2 (wr_bd μ i c) (wr_bd μ (i + 1) c) N 0 1 (by omega) (by omega) (by omega) (by omega)
          rw [if_pos z, if_pos z.symm, if_neg (by decide), ob_s]
          refine ⟨r, r, ?_, r2, rfl, hI⟩
          have r1' : fX0_findTurns_l15 N t c (bd μ i c) (bd μ (i + 1) c) μ N 1 0 = some r := r1
          rw [r1', ob_s]
        · obtain ⟨r, r1, r2⟩ := tnd_l N hL q.1 q.2 (wr_bd μ i c) (wr_bd μ (i + 1) c) N 0 0 (by omega) (by omega) (by omega) (by omega)
          rw [if_neg z, if_neg (fun w => z w.symm), if_pos (by decide), ob_s]
          refine ⟨r, r, ?_, r2, rfl, hI⟩
          have r1' : fX0_findTurns_l15 N t c (bd μ i c) (bd μ (i + 1) c) μ N 0 0 = some r := r1
          rw [r1', ob_s]
      · rw [if_neg q3, if_neg q3]
        exact ⟨_, _, rfl, rfl, rfl, hI⟩
    · simp only [if_neg q2, if_pos w0]
      by_cases q3 : i < 0
      · simp only [if_pos q3]; exact ⟨_, _, rfl, rfl, rfl, hI⟩
      · simp only [if_neg q3, if_neg (show ¬ i ≤ 22 by omega)]; exact ⟨_, _, rfl, rfl, rfl, hI⟩
  · simp only [if_neg q, if_pos w0]
    exact ⟨_, _, rfl, rfl, rfl, hI⟩
/-! sets of holes -/
def mk4 (a b c d : Bool) : Nat := a.toNat + 2 * b.toNat + 4 * c.toNat + 8 * d.toNat
def bi (b : Bool) : Int := if b then 1 else 0
def qB (μ : Mm) (c n k h : Int) : Bool := decide (wr (gZ μ 335 (4 * c + (h + n - 1) % 4)) = wr k)
theorem hts_s (N : Nat) {μ : Mm} {t : Nat} (hL : LoomR μ t) {c : Int} (c0 : 0 ≤ c) (c1 : c < gI μ t 6) (n k : Int) (f : Nat) (x h g : Int) (h0 : 0 ≤ h) (h1 : h < 4) (hg : g = h + 1) : fX3_holesThatShow_l6 N t c n k μ (f + 1) x h = fX3_holesThatShow_l6 N t c n k μ f (if qB μ c n k h then orI x (shlI 1 h) else x) g := by
  rw [fX3_holesThatShow_l6, wr_id (a := h) (by omega) (by omega), if_neg (by omega), (r_col N hL (h + n - 1) c0 c1).1, ob_s, hg]
  unfold qB
  by_cases q : wr (gZ μ 335 (4 * c + (h + n - 1) % 4)) = wr k
  · rw [if_pos q, if_pos (decide_eq_true q)]
  · rw [if_neg q, if_neg (by rw [decide_eq_false q]; decide)]
theorem hts (N : Nat) (hNB : NB N) {μ : Mm} {t : Nat} (hL : LoomR μ t) {c : Int} (c0 : 0 ≤ c) (c1 : c < gI μ t 6) (n k : Int) : fX3_holesThatShow N t c n k μ = some ((mk4 (qB μ c n k 0) (qB μ c n k 1) (qB μ c n k 2) (qB μ c n k 3) : Nat) : Int) := by
  have hN2 : 300 ≤ N := hNB
  have key : ∀ m : Nat, fX3_holesThatShow_l6 N t c n k μ (m + 5) 0 0 = some ((mk4 (qB μ c n k 0) (qB μ c n k 1) (qB μ c n k 2) (qB μ c n k 3) : Nat) : Int) := by
    intro m
    rw [hts_s N hL c0 c1 n k (m + 4) _ 0 1 (by decide) (by decide) rfl, hts_s N hL c0 c1 n k (m + 3) _ 1 2 (by decide) (by decide) rfl, hts_s N hL c0 c1 n k (m + 2) _ 2 3 (by decide) (by decide) rfl, hts_s N hL c0 c1 n k (m + 1) _ 3 4 (by decide) (by decide) rfl, fX3_holesThatShow_l6, if_pos (by decide)]
    generalize qB μ c n k 0 = b0
    generalize qB μ c n k 1 = b1
    generalize qB μ c n k 2 = b2
    generalize qB μ c n k 3 = b3
    revert b0 b1 b2 b3
    decide +kernel
  have := key (N - 5)
  rw [show N - 5 + 5 = N by omega] at this
  exact this
theorem and4 : ∀ a b c d e f g h : Bool, andI ((mk4 a b c d : Nat) : Int) ((mk4 e f g h : Nat) : Int) = ((mk4 (a && e) (b && f) (c && g) (d && h) : Nat) : Int) := by decide +kernel
def alB (p : Int → Bool) : Nat → Int → Bool
  | 0, _ => true
  | n + 1, i => p i && alB p n (i + 1)
def sB (μ : Mm) (c h i : Int) : Bool := if gZ μ 341 i = wr c then qB μ c (gZ μ 342 i) (gZ μ 343 i) h else true
theorem hol_x (N : Nat) (hNB : NB N) {μ : Mm} {t : Nat} (hL : LoomR μ t) (hN : NotesR μ t) {c : Int} (c0 : 0 ≤ c) (c1 : c < gI μ t 6) : ∀ (j n : Nat) (i : Int) (b0 b1 b2 b3 : Bool), 0 ≤ i → i + j = gI μ 293 5 → j < n → fX3_findHoles_l6 N t c μ n ((mk4 b0 b1 b2 b3 : Nat) : Int) i = some ((mk4 (b0 && alB (sB μ c 0) j i) (b1 && alB (sB μ c 1) j i) (b2 && alB (sB μ c 2) j i) (b3 && alB (sB μ c 3) j i) : Nat) : Int) := by
  obtain ⟨⟨n1, n2, n3⟩, ⟨m1, m2, m3⟩, n4, m4⟩ := id hN
  intro j
  induction j with
  | zero =>
    intro n i b0 b1 b2 b3 h0 h1 hn
    obtain ⟨m, rfl⟩ : ∃ m, n = m + 1 := ⟨n - 1, by omega⟩
    rw [fX3_findHoles_l6, wr_gI, wr_id (a := i) (by omega) (by omega), if_pos (by omega)]
    show _ = some ((mk4 (b0 && true) (b1 && true) (b2 && true) (b3 && true) : Nat) : Int)
    rw [Bool.and_true, Bool.and_true, Bool.and_true, Bool.and_true]
  | succ j ih =>
    intro n i b0 b1 b2 b3 h0 h1 hn
    obtain ⟨m, rfl⟩ : ∃ m, n = m + 1 := ⟨n - 1, by omega⟩
    have hs := n4 i h0 (by omega)
    rw [fX3_findHoles_l6, wr_gI, wr_id (a := i) (by omega) (by omega), if_neg (by omega), if_neg (by omega), ldA_ok h0 (by omega) (by omega), ob_s, hs.1, wr_gZ]
    show _ = some ((mk4 (b0 && (sB μ c 0 i && alB (sB μ c 0) j (i + 1))) (b1 && (sB μ c 1 i && alB (sB μ c 1) j (i + 1))) (b2 && (sB μ c 2 i && alB (sB μ c 2) j (i + 1))) (b3 && (sB μ c 3 i && alB (sB μ c 3) j (i + 1))) : Nat) : Int)
    by_cases q : gZ μ 341 i = wr c
    · rw [if_pos q, ldA_ok h0 (by omega) (by omega), ob_s, ldA_ok h0 (by omega) (by omega), ob_s, hts N hNB hL c0 c1, ob_s, and4, ih m (i + 1) _ _ _ _ (by omega) (by omega) (by omega), hs.2.2.2.1, hs.2.2.2.2.2.2]
      unfold sB
      simp only [if_pos q, Bool.and_assoc]
    · rw [if_neg q, ih m (i + 1) _ _ _ _ (by omega) (by omega) (by omega)]
      have e : ∀ h, sB μ c h i = true := fun h => by unfold sB; rw [if_neg q]
      rw [e, e, e, e, Bool.true_and, Bool.true_and, Bool.true_and, Bool.true_and]
theorem hol_mi (N : Nat) {μ : Mm} {t : Nat} (hN : NotesR μ t) {c h a : Int} (c0 : 0 ≤ c) (c1 : c < 8) (rec : Int → Int → Option Int) : ∀ (j n : Nat) (i : Int) (b : Bool), 0 ≤ i → i + j = gI μ 293 5 → j < n → fX9_holesOf_l15 N c μ a h rec n (bi b) i = fX9_holesOf_k79 N μ a h rec (bi (b && alB (sB μ c h) j i)) := by
  obtain ⟨⟨n1, n2, n3⟩, ⟨m1, m2, m3⟩, n4, m4⟩ := id hN
  intro j
  induction j with
  | zero =>
    intro n i b h0 h1 hn
    obtain ⟨m, rfl⟩ : ∃ m, n = m + 1 := ⟨n - 1, by omega⟩
    rw [fX9_holesOf_l15, ← n1, wr_gI, wr_id (a := i) (by omega) (by omega), if_pos (by omega)]
    show _ = fX9_holesOf_k79 N μ a h rec (bi (b && true))
    rw [Bool.and_true]
  | succ j ih =>
    intro n i b h0 h1 hn
    obtain ⟨m, rfl⟩ : ∃ m, n = m + 1 := ⟨n - 1, by omega⟩
    have hs := n4 i h0 (by omega)
    rw [fX9_holesOf_l15, ← n1, wr_gI, wr_id (a := i) (by omega) (by omega), if_neg (by omega)]
    show _ = fX9_holesOf_k79 N μ a h rec (bi (b && (sB μ c h i && alB (sB μ c h) j (i + 1))))
    cases b with
    | false =>
      rw [if_pos (by decide)]
      have := ih m (i + 1) false (by omega) (by omega) (by omega)
      rw [Bool.false_and] at this ⊢
      exact this
    | true =>
      rw [if_neg (by decide), ldA_ok h0 (by omega) (by omega), ob_s, wr_gZ, Bool.true_and]
      have t1 := ih m (i + 1) true (by omega) (by omega) (by omega)
      have t0 := ih m (i + 1) false (by omega) (by omega) (by omega)
      rw [Bool.true_and] at t1
      rw [Bool.false_and] at t0
      by_cases q : gZ μ 341 i = wr c
      · rw [if_pos q, ldA_ok h0 (by omega) (by omega), ob_s, p_colourOf N _ μ c0 (by omega), ob_s, ldA_ok h0 (by omega) (by omega), ob_s]
        by_cases z : wr (gZ μ 335 (4 * c + (h + gZ μ 342 i - 1) % 4)) = wr (gZ μ 343 i)
        · have e : sB μ c h i = true := by unfold sB qB; rw [if_pos q]; exact decide_eq_true z
          rw [if_pos z, e, Bool.true_and]
          exact t1
        · have e : sB μ c h i = false := by unfold sB qB; rw [if_pos q]; exact decide_eq_false z
          rw [if_neg z, e, Bool.false_and]
          exact t0
      · have e : sB μ c h i = true := by unfold sB; rw [if_neg q]
        rw [if_neg q, e, Bool.true_and]
        exact t1
theorem hol_s (N : Nat) (hNB : NB N) {μ : Mm} {t : Nat} (hN : NotesR μ t) {c : Int} (c0 : 0 ≤ c) (c1 : c < 8) (f : Nat) (x h g : Int) (h0 : 0 ≤ h) (h1 : h < 4) (hg : g = h + 1) : fX9_holesOf_l4 N c μ (f + 1) x h = fX9_holesOf_l4 N c μ f (orI x (shlI (bi (alB (sB μ c h) (gI μ 293 5).toNat 0)) h)) g := by
  have hN2 : 300 ≤ N := hNB
  obtain ⟨⟨n1, n2, n3⟩, -⟩ := id hN
  have := hol_mi N hN (h := h) (a := x) c0 c1 (fX9_holesOf_l4 N c μ f) (gI μ 293 5).toNat N 0 true (by omega) (by omega) (by omega)
  rw [fX9_holesOf_l4, wr_id (a := h) (by omega) (by omega), if_neg (by omega), show (1 : Int) = bi true from rfl, this, hg, Bool.true_and]
  unfold fX9_holesOf_k79 fX9_one
  cases alB (sB μ c h) (gI μ 293 5).toNat 0 with
  | false => rw [if_pos (by decide), ob_s]; rfl
  | true => rw [if_neg (by decide), ob_s]; rfl
theorem r_holes (N : Nat) (hNB : NB N) {μ : Mm} {t : Nat} (hL : LoomR μ t) (hN : NotesR μ t) {c : Int} (c0 : 0 ≤ c) (c1 : c < gI μ t 6) : ∃ b0 b1 b2 b3 : Bool, fX3_findHoles N t c μ = some ((mk4 b0 b1 b2 b3 : Nat) : Int) ∧ fX9_holesOf N c μ = some ((mk4 b0 b1 b2 b3 : Nat) : Int) := by
  have hN2 : 300 ≤ N := hNB
  obtain ⟨-, ⟨e6, a6, b6⟩, -⟩ := id hL
  obtain ⟨⟨n1, n2, n3⟩, -⟩ := id hN
  refine ⟨alB (sB μ c 0) (gI μ 293 5).toNat 0, alB (sB μ c 1) (gI μ 293 5).toNat 0, alB (sB μ c 2) (gI μ 293 5).toNat 0, alB (sB μ c 3) (gI μ 293 5).toNat 0, ?_, ?_⟩
  · have := hol_x N hNB hL hN c0 c1 (gI μ 293 5).toNat N 0 true true true true (by omega) (by omega) (by omega)
    rw [Bool.true_and, Bool.true_and, Bool.true_and, Bool.true_and] at this
    exact this
  · have key : ∀ m : Nat, fX9_holesOf_l4 N c μ (m + 5) 0 0 = some ((mk4 (alB (sB μ c 0) (gI μ 293 5).toNat 0) (alB (sB μ c 1) (gI μ 293 5).toNat 0) (alB (sB μ c 2) (gI μ 293 5).toNat 0) (alB (sB μ c 3) (gI μ 293 5).toNat 0) : Nat) : Int) := by
      intro m
      rw [hol_s N hNB hN c0 (by omega) (m + 4) _ 0 1 (by decide) (by decide) rfl, hol_s N hNB hN c0 (by omega) (m + 3) _ 1 2 (by decide) (by decide) rfl, hol_s N hNB hN c0 (by omega) (m + 2) _ 2 3 (by decide) (by decide) rfl, hol_s N hNB hN c0 (by omega) (m + 1) _ 3 4 (by decide) (by decide) rfl, fX9_holesOf_l4, if_pos (by decide)]
      generalize alB (sB μ c 0) (gI μ 293 5).toNat 0 = b0
      generalize alB (sB μ c 1) (gI μ 293 5).toNat 0 = b1
      generalize alB (sB μ c 2) (gI μ 293 5).toNat 0 = b2
      generalize alB (sB μ c 3) (gI μ 293 5).toNat 0 = b3
      revert b0 b1 b2 b3
      decide +kernel
    have := key (N - 5)
    rw [show N - 5 + 5 = N by omega] at this
    exact this
theorem okp_holes (N : Nat) (hNB : NB N) : ok_holes N Inv := by
  intro μ c hc hI
  obtain ⟨t, u, hT, hL, hW, hU, hG, hN, hX, hS⟩ := id hI
  obtain ⟨⟨e5, a5, b5⟩, ⟨e6, a6, b6⟩, -⟩ := id hL
  unfold fX8_holes fX9_holes
  rw [hT.t, gd_p hT.kt, p_hasCard N t c μ hc, p_isCard N c μ (by omega) hc, e6, ob_s, ob_s]
  by_cases q : 0 ≤ c ∧ c < gI μ t 6
  · obtain ⟨b0, b1, b2, b3, h1, h2⟩ := r_holes N hNB hL hN q.1 q.2
    rw [if_pos q, if_neg (by decide), if_neg (by decide), h1, h2, ob_s]
    exact ⟨_, _, rfl, rfl, rfl, hI⟩
  · rw [if_neg q, if_pos (by decide), if_pos (by decide)]
    exact ⟨_, _, rfl, rfl, rfl, hI⟩
/-! which pick to look at next -/
def su4 (a b c d : Bool) : Int := bi a + bi b + bi c + bi d
theorem bc4 (N : Nat) (μ : Mm) (a b c d : Bool) : fJ6_bitCount_0f7a4 N ((mk4 a b c d : Nat) : Int) μ = some (su4 a b c d) := by
  have key : ∀ a b c d : Bool, fJ6_bitCount_0f7a4 0 ((mk4 a b c d : Nat) : Int) (fun _ _ => 0) = some (su4 a b c d) := by decide +kernel
  exact key a b c d
theorem su4_b : ∀ a b c d : Bool, 0 ≤ su4 a b c d ∧ su4 a b c d ≤ 4 := by decide +kernel
theorem has4 : ∀ a b c d : Bool, ((mk4 a b c d).testBit 0 = a ∧ (mk4 a b c d).testBit 1 = b ∧ (mk4 a b c d).testBit 2 = c ∧ (mk4 a b c d).testBit 3 = d) ∧ mk4 a b c d < 16 := by decide +kernel
theorem shr4 : ∀ a b c d : Bool, andI (shrI ((mk4 a b c d : Nat) : Int) 0) 1 = bi a ∧ andI (shrI ((mk4 a b c d : Nat) : Int) 1) 1 = bi b ∧ andI (shrI ((mk4 a b c d : Nat) : Int) 2) 1 = bi c ∧ andI (shrI ((mk4 a b c d : Nat) : Int) 3) 1 = bi d := by decide +kernel
theorem gp_s (N : Nat) {μ : Mm} {c : Int} (c0 : 0 ≤ c) (c1 : c < 8) (n k : Int) (s : Nat) (hs : s < 16) (a : Int) (rec : Int → Int → Option Int) (f : Nat) (x h g : Int) (h0 : 0 ≤ h) (h1 : h < 4) (hg : g = h + 1) (b : Bool) (hb : s.testBit h.toNat = b) : fX9_greatestPart_l21 N c n s μ a k rec (f + 1) x h = fX9_greatestPart_l21 N c n s μ a k rec f (x + bi (b && qB μ c n k h)) g := by
  rw [fX9_greatestPart_l21, wr_id (a := h) (by omega) (by omega), if_neg (by omega), p_hasZ N μ (show 0 ≤ (s : Int) by omega) (by omega) h0 (by omega), ob_s, Int.toNat_natCast, hb, hg]
  unfold fX9_greatestPart_j59 fX9_one
  cases b with
  | false =>
    rw [if_neg (show ¬ false = true by decide), if_pos (show wr (0 : Int) = 0 by decide), if_pos (show wr (0 : Int) = 0 by decide), ob_s, Bool.false_and]
    rfl
  | true =>
    rw [if_pos rfl, if_neg (show ¬ wr (1 : Int) = 0 by decide), p_colourOf N _ μ c0 (by omega), ob_s, Bool.true_and]
    unfold qB
    by_cases q : wr (gZ μ 335 (4 * c + (h + n - 1) % 4)) = wr k
    · rw [if_pos q, if_neg (show ¬ wr (1 : Int) = 0 by decide), ob_s, decide_eq_true q]
      rfl
    · rw [if_neg q, if_pos (show wr (0 : Int) = 0 by decide), ob_s, decide_eq_false q]
      rfl
theorem gp_i (N : Nat) (hNB : NB N) {μ : Mm} {c : Int} (c0 : 0 ≤ c) (c1 : c < 8) (n k : Int) (b0 b1 b2 b3 : Bool) (a : Int) (rec : Int → Int → Option Int) : fX9_greatestPart_l21 N c n ((mk4 b0 b1 b2 b3 : Nat) : Int) μ a k rec N 0 0 = fX9_greatestPart_k71 N μ a k rec (su4 (b0 && qB μ c n k 0) (b1 && qB μ c n k 1) (b2 && qB μ c n k 2) (b3 && qB μ c n k 3)) := by
  have hN2 : 300 ≤ N := hNB
  obtain ⟨⟨t0, t1, t2, t3⟩, hs⟩ := has4 b0 b1 b2 b3
  have key : ∀ m : Nat, fX9_greatestPart_l21 N c n ((mk4 b0 b1 b2 b3 : Nat) : Int) μ a k rec (m + 5) 0 0 = fX9_greatestPart_k71 N μ a k rec (su4 (b0 && qB μ c n k 0) (b1 && qB μ c n k 1) (b2 && qB μ c n k 2) (b3 && qB μ c n k 3)) := by
    intro m
    rw [gp_s N c0 c1 n k _ hs a rec (m + 4) _ 0 1 (by decide) (by decide) rfl b0 t0, gp_s N c0 c1 n k _ hs a rec (m + 3) _ 1 2 (by decide) (by decide) rfl b1 t1, gp_s N c0 c1 n k _ hs a rec (m + 2) _ 2 3 (by decide) (by decide) rfl b2 t2, gp_s N c0 c1 n k _ hs a rec (m + 1) _ 3 4 (by decide) (by decide) rfl b3 t3, fX9_greatestPart_l21, if_pos (by decide), Int.zero_add]
    rfl
  have := key (N - 5)
  rw [show N - 5 + 5 = N by omega] at this
  exact this
theorem gp_l (N : Nat) (hNB : NB N) {μ : Mm} {t : Nat} (hL : LoomR μ t) {c : Int} (c0 : 0 ≤ c) (c1 : c < gI μ t 6) (n : Int) (b0 b1 b2 b3 : Bool) : ∀ (f : Nat) (k x : Int), 0 ≤ k → k ≤ gI μ t 5 → gI μ t 5 - k < f → 0 ≤ x → x ≤ 4 → ∃ r, fX3_findGreatestPart_l6 N t c ((mk4 b0 b1 b2 b3 : Nat) : Int) n μ f x k = some r ∧ fX9_greatestPart_l6 N c n ((mk4 b0 b1 b2 b3 : Nat) : Int) μ f x k = some r ∧ 0 ≤ r ∧ r ≤ 4 := by
  obtain ⟨⟨e5, a5, b5⟩, ⟨e6, a6, b6⟩, -⟩ := id hL
  intro f
  induction f with
  | zero => intro k x h0 h1 h2; omega
  | succ f ih =>
    intro k x h0 h1 h2 h3 h4
    rw [fX3_findGreatestPart_l6, fX9_greatestPart_l6, e5, wr_gI, wr_id (a := k) (by omega) (by omega)]
    by_cases q : gI μ t 5 ≤ k
    · rw [if_pos q, if_pos q]; exact ⟨x, rfl, rfl, h3, h4⟩
    · rw [if_neg q, if_neg q, hts N hNB hL c0 c1, ob_s, and4, bc4, ob_s, gp_i N hNB c0 (by omega)]
      have hb := su4_b (b0 && qB μ c n k 0) (b1 && qB μ c n k 1) (b2 && qB μ c n k 2) (b3 && qB μ c n k 3)
      generalize su4 (b0 && qB μ c n k 0) (b1 && qB μ c n k 1) (b2 && qB μ c n k 2) (b3 && qB μ c n k 3) = v at hb ⊢
      unfold fX9_greatestPart_k71 fX9_most
      rw [wr_id (a := x) (by omega) (by omega), wr_id (a := v) (by omega) (by omega)]
      by_cases z : x < v
      · rw [if_pos z, if_neg (show ¬ v ≤ x by omega), ob_s]
        exact ih (k + 1) v (by omega) (by omega) (by omega) hb.1 hb.2
      · rw [if_neg z, if_pos (show v ≤ x by omega), ob_s]
        exact ih (k + 1) x (by omega) (by omega) (by omega) h3 h4
theorem look_l (N : Nat) (hNB : NB N) {μ : Mm} {t : Nat} (hL : LoomR μ t) {c : Int} (c0 : 0 ≤ c) (c1 : c < gI μ t 6) (b0 b1 b2 b3 : Bool) : ∀ (f : Nat) (n x b : Int), 1 ≤ n → n ≤ 5 → 5 - n < f → 0 ≤ x → x ≤ 4 → ∃ r, fX3_findLook_l19 N t c μ ((mk4 b0 b1 b2 b3 : Nat) : Int) f b x n = some r ∧ fX9_lookAt_l49 N c μ ((mk4 b0 b1 b2 b3 : Nat) : Int) f x b n = some r := by
  obtain ⟨⟨e5, a5, b5⟩, ⟨e6, a6, b6⟩, -⟩ := id hL
  have hN2 : 300 ≤ N := hNB
  intro f
  induction f with
  | zero => intro n x b h0 h1 h2; omega
  | succ f ih =>
    intro n x b h0 h1 h2 h3 h4
    rw [fX3_findLook_l19, fX9_lookAt_l49, wr_id (a := n) (by omega) (by omega)]
    by_cases q : 4 < n
    · rw [if_pos q, if_pos q]; exact ⟨b, rfl, rfl⟩
    · obtain ⟨v, v1, v2, v3, v4⟩ := gp_l N hNB hL c0 c1 n b0 b1 b2 b3 N 0 0 (by omega) (by omega) (by omega) (by omega) (by omega)
      unfold fX3_findGreatestPart fX9_greatestPart
      rw [if_neg q, if_neg q, v1, v2, ob_s, ob_s, wr_id (a := x) (by omega) (by omega), wr_id (a := v) (by omega) (by omega)]
      unfold fX9_lookAt_j78 fX9_least
      rw [wr_id (a := x) (by omega) (by omega), wr_id (a := v) (by omega) (by omega)]
      by_cases z : x ≤ v
      · rw [if_pos z, if_pos z, if_pos z, ob_s]
        exact ih (n + 1) x b (by omega) (by omega) (by omega) h3 h4
      · rw [if_neg z, if_neg z, if_neg z, ob_s]
        exact ih (n + 1) v n (by omega) (by omega) (by omega) v3 v4
theorem few_l (N : Nat) (hNB : NB N) {μ : Mm} {c : Int} (b0 b1 b2 b3 : Bool) : fX9_lookAt_l22 N c μ ((mk4 b0 b1 b2 b3 : Nat) : Int) N 0 0 = fX9_lookAt_k43 N c μ ((mk4 b0 b1 b2 b3 : Nat) : Int) (su4 b0 b1 b2 b3) := by
  have hN2 : 300 ≤ N := hNB
  obtain ⟨t0, t1, t2, t3⟩ := shr4 b0 b1 b2 b3
  have st : ∀ (f : Nat) (x h g : Int) (b : Bool), 0 ≤ h → h < 4 → g = h + 1 → andI (shrI ((mk4 b0 b1 b2 b3 : Nat) : Int) h) 1 = bi b → fX9_lookAt_l22 N c μ ((mk4 b0 b1 b2 b3 : Nat) : Int) (f + 1) x h = fX9_lookAt_l22 N c μ ((mk4 b0 b1 b2 b3 : Nat) : Int) f (x + bi b) g := by
    intro f x h g b h0 h1 hg hb
    rw [fX9_lookAt_l22, wr_id (a := h) (by omega) (by omega), if_neg (by omega), hb, hg]
  have key : ∀ m : Nat, fX9_lookAt_l22 N c μ ((mk4 b0 b1 b2 b3 : Nat) : Int) (m + 5) 0 0 = fX9_lookAt_k43 N c μ ((mk4 b0 b1 b2 b3 : Nat) : Int) (su4 b0 b1 b2 b3) := by
    intro m
    rw [st (m + 4) _ 0 1 b0 (by decide) (by decide) rfl t0, st (m + 3) _ 1 2 b1 (by decide) (by decide) rfl t1, st (m + 2) _ 2 3 b2 (by decide) (by decide) rfl t2, st (m + 1) _ 3 4 b3 (by decide) (by decide) rfl t3, fX9_lookAt_l22, if_pos (by decide), Int.zero_add]
    rfl
  have := key (N - 5)
  rw [show N - 5 + 5 = N by omega] at this
  exact this
theorem okp_lookAt (N : Nat) (hNB : NB N) : ok_lookAt N Inv := by
  intro μ c hc hI
  obtain ⟨t, u, hT, hL, hW, hU, hG, hN, hX, hS⟩ := id hI
  obtain ⟨⟨e5, a5, b5⟩, ⟨e6, a6, b6⟩, -⟩ := id hL
  have hN2 : 300 ≤ N := hNB
  unfold fX8_lookAt fX9_lookAt fX3_findLook
  rw [hT.t, gd_p hT.kt, p_hasCard N t c μ hc, p_isCard N c μ (by omega) hc, e6, ob_s, ob_s]
  by_cases q : 0 ≤ c ∧ c < gI μ t 6
  · obtain ⟨b0, b1, b2, b3, h1, h2⟩ := r_holes N hNB hL hN q.1 q.2
    have hb := su4_b b0 b1 b2 b3
    obtain ⟨r, r1, r2⟩ := look_l N hNB hL q.1 q.2 b0 b1 b2 b3 N 1 (su4 b0 b1 b2 b3) (-1) (by omega) (by omega) (by omega) hb.1 hb.2
    rw [if_pos q, if_neg (by decide), if_neg (by decide), h1, h2, ob_s, ob_s, bc4, ob_s, few_l N hNB]
    unfold fX9_lookAt_k43
    rw [r1, r2, ob_s]
    exact ⟨_, _, rfl, rfl, rfl, hI⟩
  · rw [if_neg q, if_pos (by decide), if_pos (by decide)]
    exact ⟨_, _, rfl, rfl, rfl, hI⟩
