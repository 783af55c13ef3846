/-! together -/
def vS (μ : Mm) (on c : Int) : Int := if on = 4 then gZ μ 333 (16 + c) else gZ μ 335 (4 * c + (gZ μ 333 c + on) % 4)
def pS (μ : Mm) (s : Nat) (k on c : Int) : Bool := !(s.testBit c.toNat) || decide (wr (vS μ on c) = wr k)
theorem alB_c {p q : Int → Bool} : ∀ (n : Nat) (i : Int), (∀ x, i ≤ x → x < i + n → p x = q x) → alB p n i = alB q n i := by
  intro n
  induction n with
  | zero => intro i _; rfl
  | succ n ih =>
    intro i h
    show (p i && alB p n (i + 1)) = (q i && alB q n (i + 1))
    rw [h i (by omega) (by omega), ih (i + 1) (fun x a b => h x (by omega) (by omega))]
theorem now_x (N : Nat) {μ : Mm} {t : Nat} (hL : LoomR μ t) (hW : WR μ t 3 0) {s : Nat} (hs : s < 2147483648) (k : Int) : ∀ (j n : Nat) (c : Int), 0 ≤ c → c + j = gI μ t 6 → j < n → fX6_showNow_l3 N 3 t s k μ n c = some (bi (alB (pS μ s k 4) j c)) := by
  obtain ⟨-, ⟨e6, a6, b6⟩, -⟩ := id hL
  intro j
  induction j with
  | zero =>
    intro n c h0 h1 hn
    obtain ⟨m, rfl⟩ : ∃ m, n = m + 1 := ⟨n - 1, by omega⟩
    rw [fX6_showNow_l3, wr_gI, wr_id (a := c) (by omega) (by omega), if_pos (by omega)]
    rfl
  | succ j ih =>
    intro n c h0 h1 hn
    obtain ⟨m, rfl⟩ : ∃ m, n = m + 1 := ⟨n - 1, by omega⟩
    obtain ⟨cn, rfl⟩ : ∃ a : Nat, c = a := ⟨c.toNat, by omega⟩
    have hcd := hW.cd h0 (show (cn : Int) < gI μ t 6 by omega)
    rw [fX6_showNow_l3, wr_gI, wr_id (a := (cn : Int)) (by omega) (by omega), if_neg (by omega), if_neg (by omega), has_nat hs (by omega), ldA_ok h0 (by omega) (by omega), ob_s, show (3 + 4 : Nat) = 7 from rfl, hcd.2.2.2.2.2.2.1]
    show _ = some (bi (pS μ s k 4 cn && alB (pS μ s k 4) j (cn + 1)))
    unfold pS vS
    rw [if_pos rfl, Int.toNat_natCast]
    have ii := ih m ((cn : Int) + 1) (by omega) (by omega) (by omega)
    unfold pS at ii
    cases hb : s.testBit cn with
    | false =>
      rw [if_neg (show ¬ false = true by decide), if_neg (by decide), ii]
      rfl
    | true =>
      rw [if_pos rfl, if_pos (by decide)]
      by_cases z : wr (gZ μ 333 (16 + (cn : Int))) = wr k
      · rw [if_pos z, decide_eq_true z, ii]; rfl
      · rw [if_neg z, decide_eq_false z]; rfl
theorem ahd_x (N : Nat) {μ : Mm} {t : Nat} (hL : LoomR μ t) (hW : WR μ t 3 0) {s : Nat} (hs : s < 2147483648) (k : Int) {f on : Int} (h4 : on ≠ 4) (hf : (f - on) % 4 = 0) : ∀ (j n : Nat) (c : Int), 0 ≤ c → c + j = gI μ t 6 → j < n → fX6_showAhead_l3 N 3 t s k f μ n c = some (bi (alB (pS μ s k on) j c)) := by
  obtain ⟨-, ⟨e6, a6, b6⟩, -⟩ := id hL
  intro j
  induction j with
  | zero =>
    intro n c h0 h1 hn
    obtain ⟨m, rfl⟩ : ∃ m, n = m + 1 := ⟨n - 1, by omega⟩
    rw [fX6_showAhead_l3, wr_gI, wr_id (a := c) (by omega) (by omega), if_pos (by omega)]
    rfl
  | succ j ih =>
    intro n c h0 h1 hn
    obtain ⟨m, rfl⟩ : ∃ m, n = m + 1 := ⟨n - 1, by omega⟩
    obtain ⟨cn, rfl⟩ : ∃ a : Nat, c = a := ⟨c.toNat, by omega⟩
    have hcd := hW.cd h0 (show (cn : Int) < gI μ t 6 by omega)
    rw [fX6_showAhead_l3, wr_gI, wr_id (a := (cn : Int)) (by omega) (by omega), if_neg (by omega), if_neg (by omega), has_nat hs (by omega), ldA_ok h0 (by omega) (by omega), ob_s, show (3 + 2 : Nat) = 5 from rfl, hcd.1, (r_col N hL _ h0 (show (cn : Int) < gI μ t 6 by omega)).1, ob_s, show (gZ μ 333 (cn : Int) + f) % 4 = (gZ μ 333 (cn : Int) + on) % 4 by omega]
    show _ = some (bi (pS μ s k on cn && alB (pS μ s k on) j (cn + 1)))
    unfold pS vS
    rw [if_neg h4, Int.toNat_natCast]
    have ii := ih m ((cn : Int) + 1) (by omega) (by omega) (by omega)
    unfold pS at ii
    cases hb : s.testBit cn with
    | false =>
      rw [if_neg (show ¬ false = true by decide), if_neg (by decide), ii]
      rfl
    | true =>
      rw [if_pos rfl, if_pos (by decide)]
      by_cases z : wr (gZ μ 335 (4 * (cn : Int) + (gZ μ 333 (cn : Int) + on) % 4)) = wr k
      · rw [if_pos z, decide_eq_true z, ii]; rfl
      · rw [if_neg z, decide_eq_false z]; rfl
theorem all_m (N : Nat) {μ : Mm} (hC : 0 ≤ gI μ 332 6 ∧ gI μ 332 6 ≤ 8) {s : Nat} (hs : s < 2147483648) (k : Int) {on : Int} (ho : 0 ≤ on ∧ on ≤ 4) : ∀ (j n : Nat) (c : Int) (b : Bool), 0 ≤ c → c + j = gI μ 332 6 → j < n → fX9_allShow_l6 N s k on μ n (bi b) c = some (bi (b && alB (pS μ s k on) j c)) := by
  intro j
  induction j with
  | zero =>
    intro n c b h0 h1 hn
    obtain ⟨m, rfl⟩ : ∃ m, n = m + 1 := ⟨n - 1, by omega⟩
    rw [fX9_allShow_l6, wr_gI, wr_id (a := c) (by omega) (by omega), if_pos (by omega), gd_p (by cases b <;> decide)]
    show _ = some (bi (b && true))
    rw [Bool.and_true]
  | succ j ih =>
    intro n c b h0 h1 hn
    obtain ⟨m, rfl⟩ : ∃ m, n = m + 1 := ⟨n - 1, by omega⟩
    have t1 := ih m (c + 1) true (by omega) (by omega) (by omega)
    have t0 := ih m (c + 1) false (by omega) (by omega) (by omega)
    rw [Bool.true_and] at t1
    rw [Bool.false_and] at t0
    have key : fX9_allShow_j48 N s k μ (bi b) c (fX9_allShow_l6 N s k on μ m) (vS μ on c) = some (bi (b && (pS μ s k on c && alB (pS μ s k on) j (c + 1)))) := by
      unfold fX9_allShow_j48
      cases b with
      | false => rw [if_pos (by decide), Bool.false_and]; exact t0
      | true =>
        rw [if_neg (by decide), p_hasZ N μ (by omega) (by omega) h0 (by omega), ob_s, Int.toNat_natCast, Bool.true_and]
        cases hb : s.testBit c.toNat with
        | false =>
          have e : pS μ s k on c = true := by unfold pS; rw [hb]; rfl
          rw [if_neg (show ¬ false = true by decide), if_pos (by decide), e, Bool.true_and]; exact t1
        | true =>
          rw [if_pos rfl, if_neg (by decide)]
          by_cases z : wr (vS μ on c) = wr k
          · have e : pS μ s k on c = true := by unfold pS; rw [hb, decide_eq_true z]; rfl
            rw [if_pos z, e, Bool.true_and]; exact t1
          · have e : pS μ s k on c = false := by unfold pS; rw [hb, decide_eq_false z]; rfl
            rw [if_neg z, e, Bool.false_and]; exact t0
    rw [fX9_allShow_l6, wr_gI, wr_id (a := c) (by omega) (by omega), if_neg (by omega), wr_id (a := on) (by omega) (by omega)]
    show _ = some (bi (b && (pS μ s k on c && alB (pS μ s k on) j (c + 1))))
    rw [← key]
    unfold vS
    by_cases q : on = 4
    · rw [if_pos q, if_pos q, ldA_ok (by omega) (by omega) (by omega), ob_s]
    · rw [if_neg q, if_neg q, ldA_ok (by omega) (by omega) (by omega), ob_s, p_colourOf N _ μ h0 (by omega), ob_s]
def shB (μ : Mm) (C : Int) (s : Nat) (k on : Int) : Bool := alB (pS μ s k on) C.toNat 0
theorem r_now (N : Nat) (hNB : NB N) {μ : Mm} {t : Nat} (hL : LoomR μ t) (hW : WR μ t 3 0) {s : Nat} (hs : s < 2147483648) (k : Int) : fX6_showNow N 3 t s k μ = some (bi (shB μ (gI μ t 6) s k 4)) := by
  obtain ⟨-, ⟨e6, a6, b6⟩, -⟩ := id hL
  have hN2 : 300 ≤ N := hNB
  exact now_x N hL hW hs k (gI μ t 6).toNat N 0 (by omega) (by omega) (by omega)
theorem r_ahd (N : Nat) (hNB : NB N) {μ : Mm} {t : Nat} (hL : LoomR μ t) (hW : WR μ t 3 0) {s : Nat} (hs : s < 2147483648) (k : Int) (f on : Int) (h4 : on ≠ 4) (hf : (f - on) % 4 = 0) : fX6_showAhead N 3 t s k f μ = some (bi (shB μ (gI μ t 6) s k on)) := by
  obtain ⟨-, ⟨e6, a6, b6⟩, -⟩ := id hL
  have hN2 : 300 ≤ N := hNB
  exact ahd_x N hL hW hs k h4 hf (gI μ t 6).toNat N 0 (by omega) (by omega) (by omega)
theorem r_all (N : Nat) (hNB : NB N) {μ : Mm} (hC : 0 ≤ gI μ 332 6 ∧ gI μ 332 6 ≤ 8) {s : Nat} (hs : s < 2147483648) (k : Int) {on : Int} (ho : 0 ≤ on ∧ on ≤ 4) : fX9_allShow N s k on μ = some (bi (shB μ (gI μ 332 6) s k on)) := by
  have hN2 : 300 ≤ N := hNB
  have := all_m N hC hs k ho (gI μ 332 6).toNat N 0 true (by omega) (by omega) (by omega)
  rw [Bool.true_and] at this
  exact this
/-! how far: 20 states, 8 rounds -/
def mnN (a b : Nat) : Nat := if b ≤ a then b else a
def fwN (x : Nat) : Nat := 5 * ((x / 5 + 1) % 4) + x / 5
def bkN (x : Nat) : Nat := 5 * ((x / 5 + 3) % 4) + (x / 5 + 3) % 4
def stp (l : List Nat) (x : Nat) : List Nat := l.set x (mnN (l.getD x 0) (1 + mnN (l.getD (fwN x) 0) (l.getD (bkN x) 0)))
def stpN : Nat → Nat → List Nat → List Nat
  | 0, _, l => l
  | j + 1, x, l => stpN j (x + 1) (stp l x)
def rndN : Nat → List Nat → List Nat
  | 0, l => l
  | j + 1, l => rndN j (stpN 20 0 l)
def iniB (b0 b1 b2 b3 b4 : Bool) : List Nat :=
  let a := fun b : Bool => if b then 0 else 99
  [a b0, a b1, a b2, a b3, a b4, a b0, a b1, a b2, a b3, a b4, a b0, a b1, a b2, a b3, a b4, a b0, a b1, a b2, a b3, a b4]
def pk5 (b0 b1 b2 b3 b4 : Bool) (k : Nat) : Bool := if k = 0 then b0 else if k = 1 then b1 else if k = 2 then b2 else if k = 3 then b3 else b4
theorem ini_ok : ∀ b0 b1 b2 b3 b4 : Bool, ∀ i : Nat, i < 20 → (iniB b0 b1 b2 b3 b4).getD i 0 = if pk5 b0 b1 b2 b3 b4 (i % 5) then 0 else 99 := by decide +kernel
def cfB (b0 b1 b2 b3 b4 : Bool) : Nat := if b4 then 0 else if b0 || b3 then 1 else if b1 || b2 then 2 else 99
def fgB (m : Nat) (b0 b1 b2 b3 b4 : Bool) : Nat := if cfB b0 b1 b2 b3 b4 = m then (if m = 1 then (if b0 then 1 else 2) else (if b1 then 1 else 2)) else 0
def farB (b0 b1 b2 b3 b4 : Bool) : List Nat := rndN 8 (iniB b0 b1 b2 b3 b4)
theorem far_4 : ∀ b0 b1 b2 b3 b4 : Bool, (farB b0 b1 b2 b3 b4).getD 4 0 = cfB b0 b1 b2 b3 b4 := by decide +kernel
theorem far_a1 : ∀ b0 b1 b2 b3 b4 : Bool, cfB b0 b1 b2 b3 b4 ≤ 1 → (farB b0 b1 b2 b3 b4).getD 4 0 < 1 → fgB 1 b0 b1 b2 b3 b4 = 0 := by decide +kernel
theorem far_b1 : ∀ b0 b1 b2 b3 b4 : Bool, cfB b0 b1 b2 b3 b4 ≤ 1 → ¬ (farB b0 b1 b2 b3 b4).getD 4 0 < 1 → (farB b0 b1 b2 b3 b4).getD 5 0 < 1 → fgB 1 b0 b1 b2 b3 b4 = 1 := by decide +kernel
theorem far_c1 : ∀ b0 b1 b2 b3 b4 : Bool, cfB b0 b1 b2 b3 b4 ≤ 1 → ¬ (farB b0 b1 b2 b3 b4).getD 4 0 < 1 → ¬ (farB b0 b1 b2 b3 b4).getD 5 0 < 1 → (farB b0 b1 b2 b3 b4).getD 18 0 < 1 ∧ fgB 1 b0 b1 b2 b3 b4 = 2 := by decide +kernel
theorem far_a2 : ∀ b0 b1 b2 b3 b4 : Bool, cfB b0 b1 b2 b3 b4 ≤ 2 → (farB b0 b1 b2 b3 b4).getD 4 0 < 2 → fgB 2 b0 b1 b2 b3 b4 = 0 := by decide +kernel
theorem far_b2 : ∀ b0 b1 b2 b3 b4 : Bool, cfB b0 b1 b2 b3 b4 ≤ 2 → ¬ (farB b0 b1 b2 b3 b4).getD 4 0 < 2 → (farB b0 b1 b2 b3 b4).getD 5 0 < 2 → fgB 2 b0 b1 b2 b3 b4 = 1 := by decide +kernel
theorem far_c2 : ∀ b0 b1 b2 b3 b4 : Bool, cfB b0 b1 b2 b3 b4 ≤ 2 → ¬ (farB b0 b1 b2 b3 b4).getD 4 0 < 2 → ¬ (farB b0 b1 b2 b3 b4).getD 5 0 < 2 → (farB b0 b1 b2 b3 b4).getD 18 0 < 2 ∧ fgB 2 b0 b1 b2 b3 b4 = 2 := by decide +kernel
theorem far_ok : ∀ b0 b1 b2 b3 b4 : Bool, (farB b0 b1 b2 b3 b4).getD 4 0 = cfB b0 b1 b2 b3 b4 ∧ ∀ m : Nat, m < 3 → 0 < m → cfB b0 b1 b2 b3 b4 ≤ m → (((farB b0 b1 b2 b3 b4).getD 4 0 < m → fgB m b0 b1 b2 b3 b4 = 0) ∧ (¬ (farB b0 b1 b2 b3 b4).getD 4 0 < m → (farB b0 b1 b2 b3 b4).getD 5 0 < m → fgB m b0 b1 b2 b3 b4 = 1) ∧ (¬ (farB b0 b1 b2 b3 b4).getD 4 0 < m → ¬ (farB b0 b1 b2 b3 b4).getD 5 0 < m → (farB b0 b1 b2 b3 b4).getD 18 0 < m ∧ fgB m b0 b1 b2 b3 b4 = 2)) := by
  intro b0 b1 b2 b3 b4
  refine ⟨far_4 b0 b1 b2 b3 b4, fun m h1 h2 hc => ?_⟩
  rcases (show m = 1 ∨ m = 2 by omega) with rfl | rfl
  · exact ⟨far_a1 _ _ _ _ _ hc, far_b1 _ _ _ _ _ hc, far_c1 _ _ _ _ _ hc⟩
  · exact ⟨far_a2 _ _ _ _ _ hc, far_b2 _ _ _ _ _ hc, far_c2 _ _ _ _ _ hc⟩
theorem cfB_v : ∀ b0 b1 b2 b3 b4 : Bool, cfB b0 b1 b2 b3 b4 = 0 ∨ cfB b0 b1 b2 b3 b4 = 1 ∨ cfB b0 b1 b2 b3 b4 = 2 ∨ cfB b0 b1 b2 b3 b4 = 99 := by decide +kernel
theorem fw_I : ∀ x : Nat, x < 20 → (5 * (rmI ((dvI (x : Int) 5) + 1) 4)) + (dvI (x : Int) 5) = ((fwN x : Nat) : Int) ∧ fwN x < 20 ∧ (5 * (rmI ((dvI (x : Int) 5) + 3) 4)) + (rmI ((dvI (x : Int) 5) + 3) 4) = ((bkN x : Nat) : Int) ∧ bkN x < 20 ∧ rmI (x : Int) 5 = ((x % 5 : Nat) : Int) := by decide +kernel
def rwL (ν : Mm) (l : List Nat) : Prop := l.length = 20 ∧ ∀ x : Nat, x < 20 → gZ ν 340 x = ((l.getD x 0 : Nat) : Int) ∧ l.getD x 0 ≤ 99
theorem getD_set {l : List Nat} {x i v : Nat} (hx : x < l.length) : (l.set x v).getD i 0 = if i = x then v else l.getD i 0 := by
  rw [List.getD_eq_getElem?_getD, List.getD_eq_getElem?_getD, List.getElem?_set]
  by_cases q : i = x
  · subst q; rw [if_pos rfl, if_pos rfl, if_pos hx]; rfl
  · rw [if_neg (fun z => q z.symm), if_neg q]
theorem mnN_I (N : Nat) (ν : Mm) {a b : Nat} (ha : a ≤ 200) (hb : b ≤ 200) : fX9_least N (a : Int) (b : Int) ν = some ((mnN a b : Nat) : Int) ∧ mnN a b ≤ a ∧ mnN a b ≤ b := by
  unfold fX9_least mnN
  rw [wr_id (a := (a : Int)) (by omega) (by omega), wr_id (a := (b : Int)) (by omega) (by omega)]
  by_cases q : b ≤ a
  · rw [if_pos (by omega), if_pos q]; exact ⟨rfl, q, Nat.le_refl _⟩
  · rw [if_neg (by omega), if_neg q]; exact ⟨rfl, Nat.le_refl _, by omega⟩
theorem far_i (N : Nat) (r : Int) (rec : Int → Mm → Option Mm) : ∀ (j n x : Nat) (ν : Mm) (l : List Nat), x + j = 20 → j < n → rwL ν l → ∃ ν1, fX9_layFar_l49 N r rec n (x : Int) ν = rec (r + 1) ν1 ∧ rwL ν1 (stpN j x l) ∧ ∀ y, y ≠ 340 → ν1 y = ν y := by
  intro j
  induction j with
  | zero =>
    intro n x ν l h1 hn hl
    obtain ⟨m, rfl⟩ : ∃ m, n = m + 1 := ⟨n - 1, by omega⟩
    rw [fX9_layFar_l49, wr_id (a := (x : Int)) (by omega) (by omega), if_pos (by omega)]
    exact ⟨ν, rfl, hl, fun _ _ => rfl⟩
  | succ j ih =>
    intro n x ν l h1 hn hl
    obtain ⟨m, rfl⟩ : ∃ m, n = m + 1 := ⟨n - 1, by omega⟩
    obtain ⟨f1, f2, f3, f4, -⟩ := fw_I x (by omega)
    obtain ⟨l1, l2⟩ := id hl
    have g0 := l2 x (by omega)
    have gf := l2 (fwN x) f2
    have gb := l2 (bkN x) f4
    obtain ⟨m1, m2, m3⟩ := mnN_I N ν (a := l.getD (fwN x) 0) (b := l.getD (bkN x) 0) (by omega) (by omega)
    obtain ⟨k1, k2, k3⟩ := mnN_I N ν (a := l.getD x 0) (b := 1 + mnN (l.getD (fwN x) 0) (l.getD (bkN x) 0)) (by omega) (by omega)
    rw [fX9_layFar_l49, wr_id (a := (x : Int)) (by omega) (by omega), if_neg (by omega), f1, f3, ldA_ok (by omega) (by omega) (by omega), ob_s, ldA_ok (by omega) (by omega) (by omega), ob_s, ldA_ok (by omega) (by omega) (by omega), ob_s, g0.1, gf.1, gb.1, m1, ob_s]
    rw [show (1 + ((mnN (l.getD (fwN x) 0) (l.getD (bkN x) 0) : Nat) : Int)) = ((1 + mnN (l.getD (fwN x) 0) (l.getD (bkN x) 0) : Nat) : Int) by omega, k1, ob_s, stA_ok (by omega) (by omega) (by omega), ob_s]
    obtain ⟨ν1, r1, r2, r3⟩ := ih m (x + 1) (pZ ν 340 x ((mnN (l.getD x 0) (1 + mnN (l.getD (fwN x) 0) (l.getD (bkN x) 0)) : Nat) : Int)) (stp l x) (by omega) (by omega) ⟨by unfold stp; rw [List.length_set]; exact l1, fun y hy => by
      unfold stp
      rw [getD_set (by omega), gZ_pZ (by omega) (by omega)]
      by_cases z : y = x
      · rw [if_pos (by omega), if_pos z, wr_id (by omega) (by omega)]
        exact ⟨rfl, by omega⟩
      · rw [if_neg (by omega), if_neg z]
        exact l2 y hy⟩
    exact ⟨ν1, r1, r2, fun y hy => by rw [r3 y hy, row_pZ hy]⟩
theorem far_r (N : Nat) (hNB : NB N) : ∀ (j n : Nat) (r : Int) (ν : Mm) (l : List Nat), 0 ≤ r → r + j = 8 → j < n → rwL ν l → ∃ ν1, fX9_layFar_l40 N n r ν = some ν1 ∧ rwL ν1 (rndN j l) ∧ ∀ y, y ≠ 340 → ν1 y = ν y := by
  have hN2 : 300 ≤ N := hNB
  intro j
  induction j with
  | zero =>
    intro n r ν l h0 h1 hn hl
    obtain ⟨m, rfl⟩ : ∃ m, n = m + 1 := ⟨n - 1, by omega⟩
    rw [fX9_layFar_l40, wr_id (a := r) (by omega) (by omega), if_pos (by omega)]
    exact ⟨ν, rfl, hl, fun _ _ => rfl⟩
  | succ j ih =>
    intro n r ν l h0 h1 hn hl
    obtain ⟨m, rfl⟩ : ∃ m, n = m + 1 := ⟨n - 1, by omega⟩
    obtain ⟨ν1, r1, r2, r3⟩ := far_i N r (fX9_layFar_l40 N m) 20 N 0 ν l (by omega) (by omega) hl
    obtain ⟨ν2, s1, s2, s3⟩ := ih m (r + 1) ν1 (stpN 20 0 l) (by omega) (by omega) (by omega) r2
    rw [fX9_layFar_l40, wr_id (a := r) (by omega) (by omega), if_neg (by omega)]
    rw [show ((0 : Nat) : Int) = 0 from rfl] at r1
    rw [r1]
    exact ⟨ν2, s1, s2, fun y hy => by rw [s3 y hy, r3 y hy]⟩
theorem shB_row {μ ν : Mm} {C : Int} {s : Nat} {k on : Int} (h3 : ν 333 = μ 333) (h5 : ν 335 = μ 335) : shB ν C s k on = shB μ C s k on := by
  unfold shB
  congr 1
  funext c
  unfold pS vS
  rw [gZ_row h3, gZ_row h3, gZ_row h5]
theorem far_s (N : Nat) (hNB : NB N) {μ : Mm} (hC : 0 ≤ gI μ 332 6 ∧ gI μ 332 6 ≤ 8) {s : Nat} (hs : s < 2147483648) (k : Int) : ∀ (j n x : Nat) (ν : Mm), x + j = 20 → j < n → (∀ y, y ≠ 340 → ν y = μ y) → (∀ i : Nat, i < x → gZ ν 340 i = if shB μ (gI μ 332 6) s k ((i % 5 : Nat) : Int) then 0 else 99) → ∃ ν1, fX9_layFar_l2 N s k n (x : Int) ν = fX9_layFar_k38 N ν1 ∧ (∀ y, y ≠ 340 → ν1 y = μ y) ∧ (∀ i : Nat, i < 20 → gZ ν1 340 i = if shB μ (gI μ 332 6) s k ((i % 5 : Nat) : Int) then 0 else 99) := by
  intro j
  induction j with
  | zero =>
    intro n x ν h1 hn hr hv
    obtain ⟨m, rfl⟩ : ∃ m, n = m + 1 := ⟨n - 1, by omega⟩
    rw [fX9_layFar_l2, wr_id (a := (x : Int)) (by omega) (by omega), if_pos (by omega)]
    exact ⟨ν, rfl, hr, fun i hi => hv i (by omega)⟩
  | succ j ih =>
    intro n x ν h1 hn hr hv
    obtain ⟨m, rfl⟩ : ∃ m, n = m + 1 := ⟨n - 1, by omega⟩
    have e6 : gI ν 332 6 = gI μ 332 6 := gI_row (hr 332 (by decide)) 6
    rw [fX9_layFar_l2, wr_id (a := (x : Int)) (by omega) (by omega), if_neg (by omega), (fw_I x (by omega)).2.2.2.2, r_all N hNB (by rw [e6]; exact hC) hs k (by omega), ob_s, shB_row (hr 333 (by decide)) (hr 335 (by decide)), e6]
    unfold fX9_layFar_j31
    have go : ∀ v : Int, 0 ≤ v → v ≤ 99 → v = (if shB μ (gI μ 332 6) s k ((x % 5 : Nat) : Int) then 0 else 99) → ∃ ν1, fX9_layFar_l2 N s k m ((x : Int) + 1) (pZ ν 340 x v) = fX9_layFar_k38 N ν1 ∧ (∀ y, y ≠ 340 → ν1 y = μ y) ∧ (∀ i : Nat, i < 20 → gZ ν1 340 i = if shB μ (gI μ 332 6) s k ((i % 5 : Nat) : Int) then 0 else 99) := by
      intro v v0 v1 hv2
      refine ih m (x + 1) (pZ ν 340 x v) (by omega) (by omega) (fun y hy => by rw [row_pZ hy]; exact hr y hy) (fun i hi => ?_)
      rw [gZ_pZ (by omega) (by omega)]
      by_cases z : i = x
      · rw [if_pos (by omega), wr_id (by omega) (by omega), hv2, z]
      · rw [if_neg (by omega)]
        exact hv i (by omega)
    cases hb : shB μ (gI μ 332 6) s k ((x % 5 : Nat) : Int) with
    | false =>
      rw [if_pos (by decide), stA_ok (by omega) (by omega) (by omega), ob_s]
      exact go 99 (by decide) (by decide) (by rw [hb]; rfl)
    | true =>
      rw [if_neg (by decide), stA_ok (by omega) (by omega) (by omega), ob_s]
      exact go 0 (by decide) (by decide) (by rw [hb]; rfl)
def b5 (μ : Mm) (s : Nat) (k : Int) (f : Bool → Bool → Bool → Bool → Bool → Nat) : Nat := f (shB μ (gI μ 332 6) s k 0) (shB μ (gI μ 332 6) s k 1) (shB μ (gI μ 332 6) s k 2) (shB μ (gI μ 332 6) s k 3) (shB μ (gI μ 332 6) s k 4)
theorem r_far (N : Nat) (hNB : NB N) {μ : Mm} (hC : 0 ≤ gI μ 332 6 ∧ gI μ 332 6 ≤ 8) {s : Nat} (hs : s < 2147483648) (k : Int) : ∃ ν, fX9_layFar N s k μ = some ν ∧ (∀ y, y ≠ 340 → ν y = μ y) ∧ ∀ x : Nat, x < 20 → gZ ν 340 x = ((b5 μ s k (fun b0 b1 b2 b3 b4 => (farB b0 b1 b2 b3 b4).getD x 0) : Nat) : Int) ∧ b5 μ s k (fun b0 b1 b2 b3 b4 => (farB b0 b1 b2 b3 b4).getD x 0) ≤ 99 := by
  have hN2 : 300 ≤ N := hNB
  obtain ⟨ν1, r1, r2, r3⟩ := far_s N hNB hC hs k 20 N 0 μ (by omega) (by omega) (fun _ _ => rfl) (fun i hi => by omega)
  have hl : rwL ν1 (iniB (shB μ (gI μ 332 6) s k 0) (shB μ (gI μ 332 6) s k 1) (shB μ (gI μ 332 6) s k 2) (shB μ (gI μ 332 6) s k 3) (shB μ (gI μ 332 6) s k 4)) := by
    refine ⟨rfl, fun x hx => ?_⟩
    rw [ini_ok _ _ _ _ _ x hx, r3 x hx]
    have e : pk5 (shB μ (gI μ 332 6) s k 0) (shB μ (gI μ 332 6) s k 1) (shB μ (gI μ 332 6) s k 2) (shB μ (gI μ 332 6) s k 3) (shB μ (gI μ 332 6) s k 4) (x % 5) = shB μ (gI μ 332 6) s k ((x % 5 : Nat) : Int) := by
      rcases (show x % 5 = 0 ∨ x % 5 = 1 ∨ x % 5 = 2 ∨ x % 5 = 3 ∨ x % 5 = 4 by omega) with h | h | h | h | h <;> rw [h] <;> rfl
    rw [e]
    cases shB μ (gI μ 332 6) s k ((x % 5 : Nat) : Int) with
    | false => exact ⟨rfl, by decide⟩
    | true => exact ⟨rfl, by decide⟩
  obtain ⟨ν2, s1, s2, s3⟩ := far_r N hNB 8 N 0 ν1 _ (by omega) (by omega) (by omega) hl
  refine ⟨ν2, ?_, fun y hy => by rw [s3 y hy, r2 y hy], fun x hx => s2.2 x hx⟩
  unfold fX9_layFar
  rw [show ((0 : Nat) : Int) = 0 from rfl] at r1
  rw [r1]
  exact s1
