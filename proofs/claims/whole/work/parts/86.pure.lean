/-! PURE: reading the flat memory; loops; nothing of the machine from here on -/
def gZ (μ : Mm) (a : Nat) (i : Int) : Int := gI μ a i.toNat
def pZ (μ : Mm) (a : Nat) (i v : Int) : Mm := pI μ a i.toNat v
theorem ldA_ok {μ : Mm} {a n : Nat} {i : Int} (h0 : 0 ≤ i) (h1 : i < (n : Int)) (h2 : i < 2147483648) : ldA μ a n i = some (gZ μ a i) := by
  unfold ldA gZ
  rw [wr_id (by omega) h2, if_pos ⟨h0, h1⟩]
theorem stA_ok {μ : Mm} {a n : Nat} {i v : Int} (h0 : 0 ≤ i) (h1 : i < (n : Int)) (h2 : i < 2147483648) : stA μ a n i v = some (pZ μ a i v) := by
  unfold stA pZ
  rw [wr_id (by omega) h2, if_pos ⟨h0, h1⟩]
theorem ckI_ok {n : Nat} {i : Int} (h0 : 0 ≤ i) (h1 : i < (n : Int)) (h2 : i < 2147483648) : ckI n i = some i := by
  unfold ckI
  rw [wr_id (by omega) h2, if_pos ⟨h0, h1⟩]
theorem gI_pI (μ : Mm) (a k : Nat) (v : Int) (a2 k2 : Nat) : gI (pI μ a k v) a2 k2 = if a2 = a ∧ k2 = k then wr v else gI μ a2 k2 := by
  unfold pI sM gI upd
  by_cases h1 : a2 = a
  · subst h1
    by_cases h2 : k2 = k
    · subst h2
      simp only [↓reduceIte, and_self, wr_eq]
    · simp [h2]
  · simp [h1]
theorem gI_pI_s (μ : Mm) (a k : Nat) (v : Int) : gI (pI μ a k v) a k = wr v := by rw [gI_pI, if_pos ⟨rfl, rfl⟩]
theorem gI_pI_a {μ : Mm} {a k a2 k2 : Nat} {v : Int} (h : a2 ≠ a) : gI (pI μ a k v) a2 k2 = gI μ a2 k2 := by rw [gI_pI, if_neg (fun q => h q.1)]
theorem gI_pI_k {μ : Mm} {a k k2 : Nat} {v : Int} (h : k2 ≠ k) : gI (pI μ a k v) a k2 = gI μ a k2 := by rw [gI_pI, if_neg (fun q => h q.2)]
theorem gZ_pI_a {μ : Mm} {a k a2 : Nat} {v i : Int} (h : a2 ≠ a) : gZ (pI μ a k v) a2 i = gZ μ a2 i := gI_pI_a h
theorem gI_pZ_a {μ : Mm} {a a2 k2 : Nat} {v i : Int} (h : a2 ≠ a) : gI (pZ μ a i v) a2 k2 = gI μ a2 k2 := gI_pI_a h
theorem gZ_pZ_a {μ : Mm} {a a2 : Nat} {v i j : Int} (h : a2 ≠ a) : gZ (pZ μ a i v) a2 j = gZ μ a2 j := gI_pI_a h
theorem gZ_pZ {μ : Mm} {a : Nat} {v i j : Int} (hi : 0 ≤ i) (hj : 0 ≤ j) : gZ (pZ μ a i v) a j = if j = i then wr v else gZ μ a j := by
  unfold gZ pZ
  rw [gI_pI]
  by_cases h : j = i
  · rw [if_pos ⟨rfl, by rw [h]⟩, if_pos h]
  · rw [if_neg (fun q => h (by omega)), if_neg h]
theorem gZ_pZ_s {μ : Mm} {a : Nat} {v i : Int} : gZ (pZ μ a i v) a i = wr v := gI_pI_s _ _ _ _
theorem gZ_pZ_n {μ : Mm} {a : Nat} {v i j : Int} (hi : 0 ≤ i) (hj : 0 ≤ j) (h : j ≠ i) : gZ (pZ μ a i v) a j = gZ μ a j := by rw [gZ_pZ hi hj, if_neg h]
theorem wr_gZ (μ : Mm) (a : Nat) (i : Int) : wr (gZ μ a i) = gZ μ a i := wr_gI _ _ _
theorem gZ_lo (μ : Mm) (a : Nat) (i : Int) : -2147483648 ≤ gZ μ a i := gI_lo _ _ _
theorem gZ_hi (μ : Mm) (a : Nat) (i : Int) : gZ μ a i < 2147483648 := gI_hi _ _ _
theorem gd_t {β : Type} {q : Bool} {k : Option β} (h : q = true) : gd q k = k := by unfold gd; rw [if_pos h]
theorem gd_p {β : Type} {q : Prop} {_ : Decidable q} {k : Option β} (h : q) : gd (decide q) k = k := gd_t (decide_eq_true h)
theorem bP_s {β : Type} (v : Int) (μ : Mm) (k : Int → Mm → Option β) : bP (some (v, μ)) k = k v μ := rfl
theorem ob_s {α β : Type} (v : α) (k : α → Option β) : Option.bind (some v) k = k v := rfl
theorem wL_wr (a : Int) : wL (wr a) = wr a := wL_id (by have := wr_lo a; omega) (by have := wr_hi a; omega)
/-- a loop that counts up to B, its state a function of the counter -/
theorem loopN {σ R : Type} (L : Nat → Int → σ → R) (K : R) (B : Nat) (S : Nat → σ) (h1 : ∀ n k, k < B → L (n + 1) (k : Int) (S k) = L n ((k : Int) + 1) (S (k + 1))) (h2 : ∀ n, L (n + 1) (B : Int) (S B) = K) : ∀ (n k : Nat), k ≤ B → B < n + k → L n (k : Int) (S k) = K := by
  intro n
  induction n with
  | zero => intro k h3 h4; omega
  | succ n ih =>
    intro k h3 h4
    by_cases h : k = B
    · rw [h]; exact h2 n
    · rw [h1 n k (by omega)]
      exact ih (k + 1) (by omega) (by omega)
/-- a loop that may answer before its end -/
theorem loopE {σ R : Type} (L : Nat → Int → σ → R) (K : R) (E : Nat → R) (B : Nat) (S : Nat → σ) (c : Nat → Bool) (h1 : ∀ n k, k < B → c k = false → L (n + 1) (k : Int) (S k) = L n ((k : Int) + 1) (S (k + 1))) (h3 : ∀ n k, k < B → c k = true → L (n + 1) (k : Int) (S k) = E k) (h2 : ∀ n, L (n + 1) (B : Int) (S B) = K) (P : R → Prop) (hE : ∀ k, k < B → c k = true → (∀ j, j < k → c j = false) → P (E k)) (hK : (∀ j, j < B → c j = false) → P K) : ∀ (n k : Nat), k ≤ B → B < n + k → (∀ j, j < k → c j = false) → P (L n (k : Int) (S k)) := by
  intro n
  induction n with
  | zero => intro k h3 h4; omega
  | succ n ih =>
    intro k h4 h5 h6
    by_cases h : k = B
    · subst h; rw [h2 n]; exact hK h6
    · cases hc : c k with
      | true => rw [h3 n k (by omega) hc]; exact hE k (by omega) hc h6
      | false =>
        rw [h1 n k (by omega) hc]
        exact ih (k + 1) (by omega) (by omega) (fun j hj => by
          rcases Nat.lt_or_ge j k with q | q
          · exact h6 j q
          · rw [show j = k by omega]; exact hc)
/-- bounds that numbers of the answers share -/
def NB (N : Nat) : Prop := 300 ≤ N
theorem p_in (N : Nat) (a lo hi : Int) (μ : Mm) (h1 : -9223372036854775808 ≤ a ∧ a < 9223372036854775808) (h2 : -9223372036854775808 ≤ lo ∧ lo < 9223372036854775808) (h3 : -9223372036854775808 ≤ hi ∧ hi < 9223372036854775808) : fX9_in N a lo hi μ = some (if lo ≤ a ∧ a ≤ hi then 1 else 0) := by
  unfold fX9_in lcI
  rw [wL_id h1.1 h1.2, wL_id h2.1 h2.2, wL_id h3.1 h3.2]
  by_cases q1 : a < lo
  · rw [if_pos q1, if_pos (by decide), if_neg (by omega)]
  · rw [if_neg q1]
    have e1 : ¬ wr (if a = lo then 0 else 1) < 0 := by split <;> decide
    rw [if_neg e1]
    by_cases q2 : a < hi
    · rw [if_pos q2, if_neg (by decide), if_pos (by omega)]
    · rw [if_neg q2]
      by_cases q3 : a = hi
      · rw [if_pos q3, if_neg (by decide), if_pos (by omega)]
      · rw [if_neg q3, if_pos (by decide), if_neg (by omega)]
theorem p_isCard (N : Nat) (c : Int) (μ : Mm) (h : 0 ≤ gI μ 332 6 ∧ gI μ 332 6 ≤ 8) (hc : -2147483648 ≤ c ∧ c < 2147483648) : fX9_isCard N c μ = some (if 0 ≤ c ∧ c < gI μ 332 6 then 1 else 0) := by
  unfold fX9_isCard
  rw [wr_id hc.1 hc.2, wr_id (by omega) (by omega), p_in N c 0 _ μ (by omega) (by omega) (by omega), ob_s]
  by_cases q : 0 ≤ c ∧ c < gI μ 332 6
  · rw [if_pos q, if_pos (by omega)]; rfl
  · rw [if_neg q, if_neg (by omega)]; rfl
theorem p_isColour (N : Nat) (c : Int) (μ : Mm) (h : 0 ≤ gI μ 332 2 ∧ gI μ 332 2 ≤ 8) (hc : -2147483648 ≤ c ∧ c < 2147483648) : fX9_isColour N c μ = some (if 0 ≤ c ∧ c < gI μ 332 2 then 1 else 0) := by
  unfold fX9_isColour
  rw [wr_id hc.1 hc.2, wr_id (by omega) (by omega), p_in N c 0 _ μ (by omega) (by omega) (by omega), ob_s]
  by_cases q : 0 ≤ c ∧ c < gI μ 332 2
  · rw [if_pos q, if_pos (by omega)]; rfl
  · rw [if_neg q, if_neg (by omega)]; rfl
theorem p_isLoom (N : Nat) (μ : Mm) : fX9_isLoom N μ = some (if 0 < gI μ 332 2 then 1 else 0) := by
  unfold fX9_isLoom
  rw [wr_gI]
  by_cases q : 0 < gI μ 332 2
  · rw [if_pos q, if_neg (by omega)]
  · rw [if_neg q, if_pos (by omega)]
theorem p_hasCard (N : Nat) (t : Nat) (c : Int) (μ : Mm) (hc : -2147483648 ≤ c ∧ c < 2147483648) : fX5_hasCard N t c μ = some (if 0 ≤ c ∧ c < gI μ t 6 then 1 else 0) := by
  unfold fX5_hasCard
  simp only [wr_id hc.1 hc.2, wr_gI]
  by_cases q1 : c < 0
  · rw [if_pos q1, if_neg (by omega)]
  · rw [if_neg q1]
    by_cases q2 : gI μ t 6 ≤ c
    · rw [if_pos q2, if_neg (by omega)]
    · rw [if_neg q2, if_pos (by omega)]
theorem p_hasColour (N : Nat) (t : Nat) (c : Int) (μ : Mm) (hc : -2147483648 ≤ c ∧ c < 2147483648) : fX5_hasColour N t c μ = some (if 0 ≤ c ∧ c < gI μ t 5 then 1 else 0) := by
  unfold fX5_hasColour
  simp only [wr_id hc.1 hc.2, wr_gI]
  by_cases q1 : c < 0
  · rw [if_pos q1, if_neg (by omega)]
  · rw [if_neg q1]
    by_cases q2 : gI μ t 5 ≤ c
    · rw [if_pos q2, if_neg (by omega)]
    · rw [if_neg q2, if_pos (by omega)]
theorem p_isMade (N : Nat) (t : Nat) (μ : Mm) : fX5_isMade N t μ = some (if 0 < gI μ t 5 then 1 else 0) := by
  unfold fX5_isMade
  rw [wr_gI]
  by_cases q : 0 < gI μ t 5
  · rw [if_pos q, if_neg (by omega)]
  · rw [if_neg q, if_pos (by omega)]
/-! bits -/
theorem bv_nat {a : Nat} (h : a < 2147483648) : (Int32.ofInt (a : Int)).toBitVec.toNat = a := by
  rw [Int32.toBitVec_ofInt, BitVec.toNat_ofInt]
  omega
theorem i_bv {x : Int32} (h : x.toBitVec.toNat < 2147483648) : x.toInt = (x.toBitVec.toNat : Int) := by
  show x.toBitVec.toInt = _
  exact BitVec.toInt_eq_toNat_of_lt (by omega)
theorem and_lt2 {a b : Nat} (h : a < 2147483648) : a &&& b < 2147483648 := Nat.lt_of_le_of_lt Nat.and_le_left h
theorem andI_nat {a b : Nat} (ha : a < 2147483648) (hb : b < 2147483648) : andI a b = ((a &&& b : Nat) : Int) := by
  unfold andI
  have e : (Int32.ofInt (a : Int) &&& Int32.ofInt (b : Int)).toBitVec.toNat = a &&& b := by
    rw [Int32.toBitVec_and, BitVec.toNat_and, bv_nat ha, bv_nat hb]
  rw [i_bv (by rw [e]; exact and_lt2 ha), e]
theorem orI_nat {a b : Nat} (ha : a < 2147483648) (hb : b < 2147483648) : orI a b = ((a ||| b : Nat) : Int) := by
  unfold orI
  have e : (Int32.ofInt (a : Int) ||| Int32.ofInt (b : Int)).toBitVec.toNat = a ||| b := by
    rw [Int32.toBitVec_or, BitVec.toNat_or, bv_nat ha, bv_nat hb]
  rw [i_bv (by rw [e]; exact Nat.or_lt_two_pow (n := 31) ha hb), e]
theorem andI_m (a : Int) (k : Nat) (hk : k ≤ 30) : andI a ((2 ^ k - 1 : Nat) : Int) = a % (2 ^ k : Nat) := by
  unfold andI
  have hm : (2 ^ k - 1 : Nat) < 2147483648 := by
    have : 2 ^ k ≤ 2 ^ 30 := Nat.pow_le_pow_right (by decide) hk
    omega
  have e : (Int32.ofInt a &&& Int32.ofInt ((2 ^ k - 1 : Nat) : Int)).toBitVec.toNat = (a % 4294967296).toNat % 2 ^ k := by
    rw [Int32.toBitVec_and, BitVec.toNat_and, bv_nat hm, Nat.and_two_pow_sub_one_eq_mod, Int32.toBitVec_ofInt, BitVec.toNat_ofInt]
    rfl
  have hlt : (a % 4294967296).toNat % 2 ^ k < 2 ^ k := Nat.mod_lt _ (Nat.two_pow_pos k)
  have hk2 : 2 ^ k ≤ 2 ^ 30 := Nat.pow_le_pow_right (by decide) hk
  rw [i_bv (by rw [e]; omega), e]
  have hd : (2 ^ k : Nat) ∣ 4294967296 := ⟨2 ^ (32 - k), by rw [← Nat.pow_add, Nat.add_sub_cancel' (by omega)]⟩
  rw [Int.natCast_emod, Int.toNat_of_nonneg (Int.emod_nonneg _ (by decide))]
  exact Int.emod_emod_of_dvd a (Int.natCast_dvd_natCast.mpr hd)
theorem andI_3 (a : Int) : andI a 3 = a % 4 := andI_m a 2 (by decide)
theorem andI_7 (a : Int) : andI a 7 = a % 8 := andI_m a 3 (by decide)
theorem andI_1 (a : Int) : andI a 1 = a % 2 := andI_m a 1 (by decide)
theorem shrI_nat {s c : Nat} (hs : s < 2147483648) (hc : c < 8) : shrI s c = ((s / 2 ^ c : Nat) : Int) := by
  have key : ∀ (k : Int32) (c : Nat), (k.toBitVec.smod 32).toNat = c → (Int32.ofInt (s : Int) >>> k).toInt = ((s / 2 ^ c : Nat) : Int) := by
    intro k c hk
    rw [pk_shr _ _ c hk, wr_eq, wr_id (by omega) (by omega), Int.shiftRight_eq_div_pow]
    norm_cast
  unfold shrI
  rcases (show c = 0 ∨ c = 1 ∨ c = 2 ∨ c = 3 ∨ c = 4 ∨ c = 5 ∨ c = 6 ∨ c = 7 by omega) with rfl | rfl | rfl | rfl | rfl | rfl | rfl | rfl <;> exact key _ _ (by decide)
theorem has_nat {s c : Nat} (hs : s < 2147483648) (hc : c < 8) : andI (shrI s c) 1 = if s.testBit c then 1 else 0 := by
  rw [shrI_nat hs hc, andI_1, Nat.testBit_eq_decide_div_mod_eq]
  by_cases h : s / 2 ^ c % 2 = 1
  · rw [if_pos (by simpa using h)]; omega
  · rw [if_neg (by simpa using h)]; omega
theorem shl1 {c : Nat} (hc : c ≤ 8) : shlI 1 c = ((2 ^ c : Nat) : Int) := by
  have key : ∀ c, c < 9 → shlI 1 ((c : Nat) : Int) = ((2 ^ c : Nat) : Int) := by decide +kernel
  exact key c (by omega)
theorem p_has (N : Nat) {s c : Nat} (μ : Mm) (hs : s < 2147483648) (hc : c < 8) : fX9_has N s c μ = some (if s.testBit c then 1 else 0) := by
  unfold fX9_has
  rw [has_nat hs hc]
  by_cases h : s.testBit c = true
  · rw [if_pos h, if_pos (by decide)]
  · rw [if_neg h, if_neg (by decide)]
/-! quotients and rests of numbers that are not negative -/
theorem dvI_p {a b : Int} (h0 : 0 ≤ a) (h1 : a < 2147483648) (h2 : 0 < b) (h3 : b < 2147483648) : dvI a b = a / b := by
  unfold dvI
  rw [wr_id (by omega) h1, wr_id (by omega) h3, Int.tdiv_eq_ediv_of_nonneg h0]
theorem rmI_p {a b : Int} (h0 : 0 ≤ a) (h1 : a < 2147483648) (h2 : 0 < b) (h3 : b < 2147483648) : rmI a b = a % b := by
  unfold rmI
  rw [wr_id (by omega) h1, wr_id (by omega) h3, Int.tmod_eq_emod_of_nonneg h0]
theorem xor_nn {a b : Nat} (ha : a < 2147483648) (hb : b < 2147483648) : 0 ≤ wr (xorI a b) := by
  unfold xorI
  have e : (Int32.ofInt (a : Int) ^^^ Int32.ofInt (b : Int)).toBitVec.toNat = a ^^^ b := by
    rw [Int32.toBitVec_xor, BitVec.toNat_xor, bv_nat ha, bv_nat hb]
  rw [i_bv (by rw [e]; exact Nat.xor_lt_two_pow (n := 31) ha hb), e, wr_id (by omega) (by have := Nat.xor_lt_two_pow (n := 31) ha hb; omega)]
  omega
theorem p_floorMod (N : Nat) {a b : Nat} (μ : Mm) (h1 : a < 2147483648) (h2 : 0 < b) (h3 : b < 2147483648) : fJ9_floorMod_7cf53 N a b μ = some ((a : Int) % b) := by
  unfold fJ9_floorMod_7cf53
  have hb : wr (b : Int) = b := wr_id (by omega) (by omega)
  rw [gd_p (by rw [hb]; omega), if_pos (xor_nn h1 h3), rmI_p (by omega) (by omega) (by omega) (by omega)]
def fm30 (y0 y1 : Int) : Option Int := gd (decide (¬ wr y1 = 0)) (if 0 ≤ wr (xorI y0 y1) then (some (rmI y0 y1)) else (if wr (rmI y0 y1) = 0 then (some (rmI y0 y1)) else (some ((rmI y0 y1) + y1))))
theorem fm30_all : ∀ k : Nat, k < 60 → fm30 ((k : Int) - 30) 30 = some (((k : Int) - 30) % 30) := by decide +kernel
theorem p_floorMod30 (N : Nat) {a : Int} (μ : Mm) (h1 : -30 ≤ a) (h2 : a < 30) : fJ9_floorMod_7cf53 N a 30 μ = some (a % 30) := by
  have h := fm30_all (a + 30).toNat (by omega)
  rw [show (((a + 30).toNat : Nat) : Int) - 30 = a by omega] at h
  exact h
