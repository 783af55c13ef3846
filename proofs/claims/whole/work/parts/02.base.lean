/-! THE WORLD: one flat memory (relative address, slot or index) for all cells of the class and of the reference; how values are written; what a method may ask of it -/
abbrev Mm := Nat → Nat → Int32
abbrev CS := ClassId × ClassId × ClassId × ClassId
def wr (a : Int) : Int := (a + 2147483648) % 4294967296 - 2147483648
def wL (a : Int) : Int := (a + 9223372036854775808) % 18446744073709551616 - 9223372036854775808
def jI (e : Int) : Value := .int (Int32.ofInt e)
def jL (e : Int) : Value := .long (Int64.ofInt e)
def jR (b a : Nat) : Value := .ref (b + a)
def jN (b : Nat) (e : Int) : Value := if e < 0 then .null else .ref (b + e.toNat)
def gI (μ : Mm) (a k : Nat) : Int := (μ a k).toInt
def sM (μ : Mm) (a : Nat) (g : Nat → Int32) : Mm := fun x => if x = a then g else μ x
def pI (μ : Mm) (a k : Nat) (v : Int) : Mm := sM μ a (upd (μ a) k (Int32.ofInt v))
def ldA (μ : Mm) (a n : Nat) (i : Int) : Option Int := if 0 ≤ wr i ∧ wr i < n then some (gI μ a (wr i).toNat) else none
def ckI (n : Nat) (i : Int) : Option Int := if 0 ≤ wr i ∧ wr i < n then some (wr i) else none
def stA (μ : Mm) (a n : Nat) (i v : Int) : Option Mm := if 0 ≤ wr i ∧ wr i < n then some (pI μ a (wr i).toNat v) else none
def cpA (μ : Mm) (a n c k : Nat) (sp dp z : Int) : Option Mm := if (0 ≤ wr sp ∧ 0 ≤ wr dp ∧ 0 ≤ wr z) ∧ (wr sp + wr z ≤ n ∧ wr dp + wr z ≤ k) then some (sM μ c (va_cpy (μ a) (μ c) (wr sp).toNat (wr dp).toNat (wr z).toNat)) else none
def kdL : List Nat := [6, 3, 1240, 5, 1008, 1008, 1008, 1008, 1008, 1008, 1008, 1192, 5, 1008, 1008, 1008, 1008, 1008, 1008, 1008, 1192, 0, 51, 5, 1008, 1008, 1008, 1008, 1008, 1008, 1008, 1192, 5, 1008, 1008, 1008, 1008, 1008, 1008, 1008, 1192, 5, 1008, 1008, 1008, 1008, 1008, 1008, 1008, 1192, 5, 1008, 1008, 1008, 1008, 1008, 1008, 1008, 1192, 5, 1008, 1008, 1008, 1008, 1008, 1008, 1008, 1192, 5, 1008, 1008, 1008, 1008, 1008, 1008, 1008, 1192, 5, 1008, 1008, 1008, 1008, 1008, 1008, 1008, 1192, 5, 1008, 1008, 1008, 1008, 1008, 1008, 1008, 1192, 5, 1008, 1008, 1008, 1008, 1008, 1008, 1008, 1192, 5, 1008, 1008, 1008, 1008, 1008, 1008, 1008, 1192, 5, 1008, 1008, 1008, 1008, 1008, 1008, 1008, 1192, 5, 1008, 1008, 1008, 1008, 1008, 1008, 1008, 1192, 5, 1008, 1008, 1008, 1008, 1008, 1008, 1008, 1192, 5, 1008, 1008, 1008, 1008, 1008, 1008, 1008, 1192, 5, 1008, 1008, 1008, 1008, 1008, 1008, 1008, 1192, 5, 1008, 1008, 1008, 1008, 1008, 1008, 1008, 1192, 5, 1008, 1008, 1008, 1008, 1008, 1008, 1008, 1192, 5, 1008, 1008, 1008, 1008, 1008, 1008, 1008, 1192, 5, 1008, 1008, 1008, 1008, 1008, 1008, 1008, 1192, 5, 1008, 1008, 1008, 1008, 1008, 1008, 1008, 1192, 5, 1008, 1008, 1008, 1008, 1008, 1008, 1008, 1192, 5, 1008, 1008, 1008, 1008, 1008, 1008, 1008, 1192, 5, 1008, 1008, 1008, 1008, 1008, 1008, 1008, 1192, 5, 1008, 1008, 1008, 1008, 1008, 1008, 1008, 1192, 5, 1008, 1008, 1008, 1008, 1008, 1008, 1008, 1192, 5, 1008, 1008, 1008, 1008, 1008, 1008, 1008, 1192, 5, 1008, 1008, 1008, 1008, 1008, 1008, 1008, 1192, 5, 1008, 1008, 1008, 1008, 1008, 1008, 1008, 1192, 5, 1008, 1008, 1008, 1008, 1008, 1008, 1008, 1192, 5, 1008, 1008, 1008, 1008, 1008, 1008, 1008, 1192, 2, 1008, 1008, 1008, 1020, 1020, 52, 4, 1032, 1008, 1008, 1004, 1008, 4, 1032, 1008, 1008, 1004, 1008, 1, 5, 1008, 1008, 1008, 1008, 1008, 1008, 1008, 1192, 1, 5, 1008, 1008, 1008, 1008, 1008, 1008, 1008, 1192, 7, 9262, 50, 1064, 1016, 1008, 1008, 1240, 1020, 1008, 1008, 1008, 1020, 1020]
def kd (a : Nat) : Nat := kdL.getD a 99
def flds (b ci a : Nat) (g : Nat → Int32) : List Value := match ci with
  | 0 => [.ref (b + (a + 1)), .int (g 1), .int (g 2)]
  | 1 => [.ref (b + (a + 1)), .long (g 1).toInt64, .int (g 2)]
  | 2 => [.ref (b + (a + 1)), .ref (b + (a + 2)), .ref (b + (a + 3)), .ref (b + (a + 4)), .ref (b + (a + 5)), .int (g 5), .int (g 6)]
  | 3 => [.ref (b + (a + 1)), .int (g 1), .int (g 2), .int (g 3), .int (g 4), .int (g 5)]
  | 4 => [.ref (b + (a + 1)), .ref (b + (a + 2)), .ref (b + (a + 3)), .ref (b + (a + 4)), .ref (b + (a + 5)), .int (g 5), .int (g 6), .int (g 7), .int (g 8)]
  | 5 => [.ref (b + (a + 1)), .ref (b + (a + 2)), .ref (b + (a + 3)), .ref (b + (a + 4)), .ref (b + (a + 5)), .ref (b + (a + 6)), .ref (b + (a + 7)), .ref (b + (a + 8)), .int (g 8)]
  | 6 => [.ref (b + (a + 1)), .ref (b + (a + 3)), .ref (b + (a + 12)), .ref (b + (a + 21)), .ref (b + (a + 293)), .ref (b + (a + 299)), .ref (b + (g 6).toInt.toNat), .ref (b + (g 7).toInt.toNat), .long (g 8).toInt64]
  | _ => [.ref (b + (a + 1)), .ref (b + (a + 2)), .int (g 2), .int (g 3), .ref (b + (a + 3)), .ref (b + (a + 4)), .int (g 6), .int (g 7), .ref (b + (a + 5)), .int (g 9), .int (g 10), .ref (b + (a + 6)), .ref (b + (a + 7)), .int (g 13), .int (g 14), .int (g 15), .int (g 16), .int (g 17), .int (g 18), .ref (b + (a + 8)), .ref (b + (a + 9)), .ref (b + (a + 10)), .ref (b + (a + 11)), .int (g 23), .ref (b + (a + 12)), .ref (b + (a + 13)), .int (g 26)]
def layc (b : Nat) (cs : CS) (a : Nat) (g : Nat → Int32) : va_E :=
  if kd a < 8 then .inr (kd a, flds b (kd a) a g) else
  if kd a = 50 then .inl (cs.2.1, 2, .inl g) else
  if kd a = 51 then .inl (cs.2.2.1, 30, .inr (.inr (.inr (.inr (fun i => some (b + (23 + 9 * i))))))) else
  if kd a = 52 then .inl (cs.2.2.2, 2, .inr (.inr (.inr (.inr (fun i => some (b + (312 + 10 * i))))))) else
  .inl (cs.1, kd a - 1000, .inl g)
def wl (b : Nat) (cs : CS) (μ : Mm) : va_W := (List.range 346).map (fun a => (b + a, layc b cs a (μ a)))
def tyl (cs : CS) : List (ClassId × FieldType) := [(cs.1, .int), (cs.2.1, .boolean), (cs.2.2.1, .object "CardBand$Weave"), (cs.2.2.2, .object "CardBand$Image")]
def bA (b : Nat) : Nat → Prop := fun q => b ≤ q
theorem kd_lt {a : Nat} (h : kd a ≠ 99) : a < 346 := by
  rcases Nat.lt_or_ge a 346 with q | q
  · exact q
  · exact absurd (by have e : kdL.length = 346 := by decide +kernel
                     rw [kd, List.getD_eq_getElem?_getD, List.getElem?_eq_none (by rw [e]; exact q)]; rfl) h
theorem wl_at (b : Nat) (cs : CS) (μ : Mm) {a : Nat} (h : a < 346) : (wl b cs μ)[a]? = some (b + a, layc b cs a (μ a)) := by
  simp [wl, List.getElem?_range, h]
theorem wl_set (b : Nat) (cs : CS) (μ : Mm) {a : Nat} (h : a < 346) (g : Nat → Int32) : (wl b cs μ).set a (b + a, layc b cs a g) = wl b cs (sM μ a g) := by
  apply List.ext_getElem?
  intro i
  rcases Nat.lt_or_ge i 346 with q | q
  · rw [wl_at b cs (sM μ a g) q, List.getElem?_set]
    by_cases e : a = i
    · subst e
      rw [if_pos rfl, if_pos (by simpa [wl] using h)]
      simp [sM]
    · rw [if_neg e, wl_at b cs μ q]
      simp [sM, Ne.symm e]
  · rw [List.getElem?_eq_none (by simpa [wl] using q), List.getElem?_eq_none (by simpa [wl] using q)]
theorem wl_D (b : Nat) (cs : CS) (μ : Mm) : va_D (bA b) (wl b cs μ) := by
  have key : ∀ (i : Nat) (p : Nat × va_E), (wl b cs μ)[i]? = some p → i < 346 ∧ p.1 = b + i := by
    intro i p hp
    rcases Nat.lt_or_ge i 346 with q | q
    · rw [wl_at b cs μ q] at hp
      cases hp
      exact ⟨q, rfl⟩
    · rw [List.getElem?_eq_none (by simpa [wl] using q)] at hp
      cases hp
  refine ⟨fun i j p q hi hj hpq => ?_, fun k q hk => ?_⟩
  · have h1 := (key i p hi).2
    have h2 := (key j q hj).2
    omega
  · have h1 := (key k q hk).2
    show b ≤ q.1
    omega
theorem wr_eq (a : Int) : (Int32.ofInt a).toInt = wr a := by
  rw [Int32.toInt_ofInt]
  simp only [Int.bmod, wr, Int32.size]
  split <;> omega
theorem wL_eq (a : Int) : (Int64.ofInt a).toInt = wL a := by
  rw [Int64.toInt_ofInt]
  simp only [Int.bmod, wL, Int64.size]
  split <;> omega
theorem wr_id {a : Int} (h1 : -2147483648 ≤ a) (h2 : a < 2147483648) : wr a = a := by unfold wr; omega
theorem wL_id {a : Int} (h1 : -9223372036854775808 ≤ a) (h2 : a < 9223372036854775808) : wL a = a := by unfold wL; omega
theorem wr_lo (a : Int) : -2147483648 ≤ wr a := by unfold wr; omega
theorem wr_hi (a : Int) : wr a < 2147483648 := by unfold wr; omega
theorem wr_wr (a : Int) : wr (wr a) = wr a := wr_id (wr_lo a) (wr_hi a)
theorem o32_wr (a : Int) : Int32.ofInt (wr a) = Int32.ofInt a := by
  apply Int32.toInt_inj.mp
  rw [wr_eq, wr_eq, wr_wr]
theorem gI_lo (μ : Mm) (a k : Nat) : -2147483648 ≤ gI μ a k := Int32.le_toInt _
theorem gI_hi (μ : Mm) (a k : Nat) : gI μ a k < 2147483648 := Int32.toInt_lt _
theorem wr_gI (μ : Mm) (a k : Nat) : wr (gI μ a k) = gI μ a k := wr_id (gI_lo μ a k) (gI_hi μ a k)
theorem jI_g (μ : Mm) (a k : Nat) : jI (gI μ a k) = .int (μ a k) := by
  unfold jI gI
  rw [Int32.ofInt_toInt]
theorem jI_i (x : Int32) : jI x.toInt = .int x := by
  unfold jI
  rw [Int32.ofInt_toInt]
theorem jI_wr (a : Int) : jI (wr a) = jI a := by
  unfold jI
  rw [o32_wr]
theorem i32_inj {a b : Int} : Int32.ofInt a = Int32.ofInt b ↔ wr a = wr b := by
  rw [← Int32.toInt_inj, wr_eq, wr_eq]
theorem i32_lt {a b : Int} : Int32.ofInt a < Int32.ofInt b ↔ wr a < wr b := by
  rw [Int32.lt_iff_toInt_lt, wr_eq, wr_eq]
theorem i32_le {a b : Int} : Int32.ofInt a ≤ Int32.ofInt b ↔ wr a ≤ wr b := by
  rw [Int32.le_iff_toInt_le, wr_eq, wr_eq]
theorem i32_0 : (0 : Int32) = Int32.ofInt 0 := by decide
theorem i32_cl {a : Int} (h : 0 ≤ wr a) : (Int32.ofInt a).toNatClampNeg = (wr a).toNat := by
  rw [Int32.toNatClampNeg, wr_eq]
theorem vp_in_w {a : Int} {n : Nat} (h : 0 ≤ wr a ∧ wr a < n) : vp_in (Int32.ofInt a) n := by
  rw [vp_in_iff, wr_eq]
  exact h
def shlI (a b : Int) : Int := (Int32.ofInt a <<< (Int32.ofInt b &&& 31)).toInt
def shrI (a b : Int) : Int := (Int32.ofInt a >>> (Int32.ofInt b &&& 31)).toInt
def ushI (a b : Int) : Int := ((Int32.ofInt a).toUInt32 >>> ((Int32.ofInt b).toUInt32 &&& Int32.toUInt32 31)).toInt32.toInt
def andI (a b : Int) : Int := (Int32.ofInt a &&& Int32.ofInt b).toInt
def orI (a b : Int) : Int := (Int32.ofInt a ||| Int32.ofInt b).toInt
def xorI (a b : Int) : Int := (Int32.ofInt a ^^^ Int32.ofInt b).toInt
def dvI (a b : Int) : Int := (wr a).tdiv (wr b)
def rmI (a b : Int) : Int := (wr a).tmod (wr b)
def dvL (a b : Int) : Int := (wL a).tdiv (wL b)
def rmL (a b : Int) : Int := (wL a).tmod (wL b)
def lcI (a b : Int) : Int := if wL a < wL b then -1 else if wL a = wL b then 0 else 1
theorem o32_div (a b : Int) : Int32.ofInt a / Int32.ofInt b = Int32.ofInt (dvI a b) := by
  apply Int32.toInt_inj.mp
  rw [Int32.toInt_div, wr_eq, wr_eq, Int32.toInt_ofInt]
  rfl
theorem o64_div (a b : Int) : Int64.ofInt a / Int64.ofInt b = Int64.ofInt (dvL a b) := by
  apply Int64.toInt_inj.mp
  rw [Int64.toInt_div, wL_eq, wL_eq, Int64.toInt_ofInt]
  rfl
