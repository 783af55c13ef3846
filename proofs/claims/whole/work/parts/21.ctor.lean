/-! THE CONSTRUCTORS: what they make is the layout at mZ -/
def mZ : Mm := fun a k => if (a = 1 ∧ k = 5) ∨ (a = 332 ∧ k = 17) then Int32.ofInt (-1) else if a = 0 ∧ k = 6 then 300 else if a = 0 ∧ k = 7 then 306 else 0
def fE (b : Nat) (cs : CS) : Nat → va_E := fun a => layc b cs a (mZ a)
theorem mZ_z {a : Nat} (h0 : a ≠ 0) (h1 : a ≠ 1) (h2 : a ≠ 332) : mZ a = fun _ => 0 := by
  funext k
  simp [mZ, h0, h1, h2]
theorem fE_I {b : Nat} {cs : CS} {a n : Nat} (h : kd a = n + 1000) (h0 : a ≠ 0) (h1 : a ≠ 1) (h2 : a ≠ 332) : fE b cs a = .inl (cs.1, n, .inl (fun _ => 0)) := by
  unfold fE
  rw [lay_I h, mZ_z h0 h1 h2]
theorem fE_Z {b : Nat} {cs : CS} {a : Nat} (h : kd a = 50) (h0 : a ≠ 0) (h1 : a ≠ 1) (h2 : a ≠ 332) : fE b cs a = .inl (cs.2.1, 2, .inl (fun _ => 0)) := by
  unfold fE
  rw [lay_Z h, mZ_z h0 h1 h2]
theorem fE_O {b : Nat} {cs : CS} {a ci : Nat} (h : kd a = ci) (h8 : ci < 8) : fE b cs a = .inr (ci, flds b ci a (mZ a)) := by
  unfold fE layc
  rw [h, if_pos h8]
theorem kd_ne {a ci : Nat} (h : kd a = ci) (h6 : ci ≠ 6) (h3 : ci ≠ 3) (h7 : ci ≠ 7) : a ≠ 0 ∧ a ≠ 1 ∧ a ≠ 332 :=
  ⟨fun q => h6 (by rw [q] at h; exact h.symm), fun q => h3 (by rw [q] at h; exact h.symm), fun q => h7 (by rw [q] at h; exact h.symm)⟩
theorem kd_far5 {a j : Nat} (h : kd a = 5) (hj : j < 9) : a + j ≠ 0 ∧ a + j ≠ 1 ∧ a + j ≠ 332 := by
  have key : ∀ x, x < 346 → kd x = 5 → 2 ≤ x ∧ x + 9 ≤ 332 := by decide +kernel
  have := key a (kd_lt (by omega)) h
  omega
theorem kd_far4 {a j : Nat} (h : kd a = 4) (hj : j < 6) : a + j ≠ 0 ∧ a + j ≠ 1 ∧ a + j ≠ 332 := by
  have key : ∀ x, x < 346 → kd x = 4 → 2 ≤ x ∧ x + 6 ≤ 332 := by decide +kernel
  have := key a (kd_lt (by omega)) h
  omega
theorem kd_far1 {a j : Nat} (h : kd a = 1) (hj : j < 10) : a + j ≠ 0 ∧ a + j ≠ 1 ∧ a + j ≠ 332 := by
  have key : ∀ x, x < 346 → kd x = 1 → 2 ≤ x ∧ x + 10 ≤ 332 := by decide +kernel
  have := key a (kd_lt (by omega)) h
  omega
theorem kd_img {a : Nat} (h : kd a = 1) : kd (a + 1) = 5 := by
  have key : ∀ x, x < 346 → kd x = 1 → kd (x + 1) = 5 := by decide +kernel
  exact key a (kd_lt (by omega)) h
abbrev rmX7_init : Room := { frames := 1, cells := 8, slots := 248, locals := 20 }
set_option maxHeartbeats 4000000 in
set_option maxRecDepth 100000 in
theorem q_X7_init (l : Launch) (D : va_G) (b : Nat) (cs : CS) {a : Nat} (hk : kd a = 5) {F : Nat → va_E} (hF : ∀ x, a ≤ x → x < (a + 9) → F x = fE b cs x) : MG l yX7_init wsX7_init rmX7_init D b cs [jR b a] (sE F a (.inr (5, [.null, .null, .null, .null, .null, .null, .null, .null, .int 0]))) (a + 1) F (a + 9) 8 248 := by
  obtain ⟨hz0, hz1, hz2⟩ := kd_ne hk (by decide) (by decide) (by decide)
  have hzz : ∀ j, j < 9 → a + j ≠ 0 ∧ a + j ≠ 1 ∧ a + j ≠ 332 := fun j hj => kd_far5 hk hj
  obtain ⟨hz0_1, hz1_1, hz2_1⟩ := hzz 1 (by decide)
  obtain ⟨hz0_2, hz1_2, hz2_2⟩ := hzz 2 (by decide)
  obtain ⟨hz0_3, hz1_3, hz2_3⟩ := hzz 3 (by decide)
  obtain ⟨hz0_4, hz1_4, hz2_4⟩ := hzz 4 (by decide)
  obtain ⟨hz0_5, hz1_5, hz2_5⟩ := hzz 5 (by decide)
  obtain ⟨hz0_6, hz1_6, hz2_6⟩ := hzz 6 (by decide)
  obtain ⟨hz0_7, hz1_7, hz2_7⟩ := hzz 7 (by decide)
  obtain ⟨hz0_8, hz1_8, hz2_8⟩ := hzz 8 (by decide)
  refine met_inG (cc := cX7_init) (maxL := 1) (lv0 := [(0, jR b a)]) (by decide +kernel) rfl (Nat.le_of_ble_eq_true rfl) rfl ?_
  intro p e s m args below meth c hx hb hr hlk hml hown hini hts hG hK hN ls hl
  have hown : s.vm.findClass RX7 = some m.cls := hown
  have hini : meth.name = "<init>" := hini
  have hS : va_S (bA b) s.heap s.heap [] := va_S.rf
  have hinX7 : ∀ w ∈ u_ws RX7 TX7 9, w ∈ wsX7_init := by decide +kernel
  refine j_aload_n hx hb dX7_init_0 rfl (lv_at hl 0 rfl) ?_
  refine k_obj hx hb hown (hts (.methodLink RX7 3 objectInit) (by decide +kernel)) (hts (.instanceMethod objectInit) (by decide +kernel)) (hts (.code objectInit ⟨#[0xb1]⟩ 1 none) (by decide +kernel)) hml hl.1 (Nat.le_of_ble_eq_true rfl) dX7_init_1 (Nat.le_of_ble_eq_true rfl) (Nat.le_of_ble_eq_true rfl) ?_
  refine j_aload_n hx hb dX7_init_4 rfl (lv_at hl 0 rfl) ?_
  refine j_bipush hx hb dX7_init_5 (by decide) ?_
  refine k_newa (z := 8) (N := 8) hx hb (hts (.arrayClass .int) (by decide +kernel)) hK hG hS (by rw [sE_n (by omega)]; exact (hF _ (by omega) (by omega)).trans (fE_I (kX7_1 hk) (by omega) (by omega) (by omega))) (by decide +kernel) (by decide +kernel) (Nat.le_of_ble_eq_true rfl) (Nat.le_of_ble_eq_true rfl) (Nat.le_of_ble_eq_true rfl) dX7_init_7 (fun H hG hS => ?_)
  have hG : GW D b (sE F a (.inr (5, [.null, .null, .null, .null, .null, .null, .null, .null, .int 0]))) (a + 2) H := hG
  refine k_putF (ty := .array .int) (v := jR b (a + 1)) (E1 := sE F a (.inr (5, [jR b (a + 1), .null, .null, .null, .null, .null, .null, .null, .int 0]))) hx hb hts hinX7 tyX7 tyX7_ok nmX7 hown hK hG hS (by omega) (sE_s _ _ _) rfl 0 (by decide) (hts (.fieldLink RX7 9 "CardBand$Weave" "ways" "[I") (by decide +kernel)) rfl (Or.inr ⟨rfl, hini, rfl⟩) (by decide +kernel) rfl rfl (Nat.le_of_ble_eq_true rfl) dX7_init_9 (sE_sE _ _ _ _) (fun H locs hG hS => ?_)
  refine j_aload_n hx hb dX7_init_12 rfl (lv_at hl 0 rfl) ?_
  refine j_bipush hx hb dX7_init_13 (by decide) ?_
  refine k_newa (z := 8) (N := 8) hx hb (hts (.arrayClass .int) (by decide +kernel)) hK hG hS (by rw [sE_n (by omega)]; exact (hF _ (by omega) (by omega)).trans (fE_I (kX7_2 hk) (by omega) (by omega) (by omega))) (by decide +kernel) (by decide +kernel) (Nat.le_of_ble_eq_true rfl) (Nat.le_of_ble_eq_true rfl) (Nat.le_of_ble_eq_true rfl) dX7_init_15 (fun H hG hS => ?_)
  have hG : GW D b (sE F a (.inr (5, [jR b (a + 1), .null, .null, .null, .null, .null, .null, .null, .int 0]))) (a + 3) H := hG
  refine k_putF (ty := .array .int) (v := jR b (a + 2)) (E1 := sE F a (.inr (5, [jR b (a + 1), jR b (a + 2), .null, .null, .null, .null, .null, .null, .int 0]))) hx hb hts hinX7 tyX7 tyX7_ok nmX7 hown hK hG hS (by omega) (sE_s _ _ _) rfl 1 (by decide) (hts (.fieldLink RX7 15 "CardBand$Weave" "stands" "[I") (by decide +kernel)) rfl (Or.inr ⟨rfl, hini, rfl⟩) (by decide +kernel) rfl rfl (Nat.le_of_ble_eq_true rfl) dX7_init_17 (sE_sE _ _ _ _) (fun H locs hG hS => ?_)
  refine j_aload_n hx hb dX7_init_20 rfl (lv_at hl 0 rfl) ?_
  refine j_bipush hx hb dX7_init_21 (by decide) ?_
  refine k_newa (z := 8) (N := 8) hx hb (hts (.arrayClass .int) (by decide +kernel)) hK hG hS (by rw [sE_n (by omega)]; exact (hF _ (by omega) (by omega)).trans (fE_I (kX7_3 hk) (by omega) (by omega) (by omega))) (by decide +kernel) (by decide +kernel) (Nat.le_of_ble_eq_true rfl) (Nat.le_of_ble_eq_true rfl) (Nat.le_of_ble_eq_true rfl) dX7_init_23 (fun H hG hS => ?_)
  have hG : GW D b (sE F a (.inr (5, [jR b (a + 1), jR b (a + 2), .null, .null, .null, .null, .null, .null, .int 0]))) (a + 4) H := hG
  refine k_putF (ty := .array .int) (v := jR b (a + 3)) (E1 := sE F a (.inr (5, [jR b (a + 1), jR b (a + 2), jR b (a + 3), .null, .null, .null, .null, .null, .int 0]))) hx hb hts hinX7 tyX7 tyX7_ok nmX7 hown hK hG hS (by omega) (sE_s _ _ _) rfl 2 (by decide) (hts (.fieldLink RX7 18 "CardBand$Weave" "twists" "[I") (by decide +kernel)) rfl (Or.inr ⟨rfl, hini, rfl⟩) (by decide +kernel) rfl rfl (Nat.le_of_ble_eq_true rfl) dX7_init_25 (sE_sE _ _ _ _) (fun H locs hG hS => ?_)
  refine j_aload_n hx hb dX7_init_28 rfl (lv_at hl 0 rfl) ?_
  refine j_bipush hx hb dX7_init_29 (by decide) ?_
  refine k_newa (z := 8) (N := 8) hx hb (hts (.arrayClass .int) (by decide +kernel)) hK hG hS (by rw [sE_n (by omega)]; exact (hF _ (by omega) (by omega)).trans (fE_I (kX7_4 hk) (by omega) (by omega) (by omega))) (by decide +kernel) (by decide +kernel) (Nat.le_of_ble_eq_true rfl) (Nat.le_of_ble_eq_true rfl) (Nat.le_of_ble_eq_true rfl) dX7_init_31 (fun H hG hS => ?_)
  have hG : GW D b (sE F a (.inr (5, [jR b (a + 1), jR b (a + 2), jR b (a + 3), .null, .null, .null, .null, .null, .int 0]))) (a + 5) H := hG
  refine k_putF (ty := .array .int) (v := jR b (a + 4)) (E1 := sE F a (.inr (5, [jR b (a + 1), jR b (a + 2), jR b (a + 3), jR b (a + 4), .null, .null, .null, .null, .int 0]))) hx hb hts hinX7 tyX7 tyX7_ok nmX7 hown hK hG hS (by omega) (sE_s _ _ _) rfl 3 (by decide) (hts (.fieldLink RX7 21 "CardBand$Weave" "shows" "[I") (by decide +kernel)) rfl (Or.inr ⟨rfl, hini, rfl⟩) (by decide +kernel) rfl rfl (Nat.le_of_ble_eq_true rfl) dX7_init_33 (sE_sE _ _ _ _) (fun H locs hG hS => ?_)
  refine j_aload_n hx hb dX7_init_36 rfl (lv_at hl 0 rfl) ?_
  refine j_bipush hx hb dX7_init_37 (by decide) ?_
  refine k_newa (z := 8) (N := 8) hx hb (hts (.arrayClass .int) (by decide +kernel)) hK hG hS (by rw [sE_n (by omega)]; exact (hF _ (by omega) (by omega)).trans (fE_I (kX7_5 hk) (by omega) (by omega) (by omega))) (by decide +kernel) (by decide +kernel) (Nat.le_of_ble_eq_true rfl) (Nat.le_of_ble_eq_true rfl) (Nat.le_of_ble_eq_true rfl) dX7_init_39 (fun H hG hS => ?_)
  have hG : GW D b (sE F a (.inr (5, [jR b (a + 1), jR b (a + 2), jR b (a + 3), jR b (a + 4), .null, .null, .null, .null, .int 0]))) (a + 6) H := hG
  refine k_putF (ty := .array .int) (v := jR b (a + 5)) (E1 := sE F a (.inr (5, [jR b (a + 1), jR b (a + 2), jR b (a + 3), jR b (a + 4), jR b (a + 5), .null, .null, .null, .int 0]))) hx hb hts hinX7 tyX7 tyX7_ok nmX7 hown hK hG hS (by omega) (sE_s _ _ _) rfl 4 (by decide) (hts (.fieldLink RX7 24 "CardBand$Weave" "slants" "[I") (by decide +kernel)) rfl (Or.inr ⟨rfl, hini, rfl⟩) (by decide +kernel) rfl rfl (Nat.le_of_ble_eq_true rfl) dX7_init_41 (sE_sE _ _ _ _) (fun H locs hG hS => ?_)
  refine j_aload_n hx hb dX7_init_44 rfl (lv_at hl 0 rfl) ?_
  refine j_bipush hx hb dX7_init_45 (by decide) ?_
  refine k_newa (z := 8) (N := 8) hx hb (hts (.arrayClass .int) (by decide +kernel)) hK hG hS (by rw [sE_n (by omega)]; exact (hF _ (by omega) (by omega)).trans (fE_I (kX7_6 hk) (by omega) (by omega) (by omega))) (by decide +kernel) (by decide +kernel) (Nat.le_of_ble_eq_true rfl) (Nat.le_of_ble_eq_true rfl) (Nat.le_of_ble_eq_true rfl) dX7_init_47 (fun H hG hS => ?_)
  have hG : GW D b (sE F a (.inr (5, [jR b (a + 1), jR b (a + 2), jR b (a + 3), jR b (a + 4), jR b (a + 5), .null, .null, .null, .int 0]))) (a + 7) H := hG
  refine k_putF (ty := .array .int) (v := jR b (a + 6)) (E1 := sE F a (.inr (5, [jR b (a + 1), jR b (a + 2), jR b (a + 3), jR b (a + 4), jR b (a + 5), jR b (a + 6), .null, .null, .int 0]))) hx hb hts hinX7 tyX7 tyX7_ok nmX7 hown hK hG hS (by omega) (sE_s _ _ _) rfl 5 (by decide) (hts (.fieldLink RX7 27 "CardBand$Weave" "yarns" "[I") (by decide +kernel)) rfl (Or.inr ⟨rfl, hini, rfl⟩) (by decide +kernel) rfl rfl (Nat.le_of_ble_eq_true rfl) dX7_init_49 (sE_sE _ _ _ _) (fun H locs hG hS => ?_)
  refine j_aload_n hx hb dX7_init_52 rfl (lv_at hl 0 rfl) ?_
  refine j_bipush hx hb dX7_init_53 (by decide) ?_
  refine k_newa (z := 8) (N := 8) hx hb (hts (.arrayClass .int) (by decide +kernel)) hK hG hS (by rw [sE_n (by omega)]; exact (hF _ (by omega) (by omega)).trans (fE_I (kX7_7 hk) (by omega) (by omega) (by omega))) (by decide +kernel) (by decide +kernel) (Nat.le_of_ble_eq_true rfl) (Nat.le_of_ble_eq_true rfl) (Nat.le_of_ble_eq_true rfl) dX7_init_55 (fun H hG hS => ?_)
  have hG : GW D b (sE F a (.inr (5, [jR b (a + 1), jR b (a + 2), jR b (a + 3), jR b (a + 4), jR b (a + 5), jR b (a + 6), .null, .null, .int 0]))) (a + 8) H := hG
  refine k_putF (ty := .array .int) (v := jR b (a + 7)) (E1 := sE F a (.inr (5, [jR b (a + 1), jR b (a + 2), jR b (a + 3), jR b (a + 4), jR b (a + 5), jR b (a + 6), jR b (a + 7), .null, .int 0]))) hx hb hts hinX7 tyX7 tyX7_ok nmX7 hown hK hG hS (by omega) (sE_s _ _ _) rfl 6 (by decide) (hts (.fieldLink RX7 30 "CardBand$Weave" "wanted" "[I") (by decide +kernel)) rfl (Or.inr ⟨rfl, hini, rfl⟩) (by decide +kernel) rfl rfl (Nat.le_of_ble_eq_true rfl) dX7_init_57 (sE_sE _ _ _ _) (fun H locs hG hS => ?_)
  refine j_aload_n hx hb dX7_init_60 rfl (lv_at hl 0 rfl) ?_
  refine j_sipush hx hb dX7_init_61 (by decide) ?_
  refine k_newa (z := 192) (N := 192) hx hb (hts (.arrayClass .int) (by decide +kernel)) hK hG hS (by rw [sE_n (by omega)]; exact (hF _ (by omega) (by omega)).trans (fE_I (kX7_8 hk) (by omega) (by omega) (by omega))) (by decide +kernel) (by decide +kernel) (Nat.le_of_ble_eq_true rfl) (Nat.le_of_ble_eq_true rfl) (Nat.le_of_ble_eq_true rfl) dX7_init_64 (fun H hG hS => ?_)
  have hG : GW D b (sE F a (.inr (5, [jR b (a + 1), jR b (a + 2), jR b (a + 3), jR b (a + 4), jR b (a + 5), jR b (a + 6), jR b (a + 7), .null, .int 0]))) (a + 9) H := hG
  refine k_putF (ty := .array .int) (v := jR b (a + 8)) (E1 := sE F a (.inr (5, [jR b (a + 1), jR b (a + 2), jR b (a + 3), jR b (a + 4), jR b (a + 5), jR b (a + 6), jR b (a + 7), jR b (a + 8), .int 0]))) hx hb hts hinX7 tyX7 tyX7_ok nmX7 hown hK hG hS (by omega) (sE_s _ _ _) rfl 7 (by decide) (hts (.fieldLink RX7 33 "CardBand$Weave" "band" "[I") (by decide +kernel)) rfl (Or.inr ⟨rfl, hini, rfl⟩) (by decide +kernel) rfl rfl (Nat.le_of_ble_eq_true rfl) dX7_init_66 (sE_sE _ _ _ _) (fun H locs hG hS => ?_)
  have hFa : F a = .inr (5, [jR b (a + 1), jR b (a + 2), jR b (a + 3), jR b (a + 4), jR b (a + 5), jR b (a + 6), jR b (a + 7), jR b (a + 8), .int 0]) := by
    rw [(hF _ (by omega) (by omega)), fE_O hk (by decide)]
    rw [mZ_z (by omega) (by omega) (by omega)]
    rfl
  rw [sE_self hFa] at hG
  exact k_ret hx hb hG hS hr hlk (by decide) (by decide) dX7_init_69
abbrev rmX5_init : Room := { frames := 1, cells := 5, slots := 60, locals := 20 }
set_option maxHeartbeats 4000000 in
set_option maxRecDepth 100000 in
theorem q_X5_init (l : Launch) (D : va_G) (b : Nat) (cs : CS) {a : Nat} (hk : kd a = 4) {F : Nat → va_E} (hF : ∀ x, a ≤ x → x < (a + 6) → F x = fE b cs x) : MG l yX5_init wsX5_init rmX5_init D b cs [jR b a] (sE F a (.inr (4, [.null, .null, .null, .null, .null, .int 0, .int 0, .int 0, .int 0]))) (a + 1) F (a + 6) 5 60 := by
  obtain ⟨hz0, hz1, hz2⟩ := kd_ne hk (by decide) (by decide) (by decide)
  have hzz : ∀ j, j < 6 → a + j ≠ 0 ∧ a + j ≠ 1 ∧ a + j ≠ 332 := fun j hj => kd_far4 hk hj
  obtain ⟨hz0_1, hz1_1, hz2_1⟩ := hzz 1 (by decide)
  obtain ⟨hz0_2, hz1_2, hz2_2⟩ := hzz 2 (by decide)
  obtain ⟨hz0_3, hz1_3, hz2_3⟩ := hzz 3 (by decide)
  obtain ⟨hz0_4, hz1_4, hz2_4⟩ := hzz 4 (by decide)
  obtain ⟨hz0_5, hz1_5, hz2_5⟩ := hzz 5 (by decide)
  refine met_inG (cc := cX5_init) (maxL := 1) (lv0 := [(0, jR b a)]) (by decide +kernel) rfl (Nat.le_of_ble_eq_true rfl) rfl ?_
  intro p e s m args below meth c hx hb hr hlk hml hown hini hts hG hK hN ls hl
  have hown : s.vm.findClass RX5 = some m.cls := hown
  have hini : meth.name = "<init>" := hini
  have hS : va_S (bA b) s.heap s.heap [] := va_S.rf
  have hinX5 : ∀ w ∈ u_ws RX5 TX5 9, w ∈ wsX5_init := by decide +kernel
  refine j_aload_n hx hb dX5_init_0 rfl (lv_at hl 0 rfl) ?_
  refine k_obj hx hb hown (hts (.methodLink RX5 3 objectInit) (by decide +kernel)) (hts (.instanceMethod objectInit) (by decide +kernel)) (hts (.code objectInit ⟨#[0xb1]⟩ 1 none) (by decide +kernel)) hml hl.1 (Nat.le_of_ble_eq_true rfl) dX5_init_1 (Nat.le_of_ble_eq_true rfl) (Nat.le_of_ble_eq_true rfl) ?_
  refine j_aload_n hx hb dX5_init_4 rfl (lv_at hl 0 rfl) ?_
  refine j_bipush hx hb dX5_init_5 (by decide) ?_
  refine k_newa (z := 32) (N := 32) hx hb (hts (.arrayClass .int) (by decide +kernel)) hK hG hS (by rw [sE_n (by omega)]; exact (hF _ (by omega) (by omega)).trans (fE_I (kX5_1 hk) (by omega) (by omega) (by omega))) (by decide +kernel) (by decide +kernel) (Nat.le_of_ble_eq_true rfl) (Nat.le_of_ble_eq_true rfl) (Nat.le_of_ble_eq_true rfl) dX5_init_7 (fun H hG hS => ?_)
  have hG : GW D b (sE F a (.inr (4, [.null, .null, .null, .null, .null, .int 0, .int 0, .int 0, .int 0]))) (a + 2) H := hG
  refine k_putF (ty := .array .int) (v := jR b (a + 1)) (E1 := sE F a (.inr (4, [jR b (a + 1), .null, .null, .null, .null, .int 0, .int 0, .int 0, .int 0]))) hx hb hts hinX5 tyX5 tyX5_ok nmX5 hown hK hG hS (by omega) (sE_s _ _ _) rfl 0 (by decide) (hts (.fieldLink RX5 9 "CardBand$Threading" "holeColours" "[I") (by decide +kernel)) rfl (Or.inr ⟨rfl, hini, rfl⟩) (by decide +kernel) rfl rfl (Nat.le_of_ble_eq_true rfl) dX5_init_9 (sE_sE _ _ _ _) (fun H locs hG hS => ?_)
  refine j_aload_n hx hb dX5_init_12 rfl (lv_at hl 0 rfl) ?_
  refine j_bipush hx hb dX5_init_13 (by decide) ?_
  refine k_newa (z := 8) (N := 8) hx hb (hts (.arrayClass .int) (by decide +kernel)) hK hG hS (by rw [sE_n (by omega)]; exact (hF _ (by omega) (by omega)).trans (fE_I (kX5_2 hk) (by omega) (by omega) (by omega))) (by decide +kernel) (by decide +kernel) (Nat.le_of_ble_eq_true rfl) (Nat.le_of_ble_eq_true rfl) (Nat.le_of_ble_eq_true rfl) dX5_init_15 (fun H hG hS => ?_)
  have hG : GW D b (sE F a (.inr (4, [jR b (a + 1), .null, .null, .null, .null, .int 0, .int 0, .int 0, .int 0]))) (a + 3) H := hG
  refine k_putF (ty := .array .int) (v := jR b (a + 2)) (E1 := sE F a (.inr (4, [jR b (a + 1), jR b (a + 2), .null, .null, .null, .int 0, .int 0, .int 0, .int 0]))) hx hb hts hinX5 tyX5 tyX5_ok nmX5 hown hK hG hS (by omega) (sE_s _ _ _) rfl 1 (by decide) (hts (.fieldLink RX5 15 "CardBand$Threading" "waysTold" "[I") (by decide +kernel)) rfl (Or.inr ⟨rfl, hini, rfl⟩) (by decide +kernel) rfl rfl (Nat.le_of_ble_eq_true rfl) dX5_init_17 (sE_sE _ _ _ _) (fun H locs hG hS => ?_)
  refine j_aload_n hx hb dX5_init_20 rfl (lv_at hl 0 rfl) ?_
  refine j_bipush hx hb dX5_init_21 (by decide) ?_
  refine k_newa (z := 8) (N := 8) hx hb (hts (.arrayClass .int) (by decide +kernel)) hK hG hS (by rw [sE_n (by omega)]; exact (hF _ (by omega) (by omega)).trans (fE_I (kX5_3 hk) (by omega) (by omega) (by omega))) (by decide +kernel) (by decide +kernel) (Nat.le_of_ble_eq_true rfl) (Nat.le_of_ble_eq_true rfl) (Nat.le_of_ble_eq_true rfl) dX5_init_23 (fun H hG hS => ?_)
  have hG : GW D b (sE F a (.inr (4, [jR b (a + 1), jR b (a + 2), .null, .null, .null, .int 0, .int 0, .int 0, .int 0]))) (a + 4) H := hG
  refine k_putF (ty := .array .int) (v := jR b (a + 3)) (E1 := sE F a (.inr (4, [jR b (a + 1), jR b (a + 2), jR b (a + 3), .null, .null, .int 0, .int 0, .int 0, .int 0]))) hx hb hts hinX5 tyX5 tyX5_ok nmX5 hown hK hG hS (by omega) (sE_s _ _ _) rfl 2 (by decide) (hts (.fieldLink RX5 18 "CardBand$Threading" "packOf" "[I") (by decide +kernel)) rfl (Or.inr ⟨rfl, hini, rfl⟩) (by decide +kernel) rfl rfl (Nat.le_of_ble_eq_true rfl) dX5_init_25 (sE_sE _ _ _ _) (fun H locs hG hS => ?_)
  refine j_aload_n hx hb dX5_init_28 rfl (lv_at hl 0 rfl) ?_
  refine j_iconst hx hb dX5_init_29 ?_
  refine k_newa (z := 4) (N := 4) hx hb (hts (.arrayClass .int) (by decide +kernel)) hK hG hS (by rw [sE_n (by omega)]; exact (hF _ (by omega) (by omega)).trans (fE_I (kX5_4 hk) (by omega) (by omega) (by omega))) (by decide +kernel) (by decide +kernel) (Nat.le_of_ble_eq_true rfl) (Nat.le_of_ble_eq_true rfl) (Nat.le_of_ble_eq_true rfl) dX5_init_30 (fun H hG hS => ?_)
  have hG : GW D b (sE F a (.inr (4, [jR b (a + 1), jR b (a + 2), jR b (a + 3), .null, .null, .int 0, .int 0, .int 0, .int 0]))) (a + 5) H := hG
  refine k_putF (ty := .array .int) (v := jR b (a + 4)) (E1 := sE F a (.inr (4, [jR b (a + 1), jR b (a + 2), jR b (a + 3), jR b (a + 4), .null, .int 0, .int 0, .int 0, .int 0]))) hx hb hts hinX5 tyX5 tyX5_ok nmX5 hown hK hG hS (by omega) (sE_s _ _ _) rfl 3 (by decide) (hts (.fieldLink RX5 21 "CardBand$Threading" "packSets" "[I") (by decide +kernel)) rfl (Or.inr ⟨rfl, hini, rfl⟩) (by decide +kernel) rfl rfl (Nat.le_of_ble_eq_true rfl) dX5_init_32 (sE_sE _ _ _ _) (fun H locs hG hS => ?_)
  refine j_aload_n hx hb dX5_init_35 rfl (lv_at hl 0 rfl) ?_
  refine j_bipush hx hb dX5_init_36 (by decide) ?_
  refine k_newa (z := 8) (N := 8) hx hb (hts (.arrayClass .int) (by decide +kernel)) hK hG hS (by rw [sE_n (by omega)]; exact (hF _ (by omega) (by omega)).trans (fE_I (kX5_5 hk) (by omega) (by omega) (by omega))) (by decide +kernel) (by decide +kernel) (Nat.le_of_ble_eq_true rfl) (Nat.le_of_ble_eq_true rfl) (Nat.le_of_ble_eq_true rfl) dX5_init_38 (fun H hG hS => ?_)
  have hG : GW D b (sE F a (.inr (4, [jR b (a + 1), jR b (a + 2), jR b (a + 3), jR b (a + 4), .null, .int 0, .int 0, .int 0, .int 0]))) (a + 6) H := hG
  refine k_putF (ty := .array .int) (v := jR b (a + 5)) (E1 := sE F a (.inr (4, [jR b (a + 1), jR b (a + 2), jR b (a + 3), jR b (a + 4), jR b (a + 5), .int 0, .int 0, .int 0, .int 0]))) hx hb hts hinX5 tyX5 tyX5_ok nmX5 hown hK hG hS (by omega) (sE_s _ _ _) rfl 4 (by decide) (hts (.fieldLink RX5 24 "CardBand$Threading" "yarnsTold" "[I") (by decide +kernel)) rfl (Or.inr ⟨rfl, hini, rfl⟩) (by decide +kernel) rfl rfl (Nat.le_of_ble_eq_true rfl) dX5_init_40 (sE_sE _ _ _ _) (fun H locs hG hS => ?_)
  have hFa : F a = .inr (4, [jR b (a + 1), jR b (a + 2), jR b (a + 3), jR b (a + 4), jR b (a + 5), .int 0, .int 0, .int 0, .int 0]) := by
    rw [(hF _ (by omega) (by omega)), fE_O hk (by decide)]
    rw [mZ_z (by omega) (by omega) (by omega)]
    rfl
  rw [sE_self hFa] at hG
  exact k_ret hx hb hG hS hr hlk (by decide) (by decide) dX5_init_43
abbrev rmX4_init : Room := { frames := 1, cells := 1, slots := 240, locals := 20 }
set_option maxHeartbeats 4000000 in
set_option maxRecDepth 100000 in
theorem q_X4_init (l : Launch) (D : va_G) (b : Nat) (cs : CS) {F : Nat → va_E} (hF : ∀ x, 1 ≤ x → x < 3 → F x = fE b cs x) : MG l yX4_init wsX4_init rmX4_init D b cs [jR b 1] (sE F 1 (.inr (3, [.null, .int 0, .int 0, .int 0, .int 0, .int 0]))) 2 F 3 1 240 := by
  refine met_inG (cc := cX4_init) (maxL := 1) (lv0 := [(0, jR b 1)]) (by decide +kernel) rfl (Nat.le_of_ble_eq_true rfl) rfl ?_
  intro p e s m args below meth c hx hb hr hlk hml hown hini hts hG hK hN ls hl
  have hown : s.vm.findClass RX4 = some m.cls := hown
  have hini : meth.name = "<init>" := hini
  have hS : va_S (bA b) s.heap s.heap [] := va_S.rf
  have hinX4 : ∀ w ∈ u_ws RX4 TX4 6, w ∈ wsX4_init := by decide +kernel
  refine j_aload_n hx hb dX4_init_0 rfl (lv_at hl 0 rfl) ?_
  refine k_obj hx hb hown (hts (.methodLink RX4 3 objectInit) (by decide +kernel)) (hts (.instanceMethod objectInit) (by decide +kernel)) (hts (.code objectInit ⟨#[0xb1]⟩ 1 none) (by decide +kernel)) hml hl.1 (Nat.le_of_ble_eq_true rfl) dX4_init_1 (Nat.le_of_ble_eq_true rfl) (Nat.le_of_ble_eq_true rfl) ?_
  refine j_aload_n hx hb dX4_init_4 rfl (lv_at hl 0 rfl) ?_
  refine j_sipush hx hb dX4_init_5 (by decide) ?_
  refine k_newa (z := 240) (N := 240) hx hb (hts (.arrayClass .int) (by decide +kernel)) hK hG hS (by rw [sE_n (by decide)]; exact (hF _ (by decide) (by decide)).trans (fE_I kz_2 (by decide) (by decide) (by decide))) (by decide +kernel) (by decide +kernel) (Nat.le_of_ble_eq_true rfl) (Nat.le_of_ble_eq_true rfl) (Nat.le_of_ble_eq_true rfl) dX4_init_8 (fun H hG hS => ?_)
  have hG : GW D b (sE F 1 (.inr (3, [.null, .int 0, .int 0, .int 0, .int 0, .int 0]))) 3 H := hG
  refine k_putF (ty := .array .int) (v := jR b 2) (E1 := sE F 1 (.inr (3, [jR b 2, .int 0, .int 0, .int 0, .int 0, .int 0]))) hx hb hts hinX4 tyX4 tyX4_ok nmX4 hown hK hG hS (by decide) (sE_s _ _ _) rfl 0 (by decide) (hts (.fieldLink RX4 9 "CardBand$Telling" "letters" "[I") (by decide +kernel)) rfl (Or.inr ⟨rfl, hini, rfl⟩) (by decide +kernel) rfl rfl (Nat.le_of_ble_eq_true rfl) dX4_init_10 (sE_sE _ _ _ _) (fun H locs hG hS => ?_)
  refine j_aload_n hx hb dX4_init_13 rfl (lv_at hl 0 rfl) ?_
  refine j_iconst hx hb dX4_init_14 ?_
  refine k_putF (ty := .int) (v := jI (-1)) (E1 := sE F 1 (.inr (3, [jR b 2, .int 0, .int 0, .int 0, .int 0, jI (-1)]))) hx hb hts hinX4 tyX4 tyX4_ok nmX4 hown hK hG hS (by decide) (sE_s _ _ _) rfl 5 (by decide) (hts (.fieldLink RX4 15 "CardBand$Telling" "faultPlace" "I") (by decide +kernel)) rfl (Or.inl rfl) (by decide +kernel) rfl rfl (Nat.le_of_ble_eq_true rfl) dX4_init_15 (sE_sE _ _ _ _) (fun H locs hG hS => ?_)
  have hFa : F 1 = .inr (3, [jR b 2, .int 0, .int 0, .int 0, .int 0, jI (-1)]) := by
    rw [(hF _ (by decide) (by decide)), fE_O kz_1 (by decide)]
    rfl
  rw [sE_self hFa] at hG
  exact k_ret hx hb hG hS hr hlk (by decide) (by decide) dX4_init_18
abbrev rmX3_init : Room := { frames := 1, cells := 5, slots := 64, locals := 20 }
set_option maxHeartbeats 4000000 in
set_option maxRecDepth 100000 in
theorem q_X3_init (l : Launch) (D : va_G) (b : Nat) (cs : CS) {F : Nat → va_E} (hF : ∀ x, 293 ≤ x → x < 299 → F x = fE b cs x) : MG l yX3_init wsX3_init rmX3_init D b cs [jR b 293] (sE F 293 (.inr (2, [.null, .null, .null, .null, .null, .int 0, .int 0]))) 294 F 299 5 64 := by
  refine met_inG (cc := cX3_init) (maxL := 1) (lv0 := [(0, jR b 293)]) (by decide +kernel) rfl (Nat.le_of_ble_eq_true rfl) rfl ?_
  intro p e s m args below meth c hx hb hr hlk hml hown hini hts hG hK hN ls hl
  have hown : s.vm.findClass RX3 = some m.cls := hown
  have hini : meth.name = "<init>" := hini
  have hS : va_S (bA b) s.heap s.heap [] := va_S.rf
  have hinX3 : ∀ w ∈ u_ws RX3 TX3 7, w ∈ wsX3_init := by decide +kernel
  refine j_aload_n hx hb dX3_init_0 rfl (lv_at hl 0 rfl) ?_
  refine k_obj hx hb hown (hts (.methodLink RX3 3 objectInit) (by decide +kernel)) (hts (.instanceMethod objectInit) (by decide +kernel)) (hts (.code objectInit ⟨#[0xb1]⟩ 1 none) (by decide +kernel)) hml hl.1 (Nat.le_of_ble_eq_true rfl) dX3_init_1 (Nat.le_of_ble_eq_true rfl) (Nat.le_of_ble_eq_true rfl) ?_
  refine j_aload_n hx hb dX3_init_4 rfl (lv_at hl 0 rfl) ?_
  refine j_bipush hx hb dX3_init_5 (by decide) ?_
  refine k_newa (z := 8) (N := 8) hx hb (hts (.arrayClass .int) (by decide +kernel)) hK hG hS (by rw [sE_n (by decide)]; exact (hF _ (by decide) (by decide)).trans (fE_I kz_294 (by decide) (by decide) (by decide))) (by decide +kernel) (by decide +kernel) (Nat.le_of_ble_eq_true rfl) (Nat.le_of_ble_eq_true rfl) (Nat.le_of_ble_eq_true rfl) dX3_init_7 (fun H hG hS => ?_)
  have hG : GW D b (sE F 293 (.inr (2, [.null, .null, .null, .null, .null, .int 0, .int 0]))) 295 H := hG
  refine k_putF (ty := .array .int) (v := jR b 294) (E1 := sE F 293 (.inr (2, [jR b 294, .null, .null, .null, .null, .int 0, .int 0]))) hx hb hts hinX3 tyX3 tyX3_ok nmX3 hown hK hG hS (by decide) (sE_s _ _ _) rfl 0 (by decide) (hts (.fieldLink RX3 9 "CardBand$Notes" "seenCards" "[I") (by decide +kernel)) rfl (Or.inr ⟨rfl, hini, rfl⟩) (by decide +kernel) rfl rfl (Nat.le_of_ble_eq_true rfl) dX3_init_9 (sE_sE _ _ _ _) (fun H locs hG hS => ?_)
  refine j_aload_n hx hb dX3_init_12 rfl (lv_at hl 0 rfl) ?_
  refine j_bipush hx hb dX3_init_13 (by decide) ?_
  refine k_newa (z := 8) (N := 8) hx hb (hts (.arrayClass .int) (by decide +kernel)) hK hG hS (by rw [sE_n (by decide)]; exact (hF _ (by decide) (by decide)).trans (fE_I kz_295 (by decide) (by decide) (by decide))) (by decide +kernel) (by decide +kernel) (Nat.le_of_ble_eq_true rfl) (Nat.le_of_ble_eq_true rfl) (Nat.le_of_ble_eq_true rfl) dX3_init_15 (fun H hG hS => ?_)
  have hG : GW D b (sE F 293 (.inr (2, [jR b 294, .null, .null, .null, .null, .int 0, .int 0]))) 296 H := hG
  refine k_putF (ty := .array .int) (v := jR b 295) (E1 := sE F 293 (.inr (2, [jR b 294, jR b 295, .null, .null, .null, .int 0, .int 0]))) hx hb hts hinX3 tyX3 tyX3_ok nmX3 hown hK hG hS (by decide) (sE_s _ _ _) rfl 1 (by decide) (hts (.fieldLink RX3 15 "CardBand$Notes" "seenTurns" "[I") (by decide +kernel)) rfl (Or.inr ⟨rfl, hini, rfl⟩) (by decide +kernel) rfl rfl (Nat.le_of_ble_eq_true rfl) dX3_init_17 (sE_sE _ _ _ _) (fun H locs hG hS => ?_)
  refine j_aload_n hx hb dX3_init_20 rfl (lv_at hl 0 rfl) ?_
  refine j_bipush hx hb dX3_init_21 (by decide) ?_
  refine k_newa (z := 8) (N := 8) hx hb (hts (.arrayClass .int) (by decide +kernel)) hK hG hS (by rw [sE_n (by decide)]; exact (hF _ (by decide) (by decide)).trans (fE_I kz_296 (by decide) (by decide) (by decide))) (by decide +kernel) (by decide +kernel) (Nat.le_of_ble_eq_true rfl) (Nat.le_of_ble_eq_true rfl) (Nat.le_of_ble_eq_true rfl) dX3_init_23 (fun H hG hS => ?_)
  have hG : GW D b (sE F 293 (.inr (2, [jR b 294, jR b 295, .null, .null, .null, .int 0, .int 0]))) 297 H := hG
  refine k_putF (ty := .array .int) (v := jR b 296) (E1 := sE F 293 (.inr (2, [jR b 294, jR b 295, jR b 296, .null, .null, .int 0, .int 0]))) hx hb hts hinX3 tyX3 tyX3_ok nmX3 hown hK hG hS (by decide) (sE_s _ _ _) rfl 2 (by decide) (hts (.fieldLink RX3 18 "CardBand$Notes" "seenColours" "[I") (by decide +kernel)) rfl (Or.inr ⟨rfl, hini, rfl⟩) (by decide +kernel) rfl rfl (Nat.le_of_ble_eq_true rfl) dX3_init_25 (sE_sE _ _ _ _) (fun H locs hG hS => ?_)
  refine j_aload_n hx hb dX3_init_28 rfl (lv_at hl 0 rfl) ?_
  refine j_bipush hx hb dX3_init_29 (by decide) ?_
  refine k_newa (z := 20) (N := 20) hx hb (hts (.arrayClass .int) (by decide +kernel)) hK hG hS (by rw [sE_n (by decide)]; exact (hF _ (by decide) (by decide)).trans (fE_I kz_297 (by decide) (by decide) (by decide))) (by decide +kernel) (by decide +kernel) (Nat.le_of_ble_eq_true rfl) (Nat.le_of_ble_eq_true rfl) (Nat.le_of_ble_eq_true rfl) dX3_init_31 (fun H hG hS => ?_)
  have hG : GW D b (sE F 293 (.inr (2, [jR b 294, jR b 295, jR b 296, .null, .null, .int 0, .int 0]))) 298 H := hG
  refine k_putF (ty := .array .int) (v := jR b 297) (E1 := sE F 293 (.inr (2, [jR b 294, jR b 295, jR b 296, jR b 297, .null, .int 0, .int 0]))) hx hb hts hinX3 tyX3 tyX3_ok nmX3 hown hK hG hS (by decide) (sE_s _ _ _) rfl 3 (by decide) (hts (.fieldLink RX3 21 "CardBand$Notes" "bookCards" "[I") (by decide +kernel)) rfl (Or.inr ⟨rfl, hini, rfl⟩) (by decide +kernel) rfl rfl (Nat.le_of_ble_eq_true rfl) dX3_init_33 (sE_sE _ _ _ _) (fun H locs hG hS => ?_)
  refine j_aload_n hx hb dX3_init_36 rfl (lv_at hl 0 rfl) ?_
  refine j_bipush hx hb dX3_init_37 (by decide) ?_
  refine k_newa (z := 20) (N := 20) hx hb (hts (.arrayClass .int) (by decide +kernel)) hK hG hS (by rw [sE_n (by decide)]; exact (hF _ (by decide) (by decide)).trans (fE_I kz_298 (by decide) (by decide) (by decide))) (by decide +kernel) (by decide +kernel) (Nat.le_of_ble_eq_true rfl) (Nat.le_of_ble_eq_true rfl) (Nat.le_of_ble_eq_true rfl) dX3_init_39 (fun H hG hS => ?_)
  have hG : GW D b (sE F 293 (.inr (2, [jR b 294, jR b 295, jR b 296, jR b 297, .null, .int 0, .int 0]))) 299 H := hG
  refine k_putF (ty := .array .int) (v := jR b 298) (E1 := sE F 293 (.inr (2, [jR b 294, jR b 295, jR b 296, jR b 297, jR b 298, .int 0, .int 0]))) hx hb hts hinX3 tyX3 tyX3_ok nmX3 hown hK hG hS (by decide) (sE_s _ _ _) rfl 4 (by decide) (hts (.fieldLink RX3 24 "CardBand$Notes" "bookColours" "[I") (by decide +kernel)) rfl (Or.inr ⟨rfl, hini, rfl⟩) (by decide +kernel) rfl rfl (Nat.le_of_ble_eq_true rfl) dX3_init_41 (sE_sE _ _ _ _) (fun H locs hG hS => ?_)
  have hFa : F 293 = .inr (2, [jR b 294, jR b 295, jR b 296, jR b 297, jR b 298, .int 0, .int 0]) := by
    rw [(hF _ (by decide) (by decide)), fE_O kz_293 (by decide)]
    rfl
  rw [sE_self hFa] at hG
  exact k_ret hx hb hG hS hr hlk (by decide) (by decide) dX3_init_44
abbrev rmX2_init : Room := { frames := 2, cells := 9, slots := 257, locals := 40 }
set_option maxHeartbeats 4000000 in
set_option maxRecDepth 100000 in
theorem q_X2_init (l : Launch) (D : va_G) (b : Nat) (cs : CS) {a : Nat} (hk : kd a = 1) {F : Nat → va_E} (hF : ∀ x, a ≤ x → x < (a + 10) → F x = fE b cs x) : MG l yX2_init wsX2_init rmX2_init D b cs [jR b a] (sE F a (.inr (1, [.null, .long 0, .int 0]))) (a + 1) F (a + 10) 9 257 := by
  obtain ⟨hz0, hz1, hz2⟩ := kd_ne hk (by decide) (by decide) (by decide)
  have hzz : ∀ j, j < 10 → a + j ≠ 0 ∧ a + j ≠ 1 ∧ a + j ≠ 332 := fun j hj => kd_far1 hk hj
  obtain ⟨hz0_1, hz1_1, hz2_1⟩ := hzz 1 (by decide)
  obtain ⟨hz0_2, hz1_2, hz2_2⟩ := hzz 2 (by decide)
  obtain ⟨hz0_3, hz1_3, hz2_3⟩ := hzz 3 (by decide)
  obtain ⟨hz0_4, hz1_4, hz2_4⟩ := hzz 4 (by decide)
  obtain ⟨hz0_5, hz1_5, hz2_5⟩ := hzz 5 (by decide)
  obtain ⟨hz0_6, hz1_6, hz2_6⟩ := hzz 6 (by decide)
  obtain ⟨hz0_7, hz1_7, hz2_7⟩ := hzz 7 (by decide)
  obtain ⟨hz0_8, hz1_8, hz2_8⟩ := hzz 8 (by decide)
  obtain ⟨hz0_9, hz1_9, hz2_9⟩ := hzz 9 (by decide)
  refine met_inG (cc := cX2_init) (maxL := 1) (lv0 := [(0, jR b a)]) (by decide +kernel) rfl (Nat.le_of_ble_eq_true rfl) rfl ?_
  intro p e s m args below meth c hx hb hr hlk hml hown hini hts hG hK hN ls hl
  have hown : s.vm.findClass RX2 = some m.cls := hown
  have hini : meth.name = "<init>" := hini
  have hS : va_S (bA b) s.heap s.heap [] := va_S.rf
  have hinX2 : ∀ w ∈ u_ws RX2 TX2 3, w ∈ wsX2_init := by decide +kernel
  have hinX7 : ∀ w ∈ u_ws RX7 TX7 9, w ∈ wsX2_init := by decide +kernel
  refine j_aload_n hx hb dX2_init_0 rfl (lv_at hl 0 rfl) ?_
  refine k_obj hx hb hown (hts (.methodLink RX2 1 objectInit) (by decide +kernel)) (hts (.instanceMethod objectInit) (by decide +kernel)) (hts (.code objectInit ⟨#[0xb1]⟩ 1 none) (by decide +kernel)) hml hl.1 (Nat.le_of_ble_eq_true rfl) dX2_init_1 (Nat.le_of_ble_eq_true rfl) (Nat.le_of_ble_eq_true rfl) ?_
  refine j_aload_n hx hb dX2_init_4 rfl (lv_at hl 0 rfl) ?_
  have hG : GW D b (sE (sE F a (.inr (1, [.null, .long 0, .int 0]))) (a + 1) (.inr (5, [.null, .null, .null, .null, .null, .null, .null, .null, .int 0]))) (a + 1) _ := hG.eq (fun x hx9 => (sE_n (by omega)).symm)
  refine k_new (ci := 5) (fs := [.null, .null, .null, .null, .null, .null, .null, .null, .int 0]) hx hb hts hinX7 tyX7 tyX7_ok hown (hts (.classLink RX2 7 RX7) (by decide +kernel)) (hts (.instantiable RX7 9) (by decide +kernel)) (hts (.initialized RX7) (by decide +kernel)) hK hG hS rfl (fun j hj => by rcases (show j = 0 ∨ j = 1 ∨ j = 2 ∨ j = 3 ∨ j = 4 ∨ j = 5 ∨ j = 6 ∨ j = 7 ∨ j = 8 by omega) with rfl | rfl | rfl | rfl | rfl | rfl | rfl | rfl | rfl <;> rfl) (sE_s _ _ _) (Nat.le_of_ble_eq_true rfl) (Nat.le_of_ble_eq_true rfl) dX2_init_5 (fun H hG hS => ?_)
  refine j_dup hx hb dX2_init_8 rfl ?_
  refine k_initN (E1 := sE F a (.inr (1, [.null, .long 0, .int 0]))) (n2 := (a + 10)) (rest := [jR b (a + 1), jR b a]) ⟨hx, hb, hml, hown, hts⟩ hK hN hG hS (q_X7_init l D b cs (kd_img hk) (fun x h1 h2 => by rw [sE_n (by omega)]; exact hF x (by omega) (by omega))) ⟨va_cnB 0 hts gX2_init_X7_init_n9 rfl rfl rfl hN.2.2.2.2.2.2.2.2 (hts (.initialized RX7) (by decide +kernel)) (by decide +kernel) ⟨Nat.le_of_ble_eq_true rfl, Nat.le_of_ble_eq_true rfl⟩, rfl, (hts (.instanceMethod yX7_init) (by decide +kernel))⟩ hl.1 rfl (Nat.le_of_ble_eq_true rfl) dX2_init_9 ⟨Nat.le_of_ble_eq_true rfl, Nat.le_of_ble_eq_true rfl⟩ (fun H locs hG hS => ?_)
  refine k_putF (ty := .object "CardBand$Weave") (v := jR b (a + 1)) (E1 := sE F a (.inr (1, [jR b (a + 1), .long 0, .int 0]))) hx hb hts hinX2 tyX2 tyX2_ok nmX2 hown hK hG hS (by omega) (sE_s _ _ _) rfl 0 (by decide) (hts (.fieldLink RX2 10 "CardBand$Image" "weave" "LCardBand$Weave;") (by decide +kernel)) rfl (Or.inr ⟨rfl, hini, rfl⟩) (by decide +kernel) rfl rfl (Nat.le_of_ble_eq_true rfl) dX2_init_12 (sE_sE _ _ _ _) (fun H locs hG hS => ?_)
  have hFa : F a = .inr (1, [jR b (a + 1), .long 0, .int 0]) := by
    rw [(hF _ (by omega) (by omega)), fE_O hk (by decide)]
    rw [mZ_z (by omega) (by omega) (by omega)]
    rfl
  rw [sE_self hFa] at hG
  exact k_ret hx hb hG hS hr hlk (by decide) (by decide) dX2_init_15
abbrev rmX9_init : Room := { frames := 1, cells := 13, slots := 8684, locals := 20 }
set_option maxHeartbeats 4000000 in
set_option maxRecDepth 100000 in
theorem q_X9_init (l : Launch) (D : va_G) (b : Nat) (cs : CS) {F : Nat → va_E} (hF : ∀ x, 332 ≤ x → x < 346 → F x = fE b cs x) : MG l yX9_init wsX9_init rmX9_init D b cs [jR b 332] (sE F 332 (.inr (7, [.null, .null, .int 0, .int 0, .null, .null, .int 0, .int 0, .null, .int 0, .int 0, .null, .null, .int 0, .int 0, .int 0, .int 0, .int 0, .int 0, .null, .null, .null, .null, .int 0, .null, .null, .int 0]))) 333 F 346 13 8684 := by
  refine met_inG (cc := cX9_init) (maxL := 1) (lv0 := [(0, jR b 332)]) (by decide +kernel) rfl (Nat.le_of_ble_eq_true rfl) rfl ?_
  intro p e s m args below meth c hx hb hr hlk hml hown hini hts hG hK hN ls hl
  have hown : s.vm.findClass RX9 = some m.cls := hown
  have hini : meth.name = "<init>" := hini
  have hS : va_S (bA b) s.heap s.heap [] := va_S.rf
  have hinX9 : ∀ w ∈ u_ws RX9 TX9 27, w ∈ wsX9_init := by decide +kernel
  refine j_aload_n hx hb dX9_init_0 rfl (lv_at hl 0 rfl) ?_
  refine k_obj hx hb hown (hts (.methodLink RX9 1 objectInit) (by decide +kernel)) (hts (.instanceMethod objectInit) (by decide +kernel)) (hts (.code objectInit ⟨#[0xb1]⟩ 1 none) (by decide +kernel)) hml hl.1 (Nat.le_of_ble_eq_true rfl) dX9_init_1 (Nat.le_of_ble_eq_true rfl) (Nat.le_of_ble_eq_true rfl) ?_
  refine j_aload_n hx hb dX9_init_4 rfl (lv_at hl 0 rfl) ?_
  refine j_sipush hx hb dX9_init_5 (by decide) ?_
  refine k_newa (z := 8262) (N := 8262) hx hb (hts (.arrayClass .int) (by decide +kernel)) hK hG hS (by rw [sE_n (by decide)]; exact (hF _ (by decide) (by decide)).trans (fE_I kz_333 (by decide) (by decide) (by decide))) (by decide +kernel) (by decide +kernel) (Nat.le_of_ble_eq_true rfl) (Nat.le_of_ble_eq_true rfl) (Nat.le_of_ble_eq_true rfl) dX9_init_8 (fun H hG hS => ?_)
  have hG : GW D b (sE F 332 (.inr (7, [.null, .null, .int 0, .int 0, .null, .null, .int 0, .int 0, .null, .int 0, .int 0, .null, .null, .int 0, .int 0, .int 0, .int 0, .int 0, .int 0, .null, .null, .null, .null, .int 0, .null, .null, .int 0]))) 334 H := hG
  refine k_putF (ty := .array .int) (v := jR b 333) (E1 := sE F 332 (.inr (7, [jR b 333, .null, .int 0, .int 0, .null, .null, .int 0, .int 0, .null, .int 0, .int 0, .null, .null, .int 0, .int 0, .int 0, .int 0, .int 0, .int 0, .null, .null, .null, .null, .int 0, .null, .null, .int 0]))) hx hb hts hinX9 tyX9 tyX9_ok nmX9 hown hK hG hS (by decide) (sE_s _ _ _) rfl 0 (by decide) (hts (.fieldLink RX9 7 "CardBandModel" "w" "[I") (by decide +kernel)) rfl (Or.inr ⟨rfl, hini, rfl⟩) (by decide +kernel) rfl rfl (Nat.le_of_ble_eq_true rfl) dX9_init_10 (sE_sE _ _ _ _) (fun H locs hG hS => ?_)
  refine j_aload_n hx hb dX9_init_13 rfl (lv_at hl 0 rfl) ?_
  refine j_iconst hx hb dX9_init_14 ?_
  refine k_newz (z := 2) (N := 2) hx hb (hts (.arrayClass .boolean) (by decide +kernel)) hK hG hS (by rw [sE_n (by decide)]; exact (hF _ (by decide) (by decide)).trans (fE_Z kz_334 (by decide) (by decide) (by decide))) (by decide +kernel) (by decide +kernel) (Nat.le_of_ble_eq_true rfl) (Nat.le_of_ble_eq_true rfl) (Nat.le_of_ble_eq_true rfl) dX9_init_15 (fun H hG hS => ?_)
  have hG : GW D b (sE F 332 (.inr (7, [jR b 333, .null, .int 0, .int 0, .null, .null, .int 0, .int 0, .null, .int 0, .int 0, .null, .null, .int 0, .int 0, .int 0, .int 0, .int 0, .int 0, .null, .null, .null, .null, .int 0, .null, .null, .int 0]))) 335 H := hG
  refine k_putF (ty := .array .boolean) (v := jR b 334) (E1 := sE F 332 (.inr (7, [jR b 333, jR b 334, .int 0, .int 0, .null, .null, .int 0, .int 0, .null, .int 0, .int 0, .null, .null, .int 0, .int 0, .int 0, .int 0, .int 0, .int 0, .null, .null, .null, .null, .int 0, .null, .null, .int 0]))) hx hb hts hinX9 tyX9 tyX9_ok nmX9 hown hK hG hS (by decide) (sE_s _ _ _) rfl 1 (by decide) (hts (.fieldLink RX9 13 "CardBandModel" "isKept" "[Z") (by decide +kernel)) rfl (Or.inr ⟨rfl, hini, rfl⟩) (by decide +kernel) rfl rfl (Nat.le_of_ble_eq_true rfl) dX9_init_17 (sE_sE _ _ _ _) (fun H locs hG hS => ?_)
  refine j_aload_n hx hb dX9_init_20 rfl (lv_at hl 0 rfl) ?_
  refine j_bipush hx hb dX9_init_21 (by decide) ?_
  refine k_newa (z := 64) (N := 64) hx hb (hts (.arrayClass .int) (by decide +kernel)) hK hG hS (by rw [sE_n (by decide)]; exact (hF _ (by decide) (by decide)).trans (fE_I kz_335 (by decide) (by decide) (by decide))) (by decide +kernel) (by decide +kernel) (Nat.le_of_ble_eq_true rfl) (Nat.le_of_ble_eq_true rfl) (Nat.le_of_ble_eq_true rfl) dX9_init_23 (fun H hG hS => ?_)
  have hG : GW D b (sE F 332 (.inr (7, [jR b 333, jR b 334, .int 0, .int 0, .null, .null, .int 0, .int 0, .null, .int 0, .int 0, .null, .null, .int 0, .int 0, .int 0, .int 0, .int 0, .int 0, .null, .null, .null, .null, .int 0, .null, .null, .int 0]))) 336 H := hG
  refine k_putF (ty := .array .int) (v := jR b 335) (E1 := sE F 332 (.inr (7, [jR b 333, jR b 334, .int 0, .int 0, jR b 335, .null, .int 0, .int 0, .null, .int 0, .int 0, .null, .null, .int 0, .int 0, .int 0, .int 0, .int 0, .int 0, .null, .null, .null, .null, .int 0, .null, .null, .int 0]))) hx hb hts hinX9 tyX9 tyX9_ok nmX9 hown hK hG hS (by decide) (sE_s _ _ _) rfl 4 (by decide) (hts (.fieldLink RX9 17 "CardBandModel" "hole" "[I") (by decide +kernel)) rfl (Or.inr ⟨rfl, hini, rfl⟩) (by decide +kernel) rfl rfl (Nat.le_of_ble_eq_true rfl) dX9_init_25 (sE_sE _ _ _ _) (fun H locs hG hS => ?_)
  refine j_aload_n hx hb dX9_init_28 rfl (lv_at hl 0 rfl) ?_
  refine j_bipush hx hb dX9_init_29 (by decide) ?_
  refine k_newa (z := 16) (N := 16) hx hb (hts (.arrayClass .int) (by decide +kernel)) hK hG hS (by rw [sE_n (by decide)]; exact (hF _ (by decide) (by decide)).trans (fE_I kz_336 (by decide) (by decide) (by decide))) (by decide +kernel) (by decide +kernel) (Nat.le_of_ble_eq_true rfl) (Nat.le_of_ble_eq_true rfl) (Nat.le_of_ble_eq_true rfl) dX9_init_31 (fun H hG hS => ?_)
  have hG : GW D b (sE F 332 (.inr (7, [jR b 333, jR b 334, .int 0, .int 0, jR b 335, .null, .int 0, .int 0, .null, .int 0, .int 0, .null, .null, .int 0, .int 0, .int 0, .int 0, .int 0, .int 0, .null, .null, .null, .null, .int 0, .null, .null, .int 0]))) 337 H := hG
  refine k_putF (ty := .array .int) (v := jR b 336) (E1 := sE F 332 (.inr (7, [jR b 333, jR b 334, .int 0, .int 0, jR b 335, jR b 336, .int 0, .int 0, .null, .int 0, .int 0, .null, .null, .int 0, .int 0, .int 0, .int 0, .int 0, .int 0, .null, .null, .null, .null, .int 0, .null, .null, .int 0]))) hx hb hts hinX9 tyX9 tyX9_ok nmX9 hown hK hG hS (by decide) (sE_s _ _ _) rfl 5 (by decide) (hts (.fieldLink RX9 20 "CardBandModel" "threaded" "[I") (by decide +kernel)) rfl (Or.inr ⟨rfl, hini, rfl⟩) (by decide +kernel) rfl rfl (Nat.le_of_ble_eq_true rfl) dX9_init_33 (sE_sE _ _ _ _) (fun H locs hG hS => ?_)
  refine j_aload_n hx hb dX9_init_36 rfl (lv_at hl 0 rfl) ?_
  refine j_bipush hx hb dX9_init_37 (by decide) ?_
  refine k_newa (z := 8) (N := 8) hx hb (hts (.arrayClass .int) (by decide +kernel)) hK hG hS (by rw [sE_n (by decide)]; exact (hF _ (by decide) (by decide)).trans (fE_I kz_337 (by decide) (by decide) (by decide))) (by decide +kernel) (by decide +kernel) (Nat.le_of_ble_eq_true rfl) (Nat.le_of_ble_eq_true rfl) (Nat.le_of_ble_eq_true rfl) dX9_init_39 (fun H hG hS => ?_)
  have hG : GW D b (sE F 332 (.inr (7, [jR b 333, jR b 334, .int 0, .int 0, jR b 335, jR b 336, .int 0, .int 0, .null, .int 0, .int 0, .null, .null, .int 0, .int 0, .int 0, .int 0, .int 0, .int 0, .null, .null, .null, .null, .int 0, .null, .null, .int 0]))) 338 H := hG
  refine k_putF (ty := .array .int) (v := jR b 337) (E1 := sE F 332 (.inr (7, [jR b 333, jR b 334, .int 0, .int 0, jR b 335, jR b 336, .int 0, .int 0, jR b 337, .int 0, .int 0, .null, .null, .int 0, .int 0, .int 0, .int 0, .int 0, .int 0, .null, .null, .null, .null, .int 0, .null, .null, .int 0]))) hx hb hts hinX9 tyX9 tyX9_ok nmX9 hown hK hG hS (by decide) (sE_s _ _ _) rfl 8 (by decide) (hts (.fieldLink RX9 23 "CardBandModel" "pack" "[I") (by decide +kernel)) rfl (Or.inr ⟨rfl, hini, rfl⟩) (by decide +kernel) rfl rfl (Nat.le_of_ble_eq_true rfl) dX9_init_41 (sE_sE _ _ _ _) (fun H locs hG hS => ?_)
  refine j_aload_n hx hb dX9_init_44 rfl (lv_at hl 0 rfl) ?_
  refine j_bipush hx hb dX9_init_45 (by decide) ?_
  refine k_newa (z := 8) (N := 8) hx hb (hts (.arrayClass .int) (by decide +kernel)) hK hG hS (by rw [sE_n (by decide)]; exact (hF _ (by decide) (by decide)).trans (fE_I kz_338 (by decide) (by decide) (by decide))) (by decide +kernel) (by decide +kernel) (Nat.le_of_ble_eq_true rfl) (Nat.le_of_ble_eq_true rfl) (Nat.le_of_ble_eq_true rfl) dX9_init_47 (fun H hG hS => ?_)
  have hG : GW D b (sE F 332 (.inr (7, [jR b 333, jR b 334, .int 0, .int 0, jR b 335, jR b 336, .int 0, .int 0, jR b 337, .int 0, .int 0, .null, .null, .int 0, .int 0, .int 0, .int 0, .int 0, .int 0, .null, .null, .null, .null, .int 0, .null, .null, .int 0]))) 339 H := hG
  refine k_putF (ty := .array .int) (v := jR b 338) (E1 := sE F 332 (.inr (7, [jR b 333, jR b 334, .int 0, .int 0, jR b 335, jR b 336, .int 0, .int 0, jR b 337, .int 0, .int 0, jR b 338, .null, .int 0, .int 0, .int 0, .int 0, .int 0, .int 0, .null, .null, .null, .null, .int 0, .null, .null, .int 0]))) hx hb hts hinX9 tyX9 tyX9_ok nmX9 hown hK hG hS (by decide) (sE_s _ _ _) rfl 11 (by decide) (hts (.fieldLink RX9 26 "CardBandModel" "newYarn" "[I") (by decide +kernel)) rfl (Or.inr ⟨rfl, hini, rfl⟩) (by decide +kernel) rfl rfl (Nat.le_of_ble_eq_true rfl) dX9_init_49 (sE_sE _ _ _ _) (fun H locs hG hS => ?_)
  refine j_aload_n hx hb dX9_init_52 rfl (lv_at hl 0 rfl) ?_
  refine j_sipush hx hb dX9_init_53 (by decide) ?_
  refine k_newa (z := 240) (N := 240) hx hb (hts (.arrayClass .int) (by decide +kernel)) hK hG hS (by rw [sE_n (by decide)]; exact (hF _ (by decide) (by decide)).trans (fE_I kz_339 (by decide) (by decide) (by decide))) (by decide +kernel) (by decide +kernel) (Nat.le_of_ble_eq_true rfl) (Nat.le_of_ble_eq_true rfl) (Nat.le_of_ble_eq_true rfl) dX9_init_56 (fun H hG hS => ?_)
  have hG : GW D b (sE F 332 (.inr (7, [jR b 333, jR b 334, .int 0, .int 0, jR b 335, jR b 336, .int 0, .int 0, jR b 337, .int 0, .int 0, jR b 338, .null, .int 0, .int 0, .int 0, .int 0, .int 0, .int 0, .null, .null, .null, .null, .int 0, .null, .null, .int 0]))) 340 H := hG
  refine k_putF (ty := .array .int) (v := jR b 339) (E1 := sE F 332 (.inr (7, [jR b 333, jR b 334, .int 0, .int 0, jR b 335, jR b 336, .int 0, .int 0, jR b 337, .int 0, .int 0, jR b 338, jR b 339, .int 0, .int 0, .int 0, .int 0, .int 0, .int 0, .null, .null, .null, .null, .int 0, .null, .null, .int 0]))) hx hb hts hinX9 tyX9 tyX9_ok nmX9 hown hK hG hS (by decide) (sE_s _ _ _) rfl 12 (by decide) (hts (.fieldLink RX9 29 "CardBandModel" "text" "[I") (by decide +kernel)) rfl (Or.inr ⟨rfl, hini, rfl⟩) (by decide +kernel) rfl rfl (Nat.le_of_ble_eq_true rfl) dX9_init_58 (sE_sE _ _ _ _) (fun H locs hG hS => ?_)
  refine j_aload_n hx hb dX9_init_61 rfl (lv_at hl 0 rfl) ?_
  refine j_iconst hx hb dX9_init_62 ?_
  refine k_putF (ty := .int) (v := jI (-1)) (E1 := sE F 332 (.inr (7, [jR b 333, jR b 334, .int 0, .int 0, jR b 335, jR b 336, .int 0, .int 0, jR b 337, .int 0, .int 0, jR b 338, jR b 339, .int 0, .int 0, .int 0, .int 0, jI (-1), .int 0, .null, .null, .null, .null, .int 0, .null, .null, .int 0]))) hx hb hts hinX9 tyX9 tyX9_ok nmX9 hown hK hG hS (by decide) (sE_s _ _ _) rfl 17 (by decide) (hts (.fieldLink RX9 32 "CardBandModel" "fault" "I") (by decide +kernel)) rfl (Or.inl rfl) (by decide +kernel) rfl rfl (Nat.le_of_ble_eq_true rfl) dX9_init_63 (sE_sE _ _ _ _) (fun H locs hG hS => ?_)
  refine j_aload_n hx hb dX9_init_66 rfl (lv_at hl 0 rfl) ?_
  refine j_bipush hx hb dX9_init_67 (by decide) ?_
  refine k_newa (z := 20) (N := 20) hx hb (hts (.arrayClass .int) (by decide +kernel)) hK hG hS (by rw [sE_n (by decide)]; exact (hF _ (by decide) (by decide)).trans (fE_I kz_340 (by decide) (by decide) (by decide))) (by decide +kernel) (by decide +kernel) (Nat.le_of_ble_eq_true rfl) (Nat.le_of_ble_eq_true rfl) (Nat.le_of_ble_eq_true rfl) dX9_init_69 (fun H hG hS => ?_)
  have hG : GW D b (sE F 332 (.inr (7, [jR b 333, jR b 334, .int 0, .int 0, jR b 335, jR b 336, .int 0, .int 0, jR b 337, .int 0, .int 0, jR b 338, jR b 339, .int 0, .int 0, .int 0, .int 0, jI (-1), .int 0, .null, .null, .null, .null, .int 0, .null, .null, .int 0]))) 341 H := hG
  refine k_putF (ty := .array .int) (v := jR b 340) (E1 := sE F 332 (.inr (7, [jR b 333, jR b 334, .int 0, .int 0, jR b 335, jR b 336, .int 0, .int 0, jR b 337, .int 0, .int 0, jR b 338, jR b 339, .int 0, .int 0, .int 0, .int 0, jI (-1), .int 0, jR b 340, .null, .null, .null, .int 0, .null, .null, .int 0]))) hx hb hts hinX9 tyX9 tyX9_ok nmX9 hown hK hG hS (by decide) (sE_s _ _ _) rfl 19 (by decide) (hts (.fieldLink RX9 36 "CardBandModel" "far" "[I") (by decide +kernel)) rfl (Or.inr ⟨rfl, hini, rfl⟩) (by decide +kernel) rfl rfl (Nat.le_of_ble_eq_true rfl) dX9_init_71 (sE_sE _ _ _ _) (fun H locs hG hS => ?_)
  refine j_aload_n hx hb dX9_init_74 rfl (lv_at hl 0 rfl) ?_
  refine j_bipush hx hb dX9_init_75 (by decide) ?_
  refine k_newa (z := 8) (N := 8) hx hb (hts (.arrayClass .int) (by decide +kernel)) hK hG hS (by rw [sE_n (by decide)]; exact (hF _ (by decide) (by decide)).trans (fE_I kz_341 (by decide) (by decide) (by decide))) (by decide +kernel) (by decide +kernel) (Nat.le_of_ble_eq_true rfl) (Nat.le_of_ble_eq_true rfl) (Nat.le_of_ble_eq_true rfl) dX9_init_77 (fun H hG hS => ?_)
  have hG : GW D b (sE F 332 (.inr (7, [jR b 333, jR b 334, .int 0, .int 0, jR b 335, jR b 336, .int 0, .int 0, jR b 337, .int 0, .int 0, jR b 338, jR b 339, .int 0, .int 0, .int 0, .int 0, jI (-1), .int 0, jR b 340, .null, .null, .null, .int 0, .null, .null, .int 0]))) 342 H := hG
  refine k_putF (ty := .array .int) (v := jR b 341) (E1 := sE F 332 (.inr (7, [jR b 333, jR b 334, .int 0, .int 0, jR b 335, jR b 336, .int 0, .int 0, jR b 337, .int 0, .int 0, jR b 338, jR b 339, .int 0, .int 0, .int 0, .int 0, jI (-1), .int 0, jR b 340, jR b 341, .null, .null, .int 0, .null, .null, .int 0]))) hx hb hts hinX9 tyX9 tyX9_ok nmX9 hown hK hG hS (by decide) (sE_s _ _ _) rfl 20 (by decide) (hts (.fieldLink RX9 39 "CardBandModel" "seenCard" "[I") (by decide +kernel)) rfl (Or.inr ⟨rfl, hini, rfl⟩) (by decide +kernel) rfl rfl (Nat.le_of_ble_eq_true rfl) dX9_init_79 (sE_sE _ _ _ _) (fun H locs hG hS => ?_)
  refine j_aload_n hx hb dX9_init_82 rfl (lv_at hl 0 rfl) ?_
  refine j_bipush hx hb dX9_init_83 (by decide) ?_
  refine k_newa (z := 8) (N := 8) hx hb (hts (.arrayClass .int) (by decide +kernel)) hK hG hS (by rw [sE_n (by decide)]; exact (hF _ (by decide) (by decide)).trans (fE_I kz_342 (by decide) (by decide) (by decide))) (by decide +kernel) (by decide +kernel) (Nat.le_of_ble_eq_true rfl) (Nat.le_of_ble_eq_true rfl) (Nat.le_of_ble_eq_true rfl) dX9_init_85 (fun H hG hS => ?_)
  have hG : GW D b (sE F 332 (.inr (7, [jR b 333, jR b 334, .int 0, .int 0, jR b 335, jR b 336, .int 0, .int 0, jR b 337, .int 0, .int 0, jR b 338, jR b 339, .int 0, .int 0, .int 0, .int 0, jI (-1), .int 0, jR b 340, jR b 341, .null, .null, .int 0, .null, .null, .int 0]))) 343 H := hG
  refine k_putF (ty := .array .int) (v := jR b 342) (E1 := sE F 332 (.inr (7, [jR b 333, jR b 334, .int 0, .int 0, jR b 335, jR b 336, .int 0, .int 0, jR b 337, .int 0, .int 0, jR b 338, jR b 339, .int 0, .int 0, .int 0, .int 0, jI (-1), .int 0, jR b 340, jR b 341, jR b 342, .null, .int 0, .null, .null, .int 0]))) hx hb hts hinX9 tyX9 tyX9_ok nmX9 hown hK hG hS (by decide) (sE_s _ _ _) rfl 21 (by decide) (hts (.fieldLink RX9 42 "CardBandModel" "seenTurns" "[I") (by decide +kernel)) rfl (Or.inr ⟨rfl, hini, rfl⟩) (by decide +kernel) rfl rfl (Nat.le_of_ble_eq_true rfl) dX9_init_87 (sE_sE _ _ _ _) (fun H locs hG hS => ?_)
  refine j_aload_n hx hb dX9_init_90 rfl (lv_at hl 0 rfl) ?_
  refine j_bipush hx hb dX9_init_91 (by decide) ?_
  refine k_newa (z := 8) (N := 8) hx hb (hts (.arrayClass .int) (by decide +kernel)) hK hG hS (by rw [sE_n (by decide)]; exact (hF _ (by decide) (by decide)).trans (fE_I kz_343 (by decide) (by decide) (by decide))) (by decide +kernel) (by decide +kernel) (Nat.le_of_ble_eq_true rfl) (Nat.le_of_ble_eq_true rfl) (Nat.le_of_ble_eq_true rfl) dX9_init_93 (fun H hG hS => ?_)
  have hG : GW D b (sE F 332 (.inr (7, [jR b 333, jR b 334, .int 0, .int 0, jR b 335, jR b 336, .int 0, .int 0, jR b 337, .int 0, .int 0, jR b 338, jR b 339, .int 0, .int 0, .int 0, .int 0, jI (-1), .int 0, jR b 340, jR b 341, jR b 342, .null, .int 0, .null, .null, .int 0]))) 344 H := hG
  refine k_putF (ty := .array .int) (v := jR b 343) (E1 := sE F 332 (.inr (7, [jR b 333, jR b 334, .int 0, .int 0, jR b 335, jR b 336, .int 0, .int 0, jR b 337, .int 0, .int 0, jR b 338, jR b 339, .int 0, .int 0, .int 0, .int 0, jI (-1), .int 0, jR b 340, jR b 341, jR b 342, jR b 343, .int 0, .null, .null, .int 0]))) hx hb hts hinX9 tyX9 tyX9_ok nmX9 hown hK hG hS (by decide) (sE_s _ _ _) rfl 22 (by decide) (hts (.fieldLink RX9 45 "CardBandModel" "seenColour" "[I") (by decide +kernel)) rfl (Or.inr ⟨rfl, hini, rfl⟩) (by decide +kernel) rfl rfl (Nat.le_of_ble_eq_true rfl) dX9_init_95 (sE_sE _ _ _ _) (fun H locs hG hS => ?_)
  refine j_aload_n hx hb dX9_init_98 rfl (lv_at hl 0 rfl) ?_
  refine j_bipush hx hb dX9_init_99 (by decide) ?_
  refine k_newa (z := 20) (N := 20) hx hb (hts (.arrayClass .int) (by decide +kernel)) hK hG hS (by rw [sE_n (by decide)]; exact (hF _ (by decide) (by decide)).trans (fE_I kz_344 (by decide) (by decide) (by decide))) (by decide +kernel) (by decide +kernel) (Nat.le_of_ble_eq_true rfl) (Nat.le_of_ble_eq_true rfl) (Nat.le_of_ble_eq_true rfl) dX9_init_101 (fun H hG hS => ?_)
  have hG : GW D b (sE F 332 (.inr (7, [jR b 333, jR b 334, .int 0, .int 0, jR b 335, jR b 336, .int 0, .int 0, jR b 337, .int 0, .int 0, jR b 338, jR b 339, .int 0, .int 0, .int 0, .int 0, jI (-1), .int 0, jR b 340, jR b 341, jR b 342, jR b 343, .int 0, .null, .null, .int 0]))) 345 H := hG
  refine k_putF (ty := .array .int) (v := jR b 344) (E1 := sE F 332 (.inr (7, [jR b 333, jR b 334, .int 0, .int 0, jR b 335, jR b 336, .int 0, .int 0, jR b 337, .int 0, .int 0, jR b 338, jR b 339, .int 0, .int 0, .int 0, .int 0, jI (-1), .int 0, jR b 340, jR b 341, jR b 342, jR b 343, .int 0, jR b 344, .null, .int 0]))) hx hb hts hinX9 tyX9 tyX9_ok nmX9 hown hK hG hS (by decide) (sE_s _ _ _) rfl 24 (by decide) (hts (.fieldLink RX9 48 "CardBandModel" "bookOf" "[I") (by decide +kernel)) rfl (Or.inr ⟨rfl, hini, rfl⟩) (by decide +kernel) rfl rfl (Nat.le_of_ble_eq_true rfl) dX9_init_103 (sE_sE _ _ _ _) (fun H locs hG hS => ?_)
  refine j_aload_n hx hb dX9_init_106 rfl (lv_at hl 0 rfl) ?_
  refine j_bipush hx hb dX9_init_107 (by decide) ?_
  refine k_newa (z := 20) (N := 20) hx hb (hts (.arrayClass .int) (by decide +kernel)) hK hG hS (by rw [sE_n (by decide)]; exact (hF _ (by decide) (by decide)).trans (fE_I kz_345 (by decide) (by decide) (by decide))) (by decide +kernel) (by decide +kernel) (Nat.le_of_ble_eq_true rfl) (Nat.le_of_ble_eq_true rfl) (Nat.le_of_ble_eq_true rfl) dX9_init_109 (fun H hG hS => ?_)
  have hG : GW D b (sE F 332 (.inr (7, [jR b 333, jR b 334, .int 0, .int 0, jR b 335, jR b 336, .int 0, .int 0, jR b 337, .int 0, .int 0, jR b 338, jR b 339, .int 0, .int 0, .int 0, .int 0, jI (-1), .int 0, jR b 340, jR b 341, jR b 342, jR b 343, .int 0, jR b 344, .null, .int 0]))) 346 H := hG
  refine k_putF (ty := .array .int) (v := jR b 345) (E1 := sE F 332 (.inr (7, [jR b 333, jR b 334, .int 0, .int 0, jR b 335, jR b 336, .int 0, .int 0, jR b 337, .int 0, .int 0, jR b 338, jR b 339, .int 0, .int 0, .int 0, .int 0, jI (-1), .int 0, jR b 340, jR b 341, jR b 342, jR b 343, .int 0, jR b 344, jR b 345, .int 0]))) hx hb hts hinX9 tyX9 tyX9_ok nmX9 hown hK hG hS (by decide) (sE_s _ _ _) rfl 25 (by decide) (hts (.fieldLink RX9 51 "CardBandModel" "bookColour" "[I") (by decide +kernel)) rfl (Or.inr ⟨rfl, hini, rfl⟩) (by decide +kernel) rfl rfl (Nat.le_of_ble_eq_true rfl) dX9_init_111 (sE_sE _ _ _ _) (fun H locs hG hS => ?_)
  have hFa : F 332 = .inr (7, [jR b 333, jR b 334, .int 0, .int 0, jR b 335, jR b 336, .int 0, .int 0, jR b 337, .int 0, .int 0, jR b 338, jR b 339, .int 0, .int 0, .int 0, .int 0, jI (-1), .int 0, jR b 340, jR b 341, jR b 342, jR b 343, .int 0, jR b 344, jR b 345, .int 0]) := by
    rw [(hF _ (by decide) (by decide)), fE_O kz_332 (by decide)]
    rfl
  rw [sE_self hFa] at hG
  exact k_ret hx hb hG hS hr hlk (by decide) (by decide) dX9_init_114
