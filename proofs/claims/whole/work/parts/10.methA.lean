def fJ6_bitCount_0f7a4 (N : Nat) (y0 : Int) (μ : Mm) : Option (Int) :=
    some (andI (((andI (((andI (y0 - (andI (ushI y0 1) 1431655765)) 858993459) + (andI (ushI (y0 - (andI (ushI y0 1) 1431655765)) 2) 858993459)) + (ushI ((andI (y0 - (andI (ushI y0 1) 1431655765)) 858993459) + (andI (ushI (y0 - (andI (ushI y0 1) 1431655765)) 2) 858993459)) 4)) 252645135) + (ushI (andI (((andI (y0 - (andI (ushI y0 1) 1431655765)) 858993459) + (andI (ushI (y0 - (andI (ushI y0 1) 1431655765)) 2) 858993459)) + (ushI ((andI (y0 - (andI (ushI y0 1) 1431655765)) 858993459) + (andI (ushI (y0 - (andI (ushI y0 1) 1431655765)) 2) 858993459)) 4)) 252645135) 8)) + (ushI ((andI (((andI (y0 - (andI (ushI y0 1) 1431655765)) 858993459) + (andI (ushI (y0 - (andI (ushI y0 1) 1431655765)) 2) 858993459)) + (ushI ((andI (y0 - (andI (ushI y0 1) 1431655765)) 858993459) + (andI (ushI (y0 - (andI (ushI y0 1) 1431655765)) 2) 858993459)) 4)) 252645135) + (ushI (andI (((andI (y0 - (andI (ushI y0 1) 1431655765)) 858993459) + (andI (ushI (y0 - (andI (ushI y0 1) 1431655765)) 2) 858993459)) + (ushI ((andI (y0 - (andI (ushI y0 1) 1431655765)) 858993459) + (andI (ushI (y0 - (andI (ushI y0 1) 1431655765)) 2) 858993459)) 4)) 252645135) 8)) 16)) 63)
abbrev rmJ6_bitCount_0f7a4 : Room := { frames := 0, cells := 0, slots := 0, locals := 0 }
set_option maxHeartbeats 4000000 in
set_option maxRecDepth 100000 in
theorem m_J6_bitCount_0f7a4 (l : Launch) (D : va_G) (b : Nat) (cs : CS) (N : Nat) {μ : Mm} {y0 : Int} {r : Int} (h : fJ6_bitCount_0f7a4 N y0 μ = some r) : MI l yJ6_bitCount_0f7a4 wsJ6_bitCount_0f7a4 rmJ6_bitCount_0f7a4 D b cs [jI y0] μ μ r := by
  refine met_in (cc := cJ6_bitCount_0f7a4) (maxL := 1) (ret := some .int) (lv0 := [(0, jI y0)]) (by decide +kernel) rfl (Nat.le_of_ble_eq_true rfl) rfl ?_
  intro p e s m args below meth c hx hb hr hlk hml hown hts hP hK ls hl
  have hown : s.vm.findClass RJ6 = some m.cls := hown
  have hS : va_S (bA b) s.heap s.heap [] := va_S.rf
  unfold fJ6_bitCount_0f7a4 at h
  refine j_iload_n hx hb dJ6_bitCount_0f7a4_0 rfl (lv_at hl 0 rfl) ?_
  refine j_iload_n hx hb dJ6_bitCount_0f7a4_1 rfl (lv_at hl 0 rfl) ?_
  refine j_iconst hx hb dJ6_bitCount_0f7a4_2 ?_
  refine j_iushr hx hb dJ6_bitCount_0f7a4_3 ?_
  refine j_ldcw (n := 1431655765) hx hb hown (hts (.constant RJ6 265 (1431655765)) (by decide +kernel)) (by decide) dJ6_bitCount_0f7a4_4 ?_
  refine j_iand hx hb dJ6_bitCount_0f7a4_7 ?_
  refine j_isub hx hb dJ6_bitCount_0f7a4_8 ?_
  refine j_istore_n (lv2 := [(0, jI (y0 - (andI (ushI y0 1) 1431655765)))]) hx hb dJ6_bitCount_0f7a4_9 rfl hl (by decide) rfl (fun ls hl => ?_)
  refine j_iload_n hx hb dJ6_bitCount_0f7a4_10 rfl (lv_at hl 0 rfl) ?_
  refine j_ldcw (n := 858993459) hx hb hown (hts (.constant RJ6 266 (858993459)) (by decide +kernel)) (by decide) dJ6_bitCount_0f7a4_11 ?_
  refine j_iand hx hb dJ6_bitCount_0f7a4_14 ?_
  refine j_iload_n hx hb dJ6_bitCount_0f7a4_15 rfl (lv_at hl 0 rfl) ?_
  refine j_iconst hx hb dJ6_bitCount_0f7a4_16 ?_
  refine j_iushr hx hb dJ6_bitCount_0f7a4_17 ?_
  refine j_ldcw (n := 858993459) hx hb hown (hts (.constant RJ6 266 (858993459)) (by decide +kernel)) (by decide) dJ6_bitCount_0f7a4_18 ?_
  refine j_iand hx hb dJ6_bitCount_0f7a4_21 ?_
  refine j_iadd hx hb dJ6_bitCount_0f7a4_22 ?_
  refine j_istore_n (lv2 := [(0, jI ((andI (y0 - (andI (ushI y0 1) 1431655765)) 858993459) + (andI (ushI (y0 - (andI (ushI y0 1) 1431655765)) 2) 858993459)))]) hx hb dJ6_bitCount_0f7a4_23 rfl hl (by decide) rfl (fun ls hl => ?_)
  refine j_iload_n hx hb dJ6_bitCount_0f7a4_24 rfl (lv_at hl 0 rfl) ?_
  refine j_iload_n hx hb dJ6_bitCount_0f7a4_25 rfl (lv_at hl 0 rfl) ?_
  refine j_iconst hx hb dJ6_bitCount_0f7a4_26 ?_
  refine j_iushr hx hb dJ6_bitCount_0f7a4_27 ?_
  refine j_iadd hx hb dJ6_bitCount_0f7a4_28 ?_
  refine j_ldcw (n := 252645135) hx hb hown (hts (.constant RJ6 267 (252645135)) (by decide +kernel)) (by decide) dJ6_bitCount_0f7a4_29 ?_
  refine j_iand hx hb dJ6_bitCount_0f7a4_32 ?_
  refine j_istore_n (lv2 := [(0, jI (andI (((andI (y0 - (andI (ushI y0 1) 1431655765)) 858993459) + (andI (ushI (y0 - (andI (ushI y0 1) 1431655765)) 2) 858993459)) + (ushI ((andI (y0 - (andI (ushI y0 1) 1431655765)) 858993459) + (andI (ushI (y0 - (andI (ushI y0 1) 1431655765)) 2) 858993459)) 4)) 252645135))]) hx hb dJ6_bitCount_0f7a4_33 rfl hl (by decide) rfl (fun ls hl => ?_)
  refine j_iload_n hx hb dJ6_bitCount_0f7a4_34 rfl (lv_at hl 0 rfl) ?_
  refine j_iload_n hx hb dJ6_bitCount_0f7a4_35 rfl (lv_at hl 0 rfl) ?_
  refine j_bipush hx hb dJ6_bitCount_0f7a4_36 (by decide) ?_
  refine j_iushr hx hb dJ6_bitCount_0f7a4_38 ?_
  refine j_iadd hx hb dJ6_bitCount_0f7a4_39 ?_
  refine j_istore_n (lv2 := [(0, jI ((andI (((andI (y0 - (andI (ushI y0 1) 1431655765)) 858993459) + (andI (ushI (y0 - (andI (ushI y0 1) 1431655765)) 2) 858993459)) + (ushI ((andI (y0 - (andI (ushI y0 1) 1431655765)) 858993459) + (andI (ushI (y0 - (andI (ushI y0 1) 1431655765)) 2) 858993459)) 4)) 252645135) + (ushI (andI (((andI (y0 - (andI (ushI y0 1) 1431655765)) 858993459) + (andI (ushI (y0 - (andI (ushI y0 1) 1431655765)) 2) 858993459)) + (ushI ((andI (y0 - (andI (ushI y0 1) 1431655765)) 858993459) + (andI (ushI (y0 - (andI (ushI y0 1) 1431655765)) 2) 858993459)) 4)) 252645135) 8)))]) hx hb dJ6_bitCount_0f7a4_40 rfl hl (by decide) rfl (fun ls hl => ?_)
  refine j_iload_n hx hb dJ6_bitCount_0f7a4_41 rfl (lv_at hl 0 rfl) ?_
  refine j_iload_n hx hb dJ6_bitCount_0f7a4_42 rfl (lv_at hl 0 rfl) ?_
  refine j_bipush hx hb dJ6_bitCount_0f7a4_43 (by decide) ?_
  refine j_iushr hx hb dJ6_bitCount_0f7a4_45 ?_
  refine j_iadd hx hb dJ6_bitCount_0f7a4_46 ?_
  refine j_istore_n (lv2 := [(0, jI (((andI (((andI (y0 - (andI (ushI y0 1) 1431655765)) 858993459) + (andI (ushI (y0 - (andI (ushI y0 1) 1431655765)) 2) 858993459)) + (ushI ((andI (y0 - (andI (ushI y0 1) 1431655765)) 858993459) + (andI (ushI (y0 - (andI (ushI y0 1) 1431655765)) 2) 858993459)) 4)) 252645135) + (ushI (andI (((andI (y0 - (andI (ushI y0 1) 1431655765)) 858993459) + (andI (ushI (y0 - (andI (ushI y0 1) 1431655765)) 2) 858993459)) + (ushI ((andI (y0 - (andI (ushI y0 1) 1431655765)) 858993459) + (andI (ushI (y0 - (andI (ushI y0 1) 1431655765)) 2) 858993459)) 4)) 252645135) 8)) + (ushI ((andI (((andI (y0 - (andI (ushI y0 1) 1431655765)) 858993459) + (andI (ushI (y0 - (andI (ushI y0 1) 1431655765)) 2) 858993459)) + (ushI ((andI (y0 - (andI (ushI y0 1) 1431655765)) 858993459) + (andI (ushI (y0 - (andI (ushI y0 1) 1431655765)) 2) 858993459)) 4)) 252645135) + (ushI (andI (((andI (y0 - (andI (ushI y0 1) 1431655765)) 858993459) + (andI (ushI (y0 - (andI (ushI y0 1) 1431655765)) 2) 858993459)) + (ushI ((andI (y0 - (andI (ushI y0 1) 1431655765)) 858993459) + (andI (ushI (y0 - (andI (ushI y0 1) 1431655765)) 2) 858993459)) 4)) 252645135) 8)) 16)))]) hx hb dJ6_bitCount_0f7a4_47 rfl hl (by decide) rfl (fun ls hl => ?_)
  refine j_iload_n hx hb dJ6_bitCount_0f7a4_48 rfl (lv_at hl 0 rfl) ?_
  refine j_bipush hx hb dJ6_bitCount_0f7a4_49 (by decide) ?_
  refine j_iand hx hb dJ6_bitCount_0f7a4_51 ?_
  exact j_retI hx hb hK hP hS hr hlk (Option.some.inj h) dJ6_bitCount_0f7a4_52
def fJ7_fill_53178_l5 (N : Nat) (y0 : Nat) (y1 : Int) : Nat → Int → Mm → Option (Mm)
  | 0, _, _ => none
  | n1 + 1, x2_2, μ3 =>
    if 8 ≤ wr x2_2 then (some μ3) else (Option.bind (stA μ3 y0 8 x2_2 y1) (fun μ5 => (fJ7_fill_53178_l5 N y0 y1 n1) (x2_2 + 1) μ5))
def fJ7_fill_53178 (N : Nat) (y0 : Nat) (y1 : Int) (μ : Mm) : Option (Mm) :=
    fJ7_fill_53178_l5 N y0 y1 N 0 μ
abbrev rmJ7_fill_53178 : Room := { frames := 0, cells := 0, slots := 0, locals := 0 }
set_option maxHeartbeats 4000000 in
set_option maxRecDepth 100000 in
theorem m_J7_fill_53178 (l : Launch) (D : va_G) (b : Nat) (cs : CS) (N : Nat) {μ μ0 : Mm} {y0 : Nat} {y1 : Int} (hky0 : kd y0 = 1008) (h : fJ7_fill_53178 N y0 y1 μ = some μ0) : MM l yJ7_fill_53178 wsJ7_fill_53178 rmJ7_fill_53178 D b cs [jR b y0, jI y1] μ μ0 := by
  refine met_in (cc := cJ7_fill_53178) (maxL := 4) (ret := none) (lv0 := [(0, jR b y0), (1, jI y1)]) (by decide +kernel) rfl (Nat.le_of_ble_eq_true rfl) rfl ?_
  intro p e s m args below meth c hx hb hr hlk hml hown hts hP hK ls hl
  have hown : s.vm.findClass RJ7 = some m.cls := hown
  have hS : va_S (bA b) s.heap s.heap [] := va_S.rf
  unfold fJ7_fill_53178 at h
  refine j_iconst hx hb dJ7_fill_53178_0 ?_
  refine j_istore_n (lv2 := [(2, jI 0), (0, jR b y0), (1, jI y1)]) hx hb dJ7_fill_53178_1 rfl hl (by decide) rfl (fun ls hl => ?_)
  refine j_aload_n hx hb dJ7_fill_53178_2 rfl (lv_at hl 1 rfl) ?_
  refine j_alen hx hb hK hP hky0 dJ7_fill_53178_3 ?_
  refine j_istore_n (lv2 := [(3, jI 8), (2, jI 0), (0, jR b y0), (1, jI y1)]) hx hb dJ7_fill_53178_4 rfl hl (by decide) rfl (fun ls hl => ?_)
  have hl5_1 : ∀ (n0 : Nat) (x2_2 : Int) (μ3 : Mm) (H : Heap) (locs : List Loc) (ls : Array Slot), va_P D vwCl (wl b cs μ3) H → va_S (bA b) s.heap H locs → lv_has ls 4 [(0, jR b y0), (1, jI y1), (2, jI x2_2), (3, jI 8)] → fJ7_fill_53178_l5 N y0 y1 n0 x2_2 μ3 = some μ0 → W p l e rmJ7_fill_53178 s m args below meth c H locs 0 0 (MQ below (QM D b cs μ0) args s 0 0 (bA b)) (F0 m 5 ls []) := by
    intro n0
    induction n0 with
    | zero => intro x2_2 μ3 H locs ls hP hS hl h; rw [fJ7_fill_53178_l5] at h; cases h
    | succ n1 ih5_1 =>
      intro x2_2 μ3 H locs ls hP hS hl h
      rw [fJ7_fill_53178_l5] at h
      refine j_iload_n hx hb dJ7_fill_53178_5 rfl (lv_at hl 2 rfl) ?_
      refine j_iload_n hx hb dJ7_fill_53178_6 rfl (lv_at hl 3 rfl) ?_
      refine j_icmp_ge (A := wr x2_2) (B := 8) (tgt := 20) hx hb rfl (by decide) dJ7_fill_53178_7 (by decide) (fun q4 => ?_) (fun q4 => ?_)
      · replace h := (if_pos q4).symm.trans h
        have e0 := Option.some.inj h
        subst e0
        exact j_retM hx hb hK hP hS hr hlk dJ7_fill_53178_20
      · replace h := (if_neg q4).symm.trans h
        refine j_aload_n hx hb dJ7_fill_53178_10 rfl (lv_at hl 0 rfl) ?_
        refine j_iload_n hx hb dJ7_fill_53178_11 rfl (lv_at hl 2 rfl) ?_
        refine j_iload_n hx hb dJ7_fill_53178_12 rfl (lv_at hl 1 rfl) ?_
        obtain ⟨μ5, e6, h⟩ := ob_I h
        refine j_iastore hx hb hK hP hS hky0 e6 dJ7_fill_53178_13 (fun H locs hP hS => ?_)
        refine j_iinc (k := 2) (lv2 := [(2, jI (x2_2 + 1)), (0, jR b y0), (1, jI y1), (3, jI 8)]) hx hb dJ7_fill_53178_14 hl rfl (by decide) rfl (fun ls hl => ?_)
        refine j_goto (tgt := 5) hx hb dJ7_fill_53178_17 (by decide) ?_
        exact ih5_1 _ _ _ _ _ hP hS (lv_sub hl [1, 2, 0, 3] rfl) h
  exact hl5_1 N _ _ _ _ _ hP hS (lv_sub hl [2, 3, 1, 0] rfl) h
def fJ9_abs_0f7a4 (N : Nat) (y0 : Int) (μ : Mm) : Option (Int) :=
    if 0 ≤ wr y0 then (some y0) else (some (-y0))
abbrev rmJ9_abs_0f7a4 : Room := { frames := 0, cells := 0, slots := 0, locals := 0 }
set_option maxHeartbeats 4000000 in
set_option maxRecDepth 100000 in
theorem m_J9_abs_0f7a4 (l : Launch) (D : va_G) (b : Nat) (cs : CS) (N : Nat) {μ : Mm} {y0 : Int} {r : Int} (h : fJ9_abs_0f7a4 N y0 μ = some r) : MI l yJ9_abs_0f7a4 wsJ9_abs_0f7a4 rmJ9_abs_0f7a4 D b cs [jI y0] μ μ r := by
  refine met_in (cc := cJ9_abs_0f7a4) (maxL := 1) (ret := some .int) (lv0 := [(0, jI y0)]) (by decide +kernel) rfl (Nat.le_of_ble_eq_true rfl) rfl ?_
  intro p e s m args below meth c hx hb hr hlk hml hown hts hP hK ls hl
  have hown : s.vm.findClass RJ9 = some m.cls := hown
  have hS : va_S (bA b) s.heap s.heap [] := va_S.rf
  unfold fJ9_abs_0f7a4 at h
  refine j_iload_n hx hb dJ9_abs_0f7a4_0 rfl (lv_at hl 0 rfl) ?_
  refine j_if_ge (A := wr y0) (tgt := 9) hx hb rfl dJ9_abs_0f7a4_1 (by decide) (fun q1 => ?_) (fun q1 => ?_)
  · replace h := (if_pos q1).symm.trans h
    refine j_iload_n hx hb dJ9_abs_0f7a4_9 rfl (lv_at hl 0 rfl) ?_
    exact j_retI hx hb hK hP hS hr hlk (Option.some.inj h) dJ9_abs_0f7a4_10
  · replace h := (if_neg q1).symm.trans h
    refine j_iload_n hx hb dJ9_abs_0f7a4_4 rfl (lv_at hl 0 rfl) ?_
    refine j_ineg hx hb dJ9_abs_0f7a4_5 ?_
    refine j_goto (tgt := 10) hx hb dJ9_abs_0f7a4_6 (by decide) ?_
    exact j_retI hx hb hK hP hS hr hlk (Option.some.inj h) dJ9_abs_0f7a4_10
def fJ9_floorMod_7cf53 (N : Nat) (y0 : Int) (y1 : Int) (μ : Mm) : Option (Int) :=
    gd (decide (¬ wr y1 = 0)) (if 0 ≤ wr (xorI y0 y1) then (some (rmI y0 y1)) else (if wr (rmI y0 y1) = 0 then (some (rmI y0 y1)) else (some ((rmI y0 y1) + y1))))
abbrev rmJ9_floorMod_7cf53 : Room := { frames := 0, cells := 0, slots := 0, locals := 0 }
set_option maxHeartbeats 4000000 in
set_option maxRecDepth 100000 in
theorem m_J9_floorMod_7cf53 (l : Launch) (D : va_G) (b : Nat) (cs : CS) (N : Nat) {μ : Mm} {y0 y1 : Int} {r : Int} (h : fJ9_floorMod_7cf53 N y0 y1 μ = some r) : MI l yJ9_floorMod_7cf53 wsJ9_floorMod_7cf53 rmJ9_floorMod_7cf53 D b cs [jI y0, jI y1] μ μ r := by
  refine met_in (cc := cJ9_floorMod_7cf53) (maxL := 3) (ret := some .int) (lv0 := [(0, jI y0), (1, jI y1)]) (by decide +kernel) rfl (Nat.le_of_ble_eq_true rfl) rfl ?_
  intro p e s m args below meth c hx hb hr hlk hml hown hts hP hK ls hl
  have hown : s.vm.findClass RJ9 = some m.cls := hown
  have hS : va_S (bA b) s.heap s.heap [] := va_S.rf
  unfold fJ9_floorMod_7cf53 at h
  refine j_iload_n hx hb dJ9_floorMod_7cf53_0 rfl (lv_at hl 0 rfl) ?_
  refine j_iload_n hx hb dJ9_floorMod_7cf53_1 rfl (lv_at hl 1 rfl) ?_
  obtain ⟨g1, h⟩ := ob_g h
  replace g1 := of_decide_eq_true g1
  refine j_irem hx hb dJ9_floorMod_7cf53_2 g1 ?_
  refine j_istore_n (lv2 := [(2, jI (rmI y0 y1)), (0, jI y0), (1, jI y1)]) hx hb dJ9_floorMod_7cf53_3 rfl hl (by decide) rfl (fun ls hl => ?_)
  refine j_iload_n hx hb dJ9_floorMod_7cf53_4 rfl (lv_at hl 1 rfl) ?_
  refine j_iload_n hx hb dJ9_floorMod_7cf53_5 rfl (lv_at hl 2 rfl) ?_
  refine j_ixor hx hb dJ9_floorMod_7cf53_6 ?_
  refine j_if_ge (A := wr (xorI y0 y1)) (tgt := 18) hx hb rfl dJ9_floorMod_7cf53_7 (by decide) (fun q2 => ?_) (fun q2 => ?_)
  · replace h := (if_pos q2).symm.trans h
    refine j_iload_n hx hb dJ9_floorMod_7cf53_18 rfl (lv_at hl 0 rfl) ?_
    exact j_retI hx hb hK hP hS hr hlk (Option.some.inj h) dJ9_floorMod_7cf53_19
  · replace h := (if_neg q2).symm.trans h
    refine j_iload_n hx hb dJ9_floorMod_7cf53_10 rfl (lv_at hl 0 rfl) ?_
    refine j_if_eq (A := wr (rmI y0 y1)) (tgt := 18) hx hb rfl dJ9_floorMod_7cf53_11 (by decide) (fun q3 => ?_) (fun q3 => ?_)
    · replace h := (if_pos q3).symm.trans h
      refine j_iload_n hx hb dJ9_floorMod_7cf53_18 rfl (lv_at hl 0 rfl) ?_
      exact j_retI hx hb hK hP hS hr hlk (Option.some.inj h) dJ9_floorMod_7cf53_19
    · replace h := (if_neg q3).symm.trans h
      refine j_iload_n hx hb dJ9_floorMod_7cf53_14 rfl (lv_at hl 0 rfl) ?_
      refine j_iload_n hx hb dJ9_floorMod_7cf53_15 rfl (lv_at hl 2 rfl) ?_
      refine j_iadd hx hb dJ9_floorMod_7cf53_16 ?_
      exact j_retI hx hb hK hP hS hr hlk (Option.some.inj h) dJ9_floorMod_7cf53_17
def fJ9_max_7cf53 (N : Nat) (y0 : Int) (y1 : Int) (μ : Mm) : Option (Int) :=
    if wr y0 < wr y1 then (some y1) else (some y0)
abbrev rmJ9_max_7cf53 : Room := { frames := 0, cells := 0, slots := 0, locals := 0 }
set_option maxHeartbeats 4000000 in
set_option maxRecDepth 100000 in
theorem m_J9_max_7cf53 (l : Launch) (D : va_G) (b : Nat) (cs : CS) (N : Nat) {μ : Mm} {y0 y1 : Int} {r : Int} (h : fJ9_max_7cf53 N y0 y1 μ = some r) : MI l yJ9_max_7cf53 wsJ9_max_7cf53 rmJ9_max_7cf53 D b cs [jI y0, jI y1] μ μ r := by
  refine met_in (cc := cJ9_max_7cf53) (maxL := 2) (ret := some .int) (lv0 := [(0, jI y0), (1, jI y1)]) (by decide +kernel) rfl (Nat.le_of_ble_eq_true rfl) rfl ?_
  intro p e s m args below meth c hx hb hr hlk hml hown hts hP hK ls hl
  have hown : s.vm.findClass RJ9 = some m.cls := hown
  have hS : va_S (bA b) s.heap s.heap [] := va_S.rf
  unfold fJ9_max_7cf53 at h
  refine j_iload_n hx hb dJ9_max_7cf53_0 rfl (lv_at hl 0 rfl) ?_
  refine j_iload_n hx hb dJ9_max_7cf53_1 rfl (lv_at hl 1 rfl) ?_
  refine j_icmp_lt (A := wr y0) (B := wr y1) (tgt := 9) hx hb rfl rfl dJ9_max_7cf53_2 (by decide) (fun q1 => ?_) (fun q1 => ?_)
  · replace h := (if_pos q1).symm.trans h
    refine j_iload_n hx hb dJ9_max_7cf53_9 rfl (lv_at hl 1 rfl) ?_
    exact j_retI hx hb hK hP hS hr hlk (Option.some.inj h) dJ9_max_7cf53_10
  · replace h := (if_neg q1).symm.trans h
    refine j_iload_n hx hb dJ9_max_7cf53_5 rfl (lv_at hl 0 rfl) ?_
    refine j_goto (tgt := 10) hx hb dJ9_max_7cf53_6 (by decide) ?_
    exact j_retI hx hb hK hP hS hr hlk (Option.some.inj h) dJ9_max_7cf53_10
def fJ9_min_7cf53 (N : Nat) (y0 : Int) (y1 : Int) (μ : Mm) : Option (Int) :=
    if wr y1 < wr y0 then (some y1) else (some y0)
abbrev rmJ9_min_7cf53 : Room := { frames := 0, cells := 0, slots := 0, locals := 0 }
set_option maxHeartbeats 4000000 in
set_option maxRecDepth 100000 in
theorem m_J9_min_7cf53 (l : Launch) (D : va_G) (b : Nat) (cs : CS) (N : Nat) {μ : Mm} {y0 y1 : Int} {r : Int} (h : fJ9_min_7cf53 N y0 y1 μ = some r) : MI l yJ9_min_7cf53 wsJ9_min_7cf53 rmJ9_min_7cf53 D b cs [jI y0, jI y1] μ μ r := by
  refine met_in (cc := cJ9_min_7cf53) (maxL := 2) (ret := some .int) (lv0 := [(0, jI y0), (1, jI y1)]) (by decide +kernel) rfl (Nat.le_of_ble_eq_true rfl) rfl ?_
  intro p e s m args below meth c hx hb hr hlk hml hown hts hP hK ls hl
  have hown : s.vm.findClass RJ9 = some m.cls := hown
  have hS : va_S (bA b) s.heap s.heap [] := va_S.rf
  unfold fJ9_min_7cf53 at h
  refine j_iload_n hx hb dJ9_min_7cf53_0 rfl (lv_at hl 0 rfl) ?_
  refine j_iload_n hx hb dJ9_min_7cf53_1 rfl (lv_at hl 1 rfl) ?_
  refine j_icmp_gt (A := wr y0) (B := wr y1) (tgt := 9) hx hb rfl rfl dJ9_min_7cf53_2 (by decide) (fun q1 => ?_) (fun q1 => ?_)
  · replace h := (if_pos q1).symm.trans h
    refine j_iload_n hx hb dJ9_min_7cf53_9 rfl (lv_at hl 1 rfl) ?_
    exact j_retI hx hb hK hP hS hr hlk (Option.some.inj h) dJ9_min_7cf53_10
  · replace h := (if_neg q1).symm.trans h
    refine j_iload_n hx hb dJ9_min_7cf53_5 rfl (lv_at hl 0 rfl) ?_
    refine j_goto (tgt := 10) hx hb dJ9_min_7cf53_6 (by decide) ?_
    exact j_retI hx hb hK hP hS hr hlk (Option.some.inj h) dJ9_min_7cf53_10
def fX7_countRows (N : Nat) (a : Nat) (μ : Mm) : Option (Int) :=
    some (if wr 24 < wr (gI μ a 8) then 24 else (gI μ a 8))
abbrev rmX7_countRows : Room := { frames := 1, cells := 0, slots := 0, locals := 21 }
set_option maxHeartbeats 4000000 in
set_option maxRecDepth 100000 in
theorem m_X7_countRows (l : Launch) (D : va_G) (b : Nat) (cs : CS) (N : Nat) {μ : Mm} {a : Nat} {r : Int} (hka : kd a = 5) (h : fX7_countRows N a μ = some r) : MI l yX7_countRows wsX7_countRows rmX7_countRows D b cs [jR b a] μ μ r := by
  refine met_in (cc := cX7_countRows) (maxL := 1) (ret := some .int) (lv0 := [(0, jR b a)]) (by decide +kernel) rfl (Nat.le_of_ble_eq_true rfl) rfl ?_
  intro p e s m args below meth c hx hb hr hlk hml hown hts hP hK ls hl
  have hown : s.vm.findClass RX7 = some m.cls := hown
  have hS : va_S (bA b) s.heap s.heap [] := va_S.rf
  have hinX7 : ∀ w ∈ u_ws RX7 TX7 9, w ∈ wsX7_countRows := by decide +kernel
  unfold fX7_countRows at h
  refine j_aload_n hx hb dX7_countRows_0 rfl (lv_at hl 0 rfl) ?_
  refine j_get (v := jI (gI μ a 8)) hx hb hts hinX7 hown hK hP hka (by decide) rfl 8 (by decide) (hts (.fieldLink RX7 56 "CardBand$Weave" "picks" "I") (by decide +kernel)) rfl (by rw [jI_g]; rfl) dX7_countRows_1 ?_
  refine j_bipush hx hb dX7_countRows_4 (by decide) ?_
  refine j_min hx hb hml hl.1 hown (hts (.methodLink RX7 104 Lib.Math.min.name) (by decide +kernel)) (hts (.static Lib.Math.min.name) (by decide +kernel)) (hts (.initialized "java/lang/Math") (by decide +kernel)) (hts (.code Lib.Math.min.name Lib.Math.min.code 2 (some .int)) (by decide +kernel)) (Nat.le_of_ble_eq_true rfl) (Nat.le_of_ble_eq_true rfl) (Nat.zero_le _) (Nat.zero_le _) dX7_countRows_6 ?_
  exact j_retI hx hb hK hP hS hr hlk (Option.some.inj h) dX7_countRows_9
def fX7_slotOf (N : Nat) (y0 : Int) (μ : Mm) : Option (Int) :=
    Option.bind (fJ9_floorMod_7cf53 N y0 24 μ) (fun v2 => some (v2 * 8))
abbrev rmX7_slotOf : Room := { frames := 1, cells := 0, slots := 0, locals := 22 }
set_option maxHeartbeats 4000000 in
set_option maxRecDepth 100000 in
theorem m_X7_slotOf (l : Launch) (D : va_G) (b : Nat) (cs : CS) (N : Nat) {μ : Mm} {y0 : Int} {r : Int} (h : fX7_slotOf N y0 μ = some r) : MI l yX7_slotOf wsX7_slotOf rmX7_slotOf D b cs [jI y0] μ μ r := by
  refine met_in (cc := cX7_slotOf) (maxL := 1) (ret := some .int) (lv0 := [(0, jI y0)]) (by decide +kernel) rfl (Nat.le_of_ble_eq_true rfl) rfl ?_
  intro p e s m args below meth c hx hb hr hlk hml hown hts hP hK ls hl
  have hown : s.vm.findClass RX7 = some m.cls := hown
  have hS : va_S (bA b) s.heap s.heap [] := va_S.rf
  unfold fX7_slotOf at h
  refine j_iload_n hx hb dX7_slotOf_0 rfl (lv_at hl 0 rfl) ?_
  refine j_bipush hx hb dX7_slotOf_1 (by decide) ?_
  obtain ⟨v2, e1, h⟩ := ob_I h
  refine jc_SI (As := [jI y0, jI 24]) (rest := []) ⟨hx, hb, hml, hown, hts⟩ hK hP hS (m_J9_floorMod_7cf53 l D b cs N e1) (va_cwS 2 hts gX7_slotOf_J9_floorMod_7cf53 rfl rfl rfl (by decide +kernel) ⟨Nat.le_of_ble_eq_true rfl, Nat.le_of_ble_eq_true rfl⟩) rfl hl.1 rfl (Nat.le_of_ble_eq_true rfl) dX7_slotOf_3 ⟨Nat.zero_le _, Nat.zero_le _⟩ (fun H locs hP hS => ?_)
  refine j_bipush hx hb dX7_slotOf_6 (by decide) ?_
  refine j_imul hx hb dX7_slotOf_8 ?_
  exact j_retI hx hb hK hP hS hr hlk (Option.some.inj h) dX7_slotOf_9
def fX7_showedAt (N : Nat) (a : Nat) (y1 : Int) (y2 : Int) (μ : Mm) : Option (Int) :=
    if wr y1 < 0 then (some (-1)) else (Option.bind (fX7_countRows N a μ) (fun v3 => if wr v3 ≤ wr y1 then (some (-1)) else (if wr y2 < 0 then (some (-1)) else (if wr y2 < 8 then (Option.bind (fX7_slotOf N (((gI μ a 8) - 1) - y1) μ) (fun v8 => Option.bind (ldA μ (a + 8) 192 (v8 + y2)) (fun v9 => some v9))) else (some (-1))))))
abbrev rmX7_showedAt : Room := { frames := 2, cells := 0, slots := 0, locals := 42 }
set_option maxHeartbeats 4000000 in
set_option maxRecDepth 100000 in
theorem m_X7_showedAt (l : Launch) (D : va_G) (b : Nat) (cs : CS) (N : Nat) {μ : Mm} {a : Nat} {y1 y2 : Int} {r : Int} (hka : kd a = 5) (h : fX7_showedAt N a y1 y2 μ = some r) : MI l yX7_showedAt wsX7_showedAt rmX7_showedAt D b cs [jR b a, jI y1, jI y2] μ μ r := by
  refine met_in (cc := cX7_showedAt) (maxL := 3) (ret := some .int) (lv0 := [(0, jR b a), (1, jI y1), (2, jI y2)]) (by decide +kernel) rfl (Nat.le_of_ble_eq_true rfl) rfl ?_
  intro p e s m args below meth c hx hb hr hlk hml hown hts hP hK ls hl
  have hown : s.vm.findClass RX7 = some m.cls := hown
  have hS : va_S (bA b) s.heap s.heap [] := va_S.rf
  have hinX7 : ∀ w ∈ u_ws RX7 TX7 9, w ∈ wsX7_showedAt := by decide +kernel
  unfold fX7_showedAt at h
  refine j_iload_n hx hb dX7_showedAt_0 rfl (lv_at hl 1 rfl) ?_
  refine j_if_lt (A := wr y1) (tgt := 22) hx hb rfl dX7_showedAt_1 (by decide) (fun q1 => ?_) (fun q1 => ?_)
  · replace h := (if_pos q1).symm.trans h
    refine j_iconst hx hb dX7_showedAt_22 ?_
    exact j_retI hx hb hK hP hS hr hlk (Option.some.inj h) dX7_showedAt_23
  · replace h := (if_neg q1).symm.trans h
    refine j_iload_n hx hb dX7_showedAt_4 rfl (lv_at hl 1 rfl) ?_
    refine j_aload_n hx hb dX7_showedAt_5 rfl (lv_at hl 0 rfl) ?_
    obtain ⟨v3, e2, h⟩ := ob_I h
    refine jc_VI (As := []) (rest := [jI y1]) ⟨hx, hb, hml, hown, hts⟩ hK hP hS (m_X7_countRows l D b cs N hka e2) (cwV 0 hts gX7_showedAt_X7_countRows rfl rfl rfl (by decide +kernel) ⟨Nat.le_of_ble_eq_true rfl, Nat.le_of_ble_eq_true rfl⟩) hka (by decide) rfl rfl hl.1 rfl (Nat.le_of_ble_eq_true rfl) dX7_showedAt_6 ⟨Nat.zero_le _, Nat.zero_le _⟩ (fun H locs hP hS => ?_)
    refine j_icmp_ge (A := wr y1) (B := wr v3) (tgt := 22) hx hb rfl rfl dX7_showedAt_9 (by decide) (fun q4 => ?_) (fun q4 => ?_)
    · replace h := (if_pos q4).symm.trans h
      refine j_iconst hx hb dX7_showedAt_22 ?_
      exact j_retI hx hb hK hP hS hr hlk (Option.some.inj h) dX7_showedAt_23
    · replace h := (if_neg q4).symm.trans h
      refine j_iload_n hx hb dX7_showedAt_12 rfl (lv_at hl 2 rfl) ?_
      refine j_if_lt (A := wr y2) (tgt := 22) hx hb rfl dX7_showedAt_13 (by decide) (fun q5 => ?_) (fun q5 => ?_)
      · replace h := (if_pos q5).symm.trans h
        refine j_iconst hx hb dX7_showedAt_22 ?_
        exact j_retI hx hb hK hP hS hr hlk (Option.some.inj h) dX7_showedAt_23
      · replace h := (if_neg q5).symm.trans h
        refine j_iload_n hx hb dX7_showedAt_16 rfl (lv_at hl 2 rfl) ?_
        refine j_bipush hx hb dX7_showedAt_17 (by decide) ?_
        refine j_icmp_lt (A := wr y2) (B := 8) (tgt := 24) hx hb rfl (by decide) dX7_showedAt_19 (by decide) (fun q6 => ?_) (fun q6 => ?_)
        · replace h := (if_pos q6).symm.trans h
          refine j_aload_n hx hb dX7_showedAt_24 rfl (lv_at hl 0 rfl) ?_
          refine j_get (v := jR b (a + 8)) hx hb hts hinX7 hown hK hP hka (by decide) rfl 7 (by decide) (hts (.fieldLink RX7 33 "CardBand$Weave" "band" "[I") (by decide +kernel)) rfl rfl dX7_showedAt_25 ?_
          refine j_aload_n hx hb dX7_showedAt_28 rfl (lv_at hl 0 rfl) ?_
          refine j_get (v := jI (gI μ a 8)) hx hb hts hinX7 hown hK hP hka (by decide) rfl 8 (by decide) (hts (.fieldLink RX7 56 "CardBand$Weave" "picks" "I") (by decide +kernel)) rfl (by rw [jI_g]; rfl) dX7_showedAt_29 ?_
          refine j_iconst hx hb dX7_showedAt_32 ?_
          refine j_isub hx hb dX7_showedAt_33 ?_
          refine j_iload_n hx hb dX7_showedAt_34 rfl (lv_at hl 1 rfl) ?_
          refine j_isub hx hb dX7_showedAt_35 ?_
          obtain ⟨v8, e7, h⟩ := ob_I h
          refine jc_SI (As := [jI (((gI μ a 8) - 1) - y1)]) (rest := [jR b (a + 8)]) ⟨hx, hb, hml, hown, hts⟩ hK hP hS (m_X7_slotOf l D b cs N e7) (va_cwS 1 hts gX7_showedAt_X7_slotOf rfl rfl rfl (by decide +kernel) ⟨Nat.le_of_ble_eq_true rfl, Nat.le_of_ble_eq_true rfl⟩) rfl hl.1 rfl (Nat.le_of_ble_eq_true rfl) dX7_showedAt_36 ⟨Nat.zero_le _, Nat.zero_le _⟩ (fun H locs hP hS => ?_)
          refine j_iload_n hx hb dX7_showedAt_39 rfl (lv_at hl 2 rfl) ?_
          refine j_iadd hx hb dX7_showedAt_40 ?_
          obtain ⟨v9, e10, h⟩ := ob_I h
          refine j_iaload hx hb hK hP (kX7_8 hka) e10 dX7_showedAt_41 ?_
          exact j_retI hx hb hK hP hS hr hlk (Option.some.inj h) dX7_showedAt_42
        · replace h := (if_neg q6).symm.trans h
          refine j_iconst hx hb dX7_showedAt_22 ?_
          exact j_retI hx hb hK hP hS hr hlk (Option.some.inj h) dX7_showedAt_23
def fX0_isMirrored_l2 (N : Nat) (y0 : Nat) (y1 : Int) (y2 : Int) (μ : Mm) : Nat → Int → Option (Int)
  | 0, _ => none
  | n1 + 1, x3_2 =>
    if wr (dvI y1 2) ≤ wr x3_2 then (some 1) else (Option.bind (fX7_showedAt N y0 y2 x3_2 μ) (fun v5 => Option.bind (fX7_showedAt N y0 y2 ((y1 - 1) - x3_2) μ) (fun v7 => if wr v5 = wr v7 then ((fX0_isMirrored_l2 N y0 y1 y2 μ n1) (x3_2 + 1)) else (some 0))))
def fX0_isMirrored (N : Nat) (y0 : Nat) (y1 : Int) (y2 : Int) (μ : Mm) : Option (Int) :=
    fX0_isMirrored_l2 N y0 y1 y2 μ N 0
abbrev rmX0_isMirrored : Room := { frames := 3, cells := 0, slots := 0, locals := 64 }
set_option maxHeartbeats 4000000 in
set_option maxRecDepth 100000 in
theorem m_X0_isMirrored (l : Launch) (D : va_G) (b : Nat) (cs : CS) (N : Nat) {μ : Mm} {y0 : Nat} {y1 y2 : Int} {r : Int} (hky0 : kd y0 = 5) (h : fX0_isMirrored N y0 y1 y2 μ = some r) : MI l yX0_isMirrored wsX0_isMirrored rmX0_isMirrored D b cs [jR b y0, jI y1, jI y2] μ μ r := by
  refine met_in (cc := cX0_isMirrored) (maxL := 4) (ret := some .boolean) (lv0 := [(0, jR b y0), (1, jI y1), (2, jI y2)]) (by decide +kernel) rfl (Nat.le_of_ble_eq_true rfl) rfl ?_
  intro p e s m args below meth c hx hb hr hlk hml hown hts hP hK ls hl
  have hown : s.vm.findClass RX0 = some m.cls := hown
  have hS : va_S (bA b) s.heap s.heap [] := va_S.rf
  unfold fX0_isMirrored at h
  refine j_iconst hx hb dX0_isMirrored_0 ?_
  refine j_istore_n (lv2 := [(3, jI 0), (0, jR b y0), (1, jI y1), (2, jI y2)]) hx hb dX0_isMirrored_1 rfl hl (by decide) rfl (fun ls hl => ?_)
  have hl2_1 : ∀ (n0 : Nat) (x3_2 : Int) (H : Heap) (locs : List Loc) (ls : Array Slot), va_P D vwCl (wl b cs μ) H → va_S (bA b) s.heap H locs → lv_has ls 4 [(0, jR b y0), (1, jI y1), (2, jI y2), (3, jI x3_2)] → fX0_isMirrored_l2 N y0 y1 y2 μ n0 x3_2 = some r → W p l e rmX0_isMirrored s m args below meth c H locs 0 0 (MQ below (QI D b cs μ r) args s 0 0 (bA b)) (F0 m 2 ls []) := by
    intro n0
    induction n0 with
    | zero => intro x3_2 H locs ls hP hS hl h; rw [fX0_isMirrored_l2] at h; cases h
    | succ n1 ih2_1 =>
      intro x3_2 H locs ls hP hS hl h
      rw [fX0_isMirrored_l2] at h
      refine j_iload_n hx hb dX0_isMirrored_2 rfl (lv_at hl 3 rfl) ?_
      refine j_iload_n hx hb dX0_isMirrored_3 rfl (lv_at hl 1 rfl) ?_
      refine j_iconst hx hb dX0_isMirrored_4 ?_
      refine j_idiv hx hb dX0_isMirrored_5 (by decide) ?_
      refine j_icmp_ge (A := wr x3_2) (B := wr (dvI y1 2)) (tgt := 36) hx hb rfl rfl dX0_isMirrored_6 (by decide) (fun q3 => ?_) (fun q3 => ?_)
      · replace h := (if_pos q3).symm.trans h
        refine j_iconst hx hb dX0_isMirrored_36 ?_
        exact j_retZ hx hb hK hP hS hr hlk (by decide) (Option.some.inj h) dX0_isMirrored_37
      · replace h := (if_neg q3).symm.trans h
        refine j_aload_n hx hb dX0_isMirrored_9 rfl (lv_at hl 0 rfl) ?_
        refine j_iload_n hx hb dX0_isMirrored_10 rfl (lv_at hl 2 rfl) ?_
        refine j_iload_n hx hb dX0_isMirrored_11 rfl (lv_at hl 3 rfl) ?_
        obtain ⟨v5, e4, h⟩ := ob_I h
        refine jc_VI (As := [jI y2, jI x3_2]) (rest := []) ⟨hx, hb, hml, hown, hts⟩ hK hP hS (m_X7_showedAt l D b cs N hky0 e4) (cwV 2 hts gX0_isMirrored_X7_showedAt rfl rfl rfl (by decide +kernel) ⟨Nat.le_of_ble_eq_true rfl, Nat.le_of_ble_eq_true rfl⟩) hky0 (by decide) rfl rfl hl.1 rfl (Nat.le_of_ble_eq_true rfl) dX0_isMirrored_12 ⟨Nat.zero_le _, Nat.zero_le _⟩ (fun H locs hP hS => ?_)
        refine j_aload_n hx hb dX0_isMirrored_15 rfl (lv_at hl 0 rfl) ?_
        refine j_iload_n hx hb dX0_isMirrored_16 rfl (lv_at hl 2 rfl) ?_
        refine j_iload_n hx hb dX0_isMirrored_17 rfl (lv_at hl 1 rfl) ?_
        refine j_iconst hx hb dX0_isMirrored_18 ?_
        refine j_isub hx hb dX0_isMirrored_19 ?_
        refine j_iload_n hx hb dX0_isMirrored_20 rfl (lv_at hl 3 rfl) ?_
        refine j_isub hx hb dX0_isMirrored_21 ?_
        obtain ⟨v7, e6, h⟩ := ob_I h
        refine jc_VI (As := [jI y2, jI ((y1 - 1) - x3_2)]) (rest := [jI v5]) ⟨hx, hb, hml, hown, hts⟩ hK hP hS (m_X7_showedAt l D b cs N hky0 e6) (cwV 2 hts gX0_isMirrored_X7_showedAt rfl rfl rfl (by decide +kernel) ⟨Nat.le_of_ble_eq_true rfl, Nat.le_of_ble_eq_true rfl⟩) hky0 (by decide) rfl rfl hl.1 rfl (Nat.le_of_ble_eq_true rfl) dX0_isMirrored_22 ⟨Nat.zero_le _, Nat.zero_le _⟩ (fun H locs hP hS => ?_)
        refine j_icmp_eq (A := wr v5) (B := wr v7) (tgt := 30) hx hb rfl rfl dX0_isMirrored_25 (by decide) (fun q8 => ?_) (fun q8 => ?_)
        · replace h := (if_pos q8).symm.trans h
          refine j_iinc (k := 3) (lv2 := [(3, jI (x3_2 + 1)), (0, jR b y0), (1, jI y1), (2, jI y2)]) hx hb dX0_isMirrored_30 hl rfl (by decide) rfl (fun ls hl => ?_)
          refine j_goto (tgt := 2) hx hb dX0_isMirrored_33 (by decide) ?_
          exact ih2_1 _ _ _ _ hP hS (lv_sub hl [1, 2, 3, 0] rfl) h
        · replace h := (if_neg q8).symm.trans h
          refine j_iconst hx hb dX0_isMirrored_28 ?_
          exact j_retZ hx hb hK hP hS hr hlk (by decide) (Option.some.inj h) dX0_isMirrored_29
  exact hl2_1 N _ _ _ _ hP hS (lv_sub hl [1, 2, 3, 0] rfl) h
def fX0_countMirrored_l4 (N : Nat) (y0 : Nat) (y1 : Int) (μ : Mm) : Nat → Int → Int → Option (Int)
  | 0, _, _ => none
  | n1 + 1, x2_2, x3_3 =>
    Option.bind (fX7_countRows N y0 μ) (fun v5 => if wr v5 ≤ wr x3_3 then (some x2_2) else (Option.bind (fX0_isMirrored N y0 y1 x3_3 μ) (fun v8 => if wr v8 = 0 then ((fX0_countMirrored_l4 N y0 y1 μ n1) x2_2 (x3_3 + 1)) else ((fX0_countMirrored_l4 N y0 y1 μ n1) (x2_2 + 1) (x3_3 + 1)))))
def fX0_countMirrored (N : Nat) (y0 : Nat) (y1 : Int) (μ : Mm) : Option (Int) :=
    fX0_countMirrored_l4 N y0 y1 μ N 0 0
abbrev rmX0_countMirrored : Room := { frames := 4, cells := 0, slots := 0, locals := 87 }
set_option maxHeartbeats 4000000 in
set_option maxRecDepth 100000 in
theorem m_X0_countMirrored (l : Launch) (D : va_G) (b : Nat) (cs : CS) (N : Nat) {μ : Mm} {y0 : Nat} {y1 : Int} {r : Int} (hky0 : kd y0 = 5) (h : fX0_countMirrored N y0 y1 μ = some r) : MI l yX0_countMirrored wsX0_countMirrored rmX0_countMirrored D b cs [jR b y0, jI y1] μ μ r := by
  refine met_in (cc := cX0_countMirrored) (maxL := 4) (ret := some .int) (lv0 := [(0, jR b y0), (1, jI y1)]) (by decide +kernel) rfl (Nat.le_of_ble_eq_true rfl) rfl ?_
  intro p e s m args below meth c hx hb hr hlk hml hown hts hP hK ls hl
  have hown : s.vm.findClass RX0 = some m.cls := hown
  have hS : va_S (bA b) s.heap s.heap [] := va_S.rf
  unfold fX0_countMirrored at h
  refine j_iconst hx hb dX0_countMirrored_0 ?_
  refine j_istore_n (lv2 := [(2, jI 0), (0, jR b y0), (1, jI y1)]) hx hb dX0_countMirrored_1 rfl hl (by decide) rfl (fun ls hl => ?_)
  refine j_iconst hx hb dX0_countMirrored_2 ?_
  refine j_istore_n (lv2 := [(3, jI 0), (2, jI 0), (0, jR b y0), (1, jI y1)]) hx hb dX0_countMirrored_3 rfl hl (by decide) rfl (fun ls hl => ?_)
  have hl4_1 : ∀ (n0 : Nat) (x2_2 : Int) (x3_3 : Int) (H : Heap) (locs : List Loc) (ls : Array Slot), va_P D vwCl (wl b cs μ) H → va_S (bA b) s.heap H locs → lv_has ls 4 [(0, jR b y0), (1, jI y1), (2, jI x2_2), (3, jI x3_3)] → fX0_countMirrored_l4 N y0 y1 μ n0 x2_2 x3_3 = some r → W p l e rmX0_countMirrored s m args below meth c H locs 0 0 (MQ below (QI D b cs μ r) args s 0 0 (bA b)) (F0 m 4 ls []) := by
    intro n0
    induction n0 with
    | zero => intro x2_2 x3_3 H locs ls hP hS hl h; rw [fX0_countMirrored_l4] at h; cases h
    | succ n1 ih4_1 =>
      intro x2_2 x3_3 H locs ls hP hS hl h
      rw [fX0_countMirrored_l4] at h
      refine j_iload_n hx hb dX0_countMirrored_4 rfl (lv_at hl 3 rfl) ?_
      refine j_aload_n hx hb dX0_countMirrored_5 rfl (lv_at hl 0 rfl) ?_
      obtain ⟨v5, e4, h⟩ := ob_I h
      refine jc_VI (As := []) (rest := [jI x3_3]) ⟨hx, hb, hml, hown, hts⟩ hK hP hS (m_X7_countRows l D b cs N hky0 e4) (cwV 0 hts gX0_countMirrored_X7_countRows rfl rfl rfl (by decide +kernel) ⟨Nat.le_of_ble_eq_true rfl, Nat.le_of_ble_eq_true rfl⟩) hky0 (by decide) rfl rfl hl.1 rfl (Nat.le_of_ble_eq_true rfl) dX0_countMirrored_6 ⟨Nat.zero_le _, Nat.zero_le _⟩ (fun H locs hP hS => ?_)
      refine j_icmp_ge (A := wr x3_3) (B := wr v5) (tgt := 30) hx hb rfl rfl dX0_countMirrored_9 (by decide) (fun q6 => ?_) (fun q6 => ?_)
      · replace h := (if_pos q6).symm.trans h
        refine j_iload_n hx hb dX0_countMirrored_30 rfl (lv_at hl 2 rfl) ?_
        exact j_retI hx hb hK hP hS hr hlk (Option.some.inj h) dX0_countMirrored_31
      · replace h := (if_neg q6).symm.trans h
        refine j_aload_n hx hb dX0_countMirrored_12 rfl (lv_at hl 0 rfl) ?_
        refine j_iload_n hx hb dX0_countMirrored_13 rfl (lv_at hl 1 rfl) ?_
        refine j_iload_n hx hb dX0_countMirrored_14 rfl (lv_at hl 3 rfl) ?_
        obtain ⟨v8, e7, h⟩ := ob_I h
        refine jc_SI (As := [jR b y0, jI y1, jI x3_3]) (rest := []) ⟨hx, hb, hml, hown, hts⟩ hK hP hS (m_X0_isMirrored l D b cs N hky0 e7) (va_cwS 3 hts gX0_countMirrored_X0_isMirrored rfl rfl rfl (by decide +kernel) ⟨Nat.le_of_ble_eq_true rfl, Nat.le_of_ble_eq_true rfl⟩) rfl hl.1 rfl (Nat.le_of_ble_eq_true rfl) dX0_countMirrored_15 ⟨Nat.zero_le _, Nat.zero_le _⟩ (fun H locs hP hS => ?_)
        refine j_if_eq (A := wr v8) (tgt := 24) hx hb rfl dX0_countMirrored_18 (by decide) (fun q9 => ?_) (fun q9 => ?_)
        · replace h := (if_pos q9).symm.trans h
          refine j_iinc (k := 3) (lv2 := [(3, jI (x3_3 + 1)), (0, jR b y0), (1, jI y1), (2, jI x2_2)]) hx hb dX0_countMirrored_24 hl rfl (by decide) rfl (fun ls hl => ?_)
          refine j_goto (tgt := 4) hx hb dX0_countMirrored_27 (by decide) ?_
          exact ih4_1 _ _ _ _ _ hP hS (lv_sub hl [1, 2, 3, 0] rfl) h
        · replace h := (if_neg q9).symm.trans h
          refine j_iinc (k := 2) (lv2 := [(2, jI (x2_2 + 1)), (0, jR b y0), (1, jI y1), (3, jI x3_3)]) hx hb dX0_countMirrored_21 hl rfl (by decide) rfl (fun ls hl => ?_)
          refine j_iinc (k := 3) (lv2 := [(3, jI (x3_3 + 1)), (2, jI (x2_2 + 1)), (0, jR b y0), (1, jI y1)]) hx hb dX0_countMirrored_24 hl rfl (by decide) rfl (fun ls hl => ?_)
          refine j_goto (tgt := 4) hx hb dX0_countMirrored_27 (by decide) ?_
          exact ih4_1 _ _ _ _ _ hP hS (lv_sub hl [2, 3, 1, 0] rfl) h
  exact hl4_1 N _ _ _ _ _ hP hS (lv_sub hl [2, 3, 1, 0] rfl) h
def fX0_countShown_l17 (N : Nat) (y0 : Nat) (y1 : Int) (y2 : Int) (μ : Mm) (x4_3 : Int) (rec5_1 : Int → Int → Option (Int)) : Nat → Int → Int → Option (Int)
  | 0, _, _ => none
  | n7 + 1, x3_8, x5_9 =>
    if wr y1 ≤ wr x5_9 then (rec5_1 x3_8 (x4_3 + 1)) else (Option.bind (fX7_showedAt N y0 x4_3 x5_9 μ) (fun v12 => if wr v12 = wr y2 then ((fX0_countShown_l17 N y0 y1 y2 μ x4_3 rec5_1 n7) (x3_8 + 1) (x5_9 + 1)) else ((fX0_countShown_l17 N y0 y1 y2 μ x4_3 rec5_1 n7) x3_8 (x5_9 + 1))))
def fX0_countShown_l5 (N : Nat) (y0 : Nat) (y1 : Int) (y2 : Int) (μ : Mm) : Nat → Int → Int → Option (Int)
  | 0, _, _ => none
  | n1 + 1, x3_2, x4_3 =>
    Option.bind (fX7_countRows N y0 μ) (fun v5 => if wr v5 ≤ wr x4_3 then (some x3_2) else (fX0_countShown_l17 N y0 y1 y2 μ x4_3 (fX0_countShown_l5 N y0 y1 y2 μ n1) N x3_2 0))
def fX0_countShown (N : Nat) (y0 : Nat) (y1 : Int) (y2 : Int) (μ : Mm) : Option (Int) :=
    fX0_countShown_l5 N y0 y1 y2 μ N 0 0
abbrev rmX0_countShown : Room := { frames := 3, cells := 0, slots := 0, locals := 64 }
set_option maxHeartbeats 4000000 in
set_option maxRecDepth 100000 in
theorem m_X0_countShown (l : Launch) (D : va_G) (b : Nat) (cs : CS) (N : Nat) {μ : Mm} {y0 : Nat} {y1 y2 : Int} {r : Int} (hky0 : kd y0 = 5) (h : fX0_countShown N y0 y1 y2 μ = some r) : MI l yX0_countShown wsX0_countShown rmX0_countShown D b cs [jR b y0, jI y1, jI y2] μ μ r := by
  refine met_in (cc := cX0_countShown) (maxL := 6) (ret := some .int) (lv0 := [(0, jR b y0), (1, jI y1), (2, jI y2)]) (by decide +kernel) rfl (Nat.le_of_ble_eq_true rfl) rfl ?_
  intro p e s m args below meth c hx hb hr hlk hml hown hts hP hK ls hl
  have hown : s.vm.findClass RX0 = some m.cls := hown
  have hS : va_S (bA b) s.heap s.heap [] := va_S.rf
  unfold fX0_countShown at h
  refine j_iconst hx hb dX0_countShown_0 ?_
  refine j_istore_n (lv2 := [(3, jI 0), (0, jR b y0), (1, jI y1), (2, jI y2)]) hx hb dX0_countShown_1 rfl hl (by decide) rfl (fun ls hl => ?_)
  refine j_iconst hx hb dX0_countShown_2 ?_
  refine j_istore (lv2 := [(4, jI 0), (3, jI 0), (0, jR b y0), (1, jI y1), (2, jI y2)]) hx hb dX0_countShown_3 hl (by decide) rfl (fun ls hl => ?_)
  have hl5_1 : ∀ (n0 : Nat) (x3_2 : Int) (x4_3 : Int) (H : Heap) (locs : List Loc) (ls : Array Slot), va_P D vwCl (wl b cs μ) H → va_S (bA b) s.heap H locs → lv_has ls 6 [(0, jR b y0), (1, jI y1), (2, jI y2), (3, jI x3_2), (4, jI x4_3)] → fX0_countShown_l5 N y0 y1 y2 μ n0 x3_2 x4_3 = some r → W p l e rmX0_countShown s m args below meth c H locs 0 0 (MQ below (QI D b cs μ r) args s 0 0 (bA b)) (F0 m 5 ls []) := by
    intro n0
    induction n0 with
    | zero => intro x3_2 x4_3 H locs ls hP hS hl h; rw [fX0_countShown_l5] at h; cases h
    | succ n1 ih5_1 =>
      intro x3_2 x4_3 H locs ls hP hS hl h
      rw [fX0_countShown_l5] at h
      refine j_iload hx hb dX0_countShown_5 (lv_at hl 4 rfl) ?_
      refine j_aload_n hx hb dX0_countShown_7 rfl (lv_at hl 0 rfl) ?_
      obtain ⟨v5, e4, h⟩ := ob_I h
      refine jc_VI (As := []) (rest := [jI x4_3]) ⟨hx, hb, hml, hown, hts⟩ hK hP hS (m_X7_countRows l D b cs N hky0 e4) (cwV 0 hts gX0_countShown_X7_countRows rfl rfl rfl (by decide +kernel) ⟨Nat.le_of_ble_eq_true rfl, Nat.le_of_ble_eq_true rfl⟩) hky0 (by decide) rfl rfl hl.1 rfl (Nat.le_of_ble_eq_true rfl) dX0_countShown_8 ⟨Nat.zero_le _, Nat.zero_le _⟩ (fun H locs hP hS => ?_)
      refine j_icmp_ge (A := wr x4_3) (B := wr v5) (tgt := 50) hx hb rfl rfl dX0_countShown_11 (by decide) (fun q6 => ?_) (fun q6 => ?_)
      · replace h := (if_pos q6).symm.trans h
        refine j_iload_n hx hb dX0_countShown_50 rfl (lv_at hl 3 rfl) ?_
        exact j_retI hx hb hK hP hS hr hlk (Option.some.inj h) dX0_countShown_51
      · replace h := (if_neg q6).symm.trans h
        refine j_iconst hx hb dX0_countShown_14 ?_
        refine j_istore (lv2 := [(5, jI 0), (0, jR b y0), (1, jI y1), (2, jI y2), (3, jI x3_2), (4, jI x4_3)]) hx hb dX0_countShown_15 hl (by decide) rfl (fun ls hl => ?_)
        have hl17_7 : ∀ (n0 : Nat) (x3_8 : Int) (x5_9 : Int) (H : Heap) (locs : List Loc) (ls : Array Slot), va_P D vwCl (wl b cs μ) H → va_S (bA b) s.heap H locs → lv_has ls 6 [(0, jR b y0), (1, jI y1), (2, jI y2), (3, jI x3_8), (4, jI x4_3), (5, jI x5_9)] → fX0_countShown_l17 N y0 y1 y2 μ x4_3 (fX0_countShown_l5 N y0 y1 y2 μ n1) n0 x3_8 x5_9 = some r → W p l e rmX0_countShown s m args below meth c H locs 0 0 (MQ below (QI D b cs μ r) args s 0 0 (bA b)) (F0 m 17 ls []) := by
          intro n0
          induction n0 with
          | zero => intro x3_8 x5_9 H locs ls hP hS hl h; rw [fX0_countShown_l17] at h; cases h
          | succ n7 ih17_7 =>
            intro x3_8 x5_9 H locs ls hP hS hl h
            rw [fX0_countShown_l17] at h
            refine j_iload hx hb dX0_countShown_17 (lv_at hl 5 rfl) ?_
            refine j_iload_n hx hb dX0_countShown_19 rfl (lv_at hl 1 rfl) ?_
            refine j_icmp_ge (A := wr x5_9) (B := wr y1) (tgt := 44) hx hb rfl rfl dX0_countShown_20 (by decide) (fun q10 => ?_) (fun q10 => ?_)
            · replace h := (if_pos q10).symm.trans h
              refine j_iinc (k := 4) (lv2 := [(4, jI (x4_3 + 1)), (0, jR b y0), (1, jI y1), (2, jI y2), (3, jI x3_8), (5, jI x5_9)]) hx hb dX0_countShown_44 hl rfl (by decide) rfl (fun ls hl => ?_)
              refine j_goto (tgt := 5) hx hb dX0_countShown_47 (by decide) ?_
              exact ih5_1 _ _ _ _ _ hP hS (lv_sub hl [1, 2, 3, 4, 0] rfl) h
            · replace h := (if_neg q10).symm.trans h
              refine j_aload_n hx hb dX0_countShown_23 rfl (lv_at hl 0 rfl) ?_
              refine j_iload hx hb dX0_countShown_24 (lv_at hl 4 rfl) ?_
              refine j_iload hx hb dX0_countShown_26 (lv_at hl 5 rfl) ?_
              obtain ⟨v12, e11, h⟩ := ob_I h
              refine jc_VI (As := [jI x4_3, jI x5_9]) (rest := []) ⟨hx, hb, hml, hown, hts⟩ hK hP hS (m_X7_showedAt l D b cs N hky0 e11) (cwV 2 hts gX0_countShown_X7_showedAt rfl rfl rfl (by decide +kernel) ⟨Nat.le_of_ble_eq_true rfl, Nat.le_of_ble_eq_true rfl⟩) hky0 (by decide) rfl rfl hl.1 rfl (Nat.le_of_ble_eq_true rfl) dX0_countShown_28 ⟨Nat.zero_le _, Nat.zero_le _⟩ (fun H locs hP hS => ?_)
              refine j_iload_n hx hb dX0_countShown_31 rfl (lv_at hl 2 rfl) ?_
              refine j_icmp_ne (A := wr v12) (B := wr y2) (tgt := 38) hx hb rfl rfl dX0_countShown_32 (by decide) (fun q13 => ?_) (fun q13 => ?_)
              · replace h := (if_neg q13).symm.trans h
                refine j_iinc (k := 5) (lv2 := [(5, jI (x5_9 + 1)), (0, jR b y0), (1, jI y1), (2, jI y2), (3, jI x3_8), (4, jI x4_3)]) hx hb dX0_countShown_38 hl rfl (by decide) rfl (fun ls hl => ?_)
                refine j_goto (tgt := 17) hx hb dX0_countShown_41 (by decide) ?_
                exact ih17_7 _ _ _ _ _ hP hS (lv_sub hl [1, 2, 3, 4, 5, 0] rfl) h
              · replace h := (if_pos q13).symm.trans h
                refine j_iinc (k := 3) (lv2 := [(3, jI (x3_8 + 1)), (0, jR b y0), (1, jI y1), (2, jI y2), (4, jI x4_3), (5, jI x5_9)]) hx hb dX0_countShown_35 hl rfl (by decide) rfl (fun ls hl => ?_)
                refine j_iinc (k := 5) (lv2 := [(5, jI (x5_9 + 1)), (3, jI (x3_8 + 1)), (0, jR b y0), (1, jI y1), (2, jI y2), (4, jI x4_3)]) hx hb dX0_countShown_38 hl rfl (by decide) rfl (fun ls hl => ?_)
                refine j_goto (tgt := 17) hx hb dX0_countShown_41 (by decide) ?_
                exact ih17_7 _ _ _ _ _ hP hS (lv_sub hl [2, 3, 4, 1, 5, 0] rfl) h
        exact hl17_7 N _ _ _ _ _ hP hS (lv_sub hl [1, 2, 3, 4, 5, 0] rfl) h
  exact hl5_1 N _ _ _ _ _ hP hS (lv_sub hl [2, 3, 4, 1, 0] rfl) h
def fX0_showedSame_l2 (N : Nat) (y0 : Nat) (y1 : Int) (y2 : Int) (μ : Mm) : Nat → Int → Option (Int)
  | 0, _ => none
  | n1 + 1, x3_2 =>
    Option.bind (fX7_countRows N y0 μ) (fun v4 => if wr v4 ≤ wr x3_2 then (some 1) else (Option.bind (fX7_showedAt N y0 x3_2 y1 μ) (fun v7 => Option.bind (fX7_showedAt N y0 x3_2 y2 μ) (fun v9 => if wr v7 = wr v9 then ((fX0_showedSame_l2 N y0 y1 y2 μ n1) (x3_2 + 1)) else (some 0)))))
def fX0_showedSame (N : Nat) (y0 : Nat) (y1 : Int) (y2 : Int) (μ : Mm) : Option (Int) :=
    fX0_showedSame_l2 N y0 y1 y2 μ N 0
abbrev rmX0_showedSame : Room := { frames := 3, cells := 0, slots := 0, locals := 64 }
set_option maxHeartbeats 4000000 in
set_option maxRecDepth 100000 in
theorem m_X0_showedSame (l : Launch) (D : va_G) (b : Nat) (cs : CS) (N : Nat) {μ : Mm} {y0 : Nat} {y1 y2 : Int} {r : Int} (hky0 : kd y0 = 5) (h : fX0_showedSame N y0 y1 y2 μ = some r) : MI l yX0_showedSame wsX0_showedSame rmX0_showedSame D b cs [jR b y0, jI y1, jI y2] μ μ r := by
  refine met_in (cc := cX0_showedSame) (maxL := 4) (ret := some .boolean) (lv0 := [(0, jR b y0), (1, jI y1), (2, jI y2)]) (by decide +kernel) rfl (Nat.le_of_ble_eq_true rfl) rfl ?_
  intro p e s m args below meth c hx hb hr hlk hml hown hts hP hK ls hl
  have hown : s.vm.findClass RX0 = some m.cls := hown
  have hS : va_S (bA b) s.heap s.heap [] := va_S.rf
  unfold fX0_showedSame at h
  refine j_iconst hx hb dX0_showedSame_0 ?_
  refine j_istore_n (lv2 := [(3, jI 0), (0, jR b y0), (1, jI y1), (2, jI y2)]) hx hb dX0_showedSame_1 rfl hl (by decide) rfl (fun ls hl => ?_)
  have hl2_1 : ∀ (n0 : Nat) (x3_2 : Int) (H : Heap) (locs : List Loc) (ls : Array Slot), va_P D vwCl (wl b cs μ) H → va_S (bA b) s.heap H locs → lv_has ls 4 [(0, jR b y0), (1, jI y1), (2, jI y2), (3, jI x3_2)] → fX0_showedSame_l2 N y0 y1 y2 μ n0 x3_2 = some r → W p l e rmX0_showedSame s m args below meth c H locs 0 0 (MQ below (QI D b cs μ r) args s 0 0 (bA b)) (F0 m 2 ls []) := by
    intro n0
    induction n0 with
    | zero => intro x3_2 H locs ls hP hS hl h; rw [fX0_showedSame_l2] at h; cases h
    | succ n1 ih2_1 =>
      intro x3_2 H locs ls hP hS hl h
      rw [fX0_showedSame_l2] at h
      refine j_iload_n hx hb dX0_showedSame_2 rfl (lv_at hl 3 rfl) ?_
      refine j_aload_n hx hb dX0_showedSame_3 rfl (lv_at hl 0 rfl) ?_
      obtain ⟨v4, e3, h⟩ := ob_I h
      refine jc_VI (As := []) (rest := [jI x3_2]) ⟨hx, hb, hml, hown, hts⟩ hK hP hS (m_X7_countRows l D b cs N hky0 e3) (cwV 0 hts gX0_showedSame_X7_countRows rfl rfl rfl (by decide +kernel) ⟨Nat.le_of_ble_eq_true rfl, Nat.le_of_ble_eq_true rfl⟩) hky0 (by decide) rfl rfl hl.1 rfl (Nat.le_of_ble_eq_true rfl) dX0_showedSame_4 ⟨Nat.zero_le _, Nat.zero_le _⟩ (fun H locs hP hS => ?_)
      refine j_icmp_ge (A := wr x3_2) (B := wr v4) (tgt := 33) hx hb rfl rfl dX0_showedSame_7 (by decide) (fun q5 => ?_) (fun q5 => ?_)
      · replace h := (if_pos q5).symm.trans h
        refine j_iconst hx hb dX0_showedSame_33 ?_
        exact j_retZ hx hb hK hP hS hr hlk (by decide) (Option.some.inj h) dX0_showedSame_34
      · replace h := (if_neg q5).symm.trans h
        refine j_aload_n hx hb dX0_showedSame_10 rfl (lv_at hl 0 rfl) ?_
        refine j_iload_n hx hb dX0_showedSame_11 rfl (lv_at hl 3 rfl) ?_
        refine j_iload_n hx hb dX0_showedSame_12 rfl (lv_at hl 1 rfl) ?_
        obtain ⟨v7, e6, h⟩ := ob_I h
        refine jc_VI (As := [jI x3_2, jI y1]) (rest := []) ⟨hx, hb, hml, hown, hts⟩ hK hP hS (m_X7_showedAt l D b cs N hky0 e6) (cwV 2 hts gX0_showedSame_X7_showedAt rfl rfl rfl (by decide +kernel) ⟨Nat.le_of_ble_eq_true rfl, Nat.le_of_ble_eq_true rfl⟩) hky0 (by decide) rfl rfl hl.1 rfl (Nat.le_of_ble_eq_true rfl) dX0_showedSame_13 ⟨Nat.zero_le _, Nat.zero_le _⟩ (fun H locs hP hS => ?_)
        refine j_aload_n hx hb dX0_showedSame_16 rfl (lv_at hl 0 rfl) ?_
        refine j_iload_n hx hb dX0_showedSame_17 rfl (lv_at hl 3 rfl) ?_
        refine j_iload_n hx hb dX0_showedSame_18 rfl (lv_at hl 2 rfl) ?_
        obtain ⟨v9, e8, h⟩ := ob_I h
        refine jc_VI (As := [jI x3_2, jI y2]) (rest := [jI v7]) ⟨hx, hb, hml, hown, hts⟩ hK hP hS (m_X7_showedAt l D b cs N hky0 e8) (cwV 2 hts gX0_showedSame_X7_showedAt rfl rfl rfl (by decide +kernel) ⟨Nat.le_of_ble_eq_true rfl, Nat.le_of_ble_eq_true rfl⟩) hky0 (by decide) rfl rfl hl.1 rfl (Nat.le_of_ble_eq_true rfl) dX0_showedSame_19 ⟨Nat.zero_le _, Nat.zero_le _⟩ (fun H locs hP hS => ?_)
        refine j_icmp_eq (A := wr v7) (B := wr v9) (tgt := 27) hx hb rfl rfl dX0_showedSame_22 (by decide) (fun q10 => ?_) (fun q10 => ?_)
        · replace h := (if_pos q10).symm.trans h
          refine j_iinc (k := 3) (lv2 := [(3, jI (x3_2 + 1)), (0, jR b y0), (1, jI y1), (2, jI y2)]) hx hb dX0_showedSame_27 hl rfl (by decide) rfl (fun ls hl => ?_)
          refine j_goto (tgt := 2) hx hb dX0_showedSame_30 (by decide) ?_
          exact ih2_1 _ _ _ _ hP hS (lv_sub hl [1, 2, 3, 0] rfl) h
        · replace h := (if_neg q10).symm.trans h
          refine j_iconst hx hb dX0_showedSame_25 ?_
          exact j_retZ hx hb hK hP hS hr hlk (by decide) (Option.some.inj h) dX0_showedSame_26
  exact hl2_1 N _ _ _ _ hP hS (lv_sub hl [1, 2, 3, 0] rfl) h
def fX0_findAlike_k63 (N : Nat) (y2 : Int) : Int → Option (Int) := fun x3_2 =>
    if wr y2 = (-1) then (some x3_2) else (some (-1))
def fX0_findAlike_l17 (N : Nat) (y0 : Nat) (y1 : Int) (y2 : Int) (μ : Mm) (x4_6 : Int) (rec5_4 : Int → Int → Option (Int)) : Nat → Int → Int → Option (Int)
  | 0, _, _ => none
  | n8 + 1, x3_9, x5_10 =>
    if wr y1 ≤ wr x5_10 then (rec5_4 x3_9 (x4_6 + 1)) else (Option.bind (fX0_showedSame N y0 x4_6 x5_10 μ) (fun v13 => if wr v13 = 0 then ((fX0_findAlike_l17 N y0 y1 y2 μ x4_6 rec5_4 n8) x3_9 (x5_10 + 1)) else (if wr x3_9 = wr y2 then (some ((10 * x4_6) + x5_10)) else ((fX0_findAlike_l17 N y0 y1 y2 μ x4_6 rec5_4 n8) (x3_9 + 1) (x5_10 + 1)))))
def fX0_findAlike_l5 (N : Nat) (y0 : Nat) (y1 : Int) (y2 : Int) (μ : Mm) : Nat → Int → Int → Option (Int)
  | 0, _, _ => none
  | n4 + 1, x3_5, x4_6 =>
    if wr y1 ≤ wr x4_6 then (fX0_findAlike_k63 N y2 x3_5) else (fX0_findAlike_l17 N y0 y1 y2 μ x4_6 (fX0_findAlike_l5 N y0 y1 y2 μ n4) N x3_5 (x4_6 + 1))
def fX0_findAlike (N : Nat) (y0 : Nat) (y1 : Int) (y2 : Int) (μ : Mm) : Option (Int) :=
    fX0_findAlike_l5 N y0 y1 y2 μ N 0 0
abbrev rmX0_findAlike : Room := { frames := 4, cells := 0, slots := 0, locals := 87 }
set_option maxHeartbeats 4000000 in
set_option maxRecDepth 100000 in
theorem m_X0_findAlike (l : Launch) (D : va_G) (b : Nat) (cs : CS) (N : Nat) {μ : Mm} {y0 : Nat} {y1 y2 : Int} {r : Int} (hky0 : kd y0 = 5) (h : fX0_findAlike N y0 y1 y2 μ = some r) : MI l yX0_findAlike wsX0_findAlike rmX0_findAlike D b cs [jR b y0, jI y1, jI y2] μ μ r := by
  refine met_in (cc := cX0_findAlike) (maxL := 6) (ret := some .int) (lv0 := [(0, jR b y0), (1, jI y1), (2, jI y2)]) (by decide +kernel) rfl (Nat.le_of_ble_eq_true rfl) rfl ?_
  intro p e s m args below meth c hx hb hr hlk hml hown hts hP hK ls hl
  have hown : s.vm.findClass RX0 = some m.cls := hown
  have hS : va_S (bA b) s.heap s.heap [] := va_S.rf
  unfold fX0_findAlike at h
  refine j_iconst hx hb dX0_findAlike_0 ?_
  refine j_istore_n (lv2 := [(3, jI 0), (0, jR b y0), (1, jI y1), (2, jI y2)]) hx hb dX0_findAlike_1 rfl hl (by decide) rfl (fun ls hl => ?_)
  refine j_iconst hx hb dX0_findAlike_2 ?_
  refine j_istore (lv2 := [(4, jI 0), (3, jI 0), (0, jR b y0), (1, jI y1), (2, jI y2)]) hx hb dX0_findAlike_3 hl (by decide) rfl (fun ls hl => ?_)
  have hk63_1 : ∀ (x3_2 : Int) (H : Heap) (locs : List Loc) (ls : Array Slot), va_P D vwCl (wl b cs μ) H → va_S (bA b) s.heap H locs → lv_has ls 6 [(2, jI y2), (3, jI x3_2)] → fX0_findAlike_k63 N y2 x3_2 = some r → W p l e rmX0_findAlike s m args below meth c H locs 0 0 (MQ below (QI D b cs μ r) args s 0 0 (bA b)) (F0 m 63 ls []) := by
    intro x3_2 H locs ls hP hS hl h
    unfold fX0_findAlike_k63 at h
    refine j_iload_n hx hb dX0_findAlike_63 rfl (lv_at hl 0 rfl) ?_
    refine j_iconst hx hb dX0_findAlike_64 ?_
    refine j_icmp_ne (A := wr y2) (B := (-1)) (tgt := 72) hx hb rfl (by decide) dX0_findAlike_65 (by decide) (fun q3 => ?_) (fun q3 => ?_)
    · replace h := (if_neg q3).symm.trans h
      refine j_iconst hx hb dX0_findAlike_72 ?_
      exact j_retI hx hb hK hP hS hr hlk (Option.some.inj h) dX0_findAlike_73
    · replace h := (if_pos q3).symm.trans h
      refine j_iload_n hx hb dX0_findAlike_68 rfl (lv_at hl 1 rfl) ?_
      refine j_goto (tgt := 73) hx hb dX0_findAlike_69 (by decide) ?_
      exact j_retI hx hb hK hP hS hr hlk (Option.some.inj h) dX0_findAlike_73
  have hl5_4 : ∀ (n0 : Nat) (x3_5 : Int) (x4_6 : Int) (H : Heap) (locs : List Loc) (ls : Array Slot), va_P D vwCl (wl b cs μ) H → va_S (bA b) s.heap H locs → lv_has ls 6 [(0, jR b y0), (1, jI y1), (2, jI y2), (3, jI x3_5), (4, jI x4_6)] → fX0_findAlike_l5 N y0 y1 y2 μ n0 x3_5 x4_6 = some r → W p l e rmX0_findAlike s m args below meth c H locs 0 0 (MQ below (QI D b cs μ r) args s 0 0 (bA b)) (F0 m 5 ls []) := by
    intro n0
    induction n0 with
    | zero => intro x3_5 x4_6 H locs ls hP hS hl h; rw [fX0_findAlike_l5] at h; cases h
    | succ n4 ih5_4 =>
      intro x3_5 x4_6 H locs ls hP hS hl h
      rw [fX0_findAlike_l5] at h
      refine j_iload hx hb dX0_findAlike_5 (lv_at hl 4 rfl) ?_
      refine j_iload_n hx hb dX0_findAlike_7 rfl (lv_at hl 1 rfl) ?_
      refine j_icmp_ge (A := wr x4_6) (B := wr y1) (tgt := 63) hx hb rfl rfl dX0_findAlike_8 (by decide) (fun q7 => ?_) (fun q7 => ?_)
      · replace h := (if_pos q7).symm.trans h
        exact hk63_1 _ _ _ _ hP hS (lv_sub hl [2, 3] rfl) h
      · replace h := (if_neg q7).symm.trans h
        refine j_iload hx hb dX0_findAlike_11 (lv_at hl 4 rfl) ?_
        refine j_iconst hx hb dX0_findAlike_13 ?_
        refine j_iadd hx hb dX0_findAlike_14 ?_
        refine j_istore (lv2 := [(5, jI (x4_6 + 1)), (0, jR b y0), (1, jI y1), (2, jI y2), (3, jI x3_5), (4, jI x4_6)]) hx hb dX0_findAlike_15 hl (by decide) rfl (fun ls hl => ?_)
        have hl17_8 : ∀ (n0 : Nat) (x3_9 : Int) (x5_10 : Int) (H : Heap) (locs : List Loc) (ls : Array Slot), va_P D vwCl (wl b cs μ) H → va_S (bA b) s.heap H locs → lv_has ls 6 [(0, jR b y0), (1, jI y1), (2, jI y2), (3, jI x3_9), (4, jI x4_6), (5, jI x5_10)] → fX0_findAlike_l17 N y0 y1 y2 μ x4_6 (fX0_findAlike_l5 N y0 y1 y2 μ n4) n0 x3_9 x5_10 = some r → W p l e rmX0_findAlike s m args below meth c H locs 0 0 (MQ below (QI D b cs μ r) args s 0 0 (bA b)) (F0 m 17 ls []) := by
          intro n0
          induction n0 with
          | zero => intro x3_9 x5_10 H locs ls hP hS hl h; rw [fX0_findAlike_l17] at h; cases h
          | succ n8 ih17_8 =>
            intro x3_9 x5_10 H locs ls hP hS hl h
            rw [fX0_findAlike_l17] at h
            refine j_iload hx hb dX0_findAlike_17 (lv_at hl 5 rfl) ?_
            refine j_iload_n hx hb dX0_findAlike_19 rfl (lv_at hl 1 rfl) ?_
            refine j_icmp_ge (A := wr x5_10) (B := wr y1) (tgt := 57) hx hb rfl rfl dX0_findAlike_20 (by decide) (fun q11 => ?_) (fun q11 => ?_)
            · replace h := (if_pos q11).symm.trans h
              refine j_iinc (k := 4) (lv2 := [(4, jI (x4_6 + 1)), (0, jR b y0), (1, jI y1), (2, jI y2), (3, jI x3_9), (5, jI x5_10)]) hx hb dX0_findAlike_57 hl rfl (by decide) rfl (fun ls hl => ?_)
              refine j_goto (tgt := 5) hx hb dX0_findAlike_60 (by decide) ?_
              exact ih5_4 _ _ _ _ _ hP hS (lv_sub hl [1, 2, 3, 4, 0] rfl) h
            · replace h := (if_neg q11).symm.trans h
              refine j_aload_n hx hb dX0_findAlike_23 rfl (lv_at hl 0 rfl) ?_
              refine j_iload hx hb dX0_findAlike_24 (lv_at hl 4 rfl) ?_
              refine j_iload hx hb dX0_findAlike_26 (lv_at hl 5 rfl) ?_
              obtain ⟨v13, e12, h⟩ := ob_I h
              refine jc_SI (As := [jR b y0, jI x4_6, jI x5_10]) (rest := []) ⟨hx, hb, hml, hown, hts⟩ hK hP hS (m_X0_showedSame l D b cs N hky0 e12) (va_cwS 3 hts gX0_findAlike_X0_showedSame rfl rfl rfl (by decide +kernel) ⟨Nat.le_of_ble_eq_true rfl, Nat.le_of_ble_eq_true rfl⟩) rfl hl.1 rfl (Nat.le_of_ble_eq_true rfl) dX0_findAlike_28 ⟨Nat.zero_le _, Nat.zero_le _⟩ (fun H locs hP hS => ?_)
              refine j_if_eq (A := wr v13) (tgt := 51) hx hb rfl dX0_findAlike_31 (by decide) (fun q14 => ?_) (fun q14 => ?_)
              · replace h := (if_pos q14).symm.trans h
                refine j_iinc (k := 5) (lv2 := [(5, jI (x5_10 + 1)), (0, jR b y0), (1, jI y1), (2, jI y2), (3, jI x3_9), (4, jI x4_6)]) hx hb dX0_findAlike_51 hl rfl (by decide) rfl (fun ls hl => ?_)
                refine j_goto (tgt := 17) hx hb dX0_findAlike_54 (by decide) ?_
                exact ih17_8 _ _ _ _ _ hP hS (lv_sub hl [1, 2, 3, 4, 5, 0] rfl) h
              · replace h := (if_neg q14).symm.trans h
                refine j_iload_n hx hb dX0_findAlike_34 rfl (lv_at hl 3 rfl) ?_
                refine j_iload_n hx hb dX0_findAlike_35 rfl (lv_at hl 2 rfl) ?_
                refine j_icmp_ne (A := wr x3_9) (B := wr y2) (tgt := 48) hx hb rfl rfl dX0_findAlike_36 (by decide) (fun q15 => ?_) (fun q15 => ?_)
                · replace h := (if_neg q15).symm.trans h
                  refine j_iinc (k := 3) (lv2 := [(3, jI (x3_9 + 1)), (0, jR b y0), (1, jI y1), (2, jI y2), (4, jI x4_6), (5, jI x5_10)]) hx hb dX0_findAlike_48 hl rfl (by decide) rfl (fun ls hl => ?_)
                  refine j_iinc (k := 5) (lv2 := [(5, jI (x5_10 + 1)), (3, jI (x3_9 + 1)), (0, jR b y0), (1, jI y1), (2, jI y2), (4, jI x4_6)]) hx hb dX0_findAlike_51 hl rfl (by decide) rfl (fun ls hl => ?_)
                  refine j_goto (tgt := 17) hx hb dX0_findAlike_54 (by decide) ?_
                  exact ih17_8 _ _ _ _ _ hP hS (lv_sub hl [2, 3, 4, 1, 5, 0] rfl) h
                · replace h := (if_pos q15).symm.trans h
                  refine j_bipush hx hb dX0_findAlike_39 (by decide) ?_
                  refine j_iload hx hb dX0_findAlike_41 (lv_at hl 4 rfl) ?_
                  refine j_imul hx hb dX0_findAlike_43 ?_
                  refine j_iload hx hb dX0_findAlike_44 (lv_at hl 5 rfl) ?_
                  refine j_iadd hx hb dX0_findAlike_46 ?_
                  exact j_retI hx hb hK hP hS hr hlk (Option.some.inj h) dX0_findAlike_47
        exact hl17_8 N _ _ _ _ _ hP hS (lv_sub hl [1, 2, 3, 4, 5, 0] rfl) h
  exact hl5_4 N _ _ _ _ _ hP hS (lv_sub hl [2, 3, 4, 1, 0] rfl) h
def fX0_findFloat_j58 (N : Nat) (x2_2 : Int) (x4_4 : Int) (rec7_1 : Int → Int → Int → Option (Int)) : Int → Option (Int) := fun x3_11 =>
    rec7_1 (if wr x2_2 < wr x3_11 then x3_11 else x2_2) x3_11 (x4_4 + 1)
def fX0_findFloat_l7 (N : Nat) (y0 : Nat) (y1 : Int) (μ : Mm) : Nat → Int → Int → Int → Option (Int)
  | 0, _, _, _ => none
  | n1 + 1, x2_2, x3_3, x4_4 =>
    Option.bind (fX7_countRows N y0 μ) (fun v6 => if wr v6 ≤ wr x4_4 then (some x2_2) else (Option.bind (fX7_showedAt N y0 x4_4 y1 μ) (fun v9 => if wr v9 = (-1) then (fX0_findFloat_j58 N x2_2 x4_4 (fX0_findFloat_l7 N y0 y1 μ n1) 0) else (Option.bind (fX7_showedAt N y0 (x4_4 - 1) y1 μ) (fun v14 => if wr v9 = wr v14 then (fX0_findFloat_j58 N x2_2 x4_4 (fX0_findFloat_l7 N y0 y1 μ n1) (x3_3 + 1)) else (fX0_findFloat_j58 N x2_2 x4_4 (fX0_findFloat_l7 N y0 y1 μ n1) 1))))))
def fX0_findFloat (N : Nat) (y0 : Nat) (y1 : Int) (μ : Mm) : Option (Int) :=
    fX0_findFloat_l7 N y0 y1 μ N 0 0 0
abbrev rmX0_findFloat : Room := { frames := 3, cells := 0, slots := 0, locals := 64 }
set_option maxHeartbeats 4000000 in
set_option maxRecDepth 100000 in
theorem m_X0_findFloat (l : Launch) (D : va_G) (b : Nat) (cs : CS) (N : Nat) {μ : Mm} {y0 : Nat} {y1 : Int} {r : Int} (hky0 : kd y0 = 5) (h : fX0_findFloat N y0 y1 μ = some r) : MI l yX0_findFloat wsX0_findFloat rmX0_findFloat D b cs [jR b y0, jI y1] μ μ r := by
  refine met_in (cc := cX0_findFloat) (maxL := 6) (ret := some .int) (lv0 := [(0, jR b y0), (1, jI y1)]) (by decide +kernel) rfl (Nat.le_of_ble_eq_true rfl) rfl ?_
  intro p e s m args below meth c hx hb hr hlk hml hown hts hP hK ls hl
  have hown : s.vm.findClass RX0 = some m.cls := hown
  have hS : va_S (bA b) s.heap s.heap [] := va_S.rf
  unfold fX0_findFloat at h
  refine j_iconst hx hb dX0_findFloat_0 ?_
  refine j_istore_n (lv2 := [(2, jI 0), (0, jR b y0), (1, jI y1)]) hx hb dX0_findFloat_1 rfl hl (by decide) rfl (fun ls hl => ?_)
  refine j_iconst hx hb dX0_findFloat_2 ?_
  refine j_istore_n (lv2 := [(3, jI 0), (2, jI 0), (0, jR b y0), (1, jI y1)]) hx hb dX0_findFloat_3 rfl hl (by decide) rfl (fun ls hl => ?_)
  refine j_iconst hx hb dX0_findFloat_4 ?_
  refine j_istore (lv2 := [(4, jI 0), (3, jI 0), (2, jI 0), (0, jR b y0), (1, jI y1)]) hx hb dX0_findFloat_5 hl (by decide) rfl (fun ls hl => ?_)
  have hl7_1 : ∀ (n0 : Nat) (x2_2 : Int) (x3_3 : Int) (x4_4 : Int) (H : Heap) (locs : List Loc) (ls : Array Slot), va_P D vwCl (wl b cs μ) H → va_S (bA b) s.heap H locs → lv_has ls 6 [(0, jR b y0), (1, jI y1), (2, jI x2_2), (3, jI x3_3), (4, jI x4_4)] → fX0_findFloat_l7 N y0 y1 μ n0 x2_2 x3_3 x4_4 = some r → W p l e rmX0_findFloat s m args below meth c H locs 0 0 (MQ below (QI D b cs μ r) args s 0 0 (bA b)) (F0 m 7 ls []) := by
    intro n0
    induction n0 with
    | zero => intro x2_2 x3_3 x4_4 H locs ls hP hS hl h; rw [fX0_findFloat_l7] at h; cases h
    | succ n1 ih7_1 =>
      intro x2_2 x3_3 x4_4 H locs ls hP hS hl h
      rw [fX0_findFloat_l7] at h
      refine j_iload hx hb dX0_findFloat_7 (lv_at hl 4 rfl) ?_
      refine j_aload_n hx hb dX0_findFloat_9 rfl (lv_at hl 0 rfl) ?_
      obtain ⟨v6, e5, h⟩ := ob_I h
      refine jc_VI (As := []) (rest := [jI x4_4]) ⟨hx, hb, hml, hown, hts⟩ hK hP hS (m_X7_countRows l D b cs N hky0 e5) (cwV 0 hts gX0_findFloat_X7_countRows rfl rfl rfl (by decide +kernel) ⟨Nat.le_of_ble_eq_true rfl, Nat.le_of_ble_eq_true rfl⟩) hky0 (by decide) rfl rfl hl.1 rfl (Nat.le_of_ble_eq_true rfl) dX0_findFloat_10 ⟨Nat.zero_le _, Nat.zero_le _⟩ (fun H locs hP hS => ?_)
      refine j_icmp_ge (A := wr x4_4) (B := wr v6) (tgt := 70) hx hb rfl rfl dX0_findFloat_13 (by decide) (fun q7 => ?_) (fun q7 => ?_)
      · replace h := (if_pos q7).symm.trans h
        refine j_iload_n hx hb dX0_findFloat_70 rfl (lv_at hl 2 rfl) ?_
        exact j_retI hx hb hK hP hS hr hlk (Option.some.inj h) dX0_findFloat_71
      · replace h := (if_neg q7).symm.trans h
        refine j_aload_n hx hb dX0_findFloat_16 rfl (lv_at hl 0 rfl) ?_
        refine j_iload hx hb dX0_findFloat_17 (lv_at hl 4 rfl) ?_
        refine j_iload_n hx hb dX0_findFloat_19 rfl (lv_at hl 1 rfl) ?_
        obtain ⟨v9, e8, h⟩ := ob_I h
        refine jc_VI (As := [jI x4_4, jI y1]) (rest := []) ⟨hx, hb, hml, hown, hts⟩ hK hP hS (m_X7_showedAt l D b cs N hky0 e8) (cwV 2 hts gX0_findFloat_X7_showedAt rfl rfl rfl (by decide +kernel) ⟨Nat.le_of_ble_eq_true rfl, Nat.le_of_ble_eq_true rfl⟩) hky0 (by decide) rfl rfl hl.1 rfl (Nat.le_of_ble_eq_true rfl) dX0_findFloat_20 ⟨Nat.zero_le _, Nat.zero_le _⟩ (fun H locs hP hS => ?_)
        refine j_istore (lv2 := [(5, jI v9), (0, jR b y0), (1, jI y1), (2, jI x2_2), (3, jI x3_3), (4, jI x4_4)]) hx hb dX0_findFloat_23 hl (by decide) rfl (fun ls hl => ?_)
        refine j_iload hx hb dX0_findFloat_25 (lv_at hl 0 rfl) ?_
        refine j_iconst hx hb dX0_findFloat_27 ?_
        have hj58_10 : ∀ (x3_11 : Int) (H : Heap) (locs : List Loc) (ls : Array Slot), va_P D vwCl (wl b cs μ) H → va_S (bA b) s.heap H locs → lv_has ls 6 [(0, jR b y0), (1, jI y1), (2, jI x2_2), (3, jI x3_11), (4, jI x4_4)] → fX0_findFloat_j58 N x2_2 x4_4 (fX0_findFloat_l7 N y0 y1 μ n1) x3_11 = some r → W p l e rmX0_findFloat s m args below meth c H locs 0 0 (MQ below (QI D b cs μ r) args s 0 0 (bA b)) (F0 m 58 ls []) := by
          intro x3_11 H locs ls hP hS hl h
          unfold fX0_findFloat_j58 at h
          refine j_iload_n hx hb dX0_findFloat_58 rfl (lv_at hl 2 rfl) ?_
          refine j_iload_n hx hb dX0_findFloat_59 rfl (lv_at hl 3 rfl) ?_
          refine j_max hx hb hml hl.1 hown (hts (.methodLink RX0 28 Lib.Math.max.name) (by decide +kernel)) (hts (.static Lib.Math.max.name) (by decide +kernel)) (hts (.initialized "java/lang/Math") (by decide +kernel)) (hts (.code Lib.Math.max.name Lib.Math.max.code 2 (some .int)) (by decide +kernel)) (Nat.le_of_ble_eq_true rfl) (Nat.le_of_ble_eq_true rfl) (Nat.zero_le _) (Nat.zero_le _) dX0_findFloat_60 ?_
          refine j_istore_n (lv2 := [(2, jI (if wr x2_2 < wr x3_11 then x3_11 else x2_2)), (0, jR b y0), (1, jI y1), (3, jI x3_11), (4, jI x4_4)]) hx hb dX0_findFloat_63 rfl hl (by decide) rfl (fun ls hl => ?_)
          refine j_iinc (k := 4) (lv2 := [(4, jI (x4_4 + 1)), (2, jI (if wr x2_2 < wr x3_11 then x3_11 else x2_2)), (0, jR b y0), (1, jI y1), (3, jI x3_11)]) hx hb dX0_findFloat_64 hl rfl (by decide) rfl (fun ls hl => ?_)
          refine j_goto (tgt := 7) hx hb dX0_findFloat_67 (by decide) ?_
          exact ih7_1 _ _ _ _ _ _ hP hS (lv_sub hl [2, 3, 1, 4, 0] rfl) h
        refine j_icmp_ne (A := wr v9) (B := (-1)) (tgt := 36) hx hb rfl (by decide) dX0_findFloat_28 (by decide) (fun q12 => ?_) (fun q12 => ?_)
        · replace h := (if_neg q12).symm.trans h
          refine j_iload hx hb dX0_findFloat_36 (lv_at hl 0 rfl) ?_
          refine j_aload_n hx hb dX0_findFloat_38 rfl (lv_at hl 1 rfl) ?_
          refine j_iload hx hb dX0_findFloat_39 (lv_at hl 5 rfl) ?_
          refine j_iconst hx hb dX0_findFloat_41 ?_
          refine j_isub hx hb dX0_findFloat_42 ?_
          refine j_iload_n hx hb dX0_findFloat_43 rfl (lv_at hl 2 rfl) ?_
          obtain ⟨v14, e13, h⟩ := ob_I h
          refine jc_VI (As := [jI (x4_4 - 1), jI y1]) (rest := [jI v9]) ⟨hx, hb, hml, hown, hts⟩ hK hP hS (m_X7_showedAt l D b cs N hky0 e13) (cwV 2 hts gX0_findFloat_X7_showedAt rfl rfl rfl (by decide +kernel) ⟨Nat.le_of_ble_eq_true rfl, Nat.le_of_ble_eq_true rfl⟩) hky0 (by decide) rfl rfl hl.1 rfl (Nat.le_of_ble_eq_true rfl) dX0_findFloat_44 ⟨Nat.zero_le _, Nat.zero_le _⟩ (fun H locs hP hS => ?_)
          refine j_icmp_ne (A := wr v9) (B := wr v14) (tgt := 56) hx hb rfl rfl dX0_findFloat_47 (by decide) (fun q15 => ?_) (fun q15 => ?_)
          · replace h := (if_neg q15).symm.trans h
            refine j_iconst hx hb dX0_findFloat_56 ?_
            refine j_istore_n (lv2 := [(3, jI 1), (5, jI v9), (0, jR b y0), (1, jI y1), (2, jI x2_2), (4, jI x4_4)]) hx hb dX0_findFloat_57 rfl hl (by decide) rfl (fun ls hl => ?_)
            exact hj58_10 _ _ _ _ hP hS (lv_sub hl [2, 3, 4, 0, 5] rfl) h
          · replace h := (if_pos q15).symm.trans h
            refine j_iload_n hx hb dX0_findFloat_50 rfl (lv_at hl 4 rfl) ?_
            refine j_iconst hx hb dX0_findFloat_51 ?_
            refine j_iadd hx hb dX0_findFloat_52 ?_
            refine j_goto (tgt := 57) hx hb dX0_findFloat_53 (by decide) ?_
            refine j_istore_n (lv2 := [(3, jI (x3_3 + 1)), (5, jI v9), (0, jR b y0), (1, jI y1), (2, jI x2_2), (4, jI x4_4)]) hx hb dX0_findFloat_57 rfl hl (by decide) rfl (fun ls hl => ?_)
            exact hj58_10 _ _ _ _ hP hS (lv_sub hl [2, 3, 4, 0, 5] rfl) h
        · replace h := (if_pos q12).symm.trans h
          refine j_iconst hx hb dX0_findFloat_31 ?_
          refine j_istore_n (lv2 := [(3, jI 0), (5, jI v9), (0, jR b y0), (1, jI y1), (2, jI x2_2), (4, jI x4_4)]) hx hb dX0_findFloat_32 rfl hl (by decide) rfl (fun ls hl => ?_)
          refine j_goto (tgt := 58) hx hb dX0_findFloat_33 (by decide) ?_
          exact hj58_10 _ _ _ _ hP hS (lv_sub hl [2, 3, 4, 0, 5] rfl) h
  exact hl7_1 N _ _ _ _ _ _ hP hS (lv_sub hl [3, 4, 2, 1, 0] rfl) h
def fX0_findLongest_l16 (N : Nat) (y0 : Nat) (y1 : Int) (μ : Mm) : Nat → Int → Int → Int → Option (Int)
  | 0, _, _, _ => none
  | n4 + 1, x2_5, x3_6, x4_7 =>
    if wr y1 ≤ wr x4_7 then (some x2_5) else (Option.bind (fX0_findFloat N y0 x4_7 μ) (fun v10 => if wr v10 ≤ wr x3_6 then ((fX0_findLongest_l16 N y0 y1 μ n4) x2_5 x3_6 (x4_7 + 1)) else ((fX0_findLongest_l16 N y0 y1 μ n4) x4_7 v10 (x4_7 + 1))))
def fX0_findLongest (N : Nat) (y0 : Nat) (y1 : Int) (μ : Mm) : Option (Int) :=
    Option.bind (fX7_countRows N y0 μ) (fun v2 => if wr v2 = 0 then (some (-1)) else (fX0_findLongest_l16 N y0 y1 μ N (-1) (-1) 0))
abbrev rmX0_findLongest : Room := { frames := 4, cells := 0, slots := 0, locals := 89 }
set_option maxHeartbeats 4000000 in
set_option maxRecDepth 100000 in
theorem m_X0_findLongest (l : Launch) (D : va_G) (b : Nat) (cs : CS) (N : Nat) {μ : Mm} {y0 : Nat} {y1 : Int} {r : Int} (hky0 : kd y0 = 5) (h : fX0_findLongest N y0 y1 μ = some r) : MI l yX0_findLongest wsX0_findLongest rmX0_findLongest D b cs [jR b y0, jI y1] μ μ r := by
  refine met_in (cc := cX0_findLongest) (maxL := 6) (ret := some .int) (lv0 := [(0, jR b y0), (1, jI y1)]) (by decide +kernel) rfl (Nat.le_of_ble_eq_true rfl) rfl ?_
  intro p e s m args below meth c hx hb hr hlk hml hown hts hP hK ls hl
  have hown : s.vm.findClass RX0 = some m.cls := hown
  have hS : va_S (bA b) s.heap s.heap [] := va_S.rf
  unfold fX0_findLongest at h
  refine j_aload_n hx hb dX0_findLongest_0 rfl (lv_at hl 0 rfl) ?_
  obtain ⟨v2, e1, h⟩ := ob_I h
  refine jc_VI (As := []) (rest := []) ⟨hx, hb, hml, hown, hts⟩ hK hP hS (m_X7_countRows l D b cs N hky0 e1) (cwV 0 hts gX0_findLongest_X7_countRows rfl rfl rfl (by decide +kernel) ⟨Nat.le_of_ble_eq_true rfl, Nat.le_of_ble_eq_true rfl⟩) hky0 (by decide) rfl rfl hl.1 rfl (Nat.le_of_ble_eq_true rfl) dX0_findLongest_1 ⟨Nat.zero_le _, Nat.zero_le _⟩ (fun H locs hP hS => ?_)
  refine j_if_ne (A := wr v2) (tgt := 9) hx hb rfl dX0_findLongest_4 (by decide) (fun q3 => ?_) (fun q3 => ?_)
  · replace h := (if_neg q3).symm.trans h
    refine j_iconst hx hb dX0_findLongest_9 ?_
    refine j_istore_n (lv2 := [(2, jI (-1)), (0, jR b y0), (1, jI y1)]) hx hb dX0_findLongest_10 rfl hl (by decide) rfl (fun ls hl => ?_)
    refine j_iconst hx hb dX0_findLongest_11 ?_
    refine j_istore_n (lv2 := [(3, jI (-1)), (2, jI (-1)), (0, jR b y0), (1, jI y1)]) hx hb dX0_findLongest_12 rfl hl (by decide) rfl (fun ls hl => ?_)
    refine j_iconst hx hb dX0_findLongest_13 ?_
    refine j_istore (lv2 := [(4, jI 0), (3, jI (-1)), (2, jI (-1)), (0, jR b y0), (1, jI y1)]) hx hb dX0_findLongest_14 hl (by decide) rfl (fun ls hl => ?_)
    have hl16_4 : ∀ (n0 : Nat) (x2_5 : Int) (x3_6 : Int) (x4_7 : Int) (H : Heap) (locs : List Loc) (ls : Array Slot), va_P D vwCl (wl b cs μ) H → va_S (bA b) s.heap H locs → lv_has ls 6 [(0, jR b y0), (1, jI y1), (2, jI x2_5), (3, jI x3_6), (4, jI x4_7)] → fX0_findLongest_l16 N y0 y1 μ n0 x2_5 x3_6 x4_7 = some r → W p l e rmX0_findLongest s m args below meth c H locs 0 0 (MQ below (QI D b cs μ r) args s 0 0 (bA b)) (F0 m 16 ls []) := by
      intro n0
      induction n0 with
      | zero => intro x2_5 x3_6 x4_7 H locs ls hP hS hl h; rw [fX0_findLongest_l16] at h; cases h
      | succ n4 ih16_4 =>
        intro x2_5 x3_6 x4_7 H locs ls hP hS hl h
        rw [fX0_findLongest_l16] at h
        refine j_iload hx hb dX0_findLongest_16 (lv_at hl 4 rfl) ?_
        refine j_iload_n hx hb dX0_findLongest_18 rfl (lv_at hl 1 rfl) ?_
        refine j_icmp_ge (A := wr x4_7) (B := wr y1) (tgt := 48) hx hb rfl rfl dX0_findLongest_19 (by decide) (fun q8 => ?_) (fun q8 => ?_)
        · replace h := (if_pos q8).symm.trans h
          refine j_iload_n hx hb dX0_findLongest_48 rfl (lv_at hl 2 rfl) ?_
          exact j_retI hx hb hK hP hS hr hlk (Option.some.inj h) dX0_findLongest_49
        · replace h := (if_neg q8).symm.trans h
          refine j_aload_n hx hb dX0_findLongest_22 rfl (lv_at hl 0 rfl) ?_
          refine j_iload hx hb dX0_findLongest_23 (lv_at hl 4 rfl) ?_
          obtain ⟨v10, e9, h⟩ := ob_I h
          refine jc_SI (As := [jR b y0, jI x4_7]) (rest := []) ⟨hx, hb, hml, hown, hts⟩ hK hP hS (m_X0_findFloat l D b cs N hky0 e9) (va_cwS 2 hts gX0_findLongest_X0_findFloat rfl rfl rfl (by decide +kernel) ⟨Nat.le_of_ble_eq_true rfl, Nat.le_of_ble_eq_true rfl⟩) rfl hl.1 rfl (Nat.le_of_ble_eq_true rfl) dX0_findLongest_25 ⟨Nat.zero_le _, Nat.zero_le _⟩ (fun H locs hP hS => ?_)
          refine j_istore (lv2 := [(5, jI v10), (0, jR b y0), (1, jI y1), (2, jI x2_5), (3, jI x3_6), (4, jI x4_7)]) hx hb dX0_findLongest_28 hl (by decide) rfl (fun ls hl => ?_)
          refine j_iload hx hb dX0_findLongest_30 (lv_at hl 0 rfl) ?_
          refine j_iload_n hx hb dX0_findLongest_32 rfl (lv_at hl 4 rfl) ?_
          refine j_icmp_le (A := wr v10) (B := wr x3_6) (tgt := 42) hx hb rfl rfl dX0_findLongest_33 (by decide) (fun q11 => ?_) (fun q11 => ?_)
          · replace h := (if_pos q11).symm.trans h
            refine j_iinc (k := 5) (lv2 := [(4, jI (x4_7 + 1)), (5, jI v10), (0, jR b y0), (1, jI y1), (2, jI x2_5), (3, jI x3_6)]) hx hb dX0_findLongest_42 hl rfl (by decide) rfl (fun ls hl => ?_)
            refine j_goto (tgt := 16) hx hb dX0_findLongest_45 (by decide) ?_
            exact ih16_4 _ _ _ _ _ _ hP hS (lv_sub hl [2, 3, 4, 5, 0] rfl) h
          · replace h := (if_neg q11).symm.trans h
            refine j_iload hx hb dX0_findLongest_36 (lv_at hl 0 rfl) ?_
            refine j_istore_n (lv2 := [(3, jI v10), (5, jI v10), (0, jR b y0), (1, jI y1), (2, jI x2_5), (4, jI x4_7)]) hx hb dX0_findLongest_38 rfl hl (by decide) rfl (fun ls hl => ?_)
            refine j_iload hx hb dX0_findLongest_39 (lv_at hl 5 rfl) ?_
            refine j_istore_n (lv2 := [(2, jI x4_7), (3, jI v10), (5, jI v10), (0, jR b y0), (1, jI y1), (4, jI x4_7)]) hx hb dX0_findLongest_41 rfl hl (by decide) rfl (fun ls hl => ?_)
            refine j_iinc (k := 5) (lv2 := [(4, jI (x4_7 + 1)), (2, jI x4_7), (3, jI v10), (5, jI v10), (0, jR b y0), (1, jI y1)]) hx hb dX0_findLongest_42 hl rfl (by decide) rfl (fun ls hl => ?_)
            refine j_goto (tgt := 16) hx hb dX0_findLongest_45 (by decide) ?_
            exact ih16_4 _ _ _ _ _ _ hP hS (lv_sub hl [4, 5, 1, 2, 0] rfl) h
    exact hl16_4 N _ _ _ _ _ _ hP hS (lv_sub hl [3, 4, 2, 1, 0] rfl) h
  · replace h := (if_pos q3).symm.trans h
    refine j_iconst hx hb dX0_findLongest_7 ?_
    exact j_retI hx hb hK hP hS hr hlk (Option.some.inj h) dX0_findLongest_8
def fX0_findMost_l7 (N : Nat) (y0 : Nat) (y1 : Nat) (μ : Mm) : Nat → Int → Int → Int → Option (Int)
  | 0, _, _, _ => none
  | n1 + 1, x2_2, x3_3, x4_4 =>
    if wr (gI μ y1 5) ≤ wr x4_4 then (some x2_2) else (Option.bind (fX0_countShown N y0 (gI μ y1 6) x4_4 μ) (fun v7 => if wr v7 ≤ wr x3_3 then ((fX0_findMost_l7 N y0 y1 μ n1) x2_2 x3_3 (x4_4 + 1)) else ((fX0_findMost_l7 N y0 y1 μ n1) x4_4 v7 (x4_4 + 1))))
def fX0_findMost (N : Nat) (y0 : Nat) (y1 : Nat) (μ : Mm) : Option (Int) :=
    fX0_findMost_l7 N y0 y1 μ N (-1) 0 0
abbrev rmX0_findMost : Room := { frames := 4, cells := 0, slots := 0, locals := 89 }
set_option maxHeartbeats 4000000 in
set_option maxRecDepth 100000 in
theorem m_X0_findMost (l : Launch) (D : va_G) (b : Nat) (cs : CS) (N : Nat) {μ : Mm} {y0 y1 : Nat} {r : Int} (hky0 : kd y0 = 5) (hky1 : kd y1 = 4) (h : fX0_findMost N y0 y1 μ = some r) : MI l yX0_findMost wsX0_findMost rmX0_findMost D b cs [jR b y0, jR b y1] μ μ r := by
  refine met_in (cc := cX0_findMost) (maxL := 6) (ret := some .int) (lv0 := [(0, jR b y0), (1, jR b y1)]) (by decide +kernel) rfl (Nat.le_of_ble_eq_true rfl) rfl ?_
  intro p e s m args below meth c hx hb hr hlk hml hown hts hP hK ls hl
  have hown : s.vm.findClass RX0 = some m.cls := hown
  have hS : va_S (bA b) s.heap s.heap [] := va_S.rf
  have hinX5 : ∀ w ∈ u_ws RX5 TX5 9, w ∈ wsX0_findMost := by decide +kernel
  unfold fX0_findMost at h
  refine j_iconst hx hb dX0_findMost_0 ?_
  refine j_istore_n (lv2 := [(2, jI (-1)), (0, jR b y0), (1, jR b y1)]) hx hb dX0_findMost_1 rfl hl (by decide) rfl (fun ls hl => ?_)
  refine j_iconst hx hb dX0_findMost_2 ?_
  refine j_istore_n (lv2 := [(3, jI 0), (2, jI (-1)), (0, jR b y0), (1, jR b y1)]) hx hb dX0_findMost_3 rfl hl (by decide) rfl (fun ls hl => ?_)
  refine j_iconst hx hb dX0_findMost_4 ?_
  refine j_istore (lv2 := [(4, jI 0), (3, jI 0), (2, jI (-1)), (0, jR b y0), (1, jR b y1)]) hx hb dX0_findMost_5 hl (by decide) rfl (fun ls hl => ?_)
  have hl7_1 : ∀ (n0 : Nat) (x2_2 : Int) (x3_3 : Int) (x4_4 : Int) (H : Heap) (locs : List Loc) (ls : Array Slot), va_P D vwCl (wl b cs μ) H → va_S (bA b) s.heap H locs → lv_has ls 6 [(0, jR b y0), (1, jR b y1), (2, jI x2_2), (3, jI x3_3), (4, jI x4_4)] → fX0_findMost_l7 N y0 y1 μ n0 x2_2 x3_3 x4_4 = some r → W p l e rmX0_findMost s m args below meth c H locs 0 0 (MQ below (QI D b cs μ r) args s 0 0 (bA b)) (F0 m 7 ls []) := by
    intro n0
    induction n0 with
    | zero => intro x2_2 x3_3 x4_4 H locs ls hP hS hl h; rw [fX0_findMost_l7] at h; cases h
    | succ n1 ih7_1 =>
      intro x2_2 x3_3 x4_4 H locs ls hP hS hl h
      rw [fX0_findMost_l7] at h
      refine j_iload hx hb dX0_findMost_7 (lv_at hl 4 rfl) ?_
      refine j_aload_n hx hb dX0_findMost_9 rfl (lv_at hl 1 rfl) ?_
      refine j_get (v := jI (gI μ y1 5)) hx hb hts hinX5 hown hK hP hky1 (by decide) rfl 5 (by decide) (hts (.fieldLink RX0 37 "CardBand$Threading" "colours" "I") (by decide +kernel)) rfl (by rw [jI_g]; rfl) dX0_findMost_10 ?_
      refine j_icmp_ge (A := wr x4_4) (B := wr (gI μ y1 5)) (tgt := 46) hx hb rfl rfl dX0_findMost_13 (by decide) (fun q5 => ?_) (fun q5 => ?_)
      · replace h := (if_pos q5).symm.trans h
        refine j_iload_n hx hb dX0_findMost_46 rfl (lv_at hl 2 rfl) ?_
        exact j_retI hx hb hK hP hS hr hlk (Option.some.inj h) dX0_findMost_47
      · replace h := (if_neg q5).symm.trans h
        refine j_aload_n hx hb dX0_findMost_16 rfl (lv_at hl 0 rfl) ?_
        refine j_aload_n hx hb dX0_findMost_17 rfl (lv_at hl 1 rfl) ?_
        refine j_get (v := jI (gI μ y1 6)) hx hb hts hinX5 hown hK hP hky1 (by decide) rfl 6 (by decide) (hts (.fieldLink RX0 43 "CardBand$Threading" "cards" "I") (by decide +kernel)) rfl (by rw [jI_g]; rfl) dX0_findMost_18 ?_
        refine j_iload hx hb dX0_findMost_21 (lv_at hl 4 rfl) ?_
        obtain ⟨v7, e6, h⟩ := ob_I h
        refine jc_SI (As := [jR b y0, jI (gI μ y1 6), jI x4_4]) (rest := []) ⟨hx, hb, hml, hown, hts⟩ hK hP hS (m_X0_countShown l D b cs N hky0 e6) (va_cwS 3 hts gX0_findMost_X0_countShown rfl rfl rfl (by decide +kernel) ⟨Nat.le_of_ble_eq_true rfl, Nat.le_of_ble_eq_true rfl⟩) rfl hl.1 rfl (Nat.le_of_ble_eq_true rfl) dX0_findMost_23 ⟨Nat.zero_le _, Nat.zero_le _⟩ (fun H locs hP hS => ?_)
        refine j_istore (lv2 := [(5, jI v7), (0, jR b y0), (1, jR b y1), (2, jI x2_2), (3, jI x3_3), (4, jI x4_4)]) hx hb dX0_findMost_26 hl (by decide) rfl (fun ls hl => ?_)
        refine j_iload hx hb dX0_findMost_28 (lv_at hl 0 rfl) ?_
        refine j_iload_n hx hb dX0_findMost_30 rfl (lv_at hl 4 rfl) ?_
        refine j_icmp_le (A := wr v7) (B := wr x3_3) (tgt := 40) hx hb rfl rfl dX0_findMost_31 (by decide) (fun q8 => ?_) (fun q8 => ?_)
        · replace h := (if_pos q8).symm.trans h
          refine j_iinc (k := 5) (lv2 := [(4, jI (x4_4 + 1)), (5, jI v7), (0, jR b y0), (1, jR b y1), (2, jI x2_2), (3, jI x3_3)]) hx hb dX0_findMost_40 hl rfl (by decide) rfl (fun ls hl => ?_)
          refine j_goto (tgt := 7) hx hb dX0_findMost_43 (by decide) ?_
          exact ih7_1 _ _ _ _ _ _ hP hS (lv_sub hl [2, 3, 4, 5, 0] rfl) h
        · replace h := (if_neg q8).symm.trans h
          refine j_iload hx hb dX0_findMost_34 (lv_at hl 0 rfl) ?_
          refine j_istore_n (lv2 := [(3, jI v7), (5, jI v7), (0, jR b y0), (1, jR b y1), (2, jI x2_2), (4, jI x4_4)]) hx hb dX0_findMost_36 rfl hl (by decide) rfl (fun ls hl => ?_)
          refine j_iload hx hb dX0_findMost_37 (lv_at hl 5 rfl) ?_
          refine j_istore_n (lv2 := [(2, jI x4_4), (3, jI v7), (5, jI v7), (0, jR b y0), (1, jR b y1), (4, jI x4_4)]) hx hb dX0_findMost_39 rfl hl (by decide) rfl (fun ls hl => ?_)
          refine j_iinc (k := 5) (lv2 := [(4, jI (x4_4 + 1)), (2, jI x4_4), (3, jI v7), (5, jI v7), (0, jR b y0), (1, jR b y1)]) hx hb dX0_findMost_40 hl rfl (by decide) rfl (fun ls hl => ?_)
          refine j_goto (tgt := 7) hx hb dX0_findMost_43 (by decide) ?_
          exact ih7_1 _ _ _ _ _ _ hP hS (lv_sub hl [4, 5, 1, 2, 0] rfl) h
  exact hl7_1 N _ _ _ _ _ _ hP hS (lv_sub hl [3, 4, 2, 1, 0] rfl) h
def fX0_isPeriod_l15 (N : Nat) (y0 : Nat) (y1 : Int) (y2 : Int) (μ : Mm) (x3_2 : Int) (rec2_1 : Int → Option (Int)) : Nat → Int → Option (Int)
  | 0, _ => none
  | n6 + 1, x4_7 =>
    if wr y1 ≤ wr x4_7 then (rec2_1 (x3_2 + 1)) else (Option.bind (fX7_showedAt N y0 x3_2 x4_7 μ) (fun v10 => Option.bind (fX7_showedAt N y0 (x3_2 + y2) x4_7 μ) (fun v12 => if wr v10 = wr v12 then ((fX0_isPeriod_l15 N y0 y1 y2 μ x3_2 rec2_1 n6) (x4_7 + 1)) else (some 0))))
def fX0_isPeriod_l2 (N : Nat) (y0 : Nat) (y1 : Int) (y2 : Int) (μ : Mm) : Nat → Int → Option (Int)
  | 0, _ => none
  | n1 + 1, x3_2 =>
    Option.bind (fX7_countRows N y0 μ) (fun v4 => if wr v4 ≤ wr (x3_2 + y2) then (some 1) else (fX0_isPeriod_l15 N y0 y1 y2 μ x3_2 (fX0_isPeriod_l2 N y0 y1 y2 μ n1) N 0))
def fX0_isPeriod (N : Nat) (y0 : Nat) (y1 : Int) (y2 : Int) (μ : Mm) : Option (Int) :=
    fX0_isPeriod_l2 N y0 y1 y2 μ N 0
abbrev rmX0_isPeriod : Room := { frames := 3, cells := 0, slots := 0, locals := 64 }
set_option maxHeartbeats 4000000 in
set_option maxRecDepth 100000 in
theorem m_X0_isPeriod (l : Launch) (D : va_G) (b : Nat) (cs : CS) (N : Nat) {μ : Mm} {y0 : Nat} {y1 y2 : Int} {r : Int} (hky0 : kd y0 = 5) (h : fX0_isPeriod N y0 y1 y2 μ = some r) : MI l yX0_isPeriod wsX0_isPeriod rmX0_isPeriod D b cs [jR b y0, jI y1, jI y2] μ μ r := by
  refine met_in (cc := cX0_isPeriod) (maxL := 5) (ret := some .boolean) (lv0 := [(0, jR b y0), (1, jI y1), (2, jI y2)]) (by decide +kernel) rfl (Nat.le_of_ble_eq_true rfl) rfl ?_
  intro p e s m args below meth c hx hb hr hlk hml hown hts hP hK ls hl
  have hown : s.vm.findClass RX0 = some m.cls := hown
  have hS : va_S (bA b) s.heap s.heap [] := va_S.rf
  unfold fX0_isPeriod at h
  refine j_iconst hx hb dX0_isPeriod_0 ?_
  refine j_istore_n (lv2 := [(3, jI 0), (0, jR b y0), (1, jI y1), (2, jI y2)]) hx hb dX0_isPeriod_1 rfl hl (by decide) rfl (fun ls hl => ?_)
  have hl2_1 : ∀ (n0 : Nat) (x3_2 : Int) (H : Heap) (locs : List Loc) (ls : Array Slot), va_P D vwCl (wl b cs μ) H → va_S (bA b) s.heap H locs → lv_has ls 5 [(0, jR b y0), (1, jI y1), (2, jI y2), (3, jI x3_2)] → fX0_isPeriod_l2 N y0 y1 y2 μ n0 x3_2 = some r → W p l e rmX0_isPeriod s m args below meth c H locs 0 0 (MQ below (QI D b cs μ r) args s 0 0 (bA b)) (F0 m 2 ls []) := by
    intro n0
    induction n0 with
    | zero => intro x3_2 H locs ls hP hS hl h; rw [fX0_isPeriod_l2] at h; cases h
    | succ n1 ih2_1 =>
      intro x3_2 H locs ls hP hS hl h
      rw [fX0_isPeriod_l2] at h
      refine j_iload_n hx hb dX0_isPeriod_2 rfl (lv_at hl 3 rfl) ?_
      refine j_iload_n hx hb dX0_isPeriod_3 rfl (lv_at hl 2 rfl) ?_
      refine j_iadd hx hb dX0_isPeriod_4 ?_
      refine j_aload_n hx hb dX0_isPeriod_5 rfl (lv_at hl 0 rfl) ?_
      obtain ⟨v4, e3, h⟩ := ob_I h
      refine jc_VI (As := []) (rest := [jI (x3_2 + y2)]) ⟨hx, hb, hml, hown, hts⟩ hK hP hS (m_X7_countRows l D b cs N hky0 e3) (cwV 0 hts gX0_isPeriod_X7_countRows rfl rfl rfl (by decide +kernel) ⟨Nat.le_of_ble_eq_true rfl, Nat.le_of_ble_eq_true rfl⟩) hky0 (by decide) rfl rfl hl.1 rfl (Nat.le_of_ble_eq_true rfl) dX0_isPeriod_6 ⟨Nat.zero_le _, Nat.zero_le _⟩ (fun H locs hP hS => ?_)
      refine j_icmp_ge (A := wr (x3_2 + y2)) (B := wr v4) (tgt := 54) hx hb rfl rfl dX0_isPeriod_9 (by decide) (fun q5 => ?_) (fun q5 => ?_)
      · replace h := (if_pos q5).symm.trans h
        refine j_iconst hx hb dX0_isPeriod_54 ?_
        exact j_retZ hx hb hK hP hS hr hlk (by decide) (Option.some.inj h) dX0_isPeriod_55
      · replace h := (if_neg q5).symm.trans h
        refine j_iconst hx hb dX0_isPeriod_12 ?_
        refine j_istore (lv2 := [(4, jI 0), (0, jR b y0), (1, jI y1), (2, jI y2), (3, jI x3_2)]) hx hb dX0_isPeriod_13 hl (by decide) rfl (fun ls hl => ?_)
        have hl15_6 : ∀ (n0 : Nat) (x4_7 : Int) (H : Heap) (locs : List Loc) (ls : Array Slot), va_P D vwCl (wl b cs μ) H → va_S (bA b) s.heap H locs → lv_has ls 5 [(0, jR b y0), (1, jI y1), (2, jI y2), (3, jI x3_2), (4, jI x4_7)] → fX0_isPeriod_l15 N y0 y1 y2 μ x3_2 (fX0_isPeriod_l2 N y0 y1 y2 μ n1) n0 x4_7 = some r → W p l e rmX0_isPeriod s m args below meth c H locs 0 0 (MQ below (QI D b cs μ r) args s 0 0 (bA b)) (F0 m 15 ls []) := by
          intro n0
          induction n0 with
          | zero => intro x4_7 H locs ls hP hS hl h; rw [fX0_isPeriod_l15] at h; cases h
          | succ n6 ih15_6 =>
            intro x4_7 H locs ls hP hS hl h
            rw [fX0_isPeriod_l15] at h
            refine j_iload hx hb dX0_isPeriod_15 (lv_at hl 4 rfl) ?_
            refine j_iload_n hx hb dX0_isPeriod_17 rfl (lv_at hl 1 rfl) ?_
            refine j_icmp_ge (A := wr x4_7) (B := wr y1) (tgt := 48) hx hb rfl rfl dX0_isPeriod_18 (by decide) (fun q8 => ?_) (fun q8 => ?_)
            · replace h := (if_pos q8).symm.trans h
              refine j_iinc (k := 3) (lv2 := [(3, jI (x3_2 + 1)), (0, jR b y0), (1, jI y1), (2, jI y2), (4, jI x4_7)]) hx hb dX0_isPeriod_48 hl rfl (by decide) rfl (fun ls hl => ?_)
              refine j_goto (tgt := 2) hx hb dX0_isPeriod_51 (by decide) ?_
              exact ih2_1 _ _ _ _ hP hS (lv_sub hl [1, 2, 3, 0] rfl) h
            · replace h := (if_neg q8).symm.trans h
              refine j_aload_n hx hb dX0_isPeriod_21 rfl (lv_at hl 0 rfl) ?_
              refine j_iload_n hx hb dX0_isPeriod_22 rfl (lv_at hl 3 rfl) ?_
              refine j_iload hx hb dX0_isPeriod_23 (lv_at hl 4 rfl) ?_
              obtain ⟨v10, e9, h⟩ := ob_I h
              refine jc_VI (As := [jI x3_2, jI x4_7]) (rest := []) ⟨hx, hb, hml, hown, hts⟩ hK hP hS (m_X7_showedAt l D b cs N hky0 e9) (cwV 2 hts gX0_isPeriod_X7_showedAt rfl rfl rfl (by decide +kernel) ⟨Nat.le_of_ble_eq_true rfl, Nat.le_of_ble_eq_true rfl⟩) hky0 (by decide) rfl rfl hl.1 rfl (Nat.le_of_ble_eq_true rfl) dX0_isPeriod_25 ⟨Nat.zero_le _, Nat.zero_le _⟩ (fun H locs hP hS => ?_)
              refine j_aload_n hx hb dX0_isPeriod_28 rfl (lv_at hl 0 rfl) ?_
              refine j_iload_n hx hb dX0_isPeriod_29 rfl (lv_at hl 3 rfl) ?_
              refine j_iload_n hx hb dX0_isPeriod_30 rfl (lv_at hl 2 rfl) ?_
              refine j_iadd hx hb dX0_isPeriod_31 ?_
              refine j_iload hx hb dX0_isPeriod_32 (lv_at hl 4 rfl) ?_
              obtain ⟨v12, e11, h⟩ := ob_I h
              refine jc_VI (As := [jI (x3_2 + y2), jI x4_7]) (rest := [jI v10]) ⟨hx, hb, hml, hown, hts⟩ hK hP hS (m_X7_showedAt l D b cs N hky0 e11) (cwV 2 hts gX0_isPeriod_X7_showedAt rfl rfl rfl (by decide +kernel) ⟨Nat.le_of_ble_eq_true rfl, Nat.le_of_ble_eq_true rfl⟩) hky0 (by decide) rfl rfl hl.1 rfl (Nat.le_of_ble_eq_true rfl) dX0_isPeriod_34 ⟨Nat.zero_le _, Nat.zero_le _⟩ (fun H locs hP hS => ?_)
              refine j_icmp_eq (A := wr v10) (B := wr v12) (tgt := 42) hx hb rfl rfl dX0_isPeriod_37 (by decide) (fun q13 => ?_) (fun q13 => ?_)
              · replace h := (if_pos q13).symm.trans h
                refine j_iinc (k := 4) (lv2 := [(4, jI (x4_7 + 1)), (0, jR b y0), (1, jI y1), (2, jI y2), (3, jI x3_2)]) hx hb dX0_isPeriod_42 hl rfl (by decide) rfl (fun ls hl => ?_)
                refine j_goto (tgt := 15) hx hb dX0_isPeriod_45 (by decide) ?_
                exact ih15_6 _ _ _ _ hP hS (lv_sub hl [1, 2, 3, 4, 0] rfl) h
              · replace h := (if_neg q13).symm.trans h
                refine j_iconst hx hb dX0_isPeriod_40 ?_
                exact j_retZ hx hb hK hP hS hr hlk (by decide) (Option.some.inj h) dX0_isPeriod_41
        exact hl15_6 N _ _ _ _ hP hS (lv_sub hl [1, 2, 3, 4, 0] rfl) h
  exact hl2_1 N _ _ _ _ hP hS (lv_sub hl [1, 2, 3, 0] rfl) h
def fX0_findPeriod_l7 (N : Nat) (y0 : Nat) (y1 : Int) (μ : Mm) (v2 : Int) : Nat → Int → Option (Int)
  | 0, _ => none
  | n3 + 1, x3_4 =>
    if wr v2 ≤ wr x3_4 then (some v2) else (Option.bind (fX0_isPeriod N y0 y1 x3_4 μ) (fun v7 => if wr v7 = 0 then ((fX0_findPeriod_l7 N y0 y1 μ v2 n3) (x3_4 + 1)) else (some x3_4)))
def fX0_findPeriod (N : Nat) (y0 : Nat) (y1 : Int) (μ : Mm) : Option (Int) :=
    Option.bind (fX7_countRows N y0 μ) (fun v2 => fX0_findPeriod_l7 N y0 y1 μ v2 N 1)
abbrev rmX0_findPeriod : Room := { frames := 4, cells := 0, slots := 0, locals := 88 }
set_option maxHeartbeats 4000000 in
set_option maxRecDepth 100000 in
theorem m_X0_findPeriod (l : Launch) (D : va_G) (b : Nat) (cs : CS) (N : Nat) {μ : Mm} {y0 : Nat} {y1 : Int} {r : Int} (hky0 : kd y0 = 5) (h : fX0_findPeriod N y0 y1 μ = some r) : MI l yX0_findPeriod wsX0_findPeriod rmX0_findPeriod D b cs [jR b y0, jI y1] μ μ r := by
  refine met_in (cc := cX0_findPeriod) (maxL := 4) (ret := some .int) (lv0 := [(0, jR b y0), (1, jI y1)]) (by decide +kernel) rfl (Nat.le_of_ble_eq_true rfl) rfl ?_
  intro p e s m args below meth c hx hb hr hlk hml hown hts hP hK ls hl
  have hown : s.vm.findClass RX0 = some m.cls := hown
  have hS : va_S (bA b) s.heap s.heap [] := va_S.rf
  unfold fX0_findPeriod at h
  refine j_aload_n hx hb dX0_findPeriod_0 rfl (lv_at hl 0 rfl) ?_
  obtain ⟨v2, e1, h⟩ := ob_I h
  refine jc_VI (As := []) (rest := []) ⟨hx, hb, hml, hown, hts⟩ hK hP hS (m_X7_countRows l D b cs N hky0 e1) (cwV 0 hts gX0_findPeriod_X7_countRows rfl rfl rfl (by decide +kernel) ⟨Nat.le_of_ble_eq_true rfl, Nat.le_of_ble_eq_true rfl⟩) hky0 (by decide) rfl rfl hl.1 rfl (Nat.le_of_ble_eq_true rfl) dX0_findPeriod_1 ⟨Nat.zero_le _, Nat.zero_le _⟩ (fun H locs hP hS => ?_)
  refine j_istore_n (lv2 := [(2, jI v2), (0, jR b y0), (1, jI y1)]) hx hb dX0_findPeriod_4 rfl hl (by decide) rfl (fun ls hl => ?_)
  refine j_iconst hx hb dX0_findPeriod_5 ?_
  refine j_istore_n (lv2 := [(3, jI 1), (2, jI v2), (0, jR b y0), (1, jI y1)]) hx hb dX0_findPeriod_6 rfl hl (by decide) rfl (fun ls hl => ?_)
  have hl7_3 : ∀ (n0 : Nat) (x3_4 : Int) (H : Heap) (locs : List Loc) (ls : Array Slot), va_P D vwCl (wl b cs μ) H → va_S (bA b) s.heap H locs → lv_has ls 4 [(0, jR b y0), (1, jI y1), (2, jI v2), (3, jI x3_4)] → fX0_findPeriod_l7 N y0 y1 μ v2 n0 x3_4 = some r → W p l e rmX0_findPeriod s m args below meth c H locs 0 0 (MQ below (QI D b cs μ r) args s 0 0 (bA b)) (F0 m 7 ls []) := by
    intro n0
    induction n0 with
    | zero => intro x3_4 H locs ls hP hS hl h; rw [fX0_findPeriod_l7] at h; cases h
    | succ n3 ih7_3 =>
      intro x3_4 H locs ls hP hS hl h
      rw [fX0_findPeriod_l7] at h
      refine j_iload_n hx hb dX0_findPeriod_7 rfl (lv_at hl 3 rfl) ?_
      refine j_iload_n hx hb dX0_findPeriod_8 rfl (lv_at hl 2 rfl) ?_
      refine j_icmp_ge (A := wr x3_4) (B := wr v2) (tgt := 29) hx hb rfl rfl dX0_findPeriod_9 (by decide) (fun q5 => ?_) (fun q5 => ?_)
      · replace h := (if_pos q5).symm.trans h
        refine j_iload_n hx hb dX0_findPeriod_29 rfl (lv_at hl 2 rfl) ?_
        exact j_retI hx hb hK hP hS hr hlk (Option.some.inj h) dX0_findPeriod_30
      · replace h := (if_neg q5).symm.trans h
        refine j_aload_n hx hb dX0_findPeriod_12 rfl (lv_at hl 0 rfl) ?_
        refine j_iload_n hx hb dX0_findPeriod_13 rfl (lv_at hl 1 rfl) ?_
        refine j_iload_n hx hb dX0_findPeriod_14 rfl (lv_at hl 3 rfl) ?_
        obtain ⟨v7, e6, h⟩ := ob_I h
        refine jc_SI (As := [jR b y0, jI y1, jI x3_4]) (rest := []) ⟨hx, hb, hml, hown, hts⟩ hK hP hS (m_X0_isPeriod l D b cs N hky0 e6) (va_cwS 3 hts gX0_findPeriod_X0_isPeriod rfl rfl rfl (by decide +kernel) ⟨Nat.le_of_ble_eq_true rfl, Nat.le_of_ble_eq_true rfl⟩) rfl hl.1 rfl (Nat.le_of_ble_eq_true rfl) dX0_findPeriod_15 ⟨Nat.zero_le _, Nat.zero_le _⟩ (fun H locs hP hS => ?_)
        refine j_if_eq (A := wr v7) (tgt := 23) hx hb rfl dX0_findPeriod_18 (by decide) (fun q8 => ?_) (fun q8 => ?_)
        · replace h := (if_pos q8).symm.trans h
          refine j_iinc (k := 3) (lv2 := [(3, jI (x3_4 + 1)), (0, jR b y0), (1, jI y1), (2, jI v2)]) hx hb dX0_findPeriod_23 hl rfl (by decide) rfl (fun ls hl => ?_)
          refine j_goto (tgt := 7) hx hb dX0_findPeriod_26 (by decide) ?_
          exact ih7_3 _ _ _ _ hP hS (lv_sub hl [1, 2, 3, 0] rfl) h
        · replace h := (if_neg q8).symm.trans h
          refine j_iload_n hx hb dX0_findPeriod_21 rfl (lv_at hl 3 rfl) ?_
          exact j_retI hx hb hK hP hS hr hlk (Option.some.inj h) dX0_findPeriod_22
  exact hl7_3 N _ _ _ _ hP hS (lv_sub hl [2, 3, 1, 0] rfl) h
def fX5_indexOf (N : Nat) (y0 : Int) (y1 : Int) (μ : Mm) : Option (Int) :=
    some (((andI y0 7) * 4) + (andI y1 3))
abbrev rmX5_indexOf : Room := { frames := 0, cells := 0, slots := 0, locals := 0 }
set_option maxHeartbeats 4000000 in
set_option maxRecDepth 100000 in
theorem m_X5_indexOf (l : Launch) (D : va_G) (b : Nat) (cs : CS) (N : Nat) {μ : Mm} {y0 y1 : Int} {r : Int} (h : fX5_indexOf N y0 y1 μ = some r) : MI l yX5_indexOf wsX5_indexOf rmX5_indexOf D b cs [jI y0, jI y1] μ μ r := by
  refine met_in (cc := cX5_indexOf) (maxL := 2) (ret := some .int) (lv0 := [(0, jI y0), (1, jI y1)]) (by decide +kernel) rfl (Nat.le_of_ble_eq_true rfl) rfl ?_
  intro p e s m args below meth c hx hb hr hlk hml hown hts hP hK ls hl
  have hown : s.vm.findClass RX5 = some m.cls := hown
  have hS : va_S (bA b) s.heap s.heap [] := va_S.rf
  unfold fX5_indexOf at h
  refine j_iload_n hx hb dX5_indexOf_0 rfl (lv_at hl 0 rfl) ?_
  refine j_bipush hx hb dX5_indexOf_1 (by decide) ?_
  refine j_iand hx hb dX5_indexOf_3 ?_
  refine j_iconst hx hb dX5_indexOf_4 ?_
  refine j_imul hx hb dX5_indexOf_5 ?_
  refine j_iload_n hx hb dX5_indexOf_6 rfl (lv_at hl 1 rfl) ?_
  refine j_iconst hx hb dX5_indexOf_7 ?_
  refine j_iand hx hb dX5_indexOf_8 ?_
  refine j_iadd hx hb dX5_indexOf_9 ?_
  exact j_retI hx hb hK hP hS hr hlk (Option.some.inj h) dX5_indexOf_10
def fX5_colourAt (N : Nat) (a : Nat) (y1 : Int) (y2 : Int) (μ : Mm) : Option (Int) :=
    Option.bind (fX5_indexOf N y1 y2 μ) (fun v2 => Option.bind (ldA μ (a + 1) 32 v2) (fun v3 => some v3))
abbrev rmX5_colourAt : Room := { frames := 1, cells := 0, slots := 0, locals := 21 }
set_option maxHeartbeats 4000000 in
set_option maxRecDepth 100000 in
theorem m_X5_colourAt (l : Launch) (D : va_G) (b : Nat) (cs : CS) (N : Nat) {μ : Mm} {a : Nat} {y1 y2 : Int} {r : Int} (hka : kd a = 4) (h : fX5_colourAt N a y1 y2 μ = some r) : MI l yX5_colourAt wsX5_colourAt rmX5_colourAt D b cs [jR b a, jI y1, jI y2] μ μ r := by
  refine met_in (cc := cX5_colourAt) (maxL := 3) (ret := some .int) (lv0 := [(0, jR b a), (1, jI y1), (2, jI y2)]) (by decide +kernel) rfl (Nat.le_of_ble_eq_true rfl) rfl ?_
  intro p e s m args below meth c hx hb hr hlk hml hown hts hP hK ls hl
  have hown : s.vm.findClass RX5 = some m.cls := hown
  have hS : va_S (bA b) s.heap s.heap [] := va_S.rf
  have hinX5 : ∀ w ∈ u_ws RX5 TX5 9, w ∈ wsX5_colourAt := by decide +kernel
  unfold fX5_colourAt at h
  refine j_aload_n hx hb dX5_colourAt_0 rfl (lv_at hl 0 rfl) ?_
  refine j_get (v := jR b (a + 1)) hx hb hts hinX5 hown hK hP hka (by decide) rfl 0 (by decide) (hts (.fieldLink RX5 9 "CardBand$Threading" "holeColours" "[I") (by decide +kernel)) rfl rfl dX5_colourAt_1 ?_
  refine j_iload_n hx hb dX5_colourAt_4 rfl (lv_at hl 1 rfl) ?_
  refine j_iload_n hx hb dX5_colourAt_5 rfl (lv_at hl 2 rfl) ?_
  obtain ⟨v2, e1, h⟩ := ob_I h
  refine jc_SI (As := [jI y1, jI y2]) (rest := [jR b (a + 1)]) ⟨hx, hb, hml, hown, hts⟩ hK hP hS (m_X5_indexOf l D b cs N e1) (va_cwS 2 hts gX5_colourAt_X5_indexOf rfl rfl rfl (by decide +kernel) ⟨Nat.le_of_ble_eq_true rfl, Nat.le_of_ble_eq_true rfl⟩) rfl hl.1 rfl (Nat.le_of_ble_eq_true rfl) dX5_colourAt_6 ⟨Nat.zero_le _, Nat.zero_le _⟩ (fun H locs hP hS => ?_)
  obtain ⟨v3, e4, h⟩ := ob_I h
  refine j_iaload hx hb hK hP (kX5_1 hka) e4 dX5_colourAt_9 ?_
  exact j_retI hx hb hK hP hS hr hlk (Option.some.inj h) dX5_colourAt_10
def fX0_findTurns_j78 (N : Nat) (y0 : Nat) (y1 : Int) (y3 : Int) (μ : Mm) (x5_5 : Int) (rec15_3 : Int → Int → Option (Int)) (s12 : Int) : Int → Option (Int) := fun x4_14 =>
    if wr s12 = 0 then (Option.bind (fX5_colourAt N y0 y1 (x5_5 + 1) μ) (fun v17 => if wr y3 = wr v17 then (rec15_3 (orI x4_14 4) (x5_5 + 1)) else (rec15_3 x4_14 (x5_5 + 1)))) else (rec15_3 (orI x4_14 4) (x5_5 + 1))
def fX0_findTurns_j52 (N : Nat) (y0 : Nat) (y1 : Int) (y3 : Int) (μ : Mm) (x4_4 : Int) (x5_5 : Int) (rec15_3 : Int → Int → Option (Int)) : Int → Option (Int) := fun s12 =>
    if wr s12 = 0 then (Option.bind (fX5_colourAt N y0 y1 (x5_5 - 1) μ) (fun v21 => if wr y3 = wr v21 then (fX0_findTurns_j78 N y0 y1 y3 μ x5_5 rec15_3 s12 (orI x4_4 2)) else (fX0_findTurns_j78 N y0 y1 y3 μ x5_5 rec15_3 s12 x4_4))) else (fX0_findTurns_j78 N y0 y1 y3 μ x5_5 rec15_3 s12 (orI x4_4 2))
def fX0_findTurns_l15 (N : Nat) (y0 : Nat) (y1 : Int) (y2 : Int) (y3 : Int) (μ : Mm) : Nat → Int → Int → Option (Int)
  | 0, _, _ => none
  | n3 + 1, x4_4, x5_5 =>
    if wr y2 = (-1) then (some x4_4) else (if 4 ≤ wr x5_5 then (some x4_4) else (Option.bind (fX5_colourAt N y0 y1 x5_5 μ) (fun v9 => if wr v9 = wr y2 then (if wr y3 = (-1) then (fX0_findTurns_j52 N y0 y1 y3 μ x4_4 x5_5 (fX0_findTurns_l15 N y0 y1 y2 y3 μ n3) 1) else (if wr y3 = wr y2 then (fX0_findTurns_j52 N y0 y1 y3 μ x4_4 x5_5 (fX0_findTurns_l15 N y0 y1 y2 y3 μ n3) 1) else (fX0_findTurns_j52 N y0 y1 y3 μ x4_4 x5_5 (fX0_findTurns_l15 N y0 y1 y2 y3 μ n3) 0))) else ((fX0_findTurns_l15 N y0 y1 y2 y3 μ n3) x4_4 (x5_5 + 1)))))
def fX0_findTurns_j10 (N : Nat) (y0 : Nat) (y1 : Int) (y2 : Int) (y3 : Int) (μ : Mm) : Int → Option (Int) := fun s2 =>
    fX0_findTurns_l15 N y0 y1 y2 y3 μ N s2 0
def fX0_findTurns (N : Nat) (y0 : Nat) (y1 : Int) (y2 : Int) (y3 : Int) (μ : Mm) : Option (Int) :=
    if wr y2 = wr y3 then (fX0_findTurns_j10 N y0 y1 y2 y3 μ 1) else (fX0_findTurns_j10 N y0 y1 y2 y3 μ 0)
abbrev rmX0_findTurns : Room := { frames := 2, cells := 0, slots := 0, locals := 43 }
set_option maxHeartbeats 4000000 in
set_option maxRecDepth 100000 in
theorem m_X0_findTurns (l : Launch) (D : va_G) (b : Nat) (cs : CS) (N : Nat) {μ : Mm} {y0 : Nat} {y1 y2 y3 : Int} {r : Int} (hky0 : kd y0 = 4) (h : fX0_findTurns N y0 y1 y2 y3 μ = some r) : MI l yX0_findTurns wsX0_findTurns rmX0_findTurns D b cs [jR b y0, jI y1, jI y2, jI y3] μ μ r := by
  refine met_in (cc := cX0_findTurns) (maxL := 7) (ret := some .int) (lv0 := [(0, jR b y0), (1, jI y1), (2, jI y2), (3, jI y3)]) (by decide +kernel) rfl (Nat.le_of_ble_eq_true rfl) rfl ?_
  intro p e s m args below meth c hx hb hr hlk hml hown hts hP hK ls hl
  have hown : s.vm.findClass RX0 = some m.cls := hown
  have hS : va_S (bA b) s.heap s.heap [] := va_S.rf
  unfold fX0_findTurns at h
  refine j_iload_n hx hb dX0_findTurns_0 rfl (lv_at hl 2 rfl) ?_
  refine j_iload_n hx hb dX0_findTurns_1 rfl (lv_at hl 3 rfl) ?_
  have hj10_1 : ∀ (s2 : Int) (H : Heap) (locs : List Loc) (ls : Array Slot), va_P D vwCl (wl b cs μ) H → va_S (bA b) s.heap H locs → lv_has ls 7 [(0, jR b y0), (1, jI y1), (2, jI y2), (3, jI y3)] → fX0_findTurns_j10 N y0 y1 y2 y3 μ s2 = some r → W p l e rmX0_findTurns s m args below meth c H locs 0 0 (MQ below (QI D b cs μ r) args s 0 0 (bA b)) (F0 m 10 ls [jI s2]) := by
    intro s2 H locs ls hP hS hl h
    unfold fX0_findTurns_j10 at h
    refine j_istore (lv2 := [(4, jI s2), (0, jR b y0), (1, jI y1), (2, jI y2), (3, jI y3)]) hx hb dX0_findTurns_10 hl (by decide) rfl (fun ls hl => ?_)
    refine j_iconst hx hb dX0_findTurns_12 ?_
    refine j_istore (lv2 := [(5, jI 0), (4, jI s2), (0, jR b y0), (1, jI y1), (2, jI y2), (3, jI y3)]) hx hb dX0_findTurns_13 hl (by decide) rfl (fun ls hl => ?_)
    have hl15_3 : ∀ (n0 : Nat) (x4_4 : Int) (x5_5 : Int) (H : Heap) (locs : List Loc) (ls : Array Slot), va_P D vwCl (wl b cs μ) H → va_S (bA b) s.heap H locs → lv_has ls 7 [(0, jR b y0), (1, jI y1), (2, jI y2), (3, jI y3), (4, jI x4_4), (5, jI x5_5)] → fX0_findTurns_l15 N y0 y1 y2 y3 μ n0 x4_4 x5_5 = some r → W p l e rmX0_findTurns s m args below meth c H locs 0 0 (MQ below (QI D b cs μ r) args s 0 0 (bA b)) (F0 m 15 ls []) := by
      intro n0
      induction n0 with
      | zero => intro x4_4 x5_5 H locs ls hP hS hl h; rw [fX0_findTurns_l15] at h; cases h
      | succ n3 ih15_3 =>
        intro x4_4 x5_5 H locs ls hP hS hl h
        rw [fX0_findTurns_l15] at h
        refine j_iload_n hx hb dX0_findTurns_15 rfl (lv_at hl 2 rfl) ?_
        refine j_iconst hx hb dX0_findTurns_16 ?_
        refine j_icmp_eq (A := wr y2) (B := (-1)) (tgt := 108) hx hb rfl (by decide) dX0_findTurns_17 (by decide) (fun q6 => ?_) (fun q6 => ?_)
        · replace h := (if_pos q6).symm.trans h
          refine j_iload hx hb dX0_findTurns_108 (lv_at hl 4 rfl) ?_
          exact j_retI hx hb hK hP hS hr hlk (Option.some.inj h) dX0_findTurns_110
        · replace h := (if_neg q6).symm.trans h
          refine j_iload hx hb dX0_findTurns_20 (lv_at hl 5 rfl) ?_
          refine j_iconst hx hb dX0_findTurns_22 ?_
          refine j_icmp_ge (A := wr x5_5) (B := 4) (tgt := 108) hx hb rfl (by decide) dX0_findTurns_23 (by decide) (fun q7 => ?_) (fun q7 => ?_)
          · replace h := (if_pos q7).symm.trans h
            refine j_iload hx hb dX0_findTurns_108 (lv_at hl 4 rfl) ?_
            exact j_retI hx hb hK hP hS hr hlk (Option.some.inj h) dX0_findTurns_110
          · replace h := (if_neg q7).symm.trans h
            refine j_aload_n hx hb dX0_findTurns_26 rfl (lv_at hl 0 rfl) ?_
            refine j_iload_n hx hb dX0_findTurns_27 rfl (lv_at hl 1 rfl) ?_
            refine j_iload hx hb dX0_findTurns_28 (lv_at hl 5 rfl) ?_
            obtain ⟨v9, e8, h⟩ := ob_I h
            refine jc_VI (As := [jI y1, jI x5_5]) (rest := []) ⟨hx, hb, hml, hown, hts⟩ hK hP hS (m_X5_colourAt l D b cs N hky0 e8) (cwV 2 hts gX0_findTurns_X5_colourAt rfl rfl rfl (by decide +kernel) ⟨Nat.le_of_ble_eq_true rfl, Nat.le_of_ble_eq_true rfl⟩) hky0 (by decide) rfl rfl hl.1 rfl (Nat.le_of_ble_eq_true rfl) dX0_findTurns_30 ⟨Nat.zero_le _, Nat.zero_le _⟩ (fun H locs hP hS => ?_)
            refine j_iload_n hx hb dX0_findTurns_33 rfl (lv_at hl 2 rfl) ?_
            refine j_icmp_ne (A := wr v9) (B := wr y2) (tgt := 102) hx hb rfl rfl dX0_findTurns_34 (by decide) (fun q10 => ?_) (fun q10 => ?_)
            · replace h := (if_neg q10).symm.trans h
              refine j_iinc (k := 5) (lv2 := [(5, jI (x5_5 + 1)), (0, jR b y0), (1, jI y1), (2, jI y2), (3, jI y3), (4, jI x4_4)]) hx hb dX0_findTurns_102 hl rfl (by decide) rfl (fun ls hl => ?_)
              refine j_goto (tgt := 15) hx hb dX0_findTurns_105 (by decide) ?_
              exact ih15_3 _ _ _ _ _ hP hS (lv_sub hl [1, 2, 3, 4, 5, 0] rfl) h
            · replace h := (if_pos q10).symm.trans h
              refine j_iload_n hx hb dX0_findTurns_37 rfl (lv_at hl 3 rfl) ?_
              refine j_iconst hx hb dX0_findTurns_38 ?_
              have hj52_11 : ∀ (s12 : Int) (H : Heap) (locs : List Loc) (ls : Array Slot), va_P D vwCl (wl b cs μ) H → va_S (bA b) s.heap H locs → lv_has ls 7 [(0, jR b y0), (1, jI y1), (2, jI y2), (3, jI y3), (4, jI x4_4), (5, jI x5_5)] → fX0_findTurns_j52 N y0 y1 y3 μ x4_4 x5_5 (fX0_findTurns_l15 N y0 y1 y2 y3 μ n3) s12 = some r → W p l e rmX0_findTurns s m args below meth c H locs 0 0 (MQ below (QI D b cs μ r) args s 0 0 (bA b)) (F0 m 52 ls [jI s12]) := by
                intro s12 H locs ls hP hS hl h
                unfold fX0_findTurns_j52 at h
                refine j_istore (lv2 := [(6, jI s12), (0, jR b y0), (1, jI y1), (2, jI y2), (3, jI y3), (4, jI x4_4), (5, jI x5_5)]) hx hb dX0_findTurns_52 hl (by decide) rfl (fun ls hl => ?_)
                refine j_iload hx hb dX0_findTurns_54 (lv_at hl 0 rfl) ?_
                have hj78_13 : ∀ (x4_14 : Int) (H : Heap) (locs : List Loc) (ls : Array Slot), va_P D vwCl (wl b cs μ) H → va_S (bA b) s.heap H locs → lv_has ls 7 [(0, jR b y0), (1, jI y1), (2, jI y2), (3, jI y3), (4, jI x4_14), (5, jI x5_5), (6, jI s12)] → fX0_findTurns_j78 N y0 y1 y3 μ x5_5 (fX0_findTurns_l15 N y0 y1 y2 y3 μ n3) s12 x4_14 = some r → W p l e rmX0_findTurns s m args below meth c H locs 0 0 (MQ below (QI D b cs μ r) args s 0 0 (bA b)) (F0 m 78 ls []) := by
                  intro x4_14 H locs ls hP hS hl h
                  unfold fX0_findTurns_j78 at h
                  refine j_iload hx hb dX0_findTurns_78 (lv_at hl 6 rfl) ?_
                  refine j_if_ne (A := wr s12) (tgt := 96) hx hb rfl dX0_findTurns_80 (by decide) (fun q15 => ?_) (fun q15 => ?_)
                  · replace h := (if_neg q15).symm.trans h
                    refine j_iload hx hb dX0_findTurns_96 (lv_at hl 4 rfl) ?_
                    refine j_iconst hx hb dX0_findTurns_98 ?_
                    refine j_ior hx hb dX0_findTurns_99 ?_
                    refine j_istore (lv2 := [(4, jI (orI x4_14 4)), (0, jR b y0), (1, jI y1), (2, jI y2), (3, jI y3), (5, jI x5_5), (6, jI s12)]) hx hb dX0_findTurns_100 hl (by decide) rfl (fun ls hl => ?_)
                    refine j_iinc (k := 5) (lv2 := [(5, jI (x5_5 + 1)), (4, jI (orI x4_14 4)), (0, jR b y0), (1, jI y1), (2, jI y2), (3, jI y3), (6, jI s12)]) hx hb dX0_findTurns_102 hl rfl (by decide) rfl (fun ls hl => ?_)
                    refine j_goto (tgt := 15) hx hb dX0_findTurns_105 (by decide) ?_
                    exact ih15_3 _ _ _ _ _ hP hS (lv_sub hl [2, 3, 4, 5, 1, 0] rfl) h
                  · replace h := (if_pos q15).symm.trans h
                    refine j_iload_n hx hb dX0_findTurns_83 rfl (lv_at hl 3 rfl) ?_
                    refine j_aload_n hx hb dX0_findTurns_84 rfl (lv_at hl 0 rfl) ?_
                    refine j_iload_n hx hb dX0_findTurns_85 rfl (lv_at hl 1 rfl) ?_
                    refine j_iload hx hb dX0_findTurns_86 (lv_at hl 5 rfl) ?_
                    refine j_iconst hx hb dX0_findTurns_88 ?_
                    refine j_iadd hx hb dX0_findTurns_89 ?_
                    obtain ⟨v17, e16, h⟩ := ob_I h
                    refine jc_VI (As := [jI y1, jI (x5_5 + 1)]) (rest := [jI y3]) ⟨hx, hb, hml, hown, hts⟩ hK hP hS (m_X5_colourAt l D b cs N hky0 e16) (cwV 2 hts gX0_findTurns_X5_colourAt rfl rfl rfl (by decide +kernel) ⟨Nat.le_of_ble_eq_true rfl, Nat.le_of_ble_eq_true rfl⟩) hky0 (by decide) rfl rfl hl.1 rfl (Nat.le_of_ble_eq_true rfl) dX0_findTurns_90 ⟨Nat.zero_le _, Nat.zero_le _⟩ (fun H locs hP hS => ?_)
                    refine j_icmp_ne (A := wr y3) (B := wr v17) (tgt := 102) hx hb rfl rfl dX0_findTurns_93 (by decide) (fun q18 => ?_) (fun q18 => ?_)
                    · replace h := (if_neg q18).symm.trans h
                      refine j_iinc (k := 5) (lv2 := [(5, jI (x5_5 + 1)), (0, jR b y0), (1, jI y1), (2, jI y2), (3, jI y3), (4, jI x4_14), (6, jI s12)]) hx hb dX0_findTurns_102 hl rfl (by decide) rfl (fun ls hl => ?_)
                      refine j_goto (tgt := 15) hx hb dX0_findTurns_105 (by decide) ?_
                      exact ih15_3 _ _ _ _ _ hP hS (lv_sub hl [1, 2, 3, 4, 5, 0] rfl) h
                    · replace h := (if_pos q18).symm.trans h
                      refine j_iload hx hb dX0_findTurns_96 (lv_at hl 4 rfl) ?_
                      refine j_iconst hx hb dX0_findTurns_98 ?_
                      refine j_ior hx hb dX0_findTurns_99 ?_
                      refine j_istore (lv2 := [(4, jI (orI x4_14 4)), (0, jR b y0), (1, jI y1), (2, jI y2), (3, jI y3), (5, jI x5_5), (6, jI s12)]) hx hb dX0_findTurns_100 hl (by decide) rfl (fun ls hl => ?_)
                      refine j_iinc (k := 5) (lv2 := [(5, jI (x5_5 + 1)), (4, jI (orI x4_14 4)), (0, jR b y0), (1, jI y1), (2, jI y2), (3, jI y3), (6, jI s12)]) hx hb dX0_findTurns_102 hl rfl (by decide) rfl (fun ls hl => ?_)
                      refine j_goto (tgt := 15) hx hb dX0_findTurns_105 (by decide) ?_
                      exact ih15_3 _ _ _ _ _ hP hS (lv_sub hl [2, 3, 4, 5, 1, 0] rfl) h
                refine j_if_ne (A := wr s12) (tgt := 72) hx hb rfl dX0_findTurns_56 (by decide) (fun q19 => ?_) (fun q19 => ?_)
                · replace h := (if_neg q19).symm.trans h
                  refine j_iload hx hb dX0_findTurns_72 (lv_at hl 5 rfl) ?_
                  refine j_iconst hx hb dX0_findTurns_74 ?_
                  refine j_ior hx hb dX0_findTurns_75 ?_
                  refine j_istore (lv2 := [(4, jI (orI x4_4 2)), (6, jI s12), (0, jR b y0), (1, jI y1), (2, jI y2), (3, jI y3), (5, jI x5_5)]) hx hb dX0_findTurns_76 hl (by decide) rfl (fun ls hl => ?_)
                  exact hj78_13 _ _ _ _ hP hS (lv_sub hl [2, 3, 4, 5, 0, 6, 1] rfl) h
                · replace h := (if_pos q19).symm.trans h
                  refine j_iload_n hx hb dX0_findTurns_59 rfl (lv_at hl 4 rfl) ?_
                  refine j_aload_n hx hb dX0_findTurns_60 rfl (lv_at hl 1 rfl) ?_
                  refine j_iload_n hx hb dX0_findTurns_61 rfl (lv_at hl 2 rfl) ?_
                  refine j_iload hx hb dX0_findTurns_62 (lv_at hl 6 rfl) ?_
                  refine j_iconst hx hb dX0_findTurns_64 ?_
                  refine j_isub hx hb dX0_findTurns_65 ?_
                  obtain ⟨v21, e20, h⟩ := ob_I h
                  refine jc_VI (As := [jI y1, jI (x5_5 - 1)]) (rest := [jI y3]) ⟨hx, hb, hml, hown, hts⟩ hK hP hS (m_X5_colourAt l D b cs N hky0 e20) (cwV 2 hts gX0_findTurns_X5_colourAt rfl rfl rfl (by decide +kernel) ⟨Nat.le_of_ble_eq_true rfl, Nat.le_of_ble_eq_true rfl⟩) hky0 (by decide) rfl rfl hl.1 rfl (Nat.le_of_ble_eq_true rfl) dX0_findTurns_66 ⟨Nat.zero_le _, Nat.zero_le _⟩ (fun H locs hP hS => ?_)
                  refine j_icmp_ne (A := wr y3) (B := wr v21) (tgt := 78) hx hb rfl rfl dX0_findTurns_69 (by decide) (fun q22 => ?_) (fun q22 => ?_)
                  · replace h := (if_neg q22).symm.trans h
                    exact hj78_13 _ _ _ _ hP hS (lv_sub hl [1, 2, 3, 4, 5, 6, 0] rfl) h
                  · replace h := (if_pos q22).symm.trans h
                    refine j_iload hx hb dX0_findTurns_72 (lv_at hl 5 rfl) ?_
                    refine j_iconst hx hb dX0_findTurns_74 ?_
                    refine j_ior hx hb dX0_findTurns_75 ?_
                    refine j_istore (lv2 := [(4, jI (orI x4_4 2)), (6, jI s12), (0, jR b y0), (1, jI y1), (2, jI y2), (3, jI y3), (5, jI x5_5)]) hx hb dX0_findTurns_76 hl (by decide) rfl (fun ls hl => ?_)
                    exact hj78_13 _ _ _ _ hP hS (lv_sub hl [2, 3, 4, 5, 0, 6, 1] rfl) h
              refine j_icmp_eq (A := wr y3) (B := (-1)) (tgt := 47) hx hb rfl (by decide) dX0_findTurns_39 (by decide) (fun q23 => ?_) (fun q23 => ?_)
              · replace h := (if_pos q23).symm.trans h
                refine j_iconst hx hb dX0_findTurns_47 ?_
                refine j_goto (tgt := 52) hx hb dX0_findTurns_48 (by decide) ?_
                exact hj52_11 _ _ _ _ hP hS (lv_sub hl [0, 1, 2, 3, 4, 5] rfl) h
              · replace h := (if_neg q23).symm.trans h
                refine j_iload_n hx hb dX0_findTurns_42 rfl (lv_at hl 3 rfl) ?_
                refine j_iload_n hx hb dX0_findTurns_43 rfl (lv_at hl 2 rfl) ?_
                refine j_icmp_ne (A := wr y3) (B := wr y2) (tgt := 51) hx hb rfl rfl dX0_findTurns_44 (by decide) (fun q24 => ?_) (fun q24 => ?_)
                · replace h := (if_neg q24).symm.trans h
                  refine j_iconst hx hb dX0_findTurns_51 ?_
                  exact hj52_11 _ _ _ _ hP hS (lv_sub hl [0, 1, 2, 3, 4, 5] rfl) h
                · replace h := (if_pos q24).symm.trans h
                  refine j_iconst hx hb dX0_findTurns_47 ?_
                  refine j_goto (tgt := 52) hx hb dX0_findTurns_48 (by decide) ?_
                  exact hj52_11 _ _ _ _ hP hS (lv_sub hl [0, 1, 2, 3, 4, 5] rfl) h
    exact hl15_3 N _ _ _ _ _ hP hS (lv_sub hl [2, 3, 4, 5, 1, 0] rfl) h
  refine j_icmp_ne (A := wr y2) (B := wr y3) (tgt := 9) hx hb rfl rfl dX0_findTurns_2 (by decide) (fun q25 => ?_) (fun q25 => ?_)
  · replace h := (if_neg q25).symm.trans h
    refine j_iconst hx hb dX0_findTurns_9 ?_
    exact hj10_1 _ _ _ _ hP hS (lv_sub hl [0, 1, 2, 3] rfl) h
  · replace h := (if_pos q25).symm.trans h
    refine j_iconst hx hb dX0_findTurns_5 ?_
    refine j_goto (tgt := 10) hx hb dX0_findTurns_6 (by decide) ?_
    exact hj10_1 _ _ _ _ hP hS (lv_sub hl [0, 1, 2, 3] rfl) h
def fX1_forget (N : Nat) (μ : Mm) : Option (Mm) :=
    Option.bind (some (pI μ 21 2 0)) (fun μ1 => some μ1)
abbrev rmX1_forget : Room := { frames := 0, cells := 0, slots := 0, locals := 0 }
set_option maxHeartbeats 4000000 in
set_option maxRecDepth 100000 in
theorem m_X1_forget (l : Launch) (D : va_G) (b : Nat) (cs : CS) (N : Nat) {μ μ0 : Mm} (h : fX1_forget N μ = some μ0) : MM l yX1_forget wsX1_forget rmX1_forget D b cs [jR b 21] μ μ0 := by
  refine met_in (cc := cX1_forget) (maxL := 1) (ret := none) (lv0 := [(0, jR b 21)]) (by decide +kernel) rfl (Nat.le_of_ble_eq_true rfl) rfl ?_
  intro p e s m args below meth c hx hb hr hlk hml hown hts hP hK ls hl
  have hown : s.vm.findClass RX1 = some m.cls := hown
  have hS : va_S (bA b) s.heap s.heap [] := va_S.rf
  have hinX1 : ∀ w ∈ u_ws RX1 TX1 3, w ∈ wsX1_forget := by decide +kernel
  unfold fX1_forget at h
  refine j_aload_n hx hb dX1_forget_0 rfl (lv_at hl 0 rfl) ?_
  refine j_iconst hx hb dX1_forget_1 ?_
  obtain ⟨μ1, e2, h⟩ := ob_I h
  refine j_put (ty := .int) (z := 0) hx hb hts hinX1 tyX1 tyX1_ok nmX1 hown hK hP hS kz_21 (by decide) rfl 2 (by decide) (hts (.fieldLink RX1 18 "CardBand$Deeds" "count" "I") (by decide +kernel)) rfl rfl (by decide +kernel) rfl rfl (by simp [flds]) rfl dX1_forget_2 (Option.some.inj e2) (fun H locs hP hS => ?_)
  have e0 := Option.some.inj h
  subst e0
  exact j_retM hx hb hK hP hS hr hlk dX1_forget_5
def fX1_weaveAt (N : Nat) (y1 : Int) (μ : Mm) : Option (Int) :=
    if wr y1 < 0 then (some (-1)) else (if 30 ≤ wr y1 then (some (-1)) else (Option.bind (ckI 30 y1) (fun v3 => some ((23 + 9 * v3.toNat) : Int))))
abbrev rmX1_weaveAt : Room := { frames := 0, cells := 0, slots := 0, locals := 0 }
set_option maxHeartbeats 4000000 in
set_option maxRecDepth 100000 in
theorem m_X1_weaveAt (l : Launch) (D : va_G) (b : Nat) (cs : CS) (N : Nat) {μ : Mm} {y1 : Int} {r : Int} (h : fX1_weaveAt N y1 μ = some r) : MN l yX1_weaveAt wsX1_weaveAt rmX1_weaveAt D b cs [jR b 21, jI y1] μ μ r := by
  refine met_in (cc := cX1_weaveAt) (maxL := 2) (ret := some (.object "CardBand$Weave")) (lv0 := [(0, jR b 21), (1, jI y1)]) (by decide +kernel) rfl (Nat.le_of_ble_eq_true rfl) rfl ?_
  intro p e s m args below meth c hx hb hr hlk hml hown hts hP hK ls hl
  have hown : s.vm.findClass RX1 = some m.cls := hown
  have hS : va_S (bA b) s.heap s.heap [] := va_S.rf
  have hinX1 : ∀ w ∈ u_ws RX1 TX1 3, w ∈ wsX1_weaveAt := by decide +kernel
  unfold fX1_weaveAt at h
  refine j_iload_n hx hb dX1_weaveAt_0 rfl (lv_at hl 1 rfl) ?_
  refine j_if_lt (A := wr y1) (tgt := 22) hx hb rfl dX1_weaveAt_1 (by decide) (fun q1 => ?_) (fun q1 => ?_)
  · replace h := (if_pos q1).symm.trans h
    refine j_null (b := b) hx hb dX1_weaveAt_22 ?_
    exact j_retN hx hb hK hP hS hr hlk (Option.some.inj h) dX1_weaveAt_23
  · replace h := (if_neg q1).symm.trans h
    refine j_iload_n hx hb dX1_weaveAt_4 rfl (lv_at hl 1 rfl) ?_
    refine j_aload_n hx hb dX1_weaveAt_5 rfl (lv_at hl 0 rfl) ?_
    refine j_get (v := jR b 22) hx hb hts hinX1 hown hK hP kz_21 (by decide) rfl 0 (by decide) (hts (.fieldLink RX1 11 "CardBand$Deeds" "before" "[LCardBand$Weave;") (by decide +kernel)) rfl rfl dX1_weaveAt_6 ?_
    refine j_alenW hx hb hK hP kz_22 dX1_weaveAt_9 ?_
    refine j_icmp_ge (A := wr y1) (B := 30) (tgt := 22) hx hb rfl (by decide) dX1_weaveAt_10 (by decide) (fun q2 => ?_) (fun q2 => ?_)
    · replace h := (if_pos q2).symm.trans h
      refine j_null (b := b) hx hb dX1_weaveAt_22 ?_
      exact j_retN hx hb hK hP hS hr hlk (Option.some.inj h) dX1_weaveAt_23
    · replace h := (if_neg q2).symm.trans h
      refine j_aload_n hx hb dX1_weaveAt_13 rfl (lv_at hl 0 rfl) ?_
      refine j_get (v := jR b 22) hx hb hts hinX1 hown hK hP kz_21 (by decide) rfl 0 (by decide) (hts (.fieldLink RX1 11 "CardBand$Deeds" "before" "[LCardBand$Weave;") (by decide +kernel)) rfl rfl dX1_weaveAt_14 ?_
      refine j_iload_n hx hb dX1_weaveAt_17 rfl (lv_at hl 1 rfl) ?_
      obtain ⟨v3, e4, h⟩ := ob_I h
      refine j_aaW hx hb hK hP kz_22 e4 dX1_weaveAt_18 ?_
      refine j_goto (tgt := 23) hx hb dX1_weaveAt_19 (by decide) ?_
      rw [jR_N b (23 + 9 * v3.toNat)]
      exact j_retN hx hb hK hP hS hr hlk (Option.some.inj h) dX1_weaveAt_23
def fX7_become (N : Nat) (a : Nat) (y1 : Nat) (μ : Mm) : Option (Mm) :=
    Option.bind (cpA μ (y1 + 1) 8 (a + 1) 8 0 0 8) (fun μ1 => Option.bind (cpA μ1 (y1 + 2) 8 (a + 2) 8 0 0 8) (fun μ3 => Option.bind (cpA μ3 (y1 + 3) 8 (a + 3) 8 0 0 8) (fun μ5 => Option.bind (cpA μ5 (y1 + 4) 8 (a + 4) 8 0 0 8) (fun μ7 => Option.bind (cpA μ7 (y1 + 5) 8 (a + 5) 8 0 0 8) (fun μ9 => Option.bind (cpA μ9 (y1 + 6) 8 (a + 6) 8 0 0 8) (fun μ11 => Option.bind (cpA μ11 (y1 + 8) 192 (a + 8) 192 0 0 192) (fun μ13 => Option.bind (some (pI μ13 a 8 (gI μ13 y1 8))) (fun μ15 => some μ15))))))))
abbrev rmX7_become : Room := { frames := 1, cells := 0, slots := 0, locals := 26 }
set_option maxHeartbeats 4000000 in
set_option maxRecDepth 100000 in
theorem m_X7_become (l : Launch) (D : va_G) (b : Nat) (cs : CS) (N : Nat) {μ μ0 : Mm} {a y1 : Nat} (hka : kd a = 5) (hky1 : kd y1 = 5) (h : fX7_become N a y1 μ = some μ0) : MM l yX7_become wsX7_become rmX7_become D b cs [jR b a, jR b y1] μ μ0 := by
  refine met_in (cc := cX7_become) (maxL := 2) (ret := none) (lv0 := [(0, jR b a), (1, jR b y1)]) (by decide +kernel) rfl (Nat.le_of_ble_eq_true rfl) rfl ?_
  intro p e s m args below meth c hx hb hr hlk hml hown hts hP hK ls hl
  have hown : s.vm.findClass RX7 = some m.cls := hown
  have hS : va_S (bA b) s.heap s.heap [] := va_S.rf
  have hinX7 : ∀ w ∈ u_ws RX7 TX7 9, w ∈ wsX7_become := by decide +kernel
  unfold fX7_become at h
  refine j_aload_n hx hb dX7_become_0 rfl (lv_at hl 1 rfl) ?_
  refine j_get (v := jR b (y1 + 1)) hx hb hts hinX7 hown hK hP hky1 (by decide) rfl 0 (by decide) (hts (.fieldLink RX7 9 "CardBand$Weave" "ways" "[I") (by decide +kernel)) rfl rfl dX7_become_1 ?_
  refine j_iconst hx hb dX7_become_4 ?_
  refine j_aload_n hx hb dX7_become_5 rfl (lv_at hl 0 rfl) ?_
  refine j_get (v := jR b (a + 1)) hx hb hts hinX7 hown hK hP hka (by decide) rfl 0 (by decide) (hts (.fieldLink RX7 9 "CardBand$Weave" "ways" "[I") (by decide +kernel)) rfl rfl dX7_become_6 ?_
  refine j_iconst hx hb dX7_become_9 ?_
  refine j_bipush hx hb dX7_become_10 (by decide) ?_
  obtain ⟨μ1, e2, h⟩ := ob_I h
  refine j_copy hx hb hK hP hS hml hl.1 hown (hts (.methodLink RX7 41 arraycopyName) (by decide +kernel)) (hts (.native arraycopyName) (by decide +kernel)) (hts (.static arraycopyName) (by decide +kernel)) (hts (.initialized "java/lang/System") (by decide +kernel)) (kX7_1 hky1) (kX7_1 hka) e2 (Nat.le_of_ble_eq_true rfl) (Nat.le_of_ble_eq_true rfl) dX7_become_12 (fun H locs hP hS => ?_)
  refine j_aload_n hx hb dX7_become_15 rfl (lv_at hl 1 rfl) ?_
  refine j_get (v := jR b (y1 + 2)) hx hb hts hinX7 hown hK hP hky1 (by decide) rfl 1 (by decide) (hts (.fieldLink RX7 15 "CardBand$Weave" "stands" "[I") (by decide +kernel)) rfl rfl dX7_become_16 ?_
  refine j_iconst hx hb dX7_become_19 ?_
  refine j_aload_n hx hb dX7_become_20 rfl (lv_at hl 0 rfl) ?_
  refine j_get (v := jR b (a + 2)) hx hb hts hinX7 hown hK hP hka (by decide) rfl 1 (by decide) (hts (.fieldLink RX7 15 "CardBand$Weave" "stands" "[I") (by decide +kernel)) rfl rfl dX7_become_21 ?_
  refine j_iconst hx hb dX7_become_24 ?_
  refine j_bipush hx hb dX7_become_25 (by decide) ?_
  obtain ⟨μ3, e4, h⟩ := ob_I h
  refine j_copy hx hb hK hP hS hml hl.1 hown (hts (.methodLink RX7 41 arraycopyName) (by decide +kernel)) (hts (.native arraycopyName) (by decide +kernel)) (hts (.static arraycopyName) (by decide +kernel)) (hts (.initialized "java/lang/System") (by decide +kernel)) (kX7_2 hky1) (kX7_2 hka) e4 (Nat.le_of_ble_eq_true rfl) (Nat.le_of_ble_eq_true rfl) dX7_become_27 (fun H locs hP hS => ?_)
  refine j_aload_n hx hb dX7_become_30 rfl (lv_at hl 1 rfl) ?_
  refine j_get (v := jR b (y1 + 3)) hx hb hts hinX7 hown hK hP hky1 (by decide) rfl 2 (by decide) (hts (.fieldLink RX7 18 "CardBand$Weave" "twists" "[I") (by decide +kernel)) rfl rfl dX7_become_31 ?_
  refine j_iconst hx hb dX7_become_34 ?_
  refine j_aload_n hx hb dX7_become_35 rfl (lv_at hl 0 rfl) ?_
  refine j_get (v := jR b (a + 3)) hx hb hts hinX7 hown hK hP hka (by decide) rfl 2 (by decide) (hts (.fieldLink RX7 18 "CardBand$Weave" "twists" "[I") (by decide +kernel)) rfl rfl dX7_become_36 ?_
  refine j_iconst hx hb dX7_become_39 ?_
  refine j_bipush hx hb dX7_become_40 (by decide) ?_
  obtain ⟨μ5, e6, h⟩ := ob_I h
  refine j_copy hx hb hK hP hS hml hl.1 hown (hts (.methodLink RX7 41 arraycopyName) (by decide +kernel)) (hts (.native arraycopyName) (by decide +kernel)) (hts (.static arraycopyName) (by decide +kernel)) (hts (.initialized "java/lang/System") (by decide +kernel)) (kX7_3 hky1) (kX7_3 hka) e6 (Nat.le_of_ble_eq_true rfl) (Nat.le_of_ble_eq_true rfl) dX7_become_42 (fun H locs hP hS => ?_)
  refine j_aload_n hx hb dX7_become_45 rfl (lv_at hl 1 rfl) ?_
  refine j_get (v := jR b (y1 + 4)) hx hb hts hinX7 hown hK hP hky1 (by decide) rfl 3 (by decide) (hts (.fieldLink RX7 21 "CardBand$Weave" "shows" "[I") (by decide +kernel)) rfl rfl dX7_become_46 ?_
  refine j_iconst hx hb dX7_become_49 ?_
  refine j_aload_n hx hb dX7_become_50 rfl (lv_at hl 0 rfl) ?_
  refine j_get (v := jR b (a + 4)) hx hb hts hinX7 hown hK hP hka (by decide) rfl 3 (by decide) (hts (.fieldLink RX7 21 "CardBand$Weave" "shows" "[I") (by decide +kernel)) rfl rfl dX7_become_51 ?_
  refine j_iconst hx hb dX7_become_54 ?_
  refine j_bipush hx hb dX7_become_55 (by decide) ?_
  obtain ⟨μ7, e8, h⟩ := ob_I h
  refine j_copy hx hb hK hP hS hml hl.1 hown (hts (.methodLink RX7 41 arraycopyName) (by decide +kernel)) (hts (.native arraycopyName) (by decide +kernel)) (hts (.static arraycopyName) (by decide +kernel)) (hts (.initialized "java/lang/System") (by decide +kernel)) (kX7_4 hky1) (kX7_4 hka) e8 (Nat.le_of_ble_eq_true rfl) (Nat.le_of_ble_eq_true rfl) dX7_become_57 (fun H locs hP hS => ?_)
  refine j_aload_n hx hb dX7_become_60 rfl (lv_at hl 1 rfl) ?_
  refine j_get (v := jR b (y1 + 5)) hx hb hts hinX7 hown hK hP hky1 (by decide) rfl 4 (by decide) (hts (.fieldLink RX7 24 "CardBand$Weave" "slants" "[I") (by decide +kernel)) rfl rfl dX7_become_61 ?_
  refine j_iconst hx hb dX7_become_64 ?_
  refine j_aload_n hx hb dX7_become_65 rfl (lv_at hl 0 rfl) ?_
  refine j_get (v := jR b (a + 5)) hx hb hts hinX7 hown hK hP hka (by decide) rfl 4 (by decide) (hts (.fieldLink RX7 24 "CardBand$Weave" "slants" "[I") (by decide +kernel)) rfl rfl dX7_become_66 ?_
  refine j_iconst hx hb dX7_become_69 ?_
  refine j_bipush hx hb dX7_become_70 (by decide) ?_
  obtain ⟨μ9, e10, h⟩ := ob_I h
  refine j_copy hx hb hK hP hS hml hl.1 hown (hts (.methodLink RX7 41 arraycopyName) (by decide +kernel)) (hts (.native arraycopyName) (by decide +kernel)) (hts (.static arraycopyName) (by decide +kernel)) (hts (.initialized "java/lang/System") (by decide +kernel)) (kX7_5 hky1) (kX7_5 hka) e10 (Nat.le_of_ble_eq_true rfl) (Nat.le_of_ble_eq_true rfl) dX7_become_72 (fun H locs hP hS => ?_)
  refine j_aload_n hx hb dX7_become_75 rfl (lv_at hl 1 rfl) ?_
  refine j_get (v := jR b (y1 + 6)) hx hb hts hinX7 hown hK hP hky1 (by decide) rfl 5 (by decide) (hts (.fieldLink RX7 27 "CardBand$Weave" "yarns" "[I") (by decide +kernel)) rfl rfl dX7_become_76 ?_
  refine j_iconst hx hb dX7_become_79 ?_
  refine j_aload_n hx hb dX7_become_80 rfl (lv_at hl 0 rfl) ?_
  refine j_get (v := jR b (a + 6)) hx hb hts hinX7 hown hK hP hka (by decide) rfl 5 (by decide) (hts (.fieldLink RX7 27 "CardBand$Weave" "yarns" "[I") (by decide +kernel)) rfl rfl dX7_become_81 ?_
  refine j_iconst hx hb dX7_become_84 ?_
  refine j_bipush hx hb dX7_become_85 (by decide) ?_
  obtain ⟨μ11, e12, h⟩ := ob_I h
  refine j_copy hx hb hK hP hS hml hl.1 hown (hts (.methodLink RX7 41 arraycopyName) (by decide +kernel)) (hts (.native arraycopyName) (by decide +kernel)) (hts (.static arraycopyName) (by decide +kernel)) (hts (.initialized "java/lang/System") (by decide +kernel)) (kX7_6 hky1) (kX7_6 hka) e12 (Nat.le_of_ble_eq_true rfl) (Nat.le_of_ble_eq_true rfl) dX7_become_87 (fun H locs hP hS => ?_)
  refine j_aload_n hx hb dX7_become_90 rfl (lv_at hl 1 rfl) ?_
  refine j_get (v := jR b (y1 + 8)) hx hb hts hinX7 hown hK hP hky1 (by decide) rfl 7 (by decide) (hts (.fieldLink RX7 33 "CardBand$Weave" "band" "[I") (by decide +kernel)) rfl rfl dX7_become_91 ?_
  refine j_iconst hx hb dX7_become_94 ?_
  refine j_aload_n hx hb dX7_become_95 rfl (lv_at hl 0 rfl) ?_
  refine j_get (v := jR b (a + 8)) hx hb hts hinX7 hown hK hP hka (by decide) rfl 7 (by decide) (hts (.fieldLink RX7 33 "CardBand$Weave" "band" "[I") (by decide +kernel)) rfl rfl dX7_become_96 ?_
  refine j_iconst hx hb dX7_become_99 ?_
  refine j_sipush hx hb dX7_become_100 (by decide) ?_
  obtain ⟨μ13, e14, h⟩ := ob_I h
  refine j_copy hx hb hK hP hS hml hl.1 hown (hts (.methodLink RX7 41 arraycopyName) (by decide +kernel)) (hts (.native arraycopyName) (by decide +kernel)) (hts (.static arraycopyName) (by decide +kernel)) (hts (.initialized "java/lang/System") (by decide +kernel)) (kX7_8 hky1) (kX7_8 hka) e14 (Nat.le_of_ble_eq_true rfl) (Nat.le_of_ble_eq_true rfl) dX7_become_103 (fun H locs hP hS => ?_)
  refine j_aload_n hx hb dX7_become_106 rfl (lv_at hl 0 rfl) ?_
  refine j_aload_n hx hb dX7_become_107 rfl (lv_at hl 1 rfl) ?_
  refine j_get (v := jI (gI μ13 y1 8)) hx hb hts hinX7 hown hK hP hky1 (by decide) rfl 8 (by decide) (hts (.fieldLink RX7 56 "CardBand$Weave" "picks" "I") (by decide +kernel)) rfl (by rw [jI_g]; rfl) dX7_become_108 ?_
  obtain ⟨μ15, e16, h⟩ := ob_I h
  refine j_put (ty := .int) (z := (gI μ13 y1 8)) hx hb hts hinX7 tyX7 tyX7_ok nmX7 hown hK hP hS hka (by decide) rfl 8 (by decide) (hts (.fieldLink RX7 56 "CardBand$Weave" "picks" "I") (by decide +kernel)) rfl rfl (by decide +kernel) rfl rfl (by simp [flds]) rfl dX7_become_111 (Option.some.inj e16) (fun H locs hP hS => ?_)
  have e0 := Option.some.inj h
  subst e0
  exact j_retM hx hb hK hP hS hr hlk dX7_become_114
def fX1_remember (N : Nat) (y1 : Nat) (μ : Mm) : Option (Mm) :=
    Option.bind (fX1_weaveAt N (gI μ 21 1) μ) (fun v2 => if v2 < 0 then (some μ) else (gd (decide (kd v2.toNat = 5)) (Option.bind (fX7_become N v2.toNat y1 μ) (fun μ6 => Option.bind (some (pI μ6 21 1 (rmI ((gI μ6 21 1) + 1) 30))) (fun μ7 => Option.bind (some (pI μ7 21 2 (if wr ((gI μ7 21 2) + 1) < wr 30 then ((gI μ7 21 2) + 1) else 30))) (fun μ9 => some μ9))))))
abbrev rmX1_remember : Room := { frames := 2, cells := 0, slots := 0, locals := 47 }
set_option maxHeartbeats 4000000 in
set_option maxRecDepth 100000 in
theorem m_X1_remember (l : Launch) (D : va_G) (b : Nat) (cs : CS) (N : Nat) {μ μ0 : Mm} {y1 : Nat} (hky1 : kd y1 = 5) (h : fX1_remember N y1 μ = some μ0) : MM l yX1_remember wsX1_remember rmX1_remember D b cs [jR b 21, jR b y1] μ μ0 := by
  refine met_in (cc := cX1_remember) (maxL := 3) (ret := none) (lv0 := [(0, jR b 21), (1, jR b y1)]) (by decide +kernel) rfl (Nat.le_of_ble_eq_true rfl) rfl ?_
  intro p e s m args below meth c hx hb hr hlk hml hown hts hP hK ls hl
  have hown : s.vm.findClass RX1 = some m.cls := hown
  have hS : va_S (bA b) s.heap s.heap [] := va_S.rf
  have hinX1 : ∀ w ∈ u_ws RX1 TX1 3, w ∈ wsX1_remember := by decide +kernel
  unfold fX1_remember at h
  refine j_aload_n hx hb dX1_remember_0 rfl (lv_at hl 0 rfl) ?_
  refine j_aload_n hx hb dX1_remember_1 rfl (lv_at hl 0 rfl) ?_
  refine j_get (v := jI (gI μ 21 1)) hx hb hts hinX1 hown hK hP kz_21 (by decide) rfl 1 (by decide) (hts (.fieldLink RX1 22 "CardBand$Deeds" "next" "I") (by decide +kernel)) rfl (by rw [jI_g]; rfl) dX1_remember_2 ?_
  obtain ⟨v2, e1, h⟩ := ob_I h
  refine jc_VN (As := [jI (gI μ 21 1)]) (rest := []) ⟨hx, hb, hml, hown, hts⟩ hK hP hS (m_X1_weaveAt l D b cs N e1) (cwV 1 hts gX1_remember_X1_weaveAt rfl rfl rfl (by decide +kernel) ⟨Nat.le_of_ble_eq_true rfl, Nat.le_of_ble_eq_true rfl⟩) kz_21 (by decide) rfl rfl hl.1 rfl (Nat.le_of_ble_eq_true rfl) dX1_remember_5 ⟨Nat.zero_le _, Nat.zero_le _⟩ (fun H locs hP hS => ?_)
  refine j_astore_nN (lv2 := [(2, jN b v2), (0, jR b 21), (1, jR b y1)]) hx hb dX1_remember_8 rfl hl (by decide) rfl (fun ls hl => ?_)
  refine j_aload_nN hx hb dX1_remember_9 rfl (lv_at hl 0 rfl) ?_
  refine j_ifnonnull (tgt := 14) hx hb dX1_remember_10 (by decide) (fun q3 => ?_) (fun q3 => ?_)
  · replace h := (if_neg q3).symm.trans h
    rw [jN_R q3] at hl
    refine j_aload_n hx hb dX1_remember_14 rfl (lv_at hl 0 rfl) ?_
    refine j_aload_n hx hb dX1_remember_15 rfl (lv_at hl 2 rfl) ?_
    obtain ⟨g4, h⟩ := ob_g h
    replace g4 := of_decide_eq_true g4
    obtain ⟨μ6, e5, h⟩ := ob_I h
    refine jc_VM (As := [jR b y1]) (rest := []) ⟨hx, hb, hml, hown, hts⟩ hK hP hS (m_X7_become l D b cs N g4 hky1 e5) (cwV 1 hts gX1_remember_X7_become rfl rfl rfl (by decide +kernel) ⟨Nat.le_of_ble_eq_true rfl, Nat.le_of_ble_eq_true rfl⟩) g4 (by decide) rfl rfl hl.1 rfl (Nat.le_of_ble_eq_true rfl) dX1_remember_16 ⟨Nat.zero_le _, Nat.zero_le _⟩ (fun H locs hP hS => ?_)
    refine j_aload_n hx hb dX1_remember_19 rfl (lv_at hl 1 rfl) ?_
    refine j_aload_n hx hb dX1_remember_20 rfl (lv_at hl 1 rfl) ?_
    refine j_get (v := jI (gI μ6 21 1)) hx hb hts hinX1 hown hK hP kz_21 (by decide) rfl 1 (by decide) (hts (.fieldLink RX1 22 "CardBand$Deeds" "next" "I") (by decide +kernel)) rfl (by rw [jI_g]; rfl) dX1_remember_21 ?_
    refine j_iconst hx hb dX1_remember_24 ?_
    refine j_iadd hx hb dX1_remember_25 ?_
    refine j_bipush hx hb dX1_remember_26 (by decide) ?_
    refine j_irem hx hb dX1_remember_28 (by decide) ?_
    obtain ⟨μ7, e8, h⟩ := ob_I h
    refine j_put (ty := .int) (z := (rmI ((gI μ6 21 1) + 1) 30)) hx hb hts hinX1 tyX1 tyX1_ok nmX1 hown hK hP hS kz_21 (by decide) rfl 1 (by decide) (hts (.fieldLink RX1 22 "CardBand$Deeds" "next" "I") (by decide +kernel)) rfl rfl (by decide +kernel) rfl rfl (by simp [flds]) rfl dX1_remember_29 (Option.some.inj e8) (fun H locs hP hS => ?_)
    refine j_aload_n hx hb dX1_remember_32 rfl (lv_at hl 1 rfl) ?_
    refine j_bipush hx hb dX1_remember_33 (by decide) ?_
    refine j_aload_n hx hb dX1_remember_35 rfl (lv_at hl 1 rfl) ?_
    refine j_get (v := jI (gI μ7 21 2)) hx hb hts hinX1 hown hK hP kz_21 (by decide) rfl 2 (by decide) (hts (.fieldLink RX1 18 "CardBand$Deeds" "count" "I") (by decide +kernel)) rfl (by rw [jI_g]; rfl) dX1_remember_36 ?_
    refine j_iconst hx hb dX1_remember_39 ?_
    refine j_iadd hx hb dX1_remember_40 ?_
    refine j_min hx hb hml hl.1 hown (hts (.methodLink RX1 33 Lib.Math.min.name) (by decide +kernel)) (hts (.static Lib.Math.min.name) (by decide +kernel)) (hts (.initialized "java/lang/Math") (by decide +kernel)) (hts (.code Lib.Math.min.name Lib.Math.min.code 2 (some .int)) (by decide +kernel)) (Nat.le_of_ble_eq_true rfl) (Nat.le_of_ble_eq_true rfl) (Nat.zero_le _) (Nat.zero_le _) dX1_remember_41 ?_
    obtain ⟨μ9, e10, h⟩ := ob_I h
    refine j_put (ty := .int) (z := (if wr ((gI μ7 21 2) + 1) < wr 30 then ((gI μ7 21 2) + 1) else 30)) hx hb hts hinX1 tyX1 tyX1_ok nmX1 hown hK hP hS kz_21 (by decide) rfl 2 (by decide) (hts (.fieldLink RX1 18 "CardBand$Deeds" "count" "I") (by decide +kernel)) rfl rfl (by decide +kernel) rfl rfl (by simp [flds]) rfl dX1_remember_44 (Option.some.inj e10) (fun H locs hP hS => ?_)
    have e0 := Option.some.inj h
    subst e0
    exact j_retM hx hb hK hP hS hr hlk dX1_remember_47
  · replace h := (if_pos q3).symm.trans h
    have e0 := Option.some.inj h
    subst e0
    exact j_retM hx hb hK hP hS hr hlk dX1_remember_13
def fX1_takeBack (N : Nat) (y1 : Int) (y2 : Nat) (μ : Mm) : Option (Int × Mm) :=
    Option.bind (fJ9_floorMod_7cf53 N ((gI μ 21 1) - y1) 30 μ) (fun v2 => Option.bind (fX1_weaveAt N v2 μ) (fun v4 => if wr (gI μ 21 2) < wr y1 then (some (0, μ)) else (if v4 < 0 then (some (0, μ)) else (gd (decide (kd v4.toNat = 5)) (Option.bind (fX7_become N y2 v4.toNat μ) (fun μ9 => Option.bind (some (pI μ9 21 1 v2)) (fun μ10 => Option.bind (some (pI μ10 21 2 ((gI μ10 21 2) - y1))) (fun μ12 => some (1, μ12)))))))))
abbrev rmX1_takeBack : Room := { frames := 2, cells := 0, slots := 0, locals := 47 }
set_option maxHeartbeats 4000000 in
set_option maxRecDepth 100000 in
theorem m_X1_takeBack (l : Launch) (D : va_G) (b : Nat) (cs : CS) (N : Nat) {μ μ0 : Mm} {y2 : Nat} {y1 : Int} {r : Int} (hky2 : kd y2 = 5) (h : fX1_takeBack N y1 y2 μ = some (r, μ0)) : MI l yX1_takeBack wsX1_takeBack rmX1_takeBack D b cs [jR b 21, jI y1, jR b y2] μ μ0 r := by
  refine met_in (cc := cX1_takeBack) (maxL := 5) (ret := some .boolean) (lv0 := [(0, jR b 21), (1, jI y1), (2, jR b y2)]) (by decide +kernel) rfl (Nat.le_of_ble_eq_true rfl) rfl ?_
  intro p e s m args below meth c hx hb hr hlk hml hown hts hP hK ls hl
  have hown : s.vm.findClass RX1 = some m.cls := hown
  have hS : va_S (bA b) s.heap s.heap [] := va_S.rf
  have hinX1 : ∀ w ∈ u_ws RX1 TX1 3, w ∈ wsX1_takeBack := by decide +kernel
  unfold fX1_takeBack at h
  refine j_aload_n hx hb dX1_takeBack_0 rfl (lv_at hl 0 rfl) ?_
  refine j_get (v := jI (gI μ 21 1)) hx hb hts hinX1 hown hK hP kz_21 (by decide) rfl 1 (by decide) (hts (.fieldLink RX1 22 "CardBand$Deeds" "next" "I") (by decide +kernel)) rfl (by rw [jI_g]; rfl) dX1_takeBack_1 ?_
  refine j_iload_n hx hb dX1_takeBack_4 rfl (lv_at hl 1 rfl) ?_
  refine j_isub hx hb dX1_takeBack_5 ?_
  refine j_bipush hx hb dX1_takeBack_6 (by decide) ?_
  obtain ⟨v2, e1, h⟩ := ob_I h
  refine jc_SI (As := [jI ((gI μ 21 1) - y1), jI 30]) (rest := []) ⟨hx, hb, hml, hown, hts⟩ hK hP hS (m_J9_floorMod_7cf53 l D b cs N e1) (va_cwS 2 hts gX1_takeBack_J9_floorMod_7cf53 rfl rfl rfl (by decide +kernel) ⟨Nat.le_of_ble_eq_true rfl, Nat.le_of_ble_eq_true rfl⟩) rfl hl.1 rfl (Nat.le_of_ble_eq_true rfl) dX1_takeBack_8 ⟨Nat.zero_le _, Nat.zero_le _⟩ (fun H locs hP hS => ?_)
  refine j_istore_n (lv2 := [(3, jI v2), (0, jR b 21), (1, jI y1), (2, jR b y2)]) hx hb dX1_takeBack_11 rfl hl (by decide) rfl (fun ls hl => ?_)
  refine j_aload_n hx hb dX1_takeBack_12 rfl (lv_at hl 1 rfl) ?_
  refine j_iload_n hx hb dX1_takeBack_13 rfl (lv_at hl 0 rfl) ?_
  obtain ⟨v4, e3, h⟩ := ob_I h
  refine jc_VN (As := [jI v2]) (rest := []) ⟨hx, hb, hml, hown, hts⟩ hK hP hS (m_X1_weaveAt l D b cs N e3) (cwV 1 hts gX1_takeBack_X1_weaveAt rfl rfl rfl (by decide +kernel) ⟨Nat.le_of_ble_eq_true rfl, Nat.le_of_ble_eq_true rfl⟩) kz_21 (by decide) rfl rfl hl.1 rfl (Nat.le_of_ble_eq_true rfl) dX1_takeBack_14 ⟨Nat.zero_le _, Nat.zero_le _⟩ (fun H locs hP hS => ?_)
  refine j_astoreN (lv2 := [(4, jN b v4), (3, jI v2), (0, jR b 21), (1, jI y1), (2, jR b y2)]) hx hb dX1_takeBack_17 hl (by decide) rfl (fun ls hl => ?_)
  refine j_iload_n hx hb dX1_takeBack_19 rfl (lv_at hl 3 rfl) ?_
  refine j_aload_n hx hb dX1_takeBack_20 rfl (lv_at hl 2 rfl) ?_
  refine j_get (v := jI (gI μ 21 2)) hx hb hts hinX1 hown hK hP kz_21 (by decide) rfl 2 (by decide) (hts (.fieldLink RX1 18 "CardBand$Deeds" "count" "I") (by decide +kernel)) rfl (by rw [jI_g]; rfl) dX1_takeBack_21 ?_
  refine j_icmp_gt (A := wr y1) (B := wr (gI μ 21 2)) (tgt := 32) hx hb rfl rfl dX1_takeBack_24 (by decide) (fun q5 => ?_) (fun q5 => ?_)
  · replace h := (if_pos q5).symm.trans h
    refine j_iconst hx hb dX1_takeBack_32 ?_
    obtain ⟨e0, e1⟩ := Prod.mk.inj (Option.some.inj h)
    subst e1
    exact j_retZ hx hb hK hP hS hr hlk (by decide) e0 dX1_takeBack_33
  · replace h := (if_neg q5).symm.trans h
    refine j_aloadN hx hb dX1_takeBack_27 (lv_at hl 0 rfl) ?_
    refine j_ifnonnull (tgt := 34) hx hb dX1_takeBack_29 (by decide) (fun q6 => ?_) (fun q6 => ?_)
    · replace h := (if_neg q6).symm.trans h
      rw [jN_R q6] at hl
      refine j_aload_n hx hb dX1_takeBack_34 rfl (lv_at hl 4 rfl) ?_
      refine j_aload hx hb dX1_takeBack_35 (lv_at hl 0 rfl) ?_
      obtain ⟨g7, h⟩ := ob_g h
      replace g7 := of_decide_eq_true g7
      obtain ⟨μ9, e8, h⟩ := ob_I h
      refine jc_VM (As := [jR b v4.toNat]) (rest := []) ⟨hx, hb, hml, hown, hts⟩ hK hP hS (m_X7_become l D b cs N hky2 g7 e8) (cwV 1 hts gX1_takeBack_X7_become rfl rfl rfl (by decide +kernel) ⟨Nat.le_of_ble_eq_true rfl, Nat.le_of_ble_eq_true rfl⟩) hky2 (by decide) rfl rfl hl.1 rfl (Nat.le_of_ble_eq_true rfl) dX1_takeBack_37 ⟨Nat.zero_le _, Nat.zero_le _⟩ (fun H locs hP hS => ?_)
      refine j_aload_n hx hb dX1_takeBack_40 rfl (lv_at hl 2 rfl) ?_
      refine j_iload_n hx hb dX1_takeBack_41 rfl (lv_at hl 1 rfl) ?_
      obtain ⟨μ10, e11, h⟩ := ob_I h
      refine j_put (ty := .int) (z := v2) hx hb hts hinX1 tyX1 tyX1_ok nmX1 hown hK hP hS kz_21 (by decide) rfl 1 (by decide) (hts (.fieldLink RX1 22 "CardBand$Deeds" "next" "I") (by decide +kernel)) rfl rfl (by decide +kernel) rfl rfl (by simp [flds]) rfl dX1_takeBack_42 (Option.some.inj e11) (fun H locs hP hS => ?_)
      refine j_aload_n hx hb dX1_takeBack_45 rfl (lv_at hl 2 rfl) ?_
      refine j_dup hx hb dX1_takeBack_46 rfl ?_
      refine j_get (v := jI (gI μ10 21 2)) hx hb hts hinX1 hown hK hP kz_21 (by decide) rfl 2 (by decide) (hts (.fieldLink RX1 18 "CardBand$Deeds" "count" "I") (by decide +kernel)) rfl (by rw [jI_g]; rfl) dX1_takeBack_47 ?_
      refine j_iload_n hx hb dX1_takeBack_50 rfl (lv_at hl 3 rfl) ?_
      refine j_isub hx hb dX1_takeBack_51 ?_
      obtain ⟨μ12, e13, h⟩ := ob_I h
      refine j_put (ty := .int) (z := ((gI μ10 21 2) - y1)) hx hb hts hinX1 tyX1 tyX1_ok nmX1 hown hK hP hS kz_21 (by decide) rfl 2 (by decide) (hts (.fieldLink RX1 18 "CardBand$Deeds" "count" "I") (by decide +kernel)) rfl rfl (by decide +kernel) rfl rfl (by simp [flds]) rfl dX1_takeBack_52 (Option.some.inj e13) (fun H locs hP hS => ?_)
      refine j_iconst hx hb dX1_takeBack_55 ?_
      obtain ⟨e0, e1⟩ := Prod.mk.inj (Option.some.inj h)
      subst e1
      exact j_retZ hx hb hK hP hS hr hlk (by decide) e0 dX1_takeBack_56
    · replace h := (if_pos q6).symm.trans h
      refine j_iconst hx hb dX1_takeBack_32 ?_
      obtain ⟨e0, e1⟩ := Prod.mk.inj (Option.some.inj h)
      subst e1
      exact j_retZ hx hb hK hP hS hr hlk (by decide) e0 dX1_takeBack_33
def fX3_addEntry (N : Nat) (y1 : Int) (y2 : Int) (μ : Mm) : Option (Int × Mm) :=
    if wr (gI μ 293 6) < 20 then (Option.bind (stA μ 297 20 (gI μ 293 6) y1) (fun μ2 => Option.bind (stA μ2 298 20 (gI μ2 293 6) y2) (fun μ4 => Option.bind (some (pI μ4 293 6 ((gI μ4 293 6) + 1))) (fun μ6 => some (1, μ6))))) else (some (0, μ))
abbrev rmX3_addEntry : Room := { frames := 0, cells := 0, slots := 0, locals := 0 }
set_option maxHeartbeats 4000000 in
set_option maxRecDepth 100000 in
theorem m_X3_addEntry (l : Launch) (D : va_G) (b : Nat) (cs : CS) (N : Nat) {μ μ0 : Mm} {y1 y2 : Int} {r : Int} (h : fX3_addEntry N y1 y2 μ = some (r, μ0)) : MI l yX3_addEntry wsX3_addEntry rmX3_addEntry D b cs [jR b 293, jI y1, jI y2] μ μ0 r := by
  refine met_in (cc := cX3_addEntry) (maxL := 3) (ret := some .boolean) (lv0 := [(0, jR b 293), (1, jI y1), (2, jI y2)]) (by decide +kernel) rfl (Nat.le_of_ble_eq_true rfl) rfl ?_
  intro p e s m args below meth c hx hb hr hlk hml hown hts hP hK ls hl
  have hown : s.vm.findClass RX3 = some m.cls := hown
  have hS : va_S (bA b) s.heap s.heap [] := va_S.rf
  have hinX3 : ∀ w ∈ u_ws RX3 TX3 7, w ∈ wsX3_addEntry := by decide +kernel
  unfold fX3_addEntry at h
  refine j_aload_n hx hb dX3_addEntry_0 rfl (lv_at hl 0 rfl) ?_
  refine j_get (v := jI (gI μ 293 6)) hx hb hts hinX3 hown hK hP kz_293 (by decide) rfl 6 (by decide) (hts (.fieldLink RX3 31 "CardBand$Notes" "bookCount" "I") (by decide +kernel)) rfl (by rw [jI_g]; rfl) dX3_addEntry_1 ?_
  refine j_bipush hx hb dX3_addEntry_4 (by decide) ?_
  refine j_icmp_lt (A := wr (gI μ 293 6)) (B := 20) (tgt := 11) hx hb rfl (by decide) dX3_addEntry_6 (by decide) (fun q1 => ?_) (fun q1 => ?_)
  · replace h := (if_pos q1).symm.trans h
    refine j_aload_n hx hb dX3_addEntry_11 rfl (lv_at hl 0 rfl) ?_
    refine j_get (v := jR b 297) hx hb hts hinX3 hown hK hP kz_293 (by decide) rfl 3 (by decide) (hts (.fieldLink RX3 21 "CardBand$Notes" "bookCards" "[I") (by decide +kernel)) rfl rfl dX3_addEntry_12 ?_
    refine j_aload_n hx hb dX3_addEntry_15 rfl (lv_at hl 0 rfl) ?_
    refine j_get (v := jI (gI μ 293 6)) hx hb hts hinX3 hown hK hP kz_293 (by decide) rfl 6 (by decide) (hts (.fieldLink RX3 31 "CardBand$Notes" "bookCount" "I") (by decide +kernel)) rfl (by rw [jI_g]; rfl) dX3_addEntry_16 ?_
    refine j_iload_n hx hb dX3_addEntry_19 rfl (lv_at hl 1 rfl) ?_
    obtain ⟨μ2, e3, h⟩ := ob_I h
    refine j_iastore hx hb hK hP hS kz_297 e3 dX3_addEntry_20 (fun H locs hP hS => ?_)
    refine j_aload_n hx hb dX3_addEntry_21 rfl (lv_at hl 0 rfl) ?_
    refine j_get (v := jR b 298) hx hb hts hinX3 hown hK hP kz_293 (by decide) rfl 4 (by decide) (hts (.fieldLink RX3 24 "CardBand$Notes" "bookColours" "[I") (by decide +kernel)) rfl rfl dX3_addEntry_22 ?_
    refine j_aload_n hx hb dX3_addEntry_25 rfl (lv_at hl 0 rfl) ?_
    refine j_get (v := jI (gI μ2 293 6)) hx hb hts hinX3 hown hK hP kz_293 (by decide) rfl 6 (by decide) (hts (.fieldLink RX3 31 "CardBand$Notes" "bookCount" "I") (by decide +kernel)) rfl (by rw [jI_g]; rfl) dX3_addEntry_26 ?_
    refine j_iload_n hx hb dX3_addEntry_29 rfl (lv_at hl 2 rfl) ?_
    obtain ⟨μ4, e5, h⟩ := ob_I h
    refine j_iastore hx hb hK hP hS kz_298 e5 dX3_addEntry_30 (fun H locs hP hS => ?_)
    refine j_aload_n hx hb dX3_addEntry_31 rfl (lv_at hl 0 rfl) ?_
    refine j_dup hx hb dX3_addEntry_32 rfl ?_
    refine j_get (v := jI (gI μ4 293 6)) hx hb hts hinX3 hown hK hP kz_293 (by decide) rfl 6 (by decide) (hts (.fieldLink RX3 31 "CardBand$Notes" "bookCount" "I") (by decide +kernel)) rfl (by rw [jI_g]; rfl) dX3_addEntry_33 ?_
    refine j_iconst hx hb dX3_addEntry_36 ?_
    refine j_iadd hx hb dX3_addEntry_37 ?_
    obtain ⟨μ6, e7, h⟩ := ob_I h
    refine j_put (ty := .int) (z := ((gI μ4 293 6) + 1)) hx hb hts hinX3 tyX3 tyX3_ok nmX3 hown hK hP hS kz_293 (by decide) rfl 6 (by decide) (hts (.fieldLink RX3 31 "CardBand$Notes" "bookCount" "I") (by decide +kernel)) rfl rfl (by decide +kernel) rfl rfl (by simp [flds]) rfl dX3_addEntry_38 (Option.some.inj e7) (fun H locs hP hS => ?_)
    refine j_iconst hx hb dX3_addEntry_41 ?_
    obtain ⟨e0, e1⟩ := Prod.mk.inj (Option.some.inj h)
    subst e1
    exact j_retZ hx hb hK hP hS hr hlk (by decide) e0 dX3_addEntry_42
  · replace h := (if_neg q1).symm.trans h
    refine j_iconst hx hb dX3_addEntry_9 ?_
    obtain ⟨e0, e1⟩ := Prod.mk.inj (Option.some.inj h)
    subst e1
    exact j_retZ hx hb hK hP hS hr hlk (by decide) e0 dX3_addEntry_10
def fX3_addSeen (N : Nat) (y1 : Int) (y2 : Int) (y3 : Int) (μ : Mm) : Option (Int × Mm) :=
    if wr (gI μ 293 5) < 8 then (Option.bind (stA μ 294 8 (gI μ 293 5) y1) (fun μ2 => Option.bind (stA μ2 295 8 (gI μ2 293 5) y2) (fun μ4 => Option.bind (stA μ4 296 8 (gI μ4 293 5) y3) (fun μ6 => Option.bind (some (pI μ6 293 5 ((gI μ6 293 5) + 1))) (fun μ8 => some (1, μ8)))))) else (some (0, μ))
abbrev rmX3_addSeen : Room := { frames := 0, cells := 0, slots := 0, locals := 0 }
set_option maxHeartbeats 4000000 in
set_option maxRecDepth 100000 in
theorem m_X3_addSeen (l : Launch) (D : va_G) (b : Nat) (cs : CS) (N : Nat) {μ μ0 : Mm} {y1 y2 y3 : Int} {r : Int} (h : fX3_addSeen N y1 y2 y3 μ = some (r, μ0)) : MI l yX3_addSeen wsX3_addSeen rmX3_addSeen D b cs [jR b 293, jI y1, jI y2, jI y3] μ μ0 r := by
  refine met_in (cc := cX3_addSeen) (maxL := 4) (ret := some .boolean) (lv0 := [(0, jR b 293), (1, jI y1), (2, jI y2), (3, jI y3)]) (by decide +kernel) rfl (Nat.le_of_ble_eq_true rfl) rfl ?_
  intro p e s m args below meth c hx hb hr hlk hml hown hts hP hK ls hl
  have hown : s.vm.findClass RX3 = some m.cls := hown
  have hS : va_S (bA b) s.heap s.heap [] := va_S.rf
  have hinX3 : ∀ w ∈ u_ws RX3 TX3 7, w ∈ wsX3_addSeen := by decide +kernel
  unfold fX3_addSeen at h
  refine j_aload_n hx hb dX3_addSeen_0 rfl (lv_at hl 0 rfl) ?_
  refine j_get (v := jI (gI μ 293 5)) hx hb hts hinX3 hown hK hP kz_293 (by decide) rfl 5 (by decide) (hts (.fieldLink RX3 27 "CardBand$Notes" "seenCount" "I") (by decide +kernel)) rfl (by rw [jI_g]; rfl) dX3_addSeen_1 ?_
  refine j_bipush hx hb dX3_addSeen_4 (by decide) ?_
  refine j_icmp_lt (A := wr (gI μ 293 5)) (B := 8) (tgt := 11) hx hb rfl (by decide) dX3_addSeen_6 (by decide) (fun q1 => ?_) (fun q1 => ?_)
  · replace h := (if_pos q1).symm.trans h
    refine j_aload_n hx hb dX3_addSeen_11 rfl (lv_at hl 0 rfl) ?_
    refine j_get (v := jR b 294) hx hb hts hinX3 hown hK hP kz_293 (by decide) rfl 0 (by decide) (hts (.fieldLink RX3 9 "CardBand$Notes" "seenCards" "[I") (by decide +kernel)) rfl rfl dX3_addSeen_12 ?_
    refine j_aload_n hx hb dX3_addSeen_15 rfl (lv_at hl 0 rfl) ?_
    refine j_get (v := jI (gI μ 293 5)) hx hb hts hinX3 hown hK hP kz_293 (by decide) rfl 5 (by decide) (hts (.fieldLink RX3 27 "CardBand$Notes" "seenCount" "I") (by decide +kernel)) rfl (by rw [jI_g]; rfl) dX3_addSeen_16 ?_
    refine j_iload_n hx hb dX3_addSeen_19 rfl (lv_at hl 1 rfl) ?_
    obtain ⟨μ2, e3, h⟩ := ob_I h
    refine j_iastore hx hb hK hP hS kz_294 e3 dX3_addSeen_20 (fun H locs hP hS => ?_)
    refine j_aload_n hx hb dX3_addSeen_21 rfl (lv_at hl 0 rfl) ?_
    refine j_get (v := jR b 295) hx hb hts hinX3 hown hK hP kz_293 (by decide) rfl 1 (by decide) (hts (.fieldLink RX3 15 "CardBand$Notes" "seenTurns" "[I") (by decide +kernel)) rfl rfl dX3_addSeen_22 ?_
    refine j_aload_n hx hb dX3_addSeen_25 rfl (lv_at hl 0 rfl) ?_
    refine j_get (v := jI (gI μ2 293 5)) hx hb hts hinX3 hown hK hP kz_293 (by decide) rfl 5 (by decide) (hts (.fieldLink RX3 27 "CardBand$Notes" "seenCount" "I") (by decide +kernel)) rfl (by rw [jI_g]; rfl) dX3_addSeen_26 ?_
    refine j_iload_n hx hb dX3_addSeen_29 rfl (lv_at hl 2 rfl) ?_
    obtain ⟨μ4, e5, h⟩ := ob_I h
    refine j_iastore hx hb hK hP hS kz_295 e5 dX3_addSeen_30 (fun H locs hP hS => ?_)
    refine j_aload_n hx hb dX3_addSeen_31 rfl (lv_at hl 0 rfl) ?_
    refine j_get (v := jR b 296) hx hb hts hinX3 hown hK hP kz_293 (by decide) rfl 2 (by decide) (hts (.fieldLink RX3 18 "CardBand$Notes" "seenColours" "[I") (by decide +kernel)) rfl rfl dX3_addSeen_32 ?_
    refine j_aload_n hx hb dX3_addSeen_35 rfl (lv_at hl 0 rfl) ?_
    refine j_get (v := jI (gI μ4 293 5)) hx hb hts hinX3 hown hK hP kz_293 (by decide) rfl 5 (by decide) (hts (.fieldLink RX3 27 "CardBand$Notes" "seenCount" "I") (by decide +kernel)) rfl (by rw [jI_g]; rfl) dX3_addSeen_36 ?_
    refine j_iload_n hx hb dX3_addSeen_39 rfl (lv_at hl 3 rfl) ?_
    obtain ⟨μ6, e7, h⟩ := ob_I h
    refine j_iastore hx hb hK hP hS kz_296 e7 dX3_addSeen_40 (fun H locs hP hS => ?_)
    refine j_aload_n hx hb dX3_addSeen_41 rfl (lv_at hl 0 rfl) ?_
    refine j_dup hx hb dX3_addSeen_42 rfl ?_
    refine j_get (v := jI (gI μ6 293 5)) hx hb hts hinX3 hown hK hP kz_293 (by decide) rfl 5 (by decide) (hts (.fieldLink RX3 27 "CardBand$Notes" "seenCount" "I") (by decide +kernel)) rfl (by rw [jI_g]; rfl) dX3_addSeen_43 ?_
    refine j_iconst hx hb dX3_addSeen_46 ?_
    refine j_iadd hx hb dX3_addSeen_47 ?_
    obtain ⟨μ8, e9, h⟩ := ob_I h
    refine j_put (ty := .int) (z := ((gI μ6 293 5) + 1)) hx hb hts hinX3 tyX3 tyX3_ok nmX3 hown hK hP hS kz_293 (by decide) rfl 5 (by decide) (hts (.fieldLink RX3 27 "CardBand$Notes" "seenCount" "I") (by decide +kernel)) rfl rfl (by decide +kernel) rfl rfl (by simp [flds]) rfl dX3_addSeen_48 (Option.some.inj e9) (fun H locs hP hS => ?_)
    refine j_iconst hx hb dX3_addSeen_51 ?_
    obtain ⟨e0, e1⟩ := Prod.mk.inj (Option.some.inj h)
    subst e1
    exact j_retZ hx hb hK hP hS hr hlk (by decide) e0 dX3_addSeen_52
  · replace h := (if_neg q1).symm.trans h
    refine j_iconst hx hb dX3_addSeen_9 ?_
    obtain ⟨e0, e1⟩ := Prod.mk.inj (Option.some.inj h)
    subst e1
    exact j_retZ hx hb hK hP hS hr hlk (by decide) e0 dX3_addSeen_10
def fX3_holesThatShow_l6 (N : Nat) (y0 : Nat) (y1 : Int) (y2 : Int) (y3 : Int) (μ : Mm) : Nat → Int → Int → Option (Int)
  | 0, _, _ => none
  | n1 + 1, x4_2, x5_3 =>
    if 4 ≤ wr x5_3 then (some x4_2) else (Option.bind (fX5_colourAt N y0 y1 ((x5_3 + y2) - 1) μ) (fun v6 => if wr v6 = wr y3 then ((fX3_holesThatShow_l6 N y0 y1 y2 y3 μ n1) (orI x4_2 (shlI 1 x5_3)) (x5_3 + 1)) else ((fX3_holesThatShow_l6 N y0 y1 y2 y3 μ n1) x4_2 (x5_3 + 1))))
def fX3_holesThatShow (N : Nat) (y0 : Nat) (y1 : Int) (y2 : Int) (y3 : Int) (μ : Mm) : Option (Int) :=
    fX3_holesThatShow_l6 N y0 y1 y2 y3 μ N 0 0
abbrev rmX3_holesThatShow : Room := { frames := 2, cells := 0, slots := 0, locals := 43 }
set_option maxHeartbeats 4000000 in
set_option maxRecDepth 100000 in
theorem m_X3_holesThatShow (l : Launch) (D : va_G) (b : Nat) (cs : CS) (N : Nat) {μ : Mm} {y0 : Nat} {y1 y2 y3 : Int} {r : Int} (hky0 : kd y0 = 4) (h : fX3_holesThatShow N y0 y1 y2 y3 μ = some r) : MI l yX3_holesThatShow wsX3_holesThatShow rmX3_holesThatShow D b cs [jR b y0, jI y1, jI y2, jI y3] μ μ r := by
  refine met_in (cc := cX3_holesThatShow) (maxL := 6) (ret := some .int) (lv0 := [(0, jR b y0), (1, jI y1), (2, jI y2), (3, jI y3)]) (by decide +kernel) rfl (Nat.le_of_ble_eq_true rfl) rfl ?_
  intro p e s m args below meth c hx hb hr hlk hml hown hts hP hK ls hl
  have hown : s.vm.findClass RX3 = some m.cls := hown
  have hS : va_S (bA b) s.heap s.heap [] := va_S.rf
  unfold fX3_holesThatShow at h
  refine j_iconst hx hb dX3_holesThatShow_0 ?_
  refine j_istore (lv2 := [(4, jI 0), (0, jR b y0), (1, jI y1), (2, jI y2), (3, jI y3)]) hx hb dX3_holesThatShow_1 hl (by decide) rfl (fun ls hl => ?_)
  refine j_iconst hx hb dX3_holesThatShow_3 ?_
  refine j_istore (lv2 := [(5, jI 0), (4, jI 0), (0, jR b y0), (1, jI y1), (2, jI y2), (3, jI y3)]) hx hb dX3_holesThatShow_4 hl (by decide) rfl (fun ls hl => ?_)
  have hl6_1 : ∀ (n0 : Nat) (x4_2 : Int) (x5_3 : Int) (H : Heap) (locs : List Loc) (ls : Array Slot), va_P D vwCl (wl b cs μ) H → va_S (bA b) s.heap H locs → lv_has ls 6 [(0, jR b y0), (1, jI y1), (2, jI y2), (3, jI y3), (4, jI x4_2), (5, jI x5_3)] → fX3_holesThatShow_l6 N y0 y1 y2 y3 μ n0 x4_2 x5_3 = some r → W p l e rmX3_holesThatShow s m args below meth c H locs 0 0 (MQ below (QI D b cs μ r) args s 0 0 (bA b)) (F0 m 6 ls []) := by
    intro n0
    induction n0 with
    | zero => intro x4_2 x5_3 H locs ls hP hS hl h; rw [fX3_holesThatShow_l6] at h; cases h
    | succ n1 ih6_1 =>
      intro x4_2 x5_3 H locs ls hP hS hl h
      rw [fX3_holesThatShow_l6] at h
      refine j_iload hx hb dX3_holesThatShow_6 (lv_at hl 5 rfl) ?_
      refine j_iconst hx hb dX3_holesThatShow_8 ?_
      refine j_icmp_ge (A := wr x5_3) (B := 4) (tgt := 42) hx hb rfl (by decide) dX3_holesThatShow_9 (by decide) (fun q4 => ?_) (fun q4 => ?_)
      · replace h := (if_pos q4).symm.trans h
        refine j_iload hx hb dX3_holesThatShow_42 (lv_at hl 4 rfl) ?_
        exact j_retI hx hb hK hP hS hr hlk (Option.some.inj h) dX3_holesThatShow_44
      · replace h := (if_neg q4).symm.trans h
        refine j_aload_n hx hb dX3_holesThatShow_12 rfl (lv_at hl 0 rfl) ?_
        refine j_iload_n hx hb dX3_holesThatShow_13 rfl (lv_at hl 1 rfl) ?_
        refine j_iload hx hb dX3_holesThatShow_14 (lv_at hl 5 rfl) ?_
        refine j_iload_n hx hb dX3_holesThatShow_16 rfl (lv_at hl 2 rfl) ?_
        refine j_iadd hx hb dX3_holesThatShow_17 ?_
        refine j_iconst hx hb dX3_holesThatShow_18 ?_
        refine j_isub hx hb dX3_holesThatShow_19 ?_
        obtain ⟨v6, e5, h⟩ := ob_I h
        refine jc_VI (As := [jI y1, jI ((x5_3 + y2) - 1)]) (rest := []) ⟨hx, hb, hml, hown, hts⟩ hK hP hS (m_X5_colourAt l D b cs N hky0 e5) (cwV 2 hts gX3_holesThatShow_X5_colourAt rfl rfl rfl (by decide +kernel) ⟨Nat.le_of_ble_eq_true rfl, Nat.le_of_ble_eq_true rfl⟩) hky0 (by decide) rfl rfl hl.1 rfl (Nat.le_of_ble_eq_true rfl) dX3_holesThatShow_20 ⟨Nat.zero_le _, Nat.zero_le _⟩ (fun H locs hP hS => ?_)
        refine j_iload_n hx hb dX3_holesThatShow_23 rfl (lv_at hl 3 rfl) ?_
        refine j_icmp_ne (A := wr v6) (B := wr y3) (tgt := 36) hx hb rfl rfl dX3_holesThatShow_24 (by decide) (fun q7 => ?_) (fun q7 => ?_)
        · replace h := (if_neg q7).symm.trans h
          refine j_iinc (k := 5) (lv2 := [(5, jI (x5_3 + 1)), (0, jR b y0), (1, jI y1), (2, jI y2), (3, jI y3), (4, jI x4_2)]) hx hb dX3_holesThatShow_36 hl rfl (by decide) rfl (fun ls hl => ?_)
          refine j_goto (tgt := 6) hx hb dX3_holesThatShow_39 (by decide) ?_
          exact ih6_1 _ _ _ _ _ hP hS (lv_sub hl [1, 2, 3, 4, 5, 0] rfl) h
        · replace h := (if_pos q7).symm.trans h
          refine j_iload hx hb dX3_holesThatShow_27 (lv_at hl 4 rfl) ?_
          refine j_iconst hx hb dX3_holesThatShow_29 ?_
          refine j_iload hx hb dX3_holesThatShow_30 (lv_at hl 5 rfl) ?_
          refine j_ishl hx hb dX3_holesThatShow_32 ?_
          refine j_ior hx hb dX3_holesThatShow_33 ?_
          refine j_istore (lv2 := [(4, jI (orI x4_2 (shlI 1 x5_3))), (0, jR b y0), (1, jI y1), (2, jI y2), (3, jI y3), (5, jI x5_3)]) hx hb dX3_holesThatShow_34 hl (by decide) rfl (fun ls hl => ?_)
          refine j_iinc (k := 5) (lv2 := [(5, jI (x5_3 + 1)), (4, jI (orI x4_2 (shlI 1 x5_3))), (0, jR b y0), (1, jI y1), (2, jI y2), (3, jI y3)]) hx hb dX3_holesThatShow_36 hl rfl (by decide) rfl (fun ls hl => ?_)
          refine j_goto (tgt := 6) hx hb dX3_holesThatShow_39 (by decide) ?_
          exact ih6_1 _ _ _ _ _ hP hS (lv_sub hl [2, 3, 4, 5, 1, 0] rfl) h
  exact hl6_1 N _ _ _ _ _ hP hS (lv_sub hl [2, 3, 4, 5, 1, 0] rfl) h
def fX3_findGreatestPart_l6 (N : Nat) (y0 : Nat) (y1 : Int) (y2 : Int) (y3 : Int) (μ : Mm) : Nat → Int → Int → Option (Int)
  | 0, _, _ => none
  | n1 + 1, x4_2, x5_3 =>
    if wr (gI μ y0 5) ≤ wr x5_3 then (some x4_2) else (Option.bind (fX3_holesThatShow N y0 y1 y3 x5_3 μ) (fun v6 => Option.bind (fJ6_bitCount_0f7a4 N (andI y2 v6) μ) (fun v8 => (fX3_findGreatestPart_l6 N y0 y1 y2 y3 μ n1) (if wr x4_2 < wr v8 then v8 else x4_2) (x5_3 + 1))))
def fX3_findGreatestPart (N : Nat) (y0 : Nat) (y1 : Int) (y2 : Int) (y3 : Int) (μ : Mm) : Option (Int) :=
    fX3_findGreatestPart_l6 N y0 y1 y2 y3 μ N 0 0
abbrev rmX3_findGreatestPart : Room := { frames := 3, cells := 0, slots := 0, locals := 68 }
set_option maxHeartbeats 4000000 in
set_option maxRecDepth 100000 in
theorem m_X3_findGreatestPart (l : Launch) (D : va_G) (b : Nat) (cs : CS) (N : Nat) {μ : Mm} {y0 : Nat} {y1 y2 y3 : Int} {r : Int} (hky0 : kd y0 = 4) (h : fX3_findGreatestPart N y0 y1 y2 y3 μ = some r) : MI l yX3_findGreatestPart wsX3_findGreatestPart rmX3_findGreatestPart D b cs [jR b y0, jI y1, jI y2, jI y3] μ μ r := by
  refine met_in (cc := cX3_findGreatestPart) (maxL := 7) (ret := some .int) (lv0 := [(0, jR b y0), (1, jI y1), (2, jI y2), (3, jI y3)]) (by decide +kernel) rfl (Nat.le_of_ble_eq_true rfl) rfl ?_
  intro p e s m args below meth c hx hb hr hlk hml hown hts hP hK ls hl
  have hown : s.vm.findClass RX3 = some m.cls := hown
  have hS : va_S (bA b) s.heap s.heap [] := va_S.rf
  have hinX5 : ∀ w ∈ u_ws RX5 TX5 9, w ∈ wsX3_findGreatestPart := by decide +kernel
  unfold fX3_findGreatestPart at h
  refine j_iconst hx hb dX3_findGreatestPart_0 ?_
  refine j_istore (lv2 := [(4, jI 0), (0, jR b y0), (1, jI y1), (2, jI y2), (3, jI y3)]) hx hb dX3_findGreatestPart_1 hl (by decide) rfl (fun ls hl => ?_)
  refine j_iconst hx hb dX3_findGreatestPart_3 ?_
  refine j_istore (lv2 := [(5, jI 0), (4, jI 0), (0, jR b y0), (1, jI y1), (2, jI y2), (3, jI y3)]) hx hb dX3_findGreatestPart_4 hl (by decide) rfl (fun ls hl => ?_)
  have hl6_1 : ∀ (n0 : Nat) (x4_2 : Int) (x5_3 : Int) (H : Heap) (locs : List Loc) (ls : Array Slot), va_P D vwCl (wl b cs μ) H → va_S (bA b) s.heap H locs → lv_has ls 7 [(0, jR b y0), (1, jI y1), (2, jI y2), (3, jI y3), (4, jI x4_2), (5, jI x5_3)] → fX3_findGreatestPart_l6 N y0 y1 y2 y3 μ n0 x4_2 x5_3 = some r → W p l e rmX3_findGreatestPart s m args below meth c H locs 0 0 (MQ below (QI D b cs μ r) args s 0 0 (bA b)) (F0 m 6 ls []) := by
    intro n0
    induction n0 with
    | zero => intro x4_2 x5_3 H locs ls hP hS hl h; rw [fX3_findGreatestPart_l6] at h; cases h
    | succ n1 ih6_1 =>
      intro x4_2 x5_3 H locs ls hP hS hl h
      rw [fX3_findGreatestPart_l6] at h
      refine j_iload hx hb dX3_findGreatestPart_6 (lv_at hl 5 rfl) ?_
      refine j_aload_n hx hb dX3_findGreatestPart_8 rfl (lv_at hl 0 rfl) ?_
      refine j_get (v := jI (gI μ y0 5)) hx hb hts hinX5 hown hK hP hky0 (by decide) rfl 5 (by decide) (hts (.fieldLink RX3 62 "CardBand$Threading" "colours" "I") (by decide +kernel)) rfl (by rw [jI_g]; rfl) dX3_findGreatestPart_9 ?_
      refine j_icmp_ge (A := wr x5_3) (B := wr (gI μ y0 5)) (tgt := 45) hx hb rfl rfl dX3_findGreatestPart_12 (by decide) (fun q4 => ?_) (fun q4 => ?_)
      · replace h := (if_pos q4).symm.trans h
        refine j_iload hx hb dX3_findGreatestPart_45 (lv_at hl 4 rfl) ?_
        exact j_retI hx hb hK hP hS hr hlk (Option.some.inj h) dX3_findGreatestPart_47
      · replace h := (if_neg q4).symm.trans h
        refine j_iload_n hx hb dX3_findGreatestPart_15 rfl (lv_at hl 2 rfl) ?_
        refine j_aload_n hx hb dX3_findGreatestPart_16 rfl (lv_at hl 0 rfl) ?_
        refine j_iload_n hx hb dX3_findGreatestPart_17 rfl (lv_at hl 1 rfl) ?_
        refine j_iload_n hx hb dX3_findGreatestPart_18 rfl (lv_at hl 3 rfl) ?_
        refine j_iload hx hb dX3_findGreatestPart_19 (lv_at hl 5 rfl) ?_
        obtain ⟨v6, e5, h⟩ := ob_I h
        refine jc_SI (As := [jR b y0, jI y1, jI y3, jI x5_3]) (rest := [jI y2]) ⟨hx, hb, hml, hown, hts⟩ hK hP hS (m_X3_holesThatShow l D b cs N hky0 e5) (va_cwS 4 hts gX3_findGreatestPart_X3_holesThatShow rfl rfl rfl (by decide +kernel) ⟨Nat.le_of_ble_eq_true rfl, Nat.le_of_ble_eq_true rfl⟩) rfl hl.1 rfl (Nat.le_of_ble_eq_true rfl) dX3_findGreatestPart_21 ⟨Nat.zero_le _, Nat.zero_le _⟩ (fun H locs hP hS => ?_)
        refine j_iand hx hb dX3_findGreatestPart_24 ?_
        refine j_istore (lv2 := [(6, jI (andI y2 v6)), (0, jR b y0), (1, jI y1), (2, jI y2), (3, jI y3), (4, jI x4_2), (5, jI x5_3)]) hx hb dX3_findGreatestPart_25 hl (by decide) rfl (fun ls hl => ?_)
        refine j_iload hx hb dX3_findGreatestPart_27 (lv_at hl 5 rfl) ?_
        refine j_iload hx hb dX3_findGreatestPart_29 (lv_at hl 0 rfl) ?_
        obtain ⟨v8, e7, h⟩ := ob_I h
        refine jc_SI (As := [jI (andI y2 v6)]) (rest := [jI x4_2]) ⟨hx, hb, hml, hown, hts⟩ hK hP hS (m_J6_bitCount_0f7a4 l D b cs N e7) (va_cwS 1 hts gX3_findGreatestPart_J6_bitCount_0f7a4 rfl rfl rfl (by decide +kernel) ⟨Nat.le_of_ble_eq_true rfl, Nat.le_of_ble_eq_true rfl⟩) rfl hl.1 rfl (Nat.le_of_ble_eq_true rfl) dX3_findGreatestPart_31 ⟨Nat.zero_le _, Nat.zero_le _⟩ (fun H locs hP hS => ?_)
        refine j_max hx hb hml hl.1 hown (hts (.methodLink RX3 65 Lib.Math.max.name) (by decide +kernel)) (hts (.static Lib.Math.max.name) (by decide +kernel)) (hts (.initialized "java/lang/Math") (by decide +kernel)) (hts (.code Lib.Math.max.name Lib.Math.max.code 2 (some .int)) (by decide +kernel)) (Nat.le_of_ble_eq_true rfl) (Nat.le_of_ble_eq_true rfl) (Nat.zero_le _) (Nat.zero_le _) dX3_findGreatestPart_34 ?_
        refine j_istore (lv2 := [(4, jI (if wr x4_2 < wr v8 then v8 else x4_2)), (6, jI (andI y2 v6)), (0, jR b y0), (1, jI y1), (2, jI y2), (3, jI y3), (5, jI x5_3)]) hx hb dX3_findGreatestPart_37 hl (by decide) rfl (fun ls hl => ?_)
        refine j_iinc (k := 6) (lv2 := [(5, jI (x5_3 + 1)), (4, jI (if wr x4_2 < wr v8 then v8 else x4_2)), (6, jI (andI y2 v6)), (0, jR b y0), (1, jI y1), (2, jI y2), (3, jI y3)]) hx hb dX3_findGreatestPart_39 hl rfl (by decide) rfl (fun ls hl => ?_)
        refine j_goto (tgt := 6) hx hb dX3_findGreatestPart_42 (by decide) ?_
        exact ih6_1 _ _ _ _ _ hP hS (lv_sub hl [3, 4, 5, 6, 1, 0] rfl) h
  exact hl6_1 N _ _ _ _ _ hP hS (lv_sub hl [2, 3, 4, 5, 1, 0] rfl) h
def fX3_findHoles_l6 (N : Nat) (y1 : Nat) (y2 : Int) (μ : Mm) : Nat → Int → Int → Option (Int)
  | 0, _, _ => none
  | n1 + 1, x3_2, x4_3 =>
    if wr (gI μ 293 5) ≤ wr x4_3 then (some x3_2) else (if 8 ≤ wr x4_3 then (some x3_2) else (Option.bind (ldA μ 294 8 x4_3) (fun v6 => if wr v6 = wr y2 then (Option.bind (ldA μ 295 8 x4_3) (fun v9 => Option.bind (ldA μ 296 8 x4_3) (fun v11 => Option.bind (fX3_holesThatShow N y1 y2 v9 v11 μ) (fun v14 => (fX3_findHoles_l6 N y1 y2 μ n1) (andI x3_2 v14) (x4_3 + 1))))) else ((fX3_findHoles_l6 N y1 y2 μ n1) x3_2 (x4_3 + 1)))))
def fX3_findHoles (N : Nat) (y1 : Nat) (y2 : Int) (μ : Mm) : Option (Int) :=
    fX3_findHoles_l6 N y1 y2 μ N 15 0
abbrev rmX3_findHoles : Room := { frames := 3, cells := 0, slots := 0, locals := 68 }
set_option maxHeartbeats 4000000 in
set_option maxRecDepth 100000 in
theorem m_X3_findHoles (l : Launch) (D : va_G) (b : Nat) (cs : CS) (N : Nat) {μ : Mm} {y1 : Nat} {y2 : Int} {r : Int} (hky1 : kd y1 = 4) (h : fX3_findHoles N y1 y2 μ = some r) : MI l yX3_findHoles wsX3_findHoles rmX3_findHoles D b cs [jR b 293, jR b y1, jI y2] μ μ r := by
  refine met_in (cc := cX3_findHoles) (maxL := 5) (ret := some .int) (lv0 := [(0, jR b 293), (1, jR b y1), (2, jI y2)]) (by decide +kernel) rfl (Nat.le_of_ble_eq_true rfl) rfl ?_
  intro p e s m args below meth c hx hb hr hlk hml hown hts hP hK ls hl
  have hown : s.vm.findClass RX3 = some m.cls := hown
  have hS : va_S (bA b) s.heap s.heap [] := va_S.rf
  have hinX3 : ∀ w ∈ u_ws RX3 TX3 7, w ∈ wsX3_findHoles := by decide +kernel
  unfold fX3_findHoles at h
  refine j_bipush hx hb dX3_findHoles_0 (by decide) ?_
  refine j_istore_n (lv2 := [(3, jI 15), (0, jR b 293), (1, jR b y1), (2, jI y2)]) hx hb dX3_findHoles_2 rfl hl (by decide) rfl (fun ls hl => ?_)
  refine j_iconst hx hb dX3_findHoles_3 ?_
  refine j_istore (lv2 := [(4, jI 0), (3, jI 15), (0, jR b 293), (1, jR b y1), (2, jI y2)]) hx hb dX3_findHoles_4 hl (by decide) rfl (fun ls hl => ?_)
  have hl6_1 : ∀ (n0 : Nat) (x3_2 : Int) (x4_3 : Int) (H : Heap) (locs : List Loc) (ls : Array Slot), va_P D vwCl (wl b cs μ) H → va_S (bA b) s.heap H locs → lv_has ls 5 [(0, jR b 293), (1, jR b y1), (2, jI y2), (3, jI x3_2), (4, jI x4_3)] → fX3_findHoles_l6 N y1 y2 μ n0 x3_2 x4_3 = some r → W p l e rmX3_findHoles s m args below meth c H locs 0 0 (MQ below (QI D b cs μ r) args s 0 0 (bA b)) (F0 m 6 ls []) := by
    intro n0
    induction n0 with
    | zero => intro x3_2 x4_3 H locs ls hP hS hl h; rw [fX3_findHoles_l6] at h; cases h
    | succ n1 ih6_1 =>
      intro x3_2 x4_3 H locs ls hP hS hl h
      rw [fX3_findHoles_l6] at h
      refine j_iload hx hb dX3_findHoles_6 (lv_at hl 4 rfl) ?_
      refine j_aload_n hx hb dX3_findHoles_8 rfl (lv_at hl 0 rfl) ?_
      refine j_get (v := jI (gI μ 293 5)) hx hb hts hinX3 hown hK hP kz_293 (by decide) rfl 5 (by decide) (hts (.fieldLink RX3 27 "CardBand$Notes" "seenCount" "I") (by decide +kernel)) rfl (by rw [jI_g]; rfl) dX3_findHoles_9 ?_
      refine j_icmp_ge (A := wr x4_3) (B := wr (gI μ 293 5)) (tgt := 61) hx hb rfl rfl dX3_findHoles_12 (by decide) (fun q4 => ?_) (fun q4 => ?_)
      · replace h := (if_pos q4).symm.trans h
        refine j_iload_n hx hb dX3_findHoles_61 rfl (lv_at hl 3 rfl) ?_
        exact j_retI hx hb hK hP hS hr hlk (Option.some.inj h) dX3_findHoles_62
      · replace h := (if_neg q4).symm.trans h
        refine j_iload hx hb dX3_findHoles_15 (lv_at hl 4 rfl) ?_
        refine j_bipush hx hb dX3_findHoles_17 (by decide) ?_
        refine j_icmp_ge (A := wr x4_3) (B := 8) (tgt := 61) hx hb rfl (by decide) dX3_findHoles_19 (by decide) (fun q5 => ?_) (fun q5 => ?_)
        · replace h := (if_pos q5).symm.trans h
          refine j_iload_n hx hb dX3_findHoles_61 rfl (lv_at hl 3 rfl) ?_
          exact j_retI hx hb hK hP hS hr hlk (Option.some.inj h) dX3_findHoles_62
        · replace h := (if_neg q5).symm.trans h
          refine j_aload_n hx hb dX3_findHoles_22 rfl (lv_at hl 0 rfl) ?_
          refine j_get (v := jR b 294) hx hb hts hinX3 hown hK hP kz_293 (by decide) rfl 0 (by decide) (hts (.fieldLink RX3 9 "CardBand$Notes" "seenCards" "[I") (by decide +kernel)) rfl rfl dX3_findHoles_23 ?_
          refine j_iload hx hb dX3_findHoles_26 (lv_at hl 4 rfl) ?_
          obtain ⟨v6, e7, h⟩ := ob_I h
          refine j_iaload hx hb hK hP kz_294 e7 dX3_findHoles_28 ?_
          refine j_iload_n hx hb dX3_findHoles_29 rfl (lv_at hl 2 rfl) ?_
          refine j_icmp_ne (A := wr v6) (B := wr y2) (tgt := 55) hx hb rfl rfl dX3_findHoles_30 (by decide) (fun q8 => ?_) (fun q8 => ?_)
          · replace h := (if_neg q8).symm.trans h
            refine j_iinc (k := 4) (lv2 := [(4, jI (x4_3 + 1)), (0, jR b 293), (1, jR b y1), (2, jI y2), (3, jI x3_2)]) hx hb dX3_findHoles_55 hl rfl (by decide) rfl (fun ls hl => ?_)
            refine j_goto (tgt := 6) hx hb dX3_findHoles_58 (by decide) ?_
            exact ih6_1 _ _ _ _ _ hP hS (lv_sub hl [1, 2, 3, 4, 0] rfl) h
          · replace h := (if_pos q8).symm.trans h
            refine j_iload_n hx hb dX3_findHoles_33 rfl (lv_at hl 3 rfl) ?_
            refine j_aload_n hx hb dX3_findHoles_34 rfl (lv_at hl 1 rfl) ?_
            refine j_iload_n hx hb dX3_findHoles_35 rfl (lv_at hl 2 rfl) ?_
            refine j_aload_n hx hb dX3_findHoles_36 rfl (lv_at hl 0 rfl) ?_
            refine j_get (v := jR b 295) hx hb hts hinX3 hown hK hP kz_293 (by decide) rfl 1 (by decide) (hts (.fieldLink RX3 15 "CardBand$Notes" "seenTurns" "[I") (by decide +kernel)) rfl rfl dX3_findHoles_37 ?_
            refine j_iload hx hb dX3_findHoles_40 (lv_at hl 4 rfl) ?_
            obtain ⟨v9, e10, h⟩ := ob_I h
            refine j_iaload hx hb hK hP kz_295 e10 dX3_findHoles_42 ?_
            refine j_aload_n hx hb dX3_findHoles_43 rfl (lv_at hl 0 rfl) ?_
            refine j_get (v := jR b 296) hx hb hts hinX3 hown hK hP kz_293 (by decide) rfl 2 (by decide) (hts (.fieldLink RX3 18 "CardBand$Notes" "seenColours" "[I") (by decide +kernel)) rfl rfl dX3_findHoles_44 ?_
            refine j_iload hx hb dX3_findHoles_47 (lv_at hl 4 rfl) ?_
            obtain ⟨v11, e12, h⟩ := ob_I h
            refine j_iaload hx hb hK hP kz_296 e12 dX3_findHoles_49 ?_
            obtain ⟨v14, e13, h⟩ := ob_I h
            refine jc_SI (As := [jR b y1, jI y2, jI v9, jI v11]) (rest := [jI x3_2]) ⟨hx, hb, hml, hown, hts⟩ hK hP hS (m_X3_holesThatShow l D b cs N hky1 e13) (va_cwS 4 hts gX3_findHoles_X3_holesThatShow rfl rfl rfl (by decide +kernel) ⟨Nat.le_of_ble_eq_true rfl, Nat.le_of_ble_eq_true rfl⟩) rfl hl.1 rfl (Nat.le_of_ble_eq_true rfl) dX3_findHoles_50 ⟨Nat.zero_le _, Nat.zero_le _⟩ (fun H locs hP hS => ?_)
            refine j_iand hx hb dX3_findHoles_53 ?_
            refine j_istore_n (lv2 := [(3, jI (andI x3_2 v14)), (0, jR b 293), (1, jR b y1), (2, jI y2), (4, jI x4_3)]) hx hb dX3_findHoles_54 rfl hl (by decide) rfl (fun ls hl => ?_)
            refine j_iinc (k := 4) (lv2 := [(4, jI (x4_3 + 1)), (3, jI (andI x3_2 v14)), (0, jR b 293), (1, jR b y1), (2, jI y2)]) hx hb dX3_findHoles_55 hl rfl (by decide) rfl (fun ls hl => ?_)
            refine j_goto (tgt := 6) hx hb dX3_findHoles_58 (by decide) ?_
            exact ih6_1 _ _ _ _ _ hP hS (lv_sub hl [2, 3, 4, 1, 0] rfl) h
  exact hl6_1 N _ _ _ _ _ hP hS (lv_sub hl [2, 3, 4, 1, 0] rfl) h
def fX3_findLook_l19 (N : Nat) (y1 : Nat) (y2 : Int) (μ : Mm) (v2 : Int) : Nat → Int → Int → Int → Option (Int)
  | 0, _, _, _ => none
  | n5 + 1, x4_6, x5_7, x6_8 =>
    if 4 < wr x6_8 then (some x4_6) else (Option.bind (fX3_findGreatestPart N y1 y2 v2 x6_8 μ) (fun v11 => if wr x5_7 ≤ wr v11 then ((fX3_findLook_l19 N y1 y2 μ v2 n5) x4_6 x5_7 (x6_8 + 1)) else ((fX3_findLook_l19 N y1 y2 μ v2 n5) x6_8 v11 (x6_8 + 1))))
def fX3_findLook (N : Nat) (y1 : Nat) (y2 : Int) (μ : Mm) : Option (Int) :=
    Option.bind (fX3_findHoles N y1 y2 μ) (fun v2 => Option.bind (fJ6_bitCount_0f7a4 N v2 μ) (fun v4 => fX3_findLook_l19 N y1 y2 μ v2 N (-1) v4 1))
abbrev rmX3_findLook : Room := { frames := 4, cells := 0, slots := 0, locals := 94 }
set_option maxHeartbeats 4000000 in
set_option maxRecDepth 100000 in
theorem m_X3_findLook (l : Launch) (D : va_G) (b : Nat) (cs : CS) (N : Nat) {μ : Mm} {y1 : Nat} {y2 : Int} {r : Int} (hky1 : kd y1 = 4) (h : fX3_findLook N y1 y2 μ = some r) : MI l yX3_findLook wsX3_findLook rmX3_findLook D b cs [jR b 293, jR b y1, jI y2] μ μ r := by
  refine met_in (cc := cX3_findLook) (maxL := 8) (ret := some .int) (lv0 := [(0, jR b 293), (1, jR b y1), (2, jI y2)]) (by decide +kernel) rfl (Nat.le_of_ble_eq_true rfl) rfl ?_
  intro p e s m args below meth c hx hb hr hlk hml hown hts hP hK ls hl
  have hown : s.vm.findClass RX3 = some m.cls := hown
  have hS : va_S (bA b) s.heap s.heap [] := va_S.rf
  unfold fX3_findLook at h
  refine j_aload_n hx hb dX3_findLook_0 rfl (lv_at hl 0 rfl) ?_
  refine j_aload_n hx hb dX3_findLook_1 rfl (lv_at hl 1 rfl) ?_
  refine j_iload_n hx hb dX3_findLook_2 rfl (lv_at hl 2 rfl) ?_
  obtain ⟨v2, e1, h⟩ := ob_I h
  refine jc_VI (As := [jR b y1, jI y2]) (rest := []) ⟨hx, hb, hml, hown, hts⟩ hK hP hS (m_X3_findHoles l D b cs N hky1 e1) (cwV 2 hts gX3_findLook_X3_findHoles rfl rfl rfl (by decide +kernel) ⟨Nat.le_of_ble_eq_true rfl, Nat.le_of_ble_eq_true rfl⟩) kz_293 (by decide) rfl rfl hl.1 rfl (Nat.le_of_ble_eq_true rfl) dX3_findLook_3 ⟨Nat.zero_le _, Nat.zero_le _⟩ (fun H locs hP hS => ?_)
  refine j_istore_n (lv2 := [(3, jI v2), (0, jR b 293), (1, jR b y1), (2, jI y2)]) hx hb dX3_findLook_6 rfl hl (by decide) rfl (fun ls hl => ?_)
  refine j_iconst hx hb dX3_findLook_7 ?_
  refine j_istore (lv2 := [(4, jI (-1)), (3, jI v2), (0, jR b 293), (1, jR b y1), (2, jI y2)]) hx hb dX3_findLook_8 hl (by decide) rfl (fun ls hl => ?_)
  refine j_iload_n hx hb dX3_findLook_10 rfl (lv_at hl 1 rfl) ?_
  obtain ⟨v4, e3, h⟩ := ob_I h
  refine jc_SI (As := [jI v2]) (rest := []) ⟨hx, hb, hml, hown, hts⟩ hK hP hS (m_J6_bitCount_0f7a4 l D b cs N e3) (va_cwS 1 hts gX3_findLook_J6_bitCount_0f7a4 rfl rfl rfl (by decide +kernel) ⟨Nat.le_of_ble_eq_true rfl, Nat.le_of_ble_eq_true rfl⟩) rfl hl.1 rfl (Nat.le_of_ble_eq_true rfl) dX3_findLook_11 ⟨Nat.zero_le _, Nat.zero_le _⟩ (fun H locs hP hS => ?_)
  refine j_istore (lv2 := [(5, jI v4), (4, jI (-1)), (3, jI v2), (0, jR b 293), (1, jR b y1), (2, jI y2)]) hx hb dX3_findLook_14 hl (by decide) rfl (fun ls hl => ?_)
  refine j_iconst hx hb dX3_findLook_16 ?_
  refine j_istore (lv2 := [(6, jI 1), (5, jI v4), (4, jI (-1)), (3, jI v2), (0, jR b 293), (1, jR b y1), (2, jI y2)]) hx hb dX3_findLook_17 hl (by decide) rfl (fun ls hl => ?_)
  have hl19_5 : ∀ (n0 : Nat) (x4_6 : Int) (x5_7 : Int) (x6_8 : Int) (H : Heap) (locs : List Loc) (ls : Array Slot), va_P D vwCl (wl b cs μ) H → va_S (bA b) s.heap H locs → lv_has ls 8 [(1, jR b y1), (2, jI y2), (3, jI v2), (4, jI x4_6), (5, jI x5_7), (6, jI x6_8)] → fX3_findLook_l19 N y1 y2 μ v2 n0 x4_6 x5_7 x6_8 = some r → W p l e rmX3_findLook s m args below meth c H locs 0 0 (MQ below (QI D b cs μ r) args s 0 0 (bA b)) (F0 m 19 ls []) := by
    intro n0
    induction n0 with
    | zero => intro x4_6 x5_7 x6_8 H locs ls hP hS hl h; rw [fX3_findLook_l19] at h; cases h
    | succ n5 ih19_5 =>
      intro x4_6 x5_7 x6_8 H locs ls hP hS hl h
      rw [fX3_findLook_l19] at h
      refine j_iload hx hb dX3_findLook_19 (lv_at hl 5 rfl) ?_
      refine j_iconst hx hb dX3_findLook_21 ?_
      refine j_icmp_gt (A := wr x6_8) (B := 4) (tgt := 56) hx hb rfl (by decide) dX3_findLook_22 (by decide) (fun q9 => ?_) (fun q9 => ?_)
      · replace h := (if_pos q9).symm.trans h
        refine j_iload hx hb dX3_findLook_56 (lv_at hl 3 rfl) ?_
        exact j_retI hx hb hK hP hS hr hlk (Option.some.inj h) dX3_findLook_58
      · replace h := (if_neg q9).symm.trans h
        refine j_aload_n hx hb dX3_findLook_25 rfl (lv_at hl 0 rfl) ?_
        refine j_iload_n hx hb dX3_findLook_26 rfl (lv_at hl 1 rfl) ?_
        refine j_iload_n hx hb dX3_findLook_27 rfl (lv_at hl 2 rfl) ?_
        refine j_iload hx hb dX3_findLook_28 (lv_at hl 5 rfl) ?_
        obtain ⟨v11, e10, h⟩ := ob_I h
        refine jc_SI (As := [jR b y1, jI y2, jI v2, jI x6_8]) (rest := []) ⟨hx, hb, hml, hown, hts⟩ hK hP hS (m_X3_findGreatestPart l D b cs N hky1 e10) (va_cwS 4 hts gX3_findLook_X3_findGreatestPart rfl rfl rfl (by decide +kernel) ⟨Nat.le_of_ble_eq_true rfl, Nat.le_of_ble_eq_true rfl⟩) rfl hl.1 rfl (Nat.le_of_ble_eq_true rfl) dX3_findLook_30 ⟨Nat.zero_le _, Nat.zero_le _⟩ (fun H locs hP hS => ?_)
        refine j_istore (lv2 := [(7, jI v11), (1, jR b y1), (2, jI y2), (3, jI v2), (4, jI x4_6), (5, jI x5_7), (6, jI x6_8)]) hx hb dX3_findLook_33 hl (by decide) rfl (fun ls hl => ?_)
        refine j_iload hx hb dX3_findLook_35 (lv_at hl 0 rfl) ?_
        refine j_iload hx hb dX3_findLook_37 (lv_at hl 5 rfl) ?_
        refine j_icmp_ge (A := wr v11) (B := wr x5_7) (tgt := 50) hx hb rfl rfl dX3_findLook_39 (by decide) (fun q12 => ?_) (fun q12 => ?_)
        · replace h := (if_pos q12).symm.trans h
          refine j_iinc (k := 6) (lv2 := [(6, jI (x6_8 + 1)), (7, jI v11), (1, jR b y1), (2, jI y2), (3, jI v2), (4, jI x4_6), (5, jI x5_7)]) hx hb dX3_findLook_50 hl rfl (by decide) rfl (fun ls hl => ?_)
          refine j_goto (tgt := 19) hx hb dX3_findLook_53 (by decide) ?_
          exact ih19_5 _ _ _ _ _ _ hP hS (lv_sub hl [2, 3, 4, 5, 6, 0] rfl) h
        · replace h := (if_neg q12).symm.trans h
          refine j_iload hx hb dX3_findLook_42 (lv_at hl 0 rfl) ?_
          refine j_istore (lv2 := [(5, jI v11), (7, jI v11), (1, jR b y1), (2, jI y2), (3, jI v2), (4, jI x4_6), (6, jI x6_8)]) hx hb dX3_findLook_44 hl (by decide) rfl (fun ls hl => ?_)
          refine j_iload hx hb dX3_findLook_46 (lv_at hl 6 rfl) ?_
          refine j_istore (lv2 := [(4, jI x6_8), (5, jI v11), (7, jI v11), (1, jR b y1), (2, jI y2), (3, jI v2), (6, jI x6_8)]) hx hb dX3_findLook_48 hl (by decide) rfl (fun ls hl => ?_)
          refine j_iinc (k := 6) (lv2 := [(6, jI (x6_8 + 1)), (4, jI x6_8), (5, jI v11), (7, jI v11), (1, jR b y1), (2, jI y2), (3, jI v2)]) hx hb dX3_findLook_50 hl rfl (by decide) rfl (fun ls hl => ?_)
          refine j_goto (tgt := 19) hx hb dX3_findLook_53 (by decide) ?_
          exact ih19_5 _ _ _ _ _ _ hP hS (lv_sub hl [4, 5, 6, 1, 2, 0] rfl) h
  exact hl19_5 N _ _ _ _ _ _ hP hS (lv_sub hl [5, 6, 3, 2, 1, 0] rfl) h
def fX3_findWrong_l2 (N : Nat) (y1 : Nat) (μ : Mm) : Nat → Int → Option (Int)
  | 0, _ => none
  | n1 + 1, x2_2 =>
    if wr (gI μ 293 6) ≤ wr x2_2 then (some (-1)) else (if 20 ≤ wr x2_2 then (some (-1)) else (Option.bind (ldA μ 297 20 x2_2) (fun v5 => Option.bind (ldA μ (y1 + 4) 8 (andI v5 7)) (fun v7 => Option.bind (ldA μ 298 20 x2_2) (fun v9 => if wr v7 = wr v9 then ((fX3_findWrong_l2 N y1 μ n1) (x2_2 + 1)) else (some x2_2))))))
def fX3_findWrong (N : Nat) (y1 : Nat) (μ : Mm) : Option (Int) :=
    fX3_findWrong_l2 N y1 μ N 0
abbrev rmX3_findWrong : Room := { frames := 0, cells := 0, slots := 0, locals := 0 }
set_option maxHeartbeats 4000000 in
set_option maxRecDepth 100000 in
theorem m_X3_findWrong (l : Launch) (D : va_G) (b : Nat) (cs : CS) (N : Nat) {μ : Mm} {y1 : Nat} {r : Int} (hky1 : kd y1 = 5) (h : fX3_findWrong N y1 μ = some r) : MI l yX3_findWrong wsX3_findWrong rmX3_findWrong D b cs [jR b 293, jR b y1] μ μ r := by
  refine met_in (cc := cX3_findWrong) (maxL := 3) (ret := some .int) (lv0 := [(0, jR b 293), (1, jR b y1)]) (by decide +kernel) rfl (Nat.le_of_ble_eq_true rfl) rfl ?_
  intro p e s m args below meth c hx hb hr hlk hml hown hts hP hK ls hl
  have hown : s.vm.findClass RX3 = some m.cls := hown
  have hS : va_S (bA b) s.heap s.heap [] := va_S.rf
  have hinX3 : ∀ w ∈ u_ws RX3 TX3 7, w ∈ wsX3_findWrong := by decide +kernel
  have hinX7 : ∀ w ∈ u_ws RX7 TX7 9, w ∈ wsX3_findWrong := by decide +kernel
  unfold fX3_findWrong at h
  refine j_iconst hx hb dX3_findWrong_0 ?_
  refine j_istore_n (lv2 := [(2, jI 0), (0, jR b 293), (1, jR b y1)]) hx hb dX3_findWrong_1 rfl hl (by decide) rfl (fun ls hl => ?_)
  have hl2_1 : ∀ (n0 : Nat) (x2_2 : Int) (H : Heap) (locs : List Loc) (ls : Array Slot), va_P D vwCl (wl b cs μ) H → va_S (bA b) s.heap H locs → lv_has ls 3 [(0, jR b 293), (1, jR b y1), (2, jI x2_2)] → fX3_findWrong_l2 N y1 μ n0 x2_2 = some r → W p l e rmX3_findWrong s m args below meth c H locs 0 0 (MQ below (QI D b cs μ r) args s 0 0 (bA b)) (F0 m 2 ls []) := by
    intro n0
    induction n0 with
    | zero => intro x2_2 H locs ls hP hS hl h; rw [fX3_findWrong_l2] at h; cases h
    | succ n1 ih2_1 =>
      intro x2_2 H locs ls hP hS hl h
      rw [fX3_findWrong_l2] at h
      refine j_iload_n hx hb dX3_findWrong_2 rfl (lv_at hl 2 rfl) ?_
      refine j_aload_n hx hb dX3_findWrong_3 rfl (lv_at hl 0 rfl) ?_
      refine j_get (v := jI (gI μ 293 6)) hx hb hts hinX3 hown hK hP kz_293 (by decide) rfl 6 (by decide) (hts (.fieldLink RX3 31 "CardBand$Notes" "bookCount" "I") (by decide +kernel)) rfl (by rw [jI_g]; rfl) dX3_findWrong_4 ?_
      refine j_icmp_ge (A := wr x2_2) (B := wr (gI μ 293 6)) (tgt := 47) hx hb rfl rfl dX3_findWrong_7 (by decide) (fun q3 => ?_) (fun q3 => ?_)
      · replace h := (if_pos q3).symm.trans h
        refine j_iconst hx hb dX3_findWrong_47 ?_
        exact j_retI hx hb hK hP hS hr hlk (Option.some.inj h) dX3_findWrong_48
      · replace h := (if_neg q3).symm.trans h
        refine j_iload_n hx hb dX3_findWrong_10 rfl (lv_at hl 2 rfl) ?_
        refine j_bipush hx hb dX3_findWrong_11 (by decide) ?_
        refine j_icmp_ge (A := wr x2_2) (B := 20) (tgt := 47) hx hb rfl (by decide) dX3_findWrong_13 (by decide) (fun q4 => ?_) (fun q4 => ?_)
        · replace h := (if_pos q4).symm.trans h
          refine j_iconst hx hb dX3_findWrong_47 ?_
          exact j_retI hx hb hK hP hS hr hlk (Option.some.inj h) dX3_findWrong_48
        · replace h := (if_neg q4).symm.trans h
          refine j_aload_n hx hb dX3_findWrong_16 rfl (lv_at hl 1 rfl) ?_
          refine j_get (v := jR b (y1 + 4)) hx hb hts hinX7 hown hK hP hky1 (by decide) rfl 3 (by decide) (hts (.fieldLink RX3 34 "CardBand$Weave" "shows" "[I") (by decide +kernel)) rfl rfl dX3_findWrong_17 ?_
          refine j_aload_n hx hb dX3_findWrong_20 rfl (lv_at hl 0 rfl) ?_
          refine j_get (v := jR b 297) hx hb hts hinX3 hown hK hP kz_293 (by decide) rfl 3 (by decide) (hts (.fieldLink RX3 21 "CardBand$Notes" "bookCards" "[I") (by decide +kernel)) rfl rfl dX3_findWrong_21 ?_
          refine j_iload_n hx hb dX3_findWrong_24 rfl (lv_at hl 2 rfl) ?_
          obtain ⟨v5, e6, h⟩ := ob_I h
          refine j_iaload hx hb hK hP kz_297 e6 dX3_findWrong_25 ?_
          refine j_bipush hx hb dX3_findWrong_26 (by decide) ?_
          refine j_iand hx hb dX3_findWrong_28 ?_
          obtain ⟨v7, e8, h⟩ := ob_I h
          refine j_iaload hx hb hK hP (kX7_4 hky1) e8 dX3_findWrong_29 ?_
          refine j_aload_n hx hb dX3_findWrong_30 rfl (lv_at hl 0 rfl) ?_
          refine j_get (v := jR b 298) hx hb hts hinX3 hown hK hP kz_293 (by decide) rfl 4 (by decide) (hts (.fieldLink RX3 24 "CardBand$Notes" "bookColours" "[I") (by decide +kernel)) rfl rfl dX3_findWrong_31 ?_
          refine j_iload_n hx hb dX3_findWrong_34 rfl (lv_at hl 2 rfl) ?_
          obtain ⟨v9, e10, h⟩ := ob_I h
          refine j_iaload hx hb hK hP kz_298 e10 dX3_findWrong_35 ?_
          refine j_icmp_eq (A := wr v7) (B := wr v9) (tgt := 41) hx hb rfl rfl dX3_findWrong_36 (by decide) (fun q11 => ?_) (fun q11 => ?_)
          · replace h := (if_pos q11).symm.trans h
            refine j_iinc (k := 2) (lv2 := [(2, jI (x2_2 + 1)), (0, jR b 293), (1, jR b y1)]) hx hb dX3_findWrong_41 hl rfl (by decide) rfl (fun ls hl => ?_)
            refine j_goto (tgt := 2) hx hb dX3_findWrong_44 (by decide) ?_
            exact ih2_1 _ _ _ _ hP hS (lv_sub hl [1, 2, 0] rfl) h
          · replace h := (if_neg q11).symm.trans h
            refine j_iload_n hx hb dX3_findWrong_39 rfl (lv_at hl 2 rfl) ?_
            exact j_retI hx hb hK hP hS hr hlk (Option.some.inj h) dX3_findWrong_40
  exact hl2_1 N _ _ _ _ hP hS (lv_sub hl [1, 2, 0] rfl) h
def fX3_forget (N : Nat) (μ : Mm) : Option (Mm) :=
    Option.bind (some (pI μ 293 5 0)) (fun μ1 => Option.bind (some (pI μ1 293 6 0)) (fun μ3 => some μ3))
abbrev rmX3_forget : Room := { frames := 0, cells := 0, slots := 0, locals := 0 }
set_option maxHeartbeats 4000000 in
set_option maxRecDepth 100000 in
theorem m_X3_forget (l : Launch) (D : va_G) (b : Nat) (cs : CS) (N : Nat) {μ μ0 : Mm} (h : fX3_forget N μ = some μ0) : MM l yX3_forget wsX3_forget rmX3_forget D b cs [jR b 293] μ μ0 := by
  refine met_in (cc := cX3_forget) (maxL := 1) (ret := none) (lv0 := [(0, jR b 293)]) (by decide +kernel) rfl (Nat.le_of_ble_eq_true rfl) rfl ?_
  intro p e s m args below meth c hx hb hr hlk hml hown hts hP hK ls hl
  have hown : s.vm.findClass RX3 = some m.cls := hown
  have hS : va_S (bA b) s.heap s.heap [] := va_S.rf
  have hinX3 : ∀ w ∈ u_ws RX3 TX3 7, w ∈ wsX3_forget := by decide +kernel
  unfold fX3_forget at h
  refine j_aload_n hx hb dX3_forget_0 rfl (lv_at hl 0 rfl) ?_
  refine j_iconst hx hb dX3_forget_1 ?_
  obtain ⟨μ1, e2, h⟩ := ob_I h
  refine j_put (ty := .int) (z := 0) hx hb hts hinX3 tyX3 tyX3_ok nmX3 hown hK hP hS kz_293 (by decide) rfl 5 (by decide) (hts (.fieldLink RX3 27 "CardBand$Notes" "seenCount" "I") (by decide +kernel)) rfl rfl (by decide +kernel) rfl rfl (by simp [flds]) rfl dX3_forget_2 (Option.some.inj e2) (fun H locs hP hS => ?_)
  refine j_aload_n hx hb dX3_forget_5 rfl (lv_at hl 0 rfl) ?_
  refine j_iconst hx hb dX3_forget_6 ?_
  obtain ⟨μ3, e4, h⟩ := ob_I h
  refine j_put (ty := .int) (z := 0) hx hb hts hinX3 tyX3 tyX3_ok nmX3 hown hK hP hS kz_293 (by decide) rfl 6 (by decide) (hts (.fieldLink RX3 31 "CardBand$Notes" "bookCount" "I") (by decide +kernel)) rfl rfl (by decide +kernel) rfl rfl (by simp [flds]) rfl dX3_forget_7 (Option.some.inj e4) (fun H locs hP hS => ?_)
  have e0 := Option.some.inj h
  subst e0
  exact j_retM hx hb hK hP hS hr hlk dX3_forget_10
def fX4_append (N : Nat) (y1 : Int) (μ : Mm) : Option (Int × Mm) :=
    if wr (gI μ 1 1) < 240 then (Option.bind (stA μ 2 240 (gI μ 1 1) y1) (fun μ2 => Option.bind (some (pI μ2 1 1 ((gI μ2 1 1) + 1))) (fun μ4 => some (1, μ4)))) else (some (0, μ))
abbrev rmX4_append : Room := { frames := 0, cells := 0, slots := 0, locals := 0 }
set_option maxHeartbeats 4000000 in
set_option maxRecDepth 100000 in
theorem m_X4_append (l : Launch) (D : va_G) (b : Nat) (cs : CS) (N : Nat) {μ μ0 : Mm} {y1 : Int} {r : Int} (h : fX4_append N y1 μ = some (r, μ0)) : MI l yX4_append wsX4_append rmX4_append D b cs [jR b 1, jI y1] μ μ0 r := by
  refine met_in (cc := cX4_append) (maxL := 2) (ret := some .boolean) (lv0 := [(0, jR b 1), (1, jI y1)]) (by decide +kernel) rfl (Nat.le_of_ble_eq_true rfl) rfl ?_
  intro p e s m args below meth c hx hb hr hlk hml hown hts hP hK ls hl
  have hown : s.vm.findClass RX4 = some m.cls := hown
  have hS : va_S (bA b) s.heap s.heap [] := va_S.rf
  have hinX4 : ∀ w ∈ u_ws RX4 TX4 6, w ∈ wsX4_append := by decide +kernel
  unfold fX4_append at h
  refine j_aload_n hx hb dX4_append_0 rfl (lv_at hl 0 rfl) ?_
  refine j_get (v := jI (gI μ 1 1)) hx hb hts hinX4 hown hK hP kz_1 (by decide) rfl 1 (by decide) (hts (.fieldLink RX4 19 "CardBand$Telling" "length" "I") (by decide +kernel)) rfl (by rw [jI_g]; rfl) dX4_append_1 ?_
  refine j_sipush hx hb dX4_append_4 (by decide) ?_
  refine j_icmp_lt (A := wr (gI μ 1 1)) (B := 240) (tgt := 12) hx hb rfl (by decide) dX4_append_7 (by decide) (fun q1 => ?_) (fun q1 => ?_)
  · replace h := (if_pos q1).symm.trans h
    refine j_aload_n hx hb dX4_append_12 rfl (lv_at hl 0 rfl) ?_
    refine j_get (v := jR b 2) hx hb hts hinX4 hown hK hP kz_1 (by decide) rfl 0 (by decide) (hts (.fieldLink RX4 9 "CardBand$Telling" "letters" "[I") (by decide +kernel)) rfl rfl dX4_append_13 ?_
    refine j_aload_n hx hb dX4_append_16 rfl (lv_at hl 0 rfl) ?_
    refine j_get (v := jI (gI μ 1 1)) hx hb hts hinX4 hown hK hP kz_1 (by decide) rfl 1 (by decide) (hts (.fieldLink RX4 19 "CardBand$Telling" "length" "I") (by decide +kernel)) rfl (by rw [jI_g]; rfl) dX4_append_17 ?_
    refine j_iload_n hx hb dX4_append_20 rfl (lv_at hl 1 rfl) ?_
    obtain ⟨μ2, e3, h⟩ := ob_I h
    refine j_iastore hx hb hK hP hS kz_2 e3 dX4_append_21 (fun H locs hP hS => ?_)
    refine j_aload_n hx hb dX4_append_22 rfl (lv_at hl 0 rfl) ?_
    refine j_dup hx hb dX4_append_23 rfl ?_
    refine j_get (v := jI (gI μ2 1 1)) hx hb hts hinX4 hown hK hP kz_1 (by decide) rfl 1 (by decide) (hts (.fieldLink RX4 19 "CardBand$Telling" "length" "I") (by decide +kernel)) rfl (by rw [jI_g]; rfl) dX4_append_24 ?_
    refine j_iconst hx hb dX4_append_27 ?_
    refine j_iadd hx hb dX4_append_28 ?_
    obtain ⟨μ4, e5, h⟩ := ob_I h
    refine j_put (ty := .int) (z := ((gI μ2 1 1) + 1)) hx hb hts hinX4 tyX4 tyX4_ok nmX4 hown hK hP hS kz_1 (by decide) rfl 1 (by decide) (hts (.fieldLink RX4 19 "CardBand$Telling" "length" "I") (by decide +kernel)) rfl rfl (by decide +kernel) rfl rfl (by simp [flds]) rfl dX4_append_29 (Option.some.inj e5) (fun H locs hP hS => ?_)
    refine j_iconst hx hb dX4_append_32 ?_
    obtain ⟨e0, e1⟩ := Prod.mk.inj (Option.some.inj h)
    subst e1
    exact j_retZ hx hb hK hP hS hr hlk (by decide) e0 dX4_append_33
  · replace h := (if_neg q1).symm.trans h
    refine j_iconst hx hb dX4_append_10 ?_
    obtain ⟨e0, e1⟩ := Prod.mk.inj (Option.some.inj h)
    subst e1
    exact j_retZ hx hb hK hP hS hr hlk (by decide) e0 dX4_append_11
def fX4_isFigure (N : Nat) (y0 : Int) (μ : Mm) : Option (Int) :=
    if wr y0 < 48 then (some 0) else (if 57 < wr y0 then (some 0) else (some 1))
abbrev rmX4_isFigure : Room := { frames := 0, cells := 0, slots := 0, locals := 0 }
set_option maxHeartbeats 4000000 in
set_option maxRecDepth 100000 in
theorem m_X4_isFigure (l : Launch) (D : va_G) (b : Nat) (cs : CS) (N : Nat) {μ : Mm} {y0 : Int} {r : Int} (h : fX4_isFigure N y0 μ = some r) : MI l yX4_isFigure wsX4_isFigure rmX4_isFigure D b cs [jI y0] μ μ r := by
  refine met_in (cc := cX4_isFigure) (maxL := 1) (ret := some .boolean) (lv0 := [(0, jI y0)]) (by decide +kernel) rfl (Nat.le_of_ble_eq_true rfl) rfl ?_
  intro p e s m args below meth c hx hb hr hlk hml hown hts hP hK ls hl
  have hown : s.vm.findClass RX4 = some m.cls := hown
  have hS : va_S (bA b) s.heap s.heap [] := va_S.rf
  unfold fX4_isFigure at h
  refine j_iload_n hx hb dX4_isFigure_0 rfl (lv_at hl 0 rfl) ?_
  refine j_bipush hx hb dX4_isFigure_1 (by decide) ?_
  refine j_icmp_lt (A := wr y0) (B := 48) (tgt := 16) hx hb rfl (by decide) dX4_isFigure_3 (by decide) (fun q1 => ?_) (fun q1 => ?_)
  · replace h := (if_pos q1).symm.trans h
    refine j_iconst hx hb dX4_isFigure_16 ?_
    exact j_retZ hx hb hK hP hS hr hlk (by decide) (Option.some.inj h) dX4_isFigure_17
  · replace h := (if_neg q1).symm.trans h
    refine j_iload_n hx hb dX4_isFigure_6 rfl (lv_at hl 0 rfl) ?_
    refine j_bipush hx hb dX4_isFigure_7 (by decide) ?_
    refine j_icmp_gt (A := wr y0) (B := 57) (tgt := 16) hx hb rfl (by decide) dX4_isFigure_9 (by decide) (fun q2 => ?_) (fun q2 => ?_)
    · replace h := (if_pos q2).symm.trans h
      refine j_iconst hx hb dX4_isFigure_16 ?_
      exact j_retZ hx hb hK hP hS hr hlk (by decide) (Option.some.inj h) dX4_isFigure_17
    · replace h := (if_neg q2).symm.trans h
      refine j_iconst hx hb dX4_isFigure_12 ?_
      refine j_goto (tgt := 17) hx hb dX4_isFigure_13 (by decide) ?_
      exact j_retZ hx hb hK hP hS hr hlk (by decide) (Option.some.inj h) dX4_isFigure_17
def fX4_isOneTooMany (N : Nat) (y0 : Int) (y1 : Nat) (μ : Mm) : Option (Int) :=
    if wr y0 = 108 then (if 0 < wr (gI μ y1 5) then (some 1) else (if wr y0 = 99 then (if 8 ≤ wr (gI μ y1 6) then (some 1) else (if wr y0 = 107 then (if wr (gI μ y1 7) < 4 then (some 0) else (some 1)) else (some 0))) else (if wr y0 = 107 then (if wr (gI μ y1 7) < 4 then (some 0) else (some 1)) else (some 0)))) else (if wr y0 = 99 then (if 8 ≤ wr (gI μ y1 6) then (some 1) else (if wr y0 = 107 then (if wr (gI μ y1 7) < 4 then (some 0) else (some 1)) else (some 0))) else (if wr y0 = 107 then (if wr (gI μ y1 7) < 4 then (some 0) else (some 1)) else (some 0)))
abbrev rmX4_isOneTooMany : Room := { frames := 0, cells := 0, slots := 0, locals := 0 }
set_option maxHeartbeats 4000000 in
set_option maxRecDepth 100000 in
theorem m_X4_isOneTooMany (l : Launch) (D : va_G) (b : Nat) (cs : CS) (N : Nat) {μ : Mm} {y1 : Nat} {y0 : Int} {r : Int} (hky1 : kd y1 = 4) (h : fX4_isOneTooMany N y0 y1 μ = some r) : MI l yX4_isOneTooMany wsX4_isOneTooMany rmX4_isOneTooMany D b cs [jI y0, jR b y1] μ μ r := by
  refine met_in (cc := cX4_isOneTooMany) (maxL := 2) (ret := some .boolean) (lv0 := [(0, jI y0), (1, jR b y1)]) (by decide +kernel) rfl (Nat.le_of_ble_eq_true rfl) rfl ?_
  intro p e s m args below meth c hx hb hr hlk hml hown hts hP hK ls hl
  have hown : s.vm.findClass RX4 = some m.cls := hown
  have hS : va_S (bA b) s.heap s.heap [] := va_S.rf
  have hinX5 : ∀ w ∈ u_ws RX5 TX5 9, w ∈ wsX4_isOneTooMany := by decide +kernel
  unfold fX4_isOneTooMany at h
  refine j_iload_n hx hb dX4_isOneTooMany_0 rfl (lv_at hl 0 rfl) ?_
  refine j_bipush hx hb dX4_isOneTooMany_1 (by decide) ?_
  refine j_icmp_ne (A := wr y0) (B := 108) (tgt := 13) hx hb rfl (by decide) dX4_isOneTooMany_3 (by decide) (fun q1 => ?_) (fun q1 => ?_)
  · replace h := (if_neg q1).symm.trans h
    refine j_iload_n hx hb dX4_isOneTooMany_13 rfl (lv_at hl 0 rfl) ?_
    refine j_bipush hx hb dX4_isOneTooMany_14 (by decide) ?_
    refine j_icmp_ne (A := wr y0) (B := 99) (tgt := 28) hx hb rfl (by decide) dX4_isOneTooMany_16 (by decide) (fun q2 => ?_) (fun q2 => ?_)
    · replace h := (if_neg q2).symm.trans h
      refine j_iload_n hx hb dX4_isOneTooMany_28 rfl (lv_at hl 0 rfl) ?_
      refine j_bipush hx hb dX4_isOneTooMany_29 (by decide) ?_
      refine j_icmp_ne (A := wr y0) (B := 107) (tgt := 46) hx hb rfl (by decide) dX4_isOneTooMany_31 (by decide) (fun q3 => ?_) (fun q3 => ?_)
      · replace h := (if_neg q3).symm.trans h
        refine j_iconst hx hb dX4_isOneTooMany_46 ?_
        exact j_retZ hx hb hK hP hS hr hlk (by decide) (Option.some.inj h) dX4_isOneTooMany_47
      · replace h := (if_pos q3).symm.trans h
        refine j_aload_n hx hb dX4_isOneTooMany_34 rfl (lv_at hl 1 rfl) ?_
        refine j_get (v := jI (gI μ y1 7)) hx hb hts hinX5 hown hK hP hky1 (by decide) rfl 7 (by decide) (hts (.fieldLink RX4 77 "CardBand$Threading" "packs" "I") (by decide +kernel)) rfl (by rw [jI_g]; rfl) dX4_isOneTooMany_35 ?_
        refine j_iconst hx hb dX4_isOneTooMany_38 ?_
        refine j_icmp_lt (A := wr (gI μ y1 7)) (B := 4) (tgt := 46) hx hb rfl (by decide) dX4_isOneTooMany_39 (by decide) (fun q4 => ?_) (fun q4 => ?_)
        · replace h := (if_pos q4).symm.trans h
          refine j_iconst hx hb dX4_isOneTooMany_46 ?_
          exact j_retZ hx hb hK hP hS hr hlk (by decide) (Option.some.inj h) dX4_isOneTooMany_47
        · replace h := (if_neg q4).symm.trans h
          refine j_iconst hx hb dX4_isOneTooMany_42 ?_
          refine j_goto (tgt := 47) hx hb dX4_isOneTooMany_43 (by decide) ?_
          exact j_retZ hx hb hK hP hS hr hlk (by decide) (Option.some.inj h) dX4_isOneTooMany_47
    · replace h := (if_pos q2).symm.trans h
      refine j_aload_n hx hb dX4_isOneTooMany_19 rfl (lv_at hl 1 rfl) ?_
      refine j_get (v := jI (gI μ y1 6)) hx hb hts hinX5 hown hK hP hky1 (by decide) rfl 6 (by decide) (hts (.fieldLink RX4 74 "CardBand$Threading" "cards" "I") (by decide +kernel)) rfl (by rw [jI_g]; rfl) dX4_isOneTooMany_20 ?_
      refine j_bipush hx hb dX4_isOneTooMany_23 (by decide) ?_
      refine j_icmp_ge (A := wr (gI μ y1 6)) (B := 8) (tgt := 42) hx hb rfl (by decide) dX4_isOneTooMany_25 (by decide) (fun q5 => ?_) (fun q5 => ?_)
      · replace h := (if_pos q5).symm.trans h
        refine j_iconst hx hb dX4_isOneTooMany_42 ?_
        refine j_goto (tgt := 47) hx hb dX4_isOneTooMany_43 (by decide) ?_
        exact j_retZ hx hb hK hP hS hr hlk (by decide) (Option.some.inj h) dX4_isOneTooMany_47
      · replace h := (if_neg q5).symm.trans h
        refine j_iload_n hx hb dX4_isOneTooMany_28 rfl (lv_at hl 0 rfl) ?_
        refine j_bipush hx hb dX4_isOneTooMany_29 (by decide) ?_
        refine j_icmp_ne (A := wr y0) (B := 107) (tgt := 46) hx hb rfl (by decide) dX4_isOneTooMany_31 (by decide) (fun q6 => ?_) (fun q6 => ?_)
        · replace h := (if_neg q6).symm.trans h
          refine j_iconst hx hb dX4_isOneTooMany_46 ?_
          exact j_retZ hx hb hK hP hS hr hlk (by decide) (Option.some.inj h) dX4_isOneTooMany_47
        · replace h := (if_pos q6).symm.trans h
          refine j_aload_n hx hb dX4_isOneTooMany_34 rfl (lv_at hl 1 rfl) ?_
          refine j_get (v := jI (gI μ y1 7)) hx hb hts hinX5 hown hK hP hky1 (by decide) rfl 7 (by decide) (hts (.fieldLink RX4 77 "CardBand$Threading" "packs" "I") (by decide +kernel)) rfl (by rw [jI_g]; rfl) dX4_isOneTooMany_35 ?_
          refine j_iconst hx hb dX4_isOneTooMany_38 ?_
          refine j_icmp_lt (A := wr (gI μ y1 7)) (B := 4) (tgt := 46) hx hb rfl (by decide) dX4_isOneTooMany_39 (by decide) (fun q7 => ?_) (fun q7 => ?_)
          · replace h := (if_pos q7).symm.trans h
            refine j_iconst hx hb dX4_isOneTooMany_46 ?_
            exact j_retZ hx hb hK hP hS hr hlk (by decide) (Option.some.inj h) dX4_isOneTooMany_47
          · replace h := (if_neg q7).symm.trans h
            refine j_iconst hx hb dX4_isOneTooMany_42 ?_
            refine j_goto (tgt := 47) hx hb dX4_isOneTooMany_43 (by decide) ?_
            exact j_retZ hx hb hK hP hS hr hlk (by decide) (Option.some.inj h) dX4_isOneTooMany_47
  · replace h := (if_pos q1).symm.trans h
    refine j_aload_n hx hb dX4_isOneTooMany_6 rfl (lv_at hl 1 rfl) ?_
    refine j_get (v := jI (gI μ y1 5)) hx hb hts hinX5 hown hK hP hky1 (by decide) rfl 5 (by decide) (hts (.fieldLink RX4 48 "CardBand$Threading" "colours" "I") (by decide +kernel)) rfl (by rw [jI_g]; rfl) dX4_isOneTooMany_7 ?_
    refine j_if_gt (A := wr (gI μ y1 5)) (tgt := 42) hx hb rfl dX4_isOneTooMany_10 (by decide) (fun q8 => ?_) (fun q8 => ?_)
    · replace h := (if_pos q8).symm.trans h
      refine j_iconst hx hb dX4_isOneTooMany_42 ?_
      refine j_goto (tgt := 47) hx hb dX4_isOneTooMany_43 (by decide) ?_
      exact j_retZ hx hb hK hP hS hr hlk (by decide) (Option.some.inj h) dX4_isOneTooMany_47
    · replace h := (if_neg q8).symm.trans h
      refine j_iload_n hx hb dX4_isOneTooMany_13 rfl (lv_at hl 0 rfl) ?_
      refine j_bipush hx hb dX4_isOneTooMany_14 (by decide) ?_
      refine j_icmp_ne (A := wr y0) (B := 99) (tgt := 28) hx hb rfl (by decide) dX4_isOneTooMany_16 (by decide) (fun q9 => ?_) (fun q9 => ?_)
      · replace h := (if_neg q9).symm.trans h
        refine j_iload_n hx hb dX4_isOneTooMany_28 rfl (lv_at hl 0 rfl) ?_
        refine j_bipush hx hb dX4_isOneTooMany_29 (by decide) ?_
        refine j_icmp_ne (A := wr y0) (B := 107) (tgt := 46) hx hb rfl (by decide) dX4_isOneTooMany_31 (by decide) (fun q10 => ?_) (fun q10 => ?_)
        · replace h := (if_neg q10).symm.trans h
          refine j_iconst hx hb dX4_isOneTooMany_46 ?_
          exact j_retZ hx hb hK hP hS hr hlk (by decide) (Option.some.inj h) dX4_isOneTooMany_47
        · replace h := (if_pos q10).symm.trans h
          refine j_aload_n hx hb dX4_isOneTooMany_34 rfl (lv_at hl 1 rfl) ?_
          refine j_get (v := jI (gI μ y1 7)) hx hb hts hinX5 hown hK hP hky1 (by decide) rfl 7 (by decide) (hts (.fieldLink RX4 77 "CardBand$Threading" "packs" "I") (by decide +kernel)) rfl (by rw [jI_g]; rfl) dX4_isOneTooMany_35 ?_
          refine j_iconst hx hb dX4_isOneTooMany_38 ?_
          refine j_icmp_lt (A := wr (gI μ y1 7)) (B := 4) (tgt := 46) hx hb rfl (by decide) dX4_isOneTooMany_39 (by decide) (fun q11 => ?_) (fun q11 => ?_)
          · replace h := (if_pos q11).symm.trans h
            refine j_iconst hx hb dX4_isOneTooMany_46 ?_
            exact j_retZ hx hb hK hP hS hr hlk (by decide) (Option.some.inj h) dX4_isOneTooMany_47
          · replace h := (if_neg q11).symm.trans h
            refine j_iconst hx hb dX4_isOneTooMany_42 ?_
            refine j_goto (tgt := 47) hx hb dX4_isOneTooMany_43 (by decide) ?_
            exact j_retZ hx hb hK hP hS hr hlk (by decide) (Option.some.inj h) dX4_isOneTooMany_47
      · replace h := (if_pos q9).symm.trans h
        refine j_aload_n hx hb dX4_isOneTooMany_19 rfl (lv_at hl 1 rfl) ?_
        refine j_get (v := jI (gI μ y1 6)) hx hb hts hinX5 hown hK hP hky1 (by decide) rfl 6 (by decide) (hts (.fieldLink RX4 74 "CardBand$Threading" "cards" "I") (by decide +kernel)) rfl (by rw [jI_g]; rfl) dX4_isOneTooMany_20 ?_
        refine j_bipush hx hb dX4_isOneTooMany_23 (by decide) ?_
        refine j_icmp_ge (A := wr (gI μ y1 6)) (B := 8) (tgt := 42) hx hb rfl (by decide) dX4_isOneTooMany_25 (by decide) (fun q12 => ?_) (fun q12 => ?_)
        · replace h := (if_pos q12).symm.trans h
          refine j_iconst hx hb dX4_isOneTooMany_42 ?_
          refine j_goto (tgt := 47) hx hb dX4_isOneTooMany_43 (by decide) ?_
          exact j_retZ hx hb hK hP hS hr hlk (by decide) (Option.some.inj h) dX4_isOneTooMany_47
        · replace h := (if_neg q12).symm.trans h
          refine j_iload_n hx hb dX4_isOneTooMany_28 rfl (lv_at hl 0 rfl) ?_
          refine j_bipush hx hb dX4_isOneTooMany_29 (by decide) ?_
          refine j_icmp_ne (A := wr y0) (B := 107) (tgt := 46) hx hb rfl (by decide) dX4_isOneTooMany_31 (by decide) (fun q13 => ?_) (fun q13 => ?_)
          · replace h := (if_neg q13).symm.trans h
            refine j_iconst hx hb dX4_isOneTooMany_46 ?_
            exact j_retZ hx hb hK hP hS hr hlk (by decide) (Option.some.inj h) dX4_isOneTooMany_47
          · replace h := (if_pos q13).symm.trans h
            refine j_aload_n hx hb dX4_isOneTooMany_34 rfl (lv_at hl 1 rfl) ?_
            refine j_get (v := jI (gI μ y1 7)) hx hb hts hinX5 hown hK hP hky1 (by decide) rfl 7 (by decide) (hts (.fieldLink RX4 77 "CardBand$Threading" "packs" "I") (by decide +kernel)) rfl (by rw [jI_g]; rfl) dX4_isOneTooMany_35 ?_
            refine j_iconst hx hb dX4_isOneTooMany_38 ?_
            refine j_icmp_lt (A := wr (gI μ y1 7)) (B := 4) (tgt := 46) hx hb rfl (by decide) dX4_isOneTooMany_39 (by decide) (fun q14 => ?_) (fun q14 => ?_)
            · replace h := (if_pos q14).symm.trans h
              refine j_iconst hx hb dX4_isOneTooMany_46 ?_
              exact j_retZ hx hb hK hP hS hr hlk (by decide) (Option.some.inj h) dX4_isOneTooMany_47
            · replace h := (if_neg q14).symm.trans h
              refine j_iconst hx hb dX4_isOneTooMany_42 ?_
              refine j_goto (tgt := 47) hx hb dX4_isOneTooMany_43 (by decide) ?_
              exact j_retZ hx hb hK hP hS hr hlk (by decide) (Option.some.inj h) dX4_isOneTooMany_47
def fX4_isWord (N : Nat) (y0 : Int) (μ : Mm) : Option (Int) :=
    if wr y0 = 108 then (some 1) else (if wr y0 = 99 then (some 1) else (if wr y0 = 107 then (some 1) else (if wr y0 = 121 then (some 1) else (some 0))))
abbrev rmX4_isWord : Room := { frames := 0, cells := 0, slots := 0, locals := 0 }
set_option maxHeartbeats 4000000 in
set_option maxRecDepth 100000 in
theorem m_X4_isWord (l : Launch) (D : va_G) (b : Nat) (cs : CS) (N : Nat) {μ : Mm} {y0 : Int} {r : Int} (h : fX4_isWord N y0 μ = some r) : MI l yX4_isWord wsX4_isWord rmX4_isWord D b cs [jI y0] μ μ r := by
  refine met_in (cc := cX4_isWord) (maxL := 1) (ret := some .boolean) (lv0 := [(0, jI y0)]) (by decide +kernel) rfl (Nat.le_of_ble_eq_true rfl) rfl ?_
  intro p e s m args below meth c hx hb hr hlk hml hown hts hP hK ls hl
  have hown : s.vm.findClass RX4 = some m.cls := hown
  have hS : va_S (bA b) s.heap s.heap [] := va_S.rf
  unfold fX4_isWord at h
  refine j_iload_n hx hb dX4_isWord_0 rfl (lv_at hl 0 rfl) ?_
  refine j_bipush hx hb dX4_isWord_1 (by decide) ?_
  refine j_icmp_eq (A := wr y0) (B := 108) (tgt := 24) hx hb rfl (by decide) dX4_isWord_3 (by decide) (fun q1 => ?_) (fun q1 => ?_)
  · replace h := (if_pos q1).symm.trans h
    refine j_iconst hx hb dX4_isWord_24 ?_
    refine j_goto (tgt := 29) hx hb dX4_isWord_25 (by decide) ?_
    exact j_retZ hx hb hK hP hS hr hlk (by decide) (Option.some.inj h) dX4_isWord_29
  · replace h := (if_neg q1).symm.trans h
    refine j_iload_n hx hb dX4_isWord_6 rfl (lv_at hl 0 rfl) ?_
    refine j_bipush hx hb dX4_isWord_7 (by decide) ?_
    refine j_icmp_eq (A := wr y0) (B := 99) (tgt := 24) hx hb rfl (by decide) dX4_isWord_9 (by decide) (fun q2 => ?_) (fun q2 => ?_)
    · replace h := (if_pos q2).symm.trans h
      refine j_iconst hx hb dX4_isWord_24 ?_
      refine j_goto (tgt := 29) hx hb dX4_isWord_25 (by decide) ?_
      exact j_retZ hx hb hK hP hS hr hlk (by decide) (Option.some.inj h) dX4_isWord_29
    · replace h := (if_neg q2).symm.trans h
      refine j_iload_n hx hb dX4_isWord_12 rfl (lv_at hl 0 rfl) ?_
      refine j_bipush hx hb dX4_isWord_13 (by decide) ?_
      refine j_icmp_eq (A := wr y0) (B := 107) (tgt := 24) hx hb rfl (by decide) dX4_isWord_15 (by decide) (fun q3 => ?_) (fun q3 => ?_)
      · replace h := (if_pos q3).symm.trans h
        refine j_iconst hx hb dX4_isWord_24 ?_
        refine j_goto (tgt := 29) hx hb dX4_isWord_25 (by decide) ?_
        exact j_retZ hx hb hK hP hS hr hlk (by decide) (Option.some.inj h) dX4_isWord_29
      · replace h := (if_neg q3).symm.trans h
        refine j_iload_n hx hb dX4_isWord_18 rfl (lv_at hl 0 rfl) ?_
        refine j_bipush hx hb dX4_isWord_19 (by decide) ?_
        refine j_icmp_ne (A := wr y0) (B := 121) (tgt := 28) hx hb rfl (by decide) dX4_isWord_21 (by decide) (fun q4 => ?_) (fun q4 => ?_)
        · replace h := (if_neg q4).symm.trans h
          refine j_iconst hx hb dX4_isWord_28 ?_
          exact j_retZ hx hb hK hP hS hr hlk (by decide) (Option.some.inj h) dX4_isWord_29
        · replace h := (if_pos q4).symm.trans h
          refine j_iconst hx hb dX4_isWord_24 ?_
          refine j_goto (tgt := 29) hx hb dX4_isWord_25 (by decide) ?_
          exact j_retZ hx hb hK hP hS hr hlk (by decide) (Option.some.inj h) dX4_isWord_29
def fX4_letterHere (N : Nat) (μ : Mm) : Option (Int) :=
    if wr (gI μ 1 2) < 0 then (some (-1)) else (if wr (gI μ 1 1) ≤ wr (gI μ 1 2) then (some (-1)) else (if 240 ≤ wr (gI μ 1 2) then (some (-1)) else (Option.bind (ldA μ 2 240 (gI μ 1 2)) (fun v4 => some v4))))
abbrev rmX4_letterHere : Room := { frames := 0, cells := 0, slots := 0, locals := 0 }
set_option maxHeartbeats 4000000 in
set_option maxRecDepth 100000 in
theorem m_X4_letterHere (l : Launch) (D : va_G) (b : Nat) (cs : CS) (N : Nat) {μ : Mm} {r : Int} (h : fX4_letterHere N μ = some r) : MI l yX4_letterHere wsX4_letterHere rmX4_letterHere D b cs [jR b 1] μ μ r := by
  refine met_in (cc := cX4_letterHere) (maxL := 1) (ret := some .int) (lv0 := [(0, jR b 1)]) (by decide +kernel) rfl (Nat.le_of_ble_eq_true rfl) rfl ?_
  intro p e s m args below meth c hx hb hr hlk hml hown hts hP hK ls hl
  have hown : s.vm.findClass RX4 = some m.cls := hown
  have hS : va_S (bA b) s.heap s.heap [] := va_S.rf
  have hinX4 : ∀ w ∈ u_ws RX4 TX4 6, w ∈ wsX4_letterHere := by decide +kernel
  unfold fX4_letterHere at h
  refine j_aload_n hx hb dX4_letterHere_0 rfl (lv_at hl 0 rfl) ?_
  refine j_get (v := jI (gI μ 1 2)) hx hb hts hinX4 hown hK hP kz_1 (by decide) rfl 2 (by decide) (hts (.fieldLink RX4 22 "CardBand$Telling" "place" "I") (by decide +kernel)) rfl (by rw [jI_g]; rfl) dX4_letterHere_1 ?_
  refine j_if_lt (A := wr (gI μ 1 2)) (tgt := 40) hx hb rfl dX4_letterHere_4 (by decide) (fun q1 => ?_) (fun q1 => ?_)
  · replace h := (if_pos q1).symm.trans h
    refine j_iconst hx hb dX4_letterHere_40 ?_
    exact j_retI hx hb hK hP hS hr hlk (Option.some.inj h) dX4_letterHere_41
  · replace h := (if_neg q1).symm.trans h
    refine j_aload_n hx hb dX4_letterHere_7 rfl (lv_at hl 0 rfl) ?_
    refine j_get (v := jI (gI μ 1 2)) hx hb hts hinX4 hown hK hP kz_1 (by decide) rfl 2 (by decide) (hts (.fieldLink RX4 22 "CardBand$Telling" "place" "I") (by decide +kernel)) rfl (by rw [jI_g]; rfl) dX4_letterHere_8 ?_
    refine j_aload_n hx hb dX4_letterHere_11 rfl (lv_at hl 0 rfl) ?_
    refine j_get (v := jI (gI μ 1 1)) hx hb hts hinX4 hown hK hP kz_1 (by decide) rfl 1 (by decide) (hts (.fieldLink RX4 19 "CardBand$Telling" "length" "I") (by decide +kernel)) rfl (by rw [jI_g]; rfl) dX4_letterHere_12 ?_
    refine j_icmp_ge (A := wr (gI μ 1 2)) (B := wr (gI μ 1 1)) (tgt := 40) hx hb rfl rfl dX4_letterHere_15 (by decide) (fun q2 => ?_) (fun q2 => ?_)
    · replace h := (if_pos q2).symm.trans h
      refine j_iconst hx hb dX4_letterHere_40 ?_
      exact j_retI hx hb hK hP hS hr hlk (Option.some.inj h) dX4_letterHere_41
    · replace h := (if_neg q2).symm.trans h
      refine j_aload_n hx hb dX4_letterHere_18 rfl (lv_at hl 0 rfl) ?_
      refine j_get (v := jI (gI μ 1 2)) hx hb hts hinX4 hown hK hP kz_1 (by decide) rfl 2 (by decide) (hts (.fieldLink RX4 22 "CardBand$Telling" "place" "I") (by decide +kernel)) rfl (by rw [jI_g]; rfl) dX4_letterHere_19 ?_
      refine j_sipush hx hb dX4_letterHere_22 (by decide) ?_
      refine j_icmp_ge (A := wr (gI μ 1 2)) (B := 240) (tgt := 40) hx hb rfl (by decide) dX4_letterHere_25 (by decide) (fun q3 => ?_) (fun q3 => ?_)
      · replace h := (if_pos q3).symm.trans h
        refine j_iconst hx hb dX4_letterHere_40 ?_
        exact j_retI hx hb hK hP hS hr hlk (Option.some.inj h) dX4_letterHere_41
      · replace h := (if_neg q3).symm.trans h
        refine j_aload_n hx hb dX4_letterHere_28 rfl (lv_at hl 0 rfl) ?_
        refine j_get (v := jR b 2) hx hb hts hinX4 hown hK hP kz_1 (by decide) rfl 0 (by decide) (hts (.fieldLink RX4 9 "CardBand$Telling" "letters" "[I") (by decide +kernel)) rfl rfl dX4_letterHere_29 ?_
        refine j_aload_n hx hb dX4_letterHere_32 rfl (lv_at hl 0 rfl) ?_
        refine j_get (v := jI (gI μ 1 2)) hx hb hts hinX4 hown hK hP kz_1 (by decide) rfl 2 (by decide) (hts (.fieldLink RX4 22 "CardBand$Telling" "place" "I") (by decide +kernel)) rfl (by rw [jI_g]; rfl) dX4_letterHere_33 ?_
        obtain ⟨v4, e5, h⟩ := ob_I h
        refine j_iaload hx hb hK hP kz_2 e5 dX4_letterHere_36 ?_
        refine j_goto (tgt := 41) hx hb dX4_letterHere_37 (by decide) ?_
        exact j_retI hx hb hK hP hS hr hlk (Option.some.inj h) dX4_letterHere_41
def fX4_skipBlanks_l0 (N : Nat) : Nat → Mm → Option (Mm)
  | 0, _ => none
  | n1 + 1, μ2 =>
    if wr (gI μ2 1 1) ≤ wr (gI μ2 1 2) then (some μ2) else (Option.bind (fX4_letterHere N μ2) (fun v5 => if wr v5 = 32 then (Option.bind (some (pI μ2 1 2 ((gI μ2 1 2) + 1))) (fun μ7 => (fX4_skipBlanks_l0 N n1) μ7)) else (some μ2)))
def fX4_skipBlanks (N : Nat) (μ : Mm) : Option (Mm) :=
    fX4_skipBlanks_l0 N N μ
abbrev rmX4_skipBlanks : Room := { frames := 1, cells := 0, slots := 0, locals := 20 }
set_option maxHeartbeats 4000000 in
set_option maxRecDepth 100000 in
theorem m_X4_skipBlanks (l : Launch) (D : va_G) (b : Nat) (cs : CS) (N : Nat) {μ μ0 : Mm} (h : fX4_skipBlanks N μ = some μ0) : MM l yX4_skipBlanks wsX4_skipBlanks rmX4_skipBlanks D b cs [jR b 1] μ μ0 := by
  refine met_in (cc := cX4_skipBlanks) (maxL := 1) (ret := none) (lv0 := [(0, jR b 1)]) (by decide +kernel) rfl (Nat.le_of_ble_eq_true rfl) rfl ?_
  intro p e s m args below meth c hx hb hr hlk hml hown hts hP hK ls hl
  have hown : s.vm.findClass RX4 = some m.cls := hown
  have hS : va_S (bA b) s.heap s.heap [] := va_S.rf
  have hinX4 : ∀ w ∈ u_ws RX4 TX4 6, w ∈ wsX4_skipBlanks := by decide +kernel
  unfold fX4_skipBlanks at h
  have hl0_1 : ∀ (n0 : Nat) (μ2 : Mm) (H : Heap) (locs : List Loc) (ls : Array Slot), va_P D vwCl (wl b cs μ2) H → va_S (bA b) s.heap H locs → lv_has ls 1 [(0, jR b 1)] → fX4_skipBlanks_l0 N n0 μ2 = some μ0 → W p l e rmX4_skipBlanks s m args below meth c H locs 0 0 (MQ below (QM D b cs μ0) args s 0 0 (bA b)) (F0 m 0 ls []) := by
    intro n0
    induction n0 with
    | zero => intro μ2 H locs ls hP hS hl h; rw [fX4_skipBlanks_l0] at h; cases h
    | succ n1 ih0_1 =>
      intro μ2 H locs ls hP hS hl h
      rw [fX4_skipBlanks_l0] at h
      refine j_aload_n hx hb dX4_skipBlanks_0 rfl (lv_at hl 0 rfl) ?_
      refine j_get (v := jI (gI μ2 1 2)) hx hb hts hinX4 hown hK hP kz_1 (by decide) rfl 2 (by decide) (hts (.fieldLink RX4 22 "CardBand$Telling" "place" "I") (by decide +kernel)) rfl (by rw [jI_g]; rfl) dX4_skipBlanks_1 ?_
      refine j_aload_n hx hb dX4_skipBlanks_4 rfl (lv_at hl 0 rfl) ?_
      refine j_get (v := jI (gI μ2 1 1)) hx hb hts hinX4 hown hK hP kz_1 (by decide) rfl 1 (by decide) (hts (.fieldLink RX4 19 "CardBand$Telling" "length" "I") (by decide +kernel)) rfl (by rw [jI_g]; rfl) dX4_skipBlanks_5 ?_
      refine j_icmp_ge (A := wr (gI μ2 1 2)) (B := wr (gI μ2 1 1)) (tgt := 33) hx hb rfl rfl dX4_skipBlanks_8 (by decide) (fun q3 => ?_) (fun q3 => ?_)
      · replace h := (if_pos q3).symm.trans h
        have e0 := Option.some.inj h
        subst e0
        exact j_retM hx hb hK hP hS hr hlk dX4_skipBlanks_33
      · replace h := (if_neg q3).symm.trans h
        refine j_aload_n hx hb dX4_skipBlanks_11 rfl (lv_at hl 0 rfl) ?_
        obtain ⟨v5, e4, h⟩ := ob_I h
        refine jc_VI (As := []) (rest := []) ⟨hx, hb, hml, hown, hts⟩ hK hP hS (m_X4_letterHere l D b cs N e4) (cwV 0 hts gX4_skipBlanks_X4_letterHere rfl rfl rfl (by decide +kernel) ⟨Nat.le_of_ble_eq_true rfl, Nat.le_of_ble_eq_true rfl⟩) kz_1 (by decide) rfl rfl hl.1 rfl (Nat.le_of_ble_eq_true rfl) dX4_skipBlanks_12 ⟨Nat.zero_le _, Nat.zero_le _⟩ (fun H locs hP hS => ?_)
        refine j_bipush hx hb dX4_skipBlanks_15 (by decide) ?_
        refine j_icmp_ne (A := wr v5) (B := 32) (tgt := 33) hx hb rfl (by decide) dX4_skipBlanks_17 (by decide) (fun q6 => ?_) (fun q6 => ?_)
        · replace h := (if_neg q6).symm.trans h
          have e0 := Option.some.inj h
          subst e0
          exact j_retM hx hb hK hP hS hr hlk dX4_skipBlanks_33
        · replace h := (if_pos q6).symm.trans h
          refine j_aload_n hx hb dX4_skipBlanks_20 rfl (lv_at hl 0 rfl) ?_
          refine j_dup hx hb dX4_skipBlanks_21 rfl ?_
          refine j_get (v := jI (gI μ2 1 2)) hx hb hts hinX4 hown hK hP kz_1 (by decide) rfl 2 (by decide) (hts (.fieldLink RX4 22 "CardBand$Telling" "place" "I") (by decide +kernel)) rfl (by rw [jI_g]; rfl) dX4_skipBlanks_22 ?_
          refine j_iconst hx hb dX4_skipBlanks_25 ?_
          refine j_iadd hx hb dX4_skipBlanks_26 ?_
          obtain ⟨μ7, e8, h⟩ := ob_I h
          refine j_put (ty := .int) (z := ((gI μ2 1 2) + 1)) hx hb hts hinX4 tyX4 tyX4_ok nmX4 hown hK hP hS kz_1 (by decide) rfl 2 (by decide) (hts (.fieldLink RX4 22 "CardBand$Telling" "place" "I") (by decide +kernel)) rfl rfl (by decide +kernel) rfl rfl (by simp [flds]) rfl dX4_skipBlanks_27 (Option.some.inj e8) (fun H locs hP hS => ?_)
          refine j_goto (tgt := 0) hx hb dX4_skipBlanks_30 (by decide) ?_
          exact ih0_1 _ _ _ _ hP hS (lv_sub hl [0] rfl) h
  exact hl0_1 N _ _ _ _ hP hS (lv_sub hl [0] rfl) h
def fX4_setFault (N : Nat) (y1 : Int) (y2 : Int) (μ : Mm) : Option (Mm) :=
    Option.bind (some (pI μ 1 4 y1)) (fun μ1 => Option.bind (some (pI μ1 1 5 y2)) (fun μ3 => some μ3))
abbrev rmX4_setFault : Room := { frames := 0, cells := 0, slots := 0, locals := 0 }
set_option maxHeartbeats 4000000 in
set_option maxRecDepth 100000 in
theorem m_X4_setFault (l : Launch) (D : va_G) (b : Nat) (cs : CS) (N : Nat) {μ μ0 : Mm} {y1 y2 : Int} (h : fX4_setFault N y1 y2 μ = some μ0) : MM l yX4_setFault wsX4_setFault rmX4_setFault D b cs [jR b 1, jI y1, jI y2] μ μ0 := by
  refine met_in (cc := cX4_setFault) (maxL := 3) (ret := none) (lv0 := [(0, jR b 1), (1, jI y1), (2, jI y2)]) (by decide +kernel) rfl (Nat.le_of_ble_eq_true rfl) rfl ?_
  intro p e s m args below meth c hx hb hr hlk hml hown hts hP hK ls hl
  have hown : s.vm.findClass RX4 = some m.cls := hown
  have hS : va_S (bA b) s.heap s.heap [] := va_S.rf
  have hinX4 : ∀ w ∈ u_ws RX4 TX4 6, w ∈ wsX4_setFault := by decide +kernel
  unfold fX4_setFault at h
  refine j_aload_n hx hb dX4_setFault_0 rfl (lv_at hl 0 rfl) ?_
  refine j_iload_n hx hb dX4_setFault_1 rfl (lv_at hl 1 rfl) ?_
  obtain ⟨μ1, e2, h⟩ := ob_I h
  refine j_put (ty := .int) (z := y1) hx hb hts hinX4 tyX4 tyX4_ok nmX4 hown hK hP hS kz_1 (by decide) rfl 4 (by decide) (hts (.fieldLink RX4 25 "CardBand$Telling" "faultNumber" "I") (by decide +kernel)) rfl rfl (by decide +kernel) rfl rfl (by simp [flds]) rfl dX4_setFault_2 (Option.some.inj e2) (fun H locs hP hS => ?_)
  refine j_aload_n hx hb dX4_setFault_5 rfl (lv_at hl 0 rfl) ?_
  refine j_iload_n hx hb dX4_setFault_6 rfl (lv_at hl 2 rfl) ?_
  obtain ⟨μ3, e4, h⟩ := ob_I h
  refine j_put (ty := .int) (z := y2) hx hb hts hinX4 tyX4 tyX4_ok nmX4 hown hK hP hS kz_1 (by decide) rfl 5 (by decide) (hts (.fieldLink RX4 15 "CardBand$Telling" "faultPlace" "I") (by decide +kernel)) rfl rfl (by decide +kernel) rfl rfl (by simp [flds]) rfl dX4_setFault_7 (Option.some.inj e4) (fun H locs hP hS => ?_)
  have e0 := Option.some.inj h
  subst e0
  exact j_retM hx hb hK hP hS hr hlk dX4_setFault_10
def fX4_readNumber_k95 (N : Nat) (y1 : Int) (y2 : Int) : Int → Mm → Option (Int × Mm) := fun x3_11 μ12 =>
    if 3 < wr ((gI μ12 1 2) - (gI μ12 1 3)) then (Option.bind (fX4_setFault N 2 (gI μ12 1 3) μ12) (fun μ15 => some ((-1), μ15))) else (if wr x3_11 < wr y1 then (Option.bind (fX4_setFault N 2 (gI μ12 1 3) μ12) (fun μ18 => some ((-1), μ18))) else (if wr x3_11 ≤ wr y2 then (some (x3_11, μ12)) else (Option.bind (fX4_setFault N 2 (gI μ12 1 3) μ12) (fun μ21 => some ((-1), μ21)))))
def fX4_readNumber_j82 (N : Nat) (μ24 : Mm) (rec35_22 : Int → Mm → Option (Int × Mm)) : Int → Option (Int × Mm) := fun x3_32 =>
    Option.bind (some (pI μ24 1 2 ((gI μ24 1 2) + 1))) (fun μ33 => rec35_22 x3_32 μ33)
def fX4_readNumber_l35 (N : Nat) (y1 : Int) (y2 : Int) : Nat → Int → Mm → Option (Int × Mm)
  | 0, _, _ => none
  | n22 + 1, x3_23, μ24 =>
    if wr (gI μ24 1 1) ≤ wr (gI μ24 1 2) then (fX4_readNumber_k95 N y1 y2 x3_23 μ24) else (Option.bind (fX4_letterHere N μ24) (fun v27 => Option.bind (fX4_isFigure N v27 μ24) (fun v29 => if wr v29 = 0 then (fX4_readNumber_k95 N y1 y2 x3_23 μ24) else (if 3 ≤ wr ((gI μ24 1 2) - (gI μ24 1 3)) then (fX4_readNumber_j82 N μ24 (fX4_readNumber_l35 N y1 y2 n22) x3_23) else (Option.bind (fX4_letterHere N μ24) (fun v37 => fX4_readNumber_j82 N μ24 (fX4_readNumber_l35 N y1 y2 n22) (((x3_23 * 10) + v37) - 48)))))))
def fX4_readNumber (N : Nat) (y1 : Int) (y2 : Int) (μ : Mm) : Option (Int × Mm) :=
    Option.bind (fX4_skipBlanks N μ) (fun μ2 => Option.bind (fX4_letterHere N μ2) (fun v4 => Option.bind (fX4_isFigure N v4 μ2) (fun v6 => if wr v6 = 0 then (Option.bind (fX4_setFault N 1 (gI μ2 1 2) μ2) (fun μ39 => some ((-1), μ39))) else (Option.bind (some (pI μ2 1 3 (gI μ2 1 2))) (fun μ8 => fX4_readNumber_l35 N y1 y2 N 0 μ8)))))
abbrev rmX4_readNumber : Room := { frames := 2, cells := 0, slots := 0, locals := 40 }
set_option maxHeartbeats 4000000 in
set_option maxRecDepth 100000 in
theorem m_X4_readNumber (l : Launch) (D : va_G) (b : Nat) (cs : CS) (N : Nat) {μ μ0 : Mm} {y1 y2 : Int} {r : Int} (h : fX4_readNumber N y1 y2 μ = some (r, μ0)) : MI l yX4_readNumber wsX4_readNumber rmX4_readNumber D b cs [jR b 1, jI y1, jI y2] μ μ0 r := by
  refine met_in (cc := cX4_readNumber) (maxL := 4) (ret := some .int) (lv0 := [(0, jR b 1), (1, jI y1), (2, jI y2)]) (by decide +kernel) rfl (Nat.le_of_ble_eq_true rfl) rfl ?_
  intro p e s m args below meth c hx hb hr hlk hml hown hts hP hK ls hl
  have hown : s.vm.findClass RX4 = some m.cls := hown
  have hS : va_S (bA b) s.heap s.heap [] := va_S.rf
  have hinX4 : ∀ w ∈ u_ws RX4 TX4 6, w ∈ wsX4_readNumber := by decide +kernel
  unfold fX4_readNumber at h
  refine j_aload_n hx hb dX4_readNumber_0 rfl (lv_at hl 0 rfl) ?_
  obtain ⟨μ2, e1, h⟩ := ob_I h
  refine jc_VM (As := []) (rest := []) ⟨hx, hb, hml, hown, hts⟩ hK hP hS (m_X4_skipBlanks l D b cs N e1) (cwV 0 hts gX4_readNumber_X4_skipBlanks rfl rfl rfl (by decide +kernel) ⟨Nat.le_of_ble_eq_true rfl, Nat.le_of_ble_eq_true rfl⟩) kz_1 (by decide) rfl rfl hl.1 rfl (Nat.le_of_ble_eq_true rfl) dX4_readNumber_1 ⟨Nat.zero_le _, Nat.zero_le _⟩ (fun H locs hP hS => ?_)
  refine j_aload_n hx hb dX4_readNumber_4 rfl (lv_at hl 0 rfl) ?_
  obtain ⟨v4, e3, h⟩ := ob_I h
  refine jc_VI (As := []) (rest := []) ⟨hx, hb, hml, hown, hts⟩ hK hP hS (m_X4_letterHere l D b cs N e3) (cwV 0 hts gX4_readNumber_X4_letterHere rfl rfl rfl (by decide +kernel) ⟨Nat.le_of_ble_eq_true rfl, Nat.le_of_ble_eq_true rfl⟩) kz_1 (by decide) rfl rfl hl.1 rfl (Nat.le_of_ble_eq_true rfl) dX4_readNumber_5 ⟨Nat.zero_le _, Nat.zero_le _⟩ (fun H locs hP hS => ?_)
  obtain ⟨v6, e5, h⟩ := ob_I h
  refine jc_SI (As := [jI v4]) (rest := []) ⟨hx, hb, hml, hown, hts⟩ hK hP hS (m_X4_isFigure l D b cs N e5) (va_cwS 1 hts gX4_readNumber_X4_isFigure rfl rfl rfl (by decide +kernel) ⟨Nat.le_of_ble_eq_true rfl, Nat.le_of_ble_eq_true rfl⟩) rfl hl.1 rfl (Nat.le_of_ble_eq_true rfl) dX4_readNumber_8 ⟨Nat.zero_le _, Nat.zero_le _⟩ (fun H locs hP hS => ?_)
  refine j_if_ne (A := wr v6) (tgt := 25) hx hb rfl dX4_readNumber_11 (by decide) (fun q7 => ?_) (fun q7 => ?_)
  · replace h := (if_neg q7).symm.trans h
    refine j_aload_n hx hb dX4_readNumber_25 rfl (lv_at hl 0 rfl) ?_
    refine j_aload_n hx hb dX4_readNumber_26 rfl (lv_at hl 0 rfl) ?_
    refine j_get (v := jI (gI μ2 1 2)) hx hb hts hinX4 hown hK hP kz_1 (by decide) rfl 2 (by decide) (hts (.fieldLink RX4 22 "CardBand$Telling" "place" "I") (by decide +kernel)) rfl (by rw [jI_g]; rfl) dX4_readNumber_27 ?_
    obtain ⟨μ8, e9, h⟩ := ob_I h
    refine j_put (ty := .int) (z := (gI μ2 1 2)) hx hb hts hinX4 tyX4 tyX4_ok nmX4 hown hK hP hS kz_1 (by decide) rfl 3 (by decide) (hts (.fieldLink RX4 95 "CardBand$Telling" "numberPlace" "I") (by decide +kernel)) rfl rfl (by decide +kernel) rfl rfl (by simp [flds]) rfl dX4_readNumber_30 (Option.some.inj e9) (fun H locs hP hS => ?_)
    refine j_iconst hx hb dX4_readNumber_33 ?_
    refine j_istore_n (lv2 := [(3, jI 0), (0, jR b 1), (1, jI y1), (2, jI y2)]) hx hb dX4_readNumber_34 rfl hl (by decide) rfl (fun ls hl => ?_)
    have hk95_10 : ∀ (x3_11 : Int) (μ12 : Mm) (H : Heap) (locs : List Loc) (ls : Array Slot), va_P D vwCl (wl b cs μ12) H → va_S (bA b) s.heap H locs → lv_has ls 4 [(0, jR b 1), (1, jI y1), (2, jI y2), (3, jI x3_11)] → fX4_readNumber_k95 N y1 y2 x3_11 μ12 = some (r, μ0) → W p l e rmX4_readNumber s m args below meth c H locs 0 0 (MQ below (QI D b cs μ0 r) args s 0 0 (bA b)) (F0 m 95 ls []) := by
      intro x3_11 μ12 H locs ls hP hS hl h
      unfold fX4_readNumber_k95 at h
      refine j_aload_n hx hb dX4_readNumber_95 rfl (lv_at hl 0 rfl) ?_
      refine j_get (v := jI (gI μ12 1 2)) hx hb hts hinX4 hown hK hP kz_1 (by decide) rfl 2 (by decide) (hts (.fieldLink RX4 22 "CardBand$Telling" "place" "I") (by decide +kernel)) rfl (by rw [jI_g]; rfl) dX4_readNumber_96 ?_
      refine j_aload_n hx hb dX4_readNumber_99 rfl (lv_at hl 0 rfl) ?_
      refine j_get (v := jI (gI μ12 1 3)) hx hb hts hinX4 hown hK hP kz_1 (by decide) rfl 3 (by decide) (hts (.fieldLink RX4 95 "CardBand$Telling" "numberPlace" "I") (by decide +kernel)) rfl (by rw [jI_g]; rfl) dX4_readNumber_100 ?_
      refine j_isub hx hb dX4_readNumber_103 ?_
      refine j_iconst hx hb dX4_readNumber_104 ?_
      refine j_icmp_gt (A := wr ((gI μ12 1 2) - (gI μ12 1 3))) (B := 3) (tgt := 118) hx hb rfl (by decide) dX4_readNumber_105 (by decide) (fun q13 => ?_) (fun q13 => ?_)
      · replace h := (if_pos q13).symm.trans h
        refine j_aload_n hx hb dX4_readNumber_118 rfl (lv_at hl 0 rfl) ?_
        refine j_iconst hx hb dX4_readNumber_119 ?_
        refine j_aload_n hx hb dX4_readNumber_120 rfl (lv_at hl 0 rfl) ?_
        refine j_get (v := jI (gI μ12 1 3)) hx hb hts hinX4 hown hK hP kz_1 (by decide) rfl 3 (by decide) (hts (.fieldLink RX4 95 "CardBand$Telling" "numberPlace" "I") (by decide +kernel)) rfl (by rw [jI_g]; rfl) dX4_readNumber_121 ?_
        obtain ⟨μ15, e14, h⟩ := ob_I h
        refine jc_VM (As := [jI 2, jI (gI μ12 1 3)]) (rest := []) ⟨hx, hb, hml, hown, hts⟩ hK hP hS (m_X4_setFault l D b cs N e14) (cwV 2 hts gX4_readNumber_X4_setFault rfl rfl rfl (by decide +kernel) ⟨Nat.le_of_ble_eq_true rfl, Nat.le_of_ble_eq_true rfl⟩) kz_1 (by decide) rfl rfl hl.1 rfl (Nat.le_of_ble_eq_true rfl) dX4_readNumber_124 ⟨Nat.zero_le _, Nat.zero_le _⟩ (fun H locs hP hS => ?_)
        refine j_iconst hx hb dX4_readNumber_127 ?_
        obtain ⟨e0, e1⟩ := Prod.mk.inj (Option.some.inj h)
        subst e1
        exact j_retI hx hb hK hP hS hr hlk e0 dX4_readNumber_128
      · replace h := (if_neg q13).symm.trans h
        refine j_iload_n hx hb dX4_readNumber_108 rfl (lv_at hl 3 rfl) ?_
        refine j_iload_n hx hb dX4_readNumber_109 rfl (lv_at hl 1 rfl) ?_
        refine j_icmp_lt (A := wr x3_11) (B := wr y1) (tgt := 118) hx hb rfl rfl dX4_readNumber_110 (by decide) (fun q16 => ?_) (fun q16 => ?_)
        · replace h := (if_pos q16).symm.trans h
          refine j_aload_n hx hb dX4_readNumber_118 rfl (lv_at hl 0 rfl) ?_
          refine j_iconst hx hb dX4_readNumber_119 ?_
          refine j_aload_n hx hb dX4_readNumber_120 rfl (lv_at hl 0 rfl) ?_
          refine j_get (v := jI (gI μ12 1 3)) hx hb hts hinX4 hown hK hP kz_1 (by decide) rfl 3 (by decide) (hts (.fieldLink RX4 95 "CardBand$Telling" "numberPlace" "I") (by decide +kernel)) rfl (by rw [jI_g]; rfl) dX4_readNumber_121 ?_
          obtain ⟨μ18, e17, h⟩ := ob_I h
          refine jc_VM (As := [jI 2, jI (gI μ12 1 3)]) (rest := []) ⟨hx, hb, hml, hown, hts⟩ hK hP hS (m_X4_setFault l D b cs N e17) (cwV 2 hts gX4_readNumber_X4_setFault rfl rfl rfl (by decide +kernel) ⟨Nat.le_of_ble_eq_true rfl, Nat.le_of_ble_eq_true rfl⟩) kz_1 (by decide) rfl rfl hl.1 rfl (Nat.le_of_ble_eq_true rfl) dX4_readNumber_124 ⟨Nat.zero_le _, Nat.zero_le _⟩ (fun H locs hP hS => ?_)
          refine j_iconst hx hb dX4_readNumber_127 ?_
          obtain ⟨e0, e1⟩ := Prod.mk.inj (Option.some.inj h)
          subst e1
          exact j_retI hx hb hK hP hS hr hlk e0 dX4_readNumber_128
        · replace h := (if_neg q16).symm.trans h
          refine j_iload_n hx hb dX4_readNumber_113 rfl (lv_at hl 3 rfl) ?_
          refine j_iload_n hx hb dX4_readNumber_114 rfl (lv_at hl 2 rfl) ?_
          refine j_icmp_le (A := wr x3_11) (B := wr y2) (tgt := 129) hx hb rfl rfl dX4_readNumber_115 (by decide) (fun q19 => ?_) (fun q19 => ?_)
          · replace h := (if_pos q19).symm.trans h
            refine j_iload_n hx hb dX4_readNumber_129 rfl (lv_at hl 3 rfl) ?_
            obtain ⟨e0, e1⟩ := Prod.mk.inj (Option.some.inj h)
            subst e1
            exact j_retI hx hb hK hP hS hr hlk e0 dX4_readNumber_130
          · replace h := (if_neg q19).symm.trans h
            refine j_aload_n hx hb dX4_readNumber_118 rfl (lv_at hl 0 rfl) ?_
            refine j_iconst hx hb dX4_readNumber_119 ?_
            refine j_aload_n hx hb dX4_readNumber_120 rfl (lv_at hl 0 rfl) ?_
            refine j_get (v := jI (gI μ12 1 3)) hx hb hts hinX4 hown hK hP kz_1 (by decide) rfl 3 (by decide) (hts (.fieldLink RX4 95 "CardBand$Telling" "numberPlace" "I") (by decide +kernel)) rfl (by rw [jI_g]; rfl) dX4_readNumber_121 ?_
            obtain ⟨μ21, e20, h⟩ := ob_I h
            refine jc_VM (As := [jI 2, jI (gI μ12 1 3)]) (rest := []) ⟨hx, hb, hml, hown, hts⟩ hK hP hS (m_X4_setFault l D b cs N e20) (cwV 2 hts gX4_readNumber_X4_setFault rfl rfl rfl (by decide +kernel) ⟨Nat.le_of_ble_eq_true rfl, Nat.le_of_ble_eq_true rfl⟩) kz_1 (by decide) rfl rfl hl.1 rfl (Nat.le_of_ble_eq_true rfl) dX4_readNumber_124 ⟨Nat.zero_le _, Nat.zero_le _⟩ (fun H locs hP hS => ?_)
            refine j_iconst hx hb dX4_readNumber_127 ?_
            obtain ⟨e0, e1⟩ := Prod.mk.inj (Option.some.inj h)
            subst e1
            exact j_retI hx hb hK hP hS hr hlk e0 dX4_readNumber_128
    have hl35_22 : ∀ (n0 : Nat) (x3_23 : Int) (μ24 : Mm) (H : Heap) (locs : List Loc) (ls : Array Slot), va_P D vwCl (wl b cs μ24) H → va_S (bA b) s.heap H locs → lv_has ls 4 [(0, jR b 1), (1, jI y1), (2, jI y2), (3, jI x3_23)] → fX4_readNumber_l35 N y1 y2 n0 x3_23 μ24 = some (r, μ0) → W p l e rmX4_readNumber s m args below meth c H locs 0 0 (MQ below (QI D b cs μ0 r) args s 0 0 (bA b)) (F0 m 35 ls []) := by
      intro n0
      induction n0 with
      | zero => intro x3_23 μ24 H locs ls hP hS hl h; rw [fX4_readNumber_l35] at h; cases h
      | succ n22 ih35_22 =>
        intro x3_23 μ24 H locs ls hP hS hl h
        rw [fX4_readNumber_l35] at h
        refine j_aload_n hx hb dX4_readNumber_35 rfl (lv_at hl 0 rfl) ?_
        refine j_get (v := jI (gI μ24 1 2)) hx hb hts hinX4 hown hK hP kz_1 (by decide) rfl 2 (by decide) (hts (.fieldLink RX4 22 "CardBand$Telling" "place" "I") (by decide +kernel)) rfl (by rw [jI_g]; rfl) dX4_readNumber_36 ?_
        refine j_aload_n hx hb dX4_readNumber_39 rfl (lv_at hl 0 rfl) ?_
        refine j_get (v := jI (gI μ24 1 1)) hx hb hts hinX4 hown hK hP kz_1 (by decide) rfl 1 (by decide) (hts (.fieldLink RX4 19 "CardBand$Telling" "length" "I") (by decide +kernel)) rfl (by rw [jI_g]; rfl) dX4_readNumber_40 ?_
        refine j_icmp_ge (A := wr (gI μ24 1 2)) (B := wr (gI μ24 1 1)) (tgt := 95) hx hb rfl rfl dX4_readNumber_43 (by decide) (fun q25 => ?_) (fun q25 => ?_)
        · replace h := (if_pos q25).symm.trans h
          exact hk95_10 _ _ _ _ _ hP hS (lv_sub hl [0, 1, 2, 3] rfl) h
        · replace h := (if_neg q25).symm.trans h
          refine j_aload_n hx hb dX4_readNumber_46 rfl (lv_at hl 0 rfl) ?_
          obtain ⟨v27, e26, h⟩ := ob_I h
          refine jc_VI (As := []) (rest := []) ⟨hx, hb, hml, hown, hts⟩ hK hP hS (m_X4_letterHere l D b cs N e26) (cwV 0 hts gX4_readNumber_X4_letterHere rfl rfl rfl (by decide +kernel) ⟨Nat.le_of_ble_eq_true rfl, Nat.le_of_ble_eq_true rfl⟩) kz_1 (by decide) rfl rfl hl.1 rfl (Nat.le_of_ble_eq_true rfl) dX4_readNumber_47 ⟨Nat.zero_le _, Nat.zero_le _⟩ (fun H locs hP hS => ?_)
          obtain ⟨v29, e28, h⟩ := ob_I h
          refine jc_SI (As := [jI v27]) (rest := []) ⟨hx, hb, hml, hown, hts⟩ hK hP hS (m_X4_isFigure l D b cs N e28) (va_cwS 1 hts gX4_readNumber_X4_isFigure rfl rfl rfl (by decide +kernel) ⟨Nat.le_of_ble_eq_true rfl, Nat.le_of_ble_eq_true rfl⟩) rfl hl.1 rfl (Nat.le_of_ble_eq_true rfl) dX4_readNumber_50 ⟨Nat.zero_le _, Nat.zero_le _⟩ (fun H locs hP hS => ?_)
          refine j_if_eq (A := wr v29) (tgt := 95) hx hb rfl dX4_readNumber_53 (by decide) (fun q30 => ?_) (fun q30 => ?_)
          · replace h := (if_pos q30).symm.trans h
            exact hk95_10 _ _ _ _ _ hP hS (lv_sub hl [0, 1, 2, 3] rfl) h
          · replace h := (if_neg q30).symm.trans h
            refine j_aload_n hx hb dX4_readNumber_56 rfl (lv_at hl 0 rfl) ?_
            refine j_get (v := jI (gI μ24 1 2)) hx hb hts hinX4 hown hK hP kz_1 (by decide) rfl 2 (by decide) (hts (.fieldLink RX4 22 "CardBand$Telling" "place" "I") (by decide +kernel)) rfl (by rw [jI_g]; rfl) dX4_readNumber_57 ?_
            refine j_aload_n hx hb dX4_readNumber_60 rfl (lv_at hl 0 rfl) ?_
            refine j_get (v := jI (gI μ24 1 3)) hx hb hts hinX4 hown hK hP kz_1 (by decide) rfl 3 (by decide) (hts (.fieldLink RX4 95 "CardBand$Telling" "numberPlace" "I") (by decide +kernel)) rfl (by rw [jI_g]; rfl) dX4_readNumber_61 ?_
            refine j_isub hx hb dX4_readNumber_64 ?_
            refine j_iconst hx hb dX4_readNumber_65 ?_
            have hj82_31 : ∀ (x3_32 : Int) (H : Heap) (locs : List Loc) (ls : Array Slot), va_P D vwCl (wl b cs μ24) H → va_S (bA b) s.heap H locs → lv_has ls 4 [(0, jR b 1), (1, jI y1), (2, jI y2), (3, jI x3_32)] → fX4_readNumber_j82 N μ24 (fX4_readNumber_l35 N y1 y2 n22) x3_32 = some (r, μ0) → W p l e rmX4_readNumber s m args below meth c H locs 0 0 (MQ below (QI D b cs μ0 r) args s 0 0 (bA b)) (F0 m 82 ls []) := by
              intro x3_32 H locs ls hP hS hl h
              unfold fX4_readNumber_j82 at h
              refine j_aload_n hx hb dX4_readNumber_82 rfl (lv_at hl 0 rfl) ?_
              refine j_dup hx hb dX4_readNumber_83 rfl ?_
              refine j_get (v := jI (gI μ24 1 2)) hx hb hts hinX4 hown hK hP kz_1 (by decide) rfl 2 (by decide) (hts (.fieldLink RX4 22 "CardBand$Telling" "place" "I") (by decide +kernel)) rfl (by rw [jI_g]; rfl) dX4_readNumber_84 ?_
              refine j_iconst hx hb dX4_readNumber_87 ?_
              refine j_iadd hx hb dX4_readNumber_88 ?_
              obtain ⟨μ33, e34, h⟩ := ob_I h
              refine j_put (ty := .int) (z := ((gI μ24 1 2) + 1)) hx hb hts hinX4 tyX4 tyX4_ok nmX4 hown hK hP hS kz_1 (by decide) rfl 2 (by decide) (hts (.fieldLink RX4 22 "CardBand$Telling" "place" "I") (by decide +kernel)) rfl rfl (by decide +kernel) rfl rfl (by simp [flds]) rfl dX4_readNumber_89 (Option.some.inj e34) (fun H locs hP hS => ?_)
              refine j_goto (tgt := 35) hx hb dX4_readNumber_92 (by decide) ?_
              exact ih35_22 _ _ _ _ _ hP hS (lv_sub hl [0, 1, 2, 3] rfl) h
            refine j_icmp_ge (A := wr ((gI μ24 1 2) - (gI μ24 1 3))) (B := 3) (tgt := 82) hx hb rfl (by decide) dX4_readNumber_66 (by decide) (fun q35 => ?_) (fun q35 => ?_)
            · replace h := (if_pos q35).symm.trans h
              exact hj82_31 _ _ _ _ hP hS (lv_sub hl [0, 1, 2, 3] rfl) h
            · replace h := (if_neg q35).symm.trans h
              refine j_iload_n hx hb dX4_readNumber_69 rfl (lv_at hl 3 rfl) ?_
              refine j_bipush hx hb dX4_readNumber_70 (by decide) ?_
              refine j_imul hx hb dX4_readNumber_72 ?_
              refine j_aload_n hx hb dX4_readNumber_73 rfl (lv_at hl 0 rfl) ?_
              obtain ⟨v37, e36, h⟩ := ob_I h
              refine jc_VI (As := []) (rest := [jI (x3_23 * 10)]) ⟨hx, hb, hml, hown, hts⟩ hK hP hS (m_X4_letterHere l D b cs N e36) (cwV 0 hts gX4_readNumber_X4_letterHere rfl rfl rfl (by decide +kernel) ⟨Nat.le_of_ble_eq_true rfl, Nat.le_of_ble_eq_true rfl⟩) kz_1 (by decide) rfl rfl hl.1 rfl (Nat.le_of_ble_eq_true rfl) dX4_readNumber_74 ⟨Nat.zero_le _, Nat.zero_le _⟩ (fun H locs hP hS => ?_)
              refine j_iadd hx hb dX4_readNumber_77 ?_
              refine j_bipush hx hb dX4_readNumber_78 (by decide) ?_
              refine j_isub hx hb dX4_readNumber_80 ?_
              refine j_istore_n (lv2 := [(3, jI (((x3_23 * 10) + v37) - 48)), (0, jR b 1), (1, jI y1), (2, jI y2)]) hx hb dX4_readNumber_81 rfl hl (by decide) rfl (fun ls hl => ?_)
              exact hj82_31 _ _ _ _ hP hS (lv_sub hl [1, 2, 3, 0] rfl) h
    exact hl35_22 N _ _ _ _ _ hP hS (lv_sub hl [1, 2, 3, 0] rfl) h
  · replace h := (if_pos q7).symm.trans h
    refine j_aload_n hx hb dX4_readNumber_14 rfl (lv_at hl 0 rfl) ?_
    refine j_iconst hx hb dX4_readNumber_15 ?_
    refine j_aload_n hx hb dX4_readNumber_16 rfl (lv_at hl 0 rfl) ?_
    refine j_get (v := jI (gI μ2 1 2)) hx hb hts hinX4 hown hK hP kz_1 (by decide) rfl 2 (by decide) (hts (.fieldLink RX4 22 "CardBand$Telling" "place" "I") (by decide +kernel)) rfl (by rw [jI_g]; rfl) dX4_readNumber_17 ?_
    obtain ⟨μ39, e38, h⟩ := ob_I h
    refine jc_VM (As := [jI 1, jI (gI μ2 1 2)]) (rest := []) ⟨hx, hb, hml, hown, hts⟩ hK hP hS (m_X4_setFault l D b cs N e38) (cwV 2 hts gX4_readNumber_X4_setFault rfl rfl rfl (by decide +kernel) ⟨Nat.le_of_ble_eq_true rfl, Nat.le_of_ble_eq_true rfl⟩) kz_1 (by decide) rfl rfl hl.1 rfl (Nat.le_of_ble_eq_true rfl) dX4_readNumber_20 ⟨Nat.zero_le _, Nat.zero_le _⟩ (fun H locs hP hS => ?_)
    refine j_iconst hx hb dX4_readNumber_23 ?_
    obtain ⟨e0, e1⟩ := Prod.mk.inj (Option.some.inj h)
    subst e1
    exact j_retI hx hb hK hP hS hr hlk e0 dX4_readNumber_24
def fX5_threadHole (N : Nat) (a : Nat) (y1 : Int) (y2 : Int) (y3 : Int) (μ : Mm) : Option (Mm) :=
    Option.bind (fX5_indexOf N y1 y2 μ) (fun v2 => Option.bind (stA μ (a + 1) 32 v2 y3) (fun μ3 => some μ3))
abbrev rmX5_threadHole : Room := { frames := 1, cells := 0, slots := 0, locals := 21 }
set_option maxHeartbeats 4000000 in
set_option maxRecDepth 100000 in
theorem m_X5_threadHole (l : Launch) (D : va_G) (b : Nat) (cs : CS) (N : Nat) {μ μ0 : Mm} {a : Nat} {y1 y2 y3 : Int} (hka : kd a = 4) (h : fX5_threadHole N a y1 y2 y3 μ = some μ0) : MM l yX5_threadHole wsX5_threadHole rmX5_threadHole D b cs [jR b a, jI y1, jI y2, jI y3] μ μ0 := by
  refine met_in (cc := cX5_threadHole) (maxL := 4) (ret := none) (lv0 := [(0, jR b a), (1, jI y1), (2, jI y2), (3, jI y3)]) (by decide +kernel) rfl (Nat.le_of_ble_eq_true rfl) rfl ?_
  intro p e s m args below meth c hx hb hr hlk hml hown hts hP hK ls hl
  have hown : s.vm.findClass RX5 = some m.cls := hown
  have hS : va_S (bA b) s.heap s.heap [] := va_S.rf
  have hinX5 : ∀ w ∈ u_ws RX5 TX5 9, w ∈ wsX5_threadHole := by decide +kernel
  unfold fX5_threadHole at h
  refine j_aload_n hx hb dX5_threadHole_0 rfl (lv_at hl 0 rfl) ?_
  refine j_get (v := jR b (a + 1)) hx hb hts hinX5 hown hK hP hka (by decide) rfl 0 (by decide) (hts (.fieldLink RX5 9 "CardBand$Threading" "holeColours" "[I") (by decide +kernel)) rfl rfl dX5_threadHole_1 ?_
  refine j_iload_n hx hb dX5_threadHole_4 rfl (lv_at hl 1 rfl) ?_
  refine j_iload_n hx hb dX5_threadHole_5 rfl (lv_at hl 2 rfl) ?_
  obtain ⟨v2, e1, h⟩ := ob_I h
  refine jc_SI (As := [jI y1, jI y2]) (rest := [jR b (a + 1)]) ⟨hx, hb, hml, hown, hts⟩ hK hP hS (m_X5_indexOf l D b cs N e1) (va_cwS 2 hts gX5_threadHole_X5_indexOf rfl rfl rfl (by decide +kernel) ⟨Nat.le_of_ble_eq_true rfl, Nat.le_of_ble_eq_true rfl⟩) rfl hl.1 rfl (Nat.le_of_ble_eq_true rfl) dX5_threadHole_6 ⟨Nat.zero_le _, Nat.zero_le _⟩ (fun H locs hP hS => ?_)
  refine j_iload_n hx hb dX5_threadHole_9 rfl (lv_at hl 3 rfl) ?_
  obtain ⟨μ3, e4, h⟩ := ob_I h
  refine j_iastore hx hb hK hP hS (kX5_1 hka) e4 dX5_threadHole_10 (fun H locs hP hS => ?_)
  have e0 := Option.some.inj h
  subst e0
  exact j_retM hx hb hK hP hS hr hlk dX5_threadHole_11
def fX5_addCard (N : Nat) (a : Nat) (y1 : Int) (μ : Mm) : Option (Mm) :=
    if 8 ≤ wr (gI μ a 6) then (some μ) else (Option.bind (stA μ (a + 2) 8 (gI μ a 6) y1) (fun μ2 => Option.bind (some (pI μ2 a 6 ((gI μ2 a 6) + 1))) (fun μ4 => some μ4)))
abbrev rmX5_addCard : Room := { frames := 0, cells := 0, slots := 0, locals := 0 }
set_option maxHeartbeats 4000000 in
set_option maxRecDepth 100000 in
theorem m_X5_addCard (l : Launch) (D : va_G) (b : Nat) (cs : CS) (N : Nat) {μ μ0 : Mm} {a : Nat} {y1 : Int} (hka : kd a = 4) (h : fX5_addCard N a y1 μ = some μ0) : MM l yX5_addCard wsX5_addCard rmX5_addCard D b cs [jR b a, jI y1] μ μ0 := by
  refine met_in (cc := cX5_addCard) (maxL := 2) (ret := none) (lv0 := [(0, jR b a), (1, jI y1)]) (by decide +kernel) rfl (Nat.le_of_ble_eq_true rfl) rfl ?_
  intro p e s m args below meth c hx hb hr hlk hml hown hts hP hK ls hl
  have hown : s.vm.findClass RX5 = some m.cls := hown
  have hS : va_S (bA b) s.heap s.heap [] := va_S.rf
  have hinX5 : ∀ w ∈ u_ws RX5 TX5 9, w ∈ wsX5_addCard := by decide +kernel
  unfold fX5_addCard at h
  refine j_aload_n hx hb dX5_addCard_0 rfl (lv_at hl 0 rfl) ?_
  refine j_get (v := jI (gI μ a 6)) hx hb hts hinX5 hown hK hP hka (by decide) rfl 6 (by decide) (hts (.fieldLink RX5 31 "CardBand$Threading" "cards" "I") (by decide +kernel)) rfl (by rw [jI_g]; rfl) dX5_addCard_1 ?_
  refine j_bipush hx hb dX5_addCard_4 (by decide) ?_
  refine j_icmp_ge (A := wr (gI μ a 6)) (B := 8) (tgt := 29) hx hb rfl (by decide) dX5_addCard_6 (by decide) (fun q1 => ?_) (fun q1 => ?_)
  · replace h := (if_pos q1).symm.trans h
    have e0 := Option.some.inj h
    subst e0
    exact j_retM hx hb hK hP hS hr hlk dX5_addCard_29
  · replace h := (if_neg q1).symm.trans h
    refine j_aload_n hx hb dX5_addCard_9 rfl (lv_at hl 0 rfl) ?_
    refine j_get (v := jR b (a + 2)) hx hb hts hinX5 hown hK hP hka (by decide) rfl 1 (by decide) (hts (.fieldLink RX5 15 "CardBand$Threading" "waysTold" "[I") (by decide +kernel)) rfl rfl dX5_addCard_10 ?_
    refine j_aload_n hx hb dX5_addCard_13 rfl (lv_at hl 0 rfl) ?_
    refine j_get (v := jI (gI μ a 6)) hx hb hts hinX5 hown hK hP hka (by decide) rfl 6 (by decide) (hts (.fieldLink RX5 31 "CardBand$Threading" "cards" "I") (by decide +kernel)) rfl (by rw [jI_g]; rfl) dX5_addCard_14 ?_
    refine j_iload_n hx hb dX5_addCard_17 rfl (lv_at hl 1 rfl) ?_
    obtain ⟨μ2, e3, h⟩ := ob_I h
    refine j_iastore hx hb hK hP hS (kX5_2 hka) e3 dX5_addCard_18 (fun H locs hP hS => ?_)
    refine j_aload_n hx hb dX5_addCard_19 rfl (lv_at hl 0 rfl) ?_
    refine j_dup hx hb dX5_addCard_20 rfl ?_
    refine j_get (v := jI (gI μ2 a 6)) hx hb hts hinX5 hown hK hP hka (by decide) rfl 6 (by decide) (hts (.fieldLink RX5 31 "CardBand$Threading" "cards" "I") (by decide +kernel)) rfl (by rw [jI_g]; rfl) dX5_addCard_21 ?_
    refine j_iconst hx hb dX5_addCard_24 ?_
    refine j_iadd hx hb dX5_addCard_25 ?_
    obtain ⟨μ4, e5, h⟩ := ob_I h
    refine j_put (ty := .int) (z := ((gI μ2 a 6) + 1)) hx hb hts hinX5 tyX5 tyX5_ok nmX5 hown hK hP hS hka (by decide) rfl 6 (by decide) (hts (.fieldLink RX5 31 "CardBand$Threading" "cards" "I") (by decide +kernel)) rfl rfl (by decide +kernel) rfl rfl (by simp [flds]) rfl dX5_addCard_26 (Option.some.inj e5) (fun H locs hP hS => ?_)
    have e0 := Option.some.inj h
    subst e0
    exact j_retM hx hb hK hP hS hr hlk dX5_addCard_29
def fX4_readCard_k41 (N : Nat) (y1 : Nat) : Mm → Option (Mm) := fun μ2 =>
    bP (fX4_readNumber N 0 1 μ2) (fun v4 μ5 => if wr v4 = (-1) then (some μ5) else (Option.bind (fX5_addCard N y1 v4 μ5) (fun μ8 => some μ8)))
def fX4_readCard_l2 (N : Nat) (y1 : Nat) : Nat → Int → Mm → Option (Mm)
  | 0, _, _ => none
  | n9 + 1, x2_10, μ11 =>
    if 4 ≤ wr x2_10 then (fX4_readCard_k41 N y1 μ11) else (bP (fX4_readNumber N 0 ((gI μ11 y1 5) - 1) μ11) (fun v14 μ15 => if wr v14 = (-1) then (some μ15) else (Option.bind (fX5_threadHole N y1 (gI μ15 y1 6) x2_10 v14 μ15) (fun μ18 => (fX4_readCard_l2 N y1 n9) (x2_10 + 1) μ18))))
def fX4_readCard (N : Nat) (y1 : Nat) (μ : Mm) : Option (Mm) :=
    fX4_readCard_l2 N y1 N 0 μ
abbrev rmX4_readCard : Room := { frames := 3, cells := 0, slots := 0, locals := 63 }
set_option maxHeartbeats 4000000 in
set_option maxRecDepth 100000 in
theorem m_X4_readCard (l : Launch) (D : va_G) (b : Nat) (cs : CS) (N : Nat) {μ μ0 : Mm} {y1 : Nat} (hky1 : kd y1 = 4) (h : fX4_readCard N y1 μ = some μ0) : MM l yX4_readCard wsX4_readCard rmX4_readCard D b cs [jR b 1, jR b y1] μ μ0 := by
  refine met_in (cc := cX4_readCard) (maxL := 4) (ret := none) (lv0 := [(0, jR b 1), (1, jR b y1)]) (by decide +kernel) rfl (Nat.le_of_ble_eq_true rfl) rfl ?_
  intro p e s m args below meth c hx hb hr hlk hml hown hts hP hK ls hl
  have hown : s.vm.findClass RX4 = some m.cls := hown
  have hS : va_S (bA b) s.heap s.heap [] := va_S.rf
  have hinX5 : ∀ w ∈ u_ws RX5 TX5 9, w ∈ wsX4_readCard := by decide +kernel
  unfold fX4_readCard at h
  refine j_iconst hx hb dX4_readCard_0 ?_
  refine j_istore_n (lv2 := [(2, jI 0), (0, jR b 1), (1, jR b y1)]) hx hb dX4_readCard_1 rfl hl (by decide) rfl (fun ls hl => ?_)
  have hk41_1 : ∀ (μ2 : Mm) (H : Heap) (locs : List Loc) (ls : Array Slot), va_P D vwCl (wl b cs μ2) H → va_S (bA b) s.heap H locs → lv_has ls 4 [(0, jR b 1), (1, jR b y1)] → fX4_readCard_k41 N y1 μ2 = some μ0 → W p l e rmX4_readCard s m args below meth c H locs 0 0 (MQ below (QM D b cs μ0) args s 0 0 (bA b)) (F0 m 41 ls []) := by
    intro μ2 H locs ls hP hS hl h
    unfold fX4_readCard_k41 at h
    refine j_aload_n hx hb dX4_readCard_41 rfl (lv_at hl 0 rfl) ?_
    refine j_iconst hx hb dX4_readCard_42 ?_
    refine j_iconst hx hb dX4_readCard_43 ?_
    obtain ⟨v4, μ5, e3, h⟩ := ob_P h
    refine jc_VI (As := [jI 0, jI 1]) (rest := []) ⟨hx, hb, hml, hown, hts⟩ hK hP hS (m_X4_readNumber l D b cs N e3) (cwV 2 hts gX4_readCard_X4_readNumber rfl rfl rfl (by decide +kernel) ⟨Nat.le_of_ble_eq_true rfl, Nat.le_of_ble_eq_true rfl⟩) kz_1 (by decide) rfl rfl hl.1 rfl (Nat.le_of_ble_eq_true rfl) dX4_readCard_44 ⟨Nat.zero_le _, Nat.zero_le _⟩ (fun H locs hP hS => ?_)
    refine j_istore_n (lv2 := [(2, jI v4), (0, jR b 1), (1, jR b y1)]) hx hb dX4_readCard_47 rfl hl (by decide) rfl (fun ls hl => ?_)
    refine j_iload_n hx hb dX4_readCard_48 rfl (lv_at hl 0 rfl) ?_
    refine j_iconst hx hb dX4_readCard_49 ?_
    refine j_icmp_eq (A := wr v4) (B := (-1)) (tgt := 58) hx hb rfl (by decide) dX4_readCard_50 (by decide) (fun q6 => ?_) (fun q6 => ?_)
    · replace h := (if_pos q6).symm.trans h
      have e0 := Option.some.inj h
      subst e0
      exact j_retM hx hb hK hP hS hr hlk dX4_readCard_58
    · replace h := (if_neg q6).symm.trans h
      refine j_aload_n hx hb dX4_readCard_53 rfl (lv_at hl 2 rfl) ?_
      refine j_iload_n hx hb dX4_readCard_54 rfl (lv_at hl 0 rfl) ?_
      obtain ⟨μ8, e7, h⟩ := ob_I h
      refine jc_VM (As := [jI v4]) (rest := []) ⟨hx, hb, hml, hown, hts⟩ hK hP hS (m_X5_addCard l D b cs N hky1 e7) (cwV 1 hts gX4_readCard_X5_addCard rfl rfl rfl (by decide +kernel) ⟨Nat.le_of_ble_eq_true rfl, Nat.le_of_ble_eq_true rfl⟩) hky1 (by decide) rfl rfl hl.1 rfl (Nat.le_of_ble_eq_true rfl) dX4_readCard_55 ⟨Nat.zero_le _, Nat.zero_le _⟩ (fun H locs hP hS => ?_)
      have e0 := Option.some.inj h
      subst e0
      exact j_retM hx hb hK hP hS hr hlk dX4_readCard_58
  have hl2_9 : ∀ (n0 : Nat) (x2_10 : Int) (μ11 : Mm) (H : Heap) (locs : List Loc) (ls : Array Slot), va_P D vwCl (wl b cs μ11) H → va_S (bA b) s.heap H locs → lv_has ls 4 [(0, jR b 1), (1, jR b y1), (2, jI x2_10)] → fX4_readCard_l2 N y1 n0 x2_10 μ11 = some μ0 → W p l e rmX4_readCard s m args below meth c H locs 0 0 (MQ below (QM D b cs μ0) args s 0 0 (bA b)) (F0 m 2 ls []) := by
    intro n0
    induction n0 with
    | zero => intro x2_10 μ11 H locs ls hP hS hl h; rw [fX4_readCard_l2] at h; cases h
    | succ n9 ih2_9 =>
      intro x2_10 μ11 H locs ls hP hS hl h
      rw [fX4_readCard_l2] at h
      refine j_iload_n hx hb dX4_readCard_2 rfl (lv_at hl 2 rfl) ?_
      refine j_iconst hx hb dX4_readCard_3 ?_
      refine j_icmp_ge (A := wr x2_10) (B := 4) (tgt := 41) hx hb rfl (by decide) dX4_readCard_4 (by decide) (fun q12 => ?_) (fun q12 => ?_)
      · replace h := (if_pos q12).symm.trans h
        exact hk41_1 _ _ _ _ hP hS (lv_sub hl [0, 1] rfl) h
      · replace h := (if_neg q12).symm.trans h
        refine j_aload_n hx hb dX4_readCard_7 rfl (lv_at hl 0 rfl) ?_
        refine j_iconst hx hb dX4_readCard_8 ?_
        refine j_aload_n hx hb dX4_readCard_9 rfl (lv_at hl 1 rfl) ?_
        refine j_get (v := jI (gI μ11 y1 5)) hx hb hts hinX5 hown hK hP hky1 (by decide) rfl 5 (by decide) (hts (.fieldLink RX4 48 "CardBand$Threading" "colours" "I") (by decide +kernel)) rfl (by rw [jI_g]; rfl) dX4_readCard_10 ?_
        refine j_iconst hx hb dX4_readCard_13 ?_
        refine j_isub hx hb dX4_readCard_14 ?_
        obtain ⟨v14, μ15, e13, h⟩ := ob_P h
        refine jc_VI (As := [jI 0, jI ((gI μ11 y1 5) - 1)]) (rest := []) ⟨hx, hb, hml, hown, hts⟩ hK hP hS (m_X4_readNumber l D b cs N e13) (cwV 2 hts gX4_readCard_X4_readNumber rfl rfl rfl (by decide +kernel) ⟨Nat.le_of_ble_eq_true rfl, Nat.le_of_ble_eq_true rfl⟩) kz_1 (by decide) rfl rfl hl.1 rfl (Nat.le_of_ble_eq_true rfl) dX4_readCard_15 ⟨Nat.zero_le _, Nat.zero_le _⟩ (fun H locs hP hS => ?_)
        refine j_istore_n (lv2 := [(3, jI v14), (0, jR b 1), (1, jR b y1), (2, jI x2_10)]) hx hb dX4_readCard_18 rfl hl (by decide) rfl (fun ls hl => ?_)
        refine j_iload_n hx hb dX4_readCard_19 rfl (lv_at hl 0 rfl) ?_
        refine j_iconst hx hb dX4_readCard_20 ?_
        refine j_icmp_ne (A := wr v14) (B := (-1)) (tgt := 25) hx hb rfl (by decide) dX4_readCard_21 (by decide) (fun q16 => ?_) (fun q16 => ?_)
        · replace h := (if_neg q16).symm.trans h
          refine j_aload_n hx hb dX4_readCard_25 rfl (lv_at hl 2 rfl) ?_
          refine j_aload_n hx hb dX4_readCard_26 rfl (lv_at hl 2 rfl) ?_
          refine j_get (v := jI (gI μ15 y1 6)) hx hb hts hinX5 hown hK hP hky1 (by decide) rfl 6 (by decide) (hts (.fieldLink RX4 74 "CardBand$Threading" "cards" "I") (by decide +kernel)) rfl (by rw [jI_g]; rfl) dX4_readCard_27 ?_
          refine j_iload_n hx hb dX4_readCard_30 rfl (lv_at hl 3 rfl) ?_
          refine j_iload_n hx hb dX4_readCard_31 rfl (lv_at hl 0 rfl) ?_
          obtain ⟨μ18, e17, h⟩ := ob_I h
          refine jc_VM (As := [jI (gI μ15 y1 6), jI x2_10, jI v14]) (rest := []) ⟨hx, hb, hml, hown, hts⟩ hK hP hS (m_X5_threadHole l D b cs N hky1 e17) (cwV 3 hts gX4_readCard_X5_threadHole rfl rfl rfl (by decide +kernel) ⟨Nat.le_of_ble_eq_true rfl, Nat.le_of_ble_eq_true rfl⟩) hky1 (by decide) rfl rfl hl.1 rfl (Nat.le_of_ble_eq_true rfl) dX4_readCard_32 ⟨Nat.zero_le _, Nat.zero_le _⟩ (fun H locs hP hS => ?_)
          refine j_iinc (k := 3) (lv2 := [(2, jI (x2_10 + 1)), (3, jI v14), (0, jR b 1), (1, jR b y1)]) hx hb dX4_readCard_35 hl rfl (by decide) rfl (fun ls hl => ?_)
          refine j_goto (tgt := 2) hx hb dX4_readCard_38 (by decide) ?_
          exact ih2_9 _ _ _ _ _ hP hS (lv_sub hl [2, 3, 0] rfl) h
        · replace h := (if_pos q16).symm.trans h
          have e0 := Option.some.inj h
          subst e0
          exact j_retM hx hb hK hP hS hr hlk dX4_readCard_24
  exact hl2_9 N _ _ _ _ _ hP hS (lv_sub hl [1, 2, 0] rfl) h
def fX4_readColours (N : Nat) (y1 : Nat) (μ : Mm) : Option (Mm) :=
    bP (fX4_readNumber N 1 8 μ) (fun v2 μ3 => if wr v2 = (-1) then (some μ3) else (Option.bind (some (pI μ3 y1 5 v2)) (fun μ5 => some μ5)))
abbrev rmX4_readColours : Room := { frames := 3, cells := 0, slots := 0, locals := 63 }
set_option maxHeartbeats 4000000 in
set_option maxRecDepth 100000 in
theorem m_X4_readColours (l : Launch) (D : va_G) (b : Nat) (cs : CS) (N : Nat) {μ μ0 : Mm} {y1 : Nat} (hky1 : kd y1 = 4) (h : fX4_readColours N y1 μ = some μ0) : MM l yX4_readColours wsX4_readColours rmX4_readColours D b cs [jR b 1, jR b y1] μ μ0 := by
  refine met_in (cc := cX4_readColours) (maxL := 3) (ret := none) (lv0 := [(0, jR b 1), (1, jR b y1)]) (by decide +kernel) rfl (Nat.le_of_ble_eq_true rfl) rfl ?_
  intro p e s m args below meth c hx hb hr hlk hml hown hts hP hK ls hl
  have hown : s.vm.findClass RX4 = some m.cls := hown
  have hS : va_S (bA b) s.heap s.heap [] := va_S.rf
  have hinX5 : ∀ w ∈ u_ws RX5 TX5 9, w ∈ wsX4_readColours := by decide +kernel
  unfold fX4_readColours at h
  refine j_aload_n hx hb dX4_readColours_0 rfl (lv_at hl 0 rfl) ?_
  refine j_iconst hx hb dX4_readColours_1 ?_
  refine j_bipush hx hb dX4_readColours_2 (by decide) ?_
  obtain ⟨v2, μ3, e1, h⟩ := ob_P h
  refine jc_VI (As := [jI 1, jI 8]) (rest := []) ⟨hx, hb, hml, hown, hts⟩ hK hP hS (m_X4_readNumber l D b cs N e1) (cwV 2 hts gX4_readColours_X4_readNumber rfl rfl rfl (by decide +kernel) ⟨Nat.le_of_ble_eq_true rfl, Nat.le_of_ble_eq_true rfl⟩) kz_1 (by decide) rfl rfl hl.1 rfl (Nat.le_of_ble_eq_true rfl) dX4_readColours_4 ⟨Nat.zero_le _, Nat.zero_le _⟩ (fun H locs hP hS => ?_)
  refine j_istore_n (lv2 := [(2, jI v2), (0, jR b 1), (1, jR b y1)]) hx hb dX4_readColours_7 rfl hl (by decide) rfl (fun ls hl => ?_)
  refine j_iload_n hx hb dX4_readColours_8 rfl (lv_at hl 0 rfl) ?_
  refine j_iconst hx hb dX4_readColours_9 ?_
  refine j_icmp_eq (A := wr v2) (B := (-1)) (tgt := 18) hx hb rfl (by decide) dX4_readColours_10 (by decide) (fun q4 => ?_) (fun q4 => ?_)
  · replace h := (if_pos q4).symm.trans h
    have e0 := Option.some.inj h
    subst e0
    exact j_retM hx hb hK hP hS hr hlk dX4_readColours_18
  · replace h := (if_neg q4).symm.trans h
    refine j_aload_n hx hb dX4_readColours_13 rfl (lv_at hl 2 rfl) ?_
    refine j_iload_n hx hb dX4_readColours_14 rfl (lv_at hl 0 rfl) ?_
    obtain ⟨μ5, e6, h⟩ := ob_I h
    refine j_put (ty := .int) (z := v2) hx hb hts hinX5 tyX5 tyX5_ok nmX5 hown hK hP hS hky1 (by decide) rfl 5 (by decide) (hts (.fieldLink RX4 48 "CardBand$Threading" "colours" "I") (by decide +kernel)) rfl rfl (by decide +kernel) rfl rfl (by simp [flds]) rfl dX4_readColours_15 (Option.some.inj e6) (fun H locs hP hS => ?_)
    have e0 := Option.some.inj h
    subst e0
    exact j_retM hx hb hK hP hS hr hlk dX4_readColours_18
def fX5_addPack_k44 (N : Nat) (a : Nat) (y1 : Int) : Mm → Option (Mm) := fun μ3 =>
    Option.bind (stA μ3 (a + 4) 4 (gI μ3 a 7) y1) (fun μ4 => Option.bind (some (pI μ4 a 8 (orI (gI μ4 a 8) y1))) (fun μ6 => Option.bind (some (pI μ6 a 7 ((gI μ6 a 7) + 1))) (fun μ8 => some μ8)))
def fX5_addPack_l11 (N : Nat) (a : Nat) (y1 : Int) : Nat → Int → Mm → Option (Mm)
  | 0, _, _ => none
  | n10 + 1, x2_11, μ12 =>
    if wr (gI μ12 a 6) ≤ wr x2_11 then (fX5_addPack_k44 N a y1 μ12) else (if wr (andI (shrI y1 x2_11) 1) = 1 then (Option.bind (stA μ12 (a + 3) 8 x2_11 (gI μ12 a 7)) (fun μ15 => (fX5_addPack_l11 N a y1 n10) (x2_11 + 1) μ15)) else ((fX5_addPack_l11 N a y1 n10) (x2_11 + 1) μ12))
def fX5_addPack (N : Nat) (a : Nat) (y1 : Int) (μ : Mm) : Option (Mm) :=
    if wr (gI μ a 7) < 4 then (fX5_addPack_l11 N a y1 N 0 μ) else (some μ)
abbrev rmX5_addPack : Room := { frames := 0, cells := 0, slots := 0, locals := 0 }
set_option maxHeartbeats 4000000 in
set_option maxRecDepth 100000 in
theorem m_X5_addPack (l : Launch) (D : va_G) (b : Nat) (cs : CS) (N : Nat) {μ μ0 : Mm} {a : Nat} {y1 : Int} (hka : kd a = 4) (h : fX5_addPack N a y1 μ = some μ0) : MM l yX5_addPack wsX5_addPack rmX5_addPack D b cs [jR b a, jI y1] μ μ0 := by
  refine met_in (cc := cX5_addPack) (maxL := 3) (ret := none) (lv0 := [(0, jR b a), (1, jI y1)]) (by decide +kernel) rfl (Nat.le_of_ble_eq_true rfl) rfl ?_
  intro p e s m args below meth c hx hb hr hlk hml hown hts hP hK ls hl
  have hown : s.vm.findClass RX5 = some m.cls := hown
  have hS : va_S (bA b) s.heap s.heap [] := va_S.rf
  have hinX5 : ∀ w ∈ u_ws RX5 TX5 9, w ∈ wsX5_addPack := by decide +kernel
  unfold fX5_addPack at h
  refine j_aload_n hx hb dX5_addPack_0 rfl (lv_at hl 0 rfl) ?_
  refine j_get (v := jI (gI μ a 7)) hx hb hts hinX5 hown hK hP hka (by decide) rfl 7 (by decide) (hts (.fieldLink RX5 34 "CardBand$Threading" "packs" "I") (by decide +kernel)) rfl (by rw [jI_g]; rfl) dX5_addPack_1 ?_
  refine j_iconst hx hb dX5_addPack_4 ?_
  refine j_icmp_lt (A := wr (gI μ a 7)) (B := 4) (tgt := 9) hx hb rfl (by decide) dX5_addPack_5 (by decide) (fun q1 => ?_) (fun q1 => ?_)
  · replace h := (if_pos q1).symm.trans h
    refine j_iconst hx hb dX5_addPack_9 ?_
    refine j_istore_n (lv2 := [(2, jI 0), (0, jR b a), (1, jI y1)]) hx hb dX5_addPack_10 rfl hl (by decide) rfl (fun ls hl => ?_)
    have hk44_2 : ∀ (μ3 : Mm) (H : Heap) (locs : List Loc) (ls : Array Slot), va_P D vwCl (wl b cs μ3) H → va_S (bA b) s.heap H locs → lv_has ls 3 [(0, jR b a), (1, jI y1)] → fX5_addPack_k44 N a y1 μ3 = some μ0 → W p l e rmX5_addPack s m args below meth c H locs 0 0 (MQ below (QM D b cs μ0) args s 0 0 (bA b)) (F0 m 44 ls []) := by
      intro μ3 H locs ls hP hS hl h
      unfold fX5_addPack_k44 at h
      refine j_aload_n hx hb dX5_addPack_44 rfl (lv_at hl 0 rfl) ?_
      refine j_get (v := jR b (a + 4)) hx hb hts hinX5 hown hK hP hka (by decide) rfl 3 (by decide) (hts (.fieldLink RX5 21 "CardBand$Threading" "packSets" "[I") (by decide +kernel)) rfl rfl dX5_addPack_45 ?_
      refine j_aload_n hx hb dX5_addPack_48 rfl (lv_at hl 0 rfl) ?_
      refine j_get (v := jI (gI μ3 a 7)) hx hb hts hinX5 hown hK hP hka (by decide) rfl 7 (by decide) (hts (.fieldLink RX5 34 "CardBand$Threading" "packs" "I") (by decide +kernel)) rfl (by rw [jI_g]; rfl) dX5_addPack_49 ?_
      refine j_iload_n hx hb dX5_addPack_52 rfl (lv_at hl 1 rfl) ?_
      obtain ⟨μ4, e5, h⟩ := ob_I h
      refine j_iastore hx hb hK hP hS (kX5_4 hka) e5 dX5_addPack_53 (fun H locs hP hS => ?_)
      refine j_aload_n hx hb dX5_addPack_54 rfl (lv_at hl 0 rfl) ?_
      refine j_dup hx hb dX5_addPack_55 rfl ?_
      refine j_get (v := jI (gI μ4 a 8)) hx hb hts hinX5 hown hK hP hka (by decide) rfl 8 (by decide) (hts (.fieldLink RX5 37 "CardBand$Threading" "cardsInPacks" "I") (by decide +kernel)) rfl (by rw [jI_g]; rfl) dX5_addPack_56 ?_
      refine j_iload_n hx hb dX5_addPack_59 rfl (lv_at hl 1 rfl) ?_
      refine j_ior hx hb dX5_addPack_60 ?_
      obtain ⟨μ6, e7, h⟩ := ob_I h
      refine j_put (ty := .int) (z := (orI (gI μ4 a 8) y1)) hx hb hts hinX5 tyX5 tyX5_ok nmX5 hown hK hP hS hka (by decide) rfl 8 (by decide) (hts (.fieldLink RX5 37 "CardBand$Threading" "cardsInPacks" "I") (by decide +kernel)) rfl rfl (by decide +kernel) rfl rfl (by simp [flds]) rfl dX5_addPack_61 (Option.some.inj e7) (fun H locs hP hS => ?_)
      refine j_aload_n hx hb dX5_addPack_64 rfl (lv_at hl 0 rfl) ?_
      refine j_dup hx hb dX5_addPack_65 rfl ?_
      refine j_get (v := jI (gI μ6 a 7)) hx hb hts hinX5 hown hK hP hka (by decide) rfl 7 (by decide) (hts (.fieldLink RX5 34 "CardBand$Threading" "packs" "I") (by decide +kernel)) rfl (by rw [jI_g]; rfl) dX5_addPack_66 ?_
      refine j_iconst hx hb dX5_addPack_69 ?_
      refine j_iadd hx hb dX5_addPack_70 ?_
      obtain ⟨μ8, e9, h⟩ := ob_I h
      refine j_put (ty := .int) (z := ((gI μ6 a 7) + 1)) hx hb hts hinX5 tyX5 tyX5_ok nmX5 hown hK hP hS hka (by decide) rfl 7 (by decide) (hts (.fieldLink RX5 34 "CardBand$Threading" "packs" "I") (by decide +kernel)) rfl rfl (by decide +kernel) rfl rfl (by simp [flds]) rfl dX5_addPack_71 (Option.some.inj e9) (fun H locs hP hS => ?_)
      have e0 := Option.some.inj h
      subst e0
      exact j_retM hx hb hK hP hS hr hlk dX5_addPack_74
    have hl11_10 : ∀ (n0 : Nat) (x2_11 : Int) (μ12 : Mm) (H : Heap) (locs : List Loc) (ls : Array Slot), va_P D vwCl (wl b cs μ12) H → va_S (bA b) s.heap H locs → lv_has ls 3 [(0, jR b a), (1, jI y1), (2, jI x2_11)] → fX5_addPack_l11 N a y1 n0 x2_11 μ12 = some μ0 → W p l e rmX5_addPack s m args below meth c H locs 0 0 (MQ below (QM D b cs μ0) args s 0 0 (bA b)) (F0 m 11 ls []) := by
      intro n0
      induction n0 with
      | zero => intro x2_11 μ12 H locs ls hP hS hl h; rw [fX5_addPack_l11] at h; cases h
      | succ n10 ih11_10 =>
        intro x2_11 μ12 H locs ls hP hS hl h
        rw [fX5_addPack_l11] at h
        refine j_iload_n hx hb dX5_addPack_11 rfl (lv_at hl 2 rfl) ?_
        refine j_aload_n hx hb dX5_addPack_12 rfl (lv_at hl 0 rfl) ?_
        refine j_get (v := jI (gI μ12 a 6)) hx hb hts hinX5 hown hK hP hka (by decide) rfl 6 (by decide) (hts (.fieldLink RX5 31 "CardBand$Threading" "cards" "I") (by decide +kernel)) rfl (by rw [jI_g]; rfl) dX5_addPack_13 ?_
        refine j_icmp_ge (A := wr x2_11) (B := wr (gI μ12 a 6)) (tgt := 44) hx hb rfl rfl dX5_addPack_16 (by decide) (fun q13 => ?_) (fun q13 => ?_)
        · replace h := (if_pos q13).symm.trans h
          exact hk44_2 _ _ _ _ hP hS (lv_sub hl [0, 1] rfl) h
        · replace h := (if_neg q13).symm.trans h
          refine j_iload_n hx hb dX5_addPack_19 rfl (lv_at hl 1 rfl) ?_
          refine j_iload_n hx hb dX5_addPack_20 rfl (lv_at hl 2 rfl) ?_
          refine j_ishr hx hb dX5_addPack_21 ?_
          refine j_iconst hx hb dX5_addPack_22 ?_
          refine j_iand hx hb dX5_addPack_23 ?_
          refine j_iconst hx hb dX5_addPack_24 ?_
          refine j_icmp_ne (A := wr (andI (shrI y1 x2_11) 1)) (B := 1) (tgt := 38) hx hb rfl (by decide) dX5_addPack_25 (by decide) (fun q14 => ?_) (fun q14 => ?_)
          · replace h := (if_neg q14).symm.trans h
            refine j_iinc (k := 2) (lv2 := [(2, jI (x2_11 + 1)), (0, jR b a), (1, jI y1)]) hx hb dX5_addPack_38 hl rfl (by decide) rfl (fun ls hl => ?_)
            refine j_goto (tgt := 11) hx hb dX5_addPack_41 (by decide) ?_
            exact ih11_10 _ _ _ _ _ hP hS (lv_sub hl [1, 2, 0] rfl) h
          · replace h := (if_pos q14).symm.trans h
            refine j_aload_n hx hb dX5_addPack_28 rfl (lv_at hl 0 rfl) ?_
            refine j_get (v := jR b (a + 3)) hx hb hts hinX5 hown hK hP hka (by decide) rfl 2 (by decide) (hts (.fieldLink RX5 18 "CardBand$Threading" "packOf" "[I") (by decide +kernel)) rfl rfl dX5_addPack_29 ?_
            refine j_iload_n hx hb dX5_addPack_32 rfl (lv_at hl 2 rfl) ?_
            refine j_aload_n hx hb dX5_addPack_33 rfl (lv_at hl 0 rfl) ?_
            refine j_get (v := jI (gI μ12 a 7)) hx hb hts hinX5 hown hK hP hka (by decide) rfl 7 (by decide) (hts (.fieldLink RX5 34 "CardBand$Threading" "packs" "I") (by decide +kernel)) rfl (by rw [jI_g]; rfl) dX5_addPack_34 ?_
            obtain ⟨μ15, e16, h⟩ := ob_I h
            refine j_iastore hx hb hK hP hS (kX5_3 hka) e16 dX5_addPack_37 (fun H locs hP hS => ?_)
            refine j_iinc (k := 2) (lv2 := [(2, jI (x2_11 + 1)), (0, jR b a), (1, jI y1)]) hx hb dX5_addPack_38 hl rfl (by decide) rfl (fun ls hl => ?_)
            refine j_goto (tgt := 11) hx hb dX5_addPack_41 (by decide) ?_
            exact ih11_10 _ _ _ _ _ hP hS (lv_sub hl [1, 2, 0] rfl) h
    exact hl11_10 N _ _ _ _ _ hP hS (lv_sub hl [1, 2, 0] rfl) h
  · replace h := (if_neg q1).symm.trans h
    have e0 := Option.some.inj h
    subst e0
    exact j_retM hx hb hK hP hS hr hlk dX5_addPack_8
def fX4_readPack (N : Nat) (y1 : Nat) (μ : Mm) : Option (Mm) :=
    bP (fX4_readNumber N 1 ((shlI 1 (gI μ y1 6)) - 1) μ) (fun v2 μ3 => if wr v2 = (-1) then (some μ3) else (if wr (andI v2 (gI μ3 y1 8)) = 0 then (Option.bind (fX5_addPack N y1 v2 μ3) (fun μ7 => some μ7)) else (Option.bind (fX4_setFault N 4 (gI μ3 1 3) μ3) (fun μ9 => some μ9))))
abbrev rmX4_readPack : Room := { frames := 3, cells := 0, slots := 0, locals := 63 }
set_option maxHeartbeats 4000000 in
set_option maxRecDepth 100000 in
theorem m_X4_readPack (l : Launch) (D : va_G) (b : Nat) (cs : CS) (N : Nat) {μ μ0 : Mm} {y1 : Nat} (hky1 : kd y1 = 4) (h : fX4_readPack N y1 μ = some μ0) : MM l yX4_readPack wsX4_readPack rmX4_readPack D b cs [jR b 1, jR b y1] μ μ0 := by
  refine met_in (cc := cX4_readPack) (maxL := 3) (ret := none) (lv0 := [(0, jR b 1), (1, jR b y1)]) (by decide +kernel) rfl (Nat.le_of_ble_eq_true rfl) rfl ?_
  intro p e s m args below meth c hx hb hr hlk hml hown hts hP hK ls hl
  have hown : s.vm.findClass RX4 = some m.cls := hown
  have hS : va_S (bA b) s.heap s.heap [] := va_S.rf
  have hinX4 : ∀ w ∈ u_ws RX4 TX4 6, w ∈ wsX4_readPack := by decide +kernel
  have hinX5 : ∀ w ∈ u_ws RX5 TX5 9, w ∈ wsX4_readPack := by decide +kernel
  unfold fX4_readPack at h
  refine j_aload_n hx hb dX4_readPack_0 rfl (lv_at hl 0 rfl) ?_
  refine j_iconst hx hb dX4_readPack_1 ?_
  refine j_iconst hx hb dX4_readPack_2 ?_
  refine j_aload_n hx hb dX4_readPack_3 rfl (lv_at hl 1 rfl) ?_
  refine j_get (v := jI (gI μ y1 6)) hx hb hts hinX5 hown hK hP hky1 (by decide) rfl 6 (by decide) (hts (.fieldLink RX4 74 "CardBand$Threading" "cards" "I") (by decide +kernel)) rfl (by rw [jI_g]; rfl) dX4_readPack_4 ?_
  refine j_ishl hx hb dX4_readPack_7 ?_
  refine j_iconst hx hb dX4_readPack_8 ?_
  refine j_isub hx hb dX4_readPack_9 ?_
  obtain ⟨v2, μ3, e1, h⟩ := ob_P h
  refine jc_VI (As := [jI 1, jI ((shlI 1 (gI μ y1 6)) - 1)]) (rest := []) ⟨hx, hb, hml, hown, hts⟩ hK hP hS (m_X4_readNumber l D b cs N e1) (cwV 2 hts gX4_readPack_X4_readNumber rfl rfl rfl (by decide +kernel) ⟨Nat.le_of_ble_eq_true rfl, Nat.le_of_ble_eq_true rfl⟩) kz_1 (by decide) rfl rfl hl.1 rfl (Nat.le_of_ble_eq_true rfl) dX4_readPack_10 ⟨Nat.zero_le _, Nat.zero_le _⟩ (fun H locs hP hS => ?_)
  refine j_istore_n (lv2 := [(2, jI v2), (0, jR b 1), (1, jR b y1)]) hx hb dX4_readPack_13 rfl hl (by decide) rfl (fun ls hl => ?_)
  refine j_iload_n hx hb dX4_readPack_14 rfl (lv_at hl 0 rfl) ?_
  refine j_iconst hx hb dX4_readPack_15 ?_
  refine j_icmp_ne (A := wr v2) (B := (-1)) (tgt := 20) hx hb rfl (by decide) dX4_readPack_16 (by decide) (fun q4 => ?_) (fun q4 => ?_)
  · replace h := (if_neg q4).symm.trans h
    refine j_iload_n hx hb dX4_readPack_20 rfl (lv_at hl 0 rfl) ?_
    refine j_aload_n hx hb dX4_readPack_21 rfl (lv_at hl 2 rfl) ?_
    refine j_get (v := jI (gI μ3 y1 8)) hx hb hts hinX5 hown hK hP hky1 (by decide) rfl 8 (by decide) (hts (.fieldLink RX4 92 "CardBand$Threading" "cardsInPacks" "I") (by decide +kernel)) rfl (by rw [jI_g]; rfl) dX4_readPack_22 ?_
    refine j_iand hx hb dX4_readPack_25 ?_
    refine j_if_eq (A := wr (andI v2 (gI μ3 y1 8))) (tgt := 39) hx hb rfl dX4_readPack_26 (by decide) (fun q5 => ?_) (fun q5 => ?_)
    · replace h := (if_pos q5).symm.trans h
      refine j_aload_n hx hb dX4_readPack_39 rfl (lv_at hl 2 rfl) ?_
      refine j_iload_n hx hb dX4_readPack_40 rfl (lv_at hl 0 rfl) ?_
      obtain ⟨μ7, e6, h⟩ := ob_I h
      refine jc_VM (As := [jI v2]) (rest := []) ⟨hx, hb, hml, hown, hts⟩ hK hP hS (m_X5_addPack l D b cs N hky1 e6) (cwV 1 hts gX4_readPack_X5_addPack rfl rfl rfl (by decide +kernel) ⟨Nat.le_of_ble_eq_true rfl, Nat.le_of_ble_eq_true rfl⟩) hky1 (by decide) rfl rfl hl.1 rfl (Nat.le_of_ble_eq_true rfl) dX4_readPack_41 ⟨Nat.zero_le _, Nat.zero_le _⟩ (fun H locs hP hS => ?_)
      have e0 := Option.some.inj h
      subst e0
      exact j_retM hx hb hK hP hS hr hlk dX4_readPack_44
    · replace h := (if_neg q5).symm.trans h
      refine j_aload_n hx hb dX4_readPack_29 rfl (lv_at hl 1 rfl) ?_
      refine j_iconst hx hb dX4_readPack_30 ?_
      refine j_aload_n hx hb dX4_readPack_31 rfl (lv_at hl 1 rfl) ?_
      refine j_get (v := jI (gI μ3 1 3)) hx hb hts hinX4 hown hK hP kz_1 (by decide) rfl 3 (by decide) (hts (.fieldLink RX4 95 "CardBand$Telling" "numberPlace" "I") (by decide +kernel)) rfl (by rw [jI_g]; rfl) dX4_readPack_32 ?_
      obtain ⟨μ9, e8, h⟩ := ob_I h
      refine jc_VM (As := [jI 4, jI (gI μ3 1 3)]) (rest := []) ⟨hx, hb, hml, hown, hts⟩ hK hP hS (m_X4_setFault l D b cs N e8) (cwV 2 hts gX4_readPack_X4_setFault rfl rfl rfl (by decide +kernel) ⟨Nat.le_of_ble_eq_true rfl, Nat.le_of_ble_eq_true rfl⟩) kz_1 (by decide) rfl rfl hl.1 rfl (Nat.le_of_ble_eq_true rfl) dX4_readPack_35 ⟨Nat.zero_le _, Nat.zero_le _⟩ (fun H locs hP hS => ?_)
      have e0 := Option.some.inj h
      subst e0
      exact j_retM hx hb hK hP hS hr hlk dX4_readPack_38
  · replace h := (if_pos q4).symm.trans h
    have e0 := Option.some.inj h
    subst e0
    exact j_retM hx hb hK hP hS hr hlk dX4_readPack_19
def fX4_readYarn (N : Nat) (y1 : Nat) (μ : Mm) : Option (Mm) :=
    bP (fX4_readNumber N 0 ((gI μ y1 5) - 1) μ) (fun v2 μ3 => if wr v2 = (-1) then (some μ3) else (bP (fX4_readNumber N 0 999 μ3) (fun v6 μ7 => if wr v6 = (-1) then (some μ7) else (if 8 ≤ wr v2 then (some μ7) else (Option.bind (stA μ7 (y1 + 5) 8 v2 v6) (fun μ10 => some μ10))))))
abbrev rmX4_readYarn : Room := { frames := 3, cells := 0, slots := 0, locals := 63 }
set_option maxHeartbeats 4000000 in
set_option maxRecDepth 100000 in
theorem m_X4_readYarn (l : Launch) (D : va_G) (b : Nat) (cs : CS) (N : Nat) {μ μ0 : Mm} {y1 : Nat} (hky1 : kd y1 = 4) (h : fX4_readYarn N y1 μ = some μ0) : MM l yX4_readYarn wsX4_readYarn rmX4_readYarn D b cs [jR b 1, jR b y1] μ μ0 := by
  refine met_in (cc := cX4_readYarn) (maxL := 4) (ret := none) (lv0 := [(0, jR b 1), (1, jR b y1)]) (by decide +kernel) rfl (Nat.le_of_ble_eq_true rfl) rfl ?_
  intro p e s m args below meth c hx hb hr hlk hml hown hts hP hK ls hl
  have hown : s.vm.findClass RX4 = some m.cls := hown
  have hS : va_S (bA b) s.heap s.heap [] := va_S.rf
  have hinX5 : ∀ w ∈ u_ws RX5 TX5 9, w ∈ wsX4_readYarn := by decide +kernel
  unfold fX4_readYarn at h
  refine j_aload_n hx hb dX4_readYarn_0 rfl (lv_at hl 0 rfl) ?_
  refine j_iconst hx hb dX4_readYarn_1 ?_
  refine j_aload_n hx hb dX4_readYarn_2 rfl (lv_at hl 1 rfl) ?_
  refine j_get (v := jI (gI μ y1 5)) hx hb hts hinX5 hown hK hP hky1 (by decide) rfl 5 (by decide) (hts (.fieldLink RX4 48 "CardBand$Threading" "colours" "I") (by decide +kernel)) rfl (by rw [jI_g]; rfl) dX4_readYarn_3 ?_
  refine j_iconst hx hb dX4_readYarn_6 ?_
  refine j_isub hx hb dX4_readYarn_7 ?_
  obtain ⟨v2, μ3, e1, h⟩ := ob_P h
  refine jc_VI (As := [jI 0, jI ((gI μ y1 5) - 1)]) (rest := []) ⟨hx, hb, hml, hown, hts⟩ hK hP hS (m_X4_readNumber l D b cs N e1) (cwV 2 hts gX4_readYarn_X4_readNumber rfl rfl rfl (by decide +kernel) ⟨Nat.le_of_ble_eq_true rfl, Nat.le_of_ble_eq_true rfl⟩) kz_1 (by decide) rfl rfl hl.1 rfl (Nat.le_of_ble_eq_true rfl) dX4_readYarn_8 ⟨Nat.zero_le _, Nat.zero_le _⟩ (fun H locs hP hS => ?_)
  refine j_istore_n (lv2 := [(2, jI v2), (0, jR b 1), (1, jR b y1)]) hx hb dX4_readYarn_11 rfl hl (by decide) rfl (fun ls hl => ?_)
  refine j_iload_n hx hb dX4_readYarn_12 rfl (lv_at hl 0 rfl) ?_
  refine j_iconst hx hb dX4_readYarn_13 ?_
  refine j_icmp_ne (A := wr v2) (B := (-1)) (tgt := 18) hx hb rfl (by decide) dX4_readYarn_14 (by decide) (fun q4 => ?_) (fun q4 => ?_)
  · replace h := (if_neg q4).symm.trans h
    refine j_aload_n hx hb dX4_readYarn_18 rfl (lv_at hl 1 rfl) ?_
    refine j_iconst hx hb dX4_readYarn_19 ?_
    refine j_sipush hx hb dX4_readYarn_20 (by decide) ?_
    obtain ⟨v6, μ7, e5, h⟩ := ob_P h
    refine jc_VI (As := [jI 0, jI 999]) (rest := []) ⟨hx, hb, hml, hown, hts⟩ hK hP hS (m_X4_readNumber l D b cs N e5) (cwV 2 hts gX4_readYarn_X4_readNumber rfl rfl rfl (by decide +kernel) ⟨Nat.le_of_ble_eq_true rfl, Nat.le_of_ble_eq_true rfl⟩) kz_1 (by decide) rfl rfl hl.1 rfl (Nat.le_of_ble_eq_true rfl) dX4_readYarn_23 ⟨Nat.zero_le _, Nat.zero_le _⟩ (fun H locs hP hS => ?_)
    refine j_istore_n (lv2 := [(3, jI v6), (2, jI v2), (0, jR b 1), (1, jR b y1)]) hx hb dX4_readYarn_26 rfl hl (by decide) rfl (fun ls hl => ?_)
    refine j_iload_n hx hb dX4_readYarn_27 rfl (lv_at hl 0 rfl) ?_
    refine j_iconst hx hb dX4_readYarn_28 ?_
    refine j_icmp_eq (A := wr v6) (B := (-1)) (tgt := 45) hx hb rfl (by decide) dX4_readYarn_29 (by decide) (fun q8 => ?_) (fun q8 => ?_)
    · replace h := (if_pos q8).symm.trans h
      have e0 := Option.some.inj h
      subst e0
      exact j_retM hx hb hK hP hS hr hlk dX4_readYarn_45
    · replace h := (if_neg q8).symm.trans h
      refine j_iload_n hx hb dX4_readYarn_32 rfl (lv_at hl 1 rfl) ?_
      refine j_bipush hx hb dX4_readYarn_33 (by decide) ?_
      refine j_icmp_ge (A := wr v2) (B := 8) (tgt := 45) hx hb rfl (by decide) dX4_readYarn_35 (by decide) (fun q9 => ?_) (fun q9 => ?_)
      · replace h := (if_pos q9).symm.trans h
        have e0 := Option.some.inj h
        subst e0
        exact j_retM hx hb hK hP hS hr hlk dX4_readYarn_45
      · replace h := (if_neg q9).symm.trans h
        refine j_aload_n hx hb dX4_readYarn_38 rfl (lv_at hl 3 rfl) ?_
        refine j_get (v := jR b (y1 + 5)) hx hb hts hinX5 hown hK hP hky1 (by decide) rfl 4 (by decide) (hts (.fieldLink RX4 101 "CardBand$Threading" "yarnsTold" "[I") (by decide +kernel)) rfl rfl dX4_readYarn_39 ?_
        refine j_iload_n hx hb dX4_readYarn_42 rfl (lv_at hl 1 rfl) ?_
        refine j_iload_n hx hb dX4_readYarn_43 rfl (lv_at hl 0 rfl) ?_
        obtain ⟨μ10, e11, h⟩ := ob_I h
        refine j_iastore hx hb hK hP hS (kX5_5 hky1) e11 dX4_readYarn_44 (fun H locs hP hS => ?_)
        have e0 := Option.some.inj h
        subst e0
        exact j_retM hx hb hK hP hS hr hlk dX4_readYarn_45
  · replace h := (if_pos q4).symm.trans h
    have e0 := Option.some.inj h
    subst e0
    exact j_retM hx hb hK hP hS hr hlk dX4_readYarn_17
def fX4_readEnd (N : Nat) (μ : Mm) : Option (Mm) :=
    Option.bind (fX4_skipBlanks N μ) (fun μ2 => Option.bind (fX4_letterHere N μ2) (fun v4 => if wr v4 = 59 then (Option.bind (some (pI μ2 1 2 ((gI μ2 1 2) + 1))) (fun μ6 => some μ6)) else (Option.bind (fX4_setFault N 1 (gI μ2 1 2) μ2) (fun μ9 => some μ9))))
abbrev rmX4_readEnd : Room := { frames := 2, cells := 0, slots := 0, locals := 40 }
set_option maxHeartbeats 4000000 in
set_option maxRecDepth 100000 in
theorem m_X4_readEnd (l : Launch) (D : va_G) (b : Nat) (cs : CS) (N : Nat) {μ μ0 : Mm} (h : fX4_readEnd N μ = some μ0) : MM l yX4_readEnd wsX4_readEnd rmX4_readEnd D b cs [jR b 1] μ μ0 := by
  refine met_in (cc := cX4_readEnd) (maxL := 1) (ret := none) (lv0 := [(0, jR b 1)]) (by decide +kernel) rfl (Nat.le_of_ble_eq_true rfl) rfl ?_
  intro p e s m args below meth c hx hb hr hlk hml hown hts hP hK ls hl
  have hown : s.vm.findClass RX4 = some m.cls := hown
  have hS : va_S (bA b) s.heap s.heap [] := va_S.rf
  have hinX4 : ∀ w ∈ u_ws RX4 TX4 6, w ∈ wsX4_readEnd := by decide +kernel
  unfold fX4_readEnd at h
  refine j_aload_n hx hb dX4_readEnd_0 rfl (lv_at hl 0 rfl) ?_
  obtain ⟨μ2, e1, h⟩ := ob_I h
  refine jc_VM (As := []) (rest := []) ⟨hx, hb, hml, hown, hts⟩ hK hP hS (m_X4_skipBlanks l D b cs N e1) (cwV 0 hts gX4_readEnd_X4_skipBlanks rfl rfl rfl (by decide +kernel) ⟨Nat.le_of_ble_eq_true rfl, Nat.le_of_ble_eq_true rfl⟩) kz_1 (by decide) rfl rfl hl.1 rfl (Nat.le_of_ble_eq_true rfl) dX4_readEnd_1 ⟨Nat.zero_le _, Nat.zero_le _⟩ (fun H locs hP hS => ?_)
  refine j_aload_n hx hb dX4_readEnd_4 rfl (lv_at hl 0 rfl) ?_
  obtain ⟨v4, e3, h⟩ := ob_I h
  refine jc_VI (As := []) (rest := []) ⟨hx, hb, hml, hown, hts⟩ hK hP hS (m_X4_letterHere l D b cs N e3) (cwV 0 hts gX4_readEnd_X4_letterHere rfl rfl rfl (by decide +kernel) ⟨Nat.le_of_ble_eq_true rfl, Nat.le_of_ble_eq_true rfl⟩) kz_1 (by decide) rfl rfl hl.1 rfl (Nat.le_of_ble_eq_true rfl) dX4_readEnd_5 ⟨Nat.zero_le _, Nat.zero_le _⟩ (fun H locs hP hS => ?_)
  refine j_bipush hx hb dX4_readEnd_8 (by decide) ?_
  refine j_icmp_eq (A := wr v4) (B := 59) (tgt := 23) hx hb rfl (by decide) dX4_readEnd_10 (by decide) (fun q5 => ?_) (fun q5 => ?_)
  · replace h := (if_pos q5).symm.trans h
    refine j_aload_n hx hb dX4_readEnd_23 rfl (lv_at hl 0 rfl) ?_
    refine j_dup hx hb dX4_readEnd_24 rfl ?_
    refine j_get (v := jI (gI μ2 1 2)) hx hb hts hinX4 hown hK hP kz_1 (by decide) rfl 2 (by decide) (hts (.fieldLink RX4 22 "CardBand$Telling" "place" "I") (by decide +kernel)) rfl (by rw [jI_g]; rfl) dX4_readEnd_25 ?_
    refine j_iconst hx hb dX4_readEnd_28 ?_
    refine j_iadd hx hb dX4_readEnd_29 ?_
    obtain ⟨μ6, e7, h⟩ := ob_I h
    refine j_put (ty := .int) (z := ((gI μ2 1 2) + 1)) hx hb hts hinX4 tyX4 tyX4_ok nmX4 hown hK hP hS kz_1 (by decide) rfl 2 (by decide) (hts (.fieldLink RX4 22 "CardBand$Telling" "place" "I") (by decide +kernel)) rfl rfl (by decide +kernel) rfl rfl (by simp [flds]) rfl dX4_readEnd_30 (Option.some.inj e7) (fun H locs hP hS => ?_)
    have e0 := Option.some.inj h
    subst e0
    exact j_retM hx hb hK hP hS hr hlk dX4_readEnd_33
  · replace h := (if_neg q5).symm.trans h
    refine j_aload_n hx hb dX4_readEnd_13 rfl (lv_at hl 0 rfl) ?_
    refine j_iconst hx hb dX4_readEnd_14 ?_
    refine j_aload_n hx hb dX4_readEnd_15 rfl (lv_at hl 0 rfl) ?_
    refine j_get (v := jI (gI μ2 1 2)) hx hb hts hinX4 hown hK hP kz_1 (by decide) rfl 2 (by decide) (hts (.fieldLink RX4 22 "CardBand$Telling" "place" "I") (by decide +kernel)) rfl (by rw [jI_g]; rfl) dX4_readEnd_16 ?_
    obtain ⟨μ9, e8, h⟩ := ob_I h
    refine jc_VM (As := [jI 1, jI (gI μ2 1 2)]) (rest := []) ⟨hx, hb, hml, hown, hts⟩ hK hP hS (m_X4_setFault l D b cs N e8) (cwV 2 hts gX4_readEnd_X4_setFault rfl rfl rfl (by decide +kernel) ⟨Nat.le_of_ble_eq_true rfl, Nat.le_of_ble_eq_true rfl⟩) kz_1 (by decide) rfl rfl hl.1 rfl (Nat.le_of_ble_eq_true rfl) dX4_readEnd_19 ⟨Nat.zero_le _, Nat.zero_le _⟩ (fun H locs hP hS => ?_)
    have e0 := Option.some.inj h
    subst e0
    exact j_retM hx hb hK hP hS hr hlk dX4_readEnd_22
def fX4_readClause_j129 (N : Nat) : Mm → Option (Mm) := fun μ15 =>
    if wr (gI μ15 1 4) = 0 then (Option.bind (fX4_readEnd N μ15) (fun μ18 => some μ18)) else (some μ15)
def fX4_readClause_j129_38 (N : Nat) : Mm → Option (Mm) := fun μ39 =>
    if wr (gI μ39 1 4) = 0 then (Option.bind (fX4_readEnd N μ39) (fun μ42 => some μ42)) else (some μ39)
def fX4_readClause (N : Nat) (y1 : Nat) (μ : Mm) : Option (Mm) :=
    Option.bind (fX4_letterHere N μ) (fun v2 => Option.bind (fX4_isWord N v2 μ) (fun v4 => if wr v4 = 0 then (Option.bind (fX4_setFault N 1 (gI μ 1 2) μ) (fun μ7 => some μ7)) else (if wr (gI μ y1 5) = 0 then (if wr v2 = 108 then (Option.bind (fX4_isOneTooMany N v2 y1 μ) (fun v34 => if wr v34 = 0 then (Option.bind (some (pI μ 1 2 ((gI μ 1 2) + 1))) (fun μ36 => if wr v2 = 99 then (Option.bind (fX4_readCard N y1 μ36) (fun μ45 => fX4_readClause_j129_38 N μ45)) else (if wr v2 = 107 then (Option.bind (fX4_readPack N y1 μ36) (fun μ48 => fX4_readClause_j129_38 N μ48)) else (if wr v2 = 108 then (Option.bind (fX4_readColours N y1 μ36) (fun μ51 => fX4_readClause_j129_38 N μ51)) else (Option.bind (fX4_readYarn N y1 μ36) (fun μ53 => fX4_readClause_j129_38 N μ53)))))) else (Option.bind (fX4_setFault N 3 (gI μ 1 2) μ) (fun μ55 => some μ55)))) else (Option.bind (fX4_setFault N 1 (gI μ 1 2) μ) (fun μ57 => some μ57))) else (Option.bind (fX4_isOneTooMany N v2 y1 μ) (fun v10 => if wr v10 = 0 then (Option.bind (some (pI μ 1 2 ((gI μ 1 2) + 1))) (fun μ12 => if wr v2 = 99 then (Option.bind (fX4_readCard N y1 μ12) (fun μ21 => fX4_readClause_j129 N μ21)) else (if wr v2 = 107 then (Option.bind (fX4_readPack N y1 μ12) (fun μ24 => fX4_readClause_j129 N μ24)) else (if wr v2 = 108 then (Option.bind (fX4_readColours N y1 μ12) (fun μ27 => fX4_readClause_j129 N μ27)) else (Option.bind (fX4_readYarn N y1 μ12) (fun μ29 => fX4_readClause_j129 N μ29)))))) else (Option.bind (fX4_setFault N 3 (gI μ 1 2) μ) (fun μ31 => some μ31)))))))
abbrev rmX4_readClause : Room := { frames := 4, cells := 0, slots := 0, locals := 86 }
set_option maxHeartbeats 4000000 in
set_option maxRecDepth 100000 in
theorem m_X4_readClause (l : Launch) (D : va_G) (b : Nat) (cs : CS) (N : Nat) {μ μ0 : Mm} {y1 : Nat} (hky1 : kd y1 = 4) (h : fX4_readClause N y1 μ = some μ0) : MM l yX4_readClause wsX4_readClause rmX4_readClause D b cs [jR b 1, jR b y1] μ μ0 := by
  refine met_in (cc := cX4_readClause) (maxL := 3) (ret := none) (lv0 := [(0, jR b 1), (1, jR b y1)]) (by decide +kernel) rfl (Nat.le_of_ble_eq_true rfl) rfl ?_
  intro p e s m args below meth c hx hb hr hlk hml hown hts hP hK ls hl
  have hown : s.vm.findClass RX4 = some m.cls := hown
  have hS : va_S (bA b) s.heap s.heap [] := va_S.rf
  have hinX4 : ∀ w ∈ u_ws RX4 TX4 6, w ∈ wsX4_readClause := by decide +kernel
  have hinX5 : ∀ w ∈ u_ws RX5 TX5 9, w ∈ wsX4_readClause := by decide +kernel
  unfold fX4_readClause at h
  refine j_aload_n hx hb dX4_readClause_0 rfl (lv_at hl 0 rfl) ?_
  obtain ⟨v2, e1, h⟩ := ob_I h
  refine jc_VI (As := []) (rest := []) ⟨hx, hb, hml, hown, hts⟩ hK hP hS (m_X4_letterHere l D b cs N e1) (cwV 0 hts gX4_readClause_X4_letterHere rfl rfl rfl (by decide +kernel) ⟨Nat.le_of_ble_eq_true rfl, Nat.le_of_ble_eq_true rfl⟩) kz_1 (by decide) rfl rfl hl.1 rfl (Nat.le_of_ble_eq_true rfl) dX4_readClause_1 ⟨Nat.zero_le _, Nat.zero_le _⟩ (fun H locs hP hS => ?_)
  refine j_istore_n (lv2 := [(2, jI v2), (0, jR b 1), (1, jR b y1)]) hx hb dX4_readClause_4 rfl hl (by decide) rfl (fun ls hl => ?_)
  refine j_iload_n hx hb dX4_readClause_5 rfl (lv_at hl 0 rfl) ?_
  obtain ⟨v4, e3, h⟩ := ob_I h
  refine jc_SI (As := [jI v2]) (rest := []) ⟨hx, hb, hml, hown, hts⟩ hK hP hS (m_X4_isWord l D b cs N e3) (va_cwS 1 hts gX4_readClause_X4_isWord rfl rfl rfl (by decide +kernel) ⟨Nat.le_of_ble_eq_true rfl, Nat.le_of_ble_eq_true rfl⟩) rfl hl.1 rfl (Nat.le_of_ble_eq_true rfl) dX4_readClause_6 ⟨Nat.zero_le _, Nat.zero_le _⟩ (fun H locs hP hS => ?_)
  refine j_if_eq (A := wr v4) (tgt := 25) hx hb rfl dX4_readClause_9 (by decide) (fun q5 => ?_) (fun q5 => ?_)
  · replace h := (if_pos q5).symm.trans h
    refine j_aload_n hx hb dX4_readClause_25 rfl (lv_at hl 1 rfl) ?_
    refine j_iconst hx hb dX4_readClause_26 ?_
    refine j_aload_n hx hb dX4_readClause_27 rfl (lv_at hl 1 rfl) ?_
    refine j_get (v := jI (gI μ 1 2)) hx hb hts hinX4 hown hK hP kz_1 (by decide) rfl 2 (by decide) (hts (.fieldLink RX4 22 "CardBand$Telling" "place" "I") (by decide +kernel)) rfl (by rw [jI_g]; rfl) dX4_readClause_28 ?_
    obtain ⟨μ7, e6, h⟩ := ob_I h
    refine jc_VM (As := [jI 1, jI (gI μ 1 2)]) (rest := []) ⟨hx, hb, hml, hown, hts⟩ hK hP hS (m_X4_setFault l D b cs N e6) (cwV 2 hts gX4_readClause_X4_setFault rfl rfl rfl (by decide +kernel) ⟨Nat.le_of_ble_eq_true rfl, Nat.le_of_ble_eq_true rfl⟩) kz_1 (by decide) rfl rfl hl.1 rfl (Nat.le_of_ble_eq_true rfl) dX4_readClause_31 ⟨Nat.zero_le _, Nat.zero_le _⟩ (fun H locs hP hS => ?_)
    have e0 := Option.some.inj h
    subst e0
    exact j_retM hx hb hK hP hS hr hlk dX4_readClause_34
  · replace h := (if_neg q5).symm.trans h
    refine j_aload_n hx hb dX4_readClause_12 rfl (lv_at hl 2 rfl) ?_
    refine j_get (v := jI (gI μ y1 5)) hx hb hts hinX5 hown hK hP hky1 (by decide) rfl 5 (by decide) (hts (.fieldLink RX4 48 "CardBand$Threading" "colours" "I") (by decide +kernel)) rfl (by rw [jI_g]; rfl) dX4_readClause_13 ?_
    refine j_if_ne (A := wr (gI μ y1 5)) (tgt := 35) hx hb rfl dX4_readClause_16 (by decide) (fun q8 => ?_) (fun q8 => ?_)
    · replace h := (if_neg q8).symm.trans h
      refine j_iload_n hx hb dX4_readClause_35 rfl (lv_at hl 0 rfl) ?_
      refine j_aload_n hx hb dX4_readClause_36 rfl (lv_at hl 2 rfl) ?_
      obtain ⟨v10, e9, h⟩ := ob_I h
      refine jc_SI (As := [jI v2, jR b y1]) (rest := []) ⟨hx, hb, hml, hown, hts⟩ hK hP hS (m_X4_isOneTooMany l D b cs N hky1 e9) (va_cwS 2 hts gX4_readClause_X4_isOneTooMany rfl rfl rfl (by decide +kernel) ⟨Nat.le_of_ble_eq_true rfl, Nat.le_of_ble_eq_true rfl⟩) rfl hl.1 rfl (Nat.le_of_ble_eq_true rfl) dX4_readClause_37 ⟨Nat.zero_le _, Nat.zero_le _⟩ (fun H locs hP hS => ?_)
      refine j_if_eq (A := wr v10) (tgt := 53) hx hb rfl dX4_readClause_40 (by decide) (fun q11 => ?_) (fun q11 => ?_)
      · replace h := (if_pos q11).symm.trans h
        refine j_aload_n hx hb dX4_readClause_53 rfl (lv_at hl 1 rfl) ?_
        refine j_dup hx hb dX4_readClause_54 rfl ?_
        refine j_get (v := jI (gI μ 1 2)) hx hb hts hinX4 hown hK hP kz_1 (by decide) rfl 2 (by decide) (hts (.fieldLink RX4 22 "CardBand$Telling" "place" "I") (by decide +kernel)) rfl (by rw [jI_g]; rfl) dX4_readClause_55 ?_
        refine j_iconst hx hb dX4_readClause_58 ?_
        refine j_iadd hx hb dX4_readClause_59 ?_
        obtain ⟨μ12, e13, h⟩ := ob_I h
        refine j_put (ty := .int) (z := ((gI μ 1 2) + 1)) hx hb hts hinX4 tyX4 tyX4_ok nmX4 hown hK hP hS kz_1 (by decide) rfl 2 (by decide) (hts (.fieldLink RX4 22 "CardBand$Telling" "place" "I") (by decide +kernel)) rfl rfl (by decide +kernel) rfl rfl (by simp [flds]) rfl dX4_readClause_60 (Option.some.inj e13) (fun H locs hP hS => ?_)
        refine j_iload_n hx hb dX4_readClause_63 rfl (lv_at hl 0 rfl) ?_
        have hj129_14 : ∀ (μ15 : Mm) (H : Heap) (locs : List Loc) (ls : Array Slot), va_P D vwCl (wl b cs μ15) H → va_S (bA b) s.heap H locs → lv_has ls 3 [(0, jR b 1)] → fX4_readClause_j129 N μ15 = some μ0 → W p l e rmX4_readClause s m args below meth c H locs 0 0 (MQ below (QM D b cs μ0) args s 0 0 (bA b)) (F0 m 129 ls []) := by
          intro μ15 H locs ls hP hS hl h
          unfold fX4_readClause_j129 at h
          refine j_aload_n hx hb dX4_readClause_129 rfl (lv_at hl 0 rfl) ?_
          refine j_get (v := jI (gI μ15 1 4)) hx hb hts hinX4 hown hK hP kz_1 (by decide) rfl 4 (by decide) (hts (.fieldLink RX4 25 "CardBand$Telling" "faultNumber" "I") (by decide +kernel)) rfl (by rw [jI_g]; rfl) dX4_readClause_130 ?_
          refine j_if_ne (A := wr (gI μ15 1 4)) (tgt := 140) hx hb rfl dX4_readClause_133 (by decide) (fun q16 => ?_) (fun q16 => ?_)
          · replace h := (if_neg q16).symm.trans h
            have e0 := Option.some.inj h
            subst e0
            exact j_retM hx hb hK hP hS hr hlk dX4_readClause_140
          · replace h := (if_pos q16).symm.trans h
            refine j_aload_n hx hb dX4_readClause_136 rfl (lv_at hl 0 rfl) ?_
            obtain ⟨μ18, e17, h⟩ := ob_I h
            refine jc_VM (As := []) (rest := []) ⟨hx, hb, hml, hown, hts⟩ hK hP hS (m_X4_readEnd l D b cs N e17) (cwV 0 hts gX4_readClause_X4_readEnd rfl rfl rfl (by decide +kernel) ⟨Nat.le_of_ble_eq_true rfl, Nat.le_of_ble_eq_true rfl⟩) kz_1 (by decide) rfl rfl hl.1 rfl (Nat.le_of_ble_eq_true rfl) dX4_readClause_137 ⟨Nat.zero_le _, Nat.zero_le _⟩ (fun H locs hP hS => ?_)
            have e0 := Option.some.inj h
            subst e0
            exact j_retM hx hb hK hP hS hr hlk dX4_readClause_140
        by_cases q19 : wr v2 = 99
        · replace h := (if_pos q19).symm.trans h
          refine j_look (A := wr v2) (off := 44) (tgt := 108) hx hb rfl dX4_readClause_64 (by decide) (by rw [q19]; decide) (by decide) ?_
          refine j_aload_n hx hb dX4_readClause_108 rfl (lv_at hl 1 rfl) ?_
          refine j_aload_n hx hb dX4_readClause_109 rfl (lv_at hl 2 rfl) ?_
          obtain ⟨μ21, e20, h⟩ := ob_I h
          refine jc_VM (As := [jR b y1]) (rest := []) ⟨hx, hb, hml, hown, hts⟩ hK hP hS (m_X4_readCard l D b cs N hky1 e20) (cwV 1 hts gX4_readClause_X4_readCard rfl rfl rfl (by decide +kernel) ⟨Nat.le_of_ble_eq_true rfl, Nat.le_of_ble_eq_true rfl⟩) kz_1 (by decide) rfl rfl hl.1 rfl (Nat.le_of_ble_eq_true rfl) dX4_readClause_110 ⟨Nat.zero_le _, Nat.zero_le _⟩ (fun H locs hP hS => ?_)
          refine j_goto (tgt := 129) hx hb dX4_readClause_113 (by decide) ?_
          exact hj129_14 _ _ _ _ hP hS (lv_sub hl [1] rfl) h
        · replace h := (if_neg q19).symm.trans h
          by_cases q22 : wr v2 = 107
          · replace h := (if_pos q22).symm.trans h
            refine j_look (A := wr v2) (off := 52) (tgt := 116) hx hb rfl dX4_readClause_64 (by decide) (by rw [q22]; decide) (by decide) ?_
            refine j_aload_n hx hb dX4_readClause_116 rfl (lv_at hl 1 rfl) ?_
            refine j_aload_n hx hb dX4_readClause_117 rfl (lv_at hl 2 rfl) ?_
            obtain ⟨μ24, e23, h⟩ := ob_I h
            refine jc_VM (As := [jR b y1]) (rest := []) ⟨hx, hb, hml, hown, hts⟩ hK hP hS (m_X4_readPack l D b cs N hky1 e23) (cwV 1 hts gX4_readClause_X4_readPack rfl rfl rfl (by decide +kernel) ⟨Nat.le_of_ble_eq_true rfl, Nat.le_of_ble_eq_true rfl⟩) kz_1 (by decide) rfl rfl hl.1 rfl (Nat.le_of_ble_eq_true rfl) dX4_readClause_118 ⟨Nat.zero_le _, Nat.zero_le _⟩ (fun H locs hP hS => ?_)
            refine j_goto (tgt := 129) hx hb dX4_readClause_121 (by decide) ?_
            exact hj129_14 _ _ _ _ hP hS (lv_sub hl [1] rfl) h
          · replace h := (if_neg q22).symm.trans h
            by_cases q25 : wr v2 = 108
            · replace h := (if_pos q25).symm.trans h
              refine j_look (A := wr v2) (off := 36) (tgt := 100) hx hb rfl dX4_readClause_64 (by decide) (by rw [q25]; decide) (by decide) ?_
              refine j_aload_n hx hb dX4_readClause_100 rfl (lv_at hl 1 rfl) ?_
              refine j_aload_n hx hb dX4_readClause_101 rfl (lv_at hl 2 rfl) ?_
              obtain ⟨μ27, e26, h⟩ := ob_I h
              refine jc_VM (As := [jR b y1]) (rest := []) ⟨hx, hb, hml, hown, hts⟩ hK hP hS (m_X4_readColours l D b cs N hky1 e26) (cwV 1 hts gX4_readClause_X4_readColours rfl rfl rfl (by decide +kernel) ⟨Nat.le_of_ble_eq_true rfl, Nat.le_of_ble_eq_true rfl⟩) kz_1 (by decide) rfl rfl hl.1 rfl (Nat.le_of_ble_eq_true rfl) dX4_readClause_102 ⟨Nat.zero_le _, Nat.zero_le _⟩ (fun H locs hP hS => ?_)
              refine j_goto (tgt := 129) hx hb dX4_readClause_105 (by decide) ?_
              exact hj129_14 _ _ _ _ hP hS (lv_sub hl [1] rfl) h
            · replace h := (if_neg q25).symm.trans h
              refine j_look (A := wr v2) (off := 60) (tgt := 124) hx hb rfl dX4_readClause_64 (by decide) (look_3 q19 q22 q25) (by decide) ?_
              refine j_aload_n hx hb dX4_readClause_124 rfl (lv_at hl 1 rfl) ?_
              refine j_aload_n hx hb dX4_readClause_125 rfl (lv_at hl 2 rfl) ?_
              obtain ⟨μ29, e28, h⟩ := ob_I h
              refine jc_VM (As := [jR b y1]) (rest := []) ⟨hx, hb, hml, hown, hts⟩ hK hP hS (m_X4_readYarn l D b cs N hky1 e28) (cwV 1 hts gX4_readClause_X4_readYarn rfl rfl rfl (by decide +kernel) ⟨Nat.le_of_ble_eq_true rfl, Nat.le_of_ble_eq_true rfl⟩) kz_1 (by decide) rfl rfl hl.1 rfl (Nat.le_of_ble_eq_true rfl) dX4_readClause_126 ⟨Nat.zero_le _, Nat.zero_le _⟩ (fun H locs hP hS => ?_)
              exact hj129_14 _ _ _ _ hP hS (lv_sub hl [1] rfl) h
      · replace h := (if_neg q11).symm.trans h
        refine j_aload_n hx hb dX4_readClause_43 rfl (lv_at hl 1 rfl) ?_
        refine j_iconst hx hb dX4_readClause_44 ?_
        refine j_aload_n hx hb dX4_readClause_45 rfl (lv_at hl 1 rfl) ?_
        refine j_get (v := jI (gI μ 1 2)) hx hb hts hinX4 hown hK hP kz_1 (by decide) rfl 2 (by decide) (hts (.fieldLink RX4 22 "CardBand$Telling" "place" "I") (by decide +kernel)) rfl (by rw [jI_g]; rfl) dX4_readClause_46 ?_
        obtain ⟨μ31, e30, h⟩ := ob_I h
        refine jc_VM (As := [jI 3, jI (gI μ 1 2)]) (rest := []) ⟨hx, hb, hml, hown, hts⟩ hK hP hS (m_X4_setFault l D b cs N e30) (cwV 2 hts gX4_readClause_X4_setFault rfl rfl rfl (by decide +kernel) ⟨Nat.le_of_ble_eq_true rfl, Nat.le_of_ble_eq_true rfl⟩) kz_1 (by decide) rfl rfl hl.1 rfl (Nat.le_of_ble_eq_true rfl) dX4_readClause_49 ⟨Nat.zero_le _, Nat.zero_le _⟩ (fun H locs hP hS => ?_)
        have e0 := Option.some.inj h
        subst e0
        exact j_retM hx hb hK hP hS hr hlk dX4_readClause_52
    · replace h := (if_pos q8).symm.trans h
      refine j_iload_n hx hb dX4_readClause_19 rfl (lv_at hl 0 rfl) ?_
      refine j_bipush hx hb dX4_readClause_20 (by decide) ?_
      refine j_icmp_eq (A := wr v2) (B := 108) (tgt := 35) hx hb rfl (by decide) dX4_readClause_22 (by decide) (fun q32 => ?_) (fun q32 => ?_)
      · replace h := (if_pos q32).symm.trans h
        refine j_iload_n hx hb dX4_readClause_35 rfl (lv_at hl 0 rfl) ?_
        refine j_aload_n hx hb dX4_readClause_36 rfl (lv_at hl 2 rfl) ?_
        obtain ⟨v34, e33, h⟩ := ob_I h
        refine jc_SI (As := [jI v2, jR b y1]) (rest := []) ⟨hx, hb, hml, hown, hts⟩ hK hP hS (m_X4_isOneTooMany l D b cs N hky1 e33) (va_cwS 2 hts gX4_readClause_X4_isOneTooMany rfl rfl rfl (by decide +kernel) ⟨Nat.le_of_ble_eq_true rfl, Nat.le_of_ble_eq_true rfl⟩) rfl hl.1 rfl (Nat.le_of_ble_eq_true rfl) dX4_readClause_37 ⟨Nat.zero_le _, Nat.zero_le _⟩ (fun H locs hP hS => ?_)
        refine j_if_eq (A := wr v34) (tgt := 53) hx hb rfl dX4_readClause_40 (by decide) (fun q35 => ?_) (fun q35 => ?_)
        · replace h := (if_pos q35).symm.trans h
          refine j_aload_n hx hb dX4_readClause_53 rfl (lv_at hl 1 rfl) ?_
          refine j_dup hx hb dX4_readClause_54 rfl ?_
          refine j_get (v := jI (gI μ 1 2)) hx hb hts hinX4 hown hK hP kz_1 (by decide) rfl 2 (by decide) (hts (.fieldLink RX4 22 "CardBand$Telling" "place" "I") (by decide +kernel)) rfl (by rw [jI_g]; rfl) dX4_readClause_55 ?_
          refine j_iconst hx hb dX4_readClause_58 ?_
          refine j_iadd hx hb dX4_readClause_59 ?_
          obtain ⟨μ36, e37, h⟩ := ob_I h
          refine j_put (ty := .int) (z := ((gI μ 1 2) + 1)) hx hb hts hinX4 tyX4 tyX4_ok nmX4 hown hK hP hS kz_1 (by decide) rfl 2 (by decide) (hts (.fieldLink RX4 22 "CardBand$Telling" "place" "I") (by decide +kernel)) rfl rfl (by decide +kernel) rfl rfl (by simp [flds]) rfl dX4_readClause_60 (Option.some.inj e37) (fun H locs hP hS => ?_)
          refine j_iload_n hx hb dX4_readClause_63 rfl (lv_at hl 0 rfl) ?_
          have hj129_38 : ∀ (μ39 : Mm) (H : Heap) (locs : List Loc) (ls : Array Slot), va_P D vwCl (wl b cs μ39) H → va_S (bA b) s.heap H locs → lv_has ls 3 [(0, jR b 1)] → fX4_readClause_j129_38 N μ39 = some μ0 → W p l e rmX4_readClause s m args below meth c H locs 0 0 (MQ below (QM D b cs μ0) args s 0 0 (bA b)) (F0 m 129 ls []) := by
            intro μ39 H locs ls hP hS hl h
            unfold fX4_readClause_j129_38 at h
            refine j_aload_n hx hb dX4_readClause_129 rfl (lv_at hl 0 rfl) ?_
            refine j_get (v := jI (gI μ39 1 4)) hx hb hts hinX4 hown hK hP kz_1 (by decide) rfl 4 (by decide) (hts (.fieldLink RX4 25 "CardBand$Telling" "faultNumber" "I") (by decide +kernel)) rfl (by rw [jI_g]; rfl) dX4_readClause_130 ?_
            refine j_if_ne (A := wr (gI μ39 1 4)) (tgt := 140) hx hb rfl dX4_readClause_133 (by decide) (fun q40 => ?_) (fun q40 => ?_)
            · replace h := (if_neg q40).symm.trans h
              have e0 := Option.some.inj h
              subst e0
              exact j_retM hx hb hK hP hS hr hlk dX4_readClause_140
            · replace h := (if_pos q40).symm.trans h
              refine j_aload_n hx hb dX4_readClause_136 rfl (lv_at hl 0 rfl) ?_
              obtain ⟨μ42, e41, h⟩ := ob_I h
              refine jc_VM (As := []) (rest := []) ⟨hx, hb, hml, hown, hts⟩ hK hP hS (m_X4_readEnd l D b cs N e41) (cwV 0 hts gX4_readClause_X4_readEnd rfl rfl rfl (by decide +kernel) ⟨Nat.le_of_ble_eq_true rfl, Nat.le_of_ble_eq_true rfl⟩) kz_1 (by decide) rfl rfl hl.1 rfl (Nat.le_of_ble_eq_true rfl) dX4_readClause_137 ⟨Nat.zero_le _, Nat.zero_le _⟩ (fun H locs hP hS => ?_)
              have e0 := Option.some.inj h
              subst e0
              exact j_retM hx hb hK hP hS hr hlk dX4_readClause_140
          by_cases q43 : wr v2 = 99
          · replace h := (if_pos q43).symm.trans h
            refine j_look (A := wr v2) (off := 44) (tgt := 108) hx hb rfl dX4_readClause_64 (by decide) (by rw [q43]; decide) (by decide) ?_
            refine j_aload_n hx hb dX4_readClause_108 rfl (lv_at hl 1 rfl) ?_
            refine j_aload_n hx hb dX4_readClause_109 rfl (lv_at hl 2 rfl) ?_
            obtain ⟨μ45, e44, h⟩ := ob_I h
            refine jc_VM (As := [jR b y1]) (rest := []) ⟨hx, hb, hml, hown, hts⟩ hK hP hS (m_X4_readCard l D b cs N hky1 e44) (cwV 1 hts gX4_readClause_X4_readCard rfl rfl rfl (by decide +kernel) ⟨Nat.le_of_ble_eq_true rfl, Nat.le_of_ble_eq_true rfl⟩) kz_1 (by decide) rfl rfl hl.1 rfl (Nat.le_of_ble_eq_true rfl) dX4_readClause_110 ⟨Nat.zero_le _, Nat.zero_le _⟩ (fun H locs hP hS => ?_)
            refine j_goto (tgt := 129) hx hb dX4_readClause_113 (by decide) ?_
            exact hj129_38 _ _ _ _ hP hS (lv_sub hl [1] rfl) h
          · replace h := (if_neg q43).symm.trans h
            by_cases q46 : wr v2 = 107
            · replace h := (if_pos q46).symm.trans h
              refine j_look (A := wr v2) (off := 52) (tgt := 116) hx hb rfl dX4_readClause_64 (by decide) (by rw [q46]; decide) (by decide) ?_
              refine j_aload_n hx hb dX4_readClause_116 rfl (lv_at hl 1 rfl) ?_
              refine j_aload_n hx hb dX4_readClause_117 rfl (lv_at hl 2 rfl) ?_
              obtain ⟨μ48, e47, h⟩ := ob_I h
              refine jc_VM (As := [jR b y1]) (rest := []) ⟨hx, hb, hml, hown, hts⟩ hK hP hS (m_X4_readPack l D b cs N hky1 e47) (cwV 1 hts gX4_readClause_X4_readPack rfl rfl rfl (by decide +kernel) ⟨Nat.le_of_ble_eq_true rfl, Nat.le_of_ble_eq_true rfl⟩) kz_1 (by decide) rfl rfl hl.1 rfl (Nat.le_of_ble_eq_true rfl) dX4_readClause_118 ⟨Nat.zero_le _, Nat.zero_le _⟩ (fun H locs hP hS => ?_)
              refine j_goto (tgt := 129) hx hb dX4_readClause_121 (by decide) ?_
              exact hj129_38 _ _ _ _ hP hS (lv_sub hl [1] rfl) h
            · replace h := (if_neg q46).symm.trans h
              by_cases q49 : wr v2 = 108
              · replace h := (if_pos q49).symm.trans h
                refine j_look (A := wr v2) (off := 36) (tgt := 100) hx hb rfl dX4_readClause_64 (by decide) (by rw [q49]; decide) (by decide) ?_
                refine j_aload_n hx hb dX4_readClause_100 rfl (lv_at hl 1 rfl) ?_
                refine j_aload_n hx hb dX4_readClause_101 rfl (lv_at hl 2 rfl) ?_
                obtain ⟨μ51, e50, h⟩ := ob_I h
                refine jc_VM (As := [jR b y1]) (rest := []) ⟨hx, hb, hml, hown, hts⟩ hK hP hS (m_X4_readColours l D b cs N hky1 e50) (cwV 1 hts gX4_readClause_X4_readColours rfl rfl rfl (by decide +kernel) ⟨Nat.le_of_ble_eq_true rfl, Nat.le_of_ble_eq_true rfl⟩) kz_1 (by decide) rfl rfl hl.1 rfl (Nat.le_of_ble_eq_true rfl) dX4_readClause_102 ⟨Nat.zero_le _, Nat.zero_le _⟩ (fun H locs hP hS => ?_)
                refine j_goto (tgt := 129) hx hb dX4_readClause_105 (by decide) ?_
                exact hj129_38 _ _ _ _ hP hS (lv_sub hl [1] rfl) h
              · replace h := (if_neg q49).symm.trans h
                refine j_look (A := wr v2) (off := 60) (tgt := 124) hx hb rfl dX4_readClause_64 (by decide) (look_3 q43 q46 q49) (by decide) ?_
                refine j_aload_n hx hb dX4_readClause_124 rfl (lv_at hl 1 rfl) ?_
                refine j_aload_n hx hb dX4_readClause_125 rfl (lv_at hl 2 rfl) ?_
                obtain ⟨μ53, e52, h⟩ := ob_I h
                refine jc_VM (As := [jR b y1]) (rest := []) ⟨hx, hb, hml, hown, hts⟩ hK hP hS (m_X4_readYarn l D b cs N hky1 e52) (cwV 1 hts gX4_readClause_X4_readYarn rfl rfl rfl (by decide +kernel) ⟨Nat.le_of_ble_eq_true rfl, Nat.le_of_ble_eq_true rfl⟩) kz_1 (by decide) rfl rfl hl.1 rfl (Nat.le_of_ble_eq_true rfl) dX4_readClause_126 ⟨Nat.zero_le _, Nat.zero_le _⟩ (fun H locs hP hS => ?_)
                exact hj129_38 _ _ _ _ hP hS (lv_sub hl [1] rfl) h
        · replace h := (if_neg q35).symm.trans h
          refine j_aload_n hx hb dX4_readClause_43 rfl (lv_at hl 1 rfl) ?_
          refine j_iconst hx hb dX4_readClause_44 ?_
          refine j_aload_n hx hb dX4_readClause_45 rfl (lv_at hl 1 rfl) ?_
          refine j_get (v := jI (gI μ 1 2)) hx hb hts hinX4 hown hK hP kz_1 (by decide) rfl 2 (by decide) (hts (.fieldLink RX4 22 "CardBand$Telling" "place" "I") (by decide +kernel)) rfl (by rw [jI_g]; rfl) dX4_readClause_46 ?_
          obtain ⟨μ55, e54, h⟩ := ob_I h
          refine jc_VM (As := [jI 3, jI (gI μ 1 2)]) (rest := []) ⟨hx, hb, hml, hown, hts⟩ hK hP hS (m_X4_setFault l D b cs N e54) (cwV 2 hts gX4_readClause_X4_setFault rfl rfl rfl (by decide +kernel) ⟨Nat.le_of_ble_eq_true rfl, Nat.le_of_ble_eq_true rfl⟩) kz_1 (by decide) rfl rfl hl.1 rfl (Nat.le_of_ble_eq_true rfl) dX4_readClause_49 ⟨Nat.zero_le _, Nat.zero_le _⟩ (fun H locs hP hS => ?_)
          have e0 := Option.some.inj h
          subst e0
          exact j_retM hx hb hK hP hS hr hlk dX4_readClause_52
      · replace h := (if_neg q32).symm.trans h
        refine j_aload_n hx hb dX4_readClause_25 rfl (lv_at hl 1 rfl) ?_
        refine j_iconst hx hb dX4_readClause_26 ?_
        refine j_aload_n hx hb dX4_readClause_27 rfl (lv_at hl 1 rfl) ?_
        refine j_get (v := jI (gI μ 1 2)) hx hb hts hinX4 hown hK hP kz_1 (by decide) rfl 2 (by decide) (hts (.fieldLink RX4 22 "CardBand$Telling" "place" "I") (by decide +kernel)) rfl (by rw [jI_g]; rfl) dX4_readClause_28 ?_
        obtain ⟨μ57, e56, h⟩ := ob_I h
        refine jc_VM (As := [jI 1, jI (gI μ 1 2)]) (rest := []) ⟨hx, hb, hml, hown, hts⟩ hK hP hS (m_X4_setFault l D b cs N e56) (cwV 2 hts gX4_readClause_X4_setFault rfl rfl rfl (by decide +kernel) ⟨Nat.le_of_ble_eq_true rfl, Nat.le_of_ble_eq_true rfl⟩) kz_1 (by decide) rfl rfl hl.1 rfl (Nat.le_of_ble_eq_true rfl) dX4_readClause_31 ⟨Nat.zero_le _, Nat.zero_le _⟩ (fun H locs hP hS => ?_)
        have e0 := Option.some.inj h
        subst e0
        exact j_retM hx hb hK hP hS hr hlk dX4_readClause_34
def fX5_clear (N : Nat) (a : Nat) (μ : Mm) : Option (Mm) :=
    Option.bind (some (pI μ a 5 0)) (fun μ1 => Option.bind (some (pI μ1 a 6 0)) (fun μ3 => Option.bind (some (pI μ3 a 7 0)) (fun μ5 => Option.bind (some (pI μ5 a 8 0)) (fun μ7 => Option.bind (fJ7_fill_53178 N (a + 3) (-1) μ7) (fun μ10 => Option.bind (fJ7_fill_53178 N (a + 5) 500 μ10) (fun μ12 => some μ12))))))
abbrev rmX5_clear : Room := { frames := 1, cells := 0, slots := 0, locals := 23 }
set_option maxHeartbeats 4000000 in
set_option maxRecDepth 100000 in
theorem m_X5_clear (l : Launch) (D : va_G) (b : Nat) (cs : CS) (N : Nat) {μ μ0 : Mm} {a : Nat} (hka : kd a = 4) (h : fX5_clear N a μ = some μ0) : MM l yX5_clear wsX5_clear rmX5_clear D b cs [jR b a] μ μ0 := by
  refine met_in (cc := cX5_clear) (maxL := 1) (ret := none) (lv0 := [(0, jR b a)]) (by decide +kernel) rfl (Nat.le_of_ble_eq_true rfl) rfl ?_
  intro p e s m args below meth c hx hb hr hlk hml hown hts hP hK ls hl
  have hown : s.vm.findClass RX5 = some m.cls := hown
  have hS : va_S (bA b) s.heap s.heap [] := va_S.rf
  have hinX5 : ∀ w ∈ u_ws RX5 TX5 9, w ∈ wsX5_clear := by decide +kernel
  unfold fX5_clear at h
  refine j_aload_n hx hb dX5_clear_0 rfl (lv_at hl 0 rfl) ?_
  refine j_iconst hx hb dX5_clear_1 ?_
  obtain ⟨μ1, e2, h⟩ := ob_I h
  refine j_put (ty := .int) (z := 0) hx hb hts hinX5 tyX5 tyX5_ok nmX5 hown hK hP hS hka (by decide) rfl 5 (by decide) (hts (.fieldLink RX5 27 "CardBand$Threading" "colours" "I") (by decide +kernel)) rfl rfl (by decide +kernel) rfl rfl (by simp [flds]) rfl dX5_clear_2 (Option.some.inj e2) (fun H locs hP hS => ?_)
  refine j_aload_n hx hb dX5_clear_5 rfl (lv_at hl 0 rfl) ?_
  refine j_iconst hx hb dX5_clear_6 ?_
  obtain ⟨μ3, e4, h⟩ := ob_I h
  refine j_put (ty := .int) (z := 0) hx hb hts hinX5 tyX5 tyX5_ok nmX5 hown hK hP hS hka (by decide) rfl 6 (by decide) (hts (.fieldLink RX5 31 "CardBand$Threading" "cards" "I") (by decide +kernel)) rfl rfl (by decide +kernel) rfl rfl (by simp [flds]) rfl dX5_clear_7 (Option.some.inj e4) (fun H locs hP hS => ?_)
  refine j_aload_n hx hb dX5_clear_10 rfl (lv_at hl 0 rfl) ?_
  refine j_iconst hx hb dX5_clear_11 ?_
  obtain ⟨μ5, e6, h⟩ := ob_I h
  refine j_put (ty := .int) (z := 0) hx hb hts hinX5 tyX5 tyX5_ok nmX5 hown hK hP hS hka (by decide) rfl 7 (by decide) (hts (.fieldLink RX5 34 "CardBand$Threading" "packs" "I") (by decide +kernel)) rfl rfl (by decide +kernel) rfl rfl (by simp [flds]) rfl dX5_clear_12 (Option.some.inj e6) (fun H locs hP hS => ?_)
  refine j_aload_n hx hb dX5_clear_15 rfl (lv_at hl 0 rfl) ?_
  refine j_iconst hx hb dX5_clear_16 ?_
  obtain ⟨μ7, e8, h⟩ := ob_I h
  refine j_put (ty := .int) (z := 0) hx hb hts hinX5 tyX5 tyX5_ok nmX5 hown hK hP hS hka (by decide) rfl 8 (by decide) (hts (.fieldLink RX5 37 "CardBand$Threading" "cardsInPacks" "I") (by decide +kernel)) rfl rfl (by decide +kernel) rfl rfl (by simp [flds]) rfl dX5_clear_17 (Option.some.inj e8) (fun H locs hP hS => ?_)
  refine j_aload_n hx hb dX5_clear_20 rfl (lv_at hl 0 rfl) ?_
  refine j_get (v := jR b (a + 3)) hx hb hts hinX5 hown hK hP hka (by decide) rfl 2 (by decide) (hts (.fieldLink RX5 18 "CardBand$Threading" "packOf" "[I") (by decide +kernel)) rfl rfl dX5_clear_21 ?_
  refine j_iconst hx hb dX5_clear_24 ?_
  obtain ⟨μ10, e9, h⟩ := ob_I h
  refine jc_SM (As := [jR b (a + 3), jI (-1)]) (rest := []) ⟨hx, hb, hml, hown, hts⟩ hK hP hS (m_J7_fill_53178 l D b cs N (kX5_3 hka) e9) (va_cwS 2 hts gX5_clear_J7_fill_53178 rfl rfl rfl (by decide +kernel) ⟨Nat.le_of_ble_eq_true rfl, Nat.le_of_ble_eq_true rfl⟩) rfl hl.1 rfl (Nat.le_of_ble_eq_true rfl) dX5_clear_25 ⟨Nat.zero_le _, Nat.zero_le _⟩ (fun H locs hP hS => ?_)
  refine j_aload_n hx hb dX5_clear_28 rfl (lv_at hl 0 rfl) ?_
  refine j_get (v := jR b (a + 5)) hx hb hts hinX5 hown hK hP hka (by decide) rfl 4 (by decide) (hts (.fieldLink RX5 24 "CardBand$Threading" "yarnsTold" "[I") (by decide +kernel)) rfl rfl dX5_clear_29 ?_
  refine j_sipush hx hb dX5_clear_32 (by decide) ?_
  obtain ⟨μ12, e11, h⟩ := ob_I h
  refine jc_SM (As := [jR b (a + 5), jI 500]) (rest := []) ⟨hx, hb, hml, hown, hts⟩ hK hP hS (m_J7_fill_53178 l D b cs N (kX5_5 hka) e11) (va_cwS 2 hts gX5_clear_J7_fill_53178 rfl rfl rfl (by decide +kernel) ⟨Nat.le_of_ble_eq_true rfl, Nat.le_of_ble_eq_true rfl⟩) rfl hl.1 rfl (Nat.le_of_ble_eq_true rfl) dX5_clear_35 ⟨Nat.zero_le _, Nat.zero_le _⟩ (fun H locs hP hS => ?_)
  have e0 := Option.some.inj h
  subst e0
  exact j_retM hx hb hK hP hS hr hlk dX5_clear_38
def fX4_readInto_k65 (N : Nat) : Mm → Option (Int × Mm) := fun μ12 =>
    if wr (gI μ12 1 4) = 0 then (some (1, μ12)) else (some (0, μ12))
def fX4_readInto_l25 (N : Nat) (y1 : Nat) : Nat → Int → Mm → Option (Int × Mm)
  | 0, _, _ => none
  | n14 + 1, x2_15, μ16 =>
    if 240 ≤ wr x2_15 then (fX4_readInto_k65 N μ16) else (if wr (gI μ16 1 1) ≤ wr (gI μ16 1 2) then (fX4_readInto_k65 N μ16) else (if wr (gI μ16 1 4) = 0 then (Option.bind (fX4_readClause N y1 μ16) (fun μ21 => Option.bind (fX4_skipBlanks N μ21) (fun μ23 => (fX4_readInto_l25 N y1 n14) (x2_15 + 1) μ23))) else (fX4_readInto_k65 N μ16)))
def fX4_readInto (N : Nat) (y1 : Nat) (μ : Mm) : Option (Int × Mm) :=
    Option.bind (some (pI μ 1 2 0)) (fun μ1 => Option.bind (some (pI μ1 1 4 0)) (fun μ3 => Option.bind (some (pI μ3 1 5 (-1))) (fun μ5 => Option.bind (fX5_clear N y1 μ5) (fun μ8 => Option.bind (fX4_skipBlanks N μ8) (fun μ10 => fX4_readInto_l25 N y1 N 0 μ10)))))
abbrev rmX4_readInto : Room := { frames := 5, cells := 0, slots := 0, locals := 108 }
set_option maxHeartbeats 4000000 in
set_option maxRecDepth 100000 in
theorem m_X4_readInto (l : Launch) (D : va_G) (b : Nat) (cs : CS) (N : Nat) {μ μ0 : Mm} {y1 : Nat} {r : Int} (hky1 : kd y1 = 4) (h : fX4_readInto N y1 μ = some (r, μ0)) : MI l yX4_readInto wsX4_readInto rmX4_readInto D b cs [jR b 1, jR b y1] μ μ0 r := by
  refine met_in (cc := cX4_readInto) (maxL := 3) (ret := some .boolean) (lv0 := [(0, jR b 1), (1, jR b y1)]) (by decide +kernel) rfl (Nat.le_of_ble_eq_true rfl) rfl ?_
  intro p e s m args below meth c hx hb hr hlk hml hown hts hP hK ls hl
  have hown : s.vm.findClass RX4 = some m.cls := hown
  have hS : va_S (bA b) s.heap s.heap [] := va_S.rf
  have hinX4 : ∀ w ∈ u_ws RX4 TX4 6, w ∈ wsX4_readInto := by decide +kernel
  unfold fX4_readInto at h
  refine j_aload_n hx hb dX4_readInto_0 rfl (lv_at hl 0 rfl) ?_
  refine j_iconst hx hb dX4_readInto_1 ?_
  obtain ⟨μ1, e2, h⟩ := ob_I h
  refine j_put (ty := .int) (z := 0) hx hb hts hinX4 tyX4 tyX4_ok nmX4 hown hK hP hS kz_1 (by decide) rfl 2 (by decide) (hts (.fieldLink RX4 22 "CardBand$Telling" "place" "I") (by decide +kernel)) rfl rfl (by decide +kernel) rfl rfl (by simp [flds]) rfl dX4_readInto_2 (Option.some.inj e2) (fun H locs hP hS => ?_)
  refine j_aload_n hx hb dX4_readInto_5 rfl (lv_at hl 0 rfl) ?_
  refine j_iconst hx hb dX4_readInto_6 ?_
  obtain ⟨μ3, e4, h⟩ := ob_I h
  refine j_put (ty := .int) (z := 0) hx hb hts hinX4 tyX4 tyX4_ok nmX4 hown hK hP hS kz_1 (by decide) rfl 4 (by decide) (hts (.fieldLink RX4 25 "CardBand$Telling" "faultNumber" "I") (by decide +kernel)) rfl rfl (by decide +kernel) rfl rfl (by simp [flds]) rfl dX4_readInto_7 (Option.some.inj e4) (fun H locs hP hS => ?_)
  refine j_aload_n hx hb dX4_readInto_10 rfl (lv_at hl 0 rfl) ?_
  refine j_iconst hx hb dX4_readInto_11 ?_
  obtain ⟨μ5, e6, h⟩ := ob_I h
  refine j_put (ty := .int) (z := (-1)) hx hb hts hinX4 tyX4 tyX4_ok nmX4 hown hK hP hS kz_1 (by decide) rfl 5 (by decide) (hts (.fieldLink RX4 15 "CardBand$Telling" "faultPlace" "I") (by decide +kernel)) rfl rfl (by decide +kernel) rfl rfl (by simp [flds]) rfl dX4_readInto_12 (Option.some.inj e6) (fun H locs hP hS => ?_)
  refine j_aload_n hx hb dX4_readInto_15 rfl (lv_at hl 1 rfl) ?_
  obtain ⟨μ8, e7, h⟩ := ob_I h
  refine jc_VM (As := []) (rest := []) ⟨hx, hb, hml, hown, hts⟩ hK hP hS (m_X5_clear l D b cs N hky1 e7) (cwV 0 hts gX4_readInto_X5_clear rfl rfl rfl (by decide +kernel) ⟨Nat.le_of_ble_eq_true rfl, Nat.le_of_ble_eq_true rfl⟩) hky1 (by decide) rfl rfl hl.1 rfl (Nat.le_of_ble_eq_true rfl) dX4_readInto_16 ⟨Nat.zero_le _, Nat.zero_le _⟩ (fun H locs hP hS => ?_)
  refine j_aload_n hx hb dX4_readInto_19 rfl (lv_at hl 0 rfl) ?_
  obtain ⟨μ10, e9, h⟩ := ob_I h
  refine jc_VM (As := []) (rest := []) ⟨hx, hb, hml, hown, hts⟩ hK hP hS (m_X4_skipBlanks l D b cs N e9) (cwV 0 hts gX4_readInto_X4_skipBlanks rfl rfl rfl (by decide +kernel) ⟨Nat.le_of_ble_eq_true rfl, Nat.le_of_ble_eq_true rfl⟩) kz_1 (by decide) rfl rfl hl.1 rfl (Nat.le_of_ble_eq_true rfl) dX4_readInto_20 ⟨Nat.zero_le _, Nat.zero_le _⟩ (fun H locs hP hS => ?_)
  refine j_iconst hx hb dX4_readInto_23 ?_
  refine j_istore_n (lv2 := [(2, jI 0), (0, jR b 1), (1, jR b y1)]) hx hb dX4_readInto_24 rfl hl (by decide) rfl (fun ls hl => ?_)
  have hk65_11 : ∀ (μ12 : Mm) (H : Heap) (locs : List Loc) (ls : Array Slot), va_P D vwCl (wl b cs μ12) H → va_S (bA b) s.heap H locs → lv_has ls 3 [(0, jR b 1)] → fX4_readInto_k65 N μ12 = some (r, μ0) → W p l e rmX4_readInto s m args below meth c H locs 0 0 (MQ below (QI D b cs μ0 r) args s 0 0 (bA b)) (F0 m 65 ls []) := by
    intro μ12 H locs ls hP hS hl h
    unfold fX4_readInto_k65 at h
    refine j_aload_n hx hb dX4_readInto_65 rfl (lv_at hl 0 rfl) ?_
    refine j_get (v := jI (gI μ12 1 4)) hx hb hts hinX4 hown hK hP kz_1 (by decide) rfl 4 (by decide) (hts (.fieldLink RX4 25 "CardBand$Telling" "faultNumber" "I") (by decide +kernel)) rfl (by rw [jI_g]; rfl) dX4_readInto_66 ?_
    refine j_if_ne (A := wr (gI μ12 1 4)) (tgt := 76) hx hb rfl dX4_readInto_69 (by decide) (fun q13 => ?_) (fun q13 => ?_)
    · replace h := (if_neg q13).symm.trans h
      refine j_iconst hx hb dX4_readInto_76 ?_
      obtain ⟨e0, e1⟩ := Prod.mk.inj (Option.some.inj h)
      subst e1
      exact j_retZ hx hb hK hP hS hr hlk (by decide) e0 dX4_readInto_77
    · replace h := (if_pos q13).symm.trans h
      refine j_iconst hx hb dX4_readInto_72 ?_
      refine j_goto (tgt := 77) hx hb dX4_readInto_73 (by decide) ?_
      obtain ⟨e0, e1⟩ := Prod.mk.inj (Option.some.inj h)
      subst e1
      exact j_retZ hx hb hK hP hS hr hlk (by decide) e0 dX4_readInto_77
  have hl25_14 : ∀ (n0 : Nat) (x2_15 : Int) (μ16 : Mm) (H : Heap) (locs : List Loc) (ls : Array Slot), va_P D vwCl (wl b cs μ16) H → va_S (bA b) s.heap H locs → lv_has ls 3 [(0, jR b 1), (1, jR b y1), (2, jI x2_15)] → fX4_readInto_l25 N y1 n0 x2_15 μ16 = some (r, μ0) → W p l e rmX4_readInto s m args below meth c H locs 0 0 (MQ below (QI D b cs μ0 r) args s 0 0 (bA b)) (F0 m 25 ls []) := by
    intro n0
    induction n0 with
    | zero => intro x2_15 μ16 H locs ls hP hS hl h; rw [fX4_readInto_l25] at h; cases h
    | succ n14 ih25_14 =>
      intro x2_15 μ16 H locs ls hP hS hl h
      rw [fX4_readInto_l25] at h
      refine j_iload_n hx hb dX4_readInto_25 rfl (lv_at hl 2 rfl) ?_
      refine j_sipush hx hb dX4_readInto_26 (by decide) ?_
      refine j_icmp_ge (A := wr x2_15) (B := 240) (tgt := 65) hx hb rfl (by decide) dX4_readInto_29 (by decide) (fun q17 => ?_) (fun q17 => ?_)
      · replace h := (if_pos q17).symm.trans h
        exact hk65_11 _ _ _ _ hP hS (lv_sub hl [0] rfl) h
      · replace h := (if_neg q17).symm.trans h
        refine j_aload_n hx hb dX4_readInto_32 rfl (lv_at hl 0 rfl) ?_
        refine j_get (v := jI (gI μ16 1 2)) hx hb hts hinX4 hown hK hP kz_1 (by decide) rfl 2 (by decide) (hts (.fieldLink RX4 22 "CardBand$Telling" "place" "I") (by decide +kernel)) rfl (by rw [jI_g]; rfl) dX4_readInto_33 ?_
        refine j_aload_n hx hb dX4_readInto_36 rfl (lv_at hl 0 rfl) ?_
        refine j_get (v := jI (gI μ16 1 1)) hx hb hts hinX4 hown hK hP kz_1 (by decide) rfl 1 (by decide) (hts (.fieldLink RX4 19 "CardBand$Telling" "length" "I") (by decide +kernel)) rfl (by rw [jI_g]; rfl) dX4_readInto_37 ?_
        refine j_icmp_ge (A := wr (gI μ16 1 2)) (B := wr (gI μ16 1 1)) (tgt := 65) hx hb rfl rfl dX4_readInto_40 (by decide) (fun q18 => ?_) (fun q18 => ?_)
        · replace h := (if_pos q18).symm.trans h
          exact hk65_11 _ _ _ _ hP hS (lv_sub hl [0] rfl) h
        · replace h := (if_neg q18).symm.trans h
          refine j_aload_n hx hb dX4_readInto_43 rfl (lv_at hl 0 rfl) ?_
          refine j_get (v := jI (gI μ16 1 4)) hx hb hts hinX4 hown hK hP kz_1 (by decide) rfl 4 (by decide) (hts (.fieldLink RX4 25 "CardBand$Telling" "faultNumber" "I") (by decide +kernel)) rfl (by rw [jI_g]; rfl) dX4_readInto_44 ?_
          refine j_if_ne (A := wr (gI μ16 1 4)) (tgt := 65) hx hb rfl dX4_readInto_47 (by decide) (fun q19 => ?_) (fun q19 => ?_)
          · replace h := (if_neg q19).symm.trans h
            exact hk65_11 _ _ _ _ hP hS (lv_sub hl [0] rfl) h
          · replace h := (if_pos q19).symm.trans h
            refine j_aload_n hx hb dX4_readInto_50 rfl (lv_at hl 0 rfl) ?_
            refine j_aload_n hx hb dX4_readInto_51 rfl (lv_at hl 1 rfl) ?_
            obtain ⟨μ21, e20, h⟩ := ob_I h
            refine jc_VM (As := [jR b y1]) (rest := []) ⟨hx, hb, hml, hown, hts⟩ hK hP hS (m_X4_readClause l D b cs N hky1 e20) (cwV 1 hts gX4_readInto_X4_readClause rfl rfl rfl (by decide +kernel) ⟨Nat.le_of_ble_eq_true rfl, Nat.le_of_ble_eq_true rfl⟩) kz_1 (by decide) rfl rfl hl.1 rfl (Nat.le_of_ble_eq_true rfl) dX4_readInto_52 ⟨Nat.zero_le _, Nat.zero_le _⟩ (fun H locs hP hS => ?_)
            refine j_aload_n hx hb dX4_readInto_55 rfl (lv_at hl 0 rfl) ?_
            obtain ⟨μ23, e22, h⟩ := ob_I h
            refine jc_VM (As := []) (rest := []) ⟨hx, hb, hml, hown, hts⟩ hK hP hS (m_X4_skipBlanks l D b cs N e22) (cwV 0 hts gX4_readInto_X4_skipBlanks rfl rfl rfl (by decide +kernel) ⟨Nat.le_of_ble_eq_true rfl, Nat.le_of_ble_eq_true rfl⟩) kz_1 (by decide) rfl rfl hl.1 rfl (Nat.le_of_ble_eq_true rfl) dX4_readInto_56 ⟨Nat.zero_le _, Nat.zero_le _⟩ (fun H locs hP hS => ?_)
            refine j_iinc (k := 2) (lv2 := [(2, jI (x2_15 + 1)), (0, jR b 1), (1, jR b y1)]) hx hb dX4_readInto_59 hl rfl (by decide) rfl (fun ls hl => ?_)
            refine j_goto (tgt := 25) hx hb dX4_readInto_62 (by decide) ?_
            exact ih25_14 _ _ _ _ _ hP hS (lv_sub hl [1, 2, 0] rfl) h
  exact hl25_14 N _ _ _ _ _ hP hS (lv_sub hl [1, 2, 0] rfl) h
def fX5_shareOf_k45 (N : Nat) (a : Nat) (y1 : Int) (μ : Mm) : Int → Option (Int) := fun x3_3 =>
    gd (decide (¬ wr ((gI μ a 6) * 4) = 0)) (some (dvI (y1 * x3_3) ((gI μ a 6) * 4)))
def fX5_shareOf_l14 (N : Nat) (a : Nat) (y1 : Int) (y2 : Int) (μ : Mm) : Nat → Int → Int → Option (Int)
  | 0, _, _ => none
  | n5 + 1, x3_6, x4_7 =>
    if wr ((gI μ a 6) * 4) ≤ wr x4_7 then (fX5_shareOf_k45 N a y1 μ x3_6) else (Option.bind (ldA μ (a + 1) 32 x4_7) (fun v9 => if wr v9 = wr y2 then ((fX5_shareOf_l14 N a y1 y2 μ n5) (x3_6 + 1) (x4_7 + 1)) else ((fX5_shareOf_l14 N a y1 y2 μ n5) x3_6 (x4_7 + 1))))
def fX5_shareOf (N : Nat) (a : Nat) (y1 : Int) (y2 : Int) (μ : Mm) : Option (Int) :=
    if wr (gI μ a 6) = 0 then (some 0) else (fX5_shareOf_l14 N a y1 y2 μ N 0 0)
abbrev rmX5_shareOf : Room := { frames := 0, cells := 0, slots := 0, locals := 0 }
set_option maxHeartbeats 4000000 in
set_option maxRecDepth 100000 in
theorem m_X5_shareOf (l : Launch) (D : va_G) (b : Nat) (cs : CS) (N : Nat) {μ : Mm} {a : Nat} {y1 y2 : Int} {r : Int} (hka : kd a = 4) (h : fX5_shareOf N a y1 y2 μ = some r) : MI l yX5_shareOf wsX5_shareOf rmX5_shareOf D b cs [jR b a, jI y1, jI y2] μ μ r := by
  refine met_in (cc := cX5_shareOf) (maxL := 5) (ret := some .int) (lv0 := [(0, jR b a), (1, jI y1), (2, jI y2)]) (by decide +kernel) rfl (Nat.le_of_ble_eq_true rfl) rfl ?_
  intro p e s m args below meth c hx hb hr hlk hml hown hts hP hK ls hl
  have hown : s.vm.findClass RX5 = some m.cls := hown
  have hS : va_S (bA b) s.heap s.heap [] := va_S.rf
  have hinX5 : ∀ w ∈ u_ws RX5 TX5 9, w ∈ wsX5_shareOf := by decide +kernel
  unfold fX5_shareOf at h
  refine j_aload_n hx hb dX5_shareOf_0 rfl (lv_at hl 0 rfl) ?_
  refine j_get (v := jI (gI μ a 6)) hx hb hts hinX5 hown hK hP hka (by decide) rfl 6 (by decide) (hts (.fieldLink RX5 31 "CardBand$Threading" "cards" "I") (by decide +kernel)) rfl (by rw [jI_g]; rfl) dX5_shareOf_1 ?_
  refine j_if_ne (A := wr (gI μ a 6)) (tgt := 9) hx hb rfl dX5_shareOf_4 (by decide) (fun q1 => ?_) (fun q1 => ?_)
  · replace h := (if_neg q1).symm.trans h
    refine j_iconst hx hb dX5_shareOf_9 ?_
    refine j_istore_n (lv2 := [(3, jI 0), (0, jR b a), (1, jI y1), (2, jI y2)]) hx hb dX5_shareOf_10 rfl hl (by decide) rfl (fun ls hl => ?_)
    refine j_iconst hx hb dX5_shareOf_11 ?_
    refine j_istore (lv2 := [(4, jI 0), (3, jI 0), (0, jR b a), (1, jI y1), (2, jI y2)]) hx hb dX5_shareOf_12 hl (by decide) rfl (fun ls hl => ?_)
    have hk45_2 : ∀ (x3_3 : Int) (H : Heap) (locs : List Loc) (ls : Array Slot), va_P D vwCl (wl b cs μ) H → va_S (bA b) s.heap H locs → lv_has ls 5 [(0, jR b a), (1, jI y1), (3, jI x3_3)] → fX5_shareOf_k45 N a y1 μ x3_3 = some r → W p l e rmX5_shareOf s m args below meth c H locs 0 0 (MQ below (QI D b cs μ r) args s 0 0 (bA b)) (F0 m 45 ls []) := by
      intro x3_3 H locs ls hP hS hl h
      unfold fX5_shareOf_k45 at h
      refine j_iload_n hx hb dX5_shareOf_45 rfl (lv_at hl 1 rfl) ?_
      refine j_iload_n hx hb dX5_shareOf_46 rfl (lv_at hl 2 rfl) ?_
      refine j_imul hx hb dX5_shareOf_47 ?_
      refine j_aload_n hx hb dX5_shareOf_48 rfl (lv_at hl 0 rfl) ?_
      refine j_get (v := jI (gI μ a 6)) hx hb hts hinX5 hown hK hP hka (by decide) rfl 6 (by decide) (hts (.fieldLink RX5 31 "CardBand$Threading" "cards" "I") (by decide +kernel)) rfl (by rw [jI_g]; rfl) dX5_shareOf_49 ?_
      refine j_iconst hx hb dX5_shareOf_52 ?_
      refine j_imul hx hb dX5_shareOf_53 ?_
      obtain ⟨g4, h⟩ := ob_g h
      replace g4 := of_decide_eq_true g4
      refine j_idiv hx hb dX5_shareOf_54 g4 ?_
      exact j_retI hx hb hK hP hS hr hlk (Option.some.inj h) dX5_shareOf_55
    have hl14_5 : ∀ (n0 : Nat) (x3_6 : Int) (x4_7 : Int) (H : Heap) (locs : List Loc) (ls : Array Slot), va_P D vwCl (wl b cs μ) H → va_S (bA b) s.heap H locs → lv_has ls 5 [(0, jR b a), (1, jI y1), (2, jI y2), (3, jI x3_6), (4, jI x4_7)] → fX5_shareOf_l14 N a y1 y2 μ n0 x3_6 x4_7 = some r → W p l e rmX5_shareOf s m args below meth c H locs 0 0 (MQ below (QI D b cs μ r) args s 0 0 (bA b)) (F0 m 14 ls []) := by
      intro n0
      induction n0 with
      | zero => intro x3_6 x4_7 H locs ls hP hS hl h; rw [fX5_shareOf_l14] at h; cases h
      | succ n5 ih14_5 =>
        intro x3_6 x4_7 H locs ls hP hS hl h
        rw [fX5_shareOf_l14] at h
        refine j_iload hx hb dX5_shareOf_14 (lv_at hl 4 rfl) ?_
        refine j_aload_n hx hb dX5_shareOf_16 rfl (lv_at hl 0 rfl) ?_
        refine j_get (v := jI (gI μ a 6)) hx hb hts hinX5 hown hK hP hka (by decide) rfl 6 (by decide) (hts (.fieldLink RX5 31 "CardBand$Threading" "cards" "I") (by decide +kernel)) rfl (by rw [jI_g]; rfl) dX5_shareOf_17 ?_
        refine j_iconst hx hb dX5_shareOf_20 ?_
        refine j_imul hx hb dX5_shareOf_21 ?_
        refine j_icmp_ge (A := wr x4_7) (B := wr ((gI μ a 6) * 4)) (tgt := 45) hx hb rfl rfl dX5_shareOf_22 (by decide) (fun q8 => ?_) (fun q8 => ?_)
        · replace h := (if_pos q8).symm.trans h
          exact hk45_2 _ _ _ _ hP hS (lv_sub hl [0, 1, 3] rfl) h
        · replace h := (if_neg q8).symm.trans h
          refine j_aload_n hx hb dX5_shareOf_25 rfl (lv_at hl 0 rfl) ?_
          refine j_get (v := jR b (a + 1)) hx hb hts hinX5 hown hK hP hka (by decide) rfl 0 (by decide) (hts (.fieldLink RX5 9 "CardBand$Threading" "holeColours" "[I") (by decide +kernel)) rfl rfl dX5_shareOf_26 ?_
          refine j_iload hx hb dX5_shareOf_29 (lv_at hl 4 rfl) ?_
          obtain ⟨v9, e10, h⟩ := ob_I h
          refine j_iaload hx hb hK hP (kX5_1 hka) e10 dX5_shareOf_31 ?_
          refine j_iload_n hx hb dX5_shareOf_32 rfl (lv_at hl 2 rfl) ?_
          refine j_icmp_ne (A := wr v9) (B := wr y2) (tgt := 39) hx hb rfl rfl dX5_shareOf_33 (by decide) (fun q11 => ?_) (fun q11 => ?_)
          · replace h := (if_neg q11).symm.trans h
            refine j_iinc (k := 4) (lv2 := [(4, jI (x4_7 + 1)), (0, jR b a), (1, jI y1), (2, jI y2), (3, jI x3_6)]) hx hb dX5_shareOf_39 hl rfl (by decide) rfl (fun ls hl => ?_)
            refine j_goto (tgt := 14) hx hb dX5_shareOf_42 (by decide) ?_
            exact ih14_5 _ _ _ _ _ hP hS (lv_sub hl [1, 2, 3, 4, 0] rfl) h
          · replace h := (if_pos q11).symm.trans h
            refine j_iinc (k := 3) (lv2 := [(3, jI (x3_6 + 1)), (0, jR b a), (1, jI y1), (2, jI y2), (4, jI x4_7)]) hx hb dX5_shareOf_36 hl rfl (by decide) rfl (fun ls hl => ?_)
            refine j_iinc (k := 4) (lv2 := [(4, jI (x4_7 + 1)), (3, jI (x3_6 + 1)), (0, jR b a), (1, jI y1), (2, jI y2)]) hx hb dX5_shareOf_39 hl rfl (by decide) rfl (fun ls hl => ?_)
            refine j_goto (tgt := 14) hx hb dX5_shareOf_42 (by decide) ?_
            exact ih14_5 _ _ _ _ _ hP hS (lv_sub hl [2, 3, 4, 1, 0] rfl) h
    exact hl14_5 N _ _ _ _ _ hP hS (lv_sub hl [2, 3, 4, 1, 0] rfl) h
  · replace h := (if_pos q1).symm.trans h
    refine j_iconst hx hb dX5_shareOf_7 ?_
    exact j_retI hx hb hK hP hS hr hlk (Option.some.inj h) dX5_shareOf_8
def fX5_countLeftOver_l4 (N : Nat) (a : Nat) (y1 : Int) (μ : Mm) : Nat → Int → Int → Option (Int)
  | 0, _, _ => none
  | n1 + 1, x2_2, x3_3 =>
    if wr (gI μ a 5) ≤ wr x3_3 then (some x2_2) else (Option.bind (fX5_shareOf N a y1 x3_3 μ) (fun v6 => (fX5_countLeftOver_l4 N a y1 μ n1) (x2_2 - v6) (x3_3 + 1)))
def fX5_countLeftOver (N : Nat) (a : Nat) (y1 : Int) (μ : Mm) : Option (Int) :=
    fX5_countLeftOver_l4 N a y1 μ N y1 0
abbrev rmX5_countLeftOver : Room := { frames := 1, cells := 0, slots := 0, locals := 24 }
set_option maxHeartbeats 4000000 in
set_option maxRecDepth 100000 in
theorem m_X5_countLeftOver (l : Launch) (D : va_G) (b : Nat) (cs : CS) (N : Nat) {μ : Mm} {a : Nat} {y1 : Int} {r : Int} (hka : kd a = 4) (h : fX5_countLeftOver N a y1 μ = some r) : MI l yX5_countLeftOver wsX5_countLeftOver rmX5_countLeftOver D b cs [jR b a, jI y1] μ μ r := by
  refine met_in (cc := cX5_countLeftOver) (maxL := 4) (ret := some .int) (lv0 := [(0, jR b a), (1, jI y1)]) (by decide +kernel) rfl (Nat.le_of_ble_eq_true rfl) rfl ?_
  intro p e s m args below meth c hx hb hr hlk hml hown hts hP hK ls hl
  have hown : s.vm.findClass RX5 = some m.cls := hown
  have hS : va_S (bA b) s.heap s.heap [] := va_S.rf
  have hinX5 : ∀ w ∈ u_ws RX5 TX5 9, w ∈ wsX5_countLeftOver := by decide +kernel
  unfold fX5_countLeftOver at h
  refine j_iload_n hx hb dX5_countLeftOver_0 rfl (lv_at hl 1 rfl) ?_
  refine j_istore_n (lv2 := [(2, jI y1), (0, jR b a), (1, jI y1)]) hx hb dX5_countLeftOver_1 rfl hl (by decide) rfl (fun ls hl => ?_)
  refine j_iconst hx hb dX5_countLeftOver_2 ?_
  refine j_istore_n (lv2 := [(3, jI 0), (2, jI y1), (0, jR b a), (1, jI y1)]) hx hb dX5_countLeftOver_3 rfl hl (by decide) rfl (fun ls hl => ?_)
  have hl4_1 : ∀ (n0 : Nat) (x2_2 : Int) (x3_3 : Int) (H : Heap) (locs : List Loc) (ls : Array Slot), va_P D vwCl (wl b cs μ) H → va_S (bA b) s.heap H locs → lv_has ls 4 [(0, jR b a), (1, jI y1), (2, jI x2_2), (3, jI x3_3)] → fX5_countLeftOver_l4 N a y1 μ n0 x2_2 x3_3 = some r → W p l e rmX5_countLeftOver s m args below meth c H locs 0 0 (MQ below (QI D b cs μ r) args s 0 0 (bA b)) (F0 m 4 ls []) := by
    intro n0
    induction n0 with
    | zero => intro x2_2 x3_3 H locs ls hP hS hl h; rw [fX5_countLeftOver_l4] at h; cases h
    | succ n1 ih4_1 =>
      intro x2_2 x3_3 H locs ls hP hS hl h
      rw [fX5_countLeftOver_l4] at h
      refine j_iload_n hx hb dX5_countLeftOver_4 rfl (lv_at hl 3 rfl) ?_
      refine j_aload_n hx hb dX5_countLeftOver_5 rfl (lv_at hl 0 rfl) ?_
      refine j_get (v := jI (gI μ a 5)) hx hb hts hinX5 hown hK hP hka (by decide) rfl 5 (by decide) (hts (.fieldLink RX5 27 "CardBand$Threading" "colours" "I") (by decide +kernel)) rfl (by rw [jI_g]; rfl) dX5_countLeftOver_6 ?_
      refine j_icmp_ge (A := wr x3_3) (B := wr (gI μ a 5)) (tgt := 27) hx hb rfl rfl dX5_countLeftOver_9 (by decide) (fun q4 => ?_) (fun q4 => ?_)
      · replace h := (if_pos q4).symm.trans h
        refine j_iload_n hx hb dX5_countLeftOver_27 rfl (lv_at hl 2 rfl) ?_
        exact j_retI hx hb hK hP hS hr hlk (Option.some.inj h) dX5_countLeftOver_28
      · replace h := (if_neg q4).symm.trans h
        refine j_iload_n hx hb dX5_countLeftOver_12 rfl (lv_at hl 2 rfl) ?_
        refine j_aload_n hx hb dX5_countLeftOver_13 rfl (lv_at hl 0 rfl) ?_
        refine j_iload_n hx hb dX5_countLeftOver_14 rfl (lv_at hl 1 rfl) ?_
        refine j_iload_n hx hb dX5_countLeftOver_15 rfl (lv_at hl 3 rfl) ?_
        obtain ⟨v6, e5, h⟩ := ob_I h
        refine jc_VI (As := [jI y1, jI x3_3]) (rest := [jI x2_2]) ⟨hx, hb, hml, hown, hts⟩ hK hP hS (m_X5_shareOf l D b cs N hka e5) (cwV 2 hts gX5_countLeftOver_X5_shareOf rfl rfl rfl (by decide +kernel) ⟨Nat.le_of_ble_eq_true rfl, Nat.le_of_ble_eq_true rfl⟩) hka (by decide) rfl rfl hl.1 rfl (Nat.le_of_ble_eq_true rfl) dX5_countLeftOver_16 ⟨Nat.zero_le _, Nat.zero_le _⟩ (fun H locs hP hS => ?_)
        refine j_isub hx hb dX5_countLeftOver_19 ?_
        refine j_istore_n (lv2 := [(2, jI (x2_2 - v6)), (0, jR b a), (1, jI y1), (3, jI x3_3)]) hx hb dX5_countLeftOver_20 rfl hl (by decide) rfl (fun ls hl => ?_)
        refine j_iinc (k := 3) (lv2 := [(3, jI (x3_3 + 1)), (2, jI (x2_2 - v6)), (0, jR b a), (1, jI y1)]) hx hb dX5_countLeftOver_21 hl rfl (by decide) rfl (fun ls hl => ?_)
        refine j_goto (tgt := 4) hx hb dX5_countLeftOver_24 (by decide) ?_
        exact ih4_1 _ _ _ _ _ hP hS (lv_sub hl [2, 3, 1, 0] rfl) h
  exact hl4_1 N _ _ _ _ _ hP hS (lv_sub hl [2, 3, 1, 0] rfl) h
def fX5_hasCard (N : Nat) (a : Nat) (y1 : Int) (μ : Mm) : Option (Int) :=
    if wr y1 < 0 then (some 0) else (if wr (gI μ a 6) ≤ wr y1 then (some 0) else (some 1))
abbrev rmX5_hasCard : Room := { frames := 0, cells := 0, slots := 0, locals := 0 }
set_option maxHeartbeats 4000000 in
set_option maxRecDepth 100000 in
theorem m_X5_hasCard (l : Launch) (D : va_G) (b : Nat) (cs : CS) (N : Nat) {μ : Mm} {a : Nat} {y1 : Int} {r : Int} (hka : kd a = 4) (h : fX5_hasCard N a y1 μ = some r) : MI l yX5_hasCard wsX5_hasCard rmX5_hasCard D b cs [jR b a, jI y1] μ μ r := by
  refine met_in (cc := cX5_hasCard) (maxL := 2) (ret := some .boolean) (lv0 := [(0, jR b a), (1, jI y1)]) (by decide +kernel) rfl (Nat.le_of_ble_eq_true rfl) rfl ?_
  intro p e s m args below meth c hx hb hr hlk hml hown hts hP hK ls hl
  have hown : s.vm.findClass RX5 = some m.cls := hown
  have hS : va_S (bA b) s.heap s.heap [] := va_S.rf
  have hinX5 : ∀ w ∈ u_ws RX5 TX5 9, w ∈ wsX5_hasCard := by decide +kernel
  unfold fX5_hasCard at h
  refine j_iload_n hx hb dX5_hasCard_0 rfl (lv_at hl 1 rfl) ?_
  refine j_if_lt (A := wr y1) (tgt := 16) hx hb rfl dX5_hasCard_1 (by decide) (fun q1 => ?_) (fun q1 => ?_)
  · replace h := (if_pos q1).symm.trans h
    refine j_iconst hx hb dX5_hasCard_16 ?_
    exact j_retZ hx hb hK hP hS hr hlk (by decide) (Option.some.inj h) dX5_hasCard_17
  · replace h := (if_neg q1).symm.trans h
    refine j_iload_n hx hb dX5_hasCard_4 rfl (lv_at hl 1 rfl) ?_
    refine j_aload_n hx hb dX5_hasCard_5 rfl (lv_at hl 0 rfl) ?_
    refine j_get (v := jI (gI μ a 6)) hx hb hts hinX5 hown hK hP hka (by decide) rfl 6 (by decide) (hts (.fieldLink RX5 31 "CardBand$Threading" "cards" "I") (by decide +kernel)) rfl (by rw [jI_g]; rfl) dX5_hasCard_6 ?_
    refine j_icmp_ge (A := wr y1) (B := wr (gI μ a 6)) (tgt := 16) hx hb rfl rfl dX5_hasCard_9 (by decide) (fun q2 => ?_) (fun q2 => ?_)
    · replace h := (if_pos q2).symm.trans h
      refine j_iconst hx hb dX5_hasCard_16 ?_
      exact j_retZ hx hb hK hP hS hr hlk (by decide) (Option.some.inj h) dX5_hasCard_17
    · replace h := (if_neg q2).symm.trans h
      refine j_iconst hx hb dX5_hasCard_12 ?_
      refine j_goto (tgt := 17) hx hb dX5_hasCard_13 (by decide) ?_
      exact j_retZ hx hb hK hP hS hr hlk (by decide) (Option.some.inj h) dX5_hasCard_17
def fX5_hasCards (N : Nat) (a : Nat) (y1 : Int) (μ : Mm) : Option (Int) :=
    if wr y1 < 0 then (some 0) else (if wr (shlI 1 (gI μ a 6)) ≤ wr y1 then (some 0) else (some 1))
abbrev rmX5_hasCards : Room := { frames := 0, cells := 0, slots := 0, locals := 0 }
set_option maxHeartbeats 4000000 in
set_option maxRecDepth 100000 in
theorem m_X5_hasCards (l : Launch) (D : va_G) (b : Nat) (cs : CS) (N : Nat) {μ : Mm} {a : Nat} {y1 : Int} {r : Int} (hka : kd a = 4) (h : fX5_hasCards N a y1 μ = some r) : MI l yX5_hasCards wsX5_hasCards rmX5_hasCards D b cs [jR b a, jI y1] μ μ r := by
  refine met_in (cc := cX5_hasCards) (maxL := 2) (ret := some .boolean) (lv0 := [(0, jR b a), (1, jI y1)]) (by decide +kernel) rfl (Nat.le_of_ble_eq_true rfl) rfl ?_
  intro p e s m args below meth c hx hb hr hlk hml hown hts hP hK ls hl
  have hown : s.vm.findClass RX5 = some m.cls := hown
  have hS : va_S (bA b) s.heap s.heap [] := va_S.rf
  have hinX5 : ∀ w ∈ u_ws RX5 TX5 9, w ∈ wsX5_hasCards := by decide +kernel
  unfold fX5_hasCards at h
  refine j_iload_n hx hb dX5_hasCards_0 rfl (lv_at hl 1 rfl) ?_
  refine j_if_lt (A := wr y1) (tgt := 18) hx hb rfl dX5_hasCards_1 (by decide) (fun q1 => ?_) (fun q1 => ?_)
  · replace h := (if_pos q1).symm.trans h
    refine j_iconst hx hb dX5_hasCards_18 ?_
    exact j_retZ hx hb hK hP hS hr hlk (by decide) (Option.some.inj h) dX5_hasCards_19
  · replace h := (if_neg q1).symm.trans h
    refine j_iload_n hx hb dX5_hasCards_4 rfl (lv_at hl 1 rfl) ?_
    refine j_iconst hx hb dX5_hasCards_5 ?_
    refine j_aload_n hx hb dX5_hasCards_6 rfl (lv_at hl 0 rfl) ?_
    refine j_get (v := jI (gI μ a 6)) hx hb hts hinX5 hown hK hP hka (by decide) rfl 6 (by decide) (hts (.fieldLink RX5 31 "CardBand$Threading" "cards" "I") (by decide +kernel)) rfl (by rw [jI_g]; rfl) dX5_hasCards_7 ?_
    refine j_ishl hx hb dX5_hasCards_10 ?_
    refine j_icmp_ge (A := wr y1) (B := wr (shlI 1 (gI μ a 6))) (tgt := 18) hx hb rfl rfl dX5_hasCards_11 (by decide) (fun q2 => ?_) (fun q2 => ?_)
    · replace h := (if_pos q2).symm.trans h
      refine j_iconst hx hb dX5_hasCards_18 ?_
      exact j_retZ hx hb hK hP hS hr hlk (by decide) (Option.some.inj h) dX5_hasCards_19
    · replace h := (if_neg q2).symm.trans h
      refine j_iconst hx hb dX5_hasCards_14 ?_
      refine j_goto (tgt := 19) hx hb dX5_hasCards_15 (by decide) ?_
      exact j_retZ hx hb hK hP hS hr hlk (by decide) (Option.some.inj h) dX5_hasCards_19
def fX5_hasColour (N : Nat) (a : Nat) (y1 : Int) (μ : Mm) : Option (Int) :=
    if wr y1 < 0 then (some 0) else (if wr (gI μ a 5) ≤ wr y1 then (some 0) else (some 1))
abbrev rmX5_hasColour : Room := { frames := 0, cells := 0, slots := 0, locals := 0 }
set_option maxHeartbeats 4000000 in
set_option maxRecDepth 100000 in
theorem m_X5_hasColour (l : Launch) (D : va_G) (b : Nat) (cs : CS) (N : Nat) {μ : Mm} {a : Nat} {y1 : Int} {r : Int} (hka : kd a = 4) (h : fX5_hasColour N a y1 μ = some r) : MI l yX5_hasColour wsX5_hasColour rmX5_hasColour D b cs [jR b a, jI y1] μ μ r := by
  refine met_in (cc := cX5_hasColour) (maxL := 2) (ret := some .boolean) (lv0 := [(0, jR b a), (1, jI y1)]) (by decide +kernel) rfl (Nat.le_of_ble_eq_true rfl) rfl ?_
  intro p e s m args below meth c hx hb hr hlk hml hown hts hP hK ls hl
  have hown : s.vm.findClass RX5 = some m.cls := hown
  have hS : va_S (bA b) s.heap s.heap [] := va_S.rf
  have hinX5 : ∀ w ∈ u_ws RX5 TX5 9, w ∈ wsX5_hasColour := by decide +kernel
  unfold fX5_hasColour at h
  refine j_iload_n hx hb dX5_hasColour_0 rfl (lv_at hl 1 rfl) ?_
  refine j_if_lt (A := wr y1) (tgt := 16) hx hb rfl dX5_hasColour_1 (by decide) (fun q1 => ?_) (fun q1 => ?_)
  · replace h := (if_pos q1).symm.trans h
    refine j_iconst hx hb dX5_hasColour_16 ?_
    exact j_retZ hx hb hK hP hS hr hlk (by decide) (Option.some.inj h) dX5_hasColour_17
  · replace h := (if_neg q1).symm.trans h
    refine j_iload_n hx hb dX5_hasColour_4 rfl (lv_at hl 1 rfl) ?_
    refine j_aload_n hx hb dX5_hasColour_5 rfl (lv_at hl 0 rfl) ?_
    refine j_get (v := jI (gI μ a 5)) hx hb hts hinX5 hown hK hP hka (by decide) rfl 5 (by decide) (hts (.fieldLink RX5 27 "CardBand$Threading" "colours" "I") (by decide +kernel)) rfl (by rw [jI_g]; rfl) dX5_hasColour_6 ?_
    refine j_icmp_ge (A := wr y1) (B := wr (gI μ a 5)) (tgt := 16) hx hb rfl rfl dX5_hasColour_9 (by decide) (fun q2 => ?_) (fun q2 => ?_)
    · replace h := (if_pos q2).symm.trans h
      refine j_iconst hx hb dX5_hasColour_16 ?_
      exact j_retZ hx hb hK hP hS hr hlk (by decide) (Option.some.inj h) dX5_hasColour_17
    · replace h := (if_neg q2).symm.trans h
      refine j_iconst hx hb dX5_hasColour_12 ?_
      refine j_goto (tgt := 17) hx hb dX5_hasColour_13 (by decide) ?_
      exact j_retZ hx hb hK hP hS hr hlk (by decide) (Option.some.inj h) dX5_hasColour_17
def fX5_hasPack (N : Nat) (a : Nat) (y1 : Int) (μ : Mm) : Option (Int) :=
    if wr y1 < 0 then (some 0) else (if wr (gI μ a 7) ≤ wr y1 then (some 0) else (some 1))
abbrev rmX5_hasPack : Room := { frames := 0, cells := 0, slots := 0, locals := 0 }
set_option maxHeartbeats 4000000 in
set_option maxRecDepth 100000 in
theorem m_X5_hasPack (l : Launch) (D : va_G) (b : Nat) (cs : CS) (N : Nat) {μ : Mm} {a : Nat} {y1 : Int} {r : Int} (hka : kd a = 4) (h : fX5_hasPack N a y1 μ = some r) : MI l yX5_hasPack wsX5_hasPack rmX5_hasPack D b cs [jR b a, jI y1] μ μ r := by
  refine met_in (cc := cX5_hasPack) (maxL := 2) (ret := some .boolean) (lv0 := [(0, jR b a), (1, jI y1)]) (by decide +kernel) rfl (Nat.le_of_ble_eq_true rfl) rfl ?_
  intro p e s m args below meth c hx hb hr hlk hml hown hts hP hK ls hl
  have hown : s.vm.findClass RX5 = some m.cls := hown
  have hS : va_S (bA b) s.heap s.heap [] := va_S.rf
  have hinX5 : ∀ w ∈ u_ws RX5 TX5 9, w ∈ wsX5_hasPack := by decide +kernel
  unfold fX5_hasPack at h
  refine j_iload_n hx hb dX5_hasPack_0 rfl (lv_at hl 1 rfl) ?_
  refine j_if_lt (A := wr y1) (tgt := 16) hx hb rfl dX5_hasPack_1 (by decide) (fun q1 => ?_) (fun q1 => ?_)
  · replace h := (if_pos q1).symm.trans h
    refine j_iconst hx hb dX5_hasPack_16 ?_
    exact j_retZ hx hb hK hP hS hr hlk (by decide) (Option.some.inj h) dX5_hasPack_17
  · replace h := (if_neg q1).symm.trans h
    refine j_iload_n hx hb dX5_hasPack_4 rfl (lv_at hl 1 rfl) ?_
    refine j_aload_n hx hb dX5_hasPack_5 rfl (lv_at hl 0 rfl) ?_
    refine j_get (v := jI (gI μ a 7)) hx hb hts hinX5 hown hK hP hka (by decide) rfl 7 (by decide) (hts (.fieldLink RX5 34 "CardBand$Threading" "packs" "I") (by decide +kernel)) rfl (by rw [jI_g]; rfl) dX5_hasPack_6 ?_
    refine j_icmp_ge (A := wr y1) (B := wr (gI μ a 7)) (tgt := 16) hx hb rfl rfl dX5_hasPack_9 (by decide) (fun q2 => ?_) (fun q2 => ?_)
    · replace h := (if_pos q2).symm.trans h
      refine j_iconst hx hb dX5_hasPack_16 ?_
      exact j_retZ hx hb hK hP hS hr hlk (by decide) (Option.some.inj h) dX5_hasPack_17
    · replace h := (if_neg q2).symm.trans h
      refine j_iconst hx hb dX5_hasPack_12 ?_
      refine j_goto (tgt := 17) hx hb dX5_hasPack_13 (by decide) ?_
      exact j_retZ hx hb hK hP hS hr hlk (by decide) (Option.some.inj h) dX5_hasPack_17
def fX5_isInPack (N : Nat) (a : Nat) (y1 : Int) (y2 : Int) (μ : Mm) : Option (Int) :=
    Option.bind (ldA μ (a + 3) 8 (andI y1 7)) (fun v1 => if wr v1 = wr y2 then (some 1) else (some 0))
abbrev rmX5_isInPack : Room := { frames := 0, cells := 0, slots := 0, locals := 0 }
set_option maxHeartbeats 4000000 in
set_option maxRecDepth 100000 in
theorem m_X5_isInPack (l : Launch) (D : va_G) (b : Nat) (cs : CS) (N : Nat) {μ : Mm} {a : Nat} {y1 y2 : Int} {r : Int} (hka : kd a = 4) (h : fX5_isInPack N a y1 y2 μ = some r) : MI l yX5_isInPack wsX5_isInPack rmX5_isInPack D b cs [jR b a, jI y1, jI y2] μ μ r := by
  refine met_in (cc := cX5_isInPack) (maxL := 3) (ret := some .boolean) (lv0 := [(0, jR b a), (1, jI y1), (2, jI y2)]) (by decide +kernel) rfl (Nat.le_of_ble_eq_true rfl) rfl ?_
  intro p e s m args below meth c hx hb hr hlk hml hown hts hP hK ls hl
  have hown : s.vm.findClass RX5 = some m.cls := hown
  have hS : va_S (bA b) s.heap s.heap [] := va_S.rf
  have hinX5 : ∀ w ∈ u_ws RX5 TX5 9, w ∈ wsX5_isInPack := by decide +kernel
  unfold fX5_isInPack at h
  refine j_aload_n hx hb dX5_isInPack_0 rfl (lv_at hl 0 rfl) ?_
  refine j_get (v := jR b (a + 3)) hx hb hts hinX5 hown hK hP hka (by decide) rfl 2 (by decide) (hts (.fieldLink RX5 18 "CardBand$Threading" "packOf" "[I") (by decide +kernel)) rfl rfl dX5_isInPack_1 ?_
  refine j_iload_n hx hb dX5_isInPack_4 rfl (lv_at hl 1 rfl) ?_
  refine j_bipush hx hb dX5_isInPack_5 (by decide) ?_
  refine j_iand hx hb dX5_isInPack_7 ?_
  obtain ⟨v1, e2, h⟩ := ob_I h
  refine j_iaload hx hb hK hP (kX5_3 hka) e2 dX5_isInPack_8 ?_
  refine j_iload_n hx hb dX5_isInPack_9 rfl (lv_at hl 2 rfl) ?_
  refine j_icmp_ne (A := wr v1) (B := wr y2) (tgt := 17) hx hb rfl rfl dX5_isInPack_10 (by decide) (fun q3 => ?_) (fun q3 => ?_)
  · replace h := (if_neg q3).symm.trans h
    refine j_iconst hx hb dX5_isInPack_17 ?_
    exact j_retZ hx hb hK hP hS hr hlk (by decide) (Option.some.inj h) dX5_isInPack_18
  · replace h := (if_pos q3).symm.trans h
    refine j_iconst hx hb dX5_isInPack_13 ?_
    refine j_goto (tgt := 18) hx hb dX5_isInPack_14 (by decide) ?_
    exact j_retZ hx hb hK hP hS hr hlk (by decide) (Option.some.inj h) dX5_isInPack_18
def fX5_isMade (N : Nat) (a : Nat) (μ : Mm) : Option (Int) :=
    if wr (gI μ a 5) ≤ 0 then (some 0) else (some 1)
abbrev rmX5_isMade : Room := { frames := 0, cells := 0, slots := 0, locals := 0 }
set_option maxHeartbeats 4000000 in
set_option maxRecDepth 100000 in
theorem m_X5_isMade (l : Launch) (D : va_G) (b : Nat) (cs : CS) (N : Nat) {μ : Mm} {a : Nat} {r : Int} (hka : kd a = 4) (h : fX5_isMade N a μ = some r) : MI l yX5_isMade wsX5_isMade rmX5_isMade D b cs [jR b a] μ μ r := by
  refine met_in (cc := cX5_isMade) (maxL := 1) (ret := some .boolean) (lv0 := [(0, jR b a)]) (by decide +kernel) rfl (Nat.le_of_ble_eq_true rfl) rfl ?_
  intro p e s m args below meth c hx hb hr hlk hml hown hts hP hK ls hl
  have hown : s.vm.findClass RX5 = some m.cls := hown
  have hS : va_S (bA b) s.heap s.heap [] := va_S.rf
  have hinX5 : ∀ w ∈ u_ws RX5 TX5 9, w ∈ wsX5_isMade := by decide +kernel
  unfold fX5_isMade at h
  refine j_aload_n hx hb dX5_isMade_0 rfl (lv_at hl 0 rfl) ?_
  refine j_get (v := jI (gI μ a 5)) hx hb hts hinX5 hown hK hP hka (by decide) rfl 5 (by decide) (hts (.fieldLink RX5 27 "CardBand$Threading" "colours" "I") (by decide +kernel)) rfl (by rw [jI_g]; rfl) dX5_isMade_1 ?_
  refine j_if_le (A := wr (gI μ a 5)) (tgt := 11) hx hb rfl dX5_isMade_4 (by decide) (fun q1 => ?_) (fun q1 => ?_)
  · replace h := (if_pos q1).symm.trans h
    refine j_iconst hx hb dX5_isMade_11 ?_
    exact j_retZ hx hb hK hP hS hr hlk (by decide) (Option.some.inj h) dX5_isMade_12
  · replace h := (if_neg q1).symm.trans h
    refine j_iconst hx hb dX5_isMade_7 ?_
    refine j_goto (tgt := 12) hx hb dX5_isMade_8 (by decide) ?_
    exact j_retZ hx hb hK hP hS hr hlk (by decide) (Option.some.inj h) dX5_isMade_12
def fX5_isSameAfter_l12 (N : Nat) (a : Nat) (y1 : Int) (μ : Mm) (x2_2 : Int) (rec2_1 : Int → Option (Int)) : Nat → Int → Option (Int)
  | 0, _ => none
  | n4 + 1, x3_5 =>
    if 4 ≤ wr x3_5 then (rec2_1 (x2_2 + 1)) else (Option.bind (fX5_colourAt N a x2_2 x3_5 μ) (fun v8 => Option.bind (fX5_colourAt N a x2_2 (x3_5 + y1) μ) (fun v10 => if wr v8 = wr v10 then ((fX5_isSameAfter_l12 N a y1 μ x2_2 rec2_1 n4) (x3_5 + 1)) else (some 0))))
def fX5_isSameAfter_l2 (N : Nat) (a : Nat) (y1 : Int) (μ : Mm) : Nat → Int → Option (Int)
  | 0, _ => none
  | n1 + 1, x2_2 =>
    if wr (gI μ a 6) ≤ wr x2_2 then (some 1) else (fX5_isSameAfter_l12 N a y1 μ x2_2 (fX5_isSameAfter_l2 N a y1 μ n1) N 0)
def fX5_isSameAfter (N : Nat) (a : Nat) (y1 : Int) (μ : Mm) : Option (Int) :=
    fX5_isSameAfter_l2 N a y1 μ N 0
abbrev rmX5_isSameAfter : Room := { frames := 2, cells := 0, slots := 0, locals := 43 }
set_option maxHeartbeats 4000000 in
set_option maxRecDepth 100000 in
theorem m_X5_isSameAfter (l : Launch) (D : va_G) (b : Nat) (cs : CS) (N : Nat) {μ : Mm} {a : Nat} {y1 : Int} {r : Int} (hka : kd a = 4) (h : fX5_isSameAfter N a y1 μ = some r) : MI l yX5_isSameAfter wsX5_isSameAfter rmX5_isSameAfter D b cs [jR b a, jI y1] μ μ r := by
  refine met_in (cc := cX5_isSameAfter) (maxL := 4) (ret := some .boolean) (lv0 := [(0, jR b a), (1, jI y1)]) (by decide +kernel) rfl (Nat.le_of_ble_eq_true rfl) rfl ?_
  intro p e s m args below meth c hx hb hr hlk hml hown hts hP hK ls hl
  have hown : s.vm.findClass RX5 = some m.cls := hown
  have hS : va_S (bA b) s.heap s.heap [] := va_S.rf
  have hinX5 : ∀ w ∈ u_ws RX5 TX5 9, w ∈ wsX5_isSameAfter := by decide +kernel
  unfold fX5_isSameAfter at h
  refine j_iconst hx hb dX5_isSameAfter_0 ?_
  refine j_istore_n (lv2 := [(2, jI 0), (0, jR b a), (1, jI y1)]) hx hb dX5_isSameAfter_1 rfl hl (by decide) rfl (fun ls hl => ?_)
  have hl2_1 : ∀ (n0 : Nat) (x2_2 : Int) (H : Heap) (locs : List Loc) (ls : Array Slot), va_P D vwCl (wl b cs μ) H → va_S (bA b) s.heap H locs → lv_has ls 4 [(0, jR b a), (1, jI y1), (2, jI x2_2)] → fX5_isSameAfter_l2 N a y1 μ n0 x2_2 = some r → W p l e rmX5_isSameAfter s m args below meth c H locs 0 0 (MQ below (QI D b cs μ r) args s 0 0 (bA b)) (F0 m 2 ls []) := by
    intro n0
    induction n0 with
    | zero => intro x2_2 H locs ls hP hS hl h; rw [fX5_isSameAfter_l2] at h; cases h
    | succ n1 ih2_1 =>
      intro x2_2 H locs ls hP hS hl h
      rw [fX5_isSameAfter_l2] at h
      refine j_iload_n hx hb dX5_isSameAfter_2 rfl (lv_at hl 2 rfl) ?_
      refine j_aload_n hx hb dX5_isSameAfter_3 rfl (lv_at hl 0 rfl) ?_
      refine j_get (v := jI (gI μ a 6)) hx hb hts hinX5 hown hK hP hka (by decide) rfl 6 (by decide) (hts (.fieldLink RX5 31 "CardBand$Threading" "cards" "I") (by decide +kernel)) rfl (by rw [jI_g]; rfl) dX5_isSameAfter_4 ?_
      refine j_icmp_ge (A := wr x2_2) (B := wr (gI μ a 6)) (tgt := 48) hx hb rfl rfl dX5_isSameAfter_7 (by decide) (fun q3 => ?_) (fun q3 => ?_)
      · replace h := (if_pos q3).symm.trans h
        refine j_iconst hx hb dX5_isSameAfter_48 ?_
        exact j_retZ hx hb hK hP hS hr hlk (by decide) (Option.some.inj h) dX5_isSameAfter_49
      · replace h := (if_neg q3).symm.trans h
        refine j_iconst hx hb dX5_isSameAfter_10 ?_
        refine j_istore_n (lv2 := [(3, jI 0), (0, jR b a), (1, jI y1), (2, jI x2_2)]) hx hb dX5_isSameAfter_11 rfl hl (by decide) rfl (fun ls hl => ?_)
        have hl12_4 : ∀ (n0 : Nat) (x3_5 : Int) (H : Heap) (locs : List Loc) (ls : Array Slot), va_P D vwCl (wl b cs μ) H → va_S (bA b) s.heap H locs → lv_has ls 4 [(0, jR b a), (1, jI y1), (2, jI x2_2), (3, jI x3_5)] → fX5_isSameAfter_l12 N a y1 μ x2_2 (fX5_isSameAfter_l2 N a y1 μ n1) n0 x3_5 = some r → W p l e rmX5_isSameAfter s m args below meth c H locs 0 0 (MQ below (QI D b cs μ r) args s 0 0 (bA b)) (F0 m 12 ls []) := by
          intro n0
          induction n0 with
          | zero => intro x3_5 H locs ls hP hS hl h; rw [fX5_isSameAfter_l12] at h; cases h
          | succ n4 ih12_4 =>
            intro x3_5 H locs ls hP hS hl h
            rw [fX5_isSameAfter_l12] at h
            refine j_iload_n hx hb dX5_isSameAfter_12 rfl (lv_at hl 3 rfl) ?_
            refine j_iconst hx hb dX5_isSameAfter_13 ?_
            refine j_icmp_ge (A := wr x3_5) (B := 4) (tgt := 42) hx hb rfl (by decide) dX5_isSameAfter_14 (by decide) (fun q6 => ?_) (fun q6 => ?_)
            · replace h := (if_pos q6).symm.trans h
              refine j_iinc (k := 2) (lv2 := [(2, jI (x2_2 + 1)), (0, jR b a), (1, jI y1), (3, jI x3_5)]) hx hb dX5_isSameAfter_42 hl rfl (by decide) rfl (fun ls hl => ?_)
              refine j_goto (tgt := 2) hx hb dX5_isSameAfter_45 (by decide) ?_
              exact ih2_1 _ _ _ _ hP hS (lv_sub hl [1, 2, 0] rfl) h
            · replace h := (if_neg q6).symm.trans h
              refine j_aload_n hx hb dX5_isSameAfter_17 rfl (lv_at hl 0 rfl) ?_
              refine j_iload_n hx hb dX5_isSameAfter_18 rfl (lv_at hl 2 rfl) ?_
              refine j_iload_n hx hb dX5_isSameAfter_19 rfl (lv_at hl 3 rfl) ?_
              obtain ⟨v8, e7, h⟩ := ob_I h
              refine jc_VI (As := [jI x2_2, jI x3_5]) (rest := []) ⟨hx, hb, hml, hown, hts⟩ hK hP hS (m_X5_colourAt l D b cs N hka e7) (cwV 2 hts gX5_isSameAfter_X5_colourAt rfl rfl rfl (by decide +kernel) ⟨Nat.le_of_ble_eq_true rfl, Nat.le_of_ble_eq_true rfl⟩) hka (by decide) rfl rfl hl.1 rfl (Nat.le_of_ble_eq_true rfl) dX5_isSameAfter_20 ⟨Nat.zero_le _, Nat.zero_le _⟩ (fun H locs hP hS => ?_)
              refine j_aload_n hx hb dX5_isSameAfter_23 rfl (lv_at hl 0 rfl) ?_
              refine j_iload_n hx hb dX5_isSameAfter_24 rfl (lv_at hl 2 rfl) ?_
              refine j_iload_n hx hb dX5_isSameAfter_25 rfl (lv_at hl 3 rfl) ?_
              refine j_iload_n hx hb dX5_isSameAfter_26 rfl (lv_at hl 1 rfl) ?_
              refine j_iadd hx hb dX5_isSameAfter_27 ?_
              obtain ⟨v10, e9, h⟩ := ob_I h
              refine jc_VI (As := [jI x2_2, jI (x3_5 + y1)]) (rest := [jI v8]) ⟨hx, hb, hml, hown, hts⟩ hK hP hS (m_X5_colourAt l D b cs N hka e9) (cwV 2 hts gX5_isSameAfter_X5_colourAt rfl rfl rfl (by decide +kernel) ⟨Nat.le_of_ble_eq_true rfl, Nat.le_of_ble_eq_true rfl⟩) hka (by decide) rfl rfl hl.1 rfl (Nat.le_of_ble_eq_true rfl) dX5_isSameAfter_28 ⟨Nat.zero_le _, Nat.zero_le _⟩ (fun H locs hP hS => ?_)
              refine j_icmp_eq (A := wr v8) (B := wr v10) (tgt := 36) hx hb rfl rfl dX5_isSameAfter_31 (by decide) (fun q11 => ?_) (fun q11 => ?_)
              · replace h := (if_pos q11).symm.trans h
                refine j_iinc (k := 3) (lv2 := [(3, jI (x3_5 + 1)), (0, jR b a), (1, jI y1), (2, jI x2_2)]) hx hb dX5_isSameAfter_36 hl rfl (by decide) rfl (fun ls hl => ?_)
                refine j_goto (tgt := 12) hx hb dX5_isSameAfter_39 (by decide) ?_
                exact ih12_4 _ _ _ _ hP hS (lv_sub hl [1, 2, 3, 0] rfl) h
              · replace h := (if_neg q11).symm.trans h
                refine j_iconst hx hb dX5_isSameAfter_34 ?_
                exact j_retZ hx hb hK hP hS hr hlk (by decide) (Option.some.inj h) dX5_isSameAfter_35
        exact hl12_4 N _ _ _ _ hP hS (lv_sub hl [1, 2, 3, 0] rfl) h
  exact hl2_1 N _ _ _ _ hP hS (lv_sub hl [1, 2, 0] rfl) h
def fX5_moveOf_l23 (N : Nat) (v1 : Int) : Nat → Int → Int → Option (Int)
  | 0, _, _ => none
  | n4 + 1, x4_5, x5_6 =>
    if wr v1 ≤ wr x5_6 then (some (rmI x4_5 3)) else ((fX5_moveOf_l23 N v1 n4) (dvI x4_5 3) (x5_6 + 1))
def fX5_moveOf (N : Nat) (a : Nat) (y1 : Int) (y2 : Int) (μ : Mm) : Option (Int) :=
    Option.bind (ldA μ (a + 3) 8 (andI y1 7)) (fun v1 => if wr v1 = (-1) then (some 0) else (fX5_moveOf_l23 N v1 N y2 0))
abbrev rmX5_moveOf : Room := { frames := 0, cells := 0, slots := 0, locals := 0 }
set_option maxHeartbeats 4000000 in
set_option maxRecDepth 100000 in
theorem m_X5_moveOf (l : Launch) (D : va_G) (b : Nat) (cs : CS) (N : Nat) {μ : Mm} {a : Nat} {y1 y2 : Int} {r : Int} (hka : kd a = 4) (h : fX5_moveOf N a y1 y2 μ = some r) : MI l yX5_moveOf wsX5_moveOf rmX5_moveOf D b cs [jR b a, jI y1, jI y2] μ μ r := by
  refine met_in (cc := cX5_moveOf) (maxL := 6) (ret := some .int) (lv0 := [(0, jR b a), (1, jI y1), (2, jI y2)]) (by decide +kernel) rfl (Nat.le_of_ble_eq_true rfl) rfl ?_
  intro p e s m args below meth c hx hb hr hlk hml hown hts hP hK ls hl
  have hown : s.vm.findClass RX5 = some m.cls := hown
  have hS : va_S (bA b) s.heap s.heap [] := va_S.rf
  have hinX5 : ∀ w ∈ u_ws RX5 TX5 9, w ∈ wsX5_moveOf := by decide +kernel
  unfold fX5_moveOf at h
  refine j_aload_n hx hb dX5_moveOf_0 rfl (lv_at hl 0 rfl) ?_
  refine j_get (v := jR b (a + 3)) hx hb hts hinX5 hown hK hP hka (by decide) rfl 2 (by decide) (hts (.fieldLink RX5 18 "CardBand$Threading" "packOf" "[I") (by decide +kernel)) rfl rfl dX5_moveOf_1 ?_
  refine j_iload_n hx hb dX5_moveOf_4 rfl (lv_at hl 1 rfl) ?_
  refine j_bipush hx hb dX5_moveOf_5 (by decide) ?_
  refine j_iand hx hb dX5_moveOf_7 ?_
  obtain ⟨v1, e2, h⟩ := ob_I h
  refine j_iaload hx hb hK hP (kX5_3 hka) e2 dX5_moveOf_8 ?_
  refine j_istore_n (lv2 := [(3, jI v1), (0, jR b a), (1, jI y1), (2, jI y2)]) hx hb dX5_moveOf_9 rfl hl (by decide) rfl (fun ls hl => ?_)
  refine j_iload_n hx hb dX5_moveOf_10 rfl (lv_at hl 0 rfl) ?_
  refine j_iconst hx hb dX5_moveOf_11 ?_
  refine j_icmp_ne (A := wr v1) (B := (-1)) (tgt := 17) hx hb rfl (by decide) dX5_moveOf_12 (by decide) (fun q3 => ?_) (fun q3 => ?_)
  · replace h := (if_neg q3).symm.trans h
    refine j_iload_n hx hb dX5_moveOf_17 rfl (lv_at hl 3 rfl) ?_
    refine j_istore (lv2 := [(4, jI y2), (3, jI v1), (0, jR b a), (1, jI y1), (2, jI y2)]) hx hb dX5_moveOf_18 hl (by decide) rfl (fun ls hl => ?_)
    refine j_iconst hx hb dX5_moveOf_20 ?_
    refine j_istore (lv2 := [(5, jI 0), (4, jI y2), (3, jI v1), (0, jR b a), (1, jI y1), (2, jI y2)]) hx hb dX5_moveOf_21 hl (by decide) rfl (fun ls hl => ?_)
    have hl23_4 : ∀ (n0 : Nat) (x4_5 : Int) (x5_6 : Int) (H : Heap) (locs : List Loc) (ls : Array Slot), va_P D vwCl (wl b cs μ) H → va_S (bA b) s.heap H locs → lv_has ls 6 [(3, jI v1), (4, jI x4_5), (5, jI x5_6)] → fX5_moveOf_l23 N v1 n0 x4_5 x5_6 = some r → W p l e rmX5_moveOf s m args below meth c H locs 0 0 (MQ below (QI D b cs μ r) args s 0 0 (bA b)) (F0 m 23 ls []) := by
      intro n0
      induction n0 with
      | zero => intro x4_5 x5_6 H locs ls hP hS hl h; rw [fX5_moveOf_l23] at h; cases h
      | succ n4 ih23_4 =>
        intro x4_5 x5_6 H locs ls hP hS hl h
        rw [fX5_moveOf_l23] at h
        refine j_iload hx hb dX5_moveOf_23 (lv_at hl 2 rfl) ?_
        refine j_iload_n hx hb dX5_moveOf_25 rfl (lv_at hl 0 rfl) ?_
        refine j_icmp_ge (A := wr x5_6) (B := wr v1) (tgt := 41) hx hb rfl rfl dX5_moveOf_26 (by decide) (fun q7 => ?_) (fun q7 => ?_)
        · replace h := (if_pos q7).symm.trans h
          refine j_iload hx hb dX5_moveOf_41 (lv_at hl 1 rfl) ?_
          refine j_iconst hx hb dX5_moveOf_43 ?_
          refine j_irem hx hb dX5_moveOf_44 (by decide) ?_
          exact j_retI hx hb hK hP hS hr hlk (Option.some.inj h) dX5_moveOf_45
        · replace h := (if_neg q7).symm.trans h
          refine j_iload hx hb dX5_moveOf_29 (lv_at hl 1 rfl) ?_
          refine j_iconst hx hb dX5_moveOf_31 ?_
          refine j_idiv hx hb dX5_moveOf_32 (by decide) ?_
          refine j_istore (lv2 := [(4, jI (dvI x4_5 3)), (3, jI v1), (5, jI x5_6)]) hx hb dX5_moveOf_33 hl (by decide) rfl (fun ls hl => ?_)
          refine j_iinc (k := 2) (lv2 := [(5, jI (x5_6 + 1)), (4, jI (dvI x4_5 3)), (3, jI v1)]) hx hb dX5_moveOf_35 hl rfl (by decide) rfl (fun ls hl => ?_)
          refine j_goto (tgt := 23) hx hb dX5_moveOf_38 (by decide) ?_
          exact ih23_4 _ _ _ _ _ hP hS (lv_sub hl [2, 1, 0] rfl) h
    exact hl23_4 N _ _ _ _ _ hP hS (lv_sub hl [2, 1, 0] rfl) h
  · replace h := (if_pos q3).symm.trans h
    refine j_iconst hx hb dX5_moveOf_15 ?_
    exact j_retI hx hb hK hP hS hr hlk (Option.some.inj h) dX5_moveOf_16
def fX5_takesMoves_k22 (N : Nat) (y1 : Int) : Int → Option (Int) := fun x2_2 =>
    if wr y1 < 0 then (some 0) else (if wr x2_2 ≤ wr y1 then (some 0) else (some 1))
def fX5_takesMoves_l4 (N : Nat) (a : Nat) (y1 : Int) (μ : Mm) : Nat → Int → Int → Option (Int)
  | 0, _, _ => none
  | n5 + 1, x2_6, x3_7 =>
    if wr (gI μ a 7) ≤ wr x3_7 then (fX5_takesMoves_k22 N y1 x2_6) else ((fX5_takesMoves_l4 N a y1 μ n5) (x2_6 * 3) (x3_7 + 1))
def fX5_takesMoves (N : Nat) (a : Nat) (y1 : Int) (μ : Mm) : Option (Int) :=
    fX5_takesMoves_l4 N a y1 μ N 1 0
abbrev rmX5_takesMoves : Room := { frames := 0, cells := 0, slots := 0, locals := 0 }
set_option maxHeartbeats 4000000 in
set_option maxRecDepth 100000 in
theorem m_X5_takesMoves (l : Launch) (D : va_G) (b : Nat) (cs : CS) (N : Nat) {μ : Mm} {a : Nat} {y1 : Int} {r : Int} (hka : kd a = 4) (h : fX5_takesMoves N a y1 μ = some r) : MI l yX5_takesMoves wsX5_takesMoves rmX5_takesMoves D b cs [jR b a, jI y1] μ μ r := by
  refine met_in (cc := cX5_takesMoves) (maxL := 4) (ret := some .boolean) (lv0 := [(0, jR b a), (1, jI y1)]) (by decide +kernel) rfl (Nat.le_of_ble_eq_true rfl) rfl ?_
  intro p e s m args below meth c hx hb hr hlk hml hown hts hP hK ls hl
  have hown : s.vm.findClass RX5 = some m.cls := hown
  have hS : va_S (bA b) s.heap s.heap [] := va_S.rf
  have hinX5 : ∀ w ∈ u_ws RX5 TX5 9, w ∈ wsX5_takesMoves := by decide +kernel
  unfold fX5_takesMoves at h
  refine j_iconst hx hb dX5_takesMoves_0 ?_
  refine j_istore_n (lv2 := [(2, jI 1), (0, jR b a), (1, jI y1)]) hx hb dX5_takesMoves_1 rfl hl (by decide) rfl (fun ls hl => ?_)
  refine j_iconst hx hb dX5_takesMoves_2 ?_
  refine j_istore_n (lv2 := [(3, jI 0), (2, jI 1), (0, jR b a), (1, jI y1)]) hx hb dX5_takesMoves_3 rfl hl (by decide) rfl (fun ls hl => ?_)
  have hk22_1 : ∀ (x2_2 : Int) (H : Heap) (locs : List Loc) (ls : Array Slot), va_P D vwCl (wl b cs μ) H → va_S (bA b) s.heap H locs → lv_has ls 4 [(1, jI y1), (2, jI x2_2)] → fX5_takesMoves_k22 N y1 x2_2 = some r → W p l e rmX5_takesMoves s m args below meth c H locs 0 0 (MQ below (QI D b cs μ r) args s 0 0 (bA b)) (F0 m 22 ls []) := by
    intro x2_2 H locs ls hP hS hl h
    unfold fX5_takesMoves_k22 at h
    refine j_iload_n hx hb dX5_takesMoves_22 rfl (lv_at hl 0 rfl) ?_
    refine j_if_lt (A := wr y1) (tgt := 35) hx hb rfl dX5_takesMoves_23 (by decide) (fun q3 => ?_) (fun q3 => ?_)
    · replace h := (if_pos q3).symm.trans h
      refine j_iconst hx hb dX5_takesMoves_35 ?_
      exact j_retZ hx hb hK hP hS hr hlk (by decide) (Option.some.inj h) dX5_takesMoves_36
    · replace h := (if_neg q3).symm.trans h
      refine j_iload_n hx hb dX5_takesMoves_26 rfl (lv_at hl 0 rfl) ?_
      refine j_iload_n hx hb dX5_takesMoves_27 rfl (lv_at hl 1 rfl) ?_
      refine j_icmp_ge (A := wr y1) (B := wr x2_2) (tgt := 35) hx hb rfl rfl dX5_takesMoves_28 (by decide) (fun q4 => ?_) (fun q4 => ?_)
      · replace h := (if_pos q4).symm.trans h
        refine j_iconst hx hb dX5_takesMoves_35 ?_
        exact j_retZ hx hb hK hP hS hr hlk (by decide) (Option.some.inj h) dX5_takesMoves_36
      · replace h := (if_neg q4).symm.trans h
        refine j_iconst hx hb dX5_takesMoves_31 ?_
        refine j_goto (tgt := 36) hx hb dX5_takesMoves_32 (by decide) ?_
        exact j_retZ hx hb hK hP hS hr hlk (by decide) (Option.some.inj h) dX5_takesMoves_36
  have hl4_5 : ∀ (n0 : Nat) (x2_6 : Int) (x3_7 : Int) (H : Heap) (locs : List Loc) (ls : Array Slot), va_P D vwCl (wl b cs μ) H → va_S (bA b) s.heap H locs → lv_has ls 4 [(0, jR b a), (1, jI y1), (2, jI x2_6), (3, jI x3_7)] → fX5_takesMoves_l4 N a y1 μ n0 x2_6 x3_7 = some r → W p l e rmX5_takesMoves s m args below meth c H locs 0 0 (MQ below (QI D b cs μ r) args s 0 0 (bA b)) (F0 m 4 ls []) := by
    intro n0
    induction n0 with
    | zero => intro x2_6 x3_7 H locs ls hP hS hl h; rw [fX5_takesMoves_l4] at h; cases h
    | succ n5 ih4_5 =>
      intro x2_6 x3_7 H locs ls hP hS hl h
      rw [fX5_takesMoves_l4] at h
      refine j_iload_n hx hb dX5_takesMoves_4 rfl (lv_at hl 3 rfl) ?_
      refine j_aload_n hx hb dX5_takesMoves_5 rfl (lv_at hl 0 rfl) ?_
      refine j_get (v := jI (gI μ a 7)) hx hb hts hinX5 hown hK hP hka (by decide) rfl 7 (by decide) (hts (.fieldLink RX5 34 "CardBand$Threading" "packs" "I") (by decide +kernel)) rfl (by rw [jI_g]; rfl) dX5_takesMoves_6 ?_
      refine j_icmp_ge (A := wr x3_7) (B := wr (gI μ a 7)) (tgt := 22) hx hb rfl rfl dX5_takesMoves_9 (by decide) (fun q8 => ?_) (fun q8 => ?_)
      · replace h := (if_pos q8).symm.trans h
        exact hk22_1 _ _ _ _ hP hS (lv_sub hl [1, 2] rfl) h
      · replace h := (if_neg q8).symm.trans h
        refine j_iload_n hx hb dX5_takesMoves_12 rfl (lv_at hl 2 rfl) ?_
        refine j_iconst hx hb dX5_takesMoves_13 ?_
        refine j_imul hx hb dX5_takesMoves_14 ?_
        refine j_istore_n (lv2 := [(2, jI (x2_6 * 3)), (0, jR b a), (1, jI y1), (3, jI x3_7)]) hx hb dX5_takesMoves_15 rfl hl (by decide) rfl (fun ls hl => ?_)
        refine j_iinc (k := 3) (lv2 := [(3, jI (x3_7 + 1)), (2, jI (x2_6 * 3)), (0, jR b a), (1, jI y1)]) hx hb dX5_takesMoves_16 hl rfl (by decide) rfl (fun ls hl => ?_)
        refine j_goto (tgt := 4) hx hb dX5_takesMoves_19 (by decide) ?_
        exact ih4_5 _ _ _ _ _ hP hS (lv_sub hl [2, 3, 1, 0] rfl) h
  exact hl4_5 N _ _ _ _ _ hP hS (lv_sub hl [2, 3, 1, 0] rfl) h
def fX6_showNow_l3 (N : Nat) (y0 : Nat) (y1 : Nat) (y2 : Int) (y3 : Int) (μ : Mm) : Nat → Int → Option (Int)
  | 0, _ => none
  | n1 + 1, x4_2 =>
    if wr (gI μ y1 6) ≤ wr x4_2 then (some 1) else (if 8 ≤ wr x4_2 then (some 1) else (if wr (andI (shrI y2 x4_2) 1) = 1 then (Option.bind (ldA μ (y0 + 4) 8 x4_2) (fun v6 => if wr v6 = wr y3 then ((fX6_showNow_l3 N y0 y1 y2 y3 μ n1) (x4_2 + 1)) else (some 0))) else ((fX6_showNow_l3 N y0 y1 y2 y3 μ n1) (x4_2 + 1))))
def fX6_showNow (N : Nat) (y0 : Nat) (y1 : Nat) (y2 : Int) (y3 : Int) (μ : Mm) : Option (Int) :=
    fX6_showNow_l3 N y0 y1 y2 y3 μ N 0
abbrev rmX6_showNow : Room := { frames := 0, cells := 0, slots := 0, locals := 0 }
set_option maxHeartbeats 4000000 in
set_option maxRecDepth 100000 in
theorem m_X6_showNow (l : Launch) (D : va_G) (b : Nat) (cs : CS) (N : Nat) {μ : Mm} {y0 y1 : Nat} {y2 y3 : Int} {r : Int} (hky0 : kd y0 = 5) (hky1 : kd y1 = 4) (h : fX6_showNow N y0 y1 y2 y3 μ = some r) : MI l yX6_showNow wsX6_showNow rmX6_showNow D b cs [jR b y0, jR b y1, jI y2, jI y3] μ μ r := by
  refine met_in (cc := cX6_showNow) (maxL := 5) (ret := some .boolean) (lv0 := [(0, jR b y0), (1, jR b y1), (2, jI y2), (3, jI y3)]) (by decide +kernel) rfl (Nat.le_of_ble_eq_true rfl) rfl ?_
  intro p e s m args below meth c hx hb hr hlk hml hown hts hP hK ls hl
  have hown : s.vm.findClass RX6 = some m.cls := hown
  have hS : va_S (bA b) s.heap s.heap [] := va_S.rf
  have hinX5 : ∀ w ∈ u_ws RX5 TX5 9, w ∈ wsX6_showNow := by decide +kernel
  have hinX7 : ∀ w ∈ u_ws RX7 TX7 9, w ∈ wsX6_showNow := by decide +kernel
  unfold fX6_showNow at h
  refine j_iconst hx hb dX6_showNow_0 ?_
  refine j_istore (lv2 := [(4, jI 0), (0, jR b y0), (1, jR b y1), (2, jI y2), (3, jI y3)]) hx hb dX6_showNow_1 hl (by decide) rfl (fun ls hl => ?_)
  have hl3_1 : ∀ (n0 : Nat) (x4_2 : Int) (H : Heap) (locs : List Loc) (ls : Array Slot), va_P D vwCl (wl b cs μ) H → va_S (bA b) s.heap H locs → lv_has ls 5 [(0, jR b y0), (1, jR b y1), (2, jI y2), (3, jI y3), (4, jI x4_2)] → fX6_showNow_l3 N y0 y1 y2 y3 μ n0 x4_2 = some r → W p l e rmX6_showNow s m args below meth c H locs 0 0 (MQ below (QI D b cs μ r) args s 0 0 (bA b)) (F0 m 3 ls []) := by
    intro n0
    induction n0 with
    | zero => intro x4_2 H locs ls hP hS hl h; rw [fX6_showNow_l3] at h; cases h
    | succ n1 ih3_1 =>
      intro x4_2 H locs ls hP hS hl h
      rw [fX6_showNow_l3] at h
      refine j_iload hx hb dX6_showNow_3 (lv_at hl 4 rfl) ?_
      refine j_aload_n hx hb dX6_showNow_5 rfl (lv_at hl 1 rfl) ?_
      refine j_get (v := jI (gI μ y1 6)) hx hb hts hinX5 hown hK hP hky1 (by decide) rfl 6 (by decide) (hts (.fieldLink RX6 9 "CardBand$Threading" "cards" "I") (by decide +kernel)) rfl (by rw [jI_g]; rfl) dX6_showNow_6 ?_
      refine j_icmp_ge (A := wr x4_2) (B := wr (gI μ y1 6)) (tgt := 48) hx hb rfl rfl dX6_showNow_9 (by decide) (fun q3 => ?_) (fun q3 => ?_)
      · replace h := (if_pos q3).symm.trans h
        refine j_iconst hx hb dX6_showNow_48 ?_
        exact j_retZ hx hb hK hP hS hr hlk (by decide) (Option.some.inj h) dX6_showNow_49
      · replace h := (if_neg q3).symm.trans h
        refine j_iload hx hb dX6_showNow_12 (lv_at hl 4 rfl) ?_
        refine j_bipush hx hb dX6_showNow_14 (by decide) ?_
        refine j_icmp_ge (A := wr x4_2) (B := 8) (tgt := 48) hx hb rfl (by decide) dX6_showNow_16 (by decide) (fun q4 => ?_) (fun q4 => ?_)
        · replace h := (if_pos q4).symm.trans h
          refine j_iconst hx hb dX6_showNow_48 ?_
          exact j_retZ hx hb hK hP hS hr hlk (by decide) (Option.some.inj h) dX6_showNow_49
        · replace h := (if_neg q4).symm.trans h
          refine j_iload_n hx hb dX6_showNow_19 rfl (lv_at hl 2 rfl) ?_
          refine j_iload hx hb dX6_showNow_20 (lv_at hl 4 rfl) ?_
          refine j_ishr hx hb dX6_showNow_22 ?_
          refine j_iconst hx hb dX6_showNow_23 ?_
          refine j_iand hx hb dX6_showNow_24 ?_
          refine j_iconst hx hb dX6_showNow_25 ?_
          refine j_icmp_ne (A := wr (andI (shrI y2 x4_2) 1)) (B := 1) (tgt := 42) hx hb rfl (by decide) dX6_showNow_26 (by decide) (fun q5 => ?_) (fun q5 => ?_)
          · replace h := (if_neg q5).symm.trans h
            refine j_iinc (k := 4) (lv2 := [(4, jI (x4_2 + 1)), (0, jR b y0), (1, jR b y1), (2, jI y2), (3, jI y3)]) hx hb dX6_showNow_42 hl rfl (by decide) rfl (fun ls hl => ?_)
            refine j_goto (tgt := 3) hx hb dX6_showNow_45 (by decide) ?_
            exact ih3_1 _ _ _ _ hP hS (lv_sub hl [1, 2, 3, 4, 0] rfl) h
          · replace h := (if_pos q5).symm.trans h
            refine j_aload_n hx hb dX6_showNow_29 rfl (lv_at hl 0 rfl) ?_
            refine j_get (v := jR b (y0 + 4)) hx hb hts hinX7 hown hK hP hky0 (by decide) rfl 3 (by decide) (hts (.fieldLink RX6 78 "CardBand$Weave" "shows" "[I") (by decide +kernel)) rfl rfl dX6_showNow_30 ?_
            refine j_iload hx hb dX6_showNow_33 (lv_at hl 4 rfl) ?_
            obtain ⟨v6, e7, h⟩ := ob_I h
            refine j_iaload hx hb hK hP (kX7_4 hky0) e7 dX6_showNow_35 ?_
            refine j_iload_n hx hb dX6_showNow_36 rfl (lv_at hl 3 rfl) ?_
            refine j_icmp_eq (A := wr v6) (B := wr y3) (tgt := 42) hx hb rfl rfl dX6_showNow_37 (by decide) (fun q8 => ?_) (fun q8 => ?_)
            · replace h := (if_pos q8).symm.trans h
              refine j_iinc (k := 4) (lv2 := [(4, jI (x4_2 + 1)), (0, jR b y0), (1, jR b y1), (2, jI y2), (3, jI y3)]) hx hb dX6_showNow_42 hl rfl (by decide) rfl (fun ls hl => ?_)
              refine j_goto (tgt := 3) hx hb dX6_showNow_45 (by decide) ?_
              exact ih3_1 _ _ _ _ hP hS (lv_sub hl [1, 2, 3, 4, 0] rfl) h
            · replace h := (if_neg q8).symm.trans h
              refine j_iconst hx hb dX6_showNow_40 ?_
              exact j_retZ hx hb hK hP hS hr hlk (by decide) (Option.some.inj h) dX6_showNow_41
  exact hl3_1 N _ _ _ _ hP hS (lv_sub hl [1, 2, 3, 4, 0] rfl) h
def fX6_showAhead_l3 (N : Nat) (y0 : Nat) (y1 : Nat) (y2 : Int) (y3 : Int) (y4 : Int) (μ : Mm) : Nat → Int → Option (Int)
  | 0, _ => none
  | n1 + 1, x5_2 =>
    if wr (gI μ y1 6) ≤ wr x5_2 then (some 1) else (if 8 ≤ wr x5_2 then (some 1) else (if wr (andI (shrI y2 x5_2) 1) = 1 then (Option.bind (ldA μ (y0 + 2) 8 x5_2) (fun v6 => Option.bind (fX5_colourAt N y1 x5_2 (v6 + y4) μ) (fun v9 => if wr v9 = wr y3 then ((fX6_showAhead_l3 N y0 y1 y2 y3 y4 μ n1) (x5_2 + 1)) else (some 0)))) else ((fX6_showAhead_l3 N y0 y1 y2 y3 y4 μ n1) (x5_2 + 1))))
def fX6_showAhead (N : Nat) (y0 : Nat) (y1 : Nat) (y2 : Int) (y3 : Int) (y4 : Int) (μ : Mm) : Option (Int) :=
    fX6_showAhead_l3 N y0 y1 y2 y3 y4 μ N 0
abbrev rmX6_showAhead : Room := { frames := 2, cells := 0, slots := 0, locals := 43 }
set_option maxHeartbeats 4000000 in
set_option maxRecDepth 100000 in
theorem m_X6_showAhead (l : Launch) (D : va_G) (b : Nat) (cs : CS) (N : Nat) {μ : Mm} {y0 y1 : Nat} {y2 y3 y4 : Int} {r : Int} (hky0 : kd y0 = 5) (hky1 : kd y1 = 4) (h : fX6_showAhead N y0 y1 y2 y3 y4 μ = some r) : MI l yX6_showAhead wsX6_showAhead rmX6_showAhead D b cs [jR b y0, jR b y1, jI y2, jI y3, jI y4] μ μ r := by
  refine met_in (cc := cX6_showAhead) (maxL := 6) (ret := some .boolean) (lv0 := [(0, jR b y0), (1, jR b y1), (2, jI y2), (3, jI y3), (4, jI y4)]) (by decide +kernel) rfl (Nat.le_of_ble_eq_true rfl) rfl ?_
  intro p e s m args below meth c hx hb hr hlk hml hown hts hP hK ls hl
  have hown : s.vm.findClass RX6 = some m.cls := hown
  have hS : va_S (bA b) s.heap s.heap [] := va_S.rf
  have hinX5 : ∀ w ∈ u_ws RX5 TX5 9, w ∈ wsX6_showAhead := by decide +kernel
  have hinX7 : ∀ w ∈ u_ws RX7 TX7 9, w ∈ wsX6_showAhead := by decide +kernel
  unfold fX6_showAhead at h
  refine j_iconst hx hb dX6_showAhead_0 ?_
  refine j_istore (lv2 := [(5, jI 0), (0, jR b y0), (1, jR b y1), (2, jI y2), (3, jI y3), (4, jI y4)]) hx hb dX6_showAhead_1 hl (by decide) rfl (fun ls hl => ?_)
  have hl3_1 : ∀ (n0 : Nat) (x5_2 : Int) (H : Heap) (locs : List Loc) (ls : Array Slot), va_P D vwCl (wl b cs μ) H → va_S (bA b) s.heap H locs → lv_has ls 6 [(0, jR b y0), (1, jR b y1), (2, jI y2), (3, jI y3), (4, jI y4), (5, jI x5_2)] → fX6_showAhead_l3 N y0 y1 y2 y3 y4 μ n0 x5_2 = some r → W p l e rmX6_showAhead s m args below meth c H locs 0 0 (MQ below (QI D b cs μ r) args s 0 0 (bA b)) (F0 m 3 ls []) := by
    intro n0
    induction n0 with
    | zero => intro x5_2 H locs ls hP hS hl h; rw [fX6_showAhead_l3] at h; cases h
    | succ n1 ih3_1 =>
      intro x5_2 H locs ls hP hS hl h
      rw [fX6_showAhead_l3] at h
      refine j_iload hx hb dX6_showAhead_3 (lv_at hl 5 rfl) ?_
      refine j_aload_n hx hb dX6_showAhead_5 rfl (lv_at hl 1 rfl) ?_
      refine j_get (v := jI (gI μ y1 6)) hx hb hts hinX5 hown hK hP hky1 (by decide) rfl 6 (by decide) (hts (.fieldLink RX6 9 "CardBand$Threading" "cards" "I") (by decide +kernel)) rfl (by rw [jI_g]; rfl) dX6_showAhead_6 ?_
      refine j_icmp_ge (A := wr x5_2) (B := wr (gI μ y1 6)) (tgt := 57) hx hb rfl rfl dX6_showAhead_9 (by decide) (fun q3 => ?_) (fun q3 => ?_)
      · replace h := (if_pos q3).symm.trans h
        refine j_iconst hx hb dX6_showAhead_57 ?_
        exact j_retZ hx hb hK hP hS hr hlk (by decide) (Option.some.inj h) dX6_showAhead_58
      · replace h := (if_neg q3).symm.trans h
        refine j_iload hx hb dX6_showAhead_12 (lv_at hl 5 rfl) ?_
        refine j_bipush hx hb dX6_showAhead_14 (by decide) ?_
        refine j_icmp_ge (A := wr x5_2) (B := 8) (tgt := 57) hx hb rfl (by decide) dX6_showAhead_16 (by decide) (fun q4 => ?_) (fun q4 => ?_)
        · replace h := (if_pos q4).symm.trans h
          refine j_iconst hx hb dX6_showAhead_57 ?_
          exact j_retZ hx hb hK hP hS hr hlk (by decide) (Option.some.inj h) dX6_showAhead_58
        · replace h := (if_neg q4).symm.trans h
          refine j_iload_n hx hb dX6_showAhead_19 rfl (lv_at hl 2 rfl) ?_
          refine j_iload hx hb dX6_showAhead_20 (lv_at hl 5 rfl) ?_
          refine j_ishr hx hb dX6_showAhead_22 ?_
          refine j_iconst hx hb dX6_showAhead_23 ?_
          refine j_iand hx hb dX6_showAhead_24 ?_
          refine j_iconst hx hb dX6_showAhead_25 ?_
          refine j_icmp_ne (A := wr (andI (shrI y2 x5_2) 1)) (B := 1) (tgt := 51) hx hb rfl (by decide) dX6_showAhead_26 (by decide) (fun q5 => ?_) (fun q5 => ?_)
          · replace h := (if_neg q5).symm.trans h
            refine j_iinc (k := 5) (lv2 := [(5, jI (x5_2 + 1)), (0, jR b y0), (1, jR b y1), (2, jI y2), (3, jI y3), (4, jI y4)]) hx hb dX6_showAhead_51 hl rfl (by decide) rfl (fun ls hl => ?_)
            refine j_goto (tgt := 3) hx hb dX6_showAhead_54 (by decide) ?_
            exact ih3_1 _ _ _ _ hP hS (lv_sub hl [1, 2, 3, 4, 5, 0] rfl) h
          · replace h := (if_pos q5).symm.trans h
            refine j_aload_n hx hb dX6_showAhead_29 rfl (lv_at hl 1 rfl) ?_
            refine j_iload hx hb dX6_showAhead_30 (lv_at hl 5 rfl) ?_
            refine j_aload_n hx hb dX6_showAhead_32 rfl (lv_at hl 0 rfl) ?_
            refine j_get (v := jR b (y0 + 2)) hx hb hts hinX7 hown hK hP hky0 (by decide) rfl 1 (by decide) (hts (.fieldLink RX6 31 "CardBand$Weave" "stands" "[I") (by decide +kernel)) rfl rfl dX6_showAhead_33 ?_
            refine j_iload hx hb dX6_showAhead_36 (lv_at hl 5 rfl) ?_
            obtain ⟨v6, e7, h⟩ := ob_I h
            refine j_iaload hx hb hK hP (kX7_2 hky0) e7 dX6_showAhead_38 ?_
            refine j_iload hx hb dX6_showAhead_39 (lv_at hl 4 rfl) ?_
            refine j_iadd hx hb dX6_showAhead_41 ?_
            obtain ⟨v9, e8, h⟩ := ob_I h
            refine jc_VI (As := [jI x5_2, jI (v6 + y4)]) (rest := []) ⟨hx, hb, hml, hown, hts⟩ hK hP hS (m_X5_colourAt l D b cs N hky1 e8) (cwV 2 hts gX6_showAhead_X5_colourAt rfl rfl rfl (by decide +kernel) ⟨Nat.le_of_ble_eq_true rfl, Nat.le_of_ble_eq_true rfl⟩) hky1 (by decide) rfl rfl hl.1 rfl (Nat.le_of_ble_eq_true rfl) dX6_showAhead_42 ⟨Nat.zero_le _, Nat.zero_le _⟩ (fun H locs hP hS => ?_)
            refine j_iload_n hx hb dX6_showAhead_45 rfl (lv_at hl 3 rfl) ?_
            refine j_icmp_eq (A := wr v9) (B := wr y3) (tgt := 51) hx hb rfl rfl dX6_showAhead_46 (by decide) (fun q10 => ?_) (fun q10 => ?_)
            · replace h := (if_pos q10).symm.trans h
              refine j_iinc (k := 5) (lv2 := [(5, jI (x5_2 + 1)), (0, jR b y0), (1, jR b y1), (2, jI y2), (3, jI y3), (4, jI y4)]) hx hb dX6_showAhead_51 hl rfl (by decide) rfl (fun ls hl => ?_)
              refine j_goto (tgt := 3) hx hb dX6_showAhead_54 (by decide) ?_
              exact ih3_1 _ _ _ _ hP hS (lv_sub hl [1, 2, 3, 4, 5, 0] rfl) h
            · replace h := (if_neg q10).symm.trans h
              refine j_iconst hx hb dX6_showAhead_49 ?_
              exact j_retZ hx hb hK hP hS hr hlk (by decide) (Option.some.inj h) dX6_showAhead_50
  exact hl3_1 N _ _ _ _ hP hS (lv_sub hl [1, 2, 3, 4, 5, 0] rfl) h
def fX6_countForPack_l15 (N : Nat) (y0 : Nat) (y1 : Nat) (y2 : Int) (y3 : Int) (μ : Mm) : Nat → Int → Option (Int)
  | 0, _ => none
  | n4 + 1, x4_5 =>
    if 2 < wr x4_5 then (some 1000) else (Option.bind (fX6_showAhead N y0 y1 y2 y3 (x4_5 - 1) μ) (fun v8 => if wr v8 = 0 then (Option.bind (fX6_showAhead N y0 y1 y2 y3 (-x4_5) μ) (fun v11 => if wr v11 = 0 then ((fX6_countForPack_l15 N y0 y1 y2 y3 μ n4) (x4_5 + 1)) else (some x4_5))) else (some x4_5)))
def fX6_countForPack (N : Nat) (y0 : Nat) (y1 : Nat) (y2 : Int) (y3 : Int) (μ : Mm) : Option (Int) :=
    Option.bind (fX6_showNow N y0 y1 y2 y3 μ) (fun v2 => if wr v2 = 0 then (fX6_countForPack_l15 N y0 y1 y2 y3 μ N 1) else (some 0))
abbrev rmX6_countForPack : Room := { frames := 3, cells := 0, slots := 0, locals := 68 }
set_option maxHeartbeats 4000000 in
set_option maxRecDepth 100000 in
theorem m_X6_countForPack (l : Launch) (D : va_G) (b : Nat) (cs : CS) (N : Nat) {μ : Mm} {y0 y1 : Nat} {y2 y3 : Int} {r : Int} (hky0 : kd y0 = 5) (hky1 : kd y1 = 4) (h : fX6_countForPack N y0 y1 y2 y3 μ = some r) : MI l yX6_countForPack wsX6_countForPack rmX6_countForPack D b cs [jR b y0, jR b y1, jI y2, jI y3] μ μ r := by
  refine met_in (cc := cX6_countForPack) (maxL := 5) (ret := some .int) (lv0 := [(0, jR b y0), (1, jR b y1), (2, jI y2), (3, jI y3)]) (by decide +kernel) rfl (Nat.le_of_ble_eq_true rfl) rfl ?_
  intro p e s m args below meth c hx hb hr hlk hml hown hts hP hK ls hl
  have hown : s.vm.findClass RX6 = some m.cls := hown
  have hS : va_S (bA b) s.heap s.heap [] := va_S.rf
  unfold fX6_countForPack at h
  refine j_aload_n hx hb dX6_countForPack_0 rfl (lv_at hl 0 rfl) ?_
  refine j_aload_n hx hb dX6_countForPack_1 rfl (lv_at hl 1 rfl) ?_
  refine j_iload_n hx hb dX6_countForPack_2 rfl (lv_at hl 2 rfl) ?_
  refine j_iload_n hx hb dX6_countForPack_3 rfl (lv_at hl 3 rfl) ?_
  obtain ⟨v2, e1, h⟩ := ob_I h
  refine jc_SI (As := [jR b y0, jR b y1, jI y2, jI y3]) (rest := []) ⟨hx, hb, hml, hown, hts⟩ hK hP hS (m_X6_showNow l D b cs N hky0 hky1 e1) (va_cwS 4 hts gX6_countForPack_X6_showNow rfl rfl rfl (by decide +kernel) ⟨Nat.le_of_ble_eq_true rfl, Nat.le_of_ble_eq_true rfl⟩) rfl hl.1 rfl (Nat.le_of_ble_eq_true rfl) dX6_countForPack_4 ⟨Nat.zero_le _, Nat.zero_le _⟩ (fun H locs hP hS => ?_)
  refine j_if_eq (A := wr v2) (tgt := 12) hx hb rfl dX6_countForPack_7 (by decide) (fun q3 => ?_) (fun q3 => ?_)
  · replace h := (if_pos q3).symm.trans h
    refine j_iconst hx hb dX6_countForPack_12 ?_
    refine j_istore (lv2 := [(4, jI 1), (0, jR b y0), (1, jR b y1), (2, jI y2), (3, jI y3)]) hx hb dX6_countForPack_13 hl (by decide) rfl (fun ls hl => ?_)
    have hl15_4 : ∀ (n0 : Nat) (x4_5 : Int) (H : Heap) (locs : List Loc) (ls : Array Slot), va_P D vwCl (wl b cs μ) H → va_S (bA b) s.heap H locs → lv_has ls 5 [(0, jR b y0), (1, jR b y1), (2, jI y2), (3, jI y3), (4, jI x4_5)] → fX6_countForPack_l15 N y0 y1 y2 y3 μ n0 x4_5 = some r → W p l e rmX6_countForPack s m args below meth c H locs 0 0 (MQ below (QI D b cs μ r) args s 0 0 (bA b)) (F0 m 15 ls []) := by
      intro n0
      induction n0 with
      | zero => intro x4_5 H locs ls hP hS hl h; rw [fX6_countForPack_l15] at h; cases h
      | succ n4 ih15_4 =>
        intro x4_5 H locs ls hP hS hl h
        rw [fX6_countForPack_l15] at h
        refine j_iload hx hb dX6_countForPack_15 (lv_at hl 4 rfl) ?_
        refine j_iconst hx hb dX6_countForPack_17 ?_
        refine j_icmp_gt (A := wr x4_5) (B := 2) (tgt := 57) hx hb rfl (by decide) dX6_countForPack_18 (by decide) (fun q6 => ?_) (fun q6 => ?_)
        · replace h := (if_pos q6).symm.trans h
          refine j_sipush hx hb dX6_countForPack_57 (by decide) ?_
          exact j_retI hx hb hK hP hS hr hlk (Option.some.inj h) dX6_countForPack_60
        · replace h := (if_neg q6).symm.trans h
          refine j_aload_n hx hb dX6_countForPack_21 rfl (lv_at hl 0 rfl) ?_
          refine j_aload_n hx hb dX6_countForPack_22 rfl (lv_at hl 1 rfl) ?_
          refine j_iload_n hx hb dX6_countForPack_23 rfl (lv_at hl 2 rfl) ?_
          refine j_iload_n hx hb dX6_countForPack_24 rfl (lv_at hl 3 rfl) ?_
          refine j_iload hx hb dX6_countForPack_25 (lv_at hl 4 rfl) ?_
          refine j_iconst hx hb dX6_countForPack_27 ?_
          refine j_isub hx hb dX6_countForPack_28 ?_
          obtain ⟨v8, e7, h⟩ := ob_I h
          refine jc_SI (As := [jR b y0, jR b y1, jI y2, jI y3, jI (x4_5 - 1)]) (rest := []) ⟨hx, hb, hml, hown, hts⟩ hK hP hS (m_X6_showAhead l D b cs N hky0 hky1 e7) (va_cwS 5 hts gX6_countForPack_X6_showAhead rfl rfl rfl (by decide +kernel) ⟨Nat.le_of_ble_eq_true rfl, Nat.le_of_ble_eq_true rfl⟩) rfl hl.1 rfl (Nat.le_of_ble_eq_true rfl) dX6_countForPack_29 ⟨Nat.zero_le _, Nat.zero_le _⟩ (fun H locs hP hS => ?_)
          refine j_if_ne (A := wr v8) (tgt := 48) hx hb rfl dX6_countForPack_32 (by decide) (fun q9 => ?_) (fun q9 => ?_)
          · replace h := (if_neg q9).symm.trans h
            refine j_iload hx hb dX6_countForPack_48 (lv_at hl 4 rfl) ?_
            exact j_retI hx hb hK hP hS hr hlk (Option.some.inj h) dX6_countForPack_50
          · replace h := (if_pos q9).symm.trans h
            refine j_aload_n hx hb dX6_countForPack_35 rfl (lv_at hl 0 rfl) ?_
            refine j_aload_n hx hb dX6_countForPack_36 rfl (lv_at hl 1 rfl) ?_
            refine j_iload_n hx hb dX6_countForPack_37 rfl (lv_at hl 2 rfl) ?_
            refine j_iload_n hx hb dX6_countForPack_38 rfl (lv_at hl 3 rfl) ?_
            refine j_iload hx hb dX6_countForPack_39 (lv_at hl 4 rfl) ?_
            refine j_ineg hx hb dX6_countForPack_41 ?_
            obtain ⟨v11, e10, h⟩ := ob_I h
            refine jc_SI (As := [jR b y0, jR b y1, jI y2, jI y3, jI (-x4_5)]) (rest := []) ⟨hx, hb, hml, hown, hts⟩ hK hP hS (m_X6_showAhead l D b cs N hky0 hky1 e10) (va_cwS 5 hts gX6_countForPack_X6_showAhead rfl rfl rfl (by decide +kernel) ⟨Nat.le_of_ble_eq_true rfl, Nat.le_of_ble_eq_true rfl⟩) rfl hl.1 rfl (Nat.le_of_ble_eq_true rfl) dX6_countForPack_42 ⟨Nat.zero_le _, Nat.zero_le _⟩ (fun H locs hP hS => ?_)
            refine j_if_eq (A := wr v11) (tgt := 51) hx hb rfl dX6_countForPack_45 (by decide) (fun q12 => ?_) (fun q12 => ?_)
            · replace h := (if_pos q12).symm.trans h
              refine j_iinc (k := 4) (lv2 := [(4, jI (x4_5 + 1)), (0, jR b y0), (1, jR b y1), (2, jI y2), (3, jI y3)]) hx hb dX6_countForPack_51 hl rfl (by decide) rfl (fun ls hl => ?_)
              refine j_goto (tgt := 15) hx hb dX6_countForPack_54 (by decide) ?_
              exact ih15_4 _ _ _ _ hP hS (lv_sub hl [1, 2, 3, 4, 0] rfl) h
            · replace h := (if_neg q12).symm.trans h
              refine j_iload hx hb dX6_countForPack_48 (lv_at hl 4 rfl) ?_
              exact j_retI hx hb hK hP hS hr hlk (Option.some.inj h) dX6_countForPack_50
    exact hl15_4 N _ _ _ _ hP hS (lv_sub hl [1, 2, 3, 4, 0] rfl) h
  · replace h := (if_neg q3).symm.trans h
    refine j_iconst hx hb dX6_countForPack_10 ?_
    exact j_retI hx hb hK hP hS hr hlk (Option.some.inj h) dX6_countForPack_11
def fX6_firstCardOf_l2 (N : Nat) (y0 : Nat) (y1 : Int) (μ : Mm) : Nat → Int → Option (Int)
  | 0, _ => none
  | n1 + 1, x2_2 =>
    if wr (gI μ y0 6) ≤ wr x2_2 then (some 0) else (Option.bind (fX5_isInPack N y0 x2_2 y1 μ) (fun v5 => if wr v5 = 0 then ((fX6_firstCardOf_l2 N y0 y1 μ n1) (x2_2 + 1)) else (some x2_2)))
def fX6_firstCardOf (N : Nat) (y0 : Nat) (y1 : Int) (μ : Mm) : Option (Int) :=
    fX6_firstCardOf_l2 N y0 y1 μ N 0
abbrev rmX6_firstCardOf : Room := { frames := 1, cells := 0, slots := 0, locals := 22 }
set_option maxHeartbeats 4000000 in
set_option maxRecDepth 100000 in
theorem m_X6_firstCardOf (l : Launch) (D : va_G) (b : Nat) (cs : CS) (N : Nat) {μ : Mm} {y0 : Nat} {y1 : Int} {r : Int} (hky0 : kd y0 = 4) (h : fX6_firstCardOf N y0 y1 μ = some r) : MI l yX6_firstCardOf wsX6_firstCardOf rmX6_firstCardOf D b cs [jR b y0, jI y1] μ μ r := by
  refine met_in (cc := cX6_firstCardOf) (maxL := 3) (ret := some .int) (lv0 := [(0, jR b y0), (1, jI y1)]) (by decide +kernel) rfl (Nat.le_of_ble_eq_true rfl) rfl ?_
  intro p e s m args below meth c hx hb hr hlk hml hown hts hP hK ls hl
  have hown : s.vm.findClass RX6 = some m.cls := hown
  have hS : va_S (bA b) s.heap s.heap [] := va_S.rf
  have hinX5 : ∀ w ∈ u_ws RX5 TX5 9, w ∈ wsX6_firstCardOf := by decide +kernel
  unfold fX6_firstCardOf at h
  refine j_iconst hx hb dX6_firstCardOf_0 ?_
  refine j_istore_n (lv2 := [(2, jI 0), (0, jR b y0), (1, jI y1)]) hx hb dX6_firstCardOf_1 rfl hl (by decide) rfl (fun ls hl => ?_)
  have hl2_1 : ∀ (n0 : Nat) (x2_2 : Int) (H : Heap) (locs : List Loc) (ls : Array Slot), va_P D vwCl (wl b cs μ) H → va_S (bA b) s.heap H locs → lv_has ls 3 [(0, jR b y0), (1, jI y1), (2, jI x2_2)] → fX6_firstCardOf_l2 N y0 y1 μ n0 x2_2 = some r → W p l e rmX6_firstCardOf s m args below meth c H locs 0 0 (MQ below (QI D b cs μ r) args s 0 0 (bA b)) (F0 m 2 ls []) := by
    intro n0
    induction n0 with
    | zero => intro x2_2 H locs ls hP hS hl h; rw [fX6_firstCardOf_l2] at h; cases h
    | succ n1 ih2_1 =>
      intro x2_2 H locs ls hP hS hl h
      rw [fX6_firstCardOf_l2] at h
      refine j_iload_n hx hb dX6_firstCardOf_2 rfl (lv_at hl 2 rfl) ?_
      refine j_aload_n hx hb dX6_firstCardOf_3 rfl (lv_at hl 0 rfl) ?_
      refine j_get (v := jI (gI μ y0 6)) hx hb hts hinX5 hown hK hP hky0 (by decide) rfl 6 (by decide) (hts (.fieldLink RX6 9 "CardBand$Threading" "cards" "I") (by decide +kernel)) rfl (by rw [jI_g]; rfl) dX6_firstCardOf_4 ?_
      refine j_icmp_ge (A := wr x2_2) (B := wr (gI μ y0 6)) (tgt := 27) hx hb rfl rfl dX6_firstCardOf_7 (by decide) (fun q3 => ?_) (fun q3 => ?_)
      · replace h := (if_pos q3).symm.trans h
        refine j_iconst hx hb dX6_firstCardOf_27 ?_
        exact j_retI hx hb hK hP hS hr hlk (Option.some.inj h) dX6_firstCardOf_28
      · replace h := (if_neg q3).symm.trans h
        refine j_aload_n hx hb dX6_firstCardOf_10 rfl (lv_at hl 0 rfl) ?_
        refine j_iload_n hx hb dX6_firstCardOf_11 rfl (lv_at hl 2 rfl) ?_
        refine j_iload_n hx hb dX6_firstCardOf_12 rfl (lv_at hl 1 rfl) ?_
        obtain ⟨v5, e4, h⟩ := ob_I h
        refine jc_VI (As := [jI x2_2, jI y1]) (rest := []) ⟨hx, hb, hml, hown, hts⟩ hK hP hS (m_X5_isInPack l D b cs N hky0 e4) (cwV 2 hts gX6_firstCardOf_X5_isInPack rfl rfl rfl (by decide +kernel) ⟨Nat.le_of_ble_eq_true rfl, Nat.le_of_ble_eq_true rfl⟩) hky0 (by decide) rfl rfl hl.1 rfl (Nat.le_of_ble_eq_true rfl) dX6_firstCardOf_13 ⟨Nat.zero_le _, Nat.zero_le _⟩ (fun H locs hP hS => ?_)
        refine j_if_eq (A := wr v5) (tgt := 21) hx hb rfl dX6_firstCardOf_16 (by decide) (fun q6 => ?_) (fun q6 => ?_)
        · replace h := (if_pos q6).symm.trans h
          refine j_iinc (k := 2) (lv2 := [(2, jI (x2_2 + 1)), (0, jR b y0), (1, jI y1)]) hx hb dX6_firstCardOf_21 hl rfl (by decide) rfl (fun ls hl => ?_)
          refine j_goto (tgt := 2) hx hb dX6_firstCardOf_24 (by decide) ?_
          exact ih2_1 _ _ _ _ hP hS (lv_sub hl [1, 2, 0] rfl) h
        · replace h := (if_neg q6).symm.trans h
          refine j_iload_n hx hb dX6_firstCardOf_19 rfl (lv_at hl 2 rfl) ?_
          exact j_retI hx hb hK hP hS hr hlk (Option.some.inj h) dX6_firstCardOf_20
  exact hl2_1 N _ _ _ _ hP hS (lv_sub hl [1, 2, 0] rfl) h
def fX6_standOf (N : Nat) (y0 : Nat) (y1 : Nat) (y2 : Int) (μ : Mm) : Option (Int) :=
    Option.bind (fX6_firstCardOf N y1 y2 μ) (fun v2 => Option.bind (ldA μ (y0 + 2) 8 (andI v2 7)) (fun v3 => some v3))
abbrev rmX6_standOf : Room := { frames := 2, cells := 0, slots := 0, locals := 44 }
set_option maxHeartbeats 4000000 in
set_option maxRecDepth 100000 in
theorem m_X6_standOf (l : Launch) (D : va_G) (b : Nat) (cs : CS) (N : Nat) {μ : Mm} {y0 y1 : Nat} {y2 : Int} {r : Int} (hky0 : kd y0 = 5) (hky1 : kd y1 = 4) (h : fX6_standOf N y0 y1 y2 μ = some r) : MI l yX6_standOf wsX6_standOf rmX6_standOf D b cs [jR b y0, jR b y1, jI y2] μ μ r := by
  refine met_in (cc := cX6_standOf) (maxL := 3) (ret := some .int) (lv0 := [(0, jR b y0), (1, jR b y1), (2, jI y2)]) (by decide +kernel) rfl (Nat.le_of_ble_eq_true rfl) rfl ?_
  intro p e s m args below meth c hx hb hr hlk hml hown hts hP hK ls hl
  have hown : s.vm.findClass RX6 = some m.cls := hown
  have hS : va_S (bA b) s.heap s.heap [] := va_S.rf
  have hinX7 : ∀ w ∈ u_ws RX7 TX7 9, w ∈ wsX6_standOf := by decide +kernel
  unfold fX6_standOf at h
  refine j_aload_n hx hb dX6_standOf_0 rfl (lv_at hl 0 rfl) ?_
  refine j_get (v := jR b (y0 + 2)) hx hb hts hinX7 hown hK hP hky0 (by decide) rfl 1 (by decide) (hts (.fieldLink RX6 31 "CardBand$Weave" "stands" "[I") (by decide +kernel)) rfl rfl dX6_standOf_1 ?_
  refine j_aload_n hx hb dX6_standOf_4 rfl (lv_at hl 1 rfl) ?_
  refine j_iload_n hx hb dX6_standOf_5 rfl (lv_at hl 2 rfl) ?_
  obtain ⟨v2, e1, h⟩ := ob_I h
  refine jc_SI (As := [jR b y1, jI y2]) (rest := [jR b (y0 + 2)]) ⟨hx, hb, hml, hown, hts⟩ hK hP hS (m_X6_firstCardOf l D b cs N hky1 e1) (va_cwS 2 hts gX6_standOf_X6_firstCardOf rfl rfl rfl (by decide +kernel) ⟨Nat.le_of_ble_eq_true rfl, Nat.le_of_ble_eq_true rfl⟩) rfl hl.1 rfl (Nat.le_of_ble_eq_true rfl) dX6_standOf_6 ⟨Nat.zero_le _, Nat.zero_le _⟩ (fun H locs hP hS => ?_)
  refine j_bipush hx hb dX6_standOf_9 (by decide) ?_
  refine j_iand hx hb dX6_standOf_11 ?_
  obtain ⟨v3, e4, h⟩ := ob_I h
  refine j_iaload hx hb hK hP (kX7_2 hky0) e4 dX6_standOf_12 ?_
  exact j_retI hx hb hK hP hS hr hlk (Option.some.inj h) dX6_standOf_13
def fX6_countHome_l4 (N : Nat) (y0 : Nat) (y1 : Nat) (μ : Mm) : Nat → Int → Int → Option (Int)
  | 0, _, _ => none
  | n1 + 1, x2_2, x3_3 =>
    if wr (gI μ y1 7) ≤ wr x3_3 then (some x2_2) else (Option.bind (fX6_standOf N y0 y1 x3_3 μ) (fun v6 => (fX6_countHome_l4 N y0 y1 μ n1) (if wr x2_2 < wr (if wr (4 - v6) < wr v6 then (4 - v6) else v6) then (if wr (4 - v6) < wr v6 then (4 - v6) else v6) else x2_2) (x3_3 + 1)))
def fX6_countHome (N : Nat) (y0 : Nat) (y1 : Nat) (μ : Mm) : Option (Int) :=
    fX6_countHome_l4 N y0 y1 μ N 0 0
abbrev rmX6_countHome : Room := { frames := 3, cells := 0, slots := 0, locals := 66 }
set_option maxHeartbeats 4000000 in
set_option maxRecDepth 100000 in
theorem m_X6_countHome (l : Launch) (D : va_G) (b : Nat) (cs : CS) (N : Nat) {μ : Mm} {y0 y1 : Nat} {r : Int} (hky0 : kd y0 = 5) (hky1 : kd y1 = 4) (h : fX6_countHome N y0 y1 μ = some r) : MI l yX6_countHome wsX6_countHome rmX6_countHome D b cs [jR b y0, jR b y1] μ μ r := by
  refine met_in (cc := cX6_countHome) (maxL := 5) (ret := some .int) (lv0 := [(0, jR b y0), (1, jR b y1)]) (by decide +kernel) rfl (Nat.le_of_ble_eq_true rfl) rfl ?_
  intro p e s m args below meth c hx hb hr hlk hml hown hts hP hK ls hl
  have hown : s.vm.findClass RX6 = some m.cls := hown
  have hS : va_S (bA b) s.heap s.heap [] := va_S.rf
  have hinX5 : ∀ w ∈ u_ws RX5 TX5 9, w ∈ wsX6_countHome := by decide +kernel
  unfold fX6_countHome at h
  refine j_iconst hx hb dX6_countHome_0 ?_
  refine j_istore_n (lv2 := [(2, jI 0), (0, jR b y0), (1, jR b y1)]) hx hb dX6_countHome_1 rfl hl (by decide) rfl (fun ls hl => ?_)
  refine j_iconst hx hb dX6_countHome_2 ?_
  refine j_istore_n (lv2 := [(3, jI 0), (2, jI 0), (0, jR b y0), (1, jR b y1)]) hx hb dX6_countHome_3 rfl hl (by decide) rfl (fun ls hl => ?_)
  have hl4_1 : ∀ (n0 : Nat) (x2_2 : Int) (x3_3 : Int) (H : Heap) (locs : List Loc) (ls : Array Slot), va_P D vwCl (wl b cs μ) H → va_S (bA b) s.heap H locs → lv_has ls 5 [(0, jR b y0), (1, jR b y1), (2, jI x2_2), (3, jI x3_3)] → fX6_countHome_l4 N y0 y1 μ n0 x2_2 x3_3 = some r → W p l e rmX6_countHome s m args below meth c H locs 0 0 (MQ below (QI D b cs μ r) args s 0 0 (bA b)) (F0 m 4 ls []) := by
    intro n0
    induction n0 with
    | zero => intro x2_2 x3_3 H locs ls hP hS hl h; rw [fX6_countHome_l4] at h; cases h
    | succ n1 ih4_1 =>
      intro x2_2 x3_3 H locs ls hP hS hl h
      rw [fX6_countHome_l4] at h
      refine j_iload_n hx hb dX6_countHome_4 rfl (lv_at hl 3 rfl) ?_
      refine j_aload_n hx hb dX6_countHome_5 rfl (lv_at hl 1 rfl) ?_
      refine j_get (v := jI (gI μ y1 7)) hx hb hts hinX5 hown hK hP hky1 (by decide) rfl 7 (by decide) (hts (.fieldLink RX6 34 "CardBand$Threading" "packs" "I") (by decide +kernel)) rfl (by rw [jI_g]; rfl) dX6_countHome_6 ?_
      refine j_icmp_ge (A := wr x3_3) (B := wr (gI μ y1 7)) (tgt := 40) hx hb rfl rfl dX6_countHome_9 (by decide) (fun q4 => ?_) (fun q4 => ?_)
      · replace h := (if_pos q4).symm.trans h
        refine j_iload_n hx hb dX6_countHome_40 rfl (lv_at hl 2 rfl) ?_
        exact j_retI hx hb hK hP hS hr hlk (Option.some.inj h) dX6_countHome_41
      · replace h := (if_neg q4).symm.trans h
        refine j_aload_n hx hb dX6_countHome_12 rfl (lv_at hl 0 rfl) ?_
        refine j_aload_n hx hb dX6_countHome_13 rfl (lv_at hl 1 rfl) ?_
        refine j_iload_n hx hb dX6_countHome_14 rfl (lv_at hl 3 rfl) ?_
        obtain ⟨v6, e5, h⟩ := ob_I h
        refine jc_SI (As := [jR b y0, jR b y1, jI x3_3]) (rest := []) ⟨hx, hb, hml, hown, hts⟩ hK hP hS (m_X6_standOf l D b cs N hky0 hky1 e5) (va_cwS 3 hts gX6_countHome_X6_standOf rfl rfl rfl (by decide +kernel) ⟨Nat.le_of_ble_eq_true rfl, Nat.le_of_ble_eq_true rfl⟩) rfl hl.1 rfl (Nat.le_of_ble_eq_true rfl) dX6_countHome_15 ⟨Nat.zero_le _, Nat.zero_le _⟩ (fun H locs hP hS => ?_)
        refine j_istore (lv2 := [(4, jI v6), (0, jR b y0), (1, jR b y1), (2, jI x2_2), (3, jI x3_3)]) hx hb dX6_countHome_18 hl (by decide) rfl (fun ls hl => ?_)
        refine j_iload_n hx hb dX6_countHome_20 rfl (lv_at hl 3 rfl) ?_
        refine j_iload hx hb dX6_countHome_21 (lv_at hl 0 rfl) ?_
        refine j_iconst hx hb dX6_countHome_23 ?_
        refine j_iload hx hb dX6_countHome_24 (lv_at hl 0 rfl) ?_
        refine j_isub hx hb dX6_countHome_26 ?_
        refine j_min hx hb hml hl.1 hown (hts (.methodLink RX6 57 Lib.Math.min.name) (by decide +kernel)) (hts (.static Lib.Math.min.name) (by decide +kernel)) (hts (.initialized "java/lang/Math") (by decide +kernel)) (hts (.code Lib.Math.min.name Lib.Math.min.code 2 (some .int)) (by decide +kernel)) (Nat.le_of_ble_eq_true rfl) (Nat.le_of_ble_eq_true rfl) (Nat.zero_le _) (Nat.zero_le _) dX6_countHome_27 ?_
        refine j_max hx hb hml hl.1 hown (hts (.methodLink RX6 47 Lib.Math.max.name) (by decide +kernel)) (hts (.static Lib.Math.max.name) (by decide +kernel)) (hts (.initialized "java/lang/Math") (by decide +kernel)) (hts (.code Lib.Math.max.name Lib.Math.max.code 2 (some .int)) (by decide +kernel)) (Nat.le_of_ble_eq_true rfl) (Nat.le_of_ble_eq_true rfl) (Nat.zero_le _) (Nat.zero_le _) dX6_countHome_30 ?_
        refine j_istore_n (lv2 := [(2, jI (if wr x2_2 < wr (if wr (4 - v6) < wr v6 then (4 - v6) else v6) then (if wr (4 - v6) < wr v6 then (4 - v6) else v6) else x2_2)), (4, jI v6), (0, jR b y0), (1, jR b y1), (3, jI x3_3)]) hx hb dX6_countHome_33 rfl hl (by decide) rfl (fun ls hl => ?_)
        refine j_iinc (k := 4) (lv2 := [(3, jI (x3_3 + 1)), (2, jI (if wr x2_2 < wr (if wr (4 - v6) < wr v6 then (4 - v6) else v6) then (if wr (4 - v6) < wr v6 then (4 - v6) else v6) else x2_2)), (4, jI v6), (0, jR b y0), (1, jR b y1)]) hx hb dX6_countHome_34 hl rfl (by decide) rfl (fun ls hl => ?_)
        refine j_goto (tgt := 4) hx hb dX6_countHome_37 (by decide) ?_
        exact ih4_1 _ _ _ _ _ hP hS (lv_sub hl [3, 4, 1, 0] rfl) h
  exact hl4_1 N _ _ _ _ _ hP hS (lv_sub hl [2, 3, 1, 0] rfl) h
def fX6_countTogether_k72 (N : Nat) : Int → Option (Int) := fun x4_6 =>
    if wr x4_6 = 1000 then (some (-1)) else (some x4_6)
def fX6_countTogether_l29 (N : Nat) (y0 : Nat) (y1 : Nat) (y2 : Int) (y3 : Int) (μ : Mm) : Nat → Int → Int → Option (Int)
  | 0, _, _ => none
  | n8 + 1, x4_9, x5_10 =>
    if wr (gI μ y1 7) ≤ wr x5_10 then (fX6_countTogether_k72 N x4_9) else (if 4 ≤ wr x5_10 then (fX6_countTogether_k72 N x4_9) else (Option.bind (ldA μ (y1 + 4) 4 x5_10) (fun v13 => Option.bind (fX6_countForPack N y0 y1 (andI y2 v13) y3 μ) (fun v16 => (fX6_countTogether_l29 N y0 y1 y2 y3 μ n8) (if wr x4_9 < wr v16 then v16 else x4_9) (x5_10 + 1)))))
def fX6_countTogether_j24 (N : Nat) (y0 : Nat) (y1 : Nat) (y2 : Int) (y3 : Int) (μ : Mm) : Int → Option (Int) := fun s4 =>
    fX6_countTogether_l29 N y0 y1 y2 y3 μ N s4 0
def fX6_countTogether (N : Nat) (y0 : Nat) (y1 : Nat) (y2 : Int) (y3 : Int) (μ : Mm) : Option (Int) :=
    Option.bind (fX6_showNow N y0 y1 (andI y2 (xorI (gI μ y1 8) (-1))) y3 μ) (fun v2 => if wr v2 = 0 then (fX6_countTogether_j24 N y0 y1 y2 y3 μ 1000) else (fX6_countTogether_j24 N y0 y1 y2 y3 μ 0))
abbrev rmX6_countTogether : Room := { frames := 4, cells := 0, slots := 0, locals := 92 }
set_option maxHeartbeats 4000000 in
set_option maxRecDepth 100000 in
theorem m_X6_countTogether (l : Launch) (D : va_G) (b : Nat) (cs : CS) (N : Nat) {μ : Mm} {y0 y1 : Nat} {y2 y3 : Int} {r : Int} (hky0 : kd y0 = 5) (hky1 : kd y1 = 4) (h : fX6_countTogether N y0 y1 y2 y3 μ = some r) : MI l yX6_countTogether wsX6_countTogether rmX6_countTogether D b cs [jR b y0, jR b y1, jI y2, jI y3] μ μ r := by
  refine met_in (cc := cX6_countTogether) (maxL := 6) (ret := some .int) (lv0 := [(0, jR b y0), (1, jR b y1), (2, jI y2), (3, jI y3)]) (by decide +kernel) rfl (Nat.le_of_ble_eq_true rfl) rfl ?_
  intro p e s m args below meth c hx hb hr hlk hml hown hts hP hK ls hl
  have hown : s.vm.findClass RX6 = some m.cls := hown
  have hS : va_S (bA b) s.heap s.heap [] := va_S.rf
  have hinX5 : ∀ w ∈ u_ws RX5 TX5 9, w ∈ wsX6_countTogether := by decide +kernel
  unfold fX6_countTogether at h
  refine j_aload_n hx hb dX6_countTogether_0 rfl (lv_at hl 0 rfl) ?_
  refine j_aload_n hx hb dX6_countTogether_1 rfl (lv_at hl 1 rfl) ?_
  refine j_iload_n hx hb dX6_countTogether_2 rfl (lv_at hl 2 rfl) ?_
  refine j_aload_n hx hb dX6_countTogether_3 rfl (lv_at hl 1 rfl) ?_
  refine j_get (v := jI (gI μ y1 8)) hx hb hts hinX5 hown hK hP hky1 (by decide) rfl 8 (by decide) (hts (.fieldLink RX6 60 "CardBand$Threading" "cardsInPacks" "I") (by decide +kernel)) rfl (by rw [jI_g]; rfl) dX6_countTogether_4 ?_
  refine j_iconst hx hb dX6_countTogether_7 ?_
  refine j_ixor hx hb dX6_countTogether_8 ?_
  refine j_iand hx hb dX6_countTogether_9 ?_
  refine j_iload_n hx hb dX6_countTogether_10 rfl (lv_at hl 3 rfl) ?_
  obtain ⟨v2, e1, h⟩ := ob_I h
  refine jc_SI (As := [jR b y0, jR b y1, jI (andI y2 (xorI (gI μ y1 8) (-1))), jI y3]) (rest := []) ⟨hx, hb, hml, hown, hts⟩ hK hP hS (m_X6_showNow l D b cs N hky0 hky1 e1) (va_cwS 4 hts gX6_countTogether_X6_showNow rfl rfl rfl (by decide +kernel) ⟨Nat.le_of_ble_eq_true rfl, Nat.le_of_ble_eq_true rfl⟩) rfl hl.1 rfl (Nat.le_of_ble_eq_true rfl) dX6_countTogether_11 ⟨Nat.zero_le _, Nat.zero_le _⟩ (fun H locs hP hS => ?_)
  have hj24_3 : ∀ (s4 : Int) (H : Heap) (locs : List Loc) (ls : Array Slot), va_P D vwCl (wl b cs μ) H → va_S (bA b) s.heap H locs → lv_has ls 6 [(0, jR b y0), (1, jR b y1), (2, jI y2), (3, jI y3)] → fX6_countTogether_j24 N y0 y1 y2 y3 μ s4 = some r → W p l e rmX6_countTogether s m args below meth c H locs 0 0 (MQ below (QI D b cs μ r) args s 0 0 (bA b)) (F0 m 24 ls [jI s4]) := by
    intro s4 H locs ls hP hS hl h
    unfold fX6_countTogether_j24 at h
    refine j_istore (lv2 := [(4, jI s4), (0, jR b y0), (1, jR b y1), (2, jI y2), (3, jI y3)]) hx hb dX6_countTogether_24 hl (by decide) rfl (fun ls hl => ?_)
    refine j_iconst hx hb dX6_countTogether_26 ?_
    refine j_istore (lv2 := [(5, jI 0), (4, jI s4), (0, jR b y0), (1, jR b y1), (2, jI y2), (3, jI y3)]) hx hb dX6_countTogether_27 hl (by decide) rfl (fun ls hl => ?_)
    have hk72_5 : ∀ (x4_6 : Int) (H : Heap) (locs : List Loc) (ls : Array Slot), va_P D vwCl (wl b cs μ) H → va_S (bA b) s.heap H locs → lv_has ls 6 [(4, jI x4_6)] → fX6_countTogether_k72 N x4_6 = some r → W p l e rmX6_countTogether s m args below meth c H locs 0 0 (MQ below (QI D b cs μ r) args s 0 0 (bA b)) (F0 m 72 ls []) := by
      intro x4_6 H locs ls hP hS hl h
      unfold fX6_countTogether_k72 at h
      refine j_iload hx hb dX6_countTogether_72 (lv_at hl 0 rfl) ?_
      refine j_sipush hx hb dX6_countTogether_74 (by decide) ?_
      refine j_icmp_ne (A := wr x4_6) (B := 1000) (tgt := 84) hx hb rfl (by decide) dX6_countTogether_77 (by decide) (fun q7 => ?_) (fun q7 => ?_)
      · replace h := (if_neg q7).symm.trans h
        refine j_iload hx hb dX6_countTogether_84 (lv_at hl 0 rfl) ?_
        exact j_retI hx hb hK hP hS hr hlk (Option.some.inj h) dX6_countTogether_86
      · replace h := (if_pos q7).symm.trans h
        refine j_iconst hx hb dX6_countTogether_80 ?_
        refine j_goto (tgt := 86) hx hb dX6_countTogether_81 (by decide) ?_
        exact j_retI hx hb hK hP hS hr hlk (Option.some.inj h) dX6_countTogether_86
    have hl29_8 : ∀ (n0 : Nat) (x4_9 : Int) (x5_10 : Int) (H : Heap) (locs : List Loc) (ls : Array Slot), va_P D vwCl (wl b cs μ) H → va_S (bA b) s.heap H locs → lv_has ls 6 [(0, jR b y0), (1, jR b y1), (2, jI y2), (3, jI y3), (4, jI x4_9), (5, jI x5_10)] → fX6_countTogether_l29 N y0 y1 y2 y3 μ n0 x4_9 x5_10 = some r → W p l e rmX6_countTogether s m args below meth c H locs 0 0 (MQ below (QI D b cs μ r) args s 0 0 (bA b)) (F0 m 29 ls []) := by
      intro n0
      induction n0 with
      | zero => intro x4_9 x5_10 H locs ls hP hS hl h; rw [fX6_countTogether_l29] at h; cases h
      | succ n8 ih29_8 =>
        intro x4_9 x5_10 H locs ls hP hS hl h
        rw [fX6_countTogether_l29] at h
        refine j_iload hx hb dX6_countTogether_29 (lv_at hl 5 rfl) ?_
        refine j_aload_n hx hb dX6_countTogether_31 rfl (lv_at hl 1 rfl) ?_
        refine j_get (v := jI (gI μ y1 7)) hx hb hts hinX5 hown hK hP hky1 (by decide) rfl 7 (by decide) (hts (.fieldLink RX6 34 "CardBand$Threading" "packs" "I") (by decide +kernel)) rfl (by rw [jI_g]; rfl) dX6_countTogether_32 ?_
        refine j_icmp_ge (A := wr x5_10) (B := wr (gI μ y1 7)) (tgt := 72) hx hb rfl rfl dX6_countTogether_35 (by decide) (fun q11 => ?_) (fun q11 => ?_)
        · replace h := (if_pos q11).symm.trans h
          exact hk72_5 _ _ _ _ hP hS (lv_sub hl [4] rfl) h
        · replace h := (if_neg q11).symm.trans h
          refine j_iload hx hb dX6_countTogether_38 (lv_at hl 5 rfl) ?_
          refine j_iconst hx hb dX6_countTogether_40 ?_
          refine j_icmp_ge (A := wr x5_10) (B := 4) (tgt := 72) hx hb rfl (by decide) dX6_countTogether_41 (by decide) (fun q12 => ?_) (fun q12 => ?_)
          · replace h := (if_pos q12).symm.trans h
            exact hk72_5 _ _ _ _ hP hS (lv_sub hl [4] rfl) h
          · replace h := (if_neg q12).symm.trans h
            refine j_iload hx hb dX6_countTogether_44 (lv_at hl 4 rfl) ?_
            refine j_aload_n hx hb dX6_countTogether_46 rfl (lv_at hl 0 rfl) ?_
            refine j_aload_n hx hb dX6_countTogether_47 rfl (lv_at hl 1 rfl) ?_
            refine j_iload_n hx hb dX6_countTogether_48 rfl (lv_at hl 2 rfl) ?_
            refine j_aload_n hx hb dX6_countTogether_49 rfl (lv_at hl 1 rfl) ?_
            refine j_get (v := jR b (y1 + 4)) hx hb hts hinX5 hown hK hP hky1 (by decide) rfl 3 (by decide) (hts (.fieldLink RX6 67 "CardBand$Threading" "packSets" "[I") (by decide +kernel)) rfl rfl dX6_countTogether_50 ?_
            refine j_iload hx hb dX6_countTogether_53 (lv_at hl 5 rfl) ?_
            obtain ⟨v13, e14, h⟩ := ob_I h
            refine j_iaload hx hb hK hP (kX5_4 hky1) e14 dX6_countTogether_55 ?_
            refine j_iand hx hb dX6_countTogether_56 ?_
            refine j_iload_n hx hb dX6_countTogether_57 rfl (lv_at hl 3 rfl) ?_
            obtain ⟨v16, e15, h⟩ := ob_I h
            refine jc_SI (As := [jR b y0, jR b y1, jI (andI y2 v13), jI y3]) (rest := [jI x4_9]) ⟨hx, hb, hml, hown, hts⟩ hK hP hS (m_X6_countForPack l D b cs N hky0 hky1 e15) (va_cwS 4 hts gX6_countTogether_X6_countForPack rfl rfl rfl (by decide +kernel) ⟨Nat.le_of_ble_eq_true rfl, Nat.le_of_ble_eq_true rfl⟩) rfl hl.1 rfl (Nat.le_of_ble_eq_true rfl) dX6_countTogether_58 ⟨Nat.zero_le _, Nat.zero_le _⟩ (fun H locs hP hS => ?_)
            refine j_max hx hb hml hl.1 hown (hts (.methodLink RX6 47 Lib.Math.max.name) (by decide +kernel)) (hts (.static Lib.Math.max.name) (by decide +kernel)) (hts (.initialized "java/lang/Math") (by decide +kernel)) (hts (.code Lib.Math.max.name Lib.Math.max.code 2 (some .int)) (by decide +kernel)) (Nat.le_of_ble_eq_true rfl) (Nat.le_of_ble_eq_true rfl) (Nat.zero_le _) (Nat.zero_le _) dX6_countTogether_61 ?_
            refine j_istore (lv2 := [(4, jI (if wr x4_9 < wr v16 then v16 else x4_9)), (0, jR b y0), (1, jR b y1), (2, jI y2), (3, jI y3), (5, jI x5_10)]) hx hb dX6_countTogether_64 hl (by decide) rfl (fun ls hl => ?_)
            refine j_iinc (k := 5) (lv2 := [(5, jI (x5_10 + 1)), (4, jI (if wr x4_9 < wr v16 then v16 else x4_9)), (0, jR b y0), (1, jR b y1), (2, jI y2), (3, jI y3)]) hx hb dX6_countTogether_66 hl rfl (by decide) rfl (fun ls hl => ?_)
            refine j_goto (tgt := 29) hx hb dX6_countTogether_69 (by decide) ?_
            exact ih29_8 _ _ _ _ _ hP hS (lv_sub hl [2, 3, 4, 5, 1, 0] rfl) h
    exact hl29_8 N _ _ _ _ _ hP hS (lv_sub hl [2, 3, 4, 5, 1, 0] rfl) h
  refine j_if_eq (A := wr v2) (tgt := 21) hx hb rfl dX6_countTogether_14 (by decide) (fun q17 => ?_) (fun q17 => ?_)
  · replace h := (if_pos q17).symm.trans h
    refine j_sipush hx hb dX6_countTogether_21 (by decide) ?_
    exact hj24_3 _ _ _ _ hP hS (lv_sub hl [0, 1, 2, 3] rfl) h
  · replace h := (if_neg q17).symm.trans h
    refine j_iconst hx hb dX6_countTogether_17 ?_
    refine j_goto (tgt := 24) hx hb dX6_countTogether_18 (by decide) ?_
    exact hj24_3 _ _ _ _ hP hS (lv_sub hl [0, 1, 2, 3] rfl) h
def fX6_twistOf (N : Nat) (y0 : Nat) (y1 : Nat) (y2 : Int) (μ : Mm) : Option (Int) :=
    Option.bind (fX6_firstCardOf N y1 y2 μ) (fun v2 => Option.bind (ldA μ (y0 + 3) 8 (andI v2 7)) (fun v3 => some v3))
abbrev rmX6_twistOf : Room := { frames := 2, cells := 0, slots := 0, locals := 44 }
set_option maxHeartbeats 4000000 in
set_option maxRecDepth 100000 in
theorem m_X6_twistOf (l : Launch) (D : va_G) (b : Nat) (cs : CS) (N : Nat) {μ : Mm} {y0 y1 : Nat} {y2 : Int} {r : Int} (hky0 : kd y0 = 5) (hky1 : kd y1 = 4) (h : fX6_twistOf N y0 y1 y2 μ = some r) : MI l yX6_twistOf wsX6_twistOf rmX6_twistOf D b cs [jR b y0, jR b y1, jI y2] μ μ r := by
  refine met_in (cc := cX6_twistOf) (maxL := 3) (ret := some .int) (lv0 := [(0, jR b y0), (1, jR b y1), (2, jI y2)]) (by decide +kernel) rfl (Nat.le_of_ble_eq_true rfl) rfl ?_
  intro p e s m args below meth c hx hb hr hlk hml hown hts hP hK ls hl
  have hown : s.vm.findClass RX6 = some m.cls := hown
  have hS : va_S (bA b) s.heap s.heap [] := va_S.rf
  have hinX7 : ∀ w ∈ u_ws RX7 TX7 9, w ∈ wsX6_twistOf := by decide +kernel
  unfold fX6_twistOf at h
  refine j_aload_n hx hb dX6_twistOf_0 rfl (lv_at hl 0 rfl) ?_
  refine j_get (v := jR b (y0 + 3)) hx hb hts hinX7 hown hK hP hky0 (by decide) rfl 2 (by decide) (hts (.fieldLink RX6 19 "CardBand$Weave" "twists" "[I") (by decide +kernel)) rfl rfl dX6_twistOf_1 ?_
  refine j_aload_n hx hb dX6_twistOf_4 rfl (lv_at hl 1 rfl) ?_
  refine j_iload_n hx hb dX6_twistOf_5 rfl (lv_at hl 2 rfl) ?_
  obtain ⟨v2, e1, h⟩ := ob_I h
  refine jc_SI (As := [jR b y1, jI y2]) (rest := [jR b (y0 + 3)]) ⟨hx, hb, hml, hown, hts⟩ hK hP hS (m_X6_firstCardOf l D b cs N hky1 e1) (va_cwS 2 hts gX6_twistOf_X6_firstCardOf rfl rfl rfl (by decide +kernel) ⟨Nat.le_of_ble_eq_true rfl, Nat.le_of_ble_eq_true rfl⟩) rfl hl.1 rfl (Nat.le_of_ble_eq_true rfl) dX6_twistOf_6 ⟨Nat.zero_le _, Nat.zero_le _⟩ (fun H locs hP hS => ?_)
  refine j_bipush hx hb dX6_twistOf_9 (by decide) ?_
  refine j_iand hx hb dX6_twistOf_11 ?_
  obtain ⟨v3, e4, h⟩ := ob_I h
  refine j_iaload hx hb hK hP (kX7_3 hky0) e4 dX6_twistOf_12 ?_
  exact j_retI hx hb hK hP hS hr hlk (Option.some.inj h) dX6_twistOf_13
def fX6_countUntwist_l4 (N : Nat) (y0 : Nat) (y1 : Nat) (μ : Mm) : Nat → Int → Int → Option (Int)
  | 0, _, _ => none
  | n1 + 1, x2_2, x3_3 =>
    if wr (gI μ y1 7) ≤ wr x3_3 then (some x2_2) else (Option.bind (fX6_twistOf N y0 y1 x3_3 μ) (fun v6 => (fX6_countUntwist_l4 N y0 y1 μ n1) (if wr x2_2 < wr (if 0 ≤ wr v6 then v6 else 0 - v6) then (if 0 ≤ wr v6 then v6 else 0 - v6) else x2_2) (x3_3 + 1)))
def fX6_countUntwist (N : Nat) (y0 : Nat) (y1 : Nat) (μ : Mm) : Option (Int) :=
    fX6_countUntwist_l4 N y0 y1 μ N 0 0
abbrev rmX6_countUntwist : Room := { frames := 3, cells := 0, slots := 0, locals := 66 }
set_option maxHeartbeats 4000000 in
set_option maxRecDepth 100000 in
theorem m_X6_countUntwist (l : Launch) (D : va_G) (b : Nat) (cs : CS) (N : Nat) {μ : Mm} {y0 y1 : Nat} {r : Int} (hky0 : kd y0 = 5) (hky1 : kd y1 = 4) (h : fX6_countUntwist N y0 y1 μ = some r) : MI l yX6_countUntwist wsX6_countUntwist rmX6_countUntwist D b cs [jR b y0, jR b y1] μ μ r := by
  refine met_in (cc := cX6_countUntwist) (maxL := 4) (ret := some .int) (lv0 := [(0, jR b y0), (1, jR b y1)]) (by decide +kernel) rfl (Nat.le_of_ble_eq_true rfl) rfl ?_
  intro p e s m args below meth c hx hb hr hlk hml hown hts hP hK ls hl
  have hown : s.vm.findClass RX6 = some m.cls := hown
  have hS : va_S (bA b) s.heap s.heap [] := va_S.rf
  have hinX5 : ∀ w ∈ u_ws RX5 TX5 9, w ∈ wsX6_countUntwist := by decide +kernel
  unfold fX6_countUntwist at h
  refine j_iconst hx hb dX6_countUntwist_0 ?_
  refine j_istore_n (lv2 := [(2, jI 0), (0, jR b y0), (1, jR b y1)]) hx hb dX6_countUntwist_1 rfl hl (by decide) rfl (fun ls hl => ?_)
  refine j_iconst hx hb dX6_countUntwist_2 ?_
  refine j_istore_n (lv2 := [(3, jI 0), (2, jI 0), (0, jR b y0), (1, jR b y1)]) hx hb dX6_countUntwist_3 rfl hl (by decide) rfl (fun ls hl => ?_)
  have hl4_1 : ∀ (n0 : Nat) (x2_2 : Int) (x3_3 : Int) (H : Heap) (locs : List Loc) (ls : Array Slot), va_P D vwCl (wl b cs μ) H → va_S (bA b) s.heap H locs → lv_has ls 4 [(0, jR b y0), (1, jR b y1), (2, jI x2_2), (3, jI x3_3)] → fX6_countUntwist_l4 N y0 y1 μ n0 x2_2 x3_3 = some r → W p l e rmX6_countUntwist s m args below meth c H locs 0 0 (MQ below (QI D b cs μ r) args s 0 0 (bA b)) (F0 m 4 ls []) := by
    intro n0
    induction n0 with
    | zero => intro x2_2 x3_3 H locs ls hP hS hl h; rw [fX6_countUntwist_l4] at h; cases h
    | succ n1 ih4_1 =>
      intro x2_2 x3_3 H locs ls hP hS hl h
      rw [fX6_countUntwist_l4] at h
      refine j_iload_n hx hb dX6_countUntwist_4 rfl (lv_at hl 3 rfl) ?_
      refine j_aload_n hx hb dX6_countUntwist_5 rfl (lv_at hl 1 rfl) ?_
      refine j_get (v := jI (gI μ y1 7)) hx hb hts hinX5 hown hK hP hky1 (by decide) rfl 7 (by decide) (hts (.fieldLink RX6 34 "CardBand$Threading" "packs" "I") (by decide +kernel)) rfl (by rw [jI_g]; rfl) dX6_countUntwist_6 ?_
      refine j_icmp_ge (A := wr x3_3) (B := wr (gI μ y1 7)) (tgt := 32) hx hb rfl rfl dX6_countUntwist_9 (by decide) (fun q4 => ?_) (fun q4 => ?_)
      · replace h := (if_pos q4).symm.trans h
        refine j_iload_n hx hb dX6_countUntwist_32 rfl (lv_at hl 2 rfl) ?_
        exact j_retI hx hb hK hP hS hr hlk (Option.some.inj h) dX6_countUntwist_33
      · replace h := (if_neg q4).symm.trans h
        refine j_iload_n hx hb dX6_countUntwist_12 rfl (lv_at hl 2 rfl) ?_
        refine j_aload_n hx hb dX6_countUntwist_13 rfl (lv_at hl 0 rfl) ?_
        refine j_aload_n hx hb dX6_countUntwist_14 rfl (lv_at hl 1 rfl) ?_
        refine j_iload_n hx hb dX6_countUntwist_15 rfl (lv_at hl 3 rfl) ?_
        obtain ⟨v6, e5, h⟩ := ob_I h
        refine jc_SI (As := [jR b y0, jR b y1, jI x3_3]) (rest := [jI x2_2]) ⟨hx, hb, hml, hown, hts⟩ hK hP hS (m_X6_twistOf l D b cs N hky0 hky1 e5) (va_cwS 3 hts gX6_countUntwist_X6_twistOf rfl rfl rfl (by decide +kernel) ⟨Nat.le_of_ble_eq_true rfl, Nat.le_of_ble_eq_true rfl⟩) rfl hl.1 rfl (Nat.le_of_ble_eq_true rfl) dX6_countUntwist_16 ⟨Nat.zero_le _, Nat.zero_le _⟩ (fun H locs hP hS => ?_)
        refine j_abs hx hb hml hl.1 hown (hts (.methodLink RX6 41 Lib.Math.abs.name) (by decide +kernel)) (hts (.static Lib.Math.abs.name) (by decide +kernel)) (hts (.initialized "java/lang/Math") (by decide +kernel)) (hts (.code Lib.Math.abs.name Lib.Math.abs.code 1 (some .int)) (by decide +kernel)) (Nat.le_of_ble_eq_true rfl) (Nat.le_of_ble_eq_true rfl) (Nat.zero_le _) (Nat.zero_le _) dX6_countUntwist_19 ?_
        refine j_max hx hb hml hl.1 hown (hts (.methodLink RX6 47 Lib.Math.max.name) (by decide +kernel)) (hts (.static Lib.Math.max.name) (by decide +kernel)) (hts (.initialized "java/lang/Math") (by decide +kernel)) (hts (.code Lib.Math.max.name Lib.Math.max.code 2 (some .int)) (by decide +kernel)) (Nat.le_of_ble_eq_true rfl) (Nat.le_of_ble_eq_true rfl) (Nat.zero_le _) (Nat.zero_le _) dX6_countUntwist_22 ?_
        refine j_istore_n (lv2 := [(2, jI (if wr x2_2 < wr (if 0 ≤ wr v6 then v6 else 0 - v6) then (if 0 ≤ wr v6 then v6 else 0 - v6) else x2_2)), (0, jR b y0), (1, jR b y1), (3, jI x3_3)]) hx hb dX6_countUntwist_25 rfl hl (by decide) rfl (fun ls hl => ?_)
        refine j_iinc (k := 3) (lv2 := [(3, jI (x3_3 + 1)), (2, jI (if wr x2_2 < wr (if 0 ≤ wr v6 then v6 else 0 - v6) then (if 0 ≤ wr v6 then v6 else 0 - v6) else x2_2)), (0, jR b y0), (1, jR b y1)]) hx hb dX6_countUntwist_26 hl rfl (by decide) rfl (fun ls hl => ?_)
        refine j_goto (tgt := 4) hx hb dX6_countUntwist_29 (by decide) ?_
        exact ih4_1 _ _ _ _ _ hP hS (lv_sub hl [2, 3, 1, 0] rfl) h
  exact hl4_1 N _ _ _ _ _ hP hS (lv_sub hl [2, 3, 1, 0] rfl) h
def fX6_firstHome_j41 (N : Nat) (x2_2 : Int) (x3_3 : Int) (rec9_1 : Int → Int → Option (Int)) : Int → Option (Int) := fun s8 =>
    rec9_1 ((x2_2 * 3) + s8) (x3_3 + (-1))
def fX6_firstHome_l9 (N : Nat) (y0 : Nat) (y1 : Nat) (μ : Mm) : Nat → Int → Int → Option (Int)
  | 0, _, _ => none
  | n1 + 1, x2_2, x3_3 =>
    if wr x3_3 < 0 then (some x2_2) else (Option.bind (fX6_standOf N y0 y1 x3_3 μ) (fun v6 => if wr v6 = 0 then (fX6_firstHome_j41 N x2_2 x3_3 (fX6_firstHome_l9 N y0 y1 μ n1) 0) else (if wr v6 = 1 then (fX6_firstHome_j41 N x2_2 x3_3 (fX6_firstHome_l9 N y0 y1 μ n1) 2) else (fX6_firstHome_j41 N x2_2 x3_3 (fX6_firstHome_l9 N y0 y1 μ n1) 1))))
def fX6_firstHome (N : Nat) (y0 : Nat) (y1 : Nat) (μ : Mm) : Option (Int) :=
    fX6_firstHome_l9 N y0 y1 μ N 0 ((gI μ y1 7) - 1)
abbrev rmX6_firstHome : Room := { frames := 3, cells := 0, slots := 0, locals := 66 }
set_option maxHeartbeats 4000000 in
set_option maxRecDepth 100000 in
theorem m_X6_firstHome (l : Launch) (D : va_G) (b : Nat) (cs : CS) (N : Nat) {μ : Mm} {y0 y1 : Nat} {r : Int} (hky0 : kd y0 = 5) (hky1 : kd y1 = 4) (h : fX6_firstHome N y0 y1 μ = some r) : MI l yX6_firstHome wsX6_firstHome rmX6_firstHome D b cs [jR b y0, jR b y1] μ μ r := by
  refine met_in (cc := cX6_firstHome) (maxL := 6) (ret := some .int) (lv0 := [(0, jR b y0), (1, jR b y1)]) (by decide +kernel) rfl (Nat.le_of_ble_eq_true rfl) rfl ?_
  intro p e s m args below meth c hx hb hr hlk hml hown hts hP hK ls hl
  have hown : s.vm.findClass RX6 = some m.cls := hown
  have hS : va_S (bA b) s.heap s.heap [] := va_S.rf
  have hinX5 : ∀ w ∈ u_ws RX5 TX5 9, w ∈ wsX6_firstHome := by decide +kernel
  unfold fX6_firstHome at h
  refine j_iconst hx hb dX6_firstHome_0 ?_
  refine j_istore_n (lv2 := [(2, jI 0), (0, jR b y0), (1, jR b y1)]) hx hb dX6_firstHome_1 rfl hl (by decide) rfl (fun ls hl => ?_)
  refine j_aload_n hx hb dX6_firstHome_2 rfl (lv_at hl 2 rfl) ?_
  refine j_get (v := jI (gI μ y1 7)) hx hb hts hinX5 hown hK hP hky1 (by decide) rfl 7 (by decide) (hts (.fieldLink RX6 34 "CardBand$Threading" "packs" "I") (by decide +kernel)) rfl (by rw [jI_g]; rfl) dX6_firstHome_3 ?_
  refine j_iconst hx hb dX6_firstHome_6 ?_
  refine j_isub hx hb dX6_firstHome_7 ?_
  refine j_istore_n (lv2 := [(3, jI ((gI μ y1 7) - 1)), (2, jI 0), (0, jR b y0), (1, jR b y1)]) hx hb dX6_firstHome_8 rfl hl (by decide) rfl (fun ls hl => ?_)
  have hl9_1 : ∀ (n0 : Nat) (x2_2 : Int) (x3_3 : Int) (H : Heap) (locs : List Loc) (ls : Array Slot), va_P D vwCl (wl b cs μ) H → va_S (bA b) s.heap H locs → lv_has ls 6 [(0, jR b y0), (1, jR b y1), (2, jI x2_2), (3, jI x3_3)] → fX6_firstHome_l9 N y0 y1 μ n0 x2_2 x3_3 = some r → W p l e rmX6_firstHome s m args below meth c H locs 0 0 (MQ below (QI D b cs μ r) args s 0 0 (bA b)) (F0 m 9 ls []) := by
    intro n0
    induction n0 with
    | zero => intro x2_2 x3_3 H locs ls hP hS hl h; rw [fX6_firstHome_l9] at h; cases h
    | succ n1 ih9_1 =>
      intro x2_2 x3_3 H locs ls hP hS hl h
      rw [fX6_firstHome_l9] at h
      refine j_iload_n hx hb dX6_firstHome_9 rfl (lv_at hl 3 rfl) ?_
      refine j_if_lt (A := wr x3_3) (tgt := 56) hx hb rfl dX6_firstHome_10 (by decide) (fun q4 => ?_) (fun q4 => ?_)
      · replace h := (if_pos q4).symm.trans h
        refine j_iload_n hx hb dX6_firstHome_56 rfl (lv_at hl 2 rfl) ?_
        exact j_retI hx hb hK hP hS hr hlk (Option.some.inj h) dX6_firstHome_57
      · replace h := (if_neg q4).symm.trans h
        refine j_aload_n hx hb dX6_firstHome_13 rfl (lv_at hl 0 rfl) ?_
        refine j_aload_n hx hb dX6_firstHome_14 rfl (lv_at hl 1 rfl) ?_
        refine j_iload_n hx hb dX6_firstHome_15 rfl (lv_at hl 3 rfl) ?_
        obtain ⟨v6, e5, h⟩ := ob_I h
        refine jc_SI (As := [jR b y0, jR b y1, jI x3_3]) (rest := []) ⟨hx, hb, hml, hown, hts⟩ hK hP hS (m_X6_standOf l D b cs N hky0 hky1 e5) (va_cwS 3 hts gX6_firstHome_X6_standOf rfl rfl rfl (by decide +kernel) ⟨Nat.le_of_ble_eq_true rfl, Nat.le_of_ble_eq_true rfl⟩) rfl hl.1 rfl (Nat.le_of_ble_eq_true rfl) dX6_firstHome_16 ⟨Nat.zero_le _, Nat.zero_le _⟩ (fun H locs hP hS => ?_)
        refine j_istore (lv2 := [(4, jI v6), (0, jR b y0), (1, jR b y1), (2, jI x2_2), (3, jI x3_3)]) hx hb dX6_firstHome_19 hl (by decide) rfl (fun ls hl => ?_)
        refine j_iload hx hb dX6_firstHome_21 (lv_at hl 0 rfl) ?_
        have hj41_7 : ∀ (s8 : Int) (H : Heap) (locs : List Loc) (ls : Array Slot), va_P D vwCl (wl b cs μ) H → va_S (bA b) s.heap H locs → lv_has ls 6 [(0, jR b y0), (1, jR b y1), (2, jI x2_2), (3, jI x3_3)] → fX6_firstHome_j41 N x2_2 x3_3 (fX6_firstHome_l9 N y0 y1 μ n1) s8 = some r → W p l e rmX6_firstHome s m args below meth c H locs 0 0 (MQ below (QI D b cs μ r) args s 0 0 (bA b)) (F0 m 41 ls [jI s8]) := by
          intro s8 H locs ls hP hS hl h
          unfold fX6_firstHome_j41 at h
          refine j_istore (lv2 := [(5, jI s8), (0, jR b y0), (1, jR b y1), (2, jI x2_2), (3, jI x3_3)]) hx hb dX6_firstHome_41 hl (by decide) rfl (fun ls hl => ?_)
          refine j_iload_n hx hb dX6_firstHome_43 rfl (lv_at hl 3 rfl) ?_
          refine j_iconst hx hb dX6_firstHome_44 ?_
          refine j_imul hx hb dX6_firstHome_45 ?_
          refine j_iload hx hb dX6_firstHome_46 (lv_at hl 0 rfl) ?_
          refine j_iadd hx hb dX6_firstHome_48 ?_
          refine j_istore_n (lv2 := [(2, jI ((x2_2 * 3) + s8)), (5, jI s8), (0, jR b y0), (1, jR b y1), (3, jI x3_3)]) hx hb dX6_firstHome_49 rfl hl (by decide) rfl (fun ls hl => ?_)
          refine j_iinc (k := 4) (lv2 := [(3, jI (x3_3 + (-1))), (2, jI ((x2_2 * 3) + s8)), (5, jI s8), (0, jR b y0), (1, jR b y1)]) hx hb dX6_firstHome_50 hl rfl (by decide) rfl (fun ls hl => ?_)
          refine j_goto (tgt := 9) hx hb dX6_firstHome_53 (by decide) ?_
          exact ih9_1 _ _ _ _ _ hP hS (lv_sub hl [3, 4, 1, 0] rfl) h
        refine j_if_ne (A := wr v6) (tgt := 30) hx hb rfl dX6_firstHome_23 (by decide) (fun q9 => ?_) (fun q9 => ?_)
        · replace h := (if_neg q9).symm.trans h
          refine j_iload hx hb dX6_firstHome_30 (lv_at hl 0 rfl) ?_
          refine j_iconst hx hb dX6_firstHome_32 ?_
          refine j_icmp_ne (A := wr v6) (B := 1) (tgt := 40) hx hb rfl (by decide) dX6_firstHome_33 (by decide) (fun q10 => ?_) (fun q10 => ?_)
          · replace h := (if_neg q10).symm.trans h
            refine j_iconst hx hb dX6_firstHome_40 ?_
            exact hj41_7 _ _ _ _ hP hS (lv_sub hl [1, 2, 3, 4] rfl) h
          · replace h := (if_pos q10).symm.trans h
            refine j_iconst hx hb dX6_firstHome_36 ?_
            refine j_goto (tgt := 41) hx hb dX6_firstHome_37 (by decide) ?_
            exact hj41_7 _ _ _ _ hP hS (lv_sub hl [1, 2, 3, 4] rfl) h
        · replace h := (if_pos q9).symm.trans h
          refine j_iconst hx hb dX6_firstHome_26 ?_
          refine j_goto (tgt := 41) hx hb dX6_firstHome_27 (by decide) ?_
          exact hj41_7 _ _ _ _ hP hS (lv_sub hl [1, 2, 3, 4] rfl) h
  exact hl9_1 N _ _ _ _ _ hP hS (lv_sub hl [2, 3, 1, 0] rfl) h
def fX6_firstTogether_j74 (N : Nat) (x5_2 : Int) (x6_3 : Int) (rec15_1 : Int → Int → Option (Int)) : Int → Option (Int) := fun x8_10 =>
    rec15_1 ((x5_2 * 3) + x8_10) (x6_3 + (-1))
def fX6_firstTogether_l15 (N : Nat) (y0 : Nat) (y1 : Nat) (y2 : Int) (y3 : Int) (y4 : Int) (μ : Mm) : Nat → Int → Int → Option (Int)
  | 0, _, _ => none
  | n1 + 1, x5_2, x6_3 =>
    if wr x6_3 < 0 then (some x5_2) else (Option.bind (ldA μ (y1 + 4) 4 x6_3) (fun v5 => Option.bind (fX6_countForPack N y0 y1 (andI y2 v5) y3 μ) (fun v8 => if wr v8 = wr y4 then (if wr y4 ≤ 0 then (fX6_firstTogether_j74 N x5_2 x6_3 (fX6_firstTogether_l15 N y0 y1 y2 y3 y4 μ n1) 0) else (Option.bind (fX6_showAhead N y0 y1 (andI y2 v5) y3 (y4 - 1) μ) (fun v14 => if wr v14 = 0 then (fX6_firstTogether_j74 N x5_2 x6_3 (fX6_firstTogether_l15 N y0 y1 y2 y3 y4 μ n1) 2) else (fX6_firstTogether_j74 N x5_2 x6_3 (fX6_firstTogether_l15 N y0 y1 y2 y3 y4 μ n1) 1)))) else (fX6_firstTogether_j74 N x5_2 x6_3 (fX6_firstTogether_l15 N y0 y1 y2 y3 y4 μ n1) 0))))
def fX6_firstTogether (N : Nat) (y0 : Nat) (y1 : Nat) (y2 : Int) (y3 : Int) (y4 : Int) (μ : Mm) : Option (Int) :=
    fX6_firstTogether_l15 N y0 y1 y2 y3 y4 μ N 0 ((if wr 4 < wr (gI μ y1 7) then 4 else (gI μ y1 7)) - 1)
abbrev rmX6_firstTogether : Room := { frames := 4, cells := 0, slots := 0, locals := 92 }
set_option maxHeartbeats 4000000 in
set_option maxRecDepth 100000 in
theorem m_X6_firstTogether (l : Launch) (D : va_G) (b : Nat) (cs : CS) (N : Nat) {μ : Mm} {y0 y1 : Nat} {y2 y3 y4 : Int} {r : Int} (hky0 : kd y0 = 5) (hky1 : kd y1 = 4) (h : fX6_firstTogether N y0 y1 y2 y3 y4 μ = some r) : MI l yX6_firstTogether wsX6_firstTogether rmX6_firstTogether D b cs [jR b y0, jR b y1, jI y2, jI y3, jI y4] μ μ r := by
  refine met_in (cc := cX6_firstTogether) (maxL := 9) (ret := some .int) (lv0 := [(0, jR b y0), (1, jR b y1), (2, jI y2), (3, jI y3), (4, jI y4)]) (by decide +kernel) rfl (Nat.le_of_ble_eq_true rfl) rfl ?_
  intro p e s m args below meth c hx hb hr hlk hml hown hts hP hK ls hl
  have hown : s.vm.findClass RX6 = some m.cls := hown
  have hS : va_S (bA b) s.heap s.heap [] := va_S.rf
  have hinX5 : ∀ w ∈ u_ws RX5 TX5 9, w ∈ wsX6_firstTogether := by decide +kernel
  unfold fX6_firstTogether at h
  refine j_iconst hx hb dX6_firstTogether_0 ?_
  refine j_istore (lv2 := [(5, jI 0), (0, jR b y0), (1, jR b y1), (2, jI y2), (3, jI y3), (4, jI y4)]) hx hb dX6_firstTogether_1 hl (by decide) rfl (fun ls hl => ?_)
  refine j_aload_n hx hb dX6_firstTogether_3 rfl (lv_at hl 2 rfl) ?_
  refine j_get (v := jI (gI μ y1 7)) hx hb hts hinX5 hown hK hP hky1 (by decide) rfl 7 (by decide) (hts (.fieldLink RX6 34 "CardBand$Threading" "packs" "I") (by decide +kernel)) rfl (by rw [jI_g]; rfl) dX6_firstTogether_4 ?_
  refine j_iconst hx hb dX6_firstTogether_7 ?_
  refine j_min hx hb hml hl.1 hown (hts (.methodLink RX6 57 Lib.Math.min.name) (by decide +kernel)) (hts (.static Lib.Math.min.name) (by decide +kernel)) (hts (.initialized "java/lang/Math") (by decide +kernel)) (hts (.code Lib.Math.min.name Lib.Math.min.code 2 (some .int)) (by decide +kernel)) (Nat.le_of_ble_eq_true rfl) (Nat.le_of_ble_eq_true rfl) (Nat.zero_le _) (Nat.zero_le _) dX6_firstTogether_8 ?_
  refine j_iconst hx hb dX6_firstTogether_11 ?_
  refine j_isub hx hb dX6_firstTogether_12 ?_
  refine j_istore (lv2 := [(6, jI ((if wr 4 < wr (gI μ y1 7) then 4 else (gI μ y1 7)) - 1)), (5, jI 0), (0, jR b y0), (1, jR b y1), (2, jI y2), (3, jI y3), (4, jI y4)]) hx hb dX6_firstTogether_13 hl (by decide) rfl (fun ls hl => ?_)
  have hl15_1 : ∀ (n0 : Nat) (x5_2 : Int) (x6_3 : Int) (H : Heap) (locs : List Loc) (ls : Array Slot), va_P D vwCl (wl b cs μ) H → va_S (bA b) s.heap H locs → lv_has ls 9 [(0, jR b y0), (1, jR b y1), (2, jI y2), (3, jI y3), (4, jI y4), (5, jI x5_2), (6, jI x6_3)] → fX6_firstTogether_l15 N y0 y1 y2 y3 y4 μ n0 x5_2 x6_3 = some r → W p l e rmX6_firstTogether s m args below meth c H locs 0 0 (MQ below (QI D b cs μ r) args s 0 0 (bA b)) (F0 m 15 ls []) := by
    intro n0
    induction n0 with
    | zero => intro x5_2 x6_3 H locs ls hP hS hl h; rw [fX6_firstTogether_l15] at h; cases h
    | succ n1 ih15_1 =>
      intro x5_2 x6_3 H locs ls hP hS hl h
      rw [fX6_firstTogether_l15] at h
      refine j_iload hx hb dX6_firstTogether_15 (lv_at hl 6 rfl) ?_
      refine j_if_lt (A := wr x6_3) (tgt := 89) hx hb rfl dX6_firstTogether_17 (by decide) (fun q4 => ?_) (fun q4 => ?_)
      · replace h := (if_pos q4).symm.trans h
        refine j_iload hx hb dX6_firstTogether_89 (lv_at hl 5 rfl) ?_
        exact j_retI hx hb hK hP hS hr hlk (Option.some.inj h) dX6_firstTogether_91
      · replace h := (if_neg q4).symm.trans h
        refine j_iload_n hx hb dX6_firstTogether_20 rfl (lv_at hl 2 rfl) ?_
        refine j_aload_n hx hb dX6_firstTogether_21 rfl (lv_at hl 1 rfl) ?_
        refine j_get (v := jR b (y1 + 4)) hx hb hts hinX5 hown hK hP hky1 (by decide) rfl 3 (by decide) (hts (.fieldLink RX6 67 "CardBand$Threading" "packSets" "[I") (by decide +kernel)) rfl rfl dX6_firstTogether_22 ?_
        refine j_iload hx hb dX6_firstTogether_25 (lv_at hl 6 rfl) ?_
        obtain ⟨v5, e6, h⟩ := ob_I h
        refine j_iaload hx hb hK hP (kX5_4 hky1) e6 dX6_firstTogether_27 ?_
        refine j_iand hx hb dX6_firstTogether_28 ?_
        refine j_istore (lv2 := [(7, jI (andI y2 v5)), (0, jR b y0), (1, jR b y1), (2, jI y2), (3, jI y3), (4, jI y4), (5, jI x5_2), (6, jI x6_3)]) hx hb dX6_firstTogether_29 hl (by decide) rfl (fun ls hl => ?_)
        refine j_iconst hx hb dX6_firstTogether_31 ?_
        refine j_istore (lv2 := [(8, jI 0), (7, jI (andI y2 v5)), (0, jR b y0), (1, jR b y1), (2, jI y2), (3, jI y3), (4, jI y4), (5, jI x5_2), (6, jI x6_3)]) hx hb dX6_firstTogether_32 hl (by decide) rfl (fun ls hl => ?_)
        refine j_aload_n hx hb dX6_firstTogether_34 rfl (lv_at hl 2 rfl) ?_
        refine j_aload_n hx hb dX6_firstTogether_35 rfl (lv_at hl 3 rfl) ?_
        refine j_iload hx hb dX6_firstTogether_36 (lv_at hl 1 rfl) ?_
        refine j_iload_n hx hb dX6_firstTogether_38 rfl (lv_at hl 5 rfl) ?_
        obtain ⟨v8, e7, h⟩ := ob_I h
        refine jc_SI (As := [jR b y0, jR b y1, jI (andI y2 v5), jI y3]) (rest := []) ⟨hx, hb, hml, hown, hts⟩ hK hP hS (m_X6_countForPack l D b cs N hky0 hky1 e7) (va_cwS 4 hts gX6_firstTogether_X6_countForPack rfl rfl rfl (by decide +kernel) ⟨Nat.le_of_ble_eq_true rfl, Nat.le_of_ble_eq_true rfl⟩) rfl hl.1 rfl (Nat.le_of_ble_eq_true rfl) dX6_firstTogether_39 ⟨Nat.zero_le _, Nat.zero_le _⟩ (fun H locs hP hS => ?_)
        refine j_iload hx hb dX6_firstTogether_42 (lv_at hl 6 rfl) ?_
        have hj74_9 : ∀ (x8_10 : Int) (H : Heap) (locs : List Loc) (ls : Array Slot), va_P D vwCl (wl b cs μ) H → va_S (bA b) s.heap H locs → lv_has ls 9 [(0, jR b y0), (1, jR b y1), (2, jI y2), (3, jI y3), (4, jI y4), (5, jI x5_2), (6, jI x6_3), (8, jI x8_10)] → fX6_firstTogether_j74 N x5_2 x6_3 (fX6_firstTogether_l15 N y0 y1 y2 y3 y4 μ n1) x8_10 = some r → W p l e rmX6_firstTogether s m args below meth c H locs 0 0 (MQ below (QI D b cs μ r) args s 0 0 (bA b)) (F0 m 74 ls []) := by
          intro x8_10 H locs ls hP hS hl h
          unfold fX6_firstTogether_j74 at h
          refine j_iload hx hb dX6_firstTogether_74 (lv_at hl 5 rfl) ?_
          refine j_iconst hx hb dX6_firstTogether_76 ?_
          refine j_imul hx hb dX6_firstTogether_77 ?_
          refine j_iload hx hb dX6_firstTogether_78 (lv_at hl 7 rfl) ?_
          refine j_iadd hx hb dX6_firstTogether_80 ?_
          refine j_istore (lv2 := [(5, jI ((x5_2 * 3) + x8_10)), (0, jR b y0), (1, jR b y1), (2, jI y2), (3, jI y3), (4, jI y4), (6, jI x6_3), (8, jI x8_10)]) hx hb dX6_firstTogether_81 hl (by decide) rfl (fun ls hl => ?_)
          refine j_iinc (k := 6) (lv2 := [(6, jI (x6_3 + (-1))), (5, jI ((x5_2 * 3) + x8_10)), (0, jR b y0), (1, jR b y1), (2, jI y2), (3, jI y3), (4, jI y4), (8, jI x8_10)]) hx hb dX6_firstTogether_83 hl rfl (by decide) rfl (fun ls hl => ?_)
          refine j_goto (tgt := 15) hx hb dX6_firstTogether_86 (by decide) ?_
          exact ih15_1 _ _ _ _ _ hP hS (lv_sub hl [2, 3, 4, 5, 6, 1, 0] rfl) h
        refine j_icmp_ne (A := wr v8) (B := wr y4) (tgt := 74) hx hb rfl rfl dX6_firstTogether_44 (by decide) (fun q11 => ?_) (fun q11 => ?_)
        · replace h := (if_neg q11).symm.trans h
          exact hj74_9 _ _ _ _ hP hS (lv_sub hl [2, 3, 4, 5, 6, 7, 8, 0] rfl) h
        · replace h := (if_pos q11).symm.trans h
          refine j_iload hx hb dX6_firstTogether_47 (lv_at hl 6 rfl) ?_
          refine j_if_le (A := wr y4) (tgt := 74) hx hb rfl dX6_firstTogether_49 (by decide) (fun q12 => ?_) (fun q12 => ?_)
          · replace h := (if_pos q12).symm.trans h
            exact hj74_9 _ _ _ _ hP hS (lv_sub hl [2, 3, 4, 5, 6, 7, 8, 0] rfl) h
          · replace h := (if_neg q12).symm.trans h
            refine j_aload_n hx hb dX6_firstTogether_52 rfl (lv_at hl 2 rfl) ?_
            refine j_aload_n hx hb dX6_firstTogether_53 rfl (lv_at hl 3 rfl) ?_
            refine j_iload hx hb dX6_firstTogether_54 (lv_at hl 1 rfl) ?_
            refine j_iload_n hx hb dX6_firstTogether_56 rfl (lv_at hl 5 rfl) ?_
            refine j_iload hx hb dX6_firstTogether_57 (lv_at hl 6 rfl) ?_
            refine j_iconst hx hb dX6_firstTogether_59 ?_
            refine j_isub hx hb dX6_firstTogether_60 ?_
            obtain ⟨v14, e13, h⟩ := ob_I h
            refine jc_SI (As := [jR b y0, jR b y1, jI (andI y2 v5), jI y3, jI (y4 - 1)]) (rest := []) ⟨hx, hb, hml, hown, hts⟩ hK hP hS (m_X6_showAhead l D b cs N hky0 hky1 e13) (va_cwS 5 hts gX6_firstTogether_X6_showAhead rfl rfl rfl (by decide +kernel) ⟨Nat.le_of_ble_eq_true rfl, Nat.le_of_ble_eq_true rfl⟩) rfl hl.1 rfl (Nat.le_of_ble_eq_true rfl) dX6_firstTogether_61 ⟨Nat.zero_le _, Nat.zero_le _⟩ (fun H locs hP hS => ?_)
            refine j_if_eq (A := wr v14) (tgt := 71) hx hb rfl dX6_firstTogether_64 (by decide) (fun q15 => ?_) (fun q15 => ?_)
            · replace h := (if_pos q15).symm.trans h
              refine j_iconst hx hb dX6_firstTogether_71 ?_
              refine j_istore (lv2 := [(8, jI 2), (7, jI (andI y2 v5)), (0, jR b y0), (1, jR b y1), (2, jI y2), (3, jI y3), (4, jI y4), (5, jI x5_2), (6, jI x6_3)]) hx hb dX6_firstTogether_72 hl (by decide) rfl (fun ls hl => ?_)
              exact hj74_9 _ _ _ _ hP hS (lv_sub hl [2, 3, 4, 5, 6, 7, 8, 0] rfl) h
            · replace h := (if_neg q15).symm.trans h
              refine j_iconst hx hb dX6_firstTogether_67 ?_
              refine j_goto (tgt := 72) hx hb dX6_firstTogether_68 (by decide) ?_
              refine j_istore (lv2 := [(8, jI 1), (7, jI (andI y2 v5)), (0, jR b y0), (1, jR b y1), (2, jI y2), (3, jI y3), (4, jI y4), (5, jI x5_2), (6, jI x6_3)]) hx hb dX6_firstTogether_72 hl (by decide) rfl (fun ls hl => ?_)
              exact hj74_9 _ _ _ _ hP hS (lv_sub hl [2, 3, 4, 5, 6, 7, 8, 0] rfl) h
  exact hl15_1 N _ _ _ _ _ hP hS (lv_sub hl [2, 3, 4, 5, 6, 1, 0] rfl) h
def fX6_firstUntwist_j40 (N : Nat) (x2_2 : Int) (x3_3 : Int) (rec9_1 : Int → Int → Option (Int)) : Int → Option (Int) := fun s8 =>
    rec9_1 ((x2_2 * 3) + s8) (x3_3 + (-1))
def fX6_firstUntwist_l9 (N : Nat) (y0 : Nat) (y1 : Nat) (μ : Mm) : Nat → Int → Int → Option (Int)
  | 0, _, _ => none
  | n1 + 1, x2_2, x3_3 =>
    if wr x3_3 < 0 then (some x2_2) else (Option.bind (fX6_twistOf N y0 y1 x3_3 μ) (fun v6 => if wr v6 = 0 then (fX6_firstUntwist_j40 N x2_2 x3_3 (fX6_firstUntwist_l9 N y0 y1 μ n1) 0) else (if wr v6 ≤ 0 then (fX6_firstUntwist_j40 N x2_2 x3_3 (fX6_firstUntwist_l9 N y0 y1 μ n1) 1) else (fX6_firstUntwist_j40 N x2_2 x3_3 (fX6_firstUntwist_l9 N y0 y1 μ n1) 2))))
def fX6_firstUntwist (N : Nat) (y0 : Nat) (y1 : Nat) (μ : Mm) : Option (Int) :=
    fX6_firstUntwist_l9 N y0 y1 μ N 0 ((gI μ y1 7) - 1)
abbrev rmX6_firstUntwist : Room := { frames := 3, cells := 0, slots := 0, locals := 66 }
set_option maxHeartbeats 4000000 in
set_option maxRecDepth 100000 in
theorem m_X6_firstUntwist (l : Launch) (D : va_G) (b : Nat) (cs : CS) (N : Nat) {μ : Mm} {y0 y1 : Nat} {r : Int} (hky0 : kd y0 = 5) (hky1 : kd y1 = 4) (h : fX6_firstUntwist N y0 y1 μ = some r) : MI l yX6_firstUntwist wsX6_firstUntwist rmX6_firstUntwist D b cs [jR b y0, jR b y1] μ μ r := by
  refine met_in (cc := cX6_firstUntwist) (maxL := 6) (ret := some .int) (lv0 := [(0, jR b y0), (1, jR b y1)]) (by decide +kernel) rfl (Nat.le_of_ble_eq_true rfl) rfl ?_
  intro p e s m args below meth c hx hb hr hlk hml hown hts hP hK ls hl
  have hown : s.vm.findClass RX6 = some m.cls := hown
  have hS : va_S (bA b) s.heap s.heap [] := va_S.rf
  have hinX5 : ∀ w ∈ u_ws RX5 TX5 9, w ∈ wsX6_firstUntwist := by decide +kernel
  unfold fX6_firstUntwist at h
  refine j_iconst hx hb dX6_firstUntwist_0 ?_
  refine j_istore_n (lv2 := [(2, jI 0), (0, jR b y0), (1, jR b y1)]) hx hb dX6_firstUntwist_1 rfl hl (by decide) rfl (fun ls hl => ?_)
  refine j_aload_n hx hb dX6_firstUntwist_2 rfl (lv_at hl 2 rfl) ?_
  refine j_get (v := jI (gI μ y1 7)) hx hb hts hinX5 hown hK hP hky1 (by decide) rfl 7 (by decide) (hts (.fieldLink RX6 34 "CardBand$Threading" "packs" "I") (by decide +kernel)) rfl (by rw [jI_g]; rfl) dX6_firstUntwist_3 ?_
  refine j_iconst hx hb dX6_firstUntwist_6 ?_
  refine j_isub hx hb dX6_firstUntwist_7 ?_
  refine j_istore_n (lv2 := [(3, jI ((gI μ y1 7) - 1)), (2, jI 0), (0, jR b y0), (1, jR b y1)]) hx hb dX6_firstUntwist_8 rfl hl (by decide) rfl (fun ls hl => ?_)
  have hl9_1 : ∀ (n0 : Nat) (x2_2 : Int) (x3_3 : Int) (H : Heap) (locs : List Loc) (ls : Array Slot), va_P D vwCl (wl b cs μ) H → va_S (bA b) s.heap H locs → lv_has ls 6 [(0, jR b y0), (1, jR b y1), (2, jI x2_2), (3, jI x3_3)] → fX6_firstUntwist_l9 N y0 y1 μ n0 x2_2 x3_3 = some r → W p l e rmX6_firstUntwist s m args below meth c H locs 0 0 (MQ below (QI D b cs μ r) args s 0 0 (bA b)) (F0 m 9 ls []) := by
    intro n0
    induction n0 with
    | zero => intro x2_2 x3_3 H locs ls hP hS hl h; rw [fX6_firstUntwist_l9] at h; cases h
    | succ n1 ih9_1 =>
      intro x2_2 x3_3 H locs ls hP hS hl h
      rw [fX6_firstUntwist_l9] at h
      refine j_iload_n hx hb dX6_firstUntwist_9 rfl (lv_at hl 3 rfl) ?_
      refine j_if_lt (A := wr x3_3) (tgt := 55) hx hb rfl dX6_firstUntwist_10 (by decide) (fun q4 => ?_) (fun q4 => ?_)
      · replace h := (if_pos q4).symm.trans h
        refine j_iload_n hx hb dX6_firstUntwist_55 rfl (lv_at hl 2 rfl) ?_
        exact j_retI hx hb hK hP hS hr hlk (Option.some.inj h) dX6_firstUntwist_56
      · replace h := (if_neg q4).symm.trans h
        refine j_aload_n hx hb dX6_firstUntwist_13 rfl (lv_at hl 0 rfl) ?_
        refine j_aload_n hx hb dX6_firstUntwist_14 rfl (lv_at hl 1 rfl) ?_
        refine j_iload_n hx hb dX6_firstUntwist_15 rfl (lv_at hl 3 rfl) ?_
        obtain ⟨v6, e5, h⟩ := ob_I h
        refine jc_SI (As := [jR b y0, jR b y1, jI x3_3]) (rest := []) ⟨hx, hb, hml, hown, hts⟩ hK hP hS (m_X6_twistOf l D b cs N hky0 hky1 e5) (va_cwS 3 hts gX6_firstUntwist_X6_twistOf rfl rfl rfl (by decide +kernel) ⟨Nat.le_of_ble_eq_true rfl, Nat.le_of_ble_eq_true rfl⟩) rfl hl.1 rfl (Nat.le_of_ble_eq_true rfl) dX6_firstUntwist_16 ⟨Nat.zero_le _, Nat.zero_le _⟩ (fun H locs hP hS => ?_)
        refine j_istore (lv2 := [(4, jI v6), (0, jR b y0), (1, jR b y1), (2, jI x2_2), (3, jI x3_3)]) hx hb dX6_firstUntwist_19 hl (by decide) rfl (fun ls hl => ?_)
        refine j_iload hx hb dX6_firstUntwist_21 (lv_at hl 0 rfl) ?_
        have hj40_7 : ∀ (s8 : Int) (H : Heap) (locs : List Loc) (ls : Array Slot), va_P D vwCl (wl b cs μ) H → va_S (bA b) s.heap H locs → lv_has ls 6 [(0, jR b y0), (1, jR b y1), (2, jI x2_2), (3, jI x3_3)] → fX6_firstUntwist_j40 N x2_2 x3_3 (fX6_firstUntwist_l9 N y0 y1 μ n1) s8 = some r → W p l e rmX6_firstUntwist s m args below meth c H locs 0 0 (MQ below (QI D b cs μ r) args s 0 0 (bA b)) (F0 m 40 ls [jI s8]) := by
          intro s8 H locs ls hP hS hl h
          unfold fX6_firstUntwist_j40 at h
          refine j_istore (lv2 := [(5, jI s8), (0, jR b y0), (1, jR b y1), (2, jI x2_2), (3, jI x3_3)]) hx hb dX6_firstUntwist_40 hl (by decide) rfl (fun ls hl => ?_)
          refine j_iload_n hx hb dX6_firstUntwist_42 rfl (lv_at hl 3 rfl) ?_
          refine j_iconst hx hb dX6_firstUntwist_43 ?_
          refine j_imul hx hb dX6_firstUntwist_44 ?_
          refine j_iload hx hb dX6_firstUntwist_45 (lv_at hl 0 rfl) ?_
          refine j_iadd hx hb dX6_firstUntwist_47 ?_
          refine j_istore_n (lv2 := [(2, jI ((x2_2 * 3) + s8)), (5, jI s8), (0, jR b y0), (1, jR b y1), (3, jI x3_3)]) hx hb dX6_firstUntwist_48 rfl hl (by decide) rfl (fun ls hl => ?_)
          refine j_iinc (k := 4) (lv2 := [(3, jI (x3_3 + (-1))), (2, jI ((x2_2 * 3) + s8)), (5, jI s8), (0, jR b y0), (1, jR b y1)]) hx hb dX6_firstUntwist_49 hl rfl (by decide) rfl (fun ls hl => ?_)
          refine j_goto (tgt := 9) hx hb dX6_firstUntwist_52 (by decide) ?_
          exact ih9_1 _ _ _ _ _ hP hS (lv_sub hl [3, 4, 1, 0] rfl) h
        refine j_if_ne (A := wr v6) (tgt := 30) hx hb rfl dX6_firstUntwist_23 (by decide) (fun q9 => ?_) (fun q9 => ?_)
        · replace h := (if_neg q9).symm.trans h
          refine j_iload hx hb dX6_firstUntwist_30 (lv_at hl 0 rfl) ?_
          refine j_if_le (A := wr v6) (tgt := 39) hx hb rfl dX6_firstUntwist_32 (by decide) (fun q10 => ?_) (fun q10 => ?_)
          · replace h := (if_pos q10).symm.trans h
            refine j_iconst hx hb dX6_firstUntwist_39 ?_
            exact hj40_7 _ _ _ _ hP hS (lv_sub hl [1, 2, 3, 4] rfl) h
          · replace h := (if_neg q10).symm.trans h
            refine j_iconst hx hb dX6_firstUntwist_35 ?_
            refine j_goto (tgt := 40) hx hb dX6_firstUntwist_36 (by decide) ?_
            exact hj40_7 _ _ _ _ hP hS (lv_sub hl [1, 2, 3, 4] rfl) h
        · replace h := (if_pos q9).symm.trans h
          refine j_iconst hx hb dX6_firstUntwist_26 ?_
          refine j_goto (tgt := 40) hx hb dX6_firstUntwist_27 (by decide) ?_
          exact hj40_7 _ _ _ _ hP hS (lv_sub hl [1, 2, 3, 4] rfl) h
  exact hl9_1 N _ _ _ _ _ hP hS (lv_sub hl [2, 3, 1, 0] rfl) h
def fX6_packsStandAlike_l2 (N : Nat) (y0 : Nat) (y1 : Nat) (μ : Mm) : Nat → Int → Option (Int)
  | 0, _ => none
  | n1 + 1, x2_2 =>
    if wr (gI μ y1 6) ≤ wr x2_2 then (some 1) else (if 8 ≤ wr x2_2 then (some 1) else (Option.bind (ldA μ (y1 + 3) 8 x2_2) (fun v5 => if wr v5 = (-1) then ((fX6_packsStandAlike_l2 N y0 y1 μ n1) (x2_2 + 1)) else (Option.bind (ldA μ (y0 + 2) 8 x2_2) (fun v8 => Option.bind (fX6_standOf N y0 y1 v5 μ) (fun v11 => if wr v8 = wr v11 then ((fX6_packsStandAlike_l2 N y0 y1 μ n1) (x2_2 + 1)) else (some 0)))))))
def fX6_packsStandAlike (N : Nat) (y0 : Nat) (y1 : Nat) (μ : Mm) : Option (Int) :=
    fX6_packsStandAlike_l2 N y0 y1 μ N 0
abbrev rmX6_packsStandAlike : Room := { frames := 3, cells := 0, slots := 0, locals := 66 }
set_option maxHeartbeats 4000000 in
set_option maxRecDepth 100000 in
theorem m_X6_packsStandAlike (l : Launch) (D : va_G) (b : Nat) (cs : CS) (N : Nat) {μ : Mm} {y0 y1 : Nat} {r : Int} (hky0 : kd y0 = 5) (hky1 : kd y1 = 4) (h : fX6_packsStandAlike N y0 y1 μ = some r) : MI l yX6_packsStandAlike wsX6_packsStandAlike rmX6_packsStandAlike D b cs [jR b y0, jR b y1] μ μ r := by
  refine met_in (cc := cX6_packsStandAlike) (maxL := 4) (ret := some .boolean) (lv0 := [(0, jR b y0), (1, jR b y1)]) (by decide +kernel) rfl (Nat.le_of_ble_eq_true rfl) rfl ?_
  intro p e s m args below meth c hx hb hr hlk hml hown hts hP hK ls hl
  have hown : s.vm.findClass RX6 = some m.cls := hown
  have hS : va_S (bA b) s.heap s.heap [] := va_S.rf
  have hinX5 : ∀ w ∈ u_ws RX5 TX5 9, w ∈ wsX6_packsStandAlike := by decide +kernel
  have hinX7 : ∀ w ∈ u_ws RX7 TX7 9, w ∈ wsX6_packsStandAlike := by decide +kernel
  unfold fX6_packsStandAlike at h
  refine j_iconst hx hb dX6_packsStandAlike_0 ?_
  refine j_istore_n (lv2 := [(2, jI 0), (0, jR b y0), (1, jR b y1)]) hx hb dX6_packsStandAlike_1 rfl hl (by decide) rfl (fun ls hl => ?_)
  have hl2_1 : ∀ (n0 : Nat) (x2_2 : Int) (H : Heap) (locs : List Loc) (ls : Array Slot), va_P D vwCl (wl b cs μ) H → va_S (bA b) s.heap H locs → lv_has ls 4 [(0, jR b y0), (1, jR b y1), (2, jI x2_2)] → fX6_packsStandAlike_l2 N y0 y1 μ n0 x2_2 = some r → W p l e rmX6_packsStandAlike s m args below meth c H locs 0 0 (MQ below (QI D b cs μ r) args s 0 0 (bA b)) (F0 m 2 ls []) := by
    intro n0
    induction n0 with
    | zero => intro x2_2 H locs ls hP hS hl h; rw [fX6_packsStandAlike_l2] at h; cases h
    | succ n1 ih2_1 =>
      intro x2_2 H locs ls hP hS hl h
      rw [fX6_packsStandAlike_l2] at h
      refine j_iload_n hx hb dX6_packsStandAlike_2 rfl (lv_at hl 2 rfl) ?_
      refine j_aload_n hx hb dX6_packsStandAlike_3 rfl (lv_at hl 1 rfl) ?_
      refine j_get (v := jI (gI μ y1 6)) hx hb hts hinX5 hown hK hP hky1 (by decide) rfl 6 (by decide) (hts (.fieldLink RX6 9 "CardBand$Threading" "cards" "I") (by decide +kernel)) rfl (by rw [jI_g]; rfl) dX6_packsStandAlike_4 ?_
      refine j_icmp_ge (A := wr x2_2) (B := wr (gI μ y1 6)) (tgt := 51) hx hb rfl rfl dX6_packsStandAlike_7 (by decide) (fun q3 => ?_) (fun q3 => ?_)
      · replace h := (if_pos q3).symm.trans h
        refine j_iconst hx hb dX6_packsStandAlike_51 ?_
        exact j_retZ hx hb hK hP hS hr hlk (by decide) (Option.some.inj h) dX6_packsStandAlike_52
      · replace h := (if_neg q3).symm.trans h
        refine j_iload_n hx hb dX6_packsStandAlike_10 rfl (lv_at hl 2 rfl) ?_
        refine j_bipush hx hb dX6_packsStandAlike_11 (by decide) ?_
        refine j_icmp_ge (A := wr x2_2) (B := 8) (tgt := 51) hx hb rfl (by decide) dX6_packsStandAlike_13 (by decide) (fun q4 => ?_) (fun q4 => ?_)
        · replace h := (if_pos q4).symm.trans h
          refine j_iconst hx hb dX6_packsStandAlike_51 ?_
          exact j_retZ hx hb hK hP hS hr hlk (by decide) (Option.some.inj h) dX6_packsStandAlike_52
        · replace h := (if_neg q4).symm.trans h
          refine j_aload_n hx hb dX6_packsStandAlike_16 rfl (lv_at hl 1 rfl) ?_
          refine j_get (v := jR b (y1 + 3)) hx hb hts hinX5 hown hK hP hky1 (by decide) rfl 2 (by decide) (hts (.fieldLink RX6 51 "CardBand$Threading" "packOf" "[I") (by decide +kernel)) rfl rfl dX6_packsStandAlike_17 ?_
          refine j_iload_n hx hb dX6_packsStandAlike_20 rfl (lv_at hl 2 rfl) ?_
          obtain ⟨v5, e6, h⟩ := ob_I h
          refine j_iaload hx hb hK hP (kX5_3 hky1) e6 dX6_packsStandAlike_21 ?_
          refine j_istore_n (lv2 := [(3, jI v5), (0, jR b y0), (1, jR b y1), (2, jI x2_2)]) hx hb dX6_packsStandAlike_22 rfl hl (by decide) rfl (fun ls hl => ?_)
          refine j_iload_n hx hb dX6_packsStandAlike_23 rfl (lv_at hl 0 rfl) ?_
          refine j_iconst hx hb dX6_packsStandAlike_24 ?_
          refine j_icmp_eq (A := wr v5) (B := (-1)) (tgt := 45) hx hb rfl (by decide) dX6_packsStandAlike_25 (by decide) (fun q7 => ?_) (fun q7 => ?_)
          · replace h := (if_pos q7).symm.trans h
            refine j_iinc (k := 3) (lv2 := [(2, jI (x2_2 + 1)), (3, jI v5), (0, jR b y0), (1, jR b y1)]) hx hb dX6_packsStandAlike_45 hl rfl (by decide) rfl (fun ls hl => ?_)
            refine j_goto (tgt := 2) hx hb dX6_packsStandAlike_48 (by decide) ?_
            exact ih2_1 _ _ _ _ hP hS (lv_sub hl [2, 3, 0] rfl) h
          · replace h := (if_neg q7).symm.trans h
            refine j_aload_n hx hb dX6_packsStandAlike_28 rfl (lv_at hl 1 rfl) ?_
            refine j_get (v := jR b (y0 + 2)) hx hb hts hinX7 hown hK hP hky0 (by decide) rfl 1 (by decide) (hts (.fieldLink RX6 31 "CardBand$Weave" "stands" "[I") (by decide +kernel)) rfl rfl dX6_packsStandAlike_29 ?_
            refine j_iload_n hx hb dX6_packsStandAlike_32 rfl (lv_at hl 3 rfl) ?_
            obtain ⟨v8, e9, h⟩ := ob_I h
            refine j_iaload hx hb hK hP (kX7_2 hky0) e9 dX6_packsStandAlike_33 ?_
            refine j_aload_n hx hb dX6_packsStandAlike_34 rfl (lv_at hl 1 rfl) ?_
            refine j_aload_n hx hb dX6_packsStandAlike_35 rfl (lv_at hl 2 rfl) ?_
            refine j_iload_n hx hb dX6_packsStandAlike_36 rfl (lv_at hl 0 rfl) ?_
            obtain ⟨v11, e10, h⟩ := ob_I h
            refine jc_SI (As := [jR b y0, jR b y1, jI v5]) (rest := [jI v8]) ⟨hx, hb, hml, hown, hts⟩ hK hP hS (m_X6_standOf l D b cs N hky0 hky1 e10) (va_cwS 3 hts gX6_packsStandAlike_X6_standOf rfl rfl rfl (by decide +kernel) ⟨Nat.le_of_ble_eq_true rfl, Nat.le_of_ble_eq_true rfl⟩) rfl hl.1 rfl (Nat.le_of_ble_eq_true rfl) dX6_packsStandAlike_37 ⟨Nat.zero_le _, Nat.zero_le _⟩ (fun H locs hP hS => ?_)
            refine j_icmp_eq (A := wr v8) (B := wr v11) (tgt := 45) hx hb rfl rfl dX6_packsStandAlike_40 (by decide) (fun q12 => ?_) (fun q12 => ?_)
            · replace h := (if_pos q12).symm.trans h
              refine j_iinc (k := 3) (lv2 := [(2, jI (x2_2 + 1)), (3, jI v5), (0, jR b y0), (1, jR b y1)]) hx hb dX6_packsStandAlike_45 hl rfl (by decide) rfl (fun ls hl => ?_)
              refine j_goto (tgt := 2) hx hb dX6_packsStandAlike_48 (by decide) ?_
              exact ih2_1 _ _ _ _ hP hS (lv_sub hl [2, 3, 0] rfl) h
            · replace h := (if_neg q12).symm.trans h
              refine j_iconst hx hb dX6_packsStandAlike_43 ?_
              exact j_retZ hx hb hK hP hS hr hlk (by decide) (Option.some.inj h) dX6_packsStandAlike_44
  exact hl2_1 N _ _ _ _ hP hS (lv_sub hl [1, 2, 0] rfl) h
def fX7_addRow (N : Nat) (a : Nat) (μ : Mm) : Option (Mm) :=
    Option.bind (fX7_slotOf N (gI μ a 8) μ) (fun v2 => Option.bind (cpA μ (a + 4) 8 (a + 8) 192 0 v2 8) (fun μ3 => Option.bind (some (pI μ3 a 8 ((gI μ3 a 8) + 1))) (fun μ5 => some μ5)))
abbrev rmX7_addRow : Room := { frames := 2, cells := 0, slots := 0, locals := 42 }
set_option maxHeartbeats 4000000 in
set_option maxRecDepth 100000 in
theorem m_X7_addRow (l : Launch) (D : va_G) (b : Nat) (cs : CS) (N : Nat) {μ μ0 : Mm} {a : Nat} (hka : kd a = 5) (h : fX7_addRow N a μ = some μ0) : MM l yX7_addRow wsX7_addRow rmX7_addRow D b cs [jR b a] μ μ0 := by
  refine met_in (cc := cX7_addRow) (maxL := 1) (ret := none) (lv0 := [(0, jR b a)]) (by decide +kernel) rfl (Nat.le_of_ble_eq_true rfl) rfl ?_
  intro p e s m args below meth c hx hb hr hlk hml hown hts hP hK ls hl
  have hown : s.vm.findClass RX7 = some m.cls := hown
  have hS : va_S (bA b) s.heap s.heap [] := va_S.rf
  have hinX7 : ∀ w ∈ u_ws RX7 TX7 9, w ∈ wsX7_addRow := by decide +kernel
  unfold fX7_addRow at h
  refine j_aload_n hx hb dX7_addRow_0 rfl (lv_at hl 0 rfl) ?_
  refine j_get (v := jR b (a + 4)) hx hb hts hinX7 hown hK hP hka (by decide) rfl 3 (by decide) (hts (.fieldLink RX7 21 "CardBand$Weave" "shows" "[I") (by decide +kernel)) rfl rfl dX7_addRow_1 ?_
  refine j_iconst hx hb dX7_addRow_4 ?_
  refine j_aload_n hx hb dX7_addRow_5 rfl (lv_at hl 0 rfl) ?_
  refine j_get (v := jR b (a + 8)) hx hb hts hinX7 hown hK hP hka (by decide) rfl 7 (by decide) (hts (.fieldLink RX7 33 "CardBand$Weave" "band" "[I") (by decide +kernel)) rfl rfl dX7_addRow_6 ?_
  refine j_aload_n hx hb dX7_addRow_9 rfl (lv_at hl 0 rfl) ?_
  refine j_get (v := jI (gI μ a 8)) hx hb hts hinX7 hown hK hP hka (by decide) rfl 8 (by decide) (hts (.fieldLink RX7 56 "CardBand$Weave" "picks" "I") (by decide +kernel)) rfl (by rw [jI_g]; rfl) dX7_addRow_10 ?_
  obtain ⟨v2, e1, h⟩ := ob_I h
  refine jc_SI (As := [jI (gI μ a 8)]) (rest := [jR b (a + 8), jI 0, jR b (a + 4)]) ⟨hx, hb, hml, hown, hts⟩ hK hP hS (m_X7_slotOf l D b cs N e1) (va_cwS 1 hts gX7_addRow_X7_slotOf rfl rfl rfl (by decide +kernel) ⟨Nat.le_of_ble_eq_true rfl, Nat.le_of_ble_eq_true rfl⟩) rfl hl.1 rfl (Nat.le_of_ble_eq_true rfl) dX7_addRow_13 ⟨Nat.zero_le _, Nat.zero_le _⟩ (fun H locs hP hS => ?_)
  refine j_bipush hx hb dX7_addRow_16 (by decide) ?_
  obtain ⟨μ3, e4, h⟩ := ob_I h
  refine j_copy hx hb hK hP hS hml hl.1 hown (hts (.methodLink RX7 41 arraycopyName) (by decide +kernel)) (hts (.native arraycopyName) (by decide +kernel)) (hts (.static arraycopyName) (by decide +kernel)) (hts (.initialized "java/lang/System") (by decide +kernel)) (kX7_4 hka) (kX7_8 hka) e4 (Nat.le_of_ble_eq_true rfl) (Nat.le_of_ble_eq_true rfl) dX7_addRow_18 (fun H locs hP hS => ?_)
  refine j_aload_n hx hb dX7_addRow_21 rfl (lv_at hl 0 rfl) ?_
  refine j_dup hx hb dX7_addRow_22 rfl ?_
  refine j_get (v := jI (gI μ3 a 8)) hx hb hts hinX7 hown hK hP hka (by decide) rfl 8 (by decide) (hts (.fieldLink RX7 56 "CardBand$Weave" "picks" "I") (by decide +kernel)) rfl (by rw [jI_g]; rfl) dX7_addRow_23 ?_
  refine j_iconst hx hb dX7_addRow_26 ?_
  refine j_iadd hx hb dX7_addRow_27 ?_
  obtain ⟨μ5, e6, h⟩ := ob_I h
  refine j_put (ty := .int) (z := ((gI μ3 a 8) + 1)) hx hb hts hinX7 tyX7 tyX7_ok nmX7 hown hK hP hS hka (by decide) rfl 8 (by decide) (hts (.fieldLink RX7 56 "CardBand$Weave" "picks" "I") (by decide +kernel)) rfl rfl (by decide +kernel) rfl rfl (by simp [flds]) rfl dX7_addRow_28 (Option.some.inj e6) (fun H locs hP hS => ?_)
  have e0 := Option.some.inj h
  subst e0
  exact j_retM hx hb hK hP hS hr hlk dX7_addRow_31
def fX7_begin (N : Nat) (a : Nat) (y1 : Nat) (μ : Mm) : Option (Mm) :=
    Option.bind (cpA μ (y1 + 2) 8 (a + 1) 8 0 0 8) (fun μ1 => Option.bind (cpA μ1 (y1 + 5) 8 (a + 6) 8 0 0 8) (fun μ3 => Option.bind (fJ7_fill_53178 N (a + 2) 0 μ3) (fun μ6 => Option.bind (fJ7_fill_53178 N (a + 3) 0 μ6) (fun μ8 => Option.bind (fJ7_fill_53178 N (a + 4) (-1) μ8) (fun μ10 => Option.bind (fJ7_fill_53178 N (a + 5) (-1) μ10) (fun μ12 => Option.bind (some (pI μ12 a 8 0)) (fun μ13 => some μ13)))))))
abbrev rmX7_begin : Room := { frames := 1, cells := 0, slots := 0, locals := 26 }
set_option maxHeartbeats 4000000 in
set_option maxRecDepth 100000 in
theorem m_X7_begin (l : Launch) (D : va_G) (b : Nat) (cs : CS) (N : Nat) {μ μ0 : Mm} {a y1 : Nat} (hka : kd a = 5) (hky1 : kd y1 = 4) (h : fX7_begin N a y1 μ = some μ0) : MM l yX7_begin wsX7_begin rmX7_begin D b cs [jR b a, jR b y1] μ μ0 := by
  refine met_in (cc := cX7_begin) (maxL := 2) (ret := none) (lv0 := [(0, jR b a), (1, jR b y1)]) (by decide +kernel) rfl (Nat.le_of_ble_eq_true rfl) rfl ?_
  intro p e s m args below meth c hx hb hr hlk hml hown hts hP hK ls hl
  have hown : s.vm.findClass RX7 = some m.cls := hown
  have hS : va_S (bA b) s.heap s.heap [] := va_S.rf
  have hinX5 : ∀ w ∈ u_ws RX5 TX5 9, w ∈ wsX7_begin := by decide +kernel
  have hinX7 : ∀ w ∈ u_ws RX7 TX7 9, w ∈ wsX7_begin := by decide +kernel
  unfold fX7_begin at h
  refine j_aload_n hx hb dX7_begin_0 rfl (lv_at hl 1 rfl) ?_
  refine j_get (v := jR b (y1 + 2)) hx hb hts hinX5 hown hK hP hky1 (by decide) rfl 1 (by decide) (hts (.fieldLink RX7 36 "CardBand$Threading" "waysTold" "[I") (by decide +kernel)) rfl rfl dX7_begin_1 ?_
  refine j_iconst hx hb dX7_begin_4 ?_
  refine j_aload_n hx hb dX7_begin_5 rfl (lv_at hl 0 rfl) ?_
  refine j_get (v := jR b (a + 1)) hx hb hts hinX7 hown hK hP hka (by decide) rfl 0 (by decide) (hts (.fieldLink RX7 9 "CardBand$Weave" "ways" "[I") (by decide +kernel)) rfl rfl dX7_begin_6 ?_
  refine j_iconst hx hb dX7_begin_9 ?_
  refine j_bipush hx hb dX7_begin_10 (by decide) ?_
  obtain ⟨μ1, e2, h⟩ := ob_I h
  refine j_copy hx hb hK hP hS hml hl.1 hown (hts (.methodLink RX7 41 arraycopyName) (by decide +kernel)) (hts (.native arraycopyName) (by decide +kernel)) (hts (.static arraycopyName) (by decide +kernel)) (hts (.initialized "java/lang/System") (by decide +kernel)) (kX5_2 hky1) (kX7_1 hka) e2 (Nat.le_of_ble_eq_true rfl) (Nat.le_of_ble_eq_true rfl) dX7_begin_12 (fun H locs hP hS => ?_)
  refine j_aload_n hx hb dX7_begin_15 rfl (lv_at hl 1 rfl) ?_
  refine j_get (v := jR b (y1 + 5)) hx hb hts hinX5 hown hK hP hky1 (by decide) rfl 4 (by decide) (hts (.fieldLink RX7 47 "CardBand$Threading" "yarnsTold" "[I") (by decide +kernel)) rfl rfl dX7_begin_16 ?_
  refine j_iconst hx hb dX7_begin_19 ?_
  refine j_aload_n hx hb dX7_begin_20 rfl (lv_at hl 0 rfl) ?_
  refine j_get (v := jR b (a + 6)) hx hb hts hinX7 hown hK hP hka (by decide) rfl 5 (by decide) (hts (.fieldLink RX7 27 "CardBand$Weave" "yarns" "[I") (by decide +kernel)) rfl rfl dX7_begin_21 ?_
  refine j_iconst hx hb dX7_begin_24 ?_
  refine j_bipush hx hb dX7_begin_25 (by decide) ?_
  obtain ⟨μ3, e4, h⟩ := ob_I h
  refine j_copy hx hb hK hP hS hml hl.1 hown (hts (.methodLink RX7 41 arraycopyName) (by decide +kernel)) (hts (.native arraycopyName) (by decide +kernel)) (hts (.static arraycopyName) (by decide +kernel)) (hts (.initialized "java/lang/System") (by decide +kernel)) (kX5_5 hky1) (kX7_6 hka) e4 (Nat.le_of_ble_eq_true rfl) (Nat.le_of_ble_eq_true rfl) dX7_begin_27 (fun H locs hP hS => ?_)
  refine j_aload_n hx hb dX7_begin_30 rfl (lv_at hl 0 rfl) ?_
  refine j_get (v := jR b (a + 2)) hx hb hts hinX7 hown hK hP hka (by decide) rfl 1 (by decide) (hts (.fieldLink RX7 15 "CardBand$Weave" "stands" "[I") (by decide +kernel)) rfl rfl dX7_begin_31 ?_
  refine j_iconst hx hb dX7_begin_34 ?_
  obtain ⟨μ6, e5, h⟩ := ob_I h
  refine jc_SM (As := [jR b (a + 2), jI 0]) (rest := []) ⟨hx, hb, hml, hown, hts⟩ hK hP hS (m_J7_fill_53178 l D b cs N (kX7_2 hka) e5) (va_cwS 2 hts gX7_begin_J7_fill_53178 rfl rfl rfl (by decide +kernel) ⟨Nat.le_of_ble_eq_true rfl, Nat.le_of_ble_eq_true rfl⟩) rfl hl.1 rfl (Nat.le_of_ble_eq_true rfl) dX7_begin_35 ⟨Nat.zero_le _, Nat.zero_le _⟩ (fun H locs hP hS => ?_)
  refine j_aload_n hx hb dX7_begin_38 rfl (lv_at hl 0 rfl) ?_
  refine j_get (v := jR b (a + 3)) hx hb hts hinX7 hown hK hP hka (by decide) rfl 2 (by decide) (hts (.fieldLink RX7 18 "CardBand$Weave" "twists" "[I") (by decide +kernel)) rfl rfl dX7_begin_39 ?_
  refine j_iconst hx hb dX7_begin_42 ?_
  obtain ⟨μ8, e7, h⟩ := ob_I h
  refine jc_SM (As := [jR b (a + 3), jI 0]) (rest := []) ⟨hx, hb, hml, hown, hts⟩ hK hP hS (m_J7_fill_53178 l D b cs N (kX7_3 hka) e7) (va_cwS 2 hts gX7_begin_J7_fill_53178 rfl rfl rfl (by decide +kernel) ⟨Nat.le_of_ble_eq_true rfl, Nat.le_of_ble_eq_true rfl⟩) rfl hl.1 rfl (Nat.le_of_ble_eq_true rfl) dX7_begin_43 ⟨Nat.zero_le _, Nat.zero_le _⟩ (fun H locs hP hS => ?_)
  refine j_aload_n hx hb dX7_begin_46 rfl (lv_at hl 0 rfl) ?_
  refine j_get (v := jR b (a + 4)) hx hb hts hinX7 hown hK hP hka (by decide) rfl 3 (by decide) (hts (.fieldLink RX7 21 "CardBand$Weave" "shows" "[I") (by decide +kernel)) rfl rfl dX7_begin_47 ?_
  refine j_iconst hx hb dX7_begin_50 ?_
  obtain ⟨μ10, e9, h⟩ := ob_I h
  refine jc_SM (As := [jR b (a + 4), jI (-1)]) (rest := []) ⟨hx, hb, hml, hown, hts⟩ hK hP hS (m_J7_fill_53178 l D b cs N (kX7_4 hka) e9) (va_cwS 2 hts gX7_begin_J7_fill_53178 rfl rfl rfl (by decide +kernel) ⟨Nat.le_of_ble_eq_true rfl, Nat.le_of_ble_eq_true rfl⟩) rfl hl.1 rfl (Nat.le_of_ble_eq_true rfl) dX7_begin_51 ⟨Nat.zero_le _, Nat.zero_le _⟩ (fun H locs hP hS => ?_)
  refine j_aload_n hx hb dX7_begin_54 rfl (lv_at hl 0 rfl) ?_
  refine j_get (v := jR b (a + 5)) hx hb hts hinX7 hown hK hP hka (by decide) rfl 4 (by decide) (hts (.fieldLink RX7 24 "CardBand$Weave" "slants" "[I") (by decide +kernel)) rfl rfl dX7_begin_55 ?_
  refine j_iconst hx hb dX7_begin_58 ?_
  obtain ⟨μ12, e11, h⟩ := ob_I h
  refine jc_SM (As := [jR b (a + 5), jI (-1)]) (rest := []) ⟨hx, hb, hml, hown, hts⟩ hK hP hS (m_J7_fill_53178 l D b cs N (kX7_5 hka) e11) (va_cwS 2 hts gX7_begin_J7_fill_53178 rfl rfl rfl (by decide +kernel) ⟨Nat.le_of_ble_eq_true rfl, Nat.le_of_ble_eq_true rfl⟩) rfl hl.1 rfl (Nat.le_of_ble_eq_true rfl) dX7_begin_59 ⟨Nat.zero_le _, Nat.zero_le _⟩ (fun H locs hP hS => ?_)
  refine j_aload_n hx hb dX7_begin_62 rfl (lv_at hl 0 rfl) ?_
  refine j_iconst hx hb dX7_begin_63 ?_
  obtain ⟨μ13, e14, h⟩ := ob_I h
  refine j_put (ty := .int) (z := 0) hx hb hts hinX7 tyX7 tyX7_ok nmX7 hown hK hP hS hka (by decide) rfl 8 (by decide) (hts (.fieldLink RX7 56 "CardBand$Weave" "picks" "I") (by decide +kernel)) rfl rfl (by decide +kernel) rfl rfl (by simp [flds]) rfl dX7_begin_64 (Option.some.inj e14) (fun H locs hP hS => ?_)
  have e0 := Option.some.inj h
  subst e0
  exact j_retM hx hb hK hP hS hr hlk dX7_begin_67
def fX7_holeShownBy (N : Nat) (a : Nat) (y1 : Int) (y2 : Int) (μ : Mm) : Option (Int) :=
    Option.bind (ldA μ (a + 2) 8 (andI y1 7)) (fun v1 => if wr y2 = 2 then (some (andI (v1 - 1) 3)) else (some v1))
abbrev rmX7_holeShownBy : Room := { frames := 0, cells := 0, slots := 0, locals := 0 }
set_option maxHeartbeats 4000000 in
set_option maxRecDepth 100000 in
theorem m_X7_holeShownBy (l : Launch) (D : va_G) (b : Nat) (cs : CS) (N : Nat) {μ : Mm} {a : Nat} {y1 y2 : Int} {r : Int} (hka : kd a = 5) (h : fX7_holeShownBy N a y1 y2 μ = some r) : MI l yX7_holeShownBy wsX7_holeShownBy rmX7_holeShownBy D b cs [jR b a, jI y1, jI y2] μ μ r := by
  refine met_in (cc := cX7_holeShownBy) (maxL := 4) (ret := some .int) (lv0 := [(0, jR b a), (1, jI y1), (2, jI y2)]) (by decide +kernel) rfl (Nat.le_of_ble_eq_true rfl) rfl ?_
  intro p e s m args below meth c hx hb hr hlk hml hown hts hP hK ls hl
  have hown : s.vm.findClass RX7 = some m.cls := hown
  have hS : va_S (bA b) s.heap s.heap [] := va_S.rf
  have hinX7 : ∀ w ∈ u_ws RX7 TX7 9, w ∈ wsX7_holeShownBy := by decide +kernel
  unfold fX7_holeShownBy at h
  refine j_aload_n hx hb dX7_holeShownBy_0 rfl (lv_at hl 0 rfl) ?_
  refine j_get (v := jR b (a + 2)) hx hb hts hinX7 hown hK hP hka (by decide) rfl 1 (by decide) (hts (.fieldLink RX7 15 "CardBand$Weave" "stands" "[I") (by decide +kernel)) rfl rfl dX7_holeShownBy_1 ?_
  refine j_iload_n hx hb dX7_holeShownBy_4 rfl (lv_at hl 1 rfl) ?_
  refine j_bipush hx hb dX7_holeShownBy_5 (by decide) ?_
  refine j_iand hx hb dX7_holeShownBy_7 ?_
  obtain ⟨v1, e2, h⟩ := ob_I h
  refine j_iaload hx hb hK hP (kX7_2 hka) e2 dX7_holeShownBy_8 ?_
  refine j_istore_n (lv2 := [(3, jI v1), (0, jR b a), (1, jI y1), (2, jI y2)]) hx hb dX7_holeShownBy_9 rfl hl (by decide) rfl (fun ls hl => ?_)
  refine j_iload_n hx hb dX7_holeShownBy_10 rfl (lv_at hl 3 rfl) ?_
  refine j_iconst hx hb dX7_holeShownBy_11 ?_
  refine j_icmp_ne (A := wr y2) (B := 2) (tgt := 23) hx hb rfl (by decide) dX7_holeShownBy_12 (by decide) (fun q3 => ?_) (fun q3 => ?_)
  · replace h := (if_neg q3).symm.trans h
    refine j_iload_n hx hb dX7_holeShownBy_23 rfl (lv_at hl 0 rfl) ?_
    exact j_retI hx hb hK hP hS hr hlk (Option.some.inj h) dX7_holeShownBy_24
  · replace h := (if_pos q3).symm.trans h
    refine j_iload_n hx hb dX7_holeShownBy_15 rfl (lv_at hl 0 rfl) ?_
    refine j_iconst hx hb dX7_holeShownBy_16 ?_
    refine j_isub hx hb dX7_holeShownBy_17 ?_
    refine j_iconst hx hb dX7_holeShownBy_18 ?_
    refine j_iand hx hb dX7_holeShownBy_19 ?_
    refine j_goto (tgt := 24) hx hb dX7_holeShownBy_20 (by decide) ?_
    exact j_retI hx hb hK hP hS hr hlk (Option.some.inj h) dX7_holeShownBy_24
def fX7_countWanted_l10 (N : Nat) (a : Nat) (y1 : Nat) (y2 : Int) : Nat → Int → Mm → Option (Mm)
  | 0, _, _ => none
  | n3 + 1, x3_4, μ5 =>
    if wr (gI μ5 y1 6) ≤ wr x3_4 then (some μ5) else (if 8 ≤ wr x3_4 then (some μ5) else (Option.bind (fX5_moveOf N y1 x3_4 y2 μ5) (fun v9 => Option.bind (fX7_holeShownBy N a x3_4 v9 μ5) (fun v11 => Option.bind (fX5_colourAt N y1 x3_4 v11 μ5) (fun v13 => if wr v9 = 0 then ((fX7_countWanted_l10 N a y1 y2 n3) (x3_4 + 1) μ5) else (if wr v13 < 0 then ((fX7_countWanted_l10 N a y1 y2 n3) (x3_4 + 1) μ5) else (if 8 ≤ wr v13 then ((fX7_countWanted_l10 N a y1 y2 n3) (x3_4 + 1) μ5) else (Option.bind (ldA μ5 (a + 7) 8 v13) (fun v17 => Option.bind (stA μ5 (a + 7) 8 v13 (v17 + 1)) (fun μ19 => (fX7_countWanted_l10 N a y1 y2 n3) (x3_4 + 1) μ19))))))))))
def fX7_countWanted (N : Nat) (a : Nat) (y1 : Nat) (y2 : Int) (μ : Mm) : Option (Mm) :=
    Option.bind (fJ7_fill_53178 N (a + 7) 0 μ) (fun μ2 => fX7_countWanted_l10 N a y1 y2 N 0 μ2)
abbrev rmX7_countWanted : Room := { frames := 2, cells := 0, slots := 0, locals := 43 }
set_option maxHeartbeats 4000000 in
set_option maxRecDepth 100000 in
theorem m_X7_countWanted (l : Launch) (D : va_G) (b : Nat) (cs : CS) (N : Nat) {μ μ0 : Mm} {a y1 : Nat} {y2 : Int} (hka : kd a = 5) (hky1 : kd y1 = 4) (h : fX7_countWanted N a y1 y2 μ = some μ0) : MM l yX7_countWanted wsX7_countWanted rmX7_countWanted D b cs [jR b a, jR b y1, jI y2] μ μ0 := by
  refine met_in (cc := cX7_countWanted) (maxL := 6) (ret := none) (lv0 := [(0, jR b a), (1, jR b y1), (2, jI y2)]) (by decide +kernel) rfl (Nat.le_of_ble_eq_true rfl) rfl ?_
  intro p e s m args below meth c hx hb hr hlk hml hown hts hP hK ls hl
  have hown : s.vm.findClass RX7 = some m.cls := hown
  have hS : va_S (bA b) s.heap s.heap [] := va_S.rf
  have hinX5 : ∀ w ∈ u_ws RX5 TX5 9, w ∈ wsX7_countWanted := by decide +kernel
  have hinX7 : ∀ w ∈ u_ws RX7 TX7 9, w ∈ wsX7_countWanted := by decide +kernel
  unfold fX7_countWanted at h
  refine j_aload_n hx hb dX7_countWanted_0 rfl (lv_at hl 0 rfl) ?_
  refine j_get (v := jR b (a + 7)) hx hb hts hinX7 hown hK hP hka (by decide) rfl 6 (by decide) (hts (.fieldLink RX7 30 "CardBand$Weave" "wanted" "[I") (by decide +kernel)) rfl rfl dX7_countWanted_1 ?_
  refine j_iconst hx hb dX7_countWanted_4 ?_
  obtain ⟨μ2, e1, h⟩ := ob_I h
  refine jc_SM (As := [jR b (a + 7), jI 0]) (rest := []) ⟨hx, hb, hml, hown, hts⟩ hK hP hS (m_J7_fill_53178 l D b cs N (kX7_7 hka) e1) (va_cwS 2 hts gX7_countWanted_J7_fill_53178 rfl rfl rfl (by decide +kernel) ⟨Nat.le_of_ble_eq_true rfl, Nat.le_of_ble_eq_true rfl⟩) rfl hl.1 rfl (Nat.le_of_ble_eq_true rfl) dX7_countWanted_5 ⟨Nat.zero_le _, Nat.zero_le _⟩ (fun H locs hP hS => ?_)
  refine j_iconst hx hb dX7_countWanted_8 ?_
  refine j_istore_n (lv2 := [(3, jI 0), (0, jR b a), (1, jR b y1), (2, jI y2)]) hx hb dX7_countWanted_9 rfl hl (by decide) rfl (fun ls hl => ?_)
  have hl10_3 : ∀ (n0 : Nat) (x3_4 : Int) (μ5 : Mm) (H : Heap) (locs : List Loc) (ls : Array Slot), va_P D vwCl (wl b cs μ5) H → va_S (bA b) s.heap H locs → lv_has ls 6 [(0, jR b a), (1, jR b y1), (2, jI y2), (3, jI x3_4)] → fX7_countWanted_l10 N a y1 y2 n0 x3_4 μ5 = some μ0 → W p l e rmX7_countWanted s m args below meth c H locs 0 0 (MQ below (QM D b cs μ0) args s 0 0 (bA b)) (F0 m 10 ls []) := by
    intro n0
    induction n0 with
    | zero => intro x3_4 μ5 H locs ls hP hS hl h; rw [fX7_countWanted_l10] at h; cases h
    | succ n3 ih10_3 =>
      intro x3_4 μ5 H locs ls hP hS hl h
      rw [fX7_countWanted_l10] at h
      refine j_iload_n hx hb dX7_countWanted_10 rfl (lv_at hl 3 rfl) ?_
      refine j_aload_n hx hb dX7_countWanted_11 rfl (lv_at hl 1 rfl) ?_
      refine j_get (v := jI (gI μ5 y1 6)) hx hb hts hinX5 hown hK hP hky1 (by decide) rfl 6 (by decide) (hts (.fieldLink RX7 68 "CardBand$Threading" "cards" "I") (by decide +kernel)) rfl (by rw [jI_g]; rfl) dX7_countWanted_12 ?_
      refine j_icmp_ge (A := wr x3_4) (B := wr (gI μ5 y1 6)) (tgt := 80) hx hb rfl rfl dX7_countWanted_15 (by decide) (fun q6 => ?_) (fun q6 => ?_)
      · replace h := (if_pos q6).symm.trans h
        have e0 := Option.some.inj h
        subst e0
        exact j_retM hx hb hK hP hS hr hlk dX7_countWanted_80
      · replace h := (if_neg q6).symm.trans h
        refine j_iload_n hx hb dX7_countWanted_18 rfl (lv_at hl 3 rfl) ?_
        refine j_bipush hx hb dX7_countWanted_19 (by decide) ?_
        refine j_icmp_ge (A := wr x3_4) (B := 8) (tgt := 80) hx hb rfl (by decide) dX7_countWanted_21 (by decide) (fun q7 => ?_) (fun q7 => ?_)
        · replace h := (if_pos q7).symm.trans h
          have e0 := Option.some.inj h
          subst e0
          exact j_retM hx hb hK hP hS hr hlk dX7_countWanted_80
        · replace h := (if_neg q7).symm.trans h
          refine j_aload_n hx hb dX7_countWanted_24 rfl (lv_at hl 1 rfl) ?_
          refine j_iload_n hx hb dX7_countWanted_25 rfl (lv_at hl 3 rfl) ?_
          refine j_iload_n hx hb dX7_countWanted_26 rfl (lv_at hl 2 rfl) ?_
          obtain ⟨v9, e8, h⟩ := ob_I h
          refine jc_VI (As := [jI x3_4, jI y2]) (rest := []) ⟨hx, hb, hml, hown, hts⟩ hK hP hS (m_X5_moveOf l D b cs N hky1 e8) (cwV 2 hts gX7_countWanted_X5_moveOf rfl rfl rfl (by decide +kernel) ⟨Nat.le_of_ble_eq_true rfl, Nat.le_of_ble_eq_true rfl⟩) hky1 (by decide) rfl rfl hl.1 rfl (Nat.le_of_ble_eq_true rfl) dX7_countWanted_27 ⟨Nat.zero_le _, Nat.zero_le _⟩ (fun H locs hP hS => ?_)
          refine j_istore (lv2 := [(4, jI v9), (0, jR b a), (1, jR b y1), (2, jI y2), (3, jI x3_4)]) hx hb dX7_countWanted_30 hl (by decide) rfl (fun ls hl => ?_)
          refine j_aload_n hx hb dX7_countWanted_32 rfl (lv_at hl 2 rfl) ?_
          refine j_iload_n hx hb dX7_countWanted_33 rfl (lv_at hl 4 rfl) ?_
          refine j_aload_n hx hb dX7_countWanted_34 rfl (lv_at hl 1 rfl) ?_
          refine j_iload_n hx hb dX7_countWanted_35 rfl (lv_at hl 4 rfl) ?_
          refine j_iload hx hb dX7_countWanted_36 (lv_at hl 0 rfl) ?_
          obtain ⟨v11, e10, h⟩ := ob_I h
          refine jc_VI (As := [jI x3_4, jI v9]) (rest := [jI x3_4, jR b y1]) ⟨hx, hb, hml, hown, hts⟩ hK hP hS (m_X7_holeShownBy l D b cs N hka e10) (cwV 2 hts gX7_countWanted_X7_holeShownBy rfl rfl rfl (by decide +kernel) ⟨Nat.le_of_ble_eq_true rfl, Nat.le_of_ble_eq_true rfl⟩) hka (by decide) rfl rfl hl.1 rfl (Nat.le_of_ble_eq_true rfl) dX7_countWanted_38 ⟨Nat.zero_le _, Nat.zero_le _⟩ (fun H locs hP hS => ?_)
          obtain ⟨v13, e12, h⟩ := ob_I h
          refine jc_VI (As := [jI x3_4, jI v11]) (rest := []) ⟨hx, hb, hml, hown, hts⟩ hK hP hS (m_X5_colourAt l D b cs N hky1 e12) (cwV 2 hts gX7_countWanted_X5_colourAt rfl rfl rfl (by decide +kernel) ⟨Nat.le_of_ble_eq_true rfl, Nat.le_of_ble_eq_true rfl⟩) hky1 (by decide) rfl rfl hl.1 rfl (Nat.le_of_ble_eq_true rfl) dX7_countWanted_41 ⟨Nat.zero_le _, Nat.zero_le _⟩ (fun H locs hP hS => ?_)
          refine j_istore (lv2 := [(5, jI v13), (4, jI v9), (0, jR b a), (1, jR b y1), (2, jI y2), (3, jI x3_4)]) hx hb dX7_countWanted_44 hl (by decide) rfl (fun ls hl => ?_)
          refine j_iload hx hb dX7_countWanted_46 (lv_at hl 1 rfl) ?_
          refine j_if_eq (A := wr v9) (tgt := 74) hx hb rfl dX7_countWanted_48 (by decide) (fun q14 => ?_) (fun q14 => ?_)
          · replace h := (if_pos q14).symm.trans h
            refine j_iinc (k := 5) (lv2 := [(3, jI (x3_4 + 1)), (5, jI v13), (4, jI v9), (0, jR b a), (1, jR b y1), (2, jI y2)]) hx hb dX7_countWanted_74 hl rfl (by decide) rfl (fun ls hl => ?_)
            refine j_goto (tgt := 10) hx hb dX7_countWanted_77 (by decide) ?_
            exact ih10_3 _ _ _ _ _ hP hS (lv_sub hl [3, 4, 5, 0] rfl) h
          · replace h := (if_neg q14).symm.trans h
            refine j_iload hx hb dX7_countWanted_51 (lv_at hl 0 rfl) ?_
            refine j_if_lt (A := wr v13) (tgt := 74) hx hb rfl dX7_countWanted_53 (by decide) (fun q15 => ?_) (fun q15 => ?_)
            · replace h := (if_pos q15).symm.trans h
              refine j_iinc (k := 5) (lv2 := [(3, jI (x3_4 + 1)), (5, jI v13), (4, jI v9), (0, jR b a), (1, jR b y1), (2, jI y2)]) hx hb dX7_countWanted_74 hl rfl (by decide) rfl (fun ls hl => ?_)
              refine j_goto (tgt := 10) hx hb dX7_countWanted_77 (by decide) ?_
              exact ih10_3 _ _ _ _ _ hP hS (lv_sub hl [3, 4, 5, 0] rfl) h
            · replace h := (if_neg q15).symm.trans h
              refine j_iload hx hb dX7_countWanted_56 (lv_at hl 0 rfl) ?_
              refine j_bipush hx hb dX7_countWanted_58 (by decide) ?_
              refine j_icmp_ge (A := wr v13) (B := 8) (tgt := 74) hx hb rfl (by decide) dX7_countWanted_60 (by decide) (fun q16 => ?_) (fun q16 => ?_)
              · replace h := (if_pos q16).symm.trans h
                refine j_iinc (k := 5) (lv2 := [(3, jI (x3_4 + 1)), (5, jI v13), (4, jI v9), (0, jR b a), (1, jR b y1), (2, jI y2)]) hx hb dX7_countWanted_74 hl rfl (by decide) rfl (fun ls hl => ?_)
                refine j_goto (tgt := 10) hx hb dX7_countWanted_77 (by decide) ?_
                exact ih10_3 _ _ _ _ _ hP hS (lv_sub hl [3, 4, 5, 0] rfl) h
              · replace h := (if_neg q16).symm.trans h
                refine j_aload_n hx hb dX7_countWanted_63 rfl (lv_at hl 2 rfl) ?_
                refine j_get (v := jR b (a + 7)) hx hb hts hinX7 hown hK hP hka (by decide) rfl 6 (by decide) (hts (.fieldLink RX7 30 "CardBand$Weave" "wanted" "[I") (by decide +kernel)) rfl rfl dX7_countWanted_64 ?_
                refine j_iload hx hb dX7_countWanted_67 (lv_at hl 0 rfl) ?_
                refine j_dup2 hx hb dX7_countWanted_69 rfl rfl ?_
                obtain ⟨v17, e18, h⟩ := ob_I h
                refine j_iaload hx hb hK hP (kX7_7 hka) e18 dX7_countWanted_70 ?_
                refine j_iconst hx hb dX7_countWanted_71 ?_
                refine j_iadd hx hb dX7_countWanted_72 ?_
                obtain ⟨μ19, e20, h⟩ := ob_I h
                refine j_iastore hx hb hK hP hS (kX7_7 hka) e20 dX7_countWanted_73 (fun H locs hP hS => ?_)
                refine j_iinc (k := 5) (lv2 := [(3, jI (x3_4 + 1)), (5, jI v13), (4, jI v9), (0, jR b a), (1, jR b y1), (2, jI y2)]) hx hb dX7_countWanted_74 hl rfl (by decide) rfl (fun ls hl => ?_)
                refine j_goto (tgt := 10) hx hb dX7_countWanted_77 (by decide) ?_
                exact ih10_3 _ _ _ _ _ hP hS (lv_sub hl [3, 4, 5, 0] rfl) h
  exact hl10_3 N _ _ _ _ _ hP hS (lv_sub hl [1, 2, 3, 0] rfl) h
def fX7_findLacking_l8 (N : Nat) (a : Nat) (y1 : Nat) (μ2 : Mm) : Nat → Int → Option (Int × Mm)
  | 0, _ => none
  | n3 + 1, x3_4 =>
    if wr (gI μ2 y1 5) ≤ wr x3_4 then (some ((-1), μ2)) else (if 8 ≤ wr x3_4 then (some ((-1), μ2)) else (Option.bind (ldA μ2 (a + 7) 8 x3_4) (fun v7 => Option.bind (ldA μ2 (a + 6) 8 x3_4) (fun v9 => if wr v7 ≤ wr v9 then ((fX7_findLacking_l8 N a y1 μ2 n3) (x3_4 + 1)) else (some (x3_4, μ2))))))
def fX7_findLacking (N : Nat) (a : Nat) (y1 : Nat) (y2 : Int) (μ : Mm) : Option (Int × Mm) :=
    Option.bind (fX7_countWanted N a y1 y2 μ) (fun μ2 => fX7_findLacking_l8 N a y1 μ2 N 0)
abbrev rmX7_findLacking : Room := { frames := 3, cells := 0, slots := 0, locals := 68 }
set_option maxHeartbeats 4000000 in
set_option maxRecDepth 100000 in
theorem m_X7_findLacking (l : Launch) (D : va_G) (b : Nat) (cs : CS) (N : Nat) {μ μ0 : Mm} {a y1 : Nat} {y2 : Int} {r : Int} (hka : kd a = 5) (hky1 : kd y1 = 4) (h : fX7_findLacking N a y1 y2 μ = some (r, μ0)) : MI l yX7_findLacking wsX7_findLacking rmX7_findLacking D b cs [jR b a, jR b y1, jI y2] μ μ0 r := by
  refine met_in (cc := cX7_findLacking) (maxL := 4) (ret := some .int) (lv0 := [(0, jR b a), (1, jR b y1), (2, jI y2)]) (by decide +kernel) rfl (Nat.le_of_ble_eq_true rfl) rfl ?_
  intro p e s m args below meth c hx hb hr hlk hml hown hts hP hK ls hl
  have hown : s.vm.findClass RX7 = some m.cls := hown
  have hS : va_S (bA b) s.heap s.heap [] := va_S.rf
  have hinX5 : ∀ w ∈ u_ws RX5 TX5 9, w ∈ wsX7_findLacking := by decide +kernel
  have hinX7 : ∀ w ∈ u_ws RX7 TX7 9, w ∈ wsX7_findLacking := by decide +kernel
  unfold fX7_findLacking at h
  refine j_aload_n hx hb dX7_findLacking_0 rfl (lv_at hl 0 rfl) ?_
  refine j_aload_n hx hb dX7_findLacking_1 rfl (lv_at hl 1 rfl) ?_
  refine j_iload_n hx hb dX7_findLacking_2 rfl (lv_at hl 2 rfl) ?_
  obtain ⟨μ2, e1, h⟩ := ob_I h
  refine jc_VM (As := [jR b y1, jI y2]) (rest := []) ⟨hx, hb, hml, hown, hts⟩ hK hP hS (m_X7_countWanted l D b cs N hka hky1 e1) (cwV 2 hts gX7_findLacking_X7_countWanted rfl rfl rfl (by decide +kernel) ⟨Nat.le_of_ble_eq_true rfl, Nat.le_of_ble_eq_true rfl⟩) hka (by decide) rfl rfl hl.1 rfl (Nat.le_of_ble_eq_true rfl) dX7_findLacking_3 ⟨Nat.zero_le _, Nat.zero_le _⟩ (fun H locs hP hS => ?_)
  refine j_iconst hx hb dX7_findLacking_6 ?_
  refine j_istore_n (lv2 := [(3, jI 0), (0, jR b a), (1, jR b y1), (2, jI y2)]) hx hb dX7_findLacking_7 rfl hl (by decide) rfl (fun ls hl => ?_)
  have hl8_3 : ∀ (n0 : Nat) (x3_4 : Int) (H : Heap) (locs : List Loc) (ls : Array Slot), va_P D vwCl (wl b cs μ2) H → va_S (bA b) s.heap H locs → lv_has ls 4 [(0, jR b a), (1, jR b y1), (3, jI x3_4)] → fX7_findLacking_l8 N a y1 μ2 n0 x3_4 = some (r, μ0) → W p l e rmX7_findLacking s m args below meth c H locs 0 0 (MQ below (QI D b cs μ0 r) args s 0 0 (bA b)) (F0 m 8 ls []) := by
    intro n0
    induction n0 with
    | zero => intro x3_4 H locs ls hP hS hl h; rw [fX7_findLacking_l8] at h; cases h
    | succ n3 ih8_3 =>
      intro x3_4 H locs ls hP hS hl h
      rw [fX7_findLacking_l8] at h
      refine j_iload_n hx hb dX7_findLacking_8 rfl (lv_at hl 2 rfl) ?_
      refine j_aload_n hx hb dX7_findLacking_9 rfl (lv_at hl 1 rfl) ?_
      refine j_get (v := jI (gI μ2 y1 5)) hx hb hts hinX5 hown hK hP hky1 (by decide) rfl 5 (by decide) (hts (.fieldLink RX7 86 "CardBand$Threading" "colours" "I") (by decide +kernel)) rfl (by rw [jI_g]; rfl) dX7_findLacking_10 ?_
      refine j_icmp_ge (A := wr x3_4) (B := wr (gI μ2 y1 5)) (tgt := 45) hx hb rfl rfl dX7_findLacking_13 (by decide) (fun q5 => ?_) (fun q5 => ?_)
      · replace h := (if_pos q5).symm.trans h
        refine j_iconst hx hb dX7_findLacking_45 ?_
        obtain ⟨e0, e1⟩ := Prod.mk.inj (Option.some.inj h)
        subst e1
        exact j_retI hx hb hK hP hS hr hlk e0 dX7_findLacking_46
      · replace h := (if_neg q5).symm.trans h
        refine j_iload_n hx hb dX7_findLacking_16 rfl (lv_at hl 2 rfl) ?_
        refine j_bipush hx hb dX7_findLacking_17 (by decide) ?_
        refine j_icmp_ge (A := wr x3_4) (B := 8) (tgt := 45) hx hb rfl (by decide) dX7_findLacking_19 (by decide) (fun q6 => ?_) (fun q6 => ?_)
        · replace h := (if_pos q6).symm.trans h
          refine j_iconst hx hb dX7_findLacking_45 ?_
          obtain ⟨e0, e1⟩ := Prod.mk.inj (Option.some.inj h)
          subst e1
          exact j_retI hx hb hK hP hS hr hlk e0 dX7_findLacking_46
        · replace h := (if_neg q6).symm.trans h
          refine j_aload_n hx hb dX7_findLacking_22 rfl (lv_at hl 0 rfl) ?_
          refine j_get (v := jR b (a + 7)) hx hb hts hinX7 hown hK hP hka (by decide) rfl 6 (by decide) (hts (.fieldLink RX7 30 "CardBand$Weave" "wanted" "[I") (by decide +kernel)) rfl rfl dX7_findLacking_23 ?_
          refine j_iload_n hx hb dX7_findLacking_26 rfl (lv_at hl 2 rfl) ?_
          obtain ⟨v7, e8, h⟩ := ob_I h
          refine j_iaload hx hb hK hP (kX7_7 hka) e8 dX7_findLacking_27 ?_
          refine j_aload_n hx hb dX7_findLacking_28 rfl (lv_at hl 0 rfl) ?_
          refine j_get (v := jR b (a + 6)) hx hb hts hinX7 hown hK hP hka (by decide) rfl 5 (by decide) (hts (.fieldLink RX7 27 "CardBand$Weave" "yarns" "[I") (by decide +kernel)) rfl rfl dX7_findLacking_29 ?_
          refine j_iload_n hx hb dX7_findLacking_32 rfl (lv_at hl 2 rfl) ?_
          obtain ⟨v9, e10, h⟩ := ob_I h
          refine j_iaload hx hb hK hP (kX7_6 hka) e10 dX7_findLacking_33 ?_
          refine j_icmp_le (A := wr v7) (B := wr v9) (tgt := 39) hx hb rfl rfl dX7_findLacking_34 (by decide) (fun q11 => ?_) (fun q11 => ?_)
          · replace h := (if_pos q11).symm.trans h
            refine j_iinc (k := 2) (lv2 := [(3, jI (x3_4 + 1)), (0, jR b a), (1, jR b y1)]) hx hb dX7_findLacking_39 hl rfl (by decide) rfl (fun ls hl => ?_)
            refine j_goto (tgt := 8) hx hb dX7_findLacking_42 (by decide) ?_
            exact ih8_3 _ _ _ _ hP hS (lv_sub hl [1, 2, 0] rfl) h
          · replace h := (if_neg q11).symm.trans h
            refine j_iload_n hx hb dX7_findLacking_37 rfl (lv_at hl 2 rfl) ?_
            obtain ⟨e0, e1⟩ := Prod.mk.inj (Option.some.inj h)
            subst e1
            exact j_retI hx hb hK hP hS hr hlk e0 dX7_findLacking_38
  exact hl8_3 N _ _ _ _ hP hS (lv_sub hl [1, 2, 0] rfl) h
def fX7_isOvertwisted_l2 (N : Nat) (a : Nat) (y1 : Nat) (y2 : Int) (μ : Mm) : Nat → Int → Option (Int)
  | 0, _ => none
  | n1 + 1, x3_2 =>
    if wr (gI μ y1 6) ≤ wr x3_2 then (some 0) else (if 8 ≤ wr x3_2 then (some 0) else (Option.bind (fX5_moveOf N y1 x3_2 y2 μ) (fun v6 => if wr v6 = 1 then (Option.bind (ldA μ (a + 3) 8 x3_2) (fun v12 => if 99 ≤ wr v12 then (some 1) else (if wr v6 = 2 then (Option.bind (ldA μ (a + 3) 8 x3_2) (fun v16 => if (-99) < wr v16 then ((fX7_isOvertwisted_l2 N a y1 y2 μ n1) (x3_2 + 1)) else (some 1))) else ((fX7_isOvertwisted_l2 N a y1 y2 μ n1) (x3_2 + 1))))) else (if wr v6 = 2 then (Option.bind (ldA μ (a + 3) 8 x3_2) (fun v9 => if (-99) < wr v9 then ((fX7_isOvertwisted_l2 N a y1 y2 μ n1) (x3_2 + 1)) else (some 1))) else ((fX7_isOvertwisted_l2 N a y1 y2 μ n1) (x3_2 + 1))))))
def fX7_isOvertwisted (N : Nat) (a : Nat) (y1 : Nat) (y2 : Int) (μ : Mm) : Option (Int) :=
    fX7_isOvertwisted_l2 N a y1 y2 μ N 0
abbrev rmX7_isOvertwisted : Room := { frames := 1, cells := 0, slots := 0, locals := 25 }
set_option maxHeartbeats 4000000 in
set_option maxRecDepth 100000 in
theorem m_X7_isOvertwisted (l : Launch) (D : va_G) (b : Nat) (cs : CS) (N : Nat) {μ : Mm} {a y1 : Nat} {y2 : Int} {r : Int} (hka : kd a = 5) (hky1 : kd y1 = 4) (h : fX7_isOvertwisted N a y1 y2 μ = some r) : MI l yX7_isOvertwisted wsX7_isOvertwisted rmX7_isOvertwisted D b cs [jR b a, jR b y1, jI y2] μ μ r := by
  refine met_in (cc := cX7_isOvertwisted) (maxL := 5) (ret := some .boolean) (lv0 := [(0, jR b a), (1, jR b y1), (2, jI y2)]) (by decide +kernel) rfl (Nat.le_of_ble_eq_true rfl) rfl ?_
  intro p e s m args below meth c hx hb hr hlk hml hown hts hP hK ls hl
  have hown : s.vm.findClass RX7 = some m.cls := hown
  have hS : va_S (bA b) s.heap s.heap [] := va_S.rf
  have hinX5 : ∀ w ∈ u_ws RX5 TX5 9, w ∈ wsX7_isOvertwisted := by decide +kernel
  have hinX7 : ∀ w ∈ u_ws RX7 TX7 9, w ∈ wsX7_isOvertwisted := by decide +kernel
  unfold fX7_isOvertwisted at h
  refine j_iconst hx hb dX7_isOvertwisted_0 ?_
  refine j_istore_n (lv2 := [(3, jI 0), (0, jR b a), (1, jR b y1), (2, jI y2)]) hx hb dX7_isOvertwisted_1 rfl hl (by decide) rfl (fun ls hl => ?_)
  have hl2_1 : ∀ (n0 : Nat) (x3_2 : Int) (H : Heap) (locs : List Loc) (ls : Array Slot), va_P D vwCl (wl b cs μ) H → va_S (bA b) s.heap H locs → lv_has ls 5 [(0, jR b a), (1, jR b y1), (2, jI y2), (3, jI x3_2)] → fX7_isOvertwisted_l2 N a y1 y2 μ n0 x3_2 = some r → W p l e rmX7_isOvertwisted s m args below meth c H locs 0 0 (MQ below (QI D b cs μ r) args s 0 0 (bA b)) (F0 m 2 ls []) := by
    intro n0
    induction n0 with
    | zero => intro x3_2 H locs ls hP hS hl h; rw [fX7_isOvertwisted_l2] at h; cases h
    | succ n1 ih2_1 =>
      intro x3_2 H locs ls hP hS hl h
      rw [fX7_isOvertwisted_l2] at h
      refine j_iload_n hx hb dX7_isOvertwisted_2 rfl (lv_at hl 3 rfl) ?_
      refine j_aload_n hx hb dX7_isOvertwisted_3 rfl (lv_at hl 1 rfl) ?_
      refine j_get (v := jI (gI μ y1 6)) hx hb hts hinX5 hown hK hP hky1 (by decide) rfl 6 (by decide) (hts (.fieldLink RX7 68 "CardBand$Threading" "cards" "I") (by decide +kernel)) rfl (by rw [jI_g]; rfl) dX7_isOvertwisted_4 ?_
      refine j_icmp_ge (A := wr x3_2) (B := wr (gI μ y1 6)) (tgt := 66) hx hb rfl rfl dX7_isOvertwisted_7 (by decide) (fun q3 => ?_) (fun q3 => ?_)
      · replace h := (if_pos q3).symm.trans h
        refine j_iconst hx hb dX7_isOvertwisted_66 ?_
        exact j_retZ hx hb hK hP hS hr hlk (by decide) (Option.some.inj h) dX7_isOvertwisted_67
      · replace h := (if_neg q3).symm.trans h
        refine j_iload_n hx hb dX7_isOvertwisted_10 rfl (lv_at hl 3 rfl) ?_
        refine j_bipush hx hb dX7_isOvertwisted_11 (by decide) ?_
        refine j_icmp_ge (A := wr x3_2) (B := 8) (tgt := 66) hx hb rfl (by decide) dX7_isOvertwisted_13 (by decide) (fun q4 => ?_) (fun q4 => ?_)
        · replace h := (if_pos q4).symm.trans h
          refine j_iconst hx hb dX7_isOvertwisted_66 ?_
          exact j_retZ hx hb hK hP hS hr hlk (by decide) (Option.some.inj h) dX7_isOvertwisted_67
        · replace h := (if_neg q4).symm.trans h
          refine j_aload_n hx hb dX7_isOvertwisted_16 rfl (lv_at hl 1 rfl) ?_
          refine j_iload_n hx hb dX7_isOvertwisted_17 rfl (lv_at hl 3 rfl) ?_
          refine j_iload_n hx hb dX7_isOvertwisted_18 rfl (lv_at hl 2 rfl) ?_
          obtain ⟨v6, e5, h⟩ := ob_I h
          refine jc_VI (As := [jI x3_2, jI y2]) (rest := []) ⟨hx, hb, hml, hown, hts⟩ hK hP hS (m_X5_moveOf l D b cs N hky1 e5) (cwV 2 hts gX7_isOvertwisted_X5_moveOf rfl rfl rfl (by decide +kernel) ⟨Nat.le_of_ble_eq_true rfl, Nat.le_of_ble_eq_true rfl⟩) hky1 (by decide) rfl rfl hl.1 rfl (Nat.le_of_ble_eq_true rfl) dX7_isOvertwisted_19 ⟨Nat.zero_le _, Nat.zero_le _⟩ (fun H locs hP hS => ?_)
          refine j_istore (lv2 := [(4, jI v6), (0, jR b a), (1, jR b y1), (2, jI y2), (3, jI x3_2)]) hx hb dX7_isOvertwisted_22 hl (by decide) rfl (fun ls hl => ?_)
          refine j_iload hx hb dX7_isOvertwisted_24 (lv_at hl 0 rfl) ?_
          refine j_iconst hx hb dX7_isOvertwisted_26 ?_
          refine j_icmp_ne (A := wr v6) (B := 1) (tgt := 41) hx hb rfl (by decide) dX7_isOvertwisted_27 (by decide) (fun q7 => ?_) (fun q7 => ?_)
          · replace h := (if_neg q7).symm.trans h
            refine j_iload hx hb dX7_isOvertwisted_41 (lv_at hl 0 rfl) ?_
            refine j_iconst hx hb dX7_isOvertwisted_43 ?_
            refine j_icmp_ne (A := wr v6) (B := 2) (tgt := 60) hx hb rfl (by decide) dX7_isOvertwisted_44 (by decide) (fun q8 => ?_) (fun q8 => ?_)
            · replace h := (if_neg q8).symm.trans h
              refine j_iinc (k := 4) (lv2 := [(3, jI (x3_2 + 1)), (4, jI v6), (0, jR b a), (1, jR b y1), (2, jI y2)]) hx hb dX7_isOvertwisted_60 hl rfl (by decide) rfl (fun ls hl => ?_)
              refine j_goto (tgt := 2) hx hb dX7_isOvertwisted_63 (by decide) ?_
              exact ih2_1 _ _ _ _ hP hS (lv_sub hl [2, 3, 4, 0] rfl) h
            · replace h := (if_pos q8).symm.trans h
              refine j_aload_n hx hb dX7_isOvertwisted_47 rfl (lv_at hl 1 rfl) ?_
              refine j_get (v := jR b (a + 3)) hx hb hts hinX7 hown hK hP hka (by decide) rfl 2 (by decide) (hts (.fieldLink RX7 18 "CardBand$Weave" "twists" "[I") (by decide +kernel)) rfl rfl dX7_isOvertwisted_48 ?_
              refine j_iload_n hx hb dX7_isOvertwisted_51 rfl (lv_at hl 4 rfl) ?_
              obtain ⟨v9, e10, h⟩ := ob_I h
              refine j_iaload hx hb hK hP (kX7_3 hka) e10 dX7_isOvertwisted_52 ?_
              refine j_bipush hx hb dX7_isOvertwisted_53 (by decide) ?_
              refine j_icmp_gt (A := wr v9) (B := (-99)) (tgt := 60) hx hb rfl (by decide) dX7_isOvertwisted_55 (by decide) (fun q11 => ?_) (fun q11 => ?_)
              · replace h := (if_pos q11).symm.trans h
                refine j_iinc (k := 4) (lv2 := [(3, jI (x3_2 + 1)), (4, jI v6), (0, jR b a), (1, jR b y1), (2, jI y2)]) hx hb dX7_isOvertwisted_60 hl rfl (by decide) rfl (fun ls hl => ?_)
                refine j_goto (tgt := 2) hx hb dX7_isOvertwisted_63 (by decide) ?_
                exact ih2_1 _ _ _ _ hP hS (lv_sub hl [2, 3, 4, 0] rfl) h
              · replace h := (if_neg q11).symm.trans h
                refine j_iconst hx hb dX7_isOvertwisted_58 ?_
                exact j_retZ hx hb hK hP hS hr hlk (by decide) (Option.some.inj h) dX7_isOvertwisted_59
          · replace h := (if_pos q7).symm.trans h
            refine j_aload_n hx hb dX7_isOvertwisted_30 rfl (lv_at hl 1 rfl) ?_
            refine j_get (v := jR b (a + 3)) hx hb hts hinX7 hown hK hP hka (by decide) rfl 2 (by decide) (hts (.fieldLink RX7 18 "CardBand$Weave" "twists" "[I") (by decide +kernel)) rfl rfl dX7_isOvertwisted_31 ?_
            refine j_iload_n hx hb dX7_isOvertwisted_34 rfl (lv_at hl 4 rfl) ?_
            obtain ⟨v12, e13, h⟩ := ob_I h
            refine j_iaload hx hb hK hP (kX7_3 hka) e13 dX7_isOvertwisted_35 ?_
            refine j_bipush hx hb dX7_isOvertwisted_36 (by decide) ?_
            refine j_icmp_ge (A := wr v12) (B := 99) (tgt := 58) hx hb rfl (by decide) dX7_isOvertwisted_38 (by decide) (fun q14 => ?_) (fun q14 => ?_)
            · replace h := (if_pos q14).symm.trans h
              refine j_iconst hx hb dX7_isOvertwisted_58 ?_
              exact j_retZ hx hb hK hP hS hr hlk (by decide) (Option.some.inj h) dX7_isOvertwisted_59
            · replace h := (if_neg q14).symm.trans h
              refine j_iload hx hb dX7_isOvertwisted_41 (lv_at hl 0 rfl) ?_
              refine j_iconst hx hb dX7_isOvertwisted_43 ?_
              refine j_icmp_ne (A := wr v6) (B := 2) (tgt := 60) hx hb rfl (by decide) dX7_isOvertwisted_44 (by decide) (fun q15 => ?_) (fun q15 => ?_)
              · replace h := (if_neg q15).symm.trans h
                refine j_iinc (k := 4) (lv2 := [(3, jI (x3_2 + 1)), (4, jI v6), (0, jR b a), (1, jR b y1), (2, jI y2)]) hx hb dX7_isOvertwisted_60 hl rfl (by decide) rfl (fun ls hl => ?_)
                refine j_goto (tgt := 2) hx hb dX7_isOvertwisted_63 (by decide) ?_
                exact ih2_1 _ _ _ _ hP hS (lv_sub hl [2, 3, 4, 0] rfl) h
              · replace h := (if_pos q15).symm.trans h
                refine j_aload_n hx hb dX7_isOvertwisted_47 rfl (lv_at hl 1 rfl) ?_
                refine j_get (v := jR b (a + 3)) hx hb hts hinX7 hown hK hP hka (by decide) rfl 2 (by decide) (hts (.fieldLink RX7 18 "CardBand$Weave" "twists" "[I") (by decide +kernel)) rfl rfl dX7_isOvertwisted_48 ?_
                refine j_iload_n hx hb dX7_isOvertwisted_51 rfl (lv_at hl 4 rfl) ?_
                obtain ⟨v16, e17, h⟩ := ob_I h
                refine j_iaload hx hb hK hP (kX7_3 hka) e17 dX7_isOvertwisted_52 ?_
                refine j_bipush hx hb dX7_isOvertwisted_53 (by decide) ?_
                refine j_icmp_gt (A := wr v16) (B := (-99)) (tgt := 60) hx hb rfl (by decide) dX7_isOvertwisted_55 (by decide) (fun q18 => ?_) (fun q18 => ?_)
                · replace h := (if_pos q18).symm.trans h
                  refine j_iinc (k := 4) (lv2 := [(3, jI (x3_2 + 1)), (4, jI v6), (0, jR b a), (1, jR b y1), (2, jI y2)]) hx hb dX7_isOvertwisted_60 hl rfl (by decide) rfl (fun ls hl => ?_)
                  refine j_goto (tgt := 2) hx hb dX7_isOvertwisted_63 (by decide) ?_
                  exact ih2_1 _ _ _ _ hP hS (lv_sub hl [2, 3, 4, 0] rfl) h
                · replace h := (if_neg q18).symm.trans h
                  refine j_iconst hx hb dX7_isOvertwisted_58 ?_
                  exact j_retZ hx hb hK hP hS hr hlk (by decide) (Option.some.inj h) dX7_isOvertwisted_59
  exact hl2_1 N _ _ _ _ hP hS (lv_sub hl [1, 2, 3, 0] rfl) h
def fX7_sumYarn_l4 (N : Nat) (a : Nat) (y1 : Int) (μ : Mm) : Nat → Int → Int → Option (Int)
  | 0, _, _ => none
  | n1 + 1, x2_2, x3_3 =>
    if wr y1 ≤ wr x3_3 then (some x2_2) else (if 8 ≤ wr x3_3 then (some x2_2) else (Option.bind (ldA μ (a + 6) 8 x3_3) (fun v6 => (fX7_sumYarn_l4 N a y1 μ n1) (x2_2 + v6) (x3_3 + 1))))
def fX7_sumYarn (N : Nat) (a : Nat) (y1 : Int) (μ : Mm) : Option (Int) :=
    fX7_sumYarn_l4 N a y1 μ N 0 0
abbrev rmX7_sumYarn : Room := { frames := 0, cells := 0, slots := 0, locals := 0 }
set_option maxHeartbeats 4000000 in
set_option maxRecDepth 100000 in
theorem m_X7_sumYarn (l : Launch) (D : va_G) (b : Nat) (cs : CS) (N : Nat) {μ : Mm} {a : Nat} {y1 : Int} {r : Int} (hka : kd a = 5) (h : fX7_sumYarn N a y1 μ = some r) : MI l yX7_sumYarn wsX7_sumYarn rmX7_sumYarn D b cs [jR b a, jI y1] μ μ r := by
  refine met_in (cc := cX7_sumYarn) (maxL := 4) (ret := some .int) (lv0 := [(0, jR b a), (1, jI y1)]) (by decide +kernel) rfl (Nat.le_of_ble_eq_true rfl) rfl ?_
  intro p e s m args below meth c hx hb hr hlk hml hown hts hP hK ls hl
  have hown : s.vm.findClass RX7 = some m.cls := hown
  have hS : va_S (bA b) s.heap s.heap [] := va_S.rf
  have hinX7 : ∀ w ∈ u_ws RX7 TX7 9, w ∈ wsX7_sumYarn := by decide +kernel
  unfold fX7_sumYarn at h
  refine j_iconst hx hb dX7_sumYarn_0 ?_
  refine j_istore_n (lv2 := [(2, jI 0), (0, jR b a), (1, jI y1)]) hx hb dX7_sumYarn_1 rfl hl (by decide) rfl (fun ls hl => ?_)
  refine j_iconst hx hb dX7_sumYarn_2 ?_
  refine j_istore_n (lv2 := [(3, jI 0), (2, jI 0), (0, jR b a), (1, jI y1)]) hx hb dX7_sumYarn_3 rfl hl (by decide) rfl (fun ls hl => ?_)
  have hl4_1 : ∀ (n0 : Nat) (x2_2 : Int) (x3_3 : Int) (H : Heap) (locs : List Loc) (ls : Array Slot), va_P D vwCl (wl b cs μ) H → va_S (bA b) s.heap H locs → lv_has ls 4 [(0, jR b a), (1, jI y1), (2, jI x2_2), (3, jI x3_3)] → fX7_sumYarn_l4 N a y1 μ n0 x2_2 x3_3 = some r → W p l e rmX7_sumYarn s m args below meth c H locs 0 0 (MQ below (QI D b cs μ r) args s 0 0 (bA b)) (F0 m 4 ls []) := by
    intro n0
    induction n0 with
    | zero => intro x2_2 x3_3 H locs ls hP hS hl h; rw [fX7_sumYarn_l4] at h; cases h
    | succ n1 ih4_1 =>
      intro x2_2 x3_3 H locs ls hP hS hl h
      rw [fX7_sumYarn_l4] at h
      refine j_iload_n hx hb dX7_sumYarn_4 rfl (lv_at hl 3 rfl) ?_
      refine j_iload_n hx hb dX7_sumYarn_5 rfl (lv_at hl 1 rfl) ?_
      refine j_icmp_ge (A := wr x3_3) (B := wr y1) (tgt := 30) hx hb rfl rfl dX7_sumYarn_6 (by decide) (fun q4 => ?_) (fun q4 => ?_)
      · replace h := (if_pos q4).symm.trans h
        refine j_iload_n hx hb dX7_sumYarn_30 rfl (lv_at hl 2 rfl) ?_
        exact j_retI hx hb hK hP hS hr hlk (Option.some.inj h) dX7_sumYarn_31
      · replace h := (if_neg q4).symm.trans h
        refine j_iload_n hx hb dX7_sumYarn_9 rfl (lv_at hl 3 rfl) ?_
        refine j_bipush hx hb dX7_sumYarn_10 (by decide) ?_
        refine j_icmp_ge (A := wr x3_3) (B := 8) (tgt := 30) hx hb rfl (by decide) dX7_sumYarn_12 (by decide) (fun q5 => ?_) (fun q5 => ?_)
        · replace h := (if_pos q5).symm.trans h
          refine j_iload_n hx hb dX7_sumYarn_30 rfl (lv_at hl 2 rfl) ?_
          exact j_retI hx hb hK hP hS hr hlk (Option.some.inj h) dX7_sumYarn_31
        · replace h := (if_neg q5).symm.trans h
          refine j_iload_n hx hb dX7_sumYarn_15 rfl (lv_at hl 2 rfl) ?_
          refine j_aload_n hx hb dX7_sumYarn_16 rfl (lv_at hl 0 rfl) ?_
          refine j_get (v := jR b (a + 6)) hx hb hts hinX7 hown hK hP hka (by decide) rfl 5 (by decide) (hts (.fieldLink RX7 27 "CardBand$Weave" "yarns" "[I") (by decide +kernel)) rfl rfl dX7_sumYarn_17 ?_
          refine j_iload_n hx hb dX7_sumYarn_20 rfl (lv_at hl 3 rfl) ?_
          obtain ⟨v6, e7, h⟩ := ob_I h
          refine j_iaload hx hb hK hP (kX7_6 hka) e7 dX7_sumYarn_21 ?_
          refine j_iadd hx hb dX7_sumYarn_22 ?_
          refine j_istore_n (lv2 := [(2, jI (x2_2 + v6)), (0, jR b a), (1, jI y1), (3, jI x3_3)]) hx hb dX7_sumYarn_23 rfl hl (by decide) rfl (fun ls hl => ?_)
          refine j_iinc (k := 3) (lv2 := [(3, jI (x3_3 + 1)), (2, jI (x2_2 + v6)), (0, jR b a), (1, jI y1)]) hx hb dX7_sumYarn_24 hl rfl (by decide) rfl (fun ls hl => ?_)
          refine j_goto (tgt := 4) hx hb dX7_sumYarn_27 (by decide) ?_
          exact ih4_1 _ _ _ _ _ hP hS (lv_sub hl [2, 3, 1, 0] rfl) h
  exact hl4_1 N _ _ _ _ _ hP hS (lv_sub hl [2, 3, 1, 0] rfl) h
def fX7_turnCard_j106 (N : Nat) (a : Nat) (y2 : Int) (v7 : Int) : Mm → Option (Mm) := fun μ9 =>
    Option.bind (stA μ9 (a + 4) 8 y2 v7) (fun μ10 => if wr v7 < 0 then (some μ10) else (if 8 ≤ wr v7 then (some μ10) else (Option.bind (ldA μ10 (a + 6) 8 v7) (fun v14 => Option.bind (stA μ10 (a + 6) 8 v7 (v14 - 1)) (fun μ16 => some μ16)))))
def fX7_turnCard (N : Nat) (a : Nat) (y1 : Nat) (y2 : Int) (y3 : Int) (μ : Mm) : Option (Mm) :=
    if wr y3 = 0 then (some μ) else (if wr y2 < 0 then (some μ) else (if wr y2 < 8 then (Option.bind (fX7_holeShownBy N a y2 y3 μ) (fun v5 => Option.bind (fX5_colourAt N y1 y2 v5 μ) (fun v7 => if wr y3 = 1 then (Option.bind (stA μ (a + 2) 8 y2 (andI (v5 + 1) 3)) (fun μ29 => Option.bind (ldA μ29 (a + 3) 8 y2) (fun v31 => Option.bind (stA μ29 (a + 3) 8 y2 (v31 + 1)) (fun μ33 => Option.bind (ldA μ33 (a + 1) 8 y2) (fun v35 => Option.bind (stA μ33 (a + 5) 8 y2 v35) (fun μ37 => fX7_turnCard_j106 N a y2 v7 μ37)))))) else (Option.bind (stA μ (a + 2) 8 y2 v5) (fun μ19 => Option.bind (ldA μ19 (a + 3) 8 y2) (fun v21 => Option.bind (stA μ19 (a + 3) 8 y2 (v21 - 1)) (fun μ23 => Option.bind (ldA μ23 (a + 1) 8 y2) (fun v25 => Option.bind (stA μ23 (a + 5) 8 y2 (1 - v25)) (fun μ27 => fX7_turnCard_j106 N a y2 v7 μ27))))))))) else (some μ)))
abbrev rmX7_turnCard : Room := { frames := 2, cells := 0, slots := 0, locals := 43 }
set_option maxHeartbeats 4000000 in
set_option maxRecDepth 100000 in
theorem m_X7_turnCard (l : Launch) (D : va_G) (b : Nat) (cs : CS) (N : Nat) {μ μ0 : Mm} {a y1 : Nat} {y2 y3 : Int} (hka : kd a = 5) (hky1 : kd y1 = 4) (h : fX7_turnCard N a y1 y2 y3 μ = some μ0) : MM l yX7_turnCard wsX7_turnCard rmX7_turnCard D b cs [jR b a, jR b y1, jI y2, jI y3] μ μ0 := by
  refine met_in (cc := cX7_turnCard) (maxL := 6) (ret := none) (lv0 := [(0, jR b a), (1, jR b y1), (2, jI y2), (3, jI y3)]) (by decide +kernel) rfl (Nat.le_of_ble_eq_true rfl) rfl ?_
  intro p e s m args below meth c hx hb hr hlk hml hown hts hP hK ls hl
  have hown : s.vm.findClass RX7 = some m.cls := hown
  have hS : va_S (bA b) s.heap s.heap [] := va_S.rf
  have hinX7 : ∀ w ∈ u_ws RX7 TX7 9, w ∈ wsX7_turnCard := by decide +kernel
  unfold fX7_turnCard at h
  refine j_iload_n hx hb dX7_turnCard_0 rfl (lv_at hl 3 rfl) ?_
  refine j_if_eq (A := wr y3) (tgt := 14) hx hb rfl dX7_turnCard_1 (by decide) (fun q1 => ?_) (fun q1 => ?_)
  · replace h := (if_pos q1).symm.trans h
    have e0 := Option.some.inj h
    subst e0
    exact j_retM hx hb hK hP hS hr hlk dX7_turnCard_14
  · replace h := (if_neg q1).symm.trans h
    refine j_iload_n hx hb dX7_turnCard_4 rfl (lv_at hl 2 rfl) ?_
    refine j_if_lt (A := wr y2) (tgt := 14) hx hb rfl dX7_turnCard_5 (by decide) (fun q2 => ?_) (fun q2 => ?_)
    · replace h := (if_pos q2).symm.trans h
      have e0 := Option.some.inj h
      subst e0
      exact j_retM hx hb hK hP hS hr hlk dX7_turnCard_14
    · replace h := (if_neg q2).symm.trans h
      refine j_iload_n hx hb dX7_turnCard_8 rfl (lv_at hl 2 rfl) ?_
      refine j_bipush hx hb dX7_turnCard_9 (by decide) ?_
      refine j_icmp_lt (A := wr y2) (B := 8) (tgt := 15) hx hb rfl (by decide) dX7_turnCard_11 (by decide) (fun q3 => ?_) (fun q3 => ?_)
      · replace h := (if_pos q3).symm.trans h
        refine j_aload_n hx hb dX7_turnCard_15 rfl (lv_at hl 0 rfl) ?_
        refine j_iload_n hx hb dX7_turnCard_16 rfl (lv_at hl 2 rfl) ?_
        refine j_iload_n hx hb dX7_turnCard_17 rfl (lv_at hl 3 rfl) ?_
        obtain ⟨v5, e4, h⟩ := ob_I h
        refine jc_VI (As := [jI y2, jI y3]) (rest := []) ⟨hx, hb, hml, hown, hts⟩ hK hP hS (m_X7_holeShownBy l D b cs N hka e4) (cwV 2 hts gX7_turnCard_X7_holeShownBy rfl rfl rfl (by decide +kernel) ⟨Nat.le_of_ble_eq_true rfl, Nat.le_of_ble_eq_true rfl⟩) hka (by decide) rfl rfl hl.1 rfl (Nat.le_of_ble_eq_true rfl) dX7_turnCard_18 ⟨Nat.zero_le _, Nat.zero_le _⟩ (fun H locs hP hS => ?_)
        refine j_istore (lv2 := [(4, jI v5), (0, jR b a), (1, jR b y1), (2, jI y2), (3, jI y3)]) hx hb dX7_turnCard_21 hl (by decide) rfl (fun ls hl => ?_)
        refine j_aload_n hx hb dX7_turnCard_23 rfl (lv_at hl 2 rfl) ?_
        refine j_iload_n hx hb dX7_turnCard_24 rfl (lv_at hl 3 rfl) ?_
        refine j_iload hx hb dX7_turnCard_25 (lv_at hl 0 rfl) ?_
        obtain ⟨v7, e6, h⟩ := ob_I h
        refine jc_VI (As := [jI y2, jI v5]) (rest := []) ⟨hx, hb, hml, hown, hts⟩ hK hP hS (m_X5_colourAt l D b cs N hky1 e6) (cwV 2 hts gX7_turnCard_X5_colourAt rfl rfl rfl (by decide +kernel) ⟨Nat.le_of_ble_eq_true rfl, Nat.le_of_ble_eq_true rfl⟩) hky1 (by decide) rfl rfl hl.1 rfl (Nat.le_of_ble_eq_true rfl) dX7_turnCard_27 ⟨Nat.zero_le _, Nat.zero_le _⟩ (fun H locs hP hS => ?_)
        refine j_istore (lv2 := [(5, jI v7), (4, jI v5), (0, jR b a), (1, jR b y1), (2, jI y2), (3, jI y3)]) hx hb dX7_turnCard_30 hl (by decide) rfl (fun ls hl => ?_)
        refine j_iload_n hx hb dX7_turnCard_32 rfl (lv_at hl 5 rfl) ?_
        refine j_iconst hx hb dX7_turnCard_33 ?_
        have hj106_8 : ∀ (μ9 : Mm) (H : Heap) (locs : List Loc) (ls : Array Slot), va_P D vwCl (wl b cs μ9) H → va_S (bA b) s.heap H locs → lv_has ls 6 [(0, jR b a), (2, jI y2), (5, jI v7)] → fX7_turnCard_j106 N a y2 v7 μ9 = some μ0 → W p l e rmX7_turnCard s m args below meth c H locs 0 0 (MQ below (QM D b cs μ0) args s 0 0 (bA b)) (F0 m 106 ls []) := by
          intro μ9 H locs ls hP hS hl h
          unfold fX7_turnCard_j106 at h
          refine j_aload_n hx hb dX7_turnCard_106 rfl (lv_at hl 0 rfl) ?_
          refine j_get (v := jR b (a + 4)) hx hb hts hinX7 hown hK hP hka (by decide) rfl 3 (by decide) (hts (.fieldLink RX7 21 "CardBand$Weave" "shows" "[I") (by decide +kernel)) rfl rfl dX7_turnCard_107 ?_
          refine j_iload_n hx hb dX7_turnCard_110 rfl (lv_at hl 1 rfl) ?_
          refine j_iload hx hb dX7_turnCard_111 (lv_at hl 2 rfl) ?_
          obtain ⟨μ10, e11, h⟩ := ob_I h
          refine j_iastore hx hb hK hP hS (kX7_4 hka) e11 dX7_turnCard_113 (fun H locs hP hS => ?_)
          refine j_iload hx hb dX7_turnCard_114 (lv_at hl 2 rfl) ?_
          refine j_if_lt (A := wr v7) (tgt := 137) hx hb rfl dX7_turnCard_116 (by decide) (fun q12 => ?_) (fun q12 => ?_)
          · replace h := (if_pos q12).symm.trans h
            have e0 := Option.some.inj h
            subst e0
            exact j_retM hx hb hK hP hS hr hlk dX7_turnCard_137
          · replace h := (if_neg q12).symm.trans h
            refine j_iload hx hb dX7_turnCard_119 (lv_at hl 2 rfl) ?_
            refine j_bipush hx hb dX7_turnCard_121 (by decide) ?_
            refine j_icmp_ge (A := wr v7) (B := 8) (tgt := 137) hx hb rfl (by decide) dX7_turnCard_123 (by decide) (fun q13 => ?_) (fun q13 => ?_)
            · replace h := (if_pos q13).symm.trans h
              have e0 := Option.some.inj h
              subst e0
              exact j_retM hx hb hK hP hS hr hlk dX7_turnCard_137
            · replace h := (if_neg q13).symm.trans h
              refine j_aload_n hx hb dX7_turnCard_126 rfl (lv_at hl 0 rfl) ?_
              refine j_get (v := jR b (a + 6)) hx hb hts hinX7 hown hK hP hka (by decide) rfl 5 (by decide) (hts (.fieldLink RX7 27 "CardBand$Weave" "yarns" "[I") (by decide +kernel)) rfl rfl dX7_turnCard_127 ?_
              refine j_iload hx hb dX7_turnCard_130 (lv_at hl 2 rfl) ?_
              refine j_dup2 hx hb dX7_turnCard_132 rfl rfl ?_
              obtain ⟨v14, e15, h⟩ := ob_I h
              refine j_iaload hx hb hK hP (kX7_6 hka) e15 dX7_turnCard_133 ?_
              refine j_iconst hx hb dX7_turnCard_134 ?_
              refine j_isub hx hb dX7_turnCard_135 ?_
              obtain ⟨μ16, e17, h⟩ := ob_I h
              refine j_iastore hx hb hK hP hS (kX7_6 hka) e17 dX7_turnCard_136 (fun H locs hP hS => ?_)
              have e0 := Option.some.inj h
              subst e0
              exact j_retM hx hb hK hP hS hr hlk dX7_turnCard_137
        refine j_icmp_ne (A := wr y3) (B := 1) (tgt := 74) hx hb rfl (by decide) dX7_turnCard_34 (by decide) (fun q18 => ?_) (fun q18 => ?_)
        · replace h := (if_neg q18).symm.trans h
          refine j_aload_n hx hb dX7_turnCard_74 rfl (lv_at hl 2 rfl) ?_
          refine j_get (v := jR b (a + 2)) hx hb hts hinX7 hown hK hP hka (by decide) rfl 1 (by decide) (hts (.fieldLink RX7 15 "CardBand$Weave" "stands" "[I") (by decide +kernel)) rfl rfl dX7_turnCard_75 ?_
          refine j_iload_n hx hb dX7_turnCard_78 rfl (lv_at hl 4 rfl) ?_
          refine j_iload hx hb dX7_turnCard_79 (lv_at hl 1 rfl) ?_
          obtain ⟨μ19, e20, h⟩ := ob_I h
          refine j_iastore hx hb hK hP hS (kX7_2 hka) e20 dX7_turnCard_81 (fun H locs hP hS => ?_)
          refine j_aload_n hx hb dX7_turnCard_82 rfl (lv_at hl 2 rfl) ?_
          refine j_get (v := jR b (a + 3)) hx hb hts hinX7 hown hK hP hka (by decide) rfl 2 (by decide) (hts (.fieldLink RX7 18 "CardBand$Weave" "twists" "[I") (by decide +kernel)) rfl rfl dX7_turnCard_83 ?_
          refine j_iload_n hx hb dX7_turnCard_86 rfl (lv_at hl 4 rfl) ?_
          refine j_dup2 hx hb dX7_turnCard_87 rfl rfl ?_
          obtain ⟨v21, e22, h⟩ := ob_I h
          refine j_iaload hx hb hK hP (kX7_3 hka) e22 dX7_turnCard_88 ?_
          refine j_iconst hx hb dX7_turnCard_89 ?_
          refine j_isub hx hb dX7_turnCard_90 ?_
          obtain ⟨μ23, e24, h⟩ := ob_I h
          refine j_iastore hx hb hK hP hS (kX7_3 hka) e24 dX7_turnCard_91 (fun H locs hP hS => ?_)
          refine j_aload_n hx hb dX7_turnCard_92 rfl (lv_at hl 2 rfl) ?_
          refine j_get (v := jR b (a + 5)) hx hb hts hinX7 hown hK hP hka (by decide) rfl 4 (by decide) (hts (.fieldLink RX7 24 "CardBand$Weave" "slants" "[I") (by decide +kernel)) rfl rfl dX7_turnCard_93 ?_
          refine j_iload_n hx hb dX7_turnCard_96 rfl (lv_at hl 4 rfl) ?_
          refine j_iconst hx hb dX7_turnCard_97 ?_
          refine j_aload_n hx hb dX7_turnCard_98 rfl (lv_at hl 2 rfl) ?_
          refine j_get (v := jR b (a + 1)) hx hb hts hinX7 hown hK hP hka (by decide) rfl 0 (by decide) (hts (.fieldLink RX7 9 "CardBand$Weave" "ways" "[I") (by decide +kernel)) rfl rfl dX7_turnCard_99 ?_
          refine j_iload_n hx hb dX7_turnCard_102 rfl (lv_at hl 4 rfl) ?_
          obtain ⟨v25, e26, h⟩ := ob_I h
          refine j_iaload hx hb hK hP (kX7_1 hka) e26 dX7_turnCard_103 ?_
          refine j_isub hx hb dX7_turnCard_104 ?_
          obtain ⟨μ27, e28, h⟩ := ob_I h
          refine j_iastore hx hb hK hP hS (kX7_5 hka) e28 dX7_turnCard_105 (fun H locs hP hS => ?_)
          exact hj106_8 _ _ _ _ hP hS (lv_sub hl [2, 4, 0] rfl) h
        · replace h := (if_pos q18).symm.trans h
          refine j_aload_n hx hb dX7_turnCard_37 rfl (lv_at hl 2 rfl) ?_
          refine j_get (v := jR b (a + 2)) hx hb hts hinX7 hown hK hP hka (by decide) rfl 1 (by decide) (hts (.fieldLink RX7 15 "CardBand$Weave" "stands" "[I") (by decide +kernel)) rfl rfl dX7_turnCard_38 ?_
          refine j_iload_n hx hb dX7_turnCard_41 rfl (lv_at hl 4 rfl) ?_
          refine j_iload hx hb dX7_turnCard_42 (lv_at hl 1 rfl) ?_
          refine j_iconst hx hb dX7_turnCard_44 ?_
          refine j_iadd hx hb dX7_turnCard_45 ?_
          refine j_iconst hx hb dX7_turnCard_46 ?_
          refine j_iand hx hb dX7_turnCard_47 ?_
          obtain ⟨μ29, e30, h⟩ := ob_I h
          refine j_iastore hx hb hK hP hS (kX7_2 hka) e30 dX7_turnCard_48 (fun H locs hP hS => ?_)
          refine j_aload_n hx hb dX7_turnCard_49 rfl (lv_at hl 2 rfl) ?_
          refine j_get (v := jR b (a + 3)) hx hb hts hinX7 hown hK hP hka (by decide) rfl 2 (by decide) (hts (.fieldLink RX7 18 "CardBand$Weave" "twists" "[I") (by decide +kernel)) rfl rfl dX7_turnCard_50 ?_
          refine j_iload_n hx hb dX7_turnCard_53 rfl (lv_at hl 4 rfl) ?_
          refine j_dup2 hx hb dX7_turnCard_54 rfl rfl ?_
          obtain ⟨v31, e32, h⟩ := ob_I h
          refine j_iaload hx hb hK hP (kX7_3 hka) e32 dX7_turnCard_55 ?_
          refine j_iconst hx hb dX7_turnCard_56 ?_
          refine j_iadd hx hb dX7_turnCard_57 ?_
          obtain ⟨μ33, e34, h⟩ := ob_I h
          refine j_iastore hx hb hK hP hS (kX7_3 hka) e34 dX7_turnCard_58 (fun H locs hP hS => ?_)
          refine j_aload_n hx hb dX7_turnCard_59 rfl (lv_at hl 2 rfl) ?_
          refine j_get (v := jR b (a + 5)) hx hb hts hinX7 hown hK hP hka (by decide) rfl 4 (by decide) (hts (.fieldLink RX7 24 "CardBand$Weave" "slants" "[I") (by decide +kernel)) rfl rfl dX7_turnCard_60 ?_
          refine j_iload_n hx hb dX7_turnCard_63 rfl (lv_at hl 4 rfl) ?_
          refine j_aload_n hx hb dX7_turnCard_64 rfl (lv_at hl 2 rfl) ?_
          refine j_get (v := jR b (a + 1)) hx hb hts hinX7 hown hK hP hka (by decide) rfl 0 (by decide) (hts (.fieldLink RX7 9 "CardBand$Weave" "ways" "[I") (by decide +kernel)) rfl rfl dX7_turnCard_65 ?_
          refine j_iload_n hx hb dX7_turnCard_68 rfl (lv_at hl 4 rfl) ?_
          obtain ⟨v35, e36, h⟩ := ob_I h
          refine j_iaload hx hb hK hP (kX7_1 hka) e36 dX7_turnCard_69 ?_
          obtain ⟨μ37, e38, h⟩ := ob_I h
          refine j_iastore hx hb hK hP hS (kX7_5 hka) e38 dX7_turnCard_70 (fun H locs hP hS => ?_)
          refine j_goto (tgt := 106) hx hb dX7_turnCard_71 (by decide) ?_
          exact hj106_8 _ _ _ _ hP hS (lv_sub hl [2, 4, 0] rfl) h
      · replace h := (if_neg q3).symm.trans h
        have e0 := Option.some.inj h
        subst e0
        exact j_retM hx hb hK hP hS hr hlk dX7_turnCard_14
def fX7_weaveOnce_k55 (N : Nat) (a : Nat) : Mm → Option (Int × Mm) := fun μ9 =>
    Option.bind (fX7_addRow N a μ9) (fun μ11 => some (1, μ11))
def fX7_weaveOnce_l23 (N : Nat) (a : Nat) (y1 : Nat) (y2 : Int) : Nat → Int → Mm → Option (Int × Mm)
  | 0, _, _ => none
  | n12 + 1, x3_13, μ14 =>
    if wr (gI μ14 y1 6) ≤ wr x3_13 then (fX7_weaveOnce_k55 N a μ14) else (if 8 ≤ wr x3_13 then (fX7_weaveOnce_k55 N a μ14) else (Option.bind (fX5_moveOf N y1 x3_13 y2 μ14) (fun v18 => Option.bind (fX7_turnCard N a y1 x3_13 v18 μ14) (fun μ20 => (fX7_weaveOnce_l23 N a y1 y2 n12) (x3_13 + 1) μ20))))
def fX7_weaveOnce (N : Nat) (a : Nat) (y1 : Nat) (y2 : Int) (μ : Mm) : Option (Int × Mm) :=
    Option.bind (fX7_isOvertwisted N a y1 y2 μ) (fun v2 => if wr v2 = 0 then (bP (fX7_findLacking N a y1 y2 μ) (fun v5 μ6 => if wr v5 = (-1) then (fX7_weaveOnce_l23 N a y1 y2 N 0 μ6) else (some (0, μ6)))) else (some (0, μ)))
abbrev rmX7_weaveOnce : Room := { frames := 4, cells := 0, slots := 0, locals := 91 }
set_option maxHeartbeats 4000000 in
set_option maxRecDepth 100000 in
theorem m_X7_weaveOnce (l : Launch) (D : va_G) (b : Nat) (cs : CS) (N : Nat) {μ μ0 : Mm} {a y1 : Nat} {y2 : Int} {r : Int} (hka : kd a = 5) (hky1 : kd y1 = 4) (h : fX7_weaveOnce N a y1 y2 μ = some (r, μ0)) : MI l yX7_weaveOnce wsX7_weaveOnce rmX7_weaveOnce D b cs [jR b a, jR b y1, jI y2] μ μ0 r := by
  refine met_in (cc := cX7_weaveOnce) (maxL := 4) (ret := some .boolean) (lv0 := [(0, jR b a), (1, jR b y1), (2, jI y2)]) (by decide +kernel) rfl (Nat.le_of_ble_eq_true rfl) rfl ?_
  intro p e s m args below meth c hx hb hr hlk hml hown hts hP hK ls hl
  have hown : s.vm.findClass RX7 = some m.cls := hown
  have hS : va_S (bA b) s.heap s.heap [] := va_S.rf
  have hinX5 : ∀ w ∈ u_ws RX5 TX5 9, w ∈ wsX7_weaveOnce := by decide +kernel
  unfold fX7_weaveOnce at h
  refine j_aload_n hx hb dX7_weaveOnce_0 rfl (lv_at hl 0 rfl) ?_
  refine j_aload_n hx hb dX7_weaveOnce_1 rfl (lv_at hl 1 rfl) ?_
  refine j_iload_n hx hb dX7_weaveOnce_2 rfl (lv_at hl 2 rfl) ?_
  obtain ⟨v2, e1, h⟩ := ob_I h
  refine jc_VI (As := [jR b y1, jI y2]) (rest := []) ⟨hx, hb, hml, hown, hts⟩ hK hP hS (m_X7_isOvertwisted l D b cs N hka hky1 e1) (cwV 2 hts gX7_weaveOnce_X7_isOvertwisted rfl rfl rfl (by decide +kernel) ⟨Nat.le_of_ble_eq_true rfl, Nat.le_of_ble_eq_true rfl⟩) hka (by decide) rfl rfl hl.1 rfl (Nat.le_of_ble_eq_true rfl) dX7_weaveOnce_3 ⟨Nat.zero_le _, Nat.zero_le _⟩ (fun H locs hP hS => ?_)
  refine j_if_ne (A := wr v2) (tgt := 19) hx hb rfl dX7_weaveOnce_6 (by decide) (fun q3 => ?_) (fun q3 => ?_)
  · replace h := (if_neg q3).symm.trans h
    refine j_iconst hx hb dX7_weaveOnce_19 ?_
    obtain ⟨e0, e1⟩ := Prod.mk.inj (Option.some.inj h)
    subst e1
    exact j_retZ hx hb hK hP hS hr hlk (by decide) e0 dX7_weaveOnce_20
  · replace h := (if_pos q3).symm.trans h
    refine j_aload_n hx hb dX7_weaveOnce_9 rfl (lv_at hl 0 rfl) ?_
    refine j_aload_n hx hb dX7_weaveOnce_10 rfl (lv_at hl 1 rfl) ?_
    refine j_iload_n hx hb dX7_weaveOnce_11 rfl (lv_at hl 2 rfl) ?_
    obtain ⟨v5, μ6, e4, h⟩ := ob_P h
    refine jc_VI (As := [jR b y1, jI y2]) (rest := []) ⟨hx, hb, hml, hown, hts⟩ hK hP hS (m_X7_findLacking l D b cs N hka hky1 e4) (cwV 2 hts gX7_weaveOnce_X7_findLacking rfl rfl rfl (by decide +kernel) ⟨Nat.le_of_ble_eq_true rfl, Nat.le_of_ble_eq_true rfl⟩) hka (by decide) rfl rfl hl.1 rfl (Nat.le_of_ble_eq_true rfl) dX7_weaveOnce_12 ⟨Nat.zero_le _, Nat.zero_le _⟩ (fun H locs hP hS => ?_)
    refine j_iconst hx hb dX7_weaveOnce_15 ?_
    refine j_icmp_eq (A := wr v5) (B := (-1)) (tgt := 21) hx hb rfl (by decide) dX7_weaveOnce_16 (by decide) (fun q7 => ?_) (fun q7 => ?_)
    · replace h := (if_pos q7).symm.trans h
      refine j_iconst hx hb dX7_weaveOnce_21 ?_
      refine j_istore_n (lv2 := [(3, jI 0), (0, jR b a), (1, jR b y1), (2, jI y2)]) hx hb dX7_weaveOnce_22 rfl hl (by decide) rfl (fun ls hl => ?_)
      have hk55_8 : ∀ (μ9 : Mm) (H : Heap) (locs : List Loc) (ls : Array Slot), va_P D vwCl (wl b cs μ9) H → va_S (bA b) s.heap H locs → lv_has ls 4 [(0, jR b a)] → fX7_weaveOnce_k55 N a μ9 = some (r, μ0) → W p l e rmX7_weaveOnce s m args below meth c H locs 0 0 (MQ below (QI D b cs μ0 r) args s 0 0 (bA b)) (F0 m 55 ls []) := by
        intro μ9 H locs ls hP hS hl h
        unfold fX7_weaveOnce_k55 at h
        refine j_aload_n hx hb dX7_weaveOnce_55 rfl (lv_at hl 0 rfl) ?_
        obtain ⟨μ11, e10, h⟩ := ob_I h
        refine jc_VM (As := []) (rest := []) ⟨hx, hb, hml, hown, hts⟩ hK hP hS (m_X7_addRow l D b cs N hka e10) (cwV 0 hts gX7_weaveOnce_X7_addRow rfl rfl rfl (by decide +kernel) ⟨Nat.le_of_ble_eq_true rfl, Nat.le_of_ble_eq_true rfl⟩) hka (by decide) rfl rfl hl.1 rfl (Nat.le_of_ble_eq_true rfl) dX7_weaveOnce_56 ⟨Nat.zero_le _, Nat.zero_le _⟩ (fun H locs hP hS => ?_)
        refine j_iconst hx hb dX7_weaveOnce_59 ?_
        obtain ⟨e0, e1⟩ := Prod.mk.inj (Option.some.inj h)
        subst e1
        exact j_retZ hx hb hK hP hS hr hlk (by decide) e0 dX7_weaveOnce_60
      have hl23_12 : ∀ (n0 : Nat) (x3_13 : Int) (μ14 : Mm) (H : Heap) (locs : List Loc) (ls : Array Slot), va_P D vwCl (wl b cs μ14) H → va_S (bA b) s.heap H locs → lv_has ls 4 [(0, jR b a), (1, jR b y1), (2, jI y2), (3, jI x3_13)] → fX7_weaveOnce_l23 N a y1 y2 n0 x3_13 μ14 = some (r, μ0) → W p l e rmX7_weaveOnce s m args below meth c H locs 0 0 (MQ below (QI D b cs μ0 r) args s 0 0 (bA b)) (F0 m 23 ls []) := by
        intro n0
        induction n0 with
        | zero => intro x3_13 μ14 H locs ls hP hS hl h; rw [fX7_weaveOnce_l23] at h; cases h
        | succ n12 ih23_12 =>
          intro x3_13 μ14 H locs ls hP hS hl h
          rw [fX7_weaveOnce_l23] at h
          refine j_iload_n hx hb dX7_weaveOnce_23 rfl (lv_at hl 3 rfl) ?_
          refine j_aload_n hx hb dX7_weaveOnce_24 rfl (lv_at hl 1 rfl) ?_
          refine j_get (v := jI (gI μ14 y1 6)) hx hb hts hinX5 hown hK hP hky1 (by decide) rfl 6 (by decide) (hts (.fieldLink RX7 68 "CardBand$Threading" "cards" "I") (by decide +kernel)) rfl (by rw [jI_g]; rfl) dX7_weaveOnce_25 ?_
          refine j_icmp_ge (A := wr x3_13) (B := wr (gI μ14 y1 6)) (tgt := 55) hx hb rfl rfl dX7_weaveOnce_28 (by decide) (fun q15 => ?_) (fun q15 => ?_)
          · replace h := (if_pos q15).symm.trans h
            exact hk55_8 _ _ _ _ hP hS (lv_sub hl [0] rfl) h
          · replace h := (if_neg q15).symm.trans h
            refine j_iload_n hx hb dX7_weaveOnce_31 rfl (lv_at hl 3 rfl) ?_
            refine j_bipush hx hb dX7_weaveOnce_32 (by decide) ?_
            refine j_icmp_ge (A := wr x3_13) (B := 8) (tgt := 55) hx hb rfl (by decide) dX7_weaveOnce_34 (by decide) (fun q16 => ?_) (fun q16 => ?_)
            · replace h := (if_pos q16).symm.trans h
              exact hk55_8 _ _ _ _ hP hS (lv_sub hl [0] rfl) h
            · replace h := (if_neg q16).symm.trans h
              refine j_aload_n hx hb dX7_weaveOnce_37 rfl (lv_at hl 0 rfl) ?_
              refine j_aload_n hx hb dX7_weaveOnce_38 rfl (lv_at hl 1 rfl) ?_
              refine j_iload_n hx hb dX7_weaveOnce_39 rfl (lv_at hl 3 rfl) ?_
              refine j_aload_n hx hb dX7_weaveOnce_40 rfl (lv_at hl 1 rfl) ?_
              refine j_iload_n hx hb dX7_weaveOnce_41 rfl (lv_at hl 3 rfl) ?_
              refine j_iload_n hx hb dX7_weaveOnce_42 rfl (lv_at hl 2 rfl) ?_
              obtain ⟨v18, e17, h⟩ := ob_I h
              refine jc_VI (As := [jI x3_13, jI y2]) (rest := [jI x3_13, jR b y1, jR b a]) ⟨hx, hb, hml, hown, hts⟩ hK hP hS (m_X5_moveOf l D b cs N hky1 e17) (cwV 2 hts gX7_weaveOnce_X5_moveOf rfl rfl rfl (by decide +kernel) ⟨Nat.le_of_ble_eq_true rfl, Nat.le_of_ble_eq_true rfl⟩) hky1 (by decide) rfl rfl hl.1 rfl (Nat.le_of_ble_eq_true rfl) dX7_weaveOnce_43 ⟨Nat.zero_le _, Nat.zero_le _⟩ (fun H locs hP hS => ?_)
              obtain ⟨μ20, e19, h⟩ := ob_I h
              refine jc_VM (As := [jR b y1, jI x3_13, jI v18]) (rest := []) ⟨hx, hb, hml, hown, hts⟩ hK hP hS (m_X7_turnCard l D b cs N hka hky1 e19) (cwV 3 hts gX7_weaveOnce_X7_turnCard rfl rfl rfl (by decide +kernel) ⟨Nat.le_of_ble_eq_true rfl, Nat.le_of_ble_eq_true rfl⟩) hka (by decide) rfl rfl hl.1 rfl (Nat.le_of_ble_eq_true rfl) dX7_weaveOnce_46 ⟨Nat.zero_le _, Nat.zero_le _⟩ (fun H locs hP hS => ?_)
              refine j_iinc (k := 3) (lv2 := [(3, jI (x3_13 + 1)), (0, jR b a), (1, jR b y1), (2, jI y2)]) hx hb dX7_weaveOnce_49 hl rfl (by decide) rfl (fun ls hl => ?_)
              refine j_goto (tgt := 23) hx hb dX7_weaveOnce_52 (by decide) ?_
              exact ih23_12 _ _ _ _ _ hP hS (lv_sub hl [1, 2, 3, 0] rfl) h
      exact hl23_12 N _ _ _ _ _ hP hS (lv_sub hl [1, 2, 3, 0] rfl) h
    · replace h := (if_neg q7).symm.trans h
      refine j_iconst hx hb dX7_weaveOnce_19 ?_
      obtain ⟨e0, e1⟩ := Prod.mk.inj (Option.some.inj h)
      subst e1
      exact j_retZ hx hb hK hP hS hr hlk (by decide) e0 dX7_weaveOnce_20
