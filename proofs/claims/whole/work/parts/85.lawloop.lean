set_option maxHeartbeats 4000000 in
set_option maxRecDepth 100000 in
theorem law_loop {p : Program} {l : Launch} {e : Env} {s : State} {m : MethodId} {below : List Frame} {meth : Method} {c : Code} {b0 L : Nat} {xs : Nat → Int32} (C0 : lw_At p s m meth c b0 L xs) (hL : L ≤ 256) {D : va_G} {cs : CS} {N : Nat} {I : Mm → Prop} (o0 : ok_feed N I) (o1 : ok_loom N I) (o2 : ok_fault N I) (o3 : ok_told N I) (o4 : ok_card N I) (o5 : ok_pack N I) (o6 : ok_yarn N I) (o7 : ok_row N I) (o8 : ok_pick N I) (o9 : ok_flip N I) (o10 : ok_shift N I) (o11 : ok_buy N I) (o12 : ok_drift N I) (o13 : ok_undo N I) (o14 : ok_ahead N I) (o15 : ok_lasts N I) (o16 : ok_untwist N I) (o17 : ok_home N I) (o18 : ok_together N I) (o19 : ok_repeat N I) (o20 : ok_floats N I) (o21 : ok_alike N I) (o22 : ok_shown N I) (o23 : ok_turned N I) (o24 : ok_share N I) (o25 : ok_plain N I) (o26 : ok_see N I) (o27 : ok_holes N I) (o28 : ok_lookAt N I) (o29 : ok_write N I) (o30 : ok_judge N I) (o31 : ok_tear N I) (o32 : ok_seed N I) (o33 : ok_keep N I) (o34 : ok_goBack N I) (hK : va_K D vwCl (tyl cs) s) : ∀ (n t : Nat), L < 4 * t + 4 * n → 4 * t ≤ L + 4 → ∀ (μ : Mm), I μ → ∀ (H : Heap) (locs : List Loc) (ls : Array Slot), va_P D vwCl (wl s.heap.size cs μ) H → va_S (bA s.heap.size) s.heap H locs → lv_has ls 4 [(3, jI (4 * (t : Int))), (2, jR s.heap.size 332), (1, jR s.heap.size 0), (0, .ref b0)] → W p l e room_1 s m #[Value.ref b0] below meth c H locs 600000 7302250 (lw_Z below #[Value.ref b0] s) (F0 m 18 ls []) := by
  obtain ⟨hx, hb, hr, hml, hown, hts0, hX, hbl, hlocks, hgv⟩ := id C0
  intro n
  induction n with
  | zero =>
    intro t h1 h2 μ hI H locs ls hP hS hl
    have hw : wr (4 * (t : Int)) = 4 * t := wr_id (by omega) (by omega)
    refine j_iload_n hx hb dL_law_18 rfl (lv_at hl 0 rfl) ?_
    refine lv_aload_n hx hb dL_law_19 rfl (lv_at hl 3 rfl) ?_
    refine va_slen hx hb hX hbl (Nat.not_le.mpr hbl) hS dL_law_20 ?_
    refine W.eq (g2 := F0 m 21 ls [jI (L : Int), jI (4 * (t : Int))]) rfl ?_
    refine j_iconst hx hb dL_law_21 ?_
    refine j_isub hx hb dL_law_22 ?_
    refine j_icmp_gt (A := 4 * (t : Int)) (B := (L : Int) - 4) (tgt := 1109) hx hb hw (wr_id (by omega) (by omega)) dL_law_23 (by decide) (fun q => ?_) (fun q => ?_)
    · refine lv_iconst (v := 1) hx hb dL_law_1109 (by decide) ?_
      refine va_forget (fun q hq => hS.2.2 q hq) ?_
      exact lw_ret hx hb hr hlocks dL_law_1110
    · exact absurd h1 (by omega)
  | succ n ih =>
    intro t h1 h2 μ hI H locs ls hP hS hl
    have hw : wr (4 * (t : Int)) = 4 * t := wr_id (by omega) (by omega)
    refine j_iload_n hx hb dL_law_18 rfl (lv_at hl 0 rfl) ?_
    refine lv_aload_n hx hb dL_law_19 rfl (lv_at hl 3 rfl) ?_
    refine va_slen hx hb hX hbl (Nat.not_le.mpr hbl) hS dL_law_20 ?_
    refine W.eq (g2 := F0 m 21 ls [jI (L : Int), jI (4 * (t : Int))]) rfl ?_
    refine j_iconst hx hb dL_law_21 ?_
    refine j_isub hx hb dL_law_22 ?_
    refine j_icmp_gt (A := 4 * (t : Int)) (B := (L : Int) - 4) (tgt := 1109) hx hb hw (wr_id (by omega) (by omega)) dL_law_23 (by decide) (fun q => ?_) (fun q => ?_)
    · refine lv_iconst (v := 1) hx hb dL_law_1109 (by decide) ?_
      refine va_forget (fun q hq => hS.2.2 q hq) ?_
      exact lw_ret hx hb hr hlocks dL_law_1110
    · have ht : 4 * t + 4 ≤ L := by omega
      have nx : ∀ (μ : Mm) (H : Heap) (locs : List Loc) (ls : Array Slot), I μ → va_P D vwCl (wl s.heap.size cs μ) H → va_S (bA s.heap.size) s.heap H locs → lv_has ls 4 [(3, jI (4 * (t : Int))), (2, jR s.heap.size 332), (1, jR s.heap.size 0), (0, .ref b0)] → W p l e room_1 s m #[Value.ref b0] below meth c H locs 600000 7302250 (lw_Z below #[Value.ref b0] s) (F0 m 1103 ls []) := by
        intro μ H locs ls hI hP hS hl
        refine j_iinc (k := 0) (lv2 := [(3, jI (4 * (t : Int) + 4)), (2, jR s.heap.size 332), (1, jR s.heap.size 0), (0, .ref b0)]) hx hb dL_law_1103 hl rfl (by decide) rfl (fun ls hl => ?_)
        refine j_goto (tgt := 18) hx hb dL_law_1106 (by decide) ?_
        rw [show 4 * (t : Int) + 4 = 4 * ((t + 1 : Nat) : Int) by omega] at hl
        exact ih (t + 1) (by omega) (by omega) μ hI H locs ls hP hS hl
      refine lv_aload_n hx hb dL_law_26 rfl (lv_at hl 3 rfl) ?_
      refine j_iload_n hx hb dL_law_27 rfl (lv_at hl 0 rfl) ?_
      refine j_sld (k := 4 * t) hx hb hX hbl hS (hw.trans (by omega)) (by omega) dL_law_28 ?_
      refine j_bipush hx hb dL_law_29 (by decide) ?_
      refine j_iand hx hb dL_law_31 ?_
      generalize andI (xs (4 * t)).toInt 63 = a
      by_cases q0 : wr a = 0
      · refine j_tabIn (A := wr a) (off := 156) (tgt := 188) hx hb rfl dL_law_32 (by rw [q0]; decide) (by rw [q0]; decide) (by rw [q0]; rfl) (by decide) ?_
        exact law_feed C0 o0 ht hL hK hI hP hS hl nx
      by_cases q1 : wr a = 1
      · refine j_tabIn (A := wr a) (off := 179) (tgt := 211) hx hb rfl dL_law_32 (by rw [q1]; decide) (by rw [q1]; decide) (by rw [q1]; rfl) (by decide) ?_
        exact law_loom C0 o1 ht hL hK hI hP hS hl nx
      by_cases q2 : wr a = 2
      · refine j_tabIn (A := wr a) (off := 192) (tgt := 224) hx hb rfl dL_law_32 (by rw [q2]; decide) (by rw [q2]; decide) (by rw [q2]; rfl) (by decide) ?_
        exact law_fault C0 o2 ht hL hK hI hP hS hl nx
      by_cases q3 : wr a = 3
      · refine j_tabIn (A := wr a) (off := 205) (tgt := 237) hx hb rfl dL_law_32 (by rw [q3]; decide) (by rw [q3]; decide) (by rw [q3]; rfl) (by decide) ?_
        exact law_told C0 o3 ht hL hK hI hP hS hl nx
      by_cases q4 : wr a = 4
      · refine j_tabIn (A := wr a) (off := 228) (tgt := 260) hx hb rfl dL_law_32 (by rw [q4]; decide) (by rw [q4]; decide) (by rw [q4]; rfl) (by decide) ?_
        exact law_card C0 o4 ht hL hK hI hP hS hl nx
      by_cases q5 : wr a = 5
      · refine j_tabIn (A := wr a) (off := 261) (tgt := 293) hx hb rfl dL_law_32 (by rw [q5]; decide) (by rw [q5]; decide) (by rw [q5]; rfl) (by decide) ?_
        exact law_pack C0 o5 ht hL hK hI hP hS hl nx
      by_cases q6 : wr a = 6
      · refine j_tabIn (A := wr a) (off := 284) (tgt := 316) hx hb rfl dL_law_32 (by rw [q6]; decide) (by rw [q6]; decide) (by rw [q6]; rfl) (by decide) ?_
        exact law_yarn C0 o6 ht hL hK hI hP hS hl nx
      by_cases q7 : wr a = 7
      · refine j_tabIn (A := wr a) (off := 307) (tgt := 339) hx hb rfl dL_law_32 (by rw [q7]; decide) (by rw [q7]; decide) (by rw [q7]; rfl) (by decide) ?_
        exact law_row C0 o7 ht hL hK hI hP hS hl nx
      by_cases q8 : wr a = 8
      · refine j_tabIn (A := wr a) (off := 340) (tgt := 372) hx hb rfl dL_law_32 (by rw [q8]; decide) (by rw [q8]; decide) (by rw [q8]; rfl) (by decide) ?_
        exact law_pick C0 o8 ht hL hK hI hP hS hl nx
      by_cases q9 : wr a = 9
      · refine j_tabIn (A := wr a) (off := 373) (tgt := 405) hx hb rfl dL_law_32 (by rw [q9]; decide) (by rw [q9]; decide) (by rw [q9]; rfl) (by decide) ?_
        exact law_flip C0 o9 ht hL hK hI hP hS hl nx
      by_cases q10 : wr a = 10
      · refine j_tabIn (A := wr a) (off := 396) (tgt := 428) hx hb rfl dL_law_32 (by rw [q10]; decide) (by rw [q10]; decide) (by rw [q10]; rfl) (by decide) ?_
        exact law_shift C0 o10 ht hL hK hI hP hS hl nx
      by_cases q11 : wr a = 11
      · refine j_tabIn (A := wr a) (off := 429) (tgt := 461) hx hb rfl dL_law_32 (by rw [q11]; decide) (by rw [q11]; decide) (by rw [q11]; rfl) (by decide) ?_
        exact law_buy C0 o11 ht hL hK hI hP hS hl nx
      by_cases q12 : wr a = 12
      · refine j_tabIn (A := wr a) (off := 462) (tgt := 494) hx hb rfl dL_law_32 (by rw [q12]; decide) (by rw [q12]; decide) (by rw [q12]; rfl) (by decide) ?_
        exact law_drift C0 o12 ht hL hK hI hP hS hl nx
      by_cases q13 : wr a = 13
      · refine j_tabIn (A := wr a) (off := 485) (tgt := 517) hx hb rfl dL_law_32 (by rw [q13]; decide) (by rw [q13]; decide) (by rw [q13]; rfl) (by decide) ?_
        exact law_undo C0 o13 ht hL hK hI hP hS hl nx
      by_cases q14 : wr a = 14
      · refine j_tabIn (A := wr a) (off := 508) (tgt := 540) hx hb rfl dL_law_32 (by rw [q14]; decide) (by rw [q14]; decide) (by rw [q14]; rfl) (by decide) ?_
        exact law_ahead C0 o14 ht hL hK hI hP hS hl nx
      by_cases q15 : wr a = 15
      · refine j_tabIn (A := wr a) (off := 551) (tgt := 583) hx hb rfl dL_law_32 (by rw [q15]; decide) (by rw [q15]; decide) (by rw [q15]; rfl) (by decide) ?_
        exact law_lasts C0 o15 ht hL hK hI hP hS hl nx
      by_cases q16 : wr a = 16
      · refine j_tabIn (A := wr a) (off := 584) (tgt := 616) hx hb rfl dL_law_32 (by rw [q16]; decide) (by rw [q16]; decide) (by rw [q16]; rfl) (by decide) ?_
        exact law_untwist C0 o16 ht hL hK hI hP hS hl nx
      by_cases q17 : wr a = 17
      · refine j_tabIn (A := wr a) (off := 607) (tgt := 639) hx hb rfl dL_law_32 (by rw [q17]; decide) (by rw [q17]; decide) (by rw [q17]; rfl) (by decide) ?_
        exact law_home C0 o17 ht hL hK hI hP hS hl nx
      by_cases q18 : wr a = 18
      · refine j_tabIn (A := wr a) (off := 630) (tgt := 662) hx hb rfl dL_law_32 (by rw [q18]; decide) (by rw [q18]; decide) (by rw [q18]; rfl) (by decide) ?_
        exact law_together C0 o18 ht hL hK hI hP hS hl nx
      by_cases q19 : wr a = 19
      · refine j_tabIn (A := wr a) (off := 673) (tgt := 705) hx hb rfl dL_law_32 (by rw [q19]; decide) (by rw [q19]; decide) (by rw [q19]; rfl) (by decide) ?_
        exact law_repeat C0 o19 ht hL hK hI hP hS hl nx
      by_cases q20 : wr a = 20
      · refine j_tabIn (A := wr a) (off := 686) (tgt := 718) hx hb rfl dL_law_32 (by rw [q20]; decide) (by rw [q20]; decide) (by rw [q20]; rfl) (by decide) ?_
        exact law_floats C0 o20 ht hL hK hI hP hS hl nx
      by_cases q21 : wr a = 21
      · refine j_tabIn (A := wr a) (off := 709) (tgt := 741) hx hb rfl dL_law_32 (by rw [q21]; decide) (by rw [q21]; decide) (by rw [q21]; rfl) (by decide) ?_
        exact law_alike C0 o21 ht hL hK hI hP hS hl nx
      by_cases q22 : wr a = 22
      · refine j_tabIn (A := wr a) (off := 732) (tgt := 764) hx hb rfl dL_law_32 (by rw [q22]; decide) (by rw [q22]; decide) (by rw [q22]; rfl) (by decide) ?_
        exact law_shown C0 o22 ht hL hK hI hP hS hl nx
      by_cases q23 : wr a = 23
      · refine j_tabIn (A := wr a) (off := 755) (tgt := 787) hx hb rfl dL_law_32 (by rw [q23]; decide) (by rw [q23]; decide) (by rw [q23]; rfl) (by decide) ?_
        exact law_turned C0 o23 ht hL hK hI hP hS hl nx
      by_cases q24 : wr a = 24
      · refine j_tabIn (A := wr a) (off := 788) (tgt := 820) hx hb rfl dL_law_32 (by rw [q24]; decide) (by rw [q24]; decide) (by rw [q24]; rfl) (by decide) ?_
        exact law_share C0 o24 ht hL hK hI hP hS hl nx
      by_cases q25 : wr a = 25
      · refine j_tabIn (A := wr a) (off := 821) (tgt := 853) hx hb rfl dL_law_32 (by rw [q25]; decide) (by rw [q25]; decide) (by rw [q25]; rfl) (by decide) ?_
        exact law_plain C0 o25 ht hL hK hI hP hS hl nx
      by_cases q26 : wr a = 26
      · refine j_tabIn (A := wr a) (off := 854) (tgt := 886) hx hb rfl dL_law_32 (by rw [q26]; decide) (by rw [q26]; decide) (by rw [q26]; rfl) (by decide) ?_
        exact law_see C0 o26 ht hL hK hI hP hS hl nx
      by_cases q27 : wr a = 27
      · refine j_tabIn (A := wr a) (off := 897) (tgt := 929) hx hb rfl dL_law_32 (by rw [q27]; decide) (by rw [q27]; decide) (by rw [q27]; rfl) (by decide) ?_
        exact law_holes C0 o27 ht hL hK hI hP hS hl nx
      by_cases q28 : wr a = 28
      · refine j_tabIn (A := wr a) (off := 920) (tgt := 952) hx hb rfl dL_law_32 (by rw [q28]; decide) (by rw [q28]; decide) (by rw [q28]; rfl) (by decide) ?_
        exact law_lookAt C0 o28 ht hL hK hI hP hS hl nx
      by_cases q29 : wr a = 29
      · refine j_tabIn (A := wr a) (off := 943) (tgt := 975) hx hb rfl dL_law_32 (by rw [q29]; decide) (by rw [q29]; decide) (by rw [q29]; rfl) (by decide) ?_
        exact law_write C0 o29 ht hL hK hI hP hS hl nx
      by_cases q30 : wr a = 30
      · refine j_tabIn (A := wr a) (off := 976) (tgt := 1008) hx hb rfl dL_law_32 (by rw [q30]; decide) (by rw [q30]; decide) (by rw [q30]; rfl) (by decide) ?_
        exact law_judge C0 o30 ht hL hK hI hP hS hl nx
      by_cases q31 : wr a = 31
      · refine j_tabIn (A := wr a) (off := 989) (tgt := 1021) hx hb rfl dL_law_32 (by rw [q31]; decide) (by rw [q31]; decide) (by rw [q31]; rfl) (by decide) ?_
        exact law_tear C0 o31 ht hL hK hI hP hS hl nx
      by_cases q32 : wr a = 32
      · refine j_tabIn (A := wr a) (off := 1002) (tgt := 1034) hx hb rfl dL_law_32 (by rw [q32]; decide) (by rw [q32]; decide) (by rw [q32]; rfl) (by decide) ?_
        exact law_seed C0 o32 ht hL hK hI hP hS hl nx
      by_cases q33 : wr a = 33
      · refine j_tabIn (A := wr a) (off := 1025) (tgt := 1057) hx hb rfl dL_law_32 (by rw [q33]; decide) (by rw [q33]; decide) (by rw [q33]; rfl) (by decide) ?_
        exact law_keep C0 o33 ht hL hK hI hP hS hl nx
      by_cases q34 : wr a = 34
      · refine j_tabIn (A := wr a) (off := 1048) (tgt := 1080) hx hb rfl dL_law_32 (by rw [q34]; decide) (by rw [q34]; decide) (by rw [q34]; rfl) (by decide) ?_
        exact law_goBack C0 o34 ht hL hK hI hP hS hl nx
      refine j_tabOut (A := wr a) (tgt := 1103) hx hb rfl dL_law_32 (by omega) (by decide) ?_
      exact nx _ _ _ _ hI hP hS hl
