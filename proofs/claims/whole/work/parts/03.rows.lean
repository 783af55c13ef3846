/-! THE ROWS over that world -/
section JROWS
variable {p : Program} {l : Launch} {e : Env} {R : Room} {s : State} {m : MethodId} {args : Array Value} {below : List Frame} {meth : Method} {c : Code} {H : Heap} {locs : List Loc} {cells slots : Nat} {Q : State → Prop}
variable {cc : ByteArray} {pc : Nat} {ls : Array Slot} {rest : List Value} {D : va_G} {b : Nat} {cs : CS} {μ μ1 : Mm} {H0 : Heap} {i nL : Nat} {lv lv2 : List (Nat × Value)} {tgt : Nat} {off : Int}
theorem j_iconst (hx : p.tables.exec = Jvm.exec) (hb : c.code = cc) {n : Int} (hdg : decode cc pc = .ok (.iconst n, 1)) (k : W p l e R s m args below meth c H locs cells slots Q (F0 m (pc + 1) ls (jI n :: rest))) : W p l e R s m args below meth c H locs cells slots Q (F0 m pc ls rest) := lv_iconst hx hb hdg rfl k
theorem j_bipush (hx : p.tables.exec = Jvm.exec) (hb : c.code = cc) {n : Int} (hdg : decode cc pc = .ok (.bipush n, 2)) (hv : (Int8.ofInt n).toInt32 = Int32.ofInt n) (k : W p l e R s m args below meth c H locs cells slots Q (F0 m (pc + 2) ls (jI n :: rest))) : W p l e R s m args below meth c H locs cells slots Q (F0 m pc ls rest) := lv_bipush hx hb hdg hv k
theorem j_sipush (hx : p.tables.exec = Jvm.exec) (hb : c.code = cc) {n : Int} (hdg : decode cc pc = .ok (.sipush n, 3)) (hv : (Int16.ofInt n).toInt32 = Int32.ofInt n) (k : W p l e R s m args below meth c H locs cells slots Q (F0 m (pc + 3) ls (jI n :: rest))) : W p l e R s m args below meth c H locs cells slots Q (F0 m pc ls rest) := lv_sipush hx hb hdg hv k
theorem j_ldc (hx : p.tables.exec = Jvm.exec) (hb : c.code = cc) {own : String} {index : Nat} {v : Int32} {n : Int} (hown : s.vm.findClass own = some m.cls) (hc : (Jvm.Cond.constant own index v).before args s = true) (hv : v = Int32.ofInt n) (hdg : decode cc pc = .ok (.ldc index, 2)) (k : W p l e R s m args below meth c H locs cells slots Q (F0 m (pc + 2) ls (jI n :: rest))) : W p l e R s m args below meth c H locs cells slots Q (F0 m pc ls rest) := lv_ldc hx hb hown hc hdg (by rw [hv]; exact k)
theorem j_ldc2 (hx : p.tables.exec = Jvm.exec) (hb : c.code = cc) {own : String} {index : Nat} {v : Int64} {n : Int} (hown : s.vm.findClass own = some m.cls) (hc : (Jvm.Cond.constantLong own index v).before args s = true) (hv : v = Int64.ofInt n) (hdg : decode cc pc = .ok (.ldc2_w index, 3)) (k : W p l e R s m args below meth c H locs cells slots Q (F0 m (pc + 3) ls (jL n :: rest))) : W p l e R s m args below meth c H locs cells slots Q (F0 m pc ls rest) := lv_ldc2 hx hb hown hc hdg (by rw [hv]; exact k)
theorem j_lconst (hx : p.tables.exec = Jvm.exec) (hb : c.code = cc) {f : Fin 2} {n : Int} (hdg : decode cc pc = .ok (.lconst f, 1)) (hv : Int64.ofNat (f : Nat) = Int64.ofInt n) (k : W p l e R s m args below meth c H locs cells slots Q (F0 m (pc + 1) ls (jL n :: rest))) : W p l e R s m args below meth c H locs cells slots Q (F0 m pc ls rest) := lv_lconst hx hb hdg hv k
theorem j_null (hx : p.tables.exec = Jvm.exec) (hb : c.code = cc) (hdg : decode cc pc = .ok (.aconst_null, 1)) (k : W p l e R s m args below meth c H locs cells slots Q (F0 m (pc + 1) ls (jN b (-1) :: rest))) : W p l e R s m args below meth c H locs cells slots Q (F0 m pc ls rest) := lv_null hx hb hdg k
theorem j_iload_n (hx : p.tables.exec = Jvm.exec) (hb : c.code = cc) {f : Fin 4} {x : Int} (hdg : decode cc pc = .ok (.iload_n f, 1)) (hi : (f : Nat) = i) (hl : ls[i]? = some (.val (jI x))) (k : W p l e R s m args below meth c H locs cells slots Q (F0 m (pc + 1) ls (jI x :: rest))) : W p l e R s m args below meth c H locs cells slots Q (F0 m pc ls rest) := lv_iload_n hx hb hdg hi hl k
theorem j_iload (hx : p.tables.exec = Jvm.exec) (hb : c.code = cc) {x : Int} (hdg : decode cc pc = .ok (.iload i, 2)) (hl : ls[i]? = some (.val (jI x))) (k : W p l e R s m args below meth c H locs cells slots Q (F0 m (pc + 2) ls (jI x :: rest))) : W p l e R s m args below meth c H locs cells slots Q (F0 m pc ls rest) := lv_iload hx hb hdg hl k
theorem j_lload_n (hx : p.tables.exec = Jvm.exec) (hb : c.code = cc) {f : Fin 4} {x : Int} (hdg : decode cc pc = .ok (.lload_n f, 1)) (hi : (f : Nat) = i) (hl : ls[i]? = some (.val (jL x))) (k : W p l e R s m args below meth c H locs cells slots Q (F0 m (pc + 1) ls (jL x :: rest))) : W p l e R s m args below meth c H locs cells slots Q (F0 m pc ls rest) := lv_lload_n hx hb hdg hi hl k
theorem j_lload (hx : p.tables.exec = Jvm.exec) (hb : c.code = cc) {x : Int} (hdg : decode cc pc = .ok (.lload i, 2)) (hl : ls[i]? = some (.val (jL x))) (k : W p l e R s m args below meth c H locs cells slots Q (F0 m (pc + 2) ls (jL x :: rest))) : W p l e R s m args below meth c H locs cells slots Q (F0 m pc ls rest) := lv_lload hx hb hdg hl k
theorem j_aload_n (hx : p.tables.exec = Jvm.exec) (hb : c.code = cc) {f : Fin 4} {x : Nat} (hdg : decode cc pc = .ok (.aload_n f, 1)) (hi : (f : Nat) = i) (hl : ls[i]? = some (.val (jR b x))) (k : W p l e R s m args below meth c H locs cells slots Q (F0 m (pc + 1) ls (jR b x :: rest))) : W p l e R s m args below meth c H locs cells slots Q (F0 m pc ls rest) := lv_aload_n hx hb hdg hi hl k
theorem j_aload (hx : p.tables.exec = Jvm.exec) (hb : c.code = cc) {x : Nat} (hdg : decode cc pc = .ok (.aload i, 2)) (hl : ls[i]? = some (.val (jR b x))) (k : W p l e R s m args below meth c H locs cells slots Q (F0 m (pc + 2) ls (jR b x :: rest))) : W p l e R s m args below meth c H locs cells slots Q (F0 m pc ls rest) := lv_aload hx hb hdg hl k
theorem j_aload_nN (hx : p.tables.exec = Jvm.exec) (hb : c.code = cc) {f : Fin 4} {x : Int} (hdg : decode cc pc = .ok (.aload_n f, 1)) (hi : (f : Nat) = i) (hl : ls[i]? = some (.val (jN b x))) (k : W p l e R s m args below meth c H locs cells slots Q (F0 m (pc + 1) ls (jN b x :: rest))) : W p l e R s m args below meth c H locs cells slots Q (F0 m pc ls rest) := by
  unfold jN at hl k
  split at hl
  · rw [if_pos (by assumption)] at k; exact lv_aload_nN hx hb hdg hi hl k
  · rw [if_neg (by assumption)] at k; exact lv_aload_n hx hb hdg hi hl k
theorem j_aloadN (hx : p.tables.exec = Jvm.exec) (hb : c.code = cc) {x : Int} (hdg : decode cc pc = .ok (.aload i, 2)) (hl : ls[i]? = some (.val (jN b x))) (k : W p l e R s m args below meth c H locs cells slots Q (F0 m (pc + 2) ls (jN b x :: rest))) : W p l e R s m args below meth c H locs cells slots Q (F0 m pc ls rest) := by
  unfold jN at hl k
  split at hl
  · rw [if_pos (by assumption)] at k; exact lv_aloadN hx hb hdg hl k
  · rw [if_neg (by assumption)] at k; exact lv_aload hx hb hdg hl k
theorem j_istore_n (hx : p.tables.exec = Jvm.exec) (hb : c.code = cc) {f : Fin 4} {x : Int} (hdg : decode cc pc = .ok (.istore_n f, 1)) (hi : (f : Nat) = i) (h : lv_has ls nL lv) (hn : i < nL) (hl : (i, jI x) :: lv.filter (fun q => !(q.1 == i) && !(q.1 + 1 == i && q.2.category == 2)) = lv2) (k : ∀ ls2 : Array Slot, lv_has ls2 nL lv2 → W p l e R s m args below meth c H locs cells slots Q (F0 m (pc + 1) ls2 rest)) : W p l e R s m args below meth c H locs cells slots Q (F0 m pc ls (jI x :: rest)) := lv_istore_n hx hb hdg hi h hn hl k
theorem j_istore (hx : p.tables.exec = Jvm.exec) (hb : c.code = cc) {x : Int} (hdg : decode cc pc = .ok (.istore i, 2)) (h : lv_has ls nL lv) (hn : i < nL) (hl : (i, jI x) :: lv.filter (fun q => !(q.1 == i) && !(q.1 + 1 == i && q.2.category == 2)) = lv2) (k : ∀ ls2 : Array Slot, lv_has ls2 nL lv2 → W p l e R s m args below meth c H locs cells slots Q (F0 m (pc + 2) ls2 rest)) : W p l e R s m args below meth c H locs cells slots Q (F0 m pc ls (jI x :: rest)) := lv_istore hx hb hdg h hn hl k
theorem j_lstore_n (hx : p.tables.exec = Jvm.exec) (hb : c.code = cc) {f : Fin 4} {x : Int} (hdg : decode cc pc = .ok (.lstore_n f, 1)) (hi : (f : Nat) = i) (h : lv_has ls nL lv) (hn : i + 1 < nL) (hl : (i, jL x) :: lv.filter (fun q => !(q.1 == i) && (!(q.1 == i + 1) && !(q.1 + 1 == i && q.2.category == 2))) = lv2) (k : ∀ ls2 : Array Slot, lv_has ls2 nL lv2 → W p l e R s m args below meth c H locs cells slots Q (F0 m (pc + 1) ls2 rest)) : W p l e R s m args below meth c H locs cells slots Q (F0 m pc ls (jL x :: rest)) := lv_lstore_n hx hb hdg hi h hn hl k
theorem j_astore_n (hx : p.tables.exec = Jvm.exec) (hb : c.code = cc) {f : Fin 4} {x : Nat} (hdg : decode cc pc = .ok (.astore_n f, 1)) (hi : (f : Nat) = i) (h : lv_has ls nL lv) (hn : i < nL) (hl : (i, jR b x) :: lv.filter (fun q => !(q.1 == i) && !(q.1 + 1 == i && q.2.category == 2)) = lv2) (k : ∀ ls2 : Array Slot, lv_has ls2 nL lv2 → W p l e R s m args below meth c H locs cells slots Q (F0 m (pc + 1) ls2 rest)) : W p l e R s m args below meth c H locs cells slots Q (F0 m pc ls (jR b x :: rest)) := lv_astore_n hx hb hdg hi h hn hl k
theorem j_astore (hx : p.tables.exec = Jvm.exec) (hb : c.code = cc) {x : Nat} (hdg : decode cc pc = .ok (.astore i, 2)) (h : lv_has ls nL lv) (hn : i < nL) (hl : (i, jR b x) :: lv.filter (fun q => !(q.1 == i) && !(q.1 + 1 == i && q.2.category == 2)) = lv2) (k : ∀ ls2 : Array Slot, lv_has ls2 nL lv2 → W p l e R s m args below meth c H locs cells slots Q (F0 m (pc + 2) ls2 rest)) : W p l e R s m args below meth c H locs cells slots Q (F0 m pc ls (jR b x :: rest)) := lv_astore hx hb hdg h hn hl k
theorem j_astore_nN (hx : p.tables.exec = Jvm.exec) (hb : c.code = cc) {f : Fin 4} {x : Int} (hdg : decode cc pc = .ok (.astore_n f, 1)) (hi : (f : Nat) = i) (h : lv_has ls nL lv) (hn : i < nL) (hl : (i, jN b x) :: lv.filter (fun q => !(q.1 == i) && !(q.1 + 1 == i && q.2.category == 2)) = lv2) (k : ∀ ls2 : Array Slot, lv_has ls2 nL lv2 → W p l e R s m args below meth c H locs cells slots Q (F0 m (pc + 1) ls2 rest)) : W p l e R s m args below meth c H locs cells slots Q (F0 m pc ls (jN b x :: rest)) := by
  subst hl
  rcases (by unfold jN; split; exact Or.inl rfl; exact Or.inr ⟨_, rfl⟩ : jN b x = .null ∨ ∃ a : Nat, jN b x = .ref a) with hv | ⟨a, hv⟩
  · rw [hv] at k ⊢; exact lv_astore_nN hx hb hdg hi h hn rfl k
  · rw [hv] at k ⊢; exact lv_astore_n hx hb hdg hi h hn rfl k
theorem j_astoreN (hx : p.tables.exec = Jvm.exec) (hb : c.code = cc) {x : Int} (hdg : decode cc pc = .ok (.astore i, 2)) (h : lv_has ls nL lv) (hn : i < nL) (hl : (i, jN b x) :: lv.filter (fun q => !(q.1 == i) && !(q.1 + 1 == i && q.2.category == 2)) = lv2) (k : ∀ ls2 : Array Slot, lv_has ls2 nL lv2 → W p l e R s m args below meth c H locs cells slots Q (F0 m (pc + 2) ls2 rest)) : W p l e R s m args below meth c H locs cells slots Q (F0 m pc ls (jN b x :: rest)) := by
  subst hl
  rcases (by unfold jN; split; exact Or.inl rfl; exact Or.inr ⟨_, rfl⟩ : jN b x = .null ∨ ∃ a : Nat, jN b x = .ref a) with hv | ⟨a, hv⟩
  · rw [hv] at k ⊢; exact lv_astoreN hx hb hdg h hn rfl k
  · rw [hv] at k ⊢; exact lv_astore hx hb hdg h hn rfl k
theorem j_iinc (hx : p.tables.exec = Jvm.exec) (hb : c.code = cc) {k : Nat} {n x : Int} (hdg : decode cc pc = .ok (.iinc i n, 3)) (h : lv_has ls nL lv) (hk : lv[k]? = some (i, jI x)) (hn : i < nL) (hl : (i, jI (x + n)) :: lv.filter (fun q => !(q.1 == i) && !(q.1 + 1 == i && q.2.category == 2)) = lv2) (kk : ∀ ls2 : Array Slot, lv_has ls2 nL lv2 → W p l e R s m args below meth c H locs cells slots Q (F0 m (pc + 3) ls2 rest)) : W p l e R s m args below meth c H locs cells slots Q (F0 m pc ls rest) := lv_iinc hx hb hdg h hk (Int32.ofInt_add x n).symm hn hl kk
theorem j_iadd (hx : p.tables.exec = Jvm.exec) (hb : c.code = cc) {a z : Int} (hdg : decode cc pc = .ok (.iadd, 1)) (k : W p l e R s m args below meth c H locs cells slots Q (F0 m (pc + 1) ls (jI (a + z) :: rest))) : W p l e R s m args below meth c H locs cells slots Q (F0 m pc ls (jI z :: jI a :: rest)) := lv_iadd hx hb hdg (by unfold jI at k; rw [Int32.ofInt_add] at k; exact k)
theorem j_isub (hx : p.tables.exec = Jvm.exec) (hb : c.code = cc) {a z : Int} (hdg : decode cc pc = .ok (.isub, 1)) (k : W p l e R s m args below meth c H locs cells slots Q (F0 m (pc + 1) ls (jI (a - z) :: rest))) : W p l e R s m args below meth c H locs cells slots Q (F0 m pc ls (jI z :: jI a :: rest)) := lv_isub hx hb hdg (by unfold jI at k; rw [Int32.ofInt_sub] at k; exact k)
theorem j_imul (hx : p.tables.exec = Jvm.exec) (hb : c.code = cc) {a z : Int} (hdg : decode cc pc = .ok (.imul, 1)) (k : W p l e R s m args below meth c H locs cells slots Q (F0 m (pc + 1) ls (jI (a * z) :: rest))) : W p l e R s m args below meth c H locs cells slots Q (F0 m pc ls (jI z :: jI a :: rest)) := lv_imul hx hb hdg (by unfold jI at k; rw [Int32.ofInt_mul] at k; exact k)
theorem j_ladd (hx : p.tables.exec = Jvm.exec) (hb : c.code = cc) {a z : Int} (hdg : decode cc pc = .ok (.ladd, 1)) (k : W p l e R s m args below meth c H locs cells slots Q (F0 m (pc + 1) ls (jL (a + z) :: rest))) : W p l e R s m args below meth c H locs cells slots Q (F0 m pc ls (jL z :: jL a :: rest)) := lv_ladd hx hb hdg (by unfold jL at k; rw [Int64.ofInt_add] at k; exact k)
theorem j_lsub (hx : p.tables.exec = Jvm.exec) (hb : c.code = cc) {a z : Int} (hdg : decode cc pc = .ok (.lsub, 1)) (k : W p l e R s m args below meth c H locs cells slots Q (F0 m (pc + 1) ls (jL (a - z) :: rest))) : W p l e R s m args below meth c H locs cells slots Q (F0 m pc ls (jL z :: jL a :: rest)) := lv_lsub hx hb hdg (by unfold jL at k; rw [Int64.ofInt_sub] at k; exact k)
theorem j_lmul (hx : p.tables.exec = Jvm.exec) (hb : c.code = cc) {a z : Int} (hdg : decode cc pc = .ok (.lmul, 1)) (k : W p l e R s m args below meth c H locs cells slots Q (F0 m (pc + 1) ls (jL (a * z) :: rest))) : W p l e R s m args below meth c H locs cells slots Q (F0 m pc ls (jL z :: jL a :: rest)) := lv_lmul hx hb hdg (by unfold jL at k; rw [Int64.ofInt_mul] at k; exact k)
theorem j_iand (hx : p.tables.exec = Jvm.exec) (hb : c.code = cc) {a z : Int} (hdg : decode cc pc = .ok (.iand, 1)) (k : W p l e R s m args below meth c H locs cells slots Q (F0 m (pc + 1) ls (jI (andI a z) :: rest))) : W p l e R s m args below meth c H locs cells slots Q (F0 m pc ls (jI z :: jI a :: rest)) := lv_iand hx hb hdg (by rw [andI, jI_i] at k; exact k)
theorem j_ior (hx : p.tables.exec = Jvm.exec) (hb : c.code = cc) {a z : Int} (hdg : decode cc pc = .ok (.ior, 1)) (k : W p l e R s m args below meth c H locs cells slots Q (F0 m (pc + 1) ls (jI (orI a z) :: rest))) : W p l e R s m args below meth c H locs cells slots Q (F0 m pc ls (jI z :: jI a :: rest)) := lv_ior hx hb hdg (by rw [orI, jI_i] at k; exact k)
theorem j_ixor (hx : p.tables.exec = Jvm.exec) (hb : c.code = cc) {a z : Int} (hdg : decode cc pc = .ok (.ixor, 1)) (k : W p l e R s m args below meth c H locs cells slots Q (F0 m (pc + 1) ls (jI (xorI a z) :: rest))) : W p l e R s m args below meth c H locs cells slots Q (F0 m pc ls (jI z :: jI a :: rest)) := lv_ixor hx hb hdg (by rw [xorI, jI_i] at k; exact k)
theorem j_ishl (hx : p.tables.exec = Jvm.exec) (hb : c.code = cc) {a z : Int} (hdg : decode cc pc = .ok (.ishl, 1)) (k : W p l e R s m args below meth c H locs cells slots Q (F0 m (pc + 1) ls (jI (shlI a z) :: rest))) : W p l e R s m args below meth c H locs cells slots Q (F0 m pc ls (jI z :: jI a :: rest)) := lv_ishl hx hb hdg (by rw [shlI, jI_i] at k; exact k)
theorem j_ishr (hx : p.tables.exec = Jvm.exec) (hb : c.code = cc) {a z : Int} (hdg : decode cc pc = .ok (.ishr, 1)) (k : W p l e R s m args below meth c H locs cells slots Q (F0 m (pc + 1) ls (jI (shrI a z) :: rest))) : W p l e R s m args below meth c H locs cells slots Q (F0 m pc ls (jI z :: jI a :: rest)) := lv_ishr hx hb hdg (by rw [shrI, jI_i] at k; exact k)
theorem j_iushr (hx : p.tables.exec = Jvm.exec) (hb : c.code = cc) {a z : Int} (hdg : decode cc pc = .ok (.iushr, 1)) (k : W p l e R s m args below meth c H locs cells slots Q (F0 m (pc + 1) ls (jI (ushI a z) :: rest))) : W p l e R s m args below meth c H locs cells slots Q (F0 m pc ls (jI z :: jI a :: rest)) := lv_iushr hx hb hdg rfl (by rw [ushI, jI_i] at k; exact k)
theorem j_ineg (hx : p.tables.exec = Jvm.exec) (hb : c.code = cc) {a : Int} (hdg : decode cc pc = .ok (.ineg, 1)) (k : W p l e R s m args below meth c H locs cells slots Q (F0 m (pc + 1) ls (jI (-a) :: rest))) : W p l e R s m args below meth c H locs cells slots Q (F0 m pc ls (jI a :: rest)) := lv_ineg hx hb hdg (by unfold jI at k; rw [Int32.ofInt_neg] at k; exact k)
theorem o32_ne {z : Int} (h : ¬ wr z = 0) : ¬ Int32.ofInt z = 0 := by
  intro q
  rw [i32_0, i32_inj] at q
  exact h (q.trans (by decide))
theorem o64_ne {z : Int} (h : ¬ wL z = 0) : ¬ Int64.ofInt z = 0 := by
  intro q
  have := congrArg Int64.toInt q
  rw [wL_eq] at this
  exact h (this.trans (by decide))
theorem o32_rem (a z : Int) : Int32.ofInt a - Int32.ofInt a / Int32.ofInt z * Int32.ofInt z = Int32.ofInt (rmI a z) := by
  rw [o32_div, ← o32_wr a, ← o32_wr z, ← Int32.ofInt_mul, ← Int32.ofInt_sub]
  congr 1
  unfold dvI rmI
  rw [Int.tmod_def, Int.mul_comm]
theorem o64_wL (a : Int) : Int64.ofInt (wL a) = Int64.ofInt a := by
  apply Int64.toInt_inj.mp
  rw [wL_eq, wL_eq]
  unfold wL
  omega
theorem o64_rem (a z : Int) : Int64.ofInt a - Int64.ofInt a / Int64.ofInt z * Int64.ofInt z = Int64.ofInt (rmL a z) := by
  rw [o64_div, ← o64_wL a, ← o64_wL z, ← Int64.ofInt_mul, ← Int64.ofInt_sub]
  congr 1
  unfold dvL rmL
  rw [Int.tmod_def, Int.mul_comm]
theorem j_idiv (hx : p.tables.exec = Jvm.exec) (hb : c.code = cc) {a z : Int} (hdg : decode cc pc = .ok (.idiv, 1)) (hz : ¬ wr z = 0) (k : W p l e R s m args below meth c H locs cells slots Q (F0 m (pc + 1) ls (jI (dvI a z) :: rest))) : W p l e R s m args below meth c H locs cells slots Q (F0 m pc ls (jI z :: jI a :: rest)) := lv_idiv hx hb hdg (o32_ne hz) (by rw [o32_div]; exact k)
theorem j_irem (hx : p.tables.exec = Jvm.exec) (hb : c.code = cc) {a z : Int} (hdg : decode cc pc = .ok (.irem, 1)) (hz : ¬ wr z = 0) (k : W p l e R s m args below meth c H locs cells slots Q (F0 m (pc + 1) ls (jI (rmI a z) :: rest))) : W p l e R s m args below meth c H locs cells slots Q (F0 m pc ls (jI z :: jI a :: rest)) := lv_irem hx hb hdg (o32_ne hz) (by rw [o32_rem]; exact k)
theorem j_ldiv (hx : p.tables.exec = Jvm.exec) (hb : c.code = cc) {a z : Int} (hdg : decode cc pc = .ok (.ldiv, 1)) (hz : ¬ wL z = 0) (k : W p l e R s m args below meth c H locs cells slots Q (F0 m (pc + 1) ls (jL (dvL a z) :: rest))) : W p l e R s m args below meth c H locs cells slots Q (F0 m pc ls (jL z :: jL a :: rest)) := lv_ldiv hx hb hdg (o64_ne hz) (by rw [o64_div]; exact k)
theorem j_lrem (hx : p.tables.exec = Jvm.exec) (hb : c.code = cc) {a z : Int} (hdg : decode cc pc = .ok (.lrem, 1)) (hz : ¬ wL z = 0) (k : W p l e R s m args below meth c H locs cells slots Q (F0 m (pc + 1) ls (jL (rmL a z) :: rest))) : W p l e R s m args below meth c H locs cells slots Q (F0 m pc ls (jL z :: jL a :: rest)) := lv_lrem hx hb hdg (o64_ne hz) (by rw [o64_rem]; exact k)
theorem j_i2l (hx : p.tables.exec = Jvm.exec) (hb : c.code = cc) {a : Int} (hdg : decode cc pc = .ok (.i2l, 1)) (k : W p l e R s m args below meth c H locs cells slots Q (F0 m (pc + 1) ls (jL (wr a) :: rest))) : W p l e R s m args below meth c H locs cells slots Q (F0 m pc ls (jI a :: rest)) := lv_i2l hx hb hdg (by
  apply Int64.toInt_inj.mp
  rw [Int32.toInt_toInt64, wr_eq, wL_eq]
  exact (wL_id (by have := wr_lo a; omega) (by have := wr_hi a; omega)).symm) k
theorem bm_wr (x : Int) : Int.bmod x 4294967296 = wr x := by
  show (if x % 4294967296 < (4294967296 + 1) / 2 then x % 4294967296 else x % 4294967296 - 4294967296) = wr x
  unfold wr
  split <;> omega
theorem o64_32 (a : Int) : (Int64.ofInt a).toInt32 = Int32.ofInt a := by
  apply Int32.toInt_inj.mp
  rw [Int64.toInt_toInt32, wr_eq, wL_eq, show (2 ^ 32 : Nat) = 4294967296 from rfl, bm_wr]
  unfold wr wL
  omega
theorem j_l2i (hx : p.tables.exec = Jvm.exec) (hb : c.code = cc) {a : Int} (hdg : decode cc pc = .ok (.l2i, 1)) (k : W p l e R s m args below meth c H locs cells slots Q (F0 m (pc + 1) ls (jI a :: rest))) : W p l e R s m args below meth c H locs cells slots Q (F0 m pc ls (jL a :: rest)) := lv_l2i hx hb hdg (o64_32 a) k
theorem j_lcmp (hx : p.tables.exec = Jvm.exec) (hb : c.code = cc) {a z : Int} (hdg : decode cc pc = .ok (.lcmp, 1)) (k : W p l e R s m args below meth c H locs cells slots Q (F0 m (pc + 1) ls (jI (lcI a z) :: rest))) : W p l e R s m args below meth c H locs cells slots Q (F0 m pc ls (jL z :: jL a :: rest)) := W.lcmp hx hb hdg (by
  have e : lg_cmp (Int64.ofInt a) (Int64.ofInt z) = Int32.ofInt (lcI a z) := by
    unfold lg_cmp lcI
    have h1 : Int64.ofInt a > Int64.ofInt z ↔ wL z < wL a := by
      show Int64.ofInt z < Int64.ofInt a ↔ _
      rw [Int64.lt_iff_toInt_lt, wL_eq, wL_eq]
    have h2 : Int64.ofInt a = Int64.ofInt z ↔ wL a = wL z := by rw [← Int64.toInt_inj, wL_eq, wL_eq]
    rcases Int.lt_trichotomy (wL a) (wL z) with q | q | q
    · rw [if_neg (fun y => by have := h1.mp y; omega), if_neg (fun y => by have := h2.mp y; omega), if_pos q]; rfl
    · rw [if_neg (fun y => by have := h1.mp y; omega), if_pos (h2.mpr q), if_neg (by omega), if_pos q]; rfl
    · rw [if_pos (h1.mpr q), if_neg (by omega), if_neg (by omega)]; rfl
  rw [e]; exact k)
theorem j_dup (hx : p.tables.exec = Jvm.exec) (hb : c.code = cc) {v : Value} (hdg : decode cc pc = .ok (.dup, 1)) (hv : v.category = 1) (k : W p l e R s m args below meth c H locs cells slots Q (F0 m (pc + 1) ls (v :: v :: rest))) : W p l e R s m args below meth c H locs cells slots Q (F0 m pc ls (v :: rest)) := lv_dup hx hb hdg hv k
theorem j_dup2 (hx : p.tables.exec = Jvm.exec) (hb : c.code = cc) {v w : Value} (hdg : decode cc pc = .ok (.dup2, 1)) (hv : v.category = 1) (hw : w.category = 1) (k : W p l e R s m args below meth c H locs cells slots Q (F0 m (pc + 1) ls (v :: w :: v :: w :: rest))) : W p l e R s m args below meth c H locs cells slots Q (F0 m pc ls (v :: w :: rest)) := lv_dup2_11 hx hb hdg hv hw k
theorem j_pop (hx : p.tables.exec = Jvm.exec) (hb : c.code = cc) {v : Value} (hdg : decode cc pc = .ok (.pop, 1)) (hv : v.category = 1) (k : W p l e R s m args below meth c H locs cells slots Q (F0 m (pc + 1) ls rest)) : W p l e R s m args below meth c H locs cells slots Q (F0 m pc ls (v :: rest)) := lv_pop hx hb hdg hv k
theorem j_goto (hx : p.tables.exec = Jvm.exec) (hb : c.code = cc) (hdg : decode cc pc = .ok (.goto off, 3)) (ht : (pc : Int) + off = (tgt : Int)) (k : W p l e R s m args below meth c H locs cells slots Q (F0 m tgt ls rest)) : W p l e R s m args below meth c H locs cells slots Q (F0 m pc ls rest) := lv_goto hx hb hdg ht k
theorem i32_0' {a A : Int} (hA : wr a = A) : (Int32.ofInt a = 0) ↔ A = 0 := by
  rw [i32_0, i32_inj, hA]; exact Iff.of_eq (congrArg (A = ·) (by decide))
theorem i32_rel {a z A B : Int} (hA : wr a = A) (hB : wr z = B) : (Int32.ofInt a = Int32.ofInt z ↔ A = B) ∧ (Int32.ofInt a < Int32.ofInt z ↔ A < B) ∧ (Int32.ofInt a ≤ Int32.ofInt z ↔ A ≤ B) := by
  subst hA; subst hB
  exact ⟨i32_inj, i32_lt, i32_le⟩
theorem i32_rel0 {a A : Int} (hA : wr a = A) : (Int32.ofInt a = 0 ↔ A = 0) ∧ (Int32.ofInt a < 0 ↔ A < 0) ∧ (Int32.ofInt a ≤ 0 ↔ A ≤ 0) ∧ ((0 : Int32) ≤ Int32.ofInt a ↔ 0 ≤ A) ∧ ((0 : Int32) < Int32.ofInt a ↔ 0 < A) := by
  have h := i32_rel (a := a) (z := 0) hA (B := 0) (by decide)
  have h' := i32_rel (a := 0) (z := a) (A := 0) (by decide) hA
  rw [i32_0]
  exact ⟨h.1, h.2.1, h.2.2, h'.2.2, h'.2.1⟩theorem j_icmp_eq (hx : p.tables.exec = Jvm.exec) (hb : c.code = cc) {a z A B : Int} (hA : wr a = A) (hB : wr z = B) (hdg : decode cc pc = .ok (.if_icmp .eq off, 3)) (ht : (pc : Int) + off = (tgt : Int)) (kt : A = B → W p l e R s m args below meth c H locs cells slots Q (F0 m tgt ls rest)) (kf : ¬ A = B → W p l e R s m args below meth c H locs cells slots Q (F0 m (pc + 3) ls rest)) : W p l e R s m args below meth c H locs cells slots Q (F0 m pc ls (jI z :: jI a :: rest)) := lv_icmp_eq hx hb hdg ht (fun q => kt ((i32_rel hA hB).1.mp q)) (fun q => kf (fun y => q ((i32_rel hA hB).1.mpr y)))
theorem j_if_eq (hx : p.tables.exec = Jvm.exec) (hb : c.code = cc) {a A : Int} (hA : wr a = A) (hdg : decode cc pc = .ok (.ifCond .eq off, 3)) (ht : (pc : Int) + off = (tgt : Int)) (kt : A = 0 → W p l e R s m args below meth c H locs cells slots Q (F0 m tgt ls rest)) (kf : ¬ A = 0 → W p l e R s m args below meth c H locs cells slots Q (F0 m (pc + 3) ls rest)) : W p l e R s m args below meth c H locs cells slots Q (F0 m pc ls (jI a :: rest)) := lv_if_eq hx hb hdg ht (fun q => kt ((i32_rel0 hA).1.mp q)) (fun q => kf (fun y => q ((i32_rel0 hA).1.mpr y)))
theorem j_icmp_ne (hx : p.tables.exec = Jvm.exec) (hb : c.code = cc) {a z A B : Int} (hA : wr a = A) (hB : wr z = B) (hdg : decode cc pc = .ok (.if_icmp .ne off, 3)) (ht : (pc : Int) + off = (tgt : Int)) (kt : ¬ A = B → W p l e R s m args below meth c H locs cells slots Q (F0 m tgt ls rest)) (kf : A = B → W p l e R s m args below meth c H locs cells slots Q (F0 m (pc + 3) ls rest)) : W p l e R s m args below meth c H locs cells slots Q (F0 m pc ls (jI z :: jI a :: rest)) := lv_icmp_ne hx hb hdg ht (fun q => kt (fun y => q ((i32_rel hA hB).1.mpr y))) (fun q => kf ((i32_rel hA hB).1.mp q))
theorem j_if_ne (hx : p.tables.exec = Jvm.exec) (hb : c.code = cc) {a A : Int} (hA : wr a = A) (hdg : decode cc pc = .ok (.ifCond .ne off, 3)) (ht : (pc : Int) + off = (tgt : Int)) (kt : ¬ A = 0 → W p l e R s m args below meth c H locs cells slots Q (F0 m tgt ls rest)) (kf : A = 0 → W p l e R s m args below meth c H locs cells slots Q (F0 m (pc + 3) ls rest)) : W p l e R s m args below meth c H locs cells slots Q (F0 m pc ls (jI a :: rest)) := lv_if_ne hx hb hdg ht (fun q => kt (fun y => q ((i32_rel0 hA).1.mpr y))) (fun q => kf ((i32_rel0 hA).1.mp q))
theorem j_icmp_lt (hx : p.tables.exec = Jvm.exec) (hb : c.code = cc) {a z A B : Int} (hA : wr a = A) (hB : wr z = B) (hdg : decode cc pc = .ok (.if_icmp .lt off, 3)) (ht : (pc : Int) + off = (tgt : Int)) (kt : A < B → W p l e R s m args below meth c H locs cells slots Q (F0 m tgt ls rest)) (kf : ¬ A < B → W p l e R s m args below meth c H locs cells slots Q (F0 m (pc + 3) ls rest)) : W p l e R s m args below meth c H locs cells slots Q (F0 m pc ls (jI z :: jI a :: rest)) := lv_icmp_lt hx hb hdg ht (fun q => kt ((i32_rel hA hB).2.1.mp q)) (fun q => kf (fun y => q ((i32_rel hA hB).2.1.mpr y)))
theorem j_if_lt (hx : p.tables.exec = Jvm.exec) (hb : c.code = cc) {a A : Int} (hA : wr a = A) (hdg : decode cc pc = .ok (.ifCond .lt off, 3)) (ht : (pc : Int) + off = (tgt : Int)) (kt : A < 0 → W p l e R s m args below meth c H locs cells slots Q (F0 m tgt ls rest)) (kf : ¬ A < 0 → W p l e R s m args below meth c H locs cells slots Q (F0 m (pc + 3) ls rest)) : W p l e R s m args below meth c H locs cells slots Q (F0 m pc ls (jI a :: rest)) := lv_if_lt hx hb hdg ht (fun q => kt ((i32_rel0 hA).2.1.mp q)) (fun q => kf (fun y => q ((i32_rel0 hA).2.1.mpr y)))
theorem j_icmp_ge (hx : p.tables.exec = Jvm.exec) (hb : c.code = cc) {a z A B : Int} (hA : wr a = A) (hB : wr z = B) (hdg : decode cc pc = .ok (.if_icmp .ge off, 3)) (ht : (pc : Int) + off = (tgt : Int)) (kt : B ≤ A → W p l e R s m args below meth c H locs cells slots Q (F0 m tgt ls rest)) (kf : ¬ B ≤ A → W p l e R s m args below meth c H locs cells slots Q (F0 m (pc + 3) ls rest)) : W p l e R s m args below meth c H locs cells slots Q (F0 m pc ls (jI z :: jI a :: rest)) := lv_icmp_ge hx hb hdg ht (fun q => kt ((i32_rel hB hA).2.2.mp q)) (fun q => kf (fun y => q ((i32_rel hB hA).2.2.mpr y)))
theorem j_if_ge (hx : p.tables.exec = Jvm.exec) (hb : c.code = cc) {a A : Int} (hA : wr a = A) (hdg : decode cc pc = .ok (.ifCond .ge off, 3)) (ht : (pc : Int) + off = (tgt : Int)) (kt : 0 ≤ A → W p l e R s m args below meth c H locs cells slots Q (F0 m tgt ls rest)) (kf : ¬ 0 ≤ A → W p l e R s m args below meth c H locs cells slots Q (F0 m (pc + 3) ls rest)) : W p l e R s m args below meth c H locs cells slots Q (F0 m pc ls (jI a :: rest)) := lv_if_ge hx hb hdg ht (fun q => kt ((i32_rel0 hA).2.2.2.1.mp q)) (fun q => kf (fun y => q ((i32_rel0 hA).2.2.2.1.mpr y)))
theorem j_icmp_gt (hx : p.tables.exec = Jvm.exec) (hb : c.code = cc) {a z A B : Int} (hA : wr a = A) (hB : wr z = B) (hdg : decode cc pc = .ok (.if_icmp .gt off, 3)) (ht : (pc : Int) + off = (tgt : Int)) (kt : B < A → W p l e R s m args below meth c H locs cells slots Q (F0 m tgt ls rest)) (kf : ¬ B < A → W p l e R s m args below meth c H locs cells slots Q (F0 m (pc + 3) ls rest)) : W p l e R s m args below meth c H locs cells slots Q (F0 m pc ls (jI z :: jI a :: rest)) := lv_icmp_gt hx hb hdg ht (fun q => kt ((i32_rel hB hA).2.1.mp q)) (fun q => kf (fun y => q ((i32_rel hB hA).2.1.mpr y)))
theorem j_if_gt (hx : p.tables.exec = Jvm.exec) (hb : c.code = cc) {a A : Int} (hA : wr a = A) (hdg : decode cc pc = .ok (.ifCond .gt off, 3)) (ht : (pc : Int) + off = (tgt : Int)) (kt : 0 < A → W p l e R s m args below meth c H locs cells slots Q (F0 m tgt ls rest)) (kf : ¬ 0 < A → W p l e R s m args below meth c H locs cells slots Q (F0 m (pc + 3) ls rest)) : W p l e R s m args below meth c H locs cells slots Q (F0 m pc ls (jI a :: rest)) := lv_if_gt hx hb hdg ht (fun q => kt ((i32_rel0 hA).2.2.2.2.mp q)) (fun q => kf (fun y => q ((i32_rel0 hA).2.2.2.2.mpr y)))
theorem j_icmp_le (hx : p.tables.exec = Jvm.exec) (hb : c.code = cc) {a z A B : Int} (hA : wr a = A) (hB : wr z = B) (hdg : decode cc pc = .ok (.if_icmp .le off, 3)) (ht : (pc : Int) + off = (tgt : Int)) (kt : A ≤ B → W p l e R s m args below meth c H locs cells slots Q (F0 m tgt ls rest)) (kf : ¬ A ≤ B → W p l e R s m args below meth c H locs cells slots Q (F0 m (pc + 3) ls rest)) : W p l e R s m args below meth c H locs cells slots Q (F0 m pc ls (jI z :: jI a :: rest)) := lv_icmp_le hx hb hdg ht (fun q => kt ((i32_rel hA hB).2.2.mp q)) (fun q => kf (fun y => q ((i32_rel hA hB).2.2.mpr y)))
theorem j_if_le (hx : p.tables.exec = Jvm.exec) (hb : c.code = cc) {a A : Int} (hA : wr a = A) (hdg : decode cc pc = .ok (.ifCond .le off, 3)) (ht : (pc : Int) + off = (tgt : Int)) (kt : A ≤ 0 → W p l e R s m args below meth c H locs cells slots Q (F0 m tgt ls rest)) (kf : ¬ A ≤ 0 → W p l e R s m args below meth c H locs cells slots Q (F0 m (pc + 3) ls rest)) : W p l e R s m args below meth c H locs cells slots Q (F0 m pc ls (jI a :: rest)) := lv_if_le hx hb hdg ht (fun q => kt ((i32_rel0 hA).2.2.1.mp q)) (fun q => kf (fun y => q ((i32_rel0 hA).2.2.1.mpr y)))
theorem j_ifnull (hx : p.tables.exec = Jvm.exec) (hb : c.code = cc) {a : Int} (hdg : decode cc pc = .ok (.ifnull off, 3)) (ht : (pc : Int) + off = (tgt : Int)) (kt : a < 0 → W p l e R s m args below meth c H locs cells slots Q (F0 m tgt ls rest)) (kf : ¬ a < 0 → W p l e R s m args below meth c H locs cells slots Q (F0 m (pc + 3) ls rest)) : W p l e R s m args below meth c H locs cells slots Q (F0 m pc ls (jN b a :: rest)) := by
  unfold jN
  split
  · exact lv_ifnullN hx hb hdg ht (kt (by assumption))
  · exact lv_ifnull hx hb hdg (kf (by assumption))
theorem j_ifnonnull (hx : p.tables.exec = Jvm.exec) (hb : c.code = cc) {a : Int} (hdg : decode cc pc = .ok (.ifnonnull off, 3)) (ht : (pc : Int) + off = (tgt : Int)) (kt : ¬ a < 0 → W p l e R s m args below meth c H locs cells slots Q (F0 m tgt ls rest)) (kf : a < 0 → W p l e R s m args below meth c H locs cells slots Q (F0 m (pc + 3) ls rest)) : W p l e R s m args below meth c H locs cells slots Q (F0 m pc ls (jN b a :: rest)) := by
  unfold jN
  split
  · exact lv_ifnonnullN hx hb hdg (kf (by assumption))
  · exact lv_ifnonnull hx hb hdg ht (kt (by assumption))
theorem j_ifnullR (hx : p.tables.exec = Jvm.exec) (hb : c.code = cc) {a : Nat} (hdg : decode cc pc = .ok (.ifnull off, 3)) (k : W p l e R s m args below meth c H locs cells slots Q (F0 m (pc + 3) ls rest)) : W p l e R s m args below meth c H locs cells slots Q (F0 m pc ls (jR b a :: rest)) := lv_ifnull hx hb hdg k
theorem jN_R {b : Nat} {e : Int} (h : ¬ e < 0) : jN b e = jR b e.toNat := if_neg h
theorem jR_N (b a : Nat) : jR b a = jN b (a : Int) := by
  unfold jN jR
  rw [if_neg (by omega), Int.toNat_natCast]
theorem j_tabOut (hx : p.tables.exec = Jvm.exec) (hb : c.code = cc) {dflt lo hi : Int} {offs : Array Int} {len : Nat} {a A : Int} (hA : wr a = A) (hdg : decode cc pc = .ok (.tableswitch dflt lo hi offs, len)) (h : A < lo ∨ hi < A) (ht : (pc : Int) + dflt = (tgt : Int)) (k : W p l e R s m args below meth c H locs cells slots Q (F0 m tgt ls rest)) : W p l e R s m args below meth c H locs cells slots Q (F0 m pc ls (jI a :: rest)) := lv_tableOut hx hb hdg (by rw [wr_eq, hA]; exact h) ht k
theorem j_tabIn (hx : p.tables.exec = Jvm.exec) (hb : c.code = cc) {dflt lo hi : Int} {offs : Array Int} {len : Nat} {a A : Int} (hA : wr a = A) (hdg : decode cc pc = .ok (.tableswitch dflt lo hi offs, len)) (h1 : ¬ A < lo) (h2 : ¬ hi < A) (ho : offs[(A - lo).toNat]? = some off) (ht : (pc : Int) + off = (tgt : Int)) (k : W p l e R s m args below meth c H locs cells slots Q (F0 m tgt ls rest)) : W p l e R s m args below meth c H locs cells slots Q (F0 m pc ls (jI a :: rest)) := lv_tableIn hx hb hdg (by rw [wr_eq, hA]; exact h1) (by rw [wr_eq, hA]; exact h2) (by rw [wr_eq, hA]; exact ho) ht k
theorem j_look (hx : p.tables.exec = Jvm.exec) (hb : c.code = cc) {dflt : Int} {ps : Array (Int × Int)} {len : Nat} {a A : Int} (hA : wr a = A) (hdg : decode cc pc = .ok (.lookupswitch dflt ps, len)) (hp : (ps.toList.zip (ps.toList.drop 1)).all (fun (a, next) => a.1 < next.1) = true) (ho : Op.lookupswitch.offset ps.toList dflt A = off) (ht : (pc : Int) + off = (tgt : Int)) (k : W p l e R s m args below meth c H locs cells slots Q (F0 m tgt ls rest)) : W p l e R s m args below meth c H locs cells slots Q (F0 m pc ls (jI a :: rest)) := lv_lookup hx hb hdg hp (by rw [wr_eq, hA]; exact ho) ht k
theorem j_get (hx : p.tables.exec = Jvm.exec) (hb : c.code = cc) {own ref C : String} {Tf : u_T} {N ci index : Nat} {Ts : List Cond} {a : Nat} (hts : ∀ w ∈ Ts, w.before args s = true) (hin : ∀ w ∈ u_ws C Tf N, w ∈ Ts) (hown : s.vm.findClass own = some m.cls) (hK : va_K D vwCl (tyl cs) s) (hP : va_P D vwCl (wl b cs μ) H) (hk : kd a = ci) (h8 : ci < 8) (hc : vwCl[ci]? = some (C, Tf, N)) (k : Nat) (hkN : k < N) (hlink : (Cond.fieldLink own index ref (Tf k).2.1 (Tf k).2.2.1).before args s = true) (hsame : (Tf k).1 = ref) {v : Value} (hv : (flds b ci a (μ a))[k]? = some v) (hdg : decode cc pc = .ok (.getfield index, 3)) (kk : W p l e R s m args below meth c H locs cells slots Q (F0 m (pc + 3) ls (v :: rest))) : W p l e R s m args below meth c H locs cells slots Q (F0 m pc ls (jR b a :: rest)) := by
  have hlt : a < 346 := kd_lt (by omega)
  have hat := wl_at b cs μ hlt
  have e : layc b cs a (μ a) = .inr (ci, flds b ci a (μ a)) := by unfold layc; rw [hk, if_pos h8]
  rw [e] at hat
  exact va_get hx hb hts hin hown hK hP a hat hc k hkN hlink (fun x hx9 => by rw [← hsame]; exact hx9) hv hdg kk
theorem j_put (hx : p.tables.exec = Jvm.exec) (hb : c.code = cc) {own ref C : String} {Tf : u_T} {N ci index : Nat} {Ts : List Cond} {a : Nat} (hts : ∀ w ∈ Ts, w.before args s = true) (hin : ∀ w ∈ u_ws C Tf N, w ∈ Ts) (ty0 : Nat → FieldType) (hty : ∀ k, k < N → parseFieldDescriptor (Tf k).2.2.1 = some (ty0 k)) (hnm : ∀ a, a < N → ∀ b, b < N → a ≠ b → (Tf a).2.1 ≠ (Tf b).2.1) (hown : s.vm.findClass own = some m.cls) (hK : va_K D vwCl (tyl cs) s) (hP : va_P D vwCl (wl b cs μ) H) (hS : va_S (bA b) H0 H locs) (hk : kd a = ci) (h8 : ci < 8) (hc : vwCl[ci]? = some (C, Tf, N)) (k : Nat) (hkN : k < N) (hlink : (Cond.fieldLink own index ref (Tf k).2.1 (Tf k).2.2.1).before args s = true) (hsame : (Tf k).1 = ref) (hfin : (Tf k).2.2.2 = false) {ty : FieldType} {v : Value} {z : Int} (hd : parseFieldDescriptor (Tf k).2.2.1 = some ty) (hn : narrow ty v = v) (hfit : fits ty v = true) (hl : k < (flds b ci a (μ a)).length) (hset : (flds b ci a (μ a)).set k v = flds b ci a (upd (μ a) k (Int32.ofInt z))) (hdg : decode cc pc = .ok (.putfield index, 3)) (hμ : pI μ a k z = μ1) (kk : ∀ (H1 : Heap) (locs1 : List Loc), va_P D vwCl (wl b cs μ1) H1 → va_S (bA b) H0 H1 locs1 → W p l e R s m args below meth c H1 locs1 cells slots Q (F0 m (pc + 3) ls rest)) : W p l e R s m args below meth c H locs cells slots Q (F0 m pc ls (v :: jR b a :: rest)) := by
  have hlt : a < 346 := kd_lt (by omega)
  have hat := wl_at b cs μ hlt
  have e : ∀ g, layc b cs a g = .inr (ci, flds b ci a g) := fun g => by unfold layc; rw [hk, if_pos h8]
  rw [e] at hat
  refine va_put hx hb hts hin ty0 hty hnm hown hK hP (wl_D b cs μ) hS a hat hc k hkN hlink (fun x hx9 => by rw [← hsame]; exact hx9) hfin hd hn hfit hl hdg (fun H1 locs1 hP1 _ hS1 => ?_)
  rw [hset, ← e, wl_set b cs μ hlt] at hP1
  subst hμ
  exact kk H1 locs1 hP1 hS1
theorem lay_I {b : Nat} {cs : CS} {a n : Nat} (h : kd a = n + 1000) (g : Nat → Int32) : layc b cs a g = .inl (cs.1, n, .inl g) := by
  unfold layc
  rw [if_neg (by omega), if_neg (by omega), if_neg (by omega), if_neg (by omega), h, Nat.add_sub_cancel]
theorem j_iaload (hx : p.tables.exec = Jvm.exec) (hb : c.code = cc) (hK : va_K D vwCl (tyl cs) s) (hP : va_P D vwCl (wl b cs μ) H) {a n : Nat} {z r : Int} (hk : kd a = n + 1000) (h : ldA μ a n z = some r) (hdg : decode cc pc = .ok (.iaload, 1)) (kk : W p l e R s m args below meth c H locs cells slots Q (F0 m (pc + 1) ls (jI r :: rest))) : W p l e R s m args below meth c H locs cells slots Q (F0 m pc ls (jI z :: jR b a :: rest)) := by
  have hlt : a < 346 := kd_lt (by omega)
  have hat := wl_at b cs μ hlt
  rw [lay_I hk] at hat
  unfold ldA at h
  split at h
  · rename_i hz
    cases h
    rw [jI_g, ← i32_cl hz.1] at kk
    exact va_iald hx hb hK hP a 0 hat rfl (vp_in_w hz) hdg kk
  · cases h
theorem j_iastore (hx : p.tables.exec = Jvm.exec) (hb : c.code = cc) (hK : va_K D vwCl (tyl cs) s) (hP : va_P D vwCl (wl b cs μ) H) (hS : va_S (bA b) H0 H locs) {a n : Nat} {z v : Int} (hk : kd a = n + 1000) (h : stA μ a n z v = some μ1) (hdg : decode cc pc = .ok (.iastore, 1)) (kk : ∀ (H1 : Heap) (locs1 : List Loc), va_P D vwCl (wl b cs μ1) H1 → va_S (bA b) H0 H1 locs1 → W p l e R s m args below meth c H1 locs1 cells slots Q (F0 m (pc + 1) ls rest)) : W p l e R s m args below meth c H locs cells slots Q (F0 m pc ls (jI v :: jI z :: jR b a :: rest)) := by
  have hlt : a < 346 := kd_lt (by omega)
  have hat := wl_at b cs μ hlt
  rw [lay_I hk] at hat
  unfold stA at h
  split at h
  · rename_i hz
    cases h
    refine va_iast hx hb hK hP (wl_D b cs μ) hS a 0 hat rfl (vp_in_w hz) hdg (fun H1 locs1 hP1 _ hS1 => ?_)
    rw [i32_cl hz.1, ← lay_I (b := b) (cs := cs) hk, wl_set b cs μ hlt] at hP1
    exact kk H1 locs1 hP1 hS1
  · cases h
theorem lay_Z {b : Nat} {cs : CS} {a : Nat} (h : kd a = 50) (g : Nat → Int32) : layc b cs a g = .inl (cs.2.1, 2, .inl g) := by
  unfold layc
  rw [if_neg (by omega), if_pos (by omega)]
theorem j_zaload (hx : p.tables.exec = Jvm.exec) (hb : c.code = cc) (hK : va_K D vwCl (tyl cs) s) (hP : va_P D vwCl (wl b cs μ) H) {a : Nat} {z r : Int} (hk : kd a = 50) (h : ldA μ a 2 z = some r) (hdg : decode cc pc = .ok (.baload, 1)) (kk : W p l e R s m args below meth c H locs cells slots Q (F0 m (pc + 1) ls (jI r :: rest))) : W p l e R s m args below meth c H locs cells slots Q (F0 m pc ls (jI z :: jR b a :: rest)) := by
  have hlt : a < 346 := kd_lt (by omega)
  have hat := wl_at b cs μ hlt
  rw [lay_Z hk] at hat
  unfold ldA at h
  split at h
  · rename_i hz
    cases h
    rw [jI_g, ← i32_cl hz.1] at kk
    exact va_zald hx hb hK hP a 1 hat rfl (vp_in_w hz) hdg kk
  · cases h
theorem j_zastore (hx : p.tables.exec = Jvm.exec) (hb : c.code = cc) (hK : va_K D vwCl (tyl cs) s) (hP : va_P D vwCl (wl b cs μ) H) (hS : va_S (bA b) H0 H locs) {a : Nat} {z v : Int} (hk : kd a = 50) (hv : v = 0 ∨ v = 1) (h : stA μ a 2 z v = some μ1) (hdg : decode cc pc = .ok (.bastore, 1)) (kk : ∀ (H1 : Heap) (locs1 : List Loc), va_P D vwCl (wl b cs μ1) H1 → va_S (bA b) H0 H1 locs1 → W p l e R s m args below meth c H1 locs1 cells slots Q (F0 m (pc + 1) ls rest)) : W p l e R s m args below meth c H locs cells slots Q (F0 m pc ls (jI v :: jI z :: jR b a :: rest)) := by
  have hlt : a < 346 := kd_lt (by omega)
  have hat := wl_at b cs μ hlt
  rw [lay_Z hk] at hat
  unfold stA at h
  split at h
  · rename_i hz
    cases h
    refine va_zast hx hb hK hP (wl_D b cs μ) hS a 1 hat rfl (vp_in_w hz) hdg (fun H1 locs1 hP1 _ hS1 => ?_)
    rw [show vp_nar .boolean (Int32.ofInt v) = Int32.ofInt v by rcases hv with rfl | rfl <;> rfl, i32_cl hz.1, ← lay_Z (b := b) (cs := cs) hk, wl_set b cs μ hlt] at hP1
    exact kk H1 locs1 hP1 hS1
  · cases h
theorem j_aaW (hx : p.tables.exec = Jvm.exec) (hb : c.code = cc) (hK : va_K D vwCl (tyl cs) s) (hP : va_P D vwCl (wl b cs μ) H) {a : Nat} {z r : Int} (hk : kd a = 51) (h : ckI 30 z = some r) (hdg : decode cc pc = .ok (.aaload, 1)) (kk : W p l e R s m args below meth c H locs cells slots Q (F0 m (pc + 1) ls (jR b (23 + 9 * r.toNat) :: rest))) : W p l e R s m args below meth c H locs cells slots Q (F0 m pc ls (jI z :: jR b a :: rest)) := by
  have hlt : a < 346 := kd_lt (by omega)
  have hat := wl_at b cs μ hlt
  have e : layc b cs a (μ a) = .inl (cs.2.2.1, 30, .inr (.inr (.inr (.inr (fun i => some (b + (23 + 9 * i))))))) := by
    unfold layc
    rw [if_neg (by omega), if_neg (by omega), if_pos (by omega)]
  rw [e] at hat
  unfold ckI at h
  split at h
  · rename_i hz
    cases h
    refine va_aldq hx hb hK hP a 2 hat rfl (vp_in_w hz) hdg ?_
    rw [i32_cl hz.1]
    exact kk
  · cases h
theorem j_aaG (hx : p.tables.exec = Jvm.exec) (hb : c.code = cc) (hK : va_K D vwCl (tyl cs) s) (hP : va_P D vwCl (wl b cs μ) H) {a : Nat} {z r : Int} (hk : kd a = 52) (h : ckI 2 z = some r) (hdg : decode cc pc = .ok (.aaload, 1)) (kk : W p l e R s m args below meth c H locs cells slots Q (F0 m (pc + 1) ls (jR b (312 + 10 * r.toNat) :: rest))) : W p l e R s m args below meth c H locs cells slots Q (F0 m pc ls (jI z :: jR b a :: rest)) := by
  have hlt : a < 346 := kd_lt (by omega)
  have hat := wl_at b cs μ hlt
  have e : layc b cs a (μ a) = .inl (cs.2.2.2, 2, .inr (.inr (.inr (.inr (fun i => some (b + (312 + 10 * i))))))) := by
    unfold layc
    rw [if_neg (by omega), if_neg (by omega), if_neg (by omega), if_pos (by omega)]
  rw [e] at hat
  unfold ckI at h
  split at h
  · rename_i hz
    cases h
    refine va_aldq hx hb hK hP a 3 hat rfl (vp_in_w hz) hdg ?_
    rw [i32_cl hz.1]
    exact kk
  · cases h
theorem j_alen (hx : p.tables.exec = Jvm.exec) (hb : c.code = cc) (hK : va_K D vwCl (tyl cs) s) (hP : va_P D vwCl (wl b cs μ) H) {a n : Nat} (hk : kd a = n + 1000) (hdg : decode cc pc = .ok (.arraylength, 1)) (kk : W p l e R s m args below meth c H locs cells slots Q (F0 m (pc + 1) ls (jI n :: rest))) : W p l e R s m args below meth c H locs cells slots Q (F0 m pc ls (jR b a :: rest)) := by
  have hlt : a < 346 := kd_lt (by omega)
  have hat := wl_at b cs μ hlt
  rw [lay_I hk] at hat
  exact va_alen hx hb hK hP a 0 hat rfl (v := Int32.ofInt n) rfl hdg kk
theorem j_alenW (hx : p.tables.exec = Jvm.exec) (hb : c.code = cc) (hK : va_K D vwCl (tyl cs) s) (hP : va_P D vwCl (wl b cs μ) H) {a : Nat} (hk : kd a = 51) (hdg : decode cc pc = .ok (.arraylength, 1)) (kk : W p l e R s m args below meth c H locs cells slots Q (F0 m (pc + 1) ls (jI 30 :: rest))) : W p l e R s m args below meth c H locs cells slots Q (F0 m pc ls (jR b a :: rest)) := by
  have hlt : a < 346 := kd_lt (by omega)
  have hat := wl_at b cs μ hlt
  unfold layc at hat
  rw [if_neg (by omega), if_neg (by omega), if_pos (by omega)] at hat
  exact va_alen hx hb hK hP a 2 hat rfl (v := Int32.ofInt 30) rfl hdg kk
theorem j_alenG (hx : p.tables.exec = Jvm.exec) (hb : c.code = cc) (hK : va_K D vwCl (tyl cs) s) (hP : va_P D vwCl (wl b cs μ) H) {a : Nat} (hk : kd a = 52) (hdg : decode cc pc = .ok (.arraylength, 1)) (kk : W p l e R s m args below meth c H locs cells slots Q (F0 m (pc + 1) ls (jI 2 :: rest))) : W p l e R s m args below meth c H locs cells slots Q (F0 m pc ls (jR b a :: rest)) := by
  have hlt : a < 346 := kd_lt (by omega)
  have hat := wl_at b cs μ hlt
  unfold layc at hat
  rw [if_neg (by omega), if_neg (by omega), if_neg (by omega), if_pos (by omega)] at hat
  exact va_alen hx hb hK hP a 3 hat rfl (v := Int32.ofInt 2) rfl hdg kk
theorem j_copy (hx : p.tables.exec = Jvm.exec) (hb : c.code = cc) {nl : Nat} (hK : va_K D vwCl (tyl cs) s) (hP : va_P D vwCl (wl b cs μ) H) (hS : va_S (bA b) H0 H locs) (hml : c.maxLocals = nl) (hsz : ls.size = nl) {own : String} {index : Nat} (hown : s.vm.findClass own = some m.cls) (hlink : (Cond.methodLink own index arraycopyName).before args s = true) (hnat : (Cond.native arraycopyName).before args s = true) (hstat : (Cond.static arraycopyName).before args s = true) (hini : (Cond.initialized "java/lang/System").before args s = true) {a n a2 n2 : Nat} {sp dp z : Int} (hk : kd a = n + 1000) (hk2 : kd a2 = n2 + 1000) (h : cpA μ a n a2 n2 sp dp z = some μ1) (hfr : 1 ≤ R.frames) (hlo : (rest.map fun v => v.category).sum + (nativeFrameWords "java/lang/System" "arraycopy" 5 + 11) ≤ R.locals) (hdg : decode cc pc = .ok (.invokestatic index, 3)) (kk : ∀ (H1 : Heap) (locs1 : List Loc), va_P D vwCl (wl b cs μ1) H1 → va_S (bA b) H0 H1 locs1 → W p l e R s m args below meth c H1 locs1 cells slots Q (F0 m (pc + 3) ls rest)) : W p l e R s m args below meth c H locs cells slots Q (F0 m pc ls (jI z :: jI dp :: jR b a2 :: jI sp :: jR b a :: rest)) := by
  have hlt : a < 346 := kd_lt (by omega)
  have hlt2 : a2 < 346 := kd_lt (by omega)
  have hat := wl_at b cs μ hlt
  have hat2 := wl_at b cs μ hlt2
  rw [lay_I hk] at hat
  rw [lay_I hk2] at hat2
  unfold cpA at h
  split at h
  · rename_i hz
    obtain ⟨⟨h1, h2, h3⟩, h4, h5⟩ := hz
    cases h
    have ge : ∀ y : Int, 0 ≤ wr y → ¬ Int32.ofInt y < 0 := fun y hy q => by
      have := (i32_rel0 (a := y) rfl).2.1.mp q
      omega
    refine va_copyi hx hb (hml.trans hsz.symm) hown hlink hnat hstat hini hK hP (wl_D b cs μ) hS a a2 0 0 hat hat2 rfl rfl rfl (ge _ h1) (ge _ h2) (ge _ h3) (by rw [i32_cl h1, i32_cl h3]; omega) (by rw [i32_cl h2, i32_cl h3]; omega) (fun _ _ => rfl) hfr hlo hdg (fun H1 locs1 hP1 _ hS1 => ?_)
    rw [i32_cl h1, i32_cl h2, i32_cl h3, ← lay_I (b := b) (cs := cs) hk2, wl_set b cs μ hlt2] at hP1
    exact kk H1 locs1 hP1 hS1
  · cases h
def PM (D : va_G) (b : Nat) (cs : CS) (μ : Mm) (av : List Value) : Array Value → State → Prop := va_Pc av (fun U => va_P D vwCl (wl b cs μ) U.heap ∧ va_K D vwCl (tyl cs) U)
def QI (D : va_G) (b : Nat) (cs : CS) (μ : Mm) (r : Int) : Array Value → State → Outcome → State → Prop := va_Qi (S := Unit) (fun x _ => x = Int32.ofInt r) (fun _ t => va_P D vwCl (wl b cs μ) t.heap ∧ va_K D vwCl (tyl cs) t) (bA b)
def QM (D : va_G) (b : Nat) (cs : CS) (μ : Mm) : Array Value → State → Outcome → State → Prop := va_Qv (S := Unit) (fun _ => True) (fun _ t => va_P D vwCl (wl b cs μ) t.heap ∧ va_K D vwCl (tyl cs) t) (bA b)
def QN (D : va_G) (b : Nat) (cs : CS) (μ : Mm) (r : Int) : Array Value → State → Outcome → State → Prop := va_Qq (S := Unit) (fun o _ => va_rf o = jN b r) (fun _ t => va_P D vwCl (wl b cs μ) t.heap ∧ va_K D vwCl (tyl cs) t) (bA b)
def MI (l : Launch) (y : MethodName) (ws : List Cond) (rm : Room) (D : va_G) (b : Nat) (cs : CS) (av : List Value) (μ μ1 : Mm) (r : Int) : Prop := Met l y ws rm (PM D b cs μ av) (QI D b cs μ1 r) 0 0 (bA b)
def MM (l : Launch) (y : MethodName) (ws : List Cond) (rm : Room) (D : va_G) (b : Nat) (cs : CS) (av : List Value) (μ μ1 : Mm) : Prop := Met l y ws rm (PM D b cs μ av) (QM D b cs μ1) 0 0 (bA b)
def MN (l : Launch) (y : MethodName) (ws : List Cond) (rm : Room) (D : va_G) (b : Nat) (cs : CS) (av : List Value) (μ μ1 : Mm) (r : Int) : Prop := Met l y ws rm (PM D b cs μ av) (QN D b cs μ1 r) 0 0 (bA b)
theorem pm_blind (D : va_G) (b : Nat) (cs : CS) (μ : Mm) (av : List Value) : FrameBlind (PM D b cs μ av) := fun a U g mk q => by
  obtain ⟨q0, qP, qK⟩ := q
  exact ⟨q0, qP, va_K.moved (u := U) (U := U.calling g mk a) (Vm.Alike.refl U.vm) qK⟩
theorem pm_pre {D : va_G} {b : Nat} {cs : CS} {μ : Mm} {av : List Value} {s : State} {H : Heap} (hK : va_K D vwCl (tyl cs) s) (hP : va_P D vwCl (wl b cs μ) H) : ∀ U : State, U.heap = H → s.WarmedH U.vm → PM D b cs μ av av.toArray U := fun U hU hW => ⟨rfl, by rw [hU]; exact hP, va_K.moved hW.alike hK⟩
theorem j_recv {s : State} {H : Heap} {D : va_G} {b : Nat} {cs : CS} {μ : Mm} (hK : va_K D vwCl (tyl cs) s) (hP : va_P D vwCl (wl b cs μ) H) {a ci : Nat} {C : String} {Tf : u_T} {N : Nat} (hk : kd a = ci) (h8 : ci < 8) (hc : vwCl[ci]? = some (C, Tf, N)) : ∃ cell : Cell, H[b + a]? = some cell ∧ cell.vm.isStatics = false ∧ s.vm.findClass C = some cell.cls := by
  have hlt : a < 346 := kd_lt (by omega)
  have hat := wl_at b cs μ hlt
  have e : layc b cs a (μ a) = .inr (ci, flds b ci a (μ a)) := by unfold layc; rw [hk, if_pos h8]
  rw [e] at hat
  exact va_recv hK hP (ci := ci) (q0 := a) hc hat
theorem jc_VI {y : MethodName} {bytes : ByteArray} {maxL n index : Nat} {ret : Option FieldType} {ws : List Cond} {rm : Room} {Ts : List Cond} {own : String} {As st : List Value} {r : Int} {C : String} {Tf : u_T} {N a ci : Nat} (F : CallFix p m c cc nL s args Ts own) (hK : va_K D vwCl (tyl cs) s) (hP : va_P D vwCl (wl b cs μ) H) (hS : va_S (bA b) H0 H locs) (hM : MI l y ws rm D b cs (jR b a :: As) μ μ1 r) (cw : CallW R s args own C index y bytes maxL ret ws rm 0 0 n) (hk : kd a = ci) (h8 : ci < 8) (hc : vwCl[ci]? = some (C, Tf, N)) (hn : As.length = n) (hsz : ls.size = nL) (hst : st = As.reverse ++ jR b a :: rest) (hW : (rest.map fun v => v.category).sum ≤ 8) (hdg : decode cc pc = .ok (.invokevirtual index, 3)) (hcs : cells ≤ R.cells ∧ slots ≤ R.slots) (kk : ∀ (H1 : Heap) (locs1 : List Loc), va_P D vwCl (wl b cs μ1) H1 → va_S (bA b) H0 H1 locs1 → W p l e R s m args below meth c H1 locs1 cells slots Q (F0 m (pc + 3) ls (jI r :: rest))) : W p l e R s m args below meth c H locs cells slots Q (F0 m pc ls st) := by
  refine va_calli (va_runV (As := As) (rest := rest) F hM cw ⟨pm_blind D b cs μ _, j_recv hK hP hk h8 hc, pm_pre hK hP⟩ rfl hn hsz hst (lv_room hW) hdg hcs) hS (fun _ _ h => h) (fun _ h => h) (fun r2 u t H1 locs1 ht hvm hw hB hz hk1 hS1 => ?_)
  have hw : r2 = Int32.ofInt r := hw
  subst hw
  have hP1 := hB.1
  rw [ht] at hP1
  exact kk H1 locs1 hP1 hS1
theorem jc_SI {y : MethodName} {bytes : ByteArray} {maxL n index : Nat} {ret : Option FieldType} {ws : List Cond} {rm : Room} {Ts : List Cond} {own : String} {As st : List Value} {r : Int}  (F : CallFix p m c cc nL s args Ts own) (hK : va_K D vwCl (tyl cs) s) (hP : va_P D vwCl (wl b cs μ) H) (hS : va_S (bA b) H0 H locs) (hM : MI l y ws rm D b cs As μ μ1 r) (cw : CallB R s args own index y bytes maxL ret ws rm 0 0 n ∧ (Cond.static y).before args s = true)  (hn : As.length = n) (hsz : ls.size = nL) (hst : st = As.reverse ++ rest) (hW : (rest.map fun v => v.category).sum ≤ 8) (hdg : decode cc pc = .ok (.invokestatic index, 3)) (hcs : cells ≤ R.cells ∧ slots ≤ R.slots) (kk : ∀ (H1 : Heap) (locs1 : List Loc), va_P D vwCl (wl b cs μ1) H1 → va_S (bA b) H0 H1 locs1 → W p l e R s m args below meth c H1 locs1 cells slots Q (F0 m (pc + 3) ls (jI r :: rest))) : W p l e R s m args below meth c H locs cells slots Q (F0 m pc ls st) := by
  refine va_calli (va_runS (As := As) (rest := rest) F hM cw ⟨pm_blind D b cs μ _, pm_pre hK hP⟩ rfl hn hsz hst (lv_room hW) hdg hcs) hS (fun _ _ h => h) (fun _ h => h) (fun r2 u t H1 locs1 ht hvm hw hB hz hk1 hS1 => ?_)
  have hw : r2 = Int32.ofInt r := hw
  subst hw
  have hP1 := hB.1
  rw [ht] at hP1
  exact kk H1 locs1 hP1 hS1
theorem jc_VM {y : MethodName} {bytes : ByteArray} {maxL n index : Nat} {ret : Option FieldType} {ws : List Cond} {rm : Room} {Ts : List Cond} {own : String} {As st : List Value}  {C : String} {Tf : u_T} {N a ci : Nat} (F : CallFix p m c cc nL s args Ts own) (hK : va_K D vwCl (tyl cs) s) (hP : va_P D vwCl (wl b cs μ) H) (hS : va_S (bA b) H0 H locs) (hM : MM l y ws rm D b cs (jR b a :: As) μ μ1) (cw : CallW R s args own C index y bytes maxL ret ws rm 0 0 n) (hk : kd a = ci) (h8 : ci < 8) (hc : vwCl[ci]? = some (C, Tf, N)) (hn : As.length = n) (hsz : ls.size = nL) (hst : st = As.reverse ++ jR b a :: rest) (hW : (rest.map fun v => v.category).sum ≤ 8) (hdg : decode cc pc = .ok (.invokevirtual index, 3)) (hcs : cells ≤ R.cells ∧ slots ≤ R.slots) (kk : ∀ (H1 : Heap) (locs1 : List Loc), va_P D vwCl (wl b cs μ1) H1 → va_S (bA b) H0 H1 locs1 → W p l e R s m args below meth c H1 locs1 cells slots Q (F0 m (pc + 3) ls (rest))) : W p l e R s m args below meth c H locs cells slots Q (F0 m pc ls st) := by
  refine va_callv (va_runV (As := As) (rest := rest) F hM cw ⟨pm_blind D b cs μ _, j_recv hK hP hk h8 hc, pm_pre hK hP⟩ rfl hn hsz hst (lv_room hW) hdg hcs) hS (fun _ _ h => h) (fun _ h => h) (fun u t H1 locs1 ht hvm hw hB hz hk1 hS1 => ?_)
  have hP1 := hB.1
  rw [ht] at hP1
  exact kk H1 locs1 hP1 hS1
theorem jc_SM {y : MethodName} {bytes : ByteArray} {maxL n index : Nat} {ret : Option FieldType} {ws : List Cond} {rm : Room} {Ts : List Cond} {own : String} {As st : List Value}   (F : CallFix p m c cc nL s args Ts own) (hK : va_K D vwCl (tyl cs) s) (hP : va_P D vwCl (wl b cs μ) H) (hS : va_S (bA b) H0 H locs) (hM : MM l y ws rm D b cs As μ μ1) (cw : CallB R s args own index y bytes maxL ret ws rm 0 0 n ∧ (Cond.static y).before args s = true)  (hn : As.length = n) (hsz : ls.size = nL) (hst : st = As.reverse ++ rest) (hW : (rest.map fun v => v.category).sum ≤ 8) (hdg : decode cc pc = .ok (.invokestatic index, 3)) (hcs : cells ≤ R.cells ∧ slots ≤ R.slots) (kk : ∀ (H1 : Heap) (locs1 : List Loc), va_P D vwCl (wl b cs μ1) H1 → va_S (bA b) H0 H1 locs1 → W p l e R s m args below meth c H1 locs1 cells slots Q (F0 m (pc + 3) ls (rest))) : W p l e R s m args below meth c H locs cells slots Q (F0 m pc ls st) := by
  refine va_callv (va_runS (As := As) (rest := rest) F hM cw ⟨pm_blind D b cs μ _, pm_pre hK hP⟩ rfl hn hsz hst (lv_room hW) hdg hcs) hS (fun _ _ h => h) (fun _ h => h) (fun u t H1 locs1 ht hvm hw hB hz hk1 hS1 => ?_)
  have hP1 := hB.1
  rw [ht] at hP1
  exact kk H1 locs1 hP1 hS1
theorem jc_VN {y : MethodName} {bytes : ByteArray} {maxL n index : Nat} {ret : Option FieldType} {ws : List Cond} {rm : Room} {Ts : List Cond} {own : String} {As st : List Value} {r : Int} {C : String} {Tf : u_T} {N a ci : Nat} (F : CallFix p m c cc nL s args Ts own) (hK : va_K D vwCl (tyl cs) s) (hP : va_P D vwCl (wl b cs μ) H) (hS : va_S (bA b) H0 H locs) (hM : MN l y ws rm D b cs (jR b a :: As) μ μ1 r) (cw : CallW R s args own C index y bytes maxL ret ws rm 0 0 n) (hk : kd a = ci) (h8 : ci < 8) (hc : vwCl[ci]? = some (C, Tf, N)) (hn : As.length = n) (hsz : ls.size = nL) (hst : st = As.reverse ++ jR b a :: rest) (hW : (rest.map fun v => v.category).sum ≤ 8) (hdg : decode cc pc = .ok (.invokevirtual index, 3)) (hcs : cells ≤ R.cells ∧ slots ≤ R.slots) (kk : ∀ (H1 : Heap) (locs1 : List Loc), va_P D vwCl (wl b cs μ1) H1 → va_S (bA b) H0 H1 locs1 → W p l e R s m args below meth c H1 locs1 cells slots Q (F0 m (pc + 3) ls (jN b r :: rest))) : W p l e R s m args below meth c H locs cells slots Q (F0 m pc ls st) := by
  refine va_callq (va_runV (As := As) (rest := rest) F hM cw ⟨pm_blind D b cs μ _, j_recv hK hP hk h8 hc, pm_pre hK hP⟩ rfl hn hsz hst (lv_room hW) hdg hcs) hS (fun _ _ h => h) (fun _ h => h) (fun r2 u t H1 locs1 ht hvm hw hB hz hk1 hS1 => ?_)
  have hw : va_rf r2 = jN b r := hw
  rw [hw]
  have hP1 := hB.1
  rw [ht] at hP1
  exact kk H1 locs1 hP1 hS1
theorem jc_SN {y : MethodName} {bytes : ByteArray} {maxL n index : Nat} {ret : Option FieldType} {ws : List Cond} {rm : Room} {Ts : List Cond} {own : String} {As st : List Value} {r : Int}  (F : CallFix p m c cc nL s args Ts own) (hK : va_K D vwCl (tyl cs) s) (hP : va_P D vwCl (wl b cs μ) H) (hS : va_S (bA b) H0 H locs) (hM : MN l y ws rm D b cs As μ μ1 r) (cw : CallB R s args own index y bytes maxL ret ws rm 0 0 n ∧ (Cond.static y).before args s = true)  (hn : As.length = n) (hsz : ls.size = nL) (hst : st = As.reverse ++ rest) (hW : (rest.map fun v => v.category).sum ≤ 8) (hdg : decode cc pc = .ok (.invokestatic index, 3)) (hcs : cells ≤ R.cells ∧ slots ≤ R.slots) (kk : ∀ (H1 : Heap) (locs1 : List Loc), va_P D vwCl (wl b cs μ1) H1 → va_S (bA b) H0 H1 locs1 → W p l e R s m args below meth c H1 locs1 cells slots Q (F0 m (pc + 3) ls (jN b r :: rest))) : W p l e R s m args below meth c H locs cells slots Q (F0 m pc ls st) := by
  refine va_callq (va_runS (As := As) (rest := rest) F hM cw ⟨pm_blind D b cs μ _, pm_pre hK hP⟩ rfl hn hsz hst (lv_room hW) hdg hcs) hS (fun _ _ h => h) (fun _ h => h) (fun r2 u t H1 locs1 ht hvm hw hB hz hk1 hS1 => ?_)
  have hw : va_rf r2 = jN b r := hw
  rw [hw]
  have hP1 := hB.1
  rw [ht] at hP1
  exact kk H1 locs1 hP1 hS1
theorem met_in {y : MethodName} {ws ws2 : List Cond} {rm : Room} {maxL : Nat} {ret : Option FieldType} {av : List Value} {Qc : Array Value → State → Outcome → State → Prop} {lv0 : List (Nat × Value)} (hy : plainFor y = true) (hw : ws = Cond.code y cc maxL ret :: ws2) (hsz : (lg_sl av).length ≤ maxL) (hv : lv_args 0 av = lv0)
    (body : ∀ p e s m args below meth c, p.tables.exec = Jvm.exec → c.code = cc → meth.sig.returnType = ret → meth.locks = false → c.maxLocals = maxL → s.vm.findClass y.cls = some m.cls → (∀ w ∈ ws, w.before args s = true) → va_P D vwCl (wl b cs μ) s.heap → va_K D vwCl (tyl cs) s → ∀ ls : Array Slot, lv_has ls maxL lv0 → W p l e rm s m args below meth c s.heap [] 0 0 (MQ below Qc args s 0 0 (bA b)) (F0 m 0 ls [])) : Met l y ws rm (PM D b cs μ av) Qc 0 0 (bA b) := by
  refine MetFree.of_bodySF (code := cc) (maxLocals := maxL) (ret := ret) hy ?_ ?_
  · intro args s m h hn
    obtain ⟨meth, c, h1, h2, h3, h4, h5, h6, -, -⟩ := Cond.code_spec hn (atoms_spec (ws := ws) h _ (by rw [hw]; exact List.mem_cons_self))
    exact ⟨meth, c, h1, h2, h3, h4, h5, h6⟩
  intro p e s m args below meth c s₁ B hml hv2 _
  have hh0 : s₁.heap = s.heap := by rw [B.state]; rfl
  obtain ⟨rfl, hP, hK⟩ := hv2
  have hl := lv_entry av (n := maxL) hsz
  rw [lg_entry_eq]
  rw [hv] at hl
  have key := body p e s m _ below meth c B.exec B.bytes B.returns B.notSynchronized hml (findClass_of_methodNamed B.named) (atoms_spec (ws := ws) B.pre) hP hK _ hl
  obtain ⟨t, a1, o, b1, b2, b3⟩ := key s₁ hh0 (Stand.of_body B)
  exact ⟨t, o, a1, b1, b2, ⟨b3.1, b3.2⟩⟩
theorem j_retI (hx : p.tables.exec = Jvm.exec) (hb : c.code = cc) (hK : va_K D vwCl (tyl cs) s) (hP : va_P D vwCl (wl b cs μ) H) (hS : va_S (bA b) s.heap H locs) {a r : Int} (hr : meth.sig.returnType = some .int) (hlk : meth.locks = false) (hA : a = r) (hdg : decode cc pc = .ok (.ireturn, 1)) : W p l e R s m args below meth c H locs 0 0 (MQ below (QI D b cs μ r) args s 0 0 (bA b)) (F0 m pc ls [jI a]) := by
  subst hA
  exact W.iret hx hb hr (fun t ht hW => ⟨⟨_, (), rfl, rfl, by rw [ht]; exact hP, va_K.moved hW.alike hK⟩, hS.F ht⟩) hS.2.2 hdg hlk
theorem j_retZ (hx : p.tables.exec = Jvm.exec) (hb : c.code = cc) (hK : va_K D vwCl (tyl cs) s) (hP : va_P D vwCl (wl b cs μ) H) (hS : va_S (bA b) s.heap H locs) {a r : Int} (hr : meth.sig.returnType = some .boolean) (hlk : meth.locks = false) (hz : a = 0 ∨ a = 1) (hA : a = r) (hdg : decode cc pc = .ok (.ireturn, 1)) : W p l e R s m args below meth c H locs 0 0 (MQ below (QI D b cs μ r) args s 0 0 (bA b)) (F0 m pc ls [jI a]) := by
  subst hA
  exact W.zret hx hb hr (by rcases hz with rfl | rfl <;> rfl) (fun t ht hW => ⟨⟨_, (), rfl, rfl, by rw [ht]; exact hP, va_K.moved hW.alike hK⟩, hS.F ht⟩) hS.2.2 hdg hlk
theorem j_retM (hx : p.tables.exec = Jvm.exec) (hb : c.code = cc) (hK : va_K D vwCl (tyl cs) s) (hP : va_P D vwCl (wl b cs μ) H) (hS : va_S (bA b) s.heap H locs) (hr : meth.sig.returnType = none) (hlk : meth.locks = false) (hdg : decode cc pc = .ok (.return_, 1)) : W p l e R s m args below meth c H locs 0 0 (MQ below (QM D b cs μ) args s 0 0 (bA b)) (F0 m pc ls []) :=
  W.vret hx hb hr (fun t ht hW => ⟨⟨(), rfl, trivial, by rw [ht]; exact hP, va_K.moved hW.alike hK⟩, hS.F ht⟩) hS.2.2 hdg hlk
theorem j_retN (hx : p.tables.exec = Jvm.exec) (hb : c.code = cc) (hK : va_K D vwCl (tyl cs) s) (hP : va_P D vwCl (wl b cs μ) H) (hS : va_S (bA b) s.heap H locs) {a r : Int} {cl : String} (hr : meth.sig.returnType = some (.object cl)) (hlk : meth.locks = false) (hA : a = r) (hdg : decode cc pc = .ok (.areturn, 1)) : W p l e R s m args below meth c H locs 0 0 (MQ below (QN D b cs μ r) args s 0 0 (bA b)) (F0 m pc ls [jN b a]) := by
  subst hA
  refine W.aret hx hb hr (Or.inl ⟨_, rfl⟩) (by unfold jN; split; exact Or.inl rfl; exact Or.inr ⟨_, rfl⟩) (fun t ht hW => ⟨⟨if a < 0 then none else some (b + a.toNat), (), ?_, ?_, by rw [ht]; exact hP, va_K.moved hW.alike hK⟩, hS.F ht⟩) hS.2.2 hdg hlk
  · unfold jN; split <;> rfl
  · show va_rf _ = _; unfold jN; split <;> rfl
theorem ob_I {α β : Type} {x : Option α} {k : α → Option β} {r : β} (h : Option.bind x k = some r) : ∃ v, x = some v ∧ k v = some r := Option.bind_eq_some_iff.mp h
def bP {β : Type} (x : Option (Int × Mm)) (k : Int → Mm → Option β) : Option β := match x with
  | none => none
  | some q => k q.1 q.2
theorem ob_P {β : Type} {x : Option (Int × Mm)} {k : Int → Mm → Option β} {r : β} (h : bP x k = some r) : ∃ v μ, x = some (v, μ) ∧ k v μ = some r := by
  cases x with
  | none => cases h
  | some q => exact ⟨q.1, q.2, rfl, h⟩
def gd {β : Type} (q : Bool) (k : Option β) : Option β := if q = true then k else none
theorem ob_g {β : Type} {q : Bool} {k : Option β} {r : β} (h : gd q k = some r) : q = true ∧ k = some r := by
  unfold gd at h
  split at h
  · exact ⟨by assumption, h⟩
  · cases h
theorem j_max (hx : p.tables.exec = Jvm.exec) (hb : c.code = cc) {nl : Nat} (hml : c.maxLocals = nl) (hsz : ls.size = nl) {own : String} {index : Nat} (hown : s.vm.findClass own = some m.cls) (hlink : (Cond.methodLink own index Lib.Math.max.name).before args s = true) (hstat : (Cond.static Lib.Math.max.name).before args s = true) (hini : (Cond.initialized "java/lang/Math").before args s = true) (hcode : (Cond.code Lib.Math.max.name Lib.Math.max.code 2 (some .int)).before args s = true) (hfr : 1 ≤ R.frames) (hlo : (rest.map fun v => v.category).sum + 13 ≤ R.locals) (hc : cells ≤ R.cells) (hs : slots ≤ R.slots) {a z : Int} (hdg : decode cc pc = .ok (.invokestatic index, 3)) (kk : W p l e R s m args below meth c H locs cells slots Q (F0 m (pc + 3) ls (jI (if wr a < wr z then z else a) :: rest))) : W p l e R s m args below meth c H locs cells slots Q (F0 m pc ls (jI z :: jI a :: rest)) := by
  refine va_mmax hx hb (hml.trans hsz.symm) hown hlink hstat hini hcode hfr hlo hc hs hdg ?_
  have e : (Value.int (if Int32.ofInt a < Int32.ofInt z then Int32.ofInt z else Int32.ofInt a)) = jI (if wr a < wr z then z else a) := by
    simp only [i32_lt]
    unfold jI
    split <;> rfl
  rw [e]
  exact kk
theorem j_min (hx : p.tables.exec = Jvm.exec) (hb : c.code = cc) {nl : Nat} (hml : c.maxLocals = nl) (hsz : ls.size = nl) {own : String} {index : Nat} (hown : s.vm.findClass own = some m.cls) (hlink : (Cond.methodLink own index Lib.Math.min.name).before args s = true) (hstat : (Cond.static Lib.Math.min.name).before args s = true) (hini : (Cond.initialized "java/lang/Math").before args s = true) (hcode : (Cond.code Lib.Math.min.name Lib.Math.min.code 2 (some .int)).before args s = true) (hfr : 1 ≤ R.frames) (hlo : (rest.map fun v => v.category).sum + 13 ≤ R.locals) (hc : cells ≤ R.cells) (hs : slots ≤ R.slots) {a z : Int} (hdg : decode cc pc = .ok (.invokestatic index, 3)) (kk : W p l e R s m args below meth c H locs cells slots Q (F0 m (pc + 3) ls (jI (if wr z < wr a then z else a) :: rest))) : W p l e R s m args below meth c H locs cells slots Q (F0 m pc ls (jI z :: jI a :: rest)) := by
  refine va_mmin hx hb (hml.trans hsz.symm) hown hlink hstat hini hcode hfr hlo hc hs hdg ?_
  have e : (Value.int (if Int32.ofInt z < Int32.ofInt a then Int32.ofInt z else Int32.ofInt a)) = jI (if wr z < wr a then z else a) := by
    simp only [i32_lt]
    unfold jI
    split <;> rfl
  rw [e]
  exact kk
theorem j_abs (hx : p.tables.exec = Jvm.exec) (hb : c.code = cc) {nl : Nat} (hml : c.maxLocals = nl) (hsz : ls.size = nl) {own : String} {index : Nat} (hown : s.vm.findClass own = some m.cls) (hlink : (Cond.methodLink own index Lib.Math.abs.name).before args s = true) (hstat : (Cond.static Lib.Math.abs.name).before args s = true) (hini : (Cond.initialized "java/lang/Math").before args s = true) (hcode : (Cond.code Lib.Math.abs.name Lib.Math.abs.code 1 (some .int)).before args s = true) (hfr : 1 ≤ R.frames) (hlo : (rest.map fun v => v.category).sum + 13 ≤ R.locals) (hc : cells ≤ R.cells) (hs : slots ≤ R.slots) {a : Int} (hdg : decode cc pc = .ok (.invokestatic index, 3)) (kk : W p l e R s m args below meth c H locs cells slots Q (F0 m (pc + 3) ls (jI (if 0 ≤ wr a then a else 0 - a) :: rest))) : W p l e R s m args below meth c H locs cells slots Q (F0 m pc ls (jI a :: rest)) := by
  refine va_mabs hx hb (hml.trans hsz.symm) hown hlink hstat hini hcode hfr hlo hc hs hdg ?_
  have e : (Value.int (if 0 ≤ Int32.ofInt a then Int32.ofInt a else 0 - Int32.ofInt a)) = jI (if 0 ≤ wr a then a else 0 - a) := by
    simp only [(i32_rel0 (a := a) rfl).2.2.2.1]
    unfold jI
    split
    · rfl
    · rw [Int32.ofInt_sub, ← i32_0]
  rw [e]
  exact kk
theorem jL_g (μ : Mm) (a k : Nat) : jL (gI μ a k) = .long (μ a k).toInt64 := by
  unfold jL gI
  congr 1
theorem jL_w {e : Int} (h : -2147483648 ≤ e ∧ e < 2147483648) : jL e = .long (Int32.ofInt e).toInt64 := by
  unfold jL
  congr 1
  apply Int64.toInt_inj.mp
  rw [Int32.toInt_toInt64, wL_eq, wr_eq, wr_id h.1 h.2]
  exact wL_id (by omega) (by omega)
theorem o32_nat {t : Nat} (h : t < 346) : (Int32.ofInt (t : Int)).toInt.toNat = t := by
  rw [wr_eq, wr_id (by omega) (by omega), Int.toNat_natCast]
theorem set_J6 {b a : Nat} {g : Nat → Int32} {e : Int} (h : -2147483648 ≤ e ∧ e < 2147483648) : (flds b 6 a g).set 8 (jL e) = flds b 6 a (upd g 8 (Int32.ofInt e)) := by
  rw [jL_w h]; rfl
theorem set_J1 {b a : Nat} {g : Nat → Int32} {e : Int} (h : -2147483648 ≤ e ∧ e < 2147483648) : (flds b 1 a g).set 1 (jL e) = flds b 1 a (upd g 1 (Int32.ofInt e)) := by
  rw [jL_w h]; rfl
theorem set_T6 {b a t : Nat} {g : Nat → Int32} (h : t < 346) : (flds b 6 a g).set 6 (jR b t) = flds b 6 a (upd g 6 (Int32.ofInt (t : Int))) := by
  have e : jR b t = .ref (b + (Int32.ofInt (t : Int)).toInt.toNat) := by rw [o32_nat h]; rfl
  rw [e]; rfl
theorem set_T7 {b a t : Nat} {g : Nat → Int32} (h : t < 346) : (flds b 6 a g).set 7 (jR b t) = flds b 6 a (upd g 7 (Int32.ofInt (t : Int))) := by
  have e : jR b t = .ref (b + (Int32.ofInt (t : Int)).toInt.toNat) := by rw [o32_nat h]; rfl
  rw [e]; rfl
theorem j_ldcw (hx : p.tables.exec = Jvm.exec) (hb : c.code = cc) {own : String} {index : Nat} {v : Int32} {n : Int} (hown : s.vm.findClass own = some m.cls) (hc : (Jvm.Cond.constant own index v).before args s = true) (hv : v = Int32.ofInt n) (hdg : decode cc pc = .ok (.ldc_w index, 3)) (k : W p l e R s m args below meth c H locs cells slots Q (F0 m (pc + 3) ls (jI n :: rest))) : W p l e R s m args below meth c H locs cells slots Q (F0 m pc ls rest) := lv_ldcw hx hb hown hc hdg (by rw [hv]; exact k)
theorem kdW {a : Nat} (h : kd a = 5) : kd (a + 1) = 1008 ∧ kd (a + 2) = 1008 ∧ kd (a + 3) = 1008 ∧ kd (a + 4) = 1008 ∧ kd (a + 5) = 1008 ∧ kd (a + 6) = 1008 ∧ kd (a + 7) = 1008 ∧ kd (a + 8) = 1192 := by
  have key : ∀ x, x < 346 → kd x = 5 → kd (x + 1) = 1008 ∧ kd (x + 2) = 1008 ∧ kd (x + 3) = 1008 ∧ kd (x + 4) = 1008 ∧ kd (x + 5) = 1008 ∧ kd (x + 6) = 1008 ∧ kd (x + 7) = 1008 ∧ kd (x + 8) = 1192 := by decide +kernel
  exact key a (kd_lt (by omega)) h
theorem kdT {a : Nat} (h : kd a = 4) : kd (a + 1) = 1032 ∧ kd (a + 2) = 1008 ∧ kd (a + 3) = 1008 ∧ kd (a + 4) = 1004 ∧ kd (a + 5) = 1008 := by
  have key : ∀ x, x < 346 → kd x = 4 → kd (x + 1) = 1032 ∧ kd (x + 2) = 1008 ∧ kd (x + 3) = 1008 ∧ kd (x + 4) = 1004 ∧ kd (x + 5) = 1008 := by decide +kernel
  exact key a (kd_lt (by omega)) h
theorem kX7_1 {a : Nat} (h : kd a = 5) : kd (a + 1) = 1008 := (kdW h).1
theorem kX7_2 {a : Nat} (h : kd a = 5) : kd (a + 2) = 1008 := (kdW h).2.1
theorem kX7_3 {a : Nat} (h : kd a = 5) : kd (a + 3) = 1008 := (kdW h).2.2.1
theorem kX7_4 {a : Nat} (h : kd a = 5) : kd (a + 4) = 1008 := (kdW h).2.2.2.1
theorem kX7_5 {a : Nat} (h : kd a = 5) : kd (a + 5) = 1008 := (kdW h).2.2.2.2.1
theorem kX7_6 {a : Nat} (h : kd a = 5) : kd (a + 6) = 1008 := (kdW h).2.2.2.2.2.1
theorem kX7_7 {a : Nat} (h : kd a = 5) : kd (a + 7) = 1008 := (kdW h).2.2.2.2.2.2.1
theorem kX7_8 {a : Nat} (h : kd a = 5) : kd (a + 8) = 1192 := (kdW h).2.2.2.2.2.2.2
theorem kX5_1 {a : Nat} (h : kd a = 4) : kd (a + 1) = 1032 := (kdT h).1
theorem kX5_2 {a : Nat} (h : kd a = 4) : kd (a + 2) = 1008 := (kdT h).2.1
theorem kX5_3 {a : Nat} (h : kd a = 4) : kd (a + 3) = 1008 := (kdT h).2.2.1
theorem kX5_4 {a : Nat} (h : kd a = 4) : kd (a + 4) = 1004 := (kdT h).2.2.2.1
theorem kX5_5 {a : Nat} (h : kd a = 4) : kd (a + 5) = 1008 := (kdT h).2.2.2.2
theorem kz_0 : kd 0 = 6 := by decide +kernel
theorem kz_1 : kd 1 = 3 := by decide +kernel
theorem kz_2 : kd 2 = 1240 := by decide +kernel
theorem kz_3 : kd 3 = 5 := by decide +kernel
theorem kz_4 : kd 4 = 1008 := by decide +kernel
theorem kz_5 : kd 5 = 1008 := by decide +kernel
theorem kz_6 : kd 6 = 1008 := by decide +kernel
theorem kz_7 : kd 7 = 1008 := by decide +kernel
theorem kz_8 : kd 8 = 1008 := by decide +kernel
theorem kz_9 : kd 9 = 1008 := by decide +kernel
theorem kz_10 : kd 10 = 1008 := by decide +kernel
theorem kz_11 : kd 11 = 1192 := by decide +kernel
theorem kz_12 : kd 12 = 5 := by decide +kernel
theorem kz_13 : kd 13 = 1008 := by decide +kernel
theorem kz_14 : kd 14 = 1008 := by decide +kernel
theorem kz_15 : kd 15 = 1008 := by decide +kernel
theorem kz_16 : kd 16 = 1008 := by decide +kernel
theorem kz_17 : kd 17 = 1008 := by decide +kernel
theorem kz_18 : kd 18 = 1008 := by decide +kernel
theorem kz_19 : kd 19 = 1008 := by decide +kernel
theorem kz_20 : kd 20 = 1192 := by decide +kernel
theorem kz_21 : kd 21 = 0 := by decide +kernel
theorem kz_22 : kd 22 = 51 := by decide +kernel
theorem kz_293 : kd 293 = 2 := by decide +kernel
theorem kz_294 : kd 294 = 1008 := by decide +kernel
theorem kz_295 : kd 295 = 1008 := by decide +kernel
theorem kz_296 : kd 296 = 1008 := by decide +kernel
theorem kz_297 : kd 297 = 1020 := by decide +kernel
theorem kz_298 : kd 298 = 1020 := by decide +kernel
theorem kz_299 : kd 299 = 52 := by decide +kernel
theorem kz_300 : kd 300 = 4 := by decide +kernel
theorem kz_301 : kd 301 = 1032 := by decide +kernel
theorem kz_302 : kd 302 = 1008 := by decide +kernel
theorem kz_303 : kd 303 = 1008 := by decide +kernel
theorem kz_304 : kd 304 = 1004 := by decide +kernel
theorem kz_305 : kd 305 = 1008 := by decide +kernel
theorem kz_306 : kd 306 = 4 := by decide +kernel
theorem kz_307 : kd 307 = 1032 := by decide +kernel
theorem kz_308 : kd 308 = 1008 := by decide +kernel
theorem kz_309 : kd 309 = 1008 := by decide +kernel
theorem kz_310 : kd 310 = 1004 := by decide +kernel
theorem kz_311 : kd 311 = 1008 := by decide +kernel
theorem kz_312 : kd 312 = 1 := by decide +kernel
theorem kz_313 : kd 313 = 5 := by decide +kernel
theorem kz_314 : kd 314 = 1008 := by decide +kernel
theorem kz_315 : kd 315 = 1008 := by decide +kernel
theorem kz_316 : kd 316 = 1008 := by decide +kernel
theorem kz_317 : kd 317 = 1008 := by decide +kernel
theorem kz_318 : kd 318 = 1008 := by decide +kernel
theorem kz_319 : kd 319 = 1008 := by decide +kernel
theorem kz_320 : kd 320 = 1008 := by decide +kernel
theorem kz_321 : kd 321 = 1192 := by decide +kernel
theorem kz_322 : kd 322 = 1 := by decide +kernel
theorem kz_323 : kd 323 = 5 := by decide +kernel
theorem kz_324 : kd 324 = 1008 := by decide +kernel
theorem kz_325 : kd 325 = 1008 := by decide +kernel
theorem kz_326 : kd 326 = 1008 := by decide +kernel
theorem kz_327 : kd 327 = 1008 := by decide +kernel
theorem kz_328 : kd 328 = 1008 := by decide +kernel
theorem kz_329 : kd 329 = 1008 := by decide +kernel
theorem kz_330 : kd 330 = 1008 := by decide +kernel
theorem kz_331 : kd 331 = 1192 := by decide +kernel
theorem kz_332 : kd 332 = 7 := by decide +kernel
theorem kz_333 : kd 333 = 9262 := by decide +kernel
theorem kz_334 : kd 334 = 50 := by decide +kernel
theorem kz_335 : kd 335 = 1064 := by decide +kernel
theorem kz_336 : kd 336 = 1016 := by decide +kernel
theorem kz_337 : kd 337 = 1008 := by decide +kernel
theorem kz_338 : kd 338 = 1008 := by decide +kernel
theorem kz_339 : kd 339 = 1240 := by decide +kernel
theorem kz_340 : kd 340 = 1020 := by decide +kernel
theorem kz_341 : kd 341 = 1008 := by decide +kernel
theorem kz_342 : kd 342 = 1008 := by decide +kernel
theorem kz_343 : kd 343 = 1008 := by decide +kernel
theorem kz_344 : kd 344 = 1020 := by decide +kernel
theorem kz_345 : kd 345 = 1020 := by decide +kernel
theorem look_3 {A d o1 o2 o3 : Int} {k1 k2 k3 : Int} (h1 : ¬ A = k1) (h2 : ¬ A = k2) (h3 : ¬ A = k3) : Op.lookupswitch.offset [(k1, o1), (k2, o2), (k3, o3)] d A = d := by
  simp [Op.lookupswitch.offset, Ne.symm h1, Ne.symm h2, Ne.symm h3]
theorem look_4 {A d o1 o2 o3 o4 : Int} {k1 k2 k3 k4 : Int} (h1 : ¬ A = k1) (h2 : ¬ A = k2) (h3 : ¬ A = k3) (h4 : ¬ A = k4) : Op.lookupswitch.offset [(k1, o1), (k2, o2), (k3, o3), (k4, o4)] d A = d := by
  simp [Op.lookupswitch.offset, Ne.symm h1, Ne.symm h2, Ne.symm h3, Ne.symm h4]
end JROWS