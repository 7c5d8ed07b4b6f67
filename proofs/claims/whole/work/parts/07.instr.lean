/-! the rows, one an instruction (printed by wip/whole/gen_instr.py) -/
section SGI
variable {p : Program} {l : Launch} {e : Env} {R : Room} {s : State} {m : MethodId} {args : Array Value} {below : List Frame} {meth : Method} {c : Code} {Q : State → Prop} {cc : ByteArray} {nL bs n0 s0 : Nat} {dA : Nat → ClassId} {ax : Nat → Nat} {D : va_G}
variable {pc : Nat} {ls : List (Option av)} {st : List av} {h : ag_H}
theorem sg_iconst (hx : p.tables.exec = Jvm.exec) (hb : c.code = cc) {z : Int} (hd : decode cc pc = .ok (.iconst z, 1)) (k : sg_J p l e R s m args below meth c Q nL bs n0 s0 dA ax D (pc + 1, ls, vI z :: st, h)) : sg_J p l e R s m args below meth c Q nL bs n0 s0 dA ax D (pc, ls, st, h) := by
  intro H locs rl cells slots hP hz hS hL hc hs
  refine lv_iconst (v := Int32.ofInt z) hx hb hd rfl ?_
  exact k H locs rl cells slots hP hz hS hL hc hs
theorem sg_bipush (hx : p.tables.exec = Jvm.exec) (hb : c.code = cc) {z : Int} (hz2 : (Int8.ofInt z).toInt32 = Int32.ofInt z) (hd : decode cc pc = .ok (.bipush z, 2)) (k : sg_J p l e R s m args below meth c Q nL bs n0 s0 dA ax D (pc + 2, ls, vI z :: st, h)) : sg_J p l e R s m args below meth c Q nL bs n0 s0 dA ax D (pc, ls, st, h) := by
  intro H locs rl cells slots hP hz hS hL hc hs
  refine lv_bipush (v := Int32.ofInt z) hx hb hd hz2 ?_
  exact k H locs rl cells slots hP hz hS hL hc hs
theorem sg_sipush (hx : p.tables.exec = Jvm.exec) (hb : c.code = cc) {z : Int} (hz2 : (Int16.ofInt z).toInt32 = Int32.ofInt z) (hd : decode cc pc = .ok (.sipush z, 3)) (k : sg_J p l e R s m args below meth c Q nL bs n0 s0 dA ax D (pc + 3, ls, vI z :: st, h)) : sg_J p l e R s m args below meth c Q nL bs n0 s0 dA ax D (pc, ls, st, h) := by
  intro H locs rl cells slots hP hz hS hL hc hs
  refine lv_sipush (v := Int32.ofInt z) hx hb hd hz2 ?_
  exact k H locs rl cells slots hP hz hS hL hc hs
theorem sg_lconst0 (hx : p.tables.exec = Jvm.exec) (hb : c.code = cc)  (hd : decode cc pc = .ok (.lconst 0, 1)) (k : sg_J p l e R s m args below meth c Q nL bs n0 s0 dA ax D (pc + 1, ls, vJ 0 :: st, h)) : sg_J p l e R s m args below meth c Q nL bs n0 s0 dA ax D (pc, ls, st, h) := by
  intro H locs rl cells slots hP hz hS hL hc hs
  refine lv_lconst (v := Int64.ofInt 0) hx hb hd rfl ?_
  exact k H locs rl cells slots hP hz hS hL hc hs
theorem sg_lconst1 (hx : p.tables.exec = Jvm.exec) (hb : c.code = cc)  (hd : decode cc pc = .ok (.lconst 1, 1)) (k : sg_J p l e R s m args below meth c Q nL bs n0 s0 dA ax D (pc + 1, ls, vJ 1 :: st, h)) : sg_J p l e R s m args below meth c Q nL bs n0 s0 dA ax D (pc, ls, st, h) := by
  intro H locs rl cells slots hP hz hS hL hc hs
  refine lv_lconst (v := Int64.ofInt 1) hx hb hd rfl ?_
  exact k H locs rl cells slots hP hz hS hL hc hs
theorem sg_fconst0 (hx : p.tables.exec = Jvm.exec) (hb : c.code = cc)  (hd : decode cc pc = .ok (.fconst 0, 1)) (k : sg_J p l e R s m args below meth c Q nL bs n0 s0 dA ax D (pc + 1, ls, vF FP.fconst0 :: st, h)) : sg_J p l e R s m args below meth c Q nL bs n0 s0 dA ax D (pc, ls, st, h) := by
  intro H locs rl cells slots hP hz hS hL hc hs
  refine lv_fconst0 hx hb hd ?_
  exact k H locs rl cells slots hP hz hS hL hc hs
theorem sg_fconst1 (hx : p.tables.exec = Jvm.exec) (hb : c.code = cc)  (hd : decode cc pc = .ok (.fconst 1, 1)) (k : sg_J p l e R s m args below meth c Q nL bs n0 s0 dA ax D (pc + 1, ls, vF FP.fconst1 :: st, h)) : sg_J p l e R s m args below meth c Q nL bs n0 s0 dA ax D (pc, ls, st, h) := by
  intro H locs rl cells slots hP hz hS hL hc hs
  refine lv_fconst1 hx hb hd ?_
  exact k H locs rl cells slots hP hz hS hL hc hs
theorem sg_fconst2 (hx : p.tables.exec = Jvm.exec) (hb : c.code = cc)  (hd : decode cc pc = .ok (.fconst 2, 1)) (k : sg_J p l e R s m args below meth c Q nL bs n0 s0 dA ax D (pc + 1, ls, vF FP.fconst2 :: st, h)) : sg_J p l e R s m args below meth c Q nL bs n0 s0 dA ax D (pc, ls, st, h) := by
  intro H locs rl cells slots hP hz hS hL hc hs
  refine lv_fconst2 hx hb hd ?_
  exact k H locs rl cells slots hP hz hS hL hc hs
theorem sg_aconst_null (hx : p.tables.exec = Jvm.exec) (hb : c.code = cc)  (hd : decode cc pc = .ok (.aconst_null, 1)) (k : sg_J p l e R s m args below meth c Q nL bs n0 s0 dA ax D (pc + 1, ls, vR none :: st, h)) : sg_J p l e R s m args below meth c Q nL bs n0 s0 dA ax D (pc, ls, st, h) := by
  intro H locs rl cells slots hP hz hS hL hc hs
  refine lv_null hx hb hd ?_
  exact k H locs rl cells slots hP hz hS hL hc hs
theorem sg_iload (hx : p.tables.exec = Jvm.exec) (hb : c.code = cc) {i : Nat} {a : Int} (hi : ls[i]? = some (some (vI a))) (hd : decode cc pc = .ok (.iload i, 2)) (k : sg_J p l e R s m args below meth c Q nL bs n0 s0 dA ax D (pc + 2, ls, vI a :: st, h)) : sg_J p l e R s m args below meth c Q nL bs n0 s0 dA ax D (pc, ls, st, h) := by
  intro H locs rl cells slots hP hz hS hL hc hs
  refine lv_iload hx hb hd (hL.get hi) ?_
  exact k H locs rl cells slots hP hz hS hL hc hs
theorem sg_iload_n (hx : p.tables.exec = Jvm.exec) (hb : c.code = cc) {i : Fin 4} {a : Int} (hi : ls[i.val]? = some (some (vI a))) (hd : decode cc pc = .ok (.iload_n i, 1)) (k : sg_J p l e R s m args below meth c Q nL bs n0 s0 dA ax D (pc + 1, ls, vI a :: st, h)) : sg_J p l e R s m args below meth c Q nL bs n0 s0 dA ax D (pc, ls, st, h) := by
  intro H locs rl cells slots hP hz hS hL hc hs
  refine lv_iload_n hx hb hd rfl (hL.get hi) ?_
  exact k H locs rl cells slots hP hz hS hL hc hs
theorem sg_lload_n (hx : p.tables.exec = Jvm.exec) (hb : c.code = cc) {i : Fin 4} {a : Int} (hi : ls[i.val]? = some (some (vJ a))) (hd : decode cc pc = .ok (.lload_n i, 1)) (k : sg_J p l e R s m args below meth c Q nL bs n0 s0 dA ax D (pc + 1, ls, vJ a :: st, h)) : sg_J p l e R s m args below meth c Q nL bs n0 s0 dA ax D (pc, ls, st, h) := by
  intro H locs rl cells slots hP hz hS hL hc hs
  refine lv_lload_n hx hb hd rfl (hL.get hi) ?_
  exact k H locs rl cells slots hP hz hS hL hc hs
theorem sg_fload_n (hx : p.tables.exec = Jvm.exec) (hb : c.code = cc) {i : Fin 4} {a : UInt32} (hi : ls[i.val]? = some (some (vF a))) (hd : decode cc pc = .ok (.fload_n i, 1)) (k : sg_J p l e R s m args below meth c Q nL bs n0 s0 dA ax D (pc + 1, ls, vF a :: st, h)) : sg_J p l e R s m args below meth c Q nL bs n0 s0 dA ax D (pc, ls, st, h) := by
  intro H locs rl cells slots hP hz hS hL hc hs
  refine lv_fload_n hx hb hd rfl (hL.get hi) ?_
  exact k H locs rl cells slots hP hz hS hL hc hs
theorem sg_aload_nR (hx : p.tables.exec = Jvm.exec) (hb : c.code = cc) {i : Fin 4} {a : Nat} (hi : ls[i.val]? = some (some (vA a))) (hd : decode cc pc = .ok (.aload_n i, 1)) (k : sg_J p l e R s m args below meth c Q nL bs n0 s0 dA ax D (pc + 1, ls, vA a :: st, h)) : sg_J p l e R s m args below meth c Q nL bs n0 s0 dA ax D (pc, ls, st, h) := by
  intro H locs rl cells slots hP hz hS hL hc hs
  refine lv_aload_n hx hb hd rfl (hL.get hi) ?_
  exact k H locs rl cells slots hP hz hS hL hc hs
theorem sg_aload_nX (hx : p.tables.exec = Jvm.exec) (hb : c.code = cc) {i : Fin 4} {a : Nat} (hi : ls[i.val]? = some (some (vX a))) (hd : decode cc pc = .ok (.aload_n i, 1)) (k : sg_J p l e R s m args below meth c Q nL bs n0 s0 dA ax D (pc + 1, ls, vX a :: st, h)) : sg_J p l e R s m args below meth c Q nL bs n0 s0 dA ax D (pc, ls, st, h) := by
  intro H locs rl cells slots hP hz hS hL hc hs
  refine lv_aload_n hx hb hd rfl (hL.get hi) ?_
  exact k H locs rl cells slots hP hz hS hL hc hs
theorem sg_aload_nN (hx : p.tables.exec = Jvm.exec) (hb : c.code = cc) {i : Fin 4} (hi : ls[i.val]? = some (some (vR none))) (hd : decode cc pc = .ok (.aload_n i, 1)) (k : sg_J p l e R s m args below meth c Q nL bs n0 s0 dA ax D (pc + 1, ls, vR none :: st, h)) : sg_J p l e R s m args below meth c Q nL bs n0 s0 dA ax D (pc, ls, st, h) := by
  intro H locs rl cells slots hP hz hS hL hc hs
  refine lv_aload_nN hx hb hd rfl (hL.get hi) ?_
  exact k H locs rl cells slots hP hz hS hL hc hs
theorem sg_istore (hx : p.tables.exec = Jvm.exec) (hb : c.code = cc) {i : Nat} {a : Int} (hi : i < ls.length) (hd : decode cc pc = .ok (.istore i, 2)) (k : sg_J p l e R s m args below meth c Q nL bs n0 s0 dA ax D (pc + 2, ag_st ls i (vI a), st, h)) : sg_J p l e R s m args below meth c Q nL bs n0 s0 dA ax D (pc, ls, vI a :: st, h) := by
  intro H locs rl cells slots hP hz hS hL hc hs
  refine lv_istore hx hb hd hL.1 (by rw [← hL.2]; exact hi) rfl (fun rl' h' => ?_)
  exact k H locs rl' cells slots hP hz hS (sg_L.put1 (ls := ls) (i := i) (v := vI a) hL rfl rfl h') hc hs
theorem sg_istore_n (hx : p.tables.exec = Jvm.exec) (hb : c.code = cc) {i : Fin 4} {a : Int} (hi : i.val < ls.length) (hd : decode cc pc = .ok (.istore_n i, 1)) (k : sg_J p l e R s m args below meth c Q nL bs n0 s0 dA ax D (pc + 1, ag_st ls i.val (vI a), st, h)) : sg_J p l e R s m args below meth c Q nL bs n0 s0 dA ax D (pc, ls, vI a :: st, h) := by
  intro H locs rl cells slots hP hz hS hL hc hs
  refine lv_istore_n hx hb hd rfl hL.1 (by rw [← hL.2]; exact hi) rfl (fun rl' h' => ?_)
  exact k H locs rl' cells slots hP hz hS (sg_L.put1 (ls := ls) (i := i.val) (v := vI a) hL rfl rfl h') hc hs
theorem sg_fstore_n (hx : p.tables.exec = Jvm.exec) (hb : c.code = cc) {i : Fin 4} {a : UInt32} (hi : i.val < ls.length) (hd : decode cc pc = .ok (.fstore_n i, 1)) (k : sg_J p l e R s m args below meth c Q nL bs n0 s0 dA ax D (pc + 1, ag_st ls i.val (vF a), st, h)) : sg_J p l e R s m args below meth c Q nL bs n0 s0 dA ax D (pc, ls, vF a :: st, h) := by
  intro H locs rl cells slots hP hz hS hL hc hs
  refine lv_fstore_n hx hb hd rfl hL.1 (by rw [← hL.2]; exact hi) rfl (fun rl' h' => ?_)
  exact k H locs rl' cells slots hP hz hS (sg_L.put1 (ls := ls) (i := i.val) (v := vF a) hL rfl rfl h') hc hs
theorem sg_astore_nR (hx : p.tables.exec = Jvm.exec) (hb : c.code = cc) {i : Fin 4} {a : Nat} (hi : i.val < ls.length) (hd : decode cc pc = .ok (.astore_n i, 1)) (k : sg_J p l e R s m args below meth c Q nL bs n0 s0 dA ax D (pc + 1, ag_st ls i.val (vA a), st, h)) : sg_J p l e R s m args below meth c Q nL bs n0 s0 dA ax D (pc, ls, vA a :: st, h) := by
  intro H locs rl cells slots hP hz hS hL hc hs
  refine lv_astore_n hx hb hd rfl hL.1 (by rw [← hL.2]; exact hi) rfl (fun rl' h' => ?_)
  exact k H locs rl' cells slots hP hz hS (sg_L.put1 (ls := ls) (i := i.val) (v := vA a) hL rfl rfl h') hc hs
theorem sg_astore_nN (hx : p.tables.exec = Jvm.exec) (hb : c.code = cc) {i : Fin 4} (hi : i.val < ls.length) (hd : decode cc pc = .ok (.astore_n i, 1)) (k : sg_J p l e R s m args below meth c Q nL bs n0 s0 dA ax D (pc + 1, ag_st ls i.val (vR none), st, h)) : sg_J p l e R s m args below meth c Q nL bs n0 s0 dA ax D (pc, ls, vR none :: st, h) := by
  intro H locs rl cells slots hP hz hS hL hc hs
  refine lv_astore_nN hx hb hd rfl hL.1 (by rw [← hL.2]; exact hi) rfl (fun rl' h' => ?_)
  exact k H locs rl' cells slots hP hz hS (sg_L.put1 (ls := ls) (i := i.val) (v := vR none) hL rfl rfl h') hc hs
theorem sg_lstore_n (hx : p.tables.exec = Jvm.exec) (hb : c.code = cc) {i : Fin 4} {a : Int} (hi : i.val + 1 < ls.length) (hd : decode cc pc = .ok (.lstore_n i, 1)) (k : sg_J p l e R s m args below meth c Q nL bs n0 s0 dA ax D (pc + 1, ag_st ls i.val (vJ a), st, h)) : sg_J p l e R s m args below meth c Q nL bs n0 s0 dA ax D (pc, ls, vJ a :: st, h) := by
  intro H locs rl cells slots hP hz hS hL hc hs
  refine lv_lstore_n hx hb hd rfl hL.1 (by rw [← hL.2]; exact hi) rfl (fun rl' h' => ?_)
  exact k H locs rl' cells slots hP hz hS (sg_L.put2 (ls := ls) (i := i.val) (v := vJ a) hL rfl rfl h') hc hs
theorem sg_iadd (hx : p.tables.exec = Jvm.exec) (hb : c.code = cc) {a b : Int} (hd : decode cc pc = .ok (.iadd, 1)) (k : sg_J p l e R s m args below meth c Q nL bs n0 s0 dA ax D (pc + 1, ls, vI (a + b) :: st, h)) : sg_J p l e R s m args below meth c Q nL bs n0 s0 dA ax D (pc, ls, vI b :: vI a :: st, h) := by
  intro H locs rl cells slots hP hz hS hL hc hs
  refine lv_iadd hx hb hd ?_
  rw [← Int32.ofInt_add]
  exact k H locs rl cells slots hP hz hS hL hc hs
theorem sg_isub (hx : p.tables.exec = Jvm.exec) (hb : c.code = cc) {a b : Int} (hd : decode cc pc = .ok (.isub, 1)) (k : sg_J p l e R s m args below meth c Q nL bs n0 s0 dA ax D (pc + 1, ls, vI (a - b) :: st, h)) : sg_J p l e R s m args below meth c Q nL bs n0 s0 dA ax D (pc, ls, vI b :: vI a :: st, h) := by
  intro H locs rl cells slots hP hz hS hL hc hs
  refine lv_isub hx hb hd ?_
  rw [← Int32.ofInt_sub]
  exact k H locs rl cells slots hP hz hS hL hc hs
theorem sg_imul (hx : p.tables.exec = Jvm.exec) (hb : c.code = cc) {a b : Int} (hd : decode cc pc = .ok (.imul, 1)) (k : sg_J p l e R s m args below meth c Q nL bs n0 s0 dA ax D (pc + 1, ls, vI (a * b) :: st, h)) : sg_J p l e R s m args below meth c Q nL bs n0 s0 dA ax D (pc, ls, vI b :: vI a :: st, h) := by
  intro H locs rl cells slots hP hz hS hL hc hs
  refine lv_imul hx hb hd ?_
  rw [← Int32.ofInt_mul]
  exact k H locs rl cells slots hP hz hS hL hc hs
theorem sg_ladd (hx : p.tables.exec = Jvm.exec) (hb : c.code = cc) {a b : Int} (hd : decode cc pc = .ok (.ladd, 1)) (k : sg_J p l e R s m args below meth c Q nL bs n0 s0 dA ax D (pc + 1, ls, vJ (a + b) :: st, h)) : sg_J p l e R s m args below meth c Q nL bs n0 s0 dA ax D (pc, ls, vJ b :: vJ a :: st, h) := by
  intro H locs rl cells slots hP hz hS hL hc hs
  refine lv_ladd hx hb hd ?_
  rw [← Int64.ofInt_add]
  exact k H locs rl cells slots hP hz hS hL hc hs
theorem sg_lmul (hx : p.tables.exec = Jvm.exec) (hb : c.code = cc) {a b : Int} (hd : decode cc pc = .ok (.lmul, 1)) (k : sg_J p l e R s m args below meth c Q nL bs n0 s0 dA ax D (pc + 1, ls, vJ (a * b) :: st, h)) : sg_J p l e R s m args below meth c Q nL bs n0 s0 dA ax D (pc, ls, vJ b :: vJ a :: st, h) := by
  intro H locs rl cells slots hP hz hS hL hc hs
  refine lv_lmul hx hb hd ?_
  rw [← Int64.ofInt_mul]
  exact k H locs rl cells slots hP hz hS hL hc hs
theorem sg_idiv (hx : p.tables.exec = Jvm.exec) (hb : c.code = cc) {a b : Int} (h0 : 0 ≤ a) (h1 : ag_in a) (h2 : 0 < b) (h3 : ag_in b) (hd : decode cc pc = .ok (.idiv, 1)) (k : sg_J p l e R s m args below meth c Q nL bs n0 s0 dA ax D (pc + 1, ls, vI (a / b) :: st, h)) : sg_J p l e R s m args below meth c Q nL bs n0 s0 dA ax D (pc, ls, vI b :: vI a :: st, h) := by
  intro H locs rl cells slots hP hz hS hL hc hs
  refine lv_idiv hx hb hd (sg_nz h2 h3) ?_
  rw [sg_div h0 h1 h2 h3]
  exact k H locs rl cells slots hP hz hS hL hc hs
theorem sg_irem (hx : p.tables.exec = Jvm.exec) (hb : c.code = cc) {a b : Int} (h0 : 0 ≤ a) (h1 : ag_in a) (h2 : 0 < b) (h3 : ag_in b) (hd : decode cc pc = .ok (.irem, 1)) (k : sg_J p l e R s m args below meth c Q nL bs n0 s0 dA ax D (pc + 1, ls, vI (a % b) :: st, h)) : sg_J p l e R s m args below meth c Q nL bs n0 s0 dA ax D (pc, ls, vI b :: vI a :: st, h) := by
  intro H locs rl cells slots hP hz hS hL hc hs
  refine lv_irem hx hb hd (sg_nz h2 h3) ?_
  rw [sg_rem h0 h1 h2 h3]
  exact k H locs rl cells slots hP hz hS hL hc hs
theorem sg_iand (hx : p.tables.exec = Jvm.exec) (hb : c.code = cc) {a : Int} (hd : decode cc pc = .ok (.iand, 1)) (k : sg_J p l e R s m args below meth c Q nL bs n0 s0 dA ax D (pc + 1, ls, vI (a % 32) :: st, h)) : sg_J p l e R s m args below meth c Q nL bs n0 s0 dA ax D (pc, ls, vI 31 :: vI a :: st, h) := by
  intro H locs rl cells slots hP hz hS hL hc hs
  refine lv_iand hx hb hd ?_
  rw [sg_and]
  exact k H locs rl cells slots hP hz hS hL hc hs
theorem sg_ior (hx : p.tables.exec = Jvm.exec) (hb : c.code = cc) {a b : Int} (h0 : 0 ≤ a) (h1 : 0 ≤ b) (hd : decode cc pc = .ok (.ior, 1)) (k : sg_J p l e R s m args below meth c Q nL bs n0 s0 dA ax D (pc + 1, ls, vI ((a.toNat ||| b.toNat : Nat) : Int) :: st, h)) : sg_J p l e R s m args below meth c Q nL bs n0 s0 dA ax D (pc, ls, vI b :: vI a :: st, h) := by
  intro H locs rl cells slots hP hz hS hL hc hs
  refine lv_ior hx hb hd ?_
  rw [sg_or h0 h1]
  exact k H locs rl cells slots hP hz hS hL hc hs
theorem sg_ishl (hx : p.tables.exec = Jvm.exec) (hb : c.code = cc) {a b : Int} (h0 : 0 ≤ a) (h1 : 0 ≤ b) (h2 : b < 31) (hd : decode cc pc = .ok (.ishl, 1)) (k : sg_J p l e R s m args below meth c Q nL bs n0 s0 dA ax D (pc + 1, ls, vI (a * (2 ^ b.toNat : Nat)) :: st, h)) : sg_J p l e R s m args below meth c Q nL bs n0 s0 dA ax D (pc, ls, vI b :: vI a :: st, h) := by
  intro H locs rl cells slots hP hz hS hL hc hs
  refine lv_ishl hx hb hd ?_
  rw [sg_shl h0 h1 h2]
  exact k H locs rl cells slots hP hz hS hL hc hs
theorem sg_xlcmp (hx : p.tables.exec = Jvm.exec) (hb : c.code = cc) {a b : Int} (h0 : ag_inL a) (h1 : ag_inL b) (hd : decode cc pc = .ok (.lcmp, 1)) (k : sg_J p l e R s m args below meth c Q nL bs n0 s0 dA ax D (pc + 1, ls, vI (if a < b then -1 else if a = b then 0 else 1) :: st, h)) : sg_J p l e R s m args below meth c Q nL bs n0 s0 dA ax D (pc, ls, vJ b :: vJ a :: st, h) := by
  intro H locs rl cells slots hP hz hS hL hc hs
  refine W.lcmp hx hb hd ?_
  rw [sg_lcmp h0 h1]
  exact k H locs rl cells slots hP hz hS hL hc hs
theorem sg_xi2l (hx : p.tables.exec = Jvm.exec) (hb : c.code = cc) {a : Int} (h1 : ag_in a) (hd : decode cc pc = .ok (.i2l, 1)) (k : sg_J p l e R s m args below meth c Q nL bs n0 s0 dA ax D (pc + 1, ls, vJ a :: st, h)) : sg_J p l e R s m args below meth c Q nL bs n0 s0 dA ax D (pc, ls, vI a :: st, h) := by
  intro H locs rl cells slots hP hz hS hL hc hs
  refine lv_i2l hx hb hd (sg_i2l h1) ?_
  exact k H locs rl cells slots hP hz hS hL hc hs
theorem sg_i2f (hx : p.tables.exec = Jvm.exec) (hb : c.code = cc) {a : Int} (hd : decode cc pc = .ok (.i2f, 1)) (k : sg_J p l e R s m args below meth c Q nL bs n0 s0 dA ax D (pc + 1, ls, vF (FP.i2f (Int32.ofInt a)) :: st, h)) : sg_J p l e R s m args below meth c Q nL bs n0 s0 dA ax D (pc, ls, vI a :: st, h) := by
  intro H locs rl cells slots hP hz hS hL hc hs
  refine lv_i2f hx hb hd ?_
  exact k H locs rl cells slots hP hz hS hL hc hs
theorem sg_f2i (hx : p.tables.exec = Jvm.exec) (hb : c.code = cc) {a : UInt32} (hd : decode cc pc = .ok (.f2i, 1)) (k : sg_J p l e R s m args below meth c Q nL bs n0 s0 dA ax D (pc + 1, ls, vI (FP.f2i a).toInt :: st, h)) : sg_J p l e R s m args below meth c Q nL bs n0 s0 dA ax D (pc, ls, vF a :: st, h) := by
  intro H locs rl cells slots hP hz hS hL hc hs
  refine lv_f2i hx hb hd ?_
  rw [← Int32.ofInt_toInt (FP.f2i a)]
  exact k H locs rl cells slots hP hz hS hL hc hs
theorem sg_fdiv (hx : p.tables.exec = Jvm.exec) (hb : c.code = cc) {a b : UInt32} (hn : ag_n32 (FP.fdiv a b)) (hd : decode cc pc = .ok (.fdiv, 1)) (k : sg_J p l e R s m args below meth c Q nL bs n0 s0 dA ax D (pc + 1, ls, vF (FP.fdiv a b) :: st, h)) : sg_J p l e R s m args below meth c Q nL bs n0 s0 dA ax D (pc, ls, vF b :: vF a :: st, h) := by
  intro H locs rl cells slots hP hz hS hL hc hs
  refine lv_fdiv hx hb hd hn ?_
  exact k H locs rl cells slots hP hz hS hL hc hs
theorem sg_fmul (hx : p.tables.exec = Jvm.exec) (hb : c.code = cc) {a b : UInt32} (hn : ag_n32 (FP.fmul a b)) (hd : decode cc pc = .ok (.fmul, 1)) (k : sg_J p l e R s m args below meth c Q nL bs n0 s0 dA ax D (pc + 1, ls, vF (FP.fmul a b) :: st, h)) : sg_J p l e R s m args below meth c Q nL bs n0 s0 dA ax D (pc, ls, vF b :: vF a :: st, h) := by
  intro H locs rl cells slots hP hz hS hL hc hs
  refine lv_fmul hx hb hd hn ?_
  exact k H locs rl cells slots hP hz hS hL hc hs
theorem sg_fsub (hx : p.tables.exec = Jvm.exec) (hb : c.code = cc) {a b : UInt32} (hn : ag_n32 (FP.fsub a b)) (hd : decode cc pc = .ok (.fsub, 1)) (k : sg_J p l e R s m args below meth c Q nL bs n0 s0 dA ax D (pc + 1, ls, vF (FP.fsub a b) :: st, h)) : sg_J p l e R s m args below meth c Q nL bs n0 s0 dA ax D (pc, ls, vF b :: vF a :: st, h) := by
  intro H locs rl cells slots hP hz hS hL hc hs
  refine lv_fsub hx hb hd hn ?_
  exact k H locs rl cells slots hP hz hS hL hc hs
theorem sg_fcmp (hx : p.tables.exec = Jvm.exec) (hb : c.code = cc) {a b : UInt32} {op : CmpOp} (hd : decode cc pc = .ok (.fcmp op, 1)) (k : sg_J p l e R s m args below meth c Q nL bs n0 s0 dA ax D (pc + 1, ls, vI (Op.cmpValue (FP.fcmp a b) op).toInt :: st, h)) : sg_J p l e R s m args below meth c Q nL bs n0 s0 dA ax D (pc, ls, vF b :: vF a :: st, h) := by
  intro H locs rl cells slots hP hz hS hL hc hs
  refine lv_fcmp hx hb hd ?_
  rw [← Int32.ofInt_toInt (Op.cmpValue (FP.fcmp a b) op)]
  exact k H locs rl cells slots hP hz hS hL hc hs
theorem sg_dup (hx : p.tables.exec = Jvm.exec) (hb : c.code = cc) {v : av} (hv : ag_wide (some v) = false) (hd : decode cc pc = .ok (.dup, 1)) (k : sg_J p l e R s m args below meth c Q nL bs n0 s0 dA ax D (pc + 1, ls, v :: v :: st, h)) : sg_J p l e R s m args below meth c Q nL bs n0 s0 dA ax D (pc, ls, v :: st, h) := by
  intro H locs rl cells slots hP hz hS hL hc hs
  refine lv_dup hx hb hd (by rw [sg_cat, hv]; rfl) ?_
  exact k H locs rl cells slots hP hz hS hL hc hs
theorem sg_dup2 (hx : p.tables.exec = Jvm.exec) (hb : c.code = cc) {v w : av} (hv : ag_wide (some v) = false) (hw : ag_wide (some w) = false) (hd : decode cc pc = .ok (.dup2, 1)) (k : sg_J p l e R s m args below meth c Q nL bs n0 s0 dA ax D (pc + 1, ls, v :: w :: v :: w :: st, h)) : sg_J p l e R s m args below meth c Q nL bs n0 s0 dA ax D (pc, ls, v :: w :: st, h) := by
  intro H locs rl cells slots hP hz hS hL hc hs
  refine lv_dup2_11 hx hb hd (by rw [sg_cat, hv]; rfl) (by rw [sg_cat, hw]; rfl) ?_
  exact k H locs rl cells slots hP hz hS hL hc hs
theorem sg_pop (hx : p.tables.exec = Jvm.exec) (hb : c.code = cc) {v : av} (hv : ag_wide (some v) = false) (hd : decode cc pc = .ok (.pop, 1)) (k : sg_J p l e R s m args below meth c Q nL bs n0 s0 dA ax D (pc + 1, ls, st, h)) : sg_J p l e R s m args below meth c Q nL bs n0 s0 dA ax D (pc, ls, v :: st, h) := by
  intro H locs rl cells slots hP hz hS hL hc hs
  refine lv_pop hx hb hd (by rw [sg_cat, hv]; rfl) ?_
  exact k H locs rl cells slots hP hz hS hL hc hs
theorem sg_goto (hx : p.tables.exec = Jvm.exec) (hb : c.code = cc) {off : Int} {tgt : Nat} (ht : (pc : Int) + off = (tgt : Int)) (hd : decode cc pc = .ok (.goto off, 3)) (k : sg_J p l e R s m args below meth c Q nL bs n0 s0 dA ax D (tgt, ls, st, h)) : sg_J p l e R s m args below meth c Q nL bs n0 s0 dA ax D (pc, ls, st, h) := by
  intro H locs rl cells slots hP hz hS hL hc hs
  refine lv_goto hx hb hd ht ?_
  exact k H locs rl cells slots hP hz hS hL hc hs
theorem sg_ifnullR (hx : p.tables.exec = Jvm.exec) (hb : c.code = cc) {a : Nat} {off : Int} (hd : decode cc pc = .ok (.ifnull off, 3)) (k : sg_J p l e R s m args below meth c Q nL bs n0 s0 dA ax D (pc + 3, ls, st, h)) : sg_J p l e R s m args below meth c Q nL bs n0 s0 dA ax D (pc, ls, vA a :: st, h) := by
  intro H locs rl cells slots hP hz hS hL hc hs
  refine lv_ifnull hx hb hd ?_
  exact k H locs rl cells slots hP hz hS hL hc hs
theorem sg_ifnullN (hx : p.tables.exec = Jvm.exec) (hb : c.code = cc) {off : Int} {tgt : Nat} (ht : (pc : Int) + off = (tgt : Int)) (hd : decode cc pc = .ok (.ifnull off, 3)) (k : sg_J p l e R s m args below meth c Q nL bs n0 s0 dA ax D (tgt, ls, st, h)) : sg_J p l e R s m args below meth c Q nL bs n0 s0 dA ax D (pc, ls, vR none :: st, h) := by
  intro H locs rl cells slots hP hz hS hL hc hs
  refine lv_ifnullN hx hb hd ht ?_
  exact k H locs rl cells slots hP hz hS hL hc hs
theorem sg_ifnonnullR (hx : p.tables.exec = Jvm.exec) (hb : c.code = cc) {a : Nat} {off : Int} {tgt : Nat} (ht : (pc : Int) + off = (tgt : Int)) (hd : decode cc pc = .ok (.ifnonnull off, 3)) (k : sg_J p l e R s m args below meth c Q nL bs n0 s0 dA ax D (tgt, ls, st, h)) : sg_J p l e R s m args below meth c Q nL bs n0 s0 dA ax D (pc, ls, vA a :: st, h) := by
  intro H locs rl cells slots hP hz hS hL hc hs
  refine lv_ifnonnull hx hb hd ht ?_
  exact k H locs rl cells slots hP hz hS hL hc hs
theorem sg_ifnonnullN (hx : p.tables.exec = Jvm.exec) (hb : c.code = cc) {off : Int} (hd : decode cc pc = .ok (.ifnonnull off, 3)) (k : sg_J p l e R s m args below meth c Q nL bs n0 s0 dA ax D (pc + 3, ls, st, h)) : sg_J p l e R s m args below meth c Q nL bs n0 s0 dA ax D (pc, ls, vR none :: st, h) := by
  intro H locs rl cells slots hP hz hS hL hc hs
  refine lv_ifnonnullN hx hb hd ?_
  exact k H locs rl cells slots hP hz hS hL hc hs
theorem sg_iinc (hx : p.tables.exec = Jvm.exec) (hb : c.code = cc) {i : Nat} {a n : Int} (hi : ls[i]? = some (some (vI a))) (hd : decode cc pc = .ok (.iinc i n, 3)) (k : sg_J p l e R s m args below meth c Q nL bs n0 s0 dA ax D (pc + 3, ag_st ls i (vI (a + n)), st, h)) : sg_J p l e R s m args below meth c Q nL bs n0 s0 dA ax D (pc, ls, st, h) := by
  intro H locs rl cells slots hP hz hS hL hc hs
  obtain ⟨j, hj⟩ := List.getElem?_of_mem (sg_lv_mem (bs := bs) (ax := ax).mpr ⟨_, hi, rfl⟩)
  refine lv_iinc (k := j) (v := Int32.ofInt (a + n)) hx hb hd hL.1 hj (by rw [Int32.ofInt_add]) (by rw [← hL.2]; exact (List.getElem?_eq_some_iff.mp hi).1) rfl (fun rl' h' => ?_)
  exact k H locs rl' cells slots hP hz hS (sg_L.put1 (ls := ls) (i := i) (v := vI (a + n)) hL rfl rfl h') hc hs
theorem sg_icmp_eq (hx : p.tables.exec = Jvm.exec) (hb : c.code = cc) {a b off : Int} {tgt : Nat} (ha : ag_in a) (hb2 : ag_in b) (hd : decode cc pc = .ok (.if_icmp .eq off, 3)) (ht : (pc : Int) + off = (tgt : Int)) (k : a = b → sg_J p l e R s m args below meth c Q nL bs n0 s0 dA ax D (tgt, ls, st, h)) (k2 : ¬ (a = b) → sg_J p l e R s m args below meth c Q nL bs n0 s0 dA ax D (pc + 3, ls, st, h)) : sg_J p l e R s m args below meth c Q nL bs n0 s0 dA ax D (pc, ls, vI b :: vI a :: st, h) := by
  intro H locs rl cells slots hP hz hS hL hc hs
  refine lv_icmp_eq hx hb hd ht (fun q => ?_) (fun q => ?_)
  · exact k ((sg_eq ha hb2).mp q) H locs rl cells slots hP hz hS hL hc hs
  · exact k2 (fun z => q ((sg_eq ha hb2).mpr z)) H locs rl cells slots hP hz hS hL hc hs
theorem sg_if_eq (hx : p.tables.exec = Jvm.exec) (hb : c.code = cc) {a off : Int} {tgt : Nat} (ha : ag_in a) (hd : decode cc pc = .ok (.ifCond .eq off, 3)) (ht : (pc : Int) + off = (tgt : Int)) (k : a = 0 → sg_J p l e R s m args below meth c Q nL bs n0 s0 dA ax D (tgt, ls, st, h)) (k2 : ¬ (a = 0) → sg_J p l e R s m args below meth c Q nL bs n0 s0 dA ax D (pc + 3, ls, st, h)) : sg_J p l e R s m args below meth c Q nL bs n0 s0 dA ax D (pc, ls, vI a :: st, h) := by
  intro H locs rl cells slots hP hz hS hL hc hs
  refine lv_if_eq hx hb hd ht (fun q => ?_) (fun q => ?_)
  · exact k ((sg_eq ha sg_in0).mp q) H locs rl cells slots hP hz hS hL hc hs
  · exact k2 (fun z => q ((sg_eq ha sg_in0).mpr z)) H locs rl cells slots hP hz hS hL hc hs
theorem sg_icmp_ne (hx : p.tables.exec = Jvm.exec) (hb : c.code = cc) {a b off : Int} {tgt : Nat} (ha : ag_in a) (hb2 : ag_in b) (hd : decode cc pc = .ok (.if_icmp .ne off, 3)) (ht : (pc : Int) + off = (tgt : Int)) (k : a ≠ b → sg_J p l e R s m args below meth c Q nL bs n0 s0 dA ax D (tgt, ls, st, h)) (k2 : ¬ (a ≠ b) → sg_J p l e R s m args below meth c Q nL bs n0 s0 dA ax D (pc + 3, ls, st, h)) : sg_J p l e R s m args below meth c Q nL bs n0 s0 dA ax D (pc, ls, vI b :: vI a :: st, h) := by
  intro H locs rl cells slots hP hz hS hL hc hs
  refine lv_icmp_ne hx hb hd ht (fun q => ?_) (fun q => ?_)
  · exact k ((not_congr (sg_eq ha hb2)).mp q) H locs rl cells slots hP hz hS hL hc hs
  · exact k2 (fun z => z ((sg_eq ha hb2).mp q)) H locs rl cells slots hP hz hS hL hc hs
theorem sg_if_ne (hx : p.tables.exec = Jvm.exec) (hb : c.code = cc) {a off : Int} {tgt : Nat} (ha : ag_in a) (hd : decode cc pc = .ok (.ifCond .ne off, 3)) (ht : (pc : Int) + off = (tgt : Int)) (k : a ≠ 0 → sg_J p l e R s m args below meth c Q nL bs n0 s0 dA ax D (tgt, ls, st, h)) (k2 : ¬ (a ≠ 0) → sg_J p l e R s m args below meth c Q nL bs n0 s0 dA ax D (pc + 3, ls, st, h)) : sg_J p l e R s m args below meth c Q nL bs n0 s0 dA ax D (pc, ls, vI a :: st, h) := by
  intro H locs rl cells slots hP hz hS hL hc hs
  refine lv_if_ne hx hb hd ht (fun q => ?_) (fun q => ?_)
  · exact k ((not_congr (sg_eq ha sg_in0)).mp q) H locs rl cells slots hP hz hS hL hc hs
  · exact k2 (fun z => z ((sg_eq ha sg_in0).mp q)) H locs rl cells slots hP hz hS hL hc hs
theorem sg_icmp_lt (hx : p.tables.exec = Jvm.exec) (hb : c.code = cc) {a b off : Int} {tgt : Nat} (ha : ag_in a) (hb2 : ag_in b) (hd : decode cc pc = .ok (.if_icmp .lt off, 3)) (ht : (pc : Int) + off = (tgt : Int)) (k : a < b → sg_J p l e R s m args below meth c Q nL bs n0 s0 dA ax D (tgt, ls, st, h)) (k2 : ¬ (a < b) → sg_J p l e R s m args below meth c Q nL bs n0 s0 dA ax D (pc + 3, ls, st, h)) : sg_J p l e R s m args below meth c Q nL bs n0 s0 dA ax D (pc, ls, vI b :: vI a :: st, h) := by
  intro H locs rl cells slots hP hz hS hL hc hs
  refine lv_icmp_lt hx hb hd ht (fun q => ?_) (fun q => ?_)
  · exact k ((sg_lt ha hb2).mp q) H locs rl cells slots hP hz hS hL hc hs
  · exact k2 (fun z => q ((sg_lt ha hb2).mpr z)) H locs rl cells slots hP hz hS hL hc hs
theorem sg_if_lt (hx : p.tables.exec = Jvm.exec) (hb : c.code = cc) {a off : Int} {tgt : Nat} (ha : ag_in a) (hd : decode cc pc = .ok (.ifCond .lt off, 3)) (ht : (pc : Int) + off = (tgt : Int)) (k : a < 0 → sg_J p l e R s m args below meth c Q nL bs n0 s0 dA ax D (tgt, ls, st, h)) (k2 : ¬ (a < 0) → sg_J p l e R s m args below meth c Q nL bs n0 s0 dA ax D (pc + 3, ls, st, h)) : sg_J p l e R s m args below meth c Q nL bs n0 s0 dA ax D (pc, ls, vI a :: st, h) := by
  intro H locs rl cells slots hP hz hS hL hc hs
  refine lv_if_lt hx hb hd ht (fun q => ?_) (fun q => ?_)
  · exact k ((sg_lt ha sg_in0).mp q) H locs rl cells slots hP hz hS hL hc hs
  · exact k2 (fun z => q ((sg_lt ha sg_in0).mpr z)) H locs rl cells slots hP hz hS hL hc hs
theorem sg_icmp_ge (hx : p.tables.exec = Jvm.exec) (hb : c.code = cc) {a b off : Int} {tgt : Nat} (ha : ag_in a) (hb2 : ag_in b) (hd : decode cc pc = .ok (.if_icmp .ge off, 3)) (ht : (pc : Int) + off = (tgt : Int)) (k : b ≤ a → sg_J p l e R s m args below meth c Q nL bs n0 s0 dA ax D (tgt, ls, st, h)) (k2 : ¬ (b ≤ a) → sg_J p l e R s m args below meth c Q nL bs n0 s0 dA ax D (pc + 3, ls, st, h)) : sg_J p l e R s m args below meth c Q nL bs n0 s0 dA ax D (pc, ls, vI b :: vI a :: st, h) := by
  intro H locs rl cells slots hP hz hS hL hc hs
  refine lv_icmp_ge hx hb hd ht (fun q => ?_) (fun q => ?_)
  · exact k ((sg_le hb2 ha).mp q) H locs rl cells slots hP hz hS hL hc hs
  · exact k2 (fun z => q ((sg_le hb2 ha).mpr z)) H locs rl cells slots hP hz hS hL hc hs
theorem sg_if_ge (hx : p.tables.exec = Jvm.exec) (hb : c.code = cc) {a off : Int} {tgt : Nat} (ha : ag_in a) (hd : decode cc pc = .ok (.ifCond .ge off, 3)) (ht : (pc : Int) + off = (tgt : Int)) (k : 0 ≤ a → sg_J p l e R s m args below meth c Q nL bs n0 s0 dA ax D (tgt, ls, st, h)) (k2 : ¬ (0 ≤ a) → sg_J p l e R s m args below meth c Q nL bs n0 s0 dA ax D (pc + 3, ls, st, h)) : sg_J p l e R s m args below meth c Q nL bs n0 s0 dA ax D (pc, ls, vI a :: st, h) := by
  intro H locs rl cells slots hP hz hS hL hc hs
  refine lv_if_ge hx hb hd ht (fun q => ?_) (fun q => ?_)
  · exact k ((sg_le sg_in0 ha).mp q) H locs rl cells slots hP hz hS hL hc hs
  · exact k2 (fun z => q ((sg_le sg_in0 ha).mpr z)) H locs rl cells slots hP hz hS hL hc hs
theorem sg_icmp_gt (hx : p.tables.exec = Jvm.exec) (hb : c.code = cc) {a b off : Int} {tgt : Nat} (ha : ag_in a) (hb2 : ag_in b) (hd : decode cc pc = .ok (.if_icmp .gt off, 3)) (ht : (pc : Int) + off = (tgt : Int)) (k : b < a → sg_J p l e R s m args below meth c Q nL bs n0 s0 dA ax D (tgt, ls, st, h)) (k2 : ¬ (b < a) → sg_J p l e R s m args below meth c Q nL bs n0 s0 dA ax D (pc + 3, ls, st, h)) : sg_J p l e R s m args below meth c Q nL bs n0 s0 dA ax D (pc, ls, vI b :: vI a :: st, h) := by
  intro H locs rl cells slots hP hz hS hL hc hs
  refine lv_icmp_gt hx hb hd ht (fun q => ?_) (fun q => ?_)
  · exact k ((sg_lt hb2 ha).mp q) H locs rl cells slots hP hz hS hL hc hs
  · exact k2 (fun z => q ((sg_lt hb2 ha).mpr z)) H locs rl cells slots hP hz hS hL hc hs
theorem sg_if_gt (hx : p.tables.exec = Jvm.exec) (hb : c.code = cc) {a off : Int} {tgt : Nat} (ha : ag_in a) (hd : decode cc pc = .ok (.ifCond .gt off, 3)) (ht : (pc : Int) + off = (tgt : Int)) (k : 0 < a → sg_J p l e R s m args below meth c Q nL bs n0 s0 dA ax D (tgt, ls, st, h)) (k2 : ¬ (0 < a) → sg_J p l e R s m args below meth c Q nL bs n0 s0 dA ax D (pc + 3, ls, st, h)) : sg_J p l e R s m args below meth c Q nL bs n0 s0 dA ax D (pc, ls, vI a :: st, h) := by
  intro H locs rl cells slots hP hz hS hL hc hs
  refine lv_if_gt hx hb hd ht (fun q => ?_) (fun q => ?_)
  · exact k ((sg_lt sg_in0 ha).mp q) H locs rl cells slots hP hz hS hL hc hs
  · exact k2 (fun z => q ((sg_lt sg_in0 ha).mpr z)) H locs rl cells slots hP hz hS hL hc hs
theorem sg_icmp_le (hx : p.tables.exec = Jvm.exec) (hb : c.code = cc) {a b off : Int} {tgt : Nat} (ha : ag_in a) (hb2 : ag_in b) (hd : decode cc pc = .ok (.if_icmp .le off, 3)) (ht : (pc : Int) + off = (tgt : Int)) (k : a ≤ b → sg_J p l e R s m args below meth c Q nL bs n0 s0 dA ax D (tgt, ls, st, h)) (k2 : ¬ (a ≤ b) → sg_J p l e R s m args below meth c Q nL bs n0 s0 dA ax D (pc + 3, ls, st, h)) : sg_J p l e R s m args below meth c Q nL bs n0 s0 dA ax D (pc, ls, vI b :: vI a :: st, h) := by
  intro H locs rl cells slots hP hz hS hL hc hs
  refine lv_icmp_le hx hb hd ht (fun q => ?_) (fun q => ?_)
  · exact k ((sg_le ha hb2).mp q) H locs rl cells slots hP hz hS hL hc hs
  · exact k2 (fun z => q ((sg_le ha hb2).mpr z)) H locs rl cells slots hP hz hS hL hc hs
theorem sg_if_le (hx : p.tables.exec = Jvm.exec) (hb : c.code = cc) {a off : Int} {tgt : Nat} (ha : ag_in a) (hd : decode cc pc = .ok (.ifCond .le off, 3)) (ht : (pc : Int) + off = (tgt : Int)) (k : a ≤ 0 → sg_J p l e R s m args below meth c Q nL bs n0 s0 dA ax D (tgt, ls, st, h)) (k2 : ¬ (a ≤ 0) → sg_J p l e R s m args below meth c Q nL bs n0 s0 dA ax D (pc + 3, ls, st, h)) : sg_J p l e R s m args below meth c Q nL bs n0 s0 dA ax D (pc, ls, vI a :: st, h) := by
  intro H locs rl cells slots hP hz hS hL hc hs
  refine lv_if_le hx hb hd ht (fun q => ?_) (fun q => ?_)
  · exact k ((sg_le ha sg_in0).mp q) H locs rl cells slots hP hz hS hL hc hs
  · exact k2 (fun z => q ((sg_le ha sg_in0).mpr z)) H locs rl cells slots hP hz hS hL hc hs
theorem sg_tableOut (hx : p.tables.exec = Jvm.exec) (hb : c.code = cc) {a dflt lo hi : Int} {offs : Array Int} {len tgt : Nat} (ha : ag_in a) (hd : decode cc pc = .ok (.tableswitch dflt lo hi offs, len)) (hq : a < lo ∨ hi < a) (ht : (pc : Int) + dflt = (tgt : Int)) (k : sg_J p l e R s m args below meth c Q nL bs n0 s0 dA ax D (tgt, ls, st, h)) : sg_J p l e R s m args below meth c Q nL bs n0 s0 dA ax D (pc, ls, vI a :: st, h) := by
  intro H locs rl cells slots hP hz hS hL hc hs
  refine lv_tableOut hx hb hd (by rw [sg_ti ha]; exact hq) ht ?_
  exact k H locs rl cells slots hP hz hS hL hc hs
theorem sg_tableIn (hx : p.tables.exec = Jvm.exec) (hb : c.code = cc) {a dflt lo hi off : Int} {offs : Array Int} {len tgt : Nat} (ha : ag_in a) (hd : decode cc pc = .ok (.tableswitch dflt lo hi offs, len)) (h1 : ¬ a < lo) (h2 : ¬ hi < a) (ho : offs[(a - lo).toNat]? = some off) (ht : (pc : Int) + off = (tgt : Int)) (k : sg_J p l e R s m args below meth c Q nL bs n0 s0 dA ax D (tgt, ls, st, h)) : sg_J p l e R s m args below meth c Q nL bs n0 s0 dA ax D (pc, ls, vI a :: st, h) := by
  intro H locs rl cells slots hP hz hS hL hc hs
  refine lv_tableIn hx hb hd (by rw [sg_ti ha]; exact h1) (by rw [sg_ti ha]; exact h2) (by rw [sg_ti ha]; exact ho) ht ?_
  exact k H locs rl cells slots hP hz hS hL hc hs
theorem sg_lookup (hx : p.tables.exec = Jvm.exec) (hb : c.code = cc) {a dflt : Int} {ps : Array (Int × Int)} {len tgt : Nat} (ha : ag_in a) (hd : decode cc pc = .ok (.lookupswitch dflt ps, len)) (hp : (ps.toList.zip (ps.toList.drop 1)).all (fun (a, next) => a.1 < next.1) = true) (ht : (pc : Int) + Op.lookupswitch.offset ps.toList dflt a = (tgt : Int)) (k : sg_J p l e R s m args below meth c Q nL bs n0 s0 dA ax D (tgt, ls, st, h)) : sg_J p l e R s m args below meth c Q nL bs n0 s0 dA ax D (pc, ls, vI a :: st, h) := by
  intro H locs rl cells slots hP hz hS hL hc hs
  refine lv_lookup hx hb hd hp (by rw [sg_ti ha]) ht ?_
  exact k H locs rl cells slots hP hz hS hL hc hs
end SGI
