/-! calls of the library's own members, from an abstract frame -/
section SGL
variable {p : Program} {l : Launch} {e : Env} {R : Room} {s : State} {m : MethodId} {args : Array Value} {below : List Frame} {meth : Method} {c : Code} {Q : State → Prop} {cc : ByteArray} {nL bs n0 s0 ci : Nat} {dA : Nat → ClassId} {ax adV : Nat → Nat} {D : va_G} {E : Nat × (Int → Int)}
variable {pc : Nat} {ls : List (Option av)} {st : List av} {h : ag_H}
theorem sg_cat2 (st : List av) : ((st.map (sg_up bs ax)).map fun v => v.category).sum ≤ 2 * st.length := by
  induction st with
  | nil => simp
  | cons v st ih =>
    have hc := sg_cat bs ax v
    simp only [List.map_cons, List.sum_cons, List.length_cons]
    by_cases hw : ag_wide (some v) = true
    · rw [if_pos hw] at hc; omega
    · rw [if_neg hw] at hc; omega
theorem sg_objI (hx : p.tables.exec = Jvm.exec) (hb : c.code = cc) (hml : c.maxLocals = nL) (hts : ∀ w ∈ sg_tb, w.before args s = true) (hown : s.vm.findClass (sg_R ci) = some m.cls) {ix y n t a : Nat} (hf : ag_TT.2.1 ci ix = some (10, y, n, t)) (hl : st.length ≤ 6) (hR1 : 1 ≤ R.frames) (hR2 : 100 ≤ R.locals) (hd : decode cc pc = .ok (.invokespecial ix, 3)) (kk : sg_J p l e R s m args below meth c Q nL bs n0 s0 dA ax D (pc + 3, ls, st, h)) : sg_J p l e R s m args below meth c Q nL bs n0 s0 dA ax D (pc, ls, vA a :: st, h) := by
  intro H locs rl cells slots hP hz hS hL hc hs
  obtain ⟨q, hq⟩ := sg_mw hf
  change (sg_at q.2.1 (.methodLink (sg_R ci) ix Lib.objectInit) && sg_at q.2.2.1 (.instanceMethod Lib.objectInit) && sg_at q.2.2.2 (.code Lib.objectInit ⟨#[0xb1]⟩ 1 none)) = true at hq
  simp only [Bool.and_eq_true] at hq
  obtain ⟨⟨h1, h2⟩, h3⟩ := hq
  have h4 := sg_cat2 (bs := bs) (ax := ax) st
  refine W.objInit (a := bs + a) (rest := st.map (sg_up bs ax)) hx hb hown (hts _ (sg_mem (sg_atm h1) rfl)) (hts _ (sg_mem (sg_atm h2) rfl)) (hts _ (sg_mem (sg_atm h3) rfl)) rfl (hL.1.1.trans hml.symm) rfl hd hR1 ?_ (kk H locs rl cells slots hP hz hS hL hc hs)
  show 2 * 0 + _ + 12 ≤ R.locals
  omega
theorem sg_mmin (hx : p.tables.exec = Jvm.exec) (hb : c.code = cc) (hml : c.maxLocals = nL) (hts : ∀ w ∈ sg_tb, w.before args s = true) (hown : s.vm.findClass (sg_R ci) = some m.cls) {ix y n t : Nat} {a b : Int} (ha : ag_in a) (hb2 : ag_in b) (hf : ag_TT.2.1 ci ix = some (11, y, n, t)) (hl : st.length ≤ 6) (hR1 : 1 ≤ R.frames) (hR2 : 100 ≤ R.locals) (hr1 : h.1.length ≤ R.cells + n0) (hr2 : sg_ss h.1 ≤ R.slots + s0) (hd : decode cc pc = .ok (.invokestatic ix, 3)) (kk : sg_J p l e R s m args below meth c Q nL bs n0 s0 dA ax D (pc + 3, ls, vI (if b < a then b else a) :: st, h)) : sg_J p l e R s m args below meth c Q nL bs n0 s0 dA ax D (pc, ls, vI b :: vI a :: st, h) := by
  intro H locs rl cells slots hP hz hS hL hc hs
  obtain ⟨rfl, rfl⟩ := (sg_mk hf).1 rfl
  have h4 := sg_cat2 (bs := bs) (ax := ax) st
  dsimp only at hc hs
  refine va_mmin hx hb (hml.trans hL.1.1.symm) hown (hts _ sg_wMn.1) (hts _ sg_wMn.2.1) (hts _ sg_wM) (hts _ sg_wMn.2.2) hR1 (by omega) (by omega) (by omega) hd ?_
  have := kk H locs rl cells slots hP hz hS hL hc hs
  have e : (if Int32.ofInt b < Int32.ofInt a then Int32.ofInt b else Int32.ofInt a) = Int32.ofInt (if b < a then b else a) := by
    by_cases hlt : b < a
    · rw [if_pos hlt, if_pos ((sg_lt hb2 ha).mpr hlt)]
    · rw [if_neg hlt, if_neg (fun q => hlt ((sg_lt hb2 ha).mp q))]
  rw [e]
  exact this
theorem sg_mmax (hx : p.tables.exec = Jvm.exec) (hb : c.code = cc) (hml : c.maxLocals = nL) (hts : ∀ w ∈ sg_tb, w.before args s = true) (hown : s.vm.findClass (sg_R ci) = some m.cls) {ix y n t : Nat} {a b : Int} (ha : ag_in a) (hb2 : ag_in b) (hf : ag_TT.2.1 ci ix = some (12, y, n, t)) (hl : st.length ≤ 6) (hR1 : 1 ≤ R.frames) (hR2 : 100 ≤ R.locals) (hr1 : h.1.length ≤ R.cells + n0) (hr2 : sg_ss h.1 ≤ R.slots + s0) (hd : decode cc pc = .ok (.invokestatic ix, 3)) (kk : sg_J p l e R s m args below meth c Q nL bs n0 s0 dA ax D (pc + 3, ls, vI (if a < b then b else a) :: st, h)) : sg_J p l e R s m args below meth c Q nL bs n0 s0 dA ax D (pc, ls, vI b :: vI a :: st, h) := by
  intro H locs rl cells slots hP hz hS hL hc hs
  obtain ⟨rfl, rfl⟩ := (sg_mk hf).2.1 rfl
  have h4 := sg_cat2 (bs := bs) (ax := ax) st
  dsimp only at hc hs
  refine va_mmax hx hb (hml.trans hL.1.1.symm) hown (hts _ sg_wMx.1) (hts _ sg_wMx.2.1) (hts _ sg_wM) (hts _ sg_wMx.2.2) hR1 (by omega) (by omega) (by omega) hd ?_
  have := kk H locs rl cells slots hP hz hS hL hc hs
  have e : (if Int32.ofInt a < Int32.ofInt b then Int32.ofInt b else Int32.ofInt a) = Int32.ofInt (if a < b then b else a) := by
    by_cases hlt : a < b
    · rw [if_pos hlt, if_pos ((sg_lt ha hb2).mpr hlt)]
    · rw [if_neg hlt, if_neg (fun q => hlt ((sg_lt ha hb2).mp q))]
  rw [e]
  exact this
theorem sg_htsG (hts : ∀ w ∈ sg_tb, w.before args s = true) : ∀ w ∈ sg_Gd, w.before args s = true := fun w hw => hts w (List.mem_filter.mp hw).1
theorem sg_lroom {st : List av} (hl : st.length ≤ 4) {rl : Array Slot} {stk : List Value} : 2 * (F0 m pc rl stk).monitorRoom + ((st.map (sg_up bs ax)).map fun v => v.category).sum ≤ 8 := by
  have h4 := sg_cat2 (bs := bs) (ax := ax) st
  show 2 * 0 + _ ≤ 8
  omega
theorem sg_bitsJ (hx : p.tables.exec = Jvm.exec) (hb : c.code = cc) (hml : c.maxLocals = nL) (hts : ∀ w ∈ sg_tb, w.before args s = true) (hown : s.vm.findClass (sg_R ci) = some m.cls) {ix y n t : Nat} {a : UInt32} (ha : Op.cmpValue (FP.fcmp a a) .l = 0) (hf : ag_TT.2.1 ci ix = some (13, y, n, t)) (hl : st.length ≤ 4) (hR1 : 5 ≤ R.frames) (hR2 : 300 ≤ R.locals) (hr1 : h.1.length ≤ R.cells + n0) (hr2 : sg_ss h.1 ≤ R.slots + s0) (hd : decode cc pc = .ok (.invokestatic ix, 3)) (kk : sg_J p l e R s m args below meth c Q nL bs n0 s0 dA ax D (pc + 3, ls, vI a.toInt32.toInt :: st, h)) : sg_J p l e R s m args below meth c Q nL bs n0 s0 dA ax D (pc, ls, vF a :: st, h) := by
  intro H locs rl cells slots hP hz hS hL hc hs
  obtain ⟨rfl, rfl⟩ := (sg_mk hf).2.2.1 rfl
  dsimp only at hc hs
  have := kk H locs rl cells slots hP hz hS hL hc hs
  refine sj_pure (a := #[.float a]) (rest := st.map (sg_up bs ax)) (v := some (.int a.toInt32)) (va_runS (As := [.float a]) ⟨hx, hb, hml, hown, hts⟩ (sj_bits l a ha) ⟨⟨rfl, rfl, ?_, ?_, sj_wsin (sg_htsG hts) sj_fbc, List.mem_cons_self, hts _ sj_fbc, hts _ sj_if, ⟨by decide, by decide⟩, fun sig h => by cases h; rfl, hts _ sj_fbl⟩, hts _ sj_fbs⟩ ⟨sj_blind0, fun U hU hW => ⟨rfl, trivial⟩⟩ rfl rfl hL.1.1 rfl (sg_lroom hl) hd ⟨by omega, by omega⟩) ?_
  · show 2 + 1 ≤ R.frames
    omega
  · show 8 + (1 + 11) + 120 ≤ R.locals
    omega
  · rw [← Int32.ofInt_toInt a.toInt32]
    exact this
theorem sg_chJ (hx : p.tables.exec = Jvm.exec) (hb : c.code = cc) (hml : c.maxLocals = nL) (hts : ∀ w ∈ sg_tb, w.before args s = true) (hown : s.vm.findClass (sg_R ci) = some m.cls) (hX : sg_X E bs ax adV s) {ix y n t j : Nat} {i : Int} (h0 : 0 ≤ i) (h1 : i < 4) (hj : j = 1 ∨ j = 2) (hf : ag_TT.2.1 ci ix = some (14, y, n, t)) (hl : st.length ≤ 4) (hR1 : 5 ≤ R.frames) (hR2 : 300 ≤ R.locals) (hr1 : h.1.length ≤ R.cells + n0) (hr2 : sg_ss h.1 ≤ R.slots + s0) (hd : decode cc pc = .ok (.invokevirtual ix, 3)) (kk : sg_J p l e R s m args below meth c Q nL bs n0 s0 dA ax D (pc + 3, ls, vI (ag_str j i.toNat) :: st, h)) : sg_J p l e R s m args below meth c Q nL bs n0 s0 dA ax D (pc, ls, vI i :: vX j :: st, h) := by
  intro H locs rl cells slots hP hz hS hL hc hs
  obtain rfl := (sg_mk hf).2.2.2 rfl
  dsimp only at hc hs
  have := kk H locs rl cells slots hP hz hS hL hc hs
  obtain ⟨j', rfl, hj2⟩ : ∃ j', j = j' + 1 ∧ j' < 2 := by
    rcases hj with rfl | rfl
    · exact ⟨0, rfl, by decide⟩
    · exact ⟨1, rfl, by decide⟩
  obtain ⟨k, rfl⟩ := Int.eq_ofNat_of_zero_le h0
  have hk : k < 4 := by omega
  have hS2 := hX.2.2.2.1
  refine sj_pure (a := #[.ref (ax (j' + 1)), .int (nI k)]) (rest := st.map (sg_up bs ax)) (v := some (.int (Int32.ofInt (ag_str (j' + 1) k)))) (va_runV (C := RJ0) (b := ax (j' + 1)) (As := [.int (nI k)]) ⟨hx, hb, hml, hown, hts⟩ (sj_chS (E := E) (bs := bs) (ax := ax) (adV := adV) l j' k hj2 hk) ⟨⟨rfl, rfl, ?_, ?_, sj_wsin (sg_htsG hts) sj_cm, List.mem_cons_self, hts _ sj_cm, hts _ sj_i0, ⟨by decide, by decide⟩, fun sig h => by cases h; rfl, hts _ (sj_cml _ _ hf rfl)⟩, hts _ sj_cmi, hts _ sj_cms⟩ ⟨sj_blind, vk_recv (i := j') hS2 hj2 hS, fun U hU hW => ⟨rfl, hX.to (by rw [hU]; exact hS) hW.alike (fun own tx k a hr => vk_R.warm hW hr)⟩⟩ rfl rfl hL.1.1 rfl (sg_lroom hl) hd ⟨by omega, by omega⟩) ?_
  · show 4 + 1 ≤ R.frames
    omega
  · show 8 + (2 + 11) + 240 ≤ R.locals
    omega
  · exact this
end SGL
