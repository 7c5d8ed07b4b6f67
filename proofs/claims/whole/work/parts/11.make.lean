/-! what is made, constants, the script, the library's own members (places printed by wip/whole/gen_make.py) -/
def sg_pI : List (Nat × Nat) := [(119, 92), (113, 91), (151, 93), (225, 95), (205, 94), (251, 96), (105, 90), (713, 97)]
def sg_pN : List (List Nat) := [[], [118, 150], [], [], [210], [], [112, 204, 224, 250], [], [104, 712]]
theorem sg_i : ∀ t, t < 8 → (sg_at (sg_pI.getD t (0, 0)).1 (.instantiable (sg_R t) (ag_nf t)) && sg_at (sg_pI.getD t (0, 0)).2 (.initialized (sg_R t))) = true := by decide +kernel
theorem sg_n : ∀ ci, ci < 9 → (((ag_tN.getD ci []).zip (sg_pN.getD ci [])).all fun e => sg_at e.2 (.classLink (sg_R ci) e.1.1 (sg_R e.1.2))) = true := by decide +kernel
theorem sg_lenN : ∀ ci, ci < 9 → (ag_tN.getD ci []).length = (sg_pN.getD ci []).length := by decide +kernel
theorem sg_nw {ci ix t : Nat} (h : ag_TT.2.2.2 ci ix = some t) : .classLink (sg_R ci) ix (sg_R t) ∈ sg_tb := by
  by_cases hc : ci < 9
  · obtain ⟨q, hq⟩ := sg_zip (sg_lenN ci hc) h (sg_n ci hc)
    exact sg_mem (sg_atm hq) rfl
  · have h2 : (ag_tN.getD ci []).lookup ix = some t := h
    rw [sg_out (by decide) hc] at h2
    cases h2
theorem sg_iw {t : Nat} (h : t < 8) : .instantiable (sg_R t) (ag_nf t) ∈ sg_tb ∧ .initialized (sg_R t) ∈ sg_tb := by
  have := sg_i t h
  rw [Bool.and_eq_true] at this
  exact ⟨sg_mem (sg_atm this.1) rfl, sg_mem (sg_atm this.2) rfl⟩
theorem sg_dv : ∀ t, t < 8 → ∀ k, k < ag_nf t → (ag_kind t k = 2 → defaultValue (sg_ty t k) = .null) ∧ (ag_kind t k ≠ 2 → defaultValue (sg_ty t k) = .int 0) := by decide +kernel
theorem sg_wL0 : Cond.constantLong (sg_R 0) 86 (Int64.ofInt 8) ∈ sg_tb := sg_mem (List.mem_of_getElem? (i := 405) (by decide +kernel)) rfl
theorem sg_wL1 : Cond.constantLong (sg_R 1) 119 (Int64.ofInt 32) ∈ sg_tb := sg_mem (List.mem_of_getElem? (i := 407) (by decide +kernel)) rfl
theorem sg_wF6 : Cond.constantFloat (sg_R 6) 290 1258291200 ∈ sg_tb := sg_mem (List.mem_of_getElem? (i := 691) (by decide +kernel)) rfl
theorem sg_wAI : Cond.arrayClass .int ∈ sg_tb := sg_mem (List.mem_of_getElem? (i := 148) (by decide +kernel)) rfl
theorem sg_wAZ : Cond.arrayClass .boolean ∈ sg_tb := sg_mem (List.mem_of_getElem? (i := 149) (by decide +kernel)) rfl
theorem sg_wAC : Cond.arrayClass .char ∈ sg_tb := sg_mem (List.mem_of_getElem? (i := 779) (by decide +kernel)) rfl
theorem sg_wAJ : Cond.arrayClass .long ∈ sg_tb := sg_mem (List.mem_of_getElem? (i := 166) (by decide +kernel)) rfl
theorem sg_wAO : Cond.arrayOver (.object "BargeChess$Game") ∈ sg_tb := sg_mem (List.mem_of_getElem? (i := 211) (by decide +kernel)) rfl
theorem sg_wMn : Cond.methodLink (sg_R 4) 33 Lib.Math.min.name ∈ sg_tb ∧ Cond.static Lib.Math.min.name ∈ sg_tb ∧ Cond.code Lib.Math.min.name Lib.Math.min.code 2 (some .int) ∈ sg_tb := ⟨sg_mem (List.mem_of_getElem? (i := 366) (by decide +kernel)) rfl, sg_mem (List.mem_of_getElem? (i := 367) (by decide +kernel)) rfl, sg_mem (List.mem_of_getElem? (i := 368) (by decide +kernel)) rfl⟩
theorem sg_wMx : Cond.methodLink (sg_R 2) 26 Lib.Math.max.name ∈ sg_tb ∧ Cond.static Lib.Math.max.name ∈ sg_tb ∧ Cond.code Lib.Math.max.name Lib.Math.max.code 2 (some .int) ∈ sg_tb := ⟨sg_mem (List.mem_of_getElem? (i := 592) (by decide +kernel)) rfl, sg_mem (List.mem_of_getElem? (i := 593) (by decide +kernel)) rfl, sg_mem (List.mem_of_getElem? (i := 594) (by decide +kernel)) rfl⟩
theorem sg_wM : Cond.initialized "java/lang/Math" ∈ sg_tb := sg_mem (List.mem_of_getElem? (i := 98) (by decide +kernel)) rfl
theorem sg_tm : ∀ ci, ci < 9 → ∀ e ∈ ag_tM.getD ci [], (e.2.1 = 11 → ci = 4 ∧ e.1 = 33) ∧ (e.2.1 = 12 → ci = 2 ∧ e.1 = 26) ∧ (e.2.1 = 13 → ci = 7 ∧ e.1 = 211) ∧ (e.2.1 = 14 → ci = 7) := by decide +kernel
theorem sg_tc : ∀ ci, ci < 9 → ∀ e ∈ ag_tC.getD ci [], (ci = 0 ∧ e = (86, vJ 8)) ∨ (ci = 1 ∧ e = (119, vJ 32)) ∨ (ci = 6 ∧ e = (290, vF 1258291200)) ∨ (ci = 7 ∧ e = (174, vX 1)) ∨ (ci = 7 ∧ e = (194, vX 2)) := by
  intro t ht
  have h : t = 0 ∨ t = 1 ∨ t = 2 ∨ t = 3 ∨ t = 4 ∨ t = 5 ∨ t = 6 ∨ t = 7 ∨ t = 8 := by omega
  rcases h with rfl | rfl | rfl | rfl | rfl | rfl | rfl | rfl | rfl
  · exact List.forall_mem_cons.mpr ⟨Or.inl ⟨rfl, rfl⟩, fun _ h => by cases h⟩
  · exact List.forall_mem_cons.mpr ⟨Or.inr (Or.inl ⟨rfl, rfl⟩), fun _ h => by cases h⟩
  · exact fun _ h => by cases h
  · exact fun _ h => by cases h
  · exact fun _ h => by cases h
  · exact fun _ h => by cases h
  · exact List.forall_mem_cons.mpr ⟨Or.inr (Or.inr (Or.inl ⟨rfl, rfl⟩)), fun _ h => by cases h⟩
  · exact List.forall_mem_cons.mpr ⟨Or.inr (Or.inr (Or.inr (Or.inl ⟨rfl, rfl⟩))), List.forall_mem_cons.mpr ⟨Or.inr (Or.inr (Or.inr (Or.inr ⟨rfl, rfl⟩))), fun _ h => by cases h⟩⟩
  · exact fun _ h => by cases h
theorem sg_cw {ci ix : Nat} {v : av} (h : ag_TT.2.2.1 ci ix = some v) : (ci = 0 ∧ (ix, v) = (86, vJ 8)) ∨ (ci = 1 ∧ (ix, v) = (119, vJ 32)) ∨ (ci = 6 ∧ (ix, v) = (290, vF 1258291200)) ∨ (ci = 7 ∧ (ix, v) = (174, vX 1)) ∨ (ci = 7 ∧ (ix, v) = (194, vX 2)) := by
  by_cases hc : ci < 9
  · obtain ⟨j, hj⟩ := sg_find h
    exact sg_tc ci hc _ (List.mem_of_getElem? hj)
  · have h2 : (ag_tC.getD ci []).lookup ix = some v := h
    rw [sg_out (by decide) hc] at h2
    cases h2
theorem sg_mk {ci ix : Nat} {e : Nat × Nat × Nat × Nat} (h : ag_TT.2.1 ci ix = some e) : (e.1 = 11 → ci = 4 ∧ ix = 33) ∧ (e.1 = 12 → ci = 2 ∧ ix = 26) ∧ (e.1 = 13 → ci = 7 ∧ ix = 211) ∧ (e.1 = 14 → ci = 7) := by
  by_cases hc : ci < 9
  · obtain ⟨j, hj⟩ := sg_find h
    exact sg_tm ci hc _ (List.mem_of_getElem? hj)
  · have h2 : (ag_tM.getD ci []).lookup ix = some e := h
    rw [sg_out (by decide) hc] at h2
    cases h2
/-- what lies outside: the script, the two string constants, the statics that String.charAt reads -/
def sg_X (E : Nat × (Int → Int)) (bs : Nat) (ax adV : Nat → Nat) (U : State) : Prop :=
  ax 0 < bs ∧ bs ≤ U.heap.size ∧ va_X (ax 0) E.1 (fun j => Int32.ofInt (E.2 j)) U U.heap ∧
  vk_S 2 [4, 4] [[98, 116, 66, 84], [117, 114, 100, 108]] (fun i => ax (i + 1)) adV (fun q => bs ≤ q) U U.heap ∧
  vk_R "BargeChessModel" 174 "btBT" (ax 1) U ∧ vk_R "BargeChessModel" 194 "urdl" (ax 2) U ∧
  va_Z "java/lang/String" "COMPACT_STRINGS" "Z" (.int 1) (fun q => bs ≤ q) U U.heap ∧
  ∃ v : Value, (v = .null ∨ ∃ a, v = .ref a) ∧ va_Z "jdk/internal/util/Preconditions" "SIOOBE_FORMATTER" "Ljava/util/function/BiFunction;" v (fun q => bs ≤ q) U U.heap
section SGM
variable {p : Program} {l : Launch} {e : Env} {R : Room} {s : State} {m : MethodId} {args : Array Value} {below : List Frame} {meth : Method} {c : Code} {Q : State → Prop} {cc : ByteArray} {nL bs n0 s0 ci : Nat} {dA : Nat → ClassId} {ax adV : Nat → Nat} {D : va_G} {E : Nat × (Int → Int)}
variable {pc : Nat} {ls : List (Option av)} {st : List av} {h : ag_H}
theorem sg_nbs {bs k : Nat} (h : k < bs) : ¬ (fun q : Nat => bs ≤ q) k := Nat.not_le.mpr h
theorem sg_sld (hx : p.tables.exec = Jvm.exec) (hb : c.code = cc) (hX : sg_X E bs ax adV s) {i : Int} (h0 : 0 ≤ i) (h1 : i < E.1) (hn : E.1 ≤ 100000) (hd : decode cc pc = .ok (.iaload, 1)) (kk : sg_J p l e R s m args below meth c Q nL bs n0 s0 dA ax D (pc + 1, ls, vI (E.2 i) :: st, h)) : sg_J p l e R s m args below meth c Q nL bs n0 s0 dA ax D (pc, ls, vI i :: vX 0 :: st, h) := by
  intro H locs rl cells slots hP hz hS hL hc hs
  refine va_sld hx hb hX.2.2.1 (Nat.lt_of_lt_of_le hX.1 hX.2.1) (sg_nbs hX.1) hS (sg_vp h0 h1 hn) hd ?_
  have := kk H locs rl cells slots hP hz hS hL hc hs
  rw [sg_nat h0 (by omega)]
  dsimp only
  rw [sg_idx h0]
  exact this
theorem sg_slen (hx : p.tables.exec = Jvm.exec) (hb : c.code = cc) (hX : sg_X E bs ax adV s) (hd : decode cc pc = .ok (.arraylength, 1)) (kk : sg_J p l e R s m args below meth c Q nL bs n0 s0 dA ax D (pc + 1, ls, vI E.1 :: st, h)) : sg_J p l e R s m args below meth c Q nL bs n0 s0 dA ax D (pc, ls, vX 0 :: st, h) := by
  intro H locs rl cells slots hP hz hS hL hc hs
  refine va_slen hx hb hX.2.2.1 (Nat.lt_of_lt_of_le hX.1 hX.2.1) (sg_nbs hX.1) hS hd ?_
  exact kk H locs rl cells slots hP hz hS hL hc hs
theorem sg_ldc2 (hx : p.tables.exec = Jvm.exec) (hb : c.code = cc) (hts : ∀ w ∈ sg_tb, w.before args s = true) (hown : s.vm.findClass (sg_R ci) = some m.cls) {ix : Nat} {v : av} (hf : ag_TT.2.2.1 ci ix = some v) (hv : ag_wide (some v) = true) (hd : decode cc pc = .ok (.ldc2_w ix, 3)) (kk : sg_J p l e R s m args below meth c Q nL bs n0 s0 dA ax D (pc + 3, ls, v :: st, h)) : sg_J p l e R s m args below meth c Q nL bs n0 s0 dA ax D (pc, ls, st, h) := by
  intro H locs rl cells slots hP hz hS hL hc hs
  have := kk H locs rl cells slots hP hz hS hL hc hs
  rcases sg_cw hf with ⟨rfl, q⟩ | ⟨rfl, q⟩ | ⟨rfl, q⟩ | ⟨rfl, q⟩ | ⟨rfl, q⟩ <;> cases q
  · exact lv_ldc2 (v := Int64.ofInt 8) hx hb hown (hts _ sg_wL0) hd this
  · exact lv_ldc2 (v := Int64.ofInt 32) hx hb hown (hts _ sg_wL1) hd this
  · cases hv
  · cases hv
  · cases hv
theorem sg_ldcwf (hx : p.tables.exec = Jvm.exec) (hb : c.code = cc) {own : String} {index : Nat} {v : UInt32} {rl : Array Slot} {rest : List Value} {H : Heap} {locs : List Loc} {cells slots : Nat} (hown : s.vm.findClass own = some m.cls) (hconst : (Cond.constantFloat own index v).before args s = true) (hdg : decode cc pc = .ok (.ldc_w index, 3)) (k : W p l e R s m args below meth c H locs cells slots Q (F0 m (pc + 3) rl (.float v :: rest))) : W p l e R s m args below meth c H locs cells slots Q (F0 m pc rl rest) := by
  intro T hT X
  obtain ⟨t, a, b⟩ := k T hT X
  refine ⟨t, ?_, b⟩
  obtain ⟨kC, cf, hk, hcf, hcp⟩ := Cond.constantFloat_spec hown hconst
  obtain ⟨k', hk', he⟩ := X.warmed.alike.2.2 _ _ hk
  subst hb
  jvm_step X.here [hx, hdg, ldc_w.wp_float (s := T) (f := F0 m pc rl rest) X.here.top hk' (by rw [he]; exact hcf) hcp]
  exact a
theorem sg_ldcw (hx : p.tables.exec = Jvm.exec) (hb : c.code = cc) (hts : ∀ w ∈ sg_tb, w.before args s = true) (hown : s.vm.findClass (sg_R ci) = some m.cls) {ix : Nat} {v : av} (hf : ag_TT.2.2.1 ci ix = some v) (hv : ag_wide (some v) = false) (h6 : ci ≠ 7) (hd : decode cc pc = .ok (.ldc_w ix, 3)) (kk : sg_J p l e R s m args below meth c Q nL bs n0 s0 dA ax D (pc + 3, ls, v :: st, h)) : sg_J p l e R s m args below meth c Q nL bs n0 s0 dA ax D (pc, ls, st, h) := by
  intro H locs rl cells slots hP hz hS hL hc hs
  have := kk H locs rl cells slots hP hz hS hL hc hs
  rcases sg_cw hf with ⟨rfl, q⟩ | ⟨rfl, q⟩ | ⟨rfl, q⟩ | ⟨rfl, q⟩ | ⟨rfl, q⟩ <;> cases q
  · cases hv
  · cases hv
  · exact sg_ldcwf hx hb hown (hts _ sg_wF6) hd this
  · exact absurd rfl h6
  · exact absurd rfl h6
theorem sg_ldc (hx : p.tables.exec = Jvm.exec) (hb : c.code = cc) (hts : ∀ w ∈ sg_tb, w.before args s = true) (hown : s.vm.findClass (sg_R ci) = some m.cls) (hX : sg_X E bs ax adV s) {ix : Nat} {v : av} (hf : ag_TT.2.2.1 ci ix = some v) (hv : ag_wide (some v) = false) (hd : decode cc pc = .ok (.ldc ix, 2)) (kk : sg_J p l e R s m args below meth c Q nL bs n0 s0 dA ax D (pc + 2, ls, v :: st, h)) : sg_J p l e R s m args below meth c Q nL bs n0 s0 dA ax D (pc, ls, st, h) := by
  intro H locs rl cells slots hP hz hS hL hc hs
  have := kk H locs rl cells slots hP hz hS hL hc hs
  rcases sg_cw hf with ⟨rfl, q⟩ | ⟨rfl, q⟩ | ⟨rfl, q⟩ | ⟨rfl, q⟩ | ⟨rfl, q⟩ <;> cases q
  · cases hv
  · cases hv
  · exact lv_ldcf hx hb hown (hts _ sg_wF6) hd this
  · exact va_ldcS hx hb hown hX.2.2.2.2.1 hd this
  · exact va_ldcS hx hb hown hX.2.2.2.2.2.1 hd this
theorem sg_new (hx : p.tables.exec = Jvm.exec) (hb : c.code = cc) (hts : ∀ w ∈ sg_tb, w.before args s = true) (hown : s.vm.findClass (sg_R ci) = some m.cls) (hK : va_K D vwCl (sg_tys dA) s) {ix t : Nat} (hf : ag_TT.2.2.2 ci ix = some t) (ht : t < 8) (hr1 : h.1.length + 1 ≤ R.cells + n0) (hr2 : sg_ss h.1 + ag_nf t ≤ R.slots + s0) (hd : decode cc pc = .ok (.new ix, 3)) (kk : sg_J p l e R s m args below meth c Q nL bs n0 s0 dA ax D (pc + 3, ls, vA h.1.length :: st, (h.1 ++ [(t, ag_nf t, List.replicate (ag_nf t) none)], ag_zero h.2 h.1.length))) : sg_J p l e R s m args below meth c Q nL bs n0 s0 dA ax D (pc, ls, st, h) := by
  intro H locs rl cells slots hP hz hS hL hc hs
  obtain ⟨sh, mm⟩ := h
  have hE : sg_E bs dA (ag_zero mm sh.length) sh.length (t, ag_nf t, List.replicate (ag_nf t) none) = .inr (t, sg_fs bs (ag_zero mm sh.length) sh.length (t, ag_nf t, List.replicate (ag_nf t) none)) := by
    simp [sg_E, ht]
  dsimp only at hz hc hs hr1 hr2
  refine sg_vnew hx hb hts (sg_lay t ht) (sg_ty t) (sg_tyok t ht) hown (hts _ (sg_nw hf)) (hts _ (sg_iw ht).1) (hts _ (sg_iw ht).2) hK hP hS (sg_cl t ht) (fs := sg_fs bs (ag_zero mm sh.length) sh.length (t, ag_nf t, List.replicate (ag_nf t) none)) (fun j hj => ?_) (by omega) (by omega) hd (fun H1 hP1 hz1 hS1 => ?_)
  · have h1 := sg_fs_get (bs := bs) (ax := ax) (m := ag_zero mm sh.length) (a := sh.length) (t := t) (rs := List.replicate (ag_nf t) none) hj
    have h2 := sg_dv t ht j hj
    unfold vp_V
    rw [List.getD_eq_getElem?_getD, h1]
    by_cases hk : ag_kind t j = 2
    · rw [h2.1 hk, if_pos hk]
      simp [List.getD_eq_getElem?_getD, hj]
      rfl
    · rw [h2.2 hk, if_neg hk]
      simp [ag_zero]
      rfl
  · have hP2 : va_P D vwCl (sg_W bs dA (sh ++ [(t, ag_nf t, List.replicate (ag_nf t) none)], ag_zero mm sh.length)) H1 := by
      rw [sg_W_push hE, ← hz]
      exact hP1
    have := kk H1 locs rl (cells + 1) (slots + ag_nf t) hP2 (by rw [hz1, hz]; simp; omega) hS1 hL (by simp; omega) (by have e := sg_ss_push sh (t, ag_nf t, List.replicate (ag_nf t) none); dsimp only at e ⊢; omega)
    rw [hz]
    exact this
theorem sg_newa (hx : p.tables.exec = Jvm.exec) (hb : c.code = cc) (hts : ∀ w ∈ sg_tb, w.before args s = true) (hK : va_K D vwCl (sg_tys dA) s) {ty : ArrayType} {n : Int} (ht : ag_aty ty ≤ 12) (hn0 : 0 ≤ n) (hn1 : n ≤ 100000) (hr1 : h.1.length + 1 ≤ R.cells + n0) (hr2 : sg_ss h.1 + n.toNat ≤ R.slots + s0) (hd : decode cc pc = .ok (.newarray ty, 2)) (kk : sg_J p l e R s m args below meth c Q nL bs n0 s0 dA ax D (pc + 2, ls, vA h.1.length :: st, (h.1 ++ [(ag_aty ty, n.toNat, [])], ag_zero h.2 h.1.length))) : sg_J p l e R s m args below meth c Q nL bs n0 s0 dA ax D (pc, ls, vI n :: st, h) := by
  intro H locs rl cells slots hP hz hS hL hc hs
  obtain ⟨sh, mm⟩ := h
  dsimp only at hz hc hs hr1 hr2
  have hN : (Int32.ofInt n).toNatClampNeg = n.toNat := by
    show (Int32.ofInt n).toInt.toNat = n.toNat
    rw [sg_ti ⟨by omega, by omega⟩]
  have hneg : ¬ Int32.ofInt n < 0 := by
    rw [show (0 : Int32) = Int32.ofInt 0 from rfl, sg_lt ⟨by omega, by omega⟩ sg_in0]
    omega
  have fin : ∀ (H1 : Heap) (a0 : vp_A), sg_E bs dA (ag_zero mm sh.length) sh.length (ag_aty ty, n.toNat, []) = .inl (dA (ag_aty ty), a0) → va_P D vwCl (sg_W bs dA (sh, mm) ++ [(H.size, .inl (dA (ag_aty ty), a0))]) H1 → H1.size = H.size + 1 → va_S (fun q => bs ≤ q) s.heap H1 locs → W p l e R s m args below meth c H1 locs (cells + 1) (slots + n.toNat) Q (F0 m (pc + 2) rl (.ref H.size :: st.map (sg_up bs ax))) := by
    intro H1 a0 hE hP1 hz1 hS1
    have hP2 : va_P D vwCl (sg_W bs dA (sh ++ [(ag_aty ty, n.toNat, [])], ag_zero mm sh.length)) H1 := by
      rw [sg_W_push hE, ← hz]
      exact hP1
    have := kk H1 locs rl (cells + 1) (slots + n.toNat) hP2 (by rw [hz1, hz]; simp; omega) hS1 hL (by simp; omega) (by have e := sg_ss_push sh (ag_aty ty, n.toNat, []); dsimp only at e ⊢; omega)
    rw [hz]
    exact this
  have z32 : (fun i : Nat => Int32.ofInt (ag_zero mm sh.length sh.length (i : Int))) = fun _ => 0 := by
    funext i
    simp [ag_zero]
    try rfl
  have z64 : (fun i : Nat => Int64.ofInt (ag_zero mm sh.length sh.length (i : Int))) = fun _ => 0 := by
    funext i
    simp [ag_zero]
    try rfl
  cases ty with
  | int =>
    refine sg_vnewa (atype := .int) (a0 := (n.toNat, .inl fun _ => 0)) hx hb (hts _ sg_wAI) (hK.2 0 _ rfl).2 hP hS rfl hneg hN (by show n.toNat * 4 ≤ _; omega) (by omega) (by omega) hd (fun H1 hP1 hz1 hS1 => fin H1 _ ?_ hP1 hz1 hS1)
    show (.inl (dA 8, n.toNat, .inl fun i : Nat => Int32.ofInt (ag_zero mm sh.length sh.length (i : Int))) : va_E) = _
    rw [z32]
    rfl
  | boolean =>
    refine sg_vnewa (atype := .boolean) (a0 := (n.toNat, .inl fun _ => 0)) hx hb (hts _ sg_wAZ) (hK.2 1 _ rfl).2 hP hS rfl hneg hN (by show n.toNat * 1 ≤ _; omega) (by omega) (by omega) hd (fun H1 hP1 hz1 hS1 => fin H1 _ ?_ hP1 hz1 hS1)
    show (.inl (dA 9, n.toNat, .inl fun i : Nat => Int32.ofInt (ag_zero mm sh.length sh.length (i : Int))) : va_E) = _
    rw [z32]
    rfl
  | char =>
    refine sg_vnewa (atype := .char) (a0 := (n.toNat, .inl fun _ => 0)) hx hb (hts _ sg_wAC) (hK.2 2 _ rfl).2 hP hS rfl hneg hN (by show n.toNat * 2 ≤ _; omega) (by omega) (by omega) hd (fun H1 hP1 hz1 hS1 => fin H1 _ ?_ hP1 hz1 hS1)
    show (.inl (dA 10, n.toNat, .inl fun i : Nat => Int32.ofInt (ag_zero mm sh.length sh.length (i : Int))) : va_E) = _
    rw [z32]
    rfl
  | long =>
    refine sg_vnewa (atype := .long) (a0 := (n.toNat, .inr (.inl fun _ => 0))) hx hb (hts _ sg_wAJ) (hK.2 3 _ rfl).2 hP hS rfl hneg hN (by show n.toNat * 8 ≤ _; omega) (by omega) (by omega) hd (fun H1 hP1 hz1 hS1 => fin H1 _ ?_ hP1 hz1 hS1)
    show (.inl (dA 11, n.toNat, .inr (.inl fun i : Nat => Int64.ofInt (ag_zero mm sh.length sh.length (i : Int)))) : va_E) = _
    rw [z64]
    rfl
  | _ => exact absurd ht (by decide)
theorem sg_anew (hx : p.tables.exec = Jvm.exec) (hb : c.code = cc) (hts : ∀ w ∈ sg_tb, w.before args s = true) (hown : s.vm.findClass (sg_R ci) = some m.cls) (hK : va_K D vwCl (sg_tys dA) s) {ix : Nat} {n : Int} (hf : ag_TT.2.2.2 ci ix = some 1) (hn0 : 0 ≤ n) (hn1 : n ≤ 100000) (hr1 : h.1.length + 1 ≤ R.cells + n0) (hr2 : sg_ss h.1 + n.toNat ≤ R.slots + s0) (hd : decode cc pc = .ok (.anewarray ix, 3)) (kk : sg_J p l e R s m args below meth c Q nL bs n0 s0 dA ax D (pc + 3, ls, vA h.1.length :: st, (h.1 ++ [(12, n.toNat, List.replicate n.toNat none)], ag_zero h.2 h.1.length))) : sg_J p l e R s m args below meth c Q nL bs n0 s0 dA ax D (pc, ls, vI n :: st, h) := by
  intro H locs rl cells slots hP hz hS hL hc hs
  obtain ⟨sh, mm⟩ := h
  dsimp only at hz hc hs hr1 hr2
  have hN : (Int32.ofInt n).toNatClampNeg = n.toNat := by
    show (Int32.ofInt n).toInt.toNat = n.toNat
    rw [sg_ti ⟨by omega, by omega⟩]
  have hneg : ¬ Int32.ofInt n < 0 := by
    rw [show (0 : Int32) = Int32.ofInt 0 from rfl, sg_lt ⟨by omega, by omega⟩ sg_in0]
    omega
  have hfn : (fun i => ((List.replicate n.toNat (none : Option Nat)).getD i none).map (bs + ·)) = fun _ => none := by
    funext i
    simp only [List.getD_eq_getElem?_getD, List.getElem?_replicate]
    split <;> rfl
  obtain ⟨kA, comp, k1, k2, k3, k4⟩ := (hK.2 4 _ rfl).2
  refine sg_vnewq hx hb hown (hts _ (sg_nw hf)) (hts _ sg_wAO) k4 hP hS hneg hN (by omega) (by omega) (by omega) hd hfn (fun H1 hP1 hz1 hS1 => ?_)
  have hP2 : va_P D vwCl (sg_W bs dA (sh ++ [(12, n.toNat, List.replicate n.toNat none)], ag_zero mm sh.length)) H1 := by
    rw [sg_W_push rfl, ← hz]
    exact hP1
  have := kk H1 locs rl (cells + 1) (slots + n.toNat) hP2 (by rw [hz1, hz]; simp; omega) hS1 hL (by simp; omega) (by have e := sg_ss_push sh (12, n.toNat, List.replicate n.toNat none); dsimp only at e ⊢; omega)
  rw [hz]
  exact this
end SGM
