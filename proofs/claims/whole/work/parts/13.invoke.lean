/-! the three kinds of call -/
section SGC
variable {p : Program} {l : Launch} {e : Env} {R : Room} {s : State} {m : MethodId} {args : Array Value} {below : List Frame} {meth : Method} {c : Code} {Q : State → Prop} {cc : ByteArray} {nL bs n0 s0 ci : Nat} {dA : Nat → ClassId} {ax adV : Nat → Nat} {D : va_G} {E : Nat × (Int → Int)}
variable {pc : Nat} {ls : List (Option av)} {st : List av} {h : ag_H}
theorem sg_parm {y n : Nat} (h : sg_par y n = true) : ∀ sig, parseMethodDescriptor (sg_yo y).desc = some sig → n = sig.parameters.length := by
  intro sig hsig
  have h2 := of_decide_eq_true h
  rw [hsig] at h2
  exact (Option.some.inj h2).symm
set_option maxRecDepth 100000 in
theorem sg_room {d c n y : Nat} {R : Room} (hf : d + 11 ≤ R.frames) (hl : 100 * d + 700 ≤ R.locals) (hm : (sg_Mo y).2.2.2.1 ≤ 40) : (sg_rm d c n).frames + 1 ≤ R.frames ∧ 8 + ((sg_Mo y).2.2.2.1 + 11) + (sg_rm d c n).locals ≤ R.locals :=
  ⟨hf, Nat.le_trans (Nat.add_le_add_right (Nat.add_le_add_left (Nat.add_le_add_right hm 11) 8) _) (Nat.le_trans (show 8 + (40 + 11) + (100 * d + 600) ≤ 100 * d + 700 by omega) hl)⟩
theorem sg_maxl : ∀ y, y < 171 → (sg_Mo y).2.2.2.1 ≤ 40 := by decide +kernel
/-- invokestatic -/
theorem sg_callS (hx : p.tables.exec = Jvm.exec) (hb : c.code = cc) (hml : c.maxLocals = nL) (hts : ∀ w ∈ sg_tb, w.before args s = true) (hown : s.vm.findClass (sg_R ci) = some m.cls) (hK : va_K D vwCl (sg_tys dA) s) (hX : sg_X E bs ax adV s) {d ix y n t : Nat} {o : Option av} {h' : ag_H} (hf : ag_TT.2.1 ci ix = some (1, y, n, t)) (hn : n ≤ st.length) (hr4 : (st.drop n).length ≤ 4) (hM : sg_Met D dA bs ax adV E l d y (st.take n).reverse h o h') (hR1 : d + 11 ≤ R.frames) (hR2 : 100 * d + 700 ≤ R.locals) (hm1 : h.1.length ≤ h'.1.length) (hm2 : sg_ss h.1 ≤ sg_ss h'.1) (hc9 : h'.1.length ≤ R.cells + n0) (hs9 : sg_ss h'.1 ≤ R.slots + s0) (hd : decode cc pc = .ok (.invokestatic ix, 3)) (kk : sg_J p l e R s m args below meth c Q nL bs n0 s0 dA ax D (pc + 3, ls, ag_push o (st.drop n), h')) : sg_J p l e R s m args below meth c Q nL bs n0 s0 dA ax D (pc, ls, st, h) := by
  intro H locs rl cells slots hP hz hS hL hc hs
  dsimp only at hP hz hL hc hs
  obtain ⟨q, hq⟩ := sg_mw hf
  change (decide (y < 171) && sg_at q.2.1 (sg_lk q.1 ci ix y) && sg_at q.2.2.1 (.static (sg_yo y)) && sg_par y n) = true at hq
  simp only [Bool.and_eq_true, decide_eq_true_eq] at hq
  obtain ⟨⟨⟨hy, hlk⟩, hst⟩, hpar⟩ := hq
  have ho := sg_ownf hy
  have hA : ((st.take n).reverse.map (sg_up bs ax)).length = n := by simp; omega
  have hstk : st.map (sg_up bs ax) = ((st.take n).reverse.map (sg_up bs ax)).reverse ++ (st.drop n).map (sg_up bs ax) := by
    rw [← List.map_reverse, List.reverse_reverse, ← List.map_append, List.take_append_drop]
  have hrm := sg_room (c := h'.1.length - h.1.length) (n := sg_ss h'.1 - sg_ss h.1) hR1 hR2 (sg_maxl y hy)
  have hws := sg_wsin hts hy
  have hPre : PreS s H (sg_Pc D dA bs ax adV E (st.take n).reverse h) ((st.take n).reverse.map (sg_up bs ax)) := ⟨sg_blind, fun U hU hW => ⟨rfl, sg_enter hts hK hX hP hz hS U hU hW⟩⟩
  refine sg_back (a := ((st.take n).reverse.map (sg_up bs ax)).toArray) (rest := st.drop n) (o := o) (h' := h') hL hS hX.2.1 hc hs hz hm1 hm2 ?_ kk
  unfold sg_lk at hlk
  by_cases h0 : q.1 = 0
  · rw [if_pos h0] at hlk
    exact va_runS (As := (st.take n).reverse.map (sg_up bs ax)) ⟨hx, hb, hml, hown, hts⟩ hM ⟨⟨rfl, rfl, hrm.1, hrm.2, hws, List.mem_cons_self, hts _ ho.1, hts _ ho.2.1, ho.2.2.1, sg_parm hpar, hts _ (sg_mem (sg_atm hlk) rfl)⟩, hts _ (sg_mem (sg_atm hst) rfl)⟩ hPre rfl hA hL.1.1 hstk (lv_room (sg_cats hr4)) hd ⟨by omega, by omega⟩
  · rw [if_neg h0] at hlk
    exact va_runSN (host := sg_host) (As := (st.take n).reverse.map (sg_up bs ax)) ⟨hx, hb, hml, hown, hts⟩ hM ⟨⟨⟨rfl, rfl, hrm.1, hrm.2, hws, List.mem_cons_self⟩, hts _ ho.1, hts _ ho.2.1, ho.2.2.1, sg_parm hpar, hts _ (sg_mem (sg_atm hlk) rfl)⟩, hts _ (sg_mem (sg_atm hst) rfl), trivial⟩ hPre rfl hA hL.1.1 hstk (lv_room (sg_cats hr4)) hd ⟨by omega, by omega⟩
theorem sg_recvd {as : List av} {t : Nat} (h2 : ag_recv h as t = true) : ∃ (a : Nat) (as' : List av) (n : Nat) (rs : List (Option Nat)), as = vA a :: as' ∧ h.1[a]? = some (t, n, rs) := by
  unfold ag_recv at h2
  split at h2
  · rename_i a as'
    split at h2
    · rename_i t' q' hq
      rw [beq_iff_eq] at h2
      subst h2
      exact ⟨a, as', q'.1, q'.2, rfl, hq⟩
    · cases h2
  · cases h2
/-- invokevirtual -/
theorem sg_callV (hx : p.tables.exec = Jvm.exec) (hb : c.code = cc) (hml : c.maxLocals = nL) (hts : ∀ w ∈ sg_tb, w.before args s = true) (hown : s.vm.findClass (sg_R ci) = some m.cls) (hK : va_K D vwCl (sg_tys dA) s) (hX : sg_X E bs ax adV s) {d ix y n t : Nat} {o : Option av} {h' : ag_H} (hf : ag_TT.2.1 ci ix = some (2, y, n, t)) (hn : n ≤ st.length) (hr4 : (st.drop n).length ≤ 4) (hrc : ag_recv h (st.take n).reverse t = true) (hM : sg_Met D dA bs ax adV E l d y (st.take n).reverse h o h') (hR1 : d + 11 ≤ R.frames) (hR2 : 100 * d + 700 ≤ R.locals) (hm1 : h.1.length ≤ h'.1.length) (hm2 : sg_ss h.1 ≤ sg_ss h'.1) (hc9 : h'.1.length ≤ R.cells + n0) (hs9 : sg_ss h'.1 ≤ R.slots + s0) (hd : decode cc pc = .ok (.invokevirtual ix, 3)) (kk : sg_J p l e R s m args below meth c Q nL bs n0 s0 dA ax D (pc + 3, ls, ag_push o (st.drop n), h')) : sg_J p l e R s m args below meth c Q nL bs n0 s0 dA ax D (pc, ls, st, h) := by
  intro H locs rl cells slots hP hz hS hL hc hs
  dsimp only at hP hz hL hc hs
  obtain ⟨q, hq⟩ := sg_mw hf
  change (decide (y < 171) && sg_at q.2.1 (sg_lk q.1 ci ix y) && sg_at q.2.2.1 (.instanceMethod (sg_yo y)) && sg_at q.2.2.2 (.selects (sg_R t) (sg_yo y) (sg_yo y)) && sg_par y (n - 1) && decide (0 < n ∧ t < 8)) = true at hq
  simp only [Bool.and_eq_true, decide_eq_true_eq] at hq
  obtain ⟨⟨⟨⟨⟨hy, hlk⟩, hin⟩, hse⟩, hpar⟩, hn0, ht⟩ := hq
  obtain ⟨a, as', k9, rs9, has, hcell⟩ := sg_recvd hrc
  have ho := sg_ownf hy
  have hlen : as'.length + 1 = n := by
    have := congrArg List.length has
    simp at this
    omega
  have hA : (as'.map (sg_up bs ax)).length = n - 1 := by simp; omega
  have hstk : st.map (sg_up bs ax) = (as'.map (sg_up bs ax)).reverse ++ .ref (bs + a) :: (st.drop n).map (sg_up bs ax) := by
    have h1 : st.take n = as'.reverse ++ [vA a] := by
      have := congrArg List.reverse has
      simpa using this
    have h2 : st = as'.reverse ++ [vA a] ++ st.drop n := by rw [← h1, List.take_append_drop]
    have h3 := congrArg (List.map (sg_up bs ax)) h2
    rw [h3]
    simp [sg_up]
  have hrm := sg_room (c := h'.1.length - h.1.length) (n := sg_ss h'.1 - sg_ss h.1) hR1 hR2 (sg_maxl y hy)
  have hws := sg_wsin hts hy
  have hup : (st.take n).reverse.map (sg_up bs ax) = .ref (bs + a) :: as'.map (sg_up bs ax) := by rw [has]; rfl
  have hcW : (sg_W bs dA h)[a]? = some (bs + a, .inr (t, sg_fs bs h.2 a (t, k9, rs9))) := by
    rw [sg_W_get hcell]
    simp [sg_E, ht]
  have hPre : PreV s H (sg_R t) (bs + a) (sg_Pc D dA bs ax adV E (st.take n).reverse h) (as'.map (sg_up bs ax)) := ⟨sg_blind, va_recv hK hP (sg_cl t ht) hcW, fun U hU hW => ⟨by rw [hup], sg_enter hts hK hX hP hz hS U hU hW⟩⟩
  refine sg_back (a := (Value.ref (bs + a) :: as'.map (sg_up bs ax)).toArray) (rest := st.drop n) (o := o) (h' := h') hL hS hX.2.1 hc hs hz hm1 hm2 ?_ kk
  unfold sg_lk at hlk
  by_cases h0 : q.1 = 0
  · rw [if_pos h0] at hlk
    exact va_runV (C := sg_R t) (b := bs + a) (As := as'.map (sg_up bs ax)) ⟨hx, hb, hml, hown, hts⟩ hM ⟨⟨rfl, rfl, hrm.1, hrm.2, hws, List.mem_cons_self, hts _ ho.1, hts _ ho.2.1, ho.2.2.1, sg_parm hpar, hts _ (sg_mem (sg_atm hlk) rfl)⟩, hts _ (sg_mem (sg_atm hin) rfl), hts _ (sg_mem (sg_atm hse) rfl)⟩ hPre rfl hA hL.1.1 hstk (lv_room (sg_cats hr4)) hd ⟨by omega, by omega⟩
  · rw [if_neg h0] at hlk
    exact va_runVN (C := sg_R t) (b := bs + a) (host := sg_host) (As := as'.map (sg_up bs ax)) ⟨hx, hb, hml, hown, hts⟩ hM ⟨⟨⟨rfl, rfl, hrm.1, hrm.2, hws, List.mem_cons_self⟩, hts _ ho.1, hts _ ho.2.1, ho.2.2.1, sg_parm hpar, hts _ (sg_mem (sg_atm hlk) rfl)⟩, hts _ (sg_mem (sg_atm hin) rfl), hts _ (sg_mem (sg_atm hse) rfl)⟩ hPre rfl hA hL.1.1 hstk (lv_room (sg_cats hr4)) hd ⟨by omega, by omega⟩
/-- invokespecial of a constructor of the claim's own classes -/
theorem sg_callI (hx : p.tables.exec = Jvm.exec) (hb : c.code = cc) (hml : c.maxLocals = nL) (hts : ∀ w ∈ sg_tb, w.before args s = true) (hown : s.vm.findClass (sg_R ci) = some m.cls) (hK : va_K D vwCl (sg_tys dA) s) (hX : sg_X E bs ax adV s) {d ix y n t : Nat} {o : Option av} {h' : ag_H} (hf : ag_TT.2.1 ci ix = some (3, y, n, t)) (hn : n ≤ st.length) (hr4 : (st.drop n).length ≤ 4) (hrc : ag_recv h (st.take n).reverse t = true) (hM : sg_Met D dA bs ax adV E l d y (st.take n).reverse h o h') (hR1 : d + 11 ≤ R.frames) (hR2 : 100 * d + 700 ≤ R.locals) (hm1 : h.1.length ≤ h'.1.length) (hm2 : sg_ss h.1 ≤ sg_ss h'.1) (hc9 : h'.1.length ≤ R.cells + n0) (hs9 : sg_ss h'.1 ≤ R.slots + s0) (hd : decode cc pc = .ok (.invokespecial ix, 3)) (kk : sg_J p l e R s m args below meth c Q nL bs n0 s0 dA ax D (pc + 3, ls, ag_push o (st.drop n), h')) : sg_J p l e R s m args below meth c Q nL bs n0 s0 dA ax D (pc, ls, st, h) := by
  intro H locs rl cells slots hP hz hS hL hc hs
  dsimp only at hP hz hL hc hs
  obtain ⟨q, hq⟩ := sg_mw hf
  change (decide (y < 171) && sg_at q.2.1 (sg_lk q.1 ci ix y) && sg_at q.2.2.1 (.instanceMethod (sg_yo y)) && decide ((sg_yo y).name = "<init>" ∧ (sg_Mo y).2.1 = 0) && sg_par y (n - 1) && decide (0 < n ∧ t < 8)) = true at hq
  simp only [Bool.and_eq_true, decide_eq_true_eq] at hq
  obtain ⟨⟨⟨⟨⟨hy, hlk⟩, hin⟩, hnm, hrt⟩, hpar⟩, hn0, ht⟩ := hq
  obtain ⟨a, as', k9, rs9, has, hcell⟩ := sg_recvd hrc
  have ho := sg_ownf hy
  have hlen : as'.length + 1 = n := by
    have := congrArg List.length has
    simp at this
    omega
  have hA : (as'.map (sg_up bs ax)).length = n - 1 := by simp; omega
  have hstk : st.map (sg_up bs ax) = (as'.map (sg_up bs ax)).reverse ++ .ref (bs + a) :: (st.drop n).map (sg_up bs ax) := by
    have h1 : st.take n = as'.reverse ++ [vA a] := by
      have := congrArg List.reverse has
      simpa using this
    have h2 : st = as'.reverse ++ [vA a] ++ st.drop n := by rw [← h1, List.take_append_drop]
    have h3 := congrArg (List.map (sg_up bs ax)) h2
    rw [h3]
    simp [sg_up]
  have hrm := sg_room (c := h'.1.length - h.1.length) (n := sg_ss h'.1 - sg_ss h.1) hR1 hR2 (sg_maxl y hy)
  have hws := sg_wsin hts hy
  have hup : (st.take n).reverse.map (sg_up bs ax) = .ref (bs + a) :: as'.map (sg_up bs ax) := by rw [has]; rfl
  have hPre : PreS s H (sg_Pc D dA bs ax adV E (st.take n).reverse h) (.ref (bs + a) :: as'.map (sg_up bs ax)) := ⟨sg_blind, fun U hU hW => ⟨by rw [hup], sg_enter hts hK hX hP hz hS U hU hW⟩⟩
  have hcode : sg_code y = .code (sg_yo y) (sg_co y) (sg_Mo y).2.2.2.1 none := by
    unfold sg_code
    rw [hrt]
    rfl
  have hcm : Cond.code (sg_yo y) (sg_co y) (sg_Mo y).2.2.2.1 none ∈ sg_ws y := by rw [← hcode]; exact List.mem_cons_self
  refine sg_back (a := (Value.ref (bs + a) :: as'.map (sg_up bs ax)).toArray) (rest := st.drop n) (o := o) (h' := h') hL hS hX.2.1 hc hs hz hm1 hm2 ?_ kk
  unfold sg_lk at hlk
  by_cases h0 : q.1 = 0
  · rw [if_pos h0] at hlk
    exact va_runI (b := bs + a) (As := as'.map (sg_up bs ax)) ⟨hx, hb, hml, hown, hts⟩ hM ⟨⟨rfl, rfl, hrm.1, hrm.2, hws, hcm, hts _ (by rw [← hcode]; exact ho.1), hts _ ho.2.1, ho.2.2.1, sg_parm hpar, hts _ (sg_mem (sg_atm hlk) rfl)⟩, hnm, hts _ (sg_mem (sg_atm hin) rfl)⟩ hPre rfl hA hL.1.1 hstk (lv_room (sg_cats hr4)) hd ⟨by omega, by omega⟩
  · rw [if_neg h0] at hlk
    exact va_runIN (b := bs + a) (host := sg_host) (As := as'.map (sg_up bs ax)) ⟨hx, hb, hml, hown, hts⟩ hM ⟨⟨⟨rfl, rfl, hrm.1, hrm.2, hws, hcm⟩, hts _ (by rw [← hcode]; exact ho.1), hts _ ho.2.1, ho.2.2.1, sg_parm hpar, hts _ (sg_mem (sg_atm hlk) rfl)⟩, hnm, hts _ (sg_mem (sg_atm hin) rfl)⟩ hPre rfl hA hL.1.1 hstk (lv_room (sg_cats hr4)) hd ⟨by omega, by omega⟩
end SGC
