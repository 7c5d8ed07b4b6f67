/-! what the abstract machine answers, the machine answers -/
theorem sg_args_len (bs : Nat) (ax : Nat → Nat) : ∀ as : List av, (lg_sl (as.map (sg_up bs ax))).length = (ag_args as).length := by
  intro as
  induction as with
  | nil => rfl
  | cons v as ih =>
    have hc := sg_cat bs ax v
    rw [List.map_cons]
    unfold lg_sl at ih ⊢
    rw [List.flatMap_cons]
    unfold ag_args
    by_cases hw : ag_wide (some v) = true
    · rw [if_pos hw] at hc ⊢
      rw [if_pos hc]
      simp [ih]
    · rw [if_neg hw] at hc ⊢
      rw [if_neg (by rw [hc]; decide)]
      simp [ih]
theorem sg_args_in (bs : Nat) (ax : Nat → Nat) : ∀ (as : List av) (i j : Nat) (v : av), (ag_args as)[j]? = some (some v) → (i + j, sg_up bs ax v) ∈ lv_args i (as.map (sg_up bs ax)) := by
  intro as
  induction as with
  | nil => intro i j v h; simp [ag_args] at h
  | cons u as ih =>
    intro i j v h
    have hc := sg_cat bs ax u
    rw [List.map_cons]
    unfold lv_args
    unfold ag_args at h
    by_cases hw : ag_wide (some u) = true
    · rw [if_pos hw] at hc h
      rw [if_pos hc]
      cases j with
      | zero =>
        cases h
        exact List.mem_cons_self
      | succ j =>
        cases j with
        | zero => simp at h
        | succ j =>
          have h2 := ih (i + 2) j v (by simpa using h)
          rw [show i + (j + 1 + 1) = i + 2 + j by omega]
          exact List.mem_cons_of_mem _ h2
    · rw [if_neg hw] at hc h
      rw [if_neg (by rw [hc]; decide)]
      cases j with
      | zero =>
        cases h
        exact List.mem_cons_self
      | succ j =>
        have h2 := ih (i + 1) j v (by simpa using h)
        rw [show i + (j + 1) = i + 1 + j by omega]
        exact List.mem_cons_of_mem _ h2
theorem sg_entryL {bs : Nat} {ax : Nat → Nat} {as : List av} {n : Nat} (h : (ag_args as).length ≤ n) : sg_L bs ax n (ag_entry n as) ((lg_sl (as.map (sg_up bs ax)) ++ List.replicate (n - (lg_sl (as.map (sg_up bs ax))).length) Slot.unset).toArray) := by
  have hl := lv_entry (as.map (sg_up bs ax)) (n := n) (by rw [sg_args_len]; exact h)
  refine ⟨⟨hl.1, hl.2.1, fun q hq => ?_⟩, by unfold ag_entry; simp; omega⟩
  obtain ⟨j, w⟩ := q
  obtain ⟨v, hv, rfl⟩ := sg_lv_mem.mp hq
  apply hl.2.2
  have h2 : (ag_args as)[j]? = some (some v) := by
    unfold ag_entry at hv
    rw [List.getElem?_append] at hv
    split at hv
    · exact hv
    · rw [List.getElem?_replicate] at hv
      split at hv <;> cases hv
  have h3 := sg_args_in bs ax as 0 j v h2
  rwa [Nat.zero_add] at h3
theorem sg_initn : ∀ y, y < 171 → (sg_Mo y).2.2.1 = true → (sg_yo y).name = "<init>" := by decide +kernel
section SGS
variable {p : Program} {l : Launch} {e : Env} {R : Room} {s : State} {m : MethodId} {args : Array Value} {below : List Frame} {meth : Method} {c : Code} {cc : ByteArray} {nL bs n0 s0 ci : Nat} {dA : Nat → ClassId} {ax adV : Nat → Nat} {D : va_G} {E : Nat × (Int → Int)}
theorem sg_return (hx : p.tables.exec = Jvm.exec) (hb : c.code = cc) (hbs : bs ≤ s.heap.size) {rt : Nat} (hr : meth.sig.returnType = sg_ret rt) (hlocks : meth.locks = false) {ini : Bool} {call : Nat → List av → ag_H → Option ag_O} {i : Instr} {len pc : Nat} {ls : List (Option av)} {st : List av} {h : ag_H} {o : Option av} {h' : ag_H} (hd : decode cc pc = .ok (i, len)) (hc : sg_chk pc i len = true) (hs : ag_step ag_TT call E ci rt ini i len pc ls st h = some (.inr (o, h'))) : sg_J p l e R s m args below meth c (MQ below (sg_Qc D dA bs ax o h') args s (h'.1.length - n0) (sg_ss h'.1 - s0) (fun q => bs ≤ q)) nL bs n0 s0 dA ax D (pc, ls, st, h) := by
  intro H locs rl cells slots hP hz hS hL hcl hsl
  obtain ⟨rfl, hans⟩ := sg_ansh hs
  dsimp only at hP hz hL hcl hsl
  have e1 : cells = h'.1.length - n0 := by omega
  have e2 : slots = sg_ss h'.1 - s0 := by omega
  subst e1
  subst e2
  have fin : ∀ (v : Option Value) (t : State), v = o.map (sg_up bs ax) → t.heap = H → sg_Qc D dA bs ax o h' args s (.returned v) t := by
    intro v t hv ht
    subst hv
    refine ⟨rfl, by rw [ht]; exact hP, by rw [ht]; exact hz, fun q hq => ?_⟩
    rw [ht]
    exact hS.2.1 q (Nat.lt_of_lt_of_le hq hbs) (Nat.not_le.mpr hq)
  rcases hans with ⟨rfl, rfl, rfl, rfl⟩ | ⟨v, rfl, rfl, hv, hi⟩
  · have hl := eq_of_beq hc
    subst hl
    exact W.vret hx hb hr (fun t ht _ => fin none t rfl ht) hS.2.2 hd hlocks
  · rcases hi with ⟨rfl, hrt⟩ | ⟨rfl, hrt⟩ | ⟨rfl, hrt⟩
    · have hl := eq_of_beq hc
      subst hl
      rcases v with z | z | b | r | k
      · have hv2 := of_decide_eq_true hv
        rcases hrt with rfl | rfl
        · exact W.iret (v := Int32.ofInt z) hx hb hr (fun t ht _ => fin (some (.int (Int32.ofInt z))) t rfl ht) hS.2.2 hd hlocks
        · have hz2 : z = 0 ∨ z = 1 := by
            rcases hv2 with q | ⟨-, q⟩
            · cases q
            · exact q
          have hn : narrow .boolean (.int (Int32.ofInt z)) = .int (Int32.ofInt z) := by
            rcases hz2 with rfl | rfl <;> decide +kernel
          exact W.zret (v := Int32.ofInt z) (ty := .boolean) hx hb hr hn (fun t ht _ => fin (some (.int (Int32.ofInt z))) t rfl ht) hS.2.2 hd hlocks
      · have hv2 := of_decide_eq_true hv
        omega
      · cases hv
      · have hv2 := of_decide_eq_true hv
        omega
      · cases hv
    · have hl := eq_of_beq hc
      subst hl
      subst hrt
      rcases v with z | z | b | r | k
      · simp [ag_rv] at hv
      · exact W.lret (v := Int64.ofInt z) hx hb hr (fun t ht _ => fin (some (.long (Int64.ofInt z))) t rfl ht) hS.2.2 hd hlocks
      · cases hv
      · simp [ag_rv] at hv
      · cases hv
    · have hl := eq_of_beq hc
      subst hl
      subst hrt
      rcases v with z | z | b | r | k
      · simp [ag_rv] at hv
      · simp [ag_rv] at hv
      · cases hv
      · have hw : sg_rf bs r = .null ∨ ∃ a, sg_rf bs r = .ref a := by
          cases r with
          | none => exact Or.inl rfl
          | some a => exact Or.inr ⟨_, rfl⟩
        show W p l e R s m args below meth c H locs _ _ _ (F0 m pc rl [sg_up bs ax (vR r)])
        rw [sg_upR]
        exact W.aret (v := sg_rf bs r) (rt := .object "BargeChess$Game") hx hb hr (Or.inl ⟨_, rfl⟩) hw (fun t ht _ => fin (some (sg_rf bs r)) t (by rw [← sg_upR bs ax]; rfl) ht) hS.2.2 hd hlocks
      · cases hv
theorem sg_run (hx : p.tables.exec = Jvm.exec) (hb : c.code = cc) (hml : c.maxLocals = nL) (hts : ∀ w ∈ sg_tb, w.before args s = true) {M : ag_M} (hown : s.vm.findClass (sg_R M.1) = some m.cls) (hK : va_K D vwCl (sg_tys dA) s) (hX : sg_X E bs ax adV s) {d : Nat} {call : Nat → List av → ag_H → Option ag_O} (hini : M.2.2.1 = true → meth.name = "<init>")
    (hcall : ∀ y as h o h', call y as h = some (o, h') → sg_Met D dA bs ax adV E l d y as h o h' ∧ h.1.length ≤ h'.1.length ∧ sg_ss h.1 ≤ sg_ss h'.1) (hR1 : d + 11 ≤ R.frames) (hR2 : 100 * d + 700 ≤ R.locals) (hr : meth.sig.returnType = sg_ret M.2.1) (hlocks : meth.locks = false) (hdec : sg_dec cc M.2.2.2.2 = true) (hchk : sg_chks M.2.2.2.2 = true) :
    ∀ (n : Nat) (f : ag_F) (o : Option av) (h' : ag_H), ag_run ag_TT call E M n f = some (o, h') → h'.1.length ≤ R.cells + n0 → sg_ss h'.1 ≤ R.slots + s0 → sg_J p l e R s m args below meth c (MQ below (sg_Qc D dA bs ax o h') args s (h'.1.length - n0) (sg_ss h'.1 - s0) (fun q => bs ≤ q)) nL bs n0 s0 dA ax D f := by
  intro n
  induction n with
  | zero => intro f o h' hr; cases hr
  | succ n ih =>
    intro f o h' hrun hr1 hr2
    obtain ⟨pc, ls, st, h⟩ := f
    unfold ag_run at hrun
    split at hrun
    · rename_i i len hq
      have hd : decode cc pc = .ok (i, len) := sg_at_dec hdec hq
      have hck : sg_chk pc i len = true := sg_at_chk hchk hq
      split at hrun
      · rename_i f1 hs
        have hm := sg_runm (fun y as h o h' hc => (hcall y as h o h' hc).2) n f1 o h' hrun
        exact sg_step hx hb hml hts hown hK hX hini hcall hR1 hR2 hd hck hs (Nat.le_trans hm.1 hr1) (Nat.le_trans hm.2 hr2) (ih f1 o h' hrun hr1 hr2)
      · rename_i o1 hs
        cases hrun
        exact sg_return hx hb hX.2.1 hr hlocks hd hck hs
      · cases hrun
    · cases hrun
end SGS
set_option maxRecDepth 100000 in
/-- the abstract machine's calls are the machine's -/
theorem sg_sound (l : Launch) (D : va_G) (dA : Nat → ClassId) (bs : Nat) (ax adV : Nat → Nat) (E : Nat × (Int → Int)) (fuel : Nat) : ∀ (d y : Nat) (as : List av) (h : ag_H) (o : Option av) (h' : ag_H), ag_call ag_TT ag_Ms E fuel d y as h = some (o, h') → sg_Met D dA bs ax adV E l d y as h o h' ∧ h.1.length ≤ h'.1.length ∧ sg_ss h.1 ≤ sg_ss h'.1 := by
  intro d
  induction d with
  | zero => intro y as h o h' hc; cases hc
  | succ d ih =>
    intro y as h o h' hc
    have hmono := sg_callm _ _ _ _ _ _ hc
    refine ⟨?_, hmono⟩
    unfold ag_call at hc
    split at hc
    · rename_i M hM
      obtain ⟨hlen, hrun⟩ := ag_ck_inv hc
      obtain ⟨hMo, hy, hdec, hchk⟩ := sg_mo hM
      have ho := sg_ownf hy
      unfold sg_Met
      refine Met.ofW (cc := sg_co y) (maxL := (sg_Mo y).2.2.2.1) (ret := sg_ret (sg_Mo y).2.1) ho.2.2.2.2.1 rfl ?_
      intro p e s m args below meth c s₁ B hml hv
      obtain ⟨rfl, hIn⟩ := hv
      have hx := B.exec
      have hb := B.bytes
      have hr := B.returns
      have hlocks := B.notSynchronized
      have hown : s.vm.findClass (sg_yo y).cls = some m.cls := findClass_of_methodNamed B.named
      rw [ho.2.2.2.1] at hown
      have hgd : ∀ w ∈ sg_Gd, w.before (as.map (sg_up bs ax)).toArray s = true := fun w hw => atoms_spec (ws := sg_ws y) B.pre w (List.mem_cons_of_mem _ hw)
      have hts : ∀ w ∈ sg_tb, w.before (as.map (sg_up bs ax)).toArray s = true := by
        intro w hw
        cases hg : goodWord w with
        | true => exact hgd w (List.mem_filter.mpr ⟨hw, hg⟩)
        | false => exact sg_nw0 hw hg rfl (hIn.2.2.2.1 w hw hg)
      have hin : (sg_Mo y).2.2.1 = true → meth.name = "<init>" := fun q => by
        rw [← sg_initn y hy q]
        exact (name_of_methodNamed B.named B.method).1
      rw [lg_entry_eq]
      rw [hMo] at hml hr hown hin ⊢
      have hJ := sg_run (p := p) (l := l) (e := e) (R := (headSpec (sg_ws y) (sg_rm (d + 1) (h'.1.length - h.1.length) (sg_ss h'.1 - sg_ss h.1))).room) (s := s) (m := m) (below := below) (n0 := h.1.length) (s0 := sg_ss h.1) hx hb hml hts hown hIn.2.2.1 hIn.2.2.2.2 hin ih (Nat.le_of_eq (by show d + 11 = d + 1 + 10; omega)) (Nat.le_of_eq (by show 100 * d + 700 = 100 * (d + 1) + 600; omega)) hr hlocks hdec hchk fuel _ o h' hrun (by show h'.1.length ≤ h'.1.length - h.1.length + h.1.length; omega) (by show sg_ss h'.1 ≤ sg_ss h'.1 - sg_ss h.1 + sg_ss h.1; omega)
      exact hJ s.heap [] _ 0 0 hIn.1 hIn.2.1 va_S.rf (sg_entryL hlen) (Nat.zero_add _) (Nat.zero_add _)
    · cases hc
