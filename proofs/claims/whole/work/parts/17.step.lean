/-! a step of the abstract machine is a step of the walk -/
theorem ag_ck_inv {α : Type} {P : Prop} [Decidable P] {k : Option α} {x : α} (h : ag_ck P k = some x) : P ∧ k = some x := by
  unfold ag_ck at h
  split at h
  · exact ⟨by assumption, h⟩
  · cases h
theorem ag_i1_inv {α : Type} {st : List av} {k : Int → List av → Option α} {x : α} (h : ag_i1 st k = some x) : ∃ a r, st = vI a :: r ∧ k a r = some x := by
  unfold ag_i1 at h
  split at h
  · exact ⟨_, _, rfl, h⟩
  · cases h
theorem ag_i2_inv {α : Type} {st : List av} {k : Int → Int → List av → Option α} {x : α} (h : ag_i2 st k = some x) : ∃ a b r, st = vI b :: vI a :: r ∧ k a b r = some x := by
  unfold ag_i2 at h
  split at h
  · exact ⟨_, _, _, rfl, h⟩
  · cases h
theorem ag_j1_inv {α : Type} {st : List av} {k : Int → List av → Option α} {x : α} (h : ag_j1 st k = some x) : ∃ a r, st = vJ a :: r ∧ k a r = some x := by
  unfold ag_j1 at h
  split at h
  · exact ⟨_, _, rfl, h⟩
  · cases h
theorem ag_j2_inv {α : Type} {st : List av} {k : Int → Int → List av → Option α} {x : α} (h : ag_j2 st k = some x) : ∃ a b r, st = vJ b :: vJ a :: r ∧ k a b r = some x := by
  unfold ag_j2 at h
  split at h
  · exact ⟨_, _, _, rfl, h⟩
  · cases h
theorem ag_f1_inv {α : Type} {st : List av} {k : UInt32 → List av → Option α} {x : α} (h : ag_f1 st k = some x) : ∃ a r, st = vF a :: r ∧ k a r = some x := by
  unfold ag_f1 at h
  split at h
  · exact ⟨_, _, rfl, h⟩
  · cases h
theorem ag_f2_inv {α : Type} {st : List av} {k : UInt32 → UInt32 → List av → Option α} {x : α} (h : ag_f2 st k = some x) : ∃ a b r, st = vF b :: vF a :: r ∧ k a b r = some x := by
  unfold ag_f2 at h
  split at h
  · exact ⟨_, _, _, rfl, h⟩
  · cases h
theorem ag_r1_inv {α : Type} {st : List av} {k : Option Nat → List av → Option α} {x : α} (h : ag_r1 st k = some x) : ∃ a r, st = vR a :: r ∧ k a r = some x := by
  unfold ag_r1 at h
  split at h
  · exact ⟨_, _, rfl, h⟩
  · cases h
theorem ag_a1_inv {α : Type} {st : List av} {k : Nat → List av → Option α} {x : α} (h : ag_a1 st k = some x) : ∃ a r, st = vA a :: r ∧ k a r = some x := by
  unfold ag_a1 at h
  split at h
  · exact ⟨_, _, rfl, h⟩
  · cases h
theorem ag_li_inv {α : Type} {ls : List (Option av)} {i : Nat} {k : Int → Option α} {x : α} (h : ag_li ls i k = some x) : ∃ z, ls[i]? = some (some (vI z)) ∧ k z = some x := by
  unfold ag_li at h
  split at h
  · exact ⟨_, by assumption, h⟩
  · cases h
theorem ag_lj_inv {α : Type} {ls : List (Option av)} {i : Nat} {k : Int → Option α} {x : α} (h : ag_lj ls i k = some x) : ∃ z, ls[i]? = some (some (vJ z)) ∧ k z = some x := by
  unfold ag_lj at h
  split at h
  · exact ⟨_, by assumption, h⟩
  · cases h
theorem ag_lf_inv {α : Type} {ls : List (Option av)} {i : Nat} {k : UInt32 → Option α} {x : α} (h : ag_lf ls i k = some x) : ∃ z, ls[i]? = some (some (vF z)) ∧ k z = some x := by
  unfold ag_lf at h
  split at h
  · exact ⟨_, by assumption, h⟩
  · cases h
theorem ag_la_inv {α : Type} {ls : List (Option av)} {i : Nat} {k : av → Option α} {x : α} (h : ag_la ls i k = some x) : ∃ z : Option Nat ⊕ Nat, ls[i]? = some (some (.inr (.inr (.inr z)))) ∧ k (.inr (.inr (.inr z))) = some x := by
  unfold ag_la at h
  split at h
  · exact ⟨_, by assumption, h⟩
  · cases h
theorem ag_at_inv {α : Type} {h : ag_H} {a t : Nat} {k : Nat → List (Option Nat) → Option α} {x : α} (hh : ag_at h a t k = some x) : ∃ n rs, h.1[a]? = some (t, n, rs) ∧ k n rs = some x := by
  unfold ag_at at hh
  split at hh
  · split at hh
    · rename_i t' n rs hq he
      subst he
      exact ⟨_, _, hq, hh⟩
    · cases hh
  · cases hh
theorem ag_lib14_inv {st r : List av} (h : ag_lib 14 st = some r) : ∃ i j r0, st = vI i :: vX j :: r0 ∧ (0 ≤ i ∧ i < 4 ∧ (j = 1 ∨ j = 2)) ∧ r = vI (ag_str j i.toNat) :: r0 := by
  unfold ag_lib at h
  rw [if_neg (by decide), if_neg (by decide), if_neg (by decide), if_neg (by decide), if_pos rfl] at h
  split at h
  · obtain ⟨h1, h2⟩ := ag_ck_inv h
    cases h2
    exact ⟨_, _, _, rfl, h1, rfl⟩
  · cases h
theorem sg_nft {t k : Nat} (h : k < ag_nf t) : t < 8 := by
  rcases Nat.lt_or_ge t 8 with q | q
  · exact q
  · have h2 : ag_nf t = 0 := by
      unfold ag_nf
      rw [List.getD_eq_getElem?_getD, List.getElem?_eq_none (by exact q)]
      rfl
    omega
section SGP
variable {p : Program} {l : Launch} {e : Env} {R : Room} {s : State} {m : MethodId} {args : Array Value} {below : List Frame} {meth : Method} {c : Code} {Q : State → Prop} {cc : ByteArray} {nL bs n0 s0 ci : Nat} {dA : Nat → ClassId} {ax adV : Nat → Nat} {D : va_G} {E : Nat × (Int → Int)}
set_option maxHeartbeats 4000000 in
theorem sg_step (hx : p.tables.exec = Jvm.exec) (hb : c.code = cc) (hml : c.maxLocals = nL) (hts : ∀ w ∈ sg_tb, w.before args s = true) (hown : s.vm.findClass (sg_R ci) = some m.cls) (hK : va_K D vwCl (sg_tys dA) s) (hX : sg_X E bs ax adV s) {ini : Bool} {rt d : Nat} {call : Nat → List av → ag_H → Option ag_O} (hini : ini = true → meth.name = "<init>")
    (hcall : ∀ y as h o h', call y as h = some (o, h') → sg_Met D dA bs ax adV E l d y as h o h' ∧ h.1.length ≤ h'.1.length ∧ sg_ss h.1 ≤ sg_ss h'.1) (hR1 : d + 11 ≤ R.frames) (hR2 : 100 * d + 700 ≤ R.locals)
    {i : Instr} {len pc : Nat} {ls : List (Option av)} {st : List av} {h : ag_H} {f' : ag_F} (hd : decode cc pc = .ok (i, len)) (hc : sg_chk pc i len = true) (hs : ag_step ag_TT call E ci rt ini i len pc ls st h = some (.inl f')) (hr1 : f'.2.2.2.1.length ≤ R.cells + n0) (hr2 : sg_ss f'.2.2.2.1 ≤ R.slots + s0)
    (kk : sg_J p l e R s m args below meth c Q nL bs n0 s0 dA ax D f') : sg_J p l e R s m args below meth c Q nL bs n0 s0 dA ax D (pc, ls, st, h) := by
  cases i with
  | iconst z =>
    have hl := eq_of_beq hc
    subst hl
    unfold ag_step at hs
    dsimp only at hs
    cases hs
    exact sg_iconst hx hb hd kk
  | bipush z =>
    unfold sg_chk at hc
    rw [Bool.and_eq_true, decide_eq_true_eq] at hc
    obtain ⟨hl, hz⟩ := hc
    have hl := eq_of_beq hl
    subst hl
    unfold ag_step at hs
    dsimp only at hs
    cases hs
    exact sg_bipush hx hb hz hd kk
  | sipush z =>
    unfold sg_chk at hc
    rw [Bool.and_eq_true, decide_eq_true_eq] at hc
    obtain ⟨hl, hz⟩ := hc
    have hl := eq_of_beq hl
    subst hl
    unfold ag_step at hs
    dsimp only at hs
    cases hs
    exact sg_sipush hx hb hz hd kk
  | lconst z =>
    unfold sg_chk at hc
    rw [Bool.and_eq_true, decide_eq_true_eq] at hc
    obtain ⟨hl, hz⟩ := hc
    have hl := eq_of_beq hl
    subst hl
    unfold ag_step at hs
    dsimp only at hs
    cases hs
    rcases hz with rfl | rfl
    · exact sg_lconst0 hx hb hd kk
    · exact sg_lconst1 hx hb hd kk
  | fconst z =>
    unfold sg_chk at hc
    rw [Bool.and_eq_true, decide_eq_true_eq] at hc
    obtain ⟨hl, hz⟩ := hc
    have hl := eq_of_beq hl
    subst hl
    unfold ag_step at hs
    dsimp only at hs
    cases hs
    rcases hz with rfl | rfl | rfl
    · exact sg_fconst0 hx hb hd kk
    · exact sg_fconst1 hx hb hd kk
    · exact sg_fconst2 hx hb hd kk
  | aconst_null =>
    have hl := eq_of_beq hc
    subst hl
    unfold ag_step at hs
    dsimp only at hs
    cases hs
    exact sg_aconst_null hx hb hd kk
  | iload k =>
    have hl := eq_of_beq hc
    subst hl
    unfold ag_step at hs
    dsimp only at hs
    obtain ⟨z, hi, hs1⟩ := ag_li_inv hs
    cases hs1
    exact sg_iload hx hb hi hd kk
  | iload_n k =>
    have hl := eq_of_beq hc
    subst hl
    unfold ag_step at hs
    dsimp only at hs
    obtain ⟨z, hi, hs1⟩ := ag_li_inv hs
    cases hs1
    exact sg_iload_n hx hb hi hd kk
  | lload_n k =>
    have hl := eq_of_beq hc
    subst hl
    unfold ag_step at hs
    dsimp only at hs
    obtain ⟨z, hi, hs1⟩ := ag_lj_inv hs
    cases hs1
    exact sg_lload_n hx hb hi hd kk
  | fload_n k =>
    have hl := eq_of_beq hc
    subst hl
    unfold ag_step at hs
    dsimp only at hs
    obtain ⟨z, hi, hs1⟩ := ag_lf_inv hs
    cases hs1
    exact sg_fload_n hx hb hi hd kk
  | aload_n k =>
    have hl := eq_of_beq hc
    subst hl
    unfold ag_step at hs
    dsimp only at hs
    obtain ⟨z, hi, hs1⟩ := ag_la_inv hs
    cases hs1
    rcases z with (_ | a) | a
    · exact sg_aload_nN hx hb hi hd kk
    · exact sg_aload_nR hx hb hi hd kk
    · exact sg_aload_nX hx hb hi hd kk
  | istore k =>
    have hl := eq_of_beq hc
    subst hl
    unfold ag_step at hs
    dsimp only at hs
    obtain ⟨z, r, rfl, hs1⟩ := ag_i1_inv hs
    obtain ⟨hi, hs2⟩ := ag_ck_inv hs1
    cases hs2
    exact sg_istore hx hb hi hd kk
  | istore_n k =>
    have hl := eq_of_beq hc
    subst hl
    unfold ag_step at hs
    dsimp only at hs
    obtain ⟨z, r, rfl, hs1⟩ := ag_i1_inv hs
    obtain ⟨hi, hs2⟩ := ag_ck_inv hs1
    cases hs2
    exact sg_istore_n hx hb hi hd kk
  | fstore_n k =>
    have hl := eq_of_beq hc
    subst hl
    unfold ag_step at hs
    dsimp only at hs
    obtain ⟨z, r, rfl, hs1⟩ := ag_f1_inv hs
    obtain ⟨hi, hs2⟩ := ag_ck_inv hs1
    cases hs2
    exact sg_fstore_n hx hb hi hd kk
  | lstore_n k =>
    have hl := eq_of_beq hc
    subst hl
    unfold ag_step at hs
    dsimp only at hs
    obtain ⟨z, r, rfl, hs1⟩ := ag_j1_inv hs
    obtain ⟨hi, hs2⟩ := ag_ck_inv hs1
    cases hs2
    exact sg_lstore_n hx hb hi hd kk
  | astore_n k =>
    have hl := eq_of_beq hc
    subst hl
    unfold ag_step at hs
    dsimp only at hs
    obtain ⟨z, r, rfl, hs1⟩ := ag_r1_inv hs
    obtain ⟨hi, hs2⟩ := ag_ck_inv hs1
    cases hs2
    cases z with
    | none => exact sg_astore_nN hx hb hi hd kk
    | some a => exact sg_astore_nR hx hb hi hd kk
  | iinc k n =>
    have hl := eq_of_beq hc
    subst hl
    unfold ag_step at hs
    dsimp only at hs
    obtain ⟨z, hi, hs1⟩ := ag_li_inv hs
    cases hs1
    exact sg_iinc hx hb hi hd kk
  | dup =>
    have hl := eq_of_beq hc
    subst hl
    unfold ag_step at hs
    dsimp only at hs
    split at hs
    · obtain ⟨hv, hs1⟩ := ag_ck_inv hs
      cases hs1
      exact sg_dup hx hb hv hd kk
    · cases hs
  | dup2 =>
    have hl := eq_of_beq hc
    subst hl
    unfold ag_step at hs
    dsimp only at hs
    split at hs
    · obtain ⟨⟨hv, hw⟩, hs1⟩ := ag_ck_inv hs
      cases hs1
      exact sg_dup2 hx hb hv hw hd kk
    · cases hs
  | pop =>
    have hl := eq_of_beq hc
    subst hl
    unfold ag_step at hs
    dsimp only at hs
    split at hs
    · obtain ⟨hv, hs1⟩ := ag_ck_inv hs
      cases hs1
      exact sg_pop hx hb hv hd kk
    · cases hs
  | iadd =>
    have hl := eq_of_beq hc
    subst hl
    unfold ag_step at hs
    dsimp only at hs
    obtain ⟨a, b, r, rfl, hs1⟩ := ag_i2_inv hs
    cases hs1
    exact sg_iadd hx hb hd kk
  | isub =>
    have hl := eq_of_beq hc
    subst hl
    unfold ag_step at hs
    dsimp only at hs
    obtain ⟨a, b, r, rfl, hs1⟩ := ag_i2_inv hs
    cases hs1
    exact sg_isub hx hb hd kk
  | imul =>
    have hl := eq_of_beq hc
    subst hl
    unfold ag_step at hs
    dsimp only at hs
    obtain ⟨a, b, r, rfl, hs1⟩ := ag_i2_inv hs
    cases hs1
    exact sg_imul hx hb hd kk
  | ladd =>
    have hl := eq_of_beq hc
    subst hl
    unfold ag_step at hs
    dsimp only at hs
    obtain ⟨a, b, r, rfl, hs1⟩ := ag_j2_inv hs
    cases hs1
    exact sg_ladd hx hb hd kk
  | lmul =>
    have hl := eq_of_beq hc
    subst hl
    unfold ag_step at hs
    dsimp only at hs
    obtain ⟨a, b, r, rfl, hs1⟩ := ag_j2_inv hs
    cases hs1
    exact sg_lmul hx hb hd kk
  | idiv =>
    have hl := eq_of_beq hc
    subst hl
    unfold ag_step at hs
    dsimp only at hs
    obtain ⟨a, b, r, rfl, hs1⟩ := ag_i2_inv hs
    obtain ⟨⟨h0, h1, h2, h3⟩, hs2⟩ := ag_ck_inv hs1
    cases hs2
    exact sg_idiv hx hb h0 h1 h2 h3 hd kk
  | irem =>
    have hl := eq_of_beq hc
    subst hl
    unfold ag_step at hs
    dsimp only at hs
    obtain ⟨a, b, r, rfl, hs1⟩ := ag_i2_inv hs
    obtain ⟨⟨h0, h1, h2, h3⟩, hs2⟩ := ag_ck_inv hs1
    cases hs2
    exact sg_irem hx hb h0 h1 h2 h3 hd kk
  | iand =>
    have hl := eq_of_beq hc
    subst hl
    unfold ag_step at hs
    dsimp only at hs
    obtain ⟨a, b, r, rfl, hs1⟩ := ag_i2_inv hs
    obtain ⟨⟨h0, rfl⟩, hs2⟩ := ag_ck_inv hs1
    cases hs2
    exact sg_iand hx hb hd kk
  | ior =>
    have hl := eq_of_beq hc
    subst hl
    unfold ag_step at hs
    dsimp only at hs
    obtain ⟨a, b, r, rfl, hs1⟩ := ag_i2_inv hs
    obtain ⟨⟨h0, h1, h2, h3⟩, hs2⟩ := ag_ck_inv hs1
    cases hs2
    exact sg_ior hx hb h0 h2 hd kk
  | ishl =>
    have hl := eq_of_beq hc
    subst hl
    unfold ag_step at hs
    dsimp only at hs
    obtain ⟨a, b, r, rfl, hs1⟩ := ag_i2_inv hs
    obtain ⟨⟨h0, h1, h2, h3⟩, hs2⟩ := ag_ck_inv hs1
    cases hs2
    exact sg_ishl hx hb h0 h1 h2 hd kk
  | lcmp =>
    have hl := eq_of_beq hc
    subst hl
    unfold ag_step at hs
    dsimp only at hs
    obtain ⟨a, b, r, rfl, hs1⟩ := ag_j2_inv hs
    obtain ⟨⟨h0, h1⟩, hs2⟩ := ag_ck_inv hs1
    cases hs2
    exact sg_xlcmp hx hb h0 h1 hd kk
  | i2l =>
    have hl := eq_of_beq hc
    subst hl
    unfold ag_step at hs
    dsimp only at hs
    obtain ⟨a, r, rfl, hs1⟩ := ag_i1_inv hs
    obtain ⟨h0, hs2⟩ := ag_ck_inv hs1
    cases hs2
    exact sg_xi2l hx hb h0 hd kk
  | i2f =>
    have hl := eq_of_beq hc
    subst hl
    unfold ag_step at hs
    dsimp only at hs
    obtain ⟨a, r, rfl, hs1⟩ := ag_i1_inv hs
    cases hs1
    exact sg_i2f hx hb hd kk
  | f2i =>
    have hl := eq_of_beq hc
    subst hl
    unfold ag_step at hs
    dsimp only at hs
    obtain ⟨a, r, rfl, hs1⟩ := ag_f1_inv hs
    cases hs1
    exact sg_f2i hx hb hd kk
  | fdiv =>
    have hl := eq_of_beq hc
    subst hl
    unfold ag_step at hs
    dsimp only at hs
    obtain ⟨a, b, r, rfl, hs1⟩ := ag_f2_inv hs
    obtain ⟨h0, hs2⟩ := ag_ck_inv hs1
    cases hs2
    exact sg_fdiv hx hb h0 hd kk
  | fmul =>
    have hl := eq_of_beq hc
    subst hl
    unfold ag_step at hs
    dsimp only at hs
    obtain ⟨a, b, r, rfl, hs1⟩ := ag_f2_inv hs
    obtain ⟨h0, hs2⟩ := ag_ck_inv hs1
    cases hs2
    exact sg_fmul hx hb h0 hd kk
  | fsub =>
    have hl := eq_of_beq hc
    subst hl
    unfold ag_step at hs
    dsimp only at hs
    obtain ⟨a, b, r, rfl, hs1⟩ := ag_f2_inv hs
    obtain ⟨h0, hs2⟩ := ag_ck_inv hs1
    cases hs2
    exact sg_fsub hx hb h0 hd kk
  | fcmp op =>
    have hl := eq_of_beq hc
    subst hl
    unfold ag_step at hs
    dsimp only at hs
    obtain ⟨a, b, r, rfl, hs1⟩ := ag_f2_inv hs
    cases hs1
    exact sg_fcmp hx hb hd kk
  | goto off =>
    unfold sg_chk at hc
    rw [Bool.and_eq_true, decide_eq_true_eq] at hc
    obtain ⟨hl, hz⟩ := hc
    have hl := eq_of_beq hl
    subst hl
    have ht := sg_tgt hz
    unfold ag_step at hs
    dsimp only at hs
    cases hs
    exact sg_goto hx hb ht hd kk
  | ifCond cond off =>
    unfold sg_chk at hc
    rw [Bool.and_eq_true, decide_eq_true_eq] at hc
    obtain ⟨hl, hz⟩ := hc
    have hl := eq_of_beq hl
    subst hl
    have ht := sg_tgt hz
    unfold ag_step at hs
    dsimp only at hs
    obtain ⟨a, r, rfl, hs1⟩ := ag_i1_inv hs
    obtain ⟨ha, hs2⟩ := ag_ck_inv hs1
    have k1 : ag_cond cond a 0 = true → sg_J p l e R s m args below meth c Q nL bs n0 s0 dA ax D (ag_tgt pc off, ls, r, h) := by
      intro q
      rw [if_pos q] at hs2
      cases hs2
      exact kk
    have k2 : ¬ ag_cond cond a 0 = true → sg_J p l e R s m args below meth c Q nL bs n0 s0 dA ax D (pc + 3, ls, r, h) := by
      intro q
      rw [if_neg q] at hs2
      cases hs2
      exact kk
    cases cond with
    | eq => exact sg_if_eq hx hb ha hd ht (fun q => k1 (decide_eq_true q)) (fun q => k2 (fun z => q (of_decide_eq_true z)))
    | ne => exact sg_if_ne hx hb ha hd ht (fun q => k1 (decide_eq_true q)) (fun q => k2 (fun z => q (of_decide_eq_true z)))
    | lt => exact sg_if_lt hx hb ha hd ht (fun q => k1 (decide_eq_true q)) (fun q => k2 (fun z => q (of_decide_eq_true z)))
    | ge => exact sg_if_ge hx hb ha hd ht (fun q => k1 (decide_eq_true q)) (fun q => k2 (fun z => q (of_decide_eq_true z)))
    | gt => exact sg_if_gt hx hb ha hd ht (fun q => k1 (decide_eq_true q)) (fun q => k2 (fun z => q (of_decide_eq_true z)))
    | le => exact sg_if_le hx hb ha hd ht (fun q => k1 (decide_eq_true q)) (fun q => k2 (fun z => q (of_decide_eq_true z)))
  | if_icmp cond off =>
    unfold sg_chk at hc
    rw [Bool.and_eq_true, decide_eq_true_eq] at hc
    obtain ⟨hl, hz⟩ := hc
    have hl := eq_of_beq hl
    subst hl
    have ht := sg_tgt hz
    unfold ag_step at hs
    dsimp only at hs
    obtain ⟨a, b, r, rfl, hs1⟩ := ag_i2_inv hs
    obtain ⟨⟨ha, hb2⟩, hs2⟩ := ag_ck_inv hs1
    have k1 : ag_cond cond a b = true → sg_J p l e R s m args below meth c Q nL bs n0 s0 dA ax D (ag_tgt pc off, ls, r, h) := by
      intro q
      rw [if_pos q] at hs2
      cases hs2
      exact kk
    have k2 : ¬ ag_cond cond a b = true → sg_J p l e R s m args below meth c Q nL bs n0 s0 dA ax D (pc + 3, ls, r, h) := by
      intro q
      rw [if_neg q] at hs2
      cases hs2
      exact kk
    cases cond with
    | eq => exact sg_icmp_eq hx hb ha hb2 hd ht (fun q => k1 (decide_eq_true q)) (fun q => k2 (fun z => q (of_decide_eq_true z)))
    | ne => exact sg_icmp_ne hx hb ha hb2 hd ht (fun q => k1 (decide_eq_true q)) (fun q => k2 (fun z => q (of_decide_eq_true z)))
    | lt => exact sg_icmp_lt hx hb ha hb2 hd ht (fun q => k1 (decide_eq_true q)) (fun q => k2 (fun z => q (of_decide_eq_true z)))
    | ge => exact sg_icmp_ge hx hb ha hb2 hd ht (fun q => k1 (decide_eq_true q)) (fun q => k2 (fun z => q (of_decide_eq_true z)))
    | gt => exact sg_icmp_gt hx hb ha hb2 hd ht (fun q => k1 (decide_eq_true q)) (fun q => k2 (fun z => q (of_decide_eq_true z)))
    | le => exact sg_icmp_le hx hb ha hb2 hd ht (fun q => k1 (decide_eq_true q)) (fun q => k2 (fun z => q (of_decide_eq_true z)))
  | ifnull off =>
    unfold sg_chk at hc
    rw [Bool.and_eq_true, decide_eq_true_eq] at hc
    obtain ⟨hl, hz⟩ := hc
    have hl := eq_of_beq hl
    subst hl
    have ht := sg_tgt hz
    unfold ag_step at hs
    dsimp only at hs
    obtain ⟨a, r, rfl, hs1⟩ := ag_r1_inv hs
    cases a with
    | none => cases hs1; exact sg_ifnullN hx hb ht hd kk
    | some a => cases hs1; exact sg_ifnullR hx hb hd kk
  | ifnonnull off =>
    unfold sg_chk at hc
    rw [Bool.and_eq_true, decide_eq_true_eq] at hc
    obtain ⟨hl, hz⟩ := hc
    have hl := eq_of_beq hl
    subst hl
    have ht := sg_tgt hz
    unfold ag_step at hs
    dsimp only at hs
    obtain ⟨a, r, rfl, hs1⟩ := ag_r1_inv hs
    cases a with
    | none => cases hs1; exact sg_ifnonnullN hx hb hd kk
    | some a => cases hs1; exact sg_ifnonnullR hx hb ht hd kk
  | tableswitch df lo hi offs =>
    unfold sg_chk at hc
    rw [Bool.and_eq_true, decide_eq_true_eq] at hc
    obtain ⟨hz, ho⟩ := hc
    unfold ag_step at hs
    dsimp only at hs
    obtain ⟨a, r, rfl, hs1⟩ := ag_i1_inv hs
    obtain ⟨ha, hs2⟩ := ag_ck_inv hs1
    by_cases hq : a < lo ∨ hi < a
    · rw [if_pos hq] at hs2
      cases hs2
      exact sg_tableOut hx hb ha hd hq (sg_tgt hz) kk
    · rw [if_neg hq] at hs2
      split at hs2
      · rename_i off hof
        cases hs2
        have hm : off ∈ offs.toList := by
          rw [← Array.getElem?_toList] at hof
          exact List.mem_of_getElem? hof
        exact sg_tableIn hx hb ha hd (fun z => hq (Or.inl z)) (fun z => hq (Or.inr z)) hof (sg_tgt (of_decide_eq_true (List.all_eq_true.mp ho off hm))) kk
      · cases hs2
  | lookupswitch df ps =>
    unfold sg_chk at hc
    rw [Bool.and_eq_true, Bool.and_eq_true, decide_eq_true_eq] at hc
    obtain ⟨hp, hz, ho⟩ := hc
    unfold ag_step at hs
    dsimp only at hs
    obtain ⟨a, r, rfl, hs1⟩ := ag_i1_inv hs
    obtain ⟨ha, hs2⟩ := ag_ck_inv hs1
    cases hs2
    refine sg_lookup hx hb ha hd hp (sg_tgt ?_) kk
    rcases sg_offs df a ps.toList with q | ⟨q, hq, e1⟩
    · rw [q]; exact hz
    · rw [e1]; exact of_decide_eq_true (List.all_eq_true.mp ho q hq)
  | getfield ix =>
    have hl := eq_of_beq hc
    subst hl
    unfold ag_step at hs
    dsimp only at hs
    obtain ⟨a, r, rfl, hs1⟩ := ag_a1_inv hs
    split at hs1
    · rename_i t k hf
      obtain ⟨n, rs, ha, hs2⟩ := ag_at_inv hs1
      obtain ⟨⟨hk, hn⟩, hs3⟩ := ag_ck_inv hs2
      cases hs3
      exact sg_getf hx hb hts hown hK hf (sg_nft hk) hk hn ha hd kk
    · cases hs1
  | putfield ix =>
    have hl := eq_of_beq hc
    subst hl
    unfold ag_step at hs
    dsimp only at hs
    split at hs
    · rename_i t k hf
      obtain ⟨hk, hs1⟩ := ag_ck_inv hs
      split at hs1
      · rename_i h2
        obtain ⟨v, r, rfl, hs2⟩ := ag_r1_inv hs1
        obtain ⟨a, r, rfl, hs3⟩ := ag_a1_inv hs2
        obtain ⟨n, rs, ha, hs4⟩ := ag_at_inv hs3
        obtain ⟨⟨hi, htc, hrs, hn⟩, hs5⟩ := ag_ck_inv hs4
        cases hs5
        exact sg_putR hx hb hts hown hK (hini hi) hf htc (sg_nft hk) hk h2 hn hrs ha hd kk
      · rename_i h2
        obtain ⟨z, r, rfl, hs2⟩ := ag_i1_inv hs1
        obtain ⟨a, r, rfl, hs3⟩ := ag_a1_inv hs2
        obtain ⟨n, rs, ha, hs4⟩ := ag_at_inv hs3
        obtain ⟨⟨h1, hn⟩, hs5⟩ := ag_ck_inv hs4
        cases hs5
        exact sg_putI hx hb hts hown hK hf (sg_nft hk) hk h2 h1 hn ha hd kk
    · cases hs
  | arraylength =>
    have hl := eq_of_beq hc
    subst hl
    unfold ag_step at hs
    dsimp only at hs
    split at hs
    · split at hs
      · rename_i t n rs ha
        obtain ⟨⟨h8, h9⟩, hs1⟩ := ag_ck_inv hs
        cases hs1
        exact sg_alen hx hb hK ha h8 h9 hd kk
      · cases hs
    · cases hs
      exact sg_slen hx hb hX hd kk
    · cases hs
  | iaload =>
    have hl := eq_of_beq hc
    subst hl
    unfold ag_step at hs
    dsimp only at hs
    split at hs
    · obtain ⟨n, rs, ha, hs1⟩ := ag_at_inv hs
      obtain ⟨⟨h0, h1, hn⟩, hs2⟩ := ag_ck_inv hs1
      cases hs2
      exact sg_iald hx hb hK ha h0 h1 hn hd kk
    · obtain ⟨⟨h0, h1, hn⟩, hs1⟩ := ag_ck_inv hs
      cases hs1
      exact sg_sld hx hb hX h0 h1 hn hd kk
    · cases hs
  | baload =>
    have hl := eq_of_beq hc
    subst hl
    unfold ag_step at hs
    dsimp only at hs
    obtain ⟨i, r, rfl, hs1⟩ := ag_i1_inv hs
    obtain ⟨a, r, rfl, hs2⟩ := ag_a1_inv hs1
    obtain ⟨n, rs, ha, hs3⟩ := ag_at_inv hs2
    obtain ⟨⟨h0, h1, hn⟩, hs4⟩ := ag_ck_inv hs3
    cases hs4
    exact sg_zald hx hb hK ha h0 h1 hn hd kk
  | caload =>
    have hl := eq_of_beq hc
    subst hl
    unfold ag_step at hs
    dsimp only at hs
    obtain ⟨i, r, rfl, hs1⟩ := ag_i1_inv hs
    obtain ⟨a, r, rfl, hs2⟩ := ag_a1_inv hs1
    obtain ⟨n, rs, ha, hs3⟩ := ag_at_inv hs2
    obtain ⟨⟨h0, h1, hn⟩, hs4⟩ := ag_ck_inv hs3
    cases hs4
    exact sg_cald hx hb hK ha h0 h1 hn hd kk
  | laload =>
    have hl := eq_of_beq hc
    subst hl
    unfold ag_step at hs
    dsimp only at hs
    obtain ⟨i, r, rfl, hs1⟩ := ag_i1_inv hs
    obtain ⟨a, r, rfl, hs2⟩ := ag_a1_inv hs1
    obtain ⟨n, rs, ha, hs3⟩ := ag_at_inv hs2
    obtain ⟨⟨h0, h1, hn⟩, hs4⟩ := ag_ck_inv hs3
    cases hs4
    exact sg_lald hx hb hK ha h0 h1 hn hd kk
  | aaload =>
    have hl := eq_of_beq hc
    subst hl
    unfold ag_step at hs
    dsimp only at hs
    obtain ⟨i, r, rfl, hs1⟩ := ag_i1_inv hs
    obtain ⟨a, r, rfl, hs2⟩ := ag_a1_inv hs1
    obtain ⟨n, rs, ha, hs3⟩ := ag_at_inv hs2
    obtain ⟨⟨h0, h1, hn⟩, hs4⟩ := ag_ck_inv hs3
    cases hs4
    exact sg_qald hx hb hK ha h0 h1 hn hd kk
  | iastore =>
    have hl := eq_of_beq hc
    subst hl
    unfold ag_step at hs
    dsimp only at hs
    obtain ⟨z, r, rfl, hs1⟩ := ag_i1_inv hs
    obtain ⟨i, r, rfl, hs2⟩ := ag_i1_inv hs1
    obtain ⟨a, r, rfl, hs3⟩ := ag_a1_inv hs2
    obtain ⟨n, rs, ha, hs4⟩ := ag_at_inv hs3
    obtain ⟨⟨h0, h1, hn⟩, hs5⟩ := ag_ck_inv hs4
    cases hs5
    exact sg_iast hx hb hK ha h0 h1 hn hd kk
  | bastore =>
    have hl := eq_of_beq hc
    subst hl
    unfold ag_step at hs
    dsimp only at hs
    obtain ⟨z, r, rfl, hs1⟩ := ag_i1_inv hs
    obtain ⟨i, r, rfl, hs2⟩ := ag_i1_inv hs1
    obtain ⟨a, r, rfl, hs3⟩ := ag_a1_inv hs2
    obtain ⟨n, rs, ha, hs4⟩ := ag_at_inv hs3
    obtain ⟨⟨h0, h1, hn, hz⟩, hs5⟩ := ag_ck_inv hs4
    cases hs5
    exact sg_zast hx hb hK ha h0 h1 hn hz hd kk
  | castore =>
    have hl := eq_of_beq hc
    subst hl
    unfold ag_step at hs
    dsimp only at hs
    obtain ⟨z, r, rfl, hs1⟩ := ag_i1_inv hs
    obtain ⟨i, r, rfl, hs2⟩ := ag_i1_inv hs1
    obtain ⟨a, r, rfl, hs3⟩ := ag_a1_inv hs2
    obtain ⟨n, rs, ha, hs4⟩ := ag_at_inv hs3
    obtain ⟨⟨h0, h1, hn, hz, hy⟩, hs5⟩ := ag_ck_inv hs4
    cases hs5
    exact sg_cast hx hb hK ha h0 h1 hn hz hy hd kk
  | lastore =>
    have hl := eq_of_beq hc
    subst hl
    unfold ag_step at hs
    dsimp only at hs
    obtain ⟨z, r, rfl, hs1⟩ := ag_j1_inv hs
    obtain ⟨i, r, rfl, hs2⟩ := ag_i1_inv hs1
    obtain ⟨a, r, rfl, hs3⟩ := ag_a1_inv hs2
    obtain ⟨n, rs, ha, hs4⟩ := ag_at_inv hs3
    obtain ⟨⟨h0, h1, hn⟩, hs5⟩ := ag_ck_inv hs4
    cases hs5
    exact sg_last hx hb hK ha h0 h1 hn hd kk
  | aastore =>
    have hl := eq_of_beq hc
    subst hl
    unfold ag_step at hs
    dsimp only at hs
    obtain ⟨v, r, rfl, hs1⟩ := ag_a1_inv hs
    obtain ⟨i, r, rfl, hs2⟩ := ag_i1_inv hs1
    obtain ⟨a, r, rfl, hs3⟩ := ag_a1_inv hs2
    obtain ⟨n, rs, ha, hs4⟩ := ag_at_inv hs3
    obtain ⟨n2, rs2, hv, hs5⟩ := ag_at_inv hs4
    obtain ⟨⟨h0, h1, hn, hrl⟩, hs6⟩ := ag_ck_inv hs5
    cases hs6
    exact sg_qast hx hb hK ha hv h0 h1 hn hrl hd kk
  | new ix =>
    have hl := eq_of_beq hc
    subst hl
    unfold ag_step at hs
    dsimp only at hs
    split at hs
    · rename_i t hf
      obtain ⟨ht, hs1⟩ := ag_ck_inv hs
      cases hs1
      dsimp only at hr1 hr2
      rw [sg_ss_push] at hr2
      rw [List.length_append] at hr1
      exact sg_new hx hb hts hown hK hf ht hr1 hr2 hd kk
    · cases hs
  | newarray ty =>
    have hl := eq_of_beq hc
    subst hl
    unfold ag_step at hs
    dsimp only at hs
    obtain ⟨n, r, rfl, hs1⟩ := ag_i1_inv hs
    obtain ⟨⟨h0, h1, ht⟩, hs2⟩ := ag_ck_inv hs1
    cases hs2
    dsimp only at hr1 hr2
    rw [sg_ss_push] at hr2
    rw [List.length_append] at hr1
    exact sg_newa hx hb hts hK ht h0 h1 hr1 hr2 hd kk
  | anewarray ix =>
    have hl := eq_of_beq hc
    subst hl
    unfold ag_step at hs
    dsimp only at hs
    obtain ⟨n, r, rfl, hs1⟩ := ag_i1_inv hs
    obtain ⟨⟨h0, h1, ht⟩, hs2⟩ := ag_ck_inv hs1
    cases hs2
    dsimp only at hr1 hr2
    rw [sg_ss_push] at hr2
    rw [List.length_append] at hr1
    exact sg_anew hx hb hts hown hK ht h0 h1 hr1 hr2 hd kk
  | ldc ix =>
    have hl := eq_of_beq hc
    subst hl
    unfold ag_step at hs
    dsimp only at hs
    split at hs
    · rename_i v hf
      obtain ⟨hv, hs1⟩ := ag_ck_inv hs
      cases hs1
      exact sg_ldc hx hb hts hown hX hf hv hd kk
    · cases hs
  | ldc_w ix =>
    have hl := eq_of_beq hc
    subst hl
    unfold ag_step at hs
    dsimp only at hs
    split at hs
    · rename_i v hf
      obtain ⟨⟨hv, h7⟩, hs1⟩ := ag_ck_inv hs
      cases hs1
      exact sg_ldcw hx hb hts hown hf hv h7 hd kk
    · cases hs
  | ldc2_w ix =>
    have hl := eq_of_beq hc
    subst hl
    unfold ag_step at hs
    dsimp only at hs
    split at hs
    · rename_i v hf
      obtain ⟨hv, hs1⟩ := ag_ck_inv hs
      cases hs1
      exact sg_ldc2 hx hb hts hown hf hv hd kk
    · cases hs
  | invokevirtual ix =>
    have hl := eq_of_beq hc
    subst hl
    unfold ag_step at hs
    dsimp only at hs
    split at hs
    · rename_i y n t hf
      obtain ⟨⟨hn, hr4, hrc⟩, hs1⟩ := ag_ck_inv hs
      split at hs1
      · rename_i o h' hcl
        cases hs1
        obtain ⟨hM, hm1, hm2⟩ := hcall _ _ _ _ _ hcl
        exact sg_callV hx hb hml hts hown hK hX hf hn hr4 hrc hM hR1 hR2 hm1 hm2 hr1 hr2 hd kk
      · cases hs1
    · rename_i y n t hf
      obtain ⟨hl6, hs1⟩ := ag_ck_inv hs
      split at hs1
      · rename_i r hlib
        cases hs1
        obtain ⟨i, j, r0, rfl, ⟨h0, h1, hj⟩, rfl⟩ := ag_lib14_inv hlib
        exact sg_chJ hx hb hml hts hown hX h0 h1 hj hf (by simp only [List.length_cons] at hl6; omega) (by omega) (by omega) hr1 hr2 hd kk
      · cases hs1
    · cases hs
  | invokespecial ix =>
    have hl := eq_of_beq hc
    subst hl
    unfold ag_step at hs
    dsimp only at hs
    split at hs
    · rename_i y n t hf
      obtain ⟨⟨hn, hr4, hrc⟩, hs1⟩ := ag_ck_inv hs
      split at hs1
      · rename_i o h' hcl
        cases hs1
        obtain ⟨hM, hm1, hm2⟩ := hcall _ _ _ _ _ hcl
        exact sg_callI hx hb hml hts hown hK hX hf hn hr4 hrc hM hR1 hR2 hm1 hm2 hr1 hr2 hd kk
      · cases hs1
    · rename_i y n t hf
      obtain ⟨hl6, hs1⟩ := ag_ck_inv hs
      split at hs1
      · rename_i r hlib
        cases hs1
        change ag_a1 st (fun _ r => some r) = some r at hlib
        obtain ⟨a, r2, rfl, hlib⟩ := ag_a1_inv hlib
        cases hlib
        exact sg_objI hx hb hml hts hown hf (by simp only [List.length_cons] at hl6; omega) (by omega) (by omega) hd kk
      · cases hs1
    · cases hs
  | invokestatic ix =>
    have hl := eq_of_beq hc
    subst hl
    unfold ag_step at hs
    dsimp only at hs
    split at hs
    · rename_i y n t hf
      obtain ⟨⟨hn, hr4⟩, hs1⟩ := ag_ck_inv hs
      split at hs1
      · rename_i o h' hcl
        cases hs1
        obtain ⟨hM, hm1, hm2⟩ := hcall _ _ _ _ _ hcl
        exact sg_callS hx hb hml hts hown hK hX hf hn hr4 hM hR1 hR2 hm1 hm2 hr1 hr2 hd kk
      · cases hs1
    · rename_i k y n t hk1 hf
      obtain ⟨⟨hl6, hk2, hk3⟩, hs1⟩ := ag_ck_inv hs
      split at hs1
      · rename_i r hlib
        cases hs1
        have hk : k = 11 ∨ k = 12 ∨ k = 13 := by omega
        rcases hk with rfl | rfl | rfl
        · change ag_i2 st (fun a b r => ag_ck (ag_in a ∧ ag_in b) (some (vI (if b < a then b else a) :: r))) = some r at hlib
          obtain ⟨a, b, r2, rfl, hlib⟩ := ag_i2_inv hlib
          obtain ⟨⟨ha, hb2⟩, hlib⟩ := ag_ck_inv hlib
          cases hlib
          exact sg_mmin hx hb hml hts hown ha hb2 hf (by simp only [List.length_cons] at hl6; omega) (by omega) (by omega) hr1 hr2 hd kk
        · change ag_i2 st (fun a b r => ag_ck (ag_in a ∧ ag_in b) (some (vI (if a < b then b else a) :: r))) = some r at hlib
          obtain ⟨a, b, r2, rfl, hlib⟩ := ag_i2_inv hlib
          obtain ⟨⟨ha, hb2⟩, hlib⟩ := ag_ck_inv hlib
          cases hlib
          exact sg_mmax hx hb hml hts hown ha hb2 hf (by simp only [List.length_cons] at hl6; omega) (by omega) (by omega) hr1 hr2 hd kk
        · change ag_f1 st (fun a r => ag_ck (Op.cmpValue (FP.fcmp a a) .l = 0) (some (vI a.toInt32.toInt :: r))) = some r at hlib
          obtain ⟨a, r2, rfl, hlib⟩ := ag_f1_inv hlib
          obtain ⟨ha, hlib⟩ := ag_ck_inv hlib
          cases hlib
          exact sg_bitsJ hx hb hml hts hown ha hf (by simp only [List.length_cons] at hl6; omega) (by omega) (by omega) hr1 hr2 hd kk
      · cases hs1
    · cases hs
  | ireturn =>
    have hl := eq_of_beq hc
    subst hl
    unfold ag_step at hs
    dsimp only at hs
    split at hs
    · obtain ⟨-, hs1⟩ := ag_ck_inv hs
      cases hs1
    · cases hs
  | lreturn =>
    have hl := eq_of_beq hc
    subst hl
    unfold ag_step at hs
    dsimp only at hs
    split at hs
    · obtain ⟨-, hs1⟩ := ag_ck_inv hs
      cases hs1
    · cases hs
  | areturn =>
    have hl := eq_of_beq hc
    subst hl
    unfold ag_step at hs
    dsimp only at hs
    split at hs
    · obtain ⟨-, hs1⟩ := ag_ck_inv hs
      cases hs1
    · cases hs
  | return_ =>
    have hl := eq_of_beq hc
    subst hl
    unfold ag_step at hs
    dsimp only at hs
    obtain ⟨-, hs1⟩ := ag_ck_inv hs
    cases hs1
  | _ => cases hc
end SGP
