/-! THE CLAIM OUT OF ONE WALK OF THE LAW'S BODY. Your part is whole_start (and what it stands on); all else here is the same for every law, but numbers. -/
def R_law : String := "BargeChessLaw"
def lw_P (b : Addr) (xs : List Int32) (args : Array Value) (s : State) : Prop := args = #[.ref b] ∧ s.IntsAt b xs ∧ xs.length ≤ 2048 ∧ (Jvm.Cond.and given_1 narrow_1).before args s = true
/-- what a walk over the start with the record d0 says of its end, said of the start itself -/
theorem lw_closed {s t : State} {o : Outcome} {d0 : Drawn} {L : List Loc} {k n : Nat} (hd0 : s.drawn.sameBut d0 lw_cs) (hv : ∃ v, o = .returned v) (hW : (s.setDrawn d0).WarmedH t.vm) (hs : (s.setDrawn d0).sameButNew ({ t with vm := s.vm } : State) L k n) : State.butDraws s t lw_cs (fun t1 => Framed s o t1 L k n) := by
  have h2 : t.drawn = d0 := congrArg State.drawn hs.1
  refine ⟨⟨hv, hW, State.sameButNew.setDrawn hs s.drawn⟩, ?_, by decide⟩
  rw [h2]
  exact hd0
def lw_Q (_ : Array Value) (s : State) (o : Outcome) (t : State) : Prop := o = .returned (some (.int 1)) ∧ State.butDraws s t lw_cs (fun t1 => Framed s o t1 [] 600000 7302250)
def lw_Z (below : List Frame) (a : Array Value) (s : State) : State → Prop := fun t => ∃ o, t.status = .running ∧ Ended t below o ∧ lw_Q a s o t
/-- the law's own end, with 1 on the stack, nothing written that was there before, its room as the claim has it; d0: the record of draws at this point (at the entry s.drawn: begin with 'refine W.base ?_' and 'have hd0 := Drawn.sameBut.refl s.drawn lw_cs') -/
theorem lw_ret {p : Program} {l : Launch} {e : Env} {s : State} {m : MethodId} {below : List Frame} {meth : Method} {c : Code} {b : Nat} {d0 : Drawn} (hd0 : s.drawn.sameBut d0 lw_cs) (hx : p.tables.exec = Jvm.exec) (hb : c.code = code) (hr : meth.sig.returnType = ret) (hlocks : meth.locks = false) {pc : Nat} {H : Heap} {ls : Array Slot} (hdg : decode code pc = .ok (.ireturn, 1)) : W p l e room_1 (s.setDrawn d0) m #[Value.ref b] below meth c H [] 600000 7302250 (lw_Z below #[Value.ref b] s) (F0 m pc ls [.int 1]) := by
  intro T hT X
  obtain ⟨fs, hret, hrun, hended, hW, hframe⟩ := X.leave (v := some (.int 1)) (hlocks := hlocks) (fun h => by rw [hr] at h; cases h)
  have hmeth' : T.vm.method? m = some meth := X.method'
  refine ⟨T.setFrames fs, ?_, .returned (some (.int 1)), hrun, hended, rfl, lw_closed hd0 ⟨_, rfl⟩ hW hframe⟩
  jvm_step X.here [X.here.top, hx, hb, hdg, hmeth', hr, ret, narrow_b1]
  (try refine ⟨rfl, ?_⟩); (try refine ⟨rfl, ?_⟩)
  first | (intro acts; rw [hret _ acts rfl rfl rfl]) | rw [hret _ _ rfl rfl rfl]
  exact Steps.refl _
/-- what holds at the law's entry: the machine, the code, the tables' words (any of lw_tbl by 'hts w (by decide +kernel)'), the script of L ints xs at the cell b, what the Statement gives of the start (any of its parts by flat_of_before) -/
def lw_At (p : Program) (s : State) (m : MethodId) (meth : Method) (c : Code) (b L : Nat) (xs : Nat → Int32) : Prop :=
  p.tables.exec = Jvm.exec ∧ c.code = code ∧ meth.sig.returnType = ret ∧ c.maxLocals = 4 ∧ s.vm.findClass R_law = some m.cls ∧ (∀ w ∈ lw_tbl, w.before #[Value.ref b] s = true) ∧ va_X b L xs s s.heap ∧ b < s.heap.size ∧ meth.locks = false ∧ (Jvm.Cond.and given_1 narrow_1).before #[Value.ref b] s = true
-- ===== YOUR PART BEGINS =====
theorem sg_isr {args : Array Value} {s : State} {C n d : String} (h : (Cond.isRef (.static C n d)).before args s = true) : ∃ v : Value, (v = .null ∨ ∃ a, v = .ref a) ∧ (Term.static C n d).eval args s none [] s = some v := by
  cases hv : (Term.static C n d).eval args s none [] s with
  | none => simp [Cond.before, Cond.holds, Cond.value, hv] at h
  | some w =>
    refine ⟨w, ?_, rfl⟩
    cases w <;> first | exact Or.inl rfl | exact Or.inr ⟨_, rfl⟩ | (simp [Cond.before, Cond.holds, Cond.value, hv] at h; done)
theorem sg_arr {s : State} {args : Array Value} {ty : FieldType} (h : (Cond.arrayClass ty).before args s = true) (hty : sg_isR ty = false) : ∃ cA : ClassId, ArrOfT s cA ty ∧ va_RA s cA ty := by
  obtain ⟨c, k, comp, h1, h2, h3⟩ := Cond.arrayClass_spec h
  refine ⟨c, fun n z => ⟨(fun k h => by cases h), k, h2, comp, h3⟩, ?_⟩
  cases ty <;> first | exact h1 | (cases hty; done)
theorem sg_arrG {s : State} {args : Array Value} {C : String} (h : (Cond.arrayOver (.object C)).before args s = true) : ∃ cA : ClassId, ArrOfT s cA (.object C) ∧ va_RA s cA (.object C) := by
  obtain ⟨comp, c, k, h1, -, h3, h4, h5⟩ := Cond.arrayOver_spec h
  exact ⟨c, fun n z => ⟨(fun k h => by cases h), k, h3, comp, h4⟩, k, comp, h3, h4, h1, h5⟩
theorem sg_strR1 : Cond.stringRef "BargeChessModel" 174 "btBT" ∈ lw_tbl := List.mem_of_getElem? (i := 981) (by decide +kernel)
theorem sg_strR2 : Cond.stringRef "BargeChessModel" 194 "urdl" ∈ lw_tbl := List.mem_of_getElem? (i := 1047) (by decide +kernel)
theorem sg_lsC : Cond.laysStatic "java/lang/String" "COMPACT_STRINGS" "Z" ∈ lw_tbl := List.mem_of_getElem? (i := 991) (by decide +kernel)
theorem sg_lsF : Cond.laysStatic "jdk/internal/util/Preconditions" "SIOOBE_FORMATTER" "Ljava/util/function/BiFunction;" ∈ lw_tbl := List.mem_of_getElem? (i := 999) (by decide +kernel)
theorem sg_two {P : Nat → Prop} (h0 : P 0) (h1 : P 1) : ∀ i, i < 2 → P i := by
  intro i hi
  have : i = 0 ∨ i = 1 := by omega
  rcases this with rfl | rfl <;> assumption
theorem sg_four {P : Nat → Prop} (h0 : P 0) (h1 : P 1) (h2 : P 2) (h3 : P 3) : ∀ i, i < 4 → P i := by
  intro i hi
  have : i = 0 ∨ i = 1 ∨ i = 2 ∨ i = 3 := by omega
  rcases this with rfl | rfl | rfl | rfl <;> assumption
def sg_tm9 (i : Nat) : Term := if i = 0 then .string "BargeChessModel" 174 else .string "BargeChessModel" 194
set_option maxHeartbeats 4000000 in
set_option maxRecDepth 100000 in
/-- the start gives what lies outside -/
theorem sg_startX {s : State} {b L : Nat} {xs : Nat → Int32} (hts : ∀ w ∈ lw_tbl, w.before #[Value.ref b] s = true) (hX : va_X b L xs s s.heap) (hbl : b < s.heap.size) (hgv : (Jvm.Cond.and given_1 narrow_1).before #[Value.ref b] s = true) : ∃ ax adV : Nat → Nat, ax 0 = b ∧ sg_X (L, fun i => (xs i.toNat).toInt) s.heap.size ax adV s := by
  have hq := flat_of_before _ hgv
  have hA : ∀ a : Nat, a < s.heap.size → ¬ (fun q : Nat => s.heap.size ≤ q) a := fun a ha => Nat.not_le.mpr ha
  obtain ⟨adK, adV, hS, hE⟩ := vk_Sof (args := #[Value.ref b]) (s := s) (N := 2) (tm := sg_tm9) (len := [4, 4]) (byt := [[98, 116, 66, 84], [117, 114, 100, 108]]) (A := fun q : Nat => s.heap.size ≤ q)
    (sg_two (by decide) (by decide)) (sg_two (hq _ (by decide +kernel)) (hq _ (by decide +kernel))) (sg_two (hq _ (by decide +kernel)) (hq _ (by decide +kernel))) (sg_two (hq _ (by decide +kernel)) (hq _ (by decide +kernel))) (sg_two (hq _ (by decide +kernel)) (hq _ (by decide +kernel)))
    (sg_two (sg_four (hq _ (by decide +kernel)) (hq _ (by decide +kernel)) (hq _ (by decide +kernel)) (hq _ (by decide +kernel))) (sg_four (hq _ (by decide +kernel)) (hq _ (by decide +kernel)) (hq _ (by decide +kernel)) (hq _ (by decide +kernel))))
    (fun i j hi hj hij => by
      have h9 : (Cond.not (Cond.eq (sg_tm9 0) (sg_tm9 1))).before #[Value.ref b] s = true := hq _ (by decide +kernel)
      have hi2 : i = 0 ∨ i = 1 := by omega
      have hj2 : j = 0 ∨ j = 1 := by omega
      rcases hi2 with rfl | rfl <;> rcases hj2 with rfl | rfl
      · exact absurd rfl hij
      · exact Or.inl h9
      · exact Or.inr h9
      · exact absurd rfl hij) hA
  obtain ⟨v, hv, hev⟩ := sg_isr (args := #[Value.ref b]) (s := s) (C := "jdk/internal/util/Preconditions") (n := "SIOOBE_FORMATTER") (d := "Ljava/util/function/BiFunction;") (hq _ (by decide +kernel))
  refine ⟨fun k => if k = 0 then b else adK (k - 1), adV, rfl, hbl, Nat.le_refl _, ?_, ?_, ?_, ?_, ?_, v, hv, ?_⟩
  · have hf : (fun j : Nat => Int32.ofInt ((fun i : Int => (xs i.toNat).toInt) (j : Int))) = xs := by
      funext j
      simp
    show va_X b L (fun j : Nat => Int32.ofInt ((fun i : Int => (xs i.toNat).toInt) (j : Int))) s s.heap
    rw [hf]
    exact hX
  · have hf : (fun i : Nat => if i + 1 = 0 then b else adK (i + 1 - 1)) = adK := by
      funext i
      simp
    show vk_S 2 [4, 4] [[98, 116, 66, 84], [117, 114, 100, 108]] (fun i : Nat => if i + 1 = 0 then b else adK (i + 1 - 1)) adV _ s s.heap
    rw [hf]
    exact hS
  · exact vk_R.of (hts _ sg_strR1) (hE 0 (by decide))
  · exact vk_R.of (hts _ sg_strR2) (hE 1 (by decide))
  · exact va_Zof (hts _ sg_lsC) (hts _ (List.mem_of_getElem? (i := 99) (by decide +kernel))) (va_eqi (hq _ (by decide +kernel))) hA
  · exact va_Zof (hts _ sg_lsF) (hts _ (List.mem_of_getElem? (i := 101) (by decide +kernel))) hev hA
theorem sg_startK {s : State} {b : Nat} (hts : ∀ w ∈ lw_tbl, w.before #[Value.ref b] s = true) : ∃ (D : va_G) (dA : Nat → ClassId), va_K D vwCl (sg_tys dA) s := by
  have hts2 : ∀ w ∈ sg_tb, w.before #[Value.ref b] s = true := fun w hw => hts w (List.mem_filter.mp hw).1
  have hk : ∀ t, t < 8 → ∃ (cC : ClassId) (iS : Nat → Nat), u_Kn s (sg_R t) (sg_T t) (ag_nf t) cC iS := fun t ht => u_known hts2 (sg_lay t ht) (hts2 _ (sg_iw ht).1)
  have hk2 : ∀ t, ∃ q : ClassId × (Nat → Nat), t < 8 → u_Kn s (sg_R t) (sg_T t) (ag_nf t) q.1 q.2 := by
    intro t
    by_cases ht : t < 8
    · obtain ⟨cC, iS, h⟩ := hk t ht
      exact ⟨(cC, iS), fun _ => h⟩
    · exact ⟨(0, fun _ => 0), fun h => absurd h ht⟩
  obtain ⟨dD, hdD⟩ := Classical.axiomOfChoice hk2
  obtain ⟨a8, h8⟩ := sg_arr (hts2 _ sg_wAI) rfl
  obtain ⟨a9, h9⟩ := sg_arr (hts2 _ sg_wAZ) rfl
  obtain ⟨a10, h10⟩ := sg_arr (hts2 _ sg_wAC) rfl
  obtain ⟨a11, h11⟩ := sg_arr (hts2 _ sg_wAJ) rfl
  obtain ⟨a12, h12⟩ := sg_arrG (hts2 _ sg_wAO)
  refine ⟨(fun t => (dD t).1, fun t => (dD t).2), fun k => if k = 8 then a8 else if k = 9 then a9 else if k = 10 then a10 else if k = 11 then a11 else a12, ?_, ?_⟩
  · intro t q hq
    have ht : t < 8 := by
      have := (List.getElem?_eq_some_iff.mp hq).1
      exact this
    rw [sg_cl t ht] at hq
    cases hq
    exact hdD t ht
  · intro k q hq
    match k, hq with
    | 0, hq => cases hq; exact h8
    | 1, hq => cases hq; exact h9
    | 2, hq => cases hq; exact h10
    | 3, hq => cases hq; exact h11
    | 4, hq => cases hq; exact h12
    | k + 5, hq => simp [sg_tys] at hq
section SGW
variable {p : Program} {l : Launch} {e : Env} {s : State} {m : MethodId} {below : List Frame} {meth : Method} {c : Code} {b bs : Nat} {dA : Nat → ClassId} {ax adV : Nat → Nat} {D : va_G} {E : Nat × (Int → Int)}
theorem sg_lawrun (hx : p.tables.exec = Jvm.exec) (hb : c.code = code) (hml : c.maxLocals = 4) (hts : ∀ w ∈ sg_tb, w.before #[Value.ref b] s = true) (hown : s.vm.findClass (sg_R 8) = some m.cls) (hK : va_K D vwCl (sg_tys dA) s) (hbs : bs = s.heap.size) (hX : sg_X E bs ax adV s) (hr : meth.sig.returnType = ret) (hlocks : meth.locks = false) {d fuel : Nat} (hd : d ≤ 800) :
    ∀ (n : Nat) (f : ag_F) (h' : ag_H), ag_run ag_TT (ag_call ag_TT ag_Ms E fuel d) E ag_mL_law n f = some (some (vI 1), h') → h'.1.length ≤ 600000 → sg_ss h'.1 ≤ 7302250 → sg_J p l e room_1 s m #[Value.ref b] below meth c (lw_Z below #[Value.ref b] s) 4 bs 0 0 dA ax D f := by
  have hcall := sg_sound l D dA bs ax adV E fuel d
  intro n
  induction n with
  | zero => intro f h' hr; cases hr
  | succ n ih =>
    intro f h' hrun hr1 hr2
    obtain ⟨pc, ls, st, h⟩ := f
    unfold ag_run at hrun
    split at hrun
    · rename_i i len hq
      have hd1 : decode code pc = .ok (i, len) := sg_at_dec sg_dL_law hq
      have hck : sg_chk pc i len = true := sg_at_chk sg_ckL hq
      split at hrun
      · rename_i f1 hs
        have hm := sg_runm (fun y as h o h' hc => (hcall y as h o h' hc).2) n f1 _ h' hrun
        exact sg_step (ci := 8) (d := d) hx hb hml hts hown hK hX (fun q => by cases q) hcall (by show d + 11 ≤ 2048; omega) (by show 100 * d + 700 ≤ 84000; omega) hd1 hck hs (Nat.le_trans hm.1 hr1) (Nat.le_trans hm.2 hr2) (ih f1 h' hrun hr1 hr2)
      · rename_i o1 hs
        cases hrun
        obtain ⟨rfl, hans⟩ := sg_ansh hs
        rcases hans with ⟨-, q, -⟩ | ⟨v, hv, rfl, -, hi⟩
        · cases q
        · cases hv
          rcases hi with ⟨rfl, -⟩ | ⟨-, q⟩ | ⟨-, q⟩
          · have hl := eq_of_beq hck
            subst hl
            intro H locs rl cells slots hP hz hS hL hcl hsl
            dsimp only at hcl hsl
            refine va_forget (fun q hq => by rw [← hbs]; exact hS.2.2 q hq) ?_
            refine W.widen (k := 600000) (n := 7302250) (by omega) (by omega) ?_
            exact lw_ret (d0 := s.drawn) (Drawn.sameBut.refl s.drawn lw_cs) hx hb hr hlocks hd1
          · cases q
          · cases q
      · cases hrun
    · cases hrun
end SGW
/-- what is wanted of the abstract machine: for each script a run of the law that answers 1 -/
def sg_Goal : Prop := ∀ (L : Nat) (xs : Int → Int), L ≤ 2048 → (∀ i, ag_in (xs i)) → ∃ (fuel d n : Nat) (h' : ag_H), d ≤ 800 ∧ h'.1.length ≤ 600000 ∧ sg_ss h'.1 ≤ 7302250 ∧ ag_run ag_TT (ag_call ag_TT ag_Ms (L, xs) fuel d) (L, xs) ag_mL_law n (0, [some (vX 0), none, none, none], [], ([], fun _ _ => 0)) = some (some (vI 1), h')
set_option maxRecDepth 100000 in
theorem sg_fin (G : sg_Goal) {p : Program} {e : Env} {s : State} {m : MethodId} {below : List Frame} {meth : Method} {c : Code} (l : Launch) {b L : Nat} {xs : Nat → Int32} (hL : L ≤ 2048) (C0 : lw_At p s m meth c b L xs) : W p l e room_1 s m #[Value.ref b] below meth c s.heap [] 0 0 (lw_Z below #[Value.ref b] s) (entryFrame m ([Value.ref b] : List Value).toArray 4) := by
  obtain ⟨hx, hb, hr, hml, hown, hts, hX, hbl, hlocks, hgv⟩ := id C0
  obtain ⟨ax, adV, ha0, hX2⟩ := sg_startX hts hX hbl hgv
  obtain ⟨D, dA, hK⟩ := sg_startK hts
  obtain ⟨fuel, d, n, h', hd, h1, h2, hrun⟩ := G L (fun i => (xs i.toNat).toInt) hL (fun i => ⟨(xs i.toNat).le_toInt, (xs i.toNat).toInt_lt⟩)
  have hl := lv_entry ([.ref b]) (n := 4) (Nat.le_of_ble_eq_true rfl)
  rw [lg_entry_eq]
  have hJ := sg_lawrun (p := p) (l := l) (e := e) (m := m) (below := below) hx hb hml (fun w hw => hts w (List.mem_filter.mp hw).1) hown hK rfl hX2 hr hlocks hd n _ h' hrun h1 h2
  refine hJ s.heap [] _ 0 0 (fun k q h => by simp [sg_W] at h) (Nat.add_zero _).symm va_S.rf ⟨?_, rfl⟩ rfl rfl
  have e1 : sg_lv s.heap.size ax [some (vX 0), none, none, none] = [(0, .ref b)] := by
    rw [← ha0]
    rfl
  rw [e1]
  exact hl
-- ===== YOUR PART ENDS: whole_start waits for sg_Goal =====
