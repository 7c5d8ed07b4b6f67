/-! contracts, and calls by contract -/
theorem sg_warm {w : Cond} (h : w ∈ sg_tb) {s U : State} {A A' : Array Value} (hW : s.WarmedH U.vm) (hb : w.before A s = true) : w.before A' U = true := by
  have ht := (List.mem_filter.mp h).2
  unfold sg_tok at ht
  rw [Bool.or_eq_true, Bool.or_eq_true] at ht
  rcases ht with ht | ht | ht
  · exact word_at hW (good_of_word ht) hb
  · cases w <;> first | (cases ht; done) | exact va_Nw.use rfl (va_Nw.warmF hW (va_Nw.of rfl hb)) | exact va_Nw.use rfl (va_Nw.warmM hW (va_Nw.of rfl hb))
  · unfold sg_arrO at ht
    split at ht
    · exact va_AO.use (va_AO.moved hW.alike (va_AO.of hb))
    · cases ht
def sg_Gd : List Cond := sg_tb.filter goodWord
def sg_ws (y : Nat) : List Cond := sg_code y :: sg_Gd
def sg_rm (d c n : Nat) : Room := { frames := d + 10, cells := c, slots := n, locals := 100 * d + 600 }
theorem sg_X.to {E : Nat × (Int → Int)} {bs : Nat} {ax adV : Nat → Nat} {s U : State} {locs : List Loc} (h : sg_X E bs ax adV s) (hS : va_S (fun q => bs ≤ q) s.heap U.heap locs) (hv : s.vm.Alike U.vm) (hR : ∀ (own tx : String) (k a : Nat), vk_R own k tx a s → vk_R own k tx a U) : sg_X E bs ax adV U := by
  obtain ⟨h1, h2, h3, h4, h5, h6, h7, v, h8, h9⟩ := h
  refine ⟨h1, Nat.le_trans h2 hS.1, (h3.kept (hS.2.1 _ (Nat.lt_of_lt_of_le h1 h2) (Nat.not_le.mpr h1))).moved hv, (h4.kept hS.2.1).moved hv, hR _ _ _ _ h5, hR _ _ _ _ h6, (h7.kept hS.2.1).moved hv, v, h8, (h9.kept hS.2.1).moved hv⟩
section SGD
variable (D : va_G) (dA : Nat → ClassId) (bs : Nat) (ax adV : Nat → Nat) (E : Nat × (Int → Int))
/-- what holds of the state at a method's entry: the heap's world, the classes, the words, what lies outside -/
def sg_In (h : ag_H) (U : State) : Prop := va_P D vwCl (sg_W bs dA h) U.heap ∧ U.heap.size = bs + h.1.length ∧ va_K D vwCl (sg_tys dA) U ∧ (∀ w ∈ sg_tb, goodWord w = false → w.before #[] U = true) ∧ sg_X E bs ax adV U
def sg_Pc (as : List av) (h : ag_H) : Array Value → State → Prop := fun v U => v = (as.map (sg_up bs ax)).toArray ∧ sg_In D dA bs ax adV E h U
def sg_Qc (o : Option av) (h : ag_H) : Array Value → State → Outcome → State → Prop := fun _ st oc t => oc = .returned (o.map (sg_up bs ax)) ∧ va_P D vwCl (sg_W bs dA h) t.heap ∧ t.heap.size = bs + h.1.length ∧ ∀ q : Nat, q < bs → t.heap[q]? = st.heap[q]?
/-- the contract of a method, at a depth, for these arguments and this heap -/
def sg_Met (l : Launch) (d y : Nat) (as : List av) (h : ag_H) (o : Option av) (h' : ag_H) : Prop :=
  Met l (sg_yo y) (sg_ws y) (sg_rm d (h'.1.length - h.1.length) (sg_ss h'.1 - sg_ss h.1)) (sg_Pc D dA bs ax adV E as h) (sg_Qc D dA bs ax o h') (h'.1.length - h.1.length) (sg_ss h'.1 - sg_ss h.1) (fun q => bs ≤ q)
end SGD
theorem sg_nw0 {w : Cond} (h : w ∈ sg_tb) (hg : goodWord w = false) {U U' : State} {A A' : Array Value} (hv : U.vm = U'.vm) (hb : w.before A U = true) : w.before A' U' = true := by
  have ht := (List.mem_filter.mp h).2
  unfold sg_tok at ht
  rw [Bool.or_eq_true, Bool.or_eq_true] at ht
  rcases ht with ht | ht | ht
  · rw [hg] at ht; cases ht
  · cases w <;> first | (cases ht; done) | exact va_tabs rfl hv hb
  · unfold sg_arrO at ht
    split at ht
    · exact va_AO.use (va_AO.moved (by rw [hv]; exact Vm.Alike.refl _) (va_AO.of hb))
    · cases ht
theorem sg_blind {D : va_G} {dA : Nat → ClassId} {bs : Nat} {ax adV : Nat → Nat} {E : Nat × (Int → Int)} {as : List av} {h : ag_H} : FrameBlind (sg_Pc D dA bs ax adV E as h) := by
  intro a U g mk q
  obtain ⟨q0, q1, q2, q3, q4, q5⟩ := q
  refine ⟨q0, q1, q2, va_K.moved (u := U) (U := U.calling g mk a) (Vm.Alike.refl U.vm) q3, fun w hw hg => sg_nw0 (U := U) (U' := U.calling g mk a) (A' := #[]) hw hg rfl (q4 w hw hg), ?_⟩
  refine sg_X.to (s := U) (U := U.calling g mk a) (locs := []) q5 va_S.rf (Vm.Alike.refl U.vm) (fun own tx k a hr => vk_R.same rfl hr)
section SGC
variable {p : Program} {l : Launch} {e : Env} {R : Room} {s : State} {m : MethodId} {args : Array Value} {below : List Frame} {meth : Method} {c : Code} {Q : State → Prop} {cc : ByteArray} {nL bs n0 s0 ci : Nat} {dA : Nat → ClassId} {ax adV : Nat → Nat} {D : va_G} {E : Nat × (Int → Int)}
variable {pc : Nat} {ls : List (Option av)} {st : List av} {h : ag_H}
theorem sg_cats {st : List av} (hl : st.length ≤ 4) : ((st.map (sg_up bs ax)).map fun v => v.category).sum ≤ 8 := by
  have key : ∀ st : List av, ((st.map (sg_up bs ax)).map fun v => v.category).sum ≤ 2 * st.length := by
    intro st
    induction st with
    | nil => simp
    | cons v st ih =>
      have hc := sg_cat bs ax v
      simp only [List.map_cons, List.sum_cons, List.length_cons]
      by_cases hw : ag_wide (some v) = true
      · rw [if_pos hw] at hc; omega
      · rw [if_neg hw] at hc; omega
  have := key st
  omega
/-- the entry's facts of the callee, out of the caller's -/
theorem sg_enter (hts : ∀ w ∈ sg_tb, w.before args s = true) (hK : va_K D vwCl (sg_tys dA) s) (hX : sg_X E bs ax adV s) {H : Heap} {locs : List Loc} (hP : va_P D vwCl (sg_W bs dA h) H) (hz : H.size = bs + h.1.length) (hS : va_S (fun q => bs ≤ q) s.heap H locs) (U : State) (hU : U.heap = H) (hW : s.WarmedH U.vm) : sg_In D dA bs ax adV E h U := by
  subst hU
  exact ⟨hP, hz, hK.moved hW.alike, fun w hw _ => sg_warm hw hW (hts w hw), hX.to hS hW.alike (fun own tx k a hr => vk_R.warm hW hr)⟩
theorem sg_own0 : ∀ y, y < 171 → sg_own y (sg_pO.getD y (0, 0)) = true := by
  intro y hy
  have key : ∀ k, k < 6 → ((List.range 30).all fun j => decide (171 ≤ 30 * k + j) || sg_own (30 * k + j) (sg_pO.getD (30 * k + j) (0, 0))) = true := by
    intro k hk
    have h : k = 0 ∨ k = 1 ∨ k = 2 ∨ k = 3 ∨ k = 4 ∨ k = 5 := by omega
    rcases h with rfl | rfl | rfl | rfl | rfl | rfl
    · exact sg_o0
    · exact sg_o1
    · exact sg_o2
    · exact sg_o3
    · exact sg_o4
    · exact sg_o5
  have h1 := List.all_eq_true.mp (key (y / 30) (by omega)) (y % 30) (List.mem_range.mpr (by omega))
  rw [show 30 * (y / 30) + y % 30 = y by omega] at h1
  rw [Bool.or_eq_true] at h1
  rcases h1 with h1 | h1
  · have := of_decide_eq_true h1; omega
  · exact h1
theorem sg_ownf {y : Nat} (hy : y < 171) : sg_code y ∈ sg_tb ∧ .initialized (sg_yo y).cls ∈ sg_tb ∧ ((sg_yo y).cls ≠ "java/lang/invoke/MethodHandle" ∧ (sg_yo y).cls ≠ "java/lang/invoke/VarHandle") ∧ (sg_yo y).cls = sg_R (sg_Mo y).1 ∧ plainName (sg_yo y).cls = true ∧ (sg_Mo y).1 < 8 := by
  have h := sg_own0 y hy
  simp only [sg_own, Bool.and_eq_true, decide_eq_true_eq] at h
  obtain ⟨⟨⟨⟨⟨h1, h2⟩, h3⟩, h4⟩, h5⟩, h6⟩ := h
  exact ⟨sg_mem (sg_atm h1) rfl, sg_mem (sg_atm h2) rfl, h3, h4, h5, h6⟩
theorem sg_wsin (hts : ∀ w ∈ sg_tb, w.before args s = true) {y : Nat} (hy : y < 171) : ∀ w ∈ sg_ws y, ∀ (a' : Array Value) (U : State), s.WarmedH U.vm → w.before a' U = true := by
  intro w hw a' U hW
  have hm : w ∈ sg_tb := by
    rcases List.mem_cons.mp hw with rfl | hw
    · exact (sg_ownf hy).1
    · exact (List.mem_filter.mp hw).1
  exact sg_warm hm hW (hts w hm)
/-- a call's run, and what comes behind it -/
theorem sg_back {rl : Array Slot} {H : Heap} {locs : List Loc} {cells slots : Nat} {st0 : List Value} {rest : List av} {o : Option av} {h' : ag_H} {a : Array Value} (hL : sg_L bs ax nL ls rl) (hS : va_S (fun q => bs ≤ q) s.heap H locs) (hbs : bs ≤ s.heap.size) (hc : cells + n0 = h.1.length) (hs : slots + s0 = sg_ss h.1) (hz : H.size = bs + h.1.length) (hm1 : h.1.length ≤ h'.1.length) (hm2 : sg_ss h.1 ≤ sg_ss h'.1)
    (hr : va_Run p l e R s m args below meth c H locs cells slots (h'.1.length - h.1.length) (sg_ss h'.1 - sg_ss h.1) (F0 m pc rl st0) (rest.map (sg_up bs ax)) (sg_Qc D dA bs ax o h' a) (fun q => bs ≤ q))
    (kk : sg_J p l e R s m args below meth c Q nL bs n0 s0 dA ax D (pc + 3, ls, ag_push o rest, h')) : W p l e R s m args below meth c H locs cells slots Q (F0 m pc rl st0) := by
  intro T hT X
  obtain ⟨v, st₀, t, T', L, h0, X', hL2, e1, e2, ⟨hv, hP1, hz1, hk1⟩, stp⟩ := hr T hT X
  have hv2 : v = o.map (sg_up bs ax) := Outcome.returned.inj hv
  subst hv2
  rw [h0] at hk1
  have hstack : (o.map (sg_up bs ax)).toList ++ rest.map (sg_up bs ax) = (ag_push o rest).map (sg_up bs ax) := by cases o <;> rfl
  have := kk T'.heap (locs ++ L) rl (cells + (h'.1.length - h.1.length)) (slots + (sg_ss h'.1 - sg_ss h.1)) (by rw [e1]; exact hP1) (by rw [e1]; exact hz1) ⟨by rw [e1, hz1]; have := hS.1; omega, fun q hq hA => by
      have hqb : q < bs := Nat.not_le.mp hA
      rw [e1, hk1 q hqb]
      exact hS.2.1 q hq hA, fun q hq => by
      rcases List.mem_append.mp hq with hq | hq
      · exact hS.2.2 q hq
      · exact hL2 q hq⟩ hL (by dsimp only; omega) (by dsimp only; omega)
  obtain ⟨t2, a1, b1⟩ := this T' rfl X'
  refine ⟨t2, stp t2 ?_, b1⟩
  dsimp only at a1 ⊢
  rw [hstack]
  exact a1
end SGC
