/-! LEVEL 2: the class's text -/
def m_dir (c : Int) : Int := if c = 117 then 0 else if c = 114 then 1 else if c = 100 then 2 else if c = 108 then 3 else -1
theorem m_dir_in (c : Int) : -1 ≤ m_dir c ∧ m_dir c ≤ 3 := by unfold m_dir; omega
def g_isT (C : List ag_C) (x : Nat) : Prop := C[x]? = some (3, 5, [none, some (x + 1), none, some (x + 2), some (x + 3)]) ∧ C[x + 1]? = some (8, 70, []) ∧ C[x + 2]? = some (8, 23, []) ∧ C[x + 3]? = some (8, 23, [])
section L2w
variable {E : Nat × (Int → Int)} {C : List ag_C} {N : Nat → Int → Int} {x : Nat}

theorem ev_X3_directionOf {d : Nat} (hd : 1 ≤ d) (c : Int) (h0 : ag_in c) : Ev E d 50 [vI c] (C, N) (some (vI (m_dir c)), (C, N)) := by
  obtain ⟨d, rfl⟩ : ∃ j, d = j + 1 := ⟨d - 1, by omega⟩
  refine Ev.intro (M := ag_mX3_directionOf) rfl rfl ?_
  show AR E d _ (0, [some (vI c)], [], (C, N)) _
  refine AR.blk 1 (f' := (1, [some (vI c)], [vI c], (C, N))) (fun _ => rfl) ?_
  have hsw1 : ag_in c := (by omega)
  by_cases e1 : c = 100
  · refine AR.lsw rfl hsw1 (off := 47) (by simp only [List.toList_toArray, Op.lookupswitch.offset_cons, Op.lookupswitch.offset_nil]; omega) ?_
    show AR E d _ (48, [some (vI c)], [], (C, N)) _
    refine AR.blk 1 (f' := (49, [some (vI c)], [vI 2], (C, N))) (fun _ => rfl) ?_
    exact AR.retI rfl (by unfold m_dir; omega) ⟨rfl, .inl rfl⟩ rfl
  by_cases e2 : c = 108
  · refine AR.lsw rfl hsw1 (off := 49) (by simp only [List.toList_toArray, Op.lookupswitch.offset_cons, Op.lookupswitch.offset_nil]; omega) ?_
    show AR E d _ (50, [some (vI c)], [], (C, N)) _
    refine AR.blk 1 (f' := (51, [some (vI c)], [vI 3], (C, N))) (fun _ => rfl) ?_
    exact AR.retI rfl (by unfold m_dir; omega) ⟨rfl, .inl rfl⟩ rfl
  by_cases e3 : c = 114
  · refine AR.lsw rfl hsw1 (off := 45) (by simp only [List.toList_toArray, Op.lookupswitch.offset_cons, Op.lookupswitch.offset_nil]; omega) ?_
    show AR E d _ (46, [some (vI c)], [], (C, N)) _
    refine AR.blk 1 (f' := (47, [some (vI c)], [vI 1], (C, N))) (fun _ => rfl) ?_
    exact AR.retI rfl (by unfold m_dir; omega) ⟨rfl, .inl rfl⟩ rfl
  by_cases e4 : c = 117
  · refine AR.lsw rfl hsw1 (off := 43) (by simp only [List.toList_toArray, Op.lookupswitch.offset_cons, Op.lookupswitch.offset_nil]; omega) ?_
    show AR E d _ (44, [some (vI c)], [], (C, N)) _
    refine AR.blk 1 (f' := (45, [some (vI c)], [vI 0], (C, N))) (fun _ => rfl) ?_
    exact AR.retI rfl (by unfold m_dir; omega) ⟨rfl, .inl rfl⟩ rfl
  refine AR.lsw rfl hsw1 (off := 51) (by simp only [List.toList_toArray, Op.lookupswitch.offset_cons, Op.lookupswitch.offset_nil]; omega) ?_
  show AR E d _ (52, [some (vI c)], [], (C, N)) _
  refine AR.blk 1 (f' := (53, [some (vI c)], [vI (-1)], (C, N))) (fun _ => rfl) ?_
  exact AR.retI rfl (by unfold m_dir; omega) ⟨rfl, .inl rfl⟩ rfl

theorem ev_X3_clear {d : Nat} (hd : 1 ≤ d) (ht : g_isT C x) : Ev E d 47 [vA x] (C, N) (none, (C, ag_upd N x 0 0)) := by
  obtain ⟨d, rfl⟩ : ∃ j, d = j + 1 := ⟨d - 1, by omega⟩
  refine Ev.intro (M := ag_mX3_clear) rfl rfl ?_
  show AR E d _ (0, [some (vA x)], [], (C, N)) _
  refine AR.blk 2 (f' := (2, [some (vA x)], [vI 0, vA x], (C, N))) (fun _ => rfl) ?_
  refine AR.putI rfl rfl ht.1 (by decide) (fun q => absurd q (by decide)) ?_
  exact AR.retV rfl rfl rfl

theorem ev_X3_addCharacter0 {d : Nat} (hd : 1 ≤ d) (ht : g_isT C x) {L : Int} (hL : N x 0 = L) (h0 : 0 ≤ L ∧ L ≤ 70) (c : Int) (h1 : ag_in c) (h2 : ¬ (32 ≤ c ∧ c ≤ 126 ∧ L < 70)) : Ev E d 46 [vA x, vI c] (C, N) (some (vI 0), (C, N)) := by
  obtain ⟨d, rfl⟩ : ∃ j, d = j + 1 := ⟨d - 1, by omega⟩
  refine Ev.intro (M := ag_mX3_addCharacter) rfl rfl ?_
  show AR E d _ (0, [some (vA x), some (vI c)], [], (C, N)) _
  refine AR.blk 2 (f' := (3, [some (vA x), some (vI c)], [vI 32, vI c], (C, N))) (fun _ => rfl) ?_
  refine AR.ic_lt rfl (by omega) (fun c1 => ?_) (fun c1 => ?_)
  · show AR E d _ (28, [some (vA x), some (vI c)], [], (C, N)) _
    refine AR.blk 1 (f' := (29, [some (vA x), some (vI c)], [vI 0], (C, N))) (fun _ => rfl) ?_
    exact AR.retI rfl (by omega) (by decide) (by first | rfl | exact False.elim (by omega))
  · show AR E d _ (6, [some (vA x), some (vI c)], [], (C, N)) _
    refine AR.blk 2 (f' := (9, [some (vA x), some (vI c)], [vI 126, vI c], (C, N))) (fun _ => rfl) ?_
    refine AR.ic_gt rfl (by omega) (fun c2 => ?_) (fun c2 => ?_)
    · show AR E d _ (28, [some (vA x), some (vI c)], [], (C, N)) _
      refine AR.blk 1 (f' := (29, [some (vA x), some (vI c)], [vI 0], (C, N))) (fun _ => rfl) ?_
      exact AR.retI rfl (by omega) (by decide) (by first | rfl | exact False.elim (by omega))
    · show AR E d _ (12, [some (vA x), some (vI c)], [], (C, N)) _
      refine AR.blk 1 (f' := (13, [some (vA x), some (vI c)], [vA x], (C, N))) (fun _ => rfl) ?_
      refine AR.getI rfl rfl ht.1 (by decide) (v := L) hL ?_
      refine AR.if_lt rfl (by omega) (fun c3 => ?_) (fun c3 => ?_)
      · show AR E d _ (28, [some (vA x), some (vI c)], [], (C, N)) _
        refine AR.blk 1 (f' := (29, [some (vA x), some (vI c)], [vI 0], (C, N))) (fun _ => rfl) ?_
        exact AR.retI rfl (by omega) (by decide) (by first | rfl | exact False.elim (by omega))
      · show AR E d _ (19, [some (vA x), some (vI c)], [], (C, N)) _
        refine AR.blk 1 (f' := (20, [some (vA x), some (vI c)], [vA x], (C, N))) (fun _ => rfl) ?_
        refine AR.getI rfl rfl ht.1 (by decide) (v := L) hL ?_
        refine AR.blk 1 (f' := (25, [some (vA x), some (vI c)], [vI 70, vI L], (C, N))) (fun _ => rfl) ?_
        refine AR.ic_lt rfl (by omega) (fun c4 => ?_) (fun c4 => ?_)
        · show AR E d _ (30, [some (vA x), some (vI c)], [], (C, N)) _
          refine AR.blk 1 (f' := (31, [some (vA x), some (vI c)], [vA x], (C, N))) (fun _ => rfl) ?_
          refine AR.getR rfl rfl ht.1 (by decide) rfl ?_
          refine AR.blk 1 (f' := (35, [some (vA x), some (vI c)], [vA x, vA (x + 1)], (C, N))) (fun _ => rfl) ?_
          refine AR.getI rfl rfl ht.1 (by decide) (v := L) hL ?_
          refine AR.blk 1 (f' := (39, [some (vA x), some (vI c)], [vI c, vI L, vA (x + 1)], (C, N))) (fun _ => rfl) ?_
          refine AR.iast rfl ht.2.1 (by omega) ?_
          refine AR.blk 2 (f' := (42, [some (vA x), some (vI c)], [vA x, vA x], (C, ag_upd N (x + 1) L c))) (fun _ => rfl) ?_
          refine AR.getI rfl rfl ht.1 (by decide) (v := L) ((congrFun (ag_upd_ne (by omega)) _).trans hL) ?_
          refine AR.blk 2 (f' := (47, [some (vA x), some (vI c)], [vI (L + 1), vA x], (C, ag_upd N (x + 1) L c))) (fun _ => rfl) ?_
          refine AR.putI rfl rfl ht.1 (by decide) (fun q => absurd q (by decide)) ?_
          refine AR.blk 1 (f' := (51, [some (vA x), some (vI c)], [vI 1], (C, ag_upd (ag_upd N (x + 1) L c) x 0 (L + 1)))) (fun _ => rfl) ?_
          exact AR.retI rfl (by omega) (by decide) (by first | rfl | exact False.elim (by omega))
        · show AR E d _ (28, [some (vA x), some (vI c)], [], (C, N)) _
          refine AR.blk 1 (f' := (29, [some (vA x), some (vI c)], [vI 0], (C, N))) (fun _ => rfl) ?_
          exact AR.retI rfl (by omega) (by decide) (by first | rfl | exact False.elim (by omega))

theorem ev_X3_addCharacter1 {d : Nat} (hd : 1 ≤ d) (ht : g_isT C x) {L : Int} (hL : N x 0 = L) (h0 : 0 ≤ L ∧ L ≤ 70) (c : Int) (h1 : ag_in c) (h2 : 32 ≤ c ∧ c ≤ 126 ∧ L < 70) : Ev E d 46 [vA x, vI c] (C, N) (some (vI 1), (C, ag_upd (ag_upd N (x + 1) L c) x 0 (L + 1))) := by
  obtain ⟨d, rfl⟩ : ∃ j, d = j + 1 := ⟨d - 1, by omega⟩
  refine Ev.intro (M := ag_mX3_addCharacter) rfl rfl ?_
  show AR E d _ (0, [some (vA x), some (vI c)], [], (C, N)) _
  refine AR.blk 2 (f' := (3, [some (vA x), some (vI c)], [vI 32, vI c], (C, N))) (fun _ => rfl) ?_
  refine AR.ic_lt rfl (by omega) (fun c1 => ?_) (fun c1 => ?_)
  · show AR E d _ (28, [some (vA x), some (vI c)], [], (C, N)) _
    refine AR.blk 1 (f' := (29, [some (vA x), some (vI c)], [vI 0], (C, N))) (fun _ => rfl) ?_
    exact AR.retI rfl (by omega) (by decide) (by first | rfl | exact False.elim (by omega))
  · show AR E d _ (6, [some (vA x), some (vI c)], [], (C, N)) _
    refine AR.blk 2 (f' := (9, [some (vA x), some (vI c)], [vI 126, vI c], (C, N))) (fun _ => rfl) ?_
    refine AR.ic_gt rfl (by omega) (fun c2 => ?_) (fun c2 => ?_)
    · show AR E d _ (28, [some (vA x), some (vI c)], [], (C, N)) _
      refine AR.blk 1 (f' := (29, [some (vA x), some (vI c)], [vI 0], (C, N))) (fun _ => rfl) ?_
      exact AR.retI rfl (by omega) (by decide) (by first | rfl | exact False.elim (by omega))
    · show AR E d _ (12, [some (vA x), some (vI c)], [], (C, N)) _
      refine AR.blk 1 (f' := (13, [some (vA x), some (vI c)], [vA x], (C, N))) (fun _ => rfl) ?_
      refine AR.getI rfl rfl ht.1 (by decide) (v := L) hL ?_
      refine AR.if_lt rfl (by omega) (fun c3 => ?_) (fun c3 => ?_)
      · show AR E d _ (28, [some (vA x), some (vI c)], [], (C, N)) _
        refine AR.blk 1 (f' := (29, [some (vA x), some (vI c)], [vI 0], (C, N))) (fun _ => rfl) ?_
        exact AR.retI rfl (by omega) (by decide) (by first | rfl | exact False.elim (by omega))
      · show AR E d _ (19, [some (vA x), some (vI c)], [], (C, N)) _
        refine AR.blk 1 (f' := (20, [some (vA x), some (vI c)], [vA x], (C, N))) (fun _ => rfl) ?_
        refine AR.getI rfl rfl ht.1 (by decide) (v := L) hL ?_
        refine AR.blk 1 (f' := (25, [some (vA x), some (vI c)], [vI 70, vI L], (C, N))) (fun _ => rfl) ?_
        refine AR.ic_lt rfl (by omega) (fun c4 => ?_) (fun c4 => ?_)
        · show AR E d _ (30, [some (vA x), some (vI c)], [], (C, N)) _
          refine AR.blk 1 (f' := (31, [some (vA x), some (vI c)], [vA x], (C, N))) (fun _ => rfl) ?_
          refine AR.getR rfl rfl ht.1 (by decide) rfl ?_
          refine AR.blk 1 (f' := (35, [some (vA x), some (vI c)], [vA x, vA (x + 1)], (C, N))) (fun _ => rfl) ?_
          refine AR.getI rfl rfl ht.1 (by decide) (v := L) hL ?_
          refine AR.blk 1 (f' := (39, [some (vA x), some (vI c)], [vI c, vI L, vA (x + 1)], (C, N))) (fun _ => rfl) ?_
          refine AR.iast rfl ht.2.1 (by omega) ?_
          refine AR.blk 2 (f' := (42, [some (vA x), some (vI c)], [vA x, vA x], (C, ag_upd N (x + 1) L c))) (fun _ => rfl) ?_
          refine AR.getI rfl rfl ht.1 (by decide) (v := L) ((congrFun (ag_upd_ne (by omega)) _).trans hL) ?_
          refine AR.blk 2 (f' := (47, [some (vA x), some (vI c)], [vI (L + 1), vA x], (C, ag_upd N (x + 1) L c))) (fun _ => rfl) ?_
          refine AR.putI rfl rfl ht.1 (by decide) (fun q => absurd q (by decide)) ?_
          refine AR.blk 1 (f' := (51, [some (vA x), some (vI c)], [vI 1], (C, ag_upd (ag_upd N (x + 1) L c) x 0 (L + 1)))) (fun _ => rfl) ?_
          exact AR.retI rfl (by omega) (by decide) (by first | rfl | exact False.elim (by omega))
        · show AR E d _ (28, [some (vA x), some (vI c)], [], (C, N)) _
          refine AR.blk 1 (f' := (29, [some (vA x), some (vI c)], [vI 0], (C, N))) (fun _ => rfl) ?_
          exact AR.retI rfl (by omega) (by decide) (by first | rfl | exact False.elim (by omega))

theorem ev_X3_addMove {d : Nat} (hd : 1 ≤ d) (ht : g_isT C x) {K : Int} (hK : N x 2 = K) (h0 : 0 ≤ K ∧ K < 23) (s y : Int) : Ev E d 49 [vA x, vI s, vI y] (C, N) (none, (C, ag_upd (ag_upd (ag_upd N (x + 2) K s) (x + 3) K y) x 2 (K + 1))) := by
  obtain ⟨d, rfl⟩ : ∃ j, d = j + 1 := ⟨d - 1, by omega⟩
  refine Ev.intro (M := ag_mX3_addMove) rfl rfl ?_
  show AR E d _ (0, [some (vA x), some (vI s), some (vI y)], [], (C, N)) _
  refine AR.blk 1 (f' := (1, [some (vA x), some (vI s), some (vI y)], [vA x], (C, N))) (fun _ => rfl) ?_
  refine AR.getI rfl rfl ht.1 (by decide) (v := K) (hK) ?_
  refine AR.if_lt rfl (by omega) (fun c1 => ?_) (fun c1 => ?_)
  · show AR E d _ (46, [some (vA x), some (vI s), some (vI y)], [], (C, N)) _
    exact AR.retV rfl rfl (by first | rfl | exact False.elim (by omega))
  · show AR E d _ (7, [some (vA x), some (vI s), some (vI y)], [], (C, N)) _
    refine AR.blk 1 (f' := (8, [some (vA x), some (vI s), some (vI y)], [vA x], (C, N))) (fun _ => rfl) ?_
    refine AR.getI rfl rfl ht.1 (by decide) (v := K) (hK) ?_
    refine AR.blk 1 (f' := (13, [some (vA x), some (vI s), some (vI y)], [vI 23, vI K], (C, N))) (fun _ => rfl) ?_
    refine AR.ic_ge rfl (by omega) (fun c2 => ?_) (fun c2 => ?_)
    · show AR E d _ (46, [some (vA x), some (vI s), some (vI y)], [], (C, N)) _
      exact AR.retV rfl rfl (by first | rfl | exact False.elim (by omega))
    · show AR E d _ (16, [some (vA x), some (vI s), some (vI y)], [], (C, N)) _
      refine AR.blk 1 (f' := (17, [some (vA x), some (vI s), some (vI y)], [vA x], (C, N))) (fun _ => rfl) ?_
      refine AR.getR rfl rfl ht.1 (by decide) rfl ?_
      refine AR.blk 1 (f' := (21, [some (vA x), some (vI s), some (vI y)], [vA x, vA (x + 2)], (C, N))) (fun _ => rfl) ?_
      refine AR.getI rfl rfl ht.1 (by decide) (v := K) (hK) ?_
      refine AR.blk 1 (f' := (25, [some (vA x), some (vI s), some (vI y)], [vI s, vI K, vA (x + 2)], (C, N))) (fun _ => rfl) ?_
      refine AR.iast rfl ht.2.2.1 (by omega) ?_
      refine AR.blk 1 (f' := (27, [some (vA x), some (vI s), some (vI y)], [vA x], (C, ag_upd N (x + 2) K s))) (fun _ => rfl) ?_
      refine AR.getR rfl rfl ht.1 (by decide) rfl ?_
      refine AR.blk 1 (f' := (31, [some (vA x), some (vI s), some (vI y)], [vA x, vA (x + 3)], (C, ag_upd N (x + 2) K s))) (fun _ => rfl) ?_
      refine AR.getI rfl rfl ht.1 (by decide) (v := K) ((congrFun (ag_upd_ne (by omega)) _).trans (hK)) ?_
      refine AR.blk 1 (f' := (35, [some (vA x), some (vI s), some (vI y)], [vI y, vI K, vA (x + 3)], (C, ag_upd N (x + 2) K s))) (fun _ => rfl) ?_
      refine AR.iast rfl ht.2.2.2 (by omega) ?_
      refine AR.blk 2 (f' := (38, [some (vA x), some (vI s), some (vI y)], [vA x, vA x], (C, ag_upd (ag_upd N (x + 2) K s) (x + 3) K y))) (fun _ => rfl) ?_
      refine AR.getI rfl rfl ht.1 (by decide) (v := K) ((congrFun (ag_upd_ne (by omega)) _).trans ((congrFun (ag_upd_ne (by omega)) _).trans (hK))) ?_
      refine AR.blk 2 (f' := (43, [some (vA x), some (vI s), some (vI y)], [vI (K + 1), vA x], (C, ag_upd (ag_upd N (x + 2) K s) (x + 3) K y))) (fun _ => rfl) ?_
      refine AR.putI rfl rfl ht.1 (by decide) (fun q => absurd q (by decide)) ?_
      exact AR.retV rfl rfl (by first | rfl | exact False.elim (by omega))
end L2w
