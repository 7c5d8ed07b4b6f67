/-! LEVEL 2: numbers of squares, sides, pieces and directions -/
def m_own (c : Int) : Int := if c = -1 then -1 else c / 2
def m_tug (c : Int) : Int := if c = -1 then 0 else if c % 2 = 1 then 1 else 0
def m_goes (c d : Int) : Int := if m_tug c = 1 then 1 else if d = (if m_own c = 0 then 2 else 0) then 0 else 1
def m_step (d : Int) : Int := if d = 0 then 6 else if d = 1 then 1 else if d = 2 then -6 else -1
def m_room (s d : Int) : Int := if d = 0 then 5 - s / 6 else if d = 1 then 5 - s % 6 else if d = 2 then s / 6 else s % 6
def m_ahead (s d k : Int) : Int := if k ≤ m_room s d then s + k * m_step d else -1
def m_end (l d k : Int) : Int := if d = 0 then (5 - k) * 6 + l else if d = 1 then l * 6 + 5 - k else if d = 2 then k * 6 + l else l * 6 + k
section L2a
variable {E : Nat × (Int → Int)} {C : List ag_C} {N : Nat → Int → Int}

theorem m_own_in (c : Int) (h : -1 ≤ c ∧ c ≤ 3) : -1 ≤ m_own c ∧ m_own c ≤ 1 ∧ (m_own c = -1 ↔ c = -1) := by unfold m_own; omega
theorem m_tug_in (c : Int) : m_tug c = 0 ∨ m_tug c = 1 := by unfold m_tug; omega
theorem m_goes_in (c d : Int) : m_goes c d = 0 ∨ m_goes c d = 1 := by unfold m_goes; omega
theorem m_step_in (d : Int) : -6 ≤ m_step d ∧ m_step d ≤ 6 := by unfold m_step; omega
theorem m_room_in (s d : Int) (h : 0 ≤ s ∧ s < 36) : 0 ≤ m_room s d ∧ m_room s d ≤ 5 := by unfold m_room; omega

theorem ev_X6_isSquare {d : Nat} (hd : 1 ≤ d) (s : Int) (h0 : ag_in s) : Ev E d 90 [vI s] (C, N) (some (vI (if 0 ≤ s ∧ s < 36 then 1 else 0)), (C, N)) := by
  obtain ⟨d, rfl⟩ : ∃ j, d = j + 1 := ⟨d - 1, by omega⟩
  refine Ev.intro (M := ag_mX6_isSquare) rfl rfl ?_
  show AR E d _ (0, [some (vI s)], [], (C, N)) _
  refine AR.blk 1 (f' := (1, [some (vI s)], [vI s], (C, N))) (fun _ => rfl) ?_
  refine AR.if_lt rfl (by omega) (fun c1 => ?_) (fun c1 => ?_)
  · show AR E d _ (14, [some (vI s)], [], (C, N)) _
    refine AR.blk 1 (f' := (15, [some (vI s)], [vI 0], (C, N))) (fun _ => rfl) ?_
    exact AR.retI rfl (by omega) (by decide) rfl
  · show AR E d _ (4, [some (vI s)], [], (C, N)) _
    refine AR.blk 2 (f' := (7, [some (vI s)], [vI 36, vI s], (C, N))) (fun _ => rfl) ?_
    refine AR.ic_ge rfl (by omega) (fun c2 => ?_) (fun c2 => ?_)
    · show AR E d _ (14, [some (vI s)], [], (C, N)) _
      refine AR.blk 1 (f' := (15, [some (vI s)], [vI 0], (C, N))) (fun _ => rfl) ?_
      exact AR.retI rfl (by omega) (by decide) rfl
    · show AR E d _ (10, [some (vI s)], [], (C, N)) _
      refine AR.blk 2 (f' := (15, [some (vI s)], [vI 1], (C, N))) (fun _ => rfl) ?_
      exact AR.retI rfl (by omega) (by decide) rfl

theorem ev_X6_isSide {d : Nat} (hd : 1 ≤ d) (s : Int) (h0 : ag_in s) : Ev E d 91 [vI s] (C, N) (some (vI (if 0 ≤ s ∧ s < 2 then 1 else 0)), (C, N)) := by
  obtain ⟨d, rfl⟩ : ∃ j, d = j + 1 := ⟨d - 1, by omega⟩
  refine Ev.intro (M := ag_mX6_isSide) rfl rfl ?_
  show AR E d _ (0, [some (vI s)], [], (C, N)) _
  refine AR.blk 1 (f' := (1, [some (vI s)], [vI s], (C, N))) (fun _ => rfl) ?_
  refine AR.if_lt rfl (by omega) (fun c1 => ?_) (fun c1 => ?_)
  · show AR E d _ (13, [some (vI s)], [], (C, N)) _
    refine AR.blk 1 (f' := (14, [some (vI s)], [vI 0], (C, N))) (fun _ => rfl) ?_
    exact AR.retI rfl (by omega) (by decide) rfl
  · show AR E d _ (4, [some (vI s)], [], (C, N)) _
    refine AR.blk 2 (f' := (6, [some (vI s)], [vI 2, vI s], (C, N))) (fun _ => rfl) ?_
    refine AR.ic_ge rfl (by omega) (fun c2 => ?_) (fun c2 => ?_)
    · show AR E d _ (13, [some (vI s)], [], (C, N)) _
      refine AR.blk 1 (f' := (14, [some (vI s)], [vI 0], (C, N))) (fun _ => rfl) ?_
      exact AR.retI rfl (by omega) (by decide) rfl
    · show AR E d _ (9, [some (vI s)], [], (C, N)) _
      refine AR.blk 2 (f' := (14, [some (vI s)], [vI 1], (C, N))) (fun _ => rfl) ?_
      exact AR.retI rfl (by omega) (by decide) rfl

theorem ev_X6_isDirection {d : Nat} (hd : 1 ≤ d) (s : Int) (h0 : ag_in s) : Ev E d 92 [vI s] (C, N) (some (vI (if 0 ≤ s ∧ s < 4 then 1 else 0)), (C, N)) := by
  obtain ⟨d, rfl⟩ : ∃ j, d = j + 1 := ⟨d - 1, by omega⟩
  refine Ev.intro (M := ag_mX6_isDirection) rfl rfl ?_
  show AR E d _ (0, [some (vI s)], [], (C, N)) _
  refine AR.blk 1 (f' := (1, [some (vI s)], [vI s], (C, N))) (fun _ => rfl) ?_
  refine AR.if_lt rfl (by omega) (fun c1 => ?_) (fun c1 => ?_)
  · show AR E d _ (13, [some (vI s)], [], (C, N)) _
    refine AR.blk 1 (f' := (14, [some (vI s)], [vI 0], (C, N))) (fun _ => rfl) ?_
    exact AR.retI rfl (by omega) (by decide) rfl
  · show AR E d _ (4, [some (vI s)], [], (C, N)) _
    refine AR.blk 2 (f' := (6, [some (vI s)], [vI 4, vI s], (C, N))) (fun _ => rfl) ?_
    refine AR.ic_ge rfl (by omega) (fun c2 => ?_) (fun c2 => ?_)
    · show AR E d _ (13, [some (vI s)], [], (C, N)) _
      refine AR.blk 1 (f' := (14, [some (vI s)], [vI 0], (C, N))) (fun _ => rfl) ?_
      exact AR.retI rfl (by omega) (by decide) rfl
    · show AR E d _ (9, [some (vI s)], [], (C, N)) _
      refine AR.blk 2 (f' := (14, [some (vI s)], [vI 1], (C, N))) (fun _ => rfl) ?_
      exact AR.retI rfl (by omega) (by decide) rfl

theorem ev_X6_orNothing {d : Nat} (hd : 1 ≤ d) (n : Int) (h0 : ag_in n) : Ev E d 93 [vI n] (C, N) (some (vI (if n < 0 then -4 else n)), (C, N)) := by
  obtain ⟨d, rfl⟩ : ∃ j, d = j + 1 := ⟨d - 1, by omega⟩
  refine Ev.intro (M := ag_mX6_orNothing) rfl rfl ?_
  show AR E d _ (0, [some (vI n)], [], (C, N)) _
  refine AR.blk 1 (f' := (1, [some (vI n)], [vI n], (C, N))) (fun _ => rfl) ?_
  refine AR.if_ge rfl (by omega) (fun c1 => ?_) (fun c1 => ?_)
  · show AR E d _ (9, [some (vI n)], [], (C, N)) _
    refine AR.blk 1 (f' := (10, [some (vI n)], [vI n], (C, N))) (fun _ => rfl) ?_
    exact AR.retI rfl (by omega) ⟨rfl, .inl rfl⟩ rfl
  · show AR E d _ (4, [some (vI n)], [], (C, N)) _
    refine AR.blk 2 (f' := (10, [some (vI n)], [vI (-4)], (C, N))) (fun _ => rfl) ?_
    exact AR.retI rfl (by omega) ⟨rfl, .inl rfl⟩ rfl

theorem ev_X6_otherSide {d : Nat} (hd : 1 ≤ d) (n : Int) : Ev E d 94 [vI n] (C, N) (some (vI (1 - n)), (C, N)) := by
  obtain ⟨d, rfl⟩ : ∃ j, d = j + 1 := ⟨d - 1, by omega⟩
  refine Ev.intro (M := ag_mX6_otherSide) rfl rfl ?_
  show AR E d _ (0, [some (vI n)], [], (C, N)) _
  refine AR.blk 3 (f' := (3, [some (vI n)], [vI (1 - n)], (C, N))) (fun _ => rfl) ?_
  exact AR.retI rfl rfl ⟨rfl, .inl rfl⟩ rfl

theorem ev_X6_ownerOf {d : Nat} (hd : 1 ≤ d) (c : Int) (h0 : -1 ≤ c ∧ c ≤ 3) : Ev E d 95 [vI c] (C, N) (some (vI (m_own c)), (C, N)) := by
  obtain ⟨d, rfl⟩ : ∃ j, d = j + 1 := ⟨d - 1, by omega⟩
  refine Ev.intro (M := ag_mX6_ownerOf) rfl rfl ?_
  show AR E d _ (0, [some (vI c)], [], (C, N)) _
  refine AR.blk 2 (f' := (2, [some (vI c)], [vI (-1), vI c], (C, N))) (fun _ => rfl) ?_
  refine AR.ic_ne rfl (by omega) (fun c1 => ?_) (fun c1 => ?_)
  · show AR E d _ (9, [some (vI c)], [], (C, N)) _
    refine AR.blk 2 (f' := (11, [some (vI c)], [vI 2, vI c], (C, N))) (fun _ => rfl) ?_
    refine AR.idiv rfl (by omega) ?_
    exact AR.retI rfl (by unfold m_own; omega) ⟨rfl, .inl rfl⟩ rfl
  · show AR E d _ (5, [some (vI c)], [], (C, N)) _
    refine AR.blk 2 (f' := (12, [some (vI c)], [vI (-1)], (C, N))) (fun _ => rfl) ?_
    exact AR.retI rfl (by unfold m_own; omega) ⟨rfl, .inl rfl⟩ rfl

theorem ev_X6_isTug {d : Nat} (hd : 1 ≤ d) (c : Int) (h0 : -1 ≤ c ∧ c ≤ 3) : Ev E d 96 [vI c] (C, N) (some (vI (m_tug c)), (C, N)) := by
  obtain ⟨d, rfl⟩ : ∃ j, d = j + 1 := ⟨d - 1, by omega⟩
  refine Ev.intro (M := ag_mX6_isTug) rfl rfl ?_
  show AR E d _ (0, [some (vI c)], [], (C, N)) _
  refine AR.blk 2 (f' := (2, [some (vI c)], [vI (-1), vI c], (C, N))) (fun _ => rfl) ?_
  refine AR.ic_eq rfl (by omega) (fun c1 => ?_) (fun c1 => ?_)
  · show AR E d _ (16, [some (vI c)], [], (C, N)) _
    refine AR.blk 1 (f' := (17, [some (vI c)], [vI 0], (C, N))) (fun _ => rfl) ?_
    exact AR.retI rfl (by unfold m_tug; omega) (by decide) rfl
  · show AR E d _ (5, [some (vI c)], [], (C, N)) _
    refine AR.blk 2 (f' := (7, [some (vI c)], [vI 2, vI c], (C, N))) (fun _ => rfl) ?_
    refine AR.irem rfl (by omega) ?_
    refine AR.blk 1 (f' := (9, [some (vI c)], [vI 1, vI (c % 2)], (C, N))) (fun _ => rfl) ?_
    refine AR.ic_ne rfl (by omega) (fun c2 => ?_) (fun c2 => ?_)
    · show AR E d _ (16, [some (vI c)], [], (C, N)) _
      refine AR.blk 1 (f' := (17, [some (vI c)], [vI 0], (C, N))) (fun _ => rfl) ?_
      exact AR.retI rfl (by unfold m_tug; omega) (by decide) rfl
    · show AR E d _ (12, [some (vI c)], [], (C, N)) _
      refine AR.blk 2 (f' := (17, [some (vI c)], [vI 1], (C, N))) (fun _ => rfl) ?_
      exact AR.retI rfl (by unfold m_tug; omega) (by decide) rfl

theorem ev_X6_goes {d : Nat} (hd : 2 ≤ d) (c q : Int) (h0 : -1 ≤ c ∧ c ≤ 3) (h1 : ag_in q) : Ev E d 97 [vI c, vI q] (C, N) (some (vI (m_goes c q)), (C, N)) := by
  obtain ⟨d, rfl⟩ : ∃ j, d = j + 1 := ⟨d - 1, by omega⟩
  refine Ev.intro (M := ag_mX6_goes) rfl rfl ?_
  show AR E d _ (0, [some (vI c), some (vI q)], [], (C, N)) _
  refine AR.blk 1 (f' := (1, [some (vI c), some (vI q)], [vI c], (C, N))) (fun _ => rfl) ?_
  refine AR.callS [vI c] (ev_X6_isTug (by omega) c (by omega)) rfl rfl rfl rfl rfl ?_
  show AR E d _ (4, [some (vI c), some (vI q)], [vI (m_tug c)], (C, N)) _
  have f1 := m_tug_in (c)
  refine AR.if_ne rfl (by omega) (fun c2 => ?_) (fun c2 => ?_)
  · show AR E d _ (23, [some (vI c), some (vI q)], [], (C, N)) _
    refine AR.blk 2 (f' := (28, [some (vI c), some (vI q)], [vI 1], (C, N))) (fun _ => rfl) ?_
    exact AR.retI rfl (by unfold m_goes; omega) (by decide) rfl
  · show AR E d _ (7, [some (vI c), some (vI q)], [], (C, N)) _
    refine AR.blk 2 (f' := (9, [some (vI c), some (vI q)], [vI c, vI q], (C, N))) (fun _ => rfl) ?_
    refine AR.callS [vI c] (ev_X6_ownerOf (by omega) c (by omega)) rfl rfl rfl rfl rfl ?_
    show AR E d _ (12, [some (vI c), some (vI q)], [vI (m_own c), vI q], (C, N)) _
    have f3 := m_own_in (c) (by omega)
    refine AR.if_ne rfl (by omega) (fun c4 => ?_) (fun c4 => ?_)
    · show AR E d _ (19, [some (vI c), some (vI q)], [vI q], (C, N)) _
      refine AR.blk 1 (f' := (20, [some (vI c), some (vI q)], [vI 0, vI q], (C, N))) (fun _ => rfl) ?_
      refine AR.ic_eq rfl (by omega) (fun c5 => ?_) (fun c5 => ?_)
      · show AR E d _ (27, [some (vI c), some (vI q)], [], (C, N)) _
        refine AR.blk 1 (f' := (28, [some (vI c), some (vI q)], [vI 0], (C, N))) (fun _ => rfl) ?_
        exact AR.retI rfl (by unfold m_goes; omega) (by decide) rfl
      · show AR E d _ (23, [some (vI c), some (vI q)], [], (C, N)) _
        refine AR.blk 2 (f' := (28, [some (vI c), some (vI q)], [vI 1], (C, N))) (fun _ => rfl) ?_
        exact AR.retI rfl (by unfold m_goes; omega) (by decide) rfl
    · show AR E d _ (15, [some (vI c), some (vI q)], [vI q], (C, N)) _
      refine AR.blk 2 (f' := (20, [some (vI c), some (vI q)], [vI 2, vI q], (C, N))) (fun _ => rfl) ?_
      refine AR.ic_eq rfl (by omega) (fun c6 => ?_) (fun c6 => ?_)
      · show AR E d _ (27, [some (vI c), some (vI q)], [], (C, N)) _
        refine AR.blk 1 (f' := (28, [some (vI c), some (vI q)], [vI 0], (C, N))) (fun _ => rfl) ?_
        exact AR.retI rfl (by unfold m_goes; omega) (by decide) rfl
      · show AR E d _ (23, [some (vI c), some (vI q)], [], (C, N)) _
        refine AR.blk 2 (f' := (28, [some (vI c), some (vI q)], [vI 1], (C, N))) (fun _ => rfl) ?_
        exact AR.retI rfl (by unfold m_goes; omega) (by decide) rfl

theorem ev_X6_strengthOf {d : Nat} (hd : 2 ≤ d) (c : Int) (h0 : -1 ≤ c ∧ c ≤ 3) : Ev E d 98 [vI c] (C, N) (some (vI (m_tug c + 1)), (C, N)) := by
  obtain ⟨d, rfl⟩ : ∃ j, d = j + 1 := ⟨d - 1, by omega⟩
  refine Ev.intro (M := ag_mX6_strengthOf) rfl rfl ?_
  show AR E d _ (0, [some (vI c)], [], (C, N)) _
  refine AR.blk 1 (f' := (1, [some (vI c)], [vI c], (C, N))) (fun _ => rfl) ?_
  refine AR.callS [vI c] (ev_X6_isTug (by omega) c (by omega)) rfl rfl rfl rfl rfl ?_
  show AR E d _ (4, [some (vI c)], [vI (m_tug c)], (C, N)) _
  have f1 := m_tug_in (c)
  refine AR.if_eq rfl (by omega) (fun c2 => ?_) (fun c2 => ?_)
  · show AR E d _ (11, [some (vI c)], [], (C, N)) _
    refine AR.blk 1 (f' := (12, [some (vI c)], [vI 1], (C, N))) (fun _ => rfl) ?_
    exact AR.retI rfl (by omega) ⟨rfl, .inl rfl⟩ rfl
  · show AR E d _ (7, [some (vI c)], [], (C, N)) _
    refine AR.blk 2 (f' := (12, [some (vI c)], [vI 2], (C, N))) (fun _ => rfl) ?_
    exact AR.retI rfl (by omega) ⟨rfl, .inl rfl⟩ rfl

theorem ev_X6_lastRowOf {d : Nat} (hd : 1 ≤ d) (s : Int) (h0 : ag_in s) : Ev E d 99 [vI s] (C, N) (some (vI (if s = 0 then 5 else 0)), (C, N)) := by
  obtain ⟨d, rfl⟩ : ∃ j, d = j + 1 := ⟨d - 1, by omega⟩
  refine Ev.intro (M := ag_mX6_lastRowOf) rfl rfl ?_
  show AR E d _ (0, [some (vI s)], [], (C, N)) _
  refine AR.blk 1 (f' := (1, [some (vI s)], [vI s], (C, N))) (fun _ => rfl) ?_
  refine AR.if_ne rfl (by omega) (fun c1 => ?_) (fun c1 => ?_)
  · show AR E d _ (8, [some (vI s)], [], (C, N)) _
    refine AR.blk 1 (f' := (9, [some (vI s)], [vI 0], (C, N))) (fun _ => rfl) ?_
    exact AR.retI rfl (by omega) ⟨rfl, .inl rfl⟩ rfl
  · show AR E d _ (4, [some (vI s)], [], (C, N)) _
    refine AR.blk 2 (f' := (9, [some (vI s)], [vI 5], (C, N))) (fun _ => rfl) ?_
    exact AR.retI rfl (by omega) ⟨rfl, .inl rfl⟩ rfl

theorem ev_X6_stepOf {d : Nat} (hd : 1 ≤ d) (q : Int) (h0 : ag_in q) : Ev E d 100 [vI q] (C, N) (some (vI (m_step q)), (C, N)) := by
  obtain ⟨d, rfl⟩ : ∃ j, d = j + 1 := ⟨d - 1, by omega⟩
  refine Ev.intro (M := ag_mX6_stepOf) rfl rfl ?_
  show AR E d _ (0, [some (vI q)], [], (C, N)) _
  refine AR.blk 1 (f' := (1, [some (vI q)], [vI q], (C, N))) (fun _ => rfl) ?_
  have hsw1 : ag_in q := (by omega)
  by_cases e1 : q = 0
  · refine AR.tswA 0 rfl hsw1 e1 rfl (by omega) ?_
    show AR E d _ (28, [some (vI q)], [], (C, N)) _
    refine AR.blk 1 (f' := (30, [some (vI q)], [vI 6], (C, N))) (fun _ => rfl) ?_
    exact AR.retI rfl (by unfold m_step; omega) ⟨rfl, .inl rfl⟩ rfl
  by_cases e2 : q = 1
  · refine AR.tswA 1 rfl hsw1 e2 rfl (by omega) ?_
    show AR E d _ (31, [some (vI q)], [], (C, N)) _
    refine AR.blk 1 (f' := (32, [some (vI q)], [vI 1], (C, N))) (fun _ => rfl) ?_
    exact AR.retI rfl (by unfold m_step; omega) ⟨rfl, .inl rfl⟩ rfl
  by_cases e3 : q = 2
  · refine AR.tswA 2 rfl hsw1 e3 rfl (by omega) ?_
    show AR E d _ (33, [some (vI q)], [], (C, N)) _
    refine AR.blk 1 (f' := (35, [some (vI q)], [vI (-6)], (C, N))) (fun _ => rfl) ?_
    exact AR.retI rfl (by unfold m_step; omega) ⟨rfl, .inl rfl⟩ rfl
  refine AR.tswD rfl hsw1 (by omega) ?_
  show AR E d _ (36, [some (vI q)], [], (C, N)) _
  refine AR.blk 1 (f' := (37, [some (vI q)], [vI (-1)], (C, N))) (fun _ => rfl) ?_
  exact AR.retI rfl (by unfold m_step; omega) ⟨rfl, .inl rfl⟩ rfl

theorem ev_X6_roomFrom {d : Nat} (hd : 1 ≤ d) (s q : Int) (h0 : 0 ≤ s ∧ s < 36) (h1 : ag_in q) : Ev E d 101 [vI s, vI q] (C, N) (some (vI (m_room s q)), (C, N)) := by
  obtain ⟨d, rfl⟩ : ∃ j, d = j + 1 := ⟨d - 1, by omega⟩
  refine Ev.intro (M := ag_mX6_roomFrom) rfl rfl ?_
  show AR E d _ (0, [some (vI s), some (vI q)], [], (C, N)) _
  refine AR.blk 1 (f' := (1, [some (vI s), some (vI q)], [vI q], (C, N))) (fun _ => rfl) ?_
  have hsw1 : ag_in q := (by omega)
  by_cases e1 : q = 0
  · refine AR.tswA 0 rfl hsw1 e1 rfl (by omega) ?_
    show AR E d _ (28, [some (vI s), some (vI q)], [], (C, N)) _
    refine AR.blk 3 (f' := (32, [some (vI s), some (vI q)], [vI 6, vI s, vI 5], (C, N))) (fun _ => rfl) ?_
    refine AR.idiv rfl (by omega) ?_
    refine AR.blk 1 (f' := (34, [some (vI s), some (vI q)], [vI (5 - (s / 6))], (C, N))) (fun _ => rfl) ?_
    exact AR.retI rfl (by unfold m_room; omega) ⟨rfl, .inl rfl⟩ rfl
  by_cases e2 : q = 1
  · refine AR.tswA 1 rfl hsw1 e2 rfl (by omega) ?_
    show AR E d _ (35, [some (vI s), some (vI q)], [], (C, N)) _
    refine AR.blk 3 (f' := (39, [some (vI s), some (vI q)], [vI 6, vI s, vI 5], (C, N))) (fun _ => rfl) ?_
    refine AR.irem rfl (by omega) ?_
    refine AR.blk 1 (f' := (41, [some (vI s), some (vI q)], [vI (5 - (s % 6))], (C, N))) (fun _ => rfl) ?_
    exact AR.retI rfl (by unfold m_room; omega) ⟨rfl, .inl rfl⟩ rfl
  by_cases e3 : q = 2
  · refine AR.tswA 2 rfl hsw1 e3 rfl (by omega) ?_
    show AR E d _ (42, [some (vI s), some (vI q)], [], (C, N)) _
    refine AR.blk 2 (f' := (45, [some (vI s), some (vI q)], [vI 6, vI s], (C, N))) (fun _ => rfl) ?_
    refine AR.idiv rfl (by omega) ?_
    exact AR.retI rfl (by unfold m_room; omega) ⟨rfl, .inl rfl⟩ rfl
  refine AR.tswD rfl hsw1 (by omega) ?_
  show AR E d _ (47, [some (vI s), some (vI q)], [], (C, N)) _
  refine AR.blk 2 (f' := (50, [some (vI s), some (vI q)], [vI 6, vI s], (C, N))) (fun _ => rfl) ?_
  refine AR.irem rfl (by omega) ?_
  exact AR.retI rfl (by unfold m_room; omega) ⟨rfl, .inl rfl⟩ rfl

theorem ev_X6_ahead {d : Nat} (hd : 2 ≤ d) (s q k : Int) (h0 : 0 ≤ s ∧ s < 36) (h1 : ag_in q) (h2 : ag_in k) : Ev E d 102 [vI s, vI q, vI k] (C, N) (some (vI (m_ahead s q k)), (C, N)) := by
  obtain ⟨d, rfl⟩ : ∃ j, d = j + 1 := ⟨d - 1, by omega⟩
  refine Ev.intro (M := ag_mX6_ahead) rfl rfl ?_
  show AR E d _ (0, [some (vI s), some (vI q), some (vI k)], [], (C, N)) _
  refine AR.blk 3 (f' := (3, [some (vI s), some (vI q), some (vI k)], [vI q, vI s, vI k], (C, N))) (fun _ => rfl) ?_
  refine AR.callS [vI s, vI q] (ev_X6_roomFrom (by omega) s q (by omega) (by omega)) rfl rfl rfl rfl rfl ?_
  show AR E d _ (6, [some (vI s), some (vI q), some (vI k)], [vI (m_room s q), vI k], (C, N)) _
  have f1 := m_room_in (s) (q) (by omega)
  refine AR.ic_gt rfl (by omega) (fun c2 => ?_) (fun c2 => ?_)
  · show AR E d _ (20, [some (vI s), some (vI q), some (vI k)], [], (C, N)) _
    refine AR.blk 1 (f' := (21, [some (vI s), some (vI q), some (vI k)], [vI (-1)], (C, N))) (fun _ => rfl) ?_
    exact AR.retI rfl (by unfold m_ahead; first | omega | (rw [if_pos (by assumption)])) ⟨rfl, .inl rfl⟩ rfl
  · show AR E d _ (9, [some (vI s), some (vI q), some (vI k)], [], (C, N)) _
    refine AR.blk 3 (f' := (12, [some (vI s), some (vI q), some (vI k)], [vI q, vI k, vI s], (C, N))) (fun _ => rfl) ?_
    refine AR.callS [vI q] (ev_X6_stepOf (by omega) q (by omega)) rfl rfl rfl rfl rfl ?_
    show AR E d _ (15, [some (vI s), some (vI q), some (vI k)], [vI (m_step q), vI k, vI s], (C, N)) _
    have f3 := m_step_in (q)
    refine AR.blk 3 (f' := (21, [some (vI s), some (vI q), some (vI k)], [vI (s + (k * (m_step q)))], (C, N))) (fun _ => rfl) ?_
    exact AR.retI rfl (by unfold m_ahead; first | omega | (rw [if_pos (by assumption)])) ⟨rfl, .inl rfl⟩ rfl

theorem ev_X6_fromEnd {d : Nat} (hd : 1 ≤ d) (l q k : Int) (h0 : ag_in q) : Ev E d 103 [vI l, vI q, vI k] (C, N) (some (vI (m_end l q k)), (C, N)) := by
  obtain ⟨d, rfl⟩ : ∃ j, d = j + 1 := ⟨d - 1, by omega⟩
  refine Ev.intro (M := ag_mX6_fromEnd) rfl rfl ?_
  show AR E d _ (0, [some (vI l), some (vI q), some (vI k)], [], (C, N)) _
  refine AR.blk 1 (f' := (1, [some (vI l), some (vI q), some (vI k)], [vI q], (C, N))) (fun _ => rfl) ?_
  have hsw1 : ag_in q := (by omega)
  by_cases e1 : q = 0
  · refine AR.tswA 0 rfl hsw1 e1 rfl (by omega) ?_
    show AR E d _ (28, [some (vI l), some (vI q), some (vI k)], [], (C, N)) _
    refine AR.blk 7 (f' := (36, [some (vI l), some (vI q), some (vI k)], [vI (((5 - k) * 6) + l)], (C, N))) (fun _ => rfl) ?_
    exact AR.retI rfl (by unfold m_end; omega) ⟨rfl, .inl rfl⟩ rfl
  by_cases e2 : q = 1
  · refine AR.tswA 1 rfl hsw1 e2 rfl (by omega) ?_
    show AR E d _ (37, [some (vI l), some (vI q), some (vI k)], [], (C, N)) _
    refine AR.blk 9 (f' := (48, [some (vI l), some (vI q), some (vI k)], [vI ((((l * 6) + 6) - 1) - k)], (C, N))) (fun _ => rfl) ?_
    exact AR.retI rfl (by unfold m_end; omega) ⟨rfl, .inl rfl⟩ rfl
  by_cases e3 : q = 2
  · refine AR.tswA 2 rfl hsw1 e3 rfl (by omega) ?_
    show AR E d _ (49, [some (vI l), some (vI q), some (vI k)], [], (C, N)) _
    refine AR.blk 5 (f' := (55, [some (vI l), some (vI q), some (vI k)], [vI ((k * 6) + l)], (C, N))) (fun _ => rfl) ?_
    exact AR.retI rfl (by unfold m_end; omega) ⟨rfl, .inl rfl⟩ rfl
  refine AR.tswD rfl hsw1 (by omega) ?_
  show AR E d _ (56, [some (vI l), some (vI q), some (vI k)], [], (C, N)) _
  refine AR.blk 5 (f' := (62, [some (vI l), some (vI q), some (vI k)], [vI ((l * 6) + k)], (C, N))) (fun _ => rfl) ?_
  exact AR.retI rfl (by unfold m_end; omega) ⟨rfl, .inl rfl⟩ rfl

end L2a
