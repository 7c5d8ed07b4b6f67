/-! LEVEL 2: the class: what only reads -/
def g_isX (C : List ag_C) (x : Nat) : Prop := C[x]? = some (6, 9, [some (x + 1), some (x + 14), some (x + 27), none, some (x + 40), some (x + 146), some (x + 150), some (x + 151), none]) ∧ g_isG C (x + 1) ∧ g_isG C (x + 14) ∧ g_isG C (x + 27) ∧ g_isP C (x + 40) ∧ g_isT C (x + 146) ∧ g_isF C (x + 150) ∧ C[x + 151]? = some (8, 6, [])
abbrev m_F : Type := Int × Int × Int × Int × Int
def g_rF (N : Nat → Int → Int) (r : Nat) (F : m_F) : Prop := N r 0 = F.1 ∧ N r 1 = F.2.1 ∧ N r 2 = F.2.2.1 ∧ N r 3 = F.2.2.2.1 ∧ N r 4 = F.2.2.2.2
def m_rf (F : m_F) (w : Int) : Int := if w = 0 then F.1 else if w = 1 then F.2.1 else if w = 2 then F.2.2.1 else if w = 3 then F.2.2.2.1 else if w = 4 then F.2.2.2.2 else -2
def m_sg (l : Int) (ln : Int → Int) (i : Int) : Int := if 0 ≤ i ∧ i < l then ln i else -1
def m_acc (P : Int → Int) (n : Int) (cl tn : Int → Int) (t bg en ca : Int) (gn pu mk : Int → Int) (H : List (Int × Int)) (L u w : Int) : Int :=
  if w = 0 then t else if w = 1 then t % 2 else if w = 2 then t / 4 else if w = 3 then t / 4 % 4 else if w = 4 then bg else if w = 5 then en else if w = 6 then m_cnt P 0 + m_cnt P 1 else if w = 7 then n else if w = 8 then cl 0 + cl 1 + cl 2 + cl 3 else if w = 9 then gn 0 + gn 1 else if w = 10 then pu 0 + pu 1 else if w = 11 then mk 0 + mk 1 else if w = 12 then ca else if w = 13 then tn 0 + tn 1 + tn 2 + tn 3 else if w = 14 then m_diff H else if w = 15 then L else if w = 16 then u else -2
section L2z
variable {E : Nat × (Int → Int)} {C : List ag_C} {N : Nat → Int → Int} {x : Nat} {P : Int → Int} {n : Int} {q p cl tn : Int → Int} {t bg en ca : Int} {gn pu mk : Int → Int} {H : List (Int × Int)}

theorem ev_X6_squareOf {d : Nat} (hd : 3 ≤ d) (hx : g_isX C x) (hrB : g_rB N (x + 1 + 1) P n q p cl tn) (hrH : g_rH N (x + 1 + 7) H) (hrT : g_rT N (x + 1) t bg en ca gn pu mk) (hwB : g_wB P n q p cl tn) (hwH : g_wH H) (hwS : g_wS t bg en ca gn pu mk) (s w : Int) (h0 : ag_in s) (h1 : ag_in w) : Ev E d 64 [vA x, vI s, vI w] (C, N) (some (vI (m_sq P n q cl s w)), (C, N)) := by
  obtain ⟨d, rfl⟩ : ∃ j, d = j + 1 := ⟨d - 1, by omega⟩
  have s1 := hwS.1
  have s2 := hwS.2.1
  have s3 := hwS.2.2.1
  have s4 := hwS.2.2.2.1
  refine Ev.intro (M := ag_mX6_squareOf) rfl rfl ?_
  show AR E d _ (0, [some (vA x), some (vI s), some (vI w)], [], (C, N)) _
  refine AR.blk 1 (f' := (1, [some (vA x), some (vI s), some (vI w)], [vI s], (C, N))) (fun _ => rfl) ?_
  refine AR.callS [vI s] (ev_X6_isSquare (by omega) s (by omega)) rfl rfl rfl rfl rfl ?_
  show AR E d _ (4, [some (vA x), some (vI s), some (vI w)], [vI (if 0 ≤ s ∧ s < 36 then 1 else 0)], (C, N)) _
  refine AR.if_ne rfl (by omega) (fun c1 => ?_) (fun c1 => ?_)
  · show AR E d _ (9, [some (vA x), some (vI s), some (vI w)], [], (C, N)) _
    refine AR.blk 1 (f' := (10, [some (vA x), some (vI s), some (vI w)], [vI w], (C, N))) (fun _ => rfl) ?_
    have hsw10 : ag_in w := (by omega)
    by_cases e2 : w = 0
    · refine AR.tswA 0 rfl hsw10 e2 rfl (by omega) ?_
      show AR E d _ (36, [some (vA x), some (vI s), some (vI w)], [], (C, N)) _
      refine AR.blk 1 (f' := (37, [some (vA x), some (vI s), some (vI w)], [vA x], (C, N))) (fun _ => rfl) ?_
      refine AR.getR rfl rfl hx.1 (by decide) rfl ?_
      refine AR.getR rfl rfl hx.2.1.1 (by decide) rfl ?_
      refine AR.blk 1 (f' := (44, [some (vA x), some (vI s), some (vI w)], [vI s, vA (x + 1 + 1)], (C, N))) (fun _ => rfl) ?_
      refine AR.callV [vI s] (ev_X0_pieceAt (by omega) hx.2.1.2.1 hrB hwB s (by omega)) hx.2.1.2.1.1 rfl rfl rfl rfl rfl ?_
      show AR E d _ (47, [some (vA x), some (vI s), some (vI w)], [vI (P s)], (C, N)) _
      have f3 := hwB.1 s
      refine AR.callS [vI (P s)] (ev_X6_orNothing (by omega) (P s) (by omega)) rfl rfl rfl rfl rfl ?_
      show AR E d _ (50, [some (vA x), some (vI s), some (vI w)], [vI (if (P s) < 0 then -4 else (P s))], (C, N)) _
      exact AR.retI rfl (by unfold m_sq; omega) ⟨rfl, .inl rfl⟩ rfl
    by_cases e4 : w = 1
    · refine AR.tswA 1 rfl hsw10 e4 rfl (by omega) ?_
      show AR E d _ (51, [some (vA x), some (vI s), some (vI w)], [], (C, N)) _
      refine AR.blk 1 (f' := (52, [some (vA x), some (vI s), some (vI w)], [vA x], (C, N))) (fun _ => rfl) ?_
      refine AR.getR rfl rfl hx.1 (by decide) rfl ?_
      refine AR.getR rfl rfl hx.2.1.1 (by decide) rfl ?_
      refine AR.blk 1 (f' := (59, [some (vA x), some (vI s), some (vI w)], [vI s, vA (x + 1 + 1)], (C, N))) (fun _ => rfl) ?_
      refine AR.callV [vI s] (ev_X0_lockAt (by omega) hx.2.1.2.1 hrB hwB s (by omega)) hx.2.1.2.1.1 rfl rfl rfl rfl rfl ?_
      show AR E d _ (62, [some (vA x), some (vI s), some (vI w)], [vI (m_la n q s)], (C, N)) _
      have f5 := m_la_in n q s hwB.2.2.1.1
      refine AR.callS [vI (m_la n q s)] (ev_X6_orNothing (by omega) (m_la n q s) (by omega)) rfl rfl rfl rfl rfl ?_
      show AR E d _ (65, [some (vA x), some (vI s), some (vI w)], [vI (if (m_la n q s) < 0 then -4 else (m_la n q s))], (C, N)) _
      exact AR.retI rfl (by unfold m_sq; omega) ⟨rfl, .inl rfl⟩ rfl
    by_cases e6 : w = 2
    · refine AR.tswA 2 rfl hsw10 e6 rfl (by omega) ?_
      show AR E d _ (66, [some (vA x), some (vI s), some (vI w)], [], (C, N)) _
      refine AR.blk 1 (f' := (67, [some (vA x), some (vI s), some (vI w)], [vA x], (C, N))) (fun _ => rfl) ?_
      refine AR.getR rfl rfl hx.1 (by decide) rfl ?_
      refine AR.getR rfl rfl hx.2.1.1 (by decide) rfl ?_
      refine AR.blk 1 (f' := (74, [some (vA x), some (vI s), some (vI w)], [vI s, vA (x + 1 + 1)], (C, N))) (fun _ => rfl) ?_
      refine AR.callV [vI s] (ev_X0_isClosed (by omega) hx.2.1.2.1 hrB hwB s (by omega)) hx.2.1.2.1.1 rfl rfl rfl rfl rfl ?_
      show AR E d _ (77, [some (vA x), some (vI s), some (vI w)], [vI (m_cl n q cl s)], (C, N)) _
      have f7 := m_cl_in n q cl s (fun k => (hwB.2.2.2.2.1 k).1)
      refine AR.if_eq rfl (by omega) (fun c8 => ?_) (fun c8 => ?_)
      · show AR E d _ (84, [some (vA x), some (vI s), some (vI w)], [], (C, N)) _
        refine AR.blk 1 (f' := (85, [some (vA x), some (vI s), some (vI w)], [vI 0], (C, N))) (fun _ => rfl) ?_
        exact AR.retI rfl (by unfold m_sq; omega) ⟨rfl, .inl rfl⟩ rfl
      · show AR E d _ (80, [some (vA x), some (vI s), some (vI w)], [], (C, N)) _
        refine AR.blk 2 (f' := (85, [some (vA x), some (vI s), some (vI w)], [vI 1], (C, N))) (fun _ => rfl) ?_
        exact AR.retI rfl (by unfold m_sq; omega) ⟨rfl, .inl rfl⟩ rfl
    refine AR.tswD rfl hsw10 (by omega) ?_
    show AR E d _ (86, [some (vA x), some (vI s), some (vI w)], [], (C, N)) _
    refine AR.blk 1 (f' := (88, [some (vA x), some (vI s), some (vI w)], [vI (-2)], (C, N))) (fun _ => rfl) ?_
    exact AR.retI rfl (by unfold m_sq; omega) ⟨rfl, .inl rfl⟩ rfl
  · show AR E d _ (7, [some (vA x), some (vI s), some (vI w)], [], (C, N)) _
    refine AR.blk 1 (f' := (8, [some (vA x), some (vI s), some (vI w)], [vI (-1)], (C, N))) (fun _ => rfl) ?_
    exact AR.retI rfl (by unfold m_sq; omega) ⟨rfl, .inl rfl⟩ rfl

theorem ev_X6_lockOf {d : Nat} (hd : 2 ≤ d) (hx : g_isX C x) (hrB : g_rB N (x + 1 + 1) P n q p cl tn) (hrH : g_rH N (x + 1 + 7) H) (hrT : g_rT N (x + 1) t bg en ca gn pu mk) (hwB : g_wB P n q p cl tn) (hwH : g_wH H) (hwS : g_wS t bg en ca gn pu mk) (l w : Int) (h0 : ag_in l) (h1 : ag_in w) : Ev E d 65 [vA x, vI l, vI w] (C, N) (some (vI (m_lko n q p cl tn l w)), (C, N)) := by
  obtain ⟨d, rfl⟩ : ∃ j, d = j + 1 := ⟨d - 1, by omega⟩
  have s1 := hwS.1
  have s2 := hwS.2.1
  have s3 := hwS.2.2.1
  have s4 := hwS.2.2.2.1
  refine Ev.intro (M := ag_mX6_lockOf) rfl rfl ?_
  show AR E d _ (0, [some (vA x), some (vI l), some (vI w)], [], (C, N)) _
  refine AR.blk 1 (f' := (1, [some (vA x), some (vI l), some (vI w)], [vA x], (C, N))) (fun _ => rfl) ?_
  refine AR.getR rfl rfl hx.1 (by decide) rfl ?_
  refine AR.getR rfl rfl hx.2.1.1 (by decide) rfl ?_
  refine AR.blk 1 (f' := (8, [some (vA x), some (vI l), some (vI w)], [vI l, vA (x + 1 + 1)], (C, N))) (fun _ => rfl) ?_
  refine AR.callV [vI l] (ev_X0_hasLock (by omega) hx.2.1.2.1 hrB hwB l (by omega)) hx.2.1.2.1.1 rfl rfl rfl rfl rfl ?_
  show AR E d _ (11, [some (vA x), some (vI l), some (vI w)], [vI (if 0 ≤ l ∧ l < n then 1 else 0)], (C, N)) _
  have f1 := hwB.2.2.1
  refine AR.if_ne rfl (by omega) (fun c2 => ?_) (fun c2 => ?_)
  · show AR E d _ (16, [some (vA x), some (vI l), some (vI w)], [], (C, N)) _
    refine AR.blk 1 (f' := (17, [some (vA x), some (vI l), some (vI w)], [vI w], (C, N))) (fun _ => rfl) ?_
    have hsw17 : ag_in w := (by omega)
    by_cases e3 : w = 0
    · refine AR.tswA 0 rfl hsw17 e3 rfl (by omega) ?_
      show AR E d _ (48, [some (vA x), some (vI l), some (vI w)], [], (C, N)) _
      refine AR.blk 1 (f' := (49, [some (vA x), some (vI l), some (vI w)], [vA x], (C, N))) (fun _ => rfl) ?_
      refine AR.getR rfl rfl hx.1 (by decide) rfl ?_
      refine AR.getR rfl rfl hx.2.1.1 (by decide) rfl ?_
      refine AR.getR rfl rfl hx.2.1.2.1.1 (by decide) rfl ?_
      refine AR.blk 1 (f' := (59, [some (vA x), some (vI l), some (vI w)], [vI l, vA (x + 1 + 1 + 2)], (C, N))) (fun _ => rfl) ?_
      have f4 := hwB.2.2.2.1 l (by omega) (by omega)
      refine AR.iald rfl hx.2.1.2.1.2.2.1 (by omega) (v := q l) (hrB.2.2.1 _ (by omega) (by omega)).1 ?_
      exact AR.retI rfl (by unfold m_lko m_lk; omega) ⟨rfl, .inl rfl⟩ rfl
    by_cases e5 : w = 1
    · refine AR.tswA 1 rfl hsw17 e5 rfl (by omega) ?_
      show AR E d _ (61, [some (vA x), some (vI l), some (vI w)], [], (C, N)) _
      refine AR.blk 1 (f' := (62, [some (vA x), some (vI l), some (vI w)], [vA x], (C, N))) (fun _ => rfl) ?_
      refine AR.getR rfl rfl hx.1 (by decide) rfl ?_
      refine AR.getR rfl rfl hx.2.1.1 (by decide) rfl ?_
      refine AR.getR rfl rfl hx.2.1.2.1.1 (by decide) rfl ?_
      refine AR.blk 1 (f' := (72, [some (vA x), some (vI l), some (vI w)], [vI l, vA (x + 1 + 1 + 3)], (C, N))) (fun _ => rfl) ?_
      have f6 := hwB.2.2.2.1 l (by omega) (by omega)
      refine AR.iald rfl hx.2.1.2.1.2.2.2.1 (by omega) (v := p l) (hrB.2.2.1 _ (by omega) (by omega)).2 ?_
      exact AR.retI rfl (by unfold m_lko m_lk; omega) ⟨rfl, .inl rfl⟩ rfl
    by_cases e7 : w = 2
    · refine AR.tswA 2 rfl hsw17 e7 rfl (by omega) ?_
      show AR E d _ (74, [some (vA x), some (vI l), some (vI w)], [], (C, N)) _
      refine AR.blk 1 (f' := (75, [some (vA x), some (vI l), some (vI w)], [vA x], (C, N))) (fun _ => rfl) ?_
      refine AR.getR rfl rfl hx.1 (by decide) rfl ?_
      refine AR.getR rfl rfl hx.2.1.1 (by decide) rfl ?_
      refine AR.getR rfl rfl hx.2.1.2.1.1 (by decide) rfl ?_
      refine AR.blk 1 (f' := (85, [some (vA x), some (vI l), some (vI w)], [vI l, vA (x + 1 + 1 + 4)], (C, N))) (fun _ => rfl) ?_
      have f8 := hwB.2.2.2.2.1 l
      refine AR.zald rfl hx.2.1.2.1.2.2.2.2.1 (by omega) (v := cl l) (hrB.2.2.2 _ (by omega) (by omega)).1 ?_
      refine AR.if_eq rfl (by omega) (fun c9 => ?_) (fun c9 => ?_)
      · show AR E d _ (93, [some (vA x), some (vI l), some (vI w)], [], (C, N)) _
        refine AR.blk 1 (f' := (94, [some (vA x), some (vI l), some (vI w)], [vI 0], (C, N))) (fun _ => rfl) ?_
        exact AR.retI rfl (by unfold m_lko m_lk; omega) ⟨rfl, .inl rfl⟩ rfl
      · show AR E d _ (89, [some (vA x), some (vI l), some (vI w)], [], (C, N)) _
        refine AR.blk 2 (f' := (94, [some (vA x), some (vI l), some (vI w)], [vI 1], (C, N))) (fun _ => rfl) ?_
        exact AR.retI rfl (by unfold m_lko m_lk; omega) ⟨rfl, .inl rfl⟩ rfl
    by_cases e10 : w = 3
    · refine AR.tswA 3 rfl hsw17 e10 rfl (by omega) ?_
      show AR E d _ (95, [some (vA x), some (vI l), some (vI w)], [], (C, N)) _
      refine AR.blk 1 (f' := (96, [some (vA x), some (vI l), some (vI w)], [vA x], (C, N))) (fun _ => rfl) ?_
      refine AR.getR rfl rfl hx.1 (by decide) rfl ?_
      refine AR.getR rfl rfl hx.2.1.1 (by decide) rfl ?_
      refine AR.getR rfl rfl hx.2.1.2.1.1 (by decide) rfl ?_
      refine AR.blk 1 (f' := (106, [some (vA x), some (vI l), some (vI w)], [vI l, vA (x + 1 + 1 + 5)], (C, N))) (fun _ => rfl) ?_
      have f11 := hwB.2.2.2.2.1 l
      refine AR.iald rfl hx.2.1.2.1.2.2.2.2.2 (by omega) (v := tn l) (hrB.2.2.2 _ (by omega) (by omega)).2 ?_
      exact AR.retI rfl (by unfold m_lko m_lk; omega) ⟨rfl, .inl rfl⟩ rfl
    refine AR.tswD rfl hsw17 (by omega) ?_
    show AR E d _ (108, [some (vA x), some (vI l), some (vI w)], [], (C, N)) _
    refine AR.blk 1 (f' := (110, [some (vA x), some (vI l), some (vI w)], [vI (-2)], (C, N))) (fun _ => rfl) ?_
    exact AR.retI rfl (by unfold m_lko m_lk; omega) ⟨rfl, .inl rfl⟩ rfl
  · show AR E d _ (14, [some (vA x), some (vI l), some (vI w)], [], (C, N)) _
    refine AR.blk 1 (f' := (15, [some (vA x), some (vI l), some (vI w)], [vI (-1)], (C, N))) (fun _ => rfl) ?_
    exact AR.retI rfl (by unfold m_lko m_lk; omega) ⟨rfl, .inl rfl⟩ rfl

theorem ev_X6_sideOf {d : Nat} (hd : 3 ≤ d) (hx : g_isX C x) (hrB : g_rB N (x + 1 + 1) P n q p cl tn) (hrH : g_rH N (x + 1 + 7) H) (hrT : g_rT N (x + 1) t bg en ca gn pu mk) (hwB : g_wB P n q p cl tn) (hwH : g_wH H) (hwS : g_wS t bg en ca gn pu mk) (w y : Int) (h0 : ag_in w) (h1 : ag_in y) : Ev E d 66 [vA x, vI w, vI y] (C, N) (some (vI (m_sd P gn pu mk w y)), (C, N)) := by
  obtain ⟨d, rfl⟩ : ∃ j, d = j + 1 := ⟨d - 1, by omega⟩
  have s1 := hwS.1
  have s2 := hwS.2.1
  have s3 := hwS.2.2.1
  have s4 := hwS.2.2.2.1
  refine Ev.intro (M := ag_mX6_sideOf) rfl rfl ?_
  show AR E d _ (0, [some (vA x), some (vI w), some (vI y)], [], (C, N)) _
  refine AR.blk 1 (f' := (1, [some (vA x), some (vI w), some (vI y)], [vI w], (C, N))) (fun _ => rfl) ?_
  refine AR.callS [vI w] (ev_X6_isSide (by omega) w (by omega)) rfl rfl rfl rfl rfl ?_
  show AR E d _ (4, [some (vA x), some (vI w), some (vI y)], [vI (if 0 ≤ w ∧ w < 2 then 1 else 0)], (C, N)) _
  refine AR.if_ne rfl (by omega) (fun c1 => ?_) (fun c1 => ?_)
  · show AR E d _ (9, [some (vA x), some (vI w), some (vI y)], [], (C, N)) _
    refine AR.blk 1 (f' := (10, [some (vA x), some (vI w), some (vI y)], [vI y], (C, N))) (fun _ => rfl) ?_
    have hsw10 : ag_in y := (by omega)
    by_cases e2 : y = 0
    · refine AR.tswA 0 rfl hsw10 e2 rfl (by omega) ?_
      show AR E d _ (48, [some (vA x), some (vI w), some (vI y)], [], (C, N)) _
      refine AR.blk 1 (f' := (49, [some (vA x), some (vI w), some (vI y)], [vA x], (C, N))) (fun _ => rfl) ?_
      refine AR.getR rfl rfl hx.1 (by decide) rfl ?_
      refine AR.getR rfl rfl hx.2.1.1 (by decide) rfl ?_
      refine AR.blk 1 (f' := (56, [some (vA x), some (vI w), some (vI y)], [vI w, vA (x + 1 + 1)], (C, N))) (fun _ => rfl) ?_
      refine AR.callV [vI w] (ev_X0_countOf (by omega) hx.2.1.2.1 hrB hwB w (by omega)) hx.2.1.2.1.1 rfl rfl rfl rfl rfl ?_
      show AR E d _ (59, [some (vA x), some (vI w), some (vI y)], [vI (m_cnt P w)], (C, N)) _
      have f3 := m_cnt_in P w
      exact AR.retI rfl (by unfold m_sd; omega) ⟨rfl, .inl rfl⟩ rfl
    by_cases e4 : y = 1
    · refine AR.tswA 1 rfl hsw10 e4 rfl (by omega) ?_
      show AR E d _ (60, [some (vA x), some (vI w), some (vI y)], [], (C, N)) _
      refine AR.blk 1 (f' := (61, [some (vA x), some (vI w), some (vI y)], [vA x], (C, N))) (fun _ => rfl) ?_
      refine AR.getR rfl rfl hx.1 (by decide) rfl ?_
      refine AR.getR rfl rfl hx.2.1.1 (by decide) rfl ?_
      refine AR.blk 1 (f' := (68, [some (vA x), some (vI w), some (vI y)], [vI w, vA (x + 1 + 1)], (C, N))) (fun _ => rfl) ?_
      refine AR.callV [vI w] (ev_X0_countOf (by omega) hx.2.1.2.1 hrB hwB w (by omega)) hx.2.1.2.1.1 rfl rfl rfl rfl rfl ?_
      show AR E d _ (71, [some (vA x), some (vI w), some (vI y)], [vI (m_cnt P w)], (C, N)) _
      have f5 := m_cnt_in P w
      refine AR.blk 1 (f' := (72, [some (vA x), some (vI w), some (vI y)], [vA x, vI (m_cnt P w)], (C, N))) (fun _ => rfl) ?_
      refine AR.getR rfl rfl hx.1 (by decide) rfl ?_
      refine AR.getR rfl rfl hx.2.1.1 (by decide) rfl ?_
      refine AR.blk 1 (f' := (79, [some (vA x), some (vI w), some (vI y)], [vI w, vA (x + 1 + 1), vI (m_cnt P w)], (C, N))) (fun _ => rfl) ?_
      refine AR.callV [vI w] (ev_X0_tugsOf (by omega) hx.2.1.2.1 hrB hwB w (by omega)) hx.2.1.2.1.1 rfl rfl rfl rfl rfl ?_
      show AR E d _ (82, [some (vA x), some (vI w), some (vI y)], [vI (m_tugs P w), vI (m_cnt P w)], (C, N)) _
      have f6 := m_tugs_in P w
      refine AR.blk 1 (f' := (83, [some (vA x), some (vI w), some (vI y)], [vI ((m_cnt P w) - (m_tugs P w))], (C, N))) (fun _ => rfl) ?_
      exact AR.retI rfl (by unfold m_sd; omega) ⟨rfl, .inl rfl⟩ rfl
    by_cases e7 : y = 2
    · refine AR.tswA 2 rfl hsw10 e7 rfl (by omega) ?_
      show AR E d _ (84, [some (vA x), some (vI w), some (vI y)], [], (C, N)) _
      refine AR.blk 1 (f' := (85, [some (vA x), some (vI w), some (vI y)], [vA x], (C, N))) (fun _ => rfl) ?_
      refine AR.getR rfl rfl hx.1 (by decide) rfl ?_
      refine AR.getR rfl rfl hx.2.1.1 (by decide) rfl ?_
      refine AR.blk 1 (f' := (92, [some (vA x), some (vI w), some (vI y)], [vI w, vA (x + 1 + 1)], (C, N))) (fun _ => rfl) ?_
      refine AR.callV [vI w] (ev_X0_tugsOf (by omega) hx.2.1.2.1 hrB hwB w (by omega)) hx.2.1.2.1.1 rfl rfl rfl rfl rfl ?_
      show AR E d _ (95, [some (vA x), some (vI w), some (vI y)], [vI (m_tugs P w)], (C, N)) _
      have f8 := m_tugs_in P w
      exact AR.retI rfl (by unfold m_sd; omega) ⟨rfl, .inl rfl⟩ rfl
    by_cases e9 : y = 3
    · refine AR.tswA 3 rfl hsw10 e9 rfl (by omega) ?_
      show AR E d _ (96, [some (vA x), some (vI w), some (vI y)], [], (C, N)) _
      refine AR.blk 1 (f' := (97, [some (vA x), some (vI w), some (vI y)], [vA x], (C, N))) (fun _ => rfl) ?_
      refine AR.getR rfl rfl hx.1 (by decide) rfl ?_
      refine AR.getR rfl rfl hx.2.1.1 (by decide) rfl ?_
      refine AR.blk 1 (f' := (104, [some (vA x), some (vI w), some (vI y)], [vI w, vA (x + 1 + 10)], (C, N))) (fun _ => rfl) ?_
      have f10 := hwS.2.2.2.2.1 w
      refine AR.iald rfl hx.2.1.2.2.2.1 (by omega) (v := gn w) (hrT.2 _ (by omega) (by omega)).1 ?_
      exact AR.retI rfl (by unfold m_sd; omega) ⟨rfl, .inl rfl⟩ rfl
    by_cases e11 : y = 4
    · refine AR.tswA 4 rfl hsw10 e11 rfl (by omega) ?_
      show AR E d _ (106, [some (vA x), some (vI w), some (vI y)], [], (C, N)) _
      refine AR.blk 1 (f' := (107, [some (vA x), some (vI w), some (vI y)], [vA x], (C, N))) (fun _ => rfl) ?_
      refine AR.getR rfl rfl hx.1 (by decide) rfl ?_
      refine AR.getR rfl rfl hx.2.1.1 (by decide) rfl ?_
      refine AR.blk 1 (f' := (114, [some (vA x), some (vI w), some (vI y)], [vI w, vA (x + 1 + 11)], (C, N))) (fun _ => rfl) ?_
      have f12 := hwS.2.2.2.2.1 w
      refine AR.iald rfl hx.2.1.2.2.2.2.1 (by omega) (v := pu w) (hrT.2 _ (by omega) (by omega)).2.1 ?_
      exact AR.retI rfl (by unfold m_sd; omega) ⟨rfl, .inl rfl⟩ rfl
    by_cases e13 : y = 5
    · refine AR.tswA 5 rfl hsw10 e13 rfl (by omega) ?_
      show AR E d _ (116, [some (vA x), some (vI w), some (vI y)], [], (C, N)) _
      refine AR.blk 1 (f' := (117, [some (vA x), some (vI w), some (vI y)], [vA x], (C, N))) (fun _ => rfl) ?_
      refine AR.getR rfl rfl hx.1 (by decide) rfl ?_
      refine AR.getR rfl rfl hx.2.1.1 (by decide) rfl ?_
      refine AR.blk 1 (f' := (124, [some (vA x), some (vI w), some (vI y)], [vI w, vA (x + 1 + 12)], (C, N))) (fun _ => rfl) ?_
      have f14 := hwS.2.2.2.2.1 w
      refine AR.iald rfl hx.2.1.2.2.2.2.2 (by omega) (v := mk w) (hrT.2 _ (by omega) (by omega)).2.2 ?_
      exact AR.retI rfl (by unfold m_sd; omega) ⟨rfl, .inl rfl⟩ rfl
    refine AR.tswD rfl hsw10 (by omega) ?_
    show AR E d _ (126, [some (vA x), some (vI w), some (vI y)], [], (C, N)) _
    refine AR.blk 1 (f' := (128, [some (vA x), some (vI w), some (vI y)], [vI (-2)], (C, N))) (fun _ => rfl) ?_
    exact AR.retI rfl (by unfold m_sd; omega) ⟨rfl, .inl rfl⟩ rfl
  · show AR E d _ (7, [some (vA x), some (vI w), some (vI y)], [], (C, N)) _
    refine AR.blk 1 (f' := (8, [some (vA x), some (vI w), some (vI y)], [vI (-1)], (C, N))) (fun _ => rfl) ?_
    exact AR.retI rfl (by unfold m_sd; omega) ⟨rfl, .inl rfl⟩ rfl

theorem ev_X6_moves {d : Nat} (hd : 6 ≤ d) (hx : g_isX C x) (hrB : g_rB N (x + 1 + 1) P n q p cl tn) (hrH : g_rH N (x + 1 + 7) H) (hrT : g_rT N (x + 1) t bg en ca gn pu mk) (hwB : g_wB P n q p cl tn) (hwH : g_wH H) (hwS : g_wS t bg en ca gn pu mk) : Ev E d 67 [vA x] (C, N) (some (vI (m_mvs P n q cl t bg en)), (C, N)) := by
  obtain ⟨d, rfl⟩ : ∃ j, d = j + 1 := ⟨d - 1, by omega⟩
  have s1 := hwS.1
  have s2 := hwS.2.1
  have s3 := hwS.2.2.1
  have s4 := hwS.2.2.2.1
  refine Ev.intro (M := ag_mX6_moves) rfl rfl ?_
  show AR E d _ (0, [some (vA x)], [], (C, N)) _
  refine AR.blk 1 (f' := (1, [some (vA x)], [vA x], (C, N))) (fun _ => rfl) ?_
  refine AR.getR rfl rfl hx.1 (by decide) rfl ?_
  refine AR.callV [] (ev_X1_openMoves (by omega) hx.2.1 hrB hrH hrT hwB hwH (by omega)  ) hx.2.1.1 rfl rfl rfl rfl rfl ?_
  show AR E d _ (7, [some (vA x)], [vI (if m_on bg en = 1 then m_mv P n q cl (t % 2) else 0)], (C, N)) _
  have f1 := m_mv_in P n q cl (t % 2)
  exact AR.retI rfl (by rw [m_mvs_cls]) ⟨rfl, .inl rfl⟩ rfl

theorem ev_X6_movesAgain {d : Nat} (hd : 4 ≤ d) (hx : g_isX C x) (hrB : g_rB N (x + 1 + 1) P n q p cl tn) (hrH : g_rH N (x + 1 + 7) H) (hrT : g_rT N (x + 1) t bg en ca gn pu mk) (hwB : g_wB P n q p cl tn) (hwH : g_wH H) (hwS : g_wS t bg en ca gn pu mk) : Ev E d 68 [vA x] (C, N) (some (vI (m_sum (m_agn P n q cl t bg en) 4)), (C, N)) := by
  obtain ⟨d, rfl⟩ : ∃ j, d = j + 1 := ⟨d - 1, by omega⟩
  have s1 := hwS.1
  have s2 := hwS.2.1
  have s3 := hwS.2.2.1
  have s4 := hwS.2.2.2.1
  refine Ev.intro (M := ag_mX6_movesAgain) rfl rfl ?_
  show AR E d _ (0, [some (vA x), none, none, none], [], (C, N)) _
  refine AR.blk 1 (f' := (1, [some (vA x), none, none, none], [vA x], (C, N))) (fun _ => rfl) ?_
  refine AR.getR rfl rfl hx.1 (by decide) rfl ?_
  refine AR.callV [] (ev_X1_goesOn (by omega) hx.2.1 hrB hrH hrT hwB hwH (by omega)  ) hx.2.1.1 rfl rfl rfl rfl rfl ?_
  show AR E d _ (7, [some (vA x), none, none, none], [vI (m_on bg en)], (C, N)) _
  have f1 := m_on_in bg en
  refine AR.if_ne rfl (by omega) (fun c2 => ?_) (fun c2 => ?_)
  · show AR E d _ (12, [some (vA x), none, none, none], [], (C, N)) _
    refine AR.blk 4 (f' := (16, [some (vA x), some (vI 0), some (vI 0), none], [], (C, N))) (fun _ => rfl) ?_
    suffices H16 : ∀ (j : Nat) (c : Int) (y : Int) (z3 : Option av), (4 - y).toNat < j → (0 ≤ y ∧ y ≤ 4) → (c = m_sum (m_agn P n q cl t bg en) y.toNat) → AR E d ag_mX6_movesAgain (16, [some (vA x), some (vI c), some (vI y), z3], [], (C, N)) (fun o_ => o_ = (some (vI (m_sum (m_agn P n q cl t bg en) 4)), (C, N))) by
      exact H16 _ _ _ _ (Nat.lt_succ_self _) (by omega) rfl
    intro j
    induction j with
    | zero => intro c y z3 hj; exact absurd hj (Nat.not_lt_zero _)
    | succ j ih16 =>
      intro c y z3 hj16 i0 i1
      refine AR.blk 2 (f' := (18, [some (vA x), some (vI c), some (vI y), z3], [vI 4, vI y], (C, N))) (fun _ => rfl) ?_
      refine AR.ic_ge rfl (by omega) (fun c3 => ?_) (fun c3 => ?_)
      · show AR E d _ (63, [some (vA x), some (vI c), some (vI y), z3], [], (C, N)) _
        refine AR.blk 1 (f' := (64, [some (vA x), some (vI c), some (vI y), z3], [vI c], (C, N))) (fun _ => rfl) ?_
        exact AR.retI rfl (by first | (rw [i1, show y = 4 by omega]; rfl) | exact (m_agn_off P n q cl t bg en (by omega)).symm) ⟨rfl, .inl rfl⟩ rfl
      · show AR E d _ (21, [some (vA x), some (vI c), some (vI y), z3], [], (C, N)) _
        refine AR.blk 2 (f' := (23, [some (vA x), some (vI c), some (vI y), some (vI 0)], [], (C, N))) (fun _ => rfl) ?_
        suffices H23 : ∀ (j : Nat) (cc : Int) (l : Int), (6 - l).toNat < j → (0 ≤ l ∧ l ≤ 6) → (cc = c + m_sum (m_lns P n q cl (t % 2) y) l.toNat) → AR E d ag_mX6_movesAgain (23, [some (vA x), some (vI cc), some (vI y), some (vI l)], [], (C, N)) (fun o_ => o_ = (some (vI (m_sum (m_agn P n q cl t bg en) 4)), (C, N))) by
          exact H23 _ _ _ (Nat.lt_succ_self _) (by omega) (Int.add_zero c).symm
        intro j
        induction j with
        | zero => intro cc l hj; exact absurd hj (Nat.not_lt_zero _)
        | succ j ih23 =>
          intro cc l hj23 j0 j1
          refine AR.blk 2 (f' := (26, [some (vA x), some (vI cc), some (vI y), some (vI l)], [vI 6, vI l], (C, N))) (fun _ => rfl) ?_
          refine AR.ic_ge rfl (by omega) (fun c4 => ?_) (fun c4 => ?_)
          · show AR E d _ (57, [some (vA x), some (vI cc), some (vI y), some (vI l)], [], (C, N)) _
            refine AR.blk 2 (f' := (16, [some (vA x), some (vI cc), some (vI (y + 1)), some (vI l)], [], (C, N))) (fun _ => rfl) ?_
            exact ih16 _ _ _ (by omega) (by omega) (by rw [m_sum_succ _ (by omega), ← i1, j1, show l = 6 by omega]; exact congrArg (fun z => c + z) (m_lns_agn P n q cl t bg en y (by omega) (by omega)))
          · show AR E d _ (29, [some (vA x), some (vI cc), some (vI y), some (vI l)], [], (C, N)) _
            refine AR.blk 2 (f' := (31, [some (vA x), some (vI cc), some (vI y), some (vI l)], [vA x, vI cc], (C, N))) (fun _ => rfl) ?_
            refine AR.getR rfl rfl hx.1 (by decide) rfl ?_
            refine AR.getR rfl rfl hx.2.1.1 (by decide) rfl ?_
            refine AR.blk 1 (f' := (38, [some (vA x), some (vI cc), some (vI y), some (vI l)], [vA x, vA (x + 1 + 1), vI cc], (C, N))) (fun _ => rfl) ?_
            refine AR.getR rfl rfl hx.1 (by decide) rfl ?_
            refine AR.callV [] (ev_X1_sideToMove (by omega) hx.2.1 hrB hrH hrT hwB hwH (by omega)  ) hx.2.1.1 rfl rfl rfl rfl rfl ?_
            show AR E d _ (44, [some (vA x), some (vI cc), some (vI y), some (vI l)], [vI (t % 2), vA (x + 1 + 1), vI cc], (C, N)) _
            refine AR.blk 2 (f' := (46, [some (vA x), some (vI cc), some (vI y), some (vI l)], [vI l, vI y, vI (t % 2), vA (x + 1 + 1), vI cc], (C, N))) (fun _ => rfl) ?_
            refine AR.callV [vI (t % 2), vI y, vI l] (ev_X0_movesInLane (by omega) hx.2.1.2.1 hrB hwB (t % 2) y l (by omega) (by omega) (by omega)) hx.2.1.2.1.1 rfl rfl rfl rfl rfl ?_
            show AR E d _ (49, [some (vA x), some (vI cc), some (vI y), some (vI l)], [vI (m_lns P n q cl (t % 2) y l), vI cc], (C, N)) _
            have f5 := m_lns_in P n q cl (t % 2) y l
            refine AR.blk 4 (f' := (23, [some (vA x), some (vI (cc + (m_lns P n q cl (t % 2) y l))), some (vI y), some (vI (l + 1))], [], (C, N))) (fun _ => rfl) ?_
            exact ih23 _ _ (by omega) (by omega) (by rw [m_sum_succ _ (by omega)]; omega)
  · show AR E d _ (10, [some (vA x), none, none, none], [], (C, N)) _
    refine AR.blk 1 (f' := (11, [some (vA x), none, none, none], [vI 0], (C, N))) (fun _ => rfl) ?_
    exact AR.retI rfl (by first | (rw [i1, show y = 4 by omega]; rfl) | exact (m_agn_off P n q cl t bg en (by omega)).symm) ⟨rfl, .inl rfl⟩ rfl

theorem ev_X6_moveAt {d : Nat} (hd : 5 ≤ d) (hx : g_isX C x) (hrB : g_rB N (x + 1 + 1) P n q p cl tn) (hrH : g_rH N (x + 1 + 7) H) (hrT : g_rT N (x + 1) t bg en ca gn pu mk) (hwB : g_wB P n q p cl tn) (hwH : g_wH H) (hwS : g_wS t bg en ca gn pu mk) (w : Int) (h0 : ag_in w) : Ev E d 69 [vA x, vI w] (C, N) (some (vI (m_pk (m_open P n q cl t bg en) w 144 0 0)), (C, N)) := by
  obtain ⟨d, rfl⟩ : ∃ j, d = j + 1 := ⟨d - 1, by omega⟩
  have s1 := hwS.1
  have s2 := hwS.2.1
  have s3 := hwS.2.2.1
  have s4 := hwS.2.2.2.1
  refine Ev.intro (M := ag_mX6_moveAt) rfl rfl ?_
  show AR E d _ (0, [some (vA x), some (vI w), none, none], [], (C, N)) _
  refine AR.blk 4 (f' := (4, [some (vA x), some (vI w), some (vI 0), some (vI 0)], [], (C, N))) (fun _ => rfl) ?_
  suffices H4 : ∀ (j : Nat) (c : Int) (k : Int), (144 - k).toNat < j → (0 ≤ k ∧ k ≤ 144 ∧ 0 ≤ c ∧ c ≤ k) → (m_pk (m_open P n q cl t bg en) w (144 - k).toNat k c = m_pk (m_open P n q cl t bg en) w 144 0 0) → AR E d ag_mX6_moveAt (4, [some (vA x), some (vI w), some (vI c), some (vI k)], [], (C, N)) (fun o_ => o_ = (some (vI (m_pk (m_open P n q cl t bg en) w 144 0 0)), (C, N))) by
    exact H4 _ _ _ (Nat.lt_succ_self _) (by omega) rfl
  intro j
  induction j with
  | zero => intro c k hj; exact absurd hj (Nat.not_lt_zero _)
  | succ j ih4 =>
    intro c k hj4 i0 i1
    have z6 : 4 * (k / 4) + k % 4 = k := by omega
    have z7 := fun hk => m_pkS _ _ _ _ _ hk i1
    refine AR.blk 2 (f' := (8, [some (vA x), some (vI w), some (vI c), some (vI k)], [vI 144, vI k], (C, N))) (fun _ => rfl) ?_
    refine AR.ic_ge rfl (by omega) (fun c1 => ?_) (fun c1 => ?_)
    · show AR E d _ (43, [some (vA x), some (vI w), some (vI c), some (vI k)], [], (C, N)) _
      refine AR.blk 1 (f' := (44, [some (vA x), some (vI w), some (vI c), some (vI k)], [vI (-1)], (C, N))) (fun _ => rfl) ?_
      exact AR.retI rfl (by rw [z6] at *; first | exact (z7 (by omega)).1 (by omega) (by omega) | (rw [show k = 144 by omega] at i1; exact i1)) ⟨rfl, .inl rfl⟩ rfl
    · show AR E d _ (11, [some (vA x), some (vI w), some (vI c), some (vI k)], [], (C, N)) _
      refine AR.blk 1 (f' := (12, [some (vA x), some (vI w), some (vI c), some (vI k)], [vA x], (C, N))) (fun _ => rfl) ?_
      refine AR.getR rfl rfl hx.1 (by decide) rfl ?_
      refine AR.blk 2 (f' := (17, [some (vA x), some (vI w), some (vI c), some (vI k)], [vI 4, vI k, vA (x + 1)], (C, N))) (fun _ => rfl) ?_
      refine AR.idiv rfl (by omega) ?_
      refine AR.blk 2 (f' := (20, [some (vA x), some (vI w), some (vI c), some (vI k)], [vI 4, vI k, vI (k / 4), vA (x + 1)], (C, N))) (fun _ => rfl) ?_
      refine AR.irem rfl (by omega) ?_
      refine AR.callV [vI (k / 4), vI (k % 4)] (ev_X1_allows (by omega) hx.2.1 hrB hrH hrT hwB hwH (by omega) (k / 4) (k % 4) (by omega) (by omega)) hx.2.1.1 rfl rfl rfl rfl rfl ?_
      show AR E d _ (24, [some (vA x), some (vI w), some (vI c), some (vI k)], [vI (m_open P n q cl t bg en (4 * (k / 4) + (k % 4)))], (C, N)) _
      have f2 := m_open_in P n q cl t bg en (4 * (k / 4) + (k % 4))
      refine AR.if_eq rfl (by omega) (fun c3 => ?_) (fun c3 => ?_)
      · show AR E d _ (37, [some (vA x), some (vI w), some (vI c), some (vI k)], [], (C, N)) _
        refine AR.blk 2 (f' := (4, [some (vA x), some (vI w), some (vI c), some (vI (k + 1))], [], (C, N))) (fun _ => rfl) ?_
        exact ih4 _ _ (by omega) (by omega) (by rw [z6] at *; first | exact (z7 (by omega)).2.1 (by omega) (by omega) | exact (z7 (by omega)).2.2 (by omega))
      · show AR E d _ (27, [some (vA x), some (vI w), some (vI c), some (vI k)], [], (C, N)) _
        refine AR.blk 2 (f' := (29, [some (vA x), some (vI w), some (vI c), some (vI k)], [vI w, vI c], (C, N))) (fun _ => rfl) ?_
        refine AR.ic_ne rfl (by omega) (fun c4 => ?_) (fun c4 => ?_)
        · show AR E d _ (34, [some (vA x), some (vI w), some (vI c), some (vI k)], [], (C, N)) _
          refine AR.blk 3 (f' := (4, [some (vA x), some (vI w), some (vI (c + 1)), some (vI (k + 1))], [], (C, N))) (fun _ => rfl) ?_
          exact ih4 _ _ (by omega) (by omega) (by rw [z6] at *; first | exact (z7 (by omega)).2.1 (by omega) (by omega) | exact (z7 (by omega)).2.2 (by omega))
        · show AR E d _ (32, [some (vA x), some (vI w), some (vI c), some (vI k)], [], (C, N)) _
          refine AR.blk 1 (f' := (33, [some (vA x), some (vI w), some (vI c), some (vI k)], [vI k], (C, N))) (fun _ => rfl) ?_
          exact AR.retI rfl (by rw [z6] at *; first | exact (z7 (by omega)).1 (by omega) (by omega) | (rw [show k = 144 by omega] at i1; exact i1)) ⟨rfl, .inl rfl⟩ rfl

theorem ev_X6_repeats {d : Nat} (hd : 3 ≤ d) (hx : g_isX C x) (hrB : g_rB N (x + 1 + 1) P n q p cl tn) (hrH : g_rH N (x + 1 + 7) H) (hrT : g_rT N (x + 1) t bg en ca gn pu mk) (hwB : g_wB P n q p cl tn) (hwH : g_wH H) (hwS : g_wS t bg en ca gn pu mk) : Ev E d 70 [vA x] (C, N) (some (vI (m_tl H)), (C, N)) := by
  obtain ⟨d, rfl⟩ : ∃ j, d = j + 1 := ⟨d - 1, by omega⟩
  have s1 := hwS.1
  have s2 := hwS.2.1
  have s3 := hwS.2.2.1
  have s4 := hwS.2.2.2.1
  refine Ev.intro (M := ag_mX6_repeats) rfl rfl ?_
  show AR E d _ (0, [some (vA x)], [], (C, N)) _
  refine AR.blk 1 (f' := (1, [some (vA x)], [vA x], (C, N))) (fun _ => rfl) ?_
  refine AR.getR rfl rfl hx.1 (by decide) rfl ?_
  refine AR.getR rfl rfl hx.2.1.1 (by decide) rfl ?_
  refine AR.callV [] (ev_X2_timesOfLatest (by omega) hx.2.1.2.2.1 hrH hwH  ) hx.2.1.2.2.1.1 rfl rfl rfl rfl rfl ?_
  show AR E d _ (10, [some (vA x)], [vI (m_tl H)], (C, N)) _
  have f1 := m_tl_in H
  exact AR.retI rfl rfl ⟨rfl, .inl rfl⟩ rfl

theorem ev_X6_mostRepeats {d : Nat} (hd : 3 ≤ d) (hx : g_isX C x) (hrB : g_rB N (x + 1 + 1) P n q p cl tn) (hrH : g_rH N (x + 1 + 7) H) (hrT : g_rT N (x + 1) t bg en ca gn pu mk) (hwB : g_wB P n q p cl tn) (hwH : g_wH H) (hwS : g_wS t bg en ca gn pu mk) : Ev E d 71 [vA x] (C, N) (some (vI (m_max H)), (C, N)) := by
  obtain ⟨d, rfl⟩ : ∃ j, d = j + 1 := ⟨d - 1, by omega⟩
  have s1 := hwS.1
  have s2 := hwS.2.1
  have s3 := hwS.2.2.1
  have s4 := hwS.2.2.2.1
  refine Ev.intro (M := ag_mX6_mostRepeats) rfl rfl ?_
  show AR E d _ (0, [some (vA x)], [], (C, N)) _
  refine AR.blk 1 (f' := (1, [some (vA x)], [vA x], (C, N))) (fun _ => rfl) ?_
  refine AR.getR rfl rfl hx.1 (by decide) rfl ?_
  refine AR.getR rfl rfl hx.2.1.1 (by decide) rfl ?_
  refine AR.callV [] (ev_X2_mostTimes (by omega) hx.2.1.2.2.1 hrH hwH  ) hx.2.1.2.2.1.1 rfl rfl rfl rfl rfl ?_
  show AR E d _ (10, [some (vA x)], [vI (m_max H)], (C, N)) _
  have f1 := m_max_in H
  have f2 := hwH.1
  exact AR.retI rfl rfl ⟨rfl, .inl rfl⟩ rfl

theorem ev_X6_wouldPush {d : Nat} (hd : 4 ≤ d) (hx : g_isX C x) (hrB : g_rB N (x + 1 + 1) P n q p cl tn) (hrH : g_rH N (x + 1 + 7) H) (hrT : g_rT N (x + 1) t bg en ca gn pu mk) (hwB : g_wB P n q p cl tn) (hwH : g_wH H) (hwS : g_wS t bg en ca gn pu mk) (s y : Int) (h0 : ag_in s) (h1 : ag_in y) : Ev E d 72 [vA x, vI s, vI y] (C, N) (some (vI (m_wp P n q cl s y)), (C, N)) := by
  obtain ⟨d, rfl⟩ : ∃ j, d = j + 1 := ⟨d - 1, by omega⟩
  have s1 := hwS.1
  have s2 := hwS.2.1
  have s3 := hwS.2.2.1
  have s4 := hwS.2.2.2.1
  refine Ev.intro (M := ag_mX6_wouldPush) rfl rfl ?_
  show AR E d _ (0, [some (vA x), some (vI s), some (vI y)], [], (C, N)) _
  refine AR.blk 1 (f' := (1, [some (vA x), some (vI s), some (vI y)], [vI s], (C, N))) (fun _ => rfl) ?_
  refine AR.callS [vI s] (ev_X6_isSquare (by omega) s (by omega)) rfl rfl rfl rfl rfl ?_
  show AR E d _ (4, [some (vA x), some (vI s), some (vI y)], [vI (if 0 ≤ s ∧ s < 36 then 1 else 0)], (C, N)) _
  refine AR.if_ne rfl (by omega) (fun c1 => ?_) (fun c1 => ?_)
  · show AR E d _ (9, [some (vA x), some (vI s), some (vI y)], [], (C, N)) _
    refine AR.blk 1 (f' := (10, [some (vA x), some (vI s), some (vI y)], [vI y], (C, N))) (fun _ => rfl) ?_
    refine AR.callS [vI y] (ev_X6_isDirection (by omega) y (by omega)) rfl rfl rfl rfl rfl ?_
    show AR E d _ (13, [some (vA x), some (vI s), some (vI y)], [vI (if 0 ≤ y ∧ y < 4 then 1 else 0)], (C, N)) _
    refine AR.if_ne rfl (by omega) (fun c2 => ?_) (fun c2 => ?_)
    · show AR E d _ (19, [some (vA x), some (vI s), some (vI y)], [], (C, N)) _
      refine AR.blk 1 (f' := (20, [some (vA x), some (vI s), some (vI y)], [vA x], (C, N))) (fun _ => rfl) ?_
      refine AR.getR rfl rfl hx.1 (by decide) rfl ?_
      refine AR.getR rfl rfl hx.2.1.1 (by decide) rfl ?_
      refine AR.blk 1 (f' := (27, [some (vA x), some (vI s), some (vI y)], [vI s, vA (x + 1 + 1)], (C, N))) (fun _ => rfl) ?_
      refine AR.callV [vI s] (ev_X0_pieceAt (by omega) hx.2.1.2.1 hrB hwB s (by omega)) hx.2.1.2.1.1 rfl rfl rfl rfl rfl ?_
      show AR E d _ (30, [some (vA x), some (vI s), some (vI y)], [vI (P s)], (C, N)) _
      have f3 := hwB.1 s
      refine AR.blk 1 (f' := (31, [some (vA x), some (vI s), some (vI y)], [vI (-1), vI (P s)], (C, N))) (fun _ => rfl) ?_
      refine AR.ic_eq rfl (by omega) (fun c4 => ?_) (fun c4 => ?_)
      · show AR E d _ (49, [some (vA x), some (vI s), some (vI y)], [], (C, N)) _
        refine AR.blk 1 (f' := (51, [some (vA x), some (vI s), some (vI y)], [vI (-4)], (C, N))) (fun _ => rfl) ?_
        exact AR.retI rfl (by unfold m_wp; omega) ⟨rfl, .inl rfl⟩ rfl
      · show AR E d _ (34, [some (vA x), some (vI s), some (vI y)], [], (C, N)) _
        refine AR.blk 1 (f' := (35, [some (vA x), some (vI s), some (vI y)], [vA x], (C, N))) (fun _ => rfl) ?_
        refine AR.getR rfl rfl hx.1 (by decide) rfl ?_
        refine AR.getR rfl rfl hx.2.1.1 (by decide) rfl ?_
        refine AR.blk 2 (f' := (43, [some (vA x), some (vI s), some (vI y)], [vI y, vI s, vA (x + 1 + 1)], (C, N))) (fun _ => rfl) ?_
        refine AR.callV [vI s, vI y] (ev_X0_causeAgainst (by omega) hx.2.1.2.1 hrB hwB s y (by omega) (by omega)) hx.2.1.2.1.1 rfl rfl rfl rfl rfl ?_
        show AR E d _ (46, [some (vA x), some (vI s), some (vI y)], [vI (m_cause P n q cl s y)], (C, N)) _
        have f5 := m_cause_in P n q cl s y
        refine AR.if_eq rfl (by omega) (fun c6 => ?_) (fun c6 => ?_)
        · show AR E d _ (52, [some (vA x), some (vI s), some (vI y)], [], (C, N)) _
          refine AR.blk 1 (f' := (53, [some (vA x), some (vI s), some (vI y)], [vA x], (C, N))) (fun _ => rfl) ?_
          refine AR.getR rfl rfl hx.1 (by decide) rfl ?_
          refine AR.getR rfl rfl hx.2.1.1 (by decide) rfl ?_
          refine AR.blk 2 (f' := (61, [some (vA x), some (vI s), some (vI y)], [vI y, vI s, vA (x + 1 + 1)], (C, N))) (fun _ => rfl) ?_
          refine AR.callV [vI s, vI y] (ev_X0_standing (by omega) hx.2.1.2.1 hrB hwB s y (by omega) (by omega)) hx.2.1.2.1.1 rfl rfl rfl rfl rfl ?_
          show AR E d _ (64, [some (vA x), some (vI s), some (vI y)], [vI (m_std P s y)], (C, N)) _
          have f7 := m_std_in P s y (by omega)
          exact AR.retI rfl (by unfold m_wp; omega) ⟨rfl, .inl rfl⟩ rfl
        · show AR E d _ (49, [some (vA x), some (vI s), some (vI y)], [], (C, N)) _
          refine AR.blk 1 (f' := (51, [some (vA x), some (vI s), some (vI y)], [vI (-4)], (C, N))) (fun _ => rfl) ?_
          exact AR.retI rfl (by unfold m_wp; omega) ⟨rfl, .inl rfl⟩ rfl
    · show AR E d _ (16, [some (vA x), some (vI s), some (vI y)], [], (C, N)) _
      refine AR.blk 1 (f' := (18, [some (vA x), some (vI s), some (vI y)], [vI (-2)], (C, N))) (fun _ => rfl) ?_
      exact AR.retI rfl (by unfold m_wp; omega) ⟨rfl, .inl rfl⟩ rfl
  · show AR E d _ (7, [some (vA x), some (vI s), some (vI y)], [], (C, N)) _
    refine AR.blk 1 (f' := (8, [some (vA x), some (vI s), some (vI y)], [vI (-1)], (C, N))) (fun _ => rfl) ?_
    exact AR.retI rfl (by unfold m_wp; omega) ⟨rfl, .inl rfl⟩ rfl

theorem ev_X6_firstTake {d : Nat} (hd : 5 ≤ d) (hx : g_isX C x) (hrB : g_rB N (x + 1 + 1) P n q p cl tn) (hrH : g_rH N (x + 1 + 7) H) (hrT : g_rT N (x + 1) t bg en ca gn pu mk) (hwB : g_wB P n q p cl tn) (hwH : g_wH H) (hwS : g_wS t bg en ca gn pu mk) : Ev E d 73 [vA x] (C, N) (some (vI (m_fst (m_ft P n q cl t bg en) 144 0)), (C, N)) := by
  obtain ⟨d, rfl⟩ : ∃ j, d = j + 1 := ⟨d - 1, by omega⟩
  have s1 := hwS.1
  have s2 := hwS.2.1
  have s3 := hwS.2.2.1
  have s4 := hwS.2.2.2.1
  refine Ev.intro (M := ag_mX6_firstTake) rfl rfl ?_
  show AR E d _ (0, [some (vA x), none, none, none, none], [], (C, N)) _
  refine AR.blk 1 (f' := (1, [some (vA x), none, none, none, none], [vA x], (C, N))) (fun _ => rfl) ?_
  refine AR.getR rfl rfl hx.1 (by decide) rfl ?_
  refine AR.callV [] (ev_X1_sideToMove (by omega) hx.2.1 hrB hrH hrT hwB hwH (by omega)  ) hx.2.1.1 rfl rfl rfl rfl rfl ?_
  show AR E d _ (7, [some (vA x), none, none, none, none], [vI (t % 2)], (C, N)) _
  refine AR.callS [vI (t % 2)] (ev_X6_otherSide (by omega) (t % 2) ) rfl rfl rfl rfl rfl ?_
  show AR E d _ (10, [some (vA x), none, none, none, none], [vI (1 - (t % 2))], (C, N)) _
  refine AR.blk 3 (f' := (13, [some (vA x), some (vI (1 - (t % 2))), some (vI 0), none, none], [], (C, N))) (fun _ => rfl) ?_
  suffices H13 : ∀ (j : Nat) (k : Int) (z3 : Option av) (z4 : Option av), (144 - k).toNat < j → (0 ≤ k ∧ k ≤ 144) → (m_fst (m_ft P n q cl t bg en) (144 - k).toNat k = m_fst (m_ft P n q cl t bg en) 144 0) → AR E d ag_mX6_firstTake (13, [some (vA x), some (vI (1 - (t % 2))), some (vI k), z3, z4], [], (C, N)) (fun o_ => o_ = (some (vI (m_fst (m_ft P n q cl t bg en) 144 0)), (C, N))) by
    exact H13 _ _ _ _ (Nat.lt_succ_self _) (by omega) rfl
  intro j
  induction j with
  | zero => intro k z3 z4 hj; exact absurd hj (Nat.not_lt_zero _)
  | succ j ih13 =>
    intro k z3 z4 hj13 i0 i1
    have z6 : 4 * (k / 4) + k % 4 = k := by omega
    have z7 := fun hk => m_fstS _ _ _ hk i1
    have z8 := fun hk : k < 144 => m_off_take hwB.1 t (k / 4) (k % 4) (by omega) (by omega)
    refine AR.blk 2 (f' := (17, [some (vA x), some (vI (1 - (t % 2))), some (vI k), z3, z4], [vI 144, vI k], (C, N))) (fun _ => rfl) ?_
    refine AR.ic_ge rfl (by first | omega | (have z9 := z8 (by omega); omega)) (fun c1 => ?_) (fun c1 => ?_)
    · show AR E d _ (70, [some (vA x), some (vI (1 - (t % 2))), some (vI k), z3, z4], [], (C, N)) _
      refine AR.blk 1 (f' := (72, [some (vA x), some (vI (1 - (t % 2))), some (vI k), z3, z4], [vI (-4)], (C, N))) (fun _ => rfl) ?_
      exact AR.retI rfl (by rw [z6] at *; first | exact (z7 (by omega)).1 (by unfold m_ft; omega) | (rw [show k = 144 by omega] at i1; exact i1)) ⟨rfl, .inl rfl⟩ rfl
    · show AR E d _ (20, [some (vA x), some (vI (1 - (t % 2))), some (vI k), z3, z4], [], (C, N)) _
      refine AR.blk 2 (f' := (22, [some (vA x), some (vI (1 - (t % 2))), some (vI k), z3, z4], [vI 4, vI k], (C, N))) (fun _ => rfl) ?_
      refine AR.idiv rfl (by first | omega | (have z9 := z8 (by omega); omega)) ?_
      refine AR.blk 3 (f' := (26, [some (vA x), some (vI (1 - (t % 2))), some (vI k), some (vI (k / 4)), z4], [vI 4, vI k], (C, N))) (fun _ => rfl) ?_
      refine AR.irem rfl (by first | omega | (have z9 := z8 (by omega); omega)) ?_
      refine AR.blk 2 (f' := (30, [some (vA x), some (vI (1 - (t % 2))), some (vI k), some (vI (k / 4)), some (vI (k % 4))], [vA x], (C, N))) (fun _ => rfl) ?_
      refine AR.getR rfl rfl hx.1 (by decide) rfl ?_
      refine AR.blk 2 (f' := (36, [some (vA x), some (vI (1 - (t % 2))), some (vI k), some (vI (k / 4)), some (vI (k % 4))], [vI (k % 4), vI (k / 4), vA (x + 1)], (C, N))) (fun _ => rfl) ?_
      refine AR.callV [vI (k / 4), vI (k % 4)] (ev_X1_allows (by omega) hx.2.1 hrB hrH hrT hwB hwH (by omega) (k / 4) (k % 4) (by first | omega | (have z9 := z8 (by omega); omega)) (by first | omega | (have z9 := z8 (by omega); omega))) hx.2.1.1 rfl rfl rfl rfl rfl ?_
      show AR E d _ (39, [some (vA x), some (vI (1 - (t % 2))), some (vI k), some (vI (k / 4)), some (vI (k % 4))], [vI (m_open P n q cl t bg en (4 * (k / 4) + (k % 4)))], (C, N)) _
      have f2 := m_open_in P n q cl t bg en (4 * (k / 4) + (k % 4))
      refine AR.if_eq rfl (by first | omega | (have z9 := z8 (by omega); omega)) (fun c3 => ?_) (fun c3 => ?_)
      · show AR E d _ (64, [some (vA x), some (vI (1 - (t % 2))), some (vI k), some (vI (k / 4)), some (vI (k % 4))], [], (C, N)) _
        refine AR.blk 2 (f' := (13, [some (vA x), some (vI (1 - (t % 2))), some (vI (k + 1)), some (vI (k / 4)), some (vI (k % 4))], [], (C, N))) (fun _ => rfl) ?_
        exact ih13 _ _ _ (by omega) (by omega) (by rw [z6] at *; exact (z7 (by omega)).2 (by unfold m_ft; omega))
      · show AR E d _ (42, [some (vA x), some (vI (1 - (t % 2))), some (vI k), some (vI (k / 4)), some (vI (k % 4))], [], (C, N)) _
        refine AR.blk 1 (f' := (43, [some (vA x), some (vI (1 - (t % 2))), some (vI k), some (vI (k / 4)), some (vI (k % 4))], [vA x], (C, N))) (fun _ => rfl) ?_
        refine AR.getR rfl rfl hx.1 (by decide) rfl ?_
        refine AR.getR rfl rfl hx.2.1.1 (by decide) rfl ?_
        refine AR.blk 2 (f' := (52, [some (vA x), some (vI (1 - (t % 2))), some (vI k), some (vI (k / 4)), some (vI (k % 4))], [vI (k % 4), vI (k / 4), vA (x + 1 + 1)], (C, N))) (fun _ => rfl) ?_
        refine AR.callV [vI (k / 4), vI (k % 4)] (ev_X0_pushedOff (by omega) hx.2.1.2.1 hrB hwB (k / 4) (k % 4) (by first | omega | (have z9 := z8 (by omega); omega)) (by first | omega | (have z9 := z8 (by omega); omega))) hx.2.1.2.1.1 rfl rfl rfl rfl rfl ?_
        show AR E d _ (55, [some (vA x), some (vI (1 - (t % 2))), some (vI k), some (vI (k / 4)), some (vI (k % 4))], [vI (m_off P (k / 4) (k % 4))], (C, N)) _
        have f4 := m_off_in P (k / 4) (k % 4) hwB.1
        refine AR.callS [vI (m_off P (k / 4) (k % 4))] (ev_X6_ownerOf (by omega) (m_off P (k / 4) (k % 4)) (by first | omega | (have z9 := z8 (by omega); omega))) rfl rfl rfl rfl rfl ?_
        show AR E d _ (58, [some (vA x), some (vI (1 - (t % 2))), some (vI k), some (vI (k / 4)), some (vI (k % 4))], [vI (m_own (m_off P (k / 4) (k % 4)))], (C, N)) _
        have f5 := m_own_in ((m_off P (k / 4) (k % 4))) (by omega)
        refine AR.blk 1 (f' := (59, [some (vA x), some (vI (1 - (t % 2))), some (vI k), some (vI (k / 4)), some (vI (k % 4))], [vI (1 - (t % 2)), vI (m_own (m_off P (k / 4) (k % 4)))], (C, N))) (fun _ => rfl) ?_
        refine AR.ic_ne rfl (by first | omega | (have z9 := z8 (by omega); omega)) (fun c6 => ?_) (fun c6 => ?_)
        · show AR E d _ (64, [some (vA x), some (vI (1 - (t % 2))), some (vI k), some (vI (k / 4)), some (vI (k % 4))], [], (C, N)) _
          refine AR.blk 2 (f' := (13, [some (vA x), some (vI (1 - (t % 2))), some (vI (k + 1)), some (vI (k / 4)), some (vI (k % 4))], [], (C, N))) (fun _ => rfl) ?_
          exact ih13 _ _ _ (by omega) (by omega) (by rw [z6] at *; exact (z7 (by omega)).2 (by unfold m_ft; omega))
        · show AR E d _ (62, [some (vA x), some (vI (1 - (t % 2))), some (vI k), some (vI (k / 4)), some (vI (k % 4))], [], (C, N)) _
          refine AR.blk 1 (f' := (63, [some (vA x), some (vI (1 - (t % 2))), some (vI k), some (vI (k / 4)), some (vI (k % 4))], [vI k], (C, N))) (fun _ => rfl) ?_
          exact AR.retI rfl (by rw [z6] at *; first | exact (z7 (by omega)).1 (by unfold m_ft; omega) | (rw [show k = 144 by omega] at i1; exact i1)) ⟨rfl, .inl rfl⟩ rfl

theorem ev_X6_turnsIn {d : Nat} (hd : 2 ≤ d) (hx : g_isX C x) (hrB : g_rB N (x + 1 + 1) P n q p cl tn) (hrH : g_rH N (x + 1 + 7) H) (hrT : g_rT N (x + 1) t bg en ca gn pu mk) (hwB : g_wB P n q p cl tn) (hwH : g_wH H) (hwS : g_wS t bg en ca gn pu mk) (l : Int) (h0 : ag_in l) : Ev E d 75 [vA x, vI l] (C, N) (some (vI (m_tin n p t l)), (C, N)) := by
  obtain ⟨d, rfl⟩ : ∃ j, d = j + 1 := ⟨d - 1, by omega⟩
  have s1 := hwS.1
  have s2 := hwS.2.1
  have s3 := hwS.2.2.1
  have s4 := hwS.2.2.2.1
  refine Ev.intro (M := ag_mX6_turnsIn) rfl rfl ?_
  show AR E d _ (0, [some (vA x), some (vI l), none], [], (C, N)) _
  refine AR.blk 1 (f' := (1, [some (vA x), some (vI l), none], [vA x], (C, N))) (fun _ => rfl) ?_
  refine AR.getR rfl rfl hx.1 (by decide) rfl ?_
  refine AR.getR rfl rfl hx.2.1.1 (by decide) rfl ?_
  refine AR.blk 1 (f' := (8, [some (vA x), some (vI l), none], [vI l, vA (x + 1 + 1)], (C, N))) (fun _ => rfl) ?_
  refine AR.callV [vI l] (ev_X0_hasLock (by omega) hx.2.1.2.1 hrB hwB l (by omega)) hx.2.1.2.1.1 rfl rfl rfl rfl rfl ?_
  show AR E d _ (11, [some (vA x), some (vI l), none], [vI (if 0 ≤ l ∧ l < n then 1 else 0)], (C, N)) _
  have f1 := hwB.2.2.1
  refine AR.if_ne rfl (by omega) (fun c2 => ?_) (fun c2 => ?_)
  · show AR E d _ (16, [some (vA x), some (vI l), none], [], (C, N)) _
    refine AR.blk 1 (f' := (17, [some (vA x), some (vI l), none], [vA x], (C, N))) (fun _ => rfl) ?_
    refine AR.getR rfl rfl hx.1 (by decide) rfl ?_
    refine AR.getR rfl rfl hx.2.1.1 (by decide) rfl ?_
    refine AR.getR rfl rfl hx.2.1.2.1.1 (by decide) rfl ?_
    refine AR.blk 1 (f' := (27, [some (vA x), some (vI l), none], [vI l, vA (x + 1 + 1 + 3)], (C, N))) (fun _ => rfl) ?_
    have f3 := hwB.2.2.2.1 l (by omega) (by omega)
    refine AR.iald rfl hx.2.1.2.1.2.2.2.1 (by omega) (v := p l) (hrB.2.2.1 _ (by omega) (by omega)).2 ?_
    refine AR.blk 2 (f' := (30, [some (vA x), some (vI l), some (vI (p l))], [vI (p l)], (C, N))) (fun _ => rfl) ?_
    refine AR.if_le rfl (by omega) (fun c4 => ?_) (fun c4 => ?_)
    · show AR E d _ (47, [some (vA x), some (vI l), some (vI (p l))], [], (C, N)) _
      refine AR.blk 1 (f' := (48, [some (vA x), some (vI l), some (vI (p l))], [vI (-1)], (C, N))) (fun _ => rfl) ?_
      exact AR.retI rfl (by unfold m_tin; omega) ⟨rfl, .inl rfl⟩ rfl
    · show AR E d _ (33, [some (vA x), some (vI l), some (vI (p l))], [], (C, N)) _
      refine AR.blk 2 (f' := (35, [some (vA x), some (vI l), some (vI (p l))], [vA x, vI (p l)], (C, N))) (fun _ => rfl) ?_
      refine AR.getR rfl rfl hx.1 (by decide) rfl ?_
      refine AR.getI rfl rfl hx.2.1.1 (by decide) (v := t) hrT.1.2.2.1 ?_
      refine AR.blk 1 (f' := (42, [some (vA x), some (vI l), some (vI (p l))], [vI (p l), vI t, vI (p l)], (C, N))) (fun _ => rfl) ?_
      refine AR.irem rfl (by omega) ?_
      refine AR.blk 2 (f' := (48, [some (vA x), some (vI l), some (vI (p l))], [vI ((p l) - (t % (p l)))], (C, N))) (fun _ => rfl) ?_
      exact AR.retI rfl (by unfold m_tin; omega) ⟨rfl, .inl rfl⟩ rfl
  · show AR E d _ (14, [some (vA x), some (vI l), none], [], (C, N)) _
    refine AR.blk 1 (f' := (15, [some (vA x), some (vI l), none], [vI (-1)], (C, N))) (fun _ => rfl) ?_
    exact AR.retI rfl (by unfold m_tin; omega) ⟨rfl, .inl rfl⟩ rfl

theorem ev_X6_tideIn {d : Nat} (hd : 2 ≤ d) (hx : g_isX C x) (hrB : g_rB N (x + 1 + 1) P n q p cl tn) (hrH : g_rH N (x + 1 + 7) H) (hrT : g_rT N (x + 1) t bg en ca gn pu mk) (hwB : g_wB P n q p cl tn) (hwH : g_wH H) (hwS : g_wS t bg en ca gn pu mk) (y : Int) (h0 : ag_in y) : Ev E d 76 [vA x, vI y] (C, N) (some (vI (m_tdi t y)), (C, N)) := by
  obtain ⟨d, rfl⟩ : ∃ j, d = j + 1 := ⟨d - 1, by omega⟩
  have s1 := hwS.1
  have s2 := hwS.2.1
  have s3 := hwS.2.2.1
  have s4 := hwS.2.2.2.1
  refine Ev.intro (M := ag_mX6_tideIn) rfl rfl ?_
  show AR E d _ (0, [some (vA x), some (vI y), none], [], (C, N)) _
  refine AR.blk 1 (f' := (1, [some (vA x), some (vI y), none], [vI y], (C, N))) (fun _ => rfl) ?_
  refine AR.if_lt rfl (by omega) (fun c1 => ?_) (fun c1 => ?_)
  · show AR E d _ (9, [some (vA x), some (vI y), none], [], (C, N)) _
    refine AR.blk 1 (f' := (10, [some (vA x), some (vI y), none], [vI (-1)], (C, N))) (fun _ => rfl) ?_
    exact AR.retI rfl (by unfold m_tdi; omega) ⟨rfl, .inl rfl⟩ rfl
  · show AR E d _ (4, [some (vA x), some (vI y), none], [], (C, N)) _
    refine AR.blk 2 (f' := (6, [some (vA x), some (vI y), none], [vI 4, vI y], (C, N))) (fun _ => rfl) ?_
    refine AR.ic_lt rfl (by omega) (fun c2 => ?_) (fun c2 => ?_)
    · show AR E d _ (11, [some (vA x), some (vI y), none], [], (C, N)) _
      refine AR.blk 2 (f' := (13, [some (vA x), some (vI y), none], [vA x, vI y], (C, N))) (fun _ => rfl) ?_
      refine AR.getR rfl rfl hx.1 (by decide) rfl ?_
      refine AR.callV [] (ev_X1_tide (by omega) hx.2.1 hrB hrH hrT hwB hwH (by omega)  ) hx.2.1.1 rfl rfl rfl rfl rfl ?_
      show AR E d _ (19, [some (vA x), some (vI y), none], [vI (t / 4 % 4), vI y], (C, N)) _
      refine AR.blk 3 (f' := (22, [some (vA x), some (vI y), some (vI (y - (t / 4 % 4)))], [vI (y - (t / 4 % 4))], (C, N))) (fun _ => rfl) ?_
      refine AR.if_gt rfl (by omega) (fun c3 => ?_) (fun c3 => ?_)
      · show AR E d _ (28, [some (vA x), some (vI y), some (vI (y - (t / 4 % 4)))], [], (C, N)) _
        refine AR.blk 4 (f' := (32, [some (vA x), some (vI y), some (vI (y - (t / 4 % 4)))], [vA x, vI (4 * (y - (t / 4 % 4)))], (C, N))) (fun _ => rfl) ?_
        refine AR.getR rfl rfl hx.1 (by decide) rfl ?_
        refine AR.getI rfl rfl hx.2.1.1 (by decide) (v := t) hrT.1.2.2.1 ?_
        refine AR.blk 1 (f' := (39, [some (vA x), some (vI y), some (vI (y - (t / 4 % 4)))], [vI 4, vI t, vI (4 * (y - (t / 4 % 4)))], (C, N))) (fun _ => rfl) ?_
        refine AR.irem rfl (by omega) ?_
        refine AR.blk 1 (f' := (41, [some (vA x), some (vI y), some (vI (y - (t / 4 % 4)))], [vI ((4 * (y - (t / 4 % 4))) - (t % 4))], (C, N))) (fun _ => rfl) ?_
        exact AR.retI rfl (by unfold m_tdi; omega) ⟨rfl, .inl rfl⟩ rfl
      · show AR E d _ (25, [some (vA x), some (vI y), some (vI (y - (t / 4 % 4)))], [], (C, N)) _
        refine AR.blk 5 (f' := (32, [some (vA x), some (vI y), some (vI ((y - (t / 4 % 4)) + 4))], [vA x, vI (4 * ((y - (t / 4 % 4)) + 4))], (C, N))) (fun _ => rfl) ?_
        refine AR.getR rfl rfl hx.1 (by decide) rfl ?_
        refine AR.getI rfl rfl hx.2.1.1 (by decide) (v := t) hrT.1.2.2.1 ?_
        refine AR.blk 1 (f' := (39, [some (vA x), some (vI y), some (vI ((y - (t / 4 % 4)) + 4))], [vI 4, vI t, vI (4 * ((y - (t / 4 % 4)) + 4))], (C, N))) (fun _ => rfl) ?_
        refine AR.irem rfl (by omega) ?_
        refine AR.blk 1 (f' := (41, [some (vA x), some (vI y), some (vI ((y - (t / 4 % 4)) + 4))], [vI ((4 * ((y - (t / 4 % 4)) + 4)) - (t % 4))], (C, N))) (fun _ => rfl) ?_
        exact AR.retI rfl (by unfold m_tdi; omega) ⟨rfl, .inl rfl⟩ rfl
    · show AR E d _ (9, [some (vA x), some (vI y), none], [], (C, N)) _
      refine AR.blk 1 (f' := (10, [some (vA x), some (vI y), none], [vI (-1)], (C, N))) (fun _ => rfl) ?_
      exact AR.retI rfl (by unfold m_tdi; omega) ⟨rfl, .inl rfl⟩ rfl

theorem ev_X6_sign {d : Nat} (hd : 1 ≤ d) (hx : g_isX C x) (hrB : g_rB N (x + 1 + 1) P n q p cl tn) (hrH : g_rH N (x + 1 + 7) H) (hrT : g_rT N (x + 1) t bg en ca gn pu mk) (hwB : g_wB P n q p cl tn) (hwH : g_wH H) (hwS : g_wS t bg en ca gn pu mk) {l : Int} {ln : Int → Int} (hl : N x 8 = l) (hl0 : 0 ≤ l ∧ l ≤ 6) (hln : ∀ j, 0 ≤ j → j < l → N (x + 151) j = ln j) (i : Int) (h0 : ag_in i) : Ev E d 78 [vA x, vI i] (C, N) (some (vI (m_sg l ln i)), (C, N)) := by
  obtain ⟨d, rfl⟩ : ∃ j, d = j + 1 := ⟨d - 1, by omega⟩
  have s1 := hwS.1
  have s2 := hwS.2.1
  have s3 := hwS.2.2.1
  have s4 := hwS.2.2.2.1
  refine Ev.intro (M := ag_mX6_sign) rfl rfl ?_
  show AR E d _ (0, [some (vA x), some (vI i)], [], (C, N)) _
  refine AR.blk 1 (f' := (1, [some (vA x), some (vI i)], [vI i], (C, N))) (fun _ => rfl) ?_
  refine AR.if_lt rfl (by omega) (fun c1 => ?_) (fun c1 => ?_)
  · show AR E d _ (27, [some (vA x), some (vI i)], [], (C, N)) _
    refine AR.blk 1 (f' := (28, [some (vA x), some (vI i)], [vI (-1)], (C, N))) (fun _ => rfl) ?_
    exact AR.retI rfl (by unfold m_sg; omega) ⟨rfl, .inl rfl⟩ rfl
  · show AR E d _ (4, [some (vA x), some (vI i)], [], (C, N)) _
    refine AR.blk 2 (f' := (6, [some (vA x), some (vI i)], [vA x, vI i], (C, N))) (fun _ => rfl) ?_
    have f2 := hl0
    refine AR.getI rfl rfl hx.1 (by decide) (v := l) hl ?_
    refine AR.ic_ge rfl (by omega) (fun c3 => ?_) (fun c3 => ?_)
    · show AR E d _ (27, [some (vA x), some (vI i)], [], (C, N)) _
      refine AR.blk 1 (f' := (28, [some (vA x), some (vI i)], [vI (-1)], (C, N))) (fun _ => rfl) ?_
      exact AR.retI rfl (by unfold m_sg; omega) ⟨rfl, .inl rfl⟩ rfl
    · show AR E d _ (12, [some (vA x), some (vI i)], [], (C, N)) _
      refine AR.blk 2 (f' := (15, [some (vA x), some (vI i)], [vI 6, vI i], (C, N))) (fun _ => rfl) ?_
      refine AR.ic_ge rfl (by omega) (fun c4 => ?_) (fun c4 => ?_)
      · show AR E d _ (27, [some (vA x), some (vI i)], [], (C, N)) _
        refine AR.blk 1 (f' := (28, [some (vA x), some (vI i)], [vI (-1)], (C, N))) (fun _ => rfl) ?_
        exact AR.retI rfl (by unfold m_sg; omega) ⟨rfl, .inl rfl⟩ rfl
      · show AR E d _ (18, [some (vA x), some (vI i)], [], (C, N)) _
        refine AR.blk 1 (f' := (19, [some (vA x), some (vI i)], [vA x], (C, N))) (fun _ => rfl) ?_
        refine AR.getR rfl rfl hx.1 (by decide) rfl ?_
        refine AR.blk 1 (f' := (23, [some (vA x), some (vI i)], [vI i, vA (x + 151)], (C, N))) (fun _ => rfl) ?_
        refine AR.iald rfl hx.2.2.2.2.2.2.2 (by omega) (v := ln i) (hln i (by omega) (by omega)) ?_
        refine AR.blk 1 (f' := (28, [some (vA x), some (vI i)], [vI (ln i)], (C, N))) (fun _ => rfl) ?_
        exact AR.retI rfl (by unfold m_sg; omega) ⟨rfl, .inl rfl⟩ rfl

theorem ev_X6_refusal {d : Nat} (hd : 1 ≤ d) (hx : g_isX C x) (hrB : g_rB N (x + 1 + 1) P n q p cl tn) (hrH : g_rH N (x + 1 + 7) H) (hrT : g_rT N (x + 1) t bg en ca gn pu mk) (hwB : g_wB P n q p cl tn) (hwH : g_wH H) (hwS : g_wS t bg en ca gn pu mk) {F : m_F} (hF : g_rF N (x + 150) F) (w : Int) (h0 : ag_in w) : Ev E d 81 [vA x, vI w] (C, N) (some (vI (m_rf F w)), (C, N)) := by
  obtain ⟨d, rfl⟩ : ∃ j, d = j + 1 := ⟨d - 1, by omega⟩
  have s1 := hwS.1
  have s2 := hwS.2.1
  have s3 := hwS.2.2.1
  have s4 := hwS.2.2.2.1
  refine Ev.intro (M := ag_mX6_refusal) rfl rfl ?_
  show AR E d _ (0, [some (vA x), some (vI w)], [], (C, N)) _
  refine AR.blk 1 (f' := (1, [some (vA x), some (vI w)], [vI w], (C, N))) (fun _ => rfl) ?_
  have hsw1 : ag_in w := (by omega)
  by_cases e1 : w = 0
  · refine AR.tswA 0 rfl hsw1 e1 rfl (by omega) ?_
    show AR E d _ (36, [some (vA x), some (vI w)], [], (C, N)) _
    refine AR.blk 1 (f' := (37, [some (vA x), some (vI w)], [vA x], (C, N))) (fun _ => rfl) ?_
    refine AR.getR rfl rfl hx.1 (by decide) rfl ?_
    refine AR.getI rfl rfl hx.2.2.2.2.2.2.1 (by decide) (v := F.1) hF.1 ?_
    exact AR.retI rfl (by unfold m_rf; omega) ⟨rfl, .inl rfl⟩ rfl
  by_cases e2 : w = 1
  · refine AR.tswA 1 rfl hsw1 e2 rfl (by omega) ?_
    show AR E d _ (44, [some (vA x), some (vI w)], [], (C, N)) _
    refine AR.blk 1 (f' := (45, [some (vA x), some (vI w)], [vA x], (C, N))) (fun _ => rfl) ?_
    refine AR.getR rfl rfl hx.1 (by decide) rfl ?_
    refine AR.getI rfl rfl hx.2.2.2.2.2.2.1 (by decide) (v := F.2.1) hF.2.1 ?_
    exact AR.retI rfl (by unfold m_rf; omega) ⟨rfl, .inl rfl⟩ rfl
  by_cases e3 : w = 2
  · refine AR.tswA 2 rfl hsw1 e3 rfl (by omega) ?_
    show AR E d _ (52, [some (vA x), some (vI w)], [], (C, N)) _
    refine AR.blk 1 (f' := (53, [some (vA x), some (vI w)], [vA x], (C, N))) (fun _ => rfl) ?_
    refine AR.getR rfl rfl hx.1 (by decide) rfl ?_
    refine AR.getI rfl rfl hx.2.2.2.2.2.2.1 (by decide) (v := F.2.2.1) hF.2.2.1 ?_
    exact AR.retI rfl (by unfold m_rf; omega) ⟨rfl, .inl rfl⟩ rfl
  by_cases e4 : w = 3
  · refine AR.tswA 3 rfl hsw1 e4 rfl (by omega) ?_
    show AR E d _ (60, [some (vA x), some (vI w)], [], (C, N)) _
    refine AR.blk 1 (f' := (61, [some (vA x), some (vI w)], [vA x], (C, N))) (fun _ => rfl) ?_
    refine AR.getR rfl rfl hx.1 (by decide) rfl ?_
    refine AR.getI rfl rfl hx.2.2.2.2.2.2.1 (by decide) (v := F.2.2.2.1) hF.2.2.2.1 ?_
    exact AR.retI rfl (by unfold m_rf; omega) ⟨rfl, .inl rfl⟩ rfl
  by_cases e5 : w = 4
  · refine AR.tswA 4 rfl hsw1 e5 rfl (by omega) ?_
    show AR E d _ (68, [some (vA x), some (vI w)], [], (C, N)) _
    refine AR.blk 1 (f' := (69, [some (vA x), some (vI w)], [vA x], (C, N))) (fun _ => rfl) ?_
    refine AR.getR rfl rfl hx.1 (by decide) rfl ?_
    refine AR.getI rfl rfl hx.2.2.2.2.2.2.1 (by decide) (v := F.2.2.2.2) hF.2.2.2.2 ?_
    exact AR.retI rfl (by unfold m_rf; omega) ⟨rfl, .inl rfl⟩ rfl
  refine AR.tswD rfl hsw1 (by omega) ?_
  show AR E d _ (76, [some (vA x), some (vI w)], [], (C, N)) _
  refine AR.blk 1 (f' := (78, [some (vA x), some (vI w)], [vI (-2)], (C, N))) (fun _ => rfl) ?_
  exact AR.retI rfl (by unfold m_rf; omega) ⟨rfl, .inl rfl⟩ rfl

theorem ev_X6_account {d : Nat} (hd : 3 ≤ d) (hx : g_isX C x) (hrB : g_rB N (x + 1 + 1) P n q p cl tn) (hrH : g_rH N (x + 1 + 7) H) (hrT : g_rT N (x + 1) t bg en ca gn pu mk) (hwB : g_wB P n q p cl tn) (hwH : g_wH H) (hwS : g_wS t bg en ca gn pu mk) {L u : Int} (hL : N (x + 146) 0 = L) (hu : N (x + 40) 2 = u) (w : Int) (h0 : ag_in w) : Ev E d 82 [vA x, vI w] (C, N) (some (vI (m_acc P n cl tn t bg en ca gn pu mk H L u w)), (C, N)) := by
  obtain ⟨d, rfl⟩ : ∃ j, d = j + 1 := ⟨d - 1, by omega⟩
  have s1 := hwS.1
  have s2 := hwS.2.1
  have s3 := hwS.2.2.1
  have s4 := hwS.2.2.2.1
  refine Ev.intro (M := ag_mX6_account) rfl rfl ?_
  show AR E d _ (0, [some (vA x), some (vI w)], [], (C, N)) _
  refine AR.blk 1 (f' := (1, [some (vA x), some (vI w)], [vI w], (C, N))) (fun _ => rfl) ?_
  have hsw1 : ag_in w := (by omega)
  by_cases e1 : w = 0
  · refine AR.tswA 0 rfl hsw1 e1 rfl (by omega) ?_
    show AR E d _ (84, [some (vA x), some (vI w)], [], (C, N)) _
    refine AR.blk 1 (f' := (85, [some (vA x), some (vI w)], [vA x], (C, N))) (fun _ => rfl) ?_
    refine AR.getR rfl rfl hx.1 (by decide) rfl ?_
    refine AR.getI rfl rfl hx.2.1.1 (by decide) (v := t) hrT.1.2.2.1 ?_
    exact AR.retI rfl (by unfold m_acc; omega) ⟨rfl, .inl rfl⟩ rfl
  by_cases e2 : w = 1
  · refine AR.tswA 1 rfl hsw1 e2 rfl (by omega) ?_
    show AR E d _ (92, [some (vA x), some (vI w)], [], (C, N)) _
    refine AR.blk 1 (f' := (93, [some (vA x), some (vI w)], [vA x], (C, N))) (fun _ => rfl) ?_
    refine AR.getR rfl rfl hx.1 (by decide) rfl ?_
    refine AR.callV [] (ev_X1_sideToMove (by omega) hx.2.1 hrB hrH hrT hwB hwH (by omega)  ) hx.2.1.1 rfl rfl rfl rfl rfl ?_
    show AR E d _ (99, [some (vA x), some (vI w)], [vI (t % 2)], (C, N)) _
    exact AR.retI rfl (by unfold m_acc; omega) ⟨rfl, .inl rfl⟩ rfl
  by_cases e3 : w = 2
  · refine AR.tswA 2 rfl hsw1 e3 rfl (by omega) ?_
    show AR E d _ (100, [some (vA x), some (vI w)], [], (C, N)) _
    refine AR.blk 1 (f' := (101, [some (vA x), some (vI w)], [vA x], (C, N))) (fun _ => rfl) ?_
    refine AR.getR rfl rfl hx.1 (by decide) rfl ?_
    refine AR.getI rfl rfl hx.2.1.1 (by decide) (v := t) hrT.1.2.2.1 ?_
    refine AR.blk 1 (f' := (108, [some (vA x), some (vI w)], [vI 4, vI t], (C, N))) (fun _ => rfl) ?_
    refine AR.idiv rfl (by omega) ?_
    exact AR.retI rfl (by unfold m_acc; omega) ⟨rfl, .inl rfl⟩ rfl
  by_cases e4 : w = 3
  · refine AR.tswA 3 rfl hsw1 e4 rfl (by omega) ?_
    show AR E d _ (110, [some (vA x), some (vI w)], [], (C, N)) _
    refine AR.blk 1 (f' := (111, [some (vA x), some (vI w)], [vA x], (C, N))) (fun _ => rfl) ?_
    refine AR.getR rfl rfl hx.1 (by decide) rfl ?_
    refine AR.callV [] (ev_X1_tide (by omega) hx.2.1 hrB hrH hrT hwB hwH (by omega)  ) hx.2.1.1 rfl rfl rfl rfl rfl ?_
    show AR E d _ (117, [some (vA x), some (vI w)], [vI (t / 4 % 4)], (C, N)) _
    exact AR.retI rfl (by unfold m_acc; omega) ⟨rfl, .inl rfl⟩ rfl
  by_cases e5 : w = 4
  · refine AR.tswA 4 rfl hsw1 e5 rfl (by omega) ?_
    show AR E d _ (118, [some (vA x), some (vI w)], [], (C, N)) _
    refine AR.blk 1 (f' := (119, [some (vA x), some (vI w)], [vA x], (C, N))) (fun _ => rfl) ?_
    refine AR.getR rfl rfl hx.1 (by decide) rfl ?_
    refine AR.getI rfl rfl hx.2.1.1 (by decide) (v := bg) hrT.1.1 ?_
    refine AR.if_eq rfl (by omega) (fun c6 => ?_) (fun c6 => ?_)
    · show AR E d _ (132, [some (vA x), some (vI w)], [], (C, N)) _
      refine AR.blk 1 (f' := (133, [some (vA x), some (vI w)], [vI 0], (C, N))) (fun _ => rfl) ?_
      exact AR.retI rfl (by unfold m_acc; omega) ⟨rfl, .inl rfl⟩ rfl
    · show AR E d _ (128, [some (vA x), some (vI w)], [], (C, N)) _
      refine AR.blk 2 (f' := (133, [some (vA x), some (vI w)], [vI 1], (C, N))) (fun _ => rfl) ?_
      exact AR.retI rfl (by unfold m_acc; omega) ⟨rfl, .inl rfl⟩ rfl
  by_cases e7 : w = 5
  · refine AR.tswA 5 rfl hsw1 e7 rfl (by omega) ?_
    show AR E d _ (134, [some (vA x), some (vI w)], [], (C, N)) _
    refine AR.blk 1 (f' := (135, [some (vA x), some (vI w)], [vA x], (C, N))) (fun _ => rfl) ?_
    refine AR.getR rfl rfl hx.1 (by decide) rfl ?_
    refine AR.getI rfl rfl hx.2.1.1 (by decide) (v := en) hrT.1.2.1 ?_
    exact AR.retI rfl (by unfold m_acc; omega) ⟨rfl, .inl rfl⟩ rfl
  by_cases e8 : w = 6
  · refine AR.tswA 6 rfl hsw1 e8 rfl (by omega) ?_
    show AR E d _ (142, [some (vA x), some (vI w)], [], (C, N)) _
    refine AR.blk 1 (f' := (143, [some (vA x), some (vI w)], [vA x], (C, N))) (fun _ => rfl) ?_
    refine AR.getR rfl rfl hx.1 (by decide) rfl ?_
    refine AR.getR rfl rfl hx.2.1.1 (by decide) rfl ?_
    refine AR.blk 1 (f' := (150, [some (vA x), some (vI w)], [vI 0, vA (x + 1 + 1)], (C, N))) (fun _ => rfl) ?_
    refine AR.callV [vI 0] (ev_X0_countOf (by omega) hx.2.1.2.1 hrB hwB 0 (by omega)) hx.2.1.2.1.1 rfl rfl rfl rfl rfl ?_
    show AR E d _ (153, [some (vA x), some (vI w)], [vI (m_cnt P 0)], (C, N)) _
    have f9 := m_cnt_in P 0
    refine AR.blk 1 (f' := (154, [some (vA x), some (vI w)], [vA x, vI (m_cnt P 0)], (C, N))) (fun _ => rfl) ?_
    refine AR.getR rfl rfl hx.1 (by decide) rfl ?_
    refine AR.getR rfl rfl hx.2.1.1 (by decide) rfl ?_
    refine AR.blk 1 (f' := (161, [some (vA x), some (vI w)], [vI 1, vA (x + 1 + 1), vI (m_cnt P 0)], (C, N))) (fun _ => rfl) ?_
    refine AR.callV [vI 1] (ev_X0_countOf (by omega) hx.2.1.2.1 hrB hwB 1 (by omega)) hx.2.1.2.1.1 rfl rfl rfl rfl rfl ?_
    show AR E d _ (164, [some (vA x), some (vI w)], [vI (m_cnt P 1), vI (m_cnt P 0)], (C, N)) _
    have f10 := m_cnt_in P 1
    refine AR.blk 1 (f' := (165, [some (vA x), some (vI w)], [vI ((m_cnt P 0) + (m_cnt P 1))], (C, N))) (fun _ => rfl) ?_
    exact AR.retI rfl (by unfold m_acc; omega) ⟨rfl, .inl rfl⟩ rfl
  by_cases e11 : w = 7
  · refine AR.tswA 7 rfl hsw1 e11 rfl (by omega) ?_
    show AR E d _ (166, [some (vA x), some (vI w)], [], (C, N)) _
    refine AR.blk 1 (f' := (167, [some (vA x), some (vI w)], [vA x], (C, N))) (fun _ => rfl) ?_
    refine AR.getR rfl rfl hx.1 (by decide) rfl ?_
    refine AR.getR rfl rfl hx.2.1.1 (by decide) rfl ?_
    have f12 := hwB.2.2.1
    refine AR.getI rfl rfl hx.2.1.2.1.1 (by decide) (v := n) hrB.2.1 ?_
    exact AR.retI rfl (by unfold m_acc; omega) ⟨rfl, .inl rfl⟩ rfl
  by_cases e13 : w = 8
  · refine AR.tswA 8 rfl hsw1 e13 rfl (by omega) ?_
    show AR E d _ (177, [some (vA x), some (vI w)], [], (C, N)) _
    refine AR.blk 1 (f' := (178, [some (vA x), some (vI w)], [vA x], (C, N))) (fun _ => rfl) ?_
    refine AR.getR rfl rfl hx.1 (by decide) rfl ?_
    refine AR.getR rfl rfl hx.2.1.1 (by decide) rfl ?_
    refine AR.callV [] (ev_X0_closedLocks (by omega) hx.2.1.2.1 hrB hwB  ) hx.2.1.2.1.1 rfl rfl rfl rfl rfl ?_
    show AR E d _ (187, [some (vA x), some (vI w)], [vI (cl 0 + cl 1 + cl 2 + cl 3)], (C, N)) _
    have f14 := hwB.2.2.2.2.1 0
    have f15 := hwB.2.2.2.2.1 1
    have f16 := hwB.2.2.2.2.1 2
    have f17 := hwB.2.2.2.2.1 3
    exact AR.retI rfl (by unfold m_acc; omega) ⟨rfl, .inl rfl⟩ rfl
  by_cases e18 : w = 9
  · refine AR.tswA 9 rfl hsw1 e18 rfl (by omega) ?_
    show AR E d _ (188, [some (vA x), some (vI w)], [], (C, N)) _
    refine AR.blk 1 (f' := (189, [some (vA x), some (vI w)], [vA x], (C, N))) (fun _ => rfl) ?_
    refine AR.getR rfl rfl hx.1 (by decide) rfl ?_
    refine AR.getR rfl rfl hx.2.1.1 (by decide) rfl ?_
    refine AR.blk 1 (f' := (196, [some (vA x), some (vI w)], [vI 0, vA (x + 1 + 10)], (C, N))) (fun _ => rfl) ?_
    have f19 := hwS.2.2.2.2.1 0
    refine AR.iald rfl hx.2.1.2.2.2.1 (by omega) (v := gn 0) (hrT.2 _ (by omega) (by omega)).1 ?_
    refine AR.blk 1 (f' := (198, [some (vA x), some (vI w)], [vA x, vI (gn 0)], (C, N))) (fun _ => rfl) ?_
    refine AR.getR rfl rfl hx.1 (by decide) rfl ?_
    refine AR.getR rfl rfl hx.2.1.1 (by decide) rfl ?_
    refine AR.blk 1 (f' := (205, [some (vA x), some (vI w)], [vI 1, vA (x + 1 + 10), vI (gn 0)], (C, N))) (fun _ => rfl) ?_
    have f20 := hwS.2.2.2.2.1 1
    refine AR.iald rfl hx.2.1.2.2.2.1 (by omega) (v := gn 1) (hrT.2 _ (by omega) (by omega)).1 ?_
    refine AR.blk 1 (f' := (207, [some (vA x), some (vI w)], [vI ((gn 0) + (gn 1))], (C, N))) (fun _ => rfl) ?_
    exact AR.retI rfl (by unfold m_acc; omega) ⟨rfl, .inl rfl⟩ rfl
  by_cases e21 : w = 10
  · refine AR.tswA 10 rfl hsw1 e21 rfl (by omega) ?_
    show AR E d _ (208, [some (vA x), some (vI w)], [], (C, N)) _
    refine AR.blk 1 (f' := (209, [some (vA x), some (vI w)], [vA x], (C, N))) (fun _ => rfl) ?_
    refine AR.getR rfl rfl hx.1 (by decide) rfl ?_
    refine AR.getR rfl rfl hx.2.1.1 (by decide) rfl ?_
    refine AR.blk 1 (f' := (216, [some (vA x), some (vI w)], [vI 0, vA (x + 1 + 11)], (C, N))) (fun _ => rfl) ?_
    have f22 := hwS.2.2.2.2.1 0
    refine AR.iald rfl hx.2.1.2.2.2.2.1 (by omega) (v := pu 0) (hrT.2 _ (by omega) (by omega)).2.1 ?_
    refine AR.blk 1 (f' := (218, [some (vA x), some (vI w)], [vA x, vI (pu 0)], (C, N))) (fun _ => rfl) ?_
    refine AR.getR rfl rfl hx.1 (by decide) rfl ?_
    refine AR.getR rfl rfl hx.2.1.1 (by decide) rfl ?_
    refine AR.blk 1 (f' := (225, [some (vA x), some (vI w)], [vI 1, vA (x + 1 + 11), vI (pu 0)], (C, N))) (fun _ => rfl) ?_
    have f23 := hwS.2.2.2.2.1 1
    refine AR.iald rfl hx.2.1.2.2.2.2.1 (by omega) (v := pu 1) (hrT.2 _ (by omega) (by omega)).2.1 ?_
    refine AR.blk 1 (f' := (227, [some (vA x), some (vI w)], [vI ((pu 0) + (pu 1))], (C, N))) (fun _ => rfl) ?_
    exact AR.retI rfl (by unfold m_acc; omega) ⟨rfl, .inl rfl⟩ rfl
  by_cases e24 : w = 11
  · refine AR.tswA 11 rfl hsw1 e24 rfl (by omega) ?_
    show AR E d _ (228, [some (vA x), some (vI w)], [], (C, N)) _
    refine AR.blk 1 (f' := (229, [some (vA x), some (vI w)], [vA x], (C, N))) (fun _ => rfl) ?_
    refine AR.getR rfl rfl hx.1 (by decide) rfl ?_
    refine AR.getR rfl rfl hx.2.1.1 (by decide) rfl ?_
    refine AR.blk 1 (f' := (236, [some (vA x), some (vI w)], [vI 0, vA (x + 1 + 12)], (C, N))) (fun _ => rfl) ?_
    have f25 := hwS.2.2.2.2.1 0
    refine AR.iald rfl hx.2.1.2.2.2.2.2 (by omega) (v := mk 0) (hrT.2 _ (by omega) (by omega)).2.2 ?_
    refine AR.blk 1 (f' := (238, [some (vA x), some (vI w)], [vA x, vI (mk 0)], (C, N))) (fun _ => rfl) ?_
    refine AR.getR rfl rfl hx.1 (by decide) rfl ?_
    refine AR.getR rfl rfl hx.2.1.1 (by decide) rfl ?_
    refine AR.blk 1 (f' := (245, [some (vA x), some (vI w)], [vI 1, vA (x + 1 + 12), vI (mk 0)], (C, N))) (fun _ => rfl) ?_
    have f26 := hwS.2.2.2.2.1 1
    refine AR.iald rfl hx.2.1.2.2.2.2.2 (by omega) (v := mk 1) (hrT.2 _ (by omega) (by omega)).2.2 ?_
    refine AR.blk 1 (f' := (247, [some (vA x), some (vI w)], [vI ((mk 0) + (mk 1))], (C, N))) (fun _ => rfl) ?_
    exact AR.retI rfl (by unfold m_acc; omega) ⟨rfl, .inl rfl⟩ rfl
  by_cases e27 : w = 12
  · refine AR.tswA 12 rfl hsw1 e27 rfl (by omega) ?_
    show AR E d _ (248, [some (vA x), some (vI w)], [], (C, N)) _
    refine AR.blk 1 (f' := (249, [some (vA x), some (vI w)], [vA x], (C, N))) (fun _ => rfl) ?_
    refine AR.getR rfl rfl hx.1 (by decide) rfl ?_
    refine AR.getI rfl rfl hx.2.1.1 (by decide) (v := ca) hrT.1.2.2.2 ?_
    exact AR.retI rfl (by unfold m_acc; omega) ⟨rfl, .inl rfl⟩ rfl
  by_cases e28 : w = 13
  · refine AR.tswA 13 rfl hsw1 e28 rfl (by omega) ?_
    show AR E d _ (256, [some (vA x), some (vI w)], [], (C, N)) _
    refine AR.blk 1 (f' := (257, [some (vA x), some (vI w)], [vA x], (C, N))) (fun _ => rfl) ?_
    refine AR.getR rfl rfl hx.1 (by decide) rfl ?_
    refine AR.getR rfl rfl hx.2.1.1 (by decide) rfl ?_
    refine AR.callV [] (ev_X0_allLockTurns (by omega) hx.2.1.2.1 hrB hwB  ) hx.2.1.2.1.1 rfl rfl rfl rfl rfl ?_
    show AR E d _ (266, [some (vA x), some (vI w)], [vI (tn 0 + tn 1 + tn 2 + tn 3)], (C, N)) _
    have f29 := hwB.2.2.2.2.1 0
    have f30 := hwB.2.2.2.2.1 1
    have f31 := hwB.2.2.2.2.1 2
    have f32 := hwB.2.2.2.2.1 3
    exact AR.retI rfl (by unfold m_acc; omega) ⟨rfl, .inl rfl⟩ rfl
  by_cases e33 : w = 14
  · refine AR.tswA 14 rfl hsw1 e33 rfl (by omega) ?_
    show AR E d _ (267, [some (vA x), some (vI w)], [], (C, N)) _
    refine AR.blk 1 (f' := (268, [some (vA x), some (vI w)], [vA x], (C, N))) (fun _ => rfl) ?_
    refine AR.getR rfl rfl hx.1 (by decide) rfl ?_
    refine AR.getR rfl rfl hx.2.1.1 (by decide) rfl ?_
    refine AR.callV [] (ev_X2_different (by omega) hx.2.1.2.2.1 hrH hwH  ) hx.2.1.2.2.1.1 rfl rfl rfl rfl rfl ?_
    show AR E d _ (277, [some (vA x), some (vI w)], [vI (m_diff H)], (C, N)) _
    have f34 := m_diff_in H
    have f35 := hwH.1
    exact AR.retI rfl (by unfold m_acc; omega) ⟨rfl, .inl rfl⟩ rfl
  by_cases e36 : w = 15
  · refine AR.tswA 15 rfl hsw1 e36 rfl (by omega) ?_
    show AR E d _ (278, [some (vA x), some (vI w)], [], (C, N)) _
    refine AR.blk 1 (f' := (279, [some (vA x), some (vI w)], [vA x], (C, N))) (fun _ => rfl) ?_
    refine AR.getR rfl rfl hx.1 (by decide) rfl ?_
    refine AR.getI rfl rfl hx.2.2.2.2.2.1.1 (by decide) (v := L) hL ?_
    exact AR.retI rfl (by unfold m_acc; omega) ⟨rfl, .inl rfl⟩ rfl
  by_cases e37 : w = 16
  · refine AR.tswA 16 rfl hsw1 e37 rfl (by omega) ?_
    show AR E d _ (286, [some (vA x), some (vI w)], [], (C, N)) _
    refine AR.blk 1 (f' := (287, [some (vA x), some (vI w)], [vA x], (C, N))) (fun _ => rfl) ?_
    refine AR.getR rfl rfl hx.1 (by decide) rfl ?_
    refine AR.getI rfl rfl hx.2.2.2.2.1.1 (by decide) (v := u) hu ?_
    exact AR.retI rfl (by unfold m_acc; omega) ⟨rfl, .inl rfl⟩ rfl
  refine AR.tswD rfl hsw1 (by omega) ?_
  show AR E d _ (294, [some (vA x), some (vI w)], [], (C, N)) _
  refine AR.blk 1 (f' := (296, [some (vA x), some (vI w)], [vI (-2)], (C, N))) (fun _ => rfl) ?_
  exact AR.retI rfl (by unfold m_acc; omega) ⟨rfl, .inl rfl⟩ rfl
end L2z
