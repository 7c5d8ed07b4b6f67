/-! LEVEL 2: the model: movesAgain, tideIn -/
section L2s
variable {E : Nat × (Int → Int)} {C : List ag_C} {N : Nat → Int → Int} {m : Nat} {P : Int → Int} {n : Int} {q p cl tn : Int → Int} {t bg en ca : Int} {gn pu mk : Int → Int}
theorem m_agn_in (P : Int → Int) (n : Int) (q cl : Int → Int) (t bg en x : Int) : 0 ≤ m_agn P n q cl t bg en x ∧ m_agn P n q cl t bg en x ≤ 36 := m_sum_b _ (fun s => by have := m_open_in P n q cl t bg en (4 * s + x); omega) 36

theorem ev_X7_movesAgain {d : Nat} (hd : 6 ≤ d) (hm : g_isM C m) (hr : g_rR (N (m + 1)) P n q p cl tn) (hw : g_wB P n q p cl tn) (hs : g_rS (N (m + 1)) t bg en ca gn pu mk) (hv : g_wS t bg en ca gn pu mk) : Ev E d 146 [vA m] (C, N) (some (vI (m_sum (m_agn P n q cl t bg en) 4)), (C, N)) := by
  obtain ⟨d, rfl⟩ : ∃ j, d = j + 1 := ⟨d - 1, by omega⟩
  refine Ev.intro (M := ag_mX7_movesAgain) rfl rfl ?_
  show AR E d _ (0, [some (vA m), none, none, none], [], (C, N)) _
  refine AR.blk 4 (f' := (4, [some (vA m), some (vI 0), some (vI 0), none], [], (C, N))) (fun _ => rfl) ?_
  suffices H4 : ∀ (j : Nat) (c : Int) (x : Int) (z3 : Option av), (4 - x).toNat < j → (0 ≤ x ∧ x ≤ 4) → (c = m_sum (m_agn P n q cl t bg en) x.toNat) → AR E d ag_mX7_movesAgain (4, [some (vA m), some (vI c), some (vI x), z3], [], (C, N)) (fun o_ => o_ = (some (vI (m_sum (m_agn P n q cl t bg en) 4)), (C, N))) by
    exact H4 _ _ _ _ (Nat.lt_succ_self _) (by omega) rfl
  intro j
  induction j with
  | zero => intro c x z3 hj; exact absurd hj (Nat.not_lt_zero _)
  | succ j ih4 =>
    intro c x z3 hj4 i0 i1
    refine AR.blk 2 (f' := (6, [some (vA m), some (vI c), some (vI x), z3], [vI 4, vI x], (C, N))) (fun _ => rfl) ?_
    refine AR.ic_ge rfl (by omega) (fun c1 => ?_) (fun c1 => ?_)
    · show AR E d _ (46, [some (vA m), some (vI c), some (vI x), z3], [], (C, N)) _
      refine AR.blk 1 (f' := (47, [some (vA m), some (vI c), some (vI x), z3], [vI c], (C, N))) (fun _ => rfl) ?_
      exact AR.retI rfl (by rw [i1, show x = 4 by omega]; rfl) ⟨rfl, .inl rfl⟩ rfl
    · show AR E d _ (9, [some (vA m), some (vI c), some (vI x), z3], [], (C, N)) _
      refine AR.blk 2 (f' := (11, [some (vA m), some (vI c), some (vI x), some (vI 0)], [], (C, N))) (fun _ => rfl) ?_
      suffices H11 : ∀ (j : Nat) (cc : Int) (s : Int), (36 - s).toNat < j → (0 ≤ s ∧ s ≤ 36) → (cc = c + m_sum (fun s => m_open P n q cl t bg en (4 * s + x)) s.toNat) → AR E d ag_mX7_movesAgain (11, [some (vA m), some (vI cc), some (vI x), some (vI s)], [], (C, N)) (fun o_ => o_ = (some (vI (m_sum (m_agn P n q cl t bg en) 4)), (C, N))) by
        exact H11 _ _ _ (Nat.lt_succ_self _) (by omega) (Int.add_zero c).symm
      intro j
      induction j with
      | zero => intro cc s hj; exact absurd hj (Nat.not_lt_zero _)
      | succ j ih11 =>
        intro cc s hj11 j0 j1
        refine AR.blk 2 (f' := (14, [some (vA m), some (vI cc), some (vI x), some (vI s)], [vI 36, vI s], (C, N))) (fun _ => rfl) ?_
        refine AR.ic_ge rfl (by omega) (fun c2 => ?_) (fun c2 => ?_)
        · show AR E d _ (40, [some (vA m), some (vI cc), some (vI x), some (vI s)], [], (C, N)) _
          refine AR.blk 2 (f' := (4, [some (vA m), some (vI cc), some (vI (x + 1)), some (vI s)], [], (C, N))) (fun _ => rfl) ?_
          exact ih4 _ _ _ (by omega) (by omega) (by rw [m_sum_succ _ (by omega), ← i1, j1, show s = 36 by omega]; rfl)
        · show AR E d _ (17, [some (vA m), some (vI cc), some (vI x), some (vI s)], [], (C, N)) _
          refine AR.blk 4 (f' := (21, [some (vA m), some (vI cc), some (vI x), some (vI s)], [vI x, vI s, vA m, vI cc], (C, N))) (fun _ => rfl) ?_
          refine AR.callV [vI s, vI x] (ev_X7_isMove (by omega) hm hr hw hs hv s x (by omega) (by omega)) hm.1 rfl rfl rfl rfl rfl ?_
          show AR E d _ (24, [some (vA m), some (vI cc), some (vI x), some (vI s)], [vI (m_open P n q cl t bg en (4 * s + x)), vI cc], (C, N)) _
          have f3 := m_open_in P n q cl t bg en (4 * s + x)
          refine AR.if_eq rfl (by omega) (fun c4 => ?_) (fun c4 => ?_)
          · show AR E d _ (31, [some (vA m), some (vI cc), some (vI x), some (vI s)], [vI cc], (C, N)) _
            refine AR.blk 5 (f' := (11, [some (vA m), some (vI (cc + 0)), some (vI x), some (vI (s + 1))], [], (C, N))) (fun _ => rfl) ?_
            exact ih11 _ _ (by omega) (by omega) (by rw [m_sum_succ _ (by omega)]; omega)
          · show AR E d _ (27, [some (vA m), some (vI cc), some (vI x), some (vI s)], [vI cc], (C, N)) _
            refine AR.blk 6 (f' := (11, [some (vA m), some (vI (cc + 1)), some (vI x), some (vI (s + 1))], [], (C, N))) (fun _ => rfl) ?_
            exact ih11 _ _ (by omega) (by omega) (by rw [m_sum_succ _ (by omega)]; omega)

theorem ev_X7_tideIn {d : Nat} (hd : 2 ≤ d) (hm : g_isM C m) (hr : g_rR (N (m + 1)) P n q p cl tn) (hw : g_wB P n q p cl tn) (hs : g_rS (N (m + 1)) t bg en ca gn pu mk) (hv : g_wS t bg en ca gn pu mk) (x : Int) (h0 : ag_in x) : Ev E d 155 [vA m, vI x] (C, N) (some (vI (m_tdi t x)), (C, N)) := by
  obtain ⟨d, rfl⟩ : ∃ j, d = j + 1 := ⟨d - 1, by omega⟩
  refine Ev.intro (M := ag_mX7_tideIn) rfl rfl ?_
  show AR E d _ (0, [some (vA m), some (vI x), none, none], [], (C, N)) _
  refine AR.blk 3 (f' := (3, [some (vA m), some (vI x), none, none], [vI 3, vI 0, vI x], (C, N))) (fun _ => rfl) ?_
  refine AR.callS [vI x, vI 0, vI 3] (ev_X7_in (by omega) x 0 3 (by omega)) rfl rfl rfl rfl rfl ?_
  show AR E d _ (6, [some (vA m), some (vI x), none, none], [vI (if 0 ≤ x ∧ x ≤ 3 then 1 else 0)], (C, N)) _
  refine AR.if_ne rfl (by omega) (fun c1 => ?_) (fun c1 => ?_)
  · show AR E d _ (11, [some (vA m), some (vI x), none, none], [], (C, N)) _
    refine AR.blk 1 (f' := (12, [some (vA m), some (vI x), none, none], [vA m], (C, N))) (fun _ => rfl) ?_
    refine AR.getR rfl rfl hm.1 (by decide) rfl ?_
    refine AR.blk 1 (f' := (16, [some (vA m), some (vI x), none, none], [vI 2, vA (m + 1)], (C, N))) (fun _ => rfl) ?_
    have f2 := hv.1
    have f3 := hv.2.1
    have f4 := hv.2.2.1
    have f5 := hv.2.2.2.1
    refine AR.iald rfl hm.2.1 (by omega) (v := t / 4) hs.2.2.1 ?_
    refine AR.blk 3 (f' := (20, [some (vA m), some (vI x), some (vI (t / 4)), some (vI 0)], [], (C, N))) (fun _ => rfl) ?_
    suffices H20 : ∀ (j : Nat) (ho : Int) (k : Int), (20 - k).toNat < j → (0 ≤ k ∧ k < m_tdi t x ∧ k < 17) → (ho = (t + k) / 4) → AR E d ag_mX7_tideIn (20, [some (vA m), some (vI x), some (vI ho), some (vI k)], [], (C, N)) (fun o_ => o_ = (some (vI (m_tdi t x)), (C, N))) by
      exact H20 _ _ _ (Nat.lt_succ_self _) (by unfold m_tdi; omega) (by omega)
    intro j
    induction j with
    | zero => intro ho k hj; exact absurd hj (Nat.not_lt_zero _)
    | succ j ih20 =>
      intro ho k hj20 i0 i1
      refine AR.blk 3 (f' := (25, [some (vA m), some (vI x), some (vI ho), some (vI (k + 1))], [vA m, vI ho], (C, N))) (fun _ => rfl) ?_
      refine AR.getR rfl rfl hm.1 (by decide) rfl ?_
      refine AR.blk 1 (f' := (29, [some (vA m), some (vI x), some (vI ho), some (vI (k + 1))], [vI 0, vA (m + 1), vI ho], (C, N))) (fun _ => rfl) ?_
      have f6 := hv.1
      have f7 := hv.2.1
      have f8 := hv.2.2.1
      have f9 := hv.2.2.2.1
      refine AR.iald rfl hm.2.1 (by omega) (v := t) hs.1 ?_
      refine AR.blk 3 (f' := (33, [some (vA m), some (vI x), some (vI ho), some (vI (k + 1))], [vI 4, vI (t + (k + 1)), vI ho], (C, N))) (fun _ => rfl) ?_
      refine AR.irem rfl (by omega) ?_
      refine AR.if_ne rfl (by omega) (fun c10 => ?_) (fun c10 => ?_)
      · show AR E d _ (41, [some (vA m), some (vI x), some (vI ho), some (vI (k + 1))], [vI ho], (C, N)) _
        refine AR.blk 4 (f' := (45, [some (vA m), some (vI x), some (vI (ho + 0)), some (vI (k + 1))], [vA m], (C, N))) (fun _ => rfl) ?_
        refine AR.getR rfl rfl hm.1 (by decide) rfl ?_
        refine AR.blk 1 (f' := (49, [some (vA m), some (vI x), some (vI (ho + 0)), some (vI (k + 1))], [vI 0, vA (m + 1)], (C, N))) (fun _ => rfl) ?_
        have f11 := hv.1
        have f12 := hv.2.1
        have f13 := hv.2.2.1
        have f14 := hv.2.2.2.1
        refine AR.iald rfl hm.2.1 (by omega) (v := t) hs.1 ?_
        refine AR.blk 3 (f' := (53, [some (vA m), some (vI x), some (vI (ho + 0)), some (vI (k + 1))], [vI 4, vI (t + (k + 1))], (C, N))) (fun _ => rfl) ?_
        refine AR.irem rfl (by omega) ?_
        refine AR.if_gt rfl (by omega) (fun c15 => ?_) (fun c15 => ?_)
        · show AR E d _ (20, [some (vA m), some (vI x), some (vI (ho + 0)), some (vI (k + 1))], [], (C, N)) _
          exact ih20 _ _ (by omega) (by unfold m_tdi at *; omega) (by omega)
        · show AR E d _ (57, [some (vA m), some (vI x), some (vI (ho + 0)), some (vI (k + 1))], [], (C, N)) _
          refine AR.blk 2 (f' := (59, [some (vA m), some (vI x), some (vI (ho + 0)), some (vI (k + 1))], [vI 4, vI (ho + 0)], (C, N))) (fun _ => rfl) ?_
          refine AR.irem rfl (by omega) ?_
          refine AR.blk 1 (f' := (61, [some (vA m), some (vI x), some (vI (ho + 0)), some (vI (k + 1))], [vI x, vI ((ho + 0) % 4)], (C, N))) (fun _ => rfl) ?_
          refine AR.ic_ne rfl (by omega) (fun c16 => ?_) (fun c16 => ?_)
          · show AR E d _ (20, [some (vA m), some (vI x), some (vI (ho + 0)), some (vI (k + 1))], [], (C, N)) _
            exact ih20 _ _ (by omega) (by unfold m_tdi at *; omega) (by omega)
          · show AR E d _ (64, [some (vA m), some (vI x), some (vI (ho + 0)), some (vI (k + 1))], [], (C, N)) _
            refine AR.blk 1 (f' := (65, [some (vA m), some (vI x), some (vI (ho + 0)), some (vI (k + 1))], [vI (k + 1)], (C, N))) (fun _ => rfl) ?_
            exact AR.retI rfl (by unfold m_tdi at *; omega) ⟨rfl, .inl rfl⟩ rfl
      · show AR E d _ (37, [some (vA m), some (vI x), some (vI ho), some (vI (k + 1))], [vI ho], (C, N)) _
        refine AR.blk 5 (f' := (45, [some (vA m), some (vI x), some (vI (ho + 1)), some (vI (k + 1))], [vA m], (C, N))) (fun _ => rfl) ?_
        refine AR.getR rfl rfl hm.1 (by decide) rfl ?_
        refine AR.blk 1 (f' := (49, [some (vA m), some (vI x), some (vI (ho + 1)), some (vI (k + 1))], [vI 0, vA (m + 1)], (C, N))) (fun _ => rfl) ?_
        have f17 := hv.1
        have f18 := hv.2.1
        have f19 := hv.2.2.1
        have f20 := hv.2.2.2.1
        refine AR.iald rfl hm.2.1 (by omega) (v := t) hs.1 ?_
        refine AR.blk 3 (f' := (53, [some (vA m), some (vI x), some (vI (ho + 1)), some (vI (k + 1))], [vI 4, vI (t + (k + 1))], (C, N))) (fun _ => rfl) ?_
        refine AR.irem rfl (by omega) ?_
        refine AR.if_gt rfl (by omega) (fun c21 => ?_) (fun c21 => ?_)
        · show AR E d _ (20, [some (vA m), some (vI x), some (vI (ho + 1)), some (vI (k + 1))], [], (C, N)) _
          exact ih20 _ _ (by omega) (by unfold m_tdi at *; omega) (by omega)
        · show AR E d _ (57, [some (vA m), some (vI x), some (vI (ho + 1)), some (vI (k + 1))], [], (C, N)) _
          refine AR.blk 2 (f' := (59, [some (vA m), some (vI x), some (vI (ho + 1)), some (vI (k + 1))], [vI 4, vI (ho + 1)], (C, N))) (fun _ => rfl) ?_
          refine AR.irem rfl (by omega) ?_
          refine AR.blk 1 (f' := (61, [some (vA m), some (vI x), some (vI (ho + 1)), some (vI (k + 1))], [vI x, vI ((ho + 1) % 4)], (C, N))) (fun _ => rfl) ?_
          refine AR.ic_ne rfl (by omega) (fun c22 => ?_) (fun c22 => ?_)
          · show AR E d _ (20, [some (vA m), some (vI x), some (vI (ho + 1)), some (vI (k + 1))], [], (C, N)) _
            exact ih20 _ _ (by omega) (by unfold m_tdi at *; omega) (by omega)
          · show AR E d _ (64, [some (vA m), some (vI x), some (vI (ho + 1)), some (vI (k + 1))], [], (C, N)) _
            refine AR.blk 1 (f' := (65, [some (vA m), some (vI x), some (vI (ho + 1)), some (vI (k + 1))], [vI (k + 1)], (C, N))) (fun _ => rfl) ?_
            exact AR.retI rfl (by unfold m_tdi at *; omega) ⟨rfl, .inl rfl⟩ rfl
  · show AR E d _ (9, [some (vA m), some (vI x), none, none], [], (C, N)) _
    refine AR.blk 1 (f' := (10, [some (vA m), some (vI x), none, none], [vI (-1)], (C, N))) (fun _ => rfl) ?_
    exact AR.retI rfl (by unfold m_tdi at *; omega) ⟨rfl, .inl rfl⟩ rfl
end L2s
