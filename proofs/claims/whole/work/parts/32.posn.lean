/-! LEVEL 2: the model's list of positions -/
theorem m_rest_in (cl : Int → Int) (w : Int) (h : ∀ k, cl k = 0 ∨ cl k = 1) (hw : 0 ≤ w ∧ w < 2) : 0 ≤ m_rest cl w ∧ m_rest cl w < 32 := by
  have h0 := h 0
  have h1 := h 1
  have h2 := h 2
  have h3 := h 3
  unfold m_rest
  omega
theorem m_bp_in (P : Int → Int) (h : ∀ s, -1 ≤ P s ∧ P s ≤ 3) (w : Int) : 0 ≤ m_bp P w ∧ m_bp P w < 1073741824 := by
  unfold m_bp
  have h4 : (8 : Nat) ^ (if w = 3 then 6 else 10) ≤ 8 ^ 10 := Nat.pow_le_pow_right (by omega) (by split <;> omega)
  have h5 : (8 : Nat) ^ 10 = 1073741824 := by decide
  have h1 := m_pr_in P h (10 * w) (if w = 3 then 6 else 10)
  omega
def m_add (x : Int × Int) : List ((Int × Int) × Int) → List ((Int × Int) × Int)
  | [] => [(x, 1)]
  | y :: r => if y.1.1 = x.1 ∧ y.1.2 = x.2 then (y.1, y.2 + 1) :: r else y :: m_add x r
def m_D : List (Int × Int) → List ((Int × Int) × Int)
  | [] => []
  | x :: r => m_add x (m_D r)
def m_ix (x : Int × Int) : List ((Int × Int) × Int) → Nat
  | [] => 0
  | y :: r => if y.1.1 = x.1 ∧ y.1.2 = x.2 then 0 else m_ix x r + 1
theorem m_ix_le (x : Int × Int) : ∀ D, m_ix x D ≤ D.length := by
  intro D
  induction D with
  | nil => exact Nat.le_refl 0
  | cons y r ih =>
    unfold m_ix
    split
    · omega
    · rw [List.length_cons]; omega
def g_ent (R : Int → Int) (a : Int) (y : (Int × Int) × Int) : Prop := R (a + 5) = y.2 ∧ ∃ P c w, m_vp P c w ∧ y.1 = m_key P c w ∧ (∀ k, 0 ≤ k → k < 4 → R (a + k) = m_bp P k) ∧ R (a + 4) = m_rest c w
def g_rD (R : Int → Int) (D : List ((Int × Int) × Int)) : Prop := R 67 = D.length ∧ ∀ (i : Nat) y, D[i]? = some y → g_ent R (68 + 6 * i) y
theorem g_rD_at {R : Int → Int} {D : List ((Int × Int) × Int)} (h : g_rD R D) (k : Int) : ∃ P c w z, (0 ≤ k ∧ k < D.length → m_vp P c w ∧ R (68 + 6 * k + 5) = z ∧ (∀ j, 0 ≤ j → j < 4 → R (68 + 6 * k + j) = m_bp P j) ∧ R (68 + 6 * k + 4) = m_rest c w ∧ D.drop k.toNat = (m_key P c w, z) :: D.drop (k + 1).toNat ∧ (0 ≤ m_rest c w ∧ m_rest c w < 32) ∧ (∀ j, 0 ≤ m_bp P j ∧ m_bp P j < 1073741824)) := by
  by_cases q : 0 ≤ k ∧ k < D.length
  · have h1 : k.toNat < D.length := by omega
    obtain ⟨e1, P, c, w, hv, e2, e3, e4⟩ := h.2 k.toNat _ (List.getElem?_eq_getElem h1)
    rw [show ((k.toNat : Nat) : Int) = k by omega] at e1 e3 e4
    refine ⟨P, c, w, _, fun _ => ⟨hv, e1, e3, e4, ?_, m_rest_in c w hv.2.1 hv.2.2, fun j => m_bp_in P hv.1 j⟩⟩
    rw [show (k + 1).toNat = k.toNat + 1 by omega, ← e2]
    exact List.drop_eq_getElem_cons h1
  · exact ⟨fun _ => 0, fun _ => 0, 0, 0, fun z => absurd z q⟩
theorem m_ix_hit {D : List ((Int × Int) × Int)} {P c : Int → Int} {w : Int} {P9 cl9 : Int → Int} {ww9 z k : Int} {r : Int} (hd : D.drop k.toNat = (m_key P9 cl9 ww9, z) :: D.drop (k + 1).toNat) (h : m_vp P c w) (h9 : m_vp P9 cl9 ww9) (i1 : r = k + (m_ix (m_key P c w) (D.drop k.toNat) : Int)) : (((m_bp P9 0 = m_bp P 0 ∧ m_bp P9 1 = m_bp P 1 ∧ m_bp P9 2 = m_bp P 2 ∧ m_bp P9 3 = m_bp P 3) ∧ m_rest cl9 ww9 = m_rest c w) → k = r) ∧ (¬ ((m_bp P9 0 = m_bp P 0 ∧ m_bp P9 1 = m_bp P 1 ∧ m_bp P9 2 = m_bp P 2 ∧ m_bp P9 3 = m_bp P 3) ∧ m_rest cl9 ww9 = m_rest c w) → r = (k + 1) + (m_ix (m_key P c w) (D.drop (k + 1).toNat) : Int)) := by
  rw [hd] at i1
  have e := m_keys h9 h
  refine ⟨fun q => ?_, fun q => ?_⟩
  · rw [show m_ix (m_key P c w) ((m_key P9 cl9 ww9, z) :: D.drop (k + 1).toNat) = 0 from if_pos (e.2 q)] at i1
    omega
  · rw [show m_ix (m_key P c w) ((m_key P9 cl9 ww9, z) :: D.drop (k + 1).toNat) = m_ix (m_key P c w) (D.drop (k + 1).toNat) + 1 from if_neg (fun x => q (e.1 x))] at i1
    omega
section L2k
variable {E : Nat × (Int → Int)} {C : List ag_C} {N : Nat → Int → Int} {m : Nat} {P : Int → Int} {n : Int} {q p cl tn : Int → Int} {t bg en ca : Int} {gn pu mk : Int → Int} {D : List ((Int × Int) × Int)}

theorem ev_X7_position {d : Nat} (hd : 3 ≤ d) (hm : g_isM C m) (hr : g_rR (N (m + 1)) P n q p cl tn) (hw : g_wB P n q p cl tn) (hs : g_rS (N (m + 1)) t bg en ca gn pu mk) (hv : g_wS t bg en ca gn pu mk) (hD : g_rD (N (m + 1)) D) (hDl : D.length ≤ 121) : Ev E d 136 [vA m] (C, N) (some (vI (m_ix (m_key P cl (t % 2)) D : Int)), (C, N)) := by
  obtain ⟨d, rfl⟩ : ∃ j, d = j + 1 := ⟨d - 1, by omega⟩
  have y0 := hw.2.2.1
  have y1 := hv.1
  have hvp : m_vp P cl (t % 2) := ⟨hw.1, fun k => (hw.2.2.2.2.1 k).1, by omega⟩
  refine Ev.intro (M := ag_mX7_position) rfl rfl ?_
  show AR E d _ (0, [some (vA m), none, none, none, none], [], (C, N)) _
  refine AR.blk 2 (f' := (2, [some (vA m), some (vI 0), none, none, none], [], (C, N))) (fun _ => rfl) ?_
  suffices H2 : ∀ (j : Nat) (k : Int) (z2 : Option av) (z3 : Option av) (z4 : Option av), ((D.length : Int) - k).toNat < j → (0 ≤ k ∧ k ≤ D.length) → ((m_ix (m_key P cl (t % 2)) D : Int) = k + (m_ix (m_key P cl (t % 2)) (D.drop k.toNat) : Int)) → AR E d ag_mX7_position (2, [some (vA m), some (vI k), z2, z3, z4], [], (C, N)) (fun o_ => o_ = (some (vI (m_ix (m_key P cl (t % 2)) D : Int)), (C, N))) by
    exact H2 _ _ _ _ _ (Nat.lt_succ_self _) (by omega) (by rw [show (0 : Int).toNat = 0 by rfl, List.drop_zero]; omega)
  intro j
  induction j with
  | zero => intro k z2 z3 z4 hj; exact absurd hj (Nat.not_lt_zero _)
  | succ j ih2 =>
    intro k z2 z3 z4 hj2 i0 i1
    obtain ⟨P9, cl9, ww9, z8, z9⟩ := g_rD_at hD k
    refine AR.blk 2 (f' := (4, [some (vA m), some (vI k), z2, z3, z4], [vA m, vI k], (C, N))) (fun _ => rfl) ?_
    refine AR.getR rfl rfl hm.1 (by decide) rfl ?_
    refine AR.blk 1 (f' := (9, [some (vA m), some (vI k), z2, z3, z4], [vI 67, vA (m + 1), vI k], (C, N))) (fun _ => rfl) ?_
    refine AR.iald rfl hm.2.1 (by omega) (v := (D.length : Int)) hD.1 ?_
    refine AR.ic_ge rfl (by omega) (fun c1 => ?_) (fun c1 => ?_)
    · show AR E d _ (97, [some (vA m), some (vI k), z2, z3, z4], [], (C, N)) _
      refine AR.blk 1 (f' := (98, [some (vA m), some (vI k), z2, z3, z4], [vA m], (C, N))) (fun _ => rfl) ?_
      refine AR.getR rfl rfl hm.1 (by decide) rfl ?_
      refine AR.blk 1 (f' := (103, [some (vA m), some (vI k), z2, z3, z4], [vI 67, vA (m + 1)], (C, N))) (fun _ => rfl) ?_
      refine AR.iald rfl hm.2.1 (by omega) (v := (D.length : Int)) hD.1 ?_
      exact AR.retI rfl (by first | exact (m_ix_hit (z9 (by omega)).2.2.2.2.1 hvp (z9 (by omega)).1 i1).1 (by omega) | (rw [i1, List.drop_of_length_le (by omega)]; show (D.length : Int) = k + ((0 : Nat) : Int); omega)) ⟨rfl, .inl rfl⟩ rfl
    · show AR E d _ (13, [some (vA m), some (vI k), z2, z3, z4], [], (C, N)) _
      refine AR.blk 7 (f' := (22, [some (vA m), some (vI k), some (vI (68 + (6 * k))), z3, z4], [vA m], (C, N))) (fun _ => rfl) ?_
      refine AR.getR rfl rfl hm.1 (by decide) rfl ?_
      refine AR.blk 3 (f' := (28, [some (vA m), some (vI k), some (vI (68 + (6 * k))), z3, z4], [vI ((68 + (6 * k)) + 4), vA (m + 1)], (C, N))) (fun _ => rfl) ?_
      have f2 := (z9 (by omega)).2.2.2.2.2.1
      refine AR.iald rfl hm.2.1 (by omega) (v := m_rest cl9 ww9) (z9 (by omega)).2.2.2.1 ?_
      refine AR.blk 1 (f' := (30, [some (vA m), some (vI k), some (vI (68 + (6 * k))), z3, z4], [vA m, vI (m_rest cl9 ww9)], (C, N))) (fun _ => rfl) ?_
      refine AR.callV [] (ev_X7_restPart (by omega) hm hr hw hs hv  ) hm.1 rfl rfl rfl rfl rfl ?_
      show AR E d _ (33, [some (vA m), some (vI k), some (vI (68 + (6 * k))), z3, z4], [vI (m_rest cl (t % 2)), vI (m_rest cl9 ww9)], (C, N)) _
      have f3 := m_rest_in cl (t % 2) (fun k => (hw.2.2.2.2.1 k).1) (by omega)
      refine AR.ic_ne rfl (by omega) (fun c4 => ?_) (fun c4 => ?_)
      · show AR E d _ (40, [some (vA m), some (vI k), some (vI (68 + (6 * k))), z3, z4], [], (C, N)) _
        refine AR.blk 6 (f' := (48, [some (vA m), some (vI k), some (vI (68 + (6 * k))), some (vI 0), some (vI 0)], [vI 4, vI 0], (C, N))) (fun _ => rfl) ?_
        refine AR.blk 2 (f' := (52, [some (vA m), some (vI k), some (vI (68 + (6 * k))), some (vI 0), some (vI 0)], [vI 0], (C, N))) (fun _ => rfl) ?_
        refine AR.blk 2 (f' := (86, [some (vA m), some (vI k), some (vI (68 + (6 * k))), some (vI 0), some (vI 0)], [vI 0], (C, N))) (fun _ => rfl) ?_
        refine AR.blk 3 (f' := (2, [some (vA m), some (vI (k + 1)), some (vI (68 + (6 * k))), some (vI 0), some (vI 0)], [], (C, N))) (fun _ => rfl) ?_
        exact ih2 _ _ _ _ (by omega) (by omega) ((m_ix_hit (z9 (by omega)).2.2.2.2.1 hvp (z9 (by omega)).1 i1).2 (by omega))
      · show AR E d _ (36, [some (vA m), some (vI k), some (vI (68 + (6 * k))), z3, z4], [], (C, N)) _
        refine AR.blk 7 (f' := (48, [some (vA m), some (vI k), some (vI (68 + (6 * k))), some (vI 1), some (vI 0)], [vI 4, vI 0], (C, N))) (fun _ => rfl) ?_
        refine AR.blk 2 (f' := (52, [some (vA m), some (vI k), some (vI (68 + (6 * k))), some (vI 1), some (vI 0)], [vI 1], (C, N))) (fun _ => rfl) ?_
        refine AR.blk 2 (f' := (56, [some (vA m), some (vI k), some (vI (68 + (6 * k))), some (vI 1), some (vI 0)], [vA m], (C, N))) (fun _ => rfl) ?_
        refine AR.getR rfl rfl hm.1 (by decide) rfl ?_
        refine AR.blk 3 (f' := (63, [some (vA m), some (vI k), some (vI (68 + (6 * k))), some (vI 1), some (vI 0)], [vI ((68 + (6 * k)) + 0), vA (m + 1)], (C, N))) (fun _ => rfl) ?_
        have f5 := (z9 (by omega)).2.2.2.2.2.2 0
        refine AR.iald rfl hm.2.1 (by omega) (v := m_bp P9 0) ((z9 (by omega)).2.2.1 0 (by omega) (by omega)) ?_
        refine AR.blk 2 (f' := (67, [some (vA m), some (vI k), some (vI (68 + (6 * k))), some (vI 1), some (vI 0)], [vI 0, vA m, vI (m_bp P9 0)], (C, N))) (fun _ => rfl) ?_
        refine AR.callV [vI 0] (ev_X7_boardPart (by omega) hm hr hw 0 (by omega)) hm.1 rfl rfl rfl rfl rfl ?_
        show AR E d _ (70, [some (vA m), some (vI k), some (vI (68 + (6 * k))), some (vI 1), some (vI 0)], [vI (m_bp P 0), vI (m_bp P9 0)], (C, N)) _
        have f6 := m_bp_in P hw.1 0
        refine AR.ic_ne rfl (by omega) (fun c7 => ?_) (fun c7 => ?_)
        · show AR E d _ (77, [some (vA m), some (vI k), some (vI (68 + (6 * k))), some (vI 1), some (vI 0)], [], (C, N)) _
          refine AR.blk 6 (f' := (48, [some (vA m), some (vI k), some (vI (68 + (6 * k))), some (vI 0), some (vI 1)], [vI 4, vI 1], (C, N))) (fun _ => rfl) ?_
          refine AR.blk 2 (f' := (52, [some (vA m), some (vI k), some (vI (68 + (6 * k))), some (vI 0), some (vI 1)], [vI 0], (C, N))) (fun _ => rfl) ?_
          refine AR.blk 2 (f' := (86, [some (vA m), some (vI k), some (vI (68 + (6 * k))), some (vI 0), some (vI 1)], [vI 0], (C, N))) (fun _ => rfl) ?_
          refine AR.blk 3 (f' := (2, [some (vA m), some (vI (k + 1)), some (vI (68 + (6 * k))), some (vI 0), some (vI 1)], [], (C, N))) (fun _ => rfl) ?_
          exact ih2 _ _ _ _ (by omega) (by omega) ((m_ix_hit (z9 (by omega)).2.2.2.2.1 hvp (z9 (by omega)).1 i1).2 (by omega))
        · show AR E d _ (73, [some (vA m), some (vI k), some (vI (68 + (6 * k))), some (vI 1), some (vI 0)], [], (C, N)) _
          refine AR.blk 7 (f' := (48, [some (vA m), some (vI k), some (vI (68 + (6 * k))), some (vI 1), some (vI 1)], [vI 4, vI 1], (C, N))) (fun _ => rfl) ?_
          refine AR.blk 2 (f' := (52, [some (vA m), some (vI k), some (vI (68 + (6 * k))), some (vI 1), some (vI 1)], [vI 1], (C, N))) (fun _ => rfl) ?_
          refine AR.blk 2 (f' := (56, [some (vA m), some (vI k), some (vI (68 + (6 * k))), some (vI 1), some (vI 1)], [vA m], (C, N))) (fun _ => rfl) ?_
          refine AR.getR rfl rfl hm.1 (by decide) rfl ?_
          refine AR.blk 3 (f' := (63, [some (vA m), some (vI k), some (vI (68 + (6 * k))), some (vI 1), some (vI 1)], [vI ((68 + (6 * k)) + 1), vA (m + 1)], (C, N))) (fun _ => rfl) ?_
          have f8 := (z9 (by omega)).2.2.2.2.2.2 1
          refine AR.iald rfl hm.2.1 (by omega) (v := m_bp P9 1) ((z9 (by omega)).2.2.1 1 (by omega) (by omega)) ?_
          refine AR.blk 2 (f' := (67, [some (vA m), some (vI k), some (vI (68 + (6 * k))), some (vI 1), some (vI 1)], [vI 1, vA m, vI (m_bp P9 1)], (C, N))) (fun _ => rfl) ?_
          refine AR.callV [vI 1] (ev_X7_boardPart (by omega) hm hr hw 1 (by omega)) hm.1 rfl rfl rfl rfl rfl ?_
          show AR E d _ (70, [some (vA m), some (vI k), some (vI (68 + (6 * k))), some (vI 1), some (vI 1)], [vI (m_bp P 1), vI (m_bp P9 1)], (C, N)) _
          have f9 := m_bp_in P hw.1 1
          refine AR.ic_ne rfl (by omega) (fun c10 => ?_) (fun c10 => ?_)
          · show AR E d _ (77, [some (vA m), some (vI k), some (vI (68 + (6 * k))), some (vI 1), some (vI 1)], [], (C, N)) _
            refine AR.blk 6 (f' := (48, [some (vA m), some (vI k), some (vI (68 + (6 * k))), some (vI 0), some (vI 2)], [vI 4, vI 2], (C, N))) (fun _ => rfl) ?_
            refine AR.blk 2 (f' := (52, [some (vA m), some (vI k), some (vI (68 + (6 * k))), some (vI 0), some (vI 2)], [vI 0], (C, N))) (fun _ => rfl) ?_
            refine AR.blk 2 (f' := (86, [some (vA m), some (vI k), some (vI (68 + (6 * k))), some (vI 0), some (vI 2)], [vI 0], (C, N))) (fun _ => rfl) ?_
            refine AR.blk 3 (f' := (2, [some (vA m), some (vI (k + 1)), some (vI (68 + (6 * k))), some (vI 0), some (vI 2)], [], (C, N))) (fun _ => rfl) ?_
            exact ih2 _ _ _ _ (by omega) (by omega) ((m_ix_hit (z9 (by omega)).2.2.2.2.1 hvp (z9 (by omega)).1 i1).2 (by omega))
          · show AR E d _ (73, [some (vA m), some (vI k), some (vI (68 + (6 * k))), some (vI 1), some (vI 1)], [], (C, N)) _
            refine AR.blk 7 (f' := (48, [some (vA m), some (vI k), some (vI (68 + (6 * k))), some (vI 1), some (vI 2)], [vI 4, vI 2], (C, N))) (fun _ => rfl) ?_
            refine AR.blk 2 (f' := (52, [some (vA m), some (vI k), some (vI (68 + (6 * k))), some (vI 1), some (vI 2)], [vI 1], (C, N))) (fun _ => rfl) ?_
            refine AR.blk 2 (f' := (56, [some (vA m), some (vI k), some (vI (68 + (6 * k))), some (vI 1), some (vI 2)], [vA m], (C, N))) (fun _ => rfl) ?_
            refine AR.getR rfl rfl hm.1 (by decide) rfl ?_
            refine AR.blk 3 (f' := (63, [some (vA m), some (vI k), some (vI (68 + (6 * k))), some (vI 1), some (vI 2)], [vI ((68 + (6 * k)) + 2), vA (m + 1)], (C, N))) (fun _ => rfl) ?_
            have f11 := (z9 (by omega)).2.2.2.2.2.2 2
            refine AR.iald rfl hm.2.1 (by omega) (v := m_bp P9 2) ((z9 (by omega)).2.2.1 2 (by omega) (by omega)) ?_
            refine AR.blk 2 (f' := (67, [some (vA m), some (vI k), some (vI (68 + (6 * k))), some (vI 1), some (vI 2)], [vI 2, vA m, vI (m_bp P9 2)], (C, N))) (fun _ => rfl) ?_
            refine AR.callV [vI 2] (ev_X7_boardPart (by omega) hm hr hw 2 (by omega)) hm.1 rfl rfl rfl rfl rfl ?_
            show AR E d _ (70, [some (vA m), some (vI k), some (vI (68 + (6 * k))), some (vI 1), some (vI 2)], [vI (m_bp P 2), vI (m_bp P9 2)], (C, N)) _
            have f12 := m_bp_in P hw.1 2
            refine AR.ic_ne rfl (by omega) (fun c13 => ?_) (fun c13 => ?_)
            · show AR E d _ (77, [some (vA m), some (vI k), some (vI (68 + (6 * k))), some (vI 1), some (vI 2)], [], (C, N)) _
              refine AR.blk 6 (f' := (48, [some (vA m), some (vI k), some (vI (68 + (6 * k))), some (vI 0), some (vI 3)], [vI 4, vI 3], (C, N))) (fun _ => rfl) ?_
              refine AR.blk 2 (f' := (52, [some (vA m), some (vI k), some (vI (68 + (6 * k))), some (vI 0), some (vI 3)], [vI 0], (C, N))) (fun _ => rfl) ?_
              refine AR.blk 2 (f' := (86, [some (vA m), some (vI k), some (vI (68 + (6 * k))), some (vI 0), some (vI 3)], [vI 0], (C, N))) (fun _ => rfl) ?_
              refine AR.blk 3 (f' := (2, [some (vA m), some (vI (k + 1)), some (vI (68 + (6 * k))), some (vI 0), some (vI 3)], [], (C, N))) (fun _ => rfl) ?_
              exact ih2 _ _ _ _ (by omega) (by omega) ((m_ix_hit (z9 (by omega)).2.2.2.2.1 hvp (z9 (by omega)).1 i1).2 (by omega))
            · show AR E d _ (73, [some (vA m), some (vI k), some (vI (68 + (6 * k))), some (vI 1), some (vI 2)], [], (C, N)) _
              refine AR.blk 7 (f' := (48, [some (vA m), some (vI k), some (vI (68 + (6 * k))), some (vI 1), some (vI 3)], [vI 4, vI 3], (C, N))) (fun _ => rfl) ?_
              refine AR.blk 2 (f' := (52, [some (vA m), some (vI k), some (vI (68 + (6 * k))), some (vI 1), some (vI 3)], [vI 1], (C, N))) (fun _ => rfl) ?_
              refine AR.blk 2 (f' := (56, [some (vA m), some (vI k), some (vI (68 + (6 * k))), some (vI 1), some (vI 3)], [vA m], (C, N))) (fun _ => rfl) ?_
              refine AR.getR rfl rfl hm.1 (by decide) rfl ?_
              refine AR.blk 3 (f' := (63, [some (vA m), some (vI k), some (vI (68 + (6 * k))), some (vI 1), some (vI 3)], [vI ((68 + (6 * k)) + 3), vA (m + 1)], (C, N))) (fun _ => rfl) ?_
              have f14 := (z9 (by omega)).2.2.2.2.2.2 3
              refine AR.iald rfl hm.2.1 (by omega) (v := m_bp P9 3) ((z9 (by omega)).2.2.1 3 (by omega) (by omega)) ?_
              refine AR.blk 2 (f' := (67, [some (vA m), some (vI k), some (vI (68 + (6 * k))), some (vI 1), some (vI 3)], [vI 3, vA m, vI (m_bp P9 3)], (C, N))) (fun _ => rfl) ?_
              refine AR.callV [vI 3] (ev_X7_boardPart (by omega) hm hr hw 3 (by omega)) hm.1 rfl rfl rfl rfl rfl ?_
              show AR E d _ (70, [some (vA m), some (vI k), some (vI (68 + (6 * k))), some (vI 1), some (vI 3)], [vI (m_bp P 3), vI (m_bp P9 3)], (C, N)) _
              have f15 := m_bp_in P hw.1 3
              refine AR.ic_ne rfl (by omega) (fun c16 => ?_) (fun c16 => ?_)
              · show AR E d _ (77, [some (vA m), some (vI k), some (vI (68 + (6 * k))), some (vI 1), some (vI 3)], [], (C, N)) _
                refine AR.blk 6 (f' := (48, [some (vA m), some (vI k), some (vI (68 + (6 * k))), some (vI 0), some (vI 4)], [vI 4, vI 4], (C, N))) (fun _ => rfl) ?_
                refine AR.blk 2 (f' := (86, [some (vA m), some (vI k), some (vI (68 + (6 * k))), some (vI 0), some (vI 4)], [vI 0], (C, N))) (fun _ => rfl) ?_
                refine AR.blk 3 (f' := (2, [some (vA m), some (vI (k + 1)), some (vI (68 + (6 * k))), some (vI 0), some (vI 4)], [], (C, N))) (fun _ => rfl) ?_
                exact ih2 _ _ _ _ (by omega) (by omega) ((m_ix_hit (z9 (by omega)).2.2.2.2.1 hvp (z9 (by omega)).1 i1).2 (by omega))
              · show AR E d _ (73, [some (vA m), some (vI k), some (vI (68 + (6 * k))), some (vI 1), some (vI 3)], [], (C, N)) _
                refine AR.blk 7 (f' := (48, [some (vA m), some (vI k), some (vI (68 + (6 * k))), some (vI 1), some (vI 4)], [vI 4, vI 4], (C, N))) (fun _ => rfl) ?_
                refine AR.blk 2 (f' := (86, [some (vA m), some (vI k), some (vI (68 + (6 * k))), some (vI 1), some (vI 4)], [vI 1], (C, N))) (fun _ => rfl) ?_
                refine AR.blk 2 (f' := (90, [some (vA m), some (vI k), some (vI (68 + (6 * k))), some (vI 1), some (vI 4)], [vI k], (C, N))) (fun _ => rfl) ?_
                exact AR.retI rfl (by first | exact (m_ix_hit (z9 (by omega)).2.2.2.2.1 hvp (z9 (by omega)).1 i1).1 (by omega) | (rw [i1, List.drop_of_length_le (by omega)]; show (D.length : Int) = k + ((0 : Nat) : Int); omega)) ⟨rfl, .inl rfl⟩ rfl
end L2k
