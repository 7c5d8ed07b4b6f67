/-! LEVEL 2: the model's counts of positions -/
def m_at (x : Int × Int) : List ((Int × Int) × Int) → Int
  | [] => 0
  | y :: r => if y.1.1 = x.1 ∧ y.1.2 = x.2 then y.2 else m_at x r
theorem m_at_add (x : Int × Int) : ∀ D, m_at x (m_add x D) = m_cn x D := by
  intro D
  induction D with
  | nil => exact if_pos ⟨rfl, rfl⟩
  | cons z r ih =>
    by_cases e : z.1.1 = x.1 ∧ z.1.2 = x.2
    · rw [show m_add x (z :: r) = (z.1, z.2 + 1) :: r from if_pos e, show m_cn x (z :: r) = z.2 + 1 from if_pos e]
      exact if_pos e
    · rw [show m_add x (z :: r) = z :: m_add x r from if_neg e, show m_cn x (z :: r) = m_cn x r from if_neg e, ← ih]
      exact if_neg e
theorem m_at_ix (x : Int × Int) : ∀ D, m_ix x D ≠ D.length → D[m_ix x D]? = some (x, m_at x D) := by
  intro D
  induction D with
  | nil => intro h; exact absurd rfl h
  | cons z r ih =>
    intro h
    by_cases e : z.1.1 = x.1 ∧ z.1.2 = x.2
    · rw [show m_ix x (z :: r) = 0 from if_pos e, show m_at x (z :: r) = z.2 from if_pos e, ← show z.1 = x from Prod.ext e.1 e.2]
      rfl
    · rw [show m_ix x (z :: r) = m_ix x r + 1 from if_neg e, List.length_cons] at h
      rw [show m_ix x (z :: r) = m_ix x r + 1 from if_neg e, show m_at x (z :: r) = m_at x r from if_neg e]
      exact ih (by omega)
theorem m_ix_add (x : Int × Int) : ∀ D, m_ix x (m_add x D) ≠ (m_add x D).length := by
  intro D
  induction D with
  | nil =>
    show m_ix x [(x, 1)] ≠ 1
    rw [show m_ix x [(x, 1)] = 0 from if_pos ⟨rfl, rfl⟩]
    omega
  | cons z r ih =>
    by_cases e : z.1.1 = x.1 ∧ z.1.2 = x.2
    · rw [show m_add x (z :: r) = (z.1, z.2 + 1) :: r from if_pos e, show m_ix x ((z.1, z.2 + 1) :: r) = 0 from if_pos e, List.length_cons]
      omega
    · rw [show m_add x (z :: r) = z :: m_add x r from if_neg e, show m_ix x (z :: m_add x r) = m_ix x (m_add x r) + 1 from if_neg e, List.length_cons]
      omega
theorem g_rD_cnt {R : Int → Int} {D : List ((Int × Int) × Int)} (h : g_rD R D) (x : Int × Int) (hx : m_ix x D ≠ D.length) : R (68 + 6 * (m_ix x D : Int) + 5) = m_at x D := (h.2 _ _ (m_at_ix x D hx)).1
section L2r
variable {E : Nat × (Int → Int)} {C : List ag_C} {N : Nat → Int → Int} {m : Nat} {P : Int → Int} {n : Int} {q p cl tn : Int → Int} {t bg en ca : Int} {gn pu mk : Int → Int} {D : List ((Int × Int) × Int)}

theorem ev_X7_repeats {d : Nat} (hd : 4 ≤ d) (hm : g_isM C m) (hr : g_rR (N (m + 1)) P n q p cl tn) (hw : g_wB P n q p cl tn) (hs : g_rS (N (m + 1)) t bg en ca gn pu mk) (hv : g_wS t bg en ca gn pu mk) (hD : g_rD (N (m + 1)) D) (hDl : D.length ≤ 121) (h0 : bg ≠ 0 → m_ix (m_key P cl (t % 2)) D ≠ D.length) : Ev E d 148 [vA m] (C, N) (some (vI (if bg = 0 then 0 else m_at (m_key P cl (t % 2)) D)), (C, N)) := by
  obtain ⟨d, rfl⟩ : ∃ j, d = j + 1 := ⟨d - 1, by omega⟩
  refine Ev.intro (M := ag_mX7_repeats) rfl rfl ?_
  show AR E d _ (0, [some (vA m)], [], (C, N)) _
  refine AR.blk 1 (f' := (1, [some (vA m)], [vA m], (C, N))) (fun _ => rfl) ?_
  refine AR.getR rfl rfl hm.1 (by decide) rfl ?_
  refine AR.blk 1 (f' := (5, [some (vA m)], [vI 3, vA (m + 1)], (C, N))) (fun _ => rfl) ?_
  have f1 := hv.1
  have f2 := hv.2.1
  have f3 := hv.2.2.1
  have f4 := hv.2.2.2.1
  refine AR.iald rfl hm.2.1 (by omega) (v := bg) hs.2.2.2.1 ?_
  refine AR.if_ne rfl (by omega) (fun c5 => ?_) (fun c5 => ?_)
  · show AR E d _ (13, [some (vA m)], [], (C, N)) _
    refine AR.blk 1 (f' := (14, [some (vA m)], [vA m], (C, N))) (fun _ => rfl) ?_
    refine AR.getR rfl rfl hm.1 (by decide) rfl ?_
    refine AR.blk 3 (f' := (22, [some (vA m)], [vA m, vI 6, vI 68, vA (m + 1)], (C, N))) (fun _ => rfl) ?_
    refine AR.callV [] (ev_X7_position (by omega) hm hr hw hs hv hD hDl  ) hm.1 rfl rfl rfl rfl rfl ?_
    show AR E d _ (25, [some (vA m)], [vI (m_ix (m_key P cl (t % 2)) D : Int), vI 6, vI 68, vA (m + 1)], (C, N)) _
    have f6 := m_ix_le (m_key P cl (t % 2)) D
    refine AR.blk 4 (f' := (29, [some (vA m)], [vI ((68 + (6 * (m_ix (m_key P cl (t % 2)) D : Int))) + 5), vA (m + 1)], (C, N))) (fun _ => rfl) ?_
    refine AR.iald rfl hm.2.1 (by omega) (v := m_at (m_key P cl (t % 2)) D) (g_rD_cnt hD (m_key P cl (t % 2)) (h0 (by omega))) ?_
    exact AR.retI rfl (by first | exact (if_pos (by omega)).symm | exact (if_neg (by omega)).symm) ⟨rfl, .inl rfl⟩ rfl
  · show AR E d _ (9, [some (vA m)], [], (C, N)) _
    refine AR.blk 2 (f' := (30, [some (vA m)], [vI 0], (C, N))) (fun _ => rfl) ?_
    exact AR.retI rfl (by first | exact (if_pos (by omega)).symm | exact (if_neg (by omega)).symm) ⟨rfl, .inl rfl⟩ rfl
end L2r
