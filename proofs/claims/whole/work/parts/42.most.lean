/-! LEVEL 2: the model: mostRepeats -/
def m_fm : Int → List ((Int × Int) × Int) → Int
  | c, [] => c
  | c, y :: r => m_fm (if c < y.2 then y.2 else c) r
theorem m_fm_mx : ∀ (D : List ((Int × Int) × Int)) (c : Int), 0 ≤ c → m_fm c D = if c < m_mx D then m_mx D else c := by
  intro D
  induction D with
  | nil =>
    intro c hc
    show c = if c < 0 then 0 else c
    omega
  | cons y r ih =>
    intro c hc
    show m_fm (if c < y.2 then y.2 else c) r = if c < (if m_mx r < y.2 then y.2 else m_mx r) then (if m_mx r < y.2 then y.2 else m_mx r) else c
    rw [ih _ (by omega)]
    omega
section L2t
variable {E : Nat × (Int → Int)} {C : List ag_C} {N : Nat → Int → Int} {m : Nat} {P : Int → Int} {n : Int} {q p cl tn : Int → Int} {t bg en ca : Int} {gn pu mk : Int → Int} {D : List ((Int × Int) × Int)}

theorem m_fm_at {D D2 : List ((Int × Int) × Int)} {j : Nat} {x : Int × Int} {z c r : Int} (hd : D.drop j = (x, z) :: D2) (h : m_fm c (D.drop j) = r) : r = m_fm (if c < z then z else c) D2 := by
  rw [hd] at h
  exact h.symm

theorem ev_X7_mostRepeats {d : Nat} (hd : 1 ≤ d) (hm : g_isM C m) (hr : g_rR (N (m + 1)) P n q p cl tn) (hw : g_wB P n q p cl tn) (hs : g_rS (N (m + 1)) t bg en ca gn pu mk) (hv : g_wS t bg en ca gn pu mk) (hD : g_rD (N (m + 1)) D) (hDl : D.length ≤ 121) (hC : ∀ y, y ∈ D → 0 ≤ y.2 ∧ y.2 ≤ 1000) : Ev E d 149 [vA m] (C, N) (some (vI (m_fm 0 D)), (C, N)) := by
  obtain ⟨d, rfl⟩ : ∃ j, d = j + 1 := ⟨d - 1, by omega⟩
  refine Ev.intro (M := ag_mX7_mostRepeats) rfl rfl ?_
  show AR E d _ (0, [some (vA m), none, none], [], (C, N)) _
  refine AR.blk 4 (f' := (4, [some (vA m), some (vI 0), some (vI 0)], [], (C, N))) (fun _ => rfl) ?_
  suffices H4 : ∀ (j : Nat) (c : Int) (k : Int), ((D.length : Int) - k).toNat < j → (0 ≤ k ∧ k ≤ D.length ∧ 0 ≤ c ∧ c ≤ 1000) → (m_fm c (D.drop k.toNat) = m_fm 0 D) → AR E d ag_mX7_mostRepeats (4, [some (vA m), some (vI c), some (vI k)], [], (C, N)) (fun o_ => o_ = (some (vI (m_fm 0 D)), (C, N))) by
    exact H4 _ _ _ (Nat.lt_succ_self _) (by omega) rfl
  intro j
  induction j with
  | zero => intro c k hj; exact absurd hj (Nat.not_lt_zero _)
  | succ j ih4 =>
    intro c k hj4 i0 i1
    obtain ⟨P9, cl9, ww9, z8, z9⟩ := g_rD_at hD k
    have z7 : 0 ≤ k ∧ k < D.length → 0 ≤ z8 ∧ z8 ≤ 1000 := fun hk => by have e := (z9 hk).2.2.2.2.1; exact hC _ (List.mem_of_mem_drop (e ▸ List.mem_cons_self))
    refine AR.blk 2 (f' := (6, [some (vA m), some (vI c), some (vI k)], [vA m, vI k], (C, N))) (fun _ => rfl) ?_
    refine AR.getR rfl rfl hm.1 (by decide) rfl ?_
    refine AR.blk 1 (f' := (11, [some (vA m), some (vI c), some (vI k)], [vI 67, vA (m + 1), vI k], (C, N))) (fun _ => rfl) ?_
    refine AR.iald rfl hm.2.1 (by omega) (v := (D.length : Int)) hD.1 ?_
    refine AR.ic_ge rfl (by omega) (fun c1 => ?_) (fun c1 => ?_)
    · show AR E d _ (58, [some (vA m), some (vI c), some (vI k)], [], (C, N)) _
      refine AR.blk 1 (f' := (59, [some (vA m), some (vI c), some (vI k)], [vI c], (C, N))) (fun _ => rfl) ?_
      exact AR.retI rfl (by rw [List.drop_of_length_le (by omega)] at i1; exact i1) ⟨rfl, .inl rfl⟩ rfl
    · show AR E d _ (15, [some (vA m), some (vI c), some (vI k)], [], (C, N)) _
      refine AR.blk 1 (f' := (16, [some (vA m), some (vI c), some (vI k)], [vA m], (C, N))) (fun _ => rfl) ?_
      refine AR.getR rfl rfl hm.1 (by decide) rfl ?_
      refine AR.blk 7 (f' := (28, [some (vA m), some (vI c), some (vI k)], [vI ((68 + (6 * k)) + 5), vA (m + 1)], (C, N))) (fun _ => rfl) ?_
      have f2 := z7 (by omega)
      refine AR.iald rfl hm.2.1 (by omega) (v := z8) (z9 (by omega)).2.1 ?_
      refine AR.blk 1 (f' := (30, [some (vA m), some (vI c), some (vI k)], [vI c, vI z8], (C, N))) (fun _ => rfl) ?_
      refine AR.ic_le rfl (by omega) (fun c3 => ?_) (fun c3 => ?_)
      · show AR E d _ (50, [some (vA m), some (vI c), some (vI k)], [], (C, N)) _
        refine AR.blk 4 (f' := (4, [some (vA m), some (vI c), some (vI (k + 1))], [], (C, N))) (fun _ => rfl) ?_
        exact ih4 _ _ (by omega) (by omega) ((congrArg (fun z => m_fm z (D.drop (k + 1).toNat)) (by omega)).trans (m_fm_at (z9 (by omega)).2.2.2.2.1 i1).symm)
      · show AR E d _ (33, [some (vA m), some (vI c), some (vI k)], [], (C, N)) _
        refine AR.blk 1 (f' := (34, [some (vA m), some (vI c), some (vI k)], [vA m], (C, N))) (fun _ => rfl) ?_
        refine AR.getR rfl rfl hm.1 (by decide) rfl ?_
        refine AR.blk 7 (f' := (46, [some (vA m), some (vI c), some (vI k)], [vI ((68 + (6 * k)) + 5), vA (m + 1)], (C, N))) (fun _ => rfl) ?_
        have f4 := z7 (by omega)
        refine AR.iald rfl hm.2.1 (by omega) (v := z8) (z9 (by omega)).2.1 ?_
        refine AR.blk 4 (f' := (4, [some (vA m), some (vI z8), some (vI (k + 1))], [], (C, N))) (fun _ => rfl) ?_
        exact ih4 _ _ (by omega) (by omega) ((congrArg (fun z => m_fm z (D.drop (k + 1).toNat)) (by omega)).trans (m_fm_at (z9 (by omega)).2.2.2.2.1 i1).symm)
end L2t
