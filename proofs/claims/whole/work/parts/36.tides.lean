/-! LEVEL 2: the model's tides -/
section L2o
variable {E : Nat × (Int → Int)} {C : List ag_C} {N : Nat → Int → Int} {m : Nat} {P : Int → Int} {n : Int} {q p cl tn : Int → Int} {t sd ho bg en ca : Int} {gn pu mk : Int → Int}

theorem m_td1 (P : Int → Int) (n : Int) (q cl : Int → Int) (t : Int) {ho : Int} (x0 k : Int) (h1 : t / 4 = ho + 1) (hx : ((ho + 1) % 4 = 1 → x0 = 0) ∧ ((ho + 1) % 4 = 3 → x0 = 2)) (hk : ((ho + 1) % 4 = 1 ∨ (ho + 1) % 4 = 3 → k = 6) ∧ (¬ ((ho + 1) % 4 = 1 ∨ (ho + 1) % 4 = 3) → k = 0)) : m_tdP P n q cl t = (m_rv P n q cl x0 k.toNat).1 := by
  unfold m_tdP
  rw [h1]
  split
  · rename_i y
    rw [hx.1 y, hk.1 (.inl y)]
    rfl
  · split
    · rename_i y
      rw [hx.2 y, hk.1 (.inr y)]
      rfl
    · rw [hk.2 (by omega)]
      rfl
theorem m_td2 (P : Int → Int) (n : Int) (q cl : Int → Int) (t ca : Int) {ho : Int} (x0 k : Int) (h1 : t / 4 = ho + 1) (hx : ((ho + 1) % 4 = 1 → x0 = 0) ∧ ((ho + 1) % 4 = 3 → x0 = 2)) (hk : ((ho + 1) % 4 = 1 ∨ (ho + 1) % 4 = 3 → k = 6) ∧ (¬ ((ho + 1) % 4 = 1 ∨ (ho + 1) % 4 = 3) → k = 0)) : m_tdC P n q cl t ca = ca + (m_rv P n q cl x0 k.toNat).2 := by
  unfold m_tdC
  rw [h1]
  split
  · rename_i y
    rw [hx.1 y, hk.1 (.inl y)]
    rfl
  · split
    · rename_i y
      rw [hx.2 y, hk.1 (.inr y)]
      rfl
    · rw [hk.2 (by omega)]
      exact (Int.add_zero ca).symm

theorem ev_X7_tides {d : Nat} (hd : 5 ≤ d) (hm : g_isM C m) (hr : g_rR (N (m + 1)) P n q p cl tn) (hw : g_wB P n q p cl tn) (hz : g_rZ (N (m + 1)) t sd ho bg en ca gn pu mk) (h0 : 0 ≤ ho ∧ ho ≤ 30) (h1 : t / 4 = ho + 1) : ∃ o_, Ev E d 133 [vA m] (C, N) o_ ∧ g_QR C N m none (m_tdP P n q cl t) n q p cl tn t sd (ho + 1) bg en (m_tdC P n q cl t ca) gn pu mk o_ := by
  obtain ⟨d, rfl⟩ : ∃ j, d = j + 1 := ⟨d - 1, by omega⟩
  obtain ⟨x0, hx0⟩ : ∃ x0 : Int, ((ho + 1) % 4 = 1 → x0 = 0) ∧ ((ho + 1) % 4 ≠ 1 → x0 = 2) := by by_cases y : (ho + 1) % 4 = 1; exact ⟨0, fun _ => rfl, fun z => absurd y z⟩; exact ⟨2, fun z => absurd z y, fun _ => rfl⟩
  refine Ev.introQ (M := ag_mX7_tides) rfl rfl ?_
  show AR E d _ (0, [some (vA m), none, none, none], [], (C, N)) _
  refine AR.blk 1 (f' := (1, [some (vA m), none, none, none], [vA m], (C, N))) (fun _ => rfl) ?_
  refine AR.getR rfl rfl hm.1 (by decide) rfl ?_
  refine AR.blk 2 (f' := (6, [some (vA m), none, none, none], [vI 2, vA (m + 1), vI 2, vA (m + 1)], (C, N))) (fun _ => rfl) ?_
  refine AR.iald rfl hm.2.1 (by omega) (v := ho) hz.2.2.1 ?_
  refine AR.blk 2 (f' := (9, [some (vA m), none, none, none], [vI (ho + 1), vI 2, vA (m + 1)], (C, N))) (fun _ => rfl) ?_
  refine AR.iast rfl hm.2.1 (by omega) ?_
  show AR E d _ (10, [some (vA m), none, none, none], [], (C, ag_upd N (m + 1) 2 (ho + 1))) _
  have RN2 := g_rR_fr hr (R' := (ag_upd N (m + 1) 2 (ho + 1)) (m + 1)) (fun i z0 z1 => ag_upd_nk (by omega))
  have ZN2 := g_rZ_ho hz (ho + 1)
  have KN2 : ∀ i, 6 ≤ i ∧ i < 8 ∨ 67 ≤ i → (ag_upd N (m + 1) 2 (ho + 1)) (m + 1) i = N (m + 1) i := fun i hi => (ag_upd_nk (by omega)).trans ((fun _ _ => rfl) i hi)
  have FN2 : ∀ a, a ≠ m + 1 → (ag_upd N (m + 1) 2 (ho + 1)) a = N a := fun a ha => (ag_upd_ne ha).trans ((fun _ _ => rfl) a ha)
  generalize ag_upd N (m + 1) 2 (ho + 1) = N2 at *
  refine AR.blk 1 (f' := (11, [some (vA m), none, none, none], [vA m], (C, N2))) (fun _ => rfl) ?_
  refine AR.getR rfl rfl hm.1 (by decide) rfl ?_
  refine AR.blk 1 (f' := (15, [some (vA m), none, none, none], [vI 2, vA (m + 1)], (C, N2))) (fun _ => rfl) ?_
  refine AR.iald rfl hm.2.1 (by omega) (v := ho + 1) ZN2.2.2.1 ?_
  refine AR.blk 1 (f' := (17, [some (vA m), none, none, none], [vI 4, vI (ho + 1)], (C, N2))) (fun _ => rfl) ?_
  refine AR.irem rfl (by omega) ?_
  refine AR.blk 3 (f' := (21, [some (vA m), some (vI ((ho + 1) % 4)), some (vI 0), none], [], (C, N2))) (fun _ => rfl) ?_
  suffices H21 : ∀ (j : Nat) (k : Int) (z3 : Option av) (c9 : Int) (N9 : Nat → Int → Int), (6 - k).toNat < j → (0 ≤ k ∧ k ≤ 6 ∧ (k = 0 ∨ (ho + 1) % 4 = 1 ∨ (ho + 1) % 4 = 3)) → (c9 = ca + (m_rv P n q cl x0 k.toNat).2) → (g_rR (N9 (m + 1)) (m_rv P n q cl x0 k.toNat).1 n q p cl tn) → (g_wB (m_rv P n q cl x0 k.toNat).1 n q p cl tn) → (g_rZ (N9 (m + 1)) t sd (ho + 1) bg en c9 gn pu mk) → (∀ i, 6 ≤ i ∧ i < 8 ∨ 67 ≤ i → N9 (m + 1) i = N (m + 1) i) → (∀ a, a ≠ m + 1 → N9 a = N a) → AR E d ag_mX7_tides (21, [some (vA m), some (vI ((ho + 1) % 4)), some (vI k), z3], [], (C, N9)) (g_QR C N m none (m_tdP P n q cl t) n q p cl tn t sd (ho + 1) bg en (m_tdC P n q cl t ca) gn pu mk) by
    exact H21 _ _ _ (ca) _ (Nat.lt_succ_self _) (by omega) (Int.add_zero ca).symm RN2 hw ZN2 KN2 FN2
  intro j
  induction j with
  | zero => intro k z3 c9 N9 hj; exact absurd hj (Nat.not_lt_zero _)
  | succ j ih21 =>
    intro k z3 c9 N9 hj21 i0 i1 hr9 hw9 hz9 hk9 hf9
    refine AR.blk 2 (f' := (24, [some (vA m), some (vI ((ho + 1) % 4)), some (vI k), z3], [vI 6, vI k], (C, N9))) (fun _ => rfl) ?_
    refine AR.ic_ge rfl (by omega) (fun c3 => ?_) (fun c3 => ?_)
    · show AR E d _ (93, [some (vA m), some (vI ((ho + 1) % 4)), some (vI k), z3], [], (C, N9)) _
      refine AR.endV rfl rfl ?_
      have e1 : m_tdP P n q cl t = (m_rv P n q cl x0 k.toNat).1 := m_td1 P n q cl t x0 k h1 (by omega) (by omega)
      have e2 : m_tdC P n q cl t ca = ca + (m_rv P n q cl x0 k.toNat).2 := m_td2 P n q cl t ca x0 k h1 (by omega) (by omega)
      rw [e1, e2, ← i1]
      exact ⟨_, rfl, hr9, hz9, hk9, hf9⟩
    · show AR E d _ (27, [some (vA m), some (vI ((ho + 1) % 4)), some (vI k), z3], [], (C, N9)) _
      refine AR.blk 2 (f' := (29, [some (vA m), some (vI ((ho + 1) % 4)), some (vI k), z3], [vI 2, vI ((ho + 1) % 4)], (C, N9))) (fun _ => rfl) ?_
      refine AR.irem rfl (by omega) ?_
      refine AR.blk 1 (f' := (31, [some (vA m), some (vI ((ho + 1) % 4)), some (vI k), z3], [vI 1, vI (((ho + 1) % 4) % 2)], (C, N9))) (fun _ => rfl) ?_
      refine AR.ic_ne rfl (by omega) (fun c4 => ?_) (fun c4 => ?_)
      · show AR E d _ (93, [some (vA m), some (vI ((ho + 1) % 4)), some (vI k), z3], [], (C, N9)) _
        refine AR.endV rfl rfl ?_
        have e1 : m_tdP P n q cl t = (m_rv P n q cl x0 k.toNat).1 := m_td1 P n q cl t x0 k h1 (by omega) (by omega)
        have e2 : m_tdC P n q cl t ca = ca + (m_rv P n q cl x0 k.toNat).2 := m_td2 P n q cl t ca x0 k h1 (by omega) (by omega)
        rw [e1, e2, ← i1]
        exact ⟨_, rfl, hr9, hz9, hk9, hf9⟩
      · show AR E d _ (34, [some (vA m), some (vI ((ho + 1) % 4)), some (vI k), z3], [], (C, N9)) _
        refine AR.blk 2 (f' := (36, [some (vA m), some (vI ((ho + 1) % 4)), some (vI k), z3], [vI 1, vI ((ho + 1) % 4)], (C, N9))) (fun _ => rfl) ?_
        refine AR.ic_ne rfl (by omega) (fun c5 => ?_) (fun c5 => ?_)
        · show AR E d _ (45, [some (vA m), some (vI ((ho + 1) % 4)), some (vI k), z3], [], (C, N9)) _
          refine AR.blk 10 (f' := (56, [some (vA m), some (vI ((ho + 1) % 4)), some (vI k), some (vI k)], [vI 1, vI ((ho + 1) % 4), vI ((6 * k) + 2), vA m], (C, N9))) (fun _ => rfl) ?_
          refine AR.ic_ne rfl (by omega) (fun c6 => ?_) (fun c6 => ?_)
          · show AR E d _ (63, [some (vA m), some (vI ((ho + 1) % 4)), some (vI k), some (vI k)], [vI ((6 * k) + 2), vA m], (C, N9)) _
            refine AR.blk 1 (f' := (64, [some (vA m), some (vI ((ho + 1) % 4)), some (vI k), some (vI k)], [vI 2, vI ((6 * k) + 2), vA m], (C, N9))) (fun _ => rfl) ?_
            obtain ⟨_, hE7, N8, rfl, hr9, hz10, hk11, hf12⟩ := ev_X7_carries (E := E) (d := d) (by omega) hm hr9 hw9 hz9 ((6 * k) + 2) 2 (by omega) (by omega)
            have KN8 : ∀ i, 6 ≤ i ∧ i < 8 ∨ 67 ≤ i → N8 (m + 1) i = N (m + 1) i := fun i hi => (hk11 i hi).trans (hk9 i hi)
            have FN8 : ∀ a, a ≠ m + 1 → N8 a = N a := fun a ha => (hf12 a ha).trans (hf9 a ha)
            have WN8 := m_drP_w hw9 (show 0 ≤ ((6 * k) + 2) ∧ ((6 * k) + 2) < 36 by omega) (show 0 ≤ 2 ∧ 2 < 4 by omega)
            refine AR.callV [vI ((6 * k) + 2), vI 2] hE7 hm.1 rfl rfl rfl rfl rfl ?_
            show AR E d _ (67, [some (vA m), some (vI ((ho + 1) % 4)), some (vI k), some (vI k)], [], (C, N8)) _
            refine AR.blk 8 (f' := (76, [some (vA m), some (vI ((ho + 1) % 4)), some (vI k), some (vI k)], [vI 1, vI ((ho + 1) % 4), vI ((6 * k) + 3), vA m], (C, N8))) (fun _ => rfl) ?_
            refine AR.ic_ne rfl (by omega) (fun c13 => ?_) (fun c13 => ?_)
            · show AR E d _ (83, [some (vA m), some (vI ((ho + 1) % 4)), some (vI k), some (vI k)], [vI ((6 * k) + 3), vA m], (C, N8)) _
              refine AR.blk 1 (f' := (84, [some (vA m), some (vI ((ho + 1) % 4)), some (vI k), some (vI k)], [vI 2, vI ((6 * k) + 3), vA m], (C, N8))) (fun _ => rfl) ?_
              obtain ⟨_, hE14, N15, rfl, hr16, hz17, hk18, hf19⟩ := ev_X7_carries (E := E) (d := d) (by omega) hm hr9 WN8 hz10 ((6 * k) + 3) 2 (by omega) (by omega)
              have KN15 : ∀ i, 6 ≤ i ∧ i < 8 ∨ 67 ≤ i → N15 (m + 1) i = N (m + 1) i := fun i hi => (hk18 i hi).trans (KN8 i hi)
              have FN15 : ∀ a, a ≠ m + 1 → N15 a = N a := fun a ha => (hf19 a ha).trans (FN8 a ha)
              have WN15 := m_drP_w WN8 (show 0 ≤ ((6 * k) + 3) ∧ ((6 * k) + 3) < 36 by omega) (show 0 ≤ 2 ∧ 2 < 4 by omega)
              refine AR.callV [vI ((6 * k) + 3), vI 2] hE14 hm.1 rfl rfl rfl rfl rfl ?_
              show AR E d _ (87, [some (vA m), some (vI ((ho + 1) % 4)), some (vI k), some (vI k)], [], (C, N15)) _
              refine AR.blk 2 (f' := (21, [some (vA m), some (vI ((ho + 1) % 4)), some (vI (k + 1)), some (vI k)], [], (C, N15))) (fun _ => rfl) ?_
              exact ih21 _ _ (_) _ (by omega) (by omega) (by have e : x0 = 2 := (by omega); subst e; rw [m_rv_S P n q cl 2 k (by omega), show m_end 2 2 k = 6 * k + 2 by (unfold m_end; omega), show m_end 3 2 k = 6 * k + 3 by (unfold m_end; omega)]; rw [i1]; dsimp only; omega) (by have e : x0 = 2 := (by omega); subst e; rw [m_rv_S P n q cl 2 k (by omega), show m_end 2 2 k = 6 * k + 2 by (unfold m_end; omega), show m_end 3 2 k = 6 * k + 3 by (unfold m_end; omega)]; exact hr16) (by have e : x0 = 2 := (by omega); subst e; rw [m_rv_S P n q cl 2 k (by omega), show m_end 2 2 k = 6 * k + 2 by (unfold m_end; omega), show m_end 3 2 k = 6 * k + 3 by (unfold m_end; omega)]; exact WN15) hz17 KN15 FN15
            · exact False.elim (by omega)
          · exact False.elim (by omega)
        · show AR E d _ (39, [some (vA m), some (vI ((ho + 1) % 4)), some (vI k), z3], [], (C, N9)) _
          refine AR.blk 13 (f' := (56, [some (vA m), some (vI ((ho + 1) % 4)), some (vI k), some (vI (5 - k))], [vI 1, vI ((ho + 1) % 4), vI ((6 * (5 - k)) + 2), vA m], (C, N9))) (fun _ => rfl) ?_
          refine AR.ic_ne rfl (by omega) (fun c20 => ?_) (fun c20 => ?_)
          · exact False.elim (by omega)
          · show AR E d _ (59, [some (vA m), some (vI ((ho + 1) % 4)), some (vI k), some (vI (5 - k))], [vI ((6 * (5 - k)) + 2), vA m], (C, N9)) _
            refine AR.blk 2 (f' := (64, [some (vA m), some (vI ((ho + 1) % 4)), some (vI k), some (vI (5 - k))], [vI 0, vI ((6 * (5 - k)) + 2), vA m], (C, N9))) (fun _ => rfl) ?_
            obtain ⟨_, hE21, N22, rfl, hr23, hz24, hk25, hf26⟩ := ev_X7_carries (E := E) (d := d) (by omega) hm hr9 hw9 hz9 ((6 * (5 - k)) + 2) 0 (by omega) (by omega)
            have KN22 : ∀ i, 6 ≤ i ∧ i < 8 ∨ 67 ≤ i → N22 (m + 1) i = N (m + 1) i := fun i hi => (hk25 i hi).trans (hk9 i hi)
            have FN22 : ∀ a, a ≠ m + 1 → N22 a = N a := fun a ha => (hf26 a ha).trans (hf9 a ha)
            have WN22 := m_drP_w hw9 (show 0 ≤ ((6 * (5 - k)) + 2) ∧ ((6 * (5 - k)) + 2) < 36 by omega) (show 0 ≤ 0 ∧ 0 < 4 by omega)
            refine AR.callV [vI ((6 * (5 - k)) + 2), vI 0] hE21 hm.1 rfl rfl rfl rfl rfl ?_
            show AR E d _ (67, [some (vA m), some (vI ((ho + 1) % 4)), some (vI k), some (vI (5 - k))], [], (C, N22)) _
            refine AR.blk 8 (f' := (76, [some (vA m), some (vI ((ho + 1) % 4)), some (vI k), some (vI (5 - k))], [vI 1, vI ((ho + 1) % 4), vI ((6 * (5 - k)) + 3), vA m], (C, N22))) (fun _ => rfl) ?_
            refine AR.ic_ne rfl (by omega) (fun c27 => ?_) (fun c27 => ?_)
            · exact False.elim (by omega)
            · show AR E d _ (79, [some (vA m), some (vI ((ho + 1) % 4)), some (vI k), some (vI (5 - k))], [vI ((6 * (5 - k)) + 3), vA m], (C, N22)) _
              refine AR.blk 2 (f' := (84, [some (vA m), some (vI ((ho + 1) % 4)), some (vI k), some (vI (5 - k))], [vI 0, vI ((6 * (5 - k)) + 3), vA m], (C, N22))) (fun _ => rfl) ?_
              obtain ⟨_, hE28, N29, rfl, hr30, hz31, hk32, hf33⟩ := ev_X7_carries (E := E) (d := d) (by omega) hm hr23 WN22 hz24 ((6 * (5 - k)) + 3) 0 (by omega) (by omega)
              have KN29 : ∀ i, 6 ≤ i ∧ i < 8 ∨ 67 ≤ i → N29 (m + 1) i = N (m + 1) i := fun i hi => (hk32 i hi).trans (KN22 i hi)
              have FN29 : ∀ a, a ≠ m + 1 → N29 a = N a := fun a ha => (hf33 a ha).trans (FN22 a ha)
              have WN29 := m_drP_w WN22 (show 0 ≤ ((6 * (5 - k)) + 3) ∧ ((6 * (5 - k)) + 3) < 36 by omega) (show 0 ≤ 0 ∧ 0 < 4 by omega)
              refine AR.callV [vI ((6 * (5 - k)) + 3), vI 0] hE28 hm.1 rfl rfl rfl rfl rfl ?_
              show AR E d _ (87, [some (vA m), some (vI ((ho + 1) % 4)), some (vI k), some (vI (5 - k))], [], (C, N29)) _
              refine AR.blk 2 (f' := (21, [some (vA m), some (vI ((ho + 1) % 4)), some (vI (k + 1)), some (vI (5 - k))], [], (C, N29))) (fun _ => rfl) ?_
              exact ih21 _ _ (_) _ (by omega) (by omega) (by have e : x0 = 0 := (by omega); subst e; rw [m_rv_S P n q cl 0 k (by omega), show m_end 2 0 k = 6 * (5 - k) + 2 by (unfold m_end; omega), show m_end 3 0 k = 6 * (5 - k) + 3 by (unfold m_end; omega)]; rw [i1]; dsimp only; omega) (by have e : x0 = 0 := (by omega); subst e; rw [m_rv_S P n q cl 0 k (by omega), show m_end 2 0 k = 6 * (5 - k) + 2 by (unfold m_end; omega), show m_end 3 0 k = 6 * (5 - k) + 3 by (unfold m_end; omega)]; exact hr30) (by have e : x0 = 0 := (by omega); subst e; rw [m_rv_S P n q cl 0 k (by omega), show m_end 2 0 k = 6 * (5 - k) + 2 by (unfold m_end; omega), show m_end 3 0 k = 6 * (5 - k) + 3 by (unfold m_end; omega)]; exact WN29) hz31 KN29 FN29
end L2o
