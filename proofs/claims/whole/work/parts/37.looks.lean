/-! LEVEL 2: the model looks at the position -/
def m_cn (x : Int × Int) : List ((Int × Int) × Int) → Int
  | [] => 1
  | y :: r => if y.1.1 = x.1 ∧ y.1.2 = x.2 then y.2 + 1 else m_cn x r
theorem m_add_new (x : Int × Int) : ∀ D, m_ix x D = D.length → m_add x D = D ++ [(x, 1)] ∧ m_cn x D = 1 := by
  intro D
  induction D with
  | nil => intro _; exact ⟨rfl, rfl⟩
  | cons y r ih =>
    intro h
    unfold m_ix at h
    unfold m_add m_cn
    by_cases e : y.1.1 = x.1 ∧ y.1.2 = x.2
    · rw [if_pos e, List.length_cons] at h; omega
    · rw [if_neg e, List.length_cons] at h
      have h2 := ih (by omega)
      rw [if_neg e, if_neg e, h2.1]
      exact ⟨rfl, h2.2⟩
theorem m_add_old (x : Int × Int) : ∀ D, m_ix x D ≠ D.length → ∃ z, D[m_ix x D]? = some (x, z) ∧ m_add x D = D.set (m_ix x D) (x, z + 1) ∧ m_cn x D = z + 1 := by
  intro D
  induction D with
  | nil => intro h; exact absurd rfl h
  | cons y r ih =>
    intro h
    by_cases e : y.1.1 = x.1 ∧ y.1.2 = x.2
    · have e2 : y.1 = x := Prod.ext e.1 e.2
      have e3 : m_ix x (y :: r) = 0 := if_pos e
      refine ⟨y.2, ?_, ?_, if_pos e⟩
      · rw [e3]; show some y = _; rw [← e2]
      · rw [e3]; show m_add x (y :: r) = (x, y.2 + 1) :: r; rw [← e2]; exact if_pos ⟨rfl, rfl⟩
    · have e3 : m_ix x (y :: r) = m_ix x r + 1 := if_neg e
      rw [e3, List.length_cons] at h
      obtain ⟨z, h1, h2, h3⟩ := ih (by omega)
      refine ⟨z, ?_, ?_, (if_neg e).trans h3⟩
      · rw [e3]; exact h1
      · rw [e3, show m_add x (y :: r) = y :: m_add x r from if_neg e, h2]; rfl
theorem g_ent_fr {R R' : Int → Int} {a : Int} {y : (Int × Int) × Int} (h : g_ent R a y) (hf : ∀ k, 0 ≤ k → k < 6 → R' (a + k) = R (a + k)) : g_ent R' a y := by
  obtain ⟨e1, P, c, w, hv, e2, e3, e4⟩ := h
  exact ⟨(hf 5 (by omega) (by omega)).trans e1, P, c, w, hv, e2, fun k h0 h1 => (hf k h0 (by omega)).trans (e3 k h0 h1), (hf 4 (by omega) (by omega)).trans e4⟩
theorem g_rD_new {R R' : Int → Int} {D : List ((Int × Int) × Int)} {P c : Int → Int} {w : Int} (h : g_rD R D) (hv : m_vp P c w) (h67 : R' 67 = D.length + 1) (hf : ∀ i : Int, 68 ≤ i → i < 68 + 6 * (D.length : Int) → R' i = R i) (hp : ∀ k, 0 ≤ k → k < 4 → R' (68 + 6 * D.length + k) = m_bp P k) (h4 : R' (68 + 6 * D.length + 4) = m_rest c w) (h5 : R' (68 + 6 * D.length + 5) = 1) : g_rD R' (D ++ [(m_key P c w, 1)]) := by
  refine ⟨by rw [h67, List.length_append]; show (D.length : Int) + 1 = ((D.length + 1 : Nat) : Int); omega, fun i y hy => ?_⟩
  by_cases q : i < D.length
  · rw [List.getElem?_append_left q] at hy
    exact g_ent_fr (h.2 i y hy) (fun k h0 h1 => hf (68 + 6 * (i : Int) + k) (by omega) (by omega))
  · rw [List.getElem?_append_right (by omega)] at hy
    have e : i - D.length = 0 := by
      by_cases z : i - D.length = 0
      · exact z
      · rw [List.getElem?_eq_none (by show 1 ≤ _; omega)] at hy; cases hy
    rw [e] at hy
    cases hy
    rw [show (i : Int) = D.length by omega]
    exact ⟨h5, P, c, w, hv, rfl, hp, h4⟩
theorem g_rD_old {R R' : Int → Int} {D : List ((Int × Int) × Int)} {x : Int × Int} {z : Int} (h : g_rD R D) (j : Nat) (hj : D[j]? = some (x, z)) (h5 : R' (68 + 6 * j + 5) = z + 1) (hf : ∀ i : Int, 67 ≤ i → i ≠ 68 + 6 * (j : Int) + 5 → R' i = R i) : g_rD R' (D.set j (x, z + 1)) := by
  refine ⟨by rw [List.length_set, hf 67 (by omega) (by omega)]; exact h.1, fun i y hy => ?_⟩
  by_cases q : j = i
  · subst q
    have hl : j < D.length := by
      by_cases l : j < D.length
      · exact l
      · rw [List.getElem?_eq_none (by omega)] at hj; cases hj
    rw [List.getElem?_set_self hl] at hy
    cases hy
    obtain ⟨e1, P, c, w, hv, e2, e3, e4⟩ := h.2 j _ hj
    exact ⟨h5, P, c, w, hv, e2, fun k h0 h1 => (hf _ (by omega) (by omega)).trans (e3 k h0 h1), (hf _ (by omega) (by omega)).trans e4⟩
  · rw [List.getElem?_set_ne q] at hy
    exact g_ent_fr (h.2 i y hy) (fun k h0 h1 => hf _ (by omega) (by omega))
/-- the ending that the model finds -/
def m_end2 (P : Int → Int) (n : Int) (q cl : Int → Int) (t z : Int) : Int := if m_cnt P 0 = 0 then 2 else if m_cnt P 1 = 0 then 1 else if z = 3 then 3 else if m_mvs P n q cl t 1 0 = 0 then (if t % 2 = 0 then 2 else 1) else if t = 120 then 3 else 0
def g_QL (C : List ag_C) (N : Nat → Int → Int) (m : Nat) (o : Option av) (P : Int → Int) (n : Int) (q p cl tn : Int → Int) (t en ca : Int) (gn pu mk : Int → Int) (D : List ((Int × Int) × Int)) : ag_O → Prop := fun r => ∃ N', r = (o, (C, N')) ∧ g_rR (N' (m + 1)) P n q p cl tn ∧ g_rZ (N' (m + 1)) t (t % 2) (t / 4) 1 en ca gn pu mk ∧ g_rD (N' (m + 1)) D ∧ (∀ i, 6 ≤ i ∧ i < 8 → N' (m + 1) i = N (m + 1) i) ∧ ∀ a, a ≠ m + 1 → N' a = N a
section L2p
variable {E : Nat × (Int → Int)} {C : List ag_C} {N : Nat → Int → Int} {m : Nat} {P : Int → Int} {n : Int} {q p cl tn : Int → Int} {t ca : Int} {gn pu mk : Int → Int} {D : List ((Int × Int) × Int)}

theorem ag_upd_row (N : Nat → Int → Int) (a : Nat) (i z : Int) : ag_upd N a i z a = m_set (N a) i z := by
  funext k
  unfold ag_upd m_set
  by_cases e : k = i
  · rw [if_pos ⟨rfl, e⟩, if_pos e]
  · rw [if_neg (fun h => e h.2), if_neg e]

theorem g_look1 {R : Int → Int} {D : List ((Int × Int) × Int)} (hD : g_rD R D) (hC : ∀ y, y ∈ D → 0 ≤ y.2 ∧ y.2 ≤ 1000) (x : Int × Int) : ∃ z8 : Int, ((m_ix x D : Int) ≠ D.length → D[m_ix x D]? = some (x, z8)) ∧ ((m_ix x D : Int) ≠ D.length → R ((68 + (6 * (m_ix x D : Int))) + 5) = z8) ∧ ((m_ix x D : Int) ≠ D.length → m_add x D = D.set (m_ix x D) (x, z8 + 1) ∧ m_cn x D = z8 + 1) ∧ (0 ≤ z8 ∧ z8 ≤ 1000) := by
  by_cases q : m_ix x D = D.length
  · exact ⟨0, fun z => absurd q (by omega), fun z => absurd q (by omega), fun z => absurd q (by omega), by omega⟩
  · obtain ⟨z, h1, h2, h3⟩ := m_add_old x D q
    exact ⟨z, fun _ => h1, fun _ => (hD.2 _ _ h1).1, fun _ => ⟨h2, h3⟩, hC _ (List.mem_of_getElem? h1)⟩

theorem ev_X7_looks {d : Nat} (hd : 7 ≤ d) (hm : g_isM C m) (hr : g_rR (N (m + 1)) P n q p cl tn) (hw : g_wB P n q p cl tn) (hz : g_rZ (N (m + 1)) t (t % 2) (t / 4) 1 0 ca gn pu mk) (hv : g_wS t 1 0 ca gn pu mk) (hD : g_rD (N (m + 1)) D) (hDl : D.length ≤ 120) (hC : ∀ y, y ∈ D → 0 ≤ y.2 ∧ y.2 ≤ 1000) : ∃ o_, Ev E d 137 [vA m] (C, N) o_ ∧ g_QL C N m (some (vI (m_cn (m_key P cl (t % 2)) D))) P n q p cl tn t (m_end2 P n q cl t (m_cn (m_key P cl (t % 2)) D)) ca gn pu mk (m_add (m_key P cl (t % 2)) D) o_ := by
  obtain ⟨d, rfl⟩ : ∃ j, d = j + 1 := ⟨d - 1, by omega⟩
  have y0 := hw.2.2.1
  have y1 := hv.1
  have hvp : m_vp P cl (t % 2) := ⟨hw.1, fun k => (hw.2.2.2.2.1 k).1, by omega⟩
  refine Ev.introQ (M := ag_mX7_looks) rfl rfl ?_
  show AR E d _ (0, [some (vA m), none, none], [], (C, N)) _
  refine AR.blk 3 (f' := (5, [some (vA m), none, none], [vA m, vI 6, vI 68], (C, N))) (fun _ => rfl) ?_
  refine AR.callV [] (ev_X7_position (by omega) hm hr hw (show g_rS (N (m + 1)) t 1 0 ca gn pu mk from hz) hv hD (by omega)  ) hm.1 rfl rfl rfl rfl rfl ?_
  show AR E d _ (8, [some (vA m), none, none], [vI (m_ix (m_key P cl (t % 2)) D : Int), vI 6, vI 68], (C, N)) _
  have f1 := m_ix_le (m_key P cl (t % 2)) D
  refine AR.blk 4 (f' := (12, [some (vA m), some (vI (68 + (6 * (m_ix (m_key P cl (t % 2)) D : Int)))), none], [vA m], (C, N))) (fun _ => rfl) ?_
  refine AR.callV [] (ev_X7_position (by omega) hm hr hw (show g_rS (N (m + 1)) t 1 0 ca gn pu mk from hz) hv hD (by omega)  ) hm.1 rfl rfl rfl rfl rfl ?_
  show AR E d _ (15, [some (vA m), some (vI (68 + (6 * (m_ix (m_key P cl (t % 2)) D : Int)))), none], [vI (m_ix (m_key P cl (t % 2)) D : Int)], (C, N)) _
  have f2 := m_ix_le (m_key P cl (t % 2)) D
  refine AR.blk 1 (f' := (16, [some (vA m), some (vI (68 + (6 * (m_ix (m_key P cl (t % 2)) D : Int)))), none], [vA m, vI (m_ix (m_key P cl (t % 2)) D : Int)], (C, N))) (fun _ => rfl) ?_
  refine AR.getR rfl rfl hm.1 (by decide) rfl ?_
  refine AR.blk 1 (f' := (21, [some (vA m), some (vI (68 + (6 * (m_ix (m_key P cl (t % 2)) D : Int)))), none], [vI 67, vA (m + 1), vI (m_ix (m_key P cl (t % 2)) D : Int)], (C, N))) (fun _ => rfl) ?_
  refine AR.iald rfl hm.2.1 (by omega) (v := (D.length : Int)) hD.1 ?_
  obtain ⟨z8, hz7, hz8, hz9, hzb⟩ : ∃ z8 : Int, ((m_ix (m_key P cl (t % 2)) D : Int) ≠ D.length → D[m_ix (m_key P cl (t % 2)) D]? = some (m_key P cl (t % 2), z8)) ∧ ((m_ix (m_key P cl (t % 2)) D : Int) ≠ D.length → N (m + 1) ((68 + (6 * (m_ix (m_key P cl (t % 2)) D : Int))) + 5) = z8) ∧ ((m_ix (m_key P cl (t % 2)) D : Int) ≠ D.length → m_add (m_key P cl (t % 2)) D = D.set (m_ix (m_key P cl (t % 2)) D) (m_key P cl (t % 2), z8 + 1) ∧ m_cn (m_key P cl (t % 2)) D = z8 + 1) ∧ (0 ≤ z8 ∧ z8 ≤ 1000) := g_look1 hD hC _
  refine AR.ic_ne rfl (by omega) (fun c3 => ?_) (fun c3 => ?_)
  · show AR E d _ (83, [some (vA m), some (vI (68 + (6 * (m_ix (m_key P cl (t % 2)) D : Int)))), none], [], (C, N)) _
    refine AR.blk 1 (f' := (84, [some (vA m), some (vI (68 + (6 * (m_ix (m_key P cl (t % 2)) D : Int)))), none], [vA m], (C, N))) (fun _ => rfl) ?_
    refine AR.getR rfl rfl hm.1 (by decide) rfl ?_
    refine AR.blk 4 (f' := (91, [some (vA m), some (vI (68 + (6 * (m_ix (m_key P cl (t % 2)) D : Int)))), none], [vI ((68 + (6 * (m_ix (m_key P cl (t % 2)) D : Int))) + 5), vA (m + 1), vI ((68 + (6 * (m_ix (m_key P cl (t % 2)) D : Int))) + 5), vA (m + 1)], (C, N))) (fun _ => rfl) ?_
    refine AR.iald rfl hm.2.1 (by omega) (v := z8) (hz8 (by omega)) ?_
    refine AR.blk 2 (f' := (94, [some (vA m), some (vI (68 + (6 * (m_ix (m_key P cl (t % 2)) D : Int)))), none], [vI (z8 + 1), vI ((68 + (6 * (m_ix (m_key P cl (t % 2)) D : Int))) + 5), vA (m + 1)], (C, N))) (fun _ => rfl) ?_
    refine AR.iast rfl hm.2.1 (by omega) ?_
    show AR E d _ (95, [some (vA m), some (vI (68 + (6 * (m_ix (m_key P cl (t % 2)) D : Int)))), none], [], (C, ag_upd N (m + 1) ((68 + (6 * (m_ix (m_key P cl (t % 2)) D : Int))) + 5) (z8 + 1))) _
    have RN5 := g_rR_fr hr (R' := (ag_upd N (m + 1) ((68 + (6 * (m_ix (m_key P cl (t % 2)) D : Int))) + 5) (z8 + 1)) (m + 1)) (fun i z0 z1 => ag_upd_nk (by omega))
    have ZN5 := g_rZ_fr hz (R' := (ag_upd N (m + 1) ((68 + (6 * (m_ix (m_key P cl (t % 2)) D : Int))) + 5) (z8 + 1)) (m + 1)) (fun i z0 z1 => ag_upd_nk (by omega))
    have FN5 : ∀ a, a ≠ m + 1 → (ag_upd N (m + 1) ((68 + (6 * (m_ix (m_key P cl (t % 2)) D : Int))) + 5) (z8 + 1)) a = N a := fun a ha => (ag_upd_ne ha).trans ((fun _ _ => rfl) a ha)
    have XN5 : (ag_upd N (m + 1) ((68 + (6 * (m_ix (m_key P cl (t % 2)) D : Int))) + 5) (z8 + 1)) (m + 1) = m_set (N (m + 1)) ((68 + (6 * (m_ix (m_key P cl (t % 2)) D : Int))) + 5) (z8 + 1) := (ag_upd_row _ _ _ _).trans (congrArg (fun f => m_set f ((68 + (6 * (m_ix (m_key P cl (t % 2)) D : Int))) + 5) (z8 + 1)) rfl)
    have cN5 : (ag_upd N (m + 1) ((68 + (6 * (m_ix (m_key P cl (t % 2)) D : Int))) + 5) (z8 + 1)) (m + 1) ((68 + (6 * (m_ix (m_key P cl (t % 2)) D : Int))) + 5) = (z8 + 1) := ag_upd_eq
    generalize ag_upd N (m + 1) ((68 + (6 * (m_ix (m_key P cl (t % 2)) D : Int))) + 5) (z8 + 1) = N5 at *
    refine AR.blk 2 (f' := (97, [some (vA m), some (vI (68 + (6 * (m_ix (m_key P cl (t % 2)) D : Int)))), none], [vI 0, vA m], (C, N5))) (fun _ => rfl) ?_
    refine AR.callV [vI 0] (ev_X7_pieces (by omega) hm RN5 hw 0 (by omega)) hm.1 rfl rfl rfl rfl rfl ?_
    show AR E d _ (100, [some (vA m), some (vI (68 + (6 * (m_ix (m_key P cl (t % 2)) D : Int)))), none], [vI (m_cnt P 0)], (C, N5)) _
    have f6 := m_cnt_in P 0
    refine AR.if_eq rfl (by omega) (fun c7 => ?_) (fun c7 => ?_)
    · show AR E d _ (111, [some (vA m), some (vI (68 + (6 * (m_ix (m_key P cl (t % 2)) D : Int)))), none], [], (C, N5)) _
      refine AR.blk 1 (f' := (112, [some (vA m), some (vI (68 + (6 * (m_ix (m_key P cl (t % 2)) D : Int)))), none], [vA m], (C, N5))) (fun _ => rfl) ?_
      refine AR.getR rfl rfl hm.1 (by decide) rfl ?_
      refine AR.blk 3 (f' := (118, [some (vA m), some (vI (68 + (6 * (m_ix (m_key P cl (t % 2)) D : Int)))), none], [vI 0, vA m, vI 4, vA (m + 1)], (C, N5))) (fun _ => rfl) ?_
      refine AR.callV [vI 0] (ev_X7_pieces (by omega) hm RN5 hw 0 (by omega)) hm.1 rfl rfl rfl rfl rfl ?_
      show AR E d _ (121, [some (vA m), some (vI (68 + (6 * (m_ix (m_key P cl (t % 2)) D : Int)))), none], [vI (m_cnt P 0), vI 4, vA (m + 1)], (C, N5)) _
      have f8 := m_cnt_in P 0
      refine AR.if_ne rfl (by omega) (fun c9 => ?_) (fun c9 => ?_)
      · exact False.elim (by omega)
      · show AR E d _ (124, [some (vA m), some (vI (68 + (6 * (m_ix (m_key P cl (t % 2)) D : Int)))), none], [vI 4, vA (m + 1)], (C, N5)) _
        refine AR.blk 2 (f' := (129, [some (vA m), some (vI (68 + (6 * (m_ix (m_key P cl (t % 2)) D : Int)))), none], [vI 2, vI 4, vA (m + 1)], (C, N5))) (fun _ => rfl) ?_
        refine AR.iast rfl hm.2.1 (by omega) ?_
        show AR E d _ (130, [some (vA m), some (vI (68 + (6 * (m_ix (m_key P cl (t % 2)) D : Int)))), none], [], (C, ag_upd N5 (m + 1) 4 2)) _
        have RN11 := g_rR_fr RN5 (R' := (ag_upd N5 (m + 1) 4 2) (m + 1)) (fun i z0 z1 => ag_upd_nk (by omega))
        have ZN11 := g_rZ_en ZN5 2
        have FN11 : ∀ a, a ≠ m + 1 → (ag_upd N5 (m + 1) 4 2) a = N a := fun a ha => (ag_upd_ne ha).trans (FN5 a ha)
        have XN11 : (ag_upd N5 (m + 1) 4 2) (m + 1) = m_set (m_set (N (m + 1)) ((68 + (6 * (m_ix (m_key P cl (t % 2)) D : Int))) + 5) (z8 + 1)) 4 2 := (ag_upd_row _ _ _ _).trans (congrArg (fun f => m_set f 4 2) XN5)
        have cN11 : (ag_upd N5 (m + 1) 4 2) (m + 1) ((68 + (6 * (m_ix (m_key P cl (t % 2)) D : Int))) + 5) = (z8 + 1) := (ag_upd_nk (by omega)).trans cN5
        generalize ag_upd N5 (m + 1) 4 2 = N11 at *
        refine AR.blk 2 (f' := (204, [some (vA m), some (vI (68 + (6 * (m_ix (m_key P cl (t % 2)) D : Int)))), none], [vA m], (C, N11))) (fun _ => rfl) ?_
        refine AR.getR rfl rfl hm.1 (by decide) rfl ?_
        refine AR.blk 3 (f' := (210, [some (vA m), some (vI (68 + (6 * (m_ix (m_key P cl (t % 2)) D : Int)))), none], [vI ((68 + (6 * (m_ix (m_key P cl (t % 2)) D : Int))) + 5), vA (m + 1)], (C, N11))) (fun _ => rfl) ?_
        refine AR.iald rfl hm.2.1 (by omega) (v := z8 + 1) cN11 ?_
        refine AR.endI rfl (.inl rfl) ?_
        have u1 : m_cn (m_key P cl (t % 2)) D = z8 + 1 := (hz9 (by omega)).2
        have u2 : m_end2 P n q cl t (m_cn (m_key P cl (t % 2)) D) = 2 := by rw [u1]; unfold m_end2; omega
        have u3 : g_rD (N11 (m + 1)) (m_add (m_key P cl (t % 2)) D) := by rw [(hz9 (by omega)).1, XN11]; exact g_rD_old hD _ (hz7 (by omega)) (by (first | (simp only [m_set, if_true, if_false]; done) | (simp only [m_set, if_true, if_false]; omega) | (simp only [m_set]; omega))) (fun i z0 z1 => by (first | (simp only [m_set, if_true, if_false]; done) | (simp only [m_set, if_true, if_false]; omega) | (simp only [m_set]; omega)))
        have u4 : ∀ i, 6 ≤ i ∧ i < 8 → N11 (m + 1) i = N (m + 1) i := fun i hi => by rw [XN11]; (first | (simp only [m_set, if_true, if_false]; done) | (simp only [m_set, if_true, if_false]; omega) | (simp only [m_set]; omega))
        rw [u2, u1]
        exact ⟨_, rfl, RN11, ZN11, u3, u4, FN11⟩
    · show AR E d _ (103, [some (vA m), some (vI (68 + (6 * (m_ix (m_key P cl (t % 2)) D : Int)))), none], [], (C, N5)) _
      refine AR.blk 2 (f' := (105, [some (vA m), some (vI (68 + (6 * (m_ix (m_key P cl (t % 2)) D : Int)))), none], [vI 1, vA m], (C, N5))) (fun _ => rfl) ?_
      refine AR.callV [vI 1] (ev_X7_pieces (by omega) hm RN5 hw 1 (by omega)) hm.1 rfl rfl rfl rfl rfl ?_
      show AR E d _ (108, [some (vA m), some (vI (68 + (6 * (m_ix (m_key P cl (t % 2)) D : Int)))), none], [vI (m_cnt P 1)], (C, N5)) _
      have f12 := m_cnt_in P 1
      refine AR.if_ne rfl (by omega) (fun c13 => ?_) (fun c13 => ?_)
      · show AR E d _ (133, [some (vA m), some (vI (68 + (6 * (m_ix (m_key P cl (t % 2)) D : Int)))), none], [], (C, N5)) _
        refine AR.blk 1 (f' := (134, [some (vA m), some (vI (68 + (6 * (m_ix (m_key P cl (t % 2)) D : Int)))), none], [vA m], (C, N5))) (fun _ => rfl) ?_
        refine AR.getR rfl rfl hm.1 (by decide) rfl ?_
        refine AR.blk 3 (f' := (140, [some (vA m), some (vI (68 + (6 * (m_ix (m_key P cl (t % 2)) D : Int)))), none], [vI ((68 + (6 * (m_ix (m_key P cl (t % 2)) D : Int))) + 5), vA (m + 1)], (C, N5))) (fun _ => rfl) ?_
        refine AR.iald rfl hm.2.1 (by omega) (v := z8 + 1) cN5 ?_
        refine AR.blk 1 (f' := (142, [some (vA m), some (vI (68 + (6 * (m_ix (m_key P cl (t % 2)) D : Int)))), none], [vI 3, vI (z8 + 1)], (C, N5))) (fun _ => rfl) ?_
        refine AR.ic_ne rfl (by omega) (fun c14 => ?_) (fun c14 => ?_)
        · show AR E d _ (155, [some (vA m), some (vI (68 + (6 * (m_ix (m_key P cl (t % 2)) D : Int)))), none], [], (C, N5)) _
          refine AR.blk 1 (f' := (156, [some (vA m), some (vI (68 + (6 * (m_ix (m_key P cl (t % 2)) D : Int)))), none], [vA m], (C, N5))) (fun _ => rfl) ?_
          refine AR.callV [] (ev_X7_moves (by omega) hm RN5 hw (show g_rS (N5 (m + 1)) t 1 0 ca gn pu mk from ZN5) hv  ) hm.1 rfl rfl rfl rfl rfl ?_
          show AR E d _ (159, [some (vA m), some (vI (68 + (6 * (m_ix (m_key P cl (t % 2)) D : Int)))), none], [vI (m_mvs P n q cl t 1 0)], (C, N5)) _
          have f15 := m_mvs_in P n q cl t 1 0
          refine AR.if_ne rfl (by omega) (fun c16 => ?_) (fun c16 => ?_)
          · show AR E d _ (185, [some (vA m), some (vI (68 + (6 * (m_ix (m_key P cl (t % 2)) D : Int)))), none], [], (C, N5)) _
            refine AR.blk 1 (f' := (186, [some (vA m), some (vI (68 + (6 * (m_ix (m_key P cl (t % 2)) D : Int)))), none], [vA m], (C, N5))) (fun _ => rfl) ?_
            refine AR.getR rfl rfl hm.1 (by decide) rfl ?_
            refine AR.blk 1 (f' := (190, [some (vA m), some (vI (68 + (6 * (m_ix (m_key P cl (t % 2)) D : Int)))), none], [vI 0, vA (m + 1)], (C, N5))) (fun _ => rfl) ?_
            refine AR.iald rfl hm.2.1 (by omega) (v := t) ZN5.1 ?_
            refine AR.blk 1 (f' := (193, [some (vA m), some (vI (68 + (6 * (m_ix (m_key P cl (t % 2)) D : Int)))), none], [vI 120, vI t], (C, N5))) (fun _ => rfl) ?_
            refine AR.ic_ne rfl (by omega) (fun c17 => ?_) (fun c17 => ?_)
            · show AR E d _ (203, [some (vA m), some (vI (68 + (6 * (m_ix (m_key P cl (t % 2)) D : Int)))), none], [], (C, N5)) _
              refine AR.blk 1 (f' := (204, [some (vA m), some (vI (68 + (6 * (m_ix (m_key P cl (t % 2)) D : Int)))), none], [vA m], (C, N5))) (fun _ => rfl) ?_
              refine AR.getR rfl rfl hm.1 (by decide) rfl ?_
              refine AR.blk 3 (f' := (210, [some (vA m), some (vI (68 + (6 * (m_ix (m_key P cl (t % 2)) D : Int)))), none], [vI ((68 + (6 * (m_ix (m_key P cl (t % 2)) D : Int))) + 5), vA (m + 1)], (C, N5))) (fun _ => rfl) ?_
              refine AR.iald rfl hm.2.1 (by omega) (v := z8 + 1) cN5 ?_
              refine AR.endI rfl (.inl rfl) ?_
              have u1 : m_cn (m_key P cl (t % 2)) D = z8 + 1 := (hz9 (by omega)).2
              have u2 : m_end2 P n q cl t (m_cn (m_key P cl (t % 2)) D) = 0 := by rw [u1]; unfold m_end2; omega
              have u3 : g_rD (N5 (m + 1)) (m_add (m_key P cl (t % 2)) D) := by rw [(hz9 (by omega)).1, XN5]; exact g_rD_old hD _ (hz7 (by omega)) (by (first | (simp only [m_set, if_true, if_false]; done) | (simp only [m_set, if_true, if_false]; omega) | (simp only [m_set]; omega))) (fun i z0 z1 => by (first | (simp only [m_set, if_true, if_false]; done) | (simp only [m_set, if_true, if_false]; omega) | (simp only [m_set]; omega)))
              have u4 : ∀ i, 6 ≤ i ∧ i < 8 → N5 (m + 1) i = N (m + 1) i := fun i hi => by rw [XN5]; (first | (simp only [m_set, if_true, if_false]; done) | (simp only [m_set, if_true, if_false]; omega) | (simp only [m_set]; omega))
              rw [u2, u1]
              exact ⟨_, rfl, RN5, ZN5, u3, u4, FN5⟩
            · show AR E d _ (196, [some (vA m), some (vI (68 + (6 * (m_ix (m_key P cl (t % 2)) D : Int)))), none], [], (C, N5)) _
              refine AR.blk 1 (f' := (197, [some (vA m), some (vI (68 + (6 * (m_ix (m_key P cl (t % 2)) D : Int)))), none], [vA m], (C, N5))) (fun _ => rfl) ?_
              refine AR.getR rfl rfl hm.1 (by decide) rfl ?_
              refine AR.blk 2 (f' := (202, [some (vA m), some (vI (68 + (6 * (m_ix (m_key P cl (t % 2)) D : Int)))), none], [vI 3, vI 4, vA (m + 1)], (C, N5))) (fun _ => rfl) ?_
              refine AR.iast rfl hm.2.1 (by omega) ?_
              show AR E d _ (203, [some (vA m), some (vI (68 + (6 * (m_ix (m_key P cl (t % 2)) D : Int)))), none], [], (C, ag_upd N5 (m + 1) 4 3)) _
              have RN19 := g_rR_fr RN5 (R' := (ag_upd N5 (m + 1) 4 3) (m + 1)) (fun i z0 z1 => ag_upd_nk (by omega))
              have ZN19 := g_rZ_en ZN5 3
              have FN19 : ∀ a, a ≠ m + 1 → (ag_upd N5 (m + 1) 4 3) a = N a := fun a ha => (ag_upd_ne ha).trans (FN5 a ha)
              have XN19 : (ag_upd N5 (m + 1) 4 3) (m + 1) = m_set (m_set (N (m + 1)) ((68 + (6 * (m_ix (m_key P cl (t % 2)) D : Int))) + 5) (z8 + 1)) 4 3 := (ag_upd_row _ _ _ _).trans (congrArg (fun f => m_set f 4 3) XN5)
              have cN19 : (ag_upd N5 (m + 1) 4 3) (m + 1) ((68 + (6 * (m_ix (m_key P cl (t % 2)) D : Int))) + 5) = (z8 + 1) := (ag_upd_nk (by omega)).trans cN5
              generalize ag_upd N5 (m + 1) 4 3 = N19 at *
              refine AR.blk 1 (f' := (204, [some (vA m), some (vI (68 + (6 * (m_ix (m_key P cl (t % 2)) D : Int)))), none], [vA m], (C, N19))) (fun _ => rfl) ?_
              refine AR.getR rfl rfl hm.1 (by decide) rfl ?_
              refine AR.blk 3 (f' := (210, [some (vA m), some (vI (68 + (6 * (m_ix (m_key P cl (t % 2)) D : Int)))), none], [vI ((68 + (6 * (m_ix (m_key P cl (t % 2)) D : Int))) + 5), vA (m + 1)], (C, N19))) (fun _ => rfl) ?_
              refine AR.iald rfl hm.2.1 (by omega) (v := z8 + 1) cN19 ?_
              refine AR.endI rfl (.inl rfl) ?_
              have u1 : m_cn (m_key P cl (t % 2)) D = z8 + 1 := (hz9 (by omega)).2
              have u2 : m_end2 P n q cl t (m_cn (m_key P cl (t % 2)) D) = 3 := by rw [u1]; unfold m_end2; omega
              have u3 : g_rD (N19 (m + 1)) (m_add (m_key P cl (t % 2)) D) := by rw [(hz9 (by omega)).1, XN19]; exact g_rD_old hD _ (hz7 (by omega)) (by (first | (simp only [m_set, if_true, if_false]; done) | (simp only [m_set, if_true, if_false]; omega) | (simp only [m_set]; omega))) (fun i z0 z1 => by (first | (simp only [m_set, if_true, if_false]; done) | (simp only [m_set, if_true, if_false]; omega) | (simp only [m_set]; omega)))
              have u4 : ∀ i, 6 ≤ i ∧ i < 8 → N19 (m + 1) i = N (m + 1) i := fun i hi => by rw [XN19]; (first | (simp only [m_set, if_true, if_false]; done) | (simp only [m_set, if_true, if_false]; omega) | (simp only [m_set]; omega))
              rw [u2, u1]
              exact ⟨_, rfl, RN19, ZN19, u3, u4, FN19⟩
          · show AR E d _ (162, [some (vA m), some (vI (68 + (6 * (m_ix (m_key P cl (t % 2)) D : Int)))), none], [], (C, N5)) _
            refine AR.blk 1 (f' := (163, [some (vA m), some (vI (68 + (6 * (m_ix (m_key P cl (t % 2)) D : Int)))), none], [vA m], (C, N5))) (fun _ => rfl) ?_
            refine AR.getR rfl rfl hm.1 (by decide) rfl ?_
            refine AR.blk 2 (f' := (168, [some (vA m), some (vI (68 + (6 * (m_ix (m_key P cl (t % 2)) D : Int)))), none], [vA m, vI 4, vA (m + 1)], (C, N5))) (fun _ => rfl) ?_
            refine AR.getR rfl rfl hm.1 (by decide) rfl ?_
            refine AR.blk 1 (f' := (172, [some (vA m), some (vI (68 + (6 * (m_ix (m_key P cl (t % 2)) D : Int)))), none], [vI 1, vA (m + 1), vI 4, vA (m + 1)], (C, N5))) (fun _ => rfl) ?_
            refine AR.iald rfl hm.2.1 (by omega) (v := t % 2) ZN5.2.1 ?_
            refine AR.if_ne rfl (by omega) (fun c20 => ?_) (fun c20 => ?_)
            · show AR E d _ (180, [some (vA m), some (vI (68 + (6 * (m_ix (m_key P cl (t % 2)) D : Int)))), none], [vI 4, vA (m + 1)], (C, N5)) _
              refine AR.blk 1 (f' := (181, [some (vA m), some (vI (68 + (6 * (m_ix (m_key P cl (t % 2)) D : Int)))), none], [vI 1, vI 4, vA (m + 1)], (C, N5))) (fun _ => rfl) ?_
              refine AR.iast rfl hm.2.1 (by omega) ?_
              show AR E d _ (182, [some (vA m), some (vI (68 + (6 * (m_ix (m_key P cl (t % 2)) D : Int)))), none], [], (C, ag_upd N5 (m + 1) 4 1)) _
              have RN22 := g_rR_fr RN5 (R' := (ag_upd N5 (m + 1) 4 1) (m + 1)) (fun i z0 z1 => ag_upd_nk (by omega))
              have ZN22 := g_rZ_en ZN5 1
              have FN22 : ∀ a, a ≠ m + 1 → (ag_upd N5 (m + 1) 4 1) a = N a := fun a ha => (ag_upd_ne ha).trans (FN5 a ha)
              have XN22 : (ag_upd N5 (m + 1) 4 1) (m + 1) = m_set (m_set (N (m + 1)) ((68 + (6 * (m_ix (m_key P cl (t % 2)) D : Int))) + 5) (z8 + 1)) 4 1 := (ag_upd_row _ _ _ _).trans (congrArg (fun f => m_set f 4 1) XN5)
              have cN22 : (ag_upd N5 (m + 1) 4 1) (m + 1) ((68 + (6 * (m_ix (m_key P cl (t % 2)) D : Int))) + 5) = (z8 + 1) := (ag_upd_nk (by omega)).trans cN5
              generalize ag_upd N5 (m + 1) 4 1 = N22 at *
              refine AR.blk 2 (f' := (204, [some (vA m), some (vI (68 + (6 * (m_ix (m_key P cl (t % 2)) D : Int)))), none], [vA m], (C, N22))) (fun _ => rfl) ?_
              refine AR.getR rfl rfl hm.1 (by decide) rfl ?_
              refine AR.blk 3 (f' := (210, [some (vA m), some (vI (68 + (6 * (m_ix (m_key P cl (t % 2)) D : Int)))), none], [vI ((68 + (6 * (m_ix (m_key P cl (t % 2)) D : Int))) + 5), vA (m + 1)], (C, N22))) (fun _ => rfl) ?_
              refine AR.iald rfl hm.2.1 (by omega) (v := z8 + 1) cN22 ?_
              refine AR.endI rfl (.inl rfl) ?_
              have u1 : m_cn (m_key P cl (t % 2)) D = z8 + 1 := (hz9 (by omega)).2
              have u2 : m_end2 P n q cl t (m_cn (m_key P cl (t % 2)) D) = 1 := by rw [u1]; unfold m_end2; omega
              have u3 : g_rD (N22 (m + 1)) (m_add (m_key P cl (t % 2)) D) := by rw [(hz9 (by omega)).1, XN22]; exact g_rD_old hD _ (hz7 (by omega)) (by (first | (simp only [m_set, if_true, if_false]; done) | (simp only [m_set, if_true, if_false]; omega) | (simp only [m_set]; omega))) (fun i z0 z1 => by (first | (simp only [m_set, if_true, if_false]; done) | (simp only [m_set, if_true, if_false]; omega) | (simp only [m_set]; omega)))
              have u4 : ∀ i, 6 ≤ i ∧ i < 8 → N22 (m + 1) i = N (m + 1) i := fun i hi => by rw [XN22]; (first | (simp only [m_set, if_true, if_false]; done) | (simp only [m_set, if_true, if_false]; omega) | (simp only [m_set]; omega))
              rw [u2, u1]
              exact ⟨_, rfl, RN22, ZN22, u3, u4, FN22⟩
            · show AR E d _ (176, [some (vA m), some (vI (68 + (6 * (m_ix (m_key P cl (t % 2)) D : Int)))), none], [vI 4, vA (m + 1)], (C, N5)) _
              refine AR.blk 2 (f' := (181, [some (vA m), some (vI (68 + (6 * (m_ix (m_key P cl (t % 2)) D : Int)))), none], [vI 2, vI 4, vA (m + 1)], (C, N5))) (fun _ => rfl) ?_
              refine AR.iast rfl hm.2.1 (by omega) ?_
              show AR E d _ (182, [some (vA m), some (vI (68 + (6 * (m_ix (m_key P cl (t % 2)) D : Int)))), none], [], (C, ag_upd N5 (m + 1) 4 2)) _
              have RN24 := g_rR_fr RN5 (R' := (ag_upd N5 (m + 1) 4 2) (m + 1)) (fun i z0 z1 => ag_upd_nk (by omega))
              have ZN24 := g_rZ_en ZN5 2
              have FN24 : ∀ a, a ≠ m + 1 → (ag_upd N5 (m + 1) 4 2) a = N a := fun a ha => (ag_upd_ne ha).trans (FN5 a ha)
              have XN24 : (ag_upd N5 (m + 1) 4 2) (m + 1) = m_set (m_set (N (m + 1)) ((68 + (6 * (m_ix (m_key P cl (t % 2)) D : Int))) + 5) (z8 + 1)) 4 2 := (ag_upd_row _ _ _ _).trans (congrArg (fun f => m_set f 4 2) XN5)
              have cN24 : (ag_upd N5 (m + 1) 4 2) (m + 1) ((68 + (6 * (m_ix (m_key P cl (t % 2)) D : Int))) + 5) = (z8 + 1) := (ag_upd_nk (by omega)).trans cN5
              generalize ag_upd N5 (m + 1) 4 2 = N24 at *
              refine AR.blk 2 (f' := (204, [some (vA m), some (vI (68 + (6 * (m_ix (m_key P cl (t % 2)) D : Int)))), none], [vA m], (C, N24))) (fun _ => rfl) ?_
              refine AR.getR rfl rfl hm.1 (by decide) rfl ?_
              refine AR.blk 3 (f' := (210, [some (vA m), some (vI (68 + (6 * (m_ix (m_key P cl (t % 2)) D : Int)))), none], [vI ((68 + (6 * (m_ix (m_key P cl (t % 2)) D : Int))) + 5), vA (m + 1)], (C, N24))) (fun _ => rfl) ?_
              refine AR.iald rfl hm.2.1 (by omega) (v := z8 + 1) cN24 ?_
              refine AR.endI rfl (.inl rfl) ?_
              have u1 : m_cn (m_key P cl (t % 2)) D = z8 + 1 := (hz9 (by omega)).2
              have u2 : m_end2 P n q cl t (m_cn (m_key P cl (t % 2)) D) = 2 := by rw [u1]; unfold m_end2; omega
              have u3 : g_rD (N24 (m + 1)) (m_add (m_key P cl (t % 2)) D) := by rw [(hz9 (by omega)).1, XN24]; exact g_rD_old hD _ (hz7 (by omega)) (by (first | (simp only [m_set, if_true, if_false]; done) | (simp only [m_set, if_true, if_false]; omega) | (simp only [m_set]; omega))) (fun i z0 z1 => by (first | (simp only [m_set, if_true, if_false]; done) | (simp only [m_set, if_true, if_false]; omega) | (simp only [m_set]; omega)))
              have u4 : ∀ i, 6 ≤ i ∧ i < 8 → N24 (m + 1) i = N (m + 1) i := fun i hi => by rw [XN24]; (first | (simp only [m_set, if_true, if_false]; done) | (simp only [m_set, if_true, if_false]; omega) | (simp only [m_set]; omega))
              rw [u2, u1]
              exact ⟨_, rfl, RN24, ZN24, u3, u4, FN24⟩
        · show AR E d _ (145, [some (vA m), some (vI (68 + (6 * (m_ix (m_key P cl (t % 2)) D : Int)))), none], [], (C, N5)) _
          refine AR.blk 1 (f' := (146, [some (vA m), some (vI (68 + (6 * (m_ix (m_key P cl (t % 2)) D : Int)))), none], [vA m], (C, N5))) (fun _ => rfl) ?_
          refine AR.getR rfl rfl hm.1 (by decide) rfl ?_
          refine AR.blk 2 (f' := (151, [some (vA m), some (vI (68 + (6 * (m_ix (m_key P cl (t % 2)) D : Int)))), none], [vI 3, vI 4, vA (m + 1)], (C, N5))) (fun _ => rfl) ?_
          refine AR.iast rfl hm.2.1 (by omega) ?_
          show AR E d _ (152, [some (vA m), some (vI (68 + (6 * (m_ix (m_key P cl (t % 2)) D : Int)))), none], [], (C, ag_upd N5 (m + 1) 4 3)) _
          have RN26 := g_rR_fr RN5 (R' := (ag_upd N5 (m + 1) 4 3) (m + 1)) (fun i z0 z1 => ag_upd_nk (by omega))
          have ZN26 := g_rZ_en ZN5 3
          have FN26 : ∀ a, a ≠ m + 1 → (ag_upd N5 (m + 1) 4 3) a = N a := fun a ha => (ag_upd_ne ha).trans (FN5 a ha)
          have XN26 : (ag_upd N5 (m + 1) 4 3) (m + 1) = m_set (m_set (N (m + 1)) ((68 + (6 * (m_ix (m_key P cl (t % 2)) D : Int))) + 5) (z8 + 1)) 4 3 := (ag_upd_row _ _ _ _).trans (congrArg (fun f => m_set f 4 3) XN5)
          have cN26 : (ag_upd N5 (m + 1) 4 3) (m + 1) ((68 + (6 * (m_ix (m_key P cl (t % 2)) D : Int))) + 5) = (z8 + 1) := (ag_upd_nk (by omega)).trans cN5
          generalize ag_upd N5 (m + 1) 4 3 = N26 at *
          refine AR.blk 2 (f' := (204, [some (vA m), some (vI (68 + (6 * (m_ix (m_key P cl (t % 2)) D : Int)))), none], [vA m], (C, N26))) (fun _ => rfl) ?_
          refine AR.getR rfl rfl hm.1 (by decide) rfl ?_
          refine AR.blk 3 (f' := (210, [some (vA m), some (vI (68 + (6 * (m_ix (m_key P cl (t % 2)) D : Int)))), none], [vI ((68 + (6 * (m_ix (m_key P cl (t % 2)) D : Int))) + 5), vA (m + 1)], (C, N26))) (fun _ => rfl) ?_
          refine AR.iald rfl hm.2.1 (by omega) (v := z8 + 1) cN26 ?_
          refine AR.endI rfl (.inl rfl) ?_
          have u1 : m_cn (m_key P cl (t % 2)) D = z8 + 1 := (hz9 (by omega)).2
          have u2 : m_end2 P n q cl t (m_cn (m_key P cl (t % 2)) D) = 3 := by rw [u1]; unfold m_end2; omega
          have u3 : g_rD (N26 (m + 1)) (m_add (m_key P cl (t % 2)) D) := by rw [(hz9 (by omega)).1, XN26]; exact g_rD_old hD _ (hz7 (by omega)) (by (first | (simp only [m_set, if_true, if_false]; done) | (simp only [m_set, if_true, if_false]; omega) | (simp only [m_set]; omega))) (fun i z0 z1 => by (first | (simp only [m_set, if_true, if_false]; done) | (simp only [m_set, if_true, if_false]; omega) | (simp only [m_set]; omega)))
          have u4 : ∀ i, 6 ≤ i ∧ i < 8 → N26 (m + 1) i = N (m + 1) i := fun i hi => by rw [XN26]; (first | (simp only [m_set, if_true, if_false]; done) | (simp only [m_set, if_true, if_false]; omega) | (simp only [m_set]; omega))
          rw [u2, u1]
          exact ⟨_, rfl, RN26, ZN26, u3, u4, FN26⟩
      · show AR E d _ (111, [some (vA m), some (vI (68 + (6 * (m_ix (m_key P cl (t % 2)) D : Int)))), none], [], (C, N5)) _
        refine AR.blk 1 (f' := (112, [some (vA m), some (vI (68 + (6 * (m_ix (m_key P cl (t % 2)) D : Int)))), none], [vA m], (C, N5))) (fun _ => rfl) ?_
        refine AR.getR rfl rfl hm.1 (by decide) rfl ?_
        refine AR.blk 3 (f' := (118, [some (vA m), some (vI (68 + (6 * (m_ix (m_key P cl (t % 2)) D : Int)))), none], [vI 0, vA m, vI 4, vA (m + 1)], (C, N5))) (fun _ => rfl) ?_
        refine AR.callV [vI 0] (ev_X7_pieces (by omega) hm RN5 hw 0 (by omega)) hm.1 rfl rfl rfl rfl rfl ?_
        show AR E d _ (121, [some (vA m), some (vI (68 + (6 * (m_ix (m_key P cl (t % 2)) D : Int)))), none], [vI (m_cnt P 0), vI 4, vA (m + 1)], (C, N5)) _
        have f27 := m_cnt_in P 0
        refine AR.if_ne rfl (by omega) (fun c28 => ?_) (fun c28 => ?_)
        · show AR E d _ (128, [some (vA m), some (vI (68 + (6 * (m_ix (m_key P cl (t % 2)) D : Int)))), none], [vI 4, vA (m + 1)], (C, N5)) _
          refine AR.blk 1 (f' := (129, [some (vA m), some (vI (68 + (6 * (m_ix (m_key P cl (t % 2)) D : Int)))), none], [vI 1, vI 4, vA (m + 1)], (C, N5))) (fun _ => rfl) ?_
          refine AR.iast rfl hm.2.1 (by omega) ?_
          show AR E d _ (130, [some (vA m), some (vI (68 + (6 * (m_ix (m_key P cl (t % 2)) D : Int)))), none], [], (C, ag_upd N5 (m + 1) 4 1)) _
          have RN30 := g_rR_fr RN5 (R' := (ag_upd N5 (m + 1) 4 1) (m + 1)) (fun i z0 z1 => ag_upd_nk (by omega))
          have ZN30 := g_rZ_en ZN5 1
          have FN30 : ∀ a, a ≠ m + 1 → (ag_upd N5 (m + 1) 4 1) a = N a := fun a ha => (ag_upd_ne ha).trans (FN5 a ha)
          have XN30 : (ag_upd N5 (m + 1) 4 1) (m + 1) = m_set (m_set (N (m + 1)) ((68 + (6 * (m_ix (m_key P cl (t % 2)) D : Int))) + 5) (z8 + 1)) 4 1 := (ag_upd_row _ _ _ _).trans (congrArg (fun f => m_set f 4 1) XN5)
          have cN30 : (ag_upd N5 (m + 1) 4 1) (m + 1) ((68 + (6 * (m_ix (m_key P cl (t % 2)) D : Int))) + 5) = (z8 + 1) := (ag_upd_nk (by omega)).trans cN5
          generalize ag_upd N5 (m + 1) 4 1 = N30 at *
          refine AR.blk 2 (f' := (204, [some (vA m), some (vI (68 + (6 * (m_ix (m_key P cl (t % 2)) D : Int)))), none], [vA m], (C, N30))) (fun _ => rfl) ?_
          refine AR.getR rfl rfl hm.1 (by decide) rfl ?_
          refine AR.blk 3 (f' := (210, [some (vA m), some (vI (68 + (6 * (m_ix (m_key P cl (t % 2)) D : Int)))), none], [vI ((68 + (6 * (m_ix (m_key P cl (t % 2)) D : Int))) + 5), vA (m + 1)], (C, N30))) (fun _ => rfl) ?_
          refine AR.iald rfl hm.2.1 (by omega) (v := z8 + 1) cN30 ?_
          refine AR.endI rfl (.inl rfl) ?_
          have u1 : m_cn (m_key P cl (t % 2)) D = z8 + 1 := (hz9 (by omega)).2
          have u2 : m_end2 P n q cl t (m_cn (m_key P cl (t % 2)) D) = 1 := by rw [u1]; unfold m_end2; omega
          have u3 : g_rD (N30 (m + 1)) (m_add (m_key P cl (t % 2)) D) := by rw [(hz9 (by omega)).1, XN30]; exact g_rD_old hD _ (hz7 (by omega)) (by (first | (simp only [m_set, if_true, if_false]; done) | (simp only [m_set, if_true, if_false]; omega) | (simp only [m_set]; omega))) (fun i z0 z1 => by (first | (simp only [m_set, if_true, if_false]; done) | (simp only [m_set, if_true, if_false]; omega) | (simp only [m_set]; omega)))
          have u4 : ∀ i, 6 ≤ i ∧ i < 8 → N30 (m + 1) i = N (m + 1) i := fun i hi => by rw [XN30]; (first | (simp only [m_set, if_true, if_false]; done) | (simp only [m_set, if_true, if_false]; omega) | (simp only [m_set]; omega))
          rw [u2, u1]
          exact ⟨_, rfl, RN30, ZN30, u3, u4, FN30⟩
        · exact False.elim (by omega)
  · show AR E d _ (25, [some (vA m), some (vI (68 + (6 * (m_ix (m_key P cl (t % 2)) D : Int)))), none], [], (C, N)) _
    refine AR.blk 4 (f' := (29, [some (vA m), some (vI (68 + (6 * (m_ix (m_key P cl (t % 2)) D : Int)))), some (vI 0)], [vI 4, vI 0], (C, N))) (fun _ => rfl) ?_
    refine AR.blk 2 (f' := (33, [some (vA m), some (vI (68 + (6 * (m_ix (m_key P cl (t % 2)) D : Int)))), some (vI 0)], [vA m], (C, N))) (fun _ => rfl) ?_
    refine AR.getR rfl rfl hm.1 (by decide) rfl ?_
    refine AR.blk 5 (f' := (41, [some (vA m), some (vI (68 + (6 * (m_ix (m_key P cl (t % 2)) D : Int)))), some (vI 0)], [vI 0, vA m, vI ((68 + (6 * (m_ix (m_key P cl (t % 2)) D : Int))) + 0), vA (m + 1)], (C, N))) (fun _ => rfl) ?_
    refine AR.callV [vI 0] (ev_X7_boardPart (by omega) hm hr hw 0 (by omega)) hm.1 rfl rfl rfl rfl rfl ?_
    show AR E d _ (44, [some (vA m), some (vI (68 + (6 * (m_ix (m_key P cl (t % 2)) D : Int)))), some (vI 0)], [vI (m_bp P 0), vI ((68 + (6 * (m_ix (m_key P cl (t % 2)) D : Int))) + 0), vA (m + 1)], (C, N)) _
    have f31 := m_bp_in P hw.1 0
    refine AR.iast rfl hm.2.1 (by omega) ?_
    show AR E d _ (45, [some (vA m), some (vI (68 + (6 * (m_ix (m_key P cl (t % 2)) D : Int)))), some (vI 0)], [], (C, ag_upd N (m + 1) ((68 + (6 * (m_ix (m_key P cl (t % 2)) D : Int))) + 0) (m_bp P 0))) _
    have RN33 := g_rR_fr hr (R' := (ag_upd N (m + 1) ((68 + (6 * (m_ix (m_key P cl (t % 2)) D : Int))) + 0) (m_bp P 0)) (m + 1)) (fun i z0 z1 => ag_upd_nk (by omega))
    have ZN33 := g_rZ_fr hz (R' := (ag_upd N (m + 1) ((68 + (6 * (m_ix (m_key P cl (t % 2)) D : Int))) + 0) (m_bp P 0)) (m + 1)) (fun i z0 z1 => ag_upd_nk (by omega))
    have FN33 : ∀ a, a ≠ m + 1 → (ag_upd N (m + 1) ((68 + (6 * (m_ix (m_key P cl (t % 2)) D : Int))) + 0) (m_bp P 0)) a = N a := fun a ha => (ag_upd_ne ha).trans ((fun _ _ => rfl) a ha)
    have XN33 : (ag_upd N (m + 1) ((68 + (6 * (m_ix (m_key P cl (t % 2)) D : Int))) + 0) (m_bp P 0)) (m + 1) = m_set (N (m + 1)) ((68 + (6 * (m_ix (m_key P cl (t % 2)) D : Int))) + 0) (m_bp P 0) := (ag_upd_row _ _ _ _).trans (congrArg (fun f => m_set f ((68 + (6 * (m_ix (m_key P cl (t % 2)) D : Int))) + 0) (m_bp P 0)) rfl)
    generalize ag_upd N (m + 1) ((68 + (6 * (m_ix (m_key P cl (t % 2)) D : Int))) + 0) (m_bp P 0) = N33 at *
    refine AR.blk 4 (f' := (29, [some (vA m), some (vI (68 + (6 * (m_ix (m_key P cl (t % 2)) D : Int)))), some (vI 1)], [vI 4, vI 1], (C, N33))) (fun _ => rfl) ?_
    refine AR.blk 2 (f' := (33, [some (vA m), some (vI (68 + (6 * (m_ix (m_key P cl (t % 2)) D : Int)))), some (vI 1)], [vA m], (C, N33))) (fun _ => rfl) ?_
    refine AR.getR rfl rfl hm.1 (by decide) rfl ?_
    refine AR.blk 5 (f' := (41, [some (vA m), some (vI (68 + (6 * (m_ix (m_key P cl (t % 2)) D : Int)))), some (vI 1)], [vI 1, vA m, vI ((68 + (6 * (m_ix (m_key P cl (t % 2)) D : Int))) + 1), vA (m + 1)], (C, N33))) (fun _ => rfl) ?_
    refine AR.callV [vI 1] (ev_X7_boardPart (by omega) hm RN33 hw 1 (by omega)) hm.1 rfl rfl rfl rfl rfl ?_
    show AR E d _ (44, [some (vA m), some (vI (68 + (6 * (m_ix (m_key P cl (t % 2)) D : Int)))), some (vI 1)], [vI (m_bp P 1), vI ((68 + (6 * (m_ix (m_key P cl (t % 2)) D : Int))) + 1), vA (m + 1)], (C, N33)) _
    have f34 := m_bp_in P hw.1 1
    refine AR.iast rfl hm.2.1 (by omega) ?_
    show AR E d _ (45, [some (vA m), some (vI (68 + (6 * (m_ix (m_key P cl (t % 2)) D : Int)))), some (vI 1)], [], (C, ag_upd N33 (m + 1) ((68 + (6 * (m_ix (m_key P cl (t % 2)) D : Int))) + 1) (m_bp P 1))) _
    have RN36 := g_rR_fr RN33 (R' := (ag_upd N33 (m + 1) ((68 + (6 * (m_ix (m_key P cl (t % 2)) D : Int))) + 1) (m_bp P 1)) (m + 1)) (fun i z0 z1 => ag_upd_nk (by omega))
    have ZN36 := g_rZ_fr ZN33 (R' := (ag_upd N33 (m + 1) ((68 + (6 * (m_ix (m_key P cl (t % 2)) D : Int))) + 1) (m_bp P 1)) (m + 1)) (fun i z0 z1 => ag_upd_nk (by omega))
    have FN36 : ∀ a, a ≠ m + 1 → (ag_upd N33 (m + 1) ((68 + (6 * (m_ix (m_key P cl (t % 2)) D : Int))) + 1) (m_bp P 1)) a = N a := fun a ha => (ag_upd_ne ha).trans (FN33 a ha)
    have XN36 : (ag_upd N33 (m + 1) ((68 + (6 * (m_ix (m_key P cl (t % 2)) D : Int))) + 1) (m_bp P 1)) (m + 1) = m_set (m_set (N (m + 1)) ((68 + (6 * (m_ix (m_key P cl (t % 2)) D : Int))) + 0) (m_bp P 0)) ((68 + (6 * (m_ix (m_key P cl (t % 2)) D : Int))) + 1) (m_bp P 1) := (ag_upd_row _ _ _ _).trans (congrArg (fun f => m_set f ((68 + (6 * (m_ix (m_key P cl (t % 2)) D : Int))) + 1) (m_bp P 1)) XN33)
    generalize ag_upd N33 (m + 1) ((68 + (6 * (m_ix (m_key P cl (t % 2)) D : Int))) + 1) (m_bp P 1) = N36 at *
    refine AR.blk 4 (f' := (29, [some (vA m), some (vI (68 + (6 * (m_ix (m_key P cl (t % 2)) D : Int)))), some (vI 2)], [vI 4, vI 2], (C, N36))) (fun _ => rfl) ?_
    refine AR.blk 2 (f' := (33, [some (vA m), some (vI (68 + (6 * (m_ix (m_key P cl (t % 2)) D : Int)))), some (vI 2)], [vA m], (C, N36))) (fun _ => rfl) ?_
    refine AR.getR rfl rfl hm.1 (by decide) rfl ?_
    refine AR.blk 5 (f' := (41, [some (vA m), some (vI (68 + (6 * (m_ix (m_key P cl (t % 2)) D : Int)))), some (vI 2)], [vI 2, vA m, vI ((68 + (6 * (m_ix (m_key P cl (t % 2)) D : Int))) + 2), vA (m + 1)], (C, N36))) (fun _ => rfl) ?_
    refine AR.callV [vI 2] (ev_X7_boardPart (by omega) hm RN36 hw 2 (by omega)) hm.1 rfl rfl rfl rfl rfl ?_
    show AR E d _ (44, [some (vA m), some (vI (68 + (6 * (m_ix (m_key P cl (t % 2)) D : Int)))), some (vI 2)], [vI (m_bp P 2), vI ((68 + (6 * (m_ix (m_key P cl (t % 2)) D : Int))) + 2), vA (m + 1)], (C, N36)) _
    have f37 := m_bp_in P hw.1 2
    refine AR.iast rfl hm.2.1 (by omega) ?_
    show AR E d _ (45, [some (vA m), some (vI (68 + (6 * (m_ix (m_key P cl (t % 2)) D : Int)))), some (vI 2)], [], (C, ag_upd N36 (m + 1) ((68 + (6 * (m_ix (m_key P cl (t % 2)) D : Int))) + 2) (m_bp P 2))) _
    have RN39 := g_rR_fr RN36 (R' := (ag_upd N36 (m + 1) ((68 + (6 * (m_ix (m_key P cl (t % 2)) D : Int))) + 2) (m_bp P 2)) (m + 1)) (fun i z0 z1 => ag_upd_nk (by omega))
    have ZN39 := g_rZ_fr ZN36 (R' := (ag_upd N36 (m + 1) ((68 + (6 * (m_ix (m_key P cl (t % 2)) D : Int))) + 2) (m_bp P 2)) (m + 1)) (fun i z0 z1 => ag_upd_nk (by omega))
    have FN39 : ∀ a, a ≠ m + 1 → (ag_upd N36 (m + 1) ((68 + (6 * (m_ix (m_key P cl (t % 2)) D : Int))) + 2) (m_bp P 2)) a = N a := fun a ha => (ag_upd_ne ha).trans (FN36 a ha)
    have XN39 : (ag_upd N36 (m + 1) ((68 + (6 * (m_ix (m_key P cl (t % 2)) D : Int))) + 2) (m_bp P 2)) (m + 1) = m_set (m_set (m_set (N (m + 1)) ((68 + (6 * (m_ix (m_key P cl (t % 2)) D : Int))) + 0) (m_bp P 0)) ((68 + (6 * (m_ix (m_key P cl (t % 2)) D : Int))) + 1) (m_bp P 1)) ((68 + (6 * (m_ix (m_key P cl (t % 2)) D : Int))) + 2) (m_bp P 2) := (ag_upd_row _ _ _ _).trans (congrArg (fun f => m_set f ((68 + (6 * (m_ix (m_key P cl (t % 2)) D : Int))) + 2) (m_bp P 2)) XN36)
    generalize ag_upd N36 (m + 1) ((68 + (6 * (m_ix (m_key P cl (t % 2)) D : Int))) + 2) (m_bp P 2) = N39 at *
    refine AR.blk 4 (f' := (29, [some (vA m), some (vI (68 + (6 * (m_ix (m_key P cl (t % 2)) D : Int)))), some (vI 3)], [vI 4, vI 3], (C, N39))) (fun _ => rfl) ?_
    refine AR.blk 2 (f' := (33, [some (vA m), some (vI (68 + (6 * (m_ix (m_key P cl (t % 2)) D : Int)))), some (vI 3)], [vA m], (C, N39))) (fun _ => rfl) ?_
    refine AR.getR rfl rfl hm.1 (by decide) rfl ?_
    refine AR.blk 5 (f' := (41, [some (vA m), some (vI (68 + (6 * (m_ix (m_key P cl (t % 2)) D : Int)))), some (vI 3)], [vI 3, vA m, vI ((68 + (6 * (m_ix (m_key P cl (t % 2)) D : Int))) + 3), vA (m + 1)], (C, N39))) (fun _ => rfl) ?_
    refine AR.callV [vI 3] (ev_X7_boardPart (by omega) hm RN39 hw 3 (by omega)) hm.1 rfl rfl rfl rfl rfl ?_
    show AR E d _ (44, [some (vA m), some (vI (68 + (6 * (m_ix (m_key P cl (t % 2)) D : Int)))), some (vI 3)], [vI (m_bp P 3), vI ((68 + (6 * (m_ix (m_key P cl (t % 2)) D : Int))) + 3), vA (m + 1)], (C, N39)) _
    have f40 := m_bp_in P hw.1 3
    refine AR.iast rfl hm.2.1 (by omega) ?_
    show AR E d _ (45, [some (vA m), some (vI (68 + (6 * (m_ix (m_key P cl (t % 2)) D : Int)))), some (vI 3)], [], (C, ag_upd N39 (m + 1) ((68 + (6 * (m_ix (m_key P cl (t % 2)) D : Int))) + 3) (m_bp P 3))) _
    have RN42 := g_rR_fr RN39 (R' := (ag_upd N39 (m + 1) ((68 + (6 * (m_ix (m_key P cl (t % 2)) D : Int))) + 3) (m_bp P 3)) (m + 1)) (fun i z0 z1 => ag_upd_nk (by omega))
    have ZN42 := g_rZ_fr ZN39 (R' := (ag_upd N39 (m + 1) ((68 + (6 * (m_ix (m_key P cl (t % 2)) D : Int))) + 3) (m_bp P 3)) (m + 1)) (fun i z0 z1 => ag_upd_nk (by omega))
    have FN42 : ∀ a, a ≠ m + 1 → (ag_upd N39 (m + 1) ((68 + (6 * (m_ix (m_key P cl (t % 2)) D : Int))) + 3) (m_bp P 3)) a = N a := fun a ha => (ag_upd_ne ha).trans (FN39 a ha)
    have XN42 : (ag_upd N39 (m + 1) ((68 + (6 * (m_ix (m_key P cl (t % 2)) D : Int))) + 3) (m_bp P 3)) (m + 1) = m_set (m_set (m_set (m_set (N (m + 1)) ((68 + (6 * (m_ix (m_key P cl (t % 2)) D : Int))) + 0) (m_bp P 0)) ((68 + (6 * (m_ix (m_key P cl (t % 2)) D : Int))) + 1) (m_bp P 1)) ((68 + (6 * (m_ix (m_key P cl (t % 2)) D : Int))) + 2) (m_bp P 2)) ((68 + (6 * (m_ix (m_key P cl (t % 2)) D : Int))) + 3) (m_bp P 3) := (ag_upd_row _ _ _ _).trans (congrArg (fun f => m_set f ((68 + (6 * (m_ix (m_key P cl (t % 2)) D : Int))) + 3) (m_bp P 3)) XN39)
    generalize ag_upd N39 (m + 1) ((68 + (6 * (m_ix (m_key P cl (t % 2)) D : Int))) + 3) (m_bp P 3) = N42 at *
    refine AR.blk 4 (f' := (29, [some (vA m), some (vI (68 + (6 * (m_ix (m_key P cl (t % 2)) D : Int)))), some (vI 4)], [vI 4, vI 4], (C, N42))) (fun _ => rfl) ?_
    refine AR.blk 2 (f' := (52, [some (vA m), some (vI (68 + (6 * (m_ix (m_key P cl (t % 2)) D : Int)))), some (vI 4)], [vA m], (C, N42))) (fun _ => rfl) ?_
    refine AR.getR rfl rfl hm.1 (by decide) rfl ?_
    refine AR.blk 4 (f' := (59, [some (vA m), some (vI (68 + (6 * (m_ix (m_key P cl (t % 2)) D : Int)))), some (vI 4)], [vA m, vI ((68 + (6 * (m_ix (m_key P cl (t % 2)) D : Int))) + 4), vA (m + 1)], (C, N42))) (fun _ => rfl) ?_
    refine AR.callV [] (ev_X7_restPart (by omega) hm RN42 hw (show g_rS (N42 (m + 1)) t 1 0 ca gn pu mk from ZN42) hv  ) hm.1 rfl rfl rfl rfl rfl ?_
    show AR E d _ (62, [some (vA m), some (vI (68 + (6 * (m_ix (m_key P cl (t % 2)) D : Int)))), some (vI 4)], [vI (m_rest cl (t % 2)), vI ((68 + (6 * (m_ix (m_key P cl (t % 2)) D : Int))) + 4), vA (m + 1)], (C, N42)) _
    have f43 := m_rest_in cl (t % 2) (fun k => (hw.2.2.2.2.1 k).1) (by omega)
    refine AR.iast rfl hm.2.1 (by omega) ?_
    show AR E d _ (63, [some (vA m), some (vI (68 + (6 * (m_ix (m_key P cl (t % 2)) D : Int)))), some (vI 4)], [], (C, ag_upd N42 (m + 1) ((68 + (6 * (m_ix (m_key P cl (t % 2)) D : Int))) + 4) (m_rest cl (t % 2)))) _
    have RN45 := g_rR_fr RN42 (R' := (ag_upd N42 (m + 1) ((68 + (6 * (m_ix (m_key P cl (t % 2)) D : Int))) + 4) (m_rest cl (t % 2))) (m + 1)) (fun i z0 z1 => ag_upd_nk (by omega))
    have ZN45 := g_rZ_fr ZN42 (R' := (ag_upd N42 (m + 1) ((68 + (6 * (m_ix (m_key P cl (t % 2)) D : Int))) + 4) (m_rest cl (t % 2))) (m + 1)) (fun i z0 z1 => ag_upd_nk (by omega))
    have FN45 : ∀ a, a ≠ m + 1 → (ag_upd N42 (m + 1) ((68 + (6 * (m_ix (m_key P cl (t % 2)) D : Int))) + 4) (m_rest cl (t % 2))) a = N a := fun a ha => (ag_upd_ne ha).trans (FN42 a ha)
    have XN45 : (ag_upd N42 (m + 1) ((68 + (6 * (m_ix (m_key P cl (t % 2)) D : Int))) + 4) (m_rest cl (t % 2))) (m + 1) = m_set (m_set (m_set (m_set (m_set (N (m + 1)) ((68 + (6 * (m_ix (m_key P cl (t % 2)) D : Int))) + 0) (m_bp P 0)) ((68 + (6 * (m_ix (m_key P cl (t % 2)) D : Int))) + 1) (m_bp P 1)) ((68 + (6 * (m_ix (m_key P cl (t % 2)) D : Int))) + 2) (m_bp P 2)) ((68 + (6 * (m_ix (m_key P cl (t % 2)) D : Int))) + 3) (m_bp P 3)) ((68 + (6 * (m_ix (m_key P cl (t % 2)) D : Int))) + 4) (m_rest cl (t % 2)) := (ag_upd_row _ _ _ _).trans (congrArg (fun f => m_set f ((68 + (6 * (m_ix (m_key P cl (t % 2)) D : Int))) + 4) (m_rest cl (t % 2))) XN42)
    generalize ag_upd N42 (m + 1) ((68 + (6 * (m_ix (m_key P cl (t % 2)) D : Int))) + 4) (m_rest cl (t % 2)) = N45 at *
    refine AR.blk 1 (f' := (64, [some (vA m), some (vI (68 + (6 * (m_ix (m_key P cl (t % 2)) D : Int)))), some (vI 4)], [vA m], (C, N45))) (fun _ => rfl) ?_
    refine AR.getR rfl rfl hm.1 (by decide) rfl ?_
    refine AR.blk 4 (f' := (71, [some (vA m), some (vI (68 + (6 * (m_ix (m_key P cl (t % 2)) D : Int)))), some (vI 4)], [vI 0, vI ((68 + (6 * (m_ix (m_key P cl (t % 2)) D : Int))) + 5), vA (m + 1)], (C, N45))) (fun _ => rfl) ?_
    refine AR.iast rfl hm.2.1 (by omega) ?_
    show AR E d _ (72, [some (vA m), some (vI (68 + (6 * (m_ix (m_key P cl (t % 2)) D : Int)))), some (vI 4)], [], (C, ag_upd N45 (m + 1) ((68 + (6 * (m_ix (m_key P cl (t % 2)) D : Int))) + 5) 0)) _
    have RN47 := g_rR_fr RN45 (R' := (ag_upd N45 (m + 1) ((68 + (6 * (m_ix (m_key P cl (t % 2)) D : Int))) + 5) 0) (m + 1)) (fun i z0 z1 => ag_upd_nk (by omega))
    have ZN47 := g_rZ_fr ZN45 (R' := (ag_upd N45 (m + 1) ((68 + (6 * (m_ix (m_key P cl (t % 2)) D : Int))) + 5) 0) (m + 1)) (fun i z0 z1 => ag_upd_nk (by omega))
    have FN47 : ∀ a, a ≠ m + 1 → (ag_upd N45 (m + 1) ((68 + (6 * (m_ix (m_key P cl (t % 2)) D : Int))) + 5) 0) a = N a := fun a ha => (ag_upd_ne ha).trans (FN45 a ha)
    have XN47 : (ag_upd N45 (m + 1) ((68 + (6 * (m_ix (m_key P cl (t % 2)) D : Int))) + 5) 0) (m + 1) = m_set (m_set (m_set (m_set (m_set (m_set (N (m + 1)) ((68 + (6 * (m_ix (m_key P cl (t % 2)) D : Int))) + 0) (m_bp P 0)) ((68 + (6 * (m_ix (m_key P cl (t % 2)) D : Int))) + 1) (m_bp P 1)) ((68 + (6 * (m_ix (m_key P cl (t % 2)) D : Int))) + 2) (m_bp P 2)) ((68 + (6 * (m_ix (m_key P cl (t % 2)) D : Int))) + 3) (m_bp P 3)) ((68 + (6 * (m_ix (m_key P cl (t % 2)) D : Int))) + 4) (m_rest cl (t % 2))) ((68 + (6 * (m_ix (m_key P cl (t % 2)) D : Int))) + 5) 0 := (ag_upd_row _ _ _ _).trans (congrArg (fun f => m_set f ((68 + (6 * (m_ix (m_key P cl (t % 2)) D : Int))) + 5) 0) XN45)
    have cN47 : (ag_upd N45 (m + 1) ((68 + (6 * (m_ix (m_key P cl (t % 2)) D : Int))) + 5) 0) (m + 1) ((68 + (6 * (m_ix (m_key P cl (t % 2)) D : Int))) + 5) = 0 := ag_upd_eq
    generalize ag_upd N45 (m + 1) ((68 + (6 * (m_ix (m_key P cl (t % 2)) D : Int))) + 5) 0 = N47 at *
    refine AR.blk 1 (f' := (73, [some (vA m), some (vI (68 + (6 * (m_ix (m_key P cl (t % 2)) D : Int)))), some (vI 4)], [vA m], (C, N47))) (fun _ => rfl) ?_
    refine AR.getR rfl rfl hm.1 (by decide) rfl ?_
    refine AR.blk 2 (f' := (79, [some (vA m), some (vI (68 + (6 * (m_ix (m_key P cl (t % 2)) D : Int)))), some (vI 4)], [vI 67, vA (m + 1), vI 67, vA (m + 1)], (C, N47))) (fun _ => rfl) ?_
    refine AR.iald rfl hm.2.1 (by omega) (v := (D.length : Int)) ((congrFun XN47 67).trans (by simp only [m_set]; first | exact hD.1 | (have := hD.1; omega))) ?_
    refine AR.blk 2 (f' := (82, [some (vA m), some (vI (68 + (6 * (m_ix (m_key P cl (t % 2)) D : Int)))), some (vI 4)], [vI ((D.length : Int) + 1), vI 67, vA (m + 1)], (C, N47))) (fun _ => rfl) ?_
    refine AR.iast rfl hm.2.1 (by omega) ?_
    show AR E d _ (83, [some (vA m), some (vI (68 + (6 * (m_ix (m_key P cl (t % 2)) D : Int)))), some (vI 4)], [], (C, ag_upd N47 (m + 1) 67 ((D.length : Int) + 1))) _
    have RN49 := g_rR_fr RN47 (R' := (ag_upd N47 (m + 1) 67 ((D.length : Int) + 1)) (m + 1)) (fun i z0 z1 => ag_upd_nk (by omega))
    have ZN49 := g_rZ_fr ZN47 (R' := (ag_upd N47 (m + 1) 67 ((D.length : Int) + 1)) (m + 1)) (fun i z0 z1 => ag_upd_nk (by omega))
    have FN49 : ∀ a, a ≠ m + 1 → (ag_upd N47 (m + 1) 67 ((D.length : Int) + 1)) a = N a := fun a ha => (ag_upd_ne ha).trans (FN47 a ha)
    have XN49 : (ag_upd N47 (m + 1) 67 ((D.length : Int) + 1)) (m + 1) = m_set (m_set (m_set (m_set (m_set (m_set (m_set (N (m + 1)) ((68 + (6 * (m_ix (m_key P cl (t % 2)) D : Int))) + 0) (m_bp P 0)) ((68 + (6 * (m_ix (m_key P cl (t % 2)) D : Int))) + 1) (m_bp P 1)) ((68 + (6 * (m_ix (m_key P cl (t % 2)) D : Int))) + 2) (m_bp P 2)) ((68 + (6 * (m_ix (m_key P cl (t % 2)) D : Int))) + 3) (m_bp P 3)) ((68 + (6 * (m_ix (m_key P cl (t % 2)) D : Int))) + 4) (m_rest cl (t % 2))) ((68 + (6 * (m_ix (m_key P cl (t % 2)) D : Int))) + 5) 0) 67 ((D.length : Int) + 1) := (ag_upd_row _ _ _ _).trans (congrArg (fun f => m_set f 67 ((D.length : Int) + 1)) XN47)
    have cN49 : (ag_upd N47 (m + 1) 67 ((D.length : Int) + 1)) (m + 1) ((68 + (6 * (m_ix (m_key P cl (t % 2)) D : Int))) + 5) = 0 := (ag_upd_nk (by omega)).trans cN47
    generalize ag_upd N47 (m + 1) 67 ((D.length : Int) + 1) = N49 at *
    refine AR.blk 1 (f' := (84, [some (vA m), some (vI (68 + (6 * (m_ix (m_key P cl (t % 2)) D : Int)))), some (vI 4)], [vA m], (C, N49))) (fun _ => rfl) ?_
    refine AR.getR rfl rfl hm.1 (by decide) rfl ?_
    refine AR.blk 4 (f' := (91, [some (vA m), some (vI (68 + (6 * (m_ix (m_key P cl (t % 2)) D : Int)))), some (vI 4)], [vI ((68 + (6 * (m_ix (m_key P cl (t % 2)) D : Int))) + 5), vA (m + 1), vI ((68 + (6 * (m_ix (m_key P cl (t % 2)) D : Int))) + 5), vA (m + 1)], (C, N49))) (fun _ => rfl) ?_
    refine AR.iald rfl hm.2.1 (by omega) (v := 0) cN49 ?_
    refine AR.blk 2 (f' := (94, [some (vA m), some (vI (68 + (6 * (m_ix (m_key P cl (t % 2)) D : Int)))), some (vI 4)], [vI 1, vI ((68 + (6 * (m_ix (m_key P cl (t % 2)) D : Int))) + 5), vA (m + 1)], (C, N49))) (fun _ => rfl) ?_
    refine AR.iast rfl hm.2.1 (by omega) ?_
    show AR E d _ (95, [some (vA m), some (vI (68 + (6 * (m_ix (m_key P cl (t % 2)) D : Int)))), some (vI 4)], [], (C, ag_upd N49 (m + 1) ((68 + (6 * (m_ix (m_key P cl (t % 2)) D : Int))) + 5) 1)) _
    have RN51 := g_rR_fr RN49 (R' := (ag_upd N49 (m + 1) ((68 + (6 * (m_ix (m_key P cl (t % 2)) D : Int))) + 5) 1) (m + 1)) (fun i z0 z1 => ag_upd_nk (by omega))
    have ZN51 := g_rZ_fr ZN49 (R' := (ag_upd N49 (m + 1) ((68 + (6 * (m_ix (m_key P cl (t % 2)) D : Int))) + 5) 1) (m + 1)) (fun i z0 z1 => ag_upd_nk (by omega))
    have FN51 : ∀ a, a ≠ m + 1 → (ag_upd N49 (m + 1) ((68 + (6 * (m_ix (m_key P cl (t % 2)) D : Int))) + 5) 1) a = N a := fun a ha => (ag_upd_ne ha).trans (FN49 a ha)
    have XN51 : (ag_upd N49 (m + 1) ((68 + (6 * (m_ix (m_key P cl (t % 2)) D : Int))) + 5) 1) (m + 1) = m_set (m_set (m_set (m_set (m_set (m_set (m_set (m_set (N (m + 1)) ((68 + (6 * (m_ix (m_key P cl (t % 2)) D : Int))) + 0) (m_bp P 0)) ((68 + (6 * (m_ix (m_key P cl (t % 2)) D : Int))) + 1) (m_bp P 1)) ((68 + (6 * (m_ix (m_key P cl (t % 2)) D : Int))) + 2) (m_bp P 2)) ((68 + (6 * (m_ix (m_key P cl (t % 2)) D : Int))) + 3) (m_bp P 3)) ((68 + (6 * (m_ix (m_key P cl (t % 2)) D : Int))) + 4) (m_rest cl (t % 2))) ((68 + (6 * (m_ix (m_key P cl (t % 2)) D : Int))) + 5) 0) 67 ((D.length : Int) + 1)) ((68 + (6 * (m_ix (m_key P cl (t % 2)) D : Int))) + 5) 1 := (ag_upd_row _ _ _ _).trans (congrArg (fun f => m_set f ((68 + (6 * (m_ix (m_key P cl (t % 2)) D : Int))) + 5) 1) XN49)
    have cN51 : (ag_upd N49 (m + 1) ((68 + (6 * (m_ix (m_key P cl (t % 2)) D : Int))) + 5) 1) (m + 1) ((68 + (6 * (m_ix (m_key P cl (t % 2)) D : Int))) + 5) = 1 := ag_upd_eq
    generalize ag_upd N49 (m + 1) ((68 + (6 * (m_ix (m_key P cl (t % 2)) D : Int))) + 5) 1 = N51 at *
    refine AR.blk 2 (f' := (97, [some (vA m), some (vI (68 + (6 * (m_ix (m_key P cl (t % 2)) D : Int)))), some (vI 4)], [vI 0, vA m], (C, N51))) (fun _ => rfl) ?_
    refine AR.callV [vI 0] (ev_X7_pieces (by omega) hm RN51 hw 0 (by omega)) hm.1 rfl rfl rfl rfl rfl ?_
    show AR E d _ (100, [some (vA m), some (vI (68 + (6 * (m_ix (m_key P cl (t % 2)) D : Int)))), some (vI 4)], [vI (m_cnt P 0)], (C, N51)) _
    have f52 := m_cnt_in P 0
    refine AR.if_eq rfl (by omega) (fun c53 => ?_) (fun c53 => ?_)
    · show AR E d _ (111, [some (vA m), some (vI (68 + (6 * (m_ix (m_key P cl (t % 2)) D : Int)))), some (vI 4)], [], (C, N51)) _
      refine AR.blk 1 (f' := (112, [some (vA m), some (vI (68 + (6 * (m_ix (m_key P cl (t % 2)) D : Int)))), some (vI 4)], [vA m], (C, N51))) (fun _ => rfl) ?_
      refine AR.getR rfl rfl hm.1 (by decide) rfl ?_
      refine AR.blk 3 (f' := (118, [some (vA m), some (vI (68 + (6 * (m_ix (m_key P cl (t % 2)) D : Int)))), some (vI 4)], [vI 0, vA m, vI 4, vA (m + 1)], (C, N51))) (fun _ => rfl) ?_
      refine AR.callV [vI 0] (ev_X7_pieces (by omega) hm RN51 hw 0 (by omega)) hm.1 rfl rfl rfl rfl rfl ?_
      show AR E d _ (121, [some (vA m), some (vI (68 + (6 * (m_ix (m_key P cl (t % 2)) D : Int)))), some (vI 4)], [vI (m_cnt P 0), vI 4, vA (m + 1)], (C, N51)) _
      have f54 := m_cnt_in P 0
      refine AR.if_ne rfl (by omega) (fun c55 => ?_) (fun c55 => ?_)
      · exact False.elim (by omega)
      · show AR E d _ (124, [some (vA m), some (vI (68 + (6 * (m_ix (m_key P cl (t % 2)) D : Int)))), some (vI 4)], [vI 4, vA (m + 1)], (C, N51)) _
        refine AR.blk 2 (f' := (129, [some (vA m), some (vI (68 + (6 * (m_ix (m_key P cl (t % 2)) D : Int)))), some (vI 4)], [vI 2, vI 4, vA (m + 1)], (C, N51))) (fun _ => rfl) ?_
        refine AR.iast rfl hm.2.1 (by omega) ?_
        show AR E d _ (130, [some (vA m), some (vI (68 + (6 * (m_ix (m_key P cl (t % 2)) D : Int)))), some (vI 4)], [], (C, ag_upd N51 (m + 1) 4 2)) _
        have RN57 := g_rR_fr RN51 (R' := (ag_upd N51 (m + 1) 4 2) (m + 1)) (fun i z0 z1 => ag_upd_nk (by omega))
        have ZN57 := g_rZ_en ZN51 2
        have FN57 : ∀ a, a ≠ m + 1 → (ag_upd N51 (m + 1) 4 2) a = N a := fun a ha => (ag_upd_ne ha).trans (FN51 a ha)
        have XN57 : (ag_upd N51 (m + 1) 4 2) (m + 1) = m_set (m_set (m_set (m_set (m_set (m_set (m_set (m_set (m_set (N (m + 1)) ((68 + (6 * (m_ix (m_key P cl (t % 2)) D : Int))) + 0) (m_bp P 0)) ((68 + (6 * (m_ix (m_key P cl (t % 2)) D : Int))) + 1) (m_bp P 1)) ((68 + (6 * (m_ix (m_key P cl (t % 2)) D : Int))) + 2) (m_bp P 2)) ((68 + (6 * (m_ix (m_key P cl (t % 2)) D : Int))) + 3) (m_bp P 3)) ((68 + (6 * (m_ix (m_key P cl (t % 2)) D : Int))) + 4) (m_rest cl (t % 2))) ((68 + (6 * (m_ix (m_key P cl (t % 2)) D : Int))) + 5) 0) 67 ((D.length : Int) + 1)) ((68 + (6 * (m_ix (m_key P cl (t % 2)) D : Int))) + 5) 1) 4 2 := (ag_upd_row _ _ _ _).trans (congrArg (fun f => m_set f 4 2) XN51)
        have cN57 : (ag_upd N51 (m + 1) 4 2) (m + 1) ((68 + (6 * (m_ix (m_key P cl (t % 2)) D : Int))) + 5) = 1 := (ag_upd_nk (by omega)).trans cN51
        generalize ag_upd N51 (m + 1) 4 2 = N57 at *
        refine AR.blk 2 (f' := (204, [some (vA m), some (vI (68 + (6 * (m_ix (m_key P cl (t % 2)) D : Int)))), some (vI 4)], [vA m], (C, N57))) (fun _ => rfl) ?_
        refine AR.getR rfl rfl hm.1 (by decide) rfl ?_
        refine AR.blk 3 (f' := (210, [some (vA m), some (vI (68 + (6 * (m_ix (m_key P cl (t % 2)) D : Int)))), some (vI 4)], [vI ((68 + (6 * (m_ix (m_key P cl (t % 2)) D : Int))) + 5), vA (m + 1)], (C, N57))) (fun _ => rfl) ?_
        refine AR.iald rfl hm.2.1 (by omega) (v := 1) cN57 ?_
        refine AR.endI rfl (.inl rfl) ?_
        have u1 : m_cn (m_key P cl (t % 2)) D = 1 := (m_add_new _ D (by omega)).2
        have u2 : m_end2 P n q cl t (m_cn (m_key P cl (t % 2)) D) = 2 := by rw [u1]; unfold m_end2; omega
        have u3 : g_rD (N57 (m + 1)) (m_add (m_key P cl (t % 2)) D) := by rw [(m_add_new _ D (by omega)).1, XN57, show (m_ix (m_key P cl (t % 2)) D : Int) = D.length by omega]; exact g_rD_new hD hvp (by (first | (simp only [m_set, if_true, if_false]; done) | (simp only [m_set, if_true, if_false]; omega) | (simp only [m_set]; omega))) (fun i z0 z1 => by (first | (simp only [m_set, if_true, if_false]; done) | (simp only [m_set, if_true, if_false]; omega) | (simp only [m_set]; omega))) (fun k z0 z1 => by have e : k = 0 ∨ k = 1 ∨ k = 2 ∨ k = 3 := (by omega); rcases e with rfl | rfl | rfl | rfl <;> (first | (simp only [m_set, if_true, if_false]; done) | (simp only [m_set, if_true, if_false]; omega) | ((first | (simp only [m_set, if_true, if_false]; done) | (simp only [m_set, if_true, if_false]; omega) | (simp only [m_set]; omega))))) (by (first | (simp only [m_set, if_true, if_false]; done) | (simp only [m_set, if_true, if_false]; omega) | (simp only [m_set]; omega))) (by (first | (simp only [m_set, if_true, if_false]; done) | (simp only [m_set, if_true, if_false]; omega) | (simp only [m_set]; omega)))
        have u4 : ∀ i, 6 ≤ i ∧ i < 8 → N57 (m + 1) i = N (m + 1) i := fun i hi => by rw [XN57]; (first | (simp only [m_set, if_true, if_false]; done) | (simp only [m_set, if_true, if_false]; omega) | (simp only [m_set]; omega))
        rw [u2, u1]
        exact ⟨_, rfl, RN57, ZN57, u3, u4, FN57⟩
    · show AR E d _ (103, [some (vA m), some (vI (68 + (6 * (m_ix (m_key P cl (t % 2)) D : Int)))), some (vI 4)], [], (C, N51)) _
      refine AR.blk 2 (f' := (105, [some (vA m), some (vI (68 + (6 * (m_ix (m_key P cl (t % 2)) D : Int)))), some (vI 4)], [vI 1, vA m], (C, N51))) (fun _ => rfl) ?_
      refine AR.callV [vI 1] (ev_X7_pieces (by omega) hm RN51 hw 1 (by omega)) hm.1 rfl rfl rfl rfl rfl ?_
      show AR E d _ (108, [some (vA m), some (vI (68 + (6 * (m_ix (m_key P cl (t % 2)) D : Int)))), some (vI 4)], [vI (m_cnt P 1)], (C, N51)) _
      have f58 := m_cnt_in P 1
      refine AR.if_ne rfl (by omega) (fun c59 => ?_) (fun c59 => ?_)
      · show AR E d _ (133, [some (vA m), some (vI (68 + (6 * (m_ix (m_key P cl (t % 2)) D : Int)))), some (vI 4)], [], (C, N51)) _
        refine AR.blk 1 (f' := (134, [some (vA m), some (vI (68 + (6 * (m_ix (m_key P cl (t % 2)) D : Int)))), some (vI 4)], [vA m], (C, N51))) (fun _ => rfl) ?_
        refine AR.getR rfl rfl hm.1 (by decide) rfl ?_
        refine AR.blk 3 (f' := (140, [some (vA m), some (vI (68 + (6 * (m_ix (m_key P cl (t % 2)) D : Int)))), some (vI 4)], [vI ((68 + (6 * (m_ix (m_key P cl (t % 2)) D : Int))) + 5), vA (m + 1)], (C, N51))) (fun _ => rfl) ?_
        refine AR.iald rfl hm.2.1 (by omega) (v := 1) cN51 ?_
        refine AR.blk 1 (f' := (142, [some (vA m), some (vI (68 + (6 * (m_ix (m_key P cl (t % 2)) D : Int)))), some (vI 4)], [vI 3, vI 1], (C, N51))) (fun _ => rfl) ?_
        refine AR.blk 2 (f' := (156, [some (vA m), some (vI (68 + (6 * (m_ix (m_key P cl (t % 2)) D : Int)))), some (vI 4)], [vA m], (C, N51))) (fun _ => rfl) ?_
        refine AR.callV [] (ev_X7_moves (by omega) hm RN51 hw (show g_rS (N51 (m + 1)) t 1 0 ca gn pu mk from ZN51) hv  ) hm.1 rfl rfl rfl rfl rfl ?_
        show AR E d _ (159, [some (vA m), some (vI (68 + (6 * (m_ix (m_key P cl (t % 2)) D : Int)))), some (vI 4)], [vI (m_mvs P n q cl t 1 0)], (C, N51)) _
        have f60 := m_mvs_in P n q cl t 1 0
        refine AR.if_ne rfl (by omega) (fun c61 => ?_) (fun c61 => ?_)
        · show AR E d _ (185, [some (vA m), some (vI (68 + (6 * (m_ix (m_key P cl (t % 2)) D : Int)))), some (vI 4)], [], (C, N51)) _
          refine AR.blk 1 (f' := (186, [some (vA m), some (vI (68 + (6 * (m_ix (m_key P cl (t % 2)) D : Int)))), some (vI 4)], [vA m], (C, N51))) (fun _ => rfl) ?_
          refine AR.getR rfl rfl hm.1 (by decide) rfl ?_
          refine AR.blk 1 (f' := (190, [some (vA m), some (vI (68 + (6 * (m_ix (m_key P cl (t % 2)) D : Int)))), some (vI 4)], [vI 0, vA (m + 1)], (C, N51))) (fun _ => rfl) ?_
          refine AR.iald rfl hm.2.1 (by omega) (v := t) ZN51.1 ?_
          refine AR.blk 1 (f' := (193, [some (vA m), some (vI (68 + (6 * (m_ix (m_key P cl (t % 2)) D : Int)))), some (vI 4)], [vI 120, vI t], (C, N51))) (fun _ => rfl) ?_
          refine AR.ic_ne rfl (by omega) (fun c62 => ?_) (fun c62 => ?_)
          · show AR E d _ (203, [some (vA m), some (vI (68 + (6 * (m_ix (m_key P cl (t % 2)) D : Int)))), some (vI 4)], [], (C, N51)) _
            refine AR.blk 1 (f' := (204, [some (vA m), some (vI (68 + (6 * (m_ix (m_key P cl (t % 2)) D : Int)))), some (vI 4)], [vA m], (C, N51))) (fun _ => rfl) ?_
            refine AR.getR rfl rfl hm.1 (by decide) rfl ?_
            refine AR.blk 3 (f' := (210, [some (vA m), some (vI (68 + (6 * (m_ix (m_key P cl (t % 2)) D : Int)))), some (vI 4)], [vI ((68 + (6 * (m_ix (m_key P cl (t % 2)) D : Int))) + 5), vA (m + 1)], (C, N51))) (fun _ => rfl) ?_
            refine AR.iald rfl hm.2.1 (by omega) (v := 1) cN51 ?_
            refine AR.endI rfl (.inl rfl) ?_
            have u1 : m_cn (m_key P cl (t % 2)) D = 1 := (m_add_new _ D (by omega)).2
            have u2 : m_end2 P n q cl t (m_cn (m_key P cl (t % 2)) D) = 0 := by rw [u1]; unfold m_end2; omega
            have u3 : g_rD (N51 (m + 1)) (m_add (m_key P cl (t % 2)) D) := by rw [(m_add_new _ D (by omega)).1, XN51, show (m_ix (m_key P cl (t % 2)) D : Int) = D.length by omega]; exact g_rD_new hD hvp (by (first | (simp only [m_set, if_true, if_false]; done) | (simp only [m_set, if_true, if_false]; omega) | (simp only [m_set]; omega))) (fun i z0 z1 => by (first | (simp only [m_set, if_true, if_false]; done) | (simp only [m_set, if_true, if_false]; omega) | (simp only [m_set]; omega))) (fun k z0 z1 => by have e : k = 0 ∨ k = 1 ∨ k = 2 ∨ k = 3 := (by omega); rcases e with rfl | rfl | rfl | rfl <;> (first | (simp only [m_set, if_true, if_false]; done) | (simp only [m_set, if_true, if_false]; omega) | ((first | (simp only [m_set, if_true, if_false]; done) | (simp only [m_set, if_true, if_false]; omega) | (simp only [m_set]; omega))))) (by (first | (simp only [m_set, if_true, if_false]; done) | (simp only [m_set, if_true, if_false]; omega) | (simp only [m_set]; omega))) (by (first | (simp only [m_set, if_true, if_false]; done) | (simp only [m_set, if_true, if_false]; omega) | (simp only [m_set]; omega)))
            have u4 : ∀ i, 6 ≤ i ∧ i < 8 → N51 (m + 1) i = N (m + 1) i := fun i hi => by rw [XN51]; (first | (simp only [m_set, if_true, if_false]; done) | (simp only [m_set, if_true, if_false]; omega) | (simp only [m_set]; omega))
            rw [u2, u1]
            exact ⟨_, rfl, RN51, ZN51, u3, u4, FN51⟩
          · show AR E d _ (196, [some (vA m), some (vI (68 + (6 * (m_ix (m_key P cl (t % 2)) D : Int)))), some (vI 4)], [], (C, N51)) _
            refine AR.blk 1 (f' := (197, [some (vA m), some (vI (68 + (6 * (m_ix (m_key P cl (t % 2)) D : Int)))), some (vI 4)], [vA m], (C, N51))) (fun _ => rfl) ?_
            refine AR.getR rfl rfl hm.1 (by decide) rfl ?_
            refine AR.blk 2 (f' := (202, [some (vA m), some (vI (68 + (6 * (m_ix (m_key P cl (t % 2)) D : Int)))), some (vI 4)], [vI 3, vI 4, vA (m + 1)], (C, N51))) (fun _ => rfl) ?_
            refine AR.iast rfl hm.2.1 (by omega) ?_
            show AR E d _ (203, [some (vA m), some (vI (68 + (6 * (m_ix (m_key P cl (t % 2)) D : Int)))), some (vI 4)], [], (C, ag_upd N51 (m + 1) 4 3)) _
            have RN64 := g_rR_fr RN51 (R' := (ag_upd N51 (m + 1) 4 3) (m + 1)) (fun i z0 z1 => ag_upd_nk (by omega))
            have ZN64 := g_rZ_en ZN51 3
            have FN64 : ∀ a, a ≠ m + 1 → (ag_upd N51 (m + 1) 4 3) a = N a := fun a ha => (ag_upd_ne ha).trans (FN51 a ha)
            have XN64 : (ag_upd N51 (m + 1) 4 3) (m + 1) = m_set (m_set (m_set (m_set (m_set (m_set (m_set (m_set (m_set (N (m + 1)) ((68 + (6 * (m_ix (m_key P cl (t % 2)) D : Int))) + 0) (m_bp P 0)) ((68 + (6 * (m_ix (m_key P cl (t % 2)) D : Int))) + 1) (m_bp P 1)) ((68 + (6 * (m_ix (m_key P cl (t % 2)) D : Int))) + 2) (m_bp P 2)) ((68 + (6 * (m_ix (m_key P cl (t % 2)) D : Int))) + 3) (m_bp P 3)) ((68 + (6 * (m_ix (m_key P cl (t % 2)) D : Int))) + 4) (m_rest cl (t % 2))) ((68 + (6 * (m_ix (m_key P cl (t % 2)) D : Int))) + 5) 0) 67 ((D.length : Int) + 1)) ((68 + (6 * (m_ix (m_key P cl (t % 2)) D : Int))) + 5) 1) 4 3 := (ag_upd_row _ _ _ _).trans (congrArg (fun f => m_set f 4 3) XN51)
            have cN64 : (ag_upd N51 (m + 1) 4 3) (m + 1) ((68 + (6 * (m_ix (m_key P cl (t % 2)) D : Int))) + 5) = 1 := (ag_upd_nk (by omega)).trans cN51
            generalize ag_upd N51 (m + 1) 4 3 = N64 at *
            refine AR.blk 1 (f' := (204, [some (vA m), some (vI (68 + (6 * (m_ix (m_key P cl (t % 2)) D : Int)))), some (vI 4)], [vA m], (C, N64))) (fun _ => rfl) ?_
            refine AR.getR rfl rfl hm.1 (by decide) rfl ?_
            refine AR.blk 3 (f' := (210, [some (vA m), some (vI (68 + (6 * (m_ix (m_key P cl (t % 2)) D : Int)))), some (vI 4)], [vI ((68 + (6 * (m_ix (m_key P cl (t % 2)) D : Int))) + 5), vA (m + 1)], (C, N64))) (fun _ => rfl) ?_
            refine AR.iald rfl hm.2.1 (by omega) (v := 1) cN64 ?_
            refine AR.endI rfl (.inl rfl) ?_
            have u1 : m_cn (m_key P cl (t % 2)) D = 1 := (m_add_new _ D (by omega)).2
            have u2 : m_end2 P n q cl t (m_cn (m_key P cl (t % 2)) D) = 3 := by rw [u1]; unfold m_end2; omega
            have u3 : g_rD (N64 (m + 1)) (m_add (m_key P cl (t % 2)) D) := by rw [(m_add_new _ D (by omega)).1, XN64, show (m_ix (m_key P cl (t % 2)) D : Int) = D.length by omega]; exact g_rD_new hD hvp (by (first | (simp only [m_set, if_true, if_false]; done) | (simp only [m_set, if_true, if_false]; omega) | (simp only [m_set]; omega))) (fun i z0 z1 => by (first | (simp only [m_set, if_true, if_false]; done) | (simp only [m_set, if_true, if_false]; omega) | (simp only [m_set]; omega))) (fun k z0 z1 => by have e : k = 0 ∨ k = 1 ∨ k = 2 ∨ k = 3 := (by omega); rcases e with rfl | rfl | rfl | rfl <;> (first | (simp only [m_set, if_true, if_false]; done) | (simp only [m_set, if_true, if_false]; omega) | ((first | (simp only [m_set, if_true, if_false]; done) | (simp only [m_set, if_true, if_false]; omega) | (simp only [m_set]; omega))))) (by (first | (simp only [m_set, if_true, if_false]; done) | (simp only [m_set, if_true, if_false]; omega) | (simp only [m_set]; omega))) (by (first | (simp only [m_set, if_true, if_false]; done) | (simp only [m_set, if_true, if_false]; omega) | (simp only [m_set]; omega)))
            have u4 : ∀ i, 6 ≤ i ∧ i < 8 → N64 (m + 1) i = N (m + 1) i := fun i hi => by rw [XN64]; (first | (simp only [m_set, if_true, if_false]; done) | (simp only [m_set, if_true, if_false]; omega) | (simp only [m_set]; omega))
            rw [u2, u1]
            exact ⟨_, rfl, RN64, ZN64, u3, u4, FN64⟩
        · show AR E d _ (162, [some (vA m), some (vI (68 + (6 * (m_ix (m_key P cl (t % 2)) D : Int)))), some (vI 4)], [], (C, N51)) _
          refine AR.blk 1 (f' := (163, [some (vA m), some (vI (68 + (6 * (m_ix (m_key P cl (t % 2)) D : Int)))), some (vI 4)], [vA m], (C, N51))) (fun _ => rfl) ?_
          refine AR.getR rfl rfl hm.1 (by decide) rfl ?_
          refine AR.blk 2 (f' := (168, [some (vA m), some (vI (68 + (6 * (m_ix (m_key P cl (t % 2)) D : Int)))), some (vI 4)], [vA m, vI 4, vA (m + 1)], (C, N51))) (fun _ => rfl) ?_
          refine AR.getR rfl rfl hm.1 (by decide) rfl ?_
          refine AR.blk 1 (f' := (172, [some (vA m), some (vI (68 + (6 * (m_ix (m_key P cl (t % 2)) D : Int)))), some (vI 4)], [vI 1, vA (m + 1), vI 4, vA (m + 1)], (C, N51))) (fun _ => rfl) ?_
          refine AR.iald rfl hm.2.1 (by omega) (v := t % 2) ZN51.2.1 ?_
          refine AR.if_ne rfl (by omega) (fun c65 => ?_) (fun c65 => ?_)
          · show AR E d _ (180, [some (vA m), some (vI (68 + (6 * (m_ix (m_key P cl (t % 2)) D : Int)))), some (vI 4)], [vI 4, vA (m + 1)], (C, N51)) _
            refine AR.blk 1 (f' := (181, [some (vA m), some (vI (68 + (6 * (m_ix (m_key P cl (t % 2)) D : Int)))), some (vI 4)], [vI 1, vI 4, vA (m + 1)], (C, N51))) (fun _ => rfl) ?_
            refine AR.iast rfl hm.2.1 (by omega) ?_
            show AR E d _ (182, [some (vA m), some (vI (68 + (6 * (m_ix (m_key P cl (t % 2)) D : Int)))), some (vI 4)], [], (C, ag_upd N51 (m + 1) 4 1)) _
            have RN67 := g_rR_fr RN51 (R' := (ag_upd N51 (m + 1) 4 1) (m + 1)) (fun i z0 z1 => ag_upd_nk (by omega))
            have ZN67 := g_rZ_en ZN51 1
            have FN67 : ∀ a, a ≠ m + 1 → (ag_upd N51 (m + 1) 4 1) a = N a := fun a ha => (ag_upd_ne ha).trans (FN51 a ha)
            have XN67 : (ag_upd N51 (m + 1) 4 1) (m + 1) = m_set (m_set (m_set (m_set (m_set (m_set (m_set (m_set (m_set (N (m + 1)) ((68 + (6 * (m_ix (m_key P cl (t % 2)) D : Int))) + 0) (m_bp P 0)) ((68 + (6 * (m_ix (m_key P cl (t % 2)) D : Int))) + 1) (m_bp P 1)) ((68 + (6 * (m_ix (m_key P cl (t % 2)) D : Int))) + 2) (m_bp P 2)) ((68 + (6 * (m_ix (m_key P cl (t % 2)) D : Int))) + 3) (m_bp P 3)) ((68 + (6 * (m_ix (m_key P cl (t % 2)) D : Int))) + 4) (m_rest cl (t % 2))) ((68 + (6 * (m_ix (m_key P cl (t % 2)) D : Int))) + 5) 0) 67 ((D.length : Int) + 1)) ((68 + (6 * (m_ix (m_key P cl (t % 2)) D : Int))) + 5) 1) 4 1 := (ag_upd_row _ _ _ _).trans (congrArg (fun f => m_set f 4 1) XN51)
            have cN67 : (ag_upd N51 (m + 1) 4 1) (m + 1) ((68 + (6 * (m_ix (m_key P cl (t % 2)) D : Int))) + 5) = 1 := (ag_upd_nk (by omega)).trans cN51
            generalize ag_upd N51 (m + 1) 4 1 = N67 at *
            refine AR.blk 2 (f' := (204, [some (vA m), some (vI (68 + (6 * (m_ix (m_key P cl (t % 2)) D : Int)))), some (vI 4)], [vA m], (C, N67))) (fun _ => rfl) ?_
            refine AR.getR rfl rfl hm.1 (by decide) rfl ?_
            refine AR.blk 3 (f' := (210, [some (vA m), some (vI (68 + (6 * (m_ix (m_key P cl (t % 2)) D : Int)))), some (vI 4)], [vI ((68 + (6 * (m_ix (m_key P cl (t % 2)) D : Int))) + 5), vA (m + 1)], (C, N67))) (fun _ => rfl) ?_
            refine AR.iald rfl hm.2.1 (by omega) (v := 1) cN67 ?_
            refine AR.endI rfl (.inl rfl) ?_
            have u1 : m_cn (m_key P cl (t % 2)) D = 1 := (m_add_new _ D (by omega)).2
            have u2 : m_end2 P n q cl t (m_cn (m_key P cl (t % 2)) D) = 1 := by rw [u1]; unfold m_end2; omega
            have u3 : g_rD (N67 (m + 1)) (m_add (m_key P cl (t % 2)) D) := by rw [(m_add_new _ D (by omega)).1, XN67, show (m_ix (m_key P cl (t % 2)) D : Int) = D.length by omega]; exact g_rD_new hD hvp (by (first | (simp only [m_set, if_true, if_false]; done) | (simp only [m_set, if_true, if_false]; omega) | (simp only [m_set]; omega))) (fun i z0 z1 => by (first | (simp only [m_set, if_true, if_false]; done) | (simp only [m_set, if_true, if_false]; omega) | (simp only [m_set]; omega))) (fun k z0 z1 => by have e : k = 0 ∨ k = 1 ∨ k = 2 ∨ k = 3 := (by omega); rcases e with rfl | rfl | rfl | rfl <;> (first | (simp only [m_set, if_true, if_false]; done) | (simp only [m_set, if_true, if_false]; omega) | ((first | (simp only [m_set, if_true, if_false]; done) | (simp only [m_set, if_true, if_false]; omega) | (simp only [m_set]; omega))))) (by (first | (simp only [m_set, if_true, if_false]; done) | (simp only [m_set, if_true, if_false]; omega) | (simp only [m_set]; omega))) (by (first | (simp only [m_set, if_true, if_false]; done) | (simp only [m_set, if_true, if_false]; omega) | (simp only [m_set]; omega)))
            have u4 : ∀ i, 6 ≤ i ∧ i < 8 → N67 (m + 1) i = N (m + 1) i := fun i hi => by rw [XN67]; (first | (simp only [m_set, if_true, if_false]; done) | (simp only [m_set, if_true, if_false]; omega) | (simp only [m_set]; omega))
            rw [u2, u1]
            exact ⟨_, rfl, RN67, ZN67, u3, u4, FN67⟩
          · show AR E d _ (176, [some (vA m), some (vI (68 + (6 * (m_ix (m_key P cl (t % 2)) D : Int)))), some (vI 4)], [vI 4, vA (m + 1)], (C, N51)) _
            refine AR.blk 2 (f' := (181, [some (vA m), some (vI (68 + (6 * (m_ix (m_key P cl (t % 2)) D : Int)))), some (vI 4)], [vI 2, vI 4, vA (m + 1)], (C, N51))) (fun _ => rfl) ?_
            refine AR.iast rfl hm.2.1 (by omega) ?_
            show AR E d _ (182, [some (vA m), some (vI (68 + (6 * (m_ix (m_key P cl (t % 2)) D : Int)))), some (vI 4)], [], (C, ag_upd N51 (m + 1) 4 2)) _
            have RN69 := g_rR_fr RN51 (R' := (ag_upd N51 (m + 1) 4 2) (m + 1)) (fun i z0 z1 => ag_upd_nk (by omega))
            have ZN69 := g_rZ_en ZN51 2
            have FN69 : ∀ a, a ≠ m + 1 → (ag_upd N51 (m + 1) 4 2) a = N a := fun a ha => (ag_upd_ne ha).trans (FN51 a ha)
            have XN69 : (ag_upd N51 (m + 1) 4 2) (m + 1) = m_set (m_set (m_set (m_set (m_set (m_set (m_set (m_set (m_set (N (m + 1)) ((68 + (6 * (m_ix (m_key P cl (t % 2)) D : Int))) + 0) (m_bp P 0)) ((68 + (6 * (m_ix (m_key P cl (t % 2)) D : Int))) + 1) (m_bp P 1)) ((68 + (6 * (m_ix (m_key P cl (t % 2)) D : Int))) + 2) (m_bp P 2)) ((68 + (6 * (m_ix (m_key P cl (t % 2)) D : Int))) + 3) (m_bp P 3)) ((68 + (6 * (m_ix (m_key P cl (t % 2)) D : Int))) + 4) (m_rest cl (t % 2))) ((68 + (6 * (m_ix (m_key P cl (t % 2)) D : Int))) + 5) 0) 67 ((D.length : Int) + 1)) ((68 + (6 * (m_ix (m_key P cl (t % 2)) D : Int))) + 5) 1) 4 2 := (ag_upd_row _ _ _ _).trans (congrArg (fun f => m_set f 4 2) XN51)
            have cN69 : (ag_upd N51 (m + 1) 4 2) (m + 1) ((68 + (6 * (m_ix (m_key P cl (t % 2)) D : Int))) + 5) = 1 := (ag_upd_nk (by omega)).trans cN51
            generalize ag_upd N51 (m + 1) 4 2 = N69 at *
            refine AR.blk 2 (f' := (204, [some (vA m), some (vI (68 + (6 * (m_ix (m_key P cl (t % 2)) D : Int)))), some (vI 4)], [vA m], (C, N69))) (fun _ => rfl) ?_
            refine AR.getR rfl rfl hm.1 (by decide) rfl ?_
            refine AR.blk 3 (f' := (210, [some (vA m), some (vI (68 + (6 * (m_ix (m_key P cl (t % 2)) D : Int)))), some (vI 4)], [vI ((68 + (6 * (m_ix (m_key P cl (t % 2)) D : Int))) + 5), vA (m + 1)], (C, N69))) (fun _ => rfl) ?_
            refine AR.iald rfl hm.2.1 (by omega) (v := 1) cN69 ?_
            refine AR.endI rfl (.inl rfl) ?_
            have u1 : m_cn (m_key P cl (t % 2)) D = 1 := (m_add_new _ D (by omega)).2
            have u2 : m_end2 P n q cl t (m_cn (m_key P cl (t % 2)) D) = 2 := by rw [u1]; unfold m_end2; omega
            have u3 : g_rD (N69 (m + 1)) (m_add (m_key P cl (t % 2)) D) := by rw [(m_add_new _ D (by omega)).1, XN69, show (m_ix (m_key P cl (t % 2)) D : Int) = D.length by omega]; exact g_rD_new hD hvp (by (first | (simp only [m_set, if_true, if_false]; done) | (simp only [m_set, if_true, if_false]; omega) | (simp only [m_set]; omega))) (fun i z0 z1 => by (first | (simp only [m_set, if_true, if_false]; done) | (simp only [m_set, if_true, if_false]; omega) | (simp only [m_set]; omega))) (fun k z0 z1 => by have e : k = 0 ∨ k = 1 ∨ k = 2 ∨ k = 3 := (by omega); rcases e with rfl | rfl | rfl | rfl <;> (first | (simp only [m_set, if_true, if_false]; done) | (simp only [m_set, if_true, if_false]; omega) | ((first | (simp only [m_set, if_true, if_false]; done) | (simp only [m_set, if_true, if_false]; omega) | (simp only [m_set]; omega))))) (by (first | (simp only [m_set, if_true, if_false]; done) | (simp only [m_set, if_true, if_false]; omega) | (simp only [m_set]; omega))) (by (first | (simp only [m_set, if_true, if_false]; done) | (simp only [m_set, if_true, if_false]; omega) | (simp only [m_set]; omega)))
            have u4 : ∀ i, 6 ≤ i ∧ i < 8 → N69 (m + 1) i = N (m + 1) i := fun i hi => by rw [XN69]; (first | (simp only [m_set, if_true, if_false]; done) | (simp only [m_set, if_true, if_false]; omega) | (simp only [m_set]; omega))
            rw [u2, u1]
            exact ⟨_, rfl, RN69, ZN69, u3, u4, FN69⟩
      · show AR E d _ (111, [some (vA m), some (vI (68 + (6 * (m_ix (m_key P cl (t % 2)) D : Int)))), some (vI 4)], [], (C, N51)) _
        refine AR.blk 1 (f' := (112, [some (vA m), some (vI (68 + (6 * (m_ix (m_key P cl (t % 2)) D : Int)))), some (vI 4)], [vA m], (C, N51))) (fun _ => rfl) ?_
        refine AR.getR rfl rfl hm.1 (by decide) rfl ?_
        refine AR.blk 3 (f' := (118, [some (vA m), some (vI (68 + (6 * (m_ix (m_key P cl (t % 2)) D : Int)))), some (vI 4)], [vI 0, vA m, vI 4, vA (m + 1)], (C, N51))) (fun _ => rfl) ?_
        refine AR.callV [vI 0] (ev_X7_pieces (by omega) hm RN51 hw 0 (by omega)) hm.1 rfl rfl rfl rfl rfl ?_
        show AR E d _ (121, [some (vA m), some (vI (68 + (6 * (m_ix (m_key P cl (t % 2)) D : Int)))), some (vI 4)], [vI (m_cnt P 0), vI 4, vA (m + 1)], (C, N51)) _
        have f70 := m_cnt_in P 0
        refine AR.if_ne rfl (by omega) (fun c71 => ?_) (fun c71 => ?_)
        · show AR E d _ (128, [some (vA m), some (vI (68 + (6 * (m_ix (m_key P cl (t % 2)) D : Int)))), some (vI 4)], [vI 4, vA (m + 1)], (C, N51)) _
          refine AR.blk 1 (f' := (129, [some (vA m), some (vI (68 + (6 * (m_ix (m_key P cl (t % 2)) D : Int)))), some (vI 4)], [vI 1, vI 4, vA (m + 1)], (C, N51))) (fun _ => rfl) ?_
          refine AR.iast rfl hm.2.1 (by omega) ?_
          show AR E d _ (130, [some (vA m), some (vI (68 + (6 * (m_ix (m_key P cl (t % 2)) D : Int)))), some (vI 4)], [], (C, ag_upd N51 (m + 1) 4 1)) _
          have RN73 := g_rR_fr RN51 (R' := (ag_upd N51 (m + 1) 4 1) (m + 1)) (fun i z0 z1 => ag_upd_nk (by omega))
          have ZN73 := g_rZ_en ZN51 1
          have FN73 : ∀ a, a ≠ m + 1 → (ag_upd N51 (m + 1) 4 1) a = N a := fun a ha => (ag_upd_ne ha).trans (FN51 a ha)
          have XN73 : (ag_upd N51 (m + 1) 4 1) (m + 1) = m_set (m_set (m_set (m_set (m_set (m_set (m_set (m_set (m_set (N (m + 1)) ((68 + (6 * (m_ix (m_key P cl (t % 2)) D : Int))) + 0) (m_bp P 0)) ((68 + (6 * (m_ix (m_key P cl (t % 2)) D : Int))) + 1) (m_bp P 1)) ((68 + (6 * (m_ix (m_key P cl (t % 2)) D : Int))) + 2) (m_bp P 2)) ((68 + (6 * (m_ix (m_key P cl (t % 2)) D : Int))) + 3) (m_bp P 3)) ((68 + (6 * (m_ix (m_key P cl (t % 2)) D : Int))) + 4) (m_rest cl (t % 2))) ((68 + (6 * (m_ix (m_key P cl (t % 2)) D : Int))) + 5) 0) 67 ((D.length : Int) + 1)) ((68 + (6 * (m_ix (m_key P cl (t % 2)) D : Int))) + 5) 1) 4 1 := (ag_upd_row _ _ _ _).trans (congrArg (fun f => m_set f 4 1) XN51)
          have cN73 : (ag_upd N51 (m + 1) 4 1) (m + 1) ((68 + (6 * (m_ix (m_key P cl (t % 2)) D : Int))) + 5) = 1 := (ag_upd_nk (by omega)).trans cN51
          generalize ag_upd N51 (m + 1) 4 1 = N73 at *
          refine AR.blk 2 (f' := (204, [some (vA m), some (vI (68 + (6 * (m_ix (m_key P cl (t % 2)) D : Int)))), some (vI 4)], [vA m], (C, N73))) (fun _ => rfl) ?_
          refine AR.getR rfl rfl hm.1 (by decide) rfl ?_
          refine AR.blk 3 (f' := (210, [some (vA m), some (vI (68 + (6 * (m_ix (m_key P cl (t % 2)) D : Int)))), some (vI 4)], [vI ((68 + (6 * (m_ix (m_key P cl (t % 2)) D : Int))) + 5), vA (m + 1)], (C, N73))) (fun _ => rfl) ?_
          refine AR.iald rfl hm.2.1 (by omega) (v := 1) cN73 ?_
          refine AR.endI rfl (.inl rfl) ?_
          have u1 : m_cn (m_key P cl (t % 2)) D = 1 := (m_add_new _ D (by omega)).2
          have u2 : m_end2 P n q cl t (m_cn (m_key P cl (t % 2)) D) = 1 := by rw [u1]; unfold m_end2; omega
          have u3 : g_rD (N73 (m + 1)) (m_add (m_key P cl (t % 2)) D) := by rw [(m_add_new _ D (by omega)).1, XN73, show (m_ix (m_key P cl (t % 2)) D : Int) = D.length by omega]; exact g_rD_new hD hvp (by (first | (simp only [m_set, if_true, if_false]; done) | (simp only [m_set, if_true, if_false]; omega) | (simp only [m_set]; omega))) (fun i z0 z1 => by (first | (simp only [m_set, if_true, if_false]; done) | (simp only [m_set, if_true, if_false]; omega) | (simp only [m_set]; omega))) (fun k z0 z1 => by have e : k = 0 ∨ k = 1 ∨ k = 2 ∨ k = 3 := (by omega); rcases e with rfl | rfl | rfl | rfl <;> (first | (simp only [m_set, if_true, if_false]; done) | (simp only [m_set, if_true, if_false]; omega) | ((first | (simp only [m_set, if_true, if_false]; done) | (simp only [m_set, if_true, if_false]; omega) | (simp only [m_set]; omega))))) (by (first | (simp only [m_set, if_true, if_false]; done) | (simp only [m_set, if_true, if_false]; omega) | (simp only [m_set]; omega))) (by (first | (simp only [m_set, if_true, if_false]; done) | (simp only [m_set, if_true, if_false]; omega) | (simp only [m_set]; omega)))
          have u4 : ∀ i, 6 ≤ i ∧ i < 8 → N73 (m + 1) i = N (m + 1) i := fun i hi => by rw [XN73]; (first | (simp only [m_set, if_true, if_false]; done) | (simp only [m_set, if_true, if_false]; omega) | (simp only [m_set]; omega))
          rw [u2, u1]
          exact ⟨_, rfl, RN73, ZN73, u3, u4, FN73⟩
        · exact False.elim (by omega)
end L2p
