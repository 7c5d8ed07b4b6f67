/-! LEVEL 2: the model reads its text: all of it -/
theorem g_rTd_add {N N' : Nat → Int → Int} {a : Nat} {M : List (Int × Int)} {s y : Int} (h : g_rTd N a M) (hl : ∀ k, k < 2 * (M.length : Int) → N' a k = N a k) (h1 : N' a (2 * (M.length : Int)) = s) (h2 : N' a (2 * (M.length : Int) + 1) = y) : g_rTd N' a (M ++ [(s, y)]) := by
  intro j z hz
  by_cases q : j < M.length
  · rw [List.getElem?_append_left q] at hz
    have h3 := h j z hz
    exact ⟨(hl _ (by omega)).trans h3.1, (hl _ (by omega)).trans h3.2⟩
  · rw [List.getElem?_append_right (by omega)] at hz
    have e : j - M.length = 0 := by
      by_cases z2 : j - M.length = 0
      · exact z2
      · rw [List.getElem?_eq_none (by show 1 ≤ _; omega)] at hz; cases hz
    rw [e] at hz
    cases hz
    rw [show (j : Int) = M.length by omega]
    exact ⟨h1, h2⟩
theorem g_rTd_fr {N N' : Nat → Int → Int} {a : Nat} {M : List (Int × Int)} (h : g_rTd N a M) (e : N' a = N a) : g_rTd N' a M := fun j y hy => by
  rw [e]
  exact h j y hy
section L2M
variable {E : Nat × (Int → Int)} {C : List ag_C} {N : Nat → Int → Int} {m : Nat} {L : Int} {T : Int → Int}
theorem ev_X7_moveHere2 {d : Nat} (hd : 2 ≤ d) (hm : g_isM C m) (h14 : N m 14 = L) (hT : ∀ j, 0 ≤ j → j < L → N (m + 6) j = T j) (hL : 0 ≤ L ∧ L ≤ 70) (hTr : ∀ j, 0 ≤ j → j < L → 32 ≤ T j ∧ T j ≤ 126) {i : Int} (h17 : N m 17 = i) {M : List (Int × Int)} (h19 : N m 19 = M.length) (hi : 3 * (M.length : Int) ≤ i ∧ i ≤ L) {R : Int × List (Int × Int)} (hR : m_ps T L (L - i).toNat i 0 0 0 M = R) : ∃ e j s y : Int, ∃ o_, Ev E d 160 [vA m] (C, N) o_ ∧ ∃ N' : Nat → Int → Int, o_ = (some (vI e), (C, N')) ∧ (e = 0 ∨ e = 1) ∧ N' m 17 = j ∧ (0 ≤ j ∧ j ≤ L) ∧ (e = 0 → R = (j, M)) ∧ (e = 1 → i + 2 ≤ j ∧ N' (m + 8) (2 * (M.length : Int)) = s ∧ N' (m + 8) (2 * (M.length : Int) + 1) = y ∧ ∃ dg, m_ps T L (L - j).toNat j s dg 1 (M ++ [(s, y)]) = R) ∧ (∀ k, k < 2 * (M.length : Int) → N' (m + 8) k = N (m + 8) k) ∧ (∀ k, k ≠ 17 → N' m k = N m k) ∧ ∀ a, ¬ (a = m ∨ a = m + 8) → N' a = N a := by
  obtain ⟨o, h1, e, j, s, y, N2, h2⟩ := ev_X7_moveHere (E := E) (by omega) hm h14 hT hL hTr h17 h19 hi hR
  exact ⟨e, j, s, y, o, h1, N2, h2⟩

theorem ev_X7_isText {d : Nat} (hd : 3 ≤ d) (hm : g_isM C m) (h14 : N m 14 = L) (hT : ∀ j, 0 ≤ j → j < L → N (m + 6) j = T j) (hL : 0 ≤ L ∧ L ≤ 70) (hTr : ∀ j, 0 ≤ j → j < L → 32 ≤ T j ∧ T j ≤ 126) {R : Int × List (Int × Int)} (hR : m_ps T L L.toNat 0 0 0 0 [] = R) : ∃ o_, Ev E d 161 [vA m] (C, N) o_ ∧ g_QTx C N m R o_ := by
  obtain ⟨d, rfl⟩ : ∃ j, d = j + 1 := ⟨d - 1, by omega⟩
  refine Ev.introQ (M := ag_mX7_isText) rfl rfl ?_
  show AR E d _ (0, [some (vA m)], [], (C, N)) _
  refine AR.blk 2 (f' := (2, [some (vA m)], [vI 0, vA m], (C, N))) (fun _ => rfl) ?_
  refine AR.putI rfl rfl hm.1 (by decide) (fun q => absurd q (by decide)) ?_
  refine AR.blk 2 (f' := (7, [some (vA m)], [vI 0, vA m], (C, ag_upd N m 17 0))) (fun _ => rfl) ?_
  refine AR.putI rfl rfl hm.1 (by decide) (fun q => absurd q (by decide)) ?_
  suffices H10 : ∀ (j : Nat) (i : Int) (M : List (Int × Int)) (N9 : Nat → Int → Int), (L + 1 - i).toNat < j → (3 * (M.length : Int) ≤ i ∧ i ≤ L) → (m_ps T L (L - i).toNat i 0 0 0 M = R) → (N9 m 17 = i) → (N9 m 19 = M.length) → (g_rTd N9 (m + 8) M) → (∀ k, ¬ (k = 17 ∨ k = 19) → N9 m k = N m k) → (∀ c, ¬ (c = m ∨ c = m + 8) → N9 c = N c) → AR E d ag_mX7_isText (10, [some (vA m)], [], (C, N9)) (g_QTx C N m R) by
    exact H10 _ (0) ([]) _ (Nat.lt_succ_self _) (by show 3 * ((0 : Nat) : Int) ≤ 0 ∧ _; omega) (by rw [Int.sub_zero]; exact hR) ((ag_upd_nk (by omega)).trans ag_upd_eq) ag_upd_eq (fun j y hy => by cases hy) (fun k hk => (ag_upd_nk (by omega)).trans (ag_upd_nk (by omega))) (fun c hc => (ag_upd_ne (by omega)).trans (ag_upd_ne (by omega)))
  intro j
  induction j with
  | zero => intro i M N9 hj; exact absurd hj (Nat.not_lt_zero _)
  | succ j ih10 =>
    intro i M N9 hj10 j0 jR g17 g19 gd gk gf
    have g14 : N9 m 14 = L := (gk _ (by omega)).trans h14
    have gT : ∀ j, 0 ≤ j → j < L → N9 (m + 6) j = T j := fun j z0 z1 => (congrFun (gf _ (by omega)) j).trans (hT j z0 z1)
    refine AR.blk 1 (f' := (11, [some (vA m)], [vA m], (C, N9))) (fun _ => rfl) ?_
    obtain ⟨e1, j1, s1, y1, _, hE1, N2, rfl, hb3, hj4, hjr5, h06, h17, hl8, hk9, hf10⟩ := ev_X7_moveHere2 (E := E) (d := d) (by omega) hm g14 gT hL hTr g17 g19 j0 jR
    have g14' : N2 m 14 = L := (hk9 _ (by omega)).trans g14
    have gT' : ∀ j, 0 ≤ j → j < L → N2 (m + 6) j = T j := fun j z0 z1 => (congrFun (hf10 _ (by omega)) j).trans (gT j z0 z1)
    have g19' : N2 m 19 = M.length := (hk9 _ (by omega)).trans g19
    have hb0 := hb3
    have hj0 := hjr5
    have hTj := fun z => hTr j1 hj0.1 z
    refine AR.callV [] hE1 hm.1 rfl rfl rfl rfl rfl ?_
    show AR E d _ (14, [some (vA m)], [vI e1], (C, N2)) _
    refine AR.if_eq rfl (by omega) (fun c11 => ?_) (fun c11 => ?_)
    · show AR E d _ (66, [some (vA m)], [], (C, N2)) _
      refine AR.blk 1 (f' := (67, [some (vA m)], [vI 0], (C, N2))) (fun _ => rfl) ?_
      refine AR.endI rfl (.inr ⟨rfl, by omega⟩) ?_
      have hz := h06 (by omega)
      rw [hz]
      exact ⟨0, _, rfl, .inl rfl, (fun _ => ⟨(show ¬ j1 = -1 by omega), hj4⟩), (fun z => by cases z), (fun k hk => (hk9 k (by omega)).trans (gk k hk)), (fun c hc => (hf10 c hc).trans (gf c hc))⟩
    · show AR E d _ (17, [some (vA m)], [], (C, N2)) _
      have he := h17 (by omega)
      obtain ⟨dg1, hR1⟩ := he.2.2.2
      have he0 := he.1
      have zs := fun hi => m_psS (i := j1) hi hR1
      have gd2 : g_rTd N2 (m + 8) (M ++ [(s1, y1)]) := g_rTd_add gd hl8 he.2.1 he.2.2.1
      refine AR.blk 2 (f' := (19, [some (vA m)], [vA m, vA m], (C, N2))) (fun _ => rfl) ?_
      refine AR.getI rfl rfl hm.1 (by decide) (v := (M.length : Int)) g19' ?_
      refine AR.blk 2 (f' := (24, [some (vA m)], [vI ((M.length : Int) + 1), vA m], (C, N2))) (fun _ => rfl) ?_
      refine AR.putI rfl rfl hm.1 (by decide) (fun q => absurd q (by decide)) ?_
      refine AR.blk 1 (f' := (28, [some (vA m)], [vA m], (C, ag_upd N2 m 19 ((M.length : Int) + 1)))) (fun _ => rfl) ?_
      refine AR.callV [] (ev_X7_here (by omega) hm (N := ag_upd N2 m 19 ((M.length : Int) + 1)) ((ag_upd_nk (by omega)).trans hj4) ((ag_upd_nk (by omega)).trans g14') (by omega) (fun j z0 z1 => (congrFun (ag_upd_ne (by omega)) j).trans (gT' j z0 z1))) hm.1 rfl rfl rfl rfl rfl ?_
      show AR E d _ (31, [some (vA m)], [vI (if j1 < L then T j1 else -1)], (C, ag_upd N2 m 19 ((M.length : Int) + 1))) _
      have f12 := (fun z => hTr j1 (by omega) z : j1 < L → _)
      refine AR.blk 1 (f' := (33, [some (vA m)], [vI 59, vI (if j1 < L then T j1 else -1)], (C, ag_upd N2 m 19 ((M.length : Int) + 1)))) (fun _ => rfl) ?_
      refine AR.ic_eq rfl (by omega) (fun c13 => ?_) (fun c13 => ?_)
      · show AR E d _ (53, [some (vA m)], [], (C, ag_upd N2 m 19 ((M.length : Int) + 1))) _
        refine AR.blk 2 (f' := (55, [some (vA m)], [vA m, vA m], (C, ag_upd N2 m 19 ((M.length : Int) + 1)))) (fun _ => rfl) ?_
        refine AR.getI rfl rfl hm.1 (by decide) (v := j1) ((ag_upd_nk (by omega)).trans hj4) ?_
        refine AR.blk 2 (f' := (60, [some (vA m)], [vI (j1 + 1), vA m], (C, ag_upd N2 m 19 ((M.length : Int) + 1)))) (fun _ => rfl) ?_
        refine AR.putI rfl rfl hm.1 (by decide) (fun q => absurd q (by decide)) ?_
        refine AR.blk 1 (f' := (10, [some (vA m)], [], (C, ag_upd (ag_upd N2 m 19 ((M.length : Int) + 1)) m 17 (j1 + 1)))) (fun _ => rfl) ?_
        exact ih10 (j1 + 1) (M ++ [(s1, y1)]) _ (by omega) (by rw [List.length_append]; show 3 * ((M.length + 1 : Nat) : Int) ≤ j1 + 1 ∧ j1 + 1 ≤ L; omega) ((zs (by omega)).1 (by omega)) ag_upd_eq ((ag_upd_nk (by omega)).trans (ag_upd_eq.trans (by rw [List.length_append]; show (M.length : Int) + 1 = ((M.length + 1 : Nat) : Int); omega))) (g_rTd_fr gd2 ((ag_upd_ne (by omega)).trans (ag_upd_ne (by omega)))) (fun k hk => (ag_upd_nk (by omega)).trans ((ag_upd_nk (by omega)).trans ((hk9 k (by omega)).trans (gk k hk)))) (fun c hc => (ag_upd_ne (by omega)).trans ((ag_upd_ne (by omega)).trans ((hf10 c hc).trans (gf c hc))))
      · show AR E d _ (36, [some (vA m)], [], (C, ag_upd N2 m 19 ((M.length : Int) + 1))) _
        refine AR.blk 1 (f' := (37, [some (vA m)], [vA m], (C, ag_upd N2 m 19 ((M.length : Int) + 1)))) (fun _ => rfl) ?_
        refine AR.getI rfl rfl hm.1 (by decide) (v := j1) ((ag_upd_nk (by omega)).trans hj4) ?_
        refine AR.blk 1 (f' := (41, [some (vA m)], [vA m, vI j1], (C, ag_upd N2 m 19 ((M.length : Int) + 1)))) (fun _ => rfl) ?_
        refine AR.getI rfl rfl hm.1 (by decide) (v := L) ((ag_upd_nk (by omega)).trans g14') ?_
        refine AR.ic_ne rfl (by omega) (fun c14 => ?_) (fun c14 => ?_)
        · show AR E d _ (51, [some (vA m)], [], (C, ag_upd N2 m 19 ((M.length : Int) + 1))) _
          refine AR.blk 1 (f' := (52, [some (vA m)], [vI 0], (C, ag_upd N2 m 19 ((M.length : Int) + 1)))) (fun _ => rfl) ?_
          refine AR.endI rfl (.inr ⟨rfl, by omega⟩) ?_
          have hz := (zs (by omega)).2.2.2 (by omega)
          rw [← hz]
          exact ⟨0, _, rfl, .inl rfl, (fun _ => ⟨(show ¬ j1 = -1 by omega), (ag_upd_nk (by omega)).trans hj4⟩), (fun z => by cases z), (fun k hk => (ag_upd_nk (by omega)).trans ((hk9 k (by omega)).trans (gk k hk))), (fun c hc => (ag_upd_ne (by omega)).trans ((hf10 c hc).trans (gf c hc)))⟩
        · show AR E d _ (47, [some (vA m)], [], (C, ag_upd N2 m 19 ((M.length : Int) + 1))) _
          refine AR.blk 2 (f' := (52, [some (vA m)], [vI 1], (C, ag_upd N2 m 19 ((M.length : Int) + 1)))) (fun _ => rfl) ?_
          refine AR.endI rfl (.inr ⟨rfl, by omega⟩) ?_
          have hz := m_ps_end (by omega) hR1
          rw [if_pos rfl] at hz
          rw [← hz]
          exact ⟨1, _, rfl, .inr rfl, (fun z => by cases z), (fun _ => ⟨rfl, ag_upd_eq.trans (by rw [List.length_append]; show (M.length : Int) + 1 = ((M.length + 1 : Nat) : Int); omega), g_rTd_fr gd2 (ag_upd_ne (by omega))⟩), (fun k hk => (ag_upd_nk (by omega)).trans ((hk9 k (by omega)).trans (gk k hk))), (fun c hc => (ag_upd_ne (by omega)).trans ((hf10 c hc).trans (gf c hc)))⟩
end L2M
