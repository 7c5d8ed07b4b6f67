/-! LEVEL 2: the class reads its text -/
def m_ps (T : Int → Int) (L : Int) : Nat → Int → Int → Int → Int → List (Int × Int) → Int × List (Int × Int)
  | 0, _, _, _, cm, M => (if cm = 1 then -1 else L, M)
  | f + 1, i, sq, dg, cm, M =>
    if cm = 1 ∧ T i = 59 then m_ps T L f (i + 1) 0 0 0 M
    else if cm ≠ 1 ∧ dg < 2 ∧ 48 ≤ T i ∧ T i ≤ 57 then m_ps T L f (i + 1) (sq * 10 + T i - 48) (dg + 1) cm M
    else if cm ≠ 1 ∧ 0 < dg ∧ m_dir (T i) ≠ -1 then m_ps T L f (i + 1) sq dg 1 (M ++ [(sq, m_dir (T i))])
    else (i, M)
theorem m_psS {T : Int → Int} {L i sq dg cm : Int} {M : List (Int × Int)} {R : Int × List (Int × Int)} (hi : i < L) (h : m_ps T L (L - i).toNat i sq dg cm M = R) : (cm = 1 ∧ T i = 59 → m_ps T L (L - (i + 1)).toNat (i + 1) 0 0 0 M = R) ∧ (cm ≠ 1 ∧ dg < 2 ∧ 48 ≤ T i ∧ T i ≤ 57 → m_ps T L (L - (i + 1)).toNat (i + 1) (sq * 10 + T i - 48) (dg + 1) cm M = R) ∧ (cm ≠ 1 ∧ ¬ (dg < 2 ∧ 48 ≤ T i ∧ T i ≤ 57) ∧ 0 < dg ∧ m_dir (T i) ≠ -1 → m_ps T L (L - (i + 1)).toNat (i + 1) sq dg 1 (M ++ [(sq, m_dir (T i))]) = R) ∧ (¬ (cm = 1 ∧ T i = 59) ∧ ¬ (cm ≠ 1 ∧ dg < 2 ∧ 48 ≤ T i ∧ T i ≤ 57) ∧ ¬ (cm ≠ 1 ∧ 0 < dg ∧ m_dir (T i) ≠ -1) → (i, M) = R) := by
  rw [show (L - i).toNat = (L - (i + 1)).toNat + 1 by omega] at h
  unfold m_ps at h
  refine ⟨fun q => ?_, fun q => ?_, fun q => ?_, fun q => ?_⟩
  · rw [if_pos q] at h; exact h
  · rw [if_neg (by omega), if_pos q] at h; exact h
  · rw [if_neg (by omega), if_neg (by omega), if_pos (by omega)] at h; exact h
  · rw [if_neg q.1, if_neg q.2.1, if_neg q.2.2] at h; exact h
def g_rMs (N : Nat → Int → Int) (x : Nat) (M : List (Int × Int)) : Prop := N x 2 = M.length ∧ ∀ (j : Nat) y, M[j]? = some y → N (x + 2) j = y.1 ∧ N (x + 3) j = y.2
theorem g_rMs_add {N : Nat → Int → Int} {x : Nat} {M : List (Int × Int)} (h : g_rMs N x M) (s y : Int) : g_rMs (ag_upd (ag_upd (ag_upd N (x + 2) M.length s) (x + 3) M.length y) x 2 (M.length + 1)) x (M ++ [(s, y)]) := by
  refine ⟨by rw [ag_upd_eq, List.length_append]; show (M.length : Int) + 1 = ((M.length + 1 : Nat) : Int); omega, fun j z hz => ?_⟩
  have e1 : ∀ k, (ag_upd (ag_upd (ag_upd N (x + 2) M.length s) (x + 3) M.length y) x 2 (M.length + 1)) (x + 2) k = ag_upd N (x + 2) M.length s (x + 2) k := fun k => (congrFun (ag_upd_ne (by omega)) k).trans (congrFun (ag_upd_ne (by omega)) k)
  have e2 : ∀ k, (ag_upd (ag_upd (ag_upd N (x + 2) M.length s) (x + 3) M.length y) x 2 (M.length + 1)) (x + 3) k = ag_upd (ag_upd N (x + 2) M.length s) (x + 3) M.length y (x + 3) k := fun k => congrFun (ag_upd_ne (by omega)) k
  rw [e1, e2]
  by_cases q : j < M.length
  · rw [List.getElem?_append_left q] at hz
    have h1 := h.2 j z hz
    exact ⟨(ag_upd_nk (by omega)).trans h1.1, (ag_upd_nk (by omega)).trans ((congrFun (ag_upd_ne (by omega)) _).trans h1.2)⟩
  · rw [List.getElem?_append_right (by omega)] at hz
    have e : j - M.length = 0 := by
      by_cases z2 : j - M.length = 0
      · exact z2
      · rw [List.getElem?_eq_none (by show 1 ≤ _; omega)] at hz; cases hz
    rw [e] at hz
    cases hz
    rw [show (j : Int) = M.length by omega]
    exact ⟨ag_upd_eq, ag_upd_eq⟩
def g_QT (C : List ag_C) (N : Nat → Int → Int) (x : Nat) (R : Int × List (Int × Int)) : ag_O → Prop := fun r => ∃ N', r = (some (vI R.1), (C, N')) ∧ g_rMs N' x R.2 ∧ N' x 0 = N x 0 ∧ ∀ a, a ≠ x → a ≠ x + 2 → a ≠ x + 3 → N' a = N a
section L2x
variable {E : Nat × (Int → Int)} {C : List ag_C} {N : Nat → Int → Int} {x : Nat} {T : Int → Int} {L : Int}

set_option maxHeartbeats 6000000 in
theorem ev_X3_parse {d : Nat} (hd : 2 ≤ d) (ht : g_isT C x) (hL : N x 0 = L) (h0 : 0 ≤ L ∧ L ≤ 70) (hT : ∀ j, 0 ≤ j → j < L → N (x + 1) j = T j ∧ ag_in (T j)) : ∃ o_, Ev E d 48 [vA x] (C, N) o_ ∧ g_QT C N x (m_ps T L L.toNat 0 0 0 0 []) o_ := by
  obtain ⟨d, rfl⟩ : ∃ j, d = j + 1 := ⟨d - 1, by omega⟩
  refine Ev.introQ (M := ag_mX3_parse) rfl rfl ?_
  show AR E d _ (0, [some (vA x), none, none, none, none, none, none], [], (C, N)) _
  refine AR.blk 2 (f' := (2, [some (vA x), none, none, none, none, none, none], [vI 0, vA x], (C, N))) (fun _ => rfl) ?_
  refine AR.putI rfl rfl ht.1 (by decide) (fun q => absurd q (by decide)) ?_
  refine AR.blk 8 (f' := (14, [some (vA x), some (vI 0), some (vI 0), some (vI 0), some (vI 0), none, none], [], (C, ag_upd N x 2 0))) (fun _ => rfl) ?_
  suffices H14 : ∀ (j : Nat) (sq : Int) (dg : Int) (cm : Int) (i : Int) (z5 : Option av) (z6 : Option av) (M : List (Int × Int)) (N9 : Nat → Int → Int), (L - i).toNat < j → (0 ≤ i ∧ i ≤ L ∧ (cm = 0 ∨ cm = 1) ∧ 0 ≤ dg ∧ dg ≤ 2 ∧ 0 ≤ sq ∧ sq < 100 ∧ (dg = 0 → sq = 0) ∧ (dg = 1 → sq < 10) ∧ (3 * (M.length : Int) + dg ≤ i + 2 * cm) ∧ (cm = 1 → 1 ≤ dg)) → (m_ps T L (L - i).toNat i sq dg cm M = m_ps T L L.toNat 0 0 0 0 []) → (g_rMs N9 x M) → (N9 x 0 = L) → (∀ a, a ≠ x → a ≠ x + 2 → a ≠ x + 3 → N9 a = N a) → AR E d ag_mX3_parse (14, [some (vA x), some (vI sq), some (vI dg), some (vI cm), some (vI i), z5, z6], [], (C, N9)) (g_QT C N x (m_ps T L L.toNat 0 0 0 0 [])) by
    exact H14 _ _ _ _ _ _ _ ([]) _ (Nat.lt_succ_self _) (by show _ ∧ _ ∧ _ ∧ _ ∧ _ ∧ _ ∧ _ ∧ _ ∧ _ ∧ (3 * ((0 : Nat) : Int) + _ ≤ _) ∧ _; omega) (by rw [Int.sub_zero]) ⟨ag_upd_eq, fun j y hy => by cases hy⟩ ((ag_upd_nk (by omega)).trans hL) (fun a z0 _ _ => ag_upd_ne z0)
  intro j
  induction j with
  | zero => intro sq dg cm i z5 z6 M N9 hj; exact absurd hj (Nat.not_lt_zero _)
  | succ j ih14 =>
    intro sq dg cm i z5 z6 M N9 hj14 i0 i1 hM9 h09 hf9
    have zs := fun hi => m_psS hi i1
    refine AR.blk 2 (f' := (17, [some (vA x), some (vI sq), some (vI dg), some (vI cm), some (vI i), z5, z6], [vA x, vI i], (C, N9))) (fun _ => rfl) ?_
    refine AR.getI rfl rfl ht.1 (by decide) (v := L) h09 ?_
    refine AR.ic_ge rfl (by omega) (fun c1 => ?_) (fun c1 => ?_)
    · show AR E d _ (141, [some (vA x), some (vI sq), some (vI dg), some (vI cm), some (vI i), z5, z6], [], (C, N9)) _
      refine AR.blk 1 (f' := (142, [some (vA x), some (vI sq), some (vI dg), some (vI cm), some (vI i), z5, z6], [vI cm], (C, N9))) (fun _ => rfl) ?_
      refine AR.if_eq rfl (by omega) (fun c2 => ?_) (fun c2 => ?_)
      · show AR E d _ (149, [some (vA x), some (vI sq), some (vI dg), some (vI cm), some (vI i), z5, z6], [], (C, N9)) _
        refine AR.blk 1 (f' := (150, [some (vA x), some (vI sq), some (vI dg), some (vI cm), some (vI i), z5, z6], [vA x], (C, N9))) (fun _ => rfl) ?_
        refine AR.getI rfl rfl ht.1 (by decide) (v := L) h09 ?_
        refine AR.endI rfl (.inl rfl) ?_
        have e9 : m_ps T L L.toNat 0 0 0 0 [] = (L, M) := by first | exact ((zs (by omega)).2.2.2 (by omega)).symm | (rw [← i1, show (L - i).toNat = 0 by omega]; first | exact congrArg (fun z => (z, M)) (if_pos (by omega)) | exact congrArg (fun z => (z, M)) (if_neg (by omega)))
        rw [e9]
        exact ⟨_, rfl, hM9, h09.trans hL.symm, hf9⟩
      · show AR E d _ (145, [some (vA x), some (vI sq), some (vI dg), some (vI cm), some (vI i), z5, z6], [], (C, N9)) _
        refine AR.blk 2 (f' := (153, [some (vA x), some (vI sq), some (vI dg), some (vI cm), some (vI i), z5, z6], [vI (-1)], (C, N9))) (fun _ => rfl) ?_
        refine AR.endI rfl (.inl rfl) ?_
        have e9 : m_ps T L L.toNat 0 0 0 0 [] = ((-1), M) := by first | exact ((zs (by omega)).2.2.2 (by omega)).symm | (rw [← i1, show (L - i).toNat = 0 by omega]; first | exact congrArg (fun z => (z, M)) (if_pos (by omega)) | exact congrArg (fun z => (z, M)) (if_neg (by omega)))
        rw [e9]
        exact ⟨_, rfl, hM9, h09.trans hL.symm, hf9⟩
    · show AR E d _ (23, [some (vA x), some (vI sq), some (vI dg), some (vI cm), some (vI i), z5, z6], [], (C, N9)) _
      refine AR.blk 2 (f' := (27, [some (vA x), some (vI sq), some (vI dg), some (vI cm), some (vI i), z5, z6], [vI 70, vI i], (C, N9))) (fun _ => rfl) ?_
      refine AR.ic_ge rfl (by omega) (fun c3 => ?_) (fun c3 => ?_)
      · show AR E d _ (141, [some (vA x), some (vI sq), some (vI dg), some (vI cm), some (vI i), z5, z6], [], (C, N9)) _
        refine AR.blk 1 (f' := (142, [some (vA x), some (vI sq), some (vI dg), some (vI cm), some (vI i), z5, z6], [vI cm], (C, N9))) (fun _ => rfl) ?_
        refine AR.if_eq rfl (by omega) (fun c4 => ?_) (fun c4 => ?_)
        · show AR E d _ (149, [some (vA x), some (vI sq), some (vI dg), some (vI cm), some (vI i), z5, z6], [], (C, N9)) _
          refine AR.blk 1 (f' := (150, [some (vA x), some (vI sq), some (vI dg), some (vI cm), some (vI i), z5, z6], [vA x], (C, N9))) (fun _ => rfl) ?_
          refine AR.getI rfl rfl ht.1 (by decide) (v := L) h09 ?_
          refine AR.endI rfl (.inl rfl) ?_
          have e9 : m_ps T L L.toNat 0 0 0 0 [] = (L, M) := by first | exact ((zs (by omega)).2.2.2 (by omega)).symm | (rw [← i1, show (L - i).toNat = 0 by omega]; first | exact congrArg (fun z => (z, M)) (if_pos (by omega)) | exact congrArg (fun z => (z, M)) (if_neg (by omega)))
          rw [e9]
          exact ⟨_, rfl, hM9, h09.trans hL.symm, hf9⟩
        · show AR E d _ (145, [some (vA x), some (vI sq), some (vI dg), some (vI cm), some (vI i), z5, z6], [], (C, N9)) _
          refine AR.blk 2 (f' := (153, [some (vA x), some (vI sq), some (vI dg), some (vI cm), some (vI i), z5, z6], [vI (-1)], (C, N9))) (fun _ => rfl) ?_
          refine AR.endI rfl (.inl rfl) ?_
          have e9 : m_ps T L L.toNat 0 0 0 0 [] = ((-1), M) := by first | exact ((zs (by omega)).2.2.2 (by omega)).symm | (rw [← i1, show (L - i).toNat = 0 by omega]; first | exact congrArg (fun z => (z, M)) (if_pos (by omega)) | exact congrArg (fun z => (z, M)) (if_neg (by omega)))
          rw [e9]
          exact ⟨_, rfl, hM9, h09.trans hL.symm, hf9⟩
      · show AR E d _ (30, [some (vA x), some (vI sq), some (vI dg), some (vI cm), some (vI i), z5, z6], [], (C, N9)) _
        refine AR.blk 1 (f' := (31, [some (vA x), some (vI sq), some (vI dg), some (vI cm), some (vI i), z5, z6], [vA x], (C, N9))) (fun _ => rfl) ?_
        refine AR.getR rfl rfl ht.1 (by decide) rfl ?_
        refine AR.blk 1 (f' := (36, [some (vA x), some (vI sq), some (vI dg), some (vI cm), some (vI i), z5, z6], [vI i, vA (x + 1)], (C, N9))) (fun _ => rfl) ?_
        have f5 := (hT i (by omega) (by omega)).2
        refine AR.iald rfl ht.2.1 (by omega) (v := T i) ((congrFun (hf9 (x + 1) (by omega) (by omega) (by omega)) _).trans (hT i (by omega) (by omega)).1) ?_
        refine AR.blk 2 (f' := (41, [some (vA x), some (vI sq), some (vI dg), some (vI cm), some (vI i), some (vI (T i)), z6], [vI (T i)], (C, N9))) (fun _ => rfl) ?_
        refine AR.callS [vI (T i)] (ev_X3_directionOf (by omega) (T i) (by omega)) rfl rfl rfl rfl rfl ?_
        show AR E d _ (44, [some (vA x), some (vI sq), some (vI dg), some (vI cm), some (vI i), some (vI (T i)), z6], [vI (m_dir (T i))], (C, N9)) _
        have f6 := m_dir_in ((T i))
        refine AR.blk 2 (f' := (47, [some (vA x), some (vI sq), some (vI dg), some (vI cm), some (vI i), some (vI (T i)), some (vI (m_dir (T i)))], [vI cm], (C, N9))) (fun _ => rfl) ?_
        refine AR.if_eq rfl (by omega) (fun c7 => ?_) (fun c7 => ?_)
        · show AR E d _ (66, [some (vA x), some (vI sq), some (vI dg), some (vI cm), some (vI i), some (vI (T i)), some (vI (m_dir (T i)))], [], (C, N9)) _
          refine AR.blk 1 (f' := (67, [some (vA x), some (vI sq), some (vI dg), some (vI cm), some (vI i), some (vI (T i)), some (vI (m_dir (T i)))], [vI cm], (C, N9))) (fun _ => rfl) ?_
          refine AR.if_ne rfl (by omega) (fun c8 => ?_) (fun c8 => ?_)
          · exact False.elim (by omega)
          · show AR E d _ (70, [some (vA x), some (vI sq), some (vI dg), some (vI cm), some (vI i), some (vI (T i)), some (vI (m_dir (T i)))], [], (C, N9)) _
            refine AR.blk 2 (f' := (72, [some (vA x), some (vI sq), some (vI dg), some (vI cm), some (vI i), some (vI (T i)), some (vI (m_dir (T i)))], [vI 2, vI dg], (C, N9))) (fun _ => rfl) ?_
            refine AR.ic_ge rfl (by omega) (fun c9 => ?_) (fun c9 => ?_)
            · show AR E d _ (106, [some (vA x), some (vI sq), some (vI dg), some (vI cm), some (vI i), some (vI (T i)), some (vI (m_dir (T i)))], [], (C, N9)) _
              refine AR.blk 1 (f' := (107, [some (vA x), some (vI sq), some (vI dg), some (vI cm), some (vI i), some (vI (T i)), some (vI (m_dir (T i)))], [vI cm], (C, N9))) (fun _ => rfl) ?_
              refine AR.if_ne rfl (by omega) (fun c10 => ?_) (fun c10 => ?_)
              · exact False.elim (by omega)
              · show AR E d _ (110, [some (vA x), some (vI sq), some (vI dg), some (vI cm), some (vI i), some (vI (T i)), some (vI (m_dir (T i)))], [], (C, N9)) _
                refine AR.blk 1 (f' := (111, [some (vA x), some (vI sq), some (vI dg), some (vI cm), some (vI i), some (vI (T i)), some (vI (m_dir (T i)))], [vI dg], (C, N9))) (fun _ => rfl) ?_
                refine AR.if_le rfl (by omega) (fun c11 => ?_) (fun c11 => ?_)
                · show AR E d _ (132, [some (vA x), some (vI sq), some (vI dg), some (vI cm), some (vI i), some (vI (T i)), some (vI (m_dir (T i)))], [], (C, N9)) _
                  refine AR.blk 1 (f' := (134, [some (vA x), some (vI sq), some (vI dg), some (vI cm), some (vI i), some (vI (T i)), some (vI (m_dir (T i)))], [vI i], (C, N9))) (fun _ => rfl) ?_
                  refine AR.endI rfl (.inl rfl) ?_
                  have e9 : m_ps T L L.toNat 0 0 0 0 [] = (i, M) := by first | exact ((zs (by omega)).2.2.2 (by omega)).symm | (rw [← i1, show (L - i).toNat = 0 by omega]; first | exact congrArg (fun z => (z, M)) (if_pos (by omega)) | exact congrArg (fun z => (z, M)) (if_neg (by omega)))
                  rw [e9]
                  exact ⟨_, rfl, hM9, h09.trans hL.symm, hf9⟩
                · show AR E d _ (114, [some (vA x), some (vI sq), some (vI dg), some (vI cm), some (vI i), some (vI (T i)), some (vI (m_dir (T i)))], [], (C, N9)) _
                  refine AR.blk 2 (f' := (117, [some (vA x), some (vI sq), some (vI dg), some (vI cm), some (vI i), some (vI (T i)), some (vI (m_dir (T i)))], [vI (-1), vI (m_dir (T i))], (C, N9))) (fun _ => rfl) ?_
                  refine AR.ic_eq rfl (by omega) (fun c12 => ?_) (fun c12 => ?_)
                  · show AR E d _ (132, [some (vA x), some (vI sq), some (vI dg), some (vI cm), some (vI i), some (vI (T i)), some (vI (m_dir (T i)))], [], (C, N9)) _
                    refine AR.blk 1 (f' := (134, [some (vA x), some (vI sq), some (vI dg), some (vI cm), some (vI i), some (vI (T i)), some (vI (m_dir (T i)))], [vI i], (C, N9))) (fun _ => rfl) ?_
                    refine AR.endI rfl (.inl rfl) ?_
                    have e9 : m_ps T L L.toNat 0 0 0 0 [] = (i, M) := by first | exact ((zs (by omega)).2.2.2 (by omega)).symm | (rw [← i1, show (L - i).toNat = 0 by omega]; first | exact congrArg (fun z => (z, M)) (if_pos (by omega)) | exact congrArg (fun z => (z, M)) (if_neg (by omega)))
                    rw [e9]
                    exact ⟨_, rfl, hM9, h09.trans hL.symm, hf9⟩
                  · show AR E d _ (120, [some (vA x), some (vI sq), some (vI dg), some (vI cm), some (vI i), some (vI (T i)), some (vI (m_dir (T i)))], [], (C, N9)) _
                    refine AR.blk 3 (f' := (124, [some (vA x), some (vI sq), some (vI dg), some (vI cm), some (vI i), some (vI (T i)), some (vI (m_dir (T i)))], [vI (m_dir (T i)), vI sq, vA x], (C, N9))) (fun _ => rfl) ?_
                    refine AR.callV [vI sq, vI (m_dir (T i))] (ev_X3_addMove (by omega) ht hM9.1 (by omega) sq (m_dir (T i))) ht.1 rfl rfl rfl rfl rfl ?_
                    show AR E d _ (127, [some (vA x), some (vI sq), some (vI dg), some (vI cm), some (vI i), some (vI (T i)), some (vI (m_dir (T i)))], [], (C, ag_upd (ag_upd (ag_upd N9 (x + 2) M.length sq) (x + 3) M.length (m_dir (T i))) x 2 (M.length + 1))) _
                    refine AR.blk 5 (f' := (14, [some (vA x), some (vI sq), some (vI dg), some (vI 1), some (vI (i + 1)), some (vI (T i)), some (vI (m_dir (T i)))], [], (C, ag_upd (ag_upd (ag_upd N9 (x + 2) M.length sq) (x + 3) M.length (m_dir (T i))) x 2 (M.length + 1)))) (fun _ => rfl) ?_
                    exact ih14 _ _ _ _ _ _ (M ++ [(sq, (m_dir (T i)))]) _ (by omega) (by first | omega | (rw [List.length_append]; show _ ∧ _ ∧ _ ∧ _ ∧ _ ∧ _ ∧ _ ∧ _ ∧ _ ∧ (3 * ((M.length + 1 : Nat) : Int) + _ ≤ _) ∧ _; omega)) ((zs (by omega)).2.2.1 (by omega)) (g_rMs_add hM9 sq (m_dir (T i))) ((ag_upd_nk (by omega)).trans ((congrFun (ag_upd_ne (by omega)) _).trans ((congrFun (ag_upd_ne (by omega)) _).trans h09))) (fun a z0 z1 z2 => (ag_upd_ne z0).trans ((ag_upd_ne z2).trans ((ag_upd_ne z1).trans (hf9 a z0 z1 z2))))
            · show AR E d _ (75, [some (vA x), some (vI sq), some (vI dg), some (vI cm), some (vI i), some (vI (T i)), some (vI (m_dir (T i)))], [], (C, N9)) _
              refine AR.blk 2 (f' := (79, [some (vA x), some (vI sq), some (vI dg), some (vI cm), some (vI i), some (vI (T i)), some (vI (m_dir (T i)))], [vI 48, vI (T i)], (C, N9))) (fun _ => rfl) ?_
              refine AR.ic_lt rfl (by omega) (fun c13 => ?_) (fun c13 => ?_)
              · show AR E d _ (106, [some (vA x), some (vI sq), some (vI dg), some (vI cm), some (vI i), some (vI (T i)), some (vI (m_dir (T i)))], [], (C, N9)) _
                refine AR.blk 1 (f' := (107, [some (vA x), some (vI sq), some (vI dg), some (vI cm), some (vI i), some (vI (T i)), some (vI (m_dir (T i)))], [vI cm], (C, N9))) (fun _ => rfl) ?_
                refine AR.if_ne rfl (by omega) (fun c14 => ?_) (fun c14 => ?_)
                · exact False.elim (by omega)
                · show AR E d _ (110, [some (vA x), some (vI sq), some (vI dg), some (vI cm), some (vI i), some (vI (T i)), some (vI (m_dir (T i)))], [], (C, N9)) _
                  refine AR.blk 1 (f' := (111, [some (vA x), some (vI sq), some (vI dg), some (vI cm), some (vI i), some (vI (T i)), some (vI (m_dir (T i)))], [vI dg], (C, N9))) (fun _ => rfl) ?_
                  refine AR.if_le rfl (by omega) (fun c15 => ?_) (fun c15 => ?_)
                  · show AR E d _ (132, [some (vA x), some (vI sq), some (vI dg), some (vI cm), some (vI i), some (vI (T i)), some (vI (m_dir (T i)))], [], (C, N9)) _
                    refine AR.blk 1 (f' := (134, [some (vA x), some (vI sq), some (vI dg), some (vI cm), some (vI i), some (vI (T i)), some (vI (m_dir (T i)))], [vI i], (C, N9))) (fun _ => rfl) ?_
                    refine AR.endI rfl (.inl rfl) ?_
                    have e9 : m_ps T L L.toNat 0 0 0 0 [] = (i, M) := by first | exact ((zs (by omega)).2.2.2 (by omega)).symm | (rw [← i1, show (L - i).toNat = 0 by omega]; first | exact congrArg (fun z => (z, M)) (if_pos (by omega)) | exact congrArg (fun z => (z, M)) (if_neg (by omega)))
                    rw [e9]
                    exact ⟨_, rfl, hM9, h09.trans hL.symm, hf9⟩
                  · show AR E d _ (114, [some (vA x), some (vI sq), some (vI dg), some (vI cm), some (vI i), some (vI (T i)), some (vI (m_dir (T i)))], [], (C, N9)) _
                    refine AR.blk 2 (f' := (117, [some (vA x), some (vI sq), some (vI dg), some (vI cm), some (vI i), some (vI (T i)), some (vI (m_dir (T i)))], [vI (-1), vI (m_dir (T i))], (C, N9))) (fun _ => rfl) ?_
                    refine AR.ic_eq rfl (by omega) (fun c16 => ?_) (fun c16 => ?_)
                    · show AR E d _ (132, [some (vA x), some (vI sq), some (vI dg), some (vI cm), some (vI i), some (vI (T i)), some (vI (m_dir (T i)))], [], (C, N9)) _
                      refine AR.blk 1 (f' := (134, [some (vA x), some (vI sq), some (vI dg), some (vI cm), some (vI i), some (vI (T i)), some (vI (m_dir (T i)))], [vI i], (C, N9))) (fun _ => rfl) ?_
                      refine AR.endI rfl (.inl rfl) ?_
                      have e9 : m_ps T L L.toNat 0 0 0 0 [] = (i, M) := by first | exact ((zs (by omega)).2.2.2 (by omega)).symm | (rw [← i1, show (L - i).toNat = 0 by omega]; first | exact congrArg (fun z => (z, M)) (if_pos (by omega)) | exact congrArg (fun z => (z, M)) (if_neg (by omega)))
                      rw [e9]
                      exact ⟨_, rfl, hM9, h09.trans hL.symm, hf9⟩
                    · show AR E d _ (120, [some (vA x), some (vI sq), some (vI dg), some (vI cm), some (vI i), some (vI (T i)), some (vI (m_dir (T i)))], [], (C, N9)) _
                      refine AR.blk 3 (f' := (124, [some (vA x), some (vI sq), some (vI dg), some (vI cm), some (vI i), some (vI (T i)), some (vI (m_dir (T i)))], [vI (m_dir (T i)), vI sq, vA x], (C, N9))) (fun _ => rfl) ?_
                      refine AR.callV [vI sq, vI (m_dir (T i))] (ev_X3_addMove (by omega) ht hM9.1 (by omega) sq (m_dir (T i))) ht.1 rfl rfl rfl rfl rfl ?_
                      show AR E d _ (127, [some (vA x), some (vI sq), some (vI dg), some (vI cm), some (vI i), some (vI (T i)), some (vI (m_dir (T i)))], [], (C, ag_upd (ag_upd (ag_upd N9 (x + 2) M.length sq) (x + 3) M.length (m_dir (T i))) x 2 (M.length + 1))) _
                      refine AR.blk 5 (f' := (14, [some (vA x), some (vI sq), some (vI dg), some (vI 1), some (vI (i + 1)), some (vI (T i)), some (vI (m_dir (T i)))], [], (C, ag_upd (ag_upd (ag_upd N9 (x + 2) M.length sq) (x + 3) M.length (m_dir (T i))) x 2 (M.length + 1)))) (fun _ => rfl) ?_
                      exact ih14 _ _ _ _ _ _ (M ++ [(sq, (m_dir (T i)))]) _ (by omega) (by first | omega | (rw [List.length_append]; show _ ∧ _ ∧ _ ∧ _ ∧ _ ∧ _ ∧ _ ∧ _ ∧ _ ∧ (3 * ((M.length + 1 : Nat) : Int) + _ ≤ _) ∧ _; omega)) ((zs (by omega)).2.2.1 (by omega)) (g_rMs_add hM9 sq (m_dir (T i))) ((ag_upd_nk (by omega)).trans ((congrFun (ag_upd_ne (by omega)) _).trans ((congrFun (ag_upd_ne (by omega)) _).trans h09))) (fun a z0 z1 z2 => (ag_upd_ne z0).trans ((ag_upd_ne z2).trans ((ag_upd_ne z1).trans (hf9 a z0 z1 z2))))
              · show AR E d _ (82, [some (vA x), some (vI sq), some (vI dg), some (vI cm), some (vI i), some (vI (T i)), some (vI (m_dir (T i)))], [], (C, N9)) _
                refine AR.blk 2 (f' := (86, [some (vA x), some (vI sq), some (vI dg), some (vI cm), some (vI i), some (vI (T i)), some (vI (m_dir (T i)))], [vI 57, vI (T i)], (C, N9))) (fun _ => rfl) ?_
                refine AR.ic_gt rfl (by omega) (fun c17 => ?_) (fun c17 => ?_)
                · show AR E d _ (106, [some (vA x), some (vI sq), some (vI dg), some (vI cm), some (vI i), some (vI (T i)), some (vI (m_dir (T i)))], [], (C, N9)) _
                  refine AR.blk 1 (f' := (107, [some (vA x), some (vI sq), some (vI dg), some (vI cm), some (vI i), some (vI (T i)), some (vI (m_dir (T i)))], [vI cm], (C, N9))) (fun _ => rfl) ?_
                  refine AR.if_ne rfl (by omega) (fun c18 => ?_) (fun c18 => ?_)
                  · exact False.elim (by omega)
                  · show AR E d _ (110, [some (vA x), some (vI sq), some (vI dg), some (vI cm), some (vI i), some (vI (T i)), some (vI (m_dir (T i)))], [], (C, N9)) _
                    refine AR.blk 1 (f' := (111, [some (vA x), some (vI sq), some (vI dg), some (vI cm), some (vI i), some (vI (T i)), some (vI (m_dir (T i)))], [vI dg], (C, N9))) (fun _ => rfl) ?_
                    refine AR.if_le rfl (by omega) (fun c19 => ?_) (fun c19 => ?_)
                    · show AR E d _ (132, [some (vA x), some (vI sq), some (vI dg), some (vI cm), some (vI i), some (vI (T i)), some (vI (m_dir (T i)))], [], (C, N9)) _
                      refine AR.blk 1 (f' := (134, [some (vA x), some (vI sq), some (vI dg), some (vI cm), some (vI i), some (vI (T i)), some (vI (m_dir (T i)))], [vI i], (C, N9))) (fun _ => rfl) ?_
                      refine AR.endI rfl (.inl rfl) ?_
                      have e9 : m_ps T L L.toNat 0 0 0 0 [] = (i, M) := by first | exact ((zs (by omega)).2.2.2 (by omega)).symm | (rw [← i1, show (L - i).toNat = 0 by omega]; first | exact congrArg (fun z => (z, M)) (if_pos (by omega)) | exact congrArg (fun z => (z, M)) (if_neg (by omega)))
                      rw [e9]
                      exact ⟨_, rfl, hM9, h09.trans hL.symm, hf9⟩
                    · show AR E d _ (114, [some (vA x), some (vI sq), some (vI dg), some (vI cm), some (vI i), some (vI (T i)), some (vI (m_dir (T i)))], [], (C, N9)) _
                      refine AR.blk 2 (f' := (117, [some (vA x), some (vI sq), some (vI dg), some (vI cm), some (vI i), some (vI (T i)), some (vI (m_dir (T i)))], [vI (-1), vI (m_dir (T i))], (C, N9))) (fun _ => rfl) ?_
                      refine AR.ic_eq rfl (by omega) (fun c20 => ?_) (fun c20 => ?_)
                      · show AR E d _ (132, [some (vA x), some (vI sq), some (vI dg), some (vI cm), some (vI i), some (vI (T i)), some (vI (m_dir (T i)))], [], (C, N9)) _
                        refine AR.blk 1 (f' := (134, [some (vA x), some (vI sq), some (vI dg), some (vI cm), some (vI i), some (vI (T i)), some (vI (m_dir (T i)))], [vI i], (C, N9))) (fun _ => rfl) ?_
                        refine AR.endI rfl (.inl rfl) ?_
                        have e9 : m_ps T L L.toNat 0 0 0 0 [] = (i, M) := by first | exact ((zs (by omega)).2.2.2 (by omega)).symm | (rw [← i1, show (L - i).toNat = 0 by omega]; first | exact congrArg (fun z => (z, M)) (if_pos (by omega)) | exact congrArg (fun z => (z, M)) (if_neg (by omega)))
                        rw [e9]
                        exact ⟨_, rfl, hM9, h09.trans hL.symm, hf9⟩
                      · show AR E d _ (120, [some (vA x), some (vI sq), some (vI dg), some (vI cm), some (vI i), some (vI (T i)), some (vI (m_dir (T i)))], [], (C, N9)) _
                        refine AR.blk 3 (f' := (124, [some (vA x), some (vI sq), some (vI dg), some (vI cm), some (vI i), some (vI (T i)), some (vI (m_dir (T i)))], [vI (m_dir (T i)), vI sq, vA x], (C, N9))) (fun _ => rfl) ?_
                        refine AR.callV [vI sq, vI (m_dir (T i))] (ev_X3_addMove (by omega) ht hM9.1 (by omega) sq (m_dir (T i))) ht.1 rfl rfl rfl rfl rfl ?_
                        show AR E d _ (127, [some (vA x), some (vI sq), some (vI dg), some (vI cm), some (vI i), some (vI (T i)), some (vI (m_dir (T i)))], [], (C, ag_upd (ag_upd (ag_upd N9 (x + 2) M.length sq) (x + 3) M.length (m_dir (T i))) x 2 (M.length + 1))) _
                        refine AR.blk 5 (f' := (14, [some (vA x), some (vI sq), some (vI dg), some (vI 1), some (vI (i + 1)), some (vI (T i)), some (vI (m_dir (T i)))], [], (C, ag_upd (ag_upd (ag_upd N9 (x + 2) M.length sq) (x + 3) M.length (m_dir (T i))) x 2 (M.length + 1)))) (fun _ => rfl) ?_
                        exact ih14 _ _ _ _ _ _ (M ++ [(sq, (m_dir (T i)))]) _ (by omega) (by first | omega | (rw [List.length_append]; show _ ∧ _ ∧ _ ∧ _ ∧ _ ∧ _ ∧ _ ∧ _ ∧ _ ∧ (3 * ((M.length + 1 : Nat) : Int) + _ ≤ _) ∧ _; omega)) ((zs (by omega)).2.2.1 (by omega)) (g_rMs_add hM9 sq (m_dir (T i))) ((ag_upd_nk (by omega)).trans ((congrFun (ag_upd_ne (by omega)) _).trans ((congrFun (ag_upd_ne (by omega)) _).trans h09))) (fun a z0 z1 z2 => (ag_upd_ne z0).trans ((ag_upd_ne z2).trans ((ag_upd_ne z1).trans (hf9 a z0 z1 z2))))
                · show AR E d _ (89, [some (vA x), some (vI sq), some (vI dg), some (vI cm), some (vI i), some (vI (T i)), some (vI (m_dir (T i)))], [], (C, N9)) _
                  refine AR.blk 12 (f' := (14, [some (vA x), some (vI (((sq * 10) + (T i)) - 48)), some (vI (dg + 1)), some (vI cm), some (vI (i + 1)), some (vI (T i)), some (vI (m_dir (T i)))], [], (C, N9))) (fun _ => rfl) ?_
                  exact ih14 _ _ _ _ _ _ (M) _ (by omega) (by first | omega | (rw [List.length_append]; show _ ∧ _ ∧ _ ∧ _ ∧ _ ∧ _ ∧ _ ∧ _ ∧ _ ∧ (3 * ((M.length + 1 : Nat) : Int) + _ ≤ _) ∧ _; omega)) (by first | exact (zs (by omega)).1 (by omega) | exact (zs (by omega)).2.1 (by omega)) hM9 h09 hf9
        · show AR E d _ (50, [some (vA x), some (vI sq), some (vI dg), some (vI cm), some (vI i), some (vI (T i)), some (vI (m_dir (T i)))], [], (C, N9)) _
          refine AR.blk 2 (f' := (54, [some (vA x), some (vI sq), some (vI dg), some (vI cm), some (vI i), some (vI (T i)), some (vI (m_dir (T i)))], [vI 59, vI (T i)], (C, N9))) (fun _ => rfl) ?_
          refine AR.ic_ne rfl (by omega) (fun c21 => ?_) (fun c21 => ?_)
          · show AR E d _ (66, [some (vA x), some (vI sq), some (vI dg), some (vI cm), some (vI i), some (vI (T i)), some (vI (m_dir (T i)))], [], (C, N9)) _
            refine AR.blk 1 (f' := (67, [some (vA x), some (vI sq), some (vI dg), some (vI cm), some (vI i), some (vI (T i)), some (vI (m_dir (T i)))], [vI cm], (C, N9))) (fun _ => rfl) ?_
            refine AR.if_ne rfl (by omega) (fun c22 => ?_) (fun c22 => ?_)
            · show AR E d _ (106, [some (vA x), some (vI sq), some (vI dg), some (vI cm), some (vI i), some (vI (T i)), some (vI (m_dir (T i)))], [], (C, N9)) _
              refine AR.blk 1 (f' := (107, [some (vA x), some (vI sq), some (vI dg), some (vI cm), some (vI i), some (vI (T i)), some (vI (m_dir (T i)))], [vI cm], (C, N9))) (fun _ => rfl) ?_
              refine AR.if_ne rfl (by omega) (fun c23 => ?_) (fun c23 => ?_)
              · show AR E d _ (132, [some (vA x), some (vI sq), some (vI dg), some (vI cm), some (vI i), some (vI (T i)), some (vI (m_dir (T i)))], [], (C, N9)) _
                refine AR.blk 1 (f' := (134, [some (vA x), some (vI sq), some (vI dg), some (vI cm), some (vI i), some (vI (T i)), some (vI (m_dir (T i)))], [vI i], (C, N9))) (fun _ => rfl) ?_
                refine AR.endI rfl (.inl rfl) ?_
                have e9 : m_ps T L L.toNat 0 0 0 0 [] = (i, M) := by first | exact ((zs (by omega)).2.2.2 (by omega)).symm | (rw [← i1, show (L - i).toNat = 0 by omega]; first | exact congrArg (fun z => (z, M)) (if_pos (by omega)) | exact congrArg (fun z => (z, M)) (if_neg (by omega)))
                rw [e9]
                exact ⟨_, rfl, hM9, h09.trans hL.symm, hf9⟩
              · exact False.elim (by omega)
            · exact False.elim (by omega)
          · show AR E d _ (57, [some (vA x), some (vI sq), some (vI dg), some (vI cm), some (vI i), some (vI (T i)), some (vI (m_dir (T i)))], [], (C, N9)) _
            refine AR.blk 9 (f' := (14, [some (vA x), some (vI 0), some (vI 0), some (vI 0), some (vI (i + 1)), some (vI (T i)), some (vI (m_dir (T i)))], [], (C, N9))) (fun _ => rfl) ?_
            exact ih14 _ _ _ _ _ _ (M) _ (by omega) (by first | omega | (rw [List.length_append]; show _ ∧ _ ∧ _ ∧ _ ∧ _ ∧ _ ∧ _ ∧ _ ∧ _ ∧ (3 * ((M.length + 1 : Nat) : Int) + _ ≤ _) ∧ _; omega)) (by first | exact (zs (by omega)).1 (by omega) | exact (zs (by omega)).2.1 (by omega)) hM9 h09 hf9
end L2x
