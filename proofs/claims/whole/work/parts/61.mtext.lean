/-! LEVEL 2: the model reads its text -/
theorem m_ps_end {T : Int → Int} {L i sq dg cm : Int} {M : List (Int × Int)} {R : Int × List (Int × Int)} (hi : i = L) (h : m_ps T L (L - i).toNat i sq dg cm M = R) : (if cm = 1 then -1 else L, M) = R := by
  rw [show (L - i).toNat = 0 by omega] at h
  exact h
def g_rTd (N : Nat → Int → Int) (a : Nat) (M : List (Int × Int)) : Prop := ∀ (j : Nat) y, M[j]? = some y → N a (2 * j) = y.1 ∧ N a (2 * j + 1) = y.2
def g_QMH (C : List ag_C) (N : Nat → Int → Int) (m : Nat) (i L : Int) (T : Int → Int) (M : List (Int × Int)) (R : Int × List (Int × Int)) : ag_O → Prop := fun r => ∃ (e j s y : Int) (N' : Nat → Int → Int), r = (some (vI e), (C, N')) ∧ (e = 0 ∨ e = 1) ∧ N' m 17 = j ∧ (0 ≤ j ∧ j ≤ L) ∧ (e = 0 → R = (j, M)) ∧ (e = 1 → i + 2 ≤ j ∧ N' (m + 8) (2 * (M.length : Int)) = s ∧ N' (m + 8) (2 * (M.length : Int) + 1) = y ∧ ∃ dg, m_ps T L (L - j).toNat j s dg 1 (M ++ [(s, y)]) = R) ∧ (∀ k, k < 2 * (M.length : Int) → N' (m + 8) k = N (m + 8) k) ∧ (∀ k, k ≠ 17 → N' m k = N m k) ∧ ∀ a, ¬ (a = m ∨ a = m + 8) → N' a = N a
def g_QTx (C : List ag_C) (N : Nat → Int → Int) (m : Nat) (R : Int × List (Int × Int)) : ag_O → Prop := fun r => ∃ (e : Int) (N' : Nat → Int → Int), r = (some (vI e), (C, N')) ∧ (e = 0 ∨ e = 1) ∧ (e = 0 → R.1 ≠ -1 ∧ N' m 17 = R.1) ∧ (e = 1 → R.1 = -1 ∧ N' m 19 = R.2.length ∧ g_rTd N' (m + 8) R.2) ∧ (∀ k, ¬ (k = 17 ∨ k = 19) → N' m k = N m k) ∧ ∀ a, ¬ (a = m ∨ a = m + 8) → N' a = N a
theorem m_dirs (c : Int) : (c = 117 → m_dir c = 0) ∧ (c = 114 → m_dir c = 1) ∧ (c = 100 → m_dir c = 2) ∧ (c = 108 → m_dir c = 3) ∧ (c ≠ 117 → c ≠ 114 → c ≠ 100 → c ≠ 108 → m_dir c = -1) := by unfold m_dir; omega
section L2L
variable {E : Nat × (Int → Int)} {C : List ag_C} {N : Nat → Int → Int} {m : Nat} {L : Int} {T : Int → Int}

theorem ev_X7_here {d : Nat} (hd : 1 ≤ d) (hm : g_isM C m) {i : Int} (h17 : N m 17 = i) (h14 : N m 14 = L) (h0 : 0 ≤ i ∧ i ≤ L ∧ L ≤ 70) (hT : ∀ j, 0 ≤ j → j < L → N (m + 6) j = T j) : Ev E d 159 [vA m] (C, N) (some (vI (if i < L then T i else -1)), (C, N)) := by
  obtain ⟨d, rfl⟩ : ∃ j, d = j + 1 := ⟨d - 1, by omega⟩
  refine Ev.intro (M := ag_mX7_here) rfl rfl ?_
  show AR E d _ (0, [some (vA m)], [], (C, N)) _
  refine AR.blk 1 (f' := (1, [some (vA m)], [vA m], (C, N))) (fun _ => rfl) ?_
  refine AR.getI rfl rfl hm.1 (by decide) (v := i) h17 ?_
  refine AR.blk 1 (f' := (5, [some (vA m)], [vA m, vI i], (C, N))) (fun _ => rfl) ?_
  refine AR.getI rfl rfl hm.1 (by decide) (v := L) h14 ?_
  refine AR.ic_ge rfl (by omega) (fun c1 => ?_) (fun c1 => ?_)
  · show AR E d _ (23, [some (vA m)], [], (C, N)) _
    refine AR.blk 1 (f' := (24, [some (vA m)], [vI (-1)], (C, N))) (fun _ => rfl) ?_
    exact AR.retI rfl (by omega) ⟨rfl, .inl rfl⟩ rfl
  · show AR E d _ (11, [some (vA m)], [], (C, N)) _
    refine AR.blk 1 (f' := (12, [some (vA m)], [vA m], (C, N))) (fun _ => rfl) ?_
    refine AR.getR rfl rfl hm.1 (by decide) rfl ?_
    refine AR.blk 1 (f' := (16, [some (vA m)], [vA m, vA (m + 6)], (C, N))) (fun _ => rfl) ?_
    refine AR.getI rfl rfl hm.1 (by decide) (v := i) h17 ?_
    refine AR.iald rfl hm.2.2.2.2.2.2.1 (by omega) (v := T i) (hT _ (by omega) (by omega)) ?_
    refine AR.blk 1 (f' := (24, [some (vA m)], [vI (T i)], (C, N))) (fun _ => rfl) ?_
    exact AR.retI rfl (by omega) ⟨rfl, .inl rfl⟩ rfl

set_option maxHeartbeats 4000000 in
theorem ev_X7_moveHere {d : Nat} (hd : 2 ≤ d) (hm : g_isM C m) (h14 : N m 14 = L) (hT : ∀ j, 0 ≤ j → j < L → N (m + 6) j = T j) (hL : 0 ≤ L ∧ L ≤ 70) (hTr : ∀ j, 0 ≤ j → j < L → 32 ≤ T j ∧ T j ≤ 126) {i : Int} (h17 : N m 17 = i) {M : List (Int × Int)} (h19 : N m 19 = M.length) (hi : 3 * (M.length : Int) ≤ i ∧ i ≤ L) {R : Int × List (Int × Int)} (hR : m_ps T L (L - i).toNat i 0 0 0 M = R) : ∃ o_, Ev E d 160 [vA m] (C, N) o_ ∧ g_QMH C N m i L T M R o_ := by
  obtain ⟨d, rfl⟩ : ∃ j, d = j + 1 := ⟨d - 1, by omega⟩
  refine Ev.introQ (M := ag_mX7_moveHere) rfl rfl ?_
  show AR E d _ (0, [some (vA m), none, none, none], [], (C, N)) _
  refine AR.blk 2 (f' := (2, [some (vA m), none, none, none], [vA m, vI 2], (C, N))) (fun _ => rfl) ?_
  refine AR.getI rfl rfl hm.1 (by decide) (v := (M.length : Int)) h19 ?_
  refine AR.blk 3 (f' := (8, [some (vA m), some (vI (2 * (M.length : Int))), none, none], [vA m], (C, N))) (fun _ => rfl) ?_
  refine AR.getI rfl rfl hm.1 (by decide) (v := i) h17 ?_
  refine AR.blk 2 (f' := (13, [some (vA m), some (vI (2 * (M.length : Int))), some (vI i), none], [vA m], (C, N))) (fun _ => rfl) ?_
  refine AR.getR rfl rfl hm.1 (by decide) rfl ?_
  refine AR.blk 2 (f' := (18, [some (vA m), some (vI (2 * (M.length : Int))), some (vI i), none], [vI 0, vI (2 * (M.length : Int)), vA (m + 8)], (C, N))) (fun _ => rfl) ?_
  refine AR.iast rfl hm.2.2.2.2.2.2.2.2 (by omega) ?_
  suffices H19 : ∀ (j : Nat) (a : Int) (sq : Int) (N9 : Nat → Int → Int), (L - a).toNat < j → (i ≤ a ∧ a ≤ i + 2 ∧ a ≤ L) → (m_ps T L (L - a).toNat a sq (a - i) 0 M = R) → (N9 m 17 = a) → (N9 (m + 8) (2 * (M.length : Int)) = sq) → (∀ k, k ≠ 17 → N9 m k = N m k) → (∀ k, k < 2 * (M.length : Int) → N9 (m + 8) k = N (m + 8) k) → (∀ c, ¬ (c = m ∨ c = m + 8) → N9 c = N c) → AR E d ag_mX7_moveHere (19, [some (vA m), some (vI (2 * (M.length : Int))), some (vI i), none], [], (C, N9)) (g_QMH C N m i L T M R) by
    exact H19 _ (i) (0) _ (Nat.lt_succ_self _) (by omega) (by rw [Int.sub_self]; exact hR) ((congrFun (ag_upd_ne (by omega)) _).trans h17) ag_upd_eq (fun k hk => congrFun (ag_upd_ne (by omega)) k) (fun k hk => ag_upd_nk (by omega)) (fun c hc => ag_upd_ne (by omega))
  intro j
  induction j with
  | zero => intro a sq N9 hj; exact absurd hj (Nat.not_lt_zero _)
  | succ j ih19 =>
    intro a sq N9 hj19 j0 j1 g17 gs gk gl gf
    have zs := fun hi => m_psS (i := a) hi j1
    have g14 : N9 m 14 = L := (gk _ (by omega)).trans h14
    have gT : ∀ j, 0 ≤ j → j < L → N9 (m + 6) j = T j := fun j z0 z1 => (congrFun (gf _ (by omega)) j).trans (hT j z0 z1)
    have zr := fun z => hTr a (by omega) z
    have zd := m_dirs (T a)
    have zn := m_dir_in (T a)
    refine AR.blk 1 (f' := (20, [some (vA m), some (vI (2 * (M.length : Int))), some (vI i), none], [vA m], (C, N9))) (fun _ => rfl) ?_
    refine AR.getI rfl rfl hm.1 (by decide) (v := a) g17 ?_
    refine AR.blk 3 (f' := (26, [some (vA m), some (vI (2 * (M.length : Int))), some (vI i), none], [vI (i + 2), vI a], (C, N9))) (fun _ => rfl) ?_
    refine AR.ic_ge rfl (by omega) (fun c1 => ?_) (fun c1 => ?_)
    · show AR E d _ (79, [some (vA m), some (vI (2 * (M.length : Int))), some (vI i), none], [], (C, N9)) _
      refine AR.blk 1 (f' := (80, [some (vA m), some (vI (2 * (M.length : Int))), some (vI i), none], [vA m], (C, N9))) (fun _ => rfl) ?_
      refine AR.getI rfl rfl hm.1 (by decide) (v := a) g17 ?_
      refine AR.blk 1 (f' := (84, [some (vA m), some (vI (2 * (M.length : Int))), some (vI i), none], [vI i, vI a], (C, N9))) (fun _ => rfl) ?_
      refine AR.ic_ne rfl (by omega) (fun c2 => ?_) (fun c2 => ?_)
      · show AR E d _ (89, [some (vA m), some (vI (2 * (M.length : Int))), some (vI i), none], [], (C, N9)) _
        have u0 : ag_str 2 (0 : Int).toNat = 117 := rfl
        have u1 : ag_str 2 (1 : Int).toNat = 114 := rfl
        have u2 : ag_str 2 (2 : Int).toNat = 100 := rfl
        have u3 : ag_str 2 (3 : Int).toNat = 108 := rfl
        refine AR.blk 4 (f' := (93, [some (vA m), some (vI (2 * (M.length : Int))), some (vI i), some (vI 0)], [vI 4, vI 0], (C, N9))) (fun _ => rfl) ?_
        refine AR.blk 2 (f' := (97, [some (vA m), some (vI (2 * (M.length : Int))), some (vI i), some (vI 0)], [vA m], (C, N9))) (fun _ => rfl) ?_
        refine AR.callV [] (ev_X7_here (by omega) hm (N := N9) g17 g14 (by omega) gT) hm.1 rfl rfl rfl rfl rfl ?_
        show AR E d _ (100, [some (vA m), some (vI (2 * (M.length : Int))), some (vI i), some (vI 0)], [vI (if a < L then T a else -1)], (C, N9)) _
        have f3 := (fun z => hTr a (by omega) z : a < L → _)
        refine AR.blk 2 (f' := (103, [some (vA m), some (vI (2 * (M.length : Int))), some (vI i), some (vI 0)], [vI 0, vX 2, vI (if a < L then T a else -1)], (C, N9))) (fun _ => rfl) ?_
        refine AR.charAt rfl rfl ⟨(by omega), Nat.le_of_ble_eq_true rfl⟩ ?_
        refine AR.ic_eq rfl (by omega) (fun c4 => ?_) (fun c4 => ?_)
        · show AR E d _ (112, [some (vA m), some (vI (2 * (M.length : Int))), some (vI i), some (vI 0)], [], (C, N9)) _
          refine AR.blk 1 (f' := (113, [some (vA m), some (vI (2 * (M.length : Int))), some (vI i), some (vI 0)], [vA m], (C, N9))) (fun _ => rfl) ?_
          refine AR.getR rfl rfl hm.1 (by decide) rfl ?_
          refine AR.blk 4 (f' := (120, [some (vA m), some (vI (2 * (M.length : Int))), some (vI i), some (vI 0)], [vI 0, vI ((2 * (M.length : Int)) + 1), vA (m + 8)], (C, N9))) (fun _ => rfl) ?_
          refine AR.iast rfl hm.2.2.2.2.2.2.2.2 (by omega) ?_
          refine AR.blk 2 (f' := (123, [some (vA m), some (vI (2 * (M.length : Int))), some (vI i), some (vI 0)], [vA m, vA m], (C, ag_upd N9 (m + 8) ((2 * (M.length : Int)) + 1) 0))) (fun _ => rfl) ?_
          refine AR.getI rfl rfl hm.1 (by decide) (v := a) ((congrFun (ag_upd_ne (by omega)) _).trans g17) ?_
          refine AR.blk 2 (f' := (128, [some (vA m), some (vI (2 * (M.length : Int))), some (vI i), some (vI 0)], [vI (a + 1), vA m], (C, ag_upd N9 (m + 8) ((2 * (M.length : Int)) + 1) 0))) (fun _ => rfl) ?_
          refine AR.putI rfl rfl hm.1 (by decide) (fun q => absurd q (by decide)) ?_
          refine AR.blk 1 (f' := (132, [some (vA m), some (vI (2 * (M.length : Int))), some (vI i), some (vI 0)], [vI 1], (C, ag_upd (ag_upd N9 (m + 8) ((2 * (M.length : Int)) + 1) 0) m 17 (a + 1)))) (fun _ => rfl) ?_
          refine AR.endI rfl (.inr ⟨rfl, by omega⟩) ?_
          have hdd : m_dir (T a) = 0 := by omega
          refine ⟨1, a + 1, sq, 0, _, rfl, .inr rfl, ag_upd_eq, (by omega), (fun z => by cases z), (fun _ => ⟨?_, (congrFun (ag_upd_ne (by omega)) _).trans ((ag_upd_nk (by omega)).trans gs), (congrFun (ag_upd_ne (by omega)) _).trans ag_upd_eq, a - i, ?_⟩), (fun k hk => (congrFun (ag_upd_ne (by omega)) k).trans ((ag_upd_nk (by omega)).trans (gl k hk))), (fun k hk => (ag_upd_nk hk).trans ((congrFun (ag_upd_ne (by omega)) k).trans (gk k hk))), (fun c hc => (ag_upd_ne (by omega)).trans ((ag_upd_ne (by omega)).trans (gf c hc)))⟩
          · omega
          · have z := (zs (by omega)).2.2.1 (by omega); rw [hdd] at z; exact z
        · show AR E d _ (109, [some (vA m), some (vI (2 * (M.length : Int))), some (vI i), some (vI 0)], [], (C, N9)) _
          refine AR.blk 5 (f' := (93, [some (vA m), some (vI (2 * (M.length : Int))), some (vI i), some (vI 1)], [vI 4, vI 1], (C, N9))) (fun _ => rfl) ?_
          refine AR.blk 2 (f' := (97, [some (vA m), some (vI (2 * (M.length : Int))), some (vI i), some (vI 1)], [vA m], (C, N9))) (fun _ => rfl) ?_
          refine AR.callV [] (ev_X7_here (by omega) hm (N := N9) g17 g14 (by omega) gT) hm.1 rfl rfl rfl rfl rfl ?_
          show AR E d _ (100, [some (vA m), some (vI (2 * (M.length : Int))), some (vI i), some (vI 1)], [vI (if a < L then T a else -1)], (C, N9)) _
          have f5 := (fun z => hTr a (by omega) z : a < L → _)
          refine AR.blk 2 (f' := (103, [some (vA m), some (vI (2 * (M.length : Int))), some (vI i), some (vI 1)], [vI 1, vX 2, vI (if a < L then T a else -1)], (C, N9))) (fun _ => rfl) ?_
          refine AR.charAt rfl rfl ⟨(by omega), Nat.le_of_ble_eq_true rfl⟩ ?_
          refine AR.ic_eq rfl (by omega) (fun c6 => ?_) (fun c6 => ?_)
          · show AR E d _ (112, [some (vA m), some (vI (2 * (M.length : Int))), some (vI i), some (vI 1)], [], (C, N9)) _
            refine AR.blk 1 (f' := (113, [some (vA m), some (vI (2 * (M.length : Int))), some (vI i), some (vI 1)], [vA m], (C, N9))) (fun _ => rfl) ?_
            refine AR.getR rfl rfl hm.1 (by decide) rfl ?_
            refine AR.blk 4 (f' := (120, [some (vA m), some (vI (2 * (M.length : Int))), some (vI i), some (vI 1)], [vI 1, vI ((2 * (M.length : Int)) + 1), vA (m + 8)], (C, N9))) (fun _ => rfl) ?_
            refine AR.iast rfl hm.2.2.2.2.2.2.2.2 (by omega) ?_
            refine AR.blk 2 (f' := (123, [some (vA m), some (vI (2 * (M.length : Int))), some (vI i), some (vI 1)], [vA m, vA m], (C, ag_upd N9 (m + 8) ((2 * (M.length : Int)) + 1) 1))) (fun _ => rfl) ?_
            refine AR.getI rfl rfl hm.1 (by decide) (v := a) ((congrFun (ag_upd_ne (by omega)) _).trans g17) ?_
            refine AR.blk 2 (f' := (128, [some (vA m), some (vI (2 * (M.length : Int))), some (vI i), some (vI 1)], [vI (a + 1), vA m], (C, ag_upd N9 (m + 8) ((2 * (M.length : Int)) + 1) 1))) (fun _ => rfl) ?_
            refine AR.putI rfl rfl hm.1 (by decide) (fun q => absurd q (by decide)) ?_
            refine AR.blk 1 (f' := (132, [some (vA m), some (vI (2 * (M.length : Int))), some (vI i), some (vI 1)], [vI 1], (C, ag_upd (ag_upd N9 (m + 8) ((2 * (M.length : Int)) + 1) 1) m 17 (a + 1)))) (fun _ => rfl) ?_
            refine AR.endI rfl (.inr ⟨rfl, by omega⟩) ?_
            have hdd : m_dir (T a) = 1 := by omega
            refine ⟨1, a + 1, sq, 1, _, rfl, .inr rfl, ag_upd_eq, (by omega), (fun z => by cases z), (fun _ => ⟨?_, (congrFun (ag_upd_ne (by omega)) _).trans ((ag_upd_nk (by omega)).trans gs), (congrFun (ag_upd_ne (by omega)) _).trans ag_upd_eq, a - i, ?_⟩), (fun k hk => (congrFun (ag_upd_ne (by omega)) k).trans ((ag_upd_nk (by omega)).trans (gl k hk))), (fun k hk => (ag_upd_nk hk).trans ((congrFun (ag_upd_ne (by omega)) k).trans (gk k hk))), (fun c hc => (ag_upd_ne (by omega)).trans ((ag_upd_ne (by omega)).trans (gf c hc)))⟩
            · omega
            · have z := (zs (by omega)).2.2.1 (by omega); rw [hdd] at z; exact z
          · show AR E d _ (109, [some (vA m), some (vI (2 * (M.length : Int))), some (vI i), some (vI 1)], [], (C, N9)) _
            refine AR.blk 5 (f' := (93, [some (vA m), some (vI (2 * (M.length : Int))), some (vI i), some (vI 2)], [vI 4, vI 2], (C, N9))) (fun _ => rfl) ?_
            refine AR.blk 2 (f' := (97, [some (vA m), some (vI (2 * (M.length : Int))), some (vI i), some (vI 2)], [vA m], (C, N9))) (fun _ => rfl) ?_
            refine AR.callV [] (ev_X7_here (by omega) hm (N := N9) g17 g14 (by omega) gT) hm.1 rfl rfl rfl rfl rfl ?_
            show AR E d _ (100, [some (vA m), some (vI (2 * (M.length : Int))), some (vI i), some (vI 2)], [vI (if a < L then T a else -1)], (C, N9)) _
            have f7 := (fun z => hTr a (by omega) z : a < L → _)
            refine AR.blk 2 (f' := (103, [some (vA m), some (vI (2 * (M.length : Int))), some (vI i), some (vI 2)], [vI 2, vX 2, vI (if a < L then T a else -1)], (C, N9))) (fun _ => rfl) ?_
            refine AR.charAt rfl rfl ⟨(by omega), Nat.le_of_ble_eq_true rfl⟩ ?_
            refine AR.ic_eq rfl (by omega) (fun c8 => ?_) (fun c8 => ?_)
            · show AR E d _ (112, [some (vA m), some (vI (2 * (M.length : Int))), some (vI i), some (vI 2)], [], (C, N9)) _
              refine AR.blk 1 (f' := (113, [some (vA m), some (vI (2 * (M.length : Int))), some (vI i), some (vI 2)], [vA m], (C, N9))) (fun _ => rfl) ?_
              refine AR.getR rfl rfl hm.1 (by decide) rfl ?_
              refine AR.blk 4 (f' := (120, [some (vA m), some (vI (2 * (M.length : Int))), some (vI i), some (vI 2)], [vI 2, vI ((2 * (M.length : Int)) + 1), vA (m + 8)], (C, N9))) (fun _ => rfl) ?_
              refine AR.iast rfl hm.2.2.2.2.2.2.2.2 (by omega) ?_
              refine AR.blk 2 (f' := (123, [some (vA m), some (vI (2 * (M.length : Int))), some (vI i), some (vI 2)], [vA m, vA m], (C, ag_upd N9 (m + 8) ((2 * (M.length : Int)) + 1) 2))) (fun _ => rfl) ?_
              refine AR.getI rfl rfl hm.1 (by decide) (v := a) ((congrFun (ag_upd_ne (by omega)) _).trans g17) ?_
              refine AR.blk 2 (f' := (128, [some (vA m), some (vI (2 * (M.length : Int))), some (vI i), some (vI 2)], [vI (a + 1), vA m], (C, ag_upd N9 (m + 8) ((2 * (M.length : Int)) + 1) 2))) (fun _ => rfl) ?_
              refine AR.putI rfl rfl hm.1 (by decide) (fun q => absurd q (by decide)) ?_
              refine AR.blk 1 (f' := (132, [some (vA m), some (vI (2 * (M.length : Int))), some (vI i), some (vI 2)], [vI 1], (C, ag_upd (ag_upd N9 (m + 8) ((2 * (M.length : Int)) + 1) 2) m 17 (a + 1)))) (fun _ => rfl) ?_
              refine AR.endI rfl (.inr ⟨rfl, by omega⟩) ?_
              have hdd : m_dir (T a) = 2 := by omega
              refine ⟨1, a + 1, sq, 2, _, rfl, .inr rfl, ag_upd_eq, (by omega), (fun z => by cases z), (fun _ => ⟨?_, (congrFun (ag_upd_ne (by omega)) _).trans ((ag_upd_nk (by omega)).trans gs), (congrFun (ag_upd_ne (by omega)) _).trans ag_upd_eq, a - i, ?_⟩), (fun k hk => (congrFun (ag_upd_ne (by omega)) k).trans ((ag_upd_nk (by omega)).trans (gl k hk))), (fun k hk => (ag_upd_nk hk).trans ((congrFun (ag_upd_ne (by omega)) k).trans (gk k hk))), (fun c hc => (ag_upd_ne (by omega)).trans ((ag_upd_ne (by omega)).trans (gf c hc)))⟩
              · omega
              · have z := (zs (by omega)).2.2.1 (by omega); rw [hdd] at z; exact z
            · show AR E d _ (109, [some (vA m), some (vI (2 * (M.length : Int))), some (vI i), some (vI 2)], [], (C, N9)) _
              refine AR.blk 5 (f' := (93, [some (vA m), some (vI (2 * (M.length : Int))), some (vI i), some (vI 3)], [vI 4, vI 3], (C, N9))) (fun _ => rfl) ?_
              refine AR.blk 2 (f' := (97, [some (vA m), some (vI (2 * (M.length : Int))), some (vI i), some (vI 3)], [vA m], (C, N9))) (fun _ => rfl) ?_
              refine AR.callV [] (ev_X7_here (by omega) hm (N := N9) g17 g14 (by omega) gT) hm.1 rfl rfl rfl rfl rfl ?_
              show AR E d _ (100, [some (vA m), some (vI (2 * (M.length : Int))), some (vI i), some (vI 3)], [vI (if a < L then T a else -1)], (C, N9)) _
              have f9 := (fun z => hTr a (by omega) z : a < L → _)
              refine AR.blk 2 (f' := (103, [some (vA m), some (vI (2 * (M.length : Int))), some (vI i), some (vI 3)], [vI 3, vX 2, vI (if a < L then T a else -1)], (C, N9))) (fun _ => rfl) ?_
              refine AR.charAt rfl rfl ⟨(by omega), Nat.le_of_ble_eq_true rfl⟩ ?_
              refine AR.ic_eq rfl (by omega) (fun c10 => ?_) (fun c10 => ?_)
              · show AR E d _ (112, [some (vA m), some (vI (2 * (M.length : Int))), some (vI i), some (vI 3)], [], (C, N9)) _
                refine AR.blk 1 (f' := (113, [some (vA m), some (vI (2 * (M.length : Int))), some (vI i), some (vI 3)], [vA m], (C, N9))) (fun _ => rfl) ?_
                refine AR.getR rfl rfl hm.1 (by decide) rfl ?_
                refine AR.blk 4 (f' := (120, [some (vA m), some (vI (2 * (M.length : Int))), some (vI i), some (vI 3)], [vI 3, vI ((2 * (M.length : Int)) + 1), vA (m + 8)], (C, N9))) (fun _ => rfl) ?_
                refine AR.iast rfl hm.2.2.2.2.2.2.2.2 (by omega) ?_
                refine AR.blk 2 (f' := (123, [some (vA m), some (vI (2 * (M.length : Int))), some (vI i), some (vI 3)], [vA m, vA m], (C, ag_upd N9 (m + 8) ((2 * (M.length : Int)) + 1) 3))) (fun _ => rfl) ?_
                refine AR.getI rfl rfl hm.1 (by decide) (v := a) ((congrFun (ag_upd_ne (by omega)) _).trans g17) ?_
                refine AR.blk 2 (f' := (128, [some (vA m), some (vI (2 * (M.length : Int))), some (vI i), some (vI 3)], [vI (a + 1), vA m], (C, ag_upd N9 (m + 8) ((2 * (M.length : Int)) + 1) 3))) (fun _ => rfl) ?_
                refine AR.putI rfl rfl hm.1 (by decide) (fun q => absurd q (by decide)) ?_
                refine AR.blk 1 (f' := (132, [some (vA m), some (vI (2 * (M.length : Int))), some (vI i), some (vI 3)], [vI 1], (C, ag_upd (ag_upd N9 (m + 8) ((2 * (M.length : Int)) + 1) 3) m 17 (a + 1)))) (fun _ => rfl) ?_
                refine AR.endI rfl (.inr ⟨rfl, by omega⟩) ?_
                have hdd : m_dir (T a) = 3 := by omega
                refine ⟨1, a + 1, sq, 3, _, rfl, .inr rfl, ag_upd_eq, (by omega), (fun z => by cases z), (fun _ => ⟨?_, (congrFun (ag_upd_ne (by omega)) _).trans ((ag_upd_nk (by omega)).trans gs), (congrFun (ag_upd_ne (by omega)) _).trans ag_upd_eq, a - i, ?_⟩), (fun k hk => (congrFun (ag_upd_ne (by omega)) k).trans ((ag_upd_nk (by omega)).trans (gl k hk))), (fun k hk => (ag_upd_nk hk).trans ((congrFun (ag_upd_ne (by omega)) k).trans (gk k hk))), (fun c hc => (ag_upd_ne (by omega)).trans ((ag_upd_ne (by omega)).trans (gf c hc)))⟩
                · omega
                · have z := (zs (by omega)).2.2.1 (by omega); rw [hdd] at z; exact z
              · show AR E d _ (109, [some (vA m), some (vI (2 * (M.length : Int))), some (vI i), some (vI 3)], [], (C, N9)) _
                refine AR.blk 5 (f' := (93, [some (vA m), some (vI (2 * (M.length : Int))), some (vI i), some (vI 4)], [vI 4, vI 4], (C, N9))) (fun _ => rfl) ?_
                refine AR.blk 2 (f' := (140, [some (vA m), some (vI (2 * (M.length : Int))), some (vI i), some (vI 4)], [vI 0], (C, N9))) (fun _ => rfl) ?_
                refine AR.endI rfl (.inr ⟨rfl, by omega⟩) ?_
                have hRR : R = (a, M) := by
                  by_cases zq : a < L
                  · exact ((zs zq).2.2.2 (by omega)).symm
                  · exact (m_ps_end (by omega) j1).symm.trans (congrArg (fun z => (z, M)) (by omega))
                exact ⟨0, a, 0, 0, _, rfl, .inl rfl, g17, (by omega), (fun _ => hRR), (fun z => by cases z), gl, gk, gf⟩
      · show AR E d _ (87, [some (vA m), some (vI (2 * (M.length : Int))), some (vI i), none], [], (C, N9)) _
        refine AR.blk 1 (f' := (88, [some (vA m), some (vI (2 * (M.length : Int))), some (vI i), none], [vI 0], (C, N9))) (fun _ => rfl) ?_
        refine AR.endI rfl (.inr ⟨rfl, by omega⟩) ?_
        have hRR : R = (a, M) := by
          by_cases zq : a < L
          · exact ((zs zq).2.2.2 (by omega)).symm
          · exact (m_ps_end (by omega) j1).symm.trans (congrArg (fun z => (z, M)) (by omega))
        exact ⟨0, a, 0, 0, _, rfl, .inl rfl, g17, (by omega), (fun _ => hRR), (fun z => by cases z), gl, gk, gf⟩
    · show AR E d _ (29, [some (vA m), some (vI (2 * (M.length : Int))), some (vI i), none], [], (C, N9)) _
      refine AR.blk 1 (f' := (30, [some (vA m), some (vI (2 * (M.length : Int))), some (vI i), none], [vA m], (C, N9))) (fun _ => rfl) ?_
      refine AR.callV [] (ev_X7_here (by omega) hm (N := N9) g17 g14 (by omega) gT) hm.1 rfl rfl rfl rfl rfl ?_
      show AR E d _ (33, [some (vA m), some (vI (2 * (M.length : Int))), some (vI i), none], [vI (if a < L then T a else -1)], (C, N9)) _
      have f11 := (fun z => hTr a (by omega) z : a < L → _)
      refine AR.blk 2 (f' := (37, [some (vA m), some (vI (2 * (M.length : Int))), some (vI i), none], [vI 57, vI 48, vI (if a < L then T a else -1)], (C, N9))) (fun _ => rfl) ?_
      refine AR.callS [vI (if a < L then T a else -1), vI 48, vI 57] (ev_X7_in (by omega) (if a < L then T a else -1) 48 57 (by omega)) rfl rfl rfl rfl rfl ?_
      show AR E d _ (40, [some (vA m), some (vI (2 * (M.length : Int))), some (vI i), none], [vI (if 48 ≤ (if a < L then T a else -1) ∧ (if a < L then T a else -1) ≤ 57 then 1 else 0)], (C, N9)) _
      refine AR.if_eq rfl (by omega) (fun c12 => ?_) (fun c12 => ?_)
      · show AR E d _ (79, [some (vA m), some (vI (2 * (M.length : Int))), some (vI i), none], [], (C, N9)) _
        refine AR.blk 1 (f' := (80, [some (vA m), some (vI (2 * (M.length : Int))), some (vI i), none], [vA m], (C, N9))) (fun _ => rfl) ?_
        refine AR.getI rfl rfl hm.1 (by decide) (v := a) g17 ?_
        refine AR.blk 1 (f' := (84, [some (vA m), some (vI (2 * (M.length : Int))), some (vI i), none], [vI i, vI a], (C, N9))) (fun _ => rfl) ?_
        refine AR.ic_ne rfl (by omega) (fun c13 => ?_) (fun c13 => ?_)
        · show AR E d _ (89, [some (vA m), some (vI (2 * (M.length : Int))), some (vI i), none], [], (C, N9)) _
          have u0 : ag_str 2 (0 : Int).toNat = 117 := rfl
          have u1 : ag_str 2 (1 : Int).toNat = 114 := rfl
          have u2 : ag_str 2 (2 : Int).toNat = 100 := rfl
          have u3 : ag_str 2 (3 : Int).toNat = 108 := rfl
          refine AR.blk 4 (f' := (93, [some (vA m), some (vI (2 * (M.length : Int))), some (vI i), some (vI 0)], [vI 4, vI 0], (C, N9))) (fun _ => rfl) ?_
          refine AR.blk 2 (f' := (97, [some (vA m), some (vI (2 * (M.length : Int))), some (vI i), some (vI 0)], [vA m], (C, N9))) (fun _ => rfl) ?_
          refine AR.callV [] (ev_X7_here (by omega) hm (N := N9) g17 g14 (by omega) gT) hm.1 rfl rfl rfl rfl rfl ?_
          show AR E d _ (100, [some (vA m), some (vI (2 * (M.length : Int))), some (vI i), some (vI 0)], [vI (if a < L then T a else -1)], (C, N9)) _
          have f14 := (fun z => hTr a (by omega) z : a < L → _)
          refine AR.blk 2 (f' := (103, [some (vA m), some (vI (2 * (M.length : Int))), some (vI i), some (vI 0)], [vI 0, vX 2, vI (if a < L then T a else -1)], (C, N9))) (fun _ => rfl) ?_
          refine AR.charAt rfl rfl ⟨(by omega), Nat.le_of_ble_eq_true rfl⟩ ?_
          refine AR.ic_eq rfl (by omega) (fun c15 => ?_) (fun c15 => ?_)
          · show AR E d _ (112, [some (vA m), some (vI (2 * (M.length : Int))), some (vI i), some (vI 0)], [], (C, N9)) _
            refine AR.blk 1 (f' := (113, [some (vA m), some (vI (2 * (M.length : Int))), some (vI i), some (vI 0)], [vA m], (C, N9))) (fun _ => rfl) ?_
            refine AR.getR rfl rfl hm.1 (by decide) rfl ?_
            refine AR.blk 4 (f' := (120, [some (vA m), some (vI (2 * (M.length : Int))), some (vI i), some (vI 0)], [vI 0, vI ((2 * (M.length : Int)) + 1), vA (m + 8)], (C, N9))) (fun _ => rfl) ?_
            refine AR.iast rfl hm.2.2.2.2.2.2.2.2 (by omega) ?_
            refine AR.blk 2 (f' := (123, [some (vA m), some (vI (2 * (M.length : Int))), some (vI i), some (vI 0)], [vA m, vA m], (C, ag_upd N9 (m + 8) ((2 * (M.length : Int)) + 1) 0))) (fun _ => rfl) ?_
            refine AR.getI rfl rfl hm.1 (by decide) (v := a) ((congrFun (ag_upd_ne (by omega)) _).trans g17) ?_
            refine AR.blk 2 (f' := (128, [some (vA m), some (vI (2 * (M.length : Int))), some (vI i), some (vI 0)], [vI (a + 1), vA m], (C, ag_upd N9 (m + 8) ((2 * (M.length : Int)) + 1) 0))) (fun _ => rfl) ?_
            refine AR.putI rfl rfl hm.1 (by decide) (fun q => absurd q (by decide)) ?_
            refine AR.blk 1 (f' := (132, [some (vA m), some (vI (2 * (M.length : Int))), some (vI i), some (vI 0)], [vI 1], (C, ag_upd (ag_upd N9 (m + 8) ((2 * (M.length : Int)) + 1) 0) m 17 (a + 1)))) (fun _ => rfl) ?_
            refine AR.endI rfl (.inr ⟨rfl, by omega⟩) ?_
            have hdd : m_dir (T a) = 0 := by omega
            refine ⟨1, a + 1, sq, 0, _, rfl, .inr rfl, ag_upd_eq, (by omega), (fun z => by cases z), (fun _ => ⟨?_, (congrFun (ag_upd_ne (by omega)) _).trans ((ag_upd_nk (by omega)).trans gs), (congrFun (ag_upd_ne (by omega)) _).trans ag_upd_eq, a - i, ?_⟩), (fun k hk => (congrFun (ag_upd_ne (by omega)) k).trans ((ag_upd_nk (by omega)).trans (gl k hk))), (fun k hk => (ag_upd_nk hk).trans ((congrFun (ag_upd_ne (by omega)) k).trans (gk k hk))), (fun c hc => (ag_upd_ne (by omega)).trans ((ag_upd_ne (by omega)).trans (gf c hc)))⟩
            · omega
            · have z := (zs (by omega)).2.2.1 (by omega); rw [hdd] at z; exact z
          · show AR E d _ (109, [some (vA m), some (vI (2 * (M.length : Int))), some (vI i), some (vI 0)], [], (C, N9)) _
            refine AR.blk 5 (f' := (93, [some (vA m), some (vI (2 * (M.length : Int))), some (vI i), some (vI 1)], [vI 4, vI 1], (C, N9))) (fun _ => rfl) ?_
            refine AR.blk 2 (f' := (97, [some (vA m), some (vI (2 * (M.length : Int))), some (vI i), some (vI 1)], [vA m], (C, N9))) (fun _ => rfl) ?_
            refine AR.callV [] (ev_X7_here (by omega) hm (N := N9) g17 g14 (by omega) gT) hm.1 rfl rfl rfl rfl rfl ?_
            show AR E d _ (100, [some (vA m), some (vI (2 * (M.length : Int))), some (vI i), some (vI 1)], [vI (if a < L then T a else -1)], (C, N9)) _
            have f16 := (fun z => hTr a (by omega) z : a < L → _)
            refine AR.blk 2 (f' := (103, [some (vA m), some (vI (2 * (M.length : Int))), some (vI i), some (vI 1)], [vI 1, vX 2, vI (if a < L then T a else -1)], (C, N9))) (fun _ => rfl) ?_
            refine AR.charAt rfl rfl ⟨(by omega), Nat.le_of_ble_eq_true rfl⟩ ?_
            refine AR.ic_eq rfl (by omega) (fun c17 => ?_) (fun c17 => ?_)
            · show AR E d _ (112, [some (vA m), some (vI (2 * (M.length : Int))), some (vI i), some (vI 1)], [], (C, N9)) _
              refine AR.blk 1 (f' := (113, [some (vA m), some (vI (2 * (M.length : Int))), some (vI i), some (vI 1)], [vA m], (C, N9))) (fun _ => rfl) ?_
              refine AR.getR rfl rfl hm.1 (by decide) rfl ?_
              refine AR.blk 4 (f' := (120, [some (vA m), some (vI (2 * (M.length : Int))), some (vI i), some (vI 1)], [vI 1, vI ((2 * (M.length : Int)) + 1), vA (m + 8)], (C, N9))) (fun _ => rfl) ?_
              refine AR.iast rfl hm.2.2.2.2.2.2.2.2 (by omega) ?_
              refine AR.blk 2 (f' := (123, [some (vA m), some (vI (2 * (M.length : Int))), some (vI i), some (vI 1)], [vA m, vA m], (C, ag_upd N9 (m + 8) ((2 * (M.length : Int)) + 1) 1))) (fun _ => rfl) ?_
              refine AR.getI rfl rfl hm.1 (by decide) (v := a) ((congrFun (ag_upd_ne (by omega)) _).trans g17) ?_
              refine AR.blk 2 (f' := (128, [some (vA m), some (vI (2 * (M.length : Int))), some (vI i), some (vI 1)], [vI (a + 1), vA m], (C, ag_upd N9 (m + 8) ((2 * (M.length : Int)) + 1) 1))) (fun _ => rfl) ?_
              refine AR.putI rfl rfl hm.1 (by decide) (fun q => absurd q (by decide)) ?_
              refine AR.blk 1 (f' := (132, [some (vA m), some (vI (2 * (M.length : Int))), some (vI i), some (vI 1)], [vI 1], (C, ag_upd (ag_upd N9 (m + 8) ((2 * (M.length : Int)) + 1) 1) m 17 (a + 1)))) (fun _ => rfl) ?_
              refine AR.endI rfl (.inr ⟨rfl, by omega⟩) ?_
              have hdd : m_dir (T a) = 1 := by omega
              refine ⟨1, a + 1, sq, 1, _, rfl, .inr rfl, ag_upd_eq, (by omega), (fun z => by cases z), (fun _ => ⟨?_, (congrFun (ag_upd_ne (by omega)) _).trans ((ag_upd_nk (by omega)).trans gs), (congrFun (ag_upd_ne (by omega)) _).trans ag_upd_eq, a - i, ?_⟩), (fun k hk => (congrFun (ag_upd_ne (by omega)) k).trans ((ag_upd_nk (by omega)).trans (gl k hk))), (fun k hk => (ag_upd_nk hk).trans ((congrFun (ag_upd_ne (by omega)) k).trans (gk k hk))), (fun c hc => (ag_upd_ne (by omega)).trans ((ag_upd_ne (by omega)).trans (gf c hc)))⟩
              · omega
              · have z := (zs (by omega)).2.2.1 (by omega); rw [hdd] at z; exact z
            · show AR E d _ (109, [some (vA m), some (vI (2 * (M.length : Int))), some (vI i), some (vI 1)], [], (C, N9)) _
              refine AR.blk 5 (f' := (93, [some (vA m), some (vI (2 * (M.length : Int))), some (vI i), some (vI 2)], [vI 4, vI 2], (C, N9))) (fun _ => rfl) ?_
              refine AR.blk 2 (f' := (97, [some (vA m), some (vI (2 * (M.length : Int))), some (vI i), some (vI 2)], [vA m], (C, N9))) (fun _ => rfl) ?_
              refine AR.callV [] (ev_X7_here (by omega) hm (N := N9) g17 g14 (by omega) gT) hm.1 rfl rfl rfl rfl rfl ?_
              show AR E d _ (100, [some (vA m), some (vI (2 * (M.length : Int))), some (vI i), some (vI 2)], [vI (if a < L then T a else -1)], (C, N9)) _
              have f18 := (fun z => hTr a (by omega) z : a < L → _)
              refine AR.blk 2 (f' := (103, [some (vA m), some (vI (2 * (M.length : Int))), some (vI i), some (vI 2)], [vI 2, vX 2, vI (if a < L then T a else -1)], (C, N9))) (fun _ => rfl) ?_
              refine AR.charAt rfl rfl ⟨(by omega), Nat.le_of_ble_eq_true rfl⟩ ?_
              refine AR.ic_eq rfl (by omega) (fun c19 => ?_) (fun c19 => ?_)
              · show AR E d _ (112, [some (vA m), some (vI (2 * (M.length : Int))), some (vI i), some (vI 2)], [], (C, N9)) _
                refine AR.blk 1 (f' := (113, [some (vA m), some (vI (2 * (M.length : Int))), some (vI i), some (vI 2)], [vA m], (C, N9))) (fun _ => rfl) ?_
                refine AR.getR rfl rfl hm.1 (by decide) rfl ?_
                refine AR.blk 4 (f' := (120, [some (vA m), some (vI (2 * (M.length : Int))), some (vI i), some (vI 2)], [vI 2, vI ((2 * (M.length : Int)) + 1), vA (m + 8)], (C, N9))) (fun _ => rfl) ?_
                refine AR.iast rfl hm.2.2.2.2.2.2.2.2 (by omega) ?_
                refine AR.blk 2 (f' := (123, [some (vA m), some (vI (2 * (M.length : Int))), some (vI i), some (vI 2)], [vA m, vA m], (C, ag_upd N9 (m + 8) ((2 * (M.length : Int)) + 1) 2))) (fun _ => rfl) ?_
                refine AR.getI rfl rfl hm.1 (by decide) (v := a) ((congrFun (ag_upd_ne (by omega)) _).trans g17) ?_
                refine AR.blk 2 (f' := (128, [some (vA m), some (vI (2 * (M.length : Int))), some (vI i), some (vI 2)], [vI (a + 1), vA m], (C, ag_upd N9 (m + 8) ((2 * (M.length : Int)) + 1) 2))) (fun _ => rfl) ?_
                refine AR.putI rfl rfl hm.1 (by decide) (fun q => absurd q (by decide)) ?_
                refine AR.blk 1 (f' := (132, [some (vA m), some (vI (2 * (M.length : Int))), some (vI i), some (vI 2)], [vI 1], (C, ag_upd (ag_upd N9 (m + 8) ((2 * (M.length : Int)) + 1) 2) m 17 (a + 1)))) (fun _ => rfl) ?_
                refine AR.endI rfl (.inr ⟨rfl, by omega⟩) ?_
                have hdd : m_dir (T a) = 2 := by omega
                refine ⟨1, a + 1, sq, 2, _, rfl, .inr rfl, ag_upd_eq, (by omega), (fun z => by cases z), (fun _ => ⟨?_, (congrFun (ag_upd_ne (by omega)) _).trans ((ag_upd_nk (by omega)).trans gs), (congrFun (ag_upd_ne (by omega)) _).trans ag_upd_eq, a - i, ?_⟩), (fun k hk => (congrFun (ag_upd_ne (by omega)) k).trans ((ag_upd_nk (by omega)).trans (gl k hk))), (fun k hk => (ag_upd_nk hk).trans ((congrFun (ag_upd_ne (by omega)) k).trans (gk k hk))), (fun c hc => (ag_upd_ne (by omega)).trans ((ag_upd_ne (by omega)).trans (gf c hc)))⟩
                · omega
                · have z := (zs (by omega)).2.2.1 (by omega); rw [hdd] at z; exact z
              · show AR E d _ (109, [some (vA m), some (vI (2 * (M.length : Int))), some (vI i), some (vI 2)], [], (C, N9)) _
                refine AR.blk 5 (f' := (93, [some (vA m), some (vI (2 * (M.length : Int))), some (vI i), some (vI 3)], [vI 4, vI 3], (C, N9))) (fun _ => rfl) ?_
                refine AR.blk 2 (f' := (97, [some (vA m), some (vI (2 * (M.length : Int))), some (vI i), some (vI 3)], [vA m], (C, N9))) (fun _ => rfl) ?_
                refine AR.callV [] (ev_X7_here (by omega) hm (N := N9) g17 g14 (by omega) gT) hm.1 rfl rfl rfl rfl rfl ?_
                show AR E d _ (100, [some (vA m), some (vI (2 * (M.length : Int))), some (vI i), some (vI 3)], [vI (if a < L then T a else -1)], (C, N9)) _
                have f20 := (fun z => hTr a (by omega) z : a < L → _)
                refine AR.blk 2 (f' := (103, [some (vA m), some (vI (2 * (M.length : Int))), some (vI i), some (vI 3)], [vI 3, vX 2, vI (if a < L then T a else -1)], (C, N9))) (fun _ => rfl) ?_
                refine AR.charAt rfl rfl ⟨(by omega), Nat.le_of_ble_eq_true rfl⟩ ?_
                refine AR.ic_eq rfl (by omega) (fun c21 => ?_) (fun c21 => ?_)
                · show AR E d _ (112, [some (vA m), some (vI (2 * (M.length : Int))), some (vI i), some (vI 3)], [], (C, N9)) _
                  refine AR.blk 1 (f' := (113, [some (vA m), some (vI (2 * (M.length : Int))), some (vI i), some (vI 3)], [vA m], (C, N9))) (fun _ => rfl) ?_
                  refine AR.getR rfl rfl hm.1 (by decide) rfl ?_
                  refine AR.blk 4 (f' := (120, [some (vA m), some (vI (2 * (M.length : Int))), some (vI i), some (vI 3)], [vI 3, vI ((2 * (M.length : Int)) + 1), vA (m + 8)], (C, N9))) (fun _ => rfl) ?_
                  refine AR.iast rfl hm.2.2.2.2.2.2.2.2 (by omega) ?_
                  refine AR.blk 2 (f' := (123, [some (vA m), some (vI (2 * (M.length : Int))), some (vI i), some (vI 3)], [vA m, vA m], (C, ag_upd N9 (m + 8) ((2 * (M.length : Int)) + 1) 3))) (fun _ => rfl) ?_
                  refine AR.getI rfl rfl hm.1 (by decide) (v := a) ((congrFun (ag_upd_ne (by omega)) _).trans g17) ?_
                  refine AR.blk 2 (f' := (128, [some (vA m), some (vI (2 * (M.length : Int))), some (vI i), some (vI 3)], [vI (a + 1), vA m], (C, ag_upd N9 (m + 8) ((2 * (M.length : Int)) + 1) 3))) (fun _ => rfl) ?_
                  refine AR.putI rfl rfl hm.1 (by decide) (fun q => absurd q (by decide)) ?_
                  refine AR.blk 1 (f' := (132, [some (vA m), some (vI (2 * (M.length : Int))), some (vI i), some (vI 3)], [vI 1], (C, ag_upd (ag_upd N9 (m + 8) ((2 * (M.length : Int)) + 1) 3) m 17 (a + 1)))) (fun _ => rfl) ?_
                  refine AR.endI rfl (.inr ⟨rfl, by omega⟩) ?_
                  have hdd : m_dir (T a) = 3 := by omega
                  refine ⟨1, a + 1, sq, 3, _, rfl, .inr rfl, ag_upd_eq, (by omega), (fun z => by cases z), (fun _ => ⟨?_, (congrFun (ag_upd_ne (by omega)) _).trans ((ag_upd_nk (by omega)).trans gs), (congrFun (ag_upd_ne (by omega)) _).trans ag_upd_eq, a - i, ?_⟩), (fun k hk => (congrFun (ag_upd_ne (by omega)) k).trans ((ag_upd_nk (by omega)).trans (gl k hk))), (fun k hk => (ag_upd_nk hk).trans ((congrFun (ag_upd_ne (by omega)) k).trans (gk k hk))), (fun c hc => (ag_upd_ne (by omega)).trans ((ag_upd_ne (by omega)).trans (gf c hc)))⟩
                  · omega
                  · have z := (zs (by omega)).2.2.1 (by omega); rw [hdd] at z; exact z
                · show AR E d _ (109, [some (vA m), some (vI (2 * (M.length : Int))), some (vI i), some (vI 3)], [], (C, N9)) _
                  refine AR.blk 5 (f' := (93, [some (vA m), some (vI (2 * (M.length : Int))), some (vI i), some (vI 4)], [vI 4, vI 4], (C, N9))) (fun _ => rfl) ?_
                  refine AR.blk 2 (f' := (140, [some (vA m), some (vI (2 * (M.length : Int))), some (vI i), some (vI 4)], [vI 0], (C, N9))) (fun _ => rfl) ?_
                  refine AR.endI rfl (.inr ⟨rfl, by omega⟩) ?_
                  have hRR : R = (a, M) := by
                    by_cases zq : a < L
                    · exact ((zs zq).2.2.2 (by omega)).symm
                    · exact (m_ps_end (by omega) j1).symm.trans (congrArg (fun z => (z, M)) (by omega))
                  exact ⟨0, a, 0, 0, _, rfl, .inl rfl, g17, (by omega), (fun _ => hRR), (fun z => by cases z), gl, gk, gf⟩
        · show AR E d _ (87, [some (vA m), some (vI (2 * (M.length : Int))), some (vI i), none], [], (C, N9)) _
          refine AR.blk 1 (f' := (88, [some (vA m), some (vI (2 * (M.length : Int))), some (vI i), none], [vI 0], (C, N9))) (fun _ => rfl) ?_
          refine AR.endI rfl (.inr ⟨rfl, by omega⟩) ?_
          have hRR : R = (a, M) := by
            by_cases zq : a < L
            · exact ((zs zq).2.2.2 (by omega)).symm
            · exact (m_ps_end (by omega) j1).symm.trans (congrArg (fun z => (z, M)) (by omega))
          exact ⟨0, a, 0, 0, _, rfl, .inl rfl, g17, (by omega), (fun _ => hRR), (fun z => by cases z), gl, gk, gf⟩
      · show AR E d _ (43, [some (vA m), some (vI (2 * (M.length : Int))), some (vI i), none], [], (C, N9)) _
        refine AR.blk 1 (f' := (44, [some (vA m), some (vI (2 * (M.length : Int))), some (vI i), none], [vA m], (C, N9))) (fun _ => rfl) ?_
        refine AR.getR rfl rfl hm.1 (by decide) rfl ?_
        refine AR.blk 3 (f' := (51, [some (vA m), some (vI (2 * (M.length : Int))), some (vI i), none], [vA m, vI 10, vI (2 * (M.length : Int)), vA (m + 8)], (C, N9))) (fun _ => rfl) ?_
        refine AR.getR rfl rfl hm.1 (by decide) rfl ?_
        refine AR.blk 1 (f' := (55, [some (vA m), some (vI (2 * (M.length : Int))), some (vI i), none], [vI (2 * (M.length : Int)), vA (m + 8), vI 10, vI (2 * (M.length : Int)), vA (m + 8)], (C, N9))) (fun _ => rfl) ?_
        refine AR.iald rfl hm.2.2.2.2.2.2.2.2 (by omega) (v := sq) gs ?_
        refine AR.blk 2 (f' := (58, [some (vA m), some (vI (2 * (M.length : Int))), some (vI i), none], [vA m, vI (10 * sq), vI (2 * (M.length : Int)), vA (m + 8)], (C, N9))) (fun _ => rfl) ?_
        refine AR.callV [] (ev_X7_here (by omega) hm (N := N9) g17 g14 (by omega) gT) hm.1 rfl rfl rfl rfl rfl ?_
        show AR E d _ (61, [some (vA m), some (vI (2 * (M.length : Int))), some (vI i), none], [vI (if a < L then T a else -1), vI (10 * sq), vI (2 * (M.length : Int)), vA (m + 8)], (C, N9)) _
        have f22 := (fun z => hTr a (by omega) z : a < L → _)
        refine AR.blk 3 (f' := (65, [some (vA m), some (vI (2 * (M.length : Int))), some (vI i), none], [vI (((10 * sq) + (if a < L then T a else -1)) - 48), vI (2 * (M.length : Int)), vA (m + 8)], (C, N9))) (fun _ => rfl) ?_
        refine AR.iast rfl hm.2.2.2.2.2.2.2.2 (by omega) ?_
        refine AR.blk 2 (f' := (68, [some (vA m), some (vI (2 * (M.length : Int))), some (vI i), none], [vA m, vA m], (C, ag_upd N9 (m + 8) (2 * (M.length : Int)) (((10 * sq) + (if a < L then T a else -1)) - 48)))) (fun _ => rfl) ?_
        refine AR.getI rfl rfl hm.1 (by decide) (v := a) ((congrFun (ag_upd_ne (by omega)) _).trans g17) ?_
        refine AR.blk 2 (f' := (73, [some (vA m), some (vI (2 * (M.length : Int))), some (vI i), none], [vI (a + 1), vA m], (C, ag_upd N9 (m + 8) (2 * (M.length : Int)) (((10 * sq) + (if a < L then T a else -1)) - 48)))) (fun _ => rfl) ?_
        refine AR.putI rfl rfl hm.1 (by decide) (fun q => absurd q (by decide)) ?_
        refine AR.blk 1 (f' := (19, [some (vA m), some (vI (2 * (M.length : Int))), some (vI i), none], [], (C, ag_upd (ag_upd N9 (m + 8) (2 * (M.length : Int)) (((10 * sq) + (if a < L then T a else -1)) - 48)) m 17 (a + 1)))) (fun _ => rfl) ?_
        exact ih19 (a + 1) (sq * 10 + T a - 48) _ (by omega) (by omega) (by rw [show a + 1 - i = a - i + 1 by omega]; exact (zs (by omega)).2.1 (by omega)) ag_upd_eq ((congrFun (ag_upd_ne (by omega)) _).trans (ag_upd_eq.trans (by omega))) (fun k hk => (ag_upd_nk hk).trans ((congrFun (ag_upd_ne (by omega)) k).trans (gk k hk))) (fun k hk => (congrFun (ag_upd_ne (by omega)) k).trans ((ag_upd_nk (by omega)).trans (gl k hk))) (fun c hc => (ag_upd_ne (by omega)).trans ((ag_upd_ne (by omega)).trans (gf c hc)))
end L2L
