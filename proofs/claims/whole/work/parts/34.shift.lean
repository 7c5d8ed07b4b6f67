/-! LEVEL 2: the model's row, changed: pushes and shifts -/
def m_pu (P : Int → Int) (x : Int) : Nat → Int → (Int → Int)
  | 0, u => if m_ahead u x 1 = -1 then m_set P u (-1) else m_set (m_set P (m_ahead u x 1) (P u)) u (-1)
  | k + 1, u => m_set (m_set (m_pu P x k (m_ahead u x 1)) (m_ahead u x 1) (m_pu P x k (m_ahead u x 1) u)) u (-1)
/-- whose piece goes off the board -/
def m_pl (P : Int → Int) (x : Int) : Nat → Int → Int
  | 0, u => if m_ahead u x 1 = -1 then m_own (P u) else -1
  | k + 1, u => m_pl P x k (m_ahead u x 1)
def m_pgn (P : Int → Int) (x : Int) (k : Nat) (u : Int) (gn : Int → Int) : Int → Int := if 0 ≤ m_pl P x k u then m_set gn (m_pl P x k u) (gn (m_pl P x k u) + 1) else gn
theorem m_room_1 (s x : Int) (hs : 0 ≤ s ∧ s < 36) (hx : 0 ≤ x ∧ x < 4) (h : 1 ≤ m_room s x) : m_room (m_ahead s x 1) x = m_room s x - 1 := by
  have e : x = 0 ∨ x = 1 ∨ x = 2 ∨ x = 3 := by omega
  revert h
  unfold m_ahead m_room m_step
  rcases e with rfl | rfl | rfl | rfl <;> simp <;> omega
theorem m_fr_sh (P : Int → Int) (s st : Int) : ∀ (k : Nat) (c : Int), m_fr P s st k (c + 1) = m_fr P (s + st) st k c + 1 := by
  intro k
  induction k with
  | zero => intro c; rfl
  | succ k ih =>
    intro c
    unfold m_fr
    have e : s + (c + 1 + 1) * st = s + st + (c + 1) * st := by
      rw [Int.add_mul (c + 1) 1 st, Int.one_mul]; omega
    rw [e]
    split
    · rfl
    · exact ih (c + 1)
theorem m_std_S (P : Int → Int) (s x : Int) (hs : 0 ≤ s ∧ s < 36) (hx : 0 ≤ x ∧ x < 4) : (m_std P s x = 0 → m_ahead s x 1 = -1 ∨ P (m_ahead s x 1) = -1) ∧ (m_std P s x ≠ 0 → 0 ≤ m_ahead s x 1 ∧ P (m_ahead s x 1) ≠ -1 ∧ m_std P (m_ahead s x 1) x = m_std P s x - 1) := by
  have h1 := m_ah s x 1 hs hx (by omega)
  have h2 := m_room_in s x hs
  by_cases q : m_ahead s x 1 = -1
  · have h3 : m_std P s x = 0 := by have := m_std_in P s x hs; omega
    exact ⟨fun _ => .inl q, fun z => absurd h3 z⟩
  · have h4 : m_ahead s x 1 = s + m_step x := by
      have : m_ahead s x 1 = s + 1 * m_step x := by omega
      rw [Int.one_mul] at this; exact this
    have h5 := m_room_1 s x hs hx (by omega)
    have h6 : m_std P s x = if P (s + (0 + 1) * m_step x) = -1 then 0 else m_fr P s (m_step x) (m_room s x - 1).toNat (0 + 1) := by
      unfold m_std
      rw [show (m_room s x).toNat = (m_room s x - 1).toNat + 1 by omega]
      rfl
    rw [show s + (0 + 1) * m_step x = m_ahead s x 1 by rw [h4, Int.zero_add, Int.one_mul]] at h6
    have h7 : m_std P (m_ahead s x 1) x = m_fr P (s + m_step x) (m_step x) (m_room s x - 1).toNat 0 := by
      unfold m_std
      rw [h5, h4]
    rw [m_fr_sh, ← h7] at h6
    have h8 := m_std_in P (m_ahead s x 1) x (by omega)
    refine ⟨fun z => .inr ?_, fun z => ?_⟩
    · by_cases e : P (m_ahead s x 1) = -1
      · exact e
      · rw [if_neg e] at h6; omega
    · by_cases e : P (m_ahead s x 1) = -1
      · rw [if_pos e] at h6; omega
      · rw [if_neg e] at h6
        exact ⟨by omega, e, by omega⟩
theorem m_pu_w {P : Int → Int} {n : Int} {q p cl tn : Int → Int} (hw : g_wB P n q p cl tn) (x : Int) (hx : 0 ≤ x ∧ x < 4) : ∀ (k : Nat) (u : Int), 0 ≤ u ∧ u < 36 → (k : Int) ≤ m_room u x → g_wB (m_pu P x k u) n q p cl tn := by
  intro k
  induction k with
  | zero =>
    intro u hu _
    have h1 := m_ah u x 1 hu hx (by omega)
    unfold m_pu
    split
    · exact g_wB_set hw hu (by omega)
    · exact g_wB_set (g_wB_set hw (by omega) (hw.1 u)) hu (by omega)
  | succ k ih =>
    intro u hu hk
    have h1 := m_ah u x 1 hu hx (by omega)
    have h2 := m_room_1 u x hu hx (by omega)
    have h3 := ih (m_ahead u x 1) (by omega) (by omega)
    exact g_wB_set (g_wB_set h3 (by omega) (h3.1 u)) hu (by omega)
theorem m_set_set (f : Int → Int) (w a b : Int) : m_set (m_set f w a) w b = m_set f w b := by
  funext t
  unfold m_set
  by_cases e : t = w
  · rw [if_pos e, if_pos e]
  · rw [if_neg e, if_neg e, if_neg e]
theorem m_set_at (f : Int → Int) (w a : Int) : m_set f w a w = a := if_pos rfl
theorem m_pl_in (P : Int → Int) (x : Int) (h : ∀ s, -1 ≤ P s ∧ P s ≤ 3) : ∀ (k : Nat) (u : Int), -1 ≤ m_pl P x k u ∧ m_pl P x k u ≤ 1 := by
  intro k
  induction k with
  | zero =>
    intro u
    have := m_own_in (P u) (h u)
    unfold m_pl
    omega
  | succ k ih => intro u; exact ih _
section L2m
variable {E : Nat × (Int → Int)} {C : List ag_C} {m : Nat} {n : Int} {q p cl tn : Int → Int} {t sd ho bg en ca : Int} {mk : Int → Int}

theorem ev_X7_pushes (hm : g_isM C m) (k : Nat) : ∀ {d : Nat} (hd : 3 + k ≤ d) {N : Nat → Int → Int} {P gn pu : Int → Int} (hr : g_rR (N (m + 1)) P n q p cl tn) (hw : g_wB P n q p cl tn) (hz : g_rZ (N (m + 1)) t sd ho bg en ca gn pu mk) (s x w : Int) (h0 : 0 ≤ s ∧ s < 36) (h1 : 0 ≤ x ∧ x < 4) (h2 : 0 ≤ w ∧ w < 2) (h3 : P s ≠ -1) (h4 : m_std P s x = k), ∃ o_, Ev E d 130 [vA m, vI s, vI x, vI w] (C, N) o_ ∧ g_QR C N m none (m_pu P x k s) n q p cl tn t sd ho bg en ca (m_pgn P x k s gn) (m_set pu w (pu w + (k + 1))) mk o_ := by
  induction k with
  | zero =>
    intro d hd N P gn pu hr hw hz s x w h0 h1 h2 h3 h4
    obtain ⟨d, rfl⟩ : ∃ j, d = j + 1 := ⟨d - 1, by omega⟩
    have y1 := m_std_S P s x h0 h1
    have y2 := m_std_in P s x h0
    have y3 := m_room_in s x h0
    have y4 := m_room_1 s x h0 h1
    refine Ev.introQ (M := ag_mX7_pushes) rfl rfl ?_
    show AR E d _ (0, [some (vA m), some (vI s), some (vI x), some (vI w), none], [], (C, N)) _
    refine AR.blk 2 (f' := (2, [some (vA m), some (vI s), some (vI x), some (vI w), none], [vI x, vI s], (C, N))) (fun _ => rfl) ?_
    refine AR.callS [vI s, vI x] (ev_X7_beside (by omega) s x (by omega) (by omega)) rfl rfl rfl rfl rfl ?_
    show AR E d _ (5, [some (vA m), some (vI s), some (vI x), some (vI w), none], [vI (m_ahead s x 1)], (C, N)) _
    have f1 := m_ah s x 1 (by omega) (by omega) (by omega)
    have f2 := m_room_in s x (by omega)
    refine AR.blk 2 (f' := (9, [some (vA m), some (vI s), some (vI x), some (vI w), some (vI (m_ahead s x 1))], [vI (m_ahead s x 1)], (C, N))) (fun _ => rfl) ?_
    refine AR.if_lt rfl (by omega) (fun c3 => ?_) (fun c3 => ?_)
    · show AR E d _ (29, [some (vA m), some (vI s), some (vI x), some (vI w), some (vI (m_ahead s x 1))], [], (C, N)) _
      refine AR.blk 1 (f' := (30, [some (vA m), some (vI s), some (vI x), some (vI w), some (vI (m_ahead s x 1))], [vA m], (C, N))) (fun _ => rfl) ?_
      refine AR.getR rfl rfl hm.1 (by decide) rfl ?_
      refine AR.blk 4 (f' := (38, [some (vA m), some (vI s), some (vI x), some (vI w), some (vI (m_ahead s x 1))], [vI (10 + w), vA (m + 1), vI (10 + w), vA (m + 1)], (C, N))) (fun _ => rfl) ?_
      refine AR.iald rfl hm.2.1 (by omega) (v := pu w) (m_two 10 hz.2.2.2.2.2.2.2.1.1 hz.2.2.2.2.2.2.2.1.2 (by omega)) ?_
      refine AR.blk 2 (f' := (41, [some (vA m), some (vI s), some (vI x), some (vI w), some (vI (m_ahead s x 1))], [vI ((pu w) + 1), vI (10 + w), vA (m + 1)], (C, N))) (fun _ => rfl) ?_
      refine AR.iast rfl hm.2.1 (by omega) ?_
      show AR E d _ (42, [some (vA m), some (vI s), some (vI x), some (vI w), some (vI (m_ahead s x 1))], [], (C, ag_upd N (m + 1) (10 + w) ((pu w) + 1))) _
      have RN5 := g_rR_fr hr (R' := (ag_upd N (m + 1) (10 + w) ((pu w) + 1)) (m + 1)) (fun i z0 z1 => ag_upd_nk (by omega))
      have ZN5 := g_rZ_pu hz w ((pu w) + 1) (by omega)
      have KN5 : ∀ i, 6 ≤ i ∧ i < 8 ∨ 67 ≤ i → (ag_upd N (m + 1) (10 + w) ((pu w) + 1)) (m + 1) i = N (m + 1) i := fun i hi => (ag_upd_nk (by omega)).trans ((fun _ _ => rfl) i hi)
      have FN5 : ∀ a, a ≠ m + 1 → (ag_upd N (m + 1) (10 + w) ((pu w) + 1)) a = N a := fun a ha => (ag_upd_ne ha).trans ((fun _ _ => rfl) a ha)
      generalize ag_upd N (m + 1) (10 + w) ((pu w) + 1) = N5 at *
      refine AR.blk 1 (f' := (44, [some (vA m), some (vI s), some (vI x), some (vI w), some (vI (m_ahead s x 1))], [vI (m_ahead s x 1)], (C, N5))) (fun _ => rfl) ?_
      refine AR.if_ge rfl (by omega) (fun c6 => ?_) (fun c6 => ?_)
      · show AR E d _ (67, [some (vA m), some (vI s), some (vI x), some (vI w), some (vI (m_ahead s x 1))], [], (C, N5)) _
        refine AR.blk 1 (f' := (68, [some (vA m), some (vI s), some (vI x), some (vI w), some (vI (m_ahead s x 1))], [vA m], (C, N5))) (fun _ => rfl) ?_
        refine AR.getR rfl rfl hm.1 (by decide) rfl ?_
        refine AR.blk 5 (f' := (78, [some (vA m), some (vI s), some (vI x), some (vI w), some (vI (m_ahead s x 1))], [vI s, vA m, vI (31 + (m_ahead s x 1)), vA (m + 1)], (C, N5))) (fun _ => rfl) ?_
        refine AR.callV [vI s] (ev_X7_pieceAt (by omega) hm RN5 hw s (by omega)) hm.1 rfl rfl rfl rfl rfl ?_
        show AR E d _ (81, [some (vA m), some (vI s), some (vI x), some (vI w), some (vI (m_ahead s x 1))], [vI (P s + 1), vI (31 + (m_ahead s x 1)), vA (m + 1)], (C, N5)) _
        have f7 := hw.1 s
        refine AR.iast rfl hm.2.1 (by omega) ?_
        show AR E d _ (82, [some (vA m), some (vI s), some (vI x), some (vI w), some (vI (m_ahead s x 1))], [], (C, ag_upd N5 (m + 1) (31 + (m_ahead s x 1)) (P s + 1))) _
        have WN9 := g_wB_set hw (show 0 ≤ (m_ahead s x 1) ∧ (m_ahead s x 1) < 36 by omega) (show -1 ≤ (P s) ∧ (P s) ≤ 3 by omega)
        have RN9 := g_rR_set RN5 (m_ahead s x 1) (P s) (P s + 1) (by omega) (by omega)
        have ZN9 := g_rZ_fr ZN5 (R' := (ag_upd N5 (m + 1) (31 + (m_ahead s x 1)) (P s + 1)) (m + 1)) (fun i z0 z1 => ag_upd_nk (by omega))
        have KN9 : ∀ i, 6 ≤ i ∧ i < 8 ∨ 67 ≤ i → (ag_upd N5 (m + 1) (31 + (m_ahead s x 1)) (P s + 1)) (m + 1) i = N (m + 1) i := fun i hi => (ag_upd_nk (by omega)).trans (KN5 i hi)
        have FN9 : ∀ a, a ≠ m + 1 → (ag_upd N5 (m + 1) (31 + (m_ahead s x 1)) (P s + 1)) a = N a := fun a ha => (ag_upd_ne ha).trans (FN5 a ha)
        generalize ag_upd N5 (m + 1) (31 + (m_ahead s x 1)) (P s + 1) = N9 at *
        refine AR.blk 1 (f' := (83, [some (vA m), some (vI s), some (vI x), some (vI w), some (vI (m_ahead s x 1))], [vA m], (C, N9))) (fun _ => rfl) ?_
        refine AR.getR rfl rfl hm.1 (by decide) rfl ?_
        refine AR.blk 4 (f' := (91, [some (vA m), some (vI s), some (vI x), some (vI w), some (vI (m_ahead s x 1))], [vI 0, vI (31 + s), vA (m + 1)], (C, N9))) (fun _ => rfl) ?_
        refine AR.iast rfl hm.2.1 (by omega) ?_
        show AR E d _ (92, [some (vA m), some (vI s), some (vI x), some (vI w), some (vI (m_ahead s x 1))], [], (C, ag_upd N9 (m + 1) (31 + s) 0)) _
        have WN11 := g_wB_set WN9 (show 0 ≤ s ∧ s < 36 by omega) (show -1 ≤ (-1) ∧ (-1) ≤ 3 by omega)
        have RN11 := g_rR_set RN9 s (-1) 0 (by omega) (by omega)
        have ZN11 := g_rZ_fr ZN9 (R' := (ag_upd N9 (m + 1) (31 + s) 0) (m + 1)) (fun i z0 z1 => ag_upd_nk (by omega))
        have KN11 : ∀ i, 6 ≤ i ∧ i < 8 ∨ 67 ≤ i → (ag_upd N9 (m + 1) (31 + s) 0) (m + 1) i = N (m + 1) i := fun i hi => (ag_upd_nk (by omega)).trans (KN9 i hi)
        have FN11 : ∀ a, a ≠ m + 1 → (ag_upd N9 (m + 1) (31 + s) 0) a = N a := fun a ha => (ag_upd_ne ha).trans (FN9 a ha)
        generalize ag_upd N9 (m + 1) (31 + s) 0 = N11 at *
        refine AR.endV rfl rfl ?_
        have u1 : m_pu P x 0 s = m_set (m_set P (m_ahead s x 1) (P s)) s (-1) := by unfold m_pu; first | exact if_pos (by omega) | exact if_neg (by omega)
        have u2 : m_pgn P x 0 s gn = gn := by have u3 : m_pl P x 0 s = -1 := (by unfold m_pl; exact if_neg (by omega)); unfold m_pgn; rw [u3]; exact if_neg (by omega)
        rw [u1, u2]
        exact ⟨_, rfl, RN11, ZN11, KN11, FN11⟩
      · show AR E d _ (47, [some (vA m), some (vI s), some (vI x), some (vI w), some (vI (m_ahead s x 1))], [], (C, N5)) _
        refine AR.blk 1 (f' := (48, [some (vA m), some (vI s), some (vI x), some (vI w), some (vI (m_ahead s x 1))], [vA m], (C, N5))) (fun _ => rfl) ?_
        refine AR.getR rfl rfl hm.1 (by decide) rfl ?_
        refine AR.blk 3 (f' := (55, [some (vA m), some (vI s), some (vI x), some (vI w), some (vI (m_ahead s x 1))], [vI s, vA m, vI 8, vA (m + 1)], (C, N5))) (fun _ => rfl) ?_
        refine AR.callV [vI s] (ev_X7_sideAt (by omega) hm RN5 hw s (by omega)) hm.1 rfl rfl rfl rfl rfl ?_
        show AR E d _ (58, [some (vA m), some (vI s), some (vI x), some (vI w), some (vI (m_ahead s x 1))], [vI (m_own (P s)), vI 8, vA (m + 1)], (C, N5)) _
        have f12 := m_own_in (P s) (hw.1 s)
        have f13 := hw.1 s
        refine AR.blk 2 (f' := (60, [some (vA m), some (vI s), some (vI x), some (vI w), some (vI (m_ahead s x 1))], [vI (8 + (m_own (P s))), vA (m + 1), vI (8 + (m_own (P s))), vA (m + 1)], (C, N5))) (fun _ => rfl) ?_
        refine AR.iald rfl hm.2.1 (by omega) (v := gn (m_own (P s))) (m_two 8 ZN5.2.2.2.2.2.2.1.1 ZN5.2.2.2.2.2.2.1.2 (by omega)) ?_
        refine AR.blk 2 (f' := (63, [some (vA m), some (vI s), some (vI x), some (vI w), some (vI (m_ahead s x 1))], [vI ((gn (m_own (P s))) + 1), vI (8 + (m_own (P s))), vA (m + 1)], (C, N5))) (fun _ => rfl) ?_
        refine AR.iast rfl hm.2.1 (by omega) ?_
        show AR E d _ (64, [some (vA m), some (vI s), some (vI x), some (vI w), some (vI (m_ahead s x 1))], [], (C, ag_upd N5 (m + 1) (8 + (m_own (P s))) ((gn (m_own (P s))) + 1))) _
        have RN15 := g_rR_fr RN5 (R' := (ag_upd N5 (m + 1) (8 + (m_own (P s))) ((gn (m_own (P s))) + 1)) (m + 1)) (fun i z0 z1 => ag_upd_nk (by omega))
        have ZN15 := g_rZ_gn ZN5 (m_own (P s)) ((gn (m_own (P s))) + 1) (by omega)
        have KN15 : ∀ i, 6 ≤ i ∧ i < 8 ∨ 67 ≤ i → (ag_upd N5 (m + 1) (8 + (m_own (P s))) ((gn (m_own (P s))) + 1)) (m + 1) i = N (m + 1) i := fun i hi => (ag_upd_nk (by omega)).trans (KN5 i hi)
        have FN15 : ∀ a, a ≠ m + 1 → (ag_upd N5 (m + 1) (8 + (m_own (P s))) ((gn (m_own (P s))) + 1)) a = N a := fun a ha => (ag_upd_ne ha).trans (FN5 a ha)
        generalize ag_upd N5 (m + 1) (8 + (m_own (P s))) ((gn (m_own (P s))) + 1) = N15 at *
        refine AR.blk 2 (f' := (83, [some (vA m), some (vI s), some (vI x), some (vI w), some (vI (m_ahead s x 1))], [vA m], (C, N15))) (fun _ => rfl) ?_
        refine AR.getR rfl rfl hm.1 (by decide) rfl ?_
        refine AR.blk 4 (f' := (91, [some (vA m), some (vI s), some (vI x), some (vI w), some (vI (m_ahead s x 1))], [vI 0, vI (31 + s), vA (m + 1)], (C, N15))) (fun _ => rfl) ?_
        refine AR.iast rfl hm.2.1 (by omega) ?_
        show AR E d _ (92, [some (vA m), some (vI s), some (vI x), some (vI w), some (vI (m_ahead s x 1))], [], (C, ag_upd N15 (m + 1) (31 + s) 0)) _
        have WN17 := g_wB_set hw (show 0 ≤ s ∧ s < 36 by omega) (show -1 ≤ (-1) ∧ (-1) ≤ 3 by omega)
        have RN17 := g_rR_set RN15 s (-1) 0 (by omega) (by omega)
        have ZN17 := g_rZ_fr ZN15 (R' := (ag_upd N15 (m + 1) (31 + s) 0) (m + 1)) (fun i z0 z1 => ag_upd_nk (by omega))
        have KN17 : ∀ i, 6 ≤ i ∧ i < 8 ∨ 67 ≤ i → (ag_upd N15 (m + 1) (31 + s) 0) (m + 1) i = N (m + 1) i := fun i hi => (ag_upd_nk (by omega)).trans (KN15 i hi)
        have FN17 : ∀ a, a ≠ m + 1 → (ag_upd N15 (m + 1) (31 + s) 0) a = N a := fun a ha => (ag_upd_ne ha).trans (FN15 a ha)
        generalize ag_upd N15 (m + 1) (31 + s) 0 = N17 at *
        refine AR.endV rfl rfl ?_
        have u1 : m_pu P x 0 s = m_set P s (-1) := by unfold m_pu; first | exact if_pos (by omega) | exact if_neg (by omega)
        have u2 : m_pgn P x 0 s gn = m_set gn (m_own (P s)) ((gn (m_own (P s))) + 1) := by have u3 : m_pl P x 0 s = m_own (P s) := (by unfold m_pl; exact if_pos (by omega)); unfold m_pgn; rw [u3]; exact if_pos (by omega)
        rw [u1, u2]
        exact ⟨_, rfl, RN17, ZN17, KN17, FN17⟩
    · show AR E d _ (12, [some (vA m), some (vI s), some (vI x), some (vI w), some (vI (m_ahead s x 1))], [], (C, N)) _
      refine AR.blk 2 (f' := (15, [some (vA m), some (vI s), some (vI x), some (vI w), some (vI (m_ahead s x 1))], [vI (m_ahead s x 1), vA m], (C, N))) (fun _ => rfl) ?_
      refine AR.callV [vI (m_ahead s x 1)] (ev_X7_pieceAt (by omega) hm hr hw (m_ahead s x 1) (by omega)) hm.1 rfl rfl rfl rfl rfl ?_
      show AR E d _ (18, [some (vA m), some (vI s), some (vI x), some (vI w), some (vI (m_ahead s x 1))], [vI (P (m_ahead s x 1) + 1)], (C, N)) _
      have f18 := hw.1 (m_ahead s x 1)
      refine AR.if_le rfl (by omega) (fun c19 => ?_) (fun c19 => ?_)
      · show AR E d _ (29, [some (vA m), some (vI s), some (vI x), some (vI w), some (vI (m_ahead s x 1))], [], (C, N)) _
        refine AR.blk 1 (f' := (30, [some (vA m), some (vI s), some (vI x), some (vI w), some (vI (m_ahead s x 1))], [vA m], (C, N))) (fun _ => rfl) ?_
        refine AR.getR rfl rfl hm.1 (by decide) rfl ?_
        refine AR.blk 4 (f' := (38, [some (vA m), some (vI s), some (vI x), some (vI w), some (vI (m_ahead s x 1))], [vI (10 + w), vA (m + 1), vI (10 + w), vA (m + 1)], (C, N))) (fun _ => rfl) ?_
        refine AR.iald rfl hm.2.1 (by omega) (v := pu w) (m_two 10 hz.2.2.2.2.2.2.2.1.1 hz.2.2.2.2.2.2.2.1.2 (by omega)) ?_
        refine AR.blk 2 (f' := (41, [some (vA m), some (vI s), some (vI x), some (vI w), some (vI (m_ahead s x 1))], [vI ((pu w) + 1), vI (10 + w), vA (m + 1)], (C, N))) (fun _ => rfl) ?_
        refine AR.iast rfl hm.2.1 (by omega) ?_
        show AR E d _ (42, [some (vA m), some (vI s), some (vI x), some (vI w), some (vI (m_ahead s x 1))], [], (C, ag_upd N (m + 1) (10 + w) ((pu w) + 1))) _
        have RN21 := g_rR_fr hr (R' := (ag_upd N (m + 1) (10 + w) ((pu w) + 1)) (m + 1)) (fun i z0 z1 => ag_upd_nk (by omega))
        have ZN21 := g_rZ_pu hz w ((pu w) + 1) (by omega)
        have KN21 : ∀ i, 6 ≤ i ∧ i < 8 ∨ 67 ≤ i → (ag_upd N (m + 1) (10 + w) ((pu w) + 1)) (m + 1) i = N (m + 1) i := fun i hi => (ag_upd_nk (by omega)).trans ((fun _ _ => rfl) i hi)
        have FN21 : ∀ a, a ≠ m + 1 → (ag_upd N (m + 1) (10 + w) ((pu w) + 1)) a = N a := fun a ha => (ag_upd_ne ha).trans ((fun _ _ => rfl) a ha)
        generalize ag_upd N (m + 1) (10 + w) ((pu w) + 1) = N21 at *
        refine AR.blk 1 (f' := (44, [some (vA m), some (vI s), some (vI x), some (vI w), some (vI (m_ahead s x 1))], [vI (m_ahead s x 1)], (C, N21))) (fun _ => rfl) ?_
        refine AR.if_ge rfl (by omega) (fun c22 => ?_) (fun c22 => ?_)
        · show AR E d _ (67, [some (vA m), some (vI s), some (vI x), some (vI w), some (vI (m_ahead s x 1))], [], (C, N21)) _
          refine AR.blk 1 (f' := (68, [some (vA m), some (vI s), some (vI x), some (vI w), some (vI (m_ahead s x 1))], [vA m], (C, N21))) (fun _ => rfl) ?_
          refine AR.getR rfl rfl hm.1 (by decide) rfl ?_
          refine AR.blk 5 (f' := (78, [some (vA m), some (vI s), some (vI x), some (vI w), some (vI (m_ahead s x 1))], [vI s, vA m, vI (31 + (m_ahead s x 1)), vA (m + 1)], (C, N21))) (fun _ => rfl) ?_
          refine AR.callV [vI s] (ev_X7_pieceAt (by omega) hm RN21 hw s (by omega)) hm.1 rfl rfl rfl rfl rfl ?_
          show AR E d _ (81, [some (vA m), some (vI s), some (vI x), some (vI w), some (vI (m_ahead s x 1))], [vI (P s + 1), vI (31 + (m_ahead s x 1)), vA (m + 1)], (C, N21)) _
          have f23 := hw.1 s
          refine AR.iast rfl hm.2.1 (by omega) ?_
          show AR E d _ (82, [some (vA m), some (vI s), some (vI x), some (vI w), some (vI (m_ahead s x 1))], [], (C, ag_upd N21 (m + 1) (31 + (m_ahead s x 1)) (P s + 1))) _
          have WN25 := g_wB_set hw (show 0 ≤ (m_ahead s x 1) ∧ (m_ahead s x 1) < 36 by omega) (show -1 ≤ (P s) ∧ (P s) ≤ 3 by omega)
          have RN25 := g_rR_set RN21 (m_ahead s x 1) (P s) (P s + 1) (by omega) (by omega)
          have ZN25 := g_rZ_fr ZN21 (R' := (ag_upd N21 (m + 1) (31 + (m_ahead s x 1)) (P s + 1)) (m + 1)) (fun i z0 z1 => ag_upd_nk (by omega))
          have KN25 : ∀ i, 6 ≤ i ∧ i < 8 ∨ 67 ≤ i → (ag_upd N21 (m + 1) (31 + (m_ahead s x 1)) (P s + 1)) (m + 1) i = N (m + 1) i := fun i hi => (ag_upd_nk (by omega)).trans (KN21 i hi)
          have FN25 : ∀ a, a ≠ m + 1 → (ag_upd N21 (m + 1) (31 + (m_ahead s x 1)) (P s + 1)) a = N a := fun a ha => (ag_upd_ne ha).trans (FN21 a ha)
          generalize ag_upd N21 (m + 1) (31 + (m_ahead s x 1)) (P s + 1) = N25 at *
          refine AR.blk 1 (f' := (83, [some (vA m), some (vI s), some (vI x), some (vI w), some (vI (m_ahead s x 1))], [vA m], (C, N25))) (fun _ => rfl) ?_
          refine AR.getR rfl rfl hm.1 (by decide) rfl ?_
          refine AR.blk 4 (f' := (91, [some (vA m), some (vI s), some (vI x), some (vI w), some (vI (m_ahead s x 1))], [vI 0, vI (31 + s), vA (m + 1)], (C, N25))) (fun _ => rfl) ?_
          refine AR.iast rfl hm.2.1 (by omega) ?_
          show AR E d _ (92, [some (vA m), some (vI s), some (vI x), some (vI w), some (vI (m_ahead s x 1))], [], (C, ag_upd N25 (m + 1) (31 + s) 0)) _
          have WN27 := g_wB_set WN25 (show 0 ≤ s ∧ s < 36 by omega) (show -1 ≤ (-1) ∧ (-1) ≤ 3 by omega)
          have RN27 := g_rR_set RN25 s (-1) 0 (by omega) (by omega)
          have ZN27 := g_rZ_fr ZN25 (R' := (ag_upd N25 (m + 1) (31 + s) 0) (m + 1)) (fun i z0 z1 => ag_upd_nk (by omega))
          have KN27 : ∀ i, 6 ≤ i ∧ i < 8 ∨ 67 ≤ i → (ag_upd N25 (m + 1) (31 + s) 0) (m + 1) i = N (m + 1) i := fun i hi => (ag_upd_nk (by omega)).trans (KN25 i hi)
          have FN27 : ∀ a, a ≠ m + 1 → (ag_upd N25 (m + 1) (31 + s) 0) a = N a := fun a ha => (ag_upd_ne ha).trans (FN25 a ha)
          generalize ag_upd N25 (m + 1) (31 + s) 0 = N27 at *
          refine AR.endV rfl rfl ?_
          have u1 : m_pu P x 0 s = m_set (m_set P (m_ahead s x 1) (P s)) s (-1) := by unfold m_pu; first | exact if_pos (by omega) | exact if_neg (by omega)
          have u2 : m_pgn P x 0 s gn = gn := by have u3 : m_pl P x 0 s = -1 := (by unfold m_pl; exact if_neg (by omega)); unfold m_pgn; rw [u3]; exact if_neg (by omega)
          rw [u1, u2]
          exact ⟨_, rfl, RN27, ZN27, KN27, FN27⟩
        · show AR E d _ (47, [some (vA m), some (vI s), some (vI x), some (vI w), some (vI (m_ahead s x 1))], [], (C, N21)) _
          refine AR.blk 1 (f' := (48, [some (vA m), some (vI s), some (vI x), some (vI w), some (vI (m_ahead s x 1))], [vA m], (C, N21))) (fun _ => rfl) ?_
          refine AR.getR rfl rfl hm.1 (by decide) rfl ?_
          refine AR.blk 3 (f' := (55, [some (vA m), some (vI s), some (vI x), some (vI w), some (vI (m_ahead s x 1))], [vI s, vA m, vI 8, vA (m + 1)], (C, N21))) (fun _ => rfl) ?_
          refine AR.callV [vI s] (ev_X7_sideAt (by omega) hm RN21 hw s (by omega)) hm.1 rfl rfl rfl rfl rfl ?_
          show AR E d _ (58, [some (vA m), some (vI s), some (vI x), some (vI w), some (vI (m_ahead s x 1))], [vI (m_own (P s)), vI 8, vA (m + 1)], (C, N21)) _
          have f28 := m_own_in (P s) (hw.1 s)
          have f29 := hw.1 s
          refine AR.blk 2 (f' := (60, [some (vA m), some (vI s), some (vI x), some (vI w), some (vI (m_ahead s x 1))], [vI (8 + (m_own (P s))), vA (m + 1), vI (8 + (m_own (P s))), vA (m + 1)], (C, N21))) (fun _ => rfl) ?_
          refine AR.iald rfl hm.2.1 (by omega) (v := gn (m_own (P s))) (m_two 8 ZN21.2.2.2.2.2.2.1.1 ZN21.2.2.2.2.2.2.1.2 (by omega)) ?_
          refine AR.blk 2 (f' := (63, [some (vA m), some (vI s), some (vI x), some (vI w), some (vI (m_ahead s x 1))], [vI ((gn (m_own (P s))) + 1), vI (8 + (m_own (P s))), vA (m + 1)], (C, N21))) (fun _ => rfl) ?_
          refine AR.iast rfl hm.2.1 (by omega) ?_
          show AR E d _ (64, [some (vA m), some (vI s), some (vI x), some (vI w), some (vI (m_ahead s x 1))], [], (C, ag_upd N21 (m + 1) (8 + (m_own (P s))) ((gn (m_own (P s))) + 1))) _
          have RN31 := g_rR_fr RN21 (R' := (ag_upd N21 (m + 1) (8 + (m_own (P s))) ((gn (m_own (P s))) + 1)) (m + 1)) (fun i z0 z1 => ag_upd_nk (by omega))
          have ZN31 := g_rZ_gn ZN21 (m_own (P s)) ((gn (m_own (P s))) + 1) (by omega)
          have KN31 : ∀ i, 6 ≤ i ∧ i < 8 ∨ 67 ≤ i → (ag_upd N21 (m + 1) (8 + (m_own (P s))) ((gn (m_own (P s))) + 1)) (m + 1) i = N (m + 1) i := fun i hi => (ag_upd_nk (by omega)).trans (KN21 i hi)
          have FN31 : ∀ a, a ≠ m + 1 → (ag_upd N21 (m + 1) (8 + (m_own (P s))) ((gn (m_own (P s))) + 1)) a = N a := fun a ha => (ag_upd_ne ha).trans (FN21 a ha)
          generalize ag_upd N21 (m + 1) (8 + (m_own (P s))) ((gn (m_own (P s))) + 1) = N31 at *
          refine AR.blk 2 (f' := (83, [some (vA m), some (vI s), some (vI x), some (vI w), some (vI (m_ahead s x 1))], [vA m], (C, N31))) (fun _ => rfl) ?_
          refine AR.getR rfl rfl hm.1 (by decide) rfl ?_
          refine AR.blk 4 (f' := (91, [some (vA m), some (vI s), some (vI x), some (vI w), some (vI (m_ahead s x 1))], [vI 0, vI (31 + s), vA (m + 1)], (C, N31))) (fun _ => rfl) ?_
          refine AR.iast rfl hm.2.1 (by omega) ?_
          show AR E d _ (92, [some (vA m), some (vI s), some (vI x), some (vI w), some (vI (m_ahead s x 1))], [], (C, ag_upd N31 (m + 1) (31 + s) 0)) _
          have WN33 := g_wB_set hw (show 0 ≤ s ∧ s < 36 by omega) (show -1 ≤ (-1) ∧ (-1) ≤ 3 by omega)
          have RN33 := g_rR_set RN31 s (-1) 0 (by omega) (by omega)
          have ZN33 := g_rZ_fr ZN31 (R' := (ag_upd N31 (m + 1) (31 + s) 0) (m + 1)) (fun i z0 z1 => ag_upd_nk (by omega))
          have KN33 : ∀ i, 6 ≤ i ∧ i < 8 ∨ 67 ≤ i → (ag_upd N31 (m + 1) (31 + s) 0) (m + 1) i = N (m + 1) i := fun i hi => (ag_upd_nk (by omega)).trans (KN31 i hi)
          have FN33 : ∀ a, a ≠ m + 1 → (ag_upd N31 (m + 1) (31 + s) 0) a = N a := fun a ha => (ag_upd_ne ha).trans (FN31 a ha)
          generalize ag_upd N31 (m + 1) (31 + s) 0 = N33 at *
          refine AR.endV rfl rfl ?_
          have u1 : m_pu P x 0 s = m_set P s (-1) := by unfold m_pu; first | exact if_pos (by omega) | exact if_neg (by omega)
          have u2 : m_pgn P x 0 s gn = m_set gn (m_own (P s)) ((gn (m_own (P s))) + 1) := by have u3 : m_pl P x 0 s = m_own (P s) := (by unfold m_pl; exact if_pos (by omega)); unfold m_pgn; rw [u3]; exact if_pos (by omega)
          rw [u1, u2]
          exact ⟨_, rfl, RN33, ZN33, KN33, FN33⟩
      · show AR E d _ (21, [some (vA m), some (vI s), some (vI x), some (vI w), some (vI (m_ahead s x 1))], [], (C, N)) _
        exact False.elim (by omega)
  | succ k ih =>
    intro d hd N P gn pu hr hw hz s x w h0 h1 h2 h3 h4
    obtain ⟨d, rfl⟩ : ∃ j, d = j + 1 := ⟨d - 1, by omega⟩
    have y1 := m_std_S P s x h0 h1
    have y2 := m_std_in P s x h0
    have y3 := m_room_in s x h0
    have y4 := m_room_1 s x h0 h1
    refine Ev.introQ (M := ag_mX7_pushes) rfl rfl ?_
    show AR E d _ (0, [some (vA m), some (vI s), some (vI x), some (vI w), none], [], (C, N)) _
    refine AR.blk 2 (f' := (2, [some (vA m), some (vI s), some (vI x), some (vI w), none], [vI x, vI s], (C, N))) (fun _ => rfl) ?_
    refine AR.callS [vI s, vI x] (ev_X7_beside (by omega) s x (by omega) (by omega)) rfl rfl rfl rfl rfl ?_
    show AR E d _ (5, [some (vA m), some (vI s), some (vI x), some (vI w), none], [vI (m_ahead s x 1)], (C, N)) _
    have f1 := m_ah s x 1 (by omega) (by omega) (by omega)
    have f2 := m_room_in s x (by omega)
    refine AR.blk 2 (f' := (9, [some (vA m), some (vI s), some (vI x), some (vI w), some (vI (m_ahead s x 1))], [vI (m_ahead s x 1)], (C, N))) (fun _ => rfl) ?_
    refine AR.if_lt rfl (by omega) (fun c3 => ?_) (fun c3 => ?_)
    · show AR E d _ (29, [some (vA m), some (vI s), some (vI x), some (vI w), some (vI (m_ahead s x 1))], [], (C, N)) _
      exact False.elim (by omega)
    · show AR E d _ (12, [some (vA m), some (vI s), some (vI x), some (vI w), some (vI (m_ahead s x 1))], [], (C, N)) _
      refine AR.blk 2 (f' := (15, [some (vA m), some (vI s), some (vI x), some (vI w), some (vI (m_ahead s x 1))], [vI (m_ahead s x 1), vA m], (C, N))) (fun _ => rfl) ?_
      refine AR.callV [vI (m_ahead s x 1)] (ev_X7_pieceAt (by omega) hm hr hw (m_ahead s x 1) (by omega)) hm.1 rfl rfl rfl rfl rfl ?_
      show AR E d _ (18, [some (vA m), some (vI s), some (vI x), some (vI w), some (vI (m_ahead s x 1))], [vI (P (m_ahead s x 1) + 1)], (C, N)) _
      have f4 := hw.1 (m_ahead s x 1)
      refine AR.if_le rfl (by omega) (fun c5 => ?_) (fun c5 => ?_)
      · show AR E d _ (29, [some (vA m), some (vI s), some (vI x), some (vI w), some (vI (m_ahead s x 1))], [], (C, N)) _
        exact False.elim (by omega)
      · show AR E d _ (21, [some (vA m), some (vI s), some (vI x), some (vI w), some (vI (m_ahead s x 1))], [], (C, N)) _
        refine AR.blk 4 (f' := (26, [some (vA m), some (vI s), some (vI x), some (vI w), some (vI (m_ahead s x 1))], [vI w, vI x, vI (m_ahead s x 1), vA m], (C, N))) (fun _ => rfl) ?_
        obtain ⟨_, hE6, N7, rfl, hr8, hz9, hk10, hf11⟩ := ih (d := d) (by omega) hr hw hz (m_ahead s x 1) x w (by omega) (by omega) (by omega) (by omega) (by omega)
        have KN7 : ∀ i, 6 ≤ i ∧ i < 8 ∨ 67 ≤ i → N7 (m + 1) i = N (m + 1) i := fun i hi => (hk10 i hi).trans ((fun _ _ => rfl) i hi)
        have FN7 : ∀ a, a ≠ m + 1 → N7 a = N a := fun a ha => (hf11 a ha).trans ((fun _ _ => rfl) a ha)
        have WN7 := m_pu_w hw x (by omega) (k) (m_ahead s x 1) (by omega) (by omega)
        refine AR.callV [vI (m_ahead s x 1), vI x, vI w] hE6 hm.1 rfl rfl rfl rfl rfl ?_
        show AR E d _ (29, [some (vA m), some (vI s), some (vI x), some (vI w), some (vI (m_ahead s x 1))], [], (C, N7)) _
        refine AR.blk 1 (f' := (30, [some (vA m), some (vI s), some (vI x), some (vI w), some (vI (m_ahead s x 1))], [vA m], (C, N7))) (fun _ => rfl) ?_
        refine AR.getR rfl rfl hm.1 (by decide) rfl ?_
        refine AR.blk 4 (f' := (38, [some (vA m), some (vI s), some (vI x), some (vI w), some (vI (m_ahead s x 1))], [vI (10 + w), vA (m + 1), vI (10 + w), vA (m + 1)], (C, N7))) (fun _ => rfl) ?_
        refine AR.iald rfl hm.2.1 (by omega) (v := (m_set pu w (pu w + (k + 1))) w) (m_two 10 hz9.2.2.2.2.2.2.2.1.1 hz9.2.2.2.2.2.2.2.1.2 (by omega)) ?_
        refine AR.blk 2 (f' := (41, [some (vA m), some (vI s), some (vI x), some (vI w), some (vI (m_ahead s x 1))], [vI (((m_set pu w (pu w + (k + 1))) w) + 1), vI (10 + w), vA (m + 1)], (C, N7))) (fun _ => rfl) ?_
        refine AR.iast rfl hm.2.1 (by omega) ?_
        show AR E d _ (42, [some (vA m), some (vI s), some (vI x), some (vI w), some (vI (m_ahead s x 1))], [], (C, ag_upd N7 (m + 1) (10 + w) (((m_set pu w (pu w + (k + 1))) w) + 1))) _
        have RN13 := g_rR_fr hr8 (R' := (ag_upd N7 (m + 1) (10 + w) (((m_set pu w (pu w + (k + 1))) w) + 1)) (m + 1)) (fun i z0 z1 => ag_upd_nk (by omega))
        have ZN13 := g_rZ_pu hz9 w (((m_set pu w (pu w + (k + 1))) w) + 1) (by omega)
        have KN13 : ∀ i, 6 ≤ i ∧ i < 8 ∨ 67 ≤ i → (ag_upd N7 (m + 1) (10 + w) (((m_set pu w (pu w + (k + 1))) w) + 1)) (m + 1) i = N (m + 1) i := fun i hi => (ag_upd_nk (by omega)).trans (KN7 i hi)
        have FN13 : ∀ a, a ≠ m + 1 → (ag_upd N7 (m + 1) (10 + w) (((m_set pu w (pu w + (k + 1))) w) + 1)) a = N a := fun a ha => (ag_upd_ne ha).trans (FN7 a ha)
        generalize ag_upd N7 (m + 1) (10 + w) (((m_set pu w (pu w + (k + 1))) w) + 1) = N13 at *
        refine AR.blk 1 (f' := (44, [some (vA m), some (vI s), some (vI x), some (vI w), some (vI (m_ahead s x 1))], [vI (m_ahead s x 1)], (C, N13))) (fun _ => rfl) ?_
        refine AR.if_ge rfl (by omega) (fun c14 => ?_) (fun c14 => ?_)
        · show AR E d _ (67, [some (vA m), some (vI s), some (vI x), some (vI w), some (vI (m_ahead s x 1))], [], (C, N13)) _
          refine AR.blk 1 (f' := (68, [some (vA m), some (vI s), some (vI x), some (vI w), some (vI (m_ahead s x 1))], [vA m], (C, N13))) (fun _ => rfl) ?_
          refine AR.getR rfl rfl hm.1 (by decide) rfl ?_
          refine AR.blk 5 (f' := (78, [some (vA m), some (vI s), some (vI x), some (vI w), some (vI (m_ahead s x 1))], [vI s, vA m, vI (31 + (m_ahead s x 1)), vA (m + 1)], (C, N13))) (fun _ => rfl) ?_
          refine AR.callV [vI s] (ev_X7_pieceAt (by omega) hm RN13 WN7 s (by omega)) hm.1 rfl rfl rfl rfl rfl ?_
          show AR E d _ (81, [some (vA m), some (vI s), some (vI x), some (vI w), some (vI (m_ahead s x 1))], [vI ((m_pu P x k (m_ahead s x 1)) s + 1), vI (31 + (m_ahead s x 1)), vA (m + 1)], (C, N13)) _
          have f15 := WN7.1 s
          refine AR.iast rfl hm.2.1 (by omega) ?_
          show AR E d _ (82, [some (vA m), some (vI s), some (vI x), some (vI w), some (vI (m_ahead s x 1))], [], (C, ag_upd N13 (m + 1) (31 + (m_ahead s x 1)) ((m_pu P x k (m_ahead s x 1)) s + 1))) _
          have WN17 := g_wB_set WN7 (show 0 ≤ (m_ahead s x 1) ∧ (m_ahead s x 1) < 36 by omega) (show -1 ≤ ((m_pu P x k (m_ahead s x 1)) s) ∧ ((m_pu P x k (m_ahead s x 1)) s) ≤ 3 by omega)
          have RN17 := g_rR_set RN13 (m_ahead s x 1) ((m_pu P x k (m_ahead s x 1)) s) ((m_pu P x k (m_ahead s x 1)) s + 1) (by omega) (by omega)
          have ZN17 := g_rZ_fr ZN13 (R' := (ag_upd N13 (m + 1) (31 + (m_ahead s x 1)) ((m_pu P x k (m_ahead s x 1)) s + 1)) (m + 1)) (fun i z0 z1 => ag_upd_nk (by omega))
          have KN17 : ∀ i, 6 ≤ i ∧ i < 8 ∨ 67 ≤ i → (ag_upd N13 (m + 1) (31 + (m_ahead s x 1)) ((m_pu P x k (m_ahead s x 1)) s + 1)) (m + 1) i = N (m + 1) i := fun i hi => (ag_upd_nk (by omega)).trans (KN13 i hi)
          have FN17 : ∀ a, a ≠ m + 1 → (ag_upd N13 (m + 1) (31 + (m_ahead s x 1)) ((m_pu P x k (m_ahead s x 1)) s + 1)) a = N a := fun a ha => (ag_upd_ne ha).trans (FN13 a ha)
          generalize ag_upd N13 (m + 1) (31 + (m_ahead s x 1)) ((m_pu P x k (m_ahead s x 1)) s + 1) = N17 at *
          refine AR.blk 1 (f' := (83, [some (vA m), some (vI s), some (vI x), some (vI w), some (vI (m_ahead s x 1))], [vA m], (C, N17))) (fun _ => rfl) ?_
          refine AR.getR rfl rfl hm.1 (by decide) rfl ?_
          refine AR.blk 4 (f' := (91, [some (vA m), some (vI s), some (vI x), some (vI w), some (vI (m_ahead s x 1))], [vI 0, vI (31 + s), vA (m + 1)], (C, N17))) (fun _ => rfl) ?_
          refine AR.iast rfl hm.2.1 (by omega) ?_
          show AR E d _ (92, [some (vA m), some (vI s), some (vI x), some (vI w), some (vI (m_ahead s x 1))], [], (C, ag_upd N17 (m + 1) (31 + s) 0)) _
          have WN19 := g_wB_set WN17 (show 0 ≤ s ∧ s < 36 by omega) (show -1 ≤ (-1) ∧ (-1) ≤ 3 by omega)
          have RN19 := g_rR_set RN17 s (-1) 0 (by omega) (by omega)
          have ZN19 := g_rZ_fr ZN17 (R' := (ag_upd N17 (m + 1) (31 + s) 0) (m + 1)) (fun i z0 z1 => ag_upd_nk (by omega))
          have KN19 : ∀ i, 6 ≤ i ∧ i < 8 ∨ 67 ≤ i → (ag_upd N17 (m + 1) (31 + s) 0) (m + 1) i = N (m + 1) i := fun i hi => (ag_upd_nk (by omega)).trans (KN17 i hi)
          have FN19 : ∀ a, a ≠ m + 1 → (ag_upd N17 (m + 1) (31 + s) 0) a = N a := fun a ha => (ag_upd_ne ha).trans (FN17 a ha)
          generalize ag_upd N17 (m + 1) (31 + s) 0 = N19 at *
          refine AR.endV rfl rfl ?_
          have u1 : m_set pu w (pu w + (((k + 1 : Nat) : Int) + 1)) = m_set (m_set pu w (pu w + (k + 1))) w (((m_set pu w (pu w + (k + 1))) w) + 1) := by rw [m_set_set, m_set_at]; exact congrArg _ (by omega)
          rw [u1]
          exact ⟨_, rfl, RN19, ZN19, KN19, FN19⟩
        · show AR E d _ (47, [some (vA m), some (vI s), some (vI x), some (vI w), some (vI (m_ahead s x 1))], [], (C, N13)) _
          exact False.elim (by omega)
end L2m
