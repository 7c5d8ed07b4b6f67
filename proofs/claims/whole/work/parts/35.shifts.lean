/-! LEVEL 2: the model's shifts are the class's -/
theorem m_sh_neg (P : Int → Int) (s st : Int) (hst : st = 6 ∨ st = 1 ∨ st = -6 ∨ st = -1) : ∀ (j : Nat) (i : Int), i < 0 → m_sh P s st j (s + i * st) = P (s + i * st) := by
  intro j
  induction j with
  | zero =>
    intro i hi
    refine if_neg (fun e => ?_)
    have : i * st = 0 * st := by omega
    have := m_mul_inj hst this
    omega
  | succ j ih =>
    intro i hi
    show m_set (m_sh P s st j) (s + ((j : Int) + 1) * st) (P (s + j * st)) (s + i * st) = _
    unfold m_set
    rw [if_neg (fun e => ?_)]
    · exact ih i hi
    · have : i * st = ((j : Int) + 1) * st := by omega
      have := m_mul_inj hst this
      omega
theorem m_sh_back (P : Int → Int) (u st : Int) (hst : st = 6 ∨ st = 1 ∨ st = -6 ∨ st = -1) (J : Nat) : m_sh P (u + st) st J u = P u := by
  have h := m_sh_neg P (u + st) st hst J (-1) (by omega)
  rw [show u + st + -1 * st = u by rw [Int.neg_mul, Int.one_mul]; omega] at h
  exact h
theorem m_sh_one (P : Int → Int) (u st : Int) (hst : st = 6 ∨ st = 1 ∨ st = -6 ∨ st = -1) : ∀ J : Nat, m_set (m_set (m_sh P (u + st) st J) (u + st) (P u)) u (-1) = m_sh P u st (J + 1) := by
  intro J
  induction J with
  | zero =>
    show m_set (m_set (m_set P (u + st) (-1)) (u + st) (P u)) u (-1) = m_set (m_set P u (-1)) (u + (0 + 1) * st) (P (u + 0 * st))
    rw [m_set_set, Int.zero_mul, Int.add_zero, Int.zero_add, Int.one_mul]
    exact m_set_comm (by omega)
  | succ J ih =>
    have e1 : u + st + ((J : Int) + 1) * st = u + (((J + 1 : Nat) : Int) + 1) * st := by
      rw [Int.natCast_succ, Int.add_mul ((J : Int) + 1) 1 st, Int.one_mul]; omega
    have e2 : u + st + (J : Int) * st = u + ((J + 1 : Nat) : Int) * st := by
      rw [Int.natCast_succ, Int.add_mul (J : Int) 1 st, Int.one_mul]; omega
    have n1 : u + st ≠ u + (((J + 1 : Nat) : Int) + 1) * st := by
      intro e
      have : 1 * st = (((J + 1 : Nat) : Int) + 1) * st := by rw [Int.one_mul]; omega
      have := m_mul_inj hst this
      omega
    have n2 : u ≠ u + (((J + 1 : Nat) : Int) + 1) * st := by
      intro e
      have : 0 * st = (((J + 1 : Nat) : Int) + 1) * st := by rw [Int.zero_mul]; omega
      have := m_mul_inj hst this
      omega
    show m_set (m_set (m_set (m_sh P (u + st) st J) (u + st + ((J : Int) + 1) * st) (P (u + st + (J : Int) * st))) (u + st) (P u)) u (-1) = m_set (m_sh P u st (J + 1)) (u + (((J + 1 : Nat) : Int) + 1) * st) (P (u + ((J + 1 : Nat) : Int) * st))
    rw [e1, e2, m_set_comm n1, m_set_comm n2, ih]
theorem m_ah_1 (u x : Int) (hu : 0 ≤ u ∧ u < 36) (hx : 0 ≤ x ∧ x < 4) : m_ahead u x 1 = -1 ∧ m_room u x = 0 ∨ m_ahead u x 1 = u + m_step x ∧ 1 ≤ m_room u x ∧ 0 ≤ u + m_step x ∧ u + m_step x < 36 := by
  have h1 := m_ah u x 1 hu hx (by omega)
  have h2 := m_room_in u x hu
  have h3 : (1 : Int) * m_step x = m_step x := Int.one_mul _
  omega
theorem m_pu_mov (P : Int → Int) (x : Int) (hx : 0 ≤ x ∧ x < 4) : ∀ (k : Nat) (u : Int), 0 ≤ u ∧ u < 36 → (k : Int) = m_std P u x → m_pu P x k u = m_mov P u x := by
  intro k
  induction k with
  | zero =>
    intro u hu hk
    have h1 := m_ah_1 u x hu hx
    unfold m_pu m_mov m_far
    by_cases q : m_ahead u x 1 = -1
    · rw [if_pos q, if_neg (by omega), show (m_room u x).toNat = 0 by omega]
      rfl
    · rw [if_neg q, if_pos (by omega), show (m_std P u x + 1).toNat = 1 by omega]
      show _ = m_set (m_set P u (-1)) (u + (0 + 1) * m_step x) (P (u + 0 * m_step x))
      rw [show m_ahead u x 1 = u + m_step x by omega, Int.zero_mul, Int.add_zero, Int.zero_add, Int.one_mul]
      exact m_set_comm (by have := m_step_or x; omega)
  | succ k ih =>
    intro u hu hk
    have h1 := m_ah_1 u x hu hx
    have h2 := (m_std_S P u x hu hx).2 (by omega)
    have h3 := m_room_1 u x hu hx (by omega)
    have h4 := ih (m_ahead u x 1) (by omega) (by omega)
    have h6 := m_std_in P u x hu
    show m_set (m_set (m_pu P x k (m_ahead u x 1)) (m_ahead u x 1) (m_pu P x k (m_ahead u x 1) u)) u (-1) = _
    rw [h4]
    have h5 : m_far P u x = m_far P (m_ahead u x 1) x + 1 := by
      unfold m_far
      rw [h3, h2.2.2]
      omega
    have h7 : 0 ≤ m_far P (m_ahead u x 1) x := by
      unfold m_far
      rw [h3, h2.2.2]
      omega
    unfold m_mov
    rw [h5, show (m_far P (m_ahead u x 1) x + 1).toNat = (m_far P (m_ahead u x 1) x).toNat + 1 by omega, show m_ahead u x 1 = u + m_step x by omega, m_sh_back P u _ (m_step_or x), m_sh_one P u _ (m_step_or x)]
theorem m_mov_at (P : Int → Int) (s x : Int) (hs : 0 ≤ s ∧ s < 36) (hx : 0 ≤ x ∧ x < 4) (hr : 1 ≤ m_room s x) : m_mov P s x (m_ahead s x 1) = P s := by
  have h1 := m_ah_1 s x hs hx
  have h2 := m_std_in P s x hs
  have h3 : 1 ≤ m_far P s x := by unfold m_far; omega
  have key : ∀ J : Nat, m_sh P s (m_step x) (J + 1) (s + m_step x) = P s := by
    intro J
    rw [← m_sh_one P s _ (m_step_or x) J]
    have := m_step_or x
    unfold m_set
    rw [if_neg (by omega), if_pos rfl]
  have := key (m_far P s x - 1).toNat
  unfold m_mov
  rw [show (m_far P s x).toNat = (m_far P s x - 1).toNat + 1 by omega, show m_ahead s x 1 = s + m_step x by omega]
  exact this
theorem m_fr_ext (P P' : Int → Int) (s st : Int) (hst : st = 6 ∨ st = 1 ∨ st = -6 ∨ st = -1) (h : ∀ t, t ≠ s → P t = P' t) : ∀ (k : Nat) (c : Int), 0 ≤ c → m_fr P s st k c = m_fr P' s st k c := by
  intro k
  induction k with
  | zero => intro c _; rfl
  | succ k ih =>
    intro c hc
    have e : P (s + (c + 1) * st) = P' (s + (c + 1) * st) := h _ (fun e => by
      have : (c + 1) * st = 0 * st := by omega
      have := m_mul_inj hst this
      omega)
    unfold m_fr
    rw [e, ih (c + 1) (by omega)]
theorem m_std_set (P : Int → Int) (s x c : Int) : m_std (m_set P s c) s x = m_std P s x :=
  m_fr_ext _ _ s _ (m_step_or x) (fun _ ht => if_neg ht) _ _ (Int.le_refl 0)
theorem m_mov_pro (P : Int → Int) (s x c : Int) (hs : 0 ≤ s ∧ s < 36) (hx : 0 ≤ x ∧ x < 4) (hr : 1 ≤ m_room s x) : m_mov (m_set P s c) s x = m_set (m_mov P s x) (m_ahead s x 1) c := by
  have h1 := m_ah_1 s x hs hx
  have h2 := m_std_in P s x hs
  have h3 : 1 ≤ m_far P s x := by unfold m_far; omega
  have h4 : m_far (m_set P s c) s x = m_far P s x := by unfold m_far; rw [m_std_set]
  have hst := m_step_or x
  have key : ∀ J : Nat, m_sh (m_set P s c) s (m_step x) (J + 1) = m_set (m_sh P s (m_step x) (J + 1)) (s + m_step x) c := by
    intro J
    induction J with
    | zero =>
      show m_set (m_set (m_set P s c) s (-1)) (s + (0 + 1) * m_step x) (m_set P s c (s + 0 * m_step x)) = m_set (m_set (m_set P s (-1)) (s + (0 + 1) * m_step x) (P (s + 0 * m_step x))) (s + m_step x) c
      rw [m_set_set, Int.zero_mul, Int.add_zero, Int.zero_add, Int.one_mul, m_set_at, m_set_set]
    | succ J ih =>
      have n1 : s + ((J + 1 : Nat) : Int) * m_step x ≠ s := by
        intro e
        have : ((J + 1 : Nat) : Int) * m_step x = 0 * m_step x := by omega
        have := m_mul_inj hst this
        omega
      have n2 : s + m_step x ≠ s + (((J + 1 : Nat) : Int) + 1) * m_step x := by
        intro e
        have : 1 * m_step x = (((J + 1 : Nat) : Int) + 1) * m_step x := by rw [Int.one_mul]; omega
        have := m_mul_inj hst this
        omega
      show m_set (m_sh (m_set P s c) s (m_step x) (J + 1)) (s + (((J + 1 : Nat) : Int) + 1) * m_step x) (m_set P s c (s + ((J + 1 : Nat) : Int) * m_step x)) = m_set (m_set (m_sh P s (m_step x) (J + 1)) (s + (((J + 1 : Nat) : Int) + 1) * m_step x) (P (s + ((J + 1 : Nat) : Int) * m_step x))) (s + m_step x) c
      rw [ih, show m_set P s c (s + ((J + 1 : Nat) : Int) * m_step x) = P (s + ((J + 1 : Nat) : Int) * m_step x) from if_neg n1, m_set_comm n2]
  unfold m_mov
  rw [h4, show (m_far P s x).toNat = (m_far P s x - 1).toNat + 1 by omega, show m_ahead s x 1 = s + m_step x by omega]
  exact key _
theorem m_pl_own (P : Int → Int) (x : Int) (hx : 0 ≤ x ∧ x < 4) : ∀ (k : Nat) (u : Int), 0 ≤ u ∧ u < 36 → (k : Int) = m_std P u x → m_pl P x k u = m_own (m_held P u x) := by
  intro k
  induction k with
  | zero =>
    intro u hu hk
    have h1 := m_ah_1 u x hu hx
    unfold m_pl m_held
    by_cases q : m_ahead u x 1 = -1
    · rw [if_pos q, if_neg (by omega), show m_room u x = 0 by omega, Int.zero_mul, Int.add_zero]
    · rw [if_neg q, if_pos (by omega)]
      rfl
  | succ k ih =>
    intro u hu hk
    have h1 := m_ah_1 u x hu hx
    have h2 := (m_std_S P u x hu hx).2 (by omega)
    have h3 := m_room_1 u x hu hx (by omega)
    have h4 := ih (m_ahead u x 1) (by omega) (by omega)
    show m_pl P x k (m_ahead u x 1) = _
    rw [h4]
    unfold m_held
    rw [h3, h2.2.2]
    by_cases q : m_std P u x + 1 ≤ m_room u x
    · rw [if_pos q, if_pos (by omega)]
    · rw [if_neg q, if_neg (by omega)]
      refine congrArg (fun z => m_own (P z)) ?_
      rw [show m_ahead u x 1 = u + m_step x by omega, Int.sub_mul, Int.one_mul]
      omega
theorem m_held_set (P : Int → Int) (s x c : Int) (hr : 1 ≤ m_room s x) : m_held (m_set P s c) s x = m_held P s x := by
  unfold m_held
  rw [m_std_set]
  split
  · rfl
  · refine if_neg (fun e => ?_)
    have : m_room s x * m_step x = 0 * m_step x := by omega
    have := m_mul_inj (m_step_or x) this
    omega
section L2n
variable {E : Nat × (Int → Int)} {C : List ag_C} {N : Nat → Int → Int} {m : Nat} {P : Int → Int} {n : Int} {q p cl tn : Int → Int} {t sd ho bg en ca : Int} {gn pu mk : Int → Int}

def m_gpu2 (P : Int → Int) (pu : Int → Int) (s x : Int) : Int → Int := m_set pu (m_own (P s)) (pu (m_own (P s)) + m_std P s x)
def m_gmk2 (P : Int → Int) (mk : Int → Int) (s x : Int) : Int → Int := if m_prom P s x = 1 then m_set mk (m_own (P s)) (mk (m_own (P s)) + 1) else mk
theorem m_set_same (f : Int → Int) (w : Int) : m_set f w (f w) = f := by
  funext t
  unfold m_set
  by_cases e : t = w
  · rw [if_pos e, e]
  · rw [if_neg e]
theorem m_held_pro (P : Int → Int) (s x : Int) (hr : 1 ≤ m_room s x) : m_held (m_proP P s x) s x = m_held P s x := by
  unfold m_proP
  split
  · exact m_held_set P s x _ hr
  · rfl
theorem m_held_S (P : Int → Int) (s x : Int) (hs : 0 ≤ s ∧ s < 36) (hx : 0 ≤ x ∧ x < 4) (h : m_std P s x ≠ 0) : m_held P s x = m_held P (m_ahead s x 1) x := by
  have h1 := m_ah_1 s x hs hx
  have h2 := (m_std_S P s x hs hx).2 h
  have h3 := m_room_1 s x hs hx (by omega)
  unfold m_held
  rw [h3, h2.2.2]
  by_cases q : m_std P s x + 1 ≤ m_room s x
  · rw [if_pos q, if_pos (by omega)]
  · rw [if_neg q, if_neg (by omega)]
    refine congrArg P ?_
    rw [show m_ahead s x 1 = s + m_step x by omega, Int.sub_mul, Int.one_mul]
    omega

theorem ev_X7_shifts {d : Nat} (hd : 9 ≤ d) (hm : g_isM C m) (hr : g_rR (N (m + 1)) P n q p cl tn) (hw : g_wB P n q p cl tn) (hz : g_rZ (N (m + 1)) t sd ho bg en ca gn pu mk) (s x : Int) (h0 : 0 ≤ s ∧ s < 36) (h1 : 0 ≤ x ∧ x < 4) (h2 : P s ≠ -1) (h3 : 1 ≤ m_room s x) : ∃ o_, Ev E d 129 [vA m, vI s, vI x] (C, N) o_ ∧ g_QR C N m none (m_c1 P s x) n q p cl tn t sd ho bg en ca (m_ggn P gn s x) (m_gpu2 P pu s x) (m_gmk2 P mk s x) o_ := by
  obtain ⟨d, rfl⟩ : ∃ j, d = j + 1 := ⟨d - 1, by omega⟩
  have y0 := m_ah_1 s x h0 h1
  have y1 := m_std_S P s x h0 h1
  have y2 := m_std_in P s x h0
  have y3 := m_room_1 s x h0 h1
  have y5 := m_room_in s x h0
  have y6 := hw.1 s
  have y7 := m_step_or x
  refine Ev.introQ (M := ag_mX7_shifts) rfl rfl ?_
  show AR E d _ (0, [some (vA m), some (vI s), some (vI x), none, none], [], (C, N)) _
  refine AR.blk 2 (f' := (2, [some (vA m), some (vI s), some (vI x), none, none], [vI x, vI s], (C, N))) (fun _ => rfl) ?_
  refine AR.callS [vI s, vI x] (ev_X7_beside (by omega) s x (by omega) (by omega)) rfl rfl rfl rfl rfl ?_
  show AR E d _ (5, [some (vA m), some (vI s), some (vI x), none, none], [vI (m_ahead s x 1)], (C, N)) _
  have f1 := m_ah s x 1 (by omega) (by omega) (by omega)
  have f2 := m_room_in s x (by omega)
  refine AR.blk 3 (f' := (8, [some (vA m), some (vI s), some (vI x), some (vI (m_ahead s x 1)), none], [vI s, vA m], (C, N))) (fun _ => rfl) ?_
  refine AR.callV [vI s] (ev_X7_sideAt (by omega) hm hr hw s (by omega)) hm.1 rfl rfl rfl rfl rfl ?_
  show AR E d _ (11, [some (vA m), some (vI s), some (vI x), some (vI (m_ahead s x 1)), none], [vI (m_own (P s))], (C, N)) _
  have f3 := m_own_in (P s) (hw.1 s)
  have f4 := hw.1 s
  refine AR.blk 3 (f' := (15, [some (vA m), some (vI s), some (vI x), some (vI (m_ahead s x 1)), some (vI (m_own (P s)))], [vI (m_ahead s x 1), vA m], (C, N))) (fun _ => rfl) ?_
  refine AR.callV [vI (m_ahead s x 1)] (ev_X7_pieceAt (by omega) hm hr hw (m_ahead s x 1) (by omega)) hm.1 rfl rfl rfl rfl rfl ?_
  show AR E d _ (18, [some (vA m), some (vI s), some (vI x), some (vI (m_ahead s x 1)), some (vI (m_own (P s)))], [vI (P (m_ahead s x 1) + 1)], (C, N)) _
  have f5 := hw.1 (m_ahead s x 1)
  refine AR.if_le rfl (by omega) (fun c6 => ?_) (fun c6 => ?_)
  · show AR E d _ (29, [some (vA m), some (vI s), some (vI x), some (vI (m_ahead s x 1)), some (vI (m_own (P s)))], [], (C, N)) _
    refine AR.blk 1 (f' := (30, [some (vA m), some (vI s), some (vI x), some (vI (m_ahead s x 1)), some (vI (m_own (P s)))], [vA m], (C, N))) (fun _ => rfl) ?_
    refine AR.getR rfl rfl hm.1 (by decide) rfl ?_
    refine AR.blk 5 (f' := (39, [some (vA m), some (vI s), some (vI x), some (vI (m_ahead s x 1)), some (vI (m_own (P s)))], [vI s, vA m, vI (31 + (m_ahead s x 1)), vA (m + 1)], (C, N))) (fun _ => rfl) ?_
    refine AR.callV [vI s] (ev_X7_pieceAt (by omega) hm hr hw s (by omega)) hm.1 rfl rfl rfl rfl rfl ?_
    show AR E d _ (42, [some (vA m), some (vI s), some (vI x), some (vI (m_ahead s x 1)), some (vI (m_own (P s)))], [vI (P s + 1), vI (31 + (m_ahead s x 1)), vA (m + 1)], (C, N)) _
    have f7 := hw.1 s
    refine AR.iast rfl hm.2.1 (by omega) ?_
    show AR E d _ (43, [some (vA m), some (vI s), some (vI x), some (vI (m_ahead s x 1)), some (vI (m_own (P s)))], [], (C, ag_upd N (m + 1) (31 + (m_ahead s x 1)) (P s + 1))) _
    have WN9 := g_wB_set hw (show 0 ≤ (m_ahead s x 1) ∧ (m_ahead s x 1) < 36 by omega) (show -1 ≤ (P s) ∧ (P s) ≤ 3 by (first | omega | (unfold m_tug at *; omega)))
    have RN9 := g_rR_set hr (m_ahead s x 1) (P s) (P s + 1) (by omega) (by omega)
    have ZN9 := g_rZ_fr hz (R' := (ag_upd N (m + 1) (31 + (m_ahead s x 1)) (P s + 1)) (m + 1)) (fun i z0 z1 => ag_upd_nk (by omega))
    have KN9 : ∀ i, 6 ≤ i ∧ i < 8 ∨ 67 ≤ i → (ag_upd N (m + 1) (31 + (m_ahead s x 1)) (P s + 1)) (m + 1) i = N (m + 1) i := fun i hi => (ag_upd_nk (by omega)).trans ((fun _ _ => rfl) i hi)
    have FN9 : ∀ a, a ≠ m + 1 → (ag_upd N (m + 1) (31 + (m_ahead s x 1)) (P s + 1)) a = N a := fun a ha => (ag_upd_ne ha).trans ((fun _ _ => rfl) a ha)
    generalize ag_upd N (m + 1) (31 + (m_ahead s x 1)) (P s + 1) = N9 at *
    refine AR.blk 1 (f' := (44, [some (vA m), some (vI s), some (vI x), some (vI (m_ahead s x 1)), some (vI (m_own (P s)))], [vA m], (C, N9))) (fun _ => rfl) ?_
    refine AR.getR rfl rfl hm.1 (by decide) rfl ?_
    refine AR.blk 4 (f' := (52, [some (vA m), some (vI s), some (vI x), some (vI (m_ahead s x 1)), some (vI (m_own (P s)))], [vI 0, vI (31 + s), vA (m + 1)], (C, N9))) (fun _ => rfl) ?_
    refine AR.iast rfl hm.2.1 (by omega) ?_
    show AR E d _ (53, [some (vA m), some (vI s), some (vI x), some (vI (m_ahead s x 1)), some (vI (m_own (P s)))], [], (C, ag_upd N9 (m + 1) (31 + s) 0)) _
    have WN11 := g_wB_set WN9 (show 0 ≤ s ∧ s < 36 by omega) (show -1 ≤ (-1) ∧ (-1) ≤ 3 by (first | omega | (unfold m_tug at *; omega)))
    have RN11 := g_rR_set RN9 s (-1) 0 (by omega) (by omega)
    have ZN11 := g_rZ_fr ZN9 (R' := (ag_upd N9 (m + 1) (31 + s) 0) (m + 1)) (fun i z0 z1 => ag_upd_nk (by omega))
    have KN11 : ∀ i, 6 ≤ i ∧ i < 8 ∨ 67 ≤ i → (ag_upd N9 (m + 1) (31 + s) 0) (m + 1) i = N (m + 1) i := fun i hi => (ag_upd_nk (by omega)).trans (KN9 i hi)
    have FN11 : ∀ a, a ≠ m + 1 → (ag_upd N9 (m + 1) (31 + s) 0) a = N a := fun a ha => (ag_upd_ne ha).trans (FN9 a ha)
    generalize ag_upd N9 (m + 1) (31 + s) 0 = N11 at *
    have eP : m_set (m_set P (m_ahead s x 1) (P s)) s (-1) = m_mov P s x := by rw [← m_pu_mov P x h1 0 s h0 (by omega)]; exact (if_neg (by omega)).symm
    rw [eP] at RN11 WN11
    have sa := m_mov_at P s x h0 h1 h3
    have sb : m_tug (m_mov P s x (m_ahead s x 1)) = m_tug (P s) := by rw [sa]
    have eG : gn = m_ggn P gn s x := by unfold m_ggn; rw [m_held_pro P s x h3, show m_held P s x = -1 from if_pos (by omega)]; rfl
    have eU : pu = m_gpu2 P pu s x := by unfold m_gpu2; rw [show m_std P s x = 0 by omega, Int.add_zero]; exact (m_set_same pu _).symm
    rw [eG, eU] at ZN11
    refine AR.blk 2 (f' := (55, [some (vA m), some (vI s), some (vI x), some (vI (m_ahead s x 1)), some (vI (m_own (P s)))], [vI (m_ahead s x 1), vA m], (C, N11))) (fun _ => rfl) ?_
    refine AR.callV [vI (m_ahead s x 1)] (ev_X7_kindAt (by omega) hm RN11 WN11 (m_ahead s x 1) (by omega) (by omega)) hm.1 rfl rfl rfl rfl rfl ?_
    show AR E d _ (58, [some (vA m), some (vI s), some (vI x), some (vI (m_ahead s x 1)), some (vI (m_own (P s)))], [vI (m_tug ((m_mov P s x) (m_ahead s x 1)))], (C, N11)) _
    have f12 := m_tug_in ((m_mov P s x) (m_ahead s x 1))
    refine AR.if_ne rfl (by omega) (fun c13 => ?_) (fun c13 => ?_)
    · show AR E d _ (105, [some (vA m), some (vI s), some (vI x), some (vI (m_ahead s x 1)), some (vI (m_own (P s)))], [], (C, N11)) _
      refine AR.endV rfl rfl ?_
      have eM : m_prom P s x = 0 := by unfold m_prom; omega
      have e1 : m_mov (m_proP P s x) s x = m_mov P s x := congrArg (fun z => m_mov z s x) (if_neg (by omega))
      have e2 : m_gmk2 P mk s x = mk := if_neg (by omega)
      unfold m_c1
      rw [e1, e2]
      exact ⟨_, rfl, RN11, ZN11, KN11, FN11⟩
    · show AR E d _ (61, [some (vA m), some (vI s), some (vI x), some (vI (m_ahead s x 1)), some (vI (m_own (P s)))], [], (C, N11)) _
      refine AR.blk 2 (f' := (64, [some (vA m), some (vI s), some (vI x), some (vI (m_ahead s x 1)), some (vI (m_own (P s)))], [vI 6, vI (m_ahead s x 1)], (C, N11))) (fun _ => rfl) ?_
      refine AR.idiv rfl (by omega) ?_
      refine AR.blk 1 (f' := (67, [some (vA m), some (vI s), some (vI x), some (vI (m_ahead s x 1)), some (vI (m_own (P s)))], [vI (m_own (P s)), vI ((m_ahead s x 1) / 6)], (C, N11))) (fun _ => rfl) ?_
      refine AR.if_ne rfl (by omega) (fun c14 => ?_) (fun c14 => ?_)
      · show AR E d _ (74, [some (vA m), some (vI s), some (vI x), some (vI (m_ahead s x 1)), some (vI (m_own (P s)))], [vI ((m_ahead s x 1) / 6)], (C, N11)) _
        refine AR.blk 1 (f' := (75, [some (vA m), some (vI s), some (vI x), some (vI (m_ahead s x 1)), some (vI (m_own (P s)))], [vI 0, vI ((m_ahead s x 1) / 6)], (C, N11))) (fun _ => rfl) ?_
        refine AR.ic_ne rfl (by omega) (fun c15 => ?_) (fun c15 => ?_)
        · show AR E d _ (105, [some (vA m), some (vI s), some (vI x), some (vI (m_ahead s x 1)), some (vI (m_own (P s)))], [], (C, N11)) _
          refine AR.endV rfl rfl ?_
          have eM : m_prom P s x = 0 := by unfold m_prom; omega
          have e1 : m_mov (m_proP P s x) s x = m_mov P s x := congrArg (fun z => m_mov z s x) (if_neg (by omega))
          have e2 : m_gmk2 P mk s x = mk := if_neg (by omega)
          unfold m_c1
          rw [e1, e2]
          exact ⟨_, rfl, RN11, ZN11, KN11, FN11⟩
        · show AR E d _ (78, [some (vA m), some (vI s), some (vI x), some (vI (m_ahead s x 1)), some (vI (m_own (P s)))], [], (C, N11)) _
          refine AR.blk 1 (f' := (79, [some (vA m), some (vI s), some (vI x), some (vI (m_ahead s x 1)), some (vI (m_own (P s)))], [vA m], (C, N11))) (fun _ => rfl) ?_
          refine AR.getR rfl rfl hm.1 (by decide) rfl ?_
          refine AR.blk 4 (f' := (87, [some (vA m), some (vI s), some (vI x), some (vI (m_ahead s x 1)), some (vI (m_own (P s)))], [vI (31 + (m_ahead s x 1)), vA (m + 1), vI (31 + (m_ahead s x 1)), vA (m + 1)], (C, N11))) (fun _ => rfl) ?_
          have f16 := WN11.1 (m_ahead s x 1)
          refine AR.iald rfl hm.2.1 (by omega) (v := (m_mov P s x) (m_ahead s x 1) + 1) (RN11.1 _ (by omega) (by omega)) ?_
          refine AR.blk 2 (f' := (90, [some (vA m), some (vI s), some (vI x), some (vI (m_ahead s x 1)), some (vI (m_own (P s)))], [vI (((m_mov P s x) (m_ahead s x 1) + 1) + 1), vI (31 + (m_ahead s x 1)), vA (m + 1)], (C, N11))) (fun _ => rfl) ?_
          refine AR.iast rfl hm.2.1 (by omega) ?_
          show AR E d _ (91, [some (vA m), some (vI s), some (vI x), some (vI (m_ahead s x 1)), some (vI (m_own (P s)))], [], (C, ag_upd N11 (m + 1) (31 + (m_ahead s x 1)) (((m_mov P s x) (m_ahead s x 1) + 1) + 1))) _
          have WN18 := g_wB_set WN11 (show 0 ≤ (m_ahead s x 1) ∧ (m_ahead s x 1) < 36 by omega) (show -1 ≤ ((m_mov P s x) (m_ahead s x 1) + 1) ∧ ((m_mov P s x) (m_ahead s x 1) + 1) ≤ 3 by (first | omega | (unfold m_tug at *; omega)))
          have RN18 := g_rR_set RN11 (m_ahead s x 1) ((m_mov P s x) (m_ahead s x 1) + 1) (((m_mov P s x) (m_ahead s x 1) + 1) + 1) (by omega) (by omega)
          have ZN18 := g_rZ_fr ZN11 (R' := (ag_upd N11 (m + 1) (31 + (m_ahead s x 1)) (((m_mov P s x) (m_ahead s x 1) + 1) + 1)) (m + 1)) (fun i z0 z1 => ag_upd_nk (by omega))
          have KN18 : ∀ i, 6 ≤ i ∧ i < 8 ∨ 67 ≤ i → (ag_upd N11 (m + 1) (31 + (m_ahead s x 1)) (((m_mov P s x) (m_ahead s x 1) + 1) + 1)) (m + 1) i = N (m + 1) i := fun i hi => (ag_upd_nk (by omega)).trans (KN11 i hi)
          have FN18 : ∀ a, a ≠ m + 1 → (ag_upd N11 (m + 1) (31 + (m_ahead s x 1)) (((m_mov P s x) (m_ahead s x 1) + 1) + 1)) a = N a := fun a ha => (ag_upd_ne ha).trans (FN11 a ha)
          generalize ag_upd N11 (m + 1) (31 + (m_ahead s x 1)) (((m_mov P s x) (m_ahead s x 1) + 1) + 1) = N18 at *
          refine AR.blk 1 (f' := (92, [some (vA m), some (vI s), some (vI x), some (vI (m_ahead s x 1)), some (vI (m_own (P s)))], [vA m], (C, N18))) (fun _ => rfl) ?_
          refine AR.getR rfl rfl hm.1 (by decide) rfl ?_
          refine AR.blk 4 (f' := (101, [some (vA m), some (vI s), some (vI x), some (vI (m_ahead s x 1)), some (vI (m_own (P s)))], [vI (12 + (m_own (P s))), vA (m + 1), vI (12 + (m_own (P s))), vA (m + 1)], (C, N18))) (fun _ => rfl) ?_
          refine AR.iald rfl hm.2.1 (by omega) (v := mk (m_own (P s))) (m_two 12 ZN18.2.2.2.2.2.2.2.2.1 ZN18.2.2.2.2.2.2.2.2.2 (by omega)) ?_
          refine AR.blk 2 (f' := (104, [some (vA m), some (vI s), some (vI x), some (vI (m_ahead s x 1)), some (vI (m_own (P s)))], [vI ((mk (m_own (P s))) + 1), vI (12 + (m_own (P s))), vA (m + 1)], (C, N18))) (fun _ => rfl) ?_
          refine AR.iast rfl hm.2.1 (by omega) ?_
          show AR E d _ (105, [some (vA m), some (vI s), some (vI x), some (vI (m_ahead s x 1)), some (vI (m_own (P s)))], [], (C, ag_upd N18 (m + 1) (12 + (m_own (P s))) ((mk (m_own (P s))) + 1))) _
          have RN20 := g_rR_fr RN18 (R' := (ag_upd N18 (m + 1) (12 + (m_own (P s))) ((mk (m_own (P s))) + 1)) (m + 1)) (fun i z0 z1 => ag_upd_nk (by omega))
          have ZN20 := g_rZ_mk ZN18 (m_own (P s)) ((mk (m_own (P s))) + 1) (by omega)
          have KN20 : ∀ i, 6 ≤ i ∧ i < 8 ∨ 67 ≤ i → (ag_upd N18 (m + 1) (12 + (m_own (P s))) ((mk (m_own (P s))) + 1)) (m + 1) i = N (m + 1) i := fun i hi => (ag_upd_nk (by omega)).trans (KN18 i hi)
          have FN20 : ∀ a, a ≠ m + 1 → (ag_upd N18 (m + 1) (12 + (m_own (P s))) ((mk (m_own (P s))) + 1)) a = N a := fun a ha => (ag_upd_ne ha).trans (FN18 a ha)
          generalize ag_upd N18 (m + 1) (12 + (m_own (P s))) ((mk (m_own (P s))) + 1) = N20 at *
          refine AR.endV rfl rfl ?_
          have eM : m_prom P s x = 1 := by unfold m_prom; omega
          have e1 : m_mov (m_proP P s x) s x = m_set (m_mov P s x) (m_ahead s x 1) (m_mov P s x (m_ahead s x 1) + 1) := by rw [sa, ← m_mov_pro P s x _ h0 h1 h3]; exact congrArg (fun z => m_mov z s x) (if_pos eM)
          have e2 : m_gmk2 P mk s x = m_set mk (m_own (P s)) (mk (m_own (P s)) + 1) := if_pos eM
          unfold m_c1
          rw [e1, e2]
          exact ⟨_, rfl, RN20, ZN20, KN20, FN20⟩
      · show AR E d _ (70, [some (vA m), some (vI s), some (vI x), some (vI (m_ahead s x 1)), some (vI (m_own (P s)))], [vI ((m_ahead s x 1) / 6)], (C, N11)) _
        refine AR.blk 2 (f' := (75, [some (vA m), some (vI s), some (vI x), some (vI (m_ahead s x 1)), some (vI (m_own (P s)))], [vI 5, vI ((m_ahead s x 1) / 6)], (C, N11))) (fun _ => rfl) ?_
        refine AR.ic_ne rfl (by omega) (fun c21 => ?_) (fun c21 => ?_)
        · show AR E d _ (105, [some (vA m), some (vI s), some (vI x), some (vI (m_ahead s x 1)), some (vI (m_own (P s)))], [], (C, N11)) _
          refine AR.endV rfl rfl ?_
          have eM : m_prom P s x = 0 := by unfold m_prom; omega
          have e1 : m_mov (m_proP P s x) s x = m_mov P s x := congrArg (fun z => m_mov z s x) (if_neg (by omega))
          have e2 : m_gmk2 P mk s x = mk := if_neg (by omega)
          unfold m_c1
          rw [e1, e2]
          exact ⟨_, rfl, RN11, ZN11, KN11, FN11⟩
        · show AR E d _ (78, [some (vA m), some (vI s), some (vI x), some (vI (m_ahead s x 1)), some (vI (m_own (P s)))], [], (C, N11)) _
          refine AR.blk 1 (f' := (79, [some (vA m), some (vI s), some (vI x), some (vI (m_ahead s x 1)), some (vI (m_own (P s)))], [vA m], (C, N11))) (fun _ => rfl) ?_
          refine AR.getR rfl rfl hm.1 (by decide) rfl ?_
          refine AR.blk 4 (f' := (87, [some (vA m), some (vI s), some (vI x), some (vI (m_ahead s x 1)), some (vI (m_own (P s)))], [vI (31 + (m_ahead s x 1)), vA (m + 1), vI (31 + (m_ahead s x 1)), vA (m + 1)], (C, N11))) (fun _ => rfl) ?_
          have f22 := WN11.1 (m_ahead s x 1)
          refine AR.iald rfl hm.2.1 (by omega) (v := (m_mov P s x) (m_ahead s x 1) + 1) (RN11.1 _ (by omega) (by omega)) ?_
          refine AR.blk 2 (f' := (90, [some (vA m), some (vI s), some (vI x), some (vI (m_ahead s x 1)), some (vI (m_own (P s)))], [vI (((m_mov P s x) (m_ahead s x 1) + 1) + 1), vI (31 + (m_ahead s x 1)), vA (m + 1)], (C, N11))) (fun _ => rfl) ?_
          refine AR.iast rfl hm.2.1 (by omega) ?_
          show AR E d _ (91, [some (vA m), some (vI s), some (vI x), some (vI (m_ahead s x 1)), some (vI (m_own (P s)))], [], (C, ag_upd N11 (m + 1) (31 + (m_ahead s x 1)) (((m_mov P s x) (m_ahead s x 1) + 1) + 1))) _
          have WN24 := g_wB_set WN11 (show 0 ≤ (m_ahead s x 1) ∧ (m_ahead s x 1) < 36 by omega) (show -1 ≤ ((m_mov P s x) (m_ahead s x 1) + 1) ∧ ((m_mov P s x) (m_ahead s x 1) + 1) ≤ 3 by (first | omega | (unfold m_tug at *; omega)))
          have RN24 := g_rR_set RN11 (m_ahead s x 1) ((m_mov P s x) (m_ahead s x 1) + 1) (((m_mov P s x) (m_ahead s x 1) + 1) + 1) (by omega) (by omega)
          have ZN24 := g_rZ_fr ZN11 (R' := (ag_upd N11 (m + 1) (31 + (m_ahead s x 1)) (((m_mov P s x) (m_ahead s x 1) + 1) + 1)) (m + 1)) (fun i z0 z1 => ag_upd_nk (by omega))
          have KN24 : ∀ i, 6 ≤ i ∧ i < 8 ∨ 67 ≤ i → (ag_upd N11 (m + 1) (31 + (m_ahead s x 1)) (((m_mov P s x) (m_ahead s x 1) + 1) + 1)) (m + 1) i = N (m + 1) i := fun i hi => (ag_upd_nk (by omega)).trans (KN11 i hi)
          have FN24 : ∀ a, a ≠ m + 1 → (ag_upd N11 (m + 1) (31 + (m_ahead s x 1)) (((m_mov P s x) (m_ahead s x 1) + 1) + 1)) a = N a := fun a ha => (ag_upd_ne ha).trans (FN11 a ha)
          generalize ag_upd N11 (m + 1) (31 + (m_ahead s x 1)) (((m_mov P s x) (m_ahead s x 1) + 1) + 1) = N24 at *
          refine AR.blk 1 (f' := (92, [some (vA m), some (vI s), some (vI x), some (vI (m_ahead s x 1)), some (vI (m_own (P s)))], [vA m], (C, N24))) (fun _ => rfl) ?_
          refine AR.getR rfl rfl hm.1 (by decide) rfl ?_
          refine AR.blk 4 (f' := (101, [some (vA m), some (vI s), some (vI x), some (vI (m_ahead s x 1)), some (vI (m_own (P s)))], [vI (12 + (m_own (P s))), vA (m + 1), vI (12 + (m_own (P s))), vA (m + 1)], (C, N24))) (fun _ => rfl) ?_
          refine AR.iald rfl hm.2.1 (by omega) (v := mk (m_own (P s))) (m_two 12 ZN24.2.2.2.2.2.2.2.2.1 ZN24.2.2.2.2.2.2.2.2.2 (by omega)) ?_
          refine AR.blk 2 (f' := (104, [some (vA m), some (vI s), some (vI x), some (vI (m_ahead s x 1)), some (vI (m_own (P s)))], [vI ((mk (m_own (P s))) + 1), vI (12 + (m_own (P s))), vA (m + 1)], (C, N24))) (fun _ => rfl) ?_
          refine AR.iast rfl hm.2.1 (by omega) ?_
          show AR E d _ (105, [some (vA m), some (vI s), some (vI x), some (vI (m_ahead s x 1)), some (vI (m_own (P s)))], [], (C, ag_upd N24 (m + 1) (12 + (m_own (P s))) ((mk (m_own (P s))) + 1))) _
          have RN26 := g_rR_fr RN24 (R' := (ag_upd N24 (m + 1) (12 + (m_own (P s))) ((mk (m_own (P s))) + 1)) (m + 1)) (fun i z0 z1 => ag_upd_nk (by omega))
          have ZN26 := g_rZ_mk ZN24 (m_own (P s)) ((mk (m_own (P s))) + 1) (by omega)
          have KN26 : ∀ i, 6 ≤ i ∧ i < 8 ∨ 67 ≤ i → (ag_upd N24 (m + 1) (12 + (m_own (P s))) ((mk (m_own (P s))) + 1)) (m + 1) i = N (m + 1) i := fun i hi => (ag_upd_nk (by omega)).trans (KN24 i hi)
          have FN26 : ∀ a, a ≠ m + 1 → (ag_upd N24 (m + 1) (12 + (m_own (P s))) ((mk (m_own (P s))) + 1)) a = N a := fun a ha => (ag_upd_ne ha).trans (FN24 a ha)
          generalize ag_upd N24 (m + 1) (12 + (m_own (P s))) ((mk (m_own (P s))) + 1) = N26 at *
          refine AR.endV rfl rfl ?_
          have eM : m_prom P s x = 1 := by unfold m_prom; omega
          have e1 : m_mov (m_proP P s x) s x = m_set (m_mov P s x) (m_ahead s x 1) (m_mov P s x (m_ahead s x 1) + 1) := by rw [sa, ← m_mov_pro P s x _ h0 h1 h3]; exact congrArg (fun z => m_mov z s x) (if_pos eM)
          have e2 : m_gmk2 P mk s x = m_set mk (m_own (P s)) (mk (m_own (P s)) + 1) := if_pos eM
          unfold m_c1
          rw [e1, e2]
          exact ⟨_, rfl, RN26, ZN26, KN26, FN26⟩
  · show AR E d _ (21, [some (vA m), some (vI s), some (vI x), some (vI (m_ahead s x 1)), some (vI (m_own (P s)))], [], (C, N)) _
    refine AR.blk 4 (f' := (26, [some (vA m), some (vI s), some (vI x), some (vI (m_ahead s x 1)), some (vI (m_own (P s)))], [vI (m_own (P s)), vI x, vI (m_ahead s x 1), vA m], (C, N))) (fun _ => rfl) ?_
    obtain ⟨_, hE27, N28, rfl, hr29, hz30, hk31, hf32⟩ := ev_X7_pushes (E := E) (d := d) hm (m_std P s x - 1).toNat (by omega) hr hw hz (m_ahead s x 1) x (m_own (P s)) (by omega) (by omega) (by omega) (by omega) (by omega)
    have KN28 : ∀ i, 6 ≤ i ∧ i < 8 ∨ 67 ≤ i → N28 (m + 1) i = N (m + 1) i := fun i hi => (hk31 i hi).trans ((fun _ _ => rfl) i hi)
    have FN28 : ∀ a, a ≠ m + 1 → N28 a = N a := fun a ha => (hf32 a ha).trans ((fun _ _ => rfl) a ha)
    have WN28 := m_pu_w hw x (by omega) ((m_std P s x - 1).toNat) (m_ahead s x 1) (by omega) (by omega)
    refine AR.callV [vI (m_ahead s x 1), vI x, vI (m_own (P s))] hE27 hm.1 rfl rfl rfl rfl rfl ?_
    show AR E d _ (29, [some (vA m), some (vI s), some (vI x), some (vI (m_ahead s x 1)), some (vI (m_own (P s)))], [], (C, N28)) _
    refine AR.blk 1 (f' := (30, [some (vA m), some (vI s), some (vI x), some (vI (m_ahead s x 1)), some (vI (m_own (P s)))], [vA m], (C, N28))) (fun _ => rfl) ?_
    refine AR.getR rfl rfl hm.1 (by decide) rfl ?_
    refine AR.blk 5 (f' := (39, [some (vA m), some (vI s), some (vI x), some (vI (m_ahead s x 1)), some (vI (m_own (P s)))], [vI s, vA m, vI (31 + (m_ahead s x 1)), vA (m + 1)], (C, N28))) (fun _ => rfl) ?_
    refine AR.callV [vI s] (ev_X7_pieceAt (by omega) hm hr29 WN28 s (by omega)) hm.1 rfl rfl rfl rfl rfl ?_
    show AR E d _ (42, [some (vA m), some (vI s), some (vI x), some (vI (m_ahead s x 1)), some (vI (m_own (P s)))], [vI ((m_pu P x (m_std P s x - 1).toNat (m_ahead s x 1)) s + 1), vI (31 + (m_ahead s x 1)), vA (m + 1)], (C, N28)) _
    have f33 := WN28.1 s
    refine AR.iast rfl hm.2.1 (by omega) ?_
    show AR E d _ (43, [some (vA m), some (vI s), some (vI x), some (vI (m_ahead s x 1)), some (vI (m_own (P s)))], [], (C, ag_upd N28 (m + 1) (31 + (m_ahead s x 1)) ((m_pu P x (m_std P s x - 1).toNat (m_ahead s x 1)) s + 1))) _
    have WN35 := g_wB_set WN28 (show 0 ≤ (m_ahead s x 1) ∧ (m_ahead s x 1) < 36 by omega) (show -1 ≤ ((m_pu P x (m_std P s x - 1).toNat (m_ahead s x 1)) s) ∧ ((m_pu P x (m_std P s x - 1).toNat (m_ahead s x 1)) s) ≤ 3 by (first | omega | (unfold m_tug at *; omega)))
    have RN35 := g_rR_set hr29 (m_ahead s x 1) ((m_pu P x (m_std P s x - 1).toNat (m_ahead s x 1)) s) ((m_pu P x (m_std P s x - 1).toNat (m_ahead s x 1)) s + 1) (by omega) (by omega)
    have ZN35 := g_rZ_fr hz30 (R' := (ag_upd N28 (m + 1) (31 + (m_ahead s x 1)) ((m_pu P x (m_std P s x - 1).toNat (m_ahead s x 1)) s + 1)) (m + 1)) (fun i z0 z1 => ag_upd_nk (by omega))
    have KN35 : ∀ i, 6 ≤ i ∧ i < 8 ∨ 67 ≤ i → (ag_upd N28 (m + 1) (31 + (m_ahead s x 1)) ((m_pu P x (m_std P s x - 1).toNat (m_ahead s x 1)) s + 1)) (m + 1) i = N (m + 1) i := fun i hi => (ag_upd_nk (by omega)).trans (KN28 i hi)
    have FN35 : ∀ a, a ≠ m + 1 → (ag_upd N28 (m + 1) (31 + (m_ahead s x 1)) ((m_pu P x (m_std P s x - 1).toNat (m_ahead s x 1)) s + 1)) a = N a := fun a ha => (ag_upd_ne ha).trans (FN28 a ha)
    generalize ag_upd N28 (m + 1) (31 + (m_ahead s x 1)) ((m_pu P x (m_std P s x - 1).toNat (m_ahead s x 1)) s + 1) = N35 at *
    refine AR.blk 1 (f' := (44, [some (vA m), some (vI s), some (vI x), some (vI (m_ahead s x 1)), some (vI (m_own (P s)))], [vA m], (C, N35))) (fun _ => rfl) ?_
    refine AR.getR rfl rfl hm.1 (by decide) rfl ?_
    refine AR.blk 4 (f' := (52, [some (vA m), some (vI s), some (vI x), some (vI (m_ahead s x 1)), some (vI (m_own (P s)))], [vI 0, vI (31 + s), vA (m + 1)], (C, N35))) (fun _ => rfl) ?_
    refine AR.iast rfl hm.2.1 (by omega) ?_
    show AR E d _ (53, [some (vA m), some (vI s), some (vI x), some (vI (m_ahead s x 1)), some (vI (m_own (P s)))], [], (C, ag_upd N35 (m + 1) (31 + s) 0)) _
    have WN37 := g_wB_set WN35 (show 0 ≤ s ∧ s < 36 by omega) (show -1 ≤ (-1) ∧ (-1) ≤ 3 by (first | omega | (unfold m_tug at *; omega)))
    have RN37 := g_rR_set RN35 s (-1) 0 (by omega) (by omega)
    have ZN37 := g_rZ_fr ZN35 (R' := (ag_upd N35 (m + 1) (31 + s) 0) (m + 1)) (fun i z0 z1 => ag_upd_nk (by omega))
    have KN37 : ∀ i, 6 ≤ i ∧ i < 8 ∨ 67 ≤ i → (ag_upd N35 (m + 1) (31 + s) 0) (m + 1) i = N (m + 1) i := fun i hi => (ag_upd_nk (by omega)).trans (KN35 i hi)
    have FN37 : ∀ a, a ≠ m + 1 → (ag_upd N35 (m + 1) (31 + s) 0) a = N a := fun a ha => (ag_upd_ne ha).trans (FN35 a ha)
    generalize ag_upd N35 (m + 1) (31 + s) 0 = N37 at *
    have eP : m_set (m_set (m_pu P x (m_std P s x - 1).toNat (m_ahead s x 1)) (m_ahead s x 1) ((m_pu P x (m_std P s x - 1).toNat (m_ahead s x 1)) s)) s (-1) = m_mov P s x := by rw [← m_pu_mov P x h1 ((m_std P s x - 1).toNat + 1) s h0 (by omega)]; rfl
    rw [eP] at RN37 WN37
    have sa := m_mov_at P s x h0 h1 h3
    have sb : m_tug (m_mov P s x (m_ahead s x 1)) = m_tug (P s) := by rw [sa]
    have eG : m_pgn P x (m_std P s x - 1).toNat (m_ahead s x 1) gn = m_ggn P gn s x := by unfold m_pgn m_ggn; rw [m_held_pro P s x h3, m_pl_own P x h1 _ _ (by omega) (by omega), ← m_held_S P s x h0 h1 (by omega)]
    have eU : m_set pu (m_own (P s)) (pu (m_own (P s)) + ((m_std P s x - 1).toNat + 1)) = m_gpu2 P pu s x := by unfold m_gpu2; exact congrArg _ (by omega)
    rw [eG, eU] at ZN37
    refine AR.blk 2 (f' := (55, [some (vA m), some (vI s), some (vI x), some (vI (m_ahead s x 1)), some (vI (m_own (P s)))], [vI (m_ahead s x 1), vA m], (C, N37))) (fun _ => rfl) ?_
    refine AR.callV [vI (m_ahead s x 1)] (ev_X7_kindAt (by omega) hm RN37 WN37 (m_ahead s x 1) (by omega) (by omega)) hm.1 rfl rfl rfl rfl rfl ?_
    show AR E d _ (58, [some (vA m), some (vI s), some (vI x), some (vI (m_ahead s x 1)), some (vI (m_own (P s)))], [vI (m_tug ((m_mov P s x) (m_ahead s x 1)))], (C, N37)) _
    have f38 := m_tug_in ((m_mov P s x) (m_ahead s x 1))
    refine AR.if_ne rfl (by omega) (fun c39 => ?_) (fun c39 => ?_)
    · show AR E d _ (105, [some (vA m), some (vI s), some (vI x), some (vI (m_ahead s x 1)), some (vI (m_own (P s)))], [], (C, N37)) _
      refine AR.endV rfl rfl ?_
      have eM : m_prom P s x = 0 := by unfold m_prom; omega
      have e1 : m_mov (m_proP P s x) s x = m_mov P s x := congrArg (fun z => m_mov z s x) (if_neg (by omega))
      have e2 : m_gmk2 P mk s x = mk := if_neg (by omega)
      unfold m_c1
      rw [e1, e2]
      exact ⟨_, rfl, RN37, ZN37, KN37, FN37⟩
    · show AR E d _ (61, [some (vA m), some (vI s), some (vI x), some (vI (m_ahead s x 1)), some (vI (m_own (P s)))], [], (C, N37)) _
      refine AR.blk 2 (f' := (64, [some (vA m), some (vI s), some (vI x), some (vI (m_ahead s x 1)), some (vI (m_own (P s)))], [vI 6, vI (m_ahead s x 1)], (C, N37))) (fun _ => rfl) ?_
      refine AR.idiv rfl (by omega) ?_
      refine AR.blk 1 (f' := (67, [some (vA m), some (vI s), some (vI x), some (vI (m_ahead s x 1)), some (vI (m_own (P s)))], [vI (m_own (P s)), vI ((m_ahead s x 1) / 6)], (C, N37))) (fun _ => rfl) ?_
      refine AR.if_ne rfl (by omega) (fun c40 => ?_) (fun c40 => ?_)
      · show AR E d _ (74, [some (vA m), some (vI s), some (vI x), some (vI (m_ahead s x 1)), some (vI (m_own (P s)))], [vI ((m_ahead s x 1) / 6)], (C, N37)) _
        refine AR.blk 1 (f' := (75, [some (vA m), some (vI s), some (vI x), some (vI (m_ahead s x 1)), some (vI (m_own (P s)))], [vI 0, vI ((m_ahead s x 1) / 6)], (C, N37))) (fun _ => rfl) ?_
        refine AR.ic_ne rfl (by omega) (fun c41 => ?_) (fun c41 => ?_)
        · show AR E d _ (105, [some (vA m), some (vI s), some (vI x), some (vI (m_ahead s x 1)), some (vI (m_own (P s)))], [], (C, N37)) _
          refine AR.endV rfl rfl ?_
          have eM : m_prom P s x = 0 := by unfold m_prom; omega
          have e1 : m_mov (m_proP P s x) s x = m_mov P s x := congrArg (fun z => m_mov z s x) (if_neg (by omega))
          have e2 : m_gmk2 P mk s x = mk := if_neg (by omega)
          unfold m_c1
          rw [e1, e2]
          exact ⟨_, rfl, RN37, ZN37, KN37, FN37⟩
        · show AR E d _ (78, [some (vA m), some (vI s), some (vI x), some (vI (m_ahead s x 1)), some (vI (m_own (P s)))], [], (C, N37)) _
          refine AR.blk 1 (f' := (79, [some (vA m), some (vI s), some (vI x), some (vI (m_ahead s x 1)), some (vI (m_own (P s)))], [vA m], (C, N37))) (fun _ => rfl) ?_
          refine AR.getR rfl rfl hm.1 (by decide) rfl ?_
          refine AR.blk 4 (f' := (87, [some (vA m), some (vI s), some (vI x), some (vI (m_ahead s x 1)), some (vI (m_own (P s)))], [vI (31 + (m_ahead s x 1)), vA (m + 1), vI (31 + (m_ahead s x 1)), vA (m + 1)], (C, N37))) (fun _ => rfl) ?_
          have f42 := WN37.1 (m_ahead s x 1)
          refine AR.iald rfl hm.2.1 (by omega) (v := (m_mov P s x) (m_ahead s x 1) + 1) (RN37.1 _ (by omega) (by omega)) ?_
          refine AR.blk 2 (f' := (90, [some (vA m), some (vI s), some (vI x), some (vI (m_ahead s x 1)), some (vI (m_own (P s)))], [vI (((m_mov P s x) (m_ahead s x 1) + 1) + 1), vI (31 + (m_ahead s x 1)), vA (m + 1)], (C, N37))) (fun _ => rfl) ?_
          refine AR.iast rfl hm.2.1 (by omega) ?_
          show AR E d _ (91, [some (vA m), some (vI s), some (vI x), some (vI (m_ahead s x 1)), some (vI (m_own (P s)))], [], (C, ag_upd N37 (m + 1) (31 + (m_ahead s x 1)) (((m_mov P s x) (m_ahead s x 1) + 1) + 1))) _
          have WN44 := g_wB_set WN37 (show 0 ≤ (m_ahead s x 1) ∧ (m_ahead s x 1) < 36 by omega) (show -1 ≤ ((m_mov P s x) (m_ahead s x 1) + 1) ∧ ((m_mov P s x) (m_ahead s x 1) + 1) ≤ 3 by (first | omega | (unfold m_tug at *; omega)))
          have RN44 := g_rR_set RN37 (m_ahead s x 1) ((m_mov P s x) (m_ahead s x 1) + 1) (((m_mov P s x) (m_ahead s x 1) + 1) + 1) (by omega) (by omega)
          have ZN44 := g_rZ_fr ZN37 (R' := (ag_upd N37 (m + 1) (31 + (m_ahead s x 1)) (((m_mov P s x) (m_ahead s x 1) + 1) + 1)) (m + 1)) (fun i z0 z1 => ag_upd_nk (by omega))
          have KN44 : ∀ i, 6 ≤ i ∧ i < 8 ∨ 67 ≤ i → (ag_upd N37 (m + 1) (31 + (m_ahead s x 1)) (((m_mov P s x) (m_ahead s x 1) + 1) + 1)) (m + 1) i = N (m + 1) i := fun i hi => (ag_upd_nk (by omega)).trans (KN37 i hi)
          have FN44 : ∀ a, a ≠ m + 1 → (ag_upd N37 (m + 1) (31 + (m_ahead s x 1)) (((m_mov P s x) (m_ahead s x 1) + 1) + 1)) a = N a := fun a ha => (ag_upd_ne ha).trans (FN37 a ha)
          generalize ag_upd N37 (m + 1) (31 + (m_ahead s x 1)) (((m_mov P s x) (m_ahead s x 1) + 1) + 1) = N44 at *
          refine AR.blk 1 (f' := (92, [some (vA m), some (vI s), some (vI x), some (vI (m_ahead s x 1)), some (vI (m_own (P s)))], [vA m], (C, N44))) (fun _ => rfl) ?_
          refine AR.getR rfl rfl hm.1 (by decide) rfl ?_
          refine AR.blk 4 (f' := (101, [some (vA m), some (vI s), some (vI x), some (vI (m_ahead s x 1)), some (vI (m_own (P s)))], [vI (12 + (m_own (P s))), vA (m + 1), vI (12 + (m_own (P s))), vA (m + 1)], (C, N44))) (fun _ => rfl) ?_
          refine AR.iald rfl hm.2.1 (by omega) (v := mk (m_own (P s))) (m_two 12 ZN44.2.2.2.2.2.2.2.2.1 ZN44.2.2.2.2.2.2.2.2.2 (by omega)) ?_
          refine AR.blk 2 (f' := (104, [some (vA m), some (vI s), some (vI x), some (vI (m_ahead s x 1)), some (vI (m_own (P s)))], [vI ((mk (m_own (P s))) + 1), vI (12 + (m_own (P s))), vA (m + 1)], (C, N44))) (fun _ => rfl) ?_
          refine AR.iast rfl hm.2.1 (by omega) ?_
          show AR E d _ (105, [some (vA m), some (vI s), some (vI x), some (vI (m_ahead s x 1)), some (vI (m_own (P s)))], [], (C, ag_upd N44 (m + 1) (12 + (m_own (P s))) ((mk (m_own (P s))) + 1))) _
          have RN46 := g_rR_fr RN44 (R' := (ag_upd N44 (m + 1) (12 + (m_own (P s))) ((mk (m_own (P s))) + 1)) (m + 1)) (fun i z0 z1 => ag_upd_nk (by omega))
          have ZN46 := g_rZ_mk ZN44 (m_own (P s)) ((mk (m_own (P s))) + 1) (by omega)
          have KN46 : ∀ i, 6 ≤ i ∧ i < 8 ∨ 67 ≤ i → (ag_upd N44 (m + 1) (12 + (m_own (P s))) ((mk (m_own (P s))) + 1)) (m + 1) i = N (m + 1) i := fun i hi => (ag_upd_nk (by omega)).trans (KN44 i hi)
          have FN46 : ∀ a, a ≠ m + 1 → (ag_upd N44 (m + 1) (12 + (m_own (P s))) ((mk (m_own (P s))) + 1)) a = N a := fun a ha => (ag_upd_ne ha).trans (FN44 a ha)
          generalize ag_upd N44 (m + 1) (12 + (m_own (P s))) ((mk (m_own (P s))) + 1) = N46 at *
          refine AR.endV rfl rfl ?_
          have eM : m_prom P s x = 1 := by unfold m_prom; omega
          have e1 : m_mov (m_proP P s x) s x = m_set (m_mov P s x) (m_ahead s x 1) (m_mov P s x (m_ahead s x 1) + 1) := by rw [sa, ← m_mov_pro P s x _ h0 h1 h3]; exact congrArg (fun z => m_mov z s x) (if_pos eM)
          have e2 : m_gmk2 P mk s x = m_set mk (m_own (P s)) (mk (m_own (P s)) + 1) := if_pos eM
          unfold m_c1
          rw [e1, e2]
          exact ⟨_, rfl, RN46, ZN46, KN46, FN46⟩
      · show AR E d _ (70, [some (vA m), some (vI s), some (vI x), some (vI (m_ahead s x 1)), some (vI (m_own (P s)))], [vI ((m_ahead s x 1) / 6)], (C, N37)) _
        refine AR.blk 2 (f' := (75, [some (vA m), some (vI s), some (vI x), some (vI (m_ahead s x 1)), some (vI (m_own (P s)))], [vI 5, vI ((m_ahead s x 1) / 6)], (C, N37))) (fun _ => rfl) ?_
        refine AR.ic_ne rfl (by omega) (fun c47 => ?_) (fun c47 => ?_)
        · show AR E d _ (105, [some (vA m), some (vI s), some (vI x), some (vI (m_ahead s x 1)), some (vI (m_own (P s)))], [], (C, N37)) _
          refine AR.endV rfl rfl ?_
          have eM : m_prom P s x = 0 := by unfold m_prom; omega
          have e1 : m_mov (m_proP P s x) s x = m_mov P s x := congrArg (fun z => m_mov z s x) (if_neg (by omega))
          have e2 : m_gmk2 P mk s x = mk := if_neg (by omega)
          unfold m_c1
          rw [e1, e2]
          exact ⟨_, rfl, RN37, ZN37, KN37, FN37⟩
        · show AR E d _ (78, [some (vA m), some (vI s), some (vI x), some (vI (m_ahead s x 1)), some (vI (m_own (P s)))], [], (C, N37)) _
          refine AR.blk 1 (f' := (79, [some (vA m), some (vI s), some (vI x), some (vI (m_ahead s x 1)), some (vI (m_own (P s)))], [vA m], (C, N37))) (fun _ => rfl) ?_
          refine AR.getR rfl rfl hm.1 (by decide) rfl ?_
          refine AR.blk 4 (f' := (87, [some (vA m), some (vI s), some (vI x), some (vI (m_ahead s x 1)), some (vI (m_own (P s)))], [vI (31 + (m_ahead s x 1)), vA (m + 1), vI (31 + (m_ahead s x 1)), vA (m + 1)], (C, N37))) (fun _ => rfl) ?_
          have f48 := WN37.1 (m_ahead s x 1)
          refine AR.iald rfl hm.2.1 (by omega) (v := (m_mov P s x) (m_ahead s x 1) + 1) (RN37.1 _ (by omega) (by omega)) ?_
          refine AR.blk 2 (f' := (90, [some (vA m), some (vI s), some (vI x), some (vI (m_ahead s x 1)), some (vI (m_own (P s)))], [vI (((m_mov P s x) (m_ahead s x 1) + 1) + 1), vI (31 + (m_ahead s x 1)), vA (m + 1)], (C, N37))) (fun _ => rfl) ?_
          refine AR.iast rfl hm.2.1 (by omega) ?_
          show AR E d _ (91, [some (vA m), some (vI s), some (vI x), some (vI (m_ahead s x 1)), some (vI (m_own (P s)))], [], (C, ag_upd N37 (m + 1) (31 + (m_ahead s x 1)) (((m_mov P s x) (m_ahead s x 1) + 1) + 1))) _
          have WN50 := g_wB_set WN37 (show 0 ≤ (m_ahead s x 1) ∧ (m_ahead s x 1) < 36 by omega) (show -1 ≤ ((m_mov P s x) (m_ahead s x 1) + 1) ∧ ((m_mov P s x) (m_ahead s x 1) + 1) ≤ 3 by (first | omega | (unfold m_tug at *; omega)))
          have RN50 := g_rR_set RN37 (m_ahead s x 1) ((m_mov P s x) (m_ahead s x 1) + 1) (((m_mov P s x) (m_ahead s x 1) + 1) + 1) (by omega) (by omega)
          have ZN50 := g_rZ_fr ZN37 (R' := (ag_upd N37 (m + 1) (31 + (m_ahead s x 1)) (((m_mov P s x) (m_ahead s x 1) + 1) + 1)) (m + 1)) (fun i z0 z1 => ag_upd_nk (by omega))
          have KN50 : ∀ i, 6 ≤ i ∧ i < 8 ∨ 67 ≤ i → (ag_upd N37 (m + 1) (31 + (m_ahead s x 1)) (((m_mov P s x) (m_ahead s x 1) + 1) + 1)) (m + 1) i = N (m + 1) i := fun i hi => (ag_upd_nk (by omega)).trans (KN37 i hi)
          have FN50 : ∀ a, a ≠ m + 1 → (ag_upd N37 (m + 1) (31 + (m_ahead s x 1)) (((m_mov P s x) (m_ahead s x 1) + 1) + 1)) a = N a := fun a ha => (ag_upd_ne ha).trans (FN37 a ha)
          generalize ag_upd N37 (m + 1) (31 + (m_ahead s x 1)) (((m_mov P s x) (m_ahead s x 1) + 1) + 1) = N50 at *
          refine AR.blk 1 (f' := (92, [some (vA m), some (vI s), some (vI x), some (vI (m_ahead s x 1)), some (vI (m_own (P s)))], [vA m], (C, N50))) (fun _ => rfl) ?_
          refine AR.getR rfl rfl hm.1 (by decide) rfl ?_
          refine AR.blk 4 (f' := (101, [some (vA m), some (vI s), some (vI x), some (vI (m_ahead s x 1)), some (vI (m_own (P s)))], [vI (12 + (m_own (P s))), vA (m + 1), vI (12 + (m_own (P s))), vA (m + 1)], (C, N50))) (fun _ => rfl) ?_
          refine AR.iald rfl hm.2.1 (by omega) (v := mk (m_own (P s))) (m_two 12 ZN50.2.2.2.2.2.2.2.2.1 ZN50.2.2.2.2.2.2.2.2.2 (by omega)) ?_
          refine AR.blk 2 (f' := (104, [some (vA m), some (vI s), some (vI x), some (vI (m_ahead s x 1)), some (vI (m_own (P s)))], [vI ((mk (m_own (P s))) + 1), vI (12 + (m_own (P s))), vA (m + 1)], (C, N50))) (fun _ => rfl) ?_
          refine AR.iast rfl hm.2.1 (by omega) ?_
          show AR E d _ (105, [some (vA m), some (vI s), some (vI x), some (vI (m_ahead s x 1)), some (vI (m_own (P s)))], [], (C, ag_upd N50 (m + 1) (12 + (m_own (P s))) ((mk (m_own (P s))) + 1))) _
          have RN52 := g_rR_fr RN50 (R' := (ag_upd N50 (m + 1) (12 + (m_own (P s))) ((mk (m_own (P s))) + 1)) (m + 1)) (fun i z0 z1 => ag_upd_nk (by omega))
          have ZN52 := g_rZ_mk ZN50 (m_own (P s)) ((mk (m_own (P s))) + 1) (by omega)
          have KN52 : ∀ i, 6 ≤ i ∧ i < 8 ∨ 67 ≤ i → (ag_upd N50 (m + 1) (12 + (m_own (P s))) ((mk (m_own (P s))) + 1)) (m + 1) i = N (m + 1) i := fun i hi => (ag_upd_nk (by omega)).trans (KN50 i hi)
          have FN52 : ∀ a, a ≠ m + 1 → (ag_upd N50 (m + 1) (12 + (m_own (P s))) ((mk (m_own (P s))) + 1)) a = N a := fun a ha => (ag_upd_ne ha).trans (FN50 a ha)
          generalize ag_upd N50 (m + 1) (12 + (m_own (P s))) ((mk (m_own (P s))) + 1) = N52 at *
          refine AR.endV rfl rfl ?_
          have eM : m_prom P s x = 1 := by unfold m_prom; omega
          have e1 : m_mov (m_proP P s x) s x = m_set (m_mov P s x) (m_ahead s x 1) (m_mov P s x (m_ahead s x 1) + 1) := by rw [sa, ← m_mov_pro P s x _ h0 h1 h3]; exact congrArg (fun z => m_mov z s x) (if_pos eM)
          have e2 : m_gmk2 P mk s x = m_set mk (m_own (P s)) (mk (m_own (P s)) + 1) := if_pos eM
          unfold m_c1
          rw [e1, e2]
          exact ⟨_, rfl, RN52, ZN52, KN52, FN52⟩
end L2n
