/-! LEVEL 2: the model's shifts are the class's -/
theorem m_sh_neg (P : Int → Int) (s st : Int) (hst : st = 6 ∨ st = 1 ∨ st = -6 ∨ st = -1) : ∀ (j : Nat) (i : Int), i < 0 → m_sh P s st j (s + i * st) = P (s + i * st) := by
  intro j
  induction j with
  | zero =>
    intro i hi
    refine if_neg (fun e => ?_)
    have : i * st = 0 * st := by omega
    have := m_mul_inj hst this
    omega
  | succ j ih =>
    intro i hi
    show m_set (m_sh P s st j) (s + ((j : Int) + 1) * st) (P (s + j * st)) (s + i * st) = _
    unfold m_set
    rw [if_neg (fun e => ?_)]
    · exact ih i hi
    · have : i * st = ((j : Int) + 1) * st := by omega
      have := m_mul_inj hst this
      omega
theorem m_sh_back (P : Int → Int) (u st : Int) (hst : st = 6 ∨ st = 1 ∨ st = -6 ∨ st = -1) (J : Nat) : m_sh P (u + st) st J u = P u := by
  have h := m_sh_neg P (u + st) st hst J (-1) (by omega)
  rw [show u + st + -1 * st = u by rw [Int.neg_mul, Int.one_mul]; omega] at h
  exact h
theorem m_sh_one (P : Int → Int) (u st : Int) (hst : st = 6 ∨ st = 1 ∨ st = -6 ∨ st = -1) : ∀ J : Nat, m_set (m_set (m_sh P (u + st) st J) (u + st) (P u)) u (-1) = m_sh P u st (J + 1) := by
  intro J
  induction J with
  | zero =>
    show m_set (m_set (m_set P (u + st) (-1)) (u + st) (P u)) u (-1) = m_set (m_set P u (-1)) (u + (0 + 1) * st) (P (u + 0 * st))
    rw [m_set_set, Int.zero_mul, Int.add_zero, Int.zero_add, Int.one_mul]
    exact m_set_comm (by omega)
  | succ J ih =>
    have e1 : u + st + ((J : Int) + 1) * st = u + (((J + 1 : Nat) : Int) + 1) * st := by
      rw [Int.natCast_succ, Int.add_mul ((J : Int) + 1) 1 st, Int.one_mul]; omega
    have e2 : u + st + (J : Int) * st = u + ((J + 1 : Nat) : Int) * st := by
      rw [Int.natCast_succ, Int.add_mul (J : Int) 1 st, Int.one_mul]; omega
    have n1 : u + st ≠ u + (((J + 1 : Nat) : Int) + 1) * st := by
      intro e
      have : 1 * st = (((J + 1 : Nat) : Int) + 1) * st := by rw [Int.one_mul]; omega
      have := m_mul_inj hst this
      omega
    have n2 : u ≠ u + (((J + 1 : Nat) : Int) + 1) * st := by
      intro e
      have : 0 * st = (((J + 1 : Nat) : Int) + 1) * st := by rw [Int.zero_mul]; omega
      have := m_mul_inj hst this
      omega
    show m_set (m_set (m_set (m_sh P (u + st) st J) (u + st + ((J : Int) + 1) * st) (P (u + st + (J : Int) * st))) (u + st) (P u)) u (-1) = m_set (m_sh P u st (J + 1)) (u + (((J + 1 : Nat) : Int) + 1) * st) (P (u + ((J + 1 : Nat) : Int) * st))
    rw [e1, e2, m_set_comm n1, m_set_comm n2, ih]
theorem m_ah_1 (u x : Int) (hu : 0 ≤ u ∧ u < 36) (hx : 0 ≤ x ∧ x < 4) : m_ahead u x 1 = -1 ∧ m_room u x = 0 ∨ m_ahead u x 1 = u + m_step x ∧ 1 ≤ m_room u x ∧ 0 ≤ u + m_step x ∧ u + m_step x < 36 := by
  have h1 := m_ah u x 1 hu hx (by omega)
  have h2 := m_room_in u x hu
  have h3 : (1 : Int) * m_step x = m_step x := Int.one_mul _
  omega
theorem m_pu_mov (P : Int → Int) (x : Int) (hx : 0 ≤ x ∧ x < 4) : ∀ (k : Nat) (u : Int), 0 ≤ u ∧ u < 36 → (k : Int) = m_std P u x → m_pu P x k u = m_mov P u x := by
  intro k
  induction k with
  | zero =>
    intro u hu hk
    have h1 := m_ah_1 u x hu hx
    unfold m_pu m_mov m_far
    by_cases q : m_ahead u x 1 = -1
    · rw [if_pos q, if_neg (by omega), show (m_room u x).toNat = 0 by omega]
      rfl
    · rw [if_neg q, if_pos (by omega), show (m_std P u x + 1).toNat = 1 by omega]
      show _ = m_set (m_set P u (-1)) (u + (0 + 1) * m_step x) (P (u + 0 * m_step x))
      rw [show m_ahead u x 1 = u + m_step x by omega, Int.zero_mul, Int.add_zero, Int.zero_add, Int.one_mul]
      exact m_set_comm (by have := m_step_or x; omega)
  | succ k ih =>
    intro u hu hk
    have h1 := m_ah_1 u x hu hx
    have h2 := (m_std_S P u x hu hx).2 (by omega)
    have h3 := m_room_1 u x hu hx (by omega)
    have h4 := ih (m_ahead u x 1) (by omega) (by omega)
    have h6 := m_std_in P u x hu
    show m_set (m_set (m_pu P x k (m_ahead u x 1)) (m_ahead u x 1) (m_pu P x k (m_ahead u x 1) u)) u (-1) = _
    rw [h4]
    have h5 : m_far P u x = m_far P (m_ahead u x 1) x + 1 := by
      unfold m_far
      rw [h3, h2.2.2]
      omega
    have h7 : 0 ≤ m_far P (m_ahead u x 1) x := by
      unfold m_far
      rw [h3, h2.2.2]
      omega
    unfold m_mov
    rw [h5, show (m_far P (m_ahead u x 1) x + 1).toNat = (m_far P (m_ahead u x 1) x).toNat + 1 by omega, show m_ahead u x 1 = u + m_step x by omega, m_sh_back P u _ (m_step_or x), m_sh_one P u _ (m_step_or x)]
theorem m_mov_at (P : Int → Int) (s x : Int) (hs : 0 ≤ s ∧ s < 36) (hx : 0 ≤ x ∧ x < 4) (hr : 1 ≤ m_room s x) : m_mov P s x (m_ahead s x 1) = P s := by
  have h1 := m_ah_1 s x hs hx
  have h2 := m_std_in P s x hs
  have h3 : 1 ≤ m_far P s x := by unfold m_far; omega
  have key : ∀ J : Nat, m_sh P s (m_step x) (J + 1) (s + m_step x) = P s := by
    intro J
    rw [← m_sh_one P s _ (m_step_or x) J]
    have := m_step_or x
    unfold m_set
    rw [if_neg (by omega), if_pos rfl]
  have := key (m_far P s x - 1).toNat
  unfold m_mov
  rw [show (m_far P s x).toNat = (m_far P s x - 1).toNat + 1 by omega, show m_ahead s x 1 = s + m_step x by omega]
  exact this
theorem m_fr_ext (P P' : Int → Int) (s st : Int) (hst : st = 6 ∨ st = 1 ∨ st = -6 ∨ st = -1) (h : ∀ t, t ≠ s → P t = P' t) : ∀ (k : Nat) (c : Int), 0 ≤ c → m_fr P s st k c = m_fr P' s st k c := by
  intro k
  induction k with
  | zero => intro c _; rfl
  | succ k ih =>
    intro c hc
    have e : P (s + (c + 1) * st) = P' (s + (c + 1) * st) := h _ (fun e => by
      have : (c + 1) * st = 0 * st := by omega
      have := m_mul_inj hst this
      omega)
    unfold m_fr
    rw [e, ih (c + 1) (by omega)]
theorem m_std_set (P : Int → Int) (s x c : Int) : m_std (m_set P s c) s x = m_std P s x :=
  m_fr_ext _ _ s _ (m_step_or x) (fun _ ht => if_neg ht) _ _ (Int.le_refl 0)
theorem m_mov_pro (P : Int → Int) (s x c : Int) (hs : 0 ≤ s ∧ s < 36) (hx : 0 ≤ x ∧ x < 4) (hr : 1 ≤ m_room s x) : m_mov (m_set P s c) s x = m_set (m_mov P s x) (m_ahead s x 1) c := by
  have h1 := m_ah_1 s x hs hx
  have h2 := m_std_in P s x hs
  have h3 : 1 ≤ m_far P s x := by unfold m_far; omega
  have h4 : m_far (m_set P s c) s x = m_far P s x := by unfold m_far; rw [m_std_set]
  have hst := m_step_or x
  have key : ∀ J : Nat, m_sh (m_set P s c) s (m_step x) (J + 1) = m_set (m_sh P s (m_step x) (J + 1)) (s + m_step x) c := by
    intro J
    induction J with
    | zero =>
      show m_set (m_set (m_set P s c) s (-1)) (s + (0 + 1) * m_step x) (m_set P s c (s + 0 * m_step x)) = m_set (m_set (m_set P s (-1)) (s + (0 + 1) * m_step x) (P (s + 0 * m_step x))) (s + m_step x) c
      rw [m_set_set, Int.zero_mul, Int.add_zero, Int.zero_add, Int.one_mul, m_set_at, m_set_set]
    | succ J ih =>
      have n1 : s + ((J + 1 : Nat) : Int) * m_step x ≠ s := by
        intro e
        have : ((J + 1 : Nat) : Int) * m_step x = 0 * m_step x := by omega
        have := m_mul_inj hst this
        omega
      have n2 : s + m_step x ≠ s + (((J + 1 : Nat) : Int) + 1) * m_step x := by
        intro e
        have : 1 * m_step x = (((J + 1 : Nat) : Int) + 1) * m_step x := by rw [Int.one_mul]; omega
        have := m_mul_inj hst this
        omega
      show m_set (m_sh (m_set P s c) s (m_step x) (J + 1)) (s + (((J + 1 : Nat) : Int) + 1) * m_step x) (m_set P s c (s + ((J + 1 : Nat) : Int) * m_step x)) = m_set (m_set (m_sh P s (m_step x) (J + 1)) (s + (((J + 1 : Nat) : Int) + 1) * m_step x) (P (s + ((J + 1 : Nat) : Int) * m_step x))) (s + m_step x) c
      rw [ih, show m_set P s c (s + ((J + 1 : Nat) : Int) * m_step x) = P (s + ((J + 1 : Nat) : Int) * m_step x) from if_neg n1, m_set_comm n2]
  unfold m_mov
  rw [h4, show (m_far P s x).toNat = (m_far P s x - 1).toNat + 1 by omega, show m_ahead s x 1 = s + m_step x by omega]
  exact key _
theorem m_pl_own (P : Int → Int) (x : Int) (hx : 0 ≤ x ∧ x < 4) : ∀ (k : Nat) (u : Int), 0 ≤ u ∧ u < 36 → (k : Int) = m_std P u x → m_pl P x k u = m_own (m_held P u x) := by
  intro k
  induction k with
  | zero =>
    intro u hu hk
    have h1 := m_ah_1 u x hu hx
    unfold m_pl m_held
    by_cases q : m_ahead u x 1 = -1
    · rw [if_pos q, if_neg (by omega), show m_room u x = 0 by omega, Int.zero_mul, Int.add_zero]
    · rw [if_neg q, if_pos (by omega)]
      rfl
  | succ k ih =>
    intro u hu hk
    have h1 := m_ah_1 u x hu hx
    have h2 := (m_std_S P u x hu hx).2 (by omega)
    have h3 := m_room_1 u x hu hx (by omega)
    have h4 := ih (m_ahead u x 1) (by omega) (by omega)
    show m_pl P x k (m_ahead u x 1) = _
    rw [h4]
    unfold m_held
    rw [h3, h2.2.2]
    by_cases q : m_std P u x + 1 ≤ m_room u x
    · rw [if_pos q, if_pos (by omega)]
    · rw [if_neg q, if_neg (by omega)]
      refine congrArg (fun z => m_own (P z)) ?_
      rw [show m_ahead u x 1 = u + m_step x by omega, Int.sub_mul, Int.one_mul]
      omega
theorem m_held_set (P : Int → Int) (s x c : Int) (hr : 1 ≤ m_room s x) : m_held (m_set P s c) s x = m_held P s x := by
  unfold m_held
  rw [m_std_set]
  split
  · rfl
  · refine if_neg (fun e => ?_)
    have : m_room s x * m_step x = 0 * m_step x := by omega
    have := m_mul_inj (m_step_or x) this
    omega
section L2n
variable {E : Nat × (Int → Int)} {C : List ag_C} {N : Nat → Int → Int} {m : Nat} {P : Int → Int} {n : Int} {q p cl tn : Int → Int} {t sd ho bg en ca : Int} {gn pu mk : Int → Int}
end L2n
