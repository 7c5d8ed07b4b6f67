/-! LEVEL 2: the class's history and the model's list of positions tell the same -/
theorem m_mvs_on (P : Int → Int) (n : Int) (q cl : Int → Int) (t : Int) : m_mvs P n q cl t 1 0 = m_mv P n q cl (t % 2) := by
  refine m_sum_ext 144 (fun k _ _ => ?_)
  have e : m_on 1 0 = 1 := if_pos ⟨rfl, rfl⟩
  unfold m_open m_code
  omega
theorem m_cn_add (x y : Int × Int) : ∀ D, m_cn x (m_add y D) = m_cn x D + (if y.1 = x.1 ∧ y.2 = x.2 then 1 else 0) := by
  intro D
  induction D with
  | nil =>
    show (if y.1 = x.1 ∧ y.2 = x.2 then (1 : Int) + 1 else 1) = 1 + _
    omega
  | cons z r ih =>
    by_cases e : z.1.1 = y.1 ∧ z.1.2 = y.2
    · rw [show m_add y (z :: r) = (z.1, z.2 + 1) :: r from if_pos e]
      show (if z.1.1 = x.1 ∧ z.1.2 = x.2 then z.2 + 1 + 1 else m_cn x r) = (if z.1.1 = x.1 ∧ z.1.2 = x.2 then z.2 + 1 else m_cn x r) + _
      omega
    · rw [show m_add y (z :: r) = z :: m_add y r from if_neg e]
      show (if z.1.1 = x.1 ∧ z.1.2 = x.2 then z.2 + 1 else m_cn x (m_add y r)) = (if z.1.1 = x.1 ∧ z.1.2 = x.2 then z.2 + 1 else m_cn x r) + _
      rw [ih]
      omega
theorem m_cn_D (x : Int × Int) : ∀ H, m_cn x (m_D H) = 1 + m_ct x H := by
  intro H
  induction H with
  | nil => rfl
  | cons y r ih =>
    show m_cn x (m_add y (m_D r)) = 1 + ((if y.1 = x.1 ∧ y.2 = x.2 then 1 else 0) + m_ct x r)
    rw [m_cn_add, ih]
    omega
theorem m_ct_self (x : Int × Int) (r : List (Int × Int)) : m_ct x (x :: r) = 1 + m_ct x r := by
  show (if x.1 = x.1 ∧ x.2 = x.2 then 1 else 0) + m_ct x r = _
  rw [if_pos ⟨rfl, rfl⟩]
theorem m_tl_cn (x : Int × Int) (r : List (Int × Int)) : m_tl (x :: r) = m_cn x (m_D r) := by
  rw [m_cn_D]
  exact m_ct_self x r
theorem m_add_mem (x : Int × Int) : ∀ (D : List ((Int × Int) × Int)) (lo : Int), (∀ y, y ∈ D → lo ≤ y.2) → lo ≤ 1 → ∀ y, y ∈ m_add x D → lo ≤ y.2 := by
  intro D
  induction D with
  | nil =>
    intro lo _ h1 y hy
    rcases List.mem_cons.1 hy with e | e
    · rw [e]; exact h1
    · cases e
  | cons z r ih =>
    intro lo h h1 y hy
    by_cases e : z.1.1 = x.1 ∧ z.1.2 = x.2
    · rw [show m_add x (z :: r) = (z.1, z.2 + 1) :: r from if_pos e] at hy
      rcases List.mem_cons.1 hy with e2 | e2
      · rw [e2]
        have := h z List.mem_cons_self
        show lo ≤ z.2 + 1
        omega
      · exact h y (List.mem_cons_of_mem _ e2)
    · rw [show m_add x (z :: r) = z :: m_add x r from if_neg e] at hy
      rcases List.mem_cons.1 hy with e2 | e2
      · rw [e2]; exact h z List.mem_cons_self
      · exact ih lo (fun y hy => h y (List.mem_cons_of_mem _ hy)) h1 y e2
theorem m_D_pos : ∀ H, ∀ y, y ∈ m_D H → 1 ≤ y.2 := by
  intro H
  induction H with
  | nil => intro y hy; cases hy
  | cons x r ih => exact m_add_mem x (m_D r) 1 ih (Int.le_refl 1)
theorem m_add_len (x : Int × Int) (D : List ((Int × Int) × Int)) (h : ∀ y, y ∈ D → 1 ≤ y.2) : ((m_add x D).length : Int) = D.length + (if m_cn x D = 1 then 1 else 0) := by
  by_cases q : m_ix x D = D.length
  · have h1 := m_add_new x D q
    rw [h1.1, h1.2, if_pos rfl, List.length_append]
    show ((D.length + 1 : Nat) : Int) = _
    omega
  · obtain ⟨z, h1, h2, h3⟩ := m_add_old x D q
    have h4 := h _ (List.mem_of_getElem? h1)
    have h5 : 1 ≤ z := h4
    rw [h2, h3, if_neg (by omega), List.length_set]
    omega
theorem m_diff_D : ∀ H, m_diff H = (m_D H).length := by
  intro H
  induction H with
  | nil => rfl
  | cons x r ih =>
    show m_diff r + (if m_ct x (x :: r) = 1 then 1 else 0) = ((m_add x (m_D r)).length : Int)
    rw [m_add_len x _ (m_D_pos r), m_cn_D, m_ct_self, ih]
def m_mx : List ((Int × Int) × Int) → Int
  | [] => 0
  | y :: r => if m_mx r < y.2 then y.2 else m_mx r
theorem m_mx_add (x : Int × Int) : ∀ D, m_mx (m_add x D) = if m_mx D < m_cn x D then m_cn x D else m_mx D := by
  intro D
  induction D with
  | nil => rfl
  | cons z r ih =>
    by_cases e : z.1.1 = x.1 ∧ z.1.2 = x.2
    · rw [show m_add x (z :: r) = (z.1, z.2 + 1) :: r from if_pos e, show m_cn x (z :: r) = z.2 + 1 from if_pos e]
      show (if m_mx r < z.2 + 1 then z.2 + 1 else m_mx r) = if (if m_mx r < z.2 then z.2 else m_mx r) < z.2 + 1 then z.2 + 1 else (if m_mx r < z.2 then z.2 else m_mx r)
      omega
    · rw [show m_add x (z :: r) = z :: m_add x r from if_neg e, show m_cn x (z :: r) = m_cn x r from if_neg e]
      show (if m_mx (m_add x r) < z.2 then z.2 else m_mx (m_add x r)) = if (if m_mx r < z.2 then z.2 else m_mx r) < m_cn x r then m_cn x r else (if m_mx r < z.2 then z.2 else m_mx r)
      rw [ih]
      omega
theorem m_max_D : ∀ H, m_max H = m_mx (m_D H) := by
  intro H
  induction H with
  | nil => rfl
  | cons x r ih =>
    show (if m_max r < m_ct x (x :: r) then m_ct x (x :: r) else m_max r) = m_mx (m_add x (m_D r))
    rw [m_mx_add, m_cn_D, m_ct_self, ih]
/-- the two endings tell the same, as long as no position came three times before -/
theorem m_end_eq (P : Int → Int) (n : Int) (q cl : Int → Int) (t : Int) (x : Int × Int) (r : List (Int × Int)) (h : m_cn x (m_D r) ≤ 3) (ht : t ≤ 120) : m_end2 P n q cl t (m_cn x (m_D r)) = m_stl P n q cl t (x :: r) := by
  unfold m_end2 m_stl
  rw [m_mvs_on, m_tl_cn]
  omega
