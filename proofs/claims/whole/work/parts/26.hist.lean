/-! LEVEL 2: positions -/
def m_hk (P : Int → Int) (a : Int) : Nat → Int
  | 0 => 0
  | k + 1 => m_hk P a k * 8 + P (a + k) + 1
theorem m_hk_in (P : Int → Int) (h : ∀ s, -1 ≤ P s ∧ P s ≤ 3) (a : Int) : ∀ k : Nat, 0 ≤ m_hk P a k ∧ m_hk P a k < ((8 ^ k : Nat) : Int) := by
  intro k
  induction k with
  | zero => exact ⟨Int.le_refl 0, show (0 : Int) < ((8 ^ 0 : Nat) : Int) by decide⟩
  | succ k ih =>
    have := h (a + k)
    rw [Nat.pow_succ]
    show 0 ≤ m_hk P a k * 8 + P (a + k) + 1 ∧ m_hk P a k * 8 + P (a + k) + 1 < _
    omega
theorem m_hk_18 (P : Int → Int) (h : ∀ s, -1 ≤ P s ∧ P s ≤ 3) (a : Int) : 0 ≤ m_hk P a 18 ∧ m_hk P a 18 < 18014398509481984 := m_hk_in P h a 18
theorem m_hk_le (P : Int → Int) (h : ∀ s, -1 ≤ P s ∧ P s ≤ 3) (a : Int) (k : Nat) (hk : k ≤ 18) : 0 ≤ m_hk P a k ∧ m_hk P a k < 18014398509481984 := by
  have h1 := m_hk_in P h a k
  have h2 : 8 ^ k ≤ 8 ^ 18 := Nat.pow_le_pow_right (by omega) hk
  have h3 : (8 : Nat) ^ 18 = 18014398509481984 := by decide
  omega
theorem m_hk_inj (P P' : Int → Int) (h : ∀ s, -1 ≤ P s ∧ P s ≤ 3) (h' : ∀ s, -1 ≤ P' s ∧ P' s ≤ 3) (a : Int) : ∀ k : Nat, m_hk P a k = m_hk P' a k → ∀ i : Nat, i < k → P (a + i) = P' (a + i) := by
  intro k
  induction k with
  | zero => intro _ i hi; omega
  | succ k ih =>
    intro he i hi
    have h1 := h (a + k)
    have h2 := h' (a + k)
    have e : m_hk P a k * 8 + P (a + k) + 1 = m_hk P' a k * 8 + P' (a + k) + 1 := he
    have e1 : m_hk P a k = m_hk P' a k := by omega
    by_cases q : i = k
    · subst q; omega
    · exact ih e1 i (by omega)
theorem m_hk_S (P : Int → Int) (a k : Int) (h : a ≤ k) : m_hk P a (k + 1 - a).toNat = m_hk P a (k - a).toNat * 8 + P k + 1 := by
  rw [show (k + 1 - a).toNat = (k - a).toNat + 1 by omega]
  show m_hk P a (k - a).toNat * 8 + P (a + ((k - a).toNat : Nat)) + 1 = _
  rw [show a + (((k - a).toNat : Nat) : Int) = k by omega]
def m_ckey (cl : Int → Int) : Int := ((cl 0 * 2 + cl 1) * 2 + cl 2) * 2 + cl 3
def m_key (P cl : Int → Int) (w : Int) : Int × Int := (m_hk P 0 18, m_hk P 18 18 * 32 + (m_ckey cl * 2 + w))
/-! histories: the latest first -/
def m_ct (x : Int × Int) : List (Int × Int) → Int
  | [] => 0
  | y :: r => (if y.1 = x.1 ∧ y.2 = x.2 then 1 else 0) + m_ct x r
def m_hs (lo hi : Int → Int) : Nat → List (Int × Int)
  | 0 => []
  | k + 1 => (lo k, hi k) :: m_hs lo hi k
def m_tl (H : List (Int × Int)) : Int := match H with
  | [] => 0
  | x :: r => m_ct x (x :: r)
def m_max : List (Int × Int) → Int
  | [] => 0
  | x :: r => if m_max r < m_ct x (x :: r) then m_ct x (x :: r) else m_max r
def m_diff : List (Int × Int) → Int
  | [] => 0
  | x :: r => m_diff r + (if m_ct x (x :: r) = 1 then 1 else 0)
theorem m_ct_in (x : Int × Int) : ∀ H : List (Int × Int), 0 ≤ m_ct x H ∧ m_ct x H ≤ H.length := by
  intro H
  induction H with
  | nil => exact ⟨Int.le_refl 0, Int.le_refl 0⟩
  | cons y r ih =>
    show 0 ≤ (if y.1 = x.1 ∧ y.2 = x.2 then 1 else 0) + m_ct x r ∧ (if y.1 = x.1 ∧ y.2 = x.2 then 1 else 0) + m_ct x r ≤ ((y :: r).length : Int)
    rw [List.length_cons]
    omega
theorem m_tl_in (H : List (Int × Int)) : 0 ≤ m_tl H ∧ m_tl H ≤ H.length := by
  cases H with
  | nil => exact ⟨Int.le_refl 0, Int.le_refl 0⟩
  | cons x r => exact m_ct_in x (x :: r)
theorem m_max_in : ∀ H : List (Int × Int), 0 ≤ m_max H ∧ m_max H ≤ H.length := by
  intro H
  induction H with
  | nil => exact ⟨Int.le_refl 0, Int.le_refl 0⟩
  | cons x r ih =>
    have := m_ct_in x (x :: r)
    show 0 ≤ (if m_max r < m_ct x (x :: r) then m_ct x (x :: r) else m_max r) ∧ (if m_max r < m_ct x (x :: r) then m_ct x (x :: r) else m_max r) ≤ ((x :: r).length : Int)
    rw [List.length_cons] at *
    omega
theorem m_diff_in : ∀ H : List (Int × Int), 0 ≤ m_diff H ∧ m_diff H ≤ H.length := by
  intro H
  induction H with
  | nil => exact ⟨Int.le_refl 0, Int.le_refl 0⟩
  | cons x r ih =>
    show 0 ≤ m_diff r + (if m_ct x (x :: r) = 1 then 1 else 0) ∧ m_diff r + (if m_ct x (x :: r) = 1 then 1 else 0) ≤ ((x :: r).length : Int)
    rw [List.length_cons]
    omega
theorem m_hs_len (lo hi : Int → Int) : ∀ n : Nat, (m_hs lo hi n).length = n := by
  intro n
  induction n with
  | zero => rfl
  | succ n ih => show (m_hs lo hi n).length + 1 = n + 1; rw [ih]
theorem m_hs_mem (lo hi : Int → Int) : ∀ (n k : Nat), k < n → (lo k, hi k) ∈ m_hs lo hi n := by
  intro n
  induction n with
  | zero => intro k hk; omega
  | succ n ih =>
    intro k hk
    by_cases q : k = n
    · subst q; exact List.mem_cons_self
    · exact List.mem_cons_of_mem _ (ih k (by omega))
theorem m_hs_S (lo hi : Int → Int) (k : Int) (h : 0 ≤ k) : m_hs lo hi (k + 1).toNat = (lo k, hi k) :: m_hs lo hi k.toNat := by
  rw [show (k + 1).toNat = k.toNat + 1 by omega]
  show (lo (k.toNat : Nat), hi (k.toNat : Nat)) :: m_hs lo hi k.toNat = _
  rw [show ((k.toNat : Nat) : Int) = k by omega]
def g_isH (C : List ag_C) (h : Nat) : Prop := C[h]? = some (2, 3, [none, some (h + 1), some (h + 2)]) ∧ C[h + 1]? = some (11, 121, []) ∧ C[h + 2]? = some (11, 121, [])
def g_rH (N : Nat → Int → Int) (h : Nat) (H : List (Int × Int)) : Prop := N h 0 = H.length ∧ m_hs (N (h + 1)) (N (h + 2)) H.length = H
def g_wH (H : List (Int × Int)) : Prop := H.length ≤ 121 ∧ ∀ x, x ∈ H → ag_inL x.1 ∧ ag_inL x.2
theorem m_hsb {N : Nat → Int → Int} {h : Nat} {H : List (Int × Int)} (hr : g_rH N h H) (hw : g_wH H) (k : Int) (hk : 0 ≤ k ∧ k < H.length) : ag_inL (N (h + 1) k) ∧ ag_inL (N (h + 2) k) := by
  have h1 := m_hs_mem (N (h + 1)) (N (h + 2)) H.length k.toNat (by omega)
  rw [hr.2] at h1
  have h2 := hw.2 _ h1
  rw [show ((k.toNat : Nat) : Int) = k by omega] at h2
  exact h2
def m_tu (lo hi : Int → Int) (k : Int) : Int := m_ct (lo k, hi k) (m_hs lo hi (k + 1).toNat)
section L2e
variable {E : Nat × (Int → Int)} {C : List ag_C} {N : Nat → Int → Int} {b : Nat} {P : Int → Int} {n : Int} {q p cl tn : Int → Int} {h : Nat} {H : List (Int × Int)}

theorem m_tl_of {N : Nat → Int → Int} {h : Nat} {H : List (Int × Int)} (hr : g_rH N h H) : m_tu (N (h + 1)) (N (h + 2)) ((H.length : Int) - 1) = m_tl H := by
  cases H with
  | nil => rfl
  | cons x r =>
    have h2 : (N (h + 1) (r.length : Nat), N (h + 2) (r.length : Nat)) :: m_hs (N (h + 1)) (N (h + 2)) r.length = x :: r := hr.2
    have h3 := (List.cons.inj h2).1
    have e : (((x :: r).length : Nat) : Int) - 1 = (r.length : Int) := by rw [List.length_cons]; omega
    rw [e]
    show m_ct (N (h + 1) (r.length : Nat), N (h + 2) (r.length : Nat)) (m_hs (N (h + 1)) (N (h + 2)) ((r.length : Int) + 1).toNat) = m_ct x (x :: r)
    rw [show ((r.length : Int) + 1).toNat = r.length + 1 by omega, h3]
    exact congrArg (m_ct x) hr.2

theorem m_ckey_in (cl : Int → Int) (h : ∀ k, (cl k = 0 ∨ cl k = 1)) : 0 ≤ m_ckey cl ∧ m_ckey cl < 16 := by
  have h0 := h 0
  have h1 := h 1
  have h2 := h 2
  have h3 := h 3
  unfold m_ckey
  omega

theorem ev_X0_halfKey {d : Nat} (hd : 2 ≤ d) (hb : g_isB C b) (hr : g_rB N b P n q p cl tn) (hw : g_wB P n q p cl tn) (a : Int) (h0 : a = 0 ∨ a = 18) : Ev E d 24 [vA b, vI a] (C, N) (some (vJ (m_hk P a 18)), (C, N)) := by
  obtain ⟨d, rfl⟩ : ∃ j, d = j + 1 := ⟨d - 1, by omega⟩
  refine Ev.intro (M := ag_mX0_halfKey) rfl rfl ?_
  show AR E d _ (0, [some (vA b), some (vI a), none, none, none], [], (C, N)) _
  refine AR.blk 4 (f' := (5, [some (vA b), some (vI a), some (vJ 0), none, some (vI a)], [], (C, N))) (fun _ => rfl) ?_
  suffices H5 : ∀ (j : Nat) (y : Int) (k : Int), (a + 18 - k).toNat < j → (a ≤ k ∧ k ≤ a + 18) → (y = m_hk P a (k - a).toNat) → AR E d ag_mX0_halfKey (5, [some (vA b), some (vI a), some (vJ y), none, some (vI k)], [], (C, N)) (fun o_ => o_ = (some (vJ (m_hk P a 18)), (C, N))) by
    exact H5 _ _ _ (Nat.lt_succ_self _) (by omega) (by rw [Int.sub_self]; rfl)
  intro j
  induction j with
  | zero => intro y k hj; exact absurd hj (Nat.not_lt_zero _)
  | succ j ih5 =>
    intro y k hj5 i0 i1
    have z0 := m_hk_le P hw.1 a (k - a).toNat (by omega)
    refine AR.blk 4 (f' := (11, [some (vA b), some (vI a), some (vJ y), none, some (vI k)], [vI (a + 18), vI k], (C, N))) (fun _ => rfl) ?_
    refine AR.ic_ge rfl (by omega) (fun c1 => ?_) (fun c1 => ?_)
    · show AR E d _ (36, [some (vA b), some (vI a), some (vJ y), none, some (vI k)], [], (C, N)) _
      refine AR.blk 1 (f' := (37, [some (vA b), some (vI a), some (vJ y), none, some (vI k)], [vJ y], (C, N))) (fun _ => rfl) ?_
      exact AR.retJ rfl (by rw [i1, show (k - a).toNat = 18 by omega]) rfl rfl
    · show AR E d _ (14, [some (vA b), some (vI a), some (vJ y), none, some (vI k)], [], (C, N)) _
      refine AR.blk 5 (f' := (22, [some (vA b), some (vI a), some (vJ y), none, some (vI k)], [vI k, vA b, vJ (y * 8)], (C, N))) (fun _ => rfl) ?_
      refine AR.callV [vI k] (ev_X0_pieceAt (by omega) hb hr hw k (by omega)) hb.1 rfl rfl rfl rfl rfl ?_
      show AR E d _ (25, [some (vA b), some (vI a), some (vJ y), none, some (vI k)], [vI (P k), vJ (y * 8)], (C, N)) _
      have f2 := hw.1 k
      refine AR.i2l rfl (by omega) ?_
      refine AR.blk 6 (f' := (5, [some (vA b), some (vI a), some (vJ (((y * 8) + (P k)) + 1)), none, some (vI (k + 1))], [], (C, N))) (fun _ => rfl) ?_
      exact ih5 _ _ (by omega) (by omega) (by rw [m_hk_S P a k (by omega), ← i1])

theorem ev_X0_closedKey {d : Nat} (hd : 1 ≤ d) (hb : g_isB C b) (hr : g_rB N b P n q p cl tn) (hw : g_wB P n q p cl tn) : Ev E d 25 [vA b] (C, N) (some (vI (m_ckey cl)), (C, N)) := by
  obtain ⟨d, rfl⟩ : ∃ j, d = j + 1 := ⟨d - 1, by omega⟩
  refine Ev.intro (M := ag_mX0_closedKey) rfl rfl ?_
  show AR E d _ (0, [some (vA b), none, none], [], (C, N)) _
  refine AR.blk 6 (f' := (6, [some (vA b), some (vI 0), some (vI 0)], [vI 4, vI 0], (C, N))) (fun _ => rfl) ?_
  refine AR.blk 5 (f' := (13, [some (vA b), some (vI 0), some (vI 0)], [vA b, vI 0], (C, N))) (fun _ => rfl) ?_
  refine AR.getR rfl rfl hb.1 (by decide) rfl ?_
  refine AR.blk 1 (f' := (17, [some (vA b), some (vI 0), some (vI 0)], [vI 0, vA (b + 4), vI 0], (C, N))) (fun _ => rfl) ?_
  have f1 := hw.2.2.2.2.1 0
  refine AR.zald rfl hb.2.2.2.2.1 (by omega) (v := cl 0) (hr.2.2.2 _ (by omega) (by omega)).1 ?_
  refine AR.if_eq rfl (by omega) (fun c2 => ?_) (fun c2 => ?_)
  · show AR E d _ (25, [some (vA b), some (vI 0), some (vI 0)], [vI 0], (C, N)) _
    refine AR.blk 7 (f' := (6, [some (vA b), some (vI 0), some (vI 1)], [vI 4, vI 1], (C, N))) (fun _ => rfl) ?_
    refine AR.blk 5 (f' := (13, [some (vA b), some (vI 0), some (vI 1)], [vA b, vI 0], (C, N))) (fun _ => rfl) ?_
    refine AR.getR rfl rfl hb.1 (by decide) rfl ?_
    refine AR.blk 1 (f' := (17, [some (vA b), some (vI 0), some (vI 1)], [vI 1, vA (b + 4), vI 0], (C, N))) (fun _ => rfl) ?_
    have f3 := hw.2.2.2.2.1 1
    refine AR.zald rfl hb.2.2.2.2.1 (by omega) (v := cl 1) (hr.2.2.2 _ (by omega) (by omega)).1 ?_
    refine AR.if_eq rfl (by omega) (fun c4 => ?_) (fun c4 => ?_)
    · show AR E d _ (25, [some (vA b), some (vI 0), some (vI 1)], [vI 0], (C, N)) _
      refine AR.blk 7 (f' := (6, [some (vA b), some (vI 0), some (vI 2)], [vI 4, vI 2], (C, N))) (fun _ => rfl) ?_
      refine AR.blk 5 (f' := (13, [some (vA b), some (vI 0), some (vI 2)], [vA b, vI 0], (C, N))) (fun _ => rfl) ?_
      refine AR.getR rfl rfl hb.1 (by decide) rfl ?_
      refine AR.blk 1 (f' := (17, [some (vA b), some (vI 0), some (vI 2)], [vI 2, vA (b + 4), vI 0], (C, N))) (fun _ => rfl) ?_
      have f5 := hw.2.2.2.2.1 2
      refine AR.zald rfl hb.2.2.2.2.1 (by omega) (v := cl 2) (hr.2.2.2 _ (by omega) (by omega)).1 ?_
      refine AR.if_eq rfl (by omega) (fun c6 => ?_) (fun c6 => ?_)
      · show AR E d _ (25, [some (vA b), some (vI 0), some (vI 2)], [vI 0], (C, N)) _
        refine AR.blk 7 (f' := (6, [some (vA b), some (vI 0), some (vI 3)], [vI 4, vI 3], (C, N))) (fun _ => rfl) ?_
        refine AR.blk 5 (f' := (13, [some (vA b), some (vI 0), some (vI 3)], [vA b, vI 0], (C, N))) (fun _ => rfl) ?_
        refine AR.getR rfl rfl hb.1 (by decide) rfl ?_
        refine AR.blk 1 (f' := (17, [some (vA b), some (vI 0), some (vI 3)], [vI 3, vA (b + 4), vI 0], (C, N))) (fun _ => rfl) ?_
        have f7 := hw.2.2.2.2.1 3
        refine AR.zald rfl hb.2.2.2.2.1 (by omega) (v := cl 3) (hr.2.2.2 _ (by omega) (by omega)).1 ?_
        refine AR.if_eq rfl (by omega) (fun c8 => ?_) (fun c8 => ?_)
        · show AR E d _ (25, [some (vA b), some (vI 0), some (vI 3)], [vI 0], (C, N)) _
          refine AR.blk 7 (f' := (6, [some (vA b), some (vI 0), some (vI 4)], [vI 4, vI 4], (C, N))) (fun _ => rfl) ?_
          refine AR.blk 2 (f' := (35, [some (vA b), some (vI 0), some (vI 4)], [vI 0], (C, N))) (fun _ => rfl) ?_
          exact AR.retI rfl (by unfold m_ckey; omega) ⟨rfl, .inl rfl⟩ rfl
        · show AR E d _ (21, [some (vA b), some (vI 0), some (vI 3)], [vI 0], (C, N)) _
          refine AR.blk 8 (f' := (6, [some (vA b), some (vI 1), some (vI 4)], [vI 4, vI 4], (C, N))) (fun _ => rfl) ?_
          refine AR.blk 2 (f' := (35, [some (vA b), some (vI 1), some (vI 4)], [vI 1], (C, N))) (fun _ => rfl) ?_
          exact AR.retI rfl (by unfold m_ckey; omega) ⟨rfl, .inl rfl⟩ rfl
      · show AR E d _ (21, [some (vA b), some (vI 0), some (vI 2)], [vI 0], (C, N)) _
        refine AR.blk 8 (f' := (6, [some (vA b), some (vI 1), some (vI 3)], [vI 4, vI 3], (C, N))) (fun _ => rfl) ?_
        refine AR.blk 5 (f' := (13, [some (vA b), some (vI 1), some (vI 3)], [vA b, vI 2], (C, N))) (fun _ => rfl) ?_
        refine AR.getR rfl rfl hb.1 (by decide) rfl ?_
        refine AR.blk 1 (f' := (17, [some (vA b), some (vI 1), some (vI 3)], [vI 3, vA (b + 4), vI 2], (C, N))) (fun _ => rfl) ?_
        have f9 := hw.2.2.2.2.1 3
        refine AR.zald rfl hb.2.2.2.2.1 (by omega) (v := cl 3) (hr.2.2.2 _ (by omega) (by omega)).1 ?_
        refine AR.if_eq rfl (by omega) (fun c10 => ?_) (fun c10 => ?_)
        · show AR E d _ (25, [some (vA b), some (vI 1), some (vI 3)], [vI 2], (C, N)) _
          refine AR.blk 7 (f' := (6, [some (vA b), some (vI 2), some (vI 4)], [vI 4, vI 4], (C, N))) (fun _ => rfl) ?_
          refine AR.blk 2 (f' := (35, [some (vA b), some (vI 2), some (vI 4)], [vI 2], (C, N))) (fun _ => rfl) ?_
          exact AR.retI rfl (by unfold m_ckey; omega) ⟨rfl, .inl rfl⟩ rfl
        · show AR E d _ (21, [some (vA b), some (vI 1), some (vI 3)], [vI 2], (C, N)) _
          refine AR.blk 8 (f' := (6, [some (vA b), some (vI 3), some (vI 4)], [vI 4, vI 4], (C, N))) (fun _ => rfl) ?_
          refine AR.blk 2 (f' := (35, [some (vA b), some (vI 3), some (vI 4)], [vI 3], (C, N))) (fun _ => rfl) ?_
          exact AR.retI rfl (by unfold m_ckey; omega) ⟨rfl, .inl rfl⟩ rfl
    · show AR E d _ (21, [some (vA b), some (vI 0), some (vI 1)], [vI 0], (C, N)) _
      refine AR.blk 8 (f' := (6, [some (vA b), some (vI 1), some (vI 2)], [vI 4, vI 2], (C, N))) (fun _ => rfl) ?_
      refine AR.blk 5 (f' := (13, [some (vA b), some (vI 1), some (vI 2)], [vA b, vI 2], (C, N))) (fun _ => rfl) ?_
      refine AR.getR rfl rfl hb.1 (by decide) rfl ?_
      refine AR.blk 1 (f' := (17, [some (vA b), some (vI 1), some (vI 2)], [vI 2, vA (b + 4), vI 2], (C, N))) (fun _ => rfl) ?_
      have f11 := hw.2.2.2.2.1 2
      refine AR.zald rfl hb.2.2.2.2.1 (by omega) (v := cl 2) (hr.2.2.2 _ (by omega) (by omega)).1 ?_
      refine AR.if_eq rfl (by omega) (fun c12 => ?_) (fun c12 => ?_)
      · show AR E d _ (25, [some (vA b), some (vI 1), some (vI 2)], [vI 2], (C, N)) _
        refine AR.blk 7 (f' := (6, [some (vA b), some (vI 2), some (vI 3)], [vI 4, vI 3], (C, N))) (fun _ => rfl) ?_
        refine AR.blk 5 (f' := (13, [some (vA b), some (vI 2), some (vI 3)], [vA b, vI 4], (C, N))) (fun _ => rfl) ?_
        refine AR.getR rfl rfl hb.1 (by decide) rfl ?_
        refine AR.blk 1 (f' := (17, [some (vA b), some (vI 2), some (vI 3)], [vI 3, vA (b + 4), vI 4], (C, N))) (fun _ => rfl) ?_
        have f13 := hw.2.2.2.2.1 3
        refine AR.zald rfl hb.2.2.2.2.1 (by omega) (v := cl 3) (hr.2.2.2 _ (by omega) (by omega)).1 ?_
        refine AR.if_eq rfl (by omega) (fun c14 => ?_) (fun c14 => ?_)
        · show AR E d _ (25, [some (vA b), some (vI 2), some (vI 3)], [vI 4], (C, N)) _
          refine AR.blk 7 (f' := (6, [some (vA b), some (vI 4), some (vI 4)], [vI 4, vI 4], (C, N))) (fun _ => rfl) ?_
          refine AR.blk 2 (f' := (35, [some (vA b), some (vI 4), some (vI 4)], [vI 4], (C, N))) (fun _ => rfl) ?_
          exact AR.retI rfl (by unfold m_ckey; omega) ⟨rfl, .inl rfl⟩ rfl
        · show AR E d _ (21, [some (vA b), some (vI 2), some (vI 3)], [vI 4], (C, N)) _
          refine AR.blk 8 (f' := (6, [some (vA b), some (vI 5), some (vI 4)], [vI 4, vI 4], (C, N))) (fun _ => rfl) ?_
          refine AR.blk 2 (f' := (35, [some (vA b), some (vI 5), some (vI 4)], [vI 5], (C, N))) (fun _ => rfl) ?_
          exact AR.retI rfl (by unfold m_ckey; omega) ⟨rfl, .inl rfl⟩ rfl
      · show AR E d _ (21, [some (vA b), some (vI 1), some (vI 2)], [vI 2], (C, N)) _
        refine AR.blk 8 (f' := (6, [some (vA b), some (vI 3), some (vI 3)], [vI 4, vI 3], (C, N))) (fun _ => rfl) ?_
        refine AR.blk 5 (f' := (13, [some (vA b), some (vI 3), some (vI 3)], [vA b, vI 6], (C, N))) (fun _ => rfl) ?_
        refine AR.getR rfl rfl hb.1 (by decide) rfl ?_
        refine AR.blk 1 (f' := (17, [some (vA b), some (vI 3), some (vI 3)], [vI 3, vA (b + 4), vI 6], (C, N))) (fun _ => rfl) ?_
        have f15 := hw.2.2.2.2.1 3
        refine AR.zald rfl hb.2.2.2.2.1 (by omega) (v := cl 3) (hr.2.2.2 _ (by omega) (by omega)).1 ?_
        refine AR.if_eq rfl (by omega) (fun c16 => ?_) (fun c16 => ?_)
        · show AR E d _ (25, [some (vA b), some (vI 3), some (vI 3)], [vI 6], (C, N)) _
          refine AR.blk 7 (f' := (6, [some (vA b), some (vI 6), some (vI 4)], [vI 4, vI 4], (C, N))) (fun _ => rfl) ?_
          refine AR.blk 2 (f' := (35, [some (vA b), some (vI 6), some (vI 4)], [vI 6], (C, N))) (fun _ => rfl) ?_
          exact AR.retI rfl (by unfold m_ckey; omega) ⟨rfl, .inl rfl⟩ rfl
        · show AR E d _ (21, [some (vA b), some (vI 3), some (vI 3)], [vI 6], (C, N)) _
          refine AR.blk 8 (f' := (6, [some (vA b), some (vI 7), some (vI 4)], [vI 4, vI 4], (C, N))) (fun _ => rfl) ?_
          refine AR.blk 2 (f' := (35, [some (vA b), some (vI 7), some (vI 4)], [vI 7], (C, N))) (fun _ => rfl) ?_
          exact AR.retI rfl (by unfold m_ckey; omega) ⟨rfl, .inl rfl⟩ rfl
  · show AR E d _ (21, [some (vA b), some (vI 0), some (vI 0)], [vI 0], (C, N)) _
    refine AR.blk 8 (f' := (6, [some (vA b), some (vI 1), some (vI 1)], [vI 4, vI 1], (C, N))) (fun _ => rfl) ?_
    refine AR.blk 5 (f' := (13, [some (vA b), some (vI 1), some (vI 1)], [vA b, vI 2], (C, N))) (fun _ => rfl) ?_
    refine AR.getR rfl rfl hb.1 (by decide) rfl ?_
    refine AR.blk 1 (f' := (17, [some (vA b), some (vI 1), some (vI 1)], [vI 1, vA (b + 4), vI 2], (C, N))) (fun _ => rfl) ?_
    have f17 := hw.2.2.2.2.1 1
    refine AR.zald rfl hb.2.2.2.2.1 (by omega) (v := cl 1) (hr.2.2.2 _ (by omega) (by omega)).1 ?_
    refine AR.if_eq rfl (by omega) (fun c18 => ?_) (fun c18 => ?_)
    · show AR E d _ (25, [some (vA b), some (vI 1), some (vI 1)], [vI 2], (C, N)) _
      refine AR.blk 7 (f' := (6, [some (vA b), some (vI 2), some (vI 2)], [vI 4, vI 2], (C, N))) (fun _ => rfl) ?_
      refine AR.blk 5 (f' := (13, [some (vA b), some (vI 2), some (vI 2)], [vA b, vI 4], (C, N))) (fun _ => rfl) ?_
      refine AR.getR rfl rfl hb.1 (by decide) rfl ?_
      refine AR.blk 1 (f' := (17, [some (vA b), some (vI 2), some (vI 2)], [vI 2, vA (b + 4), vI 4], (C, N))) (fun _ => rfl) ?_
      have f19 := hw.2.2.2.2.1 2
      refine AR.zald rfl hb.2.2.2.2.1 (by omega) (v := cl 2) (hr.2.2.2 _ (by omega) (by omega)).1 ?_
      refine AR.if_eq rfl (by omega) (fun c20 => ?_) (fun c20 => ?_)
      · show AR E d _ (25, [some (vA b), some (vI 2), some (vI 2)], [vI 4], (C, N)) _
        refine AR.blk 7 (f' := (6, [some (vA b), some (vI 4), some (vI 3)], [vI 4, vI 3], (C, N))) (fun _ => rfl) ?_
        refine AR.blk 5 (f' := (13, [some (vA b), some (vI 4), some (vI 3)], [vA b, vI 8], (C, N))) (fun _ => rfl) ?_
        refine AR.getR rfl rfl hb.1 (by decide) rfl ?_
        refine AR.blk 1 (f' := (17, [some (vA b), some (vI 4), some (vI 3)], [vI 3, vA (b + 4), vI 8], (C, N))) (fun _ => rfl) ?_
        have f21 := hw.2.2.2.2.1 3
        refine AR.zald rfl hb.2.2.2.2.1 (by omega) (v := cl 3) (hr.2.2.2 _ (by omega) (by omega)).1 ?_
        refine AR.if_eq rfl (by omega) (fun c22 => ?_) (fun c22 => ?_)
        · show AR E d _ (25, [some (vA b), some (vI 4), some (vI 3)], [vI 8], (C, N)) _
          refine AR.blk 7 (f' := (6, [some (vA b), some (vI 8), some (vI 4)], [vI 4, vI 4], (C, N))) (fun _ => rfl) ?_
          refine AR.blk 2 (f' := (35, [some (vA b), some (vI 8), some (vI 4)], [vI 8], (C, N))) (fun _ => rfl) ?_
          exact AR.retI rfl (by unfold m_ckey; omega) ⟨rfl, .inl rfl⟩ rfl
        · show AR E d _ (21, [some (vA b), some (vI 4), some (vI 3)], [vI 8], (C, N)) _
          refine AR.blk 8 (f' := (6, [some (vA b), some (vI 9), some (vI 4)], [vI 4, vI 4], (C, N))) (fun _ => rfl) ?_
          refine AR.blk 2 (f' := (35, [some (vA b), some (vI 9), some (vI 4)], [vI 9], (C, N))) (fun _ => rfl) ?_
          exact AR.retI rfl (by unfold m_ckey; omega) ⟨rfl, .inl rfl⟩ rfl
      · show AR E d _ (21, [some (vA b), some (vI 2), some (vI 2)], [vI 4], (C, N)) _
        refine AR.blk 8 (f' := (6, [some (vA b), some (vI 5), some (vI 3)], [vI 4, vI 3], (C, N))) (fun _ => rfl) ?_
        refine AR.blk 5 (f' := (13, [some (vA b), some (vI 5), some (vI 3)], [vA b, vI 10], (C, N))) (fun _ => rfl) ?_
        refine AR.getR rfl rfl hb.1 (by decide) rfl ?_
        refine AR.blk 1 (f' := (17, [some (vA b), some (vI 5), some (vI 3)], [vI 3, vA (b + 4), vI 10], (C, N))) (fun _ => rfl) ?_
        have f23 := hw.2.2.2.2.1 3
        refine AR.zald rfl hb.2.2.2.2.1 (by omega) (v := cl 3) (hr.2.2.2 _ (by omega) (by omega)).1 ?_
        refine AR.if_eq rfl (by omega) (fun c24 => ?_) (fun c24 => ?_)
        · show AR E d _ (25, [some (vA b), some (vI 5), some (vI 3)], [vI 10], (C, N)) _
          refine AR.blk 7 (f' := (6, [some (vA b), some (vI 10), some (vI 4)], [vI 4, vI 4], (C, N))) (fun _ => rfl) ?_
          refine AR.blk 2 (f' := (35, [some (vA b), some (vI 10), some (vI 4)], [vI 10], (C, N))) (fun _ => rfl) ?_
          exact AR.retI rfl (by unfold m_ckey; omega) ⟨rfl, .inl rfl⟩ rfl
        · show AR E d _ (21, [some (vA b), some (vI 5), some (vI 3)], [vI 10], (C, N)) _
          refine AR.blk 8 (f' := (6, [some (vA b), some (vI 11), some (vI 4)], [vI 4, vI 4], (C, N))) (fun _ => rfl) ?_
          refine AR.blk 2 (f' := (35, [some (vA b), some (vI 11), some (vI 4)], [vI 11], (C, N))) (fun _ => rfl) ?_
          exact AR.retI rfl (by unfold m_ckey; omega) ⟨rfl, .inl rfl⟩ rfl
    · show AR E d _ (21, [some (vA b), some (vI 1), some (vI 1)], [vI 2], (C, N)) _
      refine AR.blk 8 (f' := (6, [some (vA b), some (vI 3), some (vI 2)], [vI 4, vI 2], (C, N))) (fun _ => rfl) ?_
      refine AR.blk 5 (f' := (13, [some (vA b), some (vI 3), some (vI 2)], [vA b, vI 6], (C, N))) (fun _ => rfl) ?_
      refine AR.getR rfl rfl hb.1 (by decide) rfl ?_
      refine AR.blk 1 (f' := (17, [some (vA b), some (vI 3), some (vI 2)], [vI 2, vA (b + 4), vI 6], (C, N))) (fun _ => rfl) ?_
      have f25 := hw.2.2.2.2.1 2
      refine AR.zald rfl hb.2.2.2.2.1 (by omega) (v := cl 2) (hr.2.2.2 _ (by omega) (by omega)).1 ?_
      refine AR.if_eq rfl (by omega) (fun c26 => ?_) (fun c26 => ?_)
      · show AR E d _ (25, [some (vA b), some (vI 3), some (vI 2)], [vI 6], (C, N)) _
        refine AR.blk 7 (f' := (6, [some (vA b), some (vI 6), some (vI 3)], [vI 4, vI 3], (C, N))) (fun _ => rfl) ?_
        refine AR.blk 5 (f' := (13, [some (vA b), some (vI 6), some (vI 3)], [vA b, vI 12], (C, N))) (fun _ => rfl) ?_
        refine AR.getR rfl rfl hb.1 (by decide) rfl ?_
        refine AR.blk 1 (f' := (17, [some (vA b), some (vI 6), some (vI 3)], [vI 3, vA (b + 4), vI 12], (C, N))) (fun _ => rfl) ?_
        have f27 := hw.2.2.2.2.1 3
        refine AR.zald rfl hb.2.2.2.2.1 (by omega) (v := cl 3) (hr.2.2.2 _ (by omega) (by omega)).1 ?_
        refine AR.if_eq rfl (by omega) (fun c28 => ?_) (fun c28 => ?_)
        · show AR E d _ (25, [some (vA b), some (vI 6), some (vI 3)], [vI 12], (C, N)) _
          refine AR.blk 7 (f' := (6, [some (vA b), some (vI 12), some (vI 4)], [vI 4, vI 4], (C, N))) (fun _ => rfl) ?_
          refine AR.blk 2 (f' := (35, [some (vA b), some (vI 12), some (vI 4)], [vI 12], (C, N))) (fun _ => rfl) ?_
          exact AR.retI rfl (by unfold m_ckey; omega) ⟨rfl, .inl rfl⟩ rfl
        · show AR E d _ (21, [some (vA b), some (vI 6), some (vI 3)], [vI 12], (C, N)) _
          refine AR.blk 8 (f' := (6, [some (vA b), some (vI 13), some (vI 4)], [vI 4, vI 4], (C, N))) (fun _ => rfl) ?_
          refine AR.blk 2 (f' := (35, [some (vA b), some (vI 13), some (vI 4)], [vI 13], (C, N))) (fun _ => rfl) ?_
          exact AR.retI rfl (by unfold m_ckey; omega) ⟨rfl, .inl rfl⟩ rfl
      · show AR E d _ (21, [some (vA b), some (vI 3), some (vI 2)], [vI 6], (C, N)) _
        refine AR.blk 8 (f' := (6, [some (vA b), some (vI 7), some (vI 3)], [vI 4, vI 3], (C, N))) (fun _ => rfl) ?_
        refine AR.blk 5 (f' := (13, [some (vA b), some (vI 7), some (vI 3)], [vA b, vI 14], (C, N))) (fun _ => rfl) ?_
        refine AR.getR rfl rfl hb.1 (by decide) rfl ?_
        refine AR.blk 1 (f' := (17, [some (vA b), some (vI 7), some (vI 3)], [vI 3, vA (b + 4), vI 14], (C, N))) (fun _ => rfl) ?_
        have f29 := hw.2.2.2.2.1 3
        refine AR.zald rfl hb.2.2.2.2.1 (by omega) (v := cl 3) (hr.2.2.2 _ (by omega) (by omega)).1 ?_
        refine AR.if_eq rfl (by omega) (fun c30 => ?_) (fun c30 => ?_)
        · show AR E d _ (25, [some (vA b), some (vI 7), some (vI 3)], [vI 14], (C, N)) _
          refine AR.blk 7 (f' := (6, [some (vA b), some (vI 14), some (vI 4)], [vI 4, vI 4], (C, N))) (fun _ => rfl) ?_
          refine AR.blk 2 (f' := (35, [some (vA b), some (vI 14), some (vI 4)], [vI 14], (C, N))) (fun _ => rfl) ?_
          exact AR.retI rfl (by unfold m_ckey; omega) ⟨rfl, .inl rfl⟩ rfl
        · show AR E d _ (21, [some (vA b), some (vI 7), some (vI 3)], [vI 14], (C, N)) _
          refine AR.blk 8 (f' := (6, [some (vA b), some (vI 15), some (vI 4)], [vI 4, vI 4], (C, N))) (fun _ => rfl) ?_
          refine AR.blk 2 (f' := (35, [some (vA b), some (vI 15), some (vI 4)], [vI 15], (C, N))) (fun _ => rfl) ?_
          exact AR.retI rfl (by unfold m_ckey; omega) ⟨rfl, .inl rfl⟩ rfl

theorem ev_X2_timesUpTo {d : Nat} (hd : 1 ≤ d) (hh : g_isH C h) (hr : g_rH N h H) (hw : g_wH H) (w : Int) (h0 : -1 ≤ w ∧ w < H.length) : Ev E d 42 [vA h, vI w] (C, N) (some (vI (m_tu (N (h + 1)) (N (h + 2)) w)), (C, N)) := by
  obtain ⟨d, rfl⟩ : ∃ j, d = j + 1 := ⟨d - 1, by omega⟩
  have f0 := hw.1
  refine Ev.intro (M := ag_mX2_timesUpTo) rfl rfl ?_
  show AR E d _ (0, [some (vA h), some (vI w), none, none], [], (C, N)) _
  refine AR.blk 4 (f' := (4, [some (vA h), some (vI w), some (vI 0), some (vI 0)], [], (C, N))) (fun _ => rfl) ?_
  suffices H4 : ∀ (j : Nat) (c : Int) (k : Int), (w + 1 - k).toNat < j → (0 ≤ k ∧ k ≤ w + 1 ∧ 0 ≤ c ∧ c ≤ k) → (c = m_ct (N (h + 1) w, N (h + 2) w) (m_hs (N (h + 1)) (N (h + 2)) k.toNat)) → AR E d ag_mX2_timesUpTo (4, [some (vA h), some (vI w), some (vI c), some (vI k)], [], (C, N)) (fun o_ => o_ = (some (vI (m_tu (N (h + 1)) (N (h + 2)) w)), (C, N))) by
    exact H4 _ _ _ (Nat.lt_succ_self _) (by omega) rfl
  intro j
  induction j with
  | zero => intro c k hj; exact absurd hj (Nat.not_lt_zero _)
  | succ j ih4 =>
    intro c k hj4 i0 i1
    refine AR.blk 2 (f' := (6, [some (vA h), some (vI w), some (vI c), some (vI k)], [vI w, vI k], (C, N))) (fun _ => rfl) ?_
    refine AR.ic_gt rfl (by omega) (fun c1 => ?_) (fun c1 => ?_)
    · show AR E d _ (56, [some (vA h), some (vI w), some (vI c), some (vI k)], [], (C, N)) _
      refine AR.blk 1 (f' := (57, [some (vA h), some (vI w), some (vI c), some (vI k)], [vI c], (C, N))) (fun _ => rfl) ?_
      exact AR.retI rfl (by rw [i1, show k = w + 1 by omega]; rfl) ⟨rfl, .inl rfl⟩ rfl
    · show AR E d _ (9, [some (vA h), some (vI w), some (vI c), some (vI k)], [], (C, N)) _
      refine AR.blk 2 (f' := (12, [some (vA h), some (vI w), some (vI c), some (vI k)], [vI 121, vI w], (C, N))) (fun _ => rfl) ?_
      refine AR.ic_ge rfl (by omega) (fun c2 => ?_) (fun c2 => ?_)
      · show AR E d _ (56, [some (vA h), some (vI w), some (vI c), some (vI k)], [], (C, N)) _
        refine AR.blk 1 (f' := (57, [some (vA h), some (vI w), some (vI c), some (vI k)], [vI c], (C, N))) (fun _ => rfl) ?_
        exact AR.retI rfl (by rw [i1, show k = w + 1 by omega]; rfl) ⟨rfl, .inl rfl⟩ rfl
      · show AR E d _ (15, [some (vA h), some (vI w), some (vI c), some (vI k)], [], (C, N)) _
        refine AR.blk 1 (f' := (16, [some (vA h), some (vI w), some (vI c), some (vI k)], [vA h], (C, N))) (fun _ => rfl) ?_
        refine AR.getR rfl rfl hh.1 (by decide) rfl ?_
        refine AR.blk 1 (f' := (20, [some (vA h), some (vI w), some (vI c), some (vI k)], [vI k, vA (h + 1)], (C, N))) (fun _ => rfl) ?_
        have f3 := m_hsb hr hw k (by omega)
        refine AR.lald rfl hh.2.1 (by omega) (v := N (h + 1) k) rfl ?_
        refine AR.blk 1 (f' := (22, [some (vA h), some (vI w), some (vI c), some (vI k)], [vA h, vJ (N (h + 1) k)], (C, N))) (fun _ => rfl) ?_
        refine AR.getR rfl rfl hh.1 (by decide) rfl ?_
        refine AR.blk 1 (f' := (26, [some (vA h), some (vI w), some (vI c), some (vI k)], [vI w, vA (h + 1), vJ (N (h + 1) k)], (C, N))) (fun _ => rfl) ?_
        have f4 := m_hsb hr hw w (by omega)
        refine AR.lald rfl hh.2.1 (by omega) (v := N (h + 1) w) rfl ?_
        refine AR.lcmp rfl (by omega) ?_
        refine AR.if_ne rfl (by omega) (fun c5 => ?_) (fun c5 => ?_)
        · show AR E d _ (50, [some (vA h), some (vI w), some (vI c), some (vI k)], [], (C, N)) _
          refine AR.blk 2 (f' := (4, [some (vA h), some (vI w), some (vI c), some (vI (k + 1))], [], (C, N))) (fun _ => rfl) ?_
          exact ih4 _ _ (by omega) (by omega) (by rw [m_hs_S _ _ k (by omega)]; show _ = (if N (h + 1) k = N (h + 1) w ∧ N (h + 2) k = N (h + 2) w then 1 else 0) + m_ct (N (h + 1) w, N (h + 2) w) (m_hs (N (h + 1)) (N (h + 2)) k.toNat); rw [← i1]; omega)
        · show AR E d _ (31, [some (vA h), some (vI w), some (vI c), some (vI k)], [], (C, N)) _
          refine AR.blk 1 (f' := (32, [some (vA h), some (vI w), some (vI c), some (vI k)], [vA h], (C, N))) (fun _ => rfl) ?_
          refine AR.getR rfl rfl hh.1 (by decide) rfl ?_
          refine AR.blk 1 (f' := (36, [some (vA h), some (vI w), some (vI c), some (vI k)], [vI k, vA (h + 2)], (C, N))) (fun _ => rfl) ?_
          have f6 := m_hsb hr hw k (by omega)
          refine AR.lald rfl hh.2.2 (by omega) (v := N (h + 2) k) rfl ?_
          refine AR.blk 1 (f' := (38, [some (vA h), some (vI w), some (vI c), some (vI k)], [vA h, vJ (N (h + 2) k)], (C, N))) (fun _ => rfl) ?_
          refine AR.getR rfl rfl hh.1 (by decide) rfl ?_
          refine AR.blk 1 (f' := (42, [some (vA h), some (vI w), some (vI c), some (vI k)], [vI w, vA (h + 2), vJ (N (h + 2) k)], (C, N))) (fun _ => rfl) ?_
          have f7 := m_hsb hr hw w (by omega)
          refine AR.lald rfl hh.2.2 (by omega) (v := N (h + 2) w) rfl ?_
          refine AR.lcmp rfl (by omega) ?_
          refine AR.if_ne rfl (by omega) (fun c8 => ?_) (fun c8 => ?_)
          · show AR E d _ (50, [some (vA h), some (vI w), some (vI c), some (vI k)], [], (C, N)) _
            refine AR.blk 2 (f' := (4, [some (vA h), some (vI w), some (vI c), some (vI (k + 1))], [], (C, N))) (fun _ => rfl) ?_
            exact ih4 _ _ (by omega) (by omega) (by rw [m_hs_S _ _ k (by omega)]; show _ = (if N (h + 1) k = N (h + 1) w ∧ N (h + 2) k = N (h + 2) w then 1 else 0) + m_ct (N (h + 1) w, N (h + 2) w) (m_hs (N (h + 1)) (N (h + 2)) k.toNat); rw [← i1]; omega)
          · show AR E d _ (47, [some (vA h), some (vI w), some (vI c), some (vI k)], [], (C, N)) _
            refine AR.blk 3 (f' := (4, [some (vA h), some (vI w), some (vI (c + 1)), some (vI (k + 1))], [], (C, N))) (fun _ => rfl) ?_
            exact ih4 _ _ (by omega) (by omega) (by rw [m_hs_S _ _ k (by omega)]; show _ = (if N (h + 1) k = N (h + 1) w ∧ N (h + 2) k = N (h + 2) w then 1 else 0) + m_ct (N (h + 1) w, N (h + 2) w) (m_hs (N (h + 1)) (N (h + 2)) k.toNat); rw [← i1]; omega)

theorem ev_X2_timesOfLatest {d : Nat} (hd : 2 ≤ d) (hh : g_isH C h) (hr : g_rH N h H) (hw : g_wH H) : Ev E d 41 [vA h] (C, N) (some (vI (m_tl H)), (C, N)) := by
  obtain ⟨d, rfl⟩ : ∃ j, d = j + 1 := ⟨d - 1, by omega⟩
  refine Ev.intro (M := ag_mX2_timesOfLatest) rfl rfl ?_
  show AR E d _ (0, [some (vA h)], [], (C, N)) _
  refine AR.blk 2 (f' := (2, [some (vA h)], [vA h, vA h], (C, N))) (fun _ => rfl) ?_
  have f1 := hw.1
  refine AR.getI rfl rfl hh.1 (by decide) (v := (H.length : Int)) hr.1 ?_
  refine AR.blk 2 (f' := (7, [some (vA h)], [vI ((H.length : Int) - 1), vA h], (C, N))) (fun _ => rfl) ?_
  refine AR.callV [vI ((H.length : Int) - 1)] (ev_X2_timesUpTo (by omega) hh hr hw ((H.length : Int) - 1) (by omega)) hh.1 rfl rfl rfl rfl rfl ?_
  show AR E d _ (10, [some (vA h)], [vI (m_tu (N (h + 1)) (N (h + 2)) ((H.length : Int) - 1))], (C, N)) _
  have f2 := m_ct_in (N (h + 1) ((H.length : Int) - 1), N (h + 2) ((H.length : Int) - 1)) (m_hs (N (h + 1)) (N (h + 2)) (((H.length : Int) - 1) + 1).toNat)
  have f3 := m_hs_len (N (h + 1)) (N (h + 2)) (((H.length : Int) - 1) + 1).toNat
  have f4 := (show m_tu (N (h + 1)) (N (h + 2)) ((H.length : Int) - 1) = m_ct (N (h + 1) ((H.length : Int) - 1), N (h + 2) ((H.length : Int) - 1)) (m_hs (N (h + 1)) (N (h + 2)) (((H.length : Int) - 1) + 1).toNat) from rfl)
  exact AR.retI rfl (m_tl_of hr) ⟨rfl, .inl rfl⟩ rfl

theorem ev_X2_mostTimes {d : Nat} (hd : 2 ≤ d) (hh : g_isH C h) (hr : g_rH N h H) (hw : g_wH H) : Ev E d 43 [vA h] (C, N) (some (vI (m_max H)), (C, N)) := by
  obtain ⟨d, rfl⟩ : ∃ j, d = j + 1 := ⟨d - 1, by omega⟩
  have f0 := hw.1
  refine Ev.intro (M := ag_mX2_mostTimes) rfl rfl ?_
  show AR E d _ (0, [some (vA h), none, none], [], (C, N)) _
  refine AR.blk 4 (f' := (4, [some (vA h), some (vI 0), some (vI 0)], [], (C, N))) (fun _ => rfl) ?_
  suffices H4 : ∀ (j : Nat) (c : Int) (k : Int), ((H.length : Int) - k).toNat < j → (0 ≤ k ∧ k ≤ H.length ∧ 0 ≤ c ∧ c ≤ k) → (c = m_max (m_hs (N (h + 1)) (N (h + 2)) k.toNat)) → AR E d ag_mX2_mostTimes (4, [some (vA h), some (vI c), some (vI k)], [], (C, N)) (fun o_ => o_ = (some (vI (m_max H)), (C, N))) by
    exact H4 _ _ _ (Nat.lt_succ_self _) (by omega) rfl
  intro j
  induction j with
  | zero => intro c k hj; exact absurd hj (Nat.not_lt_zero _)
  | succ j ih4 =>
    intro c k hj4 i0 i1
    refine AR.blk 2 (f' := (6, [some (vA h), some (vI c), some (vI k)], [vA h, vI k], (C, N))) (fun _ => rfl) ?_
    have f1 := hw.1
    refine AR.getI rfl rfl hh.1 (by decide) (v := (H.length : Int)) hr.1 ?_
    refine AR.ic_ge rfl (by omega) (fun c2 => ?_) (fun c2 => ?_)
    · show AR E d _ (28, [some (vA h), some (vI c), some (vI k)], [], (C, N)) _
      refine AR.blk 1 (f' := (29, [some (vA h), some (vI c), some (vI k)], [vI c], (C, N))) (fun _ => rfl) ?_
      exact AR.retI rfl (by rw [i1, show k = (H.length : Int) by omega]; exact congrArg m_max hr.2) ⟨rfl, .inl rfl⟩ rfl
    · show AR E d _ (12, [some (vA h), some (vI c), some (vI k)], [], (C, N)) _
      refine AR.blk 3 (f' := (15, [some (vA h), some (vI c), some (vI k)], [vI k, vA h, vI c], (C, N))) (fun _ => rfl) ?_
      refine AR.callV [vI k] (ev_X2_timesUpTo (by omega) hh hr hw k (by omega)) hh.1 rfl rfl rfl rfl rfl ?_
      show AR E d _ (18, [some (vA h), some (vI c), some (vI k)], [vI (m_tu (N (h + 1)) (N (h + 2)) k), vI c], (C, N)) _
      have f3 := m_ct_in (N (h + 1) k, N (h + 2) k) (m_hs (N (h + 1)) (N (h + 2)) (k + 1).toNat)
      have f4 := m_hs_len (N (h + 1)) (N (h + 2)) (k + 1).toNat
      have f5 := (show m_tu (N (h + 1)) (N (h + 2)) k = m_ct (N (h + 1) k, N (h + 2) k) (m_hs (N (h + 1)) (N (h + 2)) (k + 1).toNat) from rfl)
      refine AR.max rfl rfl ⟨(by omega), Nat.le_of_ble_eq_true rfl⟩ ?_
      refine AR.blk 3 (f' := (4, [some (vA h), some (vI (if c < m_tu (N (h + 1)) (N (h + 2)) k then m_tu (N (h + 1)) (N (h + 2)) k else c)), some (vI (k + 1))], [], (C, N))) (fun _ => rfl) ?_
      exact ih4 _ _ (by omega) (by omega) (by rw [m_hs_S _ _ k (by omega)]; show _ = (if m_max (m_hs (N (h + 1)) (N (h + 2)) k.toNat) < m_ct (N (h + 1) k, N (h + 2) k) ((N (h + 1) k, N (h + 2) k) :: m_hs (N (h + 1)) (N (h + 2)) k.toNat) then m_ct (N (h + 1) k, N (h + 2) k) ((N (h + 1) k, N (h + 2) k) :: m_hs (N (h + 1)) (N (h + 2)) k.toNat) else m_max (m_hs (N (h + 1)) (N (h + 2)) k.toNat)); rw [← i1, ← m_hs_S _ _ k (by omega)]; rfl)

theorem ev_X2_different {d : Nat} (hd : 2 ≤ d) (hh : g_isH C h) (hr : g_rH N h H) (hw : g_wH H) : Ev E d 44 [vA h] (C, N) (some (vI (m_diff H)), (C, N)) := by
  obtain ⟨d, rfl⟩ : ∃ j, d = j + 1 := ⟨d - 1, by omega⟩
  have f0 := hw.1
  refine Ev.intro (M := ag_mX2_different) rfl rfl ?_
  show AR E d _ (0, [some (vA h), none, none], [], (C, N)) _
  refine AR.blk 4 (f' := (4, [some (vA h), some (vI 0), some (vI 0)], [], (C, N))) (fun _ => rfl) ?_
  suffices H4 : ∀ (j : Nat) (c : Int) (k : Int), ((H.length : Int) - k).toNat < j → (0 ≤ k ∧ k ≤ H.length ∧ 0 ≤ c ∧ c ≤ k) → (c = m_diff (m_hs (N (h + 1)) (N (h + 2)) k.toNat)) → AR E d ag_mX2_different (4, [some (vA h), some (vI c), some (vI k)], [], (C, N)) (fun o_ => o_ = (some (vI (m_diff H)), (C, N))) by
    exact H4 _ _ _ (Nat.lt_succ_self _) (by omega) rfl
  intro j
  induction j with
  | zero => intro c k hj; exact absurd hj (Nat.not_lt_zero _)
  | succ j ih4 =>
    intro c k hj4 i0 i1
    refine AR.blk 2 (f' := (6, [some (vA h), some (vI c), some (vI k)], [vA h, vI k], (C, N))) (fun _ => rfl) ?_
    have f1 := hw.1
    refine AR.getI rfl rfl hh.1 (by decide) (v := (H.length : Int)) hr.1 ?_
    refine AR.ic_ge rfl (by omega) (fun c2 => ?_) (fun c2 => ?_)
    · show AR E d _ (30, [some (vA h), some (vI c), some (vI k)], [], (C, N)) _
      refine AR.blk 1 (f' := (31, [some (vA h), some (vI c), some (vI k)], [vI c], (C, N))) (fun _ => rfl) ?_
      exact AR.retI rfl (by rw [i1, show k = (H.length : Int) by omega]; exact congrArg m_diff hr.2) ⟨rfl, .inl rfl⟩ rfl
    · show AR E d _ (12, [some (vA h), some (vI c), some (vI k)], [], (C, N)) _
      refine AR.blk 2 (f' := (14, [some (vA h), some (vI c), some (vI k)], [vI k, vA h], (C, N))) (fun _ => rfl) ?_
      refine AR.callV [vI k] (ev_X2_timesUpTo (by omega) hh hr hw k (by omega)) hh.1 rfl rfl rfl rfl rfl ?_
      show AR E d _ (17, [some (vA h), some (vI c), some (vI k)], [vI (m_tu (N (h + 1)) (N (h + 2)) k)], (C, N)) _
      have f3 := m_ct_in (N (h + 1) k, N (h + 2) k) (m_hs (N (h + 1)) (N (h + 2)) (k + 1).toNat)
      have f4 := m_hs_len (N (h + 1)) (N (h + 2)) (k + 1).toNat
      have f5 := (show m_tu (N (h + 1)) (N (h + 2)) k = m_ct (N (h + 1) k, N (h + 2) k) (m_hs (N (h + 1)) (N (h + 2)) (k + 1).toNat) from rfl)
      refine AR.blk 1 (f' := (18, [some (vA h), some (vI c), some (vI k)], [vI 1, vI (m_tu (N (h + 1)) (N (h + 2)) k)], (C, N))) (fun _ => rfl) ?_
      refine AR.ic_ne rfl (by omega) (fun c6 => ?_) (fun c6 => ?_)
      · show AR E d _ (24, [some (vA h), some (vI c), some (vI k)], [], (C, N)) _
        refine AR.blk 2 (f' := (4, [some (vA h), some (vI c), some (vI (k + 1))], [], (C, N))) (fun _ => rfl) ?_
        exact ih4 _ _ (by omega) (by omega) (by rw [m_hs_S _ _ k (by omega)]; show _ = m_diff (m_hs (N (h + 1)) (N (h + 2)) k.toNat) + (if m_ct (N (h + 1) k, N (h + 2) k) ((N (h + 1) k, N (h + 2) k) :: m_hs (N (h + 1)) (N (h + 2)) k.toNat) = 1 then 1 else 0); rw [← i1, ← m_hs_S _ _ k (by omega)]; unfold m_tu at *; omega)
      · show AR E d _ (21, [some (vA h), some (vI c), some (vI k)], [], (C, N)) _
        refine AR.blk 3 (f' := (4, [some (vA h), some (vI (c + 1)), some (vI (k + 1))], [], (C, N))) (fun _ => rfl) ?_
        exact ih4 _ _ (by omega) (by omega) (by rw [m_hs_S _ _ k (by omega)]; show _ = m_diff (m_hs (N (h + 1)) (N (h + 2)) k.toNat) + (if m_ct (N (h + 1) k, N (h + 2) k) ((N (h + 1) k, N (h + 2) k) :: m_hs (N (h + 1)) (N (h + 2)) k.toNat) = 1 then 1 else 0); rw [← i1, ← m_hs_S _ _ k (by omega)]; unfold m_tu at *; omega)
end L2e
