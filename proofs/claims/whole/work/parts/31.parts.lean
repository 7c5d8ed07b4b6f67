/-! LEVEL 2: the model's positions -/
theorem m_or (a c : Int) (k : Nat) (ha : 0 ≤ a ∧ a < ((2 ^ k : Nat) : Int)) (hc : 0 ≤ c) : ((a.toNat ||| (c * ((2 ^ k : Nat) : Int)).toNat : Nat) : Int) = a + c * ((2 ^ k : Nat) : Int) := by
  obtain ⟨x, rfl⟩ : ∃ x : Nat, a = x := ⟨a.toNat, by omega⟩
  obtain ⟨y, rfl⟩ : ∃ y : Nat, c = y := ⟨c.toNat, by omega⟩
  have e : ((y : Int) * ((2 ^ k : Nat) : Int)).toNat = 2 ^ k * y := by
    rw [← Int.natCast_mul, Int.toNat_natCast, Nat.mul_comm]
  rw [e, Int.toNat_natCast, Nat.or_comm, ← Nat.two_pow_add_eq_or_of_lt (by omega) y, Int.natCast_add, Int.natCast_mul, Int.mul_comm]
  omega
def m_pr (P : Int → Int) (a : Int) : Nat → Int
  | 0 => 0
  | k + 1 => m_pr P a k + (P (a + k) + 1) * ((8 ^ k : Nat) : Int)
theorem m_mulb (c : Int) (X : Nat) (hc : 0 ≤ c ∧ c ≤ 4) : 0 ≤ c * (X : Int) ∧ c * (X : Int) ≤ 4 * X := by
  have e : c = 0 ∨ c = 1 ∨ c = 2 ∨ c = 3 ∨ c = 4 := by omega
  rcases e with rfl | rfl | rfl | rfl | rfl <;> omega
theorem m_pr_in (P : Int → Int) (h : ∀ s, -1 ≤ P s ∧ P s ≤ 3) (a : Int) : ∀ k : Nat, 0 ≤ m_pr P a k ∧ m_pr P a k < ((8 ^ k : Nat) : Int) := by
  intro k
  induction k with
  | zero => exact ⟨Int.le_refl 0, show (0 : Int) < ((8 ^ 0 : Nat) : Int) by decide⟩
  | succ k ih =>
    have h1 := h (a + k)
    have h2 := m_mulb (P (a + k) + 1) (8 ^ k) (by omega)
    rw [Nat.pow_succ]
    show 0 ≤ m_pr P a k + (P (a + k) + 1) * ((8 ^ k : Nat) : Int) ∧ m_pr P a k + (P (a + k) + 1) * ((8 ^ k : Nat) : Int) < _
    omega
theorem m_pr_inj (P P' : Int → Int) (h : ∀ s, -1 ≤ P s ∧ P s ≤ 3) (h' : ∀ s, -1 ≤ P' s ∧ P' s ≤ 3) (a : Int) : ∀ k : Nat, m_pr P a k = m_pr P' a k → ∀ i : Nat, i < k → P (a + i) = P' (a + i) := by
  intro k
  induction k with
  | zero => intro _ i hi; omega
  | succ k ih =>
    intro he i hi
    have h1 := h (a + k)
    have h2 := h' (a + k)
    have h3 := m_pr_in P h a k
    have h4 := m_pr_in P' h' a k
    have e : m_pr P a k + (P (a + k) + 1) * ((8 ^ k : Nat) : Int) = m_pr P' a k + (P' (a + k) + 1) * ((8 ^ k : Nat) : Int) := he
    have e1 : P (a + k) = P' (a + k) := by
      have c1 : P (a + k) + 1 = 0 ∨ P (a + k) + 1 = 1 ∨ P (a + k) + 1 = 2 ∨ P (a + k) + 1 = 3 ∨ P (a + k) + 1 = 4 := by omega
      have c2 : P' (a + k) + 1 = 0 ∨ P' (a + k) + 1 = 1 ∨ P' (a + k) + 1 = 2 ∨ P' (a + k) + 1 = 3 ∨ P' (a + k) + 1 = 4 := by omega
      rcases c1 with c1 | c1 | c1 | c1 | c1 <;> rcases c2 with c2 | c2 | c2 | c2 | c2 <;> rw [c1, c2] at e <;> omega
    by_cases q : i = k
    · subst q; exact e1
    · rw [e1] at e
      exact ih (by omega) i (by omega)
def m_bp (P : Int → Int) (w : Int) : Int := m_pr P (10 * w) (if w = 3 then 6 else 10)
theorem m_bpf (P : Int → Int) (h : ∀ s, -1 ≤ P s ∧ P s ≤ 3) (a k : Int) (hk : 0 ≤ k ∧ k < 10) : (0 ≤ m_pr P a k.toNat ∧ m_pr P a k.toNat < 1073741824) ∧ (0 ≤ (P (a + k) + 1) * ((2 ^ (3 * k).toNat : Nat) : Int) ∧ (P (a + k) + 1) * ((2 ^ (3 * k).toNat : Nat) : Int) < 1073741824) ∧ (((m_pr P a k.toNat).toNat ||| ((P (a + k) + 1) * ((2 ^ (3 * k).toNat : Nat) : Int)).toNat : Nat) : Int) = m_pr P a (k + 1).toNat := by
  obtain ⟨j, rfl⟩ : ∃ j : Nat, k = j := ⟨k.toNat, by omega⟩
  have e1 : (2 : Nat) ^ (3 * (j : Int)).toNat = 8 ^ j := by
    rw [show (3 * (j : Int)).toNat = 3 * j by omega, Nat.pow_mul]
  have h1 := m_pr_in P h a j
  have h2 := h (a + j)
  have h3 := m_mulb (P (a + j) + 1) (8 ^ j) (by omega)
  have h4 : (8 : Nat) ^ j ≤ 8 ^ 9 := Nat.pow_le_pow_right (by omega) (by omega)
  have h5 : (8 : Nat) ^ 9 = 134217728 := by decide
  refine ⟨?_, ?_, ?_⟩
  · rw [show ((j : Nat) : Int).toNat = j by omega]; omega
  · rw [e1]; omega
  · rw [show ((j : Nat) : Int).toNat = j by omega, m_or _ _ _ (by rw [e1]; exact h1) (by omega), e1, show ((j : Int) + 1).toNat = j + 1 by omega]
    rfl
def m_rs (cl : Int → Int) (w : Int) : Nat → Int
  | 0 => w
  | k + 1 => m_rs cl w k + cl k * ((2 ^ (k + 1) : Nat) : Int)
def m_rest (cl : Int → Int) (w : Int) : Int := w + 2 * cl 0 + 4 * cl 1 + 8 * cl 2 + 16 * cl 3
theorem m_rs_in (cl : Int → Int) (w : Int) (h : ∀ k, cl k = 0 ∨ cl k = 1) (hw : 0 ≤ w ∧ w < 2) : ∀ k : Nat, 0 ≤ m_rs cl w k ∧ m_rs cl w k < ((2 ^ (k + 1) : Nat) : Int) := by
  intro k
  induction k with
  | zero => exact hw
  | succ k ih =>
    have h1 := h k
    have h2 : (2 : Nat) ^ (k + 1 + 1) = 2 * 2 ^ (k + 1) := by rw [Nat.pow_succ 2 (k + 1), Nat.mul_comm]
    rw [h2]
    show 0 ≤ m_rs cl w k + cl k * ((2 ^ (k + 1) : Nat) : Int) ∧ m_rs cl w k + cl k * ((2 ^ (k + 1) : Nat) : Int) < _
    rcases h1 with h1 | h1 <;> rw [h1] <;> omega
theorem m_rsf (cl : Int → Int) (w : Int) (h : ∀ k, cl k = 0 ∨ cl k = 1) (hw : 0 ≤ w ∧ w < 2) (k : Int) (hk : 0 ≤ k ∧ k < 4) : (0 ≤ m_rs cl w k.toNat ∧ m_rs cl w k.toNat < 1073741824) ∧ (0 ≤ cl k * ((2 ^ (1 + k).toNat : Nat) : Int) ∧ cl k * ((2 ^ (1 + k).toNat : Nat) : Int) < 1073741824) ∧ (((m_rs cl w k.toNat).toNat ||| (cl k * ((2 ^ (1 + k).toNat : Nat) : Int)).toNat : Nat) : Int) = m_rs cl w (k + 1).toNat := by
  obtain ⟨j, rfl⟩ : ∃ j : Nat, k = j := ⟨k.toNat, by omega⟩
  have h1 := m_rs_in cl w h hw j
  have h2 := h j
  have h4 : (2 : Nat) ^ (j + 1) ≤ 2 ^ 4 := Nat.pow_le_pow_right (by omega) (by omega)
  have h5 : (2 : Nat) ^ 4 = 16 := by decide
  have e1 : (1 + (j : Int)).toNat = j + 1 := by omega
  have h3 := m_mulb (cl j) (2 ^ (j + 1)) (by omega)
  rw [e1, show ((j : Nat) : Int).toNat = j by omega]
  refine ⟨by omega, by omega, ?_⟩
  rw [m_or _ _ _ h1 (by omega), show ((j : Int) + 1).toNat = j + 1 by omega]
  rfl
theorem m_rs_rest (cl : Int → Int) (w n : Int) (hn : 0 ≤ n ∧ n ≤ 4) (hz : ∀ k, n ≤ k → cl k = 0) : m_rs cl w n.toNat = m_rest cl w := by
  have z0 := hz 0
  have z1 := hz 1
  have z2 := hz 2
  have z3 := hz 3
  have e : n = 0 ∨ n = 1 ∨ n = 2 ∨ n = 3 ∨ n = 4 := by omega
  unfold m_rest
  rcases e with rfl | rfl | rfl | rfl | rfl
  · show w = _; omega
  · show w + cl 0 * 2 = _; omega
  · show w + cl 0 * 2 + cl 1 * 4 = _; omega
  · show w + cl 0 * 2 + cl 1 * 4 + cl 2 * 8 = _; omega
  · show w + cl 0 * 2 + cl 1 * 4 + cl 2 * 8 + cl 3 * 16 = _; omega
/-- a valid position -/
def m_vp (P cl : Int → Int) (w : Int) : Prop := (∀ s, -1 ≤ P s ∧ P s ≤ 3) ∧ (∀ k, cl k = 0 ∨ cl k = 1) ∧ (0 ≤ w ∧ w < 2)
theorem m_hk_ext (P P' : Int → Int) (a : Int) : ∀ k : Nat, (∀ i : Nat, i < k → P (a + i) = P' (a + i)) → m_hk P a k = m_hk P' a k := by
  intro k
  induction k with
  | zero => intro _; rfl
  | succ k ih =>
    intro h
    show m_hk P a k * 8 + P (a + k) + 1 = m_hk P' a k * 8 + P' (a + k) + 1
    rw [ih (fun i hi => h i (by omega)), h k (by omega)]
theorem m_pr_ext (P P' : Int → Int) (a : Int) : ∀ k : Nat, (∀ i : Nat, i < k → P (a + i) = P' (a + i)) → m_pr P a k = m_pr P' a k := by
  intro k
  induction k with
  | zero => intro _; rfl
  | succ k ih =>
    intro h
    show m_pr P a k + (P (a + k) + 1) * ((8 ^ k : Nat) : Int) = m_pr P' a k + (P' (a + k) + 1) * ((8 ^ k : Nat) : Int)
    rw [ih (fun i hi => h i (by omega)), h k (by omega)]
/-- the two kinds of keys tell the same -/
theorem m_keys {P cl : Int → Int} {w : Int} {P' cl' : Int → Int} {w' : Int} (h : m_vp P cl w) (h' : m_vp P' cl' w') : (m_key P cl w).1 = (m_key P' cl' w').1 ∧ (m_key P cl w).2 = (m_key P' cl' w').2 ↔ (m_bp P 0 = m_bp P' 0 ∧ m_bp P 1 = m_bp P' 1 ∧ m_bp P 2 = m_bp P' 2 ∧ m_bp P 3 = m_bp P' 3) ∧ m_rest cl w = m_rest cl' w' := by
  have a0 := h.2.1 0
  have a1 := h.2.1 1
  have a2 := h.2.1 2
  have a3 := h.2.1 3
  have b0 := h'.2.1 0
  have b1 := h'.2.1 1
  have b2 := h'.2.1 2
  have b3 := h'.2.1 3
  have c0 := h.2.2
  have c1 := h'.2.2
  have d1 := m_hk_18 P h.1 18
  have d2 := m_hk_18 P' h'.1 18
  constructor
  · intro e
    have e1 : m_hk P 0 18 = m_hk P' 0 18 := e.1
    have e2 : m_hk P 18 18 * 32 + (m_ckey cl * 2 + w) = m_hk P' 18 18 * 32 + (m_ckey cl' * 2 + w') := e.2
    unfold m_ckey at e2
    have f1 := m_hk_inj P P' h.1 h'.1 0 18 e1
    have f2 := m_hk_inj P P' h.1 h'.1 18 18 (by omega)
    have f : ∀ i : Int, 0 ≤ i → i < 36 → P i = P' i := by
      intro i h0 h1
      by_cases q : i < 18
      · have := f1 i.toNat (by omega)
        rw [show (0 : Int) + (i.toNat : Nat) = i by omega] at this
        exact this
      · have := f2 (i - 18).toNat (by omega)
        rw [show (18 : Int) + ((i - 18).toNat : Nat) = i by omega] at this
        exact this
    refine ⟨⟨m_pr_ext P P' _ _ (fun i hi => f _ (by omega) ?_), m_pr_ext P P' _ _ (fun i hi => f _ (by omega) ?_), m_pr_ext P P' _ _ (fun i hi => f _ (by omega) ?_), m_pr_ext P P' _ _ (fun i hi => f _ (by omega) ?_)⟩, by unfold m_rest; omega⟩
    · rw [if_neg (by omega)] at hi; omega
    · rw [if_neg (by omega)] at hi; omega
    · rw [if_neg (by omega)] at hi; omega
    · rw [if_pos rfl] at hi; omega
  · intro e
    have g0 := m_pr_inj P P' h.1 h'.1 _ _ e.1.1
    have g1 := m_pr_inj P P' h.1 h'.1 _ _ e.1.2.1
    have g2 := m_pr_inj P P' h.1 h'.1 _ _ e.1.2.2.1
    have g3 := m_pr_inj P P' h.1 h'.1 _ _ e.1.2.2.2
    rw [if_neg (by omega)] at g0 g1 g2
    rw [if_pos rfl] at g3
    have f : ∀ i : Int, 0 ≤ i → i < 36 → P i = P' i := by
      intro i h0 h1
      by_cases q0 : i < 10
      · have := g0 i.toNat (by omega)
        rw [show (10 : Int) * 0 + (i.toNat : Nat) = i by omega] at this
        exact this
      · by_cases q1 : i < 20
        · have := g1 (i - 10).toNat (by omega)
          rw [show (10 : Int) * 1 + ((i - 10).toNat : Nat) = i by omega] at this
          exact this
        · by_cases q2 : i < 30
          · have := g2 (i - 20).toNat (by omega)
            rw [show (10 : Int) * 2 + ((i - 20).toNat : Nat) = i by omega] at this
            exact this
          · have := g3 (i - 30).toNat (by omega)
            rw [show (10 : Int) * 3 + ((i - 30).toNat : Nat) = i by omega] at this
            exact this
    have e2 := e.2
    unfold m_rest at e2
    have k1 : m_hk P 0 18 = m_hk P' 0 18 := m_hk_ext P P' _ _ (fun i hi => f _ (by omega) (by omega))
    have k2 : m_hk P 18 18 = m_hk P' 18 18 := m_hk_ext P P' _ _ (fun i hi => f _ (by omega) (by omega))
    refine ⟨k1, ?_⟩
    show m_hk P 18 18 * 32 + (m_ckey cl * 2 + w) = m_hk P' 18 18 * 32 + (m_ckey cl' * 2 + w')
    unfold m_ckey
    omega
section L2j
variable {E : Nat × (Int → Int)} {C : List ag_C} {N : Nat → Int → Int} {m : Nat} {P : Int → Int} {n : Int} {q p cl tn : Int → Int} {t bg en ca : Int} {gn pu mk : Int → Int}

theorem ev_X7_boardPart {d : Nat} (hd : 2 ≤ d) (hm : g_isM C m) (hr : g_rR (N (m + 1)) P n q p cl tn) (hw : g_wB P n q p cl tn) (w : Int) (h0 : 0 ≤ w ∧ w < 4) : Ev E d 134 [vA m, vI w] (C, N) (some (vI (m_bp P w)), (C, N)) := by
  obtain ⟨d, rfl⟩ : ∃ j, d = j + 1 := ⟨d - 1, by omega⟩
  refine Ev.intro (M := ag_mX7_boardPart) rfl rfl ?_
  show AR E d _ (0, [some (vA m), some (vI w), none, none], [], (C, N)) _
  refine AR.blk 4 (f' := (4, [some (vA m), some (vI w), some (vI 0), some (vI 0)], [], (C, N))) (fun _ => rfl) ?_
  suffices H4 : ∀ (j : Nat) (v : Int) (k : Int), (10 - k).toNat < j → (0 ≤ k ∧ k ≤ 10 ∧ 10 * w + k ≤ 36) → (v = m_pr P (10 * w) k.toNat) → AR E d ag_mX7_boardPart (4, [some (vA m), some (vI w), some (vI v), some (vI k)], [], (C, N)) (fun o_ => o_ = (some (vI (m_bp P w)), (C, N))) by
    exact H4 _ _ _ (Nat.lt_succ_self _) (by omega) rfl
  intro j
  induction j with
  | zero => intro v k hj; exact absurd hj (Nat.not_lt_zero _)
  | succ j ih4 =>
    intro v k hj4 i0 i1
    have z0 := fun hk => m_bpf P hw.1 (10 * w) k hk
    refine AR.blk 2 (f' := (7, [some (vA m), some (vI w), some (vI v), some (vI k)], [vI 10, vI k], (C, N))) (fun _ => rfl) ?_
    refine AR.ic_ge rfl (by first | omega | (have z1 := z0 (by omega); omega)) (fun c1 => ?_) (fun c1 => ?_)
    · show AR E d _ (44, [some (vA m), some (vI w), some (vI v), some (vI k)], [], (C, N)) _
      refine AR.blk 1 (f' := (45, [some (vA m), some (vI w), some (vI v), some (vI k)], [vI v], (C, N))) (fun _ => rfl) ?_
      exact AR.retI rfl (by rw [i1]; unfold m_bp; first | rw [show k.toNat = 10 by omega, if_neg (by omega)] | rw [show k.toNat = 6 by omega, if_pos (by omega)]) ⟨rfl, .inl rfl⟩ rfl
    · show AR E d _ (10, [some (vA m), some (vI w), some (vI v), some (vI k)], [], (C, N)) _
      refine AR.blk 6 (f' := (18, [some (vA m), some (vI w), some (vI v), some (vI k)], [vI 36, vI ((10 * w) + k)], (C, N))) (fun _ => rfl) ?_
      refine AR.ic_ge rfl (by first | omega | (have z1 := z0 (by omega); omega)) (fun c2 => ?_) (fun c2 => ?_)
      · show AR E d _ (44, [some (vA m), some (vI w), some (vI v), some (vI k)], [], (C, N)) _
        refine AR.blk 1 (f' := (45, [some (vA m), some (vI w), some (vI v), some (vI k)], [vI v], (C, N))) (fun _ => rfl) ?_
        exact AR.retI rfl (by rw [i1]; unfold m_bp; first | rw [show k.toNat = 10 by omega, if_neg (by omega)] | rw [show k.toNat = 6 by omega, if_pos (by omega)]) ⟨rfl, .inl rfl⟩ rfl
      · show AR E d _ (21, [some (vA m), some (vI w), some (vI v), some (vI k)], [], (C, N)) _
        refine AR.blk 7 (f' := (29, [some (vA m), some (vI w), some (vI v), some (vI k)], [vI ((10 * w) + k), vA m, vI v], (C, N))) (fun _ => rfl) ?_
        refine AR.callV [vI ((10 * w) + k)] (ev_X7_pieceAt (by omega) hm hr hw ((10 * w) + k) (by first | omega | (have z1 := z0 (by omega); omega))) hm.1 rfl rfl rfl rfl rfl ?_
        show AR E d _ (32, [some (vA m), some (vI w), some (vI v), some (vI k)], [vI (P ((10 * w) + k) + 1), vI v], (C, N)) _
        have f3 := hw.1 ((10 * w) + k)
        refine AR.blk 3 (f' := (35, [some (vA m), some (vI w), some (vI v), some (vI k)], [vI (3 * k), vI (P ((10 * w) + k) + 1), vI v], (C, N))) (fun _ => rfl) ?_
        refine AR.ishl rfl (by first | omega | (have z1 := z0 (by omega); omega)) ?_
        refine AR.ior rfl (by first | omega | (have z1 := z0 (by omega); omega)) ?_
        refine AR.blk 3 (f' := (4, [some (vA m), some (vI w), some (vI ((v).toNat ||| ((P ((10 * w) + k) + 1) * (2 ^ (3 * k).toNat : Nat)).toNat : Nat)), some (vI (k + 1))], [], (C, N))) (fun _ => rfl) ?_
        exact ih4 _ _ (by omega) (by omega) (by rw [i1]; exact (z0 (by omega)).2.2)

theorem ev_X7_restPart {d : Nat} (hd : 2 ≤ d) (hm : g_isM C m) (hr : g_rR (N (m + 1)) P n q p cl tn) (hw : g_wB P n q p cl tn) (hs : g_rS (N (m + 1)) t bg en ca gn pu mk) (hv : g_wS t bg en ca gn pu mk) : Ev E d 135 [vA m] (C, N) (some (vI (m_rest cl (t % 2))), (C, N)) := by
  obtain ⟨d, rfl⟩ : ∃ j, d = j + 1 := ⟨d - 1, by omega⟩
  have y0 := hw.2.2.1
  refine Ev.intro (M := ag_mX7_restPart) rfl rfl ?_
  show AR E d _ (0, [some (vA m), none, none], [], (C, N)) _
  refine AR.blk 1 (f' := (1, [some (vA m), none, none], [vA m], (C, N))) (fun _ => rfl) ?_
  refine AR.getR rfl rfl hm.1 (by decide) rfl ?_
  refine AR.blk 1 (f' := (5, [some (vA m), none, none], [vI 1, vA (m + 1)], (C, N))) (fun _ => rfl) ?_
  have f1 := hv.1
  have f2 := hv.2.1
  have f3 := hv.2.2.1
  have f4 := hv.2.2.2.1
  refine AR.iald rfl hm.2.1 (by first | omega | (have z1 := z0 (by omega); omega)) (v := t % 2) hs.2.1 ?_
  refine AR.blk 3 (f' := (9, [some (vA m), some (vI (t % 2)), some (vI 0)], [], (C, N))) (fun _ => rfl) ?_
  suffices H9 : ∀ (j : Nat) (v : Int) (k : Int), (4 - k).toNat < j → (0 ≤ k ∧ k ≤ n) → (v = m_rs cl (t % 2) k.toNat) → AR E d ag_mX7_restPart (9, [some (vA m), some (vI v), some (vI k)], [], (C, N)) (fun o_ => o_ = (some (vI (m_rest cl (t % 2))), (C, N))) by
    exact H9 _ _ _ (Nat.lt_succ_self _) (by omega) rfl
  intro j
  induction j with
  | zero => intro v k hj; exact absurd hj (Nat.not_lt_zero _)
  | succ j ih9 =>
    intro v k hj9 i0 i1
    have z0 := fun hk => m_rsf cl (t % 2) (fun k => (hw.2.2.2.2.1 k).1) (by omega) k hk
    refine AR.blk 2 (f' := (11, [some (vA m), some (vI v), some (vI k)], [vA m, vI k], (C, N))) (fun _ => rfl) ?_
    refine AR.getR rfl rfl hm.1 (by decide) rfl ?_
    refine AR.blk 1 (f' := (16, [some (vA m), some (vI v), some (vI k)], [vI 14, vA (m + 1), vI k], (C, N))) (fun _ => rfl) ?_
    have f5 := hw.2.2.1
    refine AR.iald rfl hm.2.1 (by first | omega | (have z1 := z0 (by omega); omega)) (v := n) hr.2.1 ?_
    refine AR.ic_ge rfl (by first | omega | (have z1 := z0 (by omega); omega)) (fun c6 => ?_) (fun c6 => ?_)
    · show AR E d _ (39, [some (vA m), some (vI v), some (vI k)], [], (C, N)) _
      refine AR.blk 1 (f' := (40, [some (vA m), some (vI v), some (vI k)], [vI v], (C, N))) (fun _ => rfl) ?_
      exact AR.retI rfl (by rw [i1, show k = n by omega]; exact m_rs_rest cl _ n y0 (fun k hk => (hw.2.2.2.2.2 k hk).1)) ⟨rfl, .inl rfl⟩ rfl
    · show AR E d _ (20, [some (vA m), some (vI v), some (vI k)], [], (C, N)) _
      refine AR.blk 4 (f' := (24, [some (vA m), some (vI v), some (vI k)], [vI 2, vI k, vA m, vI v], (C, N))) (fun _ => rfl) ?_
      refine AR.callV [vI k, vI 2] (ev_X7_ofLock (by omega) hm k 2 (by omega) (cl k) (hr.2.2.2 _ (by omega) (by omega)).1) hm.1 rfl rfl rfl rfl rfl ?_
      show AR E d _ (27, [some (vA m), some (vI v), some (vI k)], [vI (cl k), vI v], (C, N)) _
      have f7 := hw.2.2.2.2.1 k
      refine AR.blk 3 (f' := (30, [some (vA m), some (vI v), some (vI k)], [vI (1 + k), vI (cl k), vI v], (C, N))) (fun _ => rfl) ?_
      refine AR.ishl rfl (by first | omega | (have z1 := z0 (by omega); omega)) ?_
      refine AR.ior rfl (by first | omega | (have z1 := z0 (by omega); omega)) ?_
      refine AR.blk 3 (f' := (9, [some (vA m), some (vI ((v).toNat ||| ((cl k) * (2 ^ (1 + k).toNat : Nat)).toNat : Nat)), some (vI (k + 1))], [], (C, N))) (fun _ => rfl) ?_
      exact ih9 _ _ (by omega) (by omega) (by rw [i1]; exact (z0 (by omega)).2.2)
end L2j
