/-! LEVEL 2: a board of the class -/
def g_isB (C : List ag_C) (b : Nat) : Prop := C[b]? = some (0, 6, [some (b + 1), none, some (b + 2), some (b + 3), some (b + 4), some (b + 5)]) ∧ C[b + 1]? = some (8, 36, []) ∧ C[b + 2]? = some (8, 4, []) ∧ C[b + 3]? = some (8, 4, []) ∧ C[b + 4]? = some (9, 4, []) ∧ C[b + 5]? = some (8, 4, [])
/-- pieces (-1: none), locks: how many, squares, periods, closed, turns -/
def g_wB (P : Int → Int) (n : Int) (q p cl tn : Int → Int) : Prop := (∀ s, -1 ≤ P s ∧ P s ≤ 3) ∧ (∀ s, ¬ (0 ≤ s ∧ s < 36) → P s = -1) ∧ (0 ≤ n ∧ n ≤ 4) ∧ (∀ k, 0 ≤ k → k < n → (0 ≤ q k ∧ q k < 36) ∧ (2 ≤ p k ∧ p k ≤ 5)) ∧ (∀ k, (cl k = 0 ∨ cl k = 1) ∧ 0 ≤ tn k) ∧ (∀ k, n ≤ k → cl k = 0 ∧ tn k = 0)
def g_rB (N : Nat → Int → Int) (b : Nat) (P : Int → Int) (n : Int) (q p cl tn : Int → Int) : Prop := (∀ s, 0 ≤ s → s < 36 → N (b + 1) s = P s) ∧ N b 1 = n ∧ (∀ k, 0 ≤ k → k < 4 → N (b + 2) k = q k ∧ N (b + 3) k = p k) ∧ (∀ k, 0 ≤ k → k < 4 → N (b + 4) k = cl k ∧ N (b + 5) k = tn k)
def m_sum (f : Int → Int) : Nat → Int
  | 0 => 0
  | k + 1 => m_sum f k + f k
theorem m_sum_succ (f : Int → Int) {k : Int} (h : 0 ≤ k) : m_sum f (k + 1).toNat = m_sum f k.toNat + f k := by
  rw [show (k + 1).toNat = k.toNat + 1 by omega]
  show m_sum f k.toNat + f (k.toNat : Int) = _
  rw [show ((k.toNat : Nat) : Int) = k by omega]
theorem m_sum_b (f : Int → Int) (h : ∀ k, 0 ≤ f k ∧ f k ≤ 1) : ∀ n : Nat, 0 ≤ m_sum f n ∧ m_sum f n ≤ n := by
  intro n
  induction n with
  | zero => exact ⟨Int.le_refl 0, Int.le_refl 0⟩
  | succ n ih =>
    have := h n
    show 0 ≤ m_sum f n + f n ∧ m_sum f n + f n ≤ ((n + 1 : Nat) : Int)
    omega
def m_cnt (P : Int → Int) (w : Int) : Int := m_sum (fun s => if m_own (P s) = w then 1 else 0) 36
def m_tugs (P : Int → Int) (w : Int) : Int := m_sum (fun s => if m_own (P s) = w ∧ m_tug (P s) = 1 then 1 else 0) 36
theorem m_cnt_in (P : Int → Int) (w : Int) : 0 ≤ m_cnt P w ∧ m_cnt P w ≤ 36 := m_sum_b _ (fun k => by omega) 36
theorem m_tugs_in (P : Int → Int) (w : Int) : 0 ≤ m_tugs P w ∧ m_tugs P w ≤ 36 := m_sum_b _ (fun k => by omega) 36
def m_la (n : Int) (q : Int → Int) (s : Int) : Int := if 0 < n ∧ q 0 = s then 0 else if 1 < n ∧ q 1 = s then 1 else if 2 < n ∧ q 2 = s then 2 else if 3 < n ∧ q 3 = s then 3 else -1
theorem m_la_in (n : Int) (q : Int → Int) (s : Int) (h : 0 ≤ n) : -1 ≤ m_la n q s ∧ m_la n q s < 4 ∧ m_la n q s < n + (if n = 0 then 0 else 0) := by unfold m_la; omega
def m_cl (n : Int) (q cl : Int → Int) (s : Int) : Int := if 0 ≤ m_la n q s then cl (m_la n q s) else 0
theorem m_cl_in (n : Int) (q cl : Int → Int) (s : Int) (h : ∀ k, (cl k = 0 ∨ cl k = 1)) : m_cl n q cl s = 0 ∨ m_cl n q cl s = 1 := by
  unfold m_cl
  split
  · exact h _
  · exact .inl rfl
/-- how many pieces stand on from the c-th square ahead, with room for k more -/
def m_fr (P : Int → Int) (s st : Int) : Nat → Int → Int
  | 0, c => c
  | k + 1, c => if P (s + (c + 1) * st) = -1 then c else m_fr P s st k (c + 1)
theorem m_fr_in (P : Int → Int) (s st : Int) : ∀ (k : Nat) (c : Int), c ≤ m_fr P s st k c ∧ m_fr P s st k c ≤ c + k := by
  intro k
  induction k with
  | zero => intro c; exact ⟨Int.le_refl _, by show c ≤ c + 0; omega⟩
  | succ k ih =>
    intro c
    have := ih (c + 1)
    unfold m_fr
    split <;> omega
def m_std (P : Int → Int) (s d : Int) : Int := m_fr P s (m_step d) (m_room s d).toNat 0
theorem m_std_in (P : Int → Int) (s d : Int) (h : 0 ≤ s ∧ s < 36) : 0 ≤ m_std P s d ∧ m_std P s d ≤ m_room s d ∧ m_std P s d ≤ 5 := by
  have h1 := m_fr_in P s (m_step d) (m_room s d).toNat 0
  have h2 := m_room_in s d h
  unfold m_std
  omega
def m_cause (P : Int → Int) (n : Int) (q cl : Int → Int) (s d : Int) : Int := if m_goes (P s) d = 0 then 10 else if m_room s d = 0 then 11 else if m_cl n q cl (m_ahead s d (m_std P s d + 1)) = 1 then 12 else if m_tug (P s) + 1 < m_std P s d then 13 else 0
theorem m_ahead_in (s d k : Int) (h : 0 ≤ s ∧ s < 36) (hd : 0 ≤ d ∧ d < 4) (hk : 0 ≤ k) : -1 ≤ m_ahead s d k ∧ m_ahead s d k < 36 ∧ (m_ahead s d k = -1 ↔ m_room s d < k) := by
  have e : d = 0 ∨ d = 1 ∨ d = 2 ∨ d = 3 := by omega
  unfold m_ahead m_room m_step
  rcases e with rfl | rfl | rfl | rfl <;> simp <;> omega
theorem m_cause_in (P : Int → Int) (n : Int) (q cl : Int → Int) (s d : Int) : 0 ≤ m_cause P n q cl s d ∧ m_cause P n q cl s d ≤ 13 := by unfold m_cause; omega
def m_causeD (P : Int → Int) (c s d : Int) : Int := if c = 10 then m_tug (P s) else if c = 11 then s else if c = 12 then m_ahead s d (m_std P s d + 1) else m_std P s d
def m_off (P : Int → Int) (s d : Int) : Int := if m_std P s d = 0 ∨ m_std P s d < m_room s d then -1 else P (m_ahead s d (m_std P s d))
def m_code (P : Int → Int) (n : Int) (q cl : Int → Int) (w m : Int) : Int := if m_own (P (m / 4)) = w ∧ m_cause P n q cl (m / 4) (m % 4) = 0 then 1 else 0
def m_mv (P : Int → Int) (n : Int) (q cl : Int → Int) (w : Int) : Int := m_sum (m_code P n q cl w) 144
theorem m_code_in (P : Int → Int) (n : Int) (q cl : Int → Int) (w m : Int) : 0 ≤ m_code P n q cl w m ∧ m_code P n q cl w m ≤ 1 := by unfold m_code; omega
theorem m_mv_in (P : Int → Int) (n : Int) (q cl : Int → Int) (w : Int) : 0 ≤ m_mv P n q cl w ∧ m_mv P n q cl w ≤ 144 := m_sum_b _ (m_code_in P n q cl w) 144
def m_sign (P : Int → Int) (n : Int) (q cl : Int → Int) (s : Int) : Int := if P s = 0 then 98 else if P s = 1 then 116 else if P s = 2 then 66 else if P s = 3 then 84 else if m_la n q s = -1 then 46 else if m_cl n q cl s = 1 then 35 else 61
section L2b
variable {E : Nat × (Int → Int)} {C : List ag_C} {N : Nat → Int → Int} {b : Nat} {P : Int → Int} {n : Int} {q p cl tn : Int → Int}

theorem m_off_in (P : Int → Int) (s x : Int) (h : ∀ s, -1 ≤ P s ∧ P s ≤ 3) : -1 ≤ m_off P s x ∧ m_off P s x ≤ 3 := by
  unfold m_off
  split
  · omega
  · exact h _

theorem m_sqs (s x c : Int) (h : 0 ≤ s ∧ s < 36) (hx : 0 ≤ x ∧ x < 4) (hc : 0 ≤ c ∧ c < m_room s x) : 0 ≤ s + (c + 1) * m_step x ∧ s + (c + 1) * m_step x < 36 := by
  have e : x = 0 ∨ x = 1 ∨ x = 2 ∨ x = 3 := by omega
  revert hc
  unfold m_room m_step
  rcases e with rfl | rfl | rfl | rfl <;> simp <;> omega

theorem ev_X0_pieceAt {d : Nat} (hd : 1 ≤ d) (hb : g_isB C b) (hr : g_rB N b P n q p cl tn) (hw : g_wB P n q p cl tn) (s : Int) (h0 : ag_in s) : Ev E d 2 [vA b, vI s] (C, N) (some (vI (P s)), (C, N)) := by
  obtain ⟨d, rfl⟩ : ∃ j, d = j + 1 := ⟨d - 1, by omega⟩
  refine Ev.intro (M := ag_mX0_pieceAt) rfl rfl ?_
  show AR E d _ (0, [some (vA b), some (vI s)], [], (C, N)) _
  refine AR.blk 1 (f' := (1, [some (vA b), some (vI s)], [vI s], (C, N))) (fun _ => rfl) ?_
  refine AR.if_lt rfl (by omega) (fun c1 => ?_) (fun c1 => ?_)
  · show AR E d _ (19, [some (vA b), some (vI s)], [], (C, N)) _
    refine AR.blk 1 (f' := (20, [some (vA b), some (vI s)], [vI (-1)], (C, N))) (fun _ => rfl) ?_
    exact AR.retI rfl (by first | rfl | exact (hw.2.1 _ (by omega)).symm) ⟨rfl, .inl rfl⟩ rfl
  · show AR E d _ (4, [some (vA b), some (vI s)], [], (C, N)) _
    refine AR.blk 2 (f' := (7, [some (vA b), some (vI s)], [vI 36, vI s], (C, N))) (fun _ => rfl) ?_
    refine AR.ic_ge rfl (by omega) (fun c2 => ?_) (fun c2 => ?_)
    · show AR E d _ (19, [some (vA b), some (vI s)], [], (C, N)) _
      refine AR.blk 1 (f' := (20, [some (vA b), some (vI s)], [vI (-1)], (C, N))) (fun _ => rfl) ?_
      exact AR.retI rfl (by first | rfl | exact (hw.2.1 _ (by omega)).symm) ⟨rfl, .inl rfl⟩ rfl
    · show AR E d _ (10, [some (vA b), some (vI s)], [], (C, N)) _
      refine AR.blk 1 (f' := (11, [some (vA b), some (vI s)], [vA b], (C, N))) (fun _ => rfl) ?_
      refine AR.getR rfl rfl hb.1 (by decide) rfl ?_
      refine AR.blk 1 (f' := (15, [some (vA b), some (vI s)], [vI s, vA (b + 1)], (C, N))) (fun _ => rfl) ?_
      have f3 := hw.1 s
      refine AR.iald rfl hb.2.1 (by omega) (v := P s) (hr.1 _ (by omega) (by omega)) ?_
      refine AR.blk 1 (f' := (20, [some (vA b), some (vI s)], [vI (P s)], (C, N))) (fun _ => rfl) ?_
      exact AR.retI rfl (by first | rfl | exact (hw.2.1 _ (by omega)).symm) ⟨rfl, .inl rfl⟩ rfl

theorem ev_X0_countOf {d : Nat} (hd : 2 ≤ d) (hb : g_isB C b) (hr : g_rB N b P n q p cl tn) (hw : g_wB P n q p cl tn) (w : Int) (h0 : ag_in w) : Ev E d 4 [vA b, vI w] (C, N) (some (vI (m_cnt P w)), (C, N)) := by
  obtain ⟨d, rfl⟩ : ∃ j, d = j + 1 := ⟨d - 1, by omega⟩
  refine Ev.intro (M := ag_mX0_countOf) rfl rfl ?_
  show AR E d _ (0, [some (vA b), some (vI w), none, none], [], (C, N)) _
  refine AR.blk 4 (f' := (4, [some (vA b), some (vI w), some (vI 0), some (vI 0)], [], (C, N))) (fun _ => rfl) ?_
  suffices H4 : ∀ (j : Nat) (c : Int) (k : Int), (36 - k).toNat < j → (0 ≤ k ∧ k ≤ 36 ∧ 0 ≤ c ∧ c ≤ k) → (c = m_sum (fun s => if m_own (P s) = w then 1 else 0) k.toNat) → AR E d ag_mX0_countOf (4, [some (vA b), some (vI w), some (vI c), some (vI k)], [], (C, N)) (fun o_ => o_ = (some (vI (m_cnt P w)), (C, N))) by
    exact H4 _ _ _ (Nat.lt_succ_self _) (by omega) rfl
  intro j
  induction j with
  | zero => intro c k hj; exact absurd hj (Nat.not_lt_zero _)
  | succ j ih4 =>
    intro c k hj4 i0 i1
    refine AR.blk 2 (f' := (7, [some (vA b), some (vI w), some (vI c), some (vI k)], [vI 36, vI k], (C, N))) (fun _ => rfl) ?_
    refine AR.ic_ge rfl (by omega) (fun c1 => ?_) (fun c1 => ?_)
    · show AR E d _ (32, [some (vA b), some (vI w), some (vI c), some (vI k)], [], (C, N)) _
      refine AR.blk 1 (f' := (33, [some (vA b), some (vI w), some (vI c), some (vI k)], [vI c], (C, N))) (fun _ => rfl) ?_
      exact AR.retI rfl (by rw [i1, show k = 36 by omega]; rfl) ⟨rfl, .inl rfl⟩ rfl
    · show AR E d _ (10, [some (vA b), some (vI w), some (vI c), some (vI k)], [], (C, N)) _
      refine AR.blk 1 (f' := (11, [some (vA b), some (vI w), some (vI c), some (vI k)], [vA b], (C, N))) (fun _ => rfl) ?_
      refine AR.getR rfl rfl hb.1 (by decide) rfl ?_
      refine AR.blk 1 (f' := (15, [some (vA b), some (vI w), some (vI c), some (vI k)], [vI k, vA (b + 1)], (C, N))) (fun _ => rfl) ?_
      have f2 := hw.1 k
      refine AR.iald rfl hb.2.1 (by omega) (v := P k) (hr.1 _ (by omega) (by omega)) ?_
      refine AR.callS [vI (P k)] (ev_X6_ownerOf (by omega) (P k) (by omega)) rfl rfl rfl rfl rfl ?_
      show AR E d _ (19, [some (vA b), some (vI w), some (vI c), some (vI k)], [vI (m_own (P k))], (C, N)) _
      have f3 := m_own_in ((P k)) (by omega)
      refine AR.blk 1 (f' := (20, [some (vA b), some (vI w), some (vI c), some (vI k)], [vI w, vI (m_own (P k))], (C, N))) (fun _ => rfl) ?_
      refine AR.ic_ne rfl (by omega) (fun c4 => ?_) (fun c4 => ?_)
      · show AR E d _ (26, [some (vA b), some (vI w), some (vI c), some (vI k)], [], (C, N)) _
        refine AR.blk 2 (f' := (4, [some (vA b), some (vI w), some (vI c), some (vI (k + 1))], [], (C, N))) (fun _ => rfl) ?_
        exact ih4 _ _ (by omega) (by omega) (by rw [m_sum_succ _ (by omega), ← i1]; omega)
      · show AR E d _ (23, [some (vA b), some (vI w), some (vI c), some (vI k)], [], (C, N)) _
        refine AR.blk 3 (f' := (4, [some (vA b), some (vI w), some (vI (c + 1)), some (vI (k + 1))], [], (C, N))) (fun _ => rfl) ?_
        exact ih4 _ _ (by omega) (by omega) (by rw [m_sum_succ _ (by omega), ← i1]; omega)

theorem ev_X0_tugsOf {d : Nat} (hd : 2 ≤ d) (hb : g_isB C b) (hr : g_rB N b P n q p cl tn) (hw : g_wB P n q p cl tn) (w : Int) (h0 : ag_in w) : Ev E d 5 [vA b, vI w] (C, N) (some (vI (m_tugs P w)), (C, N)) := by
  obtain ⟨d, rfl⟩ : ∃ j, d = j + 1 := ⟨d - 1, by omega⟩
  refine Ev.intro (M := ag_mX0_tugsOf) rfl rfl ?_
  show AR E d _ (0, [some (vA b), some (vI w), none, none], [], (C, N)) _
  refine AR.blk 4 (f' := (4, [some (vA b), some (vI w), some (vI 0), some (vI 0)], [], (C, N))) (fun _ => rfl) ?_
  suffices H4 : ∀ (j : Nat) (c : Int) (k : Int), (36 - k).toNat < j → (0 ≤ k ∧ k ≤ 36 ∧ 0 ≤ c ∧ c ≤ k) → (c = m_sum (fun s => if m_own (P s) = w ∧ m_tug (P s) = 1 then 1 else 0) k.toNat) → AR E d ag_mX0_tugsOf (4, [some (vA b), some (vI w), some (vI c), some (vI k)], [], (C, N)) (fun o_ => o_ = (some (vI (m_tugs P w)), (C, N))) by
    exact H4 _ _ _ (Nat.lt_succ_self _) (by omega) rfl
  intro j
  induction j with
  | zero => intro c k hj; exact absurd hj (Nat.not_lt_zero _)
  | succ j ih4 =>
    intro c k hj4 i0 i1
    refine AR.blk 2 (f' := (7, [some (vA b), some (vI w), some (vI c), some (vI k)], [vI 36, vI k], (C, N))) (fun _ => rfl) ?_
    refine AR.ic_ge rfl (by omega) (fun c1 => ?_) (fun c1 => ?_)
    · show AR E d _ (44, [some (vA b), some (vI w), some (vI c), some (vI k)], [], (C, N)) _
      refine AR.blk 1 (f' := (45, [some (vA b), some (vI w), some (vI c), some (vI k)], [vI c], (C, N))) (fun _ => rfl) ?_
      exact AR.retI rfl (by rw [i1, show k = 36 by omega]; rfl) ⟨rfl, .inl rfl⟩ rfl
    · show AR E d _ (10, [some (vA b), some (vI w), some (vI c), some (vI k)], [], (C, N)) _
      refine AR.blk 1 (f' := (11, [some (vA b), some (vI w), some (vI c), some (vI k)], [vA b], (C, N))) (fun _ => rfl) ?_
      refine AR.getR rfl rfl hb.1 (by decide) rfl ?_
      refine AR.blk 1 (f' := (15, [some (vA b), some (vI w), some (vI c), some (vI k)], [vI k, vA (b + 1)], (C, N))) (fun _ => rfl) ?_
      have f2 := hw.1 k
      refine AR.iald rfl hb.2.1 (by omega) (v := P k) (hr.1 _ (by omega) (by omega)) ?_
      refine AR.callS [vI (P k)] (ev_X6_ownerOf (by omega) (P k) (by omega)) rfl rfl rfl rfl rfl ?_
      show AR E d _ (19, [some (vA b), some (vI w), some (vI c), some (vI k)], [vI (m_own (P k))], (C, N)) _
      have f3 := m_own_in ((P k)) (by omega)
      refine AR.blk 1 (f' := (20, [some (vA b), some (vI w), some (vI c), some (vI k)], [vI w, vI (m_own (P k))], (C, N))) (fun _ => rfl) ?_
      refine AR.ic_ne rfl (by omega) (fun c4 => ?_) (fun c4 => ?_)
      · show AR E d _ (38, [some (vA b), some (vI w), some (vI c), some (vI k)], [], (C, N)) _
        refine AR.blk 2 (f' := (4, [some (vA b), some (vI w), some (vI c), some (vI (k + 1))], [], (C, N))) (fun _ => rfl) ?_
        exact ih4 _ _ (by omega) (by omega) (by rw [m_sum_succ _ (by omega), ← i1]; omega)
      · show AR E d _ (23, [some (vA b), some (vI w), some (vI c), some (vI k)], [], (C, N)) _
        refine AR.blk 1 (f' := (24, [some (vA b), some (vI w), some (vI c), some (vI k)], [vA b], (C, N))) (fun _ => rfl) ?_
        refine AR.getR rfl rfl hb.1 (by decide) rfl ?_
        refine AR.blk 1 (f' := (28, [some (vA b), some (vI w), some (vI c), some (vI k)], [vI k, vA (b + 1)], (C, N))) (fun _ => rfl) ?_
        have f5 := hw.1 k
        refine AR.iald rfl hb.2.1 (by omega) (v := P k) (hr.1 _ (by omega) (by omega)) ?_
        refine AR.callS [vI (P k)] (ev_X6_isTug (by omega) (P k) (by omega)) rfl rfl rfl rfl rfl ?_
        show AR E d _ (32, [some (vA b), some (vI w), some (vI c), some (vI k)], [vI (m_tug (P k))], (C, N)) _
        have f6 := m_tug_in ((P k))
        refine AR.if_eq rfl (by omega) (fun c7 => ?_) (fun c7 => ?_)
        · show AR E d _ (38, [some (vA b), some (vI w), some (vI c), some (vI k)], [], (C, N)) _
          refine AR.blk 2 (f' := (4, [some (vA b), some (vI w), some (vI c), some (vI (k + 1))], [], (C, N))) (fun _ => rfl) ?_
          exact ih4 _ _ (by omega) (by omega) (by rw [m_sum_succ _ (by omega), ← i1]; omega)
        · show AR E d _ (35, [some (vA b), some (vI w), some (vI c), some (vI k)], [], (C, N)) _
          refine AR.blk 3 (f' := (4, [some (vA b), some (vI w), some (vI (c + 1)), some (vI (k + 1))], [], (C, N))) (fun _ => rfl) ?_
          exact ih4 _ _ (by omega) (by omega) (by rw [m_sum_succ _ (by omega), ← i1]; omega)

theorem ev_X0_hasLock {d : Nat} (hd : 1 ≤ d) (hb : g_isB C b) (hr : g_rB N b P n q p cl tn) (hw : g_wB P n q p cl tn) (l : Int) (h0 : ag_in l) : Ev E d 6 [vA b, vI l] (C, N) (some (vI (if 0 ≤ l ∧ l < n then 1 else 0)), (C, N)) := by
  obtain ⟨d, rfl⟩ : ∃ j, d = j + 1 := ⟨d - 1, by omega⟩
  have f0 := hw.2.2.1
  refine Ev.intro (M := ag_mX0_hasLock) rfl rfl ?_
  show AR E d _ (0, [some (vA b), some (vI l)], [], (C, N)) _
  refine AR.blk 1 (f' := (1, [some (vA b), some (vI l)], [vI l], (C, N))) (fun _ => rfl) ?_
  refine AR.if_lt rfl (by omega) (fun c1 => ?_) (fun c1 => ?_)
  · show AR E d _ (21, [some (vA b), some (vI l)], [], (C, N)) _
    refine AR.blk 1 (f' := (22, [some (vA b), some (vI l)], [vI 0], (C, N))) (fun _ => rfl) ?_
    exact AR.retI rfl (by omega) (by decide) rfl
  · show AR E d _ (4, [some (vA b), some (vI l)], [], (C, N)) _
    refine AR.blk 2 (f' := (6, [some (vA b), some (vI l)], [vA b, vI l], (C, N))) (fun _ => rfl) ?_
    have f2 := hw.2.2.1
    refine AR.getI rfl rfl hb.1 (by decide) (v := n) hr.2.1 ?_
    refine AR.ic_ge rfl (by omega) (fun c3 => ?_) (fun c3 => ?_)
    · show AR E d _ (21, [some (vA b), some (vI l)], [], (C, N)) _
      refine AR.blk 1 (f' := (22, [some (vA b), some (vI l)], [vI 0], (C, N))) (fun _ => rfl) ?_
      exact AR.retI rfl (by omega) (by decide) rfl
    · show AR E d _ (12, [some (vA b), some (vI l)], [], (C, N)) _
      refine AR.blk 2 (f' := (14, [some (vA b), some (vI l)], [vI 4, vI l], (C, N))) (fun _ => rfl) ?_
      refine AR.ic_ge rfl (by omega) (fun c4 => ?_) (fun c4 => ?_)
      · show AR E d _ (21, [some (vA b), some (vI l)], [], (C, N)) _
        refine AR.blk 1 (f' := (22, [some (vA b), some (vI l)], [vI 0], (C, N))) (fun _ => rfl) ?_
        exact AR.retI rfl (by omega) (by decide) rfl
      · show AR E d _ (17, [some (vA b), some (vI l)], [], (C, N)) _
        refine AR.blk 2 (f' := (22, [some (vA b), some (vI l)], [vI 1], (C, N))) (fun _ => rfl) ?_
        exact AR.retI rfl (by omega) (by decide) rfl

theorem ev_X0_lockAt {d : Nat} (hd : 1 ≤ d) (hb : g_isB C b) (hr : g_rB N b P n q p cl tn) (hw : g_wB P n q p cl tn) (s : Int) (h0 : ag_in s) : Ev E d 7 [vA b, vI s] (C, N) (some (vI (m_la n q s)), (C, N)) := by
  obtain ⟨d, rfl⟩ : ∃ j, d = j + 1 := ⟨d - 1, by omega⟩
  refine Ev.intro (M := ag_mX0_lockAt) rfl rfl ?_
  show AR E d _ (0, [some (vA b), some (vI s), none], [], (C, N)) _
  refine AR.blk 4 (f' := (4, [some (vA b), some (vI s), some (vI 0)], [vI 4, vI 0], (C, N))) (fun _ => rfl) ?_
  refine AR.blk 3 (f' := (9, [some (vA b), some (vI s), some (vI 0)], [vA b, vI 0], (C, N))) (fun _ => rfl) ?_
  have f1 := hw.2.2.1
  refine AR.getI rfl rfl hb.1 (by decide) (v := n) hr.2.1 ?_
  refine AR.ic_ge rfl (by omega) (fun c2 => ?_) (fun c2 => ?_)
  · show AR E d _ (27, [some (vA b), some (vI s), some (vI 0)], [], (C, N)) _
    refine AR.blk 4 (f' := (4, [some (vA b), some (vI s), some (vI 1)], [vI 4, vI 1], (C, N))) (fun _ => rfl) ?_
    refine AR.blk 3 (f' := (9, [some (vA b), some (vI s), some (vI 1)], [vA b, vI 1], (C, N))) (fun _ => rfl) ?_
    have f3 := hw.2.2.1
    refine AR.getI rfl rfl hb.1 (by decide) (v := n) hr.2.1 ?_
    refine AR.ic_ge rfl (by omega) (fun c4 => ?_) (fun c4 => ?_)
    · show AR E d _ (27, [some (vA b), some (vI s), some (vI 1)], [], (C, N)) _
      refine AR.blk 4 (f' := (4, [some (vA b), some (vI s), some (vI 2)], [vI 4, vI 2], (C, N))) (fun _ => rfl) ?_
      refine AR.blk 3 (f' := (9, [some (vA b), some (vI s), some (vI 2)], [vA b, vI 2], (C, N))) (fun _ => rfl) ?_
      have f5 := hw.2.2.1
      refine AR.getI rfl rfl hb.1 (by decide) (v := n) hr.2.1 ?_
      refine AR.ic_ge rfl (by omega) (fun c6 => ?_) (fun c6 => ?_)
      · show AR E d _ (27, [some (vA b), some (vI s), some (vI 2)], [], (C, N)) _
        refine AR.blk 4 (f' := (4, [some (vA b), some (vI s), some (vI 3)], [vI 4, vI 3], (C, N))) (fun _ => rfl) ?_
        refine AR.blk 3 (f' := (9, [some (vA b), some (vI s), some (vI 3)], [vA b, vI 3], (C, N))) (fun _ => rfl) ?_
        have f7 := hw.2.2.1
        refine AR.getI rfl rfl hb.1 (by decide) (v := n) hr.2.1 ?_
        refine AR.ic_ge rfl (by omega) (fun c8 => ?_) (fun c8 => ?_)
        · show AR E d _ (27, [some (vA b), some (vI s), some (vI 3)], [], (C, N)) _
          refine AR.blk 4 (f' := (4, [some (vA b), some (vI s), some (vI 4)], [vI 4, vI 4], (C, N))) (fun _ => rfl) ?_
          refine AR.blk 2 (f' := (34, [some (vA b), some (vI s), some (vI 4)], [vI (-1)], (C, N))) (fun _ => rfl) ?_
          exact AR.retI rfl (by unfold m_la; omega) ⟨rfl, .inl rfl⟩ rfl
        · show AR E d _ (15, [some (vA b), some (vI s), some (vI 3)], [], (C, N)) _
          refine AR.blk 1 (f' := (16, [some (vA b), some (vI s), some (vI 3)], [vA b], (C, N))) (fun _ => rfl) ?_
          refine AR.getR rfl rfl hb.1 (by decide) rfl ?_
          refine AR.blk 1 (f' := (20, [some (vA b), some (vI s), some (vI 3)], [vI 3, vA (b + 2)], (C, N))) (fun _ => rfl) ?_
          have f9 := hw.2.2.2.1 3 (by omega) (by omega)
          refine AR.iald rfl hb.2.2.1 (by omega) (v := q 3) (hr.2.2.1 _ (by omega) (by omega)).1 ?_
          refine AR.blk 1 (f' := (22, [some (vA b), some (vI s), some (vI 3)], [vI s, vI (q 3)], (C, N))) (fun _ => rfl) ?_
          refine AR.ic_ne rfl (by omega) (fun c10 => ?_) (fun c10 => ?_)
          · show AR E d _ (27, [some (vA b), some (vI s), some (vI 3)], [], (C, N)) _
            refine AR.blk 4 (f' := (4, [some (vA b), some (vI s), some (vI 4)], [vI 4, vI 4], (C, N))) (fun _ => rfl) ?_
            refine AR.blk 2 (f' := (34, [some (vA b), some (vI s), some (vI 4)], [vI (-1)], (C, N))) (fun _ => rfl) ?_
            exact AR.retI rfl (by unfold m_la; omega) ⟨rfl, .inl rfl⟩ rfl
          · show AR E d _ (25, [some (vA b), some (vI s), some (vI 3)], [], (C, N)) _
            refine AR.blk 1 (f' := (26, [some (vA b), some (vI s), some (vI 3)], [vI 3], (C, N))) (fun _ => rfl) ?_
            exact AR.retI rfl (by unfold m_la; omega) ⟨rfl, .inl rfl⟩ rfl
      · show AR E d _ (15, [some (vA b), some (vI s), some (vI 2)], [], (C, N)) _
        refine AR.blk 1 (f' := (16, [some (vA b), some (vI s), some (vI 2)], [vA b], (C, N))) (fun _ => rfl) ?_
        refine AR.getR rfl rfl hb.1 (by decide) rfl ?_
        refine AR.blk 1 (f' := (20, [some (vA b), some (vI s), some (vI 2)], [vI 2, vA (b + 2)], (C, N))) (fun _ => rfl) ?_
        have f11 := hw.2.2.2.1 2 (by omega) (by omega)
        refine AR.iald rfl hb.2.2.1 (by omega) (v := q 2) (hr.2.2.1 _ (by omega) (by omega)).1 ?_
        refine AR.blk 1 (f' := (22, [some (vA b), some (vI s), some (vI 2)], [vI s, vI (q 2)], (C, N))) (fun _ => rfl) ?_
        refine AR.ic_ne rfl (by omega) (fun c12 => ?_) (fun c12 => ?_)
        · show AR E d _ (27, [some (vA b), some (vI s), some (vI 2)], [], (C, N)) _
          refine AR.blk 4 (f' := (4, [some (vA b), some (vI s), some (vI 3)], [vI 4, vI 3], (C, N))) (fun _ => rfl) ?_
          refine AR.blk 3 (f' := (9, [some (vA b), some (vI s), some (vI 3)], [vA b, vI 3], (C, N))) (fun _ => rfl) ?_
          have f13 := hw.2.2.1
          refine AR.getI rfl rfl hb.1 (by decide) (v := n) hr.2.1 ?_
          refine AR.ic_ge rfl (by omega) (fun c14 => ?_) (fun c14 => ?_)
          · show AR E d _ (27, [some (vA b), some (vI s), some (vI 3)], [], (C, N)) _
            refine AR.blk 4 (f' := (4, [some (vA b), some (vI s), some (vI 4)], [vI 4, vI 4], (C, N))) (fun _ => rfl) ?_
            refine AR.blk 2 (f' := (34, [some (vA b), some (vI s), some (vI 4)], [vI (-1)], (C, N))) (fun _ => rfl) ?_
            exact AR.retI rfl (by unfold m_la; omega) ⟨rfl, .inl rfl⟩ rfl
          · show AR E d _ (15, [some (vA b), some (vI s), some (vI 3)], [], (C, N)) _
            refine AR.blk 1 (f' := (16, [some (vA b), some (vI s), some (vI 3)], [vA b], (C, N))) (fun _ => rfl) ?_
            refine AR.getR rfl rfl hb.1 (by decide) rfl ?_
            refine AR.blk 1 (f' := (20, [some (vA b), some (vI s), some (vI 3)], [vI 3, vA (b + 2)], (C, N))) (fun _ => rfl) ?_
            have f15 := hw.2.2.2.1 3 (by omega) (by omega)
            refine AR.iald rfl hb.2.2.1 (by omega) (v := q 3) (hr.2.2.1 _ (by omega) (by omega)).1 ?_
            refine AR.blk 1 (f' := (22, [some (vA b), some (vI s), some (vI 3)], [vI s, vI (q 3)], (C, N))) (fun _ => rfl) ?_
            refine AR.ic_ne rfl (by omega) (fun c16 => ?_) (fun c16 => ?_)
            · show AR E d _ (27, [some (vA b), some (vI s), some (vI 3)], [], (C, N)) _
              refine AR.blk 4 (f' := (4, [some (vA b), some (vI s), some (vI 4)], [vI 4, vI 4], (C, N))) (fun _ => rfl) ?_
              refine AR.blk 2 (f' := (34, [some (vA b), some (vI s), some (vI 4)], [vI (-1)], (C, N))) (fun _ => rfl) ?_
              exact AR.retI rfl (by unfold m_la; omega) ⟨rfl, .inl rfl⟩ rfl
            · show AR E d _ (25, [some (vA b), some (vI s), some (vI 3)], [], (C, N)) _
              refine AR.blk 1 (f' := (26, [some (vA b), some (vI s), some (vI 3)], [vI 3], (C, N))) (fun _ => rfl) ?_
              exact AR.retI rfl (by unfold m_la; omega) ⟨rfl, .inl rfl⟩ rfl
        · show AR E d _ (25, [some (vA b), some (vI s), some (vI 2)], [], (C, N)) _
          refine AR.blk 1 (f' := (26, [some (vA b), some (vI s), some (vI 2)], [vI 2], (C, N))) (fun _ => rfl) ?_
          exact AR.retI rfl (by unfold m_la; omega) ⟨rfl, .inl rfl⟩ rfl
    · show AR E d _ (15, [some (vA b), some (vI s), some (vI 1)], [], (C, N)) _
      refine AR.blk 1 (f' := (16, [some (vA b), some (vI s), some (vI 1)], [vA b], (C, N))) (fun _ => rfl) ?_
      refine AR.getR rfl rfl hb.1 (by decide) rfl ?_
      refine AR.blk 1 (f' := (20, [some (vA b), some (vI s), some (vI 1)], [vI 1, vA (b + 2)], (C, N))) (fun _ => rfl) ?_
      have f17 := hw.2.2.2.1 1 (by omega) (by omega)
      refine AR.iald rfl hb.2.2.1 (by omega) (v := q 1) (hr.2.2.1 _ (by omega) (by omega)).1 ?_
      refine AR.blk 1 (f' := (22, [some (vA b), some (vI s), some (vI 1)], [vI s, vI (q 1)], (C, N))) (fun _ => rfl) ?_
      refine AR.ic_ne rfl (by omega) (fun c18 => ?_) (fun c18 => ?_)
      · show AR E d _ (27, [some (vA b), some (vI s), some (vI 1)], [], (C, N)) _
        refine AR.blk 4 (f' := (4, [some (vA b), some (vI s), some (vI 2)], [vI 4, vI 2], (C, N))) (fun _ => rfl) ?_
        refine AR.blk 3 (f' := (9, [some (vA b), some (vI s), some (vI 2)], [vA b, vI 2], (C, N))) (fun _ => rfl) ?_
        have f19 := hw.2.2.1
        refine AR.getI rfl rfl hb.1 (by decide) (v := n) hr.2.1 ?_
        refine AR.ic_ge rfl (by omega) (fun c20 => ?_) (fun c20 => ?_)
        · show AR E d _ (27, [some (vA b), some (vI s), some (vI 2)], [], (C, N)) _
          refine AR.blk 4 (f' := (4, [some (vA b), some (vI s), some (vI 3)], [vI 4, vI 3], (C, N))) (fun _ => rfl) ?_
          refine AR.blk 3 (f' := (9, [some (vA b), some (vI s), some (vI 3)], [vA b, vI 3], (C, N))) (fun _ => rfl) ?_
          have f21 := hw.2.2.1
          refine AR.getI rfl rfl hb.1 (by decide) (v := n) hr.2.1 ?_
          refine AR.ic_ge rfl (by omega) (fun c22 => ?_) (fun c22 => ?_)
          · show AR E d _ (27, [some (vA b), some (vI s), some (vI 3)], [], (C, N)) _
            refine AR.blk 4 (f' := (4, [some (vA b), some (vI s), some (vI 4)], [vI 4, vI 4], (C, N))) (fun _ => rfl) ?_
            refine AR.blk 2 (f' := (34, [some (vA b), some (vI s), some (vI 4)], [vI (-1)], (C, N))) (fun _ => rfl) ?_
            exact AR.retI rfl (by unfold m_la; omega) ⟨rfl, .inl rfl⟩ rfl
          · show AR E d _ (15, [some (vA b), some (vI s), some (vI 3)], [], (C, N)) _
            refine AR.blk 1 (f' := (16, [some (vA b), some (vI s), some (vI 3)], [vA b], (C, N))) (fun _ => rfl) ?_
            refine AR.getR rfl rfl hb.1 (by decide) rfl ?_
            refine AR.blk 1 (f' := (20, [some (vA b), some (vI s), some (vI 3)], [vI 3, vA (b + 2)], (C, N))) (fun _ => rfl) ?_
            have f23 := hw.2.2.2.1 3 (by omega) (by omega)
            refine AR.iald rfl hb.2.2.1 (by omega) (v := q 3) (hr.2.2.1 _ (by omega) (by omega)).1 ?_
            refine AR.blk 1 (f' := (22, [some (vA b), some (vI s), some (vI 3)], [vI s, vI (q 3)], (C, N))) (fun _ => rfl) ?_
            refine AR.ic_ne rfl (by omega) (fun c24 => ?_) (fun c24 => ?_)
            · show AR E d _ (27, [some (vA b), some (vI s), some (vI 3)], [], (C, N)) _
              refine AR.blk 4 (f' := (4, [some (vA b), some (vI s), some (vI 4)], [vI 4, vI 4], (C, N))) (fun _ => rfl) ?_
              refine AR.blk 2 (f' := (34, [some (vA b), some (vI s), some (vI 4)], [vI (-1)], (C, N))) (fun _ => rfl) ?_
              exact AR.retI rfl (by unfold m_la; omega) ⟨rfl, .inl rfl⟩ rfl
            · show AR E d _ (25, [some (vA b), some (vI s), some (vI 3)], [], (C, N)) _
              refine AR.blk 1 (f' := (26, [some (vA b), some (vI s), some (vI 3)], [vI 3], (C, N))) (fun _ => rfl) ?_
              exact AR.retI rfl (by unfold m_la; omega) ⟨rfl, .inl rfl⟩ rfl
        · show AR E d _ (15, [some (vA b), some (vI s), some (vI 2)], [], (C, N)) _
          refine AR.blk 1 (f' := (16, [some (vA b), some (vI s), some (vI 2)], [vA b], (C, N))) (fun _ => rfl) ?_
          refine AR.getR rfl rfl hb.1 (by decide) rfl ?_
          refine AR.blk 1 (f' := (20, [some (vA b), some (vI s), some (vI 2)], [vI 2, vA (b + 2)], (C, N))) (fun _ => rfl) ?_
          have f25 := hw.2.2.2.1 2 (by omega) (by omega)
          refine AR.iald rfl hb.2.2.1 (by omega) (v := q 2) (hr.2.2.1 _ (by omega) (by omega)).1 ?_
          refine AR.blk 1 (f' := (22, [some (vA b), some (vI s), some (vI 2)], [vI s, vI (q 2)], (C, N))) (fun _ => rfl) ?_
          refine AR.ic_ne rfl (by omega) (fun c26 => ?_) (fun c26 => ?_)
          · show AR E d _ (27, [some (vA b), some (vI s), some (vI 2)], [], (C, N)) _
            refine AR.blk 4 (f' := (4, [some (vA b), some (vI s), some (vI 3)], [vI 4, vI 3], (C, N))) (fun _ => rfl) ?_
            refine AR.blk 3 (f' := (9, [some (vA b), some (vI s), some (vI 3)], [vA b, vI 3], (C, N))) (fun _ => rfl) ?_
            have f27 := hw.2.2.1
            refine AR.getI rfl rfl hb.1 (by decide) (v := n) hr.2.1 ?_
            refine AR.ic_ge rfl (by omega) (fun c28 => ?_) (fun c28 => ?_)
            · show AR E d _ (27, [some (vA b), some (vI s), some (vI 3)], [], (C, N)) _
              refine AR.blk 4 (f' := (4, [some (vA b), some (vI s), some (vI 4)], [vI 4, vI 4], (C, N))) (fun _ => rfl) ?_
              refine AR.blk 2 (f' := (34, [some (vA b), some (vI s), some (vI 4)], [vI (-1)], (C, N))) (fun _ => rfl) ?_
              exact AR.retI rfl (by unfold m_la; omega) ⟨rfl, .inl rfl⟩ rfl
            · show AR E d _ (15, [some (vA b), some (vI s), some (vI 3)], [], (C, N)) _
              refine AR.blk 1 (f' := (16, [some (vA b), some (vI s), some (vI 3)], [vA b], (C, N))) (fun _ => rfl) ?_
              refine AR.getR rfl rfl hb.1 (by decide) rfl ?_
              refine AR.blk 1 (f' := (20, [some (vA b), some (vI s), some (vI 3)], [vI 3, vA (b + 2)], (C, N))) (fun _ => rfl) ?_
              have f29 := hw.2.2.2.1 3 (by omega) (by omega)
              refine AR.iald rfl hb.2.2.1 (by omega) (v := q 3) (hr.2.2.1 _ (by omega) (by omega)).1 ?_
              refine AR.blk 1 (f' := (22, [some (vA b), some (vI s), some (vI 3)], [vI s, vI (q 3)], (C, N))) (fun _ => rfl) ?_
              refine AR.ic_ne rfl (by omega) (fun c30 => ?_) (fun c30 => ?_)
              · show AR E d _ (27, [some (vA b), some (vI s), some (vI 3)], [], (C, N)) _
                refine AR.blk 4 (f' := (4, [some (vA b), some (vI s), some (vI 4)], [vI 4, vI 4], (C, N))) (fun _ => rfl) ?_
                refine AR.blk 2 (f' := (34, [some (vA b), some (vI s), some (vI 4)], [vI (-1)], (C, N))) (fun _ => rfl) ?_
                exact AR.retI rfl (by unfold m_la; omega) ⟨rfl, .inl rfl⟩ rfl
              · show AR E d _ (25, [some (vA b), some (vI s), some (vI 3)], [], (C, N)) _
                refine AR.blk 1 (f' := (26, [some (vA b), some (vI s), some (vI 3)], [vI 3], (C, N))) (fun _ => rfl) ?_
                exact AR.retI rfl (by unfold m_la; omega) ⟨rfl, .inl rfl⟩ rfl
          · show AR E d _ (25, [some (vA b), some (vI s), some (vI 2)], [], (C, N)) _
            refine AR.blk 1 (f' := (26, [some (vA b), some (vI s), some (vI 2)], [vI 2], (C, N))) (fun _ => rfl) ?_
            exact AR.retI rfl (by unfold m_la; omega) ⟨rfl, .inl rfl⟩ rfl
      · show AR E d _ (25, [some (vA b), some (vI s), some (vI 1)], [], (C, N)) _
        refine AR.blk 1 (f' := (26, [some (vA b), some (vI s), some (vI 1)], [vI 1], (C, N))) (fun _ => rfl) ?_
        exact AR.retI rfl (by unfold m_la; omega) ⟨rfl, .inl rfl⟩ rfl
  · show AR E d _ (15, [some (vA b), some (vI s), some (vI 0)], [], (C, N)) _
    refine AR.blk 1 (f' := (16, [some (vA b), some (vI s), some (vI 0)], [vA b], (C, N))) (fun _ => rfl) ?_
    refine AR.getR rfl rfl hb.1 (by decide) rfl ?_
    refine AR.blk 1 (f' := (20, [some (vA b), some (vI s), some (vI 0)], [vI 0, vA (b + 2)], (C, N))) (fun _ => rfl) ?_
    have f31 := hw.2.2.2.1 0 (by omega) (by omega)
    refine AR.iald rfl hb.2.2.1 (by omega) (v := q 0) (hr.2.2.1 _ (by omega) (by omega)).1 ?_
    refine AR.blk 1 (f' := (22, [some (vA b), some (vI s), some (vI 0)], [vI s, vI (q 0)], (C, N))) (fun _ => rfl) ?_
    refine AR.ic_ne rfl (by omega) (fun c32 => ?_) (fun c32 => ?_)
    · show AR E d _ (27, [some (vA b), some (vI s), some (vI 0)], [], (C, N)) _
      refine AR.blk 4 (f' := (4, [some (vA b), some (vI s), some (vI 1)], [vI 4, vI 1], (C, N))) (fun _ => rfl) ?_
      refine AR.blk 3 (f' := (9, [some (vA b), some (vI s), some (vI 1)], [vA b, vI 1], (C, N))) (fun _ => rfl) ?_
      have f33 := hw.2.2.1
      refine AR.getI rfl rfl hb.1 (by decide) (v := n) hr.2.1 ?_
      refine AR.ic_ge rfl (by omega) (fun c34 => ?_) (fun c34 => ?_)
      · show AR E d _ (27, [some (vA b), some (vI s), some (vI 1)], [], (C, N)) _
        refine AR.blk 4 (f' := (4, [some (vA b), some (vI s), some (vI 2)], [vI 4, vI 2], (C, N))) (fun _ => rfl) ?_
        refine AR.blk 3 (f' := (9, [some (vA b), some (vI s), some (vI 2)], [vA b, vI 2], (C, N))) (fun _ => rfl) ?_
        have f35 := hw.2.2.1
        refine AR.getI rfl rfl hb.1 (by decide) (v := n) hr.2.1 ?_
        refine AR.ic_ge rfl (by omega) (fun c36 => ?_) (fun c36 => ?_)
        · show AR E d _ (27, [some (vA b), some (vI s), some (vI 2)], [], (C, N)) _
          refine AR.blk 4 (f' := (4, [some (vA b), some (vI s), some (vI 3)], [vI 4, vI 3], (C, N))) (fun _ => rfl) ?_
          refine AR.blk 3 (f' := (9, [some (vA b), some (vI s), some (vI 3)], [vA b, vI 3], (C, N))) (fun _ => rfl) ?_
          have f37 := hw.2.2.1
          refine AR.getI rfl rfl hb.1 (by decide) (v := n) hr.2.1 ?_
          refine AR.ic_ge rfl (by omega) (fun c38 => ?_) (fun c38 => ?_)
          · show AR E d _ (27, [some (vA b), some (vI s), some (vI 3)], [], (C, N)) _
            refine AR.blk 4 (f' := (4, [some (vA b), some (vI s), some (vI 4)], [vI 4, vI 4], (C, N))) (fun _ => rfl) ?_
            refine AR.blk 2 (f' := (34, [some (vA b), some (vI s), some (vI 4)], [vI (-1)], (C, N))) (fun _ => rfl) ?_
            exact AR.retI rfl (by unfold m_la; omega) ⟨rfl, .inl rfl⟩ rfl
          · show AR E d _ (15, [some (vA b), some (vI s), some (vI 3)], [], (C, N)) _
            refine AR.blk 1 (f' := (16, [some (vA b), some (vI s), some (vI 3)], [vA b], (C, N))) (fun _ => rfl) ?_
            refine AR.getR rfl rfl hb.1 (by decide) rfl ?_
            refine AR.blk 1 (f' := (20, [some (vA b), some (vI s), some (vI 3)], [vI 3, vA (b + 2)], (C, N))) (fun _ => rfl) ?_
            have f39 := hw.2.2.2.1 3 (by omega) (by omega)
            refine AR.iald rfl hb.2.2.1 (by omega) (v := q 3) (hr.2.2.1 _ (by omega) (by omega)).1 ?_
            refine AR.blk 1 (f' := (22, [some (vA b), some (vI s), some (vI 3)], [vI s, vI (q 3)], (C, N))) (fun _ => rfl) ?_
            refine AR.ic_ne rfl (by omega) (fun c40 => ?_) (fun c40 => ?_)
            · show AR E d _ (27, [some (vA b), some (vI s), some (vI 3)], [], (C, N)) _
              refine AR.blk 4 (f' := (4, [some (vA b), some (vI s), some (vI 4)], [vI 4, vI 4], (C, N))) (fun _ => rfl) ?_
              refine AR.blk 2 (f' := (34, [some (vA b), some (vI s), some (vI 4)], [vI (-1)], (C, N))) (fun _ => rfl) ?_
              exact AR.retI rfl (by unfold m_la; omega) ⟨rfl, .inl rfl⟩ rfl
            · show AR E d _ (25, [some (vA b), some (vI s), some (vI 3)], [], (C, N)) _
              refine AR.blk 1 (f' := (26, [some (vA b), some (vI s), some (vI 3)], [vI 3], (C, N))) (fun _ => rfl) ?_
              exact AR.retI rfl (by unfold m_la; omega) ⟨rfl, .inl rfl⟩ rfl
        · show AR E d _ (15, [some (vA b), some (vI s), some (vI 2)], [], (C, N)) _
          refine AR.blk 1 (f' := (16, [some (vA b), some (vI s), some (vI 2)], [vA b], (C, N))) (fun _ => rfl) ?_
          refine AR.getR rfl rfl hb.1 (by decide) rfl ?_
          refine AR.blk 1 (f' := (20, [some (vA b), some (vI s), some (vI 2)], [vI 2, vA (b + 2)], (C, N))) (fun _ => rfl) ?_
          have f41 := hw.2.2.2.1 2 (by omega) (by omega)
          refine AR.iald rfl hb.2.2.1 (by omega) (v := q 2) (hr.2.2.1 _ (by omega) (by omega)).1 ?_
          refine AR.blk 1 (f' := (22, [some (vA b), some (vI s), some (vI 2)], [vI s, vI (q 2)], (C, N))) (fun _ => rfl) ?_
          refine AR.ic_ne rfl (by omega) (fun c42 => ?_) (fun c42 => ?_)
          · show AR E d _ (27, [some (vA b), some (vI s), some (vI 2)], [], (C, N)) _
            refine AR.blk 4 (f' := (4, [some (vA b), some (vI s), some (vI 3)], [vI 4, vI 3], (C, N))) (fun _ => rfl) ?_
            refine AR.blk 3 (f' := (9, [some (vA b), some (vI s), some (vI 3)], [vA b, vI 3], (C, N))) (fun _ => rfl) ?_
            have f43 := hw.2.2.1
            refine AR.getI rfl rfl hb.1 (by decide) (v := n) hr.2.1 ?_
            refine AR.ic_ge rfl (by omega) (fun c44 => ?_) (fun c44 => ?_)
            · show AR E d _ (27, [some (vA b), some (vI s), some (vI 3)], [], (C, N)) _
              refine AR.blk 4 (f' := (4, [some (vA b), some (vI s), some (vI 4)], [vI 4, vI 4], (C, N))) (fun _ => rfl) ?_
              refine AR.blk 2 (f' := (34, [some (vA b), some (vI s), some (vI 4)], [vI (-1)], (C, N))) (fun _ => rfl) ?_
              exact AR.retI rfl (by unfold m_la; omega) ⟨rfl, .inl rfl⟩ rfl
            · show AR E d _ (15, [some (vA b), some (vI s), some (vI 3)], [], (C, N)) _
              refine AR.blk 1 (f' := (16, [some (vA b), some (vI s), some (vI 3)], [vA b], (C, N))) (fun _ => rfl) ?_
              refine AR.getR rfl rfl hb.1 (by decide) rfl ?_
              refine AR.blk 1 (f' := (20, [some (vA b), some (vI s), some (vI 3)], [vI 3, vA (b + 2)], (C, N))) (fun _ => rfl) ?_
              have f45 := hw.2.2.2.1 3 (by omega) (by omega)
              refine AR.iald rfl hb.2.2.1 (by omega) (v := q 3) (hr.2.2.1 _ (by omega) (by omega)).1 ?_
              refine AR.blk 1 (f' := (22, [some (vA b), some (vI s), some (vI 3)], [vI s, vI (q 3)], (C, N))) (fun _ => rfl) ?_
              refine AR.ic_ne rfl (by omega) (fun c46 => ?_) (fun c46 => ?_)
              · show AR E d _ (27, [some (vA b), some (vI s), some (vI 3)], [], (C, N)) _
                refine AR.blk 4 (f' := (4, [some (vA b), some (vI s), some (vI 4)], [vI 4, vI 4], (C, N))) (fun _ => rfl) ?_
                refine AR.blk 2 (f' := (34, [some (vA b), some (vI s), some (vI 4)], [vI (-1)], (C, N))) (fun _ => rfl) ?_
                exact AR.retI rfl (by unfold m_la; omega) ⟨rfl, .inl rfl⟩ rfl
              · show AR E d _ (25, [some (vA b), some (vI s), some (vI 3)], [], (C, N)) _
                refine AR.blk 1 (f' := (26, [some (vA b), some (vI s), some (vI 3)], [vI 3], (C, N))) (fun _ => rfl) ?_
                exact AR.retI rfl (by unfold m_la; omega) ⟨rfl, .inl rfl⟩ rfl
          · show AR E d _ (25, [some (vA b), some (vI s), some (vI 2)], [], (C, N)) _
            refine AR.blk 1 (f' := (26, [some (vA b), some (vI s), some (vI 2)], [vI 2], (C, N))) (fun _ => rfl) ?_
            exact AR.retI rfl (by unfold m_la; omega) ⟨rfl, .inl rfl⟩ rfl
      · show AR E d _ (15, [some (vA b), some (vI s), some (vI 1)], [], (C, N)) _
        refine AR.blk 1 (f' := (16, [some (vA b), some (vI s), some (vI 1)], [vA b], (C, N))) (fun _ => rfl) ?_
        refine AR.getR rfl rfl hb.1 (by decide) rfl ?_
        refine AR.blk 1 (f' := (20, [some (vA b), some (vI s), some (vI 1)], [vI 1, vA (b + 2)], (C, N))) (fun _ => rfl) ?_
        have f47 := hw.2.2.2.1 1 (by omega) (by omega)
        refine AR.iald rfl hb.2.2.1 (by omega) (v := q 1) (hr.2.2.1 _ (by omega) (by omega)).1 ?_
        refine AR.blk 1 (f' := (22, [some (vA b), some (vI s), some (vI 1)], [vI s, vI (q 1)], (C, N))) (fun _ => rfl) ?_
        refine AR.ic_ne rfl (by omega) (fun c48 => ?_) (fun c48 => ?_)
        · show AR E d _ (27, [some (vA b), some (vI s), some (vI 1)], [], (C, N)) _
          refine AR.blk 4 (f' := (4, [some (vA b), some (vI s), some (vI 2)], [vI 4, vI 2], (C, N))) (fun _ => rfl) ?_
          refine AR.blk 3 (f' := (9, [some (vA b), some (vI s), some (vI 2)], [vA b, vI 2], (C, N))) (fun _ => rfl) ?_
          have f49 := hw.2.2.1
          refine AR.getI rfl rfl hb.1 (by decide) (v := n) hr.2.1 ?_
          refine AR.ic_ge rfl (by omega) (fun c50 => ?_) (fun c50 => ?_)
          · show AR E d _ (27, [some (vA b), some (vI s), some (vI 2)], [], (C, N)) _
            refine AR.blk 4 (f' := (4, [some (vA b), some (vI s), some (vI 3)], [vI 4, vI 3], (C, N))) (fun _ => rfl) ?_
            refine AR.blk 3 (f' := (9, [some (vA b), some (vI s), some (vI 3)], [vA b, vI 3], (C, N))) (fun _ => rfl) ?_
            have f51 := hw.2.2.1
            refine AR.getI rfl rfl hb.1 (by decide) (v := n) hr.2.1 ?_
            refine AR.ic_ge rfl (by omega) (fun c52 => ?_) (fun c52 => ?_)
            · show AR E d _ (27, [some (vA b), some (vI s), some (vI 3)], [], (C, N)) _
              refine AR.blk 4 (f' := (4, [some (vA b), some (vI s), some (vI 4)], [vI 4, vI 4], (C, N))) (fun _ => rfl) ?_
              refine AR.blk 2 (f' := (34, [some (vA b), some (vI s), some (vI 4)], [vI (-1)], (C, N))) (fun _ => rfl) ?_
              exact AR.retI rfl (by unfold m_la; omega) ⟨rfl, .inl rfl⟩ rfl
            · show AR E d _ (15, [some (vA b), some (vI s), some (vI 3)], [], (C, N)) _
              refine AR.blk 1 (f' := (16, [some (vA b), some (vI s), some (vI 3)], [vA b], (C, N))) (fun _ => rfl) ?_
              refine AR.getR rfl rfl hb.1 (by decide) rfl ?_
              refine AR.blk 1 (f' := (20, [some (vA b), some (vI s), some (vI 3)], [vI 3, vA (b + 2)], (C, N))) (fun _ => rfl) ?_
              have f53 := hw.2.2.2.1 3 (by omega) (by omega)
              refine AR.iald rfl hb.2.2.1 (by omega) (v := q 3) (hr.2.2.1 _ (by omega) (by omega)).1 ?_
              refine AR.blk 1 (f' := (22, [some (vA b), some (vI s), some (vI 3)], [vI s, vI (q 3)], (C, N))) (fun _ => rfl) ?_
              refine AR.ic_ne rfl (by omega) (fun c54 => ?_) (fun c54 => ?_)
              · show AR E d _ (27, [some (vA b), some (vI s), some (vI 3)], [], (C, N)) _
                refine AR.blk 4 (f' := (4, [some (vA b), some (vI s), some (vI 4)], [vI 4, vI 4], (C, N))) (fun _ => rfl) ?_
                refine AR.blk 2 (f' := (34, [some (vA b), some (vI s), some (vI 4)], [vI (-1)], (C, N))) (fun _ => rfl) ?_
                exact AR.retI rfl (by unfold m_la; omega) ⟨rfl, .inl rfl⟩ rfl
              · show AR E d _ (25, [some (vA b), some (vI s), some (vI 3)], [], (C, N)) _
                refine AR.blk 1 (f' := (26, [some (vA b), some (vI s), some (vI 3)], [vI 3], (C, N))) (fun _ => rfl) ?_
                exact AR.retI rfl (by unfold m_la; omega) ⟨rfl, .inl rfl⟩ rfl
          · show AR E d _ (15, [some (vA b), some (vI s), some (vI 2)], [], (C, N)) _
            refine AR.blk 1 (f' := (16, [some (vA b), some (vI s), some (vI 2)], [vA b], (C, N))) (fun _ => rfl) ?_
            refine AR.getR rfl rfl hb.1 (by decide) rfl ?_
            refine AR.blk 1 (f' := (20, [some (vA b), some (vI s), some (vI 2)], [vI 2, vA (b + 2)], (C, N))) (fun _ => rfl) ?_
            have f55 := hw.2.2.2.1 2 (by omega) (by omega)
            refine AR.iald rfl hb.2.2.1 (by omega) (v := q 2) (hr.2.2.1 _ (by omega) (by omega)).1 ?_
            refine AR.blk 1 (f' := (22, [some (vA b), some (vI s), some (vI 2)], [vI s, vI (q 2)], (C, N))) (fun _ => rfl) ?_
            refine AR.ic_ne rfl (by omega) (fun c56 => ?_) (fun c56 => ?_)
            · show AR E d _ (27, [some (vA b), some (vI s), some (vI 2)], [], (C, N)) _
              refine AR.blk 4 (f' := (4, [some (vA b), some (vI s), some (vI 3)], [vI 4, vI 3], (C, N))) (fun _ => rfl) ?_
              refine AR.blk 3 (f' := (9, [some (vA b), some (vI s), some (vI 3)], [vA b, vI 3], (C, N))) (fun _ => rfl) ?_
              have f57 := hw.2.2.1
              refine AR.getI rfl rfl hb.1 (by decide) (v := n) hr.2.1 ?_
              refine AR.ic_ge rfl (by omega) (fun c58 => ?_) (fun c58 => ?_)
              · show AR E d _ (27, [some (vA b), some (vI s), some (vI 3)], [], (C, N)) _
                refine AR.blk 4 (f' := (4, [some (vA b), some (vI s), some (vI 4)], [vI 4, vI 4], (C, N))) (fun _ => rfl) ?_
                refine AR.blk 2 (f' := (34, [some (vA b), some (vI s), some (vI 4)], [vI (-1)], (C, N))) (fun _ => rfl) ?_
                exact AR.retI rfl (by unfold m_la; omega) ⟨rfl, .inl rfl⟩ rfl
              · show AR E d _ (15, [some (vA b), some (vI s), some (vI 3)], [], (C, N)) _
                refine AR.blk 1 (f' := (16, [some (vA b), some (vI s), some (vI 3)], [vA b], (C, N))) (fun _ => rfl) ?_
                refine AR.getR rfl rfl hb.1 (by decide) rfl ?_
                refine AR.blk 1 (f' := (20, [some (vA b), some (vI s), some (vI 3)], [vI 3, vA (b + 2)], (C, N))) (fun _ => rfl) ?_
                have f59 := hw.2.2.2.1 3 (by omega) (by omega)
                refine AR.iald rfl hb.2.2.1 (by omega) (v := q 3) (hr.2.2.1 _ (by omega) (by omega)).1 ?_
                refine AR.blk 1 (f' := (22, [some (vA b), some (vI s), some (vI 3)], [vI s, vI (q 3)], (C, N))) (fun _ => rfl) ?_
                refine AR.ic_ne rfl (by omega) (fun c60 => ?_) (fun c60 => ?_)
                · show AR E d _ (27, [some (vA b), some (vI s), some (vI 3)], [], (C, N)) _
                  refine AR.blk 4 (f' := (4, [some (vA b), some (vI s), some (vI 4)], [vI 4, vI 4], (C, N))) (fun _ => rfl) ?_
                  refine AR.blk 2 (f' := (34, [some (vA b), some (vI s), some (vI 4)], [vI (-1)], (C, N))) (fun _ => rfl) ?_
                  exact AR.retI rfl (by unfold m_la; omega) ⟨rfl, .inl rfl⟩ rfl
                · show AR E d _ (25, [some (vA b), some (vI s), some (vI 3)], [], (C, N)) _
                  refine AR.blk 1 (f' := (26, [some (vA b), some (vI s), some (vI 3)], [vI 3], (C, N))) (fun _ => rfl) ?_
                  exact AR.retI rfl (by unfold m_la; omega) ⟨rfl, .inl rfl⟩ rfl
            · show AR E d _ (25, [some (vA b), some (vI s), some (vI 2)], [], (C, N)) _
              refine AR.blk 1 (f' := (26, [some (vA b), some (vI s), some (vI 2)], [vI 2], (C, N))) (fun _ => rfl) ?_
              exact AR.retI rfl (by unfold m_la; omega) ⟨rfl, .inl rfl⟩ rfl
        · show AR E d _ (25, [some (vA b), some (vI s), some (vI 1)], [], (C, N)) _
          refine AR.blk 1 (f' := (26, [some (vA b), some (vI s), some (vI 1)], [vI 1], (C, N))) (fun _ => rfl) ?_
          exact AR.retI rfl (by unfold m_la; omega) ⟨rfl, .inl rfl⟩ rfl
    · show AR E d _ (25, [some (vA b), some (vI s), some (vI 0)], [], (C, N)) _
      refine AR.blk 1 (f' := (26, [some (vA b), some (vI s), some (vI 0)], [vI 0], (C, N))) (fun _ => rfl) ?_
      exact AR.retI rfl (by unfold m_la; omega) ⟨rfl, .inl rfl⟩ rfl

theorem ev_X0_isClosed {d : Nat} (hd : 2 ≤ d) (hb : g_isB C b) (hr : g_rB N b P n q p cl tn) (hw : g_wB P n q p cl tn) (s : Int) (h0 : ag_in s) : Ev E d 8 [vA b, vI s] (C, N) (some (vI (m_cl n q cl s)), (C, N)) := by
  obtain ⟨d, rfl⟩ : ∃ j, d = j + 1 := ⟨d - 1, by omega⟩
  have f00 := hw.2.2.1
  refine Ev.intro (M := ag_mX0_isClosed) rfl rfl ?_
  show AR E d _ (0, [some (vA b), some (vI s), none], [], (C, N)) _
  refine AR.blk 2 (f' := (2, [some (vA b), some (vI s), none], [vI s, vA b], (C, N))) (fun _ => rfl) ?_
  refine AR.callV [vI s] (ev_X0_lockAt (by omega) hb hr hw s (by omega)) hb.1 rfl rfl rfl rfl rfl ?_
  show AR E d _ (5, [some (vA b), some (vI s), none], [vI (m_la n q s)], (C, N)) _
  have f1 := m_la_in n q s hw.2.2.1.1
  refine AR.blk 2 (f' := (7, [some (vA b), some (vI s), some (vI (m_la n q s))], [vI (m_la n q s)], (C, N))) (fun _ => rfl) ?_
  refine AR.if_lt rfl (by omega) (fun c2 => ?_) (fun c2 => ?_)
  · show AR E d _ (28, [some (vA b), some (vI s), some (vI (m_la n q s))], [], (C, N)) _
    refine AR.blk 1 (f' := (29, [some (vA b), some (vI s), some (vI (m_la n q s))], [vI 0], (C, N))) (fun _ => rfl) ?_
    exact AR.retI rfl (by unfold m_cl; first | (rw [if_pos (by omega)]; omega) | (rw [if_neg (by omega)])) (by decide) rfl
  · show AR E d _ (10, [some (vA b), some (vI s), some (vI (m_la n q s))], [], (C, N)) _
    refine AR.blk 2 (f' := (12, [some (vA b), some (vI s), some (vI (m_la n q s))], [vI 4, vI (m_la n q s)], (C, N))) (fun _ => rfl) ?_
    refine AR.ic_ge rfl (by omega) (fun c3 => ?_) (fun c3 => ?_)
    · show AR E d _ (28, [some (vA b), some (vI s), some (vI (m_la n q s))], [], (C, N)) _
      refine AR.blk 1 (f' := (29, [some (vA b), some (vI s), some (vI (m_la n q s))], [vI 0], (C, N))) (fun _ => rfl) ?_
      exact AR.retI rfl (by unfold m_cl; first | (rw [if_pos (by omega)]; omega) | (rw [if_neg (by omega)])) (by decide) rfl
    · show AR E d _ (15, [some (vA b), some (vI s), some (vI (m_la n q s))], [], (C, N)) _
      refine AR.blk 1 (f' := (16, [some (vA b), some (vI s), some (vI (m_la n q s))], [vA b], (C, N))) (fun _ => rfl) ?_
      refine AR.getR rfl rfl hb.1 (by decide) rfl ?_
      refine AR.blk 1 (f' := (20, [some (vA b), some (vI s), some (vI (m_la n q s))], [vI (m_la n q s), vA (b + 4)], (C, N))) (fun _ => rfl) ?_
      have f4 := hw.2.2.2.2.1 (m_la n q s)
      refine AR.zald rfl hb.2.2.2.2.1 (by omega) (v := cl (m_la n q s)) (hr.2.2.2 _ (by omega) (by omega)).1 ?_
      refine AR.if_eq rfl (by omega) (fun c5 => ?_) (fun c5 => ?_)
      · show AR E d _ (28, [some (vA b), some (vI s), some (vI (m_la n q s))], [], (C, N)) _
        refine AR.blk 1 (f' := (29, [some (vA b), some (vI s), some (vI (m_la n q s))], [vI 0], (C, N))) (fun _ => rfl) ?_
        exact AR.retI rfl (by unfold m_cl; first | (rw [if_pos (by omega)]; omega) | (rw [if_neg (by omega)])) (by decide) rfl
      · show AR E d _ (24, [some (vA b), some (vI s), some (vI (m_la n q s))], [], (C, N)) _
        refine AR.blk 2 (f' := (29, [some (vA b), some (vI s), some (vI (m_la n q s))], [vI 1], (C, N))) (fun _ => rfl) ?_
        exact AR.retI rfl (by unfold m_cl; first | (rw [if_pos (by omega)]; omega) | (rw [if_neg (by omega)])) (by decide) rfl

theorem ev_X0_closedLocks {d : Nat} (hd : 1 ≤ d) (hb : g_isB C b) (hr : g_rB N b P n q p cl tn) (hw : g_wB P n q p cl tn) : Ev E d 11 [vA b] (C, N) (some (vI (cl 0 + cl 1 + cl 2 + cl 3)), (C, N)) := by
  obtain ⟨d, rfl⟩ : ∃ j, d = j + 1 := ⟨d - 1, by omega⟩
  refine Ev.intro (M := ag_mX0_closedLocks) rfl rfl ?_
  show AR E d _ (0, [some (vA b), none, none], [], (C, N)) _
  refine AR.blk 6 (f' := (6, [some (vA b), some (vI 0), some (vI 0)], [vI 4, vI 0], (C, N))) (fun _ => rfl) ?_
  refine AR.blk 2 (f' := (10, [some (vA b), some (vI 0), some (vI 0)], [vA b], (C, N))) (fun _ => rfl) ?_
  refine AR.getR rfl rfl hb.1 (by decide) rfl ?_
  refine AR.blk 1 (f' := (14, [some (vA b), some (vI 0), some (vI 0)], [vI 0, vA (b + 4)], (C, N))) (fun _ => rfl) ?_
  have f1 := hw.2.2.2.2.1 0
  refine AR.zald rfl hb.2.2.2.2.1 (by omega) (v := cl 0) (hr.2.2.2 _ (by omega) (by omega)).1 ?_
  refine AR.if_eq rfl (by omega) (fun c2 => ?_) (fun c2 => ?_)
  · show AR E d _ (21, [some (vA b), some (vI 0), some (vI 0)], [], (C, N)) _
    refine AR.blk 4 (f' := (6, [some (vA b), some (vI 0), some (vI 1)], [vI 4, vI 1], (C, N))) (fun _ => rfl) ?_
    refine AR.blk 2 (f' := (10, [some (vA b), some (vI 0), some (vI 1)], [vA b], (C, N))) (fun _ => rfl) ?_
    refine AR.getR rfl rfl hb.1 (by decide) rfl ?_
    refine AR.blk 1 (f' := (14, [some (vA b), some (vI 0), some (vI 1)], [vI 1, vA (b + 4)], (C, N))) (fun _ => rfl) ?_
    have f3 := hw.2.2.2.2.1 1
    refine AR.zald rfl hb.2.2.2.2.1 (by omega) (v := cl 1) (hr.2.2.2 _ (by omega) (by omega)).1 ?_
    refine AR.if_eq rfl (by omega) (fun c4 => ?_) (fun c4 => ?_)
    · show AR E d _ (21, [some (vA b), some (vI 0), some (vI 1)], [], (C, N)) _
      refine AR.blk 4 (f' := (6, [some (vA b), some (vI 0), some (vI 2)], [vI 4, vI 2], (C, N))) (fun _ => rfl) ?_
      refine AR.blk 2 (f' := (10, [some (vA b), some (vI 0), some (vI 2)], [vA b], (C, N))) (fun _ => rfl) ?_
      refine AR.getR rfl rfl hb.1 (by decide) rfl ?_
      refine AR.blk 1 (f' := (14, [some (vA b), some (vI 0), some (vI 2)], [vI 2, vA (b + 4)], (C, N))) (fun _ => rfl) ?_
      have f5 := hw.2.2.2.2.1 2
      refine AR.zald rfl hb.2.2.2.2.1 (by omega) (v := cl 2) (hr.2.2.2 _ (by omega) (by omega)).1 ?_
      refine AR.if_eq rfl (by omega) (fun c6 => ?_) (fun c6 => ?_)
      · show AR E d _ (21, [some (vA b), some (vI 0), some (vI 2)], [], (C, N)) _
        refine AR.blk 4 (f' := (6, [some (vA b), some (vI 0), some (vI 3)], [vI 4, vI 3], (C, N))) (fun _ => rfl) ?_
        refine AR.blk 2 (f' := (10, [some (vA b), some (vI 0), some (vI 3)], [vA b], (C, N))) (fun _ => rfl) ?_
        refine AR.getR rfl rfl hb.1 (by decide) rfl ?_
        refine AR.blk 1 (f' := (14, [some (vA b), some (vI 0), some (vI 3)], [vI 3, vA (b + 4)], (C, N))) (fun _ => rfl) ?_
        have f7 := hw.2.2.2.2.1 3
        refine AR.zald rfl hb.2.2.2.2.1 (by omega) (v := cl 3) (hr.2.2.2 _ (by omega) (by omega)).1 ?_
        refine AR.if_eq rfl (by omega) (fun c8 => ?_) (fun c8 => ?_)
        · show AR E d _ (21, [some (vA b), some (vI 0), some (vI 3)], [], (C, N)) _
          refine AR.blk 4 (f' := (6, [some (vA b), some (vI 0), some (vI 4)], [vI 4, vI 4], (C, N))) (fun _ => rfl) ?_
          refine AR.blk 2 (f' := (28, [some (vA b), some (vI 0), some (vI 4)], [vI 0], (C, N))) (fun _ => rfl) ?_
          exact AR.retI rfl (by omega) ⟨rfl, .inl rfl⟩ rfl
        · show AR E d _ (18, [some (vA b), some (vI 0), some (vI 3)], [], (C, N)) _
          refine AR.blk 5 (f' := (6, [some (vA b), some (vI 1), some (vI 4)], [vI 4, vI 4], (C, N))) (fun _ => rfl) ?_
          refine AR.blk 2 (f' := (28, [some (vA b), some (vI 1), some (vI 4)], [vI 1], (C, N))) (fun _ => rfl) ?_
          exact AR.retI rfl (by omega) ⟨rfl, .inl rfl⟩ rfl
      · show AR E d _ (18, [some (vA b), some (vI 0), some (vI 2)], [], (C, N)) _
        refine AR.blk 5 (f' := (6, [some (vA b), some (vI 1), some (vI 3)], [vI 4, vI 3], (C, N))) (fun _ => rfl) ?_
        refine AR.blk 2 (f' := (10, [some (vA b), some (vI 1), some (vI 3)], [vA b], (C, N))) (fun _ => rfl) ?_
        refine AR.getR rfl rfl hb.1 (by decide) rfl ?_
        refine AR.blk 1 (f' := (14, [some (vA b), some (vI 1), some (vI 3)], [vI 3, vA (b + 4)], (C, N))) (fun _ => rfl) ?_
        have f9 := hw.2.2.2.2.1 3
        refine AR.zald rfl hb.2.2.2.2.1 (by omega) (v := cl 3) (hr.2.2.2 _ (by omega) (by omega)).1 ?_
        refine AR.if_eq rfl (by omega) (fun c10 => ?_) (fun c10 => ?_)
        · show AR E d _ (21, [some (vA b), some (vI 1), some (vI 3)], [], (C, N)) _
          refine AR.blk 4 (f' := (6, [some (vA b), some (vI 1), some (vI 4)], [vI 4, vI 4], (C, N))) (fun _ => rfl) ?_
          refine AR.blk 2 (f' := (28, [some (vA b), some (vI 1), some (vI 4)], [vI 1], (C, N))) (fun _ => rfl) ?_
          exact AR.retI rfl (by omega) ⟨rfl, .inl rfl⟩ rfl
        · show AR E d _ (18, [some (vA b), some (vI 1), some (vI 3)], [], (C, N)) _
          refine AR.blk 5 (f' := (6, [some (vA b), some (vI 2), some (vI 4)], [vI 4, vI 4], (C, N))) (fun _ => rfl) ?_
          refine AR.blk 2 (f' := (28, [some (vA b), some (vI 2), some (vI 4)], [vI 2], (C, N))) (fun _ => rfl) ?_
          exact AR.retI rfl (by omega) ⟨rfl, .inl rfl⟩ rfl
    · show AR E d _ (18, [some (vA b), some (vI 0), some (vI 1)], [], (C, N)) _
      refine AR.blk 5 (f' := (6, [some (vA b), some (vI 1), some (vI 2)], [vI 4, vI 2], (C, N))) (fun _ => rfl) ?_
      refine AR.blk 2 (f' := (10, [some (vA b), some (vI 1), some (vI 2)], [vA b], (C, N))) (fun _ => rfl) ?_
      refine AR.getR rfl rfl hb.1 (by decide) rfl ?_
      refine AR.blk 1 (f' := (14, [some (vA b), some (vI 1), some (vI 2)], [vI 2, vA (b + 4)], (C, N))) (fun _ => rfl) ?_
      have f11 := hw.2.2.2.2.1 2
      refine AR.zald rfl hb.2.2.2.2.1 (by omega) (v := cl 2) (hr.2.2.2 _ (by omega) (by omega)).1 ?_
      refine AR.if_eq rfl (by omega) (fun c12 => ?_) (fun c12 => ?_)
      · show AR E d _ (21, [some (vA b), some (vI 1), some (vI 2)], [], (C, N)) _
        refine AR.blk 4 (f' := (6, [some (vA b), some (vI 1), some (vI 3)], [vI 4, vI 3], (C, N))) (fun _ => rfl) ?_
        refine AR.blk 2 (f' := (10, [some (vA b), some (vI 1), some (vI 3)], [vA b], (C, N))) (fun _ => rfl) ?_
        refine AR.getR rfl rfl hb.1 (by decide) rfl ?_
        refine AR.blk 1 (f' := (14, [some (vA b), some (vI 1), some (vI 3)], [vI 3, vA (b + 4)], (C, N))) (fun _ => rfl) ?_
        have f13 := hw.2.2.2.2.1 3
        refine AR.zald rfl hb.2.2.2.2.1 (by omega) (v := cl 3) (hr.2.2.2 _ (by omega) (by omega)).1 ?_
        refine AR.if_eq rfl (by omega) (fun c14 => ?_) (fun c14 => ?_)
        · show AR E d _ (21, [some (vA b), some (vI 1), some (vI 3)], [], (C, N)) _
          refine AR.blk 4 (f' := (6, [some (vA b), some (vI 1), some (vI 4)], [vI 4, vI 4], (C, N))) (fun _ => rfl) ?_
          refine AR.blk 2 (f' := (28, [some (vA b), some (vI 1), some (vI 4)], [vI 1], (C, N))) (fun _ => rfl) ?_
          exact AR.retI rfl (by omega) ⟨rfl, .inl rfl⟩ rfl
        · show AR E d _ (18, [some (vA b), some (vI 1), some (vI 3)], [], (C, N)) _
          refine AR.blk 5 (f' := (6, [some (vA b), some (vI 2), some (vI 4)], [vI 4, vI 4], (C, N))) (fun _ => rfl) ?_
          refine AR.blk 2 (f' := (28, [some (vA b), some (vI 2), some (vI 4)], [vI 2], (C, N))) (fun _ => rfl) ?_
          exact AR.retI rfl (by omega) ⟨rfl, .inl rfl⟩ rfl
      · show AR E d _ (18, [some (vA b), some (vI 1), some (vI 2)], [], (C, N)) _
        refine AR.blk 5 (f' := (6, [some (vA b), some (vI 2), some (vI 3)], [vI 4, vI 3], (C, N))) (fun _ => rfl) ?_
        refine AR.blk 2 (f' := (10, [some (vA b), some (vI 2), some (vI 3)], [vA b], (C, N))) (fun _ => rfl) ?_
        refine AR.getR rfl rfl hb.1 (by decide) rfl ?_
        refine AR.blk 1 (f' := (14, [some (vA b), some (vI 2), some (vI 3)], [vI 3, vA (b + 4)], (C, N))) (fun _ => rfl) ?_
        have f15 := hw.2.2.2.2.1 3
        refine AR.zald rfl hb.2.2.2.2.1 (by omega) (v := cl 3) (hr.2.2.2 _ (by omega) (by omega)).1 ?_
        refine AR.if_eq rfl (by omega) (fun c16 => ?_) (fun c16 => ?_)
        · show AR E d _ (21, [some (vA b), some (vI 2), some (vI 3)], [], (C, N)) _
          refine AR.blk 4 (f' := (6, [some (vA b), some (vI 2), some (vI 4)], [vI 4, vI 4], (C, N))) (fun _ => rfl) ?_
          refine AR.blk 2 (f' := (28, [some (vA b), some (vI 2), some (vI 4)], [vI 2], (C, N))) (fun _ => rfl) ?_
          exact AR.retI rfl (by omega) ⟨rfl, .inl rfl⟩ rfl
        · show AR E d _ (18, [some (vA b), some (vI 2), some (vI 3)], [], (C, N)) _
          refine AR.blk 5 (f' := (6, [some (vA b), some (vI 3), some (vI 4)], [vI 4, vI 4], (C, N))) (fun _ => rfl) ?_
          refine AR.blk 2 (f' := (28, [some (vA b), some (vI 3), some (vI 4)], [vI 3], (C, N))) (fun _ => rfl) ?_
          exact AR.retI rfl (by omega) ⟨rfl, .inl rfl⟩ rfl
  · show AR E d _ (18, [some (vA b), some (vI 0), some (vI 0)], [], (C, N)) _
    refine AR.blk 5 (f' := (6, [some (vA b), some (vI 1), some (vI 1)], [vI 4, vI 1], (C, N))) (fun _ => rfl) ?_
    refine AR.blk 2 (f' := (10, [some (vA b), some (vI 1), some (vI 1)], [vA b], (C, N))) (fun _ => rfl) ?_
    refine AR.getR rfl rfl hb.1 (by decide) rfl ?_
    refine AR.blk 1 (f' := (14, [some (vA b), some (vI 1), some (vI 1)], [vI 1, vA (b + 4)], (C, N))) (fun _ => rfl) ?_
    have f17 := hw.2.2.2.2.1 1
    refine AR.zald rfl hb.2.2.2.2.1 (by omega) (v := cl 1) (hr.2.2.2 _ (by omega) (by omega)).1 ?_
    refine AR.if_eq rfl (by omega) (fun c18 => ?_) (fun c18 => ?_)
    · show AR E d _ (21, [some (vA b), some (vI 1), some (vI 1)], [], (C, N)) _
      refine AR.blk 4 (f' := (6, [some (vA b), some (vI 1), some (vI 2)], [vI 4, vI 2], (C, N))) (fun _ => rfl) ?_
      refine AR.blk 2 (f' := (10, [some (vA b), some (vI 1), some (vI 2)], [vA b], (C, N))) (fun _ => rfl) ?_
      refine AR.getR rfl rfl hb.1 (by decide) rfl ?_
      refine AR.blk 1 (f' := (14, [some (vA b), some (vI 1), some (vI 2)], [vI 2, vA (b + 4)], (C, N))) (fun _ => rfl) ?_
      have f19 := hw.2.2.2.2.1 2
      refine AR.zald rfl hb.2.2.2.2.1 (by omega) (v := cl 2) (hr.2.2.2 _ (by omega) (by omega)).1 ?_
      refine AR.if_eq rfl (by omega) (fun c20 => ?_) (fun c20 => ?_)
      · show AR E d _ (21, [some (vA b), some (vI 1), some (vI 2)], [], (C, N)) _
        refine AR.blk 4 (f' := (6, [some (vA b), some (vI 1), some (vI 3)], [vI 4, vI 3], (C, N))) (fun _ => rfl) ?_
        refine AR.blk 2 (f' := (10, [some (vA b), some (vI 1), some (vI 3)], [vA b], (C, N))) (fun _ => rfl) ?_
        refine AR.getR rfl rfl hb.1 (by decide) rfl ?_
        refine AR.blk 1 (f' := (14, [some (vA b), some (vI 1), some (vI 3)], [vI 3, vA (b + 4)], (C, N))) (fun _ => rfl) ?_
        have f21 := hw.2.2.2.2.1 3
        refine AR.zald rfl hb.2.2.2.2.1 (by omega) (v := cl 3) (hr.2.2.2 _ (by omega) (by omega)).1 ?_
        refine AR.if_eq rfl (by omega) (fun c22 => ?_) (fun c22 => ?_)
        · show AR E d _ (21, [some (vA b), some (vI 1), some (vI 3)], [], (C, N)) _
          refine AR.blk 4 (f' := (6, [some (vA b), some (vI 1), some (vI 4)], [vI 4, vI 4], (C, N))) (fun _ => rfl) ?_
          refine AR.blk 2 (f' := (28, [some (vA b), some (vI 1), some (vI 4)], [vI 1], (C, N))) (fun _ => rfl) ?_
          exact AR.retI rfl (by omega) ⟨rfl, .inl rfl⟩ rfl
        · show AR E d _ (18, [some (vA b), some (vI 1), some (vI 3)], [], (C, N)) _
          refine AR.blk 5 (f' := (6, [some (vA b), some (vI 2), some (vI 4)], [vI 4, vI 4], (C, N))) (fun _ => rfl) ?_
          refine AR.blk 2 (f' := (28, [some (vA b), some (vI 2), some (vI 4)], [vI 2], (C, N))) (fun _ => rfl) ?_
          exact AR.retI rfl (by omega) ⟨rfl, .inl rfl⟩ rfl
      · show AR E d _ (18, [some (vA b), some (vI 1), some (vI 2)], [], (C, N)) _
        refine AR.blk 5 (f' := (6, [some (vA b), some (vI 2), some (vI 3)], [vI 4, vI 3], (C, N))) (fun _ => rfl) ?_
        refine AR.blk 2 (f' := (10, [some (vA b), some (vI 2), some (vI 3)], [vA b], (C, N))) (fun _ => rfl) ?_
        refine AR.getR rfl rfl hb.1 (by decide) rfl ?_
        refine AR.blk 1 (f' := (14, [some (vA b), some (vI 2), some (vI 3)], [vI 3, vA (b + 4)], (C, N))) (fun _ => rfl) ?_
        have f23 := hw.2.2.2.2.1 3
        refine AR.zald rfl hb.2.2.2.2.1 (by omega) (v := cl 3) (hr.2.2.2 _ (by omega) (by omega)).1 ?_
        refine AR.if_eq rfl (by omega) (fun c24 => ?_) (fun c24 => ?_)
        · show AR E d _ (21, [some (vA b), some (vI 2), some (vI 3)], [], (C, N)) _
          refine AR.blk 4 (f' := (6, [some (vA b), some (vI 2), some (vI 4)], [vI 4, vI 4], (C, N))) (fun _ => rfl) ?_
          refine AR.blk 2 (f' := (28, [some (vA b), some (vI 2), some (vI 4)], [vI 2], (C, N))) (fun _ => rfl) ?_
          exact AR.retI rfl (by omega) ⟨rfl, .inl rfl⟩ rfl
        · show AR E d _ (18, [some (vA b), some (vI 2), some (vI 3)], [], (C, N)) _
          refine AR.blk 5 (f' := (6, [some (vA b), some (vI 3), some (vI 4)], [vI 4, vI 4], (C, N))) (fun _ => rfl) ?_
          refine AR.blk 2 (f' := (28, [some (vA b), some (vI 3), some (vI 4)], [vI 3], (C, N))) (fun _ => rfl) ?_
          exact AR.retI rfl (by omega) ⟨rfl, .inl rfl⟩ rfl
    · show AR E d _ (18, [some (vA b), some (vI 1), some (vI 1)], [], (C, N)) _
      refine AR.blk 5 (f' := (6, [some (vA b), some (vI 2), some (vI 2)], [vI 4, vI 2], (C, N))) (fun _ => rfl) ?_
      refine AR.blk 2 (f' := (10, [some (vA b), some (vI 2), some (vI 2)], [vA b], (C, N))) (fun _ => rfl) ?_
      refine AR.getR rfl rfl hb.1 (by decide) rfl ?_
      refine AR.blk 1 (f' := (14, [some (vA b), some (vI 2), some (vI 2)], [vI 2, vA (b + 4)], (C, N))) (fun _ => rfl) ?_
      have f25 := hw.2.2.2.2.1 2
      refine AR.zald rfl hb.2.2.2.2.1 (by omega) (v := cl 2) (hr.2.2.2 _ (by omega) (by omega)).1 ?_
      refine AR.if_eq rfl (by omega) (fun c26 => ?_) (fun c26 => ?_)
      · show AR E d _ (21, [some (vA b), some (vI 2), some (vI 2)], [], (C, N)) _
        refine AR.blk 4 (f' := (6, [some (vA b), some (vI 2), some (vI 3)], [vI 4, vI 3], (C, N))) (fun _ => rfl) ?_
        refine AR.blk 2 (f' := (10, [some (vA b), some (vI 2), some (vI 3)], [vA b], (C, N))) (fun _ => rfl) ?_
        refine AR.getR rfl rfl hb.1 (by decide) rfl ?_
        refine AR.blk 1 (f' := (14, [some (vA b), some (vI 2), some (vI 3)], [vI 3, vA (b + 4)], (C, N))) (fun _ => rfl) ?_
        have f27 := hw.2.2.2.2.1 3
        refine AR.zald rfl hb.2.2.2.2.1 (by omega) (v := cl 3) (hr.2.2.2 _ (by omega) (by omega)).1 ?_
        refine AR.if_eq rfl (by omega) (fun c28 => ?_) (fun c28 => ?_)
        · show AR E d _ (21, [some (vA b), some (vI 2), some (vI 3)], [], (C, N)) _
          refine AR.blk 4 (f' := (6, [some (vA b), some (vI 2), some (vI 4)], [vI 4, vI 4], (C, N))) (fun _ => rfl) ?_
          refine AR.blk 2 (f' := (28, [some (vA b), some (vI 2), some (vI 4)], [vI 2], (C, N))) (fun _ => rfl) ?_
          exact AR.retI rfl (by omega) ⟨rfl, .inl rfl⟩ rfl
        · show AR E d _ (18, [some (vA b), some (vI 2), some (vI 3)], [], (C, N)) _
          refine AR.blk 5 (f' := (6, [some (vA b), some (vI 3), some (vI 4)], [vI 4, vI 4], (C, N))) (fun _ => rfl) ?_
          refine AR.blk 2 (f' := (28, [some (vA b), some (vI 3), some (vI 4)], [vI 3], (C, N))) (fun _ => rfl) ?_
          exact AR.retI rfl (by omega) ⟨rfl, .inl rfl⟩ rfl
      · show AR E d _ (18, [some (vA b), some (vI 2), some (vI 2)], [], (C, N)) _
        refine AR.blk 5 (f' := (6, [some (vA b), some (vI 3), some (vI 3)], [vI 4, vI 3], (C, N))) (fun _ => rfl) ?_
        refine AR.blk 2 (f' := (10, [some (vA b), some (vI 3), some (vI 3)], [vA b], (C, N))) (fun _ => rfl) ?_
        refine AR.getR rfl rfl hb.1 (by decide) rfl ?_
        refine AR.blk 1 (f' := (14, [some (vA b), some (vI 3), some (vI 3)], [vI 3, vA (b + 4)], (C, N))) (fun _ => rfl) ?_
        have f29 := hw.2.2.2.2.1 3
        refine AR.zald rfl hb.2.2.2.2.1 (by omega) (v := cl 3) (hr.2.2.2 _ (by omega) (by omega)).1 ?_
        refine AR.if_eq rfl (by omega) (fun c30 => ?_) (fun c30 => ?_)
        · show AR E d _ (21, [some (vA b), some (vI 3), some (vI 3)], [], (C, N)) _
          refine AR.blk 4 (f' := (6, [some (vA b), some (vI 3), some (vI 4)], [vI 4, vI 4], (C, N))) (fun _ => rfl) ?_
          refine AR.blk 2 (f' := (28, [some (vA b), some (vI 3), some (vI 4)], [vI 3], (C, N))) (fun _ => rfl) ?_
          exact AR.retI rfl (by omega) ⟨rfl, .inl rfl⟩ rfl
        · show AR E d _ (18, [some (vA b), some (vI 3), some (vI 3)], [], (C, N)) _
          refine AR.blk 5 (f' := (6, [some (vA b), some (vI 4), some (vI 4)], [vI 4, vI 4], (C, N))) (fun _ => rfl) ?_
          refine AR.blk 2 (f' := (28, [some (vA b), some (vI 4), some (vI 4)], [vI 4], (C, N))) (fun _ => rfl) ?_
          exact AR.retI rfl (by omega) ⟨rfl, .inl rfl⟩ rfl

theorem ev_X0_allLockTurns {d : Nat} (hd : 1 ≤ d) (hb : g_isB C b) (hr : g_rB N b P n q p cl tn) (hw : g_wB P n q p cl tn) : Ev E d 12 [vA b] (C, N) (some (vI (tn 0 + tn 1 + tn 2 + tn 3)), (C, N)) := by
  obtain ⟨d, rfl⟩ : ∃ j, d = j + 1 := ⟨d - 1, by omega⟩
  refine Ev.intro (M := ag_mX0_allLockTurns) rfl rfl ?_
  show AR E d _ (0, [some (vA b), none, none], [], (C, N)) _
  refine AR.blk 6 (f' := (6, [some (vA b), some (vI 0), some (vI 0)], [vI 4, vI 0], (C, N))) (fun _ => rfl) ?_
  refine AR.blk 3 (f' := (11, [some (vA b), some (vI 0), some (vI 0)], [vA b, vI 0], (C, N))) (fun _ => rfl) ?_
  refine AR.getR rfl rfl hb.1 (by decide) rfl ?_
  refine AR.blk 1 (f' := (15, [some (vA b), some (vI 0), some (vI 0)], [vI 0, vA (b + 5), vI 0], (C, N))) (fun _ => rfl) ?_
  have f1 := hw.2.2.2.2.1 0
  refine AR.iald rfl hb.2.2.2.2.2 (by omega) (v := tn 0) (hr.2.2.2 _ (by omega) (by omega)).2 ?_
  refine AR.blk 6 (f' := (6, [some (vA b), some (vI (0 + (tn 0))), some (vI 1)], [vI 4, vI 1], (C, N))) (fun _ => rfl) ?_
  refine AR.blk 3 (f' := (11, [some (vA b), some (vI (0 + (tn 0))), some (vI 1)], [vA b, vI (0 + (tn 0))], (C, N))) (fun _ => rfl) ?_
  refine AR.getR rfl rfl hb.1 (by decide) rfl ?_
  refine AR.blk 1 (f' := (15, [some (vA b), some (vI (0 + (tn 0))), some (vI 1)], [vI 1, vA (b + 5), vI (0 + (tn 0))], (C, N))) (fun _ => rfl) ?_
  have f2 := hw.2.2.2.2.1 1
  refine AR.iald rfl hb.2.2.2.2.2 (by omega) (v := tn 1) (hr.2.2.2 _ (by omega) (by omega)).2 ?_
  refine AR.blk 6 (f' := (6, [some (vA b), some (vI ((0 + (tn 0)) + (tn 1))), some (vI 2)], [vI 4, vI 2], (C, N))) (fun _ => rfl) ?_
  refine AR.blk 3 (f' := (11, [some (vA b), some (vI ((0 + (tn 0)) + (tn 1))), some (vI 2)], [vA b, vI ((0 + (tn 0)) + (tn 1))], (C, N))) (fun _ => rfl) ?_
  refine AR.getR rfl rfl hb.1 (by decide) rfl ?_
  refine AR.blk 1 (f' := (15, [some (vA b), some (vI ((0 + (tn 0)) + (tn 1))), some (vI 2)], [vI 2, vA (b + 5), vI ((0 + (tn 0)) + (tn 1))], (C, N))) (fun _ => rfl) ?_
  have f3 := hw.2.2.2.2.1 2
  refine AR.iald rfl hb.2.2.2.2.2 (by omega) (v := tn 2) (hr.2.2.2 _ (by omega) (by omega)).2 ?_
  refine AR.blk 6 (f' := (6, [some (vA b), some (vI (((0 + (tn 0)) + (tn 1)) + (tn 2))), some (vI 3)], [vI 4, vI 3], (C, N))) (fun _ => rfl) ?_
  refine AR.blk 3 (f' := (11, [some (vA b), some (vI (((0 + (tn 0)) + (tn 1)) + (tn 2))), some (vI 3)], [vA b, vI (((0 + (tn 0)) + (tn 1)) + (tn 2))], (C, N))) (fun _ => rfl) ?_
  refine AR.getR rfl rfl hb.1 (by decide) rfl ?_
  refine AR.blk 1 (f' := (15, [some (vA b), some (vI (((0 + (tn 0)) + (tn 1)) + (tn 2))), some (vI 3)], [vI 3, vA (b + 5), vI (((0 + (tn 0)) + (tn 1)) + (tn 2))], (C, N))) (fun _ => rfl) ?_
  have f4 := hw.2.2.2.2.1 3
  refine AR.iald rfl hb.2.2.2.2.2 (by omega) (v := tn 3) (hr.2.2.2 _ (by omega) (by omega)).2 ?_
  refine AR.blk 6 (f' := (6, [some (vA b), some (vI ((((0 + (tn 0)) + (tn 1)) + (tn 2)) + (tn 3))), some (vI 4)], [vI 4, vI 4], (C, N))) (fun _ => rfl) ?_
  refine AR.blk 2 (f' := (25, [some (vA b), some (vI ((((0 + (tn 0)) + (tn 1)) + (tn 2)) + (tn 3))), some (vI 4)], [vI ((((0 + (tn 0)) + (tn 1)) + (tn 2)) + (tn 3))], (C, N))) (fun _ => rfl) ?_
  exact AR.retI rfl (by omega) ⟨rfl, .inl rfl⟩ rfl

theorem ev_X0_standing {d : Nat} (hd : 2 ≤ d) (hb : g_isB C b) (hr : g_rB N b P n q p cl tn) (hw : g_wB P n q p cl tn) (s x : Int) (h0 : 0 ≤ s ∧ s < 36) (h1 : 0 ≤ x ∧ x < 4) : Ev E d 13 [vA b, vI s, vI x] (C, N) (some (vI (m_std P s x)), (C, N)) := by
  obtain ⟨d, rfl⟩ : ∃ j, d = j + 1 := ⟨d - 1, by omega⟩
  refine Ev.intro (M := ag_mX0_standing) rfl rfl ?_
  show AR E d _ (0, [some (vA b), some (vI s), some (vI x), none, none, none], [], (C, N)) _
  refine AR.blk 2 (f' := (2, [some (vA b), some (vI s), some (vI x), none, none, none], [vI x, vI s], (C, N))) (fun _ => rfl) ?_
  refine AR.callS [vI s, vI x] (ev_X6_roomFrom (by omega) s x (by first | omega | (have z1 := m_sqs s x c h0 h1 (by omega); omega)) (by first | omega | (have z1 := m_sqs s x c h0 h1 (by omega); omega))) rfl rfl rfl rfl rfl ?_
  show AR E d _ (5, [some (vA b), some (vI s), some (vI x), none, none, none], [vI (m_room s x)], (C, N)) _
  have f1 := m_room_in (s) (x) (by omega)
  refine AR.blk 2 (f' := (7, [some (vA b), some (vI s), some (vI x), some (vI (m_room s x)), none, none], [vI x], (C, N))) (fun _ => rfl) ?_
  refine AR.callS [vI x] (ev_X6_stepOf (by omega) x (by first | omega | (have z1 := m_sqs s x c h0 h1 (by omega); omega))) rfl rfl rfl rfl rfl ?_
  show AR E d _ (10, [some (vA b), some (vI s), some (vI x), some (vI (m_room s x)), none, none], [vI (m_step x)], (C, N)) _
  have f2 := m_step_in (x)
  refine AR.blk 3 (f' := (15, [some (vA b), some (vI s), some (vI x), some (vI (m_room s x)), some (vI (m_step x)), some (vI 0)], [], (C, N))) (fun _ => rfl) ?_
  suffices H15 : ∀ (j : Nat) (c : Int), (m_room s x - c).toNat < j → (0 ≤ c ∧ c ≤ m_room s x) → (m_fr P s (m_step x) (m_room s x - c).toNat c = m_std P s x) → AR E d ag_mX0_standing (15, [some (vA b), some (vI s), some (vI x), some (vI (m_room s x)), some (vI (m_step x)), some (vI c)], [], (C, N)) (fun o_ => o_ = (some (vI (m_std P s x)), (C, N))) by
    exact H15 _ _ (Nat.lt_succ_self _) (by omega) (by rw [Int.sub_zero]; rfl)
  intro j
  induction j with
  | zero => intro c hj; exact absurd hj (Nat.not_lt_zero _)
  | succ j ih15 =>
    intro c hj15 i0 i1
    refine AR.blk 2 (f' := (18, [some (vA b), some (vI s), some (vI x), some (vI (m_room s x)), some (vI (m_step x)), some (vI c)], [vI (m_room s x), vI c], (C, N))) (fun _ => rfl) ?_
    refine AR.ic_ge rfl (by first | omega | (have z1 := m_sqs s x c h0 h1 (by omega); omega)) (fun c3 => ?_) (fun c3 => ?_)
    · show AR E d _ (44, [some (vA b), some (vI s), some (vI x), some (vI (m_room s x)), some (vI (m_step x)), some (vI c)], [], (C, N)) _
      refine AR.blk 1 (f' := (46, [some (vA b), some (vI s), some (vI x), some (vI (m_room s x)), some (vI (m_step x)), some (vI c)], [vI c], (C, N))) (fun _ => rfl) ?_
      exact AR.retI rfl (by rw [← i1]; first | (rw [show (m_room s x - c).toNat = 0 by omega]; rfl) | (rw [show (m_room s x - c).toNat = (m_room s x - (c + 1)).toNat + 1 by omega]; exact (if_pos (by assumption)).symm)) ⟨rfl, .inl rfl⟩ rfl
    · show AR E d _ (21, [some (vA b), some (vI s), some (vI x), some (vI (m_room s x)), some (vI (m_step x)), some (vI c)], [], (C, N)) _
      refine AR.blk 8 (f' := (31, [some (vA b), some (vI s), some (vI x), some (vI (m_room s x)), some (vI (m_step x)), some (vI c)], [vI (s + ((c + 1) * (m_step x))), vA b], (C, N))) (fun _ => rfl) ?_
      refine AR.callV [vI (s + ((c + 1) * (m_step x)))] (ev_X0_pieceAt (by omega) hb hr hw (s + ((c + 1) * (m_step x))) (by first | omega | (have z1 := m_sqs s x c h0 h1 (by omega); omega))) hb.1 rfl rfl rfl rfl rfl ?_
      show AR E d _ (34, [some (vA b), some (vI s), some (vI x), some (vI (m_room s x)), some (vI (m_step x)), some (vI c)], [vI (P (s + ((c + 1) * (m_step x))))], (C, N)) _
      have f4 := hw.1 (s + ((c + 1) * (m_step x)))
      refine AR.blk 1 (f' := (35, [some (vA b), some (vI s), some (vI x), some (vI (m_room s x)), some (vI (m_step x)), some (vI c)], [vI (-1), vI (P (s + ((c + 1) * (m_step x))))], (C, N))) (fun _ => rfl) ?_
      refine AR.ic_eq rfl (by first | omega | (have z1 := m_sqs s x c h0 h1 (by omega); omega)) (fun c5 => ?_) (fun c5 => ?_)
      · show AR E d _ (44, [some (vA b), some (vI s), some (vI x), some (vI (m_room s x)), some (vI (m_step x)), some (vI c)], [], (C, N)) _
        refine AR.blk 1 (f' := (46, [some (vA b), some (vI s), some (vI x), some (vI (m_room s x)), some (vI (m_step x)), some (vI c)], [vI c], (C, N))) (fun _ => rfl) ?_
        exact AR.retI rfl (by rw [← i1]; first | (rw [show (m_room s x - c).toNat = 0 by omega]; rfl) | (rw [show (m_room s x - c).toNat = (m_room s x - (c + 1)).toNat + 1 by omega]; exact (if_pos (by assumption)).symm)) ⟨rfl, .inl rfl⟩ rfl
      · show AR E d _ (38, [some (vA b), some (vI s), some (vI x), some (vI (m_room s x)), some (vI (m_step x)), some (vI c)], [], (C, N)) _
        refine AR.blk 2 (f' := (15, [some (vA b), some (vI s), some (vI x), some (vI (m_room s x)), some (vI (m_step x)), some (vI (c + 1))], [], (C, N))) (fun _ => rfl) ?_
        exact ih15 _ (by omega) (by omega) (by rw [← i1, show (m_room s x - c).toNat = (m_room s x - (c + 1)).toNat + 1 by omega]; exact (if_neg (by assumption)).symm)

theorem ev_X0_causeAgainst {d : Nat} (hd : 3 ≤ d) (hb : g_isB C b) (hr : g_rB N b P n q p cl tn) (hw : g_wB P n q p cl tn) (s x : Int) (h0 : 0 ≤ s ∧ s < 36) (h1 : 0 ≤ x ∧ x < 4) : Ev E d 14 [vA b, vI s, vI x] (C, N) (some (vI (m_cause P n q cl s x)), (C, N)) := by
  obtain ⟨d, rfl⟩ : ∃ j, d = j + 1 := ⟨d - 1, by omega⟩
  refine Ev.intro (M := ag_mX0_causeAgainst) rfl rfl ?_
  show AR E d _ (0, [some (vA b), some (vI s), some (vI x), none, none], [], (C, N)) _
  refine AR.blk 2 (f' := (2, [some (vA b), some (vI s), some (vI x), none, none], [vI s, vA b], (C, N))) (fun _ => rfl) ?_
  refine AR.callV [vI s] (ev_X0_pieceAt (by omega) hb hr hw s (by first | omega | (have z1 := m_ahead_in s x (m_std P s x + 1) h0 h1 (by omega); omega))) hb.1 rfl rfl rfl rfl rfl ?_
  show AR E d _ (5, [some (vA b), some (vI s), some (vI x), none, none], [vI (P s)], (C, N)) _
  have f1 := hw.1 s
  refine AR.blk 3 (f' := (8, [some (vA b), some (vI s), some (vI x), some (vI (P s)), none], [vI x, vI (P s)], (C, N))) (fun _ => rfl) ?_
  refine AR.callS [vI (P s), vI x] (ev_X6_goes (by omega) (P s) x (by first | omega | (have z1 := m_ahead_in s x (m_std P s x + 1) h0 h1 (by omega); omega)) (by first | omega | (have z1 := m_ahead_in s x (m_std P s x + 1) h0 h1 (by omega); omega))) rfl rfl rfl rfl rfl ?_
  show AR E d _ (11, [some (vA b), some (vI s), some (vI x), some (vI (P s)), none], [vI (m_goes (P s) x)], (C, N)) _
  have f2 := m_goes_in ((P s)) (x)
  refine AR.if_ne rfl (by first | omega | (have z1 := m_ahead_in s x (m_std P s x + 1) h0 h1 (by omega); omega)) (fun c3 => ?_) (fun c3 => ?_)
  · show AR E d _ (17, [some (vA b), some (vI s), some (vI x), some (vI (P s)), none], [], (C, N)) _
    refine AR.blk 2 (f' := (19, [some (vA b), some (vI s), some (vI x), some (vI (P s)), none], [vI x, vI s], (C, N))) (fun _ => rfl) ?_
    refine AR.callS [vI s, vI x] (ev_X6_roomFrom (by omega) s x (by first | omega | (have z1 := m_ahead_in s x (m_std P s x + 1) h0 h1 (by omega); omega)) (by first | omega | (have z1 := m_ahead_in s x (m_std P s x + 1) h0 h1 (by omega); omega))) rfl rfl rfl rfl rfl ?_
    show AR E d _ (22, [some (vA b), some (vI s), some (vI x), some (vI (P s)), none], [vI (m_room s x)], (C, N)) _
    have f4 := m_room_in (s) (x) (by omega)
    refine AR.if_ne rfl (by first | omega | (have z1 := m_ahead_in s x (m_std P s x + 1) h0 h1 (by omega); omega)) (fun c5 => ?_) (fun c5 => ?_)
    · show AR E d _ (28, [some (vA b), some (vI s), some (vI x), some (vI (P s)), none], [], (C, N)) _
      refine AR.blk 3 (f' := (31, [some (vA b), some (vI s), some (vI x), some (vI (P s)), none], [vI x, vI s, vA b], (C, N))) (fun _ => rfl) ?_
      refine AR.callV [vI s, vI x] (ev_X0_standing (by omega) hb hr hw s x (by first | omega | (have z1 := m_ahead_in s x (m_std P s x + 1) h0 h1 (by omega); omega)) (by first | omega | (have z1 := m_ahead_in s x (m_std P s x + 1) h0 h1 (by omega); omega))) hb.1 rfl rfl rfl rfl rfl ?_
      show AR E d _ (34, [some (vA b), some (vI s), some (vI x), some (vI (P s)), none], [vI (m_std P s x)], (C, N)) _
      have f6 := m_std_in P s x (by omega)
      refine AR.blk 7 (f' := (43, [some (vA b), some (vI s), some (vI x), some (vI (P s)), some (vI (m_std P s x))], [vI ((m_std P s x) + 1), vI x, vI s, vA b], (C, N))) (fun _ => rfl) ?_
      refine AR.callS [vI s, vI x, vI ((m_std P s x) + 1)] (ev_X6_ahead (by omega) s x ((m_std P s x) + 1) (by first | omega | (have z1 := m_ahead_in s x (m_std P s x + 1) h0 h1 (by omega); omega)) (by first | omega | (have z1 := m_ahead_in s x (m_std P s x + 1) h0 h1 (by omega); omega)) (by first | omega | (have z1 := m_ahead_in s x (m_std P s x + 1) h0 h1 (by omega); omega))) rfl rfl rfl rfl rfl ?_
      show AR E d _ (46, [some (vA b), some (vI s), some (vI x), some (vI (P s)), some (vI (m_std P s x))], [vI (m_ahead s x ((m_std P s x) + 1)), vA b], (C, N)) _
      refine AR.callV [vI (m_ahead s x ((m_std P s x) + 1))] (ev_X0_isClosed (by omega) hb hr hw (m_ahead s x ((m_std P s x) + 1)) (by first | omega | (have z1 := m_ahead_in s x (m_std P s x + 1) h0 h1 (by omega); omega))) hb.1 rfl rfl rfl rfl rfl ?_
      show AR E d _ (49, [some (vA b), some (vI s), some (vI x), some (vI (P s)), some (vI (m_std P s x))], [vI (m_cl n q cl (m_ahead s x ((m_std P s x) + 1)))], (C, N)) _
      have f7 := m_cl_in n q cl (m_ahead s x ((m_std P s x) + 1)) (fun k => (hw.2.2.2.2.1 k).1)
      refine AR.if_eq rfl (by first | omega | (have z1 := m_ahead_in s x (m_std P s x + 1) h0 h1 (by omega); omega)) (fun c8 => ?_) (fun c8 => ?_)
      · show AR E d _ (55, [some (vA b), some (vI s), some (vI x), some (vI (P s)), some (vI (m_std P s x))], [], (C, N)) _
        refine AR.blk 2 (f' := (58, [some (vA b), some (vI s), some (vI x), some (vI (P s)), some (vI (m_std P s x))], [vI (P s), vI (m_std P s x)], (C, N))) (fun _ => rfl) ?_
        refine AR.callS [vI (P s)] (ev_X6_strengthOf (by omega) (P s) (by first | omega | (have z1 := m_ahead_in s x (m_std P s x + 1) h0 h1 (by omega); omega))) rfl rfl rfl rfl rfl ?_
        show AR E d _ (61, [some (vA b), some (vI s), some (vI x), some (vI (P s)), some (vI (m_std P s x))], [vI (m_tug (P s) + 1), vI (m_std P s x)], (C, N)) _
        have f9 := m_tug_in ((P s))
        refine AR.ic_le rfl (by first | omega | (have z1 := m_ahead_in s x (m_std P s x + 1) h0 h1 (by omega); omega)) (fun c10 => ?_) (fun c10 => ?_)
        · show AR E d _ (69, [some (vA b), some (vI s), some (vI x), some (vI (P s)), some (vI (m_std P s x))], [], (C, N)) _
          refine AR.blk 1 (f' := (70, [some (vA b), some (vI s), some (vI x), some (vI (P s)), some (vI (m_std P s x))], [vI 0], (C, N))) (fun _ => rfl) ?_
          exact AR.retI rfl (by unfold m_cause; omega) ⟨rfl, .inl rfl⟩ rfl
        · show AR E d _ (64, [some (vA b), some (vI s), some (vI x), some (vI (P s)), some (vI (m_std P s x))], [], (C, N)) _
          refine AR.blk 2 (f' := (70, [some (vA b), some (vI s), some (vI x), some (vI (P s)), some (vI (m_std P s x))], [vI 13], (C, N))) (fun _ => rfl) ?_
          exact AR.retI rfl (by unfold m_cause; omega) ⟨rfl, .inl rfl⟩ rfl
      · show AR E d _ (52, [some (vA b), some (vI s), some (vI x), some (vI (P s)), some (vI (m_std P s x))], [], (C, N)) _
        refine AR.blk 1 (f' := (54, [some (vA b), some (vI s), some (vI x), some (vI (P s)), some (vI (m_std P s x))], [vI 12], (C, N))) (fun _ => rfl) ?_
        exact AR.retI rfl (by unfold m_cause; omega) ⟨rfl, .inl rfl⟩ rfl
    · show AR E d _ (25, [some (vA b), some (vI s), some (vI x), some (vI (P s)), none], [], (C, N)) _
      refine AR.blk 1 (f' := (27, [some (vA b), some (vI s), some (vI x), some (vI (P s)), none], [vI 11], (C, N))) (fun _ => rfl) ?_
      exact AR.retI rfl (by unfold m_cause; omega) ⟨rfl, .inl rfl⟩ rfl
  · show AR E d _ (14, [some (vA b), some (vI s), some (vI x), some (vI (P s)), none], [], (C, N)) _
    refine AR.blk 1 (f' := (16, [some (vA b), some (vI s), some (vI x), some (vI (P s)), none], [vI 10], (C, N))) (fun _ => rfl) ?_
    exact AR.retI rfl (by unfold m_cause; omega) ⟨rfl, .inl rfl⟩ rfl

theorem ev_X0_causeDetail {d : Nat} (hd : 3 ≤ d) (hb : g_isB C b) (hr : g_rB N b P n q p cl tn) (hw : g_wB P n q p cl tn) (y s x : Int) (h0 : ag_in y) (h1 : 0 ≤ s ∧ s < 36) (h2 : 0 ≤ x ∧ x < 4) : Ev E d 15 [vA b, vI y, vI s, vI x] (C, N) (some (vI (m_causeD P y s x)), (C, N)) := by
  obtain ⟨d, rfl⟩ : ∃ j, d = j + 1 := ⟨d - 1, by omega⟩
  refine Ev.intro (M := ag_mX0_causeDetail) rfl rfl ?_
  show AR E d _ (0, [some (vA b), some (vI y), some (vI s), some (vI x)], [], (C, N)) _
  refine AR.blk 1 (f' := (1, [some (vA b), some (vI y), some (vI s), some (vI x)], [vI y], (C, N))) (fun _ => rfl) ?_
  have hsw1 : ag_in y := (by omega)
  by_cases e1 : y = 10
  · refine AR.tswA 0 rfl hsw1 e1 rfl (by omega) ?_
    show AR E d _ (28, [some (vA b), some (vI y), some (vI s), some (vI x)], [], (C, N)) _
    refine AR.blk 2 (f' := (30, [some (vA b), some (vI y), some (vI s), some (vI x)], [vI s, vA b], (C, N))) (fun _ => rfl) ?_
    refine AR.callV [vI s] (ev_X0_pieceAt (by omega) hb hr hw s (by omega)) hb.1 rfl rfl rfl rfl rfl ?_
    show AR E d _ (33, [some (vA b), some (vI y), some (vI s), some (vI x)], [vI (P s)], (C, N)) _
    have f2 := hw.1 s
    refine AR.callS [vI (P s)] (ev_X6_isTug (by omega) (P s) (by omega)) rfl rfl rfl rfl rfl ?_
    show AR E d _ (36, [some (vA b), some (vI y), some (vI s), some (vI x)], [vI (m_tug (P s))], (C, N)) _
    have f3 := m_tug_in ((P s))
    refine AR.if_eq rfl (by omega) (fun c4 => ?_) (fun c4 => ?_)
    · show AR E d _ (43, [some (vA b), some (vI y), some (vI s), some (vI x)], [], (C, N)) _
      refine AR.blk 1 (f' := (44, [some (vA b), some (vI y), some (vI s), some (vI x)], [vI 0], (C, N))) (fun _ => rfl) ?_
      exact AR.retI rfl (by unfold m_causeD; omega) ⟨rfl, .inl rfl⟩ rfl
    · show AR E d _ (39, [some (vA b), some (vI y), some (vI s), some (vI x)], [], (C, N)) _
      refine AR.blk 2 (f' := (44, [some (vA b), some (vI y), some (vI s), some (vI x)], [vI 1], (C, N))) (fun _ => rfl) ?_
      exact AR.retI rfl (by unfold m_causeD; omega) ⟨rfl, .inl rfl⟩ rfl
  by_cases e5 : y = 11
  · refine AR.tswA 1 rfl hsw1 e5 rfl (by omega) ?_
    show AR E d _ (45, [some (vA b), some (vI y), some (vI s), some (vI x)], [], (C, N)) _
    refine AR.blk 1 (f' := (46, [some (vA b), some (vI y), some (vI s), some (vI x)], [vI s], (C, N))) (fun _ => rfl) ?_
    exact AR.retI rfl (by unfold m_causeD; omega) ⟨rfl, .inl rfl⟩ rfl
  by_cases e6 : y = 12
  · refine AR.tswA 2 rfl hsw1 e6 rfl (by omega) ?_
    show AR E d _ (47, [some (vA b), some (vI y), some (vI s), some (vI x)], [], (C, N)) _
    refine AR.blk 5 (f' := (52, [some (vA b), some (vI y), some (vI s), some (vI x)], [vI x, vI s, vA b, vI x, vI s], (C, N))) (fun _ => rfl) ?_
    refine AR.callV [vI s, vI x] (ev_X0_standing (by omega) hb hr hw s x (by omega) (by omega)) hb.1 rfl rfl rfl rfl rfl ?_
    show AR E d _ (55, [some (vA b), some (vI y), some (vI s), some (vI x)], [vI (m_std P s x), vI x, vI s], (C, N)) _
    have f7 := m_std_in P s x (by omega)
    refine AR.blk 2 (f' := (57, [some (vA b), some (vI y), some (vI s), some (vI x)], [vI ((m_std P s x) + 1), vI x, vI s], (C, N))) (fun _ => rfl) ?_
    refine AR.callS [vI s, vI x, vI ((m_std P s x) + 1)] (ev_X6_ahead (by omega) s x ((m_std P s x) + 1) (by omega) (by omega) (by omega)) rfl rfl rfl rfl rfl ?_
    show AR E d _ (60, [some (vA b), some (vI y), some (vI s), some (vI x)], [vI (m_ahead s x ((m_std P s x) + 1))], (C, N)) _
    exact AR.retI rfl (by unfold m_causeD; omega) ⟨rfl, .inl rfl⟩ rfl
  refine AR.tswD rfl hsw1 (by omega) ?_
  show AR E d _ (61, [some (vA b), some (vI y), some (vI s), some (vI x)], [], (C, N)) _
  refine AR.blk 3 (f' := (64, [some (vA b), some (vI y), some (vI s), some (vI x)], [vI x, vI s, vA b], (C, N))) (fun _ => rfl) ?_
  refine AR.callV [vI s, vI x] (ev_X0_standing (by omega) hb hr hw s x (by omega) (by omega)) hb.1 rfl rfl rfl rfl rfl ?_
  show AR E d _ (67, [some (vA b), some (vI y), some (vI s), some (vI x)], [vI (m_std P s x)], (C, N)) _
  have f8 := m_std_in P s x (by omega)
  exact AR.retI rfl (by unfold m_causeD; omega) ⟨rfl, .inl rfl⟩ rfl

theorem ev_X0_pushedOff {d : Nat} (hd : 3 ≤ d) (hb : g_isB C b) (hr : g_rB N b P n q p cl tn) (hw : g_wB P n q p cl tn) (s x : Int) (h0 : 0 ≤ s ∧ s < 36) (h1 : 0 ≤ x ∧ x < 4) : Ev E d 16 [vA b, vI s, vI x] (C, N) (some (vI (m_off P s x)), (C, N)) := by
  obtain ⟨d, rfl⟩ : ∃ j, d = j + 1 := ⟨d - 1, by omega⟩
  refine Ev.intro (M := ag_mX0_pushedOff) rfl rfl ?_
  show AR E d _ (0, [some (vA b), some (vI s), some (vI x), none], [], (C, N)) _
  refine AR.blk 3 (f' := (3, [some (vA b), some (vI s), some (vI x), none], [vI x, vI s, vA b], (C, N))) (fun _ => rfl) ?_
  refine AR.callV [vI s, vI x] (ev_X0_standing (by omega) hb hr hw s x (by first | omega | (have z1 := m_ahead_in s x (m_std P s x) h0 h1 (by omega); omega)) (by first | omega | (have z1 := m_ahead_in s x (m_std P s x) h0 h1 (by omega); omega))) hb.1 rfl rfl rfl rfl rfl ?_
  show AR E d _ (6, [some (vA b), some (vI s), some (vI x), none], [vI (m_std P s x)], (C, N)) _
  have f1 := m_std_in P s x (by omega)
  refine AR.blk 2 (f' := (8, [some (vA b), some (vI s), some (vI x), some (vI (m_std P s x))], [vI (m_std P s x)], (C, N))) (fun _ => rfl) ?_
  refine AR.if_eq rfl (by first | omega | (have z1 := m_ahead_in s x (m_std P s x) h0 h1 (by omega); omega)) (fun c2 => ?_) (fun c2 => ?_)
  · show AR E d _ (20, [some (vA b), some (vI s), some (vI x), some (vI (m_std P s x))], [], (C, N)) _
    refine AR.blk 1 (f' := (21, [some (vA b), some (vI s), some (vI x), some (vI (m_std P s x))], [vI (-1)], (C, N))) (fun _ => rfl) ?_
    exact AR.retI rfl (by unfold m_off; omega) ⟨rfl, .inl rfl⟩ rfl
  · show AR E d _ (11, [some (vA b), some (vI s), some (vI x), some (vI (m_std P s x))], [], (C, N)) _
    refine AR.blk 3 (f' := (14, [some (vA b), some (vI s), some (vI x), some (vI (m_std P s x))], [vI x, vI s, vI (m_std P s x)], (C, N))) (fun _ => rfl) ?_
    refine AR.callS [vI s, vI x] (ev_X6_roomFrom (by omega) s x (by first | omega | (have z1 := m_ahead_in s x (m_std P s x) h0 h1 (by omega); omega)) (by first | omega | (have z1 := m_ahead_in s x (m_std P s x) h0 h1 (by omega); omega))) rfl rfl rfl rfl rfl ?_
    show AR E d _ (17, [some (vA b), some (vI s), some (vI x), some (vI (m_std P s x))], [vI (m_room s x), vI (m_std P s x)], (C, N)) _
    have f3 := m_room_in (s) (x) (by omega)
    refine AR.ic_ge rfl (by first | omega | (have z1 := m_ahead_in s x (m_std P s x) h0 h1 (by omega); omega)) (fun c4 => ?_) (fun c4 => ?_)
    · show AR E d _ (22, [some (vA b), some (vI s), some (vI x), some (vI (m_std P s x))], [], (C, N)) _
      refine AR.blk 4 (f' := (26, [some (vA b), some (vI s), some (vI x), some (vI (m_std P s x))], [vI (m_std P s x), vI x, vI s, vA b], (C, N))) (fun _ => rfl) ?_
      refine AR.callS [vI s, vI x, vI (m_std P s x)] (ev_X6_ahead (by omega) s x (m_std P s x) (by first | omega | (have z1 := m_ahead_in s x (m_std P s x) h0 h1 (by omega); omega)) (by first | omega | (have z1 := m_ahead_in s x (m_std P s x) h0 h1 (by omega); omega)) (by first | omega | (have z1 := m_ahead_in s x (m_std P s x) h0 h1 (by omega); omega))) rfl rfl rfl rfl rfl ?_
      show AR E d _ (29, [some (vA b), some (vI s), some (vI x), some (vI (m_std P s x))], [vI (m_ahead s x (m_std P s x)), vA b], (C, N)) _
      refine AR.callV [vI (m_ahead s x (m_std P s x))] (ev_X0_pieceAt (by omega) hb hr hw (m_ahead s x (m_std P s x)) (by first | omega | (have z1 := m_ahead_in s x (m_std P s x) h0 h1 (by omega); omega))) hb.1 rfl rfl rfl rfl rfl ?_
      show AR E d _ (32, [some (vA b), some (vI s), some (vI x), some (vI (m_std P s x))], [vI (P (m_ahead s x (m_std P s x)))], (C, N)) _
      have f5 := hw.1 (m_ahead s x (m_std P s x))
      exact AR.retI rfl (by unfold m_off; omega) ⟨rfl, .inl rfl⟩ rfl
    · show AR E d _ (20, [some (vA b), some (vI s), some (vI x), some (vI (m_std P s x))], [], (C, N)) _
      refine AR.blk 1 (f' := (21, [some (vA b), some (vI s), some (vI x), some (vI (m_std P s x))], [vI (-1)], (C, N))) (fun _ => rfl) ?_
      exact AR.retI rfl (by unfold m_off; omega) ⟨rfl, .inl rfl⟩ rfl

theorem ev_X0_countMoves {d : Nat} (hd : 4 ≤ d) (hb : g_isB C b) (hr : g_rB N b P n q p cl tn) (hw : g_wB P n q p cl tn) (w : Int) (h0 : ag_in w) : Ev E d 17 [vA b, vI w] (C, N) (some (vI (m_mv P n q cl w)), (C, N)) := by
  obtain ⟨d, rfl⟩ : ∃ j, d = j + 1 := ⟨d - 1, by omega⟩
  refine Ev.intro (M := ag_mX0_countMoves) rfl rfl ?_
  show AR E d _ (0, [some (vA b), some (vI w), none, none, none], [], (C, N)) _
  refine AR.blk 4 (f' := (4, [some (vA b), some (vI w), some (vI 0), some (vI 0), none], [], (C, N))) (fun _ => rfl) ?_
  suffices H4 : ∀ (j : Nat) (c : Int) (k : Int) (z : Option av), (144 - k).toNat < j → (0 ≤ k ∧ k ≤ 144 ∧ 0 ≤ c ∧ c ≤ k) → (c = m_sum (m_code P n q cl w) k.toNat) → AR E d ag_mX0_countMoves (4, [some (vA b), some (vI w), some (vI c), some (vI k), z], [], (C, N)) (fun o_ => o_ = (some (vI (m_mv P n q cl w)), (C, N))) by
    exact H4 _ _ _ _ (Nat.lt_succ_self _) (by omega) rfl
  intro j
  induction j with
  | zero => intro c k z hj; exact absurd hj (Nat.not_lt_zero _)
  | succ j ih4 =>
    intro c k z hj4 i0 i1
    refine AR.blk 2 (f' := (8, [some (vA b), some (vI w), some (vI c), some (vI k), z], [vI 144, vI k], (C, N))) (fun _ => rfl) ?_
    refine AR.ic_ge rfl (by omega) (fun c1 => ?_) (fun c1 => ?_)
    · show AR E d _ (50, [some (vA b), some (vI w), some (vI c), some (vI k), z], [], (C, N)) _
      refine AR.blk 1 (f' := (51, [some (vA b), some (vI w), some (vI c), some (vI k), z], [vI c], (C, N))) (fun _ => rfl) ?_
      exact AR.retI rfl (by rw [i1, show k = 144 by omega]; rfl) ⟨rfl, .inl rfl⟩ rfl
    · show AR E d _ (11, [some (vA b), some (vI w), some (vI c), some (vI k), z], [], (C, N)) _
      refine AR.blk 2 (f' := (13, [some (vA b), some (vI w), some (vI c), some (vI k), z], [vI 4, vI k], (C, N))) (fun _ => rfl) ?_
      refine AR.idiv rfl (by omega) ?_
      refine AR.blk 3 (f' := (19, [some (vA b), some (vI w), some (vI c), some (vI k), some (vI (k / 4))], [vI (k / 4), vA b], (C, N))) (fun _ => rfl) ?_
      refine AR.callV [vI (k / 4)] (ev_X0_pieceAt (by omega) hb hr hw (k / 4) (by omega)) hb.1 rfl rfl rfl rfl rfl ?_
      show AR E d _ (22, [some (vA b), some (vI w), some (vI c), some (vI k), some (vI (k / 4))], [vI (P (k / 4))], (C, N)) _
      have f2 := hw.1 (k / 4)
      refine AR.callS [vI (P (k / 4))] (ev_X6_ownerOf (by omega) (P (k / 4)) (by omega)) rfl rfl rfl rfl rfl ?_
      show AR E d _ (25, [some (vA b), some (vI w), some (vI c), some (vI k), some (vI (k / 4))], [vI (m_own (P (k / 4)))], (C, N)) _
      have f3 := m_own_in ((P (k / 4))) (by omega)
      refine AR.blk 1 (f' := (26, [some (vA b), some (vI w), some (vI c), some (vI k), some (vI (k / 4))], [vI w, vI (m_own (P (k / 4)))], (C, N))) (fun _ => rfl) ?_
      refine AR.ic_ne rfl (by omega) (fun c4 => ?_) (fun c4 => ?_)
      · show AR E d _ (44, [some (vA b), some (vI w), some (vI c), some (vI k), some (vI (k / 4))], [], (C, N)) _
        refine AR.blk 2 (f' := (4, [some (vA b), some (vI w), some (vI c), some (vI (k + 1)), some (vI (k / 4))], [], (C, N))) (fun _ => rfl) ?_
        exact ih4 _ _ _ (by omega) (by omega) (by rw [m_sum_succ _ (by omega), ← i1]; unfold m_code; omega)
      · show AR E d _ (29, [some (vA b), some (vI w), some (vI c), some (vI k), some (vI (k / 4))], [], (C, N)) _
        refine AR.blk 4 (f' := (34, [some (vA b), some (vI w), some (vI c), some (vI k), some (vI (k / 4))], [vI 4, vI k, vI (k / 4), vA b], (C, N))) (fun _ => rfl) ?_
        refine AR.irem rfl (by omega) ?_
        refine AR.callV [vI (k / 4), vI (k % 4)] (ev_X0_causeAgainst (by omega) hb hr hw (k / 4) (k % 4) (by omega) (by omega)) hb.1 rfl rfl rfl rfl rfl ?_
        show AR E d _ (38, [some (vA b), some (vI w), some (vI c), some (vI k), some (vI (k / 4))], [vI (m_cause P n q cl (k / 4) (k % 4))], (C, N)) _
        have f5 := m_cause_in P n q cl (k / 4) (k % 4)
        refine AR.if_ne rfl (by omega) (fun c6 => ?_) (fun c6 => ?_)
        · show AR E d _ (44, [some (vA b), some (vI w), some (vI c), some (vI k), some (vI (k / 4))], [], (C, N)) _
          refine AR.blk 2 (f' := (4, [some (vA b), some (vI w), some (vI c), some (vI (k + 1)), some (vI (k / 4))], [], (C, N))) (fun _ => rfl) ?_
          exact ih4 _ _ _ (by omega) (by omega) (by rw [m_sum_succ _ (by omega), ← i1]; unfold m_code; omega)
        · show AR E d _ (41, [some (vA b), some (vI w), some (vI c), some (vI k), some (vI (k / 4))], [], (C, N)) _
          refine AR.blk 3 (f' := (4, [some (vA b), some (vI w), some (vI (c + 1)), some (vI (k + 1)), some (vI (k / 4))], [], (C, N))) (fun _ => rfl) ?_
          exact ih4 _ _ _ (by omega) (by omega) (by rw [m_sum_succ _ (by omega), ← i1]; unfold m_code; omega)

theorem ev_X0_signOf {d : Nat} (hd : 3 ≤ d) (hb : g_isB C b) (hr : g_rB N b P n q p cl tn) (hw : g_wB P n q p cl tn) (s : Int) (h0 : 0 ≤ s ∧ s < 36) : Ev E d 23 [vA b, vI s] (C, N) (some (vI (m_sign P n q cl s)), (C, N)) := by
  obtain ⟨d, rfl⟩ : ∃ j, d = j + 1 := ⟨d - 1, by omega⟩
  refine Ev.intro (M := ag_mX0_signOf) rfl rfl ?_
  show AR E d _ (0, [some (vA b), some (vI s), none, none], [], (C, N)) _
  refine AR.blk 2 (f' := (2, [some (vA b), some (vI s), none, none], [vI s, vA b], (C, N))) (fun _ => rfl) ?_
  refine AR.callV [vI s] (ev_X0_pieceAt (by omega) hb hr hw s (by omega)) hb.1 rfl rfl rfl rfl rfl ?_
  show AR E d _ (5, [some (vA b), some (vI s), none, none], [vI (P s)], (C, N)) _
  have f1 := hw.1 s
  refine AR.blk 3 (f' := (8, [some (vA b), some (vI s), some (vI (P s)), none], [vI (-1), vI (P s)], (C, N))) (fun _ => rfl) ?_
  refine AR.ic_eq rfl (by omega) (fun c2 => ?_) (fun c2 => ?_)
  · show AR E d _ (45, [some (vA b), some (vI s), some (vI (P s)), none], [], (C, N)) _
    refine AR.blk 2 (f' := (47, [some (vA b), some (vI s), some (vI (P s)), none], [vI s, vA b], (C, N))) (fun _ => rfl) ?_
    refine AR.callV [vI s] (ev_X0_lockAt (by omega) hb hr hw s (by omega)) hb.1 rfl rfl rfl rfl rfl ?_
    show AR E d _ (50, [some (vA b), some (vI s), some (vI (P s)), none], [vI (m_la n q s)], (C, N)) _
    have f3 := m_la_in n q s hw.2.2.1.1
    refine AR.blk 1 (f' := (51, [some (vA b), some (vI s), some (vI (P s)), none], [vI (-1), vI (m_la n q s)], (C, N))) (fun _ => rfl) ?_
    refine AR.ic_ne rfl (by omega) (fun c4 => ?_) (fun c4 => ?_)
    · show AR E d _ (57, [some (vA b), some (vI s), some (vI (P s)), none], [], (C, N)) _
      refine AR.blk 2 (f' := (59, [some (vA b), some (vI s), some (vI (P s)), none], [vI s, vA b], (C, N))) (fun _ => rfl) ?_
      refine AR.callV [vI s] (ev_X0_isClosed (by omega) hb hr hw s (by omega)) hb.1 rfl rfl rfl rfl rfl ?_
      show AR E d _ (62, [some (vA b), some (vI s), some (vI (P s)), none], [vI (m_cl n q cl s)], (C, N)) _
      have f5 := m_cl_in n q cl s (fun k => (hw.2.2.2.2.1 k).1)
      refine AR.if_eq rfl (by omega) (fun c6 => ?_) (fun c6 => ?_)
      · show AR E d _ (70, [some (vA b), some (vI s), some (vI (P s)), none], [], (C, N)) _
        refine AR.blk 1 (f' := (72, [some (vA b), some (vI s), some (vI (P s)), none], [vI 61], (C, N))) (fun _ => rfl) ?_
        exact AR.retI rfl (by unfold m_sign; first | omega | (simp only [m_own, m_tug] at *; omega)) ⟨rfl, .inl rfl⟩ rfl
      · show AR E d _ (65, [some (vA b), some (vI s), some (vI (P s)), none], [], (C, N)) _
        refine AR.blk 2 (f' := (72, [some (vA b), some (vI s), some (vI (P s)), none], [vI 35], (C, N))) (fun _ => rfl) ?_
        exact AR.retI rfl (by unfold m_sign; first | omega | (simp only [m_own, m_tug] at *; omega)) ⟨rfl, .inl rfl⟩ rfl
    · show AR E d _ (54, [some (vA b), some (vI s), some (vI (P s)), none], [], (C, N)) _
      refine AR.blk 1 (f' := (56, [some (vA b), some (vI s), some (vI (P s)), none], [vI 46], (C, N))) (fun _ => rfl) ?_
      exact AR.retI rfl (by unfold m_sign; first | omega | (simp only [m_own, m_tug] at *; omega)) ⟨rfl, .inl rfl⟩ rfl
  · show AR E d _ (11, [some (vA b), some (vI s), some (vI (P s)), none], [], (C, N)) _
    refine AR.blk 1 (f' := (12, [some (vA b), some (vI s), some (vI (P s)), none], [vI (P s)], (C, N))) (fun _ => rfl) ?_
    refine AR.callS [vI (P s)] (ev_X6_isTug (by omega) (P s) (by omega)) rfl rfl rfl rfl rfl ?_
    show AR E d _ (15, [some (vA b), some (vI s), some (vI (P s)), none], [vI (m_tug (P s))], (C, N)) _
    have f7 := m_tug_in ((P s))
    refine AR.if_eq rfl (by omega) (fun c8 => ?_) (fun c8 => ?_)
    · show AR E d _ (23, [some (vA b), some (vI s), some (vI (P s)), none], [], (C, N)) _
      refine AR.blk 3 (f' := (27, [some (vA b), some (vI s), some (vI (P s)), some (vI 98)], [vI (P s)], (C, N))) (fun _ => rfl) ?_
      refine AR.callS [vI (P s)] (ev_X6_ownerOf (by omega) (P s) (by omega)) rfl rfl rfl rfl rfl ?_
      show AR E d _ (30, [some (vA b), some (vI s), some (vI (P s)), some (vI 98)], [vI (m_own (P s))], (C, N)) _
      have f9 := m_own_in ((P s)) (by omega)
      refine AR.if_ne rfl (by omega) (fun c10 => ?_) (fun c10 => ?_)
      · show AR E d _ (37, [some (vA b), some (vI s), some (vI (P s)), some (vI 98)], [], (C, N)) _
        refine AR.blk 5 (f' := (44, [some (vA b), some (vI s), some (vI (P s)), some (vI 98)], [vI 66], (C, N))) (fun _ => rfl) ?_
        exact AR.retI rfl (by unfold m_sign; first | omega | (simp only [m_own, m_tug] at *; omega)) ⟨rfl, .inl rfl⟩ rfl
      · show AR E d _ (33, [some (vA b), some (vI s), some (vI (P s)), some (vI 98)], [], (C, N)) _
        refine AR.blk 2 (f' := (44, [some (vA b), some (vI s), some (vI (P s)), some (vI 98)], [vI 98], (C, N))) (fun _ => rfl) ?_
        exact AR.retI rfl (by unfold m_sign; first | omega | (simp only [m_own, m_tug] at *; omega)) ⟨rfl, .inl rfl⟩ rfl
    · show AR E d _ (18, [some (vA b), some (vI s), some (vI (P s)), none], [], (C, N)) _
      refine AR.blk 4 (f' := (27, [some (vA b), some (vI s), some (vI (P s)), some (vI 116)], [vI (P s)], (C, N))) (fun _ => rfl) ?_
      refine AR.callS [vI (P s)] (ev_X6_ownerOf (by omega) (P s) (by omega)) rfl rfl rfl rfl rfl ?_
      show AR E d _ (30, [some (vA b), some (vI s), some (vI (P s)), some (vI 116)], [vI (m_own (P s))], (C, N)) _
      have f11 := m_own_in ((P s)) (by omega)
      refine AR.if_ne rfl (by omega) (fun c12 => ?_) (fun c12 => ?_)
      · show AR E d _ (37, [some (vA b), some (vI s), some (vI (P s)), some (vI 116)], [], (C, N)) _
        refine AR.blk 5 (f' := (44, [some (vA b), some (vI s), some (vI (P s)), some (vI 116)], [vI 84], (C, N))) (fun _ => rfl) ?_
        exact AR.retI rfl (by unfold m_sign; first | omega | (simp only [m_own, m_tug] at *; omega)) ⟨rfl, .inl rfl⟩ rfl
      · show AR E d _ (33, [some (vA b), some (vI s), some (vI (P s)), some (vI 116)], [], (C, N)) _
        refine AR.blk 2 (f' := (44, [some (vA b), some (vI s), some (vI (P s)), some (vI 116)], [vI 116], (C, N))) (fun _ => rfl) ?_
        exact AR.retI rfl (by unfold m_sign; first | omega | (simp only [m_own, m_tug] at *; omega)) ⟨rfl, .inl rfl⟩ rfl

end L2b
