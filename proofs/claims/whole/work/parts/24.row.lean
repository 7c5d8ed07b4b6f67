/-! LEVEL 2: the model's row -/
def g_isM (C : List ag_C) (m : Nat) : Prop := C[m]? = some (7, 20, [some (m + 1), some (m + 2), some (m + 3), some (m + 4), some (m + 5), none, none, none, none, none, none, none, none, some (m + 6), none, some (m + 7), none, none, some (m + 8), none]) ∧ C[m + 1]? = some (8, 800, []) ∧ C[m + 2]? = some (8, 6400, []) ∧ C[m + 3]? = some (8, 800, []) ∧ C[m + 4]? = some (8, 800, []) ∧ C[m + 5]? = some (8, 800, []) ∧ C[m + 6]? = some (8, 70, []) ∧ C[m + 7]? = some (10, 6, []) ∧ C[m + 8]? = some (8, 64, [])
def g_rR (R : Int → Int) (P : Int → Int) (n : Int) (q p cl tn : Int → Int) : Prop := (∀ s, 0 ≤ s → s < 36 → R (31 + s) = P s + 1) ∧ R 14 = n ∧ (∀ k, 0 ≤ k → k < 4 → R (15 + 4 * k + 0) = q k ∧ R (15 + 4 * k + 1) = p k) ∧ (∀ k, 0 ≤ k → k < 4 → R (15 + 4 * k + 2) = cl k ∧ R (15 + 4 * k + 3) = tn k)
def g_rS (R : Int → Int) (t bg en ca : Int) (gn pu mk : Int → Int) : Prop := R 0 = t ∧ R 1 = t % 2 ∧ R 2 = t / 4 ∧ R 3 = bg ∧ R 4 = en ∧ R 5 = ca ∧ (R 8 = gn 0 ∧ R 9 = gn 1) ∧ (R 10 = pu 0 ∧ R 11 = pu 1) ∧ (R 12 = mk 0 ∧ R 13 = mk 1)
def g_wS (t bg en ca : Int) (gn pu mk : Int → Int) : Prop := (0 ≤ t ∧ t ≤ 120) ∧ (bg = 0 ∨ bg = 1) ∧ (0 ≤ en ∧ en ≤ 3) ∧ (0 ≤ ca ∧ ca ≤ 12 * (t / 4)) ∧ (∀ w, (0 ≤ gn w ∧ gn w ≤ 10 * t) ∧ (0 ≤ pu w ∧ pu w ≤ 10 * t) ∧ (0 ≤ mk w ∧ mk w ≤ 10 * t)) ∧ (bg = 0 → t = 0 ∧ en = 0)
def m_on (bg en : Int) : Int := if bg = 1 ∧ en = 0 then 1 else 0
theorem m_on_in (bg en : Int) : m_on bg en = 0 ∨ m_on bg en = 1 := by unfold m_on; omega
def m_open (P : Int → Int) (n : Int) (q cl : Int → Int) (t bg en : Int) (m : Int) : Int := if m_on bg en = 1 ∧ m_own (P (m / 4)) = t % 2 ∧ m_cause P n q cl (m / 4) (m % 4) = 0 then 1 else 0
theorem m_open_in (P : Int → Int) (n : Int) (q cl : Int → Int) (t bg en m : Int) : m_open P n q cl t bg en m = 0 ∨ m_open P n q cl t bg en m = 1 := by unfold m_open; omega
def m_mvs (P : Int → Int) (n : Int) (q cl : Int → Int) (t bg en : Int) : Int := m_sum (m_open P n q cl t bg en) 144
theorem m_mvs_in (P : Int → Int) (n : Int) (q cl : Int → Int) (t bg en : Int) : 0 ≤ m_mvs P n q cl t bg en ∧ m_mvs P n q cl t bg en ≤ 144 := m_sum_b _ (fun m => by have := m_open_in P n q cl t bg en m; omega) 144
def m_ck (P : Int → Int) (w k : Int) : Int := m_sum (fun s => if P s + 1 = 2 * w + k + 1 then 1 else 0) 36
theorem m_ck_in (P : Int → Int) (w k : Int) : 0 ≤ m_ck P w k ∧ m_ck P w k ≤ 36 := m_sum_b _ (fun k => by omega) 36
theorem m_sum_ext {f g : Int → Int} : ∀ (n : Nat), (∀ k : Int, 0 ≤ k → k < n → f k = g k) → m_sum f n = m_sum g n := by
  intro n
  induction n with
  | zero => intro _; rfl
  | succ n ih =>
    intro h
    show m_sum f n + f n = m_sum g n + g n
    rw [ih (fun k h0 h1 => h k h0 (by omega)), h n (by omega) (by omega)]
theorem m_sum_add (f g : Int → Int) : ∀ (n : Nat), m_sum (fun k => f k + g k) n = m_sum f n + m_sum g n := by
  intro n
  induction n with
  | zero => rfl
  | succ n ih =>
    show m_sum (fun k => f k + g k) n + (f n + g n) = (m_sum f n + f n) + (m_sum g n + g n)
    omega
theorem m_ck_sum (P : Int → Int) (w : Int) (h : ∀ s, -1 ≤ P s ∧ P s ≤ 3) (hw : 0 ≤ w ∧ w < 2) : m_ck P w 0 + m_ck P w 1 = m_cnt P w := by
  unfold m_ck m_cnt
  rw [← m_sum_add]
  refine m_sum_ext 36 (fun k _ _ => ?_)
  have := h k
  unfold m_own
  omega
theorem m_ck_tug (P : Int → Int) (w : Int) (h : ∀ s, -1 ≤ P s ∧ P s ≤ 3) (hw : 0 ≤ w ∧ w < 2) : m_ck P w 1 = m_tugs P w := by
  unfold m_ck m_tugs
  refine m_sum_ext 36 (fun k _ _ => ?_)
  have := h k
  unfold m_own m_tug
  omega
theorem m_ah (s x k : Int) (h : 0 ≤ s ∧ s < 36) (hx : 0 ≤ x ∧ x < 4) (hk : 0 ≤ k) : m_ahead s x k = -1 ∧ m_room s x < k ∨ 0 ≤ m_ahead s x k ∧ m_ahead s x k < 36 ∧ k ≤ m_room s x ∧ m_ahead s x k = s + k * m_step x := by
  have h1 := m_ahead_in s x k h hx hk
  by_cases q : k ≤ m_room s x
  · refine .inr ⟨?_, h1.2.1, q, ?_⟩
    · omega
    · exact if_pos q
  · exact .inl ⟨by omega, by omega⟩
theorem m_ahS (s x k : Int) (h : 0 ≤ s ∧ s < 36) (hx : 0 ≤ x ∧ x < 4) (hk : 0 ≤ k) (ha : 0 ≤ m_ahead s x k) : m_ahead (m_ahead s x k) x 1 = m_ahead s x (k + 1) := by
  have e : x = 0 ∨ x = 1 ∨ x = 2 ∨ x = 3 := by omega
  revert ha
  unfold m_ahead m_room m_step
  rcases e with rfl | rfl | rfl | rfl <;> simp <;> omega
theorem m_frS (P : Int → Int) (s x c : Int) (h : 0 ≤ s ∧ s < 36) (hx : 0 ≤ x ∧ x < 4) (hc : 0 ≤ c ∧ c ≤ m_room s x) (r : Int) (hr : m_fr P s (m_step x) (m_room s x - c).toNat c = r) : (m_ahead s x (c + 1) = -1 → c = r) ∧ (0 ≤ m_ahead s x (c + 1) → P (m_ahead s x (c + 1)) = -1 → c = r) ∧ (0 ≤ m_ahead s x (c + 1) → P (m_ahead s x (c + 1)) ≠ -1 → c + 1 ≤ m_room s x ∧ m_fr P s (m_step x) (m_room s x - (c + 1)).toNat (c + 1) = r) := by
  have h1 := m_ah s x (c + 1) h hx (by omega)
  refine ⟨fun z => ?_, fun z1 z2 => ?_, fun z1 z2 => ?_⟩
  · rw [show (m_room s x - c).toNat = 0 by omega] at hr
    exact hr
  · rw [show (m_room s x - c).toNat = (m_room s x - (c + 1)).toNat + 1 by omega] at hr
    rw [← hr]
    rw [show m_ahead s x (c + 1) = s + (c + 1) * m_step x by omega] at z2
    exact (if_pos z2).symm
  · rw [show (m_room s x - c).toNat = (m_room s x - (c + 1)).toNat + 1 by omega] at hr
    rw [show m_ahead s x (c + 1) = s + (c + 1) * m_step x by omega] at z2
    exact ⟨by omega, (if_neg z2).symm.trans hr⟩
def m_lk (q p cl tn : Int → Int) (l w : Int) : Int := if w = 0 then q l else if w = 1 then p l else if w = 2 then cl l else tn l
theorem m_lk_of {R P : Int → Int} {n : Int} {q p cl tn : Int → Int} (hr : g_rR R P n q p cl tn) {l w : Int} (hl : 0 ≤ l ∧ l < n) (hn : n ≤ 4) (hw : 0 ≤ w ∧ w < 4) : R (15 + 4 * l + w) = m_lk q p cl tn l w := by
  have h1 := hr.2.2.1 l hl.1 (by omega)
  have h2 := hr.2.2.2 l hl.1 (by omega)
  have e : w = 0 ∨ w = 1 ∨ w = 2 ∨ w = 3 := by omega
  rcases e with rfl | rfl | rfl | rfl
  · exact h1.1
  · exact h1.2
  · exact h2.1
  · exact h2.2
theorem m_two {R g : Int → Int} (z : Int) {w : Int} (h0 : R z = g 0) (h1 : R (z + 1) = g 1) (hw : 0 ≤ w ∧ w < 2) : R (z + w) = g w := by
  have e : w = 0 ∨ w = 1 := by omega
  rcases e with rfl | rfl
  · rw [Int.add_zero]; exact h0
  · exact h1
section L2c
variable {E : Nat × (Int → Int)} {C : List ag_C} {N : Nat → Int → Int} {m : Nat} {P : Int → Int} {n : Int} {q p cl tn : Int → Int} {t bg en ca : Int} {gn pu mk : Int → Int}

theorem ev_X7_in {d : Nat} (hd : 1 ≤ d) (v lo hi : Int) (h0 : ag_in v ∧ ag_in lo ∧ ag_in hi) : Ev E d 107 [vI v, vI lo, vI hi] (C, N) (some (vI (if lo ≤ v ∧ v ≤ hi then 1 else 0)), (C, N)) := by
  obtain ⟨d, rfl⟩ : ∃ j, d = j + 1 := ⟨d - 1, by omega⟩
  refine Ev.intro (M := ag_mX7_in) rfl rfl ?_
  show AR E d _ (0, [some (vI v), some (vI lo), some (vI hi)], [], (C, N)) _
  refine AR.blk 2 (f' := (2, [some (vI v), some (vI lo), some (vI hi)], [vI lo, vI v], (C, N))) (fun _ => rfl) ?_
  refine AR.ic_lt rfl (by omega) (fun c1 => ?_) (fun c1 => ?_)
  · show AR E d _ (14, [some (vI v), some (vI lo), some (vI hi)], [], (C, N)) _
    refine AR.blk 1 (f' := (15, [some (vI v), some (vI lo), some (vI hi)], [vI 0], (C, N))) (fun _ => rfl) ?_
    exact AR.retI rfl (by omega) (by decide) rfl
  · show AR E d _ (5, [some (vI v), some (vI lo), some (vI hi)], [], (C, N)) _
    refine AR.blk 2 (f' := (7, [some (vI v), some (vI lo), some (vI hi)], [vI hi, vI v], (C, N))) (fun _ => rfl) ?_
    refine AR.ic_gt rfl (by omega) (fun c2 => ?_) (fun c2 => ?_)
    · show AR E d _ (14, [some (vI v), some (vI lo), some (vI hi)], [], (C, N)) _
      refine AR.blk 1 (f' := (15, [some (vI v), some (vI lo), some (vI hi)], [vI 0], (C, N))) (fun _ => rfl) ?_
      exact AR.retI rfl (by omega) (by decide) rfl
    · show AR E d _ (10, [some (vI v), some (vI lo), some (vI hi)], [], (C, N)) _
      refine AR.blk 2 (f' := (15, [some (vI v), some (vI lo), some (vI hi)], [vI 1], (C, N))) (fun _ => rfl) ?_
      exact AR.retI rfl (by omega) (by decide) rfl

theorem ev_X7_isSquare {d : Nat} (hd : 2 ≤ d) (s : Int) (h0 : ag_in s) : Ev E d 108 [vI s] (C, N) (some (vI (if 0 ≤ s ∧ s ≤ 35 then 1 else 0)), (C, N)) := by
  obtain ⟨d, rfl⟩ : ∃ j, d = j + 1 := ⟨d - 1, by omega⟩
  refine Ev.intro (M := ag_mX7_isSquare) rfl rfl ?_
  show AR E d _ (0, [some (vI s)], [], (C, N)) _
  refine AR.blk 3 (f' := (4, [some (vI s)], [vI 35, vI 0, vI s], (C, N))) (fun _ => rfl) ?_
  refine AR.callS [vI s, vI 0, vI 35] (ev_X7_in (by omega) s 0 35 (by omega)) rfl rfl rfl rfl rfl ?_
  show AR E d _ (7, [some (vI s)], [vI (if 0 ≤ s ∧ s ≤ 35 then 1 else 0)], (C, N)) _
  exact AR.retZ rfl (by omega) rfl (by omega) rfl

theorem ev_X7_beside {d : Nat} (hd : 1 ≤ d) (s x : Int) (h0 : 0 ≤ s ∧ s < 36) (h1 : 0 ≤ x ∧ x < 4) : Ev E d 123 [vI s, vI x] (C, N) (some (vI (m_ahead s x 1)), (C, N)) := by
  obtain ⟨d, rfl⟩ : ∃ j, d = j + 1 := ⟨d - 1, by omega⟩
  refine Ev.intro (M := ag_mX7_beside) rfl rfl ?_
  show AR E d _ (0, [some (vI s), some (vI x)], [], (C, N)) _
  refine AR.blk 1 (f' := (1, [some (vI s), some (vI x)], [vI x], (C, N))) (fun _ => rfl) ?_
  have hsw1 : ag_in x := (by omega)
  by_cases e1 : x = 0
  · refine AR.tswA 0 rfl hsw1 e1 rfl (by omega) ?_
    show AR E d _ (28, [some (vI s), some (vI x)], [], (C, N)) _
    refine AR.blk 2 (f' := (31, [some (vI s), some (vI x)], [vI 6, vI s], (C, N))) (fun _ => rfl) ?_
    refine AR.idiv rfl (by omega) ?_
    refine AR.blk 1 (f' := (33, [some (vI s), some (vI x)], [vI 5, vI (s / 6)], (C, N))) (fun _ => rfl) ?_
    refine AR.ic_ne rfl (by omega) (fun c2 => ?_) (fun c2 => ?_)
    · show AR E d _ (40, [some (vI s), some (vI x)], [], (C, N)) _
      refine AR.blk 3 (f' := (44, [some (vI s), some (vI x)], [vI (s + 6)], (C, N))) (fun _ => rfl) ?_
      exact AR.retI rfl (by unfold m_ahead m_room m_step; omega) ⟨rfl, .inl rfl⟩ rfl
    · show AR E d _ (36, [some (vI s), some (vI x)], [], (C, N)) _
      refine AR.blk 2 (f' := (44, [some (vI s), some (vI x)], [vI (-1)], (C, N))) (fun _ => rfl) ?_
      exact AR.retI rfl (by unfold m_ahead m_room m_step; omega) ⟨rfl, .inl rfl⟩ rfl
  by_cases e3 : x = 1
  · refine AR.tswA 1 rfl hsw1 e3 rfl (by omega) ?_
    show AR E d _ (45, [some (vI s), some (vI x)], [], (C, N)) _
    refine AR.blk 2 (f' := (48, [some (vI s), some (vI x)], [vI 6, vI s], (C, N))) (fun _ => rfl) ?_
    refine AR.irem rfl (by omega) ?_
    refine AR.blk 1 (f' := (50, [some (vI s), some (vI x)], [vI 5, vI (s % 6)], (C, N))) (fun _ => rfl) ?_
    refine AR.ic_ne rfl (by omega) (fun c4 => ?_) (fun c4 => ?_)
    · show AR E d _ (57, [some (vI s), some (vI x)], [], (C, N)) _
      refine AR.blk 3 (f' := (60, [some (vI s), some (vI x)], [vI (s + 1)], (C, N))) (fun _ => rfl) ?_
      exact AR.retI rfl (by unfold m_ahead m_room m_step; omega) ⟨rfl, .inl rfl⟩ rfl
    · show AR E d _ (53, [some (vI s), some (vI x)], [], (C, N)) _
      refine AR.blk 2 (f' := (60, [some (vI s), some (vI x)], [vI (-1)], (C, N))) (fun _ => rfl) ?_
      exact AR.retI rfl (by unfold m_ahead m_room m_step; omega) ⟨rfl, .inl rfl⟩ rfl
  by_cases e5 : x = 2
  · refine AR.tswA 2 rfl hsw1 e5 rfl (by omega) ?_
    show AR E d _ (61, [some (vI s), some (vI x)], [], (C, N)) _
    refine AR.blk 2 (f' := (64, [some (vI s), some (vI x)], [vI 6, vI s], (C, N))) (fun _ => rfl) ?_
    refine AR.idiv rfl (by omega) ?_
    refine AR.if_ne rfl (by omega) (fun c6 => ?_) (fun c6 => ?_)
    · show AR E d _ (72, [some (vI s), some (vI x)], [], (C, N)) _
      refine AR.blk 3 (f' := (76, [some (vI s), some (vI x)], [vI (s - 6)], (C, N))) (fun _ => rfl) ?_
      exact AR.retI rfl (by unfold m_ahead m_room m_step; omega) ⟨rfl, .inl rfl⟩ rfl
    · show AR E d _ (68, [some (vI s), some (vI x)], [], (C, N)) _
      refine AR.blk 2 (f' := (76, [some (vI s), some (vI x)], [vI (-1)], (C, N))) (fun _ => rfl) ?_
      exact AR.retI rfl (by unfold m_ahead m_room m_step; omega) ⟨rfl, .inl rfl⟩ rfl
  refine AR.tswD rfl hsw1 (by omega) ?_
  show AR E d _ (77, [some (vI s), some (vI x)], [], (C, N)) _
  refine AR.blk 2 (f' := (80, [some (vI s), some (vI x)], [vI 6, vI s], (C, N))) (fun _ => rfl) ?_
  refine AR.irem rfl (by omega) ?_
  refine AR.if_ne rfl (by omega) (fun c7 => ?_) (fun c7 => ?_)
  · show AR E d _ (88, [some (vI s), some (vI x)], [], (C, N)) _
    refine AR.blk 3 (f' := (91, [some (vI s), some (vI x)], [vI (s - 1)], (C, N))) (fun _ => rfl) ?_
    exact AR.retI rfl (by unfold m_ahead m_room m_step; omega) ⟨rfl, .inl rfl⟩ rfl
  · show AR E d _ (84, [some (vI s), some (vI x)], [], (C, N)) _
    refine AR.blk 2 (f' := (91, [some (vI s), some (vI x)], [vI (-1)], (C, N))) (fun _ => rfl) ?_
    exact AR.retI rfl (by unfold m_ahead m_room m_step; omega) ⟨rfl, .inl rfl⟩ rfl

theorem ev_X7_pieceAt {d : Nat} (hd : 1 ≤ d) (hm : g_isM C m) (hr : g_rR (N (m + 1)) P n q p cl tn) (hw : g_wB P n q p cl tn) (s : Int) (h0 : 0 ≤ s ∧ s < 36) : Ev E d 111 [vA m, vI s] (C, N) (some (vI (P s + 1)), (C, N)) := by
  obtain ⟨d, rfl⟩ : ∃ j, d = j + 1 := ⟨d - 1, by omega⟩
  refine Ev.intro (M := ag_mX7_pieceAt) rfl rfl ?_
  show AR E d _ (0, [some (vA m), some (vI s)], [], (C, N)) _
  refine AR.blk 1 (f' := (1, [some (vA m), some (vI s)], [vA m], (C, N))) (fun _ => rfl) ?_
  refine AR.getR rfl rfl hm.1 (by decide) rfl ?_
  refine AR.blk 3 (f' := (8, [some (vA m), some (vI s)], [vI (31 + s), vA (m + 1)], (C, N))) (fun _ => rfl) ?_
  have f1 := hw.1 s
  refine AR.iald rfl hm.2.1 (by omega) (v := P s + 1) (hr.1 _ (by omega) (by omega)) ?_
  exact AR.retI rfl rfl ⟨rfl, .inl rfl⟩ rfl

theorem ev_X7_sideAt {d : Nat} (hd : 2 ≤ d) (hm : g_isM C m) (hr : g_rR (N (m + 1)) P n q p cl tn) (hw : g_wB P n q p cl tn) (s : Int) (h0 : 0 ≤ s ∧ s < 36) : Ev E d 112 [vA m, vI s] (C, N) (some (vI (m_own (P s))), (C, N)) := by
  obtain ⟨d, rfl⟩ : ∃ j, d = j + 1 := ⟨d - 1, by omega⟩
  refine Ev.intro (M := ag_mX7_sideAt) rfl rfl ?_
  show AR E d _ (0, [some (vA m), some (vI s)], [], (C, N)) _
  refine AR.blk 2 (f' := (2, [some (vA m), some (vI s)], [vI s, vA m], (C, N))) (fun _ => rfl) ?_
  refine AR.callV [vI s] (ev_X7_pieceAt (by omega) hm hr hw s (by omega)) hm.1 rfl rfl rfl rfl rfl ?_
  show AR E d _ (5, [some (vA m), some (vI s)], [vI (P s + 1)], (C, N)) _
  have f1 := hw.1 s
  refine AR.if_ne rfl (by omega) (fun c2 => ?_) (fun c2 => ?_)
  · show AR E d _ (12, [some (vA m), some (vI s)], [], (C, N)) _
    refine AR.blk 2 (f' := (14, [some (vA m), some (vI s)], [vI s, vA m], (C, N))) (fun _ => rfl) ?_
    refine AR.callV [vI s] (ev_X7_pieceAt (by omega) hm hr hw s (by omega)) hm.1 rfl rfl rfl rfl rfl ?_
    show AR E d _ (17, [some (vA m), some (vI s)], [vI (P s + 1)], (C, N)) _
    have f3 := hw.1 s
    refine AR.blk 3 (f' := (20, [some (vA m), some (vI s)], [vI 2, vI ((P s + 1) - 1)], (C, N))) (fun _ => rfl) ?_
    refine AR.idiv rfl (by omega) ?_
    exact AR.retI rfl (by unfold m_own; omega) ⟨rfl, .inl rfl⟩ rfl
  · show AR E d _ (8, [some (vA m), some (vI s)], [], (C, N)) _
    refine AR.blk 2 (f' := (21, [some (vA m), some (vI s)], [vI (-1)], (C, N))) (fun _ => rfl) ?_
    exact AR.retI rfl (by unfold m_own; omega) ⟨rfl, .inl rfl⟩ rfl

theorem ev_X7_kindAt {d : Nat} (hd : 2 ≤ d) (hm : g_isM C m) (hr : g_rR (N (m + 1)) P n q p cl tn) (hw : g_wB P n q p cl tn) (s : Int) (h0 : 0 ≤ s ∧ s < 36) (h1 : P s ≠ -1) : Ev E d 113 [vA m, vI s] (C, N) (some (vI (m_tug (P s))), (C, N)) := by
  obtain ⟨d, rfl⟩ : ∃ j, d = j + 1 := ⟨d - 1, by omega⟩
  refine Ev.intro (M := ag_mX7_kindAt) rfl rfl ?_
  show AR E d _ (0, [some (vA m), some (vI s)], [], (C, N)) _
  refine AR.blk 2 (f' := (2, [some (vA m), some (vI s)], [vI s, vA m], (C, N))) (fun _ => rfl) ?_
  refine AR.callV [vI s] (ev_X7_pieceAt (by omega) hm hr hw s (by omega)) hm.1 rfl rfl rfl rfl rfl ?_
  show AR E d _ (5, [some (vA m), some (vI s)], [vI (P s + 1)], (C, N)) _
  have f1 := hw.1 s
  refine AR.blk 3 (f' := (8, [some (vA m), some (vI s)], [vI 2, vI ((P s + 1) - 1)], (C, N))) (fun _ => rfl) ?_
  refine AR.irem rfl (by omega) ?_
  exact AR.retI rfl (by unfold m_tug; omega) ⟨rfl, .inl rfl⟩ rfl

theorem ev_X7_ofLock {d : Nat} (hd : 1 ≤ d) (hm : g_isM C m) (l w : Int) (h0 : 0 ≤ l ∧ l < 4 ∧ 0 ≤ w ∧ w < 4) (v : Int) (hv : N (m + 1) (15 + 4 * l + w) = v) : Ev E d 114 [vA m, vI l, vI w] (C, N) (some (vI v), (C, N)) := by
  obtain ⟨d, rfl⟩ : ∃ j, d = j + 1 := ⟨d - 1, by omega⟩
  refine Ev.intro (M := ag_mX7_ofLock) rfl rfl ?_
  show AR E d _ (0, [some (vA m), some (vI l), some (vI w)], [], (C, N)) _
  refine AR.blk 1 (f' := (1, [some (vA m), some (vI l), some (vI w)], [vA m], (C, N))) (fun _ => rfl) ?_
  refine AR.getR rfl rfl hm.1 (by decide) rfl ?_
  refine AR.blk 7 (f' := (12, [some (vA m), some (vI l), some (vI w)], [vI ((15 + (4 * l)) + w), vA (m + 1)], (C, N))) (fun _ => rfl) ?_
  refine AR.iald rfl hm.2.1 (by omega) (v := N (m + 1) ((15 + (4 * l)) + w)) rfl ?_
  exact AR.retI rfl hv ⟨rfl, .inl rfl⟩ rfl

theorem ev_X7_lockAt {d : Nat} (hd : 2 ≤ d) (hm : g_isM C m) (hr : g_rR (N (m + 1)) P n q p cl tn) (hw : g_wB P n q p cl tn) (s : Int) (h0 : ag_in s) : Ev E d 115 [vA m, vI s] (C, N) (some (vI (m_la n q s)), (C, N)) := by
  obtain ⟨d, rfl⟩ : ∃ j, d = j + 1 := ⟨d - 1, by omega⟩
  refine Ev.intro (M := ag_mX7_lockAt) rfl rfl ?_
  show AR E d _ (0, [some (vA m), some (vI s), none], [], (C, N)) _
  refine AR.blk 4 (f' := (4, [some (vA m), some (vI s), some (vI 0)], [vA m, vI 0], (C, N))) (fun _ => rfl) ?_
  refine AR.getR rfl rfl hm.1 (by decide) rfl ?_
  refine AR.blk 1 (f' := (9, [some (vA m), some (vI s), some (vI 0)], [vI 14, vA (m + 1), vI 0], (C, N))) (fun _ => rfl) ?_
  have f1 := hw.2.2.1
  refine AR.iald rfl hm.2.1 (by omega) (v := n) hr.2.1 ?_
  refine AR.ic_ge rfl (by omega) (fun c2 => ?_) (fun c2 => ?_)
  · show AR E d _ (31, [some (vA m), some (vI s), some (vI 0)], [], (C, N)) _
    refine AR.blk 1 (f' := (32, [some (vA m), some (vI s), some (vI 0)], [vI (-1)], (C, N))) (fun _ => rfl) ?_
    exact AR.retI rfl (by unfold m_la; omega) ⟨rfl, .inl rfl⟩ rfl
  · show AR E d _ (13, [some (vA m), some (vI s), some (vI 0)], [], (C, N)) _
    refine AR.blk 3 (f' := (16, [some (vA m), some (vI s), some (vI 0)], [vI 0, vI 0, vA m], (C, N))) (fun _ => rfl) ?_
    refine AR.callV [vI 0, vI 0] (ev_X7_ofLock (by omega) hm 0 0 (by omega) (q 0) (hr.2.2.1 _ (by omega) (by omega)).1) hm.1 rfl rfl rfl rfl rfl ?_
    show AR E d _ (19, [some (vA m), some (vI s), some (vI 0)], [vI (q 0)], (C, N)) _
    have f3 := hw.2.2.2.1 0 (by omega) (by omega)
    refine AR.blk 1 (f' := (20, [some (vA m), some (vI s), some (vI 0)], [vI s, vI (q 0)], (C, N))) (fun _ => rfl) ?_
    refine AR.ic_ne rfl (by omega) (fun c4 => ?_) (fun c4 => ?_)
    · show AR E d _ (25, [some (vA m), some (vI s), some (vI 0)], [], (C, N)) _
      refine AR.blk 4 (f' := (4, [some (vA m), some (vI s), some (vI 1)], [vA m, vI 1], (C, N))) (fun _ => rfl) ?_
      refine AR.getR rfl rfl hm.1 (by decide) rfl ?_
      refine AR.blk 1 (f' := (9, [some (vA m), some (vI s), some (vI 1)], [vI 14, vA (m + 1), vI 1], (C, N))) (fun _ => rfl) ?_
      have f5 := hw.2.2.1
      refine AR.iald rfl hm.2.1 (by omega) (v := n) hr.2.1 ?_
      refine AR.ic_ge rfl (by omega) (fun c6 => ?_) (fun c6 => ?_)
      · show AR E d _ (31, [some (vA m), some (vI s), some (vI 1)], [], (C, N)) _
        refine AR.blk 1 (f' := (32, [some (vA m), some (vI s), some (vI 1)], [vI (-1)], (C, N))) (fun _ => rfl) ?_
        exact AR.retI rfl (by unfold m_la; omega) ⟨rfl, .inl rfl⟩ rfl
      · show AR E d _ (13, [some (vA m), some (vI s), some (vI 1)], [], (C, N)) _
        refine AR.blk 3 (f' := (16, [some (vA m), some (vI s), some (vI 1)], [vI 0, vI 1, vA m], (C, N))) (fun _ => rfl) ?_
        refine AR.callV [vI 1, vI 0] (ev_X7_ofLock (by omega) hm 1 0 (by omega) (q 1) (hr.2.2.1 _ (by omega) (by omega)).1) hm.1 rfl rfl rfl rfl rfl ?_
        show AR E d _ (19, [some (vA m), some (vI s), some (vI 1)], [vI (q 1)], (C, N)) _
        have f7 := hw.2.2.2.1 1 (by omega) (by omega)
        refine AR.blk 1 (f' := (20, [some (vA m), some (vI s), some (vI 1)], [vI s, vI (q 1)], (C, N))) (fun _ => rfl) ?_
        refine AR.ic_ne rfl (by omega) (fun c8 => ?_) (fun c8 => ?_)
        · show AR E d _ (25, [some (vA m), some (vI s), some (vI 1)], [], (C, N)) _
          refine AR.blk 4 (f' := (4, [some (vA m), some (vI s), some (vI 2)], [vA m, vI 2], (C, N))) (fun _ => rfl) ?_
          refine AR.getR rfl rfl hm.1 (by decide) rfl ?_
          refine AR.blk 1 (f' := (9, [some (vA m), some (vI s), some (vI 2)], [vI 14, vA (m + 1), vI 2], (C, N))) (fun _ => rfl) ?_
          have f9 := hw.2.2.1
          refine AR.iald rfl hm.2.1 (by omega) (v := n) hr.2.1 ?_
          refine AR.ic_ge rfl (by omega) (fun c10 => ?_) (fun c10 => ?_)
          · show AR E d _ (31, [some (vA m), some (vI s), some (vI 2)], [], (C, N)) _
            refine AR.blk 1 (f' := (32, [some (vA m), some (vI s), some (vI 2)], [vI (-1)], (C, N))) (fun _ => rfl) ?_
            exact AR.retI rfl (by unfold m_la; omega) ⟨rfl, .inl rfl⟩ rfl
          · show AR E d _ (13, [some (vA m), some (vI s), some (vI 2)], [], (C, N)) _
            refine AR.blk 3 (f' := (16, [some (vA m), some (vI s), some (vI 2)], [vI 0, vI 2, vA m], (C, N))) (fun _ => rfl) ?_
            refine AR.callV [vI 2, vI 0] (ev_X7_ofLock (by omega) hm 2 0 (by omega) (q 2) (hr.2.2.1 _ (by omega) (by omega)).1) hm.1 rfl rfl rfl rfl rfl ?_
            show AR E d _ (19, [some (vA m), some (vI s), some (vI 2)], [vI (q 2)], (C, N)) _
            have f11 := hw.2.2.2.1 2 (by omega) (by omega)
            refine AR.blk 1 (f' := (20, [some (vA m), some (vI s), some (vI 2)], [vI s, vI (q 2)], (C, N))) (fun _ => rfl) ?_
            refine AR.ic_ne rfl (by omega) (fun c12 => ?_) (fun c12 => ?_)
            · show AR E d _ (25, [some (vA m), some (vI s), some (vI 2)], [], (C, N)) _
              refine AR.blk 4 (f' := (4, [some (vA m), some (vI s), some (vI 3)], [vA m, vI 3], (C, N))) (fun _ => rfl) ?_
              refine AR.getR rfl rfl hm.1 (by decide) rfl ?_
              refine AR.blk 1 (f' := (9, [some (vA m), some (vI s), some (vI 3)], [vI 14, vA (m + 1), vI 3], (C, N))) (fun _ => rfl) ?_
              have f13 := hw.2.2.1
              refine AR.iald rfl hm.2.1 (by omega) (v := n) hr.2.1 ?_
              refine AR.ic_ge rfl (by omega) (fun c14 => ?_) (fun c14 => ?_)
              · show AR E d _ (31, [some (vA m), some (vI s), some (vI 3)], [], (C, N)) _
                refine AR.blk 1 (f' := (32, [some (vA m), some (vI s), some (vI 3)], [vI (-1)], (C, N))) (fun _ => rfl) ?_
                exact AR.retI rfl (by unfold m_la; omega) ⟨rfl, .inl rfl⟩ rfl
              · show AR E d _ (13, [some (vA m), some (vI s), some (vI 3)], [], (C, N)) _
                refine AR.blk 3 (f' := (16, [some (vA m), some (vI s), some (vI 3)], [vI 0, vI 3, vA m], (C, N))) (fun _ => rfl) ?_
                refine AR.callV [vI 3, vI 0] (ev_X7_ofLock (by omega) hm 3 0 (by omega) (q 3) (hr.2.2.1 _ (by omega) (by omega)).1) hm.1 rfl rfl rfl rfl rfl ?_
                show AR E d _ (19, [some (vA m), some (vI s), some (vI 3)], [vI (q 3)], (C, N)) _
                have f15 := hw.2.2.2.1 3 (by omega) (by omega)
                refine AR.blk 1 (f' := (20, [some (vA m), some (vI s), some (vI 3)], [vI s, vI (q 3)], (C, N))) (fun _ => rfl) ?_
                refine AR.ic_ne rfl (by omega) (fun c16 => ?_) (fun c16 => ?_)
                · show AR E d _ (25, [some (vA m), some (vI s), some (vI 3)], [], (C, N)) _
                  refine AR.blk 4 (f' := (4, [some (vA m), some (vI s), some (vI 4)], [vA m, vI 4], (C, N))) (fun _ => rfl) ?_
                  refine AR.getR rfl rfl hm.1 (by decide) rfl ?_
                  refine AR.blk 1 (f' := (9, [some (vA m), some (vI s), some (vI 4)], [vI 14, vA (m + 1), vI 4], (C, N))) (fun _ => rfl) ?_
                  have f17 := hw.2.2.1
                  refine AR.iald rfl hm.2.1 (by omega) (v := n) hr.2.1 ?_
                  refine AR.ic_ge rfl (by omega) (fun c18 => ?_) (fun c18 => ?_)
                  · show AR E d _ (31, [some (vA m), some (vI s), some (vI 4)], [], (C, N)) _
                    refine AR.blk 1 (f' := (32, [some (vA m), some (vI s), some (vI 4)], [vI (-1)], (C, N))) (fun _ => rfl) ?_
                    exact AR.retI rfl (by unfold m_la; omega) ⟨rfl, .inl rfl⟩ rfl
                  · show AR E d _ (13, [some (vA m), some (vI s), some (vI 4)], [], (C, N)) _
                    exact False.elim (by omega)
                · show AR E d _ (23, [some (vA m), some (vI s), some (vI 3)], [], (C, N)) _
                  refine AR.blk 1 (f' := (24, [some (vA m), some (vI s), some (vI 3)], [vI 3], (C, N))) (fun _ => rfl) ?_
                  exact AR.retI rfl (by unfold m_la; omega) ⟨rfl, .inl rfl⟩ rfl
            · show AR E d _ (23, [some (vA m), some (vI s), some (vI 2)], [], (C, N)) _
              refine AR.blk 1 (f' := (24, [some (vA m), some (vI s), some (vI 2)], [vI 2], (C, N))) (fun _ => rfl) ?_
              exact AR.retI rfl (by unfold m_la; omega) ⟨rfl, .inl rfl⟩ rfl
        · show AR E d _ (23, [some (vA m), some (vI s), some (vI 1)], [], (C, N)) _
          refine AR.blk 1 (f' := (24, [some (vA m), some (vI s), some (vI 1)], [vI 1], (C, N))) (fun _ => rfl) ?_
          exact AR.retI rfl (by unfold m_la; omega) ⟨rfl, .inl rfl⟩ rfl
    · show AR E d _ (23, [some (vA m), some (vI s), some (vI 0)], [], (C, N)) _
      refine AR.blk 1 (f' := (24, [some (vA m), some (vI s), some (vI 0)], [vI 0], (C, N))) (fun _ => rfl) ?_
      exact AR.retI rfl (by unfold m_la; omega) ⟨rfl, .inl rfl⟩ rfl

theorem ev_X7_isClosed {d : Nat} (hd : 3 ≤ d) (hm : g_isM C m) (hr : g_rR (N (m + 1)) P n q p cl tn) (hw : g_wB P n q p cl tn) (s : Int) (h0 : ag_in s) : Ev E d 116 [vA m, vI s] (C, N) (some (vI (m_cl n q cl s)), (C, N)) := by
  obtain ⟨d, rfl⟩ : ∃ j, d = j + 1 := ⟨d - 1, by omega⟩
  have f00 := hw.2.2.1
  refine Ev.intro (M := ag_mX7_isClosed) rfl rfl ?_
  show AR E d _ (0, [some (vA m), some (vI s)], [], (C, N)) _
  refine AR.blk 2 (f' := (2, [some (vA m), some (vI s)], [vI s, vA m], (C, N))) (fun _ => rfl) ?_
  refine AR.callV [vI s] (ev_X7_lockAt (by omega) hm hr hw s (by omega)) hm.1 rfl rfl rfl rfl rfl ?_
  show AR E d _ (5, [some (vA m), some (vI s)], [vI (m_la n q s)], (C, N)) _
  have f1 := m_la_in n q s hw.2.2.1.1
  refine AR.if_lt rfl (by omega) (fun c2 => ?_) (fun c2 => ?_)
  · show AR E d _ (26, [some (vA m), some (vI s)], [], (C, N)) _
    refine AR.blk 1 (f' := (27, [some (vA m), some (vI s)], [vI 0], (C, N))) (fun _ => rfl) ?_
    exact AR.retI rfl (by unfold m_cl; first | (rw [if_pos (by omega)]; omega) | (rw [if_neg (by omega)])) (by decide) rfl
  · show AR E d _ (8, [some (vA m), some (vI s)], [], (C, N)) _
    refine AR.blk 3 (f' := (11, [some (vA m), some (vI s)], [vI s, vA m, vA m], (C, N))) (fun _ => rfl) ?_
    refine AR.callV [vI s] (ev_X7_lockAt (by omega) hm hr hw s (by omega)) hm.1 rfl rfl rfl rfl rfl ?_
    show AR E d _ (14, [some (vA m), some (vI s)], [vI (m_la n q s), vA m], (C, N)) _
    have f3 := m_la_in n q s hw.2.2.1.1
    refine AR.blk 1 (f' := (15, [some (vA m), some (vI s)], [vI 2, vI (m_la n q s), vA m], (C, N))) (fun _ => rfl) ?_
    refine AR.callV [vI (m_la n q s), vI 2] (ev_X7_ofLock (by omega) hm (m_la n q s) 2 (by omega) (cl (m_la n q s)) (hr.2.2.2 _ (by omega) (by omega)).1) hm.1 rfl rfl rfl rfl rfl ?_
    show AR E d _ (18, [some (vA m), some (vI s)], [vI (cl (m_la n q s))], (C, N)) _
    have f4 := hw.2.2.2.2.1 (m_la n q s)
    refine AR.blk 1 (f' := (19, [some (vA m), some (vI s)], [vI 1, vI (cl (m_la n q s))], (C, N))) (fun _ => rfl) ?_
    refine AR.ic_ne rfl (by omega) (fun c5 => ?_) (fun c5 => ?_)
    · show AR E d _ (26, [some (vA m), some (vI s)], [], (C, N)) _
      refine AR.blk 1 (f' := (27, [some (vA m), some (vI s)], [vI 0], (C, N))) (fun _ => rfl) ?_
      exact AR.retI rfl (by unfold m_cl; first | (rw [if_pos (by omega)]; omega) | (rw [if_neg (by omega)])) (by decide) rfl
    · show AR E d _ (22, [some (vA m), some (vI s)], [], (C, N)) _
      refine AR.blk 2 (f' := (27, [some (vA m), some (vI s)], [vI 1], (C, N))) (fun _ => rfl) ?_
      exact AR.retI rfl (by unfold m_cl; first | (rw [if_pos (by omega)]; omega) | (rw [if_neg (by omega)])) (by decide) rfl

theorem ev_X7_countOf {d : Nat} (hd : 2 ≤ d) (hm : g_isM C m) (hr : g_rR (N (m + 1)) P n q p cl tn) (hw : g_wB P n q p cl tn) (w k : Int) (h0 : 0 ≤ w ∧ w < 2) (h1 : 0 ≤ k ∧ k < 2) : Ev E d 117 [vA m, vI w, vI k] (C, N) (some (vI (m_ck P w k)), (C, N)) := by
  obtain ⟨d, rfl⟩ : ∃ j, d = j + 1 := ⟨d - 1, by omega⟩
  refine Ev.intro (M := ag_mX7_countOf) rfl rfl ?_
  show AR E d _ (0, [some (vA m), some (vI w), some (vI k), none, none], [], (C, N)) _
  refine AR.blk 4 (f' := (5, [some (vA m), some (vI w), some (vI k), some (vI 0), some (vI 0)], [], (C, N))) (fun _ => rfl) ?_
  suffices H5 : ∀ (j : Nat) (c : Int) (i : Int), (36 - i).toNat < j → (0 ≤ i ∧ i ≤ 36 ∧ 0 ≤ c ∧ c ≤ i) → (c = m_sum (fun s => if P s + 1 = 2 * w + k + 1 then 1 else 0) i.toNat) → AR E d ag_mX7_countOf (5, [some (vA m), some (vI w), some (vI k), some (vI c), some (vI i)], [], (C, N)) (fun o_ => o_ = (some (vI (m_ck P w k)), (C, N))) by
    exact H5 _ _ _ (Nat.lt_succ_self _) (by omega) rfl
  intro j
  induction j with
  | zero => intro c i hj; exact absurd hj (Nat.not_lt_zero _)
  | succ j ih5 =>
    intro c i hj5 i0 i1
    refine AR.blk 2 (f' := (9, [some (vA m), some (vI w), some (vI k), some (vI c), some (vI i)], [vI 36, vI i], (C, N))) (fun _ => rfl) ?_
    refine AR.ic_ge rfl (by omega) (fun c1 => ?_) (fun c1 => ?_)
    · show AR E d _ (42, [some (vA m), some (vI w), some (vI k), some (vI c), some (vI i)], [], (C, N)) _
      refine AR.blk 1 (f' := (43, [some (vA m), some (vI w), some (vI k), some (vI c), some (vI i)], [vI c], (C, N))) (fun _ => rfl) ?_
      exact AR.retI rfl (by rw [i1, show i = 36 by omega]; rfl) ⟨rfl, .inl rfl⟩ rfl
    · show AR E d _ (12, [some (vA m), some (vI w), some (vI k), some (vI c), some (vI i)], [], (C, N)) _
      refine AR.blk 3 (f' := (16, [some (vA m), some (vI w), some (vI k), some (vI c), some (vI i)], [vI i, vA m, vI c], (C, N))) (fun _ => rfl) ?_
      refine AR.callV [vI i] (ev_X7_pieceAt (by omega) hm hr hw i (by omega)) hm.1 rfl rfl rfl rfl rfl ?_
      show AR E d _ (19, [some (vA m), some (vI w), some (vI k), some (vI c), some (vI i)], [vI (P i + 1), vI c], (C, N)) _
      have f2 := hw.1 i
      refine AR.blk 7 (f' := (26, [some (vA m), some (vI w), some (vI k), some (vI c), some (vI i)], [vI (((2 * w) + k) + 1), vI (P i + 1), vI c], (C, N))) (fun _ => rfl) ?_
      refine AR.ic_ne rfl (by omega) (fun c3 => ?_) (fun c3 => ?_)
      · show AR E d _ (33, [some (vA m), some (vI w), some (vI k), some (vI c), some (vI i)], [vI c], (C, N)) _
        refine AR.blk 5 (f' := (5, [some (vA m), some (vI w), some (vI k), some (vI (c + 0)), some (vI (i + 1))], [], (C, N))) (fun _ => rfl) ?_
        exact ih5 _ _ (by omega) (by omega) (by rw [m_sum_succ _ (by omega), ← i1]; omega)
      · show AR E d _ (29, [some (vA m), some (vI w), some (vI k), some (vI c), some (vI i)], [vI c], (C, N)) _
        refine AR.blk 6 (f' := (5, [some (vA m), some (vI w), some (vI k), some (vI (c + 1)), some (vI (i + 1))], [], (C, N))) (fun _ => rfl) ?_
        exact ih5 _ _ (by omega) (by omega) (by rw [m_sum_succ _ (by omega), ← i1]; omega)

theorem ev_X7_pieces {d : Nat} (hd : 3 ≤ d) (hm : g_isM C m) (hr : g_rR (N (m + 1)) P n q p cl tn) (hw : g_wB P n q p cl tn) (w : Int) (h0 : 0 ≤ w ∧ w < 2) : Ev E d 118 [vA m, vI w] (C, N) (some (vI (m_cnt P w)), (C, N)) := by
  obtain ⟨d, rfl⟩ : ∃ j, d = j + 1 := ⟨d - 1, by omega⟩
  refine Ev.intro (M := ag_mX7_pieces) rfl rfl ?_
  show AR E d _ (0, [some (vA m), some (vI w)], [], (C, N)) _
  refine AR.blk 3 (f' := (3, [some (vA m), some (vI w)], [vI 0, vI w, vA m], (C, N))) (fun _ => rfl) ?_
  refine AR.callV [vI w, vI 0] (ev_X7_countOf (by omega) hm hr hw w 0 (by omega) (by omega)) hm.1 rfl rfl rfl rfl rfl ?_
  show AR E d _ (6, [some (vA m), some (vI w)], [vI (m_ck P w 0)], (C, N)) _
  have f1 := m_ck_in P w 0
  refine AR.blk 3 (f' := (9, [some (vA m), some (vI w)], [vI 1, vI w, vA m, vI (m_ck P w 0)], (C, N))) (fun _ => rfl) ?_
  refine AR.callV [vI w, vI 1] (ev_X7_countOf (by omega) hm hr hw w 1 (by omega) (by omega)) hm.1 rfl rfl rfl rfl rfl ?_
  show AR E d _ (12, [some (vA m), some (vI w)], [vI (m_ck P w 1), vI (m_ck P w 0)], (C, N)) _
  have f2 := m_ck_in P w 1
  refine AR.blk 1 (f' := (13, [some (vA m), some (vI w)], [vI ((m_ck P w 0) + (m_ck P w 1))], (C, N))) (fun _ => rfl) ?_
  exact AR.retI rfl (m_ck_sum P w hw.1 h0) ⟨rfl, .inl rfl⟩ rfl

-- lineFrom

theorem ev_X7_lineFrom {d : Nat} (hd : 2 ≤ d) (hm : g_isM C m) (hr : g_rR (N (m + 1)) P n q p cl tn) (hw : g_wB P n q p cl tn) (s x : Int) (h0 : 0 ≤ s ∧ s < 36) (h1 : 0 ≤ x ∧ x < 4) : Ev E d 124 [vA m, vI s, vI x] (C, N) (some (vI (m_std P s x)), (C, N)) := by
  obtain ⟨d, rfl⟩ : ∃ j, d = j + 1 := ⟨d - 1, by omega⟩
  refine Ev.intro (M := ag_mX7_lineFrom) rfl rfl ?_
  show AR E d _ (0, [some (vA m), some (vI s), some (vI x), none, none], [], (C, N)) _
  refine AR.blk 4 (f' := (4, [some (vA m), some (vI s), some (vI x), some (vI 0), none], [vI x, vI s], (C, N))) (fun _ => rfl) ?_
  refine AR.callS [vI s, vI x] (ev_X7_beside (by omega) s x (by omega) (by omega)) rfl rfl rfl rfl rfl ?_
  show AR E d _ (7, [some (vA m), some (vI s), some (vI x), some (vI 0), none], [vI (m_ahead s x 1)], (C, N)) _
  have f1 := m_ah s x 1 (by omega) (by omega) (by omega)
  have f2 := m_room_in s x (by omega)
  refine AR.blk 1 (f' := (9, [some (vA m), some (vI s), some (vI x), some (vI 0), some (vI (m_ahead s x 1))], [], (C, N))) (fun _ => rfl) ?_
  suffices H9 : ∀ (j : Nat) (c : Int) (a : Int), (m_room s x - c).toNat < j → (0 ≤ c ∧ c ≤ m_room s x) → (m_fr P s (m_step x) (m_room s x - c).toNat c = m_std P s x) → (a = m_ahead s x (c + 1)) → AR E d ag_mX7_lineFrom (9, [some (vA m), some (vI s), some (vI x), some (vI c), some (vI a)], [], (C, N)) (fun o_ => o_ = (some (vI (m_std P s x)), (C, N))) by
    exact H9 _ _ _ (Nat.lt_succ_self _) (by have := m_room_in s x (by omega); omega) (by rw [Int.sub_zero]; rfl) rfl
  intro j
  induction j with
  | zero => intro c a hj; exact absurd hj (Nat.not_lt_zero _)
  | succ j ih9 =>
    intro c a hj9 i0 i1 i2
    have z0 := m_ah s x (c + 1) (by omega) (by omega) (by omega)
    have z1 := m_frS P s x c (by omega) (by omega) (by omega) _ i1
    refine AR.blk 1 (f' := (11, [some (vA m), some (vI s), some (vI x), some (vI c), some (vI a)], [vI a], (C, N))) (fun _ => rfl) ?_
    refine AR.if_lt rfl (by omega) (fun c3 => ?_) (fun c3 => ?_)
    · show AR E d _ (37, [some (vA m), some (vI s), some (vI x), some (vI c), some (vI a)], [], (C, N)) _
      refine AR.blk 1 (f' := (38, [some (vA m), some (vI s), some (vI x), some (vI c), some (vI a)], [vI c], (C, N))) (fun _ => rfl) ?_
      exact AR.retI rfl (by first | exact z1.1 (by omega) | exact z1.2.1 (by omega) (by rw [← i2]; omega)) ⟨rfl, .inl rfl⟩ rfl
    · show AR E d _ (14, [some (vA m), some (vI s), some (vI x), some (vI c), some (vI a)], [], (C, N)) _
      refine AR.blk 2 (f' := (17, [some (vA m), some (vI s), some (vI x), some (vI c), some (vI a)], [vI a, vA m], (C, N))) (fun _ => rfl) ?_
      refine AR.callV [vI a] (ev_X7_pieceAt (by omega) hm hr hw a (by omega)) hm.1 rfl rfl rfl rfl rfl ?_
      show AR E d _ (20, [some (vA m), some (vI s), some (vI x), some (vI c), some (vI a)], [vI (P a + 1)], (C, N)) _
      have f4 := hw.1 a
      refine AR.if_le rfl (by omega) (fun c5 => ?_) (fun c5 => ?_)
      · show AR E d _ (37, [some (vA m), some (vI s), some (vI x), some (vI c), some (vI a)], [], (C, N)) _
        refine AR.blk 1 (f' := (38, [some (vA m), some (vI s), some (vI x), some (vI c), some (vI a)], [vI c], (C, N))) (fun _ => rfl) ?_
        exact AR.retI rfl (by first | exact z1.1 (by omega) | exact z1.2.1 (by omega) (by rw [← i2]; omega)) ⟨rfl, .inl rfl⟩ rfl
      · show AR E d _ (23, [some (vA m), some (vI s), some (vI x), some (vI c), some (vI a)], [], (C, N)) _
        refine AR.blk 3 (f' := (29, [some (vA m), some (vI s), some (vI x), some (vI (c + 1)), some (vI a)], [vI x, vI a], (C, N))) (fun _ => rfl) ?_
        refine AR.callS [vI a, vI x] (ev_X7_beside (by omega) a x (by omega) (by omega)) rfl rfl rfl rfl rfl ?_
        show AR E d _ (32, [some (vA m), some (vI s), some (vI x), some (vI (c + 1)), some (vI a)], [vI (m_ahead a x 1)], (C, N)) _
        have f6 := m_ah a x 1 (by omega) (by omega) (by omega)
        have f7 := m_room_in a x (by omega)
        refine AR.blk 2 (f' := (9, [some (vA m), some (vI s), some (vI x), some (vI (c + 1)), some (vI (m_ahead a x 1))], [], (C, N))) (fun _ => rfl) ?_
        have z3 := z1.2.2 (by omega) (by rw [← i2]; omega)
        exact ih9 _ _ (by omega) (by omega) z3.2 (by rw [i2] at *; exact m_ahS s x (c + 1) (by omega) (by omega) (by omega) (by omega))

theorem ev_X7_goes {d : Nat} (hd : 3 ≤ d) (hm : g_isM C m) (hr : g_rR (N (m + 1)) P n q p cl tn) (hw : g_wB P n q p cl tn) (s x : Int) (h0 : 0 ≤ s ∧ s < 36) (h1 : 0 ≤ x ∧ x < 4) (h2 : P s ≠ -1) : Ev E d 126 [vA m, vI s, vI x] (C, N) (some (vI (m_goes (P s) x)), (C, N)) := by
  obtain ⟨d, rfl⟩ : ∃ j, d = j + 1 := ⟨d - 1, by omega⟩
  refine Ev.intro (M := ag_mX7_goes) rfl rfl ?_
  show AR E d _ (0, [some (vA m), some (vI s), some (vI x)], [], (C, N)) _
  refine AR.blk 2 (f' := (2, [some (vA m), some (vI s), some (vI x)], [vI s, vA m], (C, N))) (fun _ => rfl) ?_
  refine AR.callV [vI s] (ev_X7_kindAt (by omega) hm hr hw s (by omega) (by omega)) hm.1 rfl rfl rfl rfl rfl ?_
  show AR E d _ (5, [some (vA m), some (vI s), some (vI x)], [vI (m_tug (P s))], (C, N)) _
  have f1 := m_tug_in (P s)
  refine AR.blk 1 (f' := (6, [some (vA m), some (vI s), some (vI x)], [vI 1, vI (m_tug (P s))], (C, N))) (fun _ => rfl) ?_
  refine AR.ic_eq rfl (by omega) (fun c2 => ?_) (fun c2 => ?_)
  · show AR E d _ (26, [some (vA m), some (vI s), some (vI x)], [], (C, N)) _
    refine AR.blk 2 (f' := (31, [some (vA m), some (vI s), some (vI x)], [vI 1], (C, N))) (fun _ => rfl) ?_
    exact AR.retI rfl (by unfold m_goes; omega) (by decide) rfl
  · show AR E d _ (9, [some (vA m), some (vI s), some (vI x)], [], (C, N)) _
    refine AR.blk 3 (f' := (12, [some (vA m), some (vI s), some (vI x)], [vI s, vA m, vI x], (C, N))) (fun _ => rfl) ?_
    refine AR.callV [vI s] (ev_X7_sideAt (by omega) hm hr hw s (by omega)) hm.1 rfl rfl rfl rfl rfl ?_
    show AR E d _ (15, [some (vA m), some (vI s), some (vI x)], [vI (m_own (P s)), vI x], (C, N)) _
    have f3 := m_own_in (P s) (hw.1 s)
    have f4 := hw.1 s
    refine AR.if_ne rfl (by omega) (fun c5 => ?_) (fun c5 => ?_)
    · show AR E d _ (22, [some (vA m), some (vI s), some (vI x)], [vI x], (C, N)) _
      refine AR.blk 1 (f' := (23, [some (vA m), some (vI s), some (vI x)], [vI 0, vI x], (C, N))) (fun _ => rfl) ?_
      refine AR.ic_eq rfl (by omega) (fun c6 => ?_) (fun c6 => ?_)
      · show AR E d _ (30, [some (vA m), some (vI s), some (vI x)], [], (C, N)) _
        refine AR.blk 1 (f' := (31, [some (vA m), some (vI s), some (vI x)], [vI 0], (C, N))) (fun _ => rfl) ?_
        exact AR.retI rfl (by unfold m_goes; omega) (by decide) rfl
      · show AR E d _ (26, [some (vA m), some (vI s), some (vI x)], [], (C, N)) _
        refine AR.blk 2 (f' := (31, [some (vA m), some (vI s), some (vI x)], [vI 1], (C, N))) (fun _ => rfl) ?_
        exact AR.retI rfl (by unfold m_goes; omega) (by decide) rfl
    · show AR E d _ (18, [some (vA m), some (vI s), some (vI x)], [vI x], (C, N)) _
      refine AR.blk 2 (f' := (23, [some (vA m), some (vI s), some (vI x)], [vI 2, vI x], (C, N))) (fun _ => rfl) ?_
      refine AR.ic_eq rfl (by omega) (fun c7 => ?_) (fun c7 => ?_)
      · show AR E d _ (30, [some (vA m), some (vI s), some (vI x)], [], (C, N)) _
        refine AR.blk 1 (f' := (31, [some (vA m), some (vI s), some (vI x)], [vI 0], (C, N))) (fun _ => rfl) ?_
        exact AR.retI rfl (by unfold m_goes; omega) (by decide) rfl
      · show AR E d _ (26, [some (vA m), some (vI s), some (vI x)], [], (C, N)) _
        refine AR.blk 2 (f' := (31, [some (vA m), some (vI s), some (vI x)], [vI 1], (C, N))) (fun _ => rfl) ?_
        exact AR.retI rfl (by unfold m_goes; omega) (by decide) rfl
end L2c
