/-! LEVEL 2: the class: lanes -/
theorem m_lane_end (l x k : Int) (hl : 0 ≤ l ∧ l < 6) (hx : 0 ≤ x ∧ x < 4) (hk : 0 ≤ k ∧ k < 6) : (0 ≤ m_end l x k ∧ m_end l x k < 36) ∧ m_room (m_end l x k) x = k ∧ ∀ j, 0 ≤ j → j ≤ k → m_ahead (m_end l x k) x j = m_end l x (k - j) := by
  have e : x = 0 ∨ x = 1 ∨ x = 2 ∨ x = 3 := by omega
  refine ⟨m_end_in l x k hl hk, ?_, fun j h0 h1 => ?_⟩
  · unfold m_room m_end
    rcases e with rfl | rfl | rfl | rfl <;> simp <;> omega
  · unfold m_ahead m_room m_end m_step
    rcases e with rfl | rfl | rfl | rfl <;> simp <;> omega
/-- what is ahead of the k-th square of a lane: how many pieces in a line, and whether a closed lock is behind them -/
def m_lr (P : Int → Int) (n : Int) (q cl : Int → Int) (l x k run sh : Int) : Prop := m_std P (m_end l x k) x = run ∧ m_cl n q cl (m_ahead (m_end l x k) x (run + 1)) = sh
theorem m_lr0 {P : Int → Int} {n : Int} {q p cl tn : Int → Int} (hw : g_wB P n q p cl tn) (l x : Int) (hl : 0 ≤ l ∧ l < 6) (hx : 0 ≤ x ∧ x < 4) : m_lr P n q cl l x 0 0 0 := by
  have h := m_lane_end l x 0 hl hx (by omega)
  have h1 := m_std_in P (m_end l x 0) x h.1
  refine ⟨by omega, ?_⟩
  have h2 := m_ah (m_end l x 0) x (0 + 1) h.1 hx (by omega)
  rw [show m_ahead (m_end l x 0) x (0 + 1) = -1 by omega]
  exact m_cl_off hw
theorem m_lrS {P : Int → Int} {n : Int} {q cl : Int → Int} {l x k run sh : Int} (hl : 0 ≤ l ∧ l < 6) (hx : 0 ≤ x ∧ x < 4) (hk : 0 ≤ k ∧ k < 5) (h : m_lr P n q cl l x k run sh) : (P (m_end l x k) = -1 → m_lr P n q cl l x (k + 1) 0 (m_cl n q cl (m_end l x k))) ∧ (P (m_end l x k) ≠ -1 → m_lr P n q cl l x (k + 1) (run + 1) sh) := by
  have h0 := m_lane_end l x k hl hx (by omega)
  have h1 := m_lane_end l x (k + 1) hl hx (by omega)
  have a1 : m_ahead (m_end l x (k + 1)) x 1 = m_end l x k := by rw [h1.2.2 1 (by omega) (by omega), show k + 1 - 1 = k by omega]
  have h2 := m_std_S P (m_end l x (k + 1)) x h1.1 hx
  rw [a1] at h2
  have h3 := m_std_in P (m_end l x k) x h0.1
  have h4 := m_std_in P (m_end l x (k + 1)) x h1.1
  refine ⟨fun e => ⟨?_, ?_⟩, fun e => ⟨?_, ?_⟩⟩
  · by_cases z : m_std P (m_end l x (k + 1)) x = 0
    · exact z
    · exact absurd e (h2.2 z).2.1
  · rw [show (0 : Int) + 1 = 1 by rfl, a1]
  · by_cases z : m_std P (m_end l x (k + 1)) x = 0
    · have := h2.1 z
      omega
    · have := (h2.2 z).2.2
      have := h.1
      omega
  · have e1 := h.2
    have e2 := h.1
    by_cases z : run + 1 ≤ k
    · rw [h1.2.2 (run + 1 + 1) (by omega) (by omega)]
      rw [h0.2.2 (run + 1) (by omega) (by omega)] at e1
      rw [show k + 1 - (run + 1 + 1) = k - (run + 1) by omega]
      exact e1
    · have b1 := m_ah (m_end l x k) x (run + 1) h0.1 hx (by omega)
      have b2 := m_ah (m_end l x (k + 1)) x (run + 1 + 1) h1.1 hx (by omega)
      rw [show m_ahead (m_end l x (k + 1)) x (run + 1 + 1) = m_ahead (m_end l x k) x (run + 1) by omega]
      exact e1
def m_lnf (P : Int → Int) (n : Int) (q cl : Int → Int) (w x l : Int) : Int → Int := fun k => m_code P n q cl w (4 * m_end l x k + x)
theorem m_ln_code {P : Int → Int} {n : Int} {q cl : Int → Int} {l x k run sh w : Int} (hl : 0 ≤ l ∧ l < 6) (hx : 0 ≤ x ∧ x < 4) (hk : 0 ≤ k ∧ k < 6) (h : m_lr P n q cl l x k run sh) : m_lnf P n q cl w x l k = if m_own (P (m_end l x k)) = w ∧ m_goes (P (m_end l x k)) x ≠ 0 ∧ k ≠ 0 ∧ sh ≠ 1 ∧ run ≤ m_tug (P (m_end l x k)) + 1 then 1 else 0 := by
  have h0 := m_lane_end l x k hl hx hk
  have h1 := h.1
  have h2 := h.2
  show m_code P n q cl w (4 * m_end l x k + x) = _
  unfold m_code m_cause
  rw [show (4 * m_end l x k + x) / 4 = m_end l x k by omega, show (4 * m_end l x k + x) % 4 = x by omega, h1, h2, h0.2.1]
  omega
theorem m_mvs_cls (P : Int → Int) (n : Int) (q cl : Int → Int) (t bg en : Int) : m_mvs P n q cl t bg en = if m_on bg en = 1 then m_mv P n q cl (t % 2) else 0 := by
  by_cases z : m_on bg en = 1
  · rw [if_pos z]
    refine m_sum_ext 144 (fun k _ _ => ?_)
    unfold m_open m_code
    omega
  · rw [if_neg z]
    have : ∀ j : Nat, m_sum (m_open P n q cl t bg en) j = 0 := by
      intro j
      induction j with
      | zero => rfl
      | succ j ih =>
        show m_sum (m_open P n q cl t bg en) j + m_open P n q cl t bg en j = 0
        have e : m_open P n q cl t bg en j = 0 := by unfold m_open; omega
        omega
    exact this 144
theorem m_agn_off (P : Int → Int) (n : Int) (q cl : Int → Int) (t bg en : Int) (z : m_on bg en ≠ 1) : m_sum (m_agn P n q cl t bg en) 4 = 0 := by
  have : ∀ (x : Int) (j : Nat), m_sum (fun s => m_open P n q cl t bg en (4 * s + x)) j = 0 := by
    intro x j
    induction j with
    | zero => rfl
    | succ j ih =>
      show m_sum (fun s => m_open P n q cl t bg en (4 * s + x)) j + m_open P n q cl t bg en (4 * (j : Int) + x) = 0
      have e : m_open P n q cl t bg en (4 * (j : Int) + x) = 0 := by unfold m_open; omega
      omega
  show 0 + m_agn P n q cl t bg en 0 + m_agn P n q cl t bg en 1 + m_agn P n q cl t bg en 2 + m_agn P n q cl t bg en 3 = 0
  have e0 : m_agn P n q cl t bg en 0 = 0 := this 0 36
  have e1 : m_agn P n q cl t bg en 1 = 0 := this 1 36
  have e2 : m_agn P n q cl t bg en 2 = 0 := this 2 36
  have e3 : m_agn P n q cl t bg en 3 = 0 := this 3 36
  omega
theorem m_sum6 (f : Int → Int) : m_sum f 6 = f 0 + f 1 + f 2 + f 3 + f 4 + f 5 := by
  show 0 + f 0 + f 1 + f 2 + f 3 + f 4 + f 5 = _
  omega
theorem m_sum36 (f : Int → Int) : m_sum f 36 = (f 0 + f 1 + f 2 + f 3 + f 4 + f 5) + (f 6 + f 7 + f 8 + f 9 + f 10 + f 11) + (f 12 + f 13 + f 14 + f 15 + f 16 + f 17) + (f 18 + f 19 + f 20 + f 21 + f 22 + f 23) + (f 24 + f 25 + f 26 + f 27 + f 28 + f 29) + (f 30 + f 31 + f 32 + f 33 + f 34 + f 35) := by
  show 0 + f 0 + f 1 + f 2 + f 3 + f 4 + f 5 + f 6 + f 7 + f 8 + f 9 + f 10 + f 11 + f 12 + f 13 + f 14 + f 15 + f 16 + f 17 + f 18 + f 19 + f 20 + f 21 + f 22 + f 23 + f 24 + f 25 + f 26 + f 27 + f 28 + f 29 + f 30 + f 31 + f 32 + f 33 + f 34 + f 35 = _
  omega
def m_lns (P : Int → Int) (n : Int) (q cl : Int → Int) (w x : Int) : Int → Int := fun l => m_sum (m_lnf P n q cl w x l) 6
theorem m_lns_agn (P : Int → Int) (n : Int) (q cl : Int → Int) (t bg en x : Int) (z : m_on bg en = 1) (hx : 0 ≤ x ∧ x < 4) : m_sum (m_lns P n q cl (t % 2) x) 6 = m_agn P n q cl t bg en x := by
  have key : ∀ f : Int → Int, m_sum (fun l => m_sum (fun k => f (m_end l x k)) 6) 6 = m_sum f 36 := by
    intro f
    rw [m_sum36, m_sum6, m_sum6, m_sum6, m_sum6, m_sum6, m_sum6, m_sum6]
    have e : x = 0 ∨ x = 1 ∨ x = 2 ∨ x = 3 := by omega
    rcases e with rfl | rfl | rfl | rfl
    · show ((f 30 + f 24 + f 18 + f 12 + f 6 + f 0) + (f 31 + f 25 + f 19 + f 13 + f 7 + f 1) + (f 32 + f 26 + f 20 + f 14 + f 8 + f 2) + (f 33 + f 27 + f 21 + f 15 + f 9 + f 3) + (f 34 + f 28 + f 22 + f 16 + f 10 + f 4) + (f 35 + f 29 + f 23 + f 17 + f 11 + f 5)) = _
      omega
    · show ((f 5 + f 4 + f 3 + f 2 + f 1 + f 0) + (f 11 + f 10 + f 9 + f 8 + f 7 + f 6) + (f 17 + f 16 + f 15 + f 14 + f 13 + f 12) + (f 23 + f 22 + f 21 + f 20 + f 19 + f 18) + (f 29 + f 28 + f 27 + f 26 + f 25 + f 24) + (f 35 + f 34 + f 33 + f 32 + f 31 + f 30)) = _
      omega
    · show ((f 0 + f 6 + f 12 + f 18 + f 24 + f 30) + (f 1 + f 7 + f 13 + f 19 + f 25 + f 31) + (f 2 + f 8 + f 14 + f 20 + f 26 + f 32) + (f 3 + f 9 + f 15 + f 21 + f 27 + f 33) + (f 4 + f 10 + f 16 + f 22 + f 28 + f 34) + (f 5 + f 11 + f 17 + f 23 + f 29 + f 35)) = _
      omega
    · show ((f 0 + f 1 + f 2 + f 3 + f 4 + f 5) + (f 6 + f 7 + f 8 + f 9 + f 10 + f 11) + (f 12 + f 13 + f 14 + f 15 + f 16 + f 17) + (f 18 + f 19 + f 20 + f 21 + f 22 + f 23) + (f 24 + f 25 + f 26 + f 27 + f 28 + f 29) + (f 30 + f 31 + f 32 + f 33 + f 34 + f 35)) = _
      omega
  have h1 := key (fun s => m_code P n q cl (t % 2) (4 * s + x))
  refine h1.trans (m_sum_ext 36 (fun s _ _ => ?_))
  show m_code P n q cl (t % 2) (4 * s + x) = m_open P n q cl t bg en (4 * s + x)
  unfold m_open m_code
  omega
theorem m_fr_last (P : Int → Int) (s st : Int) : ∀ (k : Nat) (c : Int), c < m_fr P s st k c → P (s + m_fr P s st k c * st) ≠ -1 := by
  intro k
  induction k with
  | zero => intro c h; exact absurd h (Int.lt_irrefl c)
  | succ k ih =>
    intro c h
    unfold m_fr at h ⊢
    by_cases e : P (s + (c + 1) * st) = -1
    · rw [if_pos e] at h; omega
    · rw [if_neg e] at h ⊢
      by_cases z : c + 1 < m_fr P s st k (c + 1)
      · exact ih (c + 1) z
      · have h1 := m_fr_in P s st k (c + 1)
        rw [show m_fr P s st k (c + 1) = c + 1 by omega]
        exact e
theorem m_std_last (P : Int → Int) (s x : Int) (hs : 0 ≤ s ∧ s < 36) (hx : 0 ≤ x ∧ x < 4) (h : 0 < m_std P s x) : P (m_ahead s x (m_std P s x)) ≠ -1 := by
  have h1 := m_std_in P s x hs
  have h2 := m_ah s x (m_std P s x) hs hx (by omega)
  rw [show m_ahead s x (m_std P s x) = s + m_std P s x * m_step x by omega]
  exact m_fr_last P s (m_step x) _ 0 h
theorem m_off_take {P : Int → Int} (h : ∀ s, -1 ≤ P s ∧ P s ≤ 3) (t s x : Int) (hs : 0 ≤ s ∧ s < 36) (hx : 0 ≤ x ∧ x < 4) : m_own (m_off P s x) = 1 - t % 2 ↔ m_take P t s x = 1 := by
  have h1 := m_std_in P s x hs
  have h2 := m_ah s x (m_std P s x + 1) hs hx (by omega)
  have h3 := m_own_in _ (h (m_ahead s x (m_std P s x)))
  have h4 := m_ah s x (m_std P s x) hs hx (by omega)
  unfold m_off m_take
  by_cases q0 : m_std P s x = 0 ∨ m_std P s x < m_room s x
  · rw [if_pos q0]
    have : m_own (-1) = -1 := rfl
    omega
  · rw [if_neg q0]
    have h5 : 0 ≤ m_ahead s x (m_std P s x) ∧ m_ahead s x (m_std P s x) < 36 := by omega
    -- the last of the line is a piece
    have h6 : P (m_ahead s x (m_std P s x)) ≠ -1 := m_std_last P s x hs hx (by omega)
    omega
section L2y
variable {E : Nat × (Int → Int)} {C : List ag_C} {N : Nat → Int → Int} {b : Nat} {P : Int → Int} {n : Int} {q p cl tn : Int → Int}

theorem m_lns_in (P : Int → Int) (n : Int) (q cl : Int → Int) (w x l : Int) : 0 ≤ m_lns P n q cl w x l ∧ m_lns P n q cl w x l ≤ 6 := m_sum_b _ (fun k => m_code_in P n q cl w _) 6

theorem ev_X0_movesInLane {d : Nat} (hd : 3 ≤ d) (hb : g_isB C b) (hr : g_rB N b P n q p cl tn) (hw : g_wB P n q p cl tn) (w x l : Int) (h0 : 0 ≤ w ∧ w < 2) (h1 : 0 ≤ x ∧ x < 4) (h2 : 0 ≤ l ∧ l < 6) : Ev E d 18 [vA b, vI w, vI x, vI l] (C, N) (some (vI (m_lns P n q cl w x l)), (C, N)) := by
  obtain ⟨d, rfl⟩ : ∃ j, d = j + 1 := ⟨d - 1, by omega⟩
  refine Ev.intro (M := ag_mX0_movesInLane) rfl rfl ?_
  show AR E d _ (0, [some (vA b), some (vI w), some (vI x), some (vI l), none, none, none, none, none, none, none], [], (C, N)) _
  refine AR.blk 8 (f' := (12, [some (vA b), some (vI w), some (vI x), some (vI l), some (vI 0), some (vI 0), some (vI 0), some (vI 0), none, none, none], [], (C, N))) (fun _ => rfl) ?_
  suffices H12 : ∀ (j : Nat) (c : Int) (r : Int) (sh : Int) (k : Int) (z8 : Option av) (z9 : Option av) (z10 : Option av), (6 - k).toNat < j → (0 ≤ k ∧ k ≤ 6 ∧ 0 ≤ c ∧ c ≤ k ∧ 0 ≤ r ∧ r ≤ k ∧ (sh = 0 ∨ sh = 1)) → (c = m_sum (m_lnf P n q cl w x l) k.toNat) → (k < 6 → m_lr P n q cl l x k r sh) → AR E d ag_mX0_movesInLane (12, [some (vA b), some (vI w), some (vI x), some (vI l), some (vI c), some (vI r), some (vI sh), some (vI k), z8, z9, z10], [], (C, N)) (fun o_ => o_ = (some (vI (m_lns P n q cl w x l)), (C, N))) by
    exact H12 _ _ _ _ _ _ _ _ (Nat.lt_succ_self _) (by omega) rfl (fun _ => m_lr0 hw l x (by omega) (by omega))
  intro j
  induction j with
  | zero => intro c r sh k z8 z9 z10 hj; exact absurd hj (Nat.not_lt_zero _)
  | succ j ih12 =>
    intro c r sh k z8 z9 z10 hj12 i0 i1 i2
    have zo := m_own_in (P (m_end l x k)) (hw.1 _)
    have zg := m_goes_in (P (m_end l x k)) x
    have zc := fun hk6 : k < 6 => m_ln_code (w := w) (by omega) (by omega) (by omega) (i2 hk6)
    have ze := fun hk6 : k < 6 => m_end_in l x k (by omega) (by omega)
    refine AR.blk 2 (f' := (16, [some (vA b), some (vI w), some (vI x), some (vI l), some (vI c), some (vI r), some (vI sh), some (vI k), z8, z9, z10], [vI 6, vI k], (C, N))) (fun _ => rfl) ?_
    refine AR.ic_ge rfl (by omega) (fun c1 => ?_) (fun c1 => ?_)
    · show AR E d _ (118, [some (vA b), some (vI w), some (vI x), some (vI l), some (vI c), some (vI r), some (vI sh), some (vI k), z8, z9, z10], [], (C, N)) _
      refine AR.blk 1 (f' := (120, [some (vA b), some (vI w), some (vI x), some (vI l), some (vI c), some (vI r), some (vI sh), some (vI k), z8, z9, z10], [vI c], (C, N))) (fun _ => rfl) ?_
      exact AR.retI rfl (by rw [i1, show k = 6 by omega]; rfl) ⟨rfl, .inl rfl⟩ rfl
    · show AR E d _ (19, [some (vA b), some (vI w), some (vI x), some (vI l), some (vI c), some (vI r), some (vI sh), some (vI k), z8, z9, z10], [], (C, N)) _
      refine AR.blk 3 (f' := (23, [some (vA b), some (vI w), some (vI x), some (vI l), some (vI c), some (vI r), some (vI sh), some (vI k), z8, z9, z10], [vI k, vI x, vI l], (C, N))) (fun _ => rfl) ?_
      refine AR.callS [vI l, vI x, vI k] (ev_X6_fromEnd (by omega) l x k (by omega)) rfl rfl rfl rfl rfl ?_
      show AR E d _ (26, [some (vA b), some (vI w), some (vI x), some (vI l), some (vI c), some (vI r), some (vI sh), some (vI k), z8, z9, z10], [vI (m_end l x k)], (C, N)) _
      refine AR.blk 3 (f' := (31, [some (vA b), some (vI w), some (vI x), some (vI l), some (vI c), some (vI r), some (vI sh), some (vI k), some (vI (m_end l x k)), z9, z10], [vI (m_end l x k), vA b], (C, N))) (fun _ => rfl) ?_
      refine AR.callV [vI (m_end l x k)] (ev_X0_pieceAt (by omega) hb hr hw (m_end l x k) (by omega)) hb.1 rfl rfl rfl rfl rfl ?_
      show AR E d _ (34, [some (vA b), some (vI w), some (vI x), some (vI l), some (vI c), some (vI r), some (vI sh), some (vI k), some (vI (m_end l x k)), z9, z10], [vI (P (m_end l x k))], (C, N)) _
      have f2 := hw.1 (m_end l x k)
      refine AR.blk 3 (f' := (39, [some (vA b), some (vI w), some (vI x), some (vI l), some (vI c), some (vI r), some (vI sh), some (vI k), some (vI (m_end l x k)), some (vI (P (m_end l x k))), z10], [vI (-1), vI (P (m_end l x k))], (C, N))) (fun _ => rfl) ?_
      refine AR.ic_ne rfl (by omega) (fun c3 => ?_) (fun c3 => ?_)
      · show AR E d _ (56, [some (vA b), some (vI w), some (vI x), some (vI l), some (vI c), some (vI r), some (vI sh), some (vI k), some (vI (m_end l x k)), some (vI (P (m_end l x k))), z10], [], (C, N)) _
        refine AR.blk 1 (f' := (58, [some (vA b), some (vI w), some (vI x), some (vI l), some (vI c), some (vI r), some (vI sh), some (vI k), some (vI (m_end l x k)), some (vI (P (m_end l x k))), z10], [vI k], (C, N))) (fun _ => rfl) ?_
        refine AR.if_le rfl (by omega) (fun c4 => ?_) (fun c4 => ?_)
        · show AR E d _ (80, [some (vA b), some (vI w), some (vI x), some (vI l), some (vI c), some (vI r), some (vI sh), some (vI k), some (vI (m_end l x k)), some (vI (P (m_end l x k))), z10], [], (C, N)) _
          refine AR.blk 3 (f' := (85, [some (vA b), some (vI w), some (vI x), some (vI l), some (vI c), some (vI r), some (vI sh), some (vI k), some (vI (m_end l x k)), some (vI (P (m_end l x k))), some (vI 0)], [vI 0], (C, N))) (fun _ => rfl) ?_
          refine AR.blk 4 (f' := (12, [some (vA b), some (vI w), some (vI x), some (vI l), some (vI c), some (vI (r + 1)), some (vI sh), some (vI (k + 1)), some (vI (m_end l x k)), some (vI (P (m_end l x k))), some (vI 0)], [], (C, N))) (fun _ => rfl) ?_
          exact ih12 _ _ _ _ _ _ _ (by omega) (by omega) (by rw [m_sum_succ _ (by omega), ← i1, zc (by omega)]; omega) (fun hk6 => by first | exact (m_lrS (by omega) (by omega) (by omega) (i2 (by omega))).1 (by omega) | exact (m_lrS (by omega) (by omega) (by omega) (i2 (by omega))).2 (by omega))
        · show AR E d _ (61, [some (vA b), some (vI w), some (vI x), some (vI l), some (vI c), some (vI r), some (vI sh), some (vI k), some (vI (m_end l x k)), some (vI (P (m_end l x k))), z10], [], (C, N)) _
          refine AR.blk 1 (f' := (63, [some (vA b), some (vI w), some (vI x), some (vI l), some (vI c), some (vI r), some (vI sh), some (vI k), some (vI (m_end l x k)), some (vI (P (m_end l x k))), z10], [vI sh], (C, N))) (fun _ => rfl) ?_
          refine AR.if_ne rfl (by omega) (fun c5 => ?_) (fun c5 => ?_)
          · show AR E d _ (80, [some (vA b), some (vI w), some (vI x), some (vI l), some (vI c), some (vI r), some (vI sh), some (vI k), some (vI (m_end l x k)), some (vI (P (m_end l x k))), z10], [], (C, N)) _
            refine AR.blk 3 (f' := (85, [some (vA b), some (vI w), some (vI x), some (vI l), some (vI c), some (vI r), some (vI sh), some (vI k), some (vI (m_end l x k)), some (vI (P (m_end l x k))), some (vI 0)], [vI 0], (C, N))) (fun _ => rfl) ?_
            refine AR.blk 4 (f' := (12, [some (vA b), some (vI w), some (vI x), some (vI l), some (vI c), some (vI (r + 1)), some (vI sh), some (vI (k + 1)), some (vI (m_end l x k)), some (vI (P (m_end l x k))), some (vI 0)], [], (C, N))) (fun _ => rfl) ?_
            exact ih12 _ _ _ _ _ _ _ (by omega) (by omega) (by rw [m_sum_succ _ (by omega), ← i1, zc (by omega)]; omega) (fun hk6 => by first | exact (m_lrS (by omega) (by omega) (by omega) (i2 (by omega))).1 (by omega) | exact (m_lrS (by omega) (by omega) (by omega) (i2 (by omega))).2 (by omega))
          · show AR E d _ (66, [some (vA b), some (vI w), some (vI x), some (vI l), some (vI c), some (vI r), some (vI sh), some (vI k), some (vI (m_end l x k)), some (vI (P (m_end l x k))), z10], [], (C, N)) _
            refine AR.blk 2 (f' := (70, [some (vA b), some (vI w), some (vI x), some (vI l), some (vI c), some (vI r), some (vI sh), some (vI k), some (vI (m_end l x k)), some (vI (P (m_end l x k))), z10], [vI (P (m_end l x k)), vI r], (C, N))) (fun _ => rfl) ?_
            refine AR.callS [vI (P (m_end l x k))] (ev_X6_strengthOf (by omega) (P (m_end l x k)) (by omega)) rfl rfl rfl rfl rfl ?_
            show AR E d _ (73, [some (vA b), some (vI w), some (vI x), some (vI l), some (vI c), some (vI r), some (vI sh), some (vI k), some (vI (m_end l x k)), some (vI (P (m_end l x k))), z10], [vI (m_tug (P (m_end l x k)) + 1), vI r], (C, N)) _
            have f6 := m_tug_in ((P (m_end l x k)))
            refine AR.ic_gt rfl (by omega) (fun c7 => ?_) (fun c7 => ?_)
            · show AR E d _ (80, [some (vA b), some (vI w), some (vI x), some (vI l), some (vI c), some (vI r), some (vI sh), some (vI k), some (vI (m_end l x k)), some (vI (P (m_end l x k))), z10], [], (C, N)) _
              refine AR.blk 3 (f' := (85, [some (vA b), some (vI w), some (vI x), some (vI l), some (vI c), some (vI r), some (vI sh), some (vI k), some (vI (m_end l x k)), some (vI (P (m_end l x k))), some (vI 0)], [vI 0], (C, N))) (fun _ => rfl) ?_
              refine AR.blk 4 (f' := (12, [some (vA b), some (vI w), some (vI x), some (vI l), some (vI c), some (vI (r + 1)), some (vI sh), some (vI (k + 1)), some (vI (m_end l x k)), some (vI (P (m_end l x k))), some (vI 0)], [], (C, N))) (fun _ => rfl) ?_
              exact ih12 _ _ _ _ _ _ _ (by omega) (by omega) (by rw [m_sum_succ _ (by omega), ← i1, zc (by omega)]; omega) (fun hk6 => by first | exact (m_lrS (by omega) (by omega) (by omega) (i2 (by omega))).1 (by omega) | exact (m_lrS (by omega) (by omega) (by omega) (i2 (by omega))).2 (by omega))
            · show AR E d _ (76, [some (vA b), some (vI w), some (vI x), some (vI l), some (vI c), some (vI r), some (vI sh), some (vI k), some (vI (m_end l x k)), some (vI (P (m_end l x k))), z10], [], (C, N)) _
              refine AR.blk 4 (f' := (85, [some (vA b), some (vI w), some (vI x), some (vI l), some (vI c), some (vI r), some (vI sh), some (vI k), some (vI (m_end l x k)), some (vI (P (m_end l x k))), some (vI 1)], [vI 1], (C, N))) (fun _ => rfl) ?_
              refine AR.blk 2 (f' := (90, [some (vA b), some (vI w), some (vI x), some (vI l), some (vI c), some (vI r), some (vI sh), some (vI k), some (vI (m_end l x k)), some (vI (P (m_end l x k))), some (vI 1)], [vI (P (m_end l x k))], (C, N))) (fun _ => rfl) ?_
              refine AR.callS [vI (P (m_end l x k))] (ev_X6_ownerOf (by omega) (P (m_end l x k)) (by omega)) rfl rfl rfl rfl rfl ?_
              show AR E d _ (93, [some (vA b), some (vI w), some (vI x), some (vI l), some (vI c), some (vI r), some (vI sh), some (vI k), some (vI (m_end l x k)), some (vI (P (m_end l x k))), some (vI 1)], [vI (m_own (P (m_end l x k)))], (C, N)) _
              have f8 := m_own_in ((P (m_end l x k))) (by omega)
              refine AR.blk 1 (f' := (94, [some (vA b), some (vI w), some (vI x), some (vI l), some (vI c), some (vI r), some (vI sh), some (vI k), some (vI (m_end l x k)), some (vI (P (m_end l x k))), some (vI 1)], [vI w, vI (m_own (P (m_end l x k)))], (C, N))) (fun _ => rfl) ?_
              refine AR.ic_ne rfl (by omega) (fun c9 => ?_) (fun c9 => ?_)
              · show AR E d _ (109, [some (vA b), some (vI w), some (vI x), some (vI l), some (vI c), some (vI r), some (vI sh), some (vI k), some (vI (m_end l x k)), some (vI (P (m_end l x k))), some (vI 1)], [], (C, N)) _
                refine AR.blk 3 (f' := (12, [some (vA b), some (vI w), some (vI x), some (vI l), some (vI c), some (vI (r + 1)), some (vI sh), some (vI (k + 1)), some (vI (m_end l x k)), some (vI (P (m_end l x k))), some (vI 1)], [], (C, N))) (fun _ => rfl) ?_
                exact ih12 _ _ _ _ _ _ _ (by omega) (by omega) (by rw [m_sum_succ _ (by omega), ← i1, zc (by omega)]; omega) (fun hk6 => by first | exact (m_lrS (by omega) (by omega) (by omega) (i2 (by omega))).1 (by omega) | exact (m_lrS (by omega) (by omega) (by omega) (i2 (by omega))).2 (by omega))
              · show AR E d _ (97, [some (vA b), some (vI w), some (vI x), some (vI l), some (vI c), some (vI r), some (vI sh), some (vI k), some (vI (m_end l x k)), some (vI (P (m_end l x k))), some (vI 1)], [], (C, N)) _
                refine AR.blk 2 (f' := (100, [some (vA b), some (vI w), some (vI x), some (vI l), some (vI c), some (vI r), some (vI sh), some (vI k), some (vI (m_end l x k)), some (vI (P (m_end l x k))), some (vI 1)], [vI x, vI (P (m_end l x k))], (C, N))) (fun _ => rfl) ?_
                refine AR.callS [vI (P (m_end l x k)), vI x] (ev_X6_goes (by omega) (P (m_end l x k)) x (by omega) (by omega)) rfl rfl rfl rfl rfl ?_
                show AR E d _ (103, [some (vA b), some (vI w), some (vI x), some (vI l), some (vI c), some (vI r), some (vI sh), some (vI k), some (vI (m_end l x k)), some (vI (P (m_end l x k))), some (vI 1)], [vI (m_goes (P (m_end l x k)) x)], (C, N)) _
                have f10 := m_goes_in ((P (m_end l x k))) (x)
                refine AR.if_eq rfl (by omega) (fun c11 => ?_) (fun c11 => ?_)
                · show AR E d _ (109, [some (vA b), some (vI w), some (vI x), some (vI l), some (vI c), some (vI r), some (vI sh), some (vI k), some (vI (m_end l x k)), some (vI (P (m_end l x k))), some (vI 1)], [], (C, N)) _
                  refine AR.blk 3 (f' := (12, [some (vA b), some (vI w), some (vI x), some (vI l), some (vI c), some (vI (r + 1)), some (vI sh), some (vI (k + 1)), some (vI (m_end l x k)), some (vI (P (m_end l x k))), some (vI 1)], [], (C, N))) (fun _ => rfl) ?_
                  exact ih12 _ _ _ _ _ _ _ (by omega) (by omega) (by rw [m_sum_succ _ (by omega), ← i1, zc (by omega)]; omega) (fun hk6 => by first | exact (m_lrS (by omega) (by omega) (by omega) (i2 (by omega))).1 (by omega) | exact (m_lrS (by omega) (by omega) (by omega) (i2 (by omega))).2 (by omega))
                · show AR E d _ (106, [some (vA b), some (vI w), some (vI x), some (vI l), some (vI c), some (vI r), some (vI sh), some (vI k), some (vI (m_end l x k)), some (vI (P (m_end l x k))), some (vI 1)], [], (C, N)) _
                  refine AR.blk 4 (f' := (12, [some (vA b), some (vI w), some (vI x), some (vI l), some (vI (c + 1)), some (vI (r + 1)), some (vI sh), some (vI (k + 1)), some (vI (m_end l x k)), some (vI (P (m_end l x k))), some (vI 1)], [], (C, N))) (fun _ => rfl) ?_
                  exact ih12 _ _ _ _ _ _ _ (by omega) (by omega) (by rw [m_sum_succ _ (by omega), ← i1, zc (by omega)]; omega) (fun hk6 => by first | exact (m_lrS (by omega) (by omega) (by omega) (i2 (by omega))).1 (by omega) | exact (m_lrS (by omega) (by omega) (by omega) (i2 (by omega))).2 (by omega))
      · show AR E d _ (42, [some (vA b), some (vI w), some (vI x), some (vI l), some (vI c), some (vI r), some (vI sh), some (vI k), some (vI (m_end l x k)), some (vI (P (m_end l x k))), z10], [], (C, N)) _
        refine AR.blk 4 (f' := (48, [some (vA b), some (vI w), some (vI x), some (vI l), some (vI c), some (vI 0), some (vI sh), some (vI k), some (vI (m_end l x k)), some (vI (P (m_end l x k))), z10], [vI (m_end l x k), vA b], (C, N))) (fun _ => rfl) ?_
        refine AR.callV [vI (m_end l x k)] (ev_X0_isClosed (by omega) hb hr hw (m_end l x k) (by omega)) hb.1 rfl rfl rfl rfl rfl ?_
        show AR E d _ (51, [some (vA b), some (vI w), some (vI x), some (vI l), some (vI c), some (vI 0), some (vI sh), some (vI k), some (vI (m_end l x k)), some (vI (P (m_end l x k))), z10], [vI (m_cl n q cl (m_end l x k))], (C, N)) _
        have f12 := m_cl_in n q cl (m_end l x k) (fun k => (hw.2.2.2.2.1 k).1)
        refine AR.blk 4 (f' := (12, [some (vA b), some (vI w), some (vI x), some (vI l), some (vI c), some (vI 0), some (vI (m_cl n q cl (m_end l x k))), some (vI (k + 1)), some (vI (m_end l x k)), some (vI (P (m_end l x k))), z10], [], (C, N))) (fun _ => rfl) ?_
        exact ih12 _ _ _ _ _ _ _ (by omega) (by omega) (by rw [m_sum_succ _ (by omega), ← i1, zc (by omega)]; omega) (fun hk6 => by first | exact (m_lrS (by omega) (by omega) (by omega) (i2 (by omega))).1 (by omega) | exact (m_lrS (by omega) (by omega) (by omega) (i2 (by omega))).2 (by omega))
end L2y
