/-! LEVEL 2: the model's row, further -/
/-- the place-th of those k with f k = 1, from k on, n ahead of it -/
def m_pk (f : Int → Int) (place : Int) : Nat → Int → Int → Int
  | 0, _, _ => -1
  | j + 1, k, n => if f k = 1 then (if n = place then k else m_pk f place j (k + 1) (n + 1)) else m_pk f place j (k + 1) n
theorem m_pkS (f : Int → Int) (place k n r : Int) (hk : k < 144) (h : m_pk f place (144 - k).toNat k n = r) : (f k = 1 → n = place → k = r) ∧ (f k = 1 → n ≠ place → m_pk f place (144 - (k + 1)).toNat (k + 1) (n + 1) = r) ∧ (f k ≠ 1 → m_pk f place (144 - (k + 1)).toNat (k + 1) n = r) := by
  rw [show (144 - k).toNat = (144 - (k + 1)).toNat + 1 by omega] at h
  unfold m_pk at h
  refine ⟨fun a b => ?_, fun a b => ?_, fun a => ?_⟩
  · rw [if_pos a, if_pos b] at h; exact h
  · rw [if_pos a, if_neg b] at h; exact h
  · rw [if_neg a] at h; exact h
/-- the first k from k on with f k = 1, or -4 -/
def m_fst (f : Int → Int) : Nat → Int → Int
  | 0, _ => -4
  | j + 1, k => if f k = 1 then k else m_fst f j (k + 1)
theorem m_fstS (f : Int → Int) (k r : Int) (hk : k < 144) (h : m_fst f (144 - k).toNat k = r) : (f k = 1 → k = r) ∧ (f k ≠ 1 → m_fst f (144 - (k + 1)).toNat (k + 1) = r) := by
  rw [show (144 - k).toNat = (144 - (k + 1)).toNat + 1 by omega] at h
  unfold m_fst at h
  refine ⟨fun a => ?_, fun a => ?_⟩
  · rw [if_pos a] at h; exact h
  · rw [if_neg a] at h; exact h
def m_take (P : Int → Int) (t : Int) (s x : Int) : Int := if m_std P s x ≠ 0 ∧ m_ahead s x (m_std P s x + 1) = -1 ∧ m_own (P (m_ahead s x (m_std P s x))) ≠ t % 2 then 1 else 0
def m_ft (P : Int → Int) (n : Int) (q cl : Int → Int) (t bg en : Int) (m : Int) : Int := if m_open P n q cl t bg en m = 1 ∧ m_take P t (m / 4) (m % 4) = 1 then 1 else 0
def m_agn (P : Int → Int) (n : Int) (q cl : Int → Int) (t bg en : Int) (x : Int) : Int := m_sum (fun s => m_open P n q cl t bg en (4 * s + x)) 36
def m_sq (P : Int → Int) (n : Int) (q cl : Int → Int) (s w : Int) : Int := if ¬ (0 ≤ s ∧ s < 36) then -1 else if w = 0 then (if P s = -1 then -4 else P s) else if w = 1 then (if m_la n q s = -1 then -4 else m_la n q s) else if w = 2 then m_cl n q cl s else -2
def m_lko (n : Int) (q p cl tn : Int → Int) (l w : Int) : Int := if ¬ (0 ≤ l ∧ l < n) then -1 else if 0 ≤ w ∧ w < 4 then m_lk q p cl tn l w else -2
def m_sd (P : Int → Int) (gn pu mk : Int → Int) (w y : Int) : Int := if ¬ (0 ≤ w ∧ w < 2) then -1 else if y = 0 then m_cnt P w else if y = 1 then m_cnt P w - m_tugs P w else if y = 2 then m_tugs P w else if y = 3 then gn w else if y = 4 then pu w else if y = 5 then mk w else -2
def m_tin (n : Int) (p : Int → Int) (t l : Int) : Int := if ¬ (0 ≤ l ∧ l < n) then -1 else p l - t % p l
def m_tdi (t x : Int) : Int := if ¬ (0 ≤ x ∧ x < 4) then -1 else if x ≤ t / 4 % 4 then 4 * (x - t / 4 % 4 + 4) - t % 4 else 4 * (x - t / 4 % 4) - t % 4
def m_wp (P : Int → Int) (n : Int) (q cl : Int → Int) (s x : Int) : Int := if ¬ (0 ≤ s ∧ s < 36) then -1 else if ¬ (0 ≤ x ∧ x < 4) then -2 else if P s = -1 ∨ m_cause P n q cl s x ≠ 0 then -4 else m_std P s x
theorem m_row (P : Int → Int) : ∀ k : Nat, 0 ≤ m_sum (fun s => if P s = -1 then 0 else s / 6) k ∧ m_sum (fun s => if P s = -1 then 0 else s / 6) k ≤ 6 * k * k := by
  intro k
  induction k with
  | zero => exact ⟨Int.le_refl 0, Int.le_refl 0⟩
  | succ k ih =>
    show 0 ≤ m_sum (fun s => if P s = -1 then 0 else s / 6) k + (if P k = -1 then 0 else (k : Int) / 6) ∧ m_sum (fun s => if P s = -1 then 0 else s / 6) k + (if P k = -1 then 0 else (k : Int) / 6) ≤ 6 * ((k + 1 : Nat) : Int) * ((k + 1 : Nat) : Int)
    have e : 6 * ((k + 1 : Nat) : Int) * ((k + 1 : Nat) : Int) = 6 * (k : Int) * k + 12 * k + 6 := by
      rw [Int.natCast_succ, Int.mul_add, Int.mul_add, Int.add_mul]
      omega
    rw [e]
    have : 0 ≤ (if P k = -1 then 0 else (k : Int) / 6) ∧ (if P k = -1 then 0 else (k : Int) / 6) ≤ k := by omega
    omega
section L2d
variable {E : Nat × (Int → Int)} {C : List ag_C} {N : Nat → Int → Int} {m : Nat} {P : Int → Int} {n : Int} {q p cl tn : Int → Int} {t bg en ca : Int} {gn pu mk : Int → Int}

theorem m_cl_off {P : Int → Int} {n : Int} {q p cl tn : Int → Int} (hw : g_wB P n q p cl tn) : m_cl n q cl (-1) = 0 := by
  have h0 := hw.2.2.2.1 0
  have h1 := hw.2.2.2.1 1
  have h2 := hw.2.2.2.1 2
  have h3 := hw.2.2.2.1 3
  have e : m_la n q (-1) = -1 := by unfold m_la; omega
  unfold m_cl
  rw [e]
  rfl

theorem ev_X7_endOf {d : Nat} (hd : 2 ≤ d) (hm : g_isM C m) (hr : g_rR (N (m + 1)) P n q p cl tn) (hw : g_wB P n q p cl tn) (s x : Int) (h0 : 0 ≤ s ∧ s < 36) (h1 : 0 ≤ x ∧ x < 4) : Ev E d 125 [vA m, vI s, vI x] (C, N) (some (vI (m_ahead s x (m_std P s x + 1))), (C, N)) := by
  obtain ⟨d, rfl⟩ : ∃ j, d = j + 1 := ⟨d - 1, by omega⟩
  refine Ev.intro (M := ag_mX7_endOf) rfl rfl ?_
  show AR E d _ (0, [some (vA m), some (vI s), some (vI x), none], [], (C, N)) _
  refine AR.blk 2 (f' := (2, [some (vA m), some (vI s), some (vI x), none], [vI x, vI s], (C, N))) (fun _ => rfl) ?_
  refine AR.callS [vI s, vI x] (ev_X7_beside (by omega) s x (by omega) (by omega)) rfl rfl rfl rfl rfl ?_
  show AR E d _ (5, [some (vA m), some (vI s), some (vI x), none], [vI (m_ahead s x 1)], (C, N)) _
  have f1 := m_ah s x 1 (by omega) (by omega) (by omega)
  have f2 := m_room_in s x (by omega)
  refine AR.blk 1 (f' := (6, [some (vA m), some (vI s), some (vI x), some (vI (m_ahead s x 1))], [], (C, N))) (fun _ => rfl) ?_
  suffices H6 : ∀ (j : Nat) (c : Int) (a : Int), (m_room s x - c).toNat < j → (0 ≤ c ∧ c ≤ m_room s x) → (m_fr P s (m_step x) (m_room s x - c).toNat c = m_std P s x) → (a = m_ahead s x (c + 1)) → AR E d ag_mX7_endOf (6, [some (vA m), some (vI s), some (vI x), some (vI a)], [], (C, N)) (fun o_ => o_ = (some (vI (m_ahead s x (m_std P s x + 1))), (C, N))) by
    exact H6 _ (0) _ (Nat.lt_succ_self _) (by have := m_room_in s x (by omega); omega) (by rw [Int.sub_zero]; rfl) rfl
  intro j
  induction j with
  | zero => intro c a hj; exact absurd hj (Nat.not_lt_zero _)
  | succ j ih6 =>
    intro c a hj6 i0 i1 i2
    have z0 := m_ah s x (c + 1) (by omega) (by omega) (by omega)
    have z1 := m_frS P s x c (by omega) (by omega) (by omega) _ i1
    refine AR.blk 1 (f' := (7, [some (vA m), some (vI s), some (vI x), some (vI a)], [vI a], (C, N))) (fun _ => rfl) ?_
    refine AR.if_lt rfl (by omega) (fun c3 => ?_) (fun c3 => ?_)
    · show AR E d _ (27, [some (vA m), some (vI s), some (vI x), some (vI a)], [], (C, N)) _
      refine AR.blk 1 (f' := (28, [some (vA m), some (vI s), some (vI x), some (vI a)], [vI a], (C, N))) (fun _ => rfl) ?_
      exact AR.retI rfl (by rw [i2]; first | rw [z1.1 (by omega)] | rw [z1.2.1 (by omega) (by rw [← i2]; omega)]) ⟨rfl, .inl rfl⟩ rfl
    · show AR E d _ (10, [some (vA m), some (vI s), some (vI x), some (vI a)], [], (C, N)) _
      refine AR.blk 2 (f' := (12, [some (vA m), some (vI s), some (vI x), some (vI a)], [vI a, vA m], (C, N))) (fun _ => rfl) ?_
      refine AR.callV [vI a] (ev_X7_pieceAt (by omega) hm hr hw a (by omega)) hm.1 rfl rfl rfl rfl rfl ?_
      show AR E d _ (15, [some (vA m), some (vI s), some (vI x), some (vI a)], [vI (P a + 1)], (C, N)) _
      have f4 := hw.1 a
      refine AR.if_le rfl (by omega) (fun c5 => ?_) (fun c5 => ?_)
      · show AR E d _ (27, [some (vA m), some (vI s), some (vI x), some (vI a)], [], (C, N)) _
        refine AR.blk 1 (f' := (28, [some (vA m), some (vI s), some (vI x), some (vI a)], [vI a], (C, N))) (fun _ => rfl) ?_
        exact AR.retI rfl (by rw [i2]; first | rw [z1.1 (by omega)] | rw [z1.2.1 (by omega) (by rw [← i2]; omega)]) ⟨rfl, .inl rfl⟩ rfl
      · show AR E d _ (18, [some (vA m), some (vI s), some (vI x), some (vI a)], [], (C, N)) _
        refine AR.blk 2 (f' := (20, [some (vA m), some (vI s), some (vI x), some (vI a)], [vI x, vI a], (C, N))) (fun _ => rfl) ?_
        refine AR.callS [vI a, vI x] (ev_X7_beside (by omega) a x (by omega) (by omega)) rfl rfl rfl rfl rfl ?_
        show AR E d _ (23, [some (vA m), some (vI s), some (vI x), some (vI a)], [vI (m_ahead a x 1)], (C, N)) _
        have f6 := m_ah a x 1 (by omega) (by omega) (by omega)
        have f7 := m_room_in a x (by omega)
        refine AR.blk 2 (f' := (6, [some (vA m), some (vI s), some (vI x), some (vI (m_ahead a x 1))], [], (C, N))) (fun _ => rfl) ?_
        have z3 := z1.2.2 (by omega) (by rw [← i2]; omega)
        exact ih6 (c + 1) _ (by omega) (by omega) z3.2 (by rw [i2] at *; exact m_ahS s x (c + 1) (by omega) (by omega) (by omega) (by omega))

theorem ev_X7_against {d : Nat} (hd : 4 ≤ d) (hm : g_isM C m) (hr : g_rR (N (m + 1)) P n q p cl tn) (hw : g_wB P n q p cl tn) (s x : Int) (h0 : 0 ≤ s ∧ s < 36) (h1 : 0 ≤ x ∧ x < 4) (h2 : P s ≠ -1) : Ev E d 127 [vA m, vI s, vI x] (C, N) (some (vI (m_cause P n q cl s x)), (C, N)) := by
  obtain ⟨d, rfl⟩ : ∃ j, d = j + 1 := ⟨d - 1, by omega⟩
  refine Ev.intro (M := ag_mX7_against) rfl rfl ?_
  show AR E d _ (0, [some (vA m), some (vI s), some (vI x), none], [], (C, N)) _
  refine AR.blk 3 (f' := (3, [some (vA m), some (vI s), some (vI x), none], [vI x, vI s, vA m], (C, N))) (fun _ => rfl) ?_
  refine AR.callV [vI s, vI x] (ev_X7_goes (by omega) hm hr hw s x (by omega) (by omega) (by omega)) hm.1 rfl rfl rfl rfl rfl ?_
  show AR E d _ (6, [some (vA m), some (vI s), some (vI x), none], [vI (m_goes (P s) x)], (C, N)) _
  have f1 := m_goes_in (P s) x
  refine AR.if_ne rfl (by omega) (fun c2 => ?_) (fun c2 => ?_)
  · show AR E d _ (12, [some (vA m), some (vI s), some (vI x), none], [], (C, N)) _
    refine AR.blk 2 (f' := (14, [some (vA m), some (vI s), some (vI x), none], [vI x, vI s], (C, N))) (fun _ => rfl) ?_
    refine AR.callS [vI s, vI x] (ev_X7_beside (by omega) s x (by omega) (by omega)) rfl rfl rfl rfl rfl ?_
    show AR E d _ (17, [some (vA m), some (vI s), some (vI x), none], [vI (m_ahead s x 1)], (C, N)) _
    have f3 := m_ah s x 1 (by omega) (by omega) (by omega)
    have f4 := m_room_in s x (by omega)
    refine AR.if_ge rfl (by omega) (fun c5 => ?_) (fun c5 => ?_)
    · show AR E d _ (23, [some (vA m), some (vI s), some (vI x), none], [], (C, N)) _
      refine AR.blk 3 (f' := (26, [some (vA m), some (vI s), some (vI x), none], [vI x, vI s, vA m], (C, N))) (fun _ => rfl) ?_
      refine AR.callV [vI s, vI x] (ev_X7_endOf (by omega) hm hr hw s x (by omega) (by omega)) hm.1 rfl rfl rfl rfl rfl ?_
      show AR E d _ (29, [some (vA m), some (vI s), some (vI x), none], [vI (m_ahead s x (m_std P s x + 1))], (C, N)) _
      have f6 := m_ah s x (m_std P s x + 1) (by omega) (by omega) (by have := m_std_in P s x (by omega); omega)
      refine AR.blk 2 (f' := (31, [some (vA m), some (vI s), some (vI x), some (vI (m_ahead s x (m_std P s x + 1)))], [vI (m_ahead s x (m_std P s x + 1))], (C, N))) (fun _ => rfl) ?_
      refine AR.if_lt rfl (by omega) (fun c7 => ?_) (fun c7 => ?_)
      · show AR E d _ (45, [some (vA m), some (vI s), some (vI x), some (vI (m_ahead s x (m_std P s x + 1)))], [], (C, N)) _
        refine AR.blk 3 (f' := (48, [some (vA m), some (vI s), some (vI x), some (vI (m_ahead s x (m_std P s x + 1)))], [vI x, vI s, vA m], (C, N))) (fun _ => rfl) ?_
        refine AR.callV [vI s, vI x] (ev_X7_lineFrom (by omega) hm hr hw s x (by omega) (by omega)) hm.1 rfl rfl rfl rfl rfl ?_
        show AR E d _ (51, [some (vA m), some (vI s), some (vI x), some (vI (m_ahead s x (m_std P s x + 1)))], [vI (m_std P s x)], (C, N)) _
        have f8 := m_std_in P s x (by omega)
        refine AR.blk 2 (f' := (53, [some (vA m), some (vI s), some (vI x), some (vI (m_ahead s x (m_std P s x + 1)))], [vI s, vA m, vI (m_std P s x)], (C, N))) (fun _ => rfl) ?_
        refine AR.callV [vI s] (ev_X7_kindAt (by omega) hm hr hw s (by omega) (by omega)) hm.1 rfl rfl rfl rfl rfl ?_
        show AR E d _ (56, [some (vA m), some (vI s), some (vI x), some (vI (m_ahead s x (m_std P s x + 1)))], [vI (m_tug (P s)), vI (m_std P s x)], (C, N)) _
        have f9 := m_tug_in (P s)
        refine AR.blk 2 (f' := (58, [some (vA m), some (vI s), some (vI x), some (vI (m_ahead s x (m_std P s x + 1)))], [vI ((m_tug (P s)) + 1), vI (m_std P s x)], (C, N))) (fun _ => rfl) ?_
        refine AR.ic_le rfl (by omega) (fun c10 => ?_) (fun c10 => ?_)
        · show AR E d _ (66, [some (vA m), some (vI s), some (vI x), some (vI (m_ahead s x (m_std P s x + 1)))], [], (C, N)) _
          refine AR.blk 1 (f' := (67, [some (vA m), some (vI s), some (vI x), some (vI (m_ahead s x (m_std P s x + 1)))], [vI 0], (C, N))) (fun _ => rfl) ?_
          exact AR.retI rfl (by unfold m_cause; have z5 := m_la_in n q (-1) hw.2.2.1.1; first | omega | (rw [show m_ahead s x (m_std P s x + 1) = -1 by omega, m_cl_off hw]; omega)) ⟨rfl, .inl rfl⟩ rfl
        · show AR E d _ (61, [some (vA m), some (vI s), some (vI x), some (vI (m_ahead s x (m_std P s x + 1)))], [], (C, N)) _
          refine AR.blk 2 (f' := (67, [some (vA m), some (vI s), some (vI x), some (vI (m_ahead s x (m_std P s x + 1)))], [vI 13], (C, N))) (fun _ => rfl) ?_
          exact AR.retI rfl (by unfold m_cause; have z5 := m_la_in n q (-1) hw.2.2.1.1; first | omega | (rw [show m_ahead s x (m_std P s x + 1) = -1 by omega, m_cl_off hw]; omega)) ⟨rfl, .inl rfl⟩ rfl
      · show AR E d _ (34, [some (vA m), some (vI s), some (vI x), some (vI (m_ahead s x (m_std P s x + 1)))], [], (C, N)) _
        refine AR.blk 2 (f' := (36, [some (vA m), some (vI s), some (vI x), some (vI (m_ahead s x (m_std P s x + 1)))], [vI (m_ahead s x (m_std P s x + 1)), vA m], (C, N))) (fun _ => rfl) ?_
        refine AR.callV [vI (m_ahead s x (m_std P s x + 1))] (ev_X7_isClosed (by omega) hm hr hw (m_ahead s x (m_std P s x + 1)) (by omega)) hm.1 rfl rfl rfl rfl rfl ?_
        show AR E d _ (39, [some (vA m), some (vI s), some (vI x), some (vI (m_ahead s x (m_std P s x + 1)))], [vI (m_cl n q cl (m_ahead s x (m_std P s x + 1)))], (C, N)) _
        have f11 := m_cl_in n q cl (m_ahead s x (m_std P s x + 1)) (fun k => (hw.2.2.2.2.1 k).1)
        refine AR.if_eq rfl (by omega) (fun c12 => ?_) (fun c12 => ?_)
        · show AR E d _ (45, [some (vA m), some (vI s), some (vI x), some (vI (m_ahead s x (m_std P s x + 1)))], [], (C, N)) _
          refine AR.blk 3 (f' := (48, [some (vA m), some (vI s), some (vI x), some (vI (m_ahead s x (m_std P s x + 1)))], [vI x, vI s, vA m], (C, N))) (fun _ => rfl) ?_
          refine AR.callV [vI s, vI x] (ev_X7_lineFrom (by omega) hm hr hw s x (by omega) (by omega)) hm.1 rfl rfl rfl rfl rfl ?_
          show AR E d _ (51, [some (vA m), some (vI s), some (vI x), some (vI (m_ahead s x (m_std P s x + 1)))], [vI (m_std P s x)], (C, N)) _
          have f13 := m_std_in P s x (by omega)
          refine AR.blk 2 (f' := (53, [some (vA m), some (vI s), some (vI x), some (vI (m_ahead s x (m_std P s x + 1)))], [vI s, vA m, vI (m_std P s x)], (C, N))) (fun _ => rfl) ?_
          refine AR.callV [vI s] (ev_X7_kindAt (by omega) hm hr hw s (by omega) (by omega)) hm.1 rfl rfl rfl rfl rfl ?_
          show AR E d _ (56, [some (vA m), some (vI s), some (vI x), some (vI (m_ahead s x (m_std P s x + 1)))], [vI (m_tug (P s)), vI (m_std P s x)], (C, N)) _
          have f14 := m_tug_in (P s)
          refine AR.blk 2 (f' := (58, [some (vA m), some (vI s), some (vI x), some (vI (m_ahead s x (m_std P s x + 1)))], [vI ((m_tug (P s)) + 1), vI (m_std P s x)], (C, N))) (fun _ => rfl) ?_
          refine AR.ic_le rfl (by omega) (fun c15 => ?_) (fun c15 => ?_)
          · show AR E d _ (66, [some (vA m), some (vI s), some (vI x), some (vI (m_ahead s x (m_std P s x + 1)))], [], (C, N)) _
            refine AR.blk 1 (f' := (67, [some (vA m), some (vI s), some (vI x), some (vI (m_ahead s x (m_std P s x + 1)))], [vI 0], (C, N))) (fun _ => rfl) ?_
            exact AR.retI rfl (by unfold m_cause; have z5 := m_la_in n q (-1) hw.2.2.1.1; first | omega | (rw [show m_ahead s x (m_std P s x + 1) = -1 by omega, m_cl_off hw]; omega)) ⟨rfl, .inl rfl⟩ rfl
          · show AR E d _ (61, [some (vA m), some (vI s), some (vI x), some (vI (m_ahead s x (m_std P s x + 1)))], [], (C, N)) _
            refine AR.blk 2 (f' := (67, [some (vA m), some (vI s), some (vI x), some (vI (m_ahead s x (m_std P s x + 1)))], [vI 13], (C, N))) (fun _ => rfl) ?_
            exact AR.retI rfl (by unfold m_cause; have z5 := m_la_in n q (-1) hw.2.2.1.1; first | omega | (rw [show m_ahead s x (m_std P s x + 1) = -1 by omega, m_cl_off hw]; omega)) ⟨rfl, .inl rfl⟩ rfl
        · show AR E d _ (42, [some (vA m), some (vI s), some (vI x), some (vI (m_ahead s x (m_std P s x + 1)))], [], (C, N)) _
          refine AR.blk 1 (f' := (44, [some (vA m), some (vI s), some (vI x), some (vI (m_ahead s x (m_std P s x + 1)))], [vI 12], (C, N))) (fun _ => rfl) ?_
          exact AR.retI rfl (by unfold m_cause; have z5 := m_la_in n q (-1) hw.2.2.1.1; first | omega | (rw [show m_ahead s x (m_std P s x + 1) = -1 by omega, m_cl_off hw]; omega)) ⟨rfl, .inl rfl⟩ rfl
    · show AR E d _ (20, [some (vA m), some (vI s), some (vI x), none], [], (C, N)) _
      refine AR.blk 1 (f' := (22, [some (vA m), some (vI s), some (vI x), none], [vI 11], (C, N))) (fun _ => rfl) ?_
      exact AR.retI rfl (by unfold m_cause; have z5 := m_la_in n q (-1) hw.2.2.1.1; first | omega | (rw [show m_ahead s x (m_std P s x + 1) = -1 by omega, m_cl_off hw]; omega)) ⟨rfl, .inl rfl⟩ rfl
  · show AR E d _ (9, [some (vA m), some (vI s), some (vI x), none], [], (C, N)) _
    refine AR.blk 1 (f' := (11, [some (vA m), some (vI s), some (vI x), none], [vI 10], (C, N))) (fun _ => rfl) ?_
    exact AR.retI rfl (by unfold m_cause; have z5 := m_la_in n q (-1) hw.2.2.1.1; first | omega | (rw [show m_ahead s x (m_std P s x + 1) = -1 by omega, m_cl_off hw]; omega)) ⟨rfl, .inl rfl⟩ rfl

theorem ev_X7_againstDetail {d : Nat} (hd : 5 ≤ d) (hm : g_isM C m) (hr : g_rR (N (m + 1)) P n q p cl tn) (hw : g_wB P n q p cl tn) (s x : Int) (h0 : 0 ≤ s ∧ s < 36) (h1 : 0 ≤ x ∧ x < 4) (h2 : P s ≠ -1) : Ev E d 128 [vA m, vI s, vI x] (C, N) (some (vI (m_causeD P (m_cause P n q cl s x) s x)), (C, N)) := by
  obtain ⟨d, rfl⟩ : ∃ j, d = j + 1 := ⟨d - 1, by omega⟩
  refine Ev.intro (M := ag_mX7_againstDetail) rfl rfl ?_
  show AR E d _ (0, [some (vA m), some (vI s), some (vI x)], [], (C, N)) _
  refine AR.blk 3 (f' := (3, [some (vA m), some (vI s), some (vI x)], [vI x, vI s, vA m], (C, N))) (fun _ => rfl) ?_
  refine AR.callV [vI s, vI x] (ev_X7_against (by omega) hm hr hw s x (by omega) (by omega) (by omega)) hm.1 rfl rfl rfl rfl rfl ?_
  show AR E d _ (6, [some (vA m), some (vI s), some (vI x)], [vI (m_cause P n q cl s x)], (C, N)) _
  have f1 := m_cause_in P n q cl s x
  have hsw6 : ag_in (m_cause P n q cl s x) := (by omega)
  by_cases e2 : m_cause P n q cl s x = 10
  · refine AR.tswA 0 rfl hsw6 e2 rfl (by omega) ?_
    show AR E d _ (32, [some (vA m), some (vI s), some (vI x)], [], (C, N)) _
    refine AR.blk 2 (f' := (34, [some (vA m), some (vI s), some (vI x)], [vI s, vA m], (C, N))) (fun _ => rfl) ?_
    refine AR.callV [vI s] (ev_X7_kindAt (by omega) hm hr hw s (by omega) (by omega)) hm.1 rfl rfl rfl rfl rfl ?_
    show AR E d _ (37, [some (vA m), some (vI s), some (vI x)], [vI (m_tug (P s))], (C, N)) _
    have f3 := m_tug_in (P s)
    exact AR.retI rfl (by unfold m_causeD; omega) ⟨rfl, .inl rfl⟩ rfl
  by_cases e4 : m_cause P n q cl s x = 11
  · refine AR.tswA 1 rfl hsw6 e4 rfl (by omega) ?_
    show AR E d _ (38, [some (vA m), some (vI s), some (vI x)], [], (C, N)) _
    refine AR.blk 1 (f' := (39, [some (vA m), some (vI s), some (vI x)], [vI s], (C, N))) (fun _ => rfl) ?_
    exact AR.retI rfl (by unfold m_causeD; omega) ⟨rfl, .inl rfl⟩ rfl
  by_cases e5 : m_cause P n q cl s x = 12
  · refine AR.tswA 2 rfl hsw6 e5 rfl (by omega) ?_
    show AR E d _ (40, [some (vA m), some (vI s), some (vI x)], [], (C, N)) _
    refine AR.blk 3 (f' := (43, [some (vA m), some (vI s), some (vI x)], [vI x, vI s, vA m], (C, N))) (fun _ => rfl) ?_
    refine AR.callV [vI s, vI x] (ev_X7_endOf (by omega) hm hr hw s x (by omega) (by omega)) hm.1 rfl rfl rfl rfl rfl ?_
    show AR E d _ (46, [some (vA m), some (vI s), some (vI x)], [vI (m_ahead s x (m_std P s x + 1))], (C, N)) _
    have f6 := m_ah s x (m_std P s x + 1) (by omega) (by omega) (by have := m_std_in P s x (by omega); omega)
    exact AR.retI rfl (by unfold m_causeD; omega) ⟨rfl, .inl rfl⟩ rfl
  refine AR.tswD rfl hsw6 (by omega) ?_
  show AR E d _ (47, [some (vA m), some (vI s), some (vI x)], [], (C, N)) _
  refine AR.blk 3 (f' := (50, [some (vA m), some (vI s), some (vI x)], [vI x, vI s, vA m], (C, N))) (fun _ => rfl) ?_
  refine AR.callV [vI s, vI x] (ev_X7_lineFrom (by omega) hm hr hw s x (by omega) (by omega)) hm.1 rfl rfl rfl rfl rfl ?_
  show AR E d _ (53, [some (vA m), some (vI s), some (vI x)], [vI (m_std P s x)], (C, N)) _
  have f7 := m_std_in P s x (by omega)
  exact AR.retI rfl (by unfold m_causeD; omega) ⟨rfl, .inl rfl⟩ rfl

theorem ev_X7_goesOn {d : Nat} (hd : 1 ≤ d) (hm : g_isM C m) (hr : g_rR (N (m + 1)) P n q p cl tn) (hw : g_wB P n q p cl tn) (hs : g_rS (N (m + 1)) t bg en ca gn pu mk) (hv : g_wS t bg en ca gn pu mk) : Ev E d 143 [vA m] (C, N) (some (vI (m_on bg en)), (C, N)) := by
  obtain ⟨d, rfl⟩ : ∃ j, d = j + 1 := ⟨d - 1, by omega⟩
  refine Ev.intro (M := ag_mX7_goesOn) rfl rfl ?_
  show AR E d _ (0, [some (vA m)], [], (C, N)) _
  refine AR.blk 1 (f' := (1, [some (vA m)], [vA m], (C, N))) (fun _ => rfl) ?_
  refine AR.getR rfl rfl hm.1 (by decide) rfl ?_
  refine AR.blk 1 (f' := (5, [some (vA m)], [vI 3, vA (m + 1)], (C, N))) (fun _ => rfl) ?_
  have f1 := hv.1
  have f2 := hv.2.1
  have f3 := hv.2.2.1
  have f4 := hv.2.2.2.1
  refine AR.iald rfl hm.2.1 (by omega) (v := bg) hs.2.2.2.1 ?_
  refine AR.blk 1 (f' := (7, [some (vA m)], [vI 1, vI bg], (C, N))) (fun _ => rfl) ?_
  refine AR.ic_ne rfl (by omega) (fun c5 => ?_) (fun c5 => ?_)
  · show AR E d _ (23, [some (vA m)], [], (C, N)) _
    refine AR.blk 1 (f' := (24, [some (vA m)], [vI 0], (C, N))) (fun _ => rfl) ?_
    exact AR.retI rfl (by unfold m_on; omega) (by decide) rfl
  · show AR E d _ (10, [some (vA m)], [], (C, N)) _
    refine AR.blk 1 (f' := (11, [some (vA m)], [vA m], (C, N))) (fun _ => rfl) ?_
    refine AR.getR rfl rfl hm.1 (by decide) rfl ?_
    refine AR.blk 1 (f' := (15, [some (vA m)], [vI 4, vA (m + 1)], (C, N))) (fun _ => rfl) ?_
    have f6 := hv.1
    have f7 := hv.2.1
    have f8 := hv.2.2.1
    have f9 := hv.2.2.2.1
    refine AR.iald rfl hm.2.1 (by omega) (v := en) hs.2.2.2.2.1 ?_
    refine AR.if_ne rfl (by omega) (fun c10 => ?_) (fun c10 => ?_)
    · show AR E d _ (23, [some (vA m)], [], (C, N)) _
      refine AR.blk 1 (f' := (24, [some (vA m)], [vI 0], (C, N))) (fun _ => rfl) ?_
      exact AR.retI rfl (by unfold m_on; omega) (by decide) rfl
    · show AR E d _ (19, [some (vA m)], [], (C, N)) _
      refine AR.blk 2 (f' := (24, [some (vA m)], [vI 1], (C, N))) (fun _ => rfl) ?_
      exact AR.retI rfl (by unfold m_on; omega) (by decide) rfl

theorem ev_X7_isMove {d : Nat} (hd : 5 ≤ d) (hm : g_isM C m) (hr : g_rR (N (m + 1)) P n q p cl tn) (hw : g_wB P n q p cl tn) (hs : g_rS (N (m + 1)) t bg en ca gn pu mk) (hv : g_wS t bg en ca gn pu mk) (s x : Int) (h0 : 0 ≤ s ∧ s < 36) (h1 : 0 ≤ x ∧ x < 4) : Ev E d 144 [vA m, vI s, vI x] (C, N) (some (vI (m_open P n q cl t bg en (4 * s + x))), (C, N)) := by
  obtain ⟨d, rfl⟩ : ∃ j, d = j + 1 := ⟨d - 1, by omega⟩
  refine Ev.intro (M := ag_mX7_isMove) rfl rfl ?_
  show AR E d _ (0, [some (vA m), some (vI s), some (vI x)], [], (C, N)) _
  refine AR.blk 1 (f' := (1, [some (vA m), some (vI s), some (vI x)], [vA m], (C, N))) (fun _ => rfl) ?_
  refine AR.callV [] (ev_X7_goesOn (by omega) hm hr hw hs hv  ) hm.1 rfl rfl rfl rfl rfl ?_
  show AR E d _ (4, [some (vA m), some (vI s), some (vI x)], [vI (m_on bg en)], (C, N)) _
  have f1 := m_on_in bg en
  refine AR.if_eq rfl (by omega) (fun c2 => ?_) (fun c2 => ?_)
  · show AR E d _ (34, [some (vA m), some (vI s), some (vI x)], [], (C, N)) _
    refine AR.blk 1 (f' := (35, [some (vA m), some (vI s), some (vI x)], [vI 0], (C, N))) (fun _ => rfl) ?_
    exact AR.retI rfl (by unfold m_open; rw [show (4 * s + x) / 4 = s by omega, show (4 * s + x) % 4 = x by omega]; omega) (by decide) rfl
  · show AR E d _ (7, [some (vA m), some (vI s), some (vI x)], [], (C, N)) _
    refine AR.blk 2 (f' := (9, [some (vA m), some (vI s), some (vI x)], [vI s, vA m], (C, N))) (fun _ => rfl) ?_
    refine AR.callV [vI s] (ev_X7_sideAt (by omega) hm hr hw s (by omega)) hm.1 rfl rfl rfl rfl rfl ?_
    show AR E d _ (12, [some (vA m), some (vI s), some (vI x)], [vI (m_own (P s))], (C, N)) _
    have f3 := m_own_in (P s) (hw.1 s)
    have f4 := hw.1 s
    refine AR.blk 1 (f' := (13, [some (vA m), some (vI s), some (vI x)], [vA m, vI (m_own (P s))], (C, N))) (fun _ => rfl) ?_
    refine AR.getR rfl rfl hm.1 (by decide) rfl ?_
    refine AR.blk 1 (f' := (17, [some (vA m), some (vI s), some (vI x)], [vI 1, vA (m + 1), vI (m_own (P s))], (C, N))) (fun _ => rfl) ?_
    have f5 := hv.1
    have f6 := hv.2.1
    have f7 := hv.2.2.1
    have f8 := hv.2.2.2.1
    refine AR.iald rfl hm.2.1 (by omega) (v := t % 2) hs.2.1 ?_
    refine AR.ic_ne rfl (by omega) (fun c9 => ?_) (fun c9 => ?_)
    · show AR E d _ (34, [some (vA m), some (vI s), some (vI x)], [], (C, N)) _
      refine AR.blk 1 (f' := (35, [some (vA m), some (vI s), some (vI x)], [vI 0], (C, N))) (fun _ => rfl) ?_
      exact AR.retI rfl (by unfold m_open; rw [show (4 * s + x) / 4 = s by omega, show (4 * s + x) % 4 = x by omega]; omega) (by decide) rfl
    · show AR E d _ (21, [some (vA m), some (vI s), some (vI x)], [], (C, N)) _
      refine AR.blk 3 (f' := (24, [some (vA m), some (vI s), some (vI x)], [vI x, vI s, vA m], (C, N))) (fun _ => rfl) ?_
      refine AR.callV [vI s, vI x] (ev_X7_against (by omega) hm hr hw s x (by omega) (by omega) (by omega)) hm.1 rfl rfl rfl rfl rfl ?_
      show AR E d _ (27, [some (vA m), some (vI s), some (vI x)], [vI (m_cause P n q cl s x)], (C, N)) _
      have f10 := m_cause_in P n q cl s x
      refine AR.if_ne rfl (by omega) (fun c11 => ?_) (fun c11 => ?_)
      · show AR E d _ (34, [some (vA m), some (vI s), some (vI x)], [], (C, N)) _
        refine AR.blk 1 (f' := (35, [some (vA m), some (vI s), some (vI x)], [vI 0], (C, N))) (fun _ => rfl) ?_
        exact AR.retI rfl (by unfold m_open; rw [show (4 * s + x) / 4 = s by omega, show (4 * s + x) % 4 = x by omega]; omega) (by decide) rfl
      · show AR E d _ (30, [some (vA m), some (vI s), some (vI x)], [], (C, N)) _
        refine AR.blk 2 (f' := (35, [some (vA m), some (vI s), some (vI x)], [vI 1], (C, N))) (fun _ => rfl) ?_
        exact AR.retI rfl (by unfold m_open; rw [show (4 * s + x) / 4 = s by omega, show (4 * s + x) % 4 = x by omega]; omega) (by decide) rfl

theorem ev_X7_moves {d : Nat} (hd : 6 ≤ d) (hm : g_isM C m) (hr : g_rR (N (m + 1)) P n q p cl tn) (hw : g_wB P n q p cl tn) (hs : g_rS (N (m + 1)) t bg en ca gn pu mk) (hv : g_wS t bg en ca gn pu mk) : Ev E d 145 [vA m] (C, N) (some (vI (m_mvs P n q cl t bg en)), (C, N)) := by
  obtain ⟨d, rfl⟩ : ∃ j, d = j + 1 := ⟨d - 1, by omega⟩
  refine Ev.intro (M := ag_mX7_moves) rfl rfl ?_
  show AR E d _ (0, [some (vA m), none, none], [], (C, N)) _
  refine AR.blk 4 (f' := (4, [some (vA m), some (vI 0), some (vI 0)], [], (C, N))) (fun _ => rfl) ?_
  suffices H4 : ∀ (j : Nat) (c : Int) (k : Int), (144 - k).toNat < j → (0 ≤ k ∧ k ≤ 144 ∧ 0 ≤ c ∧ c ≤ k) → (c = m_sum (m_open P n q cl t bg en) k.toNat) → AR E d ag_mX7_moves (4, [some (vA m), some (vI c), some (vI k)], [], (C, N)) (fun o_ => o_ = (some (vI (m_mvs P n q cl t bg en)), (C, N))) by
    exact H4 _ _ _ (Nat.lt_succ_self _) (by omega) rfl
  intro j
  induction j with
  | zero => intro c k hj; exact absurd hj (Nat.not_lt_zero _)
  | succ j ih4 =>
    intro c k hj4 i0 i1
    have z6 : 4 * (k / 4) + k % 4 = k := by omega
    refine AR.blk 2 (f' := (8, [some (vA m), some (vI c), some (vI k)], [vI 144, vI k], (C, N))) (fun _ => rfl) ?_
    refine AR.ic_ge rfl (by omega) (fun c1 => ?_) (fun c1 => ?_)
    · show AR E d _ (38, [some (vA m), some (vI c), some (vI k)], [], (C, N)) _
      refine AR.blk 1 (f' := (39, [some (vA m), some (vI c), some (vI k)], [vI c], (C, N))) (fun _ => rfl) ?_
      exact AR.retI rfl (by rw [i1, show k = 144 by omega]; rfl) ⟨rfl, .inl rfl⟩ rfl
    · show AR E d _ (11, [some (vA m), some (vI c), some (vI k)], [], (C, N)) _
      refine AR.blk 4 (f' := (15, [some (vA m), some (vI c), some (vI k)], [vI 4, vI k, vA m, vI c], (C, N))) (fun _ => rfl) ?_
      refine AR.idiv rfl (by omega) ?_
      refine AR.blk 2 (f' := (18, [some (vA m), some (vI c), some (vI k)], [vI 4, vI k, vI (k / 4), vA m, vI c], (C, N))) (fun _ => rfl) ?_
      refine AR.irem rfl (by omega) ?_
      refine AR.callV [vI (k / 4), vI (k % 4)] (ev_X7_isMove (by omega) hm hr hw hs hv (k / 4) (k % 4) (by omega) (by omega)) hm.1 rfl rfl rfl rfl rfl ?_
      show AR E d _ (22, [some (vA m), some (vI c), some (vI k)], [vI (m_open P n q cl t bg en (4 * (k / 4) + (k % 4))), vI c], (C, N)) _
      have f2 := m_open_in P n q cl t bg en (4 * (k / 4) + (k % 4))
      refine AR.if_eq rfl (by omega) (fun c3 => ?_) (fun c3 => ?_)
      · show AR E d _ (29, [some (vA m), some (vI c), some (vI k)], [vI c], (C, N)) _
        refine AR.blk 5 (f' := (4, [some (vA m), some (vI (c + 0)), some (vI (k + 1))], [], (C, N))) (fun _ => rfl) ?_
        exact ih4 _ _ (by omega) (by omega) (by rw [m_sum_succ _ (by omega), ← i1]; rw [z6] at *; omega)
      · show AR E d _ (25, [some (vA m), some (vI c), some (vI k)], [vI c], (C, N)) _
        refine AR.blk 6 (f' := (4, [some (vA m), some (vI (c + 1)), some (vI (k + 1))], [], (C, N))) (fun _ => rfl) ?_
        exact ih4 _ _ (by omega) (by omega) (by rw [m_sum_succ _ (by omega), ← i1]; rw [z6] at *; omega)

theorem ev_X7_wouldPush {d : Nat} (hd : 5 ≤ d) (hm : g_isM C m) (hr : g_rR (N (m + 1)) P n q p cl tn) (hw : g_wB P n q p cl tn) (s x : Int) (h0 : ag_in s) (h1 : ag_in x) : Ev E d 150 [vA m, vI s, vI x] (C, N) (some (vI (m_wp P n q cl s x)), (C, N)) := by
  obtain ⟨d, rfl⟩ : ∃ j, d = j + 1 := ⟨d - 1, by omega⟩
  refine Ev.intro (M := ag_mX7_wouldPush) rfl rfl ?_
  show AR E d _ (0, [some (vA m), some (vI s), some (vI x)], [], (C, N)) _
  refine AR.blk 1 (f' := (1, [some (vA m), some (vI s), some (vI x)], [vI s], (C, N))) (fun _ => rfl) ?_
  refine AR.callS [vI s] (ev_X7_isSquare (by omega) s (by omega)) rfl rfl rfl rfl rfl ?_
  show AR E d _ (4, [some (vA m), some (vI s), some (vI x)], [vI (if 0 ≤ s ∧ s ≤ 35 then 1 else 0)], (C, N)) _
  refine AR.if_ne rfl (by omega) (fun c1 => ?_) (fun c1 => ?_)
  · show AR E d _ (9, [some (vA m), some (vI s), some (vI x)], [], (C, N)) _
    refine AR.blk 3 (f' := (12, [some (vA m), some (vI s), some (vI x)], [vI 3, vI 0, vI x], (C, N))) (fun _ => rfl) ?_
    refine AR.callS [vI x, vI 0, vI 3] (ev_X7_in (by omega) x 0 3 (by omega)) rfl rfl rfl rfl rfl ?_
    show AR E d _ (15, [some (vA m), some (vI s), some (vI x)], [vI (if 0 ≤ x ∧ x ≤ 3 then 1 else 0)], (C, N)) _
    refine AR.if_ne rfl (by omega) (fun c2 => ?_) (fun c2 => ?_)
    · show AR E d _ (21, [some (vA m), some (vI s), some (vI x)], [], (C, N)) _
      refine AR.blk 2 (f' := (23, [some (vA m), some (vI s), some (vI x)], [vI s, vA m], (C, N))) (fun _ => rfl) ?_
      refine AR.callV [vI s] (ev_X7_pieceAt (by omega) hm hr hw s (by omega)) hm.1 rfl rfl rfl rfl rfl ?_
      show AR E d _ (26, [some (vA m), some (vI s), some (vI x)], [vI (P s + 1)], (C, N)) _
      have f3 := hw.1 s
      refine AR.if_eq rfl (by omega) (fun c4 => ?_) (fun c4 => ?_)
      · show AR E d _ (38, [some (vA m), some (vI s), some (vI x)], [], (C, N)) _
        refine AR.blk 2 (f' := (49, [some (vA m), some (vI s), some (vI x)], [vI (-4)], (C, N))) (fun _ => rfl) ?_
        exact AR.retI rfl (by unfold m_wp; omega) ⟨rfl, .inl rfl⟩ rfl
      · show AR E d _ (29, [some (vA m), some (vI s), some (vI x)], [], (C, N)) _
        refine AR.blk 3 (f' := (32, [some (vA m), some (vI s), some (vI x)], [vI x, vI s, vA m], (C, N))) (fun _ => rfl) ?_
        refine AR.callV [vI s, vI x] (ev_X7_against (by omega) hm hr hw s x (by omega) (by omega) (by omega)) hm.1 rfl rfl rfl rfl rfl ?_
        show AR E d _ (35, [some (vA m), some (vI s), some (vI x)], [vI (m_cause P n q cl s x)], (C, N)) _
        have f5 := m_cause_in P n q cl s x
        refine AR.if_le rfl (by omega) (fun c6 => ?_) (fun c6 => ?_)
        · show AR E d _ (43, [some (vA m), some (vI s), some (vI x)], [], (C, N)) _
          refine AR.blk 3 (f' := (46, [some (vA m), some (vI s), some (vI x)], [vI x, vI s, vA m], (C, N))) (fun _ => rfl) ?_
          refine AR.callV [vI s, vI x] (ev_X7_lineFrom (by omega) hm hr hw s x (by omega) (by omega)) hm.1 rfl rfl rfl rfl rfl ?_
          show AR E d _ (49, [some (vA m), some (vI s), some (vI x)], [vI (m_std P s x)], (C, N)) _
          have f7 := m_std_in P s x (by omega)
          exact AR.retI rfl (by unfold m_wp; omega) ⟨rfl, .inl rfl⟩ rfl
        · show AR E d _ (38, [some (vA m), some (vI s), some (vI x)], [], (C, N)) _
          refine AR.blk 2 (f' := (49, [some (vA m), some (vI s), some (vI x)], [vI (-4)], (C, N))) (fun _ => rfl) ?_
          exact AR.retI rfl (by unfold m_wp; omega) ⟨rfl, .inl rfl⟩ rfl
    · show AR E d _ (18, [some (vA m), some (vI s), some (vI x)], [], (C, N)) _
      refine AR.blk 1 (f' := (20, [some (vA m), some (vI s), some (vI x)], [vI (-2)], (C, N))) (fun _ => rfl) ?_
      exact AR.retI rfl (by unfold m_wp; omega) ⟨rfl, .inl rfl⟩ rfl
  · show AR E d _ (7, [some (vA m), some (vI s), some (vI x)], [], (C, N)) _
    refine AR.blk 1 (f' := (8, [some (vA m), some (vI s), some (vI x)], [vI (-1)], (C, N))) (fun _ => rfl) ?_
    exact AR.retI rfl (by unfold m_wp; omega) ⟨rfl, .inl rfl⟩ rfl

theorem ev_X7_isTake {d : Nat} (hd : 3 ≤ d) (hm : g_isM C m) (hr : g_rR (N (m + 1)) P n q p cl tn) (hw : g_wB P n q p cl tn) (hs : g_rS (N (m + 1)) t bg en ca gn pu mk) (hv : g_wS t bg en ca gn pu mk) (s x : Int) (h0 : 0 ≤ s ∧ s < 36) (h1 : 0 ≤ x ∧ x < 4) : Ev E d 151 [vA m, vI s, vI x] (C, N) (some (vI (m_take P t s x)), (C, N)) := by
  obtain ⟨d, rfl⟩ : ∃ j, d = j + 1 := ⟨d - 1, by omega⟩
  refine Ev.intro (M := ag_mX7_isTake) rfl rfl ?_
  show AR E d _ (0, [some (vA m), some (vI s), some (vI x), none, none, none], [], (C, N)) _
  refine AR.blk 3 (f' := (3, [some (vA m), some (vI s), some (vI x), none, none, none], [vI x, vI s, vA m], (C, N))) (fun _ => rfl) ?_
  refine AR.callV [vI s, vI x] (ev_X7_lineFrom (by omega) hm hr hw s x (by omega) (by omega)) hm.1 rfl rfl rfl rfl rfl ?_
  show AR E d _ (6, [some (vA m), some (vI s), some (vI x), none, none, none], [vI (m_std P s x)], (C, N)) _
  have f1 := m_std_in P s x (by omega)
  refine AR.blk 2 (f' := (8, [some (vA m), some (vI s), some (vI x), some (vI (m_std P s x)), none, none], [vI (m_std P s x)], (C, N))) (fun _ => rfl) ?_
  refine AR.if_eq rfl (by omega) (fun c2 => ?_) (fun c2 => ?_)
  · show AR E d _ (20, [some (vA m), some (vI s), some (vI x), some (vI (m_std P s x)), none, none], [], (C, N)) _
    refine AR.blk 1 (f' := (21, [some (vA m), some (vI s), some (vI x), some (vI (m_std P s x)), none, none], [vI 0], (C, N))) (fun _ => rfl) ?_
    exact AR.retI rfl (by unfold m_take; first | omega | (have e9 : a = m_ahead s x (m_std P s x) := (by rw [i1, show k = m_std P s x by omega]); rw [← e9]; omega)) (by decide) rfl
  · show AR E d _ (11, [some (vA m), some (vI s), some (vI x), some (vI (m_std P s x)), none, none], [], (C, N)) _
    refine AR.blk 3 (f' := (14, [some (vA m), some (vI s), some (vI x), some (vI (m_std P s x)), none, none], [vI x, vI s, vA m], (C, N))) (fun _ => rfl) ?_
    refine AR.callV [vI s, vI x] (ev_X7_endOf (by omega) hm hr hw s x (by omega) (by omega)) hm.1 rfl rfl rfl rfl rfl ?_
    show AR E d _ (17, [some (vA m), some (vI s), some (vI x), some (vI (m_std P s x)), none, none], [vI (m_ahead s x (m_std P s x + 1))], (C, N)) _
    have f3 := m_ah s x (m_std P s x + 1) (by omega) (by omega) (by have := m_std_in P s x (by omega); omega)
    refine AR.if_lt rfl (by omega) (fun c4 => ?_) (fun c4 => ?_)
    · show AR E d _ (22, [some (vA m), some (vI s), some (vI x), some (vI (m_std P s x)), none, none], [], (C, N)) _
      refine AR.blk 4 (f' := (28, [some (vA m), some (vI s), some (vI x), some (vI (m_std P s x)), some (vI s), some (vI 0)], [], (C, N))) (fun _ => rfl) ?_
      suffices H28 : ∀ (j : Nat) (a : Int) (k : Int), (m_std P s x - k).toNat < j → (0 ≤ k ∧ k ≤ m_std P s x) → (a = m_ahead s x k) → AR E d ag_mX7_isTake (28, [some (vA m), some (vI s), some (vI x), some (vI (m_std P s x)), some (vI a), some (vI k)], [], (C, N)) (fun o_ => o_ = (some (vI (m_take P t s x)), (C, N))) by
        exact H28 _ _ _ (Nat.lt_succ_self _) (by omega) (by unfold m_ahead; rw [if_pos (by have := m_room_in s x (by omega); omega)]; omega)
      intro j
      induction j with
      | zero => intro a k hj; exact absurd hj (Nat.not_lt_zero _)
      | succ j ih28 =>
        intro a k hj28 i0 i1
        have z6 := m_ah s x k (by omega) (by omega) (by omega)
        refine AR.blk 2 (f' := (31, [some (vA m), some (vI s), some (vI x), some (vI (m_std P s x)), some (vI a), some (vI k)], [vI (m_std P s x), vI k], (C, N))) (fun _ => rfl) ?_
        refine AR.ic_ge rfl (by omega) (fun c5 => ?_) (fun c5 => ?_)
        · show AR E d _ (48, [some (vA m), some (vI s), some (vI x), some (vI (m_std P s x)), some (vI a), some (vI k)], [], (C, N)) _
          refine AR.blk 2 (f' := (51, [some (vA m), some (vI s), some (vI x), some (vI (m_std P s x)), some (vI a), some (vI k)], [vI a, vA m], (C, N))) (fun _ => rfl) ?_
          refine AR.callV [vI a] (ev_X7_sideAt (by omega) hm hr hw a (by omega)) hm.1 rfl rfl rfl rfl rfl ?_
          show AR E d _ (54, [some (vA m), some (vI s), some (vI x), some (vI (m_std P s x)), some (vI a), some (vI k)], [vI (m_own (P a))], (C, N)) _
          have f6 := m_own_in (P a) (hw.1 a)
          have f7 := hw.1 a
          refine AR.blk 1 (f' := (55, [some (vA m), some (vI s), some (vI x), some (vI (m_std P s x)), some (vI a), some (vI k)], [vA m, vI (m_own (P a))], (C, N))) (fun _ => rfl) ?_
          refine AR.getR rfl rfl hm.1 (by decide) rfl ?_
          refine AR.blk 1 (f' := (59, [some (vA m), some (vI s), some (vI x), some (vI (m_std P s x)), some (vI a), some (vI k)], [vI 1, vA (m + 1), vI (m_own (P a))], (C, N))) (fun _ => rfl) ?_
          have f8 := hv.1
          have f9 := hv.2.1
          have f10 := hv.2.2.1
          have f11 := hv.2.2.2.1
          refine AR.iald rfl hm.2.1 (by omega) (v := t % 2) hs.2.1 ?_
          refine AR.ic_eq rfl (by omega) (fun c12 => ?_) (fun c12 => ?_)
          · show AR E d _ (67, [some (vA m), some (vI s), some (vI x), some (vI (m_std P s x)), some (vI a), some (vI k)], [], (C, N)) _
            refine AR.blk 1 (f' := (68, [some (vA m), some (vI s), some (vI x), some (vI (m_std P s x)), some (vI a), some (vI k)], [vI 0], (C, N))) (fun _ => rfl) ?_
            exact AR.retI rfl (by unfold m_take; first | omega | (have e9 : a = m_ahead s x (m_std P s x) := (by rw [i1, show k = m_std P s x by omega]); rw [← e9]; omega)) (by decide) rfl
          · show AR E d _ (63, [some (vA m), some (vI s), some (vI x), some (vI (m_std P s x)), some (vI a), some (vI k)], [], (C, N)) _
            refine AR.blk 2 (f' := (68, [some (vA m), some (vI s), some (vI x), some (vI (m_std P s x)), some (vI a), some (vI k)], [vI 1], (C, N))) (fun _ => rfl) ?_
            exact AR.retI rfl (by unfold m_take; first | omega | (have e9 : a = m_ahead s x (m_std P s x) := (by rw [i1, show k = m_std P s x by omega]); rw [← e9]; omega)) (by decide) rfl
        · show AR E d _ (34, [some (vA m), some (vI s), some (vI x), some (vI (m_std P s x)), some (vI a), some (vI k)], [], (C, N)) _
          refine AR.blk 2 (f' := (37, [some (vA m), some (vI s), some (vI x), some (vI (m_std P s x)), some (vI a), some (vI k)], [vI x, vI a], (C, N))) (fun _ => rfl) ?_
          refine AR.callS [vI a, vI x] (ev_X7_beside (by omega) a x (by omega) (by omega)) rfl rfl rfl rfl rfl ?_
          show AR E d _ (40, [some (vA m), some (vI s), some (vI x), some (vI (m_std P s x)), some (vI a), some (vI k)], [vI (m_ahead a x 1)], (C, N)) _
          have f13 := m_ah a x 1 (by omega) (by omega) (by omega)
          have f14 := m_room_in a x (by omega)
          refine AR.blk 3 (f' := (28, [some (vA m), some (vI s), some (vI x), some (vI (m_std P s x)), some (vI (m_ahead a x 1)), some (vI (k + 1))], [], (C, N))) (fun _ => rfl) ?_
          exact ih28 _ _ (by omega) (by omega) (by rw [i1]; exact m_ahS s x k (by omega) (by omega) (by omega) (by omega))
    · show AR E d _ (20, [some (vA m), some (vI s), some (vI x), some (vI (m_std P s x)), none, none], [], (C, N)) _
      refine AR.blk 1 (f' := (21, [some (vA m), some (vI s), some (vI x), some (vI (m_std P s x)), none, none], [vI 0], (C, N))) (fun _ => rfl) ?_
      exact AR.retI rfl (by unfold m_take; first | omega | (have e9 : a = m_ahead s x (m_std P s x) := (by rw [i1, show k = m_std P s x by omega]); rw [← e9]; omega)) (by decide) rfl

theorem ev_X7_lockOf {d : Nat} (hd : 2 ≤ d) (hm : g_isM C m) (hr : g_rR (N (m + 1)) P n q p cl tn) (hw : g_wB P n q p cl tn) (l w : Int) (h0 : ag_in l) (h1 : ag_in w) : Ev E d 141 [vA m, vI l, vI w] (C, N) (some (vI (m_lko n q p cl tn l w)), (C, N)) := by
  obtain ⟨d, rfl⟩ : ∃ j, d = j + 1 := ⟨d - 1, by omega⟩
  refine Ev.intro (M := ag_mX7_lockOf) rfl rfl ?_
  show AR E d _ (0, [some (vA m), some (vI l), some (vI w)], [], (C, N)) _
  refine AR.blk 3 (f' := (3, [some (vA m), some (vI l), some (vI w)], [vA m, vI 0, vI l], (C, N))) (fun _ => rfl) ?_
  refine AR.getR rfl rfl hm.1 (by decide) rfl ?_
  refine AR.blk 1 (f' := (8, [some (vA m), some (vI l), some (vI w)], [vI 14, vA (m + 1), vI 0, vI l], (C, N))) (fun _ => rfl) ?_
  have f1 := hw.2.2.1
  refine AR.iald rfl hm.2.1 (by omega) (v := n) hr.2.1 ?_
  refine AR.blk 2 (f' := (11, [some (vA m), some (vI l), some (vI w)], [vI (n - 1), vI 0, vI l], (C, N))) (fun _ => rfl) ?_
  refine AR.callS [vI l, vI 0, vI (n - 1)] (ev_X7_in (by omega) l 0 (n - 1) (by omega)) rfl rfl rfl rfl rfl ?_
  show AR E d _ (14, [some (vA m), some (vI l), some (vI w)], [vI (if 0 ≤ l ∧ l ≤ (n - 1) then 1 else 0)], (C, N)) _
  refine AR.if_ne rfl (by omega) (fun c2 => ?_) (fun c2 => ?_)
  · show AR E d _ (19, [some (vA m), some (vI l), some (vI w)], [], (C, N)) _
    refine AR.blk 3 (f' := (22, [some (vA m), some (vI l), some (vI w)], [vI 3, vI 0, vI w], (C, N))) (fun _ => rfl) ?_
    refine AR.callS [vI w, vI 0, vI 3] (ev_X7_in (by omega) w 0 3 (by omega)) rfl rfl rfl rfl rfl ?_
    show AR E d _ (25, [some (vA m), some (vI l), some (vI w)], [vI (if 0 ≤ w ∧ w ≤ 3 then 1 else 0)], (C, N)) _
    refine AR.if_eq rfl (by omega) (fun c3 => ?_) (fun c3 => ?_)
    · show AR E d _ (37, [some (vA m), some (vI l), some (vI w)], [], (C, N)) _
      refine AR.blk 1 (f' := (39, [some (vA m), some (vI l), some (vI w)], [vI (-2)], (C, N))) (fun _ => rfl) ?_
      exact AR.retI rfl (by unfold m_lko; omega) ⟨rfl, .inl rfl⟩ rfl
    · show AR E d _ (28, [some (vA m), some (vI l), some (vI w)], [], (C, N)) _
      refine AR.blk 3 (f' := (31, [some (vA m), some (vI l), some (vI w)], [vI w, vI l, vA m], (C, N))) (fun _ => rfl) ?_
      refine AR.callV [vI l, vI w] (ev_X7_ofLock (by omega) hm l w (by omega) (m_lk q p cl tn l w) (m_lk_of hr (by omega) (by omega) (by omega))) hm.1 rfl rfl rfl rfl rfl ?_
      show AR E d _ (34, [some (vA m), some (vI l), some (vI w)], [vI (m_lk q p cl tn l w)], (C, N)) _
      refine AR.blk 1 (f' := (39, [some (vA m), some (vI l), some (vI w)], [vI (m_lk q p cl tn l w)], (C, N))) (fun _ => rfl) ?_
      exact AR.retI rfl (by unfold m_lko; omega) ⟨rfl, .inl rfl⟩ rfl
  · show AR E d _ (17, [some (vA m), some (vI l), some (vI w)], [], (C, N)) _
    refine AR.blk 1 (f' := (18, [some (vA m), some (vI l), some (vI w)], [vI (-1)], (C, N))) (fun _ => rfl) ?_
    exact AR.retI rfl (by unfold m_lko; omega) ⟨rfl, .inl rfl⟩ rfl

theorem ev_X7_squareOf {d : Nat} (hd : 4 ≤ d) (hm : g_isM C m) (hr : g_rR (N (m + 1)) P n q p cl tn) (hw : g_wB P n q p cl tn) (s w : Int) (h0 : ag_in s) (h1 : ag_in w) : Ev E d 140 [vA m, vI s, vI w] (C, N) (some (vI (m_sq P n q cl s w)), (C, N)) := by
  obtain ⟨d, rfl⟩ : ∃ j, d = j + 1 := ⟨d - 1, by omega⟩
  refine Ev.intro (M := ag_mX7_squareOf) rfl rfl ?_
  show AR E d _ (0, [some (vA m), some (vI s), some (vI w)], [], (C, N)) _
  refine AR.blk 1 (f' := (1, [some (vA m), some (vI s), some (vI w)], [vI s], (C, N))) (fun _ => rfl) ?_
  refine AR.callS [vI s] (ev_X7_isSquare (by omega) s (by omega)) rfl rfl rfl rfl rfl ?_
  show AR E d _ (4, [some (vA m), some (vI s), some (vI w)], [vI (if 0 ≤ s ∧ s ≤ 35 then 1 else 0)], (C, N)) _
  refine AR.if_ne rfl (by omega) (fun c1 => ?_) (fun c1 => ?_)
  · show AR E d _ (9, [some (vA m), some (vI s), some (vI w)], [], (C, N)) _
    refine AR.blk 1 (f' := (10, [some (vA m), some (vI s), some (vI w)], [vI w], (C, N))) (fun _ => rfl) ?_
    have hsw10 : ag_in w := (by omega)
    by_cases e2 : w = 0
    · refine AR.tswA 0 rfl hsw10 e2 rfl (by omega) ?_
      show AR E d _ (36, [some (vA m), some (vI s), some (vI w)], [], (C, N)) _
      refine AR.blk 2 (f' := (38, [some (vA m), some (vI s), some (vI w)], [vI s, vA m], (C, N))) (fun _ => rfl) ?_
      refine AR.callV [vI s] (ev_X7_pieceAt (by omega) hm hr hw s (by omega)) hm.1 rfl rfl rfl rfl rfl ?_
      show AR E d _ (41, [some (vA m), some (vI s), some (vI w)], [vI (P s + 1)], (C, N)) _
      have f3 := hw.1 s
      refine AR.if_ne rfl (by omega) (fun c4 => ?_) (fun c4 => ?_)
      · show AR E d _ (49, [some (vA m), some (vI s), some (vI w)], [], (C, N)) _
        refine AR.blk 2 (f' := (51, [some (vA m), some (vI s), some (vI w)], [vI s, vA m], (C, N))) (fun _ => rfl) ?_
        refine AR.callV [vI s] (ev_X7_pieceAt (by omega) hm hr hw s (by omega)) hm.1 rfl rfl rfl rfl rfl ?_
        show AR E d _ (54, [some (vA m), some (vI s), some (vI w)], [vI (P s + 1)], (C, N)) _
        have f5 := hw.1 s
        refine AR.blk 2 (f' := (56, [some (vA m), some (vI s), some (vI w)], [vI ((P s + 1) - 1)], (C, N))) (fun _ => rfl) ?_
        exact AR.retI rfl (by unfold m_sq; omega) ⟨rfl, .inl rfl⟩ rfl
      · show AR E d _ (44, [some (vA m), some (vI s), some (vI w)], [], (C, N)) _
        refine AR.blk 2 (f' := (56, [some (vA m), some (vI s), some (vI w)], [vI (-4)], (C, N))) (fun _ => rfl) ?_
        exact AR.retI rfl (by unfold m_sq; omega) ⟨rfl, .inl rfl⟩ rfl
    by_cases e6 : w = 1
    · refine AR.tswA 1 rfl hsw10 e6 rfl (by omega) ?_
      show AR E d _ (57, [some (vA m), some (vI s), some (vI w)], [], (C, N)) _
      refine AR.blk 2 (f' := (59, [some (vA m), some (vI s), some (vI w)], [vI s, vA m], (C, N))) (fun _ => rfl) ?_
      refine AR.callV [vI s] (ev_X7_lockAt (by omega) hm hr hw s (by omega)) hm.1 rfl rfl rfl rfl rfl ?_
      show AR E d _ (62, [some (vA m), some (vI s), some (vI w)], [vI (m_la n q s)], (C, N)) _
      have f7 := m_la_in n q s hw.2.2.1.1
      refine AR.if_ge rfl (by omega) (fun c8 => ?_) (fun c8 => ?_)
      · show AR E d _ (70, [some (vA m), some (vI s), some (vI w)], [], (C, N)) _
        refine AR.blk 2 (f' := (72, [some (vA m), some (vI s), some (vI w)], [vI s, vA m], (C, N))) (fun _ => rfl) ?_
        refine AR.callV [vI s] (ev_X7_lockAt (by omega) hm hr hw s (by omega)) hm.1 rfl rfl rfl rfl rfl ?_
        show AR E d _ (75, [some (vA m), some (vI s), some (vI w)], [vI (m_la n q s)], (C, N)) _
        have f9 := m_la_in n q s hw.2.2.1.1
        exact AR.retI rfl (by unfold m_sq; omega) ⟨rfl, .inl rfl⟩ rfl
      · show AR E d _ (65, [some (vA m), some (vI s), some (vI w)], [], (C, N)) _
        refine AR.blk 2 (f' := (75, [some (vA m), some (vI s), some (vI w)], [vI (-4)], (C, N))) (fun _ => rfl) ?_
        exact AR.retI rfl (by unfold m_sq; omega) ⟨rfl, .inl rfl⟩ rfl
    by_cases e10 : w = 2
    · refine AR.tswA 2 rfl hsw10 e10 rfl (by omega) ?_
      show AR E d _ (76, [some (vA m), some (vI s), some (vI w)], [], (C, N)) _
      refine AR.blk 2 (f' := (78, [some (vA m), some (vI s), some (vI w)], [vI s, vA m], (C, N))) (fun _ => rfl) ?_
      refine AR.callV [vI s] (ev_X7_isClosed (by omega) hm hr hw s (by omega)) hm.1 rfl rfl rfl rfl rfl ?_
      show AR E d _ (81, [some (vA m), some (vI s), some (vI w)], [vI (m_cl n q cl s)], (C, N)) _
      have f11 := m_cl_in n q cl s (fun k => (hw.2.2.2.2.1 k).1)
      refine AR.if_eq rfl (by omega) (fun c12 => ?_) (fun c12 => ?_)
      · show AR E d _ (88, [some (vA m), some (vI s), some (vI w)], [], (C, N)) _
        refine AR.blk 1 (f' := (89, [some (vA m), some (vI s), some (vI w)], [vI 0], (C, N))) (fun _ => rfl) ?_
        exact AR.retI rfl (by unfold m_sq; omega) ⟨rfl, .inl rfl⟩ rfl
      · show AR E d _ (84, [some (vA m), some (vI s), some (vI w)], [], (C, N)) _
        refine AR.blk 2 (f' := (89, [some (vA m), some (vI s), some (vI w)], [vI 1], (C, N))) (fun _ => rfl) ?_
        exact AR.retI rfl (by unfold m_sq; omega) ⟨rfl, .inl rfl⟩ rfl
    refine AR.tswD rfl hsw10 (by omega) ?_
    show AR E d _ (90, [some (vA m), some (vI s), some (vI w)], [], (C, N)) _
    refine AR.blk 1 (f' := (92, [some (vA m), some (vI s), some (vI w)], [vI (-2)], (C, N))) (fun _ => rfl) ?_
    exact AR.retI rfl (by unfold m_sq; omega) ⟨rfl, .inl rfl⟩ rfl
  · show AR E d _ (7, [some (vA m), some (vI s), some (vI w)], [], (C, N)) _
    refine AR.blk 1 (f' := (8, [some (vA m), some (vI s), some (vI w)], [vI (-1)], (C, N))) (fun _ => rfl) ?_
    exact AR.retI rfl (by unfold m_sq; omega) ⟨rfl, .inl rfl⟩ rfl

theorem ev_X7_sideOf {d : Nat} (hd : 4 ≤ d) (hm : g_isM C m) (hr : g_rR (N (m + 1)) P n q p cl tn) (hw : g_wB P n q p cl tn) (hs : g_rS (N (m + 1)) t bg en ca gn pu mk) (hv : g_wS t bg en ca gn pu mk) (w y : Int) (h0 : ag_in w) (h1 : ag_in y) : Ev E d 142 [vA m, vI w, vI y] (C, N) (some (vI (m_sd P gn pu mk w y)), (C, N)) := by
  obtain ⟨d, rfl⟩ : ∃ j, d = j + 1 := ⟨d - 1, by omega⟩
  refine Ev.intro (M := ag_mX7_sideOf) rfl rfl ?_
  show AR E d _ (0, [some (vA m), some (vI w), some (vI y)], [], (C, N)) _
  refine AR.blk 3 (f' := (3, [some (vA m), some (vI w), some (vI y)], [vI 1, vI 0, vI w], (C, N))) (fun _ => rfl) ?_
  refine AR.callS [vI w, vI 0, vI 1] (ev_X7_in (by omega) w 0 1 (by omega)) rfl rfl rfl rfl rfl ?_
  show AR E d _ (6, [some (vA m), some (vI w), some (vI y)], [vI (if 0 ≤ w ∧ w ≤ 1 then 1 else 0)], (C, N)) _
  refine AR.if_ne rfl (by omega) (fun c1 => ?_) (fun c1 => ?_)
  · show AR E d _ (11, [some (vA m), some (vI w), some (vI y)], [], (C, N)) _
    refine AR.blk 1 (f' := (12, [some (vA m), some (vI w), some (vI y)], [vI y], (C, N))) (fun _ => rfl) ?_
    have hsw12 : ag_in y := (by omega)
    by_cases e2 : y = 0
    · refine AR.tswA 0 rfl hsw12 e2 rfl (by omega) ?_
      show AR E d _ (52, [some (vA m), some (vI w), some (vI y)], [], (C, N)) _
      refine AR.blk 2 (f' := (54, [some (vA m), some (vI w), some (vI y)], [vI w, vA m], (C, N))) (fun _ => rfl) ?_
      refine AR.callV [vI w] (ev_X7_pieces (by omega) hm hr hw w (by omega)) hm.1 rfl rfl rfl rfl rfl ?_
      show AR E d _ (57, [some (vA m), some (vI w), some (vI y)], [vI (m_cnt P w)], (C, N)) _
      have f3 := m_cnt_in P w
      exact AR.retI rfl (by unfold m_sd; first | omega | (have y1 := m_ck_sum P w hw.1 (by omega); have y2 := m_ck_tug P w hw.1 (by omega); omega)) ⟨rfl, .inl rfl⟩ rfl
    by_cases e4 : y = 1
    · refine AR.tswA 1 rfl hsw12 e4 rfl (by omega) ?_
      show AR E d _ (58, [some (vA m), some (vI w), some (vI y)], [], (C, N)) _
      refine AR.blk 3 (f' := (61, [some (vA m), some (vI w), some (vI y)], [vI 0, vI w, vA m], (C, N))) (fun _ => rfl) ?_
      refine AR.callV [vI w, vI 0] (ev_X7_countOf (by omega) hm hr hw w 0 (by omega) (by omega)) hm.1 rfl rfl rfl rfl rfl ?_
      show AR E d _ (64, [some (vA m), some (vI w), some (vI y)], [vI (m_ck P w 0)], (C, N)) _
      have f5 := m_ck_in P w 0
      exact AR.retI rfl (by unfold m_sd; first | omega | (have y1 := m_ck_sum P w hw.1 (by omega); have y2 := m_ck_tug P w hw.1 (by omega); omega)) ⟨rfl, .inl rfl⟩ rfl
    by_cases e6 : y = 2
    · refine AR.tswA 2 rfl hsw12 e6 rfl (by omega) ?_
      show AR E d _ (65, [some (vA m), some (vI w), some (vI y)], [], (C, N)) _
      refine AR.blk 3 (f' := (68, [some (vA m), some (vI w), some (vI y)], [vI 1, vI w, vA m], (C, N))) (fun _ => rfl) ?_
      refine AR.callV [vI w, vI 1] (ev_X7_countOf (by omega) hm hr hw w 1 (by omega) (by omega)) hm.1 rfl rfl rfl rfl rfl ?_
      show AR E d _ (71, [some (vA m), some (vI w), some (vI y)], [vI (m_ck P w 1)], (C, N)) _
      have f7 := m_ck_in P w 1
      exact AR.retI rfl (by unfold m_sd; first | omega | (have y1 := m_ck_sum P w hw.1 (by omega); have y2 := m_ck_tug P w hw.1 (by omega); omega)) ⟨rfl, .inl rfl⟩ rfl
    by_cases e8 : y = 3
    · refine AR.tswA 3 rfl hsw12 e8 rfl (by omega) ?_
      show AR E d _ (72, [some (vA m), some (vI w), some (vI y)], [], (C, N)) _
      refine AR.blk 1 (f' := (73, [some (vA m), some (vI w), some (vI y)], [vA m], (C, N))) (fun _ => rfl) ?_
      refine AR.getR rfl rfl hm.1 (by decide) rfl ?_
      refine AR.blk 3 (f' := (80, [some (vA m), some (vI w), some (vI y)], [vI (8 + w), vA (m + 1)], (C, N))) (fun _ => rfl) ?_
      have f9 := hv.2.2.2.2.1 w
      refine AR.iald rfl hm.2.1 (by omega) (v := gn w) (m_two 8 hs.2.2.2.2.2.2.1.1 hs.2.2.2.2.2.2.1.2 (by omega)) ?_
      exact AR.retI rfl (by unfold m_sd; first | omega | (have y1 := m_ck_sum P w hw.1 (by omega); have y2 := m_ck_tug P w hw.1 (by omega); omega)) ⟨rfl, .inl rfl⟩ rfl
    by_cases e10 : y = 4
    · refine AR.tswA 4 rfl hsw12 e10 rfl (by omega) ?_
      show AR E d _ (82, [some (vA m), some (vI w), some (vI y)], [], (C, N)) _
      refine AR.blk 1 (f' := (83, [some (vA m), some (vI w), some (vI y)], [vA m], (C, N))) (fun _ => rfl) ?_
      refine AR.getR rfl rfl hm.1 (by decide) rfl ?_
      refine AR.blk 3 (f' := (90, [some (vA m), some (vI w), some (vI y)], [vI (10 + w), vA (m + 1)], (C, N))) (fun _ => rfl) ?_
      have f11 := hv.2.2.2.2.1 w
      refine AR.iald rfl hm.2.1 (by omega) (v := pu w) (m_two 10 hs.2.2.2.2.2.2.2.1.1 hs.2.2.2.2.2.2.2.1.2 (by omega)) ?_
      exact AR.retI rfl (by unfold m_sd; first | omega | (have y1 := m_ck_sum P w hw.1 (by omega); have y2 := m_ck_tug P w hw.1 (by omega); omega)) ⟨rfl, .inl rfl⟩ rfl
    by_cases e12 : y = 5
    · refine AR.tswA 5 rfl hsw12 e12 rfl (by omega) ?_
      show AR E d _ (92, [some (vA m), some (vI w), some (vI y)], [], (C, N)) _
      refine AR.blk 1 (f' := (93, [some (vA m), some (vI w), some (vI y)], [vA m], (C, N))) (fun _ => rfl) ?_
      refine AR.getR rfl rfl hm.1 (by decide) rfl ?_
      refine AR.blk 3 (f' := (100, [some (vA m), some (vI w), some (vI y)], [vI (12 + w), vA (m + 1)], (C, N))) (fun _ => rfl) ?_
      have f13 := hv.2.2.2.2.1 w
      refine AR.iald rfl hm.2.1 (by omega) (v := mk w) (m_two 12 hs.2.2.2.2.2.2.2.2.1 hs.2.2.2.2.2.2.2.2.2 (by omega)) ?_
      exact AR.retI rfl (by unfold m_sd; first | omega | (have y1 := m_ck_sum P w hw.1 (by omega); have y2 := m_ck_tug P w hw.1 (by omega); omega)) ⟨rfl, .inl rfl⟩ rfl
    refine AR.tswD rfl hsw12 (by omega) ?_
    show AR E d _ (102, [some (vA m), some (vI w), some (vI y)], [], (C, N)) _
    refine AR.blk 1 (f' := (104, [some (vA m), some (vI w), some (vI y)], [vI (-2)], (C, N))) (fun _ => rfl) ?_
    exact AR.retI rfl (by unfold m_sd; first | omega | (have y1 := m_ck_sum P w hw.1 (by omega); have y2 := m_ck_tug P w hw.1 (by omega); omega)) ⟨rfl, .inl rfl⟩ rfl
  · show AR E d _ (9, [some (vA m), some (vI w), some (vI y)], [], (C, N)) _
    refine AR.blk 1 (f' := (10, [some (vA m), some (vI w), some (vI y)], [vI (-1)], (C, N))) (fun _ => rfl) ?_
    exact AR.retI rfl (by unfold m_sd; first | omega | (have y1 := m_ck_sum P w hw.1 (by omega); have y2 := m_ck_tug P w hw.1 (by omega); omega)) ⟨rfl, .inl rfl⟩ rfl

theorem ev_X7_turnsIn {d : Nat} (hd : 2 ≤ d) (hm : g_isM C m) (hr : g_rR (N (m + 1)) P n q p cl tn) (hw : g_wB P n q p cl tn) (hs : g_rS (N (m + 1)) t bg en ca gn pu mk) (hv : g_wS t bg en ca gn pu mk) (l : Int) (h0 : ag_in l) : Ev E d 154 [vA m, vI l] (C, N) (some (vI (m_tin n p t l)), (C, N)) := by
  obtain ⟨d, rfl⟩ : ∃ j, d = j + 1 := ⟨d - 1, by omega⟩
  refine Ev.intro (M := ag_mX7_turnsIn) rfl rfl ?_
  show AR E d _ (0, [some (vA m), some (vI l)], [], (C, N)) _
  refine AR.blk 3 (f' := (3, [some (vA m), some (vI l)], [vA m, vI 0, vI l], (C, N))) (fun _ => rfl) ?_
  refine AR.getR rfl rfl hm.1 (by decide) rfl ?_
  refine AR.blk 1 (f' := (8, [some (vA m), some (vI l)], [vI 14, vA (m + 1), vI 0, vI l], (C, N))) (fun _ => rfl) ?_
  have f1 := hw.2.2.1
  refine AR.iald rfl hm.2.1 (by omega) (v := n) hr.2.1 ?_
  refine AR.blk 2 (f' := (11, [some (vA m), some (vI l)], [vI (n - 1), vI 0, vI l], (C, N))) (fun _ => rfl) ?_
  refine AR.callS [vI l, vI 0, vI (n - 1)] (ev_X7_in (by omega) l 0 (n - 1) (by omega)) rfl rfl rfl rfl rfl ?_
  show AR E d _ (14, [some (vA m), some (vI l)], [vI (if 0 ≤ l ∧ l ≤ (n - 1) then 1 else 0)], (C, N)) _
  refine AR.if_eq rfl (by omega) (fun c2 => ?_) (fun c2 => ?_)
  · show AR E d _ (40, [some (vA m), some (vI l)], [], (C, N)) _
    refine AR.blk 1 (f' := (41, [some (vA m), some (vI l)], [vI (-1)], (C, N))) (fun _ => rfl) ?_
    exact AR.retI rfl (by unfold m_tin; omega) ⟨rfl, .inl rfl⟩ rfl
  · show AR E d _ (17, [some (vA m), some (vI l)], [], (C, N)) _
    refine AR.blk 3 (f' := (20, [some (vA m), some (vI l)], [vI 1, vI l, vA m], (C, N))) (fun _ => rfl) ?_
    refine AR.callV [vI l, vI 1] (ev_X7_ofLock (by omega) hm l 1 (by omega) (p l) (hr.2.2.1 _ (by omega) (by omega)).2) hm.1 rfl rfl rfl rfl rfl ?_
    show AR E d _ (23, [some (vA m), some (vI l)], [vI (p l)], (C, N)) _
    have f3 := hw.2.2.2.1 l (by omega) (by omega)
    refine AR.blk 1 (f' := (24, [some (vA m), some (vI l)], [vA m, vI (p l)], (C, N))) (fun _ => rfl) ?_
    refine AR.getR rfl rfl hm.1 (by decide) rfl ?_
    refine AR.blk 1 (f' := (28, [some (vA m), some (vI l)], [vI 0, vA (m + 1), vI (p l)], (C, N))) (fun _ => rfl) ?_
    have f4 := hv.1
    have f5 := hv.2.1
    have f6 := hv.2.2.1
    have f7 := hv.2.2.2.1
    refine AR.iald rfl hm.2.1 (by omega) (v := t) hs.1 ?_
    refine AR.blk 3 (f' := (32, [some (vA m), some (vI l)], [vI 1, vI l, vA m, vI t, vI (p l)], (C, N))) (fun _ => rfl) ?_
    refine AR.callV [vI l, vI 1] (ev_X7_ofLock (by omega) hm l 1 (by omega) (p l) (hr.2.2.1 _ (by omega) (by omega)).2) hm.1 rfl rfl rfl rfl rfl ?_
    show AR E d _ (35, [some (vA m), some (vI l)], [vI (p l), vI t, vI (p l)], (C, N)) _
    have f8 := hw.2.2.2.1 l (by omega) (by omega)
    refine AR.irem rfl (by omega) ?_
    refine AR.blk 2 (f' := (41, [some (vA m), some (vI l)], [vI ((p l) - (t % (p l)))], (C, N))) (fun _ => rfl) ?_
    exact AR.retI rfl (by unfold m_tin; omega) ⟨rfl, .inl rfl⟩ rfl

theorem ev_X7_closedMany {d : Nat} (hd : 2 ≤ d) (hm : g_isM C m) (hr : g_rR (N (m + 1)) P n q p cl tn) (hw : g_wB P n q p cl tn) : Ev E d 164 [vA m] (C, N) (some (vI (cl 0 + cl 1 + cl 2 + cl 3)), (C, N)) := by
  obtain ⟨d, rfl⟩ : ∃ j, d = j + 1 := ⟨d - 1, by omega⟩
  refine Ev.intro (M := ag_mX7_closedMany) rfl rfl ?_
  show AR E d _ (0, [some (vA m), none, none], [], (C, N)) _
  refine AR.blk 6 (f' := (6, [some (vA m), some (vI 0), some (vI 0)], [vA m, vI 0], (C, N))) (fun _ => rfl) ?_
  refine AR.getR rfl rfl hm.1 (by decide) rfl ?_
  refine AR.blk 1 (f' := (11, [some (vA m), some (vI 0), some (vI 0)], [vI 14, vA (m + 1), vI 0], (C, N))) (fun _ => rfl) ?_
  have f1 := hw.2.2.1
  refine AR.iald rfl hm.2.1 (by omega) (v := n) hr.2.1 ?_
  refine AR.ic_ge rfl (by omega) (fun c2 => ?_) (fun c2 => ?_)
  · show AR E d _ (30, [some (vA m), some (vI 0), some (vI 0)], [], (C, N)) _
    refine AR.blk 1 (f' := (31, [some (vA m), some (vI 0), some (vI 0)], [vI 0], (C, N))) (fun _ => rfl) ?_
    exact AR.retI rfl (by have y0 := hw.2.2.2.2.2 0; have y1 := hw.2.2.2.2.2 1; have y2 := hw.2.2.2.2.2 2; have y3 := hw.2.2.2.2.2 3; omega) ⟨rfl, .inl rfl⟩ rfl
  · show AR E d _ (15, [some (vA m), some (vI 0), some (vI 0)], [], (C, N)) _
    refine AR.blk 4 (f' := (19, [some (vA m), some (vI 0), some (vI 0)], [vI 2, vI 0, vA m, vI 0], (C, N))) (fun _ => rfl) ?_
    refine AR.callV [vI 0, vI 2] (ev_X7_ofLock (by omega) hm 0 2 (by omega) (cl 0) (hr.2.2.2 _ (by omega) (by omega)).1) hm.1 rfl rfl rfl rfl rfl ?_
    show AR E d _ (22, [some (vA m), some (vI 0), some (vI 0)], [vI (cl 0), vI 0], (C, N)) _
    have f3 := hw.2.2.2.2.1 0
    refine AR.blk 6 (f' := (6, [some (vA m), some (vI (0 + (cl 0))), some (vI 1)], [vA m, vI 1], (C, N))) (fun _ => rfl) ?_
    refine AR.getR rfl rfl hm.1 (by decide) rfl ?_
    refine AR.blk 1 (f' := (11, [some (vA m), some (vI (0 + (cl 0))), some (vI 1)], [vI 14, vA (m + 1), vI 1], (C, N))) (fun _ => rfl) ?_
    have f4 := hw.2.2.1
    refine AR.iald rfl hm.2.1 (by omega) (v := n) hr.2.1 ?_
    refine AR.ic_ge rfl (by omega) (fun c5 => ?_) (fun c5 => ?_)
    · show AR E d _ (30, [some (vA m), some (vI (0 + (cl 0))), some (vI 1)], [], (C, N)) _
      refine AR.blk 1 (f' := (31, [some (vA m), some (vI (0 + (cl 0))), some (vI 1)], [vI (0 + (cl 0))], (C, N))) (fun _ => rfl) ?_
      exact AR.retI rfl (by have y0 := hw.2.2.2.2.2 0; have y1 := hw.2.2.2.2.2 1; have y2 := hw.2.2.2.2.2 2; have y3 := hw.2.2.2.2.2 3; omega) ⟨rfl, .inl rfl⟩ rfl
    · show AR E d _ (15, [some (vA m), some (vI (0 + (cl 0))), some (vI 1)], [], (C, N)) _
      refine AR.blk 4 (f' := (19, [some (vA m), some (vI (0 + (cl 0))), some (vI 1)], [vI 2, vI 1, vA m, vI (0 + (cl 0))], (C, N))) (fun _ => rfl) ?_
      refine AR.callV [vI 1, vI 2] (ev_X7_ofLock (by omega) hm 1 2 (by omega) (cl 1) (hr.2.2.2 _ (by omega) (by omega)).1) hm.1 rfl rfl rfl rfl rfl ?_
      show AR E d _ (22, [some (vA m), some (vI (0 + (cl 0))), some (vI 1)], [vI (cl 1), vI (0 + (cl 0))], (C, N)) _
      have f6 := hw.2.2.2.2.1 1
      refine AR.blk 6 (f' := (6, [some (vA m), some (vI ((0 + (cl 0)) + (cl 1))), some (vI 2)], [vA m, vI 2], (C, N))) (fun _ => rfl) ?_
      refine AR.getR rfl rfl hm.1 (by decide) rfl ?_
      refine AR.blk 1 (f' := (11, [some (vA m), some (vI ((0 + (cl 0)) + (cl 1))), some (vI 2)], [vI 14, vA (m + 1), vI 2], (C, N))) (fun _ => rfl) ?_
      have f7 := hw.2.2.1
      refine AR.iald rfl hm.2.1 (by omega) (v := n) hr.2.1 ?_
      refine AR.ic_ge rfl (by omega) (fun c8 => ?_) (fun c8 => ?_)
      · show AR E d _ (30, [some (vA m), some (vI ((0 + (cl 0)) + (cl 1))), some (vI 2)], [], (C, N)) _
        refine AR.blk 1 (f' := (31, [some (vA m), some (vI ((0 + (cl 0)) + (cl 1))), some (vI 2)], [vI ((0 + (cl 0)) + (cl 1))], (C, N))) (fun _ => rfl) ?_
        exact AR.retI rfl (by have y0 := hw.2.2.2.2.2 0; have y1 := hw.2.2.2.2.2 1; have y2 := hw.2.2.2.2.2 2; have y3 := hw.2.2.2.2.2 3; omega) ⟨rfl, .inl rfl⟩ rfl
      · show AR E d _ (15, [some (vA m), some (vI ((0 + (cl 0)) + (cl 1))), some (vI 2)], [], (C, N)) _
        refine AR.blk 4 (f' := (19, [some (vA m), some (vI ((0 + (cl 0)) + (cl 1))), some (vI 2)], [vI 2, vI 2, vA m, vI ((0 + (cl 0)) + (cl 1))], (C, N))) (fun _ => rfl) ?_
        refine AR.callV [vI 2, vI 2] (ev_X7_ofLock (by omega) hm 2 2 (by omega) (cl 2) (hr.2.2.2 _ (by omega) (by omega)).1) hm.1 rfl rfl rfl rfl rfl ?_
        show AR E d _ (22, [some (vA m), some (vI ((0 + (cl 0)) + (cl 1))), some (vI 2)], [vI (cl 2), vI ((0 + (cl 0)) + (cl 1))], (C, N)) _
        have f9 := hw.2.2.2.2.1 2
        refine AR.blk 6 (f' := (6, [some (vA m), some (vI (((0 + (cl 0)) + (cl 1)) + (cl 2))), some (vI 3)], [vA m, vI 3], (C, N))) (fun _ => rfl) ?_
        refine AR.getR rfl rfl hm.1 (by decide) rfl ?_
        refine AR.blk 1 (f' := (11, [some (vA m), some (vI (((0 + (cl 0)) + (cl 1)) + (cl 2))), some (vI 3)], [vI 14, vA (m + 1), vI 3], (C, N))) (fun _ => rfl) ?_
        have f10 := hw.2.2.1
        refine AR.iald rfl hm.2.1 (by omega) (v := n) hr.2.1 ?_
        refine AR.ic_ge rfl (by omega) (fun c11 => ?_) (fun c11 => ?_)
        · show AR E d _ (30, [some (vA m), some (vI (((0 + (cl 0)) + (cl 1)) + (cl 2))), some (vI 3)], [], (C, N)) _
          refine AR.blk 1 (f' := (31, [some (vA m), some (vI (((0 + (cl 0)) + (cl 1)) + (cl 2))), some (vI 3)], [vI (((0 + (cl 0)) + (cl 1)) + (cl 2))], (C, N))) (fun _ => rfl) ?_
          exact AR.retI rfl (by have y0 := hw.2.2.2.2.2 0; have y1 := hw.2.2.2.2.2 1; have y2 := hw.2.2.2.2.2 2; have y3 := hw.2.2.2.2.2 3; omega) ⟨rfl, .inl rfl⟩ rfl
        · show AR E d _ (15, [some (vA m), some (vI (((0 + (cl 0)) + (cl 1)) + (cl 2))), some (vI 3)], [], (C, N)) _
          refine AR.blk 4 (f' := (19, [some (vA m), some (vI (((0 + (cl 0)) + (cl 1)) + (cl 2))), some (vI 3)], [vI 2, vI 3, vA m, vI (((0 + (cl 0)) + (cl 1)) + (cl 2))], (C, N))) (fun _ => rfl) ?_
          refine AR.callV [vI 3, vI 2] (ev_X7_ofLock (by omega) hm 3 2 (by omega) (cl 3) (hr.2.2.2 _ (by omega) (by omega)).1) hm.1 rfl rfl rfl rfl rfl ?_
          show AR E d _ (22, [some (vA m), some (vI (((0 + (cl 0)) + (cl 1)) + (cl 2))), some (vI 3)], [vI (cl 3), vI (((0 + (cl 0)) + (cl 1)) + (cl 2))], (C, N)) _
          have f12 := hw.2.2.2.2.1 3
          refine AR.blk 6 (f' := (6, [some (vA m), some (vI ((((0 + (cl 0)) + (cl 1)) + (cl 2)) + (cl 3))), some (vI 4)], [vA m, vI 4], (C, N))) (fun _ => rfl) ?_
          refine AR.getR rfl rfl hm.1 (by decide) rfl ?_
          refine AR.blk 1 (f' := (11, [some (vA m), some (vI ((((0 + (cl 0)) + (cl 1)) + (cl 2)) + (cl 3))), some (vI 4)], [vI 14, vA (m + 1), vI 4], (C, N))) (fun _ => rfl) ?_
          have f13 := hw.2.2.1
          refine AR.iald rfl hm.2.1 (by omega) (v := n) hr.2.1 ?_
          refine AR.ic_ge rfl (by omega) (fun c14 => ?_) (fun c14 => ?_)
          · show AR E d _ (30, [some (vA m), some (vI ((((0 + (cl 0)) + (cl 1)) + (cl 2)) + (cl 3))), some (vI 4)], [], (C, N)) _
            refine AR.blk 1 (f' := (31, [some (vA m), some (vI ((((0 + (cl 0)) + (cl 1)) + (cl 2)) + (cl 3))), some (vI 4)], [vI ((((0 + (cl 0)) + (cl 1)) + (cl 2)) + (cl 3))], (C, N))) (fun _ => rfl) ?_
            exact AR.retI rfl (by have y0 := hw.2.2.2.2.2 0; have y1 := hw.2.2.2.2.2 1; have y2 := hw.2.2.2.2.2 2; have y3 := hw.2.2.2.2.2 3; omega) ⟨rfl, .inl rfl⟩ rfl
          · show AR E d _ (15, [some (vA m), some (vI ((((0 + (cl 0)) + (cl 1)) + (cl 2)) + (cl 3))), some (vI 4)], [], (C, N)) _
            exact False.elim (by omega)

theorem ev_X7_turnedAll {d : Nat} (hd : 2 ≤ d) (hm : g_isM C m) (hr : g_rR (N (m + 1)) P n q p cl tn) (hw : g_wB P n q p cl tn) : Ev E d 165 [vA m] (C, N) (some (vI (tn 0 + tn 1 + tn 2 + tn 3)), (C, N)) := by
  obtain ⟨d, rfl⟩ : ∃ j, d = j + 1 := ⟨d - 1, by omega⟩
  refine Ev.intro (M := ag_mX7_turnedAll) rfl rfl ?_
  show AR E d _ (0, [some (vA m), none, none], [], (C, N)) _
  refine AR.blk 6 (f' := (6, [some (vA m), some (vI 0), some (vI 0)], [vA m, vI 0], (C, N))) (fun _ => rfl) ?_
  refine AR.getR rfl rfl hm.1 (by decide) rfl ?_
  refine AR.blk 1 (f' := (11, [some (vA m), some (vI 0), some (vI 0)], [vI 14, vA (m + 1), vI 0], (C, N))) (fun _ => rfl) ?_
  have f1 := hw.2.2.1
  refine AR.iald rfl hm.2.1 (by omega) (v := n) hr.2.1 ?_
  refine AR.ic_ge rfl (by omega) (fun c2 => ?_) (fun c2 => ?_)
  · show AR E d _ (30, [some (vA m), some (vI 0), some (vI 0)], [], (C, N)) _
    refine AR.blk 1 (f' := (31, [some (vA m), some (vI 0), some (vI 0)], [vI 0], (C, N))) (fun _ => rfl) ?_
    exact AR.retI rfl (by have y0 := hw.2.2.2.2.2 0; have y1 := hw.2.2.2.2.2 1; have y2 := hw.2.2.2.2.2 2; have y3 := hw.2.2.2.2.2 3; omega) ⟨rfl, .inl rfl⟩ rfl
  · show AR E d _ (15, [some (vA m), some (vI 0), some (vI 0)], [], (C, N)) _
    refine AR.blk 4 (f' := (19, [some (vA m), some (vI 0), some (vI 0)], [vI 3, vI 0, vA m, vI 0], (C, N))) (fun _ => rfl) ?_
    refine AR.callV [vI 0, vI 3] (ev_X7_ofLock (by omega) hm 0 3 (by omega) (tn 0) (hr.2.2.2 _ (by omega) (by omega)).2) hm.1 rfl rfl rfl rfl rfl ?_
    show AR E d _ (22, [some (vA m), some (vI 0), some (vI 0)], [vI (tn 0), vI 0], (C, N)) _
    have f3 := hw.2.2.2.2.1 0
    refine AR.blk 6 (f' := (6, [some (vA m), some (vI (0 + (tn 0))), some (vI 1)], [vA m, vI 1], (C, N))) (fun _ => rfl) ?_
    refine AR.getR rfl rfl hm.1 (by decide) rfl ?_
    refine AR.blk 1 (f' := (11, [some (vA m), some (vI (0 + (tn 0))), some (vI 1)], [vI 14, vA (m + 1), vI 1], (C, N))) (fun _ => rfl) ?_
    have f4 := hw.2.2.1
    refine AR.iald rfl hm.2.1 (by omega) (v := n) hr.2.1 ?_
    refine AR.ic_ge rfl (by omega) (fun c5 => ?_) (fun c5 => ?_)
    · show AR E d _ (30, [some (vA m), some (vI (0 + (tn 0))), some (vI 1)], [], (C, N)) _
      refine AR.blk 1 (f' := (31, [some (vA m), some (vI (0 + (tn 0))), some (vI 1)], [vI (0 + (tn 0))], (C, N))) (fun _ => rfl) ?_
      exact AR.retI rfl (by have y0 := hw.2.2.2.2.2 0; have y1 := hw.2.2.2.2.2 1; have y2 := hw.2.2.2.2.2 2; have y3 := hw.2.2.2.2.2 3; omega) ⟨rfl, .inl rfl⟩ rfl
    · show AR E d _ (15, [some (vA m), some (vI (0 + (tn 0))), some (vI 1)], [], (C, N)) _
      refine AR.blk 4 (f' := (19, [some (vA m), some (vI (0 + (tn 0))), some (vI 1)], [vI 3, vI 1, vA m, vI (0 + (tn 0))], (C, N))) (fun _ => rfl) ?_
      refine AR.callV [vI 1, vI 3] (ev_X7_ofLock (by omega) hm 1 3 (by omega) (tn 1) (hr.2.2.2 _ (by omega) (by omega)).2) hm.1 rfl rfl rfl rfl rfl ?_
      show AR E d _ (22, [some (vA m), some (vI (0 + (tn 0))), some (vI 1)], [vI (tn 1), vI (0 + (tn 0))], (C, N)) _
      have f6 := hw.2.2.2.2.1 1
      refine AR.blk 6 (f' := (6, [some (vA m), some (vI ((0 + (tn 0)) + (tn 1))), some (vI 2)], [vA m, vI 2], (C, N))) (fun _ => rfl) ?_
      refine AR.getR rfl rfl hm.1 (by decide) rfl ?_
      refine AR.blk 1 (f' := (11, [some (vA m), some (vI ((0 + (tn 0)) + (tn 1))), some (vI 2)], [vI 14, vA (m + 1), vI 2], (C, N))) (fun _ => rfl) ?_
      have f7 := hw.2.2.1
      refine AR.iald rfl hm.2.1 (by omega) (v := n) hr.2.1 ?_
      refine AR.ic_ge rfl (by omega) (fun c8 => ?_) (fun c8 => ?_)
      · show AR E d _ (30, [some (vA m), some (vI ((0 + (tn 0)) + (tn 1))), some (vI 2)], [], (C, N)) _
        refine AR.blk 1 (f' := (31, [some (vA m), some (vI ((0 + (tn 0)) + (tn 1))), some (vI 2)], [vI ((0 + (tn 0)) + (tn 1))], (C, N))) (fun _ => rfl) ?_
        exact AR.retI rfl (by have y0 := hw.2.2.2.2.2 0; have y1 := hw.2.2.2.2.2 1; have y2 := hw.2.2.2.2.2 2; have y3 := hw.2.2.2.2.2 3; omega) ⟨rfl, .inl rfl⟩ rfl
      · show AR E d _ (15, [some (vA m), some (vI ((0 + (tn 0)) + (tn 1))), some (vI 2)], [], (C, N)) _
        refine AR.blk 4 (f' := (19, [some (vA m), some (vI ((0 + (tn 0)) + (tn 1))), some (vI 2)], [vI 3, vI 2, vA m, vI ((0 + (tn 0)) + (tn 1))], (C, N))) (fun _ => rfl) ?_
        refine AR.callV [vI 2, vI 3] (ev_X7_ofLock (by omega) hm 2 3 (by omega) (tn 2) (hr.2.2.2 _ (by omega) (by omega)).2) hm.1 rfl rfl rfl rfl rfl ?_
        show AR E d _ (22, [some (vA m), some (vI ((0 + (tn 0)) + (tn 1))), some (vI 2)], [vI (tn 2), vI ((0 + (tn 0)) + (tn 1))], (C, N)) _
        have f9 := hw.2.2.2.2.1 2
        refine AR.blk 6 (f' := (6, [some (vA m), some (vI (((0 + (tn 0)) + (tn 1)) + (tn 2))), some (vI 3)], [vA m, vI 3], (C, N))) (fun _ => rfl) ?_
        refine AR.getR rfl rfl hm.1 (by decide) rfl ?_
        refine AR.blk 1 (f' := (11, [some (vA m), some (vI (((0 + (tn 0)) + (tn 1)) + (tn 2))), some (vI 3)], [vI 14, vA (m + 1), vI 3], (C, N))) (fun _ => rfl) ?_
        have f10 := hw.2.2.1
        refine AR.iald rfl hm.2.1 (by omega) (v := n) hr.2.1 ?_
        refine AR.ic_ge rfl (by omega) (fun c11 => ?_) (fun c11 => ?_)
        · show AR E d _ (30, [some (vA m), some (vI (((0 + (tn 0)) + (tn 1)) + (tn 2))), some (vI 3)], [], (C, N)) _
          refine AR.blk 1 (f' := (31, [some (vA m), some (vI (((0 + (tn 0)) + (tn 1)) + (tn 2))), some (vI 3)], [vI (((0 + (tn 0)) + (tn 1)) + (tn 2))], (C, N))) (fun _ => rfl) ?_
          exact AR.retI rfl (by have y0 := hw.2.2.2.2.2 0; have y1 := hw.2.2.2.2.2 1; have y2 := hw.2.2.2.2.2 2; have y3 := hw.2.2.2.2.2 3; omega) ⟨rfl, .inl rfl⟩ rfl
        · show AR E d _ (15, [some (vA m), some (vI (((0 + (tn 0)) + (tn 1)) + (tn 2))), some (vI 3)], [], (C, N)) _
          refine AR.blk 4 (f' := (19, [some (vA m), some (vI (((0 + (tn 0)) + (tn 1)) + (tn 2))), some (vI 3)], [vI 3, vI 3, vA m, vI (((0 + (tn 0)) + (tn 1)) + (tn 2))], (C, N))) (fun _ => rfl) ?_
          refine AR.callV [vI 3, vI 3] (ev_X7_ofLock (by omega) hm 3 3 (by omega) (tn 3) (hr.2.2.2 _ (by omega) (by omega)).2) hm.1 rfl rfl rfl rfl rfl ?_
          show AR E d _ (22, [some (vA m), some (vI (((0 + (tn 0)) + (tn 1)) + (tn 2))), some (vI 3)], [vI (tn 3), vI (((0 + (tn 0)) + (tn 1)) + (tn 2))], (C, N)) _
          have f12 := hw.2.2.2.2.1 3
          refine AR.blk 6 (f' := (6, [some (vA m), some (vI ((((0 + (tn 0)) + (tn 1)) + (tn 2)) + (tn 3))), some (vI 4)], [vA m, vI 4], (C, N))) (fun _ => rfl) ?_
          refine AR.getR rfl rfl hm.1 (by decide) rfl ?_
          refine AR.blk 1 (f' := (11, [some (vA m), some (vI ((((0 + (tn 0)) + (tn 1)) + (tn 2)) + (tn 3))), some (vI 4)], [vI 14, vA (m + 1), vI 4], (C, N))) (fun _ => rfl) ?_
          have f13 := hw.2.2.1
          refine AR.iald rfl hm.2.1 (by omega) (v := n) hr.2.1 ?_
          refine AR.ic_ge rfl (by omega) (fun c14 => ?_) (fun c14 => ?_)
          · show AR E d _ (30, [some (vA m), some (vI ((((0 + (tn 0)) + (tn 1)) + (tn 2)) + (tn 3))), some (vI 4)], [], (C, N)) _
            refine AR.blk 1 (f' := (31, [some (vA m), some (vI ((((0 + (tn 0)) + (tn 1)) + (tn 2)) + (tn 3))), some (vI 4)], [vI ((((0 + (tn 0)) + (tn 1)) + (tn 2)) + (tn 3))], (C, N))) (fun _ => rfl) ?_
            exact AR.retI rfl (by have y0 := hw.2.2.2.2.2 0; have y1 := hw.2.2.2.2.2 1; have y2 := hw.2.2.2.2.2 2; have y3 := hw.2.2.2.2.2 3; omega) ⟨rfl, .inl rfl⟩ rfl
          · show AR E d _ (15, [some (vA m), some (vI ((((0 + (tn 0)) + (tn 1)) + (tn 2)) + (tn 3))), some (vI 4)], [], (C, N)) _
            exact False.elim (by omega)

theorem ev_X7_moveAt {d : Nat} (hd : 6 ≤ d) (hm : g_isM C m) (hr : g_rR (N (m + 1)) P n q p cl tn) (hw : g_wB P n q p cl tn) (hs : g_rS (N (m + 1)) t bg en ca gn pu mk) (hv : g_wS t bg en ca gn pu mk) (w : Int) (h0 : ag_in w) : Ev E d 147 [vA m, vI w] (C, N) (some (vI (m_pk (m_open P n q cl t bg en) w 144 0 0)), (C, N)) := by
  obtain ⟨d, rfl⟩ : ∃ j, d = j + 1 := ⟨d - 1, by omega⟩
  refine Ev.intro (M := ag_mX7_moveAt) rfl rfl ?_
  show AR E d _ (0, [some (vA m), some (vI w), none, none], [], (C, N)) _
  refine AR.blk 4 (f' := (4, [some (vA m), some (vI w), some (vI 0), some (vI 0)], [], (C, N))) (fun _ => rfl) ?_
  suffices H4 : ∀ (j : Nat) (k : Int) (c : Int), (144 - k).toNat < j → (0 ≤ k ∧ k ≤ 144 ∧ 0 ≤ c ∧ c ≤ k) → (m_pk (m_open P n q cl t bg en) w (144 - k).toNat k c = m_pk (m_open P n q cl t bg en) w 144 0 0) → AR E d ag_mX7_moveAt (4, [some (vA m), some (vI w), some (vI c), some (vI k)], [], (C, N)) (fun o_ => o_ = (some (vI (m_pk (m_open P n q cl t bg en) w 144 0 0)), (C, N))) by
    exact H4 _ _ _ (Nat.lt_succ_self _) (by omega) rfl
  intro j
  induction j with
  | zero => intro k c hj; exact absurd hj (Nat.not_lt_zero _)
  | succ j ih4 =>
    intro k c hj4 i0 i1
    have z6 : 4 * (k / 4) + k % 4 = k := by omega
    have z7 := fun hk => m_pkS _ _ _ _ _ hk i1
    refine AR.blk 2 (f' := (8, [some (vA m), some (vI w), some (vI c), some (vI k)], [vI 144, vI k], (C, N))) (fun _ => rfl) ?_
    refine AR.ic_ge rfl (by omega) (fun c1 => ?_) (fun c1 => ?_)
    · show AR E d _ (43, [some (vA m), some (vI w), some (vI c), some (vI k)], [], (C, N)) _
      refine AR.blk 1 (f' := (44, [some (vA m), some (vI w), some (vI c), some (vI k)], [vI (-1)], (C, N))) (fun _ => rfl) ?_
      exact AR.retI rfl (by rw [z6] at *; first | exact (z7 (by omega)).1 (by omega) (by omega) | (rw [show k = 144 by omega] at i1; exact i1)) ⟨rfl, .inl rfl⟩ rfl
    · show AR E d _ (11, [some (vA m), some (vI w), some (vI c), some (vI k)], [], (C, N)) _
      refine AR.blk 3 (f' := (14, [some (vA m), some (vI w), some (vI c), some (vI k)], [vI 4, vI k, vA m], (C, N))) (fun _ => rfl) ?_
      refine AR.idiv rfl (by omega) ?_
      refine AR.blk 2 (f' := (17, [some (vA m), some (vI w), some (vI c), some (vI k)], [vI 4, vI k, vI (k / 4), vA m], (C, N))) (fun _ => rfl) ?_
      refine AR.irem rfl (by omega) ?_
      refine AR.callV [vI (k / 4), vI (k % 4)] (ev_X7_isMove (by omega) hm hr hw hs hv (k / 4) (k % 4) (by omega) (by omega)) hm.1 rfl rfl rfl rfl rfl ?_
      show AR E d _ (21, [some (vA m), some (vI w), some (vI c), some (vI k)], [vI (m_open P n q cl t bg en (4 * (k / 4) + (k % 4)))], (C, N)) _
      have f2 := m_open_in P n q cl t bg en (4 * (k / 4) + (k % 4))
      refine AR.if_ne rfl (by omega) (fun c3 => ?_) (fun c3 => ?_)
      · show AR E d _ (27, [some (vA m), some (vI w), some (vI c), some (vI k)], [], (C, N)) _
        refine AR.blk 2 (f' := (29, [some (vA m), some (vI w), some (vI c), some (vI k)], [vI w, vI c], (C, N))) (fun _ => rfl) ?_
        refine AR.ic_ne rfl (by omega) (fun c4 => ?_) (fun c4 => ?_)
        · show AR E d _ (34, [some (vA m), some (vI w), some (vI c), some (vI k)], [], (C, N)) _
          refine AR.blk 3 (f' := (4, [some (vA m), some (vI w), some (vI (c + 1)), some (vI (k + 1))], [], (C, N))) (fun _ => rfl) ?_
          exact ih4 _ _ (by omega) (by omega) (by rw [z6] at *; first | exact (z7 (by omega)).2.1 (by omega) (by omega) | exact (z7 (by omega)).2.2 (by omega))
        · show AR E d _ (32, [some (vA m), some (vI w), some (vI c), some (vI k)], [], (C, N)) _
          refine AR.blk 1 (f' := (33, [some (vA m), some (vI w), some (vI c), some (vI k)], [vI k], (C, N))) (fun _ => rfl) ?_
          exact AR.retI rfl (by rw [z6] at *; first | exact (z7 (by omega)).1 (by omega) (by omega) | (rw [show k = 144 by omega] at i1; exact i1)) ⟨rfl, .inl rfl⟩ rfl
      · show AR E d _ (24, [some (vA m), some (vI w), some (vI c), some (vI k)], [], (C, N)) _
        refine AR.blk 3 (f' := (4, [some (vA m), some (vI w), some (vI c), some (vI (k + 1))], [], (C, N))) (fun _ => rfl) ?_
        exact ih4 _ _ (by omega) (by omega) (by rw [z6] at *; first | exact (z7 (by omega)).2.1 (by omega) (by omega) | exact (z7 (by omega)).2.2 (by omega))

-- firstTake

theorem ev_X7_firstTake {d : Nat} (hd : 6 ≤ d) (hm : g_isM C m) (hr : g_rR (N (m + 1)) P n q p cl tn) (hw : g_wB P n q p cl tn) (hs : g_rS (N (m + 1)) t bg en ca gn pu mk) (hv : g_wS t bg en ca gn pu mk) : Ev E d 152 [vA m] (C, N) (some (vI (m_fst (m_ft P n q cl t bg en) 144 0)), (C, N)) := by
  obtain ⟨d, rfl⟩ : ∃ j, d = j + 1 := ⟨d - 1, by omega⟩
  refine Ev.intro (M := ag_mX7_firstTake) rfl rfl ?_
  show AR E d _ (0, [some (vA m), none], [], (C, N)) _
  refine AR.blk 2 (f' := (2, [some (vA m), some (vI 0)], [], (C, N))) (fun _ => rfl) ?_
  suffices H2 : ∀ (j : Nat) (k : Int), (144 - k).toNat < j → (0 ≤ k ∧ k ≤ 144) → (m_fst (m_ft P n q cl t bg en) (144 - k).toNat k = m_fst (m_ft P n q cl t bg en) 144 0) → AR E d ag_mX7_firstTake (2, [some (vA m), some (vI k)], [], (C, N)) (fun o_ => o_ = (some (vI (m_fst (m_ft P n q cl t bg en) 144 0)), (C, N))) by
    exact H2 _ _ (Nat.lt_succ_self _) (by omega) rfl
  intro j
  induction j with
  | zero => intro k hj; exact absurd hj (Nat.not_lt_zero _)
  | succ j ih2 =>
    intro k hj2 i0 i1
    have z6 : 4 * (k / 4) + k % 4 = k := by omega
    have z7 := fun hk => m_fstS _ _ _ hk i1
    refine AR.blk 2 (f' := (6, [some (vA m), some (vI k)], [vI 144, vI k], (C, N))) (fun _ => rfl) ?_
    refine AR.ic_ge rfl (by omega) (fun c1 => ?_) (fun c1 => ?_)
    · show AR E d _ (43, [some (vA m), some (vI k)], [], (C, N)) _
      refine AR.blk 1 (f' := (45, [some (vA m), some (vI k)], [vI (-4)], (C, N))) (fun _ => rfl) ?_
      exact AR.retI rfl (by rw [z6] at *; first | exact (z7 (by omega)).1 (by unfold m_ft; omega) | (rw [show k = 144 by omega] at i1; exact i1)) ⟨rfl, .inl rfl⟩ rfl
    · show AR E d _ (9, [some (vA m), some (vI k)], [], (C, N)) _
      refine AR.blk 3 (f' := (12, [some (vA m), some (vI k)], [vI 4, vI k, vA m], (C, N))) (fun _ => rfl) ?_
      refine AR.idiv rfl (by omega) ?_
      refine AR.blk 2 (f' := (15, [some (vA m), some (vI k)], [vI 4, vI k, vI (k / 4), vA m], (C, N))) (fun _ => rfl) ?_
      refine AR.irem rfl (by omega) ?_
      refine AR.callV [vI (k / 4), vI (k % 4)] (ev_X7_isMove (by omega) hm hr hw hs hv (k / 4) (k % 4) (by omega) (by omega)) hm.1 rfl rfl rfl rfl rfl ?_
      show AR E d _ (19, [some (vA m), some (vI k)], [vI (m_open P n q cl t bg en (4 * (k / 4) + (k % 4)))], (C, N)) _
      have f2 := m_open_in P n q cl t bg en (4 * (k / 4) + (k % 4))
      refine AR.if_eq rfl (by omega) (fun c3 => ?_) (fun c3 => ?_)
      · show AR E d _ (37, [some (vA m), some (vI k)], [], (C, N)) _
        refine AR.blk 2 (f' := (2, [some (vA m), some (vI (k + 1))], [], (C, N))) (fun _ => rfl) ?_
        exact ih2 _ (by omega) (by omega) (by rw [z6] at *; exact (z7 (by omega)).2 (by unfold m_ft; omega))
      · show AR E d _ (22, [some (vA m), some (vI k)], [], (C, N)) _
        refine AR.blk 3 (f' := (25, [some (vA m), some (vI k)], [vI 4, vI k, vA m], (C, N))) (fun _ => rfl) ?_
        refine AR.idiv rfl (by omega) ?_
        refine AR.blk 2 (f' := (28, [some (vA m), some (vI k)], [vI 4, vI k, vI (k / 4), vA m], (C, N))) (fun _ => rfl) ?_
        refine AR.irem rfl (by omega) ?_
        refine AR.callV [vI (k / 4), vI (k % 4)] (ev_X7_isTake (by omega) hm hr hw hs hv (k / 4) (k % 4) (by omega) (by omega)) hm.1 rfl rfl rfl rfl rfl ?_
        show AR E d _ (32, [some (vA m), some (vI k)], [vI (m_take P t (k / 4) (k % 4))], (C, N)) _
        have f4 := (show m_take P t (k / 4) (k % 4) = 0 ∨ m_take P t (k / 4) (k % 4) = 1 by unfold m_take; omega)
        refine AR.if_eq rfl (by omega) (fun c5 => ?_) (fun c5 => ?_)
        · show AR E d _ (37, [some (vA m), some (vI k)], [], (C, N)) _
          refine AR.blk 2 (f' := (2, [some (vA m), some (vI (k + 1))], [], (C, N))) (fun _ => rfl) ?_
          exact ih2 _ (by omega) (by omega) (by rw [z6] at *; exact (z7 (by omega)).2 (by unfold m_ft; omega))
        · show AR E d _ (35, [some (vA m), some (vI k)], [], (C, N)) _
          refine AR.blk 1 (f' := (36, [some (vA m), some (vI k)], [vI k], (C, N))) (fun _ => rfl) ?_
          exact AR.retI rfl (by rw [z6] at *; first | exact (z7 (by omega)).1 (by unfold m_ft; omega) | (rw [show k = 144 by omega] at i1; exact i1)) ⟨rfl, .inl rfl⟩ rfl
end L2d
