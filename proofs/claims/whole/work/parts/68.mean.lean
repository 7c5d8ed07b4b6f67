/-! LEVEL 2: means -/
theorem m_mall_at (c : Nat) : ∀ k : Nat, m_mall c k = true → ∀ s, s ≤ k → m_mok s c = true := by
  intro k
  induction k with
  | zero =>
    intro h s hs
    rw [show s = 0 by omega]
    exact h
  | succ k ih =>
    intro h s hs
    have h2 : (m_mok (k + 1) c && m_mall c k) = true := h
    rw [Bool.and_eq_true] at h2
    by_cases e : s = k + 1
    · rw [e]; exact h2.1
    · exact ih h2.2 s (by omega)
theorem m_mks (c : Nat) (h1 : 1 ≤ c) (h2 : c ≤ 36) : m_mall c (5 * c) = true := by
  have e : c = 1 ∨ c = 2 ∨ c = 3 ∨ c = 4 ∨ c = 5 ∨ c = 6 ∨ c = 7 ∨ c = 8 ∨ c = 9 ∨ c = 10 ∨ c = 11 ∨ c = 12 ∨ c = 13 ∨ c = 14 ∨ c = 15 ∨ c = 16 ∨ c = 17 ∨ c = 18 ∨ c = 19 ∨ c = 20 ∨ c = 21 ∨ c = 22 ∨ c = 23 ∨ c = 24 ∨ c = 25 ∨ c = 26 ∨ c = 27 ∨ c = 28 ∨ c = 29 ∨ c = 30 ∨ c = 31 ∨ c = 32 ∨ c = 33 ∨ c = 34 ∨ c = 35 ∨ c = 36 := by omega
  rcases e with rfl | rfl | rfl | rfl | rfl | rfl | rfl | rfl | rfl | rfl | rfl | rfl | rfl | rfl | rfl | rfl | rfl | rfl | rfl | rfl | rfl | rfl | rfl | rfl | rfl | rfl | rfl | rfl | rfl | rfl | rfl | rfl | rfl | rfl | rfl | rfl
  · exact m_mk1
  · exact m_mk2
  · exact m_mk3
  · exact m_mk4
  · exact m_mk5
  · exact m_mk6
  · exact m_mk7
  · exact m_mk8
  · exact m_mk9
  · exact m_mk10
  · exact m_mk11
  · exact m_mk12
  · exact m_mk13
  · exact m_mk14
  · exact m_mk15
  · exact m_mk16
  · exact m_mk17
  · exact m_mk18
  · exact m_mk19
  · exact m_mk20
  · exact m_mk21
  · exact m_mk22
  · exact m_mk23
  · exact m_mk24
  · exact m_mk25
  · exact m_mk26
  · exact m_mk27
  · exact m_mk28
  · exact m_mk29
  · exact m_mk30
  · exact m_mk31
  · exact m_mk32
  · exact m_mk33
  · exact m_mk34
  · exact m_mk35
  · exact m_mk36
theorem m_mean_ok {s c : Int} (hc : 1 ≤ c ∧ c ≤ 36) (hs : 0 ≤ s ∧ s ≤ 5 * c) : ag_n32 (m_mv32 s c) ∧ Op.cmpValue (FP.fcmp (m_mv32 s c) (m_mv32 s c)) .l = 0 ∧ m_bits (m_mv32 s c) = some (m_mv32 s c).toInt32.toInt ∧ ag_in (m_mv32 s c).toInt32.toInt := by
  have h := m_mall_at c.toNat _ (m_mks c.toNat (by omega) (by omega)) s.toNat (by omega)
  unfold m_mok at h
  rw [show ((s.toNat : Nat) : Int) = s by omega, show ((c.toNat : Nat) : Int) = c by omega, Bool.and_eq_true, Bool.and_eq_true, Bool.and_eq_true] at h
  exact ⟨of_decide_eq_true h.1.1.1, of_decide_eq_true h.1.1.2, of_decide_eq_true h.1.2, of_decide_eq_true h.2⟩
theorem m_i32 (x : Int32) : ag_in x.toInt := ⟨x.le_toInt, x.toInt_lt⟩
theorem m_h1S {w : UInt32} {e i : Int} {r : UInt32 × Int} (hi : i < 128) (h : m_h1 (128 - i).toNat w e = some r) : ((Op.cmpValue (FP.fcmp w FP.fconst2) .l).toInt < 0 → (w, e) = r) ∧ (¬ (Op.cmpValue (FP.fcmp w FP.fconst2) .l).toInt < 0 → ag_n32 (FP.fdiv w FP.fconst2) ∧ m_h1 (128 - (i + 1)).toNat (FP.fdiv w FP.fconst2) (e + 1) = some r) := by
  rw [show (128 - i).toNat = (128 - (i + 1)).toNat + 1 by omega] at h
  unfold m_h1 at h
  refine ⟨fun z => ?_, fun z => ?_⟩
  · rw [if_pos z] at h; exact Option.some.inj h
  · rw [if_neg z] at h
    by_cases q : ag_n32 (FP.fdiv w FP.fconst2)
    · rw [if_pos q] at h; exact ⟨q, h⟩
    · rw [if_neg q] at h; cases h
theorem m_h2S {w : UInt32} {e i : Int} {r : UInt32 × Int} (hi : i < 128) (h : m_h2 (128 - i).toNat w e = some r) : (0 ≤ (Op.cmpValue (FP.fcmp w FP.fconst1) .g).toInt → (w, e) = r) ∧ (¬ 0 ≤ (Op.cmpValue (FP.fcmp w FP.fconst1) .g).toInt → ag_n32 (FP.fmul w FP.fconst2) ∧ m_h2 (128 - (i + 1)).toNat (FP.fmul w FP.fconst2) (e + (-1)) = some r) := by
  rw [show (128 - i).toNat = (128 - (i + 1)).toNat + 1 by omega] at h
  unfold m_h2 at h
  refine ⟨fun z => ?_, fun z => ?_⟩
  · rw [if_pos z] at h; exact Option.some.inj h
  · rw [if_neg z] at h
    by_cases q : ag_n32 (FP.fmul w FP.fconst2)
    · rw [if_pos q] at h; exact ⟨q, h⟩
    · rw [if_neg q] at h; cases h
theorem m_h1E {w : UInt32} {e i : Int} {r : UInt32 × Int} (hi : 128 ≤ i) (h : m_h1 (128 - i).toNat w e = some r) : (w, e) = r := by
  rw [show (128 - i).toNat = 0 by omega] at h
  exact Option.some.inj h
theorem m_h2E {w : UInt32} {e i : Int} {r : UInt32 × Int} (hi : 128 ≤ i) (h : m_h2 (128 - i).toNat w e = some r) : (w, e) = r := by
  rw [show (128 - i).toNat = 0 by omega] at h
  exact Option.some.inj h
theorem m_h3S {w : UInt32} {e z : Int} (h : m_h3 w e = some z) : ag_n32 (FP.fsub w FP.fconst1) ∧ ag_n32 (FP.fmul (FP.fsub w FP.fconst1) 1258291200) ∧ (0 ≤ e ∧ e < 2147483648) ∧ e * (2 ^ (23 : Int).toNat : Nat) + (FP.f2i (FP.fmul (FP.fsub w FP.fconst1) 1258291200)).toInt = z := by
  unfold m_h3 at h
  split at h
  · rename_i q
    exact ⟨q.1, q.2.1, q.2.2, Option.some.inj h⟩
  · cases h
theorem m_bitsS {v : UInt32} {z : Int} (h : m_bits v = some z) : ∃ r1 r2 : UInt32 × Int, ((Op.cmpValue (FP.fcmp v FP.fconst0) .g).toInt ≤ 0 → 0 = z) ∧ (¬ (Op.cmpValue (FP.fcmp v FP.fconst0) .g).toInt ≤ 0 → m_h1 128 v 127 = some r1 ∧ m_h2 128 r1.1 r1.2 = some r2 ∧ m_h3 r2.1 r2.2 = some z) := by
  unfold m_bits at h
  by_cases q : (Op.cmpValue (FP.fcmp v FP.fconst0) .g).toInt ≤ 0
  · rw [if_pos q] at h
    exact ⟨(0, 0), (0, 0), fun _ => Option.some.inj h, fun y => absurd q y⟩
  · rw [if_neg q] at h
    split at h
    · cases h
    · rename_i x hx
      split at h
      · cases h
      · rename_i y hy
        exact ⟨x, y, fun z => absurd z q, fun _ => ⟨hx, hy, h⟩⟩
section ARF
variable {E : Nat × (Int → Int)} {d : Nat} {M : ag_M} {r : ag_O → Prop} {pc : Nat} {ls : List (Option av)} {st : List av} {h : ag_H}
theorem AR.fdiv {a b : UInt32} (hc : M.2.2.2.2[pc]? = some (some (.fdiv, 1))) (ha : ag_n32 (FP.fdiv a b)) (k : AR E d M (pc + 1, ls, vF (FP.fdiv a b) :: st, h) r) : AR E d M (pc, ls, vF b :: vF a :: st, h) r := AR.one0 hc (fun _ => ag_ck_of ha) k
theorem AR.fmul {a b : UInt32} (hc : M.2.2.2.2[pc]? = some (some (.fmul, 1))) (ha : ag_n32 (FP.fmul a b)) (k : AR E d M (pc + 1, ls, vF (FP.fmul a b) :: st, h) r) : AR E d M (pc, ls, vF b :: vF a :: st, h) r := AR.one0 hc (fun _ => ag_ck_of ha) k
theorem AR.fsub {a b : UInt32} (hc : M.2.2.2.2[pc]? = some (some (.fsub, 1))) (ha : ag_n32 (FP.fsub a b)) (k : AR E d M (pc + 1, ls, vF (FP.fsub a b) :: st, h) r) : AR E d M (pc, ls, vF b :: vF a :: st, h) r := AR.one0 hc (fun _ => ag_ck_of ha) k
theorem AR.fbits {a : UInt32} {ix y n t : Nat} (hc : M.2.2.2.2[pc]? = some (some (.invokestatic ix, 3))) (hf : ag_TT.2.1 M.1 ix = some (13, y, n, t)) (ha : Op.cmpValue (FP.fcmp a a) .l = 0 ∧ st.length ≤ 4) (k : AR E d M (pc + 3, ls, vI a.toInt32.toInt :: st, h) r) : AR E d M (pc, ls, vF a :: st, h) r := by
  refine AR.one0 hc (fun call => ?_) k
  unfold ag_step
  dsimp only
  rw [hf]
  refine (ag_ck_of ⟨by simp only [List.length_cons]; omega, by decide, by decide⟩).trans ?_
  rw [show ag_lib 13 (vF a :: st) = some (vI a.toInt32.toInt :: st) from ag_ck_of ha.1]
end ARF
def m_fS (P : Int → Int) (s : Int) : Int := if P s = -1 then 0 else s / 6
def m_fC (P : Int → Int) (s : Int) : Int := if P s = -1 then 0 else 1
def m_meanR (P : Int → Int) : Int := if m_sum (m_fC P) 36 = 0 then -4 else (m_mv32 (m_sum (m_fS P) 36) (m_sum (m_fC P) 36)).toInt32.toInt
theorem m_mean_b (P : Int → Int) : ∀ k : Nat, k ≤ 36 → (0 ≤ m_sum (m_fC P) k ∧ m_sum (m_fC P) k ≤ k) ∧ (0 ≤ m_sum (m_fS P) k ∧ m_sum (m_fS P) k ≤ 5 * m_sum (m_fC P) k) := by
  intro k
  induction k with
  | zero => intro _; exact ⟨⟨Int.le_refl 0, Int.le_refl 0⟩, Int.le_refl 0, Int.le_refl 0⟩
  | succ k ih =>
    intro hk
    have h := ih (by omega)
    show (0 ≤ m_sum (m_fC P) k + m_fC P k ∧ m_sum (m_fC P) k + m_fC P k ≤ ((k + 1 : Nat) : Int)) ∧ (0 ≤ m_sum (m_fS P) k + m_fS P k ∧ m_sum (m_fS P) k + m_fS P k ≤ 5 * (m_sum (m_fC P) k + m_fC P k))
    have h1 : (k : Int) / 6 ≤ 5 := by omega
    have h2 : m_fC P k = if P k = -1 then 0 else 1 := rfl
    have h3 : m_fS P k = if P k = -1 then 0 else (k : Int) / 6 := rfl
    omega
theorem m_cnt_fC {P : Int → Int} (h : ∀ s, -1 ≤ P s ∧ P s ≤ 3) : m_cnt P 0 + m_cnt P 1 = m_sum (m_fC P) 36 := by
  unfold m_cnt
  rw [← m_sum_add]
  refine m_sum_ext 36 (fun k _ _ => ?_)
  have := h k
  unfold m_own m_fC
  omega
section L2O
variable {E : Nat × (Int → Int)} {C : List ag_C} {N : Nat → Int → Int} {x m : Nat} {P : Int → Int} {n : Int} {q p cl tn : Int → Int} {t bg en ca : Int} {gn pu mk : Int → Int} {H : List (Int × Int)}

theorem ev_X6_bitsOf {d : Nat} (hd : 1 ≤ d) {v : UInt32} {z : Int} (hz : m_bits v = some z) : Ev E d 104 [vF v] (C, N) (some (vI z), (C, N)) := by
  obtain ⟨d, rfl⟩ : ∃ j, d = j + 1 := ⟨d - 1, by omega⟩
  obtain ⟨r1, r2, hz1, hz3⟩ := m_bitsS hz
  refine Ev.intro (M := ag_mX6_bitsOf) rfl rfl ?_
  show AR E d _ (0, [some (vF v), none, none, none], [], (C, N)) _
  refine AR.blk 3 (f' := (3, [some (vF v), none, none, none], [vI ((Op.cmpValue (FP.fcmp (v) (FP.fconst0)) .g).toInt)], (C, N))) (fun _ => rfl) ?_
  refine AR.if_gt rfl (by first | omega | exact m_i32 _) (fun c1 => ?_) (fun c1 => ?_)
  · show AR E d _ (8, [some (vF v), none, none, none], [], (C, N)) _
    have hz2 := hz3 (by omega)
    refine AR.blk 6 (f' := (15, [some (vF v), some (vF v), some (vI 127), some (vI 0)], [], (C, N))) (fun _ => rfl) ?_
    suffices H15 : ∀ (j : Nat) (w : UInt32) (e : Int) (i : Int), (128 - i).toNat < j → (0 ≤ i ∧ i ≤ 128) → (m_h1 (128 - i).toNat w e = some r1) → AR E d ag_mX6_bitsOf (15, [some (vF v), some (vF w), some (vI e), some (vI i)], [], (C, N)) (fun o_ => o_ = (some (vI z), (C, N))) by
      exact H15 _ _ _ _ (Nat.lt_succ_self _) (by omega) hz2.1
    intro j
    induction j with
    | zero => intro w e i hj; exact absurd hj (Nat.not_lt_zero _)
    | succ j ih15 =>
      intro w e i hj15 i0 i1
      have z1 := fun hi => m_h1S (i := i) hi i1
      refine AR.blk 2 (f' := (19, [some (vF v), some (vF w), some (vI e), some (vI i)], [vI 128, vI i], (C, N))) (fun _ => rfl) ?_
      refine AR.ic_ge rfl (by first | omega | exact m_i32 _) (fun c2 => ?_) (fun c2 => ?_)
      · show AR E d _ (41, [some (vF v), some (vF w), some (vI e), some (vI i)], [], (C, N)) _
        have hwe : (w, e) = r1 := by first | exact m_h1E (by omega) i1 | exact (z1 (by omega)).1 (by omega)
        refine AR.blk 2 (f' := (43, [some (vF v), some (vF w), some (vI e), some (vI 0)], [], (C, N))) (fun _ => rfl) ?_
        suffices H43 : ∀ (j : Nat) (w2 : UInt32) (e2 : Int) (i2 : Int), (128 - i2).toNat < j → (0 ≤ i2 ∧ i2 ≤ 128) → (m_h2 (128 - i2).toNat w2 e2 = some r2) → AR E d ag_mX6_bitsOf (43, [some (vF v), some (vF w2), some (vI e2), some (vI i2)], [], (C, N)) (fun o_ => o_ = (some (vI z), (C, N))) by
          exact H43 _ _ _ _ (Nat.lt_succ_self _) (by omega) (by have zz := hz2.2.1; rw [← hwe] at zz; exact zz)
        intro j
        induction j with
        | zero => intro w2 e2 i2 hj; exact absurd hj (Nat.not_lt_zero _)
        | succ j ih43 =>
          intro w2 e2 i2 hj43 j0 j1
          have z2 := fun hi => m_h2S (i := i2) hi j1
          refine AR.blk 2 (f' := (47, [some (vF v), some (vF w2), some (vI e2), some (vI i2)], [vI 128, vI i2], (C, N))) (fun _ => rfl) ?_
          refine AR.ic_ge rfl (by first | omega | exact m_i32 _) (fun c3 => ?_) (fun c3 => ?_)
          · show AR E d _ (69, [some (vF v), some (vF w2), some (vI e2), some (vI i2)], [], (C, N)) _
            have hwe2 : (w2, e2) = r2 := by first | exact m_h2E (by omega) j1 | exact (z2 (by omega)).1 (by omega)
            have h3 := hz2.2.2
            rw [← hwe2] at h3
            have h4 := m_h3S h3
            have h5 := h4.2.2.1
            refine AR.blk 2 (f' := (72, [some (vF v), some (vF w2), some (vI e2), some (vI i2)], [vI 23, vI e2], (C, N))) (fun _ => rfl) ?_
            refine AR.ishl rfl (by first | omega | exact m_i32 _) ?_
            refine AR.blk 2 (f' := (75, [some (vF v), some (vF w2), some (vI e2), some (vI i2)], [vF FP.fconst1, vF w2, vI (e2 * (2 ^ (23 : Int).toNat : Nat))], (C, N))) (fun _ => rfl) ?_
            refine AR.fsub rfl (by first | exact ((z1 (by omega)).2 (by omega)).1 | exact ((z2 (by omega)).2 (by omega)).1 | exact h4.1 | exact h4.2.1) ?_
            refine AR.blk 1 (f' := (79, [some (vF v), some (vF w2), some (vI e2), some (vI i2)], [vF 1258291200, vF (FP.fsub (w2) (FP.fconst1)), vI (e2 * (2 ^ (23 : Int).toNat : Nat))], (C, N))) (fun _ => rfl) ?_
            refine AR.fmul rfl (by first | exact ((z1 (by omega)).2 (by omega)).1 | exact ((z2 (by omega)).2 (by omega)).1 | exact h4.1 | exact h4.2.1) ?_
            refine AR.blk 2 (f' := (82, [some (vF v), some (vF w2), some (vI e2), some (vI i2)], [vI ((e2 * (2 ^ (23 : Int).toNat : Nat)) + ((FP.f2i (FP.fmul (FP.fsub (w2) (FP.fconst1)) (1258291200))).toInt))], (C, N))) (fun _ => rfl) ?_
            exact AR.retI rfl (by first | exact hz1 (by omega) | exact h4.2.2.2) ⟨rfl, .inl rfl⟩ rfl
          · show AR E d _ (50, [some (vF v), some (vF w2), some (vI e2), some (vI i2)], [], (C, N)) _
            refine AR.blk 3 (f' := (53, [some (vF v), some (vF w2), some (vI e2), some (vI i2)], [vI ((Op.cmpValue (FP.fcmp (w2) (FP.fconst1)) .g).toInt)], (C, N))) (fun _ => rfl) ?_
            refine AR.if_ge rfl (by first | omega | exact m_i32 _) (fun c4 => ?_) (fun c4 => ?_)
            · show AR E d _ (69, [some (vF v), some (vF w2), some (vI e2), some (vI i2)], [], (C, N)) _
              have hwe2 : (w2, e2) = r2 := by first | exact m_h2E (by omega) j1 | exact (z2 (by omega)).1 (by omega)
              have h3 := hz2.2.2
              rw [← hwe2] at h3
              have h4 := m_h3S h3
              have h5 := h4.2.2.1
              refine AR.blk 2 (f' := (72, [some (vF v), some (vF w2), some (vI e2), some (vI i2)], [vI 23, vI e2], (C, N))) (fun _ => rfl) ?_
              refine AR.ishl rfl (by first | omega | exact m_i32 _) ?_
              refine AR.blk 2 (f' := (75, [some (vF v), some (vF w2), some (vI e2), some (vI i2)], [vF FP.fconst1, vF w2, vI (e2 * (2 ^ (23 : Int).toNat : Nat))], (C, N))) (fun _ => rfl) ?_
              refine AR.fsub rfl (by first | exact ((z1 (by omega)).2 (by omega)).1 | exact ((z2 (by omega)).2 (by omega)).1 | exact h4.1 | exact h4.2.1) ?_
              refine AR.blk 1 (f' := (79, [some (vF v), some (vF w2), some (vI e2), some (vI i2)], [vF 1258291200, vF (FP.fsub (w2) (FP.fconst1)), vI (e2 * (2 ^ (23 : Int).toNat : Nat))], (C, N))) (fun _ => rfl) ?_
              refine AR.fmul rfl (by first | exact ((z1 (by omega)).2 (by omega)).1 | exact ((z2 (by omega)).2 (by omega)).1 | exact h4.1 | exact h4.2.1) ?_
              refine AR.blk 2 (f' := (82, [some (vF v), some (vF w2), some (vI e2), some (vI i2)], [vI ((e2 * (2 ^ (23 : Int).toNat : Nat)) + ((FP.f2i (FP.fmul (FP.fsub (w2) (FP.fconst1)) (1258291200))).toInt))], (C, N))) (fun _ => rfl) ?_
              exact AR.retI rfl (by first | exact hz1 (by omega) | exact h4.2.2.2) ⟨rfl, .inl rfl⟩ rfl
            · show AR E d _ (56, [some (vF v), some (vF w2), some (vI e2), some (vI i2)], [], (C, N)) _
              refine AR.blk 2 (f' := (58, [some (vF v), some (vF w2), some (vI e2), some (vI i2)], [vF FP.fconst2, vF w2], (C, N))) (fun _ => rfl) ?_
              refine AR.fmul rfl (by first | exact ((z1 (by omega)).2 (by omega)).1 | exact ((z2 (by omega)).2 (by omega)).1 | exact h4.1 | exact h4.2.1) ?_
              refine AR.blk 4 (f' := (43, [some (vF v), some (vF (FP.fmul (w2) (FP.fconst2))), some (vI (e2 + (-1))), some (vI (i2 + 1))], [], (C, N))) (fun _ => rfl) ?_
              exact ih43 _ _ _ (by omega) (by omega) ((z2 (by omega)).2 (by omega)).2
      · show AR E d _ (22, [some (vF v), some (vF w), some (vI e), some (vI i)], [], (C, N)) _
        refine AR.blk 3 (f' := (25, [some (vF v), some (vF w), some (vI e), some (vI i)], [vI ((Op.cmpValue (FP.fcmp (w) (FP.fconst2)) .l).toInt)], (C, N))) (fun _ => rfl) ?_
        refine AR.if_lt rfl (by first | omega | exact m_i32 _) (fun c5 => ?_) (fun c5 => ?_)
        · show AR E d _ (41, [some (vF v), some (vF w), some (vI e), some (vI i)], [], (C, N)) _
          have hwe : (w, e) = r1 := by first | exact m_h1E (by omega) i1 | exact (z1 (by omega)).1 (by omega)
          refine AR.blk 2 (f' := (43, [some (vF v), some (vF w), some (vI e), some (vI 0)], [], (C, N))) (fun _ => rfl) ?_
          suffices H43 : ∀ (j : Nat) (w2 : UInt32) (e2 : Int) (i2 : Int), (128 - i2).toNat < j → (0 ≤ i2 ∧ i2 ≤ 128) → (m_h2 (128 - i2).toNat w2 e2 = some r2) → AR E d ag_mX6_bitsOf (43, [some (vF v), some (vF w2), some (vI e2), some (vI i2)], [], (C, N)) (fun o_ => o_ = (some (vI z), (C, N))) by
            exact H43 _ _ _ _ (Nat.lt_succ_self _) (by omega) (by have zz := hz2.2.1; rw [← hwe] at zz; exact zz)
          intro j
          induction j with
          | zero => intro w2 e2 i2 hj; exact absurd hj (Nat.not_lt_zero _)
          | succ j ih43 =>
            intro w2 e2 i2 hj43 j0 j1
            have z2 := fun hi => m_h2S (i := i2) hi j1
            refine AR.blk 2 (f' := (47, [some (vF v), some (vF w2), some (vI e2), some (vI i2)], [vI 128, vI i2], (C, N))) (fun _ => rfl) ?_
            refine AR.ic_ge rfl (by first | omega | exact m_i32 _) (fun c6 => ?_) (fun c6 => ?_)
            · show AR E d _ (69, [some (vF v), some (vF w2), some (vI e2), some (vI i2)], [], (C, N)) _
              have hwe2 : (w2, e2) = r2 := by first | exact m_h2E (by omega) j1 | exact (z2 (by omega)).1 (by omega)
              have h3 := hz2.2.2
              rw [← hwe2] at h3
              have h4 := m_h3S h3
              have h5 := h4.2.2.1
              refine AR.blk 2 (f' := (72, [some (vF v), some (vF w2), some (vI e2), some (vI i2)], [vI 23, vI e2], (C, N))) (fun _ => rfl) ?_
              refine AR.ishl rfl (by first | omega | exact m_i32 _) ?_
              refine AR.blk 2 (f' := (75, [some (vF v), some (vF w2), some (vI e2), some (vI i2)], [vF FP.fconst1, vF w2, vI (e2 * (2 ^ (23 : Int).toNat : Nat))], (C, N))) (fun _ => rfl) ?_
              refine AR.fsub rfl (by first | exact ((z1 (by omega)).2 (by omega)).1 | exact ((z2 (by omega)).2 (by omega)).1 | exact h4.1 | exact h4.2.1) ?_
              refine AR.blk 1 (f' := (79, [some (vF v), some (vF w2), some (vI e2), some (vI i2)], [vF 1258291200, vF (FP.fsub (w2) (FP.fconst1)), vI (e2 * (2 ^ (23 : Int).toNat : Nat))], (C, N))) (fun _ => rfl) ?_
              refine AR.fmul rfl (by first | exact ((z1 (by omega)).2 (by omega)).1 | exact ((z2 (by omega)).2 (by omega)).1 | exact h4.1 | exact h4.2.1) ?_
              refine AR.blk 2 (f' := (82, [some (vF v), some (vF w2), some (vI e2), some (vI i2)], [vI ((e2 * (2 ^ (23 : Int).toNat : Nat)) + ((FP.f2i (FP.fmul (FP.fsub (w2) (FP.fconst1)) (1258291200))).toInt))], (C, N))) (fun _ => rfl) ?_
              exact AR.retI rfl (by first | exact hz1 (by omega) | exact h4.2.2.2) ⟨rfl, .inl rfl⟩ rfl
            · show AR E d _ (50, [some (vF v), some (vF w2), some (vI e2), some (vI i2)], [], (C, N)) _
              refine AR.blk 3 (f' := (53, [some (vF v), some (vF w2), some (vI e2), some (vI i2)], [vI ((Op.cmpValue (FP.fcmp (w2) (FP.fconst1)) .g).toInt)], (C, N))) (fun _ => rfl) ?_
              refine AR.if_ge rfl (by first | omega | exact m_i32 _) (fun c7 => ?_) (fun c7 => ?_)
              · show AR E d _ (69, [some (vF v), some (vF w2), some (vI e2), some (vI i2)], [], (C, N)) _
                have hwe2 : (w2, e2) = r2 := by first | exact m_h2E (by omega) j1 | exact (z2 (by omega)).1 (by omega)
                have h3 := hz2.2.2
                rw [← hwe2] at h3
                have h4 := m_h3S h3
                have h5 := h4.2.2.1
                refine AR.blk 2 (f' := (72, [some (vF v), some (vF w2), some (vI e2), some (vI i2)], [vI 23, vI e2], (C, N))) (fun _ => rfl) ?_
                refine AR.ishl rfl (by first | omega | exact m_i32 _) ?_
                refine AR.blk 2 (f' := (75, [some (vF v), some (vF w2), some (vI e2), some (vI i2)], [vF FP.fconst1, vF w2, vI (e2 * (2 ^ (23 : Int).toNat : Nat))], (C, N))) (fun _ => rfl) ?_
                refine AR.fsub rfl (by first | exact ((z1 (by omega)).2 (by omega)).1 | exact ((z2 (by omega)).2 (by omega)).1 | exact h4.1 | exact h4.2.1) ?_
                refine AR.blk 1 (f' := (79, [some (vF v), some (vF w2), some (vI e2), some (vI i2)], [vF 1258291200, vF (FP.fsub (w2) (FP.fconst1)), vI (e2 * (2 ^ (23 : Int).toNat : Nat))], (C, N))) (fun _ => rfl) ?_
                refine AR.fmul rfl (by first | exact ((z1 (by omega)).2 (by omega)).1 | exact ((z2 (by omega)).2 (by omega)).1 | exact h4.1 | exact h4.2.1) ?_
                refine AR.blk 2 (f' := (82, [some (vF v), some (vF w2), some (vI e2), some (vI i2)], [vI ((e2 * (2 ^ (23 : Int).toNat : Nat)) + ((FP.f2i (FP.fmul (FP.fsub (w2) (FP.fconst1)) (1258291200))).toInt))], (C, N))) (fun _ => rfl) ?_
                exact AR.retI rfl (by first | exact hz1 (by omega) | exact h4.2.2.2) ⟨rfl, .inl rfl⟩ rfl
              · show AR E d _ (56, [some (vF v), some (vF w2), some (vI e2), some (vI i2)], [], (C, N)) _
                refine AR.blk 2 (f' := (58, [some (vF v), some (vF w2), some (vI e2), some (vI i2)], [vF FP.fconst2, vF w2], (C, N))) (fun _ => rfl) ?_
                refine AR.fmul rfl (by first | exact ((z1 (by omega)).2 (by omega)).1 | exact ((z2 (by omega)).2 (by omega)).1 | exact h4.1 | exact h4.2.1) ?_
                refine AR.blk 4 (f' := (43, [some (vF v), some (vF (FP.fmul (w2) (FP.fconst2))), some (vI (e2 + (-1))), some (vI (i2 + 1))], [], (C, N))) (fun _ => rfl) ?_
                exact ih43 _ _ _ (by omega) (by omega) ((z2 (by omega)).2 (by omega)).2
        · show AR E d _ (28, [some (vF v), some (vF w), some (vI e), some (vI i)], [], (C, N)) _
          refine AR.blk 2 (f' := (30, [some (vF v), some (vF w), some (vI e), some (vI i)], [vF FP.fconst2, vF w], (C, N))) (fun _ => rfl) ?_
          refine AR.fdiv rfl (by first | exact ((z1 (by omega)).2 (by omega)).1 | exact ((z2 (by omega)).2 (by omega)).1 | exact h4.1 | exact h4.2.1) ?_
          refine AR.blk 4 (f' := (15, [some (vF v), some (vF (FP.fdiv (w) (FP.fconst2))), some (vI (e + 1)), some (vI (i + 1))], [], (C, N))) (fun _ => rfl) ?_
          exact ih15 _ _ _ (by omega) (by omega) ((z1 (by omega)).2 (by omega)).2
  · show AR E d _ (6, [some (vF v), none, none, none], [], (C, N)) _
    refine AR.blk 1 (f' := (7, [some (vF v), none, none, none], [vI 0], (C, N))) (fun _ => rfl) ?_
    exact AR.retI rfl (by first | exact hz1 (by omega) | exact h4.2.2.2) ⟨rfl, .inl rfl⟩ rfl

theorem ev_X6_mean {d : Nat} (hd : 2 ≤ d) (hx : g_isX C x) (hrB : g_rB N (x + 1 + 1) P n q p cl tn) (hrH : g_rH N (x + 1 + 7) H) (hrT : g_rT N (x + 1) t bg en ca gn pu mk) (hwB : g_wB P n q p cl tn) (hwH : g_wH H) (hwS : g_wS t bg en ca gn pu mk) : Ev E d 83 [vA x] (C, N) (some (vI (m_meanR P)), (C, N)) := by
  obtain ⟨d, rfl⟩ : ∃ j, d = j + 1 := ⟨d - 1, by omega⟩
  have s1 := hwS.1
  have s2 := hwS.2.1
  have s3 := hwS.2.2.1
  have s4 := hwS.2.2.2.1
  refine Ev.intro (M := ag_mX6_mean) rfl rfl ?_
  show AR E d _ (0, [some (vA x), none, none, none], [], (C, N)) _
  refine AR.blk 6 (f' := (6, [some (vA x), some (vI 0), some (vI 0), some (vI 0)], [], (C, N))) (fun _ => rfl) ?_
  suffices H6 : ∀ (j : Nat) (c : Int) (u : Int) (k : Int), (36 - k).toNat < j → (0 ≤ k ∧ k ≤ 36) → (c = m_sum (m_fS P) k.toNat) → (u = m_sum (m_fC P) k.toNat) → AR E d ag_mX6_mean (6, [some (vA x), some (vI c), some (vI u), some (vI k)], [], (C, N)) (fun o_ => o_ = (some (vI (m_meanR P)), (C, N))) by
    exact H6 _ _ _ _ (Nat.lt_succ_self _) (by omega) rfl rfl
  intro j
  induction j with
  | zero => intro c u k hj; exact absurd hj (Nat.not_lt_zero _)
  | succ j ih6 =>
    intro c u k hj6 i0 i1 i2
    have zb := m_mean_b P k.toNat (by omega)
    refine AR.blk 2 (f' := (9, [some (vA x), some (vI c), some (vI u), some (vI k)], [vI 36, vI k], (C, N))) (fun _ => rfl) ?_
    refine AR.ic_ge rfl (by omega) (fun c1 => ?_) (fun c1 => ?_)
    · show AR E d _ (43, [some (vA x), some (vI c), some (vI u), some (vI k)], [], (C, N)) _
      rw [show k.toNat = 36 by omega] at i1 i2 zb
      subst i1
      subst i2
      refine AR.blk 1 (f' := (44, [some (vA x), some (vI (m_sum (m_fS P) 36)), some (vI (m_sum (m_fC P) 36)), some (vI k)], [vI (m_sum (m_fC P) 36)], (C, N))) (fun _ => rfl) ?_
      refine AR.if_ne rfl (by omega) (fun c2 => ?_) (fun c2 => ?_)
      · show AR E d _ (52, [some (vA x), some (vI (m_sum (m_fS P) 36)), some (vI (m_sum (m_fC P) 36)), some (vI k)], [], (C, N)) _
        have h9 := m_mean_ok (s := m_sum (m_fS P) 36) (c := m_sum (m_fC P) 36) (by omega) (by omega)
        refine AR.blk 4 (f' := (56, [some (vA x), some (vI (m_sum (m_fS P) 36)), some (vI (m_sum (m_fC P) 36)), some (vI k)], [vF (FP.i2f (Int32.ofInt (m_sum (m_fC P) 36))), vF (FP.i2f (Int32.ofInt (m_sum (m_fS P) 36)))], (C, N))) (fun _ => rfl) ?_
        refine AR.fdiv rfl h9.1 ?_
        refine AR.callS [vF (FP.fdiv (FP.i2f (Int32.ofInt (m_sum (m_fS P) 36))) (FP.i2f (Int32.ofInt (m_sum (m_fC P) 36))))] (ev_X6_bitsOf (by omega) (N := N) (v := FP.fdiv (FP.i2f (Int32.ofInt (m_sum (m_fS P) 36))) (FP.i2f (Int32.ofInt (m_sum (m_fC P) 36)))) (z := (m_mv32 (m_sum (m_fS P) 36) (m_sum (m_fC P) 36)).toInt32.toInt) h9.2.2.1) rfl rfl rfl rfl rfl ?_
        show AR E d _ (60, [some (vA x), some (vI (m_sum (m_fS P) 36)), some (vI (m_sum (m_fC P) 36)), some (vI k)], [vI ((m_mv32 (m_sum (m_fS P) 36) (m_sum (m_fC P) 36)).toInt32.toInt)], (C, N)) _
        exact AR.retI rfl (by unfold m_meanR; first | (rw [if_neg (by omega)]) | (rw [if_pos (by omega)])) ⟨rfl, .inl rfl⟩ rfl
      · show AR E d _ (47, [some (vA x), some (vI (m_sum (m_fS P) 36)), some (vI (m_sum (m_fC P) 36)), some (vI k)], [], (C, N)) _
        refine AR.blk 2 (f' := (60, [some (vA x), some (vI (m_sum (m_fS P) 36)), some (vI (m_sum (m_fC P) 36)), some (vI k)], [vI (-4)], (C, N))) (fun _ => rfl) ?_
        exact AR.retI rfl (by unfold m_meanR; first | (rw [if_neg (by omega)]) | (rw [if_pos (by omega)])) ⟨rfl, .inl rfl⟩ rfl
    · show AR E d _ (12, [some (vA x), some (vI c), some (vI u), some (vI k)], [], (C, N)) _
      refine AR.blk 1 (f' := (13, [some (vA x), some (vI c), some (vI u), some (vI k)], [vA x], (C, N))) (fun _ => rfl) ?_
      refine AR.getR rfl rfl hx.1 (by decide) rfl ?_
      refine AR.getR rfl rfl hx.2.1.1 (by decide) rfl ?_
      refine AR.blk 1 (f' := (20, [some (vA x), some (vI c), some (vI u), some (vI k)], [vI k, vA (x + 1 + 1)], (C, N))) (fun _ => rfl) ?_
      refine AR.callV [vI k] (ev_X0_pieceAt (by omega) hx.2.1.2.1 hrB hwB k (by omega)) hx.2.1.2.1.1 rfl rfl rfl rfl rfl ?_
      show AR E d _ (23, [some (vA x), some (vI c), some (vI u), some (vI k)], [vI (P k)], (C, N)) _
      have f3 := hwB.1 k
      refine AR.blk 1 (f' := (24, [some (vA x), some (vI c), some (vI u), some (vI k)], [vI (-1), vI (P k)], (C, N))) (fun _ => rfl) ?_
      refine AR.ic_eq rfl (by omega) (fun c4 => ?_) (fun c4 => ?_)
      · show AR E d _ (37, [some (vA x), some (vI c), some (vI u), some (vI k)], [], (C, N)) _
        refine AR.blk 2 (f' := (6, [some (vA x), some (vI c), some (vI u), some (vI (k + 1))], [], (C, N))) (fun _ => rfl) ?_
        exact ih6 _ _ _ (by omega) (by omega) (by rw [m_sum_succ _ (by omega), ← i1]; unfold m_fS; omega) (by rw [m_sum_succ _ (by omega), ← i2]; unfold m_fC; omega)
      · show AR E d _ (27, [some (vA x), some (vI c), some (vI u), some (vI k)], [], (C, N)) _
        refine AR.blk 3 (f' := (31, [some (vA x), some (vI c), some (vI u), some (vI k)], [vI 6, vI k, vI c], (C, N))) (fun _ => rfl) ?_
        refine AR.idiv rfl (by omega) ?_
        refine AR.blk 5 (f' := (6, [some (vA x), some (vI (c + (k / 6))), some (vI (u + 1)), some (vI (k + 1))], [], (C, N))) (fun _ => rfl) ?_
        exact ih6 _ _ _ (by omega) (by omega) (by rw [m_sum_succ _ (by omega), ← i1]; unfold m_fS; omega) (by rw [m_sum_succ _ (by omega), ← i2]; unfold m_fC; omega)

theorem ev_X7_mean {d : Nat} (hd : 4 ≤ d) (hm : g_isM C m) (hr : g_rR (N (m + 1)) P n q p cl tn) (hw : g_wB P n q p cl tn) : Ev E d 167 [vA m] (C, N) (some (vI (m_meanR P)), (C, N)) := by
  obtain ⟨d, rfl⟩ : ∃ j, d = j + 1 := ⟨d - 1, by omega⟩
  have hcC := m_cnt_fC hw.1
  have hcB := (m_mean_b P 36 (by omega)).1
  refine Ev.intro (M := ag_mX7_mean) rfl rfl ?_
  show AR E d _ (0, [some (vA m), none, none, none], [], (C, N)) _
  refine AR.blk 4 (f' := (4, [some (vA m), some (vI 0), none, none], [vI 0, vA m], (C, N))) (fun _ => rfl) ?_
  refine AR.callV [vI 0] (ev_X7_pieces (by omega) hm hr hw 0 (by omega)) hm.1 rfl rfl rfl rfl rfl ?_
  show AR E d _ (7, [some (vA m), some (vI 0), none, none], [vI (m_cnt P 0)], (C, N)) _
  have f1 := m_cnt_in P 0
  refine AR.blk 2 (f' := (9, [some (vA m), some (vI 0), none, none], [vI 1, vA m, vI (m_cnt P 0)], (C, N))) (fun _ => rfl) ?_
  refine AR.callV [vI 1] (ev_X7_pieces (by omega) hm hr hw 1 (by omega)) hm.1 rfl rfl rfl rfl rfl ?_
  show AR E d _ (12, [some (vA m), some (vI 0), none, none], [vI (m_cnt P 1), vI (m_cnt P 0)], (C, N)) _
  have f2 := m_cnt_in P 1
  refine AR.blk 3 (f' := (15, [some (vA m), some (vI 0), some (vI ((m_cnt P 0) + (m_cnt P 1))), none], [vI ((m_cnt P 0) + (m_cnt P 1))], (C, N))) (fun _ => rfl) ?_
  refine AR.if_ne rfl (by omega) (fun c3 => ?_) (fun c3 => ?_)
  · show AR E d _ (21, [some (vA m), some (vI 0), some (vI ((m_cnt P 0) + (m_cnt P 1))), none], [], (C, N)) _
    refine AR.blk 2 (f' := (23, [some (vA m), some (vI 0), some (vI ((m_cnt P 0) + (m_cnt P 1))), some (vI 0)], [], (C, N))) (fun _ => rfl) ?_
    suffices H23 : ∀ (j : Nat) (c : Int) (k : Int), (36 - k).toNat < j → (0 ≤ k ∧ k ≤ 36) → (c = m_sum (m_fS P) k.toNat) → AR E d ag_mX7_mean (23, [some (vA m), some (vI c), some (vI ((m_cnt P 0) + (m_cnt P 1))), some (vI k)], [], (C, N)) (fun o_ => o_ = (some (vI (m_meanR P)), (C, N))) by
      exact H23 _ _ _ (Nat.lt_succ_self _) (by omega) rfl
    intro j
    induction j with
    | zero => intro c k hj; exact absurd hj (Nat.not_lt_zero _)
    | succ j ih23 =>
      intro c k hj23 i0 i1
      have zb := m_mean_b P k.toNat (by omega)
      refine AR.blk 2 (f' := (26, [some (vA m), some (vI c), some (vI ((m_cnt P 0) + (m_cnt P 1))), some (vI k)], [vI 36, vI k], (C, N))) (fun _ => rfl) ?_
      refine AR.ic_ge rfl (by omega) (fun c4 => ?_) (fun c4 => ?_)
      · show AR E d _ (54, [some (vA m), some (vI c), some (vI ((m_cnt P 0) + (m_cnt P 1))), some (vI k)], [], (C, N)) _
        rw [show k.toNat = 36 by omega] at i1 zb
        subst i1
        have h9 := m_mean_ok (s := m_sum (m_fS P) 36) (c := m_cnt P 0 + m_cnt P 1) (by omega) (by rw [hcC]; omega)
        refine AR.blk 4 (f' := (58, [some (vA m), some (vI (m_sum (m_fS P) 36)), some (vI ((m_cnt P 0) + (m_cnt P 1))), some (vI k)], [vF (FP.i2f (Int32.ofInt ((m_cnt P 0) + (m_cnt P 1)))), vF (FP.i2f (Int32.ofInt (m_sum (m_fS P) 36)))], (C, N))) (fun _ => rfl) ?_
        refine AR.fdiv rfl (by first | exact h9.1 | exact h9.2.1) ?_
        refine AR.fbits rfl rfl ⟨(by first | exact h9.1 | exact h9.2.1), Nat.le_of_ble_eq_true rfl⟩ ?_
        exact AR.retI rfl (by unfold m_meanR; first | (rw [if_neg (by omega), ← hcC]; rfl) | (rw [if_pos (by omega)])) ⟨rfl, .inl rfl⟩ rfl
      · show AR E d _ (29, [some (vA m), some (vI c), some (vI ((m_cnt P 0) + (m_cnt P 1))), some (vI k)], [], (C, N)) _
        refine AR.blk 3 (f' := (32, [some (vA m), some (vI c), some (vI ((m_cnt P 0) + (m_cnt P 1))), some (vI k)], [vI k, vA m, vI c], (C, N))) (fun _ => rfl) ?_
        refine AR.callV [vI k] (ev_X7_pieceAt (by omega) hm hr hw k (by omega)) hm.1 rfl rfl rfl rfl rfl ?_
        show AR E d _ (35, [some (vA m), some (vI c), some (vI ((m_cnt P 0) + (m_cnt P 1))), some (vI k)], [vI (P k + 1), vI c], (C, N)) _
        have f5 := hw.1 k
        refine AR.if_le rfl (by omega) (fun c6 => ?_) (fun c6 => ?_)
        · show AR E d _ (45, [some (vA m), some (vI c), some (vI ((m_cnt P 0) + (m_cnt P 1))), some (vI k)], [vI c], (C, N)) _
          refine AR.blk 5 (f' := (23, [some (vA m), some (vI (c + 0)), some (vI ((m_cnt P 0) + (m_cnt P 1))), some (vI (k + 1))], [], (C, N))) (fun _ => rfl) ?_
          exact ih23 _ _ (by omega) (by omega) (by rw [m_sum_succ _ (by omega), ← i1]; unfold m_fS; omega)
        · show AR E d _ (38, [some (vA m), some (vI c), some (vI ((m_cnt P 0) + (m_cnt P 1))), some (vI k)], [vI c], (C, N)) _
          refine AR.blk 2 (f' := (41, [some (vA m), some (vI c), some (vI ((m_cnt P 0) + (m_cnt P 1))), some (vI k)], [vI 6, vI k, vI c], (C, N))) (fun _ => rfl) ?_
          refine AR.idiv rfl (by omega) ?_
          refine AR.blk 5 (f' := (23, [some (vA m), some (vI (c + (k / 6))), some (vI ((m_cnt P 0) + (m_cnt P 1))), some (vI (k + 1))], [], (C, N))) (fun _ => rfl) ?_
          exact ih23 _ _ (by omega) (by omega) (by rw [m_sum_succ _ (by omega), ← i1]; unfold m_fS; omega)
  · show AR E d _ (18, [some (vA m), some (vI 0), some (vI ((m_cnt P 0) + (m_cnt P 1))), none], [], (C, N)) _
    refine AR.blk 1 (f' := (20, [some (vA m), some (vI 0), some (vI ((m_cnt P 0) + (m_cnt P 1))), none], [vI (-4)], (C, N))) (fun _ => rfl) ?_
    exact AR.retI rfl (by unfold m_meanR; first | (rw [if_neg (by omega), ← hcC]; rfl) | (rw [if_pos (by omega)])) ⟨rfl, .inl rfl⟩ rfl
end L2O
