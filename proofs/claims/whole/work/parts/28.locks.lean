/-! LEVEL 2: a board of the class: locks and copies -/
theorem g_rB_cl {N : Nat → Int → Int} {b : Nat} {P : Int → Int} {n : Int} {q p cl tn : Int → Int} (hr : g_rB N b P n q p cl tn) (s c : Int) : g_rB (ag_upd N (b + 4) s c) b P n q p (m_set cl s c) tn := by
  refine ⟨fun t h0 h1 => ?_, ?_, fun k h0 h1 => ?_, fun k h0 h1 => ?_⟩
  · rw [ag_upd_ne (by omega)]; exact hr.1 t h0 h1
  · rw [ag_upd_ne (by omega)]; exact hr.2.1
  · rw [ag_upd_ne (by omega), ag_upd_ne (by omega)]; exact hr.2.2.1 k h0 h1
  · refine ⟨?_, ?_⟩
    · unfold m_set
      by_cases e : k = s
      · subst e; rw [if_pos rfl]; exact ag_upd_eq
      · rw [if_neg e, ag_upd_nk e]; exact (hr.2.2.2 k h0 h1).1
    · rw [ag_upd_ne (by omega)]; exact (hr.2.2.2 k h0 h1).2
theorem g_rB_tn {N : Nat → Int → Int} {b : Nat} {P : Int → Int} {n : Int} {q p cl tn : Int → Int} (hr : g_rB N b P n q p cl tn) (s c : Int) : g_rB (ag_upd N (b + 5) s c) b P n q p cl (m_set tn s c) := by
  refine ⟨fun t h0 h1 => ?_, ?_, fun k h0 h1 => ?_, fun k h0 h1 => ?_⟩
  · rw [ag_upd_ne (by omega)]; exact hr.1 t h0 h1
  · rw [ag_upd_ne (by omega)]; exact hr.2.1
  · rw [ag_upd_ne (by omega), ag_upd_ne (by omega)]; exact hr.2.2.1 k h0 h1
  · refine ⟨?_, ?_⟩
    · rw [ag_upd_ne (by omega)]; exact (hr.2.2.2 k h0 h1).1
    · unfold m_set
      by_cases e : k = s
      · subst e; rw [if_pos rfl]; exact ag_upd_eq
      · rw [if_neg e, ag_upd_nk e]; exact (hr.2.2.2 k h0 h1).2
theorem g_rB_q {N : Nat → Int → Int} {b : Nat} {P : Int → Int} {n : Int} {q p cl tn : Int → Int} (hr : g_rB N b P n q p cl tn) (s c : Int) : g_rB (ag_upd N (b + 2) s c) b P n (m_set q s c) p cl tn := by
  refine ⟨fun t h0 h1 => ?_, ?_, fun k h0 h1 => ?_, fun k h0 h1 => ?_⟩
  · rw [ag_upd_ne (by omega)]; exact hr.1 t h0 h1
  · rw [ag_upd_ne (by omega)]; exact hr.2.1
  · refine ⟨?_, ?_⟩
    · unfold m_set
      by_cases e : k = s
      · subst e; rw [if_pos rfl]; exact ag_upd_eq
      · rw [if_neg e, ag_upd_nk e]; exact (hr.2.2.1 k h0 h1).1
    · rw [ag_upd_ne (by omega)]; exact (hr.2.2.1 k h0 h1).2
  · rw [ag_upd_ne (by omega), ag_upd_ne (by omega)]; exact hr.2.2.2 k h0 h1
theorem g_rB_p {N : Nat → Int → Int} {b : Nat} {P : Int → Int} {n : Int} {q p cl tn : Int → Int} (hr : g_rB N b P n q p cl tn) (s c : Int) : g_rB (ag_upd N (b + 3) s c) b P n q (m_set p s c) cl tn := by
  refine ⟨fun t h0 h1 => ?_, ?_, fun k h0 h1 => ?_, fun k h0 h1 => ?_⟩
  · rw [ag_upd_ne (by omega)]; exact hr.1 t h0 h1
  · rw [ag_upd_ne (by omega)]; exact hr.2.1
  · refine ⟨?_, ?_⟩
    · rw [ag_upd_ne (by omega)]; exact (hr.2.2.1 k h0 h1).1
    · unfold m_set
      by_cases e : k = s
      · subst e; rw [if_pos rfl]; exact ag_upd_eq
      · rw [if_neg e, ag_upd_nk e]; exact (hr.2.2.1 k h0 h1).2
  · rw [ag_upd_ne (by omega), ag_upd_ne (by omega)]; exact hr.2.2.2 k h0 h1
theorem g_rB_n {N : Nat → Int → Int} {b : Nat} {P : Int → Int} {n : Int} {q p cl tn : Int → Int} (hr : g_rB N b P n q p cl tn) (c : Int) : g_rB (ag_upd N b 1 c) b P c q p cl tn := by
  refine ⟨fun t h0 h1 => ?_, ag_upd_eq, fun k h0 h1 => ?_, fun k h0 h1 => ?_⟩
  · rw [ag_upd_ne (by omega)]; exact hr.1 t h0 h1
  · rw [ag_upd_ne (by omega), ag_upd_ne (by omega)]; exact hr.2.2.1 k h0 h1
  · rw [ag_upd_ne (by omega), ag_upd_ne (by omega)]; exact hr.2.2.2 k h0 h1
def m_trn (P q p : Int → Int) (t : Int) (cl tn : Int → Int) : Nat → (Int → Int) × (Int → Int)
  | 0 => (cl, tn)
  | k + 1 => if t % p k = 0 ∧ P (q k) = -1 then (m_set (m_trn P q p t cl tn k).1 k (1 - (m_trn P q p t cl tn k).1 k), m_set (m_trn P q p t cl tn k).2 k ((m_trn P q p t cl tn k).2 k + 1)) else m_trn P q p t cl tn k
theorem m_trn_S (P q p : Int → Int) (t : Int) (cl tn : Int → Int) (k : Int) (h : 0 ≤ k) : m_trn P q p t cl tn (k + 1).toNat = if t % p k = 0 ∧ P (q k) = -1 then (m_set (m_trn P q p t cl tn k.toNat).1 k (1 - (m_trn P q p t cl tn k.toNat).1 k), m_set (m_trn P q p t cl tn k.toNat).2 k ((m_trn P q p t cl tn k.toNat).2 k + 1)) else m_trn P q p t cl tn k.toNat := by
  have e : ((k.toNat : Nat) : Int) = k := by omega
  rw [show (k + 1).toNat = k.toNat + 1 by omega]
  show (if t % p (k.toNat : Nat) = 0 ∧ P (q (k.toNat : Nat)) = -1 then (m_set (m_trn P q p t cl tn k.toNat).1 (k.toNat : Nat) (1 - (m_trn P q p t cl tn k.toNat).1 (k.toNat : Nat)), m_set (m_trn P q p t cl tn k.toNat).2 (k.toNat : Nat) ((m_trn P q p t cl tn k.toNat).2 (k.toNat : Nat) + 1)) else m_trn P q p t cl tn k.toNat) = _
  rw [e]
theorem m_trn_in (P q p : Int → Int) (t : Int) (cl tn : Int → Int) (h : ∀ k, (cl k = 0 ∨ cl k = 1) ∧ 0 ≤ tn k) : ∀ (k : Nat) j, ((m_trn P q p t cl tn k).1 j = 0 ∨ (m_trn P q p t cl tn k).1 j = 1) ∧ (0 ≤ (m_trn P q p t cl tn k).2 j ∧ (m_trn P q p t cl tn k).2 j ≤ tn j + 1) ∧ ((k : Int) ≤ j → (m_trn P q p t cl tn k).1 j = cl j ∧ (m_trn P q p t cl tn k).2 j = tn j) := by
  intro k
  induction k with
  | zero => intro j; have := h j; exact ⟨this.1, ⟨this.2, show tn j ≤ tn j + 1 by omega⟩, fun _ => ⟨rfl, rfl⟩⟩
  | succ k ih =>
    intro j
    unfold m_trn
    split
    · have h1 := ih k
      have h2 := ih j
      show ((if j = (k : Int) then _ else _) = 0 ∨ (if j = (k : Int) then _ else _) = 1) ∧ (0 ≤ (if j = (k : Int) then _ else _) ∧ (if j = (k : Int) then _ else _) ≤ tn j + 1) ∧ (((k + 1 : Nat) : Int) ≤ j → (if j = (k : Int) then _ else _) = cl j ∧ (if j = (k : Int) then _ else _) = tn j)
      by_cases e : j = (k : Int)
      · subst e
        have h3 := h1.2.2 (Int.le_refl _)
        refine ⟨by rw [if_pos rfl]; omega, by rw [if_pos rfl]; omega, fun z => by omega⟩
      · rw [if_neg e, if_neg e]
        exact ⟨h2.1, h2.2.1, fun z => h2.2.2 (by omega)⟩
    · have h2 := ih j
      exact ⟨h2.1, h2.2.1, fun z => h2.2.2 (by omega)⟩
theorem m_trn_w {P : Int → Int} {n : Int} {q p cl tn : Int → Int} (hw : g_wB P n q p cl tn) (t : Int) (k : Nat) (hk : (k : Int) ≤ n) : g_wB P n q p (m_trn P q p t cl tn k).1 (m_trn P q p t cl tn k).2 := by
  have h := m_trn_in P q p t cl tn hw.2.2.2.2.1 k
  refine ⟨hw.1, hw.2.1, hw.2.2.1, hw.2.2.2.1, fun j => ⟨(h j).1, (h j).2.1.1⟩, fun j hj => ?_⟩
  have h1 := (h j).2.2 (by omega)
  have h2 := hw.2.2.2.2.2 j hj
  rw [h1.1, h1.2]
  exact h2
section L2g
variable {E : Nat × (Int → Int)} {C : List ag_C} {N : Nat → Int → Int} {b : Nat} {P : Int → Int} {n : Int} {q p cl tn : Int → Int}

theorem g_up1 {N : Nat → Int → Int} {a : Nat} {k : Int} {P : Int → Int} (h : ∀ s, 0 ≤ s → s < k → N a s = P s) : ∀ s, 0 ≤ s → s < k + 1 → ag_upd N a k (P k) a s = P s := by
  intro s z1 z2
  by_cases e : s = k
  · subst e; exact ag_upd_eq
  · exact (ag_upd_nk e).trans (h s z1 (by omega))
theorem g_cp4 {N : Nat → Int → Int} {b : Nat} {k : Int} {q p cl tn : Int → Int} (j : Int) (h : j ≠ k → (N (b + 2) j = q j ∧ N (b + 3) j = p j) ∧ (N (b + 4) j = cl j ∧ N (b + 5) j = tn j)) : (ag_upd (ag_upd (ag_upd (ag_upd N (b + 2) k (q k)) (b + 3) k (p k)) (b + 4) k (cl k)) (b + 5) k (tn k) (b + 2) j = q j ∧ ag_upd (ag_upd (ag_upd (ag_upd N (b + 2) k (q k)) (b + 3) k (p k)) (b + 4) k (cl k)) (b + 5) k (tn k) (b + 3) j = p j) ∧ (ag_upd (ag_upd (ag_upd (ag_upd N (b + 2) k (q k)) (b + 3) k (p k)) (b + 4) k (cl k)) (b + 5) k (tn k) (b + 4) j = cl j ∧ ag_upd (ag_upd (ag_upd (ag_upd N (b + 2) k (q k)) (b + 3) k (p k)) (b + 4) k (cl k)) (b + 5) k (tn k) (b + 5) j = tn j) := by
  by_cases e : j = k
  · subst e
    refine ⟨⟨?_, ?_⟩, ?_, ?_⟩
    · rw [ag_upd_ne (by omega), ag_upd_ne (by omega), ag_upd_ne (by omega)]; exact ag_upd_eq
    · rw [ag_upd_ne (by omega), ag_upd_ne (by omega)]; exact ag_upd_eq
    · rw [ag_upd_ne (by omega)]; exact ag_upd_eq
    · exact ag_upd_eq
  · rw [ag_upd_nk e, ag_upd_nk e, ag_upd_nk e, ag_upd_nk e, ag_upd_nk e, ag_upd_nk e, ag_upd_nk e, ag_upd_nk e, ag_upd_nk e, ag_upd_nk e, ag_upd_nk e, ag_upd_nk e, ag_upd_nk e, ag_upd_nk e, ag_upd_nk e, ag_upd_nk e]
    exact h e

theorem ev_X0_turnLocks {d : Nat} (hd : 2 ≤ d) (hb : g_isB C b) (hr : g_rB N b P n q p cl tn) (hw : g_wB P n q p cl tn) (t : Int) (h0 : 0 ≤ t ∧ t ≤ 121) : ∃ o_, Ev E d 10 [vA b, vI t] (C, N) o_ ∧ g_QB C N b none P n q p ((m_trn P q p t cl tn n.toNat).1) ((m_trn P q p t cl tn n.toNat).2) o_ := by
  obtain ⟨d, rfl⟩ : ∃ j, d = j + 1 := ⟨d - 1, by omega⟩
  have y9 := hw.2.2.1
  refine Ev.introQ (M := ag_mX0_turnLocks) rfl rfl ?_
  show AR E d _ (0, [some (vA b), some (vI t), none, none], [], (C, N)) _
  refine AR.blk 2 (f' := (2, [some (vA b), some (vI t), some (vI 0), none], [], (C, N))) (fun _ => rfl) ?_
  suffices H2 : ∀ (j : Nat) (k : Int) (z3 : Option av) (ck : Int → Int) (tk : Int → Int) (N9 : Nat → Int → Int), (4 - k).toNat < j → (0 ≤ k ∧ k ≤ 4 ∧ k ≤ n) → ((ck, tk) = m_trn P q p t cl tn k.toNat) → (g_rB N9 b P n q p ck tk) → (∀ a, ¬ (b ≤ a ∧ a < b + 6) → N9 a = N a) → AR E d ag_mX0_turnLocks (2, [some (vA b), some (vI t), some (vI k), z3], [], (C, N9)) (g_QB C N b none P n q p ((m_trn P q p t cl tn n.toNat).1) ((m_trn P q p t cl tn n.toNat).2)) by
    exact H2 _ _ _ (cl) (tn) _ (Nat.lt_succ_self _) (by omega) rfl hr (fun _ _ => rfl)
  intro j
  induction j with
  | zero => intro k z3 ck tk N9 hj; exact absurd hj (Nat.not_lt_zero _)
  | succ j ih2 =>
    intro k z3 ck tk N9 hj2 i0 i1 hr9 hf9
    have y0 := hw.2.2.1
    have y1 := fun hk => hw.2.2.2.1 k (by omega) hk
    have hw9 : g_wB P n q p ck tk := (by have z := m_trn_w hw t k.toNat (by omega); rw [← i1] at z; exact z)
    have y3 := hw.1 (q k)
    have y4 := fun hk : k < n => And.intro (Int.emod_nonneg t (show p k ≠ 0 by have := y1 hk; omega)) (Int.emod_lt_of_pos t (show 0 < p k by have := y1 hk; omega))
    refine AR.blk 2 (f' := (4, [some (vA b), some (vI t), some (vI k), z3], [vA b, vI k], (C, N9))) (fun _ => rfl) ?_
    have f1 := hw9.2.2.1
    refine AR.getI rfl rfl hb.1 (by decide) (v := n) hr9.2.1 ?_
    refine AR.ic_ge rfl (by first | omega | (have := y4 (by omega); omega)) (fun c2 => ?_) (fun c2 => ?_)
    · show AR E d _ (82, [some (vA b), some (vI t), some (vI k), z3], [], (C, N9)) _
      refine AR.endV rfl rfl ?_
      refine ⟨_, rfl, ?_, hf9⟩
      (rw [show k = n by omega] at i1; rw [← i1]; exact hr9)
    · show AR E d _ (10, [some (vA b), some (vI t), some (vI k), z3], [], (C, N9)) _
      refine AR.blk 2 (f' := (12, [some (vA b), some (vI t), some (vI k), z3], [vI 4, vI k], (C, N9))) (fun _ => rfl) ?_
      refine AR.ic_ge rfl (by first | omega | (have := y4 (by omega); omega)) (fun c3 => ?_) (fun c3 => ?_)
      · show AR E d _ (82, [some (vA b), some (vI t), some (vI k), z3], [], (C, N9)) _
        refine AR.endV rfl rfl ?_
        refine ⟨_, rfl, ?_, hf9⟩
        (rw [show k = n by omega] at i1; rw [← i1]; exact hr9)
      · show AR E d _ (15, [some (vA b), some (vI t), some (vI k), z3], [], (C, N9)) _
        refine AR.blk 1 (f' := (16, [some (vA b), some (vI t), some (vI k), z3], [vA b], (C, N9))) (fun _ => rfl) ?_
        refine AR.getR rfl rfl hb.1 (by decide) rfl ?_
        refine AR.blk 1 (f' := (20, [some (vA b), some (vI t), some (vI k), z3], [vI k, vA (b + 3)], (C, N9))) (fun _ => rfl) ?_
        have f4 := hw9.2.2.2.1 k (by omega) (by omega)
        refine AR.iald rfl hb.2.2.2.1 (by first | omega | (have := y4 (by omega); omega)) (v := p k) (hr9.2.2.1 _ (by omega) (by omega)).2 ?_
        refine AR.blk 2 (f' := (23, [some (vA b), some (vI t), some (vI k), some (vI (p k))], [vI (p k)], (C, N9))) (fun _ => rfl) ?_
        refine AR.if_le rfl (by first | omega | (have := y4 (by omega); omega)) (fun c5 => ?_) (fun c5 => ?_)
        · show AR E d _ (76, [some (vA b), some (vI t), some (vI k), some (vI (p k))], [], (C, N9)) _
          refine AR.blk 2 (f' := (2, [some (vA b), some (vI t), some (vI (k + 1)), some (vI (p k))], [], (C, N9))) (fun _ => rfl) ?_
          exact ih2 _ _ (_) (_) _ (by omega) (by omega) (by rw [m_trn_S P q p t cl tn k (by omega), ← i1]; exact (if_neg (show ¬ (t % p k = 0 ∧ P (q k) = -1) by omega)).symm) hr9 hf9
        · show AR E d _ (26, [some (vA b), some (vI t), some (vI k), some (vI (p k))], [], (C, N9)) _
          refine AR.blk 2 (f' := (28, [some (vA b), some (vI t), some (vI k), some (vI (p k))], [vI (p k), vI t], (C, N9))) (fun _ => rfl) ?_
          refine AR.irem rfl (by first | omega | (have := y4 (by omega); omega)) ?_
          refine AR.if_ne rfl (by first | omega | (have := y4 (by omega); omega)) (fun c6 => ?_) (fun c6 => ?_)
          · show AR E d _ (76, [some (vA b), some (vI t), some (vI k), some (vI (p k))], [], (C, N9)) _
            refine AR.blk 2 (f' := (2, [some (vA b), some (vI t), some (vI (k + 1)), some (vI (p k))], [], (C, N9))) (fun _ => rfl) ?_
            exact ih2 _ _ (_) (_) _ (by omega) (by omega) (by rw [m_trn_S P q p t cl tn k (by omega), ← i1]; exact (if_neg (show ¬ (t % p k = 0 ∧ P (q k) = -1) by omega)).symm) hr9 hf9
          · show AR E d _ (32, [some (vA b), some (vI t), some (vI k), some (vI (p k))], [], (C, N9)) _
            refine AR.blk 2 (f' := (34, [some (vA b), some (vI t), some (vI k), some (vI (p k))], [vA b, vA b], (C, N9))) (fun _ => rfl) ?_
            refine AR.getR rfl rfl hb.1 (by decide) rfl ?_
            refine AR.blk 1 (f' := (38, [some (vA b), some (vI t), some (vI k), some (vI (p k))], [vI k, vA (b + 2), vA b], (C, N9))) (fun _ => rfl) ?_
            have f7 := hw9.2.2.2.1 k (by omega) (by omega)
            refine AR.iald rfl hb.2.2.1 (by first | omega | (have := y4 (by omega); omega)) (v := q k) (hr9.2.2.1 _ (by omega) (by omega)).1 ?_
            refine AR.callV [vI (q k)] (ev_X0_pieceAt (by omega) hb hr9 hw9 (q k) (by first | omega | (have := y4 (by omega); omega))) hb.1 rfl rfl rfl rfl rfl ?_
            show AR E d _ (42, [some (vA b), some (vI t), some (vI k), some (vI (p k))], [vI (P (q k))], (C, N9)) _
            have f8 := hw9.1 (q k)
            refine AR.blk 1 (f' := (43, [some (vA b), some (vI t), some (vI k), some (vI (p k))], [vI (-1), vI (P (q k))], (C, N9))) (fun _ => rfl) ?_
            refine AR.ic_ne rfl (by first | omega | (have := y4 (by omega); omega)) (fun c9 => ?_) (fun c9 => ?_)
            · show AR E d _ (76, [some (vA b), some (vI t), some (vI k), some (vI (p k))], [], (C, N9)) _
              refine AR.blk 2 (f' := (2, [some (vA b), some (vI t), some (vI (k + 1)), some (vI (p k))], [], (C, N9))) (fun _ => rfl) ?_
              exact ih2 _ _ (_) (_) _ (by omega) (by omega) (by rw [m_trn_S P q p t cl tn k (by omega), ← i1]; exact (if_neg (show ¬ (t % p k = 0 ∧ P (q k) = -1) by omega)).symm) hr9 hf9
            · show AR E d _ (46, [some (vA b), some (vI t), some (vI k), some (vI (p k))], [], (C, N9)) _
              refine AR.blk 1 (f' := (47, [some (vA b), some (vI t), some (vI k), some (vI (p k))], [vA b], (C, N9))) (fun _ => rfl) ?_
              refine AR.getR rfl rfl hb.1 (by decide) rfl ?_
              refine AR.blk 2 (f' := (52, [some (vA b), some (vI t), some (vI k), some (vI (p k))], [vA b, vI k, vA (b + 4)], (C, N9))) (fun _ => rfl) ?_
              refine AR.getR rfl rfl hb.1 (by decide) rfl ?_
              refine AR.blk 1 (f' := (56, [some (vA b), some (vI t), some (vI k), some (vI (p k))], [vI k, vA (b + 4), vI k, vA (b + 4)], (C, N9))) (fun _ => rfl) ?_
              have f10 := hw9.2.2.2.2.1 k
              refine AR.zald rfl hb.2.2.2.2.1 (by first | omega | (have := y4 (by omega); omega)) (v := ck k) (hr9.2.2.2 _ (by omega) (by omega)).1 ?_
              refine AR.if_ne rfl (by first | omega | (have := y4 (by omega); omega)) (fun c11 => ?_) (fun c11 => ?_)
              · show AR E d _ (64, [some (vA b), some (vI t), some (vI k), some (vI (p k))], [vI k, vA (b + 4)], (C, N9)) _
                refine AR.blk 1 (f' := (65, [some (vA b), some (vI t), some (vI k), some (vI (p k))], [vI 0, vI k, vA (b + 4)], (C, N9))) (fun _ => rfl) ?_
                refine AR.zast rfl hb.2.2.2.2.1 (by first | omega | (have := y4 (by omega); omega)) ?_
                show AR E d _ (66, [some (vA b), some (vI t), some (vI k), some (vI (p k))], [], (C, ag_upd N9 (b + 4) k 0)) _
                have hrN13 := g_rB_cl hr9 k 0
                have hfN13 : ∀ a, ¬ (b ≤ a ∧ a < b + 6) → (ag_upd N9 (b + 4) k 0) a = N a := fun a ha => (ag_upd_ne (by omega)).trans (hf9 a ha)
                generalize ag_upd N9 (b + 4) k 0 = N13 at *
                refine AR.blk 1 (f' := (67, [some (vA b), some (vI t), some (vI k), some (vI (p k))], [vA b], (C, N13))) (fun _ => rfl) ?_
                refine AR.getR rfl rfl hb.1 (by decide) rfl ?_
                refine AR.blk 2 (f' := (72, [some (vA b), some (vI t), some (vI k), some (vI (p k))], [vI k, vA (b + 5), vI k, vA (b + 5)], (C, N13))) (fun _ => rfl) ?_
                have f14 := hw9.2.2.2.2.1 k
                refine AR.iald rfl hb.2.2.2.2.2 (by first | omega | (have := y4 (by omega); omega)) (v := tk k) (hrN13.2.2.2 _ (by omega) (by omega)).2 ?_
                refine AR.blk 2 (f' := (75, [some (vA b), some (vI t), some (vI k), some (vI (p k))], [vI ((tk k) + 1), vI k, vA (b + 5)], (C, N13))) (fun _ => rfl) ?_
                refine AR.iast rfl hb.2.2.2.2.2 (by first | omega | (have := y4 (by omega); omega)) ?_
                show AR E d _ (76, [some (vA b), some (vI t), some (vI k), some (vI (p k))], [], (C, ag_upd N13 (b + 5) k ((tk k) + 1))) _
                have hrN16 := g_rB_tn hrN13 k ((tk k) + 1)
                have hfN16 : ∀ a, ¬ (b ≤ a ∧ a < b + 6) → (ag_upd N13 (b + 5) k ((tk k) + 1)) a = N a := fun a ha => (ag_upd_ne (by omega)).trans (hfN13 a ha)
                generalize ag_upd N13 (b + 5) k ((tk k) + 1) = N16 at *
                refine AR.blk 2 (f' := (2, [some (vA b), some (vI t), some (vI (k + 1)), some (vI (p k))], [], (C, N16))) (fun _ => rfl) ?_
                exact ih2 _ _ (_) (_) _ (by omega) (by omega) (by rw [m_trn_S P q p t cl tn k (by omega), ← i1, if_pos (show t % p k = 0 ∧ P (q k) = -1 by omega)]; show _ = (m_set ck k (1 - ck k), _); first | rw [show 1 - ck k = 0 by omega] | rw [show 1 - ck k = 1 by omega]) hrN16 hfN16
              · show AR E d _ (60, [some (vA b), some (vI t), some (vI k), some (vI (p k))], [vI k, vA (b + 4)], (C, N9)) _
                refine AR.blk 2 (f' := (65, [some (vA b), some (vI t), some (vI k), some (vI (p k))], [vI 1, vI k, vA (b + 4)], (C, N9))) (fun _ => rfl) ?_
                refine AR.zast rfl hb.2.2.2.2.1 (by first | omega | (have := y4 (by omega); omega)) ?_
                show AR E d _ (66, [some (vA b), some (vI t), some (vI k), some (vI (p k))], [], (C, ag_upd N9 (b + 4) k 1)) _
                have hrN18 := g_rB_cl hr9 k 1
                have hfN18 : ∀ a, ¬ (b ≤ a ∧ a < b + 6) → (ag_upd N9 (b + 4) k 1) a = N a := fun a ha => (ag_upd_ne (by omega)).trans (hf9 a ha)
                generalize ag_upd N9 (b + 4) k 1 = N18 at *
                refine AR.blk 1 (f' := (67, [some (vA b), some (vI t), some (vI k), some (vI (p k))], [vA b], (C, N18))) (fun _ => rfl) ?_
                refine AR.getR rfl rfl hb.1 (by decide) rfl ?_
                refine AR.blk 2 (f' := (72, [some (vA b), some (vI t), some (vI k), some (vI (p k))], [vI k, vA (b + 5), vI k, vA (b + 5)], (C, N18))) (fun _ => rfl) ?_
                have f19 := hw9.2.2.2.2.1 k
                refine AR.iald rfl hb.2.2.2.2.2 (by first | omega | (have := y4 (by omega); omega)) (v := tk k) (hrN18.2.2.2 _ (by omega) (by omega)).2 ?_
                refine AR.blk 2 (f' := (75, [some (vA b), some (vI t), some (vI k), some (vI (p k))], [vI ((tk k) + 1), vI k, vA (b + 5)], (C, N18))) (fun _ => rfl) ?_
                refine AR.iast rfl hb.2.2.2.2.2 (by first | omega | (have := y4 (by omega); omega)) ?_
                show AR E d _ (76, [some (vA b), some (vI t), some (vI k), some (vI (p k))], [], (C, ag_upd N18 (b + 5) k ((tk k) + 1))) _
                have hrN21 := g_rB_tn hrN18 k ((tk k) + 1)
                have hfN21 : ∀ a, ¬ (b ≤ a ∧ a < b + 6) → (ag_upd N18 (b + 5) k ((tk k) + 1)) a = N a := fun a ha => (ag_upd_ne (by omega)).trans (hfN18 a ha)
                generalize ag_upd N18 (b + 5) k ((tk k) + 1) = N21 at *
                refine AR.blk 2 (f' := (2, [some (vA b), some (vI t), some (vI (k + 1)), some (vI (p k))], [], (C, N21))) (fun _ => rfl) ?_
                exact ih2 _ _ (_) (_) _ (by omega) (by omega) (by rw [m_trn_S P q p t cl tn k (by omega), ← i1, if_pos (show t % p k = 0 ∧ P (q k) = -1 by omega)]; show _ = (m_set ck k (1 - ck k), _); first | rw [show 1 - ck k = 0 by omega] | rw [show 1 - ck k = 1 by omega]) hrN21 hfN21

theorem ev_X0_buildLock {d : Nat} (hd : 1 ≤ d) (hb : g_isB C b) (hr : g_rB N b P n q p cl tn) (hw : g_wB P n q p cl tn) (s y : Int) (h0 : 0 ≤ s ∧ s < 36) (h1 : 2 ≤ y ∧ y ≤ 5) (h2 : n < 4) : ∃ o_, Ev E d 9 [vA b, vI s, vI y] (C, N) o_ ∧ g_QB C N b (some (vI (n))) P (n + 1) (m_set q n s) (m_set p n y) (m_set cl n 0) (m_set tn n 0) o_ := by
  obtain ⟨d, rfl⟩ : ∃ j, d = j + 1 := ⟨d - 1, by omega⟩
  have y9 := hw.2.2.1
  refine Ev.introQ (M := ag_mX0_buildLock) rfl rfl ?_
  show AR E d _ (0, [some (vA b), some (vI s), some (vI y), none], [], (C, N)) _
  refine AR.blk 1 (f' := (1, [some (vA b), some (vI s), some (vI y), none], [vA b], (C, N))) (fun _ => rfl) ?_
  have f1 := hw.2.2.1
  refine AR.getI rfl rfl hb.1 (by decide) (v := n) hr.2.1 ?_
  refine AR.blk 2 (f' := (6, [some (vA b), some (vI s), some (vI y), some (vI n)], [vI n], (C, N))) (fun _ => rfl) ?_
  refine AR.if_lt rfl (by omega) (fun c2 => ?_) (fun c2 => ?_)
  · show AR E d _ (14, [some (vA b), some (vI s), some (vI y), some (vI n)], [], (C, N)) _
    refine AR.blk 1 (f' := (15, [some (vA b), some (vI s), some (vI y), some (vI n)], [vI (-1)], (C, N))) (fun _ => rfl) ?_
    refine AR.endI rfl (.inl rfl) ?_
    refine ⟨_, congrArg (fun z => (some (vI z), (C, N))) (show (-1) = n from (by omega)), ?_, (fun _ _ => rfl)⟩
    exact False.elim (by omega)
  · show AR E d _ (9, [some (vA b), some (vI s), some (vI y), some (vI n)], [], (C, N)) _
    refine AR.blk 2 (f' := (11, [some (vA b), some (vI s), some (vI y), some (vI n)], [vI 4, vI n], (C, N))) (fun _ => rfl) ?_
    refine AR.ic_lt rfl (by omega) (fun c3 => ?_) (fun c3 => ?_)
    · show AR E d _ (16, [some (vA b), some (vI s), some (vI y), some (vI n)], [], (C, N)) _
      refine AR.blk 1 (f' := (17, [some (vA b), some (vI s), some (vI y), some (vI n)], [vA b], (C, N))) (fun _ => rfl) ?_
      refine AR.getR rfl rfl hb.1 (by decide) rfl ?_
      refine AR.blk 2 (f' := (22, [some (vA b), some (vI s), some (vI y), some (vI n)], [vI s, vI n, vA (b + 2)], (C, N))) (fun _ => rfl) ?_
      refine AR.iast rfl hb.2.2.1 (by omega) ?_
      show AR E d _ (23, [some (vA b), some (vI s), some (vI y), some (vI n)], [], (C, ag_upd N (b + 2) n s)) _
      have hrN5 := g_rB_q hr n s
      have hfN5 : ∀ a, ¬ (b ≤ a ∧ a < b + 6) → (ag_upd N (b + 2) n s) a = N a := fun a ha => (ag_upd_ne (by omega)).trans ((fun _ _ => rfl) a ha)
      generalize ag_upd N (b + 2) n s = N5 at *
      refine AR.blk 1 (f' := (24, [some (vA b), some (vI s), some (vI y), some (vI n)], [vA b], (C, N5))) (fun _ => rfl) ?_
      refine AR.getR rfl rfl hb.1 (by decide) rfl ?_
      refine AR.blk 2 (f' := (29, [some (vA b), some (vI s), some (vI y), some (vI n)], [vI y, vI n, vA (b + 3)], (C, N5))) (fun _ => rfl) ?_
      refine AR.iast rfl hb.2.2.2.1 (by omega) ?_
      show AR E d _ (30, [some (vA b), some (vI s), some (vI y), some (vI n)], [], (C, ag_upd N5 (b + 3) n y)) _
      have hrN7 := g_rB_p hrN5 n y
      have hfN7 : ∀ a, ¬ (b ≤ a ∧ a < b + 6) → (ag_upd N5 (b + 3) n y) a = N a := fun a ha => (ag_upd_ne (by omega)).trans (hfN5 a ha)
      generalize ag_upd N5 (b + 3) n y = N7 at *
      refine AR.blk 1 (f' := (31, [some (vA b), some (vI s), some (vI y), some (vI n)], [vA b], (C, N7))) (fun _ => rfl) ?_
      refine AR.getR rfl rfl hb.1 (by decide) rfl ?_
      refine AR.blk 2 (f' := (36, [some (vA b), some (vI s), some (vI y), some (vI n)], [vI 0, vI n, vA (b + 4)], (C, N7))) (fun _ => rfl) ?_
      refine AR.zast rfl hb.2.2.2.2.1 (by omega) ?_
      show AR E d _ (37, [some (vA b), some (vI s), some (vI y), some (vI n)], [], (C, ag_upd N7 (b + 4) n 0)) _
      have hrN9 := g_rB_cl hrN7 n 0
      have hfN9 : ∀ a, ¬ (b ≤ a ∧ a < b + 6) → (ag_upd N7 (b + 4) n 0) a = N a := fun a ha => (ag_upd_ne (by omega)).trans (hfN7 a ha)
      generalize ag_upd N7 (b + 4) n 0 = N9 at *
      refine AR.blk 1 (f' := (38, [some (vA b), some (vI s), some (vI y), some (vI n)], [vA b], (C, N9))) (fun _ => rfl) ?_
      refine AR.getR rfl rfl hb.1 (by decide) rfl ?_
      refine AR.blk 2 (f' := (43, [some (vA b), some (vI s), some (vI y), some (vI n)], [vI 0, vI n, vA (b + 5)], (C, N9))) (fun _ => rfl) ?_
      refine AR.iast rfl hb.2.2.2.2.2 (by omega) ?_
      show AR E d _ (44, [some (vA b), some (vI s), some (vI y), some (vI n)], [], (C, ag_upd N9 (b + 5) n 0)) _
      have hrN11 := g_rB_tn hrN9 n 0
      have hfN11 : ∀ a, ¬ (b ≤ a ∧ a < b + 6) → (ag_upd N9 (b + 5) n 0) a = N a := fun a ha => (ag_upd_ne (by omega)).trans (hfN9 a ha)
      generalize ag_upd N9 (b + 5) n 0 = N11 at *
      refine AR.blk 2 (f' := (46, [some (vA b), some (vI s), some (vI y), some (vI n)], [vA b, vA b], (C, N11))) (fun _ => rfl) ?_
      have f12 := hw.2.2.1
      refine AR.getI rfl rfl hb.1 (by decide) (v := n) hrN11.2.1 ?_
      refine AR.blk 2 (f' := (51, [some (vA b), some (vI s), some (vI y), some (vI n)], [vI (n + 1), vA b], (C, N11))) (fun _ => rfl) ?_
      refine AR.putI rfl rfl hb.1 (by decide) (fun q => absurd q (by decide)) ?_
      show AR E d _ (54, [some (vA b), some (vI s), some (vI y), some (vI n)], [], (C, ag_upd N11 b 1 (n + 1))) _
      have hrN14 := g_rB_n hrN11 (n + 1)
      have hfN14 : ∀ a, ¬ (b ≤ a ∧ a < b + 6) → (ag_upd N11 b 1 (n + 1)) a = N a := fun a ha => (ag_upd_ne (by omega)).trans (hfN11 a ha)
      generalize ag_upd N11 b 1 (n + 1) = N14 at *
      refine AR.blk 1 (f' := (55, [some (vA b), some (vI s), some (vI y), some (vI n)], [vI n], (C, N14))) (fun _ => rfl) ?_
      refine AR.endI rfl (.inl rfl) ?_
      refine ⟨_, congrArg (fun z => (some (vI z), (C, N14))) (show n = n from (by omega)), ?_, hfN14⟩
      exact hrN14
    · show AR E d _ (14, [some (vA b), some (vI s), some (vI y), some (vI n)], [], (C, N)) _
      refine AR.blk 1 (f' := (15, [some (vA b), some (vI s), some (vI y), some (vI n)], [vI (-1)], (C, N))) (fun _ => rfl) ?_
      refine AR.endI rfl (.inl rfl) ?_
      refine ⟨_, congrArg (fun z => (some (vI z), (C, N))) (show (-1) = n from (by omega)), ?_, (fun _ _ => rfl)⟩
      exact False.elim (by omega)

theorem ev_X0_copyBoard {d : Nat} (hd : 1 ≤ d) (hb : g_isB C b) {o : Nat} (hb2 : g_isB C o) (ho : o + 6 ≤ b ∨ b + 6 ≤ o) {P2 : Int → Int} {n2 : Int} {q2 p2 cl2 tn2 : Int → Int} (hr2 : g_rB N o P2 n2 q2 p2 cl2 tn2) (hw2 : g_wB P2 n2 q2 p2 cl2 tn2) : ∃ o_, Ev E d 1 [vA b, vA o] (C, N) o_ ∧ g_QB C N b none P2 n2 q2 p2 cl2 tn2 o_ := by
  obtain ⟨d, rfl⟩ : ∃ j, d = j + 1 := ⟨d - 1, by omega⟩
  refine Ev.introQ (M := ag_mX0_copyBoard) rfl rfl ?_
  show AR E d _ (0, [some (vA b), some (vA o), none], [], (C, N)) _
  refine AR.blk 2 (f' := (2, [some (vA b), some (vA o), some (vI 0)], [], (C, N))) (fun _ => rfl) ?_
  suffices H2 : ∀ (j : Nat) (k : Int) (N8 : Nat → Int → Int), (36 - k).toNat < j → (0 ≤ k ∧ k ≤ 36) → (∀ s, 0 ≤ s → s < k → N8 (b + 1) s = P2 s) → (∀ a, ¬ (b ≤ a ∧ a < b + 6) → N8 a = N a) → AR E d ag_mX0_copyBoard (2, [some (vA b), some (vA o), some (vI k)], [], (C, N8)) (g_QB C N b none P2 n2 q2 p2 cl2 tn2) by
    exact H2 _ _ _ (Nat.lt_succ_self _) (by omega) (fun s z1 z2 => by omega) (fun _ _ => rfl)
  intro j
  induction j with
  | zero => intro k N8 hj; exact absurd hj (Nat.not_lt_zero _)
  | succ j ih2 =>
    intro k N8 hj2 i0 hr8 hf8
    refine AR.blk 2 (f' := (5, [some (vA b), some (vA o), some (vI k)], [vI 36, vI k], (C, N8))) (fun _ => rfl) ?_
    refine AR.ic_ge rfl (by omega) (fun c1 => ?_) (fun c1 => ?_)
    · show AR E d _ (26, [some (vA b), some (vA o), some (vI k)], [], (C, N8)) _
      refine AR.blk 2 (f' := (28, [some (vA b), some (vA o), some (vI k)], [vA o, vA b], (C, N8))) (fun _ => rfl) ?_
      refine AR.getI rfl rfl hb2.1 (by decide) (v := n2) ((congrFun (hf8 _ (by omega)) _).trans hr2.2.1) ?_
      refine AR.putI rfl rfl hb.1 (by decide) (fun q => absurd q (by decide)) ?_
      refine AR.blk 2 (f' := (36, [some (vA b), some (vA o), some (vI 0)], [], (C, ag_upd N8 b 1 n2))) (fun _ => rfl) ?_
      suffices H36 : ∀ (j : Nat) (k : Int) (N9 : Nat → Int → Int), (4 - k).toNat < j → (0 ≤ k ∧ k ≤ 4) → (N9 b 1 = n2) → (∀ s, 0 ≤ s → s < 36 → N9 (b + 1) s = P2 s) → (∀ j, 0 ≤ j → j < k → (N9 (b + 2) j = q2 j ∧ N9 (b + 3) j = p2 j) ∧ (N9 (b + 4) j = cl2 j ∧ N9 (b + 5) j = tn2 j)) → (∀ a, ¬ (b ≤ a ∧ a < b + 6) → N9 a = N a) → AR E d ag_mX0_copyBoard (36, [some (vA b), some (vA o), some (vI k)], [], (C, N9)) (g_QB C N b none P2 n2 q2 p2 cl2 tn2) by
        exact H36 _ _ _ (Nat.lt_succ_self _) (by omega) ag_upd_eq (fun s z1 z2 => (congrFun (ag_upd_ne (by omega)) _).trans (hr8 s z1 (by omega))) (fun s z1 z2 => by omega) (fun a ha => (ag_upd_ne (by omega)).trans (hf8 a ha))
      intro j
      induction j with
      | zero => intro k N9 hj; exact absurd hj (Nat.not_lt_zero _)
      | succ j ih36 =>
        intro k N9 hj36 i0 hn9 hp9 hr9 hf9
        refine AR.blk 2 (f' := (38, [some (vA b), some (vA o), some (vI k)], [vI 4, vI k], (C, N9))) (fun _ => rfl) ?_
        refine AR.ic_ge rfl (by omega) (fun c2 => ?_) (fun c2 => ?_)
        · show AR E d _ (95, [some (vA b), some (vA o), some (vI k)], [], (C, N9)) _
          refine AR.endV rfl rfl ?_
          exact ⟨N9, rfl, ⟨hp9, hn9, fun j z1 z2 => (hr9 j z1 (by omega)).1, fun j z1 z2 => (hr9 j z1 (by omega)).2⟩, hf9⟩
        · show AR E d _ (41, [some (vA b), some (vA o), some (vI k)], [], (C, N9)) _
          refine AR.blk 1 (f' := (42, [some (vA b), some (vA o), some (vI k)], [vA b], (C, N9))) (fun _ => rfl) ?_
          refine AR.getR rfl rfl hb.1 (by decide) rfl ?_
          refine AR.blk 2 (f' := (47, [some (vA b), some (vA o), some (vI k)], [vA o, vI k, vA (b + 2)], (C, N9))) (fun _ => rfl) ?_
          refine AR.getR rfl rfl hb2.1 (by decide) rfl ?_
          refine AR.blk 1 (f' := (51, [some (vA b), some (vA o), some (vI k)], [vI k, vA (o + 2), vI k, vA (b + 2)], (C, N9))) (fun _ => rfl) ?_
          refine AR.iald rfl hb2.2.2.1 (by omega) (v := q2 k) ((congrFun (hf9 _ (by omega)) _).trans (hr2.2.2.1 _ (by omega) (by omega)).1) ?_
          refine AR.iast rfl hb.2.2.1 (by omega) ?_
          refine AR.blk 1 (f' := (54, [some (vA b), some (vA o), some (vI k)], [vA b], (C, ag_upd N9 (b + 2) k (q2 k)))) (fun _ => rfl) ?_
          refine AR.getR rfl rfl hb.1 (by decide) rfl ?_
          refine AR.blk 2 (f' := (59, [some (vA b), some (vA o), some (vI k)], [vA o, vI k, vA (b + 3)], (C, ag_upd N9 (b + 2) k (q2 k)))) (fun _ => rfl) ?_
          refine AR.getR rfl rfl hb2.1 (by decide) rfl ?_
          refine AR.blk 1 (f' := (63, [some (vA b), some (vA o), some (vI k)], [vI k, vA (o + 3), vI k, vA (b + 3)], (C, ag_upd N9 (b + 2) k (q2 k)))) (fun _ => rfl) ?_
          refine AR.iald rfl hb2.2.2.2.1 (by omega) (v := p2 k) ((congrFun (ag_upd_ne (by omega)) _).trans ((congrFun (hf9 _ (by omega)) _).trans (hr2.2.2.1 _ (by omega) (by omega)).2)) ?_
          refine AR.iast rfl hb.2.2.2.1 (by omega) ?_
          refine AR.blk 1 (f' := (66, [some (vA b), some (vA o), some (vI k)], [vA b], (C, ag_upd (ag_upd N9 (b + 2) k (q2 k)) (b + 3) k (p2 k)))) (fun _ => rfl) ?_
          refine AR.getR rfl rfl hb.1 (by decide) rfl ?_
          refine AR.blk 2 (f' := (71, [some (vA b), some (vA o), some (vI k)], [vA o, vI k, vA (b + 4)], (C, ag_upd (ag_upd N9 (b + 2) k (q2 k)) (b + 3) k (p2 k)))) (fun _ => rfl) ?_
          refine AR.getR rfl rfl hb2.1 (by decide) rfl ?_
          refine AR.blk 1 (f' := (75, [some (vA b), some (vA o), some (vI k)], [vI k, vA (o + 4), vI k, vA (b + 4)], (C, ag_upd (ag_upd N9 (b + 2) k (q2 k)) (b + 3) k (p2 k)))) (fun _ => rfl) ?_
          have f3 := hw2.2.2.2.2.1 k
          refine AR.zald rfl hb2.2.2.2.2.1 (by omega) (v := cl2 k) ((congrFun (ag_upd_ne (by omega)) _).trans ((congrFun (ag_upd_ne (by omega)) _).trans ((congrFun (hf9 _ (by omega)) _).trans (hr2.2.2.2 _ (by omega) (by omega)).1))) ?_
          refine AR.zast rfl hb.2.2.2.2.1 (by omega) ?_
          refine AR.blk 1 (f' := (78, [some (vA b), some (vA o), some (vI k)], [vA b], (C, ag_upd (ag_upd (ag_upd N9 (b + 2) k (q2 k)) (b + 3) k (p2 k)) (b + 4) k (cl2 k)))) (fun _ => rfl) ?_
          refine AR.getR rfl rfl hb.1 (by decide) rfl ?_
          refine AR.blk 2 (f' := (83, [some (vA b), some (vA o), some (vI k)], [vA o, vI k, vA (b + 5)], (C, ag_upd (ag_upd (ag_upd N9 (b + 2) k (q2 k)) (b + 3) k (p2 k)) (b + 4) k (cl2 k)))) (fun _ => rfl) ?_
          refine AR.getR rfl rfl hb2.1 (by decide) rfl ?_
          refine AR.blk 1 (f' := (87, [some (vA b), some (vA o), some (vI k)], [vI k, vA (o + 5), vI k, vA (b + 5)], (C, ag_upd (ag_upd (ag_upd N9 (b + 2) k (q2 k)) (b + 3) k (p2 k)) (b + 4) k (cl2 k)))) (fun _ => rfl) ?_
          have f4 := hw2.2.2.2.2.1 k
          refine AR.iald rfl hb2.2.2.2.2.2 (by omega) (v := tn2 k) ((congrFun (ag_upd_ne (by omega)) _).trans ((congrFun (ag_upd_ne (by omega)) _).trans ((congrFun (ag_upd_ne (by omega)) _).trans ((congrFun (hf9 _ (by omega)) _).trans (hr2.2.2.2 _ (by omega) (by omega)).2)))) ?_
          refine AR.iast rfl hb.2.2.2.2.2 (by omega) ?_
          refine AR.blk 2 (f' := (36, [some (vA b), some (vA o), some (vI (k + 1))], [], (C, ag_upd (ag_upd (ag_upd (ag_upd N9 (b + 2) k (q2 k)) (b + 3) k (p2 k)) (b + 4) k (cl2 k)) (b + 5) k (tn2 k)))) (fun _ => rfl) ?_
          exact ih36 _ _ (by omega) (by omega) ((congrFun (ag_upd_ne (by omega)) _).trans ((congrFun (ag_upd_ne (by omega)) _).trans ((congrFun (ag_upd_ne (by omega)) _).trans ((congrFun (ag_upd_ne (by omega)) _).trans hn9)))) (fun s z1 z2 => (congrFun (ag_upd_ne (by omega)) _).trans ((congrFun (ag_upd_ne (by omega)) _).trans ((congrFun (ag_upd_ne (by omega)) _).trans ((congrFun (ag_upd_ne (by omega)) _).trans (hp9 s z1 z2))))) (fun s z1 z2 => g_cp4 s (fun e => hr9 s z1 (by omega))) (fun a ha => (ag_upd_ne (by omega)).trans ((ag_upd_ne (by omega)).trans ((ag_upd_ne (by omega)).trans ((ag_upd_ne (by omega)).trans (hf9 a ha)))))
    · show AR E d _ (8, [some (vA b), some (vA o), some (vI k)], [], (C, N8)) _
      refine AR.blk 1 (f' := (9, [some (vA b), some (vA o), some (vI k)], [vA b], (C, N8))) (fun _ => rfl) ?_
      refine AR.getR rfl rfl hb.1 (by decide) rfl ?_
      refine AR.blk 2 (f' := (14, [some (vA b), some (vA o), some (vI k)], [vA o, vI k, vA (b + 1)], (C, N8))) (fun _ => rfl) ?_
      refine AR.getR rfl rfl hb2.1 (by decide) rfl ?_
      refine AR.blk 1 (f' := (18, [some (vA b), some (vA o), some (vI k)], [vI k, vA (o + 1), vI k, vA (b + 1)], (C, N8))) (fun _ => rfl) ?_
      refine AR.iald rfl hb2.2.1 (by omega) (v := P2 k) ((congrFun (hf8 _ (by omega)) _).trans (hr2.1 _ (by omega) (by omega))) ?_
      refine AR.iast rfl hb.2.1 (by omega) ?_
      refine AR.blk 2 (f' := (2, [some (vA b), some (vA o), some (vI (k + 1))], [], (C, ag_upd N8 (b + 1) k (P2 k)))) (fun _ => rfl) ?_
      exact ih2 _ _ (by omega) (by omega) (g_up1 hr8) (fun a ha => (ag_upd_ne (by omega)).trans (hf8 a ha))
end L2g
