/-! LEVEL 2: the model's row, changed -/
theorem m_set_up2 {N : Nat → Int → Int} {a : Nat} {f : Int → Int} (b w z k : Int) (h : N a (b + k) = f k) : ag_upd N a (b + w) z a (b + k) = m_set f w z k := by
  unfold m_set
  by_cases e : k = w
  · subst e; rw [if_pos rfl]; exact ag_upd_eq
  · rw [if_neg e, ag_upd_nk (by omega)]; exact h
def g_rZ (R : Int → Int) (t sd ho bg en ca : Int) (gn pu mk : Int → Int) : Prop := R 0 = t ∧ R 1 = sd ∧ R 2 = ho ∧ R 3 = bg ∧ R 4 = en ∧ R 5 = ca ∧ (R 8 = gn 0 ∧ R 9 = gn 1) ∧ (R 10 = pu 0 ∧ R 11 = pu 1) ∧ (R 12 = mk 0 ∧ R 13 = mk 1)
theorem g_rZ_t {N : Nat → Int → Int} {a : Nat} {t sd ho bg en ca : Int} {gn pu mk : Int → Int} (h : g_rZ (N a) t sd ho bg en ca gn pu mk) (z : Int) : g_rZ (ag_upd N a 0 z a) z sd ho bg en ca gn pu mk :=
  ⟨ag_upd_eq, (ag_upd_nk (by omega)).trans h.2.1, (ag_upd_nk (by omega)).trans h.2.2.1, (ag_upd_nk (by omega)).trans h.2.2.2.1, (ag_upd_nk (by omega)).trans h.2.2.2.2.1, (ag_upd_nk (by omega)).trans h.2.2.2.2.2.1, ⟨(ag_upd_nk (by omega)).trans h.2.2.2.2.2.2.1.1, (ag_upd_nk (by omega)).trans h.2.2.2.2.2.2.1.2⟩, ⟨(ag_upd_nk (by omega)).trans h.2.2.2.2.2.2.2.1.1, (ag_upd_nk (by omega)).trans h.2.2.2.2.2.2.2.1.2⟩, ⟨(ag_upd_nk (by omega)).trans h.2.2.2.2.2.2.2.2.1, (ag_upd_nk (by omega)).trans h.2.2.2.2.2.2.2.2.2⟩⟩
theorem g_rZ_sd {N : Nat → Int → Int} {a : Nat} {t sd ho bg en ca : Int} {gn pu mk : Int → Int} (h : g_rZ (N a) t sd ho bg en ca gn pu mk) (z : Int) : g_rZ (ag_upd N a 1 z a) t z ho bg en ca gn pu mk :=
  ⟨(ag_upd_nk (by omega)).trans h.1, ag_upd_eq, (ag_upd_nk (by omega)).trans h.2.2.1, (ag_upd_nk (by omega)).trans h.2.2.2.1, (ag_upd_nk (by omega)).trans h.2.2.2.2.1, (ag_upd_nk (by omega)).trans h.2.2.2.2.2.1, ⟨(ag_upd_nk (by omega)).trans h.2.2.2.2.2.2.1.1, (ag_upd_nk (by omega)).trans h.2.2.2.2.2.2.1.2⟩, ⟨(ag_upd_nk (by omega)).trans h.2.2.2.2.2.2.2.1.1, (ag_upd_nk (by omega)).trans h.2.2.2.2.2.2.2.1.2⟩, ⟨(ag_upd_nk (by omega)).trans h.2.2.2.2.2.2.2.2.1, (ag_upd_nk (by omega)).trans h.2.2.2.2.2.2.2.2.2⟩⟩
theorem g_rZ_ho {N : Nat → Int → Int} {a : Nat} {t sd ho bg en ca : Int} {gn pu mk : Int → Int} (h : g_rZ (N a) t sd ho bg en ca gn pu mk) (z : Int) : g_rZ (ag_upd N a 2 z a) t sd z bg en ca gn pu mk :=
  ⟨(ag_upd_nk (by omega)).trans h.1, (ag_upd_nk (by omega)).trans h.2.1, ag_upd_eq, (ag_upd_nk (by omega)).trans h.2.2.2.1, (ag_upd_nk (by omega)).trans h.2.2.2.2.1, (ag_upd_nk (by omega)).trans h.2.2.2.2.2.1, ⟨(ag_upd_nk (by omega)).trans h.2.2.2.2.2.2.1.1, (ag_upd_nk (by omega)).trans h.2.2.2.2.2.2.1.2⟩, ⟨(ag_upd_nk (by omega)).trans h.2.2.2.2.2.2.2.1.1, (ag_upd_nk (by omega)).trans h.2.2.2.2.2.2.2.1.2⟩, ⟨(ag_upd_nk (by omega)).trans h.2.2.2.2.2.2.2.2.1, (ag_upd_nk (by omega)).trans h.2.2.2.2.2.2.2.2.2⟩⟩
theorem g_rZ_bg {N : Nat → Int → Int} {a : Nat} {t sd ho bg en ca : Int} {gn pu mk : Int → Int} (h : g_rZ (N a) t sd ho bg en ca gn pu mk) (z : Int) : g_rZ (ag_upd N a 3 z a) t sd ho z en ca gn pu mk :=
  ⟨(ag_upd_nk (by omega)).trans h.1, (ag_upd_nk (by omega)).trans h.2.1, (ag_upd_nk (by omega)).trans h.2.2.1, ag_upd_eq, (ag_upd_nk (by omega)).trans h.2.2.2.2.1, (ag_upd_nk (by omega)).trans h.2.2.2.2.2.1, ⟨(ag_upd_nk (by omega)).trans h.2.2.2.2.2.2.1.1, (ag_upd_nk (by omega)).trans h.2.2.2.2.2.2.1.2⟩, ⟨(ag_upd_nk (by omega)).trans h.2.2.2.2.2.2.2.1.1, (ag_upd_nk (by omega)).trans h.2.2.2.2.2.2.2.1.2⟩, ⟨(ag_upd_nk (by omega)).trans h.2.2.2.2.2.2.2.2.1, (ag_upd_nk (by omega)).trans h.2.2.2.2.2.2.2.2.2⟩⟩
theorem g_rZ_en {N : Nat → Int → Int} {a : Nat} {t sd ho bg en ca : Int} {gn pu mk : Int → Int} (h : g_rZ (N a) t sd ho bg en ca gn pu mk) (z : Int) : g_rZ (ag_upd N a 4 z a) t sd ho bg z ca gn pu mk :=
  ⟨(ag_upd_nk (by omega)).trans h.1, (ag_upd_nk (by omega)).trans h.2.1, (ag_upd_nk (by omega)).trans h.2.2.1, (ag_upd_nk (by omega)).trans h.2.2.2.1, ag_upd_eq, (ag_upd_nk (by omega)).trans h.2.2.2.2.2.1, ⟨(ag_upd_nk (by omega)).trans h.2.2.2.2.2.2.1.1, (ag_upd_nk (by omega)).trans h.2.2.2.2.2.2.1.2⟩, ⟨(ag_upd_nk (by omega)).trans h.2.2.2.2.2.2.2.1.1, (ag_upd_nk (by omega)).trans h.2.2.2.2.2.2.2.1.2⟩, ⟨(ag_upd_nk (by omega)).trans h.2.2.2.2.2.2.2.2.1, (ag_upd_nk (by omega)).trans h.2.2.2.2.2.2.2.2.2⟩⟩
theorem g_rZ_ca {N : Nat → Int → Int} {a : Nat} {t sd ho bg en ca : Int} {gn pu mk : Int → Int} (h : g_rZ (N a) t sd ho bg en ca gn pu mk) (z : Int) : g_rZ (ag_upd N a 5 z a) t sd ho bg en z gn pu mk :=
  ⟨(ag_upd_nk (by omega)).trans h.1, (ag_upd_nk (by omega)).trans h.2.1, (ag_upd_nk (by omega)).trans h.2.2.1, (ag_upd_nk (by omega)).trans h.2.2.2.1, (ag_upd_nk (by omega)).trans h.2.2.2.2.1, ag_upd_eq, ⟨(ag_upd_nk (by omega)).trans h.2.2.2.2.2.2.1.1, (ag_upd_nk (by omega)).trans h.2.2.2.2.2.2.1.2⟩, ⟨(ag_upd_nk (by omega)).trans h.2.2.2.2.2.2.2.1.1, (ag_upd_nk (by omega)).trans h.2.2.2.2.2.2.2.1.2⟩, ⟨(ag_upd_nk (by omega)).trans h.2.2.2.2.2.2.2.2.1, (ag_upd_nk (by omega)).trans h.2.2.2.2.2.2.2.2.2⟩⟩
theorem g_rZ_gn {N : Nat → Int → Int} {a : Nat} {t sd ho bg en ca : Int} {gn pu mk : Int → Int} (h : g_rZ (N a) t sd ho bg en ca gn pu mk) (w z : Int) (hw : 0 ≤ w ∧ w < 2) : g_rZ (ag_upd N a (8 + w) z a) t sd ho bg en ca (m_set gn w z) pu mk :=
  ⟨(ag_upd_nk (by omega)).trans h.1, (ag_upd_nk (by omega)).trans h.2.1, (ag_upd_nk (by omega)).trans h.2.2.1, (ag_upd_nk (by omega)).trans h.2.2.2.1, (ag_upd_nk (by omega)).trans h.2.2.2.2.1, (ag_upd_nk (by omega)).trans h.2.2.2.2.2.1, ⟨m_set_up2 8 w z 0 h.2.2.2.2.2.2.1.1, m_set_up2 8 w z 1 h.2.2.2.2.2.2.1.2⟩, ⟨(ag_upd_nk (by omega)).trans h.2.2.2.2.2.2.2.1.1, (ag_upd_nk (by omega)).trans h.2.2.2.2.2.2.2.1.2⟩, ⟨(ag_upd_nk (by omega)).trans h.2.2.2.2.2.2.2.2.1, (ag_upd_nk (by omega)).trans h.2.2.2.2.2.2.2.2.2⟩⟩
theorem g_rZ_pu {N : Nat → Int → Int} {a : Nat} {t sd ho bg en ca : Int} {gn pu mk : Int → Int} (h : g_rZ (N a) t sd ho bg en ca gn pu mk) (w z : Int) (hw : 0 ≤ w ∧ w < 2) : g_rZ (ag_upd N a (10 + w) z a) t sd ho bg en ca gn (m_set pu w z) mk :=
  ⟨(ag_upd_nk (by omega)).trans h.1, (ag_upd_nk (by omega)).trans h.2.1, (ag_upd_nk (by omega)).trans h.2.2.1, (ag_upd_nk (by omega)).trans h.2.2.2.1, (ag_upd_nk (by omega)).trans h.2.2.2.2.1, (ag_upd_nk (by omega)).trans h.2.2.2.2.2.1, ⟨(ag_upd_nk (by omega)).trans h.2.2.2.2.2.2.1.1, (ag_upd_nk (by omega)).trans h.2.2.2.2.2.2.1.2⟩, ⟨m_set_up2 10 w z 0 h.2.2.2.2.2.2.2.1.1, m_set_up2 10 w z 1 h.2.2.2.2.2.2.2.1.2⟩, ⟨(ag_upd_nk (by omega)).trans h.2.2.2.2.2.2.2.2.1, (ag_upd_nk (by omega)).trans h.2.2.2.2.2.2.2.2.2⟩⟩
theorem g_rZ_mk {N : Nat → Int → Int} {a : Nat} {t sd ho bg en ca : Int} {gn pu mk : Int → Int} (h : g_rZ (N a) t sd ho bg en ca gn pu mk) (w z : Int) (hw : 0 ≤ w ∧ w < 2) : g_rZ (ag_upd N a (12 + w) z a) t sd ho bg en ca gn pu (m_set mk w z) :=
  ⟨(ag_upd_nk (by omega)).trans h.1, (ag_upd_nk (by omega)).trans h.2.1, (ag_upd_nk (by omega)).trans h.2.2.1, (ag_upd_nk (by omega)).trans h.2.2.2.1, (ag_upd_nk (by omega)).trans h.2.2.2.2.1, (ag_upd_nk (by omega)).trans h.2.2.2.2.2.1, ⟨(ag_upd_nk (by omega)).trans h.2.2.2.2.2.2.1.1, (ag_upd_nk (by omega)).trans h.2.2.2.2.2.2.1.2⟩, ⟨(ag_upd_nk (by omega)).trans h.2.2.2.2.2.2.2.1.1, (ag_upd_nk (by omega)).trans h.2.2.2.2.2.2.2.1.2⟩, ⟨m_set_up2 12 w z 0 h.2.2.2.2.2.2.2.2.1, m_set_up2 12 w z 1 h.2.2.2.2.2.2.2.2.2⟩⟩
theorem g_rZ_fr {R R' : Int → Int} {t sd ho bg en ca : Int} {gn pu mk : Int → Int} (h : g_rZ R t sd ho bg en ca gn pu mk) (hf : ∀ i, 0 ≤ i → i < 14 → R' i = R i) : g_rZ R' t sd ho bg en ca gn pu mk :=
  ⟨(hf _ (by omega) (by omega)).trans h.1, (hf _ (by omega) (by omega)).trans h.2.1, (hf _ (by omega) (by omega)).trans h.2.2.1, (hf _ (by omega) (by omega)).trans h.2.2.2.1, (hf _ (by omega) (by omega)).trans h.2.2.2.2.1, (hf _ (by omega) (by omega)).trans h.2.2.2.2.2.1, ⟨(hf _ (by omega) (by omega)).trans h.2.2.2.2.2.2.1.1, (hf _ (by omega) (by omega)).trans h.2.2.2.2.2.2.1.2⟩, ⟨(hf _ (by omega) (by omega)).trans h.2.2.2.2.2.2.2.1.1, (hf _ (by omega) (by omega)).trans h.2.2.2.2.2.2.2.1.2⟩, ⟨(hf _ (by omega) (by omega)).trans h.2.2.2.2.2.2.2.2.1, (hf _ (by omega) (by omega)).trans h.2.2.2.2.2.2.2.2.2⟩⟩
theorem g_rR_fr {R R' : Int → Int} {P : Int → Int} {n : Int} {q p cl tn : Int → Int} (h : g_rR R P n q p cl tn) (hf : ∀ i, 14 ≤ i → i < 67 → R' i = R i) : g_rR R' P n q p cl tn :=
  ⟨fun s h0 h1 => (hf _ (by omega) (by omega)).trans (h.1 s h0 h1), (hf _ (by omega) (by omega)).trans h.2.1, fun k h0 h1 => ⟨(hf _ (by omega) (by omega)).trans (h.2.2.1 k h0 h1).1, (hf _ (by omega) (by omega)).trans (h.2.2.1 k h0 h1).2⟩, fun k h0 h1 => ⟨(hf _ (by omega) (by omega)).trans (h.2.2.2 k h0 h1).1, (hf _ (by omega) (by omega)).trans (h.2.2.2 k h0 h1).2⟩⟩
theorem g_rR_set {N : Nat → Int → Int} {a : Nat} {P : Int → Int} {n : Int} {q p cl tn : Int → Int} (h : g_rR (N a) P n q p cl tn) (s c z : Int) (hz : z = c + 1) (hs : 0 ≤ s ∧ s < 36) : g_rR (ag_upd N a (31 + s) z a) (m_set P s c) n q p cl tn := by
  subst hz
  refine ⟨fun t h0 h1 => ?_, (ag_upd_nk (by omega)).trans h.2.1, fun k h0 h1 => ⟨(ag_upd_nk (by omega)).trans (h.2.2.1 k h0 h1).1, (ag_upd_nk (by omega)).trans (h.2.2.1 k h0 h1).2⟩, fun k h0 h1 => ⟨(ag_upd_nk (by omega)).trans (h.2.2.2 k h0 h1).1, (ag_upd_nk (by omega)).trans (h.2.2.2 k h0 h1).2⟩⟩
  unfold m_set
  by_cases e : t = s
  · subst e; rw [if_pos rfl]; exact ag_upd_eq
  · rw [if_neg e, ag_upd_nk (by omega)]; exact h.1 t h0 h1
theorem g_rR_cl {N : Nat → Int → Int} {a : Nat} {P : Int → Int} {n : Int} {q p cl tn : Int → Int} (h : g_rR (N a) P n q p cl tn) (l z : Int) (hl : 0 ≤ l ∧ l < 4) : g_rR (ag_upd N a (15 + 4 * l + 2) z a) P n q p (m_set cl l z) tn := by
  refine ⟨fun t h0 h1 => (ag_upd_nk (by omega)).trans (h.1 t h0 h1), (ag_upd_nk (by omega)).trans h.2.1, fun k h0 h1 => ⟨(ag_upd_nk (by omega)).trans (h.2.2.1 k h0 h1).1, (ag_upd_nk (by omega)).trans (h.2.2.1 k h0 h1).2⟩, fun k h0 h1 => ⟨?_, (ag_upd_nk (by omega)).trans (h.2.2.2 k h0 h1).2⟩⟩
  unfold m_set
  by_cases e : k = l
  · subst e; rw [if_pos rfl]; exact ag_upd_eq
  · rw [if_neg e, ag_upd_nk (by omega)]; exact (h.2.2.2 k h0 h1).1
theorem g_rR_tn {N : Nat → Int → Int} {a : Nat} {P : Int → Int} {n : Int} {q p cl tn : Int → Int} (h : g_rR (N a) P n q p cl tn) (l z : Int) (hl : 0 ≤ l ∧ l < 4) : g_rR (ag_upd N a (15 + 4 * l + 3) z a) P n q p cl (m_set tn l z) := by
  refine ⟨fun t h0 h1 => (ag_upd_nk (by omega)).trans (h.1 t h0 h1), (ag_upd_nk (by omega)).trans h.2.1, fun k h0 h1 => ⟨(ag_upd_nk (by omega)).trans (h.2.2.1 k h0 h1).1, (ag_upd_nk (by omega)).trans (h.2.2.1 k h0 h1).2⟩, fun k h0 h1 => ⟨(ag_upd_nk (by omega)).trans (h.2.2.2 k h0 h1).1, ?_⟩⟩
  unfold m_set
  by_cases e : k = l
  · subst e; rw [if_pos rfl]; exact ag_upd_eq
  · rw [if_neg e, ag_upd_nk (by omega)]; exact (h.2.2.2 k h0 h1).2
def g_QR (C : List ag_C) (N : Nat → Int → Int) (m : Nat) (o : Option av) (P : Int → Int) (n : Int) (q p cl tn : Int → Int) (t sd ho bg en ca : Int) (gn pu mk : Int → Int) : ag_O → Prop := fun r => ∃ N', r = (o, (C, N')) ∧ g_rR (N' (m + 1)) P n q p cl tn ∧ g_rZ (N' (m + 1)) t sd ho bg en ca gn pu mk ∧ (∀ i, 6 ≤ i ∧ i < 8 ∨ 67 ≤ i → N' (m + 1) i = N (m + 1) i) ∧ ∀ a, a ≠ m + 1 → N' a = N a
theorem m_set_comm {P : Int → Int} {s a x y : Int} (h : s ≠ a) : m_set (m_set P a x) s y = m_set (m_set P s y) a x := by
  funext t
  unfold m_set
  by_cases e : t = s
  · rw [if_pos e, if_neg (by omega), if_pos e]
  · rw [if_neg e]
    by_cases e2 : t = a
    · rw [if_pos e2, if_pos e2]
    · rw [if_neg e2, if_neg e2, if_neg e]
section L2l
variable {E : Nat × (Int → Int)} {C : List ag_C} {N : Nat → Int → Int} {m : Nat} {P : Int → Int} {n : Int} {q p cl tn : Int → Int} {t sd ho bg en ca : Int} {gn pu mk : Int → Int}

theorem ev_X7_carries {d : Nat} (hd : 4 ≤ d) (hm : g_isM C m) (hr : g_rR (N (m + 1)) P n q p cl tn) (hw : g_wB P n q p cl tn) (hz : g_rZ (N (m + 1)) t sd ho bg en ca gn pu mk) (s x : Int) (h0 : 0 ≤ s ∧ s < 36) (h1 : 0 ≤ x ∧ x < 4) : ∃ o_, Ev E d 132 [vA m, vI s, vI x] (C, N) o_ ∧ g_QR C N m none (m_drP P n q cl s x) n q p cl tn t sd ho bg en (ca + m_drf P n q cl s x) gn pu mk o_ := by
  obtain ⟨d, rfl⟩ : ∃ j, d = j + 1 := ⟨d - 1, by omega⟩
  have z1 := m_step_or x
  refine Ev.introQ (M := ag_mX7_carries) rfl rfl ?_
  show AR E d _ (0, [some (vA m), some (vI s), some (vI x), none], [], (C, N)) _
  refine AR.blk 2 (f' := (2, [some (vA m), some (vI s), some (vI x), none], [vI x, vI s], (C, N))) (fun _ => rfl) ?_
  refine AR.callS [vI s, vI x] (ev_X7_beside (by omega) s x (by omega) (by omega)) rfl rfl rfl rfl rfl ?_
  show AR E d _ (5, [some (vA m), some (vI s), some (vI x), none], [vI (m_ahead s x 1)], (C, N)) _
  have f1 := m_ah s x 1 (by omega) (by omega) (by omega)
  have f2 := m_room_in s x (by omega)
  refine AR.blk 3 (f' := (8, [some (vA m), some (vI s), some (vI x), some (vI (m_ahead s x 1))], [vI s, vA m], (C, N))) (fun _ => rfl) ?_
  refine AR.callV [vI s] (ev_X7_pieceAt (by omega) hm hr hw s (by omega)) hm.1 rfl rfl rfl rfl rfl ?_
  show AR E d _ (11, [some (vA m), some (vI s), some (vI x), some (vI (m_ahead s x 1))], [vI (P s + 1)], (C, N)) _
  have f3 := hw.1 s
  refine AR.if_eq rfl (by omega) (fun c4 => ?_) (fun c4 => ?_)
  · show AR E d _ (34, [some (vA m), some (vI s), some (vI x), some (vI (m_ahead s x 1))], [], (C, N)) _
    refine AR.endV rfl rfl ?_
    have e2 : m_drf P n q cl s x = 0 := by unfold m_drf; omega
    rw [show m_drP P n q cl s x = P by unfold m_drP; rw [e2]; rfl, e2, Int.add_zero]
    exact ⟨_, rfl, hr, hz, (fun _ _ => rfl), (fun _ _ => rfl)⟩
  · show AR E d _ (14, [some (vA m), some (vI s), some (vI x), some (vI (m_ahead s x 1))], [], (C, N)) _
    refine AR.blk 1 (f' := (15, [some (vA m), some (vI s), some (vI x), some (vI (m_ahead s x 1))], [vI (m_ahead s x 1)], (C, N))) (fun _ => rfl) ?_
    refine AR.if_lt rfl (by omega) (fun c5 => ?_) (fun c5 => ?_)
    · show AR E d _ (34, [some (vA m), some (vI s), some (vI x), some (vI (m_ahead s x 1))], [], (C, N)) _
      refine AR.endV rfl rfl ?_
      have e2 : m_drf P n q cl s x = 0 := by unfold m_drf; omega
      rw [show m_drP P n q cl s x = P by unfold m_drP; rw [e2]; rfl, e2, Int.add_zero]
      exact ⟨_, rfl, hr, hz, (fun _ _ => rfl), (fun _ _ => rfl)⟩
    · show AR E d _ (18, [some (vA m), some (vI s), some (vI x), some (vI (m_ahead s x 1))], [], (C, N)) _
      refine AR.blk 2 (f' := (20, [some (vA m), some (vI s), some (vI x), some (vI (m_ahead s x 1))], [vI (m_ahead s x 1), vA m], (C, N))) (fun _ => rfl) ?_
      refine AR.callV [vI (m_ahead s x 1)] (ev_X7_pieceAt (by omega) hm hr hw (m_ahead s x 1) (by omega)) hm.1 rfl rfl rfl rfl rfl ?_
      show AR E d _ (23, [some (vA m), some (vI s), some (vI x), some (vI (m_ahead s x 1))], [vI (P (m_ahead s x 1) + 1)], (C, N)) _
      have f6 := hw.1 (m_ahead s x 1)
      refine AR.if_gt rfl (by omega) (fun c7 => ?_) (fun c7 => ?_)
      · show AR E d _ (34, [some (vA m), some (vI s), some (vI x), some (vI (m_ahead s x 1))], [], (C, N)) _
        refine AR.endV rfl rfl ?_
        have e2 : m_drf P n q cl s x = 0 := by unfold m_drf; omega
        rw [show m_drP P n q cl s x = P by unfold m_drP; rw [e2]; rfl, e2, Int.add_zero]
        exact ⟨_, rfl, hr, hz, (fun _ _ => rfl), (fun _ _ => rfl)⟩
      · show AR E d _ (26, [some (vA m), some (vI s), some (vI x), some (vI (m_ahead s x 1))], [], (C, N)) _
        refine AR.blk 2 (f' := (28, [some (vA m), some (vI s), some (vI x), some (vI (m_ahead s x 1))], [vI (m_ahead s x 1), vA m], (C, N))) (fun _ => rfl) ?_
        refine AR.callV [vI (m_ahead s x 1)] (ev_X7_isClosed (by omega) hm hr hw (m_ahead s x 1) (by omega)) hm.1 rfl rfl rfl rfl rfl ?_
        show AR E d _ (31, [some (vA m), some (vI s), some (vI x), some (vI (m_ahead s x 1))], [vI (m_cl n q cl (m_ahead s x 1))], (C, N)) _
        have f8 := m_cl_in n q cl (m_ahead s x 1) (fun k => (hw.2.2.2.2.1 k).1)
        refine AR.if_eq rfl (by omega) (fun c9 => ?_) (fun c9 => ?_)
        · show AR E d _ (35, [some (vA m), some (vI s), some (vI x), some (vI (m_ahead s x 1))], [], (C, N)) _
          refine AR.blk 1 (f' := (36, [some (vA m), some (vI s), some (vI x), some (vI (m_ahead s x 1))], [vA m], (C, N))) (fun _ => rfl) ?_
          refine AR.getR rfl rfl hm.1 (by decide) rfl ?_
          refine AR.blk 5 (f' := (45, [some (vA m), some (vI s), some (vI x), some (vI (m_ahead s x 1))], [vI s, vA m, vI (31 + (m_ahead s x 1)), vA (m + 1)], (C, N))) (fun _ => rfl) ?_
          refine AR.callV [vI s] (ev_X7_pieceAt (by omega) hm hr hw s (by omega)) hm.1 rfl rfl rfl rfl rfl ?_
          show AR E d _ (48, [some (vA m), some (vI s), some (vI x), some (vI (m_ahead s x 1))], [vI (P s + 1), vI (31 + (m_ahead s x 1)), vA (m + 1)], (C, N)) _
          have f10 := hw.1 s
          refine AR.iast rfl hm.2.1 (by omega) ?_
          show AR E d _ (49, [some (vA m), some (vI s), some (vI x), some (vI (m_ahead s x 1))], [], (C, ag_upd N (m + 1) (31 + (m_ahead s x 1)) (P s + 1))) _
          have WN12 := g_wB_set hw (show 0 ≤ (m_ahead s x 1) ∧ (m_ahead s x 1) < 36 by omega) (show -1 ≤ (P s) ∧ (P s) ≤ 3 by (first | omega | (have z9 := hw.1 s; omega)))
          have RN12 := g_rR_set hr (m_ahead s x 1) (P s) (P s + 1) (by omega) (by omega)
          have ZN12 := g_rZ_fr hz (R' := (ag_upd N (m + 1) (31 + (m_ahead s x 1)) (P s + 1)) (m + 1)) (fun i z0 z1 => ag_upd_nk (by omega))
          have KN12 : ∀ i, 6 ≤ i ∧ i < 8 ∨ 67 ≤ i → (ag_upd N (m + 1) (31 + (m_ahead s x 1)) (P s + 1)) (m + 1) i = N (m + 1) i := fun i hi => (ag_upd_nk (by omega)).trans ((fun _ _ => rfl) i hi)
          have FN12 : ∀ a, a ≠ m + 1 → (ag_upd N (m + 1) (31 + (m_ahead s x 1)) (P s + 1)) a = N a := fun a ha => (ag_upd_ne ha).trans ((fun _ _ => rfl) a ha)
          generalize ag_upd N (m + 1) (31 + (m_ahead s x 1)) (P s + 1) = N12 at *
          refine AR.blk 1 (f' := (50, [some (vA m), some (vI s), some (vI x), some (vI (m_ahead s x 1))], [vA m], (C, N12))) (fun _ => rfl) ?_
          refine AR.getR rfl rfl hm.1 (by decide) rfl ?_
          refine AR.blk 4 (f' := (58, [some (vA m), some (vI s), some (vI x), some (vI (m_ahead s x 1))], [vI 0, vI (31 + s), vA (m + 1)], (C, N12))) (fun _ => rfl) ?_
          refine AR.iast rfl hm.2.1 (by omega) ?_
          show AR E d _ (59, [some (vA m), some (vI s), some (vI x), some (vI (m_ahead s x 1))], [], (C, ag_upd N12 (m + 1) (31 + s) 0)) _
          have WN14 := g_wB_set WN12 (show 0 ≤ s ∧ s < 36 by omega) (show -1 ≤ (-1) ∧ (-1) ≤ 3 by (first | omega | (have z9 := hw.1 s; omega)))
          have RN14 := g_rR_set RN12 s (-1) 0 (by omega) (by omega)
          have ZN14 := g_rZ_fr ZN12 (R' := (ag_upd N12 (m + 1) (31 + s) 0) (m + 1)) (fun i z0 z1 => ag_upd_nk (by omega))
          have KN14 : ∀ i, 6 ≤ i ∧ i < 8 ∨ 67 ≤ i → (ag_upd N12 (m + 1) (31 + s) 0) (m + 1) i = N (m + 1) i := fun i hi => (ag_upd_nk (by omega)).trans (KN12 i hi)
          have FN14 : ∀ a, a ≠ m + 1 → (ag_upd N12 (m + 1) (31 + s) 0) a = N a := fun a ha => (ag_upd_ne ha).trans (FN12 a ha)
          generalize ag_upd N12 (m + 1) (31 + s) 0 = N14 at *
          refine AR.blk 1 (f' := (60, [some (vA m), some (vI s), some (vI x), some (vI (m_ahead s x 1))], [vA m], (C, N14))) (fun _ => rfl) ?_
          refine AR.getR rfl rfl hm.1 (by decide) rfl ?_
          refine AR.blk 2 (f' := (65, [some (vA m), some (vI s), some (vI x), some (vI (m_ahead s x 1))], [vI 5, vA (m + 1), vI 5, vA (m + 1)], (C, N14))) (fun _ => rfl) ?_
          refine AR.iald rfl hm.2.1 (by omega) (v := ca) ZN14.2.2.2.2.2.1 ?_
          refine AR.blk 2 (f' := (68, [some (vA m), some (vI s), some (vI x), some (vI (m_ahead s x 1))], [vI (ca + 1), vI 5, vA (m + 1)], (C, N14))) (fun _ => rfl) ?_
          refine AR.iast rfl hm.2.1 (by omega) ?_
          show AR E d _ (69, [some (vA m), some (vI s), some (vI x), some (vI (m_ahead s x 1))], [], (C, ag_upd N14 (m + 1) 5 (ca + 1))) _
          have RN16 := g_rR_fr RN14 (R' := (ag_upd N14 (m + 1) 5 (ca + 1)) (m + 1)) (fun i z0 z1 => ag_upd_nk (by omega))
          have ZN16 := g_rZ_ca ZN14 (ca + 1)
          have KN16 : ∀ i, 6 ≤ i ∧ i < 8 ∨ 67 ≤ i → (ag_upd N14 (m + 1) 5 (ca + 1)) (m + 1) i = N (m + 1) i := fun i hi => (ag_upd_nk (by omega)).trans (KN14 i hi)
          have FN16 : ∀ a, a ≠ m + 1 → (ag_upd N14 (m + 1) 5 (ca + 1)) a = N a := fun a ha => (ag_upd_ne ha).trans (FN14 a ha)
          generalize ag_upd N14 (m + 1) 5 (ca + 1) = N16 at *
          refine AR.endV rfl rfl ?_
          have e2 : m_drf P n q cl s x = 1 := by unfold m_drf; omega
          rw [show m_drP P n q cl s x = m_set (m_set P s (-1)) (m_ahead s x 1) (P s) by unfold m_drP; rw [e2]; rfl, e2, ← m_set_comm (by omega)]
          exact ⟨_, rfl, RN16, ZN16, KN16, FN16⟩
        · show AR E d _ (34, [some (vA m), some (vI s), some (vI x), some (vI (m_ahead s x 1))], [], (C, N)) _
          refine AR.endV rfl rfl ?_
          have e2 : m_drf P n q cl s x = 0 := by unfold m_drf; omega
          rw [show m_drP P n q cl s x = P by unfold m_drP; rw [e2]; rfl, e2, Int.add_zero]
          exact ⟨_, rfl, hr, hz, (fun _ _ => rfl), (fun _ _ => rfl)⟩

theorem ev_X7_locksTurn {d : Nat} (hd : 2 ≤ d) (hm : g_isM C m) (hr : g_rR (N (m + 1)) P n q p cl tn) (hw : g_wB P n q p cl tn) (hz : g_rZ (N (m + 1)) t sd ho bg en ca gn pu mk) (h0 : 0 ≤ t ∧ t ≤ 121) : ∃ o_, Ev E d 131 [vA m] (C, N) o_ ∧ g_QR C N m none P n q p ((m_trn P q p t cl tn n.toNat).1) ((m_trn P q p t cl tn n.toNat).2) t sd ho bg en ca gn pu mk o_ := by
  obtain ⟨d, rfl⟩ : ∃ j, d = j + 1 := ⟨d - 1, by omega⟩
  have y9 := hw.2.2.1
  refine Ev.introQ (M := ag_mX7_locksTurn) rfl rfl ?_
  show AR E d _ (0, [some (vA m), none], [], (C, N)) _
  refine AR.blk 2 (f' := (2, [some (vA m), some (vI 0)], [], (C, N))) (fun _ => rfl) ?_
  suffices H2 : ∀ (j : Nat) (k : Int) (ck : Int → Int) (tk : Int → Int) (N9 : Nat → Int → Int), (4 - k).toNat < j → (0 ≤ k ∧ k ≤ n) → ((ck, tk) = m_trn P q p t cl tn k.toNat) → (g_rR (N9 (m + 1)) P n q p ck tk) → (g_rZ (N9 (m + 1)) t sd ho bg en ca gn pu mk) → (∀ i, 6 ≤ i ∧ i < 8 ∨ 67 ≤ i → N9 (m + 1) i = N (m + 1) i) → (∀ a, a ≠ m + 1 → N9 a = N a) → AR E d ag_mX7_locksTurn (2, [some (vA m), some (vI k)], [], (C, N9)) (g_QR C N m none P n q p ((m_trn P q p t cl tn n.toNat).1) ((m_trn P q p t cl tn n.toNat).2) t sd ho bg en ca gn pu mk) by
    exact H2 _ _ (cl) (tn) _ (Nat.lt_succ_self _) (by omega) rfl hr hz (fun _ _ => rfl) (fun _ _ => rfl)
  intro j
  induction j with
  | zero => intro k ck tk N9 hj; exact absurd hj (Nat.not_lt_zero _)
  | succ j ih2 =>
    intro k ck tk N9 hj2 i0 i1 hr9 hz9 hk9 hf9
    have y0 := hw.2.2.1
    have y1 := fun hk => hw.2.2.2.1 k (by omega) hk
    have hw9 : g_wB P n q p ck tk := (by have z := m_trn_w hw t k.toNat (by omega); rw [← i1] at z; exact z)
    have y3 := hw.1 (q k)
    have y4 := fun hk : k < n => And.intro (Int.emod_nonneg t (show p k ≠ 0 by have := y1 hk; omega)) (Int.emod_lt_of_pos t (show 0 < p k by have := y1 hk; omega))
    refine AR.blk 2 (f' := (4, [some (vA m), some (vI k)], [vA m, vI k], (C, N9))) (fun _ => rfl) ?_
    refine AR.getR rfl rfl hm.1 (by decide) rfl ?_
    refine AR.blk 1 (f' := (9, [some (vA m), some (vI k)], [vI 14, vA (m + 1), vI k], (C, N9))) (fun _ => rfl) ?_
    have f1 := hw9.2.2.1
    refine AR.iald rfl hm.2.1 (by first | omega | (have := y4 (by omega); omega)) (v := n) hr9.2.1 ?_
    refine AR.ic_ge rfl (by first | omega | (have := y4 (by omega); omega)) (fun c2 => ?_) (fun c2 => ?_)
    · show AR E d _ (89, [some (vA m), some (vI k)], [], (C, N9)) _
      refine AR.endV rfl rfl ?_
      rw [show k = n by omega] at i1
      rw [← i1]
      exact ⟨_, rfl, hr9, hz9, hk9, hf9⟩
    · show AR E d _ (13, [some (vA m), some (vI k)], [], (C, N9)) _
      refine AR.blk 1 (f' := (14, [some (vA m), some (vI k)], [vA m], (C, N9))) (fun _ => rfl) ?_
      refine AR.getR rfl rfl hm.1 (by decide) rfl ?_
      refine AR.blk 1 (f' := (18, [some (vA m), some (vI k)], [vI 0, vA (m + 1)], (C, N9))) (fun _ => rfl) ?_
      refine AR.iald rfl hm.2.1 (by first | omega | (have := y4 (by omega); omega)) (v := t) hz9.1 ?_
      refine AR.blk 3 (f' := (22, [some (vA m), some (vI k)], [vI 1, vI k, vA m, vI t], (C, N9))) (fun _ => rfl) ?_
      refine AR.callV [vI k, vI 1] (ev_X7_ofLock (by omega) hm k 1 (by omega) (p k) (hr9.2.2.1 _ (by omega) (by omega)).2) hm.1 rfl rfl rfl rfl rfl ?_
      show AR E d _ (25, [some (vA m), some (vI k)], [vI (p k), vI t], (C, N9)) _
      have f3 := hw9.2.2.2.1 k (by omega) (by omega)
      refine AR.irem rfl (by first | omega | (have := y4 (by omega); omega)) ?_
      refine AR.if_gt rfl (by first | omega | (have := y4 (by omega); omega)) (fun c4 => ?_) (fun c4 => ?_)
      · show AR E d _ (83, [some (vA m), some (vI k)], [], (C, N9)) _
        refine AR.blk 2 (f' := (2, [some (vA m), some (vI (k + 1))], [], (C, N9))) (fun _ => rfl) ?_
        exact ih2 _ (_) (_) _ (by omega) (by omega) (by rw [m_trn_S P q p t cl tn k (by omega), ← i1]; exact (if_neg (show ¬ (t % p k = 0 ∧ P (q k) = -1) by omega)).symm) hr9 hz9 hk9 hf9
      · show AR E d _ (29, [some (vA m), some (vI k)], [], (C, N9)) _
        refine AR.blk 4 (f' := (33, [some (vA m), some (vI k)], [vI 0, vI k, vA m, vA m], (C, N9))) (fun _ => rfl) ?_
        refine AR.callV [vI k, vI 0] (ev_X7_ofLock (by omega) hm k 0 (by omega) (q k) (hr9.2.2.1 _ (by omega) (by omega)).1) hm.1 rfl rfl rfl rfl rfl ?_
        show AR E d _ (36, [some (vA m), some (vI k)], [vI (q k), vA m], (C, N9)) _
        have f5 := hw9.2.2.2.1 k (by omega) (by omega)
        refine AR.callV [vI (q k)] (ev_X7_pieceAt (by omega) hm hr9 hw9 (q k) (by first | omega | (have := y4 (by omega); omega))) hm.1 rfl rfl rfl rfl rfl ?_
        show AR E d _ (39, [some (vA m), some (vI k)], [vI (P (q k) + 1)], (C, N9)) _
        have f6 := hw9.1 (q k)
        refine AR.if_le rfl (by first | omega | (have := y4 (by omega); omega)) (fun c7 => ?_) (fun c7 => ?_)
        · show AR E d _ (45, [some (vA m), some (vI k)], [], (C, N9)) _
          refine AR.blk 1 (f' := (46, [some (vA m), some (vI k)], [vA m], (C, N9))) (fun _ => rfl) ?_
          refine AR.getR rfl rfl hm.1 (by decide) rfl ?_
          refine AR.blk 11 (f' := (61, [some (vA m), some (vI k)], [vI 2, vI k, vA m, vI 1, vI ((15 + (4 * k)) + 2), vA (m + 1)], (C, N9))) (fun _ => rfl) ?_
          refine AR.callV [vI k, vI 2] (ev_X7_ofLock (by omega) hm k 2 (by omega) (ck k) (hr9.2.2.2 _ (by omega) (by omega)).1) hm.1 rfl rfl rfl rfl rfl ?_
          show AR E d _ (64, [some (vA m), some (vI k)], [vI (ck k), vI 1, vI ((15 + (4 * k)) + 2), vA (m + 1)], (C, N9)) _
          have f8 := hw9.2.2.2.2.1 k
          refine AR.blk 1 (f' := (65, [some (vA m), some (vI k)], [vI (1 - (ck k)), vI ((15 + (4 * k)) + 2), vA (m + 1)], (C, N9))) (fun _ => rfl) ?_
          refine AR.iast rfl hm.2.1 (by first | omega | (have := y4 (by omega); omega)) ?_
          show AR E d _ (66, [some (vA m), some (vI k)], [], (C, ag_upd N9 (m + 1) ((15 + (4 * k)) + 2) (1 - (ck k)))) _
          have RN10 := g_rR_cl hr9 k (1 - (ck k)) (by omega)
          have ZN10 := g_rZ_fr hz9 (R' := (ag_upd N9 (m + 1) ((15 + (4 * k)) + 2) (1 - (ck k))) (m + 1)) (fun i z0 z1 => ag_upd_nk (by omega))
          have KN10 : ∀ i, 6 ≤ i ∧ i < 8 ∨ 67 ≤ i → (ag_upd N9 (m + 1) ((15 + (4 * k)) + 2) (1 - (ck k))) (m + 1) i = N (m + 1) i := fun i hi => (ag_upd_nk (by omega)).trans (hk9 i hi)
          have FN10 : ∀ a, a ≠ m + 1 → (ag_upd N9 (m + 1) ((15 + (4 * k)) + 2) (1 - (ck k))) a = N a := fun a ha => (ag_upd_ne ha).trans (hf9 a ha)
          generalize ag_upd N9 (m + 1) ((15 + (4 * k)) + 2) (1 - (ck k)) = N10 at *
          refine AR.blk 1 (f' := (67, [some (vA m), some (vI k)], [vA m], (C, N10))) (fun _ => rfl) ?_
          refine AR.getR rfl rfl hm.1 (by decide) rfl ?_
          refine AR.blk 8 (f' := (79, [some (vA m), some (vI k)], [vI ((15 + (4 * k)) + 3), vA (m + 1), vI ((15 + (4 * k)) + 3), vA (m + 1)], (C, N10))) (fun _ => rfl) ?_
          have f11 := hw9.2.2.2.2.1 k
          refine AR.iald rfl hm.2.1 (by first | omega | (have := y4 (by omega); omega)) (v := tk k) (RN10.2.2.2 _ (by omega) (by omega)).2 ?_
          refine AR.blk 2 (f' := (82, [some (vA m), some (vI k)], [vI ((tk k) + 1), vI ((15 + (4 * k)) + 3), vA (m + 1)], (C, N10))) (fun _ => rfl) ?_
          refine AR.iast rfl hm.2.1 (by first | omega | (have := y4 (by omega); omega)) ?_
          show AR E d _ (83, [some (vA m), some (vI k)], [], (C, ag_upd N10 (m + 1) ((15 + (4 * k)) + 3) ((tk k) + 1))) _
          have RN13 := g_rR_tn RN10 k ((tk k) + 1) (by omega)
          have ZN13 := g_rZ_fr ZN10 (R' := (ag_upd N10 (m + 1) ((15 + (4 * k)) + 3) ((tk k) + 1)) (m + 1)) (fun i z0 z1 => ag_upd_nk (by omega))
          have KN13 : ∀ i, 6 ≤ i ∧ i < 8 ∨ 67 ≤ i → (ag_upd N10 (m + 1) ((15 + (4 * k)) + 3) ((tk k) + 1)) (m + 1) i = N (m + 1) i := fun i hi => (ag_upd_nk (by omega)).trans (KN10 i hi)
          have FN13 : ∀ a, a ≠ m + 1 → (ag_upd N10 (m + 1) ((15 + (4 * k)) + 3) ((tk k) + 1)) a = N a := fun a ha => (ag_upd_ne ha).trans (FN10 a ha)
          generalize ag_upd N10 (m + 1) ((15 + (4 * k)) + 3) ((tk k) + 1) = N13 at *
          refine AR.blk 2 (f' := (2, [some (vA m), some (vI (k + 1))], [], (C, N13))) (fun _ => rfl) ?_
          exact ih2 _ (_) (_) _ (by omega) (by omega) (by rw [m_trn_S P q p t cl tn k (by omega), ← i1, if_pos (show t % p k = 0 ∧ P (q k) = -1 by omega)]) RN13 ZN13 KN13 FN13
        · show AR E d _ (42, [some (vA m), some (vI k)], [], (C, N9)) _
          refine AR.blk 3 (f' := (2, [some (vA m), some (vI (k + 1))], [], (C, N9))) (fun _ => rfl) ?_
          exact ih2 _ (_) (_) _ (by omega) (by omega) (by rw [m_trn_S P q p t cl tn k (by omega), ← i1]; exact (if_neg (show ¬ (t % p k = 0 ∧ P (q k) = -1) by omega)).symm) hr9 hz9 hk9 hf9
end L2l
