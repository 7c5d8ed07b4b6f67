/-! LEVEL 2: the model makes a move -/
theorem g_rD_fr {R R' : Int → Int} {D : List ((Int × Int) × Int)} (h : g_rD R D) (hf : ∀ i, 6 ≤ i ∧ i < 8 ∨ 67 ≤ i → R' i = R i) : g_rD R' D :=
  ⟨(hf 67 (by omega)).trans h.1, fun i y hy => g_ent_fr (h.2 i y hy) (fun k h0 h1 => hf _ (by omega))⟩
theorem m_tdC_in (P : Int → Int) (n : Int) (q cl : Int → Int) (t ca : Int) : ca ≤ m_tdC P n q cl t ca ∧ m_tdC P n q cl t ca ≤ ca + 12 := by
  have h0 := m_rv_in P n q cl 0 6
  have h2 := m_rv_in P n q cl 2 6
  unfold m_tdC
  omega
theorem m_wS_go {P : Int → Int} {n : Int} {q p cl tn : Int → Int} {t ca : Int} {gn pu mk : Int → Int} {s x : Int} (hv : g_wS t 1 0 ca gn pu mk) (ht : t ≤ 119) (hs : 0 ≤ s ∧ s < 36) : g_wS (t + 1) 1 0 (m_gca P n q p cl tn t ca s x) (m_ggn P gn s x) (m_gpu2 P pu s x) (m_gmk2 P mk s x) := by
  have h1 := m_tdC_in (m_c1 P s x) n q (m_gcl P n q p cl tn t s x) (t + 1) ca
  have h2 := m_std_in P s x hs
  obtain ⟨a1, a2, a3, a4, a5, a6⟩ := hv
  refine ⟨by omega, .inr rfl, by omega, ?_, fun w => ⟨?_, ?_, ?_⟩, fun e => by omega⟩
  · unfold m_gca
    split <;> omega
  · have b := a5 w
    have b2 := a5 (m_own (m_held (m_proP P s x) s x))
    unfold m_ggn m_set
    split
    · dsimp only
      split <;> omega
    · omega
  · have b := a5 w
    have b2 := a5 (m_own (P s))
    unfold m_gpu2 m_set
    split <;> omega
  · have b := a5 w
    have b2 := a5 (m_own (P s))
    unfold m_gmk2 m_set
    split
    · dsimp only
      split <;> omega
    · omega
section L2q
variable {E : Nat × (Int → Int)} {C : List ag_C} {N : Nat → Int → Int} {m : Nat} {P : Int → Int} {n : Int} {q p cl tn : Int → Int} {t ca : Int} {gn pu mk : Int → Int} {D : List ((Int × Int) × Int)}

theorem ev_X7_makes {d : Nat} (hd : 10 ≤ d) (hm : g_isM C m) (hr : g_rR (N (m + 1)) P n q p cl tn) (hw : g_wB P n q p cl tn) (hz : g_rZ (N (m + 1)) t (t % 2) (t / 4) 1 0 ca gn pu mk) (hv : g_wS t 1 0 ca gn pu mk) (hD : g_rD (N (m + 1)) D) (hDl : D.length ≤ 120) (hC : ∀ y, y ∈ D → 0 ≤ y.2 ∧ y.2 ≤ 1000) (s x : Int) (h0 : 0 ≤ s ∧ s < 36) (h1 : 0 ≤ x ∧ x < 4) (h2 : P s ≠ -1) (h3 : 1 ≤ m_room s x) (h5 : t ≤ 119) : ∃ o_, Ev E d 138 [vA m, vI s, vI x] (C, N) o_ ∧ g_QL C N m (some (vI (m_cn (m_key (m_gP P n q p cl tn t s x) (m_gcl P n q p cl tn t s x) ((t + 1) % 2)) D))) (m_gP P n q p cl tn t s x) n q p (m_gcl P n q p cl tn t s x) (m_gtn P n q p cl tn t s x) (t + 1) (m_end2 (m_gP P n q p cl tn t s x) n q (m_gcl P n q p cl tn t s x) (t + 1) (m_cn (m_key (m_gP P n q p cl tn t s x) (m_gcl P n q p cl tn t s x) ((t + 1) % 2)) D)) (m_gca P n q p cl tn t ca s x) (m_ggn P gn s x) (m_gpu2 P pu s x) (m_gmk2 P mk s x) (m_add (m_key (m_gP P n q p cl tn t s x) (m_gcl P n q p cl tn t s x) ((t + 1) % 2)) D) o_ := by
  obtain ⟨d, rfl⟩ : ∃ j, d = j + 1 := ⟨d - 1, by omega⟩
  have y0 := hw.2.2.1
  have y1 := hv.1
  refine Ev.introQ (M := ag_mX7_makes) rfl rfl ?_
  show AR E d _ (0, [some (vA m), some (vI s), some (vI x)], [], (C, N)) _
  refine AR.blk 3 (f' := (3, [some (vA m), some (vI s), some (vI x)], [vI x, vI s, vA m], (C, N))) (fun _ => rfl) ?_
  obtain ⟨_, hE1, N2, rfl, hr3, hz4, hk5, hf6⟩ := ev_X7_shifts (E := E) (d := d) (by omega) hm hr hw hz s x (by omega) (by omega) (by omega) (by omega)
  have KN2 : ∀ i, 6 ≤ i ∧ i < 8 ∨ 67 ≤ i → N2 (m + 1) i = N (m + 1) i := fun i hi => (hk5 i hi).trans ((fun _ _ => rfl) i hi)
  have FN2 : ∀ a, a ≠ m + 1 → N2 a = N a := fun a ha => (hf6 a ha).trans ((fun _ _ => rfl) a ha)
  have WN2 := m_mov_w (m_proP_w hw x (show 0 ≤ s ∧ s < 36 by omega)) (show 0 ≤ s ∧ s < 36 by omega) (show 0 ≤ x ∧ x < 4 by omega)
  refine AR.callV [vI s, vI x] hE1 hm.1 rfl rfl rfl rfl rfl ?_
  show AR E d _ (6, [some (vA m), some (vI s), some (vI x)], [], (C, N2)) _
  refine AR.blk 1 (f' := (7, [some (vA m), some (vI s), some (vI x)], [vA m], (C, N2))) (fun _ => rfl) ?_
  refine AR.getR rfl rfl hm.1 (by decide) rfl ?_
  refine AR.blk 2 (f' := (12, [some (vA m), some (vI s), some (vI x)], [vI 0, vA (m + 1), vI 0, vA (m + 1)], (C, N2))) (fun _ => rfl) ?_
  refine AR.iald rfl hm.2.1 (by omega) (v := t) hz4.1 ?_
  refine AR.blk 2 (f' := (15, [some (vA m), some (vI s), some (vI x)], [vI (t + 1), vI 0, vA (m + 1)], (C, N2))) (fun _ => rfl) ?_
  refine AR.iast rfl hm.2.1 (by omega) ?_
  show AR E d _ (16, [some (vA m), some (vI s), some (vI x)], [], (C, ag_upd N2 (m + 1) 0 (t + 1))) _
  have RN8 := g_rR_fr hr3 (R' := (ag_upd N2 (m + 1) 0 (t + 1)) (m + 1)) (fun i z0 z1 => ag_upd_nk (by omega))
  have ZN8 := g_rZ_t hz4 (t + 1)
  have KN8 : ∀ i, 6 ≤ i ∧ i < 8 ∨ 67 ≤ i → (ag_upd N2 (m + 1) 0 (t + 1)) (m + 1) i = N (m + 1) i := fun i hi => (ag_upd_nk (by omega)).trans (KN2 i hi)
  have FN8 : ∀ a, a ≠ m + 1 → (ag_upd N2 (m + 1) 0 (t + 1)) a = N a := fun a ha => (ag_upd_ne ha).trans (FN2 a ha)
  generalize ag_upd N2 (m + 1) 0 (t + 1) = N8 at *
  refine AR.blk 1 (f' := (17, [some (vA m), some (vI s), some (vI x)], [vA m], (C, N8))) (fun _ => rfl) ?_
  refine AR.getR rfl rfl hm.1 (by decide) rfl ?_
  refine AR.blk 3 (f' := (23, [some (vA m), some (vI s), some (vI x)], [vA m, vI 1, vI 1, vA (m + 1)], (C, N8))) (fun _ => rfl) ?_
  refine AR.getR rfl rfl hm.1 (by decide) rfl ?_
  refine AR.blk 1 (f' := (27, [some (vA m), some (vI s), some (vI x)], [vI 1, vA (m + 1), vI 1, vI 1, vA (m + 1)], (C, N8))) (fun _ => rfl) ?_
  refine AR.iald rfl hm.2.1 (by omega) (v := (t % 2)) ZN8.2.1 ?_
  refine AR.blk 1 (f' := (29, [some (vA m), some (vI s), some (vI x)], [vI (1 - (t % 2)), vI 1, vA (m + 1)], (C, N8))) (fun _ => rfl) ?_
  refine AR.iast rfl hm.2.1 (by omega) ?_
  show AR E d _ (30, [some (vA m), some (vI s), some (vI x)], [], (C, ag_upd N8 (m + 1) 1 (1 - (t % 2)))) _
  have RN10 := g_rR_fr RN8 (R' := (ag_upd N8 (m + 1) 1 (1 - (t % 2))) (m + 1)) (fun i z0 z1 => ag_upd_nk (by omega))
  have ZN10 := g_rZ_sd ZN8 (1 - (t % 2))
  have KN10 : ∀ i, 6 ≤ i ∧ i < 8 ∨ 67 ≤ i → (ag_upd N8 (m + 1) 1 (1 - (t % 2))) (m + 1) i = N (m + 1) i := fun i hi => (ag_upd_nk (by omega)).trans (KN8 i hi)
  have FN10 : ∀ a, a ≠ m + 1 → (ag_upd N8 (m + 1) 1 (1 - (t % 2))) a = N a := fun a ha => (ag_upd_ne ha).trans (FN8 a ha)
  generalize ag_upd N8 (m + 1) 1 (1 - (t % 2)) = N10 at *
  refine AR.blk 1 (f' := (31, [some (vA m), some (vI s), some (vI x)], [vA m], (C, N10))) (fun _ => rfl) ?_
  obtain ⟨_, hE11, N12, rfl, hr13, hz14, hk15, hf16⟩ := ev_X7_locksTurn (E := E) (d := d) (by omega) hm RN10 WN2 ZN10  (by omega)
  have KN12 : ∀ i, 6 ≤ i ∧ i < 8 ∨ 67 ≤ i → N12 (m + 1) i = N (m + 1) i := fun i hi => (hk15 i hi).trans (KN10 i hi)
  have FN12 : ∀ a, a ≠ m + 1 → N12 a = N a := fun a ha => (hf16 a ha).trans (FN10 a ha)
  have WN12 := m_trn_w WN2 (t + 1) (n).toNat (by have := WN2.2.2.1; omega)
  refine AR.callV [] hE11 hm.1 rfl rfl rfl rfl rfl ?_
  show AR E d _ (34, [some (vA m), some (vI s), some (vI x)], [], (C, N12)) _
  refine AR.blk 1 (f' := (35, [some (vA m), some (vI s), some (vI x)], [vA m], (C, N12))) (fun _ => rfl) ?_
  refine AR.getR rfl rfl hm.1 (by decide) rfl ?_
  refine AR.blk 1 (f' := (39, [some (vA m), some (vI s), some (vI x)], [vI 0, vA (m + 1)], (C, N12))) (fun _ => rfl) ?_
  refine AR.iald rfl hm.2.1 (by omega) (v := (t + 1)) hz14.1 ?_
  refine AR.blk 1 (f' := (41, [some (vA m), some (vI s), some (vI x)], [vI 4, vI (t + 1)], (C, N12))) (fun _ => rfl) ?_
  refine AR.irem rfl (by omega) ?_
  refine AR.if_ne rfl (by omega) (fun c17 => ?_) (fun c17 => ?_)
  · show AR E d _ (49, [some (vA m), some (vI s), some (vI x)], [], (C, N12)) _
    have g1 : m_gP P n q p cl tn t s x = (m_c1 P s x) := if_neg (by omega)
    have g2 : m_gca P n q p cl tn t ca s x = ca := if_neg (by omega)
    have RRN12 : g_rR (N12 (m + 1)) (m_gP P n q p cl tn t s x) n q p (m_gcl P n q p cl tn t s x) (m_gtn P n q p cl tn t s x) := by rw [g1]; exact hr13
    have WWN12 : g_wB (m_gP P n q p cl tn t s x) n q p (m_gcl P n q p cl tn t s x) (m_gtn P n q p cl tn t s x) := by rw [g1]; exact WN12
    have ZZN12 : g_rZ (N12 (m + 1)) (t + 1) ((t + 1) % 2) ((t + 1) / 4) 1 0 (m_gca P n q p cl tn t ca s x) (m_ggn P gn s x) (m_gpu2 P pu s x) (m_gmk2 P mk s x) := by rw [g2, show (t + 1) % 2 = 1 - t % 2 by omega, show (t + 1) / 4 = (t / 4) by omega]; exact hz14
    have VVN12 := m_wS_go (P := P) (n := n) (q := q) (p := p) (cl := cl) (tn := tn) (s := s) (x := x) hv h5 h0
    refine AR.blk 1 (f' := (50, [some (vA m), some (vI s), some (vI x)], [vA m], (C, N12))) (fun _ => rfl) ?_
    obtain ⟨_, hE18, N19, rfl, hr20, hz21, hD22, hk23, hf24⟩ := ev_X7_looks (E := E) (d := d) (by omega) hm RRN12 WWN12 ZZN12 VVN12 (g_rD_fr hD KN12) hDl hC
    have KN19 : ∀ i, 6 ≤ i ∧ i < 8 → N19 (m + 1) i = N (m + 1) i := fun i hi => (hk23 i hi).trans (KN12 i (.inl hi))
    have FN19 : ∀ a, a ≠ m + 1 → N19 a = N a := fun a ha => (hf24 a ha).trans (FN12 a ha)
    refine AR.callV [] hE18 hm.1 rfl rfl rfl rfl rfl ?_
    show AR E d _ (53, [some (vA m), some (vI s), some (vI x)], [vI (m_cn (m_key (m_gP P n q p cl tn t s x) (m_gcl P n q p cl tn t s x) ((t + 1) % 2)) D)], (C, N19)) _
    refine AR.endI rfl (.inl rfl) ?_
    exact ⟨_, rfl, hr20, hz21, hD22, KN19, FN19⟩
  · show AR E d _ (45, [some (vA m), some (vI s), some (vI x)], [], (C, N12)) _
    refine AR.blk 1 (f' := (46, [some (vA m), some (vI s), some (vI x)], [vA m], (C, N12))) (fun _ => rfl) ?_
    obtain ⟨_, hE25, N26, rfl, hr27, hz28, hk29, hf30⟩ := ev_X7_tides (E := E) (d := d) (by omega) hm hr13 WN12 hz14  (by omega) (by omega)
    have KN26 : ∀ i, 6 ≤ i ∧ i < 8 ∨ 67 ≤ i → N26 (m + 1) i = N (m + 1) i := fun i hi => (hk29 i hi).trans (KN12 i hi)
    have FN26 : ∀ a, a ≠ m + 1 → N26 a = N a := fun a ha => (hf30 a ha).trans (FN12 a ha)
    have WN26 := m_tdP_w WN12 (t + 1)
    refine AR.callV [] hE25 hm.1 rfl rfl rfl rfl rfl ?_
    show AR E d _ (49, [some (vA m), some (vI s), some (vI x)], [], (C, N26)) _
    have g1 : m_gP P n q p cl tn t s x = m_tdP (m_c1 P s x) n q ((m_trn (m_c1 P s x) q p (t + 1) cl tn n.toNat).1) (t + 1) := if_pos (by omega)
    have g2 : m_gca P n q p cl tn t ca s x = m_tdC (m_c1 P s x) n q ((m_trn (m_c1 P s x) q p (t + 1) cl tn n.toNat).1) (t + 1) ca := if_pos (by omega)
    have RRN26 : g_rR (N26 (m + 1)) (m_gP P n q p cl tn t s x) n q p (m_gcl P n q p cl tn t s x) (m_gtn P n q p cl tn t s x) := by rw [g1]; exact hr27
    have WWN26 : g_wB (m_gP P n q p cl tn t s x) n q p (m_gcl P n q p cl tn t s x) (m_gtn P n q p cl tn t s x) := by rw [g1]; exact WN26
    have ZZN26 : g_rZ (N26 (m + 1)) (t + 1) ((t + 1) % 2) ((t + 1) / 4) 1 0 (m_gca P n q p cl tn t ca s x) (m_ggn P gn s x) (m_gpu2 P pu s x) (m_gmk2 P mk s x) := by rw [g2, show (t + 1) % 2 = 1 - t % 2 by omega, show (t + 1) / 4 = (t / 4) + 1 by omega]; exact hz28
    have VVN26 := m_wS_go (P := P) (n := n) (q := q) (p := p) (cl := cl) (tn := tn) (s := s) (x := x) hv h5 h0
    refine AR.blk 1 (f' := (50, [some (vA m), some (vI s), some (vI x)], [vA m], (C, N26))) (fun _ => rfl) ?_
    obtain ⟨_, hE31, N32, rfl, hr33, hz34, hD35, hk36, hf37⟩ := ev_X7_looks (E := E) (d := d) (by omega) hm RRN26 WWN26 ZZN26 VVN26 (g_rD_fr hD KN26) hDl hC
    have KN32 : ∀ i, 6 ≤ i ∧ i < 8 → N32 (m + 1) i = N (m + 1) i := fun i hi => (hk36 i hi).trans (KN26 i (.inl hi))
    have FN32 : ∀ a, a ≠ m + 1 → N32 a = N a := fun a ha => (hf37 a ha).trans (FN26 a ha)
    refine AR.callV [] hE31 hm.1 rfl rfl rfl rfl rfl ?_
    show AR E d _ (53, [some (vA m), some (vI s), some (vI x)], [vI (m_cn (m_key (m_gP P n q p cl tn t s x) (m_gcl P n q p cl tn t s x) ((t + 1) % 2)) D)], (C, N32)) _
    refine AR.endI rfl (.inl rfl) ?_
    exact ⟨_, rfl, hr33, hz34, hD35, KN32, FN32⟩
end L2q
