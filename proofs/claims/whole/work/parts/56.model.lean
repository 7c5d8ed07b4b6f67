/-! LEVEL 2: the model: what changes it -/
def g_rW (N : Nat → Int → Int) (m : Nat) (V : Option m_G) : Prop := (V = none → N m 5 = 0) ∧ ∀ G, V = some G → N m 5 = 1 ∧ g_rM (N (m + 3)) G
def g_rE (N : Nat → Int → Int) (m : Nat) (F : m_F) : Prop := (N m 8 = 0 ∧ F = (-4, -4, -4, -4, -4)) ∨ ((1 ≤ F.1 ∧ F.1 ≤ 9) ∧ N m 8 = F.1 ∧ N m 9 = F.2.1 ∧ N m 10 = F.2.2.1 ∧ ((N m 11 = 0 ∧ F.2.2.2.1 = -4 ∧ F.2.2.2.2 = -4) ∨ ((10 ≤ F.2.2.2.1 ∧ F.2.2.2.1 ≤ 13) ∧ N m 11 = F.2.2.2.1 ∧ N m 12 = F.2.2.2.2)))
def g_rTm (N : Nat → Int → Int) (m : Nat) (L : Int) (T : Int → Int) : Prop := N m 14 = L ∧ ∀ j, 0 ≤ j → j < L → N (m + 6) j = T j
def g_rLm (N : Nat → Int → Int) (m : Nat) (l : Int) (ln : Int → Int) : Prop := N m 16 = l ∧ ∀ j, 0 ≤ j → j < l → N (m + 7) j = ln j
def g_rY (N : Nat → Int → Int) (m : Nat) (S : m_S) : Prop := g_rM (N (m + 1)) S.1 ∧ g_rK N m S.2.1 ∧ g_rW N m S.2.2.1 ∧ g_rE N m S.2.2.2.1 ∧ g_rTm N m S.2.2.2.2.1.1 S.2.2.2.2.1.2 ∧ g_rLm N m S.2.2.2.2.2.1 S.2.2.2.2.2.2 ∧ N m 7 = 0
def g_QY (C : List ag_C) (N : Nat → Int → Int) (m : Nat) (R : Int × m_S) : ag_O → Prop := fun r => ∃ N', r = (some (vI R.1), (C, N')) ∧ g_rY N' m R.2 ∧ ∀ a, ¬ (m ≤ a ∧ a < m + 9) → N' a = N a
def g_QE (C : List ag_C) (N : Nat → Int → Int) (m : Nat) (R : Int × m_F) : ag_O → Prop := fun r => ∃ N', r = (some (vI R.1), (C, N')) ∧ g_rE N' m R.2 ∧ (∀ k, ¬ (8 ≤ k ∧ k ≤ 12) → N' m k = N m k) ∧ ∀ a, a ≠ m → N' a = N a
theorem g_rK_fr {N N' : Nat → Int → Int} {m : Nat} {U : List m_G} (h : g_rK N m U) (h6 : N' m 6 = N m 6) (h2 : N' (m + 2) = N (m + 2)) : g_rK N' m U := by
  refine ⟨h6.trans h.1, h.2.1, fun i G hi => ?_⟩
  rw [h2]
  exact h.2.2 i G hi
theorem g_rW_fr {N N' : Nat → Int → Int} {m : Nat} {V : Option m_G} (h : g_rW N m V) (h5 : N' m 5 = N m 5) (h3 : N' (m + 3) = N (m + 3)) : g_rW N' m V :=
  ⟨fun e => h5.trans (h.1 e), fun G e => ⟨h5.trans (h.2 G e).1, by rw [h3]; exact (h.2 G e).2⟩⟩
theorem g_rE_fr {N N' : Nat → Int → Int} {m : Nat} {F : m_F} (h : g_rE N m F) (hk : ∀ k, 8 ≤ k → k ≤ 12 → N' m k = N m k) : g_rE N' m F := by
  unfold g_rE
  rw [hk 8 (by omega) (by omega), hk 9 (by omega) (by omega), hk 10 (by omega) (by omega), hk 11 (by omega) (by omega), hk 12 (by omega) (by omega)]
  exact h
theorem g_rTm_fr {N N' : Nat → Int → Int} {m : Nat} {L : Int} {T : Int → Int} (h : g_rTm N m L T) (h0 : N' m 14 = N m 14) (h1 : N' (m + 6) = N (m + 6)) : g_rTm N' m L T :=
  ⟨h0.trans h.1, fun j z0 z1 => (congrFun h1 j).trans (h.2 j z0 z1)⟩
theorem g_rLm_fr {N N' : Nat → Int → Int} {m : Nat} {l : Int} {ln : Int → Int} (h : g_rLm N m l ln) (h0 : N' m 16 = N m 16) (h1 : N' (m + 7) = N (m + 7)) : g_rLm N' m l ln :=
  ⟨h0.trans h.1, fun j z0 z1 => (congrFun h1 j).trans (h.2 j z0 z1)⟩
def m_cbF (G : m_G) (F : m_F) (s : Int) : Int × m_F := if G.2.1.2.1 = 1 then (1, (2, G.2.1.1, -4, -4, -4)) else if G.1.1 s ≠ -1 then (1, (5, s, -4, -4, -4)) else if m_la G.1.2.1 G.1.2.2.1 s ≠ -1 then (1, (6, m_la G.1.2.1 G.1.2.2.1 s, -4, -4, -4)) else (0, F)
theorem m_cbF_in (G : m_G) (F : m_F) (s : Int) : ((m_cbF G F s).1 = 0 ∧ (m_cbF G F s).2 = F ∧ (G.2.1.2.1 ≠ 1 ∧ G.1.1 s = -1 ∧ m_la G.1.2.1 G.1.2.2.1 s = -1) ∧ ∀ u z, m_beF G F s u z = if u < z then (0, F) else (-3, (1, z, -4, -4, -4))) ∨ ((m_cbF G F s).1 = 1 ∧ ∀ u z, m_beF G F s u z = (-3, (m_cbF G F s).2)) := by
  unfold m_cbF m_beF
  by_cases e1 : G.2.1.2.1 = 1
  · rw [if_pos e1]; exact .inr ⟨rfl, fun u z => if_pos e1⟩
  rw [if_neg e1]
  by_cases e2 : G.1.1 s ≠ -1
  · rw [if_pos e2]; exact .inr ⟨rfl, fun u z => (if_neg e1).trans (if_pos e2)⟩
  rw [if_neg e2]
  by_cases e3 : m_la G.1.2.1 G.1.2.2.1 s ≠ -1
  · rw [if_pos e3]; exact .inr ⟨rfl, fun u z => (if_neg e1).trans ((if_neg e2).trans (if_pos e3))⟩
  rw [if_neg e3]
  exact .inl ⟨rfl, rfl, ⟨e1, by omega, by omega⟩, fun u z => (if_neg e1).trans ((if_neg e2).trans (if_neg e3))⟩
theorem m_cb01 (G : m_G) (F : m_F) (s : Int) : (m_cbF G F s).1 = 0 ∨ (m_cbF G F s).1 = 1 := by
  rcases m_cbF_in G F s with h | h
  · exact .inl h.1
  · exact .inr h.1
section L2G
variable {E : Nat × (Int → Int)} {C : List ag_C} {N : Nat → Int → Int} {m : Nat}

theorem ev_X7_refuses {d : Nat} (hd : 1 ≤ d) (hm : g_isM C m) (r z : Int) (h0 : 1 ≤ r ∧ r ≤ 9) : ∃ o_, Ev E d 106 [vA m, vI r, vI z] (C, N) o_ ∧ g_QE C N m (-3, (r, z, -4, -4, -4)) o_ := by
  obtain ⟨d, rfl⟩ : ∃ j, d = j + 1 := ⟨d - 1, by omega⟩
  refine Ev.introQ (M := ag_mX7_refuses) rfl rfl ?_
  show AR E d _ (0, [some (vA m), some (vI r), some (vI z)], [], (C, N)) _
  refine AR.blk 2 (f' := (2, [some (vA m), some (vI r), some (vI z)], [vI r, vA m], (C, N))) (fun _ => rfl) ?_
  refine AR.putI rfl rfl hm.1 (by decide) (fun q => absurd q (by decide)) ?_
  refine AR.blk 2 (f' := (7, [some (vA m), some (vI r), some (vI z)], [vI z, vA m], (C, ag_upd N m 8 r))) (fun _ => rfl) ?_
  refine AR.putI rfl rfl hm.1 (by decide) (fun q => absurd q (by decide)) ?_
  refine AR.blk 2 (f' := (13, [some (vA m), some (vI r), some (vI z)], [vI (-4), vA m], (C, ag_upd (ag_upd N m 8 r) m 9 z))) (fun _ => rfl) ?_
  refine AR.putI rfl rfl hm.1 (by decide) (fun q => absurd q (by decide)) ?_
  refine AR.blk 2 (f' := (18, [some (vA m), some (vI r), some (vI z)], [vI 0, vA m], (C, ag_upd (ag_upd (ag_upd N m 8 r) m 9 z) m 10 (-4)))) (fun _ => rfl) ?_
  refine AR.putI rfl rfl hm.1 (by decide) (fun q => absurd q (by decide)) ?_
  refine AR.blk 1 (f' := (23, [some (vA m), some (vI r), some (vI z)], [vI (-3)], (C, ag_upd (ag_upd (ag_upd (ag_upd N m 8 r) m 9 z) m 10 (-4)) m 11 0))) (fun _ => rfl) ?_
  refine AR.endI rfl (.inl rfl) ?_
  refine ⟨_, rfl, .inr ⟨h0, ?_, ?_, ?_, .inl ⟨ag_upd_eq, rfl, rfl⟩⟩, fun k hk => (ag_upd_nk (by omega)).trans ((ag_upd_nk (by omega)).trans ((ag_upd_nk (by omega)).trans (ag_upd_nk (by omega)))), fun a ha => (ag_upd_ne ha).trans ((ag_upd_ne ha).trans ((ag_upd_ne ha).trans (ag_upd_ne ha)))⟩
  · exact (ag_upd_nk (by omega)).trans ((ag_upd_nk (by omega)).trans ((ag_upd_nk (by omega)).trans ag_upd_eq))
  · exact (ag_upd_nk (by omega)).trans ((ag_upd_nk (by omega)).trans ag_upd_eq)
  · exact (ag_upd_nk (by omega)).trans ag_upd_eq

theorem ev_X7_cannotBuild {d : Nat} (hd : 3 ≤ d) (hm : g_isM C m) {P : Int → Int} {n : Int} {q p cl tn : Int → Int} {t bg en ca : Int} {gn pu mk : Int → Int} {H : List (Int × Int)} (hM : g_rM (N (m + 1)) ((P, n, q, p, cl, tn), (t, bg, en, ca), (gn, pu, mk), H)) (hvG : g_vG ((P, n, q, p, cl, tn), (t, bg, en, ca), (gn, pu, mk), H)) {F : m_F} (hE : g_rE N m F) (s : Int) (h0 : 0 ≤ s ∧ s < 36) : ∃ o_, Ev E d 119 [vA m, vI s] (C, N) o_ ∧ g_QE C N m (m_cbF ((P, n, q, p, cl, tn), (t, bg, en, ca), (gn, pu, mk), H) F s) o_ := by
  obtain ⟨d, rfl⟩ : ∃ j, d = j + 1 := ⟨d - 1, by omega⟩
  have hw : g_wB P n q p cl tn := hvG.1.1
  have hwH : g_wH H := hvG.1.2.1
  have hv : g_wS t bg en ca gn pu mk := hvG.1.2.2
  have w1 := hv.1
  have w2 := hv.2.1
  have w3 := hv.2.2.1
  have w4 := hv.2.2.2.1
  have w6 := hv.2.2.2.2.2
  have w7 := hw.2.2.1
  have r0 : g_rR (N (m + 1)) P n q p cl tn := hM.1
  have z0 : g_rZ (N (m + 1)) t (t % 2) (t / 4) bg en ca gn pu mk := hM.2.1
  have s0 : g_rS (N (m + 1)) t bg en ca gn pu mk := z0
  have D0 : g_rD (N (m + 1)) (m_D H) := hM.2.2.1
  have p0 : (bg : Int) = 0 → N (m + 1) 6 = m_cnt P 0 ∧ N (m + 1) 7 = m_cnt P 1 := hM.2.2.2
  refine Ev.introQ (M := ag_mX7_cannotBuild) rfl rfl ?_
  show AR E d _ (0, [some (vA m), some (vI s)], [], (C, N)) _
  refine AR.blk 1 (f' := (1, [some (vA m), some (vI s)], [vA m], (C, N))) (fun _ => rfl) ?_
  refine AR.getR rfl rfl hm.1 (by decide) rfl ?_
  refine AR.blk 1 (f' := (5, [some (vA m), some (vI s)], [vI 3, vA (m + 1)], (C, N))) (fun _ => rfl) ?_
  have f1 := hv.1
  have f2 := hv.2.1
  have f3 := hv.2.2.1
  have f4 := hv.2.2.2.1
  refine AR.iald rfl hm.2.1 (by omega) (v := bg) s0.2.2.2.1 ?_
  refine AR.blk 1 (f' := (7, [some (vA m), some (vI s)], [vI 1, vI bg], (C, N))) (fun _ => rfl) ?_
  refine AR.ic_ne rfl (by omega) (fun c5 => ?_) (fun c5 => ?_)
  · show AR E d _ (25, [some (vA m), some (vI s)], [], (C, N)) _
    refine AR.blk 2 (f' := (27, [some (vA m), some (vI s)], [vI s, vA m], (C, N))) (fun _ => rfl) ?_
    refine AR.callV [vI s] (ev_X7_pieceAt (by omega) hm r0 hw s (by omega)) hm.1 rfl rfl rfl rfl rfl ?_
    show AR E d _ (30, [some (vA m), some (vI s)], [vI (P s + 1)], (C, N)) _
    have f6 := hw.1 s
    refine AR.if_le rfl (by omega) (fun c7 => ?_) (fun c7 => ?_)
    · show AR E d _ (43, [some (vA m), some (vI s)], [], (C, N)) _
      refine AR.blk 2 (f' := (45, [some (vA m), some (vI s)], [vI s, vA m], (C, N))) (fun _ => rfl) ?_
      refine AR.callV [vI s] (ev_X7_lockAt (by omega) hm r0 hw s (by omega)) hm.1 rfl rfl rfl rfl rfl ?_
      show AR E d _ (48, [some (vA m), some (vI s)], [vI (m_la n q s)], (C, N)) _
      have f8 := m_la_in n q s hw.2.2.1.1
      refine AR.if_lt rfl (by omega) (fun c9 => ?_) (fun c9 => ?_)
      · show AR E d _ (66, [some (vA m), some (vI s)], [], (C, N)) _
        refine AR.blk 1 (f' := (67, [some (vA m), some (vI s)], [vI 0], (C, N))) (fun _ => rfl) ?_
        refine AR.endI rfl (.inr ⟨rfl, by omega⟩) ?_
        have e9 : m_cbF ((P, n, q, p, cl, tn), (t, bg, en, ca), (gn, pu, mk), H) F s = (0, F) := by unfold m_cbF <;> (try dsimp only) <;> (repeat (first | rw [if_pos (by omega)] | rw [if_neg (by omega)])) <;> rfl
        rw [e9]
        exact ⟨_, rfl, hE, (fun _ _ => rfl), (fun _ _ => rfl)⟩
      · show AR E d _ (51, [some (vA m), some (vI s)], [], (C, N)) _
        refine AR.blk 4 (f' := (56, [some (vA m), some (vI s)], [vI s, vA m, vI 6, vA m], (C, N))) (fun _ => rfl) ?_
        refine AR.callV [vI s] (ev_X7_lockAt (by omega) hm r0 hw s (by omega)) hm.1 rfl rfl rfl rfl rfl ?_
        show AR E d _ (59, [some (vA m), some (vI s)], [vI (m_la n q s), vI 6, vA m], (C, N)) _
        have f10 := m_la_in n q s hw.2.2.1.1
        obtain ⟨_, hE11, N12, rfl, hE13, hk14, hf15⟩ := ev_X7_refuses (E := E) (d := d) (by omega) hm 6 (m_la n q s) (by omega)
        have EN12 : g_rE N12 m (6, m_la n q s, -4, -4, -4) := hE13
        have hMN12 : g_rM (N12 (m + 1)) ((P, n, q, p, cl, tn), (t, bg, en, ca), (gn, pu, mk), H) := by rw [hf15 (m + 1) (by omega)]; exact hM
        have rN12 : g_rR ((N12) (m + 1)) P n q p cl tn := hMN12.1
        have zN12 : g_rZ ((N12) (m + 1)) t (t % 2) (t / 4) bg en ca gn pu mk := hMN12.2.1
        have sN12 : g_rS ((N12) (m + 1)) t bg en ca gn pu mk := zN12
        have DN12 : g_rD ((N12) (m + 1)) (m_D H) := hMN12.2.2.1
        have pN12 : (bg : Int) = 0 → (N12) (m + 1) 6 = m_cnt P 0 ∧ (N12) (m + 1) 7 = m_cnt P 1 := hMN12.2.2.2
        have f9N12 : ∀ a, a ≠ m → (N12) a = N a := fun a ha => (hf15 a (by omega)).trans ((fun _ _ => rfl) a ha)
        have k9N12 : ∀ a : Int, ¬ (8 ≤ a ∧ a ≤ 12) → (N12) m a = N m a := fun a ha => (hk14 a (by omega)).trans ((fun _ _ => rfl) a ha)
        refine AR.callV [vI 6, vI (m_la n q s)] hE11 hm.1 rfl rfl rfl rfl rfl ?_
        show AR E d _ (62, [some (vA m), some (vI s)], [vI (-3)], (C, N12)) _
        refine AR.blk 3 (f' := (69, [some (vA m), some (vI s)], [vI 1], (C, N12))) (fun _ => rfl) ?_
        refine AR.endI rfl (.inr ⟨rfl, by omega⟩) ?_
        have e9 : m_cbF ((P, n, q, p, cl, tn), (t, bg, en, ca), (gn, pu, mk), H) F s = (1, (6, m_la n q s, -4, -4, -4)) := by unfold m_cbF <;> (try dsimp only) <;> (repeat (first | rw [if_pos (by omega)] | rw [if_neg (by omega)])) <;> rfl
        rw [e9]
        exact ⟨_, rfl, EN12, k9N12, f9N12⟩
    · show AR E d _ (33, [some (vA m), some (vI s)], [], (C, N)) _
      refine AR.blk 3 (f' := (36, [some (vA m), some (vI s)], [vI s, vI 5, vA m], (C, N))) (fun _ => rfl) ?_
      obtain ⟨_, hE16, N17, rfl, hE18, hk19, hf20⟩ := ev_X7_refuses (E := E) (d := d) (by omega) hm 5 s (by omega)
      have EN17 : g_rE N17 m (5, s, -4, -4, -4) := hE18
      have hMN17 : g_rM (N17 (m + 1)) ((P, n, q, p, cl, tn), (t, bg, en, ca), (gn, pu, mk), H) := by rw [hf20 (m + 1) (by omega)]; exact hM
      have rN17 : g_rR ((N17) (m + 1)) P n q p cl tn := hMN17.1
      have zN17 : g_rZ ((N17) (m + 1)) t (t % 2) (t / 4) bg en ca gn pu mk := hMN17.2.1
      have sN17 : g_rS ((N17) (m + 1)) t bg en ca gn pu mk := zN17
      have DN17 : g_rD ((N17) (m + 1)) (m_D H) := hMN17.2.2.1
      have pN17 : (bg : Int) = 0 → (N17) (m + 1) 6 = m_cnt P 0 ∧ (N17) (m + 1) 7 = m_cnt P 1 := hMN17.2.2.2
      have f9N17 : ∀ a, a ≠ m → (N17) a = N a := fun a ha => (hf20 a (by omega)).trans ((fun _ _ => rfl) a ha)
      have k9N17 : ∀ a : Int, ¬ (8 ≤ a ∧ a ≤ 12) → (N17) m a = N m a := fun a ha => (hk19 a (by omega)).trans ((fun _ _ => rfl) a ha)
      refine AR.callV [vI 5, vI s] hE16 hm.1 rfl rfl rfl rfl rfl ?_
      show AR E d _ (39, [some (vA m), some (vI s)], [vI (-3)], (C, N17)) _
      refine AR.blk 3 (f' := (69, [some (vA m), some (vI s)], [vI 1], (C, N17))) (fun _ => rfl) ?_
      refine AR.endI rfl (.inr ⟨rfl, by omega⟩) ?_
      have e9 : m_cbF ((P, n, q, p, cl, tn), (t, bg, en, ca), (gn, pu, mk), H) F s = (1, (5, s, -4, -4, -4)) := by unfold m_cbF <;> (try dsimp only) <;> (repeat (first | rw [if_pos (by omega)] | rw [if_neg (by omega)])) <;> rfl
      rw [e9]
      exact ⟨_, rfl, EN17, k9N17, f9N17⟩
  · show AR E d _ (10, [some (vA m), some (vI s)], [], (C, N)) _
    refine AR.blk 3 (f' := (13, [some (vA m), some (vI s)], [vA m, vI 2, vA m], (C, N))) (fun _ => rfl) ?_
    refine AR.getR rfl rfl hm.1 (by decide) rfl ?_
    refine AR.blk 1 (f' := (17, [some (vA m), some (vI s)], [vI 0, vA (m + 1), vI 2, vA m], (C, N))) (fun _ => rfl) ?_
    have f21 := hv.1
    have f22 := hv.2.1
    have f23 := hv.2.2.1
    have f24 := hv.2.2.2.1
    refine AR.iald rfl hm.2.1 (by omega) (v := t) s0.1 ?_
    obtain ⟨_, hE25, N26, rfl, hE27, hk28, hf29⟩ := ev_X7_refuses (E := E) (d := d) (by omega) hm 2 t (by omega)
    have EN26 : g_rE N26 m (2, t, -4, -4, -4) := hE27
    have hMN26 : g_rM (N26 (m + 1)) ((P, n, q, p, cl, tn), (t, bg, en, ca), (gn, pu, mk), H) := by rw [hf29 (m + 1) (by omega)]; exact hM
    have rN26 : g_rR ((N26) (m + 1)) P n q p cl tn := hMN26.1
    have zN26 : g_rZ ((N26) (m + 1)) t (t % 2) (t / 4) bg en ca gn pu mk := hMN26.2.1
    have sN26 : g_rS ((N26) (m + 1)) t bg en ca gn pu mk := zN26
    have DN26 : g_rD ((N26) (m + 1)) (m_D H) := hMN26.2.2.1
    have pN26 : (bg : Int) = 0 → (N26) (m + 1) 6 = m_cnt P 0 ∧ (N26) (m + 1) 7 = m_cnt P 1 := hMN26.2.2.2
    have f9N26 : ∀ a, a ≠ m → (N26) a = N a := fun a ha => (hf29 a (by omega)).trans ((fun _ _ => rfl) a ha)
    have k9N26 : ∀ a : Int, ¬ (8 ≤ a ∧ a ≤ 12) → (N26) m a = N m a := fun a ha => (hk28 a (by omega)).trans ((fun _ _ => rfl) a ha)
    refine AR.callV [vI 2, vI t] hE25 hm.1 rfl rfl rfl rfl rfl ?_
    show AR E d _ (21, [some (vA m), some (vI s)], [vI (-3)], (C, N26)) _
    refine AR.blk 3 (f' := (69, [some (vA m), some (vI s)], [vI 1], (C, N26))) (fun _ => rfl) ?_
    refine AR.endI rfl (.inr ⟨rfl, by omega⟩) ?_
    have e9 : m_cbF ((P, n, q, p, cl, tn), (t, bg, en, ca), (gn, pu, mk), H) F s = (1, (2, t, -4, -4, -4)) := by unfold m_cbF <;> (try dsimp only) <;> (repeat (first | rw [if_pos (by omega)] | rw [if_neg (by omega)])) <;> rfl
    rw [e9]
    exact ⟨_, rfl, EN26, k9N26, f9N26⟩
end L2G
