/-! LEVEL 2: the model: read -/
def m_fix (F : m_F) (k c : Int) : m_F := if c = -3 then (F.1, F.2.1, k, F.2.2.2.1, F.2.2.2.2) else F
theorem m_mvF_num (G : m_G) (F : m_F) (s y k : Int) : (m_mvF G F s y k).1 = (m_mvF G F s y (-4)).1 ∧ (m_mvF G F s y k).2 = m_fix (m_mvF G F s y (-4)).2 k (m_mvF G F s y (-4)).1 ∧ ((m_mvF G F s y (-4)).1 = -3 → 1 ≤ (m_mvF G F s y (-4)).2.1) := by
  unfold m_mvF m_fix
  by_cases e1 : ¬ (0 ≤ s ∧ s < 36)
  · rw [if_pos e1, if_pos e1]; exact ⟨rfl, rfl, fun z => by cases z⟩
  rw [if_neg e1, if_neg e1]
  by_cases e2 : ¬ (0 ≤ y ∧ y < 4)
  · rw [if_pos e2, if_pos e2]; exact ⟨rfl, rfl, fun z => by cases z⟩
  rw [if_neg e2, if_neg e2]
  by_cases e3 : G.2.1.2.1 = 0
  · rw [if_pos e3, if_pos e3]; exact ⟨rfl, rfl, fun _ => by decide⟩
  rw [if_neg e3, if_neg e3]
  by_cases e4 : G.2.1.2.2.1 ≠ 0
  · rw [if_pos e4, if_pos e4]; exact ⟨rfl, rfl, fun _ => (by decide : (1 : Int) ≤ 4)⟩
  rw [if_neg e4, if_neg e4]
  by_cases e5 : m_own (G.1.1 s) ≠ G.2.1.1 % 2
  · rw [if_pos e5, if_pos e5]; exact ⟨rfl, rfl, fun _ => (by decide : (1 : Int) ≤ 8)⟩
  rw [if_neg e5, if_neg e5]
  by_cases e6 : m_cause G.1.1 G.1.2.1 G.1.2.2.1 G.1.2.2.2.2.1 s y ≠ 0
  · rw [if_pos e6, if_pos e6]; exact ⟨rfl, rfl, fun _ => (by decide : (1 : Int) ≤ 9)⟩
  rw [if_neg e6, if_neg e6]
  exact ⟨rfl, rfl, fun z => by cases z⟩
theorem m_goR_in {G : m_G} {s y : Int} (hv : g_vG G) (h : g_can G s y) : 0 ≤ m_goR G s y ∧ m_goR G s y ≤ 200 := by
  have h1 := (g_vG_go hv h).1.2.1.1
  have h2 := m_tl_in (m_go G s y).2.2.2
  unfold m_goR m_stR
  omega
theorem m_run_W {G : m_G} {F : m_F} {M M2 : List (Int × Int)} {s y k : Int} {R : Int × m_F × m_G} (hv : g_vG G) (hd : M = (s, y) :: M2) (h : m_run G F M k = R) : (0 ≤ (m_mvW G F s y).1 → (m_mvW G F s y).2.1 = F ∧ m_run (m_mvW G F s y).2.2 F M2 (k + 1) = R) ∧ ((m_mvW G F s y).1 < 0 → R.1 = (m_mvW G F s y).1 ∧ R.2.1 = m_fix (m_mvW G F s y).2.1 k (m_mvW G F s y).1 ∧ ((m_mvW G F s y).1 = -3 → 1 ≤ (m_mvW G F s y).2.1.1)) ∧ g_vG (m_mvW G F s y).2.2 ∧ (-3 ≤ (m_mvW G F s y).1 ∧ (m_mvW G F s y).1 ≤ 1000) := by
  have hs := m_run_S hd h
  have hn := m_mvF_num G F s y k
  have hi := m_mvF_in G F s y (-4)
  rw [hn.1] at hs
  by_cases e : (m_mvF G F s y (-4)).1 = 0
  · have ew : m_mvW G F s y = (m_goR G s y, F, m_go G s y) := if_neg (fun z => z e)
    have hc := m_mvF_can hv e
    have hg := m_goR_in hv hc.1
    rw [ew]
    refine ⟨fun _ => ⟨rfl, hs.2 e⟩, fun z => ?_, g_vG_go hv hc.1, ?_⟩
    · have z2 : m_goR G s y < 0 := z
      omega
    · show -3 ≤ m_goR G s y ∧ m_goR G s y ≤ 1000
      omega
  · have ew : m_mvW G F s y = ((m_mvF G F s y (-4)).1, (m_mvF G F s y (-4)).2, G) := if_pos e
    have hr := hs.1 e
    rw [ew]
    refine ⟨fun z => ?_, fun _ => ⟨?_, ?_, hn.2.2⟩, hv, ?_⟩
    · have z2 : 0 ≤ (m_mvF G F s y (-4)).1 := z
      omega
    · rw [hr]
    · rw [hr]; exact hn.2.1
    · show -3 ≤ (m_mvF G F s y (-4)).1 ∧ (m_mvF G F s y (-4)).1 ≤ 1000
      omega
theorem g_rTd_at {N : Nat → Int → Int} {a : Nat} {M : List (Int × Int)} (h : g_rTd N a M) (hM : ∀ y, y ∈ M → (0 ≤ y.1 ∧ y.1 < 100) ∧ (0 ≤ y.2 ∧ y.2 < 4)) (k : Int) : ∃ s y, 0 ≤ k ∧ k < M.length → N a (2 * k) = s ∧ N a (2 * k + 1) = y ∧ (0 ≤ s ∧ s < 100) ∧ (0 ≤ y ∧ y < 4) ∧ M.drop k.toNat = (s, y) :: M.drop (k + 1).toNat := by
  by_cases q : 0 ≤ k ∧ k < M.length
  · have h1 : k.toNat < M.length := by omega
    have h2 := h k.toNat _ (List.getElem?_eq_getElem h1)
    rw [show ((k.toNat : Nat) : Int) = k by omega] at h2
    have h3 := hM _ (List.getElem_mem h1)
    refine ⟨_, _, fun _ => ⟨h2.1, h2.2, h3.1, h3.2, ?_⟩⟩
    rw [show (k + 1).toNat = k.toNat + 1 by omega]
    exact List.drop_eq_getElem_cons h1
  · exact ⟨0, 0, fun z => absurd z q⟩
theorem g_rE_num {N : Nat → Int → Int} {m : Nat} {F : m_F} (h : g_rE N m F) (h1 : 1 ≤ F.1) (k : Int) : g_rE (ag_upd N m 10 k) m (F.1, F.2.1, k, F.2.2.2.1, F.2.2.2.2) := by
  rcases h with h | h
  · rw [h.2] at h1
    exact absurd h1 (by decide)
  · refine .inr ⟨h.1, (ag_upd_nk (by omega)).trans h.2.1, (ag_upd_nk (by omega)).trans h.2.2.1, ag_upd_eq, ?_⟩
    rcases h.2.2.2.2 with q | q
    · exact .inl ⟨(ag_upd_nk (by omega)).trans q.1, q.2⟩
    · exact .inr ⟨q.1, (ag_upd_nk (by omega)).trans q.2.1, (ag_upd_nk (by omega)).trans q.2.2⟩
section L2N
variable {E : Nat × (Int → Int)} {C : List ag_C} {N : Nat → Int → Int} {m : Nat} {L : Int} {T : Int → Int}
theorem ev_X7_isText2 {d : Nat} (hd : 3 ≤ d) (hm : g_isM C m) (h14 : N m 14 = L) (hT : ∀ j, 0 ≤ j → j < L → N (m + 6) j = T j) (hL : 0 ≤ L ∧ L ≤ 70) (hTr : ∀ j, 0 ≤ j → j < L → 32 ≤ T j ∧ T j ≤ 126) {R : Int × List (Int × Int)} (hR : m_ps T L L.toNat 0 0 0 0 [] = R) : ∃ e : Int, ∃ o_, Ev E d 161 [vA m] (C, N) o_ ∧ ∃ N' : Nat → Int → Int, o_ = (some (vI e), (C, N')) ∧ (e = 0 ∨ e = 1) ∧ (e = 0 → R.1 ≠ -1 ∧ N' m 17 = R.1) ∧ (e = 1 → R.1 = -1 ∧ N' m 19 = R.2.length ∧ g_rTd N' (m + 8) R.2) ∧ (∀ k, ¬ (k = 17 ∨ k = 19) → N' m k = N m k) ∧ ∀ a, ¬ (a = m ∨ a = m + 8) → N' a = N a := by
  obtain ⟨o, h1, e, N2, h2⟩ := ev_X7_isText (E := E) hd hm h14 hT hL hTr hR
  exact ⟨e, o, h1, N2, h2⟩

theorem ev_X7_read {d : Nat} (hd : 12 ≤ d) {G : m_G} {U : List m_G} {V : Option m_G} {F : m_F} {L : Int} {T : Int → Int} {l : Int} {ln : Int → Int} (hm : g_isM C m) (hY : g_rY N m (G, U, V, F, (L, T), (l, ln))) (hS : g_vS (G, U, V, F, (L, T), (l, ln))) : ∃ o_, Ev E d 162 [vA m] (C, N) o_ ∧ g_QY C N m (o_read (G, U, V, F, (L, T), (l, ln))) o_ := by
  obtain ⟨d, rfl⟩ : ∃ j, d = j + 1 := ⟨d - 1, by omega⟩
  obtain ⟨⟨P, n, q, p, cl, tn⟩, ⟨t, bg, en, ca⟩, ⟨gn, pu, mk⟩, H⟩ := G
  have hM : g_rM (N (m + 1)) ((P, n, q, p, cl, tn), (t, bg, en, ca), (gn, pu, mk), H) := hY.1
  have hK : g_rK N m U := hY.2.1
  have hV : g_rW N m V := hY.2.2.1
  have hE : g_rE N m F := hY.2.2.2.1
  have hT : g_rTm N m L T := hY.2.2.2.2.1
  have hL : g_rLm N m l ln := hY.2.2.2.2.2.1
  have h7 : N m 7 = 0 := hY.2.2.2.2.2.2
  have hvG : g_vG ((P, n, q, p, cl, tn), (t, bg, en, ca), (gn, pu, mk), H) := hS.1
  have hw : g_wB P n q p cl tn := hvG.1.1
  have hwH : g_wH H := hvG.1.2.1
  have hv : g_wS t bg en ca gn pu mk := hvG.1.2.2
  have w1 := hv.1
  have w2 := hv.2.1
  have w3 := hv.2.2.1
  have w4 := hv.2.2.2.1
  have w6 := hv.2.2.2.2.2
  have w7 := hw.2.2.1
  have hwL : 0 ≤ L ∧ L ≤ 70 := hS.2.2.2.1
  have hwl : 0 ≤ l ∧ l ≤ 6 := hS.2.2.2.2.2
  have k8 := hK.2.1
  have r0 : g_rR (N (m + 1)) P n q p cl tn := hM.1
  have z0 : g_rZ (N (m + 1)) t (t % 2) (t / 4) bg en ca gn pu mk := hM.2.1
  have s0 : g_rS (N (m + 1)) t bg en ca gn pu mk := z0
  have D0 : g_rD (N (m + 1)) (m_D H) := hM.2.2.1
  have p0 : (bg : Int) = 0 → N (m + 1) 6 = m_cnt P 0 ∧ N (m + 1) 7 = m_cnt P 1 := hM.2.2.2
  obtain ⟨R, hR⟩ : ∃ R, m_ps T L L.toNat 0 0 0 0 [] = R := ⟨_, rfl⟩
  have r1 := m_ps_in T L hwL
  rw [hR] at r1
  have r2 := r1.1
  have r3 := r1.2.1
  obtain ⟨Rn, hRn⟩ : ∃ Rn, m_run ((P, n, q, p, cl, tn), (t, bg, en, ca), (gn, pu, mk), H) F R.2 0 = Rn := ⟨_, rfl⟩
  refine Ev.introQ (M := ag_mX7_read) rfl rfl ?_
  show AR E d _ (0, [some (vA m), none, none, none], [], (C, N)) _
  refine AR.blk 1 (f' := (1, [some (vA m), none, none, none], [vA m], (C, N))) (fun _ => rfl) ?_
  obtain ⟨e2, _, hE1, N2, rfl, hb3, h04, h15, hk6, hf7⟩ := ev_X7_isText2 (E := E) (d := d) (by omega) hm hT.1 hT.2 hwL hS.2.2.2.2.1 hR
  have eb0 := hb3
  have hMN2 : g_rM (N2 (m + 1)) ((P, n, q, p, cl, tn), (t, bg, en, ca), (gn, pu, mk), H) := by rw [hf7 (m + 1) (by omega)]; exact hM
  have rN2 : g_rR ((N2) (m + 1)) P n q p cl tn := hMN2.1
  have zN2 : g_rZ ((N2) (m + 1)) t (t % 2) (t / 4) bg en ca gn pu mk := hMN2.2.1
  have sN2 : g_rS ((N2) (m + 1)) t bg en ca gn pu mk := zN2
  have DN2 : g_rD ((N2) (m + 1)) (m_D H) := hMN2.2.2.1
  have pN2 : (bg : Int) = 0 → (N2) (m + 1) 6 = m_cnt P 0 ∧ (N2) (m + 1) 7 = m_cnt P 1 := hMN2.2.2.2
  have hKN2 := g_rK_fr hK (N' := N2) (hk6 6 (by omega)) (hf7 (m + 2) (by omega))
  have hVN2 := g_rW_fr hV (N' := N2) (hk6 5 (by omega)) (hf7 (m + 3) (by omega))
  have hEN2 := g_rE_fr hE (N' := N2) (fun k z0 z1 => hk6 k (by omega))
  have hTN2 := g_rTm_fr hT (N' := N2) (hk6 14 (by omega)) (hf7 (m + 6) (by omega))
  have hLN2 := g_rLm_fr hL (N' := N2) (hk6 16 (by omega)) (hf7 (m + 7) (by omega))
  have h7N2 := (hk6 7 (by omega)).trans h7
  have frN2 : ∀ a, ¬ (m ≤ a ∧ a < m + 9) → (N2) a = N a := fun a ha => (hf7 a (by omega)).trans ((fun _ _ => rfl) a ha)
  refine AR.callV [] hE1 hm.1 rfl rfl rfl rfl rfl ?_
  show AR E d _ (4, [some (vA m), none, none, none], [vI e2], (C, N2)) _
  refine AR.blk 3 (f' := (7, [some (vA m), some (vI e2), none, none], [vI 0, vA m], (C, N2))) (fun _ => rfl) ?_
  refine AR.putI rfl rfl hm.1 (by decide) (fun q => absurd q (by decide)) ?_
  refine AR.blk 1 (f' := (11, [some (vA m), some (vI e2), none, none], [vI e2], (C, ag_upd N2 m 14 0))) (fun _ => rfl) ?_
  refine AR.if_ne rfl (by omega) (fun c8 => ?_) (fun c8 => ?_)
  · show AR E d _ (22, [some (vA m), some (vI e2), none, none], [], (C, ag_upd N2 m 14 0)) _
    refine AR.blk 1 (f' := (23, [some (vA m), some (vI e2), none, none], [vA m], (C, ag_upd N2 m 14 0))) (fun _ => rfl) ?_
    refine AR.getR rfl rfl hm.1 (by decide) rfl ?_
    refine AR.blk 2 (f' := (28, [some (vA m), some (vI e2), none, none], [vA m, vI 0, vA (m + 1)], (C, ag_upd N2 m 14 0))) (fun _ => rfl) ?_
    refine AR.getR rfl rfl hm.1 (by decide) rfl ?_
    refine AR.blk 1 (f' := (32, [some (vA m), some (vI e2), none, none], [vI 0, vA (m + 4), vI 0, vA (m + 1)], (C, ag_upd N2 m 14 0))) (fun _ => rfl) ?_
    obtain ⟨_, hE9, N10, rfl, hq11, hx12, hf13⟩ := ev_X7_copies (E := E) (d := d) (N := ag_upd N2 m 14 0) (by omega) hm.2.1 hm.2.2.2.2.1 (by omega) 0 0 (by omega) (by omega)
    have hi1 := h15 (by omega)
    have fQ : ∀ a, ¬ (a = m ∨ a = m + 4) → N10 a = N2 a := fun a ha => (hf13 a (by omega)).trans (ag_upd_ne (by omega))
    have kQ : ∀ j : Int, j ≠ 14 → N10 m j = N2 m j := fun j hj => (congrFun (hf13 m (by omega)) j).trans (ag_upd_nk hj)
    have fN : ∀ a, ¬ (a = m ∨ a = m + 4 ∨ a = m + 8) → N10 a = N a := fun a ha => (fQ a (by omega)).trans (hf7 a (by omega))
    have kN : ∀ k, ¬ (k = 14 ∨ k = 17 ∨ k = 19) → N10 m k = N m k := fun k hk => (kQ k (by omega)).trans (hk6 k (by omega))
    have b14 : N10 m 14 = 0 := (congrFun (hf13 m (by omega)) _).trans ag_upd_eq
    have b19 : N10 m 19 = R.2.length := (kQ _ (by omega)).trans hi1.2.1
    have bd : g_rTd N10 (m + 8) R.2 := g_rTd_fr hi1.2.2 (fQ _ (by omega))
    have bB : g_rM (N10 (m + 4)) ((P, n, q, p, cl, tn), (t, bg, en, ca), (gn, pu, mk), H) := g_rM_cp hvG hMN2 (fun j z0 z1 => (hq11 j z0 z1).trans ((congrFun (ag_upd_ne (by omega)) _).trans (congrArg (N2 (m + 1)) (by omega))))
    have hMN10 : g_rM (N10 (m + 1)) ((P, n, q, p, cl, tn), (t, bg, en, ca), (gn, pu, mk), H) := by rw [fQ (m + 1) (by omega)]; exact hMN2
    have rN10 : g_rR ((N10) (m + 1)) P n q p cl tn := hMN10.1
    have zN10 : g_rZ ((N10) (m + 1)) t (t % 2) (t / 4) bg en ca gn pu mk := hMN10.2.1
    have sN10 : g_rS ((N10) (m + 1)) t bg en ca gn pu mk := zN10
    have DN10 : g_rD ((N10) (m + 1)) (m_D H) := hMN10.2.2.1
    have pN10 : (bg : Int) = 0 → (N10) (m + 1) 6 = m_cnt P 0 ∧ (N10) (m + 1) 7 = m_cnt P 1 := hMN10.2.2.2
    have hKN10 := g_rK_fr hKN2 (N' := N10) (kQ 6 (by omega)) (fQ (m + 2) (by omega))
    have hVN10 := g_rW_fr hVN2 (N' := N10) (kQ 5 (by omega)) (fQ (m + 3) (by omega))
    have hEN10 := g_rE_fr hEN2 (N' := N10) (fun k z0 z1 => kQ k (by omega))
    have hLN10 := g_rLm_fr hLN2 (N' := N10) (kQ 16 (by omega)) (fQ (m + 7) (by omega))
    have h7N10 := (kQ 7 (by omega)).trans h7N2
    have frN10 : ∀ a, ¬ (m ≤ a ∧ a < m + 9) → (N10) a = N a := fun a ha => (fQ a (by omega)).trans (frN2 a ha)
    have bT : g_rTm N10 m 0 T := ⟨b14, fun j z0 z1 => by omega⟩
    refine AR.callS [vA (m + 1), vI 0, vA (m + 4), vI 0] hE9 rfl rfl rfl rfl rfl ?_
    show AR E d _ (35, [some (vA m), some (vI e2), none, none], [], (C, N10)) _
    refine AR.blk 2 (f' := (37, [some (vA m), some (vI e2), none, none], [vI 1, vA m], (C, N10))) (fun _ => rfl) ?_
    refine AR.putI rfl rfl hm.1 (by decide) (fun _ => by omega) ?_
    refine AR.blk 4 (f' := (44, [some (vA m), some (vI e2), some (vI 0), some (vI 0)], [], (C, ag_upd N10 m 7 1))) (fun _ => rfl) ?_
    suffices H44 : ∀ (j : Nat) (d9 : Int) (got : Int) (G9 : m_G) (F9 : m_F) (N9 : Nat → Int → Int), (30 - d9).toNat < j → ((0 ≤ d9 ∧ d9 ≤ R.2.length) ∧ -3 ≤ got ∧ got ≤ 1000) → (0 ≤ got → F9 = F ∧ m_run G9 F (R.2.drop d9.toNat) d9 = Rn) → (got < 0 → 1 ≤ d9 ∧ Rn.1 = got ∧ Rn.2.1 = m_fix F9 (d9 - 1) got ∧ (got = -3 → 1 ≤ F9.1)) → (g_rM (N9 (m + 1)) G9) → (g_vG G9) → (g_rE N9 m F9) → (g_rM (N9 (m + 4)) ((P, n, q, p, cl, tn), (t, bg, en, ca), (gn, pu, mk), H)) → (N9 m 7 = 1) → (N9 m 14 = 0) → (N9 m 19 = R.2.length) → (g_rTd N9 (m + 8) R.2) → (∀ a, ¬ (a = m ∨ a = m + 1 ∨ a = m + 4 ∨ a = m + 8) → N9 a = N a) → (∀ k, ¬ (k = 7 ∨ (8 ≤ k ∧ k ≤ 12) ∨ k = 14 ∨ k = 17 ∨ k = 19) → N9 m k = N m k) → AR E d ag_mX7_read (44, [some (vA m), some (vI e2), some (vI d9), some (vI got)], [], (C, N9)) (g_QY C N m (o_read (((P, n, q, p, cl, tn), (t, bg, en, ca), (gn, pu, mk), H), U, V, F, (L, T), (l, ln)))) by
      exact H44 _ (0) (0) (((P, n, q, p, cl, tn), (t, bg, en, ca), (gn, pu, mk), H)) (F) _ (Nat.lt_succ_self _) (by omega) (fun _ => ⟨rfl, hRn⟩) (fun z => by omega) (show g_rM ((ag_upd N10 m 7 1) (m + 1)) ((P, n, q, p, cl, tn), (t, bg, en, ca), (gn, pu, mk), H) by rw [show (ag_upd N10 m 7 1) (m + 1) = N10 (m + 1) from ag_upd_ne (by omega)]; exact hMN10) hvG (g_rE_fr hEN10 (fun k z0 z1 => ag_upd_nk (by omega))) (show g_rM ((ag_upd N10 m 7 1) (m + 4)) ((P, n, q, p, cl, tn), (t, bg, en, ca), (gn, pu, mk), H) by rw [show (ag_upd N10 m 7 1) (m + 4) = N10 (m + 4) from ag_upd_ne (by omega)]; exact bB) ag_upd_eq ((ag_upd_nk (by omega)).trans b14) ((ag_upd_nk (by omega)).trans b19) (g_rTd_fr bd (ag_upd_ne (by omega))) (fun a ha => (ag_upd_ne (by omega)).trans (fN a (by omega))) (fun k hk => (ag_upd_nk (by omega)).trans (kN k (by omega)))
    intro j
    induction j with
    | zero => intro d9 got G9 F9 N9 hj; exact absurd hj (Nat.not_lt_zero _)
    | succ j ih44 =>
      intro d9 got G9 F9 N9 hj44 c0 c1 c2 hM9 hv9 hE9 hB9 q7 q14 q19 qd qf qk
      obtain ⟨s1, y1, hk1⟩ := g_rTd_at qd r1.2.2 d9
      have hk2 := fun hk => (hk1 hk).2.2.1
      have hk3 := fun hk => (hk1 hk).2.2.2.1
      obtain ⟨⟨P9, n9, q9, p9, cl9, tn9⟩, ⟨t9, bg9, en9, ca9⟩, ⟨gn9, pu9, mk9⟩, H9⟩ := G9
      refine AR.blk 2 (f' := (46, [some (vA m), some (vI e2), some (vI d9), some (vI got)], [vA m, vI d9], (C, N9))) (fun _ => rfl) ?_
      refine AR.getI rfl rfl hm.1 (by decide) (v := (R.2.length : Int)) q19 ?_
      refine AR.ic_ge rfl (by omega) (fun c14 => ?_) (fun c14 => ?_)
      · show AR E d _ (85, [some (vA m), some (vI e2), some (vI d9), some (vI got)], [], (C, N9)) _
        refine AR.blk 2 (f' := (87, [some (vA m), some (vI e2), some (vI d9), some (vI got)], [vI 0, vA m], (C, N9))) (fun _ => rfl) ?_
        refine AR.putI rfl rfl hm.1 (by decide) (fun _ => by omega) ?_
        have fU : ∀ a, ¬ (a = m ∨ a = m + 1 ∨ a = m + 4 ∨ a = m + 8) → (ag_upd N9 m 7 0) a = N a := fun a ha => (ag_upd_ne (by omega)).trans (qf a ha)
        have kU : ∀ k, ¬ (k = 7 ∨ (8 ≤ k ∧ k ≤ 12) ∨ k = 14 ∨ k = 17 ∨ k = 19) → (ag_upd N9 m 7 0) m k = N m k := fun k hk => (ag_upd_nk (by omega)).trans (qk k hk)
        have hKQU := g_rK_fr hK (N' := ag_upd N9 m 7 0) (kU 6 (by omega)) (fU (m + 2) (by omega))
        have hVQU := g_rW_fr hV (N' := ag_upd N9 m 7 0) (kU 5 (by omega)) (fU (m + 3) (by omega))
        have hLQU := g_rLm_fr hL (N' := ag_upd N9 m 7 0) (kU 16 (by omega)) (fU (m + 7) (by omega))
        have frQU : ∀ a, ¬ (m ≤ a ∧ a < m + 9) → (ag_upd N9 m 7 0) a = N a := fun a ha => (fU a (by omega)).trans ((fun _ _ => rfl) a ha)
        have MU : g_rM ((ag_upd N9 m 7 0) (m + 1)) ((P9, n9, q9, p9, cl9, tn9), (t9, bg9, en9, ca9), (gn9, pu9, mk9), H9) := by rw [show (ag_upd N9 m 7 0) (m + 1) = N9 (m + 1) from ag_upd_ne (by omega)]; exact hM9
        have EU : g_rE (ag_upd N9 m 7 0) m F9 := g_rE_fr hE9 (fun k z0 z1 => ag_upd_nk (by omega))
        have TU : g_rTm (ag_upd N9 m 7 0) m 0 T := ⟨(ag_upd_nk (by omega)).trans q14, fun j z0 z1 => by omega⟩
        have h7U : (ag_upd N9 m 7 0) m 7 = 0 := ag_upd_eq
        have BU : g_rM ((ag_upd N9 m 7 0) (m + 4)) ((P, n, q, p, cl, tn), (t, bg, en, ca), (gn, pu, mk), H) := by rw [show (ag_upd N9 m 7 0) (m + 4) = N9 (m + 4) from ag_upd_ne (by omega)]; exact hB9
        have r19 : (ag_upd N9 m 7 0) m 19 = R.2.length := (ag_upd_nk (by omega)).trans q19
        have hw9 : g_wB P9 n9 q9 p9 cl9 tn9 := hv9.1.1
        have hs9 : g_wS t9 bg9 en9 ca9 gn9 pu9 mk9 := hv9.1.2.2
        have rQU : g_rR ((ag_upd N9 m 7 0) (m + 1)) P9 n9 q9 p9 cl9 tn9 := MU.1
        have zQU : g_rZ ((ag_upd N9 m 7 0) (m + 1)) t9 (t9 % 2) (t9 / 4) bg9 en9 ca9 gn9 pu9 mk9 := MU.2.1
        have sQU : g_rS ((ag_upd N9 m 7 0) (m + 1)) t9 bg9 en9 ca9 gn9 pu9 mk9 := zQU
        have DQU : g_rD ((ag_upd N9 m 7 0) (m + 1)) (m_D H9) := MU.2.2.1
        have pQU : (bg9 : Int) = 0 → (ag_upd N9 m 7 0) (m + 1) 6 = m_cnt P9 0 ∧ (ag_upd N9 m 7 0) (m + 1) 7 = m_cnt P9 1 := MU.2.2.2
        refine AR.blk 1 (f' := (91, [some (vA m), some (vI e2), some (vI d9), some (vI got)], [vI got], (C, ag_upd N9 m 7 0))) (fun _ => rfl) ?_
        refine AR.if_lt rfl (by omega) (fun c15 => ?_) (fun c15 => ?_)
        · show AR E d _ (107, [some (vA m), some (vI e2), some (vI d9), some (vI got)], [], (C, ag_upd N9 m 7 0)) _
          refine AR.blk 1 (f' := (108, [some (vA m), some (vI e2), some (vI d9), some (vI got)], [vA m], (C, ag_upd N9 m 7 0))) (fun _ => rfl) ?_
          refine AR.getR rfl rfl hm.1 (by decide) rfl ?_
          refine AR.blk 2 (f' := (113, [some (vA m), some (vI e2), some (vI d9), some (vI got)], [vA m, vI 0, vA (m + 4)], (C, ag_upd N9 m 7 0))) (fun _ => rfl) ?_
          refine AR.getR rfl rfl hm.1 (by decide) rfl ?_
          refine AR.blk 1 (f' := (117, [some (vA m), some (vI e2), some (vI d9), some (vI got)], [vI 0, vA (m + 1), vI 0, vA (m + 4)], (C, ag_upd N9 m 7 0))) (fun _ => rfl) ?_
          obtain ⟨_, hE16, N17, rfl, hq18, hx19, hf20⟩ := ev_X7_copies (E := E) (d := d) (N := ag_upd N9 m 7 0) (by omega) hm.2.2.2.2.1 hm.2.1 (by omega) 0 0 (by omega) (by omega)
          have kN17 : ∀ j : Int, j = j → N17 m j = (ag_upd N9 m 7 0) m j := fun j _ => congrFun (hf20 m (by omega)) j
          have hKN17 := g_rK_fr hKQU (N' := N17) (kN17 6 (by omega)) (hf20 (m + 2) (by omega))
          have hVN17 := g_rW_fr hVQU (N' := N17) (kN17 5 (by omega)) (hf20 (m + 3) (by omega))
          have hEN17 := g_rE_fr EU (N' := N17) (fun k z0 z1 => kN17 k (by omega))
          have hTN17 := g_rTm_fr TU (N' := N17) (kN17 14 (by omega)) (hf20 (m + 6) (by omega))
          have hLN17 := g_rLm_fr hLQU (N' := N17) (kN17 16 (by omega)) (hf20 (m + 7) (by omega))
          have h7N17 := (kN17 7 (by omega)).trans h7U
          have frN17 : ∀ a, ¬ (m ≤ a ∧ a < m + 9) → (N17) a = N a := fun a ha => (hf20 a (by omega)).trans (frQU a ha)
          have hMN17 : g_rM (N17 (m + 1)) ((P, n, q, p, cl, tn), (t, bg, en, ca), (gn, pu, mk), H) := g_rM_cp hvG BU (fun j z0 z1 => (hq18 j z0 z1).trans (congrArg ((ag_upd N9 m 7 0) (m + 4)) (by omega)))
          have rN17 : g_rR (N17 (m + 1)) P n q p cl tn := hMN17.1
          have zN17 : g_rZ (N17 (m + 1)) t (t % 2) (t / 4) bg en ca gn pu mk := hMN17.2.1
          have sN17 : g_rS (N17 (m + 1)) t bg en ca gn pu mk := zN17
          have DN17 : g_rD (N17 (m + 1)) (m_D H) := hMN17.2.2.1
          have pN17 : (bg : Int) = 0 → N17 (m + 1) 6 = m_cnt P 0 ∧ N17 (m + 1) 7 = m_cnt P 1 := hMN17.2.2.2
          refine AR.callS [vA (m + 4), vI 0, vA (m + 1), vI 0] hE16 rfl rfl rfl rfl rfl ?_
          show AR E d _ (120, [some (vA m), some (vI e2), some (vI d9), some (vI got)], [], (C, N17)) _
          refine AR.blk 2 (f' := (123, [some (vA m), some (vI e2), some (vI d9), some (vI got)], [vI (-3), vI got], (C, N17))) (fun _ => rfl) ?_
          refine AR.ic_eq rfl (by omega) (fun c21 => ?_) (fun c21 => ?_)
          · show AR E d _ (129, [some (vA m), some (vI e2), some (vI d9), some (vI got)], [], (C, N17)) _
            refine AR.blk 4 (f' := (133, [some (vA m), some (vI e2), some (vI d9), some (vI got)], [vI (d9 - 1), vA m], (C, N17))) (fun _ => rfl) ?_
            refine AR.putI rfl rfl hm.1 (by decide) (fun q => absurd q (by decide)) ?_
            refine AR.blk 1 (f' := (138, [some (vA m), some (vI e2), some (vI d9), some (vI got)], [vI (-3)], (C, ag_upd N17 m 10 (d9 - 1)))) (fun _ => rfl) ?_
            have cc := c2 (by omega)
            have fQ : ∀ a, a ≠ m → (ag_upd N17 m 10 (d9 - 1)) a = N17 a := fun a ha => ag_upd_ne ha
            have kQ : ∀ j : Int, j ≠ 10 → (ag_upd N17 m 10 (d9 - 1)) m j = N17 m j := fun j hj => ag_upd_nk hj
            have EQ : g_rE (ag_upd N17 m 10 (d9 - 1)) m (F9.1, F9.2.1, d9 - 1, F9.2.2.2.1, F9.2.2.2.2) := g_rE_num hEN17 (cc.2.2.2 (by omega)) _
            have hMQ9 : g_rM (ag_upd N17 m 10 (d9 - 1) (m + 1)) ((P, n, q, p, cl, tn), (t, bg, en, ca), (gn, pu, mk), H) := by rw [fQ (m + 1) (by omega)]; exact hMN17
            have rQ9 : g_rR ((ag_upd N17 m 10 (d9 - 1)) (m + 1)) P n q p cl tn := hMQ9.1
            have zQ9 : g_rZ ((ag_upd N17 m 10 (d9 - 1)) (m + 1)) t (t % 2) (t / 4) bg en ca gn pu mk := hMQ9.2.1
            have sQ9 : g_rS ((ag_upd N17 m 10 (d9 - 1)) (m + 1)) t bg en ca gn pu mk := zQ9
            have DQ9 : g_rD ((ag_upd N17 m 10 (d9 - 1)) (m + 1)) (m_D H) := hMQ9.2.2.1
            have pQ9 : (bg : Int) = 0 → (ag_upd N17 m 10 (d9 - 1)) (m + 1) 6 = m_cnt P 0 ∧ (ag_upd N17 m 10 (d9 - 1)) (m + 1) 7 = m_cnt P 1 := hMQ9.2.2.2
            have hKQ9 := g_rK_fr hKN17 (N' := ag_upd N17 m 10 (d9 - 1)) (kQ 6 (by omega)) (fQ (m + 2) (by omega))
            have hVQ9 := g_rW_fr hVN17 (N' := ag_upd N17 m 10 (d9 - 1)) (kQ 5 (by omega)) (fQ (m + 3) (by omega))
            have hTQ9 := g_rTm_fr hTN17 (N' := ag_upd N17 m 10 (d9 - 1)) (kQ 14 (by omega)) (fQ (m + 6) (by omega))
            have hLQ9 := g_rLm_fr hLN17 (N' := ag_upd N17 m 10 (d9 - 1)) (kQ 16 (by omega)) (fQ (m + 7) (by omega))
            have h7Q9 := (kQ 7 (by omega)).trans h7N17
            have frQ9 : ∀ a, ¬ (m ≤ a ∧ a < m + 9) → (ag_upd N17 m 10 (d9 - 1)) a = N a := fun a ha => (fQ a (by omega)).trans (frN17 a ha)
            refine AR.endI rfl (.inl rfl) ?_
            have e9 : o_read (((P, n, q, p, cl, tn), (t, bg, en, ca), (gn, pu, mk), H), U, V, F, (L, T), (l, ln)) = ((-3), (((P, n, q, p, cl, tn), (t, bg, en, ca), (gn, pu, mk), H), U, V, (F9.1, F9.2.1, d9 - 1, F9.2.2.2.1, F9.2.2.2.2), (0, T), (l, ln))) := by unfold o_read m_psT; dsimp only; rw [hR, hRn, if_neg (show ¬ R.1 ≠ -1 by omega), if_pos (show Rn.1 ≠ 0 by omega), if_pos (show Rn.1 = -3 by omega), cc.2.2.1]; rw [show m_fix F9 (d9 - 1) got = (F9.1, F9.2.1, d9 - 1, F9.2.2.2.1, F9.2.2.2.2) from if_pos (by omega)]
            rw [e9]
            exact ⟨_, rfl, ⟨hMQ9, hKQ9, hVQ9, EQ, hTQ9, hLQ9, h7Q9⟩, frQ9⟩
          · show AR E d _ (126, [some (vA m), some (vI e2), some (vI d9), some (vI got)], [], (C, N17)) _
            refine AR.blk 1 (f' := (128, [some (vA m), some (vI e2), some (vI d9), some (vI got)], [vI (-2)], (C, N17))) (fun _ => rfl) ?_
            have cc := c2 (by omega)
            refine AR.endI rfl (.inl rfl) ?_
            have e9 : o_read (((P, n, q, p, cl, tn), (t, bg, en, ca), (gn, pu, mk), H), U, V, F, (L, T), (l, ln)) = ((-2), (((P, n, q, p, cl, tn), (t, bg, en, ca), (gn, pu, mk), H), U, V, F9, (0, T), (l, ln))) := by unfold o_read m_psT; dsimp only; rw [hR, hRn, if_neg (show ¬ R.1 ≠ -1 by omega), if_pos (show Rn.1 ≠ 0 by omega), if_neg (show ¬ Rn.1 = -3 by omega), cc.2.2.1]; rw [show m_fix F9 (d9 - 1) got = F9 from if_neg (by omega)]
            rw [e9]
            exact ⟨_, rfl, ⟨hMN17, hKN17, hVN17, hEN17, hTN17, hLN17, h7N17⟩, frN17⟩
        · show AR E d _ (94, [some (vA m), some (vI e2), some (vI d9), some (vI got)], [], (C, ag_upd N9 m 7 0)) _
          refine AR.blk 2 (f' := (96, [some (vA m), some (vI e2), some (vI d9), some (vI got)], [vA m, vA m], (C, ag_upd N9 m 7 0))) (fun _ => rfl) ?_
          refine AR.getR rfl rfl hm.1 (by decide) rfl ?_
          obtain ⟨_, hE22, N23, rfl, hK24, hk25, hf26⟩ := ev_X7_keeps1 (E := E) (d := d) (by omega) hm h7U hKQU hS.2.1 hm.2.2.2.2.1 (by omega) BU hvG
          have KN23 : g_rK N23 m ((((P, n, q, p, cl, tn), (t, bg, en, ca), (gn, pu, mk), H) :: U).take 8) := hK24
          have hMN23 : g_rM (N23 (m + 1)) ((P9, n9, q9, p9, cl9, tn9), (t9, bg9, en9, ca9), (gn9, pu9, mk9), H9) := by rw [hf26 (m + 1) (by omega)]; exact MU
          have rN23 : g_rR ((N23) (m + 1)) P9 n9 q9 p9 cl9 tn9 := hMN23.1
          have zN23 : g_rZ ((N23) (m + 1)) t9 (t9 % 2) (t9 / 4) bg9 en9 ca9 gn9 pu9 mk9 := hMN23.2.1
          have sN23 : g_rS ((N23) (m + 1)) t9 bg9 en9 ca9 gn9 pu9 mk9 := zN23
          have DN23 : g_rD ((N23) (m + 1)) (m_D H9) := hMN23.2.2.1
          have pN23 : (bg9 : Int) = 0 → (N23) (m + 1) 6 = m_cnt P9 0 ∧ (N23) (m + 1) 7 = m_cnt P9 1 := hMN23.2.2.2
          have hVN23 := g_rW_fr hVQU (N' := N23) (hk25 5 (by omega)) (hf26 (m + 3) (by omega))
          have hEN23 := g_rE_fr EU (N' := N23) (fun k z0 z1 => hk25 k (by omega))
          have hTN23 := g_rTm_fr TU (N' := N23) (hk25 14 (by omega)) (hf26 (m + 6) (by omega))
          have hLN23 := g_rLm_fr hLQU (N' := N23) (hk25 16 (by omega)) (hf26 (m + 7) (by omega))
          have h7N23 := (hk25 7 (by omega)).trans h7U
          have frN23 : ∀ a, ¬ (m ≤ a ∧ a < m + 9) → (N23) a = N a := fun a ha => (hf26 a (by omega)).trans (frQU a ha)
          have E8 : g_rE N23 m F := by have z := hEN23; rw [(c1 (by omega)).1] at z; exact z
          have hR9 : Rn = (0, F, ((P9, n9, q9, p9, cl9, tn9), (t9, bg9, en9, ca9), (gn9, pu9, mk9), H9)) := by rw [← (c1 (by omega)).2, List.drop_of_length_le (by omega)]; rfl
          refine AR.callV [vA (m + 4)] hE22 hm.1 rfl rfl rfl rfl rfl ?_
          show AR E d _ (102, [some (vA m), some (vI e2), some (vI d9), some (vI got)], [], (C, N23)) _
          refine AR.blk 1 (f' := (103, [some (vA m), some (vI e2), some (vI d9), some (vI got)], [vA m], (C, N23))) (fun _ => rfl) ?_
          refine AR.getI rfl rfl hm.1 (by decide) (v := (R.2.length : Int)) ((hk25 19 (by omega)).trans r19) ?_
          refine AR.endI rfl (.inl rfl) ?_
          have e9 : o_read (((P, n, q, p, cl, tn), (t, bg, en, ca), (gn, pu, mk), H), U, V, F, (L, T), (l, ln)) = ((R.2.length : Int), (((P9, n9, q9, p9, cl9, tn9), (t9, bg9, en9, ca9), (gn9, pu9, mk9), H9), ((((P, n, q, p, cl, tn), (t, bg, en, ca), (gn, pu, mk), H) :: U).take 8), V, F, (0, T), (l, ln))) := by unfold o_read m_psT; dsimp only; rw [hR, hRn, hR9, if_neg (show ¬ R.1 ≠ -1 by omega), if_neg (fun z => z rfl)]
          rw [e9]
          exact ⟨_, rfl, ⟨hMN23, KN23, hVN23, E8, hTN23, hLN23, h7N23⟩, frN23⟩
      · show AR E d _ (52, [some (vA m), some (vI e2), some (vI d9), some (vI got)], [], (C, N9)) _
        refine AR.blk 1 (f' := (53, [some (vA m), some (vI e2), some (vI d9), some (vI got)], [vI got], (C, N9))) (fun _ => rfl) ?_
        refine AR.if_lt rfl (by omega) (fun c27 => ?_) (fun c27 => ?_)
        · show AR E d _ (85, [some (vA m), some (vI e2), some (vI d9), some (vI got)], [], (C, N9)) _
          refine AR.blk 2 (f' := (87, [some (vA m), some (vI e2), some (vI d9), some (vI got)], [vI 0, vA m], (C, N9))) (fun _ => rfl) ?_
          refine AR.putI rfl rfl hm.1 (by decide) (fun _ => by omega) ?_
          have fU : ∀ a, ¬ (a = m ∨ a = m + 1 ∨ a = m + 4 ∨ a = m + 8) → (ag_upd N9 m 7 0) a = N a := fun a ha => (ag_upd_ne (by omega)).trans (qf a ha)
          have kU : ∀ k, ¬ (k = 7 ∨ (8 ≤ k ∧ k ≤ 12) ∨ k = 14 ∨ k = 17 ∨ k = 19) → (ag_upd N9 m 7 0) m k = N m k := fun k hk => (ag_upd_nk (by omega)).trans (qk k hk)
          have hKQU := g_rK_fr hK (N' := ag_upd N9 m 7 0) (kU 6 (by omega)) (fU (m + 2) (by omega))
          have hVQU := g_rW_fr hV (N' := ag_upd N9 m 7 0) (kU 5 (by omega)) (fU (m + 3) (by omega))
          have hLQU := g_rLm_fr hL (N' := ag_upd N9 m 7 0) (kU 16 (by omega)) (fU (m + 7) (by omega))
          have frQU : ∀ a, ¬ (m ≤ a ∧ a < m + 9) → (ag_upd N9 m 7 0) a = N a := fun a ha => (fU a (by omega)).trans ((fun _ _ => rfl) a ha)
          have MU : g_rM ((ag_upd N9 m 7 0) (m + 1)) ((P9, n9, q9, p9, cl9, tn9), (t9, bg9, en9, ca9), (gn9, pu9, mk9), H9) := by rw [show (ag_upd N9 m 7 0) (m + 1) = N9 (m + 1) from ag_upd_ne (by omega)]; exact hM9
          have EU : g_rE (ag_upd N9 m 7 0) m F9 := g_rE_fr hE9 (fun k z0 z1 => ag_upd_nk (by omega))
          have TU : g_rTm (ag_upd N9 m 7 0) m 0 T := ⟨(ag_upd_nk (by omega)).trans q14, fun j z0 z1 => by omega⟩
          have h7U : (ag_upd N9 m 7 0) m 7 = 0 := ag_upd_eq
          have BU : g_rM ((ag_upd N9 m 7 0) (m + 4)) ((P, n, q, p, cl, tn), (t, bg, en, ca), (gn, pu, mk), H) := by rw [show (ag_upd N9 m 7 0) (m + 4) = N9 (m + 4) from ag_upd_ne (by omega)]; exact hB9
          have r19 : (ag_upd N9 m 7 0) m 19 = R.2.length := (ag_upd_nk (by omega)).trans q19
          have hw9 : g_wB P9 n9 q9 p9 cl9 tn9 := hv9.1.1
          have hs9 : g_wS t9 bg9 en9 ca9 gn9 pu9 mk9 := hv9.1.2.2
          have rQU : g_rR ((ag_upd N9 m 7 0) (m + 1)) P9 n9 q9 p9 cl9 tn9 := MU.1
          have zQU : g_rZ ((ag_upd N9 m 7 0) (m + 1)) t9 (t9 % 2) (t9 / 4) bg9 en9 ca9 gn9 pu9 mk9 := MU.2.1
          have sQU : g_rS ((ag_upd N9 m 7 0) (m + 1)) t9 bg9 en9 ca9 gn9 pu9 mk9 := zQU
          have DQU : g_rD ((ag_upd N9 m 7 0) (m + 1)) (m_D H9) := MU.2.2.1
          have pQU : (bg9 : Int) = 0 → (ag_upd N9 m 7 0) (m + 1) 6 = m_cnt P9 0 ∧ (ag_upd N9 m 7 0) (m + 1) 7 = m_cnt P9 1 := MU.2.2.2
          refine AR.blk 1 (f' := (91, [some (vA m), some (vI e2), some (vI d9), some (vI got)], [vI got], (C, ag_upd N9 m 7 0))) (fun _ => rfl) ?_
          refine AR.if_lt rfl (by omega) (fun c28 => ?_) (fun c28 => ?_)
          · show AR E d _ (107, [some (vA m), some (vI e2), some (vI d9), some (vI got)], [], (C, ag_upd N9 m 7 0)) _
            refine AR.blk 1 (f' := (108, [some (vA m), some (vI e2), some (vI d9), some (vI got)], [vA m], (C, ag_upd N9 m 7 0))) (fun _ => rfl) ?_
            refine AR.getR rfl rfl hm.1 (by decide) rfl ?_
            refine AR.blk 2 (f' := (113, [some (vA m), some (vI e2), some (vI d9), some (vI got)], [vA m, vI 0, vA (m + 4)], (C, ag_upd N9 m 7 0))) (fun _ => rfl) ?_
            refine AR.getR rfl rfl hm.1 (by decide) rfl ?_
            refine AR.blk 1 (f' := (117, [some (vA m), some (vI e2), some (vI d9), some (vI got)], [vI 0, vA (m + 1), vI 0, vA (m + 4)], (C, ag_upd N9 m 7 0))) (fun _ => rfl) ?_
            obtain ⟨_, hE29, N30, rfl, hq31, hx32, hf33⟩ := ev_X7_copies (E := E) (d := d) (N := ag_upd N9 m 7 0) (by omega) hm.2.2.2.2.1 hm.2.1 (by omega) 0 0 (by omega) (by omega)
            have kN30 : ∀ j : Int, j = j → N30 m j = (ag_upd N9 m 7 0) m j := fun j _ => congrFun (hf33 m (by omega)) j
            have hKN30 := g_rK_fr hKQU (N' := N30) (kN30 6 (by omega)) (hf33 (m + 2) (by omega))
            have hVN30 := g_rW_fr hVQU (N' := N30) (kN30 5 (by omega)) (hf33 (m + 3) (by omega))
            have hEN30 := g_rE_fr EU (N' := N30) (fun k z0 z1 => kN30 k (by omega))
            have hTN30 := g_rTm_fr TU (N' := N30) (kN30 14 (by omega)) (hf33 (m + 6) (by omega))
            have hLN30 := g_rLm_fr hLQU (N' := N30) (kN30 16 (by omega)) (hf33 (m + 7) (by omega))
            have h7N30 := (kN30 7 (by omega)).trans h7U
            have frN30 : ∀ a, ¬ (m ≤ a ∧ a < m + 9) → (N30) a = N a := fun a ha => (hf33 a (by omega)).trans (frQU a ha)
            have hMN30 : g_rM (N30 (m + 1)) ((P, n, q, p, cl, tn), (t, bg, en, ca), (gn, pu, mk), H) := g_rM_cp hvG BU (fun j z0 z1 => (hq31 j z0 z1).trans (congrArg ((ag_upd N9 m 7 0) (m + 4)) (by omega)))
            have rN30 : g_rR (N30 (m + 1)) P n q p cl tn := hMN30.1
            have zN30 : g_rZ (N30 (m + 1)) t (t % 2) (t / 4) bg en ca gn pu mk := hMN30.2.1
            have sN30 : g_rS (N30 (m + 1)) t bg en ca gn pu mk := zN30
            have DN30 : g_rD (N30 (m + 1)) (m_D H) := hMN30.2.2.1
            have pN30 : (bg : Int) = 0 → N30 (m + 1) 6 = m_cnt P 0 ∧ N30 (m + 1) 7 = m_cnt P 1 := hMN30.2.2.2
            refine AR.callS [vA (m + 4), vI 0, vA (m + 1), vI 0] hE29 rfl rfl rfl rfl rfl ?_
            show AR E d _ (120, [some (vA m), some (vI e2), some (vI d9), some (vI got)], [], (C, N30)) _
            refine AR.blk 2 (f' := (123, [some (vA m), some (vI e2), some (vI d9), some (vI got)], [vI (-3), vI got], (C, N30))) (fun _ => rfl) ?_
            refine AR.ic_eq rfl (by omega) (fun c34 => ?_) (fun c34 => ?_)
            · show AR E d _ (129, [some (vA m), some (vI e2), some (vI d9), some (vI got)], [], (C, N30)) _
              refine AR.blk 4 (f' := (133, [some (vA m), some (vI e2), some (vI d9), some (vI got)], [vI (d9 - 1), vA m], (C, N30))) (fun _ => rfl) ?_
              refine AR.putI rfl rfl hm.1 (by decide) (fun q => absurd q (by decide)) ?_
              refine AR.blk 1 (f' := (138, [some (vA m), some (vI e2), some (vI d9), some (vI got)], [vI (-3)], (C, ag_upd N30 m 10 (d9 - 1)))) (fun _ => rfl) ?_
              have cc := c2 (by omega)
              have fQ : ∀ a, a ≠ m → (ag_upd N30 m 10 (d9 - 1)) a = N30 a := fun a ha => ag_upd_ne ha
              have kQ : ∀ j : Int, j ≠ 10 → (ag_upd N30 m 10 (d9 - 1)) m j = N30 m j := fun j hj => ag_upd_nk hj
              have EQ : g_rE (ag_upd N30 m 10 (d9 - 1)) m (F9.1, F9.2.1, d9 - 1, F9.2.2.2.1, F9.2.2.2.2) := g_rE_num hEN30 (cc.2.2.2 (by omega)) _
              have hMQ9 : g_rM (ag_upd N30 m 10 (d9 - 1) (m + 1)) ((P, n, q, p, cl, tn), (t, bg, en, ca), (gn, pu, mk), H) := by rw [fQ (m + 1) (by omega)]; exact hMN30
              have rQ9 : g_rR ((ag_upd N30 m 10 (d9 - 1)) (m + 1)) P n q p cl tn := hMQ9.1
              have zQ9 : g_rZ ((ag_upd N30 m 10 (d9 - 1)) (m + 1)) t (t % 2) (t / 4) bg en ca gn pu mk := hMQ9.2.1
              have sQ9 : g_rS ((ag_upd N30 m 10 (d9 - 1)) (m + 1)) t bg en ca gn pu mk := zQ9
              have DQ9 : g_rD ((ag_upd N30 m 10 (d9 - 1)) (m + 1)) (m_D H) := hMQ9.2.2.1
              have pQ9 : (bg : Int) = 0 → (ag_upd N30 m 10 (d9 - 1)) (m + 1) 6 = m_cnt P 0 ∧ (ag_upd N30 m 10 (d9 - 1)) (m + 1) 7 = m_cnt P 1 := hMQ9.2.2.2
              have hKQ9 := g_rK_fr hKN30 (N' := ag_upd N30 m 10 (d9 - 1)) (kQ 6 (by omega)) (fQ (m + 2) (by omega))
              have hVQ9 := g_rW_fr hVN30 (N' := ag_upd N30 m 10 (d9 - 1)) (kQ 5 (by omega)) (fQ (m + 3) (by omega))
              have hTQ9 := g_rTm_fr hTN30 (N' := ag_upd N30 m 10 (d9 - 1)) (kQ 14 (by omega)) (fQ (m + 6) (by omega))
              have hLQ9 := g_rLm_fr hLN30 (N' := ag_upd N30 m 10 (d9 - 1)) (kQ 16 (by omega)) (fQ (m + 7) (by omega))
              have h7Q9 := (kQ 7 (by omega)).trans h7N30
              have frQ9 : ∀ a, ¬ (m ≤ a ∧ a < m + 9) → (ag_upd N30 m 10 (d9 - 1)) a = N a := fun a ha => (fQ a (by omega)).trans (frN30 a ha)
              refine AR.endI rfl (.inl rfl) ?_
              have e9 : o_read (((P, n, q, p, cl, tn), (t, bg, en, ca), (gn, pu, mk), H), U, V, F, (L, T), (l, ln)) = ((-3), (((P, n, q, p, cl, tn), (t, bg, en, ca), (gn, pu, mk), H), U, V, (F9.1, F9.2.1, d9 - 1, F9.2.2.2.1, F9.2.2.2.2), (0, T), (l, ln))) := by unfold o_read m_psT; dsimp only; rw [hR, hRn, if_neg (show ¬ R.1 ≠ -1 by omega), if_pos (show Rn.1 ≠ 0 by omega), if_pos (show Rn.1 = -3 by omega), cc.2.2.1]; rw [show m_fix F9 (d9 - 1) got = (F9.1, F9.2.1, d9 - 1, F9.2.2.2.1, F9.2.2.2.2) from if_pos (by omega)]
              rw [e9]
              exact ⟨_, rfl, ⟨hMQ9, hKQ9, hVQ9, EQ, hTQ9, hLQ9, h7Q9⟩, frQ9⟩
            · show AR E d _ (126, [some (vA m), some (vI e2), some (vI d9), some (vI got)], [], (C, N30)) _
              refine AR.blk 1 (f' := (128, [some (vA m), some (vI e2), some (vI d9), some (vI got)], [vI (-2)], (C, N30))) (fun _ => rfl) ?_
              have cc := c2 (by omega)
              refine AR.endI rfl (.inl rfl) ?_
              have e9 : o_read (((P, n, q, p, cl, tn), (t, bg, en, ca), (gn, pu, mk), H), U, V, F, (L, T), (l, ln)) = ((-2), (((P, n, q, p, cl, tn), (t, bg, en, ca), (gn, pu, mk), H), U, V, F9, (0, T), (l, ln))) := by unfold o_read m_psT; dsimp only; rw [hR, hRn, if_neg (show ¬ R.1 ≠ -1 by omega), if_pos (show Rn.1 ≠ 0 by omega), if_neg (show ¬ Rn.1 = -3 by omega), cc.2.2.1]; rw [show m_fix F9 (d9 - 1) got = F9 from if_neg (by omega)]
              rw [e9]
              exact ⟨_, rfl, ⟨hMN30, hKN30, hVN30, hEN30, hTN30, hLN30, h7N30⟩, frN30⟩
          · show AR E d _ (94, [some (vA m), some (vI e2), some (vI d9), some (vI got)], [], (C, ag_upd N9 m 7 0)) _
            refine AR.blk 2 (f' := (96, [some (vA m), some (vI e2), some (vI d9), some (vI got)], [vA m, vA m], (C, ag_upd N9 m 7 0))) (fun _ => rfl) ?_
            refine AR.getR rfl rfl hm.1 (by decide) rfl ?_
            obtain ⟨_, hE35, N36, rfl, hK37, hk38, hf39⟩ := ev_X7_keeps1 (E := E) (d := d) (by omega) hm h7U hKQU hS.2.1 hm.2.2.2.2.1 (by omega) BU hvG
            have KN36 : g_rK N36 m ((((P, n, q, p, cl, tn), (t, bg, en, ca), (gn, pu, mk), H) :: U).take 8) := hK37
            have hMN36 : g_rM (N36 (m + 1)) ((P9, n9, q9, p9, cl9, tn9), (t9, bg9, en9, ca9), (gn9, pu9, mk9), H9) := by rw [hf39 (m + 1) (by omega)]; exact MU
            have rN36 : g_rR ((N36) (m + 1)) P9 n9 q9 p9 cl9 tn9 := hMN36.1
            have zN36 : g_rZ ((N36) (m + 1)) t9 (t9 % 2) (t9 / 4) bg9 en9 ca9 gn9 pu9 mk9 := hMN36.2.1
            have sN36 : g_rS ((N36) (m + 1)) t9 bg9 en9 ca9 gn9 pu9 mk9 := zN36
            have DN36 : g_rD ((N36) (m + 1)) (m_D H9) := hMN36.2.2.1
            have pN36 : (bg9 : Int) = 0 → (N36) (m + 1) 6 = m_cnt P9 0 ∧ (N36) (m + 1) 7 = m_cnt P9 1 := hMN36.2.2.2
            have hVN36 := g_rW_fr hVQU (N' := N36) (hk38 5 (by omega)) (hf39 (m + 3) (by omega))
            have hEN36 := g_rE_fr EU (N' := N36) (fun k z0 z1 => hk38 k (by omega))
            have hTN36 := g_rTm_fr TU (N' := N36) (hk38 14 (by omega)) (hf39 (m + 6) (by omega))
            have hLN36 := g_rLm_fr hLQU (N' := N36) (hk38 16 (by omega)) (hf39 (m + 7) (by omega))
            have h7N36 := (hk38 7 (by omega)).trans h7U
            have frN36 : ∀ a, ¬ (m ≤ a ∧ a < m + 9) → (N36) a = N a := fun a ha => (hf39 a (by omega)).trans (frQU a ha)
            have E8 : g_rE N36 m F := by have z := hEN36; rw [(c1 (by omega)).1] at z; exact z
            have hR9 : Rn = (0, F, ((P9, n9, q9, p9, cl9, tn9), (t9, bg9, en9, ca9), (gn9, pu9, mk9), H9)) := by rw [← (c1 (by omega)).2, List.drop_of_length_le (by omega)]; rfl
            refine AR.callV [vA (m + 4)] hE35 hm.1 rfl rfl rfl rfl rfl ?_
            show AR E d _ (102, [some (vA m), some (vI e2), some (vI d9), some (vI got)], [], (C, N36)) _
            refine AR.blk 1 (f' := (103, [some (vA m), some (vI e2), some (vI d9), some (vI got)], [vA m], (C, N36))) (fun _ => rfl) ?_
            refine AR.getI rfl rfl hm.1 (by decide) (v := (R.2.length : Int)) ((hk38 19 (by omega)).trans r19) ?_
            refine AR.endI rfl (.inl rfl) ?_
            have e9 : o_read (((P, n, q, p, cl, tn), (t, bg, en, ca), (gn, pu, mk), H), U, V, F, (L, T), (l, ln)) = ((R.2.length : Int), (((P9, n9, q9, p9, cl9, tn9), (t9, bg9, en9, ca9), (gn9, pu9, mk9), H9), ((((P, n, q, p, cl, tn), (t, bg, en, ca), (gn, pu, mk), H) :: U).take 8), V, F, (0, T), (l, ln))) := by unfold o_read m_psT; dsimp only; rw [hR, hRn, hR9, if_neg (show ¬ R.1 ≠ -1 by omega), if_neg (fun z => z rfl)]
            rw [e9]
            exact ⟨_, rfl, ⟨hMN36, KN36, hVN36, E8, hTN36, hLN36, h7N36⟩, frN36⟩
        · show AR E d _ (56, [some (vA m), some (vI e2), some (vI d9), some (vI got)], [], (C, N9)) _
          refine AR.blk 2 (f' := (58, [some (vA m), some (vI e2), some (vI d9), some (vI got)], [vA m, vA m], (C, N9))) (fun _ => rfl) ?_
          refine AR.getR rfl rfl hm.1 (by decide) rfl ?_
          refine AR.blk 3 (f' := (64, [some (vA m), some (vI e2), some (vI d9), some (vI got)], [vI (2 * d9), vA (m + 8), vA m], (C, N9))) (fun _ => rfl) ?_
          have f40 := hk2 (by omega)
          refine AR.iald rfl hm.2.2.2.2.2.2.2.2 (by omega) (v := s1) (hk1 (by omega)).1 ?_
          refine AR.blk 1 (f' := (66, [some (vA m), some (vI e2), some (vI d9), some (vI got)], [vA m, vI s1, vA m], (C, N9))) (fun _ => rfl) ?_
          refine AR.getR rfl rfl hm.1 (by decide) rfl ?_
          refine AR.blk 5 (f' := (74, [some (vA m), some (vI e2), some (vI d9), some (vI got)], [vI ((2 * d9) + 1), vA (m + 8), vI s1, vA m], (C, N9))) (fun _ => rfl) ?_
          have f41 := hk3 (by omega)
          refine AR.iald rfl hm.2.2.2.2.2.2.2.2 (by omega) (v := y1) (hk1 (by omega)).2.1 ?_
          obtain ⟨_, hE42, N43, rfl, hM44, hE45, hk46, hf47⟩ := ev_X7_moveW (E := E) (d := d) (by omega) hm q7 hM9 hv9 hE9 s1 y1 (by omega) (by omega)
          have mw := m_run_W hv9 (hk1 (by omega)).2.2.2.2 (c1 (by omega)).2
          rw [← (c1 (by omega)).1] at mw
          have mw4 := mw.2.2.2
          refine AR.callV [vI s1, vI y1] hE42 hm.1 rfl rfl rfl rfl rfl ?_
          show AR E d _ (78, [some (vA m), some (vI e2), some (vI d9), some (vI got)], [vI ((m_mvW ((P9, n9, q9, p9, cl9, tn9), (t9, bg9, en9, ca9), (gn9, pu9, mk9), H9) F9 s1 y1).1)], (C, N43)) _
          refine AR.blk 3 (f' := (44, [some (vA m), some (vI e2), some (vI (d9 + 1)), some (vI ((m_mvW ((P9, n9, q9, p9, cl9, tn9), (t9, bg9, en9, ca9), (gn9, pu9, mk9), H9) F9 s1 y1).1))], [], (C, N43))) (fun _ => rfl) ?_
          exact ih44 (d9 + 1) ((m_mvW ((P9, n9, q9, p9, cl9, tn9), (t9, bg9, en9, ca9), (gn9, pu9, mk9), H9) F9 s1 y1).1) ((m_mvW ((P9, n9, q9, p9, cl9, tn9), (t9, bg9, en9, ca9), (gn9, pu9, mk9), H9) F9 s1 y1).2.2) ((m_mvW ((P9, n9, q9, p9, cl9, tn9), (t9, bg9, en9, ca9), (gn9, pu9, mk9), H9) F9 s1 y1).2.1) _ (by omega) (by omega) (fun z => ⟨(mw.1 z).1.trans (c1 (by omega)).1, by have z2 := (mw.1 z).2; rw [(c1 (by omega)).1] at z2 ⊢; exact z2⟩) (fun z => ⟨by omega, (mw.2.1 z).1, (mw.2.1 z).2.1.trans (congrArg (fun w => m_fix _ w _) (by omega)), (mw.2.1 z).2.2⟩) hM44 mw.2.2.1 hE45 (by rw [hf47 (m + 4) (by omega)]; exact hB9) ((hk46 7 (by omega)).trans q7) ((hk46 14 (by omega)).trans q14) ((hk46 19 (by omega)).trans q19) (g_rTd_fr qd (hf47 (m + 8) (by omega))) (fun a ha => (hf47 a (by omega)).trans (qf a ha)) (fun k hk => (hk46 k (by omega)).trans (qk k hk))
  · show AR E d _ (14, [some (vA m), some (vI e2), none, none], [], (C, ag_upd N2 m 14 0)) _
    refine AR.blk 2 (f' := (17, [some (vA m), some (vI e2), none, none], [vA m, vI (-100)], (C, ag_upd N2 m 14 0))) (fun _ => rfl) ?_
    refine AR.getI rfl rfl hm.1 (by decide) (v := R.1) ((ag_upd_nk (by omega)).trans (h04 (by omega)).2) ?_
    refine AR.blk 1 (f' := (21, [some (vA m), some (vI e2), none, none], [vI ((-100) - R.1)], (C, ag_upd N2 m 14 0))) (fun _ => rfl) ?_
    have fQ : ∀ a, a ≠ m → (ag_upd N2 m 14 0) a = N2 a := fun a ha => ag_upd_ne ha
    have kQ : ∀ j : Int, j ≠ 14 → (ag_upd N2 m 14 0) m j = N2 m j := fun j hj => ag_upd_nk hj
    have TQ : g_rTm (ag_upd N2 m 14 0) m 0 T := ⟨ag_upd_eq, fun j z0 z1 => by omega⟩
    have hMQ9 : g_rM (ag_upd N2 m 14 0 (m + 1)) ((P, n, q, p, cl, tn), (t, bg, en, ca), (gn, pu, mk), H) := by rw [fQ (m + 1) (by omega)]; exact hMN2
    have rQ9 : g_rR ((ag_upd N2 m 14 0) (m + 1)) P n q p cl tn := hMQ9.1
    have zQ9 : g_rZ ((ag_upd N2 m 14 0) (m + 1)) t (t % 2) (t / 4) bg en ca gn pu mk := hMQ9.2.1
    have sQ9 : g_rS ((ag_upd N2 m 14 0) (m + 1)) t bg en ca gn pu mk := zQ9
    have DQ9 : g_rD ((ag_upd N2 m 14 0) (m + 1)) (m_D H) := hMQ9.2.2.1
    have pQ9 : (bg : Int) = 0 → (ag_upd N2 m 14 0) (m + 1) 6 = m_cnt P 0 ∧ (ag_upd N2 m 14 0) (m + 1) 7 = m_cnt P 1 := hMQ9.2.2.2
    have hKQ9 := g_rK_fr hKN2 (N' := ag_upd N2 m 14 0) (kQ 6 (by omega)) (fQ (m + 2) (by omega))
    have hVQ9 := g_rW_fr hVN2 (N' := ag_upd N2 m 14 0) (kQ 5 (by omega)) (fQ (m + 3) (by omega))
    have hEQ9 := g_rE_fr hEN2 (N' := ag_upd N2 m 14 0) (fun k z0 z1 => kQ k (by omega))
    have hLQ9 := g_rLm_fr hLN2 (N' := ag_upd N2 m 14 0) (kQ 16 (by omega)) (fQ (m + 7) (by omega))
    have h7Q9 := (kQ 7 (by omega)).trans h7N2
    have frQ9 : ∀ a, ¬ (m ≤ a ∧ a < m + 9) → (ag_upd N2 m 14 0) a = N a := fun a ha => (fQ a (by omega)).trans (frN2 a ha)
    refine AR.endI rfl (.inl rfl) ?_
    have e9 : o_read (((P, n, q, p, cl, tn), (t, bg, en, ca), (gn, pu, mk), H), U, V, F, (L, T), (l, ln)) = ((-100) - R.1, (((P, n, q, p, cl, tn), (t, bg, en, ca), (gn, pu, mk), H), U, V, F, (0, T), (l, ln))) := by unfold o_read m_psT; dsimp only; rw [hR, if_pos (h04 (by omega)).1]
    rw [e9]
    exact ⟨_, rfl, ⟨hMQ9, hKQ9, hVQ9, hEQ9, TQ, hLQ9, h7Q9⟩, frQ9⟩
end L2N
