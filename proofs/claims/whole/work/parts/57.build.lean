/-! LEVEL 2: the model: put, lock, begin, move -/
theorem g_rD_fr2 {R R' : Int → Int} {D : List ((Int × Int) × Int)} (h : g_rD R D) (hf : ∀ i, 67 ≤ i → R' i = R i) : g_rD R' D :=
  ⟨(hf 67 (by omega)).trans h.1, fun i y hy => g_ent_fr (h.2 i y hy) (fun k h0 h1 => hf _ (by omega))⟩
theorem g_rZ_fr2 {R R' : Int → Int} {t sd ho bg en ca : Int} {gn pu mk : Int → Int} (h : g_rZ R t sd ho bg en ca gn pu mk) (hf : ∀ i, 0 ≤ i → i < 14 → i ≠ 6 → i ≠ 7 → R' i = R i) : g_rZ R' t sd ho bg en ca gn pu mk :=
  ⟨(hf _ (by omega) (by omega) (by omega) (by omega)).trans h.1, (hf _ (by omega) (by omega) (by omega) (by omega)).trans h.2.1, (hf _ (by omega) (by omega) (by omega) (by omega)).trans h.2.2.1, (hf _ (by omega) (by omega) (by omega) (by omega)).trans h.2.2.2.1, (hf _ (by omega) (by omega) (by omega) (by omega)).trans h.2.2.2.2.1, (hf _ (by omega) (by omega) (by omega) (by omega)).trans h.2.2.2.2.2.1, ⟨(hf _ (by omega) (by omega) (by omega) (by omega)).trans h.2.2.2.2.2.2.1.1, (hf _ (by omega) (by omega) (by omega) (by omega)).trans h.2.2.2.2.2.2.1.2⟩, ⟨(hf _ (by omega) (by omega) (by omega) (by omega)).trans h.2.2.2.2.2.2.2.1.1, (hf _ (by omega) (by omega) (by omega) (by omega)).trans h.2.2.2.2.2.2.2.1.2⟩, (hf _ (by omega) (by omega) (by omega) (by omega)).trans h.2.2.2.2.2.2.2.2.1, (hf _ (by omega) (by omega) (by omega) (by omega)).trans h.2.2.2.2.2.2.2.2.2⟩
theorem g_rM_put {N : Nat → Int → Int} {a : Nat} {G : m_G} {s c w z1 z2 : Int} (h : g_rM (N a) G) (hb : G.2.1.2.1 = 0) (hs : 0 ≤ s ∧ s < 36) (hP : G.1.1 s = -1) (hc : 0 ≤ c ∧ c < 4) (hw : w = c / 2) (e1 : z1 = c + 1) (e2 : z2 = m_cnt G.1.1 w + 1) : g_rM (ag_upd (ag_upd N a (31 + s) z1) a (6 + w) z2 a) (m_putG G s c) := by
  have h1 := g_rR_set h.1 s c z1 e1 hs
  have ho : m_own (G.1.1 s) = -1 := by rw [hP]; rfl
  have o1 : m_own c = c / 2 := by unfold m_own; omega
  have c0 := m_cnt_set G.1.1 s c 0 hs ho (by omega)
  have c1 := m_cnt_set G.1.1 s c 1 hs ho (by omega)
  have p := h.2.2.2 hb
  refine ⟨g_rR_fr h1 (fun i z0 z1 => ag_upd_nk (by omega)), ?_, ?_, fun _ => ⟨?_, ?_⟩⟩
  · exact g_rZ_fr2 h.2.1 (fun i z0 z1 z6 z7 => (ag_upd_nk (by omega)).trans (ag_upd_nk (by omega)))
  · exact g_rD_fr2 (g_rD_fr2 h.2.2.1 (R' := ag_upd N a (31 + s) z1 a) (fun i z0 => ag_upd_nk (by omega))) (fun i z0 => ag_upd_nk (by omega))
  · show ag_upd (ag_upd N a (31 + s) z1) a (6 + w) z2 a 6 = m_cnt (m_set G.1.1 s c) 0
    rw [c0, o1]
    by_cases q : w = 0
    · subst q
      rw [if_pos hw.symm, ← e2]
      exact ag_upd_eq
    · rw [if_neg (by omega)]
      exact (ag_upd_nk (by omega)).trans ((ag_upd_nk (by omega)).trans (p.1.trans (Int.add_zero _).symm))
  · show ag_upd (ag_upd N a (31 + s) z1) a (6 + w) z2 a 7 = m_cnt (m_set G.1.1 s c) 1
    rw [c1, o1]
    by_cases q : w = 1
    · subst q
      rw [if_pos hw.symm, ← e2]
      exact ag_upd_eq
    · rw [if_neg (by omega)]
      exact (ag_upd_nk (by omega)).trans ((ag_upd_nk (by omega)).trans (p.2.trans (Int.add_zero _).symm))
theorem g_rM_lok {N : Nat → Int → Int} {a : Nat} {G : m_G} {s y k : Int} (h : g_rM (N a) G) (hn : k = 15 + 4 * G.1.2.1 ∧ 0 ≤ G.1.2.1 ∧ G.1.2.1 < 4) {z : Int} (hz : z = G.1.2.1 + 1) : g_rM (ag_upd (ag_upd (ag_upd (ag_upd (ag_upd N a k s) a (k + 1) y) a (k + 2) 0) a (k + 3) 0) a 14 z a) (m_lokG G s y) := by
  obtain ⟨rfl, hn0, hn1⟩ := hn
  subst hz
  have key : ∀ i, ¬ (15 + 4 * G.1.2.1 ≤ i ∧ i < 15 + 4 * G.1.2.1 + 4) → i ≠ 14 → ag_upd (ag_upd (ag_upd (ag_upd (ag_upd N a (15 + 4 * G.1.2.1) s) a (15 + 4 * G.1.2.1 + 1) y) a (15 + 4 * G.1.2.1 + 2) 0) a (15 + 4 * G.1.2.1 + 3) 0) a 14 (G.1.2.1 + 1) a i = N a i := fun i z0 z1 => (ag_upd_nk z1).trans ((ag_upd_nk (by omega)).trans ((ag_upd_nk (by omega)).trans ((ag_upd_nk (by omega)).trans (ag_upd_nk (by omega)))))
  have hR := h.1
  refine ⟨⟨fun i z0 z1 => (key _ (by omega) (by omega)).trans (hR.1 i z0 z1), ag_upd_eq, fun i z0 z1 => ?_, fun i z0 z1 => ?_⟩, g_rZ_fr h.2.1 (fun i z0 z1 => key _ (by omega) (by omega)), g_rD_fr2 h.2.2.1 (fun i z0 => key _ (by omega) (by omega)), fun e => ⟨(key _ (by omega) (by omega)).trans (h.2.2.2 e).1, (key _ (by omega) (by omega)).trans (h.2.2.2 e).2⟩⟩
  · show _ = m_set G.1.2.2.1 G.1.2.1 s i ∧ _ = m_set G.1.2.2.2.1 G.1.2.1 y i
    unfold m_set
    by_cases e : i = G.1.2.1
    · subst e
      rw [if_pos rfl, if_pos rfl, Int.add_zero]
      exact ⟨(ag_upd_nk (by omega)).trans ((ag_upd_nk (by omega)).trans ((ag_upd_nk (by omega)).trans ((ag_upd_nk (by omega)).trans ag_upd_eq))), (ag_upd_nk (by omega)).trans ((ag_upd_nk (by omega)).trans ((ag_upd_nk (by omega)).trans ag_upd_eq))⟩
    · rw [if_neg e, if_neg e]
      exact ⟨(key _ (by omega) (by omega)).trans (hR.2.2.1 i z0 z1).1, (key _ (by omega) (by omega)).trans (hR.2.2.1 i z0 z1).2⟩
  · show _ = m_set G.1.2.2.2.2.1 G.1.2.1 0 i ∧ _ = m_set G.1.2.2.2.2.2 G.1.2.1 0 i
    unfold m_set
    by_cases e : i = G.1.2.1
    · subst e
      rw [if_pos rfl, if_pos rfl]
      exact ⟨(ag_upd_nk (by omega)).trans ((ag_upd_nk (by omega)).trans ag_upd_eq), (ag_upd_nk (by omega)).trans ag_upd_eq⟩
    · rw [if_neg e, if_neg e]
      exact ⟨(key _ (by omega) (by omega)).trans (hR.2.2.2 i z0 z1).1, (key _ (by omega) (by omega)).trans (hR.2.2.2 i z0 z1).2⟩
theorem m_go_ans (P : Int → Int) (n : Int) (q cl : Int → Int) (t : Int) (x : Int × Int) (r : List (Int × Int)) (h : m_cn x (m_D r) ≤ 3) : m_stR P n q cl t (x :: r) = if m_stl P n q cl t (x :: r) = 0 ∨ (m_cn x (m_D r) = 3 ∧ 0 < m_cnt P 0 ∧ 0 < m_cnt P 1) then m_cn x (m_D r) else 0 := by
  have h0 := m_cnt_in P 0
  have h1 := m_cnt_in P 1
  unfold m_stR m_stl
  rw [m_tl_cn]
  omega
theorem m_D_C {G : m_G} (hv : g_vG G) : ∀ y, y ∈ m_D G.2.2.2 → 0 ≤ y.2 ∧ y.2 ≤ 1000 := fun y hy => by
  have h1 := m_D_pos G.2.2.2 y hy
  have h2 := hv.2.2.2.2.1 y hy
  omega
section L2H
variable {E : Nat × (Int → Int)} {C : List ag_C} {N : Nat → Int → Int} {m : Nat}

theorem ev_X7_put {d : Nat} (hd : 4 ≤ d) {G : m_G} {U : List m_G} {V : Option m_G} {F : m_F} {L : Int} {T : Int → Int} {l : Int} {ln : Int → Int} (hm : g_isM C m) (hY : g_rY N m (G, U, V, F, (L, T), (l, ln))) (hS : g_vS (G, U, V, F, (L, T), (l, ln))) (w k s : Int) (h0 : ag_in w) (h1 : ag_in k) (h2 : ag_in s) : ∃ o_, Ev E d 120 [vA m, vI w, vI k, vI s] (C, N) o_ ∧ g_QY C N m (o_put (G, U, V, F, (L, T), (l, ln)) w k s) o_ := by
  obtain ⟨d, rfl⟩ : ∃ j, d = j + 1 := ⟨d - 1, by omega⟩
  obtain ⟨⟨P, n, q, p, cl, tn⟩, ⟨t, bg, en, ca⟩, ⟨gn, pu, mk⟩, H⟩ := G
  have hM : g_rM (N (m + 1)) ((P, n, q, p, cl, tn), (t, bg, en, ca), (gn, pu, mk), H) := hY.1
  have hK : g_rK N m U := hY.2.1
  have hV : g_rW N m V := hY.2.2.1
  have hE : g_rE N m F := hY.2.2.2.1
  have hT : g_rTm N m L T := hY.2.2.2.2.1
  have hL : g_rLm N m l ln := hY.2.2.2.2.2.1
  have h7 : N m 7 = 0 := hY.2.2.2.2.2.2
  have hvG : g_vG ((P, n, q, p, cl, tn), (t, bg, en, ca), (gn, pu, mk), H) := hS.1
  have hw : g_wB P n q p cl tn := hvG.1.1
  have hwH : g_wH H := hvG.1.2.1
  have hv : g_wS t bg en ca gn pu mk := hvG.1.2.2
  have w1 := hv.1
  have w2 := hv.2.1
  have w3 := hv.2.2.1
  have w4 := hv.2.2.2.1
  have w6 := hv.2.2.2.2.2
  have w7 := hw.2.2.1
  have hwL : 0 ≤ L ∧ L ≤ 70 := hS.2.2.2.1
  have hwl : 0 ≤ l ∧ l ≤ 6 := hS.2.2.2.2.2
  have k8 := hK.2.1
  have r0 : g_rR (N (m + 1)) P n q p cl tn := hM.1
  have z0 : g_rZ (N (m + 1)) t (t % 2) (t / 4) bg en ca gn pu mk := hM.2.1
  have s0 : g_rS (N (m + 1)) t bg en ca gn pu mk := z0
  have D0 : g_rD (N (m + 1)) (m_D H) := hM.2.2.1
  have p0 : (bg : Int) = 0 → N (m + 1) 6 = m_cnt P 0 ∧ N (m + 1) 7 = m_cnt P 1 := hM.2.2.2
  refine Ev.introQ (M := ag_mX7_put) rfl rfl ?_
  show AR E d _ (0, [some (vA m), some (vI w), some (vI k), some (vI s)], [], (C, N)) _
  refine AR.blk 1 (f' := (1, [some (vA m), some (vI w), some (vI k), some (vI s)], [vI s], (C, N))) (fun _ => rfl) ?_
  refine AR.callS [vI s] (ev_X7_isSquare (by omega) s (by omega)) rfl rfl rfl rfl rfl ?_
  show AR E d _ (4, [some (vA m), some (vI w), some (vI k), some (vI s)], [vI (if 0 ≤ s ∧ s ≤ 35 then 1 else 0)], (C, N)) _
  refine AR.if_ne rfl (by omega) (fun c1 => ?_) (fun c1 => ?_)
  · show AR E d _ (9, [some (vA m), some (vI w), some (vI k), some (vI s)], [], (C, N)) _
    refine AR.blk 3 (f' := (12, [some (vA m), some (vI w), some (vI k), some (vI s)], [vI 1, vI 0, vI w], (C, N))) (fun _ => rfl) ?_
    refine AR.callS [vI w, vI 0, vI 1] (ev_X7_in (by omega) w 0 1 (by omega)) rfl rfl rfl rfl rfl ?_
    show AR E d _ (15, [some (vA m), some (vI w), some (vI k), some (vI s)], [vI (if 0 ≤ w ∧ w ≤ 1 then 1 else 0)], (C, N)) _
    refine AR.if_eq rfl (by omega) (fun c2 => ?_) (fun c2 => ?_)
    · show AR E d _ (27, [some (vA m), some (vI w), some (vI k), some (vI s)], [], (C, N)) _
      refine AR.blk 1 (f' := (29, [some (vA m), some (vI w), some (vI k), some (vI s)], [vI (-2)], (C, N))) (fun _ => rfl) ?_
      refine AR.endI rfl (.inl rfl) ?_
      have e9 : o_put (((P, n, q, p, cl, tn), (t, bg, en, ca), (gn, pu, mk), H), U, V, F, (L, T), (l, ln)) w k s = ((-2), (((P, n, q, p, cl, tn), (t, bg, en, ca), (gn, pu, mk), H), U, V, F, (L, T), (l, ln))) := by unfold o_put <;> (try dsimp only) <;> ((repeat (first | rw [if_pos (by omega)] | rw [if_neg (by omega)]))) <;> rfl
      rw [e9]
      exact ⟨_, rfl, ⟨hM, hK, hV, hE, hT, hL, h7⟩, (fun _ _ => rfl)⟩
    · show AR E d _ (18, [some (vA m), some (vI w), some (vI k), some (vI s)], [], (C, N)) _
      refine AR.blk 3 (f' := (21, [some (vA m), some (vI w), some (vI k), some (vI s)], [vI 1, vI 0, vI k], (C, N))) (fun _ => rfl) ?_
      refine AR.callS [vI k, vI 0, vI 1] (ev_X7_in (by omega) k 0 1 (by omega)) rfl rfl rfl rfl rfl ?_
      show AR E d _ (24, [some (vA m), some (vI w), some (vI k), some (vI s)], [vI (if 0 ≤ k ∧ k ≤ 1 then 1 else 0)], (C, N)) _
      refine AR.if_ne rfl (by omega) (fun c3 => ?_) (fun c3 => ?_)
      · show AR E d _ (30, [some (vA m), some (vI w), some (vI k), some (vI s)], [], (C, N)) _
        refine AR.blk 2 (f' := (32, [some (vA m), some (vI w), some (vI k), some (vI s)], [vI s, vA m], (C, N))) (fun _ => rfl) ?_
        obtain ⟨_, hE4, N5, rfl, hE6, hk7, hf8⟩ := ev_X7_cannotBuild (E := E) (d := d) (by omega) hm hM hvG hE s (by omega)
        have EN5 : g_rE N5 m (m_cbF ((P, n, q, p, cl, tn), (t, bg, en, ca), (gn, pu, mk), H) F s).2 := hE6
        have hMN5 : g_rM (N5 (m + 1)) ((P, n, q, p, cl, tn), (t, bg, en, ca), (gn, pu, mk), H) := by rw [hf8 (m + 1) (by omega)]; exact hM
        have rN5 : g_rR ((N5) (m + 1)) P n q p cl tn := hMN5.1
        have zN5 : g_rZ ((N5) (m + 1)) t (t % 2) (t / 4) bg en ca gn pu mk := hMN5.2.1
        have sN5 : g_rS ((N5) (m + 1)) t bg en ca gn pu mk := zN5
        have DN5 : g_rD ((N5) (m + 1)) (m_D H) := hMN5.2.2.1
        have pN5 : (bg : Int) = 0 → (N5) (m + 1) 6 = m_cnt P 0 ∧ (N5) (m + 1) 7 = m_cnt P 1 := hMN5.2.2.2
        have hKN5 := g_rK_fr hK (N' := N5) (hk7 6 (by omega)) (hf8 (m + 2) (by omega))
        have hVN5 := g_rW_fr hV (N' := N5) (hk7 5 (by omega)) (hf8 (m + 3) (by omega))
        have hTN5 := g_rTm_fr hT (N' := N5) (hk7 14 (by omega)) (hf8 (m + 6) (by omega))
        have hLN5 := g_rLm_fr hL (N' := N5) (hk7 16 (by omega)) (hf8 (m + 7) (by omega))
        have h7N5 := (hk7 7 (by omega)).trans h7
        have frN5 : ∀ a, ¬ (m ≤ a ∧ a < m + 9) → (N5) a = N a := fun a ha => (hf8 a (by omega)).trans ((fun _ _ => rfl) a ha)
        refine AR.callV [vI s] hE4 hm.1 rfl rfl rfl rfl rfl ?_
        show AR E d _ (35, [some (vA m), some (vI w), some (vI k), some (vI s)], [vI ((m_cbF ((P, n, q, p, cl, tn), (t, bg, en, ca), (gn, pu, mk), H) F s).1)], (C, N5)) _
        have f9 := m_cb01 ((P, n, q, p, cl, tn), (t, bg, en, ca), (gn, pu, mk), H) F s
        refine AR.if_eq rfl (by omega) (fun c10 => ?_) (fun c10 => ?_)
        · show AR E d _ (41, [some (vA m), some (vI w), some (vI k), some (vI s)], [], (C, N5)) _
          have cb := (m_cbF_in ((P, n, q, p, cl, tn), (t, bg, en, ca), (gn, pu, mk), H) F s).resolve_right (fun z => by have z2 := z.1; omega)
          have E8 : g_rE N5 m F := by have z := EN5; rw [cb.2.1] at z; exact z
          have cb1 : bg ≠ 1 := cb.2.2.1.1
          have cb2 : P s = -1 := cb.2.2.1.2.1
          have cb3 : m_la n q s = -1 := cb.2.2.1.2.2
          have cb4 : ∀ u z, m_beF ((P, n, q, p, cl, tn), (t, bg, en, ca), (gn, pu, mk), H) F s u z = if u < z then (0, F) else (-3, (1, z, -4, -4, -4)) := cb.2.2.2
          have v0 := hvG.2.1 (show bg = 0 by omega)
          have c8 : m_cnt P w ≤ 8 := by have e : w = 0 ∨ w = 1 := (by omega); rcases e with rfl | rfl; exact v0.2.1; exact v0.2.2
          refine AR.blk 1 (f' := (42, [some (vA m), some (vI w), some (vI k), some (vI s)], [vA m], (C, N5))) (fun _ => rfl) ?_
          refine AR.getR rfl rfl hm.1 (by decide) rfl ?_
          refine AR.blk 3 (f' := (49, [some (vA m), some (vI w), some (vI k), some (vI s)], [vI (6 + w), vA (m + 1)], (C, N5))) (fun _ => rfl) ?_
          have f11 := m_cnt_in P w
          refine AR.iald rfl hm.2.1 (by omega) (v := m_cnt P w) (m_two 6 (pN5 (by omega)).1 (pN5 (by omega)).2 (by omega)) ?_
          refine AR.blk 1 (f' := (52, [some (vA m), some (vI w), some (vI k), some (vI s)], [vI 8, vI (m_cnt P w)], (C, N5))) (fun _ => rfl) ?_
          refine AR.ic_ne rfl (by omega) (fun c12 => ?_) (fun c12 => ?_)
          · show AR E d _ (63, [some (vA m), some (vI w), some (vI k), some (vI s)], [], (C, N5)) _
            refine AR.blk 2 (f' := (65, [some (vA m), some (vI w), some (vI k), some (vI s)], [vA m, vA m], (C, N5))) (fun _ => rfl) ?_
            refine AR.getR rfl rfl hm.1 (by decide) rfl ?_
            obtain ⟨_, hE13, N14, rfl, hK15, hk16, hf17⟩ := ev_X7_keeps1 (E := E) (d := d) (by omega) hm h7N5 hKN5 hS.2.1 hm.2.1 (by omega) hMN5 hvG
            have KN14 : g_rK N14 m ((((P, n, q, p, cl, tn), (t, bg, en, ca), (gn, pu, mk), H) :: U).take 8) := hK15
            have hMN14 : g_rM (N14 (m + 1)) ((P, n, q, p, cl, tn), (t, bg, en, ca), (gn, pu, mk), H) := by rw [hf17 (m + 1) (by omega)]; exact hMN5
            have rN14 : g_rR ((N14) (m + 1)) P n q p cl tn := hMN14.1
            have zN14 : g_rZ ((N14) (m + 1)) t (t % 2) (t / 4) bg en ca gn pu mk := hMN14.2.1
            have sN14 : g_rS ((N14) (m + 1)) t bg en ca gn pu mk := zN14
            have DN14 : g_rD ((N14) (m + 1)) (m_D H) := hMN14.2.2.1
            have pN14 : (bg : Int) = 0 → (N14) (m + 1) 6 = m_cnt P 0 ∧ (N14) (m + 1) 7 = m_cnt P 1 := hMN14.2.2.2
            have hVN14 := g_rW_fr hVN5 (N' := N14) (hk16 5 (by omega)) (hf17 (m + 3) (by omega))
            have hEN14 := g_rE_fr E8 (N' := N14) (fun k z0 z1 => hk16 k (by omega))
            have hTN14 := g_rTm_fr hTN5 (N' := N14) (hk16 14 (by omega)) (hf17 (m + 6) (by omega))
            have hLN14 := g_rLm_fr hLN5 (N' := N14) (hk16 16 (by omega)) (hf17 (m + 7) (by omega))
            have h7N14 := (hk16 7 (by omega)).trans h7N5
            have frN14 : ∀ a, ¬ (m ≤ a ∧ a < m + 9) → (N14) a = N a := fun a ha => (hf17 a (by omega)).trans (frN5 a ha)
            refine AR.callV [vA (m + 1)] hE13 hm.1 rfl rfl rfl rfl rfl ?_
            show AR E d _ (71, [some (vA m), some (vI w), some (vI k), some (vI s)], [], (C, N14)) _
            refine AR.blk 1 (f' := (72, [some (vA m), some (vI w), some (vI k), some (vI s)], [vA m], (C, N14))) (fun _ => rfl) ?_
            refine AR.getR rfl rfl hm.1 (by decide) rfl ?_
            refine AR.blk 10 (f' := (86, [some (vA m), some (vI w), some (vI k), some (vI s)], [vI (((2 * w) + k) + 1), vI (31 + s), vA (m + 1)], (C, N14))) (fun _ => rfl) ?_
            refine AR.iast rfl hm.2.1 (by omega) ?_
            refine AR.blk 1 (f' := (88, [some (vA m), some (vI w), some (vI k), some (vI s)], [vA m], (C, ag_upd N14 (m + 1) (31 + s) (((2 * w) + k) + 1)))) (fun _ => rfl) ?_
            refine AR.getR rfl rfl hm.1 (by decide) rfl ?_
            refine AR.blk 4 (f' := (96, [some (vA m), some (vI w), some (vI k), some (vI s)], [vI (6 + w), vA (m + 1), vI (6 + w), vA (m + 1)], (C, ag_upd N14 (m + 1) (31 + s) (((2 * w) + k) + 1)))) (fun _ => rfl) ?_
            refine AR.iald rfl hm.2.1 (by omega) (v := m_cnt P w) ((ag_upd_nk (by omega)).trans (m_two 6 (pN14 (by omega)).1 (pN14 (by omega)).2 (by omega))) ?_
            refine AR.blk 2 (f' := (99, [some (vA m), some (vI w), some (vI k), some (vI s)], [vI ((m_cnt P w) + 1), vI (6 + w), vA (m + 1)], (C, ag_upd N14 (m + 1) (31 + s) (((2 * w) + k) + 1)))) (fun _ => rfl) ?_
            refine AR.iast rfl hm.2.1 (by omega) ?_
            have fQ1 : ∀ a, a ≠ m + 1 → (ag_upd (ag_upd N14 (m + 1) (31 + s) (((2 * w) + k) + 1)) (m + 1) (6 + w) ((m_cnt P w) + 1)) a = N14 a := fun a ha => (ag_upd_ne ha).trans (ag_upd_ne ha)
            have kQ1 : ∀ kk_ : Int, kk_ = kk_ → (ag_upd (ag_upd N14 (m + 1) (31 + s) (((2 * w) + k) + 1)) (m + 1) (6 + w) ((m_cnt P w) + 1)) m kk_ = N14 m kk_ := fun kk_ _ => congrFun (fQ1 m (by omega)) kk_
            have hKQ1 := g_rK_fr KN14 (N' := ag_upd (ag_upd N14 (m + 1) (31 + s) (((2 * w) + k) + 1)) (m + 1) (6 + w) ((m_cnt P w) + 1)) (kQ1 6 (by omega)) (fQ1 (m + 2) (by omega))
            have hVQ1 := g_rW_fr hVN14 (N' := ag_upd (ag_upd N14 (m + 1) (31 + s) (((2 * w) + k) + 1)) (m + 1) (6 + w) ((m_cnt P w) + 1)) (kQ1 5 (by omega)) (fQ1 (m + 3) (by omega))
            have hEQ1 := g_rE_fr hEN14 (N' := ag_upd (ag_upd N14 (m + 1) (31 + s) (((2 * w) + k) + 1)) (m + 1) (6 + w) ((m_cnt P w) + 1)) (fun k z0 z1 => kQ1 k (by omega))
            have hTQ1 := g_rTm_fr hTN14 (N' := ag_upd (ag_upd N14 (m + 1) (31 + s) (((2 * w) + k) + 1)) (m + 1) (6 + w) ((m_cnt P w) + 1)) (kQ1 14 (by omega)) (fQ1 (m + 6) (by omega))
            have hLQ1 := g_rLm_fr hLN14 (N' := ag_upd (ag_upd N14 (m + 1) (31 + s) (((2 * w) + k) + 1)) (m + 1) (6 + w) ((m_cnt P w) + 1)) (kQ1 16 (by omega)) (fQ1 (m + 7) (by omega))
            have h7Q1 := (kQ1 7 (by omega)).trans h7N14
            have frQ1 : ∀ a, ¬ (m ≤ a ∧ a < m + 9) → (ag_upd (ag_upd N14 (m + 1) (31 + s) (((2 * w) + k) + 1)) (m + 1) (6 + w) ((m_cnt P w) + 1)) a = N a := fun a ha => (fQ1 a (by omega)).trans (frN14 a ha)
            have hMQ1 : g_rM ((ag_upd (ag_upd N14 (m + 1) (31 + s) (((2 * w) + k) + 1)) (m + 1) (6 + w) ((m_cnt P w) + 1)) (m + 1)) ((m_set P s (w * 2 + k), n, q, p, cl, tn), (t, bg, en, ca), (gn, pu, mk), H) := g_rM_put hMN14 (show bg = 0 by omega) (by omega) cb2 (show 0 ≤ w * 2 + k ∧ w * 2 + k < 4 by omega) (by omega) (by omega) rfl
            have rQ1 : g_rR ((ag_upd (ag_upd N14 (m + 1) (31 + s) (((2 * w) + k) + 1)) (m + 1) (6 + w) ((m_cnt P w) + 1)) (m + 1)) (m_set P s (w * 2 + k)) n q p cl tn := hMQ1.1
            have zQ1 : g_rZ ((ag_upd (ag_upd N14 (m + 1) (31 + s) (((2 * w) + k) + 1)) (m + 1) (6 + w) ((m_cnt P w) + 1)) (m + 1)) t (t % 2) (t / 4) bg en ca gn pu mk := hMQ1.2.1
            have sQ1 : g_rS ((ag_upd (ag_upd N14 (m + 1) (31 + s) (((2 * w) + k) + 1)) (m + 1) (6 + w) ((m_cnt P w) + 1)) (m + 1)) t bg en ca gn pu mk := zQ1
            have DQ1 : g_rD ((ag_upd (ag_upd N14 (m + 1) (31 + s) (((2 * w) + k) + 1)) (m + 1) (6 + w) ((m_cnt P w) + 1)) (m + 1)) (m_D H) := hMQ1.2.2.1
            have pQ1 : (bg : Int) = 0 → (ag_upd (ag_upd N14 (m + 1) (31 + s) (((2 * w) + k) + 1)) (m + 1) (6 + w) ((m_cnt P w) + 1)) (m + 1) 6 = m_cnt (m_set P s (w * 2 + k)) 0 ∧ (ag_upd (ag_upd N14 (m + 1) (31 + s) (((2 * w) + k) + 1)) (m + 1) (6 + w) ((m_cnt P w) + 1)) (m + 1) 7 = m_cnt (m_set P s (w * 2 + k)) 1 := hMQ1.2.2.2
            have vQ1 : g_vG ((m_set P s (w * 2 + k), n, q, p, cl, tn), (t, bg, en, ca), (gn, pu, mk), H) := g_vG_put hvG (show bg = 0 by omega) (by omega) cb2 (by omega) (by rw [show (w * 2 + k) / 2 = w by omega]; show m_cnt P w < 8; omega)
            have wQ1 : g_wB (m_set P s (w * 2 + k)) n q p cl tn := vQ1.1.1
            have yQ1 : g_wS t bg en ca gn pu mk := vQ1.1.2.2
            refine AR.blk 2 (f' := (102, [some (vA m), some (vI w), some (vI k), some (vI s)], [vI w, vA m], (C, ag_upd (ag_upd N14 (m + 1) (31 + s) (((2 * w) + k) + 1)) (m + 1) (6 + w) ((m_cnt P w) + 1)))) (fun _ => rfl) ?_
            refine AR.callV [vI w] (ev_X7_pieces (by omega) hm rQ1 wQ1 w (by omega)) hm.1 rfl rfl rfl rfl rfl ?_
            show AR E d _ (105, [some (vA m), some (vI w), some (vI k), some (vI s)], [vI (m_cnt (m_set P s (w * 2 + k)) w)], (C, ag_upd (ag_upd N14 (m + 1) (31 + s) (((2 * w) + k) + 1)) (m + 1) (6 + w) ((m_cnt P w) + 1))) _
            have f18 := m_cnt_in (m_set P s (w * 2 + k)) w
            have eb := (cb4 (m_cnt P w) 8).trans (if_pos (by omega))
            refine AR.endI rfl (.inl rfl) ?_
            have e9 : o_put (((P, n, q, p, cl, tn), (t, bg, en, ca), (gn, pu, mk), H), U, V, F, (L, T), (l, ln)) w k s = (m_cnt (m_set P s (w * 2 + k)) w, (((m_set P s (w * 2 + k), n, q, p, cl, tn), (t, bg, en, ca), (gn, pu, mk), H), ((((P, n, q, p, cl, tn), (t, bg, en, ca), (gn, pu, mk), H) :: U).take 8), V, F, (L, T), (l, ln))) := by unfold o_put <;> (try dsimp only) <;> (rw [eb] <;> (try dsimp only) <;> (repeat (first | rw [if_pos (by omega)] | rw [if_neg (by omega)]))) <;> rfl
            rw [e9]
            exact ⟨_, rfl, ⟨hMQ1, hKQ1, hVQ1, hEQ1, hTQ1, hLQ1, h7Q1⟩, frQ1⟩
          · show AR E d _ (55, [some (vA m), some (vI w), some (vI k), some (vI s)], [], (C, N5)) _
            refine AR.blk 3 (f' := (59, [some (vA m), some (vI w), some (vI k), some (vI s)], [vI 8, vI 1, vA m], (C, N5))) (fun _ => rfl) ?_
            obtain ⟨_, hE19, N20, rfl, hE21, hk22, hf23⟩ := ev_X7_refuses (E := E) (d := d) (by omega) hm 1 8 (by omega)
            have EN20 : g_rE N20 m (1, 8, -4, -4, -4) := hE21
            have hMN20 : g_rM (N20 (m + 1)) ((P, n, q, p, cl, tn), (t, bg, en, ca), (gn, pu, mk), H) := by rw [hf23 (m + 1) (by omega)]; exact hMN5
            have rN20 : g_rR ((N20) (m + 1)) P n q p cl tn := hMN20.1
            have zN20 : g_rZ ((N20) (m + 1)) t (t % 2) (t / 4) bg en ca gn pu mk := hMN20.2.1
            have sN20 : g_rS ((N20) (m + 1)) t bg en ca gn pu mk := zN20
            have DN20 : g_rD ((N20) (m + 1)) (m_D H) := hMN20.2.2.1
            have pN20 : (bg : Int) = 0 → (N20) (m + 1) 6 = m_cnt P 0 ∧ (N20) (m + 1) 7 = m_cnt P 1 := hMN20.2.2.2
            have hKN20 := g_rK_fr hKN5 (N' := N20) (hk22 6 (by omega)) (hf23 (m + 2) (by omega))
            have hVN20 := g_rW_fr hVN5 (N' := N20) (hk22 5 (by omega)) (hf23 (m + 3) (by omega))
            have hTN20 := g_rTm_fr hTN5 (N' := N20) (hk22 14 (by omega)) (hf23 (m + 6) (by omega))
            have hLN20 := g_rLm_fr hLN5 (N' := N20) (hk22 16 (by omega)) (hf23 (m + 7) (by omega))
            have h7N20 := (hk22 7 (by omega)).trans h7N5
            have frN20 : ∀ a, ¬ (m ≤ a ∧ a < m + 9) → (N20) a = N a := fun a ha => (hf23 a (by omega)).trans (frN5 a ha)
            refine AR.callV [vI 1, vI 8] hE19 hm.1 rfl rfl rfl rfl rfl ?_
            show AR E d _ (62, [some (vA m), some (vI w), some (vI k), some (vI s)], [vI (-3)], (C, N20)) _
            have eb := (cb4 (m_cnt P w) 8).trans (if_neg (by omega))
            refine AR.endI rfl (.inl rfl) ?_
            have e9 : o_put (((P, n, q, p, cl, tn), (t, bg, en, ca), (gn, pu, mk), H), U, V, F, (L, T), (l, ln)) w k s = (-3, (((P, n, q, p, cl, tn), (t, bg, en, ca), (gn, pu, mk), H), U, V, (1, 8, -4, -4, -4), (L, T), (l, ln))) := by unfold o_put <;> (try dsimp only) <;> (rw [eb] <;> (try dsimp only) <;> (repeat (first | rw [if_pos (by omega)] | rw [if_neg (by omega)]))) <;> rfl
            rw [e9]
            exact ⟨_, rfl, ⟨hMN20, hKN20, hVN20, EN20, hTN20, hLN20, h7N20⟩, frN20⟩
        · show AR E d _ (38, [some (vA m), some (vI w), some (vI k), some (vI s)], [], (C, N5)) _
          have cc : ∀ u z, m_beF ((P, n, q, p, cl, tn), (t, bg, en, ca), (gn, pu, mk), H) F s u z = (-3, (m_cbF ((P, n, q, p, cl, tn), (t, bg, en, ca), (gn, pu, mk), H) F s).2) := ((m_cbF_in ((P, n, q, p, cl, tn), (t, bg, en, ca), (gn, pu, mk), H) F s).resolve_left (fun z => by have z2 := z.1; omega)).2
          refine AR.blk 1 (f' := (40, [some (vA m), some (vI w), some (vI k), some (vI s)], [vI (-3)], (C, N5))) (fun _ => rfl) ?_
          have eb := cc (m_cnt P w) 8
          refine AR.endI rfl (.inl rfl) ?_
          have e9 : o_put (((P, n, q, p, cl, tn), (t, bg, en, ca), (gn, pu, mk), H), U, V, F, (L, T), (l, ln)) w k s = ((-3), (((P, n, q, p, cl, tn), (t, bg, en, ca), (gn, pu, mk), H), U, V, (m_cbF ((P, n, q, p, cl, tn), (t, bg, en, ca), (gn, pu, mk), H) F s).2, (L, T), (l, ln))) := by unfold o_put <;> (try dsimp only) <;> (rw [eb] <;> (try dsimp only) <;> (repeat (first | rw [if_pos (by omega)] | rw [if_neg (by omega)]))) <;> rfl
          rw [e9]
          exact ⟨_, rfl, ⟨hMN5, hKN5, hVN5, EN5, hTN5, hLN5, h7N5⟩, frN5⟩
      · show AR E d _ (27, [some (vA m), some (vI w), some (vI k), some (vI s)], [], (C, N)) _
        refine AR.blk 1 (f' := (29, [some (vA m), some (vI w), some (vI k), some (vI s)], [vI (-2)], (C, N))) (fun _ => rfl) ?_
        refine AR.endI rfl (.inl rfl) ?_
        have e9 : o_put (((P, n, q, p, cl, tn), (t, bg, en, ca), (gn, pu, mk), H), U, V, F, (L, T), (l, ln)) w k s = ((-2), (((P, n, q, p, cl, tn), (t, bg, en, ca), (gn, pu, mk), H), U, V, F, (L, T), (l, ln))) := by unfold o_put <;> (try dsimp only) <;> ((repeat (first | rw [if_pos (by omega)] | rw [if_neg (by omega)]))) <;> rfl
        rw [e9]
        exact ⟨_, rfl, ⟨hM, hK, hV, hE, hT, hL, h7⟩, (fun _ _ => rfl)⟩
  · show AR E d _ (7, [some (vA m), some (vI w), some (vI k), some (vI s)], [], (C, N)) _
    refine AR.blk 1 (f' := (8, [some (vA m), some (vI w), some (vI k), some (vI s)], [vI (-1)], (C, N))) (fun _ => rfl) ?_
    refine AR.endI rfl (.inl rfl) ?_
    have e9 : o_put (((P, n, q, p, cl, tn), (t, bg, en, ca), (gn, pu, mk), H), U, V, F, (L, T), (l, ln)) w k s = ((-1), (((P, n, q, p, cl, tn), (t, bg, en, ca), (gn, pu, mk), H), U, V, F, (L, T), (l, ln))) := by unfold o_put <;> (try dsimp only) <;> ((repeat (first | rw [if_pos (by omega)] | rw [if_neg (by omega)]))) <;> rfl
    rw [e9]
    exact ⟨_, rfl, ⟨hM, hK, hV, hE, hT, hL, h7⟩, (fun _ _ => rfl)⟩

theorem ev_X7_lock {d : Nat} (hd : 4 ≤ d) {G : m_G} {U : List m_G} {V : Option m_G} {F : m_F} {L : Int} {T : Int → Int} {l : Int} {ln : Int → Int} (hm : g_isM C m) (hY : g_rY N m (G, U, V, F, (L, T), (l, ln))) (hS : g_vS (G, U, V, F, (L, T), (l, ln))) (s y : Int) (h0 : ag_in s) (h1 : ag_in y) : ∃ o_, Ev E d 121 [vA m, vI s, vI y] (C, N) o_ ∧ g_QY C N m (o_lock (G, U, V, F, (L, T), (l, ln)) s y) o_ := by
  obtain ⟨d, rfl⟩ : ∃ j, d = j + 1 := ⟨d - 1, by omega⟩
  obtain ⟨⟨P, n, q, p, cl, tn⟩, ⟨t, bg, en, ca⟩, ⟨gn, pu, mk⟩, H⟩ := G
  have hM : g_rM (N (m + 1)) ((P, n, q, p, cl, tn), (t, bg, en, ca), (gn, pu, mk), H) := hY.1
  have hK : g_rK N m U := hY.2.1
  have hV : g_rW N m V := hY.2.2.1
  have hE : g_rE N m F := hY.2.2.2.1
  have hT : g_rTm N m L T := hY.2.2.2.2.1
  have hL : g_rLm N m l ln := hY.2.2.2.2.2.1
  have h7 : N m 7 = 0 := hY.2.2.2.2.2.2
  have hvG : g_vG ((P, n, q, p, cl, tn), (t, bg, en, ca), (gn, pu, mk), H) := hS.1
  have hw : g_wB P n q p cl tn := hvG.1.1
  have hwH : g_wH H := hvG.1.2.1
  have hv : g_wS t bg en ca gn pu mk := hvG.1.2.2
  have w1 := hv.1
  have w2 := hv.2.1
  have w3 := hv.2.2.1
  have w4 := hv.2.2.2.1
  have w6 := hv.2.2.2.2.2
  have w7 := hw.2.2.1
  have hwL : 0 ≤ L ∧ L ≤ 70 := hS.2.2.2.1
  have hwl : 0 ≤ l ∧ l ≤ 6 := hS.2.2.2.2.2
  have k8 := hK.2.1
  have r0 : g_rR (N (m + 1)) P n q p cl tn := hM.1
  have z0 : g_rZ (N (m + 1)) t (t % 2) (t / 4) bg en ca gn pu mk := hM.2.1
  have s0 : g_rS (N (m + 1)) t bg en ca gn pu mk := z0
  have D0 : g_rD (N (m + 1)) (m_D H) := hM.2.2.1
  have p0 : (bg : Int) = 0 → N (m + 1) 6 = m_cnt P 0 ∧ N (m + 1) 7 = m_cnt P 1 := hM.2.2.2
  refine Ev.introQ (M := ag_mX7_lock) rfl rfl ?_
  show AR E d _ (0, [some (vA m), some (vI s), some (vI y), none], [], (C, N)) _
  refine AR.blk 1 (f' := (1, [some (vA m), some (vI s), some (vI y), none], [vI s], (C, N))) (fun _ => rfl) ?_
  refine AR.callS [vI s] (ev_X7_isSquare (by omega) s (by omega)) rfl rfl rfl rfl rfl ?_
  show AR E d _ (4, [some (vA m), some (vI s), some (vI y), none], [vI (if 0 ≤ s ∧ s ≤ 35 then 1 else 0)], (C, N)) _
  refine AR.if_ne rfl (by omega) (fun c1 => ?_) (fun c1 => ?_)
  · show AR E d _ (9, [some (vA m), some (vI s), some (vI y), none], [], (C, N)) _
    refine AR.blk 3 (f' := (12, [some (vA m), some (vI s), some (vI y), none], [vI 5, vI 2, vI y], (C, N))) (fun _ => rfl) ?_
    refine AR.callS [vI y, vI 2, vI 5] (ev_X7_in (by omega) y 2 5 (by omega)) rfl rfl rfl rfl rfl ?_
    show AR E d _ (15, [some (vA m), some (vI s), some (vI y), none], [vI (if 2 ≤ y ∧ y ≤ 5 then 1 else 0)], (C, N)) _
    refine AR.if_ne rfl (by omega) (fun c2 => ?_) (fun c2 => ?_)
    · show AR E d _ (21, [some (vA m), some (vI s), some (vI y), none], [], (C, N)) _
      refine AR.blk 2 (f' := (23, [some (vA m), some (vI s), some (vI y), none], [vI s, vA m], (C, N))) (fun _ => rfl) ?_
      obtain ⟨_, hE3, N4, rfl, hE5, hk6, hf7⟩ := ev_X7_cannotBuild (E := E) (d := d) (by omega) hm hM hvG hE s (by omega)
      have EN4 : g_rE N4 m (m_cbF ((P, n, q, p, cl, tn), (t, bg, en, ca), (gn, pu, mk), H) F s).2 := hE5
      have hMN4 : g_rM (N4 (m + 1)) ((P, n, q, p, cl, tn), (t, bg, en, ca), (gn, pu, mk), H) := by rw [hf7 (m + 1) (by omega)]; exact hM
      have rN4 : g_rR ((N4) (m + 1)) P n q p cl tn := hMN4.1
      have zN4 : g_rZ ((N4) (m + 1)) t (t % 2) (t / 4) bg en ca gn pu mk := hMN4.2.1
      have sN4 : g_rS ((N4) (m + 1)) t bg en ca gn pu mk := zN4
      have DN4 : g_rD ((N4) (m + 1)) (m_D H) := hMN4.2.2.1
      have pN4 : (bg : Int) = 0 → (N4) (m + 1) 6 = m_cnt P 0 ∧ (N4) (m + 1) 7 = m_cnt P 1 := hMN4.2.2.2
      have hKN4 := g_rK_fr hK (N' := N4) (hk6 6 (by omega)) (hf7 (m + 2) (by omega))
      have hVN4 := g_rW_fr hV (N' := N4) (hk6 5 (by omega)) (hf7 (m + 3) (by omega))
      have hTN4 := g_rTm_fr hT (N' := N4) (hk6 14 (by omega)) (hf7 (m + 6) (by omega))
      have hLN4 := g_rLm_fr hL (N' := N4) (hk6 16 (by omega)) (hf7 (m + 7) (by omega))
      have h7N4 := (hk6 7 (by omega)).trans h7
      have frN4 : ∀ a, ¬ (m ≤ a ∧ a < m + 9) → (N4) a = N a := fun a ha => (hf7 a (by omega)).trans ((fun _ _ => rfl) a ha)
      refine AR.callV [vI s] hE3 hm.1 rfl rfl rfl rfl rfl ?_
      show AR E d _ (26, [some (vA m), some (vI s), some (vI y), none], [vI ((m_cbF ((P, n, q, p, cl, tn), (t, bg, en, ca), (gn, pu, mk), H) F s).1)], (C, N4)) _
      have f8 := m_cb01 ((P, n, q, p, cl, tn), (t, bg, en, ca), (gn, pu, mk), H) F s
      refine AR.if_eq rfl (by omega) (fun c9 => ?_) (fun c9 => ?_)
      · show AR E d _ (32, [some (vA m), some (vI s), some (vI y), none], [], (C, N4)) _
        have cb := (m_cbF_in ((P, n, q, p, cl, tn), (t, bg, en, ca), (gn, pu, mk), H) F s).resolve_right (fun z => by have z2 := z.1; omega)
        have E8 : g_rE N4 m F := by have z := EN4; rw [cb.2.1] at z; exact z
        have cb1 : bg ≠ 1 := cb.2.2.1.1
        have cb2 : P s = -1 := cb.2.2.1.2.1
        have cb3 : m_la n q s = -1 := cb.2.2.1.2.2
        have cb4 : ∀ u z, m_beF ((P, n, q, p, cl, tn), (t, bg, en, ca), (gn, pu, mk), H) F s u z = if u < z then (0, F) else (-3, (1, z, -4, -4, -4)) := cb.2.2.2
        have v0 := hvG.2.1 (show bg = 0 by omega)
        refine AR.blk 1 (f' := (33, [some (vA m), some (vI s), some (vI y), none], [vA m], (C, N4))) (fun _ => rfl) ?_
        refine AR.getR rfl rfl hm.1 (by decide) rfl ?_
        refine AR.blk 1 (f' := (38, [some (vA m), some (vI s), some (vI y), none], [vI 14, vA (m + 1)], (C, N4))) (fun _ => rfl) ?_
        have f10 := hw.2.2.1
        refine AR.iald rfl hm.2.1 (by omega) (v := n) rN4.2.1 ?_
        refine AR.blk 1 (f' := (40, [some (vA m), some (vI s), some (vI y), none], [vI 4, vI n], (C, N4))) (fun _ => rfl) ?_
        refine AR.ic_ne rfl (by omega) (fun c11 => ?_) (fun c11 => ?_)
        · show AR E d _ (50, [some (vA m), some (vI s), some (vI y), none], [], (C, N4)) _
          refine AR.blk 2 (f' := (52, [some (vA m), some (vI s), some (vI y), none], [vA m, vA m], (C, N4))) (fun _ => rfl) ?_
          refine AR.getR rfl rfl hm.1 (by decide) rfl ?_
          obtain ⟨_, hE12, N13, rfl, hK14, hk15, hf16⟩ := ev_X7_keeps1 (E := E) (d := d) (by omega) hm h7N4 hKN4 hS.2.1 hm.2.1 (by omega) hMN4 hvG
          have KN13 : g_rK N13 m ((((P, n, q, p, cl, tn), (t, bg, en, ca), (gn, pu, mk), H) :: U).take 8) := hK14
          have hMN13 : g_rM (N13 (m + 1)) ((P, n, q, p, cl, tn), (t, bg, en, ca), (gn, pu, mk), H) := by rw [hf16 (m + 1) (by omega)]; exact hMN4
          have rN13 : g_rR ((N13) (m + 1)) P n q p cl tn := hMN13.1
          have zN13 : g_rZ ((N13) (m + 1)) t (t % 2) (t / 4) bg en ca gn pu mk := hMN13.2.1
          have sN13 : g_rS ((N13) (m + 1)) t bg en ca gn pu mk := zN13
          have DN13 : g_rD ((N13) (m + 1)) (m_D H) := hMN13.2.2.1
          have pN13 : (bg : Int) = 0 → (N13) (m + 1) 6 = m_cnt P 0 ∧ (N13) (m + 1) 7 = m_cnt P 1 := hMN13.2.2.2
          have hVN13 := g_rW_fr hVN4 (N' := N13) (hk15 5 (by omega)) (hf16 (m + 3) (by omega))
          have hEN13 := g_rE_fr E8 (N' := N13) (fun k z0 z1 => hk15 k (by omega))
          have hTN13 := g_rTm_fr hTN4 (N' := N13) (hk15 14 (by omega)) (hf16 (m + 6) (by omega))
          have hLN13 := g_rLm_fr hLN4 (N' := N13) (hk15 16 (by omega)) (hf16 (m + 7) (by omega))
          have h7N13 := (hk15 7 (by omega)).trans h7N4
          have frN13 : ∀ a, ¬ (m ≤ a ∧ a < m + 9) → (N13) a = N a := fun a ha => (hf16 a (by omega)).trans (frN4 a ha)
          refine AR.callV [vA (m + 1)] hE12 hm.1 rfl rfl rfl rfl rfl ?_
          show AR E d _ (58, [some (vA m), some (vI s), some (vI y), none], [], (C, N13)) _
          refine AR.blk 3 (f' := (62, [some (vA m), some (vI s), some (vI y), none], [vA m, vI 4, vI 15], (C, N13))) (fun _ => rfl) ?_
          refine AR.getR rfl rfl hm.1 (by decide) rfl ?_
          refine AR.blk 1 (f' := (67, [some (vA m), some (vI s), some (vI y), none], [vI 14, vA (m + 1), vI 4, vI 15], (C, N13))) (fun _ => rfl) ?_
          have f17 := hw.2.2.1
          refine AR.iald rfl hm.2.1 (by omega) (v := n) rN13.2.1 ?_
          refine AR.blk 4 (f' := (72, [some (vA m), some (vI s), some (vI y), some (vI (15 + (4 * n)))], [vA m], (C, N13))) (fun _ => rfl) ?_
          refine AR.getR rfl rfl hm.1 (by decide) rfl ?_
          refine AR.blk 2 (f' := (77, [some (vA m), some (vI s), some (vI y), some (vI (15 + (4 * n)))], [vI s, vI (15 + (4 * n)), vA (m + 1)], (C, N13))) (fun _ => rfl) ?_
          refine AR.iast rfl hm.2.1 (by omega) ?_
          refine AR.blk 1 (f' := (79, [some (vA m), some (vI s), some (vI y), some (vI (15 + (4 * n)))], [vA m], (C, ag_upd N13 (m + 1) (15 + (4 * n)) s))) (fun _ => rfl) ?_
          refine AR.getR rfl rfl hm.1 (by decide) rfl ?_
          refine AR.blk 4 (f' := (86, [some (vA m), some (vI s), some (vI y), some (vI (15 + (4 * n)))], [vI y, vI ((15 + (4 * n)) + 1), vA (m + 1)], (C, ag_upd N13 (m + 1) (15 + (4 * n)) s))) (fun _ => rfl) ?_
          refine AR.iast rfl hm.2.1 (by omega) ?_
          refine AR.blk 1 (f' := (88, [some (vA m), some (vI s), some (vI y), some (vI (15 + (4 * n)))], [vA m], (C, ag_upd (ag_upd N13 (m + 1) (15 + (4 * n)) s) (m + 1) ((15 + (4 * n)) + 1) y))) (fun _ => rfl) ?_
          refine AR.getR rfl rfl hm.1 (by decide) rfl ?_
          refine AR.blk 4 (f' := (95, [some (vA m), some (vI s), some (vI y), some (vI (15 + (4 * n)))], [vI 0, vI ((15 + (4 * n)) + 2), vA (m + 1)], (C, ag_upd (ag_upd N13 (m + 1) (15 + (4 * n)) s) (m + 1) ((15 + (4 * n)) + 1) y))) (fun _ => rfl) ?_
          refine AR.iast rfl hm.2.1 (by omega) ?_
          refine AR.blk 1 (f' := (97, [some (vA m), some (vI s), some (vI y), some (vI (15 + (4 * n)))], [vA m], (C, ag_upd (ag_upd (ag_upd N13 (m + 1) (15 + (4 * n)) s) (m + 1) ((15 + (4 * n)) + 1) y) (m + 1) ((15 + (4 * n)) + 2) 0))) (fun _ => rfl) ?_
          refine AR.getR rfl rfl hm.1 (by decide) rfl ?_
          refine AR.blk 4 (f' := (104, [some (vA m), some (vI s), some (vI y), some (vI (15 + (4 * n)))], [vI 0, vI ((15 + (4 * n)) + 3), vA (m + 1)], (C, ag_upd (ag_upd (ag_upd N13 (m + 1) (15 + (4 * n)) s) (m + 1) ((15 + (4 * n)) + 1) y) (m + 1) ((15 + (4 * n)) + 2) 0))) (fun _ => rfl) ?_
          refine AR.iast rfl hm.2.1 (by omega) ?_
          refine AR.blk 1 (f' := (106, [some (vA m), some (vI s), some (vI y), some (vI (15 + (4 * n)))], [vA m], (C, ag_upd (ag_upd (ag_upd (ag_upd N13 (m + 1) (15 + (4 * n)) s) (m + 1) ((15 + (4 * n)) + 1) y) (m + 1) ((15 + (4 * n)) + 2) 0) (m + 1) ((15 + (4 * n)) + 3) 0))) (fun _ => rfl) ?_
          refine AR.getR rfl rfl hm.1 (by decide) rfl ?_
          refine AR.blk 2 (f' := (112, [some (vA m), some (vI s), some (vI y), some (vI (15 + (4 * n)))], [vI 14, vA (m + 1), vI 14, vA (m + 1)], (C, ag_upd (ag_upd (ag_upd (ag_upd N13 (m + 1) (15 + (4 * n)) s) (m + 1) ((15 + (4 * n)) + 1) y) (m + 1) ((15 + (4 * n)) + 2) 0) (m + 1) ((15 + (4 * n)) + 3) 0))) (fun _ => rfl) ?_
          refine AR.iald rfl hm.2.1 (by omega) (v := n) ((ag_upd_nk (by omega)).trans ((ag_upd_nk (by omega)).trans ((ag_upd_nk (by omega)).trans ((ag_upd_nk (by omega)).trans rN13.2.1)))) ?_
          refine AR.blk 2 (f' := (115, [some (vA m), some (vI s), some (vI y), some (vI (15 + (4 * n)))], [vI (n + 1), vI 14, vA (m + 1)], (C, ag_upd (ag_upd (ag_upd (ag_upd N13 (m + 1) (15 + (4 * n)) s) (m + 1) ((15 + (4 * n)) + 1) y) (m + 1) ((15 + (4 * n)) + 2) 0) (m + 1) ((15 + (4 * n)) + 3) 0))) (fun _ => rfl) ?_
          refine AR.iast rfl hm.2.1 (by omega) ?_
          have fQ1 : ∀ a, a ≠ m + 1 → (ag_upd (ag_upd (ag_upd (ag_upd (ag_upd N13 (m + 1) (15 + (4 * n)) s) (m + 1) ((15 + (4 * n)) + 1) y) (m + 1) ((15 + (4 * n)) + 2) 0) (m + 1) ((15 + (4 * n)) + 3) 0) (m + 1) 14 (n + 1)) a = N13 a := fun a ha => (ag_upd_ne ha).trans ((ag_upd_ne ha).trans ((ag_upd_ne ha).trans ((ag_upd_ne ha).trans (ag_upd_ne ha))))
          have kQ1 : ∀ kk_ : Int, kk_ = kk_ → (ag_upd (ag_upd (ag_upd (ag_upd (ag_upd N13 (m + 1) (15 + (4 * n)) s) (m + 1) ((15 + (4 * n)) + 1) y) (m + 1) ((15 + (4 * n)) + 2) 0) (m + 1) ((15 + (4 * n)) + 3) 0) (m + 1) 14 (n + 1)) m kk_ = N13 m kk_ := fun kk_ _ => congrFun (fQ1 m (by omega)) kk_
          have hKQ1 := g_rK_fr KN13 (N' := ag_upd (ag_upd (ag_upd (ag_upd (ag_upd N13 (m + 1) (15 + (4 * n)) s) (m + 1) ((15 + (4 * n)) + 1) y) (m + 1) ((15 + (4 * n)) + 2) 0) (m + 1) ((15 + (4 * n)) + 3) 0) (m + 1) 14 (n + 1)) (kQ1 6 (by omega)) (fQ1 (m + 2) (by omega))
          have hVQ1 := g_rW_fr hVN13 (N' := ag_upd (ag_upd (ag_upd (ag_upd (ag_upd N13 (m + 1) (15 + (4 * n)) s) (m + 1) ((15 + (4 * n)) + 1) y) (m + 1) ((15 + (4 * n)) + 2) 0) (m + 1) ((15 + (4 * n)) + 3) 0) (m + 1) 14 (n + 1)) (kQ1 5 (by omega)) (fQ1 (m + 3) (by omega))
          have hEQ1 := g_rE_fr hEN13 (N' := ag_upd (ag_upd (ag_upd (ag_upd (ag_upd N13 (m + 1) (15 + (4 * n)) s) (m + 1) ((15 + (4 * n)) + 1) y) (m + 1) ((15 + (4 * n)) + 2) 0) (m + 1) ((15 + (4 * n)) + 3) 0) (m + 1) 14 (n + 1)) (fun k z0 z1 => kQ1 k (by omega))
          have hTQ1 := g_rTm_fr hTN13 (N' := ag_upd (ag_upd (ag_upd (ag_upd (ag_upd N13 (m + 1) (15 + (4 * n)) s) (m + 1) ((15 + (4 * n)) + 1) y) (m + 1) ((15 + (4 * n)) + 2) 0) (m + 1) ((15 + (4 * n)) + 3) 0) (m + 1) 14 (n + 1)) (kQ1 14 (by omega)) (fQ1 (m + 6) (by omega))
          have hLQ1 := g_rLm_fr hLN13 (N' := ag_upd (ag_upd (ag_upd (ag_upd (ag_upd N13 (m + 1) (15 + (4 * n)) s) (m + 1) ((15 + (4 * n)) + 1) y) (m + 1) ((15 + (4 * n)) + 2) 0) (m + 1) ((15 + (4 * n)) + 3) 0) (m + 1) 14 (n + 1)) (kQ1 16 (by omega)) (fQ1 (m + 7) (by omega))
          have h7Q1 := (kQ1 7 (by omega)).trans h7N13
          have frQ1 : ∀ a, ¬ (m ≤ a ∧ a < m + 9) → (ag_upd (ag_upd (ag_upd (ag_upd (ag_upd N13 (m + 1) (15 + (4 * n)) s) (m + 1) ((15 + (4 * n)) + 1) y) (m + 1) ((15 + (4 * n)) + 2) 0) (m + 1) ((15 + (4 * n)) + 3) 0) (m + 1) 14 (n + 1)) a = N a := fun a ha => (fQ1 a (by omega)).trans (frN13 a ha)
          have hMQ1 : g_rM ((ag_upd (ag_upd (ag_upd (ag_upd (ag_upd N13 (m + 1) (15 + (4 * n)) s) (m + 1) ((15 + (4 * n)) + 1) y) (m + 1) ((15 + (4 * n)) + 2) 0) (m + 1) ((15 + (4 * n)) + 3) 0) (m + 1) 14 (n + 1)) (m + 1)) ((P, n + 1, m_set q n s, m_set p n y, m_set cl n 0, m_set tn n 0), (t, bg, en, ca), (gn, pu, mk), H) := g_rM_lok hMN13 ⟨rfl, (show 0 ≤ n by omega), (show n < 4 by omega)⟩ rfl
          have rQ1 : g_rR ((ag_upd (ag_upd (ag_upd (ag_upd (ag_upd N13 (m + 1) (15 + (4 * n)) s) (m + 1) ((15 + (4 * n)) + 1) y) (m + 1) ((15 + (4 * n)) + 2) 0) (m + 1) ((15 + (4 * n)) + 3) 0) (m + 1) 14 (n + 1)) (m + 1)) P (n + 1) (m_set q n s) (m_set p n y) (m_set cl n 0) (m_set tn n 0) := hMQ1.1
          have zQ1 : g_rZ ((ag_upd (ag_upd (ag_upd (ag_upd (ag_upd N13 (m + 1) (15 + (4 * n)) s) (m + 1) ((15 + (4 * n)) + 1) y) (m + 1) ((15 + (4 * n)) + 2) 0) (m + 1) ((15 + (4 * n)) + 3) 0) (m + 1) 14 (n + 1)) (m + 1)) t (t % 2) (t / 4) bg en ca gn pu mk := hMQ1.2.1
          have sQ1 : g_rS ((ag_upd (ag_upd (ag_upd (ag_upd (ag_upd N13 (m + 1) (15 + (4 * n)) s) (m + 1) ((15 + (4 * n)) + 1) y) (m + 1) ((15 + (4 * n)) + 2) 0) (m + 1) ((15 + (4 * n)) + 3) 0) (m + 1) 14 (n + 1)) (m + 1)) t bg en ca gn pu mk := zQ1
          have DQ1 : g_rD ((ag_upd (ag_upd (ag_upd (ag_upd (ag_upd N13 (m + 1) (15 + (4 * n)) s) (m + 1) ((15 + (4 * n)) + 1) y) (m + 1) ((15 + (4 * n)) + 2) 0) (m + 1) ((15 + (4 * n)) + 3) 0) (m + 1) 14 (n + 1)) (m + 1)) (m_D H) := hMQ1.2.2.1
          have pQ1 : (bg : Int) = 0 → (ag_upd (ag_upd (ag_upd (ag_upd (ag_upd N13 (m + 1) (15 + (4 * n)) s) (m + 1) ((15 + (4 * n)) + 1) y) (m + 1) ((15 + (4 * n)) + 2) 0) (m + 1) ((15 + (4 * n)) + 3) 0) (m + 1) 14 (n + 1)) (m + 1) 6 = m_cnt P 0 ∧ (ag_upd (ag_upd (ag_upd (ag_upd (ag_upd N13 (m + 1) (15 + (4 * n)) s) (m + 1) ((15 + (4 * n)) + 1) y) (m + 1) ((15 + (4 * n)) + 2) 0) (m + 1) ((15 + (4 * n)) + 3) 0) (m + 1) 14 (n + 1)) (m + 1) 7 = m_cnt P 1 := hMQ1.2.2.2
          refine AR.blk 1 (f' := (117, [some (vA m), some (vI s), some (vI y), some (vI (15 + (4 * n)))], [vA m], (C, ag_upd (ag_upd (ag_upd (ag_upd (ag_upd N13 (m + 1) (15 + (4 * n)) s) (m + 1) ((15 + (4 * n)) + 1) y) (m + 1) ((15 + (4 * n)) + 2) 0) (m + 1) ((15 + (4 * n)) + 3) 0) (m + 1) 14 (n + 1)))) (fun _ => rfl) ?_
          refine AR.getR rfl rfl hm.1 (by decide) rfl ?_
          refine AR.blk 1 (f' := (122, [some (vA m), some (vI s), some (vI y), some (vI (15 + (4 * n)))], [vI 14, vA (m + 1)], (C, ag_upd (ag_upd (ag_upd (ag_upd (ag_upd N13 (m + 1) (15 + (4 * n)) s) (m + 1) ((15 + (4 * n)) + 1) y) (m + 1) ((15 + (4 * n)) + 2) 0) (m + 1) ((15 + (4 * n)) + 3) 0) (m + 1) 14 (n + 1)))) (fun _ => rfl) ?_
          refine AR.iald rfl hm.2.1 (by omega) (v := n + 1) ag_upd_eq ?_
          refine AR.blk 2 (f' := (125, [some (vA m), some (vI s), some (vI y), some (vI (15 + (4 * n)))], [vI ((n + 1) - 1)], (C, ag_upd (ag_upd (ag_upd (ag_upd (ag_upd N13 (m + 1) (15 + (4 * n)) s) (m + 1) ((15 + (4 * n)) + 1) y) (m + 1) ((15 + (4 * n)) + 2) 0) (m + 1) ((15 + (4 * n)) + 3) 0) (m + 1) 14 (n + 1)))) (fun _ => rfl) ?_
          have eb := (cb4 n 4).trans (if_pos (by omega))
          rw [show (n + 1) - 1 = n by omega]
          refine AR.endI rfl (.inl rfl) ?_
          have e9 : o_lock (((P, n, q, p, cl, tn), (t, bg, en, ca), (gn, pu, mk), H), U, V, F, (L, T), (l, ln)) s y = (n, (((P, n + 1, m_set q n s, m_set p n y, m_set cl n 0, m_set tn n 0), (t, bg, en, ca), (gn, pu, mk), H), ((((P, n, q, p, cl, tn), (t, bg, en, ca), (gn, pu, mk), H) :: U).take 8), V, F, (L, T), (l, ln))) := by unfold o_lock <;> (try dsimp only) <;> (rw [eb] <;> (try dsimp only) <;> (repeat (first | rw [if_pos (by omega)] | rw [if_neg (by omega)]))) <;> rfl
          rw [e9]
          exact ⟨_, rfl, ⟨hMQ1, hKQ1, hVQ1, hEQ1, hTQ1, hLQ1, h7Q1⟩, frQ1⟩
        · show AR E d _ (43, [some (vA m), some (vI s), some (vI y), none], [], (C, N4)) _
          refine AR.blk 3 (f' := (46, [some (vA m), some (vI s), some (vI y), none], [vI 4, vI 1, vA m], (C, N4))) (fun _ => rfl) ?_
          obtain ⟨_, hE18, N19, rfl, hE20, hk21, hf22⟩ := ev_X7_refuses (E := E) (d := d) (by omega) hm 1 4 (by omega)
          have EN19 : g_rE N19 m (1, 4, -4, -4, -4) := hE20
          have hMN19 : g_rM (N19 (m + 1)) ((P, n, q, p, cl, tn), (t, bg, en, ca), (gn, pu, mk), H) := by rw [hf22 (m + 1) (by omega)]; exact hMN4
          have rN19 : g_rR ((N19) (m + 1)) P n q p cl tn := hMN19.1
          have zN19 : g_rZ ((N19) (m + 1)) t (t % 2) (t / 4) bg en ca gn pu mk := hMN19.2.1
          have sN19 : g_rS ((N19) (m + 1)) t bg en ca gn pu mk := zN19
          have DN19 : g_rD ((N19) (m + 1)) (m_D H) := hMN19.2.2.1
          have pN19 : (bg : Int) = 0 → (N19) (m + 1) 6 = m_cnt P 0 ∧ (N19) (m + 1) 7 = m_cnt P 1 := hMN19.2.2.2
          have hKN19 := g_rK_fr hKN4 (N' := N19) (hk21 6 (by omega)) (hf22 (m + 2) (by omega))
          have hVN19 := g_rW_fr hVN4 (N' := N19) (hk21 5 (by omega)) (hf22 (m + 3) (by omega))
          have hTN19 := g_rTm_fr hTN4 (N' := N19) (hk21 14 (by omega)) (hf22 (m + 6) (by omega))
          have hLN19 := g_rLm_fr hLN4 (N' := N19) (hk21 16 (by omega)) (hf22 (m + 7) (by omega))
          have h7N19 := (hk21 7 (by omega)).trans h7N4
          have frN19 : ∀ a, ¬ (m ≤ a ∧ a < m + 9) → (N19) a = N a := fun a ha => (hf22 a (by omega)).trans (frN4 a ha)
          refine AR.callV [vI 1, vI 4] hE18 hm.1 rfl rfl rfl rfl rfl ?_
          show AR E d _ (49, [some (vA m), some (vI s), some (vI y), none], [vI (-3)], (C, N19)) _
          have eb := (cb4 n 4).trans (if_neg (by omega))
          refine AR.endI rfl (.inl rfl) ?_
          have e9 : o_lock (((P, n, q, p, cl, tn), (t, bg, en, ca), (gn, pu, mk), H), U, V, F, (L, T), (l, ln)) s y = (-3, (((P, n, q, p, cl, tn), (t, bg, en, ca), (gn, pu, mk), H), U, V, (1, 4, -4, -4, -4), (L, T), (l, ln))) := by unfold o_lock <;> (try dsimp only) <;> (rw [eb] <;> (try dsimp only) <;> (repeat (first | rw [if_pos (by omega)] | rw [if_neg (by omega)]))) <;> rfl
          rw [e9]
          exact ⟨_, rfl, ⟨hMN19, hKN19, hVN19, EN19, hTN19, hLN19, h7N19⟩, frN19⟩
      · show AR E d _ (29, [some (vA m), some (vI s), some (vI y), none], [], (C, N4)) _
        have cc : ∀ u z, m_beF ((P, n, q, p, cl, tn), (t, bg, en, ca), (gn, pu, mk), H) F s u z = (-3, (m_cbF ((P, n, q, p, cl, tn), (t, bg, en, ca), (gn, pu, mk), H) F s).2) := ((m_cbF_in ((P, n, q, p, cl, tn), (t, bg, en, ca), (gn, pu, mk), H) F s).resolve_left (fun z => by have z2 := z.1; omega)).2
        refine AR.blk 1 (f' := (31, [some (vA m), some (vI s), some (vI y), none], [vI (-3)], (C, N4))) (fun _ => rfl) ?_
        have eb := cc n 4
        refine AR.endI rfl (.inl rfl) ?_
        have e9 : o_lock (((P, n, q, p, cl, tn), (t, bg, en, ca), (gn, pu, mk), H), U, V, F, (L, T), (l, ln)) s y = ((-3), (((P, n, q, p, cl, tn), (t, bg, en, ca), (gn, pu, mk), H), U, V, (m_cbF ((P, n, q, p, cl, tn), (t, bg, en, ca), (gn, pu, mk), H) F s).2, (L, T), (l, ln))) := by unfold o_lock <;> (try dsimp only) <;> (rw [eb] <;> (try dsimp only) <;> (repeat (first | rw [if_pos (by omega)] | rw [if_neg (by omega)]))) <;> rfl
        rw [e9]
        exact ⟨_, rfl, ⟨hMN4, hKN4, hVN4, EN4, hTN4, hLN4, h7N4⟩, frN4⟩
    · show AR E d _ (18, [some (vA m), some (vI s), some (vI y), none], [], (C, N)) _
      refine AR.blk 1 (f' := (20, [some (vA m), some (vI s), some (vI y), none], [vI (-2)], (C, N))) (fun _ => rfl) ?_
      refine AR.endI rfl (.inl rfl) ?_
      have e9 : o_lock (((P, n, q, p, cl, tn), (t, bg, en, ca), (gn, pu, mk), H), U, V, F, (L, T), (l, ln)) s y = ((-2), (((P, n, q, p, cl, tn), (t, bg, en, ca), (gn, pu, mk), H), U, V, F, (L, T), (l, ln))) := by unfold o_lock <;> (try dsimp only) <;> ((repeat (first | rw [if_pos (by omega)] | rw [if_neg (by omega)]))) <;> rfl
      rw [e9]
      exact ⟨_, rfl, ⟨hM, hK, hV, hE, hT, hL, h7⟩, (fun _ _ => rfl)⟩
  · show AR E d _ (7, [some (vA m), some (vI s), some (vI y), none], [], (C, N)) _
    refine AR.blk 1 (f' := (8, [some (vA m), some (vI s), some (vI y), none], [vI (-1)], (C, N))) (fun _ => rfl) ?_
    refine AR.endI rfl (.inl rfl) ?_
    have e9 : o_lock (((P, n, q, p, cl, tn), (t, bg, en, ca), (gn, pu, mk), H), U, V, F, (L, T), (l, ln)) s y = ((-1), (((P, n, q, p, cl, tn), (t, bg, en, ca), (gn, pu, mk), H), U, V, F, (L, T), (l, ln))) := by unfold o_lock <;> (try dsimp only) <;> ((repeat (first | rw [if_pos (by omega)] | rw [if_neg (by omega)]))) <;> rfl
    rw [e9]
    exact ⟨_, rfl, ⟨hM, hK, hV, hE, hT, hL, h7⟩, (fun _ _ => rfl)⟩
end L2H
