/-! LEVEL 2: the model: begin, move -/
section L2I
variable {E : Nat × (Int → Int)} {C : List ag_C} {N : Nat → Int → Int} {m : Nat}

theorem ev_X7_begin {d : Nat} (hd : 8 ≤ d) {G : m_G} {U : List m_G} {V : Option m_G} {F : m_F} {L : Int} {T : Int → Int} {l : Int} {ln : Int → Int} (hm : g_isM C m) (hY : g_rY N m (G, U, V, F, (L, T), (l, ln))) (hS : g_vS (G, U, V, F, (L, T), (l, ln))) : ∃ o_, Ev E d 122 [vA m] (C, N) o_ ∧ g_QY C N m (o_begin (G, U, V, F, (L, T), (l, ln))) o_ := by
  obtain ⟨d, rfl⟩ : ∃ j, d = j + 1 := ⟨d - 1, by omega⟩
  obtain ⟨⟨P, n, q, p, cl, tn⟩, ⟨t, bg, en, ca⟩, ⟨gn, pu, mk⟩, H⟩ := G
  have hM : g_rM (N (m + 1)) ((P, n, q, p, cl, tn), (t, bg, en, ca), (gn, pu, mk), H) := hY.1
  have hK : g_rK N m U := hY.2.1
  have hV : g_rW N m V := hY.2.2.1
  have hE : g_rE N m F := hY.2.2.2.1
  have hT : g_rTm N m L T := hY.2.2.2.2.1
  have hL : g_rLm N m l ln := hY.2.2.2.2.2.1
  have h7 : N m 7 = 0 := hY.2.2.2.2.2.2
  have hvG : g_vG ((P, n, q, p, cl, tn), (t, bg, en, ca), (gn, pu, mk), H) := hS.1
  have hw : g_wB P n q p cl tn := hvG.1.1
  have hwH : g_wH H := hvG.1.2.1
  have hv : g_wS t bg en ca gn pu mk := hvG.1.2.2
  have w1 := hv.1
  have w2 := hv.2.1
  have w3 := hv.2.2.1
  have w4 := hv.2.2.2.1
  have w6 := hv.2.2.2.2.2
  have w7 := hw.2.2.1
  have hwL : 0 ≤ L ∧ L ≤ 70 := hS.2.2.2.1
  have hwl : 0 ≤ l ∧ l ≤ 6 := hS.2.2.2.2.2
  have k8 := hK.2.1
  have r0 : g_rR (N (m + 1)) P n q p cl tn := hM.1
  have z0 : g_rZ (N (m + 1)) t (t % 2) (t / 4) bg en ca gn pu mk := hM.2.1
  have s0 : g_rS (N (m + 1)) t bg en ca gn pu mk := z0
  have D0 : g_rD (N (m + 1)) (m_D H) := hM.2.2.1
  have p0 : (bg : Int) = 0 → N (m + 1) 6 = m_cnt P 0 ∧ N (m + 1) 7 = m_cnt P 1 := hM.2.2.2
  refine Ev.introQ (M := ag_mX7_begin) rfl rfl ?_
  show AR E d _ (0, [some (vA m), none], [], (C, N)) _
  refine AR.blk 1 (f' := (1, [some (vA m), none], [vA m], (C, N))) (fun _ => rfl) ?_
  refine AR.getR rfl rfl hm.1 (by decide) rfl ?_
  refine AR.blk 1 (f' := (5, [some (vA m), none], [vI 3, vA (m + 1)], (C, N))) (fun _ => rfl) ?_
  have f1 := hv.1
  have f2 := hv.2.1
  have f3 := hv.2.2.1
  have f4 := hv.2.2.2.1
  refine AR.iald rfl hm.2.1 (by omega) (v := bg) s0.2.2.2.1 ?_
  refine AR.blk 1 (f' := (7, [some (vA m), none], [vI 1, vI bg], (C, N))) (fun _ => rfl) ?_
  refine AR.ic_ne rfl (by omega) (fun c5 => ?_) (fun c5 => ?_)
  · show AR E d _ (22, [some (vA m), none], [], (C, N)) _
    refine AR.blk 4 (f' := (26, [some (vA m), some (vI 0)], [vI 2, vI 0], (C, N))) (fun _ => rfl) ?_
    refine AR.blk 3 (f' := (31, [some (vA m), some (vI 0)], [vI 0, vA m], (C, N))) (fun _ => rfl) ?_
    refine AR.callV [vI 0] (ev_X7_pieces (by omega) hm r0 hw 0 (by omega)) hm.1 rfl rfl rfl rfl rfl ?_
    show AR E d _ (34, [some (vA m), some (vI 0)], [vI (m_cnt P 0)], (C, N)) _
    have f6 := m_cnt_in P 0
    refine AR.if_ne rfl (by omega) (fun c7 => ?_) (fun c7 => ?_)
    · show AR E d _ (45, [some (vA m), some (vI 0)], [], (C, N)) _
      refine AR.blk 4 (f' := (26, [some (vA m), some (vI 1)], [vI 2, vI 1], (C, N))) (fun _ => rfl) ?_
      refine AR.blk 3 (f' := (31, [some (vA m), some (vI 1)], [vI 1, vA m], (C, N))) (fun _ => rfl) ?_
      refine AR.callV [vI 1] (ev_X7_pieces (by omega) hm r0 hw 1 (by omega)) hm.1 rfl rfl rfl rfl rfl ?_
      show AR E d _ (34, [some (vA m), some (vI 1)], [vI (m_cnt P 1)], (C, N)) _
      have f8 := m_cnt_in P 1
      refine AR.if_ne rfl (by omega) (fun c9 => ?_) (fun c9 => ?_)
      · show AR E d _ (45, [some (vA m), some (vI 1)], [], (C, N)) _
        refine AR.blk 4 (f' := (26, [some (vA m), some (vI 2)], [vI 2, vI 2], (C, N))) (fun _ => rfl) ?_
        refine AR.blk 3 (f' := (53, [some (vA m), some (vI 2)], [vA m, vA m], (C, N))) (fun _ => rfl) ?_
        refine AR.getR rfl rfl hm.1 (by decide) rfl ?_
        obtain ⟨_, hE10, N11, rfl, hK12, hk13, hf14⟩ := ev_X7_keeps1 (E := E) (d := d) (by omega) hm h7 hK hS.2.1 hm.2.1 (by omega) hM hvG
        have KN11 : g_rK N11 m ((((P, n, q, p, cl, tn), (t, bg, en, ca), (gn, pu, mk), H) :: U).take 8) := hK12
        have hMN11 : g_rM (N11 (m + 1)) ((P, n, q, p, cl, tn), (t, bg, en, ca), (gn, pu, mk), H) := by rw [hf14 (m + 1) (by omega)]; exact hM
        have rN11 : g_rR ((N11) (m + 1)) P n q p cl tn := hMN11.1
        have zN11 : g_rZ ((N11) (m + 1)) t (t % 2) (t / 4) bg en ca gn pu mk := hMN11.2.1
        have sN11 : g_rS ((N11) (m + 1)) t bg en ca gn pu mk := zN11
        have DN11 : g_rD ((N11) (m + 1)) (m_D H) := hMN11.2.2.1
        have pN11 : (bg : Int) = 0 → (N11) (m + 1) 6 = m_cnt P 0 ∧ (N11) (m + 1) 7 = m_cnt P 1 := hMN11.2.2.2
        have hVN11 := g_rW_fr hV (N' := N11) (hk13 5 (by omega)) (hf14 (m + 3) (by omega))
        have hEN11 := g_rE_fr hE (N' := N11) (fun k z0 z1 => hk13 k (by omega))
        have hTN11 := g_rTm_fr hT (N' := N11) (hk13 14 (by omega)) (hf14 (m + 6) (by omega))
        have hLN11 := g_rLm_fr hL (N' := N11) (hk13 16 (by omega)) (hf14 (m + 7) (by omega))
        have h7N11 := (hk13 7 (by omega)).trans h7
        have frN11 : ∀ a, ¬ (m ≤ a ∧ a < m + 9) → (N11) a = N a := fun a ha => (hf14 a (by omega)).trans ((fun _ _ => rfl) a ha)
        refine AR.callV [vA (m + 1)] hE10 hm.1 rfl rfl rfl rfl rfl ?_
        show AR E d _ (59, [some (vA m), some (vI 2)], [], (C, N11)) _
        refine AR.blk 1 (f' := (60, [some (vA m), some (vI 2)], [vA m], (C, N11))) (fun _ => rfl) ?_
        refine AR.getR rfl rfl hm.1 (by decide) rfl ?_
        refine AR.blk 2 (f' := (65, [some (vA m), some (vI 2)], [vI 1, vI 3, vA (m + 1)], (C, N11))) (fun _ => rfl) ?_
        refine AR.iast rfl hm.2.1 (by omega) ?_
        have r1 : g_rR ((ag_upd N11 (m + 1) 3 1) (m + 1)) P n q p cl tn := g_rR_fr rN11 (fun i z0 z1 => ag_upd_nk (by omega))
        have z1 : g_rZ ((ag_upd N11 (m + 1) 3 1) (m + 1)) t (t % 2) (t / 4) 1 0 ca gn pu mk := by have z := g_rZ_bg zN11 1; rw [show en = 0 by omega] at z; exact z
        have y1 : g_wS t 1 0 ca gn pu mk := ⟨hv.1, .inr rfl, by omega, hv.2.2.2.1, hv.2.2.2.2.1, fun e => by cases e⟩
        have d1 : g_rD ((ag_upd N11 (m + 1) 3 1) (m + 1)) (m_D H) := g_rD_fr2 DN11 (fun i z0 => ag_upd_nk (by omega))
        have h0 : H = [] := (hvG.2.1 (show bg = 0 by omega)).1
        have l1 := m_D_C hvG
        have c9 : m_cn (m_key P cl (t % 2)) (m_D H) ≤ 3 := by rw [h0]; show (1 : Int) ≤ 3; omega
        have eN := m_end_eq P n q cl t (m_key P cl (t % 2)) H c9 (by omega)
        have fU : ∀ a, a ≠ m + 1 → (ag_upd N11 (m + 1) 3 1) a = N11 a := fun a ha => ag_upd_ne ha
        have kU : ∀ kk_ : Int, kk_ = kk_ → (ag_upd N11 (m + 1) 3 1) m kk_ = N11 m kk_ := fun kk_ _ => congrFun (fU m (by omega)) kk_
        have hKQU := g_rK_fr KN11 (N' := ag_upd N11 (m + 1) 3 1) (kU 6 (by omega)) (fU (m + 2) (by omega))
        have hVQU := g_rW_fr hVN11 (N' := ag_upd N11 (m + 1) 3 1) (kU 5 (by omega)) (fU (m + 3) (by omega))
        have hEQU := g_rE_fr hEN11 (N' := ag_upd N11 (m + 1) 3 1) (fun k z0 z1 => kU k (by omega))
        have hTQU := g_rTm_fr hTN11 (N' := ag_upd N11 (m + 1) 3 1) (kU 14 (by omega)) (fU (m + 6) (by omega))
        have hLQU := g_rLm_fr hLN11 (N' := ag_upd N11 (m + 1) 3 1) (kU 16 (by omega)) (fU (m + 7) (by omega))
        have h7QU := (kU 7 (by omega)).trans h7N11
        have frQU : ∀ a, ¬ (m ≤ a ∧ a < m + 9) → (ag_upd N11 (m + 1) 3 1) a = N a := fun a ha => (fU a (by omega)).trans (frN11 a ha)
        refine AR.blk 1 (f' := (67, [some (vA m), some (vI 2)], [vA m], (C, ag_upd N11 (m + 1) 3 1))) (fun _ => rfl) ?_
        obtain ⟨_, hE15, N16, rfl, hr17, hz18, hD19, hk20, hf21⟩ := ev_X7_looks (E := E) (d := d) (by omega) hm r1 hw z1 y1 d1 (by rw [h0]; exact Nat.zero_le _) l1
        have cN16 : ∀ kk_ : Int, kk_ = kk_ → N16 m kk_ = (ag_upd N11 (m + 1) 3 1) m kk_ := fun kk_ _ => congrFun (hf21 m (by omega)) kk_
        have hKN16 := g_rK_fr hKQU (N' := N16) (cN16 6 (by omega)) (hf21 (m + 2) (by omega))
        have hVN16 := g_rW_fr hVQU (N' := N16) (cN16 5 (by omega)) (hf21 (m + 3) (by omega))
        have hEN16 := g_rE_fr hEQU (N' := N16) (fun k z0 z1 => cN16 k (by omega))
        have hTN16 := g_rTm_fr hTQU (N' := N16) (cN16 14 (by omega)) (hf21 (m + 6) (by omega))
        have hLN16 := g_rLm_fr hLQU (N' := N16) (cN16 16 (by omega)) (hf21 (m + 7) (by omega))
        have h7N16 := (cN16 7 (by omega)).trans h7QU
        have frN16 : ∀ a, ¬ (m ≤ a ∧ a < m + 9) → (N16) a = N a := fun a ha => (hf21 a (by omega)).trans (frQU a ha)
        have hMN16 : g_rM (N16 (m + 1)) ((P, n, q, p, cl, tn), (t, 1, m_stl P n q cl t (m_key P cl (t % 2) :: H), ca), (gn, pu, mk), (m_key P cl (t % 2) :: H)) := ⟨hr17, (by rw [← eN]; exact hz18), hD19, fun e => by cases e⟩
        have rN16 : g_rR ((N16) (m + 1)) P n q p cl tn := hMN16.1
        have zN16 : g_rZ ((N16) (m + 1)) t (t % 2) (t / 4) 1 (m_stl P n q cl t (m_key P cl (t % 2) :: H)) ca gn pu mk := hMN16.2.1
        have sN16 : g_rS ((N16) (m + 1)) t 1 (m_stl P n q cl t (m_key P cl (t % 2) :: H)) ca gn pu mk := zN16
        have DN16 : g_rD ((N16) (m + 1)) (m_D (m_key P cl (t % 2) :: H)) := hMN16.2.2.1
        have pN16 : (1 : Int) = 0 → (N16) (m + 1) 6 = m_cnt P 0 ∧ (N16) (m + 1) 7 = m_cnt P 1 := hMN16.2.2.2
        have vN16 : g_vG ((P, n, q, p, cl, tn), (t, 1, m_stl P n q cl t (m_key P cl (t % 2) :: H), ca), (gn, pu, mk), (m_key P cl (t % 2) :: H)) := g_vG_bgn hvG (show bg = 0 by omega)
        have wN16 : g_wB P n q p cl tn := vN16.1.1
        have yN16 : g_wS t 1 (m_stl P n q cl t (m_key P cl (t % 2) :: H)) ca gn pu mk := vN16.1.2.2
        refine AR.callV [] hE15 hm.1 rfl rfl rfl rfl rfl ?_
        show AR E d _ (70, [some (vA m), some (vI 2)], [vI (m_cn (m_key P cl (t % 2)) (m_D H))], (C, N16)) _
        refine AR.blk 2 (f' := (72, [some (vA m), some (vI 2)], [vA m], (C, N16))) (fun _ => rfl) ?_
        refine AR.callV [] (ev_X7_moves (by omega) hm rN16 wN16 sN16 yN16  ) hm.1 rfl rfl rfl rfl rfl ?_
        show AR E d _ (75, [some (vA m), some (vI 2)], [vI (m_mvs P n q cl t 1 (m_stl P n q cl t (m_key P cl (t % 2) :: H)))], (C, N16)) _
        have f22 := m_mvs_in P n q cl t 1 (m_stl P n q cl t (m_key P cl (t % 2) :: H))
        refine AR.endI rfl (.inl rfl) ?_
        have e9 : o_begin (((P, n, q, p, cl, tn), (t, bg, en, ca), (gn, pu, mk), H), U, V, F, (L, T), (l, ln)) = (m_mvs P n q cl t 1 (m_stl P n q cl t (m_key P cl (t % 2) :: H)), (((P, n, q, p, cl, tn), (t, 1, m_stl P n q cl t (m_key P cl (t % 2) :: H), ca), (gn, pu, mk), (m_key P cl (t % 2) :: H)), ((((P, n, q, p, cl, tn), (t, bg, en, ca), (gn, pu, mk), H) :: U).take 8), V, F, (L, T), (l, ln))) := by unfold o_begin <;> (try dsimp only) <;> ((repeat (first | rw [if_pos (by omega)] | rw [if_neg (by omega)]))) <;> rfl
        rw [e9]
        exact ⟨_, rfl, ⟨hMN16, hKN16, hVN16, hEN16, hTN16, hLN16, h7N16⟩, frN16⟩
      · show AR E d _ (37, [some (vA m), some (vI 1)], [], (C, N)) _
        refine AR.blk 3 (f' := (41, [some (vA m), some (vI 1)], [vI 1, vI 7, vA m], (C, N))) (fun _ => rfl) ?_
        obtain ⟨_, hE23, N24, rfl, hE25, hk26, hf27⟩ := ev_X7_refuses (E := E) (d := d) (by omega) hm 7 1 (by omega)
        have EN24 : g_rE N24 m (7, 1, -4, -4, -4) := hE25
        have hMN24 : g_rM (N24 (m + 1)) ((P, n, q, p, cl, tn), (t, bg, en, ca), (gn, pu, mk), H) := by rw [hf27 (m + 1) (by omega)]; exact hM
        have rN24 : g_rR ((N24) (m + 1)) P n q p cl tn := hMN24.1
        have zN24 : g_rZ ((N24) (m + 1)) t (t % 2) (t / 4) bg en ca gn pu mk := hMN24.2.1
        have sN24 : g_rS ((N24) (m + 1)) t bg en ca gn pu mk := zN24
        have DN24 : g_rD ((N24) (m + 1)) (m_D H) := hMN24.2.2.1
        have pN24 : (bg : Int) = 0 → (N24) (m + 1) 6 = m_cnt P 0 ∧ (N24) (m + 1) 7 = m_cnt P 1 := hMN24.2.2.2
        have hKN24 := g_rK_fr hK (N' := N24) (hk26 6 (by omega)) (hf27 (m + 2) (by omega))
        have hVN24 := g_rW_fr hV (N' := N24) (hk26 5 (by omega)) (hf27 (m + 3) (by omega))
        have hTN24 := g_rTm_fr hT (N' := N24) (hk26 14 (by omega)) (hf27 (m + 6) (by omega))
        have hLN24 := g_rLm_fr hL (N' := N24) (hk26 16 (by omega)) (hf27 (m + 7) (by omega))
        have h7N24 := (hk26 7 (by omega)).trans h7
        have frN24 : ∀ a, ¬ (m ≤ a ∧ a < m + 9) → (N24) a = N a := fun a ha => (hf27 a (by omega)).trans ((fun _ _ => rfl) a ha)
        refine AR.callV [vI 7, vI 1] hE23 hm.1 rfl rfl rfl rfl rfl ?_
        show AR E d _ (44, [some (vA m), some (vI 1)], [vI (-3)], (C, N24)) _
        refine AR.endI rfl (.inl rfl) ?_
        have e9 : o_begin (((P, n, q, p, cl, tn), (t, bg, en, ca), (gn, pu, mk), H), U, V, F, (L, T), (l, ln)) = (-3, (((P, n, q, p, cl, tn), (t, bg, en, ca), (gn, pu, mk), H), U, V, (7, 1, -4, -4, -4), (L, T), (l, ln))) := by unfold o_begin <;> (try dsimp only) <;> ((repeat (first | rw [if_pos (by omega)] | rw [if_neg (by omega)]))) <;> rfl
        rw [e9]
        exact ⟨_, rfl, ⟨hMN24, hKN24, hVN24, EN24, hTN24, hLN24, h7N24⟩, frN24⟩
    · show AR E d _ (37, [some (vA m), some (vI 0)], [], (C, N)) _
      refine AR.blk 3 (f' := (41, [some (vA m), some (vI 0)], [vI 0, vI 7, vA m], (C, N))) (fun _ => rfl) ?_
      obtain ⟨_, hE28, N29, rfl, hE30, hk31, hf32⟩ := ev_X7_refuses (E := E) (d := d) (by omega) hm 7 0 (by omega)
      have EN29 : g_rE N29 m (7, 0, -4, -4, -4) := hE30
      have hMN29 : g_rM (N29 (m + 1)) ((P, n, q, p, cl, tn), (t, bg, en, ca), (gn, pu, mk), H) := by rw [hf32 (m + 1) (by omega)]; exact hM
      have rN29 : g_rR ((N29) (m + 1)) P n q p cl tn := hMN29.1
      have zN29 : g_rZ ((N29) (m + 1)) t (t % 2) (t / 4) bg en ca gn pu mk := hMN29.2.1
      have sN29 : g_rS ((N29) (m + 1)) t bg en ca gn pu mk := zN29
      have DN29 : g_rD ((N29) (m + 1)) (m_D H) := hMN29.2.2.1
      have pN29 : (bg : Int) = 0 → (N29) (m + 1) 6 = m_cnt P 0 ∧ (N29) (m + 1) 7 = m_cnt P 1 := hMN29.2.2.2
      have hKN29 := g_rK_fr hK (N' := N29) (hk31 6 (by omega)) (hf32 (m + 2) (by omega))
      have hVN29 := g_rW_fr hV (N' := N29) (hk31 5 (by omega)) (hf32 (m + 3) (by omega))
      have hTN29 := g_rTm_fr hT (N' := N29) (hk31 14 (by omega)) (hf32 (m + 6) (by omega))
      have hLN29 := g_rLm_fr hL (N' := N29) (hk31 16 (by omega)) (hf32 (m + 7) (by omega))
      have h7N29 := (hk31 7 (by omega)).trans h7
      have frN29 : ∀ a, ¬ (m ≤ a ∧ a < m + 9) → (N29) a = N a := fun a ha => (hf32 a (by omega)).trans ((fun _ _ => rfl) a ha)
      refine AR.callV [vI 7, vI 0] hE28 hm.1 rfl rfl rfl rfl rfl ?_
      show AR E d _ (44, [some (vA m), some (vI 0)], [vI (-3)], (C, N29)) _
      refine AR.endI rfl (.inl rfl) ?_
      have e9 : o_begin (((P, n, q, p, cl, tn), (t, bg, en, ca), (gn, pu, mk), H), U, V, F, (L, T), (l, ln)) = (-3, (((P, n, q, p, cl, tn), (t, bg, en, ca), (gn, pu, mk), H), U, V, (7, 0, -4, -4, -4), (L, T), (l, ln))) := by unfold o_begin <;> (try dsimp only) <;> ((repeat (first | rw [if_pos (by omega)] | rw [if_neg (by omega)]))) <;> rfl
      rw [e9]
      exact ⟨_, rfl, ⟨hMN29, hKN29, hVN29, EN29, hTN29, hLN29, h7N29⟩, frN29⟩
  · show AR E d _ (10, [some (vA m), none], [], (C, N)) _
    refine AR.blk 3 (f' := (13, [some (vA m), none], [vA m, vI 2, vA m], (C, N))) (fun _ => rfl) ?_
    refine AR.getR rfl rfl hm.1 (by decide) rfl ?_
    refine AR.blk 1 (f' := (17, [some (vA m), none], [vI 0, vA (m + 1), vI 2, vA m], (C, N))) (fun _ => rfl) ?_
    have f33 := hv.1
    have f34 := hv.2.1
    have f35 := hv.2.2.1
    have f36 := hv.2.2.2.1
    refine AR.iald rfl hm.2.1 (by omega) (v := t) s0.1 ?_
    obtain ⟨_, hE37, N38, rfl, hE39, hk40, hf41⟩ := ev_X7_refuses (E := E) (d := d) (by omega) hm 2 t (by omega)
    have EN38 : g_rE N38 m (2, t, -4, -4, -4) := hE39
    have hMN38 : g_rM (N38 (m + 1)) ((P, n, q, p, cl, tn), (t, bg, en, ca), (gn, pu, mk), H) := by rw [hf41 (m + 1) (by omega)]; exact hM
    have rN38 : g_rR ((N38) (m + 1)) P n q p cl tn := hMN38.1
    have zN38 : g_rZ ((N38) (m + 1)) t (t % 2) (t / 4) bg en ca gn pu mk := hMN38.2.1
    have sN38 : g_rS ((N38) (m + 1)) t bg en ca gn pu mk := zN38
    have DN38 : g_rD ((N38) (m + 1)) (m_D H) := hMN38.2.2.1
    have pN38 : (bg : Int) = 0 → (N38) (m + 1) 6 = m_cnt P 0 ∧ (N38) (m + 1) 7 = m_cnt P 1 := hMN38.2.2.2
    have hKN38 := g_rK_fr hK (N' := N38) (hk40 6 (by omega)) (hf41 (m + 2) (by omega))
    have hVN38 := g_rW_fr hV (N' := N38) (hk40 5 (by omega)) (hf41 (m + 3) (by omega))
    have hTN38 := g_rTm_fr hT (N' := N38) (hk40 14 (by omega)) (hf41 (m + 6) (by omega))
    have hLN38 := g_rLm_fr hL (N' := N38) (hk40 16 (by omega)) (hf41 (m + 7) (by omega))
    have h7N38 := (hk40 7 (by omega)).trans h7
    have frN38 : ∀ a, ¬ (m ≤ a ∧ a < m + 9) → (N38) a = N a := fun a ha => (hf41 a (by omega)).trans ((fun _ _ => rfl) a ha)
    refine AR.callV [vI 2, vI t] hE37 hm.1 rfl rfl rfl rfl rfl ?_
    show AR E d _ (21, [some (vA m), none], [vI (-3)], (C, N38)) _
    refine AR.endI rfl (.inl rfl) ?_
    have e9 : o_begin (((P, n, q, p, cl, tn), (t, bg, en, ca), (gn, pu, mk), H), U, V, F, (L, T), (l, ln)) = (-3, (((P, n, q, p, cl, tn), (t, bg, en, ca), (gn, pu, mk), H), U, V, (2, t, -4, -4, -4), (L, T), (l, ln))) := by unfold o_begin <;> (try dsimp only) <;> ((repeat (first | rw [if_pos (by omega)] | rw [if_neg (by omega)]))) <;> rfl
    rw [e9]
    exact ⟨_, rfl, ⟨hMN38, hKN38, hVN38, EN38, hTN38, hLN38, h7N38⟩, frN38⟩

theorem g_rZ_bgc {R : Int → Int} {t sd ho b b2 en ca : Int} {gn pu mk : Int → Int} (e : b = b2) (h : g_rZ R t sd ho b en ca gn pu mk) : g_rZ R t sd ho b2 en ca gn pu mk := by rw [← e]; exact h
theorem g_rE_cause {N : Nat → Int → Int} {m : Nat} {a b c : Int} (h : g_rE N m (a, b, c, -4, -4)) (x y : Int) (ha : a ≠ -4) (hx : 10 ≤ x ∧ x ≤ 13) : g_rE (ag_upd (ag_upd N m 11 x) m 12 y) m (a, b, c, x, y) := by
  rcases h with h | h
  · exact absurd (congrArg Prod.fst h.2) ha
  · exact .inr ⟨h.1, (ag_upd_nk (by omega)).trans ((ag_upd_nk (by omega)).trans h.2.1), (ag_upd_nk (by omega)).trans ((ag_upd_nk (by omega)).trans h.2.2.1), (ag_upd_nk (by omega)).trans ((ag_upd_nk (by omega)).trans h.2.2.2.1), .inr ⟨hx, (ag_upd_nk (by omega)).trans ag_upd_eq, ag_upd_eq⟩⟩
theorem m_cause_10 (P : Int → Int) (n : Int) (q cl : Int → Int) (s x : Int) : m_cause P n q cl s x = 0 ∨ 10 ≤ m_cause P n q cl s x := by unfold m_cause; omega

theorem ev_X7_move {d : Nat} (hd : 11 ≤ d) {G : m_G} {U : List m_G} {V : Option m_G} {F : m_F} {L : Int} {T : Int → Int} {l : Int} {ln : Int → Int} (hm : g_isM C m) (hY : g_rY N m (G, U, V, F, (L, T), (l, ln))) (hS : g_vS (G, U, V, F, (L, T), (l, ln))) (s y : Int) (h0 : ag_in s) (h1 : ag_in y) : ∃ o_, Ev E d 139 [vA m, vI s, vI y] (C, N) o_ ∧ g_QY C N m (o_move (G, U, V, F, (L, T), (l, ln)) s y) o_ := by
  obtain ⟨d, rfl⟩ : ∃ j, d = j + 1 := ⟨d - 1, by omega⟩
  obtain ⟨⟨P, n, q, p, cl, tn⟩, ⟨t, bg, en, ca⟩, ⟨gn, pu, mk⟩, H⟩ := G
  have hM : g_rM (N (m + 1)) ((P, n, q, p, cl, tn), (t, bg, en, ca), (gn, pu, mk), H) := hY.1
  have hK : g_rK N m U := hY.2.1
  have hV : g_rW N m V := hY.2.2.1
  have hE : g_rE N m F := hY.2.2.2.1
  have hT : g_rTm N m L T := hY.2.2.2.2.1
  have hL : g_rLm N m l ln := hY.2.2.2.2.2.1
  have h7 : N m 7 = 0 := hY.2.2.2.2.2.2
  have hvG : g_vG ((P, n, q, p, cl, tn), (t, bg, en, ca), (gn, pu, mk), H) := hS.1
  have hw : g_wB P n q p cl tn := hvG.1.1
  have hwH : g_wH H := hvG.1.2.1
  have hv : g_wS t bg en ca gn pu mk := hvG.1.2.2
  have w1 := hv.1
  have w2 := hv.2.1
  have w3 := hv.2.2.1
  have w4 := hv.2.2.2.1
  have w6 := hv.2.2.2.2.2
  have w7 := hw.2.2.1
  have hwL : 0 ≤ L ∧ L ≤ 70 := hS.2.2.2.1
  have hwl : 0 ≤ l ∧ l ≤ 6 := hS.2.2.2.2.2
  have k8 := hK.2.1
  have r0 : g_rR (N (m + 1)) P n q p cl tn := hM.1
  have z0 : g_rZ (N (m + 1)) t (t % 2) (t / 4) bg en ca gn pu mk := hM.2.1
  have s0 : g_rS (N (m + 1)) t bg en ca gn pu mk := z0
  have D0 : g_rD (N (m + 1)) (m_D H) := hM.2.2.1
  have p0 : (bg : Int) = 0 → N (m + 1) 6 = m_cnt P 0 ∧ N (m + 1) 7 = m_cnt P 1 := hM.2.2.2
  have m10 := m_cause_10 P n q cl s y
  refine Ev.introQ (M := ag_mX7_move) rfl rfl ?_
  show AR E d _ (0, [some (vA m), some (vI s), some (vI y), none], [], (C, N)) _
  refine AR.blk 1 (f' := (1, [some (vA m), some (vI s), some (vI y), none], [vI s], (C, N))) (fun _ => rfl) ?_
  refine AR.callS [vI s] (ev_X7_isSquare (by omega) s (by omega)) rfl rfl rfl rfl rfl ?_
  show AR E d _ (4, [some (vA m), some (vI s), some (vI y), none], [vI (if 0 ≤ s ∧ s ≤ 35 then 1 else 0)], (C, N)) _
  refine AR.if_ne rfl (by omega) (fun c1 => ?_) (fun c1 => ?_)
  · show AR E d _ (9, [some (vA m), some (vI s), some (vI y), none], [], (C, N)) _
    refine AR.blk 3 (f' := (12, [some (vA m), some (vI s), some (vI y), none], [vI 3, vI 0, vI y], (C, N))) (fun _ => rfl) ?_
    refine AR.callS [vI y, vI 0, vI 3] (ev_X7_in (by omega) y 0 3 (by omega)) rfl rfl rfl rfl rfl ?_
    show AR E d _ (15, [some (vA m), some (vI s), some (vI y), none], [vI (if 0 ≤ y ∧ y ≤ 3 then 1 else 0)], (C, N)) _
    refine AR.if_ne rfl (by omega) (fun c2 => ?_) (fun c2 => ?_)
    · show AR E d _ (21, [some (vA m), some (vI s), some (vI y), none], [], (C, N)) _
      refine AR.blk 1 (f' := (22, [some (vA m), some (vI s), some (vI y), none], [vA m], (C, N))) (fun _ => rfl) ?_
      refine AR.getR rfl rfl hm.1 (by decide) rfl ?_
      refine AR.blk 1 (f' := (26, [some (vA m), some (vI s), some (vI y), none], [vI 3, vA (m + 1)], (C, N))) (fun _ => rfl) ?_
      have f3 := hv.1
      have f4 := hv.2.1
      have f5 := hv.2.2.1
      have f6 := hv.2.2.2.1
      refine AR.iald rfl hm.2.1 (by omega) (v := bg) s0.2.2.2.1 ?_
      refine AR.if_ne rfl (by omega) (fun c7 => ?_) (fun c7 => ?_)
      · show AR E d _ (37, [some (vA m), some (vI s), some (vI y), none], [], (C, N)) _
        refine AR.blk 1 (f' := (38, [some (vA m), some (vI s), some (vI y), none], [vA m], (C, N))) (fun _ => rfl) ?_
        refine AR.getR rfl rfl hm.1 (by decide) rfl ?_
        refine AR.blk 1 (f' := (42, [some (vA m), some (vI s), some (vI y), none], [vI 4, vA (m + 1)], (C, N))) (fun _ => rfl) ?_
        have f8 := hv.1
        have f9 := hv.2.1
        have f10 := hv.2.2.1
        have f11 := hv.2.2.2.1
        refine AR.iald rfl hm.2.1 (by omega) (v := en) s0.2.2.2.2.1 ?_
        refine AR.if_le rfl (by omega) (fun c12 => ?_) (fun c12 => ?_)
        · show AR E d _ (58, [some (vA m), some (vI s), some (vI y), none], [], (C, N)) _
          refine AR.blk 2 (f' := (60, [some (vA m), some (vI s), some (vI y), none], [vI s, vA m], (C, N))) (fun _ => rfl) ?_
          refine AR.callV [vI s] (ev_X7_sideAt (by omega) hm r0 hw s (by omega)) hm.1 rfl rfl rfl rfl rfl ?_
          show AR E d _ (63, [some (vA m), some (vI s), some (vI y), none], [vI (m_own (P s))], (C, N)) _
          have f13 := m_own_in (P s) (hw.1 s)
          have f14 := hw.1 s
          refine AR.blk 1 (f' := (64, [some (vA m), some (vI s), some (vI y), none], [vA m, vI (m_own (P s))], (C, N))) (fun _ => rfl) ?_
          refine AR.getR rfl rfl hm.1 (by decide) rfl ?_
          refine AR.blk 1 (f' := (68, [some (vA m), some (vI s), some (vI y), none], [vI 1, vA (m + 1), vI (m_own (P s))], (C, N))) (fun _ => rfl) ?_
          have f15 := hv.1
          have f16 := hv.2.1
          have f17 := hv.2.2.1
          have f18 := hv.2.2.2.1
          refine AR.iald rfl hm.2.1 (by omega) (v := t % 2) s0.2.1 ?_
          refine AR.ic_eq rfl (by omega) (fun c19 => ?_) (fun c19 => ?_)
          · show AR E d _ (85, [some (vA m), some (vI s), some (vI y), none], [], (C, N)) _
            refine AR.blk 3 (f' := (88, [some (vA m), some (vI s), some (vI y), none], [vI y, vI s, vA m], (C, N))) (fun _ => rfl) ?_
            refine AR.callV [vI s, vI y] (ev_X7_against (by omega) hm r0 hw s y (by omega) (by omega) (by omega)) hm.1 rfl rfl rfl rfl rfl ?_
            show AR E d _ (91, [some (vA m), some (vI s), some (vI y), none], [vI (m_cause P n q cl s y)], (C, N)) _
            have f20 := m_cause_in P n q cl s y
            refine AR.if_le rfl (by omega) (fun c21 => ?_) (fun c21 => ?_)
            · show AR E d _ (124, [some (vA m), some (vI s), some (vI y), none], [], (C, N)) _
              have hc : g_can ((P, n, q, p, cl, tn), (t, bg, en, ca), (gn, pu, mk), H) s y := ⟨by omega, by omega, (show bg = 1 by omega), (show en = 0 by omega), (show m_own (P s) = t % 2 by omega), (show m_cause P n q cl s y = 0 by omega)⟩
              have hc2 := g_can_of hvG hc
              have c3 : bg = 1 := by omega
              have c4 : en = 0 := by omega
              have c5 : 1 ≤ m_room s y := hc2.1
              have c6 : t ≤ 119 := hc2.2.2.1
              have c7 : H.length ≤ 120 := hc2.2.2.2
              have c8 : P s ≠ -1 := hc2.2.1
              have c10 : m_own (P s) = t % 2 := by omega
              have c11 := m_D_len H
              have c12 := m_D_C hvG
              have y1 : g_wS t 1 0 ca gn pu mk := by have z := hv; rw [c3, c4] at z; exact z
              have c13 := (g_vH (P := m_gP P n q p cl tn t s y) (n := n) (q := q) (cl := m_gcl P n q p cl tn t s y) (t := t + 1) (x := m_key (m_gP P n q p cl tn t s y) (m_gcl P n q p cl tn t s y) ((t + 1) % 2)) (hvG.2.2.2.1 c4).2).2.2
              have eN := m_end_eq (m_gP P n q p cl tn t s y) n q (m_gcl P n q p cl tn t s y) (t + 1) (m_key (m_gP P n q p cl tn t s y) (m_gcl P n q p cl tn t s y) ((t + 1) % 2)) H c13 (by omega)
              have eA : m_stR (m_gP P n q p cl tn t s y) n q (m_gcl P n q p cl tn t s y) (t + 1) (m_gH P n q p cl tn t s y H) = if m_stl (m_gP P n q p cl tn t s y) n q (m_gcl P n q p cl tn t s y) (t + 1) (m_gH P n q p cl tn t s y H) = 0 ∨ (m_cn (m_key (m_gP P n q p cl tn t s y) (m_gcl P n q p cl tn t s y) ((t + 1) % 2)) (m_D H) = 3 ∧ 0 < m_cnt (m_gP P n q p cl tn t s y) 0 ∧ 0 < m_cnt (m_gP P n q p cl tn t s y) 1) then m_cn (m_key (m_gP P n q p cl tn t s y) (m_gcl P n q p cl tn t s y) ((t + 1) % 2)) (m_D H) else 0 := m_go_ans (m_gP P n q p cl tn t s y) n q (m_gcl P n q p cl tn t s y) (t + 1) (m_key (m_gP P n q p cl tn t s y) (m_gcl P n q p cl tn t s y) ((t + 1) % 2)) H c13
              have c14 := m_cn_D (m_key (m_gP P n q p cl tn t s y) (m_gcl P n q p cl tn t s y) ((t + 1) % 2)) H
              have c15 := m_ct_in (m_key (m_gP P n q p cl tn t s y) (m_gcl P n q p cl tn t s y) ((t + 1) % 2)) H
              refine AR.blk 2 (f' := (126, [some (vA m), some (vI s), some (vI y), none], [vA m, vA m], (C, N))) (fun _ => rfl) ?_
              refine AR.getR rfl rfl hm.1 (by decide) rfl ?_
              obtain ⟨_, hE22, N23, rfl, hK24, hk25, hf26⟩ := ev_X7_keeps1 (E := E) (d := d) (by omega) hm h7 hK hS.2.1 hm.2.1 (by omega) hM hvG
              have KN23 : g_rK N23 m ((((P, n, q, p, cl, tn), (t, bg, en, ca), (gn, pu, mk), H) :: U).take 8) := hK24
              have hMN23 : g_rM (N23 (m + 1)) ((P, n, q, p, cl, tn), (t, bg, en, ca), (gn, pu, mk), H) := by rw [hf26 (m + 1) (by omega)]; exact hM
              have rN23 : g_rR ((N23) (m + 1)) P n q p cl tn := hMN23.1
              have zN23 : g_rZ ((N23) (m + 1)) t (t % 2) (t / 4) bg en ca gn pu mk := hMN23.2.1
              have sN23 : g_rS ((N23) (m + 1)) t bg en ca gn pu mk := zN23
              have DN23 : g_rD ((N23) (m + 1)) (m_D H) := hMN23.2.2.1
              have pN23 : (bg : Int) = 0 → (N23) (m + 1) 6 = m_cnt P 0 ∧ (N23) (m + 1) 7 = m_cnt P 1 := hMN23.2.2.2
              have hVN23 := g_rW_fr hV (N' := N23) (hk25 5 (by omega)) (hf26 (m + 3) (by omega))
              have hEN23 := g_rE_fr hE (N' := N23) (fun k z0 z1 => hk25 k (by omega))
              have hTN23 := g_rTm_fr hT (N' := N23) (hk25 14 (by omega)) (hf26 (m + 6) (by omega))
              have hLN23 := g_rLm_fr hL (N' := N23) (hk25 16 (by omega)) (hf26 (m + 7) (by omega))
              have h7N23 := (hk25 7 (by omega)).trans h7
              have frN23 : ∀ a, ¬ (m ≤ a ∧ a < m + 9) → (N23) a = N a := fun a ha => (hf26 a (by omega)).trans ((fun _ _ => rfl) a ha)
              refine AR.callV [vA (m + 1)] hE22 hm.1 rfl rfl rfl rfl rfl ?_
              show AR E d _ (132, [some (vA m), some (vI s), some (vI y), none], [], (C, N23)) _
              refine AR.blk 3 (f' := (135, [some (vA m), some (vI s), some (vI y), none], [vI y, vI s, vA m], (C, N23))) (fun _ => rfl) ?_
              obtain ⟨_, hE27, N28, rfl, hr29, hz30, hD31, hk32, hf33⟩ := ev_X7_makes (E := E) (d := d) (by omega) hm rN23 hw (by have z := zN23; rw [c3, c4] at z; exact z) y1 DN23 (by omega) c12 s y (by omega) (by omega) c8 c5 c6
              have cN28 : ∀ kk_ : Int, kk_ = kk_ → N28 m kk_ = (N23) m kk_ := fun kk_ _ => congrFun (hf33 m (by omega)) kk_
              have hKN28 := g_rK_fr KN23 (N' := N28) (cN28 6 (by omega)) (hf33 (m + 2) (by omega))
              have hVN28 := g_rW_fr hVN23 (N' := N28) (cN28 5 (by omega)) (hf33 (m + 3) (by omega))
              have hEN28 := g_rE_fr hEN23 (N' := N28) (fun k z0 z1 => cN28 k (by omega))
              have hTN28 := g_rTm_fr hTN23 (N' := N28) (cN28 14 (by omega)) (hf33 (m + 6) (by omega))
              have hLN28 := g_rLm_fr hLN23 (N' := N28) (cN28 16 (by omega)) (hf33 (m + 7) (by omega))
              have h7N28 := (cN28 7 (by omega)).trans h7N23
              have frN28 : ∀ a, ¬ (m ≤ a ∧ a < m + 9) → (N28) a = N a := fun a ha => (hf33 a (by omega)).trans (frN23 a ha)
              have hMN28 : g_rM (N28 (m + 1)) ((m_gP P n q p cl tn t s y, n, q, p, m_gcl P n q p cl tn t s y, m_gtn P n q p cl tn t s y), (t + 1, bg, m_stl (m_gP P n q p cl tn t s y) n q (m_gcl P n q p cl tn t s y) (t + 1) (m_gH P n q p cl tn t s y H), m_gca P n q p cl tn t ca s y), (m_ggn P gn s y, m_gpu P t pu s y, m_gmk P t mk s y), m_gH P n q p cl tn t s y H) := ⟨hr29, (by have z := hz30; rw [eN, m_gpu_2 c10, m_gmk_2 c10] at z; exact g_rZ_bgc c3.symm z), hD31, fun e => by have e2 : bg = 0 := e; omega⟩
              have rN28 : g_rR ((N28) (m + 1)) (m_gP P n q p cl tn t s y) n q p (m_gcl P n q p cl tn t s y) (m_gtn P n q p cl tn t s y) := hMN28.1
              have zN28 : g_rZ ((N28) (m + 1)) (t + 1) ((t + 1) % 2) ((t + 1) / 4) bg (m_stl (m_gP P n q p cl tn t s y) n q (m_gcl P n q p cl tn t s y) (t + 1) (m_gH P n q p cl tn t s y H)) (m_gca P n q p cl tn t ca s y) (m_ggn P gn s y) (m_gpu P t pu s y) (m_gmk P t mk s y) := hMN28.2.1
              have sN28 : g_rS ((N28) (m + 1)) (t + 1) bg (m_stl (m_gP P n q p cl tn t s y) n q (m_gcl P n q p cl tn t s y) (t + 1) (m_gH P n q p cl tn t s y H)) (m_gca P n q p cl tn t ca s y) (m_ggn P gn s y) (m_gpu P t pu s y) (m_gmk P t mk s y) := zN28
              have DN28 : g_rD ((N28) (m + 1)) (m_D (m_gH P n q p cl tn t s y H)) := hMN28.2.2.1
              have pN28 : (bg : Int) = 0 → (N28) (m + 1) 6 = m_cnt (m_gP P n q p cl tn t s y) 0 ∧ (N28) (m + 1) 7 = m_cnt (m_gP P n q p cl tn t s y) 1 := hMN28.2.2.2
              have vN28 : g_vG ((m_gP P n q p cl tn t s y, n, q, p, m_gcl P n q p cl tn t s y, m_gtn P n q p cl tn t s y), (t + 1, bg, m_stl (m_gP P n q p cl tn t s y) n q (m_gcl P n q p cl tn t s y) (t + 1) (m_gH P n q p cl tn t s y H), m_gca P n q p cl tn t ca s y), (m_ggn P gn s y, m_gpu P t pu s y, m_gmk P t mk s y), m_gH P n q p cl tn t s y H) := g_vG_go hvG hc
              have wN28 : g_wB (m_gP P n q p cl tn t s y) n q p (m_gcl P n q p cl tn t s y) (m_gtn P n q p cl tn t s y) := vN28.1.1
              have yN28 : g_wS (t + 1) bg (m_stl (m_gP P n q p cl tn t s y) n q (m_gcl P n q p cl tn t s y) (t + 1) (m_gH P n q p cl tn t s y H)) (m_gca P n q p cl tn t ca s y) (m_ggn P gn s y) (m_gpu P t pu s y) (m_gmk P t mk s y) := vN28.1.2.2
              refine AR.callV [vI s, vI y] hE27 hm.1 rfl rfl rfl rfl rfl ?_
              show AR E d _ (138, [some (vA m), some (vI s), some (vI y), none], [vI (m_cn (m_key (m_gP P n q p cl tn t s y) (m_gcl P n q p cl tn t s y) ((t + 1) % 2)) (m_D H))], (C, N28)) _
              refine AR.blk 2 (f' := (140, [some (vA m), some (vI s), some (vI y), some (vI (m_cn (m_key (m_gP P n q p cl tn t s y) (m_gcl P n q p cl tn t s y) ((t + 1) % 2)) (m_D H)))], [vA m], (C, N28))) (fun _ => rfl) ?_
              refine AR.getR rfl rfl hm.1 (by decide) rfl ?_
              refine AR.blk 1 (f' := (144, [some (vA m), some (vI s), some (vI y), some (vI (m_cn (m_key (m_gP P n q p cl tn t s y) (m_gcl P n q p cl tn t s y) ((t + 1) % 2)) (m_D H)))], [vI 4, vA (m + 1)], (C, N28))) (fun _ => rfl) ?_
              have f34 := yN28.1
              have f35 := yN28.2.1
              have f36 := yN28.2.2.1
              have f37 := yN28.2.2.2.1
              refine AR.iald rfl hm.2.1 (by omega) (v := m_stl (m_gP P n q p cl tn t s y) n q (m_gcl P n q p cl tn t s y) (t + 1) (m_gH P n q p cl tn t s y H)) sN28.2.2.2.2.1 ?_
              refine AR.if_eq rfl (by omega) (fun c38 => ?_) (fun c38 => ?_)
              · show AR E d _ (169, [some (vA m), some (vI s), some (vI y), some (vI (m_cn (m_key (m_gP P n q p cl tn t s y) (m_gcl P n q p cl tn t s y) ((t + 1) % 2)) (m_D H)))], [], (C, N28)) _
                refine AR.blk 2 (f' := (174, [some (vA m), some (vI s), some (vI y), some (vI (m_cn (m_key (m_gP P n q p cl tn t s y) (m_gcl P n q p cl tn t s y) ((t + 1) % 2)) (m_D H)))], [vI (m_cn (m_key (m_gP P n q p cl tn t s y) (m_gcl P n q p cl tn t s y) ((t + 1) % 2)) (m_D H))], (C, N28))) (fun _ => rfl) ?_
                have eb : m_mvF ((P, n, q, p, cl, tn), (t, bg, en, ca), (gn, pu, mk), H) F s y (-4) = (0, F) := by unfold m_mvF <;> (try dsimp only) <;> (repeat (first | rw [if_pos (by omega)] | rw [if_neg (by omega)])) <;> rfl
                have ea : m_goR ((P, n, q, p, cl, tn), (t, bg, en, ca), (gn, pu, mk), H) s y = m_cn (m_key (m_gP P n q p cl tn t s y) (m_gcl P n q p cl tn t s y) ((t + 1) % 2)) (m_D H) := eA.trans (by repeat (first | rw [if_pos (by omega)] | rw [if_neg (by omega)]))
                refine AR.endI rfl (.inl rfl) ?_
                have e9 : o_move (((P, n, q, p, cl, tn), (t, bg, en, ca), (gn, pu, mk), H), U, V, F, (L, T), (l, ln)) s y = (m_cn (m_key (m_gP P n q p cl tn t s y) (m_gcl P n q p cl tn t s y) ((t + 1) % 2)) (m_D H), (((m_gP P n q p cl tn t s y, n, q, p, m_gcl P n q p cl tn t s y, m_gtn P n q p cl tn t s y), (t + 1, bg, m_stl (m_gP P n q p cl tn t s y) n q (m_gcl P n q p cl tn t s y) (t + 1) (m_gH P n q p cl tn t s y H), m_gca P n q p cl tn t ca s y), (m_ggn P gn s y, m_gpu P t pu s y, m_gmk P t mk s y), m_gH P n q p cl tn t s y H), ((((P, n, q, p, cl, tn), (t, bg, en, ca), (gn, pu, mk), H) :: U).take 8), V, F, (L, T), (l, ln))) := by unfold o_move <;> (try dsimp only) <;> (rw [eb] <;> (try dsimp only) <;> (repeat (first | rw [if_pos (by omega)] | rw [if_neg (by omega)]))) <;> (first | rfl | exact congrArg (fun z => (z, _)) ea)
                rw [e9]
                exact ⟨_, rfl, ⟨hMN28, hKN28, hVN28, hEN28, hTN28, hLN28, h7N28⟩, frN28⟩
              · show AR E d _ (148, [some (vA m), some (vI s), some (vI y), some (vI (m_cn (m_key (m_gP P n q p cl tn t s y) (m_gcl P n q p cl tn t s y) ((t + 1) % 2)) (m_D H)))], [], (C, N28)) _
                refine AR.blk 2 (f' := (150, [some (vA m), some (vI s), some (vI y), some (vI (m_cn (m_key (m_gP P n q p cl tn t s y) (m_gcl P n q p cl tn t s y) ((t + 1) % 2)) (m_D H)))], [vI 3, vI (m_cn (m_key (m_gP P n q p cl tn t s y) (m_gcl P n q p cl tn t s y) ((t + 1) % 2)) (m_D H))], (C, N28))) (fun _ => rfl) ?_
                refine AR.ic_ne rfl (by omega) (fun c39 => ?_) (fun c39 => ?_)
                · show AR E d _ (173, [some (vA m), some (vI s), some (vI y), some (vI (m_cn (m_key (m_gP P n q p cl tn t s y) (m_gcl P n q p cl tn t s y) ((t + 1) % 2)) (m_D H)))], [], (C, N28)) _
                  refine AR.blk 1 (f' := (174, [some (vA m), some (vI s), some (vI y), some (vI (m_cn (m_key (m_gP P n q p cl tn t s y) (m_gcl P n q p cl tn t s y) ((t + 1) % 2)) (m_D H)))], [vI 0], (C, N28))) (fun _ => rfl) ?_
                  have eb : m_mvF ((P, n, q, p, cl, tn), (t, bg, en, ca), (gn, pu, mk), H) F s y (-4) = (0, F) := by unfold m_mvF <;> (try dsimp only) <;> (repeat (first | rw [if_pos (by omega)] | rw [if_neg (by omega)])) <;> rfl
                  have ea : m_goR ((P, n, q, p, cl, tn), (t, bg, en, ca), (gn, pu, mk), H) s y = 0 := eA.trans (by repeat (first | rw [if_pos (by omega)] | rw [if_neg (by omega)]))
                  refine AR.endI rfl (.inl rfl) ?_
                  have e9 : o_move (((P, n, q, p, cl, tn), (t, bg, en, ca), (gn, pu, mk), H), U, V, F, (L, T), (l, ln)) s y = (0, (((m_gP P n q p cl tn t s y, n, q, p, m_gcl P n q p cl tn t s y, m_gtn P n q p cl tn t s y), (t + 1, bg, m_stl (m_gP P n q p cl tn t s y) n q (m_gcl P n q p cl tn t s y) (t + 1) (m_gH P n q p cl tn t s y H), m_gca P n q p cl tn t ca s y), (m_ggn P gn s y, m_gpu P t pu s y, m_gmk P t mk s y), m_gH P n q p cl tn t s y H), ((((P, n, q, p, cl, tn), (t, bg, en, ca), (gn, pu, mk), H) :: U).take 8), V, F, (L, T), (l, ln))) := by unfold o_move <;> (try dsimp only) <;> (rw [eb] <;> (try dsimp only) <;> (repeat (first | rw [if_pos (by omega)] | rw [if_neg (by omega)]))) <;> (first | rfl | exact congrArg (fun z => (z, _)) ea)
                  rw [e9]
                  exact ⟨_, rfl, ⟨hMN28, hKN28, hVN28, hEN28, hTN28, hLN28, h7N28⟩, frN28⟩
                · show AR E d _ (153, [some (vA m), some (vI s), some (vI y), some (vI (m_cn (m_key (m_gP P n q p cl tn t s y) (m_gcl P n q p cl tn t s y) ((t + 1) % 2)) (m_D H)))], [], (C, N28)) _
                  refine AR.blk 2 (f' := (155, [some (vA m), some (vI s), some (vI y), some (vI (m_cn (m_key (m_gP P n q p cl tn t s y) (m_gcl P n q p cl tn t s y) ((t + 1) % 2)) (m_D H)))], [vI 0, vA m], (C, N28))) (fun _ => rfl) ?_
                  refine AR.callV [vI 0] (ev_X7_pieces (by omega) hm rN28 wN28 0 (by omega)) hm.1 rfl rfl rfl rfl rfl ?_
                  show AR E d _ (158, [some (vA m), some (vI s), some (vI y), some (vI (m_cn (m_key (m_gP P n q p cl tn t s y) (m_gcl P n q p cl tn t s y) ((t + 1) % 2)) (m_D H)))], [vI (m_cnt (m_gP P n q p cl tn t s y) 0)], (C, N28)) _
                  have f40 := m_cnt_in (m_gP P n q p cl tn t s y) 0
                  refine AR.if_le rfl (by omega) (fun c41 => ?_) (fun c41 => ?_)
                  · show AR E d _ (173, [some (vA m), some (vI s), some (vI y), some (vI (m_cn (m_key (m_gP P n q p cl tn t s y) (m_gcl P n q p cl tn t s y) ((t + 1) % 2)) (m_D H)))], [], (C, N28)) _
                    refine AR.blk 1 (f' := (174, [some (vA m), some (vI s), some (vI y), some (vI (m_cn (m_key (m_gP P n q p cl tn t s y) (m_gcl P n q p cl tn t s y) ((t + 1) % 2)) (m_D H)))], [vI 0], (C, N28))) (fun _ => rfl) ?_
                    have eb : m_mvF ((P, n, q, p, cl, tn), (t, bg, en, ca), (gn, pu, mk), H) F s y (-4) = (0, F) := by unfold m_mvF <;> (try dsimp only) <;> (repeat (first | rw [if_pos (by omega)] | rw [if_neg (by omega)])) <;> rfl
                    have ea : m_goR ((P, n, q, p, cl, tn), (t, bg, en, ca), (gn, pu, mk), H) s y = 0 := eA.trans (by repeat (first | rw [if_pos (by omega)] | rw [if_neg (by omega)]))
                    refine AR.endI rfl (.inl rfl) ?_
                    have e9 : o_move (((P, n, q, p, cl, tn), (t, bg, en, ca), (gn, pu, mk), H), U, V, F, (L, T), (l, ln)) s y = (0, (((m_gP P n q p cl tn t s y, n, q, p, m_gcl P n q p cl tn t s y, m_gtn P n q p cl tn t s y), (t + 1, bg, m_stl (m_gP P n q p cl tn t s y) n q (m_gcl P n q p cl tn t s y) (t + 1) (m_gH P n q p cl tn t s y H), m_gca P n q p cl tn t ca s y), (m_ggn P gn s y, m_gpu P t pu s y, m_gmk P t mk s y), m_gH P n q p cl tn t s y H), ((((P, n, q, p, cl, tn), (t, bg, en, ca), (gn, pu, mk), H) :: U).take 8), V, F, (L, T), (l, ln))) := by unfold o_move <;> (try dsimp only) <;> (rw [eb] <;> (try dsimp only) <;> (repeat (first | rw [if_pos (by omega)] | rw [if_neg (by omega)]))) <;> (first | rfl | exact congrArg (fun z => (z, _)) ea)
                    rw [e9]
                    exact ⟨_, rfl, ⟨hMN28, hKN28, hVN28, hEN28, hTN28, hLN28, h7N28⟩, frN28⟩
                  · show AR E d _ (161, [some (vA m), some (vI s), some (vI y), some (vI (m_cn (m_key (m_gP P n q p cl tn t s y) (m_gcl P n q p cl tn t s y) ((t + 1) % 2)) (m_D H)))], [], (C, N28)) _
                    refine AR.blk 2 (f' := (163, [some (vA m), some (vI s), some (vI y), some (vI (m_cn (m_key (m_gP P n q p cl tn t s y) (m_gcl P n q p cl tn t s y) ((t + 1) % 2)) (m_D H)))], [vI 1, vA m], (C, N28))) (fun _ => rfl) ?_
                    refine AR.callV [vI 1] (ev_X7_pieces (by omega) hm rN28 wN28 1 (by omega)) hm.1 rfl rfl rfl rfl rfl ?_
                    show AR E d _ (166, [some (vA m), some (vI s), some (vI y), some (vI (m_cn (m_key (m_gP P n q p cl tn t s y) (m_gcl P n q p cl tn t s y) ((t + 1) % 2)) (m_D H)))], [vI (m_cnt (m_gP P n q p cl tn t s y) 1)], (C, N28)) _
                    have f42 := m_cnt_in (m_gP P n q p cl tn t s y) 1
                    refine AR.if_le rfl (by omega) (fun c43 => ?_) (fun c43 => ?_)
                    · show AR E d _ (173, [some (vA m), some (vI s), some (vI y), some (vI (m_cn (m_key (m_gP P n q p cl tn t s y) (m_gcl P n q p cl tn t s y) ((t + 1) % 2)) (m_D H)))], [], (C, N28)) _
                      refine AR.blk 1 (f' := (174, [some (vA m), some (vI s), some (vI y), some (vI (m_cn (m_key (m_gP P n q p cl tn t s y) (m_gcl P n q p cl tn t s y) ((t + 1) % 2)) (m_D H)))], [vI 0], (C, N28))) (fun _ => rfl) ?_
                      have eb : m_mvF ((P, n, q, p, cl, tn), (t, bg, en, ca), (gn, pu, mk), H) F s y (-4) = (0, F) := by unfold m_mvF <;> (try dsimp only) <;> (repeat (first | rw [if_pos (by omega)] | rw [if_neg (by omega)])) <;> rfl
                      have ea : m_goR ((P, n, q, p, cl, tn), (t, bg, en, ca), (gn, pu, mk), H) s y = 0 := eA.trans (by repeat (first | rw [if_pos (by omega)] | rw [if_neg (by omega)]))
                      refine AR.endI rfl (.inl rfl) ?_
                      have e9 : o_move (((P, n, q, p, cl, tn), (t, bg, en, ca), (gn, pu, mk), H), U, V, F, (L, T), (l, ln)) s y = (0, (((m_gP P n q p cl tn t s y, n, q, p, m_gcl P n q p cl tn t s y, m_gtn P n q p cl tn t s y), (t + 1, bg, m_stl (m_gP P n q p cl tn t s y) n q (m_gcl P n q p cl tn t s y) (t + 1) (m_gH P n q p cl tn t s y H), m_gca P n q p cl tn t ca s y), (m_ggn P gn s y, m_gpu P t pu s y, m_gmk P t mk s y), m_gH P n q p cl tn t s y H), ((((P, n, q, p, cl, tn), (t, bg, en, ca), (gn, pu, mk), H) :: U).take 8), V, F, (L, T), (l, ln))) := by unfold o_move <;> (try dsimp only) <;> (rw [eb] <;> (try dsimp only) <;> (repeat (first | rw [if_pos (by omega)] | rw [if_neg (by omega)]))) <;> (first | rfl | exact congrArg (fun z => (z, _)) ea)
                      rw [e9]
                      exact ⟨_, rfl, ⟨hMN28, hKN28, hVN28, hEN28, hTN28, hLN28, h7N28⟩, frN28⟩
                    · show AR E d _ (169, [some (vA m), some (vI s), some (vI y), some (vI (m_cn (m_key (m_gP P n q p cl tn t s y) (m_gcl P n q p cl tn t s y) ((t + 1) % 2)) (m_D H)))], [], (C, N28)) _
                      refine AR.blk 2 (f' := (174, [some (vA m), some (vI s), some (vI y), some (vI (m_cn (m_key (m_gP P n q p cl tn t s y) (m_gcl P n q p cl tn t s y) ((t + 1) % 2)) (m_D H)))], [vI (m_cn (m_key (m_gP P n q p cl tn t s y) (m_gcl P n q p cl tn t s y) ((t + 1) % 2)) (m_D H))], (C, N28))) (fun _ => rfl) ?_
                      have eb : m_mvF ((P, n, q, p, cl, tn), (t, bg, en, ca), (gn, pu, mk), H) F s y (-4) = (0, F) := by unfold m_mvF <;> (try dsimp only) <;> (repeat (first | rw [if_pos (by omega)] | rw [if_neg (by omega)])) <;> rfl
                      have ea : m_goR ((P, n, q, p, cl, tn), (t, bg, en, ca), (gn, pu, mk), H) s y = m_cn (m_key (m_gP P n q p cl tn t s y) (m_gcl P n q p cl tn t s y) ((t + 1) % 2)) (m_D H) := eA.trans (by repeat (first | rw [if_pos (by omega)] | rw [if_neg (by omega)]))
                      refine AR.endI rfl (.inl rfl) ?_
                      have e9 : o_move (((P, n, q, p, cl, tn), (t, bg, en, ca), (gn, pu, mk), H), U, V, F, (L, T), (l, ln)) s y = (m_cn (m_key (m_gP P n q p cl tn t s y) (m_gcl P n q p cl tn t s y) ((t + 1) % 2)) (m_D H), (((m_gP P n q p cl tn t s y, n, q, p, m_gcl P n q p cl tn t s y, m_gtn P n q p cl tn t s y), (t + 1, bg, m_stl (m_gP P n q p cl tn t s y) n q (m_gcl P n q p cl tn t s y) (t + 1) (m_gH P n q p cl tn t s y H), m_gca P n q p cl tn t ca s y), (m_ggn P gn s y, m_gpu P t pu s y, m_gmk P t mk s y), m_gH P n q p cl tn t s y H), ((((P, n, q, p, cl, tn), (t, bg, en, ca), (gn, pu, mk), H) :: U).take 8), V, F, (L, T), (l, ln))) := by unfold o_move <;> (try dsimp only) <;> (rw [eb] <;> (try dsimp only) <;> (repeat (first | rw [if_pos (by omega)] | rw [if_neg (by omega)]))) <;> (first | rfl | exact congrArg (fun z => (z, _)) ea)
                      rw [e9]
                      exact ⟨_, rfl, ⟨hMN28, hKN28, hVN28, hEN28, hTN28, hLN28, h7N28⟩, frN28⟩
            · show AR E d _ (94, [some (vA m), some (vI s), some (vI y), none], [], (C, N)) _
              refine AR.blk 3 (f' := (98, [some (vA m), some (vI s), some (vI y), none], [vI y, vI 9, vA m], (C, N))) (fun _ => rfl) ?_
              obtain ⟨_, hE44, N45, rfl, hE46, hk47, hf48⟩ := ev_X7_refuses (E := E) (d := d) (by omega) hm 9 y (by omega)
              have EN45 : g_rE N45 m (9, y, -4, -4, -4) := hE46
              have hMN45 : g_rM (N45 (m + 1)) ((P, n, q, p, cl, tn), (t, bg, en, ca), (gn, pu, mk), H) := by rw [hf48 (m + 1) (by omega)]; exact hM
              have rN45 : g_rR ((N45) (m + 1)) P n q p cl tn := hMN45.1
              have zN45 : g_rZ ((N45) (m + 1)) t (t % 2) (t / 4) bg en ca gn pu mk := hMN45.2.1
              have sN45 : g_rS ((N45) (m + 1)) t bg en ca gn pu mk := zN45
              have DN45 : g_rD ((N45) (m + 1)) (m_D H) := hMN45.2.2.1
              have pN45 : (bg : Int) = 0 → (N45) (m + 1) 6 = m_cnt P 0 ∧ (N45) (m + 1) 7 = m_cnt P 1 := hMN45.2.2.2
              have hKN45 := g_rK_fr hK (N' := N45) (hk47 6 (by omega)) (hf48 (m + 2) (by omega))
              have hVN45 := g_rW_fr hV (N' := N45) (hk47 5 (by omega)) (hf48 (m + 3) (by omega))
              have hTN45 := g_rTm_fr hT (N' := N45) (hk47 14 (by omega)) (hf48 (m + 6) (by omega))
              have hLN45 := g_rLm_fr hL (N' := N45) (hk47 16 (by omega)) (hf48 (m + 7) (by omega))
              have h7N45 := (hk47 7 (by omega)).trans h7
              have frN45 : ∀ a, ¬ (m ≤ a ∧ a < m + 9) → (N45) a = N a := fun a ha => (hf48 a (by omega)).trans ((fun _ _ => rfl) a ha)
              refine AR.callV [vI 9, vI y] hE44 hm.1 rfl rfl rfl rfl rfl ?_
              show AR E d _ (101, [some (vA m), some (vI s), some (vI y), none], [vI (-3)], (C, N45)) _
              refine AR.blk 5 (f' := (106, [some (vA m), some (vI s), some (vI y), some (vI (-3))], [vI y, vI s, vA m, vA m], (C, N45))) (fun _ => rfl) ?_
              refine AR.callV [vI s, vI y] (ev_X7_against (by omega) hm rN45 hw s y (by omega) (by omega) (by omega)) hm.1 rfl rfl rfl rfl rfl ?_
              show AR E d _ (109, [some (vA m), some (vI s), some (vI y), some (vI (-3))], [vI (m_cause P n q cl s y), vA m], (C, N45)) _
              have f49 := m_cause_in P n q cl s y
              refine AR.putI rfl rfl hm.1 (by decide) (fun q => absurd q (by decide)) ?_
              refine AR.blk 4 (f' := (116, [some (vA m), some (vI s), some (vI y), some (vI (-3))], [vI y, vI s, vA m, vA m], (C, ag_upd N45 m 11 (m_cause P n q cl s y)))) (fun _ => rfl) ?_
              refine AR.callV [vI s, vI y] (ev_X7_againstDetail (by omega) hm (show g_rR ((ag_upd N45 m 11 (m_cause P n q cl s y)) (m + 1)) P n q p cl tn by rw [show (ag_upd N45 m 11 (m_cause P n q cl s y)) (m + 1) = N45 (m + 1) from ag_upd_ne (by omega)]; exact rN45) hw s y (by omega) (by omega) (by omega)) hm.1 rfl rfl rfl rfl rfl ?_
              show AR E d _ (119, [some (vA m), some (vI s), some (vI y), some (vI (-3))], [vI (m_causeD P (m_cause P n q cl s y) s y), vA m], (C, ag_upd N45 m 11 (m_cause P n q cl s y))) _
              refine AR.putI rfl rfl hm.1 (by decide) (fun q => absurd q (by decide)) ?_
              refine AR.blk 1 (f' := (123, [some (vA m), some (vI s), some (vI y), some (vI (-3))], [vI (-3)], (C, ag_upd (ag_upd N45 m 11 (m_cause P n q cl s y)) m 12 (m_causeD P (m_cause P n q cl s y) s y)))) (fun _ => rfl) ?_
              have fQ : ∀ a, a ≠ m → (ag_upd (ag_upd N45 m 11 (m_cause P n q cl s y)) m 12 (m_causeD P (m_cause P n q cl s y) s y)) a = N45 a := fun a ha => (ag_upd_ne ha).trans (ag_upd_ne ha)
              have kQ : ∀ kk_ : Int, ¬ (kk_ = 11 ∨ kk_ = 12) → (ag_upd (ag_upd N45 m 11 (m_cause P n q cl s y)) m 12 (m_causeD P (m_cause P n q cl s y) s y)) m kk_ = N45 m kk_ := fun kk_ hk => (ag_upd_nk (by omega)).trans (ag_upd_nk (by omega))
              have EQ : g_rE (ag_upd (ag_upd N45 m 11 (m_cause P n q cl s y)) m 12 (m_causeD P (m_cause P n q cl s y) s y)) m (9, y, -4, m_cause P n q cl s y, m_causeD P (m_cause P n q cl s y) s y) := g_rE_cause EN45 _ _ (by omega) (by omega)
              have hMQ9 : g_rM (ag_upd (ag_upd N45 m 11 (m_cause P n q cl s y)) m 12 (m_causeD P (m_cause P n q cl s y) s y) (m + 1)) ((P, n, q, p, cl, tn), (t, bg, en, ca), (gn, pu, mk), H) := by rw [fQ (m + 1) (by omega)]; exact hMN45
              have rQ9 : g_rR ((ag_upd (ag_upd N45 m 11 (m_cause P n q cl s y)) m 12 (m_causeD P (m_cause P n q cl s y) s y)) (m + 1)) P n q p cl tn := hMQ9.1
              have zQ9 : g_rZ ((ag_upd (ag_upd N45 m 11 (m_cause P n q cl s y)) m 12 (m_causeD P (m_cause P n q cl s y) s y)) (m + 1)) t (t % 2) (t / 4) bg en ca gn pu mk := hMQ9.2.1
              have sQ9 : g_rS ((ag_upd (ag_upd N45 m 11 (m_cause P n q cl s y)) m 12 (m_causeD P (m_cause P n q cl s y) s y)) (m + 1)) t bg en ca gn pu mk := zQ9
              have DQ9 : g_rD ((ag_upd (ag_upd N45 m 11 (m_cause P n q cl s y)) m 12 (m_causeD P (m_cause P n q cl s y) s y)) (m + 1)) (m_D H) := hMQ9.2.2.1
              have pQ9 : (bg : Int) = 0 → (ag_upd (ag_upd N45 m 11 (m_cause P n q cl s y)) m 12 (m_causeD P (m_cause P n q cl s y) s y)) (m + 1) 6 = m_cnt P 0 ∧ (ag_upd (ag_upd N45 m 11 (m_cause P n q cl s y)) m 12 (m_causeD P (m_cause P n q cl s y) s y)) (m + 1) 7 = m_cnt P 1 := hMQ9.2.2.2
              have hKQ9 := g_rK_fr hKN45 (N' := ag_upd (ag_upd N45 m 11 (m_cause P n q cl s y)) m 12 (m_causeD P (m_cause P n q cl s y) s y)) (kQ 6 (by omega)) (fQ (m + 2) (by omega))
              have hVQ9 := g_rW_fr hVN45 (N' := ag_upd (ag_upd N45 m 11 (m_cause P n q cl s y)) m 12 (m_causeD P (m_cause P n q cl s y) s y)) (kQ 5 (by omega)) (fQ (m + 3) (by omega))
              have hTQ9 := g_rTm_fr hTN45 (N' := ag_upd (ag_upd N45 m 11 (m_cause P n q cl s y)) m 12 (m_causeD P (m_cause P n q cl s y) s y)) (kQ 14 (by omega)) (fQ (m + 6) (by omega))
              have hLQ9 := g_rLm_fr hLN45 (N' := ag_upd (ag_upd N45 m 11 (m_cause P n q cl s y)) m 12 (m_causeD P (m_cause P n q cl s y) s y)) (kQ 16 (by omega)) (fQ (m + 7) (by omega))
              have h7Q9 := (kQ 7 (by omega)).trans h7N45
              have frQ9 : ∀ a, ¬ (m ≤ a ∧ a < m + 9) → (ag_upd (ag_upd N45 m 11 (m_cause P n q cl s y)) m 12 (m_causeD P (m_cause P n q cl s y) s y)) a = N a := fun a ha => (fQ a (by omega)).trans (frN45 a ha)
              have eb : m_mvF ((P, n, q, p, cl, tn), (t, bg, en, ca), (gn, pu, mk), H) F s y (-4) = (-3, (9, y, -4, m_cause P n q cl s y, m_causeD P (m_cause P n q cl s y) s y)) := by unfold m_mvF <;> (try dsimp only) <;> (repeat (first | rw [if_pos (by omega)] | rw [if_neg (by omega)])) <;> rfl
              refine AR.endI rfl (.inl rfl) ?_
              have e9 : o_move (((P, n, q, p, cl, tn), (t, bg, en, ca), (gn, pu, mk), H), U, V, F, (L, T), (l, ln)) s y = (-3, (((P, n, q, p, cl, tn), (t, bg, en, ca), (gn, pu, mk), H), U, V, (9, y, -4, m_cause P n q cl s y, m_causeD P (m_cause P n q cl s y) s y), (L, T), (l, ln))) := by unfold o_move <;> (try dsimp only) <;> (rw [eb] <;> (try dsimp only) <;> (repeat (first | rw [if_pos (by omega)] | rw [if_neg (by omega)]))) <;> rfl
              rw [e9]
              exact ⟨_, rfl, ⟨hMQ9, hKQ9, hVQ9, EQ, hTQ9, hLQ9, h7Q9⟩, frQ9⟩
          · show AR E d _ (72, [some (vA m), some (vI s), some (vI y), none], [], (C, N)) _
            refine AR.blk 3 (f' := (76, [some (vA m), some (vI s), some (vI y), none], [vA m, vI 8, vA m], (C, N))) (fun _ => rfl) ?_
            refine AR.getR rfl rfl hm.1 (by decide) rfl ?_
            refine AR.blk 1 (f' := (80, [some (vA m), some (vI s), some (vI y), none], [vI 1, vA (m + 1), vI 8, vA m], (C, N))) (fun _ => rfl) ?_
            have f50 := hv.1
            have f51 := hv.2.1
            have f52 := hv.2.2.1
            have f53 := hv.2.2.2.1
            refine AR.iald rfl hm.2.1 (by omega) (v := t % 2) s0.2.1 ?_
            obtain ⟨_, hE54, N55, rfl, hE56, hk57, hf58⟩ := ev_X7_refuses (E := E) (d := d) (by omega) hm 8 (t % 2) (by omega)
            have EN55 : g_rE N55 m (8, t % 2, -4, -4, -4) := hE56
            have hMN55 : g_rM (N55 (m + 1)) ((P, n, q, p, cl, tn), (t, bg, en, ca), (gn, pu, mk), H) := by rw [hf58 (m + 1) (by omega)]; exact hM
            have rN55 : g_rR ((N55) (m + 1)) P n q p cl tn := hMN55.1
            have zN55 : g_rZ ((N55) (m + 1)) t (t % 2) (t / 4) bg en ca gn pu mk := hMN55.2.1
            have sN55 : g_rS ((N55) (m + 1)) t bg en ca gn pu mk := zN55
            have DN55 : g_rD ((N55) (m + 1)) (m_D H) := hMN55.2.2.1
            have pN55 : (bg : Int) = 0 → (N55) (m + 1) 6 = m_cnt P 0 ∧ (N55) (m + 1) 7 = m_cnt P 1 := hMN55.2.2.2
            have hKN55 := g_rK_fr hK (N' := N55) (hk57 6 (by omega)) (hf58 (m + 2) (by omega))
            have hVN55 := g_rW_fr hV (N' := N55) (hk57 5 (by omega)) (hf58 (m + 3) (by omega))
            have hTN55 := g_rTm_fr hT (N' := N55) (hk57 14 (by omega)) (hf58 (m + 6) (by omega))
            have hLN55 := g_rLm_fr hL (N' := N55) (hk57 16 (by omega)) (hf58 (m + 7) (by omega))
            have h7N55 := (hk57 7 (by omega)).trans h7
            have frN55 : ∀ a, ¬ (m ≤ a ∧ a < m + 9) → (N55) a = N a := fun a ha => (hf58 a (by omega)).trans ((fun _ _ => rfl) a ha)
            refine AR.callV [vI 8, vI (t % 2)] hE54 hm.1 rfl rfl rfl rfl rfl ?_
            show AR E d _ (84, [some (vA m), some (vI s), some (vI y), none], [vI (-3)], (C, N55)) _
            have eb : m_mvF ((P, n, q, p, cl, tn), (t, bg, en, ca), (gn, pu, mk), H) F s y (-4) = (-3, (8, t % 2, -4, -4, -4)) := by unfold m_mvF <;> (try dsimp only) <;> (repeat (first | rw [if_pos (by omega)] | rw [if_neg (by omega)])) <;> rfl
            refine AR.endI rfl (.inl rfl) ?_
            have e9 : o_move (((P, n, q, p, cl, tn), (t, bg, en, ca), (gn, pu, mk), H), U, V, F, (L, T), (l, ln)) s y = (-3, (((P, n, q, p, cl, tn), (t, bg, en, ca), (gn, pu, mk), H), U, V, (8, t % 2, -4, -4, -4), (L, T), (l, ln))) := by unfold o_move <;> (try dsimp only) <;> (rw [eb] <;> (try dsimp only) <;> (repeat (first | rw [if_pos (by omega)] | rw [if_neg (by omega)]))) <;> rfl
            rw [e9]
            exact ⟨_, rfl, ⟨hMN55, hKN55, hVN55, EN55, hTN55, hLN55, h7N55⟩, frN55⟩
        · show AR E d _ (46, [some (vA m), some (vI s), some (vI y), none], [], (C, N)) _
          refine AR.blk 3 (f' := (49, [some (vA m), some (vI s), some (vI y), none], [vA m, vI 4, vA m], (C, N))) (fun _ => rfl) ?_
          refine AR.getR rfl rfl hm.1 (by decide) rfl ?_
          refine AR.blk 1 (f' := (53, [some (vA m), some (vI s), some (vI y), none], [vI 4, vA (m + 1), vI 4, vA m], (C, N))) (fun _ => rfl) ?_
          have f59 := hv.1
          have f60 := hv.2.1
          have f61 := hv.2.2.1
          have f62 := hv.2.2.2.1
          refine AR.iald rfl hm.2.1 (by omega) (v := en) s0.2.2.2.2.1 ?_
          obtain ⟨_, hE63, N64, rfl, hE65, hk66, hf67⟩ := ev_X7_refuses (E := E) (d := d) (by omega) hm 4 en (by omega)
          have EN64 : g_rE N64 m (4, en, -4, -4, -4) := hE65
          have hMN64 : g_rM (N64 (m + 1)) ((P, n, q, p, cl, tn), (t, bg, en, ca), (gn, pu, mk), H) := by rw [hf67 (m + 1) (by omega)]; exact hM
          have rN64 : g_rR ((N64) (m + 1)) P n q p cl tn := hMN64.1
          have zN64 : g_rZ ((N64) (m + 1)) t (t % 2) (t / 4) bg en ca gn pu mk := hMN64.2.1
          have sN64 : g_rS ((N64) (m + 1)) t bg en ca gn pu mk := zN64
          have DN64 : g_rD ((N64) (m + 1)) (m_D H) := hMN64.2.2.1
          have pN64 : (bg : Int) = 0 → (N64) (m + 1) 6 = m_cnt P 0 ∧ (N64) (m + 1) 7 = m_cnt P 1 := hMN64.2.2.2
          have hKN64 := g_rK_fr hK (N' := N64) (hk66 6 (by omega)) (hf67 (m + 2) (by omega))
          have hVN64 := g_rW_fr hV (N' := N64) (hk66 5 (by omega)) (hf67 (m + 3) (by omega))
          have hTN64 := g_rTm_fr hT (N' := N64) (hk66 14 (by omega)) (hf67 (m + 6) (by omega))
          have hLN64 := g_rLm_fr hL (N' := N64) (hk66 16 (by omega)) (hf67 (m + 7) (by omega))
          have h7N64 := (hk66 7 (by omega)).trans h7
          have frN64 : ∀ a, ¬ (m ≤ a ∧ a < m + 9) → (N64) a = N a := fun a ha => (hf67 a (by omega)).trans ((fun _ _ => rfl) a ha)
          refine AR.callV [vI 4, vI en] hE63 hm.1 rfl rfl rfl rfl rfl ?_
          show AR E d _ (57, [some (vA m), some (vI s), some (vI y), none], [vI (-3)], (C, N64)) _
          have eb : m_mvF ((P, n, q, p, cl, tn), (t, bg, en, ca), (gn, pu, mk), H) F s y (-4) = (-3, (4, en, -4, -4, -4)) := by unfold m_mvF <;> (try dsimp only) <;> (repeat (first | rw [if_pos (by omega)] | rw [if_neg (by omega)])) <;> rfl
          refine AR.endI rfl (.inl rfl) ?_
          have e9 : o_move (((P, n, q, p, cl, tn), (t, bg, en, ca), (gn, pu, mk), H), U, V, F, (L, T), (l, ln)) s y = (-3, (((P, n, q, p, cl, tn), (t, bg, en, ca), (gn, pu, mk), H), U, V, (4, en, -4, -4, -4), (L, T), (l, ln))) := by unfold o_move <;> (try dsimp only) <;> (rw [eb] <;> (try dsimp only) <;> (repeat (first | rw [if_pos (by omega)] | rw [if_neg (by omega)]))) <;> rfl
          rw [e9]
          exact ⟨_, rfl, ⟨hMN64, hKN64, hVN64, EN64, hTN64, hLN64, h7N64⟩, frN64⟩
      · show AR E d _ (30, [some (vA m), some (vI s), some (vI y), none], [], (C, N)) _
        refine AR.blk 3 (f' := (33, [some (vA m), some (vI s), some (vI y), none], [vI 0, vI 3, vA m], (C, N))) (fun _ => rfl) ?_
        obtain ⟨_, hE68, N69, rfl, hE70, hk71, hf72⟩ := ev_X7_refuses (E := E) (d := d) (by omega) hm 3 0 (by omega)
        have EN69 : g_rE N69 m (3, 0, -4, -4, -4) := hE70
        have hMN69 : g_rM (N69 (m + 1)) ((P, n, q, p, cl, tn), (t, bg, en, ca), (gn, pu, mk), H) := by rw [hf72 (m + 1) (by omega)]; exact hM
        have rN69 : g_rR ((N69) (m + 1)) P n q p cl tn := hMN69.1
        have zN69 : g_rZ ((N69) (m + 1)) t (t % 2) (t / 4) bg en ca gn pu mk := hMN69.2.1
        have sN69 : g_rS ((N69) (m + 1)) t bg en ca gn pu mk := zN69
        have DN69 : g_rD ((N69) (m + 1)) (m_D H) := hMN69.2.2.1
        have pN69 : (bg : Int) = 0 → (N69) (m + 1) 6 = m_cnt P 0 ∧ (N69) (m + 1) 7 = m_cnt P 1 := hMN69.2.2.2
        have hKN69 := g_rK_fr hK (N' := N69) (hk71 6 (by omega)) (hf72 (m + 2) (by omega))
        have hVN69 := g_rW_fr hV (N' := N69) (hk71 5 (by omega)) (hf72 (m + 3) (by omega))
        have hTN69 := g_rTm_fr hT (N' := N69) (hk71 14 (by omega)) (hf72 (m + 6) (by omega))
        have hLN69 := g_rLm_fr hL (N' := N69) (hk71 16 (by omega)) (hf72 (m + 7) (by omega))
        have h7N69 := (hk71 7 (by omega)).trans h7
        have frN69 : ∀ a, ¬ (m ≤ a ∧ a < m + 9) → (N69) a = N a := fun a ha => (hf72 a (by omega)).trans ((fun _ _ => rfl) a ha)
        refine AR.callV [vI 3, vI 0] hE68 hm.1 rfl rfl rfl rfl rfl ?_
        show AR E d _ (36, [some (vA m), some (vI s), some (vI y), none], [vI (-3)], (C, N69)) _
        have eb : m_mvF ((P, n, q, p, cl, tn), (t, bg, en, ca), (gn, pu, mk), H) F s y (-4) = (-3, (3, 0, -4, -4, -4)) := by unfold m_mvF <;> (try dsimp only) <;> (repeat (first | rw [if_pos (by omega)] | rw [if_neg (by omega)])) <;> rfl
        refine AR.endI rfl (.inl rfl) ?_
        have e9 : o_move (((P, n, q, p, cl, tn), (t, bg, en, ca), (gn, pu, mk), H), U, V, F, (L, T), (l, ln)) s y = (-3, (((P, n, q, p, cl, tn), (t, bg, en, ca), (gn, pu, mk), H), U, V, (3, 0, -4, -4, -4), (L, T), (l, ln))) := by unfold o_move <;> (try dsimp only) <;> (rw [eb] <;> (try dsimp only) <;> (repeat (first | rw [if_pos (by omega)] | rw [if_neg (by omega)]))) <;> rfl
        rw [e9]
        exact ⟨_, rfl, ⟨hMN69, hKN69, hVN69, EN69, hTN69, hLN69, h7N69⟩, frN69⟩
    · show AR E d _ (18, [some (vA m), some (vI s), some (vI y), none], [], (C, N)) _
      refine AR.blk 1 (f' := (20, [some (vA m), some (vI s), some (vI y), none], [vI (-2)], (C, N))) (fun _ => rfl) ?_
      have eb : m_mvF ((P, n, q, p, cl, tn), (t, bg, en, ca), (gn, pu, mk), H) F s y (-4) = ((-2), F) := by unfold m_mvF <;> (try dsimp only) <;> (repeat (first | rw [if_pos (by omega)] | rw [if_neg (by omega)])) <;> rfl
      refine AR.endI rfl (.inl rfl) ?_
      have e9 : o_move (((P, n, q, p, cl, tn), (t, bg, en, ca), (gn, pu, mk), H), U, V, F, (L, T), (l, ln)) s y = ((-2), (((P, n, q, p, cl, tn), (t, bg, en, ca), (gn, pu, mk), H), U, V, F, (L, T), (l, ln))) := by unfold o_move <;> (try dsimp only) <;> (rw [eb] <;> (try dsimp only) <;> (repeat (first | rw [if_pos (by omega)] | rw [if_neg (by omega)]))) <;> rfl
      rw [e9]
      exact ⟨_, rfl, ⟨hM, hK, hV, hE, hT, hL, h7⟩, (fun _ _ => rfl)⟩
  · show AR E d _ (7, [some (vA m), some (vI s), some (vI y), none], [], (C, N)) _
    refine AR.blk 1 (f' := (8, [some (vA m), some (vI s), some (vI y), none], [vI (-1)], (C, N))) (fun _ => rfl) ?_
    have eb : m_mvF ((P, n, q, p, cl, tn), (t, bg, en, ca), (gn, pu, mk), H) F s y (-4) = ((-1), F) := by unfold m_mvF <;> (try dsimp only) <;> (repeat (first | rw [if_pos (by omega)] | rw [if_neg (by omega)])) <;> rfl
    refine AR.endI rfl (.inl rfl) ?_
    have e9 : o_move (((P, n, q, p, cl, tn), (t, bg, en, ca), (gn, pu, mk), H), U, V, F, (L, T), (l, ln)) s y = ((-1), (((P, n, q, p, cl, tn), (t, bg, en, ca), (gn, pu, mk), H), U, V, F, (L, T), (l, ln))) := by unfold o_move <;> (try dsimp only) <;> (rw [eb] <;> (try dsimp only) <;> (repeat (first | rw [if_pos (by omega)] | rw [if_neg (by omega)]))) <;> rfl
    rw [e9]
    exact ⟨_, rfl, ⟨hM, hK, hV, hE, hT, hL, h7⟩, (fun _ _ => rfl)⟩
end L2I
