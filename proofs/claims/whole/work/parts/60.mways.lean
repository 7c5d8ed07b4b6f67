/-! LEVEL 2: the model: ways; a move within a text -/
def m_mvW (G : m_G) (F : m_F) (s y : Int) : Int × m_F × m_G := if (m_mvF G F s y (-4)).1 ≠ 0 then ((m_mvF G F s y (-4)).1, (m_mvF G F s y (-4)).2, G) else (m_goR G s y, F, m_go G s y)
def g_QMW (C : List ag_C) (N : Nat → Int → Int) (m : Nat) (R : Int × m_F × m_G) : ag_O → Prop := fun r => ∃ N', r = (some (vI R.1), (C, N')) ∧ g_rM (N' (m + 1)) R.2.2 ∧ g_rE N' m R.2.1 ∧ (∀ k, ¬ (8 ≤ k ∧ k ≤ 12) → N' m k = N m k) ∧ ∀ a, ¬ (a = m ∨ a = m + 1) → N' a = N a
section L2K
variable {E : Nat × (Int → Int)} {C : List ag_C} {N : Nat → Int → Int} {m : Nat}

theorem ev_X7_ways {d : Nat} (hd : 11 ≤ d) {G : m_G} {U : List m_G} {V : Option m_G} {F : m_F} {L : Int} {T : Int → Int} {l : Int} {ln : Int → Int} (hm : g_isM C m) (hY : g_rY N m (G, U, V, F, (L, T), (l, ln))) (hS : g_vS (G, U, V, F, (L, T), (l, ln))) (w : Int) (h0 : ag_in w) : ∃ o_, Ev E d 153 [vA m, vI w] (C, N) o_ ∧ g_QY C N m (m_ways G w, (G, U, V, F, (L, T), (l, ln))) o_ := by
  obtain ⟨d, rfl⟩ : ∃ j, d = j + 1 := ⟨d - 1, by omega⟩
  obtain ⟨⟨P, n, q, p, cl, tn⟩, ⟨t, bg, en, ca⟩, ⟨gn, pu, mk⟩, H⟩ := G
  have hM : g_rM (N (m + 1)) ((P, n, q, p, cl, tn), (t, bg, en, ca), (gn, pu, mk), H) := hY.1
  have hK : g_rK N m U := hY.2.1
  have hV : g_rW N m V := hY.2.2.1
  have hE : g_rE N m F := hY.2.2.2.1
  have hT : g_rTm N m L T := hY.2.2.2.2.1
  have hL : g_rLm N m l ln := hY.2.2.2.2.2.1
  have h7 : N m 7 = 0 := hY.2.2.2.2.2.2
  have hvG : g_vG ((P, n, q, p, cl, tn), (t, bg, en, ca), (gn, pu, mk), H) := hS.1
  have hw : g_wB P n q p cl tn := hvG.1.1
  have hwH : g_wH H := hvG.1.2.1
  have hv : g_wS t bg en ca gn pu mk := hvG.1.2.2
  have w1 := hv.1
  have w2 := hv.2.1
  have w3 := hv.2.2.1
  have w4 := hv.2.2.2.1
  have w6 := hv.2.2.2.2.2
  have w7 := hw.2.2.1
  have hwL : 0 ≤ L ∧ L ≤ 70 := hS.2.2.2.1
  have hwl : 0 ≤ l ∧ l ≤ 6 := hS.2.2.2.2.2
  have k8 := hK.2.1
  have r0 : g_rR (N (m + 1)) P n q p cl tn := hM.1
  have z0 : g_rZ (N (m + 1)) t (t % 2) (t / 4) bg en ca gn pu mk := hM.2.1
  have s0 : g_rS (N (m + 1)) t bg en ca gn pu mk := z0
  have D0 : g_rD (N (m + 1)) (m_D H) := hM.2.2.1
  have p0 : (bg : Int) = 0 → N (m + 1) 6 = m_cnt P 0 ∧ N (m + 1) 7 = m_cnt P 1 := hM.2.2.2
  refine Ev.introQ (M := ag_mX7_ways) rfl rfl ?_
  show AR E d _ (0, [some (vA m), some (vI w), none, none, none], [], (C, N)) _
  refine AR.blk 3 (f' := (3, [some (vA m), some (vI w), none, none, none], [vI 2, vI 1, vI w], (C, N))) (fun _ => rfl) ?_
  refine AR.callS [vI w, vI 1, vI 2] (ev_X7_in (by omega) w 1 2 (by omega)) rfl rfl rfl rfl rfl ?_
  show AR E d _ (6, [some (vA m), some (vI w), none, none, none], [vI (if 1 ≤ w ∧ w ≤ 2 then 1 else 0)], (C, N)) _
  refine AR.if_ne rfl (by omega) (fun c1 => ?_) (fun c1 => ?_)
  · show AR E d _ (12, [some (vA m), some (vI w), none, none, none], [], (C, N)) _
    refine AR.blk 2 (f' := (14, [some (vA m), some (vI w), none, none, none], [vI 1, vI w], (C, N))) (fun _ => rfl) ?_
    refine AR.ic_ne rfl (by omega) (fun c2 => ?_) (fun c2 => ?_)
    · show AR E d _ (22, [some (vA m), some (vI w), none, none, none], [], (C, N)) _
      refine AR.blk 4 (f' := (26, [some (vA m), some (vI w), some (vI 0), some (vI 0), none], [], (C, N))) (fun _ => rfl) ?_
      suffices H26 : ∀ (j : Nat) (c : Int) (k : Int) (z4 : Option av) (N9 : Nat → Int → Int), (144 - k).toNat < j → (0 ≤ k ∧ k ≤ 144) → (c = m_sum (m_wayf ((P, n, q, p, cl, tn), (t, bg, en, ca), (gn, pu, mk), H)) k.toNat) → (g_rM (N9 (m + 1)) ((P, n, q, p, cl, tn), (t, bg, en, ca), (gn, pu, mk), H)) → (∀ a, ¬ (a = m + 1 ∨ a = m + 5) → N9 a = N a) → AR E d ag_mX7_ways (26, [some (vA m), some (vI w), some (vI c), some (vI k), z4], [], (C, N9)) (g_QY C N m (m_ways ((P, n, q, p, cl, tn), (t, bg, en, ca), (gn, pu, mk), H) w, (((P, n, q, p, cl, tn), (t, bg, en, ca), (gn, pu, mk), H), U, V, F, (L, T), (l, ln)))) by
        exact H26 _ _ _ _ _ (Nat.lt_succ_self _) (by omega) rfl hM (fun _ _ => rfl)
      intro j
      induction j with
      | zero => intro c k z4 N9 hj; exact absurd hj (Nat.not_lt_zero _)
      | succ j ih26 =>
        intro c k z4 N9 hj26 i0 i1 hM9 qf
        have qk : ∀ j : Int, j = j → N9 m j = N m j := fun j _ => congrFun (qf m (by omega)) j
        have hKN9 := g_rK_fr hK (N' := N9) (qk 6 (by omega)) (qf (m + 2) (by omega))
        have hVN9 := g_rW_fr hV (N' := N9) (qk 5 (by omega)) (qf (m + 3) (by omega))
        have hEN9 := g_rE_fr hE (N' := N9) (fun k z0 z1 => qk k (by omega))
        have hTN9 := g_rTm_fr hT (N' := N9) (qk 14 (by omega)) (qf (m + 6) (by omega))
        have hLN9 := g_rLm_fr hL (N' := N9) (qk 16 (by omega)) (qf (m + 7) (by omega))
        have h7N9 := (qk 7 (by omega)).trans h7
        have frN9 : ∀ a, ¬ (m ≤ a ∧ a < m + 9) → (N9) a = N a := fun a ha => (qf a (by omega)).trans ((fun _ _ => rfl) a ha)
        have rN9 : g_rR (N9 (m + 1)) P n q p cl tn := hM9.1
        have zN9 : g_rZ (N9 (m + 1)) t (t % 2) (t / 4) bg en ca gn pu mk := hM9.2.1
        have sN9 : g_rS (N9 (m + 1)) t bg en ca gn pu mk := zN9
        have DN9 : g_rD (N9 (m + 1)) (m_D H) := hM9.2.2.1
        have pN9 : (bg : Int) = 0 → N9 (m + 1) 6 = m_cnt P 0 ∧ N9 (m + 1) 7 = m_cnt P 1 := hM9.2.2.2
        have z6 : 4 * (k / 4) + k % 4 = k := by omega
        have wy0 : m_open P n q cl t bg en (4 * (k / 4) + k % 4) ≠ 1 → m_wayf ((P, n, q, p, cl, tn), (t, bg, en, ca), (gn, pu, mk), H) k = 0 := by rw [z6]; exact fun z => if_neg z
        have wy1 : m_open P n q cl t bg en (4 * (k / 4) + k % 4) = 1 → m_mvsG (m_go ((P, n, q, p, cl, tn), (t, bg, en, ca), (gn, pu, mk), H) (k / 4) (k % 4)) = m_wayf ((P, n, q, p, cl, tn), (t, bg, en, ca), (gn, pu, mk), H) k := by rw [z6]; exact fun z => (if_pos z).symm
        refine AR.blk 2 (f' := (30, [some (vA m), some (vI w), some (vI c), some (vI k), z4], [vI 144, vI k], (C, N9))) (fun _ => rfl) ?_
        refine AR.ic_ge rfl (by omega) (fun c3 => ?_) (fun c3 => ?_)
        · show AR E d _ (109, [some (vA m), some (vI w), some (vI c), some (vI k), z4], [], (C, N9)) _
          refine AR.blk 1 (f' := (110, [some (vA m), some (vI w), some (vI c), some (vI k), z4], [vI c], (C, N9))) (fun _ => rfl) ?_
          refine AR.endI rfl (.inl rfl) ?_
          have e9 : m_ways ((P, n, q, p, cl, tn), (t, bg, en, ca), (gn, pu, mk), H) w = c := (by unfold m_ways; rw [if_neg (by omega), if_neg (by omega), i1, show k = 144 by omega]; rfl)
          rw [e9]
          exact ⟨_, rfl, ⟨hM9, hKN9, hVN9, hEN9, hTN9, hLN9, h7N9⟩, frN9⟩
        · show AR E d _ (33, [some (vA m), some (vI w), some (vI c), some (vI k), z4], [], (C, N9)) _
          refine AR.blk 3 (f' := (36, [some (vA m), some (vI w), some (vI c), some (vI k), z4], [vI 4, vI k, vA m], (C, N9))) (fun _ => rfl) ?_
          refine AR.idiv rfl (by omega) ?_
          refine AR.blk 2 (f' := (39, [some (vA m), some (vI w), some (vI c), some (vI k), z4], [vI 4, vI k, vI (k / 4), vA m], (C, N9))) (fun _ => rfl) ?_
          refine AR.irem rfl (by omega) ?_
          refine AR.callV [vI (k / 4), vI (k % 4)] (ev_X7_isMove (by omega) hm rN9 hw sN9 hv (k / 4) (k % 4) (by omega) (by omega)) hm.1 rfl rfl rfl rfl rfl ?_
          show AR E d _ (43, [some (vA m), some (vI w), some (vI c), some (vI k), z4], [vI (m_open P n q cl t bg en (4 * (k / 4) + (k % 4)))], (C, N9)) _
          have f4 := m_open_in P n q cl t bg en (4 * (k / 4) + (k % 4))
          refine AR.if_ne rfl (by omega) (fun c5 => ?_) (fun c5 => ?_)
          · show AR E d _ (49, [some (vA m), some (vI w), some (vI c), some (vI k), z4], [], (C, N9)) _
            have zo : m_open P n q cl t bg en (4 * (k / 4) + k % 4) = 1 := by omega
            rw [z6] at zo
            have hc : g_can ((P, n, q, p, cl, tn), (t, bg, en, ca), (gn, pu, mk), H) (k / 4) (k % 4) := m_open_can (by omega) zo
            have hc2 := g_can_of hvG hc
            have c3 : bg = 1 := hc.2.2.1
            have c4 : en = 0 := hc.2.2.2.1
            have c5 : 1 ≤ m_room (k / 4) (k % 4) := hc2.1
            have c6 : t ≤ 119 := hc2.2.2.1
            have c7 : H.length ≤ 120 := hc2.2.2.2
            have c8 : P (k / 4) ≠ -1 := hc2.2.1
            have c10 : m_own (P (k / 4)) = t % 2 := hc.2.2.2.2.1
            have c11 := m_D_len H
            have c12 := m_D_C hvG
            have y1 : g_wS t 1 0 ca gn pu mk := by have z := hv; rw [c3, c4] at z; exact z
            have c13 := (g_vH (P := m_gP P n q p cl tn t (k / 4) (k % 4)) (n := n) (q := q) (cl := m_gcl P n q p cl tn t (k / 4) (k % 4)) (t := t + 1) (x := m_key (m_gP P n q p cl tn t (k / 4) (k % 4)) (m_gcl P n q p cl tn t (k / 4) (k % 4)) ((t + 1) % 2)) (hvG.2.2.2.1 c4).2).2.2
            have eN := m_end_eq (m_gP P n q p cl tn t (k / 4) (k % 4)) n q (m_gcl P n q p cl tn t (k / 4) (k % 4)) (t + 1) (m_key (m_gP P n q p cl tn t (k / 4) (k % 4)) (m_gcl P n q p cl tn t (k / 4) (k % 4)) ((t + 1) % 2)) H c13 (by omega)
            have c14 := m_cn_D (m_key (m_gP P n q p cl tn t (k / 4) (k % 4)) (m_gcl P n q p cl tn t (k / 4) (k % 4)) ((t + 1) % 2)) H
            have c15 := m_ct_in (m_key (m_gP P n q p cl tn t (k / 4) (k % 4)) (m_gcl P n q p cl tn t (k / 4) (k % 4)) ((t + 1) % 2)) H
            refine AR.blk 1 (f' := (50, [some (vA m), some (vI w), some (vI c), some (vI k), z4], [vA m], (C, N9))) (fun _ => rfl) ?_
            refine AR.getR rfl rfl hm.1 (by decide) rfl ?_
            refine AR.blk 2 (f' := (55, [some (vA m), some (vI w), some (vI c), some (vI k), z4], [vA m, vI 0, vA (m + 1)], (C, N9))) (fun _ => rfl) ?_
            refine AR.getR rfl rfl hm.1 (by decide) rfl ?_
            refine AR.blk 1 (f' := (59, [some (vA m), some (vI w), some (vI c), some (vI k), z4], [vI 0, vA (m + 5), vI 0, vA (m + 1)], (C, N9))) (fun _ => rfl) ?_
            obtain ⟨_, hE6, N7, rfl, hq8, hx9, hf10⟩ := ev_X7_copies (E := E) (d := d) (N := N9) (by omega) hm.2.1 hm.2.2.2.2.2.1 (by omega) 0 0 (by omega) (by omega)
            have kN7 : ∀ j : Int, j = j → N7 m j = N9 m j := fun j _ => congrFun (hf10 m (by omega)) j
            have hMN7 : g_rM (N7 (m + 1)) ((P, n, q, p, cl, tn), (t, bg, en, ca), (gn, pu, mk), H) := by rw [hf10 (m + 1) (by omega)]; exact hM9
            have rN7 : g_rR ((N7) (m + 1)) P n q p cl tn := hMN7.1
            have zN7 : g_rZ ((N7) (m + 1)) t (t % 2) (t / 4) bg en ca gn pu mk := hMN7.2.1
            have sN7 : g_rS ((N7) (m + 1)) t bg en ca gn pu mk := zN7
            have DN7 : g_rD ((N7) (m + 1)) (m_D H) := hMN7.2.2.1
            have pN7 : (bg : Int) = 0 → (N7) (m + 1) 6 = m_cnt P 0 ∧ (N7) (m + 1) 7 = m_cnt P 1 := hMN7.2.2.2
            have hKN7 := g_rK_fr hKN9 (N' := N7) (kN7 6 (by omega)) (hf10 (m + 2) (by omega))
            have hVN7 := g_rW_fr hVN9 (N' := N7) (kN7 5 (by omega)) (hf10 (m + 3) (by omega))
            have hEN7 := g_rE_fr hEN9 (N' := N7) (fun k z0 z1 => kN7 k (by omega))
            have hTN7 := g_rTm_fr hTN9 (N' := N7) (kN7 14 (by omega)) (hf10 (m + 6) (by omega))
            have hLN7 := g_rLm_fr hLN9 (N' := N7) (kN7 16 (by omega)) (hf10 (m + 7) (by omega))
            have h7N7 := (kN7 7 (by omega)).trans h7N9
            have frN7 : ∀ a, ¬ (m ≤ a ∧ a < m + 9) → (N7) a = N a := fun a ha => (hf10 a (by omega)).trans (frN9 a ha)
            have f9N7 : ∀ a, ¬ (a = m + 1 ∨ a = m + 5) → (N7) a = N a := fun a ha => (hf10 a (by omega)).trans (qf a ha)
            have hsN7 : g_rM (N7 (m + 5)) ((P, n, q, p, cl, tn), (t, bg, en, ca), (gn, pu, mk), H) := g_rM_cp hvG hM9 (fun j z0 z1 => (hq8 j z0 z1).trans (congrArg (N9 (m + 1)) (by omega)))
            refine AR.callS [vA (m + 1), vI 0, vA (m + 5), vI 0] hE6 rfl rfl rfl rfl rfl ?_
            show AR E d _ (62, [some (vA m), some (vI w), some (vI c), some (vI k), z4], [], (C, N7)) _
            refine AR.blk 3 (f' := (65, [some (vA m), some (vI w), some (vI c), some (vI k), z4], [vI 4, vI k, vA m], (C, N7))) (fun _ => rfl) ?_
            refine AR.idiv rfl (by omega) ?_
            refine AR.blk 2 (f' := (68, [some (vA m), some (vI w), some (vI c), some (vI k), z4], [vI 4, vI k, vI (k / 4), vA m], (C, N7))) (fun _ => rfl) ?_
            refine AR.irem rfl (by omega) ?_
            obtain ⟨_, hE11, N12, rfl, hr13, hz14, hD15, hk16, hf17⟩ := ev_X7_makes (E := E) (d := d) (by omega) hm rN7 hw (by have z := zN7; rw [c3, c4] at z; exact z) y1 DN7 (by omega) c12 (k / 4) (k % 4) (by omega) (by omega) c8 c5 c6
            have cN12 : ∀ kk_ : Int, kk_ = kk_ → N12 m kk_ = (N7) m kk_ := fun kk_ _ => congrFun (hf17 m (by omega)) kk_
            have hKN12 := g_rK_fr hKN7 (N' := N12) (cN12 6 (by omega)) (hf17 (m + 2) (by omega))
            have hVN12 := g_rW_fr hVN7 (N' := N12) (cN12 5 (by omega)) (hf17 (m + 3) (by omega))
            have hEN12 := g_rE_fr hEN7 (N' := N12) (fun k z0 z1 => cN12 k (by omega))
            have hTN12 := g_rTm_fr hTN7 (N' := N12) (cN12 14 (by omega)) (hf17 (m + 6) (by omega))
            have hLN12 := g_rLm_fr hLN7 (N' := N12) (cN12 16 (by omega)) (hf17 (m + 7) (by omega))
            have spN12 : g_rM ((N12) (m + 5)) ((P, n, q, p, cl, tn), (t, bg, en, ca), (gn, pu, mk), H) := by rw [hf17 (m + 5) (by omega)]; exact hsN7
            have h7N12 := (cN12 7 (by omega)).trans h7N7
            have frN12 : ∀ a, ¬ (m ≤ a ∧ a < m + 9) → (N12) a = N a := fun a ha => (hf17 a (by omega)).trans (frN7 a ha)
            have f9N12 : ∀ a, ¬ (a = m + 1 ∨ a = m + 5) → (N12) a = N a := fun a ha => (hf17 a (by omega)).trans (f9N7 a ha)
            have hMN12 : g_rM (N12 (m + 1)) ((m_gP P n q p cl tn t (k / 4) (k % 4), n, q, p, m_gcl P n q p cl tn t (k / 4) (k % 4), m_gtn P n q p cl tn t (k / 4) (k % 4)), (t + 1, bg, m_stl (m_gP P n q p cl tn t (k / 4) (k % 4)) n q (m_gcl P n q p cl tn t (k / 4) (k % 4)) (t + 1) (m_gH P n q p cl tn t (k / 4) (k % 4) H), m_gca P n q p cl tn t ca (k / 4) (k % 4)), (m_ggn P gn (k / 4) (k % 4), m_gpu P t pu (k / 4) (k % 4), m_gmk P t mk (k / 4) (k % 4)), m_gH P n q p cl tn t (k / 4) (k % 4) H) := ⟨hr13, (by have z := hz14; rw [eN, m_gpu_2 c10, m_gmk_2 c10] at z; exact g_rZ_bgc c3.symm z), hD15, fun e => by have e2 : bg = 0 := e; omega⟩
            have rN12 : g_rR ((N12) (m + 1)) (m_gP P n q p cl tn t (k / 4) (k % 4)) n q p (m_gcl P n q p cl tn t (k / 4) (k % 4)) (m_gtn P n q p cl tn t (k / 4) (k % 4)) := hMN12.1
            have zN12 : g_rZ ((N12) (m + 1)) (t + 1) ((t + 1) % 2) ((t + 1) / 4) bg (m_stl (m_gP P n q p cl tn t (k / 4) (k % 4)) n q (m_gcl P n q p cl tn t (k / 4) (k % 4)) (t + 1) (m_gH P n q p cl tn t (k / 4) (k % 4) H)) (m_gca P n q p cl tn t ca (k / 4) (k % 4)) (m_ggn P gn (k / 4) (k % 4)) (m_gpu P t pu (k / 4) (k % 4)) (m_gmk P t mk (k / 4) (k % 4)) := hMN12.2.1
            have sN12 : g_rS ((N12) (m + 1)) (t + 1) bg (m_stl (m_gP P n q p cl tn t (k / 4) (k % 4)) n q (m_gcl P n q p cl tn t (k / 4) (k % 4)) (t + 1) (m_gH P n q p cl tn t (k / 4) (k % 4) H)) (m_gca P n q p cl tn t ca (k / 4) (k % 4)) (m_ggn P gn (k / 4) (k % 4)) (m_gpu P t pu (k / 4) (k % 4)) (m_gmk P t mk (k / 4) (k % 4)) := zN12
            have DN12 : g_rD ((N12) (m + 1)) (m_D (m_gH P n q p cl tn t (k / 4) (k % 4) H)) := hMN12.2.2.1
            have pN12 : (bg : Int) = 0 → (N12) (m + 1) 6 = m_cnt (m_gP P n q p cl tn t (k / 4) (k % 4)) 0 ∧ (N12) (m + 1) 7 = m_cnt (m_gP P n q p cl tn t (k / 4) (k % 4)) 1 := hMN12.2.2.2
            have vN12 : g_vG ((m_gP P n q p cl tn t (k / 4) (k % 4), n, q, p, m_gcl P n q p cl tn t (k / 4) (k % 4), m_gtn P n q p cl tn t (k / 4) (k % 4)), (t + 1, bg, m_stl (m_gP P n q p cl tn t (k / 4) (k % 4)) n q (m_gcl P n q p cl tn t (k / 4) (k % 4)) (t + 1) (m_gH P n q p cl tn t (k / 4) (k % 4) H), m_gca P n q p cl tn t ca (k / 4) (k % 4)), (m_ggn P gn (k / 4) (k % 4), m_gpu P t pu (k / 4) (k % 4), m_gmk P t mk (k / 4) (k % 4)), m_gH P n q p cl tn t (k / 4) (k % 4) H) := g_vG_go hvG hc
            have wN12 : g_wB (m_gP P n q p cl tn t (k / 4) (k % 4)) n q p (m_gcl P n q p cl tn t (k / 4) (k % 4)) (m_gtn P n q p cl tn t (k / 4) (k % 4)) := vN12.1.1
            have yN12 : g_wS (t + 1) bg (m_stl (m_gP P n q p cl tn t (k / 4) (k % 4)) n q (m_gcl P n q p cl tn t (k / 4) (k % 4)) (t + 1) (m_gH P n q p cl tn t (k / 4) (k % 4) H)) (m_gca P n q p cl tn t ca (k / 4) (k % 4)) (m_ggn P gn (k / 4) (k % 4)) (m_gpu P t pu (k / 4) (k % 4)) (m_gmk P t mk (k / 4) (k % 4)) := vN12.1.2.2
            refine AR.callV [vI (k / 4), vI (k % 4)] hE11 hm.1 rfl rfl rfl rfl rfl ?_
            show AR E d _ (72, [some (vA m), some (vI w), some (vI c), some (vI k), z4], [vI (m_cn (m_key (m_gP P n q p cl tn t (k / 4) (k % 4)) (m_gcl P n q p cl tn t (k / 4) (k % 4)) ((t + 1) % 2)) (m_D H))], (C, N12)) _
            refine AR.blk 3 (f' := (77, [some (vA m), some (vI w), some (vI c), some (vI k), some (vI (m_cn (m_key (m_gP P n q p cl tn t (k / 4) (k % 4)) (m_gcl P n q p cl tn t (k / 4) (k % 4)) ((t + 1) % 2)) (m_D H)))], [vI (m_cn (m_key (m_gP P n q p cl tn t (k / 4) (k % 4)) (m_gcl P n q p cl tn t (k / 4) (k % 4)) ((t + 1) % 2)) (m_D H)), vI c], (C, N12))) (fun _ => rfl) ?_
            refine AR.if_le rfl (by omega) (fun c18 => ?_) (fun c18 => ?_)
            · show AR E d _ (87, [some (vA m), some (vI w), some (vI c), some (vI k), some (vI (m_cn (m_key (m_gP P n q p cl tn t (k / 4) (k % 4)) (m_gcl P n q p cl tn t (k / 4) (k % 4)) ((t + 1) % 2)) (m_D H)))], [vI c], (C, N12)) _
              exact False.elim (by omega)
            · show AR E d _ (80, [some (vA m), some (vI w), some (vI c), some (vI k), some (vI (m_cn (m_key (m_gP P n q p cl tn t (k / 4) (k % 4)) (m_gcl P n q p cl tn t (k / 4) (k % 4)) ((t + 1) % 2)) (m_D H)))], [vI c], (C, N12)) _
              refine AR.blk 1 (f' := (81, [some (vA m), some (vI w), some (vI c), some (vI k), some (vI (m_cn (m_key (m_gP P n q p cl tn t (k / 4) (k % 4)) (m_gcl P n q p cl tn t (k / 4) (k % 4)) ((t + 1) % 2)) (m_D H)))], [vA m, vI c], (C, N12))) (fun _ => rfl) ?_
              refine AR.callV [] (ev_X7_moves (by omega) hm rN12 wN12 sN12 yN12  ) hm.1 rfl rfl rfl rfl rfl ?_
              show AR E d _ (84, [some (vA m), some (vI w), some (vI c), some (vI k), some (vI (m_cn (m_key (m_gP P n q p cl tn t (k / 4) (k % 4)) (m_gcl P n q p cl tn t (k / 4) (k % 4)) ((t + 1) % 2)) (m_D H)))], [vI (m_mvs (m_gP P n q p cl tn t (k / 4) (k % 4)) n q (m_gcl P n q p cl tn t (k / 4) (k % 4)) (t + 1) bg (m_stl (m_gP P n q p cl tn t (k / 4) (k % 4)) n q (m_gcl P n q p cl tn t (k / 4) (k % 4)) (t + 1) (m_gH P n q p cl tn t (k / 4) (k % 4) H))), vI c], (C, N12)) _
              have f19 := m_mvs_in (m_gP P n q p cl tn t (k / 4) (k % 4)) n q (m_gcl P n q p cl tn t (k / 4) (k % 4)) (t + 1) bg (m_stl (m_gP P n q p cl tn t (k / 4) (k % 4)) n q (m_gcl P n q p cl tn t (k / 4) (k % 4)) (t + 1) (m_gH P n q p cl tn t (k / 4) (k % 4) H))
              refine AR.blk 4 (f' := (91, [some (vA m), some (vI w), some (vI (c + (m_mvs (m_gP P n q p cl tn t (k / 4) (k % 4)) n q (m_gcl P n q p cl tn t (k / 4) (k % 4)) (t + 1) bg (m_stl (m_gP P n q p cl tn t (k / 4) (k % 4)) n q (m_gcl P n q p cl tn t (k / 4) (k % 4)) (t + 1) (m_gH P n q p cl tn t (k / 4) (k % 4) H))))), some (vI k), some (vI (m_cn (m_key (m_gP P n q p cl tn t (k / 4) (k % 4)) (m_gcl P n q p cl tn t (k / 4) (k % 4)) ((t + 1) % 2)) (m_D H)))], [vA m], (C, N12))) (fun _ => rfl) ?_
              refine AR.getR rfl rfl hm.1 (by decide) rfl ?_
              refine AR.blk 2 (f' := (96, [some (vA m), some (vI w), some (vI (c + (m_mvs (m_gP P n q p cl tn t (k / 4) (k % 4)) n q (m_gcl P n q p cl tn t (k / 4) (k % 4)) (t + 1) bg (m_stl (m_gP P n q p cl tn t (k / 4) (k % 4)) n q (m_gcl P n q p cl tn t (k / 4) (k % 4)) (t + 1) (m_gH P n q p cl tn t (k / 4) (k % 4) H))))), some (vI k), some (vI (m_cn (m_key (m_gP P n q p cl tn t (k / 4) (k % 4)) (m_gcl P n q p cl tn t (k / 4) (k % 4)) ((t + 1) % 2)) (m_D H)))], [vA m, vI 0, vA (m + 5)], (C, N12))) (fun _ => rfl) ?_
              refine AR.getR rfl rfl hm.1 (by decide) rfl ?_
              refine AR.blk 1 (f' := (100, [some (vA m), some (vI w), some (vI (c + (m_mvs (m_gP P n q p cl tn t (k / 4) (k % 4)) n q (m_gcl P n q p cl tn t (k / 4) (k % 4)) (t + 1) bg (m_stl (m_gP P n q p cl tn t (k / 4) (k % 4)) n q (m_gcl P n q p cl tn t (k / 4) (k % 4)) (t + 1) (m_gH P n q p cl tn t (k / 4) (k % 4) H))))), some (vI k), some (vI (m_cn (m_key (m_gP P n q p cl tn t (k / 4) (k % 4)) (m_gcl P n q p cl tn t (k / 4) (k % 4)) ((t + 1) % 2)) (m_D H)))], [vI 0, vA (m + 1), vI 0, vA (m + 5)], (C, N12))) (fun _ => rfl) ?_
              obtain ⟨_, hE20, N21, rfl, hq22, hx23, hf24⟩ := ev_X7_copies (E := E) (d := d) (N := N12) (by omega) hm.2.2.2.2.2.1 hm.2.1 (by omega) 0 0 (by omega) (by omega)
              have kN21 : ∀ j : Int, j = j → N21 m j = N12 m j := fun j _ => congrFun (hf24 m (by omega)) j
              have hKN21 := g_rK_fr hKN12 (N' := N21) (kN21 6 (by omega)) (hf24 (m + 2) (by omega))
              have hVN21 := g_rW_fr hVN12 (N' := N21) (kN21 5 (by omega)) (hf24 (m + 3) (by omega))
              have hEN21 := g_rE_fr hEN12 (N' := N21) (fun k z0 z1 => kN21 k (by omega))
              have hTN21 := g_rTm_fr hTN12 (N' := N21) (kN21 14 (by omega)) (hf24 (m + 6) (by omega))
              have hLN21 := g_rLm_fr hLN12 (N' := N21) (kN21 16 (by omega)) (hf24 (m + 7) (by omega))
              have h7N21 := (kN21 7 (by omega)).trans h7N12
              have frN21 : ∀ a, ¬ (m ≤ a ∧ a < m + 9) → (N21) a = N a := fun a ha => (hf24 a (by omega)).trans (frN12 a ha)
              have f9N21 : ∀ a, ¬ (a = m + 1 ∨ a = m + 5) → (N21) a = N a := fun a ha => (hf24 a (by omega)).trans (f9N12 a ha)
              have hMN21 : g_rM (N21 (m + 1)) ((P, n, q, p, cl, tn), (t, bg, en, ca), (gn, pu, mk), H) := g_rM_cp hvG spN12 (fun j z0 z1 => (hq22 j z0 z1).trans (congrArg (N12 (m + 5)) (by omega)))
              have rN21 : g_rR (N21 (m + 1)) P n q p cl tn := hMN21.1
              have zN21 : g_rZ (N21 (m + 1)) t (t % 2) (t / 4) bg en ca gn pu mk := hMN21.2.1
              have sN21 : g_rS (N21 (m + 1)) t bg en ca gn pu mk := zN21
              have DN21 : g_rD (N21 (m + 1)) (m_D H) := hMN21.2.2.1
              have pN21 : (bg : Int) = 0 → N21 (m + 1) 6 = m_cnt P 0 ∧ N21 (m + 1) 7 = m_cnt P 1 := hMN21.2.2.2
              refine AR.callS [vA (m + 5), vI 0, vA (m + 1), vI 0] hE20 rfl rfl rfl rfl rfl ?_
              show AR E d _ (103, [some (vA m), some (vI w), some (vI (c + (m_mvs (m_gP P n q p cl tn t (k / 4) (k % 4)) n q (m_gcl P n q p cl tn t (k / 4) (k % 4)) (t + 1) bg (m_stl (m_gP P n q p cl tn t (k / 4) (k % 4)) n q (m_gcl P n q p cl tn t (k / 4) (k % 4)) (t + 1) (m_gH P n q p cl tn t (k / 4) (k % 4) H))))), some (vI k), some (vI (m_cn (m_key (m_gP P n q p cl tn t (k / 4) (k % 4)) (m_gcl P n q p cl tn t (k / 4) (k % 4)) ((t + 1) % 2)) (m_D H)))], [], (C, N21)) _
              refine AR.blk 2 (f' := (26, [some (vA m), some (vI w), some (vI (c + (m_mvs (m_gP P n q p cl tn t (k / 4) (k % 4)) n q (m_gcl P n q p cl tn t (k / 4) (k % 4)) (t + 1) bg (m_stl (m_gP P n q p cl tn t (k / 4) (k % 4)) n q (m_gcl P n q p cl tn t (k / 4) (k % 4)) (t + 1) (m_gH P n q p cl tn t (k / 4) (k % 4) H))))), some (vI (k + 1)), some (vI (m_cn (m_key (m_gP P n q p cl tn t (k / 4) (k % 4)) (m_gcl P n q p cl tn t (k / 4) (k % 4)) ((t + 1) % 2)) (m_D H)))], [], (C, N21))) (fun _ => rfl) ?_
              exact ih26 _ _ _ _ (by omega) (by omega) (by rw [m_sum_succ _ (by omega), ← i1]; exact congrArg (fun z => c + z) (wy1 (by omega))) hMN21 f9N21
          · show AR E d _ (46, [some (vA m), some (vI w), some (vI c), some (vI k), z4], [], (C, N9)) _
            refine AR.blk 3 (f' := (26, [some (vA m), some (vI w), some (vI c), some (vI (k + 1)), z4], [], (C, N9))) (fun _ => rfl) ?_
            exact ih26 _ _ _ _ (by omega) (by omega) (by rw [m_sum_succ _ (by omega), ← i1, wy0 (by omega)]; exact (Int.add_zero c).symm) hM9 qf
    · show AR E d _ (17, [some (vA m), some (vI w), none, none, none], [], (C, N)) _
      refine AR.blk 1 (f' := (18, [some (vA m), some (vI w), none, none, none], [vA m], (C, N))) (fun _ => rfl) ?_
      refine AR.callV [] (ev_X7_moves (by omega) hm r0 hw s0 hv  ) hm.1 rfl rfl rfl rfl rfl ?_
      show AR E d _ (21, [some (vA m), some (vI w), none, none, none], [vI (m_mvs P n q cl t bg en)], (C, N)) _
      have f25 := m_mvs_in P n q cl t bg en
      refine AR.endI rfl (.inl rfl) ?_
      have e9 : m_ways ((P, n, q, p, cl, tn), (t, bg, en, ca), (gn, pu, mk), H) w = m_mvs P n q cl t bg en := (by unfold m_ways; rw [if_pos (by omega)]; rfl)
      rw [e9]
      exact ⟨_, rfl, ⟨hM, hK, hV, hE, hT, hL, h7⟩, (fun _ _ => rfl)⟩
  · show AR E d _ (9, [some (vA m), some (vI w), none, none, none], [], (C, N)) _
    refine AR.blk 1 (f' := (11, [some (vA m), some (vI w), none, none, none], [vI (-2)], (C, N))) (fun _ => rfl) ?_
    refine AR.endI rfl (.inl rfl) ?_
    have e9 : m_ways ((P, n, q, p, cl, tn), (t, bg, en, ca), (gn, pu, mk), H) w = (-2) := (by unfold m_ways; rw [if_neg (by omega), if_pos (by omega)])
    rw [e9]
    exact ⟨_, rfl, ⟨hM, hK, hV, hE, hT, hL, h7⟩, (fun _ _ => rfl)⟩

theorem ev_X7_moveW {d : Nat} (hd : 11 ≤ d) (hm : g_isM C m) (h7 : N m 7 = 1) {P : Int → Int} {n : Int} {q p cl tn : Int → Int} {t bg en ca : Int} {gn pu mk : Int → Int} {H : List (Int × Int)} (hM : g_rM (N (m + 1)) ((P, n, q, p, cl, tn), (t, bg, en, ca), (gn, pu, mk), H)) (hvG : g_vG ((P, n, q, p, cl, tn), (t, bg, en, ca), (gn, pu, mk), H)) {F : m_F} (hE : g_rE N m F) (s y : Int) (h0 : ag_in s) (h1 : ag_in y) : ∃ o_, Ev E d 139 [vA m, vI s, vI y] (C, N) o_ ∧ g_QMW C N m (m_mvW ((P, n, q, p, cl, tn), (t, bg, en, ca), (gn, pu, mk), H) F s y) o_ := by
  obtain ⟨d, rfl⟩ : ∃ j, d = j + 1 := ⟨d - 1, by omega⟩
  have hw : g_wB P n q p cl tn := hvG.1.1
  have hwH : g_wH H := hvG.1.2.1
  have hv : g_wS t bg en ca gn pu mk := hvG.1.2.2
  have w1 := hv.1
  have w2 := hv.2.1
  have w3 := hv.2.2.1
  have w4 := hv.2.2.2.1
  have w6 := hv.2.2.2.2.2
  have w7 := hw.2.2.1
  have r0 : g_rR (N (m + 1)) P n q p cl tn := hM.1
  have z0 : g_rZ (N (m + 1)) t (t % 2) (t / 4) bg en ca gn pu mk := hM.2.1
  have s0 : g_rS (N (m + 1)) t bg en ca gn pu mk := z0
  have D0 : g_rD (N (m + 1)) (m_D H) := hM.2.2.1
  have p0 : (bg : Int) = 0 → N (m + 1) 6 = m_cnt P 0 ∧ N (m + 1) 7 = m_cnt P 1 := hM.2.2.2
  have m10 := m_cause_10 P n q cl s y
  refine Ev.introQ (M := ag_mX7_move) rfl rfl ?_
  show AR E d _ (0, [some (vA m), some (vI s), some (vI y), none], [], (C, N)) _
  refine AR.blk 1 (f' := (1, [some (vA m), some (vI s), some (vI y), none], [vI s], (C, N))) (fun _ => rfl) ?_
  refine AR.callS [vI s] (ev_X7_isSquare (by omega) s (by omega)) rfl rfl rfl rfl rfl ?_
  show AR E d _ (4, [some (vA m), some (vI s), some (vI y), none], [vI (if 0 ≤ s ∧ s ≤ 35 then 1 else 0)], (C, N)) _
  refine AR.if_ne rfl (by omega) (fun c1 => ?_) (fun c1 => ?_)
  · show AR E d _ (9, [some (vA m), some (vI s), some (vI y), none], [], (C, N)) _
    refine AR.blk 3 (f' := (12, [some (vA m), some (vI s), some (vI y), none], [vI 3, vI 0, vI y], (C, N))) (fun _ => rfl) ?_
    refine AR.callS [vI y, vI 0, vI 3] (ev_X7_in (by omega) y 0 3 (by omega)) rfl rfl rfl rfl rfl ?_
    show AR E d _ (15, [some (vA m), some (vI s), some (vI y), none], [vI (if 0 ≤ y ∧ y ≤ 3 then 1 else 0)], (C, N)) _
    refine AR.if_ne rfl (by omega) (fun c2 => ?_) (fun c2 => ?_)
    · show AR E d _ (21, [some (vA m), some (vI s), some (vI y), none], [], (C, N)) _
      refine AR.blk 1 (f' := (22, [some (vA m), some (vI s), some (vI y), none], [vA m], (C, N))) (fun _ => rfl) ?_
      refine AR.getR rfl rfl hm.1 (by decide) rfl ?_
      refine AR.blk 1 (f' := (26, [some (vA m), some (vI s), some (vI y), none], [vI 3, vA (m + 1)], (C, N))) (fun _ => rfl) ?_
      have f3 := hv.1
      have f4 := hv.2.1
      have f5 := hv.2.2.1
      have f6 := hv.2.2.2.1
      refine AR.iald rfl hm.2.1 (by omega) (v := bg) s0.2.2.2.1 ?_
      refine AR.if_ne rfl (by omega) (fun c7 => ?_) (fun c7 => ?_)
      · show AR E d _ (37, [some (vA m), some (vI s), some (vI y), none], [], (C, N)) _
        refine AR.blk 1 (f' := (38, [some (vA m), some (vI s), some (vI y), none], [vA m], (C, N))) (fun _ => rfl) ?_
        refine AR.getR rfl rfl hm.1 (by decide) rfl ?_
        refine AR.blk 1 (f' := (42, [some (vA m), some (vI s), some (vI y), none], [vI 4, vA (m + 1)], (C, N))) (fun _ => rfl) ?_
        have f8 := hv.1
        have f9 := hv.2.1
        have f10 := hv.2.2.1
        have f11 := hv.2.2.2.1
        refine AR.iald rfl hm.2.1 (by omega) (v := en) s0.2.2.2.2.1 ?_
        refine AR.if_le rfl (by omega) (fun c12 => ?_) (fun c12 => ?_)
        · show AR E d _ (58, [some (vA m), some (vI s), some (vI y), none], [], (C, N)) _
          refine AR.blk 2 (f' := (60, [some (vA m), some (vI s), some (vI y), none], [vI s, vA m], (C, N))) (fun _ => rfl) ?_
          refine AR.callV [vI s] (ev_X7_sideAt (by omega) hm r0 hw s (by omega)) hm.1 rfl rfl rfl rfl rfl ?_
          show AR E d _ (63, [some (vA m), some (vI s), some (vI y), none], [vI (m_own (P s))], (C, N)) _
          have f13 := m_own_in (P s) (hw.1 s)
          have f14 := hw.1 s
          refine AR.blk 1 (f' := (64, [some (vA m), some (vI s), some (vI y), none], [vA m, vI (m_own (P s))], (C, N))) (fun _ => rfl) ?_
          refine AR.getR rfl rfl hm.1 (by decide) rfl ?_
          refine AR.blk 1 (f' := (68, [some (vA m), some (vI s), some (vI y), none], [vI 1, vA (m + 1), vI (m_own (P s))], (C, N))) (fun _ => rfl) ?_
          have f15 := hv.1
          have f16 := hv.2.1
          have f17 := hv.2.2.1
          have f18 := hv.2.2.2.1
          refine AR.iald rfl hm.2.1 (by omega) (v := t % 2) s0.2.1 ?_
          refine AR.ic_eq rfl (by omega) (fun c19 => ?_) (fun c19 => ?_)
          · show AR E d _ (85, [some (vA m), some (vI s), some (vI y), none], [], (C, N)) _
            refine AR.blk 3 (f' := (88, [some (vA m), some (vI s), some (vI y), none], [vI y, vI s, vA m], (C, N))) (fun _ => rfl) ?_
            refine AR.callV [vI s, vI y] (ev_X7_against (by omega) hm r0 hw s y (by omega) (by omega) (by omega)) hm.1 rfl rfl rfl rfl rfl ?_
            show AR E d _ (91, [some (vA m), some (vI s), some (vI y), none], [vI (m_cause P n q cl s y)], (C, N)) _
            have f20 := m_cause_in P n q cl s y
            refine AR.if_le rfl (by omega) (fun c21 => ?_) (fun c21 => ?_)
            · show AR E d _ (124, [some (vA m), some (vI s), some (vI y), none], [], (C, N)) _
              have hc : g_can ((P, n, q, p, cl, tn), (t, bg, en, ca), (gn, pu, mk), H) s y := ⟨by omega, by omega, (show bg = 1 by omega), (show en = 0 by omega), (show m_own (P s) = t % 2 by omega), (show m_cause P n q cl s y = 0 by omega)⟩
              have hc2 := g_can_of hvG hc
              have c3 : bg = 1 := by omega
              have c4 : en = 0 := by omega
              have c5 : 1 ≤ m_room s y := hc2.1
              have c6 : t ≤ 119 := hc2.2.2.1
              have c7 : H.length ≤ 120 := hc2.2.2.2
              have c8 : P s ≠ -1 := hc2.2.1
              have c10 : m_own (P s) = t % 2 := by omega
              have c11 := m_D_len H
              have c12 := m_D_C hvG
              have y1 : g_wS t 1 0 ca gn pu mk := by have z := hv; rw [c3, c4] at z; exact z
              have c13 := (g_vH (P := m_gP P n q p cl tn t s y) (n := n) (q := q) (cl := m_gcl P n q p cl tn t s y) (t := t + 1) (x := m_key (m_gP P n q p cl tn t s y) (m_gcl P n q p cl tn t s y) ((t + 1) % 2)) (hvG.2.2.2.1 c4).2).2.2
              have eN := m_end_eq (m_gP P n q p cl tn t s y) n q (m_gcl P n q p cl tn t s y) (t + 1) (m_key (m_gP P n q p cl tn t s y) (m_gcl P n q p cl tn t s y) ((t + 1) % 2)) H c13 (by omega)
              have eA : m_stR (m_gP P n q p cl tn t s y) n q (m_gcl P n q p cl tn t s y) (t + 1) (m_gH P n q p cl tn t s y H) = if m_stl (m_gP P n q p cl tn t s y) n q (m_gcl P n q p cl tn t s y) (t + 1) (m_gH P n q p cl tn t s y H) = 0 ∨ (m_cn (m_key (m_gP P n q p cl tn t s y) (m_gcl P n q p cl tn t s y) ((t + 1) % 2)) (m_D H) = 3 ∧ 0 < m_cnt (m_gP P n q p cl tn t s y) 0 ∧ 0 < m_cnt (m_gP P n q p cl tn t s y) 1) then m_cn (m_key (m_gP P n q p cl tn t s y) (m_gcl P n q p cl tn t s y) ((t + 1) % 2)) (m_D H) else 0 := m_go_ans (m_gP P n q p cl tn t s y) n q (m_gcl P n q p cl tn t s y) (t + 1) (m_key (m_gP P n q p cl tn t s y) (m_gcl P n q p cl tn t s y) ((t + 1) % 2)) H c13
              have c14 := m_cn_D (m_key (m_gP P n q p cl tn t s y) (m_gcl P n q p cl tn t s y) ((t + 1) % 2)) H
              have c15 := m_ct_in (m_key (m_gP P n q p cl tn t s y) (m_gcl P n q p cl tn t s y) ((t + 1) % 2)) H
              refine AR.blk 2 (f' := (126, [some (vA m), some (vI s), some (vI y), none], [vA m, vA m], (C, N))) (fun _ => rfl) ?_
              refine AR.getR rfl rfl hm.1 (by decide) rfl ?_
              refine AR.callV [vA (m + 1)] (ev_X7_keeps0 (by omega) hm h7) hm.1 rfl rfl rfl rfl rfl ?_
              show AR E d _ (132, [some (vA m), some (vI s), some (vI y), none], [], (C, N)) _
              refine AR.blk 3 (f' := (135, [some (vA m), some (vI s), some (vI y), none], [vI y, vI s, vA m], (C, N))) (fun _ => rfl) ?_
              obtain ⟨_, hE22, N23, rfl, hr24, hz25, hD26, hk27, hf28⟩ := ev_X7_makes (E := E) (d := d) (by omega) hm r0 hw (by have z := z0; rw [c3, c4] at z; exact z) y1 D0 (by omega) c12 s y (by omega) (by omega) c8 c5 c6
              have cN23 : ∀ kk_ : Int, kk_ = kk_ → N23 m kk_ = (N) m kk_ := fun kk_ _ => congrFun (hf28 m (by omega)) kk_
              have hEN23 := g_rE_fr hE (N' := N23) (fun k z0 z1 => cN23 k (by omega))
              have f9N23 : ∀ a, ¬ (a = m ∨ a = m + 1) → (N23) a = N a := fun a ha => (hf28 a (by omega)).trans ((fun _ _ => rfl) a ha)
              have k9N23 : ∀ a : Int, ¬ (8 ≤ a ∧ a ≤ 12) → (N23) m a = N m a := fun a ha => (cN23 a (by omega)).trans ((fun _ _ => rfl) a ha)
              have hMN23 : g_rM (N23 (m + 1)) ((m_gP P n q p cl tn t s y, n, q, p, m_gcl P n q p cl tn t s y, m_gtn P n q p cl tn t s y), (t + 1, bg, m_stl (m_gP P n q p cl tn t s y) n q (m_gcl P n q p cl tn t s y) (t + 1) (m_gH P n q p cl tn t s y H), m_gca P n q p cl tn t ca s y), (m_ggn P gn s y, m_gpu P t pu s y, m_gmk P t mk s y), m_gH P n q p cl tn t s y H) := ⟨hr24, (by have z := hz25; rw [eN, m_gpu_2 c10, m_gmk_2 c10] at z; exact g_rZ_bgc c3.symm z), hD26, fun e => by have e2 : bg = 0 := e; omega⟩
              have rN23 : g_rR ((N23) (m + 1)) (m_gP P n q p cl tn t s y) n q p (m_gcl P n q p cl tn t s y) (m_gtn P n q p cl tn t s y) := hMN23.1
              have zN23 : g_rZ ((N23) (m + 1)) (t + 1) ((t + 1) % 2) ((t + 1) / 4) bg (m_stl (m_gP P n q p cl tn t s y) n q (m_gcl P n q p cl tn t s y) (t + 1) (m_gH P n q p cl tn t s y H)) (m_gca P n q p cl tn t ca s y) (m_ggn P gn s y) (m_gpu P t pu s y) (m_gmk P t mk s y) := hMN23.2.1
              have sN23 : g_rS ((N23) (m + 1)) (t + 1) bg (m_stl (m_gP P n q p cl tn t s y) n q (m_gcl P n q p cl tn t s y) (t + 1) (m_gH P n q p cl tn t s y H)) (m_gca P n q p cl tn t ca s y) (m_ggn P gn s y) (m_gpu P t pu s y) (m_gmk P t mk s y) := zN23
              have DN23 : g_rD ((N23) (m + 1)) (m_D (m_gH P n q p cl tn t s y H)) := hMN23.2.2.1
              have pN23 : (bg : Int) = 0 → (N23) (m + 1) 6 = m_cnt (m_gP P n q p cl tn t s y) 0 ∧ (N23) (m + 1) 7 = m_cnt (m_gP P n q p cl tn t s y) 1 := hMN23.2.2.2
              have vN23 : g_vG ((m_gP P n q p cl tn t s y, n, q, p, m_gcl P n q p cl tn t s y, m_gtn P n q p cl tn t s y), (t + 1, bg, m_stl (m_gP P n q p cl tn t s y) n q (m_gcl P n q p cl tn t s y) (t + 1) (m_gH P n q p cl tn t s y H), m_gca P n q p cl tn t ca s y), (m_ggn P gn s y, m_gpu P t pu s y, m_gmk P t mk s y), m_gH P n q p cl tn t s y H) := g_vG_go hvG hc
              have wN23 : g_wB (m_gP P n q p cl tn t s y) n q p (m_gcl P n q p cl tn t s y) (m_gtn P n q p cl tn t s y) := vN23.1.1
              have yN23 : g_wS (t + 1) bg (m_stl (m_gP P n q p cl tn t s y) n q (m_gcl P n q p cl tn t s y) (t + 1) (m_gH P n q p cl tn t s y H)) (m_gca P n q p cl tn t ca s y) (m_ggn P gn s y) (m_gpu P t pu s y) (m_gmk P t mk s y) := vN23.1.2.2
              refine AR.callV [vI s, vI y] hE22 hm.1 rfl rfl rfl rfl rfl ?_
              show AR E d _ (138, [some (vA m), some (vI s), some (vI y), none], [vI (m_cn (m_key (m_gP P n q p cl tn t s y) (m_gcl P n q p cl tn t s y) ((t + 1) % 2)) (m_D H))], (C, N23)) _
              refine AR.blk 2 (f' := (140, [some (vA m), some (vI s), some (vI y), some (vI (m_cn (m_key (m_gP P n q p cl tn t s y) (m_gcl P n q p cl tn t s y) ((t + 1) % 2)) (m_D H)))], [vA m], (C, N23))) (fun _ => rfl) ?_
              refine AR.getR rfl rfl hm.1 (by decide) rfl ?_
              refine AR.blk 1 (f' := (144, [some (vA m), some (vI s), some (vI y), some (vI (m_cn (m_key (m_gP P n q p cl tn t s y) (m_gcl P n q p cl tn t s y) ((t + 1) % 2)) (m_D H)))], [vI 4, vA (m + 1)], (C, N23))) (fun _ => rfl) ?_
              have f29 := yN23.1
              have f30 := yN23.2.1
              have f31 := yN23.2.2.1
              have f32 := yN23.2.2.2.1
              refine AR.iald rfl hm.2.1 (by omega) (v := m_stl (m_gP P n q p cl tn t s y) n q (m_gcl P n q p cl tn t s y) (t + 1) (m_gH P n q p cl tn t s y H)) sN23.2.2.2.2.1 ?_
              refine AR.if_eq rfl (by omega) (fun c33 => ?_) (fun c33 => ?_)
              · show AR E d _ (169, [some (vA m), some (vI s), some (vI y), some (vI (m_cn (m_key (m_gP P n q p cl tn t s y) (m_gcl P n q p cl tn t s y) ((t + 1) % 2)) (m_D H)))], [], (C, N23)) _
                refine AR.blk 2 (f' := (174, [some (vA m), some (vI s), some (vI y), some (vI (m_cn (m_key (m_gP P n q p cl tn t s y) (m_gcl P n q p cl tn t s y) ((t + 1) % 2)) (m_D H)))], [vI (m_cn (m_key (m_gP P n q p cl tn t s y) (m_gcl P n q p cl tn t s y) ((t + 1) % 2)) (m_D H))], (C, N23))) (fun _ => rfl) ?_
                have eb : m_mvF ((P, n, q, p, cl, tn), (t, bg, en, ca), (gn, pu, mk), H) F s y (-4) = (0, F) := by unfold m_mvF <;> (try dsimp only) <;> (repeat (first | rw [if_pos (by omega)] | rw [if_neg (by omega)])) <;> rfl
                have ea : m_goR ((P, n, q, p, cl, tn), (t, bg, en, ca), (gn, pu, mk), H) s y = m_cn (m_key (m_gP P n q p cl tn t s y) (m_gcl P n q p cl tn t s y) ((t + 1) % 2)) (m_D H) := eA.trans (by repeat (first | rw [if_pos (by omega)] | rw [if_neg (by omega)]))
                refine AR.endI rfl (.inl rfl) ?_
                have e9 : m_mvW ((P, n, q, p, cl, tn), (t, bg, en, ca), (gn, pu, mk), H) F s y = (m_cn (m_key (m_gP P n q p cl tn t s y) (m_gcl P n q p cl tn t s y) ((t + 1) % 2)) (m_D H), F, ((m_gP P n q p cl tn t s y, n, q, p, m_gcl P n q p cl tn t s y, m_gtn P n q p cl tn t s y), (t + 1, bg, m_stl (m_gP P n q p cl tn t s y) n q (m_gcl P n q p cl tn t s y) (t + 1) (m_gH P n q p cl tn t s y H), m_gca P n q p cl tn t ca s y), (m_ggn P gn s y, m_gpu P t pu s y, m_gmk P t mk s y), m_gH P n q p cl tn t s y H)) := by unfold m_mvW <;> (rw [eb] <;> (try dsimp only) <;> (repeat (first | rw [if_pos (by omega)] | rw [if_neg (by omega)]))) <;> (first | rfl | exact congrArg (fun z => (z, _)) ea)
                rw [e9]
                exact ⟨_, rfl, hMN23, hEN23, k9N23, f9N23⟩
              · show AR E d _ (148, [some (vA m), some (vI s), some (vI y), some (vI (m_cn (m_key (m_gP P n q p cl tn t s y) (m_gcl P n q p cl tn t s y) ((t + 1) % 2)) (m_D H)))], [], (C, N23)) _
                refine AR.blk 2 (f' := (150, [some (vA m), some (vI s), some (vI y), some (vI (m_cn (m_key (m_gP P n q p cl tn t s y) (m_gcl P n q p cl tn t s y) ((t + 1) % 2)) (m_D H)))], [vI 3, vI (m_cn (m_key (m_gP P n q p cl tn t s y) (m_gcl P n q p cl tn t s y) ((t + 1) % 2)) (m_D H))], (C, N23))) (fun _ => rfl) ?_
                refine AR.ic_ne rfl (by omega) (fun c34 => ?_) (fun c34 => ?_)
                · show AR E d _ (173, [some (vA m), some (vI s), some (vI y), some (vI (m_cn (m_key (m_gP P n q p cl tn t s y) (m_gcl P n q p cl tn t s y) ((t + 1) % 2)) (m_D H)))], [], (C, N23)) _
                  refine AR.blk 1 (f' := (174, [some (vA m), some (vI s), some (vI y), some (vI (m_cn (m_key (m_gP P n q p cl tn t s y) (m_gcl P n q p cl tn t s y) ((t + 1) % 2)) (m_D H)))], [vI 0], (C, N23))) (fun _ => rfl) ?_
                  have eb : m_mvF ((P, n, q, p, cl, tn), (t, bg, en, ca), (gn, pu, mk), H) F s y (-4) = (0, F) := by unfold m_mvF <;> (try dsimp only) <;> (repeat (first | rw [if_pos (by omega)] | rw [if_neg (by omega)])) <;> rfl
                  have ea : m_goR ((P, n, q, p, cl, tn), (t, bg, en, ca), (gn, pu, mk), H) s y = 0 := eA.trans (by repeat (first | rw [if_pos (by omega)] | rw [if_neg (by omega)]))
                  refine AR.endI rfl (.inl rfl) ?_
                  have e9 : m_mvW ((P, n, q, p, cl, tn), (t, bg, en, ca), (gn, pu, mk), H) F s y = (0, F, ((m_gP P n q p cl tn t s y, n, q, p, m_gcl P n q p cl tn t s y, m_gtn P n q p cl tn t s y), (t + 1, bg, m_stl (m_gP P n q p cl tn t s y) n q (m_gcl P n q p cl tn t s y) (t + 1) (m_gH P n q p cl tn t s y H), m_gca P n q p cl tn t ca s y), (m_ggn P gn s y, m_gpu P t pu s y, m_gmk P t mk s y), m_gH P n q p cl tn t s y H)) := by unfold m_mvW <;> (rw [eb] <;> (try dsimp only) <;> (repeat (first | rw [if_pos (by omega)] | rw [if_neg (by omega)]))) <;> (first | rfl | exact congrArg (fun z => (z, _)) ea)
                  rw [e9]
                  exact ⟨_, rfl, hMN23, hEN23, k9N23, f9N23⟩
                · show AR E d _ (153, [some (vA m), some (vI s), some (vI y), some (vI (m_cn (m_key (m_gP P n q p cl tn t s y) (m_gcl P n q p cl tn t s y) ((t + 1) % 2)) (m_D H)))], [], (C, N23)) _
                  refine AR.blk 2 (f' := (155, [some (vA m), some (vI s), some (vI y), some (vI (m_cn (m_key (m_gP P n q p cl tn t s y) (m_gcl P n q p cl tn t s y) ((t + 1) % 2)) (m_D H)))], [vI 0, vA m], (C, N23))) (fun _ => rfl) ?_
                  refine AR.callV [vI 0] (ev_X7_pieces (by omega) hm rN23 wN23 0 (by omega)) hm.1 rfl rfl rfl rfl rfl ?_
                  show AR E d _ (158, [some (vA m), some (vI s), some (vI y), some (vI (m_cn (m_key (m_gP P n q p cl tn t s y) (m_gcl P n q p cl tn t s y) ((t + 1) % 2)) (m_D H)))], [vI (m_cnt (m_gP P n q p cl tn t s y) 0)], (C, N23)) _
                  have f35 := m_cnt_in (m_gP P n q p cl tn t s y) 0
                  refine AR.if_le rfl (by omega) (fun c36 => ?_) (fun c36 => ?_)
                  · show AR E d _ (173, [some (vA m), some (vI s), some (vI y), some (vI (m_cn (m_key (m_gP P n q p cl tn t s y) (m_gcl P n q p cl tn t s y) ((t + 1) % 2)) (m_D H)))], [], (C, N23)) _
                    refine AR.blk 1 (f' := (174, [some (vA m), some (vI s), some (vI y), some (vI (m_cn (m_key (m_gP P n q p cl tn t s y) (m_gcl P n q p cl tn t s y) ((t + 1) % 2)) (m_D H)))], [vI 0], (C, N23))) (fun _ => rfl) ?_
                    have eb : m_mvF ((P, n, q, p, cl, tn), (t, bg, en, ca), (gn, pu, mk), H) F s y (-4) = (0, F) := by unfold m_mvF <;> (try dsimp only) <;> (repeat (first | rw [if_pos (by omega)] | rw [if_neg (by omega)])) <;> rfl
                    have ea : m_goR ((P, n, q, p, cl, tn), (t, bg, en, ca), (gn, pu, mk), H) s y = 0 := eA.trans (by repeat (first | rw [if_pos (by omega)] | rw [if_neg (by omega)]))
                    refine AR.endI rfl (.inl rfl) ?_
                    have e9 : m_mvW ((P, n, q, p, cl, tn), (t, bg, en, ca), (gn, pu, mk), H) F s y = (0, F, ((m_gP P n q p cl tn t s y, n, q, p, m_gcl P n q p cl tn t s y, m_gtn P n q p cl tn t s y), (t + 1, bg, m_stl (m_gP P n q p cl tn t s y) n q (m_gcl P n q p cl tn t s y) (t + 1) (m_gH P n q p cl tn t s y H), m_gca P n q p cl tn t ca s y), (m_ggn P gn s y, m_gpu P t pu s y, m_gmk P t mk s y), m_gH P n q p cl tn t s y H)) := by unfold m_mvW <;> (rw [eb] <;> (try dsimp only) <;> (repeat (first | rw [if_pos (by omega)] | rw [if_neg (by omega)]))) <;> (first | rfl | exact congrArg (fun z => (z, _)) ea)
                    rw [e9]
                    exact ⟨_, rfl, hMN23, hEN23, k9N23, f9N23⟩
                  · show AR E d _ (161, [some (vA m), some (vI s), some (vI y), some (vI (m_cn (m_key (m_gP P n q p cl tn t s y) (m_gcl P n q p cl tn t s y) ((t + 1) % 2)) (m_D H)))], [], (C, N23)) _
                    refine AR.blk 2 (f' := (163, [some (vA m), some (vI s), some (vI y), some (vI (m_cn (m_key (m_gP P n q p cl tn t s y) (m_gcl P n q p cl tn t s y) ((t + 1) % 2)) (m_D H)))], [vI 1, vA m], (C, N23))) (fun _ => rfl) ?_
                    refine AR.callV [vI 1] (ev_X7_pieces (by omega) hm rN23 wN23 1 (by omega)) hm.1 rfl rfl rfl rfl rfl ?_
                    show AR E d _ (166, [some (vA m), some (vI s), some (vI y), some (vI (m_cn (m_key (m_gP P n q p cl tn t s y) (m_gcl P n q p cl tn t s y) ((t + 1) % 2)) (m_D H)))], [vI (m_cnt (m_gP P n q p cl tn t s y) 1)], (C, N23)) _
                    have f37 := m_cnt_in (m_gP P n q p cl tn t s y) 1
                    refine AR.if_le rfl (by omega) (fun c38 => ?_) (fun c38 => ?_)
                    · show AR E d _ (173, [some (vA m), some (vI s), some (vI y), some (vI (m_cn (m_key (m_gP P n q p cl tn t s y) (m_gcl P n q p cl tn t s y) ((t + 1) % 2)) (m_D H)))], [], (C, N23)) _
                      refine AR.blk 1 (f' := (174, [some (vA m), some (vI s), some (vI y), some (vI (m_cn (m_key (m_gP P n q p cl tn t s y) (m_gcl P n q p cl tn t s y) ((t + 1) % 2)) (m_D H)))], [vI 0], (C, N23))) (fun _ => rfl) ?_
                      have eb : m_mvF ((P, n, q, p, cl, tn), (t, bg, en, ca), (gn, pu, mk), H) F s y (-4) = (0, F) := by unfold m_mvF <;> (try dsimp only) <;> (repeat (first | rw [if_pos (by omega)] | rw [if_neg (by omega)])) <;> rfl
                      have ea : m_goR ((P, n, q, p, cl, tn), (t, bg, en, ca), (gn, pu, mk), H) s y = 0 := eA.trans (by repeat (first | rw [if_pos (by omega)] | rw [if_neg (by omega)]))
                      refine AR.endI rfl (.inl rfl) ?_
                      have e9 : m_mvW ((P, n, q, p, cl, tn), (t, bg, en, ca), (gn, pu, mk), H) F s y = (0, F, ((m_gP P n q p cl tn t s y, n, q, p, m_gcl P n q p cl tn t s y, m_gtn P n q p cl tn t s y), (t + 1, bg, m_stl (m_gP P n q p cl tn t s y) n q (m_gcl P n q p cl tn t s y) (t + 1) (m_gH P n q p cl tn t s y H), m_gca P n q p cl tn t ca s y), (m_ggn P gn s y, m_gpu P t pu s y, m_gmk P t mk s y), m_gH P n q p cl tn t s y H)) := by unfold m_mvW <;> (rw [eb] <;> (try dsimp only) <;> (repeat (first | rw [if_pos (by omega)] | rw [if_neg (by omega)]))) <;> (first | rfl | exact congrArg (fun z => (z, _)) ea)
                      rw [e9]
                      exact ⟨_, rfl, hMN23, hEN23, k9N23, f9N23⟩
                    · show AR E d _ (169, [some (vA m), some (vI s), some (vI y), some (vI (m_cn (m_key (m_gP P n q p cl tn t s y) (m_gcl P n q p cl tn t s y) ((t + 1) % 2)) (m_D H)))], [], (C, N23)) _
                      refine AR.blk 2 (f' := (174, [some (vA m), some (vI s), some (vI y), some (vI (m_cn (m_key (m_gP P n q p cl tn t s y) (m_gcl P n q p cl tn t s y) ((t + 1) % 2)) (m_D H)))], [vI (m_cn (m_key (m_gP P n q p cl tn t s y) (m_gcl P n q p cl tn t s y) ((t + 1) % 2)) (m_D H))], (C, N23))) (fun _ => rfl) ?_
                      have eb : m_mvF ((P, n, q, p, cl, tn), (t, bg, en, ca), (gn, pu, mk), H) F s y (-4) = (0, F) := by unfold m_mvF <;> (try dsimp only) <;> (repeat (first | rw [if_pos (by omega)] | rw [if_neg (by omega)])) <;> rfl
                      have ea : m_goR ((P, n, q, p, cl, tn), (t, bg, en, ca), (gn, pu, mk), H) s y = m_cn (m_key (m_gP P n q p cl tn t s y) (m_gcl P n q p cl tn t s y) ((t + 1) % 2)) (m_D H) := eA.trans (by repeat (first | rw [if_pos (by omega)] | rw [if_neg (by omega)]))
                      refine AR.endI rfl (.inl rfl) ?_
                      have e9 : m_mvW ((P, n, q, p, cl, tn), (t, bg, en, ca), (gn, pu, mk), H) F s y = (m_cn (m_key (m_gP P n q p cl tn t s y) (m_gcl P n q p cl tn t s y) ((t + 1) % 2)) (m_D H), F, ((m_gP P n q p cl tn t s y, n, q, p, m_gcl P n q p cl tn t s y, m_gtn P n q p cl tn t s y), (t + 1, bg, m_stl (m_gP P n q p cl tn t s y) n q (m_gcl P n q p cl tn t s y) (t + 1) (m_gH P n q p cl tn t s y H), m_gca P n q p cl tn t ca s y), (m_ggn P gn s y, m_gpu P t pu s y, m_gmk P t mk s y), m_gH P n q p cl tn t s y H)) := by unfold m_mvW <;> (rw [eb] <;> (try dsimp only) <;> (repeat (first | rw [if_pos (by omega)] | rw [if_neg (by omega)]))) <;> (first | rfl | exact congrArg (fun z => (z, _)) ea)
                      rw [e9]
                      exact ⟨_, rfl, hMN23, hEN23, k9N23, f9N23⟩
            · show AR E d _ (94, [some (vA m), some (vI s), some (vI y), none], [], (C, N)) _
              refine AR.blk 3 (f' := (98, [some (vA m), some (vI s), some (vI y), none], [vI y, vI 9, vA m], (C, N))) (fun _ => rfl) ?_
              obtain ⟨_, hE39, N40, rfl, hE41, hk42, hf43⟩ := ev_X7_refuses (E := E) (d := d) (by omega) hm 9 y (by omega)
              have EN40 : g_rE N40 m (9, y, -4, -4, -4) := hE41
              have hMN40 : g_rM (N40 (m + 1)) ((P, n, q, p, cl, tn), (t, bg, en, ca), (gn, pu, mk), H) := by rw [hf43 (m + 1) (by omega)]; exact hM
              have rN40 : g_rR ((N40) (m + 1)) P n q p cl tn := hMN40.1
              have zN40 : g_rZ ((N40) (m + 1)) t (t % 2) (t / 4) bg en ca gn pu mk := hMN40.2.1
              have sN40 : g_rS ((N40) (m + 1)) t bg en ca gn pu mk := zN40
              have DN40 : g_rD ((N40) (m + 1)) (m_D H) := hMN40.2.2.1
              have pN40 : (bg : Int) = 0 → (N40) (m + 1) 6 = m_cnt P 0 ∧ (N40) (m + 1) 7 = m_cnt P 1 := hMN40.2.2.2
              have f9N40 : ∀ a, ¬ (a = m ∨ a = m + 1) → (N40) a = N a := fun a ha => (hf43 a (by omega)).trans ((fun _ _ => rfl) a ha)
              have k9N40 : ∀ a : Int, ¬ (8 ≤ a ∧ a ≤ 12) → (N40) m a = N m a := fun a ha => (hk42 a (by omega)).trans ((fun _ _ => rfl) a ha)
              refine AR.callV [vI 9, vI y] hE39 hm.1 rfl rfl rfl rfl rfl ?_
              show AR E d _ (101, [some (vA m), some (vI s), some (vI y), none], [vI (-3)], (C, N40)) _
              refine AR.blk 5 (f' := (106, [some (vA m), some (vI s), some (vI y), some (vI (-3))], [vI y, vI s, vA m, vA m], (C, N40))) (fun _ => rfl) ?_
              refine AR.callV [vI s, vI y] (ev_X7_against (by omega) hm rN40 hw s y (by omega) (by omega) (by omega)) hm.1 rfl rfl rfl rfl rfl ?_
              show AR E d _ (109, [some (vA m), some (vI s), some (vI y), some (vI (-3))], [vI (m_cause P n q cl s y), vA m], (C, N40)) _
              have f44 := m_cause_in P n q cl s y
              refine AR.putI rfl rfl hm.1 (by decide) (fun q => absurd q (by decide)) ?_
              refine AR.blk 4 (f' := (116, [some (vA m), some (vI s), some (vI y), some (vI (-3))], [vI y, vI s, vA m, vA m], (C, ag_upd N40 m 11 (m_cause P n q cl s y)))) (fun _ => rfl) ?_
              refine AR.callV [vI s, vI y] (ev_X7_againstDetail (by omega) hm (show g_rR ((ag_upd N40 m 11 (m_cause P n q cl s y)) (m + 1)) P n q p cl tn by rw [show (ag_upd N40 m 11 (m_cause P n q cl s y)) (m + 1) = N40 (m + 1) from ag_upd_ne (by omega)]; exact rN40) hw s y (by omega) (by omega) (by omega)) hm.1 rfl rfl rfl rfl rfl ?_
              show AR E d _ (119, [some (vA m), some (vI s), some (vI y), some (vI (-3))], [vI (m_causeD P (m_cause P n q cl s y) s y), vA m], (C, ag_upd N40 m 11 (m_cause P n q cl s y))) _
              refine AR.putI rfl rfl hm.1 (by decide) (fun q => absurd q (by decide)) ?_
              refine AR.blk 1 (f' := (123, [some (vA m), some (vI s), some (vI y), some (vI (-3))], [vI (-3)], (C, ag_upd (ag_upd N40 m 11 (m_cause P n q cl s y)) m 12 (m_causeD P (m_cause P n q cl s y) s y)))) (fun _ => rfl) ?_
              have fQ : ∀ a, a ≠ m → (ag_upd (ag_upd N40 m 11 (m_cause P n q cl s y)) m 12 (m_causeD P (m_cause P n q cl s y) s y)) a = N40 a := fun a ha => (ag_upd_ne ha).trans (ag_upd_ne ha)
              have kQ : ∀ kk_ : Int, ¬ (kk_ = 11 ∨ kk_ = 12) → (ag_upd (ag_upd N40 m 11 (m_cause P n q cl s y)) m 12 (m_causeD P (m_cause P n q cl s y) s y)) m kk_ = N40 m kk_ := fun kk_ hk => (ag_upd_nk (by omega)).trans (ag_upd_nk (by omega))
              have EQ : g_rE (ag_upd (ag_upd N40 m 11 (m_cause P n q cl s y)) m 12 (m_causeD P (m_cause P n q cl s y) s y)) m (9, y, -4, m_cause P n q cl s y, m_causeD P (m_cause P n q cl s y) s y) := g_rE_cause EN40 _ _ (by omega) (by omega)
              have hMQ9 : g_rM (ag_upd (ag_upd N40 m 11 (m_cause P n q cl s y)) m 12 (m_causeD P (m_cause P n q cl s y) s y) (m + 1)) ((P, n, q, p, cl, tn), (t, bg, en, ca), (gn, pu, mk), H) := by rw [fQ (m + 1) (by omega)]; exact hMN40
              have rQ9 : g_rR ((ag_upd (ag_upd N40 m 11 (m_cause P n q cl s y)) m 12 (m_causeD P (m_cause P n q cl s y) s y)) (m + 1)) P n q p cl tn := hMQ9.1
              have zQ9 : g_rZ ((ag_upd (ag_upd N40 m 11 (m_cause P n q cl s y)) m 12 (m_causeD P (m_cause P n q cl s y) s y)) (m + 1)) t (t % 2) (t / 4) bg en ca gn pu mk := hMQ9.2.1
              have sQ9 : g_rS ((ag_upd (ag_upd N40 m 11 (m_cause P n q cl s y)) m 12 (m_causeD P (m_cause P n q cl s y) s y)) (m + 1)) t bg en ca gn pu mk := zQ9
              have DQ9 : g_rD ((ag_upd (ag_upd N40 m 11 (m_cause P n q cl s y)) m 12 (m_causeD P (m_cause P n q cl s y) s y)) (m + 1)) (m_D H) := hMQ9.2.2.1
              have pQ9 : (bg : Int) = 0 → (ag_upd (ag_upd N40 m 11 (m_cause P n q cl s y)) m 12 (m_causeD P (m_cause P n q cl s y) s y)) (m + 1) 6 = m_cnt P 0 ∧ (ag_upd (ag_upd N40 m 11 (m_cause P n q cl s y)) m 12 (m_causeD P (m_cause P n q cl s y) s y)) (m + 1) 7 = m_cnt P 1 := hMQ9.2.2.2
              have f9Q9 : ∀ a, ¬ (a = m ∨ a = m + 1) → (ag_upd (ag_upd N40 m 11 (m_cause P n q cl s y)) m 12 (m_causeD P (m_cause P n q cl s y) s y)) a = N a := fun a ha => (fQ a (by omega)).trans (f9N40 a ha)
              have k9Q9 : ∀ a : Int, ¬ (8 ≤ a ∧ a ≤ 12) → (ag_upd (ag_upd N40 m 11 (m_cause P n q cl s y)) m 12 (m_causeD P (m_cause P n q cl s y) s y)) m a = N m a := fun a ha => (kQ a (by omega)).trans (k9N40 a ha)
              have eb : m_mvF ((P, n, q, p, cl, tn), (t, bg, en, ca), (gn, pu, mk), H) F s y (-4) = (-3, (9, y, -4, m_cause P n q cl s y, m_causeD P (m_cause P n q cl s y) s y)) := by unfold m_mvF <;> (try dsimp only) <;> (repeat (first | rw [if_pos (by omega)] | rw [if_neg (by omega)])) <;> rfl
              refine AR.endI rfl (.inl rfl) ?_
              have e9 : m_mvW ((P, n, q, p, cl, tn), (t, bg, en, ca), (gn, pu, mk), H) F s y = (-3, (9, y, -4, m_cause P n q cl s y, m_causeD P (m_cause P n q cl s y) s y), ((P, n, q, p, cl, tn), (t, bg, en, ca), (gn, pu, mk), H)) := by unfold m_mvW <;> (rw [eb] <;> (try dsimp only) <;> (repeat (first | rw [if_pos (by omega)] | rw [if_neg (by omega)]))) <;> rfl
              rw [e9]
              exact ⟨_, rfl, hMQ9, EQ, k9Q9, f9Q9⟩
          · show AR E d _ (72, [some (vA m), some (vI s), some (vI y), none], [], (C, N)) _
            refine AR.blk 3 (f' := (76, [some (vA m), some (vI s), some (vI y), none], [vA m, vI 8, vA m], (C, N))) (fun _ => rfl) ?_
            refine AR.getR rfl rfl hm.1 (by decide) rfl ?_
            refine AR.blk 1 (f' := (80, [some (vA m), some (vI s), some (vI y), none], [vI 1, vA (m + 1), vI 8, vA m], (C, N))) (fun _ => rfl) ?_
            have f45 := hv.1
            have f46 := hv.2.1
            have f47 := hv.2.2.1
            have f48 := hv.2.2.2.1
            refine AR.iald rfl hm.2.1 (by omega) (v := t % 2) s0.2.1 ?_
            obtain ⟨_, hE49, N50, rfl, hE51, hk52, hf53⟩ := ev_X7_refuses (E := E) (d := d) (by omega) hm 8 (t % 2) (by omega)
            have EN50 : g_rE N50 m (8, t % 2, -4, -4, -4) := hE51
            have hMN50 : g_rM (N50 (m + 1)) ((P, n, q, p, cl, tn), (t, bg, en, ca), (gn, pu, mk), H) := by rw [hf53 (m + 1) (by omega)]; exact hM
            have rN50 : g_rR ((N50) (m + 1)) P n q p cl tn := hMN50.1
            have zN50 : g_rZ ((N50) (m + 1)) t (t % 2) (t / 4) bg en ca gn pu mk := hMN50.2.1
            have sN50 : g_rS ((N50) (m + 1)) t bg en ca gn pu mk := zN50
            have DN50 : g_rD ((N50) (m + 1)) (m_D H) := hMN50.2.2.1
            have pN50 : (bg : Int) = 0 → (N50) (m + 1) 6 = m_cnt P 0 ∧ (N50) (m + 1) 7 = m_cnt P 1 := hMN50.2.2.2
            have f9N50 : ∀ a, ¬ (a = m ∨ a = m + 1) → (N50) a = N a := fun a ha => (hf53 a (by omega)).trans ((fun _ _ => rfl) a ha)
            have k9N50 : ∀ a : Int, ¬ (8 ≤ a ∧ a ≤ 12) → (N50) m a = N m a := fun a ha => (hk52 a (by omega)).trans ((fun _ _ => rfl) a ha)
            refine AR.callV [vI 8, vI (t % 2)] hE49 hm.1 rfl rfl rfl rfl rfl ?_
            show AR E d _ (84, [some (vA m), some (vI s), some (vI y), none], [vI (-3)], (C, N50)) _
            have eb : m_mvF ((P, n, q, p, cl, tn), (t, bg, en, ca), (gn, pu, mk), H) F s y (-4) = (-3, (8, t % 2, -4, -4, -4)) := by unfold m_mvF <;> (try dsimp only) <;> (repeat (first | rw [if_pos (by omega)] | rw [if_neg (by omega)])) <;> rfl
            refine AR.endI rfl (.inl rfl) ?_
            have e9 : m_mvW ((P, n, q, p, cl, tn), (t, bg, en, ca), (gn, pu, mk), H) F s y = (-3, (8, t % 2, -4, -4, -4), ((P, n, q, p, cl, tn), (t, bg, en, ca), (gn, pu, mk), H)) := by unfold m_mvW <;> (rw [eb] <;> (try dsimp only) <;> (repeat (first | rw [if_pos (by omega)] | rw [if_neg (by omega)]))) <;> rfl
            rw [e9]
            exact ⟨_, rfl, hMN50, EN50, k9N50, f9N50⟩
        · show AR E d _ (46, [some (vA m), some (vI s), some (vI y), none], [], (C, N)) _
          refine AR.blk 3 (f' := (49, [some (vA m), some (vI s), some (vI y), none], [vA m, vI 4, vA m], (C, N))) (fun _ => rfl) ?_
          refine AR.getR rfl rfl hm.1 (by decide) rfl ?_
          refine AR.blk 1 (f' := (53, [some (vA m), some (vI s), some (vI y), none], [vI 4, vA (m + 1), vI 4, vA m], (C, N))) (fun _ => rfl) ?_
          have f54 := hv.1
          have f55 := hv.2.1
          have f56 := hv.2.2.1
          have f57 := hv.2.2.2.1
          refine AR.iald rfl hm.2.1 (by omega) (v := en) s0.2.2.2.2.1 ?_
          obtain ⟨_, hE58, N59, rfl, hE60, hk61, hf62⟩ := ev_X7_refuses (E := E) (d := d) (by omega) hm 4 en (by omega)
          have EN59 : g_rE N59 m (4, en, -4, -4, -4) := hE60
          have hMN59 : g_rM (N59 (m + 1)) ((P, n, q, p, cl, tn), (t, bg, en, ca), (gn, pu, mk), H) := by rw [hf62 (m + 1) (by omega)]; exact hM
          have rN59 : g_rR ((N59) (m + 1)) P n q p cl tn := hMN59.1
          have zN59 : g_rZ ((N59) (m + 1)) t (t % 2) (t / 4) bg en ca gn pu mk := hMN59.2.1
          have sN59 : g_rS ((N59) (m + 1)) t bg en ca gn pu mk := zN59
          have DN59 : g_rD ((N59) (m + 1)) (m_D H) := hMN59.2.2.1
          have pN59 : (bg : Int) = 0 → (N59) (m + 1) 6 = m_cnt P 0 ∧ (N59) (m + 1) 7 = m_cnt P 1 := hMN59.2.2.2
          have f9N59 : ∀ a, ¬ (a = m ∨ a = m + 1) → (N59) a = N a := fun a ha => (hf62 a (by omega)).trans ((fun _ _ => rfl) a ha)
          have k9N59 : ∀ a : Int, ¬ (8 ≤ a ∧ a ≤ 12) → (N59) m a = N m a := fun a ha => (hk61 a (by omega)).trans ((fun _ _ => rfl) a ha)
          refine AR.callV [vI 4, vI en] hE58 hm.1 rfl rfl rfl rfl rfl ?_
          show AR E d _ (57, [some (vA m), some (vI s), some (vI y), none], [vI (-3)], (C, N59)) _
          have eb : m_mvF ((P, n, q, p, cl, tn), (t, bg, en, ca), (gn, pu, mk), H) F s y (-4) = (-3, (4, en, -4, -4, -4)) := by unfold m_mvF <;> (try dsimp only) <;> (repeat (first | rw [if_pos (by omega)] | rw [if_neg (by omega)])) <;> rfl
          refine AR.endI rfl (.inl rfl) ?_
          have e9 : m_mvW ((P, n, q, p, cl, tn), (t, bg, en, ca), (gn, pu, mk), H) F s y = (-3, (4, en, -4, -4, -4), ((P, n, q, p, cl, tn), (t, bg, en, ca), (gn, pu, mk), H)) := by unfold m_mvW <;> (rw [eb] <;> (try dsimp only) <;> (repeat (first | rw [if_pos (by omega)] | rw [if_neg (by omega)]))) <;> rfl
          rw [e9]
          exact ⟨_, rfl, hMN59, EN59, k9N59, f9N59⟩
      · show AR E d _ (30, [some (vA m), some (vI s), some (vI y), none], [], (C, N)) _
        refine AR.blk 3 (f' := (33, [some (vA m), some (vI s), some (vI y), none], [vI 0, vI 3, vA m], (C, N))) (fun _ => rfl) ?_
        obtain ⟨_, hE63, N64, rfl, hE65, hk66, hf67⟩ := ev_X7_refuses (E := E) (d := d) (by omega) hm 3 0 (by omega)
        have EN64 : g_rE N64 m (3, 0, -4, -4, -4) := hE65
        have hMN64 : g_rM (N64 (m + 1)) ((P, n, q, p, cl, tn), (t, bg, en, ca), (gn, pu, mk), H) := by rw [hf67 (m + 1) (by omega)]; exact hM
        have rN64 : g_rR ((N64) (m + 1)) P n q p cl tn := hMN64.1
        have zN64 : g_rZ ((N64) (m + 1)) t (t % 2) (t / 4) bg en ca gn pu mk := hMN64.2.1
        have sN64 : g_rS ((N64) (m + 1)) t bg en ca gn pu mk := zN64
        have DN64 : g_rD ((N64) (m + 1)) (m_D H) := hMN64.2.2.1
        have pN64 : (bg : Int) = 0 → (N64) (m + 1) 6 = m_cnt P 0 ∧ (N64) (m + 1) 7 = m_cnt P 1 := hMN64.2.2.2
        have f9N64 : ∀ a, ¬ (a = m ∨ a = m + 1) → (N64) a = N a := fun a ha => (hf67 a (by omega)).trans ((fun _ _ => rfl) a ha)
        have k9N64 : ∀ a : Int, ¬ (8 ≤ a ∧ a ≤ 12) → (N64) m a = N m a := fun a ha => (hk66 a (by omega)).trans ((fun _ _ => rfl) a ha)
        refine AR.callV [vI 3, vI 0] hE63 hm.1 rfl rfl rfl rfl rfl ?_
        show AR E d _ (36, [some (vA m), some (vI s), some (vI y), none], [vI (-3)], (C, N64)) _
        have eb : m_mvF ((P, n, q, p, cl, tn), (t, bg, en, ca), (gn, pu, mk), H) F s y (-4) = (-3, (3, 0, -4, -4, -4)) := by unfold m_mvF <;> (try dsimp only) <;> (repeat (first | rw [if_pos (by omega)] | rw [if_neg (by omega)])) <;> rfl
        refine AR.endI rfl (.inl rfl) ?_
        have e9 : m_mvW ((P, n, q, p, cl, tn), (t, bg, en, ca), (gn, pu, mk), H) F s y = (-3, (3, 0, -4, -4, -4), ((P, n, q, p, cl, tn), (t, bg, en, ca), (gn, pu, mk), H)) := by unfold m_mvW <;> (rw [eb] <;> (try dsimp only) <;> (repeat (first | rw [if_pos (by omega)] | rw [if_neg (by omega)]))) <;> rfl
        rw [e9]
        exact ⟨_, rfl, hMN64, EN64, k9N64, f9N64⟩
    · show AR E d _ (18, [some (vA m), some (vI s), some (vI y), none], [], (C, N)) _
      refine AR.blk 1 (f' := (20, [some (vA m), some (vI s), some (vI y), none], [vI (-2)], (C, N))) (fun _ => rfl) ?_
      have eb : m_mvF ((P, n, q, p, cl, tn), (t, bg, en, ca), (gn, pu, mk), H) F s y (-4) = ((-2), F) := by unfold m_mvF <;> (try dsimp only) <;> (repeat (first | rw [if_pos (by omega)] | rw [if_neg (by omega)])) <;> rfl
      refine AR.endI rfl (.inl rfl) ?_
      have e9 : m_mvW ((P, n, q, p, cl, tn), (t, bg, en, ca), (gn, pu, mk), H) F s y = ((-2), F, ((P, n, q, p, cl, tn), (t, bg, en, ca), (gn, pu, mk), H)) := by unfold m_mvW <;> (rw [eb] <;> (try dsimp only) <;> (repeat (first | rw [if_pos (by omega)] | rw [if_neg (by omega)]))) <;> rfl
      rw [e9]
      exact ⟨_, rfl, hM, hE, (fun _ _ => rfl), (fun _ _ => rfl)⟩
  · show AR E d _ (7, [some (vA m), some (vI s), some (vI y), none], [], (C, N)) _
    refine AR.blk 1 (f' := (8, [some (vA m), some (vI s), some (vI y), none], [vI (-1)], (C, N))) (fun _ => rfl) ?_
    have eb : m_mvF ((P, n, q, p, cl, tn), (t, bg, en, ca), (gn, pu, mk), H) F s y (-4) = ((-1), F) := by unfold m_mvF <;> (try dsimp only) <;> (repeat (first | rw [if_pos (by omega)] | rw [if_neg (by omega)])) <;> rfl
    refine AR.endI rfl (.inl rfl) ?_
    have e9 : m_mvW ((P, n, q, p, cl, tn), (t, bg, en, ca), (gn, pu, mk), H) F s y = ((-1), F, ((P, n, q, p, cl, tn), (t, bg, en, ca), (gn, pu, mk), H)) := by unfold m_mvW <;> (rw [eb] <;> (try dsimp only) <;> (repeat (first | rw [if_pos (by omega)] | rw [if_neg (by omega)]))) <;> rfl
    rw [e9]
    exact ⟨_, rfl, hM, hE, (fun _ _ => rfl), (fun _ _ => rfl)⟩
end L2K
