/-! LEVEL 2: the class: ways, read -/
section L2D
variable {E : Nat × (Int → Int)} {C : List ag_C} {N : Nat → Int → Int} {x : Nat}

theorem ev_X6_ways {d : Nat} (hd : 7 ≤ d) {G : m_G} {U : List m_G} {V : Option m_G} {F : m_F} {L : Int} {T : Int → Int} {l : Int} {ln : Int → Int} (hx : g_isX C x) (hX : g_rX N x (G, U, V, F, (L, T), (l, ln))) (hS : g_vS (G, U, V, F, (L, T), (l, ln))) (w : Int) (h0 : ag_in w) : ∃ o_, Ev E d 74 [vA x, vI w] (C, N) o_ ∧ g_QX C N x (m_ways G w, (G, U, V, F, (L, T), (l, ln))) o_ := by
  obtain ⟨d, rfl⟩ : ∃ j, d = j + 1 := ⟨d - 1, by omega⟩
  obtain ⟨⟨P, n, q, p, cl, tn⟩, ⟨t, bg, en, ca⟩, ⟨gn, pu, mk⟩, H⟩ := G
  have hrB : g_rB N (x + 1 + 1) P n q p cl tn := hX.1.1
  have hrH : g_rH N (x + 1 + 7) H := hX.1.2.1
  have hrT : g_rT N (x + 1) t bg en ca gn pu mk := hX.1.2.2
  have hP : g_rP N (x + 40) U := hX.2.1
  have hV : g_rV N x V := hX.2.2.1
  have hF : g_rF N (x + 150) F := hX.2.2.2.1
  have hT : g_rTx N (x + 146) L T := hX.2.2.2.2.1
  have hL : g_rLn N x l ln := hX.2.2.2.2.2
  have hvG : g_vG ((P, n, q, p, cl, tn), (t, bg, en, ca), (gn, pu, mk), H) := hS.1
  have hwB : g_wB P n q p cl tn := hvG.1.1
  have hwH : g_wH H := hvG.1.2.1
  have hwS : g_wS t bg en ca gn pu mk := hvG.1.2.2
  have hwL : 0 ≤ L ∧ L ≤ 70 := hS.2.2.2.1
  have hwl : 0 ≤ l ∧ l ≤ 6 := hS.2.2.2.2.2
  have s1 := hwS.1
  have s2 := hwS.2.1
  have s3 := hwS.2.2.1
  have s4 := hwS.2.2.2.1
  have s6 := hwS.2.2.2.2.2
  have s7 : bg = 0 → H.length = 0 := fun e => by have z : H = [] := (hvG.2.1 e).1; rw [z]; rfl
  have s8 := g_rP_l hP
  refine Ev.introQ (M := ag_mX6_ways) rfl rfl ?_
  show AR E d _ (0, [some (vA x), some (vI w), none, none, none, none], [], (C, N)) _
  refine AR.blk 2 (f' := (2, [some (vA x), some (vI w), none, none, none, none], [vI 1, vI w], (C, N))) (fun _ => rfl) ?_
  refine AR.ic_ne rfl (by omega) (fun c1 => ?_) (fun c1 => ?_)
  · show AR E d _ (13, [some (vA x), some (vI w), none, none, none, none], [], (C, N)) _
    refine AR.blk 2 (f' := (15, [some (vA x), some (vI w), none, none, none, none], [vI 2, vI w], (C, N))) (fun _ => rfl) ?_
    refine AR.ic_eq rfl (by omega) (fun c2 => ?_) (fun c2 => ?_)
    · show AR E d _ (21, [some (vA x), some (vI w), none, none, none, none], [], (C, N)) _
      refine AR.blk 4 (f' := (25, [some (vA x), some (vI w), some (vI 0), some (vI 0), none, none], [], (C, N))) (fun _ => rfl) ?_
      suffices H25 : ∀ (j : Nat) (c : Int) (k : Int) (z4 : Option av) (z5 : Option av) (N9 : Nat → Int → Int), (144 - k).toNat < j → (0 ≤ k ∧ k ≤ 144) → (c = m_sum (m_wayf ((P, n, q, p, cl, tn), (t, bg, en, ca), (gn, pu, mk), H)) k.toNat) → (∀ a, ¬ (x + 14 ≤ a ∧ a < x + 27) → N9 a = N a) → AR E d ag_mX6_ways (25, [some (vA x), some (vI w), some (vI c), some (vI k), z4, z5], [], (C, N9)) (g_QX C N x (m_ways ((P, n, q, p, cl, tn), (t, bg, en, ca), (gn, pu, mk), H) w, (((P, n, q, p, cl, tn), (t, bg, en, ca), (gn, pu, mk), H), U, V, F, (L, T), (l, ln)))) by
        exact H25 _ _ _ _ _ _ (Nat.lt_succ_self _) (by omega) rfl (fun _ _ => rfl)
      intro j
      induction j with
      | zero => intro c k z4 z5 N9 hj; exact absurd hj (Nat.not_lt_zero _)
      | succ j ih25 =>
        intro c k z4 z5 N9 hj25 i0 i1 qf
        have nBN9 := g_rB_fr hrB (N' := N9) (fun a z0 z1 => qf a (by omega))
        have nHN9 := g_rH_fr hrH (N' := N9) (fun a z0 z1 => qf a (by omega))
        have nTN9 := g_rT_fr hrT (N' := N9) (qf _ (by omega)) (qf _ (by omega)) (qf _ (by omega)) (qf _ (by omega))
        have hPN9 := g_rP_fr hP (N' := N9) (fun a z0 z1 => qf a (by omega))
        have hVN9 := g_rV_fr hV (N' := N9) (congrFun (qf _ (by omega)) _) (fun a z0 z1 => qf a (by omega))
        have hFN9 := g_rF_fr hF (N' := N9) (qf _ (by omega))
        have hTN9 := g_rTx_fr hT (N' := N9) (congrFun (qf _ (by omega)) _) (qf _ (by omega))
        have hLN9 := g_rLn_fr hL (N' := N9) (congrFun (qf _ (by omega)) _) (qf _ (by omega))
        have frN9 : ∀ a, ¬ (x ≤ a ∧ a < x + 152) → (N9) a = N a := fun a ha => (qf a (by omega)).trans ((fun _ _ => rfl) a ha)
        have z6 : 4 * (k / 4) + k % 4 = k := by omega
        have wy0 : m_open P n q cl t bg en (4 * (k / 4) + k % 4) ≠ 1 → m_wayf ((P, n, q, p, cl, tn), (t, bg, en, ca), (gn, pu, mk), H) k = 0 := by rw [z6]; exact fun z => if_neg z
        have wy1 : m_open P n q cl t bg en (4 * (k / 4) + k % 4) = 1 → (if m_on bg (m_go ((P, n, q, p, cl, tn), (t, bg, en, ca), (gn, pu, mk), H) (k / 4) (k % 4)).2.1.2.2.1 = 1 then m_mv (m_go ((P, n, q, p, cl, tn), (t, bg, en, ca), (gn, pu, mk), H) (k / 4) (k % 4)).1.1 n q (m_go ((P, n, q, p, cl, tn), (t, bg, en, ca), (gn, pu, mk), H) (k / 4) (k % 4)).1.2.2.2.2.1 ((t + 1) % 2) else 0) = m_wayf ((P, n, q, p, cl, tn), (t, bg, en, ca), (gn, pu, mk), H) k := by rw [z6]; exact fun z => ((if_pos z).trans (m_mvs_cls _ _ _ _ _ _ _)).symm
        refine AR.blk 2 (f' := (29, [some (vA x), some (vI w), some (vI c), some (vI k), z4, z5], [vI 144, vI k], (C, N9))) (fun _ => rfl) ?_
        refine AR.ic_ge rfl (by omega) (fun c3 => ?_) (fun c3 => ?_)
        · show AR E d _ (95, [some (vA x), some (vI w), some (vI c), some (vI k), z4, z5], [], (C, N9)) _
          refine AR.blk 1 (f' := (96, [some (vA x), some (vI w), some (vI c), some (vI k), z4, z5], [vI c], (C, N9))) (fun _ => rfl) ?_
          refine AR.endI rfl (.inl rfl) ?_
          have e9 : m_ways ((P, n, q, p, cl, tn), (t, bg, en, ca), (gn, pu, mk), H) w = c := (by unfold m_ways; rw [if_neg (by omega), if_neg (by omega), i1, show k = 144 by omega]; rfl)
          rw [e9]
          exact ⟨_, rfl, ⟨⟨nBN9, nHN9, nTN9⟩, hPN9, hVN9, hFN9, hTN9, hLN9⟩, frN9⟩
        · show AR E d _ (32, [some (vA x), some (vI w), some (vI c), some (vI k), z4, z5], [], (C, N9)) _
          refine AR.blk 2 (f' := (34, [some (vA x), some (vI w), some (vI c), some (vI k), z4, z5], [vI 4, vI k], (C, N9))) (fun _ => rfl) ?_
          refine AR.idiv rfl (by omega) ?_
          refine AR.blk 3 (f' := (39, [some (vA x), some (vI w), some (vI c), some (vI k), some (vI (k / 4)), z5], [vI 4, vI k], (C, N9))) (fun _ => rfl) ?_
          refine AR.irem rfl (by omega) ?_
          refine AR.blk 2 (f' := (43, [some (vA x), some (vI w), some (vI c), some (vI k), some (vI (k / 4)), some (vI (k % 4))], [vA x], (C, N9))) (fun _ => rfl) ?_
          refine AR.getR rfl rfl hx.1 (by decide) rfl ?_
          refine AR.blk 2 (f' := (50, [some (vA x), some (vI w), some (vI c), some (vI k), some (vI (k / 4)), some (vI (k % 4))], [vI (k % 4), vI (k / 4), vA (x + 1)], (C, N9))) (fun _ => rfl) ?_
          refine AR.callV [vI (k / 4), vI (k % 4)] (ev_X1_allows (by omega) hx.2.1 nBN9 nHN9 nTN9 hwB hwH (by omega) (k / 4) (k % 4) (by omega) (by omega)) hx.2.1.1 rfl rfl rfl rfl rfl ?_
          show AR E d _ (53, [some (vA x), some (vI w), some (vI c), some (vI k), some (vI (k / 4)), some (vI (k % 4))], [vI (m_open P n q cl t bg en (4 * (k / 4) + (k % 4)))], (C, N9)) _
          have f4 := m_open_in P n q cl t bg en (4 * (k / 4) + (k % 4))
          refine AR.if_eq rfl (by omega) (fun c5 => ?_) (fun c5 => ?_)
          · show AR E d _ (89, [some (vA x), some (vI w), some (vI c), some (vI k), some (vI (k / 4)), some (vI (k % 4))], [], (C, N9)) _
            refine AR.blk 2 (f' := (25, [some (vA x), some (vI w), some (vI c), some (vI (k + 1)), some (vI (k / 4)), some (vI (k % 4))], [], (C, N9))) (fun _ => rfl) ?_
            exact ih25 _ _ _ _ _ (by omega) (by omega) (by rw [m_sum_succ _ (by omega), ← i1, wy0 (by omega)]; exact (Int.add_zero c).symm) qf
          · show AR E d _ (56, [some (vA x), some (vI w), some (vI c), some (vI k), some (vI (k / 4)), some (vI (k % 4))], [], (C, N9)) _
            have zo : m_open P n q cl t bg en (4 * (k / 4) + k % 4) = 1 := by omega
            rw [z6] at zo
            have hc : g_can ((P, n, q, p, cl, tn), (t, bg, en, ca), (gn, pu, mk), H) (k / 4) (k % 4) := m_open_can (by omega) zo
            have hc2 := g_can_of hvG hc
            have c1 : 0 ≤ k / 4 ∧ k / 4 < 36 := hc.1
            have c2 : 0 ≤ k % 4 ∧ k % 4 < 4 := hc.2.1
            have c3 : bg = 1 := hc.2.2.1
            have c4 : en = 0 := hc.2.2.2.1
            have c5 : 1 ≤ m_room (k / 4) (k % 4) := hc2.1
            have c6 : t ≤ 119 := hc2.2.2.1
            have c7 : H.length ≤ 120 := hc2.2.2.2
            refine AR.blk 1 (f' := (57, [some (vA x), some (vI w), some (vI c), some (vI k), some (vI (k / 4)), some (vI (k % 4))], [vA x], (C, N9))) (fun _ => rfl) ?_
            refine AR.getR rfl rfl hx.1 (by decide) rfl ?_
            refine AR.blk 1 (f' := (61, [some (vA x), some (vI w), some (vI c), some (vI k), some (vI (k / 4)), some (vI (k % 4))], [vA x, vA (x + 14)], (C, N9))) (fun _ => rfl) ?_
            refine AR.getR rfl rfl hx.1 (by decide) rfl ?_
            obtain ⟨_, hE6, N7, rfl, hr8, hf9⟩ := ev_X1_copyFrom (E := E) (d := d) (by omega) hx.2.2.1 hx.2.1 (by omega) (show g_rG N9 (x + 1) ((P, n, q, p, cl, tn), (t, bg, en, ca), (gn, pu, mk), H) from ⟨nBN9, nHN9, nTN9⟩) hvG.1
            have tBN7 : g_rB N7 (x + 14 + 1) P n q p cl tn := hr8.1
            have tHN7 : g_rH N7 (x + 14 + 7) H := hr8.2.1
            have tTN7 : g_rT N7 (x + 14) t bg en ca gn pu mk := hr8.2.2
            have vN7 : g_vG ((P, n, q, p, cl, tn), (t, bg, en, ca), (gn, pu, mk), H) := hvG
            have wBN7 : g_wB P n q p cl tn := vN7.1.1
            have wHN7 : g_wH H := vN7.1.2.1
            have wSN7 : g_wS t bg en ca gn pu mk := vN7.1.2.2
            have z1N7 := wSN7.1
            have z2N7 := wSN7.2.1
            have z3N7 := wSN7.2.2.1
            have nBN7 := g_rB_fr nBN9 (N' := N7) (fun a z0 z1 => hf9 a (by omega))
            have nHN7 := g_rH_fr nHN9 (N' := N7) (fun a z0 z1 => hf9 a (by omega))
            have nTN7 := g_rT_fr nTN9 (N' := N7) (hf9 _ (by omega)) (hf9 _ (by omega)) (hf9 _ (by omega)) (hf9 _ (by omega))
            have hPN7 := g_rP_fr hPN9 (N' := N7) (fun a z0 z1 => hf9 a (by omega))
            have hVN7 := g_rV_fr hVN9 (N' := N7) (congrFun (hf9 _ (by omega)) _) (fun a z0 z1 => hf9 a (by omega))
            have hFN7 := g_rF_fr hFN9 (N' := N7) (hf9 _ (by omega))
            have hTN7 := g_rTx_fr hTN9 (N' := N7) (congrFun (hf9 _ (by omega)) _) (hf9 _ (by omega))
            have hLN7 := g_rLn_fr hLN9 (N' := N7) (congrFun (hf9 _ (by omega)) _) (hf9 _ (by omega))
            have frN7 : ∀ a, ¬ (x ≤ a ∧ a < x + 152) → (N7) a = N a := fun a ha => (hf9 a (by omega)).trans (frN9 a ha)
            have f9N7 : ∀ a, ¬ (x + 14 ≤ a ∧ a < x + 27) → (N7) a = N a := fun a ha => (hf9 a (by omega)).trans (qf a ha)
            refine AR.callV [vA (x + 1)] hE6 hx.2.2.1.1 rfl rfl rfl rfl rfl ?_
            show AR E d _ (67, [some (vA x), some (vI w), some (vI c), some (vI k), some (vI (k / 4)), some (vI (k % 4))], [], (C, N7)) _
            refine AR.blk 1 (f' := (68, [some (vA x), some (vI w), some (vI c), some (vI k), some (vI (k / 4)), some (vI (k % 4))], [vA x], (C, N7))) (fun _ => rfl) ?_
            refine AR.getR rfl rfl hx.1 (by decide) rfl ?_
            refine AR.blk 2 (f' := (75, [some (vA x), some (vI w), some (vI c), some (vI k), some (vI (k / 4)), some (vI (k % 4))], [vI (k % 4), vI (k / 4), vA (x + 14)], (C, N7))) (fun _ => rfl) ?_
            obtain ⟨_, hE10, N11, rfl, hr12, hf13⟩ := ev_X1_carryOut (E := E) (d := d) (by omega) hx.2.2.1 tBN7 tHN7 tTN7 wBN7 wHN7 (by omega) (k / 4) (k % 4) (by omega) (by omega) (by omega) (by omega) (by omega) (by omega)
            have tBN11 : g_rB N11 (x + 14 + 1) (m_gP P n q p cl tn t (k / 4) (k % 4)) n q p (m_gcl P n q p cl tn t (k / 4) (k % 4)) (m_gtn P n q p cl tn t (k / 4) (k % 4)) := hr12.1
            have tHN11 : g_rH N11 (x + 14 + 7) (m_gH P n q p cl tn t (k / 4) (k % 4) H) := hr12.2.1
            have tTN11 : g_rT N11 (x + 14) (t + 1) bg (m_stl (m_gP P n q p cl tn t (k / 4) (k % 4)) n q (m_gcl P n q p cl tn t (k / 4) (k % 4)) (t + 1) (m_gH P n q p cl tn t (k / 4) (k % 4) H)) (m_gca P n q p cl tn t ca (k / 4) (k % 4)) (m_ggn P gn (k / 4) (k % 4)) (m_gpu P t pu (k / 4) (k % 4)) (m_gmk P t mk (k / 4) (k % 4)) := hr12.2.2
            have vN11 : g_vG ((m_gP P n q p cl tn t (k / 4) (k % 4), n, q, p, m_gcl P n q p cl tn t (k / 4) (k % 4), m_gtn P n q p cl tn t (k / 4) (k % 4)), (t + 1, bg, m_stl (m_gP P n q p cl tn t (k / 4) (k % 4)) n q (m_gcl P n q p cl tn t (k / 4) (k % 4)) (t + 1) (m_gH P n q p cl tn t (k / 4) (k % 4) H), m_gca P n q p cl tn t ca (k / 4) (k % 4)), (m_ggn P gn (k / 4) (k % 4), m_gpu P t pu (k / 4) (k % 4), m_gmk P t mk (k / 4) (k % 4)), m_gH P n q p cl tn t (k / 4) (k % 4) H) := g_vG_go vN7 hc
            have wBN11 : g_wB (m_gP P n q p cl tn t (k / 4) (k % 4)) n q p (m_gcl P n q p cl tn t (k / 4) (k % 4)) (m_gtn P n q p cl tn t (k / 4) (k % 4)) := vN11.1.1
            have wHN11 : g_wH (m_gH P n q p cl tn t (k / 4) (k % 4) H) := vN11.1.2.1
            have wSN11 : g_wS (t + 1) bg (m_stl (m_gP P n q p cl tn t (k / 4) (k % 4)) n q (m_gcl P n q p cl tn t (k / 4) (k % 4)) (t + 1) (m_gH P n q p cl tn t (k / 4) (k % 4) H)) (m_gca P n q p cl tn t ca (k / 4) (k % 4)) (m_ggn P gn (k / 4) (k % 4)) (m_gpu P t pu (k / 4) (k % 4)) (m_gmk P t mk (k / 4) (k % 4)) := vN11.1.2.2
            have z1N11 := wSN11.1
            have z2N11 := wSN11.2.1
            have z3N11 := wSN11.2.2.1
            have nBN11 := g_rB_fr nBN7 (N' := N11) (fun a z0 z1 => hf13 a (by omega))
            have nHN11 := g_rH_fr nHN7 (N' := N11) (fun a z0 z1 => hf13 a (by omega))
            have nTN11 := g_rT_fr nTN7 (N' := N11) (hf13 _ (by omega)) (hf13 _ (by omega)) (hf13 _ (by omega)) (hf13 _ (by omega))
            have hPN11 := g_rP_fr hPN7 (N' := N11) (fun a z0 z1 => hf13 a (by omega))
            have hVN11 := g_rV_fr hVN7 (N' := N11) (congrFun (hf13 _ (by omega)) _) (fun a z0 z1 => hf13 a (by omega))
            have hFN11 := g_rF_fr hFN7 (N' := N11) (hf13 _ (by omega))
            have hTN11 := g_rTx_fr hTN7 (N' := N11) (congrFun (hf13 _ (by omega)) _) (hf13 _ (by omega))
            have hLN11 := g_rLn_fr hLN7 (N' := N11) (congrFun (hf13 _ (by omega)) _) (hf13 _ (by omega))
            have frN11 : ∀ a, ¬ (x ≤ a ∧ a < x + 152) → (N11) a = N a := fun a ha => (hf13 a (by omega)).trans (frN7 a ha)
            have f9N11 : ∀ a, ¬ (x + 14 ≤ a ∧ a < x + 27) → (N11) a = N a := fun a ha => (hf13 a (by omega)).trans (f9N7 a ha)
            refine AR.callV [vI (k / 4), vI (k % 4)] hE10 hx.2.2.1.1 rfl rfl rfl rfl rfl ?_
            show AR E d _ (78, [some (vA x), some (vI w), some (vI c), some (vI k), some (vI (k / 4)), some (vI (k % 4))], [vI (m_stR (m_gP P n q p cl tn t (k / 4) (k % 4)) n q (m_gcl P n q p cl tn t (k / 4) (k % 4)) (t + 1) (m_gH P n q p cl tn t (k / 4) (k % 4) H))], (C, N11)) _
            refine AR.blk 3 (f' := (81, [some (vA x), some (vI w), some (vI c), some (vI k), some (vI (k / 4)), some (vI (k % 4))], [vA x, vI c], (C, N11))) (fun _ => rfl) ?_
            refine AR.getR rfl rfl hx.1 (by decide) rfl ?_
            refine AR.callV [] (ev_X1_openMoves (by omega) hx.2.2.1 tBN11 tHN11 tTN11 wBN11 wHN11 (by omega)  ) hx.2.2.1.1 rfl rfl rfl rfl rfl ?_
            show AR E d _ (87, [some (vA x), some (vI w), some (vI c), some (vI k), some (vI (k / 4)), some (vI (k % 4))], [vI (if m_on bg (m_stl (m_gP P n q p cl tn t (k / 4) (k % 4)) n q (m_gcl P n q p cl tn t (k / 4) (k % 4)) (t + 1) (m_gH P n q p cl tn t (k / 4) (k % 4) H)) = 1 then m_mv (m_gP P n q p cl tn t (k / 4) (k % 4)) n q (m_gcl P n q p cl tn t (k / 4) (k % 4)) ((t + 1) % 2) else 0), vI c], (C, N11)) _
            have f14 := m_mv_in (m_gP P n q p cl tn t (k / 4) (k % 4)) n q (m_gcl P n q p cl tn t (k / 4) (k % 4)) ((t + 1) % 2)
            refine AR.blk 4 (f' := (25, [some (vA x), some (vI w), some (vI (c + (if m_on bg (m_stl (m_gP P n q p cl tn t (k / 4) (k % 4)) n q (m_gcl P n q p cl tn t (k / 4) (k % 4)) (t + 1) (m_gH P n q p cl tn t (k / 4) (k % 4) H)) = 1 then m_mv (m_gP P n q p cl tn t (k / 4) (k % 4)) n q (m_gcl P n q p cl tn t (k / 4) (k % 4)) ((t + 1) % 2) else 0))), some (vI (k + 1)), some (vI (k / 4)), some (vI (k % 4))], [], (C, N11))) (fun _ => rfl) ?_
            exact ih25 _ _ _ _ _ (by omega) (by omega) (by rw [m_sum_succ _ (by omega), ← i1]; exact congrArg (fun z => c + z) (wy1 (by omega))) f9N11
    · show AR E d _ (18, [some (vA x), some (vI w), none, none, none, none], [], (C, N)) _
      refine AR.blk 1 (f' := (20, [some (vA x), some (vI w), none, none, none, none], [vI (-2)], (C, N))) (fun _ => rfl) ?_
      refine AR.endI rfl (.inl rfl) ?_
      have e9 : m_ways ((P, n, q, p, cl, tn), (t, bg, en, ca), (gn, pu, mk), H) w = (-2) := (by unfold m_ways; rw [if_neg (by omega), if_pos (by omega)])
      rw [e9]
      exact ⟨_, rfl, ⟨⟨hrB, hrH, hrT⟩, hP, hV, hF, hT, hL⟩, (fun _ _ => rfl)⟩
  · show AR E d _ (5, [some (vA x), some (vI w), none, none, none, none], [], (C, N)) _
    refine AR.blk 1 (f' := (6, [some (vA x), some (vI w), none, none, none, none], [vA x], (C, N))) (fun _ => rfl) ?_
    refine AR.getR rfl rfl hx.1 (by decide) rfl ?_
    refine AR.callV [] (ev_X1_openMoves (by omega) hx.2.1 hrB hrH hrT hwB hwH (by omega)  ) hx.2.1.1 rfl rfl rfl rfl rfl ?_
    show AR E d _ (12, [some (vA x), some (vI w), none, none, none, none], [vI (if m_on bg en = 1 then m_mv P n q cl (t % 2) else 0)], (C, N)) _
    have f15 := m_mv_in P n q cl (t % 2)
    refine AR.endI rfl (.inl rfl) ?_
    have e9 : m_ways ((P, n, q, p, cl, tn), (t, bg, en, ca), (gn, pu, mk), H) w = (if m_on bg en = 1 then m_mv P n q cl (t % 2) else 0) := (by unfold m_ways; rw [if_pos (by omega)]; exact m_mvs_cls _ _ _ _ _ _ _)
    rw [e9]
    exact ⟨_, rfl, ⟨⟨hrB, hrH, hrT⟩, hP, hV, hF, hT, hL⟩, (fun _ _ => rfl)⟩
end L2D
