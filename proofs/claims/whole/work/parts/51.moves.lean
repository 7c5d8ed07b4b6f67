/-! LEVEL 2: the class: put, lock, begin, move -/
theorem m_beF_can {G : m_G} {F : m_F} {s u z : Int} (h : (m_beF G F s u z).1 = 0) : (G.2.1.2.1 ≠ 1 ∧ G.1.1 s = -1 ∧ m_la G.1.2.1 G.1.2.2.1 s = -1 ∧ u < z) ∧ (m_beF G F s u z).2 = F := by
  unfold m_beF at h ⊢
  by_cases e1 : G.2.1.2.1 = 1
  · rw [if_pos e1] at h; cases h
  rw [if_neg e1] at h ⊢
  by_cases e2 : G.1.1 s ≠ -1
  · rw [if_pos e2] at h; cases h
  rw [if_neg e2] at h ⊢
  by_cases e3 : m_la G.1.2.1 G.1.2.2.1 s ≠ -1
  · rw [if_pos e3] at h; cases h
  rw [if_neg e3] at h ⊢
  by_cases e4 : u < z
  · rw [if_pos e4]; exact ⟨⟨e1, by omega, by omega, e4⟩, rfl⟩
  · rw [if_neg e4] at h; cases h
theorem m_beF_in (G : m_G) (F : m_F) (s u z : Int) : (m_beF G F s u z).1 = 0 ∨ (m_beF G F s u z).1 = -3 := by
  unfold m_beF
  by_cases e1 : G.2.1.2.1 = 1
  · rw [if_pos e1]; exact .inr rfl
  rw [if_neg e1]
  by_cases e2 : G.1.1 s ≠ -1
  · rw [if_pos e2]; exact .inr rfl
  rw [if_neg e2]
  by_cases e3 : m_la G.1.2.1 G.1.2.2.1 s ≠ -1
  · rw [if_pos e3]; exact .inr rfl
  rw [if_neg e3]
  by_cases e4 : u < z
  · rw [if_pos e4]; exact .inl rfl
  · rw [if_neg e4]; exact .inr rfl
theorem m_mvF_in (G : m_G) (F : m_F) (s y k : Int) : (m_mvF G F s y k).1 = 0 ∨ (m_mvF G F s y k).1 = -1 ∨ (m_mvF G F s y k).1 = -2 ∨ (m_mvF G F s y k).1 = -3 := by
  unfold m_mvF
  by_cases e1 : ¬ (0 ≤ s ∧ s < 36)
  · rw [if_pos e1]; exact .inr (.inl rfl)
  rw [if_neg e1]
  by_cases e2 : ¬ (0 ≤ y ∧ y < 4)
  · rw [if_pos e2]; exact .inr (.inr (.inl rfl))
  rw [if_neg e2]
  by_cases e3 : G.2.1.2.1 = 0
  · rw [if_pos e3]; exact .inr (.inr (.inr rfl))
  rw [if_neg e3]
  by_cases e4 : G.2.1.2.2.1 ≠ 0
  · rw [if_pos e4]; exact .inr (.inr (.inr rfl))
  rw [if_neg e4]
  by_cases e5 : m_own (G.1.1 s) ≠ G.2.1.1 % 2
  · rw [if_pos e5]; exact .inr (.inr (.inr rfl))
  rw [if_neg e5]
  by_cases e6 : m_cause G.1.1 G.1.2.1 G.1.2.2.1 G.1.2.2.2.2.1 s y ≠ 0
  · rw [if_pos e6]; exact .inr (.inr (.inr rfl))
  rw [if_neg e6]
  exact .inl rfl
theorem g_rP_n {N : Nat → Int → Int} {p : Nat} {U : List m_G} (h : g_rP N p U) : N p 2 = U.length := by
  obtain ⟨nx, h0, h1, h2, h3, h4⟩ := h
  exact h2
theorem g_rP_l {N : Nat → Int → Int} {p : Nat} {U : List m_G} (h : g_rP N p U) : U.length ≤ 8 := by
  obtain ⟨nx, h0, h1, h2, h3, h4⟩ := h
  exact h3
section L2B
variable {E : Nat × (Int → Int)} {C : List ag_C} {N : Nat → Int → Int} {x : Nat}

theorem ev_X6_put {d : Nat} (hd : 5 ≤ d) {G : m_G} {U : List m_G} {V : Option m_G} {F : m_F} {L : Int} {T : Int → Int} {l : Int} {ln : Int → Int} (hx : g_isX C x) (hX : g_rX N x (G, U, V, F, (L, T), (l, ln))) (hS : g_vS (G, U, V, F, (L, T), (l, ln))) (w k s : Int) (h0 : ag_in w) (h1 : ag_in k) (h2 : ag_in s) : ∃ o_, Ev E d 60 [vA x, vI w, vI k, vI s] (C, N) o_ ∧ g_QX C N x (o_put (G, U, V, F, (L, T), (l, ln)) w k s) o_ := by
  obtain ⟨d, rfl⟩ : ∃ j, d = j + 1 := ⟨d - 1, by omega⟩
  obtain ⟨⟨P, n, q, p, cl, tn⟩, ⟨t, bg, en, ca⟩, ⟨gn, pu, mk⟩, H⟩ := G
  have hrB : g_rB N (x + 1 + 1) P n q p cl tn := hX.1.1
  have hrH : g_rH N (x + 1 + 7) H := hX.1.2.1
  have hrT : g_rT N (x + 1) t bg en ca gn pu mk := hX.1.2.2
  have hP : g_rP N (x + 40) U := hX.2.1
  have hV : g_rV N x V := hX.2.2.1
  have hF : g_rF N (x + 150) F := hX.2.2.2.1
  have hT : g_rTx N (x + 146) L T := hX.2.2.2.2.1
  have hL : g_rLn N x l ln := hX.2.2.2.2.2
  have hvG : g_vG ((P, n, q, p, cl, tn), (t, bg, en, ca), (gn, pu, mk), H) := hS.1
  have hwB : g_wB P n q p cl tn := hvG.1.1
  have hwH : g_wH H := hvG.1.2.1
  have hwS : g_wS t bg en ca gn pu mk := hvG.1.2.2
  have hwL : 0 ≤ L ∧ L ≤ 70 := hS.2.2.2.1
  have hwl : 0 ≤ l ∧ l ≤ 6 := hS.2.2.2.2.2
  have s1 := hwS.1
  have s2 := hwS.2.1
  have s3 := hwS.2.2.1
  have s4 := hwS.2.2.2.1
  have s6 := hwS.2.2.2.2.2
  have s7 : bg = 0 → H.length = 0 := fun e => by have z : H = [] := (hvG.2.1 e).1; rw [z]; rfl
  have s8 := g_rP_l hP
  refine Ev.introQ (M := ag_mX6_put) rfl rfl ?_
  show AR E d _ (0, [some (vA x), some (vI w), some (vI k), some (vI s), none], [], (C, N)) _
  refine AR.blk 1 (f' := (1, [some (vA x), some (vI w), some (vI k), some (vI s), none], [vI s], (C, N))) (fun _ => rfl) ?_
  refine AR.callS [vI s] (ev_X6_isSquare (by omega) s (by omega)) rfl rfl rfl rfl rfl ?_
  show AR E d _ (4, [some (vA x), some (vI w), some (vI k), some (vI s), none], [vI (if 0 ≤ s ∧ s < 36 then 1 else 0)], (C, N)) _
  refine AR.if_ne rfl (by omega) (fun c1 => ?_) (fun c1 => ?_)
  · show AR E d _ (9, [some (vA x), some (vI w), some (vI k), some (vI s), none], [], (C, N)) _
    refine AR.blk 1 (f' := (10, [some (vA x), some (vI w), some (vI k), some (vI s), none], [vI w], (C, N))) (fun _ => rfl) ?_
    refine AR.callS [vI w] (ev_X6_isSide (by omega) w (by omega)) rfl rfl rfl rfl rfl ?_
    show AR E d _ (13, [some (vA x), some (vI w), some (vI k), some (vI s), none], [vI (if 0 ≤ w ∧ w < 2 then 1 else 0)], (C, N)) _
    refine AR.if_eq rfl (by omega) (fun c2 => ?_) (fun c2 => ?_)
    · show AR E d _ (25, [some (vA x), some (vI w), some (vI k), some (vI s), none], [], (C, N)) _
      refine AR.blk 1 (f' := (27, [some (vA x), some (vI w), some (vI k), some (vI s), none], [vI (-2)], (C, N))) (fun _ => rfl) ?_
      refine AR.endI rfl (.inl rfl) ?_
      have e9 : o_put (((P, n, q, p, cl, tn), (t, bg, en, ca), (gn, pu, mk), H), U, V, F, (L, T), (l, ln)) w k s = ((-2), (((P, n, q, p, cl, tn), (t, bg, en, ca), (gn, pu, mk), H), U, V, F, (L, T), (l, ln))) := by unfold o_put <;> (try dsimp only) <;> (repeat (first | rw [if_pos (by omega)] | rw [if_neg (by omega)])) <;> rfl
      rw [e9]
      exact ⟨_, rfl, ⟨⟨hrB, hrH, hrT⟩, hP, hV, hF, hT, hL⟩, (fun _ _ => rfl)⟩
    · show AR E d _ (16, [some (vA x), some (vI w), some (vI k), some (vI s), none], [], (C, N)) _
      refine AR.blk 1 (f' := (17, [some (vA x), some (vI w), some (vI k), some (vI s), none], [vI k], (C, N))) (fun _ => rfl) ?_
      refine AR.if_lt rfl (by omega) (fun c3 => ?_) (fun c3 => ?_)
      · show AR E d _ (25, [some (vA x), some (vI w), some (vI k), some (vI s), none], [], (C, N)) _
        refine AR.blk 1 (f' := (27, [some (vA x), some (vI w), some (vI k), some (vI s), none], [vI (-2)], (C, N))) (fun _ => rfl) ?_
        refine AR.endI rfl (.inl rfl) ?_
        have e9 : o_put (((P, n, q, p, cl, tn), (t, bg, en, ca), (gn, pu, mk), H), U, V, F, (L, T), (l, ln)) w k s = ((-2), (((P, n, q, p, cl, tn), (t, bg, en, ca), (gn, pu, mk), H), U, V, F, (L, T), (l, ln))) := by unfold o_put <;> (try dsimp only) <;> (repeat (first | rw [if_pos (by omega)] | rw [if_neg (by omega)])) <;> rfl
        rw [e9]
        exact ⟨_, rfl, ⟨⟨hrB, hrH, hrT⟩, hP, hV, hF, hT, hL⟩, (fun _ _ => rfl)⟩
      · show AR E d _ (20, [some (vA x), some (vI w), some (vI k), some (vI s), none], [], (C, N)) _
        refine AR.blk 2 (f' := (22, [some (vA x), some (vI w), some (vI k), some (vI s), none], [vI 2, vI k], (C, N))) (fun _ => rfl) ?_
        refine AR.ic_lt rfl (by omega) (fun c4 => ?_) (fun c4 => ?_)
        · show AR E d _ (28, [some (vA x), some (vI w), some (vI k), some (vI s), none], [], (C, N)) _
          refine AR.blk 3 (f' := (31, [some (vA x), some (vI w), some (vI k), some (vI s), none], [vA x, vI s, vA x], (C, N))) (fun _ => rfl) ?_
          refine AR.getR rfl rfl hx.1 (by decide) rfl ?_
          refine AR.getR rfl rfl hx.2.1.1 (by decide) rfl ?_
          refine AR.blk 1 (f' := (38, [some (vA x), some (vI w), some (vI k), some (vI s), none], [vI w, vA (x + 1 + 1), vI s, vA x], (C, N))) (fun _ => rfl) ?_
          refine AR.callV [vI w] (ev_X0_countOf (by omega) hx.2.1.2.1 hrB hwB w (by omega)) hx.2.1.2.1.1 rfl rfl rfl rfl rfl ?_
          show AR E d _ (41, [some (vA x), some (vI w), some (vI k), some (vI s), none], [vI (m_cnt P w), vI s, vA x], (C, N)) _
          have f5 := m_cnt_in P w
          refine AR.blk 1 (f' := (43, [some (vA x), some (vI w), some (vI k), some (vI s), none], [vI 8, vI (m_cnt P w), vI s, vA x], (C, N))) (fun _ => rfl) ?_
          obtain ⟨_, hE6, N7, rfl, hF8, hf9⟩ := ev_X6_buildingError (E := E) (d := d) (by omega) hx hrB hrH hrT hvG hF s (m_cnt P w) 8 (by omega) (by omega) (by omega)
          have FN7 : g_rF N7 (x + 150) (m_beF ((P, n, q, p, cl, tn), (t, bg, en, ca), (gn, pu, mk), H) F s (m_cnt P w) 8).2 := hF8
          have nBN7 := g_rB_fr hrB (N' := N7) (fun a z0 z1 => hf9 a (by omega))
          have nHN7 := g_rH_fr hrH (N' := N7) (fun a z0 z1 => hf9 a (by omega))
          have nTN7 := g_rT_fr hrT (N' := N7) (hf9 _ (by omega)) (hf9 _ (by omega)) (hf9 _ (by omega)) (hf9 _ (by omega))
          have hPN7 := g_rP_fr hP (N' := N7) (fun a z0 z1 => hf9 a (by omega))
          have hVN7 := g_rV_fr hV (N' := N7) (congrFun (hf9 _ (by omega)) _) (fun a z0 z1 => hf9 a (by omega))
          have hTN7 := g_rTx_fr hT (N' := N7) (congrFun (hf9 _ (by omega)) _) (hf9 _ (by omega))
          have hLN7 := g_rLn_fr hL (N' := N7) (congrFun (hf9 _ (by omega)) _) (hf9 _ (by omega))
          have frN7 : ∀ a, ¬ (x ≤ a ∧ a < x + 152) → (N7) a = N a := fun a ha => (hf9 a (by omega)).trans ((fun _ _ => rfl) a ha)
          refine AR.callV [vI s, vI (m_cnt P w), vI 8] hE6 hx.1 rfl rfl rfl rfl rfl ?_
          show AR E d _ (46, [some (vA x), some (vI w), some (vI k), some (vI s), none], [vI ((m_beF ((P, n, q, p, cl, tn), (t, bg, en, ca), (gn, pu, mk), H) F s (m_cnt P w) 8).1)], (C, N7)) _
          have f10 := m_beF_in ((P, n, q, p, cl, tn), (t, bg, en, ca), (gn, pu, mk), H) F s (m_cnt P w) 8
          refine AR.blk 2 (f' := (50, [some (vA x), some (vI w), some (vI k), some (vI s), some (vI ((m_beF ((P, n, q, p, cl, tn), (t, bg, en, ca), (gn, pu, mk), H) F s (m_cnt P w) 8).1))], [vI ((m_beF ((P, n, q, p, cl, tn), (t, bg, en, ca), (gn, pu, mk), H) F s (m_cnt P w) 8).1)], (C, N7))) (fun _ => rfl) ?_
          refine AR.if_eq rfl (by omega) (fun c11 => ?_) (fun c11 => ?_)
          · show AR E d _ (56, [some (vA x), some (vI w), some (vI k), some (vI s), some (vI ((m_beF ((P, n, q, p, cl, tn), (t, bg, en, ca), (gn, pu, mk), H) F s (m_cnt P w) 8).1))], [], (C, N7)) _
            refine AR.blk 1 (f' := (57, [some (vA x), some (vI w), some (vI k), some (vI s), some (vI ((m_beF ((P, n, q, p, cl, tn), (t, bg, en, ca), (gn, pu, mk), H) F s (m_cnt P w) 8).1))], [vA x], (C, N7))) (fun _ => rfl) ?_
            refine AR.getR rfl rfl hx.1 (by decide) rfl ?_
            refine AR.blk 1 (f' := (61, [some (vA x), some (vI w), some (vI k), some (vI s), some (vI ((m_beF ((P, n, q, p, cl, tn), (t, bg, en, ca), (gn, pu, mk), H) F s (m_cnt P w) 8).1))], [vA x, vA (x + 40)], (C, N7))) (fun _ => rfl) ?_
            refine AR.getR rfl rfl hx.1 (by decide) rfl ?_
            obtain ⟨_, hE12, N13, rfl, hP14, hf15⟩ := ev_X4_keep (E := E) (d := d) (by omega) hx.2.2.2.2.1 hPN7 hx.2.1 (show g_rG N7 (x + 1) ((P, n, q, p, cl, tn), (t, bg, en, ca), (gn, pu, mk), H) from ⟨nBN7, nHN7, nTN7⟩) hvG.1 (by omega)
            have PN13 : g_rP N13 (x + 40) ((((P, n, q, p, cl, tn), (t, bg, en, ca), (gn, pu, mk), H) :: U).take 8) := hP14
            have nBN13 := g_rB_fr nBN7 (N' := N13) (fun a z0 z1 => hf15 a (by omega))
            have nHN13 := g_rH_fr nHN7 (N' := N13) (fun a z0 z1 => hf15 a (by omega))
            have nTN13 := g_rT_fr nTN7 (N' := N13) (hf15 _ (by omega)) (hf15 _ (by omega)) (hf15 _ (by omega)) (hf15 _ (by omega))
            have hVN13 := g_rV_fr hVN7 (N' := N13) (congrFun (hf15 _ (by omega)) _) (fun a z0 z1 => hf15 a (by omega))
            have hFN13 := g_rF_fr FN7 (N' := N13) (hf15 _ (by omega))
            have hTN13 := g_rTx_fr hTN7 (N' := N13) (congrFun (hf15 _ (by omega)) _) (hf15 _ (by omega))
            have hLN13 := g_rLn_fr hLN7 (N' := N13) (congrFun (hf15 _ (by omega)) _) (hf15 _ (by omega))
            have frN13 : ∀ a, ¬ (x ≤ a ∧ a < x + 152) → (N13) a = N a := fun a ha => (hf15 a (by omega)).trans (frN7 a ha)
            rw [show (m_beF ((P, n, q, p, cl, tn), (t, bg, en, ca), (gn, pu, mk), H) F s (m_cnt P w) 8).2 = F from (m_beF_can (by omega)).2] at hFN13
            refine AR.callV [vA (x + 1)] hE12 hx.2.2.2.2.1.1 rfl rfl rfl rfl rfl ?_
            show AR E d _ (67, [some (vA x), some (vI w), some (vI k), some (vI s), some (vI ((m_beF ((P, n, q, p, cl, tn), (t, bg, en, ca), (gn, pu, mk), H) F s (m_cnt P w) 8).1))], [], (C, N13)) _
            refine AR.blk 1 (f' := (68, [some (vA x), some (vI w), some (vI k), some (vI s), some (vI ((m_beF ((P, n, q, p, cl, tn), (t, bg, en, ca), (gn, pu, mk), H) F s (m_cnt P w) 8).1))], [vA x], (C, N13))) (fun _ => rfl) ?_
            refine AR.getR rfl rfl hx.1 (by decide) rfl ?_
            refine AR.getR rfl rfl hx.2.1.1 (by decide) rfl ?_
            refine AR.blk 6 (f' := (80, [some (vA x), some (vI w), some (vI k), some (vI s), some (vI ((m_beF ((P, n, q, p, cl, tn), (t, bg, en, ca), (gn, pu, mk), H) F s (m_cnt P w) 8).1))], [vI ((w * 2) + k), vI s, vA (x + 1 + 1)], (C, N13))) (fun _ => rfl) ?_
            obtain ⟨_, hE16, N17, rfl, hr18, hf19⟩ := ev_X0_setPiece (E := E) (d := d) (by omega) hx.2.1.2.1 nBN13 hwB s ((w * 2) + k) (by omega) (by omega)
            have whr18 := g_wB_set hwB (show 0 ≤ s ∧ s < 36 by omega) (show -1 ≤ ((w * 2) + k) ∧ ((w * 2) + k) ≤ 3 by first | omega | (unfold m_tug at *; omega))
            have nHN17 := g_rH_fr nHN13 (N' := N17) (fun a z0 z1 => hf19 a (by omega))
            have nTN17 := g_rT_fr nTN13 (N' := N17) (hf19 _ (by omega)) (hf19 _ (by omega)) (hf19 _ (by omega)) (hf19 _ (by omega))
            have hPN17 := g_rP_fr PN13 (N' := N17) (fun a z0 z1 => hf19 a (by omega))
            have hVN17 := g_rV_fr hVN13 (N' := N17) (congrFun (hf19 _ (by omega)) _) (fun a z0 z1 => hf19 a (by omega))
            have hFN17 := g_rF_fr hFN13 (N' := N17) (hf19 _ (by omega))
            have hTN17 := g_rTx_fr hTN13 (N' := N17) (congrFun (hf19 _ (by omega)) _) (hf19 _ (by omega))
            have hLN17 := g_rLn_fr hLN13 (N' := N17) (congrFun (hf19 _ (by omega)) _) (hf19 _ (by omega))
            have frN17 : ∀ a, ¬ (x ≤ a ∧ a < x + 152) → (N17) a = N a := fun a ha => (hf19 a (by omega)).trans (frN13 a ha)
            refine AR.callV [vI s, vI ((w * 2) + k)] hE16 hx.2.1.2.1.1 rfl rfl rfl rfl rfl ?_
            show AR E d _ (83, [some (vA x), some (vI w), some (vI k), some (vI s), some (vI ((m_beF ((P, n, q, p, cl, tn), (t, bg, en, ca), (gn, pu, mk), H) F s (m_cnt P w) 8).1))], [], (C, N17)) _
            refine AR.blk 1 (f' := (84, [some (vA x), some (vI w), some (vI k), some (vI s), some (vI ((m_beF ((P, n, q, p, cl, tn), (t, bg, en, ca), (gn, pu, mk), H) F s (m_cnt P w) 8).1))], [vA x], (C, N17))) (fun _ => rfl) ?_
            refine AR.getR rfl rfl hx.1 (by decide) rfl ?_
            refine AR.getR rfl rfl hx.2.1.1 (by decide) rfl ?_
            refine AR.blk 1 (f' := (91, [some (vA x), some (vI w), some (vI k), some (vI s), some (vI ((m_beF ((P, n, q, p, cl, tn), (t, bg, en, ca), (gn, pu, mk), H) F s (m_cnt P w) 8).1))], [vI w, vA (x + 1 + 1)], (C, N17))) (fun _ => rfl) ?_
            refine AR.callV [vI w] (ev_X0_countOf (by omega) hx.2.1.2.1 hr18 whr18 w (by omega)) hx.2.1.2.1.1 rfl rfl rfl rfl rfl ?_
            show AR E d _ (94, [some (vA x), some (vI w), some (vI k), some (vI s), some (vI ((m_beF ((P, n, q, p, cl, tn), (t, bg, en, ca), (gn, pu, mk), H) F s (m_cnt P w) 8).1))], [vI (m_cnt (m_set P s ((w * 2) + k)) w)], (C, N17)) _
            have f20 := m_cnt_in (m_set P s ((w * 2) + k)) w
            refine AR.endI rfl (.inl rfl) ?_
            have e9 : o_put (((P, n, q, p, cl, tn), (t, bg, en, ca), (gn, pu, mk), H), U, V, F, (L, T), (l, ln)) w k s = (m_cnt (m_set P s ((w * 2) + k)) w, (((m_set P s ((w * 2) + k), n, q, p, cl, tn), (t, bg, en, ca), (gn, pu, mk), H), ((((P, n, q, p, cl, tn), (t, bg, en, ca), (gn, pu, mk), H) :: U).take 8), V, F, (L, T), (l, ln))) := by unfold o_put <;> (try dsimp only) <;> (repeat (first | rw [if_pos (by omega)] | rw [if_neg (by omega)])) <;> rfl
            rw [e9]
            exact ⟨_, rfl, ⟨⟨hr18, nHN17, nTN17⟩, hPN17, hVN17, hFN17, hTN17, hLN17⟩, frN17⟩
          · show AR E d _ (53, [some (vA x), some (vI w), some (vI k), some (vI s), some (vI ((m_beF ((P, n, q, p, cl, tn), (t, bg, en, ca), (gn, pu, mk), H) F s (m_cnt P w) 8).1))], [], (C, N7)) _
            refine AR.blk 1 (f' := (55, [some (vA x), some (vI w), some (vI k), some (vI s), some (vI ((m_beF ((P, n, q, p, cl, tn), (t, bg, en, ca), (gn, pu, mk), H) F s (m_cnt P w) 8).1))], [vI ((m_beF ((P, n, q, p, cl, tn), (t, bg, en, ca), (gn, pu, mk), H) F s (m_cnt P w) 8).1)], (C, N7))) (fun _ => rfl) ?_
            refine AR.endI rfl (.inl rfl) ?_
            rw [show (m_beF ((P, n, q, p, cl, tn), (t, bg, en, ca), (gn, pu, mk), H) F s (m_cnt P w) 8).1 = -3 by omega]
            have e9 : o_put (((P, n, q, p, cl, tn), (t, bg, en, ca), (gn, pu, mk), H), U, V, F, (L, T), (l, ln)) w k s = ((-3), (((P, n, q, p, cl, tn), (t, bg, en, ca), (gn, pu, mk), H), U, V, (m_beF ((P, n, q, p, cl, tn), (t, bg, en, ca), (gn, pu, mk), H) F s (m_cnt P w) 8).2, (L, T), (l, ln))) := by unfold o_put <;> (try dsimp only) <;> (repeat (first | rw [if_pos (by omega)] | rw [if_neg (by omega)])) <;> rfl
            rw [e9]
            exact ⟨_, rfl, ⟨⟨nBN7, nHN7, nTN7⟩, hPN7, hVN7, FN7, hTN7, hLN7⟩, frN7⟩
        · show AR E d _ (25, [some (vA x), some (vI w), some (vI k), some (vI s), none], [], (C, N)) _
          refine AR.blk 1 (f' := (27, [some (vA x), some (vI w), some (vI k), some (vI s), none], [vI (-2)], (C, N))) (fun _ => rfl) ?_
          refine AR.endI rfl (.inl rfl) ?_
          have e9 : o_put (((P, n, q, p, cl, tn), (t, bg, en, ca), (gn, pu, mk), H), U, V, F, (L, T), (l, ln)) w k s = ((-2), (((P, n, q, p, cl, tn), (t, bg, en, ca), (gn, pu, mk), H), U, V, F, (L, T), (l, ln))) := by unfold o_put <;> (try dsimp only) <;> (repeat (first | rw [if_pos (by omega)] | rw [if_neg (by omega)])) <;> rfl
          rw [e9]
          exact ⟨_, rfl, ⟨⟨hrB, hrH, hrT⟩, hP, hV, hF, hT, hL⟩, (fun _ _ => rfl)⟩
  · show AR E d _ (7, [some (vA x), some (vI w), some (vI k), some (vI s), none], [], (C, N)) _
    refine AR.blk 1 (f' := (8, [some (vA x), some (vI w), some (vI k), some (vI s), none], [vI (-1)], (C, N))) (fun _ => rfl) ?_
    refine AR.endI rfl (.inl rfl) ?_
    have e9 : o_put (((P, n, q, p, cl, tn), (t, bg, en, ca), (gn, pu, mk), H), U, V, F, (L, T), (l, ln)) w k s = ((-1), (((P, n, q, p, cl, tn), (t, bg, en, ca), (gn, pu, mk), H), U, V, F, (L, T), (l, ln))) := by unfold o_put <;> (try dsimp only) <;> (repeat (first | rw [if_pos (by omega)] | rw [if_neg (by omega)])) <;> rfl
    rw [e9]
    exact ⟨_, rfl, ⟨⟨hrB, hrH, hrT⟩, hP, hV, hF, hT, hL⟩, (fun _ _ => rfl)⟩

theorem ev_X6_lock {d : Nat} (hd : 5 ≤ d) {G : m_G} {U : List m_G} {V : Option m_G} {F : m_F} {L : Int} {T : Int → Int} {l : Int} {ln : Int → Int} (hx : g_isX C x) (hX : g_rX N x (G, U, V, F, (L, T), (l, ln))) (hS : g_vS (G, U, V, F, (L, T), (l, ln))) (s y : Int) (h0 : ag_in s) (h1 : ag_in y) : ∃ o_, Ev E d 61 [vA x, vI s, vI y] (C, N) o_ ∧ g_QX C N x (o_lock (G, U, V, F, (L, T), (l, ln)) s y) o_ := by
  obtain ⟨d, rfl⟩ : ∃ j, d = j + 1 := ⟨d - 1, by omega⟩
  obtain ⟨⟨P, n, q, p, cl, tn⟩, ⟨t, bg, en, ca⟩, ⟨gn, pu, mk⟩, H⟩ := G
  have hrB : g_rB N (x + 1 + 1) P n q p cl tn := hX.1.1
  have hrH : g_rH N (x + 1 + 7) H := hX.1.2.1
  have hrT : g_rT N (x + 1) t bg en ca gn pu mk := hX.1.2.2
  have hP : g_rP N (x + 40) U := hX.2.1
  have hV : g_rV N x V := hX.2.2.1
  have hF : g_rF N (x + 150) F := hX.2.2.2.1
  have hT : g_rTx N (x + 146) L T := hX.2.2.2.2.1
  have hL : g_rLn N x l ln := hX.2.2.2.2.2
  have hvG : g_vG ((P, n, q, p, cl, tn), (t, bg, en, ca), (gn, pu, mk), H) := hS.1
  have hwB : g_wB P n q p cl tn := hvG.1.1
  have hwH : g_wH H := hvG.1.2.1
  have hwS : g_wS t bg en ca gn pu mk := hvG.1.2.2
  have hwL : 0 ≤ L ∧ L ≤ 70 := hS.2.2.2.1
  have hwl : 0 ≤ l ∧ l ≤ 6 := hS.2.2.2.2.2
  have s1 := hwS.1
  have s2 := hwS.2.1
  have s3 := hwS.2.2.1
  have s4 := hwS.2.2.2.1
  have s6 := hwS.2.2.2.2.2
  have s7 : bg = 0 → H.length = 0 := fun e => by have z : H = [] := (hvG.2.1 e).1; rw [z]; rfl
  have s8 := g_rP_l hP
  refine Ev.introQ (M := ag_mX6_lock) rfl rfl ?_
  show AR E d _ (0, [some (vA x), some (vI s), some (vI y), none], [], (C, N)) _
  refine AR.blk 1 (f' := (1, [some (vA x), some (vI s), some (vI y), none], [vI s], (C, N))) (fun _ => rfl) ?_
  refine AR.callS [vI s] (ev_X6_isSquare (by omega) s (by omega)) rfl rfl rfl rfl rfl ?_
  show AR E d _ (4, [some (vA x), some (vI s), some (vI y), none], [vI (if 0 ≤ s ∧ s < 36 then 1 else 0)], (C, N)) _
  refine AR.if_ne rfl (by omega) (fun c1 => ?_) (fun c1 => ?_)
  · show AR E d _ (9, [some (vA x), some (vI s), some (vI y), none], [], (C, N)) _
    refine AR.blk 2 (f' := (11, [some (vA x), some (vI s), some (vI y), none], [vI 2, vI y], (C, N))) (fun _ => rfl) ?_
    refine AR.ic_lt rfl (by omega) (fun c2 => ?_) (fun c2 => ?_)
    · show AR E d _ (19, [some (vA x), some (vI s), some (vI y), none], [], (C, N)) _
      refine AR.blk 1 (f' := (21, [some (vA x), some (vI s), some (vI y), none], [vI (-2)], (C, N))) (fun _ => rfl) ?_
      refine AR.endI rfl (.inl rfl) ?_
      have e9 : o_lock (((P, n, q, p, cl, tn), (t, bg, en, ca), (gn, pu, mk), H), U, V, F, (L, T), (l, ln)) s y = ((-2), (((P, n, q, p, cl, tn), (t, bg, en, ca), (gn, pu, mk), H), U, V, F, (L, T), (l, ln))) := by unfold o_lock <;> (try dsimp only) <;> (repeat (first | rw [if_pos (by omega)] | rw [if_neg (by omega)])) <;> rfl
      rw [e9]
      exact ⟨_, rfl, ⟨⟨hrB, hrH, hrT⟩, hP, hV, hF, hT, hL⟩, (fun _ _ => rfl)⟩
    · show AR E d _ (14, [some (vA x), some (vI s), some (vI y), none], [], (C, N)) _
      refine AR.blk 2 (f' := (16, [some (vA x), some (vI s), some (vI y), none], [vI 5, vI y], (C, N))) (fun _ => rfl) ?_
      refine AR.ic_le rfl (by omega) (fun c3 => ?_) (fun c3 => ?_)
      · show AR E d _ (22, [some (vA x), some (vI s), some (vI y), none], [], (C, N)) _
        refine AR.blk 3 (f' := (25, [some (vA x), some (vI s), some (vI y), none], [vA x, vI s, vA x], (C, N))) (fun _ => rfl) ?_
        refine AR.getR rfl rfl hx.1 (by decide) rfl ?_
        refine AR.getR rfl rfl hx.2.1.1 (by decide) rfl ?_
        have f4 := hwB.2.2.1
        refine AR.getI rfl rfl hx.2.1.2.1.1 (by decide) (v := n) hrB.2.1 ?_
        refine AR.blk 1 (f' := (35, [some (vA x), some (vI s), some (vI y), none], [vI 4, vI n, vI s, vA x], (C, N))) (fun _ => rfl) ?_
        obtain ⟨_, hE5, N6, rfl, hF7, hf8⟩ := ev_X6_buildingError (E := E) (d := d) (by omega) hx hrB hrH hrT hvG hF s n 4 (by omega) (by omega) (by omega)
        have FN6 : g_rF N6 (x + 150) (m_beF ((P, n, q, p, cl, tn), (t, bg, en, ca), (gn, pu, mk), H) F s n 4).2 := hF7
        have nBN6 := g_rB_fr hrB (N' := N6) (fun a z0 z1 => hf8 a (by omega))
        have nHN6 := g_rH_fr hrH (N' := N6) (fun a z0 z1 => hf8 a (by omega))
        have nTN6 := g_rT_fr hrT (N' := N6) (hf8 _ (by omega)) (hf8 _ (by omega)) (hf8 _ (by omega)) (hf8 _ (by omega))
        have hPN6 := g_rP_fr hP (N' := N6) (fun a z0 z1 => hf8 a (by omega))
        have hVN6 := g_rV_fr hV (N' := N6) (congrFun (hf8 _ (by omega)) _) (fun a z0 z1 => hf8 a (by omega))
        have hTN6 := g_rTx_fr hT (N' := N6) (congrFun (hf8 _ (by omega)) _) (hf8 _ (by omega))
        have hLN6 := g_rLn_fr hL (N' := N6) (congrFun (hf8 _ (by omega)) _) (hf8 _ (by omega))
        have frN6 : ∀ a, ¬ (x ≤ a ∧ a < x + 152) → (N6) a = N a := fun a ha => (hf8 a (by omega)).trans ((fun _ _ => rfl) a ha)
        refine AR.callV [vI s, vI n, vI 4] hE5 hx.1 rfl rfl rfl rfl rfl ?_
        show AR E d _ (38, [some (vA x), some (vI s), some (vI y), none], [vI ((m_beF ((P, n, q, p, cl, tn), (t, bg, en, ca), (gn, pu, mk), H) F s n 4).1)], (C, N6)) _
        have f9 := m_beF_in ((P, n, q, p, cl, tn), (t, bg, en, ca), (gn, pu, mk), H) F s n 4
        refine AR.blk 2 (f' := (40, [some (vA x), some (vI s), some (vI y), some (vI ((m_beF ((P, n, q, p, cl, tn), (t, bg, en, ca), (gn, pu, mk), H) F s n 4).1))], [vI ((m_beF ((P, n, q, p, cl, tn), (t, bg, en, ca), (gn, pu, mk), H) F s n 4).1)], (C, N6))) (fun _ => rfl) ?_
        refine AR.if_eq rfl (by omega) (fun c10 => ?_) (fun c10 => ?_)
        · show AR E d _ (45, [some (vA x), some (vI s), some (vI y), some (vI ((m_beF ((P, n, q, p, cl, tn), (t, bg, en, ca), (gn, pu, mk), H) F s n 4).1))], [], (C, N6)) _
          refine AR.blk 1 (f' := (46, [some (vA x), some (vI s), some (vI y), some (vI ((m_beF ((P, n, q, p, cl, tn), (t, bg, en, ca), (gn, pu, mk), H) F s n 4).1))], [vA x], (C, N6))) (fun _ => rfl) ?_
          have hb9 := (m_beF_can (show (m_beF ((P, n, q, p, cl, tn), (t, bg, en, ca), (gn, pu, mk), H) F s n 4).1 = 0 by omega)).1
          have hb8 : n < 4 := hb9.2.2.2
          refine AR.getR rfl rfl hx.1 (by decide) rfl ?_
          refine AR.blk 1 (f' := (50, [some (vA x), some (vI s), some (vI y), some (vI ((m_beF ((P, n, q, p, cl, tn), (t, bg, en, ca), (gn, pu, mk), H) F s n 4).1))], [vA x, vA (x + 40)], (C, N6))) (fun _ => rfl) ?_
          refine AR.getR rfl rfl hx.1 (by decide) rfl ?_
          obtain ⟨_, hE11, N12, rfl, hP13, hf14⟩ := ev_X4_keep (E := E) (d := d) (by omega) hx.2.2.2.2.1 hPN6 hx.2.1 (show g_rG N6 (x + 1) ((P, n, q, p, cl, tn), (t, bg, en, ca), (gn, pu, mk), H) from ⟨nBN6, nHN6, nTN6⟩) hvG.1 (by omega)
          have PN12 : g_rP N12 (x + 40) ((((P, n, q, p, cl, tn), (t, bg, en, ca), (gn, pu, mk), H) :: U).take 8) := hP13
          have nBN12 := g_rB_fr nBN6 (N' := N12) (fun a z0 z1 => hf14 a (by omega))
          have nHN12 := g_rH_fr nHN6 (N' := N12) (fun a z0 z1 => hf14 a (by omega))
          have nTN12 := g_rT_fr nTN6 (N' := N12) (hf14 _ (by omega)) (hf14 _ (by omega)) (hf14 _ (by omega)) (hf14 _ (by omega))
          have hVN12 := g_rV_fr hVN6 (N' := N12) (congrFun (hf14 _ (by omega)) _) (fun a z0 z1 => hf14 a (by omega))
          have hFN12 := g_rF_fr FN6 (N' := N12) (hf14 _ (by omega))
          have hTN12 := g_rTx_fr hTN6 (N' := N12) (congrFun (hf14 _ (by omega)) _) (hf14 _ (by omega))
          have hLN12 := g_rLn_fr hLN6 (N' := N12) (congrFun (hf14 _ (by omega)) _) (hf14 _ (by omega))
          have frN12 : ∀ a, ¬ (x ≤ a ∧ a < x + 152) → (N12) a = N a := fun a ha => (hf14 a (by omega)).trans (frN6 a ha)
          rw [show (m_beF ((P, n, q, p, cl, tn), (t, bg, en, ca), (gn, pu, mk), H) F s n 4).2 = F from (m_beF_can (by omega)).2] at hFN12
          refine AR.callV [vA (x + 1)] hE11 hx.2.2.2.2.1.1 rfl rfl rfl rfl rfl ?_
          show AR E d _ (56, [some (vA x), some (vI s), some (vI y), some (vI ((m_beF ((P, n, q, p, cl, tn), (t, bg, en, ca), (gn, pu, mk), H) F s n 4).1))], [], (C, N12)) _
          refine AR.blk 1 (f' := (57, [some (vA x), some (vI s), some (vI y), some (vI ((m_beF ((P, n, q, p, cl, tn), (t, bg, en, ca), (gn, pu, mk), H) F s n 4).1))], [vA x], (C, N12))) (fun _ => rfl) ?_
          refine AR.getR rfl rfl hx.1 (by decide) rfl ?_
          refine AR.getR rfl rfl hx.2.1.1 (by decide) rfl ?_
          refine AR.blk 2 (f' := (65, [some (vA x), some (vI s), some (vI y), some (vI ((m_beF ((P, n, q, p, cl, tn), (t, bg, en, ca), (gn, pu, mk), H) F s n 4).1))], [vI y, vI s, vA (x + 1 + 1)], (C, N12))) (fun _ => rfl) ?_
          obtain ⟨_, hE15, N16, rfl, hr17, hf18⟩ := ev_X0_buildLock (E := E) (d := d) (by omega) hx.2.1.2.1 nBN12 hwB s y (by omega) (by omega) (by omega)
          have nHN16 := g_rH_fr nHN12 (N' := N16) (fun a z0 z1 => hf18 a (by omega))
          have nTN16 := g_rT_fr nTN12 (N' := N16) (hf18 _ (by omega)) (hf18 _ (by omega)) (hf18 _ (by omega)) (hf18 _ (by omega))
          have hPN16 := g_rP_fr PN12 (N' := N16) (fun a z0 z1 => hf18 a (by omega))
          have hVN16 := g_rV_fr hVN12 (N' := N16) (congrFun (hf18 _ (by omega)) _) (fun a z0 z1 => hf18 a (by omega))
          have hFN16 := g_rF_fr hFN12 (N' := N16) (hf18 _ (by omega))
          have hTN16 := g_rTx_fr hTN12 (N' := N16) (congrFun (hf18 _ (by omega)) _) (hf18 _ (by omega))
          have hLN16 := g_rLn_fr hLN12 (N' := N16) (congrFun (hf18 _ (by omega)) _) (hf18 _ (by omega))
          have frN16 : ∀ a, ¬ (x ≤ a ∧ a < x + 152) → (N16) a = N a := fun a ha => (hf18 a (by omega)).trans (frN12 a ha)
          refine AR.callV [vI s, vI y] hE15 hx.2.1.2.1.1 rfl rfl rfl rfl rfl ?_
          show AR E d _ (68, [some (vA x), some (vI s), some (vI y), some (vI ((m_beF ((P, n, q, p, cl, tn), (t, bg, en, ca), (gn, pu, mk), H) F s n 4).1))], [vI n], (C, N16)) _
          refine AR.endI rfl (.inl rfl) ?_
          have e9 : o_lock (((P, n, q, p, cl, tn), (t, bg, en, ca), (gn, pu, mk), H), U, V, F, (L, T), (l, ln)) s y = (n, (((P, n + 1, m_set q n s, m_set p n y, m_set cl n 0, m_set tn n 0), (t, bg, en, ca), (gn, pu, mk), H), ((((P, n, q, p, cl, tn), (t, bg, en, ca), (gn, pu, mk), H) :: U).take 8), V, F, (L, T), (l, ln))) := by unfold o_lock <;> (try dsimp only) <;> (repeat (first | rw [if_pos (by omega)] | rw [if_neg (by omega)])) <;> rfl
          rw [e9]
          exact ⟨_, rfl, ⟨⟨hr17, nHN16, nTN16⟩, hPN16, hVN16, hFN16, hTN16, hLN16⟩, frN16⟩
        · show AR E d _ (43, [some (vA x), some (vI s), some (vI y), some (vI ((m_beF ((P, n, q, p, cl, tn), (t, bg, en, ca), (gn, pu, mk), H) F s n 4).1))], [], (C, N6)) _
          refine AR.blk 1 (f' := (44, [some (vA x), some (vI s), some (vI y), some (vI ((m_beF ((P, n, q, p, cl, tn), (t, bg, en, ca), (gn, pu, mk), H) F s n 4).1))], [vI ((m_beF ((P, n, q, p, cl, tn), (t, bg, en, ca), (gn, pu, mk), H) F s n 4).1)], (C, N6))) (fun _ => rfl) ?_
          refine AR.endI rfl (.inl rfl) ?_
          rw [show (m_beF ((P, n, q, p, cl, tn), (t, bg, en, ca), (gn, pu, mk), H) F s n 4).1 = -3 by omega]
          have e9 : o_lock (((P, n, q, p, cl, tn), (t, bg, en, ca), (gn, pu, mk), H), U, V, F, (L, T), (l, ln)) s y = ((-3), (((P, n, q, p, cl, tn), (t, bg, en, ca), (gn, pu, mk), H), U, V, (m_beF ((P, n, q, p, cl, tn), (t, bg, en, ca), (gn, pu, mk), H) F s n 4).2, (L, T), (l, ln))) := by unfold o_lock <;> (try dsimp only) <;> (repeat (first | rw [if_pos (by omega)] | rw [if_neg (by omega)])) <;> rfl
          rw [e9]
          exact ⟨_, rfl, ⟨⟨nBN6, nHN6, nTN6⟩, hPN6, hVN6, FN6, hTN6, hLN6⟩, frN6⟩
      · show AR E d _ (19, [some (vA x), some (vI s), some (vI y), none], [], (C, N)) _
        refine AR.blk 1 (f' := (21, [some (vA x), some (vI s), some (vI y), none], [vI (-2)], (C, N))) (fun _ => rfl) ?_
        refine AR.endI rfl (.inl rfl) ?_
        have e9 : o_lock (((P, n, q, p, cl, tn), (t, bg, en, ca), (gn, pu, mk), H), U, V, F, (L, T), (l, ln)) s y = ((-2), (((P, n, q, p, cl, tn), (t, bg, en, ca), (gn, pu, mk), H), U, V, F, (L, T), (l, ln))) := by unfold o_lock <;> (try dsimp only) <;> (repeat (first | rw [if_pos (by omega)] | rw [if_neg (by omega)])) <;> rfl
        rw [e9]
        exact ⟨_, rfl, ⟨⟨hrB, hrH, hrT⟩, hP, hV, hF, hT, hL⟩, (fun _ _ => rfl)⟩
  · show AR E d _ (7, [some (vA x), some (vI s), some (vI y), none], [], (C, N)) _
    refine AR.blk 1 (f' := (8, [some (vA x), some (vI s), some (vI y), none], [vI (-1)], (C, N))) (fun _ => rfl) ?_
    refine AR.endI rfl (.inl rfl) ?_
    have e9 : o_lock (((P, n, q, p, cl, tn), (t, bg, en, ca), (gn, pu, mk), H), U, V, F, (L, T), (l, ln)) s y = ((-1), (((P, n, q, p, cl, tn), (t, bg, en, ca), (gn, pu, mk), H), U, V, F, (L, T), (l, ln))) := by unfold o_lock <;> (try dsimp only) <;> (repeat (first | rw [if_pos (by omega)] | rw [if_neg (by omega)])) <;> rfl
    rw [e9]
    exact ⟨_, rfl, ⟨⟨hrB, hrH, hrT⟩, hP, hV, hF, hT, hL⟩, (fun _ _ => rfl)⟩

theorem ev_X6_begin {d : Nat} (hd : 7 ≤ d) {G : m_G} {U : List m_G} {V : Option m_G} {F : m_F} {L : Int} {T : Int → Int} {l : Int} {ln : Int → Int} (hx : g_isX C x) (hX : g_rX N x (G, U, V, F, (L, T), (l, ln))) (hS : g_vS (G, U, V, F, (L, T), (l, ln))) : ∃ o_, Ev E d 62 [vA x] (C, N) o_ ∧ g_QX C N x (o_begin (G, U, V, F, (L, T), (l, ln))) o_ := by
  obtain ⟨d, rfl⟩ : ∃ j, d = j + 1 := ⟨d - 1, by omega⟩
  obtain ⟨⟨P, n, q, p, cl, tn⟩, ⟨t, bg, en, ca⟩, ⟨gn, pu, mk⟩, H⟩ := G
  have hrB : g_rB N (x + 1 + 1) P n q p cl tn := hX.1.1
  have hrH : g_rH N (x + 1 + 7) H := hX.1.2.1
  have hrT : g_rT N (x + 1) t bg en ca gn pu mk := hX.1.2.2
  have hP : g_rP N (x + 40) U := hX.2.1
  have hV : g_rV N x V := hX.2.2.1
  have hF : g_rF N (x + 150) F := hX.2.2.2.1
  have hT : g_rTx N (x + 146) L T := hX.2.2.2.2.1
  have hL : g_rLn N x l ln := hX.2.2.2.2.2
  have hvG : g_vG ((P, n, q, p, cl, tn), (t, bg, en, ca), (gn, pu, mk), H) := hS.1
  have hwB : g_wB P n q p cl tn := hvG.1.1
  have hwH : g_wH H := hvG.1.2.1
  have hwS : g_wS t bg en ca gn pu mk := hvG.1.2.2
  have hwL : 0 ≤ L ∧ L ≤ 70 := hS.2.2.2.1
  have hwl : 0 ≤ l ∧ l ≤ 6 := hS.2.2.2.2.2
  have s1 := hwS.1
  have s2 := hwS.2.1
  have s3 := hwS.2.2.1
  have s4 := hwS.2.2.2.1
  have s6 := hwS.2.2.2.2.2
  have s7 : bg = 0 → H.length = 0 := fun e => by have z : H = [] := (hvG.2.1 e).1; rw [z]; rfl
  have s8 := g_rP_l hP
  refine Ev.introQ (M := ag_mX6_begin) rfl rfl ?_
  show AR E d _ (0, [some (vA x), none], [], (C, N)) _
  refine AR.blk 1 (f' := (1, [some (vA x), none], [vA x], (C, N))) (fun _ => rfl) ?_
  refine AR.getR rfl rfl hx.1 (by decide) rfl ?_
  refine AR.getI rfl rfl hx.2.1.1 (by decide) (v := bg) hrT.1.1 ?_
  refine AR.if_eq rfl (by omega) (fun c1 => ?_) (fun c1 => ?_)
  · show AR E d _ (25, [some (vA x), none], [], (C, N)) _
    refine AR.blk 4 (f' := (29, [some (vA x), some (vI 0)], [vI 2, vI 0], (C, N))) (fun _ => rfl) ?_
    refine AR.blk 2 (f' := (33, [some (vA x), some (vI 0)], [vA x], (C, N))) (fun _ => rfl) ?_
    refine AR.getR rfl rfl hx.1 (by decide) rfl ?_
    refine AR.getR rfl rfl hx.2.1.1 (by decide) rfl ?_
    refine AR.blk 1 (f' := (40, [some (vA x), some (vI 0)], [vI 0, vA (x + 1 + 1)], (C, N))) (fun _ => rfl) ?_
    refine AR.callV [vI 0] (ev_X0_countOf (by omega) hx.2.1.2.1 hrB hwB 0 (by omega)) hx.2.1.2.1.1 rfl rfl rfl rfl rfl ?_
    show AR E d _ (43, [some (vA x), some (vI 0)], [vI (m_cnt P 0)], (C, N)) _
    have f2 := m_cnt_in P 0
    refine AR.if_ne rfl (by omega) (fun c3 => ?_) (fun c3 => ?_)
    · show AR E d _ (56, [some (vA x), some (vI 0)], [], (C, N)) _
      refine AR.blk 4 (f' := (29, [some (vA x), some (vI 1)], [vI 2, vI 1], (C, N))) (fun _ => rfl) ?_
      refine AR.blk 2 (f' := (33, [some (vA x), some (vI 1)], [vA x], (C, N))) (fun _ => rfl) ?_
      refine AR.getR rfl rfl hx.1 (by decide) rfl ?_
      refine AR.getR rfl rfl hx.2.1.1 (by decide) rfl ?_
      refine AR.blk 1 (f' := (40, [some (vA x), some (vI 1)], [vI 1, vA (x + 1 + 1)], (C, N))) (fun _ => rfl) ?_
      refine AR.callV [vI 1] (ev_X0_countOf (by omega) hx.2.1.2.1 hrB hwB 1 (by omega)) hx.2.1.2.1.1 rfl rfl rfl rfl rfl ?_
      show AR E d _ (43, [some (vA x), some (vI 1)], [vI (m_cnt P 1)], (C, N)) _
      have f4 := m_cnt_in P 1
      refine AR.if_ne rfl (by omega) (fun c5 => ?_) (fun c5 => ?_)
      · show AR E d _ (56, [some (vA x), some (vI 1)], [], (C, N)) _
        refine AR.blk 4 (f' := (29, [some (vA x), some (vI 2)], [vI 2, vI 2], (C, N))) (fun _ => rfl) ?_
        refine AR.blk 2 (f' := (63, [some (vA x), some (vI 2)], [vA x], (C, N))) (fun _ => rfl) ?_
        refine AR.getR rfl rfl hx.1 (by decide) rfl ?_
        refine AR.blk 1 (f' := (67, [some (vA x), some (vI 2)], [vA x, vA (x + 40)], (C, N))) (fun _ => rfl) ?_
        refine AR.getR rfl rfl hx.1 (by decide) rfl ?_
        obtain ⟨_, hE6, N7, rfl, hP8, hf9⟩ := ev_X4_keep (E := E) (d := d) (by omega) hx.2.2.2.2.1 hP hx.2.1 (show g_rG N (x + 1) ((P, n, q, p, cl, tn), (t, bg, en, ca), (gn, pu, mk), H) from ⟨hrB, hrH, hrT⟩) hvG.1 (by omega)
        have PN7 : g_rP N7 (x + 40) ((((P, n, q, p, cl, tn), (t, bg, en, ca), (gn, pu, mk), H) :: U).take 8) := hP8
        have nBN7 := g_rB_fr hrB (N' := N7) (fun a z0 z1 => hf9 a (by omega))
        have nHN7 := g_rH_fr hrH (N' := N7) (fun a z0 z1 => hf9 a (by omega))
        have nTN7 := g_rT_fr hrT (N' := N7) (hf9 _ (by omega)) (hf9 _ (by omega)) (hf9 _ (by omega)) (hf9 _ (by omega))
        have hVN7 := g_rV_fr hV (N' := N7) (congrFun (hf9 _ (by omega)) _) (fun a z0 z1 => hf9 a (by omega))
        have hFN7 := g_rF_fr hF (N' := N7) (hf9 _ (by omega))
        have hTN7 := g_rTx_fr hT (N' := N7) (congrFun (hf9 _ (by omega)) _) (hf9 _ (by omega))
        have hLN7 := g_rLn_fr hL (N' := N7) (congrFun (hf9 _ (by omega)) _) (hf9 _ (by omega))
        have frN7 : ∀ a, ¬ (x ≤ a ∧ a < x + 152) → (N7) a = N a := fun a ha => (hf9 a (by omega)).trans ((fun _ _ => rfl) a ha)
        refine AR.callV [vA (x + 1)] hE6 hx.2.2.2.2.1.1 rfl rfl rfl rfl rfl ?_
        show AR E d _ (73, [some (vA x), some (vI 2)], [], (C, N7)) _
        refine AR.blk 1 (f' := (74, [some (vA x), some (vI 2)], [vA x], (C, N7))) (fun _ => rfl) ?_
        refine AR.getR rfl rfl hx.1 (by decide) rfl ?_
        obtain ⟨_, hE10, N11, rfl, hr12, hf13⟩ := ev_X1_startPlay (E := E) (d := d) (by omega) hx.2.1 nBN7 nHN7 nTN7 hwB hwH (by omega) (by omega) (by omega)
        have nBN11 : g_rB N11 (x + 1 + 1) P n q p cl tn := hr12.1
        have nHN11 : g_rH N11 (x + 1 + 7) (m_key P cl (t % 2) :: H) := hr12.2.1
        have nTN11 : g_rT N11 (x + 1) t 1 (m_stl P n q cl t (m_key P cl (t % 2) :: H)) ca gn pu mk := hr12.2.2
        have vN11 : g_vG ((P, n, q, p, cl, tn), (t, 1, m_stl P n q cl t (m_key P cl (t % 2) :: H), ca), (gn, pu, mk), (m_key P cl (t % 2) :: H)) := g_vG_bgn hvG (show bg = 0 by omega)
        have wBN11 : g_wB P n q p cl tn := vN11.1.1
        have wHN11 : g_wH (m_key P cl (t % 2) :: H) := vN11.1.2.1
        have wSN11 : g_wS t 1 (m_stl P n q cl t (m_key P cl (t % 2) :: H)) ca gn pu mk := vN11.1.2.2
        have z1N11 := wSN11.1
        have z2N11 := wSN11.2.1
        have z3N11 := wSN11.2.2.1
        have hPN11 := g_rP_fr PN7 (N' := N11) (fun a z0 z1 => hf13 a (by omega))
        have hVN11 := g_rV_fr hVN7 (N' := N11) (congrFun (hf13 _ (by omega)) _) (fun a z0 z1 => hf13 a (by omega))
        have hFN11 := g_rF_fr hFN7 (N' := N11) (hf13 _ (by omega))
        have hTN11 := g_rTx_fr hTN7 (N' := N11) (congrFun (hf13 _ (by omega)) _) (hf13 _ (by omega))
        have hLN11 := g_rLn_fr hLN7 (N' := N11) (congrFun (hf13 _ (by omega)) _) (hf13 _ (by omega))
        have frN11 : ∀ a, ¬ (x ≤ a ∧ a < x + 152) → (N11) a = N a := fun a ha => (hf13 a (by omega)).trans (frN7 a ha)
        refine AR.callV [] hE10 hx.2.1.1 rfl rfl rfl rfl rfl ?_
        show AR E d _ (80, [some (vA x), some (vI 2)], [], (C, N11)) _
        refine AR.blk 1 (f' := (81, [some (vA x), some (vI 2)], [vA x], (C, N11))) (fun _ => rfl) ?_
        refine AR.getR rfl rfl hx.1 (by decide) rfl ?_
        refine AR.callV [] (ev_X1_openMoves (by omega) hx.2.1 nBN11 nHN11 nTN11 wBN11 wHN11 (by omega)  ) hx.2.1.1 rfl rfl rfl rfl rfl ?_
        show AR E d _ (87, [some (vA x), some (vI 2)], [vI (if m_on 1 (m_stl P n q cl t (m_key P cl (t % 2) :: H)) = 1 then m_mv P n q cl (t % 2) else 0)], (C, N11)) _
        have f14 := m_mv_in P n q cl (t % 2)
        refine AR.endI rfl (.inl rfl) ?_
        have e9 : o_begin (((P, n, q, p, cl, tn), (t, bg, en, ca), (gn, pu, mk), H), U, V, F, (L, T), (l, ln)) = ((if m_on 1 (m_stl P n q cl t (m_key P cl (t % 2) :: H)) = 1 then m_mv P n q cl (t % 2) else 0), (((P, n, q, p, cl, tn), (t, 1, m_stl P n q cl t (m_key P cl (t % 2) :: H), ca), (gn, pu, mk), (m_key P cl (t % 2) :: H)), ((((P, n, q, p, cl, tn), (t, bg, en, ca), (gn, pu, mk), H) :: U).take 8), V, F, (L, T), (l, ln))) := by unfold o_begin <;> (try dsimp only) <;> (repeat (first | rw [if_pos (by omega)] | rw [if_neg (by omega)])) <;> (try rw [m_mvs_cls]) <;> rfl
        rw [e9]
        exact ⟨_, rfl, ⟨⟨nBN11, nHN11, nTN11⟩, hPN11, hVN11, hFN11, hTN11, hLN11⟩, frN11⟩
      · show AR E d _ (46, [some (vA x), some (vI 1)], [], (C, N)) _
        refine AR.blk 4 (f' := (52, [some (vA x), some (vI 1)], [vI (-4), vI 1, vI 7, vA x], (C, N))) (fun _ => rfl) ?_
        obtain ⟨_, hE15, N16, rfl, hF17, hf18⟩ := ev_X6_refuse (E := E) (d := d) (by omega) hx 7 1 (-4)
        have FN16 : g_rF N16 (x + 150) (7, 1, (-4), -4, -4) := hF17
        have nBN16 := g_rB_fr hrB (N' := N16) (fun a z0 z1 => hf18 a (by omega))
        have nHN16 := g_rH_fr hrH (N' := N16) (fun a z0 z1 => hf18 a (by omega))
        have nTN16 := g_rT_fr hrT (N' := N16) (hf18 _ (by omega)) (hf18 _ (by omega)) (hf18 _ (by omega)) (hf18 _ (by omega))
        have hPN16 := g_rP_fr hP (N' := N16) (fun a z0 z1 => hf18 a (by omega))
        have hVN16 := g_rV_fr hV (N' := N16) (congrFun (hf18 _ (by omega)) _) (fun a z0 z1 => hf18 a (by omega))
        have hTN16 := g_rTx_fr hT (N' := N16) (congrFun (hf18 _ (by omega)) _) (hf18 _ (by omega))
        have hLN16 := g_rLn_fr hL (N' := N16) (congrFun (hf18 _ (by omega)) _) (hf18 _ (by omega))
        have frN16 : ∀ a, ¬ (x ≤ a ∧ a < x + 152) → (N16) a = N a := fun a ha => (hf18 a (by omega)).trans ((fun _ _ => rfl) a ha)
        refine AR.callV [vI 7, vI 1, vI (-4)] hE15 hx.1 rfl rfl rfl rfl rfl ?_
        show AR E d _ (55, [some (vA x), some (vI 1)], [vI (-3)], (C, N16)) _
        refine AR.endI rfl (.inl rfl) ?_
        have e9 : o_begin (((P, n, q, p, cl, tn), (t, bg, en, ca), (gn, pu, mk), H), U, V, F, (L, T), (l, ln)) = (-3, (((P, n, q, p, cl, tn), (t, bg, en, ca), (gn, pu, mk), H), U, V, (7, 1, (-4), -4, -4), (L, T), (l, ln))) := by unfold o_begin <;> (try dsimp only) <;> (repeat (first | rw [if_pos (by omega)] | rw [if_neg (by omega)])) <;> (try rw [m_mvs_cls]) <;> rfl
        rw [e9]
        exact ⟨_, rfl, ⟨⟨nBN16, nHN16, nTN16⟩, hPN16, hVN16, FN16, hTN16, hLN16⟩, frN16⟩
    · show AR E d _ (46, [some (vA x), some (vI 0)], [], (C, N)) _
      refine AR.blk 4 (f' := (52, [some (vA x), some (vI 0)], [vI (-4), vI 0, vI 7, vA x], (C, N))) (fun _ => rfl) ?_
      obtain ⟨_, hE19, N20, rfl, hF21, hf22⟩ := ev_X6_refuse (E := E) (d := d) (by omega) hx 7 0 (-4)
      have FN20 : g_rF N20 (x + 150) (7, 0, (-4), -4, -4) := hF21
      have nBN20 := g_rB_fr hrB (N' := N20) (fun a z0 z1 => hf22 a (by omega))
      have nHN20 := g_rH_fr hrH (N' := N20) (fun a z0 z1 => hf22 a (by omega))
      have nTN20 := g_rT_fr hrT (N' := N20) (hf22 _ (by omega)) (hf22 _ (by omega)) (hf22 _ (by omega)) (hf22 _ (by omega))
      have hPN20 := g_rP_fr hP (N' := N20) (fun a z0 z1 => hf22 a (by omega))
      have hVN20 := g_rV_fr hV (N' := N20) (congrFun (hf22 _ (by omega)) _) (fun a z0 z1 => hf22 a (by omega))
      have hTN20 := g_rTx_fr hT (N' := N20) (congrFun (hf22 _ (by omega)) _) (hf22 _ (by omega))
      have hLN20 := g_rLn_fr hL (N' := N20) (congrFun (hf22 _ (by omega)) _) (hf22 _ (by omega))
      have frN20 : ∀ a, ¬ (x ≤ a ∧ a < x + 152) → (N20) a = N a := fun a ha => (hf22 a (by omega)).trans ((fun _ _ => rfl) a ha)
      refine AR.callV [vI 7, vI 0, vI (-4)] hE19 hx.1 rfl rfl rfl rfl rfl ?_
      show AR E d _ (55, [some (vA x), some (vI 0)], [vI (-3)], (C, N20)) _
      refine AR.endI rfl (.inl rfl) ?_
      have e9 : o_begin (((P, n, q, p, cl, tn), (t, bg, en, ca), (gn, pu, mk), H), U, V, F, (L, T), (l, ln)) = (-3, (((P, n, q, p, cl, tn), (t, bg, en, ca), (gn, pu, mk), H), U, V, (7, 0, (-4), -4, -4), (L, T), (l, ln))) := by unfold o_begin <;> (try dsimp only) <;> (repeat (first | rw [if_pos (by omega)] | rw [if_neg (by omega)])) <;> (try rw [m_mvs_cls]) <;> rfl
      rw [e9]
      exact ⟨_, rfl, ⟨⟨nBN20, nHN20, nTN20⟩, hPN20, hVN20, FN20, hTN20, hLN20⟩, frN20⟩
  · show AR E d _ (10, [some (vA x), none], [], (C, N)) _
    refine AR.blk 3 (f' := (13, [some (vA x), none], [vA x, vI 2, vA x], (C, N))) (fun _ => rfl) ?_
    refine AR.getR rfl rfl hx.1 (by decide) rfl ?_
    refine AR.getI rfl rfl hx.2.1.1 (by decide) (v := t) hrT.1.2.2.1 ?_
    refine AR.blk 1 (f' := (21, [some (vA x), none], [vI (-4), vI t, vI 2, vA x], (C, N))) (fun _ => rfl) ?_
    obtain ⟨_, hE23, N24, rfl, hF25, hf26⟩ := ev_X6_refuse (E := E) (d := d) (by omega) hx 2 t (-4)
    have FN24 : g_rF N24 (x + 150) (2, t, (-4), -4, -4) := hF25
    have nBN24 := g_rB_fr hrB (N' := N24) (fun a z0 z1 => hf26 a (by omega))
    have nHN24 := g_rH_fr hrH (N' := N24) (fun a z0 z1 => hf26 a (by omega))
    have nTN24 := g_rT_fr hrT (N' := N24) (hf26 _ (by omega)) (hf26 _ (by omega)) (hf26 _ (by omega)) (hf26 _ (by omega))
    have hPN24 := g_rP_fr hP (N' := N24) (fun a z0 z1 => hf26 a (by omega))
    have hVN24 := g_rV_fr hV (N' := N24) (congrFun (hf26 _ (by omega)) _) (fun a z0 z1 => hf26 a (by omega))
    have hTN24 := g_rTx_fr hT (N' := N24) (congrFun (hf26 _ (by omega)) _) (hf26 _ (by omega))
    have hLN24 := g_rLn_fr hL (N' := N24) (congrFun (hf26 _ (by omega)) _) (hf26 _ (by omega))
    have frN24 : ∀ a, ¬ (x ≤ a ∧ a < x + 152) → (N24) a = N a := fun a ha => (hf26 a (by omega)).trans ((fun _ _ => rfl) a ha)
    refine AR.callV [vI 2, vI t, vI (-4)] hE23 hx.1 rfl rfl rfl rfl rfl ?_
    show AR E d _ (24, [some (vA x), none], [vI (-3)], (C, N24)) _
    refine AR.endI rfl (.inl rfl) ?_
    have e9 : o_begin (((P, n, q, p, cl, tn), (t, bg, en, ca), (gn, pu, mk), H), U, V, F, (L, T), (l, ln)) = (-3, (((P, n, q, p, cl, tn), (t, bg, en, ca), (gn, pu, mk), H), U, V, (2, t, (-4), -4, -4), (L, T), (l, ln))) := by unfold o_begin <;> (try dsimp only) <;> (repeat (first | rw [if_pos (by omega)] | rw [if_neg (by omega)])) <;> (try rw [m_mvs_cls]) <;> rfl
    rw [e9]
    exact ⟨_, rfl, ⟨⟨nBN24, nHN24, nTN24⟩, hPN24, hVN24, FN24, hTN24, hLN24⟩, frN24⟩

theorem ev_X6_move {d : Nat} (hd : 7 ≤ d) {G : m_G} {U : List m_G} {V : Option m_G} {F : m_F} {L : Int} {T : Int → Int} {l : Int} {ln : Int → Int} (hx : g_isX C x) (hX : g_rX N x (G, U, V, F, (L, T), (l, ln))) (hS : g_vS (G, U, V, F, (L, T), (l, ln))) (s y : Int) (h0 : ag_in s) (h1 : ag_in y) : ∃ o_, Ev E d 63 [vA x, vI s, vI y] (C, N) o_ ∧ g_QX C N x (o_move (G, U, V, F, (L, T), (l, ln)) s y) o_ := by
  obtain ⟨d, rfl⟩ : ∃ j, d = j + 1 := ⟨d - 1, by omega⟩
  obtain ⟨⟨P, n, q, p, cl, tn⟩, ⟨t, bg, en, ca⟩, ⟨gn, pu, mk⟩, H⟩ := G
  have hrB : g_rB N (x + 1 + 1) P n q p cl tn := hX.1.1
  have hrH : g_rH N (x + 1 + 7) H := hX.1.2.1
  have hrT : g_rT N (x + 1) t bg en ca gn pu mk := hX.1.2.2
  have hP : g_rP N (x + 40) U := hX.2.1
  have hV : g_rV N x V := hX.2.2.1
  have hF : g_rF N (x + 150) F := hX.2.2.2.1
  have hT : g_rTx N (x + 146) L T := hX.2.2.2.2.1
  have hL : g_rLn N x l ln := hX.2.2.2.2.2
  have hvG : g_vG ((P, n, q, p, cl, tn), (t, bg, en, ca), (gn, pu, mk), H) := hS.1
  have hwB : g_wB P n q p cl tn := hvG.1.1
  have hwH : g_wH H := hvG.1.2.1
  have hwS : g_wS t bg en ca gn pu mk := hvG.1.2.2
  have hwL : 0 ≤ L ∧ L ≤ 70 := hS.2.2.2.1
  have hwl : 0 ≤ l ∧ l ≤ 6 := hS.2.2.2.2.2
  have s1 := hwS.1
  have s2 := hwS.2.1
  have s3 := hwS.2.2.1
  have s4 := hwS.2.2.2.1
  have s6 := hwS.2.2.2.2.2
  have s7 : bg = 0 → H.length = 0 := fun e => by have z : H = [] := (hvG.2.1 e).1; rw [z]; rfl
  have s8 := g_rP_l hP
  refine Ev.introQ (M := ag_mX6_move) rfl rfl ?_
  show AR E d _ (0, [some (vA x), some (vI s), some (vI y), none], [], (C, N)) _
  refine AR.blk 2 (f' := (2, [some (vA x), some (vI s), some (vI y), none], [vA x, vA x], (C, N))) (fun _ => rfl) ?_
  refine AR.getR rfl rfl hx.1 (by decide) rfl ?_
  refine AR.blk 3 (f' := (9, [some (vA x), some (vI s), some (vI y), none], [vI (-4), vI y, vI s, vA (x + 1), vA x], (C, N))) (fun _ => rfl) ?_
  obtain ⟨_, hE1, N2, rfl, hF3, hf4⟩ := ev_X6_moveError (E := E) (d := d) (by omega) hx hx.2.1 (by omega) hrB hrH hrT hvG hF s y (-4) (by omega) (by omega)
  have FN2 : g_rF N2 (x + 150) (m_mvF ((P, n, q, p, cl, tn), (t, bg, en, ca), (gn, pu, mk), H) F s y (-4)).2 := hF3
  have nBN2 := g_rB_fr hrB (N' := N2) (fun a z0 z1 => hf4 a (by omega))
  have nHN2 := g_rH_fr hrH (N' := N2) (fun a z0 z1 => hf4 a (by omega))
  have nTN2 := g_rT_fr hrT (N' := N2) (hf4 _ (by omega)) (hf4 _ (by omega)) (hf4 _ (by omega)) (hf4 _ (by omega))
  have hPN2 := g_rP_fr hP (N' := N2) (fun a z0 z1 => hf4 a (by omega))
  have hVN2 := g_rV_fr hV (N' := N2) (congrFun (hf4 _ (by omega)) _) (fun a z0 z1 => hf4 a (by omega))
  have hTN2 := g_rTx_fr hT (N' := N2) (congrFun (hf4 _ (by omega)) _) (hf4 _ (by omega))
  have hLN2 := g_rLn_fr hL (N' := N2) (congrFun (hf4 _ (by omega)) _) (hf4 _ (by omega))
  have frN2 : ∀ a, ¬ (x ≤ a ∧ a < x + 152) → (N2) a = N a := fun a ha => (hf4 a (by omega)).trans ((fun _ _ => rfl) a ha)
  refine AR.callV [vA (x + 1), vI s, vI y, vI (-4)] hE1 hx.1 rfl rfl rfl rfl rfl ?_
  show AR E d _ (12, [some (vA x), some (vI s), some (vI y), none], [vI ((m_mvF ((P, n, q, p, cl, tn), (t, bg, en, ca), (gn, pu, mk), H) F s y (-4)).1)], (C, N2)) _
  have f5 := m_mvF_in ((P, n, q, p, cl, tn), (t, bg, en, ca), (gn, pu, mk), H) F s y (-4)
  refine AR.blk 2 (f' := (14, [some (vA x), some (vI s), some (vI y), some (vI ((m_mvF ((P, n, q, p, cl, tn), (t, bg, en, ca), (gn, pu, mk), H) F s y (-4)).1))], [vI ((m_mvF ((P, n, q, p, cl, tn), (t, bg, en, ca), (gn, pu, mk), H) F s y (-4)).1)], (C, N2))) (fun _ => rfl) ?_
  refine AR.if_eq rfl (by omega) (fun c6 => ?_) (fun c6 => ?_)
  · show AR E d _ (19, [some (vA x), some (vI s), some (vI y), some (vI ((m_mvF ((P, n, q, p, cl, tn), (t, bg, en, ca), (gn, pu, mk), H) F s y (-4)).1))], [], (C, N2)) _
    refine AR.blk 1 (f' := (20, [some (vA x), some (vI s), some (vI y), some (vI ((m_mvF ((P, n, q, p, cl, tn), (t, bg, en, ca), (gn, pu, mk), H) F s y (-4)).1))], [vA x], (C, N2))) (fun _ => rfl) ?_
    have hc := (m_mvF_can hvG (show (m_mvF ((P, n, q, p, cl, tn), (t, bg, en, ca), (gn, pu, mk), H) F s y (-4)).1 = 0 by omega)).1
    have hc2 := g_can_of hvG hc
    have c1 : 0 ≤ s ∧ s < 36 := hc.1
    have c2 : 0 ≤ y ∧ y < 4 := hc.2.1
    have c3 : bg = 1 := hc.2.2.1
    have c4 : en = 0 := hc.2.2.2.1
    have c5 : 1 ≤ m_room s y := hc2.1
    have c6 : t ≤ 119 := hc2.2.2.1
    have c7 : H.length ≤ 120 := hc2.2.2.2
    refine AR.getR rfl rfl hx.1 (by decide) rfl ?_
    refine AR.blk 1 (f' := (24, [some (vA x), some (vI s), some (vI y), some (vI ((m_mvF ((P, n, q, p, cl, tn), (t, bg, en, ca), (gn, pu, mk), H) F s y (-4)).1))], [vA x, vA (x + 40)], (C, N2))) (fun _ => rfl) ?_
    refine AR.getR rfl rfl hx.1 (by decide) rfl ?_
    obtain ⟨_, hE7, N8, rfl, hP9, hf10⟩ := ev_X4_keep (E := E) (d := d) (by omega) hx.2.2.2.2.1 hPN2 hx.2.1 (show g_rG N2 (x + 1) ((P, n, q, p, cl, tn), (t, bg, en, ca), (gn, pu, mk), H) from ⟨nBN2, nHN2, nTN2⟩) hvG.1 (by omega)
    have PN8 : g_rP N8 (x + 40) ((((P, n, q, p, cl, tn), (t, bg, en, ca), (gn, pu, mk), H) :: U).take 8) := hP9
    have nBN8 := g_rB_fr nBN2 (N' := N8) (fun a z0 z1 => hf10 a (by omega))
    have nHN8 := g_rH_fr nHN2 (N' := N8) (fun a z0 z1 => hf10 a (by omega))
    have nTN8 := g_rT_fr nTN2 (N' := N8) (hf10 _ (by omega)) (hf10 _ (by omega)) (hf10 _ (by omega)) (hf10 _ (by omega))
    have hVN8 := g_rV_fr hVN2 (N' := N8) (congrFun (hf10 _ (by omega)) _) (fun a z0 z1 => hf10 a (by omega))
    have hFN8 := g_rF_fr FN2 (N' := N8) (hf10 _ (by omega))
    have hTN8 := g_rTx_fr hTN2 (N' := N8) (congrFun (hf10 _ (by omega)) _) (hf10 _ (by omega))
    have hLN8 := g_rLn_fr hLN2 (N' := N8) (congrFun (hf10 _ (by omega)) _) (hf10 _ (by omega))
    have frN8 : ∀ a, ¬ (x ≤ a ∧ a < x + 152) → (N8) a = N a := fun a ha => (hf10 a (by omega)).trans (frN2 a ha)
    rw [show (m_mvF ((P, n, q, p, cl, tn), (t, bg, en, ca), (gn, pu, mk), H) F s y (-4)).2 = F from (m_mvF_can hvG (by omega)).2] at hFN8
    refine AR.callV [vA (x + 1)] hE7 hx.2.2.2.2.1.1 rfl rfl rfl rfl rfl ?_
    show AR E d _ (30, [some (vA x), some (vI s), some (vI y), some (vI ((m_mvF ((P, n, q, p, cl, tn), (t, bg, en, ca), (gn, pu, mk), H) F s y (-4)).1))], [], (C, N8)) _
    refine AR.blk 1 (f' := (31, [some (vA x), some (vI s), some (vI y), some (vI ((m_mvF ((P, n, q, p, cl, tn), (t, bg, en, ca), (gn, pu, mk), H) F s y (-4)).1))], [vA x], (C, N8))) (fun _ => rfl) ?_
    refine AR.getR rfl rfl hx.1 (by decide) rfl ?_
    refine AR.blk 2 (f' := (36, [some (vA x), some (vI s), some (vI y), some (vI ((m_mvF ((P, n, q, p, cl, tn), (t, bg, en, ca), (gn, pu, mk), H) F s y (-4)).1))], [vI y, vI s, vA (x + 1)], (C, N8))) (fun _ => rfl) ?_
    obtain ⟨_, hE11, N12, rfl, hr13, hf14⟩ := ev_X1_carryOut (E := E) (d := d) (by omega) hx.2.1 nBN8 nHN8 nTN8 hwB hwH (by omega) s y (by omega) (by omega) (by omega) (by omega) (by omega) (by omega)
    have nBN12 : g_rB N12 (x + 1 + 1) (m_gP P n q p cl tn t s y) n q p (m_gcl P n q p cl tn t s y) (m_gtn P n q p cl tn t s y) := hr13.1
    have nHN12 : g_rH N12 (x + 1 + 7) (m_gH P n q p cl tn t s y H) := hr13.2.1
    have nTN12 : g_rT N12 (x + 1) (t + 1) bg (m_stl (m_gP P n q p cl tn t s y) n q (m_gcl P n q p cl tn t s y) (t + 1) (m_gH P n q p cl tn t s y H)) (m_gca P n q p cl tn t ca s y) (m_ggn P gn s y) (m_gpu P t pu s y) (m_gmk P t mk s y) := hr13.2.2
    have vN12 : g_vG ((m_gP P n q p cl tn t s y, n, q, p, m_gcl P n q p cl tn t s y, m_gtn P n q p cl tn t s y), (t + 1, bg, m_stl (m_gP P n q p cl tn t s y) n q (m_gcl P n q p cl tn t s y) (t + 1) (m_gH P n q p cl tn t s y H), m_gca P n q p cl tn t ca s y), (m_ggn P gn s y, m_gpu P t pu s y, m_gmk P t mk s y), m_gH P n q p cl tn t s y H) := g_vG_go hvG hc
    have wBN12 : g_wB (m_gP P n q p cl tn t s y) n q p (m_gcl P n q p cl tn t s y) (m_gtn P n q p cl tn t s y) := vN12.1.1
    have wHN12 : g_wH (m_gH P n q p cl tn t s y H) := vN12.1.2.1
    have wSN12 : g_wS (t + 1) bg (m_stl (m_gP P n q p cl tn t s y) n q (m_gcl P n q p cl tn t s y) (t + 1) (m_gH P n q p cl tn t s y H)) (m_gca P n q p cl tn t ca s y) (m_ggn P gn s y) (m_gpu P t pu s y) (m_gmk P t mk s y) := vN12.1.2.2
    have z1N12 := wSN12.1
    have z2N12 := wSN12.2.1
    have z3N12 := wSN12.2.2.1
    have hPN12 := g_rP_fr PN8 (N' := N12) (fun a z0 z1 => hf14 a (by omega))
    have hVN12 := g_rV_fr hVN8 (N' := N12) (congrFun (hf14 _ (by omega)) _) (fun a z0 z1 => hf14 a (by omega))
    have hFN12 := g_rF_fr hFN8 (N' := N12) (hf14 _ (by omega))
    have hTN12 := g_rTx_fr hTN8 (N' := N12) (congrFun (hf14 _ (by omega)) _) (hf14 _ (by omega))
    have hLN12 := g_rLn_fr hLN8 (N' := N12) (congrFun (hf14 _ (by omega)) _) (hf14 _ (by omega))
    have frN12 : ∀ a, ¬ (x ≤ a ∧ a < x + 152) → (N12) a = N a := fun a ha => (hf14 a (by omega)).trans (frN8 a ha)
    refine AR.callV [vI s, vI y] hE11 hx.2.1.1 rfl rfl rfl rfl rfl ?_
    show AR E d _ (39, [some (vA x), some (vI s), some (vI y), some (vI ((m_mvF ((P, n, q, p, cl, tn), (t, bg, en, ca), (gn, pu, mk), H) F s y (-4)).1))], [vI (m_stR (m_gP P n q p cl tn t s y) n q (m_gcl P n q p cl tn t s y) (t + 1) (m_gH P n q p cl tn t s y H))], (C, N12)) _
    refine AR.endI rfl (.inl rfl) ?_
    have e9 : o_move (((P, n, q, p, cl, tn), (t, bg, en, ca), (gn, pu, mk), H), U, V, F, (L, T), (l, ln)) s y = (m_stR (m_gP P n q p cl tn t s y) n q (m_gcl P n q p cl tn t s y) (t + 1) (m_gH P n q p cl tn t s y H), (((m_gP P n q p cl tn t s y, n, q, p, m_gcl P n q p cl tn t s y, m_gtn P n q p cl tn t s y), (t + 1, bg, m_stl (m_gP P n q p cl tn t s y) n q (m_gcl P n q p cl tn t s y) (t + 1) (m_gH P n q p cl tn t s y H), m_gca P n q p cl tn t ca s y), (m_ggn P gn s y, m_gpu P t pu s y, m_gmk P t mk s y), m_gH P n q p cl tn t s y H), ((((P, n, q, p, cl, tn), (t, bg, en, ca), (gn, pu, mk), H) :: U).take 8), V, F, (L, T), (l, ln))) := by unfold o_move <;> (try dsimp only) <;> (repeat (first | rw [if_pos (by omega)] | rw [if_neg (by omega)])) <;> rfl
    rw [e9]
    exact ⟨_, rfl, ⟨⟨nBN12, nHN12, nTN12⟩, hPN12, hVN12, hFN12, hTN12, hLN12⟩, frN12⟩
  · show AR E d _ (17, [some (vA x), some (vI s), some (vI y), some (vI ((m_mvF ((P, n, q, p, cl, tn), (t, bg, en, ca), (gn, pu, mk), H) F s y (-4)).1))], [], (C, N2)) _
    refine AR.blk 1 (f' := (18, [some (vA x), some (vI s), some (vI y), some (vI ((m_mvF ((P, n, q, p, cl, tn), (t, bg, en, ca), (gn, pu, mk), H) F s y (-4)).1))], [vI ((m_mvF ((P, n, q, p, cl, tn), (t, bg, en, ca), (gn, pu, mk), H) F s y (-4)).1)], (C, N2))) (fun _ => rfl) ?_
    refine AR.endI rfl (.inl rfl) ?_
    have e9 : o_move (((P, n, q, p, cl, tn), (t, bg, en, ca), (gn, pu, mk), H), U, V, F, (L, T), (l, ln)) s y = ((m_mvF ((P, n, q, p, cl, tn), (t, bg, en, ca), (gn, pu, mk), H) F s y (-4)).1, (((P, n, q, p, cl, tn), (t, bg, en, ca), (gn, pu, mk), H), U, V, (m_mvF ((P, n, q, p, cl, tn), (t, bg, en, ca), (gn, pu, mk), H) F s y (-4)).2, (L, T), (l, ln))) := by unfold o_move <;> (try dsimp only) <;> (repeat (first | rw [if_pos (by omega)] | rw [if_neg (by omega)])) <;> rfl
    rw [e9]
    exact ⟨_, rfl, ⟨⟨nBN2, nHN2, nTN2⟩, hPN2, hVN2, FN2, hTN2, hLN2⟩, frN2⟩
end L2B
