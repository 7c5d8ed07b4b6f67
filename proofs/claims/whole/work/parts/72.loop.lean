/-! LEVEL 2: the law's loop -/
theorem g_rX_fr {N N' : Nat → Int → Int} {x : Nat} {S : m_S} (h : g_rX N x S) (hf : ∀ k, x ≤ k → k < x + 152 → N' k = N k) : g_rX N' x S :=
  ⟨g_rG_fr h.1 (fun a z0 z1 => hf a (by omega) (by omega)), g_rP_fr h.2.1 (fun a z0 z1 => hf a (by omega) (by omega)), g_rV_fr h.2.2.1 (congrFun (hf _ (by omega) (by omega)) _) (fun a z0 z1 => hf a (by omega) (by omega)), g_rF_fr h.2.2.2.1 (hf _ (by omega) (by omega)), g_rTx_fr h.2.2.2.2.1 (congrFun (hf _ (by omega) (by omega)) _) (hf _ (by omega) (by omega)), g_rLn_fr h.2.2.2.2.2 (congrFun (hf _ (by omega) (by omega)) _) (hf _ (by omega) (by omega))⟩
theorem g_rY_fr {N N' : Nat → Int → Int} {m : Nat} {S : m_S} (h : g_rY N m S) (hf : ∀ k, m ≤ k → k < m + 9 → N' k = N k) : g_rY N' m S := by
  refine ⟨?_, g_rK_fr h.2.1 (congrFun (hf _ (by omega) (by omega)) _) (hf _ (by omega) (by omega)), g_rW_fr h.2.2.1 (congrFun (hf _ (by omega) (by omega)) _) (hf _ (by omega) (by omega)), g_rE_fr h.2.2.2.1 (fun k _ _ => congrFun (hf _ (by omega) (by omega)) k), g_rTm_fr h.2.2.2.2.1 (congrFun (hf _ (by omega) (by omega)) _) (hf _ (by omega) (by omega)), g_rLm_fr h.2.2.2.2.2.1 (congrFun (hf _ (by omega) (by omega)) _) (hf _ (by omega) (by omega)), (congrFun (hf m (by omega) (by omega)) _).trans h.2.2.2.2.2.2⟩
  rw [hf (m + 1) (by omega) (by omega)]
  exact h.1
section LAW
variable {E : Nat × (Int → Int)} {C : List ag_C} {d : Nat}

set_option maxRecDepth 100000 in
set_option maxHeartbeats 8000000 in
theorem ag_law_loop (hd : 20 ≤ d) (hx : g_isX C 0) (hm : g_isM C 152) (hE1 : E.1 ≤ 2048) (hE2 : ∀ i, ag_in (E.2 i)) : ∀ (j : Nat) (i : Int) (S : m_S) (N9 : Nat → Int → Int), (2060 - i).toNat < j → (0 ≤ i ∧ i ≤ 2056) → g_rX N9 0 S → g_rY N9 152 S → g_vT S → AR E d ag_mL_law (18, [some (vX 0), some (vA 0), some (vA 152), some (vI i)], [], (C, N9)) (fun o_ => ∃ N' : Nat → Int → Int, o_ = (some (vI 1), (C, N'))) := by
  intro j
  induction j with
  | zero => intro i S N9 hj; exact absurd hj (Nat.not_lt_zero _)
  | succ j ih18 =>
    intro i S N9 hj18 j0 hX hY hv
    refine AR.blk 2 (f' := (20, [some (vX 0), some (vA 0), some (vA 152), some (vI i)], [vX 0, vI i], (C, N9))) (fun _ => rfl) ?_
    refine AR.xlen rfl ?_
    refine AR.blk 2 (f' := (23, [some (vX 0), some (vA 0), some (vA 152), some (vI i)], [vI ((E.1 : Int) - 4), vI i], (C, N9))) (fun _ => rfl) ?_
    refine AR.ic_gt rfl (by omega) (fun c1 => ?_) (fun c1 => ?_)
    · show AR E d _ (753, [some (vX 0), some (vA 0), some (vA 152), some (vI i)], [], (C, N9)) _
      refine AR.blk 1 (f' := (754, [some (vX 0), some (vA 0), some (vA 152), some (vI i)], [vI 1], (C, N9))) (fun _ => rfl) ?_
      exact AR.endI rfl (.inr ⟨rfl, .inr rfl⟩) ⟨_, rfl⟩
    · show AR E d _ (26, [some (vX 0), some (vA 0), some (vA 152), some (vI i)], [], (C, N9)) _
      refine AR.blk 2 (f' := (28, [some (vX 0), some (vA 0), some (vA 152), some (vI i)], [vI i, vX 0], (C, N9))) (fun _ => rfl) ?_
      refine AR.xald rfl (by omega) ?_
      refine AR.blk 1 (f' := (31, [some (vX 0), some (vA 0), some (vA 152), some (vI i)], [vI 31, vI (E.2 i)], (C, N9))) (fun _ => rfl) ?_
      have hz0 := hE2 i
      refine AR.iand rfl ⟨hz0, rfl⟩ ?_
      show AR E d _ (32, [some (vX 0), some (vA 0), some (vA 152), some (vI i)], [vI (E.2 i % 32)], (C, N9)) _
      have hsw32 : ag_in (E.2 i % 32) := (by omega)
      by_cases e1 : E.2 i % 32 = 0
      · refine AR.tswA 0 rfl hsw32 e1 rfl (by omega) ?_
        show AR E d _ (156, [some (vX 0), some (vA 0), some (vA 152), some (vI i)], [], (C, N9)) _
        obtain ⟨a1, S1, v1, v2, cX, cM⟩ := cs_put (E := E) (C := C) (d := d) hd hx hm hv (E.2 (i + 1)) (E.2 (i + 2)) (E.2 (i + 3)) (hE2 _) (hE2 _) (hE2 _)
        refine AR.blk 5 (f' := (161, [some (vX 0), some (vA 0), some (vA 152), some (vI i)], [vI (i + 1), vX 0, vA 0], (C, N9))) (fun _ => rfl) ?_
        refine AR.xald rfl (by omega) ?_
        refine AR.blk 4 (f' := (166, [some (vX 0), some (vA 0), some (vA 152), some (vI i)], [vI (i + 2), vX 0, vI (E.2 (i + 1)), vA 0], (C, N9))) (fun _ => rfl) ?_
        refine AR.xald rfl (by omega) ?_
        refine AR.blk 4 (f' := (171, [some (vX 0), some (vA 0), some (vA 152), some (vI i)], [vI (i + 3), vX 0, vI (E.2 (i + 2)), vI (E.2 (i + 1)), vA 0], (C, N9))) (fun _ => rfl) ?_
        refine AR.xald rfl (by omega) ?_
        obtain ⟨_, hE2, N3, rfl, hX4, hf5⟩ := cX  (by omega) N9 hX
        have hYN3 := g_rY_fr hY (N' := N3) (fun k z0 z1 => hf5 k (by omega))
        refine AR.callV [vI (E.2 (i + 1)), vI (E.2 (i + 2)), vI (E.2 (i + 3))] hE2 hx.1 rfl rfl rfl rfl rfl ?_
        show AR E d _ (175, [some (vX 0), some (vA 0), some (vA 152), some (vI i)], [vI a1], (C, N3)) _
        refine AR.blk 5 (f' := (180, [some (vX 0), some (vA 0), some (vA 152), some (vI i)], [vI (i + 1), vX 0, vA 152, vI a1], (C, N3))) (fun _ => rfl) ?_
        refine AR.xald rfl (by omega) ?_
        refine AR.blk 4 (f' := (185, [some (vX 0), some (vA 0), some (vA 152), some (vI i)], [vI (i + 2), vX 0, vI (E.2 (i + 1)), vA 152, vI a1], (C, N3))) (fun _ => rfl) ?_
        refine AR.xald rfl (by omega) ?_
        refine AR.blk 4 (f' := (190, [some (vX 0), some (vA 0), some (vA 152), some (vI i)], [vI (i + 3), vX 0, vI (E.2 (i + 2)), vI (E.2 (i + 1)), vA 152, vI a1], (C, N3))) (fun _ => rfl) ?_
        refine AR.xald rfl (by omega) ?_
        obtain ⟨_, hE6, N7, rfl, hY8, hf9⟩ := cM  (by omega) N3 hYN3
        have hXN7 := g_rX_fr hX4 (N' := N7) (fun k z0 z1 => hf9 k (by omega))
        refine AR.callV [vI (E.2 (i + 1)), vI (E.2 (i + 2)), vI (E.2 (i + 3))] hE6 hm.1 rfl rfl rfl rfl rfl ?_
        show AR E d _ (194, [some (vX 0), some (vA 0), some (vA 152), some (vI i)], [vI a1, vI a1], (C, N7)) _
        refine AR.ic_eq rfl (by omega) (fun c10 => ?_) (fun c10 => ?_)
        · show AR E d _ (747, [some (vX 0), some (vA 0), some (vA 152), some (vI i)], [], (C, N7)) _
          refine AR.blk 2 (f' := (18, [some (vX 0), some (vA 0), some (vA 152), some (vI (i + 4))], [], (C, N7))) (fun _ => rfl) ?_
          exact ih18 _ (S1) _ (by omega) (by omega) hXN7 hY8 v1
        · show AR E d _ (197, [some (vX 0), some (vA 0), some (vA 152), some (vI i)], [], (C, N7)) _
          refine AR.blk 1 (f' := (198, [some (vX 0), some (vA 0), some (vA 152), some (vI i)], [vI 0], (C, N7))) (fun _ => rfl) ?_
          exact False.elim (by omega)
      by_cases e11 : E.2 i % 32 = 1
      · refine AR.tswA 1 rfl hsw32 e11 rfl (by omega) ?_
        show AR E d _ (199, [some (vX 0), some (vA 0), some (vA 152), some (vI i)], [], (C, N9)) _
        obtain ⟨a1, S1, v1, v2, cX, cM⟩ := cs_lock (E := E) (C := C) (d := d) hd hx hm hv (E.2 (i + 1)) (E.2 (i + 2)) (hE2 _) (hE2 _)
        refine AR.blk 5 (f' := (204, [some (vX 0), some (vA 0), some (vA 152), some (vI i)], [vI (i + 1), vX 0, vA 0], (C, N9))) (fun _ => rfl) ?_
        refine AR.xald rfl (by omega) ?_
        refine AR.blk 4 (f' := (209, [some (vX 0), some (vA 0), some (vA 152), some (vI i)], [vI (i + 2), vX 0, vI (E.2 (i + 1)), vA 0], (C, N9))) (fun _ => rfl) ?_
        refine AR.xald rfl (by omega) ?_
        obtain ⟨_, hE12, N13, rfl, hX14, hf15⟩ := cX  (by omega) N9 hX
        have hYN13 := g_rY_fr hY (N' := N13) (fun k z0 z1 => hf15 k (by omega))
        refine AR.callV [vI (E.2 (i + 1)), vI (E.2 (i + 2))] hE12 hx.1 rfl rfl rfl rfl rfl ?_
        show AR E d _ (213, [some (vX 0), some (vA 0), some (vA 152), some (vI i)], [vI a1], (C, N13)) _
        refine AR.blk 5 (f' := (218, [some (vX 0), some (vA 0), some (vA 152), some (vI i)], [vI (i + 1), vX 0, vA 152, vI a1], (C, N13))) (fun _ => rfl) ?_
        refine AR.xald rfl (by omega) ?_
        refine AR.blk 4 (f' := (223, [some (vX 0), some (vA 0), some (vA 152), some (vI i)], [vI (i + 2), vX 0, vI (E.2 (i + 1)), vA 152, vI a1], (C, N13))) (fun _ => rfl) ?_
        refine AR.xald rfl (by omega) ?_
        obtain ⟨_, hE16, N17, rfl, hY18, hf19⟩ := cM  (by omega) N13 hYN13
        have hXN17 := g_rX_fr hX14 (N' := N17) (fun k z0 z1 => hf19 k (by omega))
        refine AR.callV [vI (E.2 (i + 1)), vI (E.2 (i + 2))] hE16 hm.1 rfl rfl rfl rfl rfl ?_
        show AR E d _ (227, [some (vX 0), some (vA 0), some (vA 152), some (vI i)], [vI a1, vI a1], (C, N17)) _
        refine AR.ic_eq rfl (by omega) (fun c20 => ?_) (fun c20 => ?_)
        · show AR E d _ (747, [some (vX 0), some (vA 0), some (vA 152), some (vI i)], [], (C, N17)) _
          refine AR.blk 2 (f' := (18, [some (vX 0), some (vA 0), some (vA 152), some (vI (i + 4))], [], (C, N17))) (fun _ => rfl) ?_
          exact ih18 _ (S1) _ (by omega) (by omega) hXN17 hY18 v1
        · show AR E d _ (230, [some (vX 0), some (vA 0), some (vA 152), some (vI i)], [], (C, N17)) _
          refine AR.blk 1 (f' := (231, [some (vX 0), some (vA 0), some (vA 152), some (vI i)], [vI 0], (C, N17))) (fun _ => rfl) ?_
          exact False.elim (by omega)
      by_cases e21 : E.2 i % 32 = 2
      · refine AR.tswA 2 rfl hsw32 e21 rfl (by omega) ?_
        show AR E d _ (232, [some (vX 0), some (vA 0), some (vA 152), some (vI i)], [], (C, N9)) _
        obtain ⟨a1, S1, v1, v2, cX, cM⟩ := cs_begin (E := E) (C := C) (d := d) hd hx hm hv  
        refine AR.blk 1 (f' := (233, [some (vX 0), some (vA 0), some (vA 152), some (vI i)], [vA 0], (C, N9))) (fun _ => rfl) ?_
        obtain ⟨_, hE22, N23, rfl, hX24, hf25⟩ := cX  (by omega) N9 hX
        have hYN23 := g_rY_fr hY (N' := N23) (fun k z0 z1 => hf25 k (by omega))
        refine AR.callV [] hE22 hx.1 rfl rfl rfl rfl rfl ?_
        show AR E d _ (236, [some (vX 0), some (vA 0), some (vA 152), some (vI i)], [vI a1], (C, N23)) _
        refine AR.blk 1 (f' := (237, [some (vX 0), some (vA 0), some (vA 152), some (vI i)], [vA 152, vI a1], (C, N23))) (fun _ => rfl) ?_
        obtain ⟨_, hE26, N27, rfl, hY28, hf29⟩ := cM  (by omega) N23 hYN23
        have hXN27 := g_rX_fr hX24 (N' := N27) (fun k z0 z1 => hf29 k (by omega))
        refine AR.callV [] hE26 hm.1 rfl rfl rfl rfl rfl ?_
        show AR E d _ (240, [some (vX 0), some (vA 0), some (vA 152), some (vI i)], [vI a1, vI a1], (C, N27)) _
        refine AR.ic_eq rfl (by omega) (fun c30 => ?_) (fun c30 => ?_)
        · show AR E d _ (747, [some (vX 0), some (vA 0), some (vA 152), some (vI i)], [], (C, N27)) _
          refine AR.blk 2 (f' := (18, [some (vX 0), some (vA 0), some (vA 152), some (vI (i + 4))], [], (C, N27))) (fun _ => rfl) ?_
          exact ih18 _ (S1) _ (by omega) (by omega) hXN27 hY28 v1
        · show AR E d _ (243, [some (vX 0), some (vA 0), some (vA 152), some (vI i)], [], (C, N27)) _
          refine AR.blk 1 (f' := (244, [some (vX 0), some (vA 0), some (vA 152), some (vI i)], [vI 0], (C, N27))) (fun _ => rfl) ?_
          exact False.elim (by omega)
      by_cases e31 : E.2 i % 32 = 3
      · refine AR.tswA 3 rfl hsw32 e31 rfl (by omega) ?_
        show AR E d _ (245, [some (vX 0), some (vA 0), some (vA 152), some (vI i)], [], (C, N9)) _
        obtain ⟨a1, S1, v1, v2, cX, cM⟩ := cs_move (E := E) (C := C) (d := d) hd hx hm hv (E.2 (i + 1)) (E.2 (i + 2)) (hE2 _) (hE2 _)
        refine AR.blk 5 (f' := (250, [some (vX 0), some (vA 0), some (vA 152), some (vI i)], [vI (i + 1), vX 0, vA 0], (C, N9))) (fun _ => rfl) ?_
        refine AR.xald rfl (by omega) ?_
        refine AR.blk 4 (f' := (255, [some (vX 0), some (vA 0), some (vA 152), some (vI i)], [vI (i + 2), vX 0, vI (E.2 (i + 1)), vA 0], (C, N9))) (fun _ => rfl) ?_
        refine AR.xald rfl (by omega) ?_
        obtain ⟨_, hE32, N33, rfl, hX34, hf35⟩ := cX  (by omega) N9 hX
        have hYN33 := g_rY_fr hY (N' := N33) (fun k z0 z1 => hf35 k (by omega))
        refine AR.callV [vI (E.2 (i + 1)), vI (E.2 (i + 2))] hE32 hx.1 rfl rfl rfl rfl rfl ?_
        show AR E d _ (259, [some (vX 0), some (vA 0), some (vA 152), some (vI i)], [vI a1], (C, N33)) _
        refine AR.blk 5 (f' := (264, [some (vX 0), some (vA 0), some (vA 152), some (vI i)], [vI (i + 1), vX 0, vA 152, vI a1], (C, N33))) (fun _ => rfl) ?_
        refine AR.xald rfl (by omega) ?_
        refine AR.blk 4 (f' := (269, [some (vX 0), some (vA 0), some (vA 152), some (vI i)], [vI (i + 2), vX 0, vI (E.2 (i + 1)), vA 152, vI a1], (C, N33))) (fun _ => rfl) ?_
        refine AR.xald rfl (by omega) ?_
        obtain ⟨_, hE36, N37, rfl, hY38, hf39⟩ := cM  (by omega) N33 hYN33
        have hXN37 := g_rX_fr hX34 (N' := N37) (fun k z0 z1 => hf39 k (by omega))
        refine AR.callV [vI (E.2 (i + 1)), vI (E.2 (i + 2))] hE36 hm.1 rfl rfl rfl rfl rfl ?_
        show AR E d _ (273, [some (vX 0), some (vA 0), some (vA 152), some (vI i)], [vI a1, vI a1], (C, N37)) _
        refine AR.ic_eq rfl (by omega) (fun c40 => ?_) (fun c40 => ?_)
        · show AR E d _ (747, [some (vX 0), some (vA 0), some (vA 152), some (vI i)], [], (C, N37)) _
          refine AR.blk 2 (f' := (18, [some (vX 0), some (vA 0), some (vA 152), some (vI (i + 4))], [], (C, N37))) (fun _ => rfl) ?_
          exact ih18 _ (S1) _ (by omega) (by omega) hXN37 hY38 v1
        · show AR E d _ (276, [some (vX 0), some (vA 0), some (vA 152), some (vI i)], [], (C, N37)) _
          refine AR.blk 1 (f' := (277, [some (vX 0), some (vA 0), some (vA 152), some (vI i)], [vI 0], (C, N37))) (fun _ => rfl) ?_
          exact False.elim (by omega)
      by_cases e41 : E.2 i % 32 = 4
      · refine AR.tswA 4 rfl hsw32 e41 rfl (by omega) ?_
        show AR E d _ (278, [some (vX 0), some (vA 0), some (vA 152), some (vI i)], [], (C, N9)) _
        obtain ⟨a1, S1, v1, v2, cX, cM⟩ := cs_squareOf (E := E) (C := C) (d := d) hd hx hm hv (E.2 (i + 1)) (E.2 (i + 2)) (hE2 _) (hE2 _)
        refine AR.blk 5 (f' := (283, [some (vX 0), some (vA 0), some (vA 152), some (vI i)], [vI (i + 1), vX 0, vA 0], (C, N9))) (fun _ => rfl) ?_
        refine AR.xald rfl (by omega) ?_
        refine AR.blk 4 (f' := (288, [some (vX 0), some (vA 0), some (vA 152), some (vI i)], [vI (i + 2), vX 0, vI (E.2 (i + 1)), vA 0], (C, N9))) (fun _ => rfl) ?_
        refine AR.xald rfl (by omega) ?_
        obtain ⟨_, hE42, N43, rfl, hX44, hf45⟩ := cX  (by omega) N9 hX
        have hYN43 := g_rY_fr hY (N' := N43) (fun k z0 z1 => hf45 k (by omega))
        refine AR.callV [vI (E.2 (i + 1)), vI (E.2 (i + 2))] hE42 hx.1 rfl rfl rfl rfl rfl ?_
        show AR E d _ (292, [some (vX 0), some (vA 0), some (vA 152), some (vI i)], [vI a1], (C, N43)) _
        refine AR.blk 5 (f' := (297, [some (vX 0), some (vA 0), some (vA 152), some (vI i)], [vI (i + 1), vX 0, vA 152, vI a1], (C, N43))) (fun _ => rfl) ?_
        refine AR.xald rfl (by omega) ?_
        refine AR.blk 4 (f' := (302, [some (vX 0), some (vA 0), some (vA 152), some (vI i)], [vI (i + 2), vX 0, vI (E.2 (i + 1)), vA 152, vI a1], (C, N43))) (fun _ => rfl) ?_
        refine AR.xald rfl (by omega) ?_
        obtain ⟨_, hE46, N47, rfl, hY48, hf49⟩ := cM  (by omega) N43 hYN43
        have hXN47 := g_rX_fr hX44 (N' := N47) (fun k z0 z1 => hf49 k (by omega))
        refine AR.callV [vI (E.2 (i + 1)), vI (E.2 (i + 2))] hE46 hm.1 rfl rfl rfl rfl rfl ?_
        show AR E d _ (306, [some (vX 0), some (vA 0), some (vA 152), some (vI i)], [vI a1, vI a1], (C, N47)) _
        refine AR.ic_eq rfl (by omega) (fun c50 => ?_) (fun c50 => ?_)
        · show AR E d _ (747, [some (vX 0), some (vA 0), some (vA 152), some (vI i)], [], (C, N47)) _
          refine AR.blk 2 (f' := (18, [some (vX 0), some (vA 0), some (vA 152), some (vI (i + 4))], [], (C, N47))) (fun _ => rfl) ?_
          exact ih18 _ (S1) _ (by omega) (by omega) hXN47 hY48 v1
        · show AR E d _ (309, [some (vX 0), some (vA 0), some (vA 152), some (vI i)], [], (C, N47)) _
          refine AR.blk 1 (f' := (310, [some (vX 0), some (vA 0), some (vA 152), some (vI i)], [vI 0], (C, N47))) (fun _ => rfl) ?_
          exact False.elim (by omega)
      by_cases e51 : E.2 i % 32 = 5
      · refine AR.tswA 5 rfl hsw32 e51 rfl (by omega) ?_
        show AR E d _ (311, [some (vX 0), some (vA 0), some (vA 152), some (vI i)], [], (C, N9)) _
        obtain ⟨a1, S1, v1, v2, cX, cM⟩ := cs_lockOf (E := E) (C := C) (d := d) hd hx hm hv (E.2 (i + 1)) (E.2 (i + 2)) (hE2 _) (hE2 _)
        refine AR.blk 5 (f' := (316, [some (vX 0), some (vA 0), some (vA 152), some (vI i)], [vI (i + 1), vX 0, vA 0], (C, N9))) (fun _ => rfl) ?_
        refine AR.xald rfl (by omega) ?_
        refine AR.blk 4 (f' := (321, [some (vX 0), some (vA 0), some (vA 152), some (vI i)], [vI (i + 2), vX 0, vI (E.2 (i + 1)), vA 0], (C, N9))) (fun _ => rfl) ?_
        refine AR.xald rfl (by omega) ?_
        obtain ⟨_, hE52, N53, rfl, hX54, hf55⟩ := cX  (by omega) N9 hX
        have hYN53 := g_rY_fr hY (N' := N53) (fun k z0 z1 => hf55 k (by omega))
        refine AR.callV [vI (E.2 (i + 1)), vI (E.2 (i + 2))] hE52 hx.1 rfl rfl rfl rfl rfl ?_
        show AR E d _ (325, [some (vX 0), some (vA 0), some (vA 152), some (vI i)], [vI a1], (C, N53)) _
        refine AR.blk 5 (f' := (330, [some (vX 0), some (vA 0), some (vA 152), some (vI i)], [vI (i + 1), vX 0, vA 152, vI a1], (C, N53))) (fun _ => rfl) ?_
        refine AR.xald rfl (by omega) ?_
        refine AR.blk 4 (f' := (335, [some (vX 0), some (vA 0), some (vA 152), some (vI i)], [vI (i + 2), vX 0, vI (E.2 (i + 1)), vA 152, vI a1], (C, N53))) (fun _ => rfl) ?_
        refine AR.xald rfl (by omega) ?_
        obtain ⟨_, hE56, N57, rfl, hY58, hf59⟩ := cM  (by omega) N53 hYN53
        have hXN57 := g_rX_fr hX54 (N' := N57) (fun k z0 z1 => hf59 k (by omega))
        refine AR.callV [vI (E.2 (i + 1)), vI (E.2 (i + 2))] hE56 hm.1 rfl rfl rfl rfl rfl ?_
        show AR E d _ (339, [some (vX 0), some (vA 0), some (vA 152), some (vI i)], [vI a1, vI a1], (C, N57)) _
        refine AR.ic_eq rfl (by omega) (fun c60 => ?_) (fun c60 => ?_)
        · show AR E d _ (747, [some (vX 0), some (vA 0), some (vA 152), some (vI i)], [], (C, N57)) _
          refine AR.blk 2 (f' := (18, [some (vX 0), some (vA 0), some (vA 152), some (vI (i + 4))], [], (C, N57))) (fun _ => rfl) ?_
          exact ih18 _ (S1) _ (by omega) (by omega) hXN57 hY58 v1
        · show AR E d _ (342, [some (vX 0), some (vA 0), some (vA 152), some (vI i)], [], (C, N57)) _
          refine AR.blk 1 (f' := (343, [some (vX 0), some (vA 0), some (vA 152), some (vI i)], [vI 0], (C, N57))) (fun _ => rfl) ?_
          exact False.elim (by omega)
      by_cases e61 : E.2 i % 32 = 6
      · refine AR.tswA 6 rfl hsw32 e61 rfl (by omega) ?_
        show AR E d _ (344, [some (vX 0), some (vA 0), some (vA 152), some (vI i)], [], (C, N9)) _
        obtain ⟨a1, S1, v1, v2, cX, cM⟩ := cs_sideOf (E := E) (C := C) (d := d) hd hx hm hv (E.2 (i + 1)) (E.2 (i + 2)) (hE2 _) (hE2 _)
        refine AR.blk 5 (f' := (349, [some (vX 0), some (vA 0), some (vA 152), some (vI i)], [vI (i + 1), vX 0, vA 0], (C, N9))) (fun _ => rfl) ?_
        refine AR.xald rfl (by omega) ?_
        refine AR.blk 4 (f' := (354, [some (vX 0), some (vA 0), some (vA 152), some (vI i)], [vI (i + 2), vX 0, vI (E.2 (i + 1)), vA 0], (C, N9))) (fun _ => rfl) ?_
        refine AR.xald rfl (by omega) ?_
        obtain ⟨_, hE62, N63, rfl, hX64, hf65⟩ := cX  (by omega) N9 hX
        have hYN63 := g_rY_fr hY (N' := N63) (fun k z0 z1 => hf65 k (by omega))
        refine AR.callV [vI (E.2 (i + 1)), vI (E.2 (i + 2))] hE62 hx.1 rfl rfl rfl rfl rfl ?_
        show AR E d _ (358, [some (vX 0), some (vA 0), some (vA 152), some (vI i)], [vI a1], (C, N63)) _
        refine AR.blk 5 (f' := (363, [some (vX 0), some (vA 0), some (vA 152), some (vI i)], [vI (i + 1), vX 0, vA 152, vI a1], (C, N63))) (fun _ => rfl) ?_
        refine AR.xald rfl (by omega) ?_
        refine AR.blk 4 (f' := (368, [some (vX 0), some (vA 0), some (vA 152), some (vI i)], [vI (i + 2), vX 0, vI (E.2 (i + 1)), vA 152, vI a1], (C, N63))) (fun _ => rfl) ?_
        refine AR.xald rfl (by omega) ?_
        obtain ⟨_, hE66, N67, rfl, hY68, hf69⟩ := cM  (by omega) N63 hYN63
        have hXN67 := g_rX_fr hX64 (N' := N67) (fun k z0 z1 => hf69 k (by omega))
        refine AR.callV [vI (E.2 (i + 1)), vI (E.2 (i + 2))] hE66 hm.1 rfl rfl rfl rfl rfl ?_
        show AR E d _ (372, [some (vX 0), some (vA 0), some (vA 152), some (vI i)], [vI a1, vI a1], (C, N67)) _
        refine AR.ic_eq rfl (by omega) (fun c70 => ?_) (fun c70 => ?_)
        · show AR E d _ (747, [some (vX 0), some (vA 0), some (vA 152), some (vI i)], [], (C, N67)) _
          refine AR.blk 2 (f' := (18, [some (vX 0), some (vA 0), some (vA 152), some (vI (i + 4))], [], (C, N67))) (fun _ => rfl) ?_
          exact ih18 _ (S1) _ (by omega) (by omega) hXN67 hY68 v1
        · show AR E d _ (375, [some (vX 0), some (vA 0), some (vA 152), some (vI i)], [], (C, N67)) _
          refine AR.blk 1 (f' := (376, [some (vX 0), some (vA 0), some (vA 152), some (vI i)], [vI 0], (C, N67))) (fun _ => rfl) ?_
          exact False.elim (by omega)
      by_cases e71 : E.2 i % 32 = 7
      · refine AR.tswA 7 rfl hsw32 e71 rfl (by omega) ?_
        show AR E d _ (377, [some (vX 0), some (vA 0), some (vA 152), some (vI i)], [], (C, N9)) _
        obtain ⟨a1, S1, v1, v2, cX, cM⟩ := cs_moves (E := E) (C := C) (d := d) hd hx hm hv  
        refine AR.blk 1 (f' := (378, [some (vX 0), some (vA 0), some (vA 152), some (vI i)], [vA 0], (C, N9))) (fun _ => rfl) ?_
        obtain ⟨_, hE72, N73, rfl, hX74, hf75⟩ := cX  (by omega) N9 hX
        have hYN73 := g_rY_fr hY (N' := N73) (fun k z0 z1 => hf75 k (by omega))
        refine AR.callV [] hE72 hx.1 rfl rfl rfl rfl rfl ?_
        show AR E d _ (381, [some (vX 0), some (vA 0), some (vA 152), some (vI i)], [vI a1], (C, N73)) _
        refine AR.blk 1 (f' := (382, [some (vX 0), some (vA 0), some (vA 152), some (vI i)], [vA 152, vI a1], (C, N73))) (fun _ => rfl) ?_
        obtain ⟨_, hE76, N77, rfl, hY78, hf79⟩ := cM  (by omega) N73 hYN73
        have hXN77 := g_rX_fr hX74 (N' := N77) (fun k z0 z1 => hf79 k (by omega))
        refine AR.callV [] hE76 hm.1 rfl rfl rfl rfl rfl ?_
        show AR E d _ (385, [some (vX 0), some (vA 0), some (vA 152), some (vI i)], [vI a1, vI a1], (C, N77)) _
        refine AR.ic_eq rfl (by omega) (fun c80 => ?_) (fun c80 => ?_)
        · show AR E d _ (747, [some (vX 0), some (vA 0), some (vA 152), some (vI i)], [], (C, N77)) _
          refine AR.blk 2 (f' := (18, [some (vX 0), some (vA 0), some (vA 152), some (vI (i + 4))], [], (C, N77))) (fun _ => rfl) ?_
          exact ih18 _ (S1) _ (by omega) (by omega) hXN77 hY78 v1
        · show AR E d _ (388, [some (vX 0), some (vA 0), some (vA 152), some (vI i)], [], (C, N77)) _
          refine AR.blk 1 (f' := (389, [some (vX 0), some (vA 0), some (vA 152), some (vI i)], [vI 0], (C, N77))) (fun _ => rfl) ?_
          exact False.elim (by omega)
      by_cases e81 : E.2 i % 32 = 8
      · refine AR.tswA 8 rfl hsw32 e81 rfl (by omega) ?_
        show AR E d _ (390, [some (vX 0), some (vA 0), some (vA 152), some (vI i)], [], (C, N9)) _
        obtain ⟨a1, S1, v1, v2, cX, cM⟩ := cs_movesAgain (E := E) (C := C) (d := d) hd hx hm hv  
        refine AR.blk 1 (f' := (391, [some (vX 0), some (vA 0), some (vA 152), some (vI i)], [vA 0], (C, N9))) (fun _ => rfl) ?_
        obtain ⟨_, hE82, N83, rfl, hX84, hf85⟩ := cX  (by omega) N9 hX
        have hYN83 := g_rY_fr hY (N' := N83) (fun k z0 z1 => hf85 k (by omega))
        refine AR.callV [] hE82 hx.1 rfl rfl rfl rfl rfl ?_
        show AR E d _ (394, [some (vX 0), some (vA 0), some (vA 152), some (vI i)], [vI a1], (C, N83)) _
        refine AR.blk 1 (f' := (395, [some (vX 0), some (vA 0), some (vA 152), some (vI i)], [vA 152, vI a1], (C, N83))) (fun _ => rfl) ?_
        obtain ⟨_, hE86, N87, rfl, hY88, hf89⟩ := cM  (by omega) N83 hYN83
        have hXN87 := g_rX_fr hX84 (N' := N87) (fun k z0 z1 => hf89 k (by omega))
        refine AR.callV [] hE86 hm.1 rfl rfl rfl rfl rfl ?_
        show AR E d _ (398, [some (vX 0), some (vA 0), some (vA 152), some (vI i)], [vI a1, vI a1], (C, N87)) _
        refine AR.ic_eq rfl (by omega) (fun c90 => ?_) (fun c90 => ?_)
        · show AR E d _ (747, [some (vX 0), some (vA 0), some (vA 152), some (vI i)], [], (C, N87)) _
          refine AR.blk 2 (f' := (18, [some (vX 0), some (vA 0), some (vA 152), some (vI (i + 4))], [], (C, N87))) (fun _ => rfl) ?_
          exact ih18 _ (S1) _ (by omega) (by omega) hXN87 hY88 v1
        · show AR E d _ (401, [some (vX 0), some (vA 0), some (vA 152), some (vI i)], [], (C, N87)) _
          refine AR.blk 1 (f' := (402, [some (vX 0), some (vA 0), some (vA 152), some (vI i)], [vI 0], (C, N87))) (fun _ => rfl) ?_
          exact False.elim (by omega)
      by_cases e91 : E.2 i % 32 = 9
      · refine AR.tswA 9 rfl hsw32 e91 rfl (by omega) ?_
        show AR E d _ (403, [some (vX 0), some (vA 0), some (vA 152), some (vI i)], [], (C, N9)) _
        obtain ⟨a1, S1, v1, v2, cX, cM⟩ := cs_moveAt (E := E) (C := C) (d := d) hd hx hm hv (E.2 (i + 1)) (hE2 _)
        refine AR.blk 5 (f' := (408, [some (vX 0), some (vA 0), some (vA 152), some (vI i)], [vI (i + 1), vX 0, vA 0], (C, N9))) (fun _ => rfl) ?_
        refine AR.xald rfl (by omega) ?_
        obtain ⟨_, hE92, N93, rfl, hX94, hf95⟩ := cX  (by omega) N9 hX
        have hYN93 := g_rY_fr hY (N' := N93) (fun k z0 z1 => hf95 k (by omega))
        refine AR.callV [vI (E.2 (i + 1))] hE92 hx.1 rfl rfl rfl rfl rfl ?_
        show AR E d _ (412, [some (vX 0), some (vA 0), some (vA 152), some (vI i)], [vI a1], (C, N93)) _
        refine AR.blk 5 (f' := (417, [some (vX 0), some (vA 0), some (vA 152), some (vI i)], [vI (i + 1), vX 0, vA 152, vI a1], (C, N93))) (fun _ => rfl) ?_
        refine AR.xald rfl (by omega) ?_
        obtain ⟨_, hE96, N97, rfl, hY98, hf99⟩ := cM  (by omega) N93 hYN93
        have hXN97 := g_rX_fr hX94 (N' := N97) (fun k z0 z1 => hf99 k (by omega))
        refine AR.callV [vI (E.2 (i + 1))] hE96 hm.1 rfl rfl rfl rfl rfl ?_
        show AR E d _ (421, [some (vX 0), some (vA 0), some (vA 152), some (vI i)], [vI a1, vI a1], (C, N97)) _
        refine AR.ic_eq rfl (by omega) (fun c100 => ?_) (fun c100 => ?_)
        · show AR E d _ (747, [some (vX 0), some (vA 0), some (vA 152), some (vI i)], [], (C, N97)) _
          refine AR.blk 2 (f' := (18, [some (vX 0), some (vA 0), some (vA 152), some (vI (i + 4))], [], (C, N97))) (fun _ => rfl) ?_
          exact ih18 _ (S1) _ (by omega) (by omega) hXN97 hY98 v1
        · show AR E d _ (424, [some (vX 0), some (vA 0), some (vA 152), some (vI i)], [], (C, N97)) _
          refine AR.blk 1 (f' := (425, [some (vX 0), some (vA 0), some (vA 152), some (vI i)], [vI 0], (C, N97))) (fun _ => rfl) ?_
          exact False.elim (by omega)
      by_cases e101 : E.2 i % 32 = 10
      · refine AR.tswA 10 rfl hsw32 e101 rfl (by omega) ?_
        show AR E d _ (426, [some (vX 0), some (vA 0), some (vA 152), some (vI i)], [], (C, N9)) _
        obtain ⟨a1, S1, v1, v2, cX, cM⟩ := cs_repeats (E := E) (C := C) (d := d) hd hx hm hv  
        refine AR.blk 1 (f' := (427, [some (vX 0), some (vA 0), some (vA 152), some (vI i)], [vA 0], (C, N9))) (fun _ => rfl) ?_
        obtain ⟨_, hE102, N103, rfl, hX104, hf105⟩ := cX  (by omega) N9 hX
        have hYN103 := g_rY_fr hY (N' := N103) (fun k z0 z1 => hf105 k (by omega))
        refine AR.callV [] hE102 hx.1 rfl rfl rfl rfl rfl ?_
        show AR E d _ (430, [some (vX 0), some (vA 0), some (vA 152), some (vI i)], [vI a1], (C, N103)) _
        refine AR.blk 1 (f' := (431, [some (vX 0), some (vA 0), some (vA 152), some (vI i)], [vA 152, vI a1], (C, N103))) (fun _ => rfl) ?_
        obtain ⟨_, hE106, N107, rfl, hY108, hf109⟩ := cM  (by omega) N103 hYN103
        have hXN107 := g_rX_fr hX104 (N' := N107) (fun k z0 z1 => hf109 k (by omega))
        refine AR.callV [] hE106 hm.1 rfl rfl rfl rfl rfl ?_
        show AR E d _ (434, [some (vX 0), some (vA 0), some (vA 152), some (vI i)], [vI a1, vI a1], (C, N107)) _
        refine AR.ic_eq rfl (by omega) (fun c110 => ?_) (fun c110 => ?_)
        · show AR E d _ (747, [some (vX 0), some (vA 0), some (vA 152), some (vI i)], [], (C, N107)) _
          refine AR.blk 2 (f' := (18, [some (vX 0), some (vA 0), some (vA 152), some (vI (i + 4))], [], (C, N107))) (fun _ => rfl) ?_
          exact ih18 _ (S1) _ (by omega) (by omega) hXN107 hY108 v1
        · show AR E d _ (437, [some (vX 0), some (vA 0), some (vA 152), some (vI i)], [], (C, N107)) _
          refine AR.blk 1 (f' := (438, [some (vX 0), some (vA 0), some (vA 152), some (vI i)], [vI 0], (C, N107))) (fun _ => rfl) ?_
          exact False.elim (by omega)
      by_cases e111 : E.2 i % 32 = 11
      · refine AR.tswA 11 rfl hsw32 e111 rfl (by omega) ?_
        show AR E d _ (439, [some (vX 0), some (vA 0), some (vA 152), some (vI i)], [], (C, N9)) _
        obtain ⟨a1, S1, v1, v2, cX, cM⟩ := cs_mostRepeats (E := E) (C := C) (d := d) hd hx hm hv  
        refine AR.blk 1 (f' := (440, [some (vX 0), some (vA 0), some (vA 152), some (vI i)], [vA 0], (C, N9))) (fun _ => rfl) ?_
        obtain ⟨_, hE112, N113, rfl, hX114, hf115⟩ := cX  (by omega) N9 hX
        have hYN113 := g_rY_fr hY (N' := N113) (fun k z0 z1 => hf115 k (by omega))
        refine AR.callV [] hE112 hx.1 rfl rfl rfl rfl rfl ?_
        show AR E d _ (443, [some (vX 0), some (vA 0), some (vA 152), some (vI i)], [vI a1], (C, N113)) _
        refine AR.blk 1 (f' := (444, [some (vX 0), some (vA 0), some (vA 152), some (vI i)], [vA 152, vI a1], (C, N113))) (fun _ => rfl) ?_
        obtain ⟨_, hE116, N117, rfl, hY118, hf119⟩ := cM  (by omega) N113 hYN113
        have hXN117 := g_rX_fr hX114 (N' := N117) (fun k z0 z1 => hf119 k (by omega))
        refine AR.callV [] hE116 hm.1 rfl rfl rfl rfl rfl ?_
        show AR E d _ (447, [some (vX 0), some (vA 0), some (vA 152), some (vI i)], [vI a1, vI a1], (C, N117)) _
        refine AR.ic_eq rfl (by omega) (fun c120 => ?_) (fun c120 => ?_)
        · show AR E d _ (747, [some (vX 0), some (vA 0), some (vA 152), some (vI i)], [], (C, N117)) _
          refine AR.blk 2 (f' := (18, [some (vX 0), some (vA 0), some (vA 152), some (vI (i + 4))], [], (C, N117))) (fun _ => rfl) ?_
          exact ih18 _ (S1) _ (by omega) (by omega) hXN117 hY118 v1
        · show AR E d _ (450, [some (vX 0), some (vA 0), some (vA 152), some (vI i)], [], (C, N117)) _
          refine AR.blk 1 (f' := (451, [some (vX 0), some (vA 0), some (vA 152), some (vI i)], [vI 0], (C, N117))) (fun _ => rfl) ?_
          exact False.elim (by omega)
      by_cases e121 : E.2 i % 32 = 12
      · refine AR.tswA 12 rfl hsw32 e121 rfl (by omega) ?_
        show AR E d _ (452, [some (vX 0), some (vA 0), some (vA 152), some (vI i)], [], (C, N9)) _
        obtain ⟨a1, S1, v1, v2, cX, cM⟩ := cs_wouldPush (E := E) (C := C) (d := d) hd hx hm hv (E.2 (i + 1)) (E.2 (i + 2)) (hE2 _) (hE2 _)
        refine AR.blk 5 (f' := (457, [some (vX 0), some (vA 0), some (vA 152), some (vI i)], [vI (i + 1), vX 0, vA 0], (C, N9))) (fun _ => rfl) ?_
        refine AR.xald rfl (by omega) ?_
        refine AR.blk 4 (f' := (462, [some (vX 0), some (vA 0), some (vA 152), some (vI i)], [vI (i + 2), vX 0, vI (E.2 (i + 1)), vA 0], (C, N9))) (fun _ => rfl) ?_
        refine AR.xald rfl (by omega) ?_
        obtain ⟨_, hE122, N123, rfl, hX124, hf125⟩ := cX  (by omega) N9 hX
        have hYN123 := g_rY_fr hY (N' := N123) (fun k z0 z1 => hf125 k (by omega))
        refine AR.callV [vI (E.2 (i + 1)), vI (E.2 (i + 2))] hE122 hx.1 rfl rfl rfl rfl rfl ?_
        show AR E d _ (466, [some (vX 0), some (vA 0), some (vA 152), some (vI i)], [vI a1], (C, N123)) _
        refine AR.blk 5 (f' := (471, [some (vX 0), some (vA 0), some (vA 152), some (vI i)], [vI (i + 1), vX 0, vA 152, vI a1], (C, N123))) (fun _ => rfl) ?_
        refine AR.xald rfl (by omega) ?_
        refine AR.blk 4 (f' := (476, [some (vX 0), some (vA 0), some (vA 152), some (vI i)], [vI (i + 2), vX 0, vI (E.2 (i + 1)), vA 152, vI a1], (C, N123))) (fun _ => rfl) ?_
        refine AR.xald rfl (by omega) ?_
        obtain ⟨_, hE126, N127, rfl, hY128, hf129⟩ := cM  (by omega) N123 hYN123
        have hXN127 := g_rX_fr hX124 (N' := N127) (fun k z0 z1 => hf129 k (by omega))
        refine AR.callV [vI (E.2 (i + 1)), vI (E.2 (i + 2))] hE126 hm.1 rfl rfl rfl rfl rfl ?_
        show AR E d _ (480, [some (vX 0), some (vA 0), some (vA 152), some (vI i)], [vI a1, vI a1], (C, N127)) _
        refine AR.ic_eq rfl (by omega) (fun c130 => ?_) (fun c130 => ?_)
        · show AR E d _ (747, [some (vX 0), some (vA 0), some (vA 152), some (vI i)], [], (C, N127)) _
          refine AR.blk 2 (f' := (18, [some (vX 0), some (vA 0), some (vA 152), some (vI (i + 4))], [], (C, N127))) (fun _ => rfl) ?_
          exact ih18 _ (S1) _ (by omega) (by omega) hXN127 hY128 v1
        · show AR E d _ (483, [some (vX 0), some (vA 0), some (vA 152), some (vI i)], [], (C, N127)) _
          refine AR.blk 1 (f' := (484, [some (vX 0), some (vA 0), some (vA 152), some (vI i)], [vI 0], (C, N127))) (fun _ => rfl) ?_
          exact False.elim (by omega)
      by_cases e131 : E.2 i % 32 = 13
      · refine AR.tswA 13 rfl hsw32 e131 rfl (by omega) ?_
        show AR E d _ (485, [some (vX 0), some (vA 0), some (vA 152), some (vI i)], [], (C, N9)) _
        obtain ⟨a1, S1, v1, v2, cX, cM⟩ := cs_firstTake (E := E) (C := C) (d := d) hd hx hm hv  
        refine AR.blk 1 (f' := (486, [some (vX 0), some (vA 0), some (vA 152), some (vI i)], [vA 0], (C, N9))) (fun _ => rfl) ?_
        obtain ⟨_, hE132, N133, rfl, hX134, hf135⟩ := cX  (by omega) N9 hX
        have hYN133 := g_rY_fr hY (N' := N133) (fun k z0 z1 => hf135 k (by omega))
        refine AR.callV [] hE132 hx.1 rfl rfl rfl rfl rfl ?_
        show AR E d _ (489, [some (vX 0), some (vA 0), some (vA 152), some (vI i)], [vI a1], (C, N133)) _
        refine AR.blk 1 (f' := (490, [some (vX 0), some (vA 0), some (vA 152), some (vI i)], [vA 152, vI a1], (C, N133))) (fun _ => rfl) ?_
        obtain ⟨_, hE136, N137, rfl, hY138, hf139⟩ := cM  (by omega) N133 hYN133
        have hXN137 := g_rX_fr hX134 (N' := N137) (fun k z0 z1 => hf139 k (by omega))
        refine AR.callV [] hE136 hm.1 rfl rfl rfl rfl rfl ?_
        show AR E d _ (493, [some (vX 0), some (vA 0), some (vA 152), some (vI i)], [vI a1, vI a1], (C, N137)) _
        refine AR.ic_eq rfl (by omega) (fun c140 => ?_) (fun c140 => ?_)
        · show AR E d _ (747, [some (vX 0), some (vA 0), some (vA 152), some (vI i)], [], (C, N137)) _
          refine AR.blk 2 (f' := (18, [some (vX 0), some (vA 0), some (vA 152), some (vI (i + 4))], [], (C, N137))) (fun _ => rfl) ?_
          exact ih18 _ (S1) _ (by omega) (by omega) hXN137 hY138 v1
        · show AR E d _ (496, [some (vX 0), some (vA 0), some (vA 152), some (vI i)], [], (C, N137)) _
          refine AR.blk 1 (f' := (497, [some (vX 0), some (vA 0), some (vA 152), some (vI i)], [vI 0], (C, N137))) (fun _ => rfl) ?_
          exact False.elim (by omega)
      by_cases e141 : E.2 i % 32 = 14
      · refine AR.tswA 14 rfl hsw32 e141 rfl (by omega) ?_
        show AR E d _ (498, [some (vX 0), some (vA 0), some (vA 152), some (vI i)], [], (C, N9)) _
        obtain ⟨a1, S1, v1, v2, cX, cM⟩ := cs_ways (E := E) (C := C) (d := d) hd hx hm hv (E.2 (i + 1)) (hE2 _)
        refine AR.blk 5 (f' := (503, [some (vX 0), some (vA 0), some (vA 152), some (vI i)], [vI (i + 1), vX 0, vA 0], (C, N9))) (fun _ => rfl) ?_
        refine AR.xald rfl (by omega) ?_
        obtain ⟨_, hE142, N143, rfl, hX144, hf145⟩ := cX  (by omega) N9 hX
        have hYN143 := g_rY_fr hY (N' := N143) (fun k z0 z1 => hf145 k (by omega))
        refine AR.callV [vI (E.2 (i + 1))] hE142 hx.1 rfl rfl rfl rfl rfl ?_
        show AR E d _ (507, [some (vX 0), some (vA 0), some (vA 152), some (vI i)], [vI a1], (C, N143)) _
        refine AR.blk 5 (f' := (512, [some (vX 0), some (vA 0), some (vA 152), some (vI i)], [vI (i + 1), vX 0, vA 152, vI a1], (C, N143))) (fun _ => rfl) ?_
        refine AR.xald rfl (by omega) ?_
        obtain ⟨_, hE146, N147, rfl, hY148, hf149⟩ := cM  (by omega) N143 hYN143
        have hXN147 := g_rX_fr hX144 (N' := N147) (fun k z0 z1 => hf149 k (by omega))
        refine AR.callV [vI (E.2 (i + 1))] hE146 hm.1 rfl rfl rfl rfl rfl ?_
        show AR E d _ (516, [some (vX 0), some (vA 0), some (vA 152), some (vI i)], [vI a1, vI a1], (C, N147)) _
        refine AR.ic_eq rfl (by omega) (fun c150 => ?_) (fun c150 => ?_)
        · show AR E d _ (747, [some (vX 0), some (vA 0), some (vA 152), some (vI i)], [], (C, N147)) _
          refine AR.blk 2 (f' := (18, [some (vX 0), some (vA 0), some (vA 152), some (vI (i + 4))], [], (C, N147))) (fun _ => rfl) ?_
          exact ih18 _ (S1) _ (by omega) (by omega) hXN147 hY148 v1
        · show AR E d _ (519, [some (vX 0), some (vA 0), some (vA 152), some (vI i)], [], (C, N147)) _
          refine AR.blk 1 (f' := (520, [some (vX 0), some (vA 0), some (vA 152), some (vI i)], [vI 0], (C, N147))) (fun _ => rfl) ?_
          exact False.elim (by omega)
      by_cases e151 : E.2 i % 32 = 15
      · refine AR.tswA 15 rfl hsw32 e151 rfl (by omega) ?_
        show AR E d _ (521, [some (vX 0), some (vA 0), some (vA 152), some (vI i)], [], (C, N9)) _
        obtain ⟨a1, S1, v1, v2, cX, cM⟩ := cs_turnsIn (E := E) (C := C) (d := d) hd hx hm hv (E.2 (i + 1)) (hE2 _)
        refine AR.blk 5 (f' := (526, [some (vX 0), some (vA 0), some (vA 152), some (vI i)], [vI (i + 1), vX 0, vA 0], (C, N9))) (fun _ => rfl) ?_
        refine AR.xald rfl (by omega) ?_
        obtain ⟨_, hE152, N153, rfl, hX154, hf155⟩ := cX  (by omega) N9 hX
        have hYN153 := g_rY_fr hY (N' := N153) (fun k z0 z1 => hf155 k (by omega))
        refine AR.callV [vI (E.2 (i + 1))] hE152 hx.1 rfl rfl rfl rfl rfl ?_
        show AR E d _ (530, [some (vX 0), some (vA 0), some (vA 152), some (vI i)], [vI a1], (C, N153)) _
        refine AR.blk 5 (f' := (535, [some (vX 0), some (vA 0), some (vA 152), some (vI i)], [vI (i + 1), vX 0, vA 152, vI a1], (C, N153))) (fun _ => rfl) ?_
        refine AR.xald rfl (by omega) ?_
        obtain ⟨_, hE156, N157, rfl, hY158, hf159⟩ := cM  (by omega) N153 hYN153
        have hXN157 := g_rX_fr hX154 (N' := N157) (fun k z0 z1 => hf159 k (by omega))
        refine AR.callV [vI (E.2 (i + 1))] hE156 hm.1 rfl rfl rfl rfl rfl ?_
        show AR E d _ (539, [some (vX 0), some (vA 0), some (vA 152), some (vI i)], [vI a1, vI a1], (C, N157)) _
        refine AR.ic_eq rfl (by omega) (fun c160 => ?_) (fun c160 => ?_)
        · show AR E d _ (747, [some (vX 0), some (vA 0), some (vA 152), some (vI i)], [], (C, N157)) _
          refine AR.blk 2 (f' := (18, [some (vX 0), some (vA 0), some (vA 152), some (vI (i + 4))], [], (C, N157))) (fun _ => rfl) ?_
          exact ih18 _ (S1) _ (by omega) (by omega) hXN157 hY158 v1
        · show AR E d _ (542, [some (vX 0), some (vA 0), some (vA 152), some (vI i)], [], (C, N157)) _
          refine AR.blk 1 (f' := (543, [some (vX 0), some (vA 0), some (vA 152), some (vI i)], [vI 0], (C, N157))) (fun _ => rfl) ?_
          exact False.elim (by omega)
      by_cases e161 : E.2 i % 32 = 16
      · refine AR.tswA 16 rfl hsw32 e161 rfl (by omega) ?_
        show AR E d _ (544, [some (vX 0), some (vA 0), some (vA 152), some (vI i)], [], (C, N9)) _
        obtain ⟨a1, S1, v1, v2, cX, cM⟩ := cs_tideIn (E := E) (C := C) (d := d) hd hx hm hv (E.2 (i + 1)) (hE2 _)
        refine AR.blk 5 (f' := (549, [some (vX 0), some (vA 0), some (vA 152), some (vI i)], [vI (i + 1), vX 0, vA 0], (C, N9))) (fun _ => rfl) ?_
        refine AR.xald rfl (by omega) ?_
        obtain ⟨_, hE162, N163, rfl, hX164, hf165⟩ := cX  (by omega) N9 hX
        have hYN163 := g_rY_fr hY (N' := N163) (fun k z0 z1 => hf165 k (by omega))
        refine AR.callV [vI (E.2 (i + 1))] hE162 hx.1 rfl rfl rfl rfl rfl ?_
        show AR E d _ (553, [some (vX 0), some (vA 0), some (vA 152), some (vI i)], [vI a1], (C, N163)) _
        refine AR.blk 5 (f' := (558, [some (vX 0), some (vA 0), some (vA 152), some (vI i)], [vI (i + 1), vX 0, vA 152, vI a1], (C, N163))) (fun _ => rfl) ?_
        refine AR.xald rfl (by omega) ?_
        obtain ⟨_, hE166, N167, rfl, hY168, hf169⟩ := cM  (by omega) N163 hYN163
        have hXN167 := g_rX_fr hX164 (N' := N167) (fun k z0 z1 => hf169 k (by omega))
        refine AR.callV [vI (E.2 (i + 1))] hE166 hm.1 rfl rfl rfl rfl rfl ?_
        show AR E d _ (562, [some (vX 0), some (vA 0), some (vA 152), some (vI i)], [vI a1, vI a1], (C, N167)) _
        refine AR.ic_eq rfl (by omega) (fun c170 => ?_) (fun c170 => ?_)
        · show AR E d _ (747, [some (vX 0), some (vA 0), some (vA 152), some (vI i)], [], (C, N167)) _
          refine AR.blk 2 (f' := (18, [some (vX 0), some (vA 0), some (vA 152), some (vI (i + 4))], [], (C, N167))) (fun _ => rfl) ?_
          exact ih18 _ (S1) _ (by omega) (by omega) hXN167 hY168 v1
        · show AR E d _ (565, [some (vX 0), some (vA 0), some (vA 152), some (vI i)], [], (C, N167)) _
          refine AR.blk 1 (f' := (566, [some (vX 0), some (vA 0), some (vA 152), some (vI i)], [vI 0], (C, N167))) (fun _ => rfl) ?_
          exact False.elim (by omega)
      by_cases e171 : E.2 i % 32 = 17
      · refine AR.tswA 17 rfl hsw32 e171 rfl (by omega) ?_
        show AR E d _ (567, [some (vX 0), some (vA 0), some (vA 152), some (vI i)], [], (C, N9)) _
        obtain ⟨a1, S1, v1, v2, cX, cM⟩ := cs_describe (E := E) (C := C) (d := d) hd hx hm hv (E.2 (i + 1)) (hE2 _)
        refine AR.blk 5 (f' := (572, [some (vX 0), some (vA 0), some (vA 152), some (vI i)], [vI (i + 1), vX 0, vA 0], (C, N9))) (fun _ => rfl) ?_
        refine AR.xald rfl (by omega) ?_
        obtain ⟨_, hE172, N173, rfl, hX174, hf175⟩ := cX  (by omega) N9 hX
        have hYN173 := g_rY_fr hY (N' := N173) (fun k z0 z1 => hf175 k (by omega))
        refine AR.callV [vI (E.2 (i + 1))] hE172 hx.1 rfl rfl rfl rfl rfl ?_
        show AR E d _ (576, [some (vX 0), some (vA 0), some (vA 152), some (vI i)], [vI a1], (C, N173)) _
        refine AR.blk 5 (f' := (581, [some (vX 0), some (vA 0), some (vA 152), some (vI i)], [vI (i + 1), vX 0, vA 152, vI a1], (C, N173))) (fun _ => rfl) ?_
        refine AR.xald rfl (by omega) ?_
        obtain ⟨_, hE176, N177, rfl, hY178, hf179⟩ := cM  (by omega) N173 hYN173
        have hXN177 := g_rX_fr hX174 (N' := N177) (fun k z0 z1 => hf179 k (by omega))
        refine AR.callV [vI (E.2 (i + 1))] hE176 hm.1 rfl rfl rfl rfl rfl ?_
        show AR E d _ (585, [some (vX 0), some (vA 0), some (vA 152), some (vI i)], [vI a1, vI a1], (C, N177)) _
        refine AR.ic_eq rfl (by omega) (fun c180 => ?_) (fun c180 => ?_)
        · show AR E d _ (747, [some (vX 0), some (vA 0), some (vA 152), some (vI i)], [], (C, N177)) _
          refine AR.blk 2 (f' := (18, [some (vX 0), some (vA 0), some (vA 152), some (vI (i + 4))], [], (C, N177))) (fun _ => rfl) ?_
          exact ih18 _ (S1) _ (by omega) (by omega) hXN177 hY178 v1
        · show AR E d _ (588, [some (vX 0), some (vA 0), some (vA 152), some (vI i)], [], (C, N177)) _
          refine AR.blk 1 (f' := (589, [some (vX 0), some (vA 0), some (vA 152), some (vI i)], [vI 0], (C, N177))) (fun _ => rfl) ?_
          exact False.elim (by omega)
      by_cases e181 : E.2 i % 32 = 18
      · refine AR.tswA 18 rfl hsw32 e181 rfl (by omega) ?_
        show AR E d _ (590, [some (vX 0), some (vA 0), some (vA 152), some (vI i)], [], (C, N9)) _
        obtain ⟨a1, S1, v1, v2, cX, cM⟩ := cs_sign (E := E) (C := C) (d := d) hd hx hm hv (E.2 (i + 1)) (hE2 _)
        refine AR.blk 5 (f' := (595, [some (vX 0), some (vA 0), some (vA 152), some (vI i)], [vI (i + 1), vX 0, vA 0], (C, N9))) (fun _ => rfl) ?_
        refine AR.xald rfl (by omega) ?_
        obtain ⟨_, hE182, N183, rfl, hX184, hf185⟩ := cX  (by omega) N9 hX
        have hYN183 := g_rY_fr hY (N' := N183) (fun k z0 z1 => hf185 k (by omega))
        refine AR.callV [vI (E.2 (i + 1))] hE182 hx.1 rfl rfl rfl rfl rfl ?_
        show AR E d _ (599, [some (vX 0), some (vA 0), some (vA 152), some (vI i)], [vI a1], (C, N183)) _
        refine AR.blk 5 (f' := (604, [some (vX 0), some (vA 0), some (vA 152), some (vI i)], [vI (i + 1), vX 0, vA 152, vI a1], (C, N183))) (fun _ => rfl) ?_
        refine AR.xald rfl (by omega) ?_
        obtain ⟨_, hE186, N187, rfl, hY188, hf189⟩ := cM  (by omega) N183 hYN183
        have hXN187 := g_rX_fr hX184 (N' := N187) (fun k z0 z1 => hf189 k (by omega))
        refine AR.callV [vI (E.2 (i + 1))] hE186 hm.1 rfl rfl rfl rfl rfl ?_
        show AR E d _ (608, [some (vX 0), some (vA 0), some (vA 152), some (vI i)], [vI a1, vI a1], (C, N187)) _
        refine AR.ic_eq rfl (by omega) (fun c190 => ?_) (fun c190 => ?_)
        · show AR E d _ (747, [some (vX 0), some (vA 0), some (vA 152), some (vI i)], [], (C, N187)) _
          refine AR.blk 2 (f' := (18, [some (vX 0), some (vA 0), some (vA 152), some (vI (i + 4))], [], (C, N187))) (fun _ => rfl) ?_
          exact ih18 _ (S1) _ (by omega) (by omega) hXN187 hY188 v1
        · show AR E d _ (611, [some (vX 0), some (vA 0), some (vA 152), some (vI i)], [], (C, N187)) _
          refine AR.blk 1 (f' := (612, [some (vX 0), some (vA 0), some (vA 152), some (vI i)], [vI 0], (C, N187))) (fun _ => rfl) ?_
          exact False.elim (by omega)
      by_cases e191 : E.2 i % 32 = 19
      · refine AR.tswA 19 rfl hsw32 e191 rfl (by omega) ?_
        show AR E d _ (613, [some (vX 0), some (vA 0), some (vA 152), some (vI i)], [], (C, N9)) _
        obtain ⟨a1, S1, v1, v2, cX, cM⟩ := cs_append (E := E) (C := C) (d := d) hd hx hm hv (E.2 (i + 1)) (hE2 _)
        refine AR.blk 5 (f' := (618, [some (vX 0), some (vA 0), some (vA 152), some (vI i)], [vI (i + 1), vX 0, vA 0], (C, N9))) (fun _ => rfl) ?_
        refine AR.xald rfl (by omega) ?_
        obtain ⟨_, hE192, N193, rfl, hX194, hf195⟩ := cX  (by omega) N9 hX
        have hYN193 := g_rY_fr hY (N' := N193) (fun k z0 z1 => hf195 k (by omega))
        refine AR.callV [vI (E.2 (i + 1))] hE192 hx.1 rfl rfl rfl rfl rfl ?_
        show AR E d _ (622, [some (vX 0), some (vA 0), some (vA 152), some (vI i)], [vI a1], (C, N193)) _
        refine AR.blk 5 (f' := (627, [some (vX 0), some (vA 0), some (vA 152), some (vI i)], [vI (i + 1), vX 0, vA 152, vI a1], (C, N193))) (fun _ => rfl) ?_
        refine AR.xald rfl (by omega) ?_
        obtain ⟨_, hE196, N197, rfl, hY198, hf199⟩ := cM  (by omega) N193 hYN193
        have hXN197 := g_rX_fr hX194 (N' := N197) (fun k z0 z1 => hf199 k (by omega))
        refine AR.callV [vI (E.2 (i + 1))] hE196 hm.1 rfl rfl rfl rfl rfl ?_
        show AR E d _ (631, [some (vX 0), some (vA 0), some (vA 152), some (vI i)], [vI a1, vI a1], (C, N197)) _
        refine AR.ic_eq rfl (by omega) (fun c200 => ?_) (fun c200 => ?_)
        · show AR E d _ (747, [some (vX 0), some (vA 0), some (vA 152), some (vI i)], [], (C, N197)) _
          refine AR.blk 2 (f' := (18, [some (vX 0), some (vA 0), some (vA 152), some (vI (i + 4))], [], (C, N197))) (fun _ => rfl) ?_
          exact ih18 _ (S1) _ (by omega) (by omega) hXN197 hY198 v1
        · show AR E d _ (634, [some (vX 0), some (vA 0), some (vA 152), some (vI i)], [], (C, N197)) _
          refine AR.blk 1 (f' := (635, [some (vX 0), some (vA 0), some (vA 152), some (vI i)], [vI 0], (C, N197))) (fun _ => rfl) ?_
          exact False.elim (by omega)
      by_cases e201 : E.2 i % 32 = 20
      · refine AR.tswA 20 rfl hsw32 e201 rfl (by omega) ?_
        show AR E d _ (636, [some (vX 0), some (vA 0), some (vA 152), some (vI i)], [], (C, N9)) _
        obtain ⟨a1, S1, v1, v2, cX, cM⟩ := cs_read (E := E) (C := C) (d := d) hd hx hm hv  
        refine AR.blk 1 (f' := (637, [some (vX 0), some (vA 0), some (vA 152), some (vI i)], [vA 0], (C, N9))) (fun _ => rfl) ?_
        obtain ⟨_, hE202, N203, rfl, hX204, hf205⟩ := cX  (by omega) N9 hX
        have hYN203 := g_rY_fr hY (N' := N203) (fun k z0 z1 => hf205 k (by omega))
        refine AR.callV [] hE202 hx.1 rfl rfl rfl rfl rfl ?_
        show AR E d _ (640, [some (vX 0), some (vA 0), some (vA 152), some (vI i)], [vI a1], (C, N203)) _
        refine AR.blk 1 (f' := (641, [some (vX 0), some (vA 0), some (vA 152), some (vI i)], [vA 152, vI a1], (C, N203))) (fun _ => rfl) ?_
        obtain ⟨_, hE206, N207, rfl, hY208, hf209⟩ := cM  (by omega) N203 hYN203
        have hXN207 := g_rX_fr hX204 (N' := N207) (fun k z0 z1 => hf209 k (by omega))
        refine AR.callV [] hE206 hm.1 rfl rfl rfl rfl rfl ?_
        show AR E d _ (644, [some (vX 0), some (vA 0), some (vA 152), some (vI i)], [vI a1, vI a1], (C, N207)) _
        refine AR.ic_eq rfl (by omega) (fun c210 => ?_) (fun c210 => ?_)
        · show AR E d _ (747, [some (vX 0), some (vA 0), some (vA 152), some (vI i)], [], (C, N207)) _
          refine AR.blk 2 (f' := (18, [some (vX 0), some (vA 0), some (vA 152), some (vI (i + 4))], [], (C, N207))) (fun _ => rfl) ?_
          exact ih18 _ (S1) _ (by omega) (by omega) hXN207 hY208 v1
        · show AR E d _ (647, [some (vX 0), some (vA 0), some (vA 152), some (vI i)], [], (C, N207)) _
          refine AR.blk 1 (f' := (648, [some (vX 0), some (vA 0), some (vA 152), some (vI i)], [vI 0], (C, N207))) (fun _ => rfl) ?_
          exact False.elim (by omega)
      by_cases e211 : E.2 i % 32 = 21
      · refine AR.tswA 21 rfl hsw32 e211 rfl (by omega) ?_
        show AR E d _ (649, [some (vX 0), some (vA 0), some (vA 152), some (vI i)], [], (C, N9)) _
        obtain ⟨a1, S1, v1, v2, cX, cM⟩ := cs_refusal (E := E) (C := C) (d := d) hd hx hm hv (E.2 (i + 1)) (hE2 _)
        refine AR.blk 5 (f' := (654, [some (vX 0), some (vA 0), some (vA 152), some (vI i)], [vI (i + 1), vX 0, vA 0], (C, N9))) (fun _ => rfl) ?_
        refine AR.xald rfl (by omega) ?_
        obtain ⟨_, hE212, N213, rfl, hX214, hf215⟩ := cX  (by omega) N9 hX
        have hYN213 := g_rY_fr hY (N' := N213) (fun k z0 z1 => hf215 k (by omega))
        refine AR.callV [vI (E.2 (i + 1))] hE212 hx.1 rfl rfl rfl rfl rfl ?_
        show AR E d _ (658, [some (vX 0), some (vA 0), some (vA 152), some (vI i)], [vI a1], (C, N213)) _
        refine AR.blk 5 (f' := (663, [some (vX 0), some (vA 0), some (vA 152), some (vI i)], [vI (i + 1), vX 0, vA 152, vI a1], (C, N213))) (fun _ => rfl) ?_
        refine AR.xald rfl (by omega) ?_
        obtain ⟨_, hE216, N217, rfl, hY218, hf219⟩ := cM  (by omega) N213 hYN213
        have hXN217 := g_rX_fr hX214 (N' := N217) (fun k z0 z1 => hf219 k (by omega))
        refine AR.callV [vI (E.2 (i + 1))] hE216 hm.1 rfl rfl rfl rfl rfl ?_
        show AR E d _ (667, [some (vX 0), some (vA 0), some (vA 152), some (vI i)], [vI a1, vI a1], (C, N217)) _
        refine AR.ic_eq rfl (by omega) (fun c220 => ?_) (fun c220 => ?_)
        · show AR E d _ (747, [some (vX 0), some (vA 0), some (vA 152), some (vI i)], [], (C, N217)) _
          refine AR.blk 2 (f' := (18, [some (vX 0), some (vA 0), some (vA 152), some (vI (i + 4))], [], (C, N217))) (fun _ => rfl) ?_
          exact ih18 _ (S1) _ (by omega) (by omega) hXN217 hY218 v1
        · show AR E d _ (670, [some (vX 0), some (vA 0), some (vA 152), some (vI i)], [], (C, N217)) _
          refine AR.blk 1 (f' := (671, [some (vX 0), some (vA 0), some (vA 152), some (vI i)], [vI 0], (C, N217))) (fun _ => rfl) ?_
          exact False.elim (by omega)
      by_cases e221 : E.2 i % 32 = 22
      · refine AR.tswA 22 rfl hsw32 e221 rfl (by omega) ?_
        show AR E d _ (672, [some (vX 0), some (vA 0), some (vA 152), some (vI i)], [], (C, N9)) _
        obtain ⟨a1, S1, v1, v2, cX, cM⟩ := cs_account (E := E) (C := C) (d := d) hd hx hm hv (E.2 (i + 1)) (hE2 _)
        refine AR.blk 5 (f' := (677, [some (vX 0), some (vA 0), some (vA 152), some (vI i)], [vI (i + 1), vX 0, vA 0], (C, N9))) (fun _ => rfl) ?_
        refine AR.xald rfl (by omega) ?_
        obtain ⟨_, hE222, N223, rfl, hX224, hf225⟩ := cX  (by omega) N9 hX
        have hYN223 := g_rY_fr hY (N' := N223) (fun k z0 z1 => hf225 k (by omega))
        refine AR.callV [vI (E.2 (i + 1))] hE222 hx.1 rfl rfl rfl rfl rfl ?_
        show AR E d _ (681, [some (vX 0), some (vA 0), some (vA 152), some (vI i)], [vI a1], (C, N223)) _
        refine AR.blk 5 (f' := (686, [some (vX 0), some (vA 0), some (vA 152), some (vI i)], [vI (i + 1), vX 0, vA 152, vI a1], (C, N223))) (fun _ => rfl) ?_
        refine AR.xald rfl (by omega) ?_
        obtain ⟨_, hE226, N227, rfl, hY228, hf229⟩ := cM  (by omega) N223 hYN223
        have hXN227 := g_rX_fr hX224 (N' := N227) (fun k z0 z1 => hf229 k (by omega))
        refine AR.callV [vI (E.2 (i + 1))] hE226 hm.1 rfl rfl rfl rfl rfl ?_
        show AR E d _ (690, [some (vX 0), some (vA 0), some (vA 152), some (vI i)], [vI a1, vI a1], (C, N227)) _
        refine AR.ic_eq rfl (by omega) (fun c230 => ?_) (fun c230 => ?_)
        · show AR E d _ (747, [some (vX 0), some (vA 0), some (vA 152), some (vI i)], [], (C, N227)) _
          refine AR.blk 2 (f' := (18, [some (vX 0), some (vA 0), some (vA 152), some (vI (i + 4))], [], (C, N227))) (fun _ => rfl) ?_
          exact ih18 _ (S1) _ (by omega) (by omega) hXN227 hY228 v1
        · show AR E d _ (693, [some (vX 0), some (vA 0), some (vA 152), some (vI i)], [], (C, N227)) _
          refine AR.blk 1 (f' := (694, [some (vX 0), some (vA 0), some (vA 152), some (vI i)], [vI 0], (C, N227))) (fun _ => rfl) ?_
          exact False.elim (by omega)
      by_cases e231 : E.2 i % 32 = 23
      · refine AR.tswA 23 rfl hsw32 e231 rfl (by omega) ?_
        show AR E d _ (695, [some (vX 0), some (vA 0), some (vA 152), some (vI i)], [], (C, N9)) _
        obtain ⟨a1, S1, v1, v2, cX, cM⟩ := cs_mean (E := E) (C := C) (d := d) hd hx hm hv  
        refine AR.blk 1 (f' := (696, [some (vX 0), some (vA 0), some (vA 152), some (vI i)], [vA 0], (C, N9))) (fun _ => rfl) ?_
        obtain ⟨_, hE232, N233, rfl, hX234, hf235⟩ := cX  (by omega) N9 hX
        have hYN233 := g_rY_fr hY (N' := N233) (fun k z0 z1 => hf235 k (by omega))
        refine AR.callV [] hE232 hx.1 rfl rfl rfl rfl rfl ?_
        show AR E d _ (699, [some (vX 0), some (vA 0), some (vA 152), some (vI i)], [vI a1], (C, N233)) _
        refine AR.blk 1 (f' := (700, [some (vX 0), some (vA 0), some (vA 152), some (vI i)], [vA 152, vI a1], (C, N233))) (fun _ => rfl) ?_
        obtain ⟨_, hE236, N237, rfl, hY238, hf239⟩ := cM  (by omega) N233 hYN233
        have hXN237 := g_rX_fr hX234 (N' := N237) (fun k z0 z1 => hf239 k (by omega))
        refine AR.callV [] hE236 hm.1 rfl rfl rfl rfl rfl ?_
        show AR E d _ (703, [some (vX 0), some (vA 0), some (vA 152), some (vI i)], [vI a1, vI a1], (C, N237)) _
        refine AR.ic_eq rfl (by omega) (fun c240 => ?_) (fun c240 => ?_)
        · show AR E d _ (747, [some (vX 0), some (vA 0), some (vA 152), some (vI i)], [], (C, N237)) _
          refine AR.blk 2 (f' := (18, [some (vX 0), some (vA 0), some (vA 152), some (vI (i + 4))], [], (C, N237))) (fun _ => rfl) ?_
          exact ih18 _ (S1) _ (by omega) (by omega) hXN237 hY238 v1
        · show AR E d _ (706, [some (vX 0), some (vA 0), some (vA 152), some (vI i)], [], (C, N237)) _
          refine AR.blk 1 (f' := (707, [some (vX 0), some (vA 0), some (vA 152), some (vI i)], [vI 0], (C, N237))) (fun _ => rfl) ?_
          exact False.elim (by omega)
      by_cases e241 : E.2 i % 32 = 24
      · refine AR.tswA 24 rfl hsw32 e241 rfl (by omega) ?_
        show AR E d _ (708, [some (vX 0), some (vA 0), some (vA 152), some (vI i)], [], (C, N9)) _
        obtain ⟨a1, S1, v1, v2, cX, cM⟩ := cs_undo (E := E) (C := C) (d := d) hd hx hm hv  
        refine AR.blk 1 (f' := (709, [some (vX 0), some (vA 0), some (vA 152), some (vI i)], [vA 0], (C, N9))) (fun _ => rfl) ?_
        obtain ⟨_, hE242, N243, rfl, hX244, hf245⟩ := cX  (by omega) N9 hX
        have hYN243 := g_rY_fr hY (N' := N243) (fun k z0 z1 => hf245 k (by omega))
        refine AR.callV [] hE242 hx.1 rfl rfl rfl rfl rfl ?_
        show AR E d _ (712, [some (vX 0), some (vA 0), some (vA 152), some (vI i)], [vI a1], (C, N243)) _
        refine AR.blk 1 (f' := (713, [some (vX 0), some (vA 0), some (vA 152), some (vI i)], [vA 152, vI a1], (C, N243))) (fun _ => rfl) ?_
        obtain ⟨_, hE246, N247, rfl, hY248, hf249⟩ := cM  (by omega) N243 hYN243
        have hXN247 := g_rX_fr hX244 (N' := N247) (fun k z0 z1 => hf249 k (by omega))
        refine AR.callV [] hE246 hm.1 rfl rfl rfl rfl rfl ?_
        show AR E d _ (716, [some (vX 0), some (vA 0), some (vA 152), some (vI i)], [vI a1, vI a1], (C, N247)) _
        refine AR.ic_eq rfl (by omega) (fun c250 => ?_) (fun c250 => ?_)
        · show AR E d _ (747, [some (vX 0), some (vA 0), some (vA 152), some (vI i)], [], (C, N247)) _
          refine AR.blk 2 (f' := (18, [some (vX 0), some (vA 0), some (vA 152), some (vI (i + 4))], [], (C, N247))) (fun _ => rfl) ?_
          exact ih18 _ (S1) _ (by omega) (by omega) hXN247 hY248 v1
        · show AR E d _ (719, [some (vX 0), some (vA 0), some (vA 152), some (vI i)], [], (C, N247)) _
          refine AR.blk 1 (f' := (720, [some (vX 0), some (vA 0), some (vA 152), some (vI i)], [vI 0], (C, N247))) (fun _ => rfl) ?_
          exact False.elim (by omega)
      by_cases e251 : E.2 i % 32 = 25
      · refine AR.tswA 25 rfl hsw32 e251 rfl (by omega) ?_
        show AR E d _ (721, [some (vX 0), some (vA 0), some (vA 152), some (vI i)], [], (C, N9)) _
        obtain ⟨a1, S1, v1, v2, cX, cM⟩ := cs_save (E := E) (C := C) (d := d) hd hx hm hv  
        refine AR.blk 1 (f' := (722, [some (vX 0), some (vA 0), some (vA 152), some (vI i)], [vA 0], (C, N9))) (fun _ => rfl) ?_
        obtain ⟨_, hE252, N253, rfl, hX254, hf255⟩ := cX  (by omega) N9 hX
        have hYN253 := g_rY_fr hY (N' := N253) (fun k z0 z1 => hf255 k (by omega))
        refine AR.callV [] hE252 hx.1 rfl rfl rfl rfl rfl ?_
        show AR E d _ (725, [some (vX 0), some (vA 0), some (vA 152), some (vI i)], [vI a1], (C, N253)) _
        refine AR.blk 1 (f' := (726, [some (vX 0), some (vA 0), some (vA 152), some (vI i)], [vA 152, vI a1], (C, N253))) (fun _ => rfl) ?_
        obtain ⟨_, hE256, N257, rfl, hY258, hf259⟩ := cM  (by omega) N253 hYN253
        have hXN257 := g_rX_fr hX254 (N' := N257) (fun k z0 z1 => hf259 k (by omega))
        refine AR.callV [] hE256 hm.1 rfl rfl rfl rfl rfl ?_
        show AR E d _ (729, [some (vX 0), some (vA 0), some (vA 152), some (vI i)], [vI a1, vI a1], (C, N257)) _
        refine AR.ic_eq rfl (by omega) (fun c260 => ?_) (fun c260 => ?_)
        · show AR E d _ (747, [some (vX 0), some (vA 0), some (vA 152), some (vI i)], [], (C, N257)) _
          refine AR.blk 2 (f' := (18, [some (vX 0), some (vA 0), some (vA 152), some (vI (i + 4))], [], (C, N257))) (fun _ => rfl) ?_
          exact ih18 _ (S1) _ (by omega) (by omega) hXN257 hY258 v1
        · show AR E d _ (732, [some (vX 0), some (vA 0), some (vA 152), some (vI i)], [], (C, N257)) _
          refine AR.blk 1 (f' := (733, [some (vX 0), some (vA 0), some (vA 152), some (vI i)], [vI 0], (C, N257))) (fun _ => rfl) ?_
          exact False.elim (by omega)
      by_cases e261 : E.2 i % 32 = 26
      · refine AR.tswA 26 rfl hsw32 e261 rfl (by omega) ?_
        show AR E d _ (734, [some (vX 0), some (vA 0), some (vA 152), some (vI i)], [], (C, N9)) _
        obtain ⟨a1, S1, v1, v2, cX, cM⟩ := cs_restore (E := E) (C := C) (d := d) hd hx hm hv  
        refine AR.blk 1 (f' := (735, [some (vX 0), some (vA 0), some (vA 152), some (vI i)], [vA 0], (C, N9))) (fun _ => rfl) ?_
        obtain ⟨_, hE262, N263, rfl, hX264, hf265⟩ := cX  (by omega) N9 hX
        have hYN263 := g_rY_fr hY (N' := N263) (fun k z0 z1 => hf265 k (by omega))
        refine AR.callV [] hE262 hx.1 rfl rfl rfl rfl rfl ?_
        show AR E d _ (738, [some (vX 0), some (vA 0), some (vA 152), some (vI i)], [vI a1], (C, N263)) _
        refine AR.blk 1 (f' := (739, [some (vX 0), some (vA 0), some (vA 152), some (vI i)], [vA 152, vI a1], (C, N263))) (fun _ => rfl) ?_
        obtain ⟨_, hE266, N267, rfl, hY268, hf269⟩ := cM  (by omega) N263 hYN263
        have hXN267 := g_rX_fr hX264 (N' := N267) (fun k z0 z1 => hf269 k (by omega))
        refine AR.callV [] hE266 hm.1 rfl rfl rfl rfl rfl ?_
        show AR E d _ (742, [some (vX 0), some (vA 0), some (vA 152), some (vI i)], [vI a1, vI a1], (C, N267)) _
        refine AR.ic_eq rfl (by omega) (fun c270 => ?_) (fun c270 => ?_)
        · show AR E d _ (747, [some (vX 0), some (vA 0), some (vA 152), some (vI i)], [], (C, N267)) _
          refine AR.blk 2 (f' := (18, [some (vX 0), some (vA 0), some (vA 152), some (vI (i + 4))], [], (C, N267))) (fun _ => rfl) ?_
          exact ih18 _ (S1) _ (by omega) (by omega) hXN267 hY268 v1
        · show AR E d _ (745, [some (vX 0), some (vA 0), some (vA 152), some (vI i)], [], (C, N267)) _
          refine AR.blk 1 (f' := (746, [some (vX 0), some (vA 0), some (vA 152), some (vI i)], [vI 0], (C, N267))) (fun _ => rfl) ?_
          exact False.elim (by omega)
      refine AR.tswD rfl hsw32 (by omega) ?_
      show AR E d _ (747, [some (vX 0), some (vA 0), some (vA 152), some (vI i)], [], (C, N9)) _
      refine AR.blk 2 (f' := (18, [some (vX 0), some (vA 0), some (vA 152), some (vI (i + 4))], [], (C, N9))) (fun _ => rfl) ?_
      exact ih18 _ (S) _ (by omega) (by omega) hX hY hv
end LAW
