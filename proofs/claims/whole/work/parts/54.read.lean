/-! LEVEL 2: the class: read -/
theorem g_rMs_fr {N N' : Nat → Int → Int} {x : Nat} {M : List (Int × Int)} (h : g_rMs N x M) (h2 : N' x 2 = N x 2) (h3 : N' (x + 2) = N (x + 2)) (h4 : N' (x + 3) = N (x + 3)) : g_rMs N' x M :=
  ⟨h2.trans h.1, fun j y hy => ⟨(congrFun h3 _).trans (h.2 j y hy).1, (congrFun h4 _).trans (h.2 j y hy).2⟩⟩
section L2E
variable {E : Nat × (Int → Int)} {C : List ag_C} {N : Nat → Int → Int} {x : Nat} {T : Int → Int} {L : Int}
theorem ev_X3_parse2 {d : Nat} (hd : 2 ≤ d) (ht : g_isT C x) (hL : N x 0 = L) (h0 : 0 ≤ L ∧ L ≤ 70) (hT : ∀ j, 0 ≤ j → j < L → N (x + 1) j = T j ∧ ag_in (T j)) {R : Int × List (Int × Int)} (hR : m_ps T L L.toNat 0 0 0 0 [] = R) : ∃ o_, Ev E d 48 [vA x] (C, N) o_ ∧ ∃ N', o_ = (some (vI R.1), (C, N')) ∧ g_rMs N' x R.2 ∧ N' x 0 = N x 0 ∧ ∀ a, ¬ (a = x ∨ a = x + 2 ∨ a = x + 3) → N' a = N a := by
  subst hR
  obtain ⟨o, h1, N2, h2, h3, h4, h5⟩ := ev_X3_parse (E := E) hd ht hL h0 hT
  exact ⟨o, h1, N2, h2, h3, h4, fun a ha => h5 a (fun z => ha (.inl z)) (fun z => ha (.inr (.inl z))) (fun z => ha (.inr (.inr z)))⟩
theorem ev_X3_clear2 {d : Nat} (hd : 1 ≤ d) (ht : g_isT C x) : ∃ o_, Ev E d 47 [vA x] (C, N) o_ ∧ ∃ N', o_ = (none, (C, N')) ∧ N' x 0 = 0 ∧ N' x 2 = N x 2 ∧ ∀ a, a ≠ x → N' a = N a :=
  ⟨_, ev_X3_clear hd ht, _, rfl, ag_upd_eq, ag_upd_nk (by omega), fun a ha => ag_upd_ne ha⟩

theorem m_ag_T {z : Int} (h : 32 ≤ z ∧ z ≤ 126) : ag_in z := by omega

theorem ev_X6_read {d : Nat} (hd : 7 ≤ d) {G : m_G} {U : List m_G} {V : Option m_G} {F : m_F} {L : Int} {T : Int → Int} {l : Int} {ln : Int → Int} (hx : g_isX C x) (hX : g_rX N x (G, U, V, F, (L, T), (l, ln))) (hS : g_vS (G, U, V, F, (L, T), (l, ln))) : ∃ o_, Ev E d 80 [vA x] (C, N) o_ ∧ g_QX C N x (o_read (G, U, V, F, (L, T), (l, ln))) o_ := by
  obtain ⟨d, rfl⟩ : ∃ j, d = j + 1 := ⟨d - 1, by omega⟩
  obtain ⟨⟨P, n, q, p, cl, tn⟩, ⟨t, bg, en, ca⟩, ⟨gn, pu, mk⟩, H⟩ := G
  have hrB : g_rB N (x + 1 + 1) P n q p cl tn := hX.1.1
  have hrH : g_rH N (x + 1 + 7) H := hX.1.2.1
  have hrT : g_rT N (x + 1) t bg en ca gn pu mk := hX.1.2.2
  have hP : g_rP N (x + 40) U := hX.2.1
  have hV : g_rV N x V := hX.2.2.1
  have hF : g_rF N (x + 150) F := hX.2.2.2.1
  have hT : g_rTx N (x + 146) L T := hX.2.2.2.2.1
  have hL : g_rLn N x l ln := hX.2.2.2.2.2
  have hvG : g_vG ((P, n, q, p, cl, tn), (t, bg, en, ca), (gn, pu, mk), H) := hS.1
  have hwB : g_wB P n q p cl tn := hvG.1.1
  have hwH : g_wH H := hvG.1.2.1
  have hwS : g_wS t bg en ca gn pu mk := hvG.1.2.2
  have hwL : 0 ≤ L ∧ L ≤ 70 := hS.2.2.2.1
  have hwl : 0 ≤ l ∧ l ≤ 6 := hS.2.2.2.2.2
  have s1 := hwS.1
  have s2 := hwS.2.1
  have s3 := hwS.2.2.1
  have s4 := hwS.2.2.2.1
  have s6 := hwS.2.2.2.2.2
  have s7 : bg = 0 → H.length = 0 := fun e => by have z : H = [] := (hvG.2.1 e).1; rw [z]; rfl
  have s8 := g_rP_l hP
  obtain ⟨R, hR⟩ : ∃ R, m_ps T L L.toNat 0 0 0 0 [] = R := ⟨_, rfl⟩
  have r1 := m_ps_in T L hwL
  rw [hR] at r1
  have r2 := r1.1
  have r3 := r1.2.1
  refine Ev.introQ (M := ag_mX6_read) rfl rfl ?_
  show AR E d _ (0, [some (vA x), none, none, none, none, none], [], (C, N)) _
  refine AR.blk 1 (f' := (1, [some (vA x), none, none, none, none, none], [vA x], (C, N))) (fun _ => rfl) ?_
  refine AR.getR rfl rfl hx.1 (by decide) rfl ?_
  obtain ⟨_, hE1, N2, rfl, hM3, h04, hf5⟩ := ev_X3_parse2 (E := E) (d := d) (by omega) hx.2.2.2.2.2.1 hT.1 hwL (fun j z0 z1 => ⟨hT.2 j z0 z1, (by have z := hS.2.2.2.2.1 j z0 z1; exact m_ag_T z)⟩) hR
  have hTN2 : g_rTx N2 (x + 146) L T := ⟨h04.trans hT.1, fun j z0 z1 => (congrFun (hf5 _ (by omega)) j).trans (hT.2 j z0 z1)⟩
  have nBN2 := g_rB_fr hrB (N' := N2) (fun a z0 z1 => hf5 a (by omega))
  have nHN2 := g_rH_fr hrH (N' := N2) (fun a z0 z1 => hf5 a (by omega))
  have nTN2 := g_rT_fr hrT (N' := N2) (hf5 _ (by omega)) (hf5 _ (by omega)) (hf5 _ (by omega)) (hf5 _ (by omega))
  have hPN2 := g_rP_fr hP (N' := N2) (fun a z0 z1 => hf5 a (by omega))
  have hVN2 := g_rV_fr hV (N' := N2) (congrFun (hf5 _ (by omega)) _) (fun a z0 z1 => hf5 a (by omega))
  have hFN2 := g_rF_fr hF (N' := N2) (hf5 _ (by omega))
  have hLN2 := g_rLn_fr hL (N' := N2) (congrFun (hf5 _ (by omega)) _) (hf5 _ (by omega))
  have frN2 : ∀ a, ¬ (x ≤ a ∧ a < x + 152) → (N2) a = N a := fun a ha => (hf5 a (by omega)).trans ((fun _ _ => rfl) a ha)
  have f9N2 : ∀ a, ¬ (x + 14 ≤ a ∧ a < x + 27 ∨ x + 146 ≤ a ∧ a < x + 151) → (N2) a = N a := fun a ha => (hf5 a (by omega)).trans ((fun _ _ => rfl) a ha)
  refine AR.callV [] hE1 hx.2.2.2.2.2.1.1 rfl rfl rfl rfl rfl ?_
  show AR E d _ (7, [some (vA x), none, none, none, none, none], [vI R.1], (C, N2)) _
  refine AR.blk 2 (f' := (9, [some (vA x), some (vI R.1), none, none, none, none], [vA x], (C, N2))) (fun _ => rfl) ?_
  refine AR.getR rfl rfl hx.1 (by decide) rfl ?_
  obtain ⟨_, hE6, N7, rfl, h08, h29, hf10⟩ := ev_X3_clear2 (E := E) (d := d) (by omega) hx.2.2.2.2.2.1
  have hTN7 : g_rTx N7 (x + 146) 0 T := ⟨h08, fun j z0 z1 => by omega⟩
  have hMsN7 := g_rMs_fr hM3 (N' := N7) h29 (hf10 _ (by omega)) (hf10 _ (by omega))
  have nBN7 := g_rB_fr nBN2 (N' := N7) (fun a z0 z1 => hf10 a (by omega))
  have nHN7 := g_rH_fr nHN2 (N' := N7) (fun a z0 z1 => hf10 a (by omega))
  have nTN7 := g_rT_fr nTN2 (N' := N7) (hf10 _ (by omega)) (hf10 _ (by omega)) (hf10 _ (by omega)) (hf10 _ (by omega))
  have hPN7 := g_rP_fr hPN2 (N' := N7) (fun a z0 z1 => hf10 a (by omega))
  have hVN7 := g_rV_fr hVN2 (N' := N7) (congrFun (hf10 _ (by omega)) _) (fun a z0 z1 => hf10 a (by omega))
  have hFN7 := g_rF_fr hFN2 (N' := N7) (hf10 _ (by omega))
  have hLN7 := g_rLn_fr hLN2 (N' := N7) (congrFun (hf10 _ (by omega)) _) (hf10 _ (by omega))
  have frN7 : ∀ a, ¬ (x ≤ a ∧ a < x + 152) → (N7) a = N a := fun a ha => (hf10 a (by omega)).trans (frN2 a ha)
  have f9N7 : ∀ a, ¬ (x + 14 ≤ a ∧ a < x + 27 ∨ x + 146 ≤ a ∧ a < x + 151) → (N7) a = N a := fun a ha => (hf10 a (by omega)).trans (f9N2 a ha)
  refine AR.callV [] hE6 hx.2.2.2.2.2.1.1 rfl rfl rfl rfl rfl ?_
  show AR E d _ (15, [some (vA x), some (vI R.1), none, none, none, none], [], (C, N7)) _
  refine AR.blk 2 (f' := (17, [some (vA x), some (vI R.1), none, none, none, none], [vI (-1), vI R.1], (C, N7))) (fun _ => rfl) ?_
  refine AR.ic_eq rfl (by omega) (fun c11 => ?_) (fun c11 => ?_)
  · show AR E d _ (25, [some (vA x), some (vI R.1), none, none, none, none], [], (C, N7)) _
    refine AR.blk 1 (f' := (26, [some (vA x), some (vI R.1), none, none, none, none], [vA x], (C, N7))) (fun _ => rfl) ?_
    refine AR.getR rfl rfl hx.1 (by decide) rfl ?_
    refine AR.blk 1 (f' := (30, [some (vA x), some (vI R.1), none, none, none, none], [vA x, vA (x + 14)], (C, N7))) (fun _ => rfl) ?_
    refine AR.getR rfl rfl hx.1 (by decide) rfl ?_
    obtain ⟨_, hE12, N13, rfl, hr14, hf15⟩ := ev_X1_copyFrom (E := E) (d := d) (by omega) hx.2.2.1 hx.2.1 (by omega) (show g_rG N7 (x + 1) ((P, n, q, p, cl, tn), (t, bg, en, ca), (gn, pu, mk), H) from ⟨nBN7, nHN7, nTN7⟩) hvG.1
    have tBN13 : g_rB N13 (x + 14 + 1) P n q p cl tn := hr14.1
    have tHN13 : g_rH N13 (x + 14 + 7) H := hr14.2.1
    have tTN13 : g_rT N13 (x + 14) t bg en ca gn pu mk := hr14.2.2
    have vN13 : g_vG ((P, n, q, p, cl, tn), (t, bg, en, ca), (gn, pu, mk), H) := hvG
    have wBN13 : g_wB P n q p cl tn := vN13.1.1
    have wHN13 : g_wH H := vN13.1.2.1
    have wSN13 : g_wS t bg en ca gn pu mk := vN13.1.2.2
    have z1N13 := wSN13.1
    have z2N13 := wSN13.2.1
    have z3N13 := wSN13.2.2.1
    have nBN13 := g_rB_fr nBN7 (N' := N13) (fun a z0 z1 => hf15 a (by omega))
    have nHN13 := g_rH_fr nHN7 (N' := N13) (fun a z0 z1 => hf15 a (by omega))
    have nTN13 := g_rT_fr nTN7 (N' := N13) (hf15 _ (by omega)) (hf15 _ (by omega)) (hf15 _ (by omega)) (hf15 _ (by omega))
    have hPN13 := g_rP_fr hPN7 (N' := N13) (fun a z0 z1 => hf15 a (by omega))
    have hVN13 := g_rV_fr hVN7 (N' := N13) (congrFun (hf15 _ (by omega)) _) (fun a z0 z1 => hf15 a (by omega))
    have hFN13 := g_rF_fr hFN7 (N' := N13) (hf15 _ (by omega))
    have hTN13 := g_rTx_fr hTN7 (N' := N13) (congrFun (hf15 _ (by omega)) _) (hf15 _ (by omega))
    have hLN13 := g_rLn_fr hLN7 (N' := N13) (congrFun (hf15 _ (by omega)) _) (hf15 _ (by omega))
    have hMsN13 := g_rMs_fr hMsN7 (N' := N13) (congrFun (hf15 _ (by omega)) _) (hf15 _ (by omega)) (hf15 _ (by omega))
    have frN13 : ∀ a, ¬ (x ≤ a ∧ a < x + 152) → (N13) a = N a := fun a ha => (hf15 a (by omega)).trans (frN7 a ha)
    have f9N13 : ∀ a, ¬ (x + 14 ≤ a ∧ a < x + 27 ∨ x + 146 ≤ a ∧ a < x + 151) → (N13) a = N a := fun a ha => (hf15 a (by omega)).trans (f9N7 a ha)
    refine AR.callV [vA (x + 1)] hE12 hx.2.2.1.1 rfl rfl rfl rfl rfl ?_
    show AR E d _ (36, [some (vA x), some (vI R.1), none, none, none, none], [], (C, N13)) _
    refine AR.blk 2 (f' := (38, [some (vA x), some (vI R.1), some (vI 0), none, none, none], [], (C, N13))) (fun _ => rfl) ?_
    suffices H38 : ∀ (j : Nat) (k : Int) (z3 : Option av) (z4 : Option av) (z5 : Option av) (G9 : m_G) (F9 : m_F) (N9 : Nat → Int → Int), (30 - k).toNat < j → (0 ≤ k ∧ k ≤ R.2.length) → (m_run G9 F9 (R.2.drop k.toNat) k = m_run ((P, n, q, p, cl, tn), (t, bg, en, ca), (gn, pu, mk), H) F R.2 0) → (g_rG N9 (x + 14) G9) → (g_vG G9) → (g_rF N9 (x + 150) F9) → (g_rMs N9 (x + 146) R.2) → (N9 (x + 146) 0 = 0) → (∀ a, ¬ (x + 14 ≤ a ∧ a < x + 27 ∨ x + 146 ≤ a ∧ a < x + 151) → N9 a = N a) → AR E d ag_mX6_read (38, [some (vA x), some (vI R.1), some (vI k), z3, z4, z5], [], (C, N9)) (g_QX C N x (o_read (((P, n, q, p, cl, tn), (t, bg, en, ca), (gn, pu, mk), H), U, V, F, (L, T), (l, ln)))) by
      exact H38 _ _ _ _ _ (((P, n, q, p, cl, tn), (t, bg, en, ca), (gn, pu, mk), H)) (F) _ (Nat.lt_succ_self _) (by omega) rfl ⟨tBN13, tHN13, tTN13⟩ vN13 hFN13 hMsN13 hTN13.1 f9N13
    intro j
    induction j with
    | zero => intro k z3 z4 z5 G9 F9 N9 hj; exact absurd hj (Nat.not_lt_zero _)
    | succ j ih38 =>
      intro k z3 z4 z5 G9 F9 N9 hj38 i0 i1 hg9 hv9 hF9 hM9 hL9 qf
      obtain ⟨⟨P9, n9, q9, p9, cl9, tn9⟩, ⟨t9, bg9, en9, ca9⟩, ⟨gn9, pu9, mk9⟩, H9⟩ := G9
      have nBN9 := g_rB_fr hrB (N' := N9) (fun a z0 z1 => qf a (by omega))
      have nHN9 := g_rH_fr hrH (N' := N9) (fun a z0 z1 => qf a (by omega))
      have nTN9 := g_rT_fr hrT (N' := N9) (qf _ (by omega)) (qf _ (by omega)) (qf _ (by omega)) (qf _ (by omega))
      have hPN9 := g_rP_fr hP (N' := N9) (fun a z0 z1 => qf a (by omega))
      have hVN9 := g_rV_fr hV (N' := N9) (congrFun (qf _ (by omega)) _) (fun a z0 z1 => qf a (by omega))
      have hLN9 := g_rLn_fr hL (N' := N9) (congrFun (qf _ (by omega)) _) (qf _ (by omega))
      have frN9 : ∀ a, ¬ (x ≤ a ∧ a < x + 152) → (N9) a = N a := fun a ha => (qf a (by omega)).trans ((fun _ _ => rfl) a ha)
      have tB : g_rB N9 (x + 14 + 1) P9 n9 q9 p9 cl9 tn9 := hg9.1
      have tH : g_rH N9 (x + 14 + 7) H9 := hg9.2.1
      have tT : g_rT N9 (x + 14) t9 bg9 en9 ca9 gn9 pu9 mk9 := hg9.2.2
      have wB9 : g_wB P9 n9 q9 p9 cl9 tn9 := hv9.1.1
      have wH9 : g_wH H9 := hv9.1.2.1
      have wS9 : g_wS t9 bg9 en9 ca9 gn9 pu9 mk9 := hv9.1.2.2
      have hT9 : g_rTx N9 (x + 146) 0 T := ⟨hL9, fun j z0 z1 => by omega⟩
      obtain ⟨s1, y1, hk1⟩ := g_rMs_at hM9 r1.2.2 k
      have mr := fun hk => m_run_S (hk1 hk).2.2.2.2 i1
      have hk2 := fun hk => (hk1 hk).2.2.1
      have hk3 := fun hk => (hk1 hk).2.2.2.1
      have z19 := wS9.1
      have z29 := wS9.2.1
      have z39 := wS9.2.2.1
      refine AR.blk 2 (f' := (40, [some (vA x), some (vI R.1), some (vI k), z3, z4, z5], [vA x, vI k], (C, N9))) (fun _ => rfl) ?_
      refine AR.getR rfl rfl hx.1 (by decide) rfl ?_
      refine AR.getI rfl rfl hx.2.2.2.2.2.1.1 (by decide) (v := (R.2.length : Int)) hM9.1 ?_
      refine AR.ic_ge rfl (by omega) (fun c16 => ?_) (fun c16 => ?_)
      · show AR E d _ (127, [some (vA x), some (vI R.1), some (vI k), z3, z4, z5], [], (C, N9)) _
        have hrun : m_run ((P, n, q, p, cl, tn), (t, bg, en, ca), (gn, pu, mk), H) F R.2 0 = (0, F9, ((P9, n9, q9, p9, cl9, tn9), (t9, bg9, en9, ca9), (gn9, pu9, mk9), H9)) := by rw [← i1, List.drop_of_length_le (by omega)]; rfl
        refine AR.blk 1 (f' := (128, [some (vA x), some (vI R.1), some (vI k), z3, z4, z5], [vA x], (C, N9))) (fun _ => rfl) ?_
        refine AR.getR rfl rfl hx.1 (by decide) rfl ?_
        refine AR.blk 1 (f' := (132, [some (vA x), some (vI R.1), some (vI k), z3, z4, z5], [vA x, vA (x + 40)], (C, N9))) (fun _ => rfl) ?_
        refine AR.getR rfl rfl hx.1 (by decide) rfl ?_
        obtain ⟨_, hE17, N18, rfl, hP19, hf20⟩ := ev_X4_keep (E := E) (d := d) (by omega) hx.2.2.2.2.1 hPN9 hx.2.1 (show g_rG N9 (x + 1) ((P, n, q, p, cl, tn), (t, bg, en, ca), (gn, pu, mk), H) from ⟨nBN9, nHN9, nTN9⟩) hvG.1 (by omega)
        have PN18 : g_rP N18 (x + 40) ((((P, n, q, p, cl, tn), (t, bg, en, ca), (gn, pu, mk), H) :: U).take 8) := hP19
        have nBN18 := g_rB_fr nBN9 (N' := N18) (fun a z0 z1 => hf20 a (by omega))
        have nHN18 := g_rH_fr nHN9 (N' := N18) (fun a z0 z1 => hf20 a (by omega))
        have nTN18 := g_rT_fr nTN9 (N' := N18) (hf20 _ (by omega)) (hf20 _ (by omega)) (hf20 _ (by omega)) (hf20 _ (by omega))
        have tBN18 := g_rB_fr tB (N' := N18) (fun a z0 z1 => hf20 a (by omega))
        have tHN18 := g_rH_fr tH (N' := N18) (fun a z0 z1 => hf20 a (by omega))
        have tTN18 := g_rT_fr tT (N' := N18) (hf20 _ (by omega)) (hf20 _ (by omega)) (hf20 _ (by omega)) (hf20 _ (by omega))
        have hVN18 := g_rV_fr hVN9 (N' := N18) (congrFun (hf20 _ (by omega)) _) (fun a z0 z1 => hf20 a (by omega))
        have hFN18 := g_rF_fr hF9 (N' := N18) (hf20 _ (by omega))
        have hTN18 := g_rTx_fr hT9 (N' := N18) (congrFun (hf20 _ (by omega)) _) (hf20 _ (by omega))
        have hLN18 := g_rLn_fr hLN9 (N' := N18) (congrFun (hf20 _ (by omega)) _) (hf20 _ (by omega))
        have hMsN18 := g_rMs_fr hM9 (N' := N18) (congrFun (hf20 _ (by omega)) _) (hf20 _ (by omega)) (hf20 _ (by omega))
        have frN18 : ∀ a, ¬ (x ≤ a ∧ a < x + 152) → (N18) a = N a := fun a ha => (hf20 a (by omega)).trans (frN9 a ha)
        refine AR.callV [vA (x + 1)] hE17 hx.2.2.2.2.1.1 rfl rfl rfl rfl rfl ?_
        show AR E d _ (138, [some (vA x), some (vI R.1), some (vI k), z3, z4, z5], [], (C, N18)) _
        refine AR.blk 1 (f' := (139, [some (vA x), some (vI R.1), some (vI k), z3, z4, z5], [vA x], (C, N18))) (fun _ => rfl) ?_
        refine AR.getR rfl rfl hx.1 (by decide) rfl ?_
        refine AR.blk 1 (f' := (143, [some (vA x), some (vI R.1), some (vI k), z3, z4, z5], [vA x, vA (x + 1)], (C, N18))) (fun _ => rfl) ?_
        refine AR.getR rfl rfl hx.1 (by decide) rfl ?_
        obtain ⟨_, hE21, N22, rfl, hr23, hf24⟩ := ev_X1_copyFrom (E := E) (d := d) (by omega) hx.2.1 hx.2.2.1 (by omega) (show g_rG N18 (x + 14) ((P9, n9, q9, p9, cl9, tn9), (t9, bg9, en9, ca9), (gn9, pu9, mk9), H9) from ⟨tBN18, tHN18, tTN18⟩) hv9.1
        have nBN22 : g_rB N22 (x + 1 + 1) P9 n9 q9 p9 cl9 tn9 := hr23.1
        have nHN22 : g_rH N22 (x + 1 + 7) H9 := hr23.2.1
        have nTN22 : g_rT N22 (x + 1) t9 bg9 en9 ca9 gn9 pu9 mk9 := hr23.2.2
        have vN22 : g_vG ((P9, n9, q9, p9, cl9, tn9), (t9, bg9, en9, ca9), (gn9, pu9, mk9), H9) := hv9
        have wBN22 : g_wB P9 n9 q9 p9 cl9 tn9 := vN22.1.1
        have wHN22 : g_wH H9 := vN22.1.2.1
        have wSN22 : g_wS t9 bg9 en9 ca9 gn9 pu9 mk9 := vN22.1.2.2
        have z1N22 := wSN22.1
        have z2N22 := wSN22.2.1
        have z3N22 := wSN22.2.2.1
        have tBN22 := g_rB_fr tBN18 (N' := N22) (fun a z0 z1 => hf24 a (by omega))
        have tHN22 := g_rH_fr tHN18 (N' := N22) (fun a z0 z1 => hf24 a (by omega))
        have tTN22 := g_rT_fr tTN18 (N' := N22) (hf24 _ (by omega)) (hf24 _ (by omega)) (hf24 _ (by omega)) (hf24 _ (by omega))
        have hPN22 := g_rP_fr PN18 (N' := N22) (fun a z0 z1 => hf24 a (by omega))
        have hVN22 := g_rV_fr hVN18 (N' := N22) (congrFun (hf24 _ (by omega)) _) (fun a z0 z1 => hf24 a (by omega))
        have hFN22 := g_rF_fr hFN18 (N' := N22) (hf24 _ (by omega))
        have hTN22 := g_rTx_fr hTN18 (N' := N22) (congrFun (hf24 _ (by omega)) _) (hf24 _ (by omega))
        have hLN22 := g_rLn_fr hLN18 (N' := N22) (congrFun (hf24 _ (by omega)) _) (hf24 _ (by omega))
        have hMsN22 := g_rMs_fr hMsN18 (N' := N22) (congrFun (hf24 _ (by omega)) _) (hf24 _ (by omega)) (hf24 _ (by omega))
        have frN22 : ∀ a, ¬ (x ≤ a ∧ a < x + 152) → (N22) a = N a := fun a ha => (hf24 a (by omega)).trans (frN18 a ha)
        refine AR.callV [vA (x + 14)] hE21 hx.2.1.1 rfl rfl rfl rfl rfl ?_
        show AR E d _ (149, [some (vA x), some (vI R.1), some (vI k), z3, z4, z5], [], (C, N22)) _
        refine AR.blk 1 (f' := (150, [some (vA x), some (vI R.1), some (vI k), z3, z4, z5], [vA x], (C, N22))) (fun _ => rfl) ?_
        refine AR.getR rfl rfl hx.1 (by decide) rfl ?_
        refine AR.getI rfl rfl hx.2.2.2.2.2.1.1 (by decide) (v := (R.2.length : Int)) hMsN22.1 ?_
        refine AR.endI rfl (.inl rfl) ?_
        have e9 : o_read (((P, n, q, p, cl, tn), (t, bg, en, ca), (gn, pu, mk), H), U, V, F, (L, T), (l, ln)) = ((R.2.length : Int), (((P9, n9, q9, p9, cl9, tn9), (t9, bg9, en9, ca9), (gn9, pu9, mk9), H9), ((((P, n, q, p, cl, tn), (t, bg, en, ca), (gn, pu, mk), H) :: U).take 8), V, F9, (0, T), (l, ln))) := by unfold o_read m_psT; dsimp only; rw [hR, hrun, if_neg (show ¬ R.1 ≠ -1 by omega), if_neg (fun z => z rfl)]
        rw [e9]
        exact ⟨_, rfl, ⟨⟨nBN22, nHN22, nTN22⟩, hPN22, hVN22, hFN22, hTN22, hLN22⟩, frN22⟩
      · show AR E d _ (49, [some (vA x), some (vI R.1), some (vI k), z3, z4, z5], [], (C, N9)) _
        refine AR.blk 2 (f' := (52, [some (vA x), some (vI R.1), some (vI k), z3, z4, z5], [vI 23, vI k], (C, N9))) (fun _ => rfl) ?_
        refine AR.ic_ge rfl (by omega) (fun c25 => ?_) (fun c25 => ?_)
        · show AR E d _ (127, [some (vA x), some (vI R.1), some (vI k), z3, z4, z5], [], (C, N9)) _
          have hrun : m_run ((P, n, q, p, cl, tn), (t, bg, en, ca), (gn, pu, mk), H) F R.2 0 = (0, F9, ((P9, n9, q9, p9, cl9, tn9), (t9, bg9, en9, ca9), (gn9, pu9, mk9), H9)) := by rw [← i1, List.drop_of_length_le (by omega)]; rfl
          refine AR.blk 1 (f' := (128, [some (vA x), some (vI R.1), some (vI k), z3, z4, z5], [vA x], (C, N9))) (fun _ => rfl) ?_
          refine AR.getR rfl rfl hx.1 (by decide) rfl ?_
          refine AR.blk 1 (f' := (132, [some (vA x), some (vI R.1), some (vI k), z3, z4, z5], [vA x, vA (x + 40)], (C, N9))) (fun _ => rfl) ?_
          refine AR.getR rfl rfl hx.1 (by decide) rfl ?_
          obtain ⟨_, hE26, N27, rfl, hP28, hf29⟩ := ev_X4_keep (E := E) (d := d) (by omega) hx.2.2.2.2.1 hPN9 hx.2.1 (show g_rG N9 (x + 1) ((P, n, q, p, cl, tn), (t, bg, en, ca), (gn, pu, mk), H) from ⟨nBN9, nHN9, nTN9⟩) hvG.1 (by omega)
          have PN27 : g_rP N27 (x + 40) ((((P, n, q, p, cl, tn), (t, bg, en, ca), (gn, pu, mk), H) :: U).take 8) := hP28
          have nBN27 := g_rB_fr nBN9 (N' := N27) (fun a z0 z1 => hf29 a (by omega))
          have nHN27 := g_rH_fr nHN9 (N' := N27) (fun a z0 z1 => hf29 a (by omega))
          have nTN27 := g_rT_fr nTN9 (N' := N27) (hf29 _ (by omega)) (hf29 _ (by omega)) (hf29 _ (by omega)) (hf29 _ (by omega))
          have tBN27 := g_rB_fr tB (N' := N27) (fun a z0 z1 => hf29 a (by omega))
          have tHN27 := g_rH_fr tH (N' := N27) (fun a z0 z1 => hf29 a (by omega))
          have tTN27 := g_rT_fr tT (N' := N27) (hf29 _ (by omega)) (hf29 _ (by omega)) (hf29 _ (by omega)) (hf29 _ (by omega))
          have hVN27 := g_rV_fr hVN9 (N' := N27) (congrFun (hf29 _ (by omega)) _) (fun a z0 z1 => hf29 a (by omega))
          have hFN27 := g_rF_fr hF9 (N' := N27) (hf29 _ (by omega))
          have hTN27 := g_rTx_fr hT9 (N' := N27) (congrFun (hf29 _ (by omega)) _) (hf29 _ (by omega))
          have hLN27 := g_rLn_fr hLN9 (N' := N27) (congrFun (hf29 _ (by omega)) _) (hf29 _ (by omega))
          have hMsN27 := g_rMs_fr hM9 (N' := N27) (congrFun (hf29 _ (by omega)) _) (hf29 _ (by omega)) (hf29 _ (by omega))
          have frN27 : ∀ a, ¬ (x ≤ a ∧ a < x + 152) → (N27) a = N a := fun a ha => (hf29 a (by omega)).trans (frN9 a ha)
          refine AR.callV [vA (x + 1)] hE26 hx.2.2.2.2.1.1 rfl rfl rfl rfl rfl ?_
          show AR E d _ (138, [some (vA x), some (vI R.1), some (vI k), z3, z4, z5], [], (C, N27)) _
          refine AR.blk 1 (f' := (139, [some (vA x), some (vI R.1), some (vI k), z3, z4, z5], [vA x], (C, N27))) (fun _ => rfl) ?_
          refine AR.getR rfl rfl hx.1 (by decide) rfl ?_
          refine AR.blk 1 (f' := (143, [some (vA x), some (vI R.1), some (vI k), z3, z4, z5], [vA x, vA (x + 1)], (C, N27))) (fun _ => rfl) ?_
          refine AR.getR rfl rfl hx.1 (by decide) rfl ?_
          obtain ⟨_, hE30, N31, rfl, hr32, hf33⟩ := ev_X1_copyFrom (E := E) (d := d) (by omega) hx.2.1 hx.2.2.1 (by omega) (show g_rG N27 (x + 14) ((P9, n9, q9, p9, cl9, tn9), (t9, bg9, en9, ca9), (gn9, pu9, mk9), H9) from ⟨tBN27, tHN27, tTN27⟩) hv9.1
          have nBN31 : g_rB N31 (x + 1 + 1) P9 n9 q9 p9 cl9 tn9 := hr32.1
          have nHN31 : g_rH N31 (x + 1 + 7) H9 := hr32.2.1
          have nTN31 : g_rT N31 (x + 1) t9 bg9 en9 ca9 gn9 pu9 mk9 := hr32.2.2
          have vN31 : g_vG ((P9, n9, q9, p9, cl9, tn9), (t9, bg9, en9, ca9), (gn9, pu9, mk9), H9) := hv9
          have wBN31 : g_wB P9 n9 q9 p9 cl9 tn9 := vN31.1.1
          have wHN31 : g_wH H9 := vN31.1.2.1
          have wSN31 : g_wS t9 bg9 en9 ca9 gn9 pu9 mk9 := vN31.1.2.2
          have z1N31 := wSN31.1
          have z2N31 := wSN31.2.1
          have z3N31 := wSN31.2.2.1
          have tBN31 := g_rB_fr tBN27 (N' := N31) (fun a z0 z1 => hf33 a (by omega))
          have tHN31 := g_rH_fr tHN27 (N' := N31) (fun a z0 z1 => hf33 a (by omega))
          have tTN31 := g_rT_fr tTN27 (N' := N31) (hf33 _ (by omega)) (hf33 _ (by omega)) (hf33 _ (by omega)) (hf33 _ (by omega))
          have hPN31 := g_rP_fr PN27 (N' := N31) (fun a z0 z1 => hf33 a (by omega))
          have hVN31 := g_rV_fr hVN27 (N' := N31) (congrFun (hf33 _ (by omega)) _) (fun a z0 z1 => hf33 a (by omega))
          have hFN31 := g_rF_fr hFN27 (N' := N31) (hf33 _ (by omega))
          have hTN31 := g_rTx_fr hTN27 (N' := N31) (congrFun (hf33 _ (by omega)) _) (hf33 _ (by omega))
          have hLN31 := g_rLn_fr hLN27 (N' := N31) (congrFun (hf33 _ (by omega)) _) (hf33 _ (by omega))
          have hMsN31 := g_rMs_fr hMsN27 (N' := N31) (congrFun (hf33 _ (by omega)) _) (hf33 _ (by omega)) (hf33 _ (by omega))
          have frN31 : ∀ a, ¬ (x ≤ a ∧ a < x + 152) → (N31) a = N a := fun a ha => (hf33 a (by omega)).trans (frN27 a ha)
          refine AR.callV [vA (x + 14)] hE30 hx.2.1.1 rfl rfl rfl rfl rfl ?_
          show AR E d _ (149, [some (vA x), some (vI R.1), some (vI k), z3, z4, z5], [], (C, N31)) _
          refine AR.blk 1 (f' := (150, [some (vA x), some (vI R.1), some (vI k), z3, z4, z5], [vA x], (C, N31))) (fun _ => rfl) ?_
          refine AR.getR rfl rfl hx.1 (by decide) rfl ?_
          refine AR.getI rfl rfl hx.2.2.2.2.2.1.1 (by decide) (v := (R.2.length : Int)) hMsN31.1 ?_
          refine AR.endI rfl (.inl rfl) ?_
          have e9 : o_read (((P, n, q, p, cl, tn), (t, bg, en, ca), (gn, pu, mk), H), U, V, F, (L, T), (l, ln)) = ((R.2.length : Int), (((P9, n9, q9, p9, cl9, tn9), (t9, bg9, en9, ca9), (gn9, pu9, mk9), H9), ((((P, n, q, p, cl, tn), (t, bg, en, ca), (gn, pu, mk), H) :: U).take 8), V, F9, (0, T), (l, ln))) := by unfold o_read m_psT; dsimp only; rw [hR, hrun, if_neg (show ¬ R.1 ≠ -1 by omega), if_neg (fun z => z rfl)]
          rw [e9]
          exact ⟨_, rfl, ⟨⟨nBN31, nHN31, nTN31⟩, hPN31, hVN31, hFN31, hTN31, hLN31⟩, frN31⟩
        · show AR E d _ (55, [some (vA x), some (vI R.1), some (vI k), z3, z4, z5], [], (C, N9)) _
          refine AR.blk 1 (f' := (56, [some (vA x), some (vI R.1), some (vI k), z3, z4, z5], [vA x], (C, N9))) (fun _ => rfl) ?_
          refine AR.getR rfl rfl hx.1 (by decide) rfl ?_
          refine AR.getR rfl rfl hx.2.2.2.2.2.1.1 (by decide) rfl ?_
          refine AR.blk 1 (f' := (63, [some (vA x), some (vI R.1), some (vI k), z3, z4, z5], [vI k, vA (x + 146 + 2)], (C, N9))) (fun _ => rfl) ?_
          have f34 := hk2 (by omega)
          refine AR.iald rfl hx.2.2.2.2.2.1.2.2.1 (by omega) (v := s1) (hk1 (by omega)).1 ?_
          refine AR.blk 2 (f' := (66, [some (vA x), some (vI R.1), some (vI k), some (vI s1), z4, z5], [vA x], (C, N9))) (fun _ => rfl) ?_
          refine AR.getR rfl rfl hx.1 (by decide) rfl ?_
          refine AR.getR rfl rfl hx.2.2.2.2.2.1.1 (by decide) rfl ?_
          refine AR.blk 1 (f' := (73, [some (vA x), some (vI R.1), some (vI k), some (vI s1), z4, z5], [vI k, vA (x + 146 + 3)], (C, N9))) (fun _ => rfl) ?_
          have f35 := hk3 (by omega)
          refine AR.iald rfl hx.2.2.2.2.2.1.2.2.2 (by omega) (v := y1) (hk1 (by omega)).2.1 ?_
          refine AR.blk 3 (f' := (78, [some (vA x), some (vI R.1), some (vI k), some (vI s1), some (vI y1), z5], [vA x, vA x], (C, N9))) (fun _ => rfl) ?_
          refine AR.getR rfl rfl hx.1 (by decide) rfl ?_
          refine AR.blk 3 (f' := (85, [some (vA x), some (vI R.1), some (vI k), some (vI s1), some (vI y1), z5], [vI k, vI y1, vI s1, vA (x + 14), vA x], (C, N9))) (fun _ => rfl) ?_
          obtain ⟨_, hE36, N37, rfl, hF38, hf39⟩ := ev_X6_moveError (E := E) (d := d) (by omega) hx hx.2.2.1 (by omega) tB tH tT hv9 hF9 s1 y1 k (by omega) (by omega)
          have FN37 : g_rF N37 (x + 150) (m_mvF ((P9, n9, q9, p9, cl9, tn9), (t9, bg9, en9, ca9), (gn9, pu9, mk9), H9) F9 s1 y1 k).2 := hF38
          have nBN37 := g_rB_fr nBN9 (N' := N37) (fun a z0 z1 => hf39 a (by omega))
          have nHN37 := g_rH_fr nHN9 (N' := N37) (fun a z0 z1 => hf39 a (by omega))
          have nTN37 := g_rT_fr nTN9 (N' := N37) (hf39 _ (by omega)) (hf39 _ (by omega)) (hf39 _ (by omega)) (hf39 _ (by omega))
          have tBN37 := g_rB_fr tB (N' := N37) (fun a z0 z1 => hf39 a (by omega))
          have tHN37 := g_rH_fr tH (N' := N37) (fun a z0 z1 => hf39 a (by omega))
          have tTN37 := g_rT_fr tT (N' := N37) (hf39 _ (by omega)) (hf39 _ (by omega)) (hf39 _ (by omega)) (hf39 _ (by omega))
          have hPN37 := g_rP_fr hPN9 (N' := N37) (fun a z0 z1 => hf39 a (by omega))
          have hVN37 := g_rV_fr hVN9 (N' := N37) (congrFun (hf39 _ (by omega)) _) (fun a z0 z1 => hf39 a (by omega))
          have hTN37 := g_rTx_fr hT9 (N' := N37) (congrFun (hf39 _ (by omega)) _) (hf39 _ (by omega))
          have hLN37 := g_rLn_fr hLN9 (N' := N37) (congrFun (hf39 _ (by omega)) _) (hf39 _ (by omega))
          have hMsN37 := g_rMs_fr hM9 (N' := N37) (congrFun (hf39 _ (by omega)) _) (hf39 _ (by omega)) (hf39 _ (by omega))
          have frN37 : ∀ a, ¬ (x ≤ a ∧ a < x + 152) → (N37) a = N a := fun a ha => (hf39 a (by omega)).trans (frN9 a ha)
          have f9N37 : ∀ a, ¬ (x + 14 ≤ a ∧ a < x + 27 ∨ x + 146 ≤ a ∧ a < x + 151) → (N37) a = N a := fun a ha => (hf39 a (by omega)).trans (qf a ha)
          refine AR.callV [vA (x + 14), vI s1, vI y1, vI k] hE36 hx.1 rfl rfl rfl rfl rfl ?_
          show AR E d _ (88, [some (vA x), some (vI R.1), some (vI k), some (vI s1), some (vI y1), z5], [vI ((m_mvF ((P9, n9, q9, p9, cl9, tn9), (t9, bg9, en9, ca9), (gn9, pu9, mk9), H9) F9 s1 y1 k).1)], (C, N37)) _
          have f40 := m_mvF_in ((P9, n9, q9, p9, cl9, tn9), (t9, bg9, en9, ca9), (gn9, pu9, mk9), H9) F9 s1 y1 k
          refine AR.blk 2 (f' := (92, [some (vA x), some (vI R.1), some (vI k), some (vI s1), some (vI y1), some (vI ((m_mvF ((P9, n9, q9, p9, cl9, tn9), (t9, bg9, en9, ca9), (gn9, pu9, mk9), H9) F9 s1 y1 k).1))], [vI ((m_mvF ((P9, n9, q9, p9, cl9, tn9), (t9, bg9, en9, ca9), (gn9, pu9, mk9), H9) F9 s1 y1 k).1)], (C, N37))) (fun _ => rfl) ?_
          refine AR.if_eq rfl (by omega) (fun c41 => ?_) (fun c41 => ?_)
          · show AR E d _ (110, [some (vA x), some (vI R.1), some (vI k), some (vI s1), some (vI y1), some (vI ((m_mvF ((P9, n9, q9, p9, cl9, tn9), (t9, bg9, en9, ca9), (gn9, pu9, mk9), H9) F9 s1 y1 k).1))], [], (C, N37)) _
            have F8 : g_rF N37 (x + 150) F9 := by have z := FN37; rw [(m_mvF_can hv9 (show (m_mvF ((P9, n9, q9, p9, cl9, tn9), (t9, bg9, en9, ca9), (gn9, pu9, mk9), H9) F9 s1 y1 k).1 = 0 by omega)).2] at z; exact z
            have hc := (m_mvF_can hv9 (show (m_mvF ((P9, n9, q9, p9, cl9, tn9), (t9, bg9, en9, ca9), (gn9, pu9, mk9), H9) F9 s1 y1 k).1 = 0 by omega)).1
            have hc2 := g_can_of hv9 hc
            have c1 : 0 ≤ s1 ∧ s1 < 36 := hc.1
            have c2 : 0 ≤ y1 ∧ y1 < 4 := hc.2.1
            have c3 : bg9 = 1 := hc.2.2.1
            have c4 : en9 = 0 := hc.2.2.2.1
            have c5 : 1 ≤ m_room s1 y1 := hc2.1
            have c6 : t9 ≤ 119 := hc2.2.2.1
            have c7 : H9.length ≤ 120 := hc2.2.2.2
            refine AR.blk 1 (f' := (111, [some (vA x), some (vI R.1), some (vI k), some (vI s1), some (vI y1), some (vI ((m_mvF ((P9, n9, q9, p9, cl9, tn9), (t9, bg9, en9, ca9), (gn9, pu9, mk9), H9) F9 s1 y1 k).1))], [vA x], (C, N37))) (fun _ => rfl) ?_
            refine AR.getR rfl rfl hx.1 (by decide) rfl ?_
            refine AR.blk 2 (f' := (117, [some (vA x), some (vI R.1), some (vI k), some (vI s1), some (vI y1), some (vI ((m_mvF ((P9, n9, q9, p9, cl9, tn9), (t9, bg9, en9, ca9), (gn9, pu9, mk9), H9) F9 s1 y1 k).1))], [vI y1, vI s1, vA (x + 14)], (C, N37))) (fun _ => rfl) ?_
            obtain ⟨_, hE42, N43, rfl, hr44, hf45⟩ := ev_X1_carryOut (E := E) (d := d) (by omega) hx.2.2.1 tBN37 tHN37 tTN37 wB9 wH9 (by omega) s1 y1 (by omega) (by omega) (by omega) (by omega) (by omega) (by omega)
            have tBN43 : g_rB N43 (x + 14 + 1) (m_gP P9 n9 q9 p9 cl9 tn9 t9 s1 y1) n9 q9 p9 (m_gcl P9 n9 q9 p9 cl9 tn9 t9 s1 y1) (m_gtn P9 n9 q9 p9 cl9 tn9 t9 s1 y1) := hr44.1
            have tHN43 : g_rH N43 (x + 14 + 7) (m_gH P9 n9 q9 p9 cl9 tn9 t9 s1 y1 H9) := hr44.2.1
            have tTN43 : g_rT N43 (x + 14) (t9 + 1) bg9 (m_stl (m_gP P9 n9 q9 p9 cl9 tn9 t9 s1 y1) n9 q9 (m_gcl P9 n9 q9 p9 cl9 tn9 t9 s1 y1) (t9 + 1) (m_gH P9 n9 q9 p9 cl9 tn9 t9 s1 y1 H9)) (m_gca P9 n9 q9 p9 cl9 tn9 t9 ca9 s1 y1) (m_ggn P9 gn9 s1 y1) (m_gpu P9 t9 pu9 s1 y1) (m_gmk P9 t9 mk9 s1 y1) := hr44.2.2
            have vN43 : g_vG ((m_gP P9 n9 q9 p9 cl9 tn9 t9 s1 y1, n9, q9, p9, m_gcl P9 n9 q9 p9 cl9 tn9 t9 s1 y1, m_gtn P9 n9 q9 p9 cl9 tn9 t9 s1 y1), (t9 + 1, bg9, m_stl (m_gP P9 n9 q9 p9 cl9 tn9 t9 s1 y1) n9 q9 (m_gcl P9 n9 q9 p9 cl9 tn9 t9 s1 y1) (t9 + 1) (m_gH P9 n9 q9 p9 cl9 tn9 t9 s1 y1 H9), m_gca P9 n9 q9 p9 cl9 tn9 t9 ca9 s1 y1), (m_ggn P9 gn9 s1 y1, m_gpu P9 t9 pu9 s1 y1, m_gmk P9 t9 mk9 s1 y1), m_gH P9 n9 q9 p9 cl9 tn9 t9 s1 y1 H9) := g_vG_go hv9 hc
            have wBN43 : g_wB (m_gP P9 n9 q9 p9 cl9 tn9 t9 s1 y1) n9 q9 p9 (m_gcl P9 n9 q9 p9 cl9 tn9 t9 s1 y1) (m_gtn P9 n9 q9 p9 cl9 tn9 t9 s1 y1) := vN43.1.1
            have wHN43 : g_wH (m_gH P9 n9 q9 p9 cl9 tn9 t9 s1 y1 H9) := vN43.1.2.1
            have wSN43 : g_wS (t9 + 1) bg9 (m_stl (m_gP P9 n9 q9 p9 cl9 tn9 t9 s1 y1) n9 q9 (m_gcl P9 n9 q9 p9 cl9 tn9 t9 s1 y1) (t9 + 1) (m_gH P9 n9 q9 p9 cl9 tn9 t9 s1 y1 H9)) (m_gca P9 n9 q9 p9 cl9 tn9 t9 ca9 s1 y1) (m_ggn P9 gn9 s1 y1) (m_gpu P9 t9 pu9 s1 y1) (m_gmk P9 t9 mk9 s1 y1) := vN43.1.2.2
            have z1N43 := wSN43.1
            have z2N43 := wSN43.2.1
            have z3N43 := wSN43.2.2.1
            have nBN43 := g_rB_fr nBN37 (N' := N43) (fun a z0 z1 => hf45 a (by omega))
            have nHN43 := g_rH_fr nHN37 (N' := N43) (fun a z0 z1 => hf45 a (by omega))
            have nTN43 := g_rT_fr nTN37 (N' := N43) (hf45 _ (by omega)) (hf45 _ (by omega)) (hf45 _ (by omega)) (hf45 _ (by omega))
            have hPN43 := g_rP_fr hPN37 (N' := N43) (fun a z0 z1 => hf45 a (by omega))
            have hVN43 := g_rV_fr hVN37 (N' := N43) (congrFun (hf45 _ (by omega)) _) (fun a z0 z1 => hf45 a (by omega))
            have hFN43 := g_rF_fr F8 (N' := N43) (hf45 _ (by omega))
            have hTN43 := g_rTx_fr hTN37 (N' := N43) (congrFun (hf45 _ (by omega)) _) (hf45 _ (by omega))
            have hLN43 := g_rLn_fr hLN37 (N' := N43) (congrFun (hf45 _ (by omega)) _) (hf45 _ (by omega))
            have hMsN43 := g_rMs_fr hMsN37 (N' := N43) (congrFun (hf45 _ (by omega)) _) (hf45 _ (by omega)) (hf45 _ (by omega))
            have frN43 : ∀ a, ¬ (x ≤ a ∧ a < x + 152) → (N43) a = N a := fun a ha => (hf45 a (by omega)).trans (frN37 a ha)
            have f9N43 : ∀ a, ¬ (x + 14 ≤ a ∧ a < x + 27 ∨ x + 146 ≤ a ∧ a < x + 151) → (N43) a = N a := fun a ha => (hf45 a (by omega)).trans (f9N37 a ha)
            refine AR.callV [vI s1, vI y1] hE42 hx.2.2.1.1 rfl rfl rfl rfl rfl ?_
            show AR E d _ (120, [some (vA x), some (vI R.1), some (vI k), some (vI s1), some (vI y1), some (vI ((m_mvF ((P9, n9, q9, p9, cl9, tn9), (t9, bg9, en9, ca9), (gn9, pu9, mk9), H9) F9 s1 y1 k).1))], [vI (m_stR (m_gP P9 n9 q9 p9 cl9 tn9 t9 s1 y1) n9 q9 (m_gcl P9 n9 q9 p9 cl9 tn9 t9 s1 y1) (t9 + 1) (m_gH P9 n9 q9 p9 cl9 tn9 t9 s1 y1 H9))], (C, N43)) _
            refine AR.blk 3 (f' := (38, [some (vA x), some (vI R.1), some (vI (k + 1)), some (vI s1), some (vI y1), some (vI ((m_mvF ((P9, n9, q9, p9, cl9, tn9), (t9, bg9, en9, ca9), (gn9, pu9, mk9), H9) F9 s1 y1 k).1))], [], (C, N43))) (fun _ => rfl) ?_
            exact ih38 _ _ _ _ (((m_gP P9 n9 q9 p9 cl9 tn9 t9 s1 y1, n9, q9, p9, m_gcl P9 n9 q9 p9 cl9 tn9 t9 s1 y1, m_gtn P9 n9 q9 p9 cl9 tn9 t9 s1 y1), (t9 + 1, bg9, m_stl (m_gP P9 n9 q9 p9 cl9 tn9 t9 s1 y1) n9 q9 (m_gcl P9 n9 q9 p9 cl9 tn9 t9 s1 y1) (t9 + 1) (m_gH P9 n9 q9 p9 cl9 tn9 t9 s1 y1 H9), m_gca P9 n9 q9 p9 cl9 tn9 t9 ca9 s1 y1), (m_ggn P9 gn9 s1 y1, m_gpu P9 t9 pu9 s1 y1, m_gmk P9 t9 mk9 s1 y1), m_gH P9 n9 q9 p9 cl9 tn9 t9 s1 y1 H9)) (F9) _ (by omega) (by omega) ((mr (by omega)).2 (by omega)) ⟨tBN43, tHN43, tTN43⟩ vN43 hFN43 hMsN43 hTN43.1 f9N43
          · show AR E d _ (95, [some (vA x), some (vI R.1), some (vI k), some (vI s1), some (vI y1), some (vI ((m_mvF ((P9, n9, q9, p9, cl9, tn9), (t9, bg9, en9, ca9), (gn9, pu9, mk9), H9) F9 s1 y1 k).1))], [], (C, N37)) _
            refine AR.blk 2 (f' := (99, [some (vA x), some (vI R.1), some (vI k), some (vI s1), some (vI y1), some (vI ((m_mvF ((P9, n9, q9, p9, cl9, tn9), (t9, bg9, en9, ca9), (gn9, pu9, mk9), H9) F9 s1 y1 k).1))], [vI (-3), vI ((m_mvF ((P9, n9, q9, p9, cl9, tn9), (t9, bg9, en9, ca9), (gn9, pu9, mk9), H9) F9 s1 y1 k).1)], (C, N37))) (fun _ => rfl) ?_
            refine AR.ic_ne rfl (by omega) (fun c46 => ?_) (fun c46 => ?_)
            · show AR E d _ (107, [some (vA x), some (vI R.1), some (vI k), some (vI s1), some (vI y1), some (vI ((m_mvF ((P9, n9, q9, p9, cl9, tn9), (t9, bg9, en9, ca9), (gn9, pu9, mk9), H9) F9 s1 y1 k).1))], [], (C, N37)) _
              refine AR.blk 1 (f' := (109, [some (vA x), some (vI R.1), some (vI k), some (vI s1), some (vI y1), some (vI ((m_mvF ((P9, n9, q9, p9, cl9, tn9), (t9, bg9, en9, ca9), (gn9, pu9, mk9), H9) F9 s1 y1 k).1))], [vI (-2)], (C, N37))) (fun _ => rfl) ?_
              refine AR.endI rfl (.inl rfl) ?_
              have hrun : m_run ((P, n, q, p, cl, tn), (t, bg, en, ca), (gn, pu, mk), H) F R.2 0 = ((m_mvF ((P9, n9, q9, p9, cl9, tn9), (t9, bg9, en9, ca9), (gn9, pu9, mk9), H9) F9 s1 y1 k).1, (m_mvF ((P9, n9, q9, p9, cl9, tn9), (t9, bg9, en9, ca9), (gn9, pu9, mk9), H9) F9 s1 y1 k).2, ((P9, n9, q9, p9, cl9, tn9), (t9, bg9, en9, ca9), (gn9, pu9, mk9), H9)) := (mr (by omega)).1 (by omega)
              have e9 : o_read (((P, n, q, p, cl, tn), (t, bg, en, ca), (gn, pu, mk), H), U, V, F, (L, T), (l, ln)) = ((-2), (((P, n, q, p, cl, tn), (t, bg, en, ca), (gn, pu, mk), H), U, V, (m_mvF ((P9, n9, q9, p9, cl9, tn9), (t9, bg9, en9, ca9), (gn9, pu9, mk9), H9) F9 s1 y1 k).2, (0, T), (l, ln))) := by unfold o_read m_psT; dsimp only; rw [hR, hrun, if_neg (show ¬ R.1 ≠ -1 by omega), if_pos (by (first | omega | (dsimp only; omega)))]; dsimp only; rw [if_neg (by omega)]
              rw [e9]
              exact ⟨_, rfl, ⟨⟨nBN37, nHN37, nTN37⟩, hPN37, hVN37, FN37, hTN37, hLN37⟩, frN37⟩
            · show AR E d _ (102, [some (vA x), some (vI R.1), some (vI k), some (vI s1), some (vI y1), some (vI ((m_mvF ((P9, n9, q9, p9, cl9, tn9), (t9, bg9, en9, ca9), (gn9, pu9, mk9), H9) F9 s1 y1 k).1))], [], (C, N37)) _
              refine AR.blk 2 (f' := (109, [some (vA x), some (vI R.1), some (vI k), some (vI s1), some (vI y1), some (vI ((m_mvF ((P9, n9, q9, p9, cl9, tn9), (t9, bg9, en9, ca9), (gn9, pu9, mk9), H9) F9 s1 y1 k).1))], [vI (-3)], (C, N37))) (fun _ => rfl) ?_
              refine AR.endI rfl (.inl rfl) ?_
              have hrun : m_run ((P, n, q, p, cl, tn), (t, bg, en, ca), (gn, pu, mk), H) F R.2 0 = ((m_mvF ((P9, n9, q9, p9, cl9, tn9), (t9, bg9, en9, ca9), (gn9, pu9, mk9), H9) F9 s1 y1 k).1, (m_mvF ((P9, n9, q9, p9, cl9, tn9), (t9, bg9, en9, ca9), (gn9, pu9, mk9), H9) F9 s1 y1 k).2, ((P9, n9, q9, p9, cl9, tn9), (t9, bg9, en9, ca9), (gn9, pu9, mk9), H9)) := (mr (by omega)).1 (by omega)
              have e9 : o_read (((P, n, q, p, cl, tn), (t, bg, en, ca), (gn, pu, mk), H), U, V, F, (L, T), (l, ln)) = ((-3), (((P, n, q, p, cl, tn), (t, bg, en, ca), (gn, pu, mk), H), U, V, (m_mvF ((P9, n9, q9, p9, cl9, tn9), (t9, bg9, en9, ca9), (gn9, pu9, mk9), H9) F9 s1 y1 k).2, (0, T), (l, ln))) := by unfold o_read m_psT; dsimp only; rw [hR, hrun, if_neg (show ¬ R.1 ≠ -1 by omega), if_pos (by (first | omega | (dsimp only; omega)))]; dsimp only; rw [if_pos (by omega)]
              rw [e9]
              exact ⟨_, rfl, ⟨⟨nBN37, nHN37, nTN37⟩, hPN37, hVN37, FN37, hTN37, hLN37⟩, frN37⟩
  · show AR E d _ (20, [some (vA x), some (vI R.1), none, none, none, none], [], (C, N7)) _
    refine AR.blk 3 (f' := (24, [some (vA x), some (vI R.1), none, none, none, none], [vI ((-100) - R.1)], (C, N7))) (fun _ => rfl) ?_
    refine AR.endI rfl (.inl rfl) ?_
    have e9 : o_read (((P, n, q, p, cl, tn), (t, bg, en, ca), (gn, pu, mk), H), U, V, F, (L, T), (l, ln)) = ((-100) - R.1, (((P, n, q, p, cl, tn), (t, bg, en, ca), (gn, pu, mk), H), U, V, F, (0, T), (l, ln))) := by unfold o_read m_psT; dsimp only; rw [hR, if_pos (show R.1 ≠ -1 by omega)]
    rw [e9]
    exact ⟨_, rfl, ⟨⟨nBN7, nHN7, nTN7⟩, hPN7, hVN7, hFN7, hTN7, hLN7⟩, frN7⟩
end L2E
