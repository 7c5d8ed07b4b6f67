/-! LEVEL 2: the class: describe, append, undo, save, restore, ways, read -/
theorem m_open_can {G : m_G} {m : Int} (hm : 0 ≤ m ∧ m < 144) (h : m_opG G m = 1) : g_can G (m / 4) (m % 4) := by
  unfold m_opG m_open m_on at h
  refine ⟨by omega, by omega, ?_, ?_, ?_, ?_⟩ <;> omega
theorem m_run_S {G : m_G} {F : m_F} {M M2 : List (Int × Int)} {s y k : Int} {R : Int × m_F × m_G} (hd : M = (s, y) :: M2) (h : m_run G F M k = R) : ((m_mvF G F s y k).1 ≠ 0 → R = ((m_mvF G F s y k).1, (m_mvF G F s y k).2, G)) ∧ ((m_mvF G F s y k).1 = 0 → m_run (m_go G s y) F M2 (k + 1) = R) := by
  subst hd
  have e : m_run G F ((s, y) :: M2) k = if (m_mvF G F s y k).1 ≠ 0 then ((m_mvF G F s y k).1, (m_mvF G F s y k).2, G) else m_run (m_go G s y) F M2 (k + 1) := rfl
  rw [e] at h
  refine ⟨fun z => ?_, fun z => ?_⟩
  · rw [if_pos z] at h; exact h.symm
  · rw [if_neg (fun q => q z)] at h; exact h
theorem m_ps_in0 (T : Int → Int) (L : Int) : ∀ (f : Nat) (i sq dg cm : Int) (M : List (Int × Int)), i + f = L → (cm = 0 ∨ cm = 1) → 0 ≤ dg ∧ dg ≤ 2 → (0 ≤ sq ∧ sq < 100) → (dg = 0 → sq = 0) → (dg = 1 → sq < 10) → 3 * (M.length : Int) + dg ≤ i + 2 * cm → (cm = 1 → 1 ≤ dg) → (∀ y, y ∈ M → (0 ≤ y.1 ∧ y.1 < 100) ∧ (0 ≤ y.2 ∧ y.2 < 4)) → 0 ≤ i → (-1 ≤ (m_ps T L f i sq dg cm M).1 ∧ (m_ps T L f i sq dg cm M).1 ≤ L) ∧ 3 * ((m_ps T L f i sq dg cm M).2.length : Int) ≤ L + 1 ∧ ∀ y, y ∈ (m_ps T L f i sq dg cm M).2 → (0 ≤ y.1 ∧ y.1 < 100) ∧ (0 ≤ y.2 ∧ y.2 < 4) := by
  intro f
  induction f with
  | zero =>
    intro i sq dg cm M a1 a2 a3 a4 a5 a6 a7 a8 a9 a10
    refine ⟨?_, ?_, a9⟩
    · show -1 ≤ (if cm = 1 then -1 else L) ∧ (if cm = 1 then -1 else L) ≤ L
      omega
    · show 3 * (M.length : Int) ≤ L + 1
      omega
  | succ f ih =>
    intro i sq dg cm M a1 a2 a3 a4 a5 a6 a7 a8 a9 a10
    unfold m_ps
    by_cases e1 : cm = 1 ∧ T i = 59
    · rw [if_pos e1]
      have b8 := a8 e1.1
      have b1 := e1.1
      clear a8 a5 a6 a2 e1
      exact ih _ _ _ _ _ (by omega) (.inl rfl) (by decide) (by decide) (fun _ => rfl) (fun z => by cases z) (by omega) (fun z => by cases z) a9 (by omega)
    rw [if_neg e1]
    by_cases e2 : cm ≠ 1 ∧ dg < 2 ∧ 48 ≤ T i ∧ T i ≤ 57
    · rw [if_pos e2]
      obtain ⟨c1, c2, c3, c4⟩ := e2
      have b1 : cm = 0 := a2.resolve_right c1
      clear a8 a2 e1 c1
      subst b1
      by_cases z : dg = 0
      · have z2 := a5 z
        clear a5 a6
        subst z
        subst z2
        exact ih _ _ _ _ _ (by omega) (.inl rfl) (by decide) (by omega) (fun z => by omega) (fun _ => by omega) (by omega) (fun z => by cases z) a9 (by omega)
      · have z1 : dg = 1 := by omega
        have z2 := a6 z1
        clear a5 a6
        subst z1
        exact ih _ _ _ _ _ (by omega) (.inl rfl) (by decide) (by omega) (fun z => by omega) (fun z => by omega) (by omega) (fun z => by cases z) a9 (by omega)
    rw [if_neg e2]
    by_cases e3 : cm ≠ 1 ∧ 0 < dg ∧ m_dir (T i) ≠ -1
    · rw [if_pos e3]
      obtain ⟨c1, c2, c3⟩ := e3
      have b1 : cm = 0 := a2.resolve_right c1
      clear a8 a2 e1 e2 c1
      subst b1
      have hd := m_dir_in (T i)
      refine ih _ _ _ _ _ (by omega) (.inr rfl) a3 a4 a5 a6 ?_ (fun _ => by omega) ?_ (by omega)
      · rw [List.length_append]
        show 3 * ((M.length + 1 : Nat) : Int) + dg ≤ i + 1 + 2 * 1
        clear a5 a6
        omega
      · intro y hy
        rcases List.mem_append.1 hy with e | e
        · exact a9 y e
        · rcases List.mem_cons.1 e with e | e
          · rw [e]
            refine ⟨a4, ?_⟩
            show 0 ≤ m_dir (T i) ∧ m_dir (T i) < 4
            clear a5 a6
            omega
          · cases e
    · rw [if_neg e3]
      clear e1 e2 e3 a5 a6
      refine ⟨?_, ?_, a9⟩
      · show -1 ≤ i ∧ i ≤ L
        clear a8
        omega
      · show 3 * (M.length : Int) ≤ L + 1
        rcases a2 with z | z
        · subst z
          clear a8
          omega
        · have z2 := a8 z
          clear a8
          subst z
          omega
theorem m_ps_in (T : Int → Int) (L : Int) (hL : 0 ≤ L ∧ L ≤ 70) : (-1 ≤ (m_ps T L L.toNat 0 0 0 0 []).1 ∧ (m_ps T L L.toNat 0 0 0 0 []).1 ≤ L) ∧ 3 * ((m_ps T L L.toNat 0 0 0 0 []).2.length : Int) ≤ L + 1 ∧ ∀ y, y ∈ (m_ps T L L.toNat 0 0 0 0 []).2 → (0 ≤ y.1 ∧ y.1 < 100) ∧ (0 ≤ y.2 ∧ y.2 < 4) :=
  m_ps_in0 T L L.toNat 0 0 0 0 [] (by omega) (by omega) (by omega) (by omega) (by omega) (by omega) (by show 3 * ((0 : Nat) : Int) + 0 ≤ 0 + 2 * 0; omega) (by omega) (fun y hy => by cases hy) (by omega)
theorem g_rMs_at {N : Nat → Int → Int} {x : Nat} {M : List (Int × Int)} (h : g_rMs N x M) (hM : ∀ y, y ∈ M → (0 ≤ y.1 ∧ y.1 < 100) ∧ (0 ≤ y.2 ∧ y.2 < 4)) (k : Int) : ∃ s y, 0 ≤ k ∧ k < M.length → N (x + 2) k = s ∧ N (x + 3) k = y ∧ (0 ≤ s ∧ s < 100) ∧ (0 ≤ y ∧ y < 4) ∧ M.drop k.toNat = (s, y) :: M.drop (k + 1).toNat := by
  by_cases q : 0 ≤ k ∧ k < M.length
  · have h1 : k.toNat < M.length := by omega
    have h2 := h.2 k.toNat _ (List.getElem?_eq_getElem h1)
    rw [show ((k.toNat : Nat) : Int) = k by omega] at h2
    have h3 := hM _ (List.getElem_mem h1)
    refine ⟨_, _, fun _ => ⟨h2.1, h2.2, h3.1, h3.2, ?_⟩⟩
    rw [show (k + 1).toNat = k.toNat + 1 by omega]
    exact List.drop_eq_getElem_cons h1
  · exact ⟨0, 0, fun z => absurd z q⟩
section L2C
variable {E : Nat × (Int → Int)} {C : List ag_C} {N : Nat → Int → Int} {x : Nat} {p : Nat} {U : List m_G} {g : Nat}
theorem ev_X4_bringBack0 {d : Nat} (hd : 3 ≤ d) (hp : g_isP C p) (hr : g_rP N p []) (hg : g_isG C g) (hd2 : g + 13 ≤ p ∨ p + 106 ≤ g) : Ev E d 54 [vA p, vA g] (C, N) (some (vI 0), (C, N)) := by
  obtain ⟨o, h1, h2⟩ := ev_X4_bringBack (E := E) hd hp hr (fun G h => by cases h) hg hd2
  rcases h2 with ⟨-, rfl⟩ | ⟨G, N2, h3, -⟩
  · exact h1
  · cases h3
theorem ev_X4_bringBack1 {d : Nat} (hd : 3 ≤ d) (hp : g_isP C p) {G : m_G} (hr : g_rP N p (G :: U)) (hwU : ∀ G', G' ∈ G :: U → g_wG G') (hg : g_isG C g) (hd2 : g + 13 ≤ p ∨ p + 106 ≤ g) : ∃ o, Ev E d 54 [vA p, vA g] (C, N) o ∧ ∃ N', o = (some (vI 1), (C, N')) ∧ g_rG N' g G ∧ g_rP N' p U ∧ ∀ a, ¬ (p ≤ a ∧ a < p + 106 ∨ g ≤ a ∧ a < g + 13) → N' a = N a := by
  obtain ⟨o, h1, h2⟩ := ev_X4_bringBack (E := E) hd hp hr hwU hg hd2
  rcases h2 with ⟨h3, -⟩ | ⟨G2, N2, h3, h4, h5, h6, h7⟩
  · cases h3
  · cases h3
    exact ⟨o, h1, N2, h4, h5, h6, fun a ha => h7 a (fun z => ha (.inl z)) (fun z => ha (.inr z))⟩

theorem ev_X6_describe {d : Nat} (hd : 4 ≤ d) {G : m_G} {U : List m_G} {V : Option m_G} {F : m_F} {L : Int} {T : Int → Int} {l : Int} {ln : Int → Int} (hx : g_isX C x) (hX : g_rX N x (G, U, V, F, (L, T), (l, ln))) (hS : g_vS (G, U, V, F, (L, T), (l, ln))) (r : Int) (h0 : ag_in r) : ∃ o_, Ev E d 77 [vA x, vI r] (C, N) o_ ∧ g_QX C N x (o_desc (G, U, V, F, (L, T), (l, ln)) r) o_ := by
  obtain ⟨d, rfl⟩ : ∃ j, d = j + 1 := ⟨d - 1, by omega⟩
  obtain ⟨⟨P, n, q, p, cl, tn⟩, ⟨t, bg, en, ca⟩, ⟨gn, pu, mk⟩, H⟩ := G
  have hrB : g_rB N (x + 1 + 1) P n q p cl tn := hX.1.1
  have hrH : g_rH N (x + 1 + 7) H := hX.1.2.1
  have hrT : g_rT N (x + 1) t bg en ca gn pu mk := hX.1.2.2
  have hP : g_rP N (x + 40) U := hX.2.1
  have hV : g_rV N x V := hX.2.2.1
  have hF : g_rF N (x + 150) F := hX.2.2.2.1
  have hT : g_rTx N (x + 146) L T := hX.2.2.2.2.1
  have hL : g_rLn N x l ln := hX.2.2.2.2.2
  have hvG : g_vG ((P, n, q, p, cl, tn), (t, bg, en, ca), (gn, pu, mk), H) := hS.1
  have hwB : g_wB P n q p cl tn := hvG.1.1
  have hwH : g_wH H := hvG.1.2.1
  have hwS : g_wS t bg en ca gn pu mk := hvG.1.2.2
  have hwL : 0 ≤ L ∧ L ≤ 70 := hS.2.2.2.1
  have hwl : 0 ≤ l ∧ l ≤ 6 := hS.2.2.2.2.2
  have s1 := hwS.1
  have s2 := hwS.2.1
  have s3 := hwS.2.2.1
  have s4 := hwS.2.2.2.1
  have s6 := hwS.2.2.2.2.2
  have s7 : bg = 0 → H.length = 0 := fun e => by have z : H = [] := (hvG.2.1 e).1; rw [z]; rfl
  have s8 := g_rP_l hP
  refine Ev.introQ (M := ag_mX6_describe) rfl rfl ?_
  show AR E d _ (0, [some (vA x), some (vI r), none], [], (C, N)) _
  refine AR.blk 1 (f' := (1, [some (vA x), some (vI r), none], [vI r], (C, N))) (fun _ => rfl) ?_
  refine AR.if_lt rfl (by omega) (fun c1 => ?_) (fun c1 => ?_)
  · show AR E d _ (10, [some (vA x), some (vI r), none], [], (C, N)) _
    refine AR.blk 1 (f' := (11, [some (vA x), some (vI r), none], [vI (-1)], (C, N))) (fun _ => rfl) ?_
    refine AR.endI rfl (.inl rfl) ?_
    have e9 : o_desc (((P, n, q, p, cl, tn), (t, bg, en, ca), (gn, pu, mk), H), U, V, F, (L, T), (l, ln)) r = ((-1), (((P, n, q, p, cl, tn), (t, bg, en, ca), (gn, pu, mk), H), U, V, F, (L, T), (l, ln))) := by unfold o_desc <;> (try dsimp only) <;> (repeat (first | rw [if_pos (by omega)] | rw [if_neg (by omega)])) <;> rfl
    rw [e9]
    exact ⟨_, rfl, ⟨⟨hrB, hrH, hrT⟩, hP, hV, hF, hT, hL⟩, (fun _ _ => rfl)⟩
  · show AR E d _ (4, [some (vA x), some (vI r), none], [], (C, N)) _
    refine AR.blk 2 (f' := (7, [some (vA x), some (vI r), none], [vI 6, vI r], (C, N))) (fun _ => rfl) ?_
    refine AR.ic_lt rfl (by omega) (fun c2 => ?_) (fun c2 => ?_)
    · show AR E d _ (12, [some (vA x), some (vI r), none], [], (C, N)) _
      refine AR.blk 2 (f' := (14, [some (vA x), some (vI r), some (vI 0)], [], (C, N))) (fun _ => rfl) ?_
      suffices H14 : ∀ (j : Nat) (k : Int) (N9 : Nat → Int → Int), (6 - k).toNat < j → (0 ≤ k ∧ k ≤ 6) → (∀ a, a ≠ x + 151 → N9 a = N a) → (∀ j, 0 ≤ j → j < k → N9 (x + 151) j = m_sign P n q cl (r * 6 + j)) → AR E d ag_mX6_describe (14, [some (vA x), some (vI r), some (vI k)], [], (C, N9)) (g_QX C N x (o_desc (((P, n, q, p, cl, tn), (t, bg, en, ca), (gn, pu, mk), H), U, V, F, (L, T), (l, ln)) r)) by
        exact H14 _ _ _ (Nat.lt_succ_self _) (by omega) (fun _ _ => rfl) (fun j z0 z1 => by omega)
      intro j
      induction j with
      | zero => intro k N9 hj; exact absurd hj (Nat.not_lt_zero _)
      | succ j ih14 =>
        intro k N9 hj14 i0 hf9 hl9
        have nBN9 := g_rB_fr hrB (N' := N9) (fun a z0 z1 => hf9 a (by omega))
        have nHN9 := g_rH_fr hrH (N' := N9) (fun a z0 z1 => hf9 a (by omega))
        have nTN9 := g_rT_fr hrT (N' := N9) (hf9 _ (by omega)) (hf9 _ (by omega)) (hf9 _ (by omega)) (hf9 _ (by omega))
        have hPN9 := g_rP_fr hP (N' := N9) (fun a z0 z1 => hf9 a (by omega))
        have hVN9 := g_rV_fr hV (N' := N9) (congrFun (hf9 _ (by omega)) _) (fun a z0 z1 => hf9 a (by omega))
        have hFN9 := g_rF_fr hF (N' := N9) (hf9 _ (by omega))
        have hTN9 := g_rTx_fr hT (N' := N9) (congrFun (hf9 _ (by omega)) _) (hf9 _ (by omega))
        have frN9 : ∀ a, ¬ (x ≤ a ∧ a < x + 152) → (N9) a = N a := fun a ha => (hf9 a (by omega)).trans ((fun _ _ => rfl) a ha)
        refine AR.blk 2 (f' := (17, [some (vA x), some (vI r), some (vI k)], [vI 6, vI k], (C, N9))) (fun _ => rfl) ?_
        refine AR.ic_ge rfl (by omega) (fun c3 => ?_) (fun c3 => ?_)
        · show AR E d _ (48, [some (vA x), some (vI r), some (vI k)], [], (C, N9)) _
          refine AR.blk 2 (f' := (51, [some (vA x), some (vI r), some (vI k)], [vI 6, vA x], (C, N9))) (fun _ => rfl) ?_
          refine AR.putI rfl rfl hx.1 (by decide) (fun q => absurd q (by decide)) ?_
          show AR E d _ (54, [some (vA x), some (vI r), some (vI k)], [], (C, ag_upd N9 x 8 6)) _
          have wN5 : ∀ a, a ≠ x → (ag_upd N9 x 8 6) a = N9 a := fun a ha => ag_upd_ne ha
          have nBN5 := g_rB_fr nBN9 (N' := ag_upd N9 x 8 6) (fun a z0 z1 => wN5 a (by omega))
          have nHN5 := g_rH_fr nHN9 (N' := ag_upd N9 x 8 6) (fun a z0 z1 => wN5 a (by omega))
          have nTN5 := g_rT_fr nTN9 (N' := ag_upd N9 x 8 6) (wN5 _ (by omega)) (wN5 _ (by omega)) (wN5 _ (by omega)) (wN5 _ (by omega))
          have hPN5 := g_rP_fr hPN9 (N' := ag_upd N9 x 8 6) (fun a z0 z1 => wN5 a (by omega))
          have hFN5 := g_rF_fr hFN9 (N' := ag_upd N9 x 8 6) (wN5 _ (by omega))
          have hTN5 := g_rTx_fr hTN9 (N' := ag_upd N9 x 8 6) (congrFun (wN5 _ (by omega)) _) (wN5 _ (by omega))
          have frN5 : ∀ a, ¬ (x ≤ a ∧ a < x + 152) → (ag_upd N9 x 8 6) a = N a := fun a ha => (wN5 a (by omega)).trans (frN9 a ha)
          have VN5 := g_rV_fr hVN9 (N' := ag_upd N9 x 8 6) (ag_upd_nk (by omega)) (fun a z0 z1 => wN5 a (by omega))
          have LN5 : g_rLn (ag_upd N9 x 8 6) x 6 (fun j => m_sign P n q cl (r * 6 + j)) := ⟨ag_upd_eq, fun j z0 z1 => (congrFun (wN5 _ (by omega)) j).trans (hl9 j z0 (by omega))⟩
          generalize ag_upd N9 x 8 6 = N5 at *
          refine AR.blk 1 (f' := (55, [some (vA x), some (vI r), some (vI k)], [vA x], (C, N5))) (fun _ => rfl) ?_
          refine AR.getI rfl rfl hx.1 (by decide) (v := 6) LN5.1 ?_
          refine AR.endI rfl (.inl rfl) ?_
          have e9 : o_desc (((P, n, q, p, cl, tn), (t, bg, en, ca), (gn, pu, mk), H), U, V, F, (L, T), (l, ln)) r = (6, (((P, n, q, p, cl, tn), (t, bg, en, ca), (gn, pu, mk), H), U, V, F, (L, T), (6, (fun j => m_sign P n q cl (r * 6 + j))))) := by unfold o_desc <;> (try dsimp only) <;> (repeat (first | rw [if_pos (by omega)] | rw [if_neg (by omega)])) <;> rfl
          rw [e9]
          exact ⟨_, rfl, ⟨⟨nBN5, nHN5, nTN5⟩, hPN5, VN5, hFN5, hTN5, LN5⟩, frN5⟩
        · show AR E d _ (20, [some (vA x), some (vI r), some (vI k)], [], (C, N9)) _
          refine AR.blk 1 (f' := (21, [some (vA x), some (vI r), some (vI k)], [vA x], (C, N9))) (fun _ => rfl) ?_
          refine AR.getR rfl rfl hx.1 (by decide) rfl ?_
          refine AR.blk 2 (f' := (26, [some (vA x), some (vI r), some (vI k)], [vA x, vI k, vA (x + 151)], (C, N9))) (fun _ => rfl) ?_
          refine AR.getR rfl rfl hx.1 (by decide) rfl ?_
          refine AR.getR rfl rfl hx.2.1.1 (by decide) rfl ?_
          refine AR.blk 5 (f' := (38, [some (vA x), some (vI r), some (vI k)], [vI ((r * 6) + k), vA (x + 1 + 1), vI k, vA (x + 151)], (C, N9))) (fun _ => rfl) ?_
          refine AR.callV [vI ((r * 6) + k)] (ev_X0_signOf (by omega) hx.2.1.2.1 nBN9 hwB ((r * 6) + k) (by omega)) hx.2.1.2.1.1 rfl rfl rfl rfl rfl ?_
          show AR E d _ (41, [some (vA x), some (vI r), some (vI k)], [vI (m_sign P n q cl ((r * 6) + k)), vI k, vA (x + 151)], (C, N9)) _
          refine AR.iast rfl hx.2.2.2.2.2.2.2 (by omega) ?_
          show AR E d _ (42, [some (vA x), some (vI r), some (vI k)], [], (C, ag_upd N9 (x + 151) k (m_sign P n q cl ((r * 6) + k)))) _
          have qN7 : ∀ a, a ≠ x + 151 → (ag_upd N9 (x + 151) k (m_sign P n q cl ((r * 6) + k))) a = N a := fun a ha => (ag_upd_ne ha).trans (hf9 a ha)
          have lN7 : ∀ j, 0 ≤ j → j < k + 1 → (ag_upd N9 (x + 151) k (m_sign P n q cl ((r * 6) + k))) (x + 151) j = m_sign P n q cl (r * 6 + j) := g_up1 (P := fun j => m_sign P n q cl (r * 6 + j)) hl9
          generalize ag_upd N9 (x + 151) k (m_sign P n q cl ((r * 6) + k)) = N7 at *
          refine AR.blk 2 (f' := (14, [some (vA x), some (vI r), some (vI (k + 1))], [], (C, N7))) (fun _ => rfl) ?_
          exact ih14 _ _ (by omega) (by omega) qN7 lN7
    · show AR E d _ (10, [some (vA x), some (vI r), none], [], (C, N)) _
      refine AR.blk 1 (f' := (11, [some (vA x), some (vI r), none], [vI (-1)], (C, N))) (fun _ => rfl) ?_
      refine AR.endI rfl (.inl rfl) ?_
      have e9 : o_desc (((P, n, q, p, cl, tn), (t, bg, en, ca), (gn, pu, mk), H), U, V, F, (L, T), (l, ln)) r = ((-1), (((P, n, q, p, cl, tn), (t, bg, en, ca), (gn, pu, mk), H), U, V, F, (L, T), (l, ln))) := by unfold o_desc <;> (try dsimp only) <;> (repeat (first | rw [if_pos (by omega)] | rw [if_neg (by omega)])) <;> rfl
      rw [e9]
      exact ⟨_, rfl, ⟨⟨hrB, hrH, hrT⟩, hP, hV, hF, hT, hL⟩, (fun _ _ => rfl)⟩

theorem ev_X6_append0 {d : Nat} (hd : 2 ≤ d) {G : m_G} {U : List m_G} {V : Option m_G} {F : m_F} {L : Int} {T : Int → Int} {l : Int} {ln : Int → Int} (hx : g_isX C x) (hX : g_rX N x (G, U, V, F, (L, T), (l, ln))) (hS : g_vS (G, U, V, F, (L, T), (l, ln))) (c : Int) (h0 : ag_in c) (h1 : ¬ (32 ≤ c ∧ c ≤ 126 ∧ L < 70)) : ∃ o_, Ev E d 79 [vA x, vI c] (C, N) o_ ∧ g_QX C N x (o_app (G, U, V, F, (L, T), (l, ln)) c) o_ := by
  obtain ⟨d, rfl⟩ : ∃ j, d = j + 1 := ⟨d - 1, by omega⟩
  obtain ⟨⟨P, n, q, p, cl, tn⟩, ⟨t, bg, en, ca⟩, ⟨gn, pu, mk⟩, H⟩ := G
  have hrB : g_rB N (x + 1 + 1) P n q p cl tn := hX.1.1
  have hrH : g_rH N (x + 1 + 7) H := hX.1.2.1
  have hrT : g_rT N (x + 1) t bg en ca gn pu mk := hX.1.2.2
  have hP : g_rP N (x + 40) U := hX.2.1
  have hV : g_rV N x V := hX.2.2.1
  have hF : g_rF N (x + 150) F := hX.2.2.2.1
  have hT : g_rTx N (x + 146) L T := hX.2.2.2.2.1
  have hL : g_rLn N x l ln := hX.2.2.2.2.2
  have hvG : g_vG ((P, n, q, p, cl, tn), (t, bg, en, ca), (gn, pu, mk), H) := hS.1
  have hwB : g_wB P n q p cl tn := hvG.1.1
  have hwH : g_wH H := hvG.1.2.1
  have hwS : g_wS t bg en ca gn pu mk := hvG.1.2.2
  have hwL : 0 ≤ L ∧ L ≤ 70 := hS.2.2.2.1
  have hwl : 0 ≤ l ∧ l ≤ 6 := hS.2.2.2.2.2
  have s1 := hwS.1
  have s2 := hwS.2.1
  have s3 := hwS.2.2.1
  have s4 := hwS.2.2.2.1
  have s6 := hwS.2.2.2.2.2
  have s7 : bg = 0 → H.length = 0 := fun e => by have z : H = [] := (hvG.2.1 e).1; rw [z]; rfl
  have s8 := g_rP_l hP
  refine Ev.introQ (M := ag_mX6_append) rfl rfl ?_
  show AR E d _ (0, [some (vA x), some (vI c)], [], (C, N)) _
  refine AR.blk 1 (f' := (1, [some (vA x), some (vI c)], [vA x], (C, N))) (fun _ => rfl) ?_
  refine AR.getR rfl rfl hx.1 (by decide) rfl ?_
  refine AR.blk 1 (f' := (5, [some (vA x), some (vI c)], [vI c, vA (x + 146)], (C, N))) (fun _ => rfl) ?_
  refine AR.callV [vI c] (ev_X3_addCharacter0 (by omega) hx.2.2.2.2.2.1 hT.1 (by omega) c (by omega) (by omega)) hx.2.2.2.2.2.1.1 rfl rfl rfl rfl rfl ?_
  show AR E d _ (8, [some (vA x), some (vI c)], [vI 0], (C, N)) _
  refine AR.blk 2 (f' := (23, [some (vA x), some (vI c)], [vI (-2)], (C, N))) (fun _ => rfl) ?_
  refine AR.endI rfl (.inl rfl) ?_
  have e9 : o_app (((P, n, q, p, cl, tn), (t, bg, en, ca), (gn, pu, mk), H), U, V, F, (L, T), (l, ln)) c = ((-2), (((P, n, q, p, cl, tn), (t, bg, en, ca), (gn, pu, mk), H), U, V, F, (L, T), (l, ln))) := by unfold o_app <;> (try dsimp only) <;> (repeat (first | rw [if_pos (by omega)] | rw [if_neg (by omega)])) <;> rfl
  rw [e9]
  exact ⟨_, rfl, ⟨⟨hrB, hrH, hrT⟩, hP, hV, hF, hT, hL⟩, (fun _ _ => rfl)⟩

theorem m_app1 {N : Nat → Int → Int} {a : Nat} {L c j : Int} {T : Int → Int} (h : j ≠ L → N a j = T j) : ag_upd N a L c a j = m_set T L c j := by
  unfold m_set
  by_cases e : j = L
  · subst e; rw [if_pos rfl]; exact ag_upd_eq
  · rw [if_neg e]; exact (ag_upd_nk e).trans (h e)

theorem ev_X6_append1 {d : Nat} (hd : 2 ≤ d) {G : m_G} {U : List m_G} {V : Option m_G} {F : m_F} {L : Int} {T : Int → Int} {l : Int} {ln : Int → Int} (hx : g_isX C x) (hX : g_rX N x (G, U, V, F, (L, T), (l, ln))) (hS : g_vS (G, U, V, F, (L, T), (l, ln))) (c : Int) (h0 : ag_in c) (h1 : 32 ≤ c ∧ c ≤ 126 ∧ L < 70) : ∃ o_, Ev E d 79 [vA x, vI c] (C, N) o_ ∧ g_QX C N x (o_app (G, U, V, F, (L, T), (l, ln)) c) o_ := by
  obtain ⟨d, rfl⟩ : ∃ j, d = j + 1 := ⟨d - 1, by omega⟩
  obtain ⟨⟨P, n, q, p, cl, tn⟩, ⟨t, bg, en, ca⟩, ⟨gn, pu, mk⟩, H⟩ := G
  have hrB : g_rB N (x + 1 + 1) P n q p cl tn := hX.1.1
  have hrH : g_rH N (x + 1 + 7) H := hX.1.2.1
  have hrT : g_rT N (x + 1) t bg en ca gn pu mk := hX.1.2.2
  have hP : g_rP N (x + 40) U := hX.2.1
  have hV : g_rV N x V := hX.2.2.1
  have hF : g_rF N (x + 150) F := hX.2.2.2.1
  have hT : g_rTx N (x + 146) L T := hX.2.2.2.2.1
  have hL : g_rLn N x l ln := hX.2.2.2.2.2
  have hvG : g_vG ((P, n, q, p, cl, tn), (t, bg, en, ca), (gn, pu, mk), H) := hS.1
  have hwB : g_wB P n q p cl tn := hvG.1.1
  have hwH : g_wH H := hvG.1.2.1
  have hwS : g_wS t bg en ca gn pu mk := hvG.1.2.2
  have hwL : 0 ≤ L ∧ L ≤ 70 := hS.2.2.2.1
  have hwl : 0 ≤ l ∧ l ≤ 6 := hS.2.2.2.2.2
  have s1 := hwS.1
  have s2 := hwS.2.1
  have s3 := hwS.2.2.1
  have s4 := hwS.2.2.2.1
  have s6 := hwS.2.2.2.2.2
  have s7 : bg = 0 → H.length = 0 := fun e => by have z : H = [] := (hvG.2.1 e).1; rw [z]; rfl
  have s8 := g_rP_l hP
  refine Ev.introQ (M := ag_mX6_append) rfl rfl ?_
  show AR E d _ (0, [some (vA x), some (vI c)], [], (C, N)) _
  refine AR.blk 1 (f' := (1, [some (vA x), some (vI c)], [vA x], (C, N))) (fun _ => rfl) ?_
  refine AR.getR rfl rfl hx.1 (by decide) rfl ?_
  refine AR.blk 1 (f' := (5, [some (vA x), some (vI c)], [vI c, vA (x + 146)], (C, N))) (fun _ => rfl) ?_
  refine AR.callV [vI c] (ev_X3_addCharacter1 (by omega) hx.2.2.2.2.2.1 hT.1 (by omega) c (by omega) (by omega)) hx.2.2.2.2.2.1.1 rfl rfl rfl rfl rfl ?_
  show AR E d _ (8, [some (vA x), some (vI c)], [vI 1], (C, ag_upd (ag_upd N (x + 146 + 1) L c) (x + 146) 0 (L + 1))) _
  refine AR.blk 2 (f' := (12, [some (vA x), some (vI c)], [vA x], (C, ag_upd (ag_upd N (x + 146 + 1) L c) (x + 146) 0 (L + 1)))) (fun _ => rfl) ?_
  refine AR.getR rfl rfl hx.1 (by decide) rfl ?_
  refine AR.getI rfl rfl hx.2.2.2.2.2.1.1 (by decide) (v := L + 1) ag_upd_eq ?_
  refine AR.blk 1 (f' := (23, [some (vA x), some (vI c)], [vI (L + 1)], (C, ag_upd (ag_upd N (x + 146 + 1) L c) (x + 146) 0 (L + 1)))) (fun _ => rfl) ?_
  have hf9 : ∀ a, ¬ (a = x + 146 ∨ a = x + 147) → (ag_upd (ag_upd N (x + 146 + 1) L c) (x + 146) 0 (L + 1)) a = N a := fun a ha => (ag_upd_ne (by omega)).trans (ag_upd_ne (by omega))
  have hT9 : g_rTx (ag_upd (ag_upd N (x + 146 + 1) L c) (x + 146) 0 (L + 1)) (x + 146) (L + 1) (m_set T L c) := ⟨ag_upd_eq, fun j z0 z1 => (congrFun (ag_upd_ne (by omega)) j).trans (m_app1 (fun q => hT.2 j z0 (by omega)))⟩
  have nBN9 := g_rB_fr hrB (N' := ag_upd (ag_upd N (x + 146 + 1) L c) (x + 146) 0 (L + 1)) (fun a z0 z1 => hf9 a (by omega))
  have nHN9 := g_rH_fr hrH (N' := ag_upd (ag_upd N (x + 146 + 1) L c) (x + 146) 0 (L + 1)) (fun a z0 z1 => hf9 a (by omega))
  have nTN9 := g_rT_fr hrT (N' := ag_upd (ag_upd N (x + 146 + 1) L c) (x + 146) 0 (L + 1)) (hf9 _ (by omega)) (hf9 _ (by omega)) (hf9 _ (by omega)) (hf9 _ (by omega))
  have hPN9 := g_rP_fr hP (N' := ag_upd (ag_upd N (x + 146 + 1) L c) (x + 146) 0 (L + 1)) (fun a z0 z1 => hf9 a (by omega))
  have hVN9 := g_rV_fr hV (N' := ag_upd (ag_upd N (x + 146 + 1) L c) (x + 146) 0 (L + 1)) (congrFun (hf9 _ (by omega)) _) (fun a z0 z1 => hf9 a (by omega))
  have hFN9 := g_rF_fr hF (N' := ag_upd (ag_upd N (x + 146 + 1) L c) (x + 146) 0 (L + 1)) (hf9 _ (by omega))
  have hLN9 := g_rLn_fr hL (N' := ag_upd (ag_upd N (x + 146 + 1) L c) (x + 146) 0 (L + 1)) (congrFun (hf9 _ (by omega)) _) (hf9 _ (by omega))
  have frN9 : ∀ a, ¬ (x ≤ a ∧ a < x + 152) → (ag_upd (ag_upd N (x + 146 + 1) L c) (x + 146) 0 (L + 1)) a = N a := fun a ha => (hf9 a (by omega)).trans ((fun _ _ => rfl) a ha)
  refine AR.endI rfl (.inl rfl) ?_
  have e9 : o_app (((P, n, q, p, cl, tn), (t, bg, en, ca), (gn, pu, mk), H), U, V, F, (L, T), (l, ln)) c = (L + 1, (((P, n, q, p, cl, tn), (t, bg, en, ca), (gn, pu, mk), H), U, V, F, (L + 1, (m_set T L c)), (l, ln))) := by unfold o_app <;> (try dsimp only) <;> (repeat (first | rw [if_pos (by omega)] | rw [if_neg (by omega)])) <;> rfl
  rw [e9]
  exact ⟨_, rfl, ⟨⟨nBN9, nHN9, nTN9⟩, hPN9, hVN9, hFN9, hT9, hLN9⟩, frN9⟩

theorem ev_X6_undo0 {d : Nat} (hd : 4 ≤ d) {G : m_G} {V : Option m_G} {F : m_F} {L : Int} {T : Int → Int} {l : Int} {ln : Int → Int} (hx : g_isX C x) (hX : g_rX N x (G, ([] : List m_G), V, F, (L, T), (l, ln))) (hS : g_vS (G, ([] : List m_G), V, F, (L, T), (l, ln))) : ∃ o_, Ev E d 84 [vA x] (C, N) o_ ∧ g_QX C N x (o_undo (G, ([] : List m_G), V, F, (L, T), (l, ln))) o_ := by
  obtain ⟨d, rfl⟩ : ∃ j, d = j + 1 := ⟨d - 1, by omega⟩
  obtain ⟨⟨P, n, q, p, cl, tn⟩, ⟨t, bg, en, ca⟩, ⟨gn, pu, mk⟩, H⟩ := G
  have hrB : g_rB N (x + 1 + 1) P n q p cl tn := hX.1.1
  have hrH : g_rH N (x + 1 + 7) H := hX.1.2.1
  have hrT : g_rT N (x + 1) t bg en ca gn pu mk := hX.1.2.2
  have hP : g_rP N (x + 40) ([] : List m_G) := hX.2.1
  have hV : g_rV N x V := hX.2.2.1
  have hF : g_rF N (x + 150) F := hX.2.2.2.1
  have hT : g_rTx N (x + 146) L T := hX.2.2.2.2.1
  have hL : g_rLn N x l ln := hX.2.2.2.2.2
  have hvG : g_vG ((P, n, q, p, cl, tn), (t, bg, en, ca), (gn, pu, mk), H) := hS.1
  have hwB : g_wB P n q p cl tn := hvG.1.1
  have hwH : g_wH H := hvG.1.2.1
  have hwS : g_wS t bg en ca gn pu mk := hvG.1.2.2
  have hwL : 0 ≤ L ∧ L ≤ 70 := hS.2.2.2.1
  have hwl : 0 ≤ l ∧ l ≤ 6 := hS.2.2.2.2.2
  have s1 := hwS.1
  have s2 := hwS.2.1
  have s3 := hwS.2.2.1
  have s4 := hwS.2.2.2.1
  have s6 := hwS.2.2.2.2.2
  have s7 : bg = 0 → H.length = 0 := fun e => by have z : H = [] := (hvG.2.1 e).1; rw [z]; rfl
  have s8 := g_rP_l hP
  refine Ev.introQ (M := ag_mX6_undo) rfl rfl ?_
  show AR E d _ (0, [some (vA x)], [], (C, N)) _
  refine AR.blk 1 (f' := (1, [some (vA x)], [vA x], (C, N))) (fun _ => rfl) ?_
  refine AR.getR rfl rfl hx.1 (by decide) rfl ?_
  refine AR.blk 1 (f' := (5, [some (vA x)], [vA x, vA (x + 40)], (C, N))) (fun _ => rfl) ?_
  refine AR.getR rfl rfl hx.1 (by decide) rfl ?_
  refine AR.callV [vA (x + 1)] (ev_X4_bringBack0 (by omega) hx.2.2.2.2.1 hP hx.2.1 (by omega)) hx.2.2.2.2.1.1 rfl rfl rfl rfl rfl ?_
  show AR E d _ (11, [some (vA x)], [vI 0], (C, N)) _
  refine AR.blk 2 (f' := (26, [some (vA x)], [vI (-4)], (C, N))) (fun _ => rfl) ?_
  refine AR.endI rfl (.inl rfl) ?_
  have e9 : o_undo (((P, n, q, p, cl, tn), (t, bg, en, ca), (gn, pu, mk), H), ([] : List m_G), V, F, (L, T), (l, ln)) = ((-4), (((P, n, q, p, cl, tn), (t, bg, en, ca), (gn, pu, mk), H), ([] : List m_G), V, F, (L, T), (l, ln))) := by unfold o_undo <;> (try dsimp only) <;> (repeat (first | rw [if_pos (by omega)] | rw [if_neg (by omega)])) <;> rfl
  rw [e9]
  exact ⟨_, rfl, ⟨⟨hrB, hrH, hrT⟩, hP, hV, hF, hT, hL⟩, (fun _ _ => rfl)⟩

theorem ev_X6_undo1 {d : Nat} (hd : 4 ≤ d) {G : m_G} {G9 : m_G} {U : List m_G} {V : Option m_G} {F : m_F} {L : Int} {T : Int → Int} {l : Int} {ln : Int → Int} (hx : g_isX C x) (hX : g_rX N x (G, G9 :: U, V, F, (L, T), (l, ln))) (hS : g_vS (G, G9 :: U, V, F, (L, T), (l, ln))) : ∃ o_, Ev E d 84 [vA x] (C, N) o_ ∧ g_QX C N x (o_undo (G, G9 :: U, V, F, (L, T), (l, ln))) o_ := by
  obtain ⟨d, rfl⟩ : ∃ j, d = j + 1 := ⟨d - 1, by omega⟩
  obtain ⟨⟨P9, n9, q9, p9, cl9, tn9⟩, ⟨t9, bg9, en9, ca9⟩, ⟨gn9, pu9, mk9⟩, H9⟩ := G9
  obtain ⟨⟨P, n, q, p, cl, tn⟩, ⟨t, bg, en, ca⟩, ⟨gn, pu, mk⟩, H⟩ := G
  have hrB : g_rB N (x + 1 + 1) P n q p cl tn := hX.1.1
  have hrH : g_rH N (x + 1 + 7) H := hX.1.2.1
  have hrT : g_rT N (x + 1) t bg en ca gn pu mk := hX.1.2.2
  have hP : g_rP N (x + 40) (((P9, n9, q9, p9, cl9, tn9), (t9, bg9, en9, ca9), (gn9, pu9, mk9), H9) :: U) := hX.2.1
  have hV : g_rV N x V := hX.2.2.1
  have hF : g_rF N (x + 150) F := hX.2.2.2.1
  have hT : g_rTx N (x + 146) L T := hX.2.2.2.2.1
  have hL : g_rLn N x l ln := hX.2.2.2.2.2
  have hvG : g_vG ((P, n, q, p, cl, tn), (t, bg, en, ca), (gn, pu, mk), H) := hS.1
  have hwB : g_wB P n q p cl tn := hvG.1.1
  have hwH : g_wH H := hvG.1.2.1
  have hwS : g_wS t bg en ca gn pu mk := hvG.1.2.2
  have hwL : 0 ≤ L ∧ L ≤ 70 := hS.2.2.2.1
  have hwl : 0 ≤ l ∧ l ≤ 6 := hS.2.2.2.2.2
  have s1 := hwS.1
  have s2 := hwS.2.1
  have s3 := hwS.2.2.1
  have s4 := hwS.2.2.2.1
  have s6 := hwS.2.2.2.2.2
  have s7 : bg = 0 → H.length = 0 := fun e => by have z : H = [] := (hvG.2.1 e).1; rw [z]; rfl
  refine Ev.introQ (M := ag_mX6_undo) rfl rfl ?_
  show AR E d _ (0, [some (vA x)], [], (C, N)) _
  refine AR.blk 1 (f' := (1, [some (vA x)], [vA x], (C, N))) (fun _ => rfl) ?_
  refine AR.getR rfl rfl hx.1 (by decide) rfl ?_
  refine AR.blk 1 (f' := (5, [some (vA x)], [vA x, vA (x + 40)], (C, N))) (fun _ => rfl) ?_
  refine AR.getR rfl rfl hx.1 (by decide) rfl ?_
  obtain ⟨_, hE1, N2, rfl, hr3, hP4, hf5⟩ := ev_X4_bringBack1 (E := E) (d := d) (by omega) hx.2.2.2.2.1 hP (fun G h => (hS.2.1 G h).1) hx.2.1 (by omega)
  have nBN2 : g_rB N2 (x + 1 + 1) P9 n9 q9 p9 cl9 tn9 := hr3.1
  have nHN2 : g_rH N2 (x + 1 + 7) H9 := hr3.2.1
  have nTN2 : g_rT N2 (x + 1) t9 bg9 en9 ca9 gn9 pu9 mk9 := hr3.2.2
  have vN2 : g_vG ((P9, n9, q9, p9, cl9, tn9), (t9, bg9, en9, ca9), (gn9, pu9, mk9), H9) := hS.2.1 _ List.mem_cons_self
  have wBN2 : g_wB P9 n9 q9 p9 cl9 tn9 := vN2.1.1
  have wHN2 : g_wH H9 := vN2.1.2.1
  have wSN2 : g_wS t9 bg9 en9 ca9 gn9 pu9 mk9 := vN2.1.2.2
  have z1N2 := wSN2.1
  have z2N2 := wSN2.2.1
  have z3N2 := wSN2.2.2.1
  have hVN2 := g_rV_fr hV (N' := N2) (congrFun (hf5 _ (by omega)) _) (fun a z0 z1 => hf5 a (by omega))
  have hFN2 := g_rF_fr hF (N' := N2) (hf5 _ (by omega))
  have hTN2 := g_rTx_fr hT (N' := N2) (congrFun (hf5 _ (by omega)) _) (hf5 _ (by omega))
  have hLN2 := g_rLn_fr hL (N' := N2) (congrFun (hf5 _ (by omega)) _) (hf5 _ (by omega))
  have frN2 : ∀ a, ¬ (x ≤ a ∧ a < x + 152) → (N2) a = N a := fun a ha => (hf5 a (by omega)).trans ((fun _ _ => rfl) a ha)
  refine AR.callV [vA (x + 1)] hE1 hx.2.2.2.2.1.1 rfl rfl rfl rfl rfl ?_
  show AR E d _ (11, [some (vA x)], [vI 1], (C, N2)) _
  refine AR.blk 2 (f' := (15, [some (vA x)], [vA x], (C, N2))) (fun _ => rfl) ?_
  refine AR.getR rfl rfl hx.1 (by decide) rfl ?_
  have f6 := g_rP_l hP4
  refine AR.getI rfl rfl hx.2.2.2.2.1.1 (by decide) (v := (U.length : Int)) (g_rP_n hP4) ?_
  refine AR.blk 1 (f' := (26, [some (vA x)], [vI (U.length : Int)], (C, N2))) (fun _ => rfl) ?_
  refine AR.endI rfl (.inl rfl) ?_
  have e9 : o_undo (((P, n, q, p, cl, tn), (t, bg, en, ca), (gn, pu, mk), H), ((P9, n9, q9, p9, cl9, tn9), (t9, bg9, en9, ca9), (gn9, pu9, mk9), H9) :: U, V, F, (L, T), (l, ln)) = ((U.length : Int), (((P9, n9, q9, p9, cl9, tn9), (t9, bg9, en9, ca9), (gn9, pu9, mk9), H9), U, V, F, (L, T), (l, ln))) := by unfold o_undo <;> (try dsimp only) <;> (repeat (first | rw [if_pos (by omega)] | rw [if_neg (by omega)])) <;> rfl
  rw [e9]
  exact ⟨_, rfl, ⟨⟨nBN2, nHN2, nTN2⟩, hP4, hVN2, hFN2, hTN2, hLN2⟩, frN2⟩

theorem ev_X4_forget {d : Nat} (hd : 1 ≤ d) (hp : g_isP C p) : Ev E d 55 [vA p] (C, N) (none, (C, ag_upd N p 2 0)) := by
  obtain ⟨d, rfl⟩ : ∃ j, d = j + 1 := ⟨d - 1, by omega⟩
  refine Ev.intro (M := ag_mX4_forget) rfl rfl ?_
  show AR E d _ (0, [some (vA p)], [], (C, N)) _
  refine AR.blk 2 (f' := (2, [some (vA p)], [vI 0, vA p], (C, N))) (fun _ => rfl) ?_
  refine AR.putI rfl rfl hp.1 (by decide) (fun q => absurd q (by decide)) ?_
  exact AR.retV rfl rfl rfl

theorem ev_X6_save {d : Nat} (hd : 3 ≤ d) {G : m_G} {U : List m_G} {V : Option m_G} {F : m_F} {L : Int} {T : Int → Int} {l : Int} {ln : Int → Int} (hx : g_isX C x) (hX : g_rX N x (G, U, V, F, (L, T), (l, ln))) (hS : g_vS (G, U, V, F, (L, T), (l, ln))) : ∃ o_, Ev E d 85 [vA x] (C, N) o_ ∧ g_QX C N x (o_save (G, U, V, F, (L, T), (l, ln))) o_ := by
  obtain ⟨d, rfl⟩ : ∃ j, d = j + 1 := ⟨d - 1, by omega⟩
  obtain ⟨⟨P, n, q, p, cl, tn⟩, ⟨t, bg, en, ca⟩, ⟨gn, pu, mk⟩, H⟩ := G
  have hrB : g_rB N (x + 1 + 1) P n q p cl tn := hX.1.1
  have hrH : g_rH N (x + 1 + 7) H := hX.1.2.1
  have hrT : g_rT N (x + 1) t bg en ca gn pu mk := hX.1.2.2
  have hP : g_rP N (x + 40) U := hX.2.1
  have hV : g_rV N x V := hX.2.2.1
  have hF : g_rF N (x + 150) F := hX.2.2.2.1
  have hT : g_rTx N (x + 146) L T := hX.2.2.2.2.1
  have hL : g_rLn N x l ln := hX.2.2.2.2.2
  have hvG : g_vG ((P, n, q, p, cl, tn), (t, bg, en, ca), (gn, pu, mk), H) := hS.1
  have hwB : g_wB P n q p cl tn := hvG.1.1
  have hwH : g_wH H := hvG.1.2.1
  have hwS : g_wS t bg en ca gn pu mk := hvG.1.2.2
  have hwL : 0 ≤ L ∧ L ≤ 70 := hS.2.2.2.1
  have hwl : 0 ≤ l ∧ l ≤ 6 := hS.2.2.2.2.2
  have s1 := hwS.1
  have s2 := hwS.2.1
  have s3 := hwS.2.2.1
  have s4 := hwS.2.2.2.1
  have s6 := hwS.2.2.2.2.2
  have s7 : bg = 0 → H.length = 0 := fun e => by have z : H = [] := (hvG.2.1 e).1; rw [z]; rfl
  have s8 := g_rP_l hP
  refine Ev.introQ (M := ag_mX6_save) rfl rfl ?_
  show AR E d _ (0, [some (vA x)], [], (C, N)) _
  refine AR.blk 1 (f' := (1, [some (vA x)], [vA x], (C, N))) (fun _ => rfl) ?_
  refine AR.getR rfl rfl hx.1 (by decide) rfl ?_
  refine AR.blk 1 (f' := (5, [some (vA x)], [vA x, vA (x + 27)], (C, N))) (fun _ => rfl) ?_
  refine AR.getR rfl rfl hx.1 (by decide) rfl ?_
  obtain ⟨_, hE1, N2, rfl, hr3, hf4⟩ := ev_X1_copyFrom (E := E) (d := d) (by omega) hx.2.2.2.1 hx.2.1 (by omega) (show g_rG N (x + 1) ((P, n, q, p, cl, tn), (t, bg, en, ca), (gn, pu, mk), H) from ⟨hrB, hrH, hrT⟩) hvG.1
  have nBN2 := g_rB_fr hrB (N' := N2) (fun a z0 z1 => hf4 a (by omega))
  have nHN2 := g_rH_fr hrH (N' := N2) (fun a z0 z1 => hf4 a (by omega))
  have nTN2 := g_rT_fr hrT (N' := N2) (hf4 _ (by omega)) (hf4 _ (by omega)) (hf4 _ (by omega)) (hf4 _ (by omega))
  have hPN2 := g_rP_fr hP (N' := N2) (fun a z0 z1 => hf4 a (by omega))
  have hFN2 := g_rF_fr hF (N' := N2) (hf4 _ (by omega))
  have hTN2 := g_rTx_fr hT (N' := N2) (congrFun (hf4 _ (by omega)) _) (hf4 _ (by omega))
  have hLN2 := g_rLn_fr hL (N' := N2) (congrFun (hf4 _ (by omega)) _) (hf4 _ (by omega))
  have frN2 : ∀ a, ¬ (x ≤ a ∧ a < x + 152) → (N2) a = N a := fun a ha => (hf4 a (by omega)).trans ((fun _ _ => rfl) a ha)
  refine AR.callV [vA (x + 1)] hE1 hx.2.2.2.1.1 rfl rfl rfl rfl rfl ?_
  show AR E d _ (11, [some (vA x)], [], (C, N2)) _
  refine AR.blk 2 (f' := (13, [some (vA x)], [vI 1, vA x], (C, N2))) (fun _ => rfl) ?_
  refine AR.putI rfl rfl hx.1 (by decide) (fun _ => by omega) ?_
  show AR E d _ (16, [some (vA x)], [], (C, ag_upd N2 x 3 1)) _
  have wN6 : ∀ a, a ≠ x → (ag_upd N2 x 3 1) a = N2 a := fun a ha => ag_upd_ne ha
  have nBN6 := g_rB_fr nBN2 (N' := ag_upd N2 x 3 1) (fun a z0 z1 => wN6 a (by omega))
  have nHN6 := g_rH_fr nHN2 (N' := ag_upd N2 x 3 1) (fun a z0 z1 => wN6 a (by omega))
  have nTN6 := g_rT_fr nTN2 (N' := ag_upd N2 x 3 1) (wN6 _ (by omega)) (wN6 _ (by omega)) (wN6 _ (by omega)) (wN6 _ (by omega))
  have hPN6 := g_rP_fr hPN2 (N' := ag_upd N2 x 3 1) (fun a z0 z1 => wN6 a (by omega))
  have hFN6 := g_rF_fr hFN2 (N' := ag_upd N2 x 3 1) (wN6 _ (by omega))
  have hTN6 := g_rTx_fr hTN2 (N' := ag_upd N2 x 3 1) (congrFun (wN6 _ (by omega)) _) (wN6 _ (by omega))
  have frN6 : ∀ a, ¬ (x ≤ a ∧ a < x + 152) → (ag_upd N2 x 3 1) a = N a := fun a ha => (wN6 a (by omega)).trans (frN2 a ha)
  have VN6 : g_rV (ag_upd N2 x 3 1) x (some ((P, n, q, p, cl, tn), (t, bg, en, ca), (gn, pu, mk), H)) := ⟨fun e => (by cases e), fun G e => (by cases e; exact ⟨ag_upd_eq, g_rG_fr hr3 (fun a z0 z1 => wN6 a (by omega))⟩)⟩
  have LN6 := g_rLn_fr hLN2 (N' := ag_upd N2 x 3 1) (ag_upd_nk (by omega)) (wN6 _ (by omega))
  generalize ag_upd N2 x 3 1 = N6 at *
  refine AR.blk 1 (f' := (17, [some (vA x)], [vA x], (C, N6))) (fun _ => rfl) ?_
  refine AR.getR rfl rfl hx.1 (by decide) rfl ?_
  refine AR.getI rfl rfl hx.2.1.1 (by decide) (v := t) nTN6.1.2.2.1 ?_
  refine AR.endI rfl (.inl rfl) ?_
  have e9 : o_save (((P, n, q, p, cl, tn), (t, bg, en, ca), (gn, pu, mk), H), U, V, F, (L, T), (l, ln)) = (t, (((P, n, q, p, cl, tn), (t, bg, en, ca), (gn, pu, mk), H), U, some ((P, n, q, p, cl, tn), (t, bg, en, ca), (gn, pu, mk), H), F, (L, T), (l, ln))) := by unfold o_save <;> (try dsimp only) <;> (repeat (first | rw [if_pos (by omega)] | rw [if_neg (by omega)])) <;> rfl
  rw [e9]
  exact ⟨_, rfl, ⟨⟨nBN6, nHN6, nTN6⟩, hPN6, VN6, hFN6, hTN6, LN6⟩, frN6⟩

theorem ev_X6_restore0 {d : Nat} (hd : 3 ≤ d) {G : m_G} {U : List m_G} {F : m_F} {L : Int} {T : Int → Int} {l : Int} {ln : Int → Int} (hx : g_isX C x) (hX : g_rX N x (G, U, (none : Option m_G), F, (L, T), (l, ln))) (hS : g_vS (G, U, (none : Option m_G), F, (L, T), (l, ln))) : ∃ o_, Ev E d 86 [vA x] (C, N) o_ ∧ g_QX C N x (o_rest (G, U, (none : Option m_G), F, (L, T), (l, ln))) o_ := by
  obtain ⟨d, rfl⟩ : ∃ j, d = j + 1 := ⟨d - 1, by omega⟩
  obtain ⟨⟨P, n, q, p, cl, tn⟩, ⟨t, bg, en, ca⟩, ⟨gn, pu, mk⟩, H⟩ := G
  have hrB : g_rB N (x + 1 + 1) P n q p cl tn := hX.1.1
  have hrH : g_rH N (x + 1 + 7) H := hX.1.2.1
  have hrT : g_rT N (x + 1) t bg en ca gn pu mk := hX.1.2.2
  have hP : g_rP N (x + 40) U := hX.2.1
  have hV : g_rV N x (none : Option m_G) := hX.2.2.1
  have hF : g_rF N (x + 150) F := hX.2.2.2.1
  have hT : g_rTx N (x + 146) L T := hX.2.2.2.2.1
  have hL : g_rLn N x l ln := hX.2.2.2.2.2
  have hvG : g_vG ((P, n, q, p, cl, tn), (t, bg, en, ca), (gn, pu, mk), H) := hS.1
  have hwB : g_wB P n q p cl tn := hvG.1.1
  have hwH : g_wH H := hvG.1.2.1
  have hwS : g_wS t bg en ca gn pu mk := hvG.1.2.2
  have hwL : 0 ≤ L ∧ L ≤ 70 := hS.2.2.2.1
  have hwl : 0 ≤ l ∧ l ≤ 6 := hS.2.2.2.2.2
  have s1 := hwS.1
  have s2 := hwS.2.1
  have s3 := hwS.2.2.1
  have s4 := hwS.2.2.2.1
  have s6 := hwS.2.2.2.2.2
  have s7 : bg = 0 → H.length = 0 := fun e => by have z : H = [] := (hvG.2.1 e).1; rw [z]; rfl
  have s8 := g_rP_l hP
  refine Ev.introQ (M := ag_mX6_restore) rfl rfl ?_
  show AR E d _ (0, [some (vA x)], [], (C, N)) _
  refine AR.blk 1 (f' := (1, [some (vA x)], [vA x], (C, N))) (fun _ => rfl) ?_
  refine AR.getI rfl rfl hx.1 (by decide) (v := 0) (hV.1 rfl) ?_
  refine AR.blk 2 (f' := (9, [some (vA x)], [vI (-4)], (C, N))) (fun _ => rfl) ?_
  refine AR.endI rfl (.inl rfl) ?_
  have e9 : o_rest (((P, n, q, p, cl, tn), (t, bg, en, ca), (gn, pu, mk), H), U, (none : Option m_G), F, (L, T), (l, ln)) = ((-4), (((P, n, q, p, cl, tn), (t, bg, en, ca), (gn, pu, mk), H), U, (none : Option m_G), F, (L, T), (l, ln))) := by unfold o_rest <;> (try dsimp only) <;> (repeat (first | rw [if_pos (by omega)] | rw [if_neg (by omega)])) <;> rfl
  rw [e9]
  exact ⟨_, rfl, ⟨⟨hrB, hrH, hrT⟩, hP, hV, hF, hT, hL⟩, (fun _ _ => rfl)⟩

theorem g_rP_nil {N : Nat → Int → Int} {p : Nat} {U : List m_G} (h : g_rP N p U) : g_rP (ag_upd N p 2 0) p [] := by
  obtain ⟨nx, h0, h1, h2, h3, h4⟩ := h
  exact ⟨nx, h0, (ag_upd_nk (by omega)).trans h1, ag_upd_eq, Nat.zero_le 8, fun i G hi => by cases hi⟩

theorem ev_X6_restore1 {d : Nat} (hd : 3 ≤ d) {G : m_G} {U : List m_G} {G9 : m_G} {F : m_F} {L : Int} {T : Int → Int} {l : Int} {ln : Int → Int} (hx : g_isX C x) (hX : g_rX N x (G, U, some G9, F, (L, T), (l, ln))) (hS : g_vS (G, U, some G9, F, (L, T), (l, ln))) : ∃ o_, Ev E d 86 [vA x] (C, N) o_ ∧ g_QX C N x (o_rest (G, U, some G9, F, (L, T), (l, ln))) o_ := by
  obtain ⟨d, rfl⟩ : ∃ j, d = j + 1 := ⟨d - 1, by omega⟩
  obtain ⟨⟨P9, n9, q9, p9, cl9, tn9⟩, ⟨t9, bg9, en9, ca9⟩, ⟨gn9, pu9, mk9⟩, H9⟩ := G9
  obtain ⟨⟨P, n, q, p, cl, tn⟩, ⟨t, bg, en, ca⟩, ⟨gn, pu, mk⟩, H⟩ := G
  have hrB : g_rB N (x + 1 + 1) P n q p cl tn := hX.1.1
  have hrH : g_rH N (x + 1 + 7) H := hX.1.2.1
  have hrT : g_rT N (x + 1) t bg en ca gn pu mk := hX.1.2.2
  have hP : g_rP N (x + 40) U := hX.2.1
  have hV : g_rV N x (some ((P9, n9, q9, p9, cl9, tn9), (t9, bg9, en9, ca9), (gn9, pu9, mk9), H9)) := hX.2.2.1
  have hF : g_rF N (x + 150) F := hX.2.2.2.1
  have hT : g_rTx N (x + 146) L T := hX.2.2.2.2.1
  have hL : g_rLn N x l ln := hX.2.2.2.2.2
  have hvG : g_vG ((P, n, q, p, cl, tn), (t, bg, en, ca), (gn, pu, mk), H) := hS.1
  have hwB : g_wB P n q p cl tn := hvG.1.1
  have hwH : g_wH H := hvG.1.2.1
  have hwS : g_wS t bg en ca gn pu mk := hvG.1.2.2
  have hwL : 0 ≤ L ∧ L ≤ 70 := hS.2.2.2.1
  have hwl : 0 ≤ l ∧ l ≤ 6 := hS.2.2.2.2.2
  have s1 := hwS.1
  have s2 := hwS.2.1
  have s3 := hwS.2.2.1
  have s4 := hwS.2.2.2.1
  have s6 := hwS.2.2.2.2.2
  have s7 : bg = 0 → H.length = 0 := fun e => by have z : H = [] := (hvG.2.1 e).1; rw [z]; rfl
  have s8 := g_rP_l hP
  refine Ev.introQ (M := ag_mX6_restore) rfl rfl ?_
  show AR E d _ (0, [some (vA x)], [], (C, N)) _
  refine AR.blk 1 (f' := (1, [some (vA x)], [vA x], (C, N))) (fun _ => rfl) ?_
  refine AR.getI rfl rfl hx.1 (by decide) (v := 1) (hV.2 _ rfl).1 ?_
  refine AR.blk 2 (f' := (11, [some (vA x)], [vA x], (C, N))) (fun _ => rfl) ?_
  refine AR.getR rfl rfl hx.1 (by decide) rfl ?_
  refine AR.blk 1 (f' := (15, [some (vA x)], [vA x, vA (x + 1)], (C, N))) (fun _ => rfl) ?_
  refine AR.getR rfl rfl hx.1 (by decide) rfl ?_
  obtain ⟨_, hE1, N2, rfl, hr3, hf4⟩ := ev_X1_copyFrom (E := E) (d := d) (by omega) hx.2.1 hx.2.2.2.1 (by omega) (hV.2 _ rfl).2 (hS.2.2.1 _ rfl).1
  have nBN2 : g_rB N2 (x + 1 + 1) P9 n9 q9 p9 cl9 tn9 := hr3.1
  have nHN2 : g_rH N2 (x + 1 + 7) H9 := hr3.2.1
  have nTN2 : g_rT N2 (x + 1) t9 bg9 en9 ca9 gn9 pu9 mk9 := hr3.2.2
  have vN2 : g_vG ((P9, n9, q9, p9, cl9, tn9), (t9, bg9, en9, ca9), (gn9, pu9, mk9), H9) := (hS.2.2.1 _ rfl)
  have wBN2 : g_wB P9 n9 q9 p9 cl9 tn9 := vN2.1.1
  have wHN2 : g_wH H9 := vN2.1.2.1
  have wSN2 : g_wS t9 bg9 en9 ca9 gn9 pu9 mk9 := vN2.1.2.2
  have z1N2 := wSN2.1
  have z2N2 := wSN2.2.1
  have z3N2 := wSN2.2.2.1
  have hPN2 := g_rP_fr hP (N' := N2) (fun a z0 z1 => hf4 a (by omega))
  have hVN2 := g_rV_fr hV (N' := N2) (congrFun (hf4 _ (by omega)) _) (fun a z0 z1 => hf4 a (by omega))
  have hFN2 := g_rF_fr hF (N' := N2) (hf4 _ (by omega))
  have hTN2 := g_rTx_fr hT (N' := N2) (congrFun (hf4 _ (by omega)) _) (hf4 _ (by omega))
  have hLN2 := g_rLn_fr hL (N' := N2) (congrFun (hf4 _ (by omega)) _) (hf4 _ (by omega))
  have frN2 : ∀ a, ¬ (x ≤ a ∧ a < x + 152) → (N2) a = N a := fun a ha => (hf4 a (by omega)).trans ((fun _ _ => rfl) a ha)
  refine AR.callV [vA (x + 27)] hE1 hx.2.1.1 rfl rfl rfl rfl rfl ?_
  show AR E d _ (21, [some (vA x)], [], (C, N2)) _
  refine AR.blk 1 (f' := (22, [some (vA x)], [vA x], (C, N2))) (fun _ => rfl) ?_
  refine AR.getR rfl rfl hx.1 (by decide) rfl ?_
  refine AR.callV [] (ev_X4_forget (by omega) (N := N2) hx.2.2.2.2.1) hx.2.2.2.2.1.1 rfl rfl rfl rfl rfl ?_
  show AR E d _ (28, [some (vA x)], [], (C, ag_upd N2 (x + 40) 2 0)) _
  refine AR.blk 1 (f' := (29, [some (vA x)], [vA x], (C, ag_upd N2 (x + 40) 2 0))) (fun _ => rfl) ?_
  refine AR.getR rfl rfl hx.1 (by decide) rfl ?_
  refine AR.getI rfl rfl hx.2.1.1 (by decide) (v := t9) ((congrFun (ag_upd_ne (by omega)) _).trans nTN2.1.2.2.1) ?_
  have hf99 : ∀ a, a ≠ x + 40 → (ag_upd N2 (x + 40) 2 0) a = N2 a := fun a ha => ag_upd_ne ha
  have hP99 : g_rP (ag_upd N2 (x + 40) 2 0) (x + 40) [] := g_rP_nil hPN2
  have nBN99 := g_rB_fr nBN2 (N' := ag_upd N2 (x + 40) 2 0) (fun a z0 z1 => hf99 a (by omega))
  have nHN99 := g_rH_fr nHN2 (N' := ag_upd N2 (x + 40) 2 0) (fun a z0 z1 => hf99 a (by omega))
  have nTN99 := g_rT_fr nTN2 (N' := ag_upd N2 (x + 40) 2 0) (hf99 _ (by omega)) (hf99 _ (by omega)) (hf99 _ (by omega)) (hf99 _ (by omega))
  have hVN99 := g_rV_fr hVN2 (N' := ag_upd N2 (x + 40) 2 0) (congrFun (hf99 _ (by omega)) _) (fun a z0 z1 => hf99 a (by omega))
  have hFN99 := g_rF_fr hFN2 (N' := ag_upd N2 (x + 40) 2 0) (hf99 _ (by omega))
  have hTN99 := g_rTx_fr hTN2 (N' := ag_upd N2 (x + 40) 2 0) (congrFun (hf99 _ (by omega)) _) (hf99 _ (by omega))
  have hLN99 := g_rLn_fr hLN2 (N' := ag_upd N2 (x + 40) 2 0) (congrFun (hf99 _ (by omega)) _) (hf99 _ (by omega))
  have frN99 : ∀ a, ¬ (x ≤ a ∧ a < x + 152) → (ag_upd N2 (x + 40) 2 0) a = N a := fun a ha => (hf99 a (by omega)).trans (frN2 a ha)
  refine AR.endI rfl (.inl rfl) ?_
  have e9 : o_rest (((P, n, q, p, cl, tn), (t, bg, en, ca), (gn, pu, mk), H), U, some ((P9, n9, q9, p9, cl9, tn9), (t9, bg9, en9, ca9), (gn9, pu9, mk9), H9), F, (L, T), (l, ln)) = (t9, (((P9, n9, q9, p9, cl9, tn9), (t9, bg9, en9, ca9), (gn9, pu9, mk9), H9), ([] : List m_G), (some ((P9, n9, q9, p9, cl9, tn9), (t9, bg9, en9, ca9), (gn9, pu9, mk9), H9)), F, (L, T), (l, ln))) := by unfold o_rest <;> (try dsimp only) <;> (repeat (first | rw [if_pos (by omega)] | rw [if_neg (by omega)])) <;> rfl
  rw [e9]
  exact ⟨_, rfl, ⟨⟨nBN99, nHN99, nTN99⟩, hP99, hVN99, hFN99, hTN99, hLN99⟩, frN99⟩
end L2C
