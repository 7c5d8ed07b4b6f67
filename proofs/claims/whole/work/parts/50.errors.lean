/-! LEVEL 2: the class: what changes it -/
def g_rV (N : Nat → Int → Int) (x : Nat) (V : Option m_G) : Prop := (V = none → N x 3 = 0) ∧ ∀ G, V = some G → N x 3 = 1 ∧ g_rG N (x + 27) G
def g_rTx (N : Nat → Int → Int) (x : Nat) (L : Int) (T : Int → Int) : Prop := N x 0 = L ∧ ∀ j, 0 ≤ j → j < L → N (x + 1) j = T j
def g_rLn (N : Nat → Int → Int) (x : Nat) (l : Int) (ln : Int → Int) : Prop := N x 8 = l ∧ ∀ j, 0 ≤ j → j < l → N (x + 151) j = ln j
def g_rX (N : Nat → Int → Int) (x : Nat) (S : m_S) : Prop := g_rG N (x + 1) S.1 ∧ g_rP N (x + 40) S.2.1 ∧ g_rV N x S.2.2.1 ∧ g_rF N (x + 150) S.2.2.2.1 ∧ g_rTx N (x + 146) S.2.2.2.2.1.1 S.2.2.2.2.1.2 ∧ g_rLn N x S.2.2.2.2.2.1 S.2.2.2.2.2.2
def g_QX (C : List ag_C) (N : Nat → Int → Int) (x : Nat) (R : Int × m_S) : ag_O → Prop := fun r => ∃ N', r = (some (vI R.1), (C, N')) ∧ g_rX N' x R.2 ∧ ∀ a, ¬ (x ≤ a ∧ a < x + 152) → N' a = N a
def g_QF (C : List ag_C) (N : Nat → Int → Int) (x : Nat) (R : Int × m_F) : ag_O → Prop := fun r => ∃ N', r = (some (vI R.1), (C, N')) ∧ g_rF N' (x + 150) R.2 ∧ ∀ a, a ≠ x + 150 → N' a = N a
/-- a valid state -/
def g_vS (S : m_S) : Prop := g_vG S.1 ∧ (∀ G, G ∈ S.2.1 → g_vG G) ∧ (∀ G, S.2.2.1 = some G → g_vG G) ∧ (0 ≤ S.2.2.2.2.1.1 ∧ S.2.2.2.2.1.1 ≤ 70) ∧ (∀ j, 0 ≤ j → j < S.2.2.2.2.1.1 → 32 ≤ S.2.2.2.2.1.2 j ∧ S.2.2.2.2.1.2 j ≤ 126) ∧ (0 ≤ S.2.2.2.2.2.1 ∧ S.2.2.2.2.2.1 ≤ 6)
theorem g_rP_fr {N N' : Nat → Int → Int} {p : Nat} {U : List m_G} (hr : g_rP N p U) (hf : ∀ a, p ≤ a → a < p + 106 → N' a = N a) : g_rP N' p U := by
  obtain ⟨nx, h0, h1, h2, h3, h4⟩ := hr
  refine ⟨nx, h0, by rw [hf p (by omega) (by omega)]; exact h1, by rw [hf p (by omega) (by omega)]; exact h2, h3, fun i G hi => ?_⟩
  have h5 := g_sl_in p ((nx + 7 - i) % 8) (by omega)
  exact g_rG_fr (h4 i G hi) (fun a z0 z1 => hf a (by omega) (by omega))
theorem g_rV_fr {N N' : Nat → Int → Int} {x : Nat} {V : Option m_G} (hr : g_rV N x V) (h0 : N' x 3 = N x 3) (hf : ∀ a, x + 27 ≤ a → a < x + 27 + 13 → N' a = N a) : g_rV N' x V :=
  ⟨fun e => h0.trans (hr.1 e), fun G e => ⟨h0.trans (hr.2 G e).1, g_rG_fr (hr.2 G e).2 hf⟩⟩
theorem g_rF_fr {N N' : Nat → Int → Int} {r : Nat} {F : m_F} (hr : g_rF N r F) (h0 : N' r = N r) : g_rF N' r F := by
  unfold g_rF
  rw [h0]
  exact hr
theorem g_rTx_fr {N N' : Nat → Int → Int} {x : Nat} {L : Int} {T : Int → Int} (hr : g_rTx N x L T) (h0 : N' x 0 = N x 0) (h1 : N' (x + 1) = N (x + 1)) : g_rTx N' x L T :=
  ⟨h0.trans hr.1, fun j z0 z1 => (congrFun h1 j).trans (hr.2 j z0 z1)⟩
theorem g_rLn_fr {N N' : Nat → Int → Int} {x : Nat} {l : Int} {ln : Int → Int} (hr : g_rLn N x l ln) (h0 : N' x 8 = N x 8) (h1 : N' (x + 151) = N (x + 151)) : g_rLn N' x l ln :=
  ⟨h0.trans hr.1, fun j z0 z1 => (congrFun h1 j).trans (hr.2 j z0 z1)⟩
theorem g_rF_cause {N : Nat → Int → Int} {r : Nat} {a b c d e : Int} (h : g_rF N r (a, b, c, d, e)) (y z : Int) : g_rF (ag_upd (ag_upd N r 3 y) r 4 z) r (a, b, c, y, z) :=
  ⟨(ag_upd_nk (by omega)).trans ((ag_upd_nk (by omega)).trans h.1), (ag_upd_nk (by omega)).trans ((ag_upd_nk (by omega)).trans h.2.1), (ag_upd_nk (by omega)).trans ((ag_upd_nk (by omega)).trans h.2.2.1), (ag_upd_nk (by omega)).trans ag_upd_eq, ag_upd_eq⟩
theorem g_rF_note (N : Nat → Int → Int) (r : Nat) (x y z : Int) : g_rF (ag_upd (ag_upd (ag_upd (ag_upd (ag_upd N r 0 x) r 1 y) r 2 z) r 3 (-4)) r 4 (-4)) r (x, y, z, -4, -4) := by
  refine ⟨?_, ?_, ?_, ?_, ag_upd_eq⟩
  · exact (ag_upd_nk (by omega)).trans ((ag_upd_nk (by omega)).trans ((ag_upd_nk (by omega)).trans ((ag_upd_nk (by omega)).trans ag_upd_eq)))
  · exact (ag_upd_nk (by omega)).trans ((ag_upd_nk (by omega)).trans ((ag_upd_nk (by omega)).trans ag_upd_eq))
  · exact (ag_upd_nk (by omega)).trans ((ag_upd_nk (by omega)).trans ag_upd_eq)
  · exact (ag_upd_nk (by omega)).trans ag_upd_eq
section L2A
variable {E : Nat × (Int → Int)} {C : List ag_C} {N : Nat → Int → Int} {x : Nat}

theorem ev_X6_refuse {d : Nat} (hd : 3 ≤ d) (hx : g_isX C x) (r z k : Int) : ∃ o_, Ev E d 87 [vA x, vI r, vI z, vI k] (C, N) o_ ∧ g_QF C N x (-3, (r, z, k, -4, -4)) o_ := by
  obtain ⟨d, rfl⟩ : ∃ j, d = j + 1 := ⟨d - 1, by omega⟩
  refine Ev.introQ (M := ag_mX6_refuse) rfl rfl ?_
  show AR E d _ (0, [some (vA x), some (vI r), some (vI z), some (vI k)], [], (C, N)) _
  refine AR.blk 1 (f' := (1, [some (vA x), some (vI r), some (vI z), some (vI k)], [vA x], (C, N))) (fun _ => rfl) ?_
  refine AR.getR rfl rfl hx.1 (by decide) rfl ?_
  refine AR.blk 3 (f' := (7, [some (vA x), some (vI r), some (vI z), some (vI k)], [vI k, vI z, vI r, vA (x + 150)], (C, N))) (fun _ => rfl) ?_
  refine AR.callV [vI r, vI z, vI k] (ev_X5_note (by omega) (N := N) hx.2.2.2.2.2.2.1 r z k) hx.2.2.2.2.2.2.1 rfl rfl rfl rfl rfl ?_
  show AR E d _ (10, [some (vA x), some (vI r), some (vI z), some (vI k)], [], (C, ag_upd (ag_upd (ag_upd (ag_upd (ag_upd N (x + 150) 0 r) (x + 150) 1 z) (x + 150) 2 k) (x + 150) 3 (-4)) (x + 150) 4 (-4))) _
  refine AR.blk 1 (f' := (12, [some (vA x), some (vI r), some (vI z), some (vI k)], [vI (-3)], (C, ag_upd (ag_upd (ag_upd (ag_upd (ag_upd N (x + 150) 0 r) (x + 150) 1 z) (x + 150) 2 k) (x + 150) 3 (-4)) (x + 150) 4 (-4)))) (fun _ => rfl) ?_
  refine AR.endI rfl (.inl rfl) ?_
  exact ⟨_, rfl, g_rF_note N (x + 150) r z k, fun a ha => (ag_upd_ne ha).trans ((ag_upd_ne ha).trans ((ag_upd_ne ha).trans ((ag_upd_ne ha).trans (ag_upd_ne ha))))⟩

theorem ev_X6_buildingError {d : Nat} (hd : 4 ≤ d) (hx : g_isX C x) {P : Int → Int} {n : Int} {q p cl tn : Int → Int} {t bg en ca : Int} {gn pu mk : Int → Int} {H : List (Int × Int)} (hrB : g_rB N (x + 1 + 1) P n q p cl tn) (hrH : g_rH N (x + 1 + 7) H) (hrT : g_rT N (x + 1) t bg en ca gn pu mk) (hvG : g_vG ((P, n, q, p, cl, tn), (t, bg, en, ca), (gn, pu, mk), H)) {F : m_F} (hF : g_rF N (x + 150) F) (s u z : Int) (h0 : ag_in s) (h1 : ag_in u) (h2 : ag_in z) : ∃ o_, Ev E d 88 [vA x, vI s, vI u, vI z] (C, N) o_ ∧ g_QF C N x (m_beF ((P, n, q, p, cl, tn), (t, bg, en, ca), (gn, pu, mk), H) F s u z) o_ := by
  obtain ⟨d, rfl⟩ : ∃ j, d = j + 1 := ⟨d - 1, by omega⟩
  have hwB : g_wB P n q p cl tn := hvG.1.1
  have hwH : g_wH H := hvG.1.2.1
  have hwS : g_wS t bg en ca gn pu mk := hvG.1.2.2
  have s1 := hwS.1
  have s2 := hwS.2.1
  have s3 := hwS.2.2.1
  refine Ev.introQ (M := ag_mX6_buildingError) rfl rfl ?_
  show AR E d _ (0, [some (vA x), some (vI s), some (vI u), some (vI z)], [], (C, N)) _
  refine AR.blk 1 (f' := (1, [some (vA x), some (vI s), some (vI u), some (vI z)], [vA x], (C, N))) (fun _ => rfl) ?_
  refine AR.getR rfl rfl hx.1 (by decide) rfl ?_
  refine AR.getI rfl rfl hx.2.1.1 (by decide) (v := bg) hrT.1.1 ?_
  refine AR.if_eq rfl (by omega) (fun c1 => ?_) (fun c1 => ?_)
  · show AR E d _ (25, [some (vA x), some (vI s), some (vI u), some (vI z)], [], (C, N)) _
    refine AR.blk 1 (f' := (26, [some (vA x), some (vI s), some (vI u), some (vI z)], [vA x], (C, N))) (fun _ => rfl) ?_
    refine AR.getR rfl rfl hx.1 (by decide) rfl ?_
    refine AR.getR rfl rfl hx.2.1.1 (by decide) rfl ?_
    refine AR.blk 1 (f' := (33, [some (vA x), some (vI s), some (vI u), some (vI z)], [vI s, vA (x + 1 + 1)], (C, N))) (fun _ => rfl) ?_
    refine AR.callV [vI s] (ev_X0_pieceAt (by omega) hx.2.1.2.1 hrB hwB s (by omega)) hx.2.1.2.1.1 rfl rfl rfl rfl rfl ?_
    show AR E d _ (36, [some (vA x), some (vI s), some (vI u), some (vI z)], [vI (P s)], (C, N)) _
    have f2 := hwB.1 s
    refine AR.blk 1 (f' := (37, [some (vA x), some (vI s), some (vI u), some (vI z)], [vI (-1), vI (P s)], (C, N))) (fun _ => rfl) ?_
    refine AR.ic_eq rfl (by omega) (fun c3 => ?_) (fun c3 => ?_)
    · show AR E d _ (49, [some (vA x), some (vI s), some (vI u), some (vI z)], [], (C, N)) _
      refine AR.blk 1 (f' := (50, [some (vA x), some (vI s), some (vI u), some (vI z)], [vA x], (C, N))) (fun _ => rfl) ?_
      refine AR.getR rfl rfl hx.1 (by decide) rfl ?_
      refine AR.getR rfl rfl hx.2.1.1 (by decide) rfl ?_
      refine AR.blk 1 (f' := (57, [some (vA x), some (vI s), some (vI u), some (vI z)], [vI s, vA (x + 1 + 1)], (C, N))) (fun _ => rfl) ?_
      refine AR.callV [vI s] (ev_X0_lockAt (by omega) hx.2.1.2.1 hrB hwB s (by omega)) hx.2.1.2.1.1 rfl rfl rfl rfl rfl ?_
      show AR E d _ (60, [some (vA x), some (vI s), some (vI u), some (vI z)], [vI (m_la n q s)], (C, N)) _
      have f4 := m_la_in n q s hwB.2.2.1.1
      refine AR.blk 1 (f' := (61, [some (vA x), some (vI s), some (vI u), some (vI z)], [vI (-1), vI (m_la n q s)], (C, N))) (fun _ => rfl) ?_
      refine AR.ic_eq rfl (by omega) (fun c5 => ?_) (fun c5 => ?_)
      · show AR E d _ (84, [some (vA x), some (vI s), some (vI u), some (vI z)], [], (C, N)) _
        refine AR.blk 2 (f' := (86, [some (vA x), some (vI s), some (vI u), some (vI z)], [vI z, vI u], (C, N))) (fun _ => rfl) ?_
        refine AR.ic_ge rfl (by omega) (fun c6 => ?_) (fun c6 => ?_)
        · show AR E d _ (93, [some (vA x), some (vI s), some (vI u), some (vI z)], [], (C, N)) _
          refine AR.blk 4 (f' := (98, [some (vA x), some (vI s), some (vI u), some (vI z)], [vI (-4), vI z, vI 1, vA x], (C, N))) (fun _ => rfl) ?_
          obtain ⟨_, hE7, N8, rfl, hF9, hf10⟩ := ev_X6_refuse (E := E) (d := d) (by omega) hx 1 z (-4)
          have FN8 : g_rF N8 (x + 150) (1, z, (-4), -4, -4) := hF9
          have nBN8 := g_rB_fr hrB (N' := N8) (fun a z0 z1 => hf10 a (by omega))
          have nHN8 := g_rH_fr hrH (N' := N8) (fun a z0 z1 => hf10 a (by omega))
          have nTN8 := g_rT_fr hrT (N' := N8) (hf10 _ (by omega)) (hf10 _ (by omega)) (hf10 _ (by omega)) (hf10 _ (by omega))
          have f9N8 : ∀ a, a ≠ x + 150 → (N8) a = N a := fun a ha => (hf10 a ha).trans ((fun _ _ => rfl) a ha)
          refine AR.callV [vI 1, vI z, vI (-4)] hE7 hx.1 rfl rfl rfl rfl rfl ?_
          show AR E d _ (101, [some (vA x), some (vI s), some (vI u), some (vI z)], [vI (-3)], (C, N8)) _
          refine AR.endI rfl (.inl rfl) ?_
          have e9 : m_beF ((P, n, q, p, cl, tn), (t, bg, en, ca), (gn, pu, mk), H) F s u z = (-3, (1, z, (-4), -4, -4)) := by unfold m_beF; dsimp only; repeat (first | rw [if_pos (by omega)] | rw [if_neg (by omega)])
          rw [e9]
          exact ⟨_, rfl, FN8, f9N8⟩
        · show AR E d _ (89, [some (vA x), some (vI s), some (vI u), some (vI z)], [], (C, N)) _
          refine AR.blk 2 (f' := (101, [some (vA x), some (vI s), some (vI u), some (vI z)], [vI 0], (C, N))) (fun _ => rfl) ?_
          refine AR.endI rfl (.inl rfl) ?_
          have e9 : m_beF ((P, n, q, p, cl, tn), (t, bg, en, ca), (gn, pu, mk), H) F s u z = (0, F) := by unfold m_beF; dsimp only; repeat (first | rw [if_pos (by omega)] | rw [if_neg (by omega)])
          rw [e9]
          exact ⟨_, rfl, hF, (fun _ _ => rfl)⟩
      · show AR E d _ (64, [some (vA x), some (vI s), some (vI u), some (vI z)], [], (C, N)) _
        refine AR.blk 3 (f' := (68, [some (vA x), some (vI s), some (vI u), some (vI z)], [vA x, vI 6, vA x], (C, N))) (fun _ => rfl) ?_
        refine AR.getR rfl rfl hx.1 (by decide) rfl ?_
        refine AR.getR rfl rfl hx.2.1.1 (by decide) rfl ?_
        refine AR.blk 1 (f' := (75, [some (vA x), some (vI s), some (vI u), some (vI z)], [vI s, vA (x + 1 + 1), vI 6, vA x], (C, N))) (fun _ => rfl) ?_
        refine AR.callV [vI s] (ev_X0_lockAt (by omega) hx.2.1.2.1 hrB hwB s (by omega)) hx.2.1.2.1.1 rfl rfl rfl rfl rfl ?_
        show AR E d _ (78, [some (vA x), some (vI s), some (vI u), some (vI z)], [vI (m_la n q s), vI 6, vA x], (C, N)) _
        have f11 := m_la_in n q s hwB.2.2.1.1
        refine AR.blk 1 (f' := (80, [some (vA x), some (vI s), some (vI u), some (vI z)], [vI (-4), vI (m_la n q s), vI 6, vA x], (C, N))) (fun _ => rfl) ?_
        obtain ⟨_, hE12, N13, rfl, hF14, hf15⟩ := ev_X6_refuse (E := E) (d := d) (by omega) hx 6 (m_la n q s) (-4)
        have FN13 : g_rF N13 (x + 150) (6, m_la n q s, (-4), -4, -4) := hF14
        have nBN13 := g_rB_fr hrB (N' := N13) (fun a z0 z1 => hf15 a (by omega))
        have nHN13 := g_rH_fr hrH (N' := N13) (fun a z0 z1 => hf15 a (by omega))
        have nTN13 := g_rT_fr hrT (N' := N13) (hf15 _ (by omega)) (hf15 _ (by omega)) (hf15 _ (by omega)) (hf15 _ (by omega))
        have f9N13 : ∀ a, a ≠ x + 150 → (N13) a = N a := fun a ha => (hf15 a ha).trans ((fun _ _ => rfl) a ha)
        refine AR.callV [vI 6, vI (m_la n q s), vI (-4)] hE12 hx.1 rfl rfl rfl rfl rfl ?_
        show AR E d _ (83, [some (vA x), some (vI s), some (vI u), some (vI z)], [vI (-3)], (C, N13)) _
        refine AR.endI rfl (.inl rfl) ?_
        have e9 : m_beF ((P, n, q, p, cl, tn), (t, bg, en, ca), (gn, pu, mk), H) F s u z = (-3, (6, m_la n q s, (-4), -4, -4)) := by unfold m_beF; dsimp only; repeat (first | rw [if_pos (by omega)] | rw [if_neg (by omega)])
        rw [e9]
        exact ⟨_, rfl, FN13, f9N13⟩
    · show AR E d _ (40, [some (vA x), some (vI s), some (vI u), some (vI z)], [], (C, N)) _
      refine AR.blk 4 (f' := (45, [some (vA x), some (vI s), some (vI u), some (vI z)], [vI (-4), vI s, vI 5, vA x], (C, N))) (fun _ => rfl) ?_
      obtain ⟨_, hE16, N17, rfl, hF18, hf19⟩ := ev_X6_refuse (E := E) (d := d) (by omega) hx 5 s (-4)
      have FN17 : g_rF N17 (x + 150) (5, s, (-4), -4, -4) := hF18
      have nBN17 := g_rB_fr hrB (N' := N17) (fun a z0 z1 => hf19 a (by omega))
      have nHN17 := g_rH_fr hrH (N' := N17) (fun a z0 z1 => hf19 a (by omega))
      have nTN17 := g_rT_fr hrT (N' := N17) (hf19 _ (by omega)) (hf19 _ (by omega)) (hf19 _ (by omega)) (hf19 _ (by omega))
      have f9N17 : ∀ a, a ≠ x + 150 → (N17) a = N a := fun a ha => (hf19 a ha).trans ((fun _ _ => rfl) a ha)
      refine AR.callV [vI 5, vI s, vI (-4)] hE16 hx.1 rfl rfl rfl rfl rfl ?_
      show AR E d _ (48, [some (vA x), some (vI s), some (vI u), some (vI z)], [vI (-3)], (C, N17)) _
      refine AR.endI rfl (.inl rfl) ?_
      have e9 : m_beF ((P, n, q, p, cl, tn), (t, bg, en, ca), (gn, pu, mk), H) F s u z = (-3, (5, s, (-4), -4, -4)) := by unfold m_beF; dsimp only; repeat (first | rw [if_pos (by omega)] | rw [if_neg (by omega)])
      rw [e9]
      exact ⟨_, rfl, FN17, f9N17⟩
  · show AR E d _ (10, [some (vA x), some (vI s), some (vI u), some (vI z)], [], (C, N)) _
    refine AR.blk 3 (f' := (13, [some (vA x), some (vI s), some (vI u), some (vI z)], [vA x, vI 2, vA x], (C, N))) (fun _ => rfl) ?_
    refine AR.getR rfl rfl hx.1 (by decide) rfl ?_
    refine AR.getI rfl rfl hx.2.1.1 (by decide) (v := t) hrT.1.2.2.1 ?_
    refine AR.blk 1 (f' := (21, [some (vA x), some (vI s), some (vI u), some (vI z)], [vI (-4), vI t, vI 2, vA x], (C, N))) (fun _ => rfl) ?_
    obtain ⟨_, hE20, N21, rfl, hF22, hf23⟩ := ev_X6_refuse (E := E) (d := d) (by omega) hx 2 t (-4)
    have FN21 : g_rF N21 (x + 150) (2, t, (-4), -4, -4) := hF22
    have nBN21 := g_rB_fr hrB (N' := N21) (fun a z0 z1 => hf23 a (by omega))
    have nHN21 := g_rH_fr hrH (N' := N21) (fun a z0 z1 => hf23 a (by omega))
    have nTN21 := g_rT_fr hrT (N' := N21) (hf23 _ (by omega)) (hf23 _ (by omega)) (hf23 _ (by omega)) (hf23 _ (by omega))
    have f9N21 : ∀ a, a ≠ x + 150 → (N21) a = N a := fun a ha => (hf23 a ha).trans ((fun _ _ => rfl) a ha)
    refine AR.callV [vI 2, vI t, vI (-4)] hE20 hx.1 rfl rfl rfl rfl rfl ?_
    show AR E d _ (24, [some (vA x), some (vI s), some (vI u), some (vI z)], [vI (-3)], (C, N21)) _
    refine AR.endI rfl (.inl rfl) ?_
    have e9 : m_beF ((P, n, q, p, cl, tn), (t, bg, en, ca), (gn, pu, mk), H) F s u z = (-3, (2, t, (-4), -4, -4)) := by unfold m_beF; dsimp only; repeat (first | rw [if_pos (by omega)] | rw [if_neg (by omega)])
    rw [e9]
    exact ⟨_, rfl, FN21, f9N21⟩

theorem ev_X6_moveError {d : Nat} (hd : 4 ≤ d) (hx : g_isX C x) {g : Nat} (hg : g_isG C g) (hgx : g + 13 ≤ x + 150) {P : Int → Int} {n : Int} {q p cl tn : Int → Int} {t bg en ca : Int} {gn pu mk : Int → Int} {H : List (Int × Int)} (hrB : g_rB N (g + 1) P n q p cl tn) (hrH : g_rH N (g + 7) H) (hrT : g_rT N g t bg en ca gn pu mk) (hvG : g_vG ((P, n, q, p, cl, tn), (t, bg, en, ca), (gn, pu, mk), H)) {F : m_F} (hF : g_rF N (x + 150) F) (s y k : Int) (h0 : ag_in s) (h1 : ag_in y) : ∃ o_, Ev E d 89 [vA x, vA g, vI s, vI y, vI k] (C, N) o_ ∧ g_QF C N x (m_mvF ((P, n, q, p, cl, tn), (t, bg, en, ca), (gn, pu, mk), H) F s y k) o_ := by
  obtain ⟨d, rfl⟩ : ∃ j, d = j + 1 := ⟨d - 1, by omega⟩
  have hwB : g_wB P n q p cl tn := hvG.1.1
  have hwH : g_wH H := hvG.1.2.1
  have hwS : g_wS t bg en ca gn pu mk := hvG.1.2.2
  have s1 := hwS.1
  have s2 := hwS.2.1
  have s3 := hwS.2.2.1
  refine Ev.introQ (M := ag_mX6_moveError) rfl rfl ?_
  show AR E d _ (0, [some (vA x), some (vA g), some (vI s), some (vI y), some (vI k), none, none], [], (C, N)) _
  refine AR.blk 1 (f' := (1, [some (vA x), some (vA g), some (vI s), some (vI y), some (vI k), none, none], [vI s], (C, N))) (fun _ => rfl) ?_
  refine AR.callS [vI s] (ev_X6_isSquare (by omega) s (by omega)) rfl rfl rfl rfl rfl ?_
  show AR E d _ (4, [some (vA x), some (vA g), some (vI s), some (vI y), some (vI k), none, none], [vI (if 0 ≤ s ∧ s < 36 then 1 else 0)], (C, N)) _
  refine AR.if_ne rfl (by omega) (fun c1 => ?_) (fun c1 => ?_)
  · show AR E d _ (9, [some (vA x), some (vA g), some (vI s), some (vI y), some (vI k), none, none], [], (C, N)) _
    refine AR.blk 1 (f' := (10, [some (vA x), some (vA g), some (vI s), some (vI y), some (vI k), none, none], [vI y], (C, N))) (fun _ => rfl) ?_
    refine AR.callS [vI y] (ev_X6_isDirection (by omega) y (by omega)) rfl rfl rfl rfl rfl ?_
    show AR E d _ (13, [some (vA x), some (vA g), some (vI s), some (vI y), some (vI k), none, none], [vI (if 0 ≤ y ∧ y < 4 then 1 else 0)], (C, N)) _
    refine AR.if_ne rfl (by omega) (fun c2 => ?_) (fun c2 => ?_)
    · show AR E d _ (19, [some (vA x), some (vA g), some (vI s), some (vI y), some (vI k), none, none], [], (C, N)) _
      refine AR.blk 1 (f' := (20, [some (vA x), some (vA g), some (vI s), some (vI y), some (vI k), none, none], [vA g], (C, N))) (fun _ => rfl) ?_
      refine AR.getI rfl rfl hg.1 (by decide) (v := bg) hrT.1.1 ?_
      refine AR.if_ne rfl (by omega) (fun c3 => ?_) (fun c3 => ?_)
      · show AR E d _ (35, [some (vA x), some (vA g), some (vI s), some (vI y), some (vI k), none, none], [], (C, N)) _
        refine AR.blk 1 (f' := (36, [some (vA x), some (vA g), some (vI s), some (vI y), some (vI k), none, none], [vA g], (C, N))) (fun _ => rfl) ?_
        refine AR.getI rfl rfl hg.1 (by decide) (v := en) hrT.1.2.1 ?_
        refine AR.if_eq rfl (by omega) (fun c4 => ?_) (fun c4 => ?_)
        · show AR E d _ (54, [some (vA x), some (vA g), some (vI s), some (vI y), some (vI k), none, none], [], (C, N)) _
          refine AR.blk 1 (f' := (55, [some (vA x), some (vA g), some (vI s), some (vI y), some (vI k), none, none], [vA g], (C, N))) (fun _ => rfl) ?_
          refine AR.getR rfl rfl hg.1 (by decide) rfl ?_
          refine AR.blk 1 (f' := (59, [some (vA x), some (vA g), some (vI s), some (vI y), some (vI k), none, none], [vI s, vA (g + 1)], (C, N))) (fun _ => rfl) ?_
          refine AR.callV [vI s] (ev_X0_pieceAt (by omega) hg.2.1 hrB hwB s (by omega)) hg.2.1.1 rfl rfl rfl rfl rfl ?_
          show AR E d _ (62, [some (vA x), some (vA g), some (vI s), some (vI y), some (vI k), none, none], [vI (P s)], (C, N)) _
          have f5 := hwB.1 s
          refine AR.callS [vI (P s)] (ev_X6_ownerOf (by omega) (P s) (by omega)) rfl rfl rfl rfl rfl ?_
          show AR E d _ (65, [some (vA x), some (vA g), some (vI s), some (vI y), some (vI k), none, none], [vI (m_own (P s))], (C, N)) _
          have f6 := m_own_in ((P s)) (by omega)
          refine AR.blk 1 (f' := (66, [some (vA x), some (vA g), some (vI s), some (vI y), some (vI k), none, none], [vA g, vI (m_own (P s))], (C, N))) (fun _ => rfl) ?_
          refine AR.callV [] (ev_X1_sideToMove (by omega) hg hrB hrH hrT hwB hwH (by omega)  ) hg.1 rfl rfl rfl rfl rfl ?_
          show AR E d _ (69, [some (vA x), some (vA g), some (vI s), some (vI y), some (vI k), none, none], [vI (t % 2), vI (m_own (P s))], (C, N)) _
          refine AR.ic_eq rfl (by omega) (fun c7 => ?_) (fun c7 => ?_)
          · show AR E d _ (85, [some (vA x), some (vA g), some (vI s), some (vI y), some (vI k), none, none], [], (C, N)) _
            refine AR.blk 1 (f' := (86, [some (vA x), some (vA g), some (vI s), some (vI y), some (vI k), none, none], [vA g], (C, N))) (fun _ => rfl) ?_
            refine AR.getR rfl rfl hg.1 (by decide) rfl ?_
            refine AR.blk 2 (f' := (91, [some (vA x), some (vA g), some (vI s), some (vI y), some (vI k), none, none], [vI y, vI s, vA (g + 1)], (C, N))) (fun _ => rfl) ?_
            refine AR.callV [vI s, vI y] (ev_X0_causeAgainst (by omega) hg.2.1 hrB hwB s y (by omega) (by omega)) hg.2.1.1 rfl rfl rfl rfl rfl ?_
            show AR E d _ (94, [some (vA x), some (vA g), some (vI s), some (vI y), some (vI k), none, none], [vI (m_cause P n q cl s y)], (C, N)) _
            have f8 := m_cause_in P n q cl s y
            refine AR.blk 2 (f' := (98, [some (vA x), some (vA g), some (vI s), some (vI y), some (vI k), some (vI (m_cause P n q cl s y)), none], [vI (m_cause P n q cl s y)], (C, N))) (fun _ => rfl) ?_
            refine AR.if_ne rfl (by omega) (fun c9 => ?_) (fun c9 => ?_)
            · show AR E d _ (103, [some (vA x), some (vA g), some (vI s), some (vI y), some (vI k), some (vI (m_cause P n q cl s y)), none], [], (C, N)) _
              refine AR.blk 4 (f' := (109, [some (vA x), some (vA g), some (vI s), some (vI y), some (vI k), some (vI (m_cause P n q cl s y)), none], [vI k, vI y, vI 9, vA x], (C, N))) (fun _ => rfl) ?_
              obtain ⟨_, hE10, N11, rfl, hF12, hf13⟩ := ev_X6_refuse (E := E) (d := d) (by omega) hx 9 y k
              have FN11 : g_rF N11 (x + 150) (9, y, k, -4, -4) := hF12
              have gBN11 := g_rB_fr hrB (N' := N11) (fun a z0 z1 => hf13 a (by omega))
              have gHN11 := g_rH_fr hrH (N' := N11) (fun a z0 z1 => hf13 a (by omega))
              have gTN11 := g_rT_fr hrT (N' := N11) (hf13 _ (by omega)) (hf13 _ (by omega)) (hf13 _ (by omega)) (hf13 _ (by omega))
              have f9N11 : ∀ a, a ≠ x + 150 → (N11) a = N a := fun a ha => (hf13 a ha).trans ((fun _ _ => rfl) a ha)
              refine AR.callV [vI 9, vI y, vI k] hE10 hx.1 rfl rfl rfl rfl rfl ?_
              show AR E d _ (112, [some (vA x), some (vA g), some (vI s), some (vI y), some (vI k), some (vI (m_cause P n q cl s y)), none], [vI (-3)], (C, N11)) _
              refine AR.blk 2 (f' := (115, [some (vA x), some (vA g), some (vI s), some (vI y), some (vI k), some (vI (m_cause P n q cl s y)), some (vI (-3))], [vA x], (C, N11))) (fun _ => rfl) ?_
              refine AR.getR rfl rfl hx.1 (by decide) rfl ?_
              refine AR.blk 2 (f' := (121, [some (vA x), some (vA g), some (vI s), some (vI y), some (vI k), some (vI (m_cause P n q cl s y)), some (vI (-3))], [vA g, vI (m_cause P n q cl s y), vA (x + 150)], (C, N11))) (fun _ => rfl) ?_
              refine AR.getR rfl rfl hg.1 (by decide) rfl ?_
              refine AR.blk 3 (f' := (128, [some (vA x), some (vA g), some (vI s), some (vI y), some (vI k), some (vI (m_cause P n q cl s y)), some (vI (-3))], [vI y, vI s, vI (m_cause P n q cl s y), vA (g + 1), vI (m_cause P n q cl s y), vA (x + 150)], (C, N11))) (fun _ => rfl) ?_
              refine AR.callV [vI (m_cause P n q cl s y), vI s, vI y] (ev_X0_causeDetail (by omega) hg.2.1 gBN11 hwB (m_cause P n q cl s y) s y (by omega) (by omega) (by omega)) hg.2.1.1 rfl rfl rfl rfl rfl ?_
              show AR E d _ (131, [some (vA x), some (vA g), some (vI s), some (vI y), some (vI k), some (vI (m_cause P n q cl s y)), some (vI (-3))], [vI (m_causeD P (m_cause P n q cl s y) s y), vI (m_cause P n q cl s y), vA (x + 150)], (C, N11)) _
              refine AR.callV [vI (m_cause P n q cl s y), vI (m_causeD P (m_cause P n q cl s y) s y)] (ev_X5_noteCause (by omega) (N := N11) hx.2.2.2.2.2.2.1 (m_cause P n q cl s y) (m_causeD P (m_cause P n q cl s y) s y)) hx.2.2.2.2.2.2.1 rfl rfl rfl rfl rfl ?_
              show AR E d _ (134, [some (vA x), some (vA g), some (vI s), some (vI y), some (vI k), some (vI (m_cause P n q cl s y)), some (vI (-3))], [], (C, ag_upd (ag_upd N11 (x + 150) 3 (m_cause P n q cl s y)) (x + 150) 4 (m_causeD P (m_cause P n q cl s y) s y))) _
              refine AR.blk 1 (f' := (136, [some (vA x), some (vA g), some (vI s), some (vI y), some (vI k), some (vI (m_cause P n q cl s y)), some (vI (-3))], [vI (-3)], (C, ag_upd (ag_upd N11 (x + 150) 3 (m_cause P n q cl s y)) (x + 150) 4 (m_causeD P (m_cause P n q cl s y) s y)))) (fun _ => rfl) ?_
              refine AR.endI rfl (.inl rfl) ?_
              have e9 : m_mvF ((P, n, q, p, cl, tn), (t, bg, en, ca), (gn, pu, mk), H) F s y k = (-3, (9, y, k, m_cause P n q cl s y, m_causeD P (m_cause P n q cl s y) s y)) := by unfold m_mvF; dsimp only; repeat (first | rw [if_pos (by omega)] | rw [if_neg (by omega)])
              rw [e9]
              exact ⟨_, rfl, g_rF_cause FN11 _ _, fun a ha => (ag_upd_ne ha).trans ((ag_upd_ne ha).trans (f9N11 a ha))⟩
            · show AR E d _ (101, [some (vA x), some (vA g), some (vI s), some (vI y), some (vI k), some (vI (m_cause P n q cl s y)), none], [], (C, N)) _
              refine AR.blk 1 (f' := (102, [some (vA x), some (vA g), some (vI s), some (vI y), some (vI k), some (vI (m_cause P n q cl s y)), none], [vI 0], (C, N))) (fun _ => rfl) ?_
              refine AR.endI rfl (.inl rfl) ?_
              have e9 : m_mvF ((P, n, q, p, cl, tn), (t, bg, en, ca), (gn, pu, mk), H) F s y k = (0, F) := by unfold m_mvF; dsimp only; repeat (first | rw [if_pos (by omega)] | rw [if_neg (by omega)])
              rw [e9]
              exact ⟨_, rfl, hF, (fun _ _ => rfl)⟩
          · show AR E d _ (72, [some (vA x), some (vA g), some (vI s), some (vI y), some (vI k), none, none], [], (C, N)) _
            refine AR.blk 3 (f' := (76, [some (vA x), some (vA g), some (vI s), some (vI y), some (vI k), none, none], [vA g, vI 8, vA x], (C, N))) (fun _ => rfl) ?_
            refine AR.callV [] (ev_X1_sideToMove (by omega) hg hrB hrH hrT hwB hwH (by omega)  ) hg.1 rfl rfl rfl rfl rfl ?_
            show AR E d _ (79, [some (vA x), some (vA g), some (vI s), some (vI y), some (vI k), none, none], [vI (t % 2), vI 8, vA x], (C, N)) _
            refine AR.blk 1 (f' := (81, [some (vA x), some (vA g), some (vI s), some (vI y), some (vI k), none, none], [vI k, vI (t % 2), vI 8, vA x], (C, N))) (fun _ => rfl) ?_
            obtain ⟨_, hE14, N15, rfl, hF16, hf17⟩ := ev_X6_refuse (E := E) (d := d) (by omega) hx 8 (t % 2) k
            have FN15 : g_rF N15 (x + 150) (8, t % 2, k, -4, -4) := hF16
            have gBN15 := g_rB_fr hrB (N' := N15) (fun a z0 z1 => hf17 a (by omega))
            have gHN15 := g_rH_fr hrH (N' := N15) (fun a z0 z1 => hf17 a (by omega))
            have gTN15 := g_rT_fr hrT (N' := N15) (hf17 _ (by omega)) (hf17 _ (by omega)) (hf17 _ (by omega)) (hf17 _ (by omega))
            have f9N15 : ∀ a, a ≠ x + 150 → (N15) a = N a := fun a ha => (hf17 a ha).trans ((fun _ _ => rfl) a ha)
            refine AR.callV [vI 8, vI (t % 2), vI k] hE14 hx.1 rfl rfl rfl rfl rfl ?_
            show AR E d _ (84, [some (vA x), some (vA g), some (vI s), some (vI y), some (vI k), none, none], [vI (-3)], (C, N15)) _
            refine AR.endI rfl (.inl rfl) ?_
            have e9 : m_mvF ((P, n, q, p, cl, tn), (t, bg, en, ca), (gn, pu, mk), H) F s y k = (-3, (8, t % 2, k, -4, -4)) := by unfold m_mvF; dsimp only; repeat (first | rw [if_pos (by omega)] | rw [if_neg (by omega)])
            rw [e9]
            exact ⟨_, rfl, FN15, f9N15⟩
        · show AR E d _ (42, [some (vA x), some (vA g), some (vI s), some (vI y), some (vI k), none, none], [], (C, N)) _
          refine AR.blk 3 (f' := (45, [some (vA x), some (vA g), some (vI s), some (vI y), some (vI k), none, none], [vA g, vI 4, vA x], (C, N))) (fun _ => rfl) ?_
          refine AR.getI rfl rfl hg.1 (by decide) (v := en) hrT.1.2.1 ?_
          refine AR.blk 1 (f' := (50, [some (vA x), some (vA g), some (vI s), some (vI y), some (vI k), none, none], [vI k, vI en, vI 4, vA x], (C, N))) (fun _ => rfl) ?_
          obtain ⟨_, hE18, N19, rfl, hF20, hf21⟩ := ev_X6_refuse (E := E) (d := d) (by omega) hx 4 en k
          have FN19 : g_rF N19 (x + 150) (4, en, k, -4, -4) := hF20
          have gBN19 := g_rB_fr hrB (N' := N19) (fun a z0 z1 => hf21 a (by omega))
          have gHN19 := g_rH_fr hrH (N' := N19) (fun a z0 z1 => hf21 a (by omega))
          have gTN19 := g_rT_fr hrT (N' := N19) (hf21 _ (by omega)) (hf21 _ (by omega)) (hf21 _ (by omega)) (hf21 _ (by omega))
          have f9N19 : ∀ a, a ≠ x + 150 → (N19) a = N a := fun a ha => (hf21 a ha).trans ((fun _ _ => rfl) a ha)
          refine AR.callV [vI 4, vI en, vI k] hE18 hx.1 rfl rfl rfl rfl rfl ?_
          show AR E d _ (53, [some (vA x), some (vA g), some (vI s), some (vI y), some (vI k), none, none], [vI (-3)], (C, N19)) _
          refine AR.endI rfl (.inl rfl) ?_
          have e9 : m_mvF ((P, n, q, p, cl, tn), (t, bg, en, ca), (gn, pu, mk), H) F s y k = (-3, (4, en, k, -4, -4)) := by unfold m_mvF; dsimp only; repeat (first | rw [if_pos (by omega)] | rw [if_neg (by omega)])
          rw [e9]
          exact ⟨_, rfl, FN19, f9N19⟩
      · show AR E d _ (26, [some (vA x), some (vA g), some (vI s), some (vI y), some (vI k), none, none], [], (C, N)) _
        refine AR.blk 4 (f' := (31, [some (vA x), some (vA g), some (vI s), some (vI y), some (vI k), none, none], [vI k, vI 0, vI 3, vA x], (C, N))) (fun _ => rfl) ?_
        obtain ⟨_, hE22, N23, rfl, hF24, hf25⟩ := ev_X6_refuse (E := E) (d := d) (by omega) hx 3 0 k
        have FN23 : g_rF N23 (x + 150) (3, 0, k, -4, -4) := hF24
        have gBN23 := g_rB_fr hrB (N' := N23) (fun a z0 z1 => hf25 a (by omega))
        have gHN23 := g_rH_fr hrH (N' := N23) (fun a z0 z1 => hf25 a (by omega))
        have gTN23 := g_rT_fr hrT (N' := N23) (hf25 _ (by omega)) (hf25 _ (by omega)) (hf25 _ (by omega)) (hf25 _ (by omega))
        have f9N23 : ∀ a, a ≠ x + 150 → (N23) a = N a := fun a ha => (hf25 a ha).trans ((fun _ _ => rfl) a ha)
        refine AR.callV [vI 3, vI 0, vI k] hE22 hx.1 rfl rfl rfl rfl rfl ?_
        show AR E d _ (34, [some (vA x), some (vA g), some (vI s), some (vI y), some (vI k), none, none], [vI (-3)], (C, N23)) _
        refine AR.endI rfl (.inl rfl) ?_
        have e9 : m_mvF ((P, n, q, p, cl, tn), (t, bg, en, ca), (gn, pu, mk), H) F s y k = (-3, (3, 0, k, -4, -4)) := by unfold m_mvF; dsimp only; repeat (first | rw [if_pos (by omega)] | rw [if_neg (by omega)])
        rw [e9]
        exact ⟨_, rfl, FN23, f9N23⟩
    · show AR E d _ (16, [some (vA x), some (vA g), some (vI s), some (vI y), some (vI k), none, none], [], (C, N)) _
      refine AR.blk 1 (f' := (18, [some (vA x), some (vA g), some (vI s), some (vI y), some (vI k), none, none], [vI (-2)], (C, N))) (fun _ => rfl) ?_
      refine AR.endI rfl (.inl rfl) ?_
      have e9 : m_mvF ((P, n, q, p, cl, tn), (t, bg, en, ca), (gn, pu, mk), H) F s y k = ((-2), F) := by unfold m_mvF; dsimp only; repeat (first | rw [if_pos (by omega)] | rw [if_neg (by omega)])
      rw [e9]
      exact ⟨_, rfl, hF, (fun _ _ => rfl)⟩
  · show AR E d _ (7, [some (vA x), some (vA g), some (vI s), some (vI y), some (vI k), none, none], [], (C, N)) _
    refine AR.blk 1 (f' := (8, [some (vA x), some (vA g), some (vI s), some (vI y), some (vI k), none, none], [vI (-1)], (C, N))) (fun _ => rfl) ?_
    refine AR.endI rfl (.inl rfl) ?_
    have e9 : m_mvF ((P, n, q, p, cl, tn), (t, bg, en, ca), (gn, pu, mk), H) F s y k = ((-1), F) := by unfold m_mvF; dsimp only; repeat (first | rw [if_pos (by omega)] | rw [if_neg (by omega)])
    rw [e9]
    exact ⟨_, rfl, hF, (fun _ _ => rfl)⟩
end L2A
