/-! LEVEL 2: a game of the class -/
theorem m_hs_ext {lo hi lo' hi' : Int → Int} : ∀ n : Nat, (∀ k : Int, 0 ≤ k → k < n → lo k = lo' k ∧ hi k = hi' k) → m_hs lo hi n = m_hs lo' hi' n := by
  intro n
  induction n with
  | zero => intro _; rfl
  | succ n ih =>
    intro h
    have h1 := h n (by omega) (by omega)
    show (lo n, hi n) :: m_hs lo hi n = (lo' n, hi' n) :: m_hs lo' hi' n
    rw [h1.1, h1.2, ih (fun k z0 z1 => h k z0 (by omega))]
def g_QH (C : List ag_C) (N : Nat → Int → Int) (h : Nat) (H : List (Int × Int)) : ag_O → Prop := fun r => ∃ N', r = (none, (C, N')) ∧ g_rH N' h H ∧ ∀ a, ¬ (h ≤ a ∧ a < h + 3) → N' a = N a
theorem g_rH_add {N : Nat → Int → Int} {h : Nat} {H : List (Int × Int)} (hr : g_rH N h H) (x y : Int) : g_rH (ag_upd (ag_upd (ag_upd N (h + 1) H.length x) (h + 2) H.length y) h 0 (H.length + 1)) h ((x, y) :: H) := by
  refine ⟨?_, ?_⟩
  · rw [ag_upd_eq, List.length_cons]; omega
  · have e1 : ag_upd (ag_upd (ag_upd N (h + 1) H.length x) (h + 2) H.length y) h 0 (H.length + 1) (h + 1) = ag_upd N (h + 1) H.length x (h + 1) := (ag_upd_ne (by omega)).trans (ag_upd_ne (by omega))
    have e2 : ag_upd (ag_upd (ag_upd N (h + 1) H.length x) (h + 2) H.length y) h 0 (H.length + 1) (h + 2) = ag_upd (ag_upd N (h + 1) H.length x) (h + 2) H.length y (h + 2) := ag_upd_ne (by omega)
    rw [e1, e2]
    show (ag_upd N (h + 1) H.length x (h + 1) (H.length : Nat), ag_upd (ag_upd N (h + 1) H.length x) (h + 2) H.length y (h + 2) (H.length : Nat)) :: m_hs (ag_upd N (h + 1) H.length x (h + 1)) (ag_upd (ag_upd N (h + 1) H.length x) (h + 2) H.length y (h + 2)) H.length = _
    rw [ag_upd_eq, ag_upd_eq]
    refine congrArg ((x, y) :: ·) (Eq.trans (m_hs_ext _ (fun k h0 h1 => ?_)) hr.2)
    exact ⟨ag_upd_nk (by omega), (ag_upd_nk (by omega)).trans (congrFun (ag_upd_ne (by omega)) _)⟩
theorem g_rH_fr {N N' : Nat → Int → Int} {h : Nat} {H : List (Int × Int)} (hr : g_rH N h H) (hf : ∀ a, h ≤ a → a < h + 3 → N' a = N a) : g_rH N' h H := by
  unfold g_rH
  rw [hf h (by omega) (by omega), hf (h + 1) (by omega) (by omega), hf (h + 2) (by omega) (by omega)]
  exact hr
theorem g_rB_fr {N N' : Nat → Int → Int} {b : Nat} {P : Int → Int} {n : Int} {q p cl tn : Int → Int} (hr : g_rB N b P n q p cl tn) (hf : ∀ a, b ≤ a → a < b + 6 → N' a = N a) : g_rB N' b P n q p cl tn := by
  unfold g_rB
  rw [hf b (by omega) (by omega), hf (b + 1) (by omega) (by omega), hf (b + 2) (by omega) (by omega), hf (b + 3) (by omega) (by omega), hf (b + 4) (by omega) (by omega), hf (b + 5) (by omega) (by omega)]
  exact hr
/-- (pieces, how many locks, squares, periods, closed, turns), (turn, begun, ending, carried), (gone, pushed, made), history -/
abbrev m_G : Type := ((Int → Int) × Int × (Int → Int) × (Int → Int) × (Int → Int) × (Int → Int)) × (Int × Int × Int × Int) × ((Int → Int) × (Int → Int) × (Int → Int)) × List (Int × Int)
def g_isG (C : List ag_C) (g : Nat) : Prop := C[g]? = some (1, 9, [some (g + 1), some (g + 7), none, none, none, none, some (g + 10), some (g + 11), some (g + 12)]) ∧ g_isB C (g + 1) ∧ g_isH C (g + 7) ∧ C[g + 10]? = some (8, 2, []) ∧ C[g + 11]? = some (8, 2, []) ∧ C[g + 12]? = some (8, 2, [])
def g_rT (N : Nat → Int → Int) (g : Nat) (t bg en ca : Int) (gn pu mk : Int → Int) : Prop := (N g 2 = bg ∧ N g 3 = en ∧ N g 4 = t ∧ N g 5 = ca) ∧ ∀ w, 0 ≤ w → w < 2 → N (g + 10) w = gn w ∧ N (g + 11) w = pu w ∧ N (g + 12) w = mk w
def g_rG (N : Nat → Int → Int) (g : Nat) (G : m_G) : Prop := g_rB N (g + 1) G.1.1 G.1.2.1 G.1.2.2.1 G.1.2.2.2.1 G.1.2.2.2.2.1 G.1.2.2.2.2.2 ∧ g_rH N (g + 7) G.2.2.2 ∧ g_rT N g G.2.1.1 G.2.1.2.1 G.2.1.2.2.1 G.2.1.2.2.2 G.2.2.1.1 G.2.2.1.2.1 G.2.2.1.2.2
def g_wG (G : m_G) : Prop := g_wB G.1.1 G.1.2.1 G.1.2.2.1 G.1.2.2.2.1 G.1.2.2.2.2.1 G.1.2.2.2.2.2 ∧ g_wH G.2.2.2 ∧ g_wS G.2.1.1 G.2.1.2.1 G.2.1.2.2.1 G.2.1.2.2.2 G.2.2.1.1 G.2.2.1.2.1 G.2.2.1.2.2
theorem g_rT_fr {N N' : Nat → Int → Int} {g : Nat} {t bg en ca : Int} {gn pu mk : Int → Int} (hr : g_rT N g t bg en ca gn pu mk) (h0 : N' g = N g) (h1 : N' (g + 10) = N (g + 10)) (h2 : N' (g + 11) = N (g + 11)) (h3 : N' (g + 12) = N (g + 12)) : g_rT N' g t bg en ca gn pu mk := by
  unfold g_rT
  rw [h0, h1, h2, h3]
  exact hr
theorem g_rG_fr {N N' : Nat → Int → Int} {g : Nat} {G : m_G} (hr : g_rG N g G) (hf : ∀ a, g ≤ a → a < g + 13 → N' a = N a) : g_rG N' g G :=
  ⟨g_rB_fr hr.1 (fun a h0 h1 => hf a (by omega) (by omega)), g_rH_fr hr.2.1 (fun a h0 h1 => hf a (by omega) (by omega)), g_rT_fr hr.2.2 (hf _ (by omega) (by omega)) (hf _ (by omega) (by omega)) (hf _ (by omega) (by omega)) (hf _ (by omega) (by omega))⟩
def g_QG (C : List ag_C) (N : Nat → Int → Int) (g : Nat) (o : Option av) (G : m_G) : ag_O → Prop := fun r => ∃ N', r = (o, (C, N')) ∧ g_rG N' g G ∧ ∀ a, ¬ (g ≤ a ∧ a < g + 13) → N' a = N a
section L2h
variable {E : Nat × (Int → Int)} {C : List ag_C} {N : Nat → Int → Int} {h : Nat} {H : List (Int × Int)}

theorem ev_X2_addPosition {d : Nat} (hd : 1 ≤ d) (hh : g_isH C h) (hr : g_rH N h H) (hw : g_wH H) (x y : Int) (h0 : H.length ≤ 120) : ∃ o_, Ev E d 40 [vA h, vJ x, vJ y] (C, N) o_ ∧ g_QH C N h ((x, y) :: H) o_ := by
  obtain ⟨d, rfl⟩ : ∃ j, d = j + 1 := ⟨d - 1, by omega⟩
  refine Ev.introQ (M := ag_mX2_addPosition) rfl rfl ?_
  show AR E d _ (0, [some (vA h), some (vJ x), none, some (vJ y), none], [], (C, N)) _
  refine AR.blk 1 (f' := (1, [some (vA h), some (vJ x), none, some (vJ y), none], [vA h], (C, N))) (fun _ => rfl) ?_
  refine AR.getI rfl rfl hh.1 (by decide) (v := (H.length : Int)) hr.1 ?_
  refine AR.if_lt rfl (by omega) (fun c1 => ?_) (fun c1 => ?_)
  · show AR E d _ (46, [some (vA h), some (vJ x), none, some (vJ y), none], [], (C, N)) _
    exact False.elim (by omega)
  · show AR E d _ (7, [some (vA h), some (vJ x), none, some (vJ y), none], [], (C, N)) _
    refine AR.blk 1 (f' := (8, [some (vA h), some (vJ x), none, some (vJ y), none], [vA h], (C, N))) (fun _ => rfl) ?_
    refine AR.getI rfl rfl hh.1 (by decide) (v := (H.length : Int)) hr.1 ?_
    refine AR.blk 1 (f' := (13, [some (vA h), some (vJ x), none, some (vJ y), none], [vI 121, vI (H.length : Int)], (C, N))) (fun _ => rfl) ?_
    refine AR.ic_ge rfl (by omega) (fun c2 => ?_) (fun c2 => ?_)
    · show AR E d _ (46, [some (vA h), some (vJ x), none, some (vJ y), none], [], (C, N)) _
      exact False.elim (by omega)
    · show AR E d _ (16, [some (vA h), some (vJ x), none, some (vJ y), none], [], (C, N)) _
      refine AR.blk 1 (f' := (17, [some (vA h), some (vJ x), none, some (vJ y), none], [vA h], (C, N))) (fun _ => rfl) ?_
      refine AR.getR rfl rfl hh.1 (by decide) rfl ?_
      refine AR.blk 1 (f' := (21, [some (vA h), some (vJ x), none, some (vJ y), none], [vA h, vA (h + 1)], (C, N))) (fun _ => rfl) ?_
      refine AR.getI rfl rfl hh.1 (by decide) (v := (H.length : Int)) hr.1 ?_
      refine AR.blk 1 (f' := (25, [some (vA h), some (vJ x), none, some (vJ y), none], [vJ x, vI (H.length : Int), vA (h + 1)], (C, N))) (fun _ => rfl) ?_
      refine AR.last rfl hh.2.1 (by omega) ?_
      refine AR.blk 1 (f' := (27, [some (vA h), some (vJ x), none, some (vJ y), none], [vA h], (C, ag_upd N (h + 1) (H.length : Int) x))) (fun _ => rfl) ?_
      refine AR.getR rfl rfl hh.1 (by decide) rfl ?_
      refine AR.blk 1 (f' := (31, [some (vA h), some (vJ x), none, some (vJ y), none], [vA h, vA (h + 2)], (C, ag_upd N (h + 1) (H.length : Int) x))) (fun _ => rfl) ?_
      refine AR.getI rfl rfl hh.1 (by decide) (v := (H.length : Int)) ((congrFun (ag_upd_ne (by omega)) _).trans hr.1) ?_
      refine AR.blk 1 (f' := (35, [some (vA h), some (vJ x), none, some (vJ y), none], [vJ y, vI (H.length : Int), vA (h + 2)], (C, ag_upd N (h + 1) (H.length : Int) x))) (fun _ => rfl) ?_
      refine AR.last rfl hh.2.2 (by omega) ?_
      refine AR.blk 2 (f' := (38, [some (vA h), some (vJ x), none, some (vJ y), none], [vA h, vA h], (C, ag_upd (ag_upd N (h + 1) (H.length : Int) x) (h + 2) (H.length : Int) y))) (fun _ => rfl) ?_
      refine AR.getI rfl rfl hh.1 (by decide) (v := (H.length : Int)) ((congrFun (ag_upd_ne (by omega)) _).trans ((congrFun (ag_upd_ne (by omega)) _).trans hr.1)) ?_
      refine AR.blk 2 (f' := (43, [some (vA h), some (vJ x), none, some (vJ y), none], [vI ((H.length : Int) + 1), vA h], (C, ag_upd (ag_upd N (h + 1) (H.length : Int) x) (h + 2) (H.length : Int) y))) (fun _ => rfl) ?_
      refine AR.putI rfl rfl hh.1 (by decide) (fun q => absurd q (by decide)) ?_
      refine AR.endV rfl rfl ?_
      exact ⟨_, rfl, g_rH_add hr x y, fun a ha => (ag_upd_ne (by omega)).trans ((ag_upd_ne (by omega)).trans (ag_upd_ne (by omega)))⟩

theorem ev_X2_copyHistory {d : Nat} (hd : 1 ≤ d) (hh : g_isH C h) {o : Nat} (hh2 : g_isH C o) (ho : o + 3 ≤ h ∨ h + 3 ≤ o) (hr : g_rH N o H) (hw : g_wH H) : ∃ o_, Ev E d 39 [vA h, vA o] (C, N) o_ ∧ g_QH C N h H o_ := by
  obtain ⟨d, rfl⟩ : ∃ j, d = j + 1 := ⟨d - 1, by omega⟩
  have f0 := hw.1
  refine Ev.introQ (M := ag_mX2_copyHistory) rfl rfl ?_
  show AR E d _ (0, [some (vA h), some (vA o), none], [], (C, N)) _
  refine AR.blk 2 (f' := (2, [some (vA h), some (vA o), none], [vA o, vA h], (C, N))) (fun _ => rfl) ?_
  have f1 := hw.1
  refine AR.getI rfl rfl hh2.1 (by decide) (v := (H.length : Int)) hr.1 ?_
  refine AR.putI rfl rfl hh.1 (by decide) (fun q => absurd q (by decide)) ?_
  refine AR.blk 2 (f' := (10, [some (vA h), some (vA o), some (vI 0)], [], (C, ag_upd N h 0 (H.length : Int)))) (fun _ => rfl) ?_
  suffices H10 : ∀ (j : Nat) (k : Int) (N9 : Nat → Int → Int), (121 - k).toNat < j → (0 ≤ k ∧ k ≤ H.length) → (N9 h 0 = H.length) → (∀ j, 0 ≤ j → j < k → N9 (h + 1) j = N (o + 1) j ∧ N9 (h + 2) j = N (o + 2) j) → (∀ a, ¬ (h ≤ a ∧ a < h + 3) → N9 a = N a) → AR E d ag_mX2_copyHistory (10, [some (vA h), some (vA o), some (vI k)], [], (C, N9)) (g_QH C N h H) by
    exact H10 _ _ _ (Nat.lt_succ_self _) (by omega) ag_upd_eq (fun s z1 z2 => by omega) (fun a ha => ag_upd_ne (by omega))
  intro j
  induction j with
  | zero => intro k N9 hj; exact absurd hj (Nat.not_lt_zero _)
  | succ j ih10 =>
    intro k N9 hj10 i0 hn9 hr9 hf9
    refine AR.blk 2 (f' := (12, [some (vA h), some (vA o), some (vI k)], [vA h, vI k], (C, N9))) (fun _ => rfl) ?_
    have f2 := hw.1
    refine AR.getI rfl rfl hh.1 (by decide) (v := (H.length : Int)) hn9 ?_
    refine AR.ic_ge rfl (by omega) (fun c3 => ?_) (fun c3 => ?_)
    · show AR E d _ (54, [some (vA h), some (vA o), some (vI k)], [], (C, N9)) _
      refine AR.endV rfl rfl ?_
      exact ⟨N9, rfl, ⟨hn9, (m_hs_ext _ (fun j z1 z2 => hr9 j z1 (by omega))).trans hr.2⟩, hf9⟩
    · show AR E d _ (18, [some (vA h), some (vA o), some (vI k)], [], (C, N9)) _
      refine AR.blk 2 (f' := (21, [some (vA h), some (vA o), some (vI k)], [vI 121, vI k], (C, N9))) (fun _ => rfl) ?_
      refine AR.ic_ge rfl (by omega) (fun c4 => ?_) (fun c4 => ?_)
      · show AR E d _ (54, [some (vA h), some (vA o), some (vI k)], [], (C, N9)) _
        refine AR.endV rfl rfl ?_
        exact ⟨N9, rfl, ⟨hn9, (m_hs_ext _ (fun j z1 z2 => hr9 j z1 (by omega))).trans hr.2⟩, hf9⟩
      · show AR E d _ (24, [some (vA h), some (vA o), some (vI k)], [], (C, N9)) _
        refine AR.blk 1 (f' := (25, [some (vA h), some (vA o), some (vI k)], [vA h], (C, N9))) (fun _ => rfl) ?_
        refine AR.getR rfl rfl hh.1 (by decide) rfl ?_
        refine AR.blk 2 (f' := (30, [some (vA h), some (vA o), some (vI k)], [vA o, vI k, vA (h + 1)], (C, N9))) (fun _ => rfl) ?_
        refine AR.getR rfl rfl hh2.1 (by decide) rfl ?_
        refine AR.blk 1 (f' := (34, [some (vA h), some (vA o), some (vI k)], [vI k, vA (o + 1), vI k, vA (h + 1)], (C, N9))) (fun _ => rfl) ?_
        have f5 := hw.1
        refine AR.lald rfl hh2.2.1 (by omega) (v := N (o + 1) k) (congrFun (hf9 _ (by omega)) _) ?_
        refine AR.last rfl hh.2.1 (by omega) ?_
        refine AR.blk 1 (f' := (37, [some (vA h), some (vA o), some (vI k)], [vA h], (C, ag_upd N9 (h + 1) k (N (o + 1) k)))) (fun _ => rfl) ?_
        refine AR.getR rfl rfl hh.1 (by decide) rfl ?_
        refine AR.blk 2 (f' := (42, [some (vA h), some (vA o), some (vI k)], [vA o, vI k, vA (h + 2)], (C, ag_upd N9 (h + 1) k (N (o + 1) k)))) (fun _ => rfl) ?_
        refine AR.getR rfl rfl hh2.1 (by decide) rfl ?_
        refine AR.blk 1 (f' := (46, [some (vA h), some (vA o), some (vI k)], [vI k, vA (o + 2), vI k, vA (h + 2)], (C, ag_upd N9 (h + 1) k (N (o + 1) k)))) (fun _ => rfl) ?_
        have f6 := hw.1
        refine AR.lald rfl hh2.2.2 (by omega) (v := N (o + 2) k) ((congrFun (ag_upd_ne (by omega)) _).trans (congrFun (hf9 _ (by omega)) _)) ?_
        refine AR.last rfl hh.2.2 (by omega) ?_
        refine AR.blk 2 (f' := (10, [some (vA h), some (vA o), some (vI (k + 1))], [], (C, ag_upd (ag_upd N9 (h + 1) k (N (o + 1) k)) (h + 2) k (N (o + 2) k)))) (fun _ => rfl) ?_
        exact ih10 _ _ (by omega) (by omega) ((congrFun (ag_upd_ne (by omega)) _).trans ((congrFun (ag_upd_ne (by omega)) _).trans hn9)) (fun s z1 z2 => ⟨(congrFun (ag_upd_ne (by omega)) _).trans (g_up1 (P := N (o + 1)) (fun s z1 z2 => (hr9 s z1 z2).1) s z1 z2), g_up1 (P := N (o + 2)) (fun s z1 z2 => (congrFun (ag_upd_ne (by omega)) _).trans (hr9 s z1 z2).2) s z1 z2⟩) (fun a ha => (ag_upd_ne (by omega)).trans ((ag_upd_ne (by omega)).trans (hf9 a ha)))

theorem ev_X1_copyFrom {d : Nat} (hd : 2 ≤ d) {g : Nat} (hg : g_isG C g) {o : Nat} (hg2 : g_isG C o) (ho : o + 13 ≤ g ∨ g + 13 ≤ o) {G : m_G} (hr2 : g_rG N o G) (hw2 : g_wG G) : ∃ o_, Ev E d 27 [vA g, vA o] (C, N) o_ ∧ g_QG C N g none G o_ := by
  obtain ⟨d, rfl⟩ : ∃ j, d = j + 1 := ⟨d - 1, by omega⟩
  have y0 := hw2.2.2.2.1
  refine Ev.introQ (M := ag_mX1_copyFrom) rfl rfl ?_
  show AR E d _ (0, [some (vA g), some (vA o), none], [], (C, N)) _
  refine AR.blk 1 (f' := (1, [some (vA g), some (vA o), none], [vA g], (C, N))) (fun _ => rfl) ?_
  refine AR.getR rfl rfl hg.1 (by decide) rfl ?_
  refine AR.blk 1 (f' := (5, [some (vA g), some (vA o), none], [vA o, vA (g + 1)], (C, N))) (fun _ => rfl) ?_
  refine AR.getR rfl rfl hg2.1 (by decide) rfl ?_
  obtain ⟨_, hE1, N2, rfl, hr3, hf4⟩ := ev_X0_copyBoard (E := E) (d := d) (by omega) hg.2.1 hg2.2.1 (by omega) hr2.1 hw2.1
  refine AR.callV [vA (o + 1)] hE1 hg.2.1.1 rfl rfl rfl rfl rfl ?_
  show AR E d _ (11, [some (vA g), some (vA o), none], [], (C, N2)) _
  refine AR.blk 1 (f' := (12, [some (vA g), some (vA o), none], [vA g], (C, N2))) (fun _ => rfl) ?_
  refine AR.getR rfl rfl hg.1 (by decide) rfl ?_
  refine AR.blk 1 (f' := (16, [some (vA g), some (vA o), none], [vA o, vA (g + 7)], (C, N2))) (fun _ => rfl) ?_
  refine AR.getR rfl rfl hg2.1 (by decide) rfl ?_
  obtain ⟨_, hE5, N6, rfl, hr7, hf8⟩ := ev_X2_copyHistory (E := E) (d := d) (by omega) hg.2.2.1 hg2.2.2.1 (by omega) (g_rH_fr hr2.2.1 (fun a z0 z1 => hf4 a (by omega))) hw2.2.1
  have HF2 : ∀ a, ¬ (g ≤ a ∧ a < g + 13) → N6 a = N a := fun a ha => (hf8 a (by omega)).trans (hf4 a (by omega))
  have HB2 := g_rB_fr hr3 (N' := N6) (fun a z0 z1 => hf8 a (by omega))
  have HH2 := hr7
  refine AR.callV [vA (o + 7)] hE5 hg.2.2.1.1 rfl rfl rfl rfl rfl ?_
  show AR E d _ (22, [some (vA g), some (vA o), none], [], (C, N6)) _
  refine AR.blk 2 (f' := (24, [some (vA g), some (vA o), none], [vA o, vA g], (C, N6))) (fun _ => rfl) ?_
  refine AR.getI rfl rfl hg2.1 (by decide) (v := G.2.1.2.1) ((congrFun (HF2 _ (by omega)) _).trans hr2.2.2.1.1) ?_
  refine AR.putI rfl rfl hg.1 (by decide) (fun _ => by omega) ?_
  refine AR.blk 2 (f' := (32, [some (vA g), some (vA o), none], [vA o, vA g], (C, ag_upd N6 g 2 G.2.1.2.1))) (fun _ => rfl) ?_
  refine AR.getI rfl rfl hg2.1 (by decide) (v := G.2.1.2.2.1) ((congrFun (ag_upd_ne (by omega)) _).trans ((congrFun (HF2 _ (by omega)) _).trans hr2.2.2.1.2.1)) ?_
  refine AR.putI rfl rfl hg.1 (by decide) (fun q => absurd q (by decide)) ?_
  refine AR.blk 2 (f' := (40, [some (vA g), some (vA o), none], [vA o, vA g], (C, ag_upd (ag_upd N6 g 2 G.2.1.2.1) g 3 G.2.1.2.2.1))) (fun _ => rfl) ?_
  refine AR.getI rfl rfl hg2.1 (by decide) (v := G.2.1.1) ((congrFun (ag_upd_ne (by omega)) _).trans ((congrFun (ag_upd_ne (by omega)) _).trans ((congrFun (HF2 _ (by omega)) _).trans hr2.2.2.1.2.2.1))) ?_
  refine AR.putI rfl rfl hg.1 (by decide) (fun q => absurd q (by decide)) ?_
  refine AR.blk 2 (f' := (48, [some (vA g), some (vA o), none], [vA o, vA g], (C, ag_upd (ag_upd (ag_upd N6 g 2 G.2.1.2.1) g 3 G.2.1.2.2.1) g 4 G.2.1.1))) (fun _ => rfl) ?_
  refine AR.getI rfl rfl hg2.1 (by decide) (v := G.2.1.2.2.2) ((congrFun (ag_upd_ne (by omega)) _).trans ((congrFun (ag_upd_ne (by omega)) _).trans ((congrFun (ag_upd_ne (by omega)) _).trans ((congrFun (HF2 _ (by omega)) _).trans hr2.2.2.1.2.2.2)))) ?_
  refine AR.putI rfl rfl hg.1 (by decide) (fun q => absurd q (by decide)) ?_
  refine AR.blk 4 (f' := (58, [some (vA g), some (vA o), some (vI 0)], [vI 2, vI 0], (C, ag_upd (ag_upd (ag_upd (ag_upd N6 g 2 G.2.1.2.1) g 3 G.2.1.2.2.1) g 4 G.2.1.1) g 5 G.2.1.2.2.2))) (fun _ => rfl) ?_
  refine AR.blk 2 (f' := (62, [some (vA g), some (vA o), some (vI 0)], [vA g], (C, ag_upd (ag_upd (ag_upd (ag_upd N6 g 2 G.2.1.2.1) g 3 G.2.1.2.2.1) g 4 G.2.1.1) g 5 G.2.1.2.2.2))) (fun _ => rfl) ?_
  refine AR.getR rfl rfl hg.1 (by decide) rfl ?_
  refine AR.blk 2 (f' := (67, [some (vA g), some (vA o), some (vI 0)], [vA o, vI 0, vA (g + 10)], (C, ag_upd (ag_upd (ag_upd (ag_upd N6 g 2 G.2.1.2.1) g 3 G.2.1.2.2.1) g 4 G.2.1.1) g 5 G.2.1.2.2.2))) (fun _ => rfl) ?_
  refine AR.getR rfl rfl hg2.1 (by decide) rfl ?_
  refine AR.blk 1 (f' := (71, [some (vA g), some (vA o), some (vI 0)], [vI 0, vA (o + 10), vI 0, vA (g + 10)], (C, ag_upd (ag_upd (ag_upd (ag_upd N6 g 2 G.2.1.2.1) g 3 G.2.1.2.2.1) g 4 G.2.1.1) g 5 G.2.1.2.2.2))) (fun _ => rfl) ?_
  refine AR.iald rfl hg2.2.2.2.1 (by omega) (v := G.2.2.1.1 0) ((congrFun (ag_upd_ne (by omega)) _).trans ((congrFun (ag_upd_ne (by omega)) _).trans ((congrFun (ag_upd_ne (by omega)) _).trans ((congrFun (ag_upd_ne (by omega)) _).trans ((congrFun (HF2 _ (by omega)) _).trans (hr2.2.2.2 _ (by omega) (by omega)).1))))) ?_
  refine AR.iast rfl hg.2.2.2.1 (by omega) ?_
  refine AR.blk 1 (f' := (74, [some (vA g), some (vA o), some (vI 0)], [vA g], (C, ag_upd (ag_upd (ag_upd (ag_upd (ag_upd N6 g 2 G.2.1.2.1) g 3 G.2.1.2.2.1) g 4 G.2.1.1) g 5 G.2.1.2.2.2) (g + 10) 0 (G.2.2.1.1 0)))) (fun _ => rfl) ?_
  refine AR.getR rfl rfl hg.1 (by decide) rfl ?_
  refine AR.blk 2 (f' := (79, [some (vA g), some (vA o), some (vI 0)], [vA o, vI 0, vA (g + 11)], (C, ag_upd (ag_upd (ag_upd (ag_upd (ag_upd N6 g 2 G.2.1.2.1) g 3 G.2.1.2.2.1) g 4 G.2.1.1) g 5 G.2.1.2.2.2) (g + 10) 0 (G.2.2.1.1 0)))) (fun _ => rfl) ?_
  refine AR.getR rfl rfl hg2.1 (by decide) rfl ?_
  refine AR.blk 1 (f' := (83, [some (vA g), some (vA o), some (vI 0)], [vI 0, vA (o + 11), vI 0, vA (g + 11)], (C, ag_upd (ag_upd (ag_upd (ag_upd (ag_upd N6 g 2 G.2.1.2.1) g 3 G.2.1.2.2.1) g 4 G.2.1.1) g 5 G.2.1.2.2.2) (g + 10) 0 (G.2.2.1.1 0)))) (fun _ => rfl) ?_
  refine AR.iald rfl hg2.2.2.2.2.1 (by omega) (v := G.2.2.1.2.1 0) ((congrFun (ag_upd_ne (by omega)) _).trans ((congrFun (ag_upd_ne (by omega)) _).trans ((congrFun (ag_upd_ne (by omega)) _).trans ((congrFun (ag_upd_ne (by omega)) _).trans ((congrFun (ag_upd_ne (by omega)) _).trans ((congrFun (HF2 _ (by omega)) _).trans (hr2.2.2.2 _ (by omega) (by omega)).2.1)))))) ?_
  refine AR.iast rfl hg.2.2.2.2.1 (by omega) ?_
  refine AR.blk 1 (f' := (86, [some (vA g), some (vA o), some (vI 0)], [vA g], (C, ag_upd (ag_upd (ag_upd (ag_upd (ag_upd (ag_upd N6 g 2 G.2.1.2.1) g 3 G.2.1.2.2.1) g 4 G.2.1.1) g 5 G.2.1.2.2.2) (g + 10) 0 (G.2.2.1.1 0)) (g + 11) 0 (G.2.2.1.2.1 0)))) (fun _ => rfl) ?_
  refine AR.getR rfl rfl hg.1 (by decide) rfl ?_
  refine AR.blk 2 (f' := (91, [some (vA g), some (vA o), some (vI 0)], [vA o, vI 0, vA (g + 12)], (C, ag_upd (ag_upd (ag_upd (ag_upd (ag_upd (ag_upd N6 g 2 G.2.1.2.1) g 3 G.2.1.2.2.1) g 4 G.2.1.1) g 5 G.2.1.2.2.2) (g + 10) 0 (G.2.2.1.1 0)) (g + 11) 0 (G.2.2.1.2.1 0)))) (fun _ => rfl) ?_
  refine AR.getR rfl rfl hg2.1 (by decide) rfl ?_
  refine AR.blk 1 (f' := (95, [some (vA g), some (vA o), some (vI 0)], [vI 0, vA (o + 12), vI 0, vA (g + 12)], (C, ag_upd (ag_upd (ag_upd (ag_upd (ag_upd (ag_upd N6 g 2 G.2.1.2.1) g 3 G.2.1.2.2.1) g 4 G.2.1.1) g 5 G.2.1.2.2.2) (g + 10) 0 (G.2.2.1.1 0)) (g + 11) 0 (G.2.2.1.2.1 0)))) (fun _ => rfl) ?_
  refine AR.iald rfl hg2.2.2.2.2.2 (by omega) (v := G.2.2.1.2.2 0) ((congrFun (ag_upd_ne (by omega)) _).trans ((congrFun (ag_upd_ne (by omega)) _).trans ((congrFun (ag_upd_ne (by omega)) _).trans ((congrFun (ag_upd_ne (by omega)) _).trans ((congrFun (ag_upd_ne (by omega)) _).trans ((congrFun (ag_upd_ne (by omega)) _).trans ((congrFun (HF2 _ (by omega)) _).trans (hr2.2.2.2 _ (by omega) (by omega)).2.2))))))) ?_
  refine AR.iast rfl hg.2.2.2.2.2 (by omega) ?_
  refine AR.blk 4 (f' := (58, [some (vA g), some (vA o), some (vI 1)], [vI 2, vI 1], (C, ag_upd (ag_upd (ag_upd (ag_upd (ag_upd (ag_upd (ag_upd N6 g 2 G.2.1.2.1) g 3 G.2.1.2.2.1) g 4 G.2.1.1) g 5 G.2.1.2.2.2) (g + 10) 0 (G.2.2.1.1 0)) (g + 11) 0 (G.2.2.1.2.1 0)) (g + 12) 0 (G.2.2.1.2.2 0)))) (fun _ => rfl) ?_
  refine AR.blk 2 (f' := (62, [some (vA g), some (vA o), some (vI 1)], [vA g], (C, ag_upd (ag_upd (ag_upd (ag_upd (ag_upd (ag_upd (ag_upd N6 g 2 G.2.1.2.1) g 3 G.2.1.2.2.1) g 4 G.2.1.1) g 5 G.2.1.2.2.2) (g + 10) 0 (G.2.2.1.1 0)) (g + 11) 0 (G.2.2.1.2.1 0)) (g + 12) 0 (G.2.2.1.2.2 0)))) (fun _ => rfl) ?_
  refine AR.getR rfl rfl hg.1 (by decide) rfl ?_
  refine AR.blk 2 (f' := (67, [some (vA g), some (vA o), some (vI 1)], [vA o, vI 1, vA (g + 10)], (C, ag_upd (ag_upd (ag_upd (ag_upd (ag_upd (ag_upd (ag_upd N6 g 2 G.2.1.2.1) g 3 G.2.1.2.2.1) g 4 G.2.1.1) g 5 G.2.1.2.2.2) (g + 10) 0 (G.2.2.1.1 0)) (g + 11) 0 (G.2.2.1.2.1 0)) (g + 12) 0 (G.2.2.1.2.2 0)))) (fun _ => rfl) ?_
  refine AR.getR rfl rfl hg2.1 (by decide) rfl ?_
  refine AR.blk 1 (f' := (71, [some (vA g), some (vA o), some (vI 1)], [vI 1, vA (o + 10), vI 1, vA (g + 10)], (C, ag_upd (ag_upd (ag_upd (ag_upd (ag_upd (ag_upd (ag_upd N6 g 2 G.2.1.2.1) g 3 G.2.1.2.2.1) g 4 G.2.1.1) g 5 G.2.1.2.2.2) (g + 10) 0 (G.2.2.1.1 0)) (g + 11) 0 (G.2.2.1.2.1 0)) (g + 12) 0 (G.2.2.1.2.2 0)))) (fun _ => rfl) ?_
  refine AR.iald rfl hg2.2.2.2.1 (by omega) (v := G.2.2.1.1 1) ((congrFun (ag_upd_ne (by omega)) _).trans ((congrFun (ag_upd_ne (by omega)) _).trans ((congrFun (ag_upd_ne (by omega)) _).trans ((congrFun (ag_upd_ne (by omega)) _).trans ((congrFun (ag_upd_ne (by omega)) _).trans ((congrFun (ag_upd_ne (by omega)) _).trans ((congrFun (ag_upd_ne (by omega)) _).trans ((congrFun (HF2 _ (by omega)) _).trans (hr2.2.2.2 _ (by omega) (by omega)).1)))))))) ?_
  refine AR.iast rfl hg.2.2.2.1 (by omega) ?_
  refine AR.blk 1 (f' := (74, [some (vA g), some (vA o), some (vI 1)], [vA g], (C, ag_upd (ag_upd (ag_upd (ag_upd (ag_upd (ag_upd (ag_upd (ag_upd N6 g 2 G.2.1.2.1) g 3 G.2.1.2.2.1) g 4 G.2.1.1) g 5 G.2.1.2.2.2) (g + 10) 0 (G.2.2.1.1 0)) (g + 11) 0 (G.2.2.1.2.1 0)) (g + 12) 0 (G.2.2.1.2.2 0)) (g + 10) 1 (G.2.2.1.1 1)))) (fun _ => rfl) ?_
  refine AR.getR rfl rfl hg.1 (by decide) rfl ?_
  refine AR.blk 2 (f' := (79, [some (vA g), some (vA o), some (vI 1)], [vA o, vI 1, vA (g + 11)], (C, ag_upd (ag_upd (ag_upd (ag_upd (ag_upd (ag_upd (ag_upd (ag_upd N6 g 2 G.2.1.2.1) g 3 G.2.1.2.2.1) g 4 G.2.1.1) g 5 G.2.1.2.2.2) (g + 10) 0 (G.2.2.1.1 0)) (g + 11) 0 (G.2.2.1.2.1 0)) (g + 12) 0 (G.2.2.1.2.2 0)) (g + 10) 1 (G.2.2.1.1 1)))) (fun _ => rfl) ?_
  refine AR.getR rfl rfl hg2.1 (by decide) rfl ?_
  refine AR.blk 1 (f' := (83, [some (vA g), some (vA o), some (vI 1)], [vI 1, vA (o + 11), vI 1, vA (g + 11)], (C, ag_upd (ag_upd (ag_upd (ag_upd (ag_upd (ag_upd (ag_upd (ag_upd N6 g 2 G.2.1.2.1) g 3 G.2.1.2.2.1) g 4 G.2.1.1) g 5 G.2.1.2.2.2) (g + 10) 0 (G.2.2.1.1 0)) (g + 11) 0 (G.2.2.1.2.1 0)) (g + 12) 0 (G.2.2.1.2.2 0)) (g + 10) 1 (G.2.2.1.1 1)))) (fun _ => rfl) ?_
  refine AR.iald rfl hg2.2.2.2.2.1 (by omega) (v := G.2.2.1.2.1 1) ((congrFun (ag_upd_ne (by omega)) _).trans ((congrFun (ag_upd_ne (by omega)) _).trans ((congrFun (ag_upd_ne (by omega)) _).trans ((congrFun (ag_upd_ne (by omega)) _).trans ((congrFun (ag_upd_ne (by omega)) _).trans ((congrFun (ag_upd_ne (by omega)) _).trans ((congrFun (ag_upd_ne (by omega)) _).trans ((congrFun (ag_upd_ne (by omega)) _).trans ((congrFun (HF2 _ (by omega)) _).trans (hr2.2.2.2 _ (by omega) (by omega)).2.1))))))))) ?_
  refine AR.iast rfl hg.2.2.2.2.1 (by omega) ?_
  refine AR.blk 1 (f' := (86, [some (vA g), some (vA o), some (vI 1)], [vA g], (C, ag_upd (ag_upd (ag_upd (ag_upd (ag_upd (ag_upd (ag_upd (ag_upd (ag_upd N6 g 2 G.2.1.2.1) g 3 G.2.1.2.2.1) g 4 G.2.1.1) g 5 G.2.1.2.2.2) (g + 10) 0 (G.2.2.1.1 0)) (g + 11) 0 (G.2.2.1.2.1 0)) (g + 12) 0 (G.2.2.1.2.2 0)) (g + 10) 1 (G.2.2.1.1 1)) (g + 11) 1 (G.2.2.1.2.1 1)))) (fun _ => rfl) ?_
  refine AR.getR rfl rfl hg.1 (by decide) rfl ?_
  refine AR.blk 2 (f' := (91, [some (vA g), some (vA o), some (vI 1)], [vA o, vI 1, vA (g + 12)], (C, ag_upd (ag_upd (ag_upd (ag_upd (ag_upd (ag_upd (ag_upd (ag_upd (ag_upd N6 g 2 G.2.1.2.1) g 3 G.2.1.2.2.1) g 4 G.2.1.1) g 5 G.2.1.2.2.2) (g + 10) 0 (G.2.2.1.1 0)) (g + 11) 0 (G.2.2.1.2.1 0)) (g + 12) 0 (G.2.2.1.2.2 0)) (g + 10) 1 (G.2.2.1.1 1)) (g + 11) 1 (G.2.2.1.2.1 1)))) (fun _ => rfl) ?_
  refine AR.getR rfl rfl hg2.1 (by decide) rfl ?_
  refine AR.blk 1 (f' := (95, [some (vA g), some (vA o), some (vI 1)], [vI 1, vA (o + 12), vI 1, vA (g + 12)], (C, ag_upd (ag_upd (ag_upd (ag_upd (ag_upd (ag_upd (ag_upd (ag_upd (ag_upd N6 g 2 G.2.1.2.1) g 3 G.2.1.2.2.1) g 4 G.2.1.1) g 5 G.2.1.2.2.2) (g + 10) 0 (G.2.2.1.1 0)) (g + 11) 0 (G.2.2.1.2.1 0)) (g + 12) 0 (G.2.2.1.2.2 0)) (g + 10) 1 (G.2.2.1.1 1)) (g + 11) 1 (G.2.2.1.2.1 1)))) (fun _ => rfl) ?_
  refine AR.iald rfl hg2.2.2.2.2.2 (by omega) (v := G.2.2.1.2.2 1) ((congrFun (ag_upd_ne (by omega)) _).trans ((congrFun (ag_upd_ne (by omega)) _).trans ((congrFun (ag_upd_ne (by omega)) _).trans ((congrFun (ag_upd_ne (by omega)) _).trans ((congrFun (ag_upd_ne (by omega)) _).trans ((congrFun (ag_upd_ne (by omega)) _).trans ((congrFun (ag_upd_ne (by omega)) _).trans ((congrFun (ag_upd_ne (by omega)) _).trans ((congrFun (ag_upd_ne (by omega)) _).trans ((congrFun (HF2 _ (by omega)) _).trans (hr2.2.2.2 _ (by omega) (by omega)).2.2)))))))))) ?_
  refine AR.iast rfl hg.2.2.2.2.2 (by omega) ?_
  refine AR.blk 4 (f' := (58, [some (vA g), some (vA o), some (vI 2)], [vI 2, vI 2], (C, ag_upd (ag_upd (ag_upd (ag_upd (ag_upd (ag_upd (ag_upd (ag_upd (ag_upd (ag_upd N6 g 2 G.2.1.2.1) g 3 G.2.1.2.2.1) g 4 G.2.1.1) g 5 G.2.1.2.2.2) (g + 10) 0 (G.2.2.1.1 0)) (g + 11) 0 (G.2.2.1.2.1 0)) (g + 12) 0 (G.2.2.1.2.2 0)) (g + 10) 1 (G.2.2.1.1 1)) (g + 11) 1 (G.2.2.1.2.1 1)) (g + 12) 1 (G.2.2.1.2.2 1)))) (fun _ => rfl) ?_
  refine AR.blk 1 (f' := (103, [some (vA g), some (vA o), some (vI 2)], [], (C, ag_upd (ag_upd (ag_upd (ag_upd (ag_upd (ag_upd (ag_upd (ag_upd (ag_upd (ag_upd N6 g 2 G.2.1.2.1) g 3 G.2.1.2.2.1) g 4 G.2.1.1) g 5 G.2.1.2.2.2) (g + 10) 0 (G.2.2.1.1 0)) (g + 11) 0 (G.2.2.1.2.1 0)) (g + 12) 0 (G.2.2.1.2.2 0)) (g + 10) 1 (G.2.2.1.1 1)) (g + 11) 1 (G.2.2.1.2.1 1)) (g + 12) 1 (G.2.2.1.2.2 1)))) (fun _ => rfl) ?_
  refine AR.endV rfl rfl ?_
  have y0 := hw2.2.2.2.1
  refine ⟨_, rfl, ⟨g_rB_fr HB2 (fun a z0 z1 => (ag_upd_ne (by omega)).trans ((ag_upd_ne (by omega)).trans ((ag_upd_ne (by omega)).trans ((ag_upd_ne (by omega)).trans ((ag_upd_ne (by omega)).trans ((ag_upd_ne (by omega)).trans ((ag_upd_ne (by omega)).trans ((ag_upd_ne (by omega)).trans ((ag_upd_ne (by omega)).trans ((ag_upd_ne (by omega)))))))))))), g_rH_fr HH2 (fun a z0 z1 => (ag_upd_ne (by omega)).trans ((ag_upd_ne (by omega)).trans ((ag_upd_ne (by omega)).trans ((ag_upd_ne (by omega)).trans ((ag_upd_ne (by omega)).trans ((ag_upd_ne (by omega)).trans ((ag_upd_ne (by omega)).trans ((ag_upd_ne (by omega)).trans ((ag_upd_ne (by omega)).trans ((ag_upd_ne (by omega)))))))))))), ⟨by simp [ag_upd], by simp [ag_upd], by simp [ag_upd], by simp [ag_upd]⟩, fun w z0 z1 => ?_⟩, fun a ha => (ag_upd_ne (by omega)).trans ((ag_upd_ne (by omega)).trans ((ag_upd_ne (by omega)).trans ((ag_upd_ne (by omega)).trans ((ag_upd_ne (by omega)).trans ((ag_upd_ne (by omega)).trans ((ag_upd_ne (by omega)).trans ((ag_upd_ne (by omega)).trans ((ag_upd_ne (by omega)).trans ((ag_upd_ne (by omega)).trans (HF2 a ha))))))))))⟩
  have e : w = 0 ∨ w = 1 := by omega
  rcases e with rfl | rfl <;> simp [ag_upd]
end L2h
