/-! LEVEL 2: a game of the class: its methods -/
theorem g_rT_bg {N : Nat → Int → Int} {g : Nat} {t bg en ca : Int} {gn pu mk : Int → Int} (hr : g_rT N g t bg en ca gn pu mk) (z : Int) : g_rT (ag_upd N g 2 z) g t z en ca gn pu mk := by
  refine ⟨⟨ag_upd_eq, ?_, ?_, ?_⟩, fun w z0 z1 => ?_⟩
  · rw [ag_upd_nk (by omega)]; exact hr.1.2.1
  · rw [ag_upd_nk (by omega)]; exact hr.1.2.2.1
  · rw [ag_upd_nk (by omega)]; exact hr.1.2.2.2
  · rw [ag_upd_ne (by omega), ag_upd_ne (by omega), ag_upd_ne (by omega)]; exact hr.2 w z0 z1
theorem g_rT_en {N : Nat → Int → Int} {g : Nat} {t bg en ca : Int} {gn pu mk : Int → Int} (hr : g_rT N g t bg en ca gn pu mk) (z : Int) : g_rT (ag_upd N g 3 z) g t bg z ca gn pu mk := by
  refine ⟨⟨?_, ag_upd_eq, ?_, ?_⟩, fun w z0 z1 => ?_⟩
  · rw [ag_upd_nk (by omega)]; exact hr.1.1
  · rw [ag_upd_nk (by omega)]; exact hr.1.2.2.1
  · rw [ag_upd_nk (by omega)]; exact hr.1.2.2.2
  · rw [ag_upd_ne (by omega), ag_upd_ne (by omega), ag_upd_ne (by omega)]; exact hr.2 w z0 z1
theorem g_rT_t {N : Nat → Int → Int} {g : Nat} {t bg en ca : Int} {gn pu mk : Int → Int} (hr : g_rT N g t bg en ca gn pu mk) (z : Int) : g_rT (ag_upd N g 4 z) g z bg en ca gn pu mk := by
  refine ⟨⟨?_, ?_, ag_upd_eq, ?_⟩, fun w z0 z1 => ?_⟩
  · rw [ag_upd_nk (by omega)]; exact hr.1.1
  · rw [ag_upd_nk (by omega)]; exact hr.1.2.1
  · rw [ag_upd_nk (by omega)]; exact hr.1.2.2.2
  · rw [ag_upd_ne (by omega), ag_upd_ne (by omega), ag_upd_ne (by omega)]; exact hr.2 w z0 z1
theorem g_rT_ca {N : Nat → Int → Int} {g : Nat} {t bg en ca : Int} {gn pu mk : Int → Int} (hr : g_rT N g t bg en ca gn pu mk) (z : Int) : g_rT (ag_upd N g 5 z) g t bg en z gn pu mk := by
  refine ⟨⟨?_, ?_, ?_, ag_upd_eq⟩, fun w z0 z1 => ?_⟩
  · rw [ag_upd_nk (by omega)]; exact hr.1.1
  · rw [ag_upd_nk (by omega)]; exact hr.1.2.1
  · rw [ag_upd_nk (by omega)]; exact hr.1.2.2.1
  · rw [ag_upd_ne (by omega), ag_upd_ne (by omega), ag_upd_ne (by omega)]; exact hr.2 w z0 z1
theorem m_set_up {N : Nat → Int → Int} {a : Nat} {f : Int → Int} (s z k : Int) (h : N a k = f k) : ag_upd N a s z a k = m_set f s z k := by
  unfold m_set
  by_cases e : k = s
  · subst e; rw [if_pos rfl]; exact ag_upd_eq
  · rw [if_neg e, ag_upd_nk e]; exact h
theorem g_rT_gn {N : Nat → Int → Int} {g : Nat} {t bg en ca : Int} {gn pu mk : Int → Int} (hr : g_rT N g t bg en ca gn pu mk) (s z : Int) : g_rT (ag_upd N (g + 10) s z) g t bg en ca (m_set gn s z) pu mk := by
  refine ⟨by rw [ag_upd_ne (by omega)]; exact hr.1, fun w z0 z1 => ⟨m_set_up s z w (hr.2 w z0 z1).1, ?_⟩⟩
  rw [ag_upd_ne (by omega), ag_upd_ne (by omega)]; exact (hr.2 w z0 z1).2
theorem g_rT_pu {N : Nat → Int → Int} {g : Nat} {t bg en ca : Int} {gn pu mk : Int → Int} (hr : g_rT N g t bg en ca gn pu mk) (s z : Int) : g_rT (ag_upd N (g + 11) s z) g t bg en ca gn (m_set pu s z) mk := by
  refine ⟨by rw [ag_upd_ne (by omega)]; exact hr.1, fun w z0 z1 => ⟨?_, m_set_up s z w (hr.2 w z0 z1).2.1, ?_⟩⟩
  · rw [ag_upd_ne (by omega)]; exact (hr.2 w z0 z1).1
  · rw [ag_upd_ne (by omega)]; exact (hr.2 w z0 z1).2.2
theorem g_rT_mk {N : Nat → Int → Int} {g : Nat} {t bg en ca : Int} {gn pu mk : Int → Int} (hr : g_rT N g t bg en ca gn pu mk) (s z : Int) : g_rT (ag_upd N (g + 12) s z) g t bg en ca gn pu (m_set mk s z) := by
  refine ⟨by rw [ag_upd_ne (by omega)]; exact hr.1, fun w z0 z1 => ⟨?_, ?_, m_set_up s z w (hr.2 w z0 z1).2.2⟩⟩
  · rw [ag_upd_ne (by omega)]; exact (hr.2 w z0 z1).1
  · rw [ag_upd_ne (by omega)]; exact (hr.2 w z0 z1).2.1
def m_tdP (P : Int → Int) (n : Int) (q cl : Int → Int) (t : Int) : Int → Int := if t / 4 % 4 = 1 then (m_rv P n q cl 0 6).1 else if t / 4 % 4 = 3 then (m_rv P n q cl 2 6).1 else P
def m_tdC (P : Int → Int) (n : Int) (q cl : Int → Int) (t ca : Int) : Int := if t / 4 % 4 = 1 then ca + (m_rv P n q cl 0 6).2 else if t / 4 % 4 = 3 then ca + (m_rv P n q cl 2 6).2 else ca
theorem m_tdP_w {P : Int → Int} {n : Int} {q p cl tn : Int → Int} (hw : g_wB P n q p cl tn) (t : Int) : g_wB (m_tdP P n q cl t) n q p cl tn := by
  unfold m_tdP
  split
  · exact m_rv_w hw (by omega) 6 (by omega)
  · split
    · exact m_rv_w hw (by omega) 6 (by omega)
    · exact hw
theorem m_key_in (P cl : Int → Int) (w : Int) (h : ∀ s, -1 ≤ P s ∧ P s ≤ 3) (hc : ∀ k, (cl k = 0 ∨ cl k = 1)) (hw : 0 ≤ w ∧ w < 2) : ag_inL (m_key P cl w).1 ∧ ag_inL (m_key P cl w).2 := by
  have h1 := m_hk_18 P h 0
  have h2 := m_hk_18 P h 18
  have h3 := m_ckey_in cl hc
  show ag_inL (m_hk P 0 18) ∧ ag_inL (m_hk P 18 18 * 32 + (m_ckey cl * 2 + w))
  omega
theorem g_wH_cons {H : List (Int × Int)} (hw : g_wH H) (h : H.length ≤ 120) {x : Int × Int} (hx : ag_inL x.1 ∧ ag_inL x.2) : g_wH (x :: H) := by
  refine ⟨by rw [List.length_cons]; omega, fun y hy => ?_⟩
  rcases List.mem_cons.1 hy with e | e
  · rw [e]; exact hx
  · exact hw.2 y e
/-- the ending, and the answer, of a game that went on till now -/
def m_stl (P : Int → Int) (n : Int) (q cl : Int → Int) (t : Int) (H : List (Int × Int)) : Int := if m_cnt P 0 = 0 then 2 else if m_cnt P 1 = 0 then 1 else if 3 ≤ m_tl H then 3 else if m_mv P n q cl (t % 2) = 0 then (if t % 2 = 0 then 2 else 1) else if 120 ≤ t then 3 else 0
def m_stR (P : Int → Int) (n : Int) (q cl : Int → Int) (t : Int) (H : List (Int × Int)) : Int := if m_cnt P 0 = 0 then 0 else if m_cnt P 1 = 0 then 0 else if 3 ≤ m_tl H then m_tl H else if m_mv P n q cl (t % 2) = 0 then 0 else if 120 ≤ t then 0 else m_tl H
def m_c1 (P : Int → Int) (s x : Int) : Int → Int := m_mov (m_proP P s x) s x
def m_gcl (P : Int → Int) (n : Int) (q p cl tn : Int → Int) (t s x : Int) : Int → Int := (m_trn (m_c1 P s x) q p (t + 1) cl tn n.toNat).1
def m_gtn (P : Int → Int) (n : Int) (q p cl tn : Int → Int) (t s x : Int) : Int → Int := (m_trn (m_c1 P s x) q p (t + 1) cl tn n.toNat).2
def m_gP (P : Int → Int) (n : Int) (q p cl tn : Int → Int) (t s x : Int) : Int → Int := if (t + 1) % 4 = 0 then m_tdP (m_c1 P s x) n q (m_gcl P n q p cl tn t s x) (t + 1) else m_c1 P s x
def m_gca (P : Int → Int) (n : Int) (q p cl tn : Int → Int) (t ca s x : Int) : Int := if (t + 1) % 4 = 0 then m_tdC (m_c1 P s x) n q (m_gcl P n q p cl tn t s x) (t + 1) ca else ca
def m_gpu (P : Int → Int) (t : Int) (pu : Int → Int) (s x : Int) : Int → Int := m_set pu (t % 2) (pu (t % 2) + m_std P s x)
def m_gmk (P : Int → Int) (t : Int) (mk : Int → Int) (s x : Int) : Int → Int := if m_prom P s x = 1 then m_set mk (t % 2) (mk (t % 2) + 1) else mk
def m_ggn (P : Int → Int) (gn : Int → Int) (s x : Int) : Int → Int := if 0 ≤ m_own (m_held (m_proP P s x) s x) then m_set gn (m_own (m_held (m_proP P s x) s x)) (gn (m_own (m_held (m_proP P s x) s x)) + 1) else gn
def m_gH (P : Int → Int) (n : Int) (q p cl tn : Int → Int) (t s x : Int) (H : List (Int × Int)) : List (Int × Int) := m_key (m_gP P n q p cl tn t s x) (m_gcl P n q p cl tn t s x) ((t + 1) % 2) :: H
section L2i
variable {E : Nat × (Int → Int)} {C : List ag_C} {N : Nat → Int → Int} {g : Nat} {P : Int → Int} {n : Int} {q p cl tn : Int → Int} {t bg en ca : Int} {gn pu mk : Int → Int} {H : List (Int × Int)}

theorem m_stl_in (P : Int → Int) (n : Int) (q cl : Int → Int) (t : Int) (H : List (Int × Int)) : 0 ≤ m_stl P n q cl t H ∧ m_stl P n q cl t H ≤ 3 := by
  unfold m_stl
  omega

theorem ev_X1_sideToMove {d : Nat} (hd : 1 ≤ d) (hg : g_isG C g) (hrB : g_rB N (g + 1) P n q p cl tn) (hrH : g_rH N (g + 7) H) (hrT : g_rT N g t bg en ca gn pu mk) (hwB : g_wB P n q p cl tn) (hwH : g_wH H) (hwS : (0 ≤ t ∧ t ≤ 120) ∧ (bg = 0 ∨ bg = 1) ∧ (0 ≤ en ∧ en ≤ 3)) : Ev E d 28 [vA g] (C, N) (some (vI (t % 2)), (C, N)) := by
  obtain ⟨d, rfl⟩ : ∃ j, d = j + 1 := ⟨d - 1, by omega⟩
  have s1 := hwS.1
  have s2 := hwS.2.1
  have s3 := hwS.2.2
  refine Ev.intro (M := ag_mX1_sideToMove) rfl rfl ?_
  show AR E d _ (0, [some (vA g)], [], (C, N)) _
  refine AR.blk 1 (f' := (1, [some (vA g)], [vA g], (C, N))) (fun _ => rfl) ?_
  refine AR.getI rfl rfl hg.1 (by decide) (v := t) hrT.1.2.2.1 ?_
  refine AR.blk 1 (f' := (5, [some (vA g)], [vI 2, vI t], (C, N))) (fun _ => rfl) ?_
  refine AR.irem rfl (by omega) ?_
  exact AR.retI rfl rfl ⟨rfl, .inl rfl⟩ rfl

theorem ev_X1_tide {d : Nat} (hd : 1 ≤ d) (hg : g_isG C g) (hrB : g_rB N (g + 1) P n q p cl tn) (hrH : g_rH N (g + 7) H) (hrT : g_rT N g t bg en ca gn pu mk) (hwB : g_wB P n q p cl tn) (hwH : g_wH H) (hwS : (0 ≤ t ∧ t ≤ 120) ∧ (bg = 0 ∨ bg = 1) ∧ (0 ≤ en ∧ en ≤ 3)) : Ev E d 29 [vA g] (C, N) (some (vI (t / 4 % 4)), (C, N)) := by
  obtain ⟨d, rfl⟩ : ∃ j, d = j + 1 := ⟨d - 1, by omega⟩
  have s1 := hwS.1
  have s2 := hwS.2.1
  have s3 := hwS.2.2
  refine Ev.intro (M := ag_mX1_tide) rfl rfl ?_
  show AR E d _ (0, [some (vA g)], [], (C, N)) _
  refine AR.blk 1 (f' := (1, [some (vA g)], [vA g], (C, N))) (fun _ => rfl) ?_
  refine AR.getI rfl rfl hg.1 (by decide) (v := t) hrT.1.2.2.1 ?_
  refine AR.blk 1 (f' := (5, [some (vA g)], [vI 4, vI t], (C, N))) (fun _ => rfl) ?_
  refine AR.idiv rfl (by omega) ?_
  refine AR.blk 1 (f' := (7, [some (vA g)], [vI 4, vI (t / 4)], (C, N))) (fun _ => rfl) ?_
  refine AR.irem rfl (by omega) ?_
  exact AR.retI rfl rfl ⟨rfl, .inl rfl⟩ rfl

theorem ev_X1_goesOn {d : Nat} (hd : 1 ≤ d) (hg : g_isG C g) (hrB : g_rB N (g + 1) P n q p cl tn) (hrH : g_rH N (g + 7) H) (hrT : g_rT N g t bg en ca gn pu mk) (hwB : g_wB P n q p cl tn) (hwH : g_wH H) (hwS : (0 ≤ t ∧ t ≤ 120) ∧ (bg = 0 ∨ bg = 1) ∧ (0 ≤ en ∧ en ≤ 3)) : Ev E d 30 [vA g] (C, N) (some (vI (m_on bg en)), (C, N)) := by
  obtain ⟨d, rfl⟩ : ∃ j, d = j + 1 := ⟨d - 1, by omega⟩
  have s1 := hwS.1
  have s2 := hwS.2.1
  have s3 := hwS.2.2
  refine Ev.intro (M := ag_mX1_goesOn) rfl rfl ?_
  show AR E d _ (0, [some (vA g)], [], (C, N)) _
  refine AR.blk 1 (f' := (1, [some (vA g)], [vA g], (C, N))) (fun _ => rfl) ?_
  refine AR.getI rfl rfl hg.1 (by decide) (v := bg) hrT.1.1 ?_
  refine AR.if_eq rfl (by omega) (fun c1 => ?_) (fun c1 => ?_)
  · show AR E d _ (18, [some (vA g)], [], (C, N)) _
    refine AR.blk 1 (f' := (19, [some (vA g)], [vI 0], (C, N))) (fun _ => rfl) ?_
    exact AR.retI rfl (by unfold m_on; omega) (by decide) rfl
  · show AR E d _ (7, [some (vA g)], [], (C, N)) _
    refine AR.blk 1 (f' := (8, [some (vA g)], [vA g], (C, N))) (fun _ => rfl) ?_
    refine AR.getI rfl rfl hg.1 (by decide) (v := en) hrT.1.2.1 ?_
    refine AR.if_ne rfl (by omega) (fun c2 => ?_) (fun c2 => ?_)
    · show AR E d _ (18, [some (vA g)], [], (C, N)) _
      refine AR.blk 1 (f' := (19, [some (vA g)], [vI 0], (C, N))) (fun _ => rfl) ?_
      exact AR.retI rfl (by unfold m_on; omega) (by decide) rfl
    · show AR E d _ (14, [some (vA g)], [], (C, N)) _
      refine AR.blk 2 (f' := (19, [some (vA g)], [vI 1], (C, N))) (fun _ => rfl) ?_
      exact AR.retI rfl (by unfold m_on; omega) (by decide) rfl

theorem ev_X1_openMoves {d : Nat} (hd : 5 ≤ d) (hg : g_isG C g) (hrB : g_rB N (g + 1) P n q p cl tn) (hrH : g_rH N (g + 7) H) (hrT : g_rT N g t bg en ca gn pu mk) (hwB : g_wB P n q p cl tn) (hwH : g_wH H) (hwS : (0 ≤ t ∧ t ≤ 120) ∧ (bg = 0 ∨ bg = 1) ∧ (0 ≤ en ∧ en ≤ 3)) : Ev E d 31 [vA g] (C, N) (some (vI (if m_on bg en = 1 then m_mv P n q cl (t % 2) else 0)), (C, N)) := by
  obtain ⟨d, rfl⟩ : ∃ j, d = j + 1 := ⟨d - 1, by omega⟩
  have s1 := hwS.1
  have s2 := hwS.2.1
  have s3 := hwS.2.2
  refine Ev.intro (M := ag_mX1_openMoves) rfl rfl ?_
  show AR E d _ (0, [some (vA g)], [], (C, N)) _
  refine AR.blk 1 (f' := (1, [some (vA g)], [vA g], (C, N))) (fun _ => rfl) ?_
  refine AR.callV [] (ev_X1_goesOn (by omega) hg hrB hrH hrT hwB hwH (by omega)  ) hg.1 rfl rfl rfl rfl rfl ?_
  show AR E d _ (4, [some (vA g)], [vI (m_on bg en)], (C, N)) _
  have f1 := m_on_in bg en
  refine AR.if_eq rfl (by omega) (fun c2 => ?_) (fun c2 => ?_)
  · show AR E d _ (21, [some (vA g)], [], (C, N)) _
    refine AR.blk 1 (f' := (22, [some (vA g)], [vI 0], (C, N))) (fun _ => rfl) ?_
    exact AR.retI rfl (by omega) ⟨rfl, .inl rfl⟩ rfl
  · show AR E d _ (7, [some (vA g)], [], (C, N)) _
    refine AR.blk 1 (f' := (8, [some (vA g)], [vA g], (C, N))) (fun _ => rfl) ?_
    refine AR.getR rfl rfl hg.1 (by decide) rfl ?_
    refine AR.blk 1 (f' := (12, [some (vA g)], [vA g, vA (g + 1)], (C, N))) (fun _ => rfl) ?_
    refine AR.callV [] (ev_X1_sideToMove (by omega) hg hrB hrH hrT hwB hwH (by omega)  ) hg.1 rfl rfl rfl rfl rfl ?_
    show AR E d _ (15, [some (vA g)], [vI (t % 2), vA (g + 1)], (C, N)) _
    refine AR.callV [vI (t % 2)] (ev_X0_countMoves (by omega) hg.2.1 hrB hwB (t % 2) (by omega)) hg.2.1.1 rfl rfl rfl rfl rfl ?_
    show AR E d _ (18, [some (vA g)], [vI (m_mv P n q cl (t % 2))], (C, N)) _
    have f3 := m_mv_in P n q cl (t % 2)
    refine AR.blk 1 (f' := (22, [some (vA g)], [vI (m_mv P n q cl (t % 2))], (C, N))) (fun _ => rfl) ?_
    exact AR.retI rfl (by omega) ⟨rfl, .inl rfl⟩ rfl

theorem ev_X1_allows {d : Nat} (hd : 4 ≤ d) (hg : g_isG C g) (hrB : g_rB N (g + 1) P n q p cl tn) (hrH : g_rH N (g + 7) H) (hrT : g_rT N g t bg en ca gn pu mk) (hwB : g_wB P n q p cl tn) (hwH : g_wH H) (hwS : (0 ≤ t ∧ t ≤ 120) ∧ (bg = 0 ∨ bg = 1) ∧ (0 ≤ en ∧ en ≤ 3)) (s x : Int) (h0 : 0 ≤ s ∧ s < 36) (h1 : 0 ≤ x ∧ x < 4) : Ev E d 32 [vA g, vI s, vI x] (C, N) (some (vI (m_open P n q cl t bg en (4 * s + x))), (C, N)) := by
  obtain ⟨d, rfl⟩ : ∃ j, d = j + 1 := ⟨d - 1, by omega⟩
  have s1 := hwS.1
  have s2 := hwS.2.1
  have s3 := hwS.2.2
  refine Ev.intro (M := ag_mX1_allows) rfl rfl ?_
  show AR E d _ (0, [some (vA g), some (vI s), some (vI x)], [], (C, N)) _
  refine AR.blk 1 (f' := (1, [some (vA g), some (vI s), some (vI x)], [vA g], (C, N))) (fun _ => rfl) ?_
  refine AR.callV [] (ev_X1_goesOn (by omega) hg hrB hrH hrT hwB hwH (by omega)  ) hg.1 rfl rfl rfl rfl rfl ?_
  show AR E d _ (4, [some (vA g), some (vI s), some (vI x)], [vI (m_on bg en)], (C, N)) _
  have f1 := m_on_in bg en
  refine AR.if_eq rfl (by omega) (fun c2 => ?_) (fun c2 => ?_)
  · show AR E d _ (41, [some (vA g), some (vI s), some (vI x)], [], (C, N)) _
    refine AR.blk 1 (f' := (42, [some (vA g), some (vI s), some (vI x)], [vI 0], (C, N))) (fun _ => rfl) ?_
    exact AR.retI rfl (by unfold m_open; rw [show (4 * s + x) / 4 = s by omega, show (4 * s + x) % 4 = x by omega]; omega) (by decide) rfl
  · show AR E d _ (7, [some (vA g), some (vI s), some (vI x)], [], (C, N)) _
    refine AR.blk 1 (f' := (8, [some (vA g), some (vI s), some (vI x)], [vA g], (C, N))) (fun _ => rfl) ?_
    refine AR.getR rfl rfl hg.1 (by decide) rfl ?_
    refine AR.blk 1 (f' := (12, [some (vA g), some (vI s), some (vI x)], [vI s, vA (g + 1)], (C, N))) (fun _ => rfl) ?_
    refine AR.callV [vI s] (ev_X0_pieceAt (by omega) hg.2.1 hrB hwB s (by omega)) hg.2.1.1 rfl rfl rfl rfl rfl ?_
    show AR E d _ (15, [some (vA g), some (vI s), some (vI x)], [vI (P s)], (C, N)) _
    have f3 := hwB.1 s
    refine AR.callS [vI (P s)] (ev_X6_ownerOf (by omega) (P s) (by omega)) rfl rfl rfl rfl rfl ?_
    show AR E d _ (18, [some (vA g), some (vI s), some (vI x)], [vI (m_own (P s))], (C, N)) _
    have f4 := m_own_in ((P s)) (by omega)
    refine AR.blk 1 (f' := (19, [some (vA g), some (vI s), some (vI x)], [vA g, vI (m_own (P s))], (C, N))) (fun _ => rfl) ?_
    refine AR.callV [] (ev_X1_sideToMove (by omega) hg hrB hrH hrT hwB hwH (by omega)  ) hg.1 rfl rfl rfl rfl rfl ?_
    show AR E d _ (22, [some (vA g), some (vI s), some (vI x)], [vI (t % 2), vI (m_own (P s))], (C, N)) _
    refine AR.ic_ne rfl (by omega) (fun c5 => ?_) (fun c5 => ?_)
    · show AR E d _ (41, [some (vA g), some (vI s), some (vI x)], [], (C, N)) _
      refine AR.blk 1 (f' := (42, [some (vA g), some (vI s), some (vI x)], [vI 0], (C, N))) (fun _ => rfl) ?_
      exact AR.retI rfl (by unfold m_open; rw [show (4 * s + x) / 4 = s by omega, show (4 * s + x) % 4 = x by omega]; omega) (by decide) rfl
    · show AR E d _ (25, [some (vA g), some (vI s), some (vI x)], [], (C, N)) _
      refine AR.blk 1 (f' := (26, [some (vA g), some (vI s), some (vI x)], [vA g], (C, N))) (fun _ => rfl) ?_
      refine AR.getR rfl rfl hg.1 (by decide) rfl ?_
      refine AR.blk 2 (f' := (31, [some (vA g), some (vI s), some (vI x)], [vI x, vI s, vA (g + 1)], (C, N))) (fun _ => rfl) ?_
      refine AR.callV [vI s, vI x] (ev_X0_causeAgainst (by omega) hg.2.1 hrB hwB s x (by omega) (by omega)) hg.2.1.1 rfl rfl rfl rfl rfl ?_
      show AR E d _ (34, [some (vA g), some (vI s), some (vI x)], [vI (m_cause P n q cl s x)], (C, N)) _
      have f6 := m_cause_in P n q cl s x
      refine AR.if_ne rfl (by omega) (fun c7 => ?_) (fun c7 => ?_)
      · show AR E d _ (41, [some (vA g), some (vI s), some (vI x)], [], (C, N)) _
        refine AR.blk 1 (f' := (42, [some (vA g), some (vI s), some (vI x)], [vI 0], (C, N))) (fun _ => rfl) ?_
        exact AR.retI rfl (by unfold m_open; rw [show (4 * s + x) / 4 = s by omega, show (4 * s + x) % 4 = x by omega]; omega) (by decide) rfl
      · show AR E d _ (37, [some (vA g), some (vI s), some (vI x)], [], (C, N)) _
        refine AR.blk 2 (f' := (42, [some (vA g), some (vI s), some (vI x)], [vI 1], (C, N))) (fun _ => rfl) ?_
        exact AR.retI rfl (by unfold m_open; rw [show (4 * s + x) / 4 = s by omega, show (4 * s + x) % 4 = x by omega]; omega) (by decide) rfl

theorem ev_X1_carryByTide {d : Nat} (hd : 5 ≤ d) (hg : g_isG C g) (hrB : g_rB N (g + 1) P n q p cl tn) (hrH : g_rH N (g + 7) H) (hrT : g_rT N g t bg en ca gn pu mk) (hwB : g_wB P n q p cl tn) (hwH : g_wH H) (hwS : (0 ≤ t ∧ t ≤ 120) ∧ (bg = 0 ∨ bg = 1) ∧ (0 ≤ en ∧ en ≤ 3)) : ∃ o_, Ev E d 35 [vA g] (C, N) o_ ∧ g_QG C N g none ((m_tdP P n q cl t, n, q, p, cl, tn), (t, bg, en, m_tdC P n q cl t ca), (gn, pu, mk), H) o_ := by
  obtain ⟨d, rfl⟩ : ∃ j, d = j + 1 := ⟨d - 1, by omega⟩
  have s1 := hwS.1
  have s2 := hwS.2.1
  have s3 := hwS.2.2
  refine Ev.introQ (M := ag_mX1_carryByTide) rfl rfl ?_
  show AR E d _ (0, [some (vA g)], [], (C, N)) _
  refine AR.blk 1 (f' := (1, [some (vA g)], [vA g], (C, N))) (fun _ => rfl) ?_
  refine AR.callV [] (ev_X1_tide (by omega) hg hrB hrH hrT hwB hwH (by omega)  ) hg.1 rfl rfl rfl rfl rfl ?_
  show AR E d _ (4, [some (vA g)], [vI (t / 4 % 4)], (C, N)) _
  refine AR.blk 1 (f' := (5, [some (vA g)], [vI 1, vI (t / 4 % 4)], (C, N))) (fun _ => rfl) ?_
  refine AR.ic_ne rfl (by omega) (fun c1 => ?_) (fun c1 => ?_)
  · show AR E d _ (28, [some (vA g)], [], (C, N)) _
    refine AR.blk 1 (f' := (29, [some (vA g)], [vA g], (C, N))) (fun _ => rfl) ?_
    refine AR.callV [] (ev_X1_tide (by omega) hg hrB hrH hrT hwB hwH (by omega)  ) hg.1 rfl rfl rfl rfl rfl ?_
    show AR E d _ (32, [some (vA g)], [vI (t / 4 % 4)], (C, N)) _
    refine AR.blk 1 (f' := (33, [some (vA g)], [vI 3, vI (t / 4 % 4)], (C, N))) (fun _ => rfl) ?_
    refine AR.ic_ne rfl (by omega) (fun c2 => ?_) (fun c2 => ?_)
    · show AR E d _ (53, [some (vA g)], [], (C, N)) _
      refine AR.endV rfl rfl ?_
      have e1 : m_tdP P n q cl t = P := by unfold m_tdP; first | rw [if_pos (by omega)] | rw [if_neg (by omega), if_pos (by omega)] | rw [if_neg (by omega), if_neg (by omega)]
      have e2 : m_tdC P n q cl t ca = ca := by unfold m_tdC; first | rw [if_pos (by omega)] | rw [if_neg (by omega), if_pos (by omega)] | rw [if_neg (by omega), if_neg (by omega)]
      rw [e1, e2]
      exact ⟨_, rfl, ⟨hrB, hrH, hrT⟩, (fun _ _ => rfl)⟩
    · show AR E d _ (36, [some (vA g)], [], (C, N)) _
      refine AR.blk 2 (f' := (38, [some (vA g)], [vA g, vA g], (C, N))) (fun _ => rfl) ?_
      refine AR.getI rfl rfl hg.1 (by decide) (v := ca) hrT.1.2.2.2 ?_
      refine AR.blk 1 (f' := (42, [some (vA g)], [vA g, vI ca, vA g], (C, N))) (fun _ => rfl) ?_
      refine AR.getR rfl rfl hg.1 (by decide) rfl ?_
      refine AR.blk 1 (f' := (46, [some (vA g)], [vI 2, vA (g + 1), vI ca, vA g], (C, N))) (fun _ => rfl) ?_
      obtain ⟨_, hE3, N4, rfl, hr5, hf6⟩ := ev_X0_carryRiver (E := E) (d := d) (by omega) hg.2.1 hrB hwB 2 (by omega)
      have whr5 := m_rv_w hwB (show 0 ≤ 2 ∧ 2 < 4 by omega) 6 (by omega)
      have FN4 : ∀ a, ¬ (g ≤ a ∧ a < g + 13) → N4 a = N a := fun a ha => (hf6 a (by omega)).trans ((fun _ _ => rfl) a ha)
      have HN4 := g_rH_fr hrH (N' := N4) (fun a z0 z1 => hf6 a (by omega))
      have TN4 := g_rT_fr hrT (N' := N4) (hf6 _ (by omega)) (hf6 _ (by omega)) (hf6 _ (by omega)) (hf6 _ (by omega))
      refine AR.callV [vI 2] hE3 hg.2.1.1 rfl rfl rfl rfl rfl ?_
      show AR E d _ (49, [some (vA g)], [vI ((m_rv P n q cl 2 6).2), vI ca, vA g], (C, N4)) _
      have f7 := m_rv_in P n q cl 2 6
      refine AR.blk 1 (f' := (50, [some (vA g)], [vI (ca + ((m_rv P n q cl 2 6).2)), vA g], (C, N4))) (fun _ => rfl) ?_
      refine AR.putI rfl rfl hg.1 (by decide) (fun q => absurd q (by decide)) ?_
      show AR E d _ (53, [some (vA g)], [], (C, ag_upd N4 g 5 (ca + ((m_rv P n q cl 2 6).2)))) _
      have TN9 := g_rT_ca TN4 (ca + ((m_rv P n q cl 2 6).2))
      have FN9 : ∀ a, ¬ (g ≤ a ∧ a < g + 13) → (ag_upd N4 g 5 (ca + ((m_rv P n q cl 2 6).2))) a = N a := fun a ha => (ag_upd_ne (by omega)).trans (FN4 a ha)
      have BN9 := g_rB_fr hr5 (N' := ag_upd N4 g 5 (ca + ((m_rv P n q cl 2 6).2))) (fun a z0 z1 => ag_upd_ne (by omega))
      have HN9 := g_rH_fr HN4 (N' := ag_upd N4 g 5 (ca + ((m_rv P n q cl 2 6).2))) (fun a z0 z1 => ag_upd_ne (by omega))
      generalize ag_upd N4 g 5 (ca + ((m_rv P n q cl 2 6).2)) = N9 at *
      refine AR.endV rfl rfl ?_
      have e1 : m_tdP P n q cl t = ((m_rv P n q cl 2 6).1) := by unfold m_tdP; first | rw [if_pos (by omega)] | rw [if_neg (by omega), if_pos (by omega)] | rw [if_neg (by omega), if_neg (by omega)]
      have e2 : m_tdC P n q cl t ca = (ca + ((m_rv P n q cl 2 6).2)) := by unfold m_tdC; first | rw [if_pos (by omega)] | rw [if_neg (by omega), if_pos (by omega)] | rw [if_neg (by omega), if_neg (by omega)]
      rw [e1, e2]
      exact ⟨_, rfl, ⟨BN9, HN9, TN9⟩, FN9⟩
  · show AR E d _ (8, [some (vA g)], [], (C, N)) _
    refine AR.blk 2 (f' := (10, [some (vA g)], [vA g, vA g], (C, N))) (fun _ => rfl) ?_
    refine AR.getI rfl rfl hg.1 (by decide) (v := ca) hrT.1.2.2.2 ?_
    refine AR.blk 1 (f' := (14, [some (vA g)], [vA g, vI ca, vA g], (C, N))) (fun _ => rfl) ?_
    refine AR.getR rfl rfl hg.1 (by decide) rfl ?_
    refine AR.blk 1 (f' := (18, [some (vA g)], [vI 0, vA (g + 1), vI ca, vA g], (C, N))) (fun _ => rfl) ?_
    obtain ⟨_, hE10, N11, rfl, hr12, hf13⟩ := ev_X0_carryRiver (E := E) (d := d) (by omega) hg.2.1 hrB hwB 0 (by omega)
    have whr12 := m_rv_w hwB (show 0 ≤ 0 ∧ 0 < 4 by omega) 6 (by omega)
    have FN11 : ∀ a, ¬ (g ≤ a ∧ a < g + 13) → N11 a = N a := fun a ha => (hf13 a (by omega)).trans ((fun _ _ => rfl) a ha)
    have HN11 := g_rH_fr hrH (N' := N11) (fun a z0 z1 => hf13 a (by omega))
    have TN11 := g_rT_fr hrT (N' := N11) (hf13 _ (by omega)) (hf13 _ (by omega)) (hf13 _ (by omega)) (hf13 _ (by omega))
    refine AR.callV [vI 0] hE10 hg.2.1.1 rfl rfl rfl rfl rfl ?_
    show AR E d _ (21, [some (vA g)], [vI ((m_rv P n q cl 0 6).2), vI ca, vA g], (C, N11)) _
    have f14 := m_rv_in P n q cl 0 6
    refine AR.blk 1 (f' := (22, [some (vA g)], [vI (ca + ((m_rv P n q cl 0 6).2)), vA g], (C, N11))) (fun _ => rfl) ?_
    refine AR.putI rfl rfl hg.1 (by decide) (fun q => absurd q (by decide)) ?_
    show AR E d _ (25, [some (vA g)], [], (C, ag_upd N11 g 5 (ca + ((m_rv P n q cl 0 6).2)))) _
    have TN16 := g_rT_ca TN11 (ca + ((m_rv P n q cl 0 6).2))
    have FN16 : ∀ a, ¬ (g ≤ a ∧ a < g + 13) → (ag_upd N11 g 5 (ca + ((m_rv P n q cl 0 6).2))) a = N a := fun a ha => (ag_upd_ne (by omega)).trans (FN11 a ha)
    have BN16 := g_rB_fr hr12 (N' := ag_upd N11 g 5 (ca + ((m_rv P n q cl 0 6).2))) (fun a z0 z1 => ag_upd_ne (by omega))
    have HN16 := g_rH_fr HN11 (N' := ag_upd N11 g 5 (ca + ((m_rv P n q cl 0 6).2))) (fun a z0 z1 => ag_upd_ne (by omega))
    generalize ag_upd N11 g 5 (ca + ((m_rv P n q cl 0 6).2)) = N16 at *
    refine AR.blk 1 (f' := (53, [some (vA g)], [], (C, N16))) (fun _ => rfl) ?_
    refine AR.endV rfl rfl ?_
    have e1 : m_tdP P n q cl t = ((m_rv P n q cl 0 6).1) := by unfold m_tdP; first | rw [if_pos (by omega)] | rw [if_neg (by omega), if_pos (by omega)] | rw [if_neg (by omega), if_neg (by omega)]
    have e2 : m_tdC P n q cl t ca = (ca + ((m_rv P n q cl 0 6).2)) := by unfold m_tdC; first | rw [if_pos (by omega)] | rw [if_neg (by omega), if_pos (by omega)] | rw [if_neg (by omega), if_neg (by omega)]
    rw [e1, e2]
    exact ⟨_, rfl, ⟨BN16, HN16, TN16⟩, FN16⟩

theorem ev_X1_recordPosition {d : Nat} (hd : 3 ≤ d) (hg : g_isG C g) (hrB : g_rB N (g + 1) P n q p cl tn) (hrH : g_rH N (g + 7) H) (hrT : g_rT N g t bg en ca gn pu mk) (hwB : g_wB P n q p cl tn) (hwH : g_wH H) (hwS : (0 ≤ t ∧ t ≤ 120) ∧ (bg = 0 ∨ bg = 1) ∧ (0 ≤ en ∧ en ≤ 3)) (h0 : H.length ≤ 120) : ∃ o_, Ev E d 36 [vA g] (C, N) o_ ∧ g_QG C N g none ((P, n, q, p, cl, tn), (t, bg, en, ca), (gn, pu, mk), m_key P cl (t % 2) :: H) o_ := by
  obtain ⟨d, rfl⟩ : ∃ j, d = j + 1 := ⟨d - 1, by omega⟩
  have s1 := hwS.1
  have s2 := hwS.2.1
  have s3 := hwS.2.2
  refine Ev.introQ (M := ag_mX1_recordPosition) rfl rfl ?_
  show AR E d _ (0, [some (vA g), none], [], (C, N)) _
  refine AR.blk 1 (f' := (1, [some (vA g), none], [vA g], (C, N))) (fun _ => rfl) ?_
  refine AR.getR rfl rfl hg.1 (by decide) rfl ?_
  refine AR.callV [] (ev_X0_closedKey (by omega) hg.2.1 hrB hwB  ) hg.2.1.1 rfl rfl rfl rfl rfl ?_
  show AR E d _ (7, [some (vA g), none], [vI (m_ckey cl)], (C, N)) _
  have f1 := m_ckey_in cl (fun k => (hwB.2.2.2.2.1 k).1)
  refine AR.blk 3 (f' := (10, [some (vA g), none], [vA g, vI ((m_ckey cl) * 2)], (C, N))) (fun _ => rfl) ?_
  refine AR.callV [] (ev_X1_sideToMove (by omega) hg hrB hrH hrT hwB hwH (by omega)  ) hg.1 rfl rfl rfl rfl rfl ?_
  show AR E d _ (13, [some (vA g), none], [vI (t % 2), vI ((m_ckey cl) * 2)], (C, N)) _
  refine AR.blk 3 (f' := (16, [some (vA g), some (vI (((m_ckey cl) * 2) + (t % 2)))], [vA g], (C, N))) (fun _ => rfl) ?_
  refine AR.getR rfl rfl hg.1 (by decide) rfl ?_
  refine AR.blk 1 (f' := (20, [some (vA g), some (vI (((m_ckey cl) * 2) + (t % 2)))], [vA g, vA (g + 7)], (C, N))) (fun _ => rfl) ?_
  refine AR.getR rfl rfl hg.1 (by decide) rfl ?_
  refine AR.blk 1 (f' := (24, [some (vA g), some (vI (((m_ckey cl) * 2) + (t % 2)))], [vI 0, vA (g + 1), vA (g + 7)], (C, N))) (fun _ => rfl) ?_
  refine AR.callV [vI 0] (ev_X0_halfKey (by omega) hg.2.1 hrB hwB 0 (by omega)) hg.2.1.1 rfl rfl rfl rfl rfl ?_
  show AR E d _ (27, [some (vA g), some (vI (((m_ckey cl) * 2) + (t % 2)))], [vJ (m_hk P 0 18), vA (g + 7)], (C, N)) _
  have f2 := m_hk_18 P hwB.1 0
  refine AR.blk 1 (f' := (28, [some (vA g), some (vI (((m_ckey cl) * 2) + (t % 2)))], [vA g, vJ (m_hk P 0 18), vA (g + 7)], (C, N))) (fun _ => rfl) ?_
  refine AR.getR rfl rfl hg.1 (by decide) rfl ?_
  refine AR.blk 1 (f' := (33, [some (vA g), some (vI (((m_ckey cl) * 2) + (t % 2)))], [vI 18, vA (g + 1), vJ (m_hk P 0 18), vA (g + 7)], (C, N))) (fun _ => rfl) ?_
  refine AR.callV [vI 18] (ev_X0_halfKey (by omega) hg.2.1 hrB hwB 18 (by omega)) hg.2.1.1 rfl rfl rfl rfl rfl ?_
  show AR E d _ (36, [some (vA g), some (vI (((m_ckey cl) * 2) + (t % 2)))], [vJ (m_hk P 18 18), vJ (m_hk P 0 18), vA (g + 7)], (C, N)) _
  have f3 := m_hk_18 P hwB.1 18
  refine AR.blk 3 (f' := (41, [some (vA g), some (vI (((m_ckey cl) * 2) + (t % 2)))], [vI (((m_ckey cl) * 2) + (t % 2)), vJ ((m_hk P 18 18) * 32), vJ (m_hk P 0 18), vA (g + 7)], (C, N))) (fun _ => rfl) ?_
  refine AR.i2l rfl (by omega) ?_
  refine AR.blk 1 (f' := (43, [some (vA g), some (vI (((m_ckey cl) * 2) + (t % 2)))], [vJ (((m_hk P 18 18) * 32) + (((m_ckey cl) * 2) + (t % 2))), vJ (m_hk P 0 18), vA (g + 7)], (C, N))) (fun _ => rfl) ?_
  obtain ⟨_, hE4, N5, rfl, hr6, hf7⟩ := ev_X2_addPosition (E := E) (d := d) (by omega) hg.2.2.1 hrH hwH (m_hk P 0 18) (((m_hk P 18 18) * 32) + (((m_ckey cl) * 2) + (t % 2))) (by omega)
  have FN5 : ∀ a, ¬ (g ≤ a ∧ a < g + 13) → N5 a = N a := fun a ha => (hf7 a (by omega)).trans ((fun _ _ => rfl) a ha)
  have BN5 := g_rB_fr hrB (N' := N5) (fun a z0 z1 => hf7 a (by omega))
  have TN5 := g_rT_fr hrT (N' := N5) (hf7 _ (by omega)) (hf7 _ (by omega)) (hf7 _ (by omega)) (hf7 _ (by omega))
  refine AR.callV [vJ (m_hk P 0 18), vJ (((m_hk P 18 18) * 32) + (((m_ckey cl) * 2) + (t % 2)))] hE4 hg.2.2.1.1 rfl rfl rfl rfl rfl ?_
  show AR E d _ (46, [some (vA g), some (vI (((m_ckey cl) * 2) + (t % 2)))], [], (C, N5)) _
  refine AR.endV rfl rfl ?_
  exact ⟨_, rfl, ⟨BN5, hr6, TN5⟩, FN5⟩

theorem ev_X1_settleEnding {d : Nat} (hd : 5 ≤ d) (hg : g_isG C g) (hrB : g_rB N (g + 1) P n q p cl tn) (hrH : g_rH N (g + 7) H) (hrT : g_rT N g t bg en ca gn pu mk) (hwB : g_wB P n q p cl tn) (hwH : g_wH H) (hwS : (0 ≤ t ∧ t ≤ 120) ∧ (bg = 0 ∨ bg = 1) ∧ (0 ≤ en ∧ en ≤ 3)) (h0 : en = 0) : ∃ o_, Ev E d 37 [vA g] (C, N) o_ ∧ g_QG C N g (some (vI (m_stR P n q cl t H))) ((P, n, q, p, cl, tn), (t, bg, m_stl P n q cl t H, ca), (gn, pu, mk), H) o_ := by
  obtain ⟨d, rfl⟩ : ∃ j, d = j + 1 := ⟨d - 1, by omega⟩
  have s1 := hwS.1
  have s2 := hwS.2.1
  have s3 := hwS.2.2
  have s5 := hwH.1
  refine Ev.introQ (M := ag_mX1_settleEnding) rfl rfl ?_
  show AR E d _ (0, [some (vA g), none], [], (C, N)) _
  refine AR.blk 1 (f' := (1, [some (vA g), none], [vA g], (C, N))) (fun _ => rfl) ?_
  refine AR.getR rfl rfl hg.1 (by decide) rfl ?_
  refine AR.callV [] (ev_X2_timesOfLatest (by omega) hg.2.2.1 hrH hwH  ) hg.2.2.1.1 rfl rfl rfl rfl rfl ?_
  show AR E d _ (7, [some (vA g), none], [vI (m_tl H)], (C, N)) _
  have f1 := m_tl_in H
  refine AR.blk 2 (f' := (9, [some (vA g), some (vI (m_tl H))], [vA g], (C, N))) (fun _ => rfl) ?_
  refine AR.getR rfl rfl hg.1 (by decide) rfl ?_
  refine AR.blk 1 (f' := (13, [some (vA g), some (vI (m_tl H))], [vI 0, vA (g + 1)], (C, N))) (fun _ => rfl) ?_
  refine AR.callV [vI 0] (ev_X0_countOf (by omega) hg.2.1 hrB hwB 0 (by omega)) hg.2.1.1 rfl rfl rfl rfl rfl ?_
  show AR E d _ (16, [some (vA g), some (vI (m_tl H))], [vI (m_cnt P 0)], (C, N)) _
  have f2 := m_cnt_in P 0
  refine AR.if_ne rfl (by omega) (fun c3 => ?_) (fun c3 => ?_)
  · show AR E d _ (27, [some (vA g), some (vI (m_tl H))], [], (C, N)) _
    refine AR.blk 1 (f' := (28, [some (vA g), some (vI (m_tl H))], [vA g], (C, N))) (fun _ => rfl) ?_
    refine AR.getR rfl rfl hg.1 (by decide) rfl ?_
    refine AR.blk 1 (f' := (32, [some (vA g), some (vI (m_tl H))], [vI 1, vA (g + 1)], (C, N))) (fun _ => rfl) ?_
    refine AR.callV [vI 1] (ev_X0_countOf (by omega) hg.2.1 hrB hwB 1 (by omega)) hg.2.1.1 rfl rfl rfl rfl rfl ?_
    show AR E d _ (35, [some (vA g), some (vI (m_tl H))], [vI (m_cnt P 1)], (C, N)) _
    have f4 := m_cnt_in P 1
    refine AR.if_ne rfl (by omega) (fun c5 => ?_) (fun c5 => ?_)
    · show AR E d _ (46, [some (vA g), some (vI (m_tl H))], [], (C, N)) _
      refine AR.blk 2 (f' := (48, [some (vA g), some (vI (m_tl H))], [vI 3, vI (m_tl H)], (C, N))) (fun _ => rfl) ?_
      refine AR.ic_lt rfl (by omega) (fun c6 => ?_) (fun c6 => ?_)
      · show AR E d _ (58, [some (vA g), some (vI (m_tl H))], [], (C, N)) _
        refine AR.blk 1 (f' := (59, [some (vA g), some (vI (m_tl H))], [vA g], (C, N))) (fun _ => rfl) ?_
        refine AR.getR rfl rfl hg.1 (by decide) rfl ?_
        refine AR.blk 1 (f' := (63, [some (vA g), some (vI (m_tl H))], [vA g, vA (g + 1)], (C, N))) (fun _ => rfl) ?_
        refine AR.callV [] (ev_X1_sideToMove (by omega) hg hrB hrH hrT hwB hwH (by omega)  ) hg.1 rfl rfl rfl rfl rfl ?_
        show AR E d _ (66, [some (vA g), some (vI (m_tl H))], [vI (t % 2), vA (g + 1)], (C, N)) _
        refine AR.callV [vI (t % 2)] (ev_X0_countMoves (by omega) hg.2.1 hrB hwB (t % 2) (by omega)) hg.2.1.1 rfl rfl rfl rfl rfl ?_
        show AR E d _ (69, [some (vA g), some (vI (m_tl H))], [vI (m_mv P n q cl (t % 2))], (C, N)) _
        have f7 := m_mv_in P n q cl (t % 2)
        refine AR.if_ne rfl (by omega) (fun c8 => ?_) (fun c8 => ?_)
        · show AR E d _ (91, [some (vA g), some (vI (m_tl H))], [], (C, N)) _
          refine AR.blk 1 (f' := (92, [some (vA g), some (vI (m_tl H))], [vA g], (C, N))) (fun _ => rfl) ?_
          refine AR.getI rfl rfl hg.1 (by decide) (v := t) hrT.1.2.2.1 ?_
          refine AR.blk 1 (f' := (97, [some (vA g), some (vI (m_tl H))], [vI 120, vI t], (C, N))) (fun _ => rfl) ?_
          refine AR.ic_lt rfl (by omega) (fun c9 => ?_) (fun c9 => ?_)
          · show AR E d _ (105, [some (vA g), some (vI (m_tl H))], [], (C, N)) _
            refine AR.blk 1 (f' := (106, [some (vA g), some (vI (m_tl H))], [vA g], (C, N))) (fun _ => rfl) ?_
            refine AR.getI rfl rfl hg.1 (by decide) (v := en) hrT.1.2.1 ?_
            refine AR.if_ne rfl (by omega) (fun c10 => ?_) (fun c10 => ?_)
            · show AR E d _ (116, [some (vA g), some (vI (m_tl H))], [], (C, N)) _
              refine AR.blk 1 (f' := (117, [some (vA g), some (vI (m_tl H))], [vI 0], (C, N))) (fun _ => rfl) ?_
              refine AR.endI rfl (.inl rfl) ?_
              have e1 : m_stl P n q cl t H = en := by unfold m_stl; omega
              have e2 : m_stR P n q cl t H = 0 := by unfold m_stR; omega
              rw [e1, e2]
              exact ⟨_, rfl, ⟨hrB, hrH, hrT⟩, (fun _ _ => rfl)⟩
            · show AR E d _ (112, [some (vA g), some (vI (m_tl H))], [], (C, N)) _
              refine AR.blk 2 (f' := (117, [some (vA g), some (vI (m_tl H))], [vI (m_tl H)], (C, N))) (fun _ => rfl) ?_
              refine AR.endI rfl (.inl rfl) ?_
              have e1 : m_stl P n q cl t H = en := by unfold m_stl; omega
              have e2 : m_stR P n q cl t H = (m_tl H) := by unfold m_stR; omega
              rw [e1, e2]
              exact ⟨_, rfl, ⟨hrB, hrH, hrT⟩, (fun _ _ => rfl)⟩
          · show AR E d _ (100, [some (vA g), some (vI (m_tl H))], [], (C, N)) _
            refine AR.blk 2 (f' := (102, [some (vA g), some (vI (m_tl H))], [vI 3, vA g], (C, N))) (fun _ => rfl) ?_
            refine AR.putI rfl rfl hg.1 (by decide) (fun q => absurd q (by decide)) ?_
            show AR E d _ (105, [some (vA g), some (vI (m_tl H))], [], (C, ag_upd N g 3 3)) _
            have TN12 := g_rT_en hrT 3
            have FN12 : ∀ a, ¬ (g ≤ a ∧ a < g + 13) → (ag_upd N g 3 3) a = N a := fun a ha => (ag_upd_ne (by omega)).trans ((fun _ _ => rfl) a ha)
            have BN12 := g_rB_fr hrB (N' := ag_upd N g 3 3) (fun a z0 z1 => ag_upd_ne (by omega))
            have HN12 := g_rH_fr hrH (N' := ag_upd N g 3 3) (fun a z0 z1 => ag_upd_ne (by omega))
            generalize ag_upd N g 3 3 = N12 at *
            refine AR.blk 1 (f' := (106, [some (vA g), some (vI (m_tl H))], [vA g], (C, N12))) (fun _ => rfl) ?_
            refine AR.getI rfl rfl hg.1 (by decide) (v := 3) TN12.1.2.1 ?_
            refine AR.blk 2 (f' := (117, [some (vA g), some (vI (m_tl H))], [vI 0], (C, N12))) (fun _ => rfl) ?_
            refine AR.endI rfl (.inl rfl) ?_
            have e1 : m_stl P n q cl t H = 3 := by unfold m_stl; omega
            have e2 : m_stR P n q cl t H = 0 := by unfold m_stR; omega
            rw [e1, e2]
            exact ⟨_, rfl, ⟨BN12, HN12, TN12⟩, FN12⟩
        · show AR E d _ (72, [some (vA g), some (vI (m_tl H))], [], (C, N)) _
          refine AR.blk 2 (f' := (74, [some (vA g), some (vI (m_tl H))], [vA g, vA g], (C, N))) (fun _ => rfl) ?_
          refine AR.callV [] (ev_X1_sideToMove (by omega) hg hrB hrH hrT hwB hwH (by omega)  ) hg.1 rfl rfl rfl rfl rfl ?_
          show AR E d _ (77, [some (vA g), some (vI (m_tl H))], [vI (t % 2), vA g], (C, N)) _
          refine AR.if_ne rfl (by omega) (fun c13 => ?_) (fun c13 => ?_)
          · show AR E d _ (84, [some (vA g), some (vI (m_tl H))], [vA g], (C, N)) _
            refine AR.blk 1 (f' := (85, [some (vA g), some (vI (m_tl H))], [vI 1, vA g], (C, N))) (fun _ => rfl) ?_
            refine AR.putI rfl rfl hg.1 (by decide) (fun q => absurd q (by decide)) ?_
            show AR E d _ (88, [some (vA g), some (vI (m_tl H))], [], (C, ag_upd N g 3 1)) _
            have TN15 := g_rT_en hrT 1
            have FN15 : ∀ a, ¬ (g ≤ a ∧ a < g + 13) → (ag_upd N g 3 1) a = N a := fun a ha => (ag_upd_ne (by omega)).trans ((fun _ _ => rfl) a ha)
            have BN15 := g_rB_fr hrB (N' := ag_upd N g 3 1) (fun a z0 z1 => ag_upd_ne (by omega))
            have HN15 := g_rH_fr hrH (N' := ag_upd N g 3 1) (fun a z0 z1 => ag_upd_ne (by omega))
            generalize ag_upd N g 3 1 = N15 at *
            refine AR.blk 2 (f' := (106, [some (vA g), some (vI (m_tl H))], [vA g], (C, N15))) (fun _ => rfl) ?_
            refine AR.getI rfl rfl hg.1 (by decide) (v := 1) TN15.1.2.1 ?_
            refine AR.blk 2 (f' := (117, [some (vA g), some (vI (m_tl H))], [vI 0], (C, N15))) (fun _ => rfl) ?_
            refine AR.endI rfl (.inl rfl) ?_
            have e1 : m_stl P n q cl t H = 1 := by unfold m_stl; omega
            have e2 : m_stR P n q cl t H = 0 := by unfold m_stR; omega
            rw [e1, e2]
            exact ⟨_, rfl, ⟨BN15, HN15, TN15⟩, FN15⟩
          · show AR E d _ (80, [some (vA g), some (vI (m_tl H))], [vA g], (C, N)) _
            refine AR.blk 2 (f' := (85, [some (vA g), some (vI (m_tl H))], [vI 2, vA g], (C, N))) (fun _ => rfl) ?_
            refine AR.putI rfl rfl hg.1 (by decide) (fun q => absurd q (by decide)) ?_
            show AR E d _ (88, [some (vA g), some (vI (m_tl H))], [], (C, ag_upd N g 3 2)) _
            have TN17 := g_rT_en hrT 2
            have FN17 : ∀ a, ¬ (g ≤ a ∧ a < g + 13) → (ag_upd N g 3 2) a = N a := fun a ha => (ag_upd_ne (by omega)).trans ((fun _ _ => rfl) a ha)
            have BN17 := g_rB_fr hrB (N' := ag_upd N g 3 2) (fun a z0 z1 => ag_upd_ne (by omega))
            have HN17 := g_rH_fr hrH (N' := ag_upd N g 3 2) (fun a z0 z1 => ag_upd_ne (by omega))
            generalize ag_upd N g 3 2 = N17 at *
            refine AR.blk 2 (f' := (106, [some (vA g), some (vI (m_tl H))], [vA g], (C, N17))) (fun _ => rfl) ?_
            refine AR.getI rfl rfl hg.1 (by decide) (v := 2) TN17.1.2.1 ?_
            refine AR.blk 2 (f' := (117, [some (vA g), some (vI (m_tl H))], [vI 0], (C, N17))) (fun _ => rfl) ?_
            refine AR.endI rfl (.inl rfl) ?_
            have e1 : m_stl P n q cl t H = 2 := by unfold m_stl; omega
            have e2 : m_stR P n q cl t H = 0 := by unfold m_stR; omega
            rw [e1, e2]
            exact ⟨_, rfl, ⟨BN17, HN17, TN17⟩, FN17⟩
      · show AR E d _ (51, [some (vA g), some (vI (m_tl H))], [], (C, N)) _
        refine AR.blk 2 (f' := (53, [some (vA g), some (vI (m_tl H))], [vI 3, vA g], (C, N))) (fun _ => rfl) ?_
        refine AR.putI rfl rfl hg.1 (by decide) (fun q => absurd q (by decide)) ?_
        show AR E d _ (56, [some (vA g), some (vI (m_tl H))], [], (C, ag_upd N g 3 3)) _
        have TN19 := g_rT_en hrT 3
        have FN19 : ∀ a, ¬ (g ≤ a ∧ a < g + 13) → (ag_upd N g 3 3) a = N a := fun a ha => (ag_upd_ne (by omega)).trans ((fun _ _ => rfl) a ha)
        have BN19 := g_rB_fr hrB (N' := ag_upd N g 3 3) (fun a z0 z1 => ag_upd_ne (by omega))
        have HN19 := g_rH_fr hrH (N' := ag_upd N g 3 3) (fun a z0 z1 => ag_upd_ne (by omega))
        generalize ag_upd N g 3 3 = N19 at *
        refine AR.blk 1 (f' := (57, [some (vA g), some (vI (m_tl H))], [vI (m_tl H)], (C, N19))) (fun _ => rfl) ?_
        refine AR.endI rfl (.inl rfl) ?_
        have e1 : m_stl P n q cl t H = 3 := by unfold m_stl; omega
        have e2 : m_stR P n q cl t H = (m_tl H) := by unfold m_stR; omega
        rw [e1, e2]
        exact ⟨_, rfl, ⟨BN19, HN19, TN19⟩, FN19⟩
    · show AR E d _ (38, [some (vA g), some (vI (m_tl H))], [], (C, N)) _
      refine AR.blk 2 (f' := (40, [some (vA g), some (vI (m_tl H))], [vI 1, vA g], (C, N))) (fun _ => rfl) ?_
      refine AR.putI rfl rfl hg.1 (by decide) (fun q => absurd q (by decide)) ?_
      show AR E d _ (43, [some (vA g), some (vI (m_tl H))], [], (C, ag_upd N g 3 1)) _
      have TN21 := g_rT_en hrT 1
      have FN21 : ∀ a, ¬ (g ≤ a ∧ a < g + 13) → (ag_upd N g 3 1) a = N a := fun a ha => (ag_upd_ne (by omega)).trans ((fun _ _ => rfl) a ha)
      have BN21 := g_rB_fr hrB (N' := ag_upd N g 3 1) (fun a z0 z1 => ag_upd_ne (by omega))
      have HN21 := g_rH_fr hrH (N' := ag_upd N g 3 1) (fun a z0 z1 => ag_upd_ne (by omega))
      generalize ag_upd N g 3 1 = N21 at *
      refine AR.blk 2 (f' := (106, [some (vA g), some (vI (m_tl H))], [vA g], (C, N21))) (fun _ => rfl) ?_
      refine AR.getI rfl rfl hg.1 (by decide) (v := 1) TN21.1.2.1 ?_
      refine AR.blk 2 (f' := (117, [some (vA g), some (vI (m_tl H))], [vI 0], (C, N21))) (fun _ => rfl) ?_
      refine AR.endI rfl (.inl rfl) ?_
      have e1 : m_stl P n q cl t H = 1 := by unfold m_stl; omega
      have e2 : m_stR P n q cl t H = 0 := by unfold m_stR; omega
      rw [e1, e2]
      exact ⟨_, rfl, ⟨BN21, HN21, TN21⟩, FN21⟩
  · show AR E d _ (19, [some (vA g), some (vI (m_tl H))], [], (C, N)) _
    refine AR.blk 2 (f' := (21, [some (vA g), some (vI (m_tl H))], [vI 2, vA g], (C, N))) (fun _ => rfl) ?_
    refine AR.putI rfl rfl hg.1 (by decide) (fun q => absurd q (by decide)) ?_
    show AR E d _ (24, [some (vA g), some (vI (m_tl H))], [], (C, ag_upd N g 3 2)) _
    have TN23 := g_rT_en hrT 2
    have FN23 : ∀ a, ¬ (g ≤ a ∧ a < g + 13) → (ag_upd N g 3 2) a = N a := fun a ha => (ag_upd_ne (by omega)).trans ((fun _ _ => rfl) a ha)
    have BN23 := g_rB_fr hrB (N' := ag_upd N g 3 2) (fun a z0 z1 => ag_upd_ne (by omega))
    have HN23 := g_rH_fr hrH (N' := ag_upd N g 3 2) (fun a z0 z1 => ag_upd_ne (by omega))
    generalize ag_upd N g 3 2 = N23 at *
    refine AR.blk 2 (f' := (106, [some (vA g), some (vI (m_tl H))], [vA g], (C, N23))) (fun _ => rfl) ?_
    refine AR.getI rfl rfl hg.1 (by decide) (v := 2) TN23.1.2.1 ?_
    refine AR.blk 2 (f' := (117, [some (vA g), some (vI (m_tl H))], [vI 0], (C, N23))) (fun _ => rfl) ?_
    refine AR.endI rfl (.inl rfl) ?_
    have e1 : m_stl P n q cl t H = 2 := by unfold m_stl; omega
    have e2 : m_stR P n q cl t H = 0 := by unfold m_stR; omega
    rw [e1, e2]
    exact ⟨_, rfl, ⟨BN23, HN23, TN23⟩, FN23⟩

theorem ev_X1_startPlay {d : Nat} (hd : 6 ≤ d) (hg : g_isG C g) (hrB : g_rB N (g + 1) P n q p cl tn) (hrH : g_rH N (g + 7) H) (hrT : g_rT N g t bg en ca gn pu mk) (hwB : g_wB P n q p cl tn) (hwH : g_wH H) (hwS : (0 ≤ t ∧ t ≤ 120) ∧ (bg = 0 ∨ bg = 1) ∧ (0 ≤ en ∧ en ≤ 3)) (h0 : en = 0) (h1 : H.length ≤ 120) : ∃ o_, Ev E d 33 [vA g] (C, N) o_ ∧ g_QG C N g none ((P, n, q, p, cl, tn), (t, 1, m_stl P n q cl t (m_key P cl (t % 2) :: H), ca), (gn, pu, mk), m_key P cl (t % 2) :: H) o_ := by
  obtain ⟨d, rfl⟩ : ∃ j, d = j + 1 := ⟨d - 1, by omega⟩
  have s1 := hwS.1
  have s2 := hwS.2.1
  have s3 := hwS.2.2
  refine Ev.introQ (M := ag_mX1_startPlay) rfl rfl ?_
  show AR E d _ (0, [some (vA g)], [], (C, N)) _
  refine AR.blk 2 (f' := (2, [some (vA g)], [vI 1, vA g], (C, N))) (fun _ => rfl) ?_
  refine AR.putI rfl rfl hg.1 (by decide) (fun _ => by omega) ?_
  show AR E d _ (5, [some (vA g)], [], (C, ag_upd N g 2 1)) _
  have TN2 := g_rT_bg hrT 1
  have FN2 : ∀ a, ¬ (g ≤ a ∧ a < g + 13) → (ag_upd N g 2 1) a = N a := fun a ha => (ag_upd_ne (by omega)).trans ((fun _ _ => rfl) a ha)
  have BN2 := g_rB_fr hrB (N' := ag_upd N g 2 1) (fun a z0 z1 => ag_upd_ne (by omega))
  have HN2 := g_rH_fr hrH (N' := ag_upd N g 2 1) (fun a z0 z1 => ag_upd_ne (by omega))
  generalize ag_upd N g 2 1 = N2 at *
  refine AR.blk 1 (f' := (6, [some (vA g)], [vA g], (C, N2))) (fun _ => rfl) ?_
  obtain ⟨_, hE3, N4, rfl, hr5, hf6⟩ := ev_X1_recordPosition (E := E) (d := d) (by omega) hg BN2 HN2 TN2 hwB hwH (by omega)  (by omega)
  have FN4 : ∀ a, ¬ (g ≤ a ∧ a < g + 13) → N4 a = N a := fun a ha => (hf6 a (by omega)).trans (FN2 a ha)
  have BN4 : g_rB N4 (g + 1) P n q p cl tn := hr5.1
  have HN4 : g_rH N4 (g + 7) (m_key P cl (t % 2) :: H) := hr5.2.1
  have TN4 : g_rT N4 g t 1 en ca gn pu mk := hr5.2.2
  have WN4 := g_wH_cons hwH (by omega) (m_key_in P cl (t % 2) hwB.1 (fun k => (hwB.2.2.2.2.1 k).1) (by omega))
  refine AR.callV [] hE3 hg.1 rfl rfl rfl rfl rfl ?_
  show AR E d _ (9, [some (vA g)], [], (C, N4)) _
  refine AR.blk 1 (f' := (10, [some (vA g)], [vA g], (C, N4))) (fun _ => rfl) ?_
  obtain ⟨_, hE7, N8, rfl, hr9, hf10⟩ := ev_X1_settleEnding (E := E) (d := d) (by omega) hg BN4 HN4 TN4 hwB WN4 (by omega)  (by omega)
  have FN8 : ∀ a, ¬ (g ≤ a ∧ a < g + 13) → N8 a = N a := fun a ha => (hf10 a (by omega)).trans (FN4 a ha)
  have BN8 : g_rB N8 (g + 1) P n q p cl tn := hr9.1
  have HN8 : g_rH N8 (g + 7) (m_key P cl (t % 2) :: H) := hr9.2.1
  have TN8 : g_rT N8 g t 1 (m_stl P n q cl t (m_key P cl (t % 2) :: H)) ca gn pu mk := hr9.2.2
  refine AR.callV [] hE7 hg.1 rfl rfl rfl rfl rfl ?_
  show AR E d _ (13, [some (vA g)], [vI (m_stR P n q cl t (m_key P cl (t % 2) :: H))], (C, N8)) _
  have f11 := m_stl_in P n q cl t (m_key P cl (t % 2) :: H)
  refine AR.blk 1 (f' := (14, [some (vA g)], [], (C, N8))) (fun _ => rfl) ?_
  refine AR.endV rfl rfl ?_
  exact ⟨_, rfl, ⟨BN8, HN8, TN8⟩, FN8⟩

theorem ev_X1_carryOut {d : Nat} (hd : 6 ≤ d) (hg : g_isG C g) (hrB : g_rB N (g + 1) P n q p cl tn) (hrH : g_rH N (g + 7) H) (hrT : g_rT N g t bg en ca gn pu mk) (hwB : g_wB P n q p cl tn) (hwH : g_wH H) (hwS : (0 ≤ t ∧ t ≤ 120) ∧ (bg = 0 ∨ bg = 1) ∧ (0 ≤ en ∧ en ≤ 3)) (s x : Int) (h0 : 0 ≤ s ∧ s < 36) (h1 : 0 ≤ x ∧ x < 4) (h2 : 1 ≤ m_room s x) (h3 : en = 0) (h4 : H.length ≤ 120) (h5 : t ≤ 119) : ∃ o_, Ev E d 34 [vA g, vI s, vI x] (C, N) o_ ∧ g_QG C N g (some (vI (m_stR (m_gP P n q p cl tn t s x) n q (m_gcl P n q p cl tn t s x) (t + 1) (m_gH P n q p cl tn t s x H)))) ((m_gP P n q p cl tn t s x, n, q, p, m_gcl P n q p cl tn t s x, m_gtn P n q p cl tn t s x), (t + 1, bg, m_stl (m_gP P n q p cl tn t s x) n q (m_gcl P n q p cl tn t s x) (t + 1) (m_gH P n q p cl tn t s x H), m_gca P n q p cl tn t ca s x), (m_ggn P gn s x, m_gpu P t pu s x, m_gmk P t mk s x), m_gH P n q p cl tn t s x H) o_ := by
  obtain ⟨d, rfl⟩ : ∃ j, d = j + 1 := ⟨d - 1, by omega⟩
  have s1 := hwS.1
  have s2 := hwS.2.1
  have s3 := hwS.2.2
  refine Ev.introQ (M := ag_mX1_carryOut) rfl rfl ?_
  show AR E d _ (0, [some (vA g), some (vI s), some (vI x), none, none], [], (C, N)) _
  refine AR.blk 1 (f' := (1, [some (vA g), some (vI s), some (vI x), none, none], [vA g], (C, N))) (fun _ => rfl) ?_
  refine AR.callV [] (ev_X1_sideToMove (by omega) hg hrB hrH hrT hwB hwH (by omega)  ) hg.1 rfl rfl rfl rfl rfl ?_
  show AR E d _ (4, [some (vA g), some (vI s), some (vI x), none, none], [vI (t % 2)], (C, N)) _
  refine AR.blk 2 (f' := (6, [some (vA g), some (vI s), some (vI x), some (vI (t % 2)), none], [vI (t % 2)], (C, N))) (fun _ => rfl) ?_
  refine AR.callS [vI (t % 2)] (ev_X6_isSide (by omega) (t % 2) (by omega)) rfl rfl rfl rfl rfl ?_
  show AR E d _ (9, [some (vA g), some (vI s), some (vI x), some (vI (t % 2)), none], [vI (if 0 ≤ (t % 2) ∧ (t % 2) < 2 then 1 else 0)], (C, N)) _
  refine AR.if_ne rfl (by omega) (fun c1 => ?_) (fun c1 => ?_)
  · show AR E d _ (14, [some (vA g), some (vI s), some (vI x), some (vI (t % 2)), none], [], (C, N)) _
    refine AR.blk 1 (f' := (15, [some (vA g), some (vI s), some (vI x), some (vI (t % 2)), none], [vA g], (C, N))) (fun _ => rfl) ?_
    refine AR.getR rfl rfl hg.1 (by decide) rfl ?_
    refine AR.blk 2 (f' := (20, [some (vA g), some (vI s), some (vI x), some (vI (t % 2)), none], [vI (t % 2), vA (g + 11), vI (t % 2), vA (g + 11)], (C, N))) (fun _ => rfl) ?_
    refine AR.iald rfl hg.2.2.2.2.1 (by omega) (v := pu (t % 2)) (hrT.2 _ (by omega) (by omega)).2.1 ?_
    refine AR.blk 1 (f' := (22, [some (vA g), some (vI s), some (vI x), some (vI (t % 2)), none], [vA g, vI (pu (t % 2)), vI (t % 2), vA (g + 11)], (C, N))) (fun _ => rfl) ?_
    refine AR.getR rfl rfl hg.1 (by decide) rfl ?_
    refine AR.blk 2 (f' := (27, [some (vA g), some (vI s), some (vI x), some (vI (t % 2)), none], [vI x, vI s, vA (g + 1), vI (pu (t % 2)), vI (t % 2), vA (g + 11)], (C, N))) (fun _ => rfl) ?_
    refine AR.callV [vI s, vI x] (ev_X0_standing (by omega) hg.2.1 hrB hwB s x (by omega) (by omega)) hg.2.1.1 rfl rfl rfl rfl rfl ?_
    show AR E d _ (30, [some (vA g), some (vI s), some (vI x), some (vI (t % 2)), none], [vI (m_std P s x), vI (pu (t % 2)), vI (t % 2), vA (g + 11)], (C, N)) _
    have f2 := m_std_in P s x (by omega)
    refine AR.blk 1 (f' := (31, [some (vA g), some (vI s), some (vI x), some (vI (t % 2)), none], [vI ((pu (t % 2)) + (m_std P s x)), vI (t % 2), vA (g + 11)], (C, N))) (fun _ => rfl) ?_
    refine AR.iast rfl hg.2.2.2.2.1 (by omega) ?_
    show AR E d _ (32, [some (vA g), some (vI s), some (vI x), some (vI (t % 2)), none], [], (C, ag_upd N (g + 11) (t % 2) ((pu (t % 2)) + (m_std P s x)))) _
    have TN4 := g_rT_pu hrT (t % 2) ((pu (t % 2)) + (m_std P s x))
    have FN4 : ∀ a, ¬ (g ≤ a ∧ a < g + 13) → (ag_upd N (g + 11) (t % 2) ((pu (t % 2)) + (m_std P s x))) a = N a := fun a ha => (ag_upd_ne (by omega)).trans ((fun _ _ => rfl) a ha)
    have BN4 := g_rB_fr hrB (N' := ag_upd N (g + 11) (t % 2) ((pu (t % 2)) + (m_std P s x))) (fun a z0 z1 => ag_upd_ne (by omega))
    have HN4 := g_rH_fr hrH (N' := ag_upd N (g + 11) (t % 2) ((pu (t % 2)) + (m_std P s x))) (fun a z0 z1 => ag_upd_ne (by omega))
    generalize ag_upd N (g + 11) (t % 2) ((pu (t % 2)) + (m_std P s x)) = N4 at *
    refine AR.blk 1 (f' := (33, [some (vA g), some (vI s), some (vI x), some (vI (t % 2)), none], [vA g], (C, N4))) (fun _ => rfl) ?_
    refine AR.getR rfl rfl hg.1 (by decide) rfl ?_
    refine AR.blk 2 (f' := (38, [some (vA g), some (vI s), some (vI x), some (vI (t % 2)), none], [vI x, vI s, vA (g + 1)], (C, N4))) (fun _ => rfl) ?_
    obtain ⟨_, hE5, N6, rfl, hr7, hf8⟩ := ev_X0_promote (E := E) (d := d) (by omega) hg.2.1 BN4 hwB s x (by omega) (by omega) (by omega)
    have whr7 := m_proP_w hwB x (show 0 ≤ s ∧ s < 36 by omega)
    have FN6 : ∀ a, ¬ (g ≤ a ∧ a < g + 13) → N6 a = N a := fun a ha => (hf8 a (by omega)).trans (FN4 a ha)
    have HN6 := g_rH_fr HN4 (N' := N6) (fun a z0 z1 => hf8 a (by omega))
    have TN6 := g_rT_fr TN4 (N' := N6) (hf8 _ (by omega)) (hf8 _ (by omega)) (hf8 _ (by omega)) (hf8 _ (by omega))
    refine AR.callV [vI s, vI x] hE5 hg.2.1.1 rfl rfl rfl rfl rfl ?_
    show AR E d _ (41, [some (vA g), some (vI s), some (vI x), some (vI (t % 2)), none], [vI (m_prom P s x)], (C, N6)) _
    have f9 := (show m_prom P s x = 0 ∨ m_prom P s x = 1 by unfold m_prom; omega)
    refine AR.if_eq rfl (by omega) (fun c10 => ?_) (fun c10 => ?_)
    · show AR E d _ (54, [some (vA g), some (vI s), some (vI x), some (vI (t % 2)), none], [], (C, N6)) _
      refine AR.blk 1 (f' := (55, [some (vA g), some (vI s), some (vI x), some (vI (t % 2)), none], [vA g], (C, N6))) (fun _ => rfl) ?_
      refine AR.getR rfl rfl hg.1 (by decide) rfl ?_
      refine AR.blk 2 (f' := (60, [some (vA g), some (vI s), some (vI x), some (vI (t % 2)), none], [vI x, vI s, vA (g + 1)], (C, N6))) (fun _ => rfl) ?_
      obtain ⟨_, hE11, N12, rfl, hr13, hf14⟩ := ev_X0_shift (E := E) (d := d) (by omega) hg.2.1 hr7 whr7 s x (by omega) (by omega)
      have whr13 := m_mov_w whr7 (show 0 ≤ s ∧ s < 36 by omega) (show 0 ≤ x ∧ x < 4 by omega)
      have FN12 : ∀ a, ¬ (g ≤ a ∧ a < g + 13) → N12 a = N a := fun a ha => (hf14 a (by omega)).trans (FN6 a ha)
      have HN12 := g_rH_fr HN6 (N' := N12) (fun a z0 z1 => hf14 a (by omega))
      have TN12 := g_rT_fr TN6 (N' := N12) (hf14 _ (by omega)) (hf14 _ (by omega)) (hf14 _ (by omega)) (hf14 _ (by omega))
      refine AR.callV [vI s, vI x] hE11 hg.2.1.1 rfl rfl rfl rfl rfl ?_
      show AR E d _ (63, [some (vA g), some (vI s), some (vI x), some (vI (t % 2)), none], [vI (m_held (m_proP P s x) s x)], (C, N12)) _
      have f15 := m_held_in (m_proP P s x) s x whr7.1
      refine AR.callS [vI (m_held (m_proP P s x) s x)] (ev_X6_ownerOf (by omega) (m_held (m_proP P s x) s x) (by omega)) rfl rfl rfl rfl rfl ?_
      show AR E d _ (66, [some (vA g), some (vI s), some (vI x), some (vI (t % 2)), none], [vI (m_own (m_held (m_proP P s x) s x))], (C, N12)) _
      have f16 := m_own_in ((m_held (m_proP P s x) s x)) (by omega)
      refine AR.blk 2 (f' := (70, [some (vA g), some (vI s), some (vI x), some (vI (t % 2)), some (vI (m_own (m_held (m_proP P s x) s x)))], [vI (m_own (m_held (m_proP P s x) s x))], (C, N12))) (fun _ => rfl) ?_
      refine AR.callS [vI (m_own (m_held (m_proP P s x) s x))] (ev_X6_isSide (by omega) (m_own (m_held (m_proP P s x) s x)) (by omega)) rfl rfl rfl rfl rfl ?_
      show AR E d _ (73, [some (vA g), some (vI s), some (vI x), some (vI (t % 2)), some (vI (m_own (m_held (m_proP P s x) s x)))], [vI (if 0 ≤ (m_own (m_held (m_proP P s x) s x)) ∧ (m_own (m_held (m_proP P s x) s x)) < 2 then 1 else 0)], (C, N12)) _
      refine AR.if_eq rfl (by omega) (fun c17 => ?_) (fun c17 => ?_)
      · show AR E d _ (87, [some (vA g), some (vI s), some (vI x), some (vI (t % 2)), some (vI (m_own (m_held (m_proP P s x) s x)))], [], (C, N12)) _
        refine AR.blk 2 (f' := (89, [some (vA g), some (vI s), some (vI x), some (vI (t % 2)), some (vI (m_own (m_held (m_proP P s x) s x)))], [vA g, vA g], (C, N12))) (fun _ => rfl) ?_
        refine AR.getI rfl rfl hg.1 (by decide) (v := t) TN12.1.2.2.1 ?_
        refine AR.blk 2 (f' := (94, [some (vA g), some (vI s), some (vI x), some (vI (t % 2)), some (vI (m_own (m_held (m_proP P s x) s x)))], [vI (t + 1), vA g], (C, N12))) (fun _ => rfl) ?_
        refine AR.putI rfl rfl hg.1 (by decide) (fun q => absurd q (by decide)) ?_
        show AR E d _ (97, [some (vA g), some (vI s), some (vI x), some (vI (t % 2)), some (vI (m_own (m_held (m_proP P s x) s x)))], [], (C, ag_upd N12 g 4 (t + 1))) _
        have TN19 := g_rT_t TN12 (t + 1)
        have FN19 : ∀ a, ¬ (g ≤ a ∧ a < g + 13) → (ag_upd N12 g 4 (t + 1)) a = N a := fun a ha => (ag_upd_ne (by omega)).trans (FN12 a ha)
        have BN19 := g_rB_fr hr13 (N' := ag_upd N12 g 4 (t + 1)) (fun a z0 z1 => ag_upd_ne (by omega))
        have HN19 := g_rH_fr HN12 (N' := ag_upd N12 g 4 (t + 1)) (fun a z0 z1 => ag_upd_ne (by omega))
        generalize ag_upd N12 g 4 (t + 1) = N19 at *
        refine AR.blk 1 (f' := (98, [some (vA g), some (vI s), some (vI x), some (vI (t % 2)), some (vI (m_own (m_held (m_proP P s x) s x)))], [vA g], (C, N19))) (fun _ => rfl) ?_
        refine AR.getR rfl rfl hg.1 (by decide) rfl ?_
        refine AR.blk 1 (f' := (102, [some (vA g), some (vI s), some (vI x), some (vI (t % 2)), some (vI (m_own (m_held (m_proP P s x) s x)))], [vA g, vA (g + 1)], (C, N19))) (fun _ => rfl) ?_
        refine AR.getI rfl rfl hg.1 (by decide) (v := t + 1) TN19.1.2.2.1 ?_
        obtain ⟨_, hE20, N21, rfl, hr22, hf23⟩ := ev_X0_turnLocks (E := E) (d := d) (by omega) hg.2.1 BN19 whr13 (t + 1) (by omega)
        have whr22 := m_trn_w whr13 (t + 1) (n).toNat (by have := whr13.2.2.1; omega)
        have FN21 : ∀ a, ¬ (g ≤ a ∧ a < g + 13) → N21 a = N a := fun a ha => (hf23 a (by omega)).trans (FN19 a ha)
        have HN21 := g_rH_fr HN19 (N' := N21) (fun a z0 z1 => hf23 a (by omega))
        have TN21 := g_rT_fr TN19 (N' := N21) (hf23 _ (by omega)) (hf23 _ (by omega)) (hf23 _ (by omega)) (hf23 _ (by omega))
        refine AR.callV [vI (t + 1)] hE20 hg.2.1.1 rfl rfl rfl rfl rfl ?_
        show AR E d _ (108, [some (vA g), some (vI s), some (vI x), some (vI (t % 2)), some (vI (m_own (m_held (m_proP P s x) s x)))], [], (C, N21)) _
        refine AR.blk 1 (f' := (109, [some (vA g), some (vI s), some (vI x), some (vI (t % 2)), some (vI (m_own (m_held (m_proP P s x) s x)))], [vA g], (C, N21))) (fun _ => rfl) ?_
        refine AR.getI rfl rfl hg.1 (by decide) (v := t + 1) TN21.1.2.2.1 ?_
        refine AR.blk 1 (f' := (113, [some (vA g), some (vI s), some (vI x), some (vI (t % 2)), some (vI (m_own (m_held (m_proP P s x) s x)))], [vI 4, vI (t + 1)], (C, N21))) (fun _ => rfl) ?_
        refine AR.irem rfl (by omega) ?_
        refine AR.if_ne rfl (by omega) (fun c24 => ?_) (fun c24 => ?_)
        · show AR E d _ (121, [some (vA g), some (vI s), some (vI x), some (vI (t % 2)), some (vI (m_own (m_held (m_proP P s x) s x)))], [], (C, N21)) _
          refine AR.blk 1 (f' := (122, [some (vA g), some (vI s), some (vI x), some (vI (t % 2)), some (vI (m_own (m_held (m_proP P s x) s x)))], [vA g], (C, N21))) (fun _ => rfl) ?_
          obtain ⟨_, hE25, N26, rfl, hr27, hf28⟩ := ev_X1_recordPosition (E := E) (d := d) (by omega) hg hr22 HN21 TN21 whr22 hwH (by omega)  (by omega)
          have FN26 : ∀ a, ¬ (g ≤ a ∧ a < g + 13) → N26 a = N a := fun a ha => (hf28 a (by omega)).trans (FN21 a ha)
          have BN26 : g_rB N26 (g + 1) (m_mov (m_proP P s x) s x) n q p ((m_trn (m_mov (m_proP P s x) s x) q p (t + 1) cl tn n.toNat).1) ((m_trn (m_mov (m_proP P s x) s x) q p (t + 1) cl tn n.toNat).2) := hr27.1
          have HN26 : g_rH N26 (g + 7) (m_key (m_mov (m_proP P s x) s x) ((m_trn (m_mov (m_proP P s x) s x) q p (t + 1) cl tn n.toNat).1) ((t + 1) % 2) :: H) := hr27.2.1
          have TN26 : g_rT N26 g (t + 1) bg en ca gn (m_set pu (t % 2) ((pu (t % 2)) + (m_std P s x))) mk := hr27.2.2
          have WN26 := g_wH_cons hwH (by omega) (m_key_in (m_mov (m_proP P s x) s x) ((m_trn (m_mov (m_proP P s x) s x) q p (t + 1) cl tn n.toNat).1) ((t + 1) % 2) whr22.1 (fun k => (whr22.2.2.2.2.1 k).1) (by omega))
          refine AR.callV [] hE25 hg.1 rfl rfl rfl rfl rfl ?_
          show AR E d _ (125, [some (vA g), some (vI s), some (vI x), some (vI (t % 2)), some (vI (m_own (m_held (m_proP P s x) s x)))], [], (C, N26)) _
          refine AR.blk 1 (f' := (126, [some (vA g), some (vI s), some (vI x), some (vI (t % 2)), some (vI (m_own (m_held (m_proP P s x) s x)))], [vA g], (C, N26))) (fun _ => rfl) ?_
          obtain ⟨_, hE29, N30, rfl, hr31, hf32⟩ := ev_X1_settleEnding (E := E) (d := d) (by omega) hg BN26 HN26 TN26 whr22 WN26 (by omega)  (by omega)
          have FN30 : ∀ a, ¬ (g ≤ a ∧ a < g + 13) → N30 a = N a := fun a ha => (hf32 a (by omega)).trans (FN26 a ha)
          have BN30 : g_rB N30 (g + 1) (m_mov (m_proP P s x) s x) n q p ((m_trn (m_mov (m_proP P s x) s x) q p (t + 1) cl tn n.toNat).1) ((m_trn (m_mov (m_proP P s x) s x) q p (t + 1) cl tn n.toNat).2) := hr31.1
          have HN30 : g_rH N30 (g + 7) (m_key (m_mov (m_proP P s x) s x) ((m_trn (m_mov (m_proP P s x) s x) q p (t + 1) cl tn n.toNat).1) ((t + 1) % 2) :: H) := hr31.2.1
          have TN30 : g_rT N30 g (t + 1) bg (m_stl (m_mov (m_proP P s x) s x) n q ((m_trn (m_mov (m_proP P s x) s x) q p (t + 1) cl tn n.toNat).1) (t + 1) (m_key (m_mov (m_proP P s x) s x) ((m_trn (m_mov (m_proP P s x) s x) q p (t + 1) cl tn n.toNat).1) ((t + 1) % 2) :: H)) ca gn (m_set pu (t % 2) ((pu (t % 2)) + (m_std P s x))) mk := hr31.2.2
          refine AR.callV [] hE29 hg.1 rfl rfl rfl rfl rfl ?_
          show AR E d _ (129, [some (vA g), some (vI s), some (vI x), some (vI (t % 2)), some (vI (m_own (m_held (m_proP P s x) s x)))], [vI (m_stR (m_mov (m_proP P s x) s x) n q ((m_trn (m_mov (m_proP P s x) s x) q p (t + 1) cl tn n.toNat).1) (t + 1) (m_key (m_mov (m_proP P s x) s x) ((m_trn (m_mov (m_proP P s x) s x) q p (t + 1) cl tn n.toNat).1) ((t + 1) % 2) :: H))], (C, N30)) _
          have f33 := m_stl_in (m_mov (m_proP P s x) s x) n q ((m_trn (m_mov (m_proP P s x) s x) q p (t + 1) cl tn n.toNat).1) (t + 1) (m_key (m_mov (m_proP P s x) s x) ((m_trn (m_mov (m_proP P s x) s x) q p (t + 1) cl tn n.toNat).1) ((t + 1) % 2) :: H)
          refine AR.endI rfl (.inl rfl) ?_
          have e1 : m_gP P n q p cl tn t s x = (m_mov (m_proP P s x) s x) := by unfold m_gP; first | exact if_pos (by omega) | exact if_neg (by omega)
          have e2 : m_gca P n q p cl tn t ca s x = ca := by unfold m_gca; first | exact if_pos (by omega) | exact if_neg (by omega)
          have e3 : m_gmk P t mk s x = mk := by unfold m_gmk; first | exact if_pos (by omega) | exact if_neg (by omega)
          have e4 : m_ggn P gn s x = gn := by unfold m_ggn; first | exact if_pos (by omega) | exact if_neg (by omega)
          unfold m_gH
          rw [e1, e2, e3, e4]
          exact ⟨_, rfl, ⟨BN30, HN30, TN30⟩, FN30⟩
        · show AR E d _ (117, [some (vA g), some (vI s), some (vI x), some (vI (t % 2)), some (vI (m_own (m_held (m_proP P s x) s x)))], [], (C, N21)) _
          refine AR.blk 1 (f' := (118, [some (vA g), some (vI s), some (vI x), some (vI (t % 2)), some (vI (m_own (m_held (m_proP P s x) s x)))], [vA g], (C, N21))) (fun _ => rfl) ?_
          obtain ⟨_, hE34, N35, rfl, hr36, hf37⟩ := ev_X1_carryByTide (E := E) (d := d) (by omega) hg hr22 HN21 TN21 whr22 hwH (by omega)  
          have FN35 : ∀ a, ¬ (g ≤ a ∧ a < g + 13) → N35 a = N a := fun a ha => (hf37 a (by omega)).trans (FN21 a ha)
          have BN35 : g_rB N35 (g + 1) (m_tdP (m_mov (m_proP P s x) s x) n q ((m_trn (m_mov (m_proP P s x) s x) q p (t + 1) cl tn n.toNat).1) (t + 1)) n q p ((m_trn (m_mov (m_proP P s x) s x) q p (t + 1) cl tn n.toNat).1) ((m_trn (m_mov (m_proP P s x) s x) q p (t + 1) cl tn n.toNat).2) := hr36.1
          have HN35 : g_rH N35 (g + 7) H := hr36.2.1
          have TN35 : g_rT N35 g (t + 1) bg en (m_tdC (m_mov (m_proP P s x) s x) n q ((m_trn (m_mov (m_proP P s x) s x) q p (t + 1) cl tn n.toNat).1) (t + 1) ca) gn (m_set pu (t % 2) ((pu (t % 2)) + (m_std P s x))) mk := hr36.2.2
          have WN35 := m_tdP_w whr22 (t + 1)
          refine AR.callV [] hE34 hg.1 rfl rfl rfl rfl rfl ?_
          show AR E d _ (121, [some (vA g), some (vI s), some (vI x), some (vI (t % 2)), some (vI (m_own (m_held (m_proP P s x) s x)))], [], (C, N35)) _
          refine AR.blk 1 (f' := (122, [some (vA g), some (vI s), some (vI x), some (vI (t % 2)), some (vI (m_own (m_held (m_proP P s x) s x)))], [vA g], (C, N35))) (fun _ => rfl) ?_
          obtain ⟨_, hE38, N39, rfl, hr40, hf41⟩ := ev_X1_recordPosition (E := E) (d := d) (by omega) hg BN35 HN35 TN35 WN35 hwH (by omega)  (by omega)
          have FN39 : ∀ a, ¬ (g ≤ a ∧ a < g + 13) → N39 a = N a := fun a ha => (hf41 a (by omega)).trans (FN35 a ha)
          have BN39 : g_rB N39 (g + 1) (m_tdP (m_mov (m_proP P s x) s x) n q ((m_trn (m_mov (m_proP P s x) s x) q p (t + 1) cl tn n.toNat).1) (t + 1)) n q p ((m_trn (m_mov (m_proP P s x) s x) q p (t + 1) cl tn n.toNat).1) ((m_trn (m_mov (m_proP P s x) s x) q p (t + 1) cl tn n.toNat).2) := hr40.1
          have HN39 : g_rH N39 (g + 7) (m_key (m_tdP (m_mov (m_proP P s x) s x) n q ((m_trn (m_mov (m_proP P s x) s x) q p (t + 1) cl tn n.toNat).1) (t + 1)) ((m_trn (m_mov (m_proP P s x) s x) q p (t + 1) cl tn n.toNat).1) ((t + 1) % 2) :: H) := hr40.2.1
          have TN39 : g_rT N39 g (t + 1) bg en (m_tdC (m_mov (m_proP P s x) s x) n q ((m_trn (m_mov (m_proP P s x) s x) q p (t + 1) cl tn n.toNat).1) (t + 1) ca) gn (m_set pu (t % 2) ((pu (t % 2)) + (m_std P s x))) mk := hr40.2.2
          have WN39 := g_wH_cons hwH (by omega) (m_key_in (m_tdP (m_mov (m_proP P s x) s x) n q ((m_trn (m_mov (m_proP P s x) s x) q p (t + 1) cl tn n.toNat).1) (t + 1)) ((m_trn (m_mov (m_proP P s x) s x) q p (t + 1) cl tn n.toNat).1) ((t + 1) % 2) WN35.1 (fun k => (WN35.2.2.2.2.1 k).1) (by omega))
          refine AR.callV [] hE38 hg.1 rfl rfl rfl rfl rfl ?_
          show AR E d _ (125, [some (vA g), some (vI s), some (vI x), some (vI (t % 2)), some (vI (m_own (m_held (m_proP P s x) s x)))], [], (C, N39)) _
          refine AR.blk 1 (f' := (126, [some (vA g), some (vI s), some (vI x), some (vI (t % 2)), some (vI (m_own (m_held (m_proP P s x) s x)))], [vA g], (C, N39))) (fun _ => rfl) ?_
          obtain ⟨_, hE42, N43, rfl, hr44, hf45⟩ := ev_X1_settleEnding (E := E) (d := d) (by omega) hg BN39 HN39 TN39 WN35 WN39 (by omega)  (by omega)
          have FN43 : ∀ a, ¬ (g ≤ a ∧ a < g + 13) → N43 a = N a := fun a ha => (hf45 a (by omega)).trans (FN39 a ha)
          have BN43 : g_rB N43 (g + 1) (m_tdP (m_mov (m_proP P s x) s x) n q ((m_trn (m_mov (m_proP P s x) s x) q p (t + 1) cl tn n.toNat).1) (t + 1)) n q p ((m_trn (m_mov (m_proP P s x) s x) q p (t + 1) cl tn n.toNat).1) ((m_trn (m_mov (m_proP P s x) s x) q p (t + 1) cl tn n.toNat).2) := hr44.1
          have HN43 : g_rH N43 (g + 7) (m_key (m_tdP (m_mov (m_proP P s x) s x) n q ((m_trn (m_mov (m_proP P s x) s x) q p (t + 1) cl tn n.toNat).1) (t + 1)) ((m_trn (m_mov (m_proP P s x) s x) q p (t + 1) cl tn n.toNat).1) ((t + 1) % 2) :: H) := hr44.2.1
          have TN43 : g_rT N43 g (t + 1) bg (m_stl (m_tdP (m_mov (m_proP P s x) s x) n q ((m_trn (m_mov (m_proP P s x) s x) q p (t + 1) cl tn n.toNat).1) (t + 1)) n q ((m_trn (m_mov (m_proP P s x) s x) q p (t + 1) cl tn n.toNat).1) (t + 1) (m_key (m_tdP (m_mov (m_proP P s x) s x) n q ((m_trn (m_mov (m_proP P s x) s x) q p (t + 1) cl tn n.toNat).1) (t + 1)) ((m_trn (m_mov (m_proP P s x) s x) q p (t + 1) cl tn n.toNat).1) ((t + 1) % 2) :: H)) (m_tdC (m_mov (m_proP P s x) s x) n q ((m_trn (m_mov (m_proP P s x) s x) q p (t + 1) cl tn n.toNat).1) (t + 1) ca) gn (m_set pu (t % 2) ((pu (t % 2)) + (m_std P s x))) mk := hr44.2.2
          refine AR.callV [] hE42 hg.1 rfl rfl rfl rfl rfl ?_
          show AR E d _ (129, [some (vA g), some (vI s), some (vI x), some (vI (t % 2)), some (vI (m_own (m_held (m_proP P s x) s x)))], [vI (m_stR (m_tdP (m_mov (m_proP P s x) s x) n q ((m_trn (m_mov (m_proP P s x) s x) q p (t + 1) cl tn n.toNat).1) (t + 1)) n q ((m_trn (m_mov (m_proP P s x) s x) q p (t + 1) cl tn n.toNat).1) (t + 1) (m_key (m_tdP (m_mov (m_proP P s x) s x) n q ((m_trn (m_mov (m_proP P s x) s x) q p (t + 1) cl tn n.toNat).1) (t + 1)) ((m_trn (m_mov (m_proP P s x) s x) q p (t + 1) cl tn n.toNat).1) ((t + 1) % 2) :: H))], (C, N43)) _
          have f46 := m_stl_in (m_tdP (m_mov (m_proP P s x) s x) n q ((m_trn (m_mov (m_proP P s x) s x) q p (t + 1) cl tn n.toNat).1) (t + 1)) n q ((m_trn (m_mov (m_proP P s x) s x) q p (t + 1) cl tn n.toNat).1) (t + 1) (m_key (m_tdP (m_mov (m_proP P s x) s x) n q ((m_trn (m_mov (m_proP P s x) s x) q p (t + 1) cl tn n.toNat).1) (t + 1)) ((m_trn (m_mov (m_proP P s x) s x) q p (t + 1) cl tn n.toNat).1) ((t + 1) % 2) :: H)
          refine AR.endI rfl (.inl rfl) ?_
          have e1 : m_gP P n q p cl tn t s x = (m_tdP (m_mov (m_proP P s x) s x) n q ((m_trn (m_mov (m_proP P s x) s x) q p (t + 1) cl tn n.toNat).1) (t + 1)) := by unfold m_gP; first | exact if_pos (by omega) | exact if_neg (by omega)
          have e2 : m_gca P n q p cl tn t ca s x = (m_tdC (m_mov (m_proP P s x) s x) n q ((m_trn (m_mov (m_proP P s x) s x) q p (t + 1) cl tn n.toNat).1) (t + 1) ca) := by unfold m_gca; first | exact if_pos (by omega) | exact if_neg (by omega)
          have e3 : m_gmk P t mk s x = mk := by unfold m_gmk; first | exact if_pos (by omega) | exact if_neg (by omega)
          have e4 : m_ggn P gn s x = gn := by unfold m_ggn; first | exact if_pos (by omega) | exact if_neg (by omega)
          unfold m_gH
          rw [e1, e2, e3, e4]
          exact ⟨_, rfl, ⟨BN43, HN43, TN43⟩, FN43⟩
      · show AR E d _ (76, [some (vA g), some (vI s), some (vI x), some (vI (t % 2)), some (vI (m_own (m_held (m_proP P s x) s x)))], [], (C, N12)) _
        refine AR.blk 1 (f' := (77, [some (vA g), some (vI s), some (vI x), some (vI (t % 2)), some (vI (m_own (m_held (m_proP P s x) s x)))], [vA g], (C, N12))) (fun _ => rfl) ?_
        refine AR.getR rfl rfl hg.1 (by decide) rfl ?_
        refine AR.blk 2 (f' := (83, [some (vA g), some (vI s), some (vI x), some (vI (t % 2)), some (vI (m_own (m_held (m_proP P s x) s x)))], [vI (m_own (m_held (m_proP P s x) s x)), vA (g + 10), vI (m_own (m_held (m_proP P s x) s x)), vA (g + 10)], (C, N12))) (fun _ => rfl) ?_
        refine AR.iald rfl hg.2.2.2.1 (by omega) (v := gn (m_own (m_held (m_proP P s x) s x))) (TN12.2 _ (by omega) (by omega)).1 ?_
        refine AR.blk 2 (f' := (86, [some (vA g), some (vI s), some (vI x), some (vI (t % 2)), some (vI (m_own (m_held (m_proP P s x) s x)))], [vI ((gn (m_own (m_held (m_proP P s x) s x))) + 1), vI (m_own (m_held (m_proP P s x) s x)), vA (g + 10)], (C, N12))) (fun _ => rfl) ?_
        refine AR.iast rfl hg.2.2.2.1 (by omega) ?_
        show AR E d _ (87, [some (vA g), some (vI s), some (vI x), some (vI (t % 2)), some (vI (m_own (m_held (m_proP P s x) s x)))], [], (C, ag_upd N12 (g + 10) (m_own (m_held (m_proP P s x) s x)) ((gn (m_own (m_held (m_proP P s x) s x))) + 1))) _
        have TN48 := g_rT_gn TN12 (m_own (m_held (m_proP P s x) s x)) ((gn (m_own (m_held (m_proP P s x) s x))) + 1)
        have FN48 : ∀ a, ¬ (g ≤ a ∧ a < g + 13) → (ag_upd N12 (g + 10) (m_own (m_held (m_proP P s x) s x)) ((gn (m_own (m_held (m_proP P s x) s x))) + 1)) a = N a := fun a ha => (ag_upd_ne (by omega)).trans (FN12 a ha)
        have BN48 := g_rB_fr hr13 (N' := ag_upd N12 (g + 10) (m_own (m_held (m_proP P s x) s x)) ((gn (m_own (m_held (m_proP P s x) s x))) + 1)) (fun a z0 z1 => ag_upd_ne (by omega))
        have HN48 := g_rH_fr HN12 (N' := ag_upd N12 (g + 10) (m_own (m_held (m_proP P s x) s x)) ((gn (m_own (m_held (m_proP P s x) s x))) + 1)) (fun a z0 z1 => ag_upd_ne (by omega))
        generalize ag_upd N12 (g + 10) (m_own (m_held (m_proP P s x) s x)) ((gn (m_own (m_held (m_proP P s x) s x))) + 1) = N48 at *
        refine AR.blk 2 (f' := (89, [some (vA g), some (vI s), some (vI x), some (vI (t % 2)), some (vI (m_own (m_held (m_proP P s x) s x)))], [vA g, vA g], (C, N48))) (fun _ => rfl) ?_
        refine AR.getI rfl rfl hg.1 (by decide) (v := t) TN48.1.2.2.1 ?_
        refine AR.blk 2 (f' := (94, [some (vA g), some (vI s), some (vI x), some (vI (t % 2)), some (vI (m_own (m_held (m_proP P s x) s x)))], [vI (t + 1), vA g], (C, N48))) (fun _ => rfl) ?_
        refine AR.putI rfl rfl hg.1 (by decide) (fun q => absurd q (by decide)) ?_
        show AR E d _ (97, [some (vA g), some (vI s), some (vI x), some (vI (t % 2)), some (vI (m_own (m_held (m_proP P s x) s x)))], [], (C, ag_upd N48 g 4 (t + 1))) _
        have TN50 := g_rT_t TN48 (t + 1)
        have FN50 : ∀ a, ¬ (g ≤ a ∧ a < g + 13) → (ag_upd N48 g 4 (t + 1)) a = N a := fun a ha => (ag_upd_ne (by omega)).trans (FN48 a ha)
        have BN50 := g_rB_fr BN48 (N' := ag_upd N48 g 4 (t + 1)) (fun a z0 z1 => ag_upd_ne (by omega))
        have HN50 := g_rH_fr HN48 (N' := ag_upd N48 g 4 (t + 1)) (fun a z0 z1 => ag_upd_ne (by omega))
        generalize ag_upd N48 g 4 (t + 1) = N50 at *
        refine AR.blk 1 (f' := (98, [some (vA g), some (vI s), some (vI x), some (vI (t % 2)), some (vI (m_own (m_held (m_proP P s x) s x)))], [vA g], (C, N50))) (fun _ => rfl) ?_
        refine AR.getR rfl rfl hg.1 (by decide) rfl ?_
        refine AR.blk 1 (f' := (102, [some (vA g), some (vI s), some (vI x), some (vI (t % 2)), some (vI (m_own (m_held (m_proP P s x) s x)))], [vA g, vA (g + 1)], (C, N50))) (fun _ => rfl) ?_
        refine AR.getI rfl rfl hg.1 (by decide) (v := t + 1) TN50.1.2.2.1 ?_
        obtain ⟨_, hE51, N52, rfl, hr53, hf54⟩ := ev_X0_turnLocks (E := E) (d := d) (by omega) hg.2.1 BN50 whr13 (t + 1) (by omega)
        have whr53 := m_trn_w whr13 (t + 1) (n).toNat (by have := whr13.2.2.1; omega)
        have FN52 : ∀ a, ¬ (g ≤ a ∧ a < g + 13) → N52 a = N a := fun a ha => (hf54 a (by omega)).trans (FN50 a ha)
        have HN52 := g_rH_fr HN50 (N' := N52) (fun a z0 z1 => hf54 a (by omega))
        have TN52 := g_rT_fr TN50 (N' := N52) (hf54 _ (by omega)) (hf54 _ (by omega)) (hf54 _ (by omega)) (hf54 _ (by omega))
        refine AR.callV [vI (t + 1)] hE51 hg.2.1.1 rfl rfl rfl rfl rfl ?_
        show AR E d _ (108, [some (vA g), some (vI s), some (vI x), some (vI (t % 2)), some (vI (m_own (m_held (m_proP P s x) s x)))], [], (C, N52)) _
        refine AR.blk 1 (f' := (109, [some (vA g), some (vI s), some (vI x), some (vI (t % 2)), some (vI (m_own (m_held (m_proP P s x) s x)))], [vA g], (C, N52))) (fun _ => rfl) ?_
        refine AR.getI rfl rfl hg.1 (by decide) (v := t + 1) TN52.1.2.2.1 ?_
        refine AR.blk 1 (f' := (113, [some (vA g), some (vI s), some (vI x), some (vI (t % 2)), some (vI (m_own (m_held (m_proP P s x) s x)))], [vI 4, vI (t + 1)], (C, N52))) (fun _ => rfl) ?_
        refine AR.irem rfl (by omega) ?_
        refine AR.if_ne rfl (by omega) (fun c55 => ?_) (fun c55 => ?_)
        · show AR E d _ (121, [some (vA g), some (vI s), some (vI x), some (vI (t % 2)), some (vI (m_own (m_held (m_proP P s x) s x)))], [], (C, N52)) _
          refine AR.blk 1 (f' := (122, [some (vA g), some (vI s), some (vI x), some (vI (t % 2)), some (vI (m_own (m_held (m_proP P s x) s x)))], [vA g], (C, N52))) (fun _ => rfl) ?_
          obtain ⟨_, hE56, N57, rfl, hr58, hf59⟩ := ev_X1_recordPosition (E := E) (d := d) (by omega) hg hr53 HN52 TN52 whr53 hwH (by omega)  (by omega)
          have FN57 : ∀ a, ¬ (g ≤ a ∧ a < g + 13) → N57 a = N a := fun a ha => (hf59 a (by omega)).trans (FN52 a ha)
          have BN57 : g_rB N57 (g + 1) (m_mov (m_proP P s x) s x) n q p ((m_trn (m_mov (m_proP P s x) s x) q p (t + 1) cl tn n.toNat).1) ((m_trn (m_mov (m_proP P s x) s x) q p (t + 1) cl tn n.toNat).2) := hr58.1
          have HN57 : g_rH N57 (g + 7) (m_key (m_mov (m_proP P s x) s x) ((m_trn (m_mov (m_proP P s x) s x) q p (t + 1) cl tn n.toNat).1) ((t + 1) % 2) :: H) := hr58.2.1
          have TN57 : g_rT N57 g (t + 1) bg en ca (m_set gn (m_own (m_held (m_proP P s x) s x)) ((gn (m_own (m_held (m_proP P s x) s x))) + 1)) (m_set pu (t % 2) ((pu (t % 2)) + (m_std P s x))) mk := hr58.2.2
          have WN57 := g_wH_cons hwH (by omega) (m_key_in (m_mov (m_proP P s x) s x) ((m_trn (m_mov (m_proP P s x) s x) q p (t + 1) cl tn n.toNat).1) ((t + 1) % 2) whr53.1 (fun k => (whr53.2.2.2.2.1 k).1) (by omega))
          refine AR.callV [] hE56 hg.1 rfl rfl rfl rfl rfl ?_
          show AR E d _ (125, [some (vA g), some (vI s), some (vI x), some (vI (t % 2)), some (vI (m_own (m_held (m_proP P s x) s x)))], [], (C, N57)) _
          refine AR.blk 1 (f' := (126, [some (vA g), some (vI s), some (vI x), some (vI (t % 2)), some (vI (m_own (m_held (m_proP P s x) s x)))], [vA g], (C, N57))) (fun _ => rfl) ?_
          obtain ⟨_, hE60, N61, rfl, hr62, hf63⟩ := ev_X1_settleEnding (E := E) (d := d) (by omega) hg BN57 HN57 TN57 whr53 WN57 (by omega)  (by omega)
          have FN61 : ∀ a, ¬ (g ≤ a ∧ a < g + 13) → N61 a = N a := fun a ha => (hf63 a (by omega)).trans (FN57 a ha)
          have BN61 : g_rB N61 (g + 1) (m_mov (m_proP P s x) s x) n q p ((m_trn (m_mov (m_proP P s x) s x) q p (t + 1) cl tn n.toNat).1) ((m_trn (m_mov (m_proP P s x) s x) q p (t + 1) cl tn n.toNat).2) := hr62.1
          have HN61 : g_rH N61 (g + 7) (m_key (m_mov (m_proP P s x) s x) ((m_trn (m_mov (m_proP P s x) s x) q p (t + 1) cl tn n.toNat).1) ((t + 1) % 2) :: H) := hr62.2.1
          have TN61 : g_rT N61 g (t + 1) bg (m_stl (m_mov (m_proP P s x) s x) n q ((m_trn (m_mov (m_proP P s x) s x) q p (t + 1) cl tn n.toNat).1) (t + 1) (m_key (m_mov (m_proP P s x) s x) ((m_trn (m_mov (m_proP P s x) s x) q p (t + 1) cl tn n.toNat).1) ((t + 1) % 2) :: H)) ca (m_set gn (m_own (m_held (m_proP P s x) s x)) ((gn (m_own (m_held (m_proP P s x) s x))) + 1)) (m_set pu (t % 2) ((pu (t % 2)) + (m_std P s x))) mk := hr62.2.2
          refine AR.callV [] hE60 hg.1 rfl rfl rfl rfl rfl ?_
          show AR E d _ (129, [some (vA g), some (vI s), some (vI x), some (vI (t % 2)), some (vI (m_own (m_held (m_proP P s x) s x)))], [vI (m_stR (m_mov (m_proP P s x) s x) n q ((m_trn (m_mov (m_proP P s x) s x) q p (t + 1) cl tn n.toNat).1) (t + 1) (m_key (m_mov (m_proP P s x) s x) ((m_trn (m_mov (m_proP P s x) s x) q p (t + 1) cl tn n.toNat).1) ((t + 1) % 2) :: H))], (C, N61)) _
          have f64 := m_stl_in (m_mov (m_proP P s x) s x) n q ((m_trn (m_mov (m_proP P s x) s x) q p (t + 1) cl tn n.toNat).1) (t + 1) (m_key (m_mov (m_proP P s x) s x) ((m_trn (m_mov (m_proP P s x) s x) q p (t + 1) cl tn n.toNat).1) ((t + 1) % 2) :: H)
          refine AR.endI rfl (.inl rfl) ?_
          have e1 : m_gP P n q p cl tn t s x = (m_mov (m_proP P s x) s x) := by unfold m_gP; first | exact if_pos (by omega) | exact if_neg (by omega)
          have e2 : m_gca P n q p cl tn t ca s x = ca := by unfold m_gca; first | exact if_pos (by omega) | exact if_neg (by omega)
          have e3 : m_gmk P t mk s x = mk := by unfold m_gmk; first | exact if_pos (by omega) | exact if_neg (by omega)
          have e4 : m_ggn P gn s x = (m_set gn (m_own (m_held (m_proP P s x) s x)) ((gn (m_own (m_held (m_proP P s x) s x))) + 1)) := by unfold m_ggn; first | exact if_pos (by omega) | exact if_neg (by omega)
          unfold m_gH
          rw [e1, e2, e3, e4]
          exact ⟨_, rfl, ⟨BN61, HN61, TN61⟩, FN61⟩
        · show AR E d _ (117, [some (vA g), some (vI s), some (vI x), some (vI (t % 2)), some (vI (m_own (m_held (m_proP P s x) s x)))], [], (C, N52)) _
          refine AR.blk 1 (f' := (118, [some (vA g), some (vI s), some (vI x), some (vI (t % 2)), some (vI (m_own (m_held (m_proP P s x) s x)))], [vA g], (C, N52))) (fun _ => rfl) ?_
          obtain ⟨_, hE65, N66, rfl, hr67, hf68⟩ := ev_X1_carryByTide (E := E) (d := d) (by omega) hg hr53 HN52 TN52 whr53 hwH (by omega)  
          have FN66 : ∀ a, ¬ (g ≤ a ∧ a < g + 13) → N66 a = N a := fun a ha => (hf68 a (by omega)).trans (FN52 a ha)
          have BN66 : g_rB N66 (g + 1) (m_tdP (m_mov (m_proP P s x) s x) n q ((m_trn (m_mov (m_proP P s x) s x) q p (t + 1) cl tn n.toNat).1) (t + 1)) n q p ((m_trn (m_mov (m_proP P s x) s x) q p (t + 1) cl tn n.toNat).1) ((m_trn (m_mov (m_proP P s x) s x) q p (t + 1) cl tn n.toNat).2) := hr67.1
          have HN66 : g_rH N66 (g + 7) H := hr67.2.1
          have TN66 : g_rT N66 g (t + 1) bg en (m_tdC (m_mov (m_proP P s x) s x) n q ((m_trn (m_mov (m_proP P s x) s x) q p (t + 1) cl tn n.toNat).1) (t + 1) ca) (m_set gn (m_own (m_held (m_proP P s x) s x)) ((gn (m_own (m_held (m_proP P s x) s x))) + 1)) (m_set pu (t % 2) ((pu (t % 2)) + (m_std P s x))) mk := hr67.2.2
          have WN66 := m_tdP_w whr53 (t + 1)
          refine AR.callV [] hE65 hg.1 rfl rfl rfl rfl rfl ?_
          show AR E d _ (121, [some (vA g), some (vI s), some (vI x), some (vI (t % 2)), some (vI (m_own (m_held (m_proP P s x) s x)))], [], (C, N66)) _
          refine AR.blk 1 (f' := (122, [some (vA g), some (vI s), some (vI x), some (vI (t % 2)), some (vI (m_own (m_held (m_proP P s x) s x)))], [vA g], (C, N66))) (fun _ => rfl) ?_
          obtain ⟨_, hE69, N70, rfl, hr71, hf72⟩ := ev_X1_recordPosition (E := E) (d := d) (by omega) hg BN66 HN66 TN66 WN66 hwH (by omega)  (by omega)
          have FN70 : ∀ a, ¬ (g ≤ a ∧ a < g + 13) → N70 a = N a := fun a ha => (hf72 a (by omega)).trans (FN66 a ha)
          have BN70 : g_rB N70 (g + 1) (m_tdP (m_mov (m_proP P s x) s x) n q ((m_trn (m_mov (m_proP P s x) s x) q p (t + 1) cl tn n.toNat).1) (t + 1)) n q p ((m_trn (m_mov (m_proP P s x) s x) q p (t + 1) cl tn n.toNat).1) ((m_trn (m_mov (m_proP P s x) s x) q p (t + 1) cl tn n.toNat).2) := hr71.1
          have HN70 : g_rH N70 (g + 7) (m_key (m_tdP (m_mov (m_proP P s x) s x) n q ((m_trn (m_mov (m_proP P s x) s x) q p (t + 1) cl tn n.toNat).1) (t + 1)) ((m_trn (m_mov (m_proP P s x) s x) q p (t + 1) cl tn n.toNat).1) ((t + 1) % 2) :: H) := hr71.2.1
          have TN70 : g_rT N70 g (t + 1) bg en (m_tdC (m_mov (m_proP P s x) s x) n q ((m_trn (m_mov (m_proP P s x) s x) q p (t + 1) cl tn n.toNat).1) (t + 1) ca) (m_set gn (m_own (m_held (m_proP P s x) s x)) ((gn (m_own (m_held (m_proP P s x) s x))) + 1)) (m_set pu (t % 2) ((pu (t % 2)) + (m_std P s x))) mk := hr71.2.2
          have WN70 := g_wH_cons hwH (by omega) (m_key_in (m_tdP (m_mov (m_proP P s x) s x) n q ((m_trn (m_mov (m_proP P s x) s x) q p (t + 1) cl tn n.toNat).1) (t + 1)) ((m_trn (m_mov (m_proP P s x) s x) q p (t + 1) cl tn n.toNat).1) ((t + 1) % 2) WN66.1 (fun k => (WN66.2.2.2.2.1 k).1) (by omega))
          refine AR.callV [] hE69 hg.1 rfl rfl rfl rfl rfl ?_
          show AR E d _ (125, [some (vA g), some (vI s), some (vI x), some (vI (t % 2)), some (vI (m_own (m_held (m_proP P s x) s x)))], [], (C, N70)) _
          refine AR.blk 1 (f' := (126, [some (vA g), some (vI s), some (vI x), some (vI (t % 2)), some (vI (m_own (m_held (m_proP P s x) s x)))], [vA g], (C, N70))) (fun _ => rfl) ?_
          obtain ⟨_, hE73, N74, rfl, hr75, hf76⟩ := ev_X1_settleEnding (E := E) (d := d) (by omega) hg BN70 HN70 TN70 WN66 WN70 (by omega)  (by omega)
          have FN74 : ∀ a, ¬ (g ≤ a ∧ a < g + 13) → N74 a = N a := fun a ha => (hf76 a (by omega)).trans (FN70 a ha)
          have BN74 : g_rB N74 (g + 1) (m_tdP (m_mov (m_proP P s x) s x) n q ((m_trn (m_mov (m_proP P s x) s x) q p (t + 1) cl tn n.toNat).1) (t + 1)) n q p ((m_trn (m_mov (m_proP P s x) s x) q p (t + 1) cl tn n.toNat).1) ((m_trn (m_mov (m_proP P s x) s x) q p (t + 1) cl tn n.toNat).2) := hr75.1
          have HN74 : g_rH N74 (g + 7) (m_key (m_tdP (m_mov (m_proP P s x) s x) n q ((m_trn (m_mov (m_proP P s x) s x) q p (t + 1) cl tn n.toNat).1) (t + 1)) ((m_trn (m_mov (m_proP P s x) s x) q p (t + 1) cl tn n.toNat).1) ((t + 1) % 2) :: H) := hr75.2.1
          have TN74 : g_rT N74 g (t + 1) bg (m_stl (m_tdP (m_mov (m_proP P s x) s x) n q ((m_trn (m_mov (m_proP P s x) s x) q p (t + 1) cl tn n.toNat).1) (t + 1)) n q ((m_trn (m_mov (m_proP P s x) s x) q p (t + 1) cl tn n.toNat).1) (t + 1) (m_key (m_tdP (m_mov (m_proP P s x) s x) n q ((m_trn (m_mov (m_proP P s x) s x) q p (t + 1) cl tn n.toNat).1) (t + 1)) ((m_trn (m_mov (m_proP P s x) s x) q p (t + 1) cl tn n.toNat).1) ((t + 1) % 2) :: H)) (m_tdC (m_mov (m_proP P s x) s x) n q ((m_trn (m_mov (m_proP P s x) s x) q p (t + 1) cl tn n.toNat).1) (t + 1) ca) (m_set gn (m_own (m_held (m_proP P s x) s x)) ((gn (m_own (m_held (m_proP P s x) s x))) + 1)) (m_set pu (t % 2) ((pu (t % 2)) + (m_std P s x))) mk := hr75.2.2
          refine AR.callV [] hE73 hg.1 rfl rfl rfl rfl rfl ?_
          show AR E d _ (129, [some (vA g), some (vI s), some (vI x), some (vI (t % 2)), some (vI (m_own (m_held (m_proP P s x) s x)))], [vI (m_stR (m_tdP (m_mov (m_proP P s x) s x) n q ((m_trn (m_mov (m_proP P s x) s x) q p (t + 1) cl tn n.toNat).1) (t + 1)) n q ((m_trn (m_mov (m_proP P s x) s x) q p (t + 1) cl tn n.toNat).1) (t + 1) (m_key (m_tdP (m_mov (m_proP P s x) s x) n q ((m_trn (m_mov (m_proP P s x) s x) q p (t + 1) cl tn n.toNat).1) (t + 1)) ((m_trn (m_mov (m_proP P s x) s x) q p (t + 1) cl tn n.toNat).1) ((t + 1) % 2) :: H))], (C, N74)) _
          have f77 := m_stl_in (m_tdP (m_mov (m_proP P s x) s x) n q ((m_trn (m_mov (m_proP P s x) s x) q p (t + 1) cl tn n.toNat).1) (t + 1)) n q ((m_trn (m_mov (m_proP P s x) s x) q p (t + 1) cl tn n.toNat).1) (t + 1) (m_key (m_tdP (m_mov (m_proP P s x) s x) n q ((m_trn (m_mov (m_proP P s x) s x) q p (t + 1) cl tn n.toNat).1) (t + 1)) ((m_trn (m_mov (m_proP P s x) s x) q p (t + 1) cl tn n.toNat).1) ((t + 1) % 2) :: H)
          refine AR.endI rfl (.inl rfl) ?_
          have e1 : m_gP P n q p cl tn t s x = (m_tdP (m_mov (m_proP P s x) s x) n q ((m_trn (m_mov (m_proP P s x) s x) q p (t + 1) cl tn n.toNat).1) (t + 1)) := by unfold m_gP; first | exact if_pos (by omega) | exact if_neg (by omega)
          have e2 : m_gca P n q p cl tn t ca s x = (m_tdC (m_mov (m_proP P s x) s x) n q ((m_trn (m_mov (m_proP P s x) s x) q p (t + 1) cl tn n.toNat).1) (t + 1) ca) := by unfold m_gca; first | exact if_pos (by omega) | exact if_neg (by omega)
          have e3 : m_gmk P t mk s x = mk := by unfold m_gmk; first | exact if_pos (by omega) | exact if_neg (by omega)
          have e4 : m_ggn P gn s x = (m_set gn (m_own (m_held (m_proP P s x) s x)) ((gn (m_own (m_held (m_proP P s x) s x))) + 1)) := by unfold m_ggn; first | exact if_pos (by omega) | exact if_neg (by omega)
          unfold m_gH
          rw [e1, e2, e3, e4]
          exact ⟨_, rfl, ⟨BN74, HN74, TN74⟩, FN74⟩
    · show AR E d _ (44, [some (vA g), some (vI s), some (vI x), some (vI (t % 2)), none], [], (C, N6)) _
      refine AR.blk 1 (f' := (45, [some (vA g), some (vI s), some (vI x), some (vI (t % 2)), none], [vA g], (C, N6))) (fun _ => rfl) ?_
      refine AR.getR rfl rfl hg.1 (by decide) rfl ?_
      refine AR.blk 2 (f' := (50, [some (vA g), some (vI s), some (vI x), some (vI (t % 2)), none], [vI (t % 2), vA (g + 12), vI (t % 2), vA (g + 12)], (C, N6))) (fun _ => rfl) ?_
      refine AR.iald rfl hg.2.2.2.2.2 (by omega) (v := mk (t % 2)) (TN6.2 _ (by omega) (by omega)).2.2 ?_
      refine AR.blk 2 (f' := (53, [some (vA g), some (vI s), some (vI x), some (vI (t % 2)), none], [vI ((mk (t % 2)) + 1), vI (t % 2), vA (g + 12)], (C, N6))) (fun _ => rfl) ?_
      refine AR.iast rfl hg.2.2.2.2.2 (by omega) ?_
      show AR E d _ (54, [some (vA g), some (vI s), some (vI x), some (vI (t % 2)), none], [], (C, ag_upd N6 (g + 12) (t % 2) ((mk (t % 2)) + 1))) _
      have TN79 := g_rT_mk TN6 (t % 2) ((mk (t % 2)) + 1)
      have FN79 : ∀ a, ¬ (g ≤ a ∧ a < g + 13) → (ag_upd N6 (g + 12) (t % 2) ((mk (t % 2)) + 1)) a = N a := fun a ha => (ag_upd_ne (by omega)).trans (FN6 a ha)
      have BN79 := g_rB_fr hr7 (N' := ag_upd N6 (g + 12) (t % 2) ((mk (t % 2)) + 1)) (fun a z0 z1 => ag_upd_ne (by omega))
      have HN79 := g_rH_fr HN6 (N' := ag_upd N6 (g + 12) (t % 2) ((mk (t % 2)) + 1)) (fun a z0 z1 => ag_upd_ne (by omega))
      generalize ag_upd N6 (g + 12) (t % 2) ((mk (t % 2)) + 1) = N79 at *
      refine AR.blk 1 (f' := (55, [some (vA g), some (vI s), some (vI x), some (vI (t % 2)), none], [vA g], (C, N79))) (fun _ => rfl) ?_
      refine AR.getR rfl rfl hg.1 (by decide) rfl ?_
      refine AR.blk 2 (f' := (60, [some (vA g), some (vI s), some (vI x), some (vI (t % 2)), none], [vI x, vI s, vA (g + 1)], (C, N79))) (fun _ => rfl) ?_
      obtain ⟨_, hE80, N81, rfl, hr82, hf83⟩ := ev_X0_shift (E := E) (d := d) (by omega) hg.2.1 BN79 whr7 s x (by omega) (by omega)
      have whr82 := m_mov_w whr7 (show 0 ≤ s ∧ s < 36 by omega) (show 0 ≤ x ∧ x < 4 by omega)
      have FN81 : ∀ a, ¬ (g ≤ a ∧ a < g + 13) → N81 a = N a := fun a ha => (hf83 a (by omega)).trans (FN79 a ha)
      have HN81 := g_rH_fr HN79 (N' := N81) (fun a z0 z1 => hf83 a (by omega))
      have TN81 := g_rT_fr TN79 (N' := N81) (hf83 _ (by omega)) (hf83 _ (by omega)) (hf83 _ (by omega)) (hf83 _ (by omega))
      refine AR.callV [vI s, vI x] hE80 hg.2.1.1 rfl rfl rfl rfl rfl ?_
      show AR E d _ (63, [some (vA g), some (vI s), some (vI x), some (vI (t % 2)), none], [vI (m_held (m_proP P s x) s x)], (C, N81)) _
      have f84 := m_held_in (m_proP P s x) s x whr7.1
      refine AR.callS [vI (m_held (m_proP P s x) s x)] (ev_X6_ownerOf (by omega) (m_held (m_proP P s x) s x) (by omega)) rfl rfl rfl rfl rfl ?_
      show AR E d _ (66, [some (vA g), some (vI s), some (vI x), some (vI (t % 2)), none], [vI (m_own (m_held (m_proP P s x) s x))], (C, N81)) _
      have f85 := m_own_in ((m_held (m_proP P s x) s x)) (by omega)
      refine AR.blk 2 (f' := (70, [some (vA g), some (vI s), some (vI x), some (vI (t % 2)), some (vI (m_own (m_held (m_proP P s x) s x)))], [vI (m_own (m_held (m_proP P s x) s x))], (C, N81))) (fun _ => rfl) ?_
      refine AR.callS [vI (m_own (m_held (m_proP P s x) s x))] (ev_X6_isSide (by omega) (m_own (m_held (m_proP P s x) s x)) (by omega)) rfl rfl rfl rfl rfl ?_
      show AR E d _ (73, [some (vA g), some (vI s), some (vI x), some (vI (t % 2)), some (vI (m_own (m_held (m_proP P s x) s x)))], [vI (if 0 ≤ (m_own (m_held (m_proP P s x) s x)) ∧ (m_own (m_held (m_proP P s x) s x)) < 2 then 1 else 0)], (C, N81)) _
      refine AR.if_eq rfl (by omega) (fun c86 => ?_) (fun c86 => ?_)
      · show AR E d _ (87, [some (vA g), some (vI s), some (vI x), some (vI (t % 2)), some (vI (m_own (m_held (m_proP P s x) s x)))], [], (C, N81)) _
        refine AR.blk 2 (f' := (89, [some (vA g), some (vI s), some (vI x), some (vI (t % 2)), some (vI (m_own (m_held (m_proP P s x) s x)))], [vA g, vA g], (C, N81))) (fun _ => rfl) ?_
        refine AR.getI rfl rfl hg.1 (by decide) (v := t) TN81.1.2.2.1 ?_
        refine AR.blk 2 (f' := (94, [some (vA g), some (vI s), some (vI x), some (vI (t % 2)), some (vI (m_own (m_held (m_proP P s x) s x)))], [vI (t + 1), vA g], (C, N81))) (fun _ => rfl) ?_
        refine AR.putI rfl rfl hg.1 (by decide) (fun q => absurd q (by decide)) ?_
        show AR E d _ (97, [some (vA g), some (vI s), some (vI x), some (vI (t % 2)), some (vI (m_own (m_held (m_proP P s x) s x)))], [], (C, ag_upd N81 g 4 (t + 1))) _
        have TN88 := g_rT_t TN81 (t + 1)
        have FN88 : ∀ a, ¬ (g ≤ a ∧ a < g + 13) → (ag_upd N81 g 4 (t + 1)) a = N a := fun a ha => (ag_upd_ne (by omega)).trans (FN81 a ha)
        have BN88 := g_rB_fr hr82 (N' := ag_upd N81 g 4 (t + 1)) (fun a z0 z1 => ag_upd_ne (by omega))
        have HN88 := g_rH_fr HN81 (N' := ag_upd N81 g 4 (t + 1)) (fun a z0 z1 => ag_upd_ne (by omega))
        generalize ag_upd N81 g 4 (t + 1) = N88 at *
        refine AR.blk 1 (f' := (98, [some (vA g), some (vI s), some (vI x), some (vI (t % 2)), some (vI (m_own (m_held (m_proP P s x) s x)))], [vA g], (C, N88))) (fun _ => rfl) ?_
        refine AR.getR rfl rfl hg.1 (by decide) rfl ?_
        refine AR.blk 1 (f' := (102, [some (vA g), some (vI s), some (vI x), some (vI (t % 2)), some (vI (m_own (m_held (m_proP P s x) s x)))], [vA g, vA (g + 1)], (C, N88))) (fun _ => rfl) ?_
        refine AR.getI rfl rfl hg.1 (by decide) (v := t + 1) TN88.1.2.2.1 ?_
        obtain ⟨_, hE89, N90, rfl, hr91, hf92⟩ := ev_X0_turnLocks (E := E) (d := d) (by omega) hg.2.1 BN88 whr82 (t + 1) (by omega)
        have whr91 := m_trn_w whr82 (t + 1) (n).toNat (by have := whr82.2.2.1; omega)
        have FN90 : ∀ a, ¬ (g ≤ a ∧ a < g + 13) → N90 a = N a := fun a ha => (hf92 a (by omega)).trans (FN88 a ha)
        have HN90 := g_rH_fr HN88 (N' := N90) (fun a z0 z1 => hf92 a (by omega))
        have TN90 := g_rT_fr TN88 (N' := N90) (hf92 _ (by omega)) (hf92 _ (by omega)) (hf92 _ (by omega)) (hf92 _ (by omega))
        refine AR.callV [vI (t + 1)] hE89 hg.2.1.1 rfl rfl rfl rfl rfl ?_
        show AR E d _ (108, [some (vA g), some (vI s), some (vI x), some (vI (t % 2)), some (vI (m_own (m_held (m_proP P s x) s x)))], [], (C, N90)) _
        refine AR.blk 1 (f' := (109, [some (vA g), some (vI s), some (vI x), some (vI (t % 2)), some (vI (m_own (m_held (m_proP P s x) s x)))], [vA g], (C, N90))) (fun _ => rfl) ?_
        refine AR.getI rfl rfl hg.1 (by decide) (v := t + 1) TN90.1.2.2.1 ?_
        refine AR.blk 1 (f' := (113, [some (vA g), some (vI s), some (vI x), some (vI (t % 2)), some (vI (m_own (m_held (m_proP P s x) s x)))], [vI 4, vI (t + 1)], (C, N90))) (fun _ => rfl) ?_
        refine AR.irem rfl (by omega) ?_
        refine AR.if_ne rfl (by omega) (fun c93 => ?_) (fun c93 => ?_)
        · show AR E d _ (121, [some (vA g), some (vI s), some (vI x), some (vI (t % 2)), some (vI (m_own (m_held (m_proP P s x) s x)))], [], (C, N90)) _
          refine AR.blk 1 (f' := (122, [some (vA g), some (vI s), some (vI x), some (vI (t % 2)), some (vI (m_own (m_held (m_proP P s x) s x)))], [vA g], (C, N90))) (fun _ => rfl) ?_
          obtain ⟨_, hE94, N95, rfl, hr96, hf97⟩ := ev_X1_recordPosition (E := E) (d := d) (by omega) hg hr91 HN90 TN90 whr91 hwH (by omega)  (by omega)
          have FN95 : ∀ a, ¬ (g ≤ a ∧ a < g + 13) → N95 a = N a := fun a ha => (hf97 a (by omega)).trans (FN90 a ha)
          have BN95 : g_rB N95 (g + 1) (m_mov (m_proP P s x) s x) n q p ((m_trn (m_mov (m_proP P s x) s x) q p (t + 1) cl tn n.toNat).1) ((m_trn (m_mov (m_proP P s x) s x) q p (t + 1) cl tn n.toNat).2) := hr96.1
          have HN95 : g_rH N95 (g + 7) (m_key (m_mov (m_proP P s x) s x) ((m_trn (m_mov (m_proP P s x) s x) q p (t + 1) cl tn n.toNat).1) ((t + 1) % 2) :: H) := hr96.2.1
          have TN95 : g_rT N95 g (t + 1) bg en ca gn (m_set pu (t % 2) ((pu (t % 2)) + (m_std P s x))) (m_set mk (t % 2) ((mk (t % 2)) + 1)) := hr96.2.2
          have WN95 := g_wH_cons hwH (by omega) (m_key_in (m_mov (m_proP P s x) s x) ((m_trn (m_mov (m_proP P s x) s x) q p (t + 1) cl tn n.toNat).1) ((t + 1) % 2) whr91.1 (fun k => (whr91.2.2.2.2.1 k).1) (by omega))
          refine AR.callV [] hE94 hg.1 rfl rfl rfl rfl rfl ?_
          show AR E d _ (125, [some (vA g), some (vI s), some (vI x), some (vI (t % 2)), some (vI (m_own (m_held (m_proP P s x) s x)))], [], (C, N95)) _
          refine AR.blk 1 (f' := (126, [some (vA g), some (vI s), some (vI x), some (vI (t % 2)), some (vI (m_own (m_held (m_proP P s x) s x)))], [vA g], (C, N95))) (fun _ => rfl) ?_
          obtain ⟨_, hE98, N99, rfl, hr100, hf101⟩ := ev_X1_settleEnding (E := E) (d := d) (by omega) hg BN95 HN95 TN95 whr91 WN95 (by omega)  (by omega)
          have FN99 : ∀ a, ¬ (g ≤ a ∧ a < g + 13) → N99 a = N a := fun a ha => (hf101 a (by omega)).trans (FN95 a ha)
          have BN99 : g_rB N99 (g + 1) (m_mov (m_proP P s x) s x) n q p ((m_trn (m_mov (m_proP P s x) s x) q p (t + 1) cl tn n.toNat).1) ((m_trn (m_mov (m_proP P s x) s x) q p (t + 1) cl tn n.toNat).2) := hr100.1
          have HN99 : g_rH N99 (g + 7) (m_key (m_mov (m_proP P s x) s x) ((m_trn (m_mov (m_proP P s x) s x) q p (t + 1) cl tn n.toNat).1) ((t + 1) % 2) :: H) := hr100.2.1
          have TN99 : g_rT N99 g (t + 1) bg (m_stl (m_mov (m_proP P s x) s x) n q ((m_trn (m_mov (m_proP P s x) s x) q p (t + 1) cl tn n.toNat).1) (t + 1) (m_key (m_mov (m_proP P s x) s x) ((m_trn (m_mov (m_proP P s x) s x) q p (t + 1) cl tn n.toNat).1) ((t + 1) % 2) :: H)) ca gn (m_set pu (t % 2) ((pu (t % 2)) + (m_std P s x))) (m_set mk (t % 2) ((mk (t % 2)) + 1)) := hr100.2.2
          refine AR.callV [] hE98 hg.1 rfl rfl rfl rfl rfl ?_
          show AR E d _ (129, [some (vA g), some (vI s), some (vI x), some (vI (t % 2)), some (vI (m_own (m_held (m_proP P s x) s x)))], [vI (m_stR (m_mov (m_proP P s x) s x) n q ((m_trn (m_mov (m_proP P s x) s x) q p (t + 1) cl tn n.toNat).1) (t + 1) (m_key (m_mov (m_proP P s x) s x) ((m_trn (m_mov (m_proP P s x) s x) q p (t + 1) cl tn n.toNat).1) ((t + 1) % 2) :: H))], (C, N99)) _
          have f102 := m_stl_in (m_mov (m_proP P s x) s x) n q ((m_trn (m_mov (m_proP P s x) s x) q p (t + 1) cl tn n.toNat).1) (t + 1) (m_key (m_mov (m_proP P s x) s x) ((m_trn (m_mov (m_proP P s x) s x) q p (t + 1) cl tn n.toNat).1) ((t + 1) % 2) :: H)
          refine AR.endI rfl (.inl rfl) ?_
          have e1 : m_gP P n q p cl tn t s x = (m_mov (m_proP P s x) s x) := by unfold m_gP; first | exact if_pos (by omega) | exact if_neg (by omega)
          have e2 : m_gca P n q p cl tn t ca s x = ca := by unfold m_gca; first | exact if_pos (by omega) | exact if_neg (by omega)
          have e3 : m_gmk P t mk s x = (m_set mk (t % 2) ((mk (t % 2)) + 1)) := by unfold m_gmk; first | exact if_pos (by omega) | exact if_neg (by omega)
          have e4 : m_ggn P gn s x = gn := by unfold m_ggn; first | exact if_pos (by omega) | exact if_neg (by omega)
          unfold m_gH
          rw [e1, e2, e3, e4]
          exact ⟨_, rfl, ⟨BN99, HN99, TN99⟩, FN99⟩
        · show AR E d _ (117, [some (vA g), some (vI s), some (vI x), some (vI (t % 2)), some (vI (m_own (m_held (m_proP P s x) s x)))], [], (C, N90)) _
          refine AR.blk 1 (f' := (118, [some (vA g), some (vI s), some (vI x), some (vI (t % 2)), some (vI (m_own (m_held (m_proP P s x) s x)))], [vA g], (C, N90))) (fun _ => rfl) ?_
          obtain ⟨_, hE103, N104, rfl, hr105, hf106⟩ := ev_X1_carryByTide (E := E) (d := d) (by omega) hg hr91 HN90 TN90 whr91 hwH (by omega)  
          have FN104 : ∀ a, ¬ (g ≤ a ∧ a < g + 13) → N104 a = N a := fun a ha => (hf106 a (by omega)).trans (FN90 a ha)
          have BN104 : g_rB N104 (g + 1) (m_tdP (m_mov (m_proP P s x) s x) n q ((m_trn (m_mov (m_proP P s x) s x) q p (t + 1) cl tn n.toNat).1) (t + 1)) n q p ((m_trn (m_mov (m_proP P s x) s x) q p (t + 1) cl tn n.toNat).1) ((m_trn (m_mov (m_proP P s x) s x) q p (t + 1) cl tn n.toNat).2) := hr105.1
          have HN104 : g_rH N104 (g + 7) H := hr105.2.1
          have TN104 : g_rT N104 g (t + 1) bg en (m_tdC (m_mov (m_proP P s x) s x) n q ((m_trn (m_mov (m_proP P s x) s x) q p (t + 1) cl tn n.toNat).1) (t + 1) ca) gn (m_set pu (t % 2) ((pu (t % 2)) + (m_std P s x))) (m_set mk (t % 2) ((mk (t % 2)) + 1)) := hr105.2.2
          have WN104 := m_tdP_w whr91 (t + 1)
          refine AR.callV [] hE103 hg.1 rfl rfl rfl rfl rfl ?_
          show AR E d _ (121, [some (vA g), some (vI s), some (vI x), some (vI (t % 2)), some (vI (m_own (m_held (m_proP P s x) s x)))], [], (C, N104)) _
          refine AR.blk 1 (f' := (122, [some (vA g), some (vI s), some (vI x), some (vI (t % 2)), some (vI (m_own (m_held (m_proP P s x) s x)))], [vA g], (C, N104))) (fun _ => rfl) ?_
          obtain ⟨_, hE107, N108, rfl, hr109, hf110⟩ := ev_X1_recordPosition (E := E) (d := d) (by omega) hg BN104 HN104 TN104 WN104 hwH (by omega)  (by omega)
          have FN108 : ∀ a, ¬ (g ≤ a ∧ a < g + 13) → N108 a = N a := fun a ha => (hf110 a (by omega)).trans (FN104 a ha)
          have BN108 : g_rB N108 (g + 1) (m_tdP (m_mov (m_proP P s x) s x) n q ((m_trn (m_mov (m_proP P s x) s x) q p (t + 1) cl tn n.toNat).1) (t + 1)) n q p ((m_trn (m_mov (m_proP P s x) s x) q p (t + 1) cl tn n.toNat).1) ((m_trn (m_mov (m_proP P s x) s x) q p (t + 1) cl tn n.toNat).2) := hr109.1
          have HN108 : g_rH N108 (g + 7) (m_key (m_tdP (m_mov (m_proP P s x) s x) n q ((m_trn (m_mov (m_proP P s x) s x) q p (t + 1) cl tn n.toNat).1) (t + 1)) ((m_trn (m_mov (m_proP P s x) s x) q p (t + 1) cl tn n.toNat).1) ((t + 1) % 2) :: H) := hr109.2.1
          have TN108 : g_rT N108 g (t + 1) bg en (m_tdC (m_mov (m_proP P s x) s x) n q ((m_trn (m_mov (m_proP P s x) s x) q p (t + 1) cl tn n.toNat).1) (t + 1) ca) gn (m_set pu (t % 2) ((pu (t % 2)) + (m_std P s x))) (m_set mk (t % 2) ((mk (t % 2)) + 1)) := hr109.2.2
          have WN108 := g_wH_cons hwH (by omega) (m_key_in (m_tdP (m_mov (m_proP P s x) s x) n q ((m_trn (m_mov (m_proP P s x) s x) q p (t + 1) cl tn n.toNat).1) (t + 1)) ((m_trn (m_mov (m_proP P s x) s x) q p (t + 1) cl tn n.toNat).1) ((t + 1) % 2) WN104.1 (fun k => (WN104.2.2.2.2.1 k).1) (by omega))
          refine AR.callV [] hE107 hg.1 rfl rfl rfl rfl rfl ?_
          show AR E d _ (125, [some (vA g), some (vI s), some (vI x), some (vI (t % 2)), some (vI (m_own (m_held (m_proP P s x) s x)))], [], (C, N108)) _
          refine AR.blk 1 (f' := (126, [some (vA g), some (vI s), some (vI x), some (vI (t % 2)), some (vI (m_own (m_held (m_proP P s x) s x)))], [vA g], (C, N108))) (fun _ => rfl) ?_
          obtain ⟨_, hE111, N112, rfl, hr113, hf114⟩ := ev_X1_settleEnding (E := E) (d := d) (by omega) hg BN108 HN108 TN108 WN104 WN108 (by omega)  (by omega)
          have FN112 : ∀ a, ¬ (g ≤ a ∧ a < g + 13) → N112 a = N a := fun a ha => (hf114 a (by omega)).trans (FN108 a ha)
          have BN112 : g_rB N112 (g + 1) (m_tdP (m_mov (m_proP P s x) s x) n q ((m_trn (m_mov (m_proP P s x) s x) q p (t + 1) cl tn n.toNat).1) (t + 1)) n q p ((m_trn (m_mov (m_proP P s x) s x) q p (t + 1) cl tn n.toNat).1) ((m_trn (m_mov (m_proP P s x) s x) q p (t + 1) cl tn n.toNat).2) := hr113.1
          have HN112 : g_rH N112 (g + 7) (m_key (m_tdP (m_mov (m_proP P s x) s x) n q ((m_trn (m_mov (m_proP P s x) s x) q p (t + 1) cl tn n.toNat).1) (t + 1)) ((m_trn (m_mov (m_proP P s x) s x) q p (t + 1) cl tn n.toNat).1) ((t + 1) % 2) :: H) := hr113.2.1
          have TN112 : g_rT N112 g (t + 1) bg (m_stl (m_tdP (m_mov (m_proP P s x) s x) n q ((m_trn (m_mov (m_proP P s x) s x) q p (t + 1) cl tn n.toNat).1) (t + 1)) n q ((m_trn (m_mov (m_proP P s x) s x) q p (t + 1) cl tn n.toNat).1) (t + 1) (m_key (m_tdP (m_mov (m_proP P s x) s x) n q ((m_trn (m_mov (m_proP P s x) s x) q p (t + 1) cl tn n.toNat).1) (t + 1)) ((m_trn (m_mov (m_proP P s x) s x) q p (t + 1) cl tn n.toNat).1) ((t + 1) % 2) :: H)) (m_tdC (m_mov (m_proP P s x) s x) n q ((m_trn (m_mov (m_proP P s x) s x) q p (t + 1) cl tn n.toNat).1) (t + 1) ca) gn (m_set pu (t % 2) ((pu (t % 2)) + (m_std P s x))) (m_set mk (t % 2) ((mk (t % 2)) + 1)) := hr113.2.2
          refine AR.callV [] hE111 hg.1 rfl rfl rfl rfl rfl ?_
          show AR E d _ (129, [some (vA g), some (vI s), some (vI x), some (vI (t % 2)), some (vI (m_own (m_held (m_proP P s x) s x)))], [vI (m_stR (m_tdP (m_mov (m_proP P s x) s x) n q ((m_trn (m_mov (m_proP P s x) s x) q p (t + 1) cl tn n.toNat).1) (t + 1)) n q ((m_trn (m_mov (m_proP P s x) s x) q p (t + 1) cl tn n.toNat).1) (t + 1) (m_key (m_tdP (m_mov (m_proP P s x) s x) n q ((m_trn (m_mov (m_proP P s x) s x) q p (t + 1) cl tn n.toNat).1) (t + 1)) ((m_trn (m_mov (m_proP P s x) s x) q p (t + 1) cl tn n.toNat).1) ((t + 1) % 2) :: H))], (C, N112)) _
          have f115 := m_stl_in (m_tdP (m_mov (m_proP P s x) s x) n q ((m_trn (m_mov (m_proP P s x) s x) q p (t + 1) cl tn n.toNat).1) (t + 1)) n q ((m_trn (m_mov (m_proP P s x) s x) q p (t + 1) cl tn n.toNat).1) (t + 1) (m_key (m_tdP (m_mov (m_proP P s x) s x) n q ((m_trn (m_mov (m_proP P s x) s x) q p (t + 1) cl tn n.toNat).1) (t + 1)) ((m_trn (m_mov (m_proP P s x) s x) q p (t + 1) cl tn n.toNat).1) ((t + 1) % 2) :: H)
          refine AR.endI rfl (.inl rfl) ?_
          have e1 : m_gP P n q p cl tn t s x = (m_tdP (m_mov (m_proP P s x) s x) n q ((m_trn (m_mov (m_proP P s x) s x) q p (t + 1) cl tn n.toNat).1) (t + 1)) := by unfold m_gP; first | exact if_pos (by omega) | exact if_neg (by omega)
          have e2 : m_gca P n q p cl tn t ca s x = (m_tdC (m_mov (m_proP P s x) s x) n q ((m_trn (m_mov (m_proP P s x) s x) q p (t + 1) cl tn n.toNat).1) (t + 1) ca) := by unfold m_gca; first | exact if_pos (by omega) | exact if_neg (by omega)
          have e3 : m_gmk P t mk s x = (m_set mk (t % 2) ((mk (t % 2)) + 1)) := by unfold m_gmk; first | exact if_pos (by omega) | exact if_neg (by omega)
          have e4 : m_ggn P gn s x = gn := by unfold m_ggn; first | exact if_pos (by omega) | exact if_neg (by omega)
          unfold m_gH
          rw [e1, e2, e3, e4]
          exact ⟨_, rfl, ⟨BN112, HN112, TN112⟩, FN112⟩
      · show AR E d _ (76, [some (vA g), some (vI s), some (vI x), some (vI (t % 2)), some (vI (m_own (m_held (m_proP P s x) s x)))], [], (C, N81)) _
        refine AR.blk 1 (f' := (77, [some (vA g), some (vI s), some (vI x), some (vI (t % 2)), some (vI (m_own (m_held (m_proP P s x) s x)))], [vA g], (C, N81))) (fun _ => rfl) ?_
        refine AR.getR rfl rfl hg.1 (by decide) rfl ?_
        refine AR.blk 2 (f' := (83, [some (vA g), some (vI s), some (vI x), some (vI (t % 2)), some (vI (m_own (m_held (m_proP P s x) s x)))], [vI (m_own (m_held (m_proP P s x) s x)), vA (g + 10), vI (m_own (m_held (m_proP P s x) s x)), vA (g + 10)], (C, N81))) (fun _ => rfl) ?_
        refine AR.iald rfl hg.2.2.2.1 (by omega) (v := gn (m_own (m_held (m_proP P s x) s x))) (TN81.2 _ (by omega) (by omega)).1 ?_
        refine AR.blk 2 (f' := (86, [some (vA g), some (vI s), some (vI x), some (vI (t % 2)), some (vI (m_own (m_held (m_proP P s x) s x)))], [vI ((gn (m_own (m_held (m_proP P s x) s x))) + 1), vI (m_own (m_held (m_proP P s x) s x)), vA (g + 10)], (C, N81))) (fun _ => rfl) ?_
        refine AR.iast rfl hg.2.2.2.1 (by omega) ?_
        show AR E d _ (87, [some (vA g), some (vI s), some (vI x), some (vI (t % 2)), some (vI (m_own (m_held (m_proP P s x) s x)))], [], (C, ag_upd N81 (g + 10) (m_own (m_held (m_proP P s x) s x)) ((gn (m_own (m_held (m_proP P s x) s x))) + 1))) _
        have TN117 := g_rT_gn TN81 (m_own (m_held (m_proP P s x) s x)) ((gn (m_own (m_held (m_proP P s x) s x))) + 1)
        have FN117 : ∀ a, ¬ (g ≤ a ∧ a < g + 13) → (ag_upd N81 (g + 10) (m_own (m_held (m_proP P s x) s x)) ((gn (m_own (m_held (m_proP P s x) s x))) + 1)) a = N a := fun a ha => (ag_upd_ne (by omega)).trans (FN81 a ha)
        have BN117 := g_rB_fr hr82 (N' := ag_upd N81 (g + 10) (m_own (m_held (m_proP P s x) s x)) ((gn (m_own (m_held (m_proP P s x) s x))) + 1)) (fun a z0 z1 => ag_upd_ne (by omega))
        have HN117 := g_rH_fr HN81 (N' := ag_upd N81 (g + 10) (m_own (m_held (m_proP P s x) s x)) ((gn (m_own (m_held (m_proP P s x) s x))) + 1)) (fun a z0 z1 => ag_upd_ne (by omega))
        generalize ag_upd N81 (g + 10) (m_own (m_held (m_proP P s x) s x)) ((gn (m_own (m_held (m_proP P s x) s x))) + 1) = N117 at *
        refine AR.blk 2 (f' := (89, [some (vA g), some (vI s), some (vI x), some (vI (t % 2)), some (vI (m_own (m_held (m_proP P s x) s x)))], [vA g, vA g], (C, N117))) (fun _ => rfl) ?_
        refine AR.getI rfl rfl hg.1 (by decide) (v := t) TN117.1.2.2.1 ?_
        refine AR.blk 2 (f' := (94, [some (vA g), some (vI s), some (vI x), some (vI (t % 2)), some (vI (m_own (m_held (m_proP P s x) s x)))], [vI (t + 1), vA g], (C, N117))) (fun _ => rfl) ?_
        refine AR.putI rfl rfl hg.1 (by decide) (fun q => absurd q (by decide)) ?_
        show AR E d _ (97, [some (vA g), some (vI s), some (vI x), some (vI (t % 2)), some (vI (m_own (m_held (m_proP P s x) s x)))], [], (C, ag_upd N117 g 4 (t + 1))) _
        have TN119 := g_rT_t TN117 (t + 1)
        have FN119 : ∀ a, ¬ (g ≤ a ∧ a < g + 13) → (ag_upd N117 g 4 (t + 1)) a = N a := fun a ha => (ag_upd_ne (by omega)).trans (FN117 a ha)
        have BN119 := g_rB_fr BN117 (N' := ag_upd N117 g 4 (t + 1)) (fun a z0 z1 => ag_upd_ne (by omega))
        have HN119 := g_rH_fr HN117 (N' := ag_upd N117 g 4 (t + 1)) (fun a z0 z1 => ag_upd_ne (by omega))
        generalize ag_upd N117 g 4 (t + 1) = N119 at *
        refine AR.blk 1 (f' := (98, [some (vA g), some (vI s), some (vI x), some (vI (t % 2)), some (vI (m_own (m_held (m_proP P s x) s x)))], [vA g], (C, N119))) (fun _ => rfl) ?_
        refine AR.getR rfl rfl hg.1 (by decide) rfl ?_
        refine AR.blk 1 (f' := (102, [some (vA g), some (vI s), some (vI x), some (vI (t % 2)), some (vI (m_own (m_held (m_proP P s x) s x)))], [vA g, vA (g + 1)], (C, N119))) (fun _ => rfl) ?_
        refine AR.getI rfl rfl hg.1 (by decide) (v := t + 1) TN119.1.2.2.1 ?_
        obtain ⟨_, hE120, N121, rfl, hr122, hf123⟩ := ev_X0_turnLocks (E := E) (d := d) (by omega) hg.2.1 BN119 whr82 (t + 1) (by omega)
        have whr122 := m_trn_w whr82 (t + 1) (n).toNat (by have := whr82.2.2.1; omega)
        have FN121 : ∀ a, ¬ (g ≤ a ∧ a < g + 13) → N121 a = N a := fun a ha => (hf123 a (by omega)).trans (FN119 a ha)
        have HN121 := g_rH_fr HN119 (N' := N121) (fun a z0 z1 => hf123 a (by omega))
        have TN121 := g_rT_fr TN119 (N' := N121) (hf123 _ (by omega)) (hf123 _ (by omega)) (hf123 _ (by omega)) (hf123 _ (by omega))
        refine AR.callV [vI (t + 1)] hE120 hg.2.1.1 rfl rfl rfl rfl rfl ?_
        show AR E d _ (108, [some (vA g), some (vI s), some (vI x), some (vI (t % 2)), some (vI (m_own (m_held (m_proP P s x) s x)))], [], (C, N121)) _
        refine AR.blk 1 (f' := (109, [some (vA g), some (vI s), some (vI x), some (vI (t % 2)), some (vI (m_own (m_held (m_proP P s x) s x)))], [vA g], (C, N121))) (fun _ => rfl) ?_
        refine AR.getI rfl rfl hg.1 (by decide) (v := t + 1) TN121.1.2.2.1 ?_
        refine AR.blk 1 (f' := (113, [some (vA g), some (vI s), some (vI x), some (vI (t % 2)), some (vI (m_own (m_held (m_proP P s x) s x)))], [vI 4, vI (t + 1)], (C, N121))) (fun _ => rfl) ?_
        refine AR.irem rfl (by omega) ?_
        refine AR.if_ne rfl (by omega) (fun c124 => ?_) (fun c124 => ?_)
        · show AR E d _ (121, [some (vA g), some (vI s), some (vI x), some (vI (t % 2)), some (vI (m_own (m_held (m_proP P s x) s x)))], [], (C, N121)) _
          refine AR.blk 1 (f' := (122, [some (vA g), some (vI s), some (vI x), some (vI (t % 2)), some (vI (m_own (m_held (m_proP P s x) s x)))], [vA g], (C, N121))) (fun _ => rfl) ?_
          obtain ⟨_, hE125, N126, rfl, hr127, hf128⟩ := ev_X1_recordPosition (E := E) (d := d) (by omega) hg hr122 HN121 TN121 whr122 hwH (by omega)  (by omega)
          have FN126 : ∀ a, ¬ (g ≤ a ∧ a < g + 13) → N126 a = N a := fun a ha => (hf128 a (by omega)).trans (FN121 a ha)
          have BN126 : g_rB N126 (g + 1) (m_mov (m_proP P s x) s x) n q p ((m_trn (m_mov (m_proP P s x) s x) q p (t + 1) cl tn n.toNat).1) ((m_trn (m_mov (m_proP P s x) s x) q p (t + 1) cl tn n.toNat).2) := hr127.1
          have HN126 : g_rH N126 (g + 7) (m_key (m_mov (m_proP P s x) s x) ((m_trn (m_mov (m_proP P s x) s x) q p (t + 1) cl tn n.toNat).1) ((t + 1) % 2) :: H) := hr127.2.1
          have TN126 : g_rT N126 g (t + 1) bg en ca (m_set gn (m_own (m_held (m_proP P s x) s x)) ((gn (m_own (m_held (m_proP P s x) s x))) + 1)) (m_set pu (t % 2) ((pu (t % 2)) + (m_std P s x))) (m_set mk (t % 2) ((mk (t % 2)) + 1)) := hr127.2.2
          have WN126 := g_wH_cons hwH (by omega) (m_key_in (m_mov (m_proP P s x) s x) ((m_trn (m_mov (m_proP P s x) s x) q p (t + 1) cl tn n.toNat).1) ((t + 1) % 2) whr122.1 (fun k => (whr122.2.2.2.2.1 k).1) (by omega))
          refine AR.callV [] hE125 hg.1 rfl rfl rfl rfl rfl ?_
          show AR E d _ (125, [some (vA g), some (vI s), some (vI x), some (vI (t % 2)), some (vI (m_own (m_held (m_proP P s x) s x)))], [], (C, N126)) _
          refine AR.blk 1 (f' := (126, [some (vA g), some (vI s), some (vI x), some (vI (t % 2)), some (vI (m_own (m_held (m_proP P s x) s x)))], [vA g], (C, N126))) (fun _ => rfl) ?_
          obtain ⟨_, hE129, N130, rfl, hr131, hf132⟩ := ev_X1_settleEnding (E := E) (d := d) (by omega) hg BN126 HN126 TN126 whr122 WN126 (by omega)  (by omega)
          have FN130 : ∀ a, ¬ (g ≤ a ∧ a < g + 13) → N130 a = N a := fun a ha => (hf132 a (by omega)).trans (FN126 a ha)
          have BN130 : g_rB N130 (g + 1) (m_mov (m_proP P s x) s x) n q p ((m_trn (m_mov (m_proP P s x) s x) q p (t + 1) cl tn n.toNat).1) ((m_trn (m_mov (m_proP P s x) s x) q p (t + 1) cl tn n.toNat).2) := hr131.1
          have HN130 : g_rH N130 (g + 7) (m_key (m_mov (m_proP P s x) s x) ((m_trn (m_mov (m_proP P s x) s x) q p (t + 1) cl tn n.toNat).1) ((t + 1) % 2) :: H) := hr131.2.1
          have TN130 : g_rT N130 g (t + 1) bg (m_stl (m_mov (m_proP P s x) s x) n q ((m_trn (m_mov (m_proP P s x) s x) q p (t + 1) cl tn n.toNat).1) (t + 1) (m_key (m_mov (m_proP P s x) s x) ((m_trn (m_mov (m_proP P s x) s x) q p (t + 1) cl tn n.toNat).1) ((t + 1) % 2) :: H)) ca (m_set gn (m_own (m_held (m_proP P s x) s x)) ((gn (m_own (m_held (m_proP P s x) s x))) + 1)) (m_set pu (t % 2) ((pu (t % 2)) + (m_std P s x))) (m_set mk (t % 2) ((mk (t % 2)) + 1)) := hr131.2.2
          refine AR.callV [] hE129 hg.1 rfl rfl rfl rfl rfl ?_
          show AR E d _ (129, [some (vA g), some (vI s), some (vI x), some (vI (t % 2)), some (vI (m_own (m_held (m_proP P s x) s x)))], [vI (m_stR (m_mov (m_proP P s x) s x) n q ((m_trn (m_mov (m_proP P s x) s x) q p (t + 1) cl tn n.toNat).1) (t + 1) (m_key (m_mov (m_proP P s x) s x) ((m_trn (m_mov (m_proP P s x) s x) q p (t + 1) cl tn n.toNat).1) ((t + 1) % 2) :: H))], (C, N130)) _
          have f133 := m_stl_in (m_mov (m_proP P s x) s x) n q ((m_trn (m_mov (m_proP P s x) s x) q p (t + 1) cl tn n.toNat).1) (t + 1) (m_key (m_mov (m_proP P s x) s x) ((m_trn (m_mov (m_proP P s x) s x) q p (t + 1) cl tn n.toNat).1) ((t + 1) % 2) :: H)
          refine AR.endI rfl (.inl rfl) ?_
          have e1 : m_gP P n q p cl tn t s x = (m_mov (m_proP P s x) s x) := by unfold m_gP; first | exact if_pos (by omega) | exact if_neg (by omega)
          have e2 : m_gca P n q p cl tn t ca s x = ca := by unfold m_gca; first | exact if_pos (by omega) | exact if_neg (by omega)
          have e3 : m_gmk P t mk s x = (m_set mk (t % 2) ((mk (t % 2)) + 1)) := by unfold m_gmk; first | exact if_pos (by omega) | exact if_neg (by omega)
          have e4 : m_ggn P gn s x = (m_set gn (m_own (m_held (m_proP P s x) s x)) ((gn (m_own (m_held (m_proP P s x) s x))) + 1)) := by unfold m_ggn; first | exact if_pos (by omega) | exact if_neg (by omega)
          unfold m_gH
          rw [e1, e2, e3, e4]
          exact ⟨_, rfl, ⟨BN130, HN130, TN130⟩, FN130⟩
        · show AR E d _ (117, [some (vA g), some (vI s), some (vI x), some (vI (t % 2)), some (vI (m_own (m_held (m_proP P s x) s x)))], [], (C, N121)) _
          refine AR.blk 1 (f' := (118, [some (vA g), some (vI s), some (vI x), some (vI (t % 2)), some (vI (m_own (m_held (m_proP P s x) s x)))], [vA g], (C, N121))) (fun _ => rfl) ?_
          obtain ⟨_, hE134, N135, rfl, hr136, hf137⟩ := ev_X1_carryByTide (E := E) (d := d) (by omega) hg hr122 HN121 TN121 whr122 hwH (by omega)  
          have FN135 : ∀ a, ¬ (g ≤ a ∧ a < g + 13) → N135 a = N a := fun a ha => (hf137 a (by omega)).trans (FN121 a ha)
          have BN135 : g_rB N135 (g + 1) (m_tdP (m_mov (m_proP P s x) s x) n q ((m_trn (m_mov (m_proP P s x) s x) q p (t + 1) cl tn n.toNat).1) (t + 1)) n q p ((m_trn (m_mov (m_proP P s x) s x) q p (t + 1) cl tn n.toNat).1) ((m_trn (m_mov (m_proP P s x) s x) q p (t + 1) cl tn n.toNat).2) := hr136.1
          have HN135 : g_rH N135 (g + 7) H := hr136.2.1
          have TN135 : g_rT N135 g (t + 1) bg en (m_tdC (m_mov (m_proP P s x) s x) n q ((m_trn (m_mov (m_proP P s x) s x) q p (t + 1) cl tn n.toNat).1) (t + 1) ca) (m_set gn (m_own (m_held (m_proP P s x) s x)) ((gn (m_own (m_held (m_proP P s x) s x))) + 1)) (m_set pu (t % 2) ((pu (t % 2)) + (m_std P s x))) (m_set mk (t % 2) ((mk (t % 2)) + 1)) := hr136.2.2
          have WN135 := m_tdP_w whr122 (t + 1)
          refine AR.callV [] hE134 hg.1 rfl rfl rfl rfl rfl ?_
          show AR E d _ (121, [some (vA g), some (vI s), some (vI x), some (vI (t % 2)), some (vI (m_own (m_held (m_proP P s x) s x)))], [], (C, N135)) _
          refine AR.blk 1 (f' := (122, [some (vA g), some (vI s), some (vI x), some (vI (t % 2)), some (vI (m_own (m_held (m_proP P s x) s x)))], [vA g], (C, N135))) (fun _ => rfl) ?_
          obtain ⟨_, hE138, N139, rfl, hr140, hf141⟩ := ev_X1_recordPosition (E := E) (d := d) (by omega) hg BN135 HN135 TN135 WN135 hwH (by omega)  (by omega)
          have FN139 : ∀ a, ¬ (g ≤ a ∧ a < g + 13) → N139 a = N a := fun a ha => (hf141 a (by omega)).trans (FN135 a ha)
          have BN139 : g_rB N139 (g + 1) (m_tdP (m_mov (m_proP P s x) s x) n q ((m_trn (m_mov (m_proP P s x) s x) q p (t + 1) cl tn n.toNat).1) (t + 1)) n q p ((m_trn (m_mov (m_proP P s x) s x) q p (t + 1) cl tn n.toNat).1) ((m_trn (m_mov (m_proP P s x) s x) q p (t + 1) cl tn n.toNat).2) := hr140.1
          have HN139 : g_rH N139 (g + 7) (m_key (m_tdP (m_mov (m_proP P s x) s x) n q ((m_trn (m_mov (m_proP P s x) s x) q p (t + 1) cl tn n.toNat).1) (t + 1)) ((m_trn (m_mov (m_proP P s x) s x) q p (t + 1) cl tn n.toNat).1) ((t + 1) % 2) :: H) := hr140.2.1
          have TN139 : g_rT N139 g (t + 1) bg en (m_tdC (m_mov (m_proP P s x) s x) n q ((m_trn (m_mov (m_proP P s x) s x) q p (t + 1) cl tn n.toNat).1) (t + 1) ca) (m_set gn (m_own (m_held (m_proP P s x) s x)) ((gn (m_own (m_held (m_proP P s x) s x))) + 1)) (m_set pu (t % 2) ((pu (t % 2)) + (m_std P s x))) (m_set mk (t % 2) ((mk (t % 2)) + 1)) := hr140.2.2
          have WN139 := g_wH_cons hwH (by omega) (m_key_in (m_tdP (m_mov (m_proP P s x) s x) n q ((m_trn (m_mov (m_proP P s x) s x) q p (t + 1) cl tn n.toNat).1) (t + 1)) ((m_trn (m_mov (m_proP P s x) s x) q p (t + 1) cl tn n.toNat).1) ((t + 1) % 2) WN135.1 (fun k => (WN135.2.2.2.2.1 k).1) (by omega))
          refine AR.callV [] hE138 hg.1 rfl rfl rfl rfl rfl ?_
          show AR E d _ (125, [some (vA g), some (vI s), some (vI x), some (vI (t % 2)), some (vI (m_own (m_held (m_proP P s x) s x)))], [], (C, N139)) _
          refine AR.blk 1 (f' := (126, [some (vA g), some (vI s), some (vI x), some (vI (t % 2)), some (vI (m_own (m_held (m_proP P s x) s x)))], [vA g], (C, N139))) (fun _ => rfl) ?_
          obtain ⟨_, hE142, N143, rfl, hr144, hf145⟩ := ev_X1_settleEnding (E := E) (d := d) (by omega) hg BN139 HN139 TN139 WN135 WN139 (by omega)  (by omega)
          have FN143 : ∀ a, ¬ (g ≤ a ∧ a < g + 13) → N143 a = N a := fun a ha => (hf145 a (by omega)).trans (FN139 a ha)
          have BN143 : g_rB N143 (g + 1) (m_tdP (m_mov (m_proP P s x) s x) n q ((m_trn (m_mov (m_proP P s x) s x) q p (t + 1) cl tn n.toNat).1) (t + 1)) n q p ((m_trn (m_mov (m_proP P s x) s x) q p (t + 1) cl tn n.toNat).1) ((m_trn (m_mov (m_proP P s x) s x) q p (t + 1) cl tn n.toNat).2) := hr144.1
          have HN143 : g_rH N143 (g + 7) (m_key (m_tdP (m_mov (m_proP P s x) s x) n q ((m_trn (m_mov (m_proP P s x) s x) q p (t + 1) cl tn n.toNat).1) (t + 1)) ((m_trn (m_mov (m_proP P s x) s x) q p (t + 1) cl tn n.toNat).1) ((t + 1) % 2) :: H) := hr144.2.1
          have TN143 : g_rT N143 g (t + 1) bg (m_stl (m_tdP (m_mov (m_proP P s x) s x) n q ((m_trn (m_mov (m_proP P s x) s x) q p (t + 1) cl tn n.toNat).1) (t + 1)) n q ((m_trn (m_mov (m_proP P s x) s x) q p (t + 1) cl tn n.toNat).1) (t + 1) (m_key (m_tdP (m_mov (m_proP P s x) s x) n q ((m_trn (m_mov (m_proP P s x) s x) q p (t + 1) cl tn n.toNat).1) (t + 1)) ((m_trn (m_mov (m_proP P s x) s x) q p (t + 1) cl tn n.toNat).1) ((t + 1) % 2) :: H)) (m_tdC (m_mov (m_proP P s x) s x) n q ((m_trn (m_mov (m_proP P s x) s x) q p (t + 1) cl tn n.toNat).1) (t + 1) ca) (m_set gn (m_own (m_held (m_proP P s x) s x)) ((gn (m_own (m_held (m_proP P s x) s x))) + 1)) (m_set pu (t % 2) ((pu (t % 2)) + (m_std P s x))) (m_set mk (t % 2) ((mk (t % 2)) + 1)) := hr144.2.2
          refine AR.callV [] hE142 hg.1 rfl rfl rfl rfl rfl ?_
          show AR E d _ (129, [some (vA g), some (vI s), some (vI x), some (vI (t % 2)), some (vI (m_own (m_held (m_proP P s x) s x)))], [vI (m_stR (m_tdP (m_mov (m_proP P s x) s x) n q ((m_trn (m_mov (m_proP P s x) s x) q p (t + 1) cl tn n.toNat).1) (t + 1)) n q ((m_trn (m_mov (m_proP P s x) s x) q p (t + 1) cl tn n.toNat).1) (t + 1) (m_key (m_tdP (m_mov (m_proP P s x) s x) n q ((m_trn (m_mov (m_proP P s x) s x) q p (t + 1) cl tn n.toNat).1) (t + 1)) ((m_trn (m_mov (m_proP P s x) s x) q p (t + 1) cl tn n.toNat).1) ((t + 1) % 2) :: H))], (C, N143)) _
          have f146 := m_stl_in (m_tdP (m_mov (m_proP P s x) s x) n q ((m_trn (m_mov (m_proP P s x) s x) q p (t + 1) cl tn n.toNat).1) (t + 1)) n q ((m_trn (m_mov (m_proP P s x) s x) q p (t + 1) cl tn n.toNat).1) (t + 1) (m_key (m_tdP (m_mov (m_proP P s x) s x) n q ((m_trn (m_mov (m_proP P s x) s x) q p (t + 1) cl tn n.toNat).1) (t + 1)) ((m_trn (m_mov (m_proP P s x) s x) q p (t + 1) cl tn n.toNat).1) ((t + 1) % 2) :: H)
          refine AR.endI rfl (.inl rfl) ?_
          have e1 : m_gP P n q p cl tn t s x = (m_tdP (m_mov (m_proP P s x) s x) n q ((m_trn (m_mov (m_proP P s x) s x) q p (t + 1) cl tn n.toNat).1) (t + 1)) := by unfold m_gP; first | exact if_pos (by omega) | exact if_neg (by omega)
          have e2 : m_gca P n q p cl tn t ca s x = (m_tdC (m_mov (m_proP P s x) s x) n q ((m_trn (m_mov (m_proP P s x) s x) q p (t + 1) cl tn n.toNat).1) (t + 1) ca) := by unfold m_gca; first | exact if_pos (by omega) | exact if_neg (by omega)
          have e3 : m_gmk P t mk s x = (m_set mk (t % 2) ((mk (t % 2)) + 1)) := by unfold m_gmk; first | exact if_pos (by omega) | exact if_neg (by omega)
          have e4 : m_ggn P gn s x = (m_set gn (m_own (m_held (m_proP P s x) s x)) ((gn (m_own (m_held (m_proP P s x) s x))) + 1)) := by unfold m_ggn; first | exact if_pos (by omega) | exact if_neg (by omega)
          unfold m_gH
          rw [e1, e2, e3, e4]
          exact ⟨_, rfl, ⟨BN143, HN143, TN143⟩, FN143⟩
  · show AR E d _ (12, [some (vA g), some (vI s), some (vI x), some (vI (t % 2)), none], [], (C, N)) _
    refine AR.blk 1 (f' := (13, [some (vA g), some (vI s), some (vI x), some (vI (t % 2)), none], [vI 0], (C, N))) (fun _ => rfl) ?_
    refine AR.endI rfl (.inl rfl) ?_
    exact False.elim (by omega)
end L2i
