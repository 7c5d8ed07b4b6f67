/-! LEVEL 2: the start, and the goal -/
theorem ag_bootS {o1 : Option ag_O} {k : ag_H → Option ag_O} (h : ag_bootc o1 k = true) : ∃ h1 h2, o1 = some (none, h1) ∧ h1.1.length = 152 ∧ k h1 = some (none, h2) ∧ h2.1 = ag_cX ++ ag_cM ∧ ag_ckN h2.2 = true := by
  unfold ag_bootc at h
  split at h
  · rename_i h1
    rw [Bool.and_eq_true] at h
    obtain ⟨b1, b2⟩ := h
    split at b2
    · rename_i h2 hk
      rw [Bool.and_eq_true] at b2
      exact ⟨h1, h2, rfl, of_decide_eq_true b1, hk, of_decide_eq_true b2.1, b2.2⟩
    · cases b2
  · cases h
theorem ag_boots : ∃ h1 h2 : ag_H, ag_call ag_TT ag_Ms ag_E0 600 9 59 [vA 0] ag_H0 = some (none, h1) ∧ h1.1.length = 152 ∧ ag_call ag_TT ag_Ms ag_E0 600 9 105 [vA 152] (h1.1 ++ [(7, 20, List.replicate 20 none)], ag_zero h1.2 152) = some (none, h2) ∧ h2.1 = ag_cX ++ ag_cM ∧ ag_ckN h2.2 = true :=
  ag_bootS ag_boot_ok
theorem ag_isG1 : g_isG (ag_cX ++ ag_cM) 1 := ⟨by decide +kernel, ⟨by decide +kernel, by decide +kernel, by decide +kernel, by decide +kernel, by decide +kernel, by decide +kernel⟩, ⟨by decide +kernel, by decide +kernel, by decide +kernel⟩, by decide +kernel, by decide +kernel, by decide +kernel⟩
theorem ag_isG14 : g_isG (ag_cX ++ ag_cM) 14 := ⟨by decide +kernel, ⟨by decide +kernel, by decide +kernel, by decide +kernel, by decide +kernel, by decide +kernel, by decide +kernel⟩, ⟨by decide +kernel, by decide +kernel, by decide +kernel⟩, by decide +kernel, by decide +kernel, by decide +kernel⟩
theorem ag_isG27 : g_isG (ag_cX ++ ag_cM) 27 := ⟨by decide +kernel, ⟨by decide +kernel, by decide +kernel, by decide +kernel, by decide +kernel, by decide +kernel, by decide +kernel⟩, ⟨by decide +kernel, by decide +kernel, by decide +kernel⟩, by decide +kernel, by decide +kernel, by decide +kernel⟩
theorem ag_isG42 : g_isG (ag_cX ++ ag_cM) 42 := ⟨by decide +kernel, ⟨by decide +kernel, by decide +kernel, by decide +kernel, by decide +kernel, by decide +kernel, by decide +kernel⟩, ⟨by decide +kernel, by decide +kernel, by decide +kernel⟩, by decide +kernel, by decide +kernel, by decide +kernel⟩
theorem ag_isG55 : g_isG (ag_cX ++ ag_cM) 55 := ⟨by decide +kernel, ⟨by decide +kernel, by decide +kernel, by decide +kernel, by decide +kernel, by decide +kernel, by decide +kernel⟩, ⟨by decide +kernel, by decide +kernel, by decide +kernel⟩, by decide +kernel, by decide +kernel, by decide +kernel⟩
theorem ag_isG68 : g_isG (ag_cX ++ ag_cM) 68 := ⟨by decide +kernel, ⟨by decide +kernel, by decide +kernel, by decide +kernel, by decide +kernel, by decide +kernel, by decide +kernel⟩, ⟨by decide +kernel, by decide +kernel, by decide +kernel⟩, by decide +kernel, by decide +kernel, by decide +kernel⟩
theorem ag_isG81 : g_isG (ag_cX ++ ag_cM) 81 := ⟨by decide +kernel, ⟨by decide +kernel, by decide +kernel, by decide +kernel, by decide +kernel, by decide +kernel, by decide +kernel⟩, ⟨by decide +kernel, by decide +kernel, by decide +kernel⟩, by decide +kernel, by decide +kernel, by decide +kernel⟩
theorem ag_isG94 : g_isG (ag_cX ++ ag_cM) 94 := ⟨by decide +kernel, ⟨by decide +kernel, by decide +kernel, by decide +kernel, by decide +kernel, by decide +kernel, by decide +kernel⟩, ⟨by decide +kernel, by decide +kernel, by decide +kernel⟩, by decide +kernel, by decide +kernel, by decide +kernel⟩
theorem ag_isG107 : g_isG (ag_cX ++ ag_cM) 107 := ⟨by decide +kernel, ⟨by decide +kernel, by decide +kernel, by decide +kernel, by decide +kernel, by decide +kernel, by decide +kernel⟩, ⟨by decide +kernel, by decide +kernel, by decide +kernel⟩, by decide +kernel, by decide +kernel, by decide +kernel⟩
theorem ag_isG120 : g_isG (ag_cX ++ ag_cM) 120 := ⟨by decide +kernel, ⟨by decide +kernel, by decide +kernel, by decide +kernel, by decide +kernel, by decide +kernel, by decide +kernel⟩, ⟨by decide +kernel, by decide +kernel, by decide +kernel⟩, by decide +kernel, by decide +kernel, by decide +kernel⟩
theorem ag_isG133 : g_isG (ag_cX ++ ag_cM) 133 := ⟨by decide +kernel, ⟨by decide +kernel, by decide +kernel, by decide +kernel, by decide +kernel, by decide +kernel, by decide +kernel⟩, ⟨by decide +kernel, by decide +kernel, by decide +kernel⟩, by decide +kernel, by decide +kernel, by decide +kernel⟩
theorem ag_isX0 : g_isX (ag_cX ++ ag_cM) 0 := by
  refine ⟨by decide +kernel, ag_isG1, ag_isG14, ag_isG27, ⟨by decide +kernel, by decide +kernel, fun i h0 h1 => ?_⟩, ?_, ?_, by decide +kernel⟩
  · have e : i = 0 ∨ i = 1 ∨ i = 2 ∨ i = 3 ∨ i = 4 ∨ i = 5 ∨ i = 6 ∨ i = 7 := by omega
    rcases e with rfl | rfl | rfl | rfl | rfl | rfl | rfl | rfl
    · exact ag_isG42
    · exact ag_isG55
    · exact ag_isG68
    · exact ag_isG81
    · exact ag_isG94
    · exact ag_isG107
    · exact ag_isG120
    · exact ag_isG133
  · exact ⟨by decide +kernel, by decide +kernel, by decide +kernel, by decide +kernel⟩
  · show (ag_cX ++ ag_cM)[150]? = some (5, 5, [none, none, none, none, none]); decide +kernel
theorem ag_isM0 : g_isM (ag_cX ++ ag_cM) 152 := ⟨by decide +kernel, by decide +kernel, by decide +kernel, by decide +kernel, by decide +kernel, by decide +kernel, by decide +kernel, by decide +kernel, by decide +kernel⟩
def m_G0 : m_G := ((fun _ => -1, 0, fun _ => 0, fun _ => 0, fun _ => 0, fun _ => 0), (0, 0, 0, 0), (fun _ => 0, fun _ => 0, fun _ => 0), [])
def m_S0 : m_S := (m_G0, [], none, (-4, -4, -4, -4, -4), (0, fun _ => 0), (0, fun _ => 0))
theorem m_cnt00 (w : Int) (hw : 0 ≤ w) : m_cnt (fun _ => -1) w = 0 := by
  have key : ∀ j : Nat, m_sum (fun s => if m_own ((fun _ => -1 : Int → Int) s) = w then 1 else 0) j = 0 := by
    intro j
    induction j with
    | zero => rfl
    | succ j ih =>
      show m_sum (fun s => if m_own ((fun _ => -1 : Int → Int) s) = w then 1 else 0) j + (if m_own (-1) = w then 1 else 0) = 0
      have e : m_own (-1) = -1 := rfl
      rw [ih, e, if_neg (by omega)]
      rfl
  exact key 36
theorem m_S0v : g_vT m_S0 := by
  refine ⟨⟨⟨⟨⟨fun s => by show (-1 : Int) ≤ -1 ∧ (-1 : Int) ≤ 3; omega, fun s _ => rfl, (by decide : (0 : Int) ≤ 0 ∧ (0 : Int) ≤ 4), fun k h0 h1 => ?_, fun k => ⟨.inl rfl, Int.le_refl 0⟩, fun k _ => ⟨rfl, rfl⟩⟩, ⟨Nat.zero_le _, fun y hy => (by cases hy)⟩, ?_⟩, fun _ => ⟨rfl, ?_, ?_⟩, fun e => ?_, fun _ => ⟨(by decide : (0 : Int) ≤ 119), fun y hy => (by cases hy)⟩, fun y hy => (by cases hy), fun k => Int.le_refl 0⟩, fun G h => (by cases h), fun G h => (by cases h), (by decide : (0 : Int) ≤ 0 ∧ (0 : Int) ≤ 70), fun j h0 h1 => ?_, (by decide : (0 : Int) ≤ 0 ∧ (0 : Int) ≤ 6)⟩, ?_, fun j h0 h1 => ?_, Nat.zero_le 8⟩
  · have h2 : k < 0 := h1
    omega
  · exact ⟨(by decide : (0 : Int) ≤ 0 ∧ (0 : Int) ≤ 120), .inl rfl, (by decide : (0 : Int) ≤ 0 ∧ (0 : Int) ≤ 3), (by decide : (0 : Int) ≤ 0 ∧ (0 : Int) ≤ 12 * (0 / 4)), fun w => (by decide : ((0 : Int) ≤ 0 ∧ (0 : Int) ≤ 10 * 0) ∧ ((0 : Int) ≤ 0 ∧ (0 : Int) ≤ 10 * 0) ∧ ((0 : Int) ≤ 0 ∧ (0 : Int) ≤ 10 * 0)), fun _ => ⟨rfl, rfl⟩⟩
  · show m_cnt (fun _ => -1) 0 ≤ 8
    rw [m_cnt00 0 (by omega)]
    decide
  · show m_cnt (fun _ => -1) 1 ≤ 8
    rw [m_cnt00 1 (by omega)]
    decide
  · have e2 : (0 : Int) = 1 := e
    cases e2
  · have h2 : j < 0 := h1
    omega
  · exact g_vF_mk (by decide)
  · have h2 : j < 0 := h1
    omega
theorem ag_all {P : Nat → Bool} {n : Nat} (h : (List.range n).all P = true) (i : Int) (h0 : 0 ≤ i) (h1 : i < n) : P i.toNat = true := List.all_eq_true.1 h _ (List.mem_range.2 (by omega))
theorem ag_start {N : Nat → Int → Int} (h : ag_ckN N = true) : g_rX N 0 m_S0 ∧ g_rY N 152 m_S0 := by
  unfold ag_ckN at h
  simp only [Bool.and_eq_true] at h
  obtain ⟨⟨⟨⟨⟨⟨⟨⟨⟨a1, a2⟩, a3⟩, a4⟩, a5⟩, a6⟩, a7⟩, a8⟩, a9⟩, a10⟩ := h
  have b2 := of_decide_eq_true a2
  have b4 := of_decide_eq_true a4
  have b5 := of_decide_eq_true a5
  have b7 := of_decide_eq_true a7
  have b8 := of_decide_eq_true a8
  have b9 := of_decide_eq_true a9
  have b1 : ∀ s : Int, 0 ≤ s → s < 36 → N 3 s = -1 := fun s h0 h1 => by
    have := of_decide_eq_true (ag_all a1 s h0 h1)
    rwa [show ((s.toNat : Nat) : Int) = s by omega] at this
  have b3 : ∀ s : Int, 0 ≤ s → s < 4 → N 4 s = 0 ∧ N 5 s = 0 ∧ N 6 s = 0 ∧ N 7 s = 0 := fun s h0 h1 => by
    have := of_decide_eq_true (ag_all a3 s h0 h1)
    rwa [show ((s.toNat : Nat) : Int) = s by omega] at this
  have b6 : ∀ s : Int, 0 ≤ s → s < 2 → N 11 s = 0 ∧ N 12 s = 0 ∧ N 13 s = 0 := fun s h0 h1 => by
    have := of_decide_eq_true (ag_all a6 s h0 h1)
    rwa [show ((s.toNat : Nat) : Int) = s by omega] at this
  have b10 : ∀ s : Int, 0 ≤ s → s < 68 → N 153 s = 0 := fun s h0 h1 => by
    have := of_decide_eq_true (ag_all a10 s h0 h1)
    rwa [show ((s.toNat : Nat) : Int) = s by omega] at this
  constructor
  · refine ⟨⟨⟨b1, b2, fun k h0 h1 => ⟨(b3 k h0 h1).1, (b3 k h0 h1).2.1⟩, fun k h0 h1 => ⟨(b3 k h0 h1).2.2.1, (b3 k h0 h1).2.2.2⟩⟩, ⟨b4, rfl⟩, b5, fun w h0 h1 => b6 w h0 h1⟩, ⟨0, by decide, b7.1, b7.2.1, Nat.zero_le 8, fun i G hi => by cases hi⟩, ⟨fun _ => b7.2.2.1, fun G e => by cases e⟩, b8, ⟨b7.2.2.2.2, fun j h0 h1 => ?_⟩, b7.2.2.2.1, fun j h0 h1 => ?_⟩
    · have h2 : j < 0 := h1
      omega
    · have h2 : j < 0 := h1
      omega
  · refine ⟨⟨⟨fun s h0 h1 => b10 (31 + s) (by omega) (by omega), b10 14 (by omega) (by omega), fun k h0 h1 => ⟨b10 _ (by omega) (by omega), b10 _ (by omega) (by omega)⟩, fun k h0 h1 => ⟨b10 _ (by omega) (by omega), b10 _ (by omega) (by omega)⟩⟩, ⟨b10 0 (by omega) (by omega), b10 1 (by omega) (by omega), b10 2 (by omega) (by omega), b10 3 (by omega) (by omega), b10 4 (by omega) (by omega), b10 5 (by omega) (by omega), ⟨b10 8 (by omega) (by omega), b10 9 (by omega) (by omega)⟩, ⟨b10 10 (by omega) (by omega), b10 11 (by omega) (by omega)⟩, b10 12 (by omega) (by omega), b10 13 (by omega) (by omega)⟩, ⟨b10 67 (by omega) (by omega), fun i y hy => by cases hy⟩, fun _ => ⟨(b10 6 (by omega) (by omega)).trans (m_cnt00 0 (by omega)).symm, (b10 7 (by omega) (by omega)).trans (m_cnt00 1 (by omega)).symm⟩⟩, ⟨b9.2.1, Nat.zero_le 8, fun i G hi => by cases hi⟩, ⟨fun _ => b9.1, fun G e => by cases e⟩, .inl ⟨b9.2.2.2.1, rfl⟩, ⟨b9.2.2.2.2.1, fun j h0 h1 => ?_⟩, ⟨b9.2.2.2.2.2, fun j h0 h1 => ?_⟩, b9.2.2.1⟩
    · have h2 : j < 0 := h1
      omega
    · have h2 : j < 0 := h1
      omega
set_option maxRecDepth 100000 in
theorem ag_law_run {E : Nat × (Int → Int)} (hE1 : E.1 ≤ 2048) (hE2 : ∀ i, ag_in (E.2 i)) : AR E 30 ag_mL_law (0, [some (vX 0), none, none, none], [], ([], fun _ _ => 0)) (fun o_ => ∃ N' : Nat → Int → Int, o_ = (some (vI 1), (ag_cX ++ ag_cM, N'))) := by
  obtain ⟨h1, h2, c1, l1, c2, e2, k2⟩ := ag_boots
  obtain ⟨C2, N2⟩ := h2
  have e3 : C2 = ag_cX ++ ag_cM := e2
  subst e3
  have hs := ag_start k2
  refine AR.blk 2 (f' := (4, [some (vX 0), none, none, none], [vA 0, vA 0], ag_H0)) (fun _ => rfl) ?_
  refine AR.callI [] ((ag_Ev_of E c1).up (by omega)) (show ag_H0.1[0]? = some (6, 9, List.replicate 9 none) from rfl) rfl rfl rfl rfl rfl ?_
  show AR E 30 ag_mL_law (7, [some (vX 0), none, none, none], [vA 0], h1) _
  refine AR.blk 1 (f' := (8, [some (vX 0), some (vA 0), none, none], [], h1)) (fun _ => rfl) ?_
  refine AR.one0 (f' := (11, [some (vX 0), some (vA 0), none, none], [vA 152], (h1.1 ++ [(7, 20, List.replicate 20 none)], ag_zero h1.2 152))) rfl (fun call => ?_) ?_
  · rw [← l1]
    rfl
  refine AR.blk 1 (f' := (12, [some (vX 0), some (vA 0), none, none], [vA 152, vA 152], (h1.1 ++ [(7, 20, List.replicate 20 none)], ag_zero h1.2 152))) (fun _ => rfl) ?_
  refine AR.callI [] ((ag_Ev_of E c2).up (by omega)) (show (h1.1 ++ [((7, 20, List.replicate 20 none) : ag_C)])[152]? = some (7, 20, List.replicate 20 none) by rw [List.getElem?_append_right (by omega), l1]; rfl) rfl rfl rfl rfl rfl ?_
  show AR E 30 ag_mL_law (15, [some (vX 0), some (vA 0), none, none], [vA 152], (ag_cX ++ ag_cM, N2)) _
  refine AR.blk 3 (f' := (18, [some (vX 0), some (vA 0), some (vA 152), some (vI 0)], [], (ag_cX ++ ag_cM, N2))) (fun _ => rfl) ?_
  exact ag_law_loop (by omega) ag_isX0 ag_isM0 hE1 hE2 _ 0 m_S0 N2 (Nat.lt_succ_self _) (by omega) hs.1 hs.2 m_S0v
theorem sg_goal_ok : sg_Goal := by
  intro L xs hL hxs
  obtain ⟨n, N, o, ⟨N', rfl⟩, h⟩ := ag_law_run (E := (L, xs)) hL hxs
  exact ⟨N, 30, n, (ag_cX ++ ag_cM, N'), by decide, (by decide +kernel : (ag_cX ++ ag_cM).length ≤ 600000), (by decide +kernel : sg_ss (ag_cX ++ ag_cM) ≤ 7302250), h N (Nat.le_refl _)⟩
