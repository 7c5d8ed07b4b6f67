/-! LEVEL 2: a board of the class, changed -/
def m_set (P : Int → Int) (s c : Int) : Int → Int := fun t => if t = s then c else P t
def g_QB (C : List ag_C) (N : Nat → Int → Int) (b : Nat) (o : Option av) (P : Int → Int) (n : Int) (q p cl tn : Int → Int) : ag_O → Prop := fun r => ∃ N', r = (o, (C, N')) ∧ g_rB N' b P n q p cl tn ∧ ∀ a, ¬ (b ≤ a ∧ a < b + 6) → N' a = N a
theorem ag_upd_ne {N : Nat → Int → Int} {a a' : Nat} {k z : Int} (h : a' ≠ a) : ag_upd N a k z a' = N a' := by
  funext k'
  exact if_neg (fun e => h e.1)
theorem ag_upd_nk {N : Nat → Int → Int} {a a' : Nat} {k k' z : Int} (h : k' ≠ k) : ag_upd N a k z a' k' = N a' k' := if_neg (fun e => h e.2)
theorem ag_upd_eq {N : Nat → Int → Int} {a : Nat} {k z : Int} : ag_upd N a k z a k = z := if_pos ⟨rfl, rfl⟩
theorem g_rB_set {N : Nat → Int → Int} {b : Nat} {P : Int → Int} {n : Int} {q p cl tn : Int → Int} (hr : g_rB N b P n q p cl tn) (s c : Int) : g_rB (ag_upd N (b + 1) s c) b (m_set P s c) n q p cl tn := by
  refine ⟨fun t h0 h1 => ?_, ?_, fun k h0 h1 => ?_, fun k h0 h1 => ?_⟩
  · unfold m_set
    by_cases e : t = s
    · subst e; rw [if_pos rfl]; exact ag_upd_eq
    · rw [if_neg e, ag_upd_nk e]; exact hr.1 t h0 h1
  · rw [ag_upd_ne (by omega)]; exact hr.2.1
  · rw [ag_upd_ne (by omega), ag_upd_ne (by omega)]; exact hr.2.2.1 k h0 h1
  · rw [ag_upd_ne (by omega), ag_upd_ne (by omega)]; exact hr.2.2.2 k h0 h1
theorem g_wB_set {P : Int → Int} {n : Int} {q p cl tn : Int → Int} (hw : g_wB P n q p cl tn) {s c : Int} (hs : 0 ≤ s ∧ s < 36) (hc : -1 ≤ c ∧ c ≤ 3) : g_wB (m_set P s c) n q p cl tn := by
  refine ⟨fun t => ?_, fun t ht => ?_, hw.2.2⟩
  · have := hw.1 t
    unfold m_set
    omega
  · unfold m_set
    rw [if_neg (by omega)]
    exact hw.2.1 t ht
def m_prom (P : Int → Int) (s x : Int) : Int := if P s = -1 ∨ m_tug (P s) = 1 ∨ m_ahead s x 1 / 6 ≠ (if m_own (P s) = 0 then 5 else 0) then 0 else 1
def m_proP (P : Int → Int) (s x : Int) : Int → Int := if m_prom P s x = 1 then m_set P s (P s + 1) else P
/-- P with what stands on s and the squares ahead moved on, so many of them -/
def m_sh (P : Int → Int) (s st : Int) : Nat → (Int → Int)
  | 0 => m_set P s (-1)
  | j + 1 => m_set (m_sh P s st j) (s + ((j : Int) + 1) * st) (P (s + j * st))
theorem m_sh_S (P : Int → Int) (s st k : Int) (h : 0 ≤ k) : m_sh P s st (k + 1).toNat = m_set (m_sh P s st k.toNat) (s + (k + 1) * st) (P (s + k * st)) := by
  rw [show (k + 1).toNat = k.toNat + 1 by omega]
  show m_set (m_sh P s st k.toNat) (s + ((k.toNat : Int) + 1) * st) (P (s + (k.toNat : Int) * st)) = _
  rw [show ((k.toNat : Nat) : Int) = k by omega]
theorem m_mul_inj {a c st : Int} (hst : st = 6 ∨ st = 1 ∨ st = -6 ∨ st = -1) (h : a * st = c * st) : a = c := by
  rcases hst with rfl | rfl | rfl | rfl <;> omega
theorem m_sh_far (P : Int → Int) (s st : Int) (hst : st = 6 ∨ st = 1 ∨ st = -6 ∨ st = -1) : ∀ (j : Nat) (i : Int), (j : Int) < i → m_sh P s st j (s + i * st) = P (s + i * st) := by
  intro j
  induction j with
  | zero =>
    intro i hi
    refine if_neg (fun e => ?_)
    have : i * st = 0 * st := by omega
    have := m_mul_inj hst this
    omega
  | succ j ih =>
    intro i hi
    show m_set (m_sh P s st j) (s + ((j : Int) + 1) * st) (P (s + j * st)) (s + i * st) = _
    unfold m_set
    rw [if_neg (fun e => ?_)]
    · exact ih i (by omega)
    · have : i * st = ((j : Int) + 1) * st := by omega
      have := m_mul_inj hst this
      omega
theorem m_step_or (x : Int) : m_step x = 6 ∨ m_step x = 1 ∨ m_step x = -6 ∨ m_step x = -1 := by unfold m_step; omega
theorem m_sh_in (P : Int → Int) (s st : Int) (h : ∀ t, -1 ≤ P t ∧ P t ≤ 3) : ∀ (j : Nat) t, -1 ≤ m_sh P s st j t ∧ m_sh P s st j t ≤ 3 := by
  intro j
  induction j with
  | zero =>
    intro t
    have := h t
    show -1 ≤ (if t = s then -1 else P t) ∧ (if t = s then -1 else P t) ≤ 3
    omega
  | succ j ih =>
    intro t
    have h1 := ih t
    have h2 := h (s + j * st)
    show -1 ≤ (if t = s + ((j : Int) + 1) * st then P (s + j * st) else m_sh P s st j t) ∧ (if t = s + ((j : Int) + 1) * st then P (s + j * st) else m_sh P s st j t) ≤ 3
    omega
theorem m_sh_w {P : Int → Int} {n : Int} {q p cl tn : Int → Int} (hw : g_wB P n q p cl tn) {s x : Int} (hs : 0 ≤ s ∧ s < 36) (hx : 0 ≤ x ∧ x < 4) : ∀ j : Nat, (j : Int) ≤ m_room s x → g_wB (m_sh P s (m_step x) j) n q p cl tn := by
  intro j
  induction j with
  | zero => intro _; exact g_wB_set hw hs (by omega)
  | succ j ih =>
    intro hj
    have := m_sqs s x j hs hx (by omega)
    exact g_wB_set (ih (by omega)) this (hw.1 _)
/-- how many squares of a line change -/
def m_far (P : Int → Int) (s x : Int) : Int := if m_std P s x + 1 ≤ m_room s x then m_std P s x + 1 else m_room s x
def m_held (P : Int → Int) (s x : Int) : Int := if m_std P s x + 1 ≤ m_room s x then -1 else P (s + m_room s x * m_step x)
def m_mov (P : Int → Int) (s x : Int) : Int → Int := m_sh P s (m_step x) (m_far P s x).toNat
def m_drf (P : Int → Int) (n : Int) (q cl : Int → Int) (s x : Int) : Int := if P s = -1 ∨ m_ahead s x 1 = -1 ∨ P (m_ahead s x 1) ≠ -1 ∨ m_cl n q cl (m_ahead s x 1) = 1 then 0 else 1
def m_drP (P : Int → Int) (n : Int) (q cl : Int → Int) (s x : Int) : Int → Int := if m_drf P n q cl s x = 1 then m_set (m_set P s (-1)) (m_ahead s x 1) (P s) else P
theorem m_drP_w {P : Int → Int} {n : Int} {q p cl tn : Int → Int} (hw : g_wB P n q p cl tn) {s x : Int} (hs : 0 ≤ s ∧ s < 36) (hx : 0 ≤ x ∧ x < 4) : g_wB (m_drP P n q cl s x) n q p cl tn := by
  unfold m_drP
  split
  · rename_i e
    have h1 := m_ah s x 1 hs hx (by omega)
    unfold m_drf at e
    exact g_wB_set (g_wB_set hw hs (by omega)) (by omega) (hw.1 s)
  · exact hw
theorem m_drf_in (P : Int → Int) (n : Int) (q cl : Int → Int) (s x : Int) : m_drf P n q cl s x = 0 ∨ m_drf P n q cl s x = 1 := by unfold m_drf; omega
/-- the river, so many rows of it -/
def m_rv (P : Int → Int) (n : Int) (q cl : Int → Int) (x : Int) : Nat → (Int → Int) × Int
  | 0 => (P, 0)
  | k + 1 =>
    (m_drP (m_drP (m_rv P n q cl x k).1 n q cl (m_end 2 x k) x) n q cl (m_end 3 x k) x,
      (m_rv P n q cl x k).2 + m_drf (m_rv P n q cl x k).1 n q cl (m_end 2 x k) x + m_drf (m_drP (m_rv P n q cl x k).1 n q cl (m_end 2 x k) x) n q cl (m_end 3 x k) x)
theorem m_rv_S (P : Int → Int) (n : Int) (q cl : Int → Int) (x k : Int) (h : 0 ≤ k) : m_rv P n q cl x (k + 1).toNat = (m_drP (m_drP (m_rv P n q cl x k.toNat).1 n q cl (m_end 2 x k) x) n q cl (m_end 3 x k) x, (m_rv P n q cl x k.toNat).2 + m_drf (m_rv P n q cl x k.toNat).1 n q cl (m_end 2 x k) x + m_drf (m_drP (m_rv P n q cl x k.toNat).1 n q cl (m_end 2 x k) x) n q cl (m_end 3 x k) x) := by
  have e : ((k.toNat : Nat) : Int) = k := by omega
  rw [show (k + 1).toNat = k.toNat + 1 by omega]
  show (m_drP (m_drP (m_rv P n q cl x k.toNat).1 n q cl (m_end 2 x (k.toNat : Nat)) x) n q cl (m_end 3 x (k.toNat : Nat)) x, (m_rv P n q cl x k.toNat).2 + m_drf (m_rv P n q cl x k.toNat).1 n q cl (m_end 2 x (k.toNat : Nat)) x + m_drf (m_drP (m_rv P n q cl x k.toNat).1 n q cl (m_end 2 x (k.toNat : Nat)) x) n q cl (m_end 3 x (k.toNat : Nat)) x) = _
  rw [e]
theorem m_end_in (l x k : Int) (hl : 0 ≤ l ∧ l < 6) (hk : 0 ≤ k ∧ k < 6) : 0 ≤ m_end l x k ∧ m_end l x k < 36 := by unfold m_end; omega
section L2f
variable {E : Nat × (Int → Int)} {C : List ag_C} {N : Nat → Int → Int} {b : Nat} {P : Int → Int} {n : Int} {q p cl tn : Int → Int}

theorem m_rv_w {P : Int → Int} {n : Int} {q p cl tn : Int → Int} (hw : g_wB P n q p cl tn) {x : Int} (hx : 0 ≤ x ∧ x < 4) : ∀ k : Nat, k ≤ 6 → g_wB (m_rv P n q cl x k).1 n q p cl tn := by
  intro k
  induction k with
  | zero => intro _; exact hw
  | succ k ih => intro hk; exact m_drP_w (m_drP_w (ih (by omega)) (m_end_in 2 x k (by omega) (by omega)) hx) (m_end_in 3 x k (by omega) (by omega)) hx
theorem m_rv_in (P : Int → Int) (n : Int) (q cl : Int → Int) (x : Int) : ∀ k : Nat, 0 ≤ (m_rv P n q cl x k).2 ∧ (m_rv P n q cl x k).2 ≤ 2 * k := by
  intro k
  induction k with
  | zero => exact ⟨Int.le_refl 0, Int.le_refl 0⟩
  | succ k ih =>
    have h1 := m_drf_in (m_rv P n q cl x k).1 n q cl (m_end 2 x k) x
    have h2 := m_drf_in (m_drP (m_rv P n q cl x k).1 n q cl (m_end 2 x k) x) n q cl (m_end 3 x k) x
    show 0 ≤ (m_rv P n q cl x k).2 + m_drf (m_rv P n q cl x k).1 n q cl (m_end 2 x k) x + m_drf (m_drP (m_rv P n q cl x k).1 n q cl (m_end 2 x k) x) n q cl (m_end 3 x k) x ∧ (m_rv P n q cl x k).2 + m_drf (m_rv P n q cl x k).1 n q cl (m_end 2 x k) x + m_drf (m_drP (m_rv P n q cl x k).1 n q cl (m_end 2 x k) x) n q cl (m_end 3 x k) x ≤ 2 * ((k + 1 : Nat) : Int)
    omega

theorem m_held_in (P : Int → Int) (s x : Int) (h : ∀ s, -1 ≤ P s ∧ P s ≤ 3) : -1 ≤ m_held P s x ∧ m_held P s x ≤ 3 := by
  unfold m_held
  split
  · omega
  · exact h _
theorem m_mov_w {P : Int → Int} {n : Int} {q p cl tn : Int → Int} (hw : g_wB P n q p cl tn) {s x : Int} (hs : 0 ≤ s ∧ s < 36) (hx : 0 ≤ x ∧ x < 4) : g_wB (m_mov P s x) n q p cl tn := by
  have y1 := m_room_in s x hs
  have y2 := m_std_in P s x hs
  exact m_sh_w hw hs hx _ (by unfold m_far; omega)

theorem m_proP_w {P : Int → Int} {n : Int} {q p cl tn : Int → Int} (hw : g_wB P n q p cl tn) {s : Int} (x : Int) (hs : 0 ≤ s ∧ s < 36) : g_wB (m_proP P s x) n q p cl tn := by
  unfold m_proP
  split
  · rename_i e
    have h1 := hw.1 s
    refine g_wB_set hw hs ?_
    unfold m_prom m_tug at e
    omega
  · exact hw

theorem ev_X0_setPiece {d : Nat} (hd : 1 ≤ d) (hb : g_isB C b) (hr : g_rB N b P n q p cl tn) (hw : g_wB P n q p cl tn) (s c : Int) (h0 : 0 ≤ s ∧ s < 36) (h1 : -1 ≤ c ∧ c ≤ 3) : ∃ o_, Ev E d 3 [vA b, vI s, vI c] (C, N) o_ ∧ g_QB C N b none (m_set P s c) n q p cl tn o_ := by
  obtain ⟨d, rfl⟩ : ∃ j, d = j + 1 := ⟨d - 1, by omega⟩
  refine Ev.introQ (M := ag_mX0_setPiece) rfl rfl ?_
  show AR E d _ (0, [some (vA b), some (vI s), some (vI c)], [], (C, N)) _
  refine AR.blk 1 (f' := (1, [some (vA b), some (vI s), some (vI c)], [vI s], (C, N))) (fun _ => rfl) ?_
  refine AR.if_lt rfl (by omega) (fun c1 => ?_) (fun c1 => ?_)
  · show AR E d _ (17, [some (vA b), some (vI s), some (vI c)], [], (C, N)) _
    refine AR.endV rfl rfl ?_
    refine ⟨_, rfl, ?_, (fun _ _ => rfl)⟩
    exact False.elim (by omega)
  · show AR E d _ (4, [some (vA b), some (vI s), some (vI c)], [], (C, N)) _
    refine AR.blk 2 (f' := (7, [some (vA b), some (vI s), some (vI c)], [vI 36, vI s], (C, N))) (fun _ => rfl) ?_
    refine AR.ic_ge rfl (by omega) (fun c2 => ?_) (fun c2 => ?_)
    · show AR E d _ (17, [some (vA b), some (vI s), some (vI c)], [], (C, N)) _
      refine AR.endV rfl rfl ?_
      refine ⟨_, rfl, ?_, (fun _ _ => rfl)⟩
      exact False.elim (by omega)
    · show AR E d _ (10, [some (vA b), some (vI s), some (vI c)], [], (C, N)) _
      refine AR.blk 1 (f' := (11, [some (vA b), some (vI s), some (vI c)], [vA b], (C, N))) (fun _ => rfl) ?_
      refine AR.getR rfl rfl hb.1 (by decide) rfl ?_
      refine AR.blk 2 (f' := (16, [some (vA b), some (vI s), some (vI c)], [vI c, vI s, vA (b + 1)], (C, N))) (fun _ => rfl) ?_
      refine AR.iast rfl hb.2.1 (by omega) ?_
      show AR E d _ (17, [some (vA b), some (vI s), some (vI c)], [], (C, ag_upd N (b + 1) s c)) _
      have hrN4 := g_rB_set hr s c
      have hfN4 : ∀ a, ¬ (b ≤ a ∧ a < b + 6) → (ag_upd N (b + 1) s c) a = N a := fun a ha => (ag_upd_ne (by omega)).trans ((fun _ _ => rfl) a ha)
      generalize ag_upd N (b + 1) s c = N4 at *
      refine AR.endV rfl rfl ?_
      refine ⟨_, rfl, ?_, hfN4⟩
      exact hrN4

theorem ev_X0_promote {d : Nat} (hd : 3 ≤ d) (hb : g_isB C b) (hr : g_rB N b P n q p cl tn) (hw : g_wB P n q p cl tn) (s x : Int) (h0 : 0 ≤ s ∧ s < 36) (h1 : 0 ≤ x ∧ x < 4) (h2 : 1 ≤ m_room s x) : ∃ o_, Ev E d 19 [vA b, vI s, vI x] (C, N) o_ ∧ g_QB C N b (some (vI (m_prom P s x))) (m_proP P s x) n q p cl tn o_ := by
  obtain ⟨d, rfl⟩ : ∃ j, d = j + 1 := ⟨d - 1, by omega⟩
  have z1 := m_ah s x 1 h0 h1 (by omega)
  refine Ev.introQ (M := ag_mX0_promote) rfl rfl ?_
  show AR E d _ (0, [some (vA b), some (vI s), some (vI x), none, none], [], (C, N)) _
  refine AR.blk 2 (f' := (2, [some (vA b), some (vI s), some (vI x), none, none], [vI s, vA b], (C, N))) (fun _ => rfl) ?_
  refine AR.callV [vI s] (ev_X0_pieceAt (by omega) hb hr hw s (by first | omega | (unfold m_tug at *; omega))) hb.1 rfl rfl rfl rfl rfl ?_
  show AR E d _ (5, [some (vA b), some (vI s), some (vI x), none, none], [vI (P s)], (C, N)) _
  have f1 := hw.1 s
  refine AR.blk 4 (f' := (9, [some (vA b), some (vI s), some (vI x), some (vI (P s)), none], [vI 1, vI x, vI s], (C, N))) (fun _ => rfl) ?_
  refine AR.callS [vI s, vI x, vI 1] (ev_X6_ahead (by omega) s x 1 (by first | omega | (unfold m_tug at *; omega)) (by first | omega | (unfold m_tug at *; omega)) (by first | omega | (unfold m_tug at *; omega))) rfl rfl rfl rfl rfl ?_
  show AR E d _ (12, [some (vA b), some (vI s), some (vI x), some (vI (P s)), none], [vI (m_ahead s x 1)], (C, N)) _
  refine AR.blk 3 (f' := (16, [some (vA b), some (vI s), some (vI x), some (vI (P s)), some (vI (m_ahead s x 1))], [vI (-1), vI (P s)], (C, N))) (fun _ => rfl) ?_
  refine AR.ic_eq rfl (by first | omega | (unfold m_tug at *; omega)) (fun c2 => ?_) (fun c2 => ?_)
  · show AR E d _ (41, [some (vA b), some (vI s), some (vI x), some (vI (P s)), some (vI (m_ahead s x 1))], [], (C, N)) _
    refine AR.blk 1 (f' := (42, [some (vA b), some (vI s), some (vI x), some (vI (P s)), some (vI (m_ahead s x 1))], [vI 0], (C, N))) (fun _ => rfl) ?_
    refine AR.endI rfl (.inr ⟨rfl, by omega⟩) ?_
    refine ⟨_, congrArg (fun z => (some (vI z), (C, N))) (show 0 = m_prom P s x from (by unfold m_prom; omega)), ?_, (fun _ _ => rfl)⟩
    rw [show m_proP P s x = P by unfold m_proP; first | exact if_pos (by unfold m_prom; omega) | exact if_neg (by unfold m_prom; omega)]; exact hr
  · show AR E d _ (19, [some (vA b), some (vI s), some (vI x), some (vI (P s)), some (vI (m_ahead s x 1))], [], (C, N)) _
    refine AR.blk 1 (f' := (20, [some (vA b), some (vI s), some (vI x), some (vI (P s)), some (vI (m_ahead s x 1))], [vI (P s)], (C, N))) (fun _ => rfl) ?_
    refine AR.callS [vI (P s)] (ev_X6_isTug (by omega) (P s) (by first | omega | (unfold m_tug at *; omega))) rfl rfl rfl rfl rfl ?_
    show AR E d _ (23, [some (vA b), some (vI s), some (vI x), some (vI (P s)), some (vI (m_ahead s x 1))], [vI (m_tug (P s))], (C, N)) _
    have f3 := m_tug_in ((P s))
    refine AR.if_ne rfl (by first | omega | (unfold m_tug at *; omega)) (fun c4 => ?_) (fun c4 => ?_)
    · show AR E d _ (41, [some (vA b), some (vI s), some (vI x), some (vI (P s)), some (vI (m_ahead s x 1))], [], (C, N)) _
      refine AR.blk 1 (f' := (42, [some (vA b), some (vI s), some (vI x), some (vI (P s)), some (vI (m_ahead s x 1))], [vI 0], (C, N))) (fun _ => rfl) ?_
      refine AR.endI rfl (.inr ⟨rfl, by omega⟩) ?_
      refine ⟨_, congrArg (fun z => (some (vI z), (C, N))) (show 0 = m_prom P s x from (by unfold m_prom; omega)), ?_, (fun _ _ => rfl)⟩
      rw [show m_proP P s x = P by unfold m_proP; first | exact if_pos (by unfold m_prom; omega) | exact if_neg (by unfold m_prom; omega)]; exact hr
    · show AR E d _ (26, [some (vA b), some (vI s), some (vI x), some (vI (P s)), some (vI (m_ahead s x 1))], [], (C, N)) _
      refine AR.blk 2 (f' := (30, [some (vA b), some (vI s), some (vI x), some (vI (P s)), some (vI (m_ahead s x 1))], [vI 6, vI (m_ahead s x 1)], (C, N))) (fun _ => rfl) ?_
      refine AR.idiv rfl (by first | omega | (unfold m_tug at *; omega)) ?_
      refine AR.blk 1 (f' := (32, [some (vA b), some (vI s), some (vI x), some (vI (P s)), some (vI (m_ahead s x 1))], [vI (P s), vI ((m_ahead s x 1) / 6)], (C, N))) (fun _ => rfl) ?_
      refine AR.callS [vI (P s)] (ev_X6_ownerOf (by omega) (P s) (by first | omega | (unfold m_tug at *; omega))) rfl rfl rfl rfl rfl ?_
      show AR E d _ (35, [some (vA b), some (vI s), some (vI x), some (vI (P s)), some (vI (m_ahead s x 1))], [vI (m_own (P s)), vI ((m_ahead s x 1) / 6)], (C, N)) _
      have f5 := m_own_in ((P s)) (by omega)
      refine AR.callS [vI (m_own (P s))] (ev_X6_lastRowOf (by omega) (m_own (P s)) (by first | omega | (unfold m_tug at *; omega))) rfl rfl rfl rfl rfl ?_
      show AR E d _ (38, [some (vA b), some (vI s), some (vI x), some (vI (P s)), some (vI (m_ahead s x 1))], [vI (if (m_own (P s)) = 0 then 5 else 0), vI ((m_ahead s x 1) / 6)], (C, N)) _
      refine AR.ic_eq rfl (by first | omega | (unfold m_tug at *; omega)) (fun c6 => ?_) (fun c6 => ?_)
      · show AR E d _ (43, [some (vA b), some (vI s), some (vI x), some (vI (P s)), some (vI (m_ahead s x 1))], [], (C, N)) _
        refine AR.blk 5 (f' := (48, [some (vA b), some (vI s), some (vI x), some (vI (P s)), some (vI (m_ahead s x 1))], [vI ((P s) + 1), vI s, vA b], (C, N))) (fun _ => rfl) ?_
        obtain ⟨_, hE7, N8, rfl, hr9, hf10⟩ := ev_X0_setPiece (E := E) (d := d) (by omega) hb hr hw s ((P s) + 1) (by first | omega | (unfold m_tug at *; omega)) (by first | omega | (unfold m_tug at *; omega))
        have whr9 := g_wB_set hw (show 0 ≤ s ∧ s < 36 by omega) (show -1 ≤ ((P s) + 1) ∧ ((P s) + 1) ≤ 3 by first | omega | (unfold m_tug at *; omega))
        have fhf10 := fun a ha => (hf10 a ha).trans ((fun _ _ => rfl) a ha)
        refine AR.callV [vI s, vI ((P s) + 1)] hE7 hb.1 rfl rfl rfl rfl rfl ?_
        show AR E d _ (51, [some (vA b), some (vI s), some (vI x), some (vI (P s)), some (vI (m_ahead s x 1))], [], (C, N8)) _
        refine AR.blk 1 (f' := (52, [some (vA b), some (vI s), some (vI x), some (vI (P s)), some (vI (m_ahead s x 1))], [vI 1], (C, N8))) (fun _ => rfl) ?_
        refine AR.endI rfl (.inr ⟨rfl, by omega⟩) ?_
        refine ⟨_, congrArg (fun z => (some (vI z), (C, N8))) (show 1 = m_prom P s x from (by unfold m_prom; omega)), ?_, fhf10⟩
        rw [show m_proP P s x = (m_set P s ((P s) + 1)) by unfold m_proP; first | exact if_pos (by unfold m_prom; omega) | exact if_neg (by unfold m_prom; omega)]; exact hr9
      · show AR E d _ (41, [some (vA b), some (vI s), some (vI x), some (vI (P s)), some (vI (m_ahead s x 1))], [], (C, N)) _
        refine AR.blk 1 (f' := (42, [some (vA b), some (vI s), some (vI x), some (vI (P s)), some (vI (m_ahead s x 1))], [vI 0], (C, N))) (fun _ => rfl) ?_
        refine AR.endI rfl (.inr ⟨rfl, by omega⟩) ?_
        refine ⟨_, congrArg (fun z => (some (vI z), (C, N))) (show 0 = m_prom P s x from (by unfold m_prom; omega)), ?_, (fun _ _ => rfl)⟩
        rw [show m_proP P s x = P by unfold m_proP; first | exact if_pos (by unfold m_prom; omega) | exact if_neg (by unfold m_prom; omega)]; exact hr

theorem ev_X0_drift {d : Nat} (hd : 3 ≤ d) (hb : g_isB C b) (hr : g_rB N b P n q p cl tn) (hw : g_wB P n q p cl tn) (s x : Int) (h0 : 0 ≤ s ∧ s < 36) (h1 : 0 ≤ x ∧ x < 4) : ∃ o_, Ev E d 22 [vA b, vI s, vI x] (C, N) o_ ∧ g_QB C N b (some (vI (m_drf P n q cl s x))) (m_drP P n q cl s x) n q p cl tn o_ := by
  obtain ⟨d, rfl⟩ : ∃ j, d = j + 1 := ⟨d - 1, by omega⟩
  have z1 := m_ah s x 1 h0 h1 (by omega)
  refine Ev.introQ (M := ag_mX0_drift) rfl rfl ?_
  show AR E d _ (0, [some (vA b), some (vI s), some (vI x), none, none], [], (C, N)) _
  refine AR.blk 2 (f' := (2, [some (vA b), some (vI s), some (vI x), none, none], [vI s, vA b], (C, N))) (fun _ => rfl) ?_
  refine AR.callV [vI s] (ev_X0_pieceAt (by omega) hb hr hw s (by omega)) hb.1 rfl rfl rfl rfl rfl ?_
  show AR E d _ (5, [some (vA b), some (vI s), some (vI x), none, none], [vI (P s)], (C, N)) _
  have f1 := hw.1 s
  refine AR.blk 4 (f' := (9, [some (vA b), some (vI s), some (vI x), some (vI (P s)), none], [vI 1, vI x, vI s], (C, N))) (fun _ => rfl) ?_
  refine AR.callS [vI s, vI x, vI 1] (ev_X6_ahead (by omega) s x 1 (by omega) (by omega) (by omega)) rfl rfl rfl rfl rfl ?_
  show AR E d _ (12, [some (vA b), some (vI s), some (vI x), some (vI (P s)), none], [vI (m_ahead s x 1)], (C, N)) _
  refine AR.blk 3 (f' := (16, [some (vA b), some (vI s), some (vI x), some (vI (P s)), some (vI (m_ahead s x 1))], [vI (-1), vI (P s)], (C, N))) (fun _ => rfl) ?_
  refine AR.ic_eq rfl (by omega) (fun c2 => ?_) (fun c2 => ?_)
  · show AR E d _ (44, [some (vA b), some (vI s), some (vI x), some (vI (P s)), some (vI (m_ahead s x 1))], [], (C, N)) _
    refine AR.blk 1 (f' := (45, [some (vA b), some (vI s), some (vI x), some (vI (P s)), some (vI (m_ahead s x 1))], [vI 0], (C, N))) (fun _ => rfl) ?_
    refine AR.endI rfl (.inr ⟨rfl, by omega⟩) ?_
    refine ⟨_, congrArg (fun z => (some (vI z), (C, N))) (show 0 = m_drf P n q cl s x from (by unfold m_drf; omega)), ?_, (fun _ _ => rfl)⟩
    rw [show m_drP P n q cl s x = P by unfold m_drP; first | exact if_pos (by unfold m_drf; omega) | exact if_neg (by unfold m_drf; omega)]; exact hr
  · show AR E d _ (19, [some (vA b), some (vI s), some (vI x), some (vI (P s)), some (vI (m_ahead s x 1))], [], (C, N)) _
    refine AR.blk 2 (f' := (22, [some (vA b), some (vI s), some (vI x), some (vI (P s)), some (vI (m_ahead s x 1))], [vI (-1), vI (m_ahead s x 1)], (C, N))) (fun _ => rfl) ?_
    refine AR.ic_eq rfl (by omega) (fun c3 => ?_) (fun c3 => ?_)
    · show AR E d _ (44, [some (vA b), some (vI s), some (vI x), some (vI (P s)), some (vI (m_ahead s x 1))], [], (C, N)) _
      refine AR.blk 1 (f' := (45, [some (vA b), some (vI s), some (vI x), some (vI (P s)), some (vI (m_ahead s x 1))], [vI 0], (C, N))) (fun _ => rfl) ?_
      refine AR.endI rfl (.inr ⟨rfl, by omega⟩) ?_
      refine ⟨_, congrArg (fun z => (some (vI z), (C, N))) (show 0 = m_drf P n q cl s x from (by unfold m_drf; omega)), ?_, (fun _ _ => rfl)⟩
      rw [show m_drP P n q cl s x = P by unfold m_drP; first | exact if_pos (by unfold m_drf; omega) | exact if_neg (by unfold m_drf; omega)]; exact hr
    · show AR E d _ (25, [some (vA b), some (vI s), some (vI x), some (vI (P s)), some (vI (m_ahead s x 1))], [], (C, N)) _
      refine AR.blk 2 (f' := (28, [some (vA b), some (vI s), some (vI x), some (vI (P s)), some (vI (m_ahead s x 1))], [vI (m_ahead s x 1), vA b], (C, N))) (fun _ => rfl) ?_
      refine AR.callV [vI (m_ahead s x 1)] (ev_X0_pieceAt (by omega) hb hr hw (m_ahead s x 1) (by omega)) hb.1 rfl rfl rfl rfl rfl ?_
      show AR E d _ (31, [some (vA b), some (vI s), some (vI x), some (vI (P s)), some (vI (m_ahead s x 1))], [vI (P (m_ahead s x 1))], (C, N)) _
      have f4 := hw.1 (m_ahead s x 1)
      refine AR.blk 1 (f' := (32, [some (vA b), some (vI s), some (vI x), some (vI (P s)), some (vI (m_ahead s x 1))], [vI (-1), vI (P (m_ahead s x 1))], (C, N))) (fun _ => rfl) ?_
      refine AR.ic_ne rfl (by omega) (fun c5 => ?_) (fun c5 => ?_)
      · show AR E d _ (44, [some (vA b), some (vI s), some (vI x), some (vI (P s)), some (vI (m_ahead s x 1))], [], (C, N)) _
        refine AR.blk 1 (f' := (45, [some (vA b), some (vI s), some (vI x), some (vI (P s)), some (vI (m_ahead s x 1))], [vI 0], (C, N))) (fun _ => rfl) ?_
        refine AR.endI rfl (.inr ⟨rfl, by omega⟩) ?_
        refine ⟨_, congrArg (fun z => (some (vI z), (C, N))) (show 0 = m_drf P n q cl s x from (by unfold m_drf; omega)), ?_, (fun _ _ => rfl)⟩
        rw [show m_drP P n q cl s x = P by unfold m_drP; first | exact if_pos (by unfold m_drf; omega) | exact if_neg (by unfold m_drf; omega)]; exact hr
      · show AR E d _ (35, [some (vA b), some (vI s), some (vI x), some (vI (P s)), some (vI (m_ahead s x 1))], [], (C, N)) _
        refine AR.blk 2 (f' := (38, [some (vA b), some (vI s), some (vI x), some (vI (P s)), some (vI (m_ahead s x 1))], [vI (m_ahead s x 1), vA b], (C, N))) (fun _ => rfl) ?_
        refine AR.callV [vI (m_ahead s x 1)] (ev_X0_isClosed (by omega) hb hr hw (m_ahead s x 1) (by omega)) hb.1 rfl rfl rfl rfl rfl ?_
        show AR E d _ (41, [some (vA b), some (vI s), some (vI x), some (vI (P s)), some (vI (m_ahead s x 1))], [vI (m_cl n q cl (m_ahead s x 1))], (C, N)) _
        have f6 := m_cl_in n q cl (m_ahead s x 1) (fun k => (hw.2.2.2.2.1 k).1)
        refine AR.if_eq rfl (by omega) (fun c7 => ?_) (fun c7 => ?_)
        · show AR E d _ (46, [some (vA b), some (vI s), some (vI x), some (vI (P s)), some (vI (m_ahead s x 1))], [], (C, N)) _
          refine AR.blk 3 (f' := (49, [some (vA b), some (vI s), some (vI x), some (vI (P s)), some (vI (m_ahead s x 1))], [vI (-1), vI s, vA b], (C, N))) (fun _ => rfl) ?_
          obtain ⟨_, hE8, N9, rfl, hr10, hf11⟩ := ev_X0_setPiece (E := E) (d := d) (by omega) hb hr hw s (-1) (by omega) (by omega)
          have whr10 := g_wB_set hw (show 0 ≤ s ∧ s < 36 by omega) (show -1 ≤ (-1) ∧ (-1) ≤ 3 by first | omega | (unfold m_tug at *; omega))
          have fhf11 := fun a ha => (hf11 a ha).trans ((fun _ _ => rfl) a ha)
          refine AR.callV [vI s, vI (-1)] hE8 hb.1 rfl rfl rfl rfl rfl ?_
          show AR E d _ (52, [some (vA b), some (vI s), some (vI x), some (vI (P s)), some (vI (m_ahead s x 1))], [], (C, N9)) _
          refine AR.blk 3 (f' := (56, [some (vA b), some (vI s), some (vI x), some (vI (P s)), some (vI (m_ahead s x 1))], [vI (P s), vI (m_ahead s x 1), vA b], (C, N9))) (fun _ => rfl) ?_
          obtain ⟨_, hE12, N13, rfl, hr14, hf15⟩ := ev_X0_setPiece (E := E) (d := d) (by omega) hb hr10 whr10 (m_ahead s x 1) (P s) (by omega) (by omega)
          have whr14 := g_wB_set whr10 (show 0 ≤ (m_ahead s x 1) ∧ (m_ahead s x 1) < 36 by omega) (show -1 ≤ (P s) ∧ (P s) ≤ 3 by first | omega | (unfold m_tug at *; omega))
          have fhf15 := fun a ha => (hf15 a ha).trans (fhf11 a ha)
          refine AR.callV [vI (m_ahead s x 1), vI (P s)] hE12 hb.1 rfl rfl rfl rfl rfl ?_
          show AR E d _ (59, [some (vA b), some (vI s), some (vI x), some (vI (P s)), some (vI (m_ahead s x 1))], [], (C, N13)) _
          refine AR.blk 1 (f' := (60, [some (vA b), some (vI s), some (vI x), some (vI (P s)), some (vI (m_ahead s x 1))], [vI 1], (C, N13))) (fun _ => rfl) ?_
          refine AR.endI rfl (.inr ⟨rfl, by omega⟩) ?_
          refine ⟨_, congrArg (fun z => (some (vI z), (C, N13))) (show 1 = m_drf P n q cl s x from (by unfold m_drf; omega)), ?_, fhf15⟩
          rw [show m_drP P n q cl s x = (m_set (m_set P s (-1)) (m_ahead s x 1) (P s)) by unfold m_drP; first | exact if_pos (by unfold m_drf; omega) | exact if_neg (by unfold m_drf; omega)]; exact hr14
        · show AR E d _ (44, [some (vA b), some (vI s), some (vI x), some (vI (P s)), some (vI (m_ahead s x 1))], [], (C, N)) _
          refine AR.blk 1 (f' := (45, [some (vA b), some (vI s), some (vI x), some (vI (P s)), some (vI (m_ahead s x 1))], [vI 0], (C, N))) (fun _ => rfl) ?_
          refine AR.endI rfl (.inr ⟨rfl, by omega⟩) ?_
          refine ⟨_, congrArg (fun z => (some (vI z), (C, N))) (show 0 = m_drf P n q cl s x from (by unfold m_drf; omega)), ?_, (fun _ _ => rfl)⟩
          rw [show m_drP P n q cl s x = P by unfold m_drP; first | exact if_pos (by unfold m_drf; omega) | exact if_neg (by unfold m_drf; omega)]; exact hr

theorem ev_X0_shift {d : Nat} (hd : 3 ≤ d) (hb : g_isB C b) (hr : g_rB N b P n q p cl tn) (hw : g_wB P n q p cl tn) (s x : Int) (h0 : 0 ≤ s ∧ s < 36) (h1 : 0 ≤ x ∧ x < 4) : ∃ o_, Ev E d 20 [vA b, vI s, vI x] (C, N) o_ ∧ g_QB C N b (some (vI (m_held P s x))) (m_mov P s x) n q p cl tn o_ := by
  obtain ⟨d, rfl⟩ : ∃ j, d = j + 1 := ⟨d - 1, by omega⟩
  refine Ev.introQ (M := ag_mX0_shift) rfl rfl ?_
  show AR E d _ (0, [some (vA b), some (vI s), some (vI x), none, none, none, none, none], [], (C, N)) _
  refine AR.blk 3 (f' := (3, [some (vA b), some (vI s), some (vI x), none, none, none, none, none], [vI x, vI s, vA b], (C, N))) (fun _ => rfl) ?_
  refine AR.callV [vI s, vI x] (ev_X0_standing (by omega) hb hr hw s x (by omega) (by omega)) hb.1 rfl rfl rfl rfl rfl ?_
  show AR E d _ (6, [some (vA b), some (vI s), some (vI x), none, none, none, none, none], [vI (m_std P s x)], (C, N)) _
  have f1 := m_std_in P s x (by omega)
  refine AR.blk 3 (f' := (9, [some (vA b), some (vI s), some (vI x), some (vI (m_std P s x)), none, none, none, none], [vI s, vA b], (C, N))) (fun _ => rfl) ?_
  refine AR.callV [vI s] (ev_X0_pieceAt (by omega) hb hr hw s (by omega)) hb.1 rfl rfl rfl rfl rfl ?_
  show AR E d _ (12, [some (vA b), some (vI s), some (vI x), some (vI (m_std P s x)), none, none, none, none], [vI (P s)], (C, N)) _
  have f2 := hw.1 s
  refine AR.blk 4 (f' := (17, [some (vA b), some (vI s), some (vI x), some (vI (m_std P s x)), some (vI (P s)), none, none, none], [vI (-1), vI s, vA b], (C, N))) (fun _ => rfl) ?_
  obtain ⟨_, hE3, N4, rfl, hr5, hf6⟩ := ev_X0_setPiece (E := E) (d := d) (by omega) hb hr hw s (-1) (by omega) (by omega)
  have whr5 := g_wB_set hw (show 0 ≤ s ∧ s < 36 by omega) (show -1 ≤ (-1) ∧ (-1) ≤ 3 by first | omega | (unfold m_tug at *; omega))
  have fhf6 := fun a ha => (hf6 a ha).trans ((fun _ _ => rfl) a ha)
  refine AR.callV [vI s, vI (-1)] hE3 hb.1 rfl rfl rfl rfl rfl ?_
  show AR E d _ (20, [some (vA b), some (vI s), some (vI x), some (vI (m_std P s x)), some (vI (P s)), none, none, none], [], (C, N4)) _
  refine AR.blk 2 (f' := (23, [some (vA b), some (vI s), some (vI x), some (vI (m_std P s x)), some (vI (P s)), some (vI 1), none, none], [], (C, N4))) (fun _ => rfl) ?_
  suffices H23 : ∀ (j : Nat) (k : Int) (e : Int) (z6 : Option av) (z7 : Option av) (N9 : Nat → Int → Int), (7 - k).toNat < j → (1 ≤ k ∧ k ≤ m_room s x + 1 ∧ k ≤ m_std P s x + 2) → (e = P (s + (k - 1) * m_step x)) → (g_rB N9 b (m_sh P s (m_step x) (k - 1).toNat) n q p cl tn) → (∀ a, ¬ (b ≤ a ∧ a < b + 6) → N9 a = N a) → AR E d ag_mX0_shift (23, [some (vA b), some (vI s), some (vI x), some (vI (m_std P s x)), some (vI e), some (vI k), z6, z7], [], (C, N9)) (g_QB C N b (some (vI (m_held P s x))) (m_mov P s x) n q p cl tn) by
    exact H23 _ _ _ _ _ _ (Nat.lt_succ_self _) (by have y1 := m_room_in s x (by omega); have y2 := m_std_in P s x (by omega); omega) (by rw [show (1 : Int) - 1 = 0 by rfl, Int.zero_mul, Int.add_zero]) hr5 fhf6
  intro j
  induction j with
  | zero => intro k e z6 z7 N9 hj; exact absurd hj (Nat.not_lt_zero _)
  | succ j ih23 =>
    intro k e z6 z7 N9 hj23 i0 i1 hr9 hf9
    have y1 := m_room_in s x (by omega)
    have y2 := m_std_in P s x (by omega)
    have hw9 := m_sh_w hw (s := s) (x := x) h0 h1 (k - 1).toNat (by omega)
    have y3 := hw.1 (s + (k - 1) * m_step x)
    have y4 := m_ah s x k h0 h1 (by omega)
    refine AR.blk 4 (f' := (28, [some (vA b), some (vI s), some (vI x), some (vI (m_std P s x)), some (vI e), some (vI k), z6, z7], [vI ((m_std P s x) + 1), vI k], (C, N9))) (fun _ => rfl) ?_
    refine AR.ic_gt rfl (by omega) (fun c7 => ?_) (fun c7 => ?_)
    · show AR E d _ (82, [some (vA b), some (vI s), some (vI x), some (vI (m_std P s x)), some (vI e), some (vI k), z6, z7], [], (C, N9)) _
      refine AR.blk 1 (f' := (83, [some (vA b), some (vI s), some (vI x), some (vI (m_std P s x)), some (vI e), some (vI k), z6, z7], [vI (-1)], (C, N9))) (fun _ => rfl) ?_
      refine AR.endI rfl (.inl rfl) ?_
      refine ⟨_, congrArg (fun z => (some (vI z), (C, N9))) (show (-1) = m_held P s x from (by unfold m_held; first | (rw [if_pos (by omega)]) | (rw [if_neg (by omega), i1, show k - 1 = m_room s x by omega]))), ?_, hf9⟩
      exact (show g_rB N9 b (m_sh P s (m_step x) (m_far P s x).toNat) n q p cl tn by rw [show m_far P s x = k - 1 by unfold m_far; omega]; exact hr9)
    · show AR E d _ (31, [some (vA b), some (vI s), some (vI x), some (vI (m_std P s x)), some (vI e), some (vI k), z6, z7], [], (C, N9)) _
      refine AR.blk 2 (f' := (35, [some (vA b), some (vI s), some (vI x), some (vI (m_std P s x)), some (vI e), some (vI k), z6, z7], [vI 6, vI k], (C, N9))) (fun _ => rfl) ?_
      refine AR.ic_gt rfl (by omega) (fun c8 => ?_) (fun c8 => ?_)
      · show AR E d _ (82, [some (vA b), some (vI s), some (vI x), some (vI (m_std P s x)), some (vI e), some (vI k), z6, z7], [], (C, N9)) _
        refine AR.blk 1 (f' := (83, [some (vA b), some (vI s), some (vI x), some (vI (m_std P s x)), some (vI e), some (vI k), z6, z7], [vI (-1)], (C, N9))) (fun _ => rfl) ?_
        refine AR.endI rfl (.inl rfl) ?_
        refine ⟨_, congrArg (fun z => (some (vI z), (C, N9))) (show (-1) = m_held P s x from (by unfold m_held; first | (rw [if_pos (by omega)]) | (rw [if_neg (by omega), i1, show k - 1 = m_room s x by omega]))), ?_, hf9⟩
        exact (show g_rB N9 b (m_sh P s (m_step x) (m_far P s x).toNat) n q p cl tn by rw [show m_far P s x = k - 1 by unfold m_far; omega]; exact hr9)
      · show AR E d _ (38, [some (vA b), some (vI s), some (vI x), some (vI (m_std P s x)), some (vI e), some (vI k), z6, z7], [], (C, N9)) _
        refine AR.blk 3 (f' := (42, [some (vA b), some (vI s), some (vI x), some (vI (m_std P s x)), some (vI e), some (vI k), z6, z7], [vI k, vI x, vI s], (C, N9))) (fun _ => rfl) ?_
        refine AR.callS [vI s, vI x, vI k] (ev_X6_ahead (by omega) s x k (by omega) (by omega) (by omega)) rfl rfl rfl rfl rfl ?_
        show AR E d _ (45, [some (vA b), some (vI s), some (vI x), some (vI (m_std P s x)), some (vI e), some (vI k), z6, z7], [vI (m_ahead s x k)], (C, N9)) _
        refine AR.blk 3 (f' := (50, [some (vA b), some (vI s), some (vI x), some (vI (m_std P s x)), some (vI e), some (vI k), some (vI (m_ahead s x k)), z7], [vI (-1), vI (m_ahead s x k)], (C, N9))) (fun _ => rfl) ?_
        refine AR.ic_ne rfl (by omega) (fun c9 => ?_) (fun c9 => ?_)
        · show AR E d _ (56, [some (vA b), some (vI s), some (vI x), some (vI (m_std P s x)), some (vI e), some (vI k), some (vI (m_ahead s x k)), z7], [], (C, N9)) _
          refine AR.blk 2 (f' := (59, [some (vA b), some (vI s), some (vI x), some (vI (m_std P s x)), some (vI e), some (vI k), some (vI (m_ahead s x k)), z7], [vI (m_ahead s x k), vA b], (C, N9))) (fun _ => rfl) ?_
          refine AR.callV [vI (m_ahead s x k)] (ev_X0_pieceAt (by omega) hb hr9 hw9 (m_ahead s x k) (by omega)) hb.1 rfl rfl rfl rfl rfl ?_
          show AR E d _ (62, [some (vA b), some (vI s), some (vI x), some (vI (m_std P s x)), some (vI e), some (vI k), some (vI (m_ahead s x k)), z7], [vI ((m_sh P s (m_step x) (k - 1).toNat) (m_ahead s x k))], (C, N9)) _
          have f10 := hw9.1 (m_ahead s x k)
          refine AR.blk 4 (f' := (69, [some (vA b), some (vI s), some (vI x), some (vI (m_std P s x)), some (vI e), some (vI k), some (vI (m_ahead s x k)), some (vI ((m_sh P s (m_step x) (k - 1).toNat) (m_ahead s x k)))], [vI e, vI (m_ahead s x k), vA b], (C, N9))) (fun _ => rfl) ?_
          obtain ⟨_, hE11, N12, rfl, hr13, hf14⟩ := ev_X0_setPiece (E := E) (d := d) (by omega) hb hr9 hw9 (m_ahead s x k) e (by omega) (by omega)
          have whr13 := g_wB_set hw9 (show 0 ≤ (m_ahead s x k) ∧ (m_ahead s x k) < 36 by omega) (show -1 ≤ e ∧ e ≤ 3 by first | omega | (unfold m_tug at *; omega))
          have fhf14 := fun a ha => (hf14 a ha).trans (hf9 a ha)
          refine AR.callV [vI (m_ahead s x k), vI e] hE11 hb.1 rfl rfl rfl rfl rfl ?_
          show AR E d _ (72, [some (vA b), some (vI s), some (vI x), some (vI (m_std P s x)), some (vI e), some (vI k), some (vI (m_ahead s x k)), some (vI ((m_sh P s (m_step x) (k - 1).toNat) (m_ahead s x k)))], [], (C, N12)) _
          refine AR.blk 4 (f' := (23, [some (vA b), some (vI s), some (vI x), some (vI (m_std P s x)), some (vI ((m_sh P s (m_step x) (k - 1).toNat) (m_ahead s x k))), some (vI (k + 1)), some (vI (m_ahead s x k)), some (vI ((m_sh P s (m_step x) (k - 1).toNat) (m_ahead s x k)))], [], (C, N12))) (fun _ => rfl) ?_
          exact ih23 _ _ _ _ _ (by omega) (by omega) (by rw [show k + 1 - 1 = k by omega, show m_ahead s x k = s + k * m_step x by omega]; exact m_sh_far P s _ (m_step_or x) (k - 1).toNat k (by omega)) (by rw [show k + 1 - 1 = (k - 1) + 1 by omega, m_sh_S P s (m_step x) (k - 1) (by omega), show s + (k - 1 + 1) * m_step x = m_ahead s x k by (rw [show k - 1 + 1 = k by omega]; omega), ← i1]; exact hr13) fhf14
        · show AR E d _ (53, [some (vA b), some (vI s), some (vI x), some (vI (m_std P s x)), some (vI e), some (vI k), some (vI (m_ahead s x k)), z7], [], (C, N9)) _
          refine AR.blk 1 (f' := (55, [some (vA b), some (vI s), some (vI x), some (vI (m_std P s x)), some (vI e), some (vI k), some (vI (m_ahead s x k)), z7], [vI e], (C, N9))) (fun _ => rfl) ?_
          refine AR.endI rfl (.inl rfl) ?_
          refine ⟨_, congrArg (fun z => (some (vI z), (C, N9))) (show e = m_held P s x from (by unfold m_held; first | (rw [if_pos (by omega)]) | (rw [if_neg (by omega), i1, show k - 1 = m_room s x by omega]))), ?_, hf9⟩
          exact (show g_rB N9 b (m_sh P s (m_step x) (m_far P s x).toNat) n q p cl tn by rw [show m_far P s x = k - 1 by unfold m_far; omega]; exact hr9)

theorem ev_X0_carryRiver {d : Nat} (hd : 4 ≤ d) (hb : g_isB C b) (hr : g_rB N b P n q p cl tn) (hw : g_wB P n q p cl tn) (x : Int) (h0 : 0 ≤ x ∧ x < 4) : ∃ o_, Ev E d 21 [vA b, vI x] (C, N) o_ ∧ g_QB C N b (some (vI ((m_rv P n q cl x 6).2))) ((m_rv P n q cl x 6).1) n q p cl tn o_ := by
  obtain ⟨d, rfl⟩ : ∃ j, d = j + 1 := ⟨d - 1, by omega⟩
  refine Ev.introQ (M := ag_mX0_carryRiver) rfl rfl ?_
  show AR E d _ (0, [some (vA b), some (vI x), none, none, none], [], (C, N)) _
  refine AR.blk 4 (f' := (4, [some (vA b), some (vI x), some (vI 0), some (vI 0), none], [], (C, N))) (fun _ => rfl) ?_
  suffices H4 : ∀ (j : Nat) (c : Int) (k : Int) (z4 : Option av) (N9 : Nat → Int → Int), (6 - k).toNat < j → (0 ≤ k ∧ k ≤ 6) → (0 ≤ c ∧ c ≤ 2 * k) → (c = (m_rv P n q cl x k.toNat).2) → (g_rB N9 b (m_rv P n q cl x k.toNat).1 n q p cl tn) → (g_wB (m_rv P n q cl x k.toNat).1 n q p cl tn) → (∀ a, ¬ (b ≤ a ∧ a < b + 6) → N9 a = N a) → AR E d ag_mX0_carryRiver (4, [some (vA b), some (vI x), some (vI c), some (vI k), z4], [], (C, N9)) (g_QB C N b (some (vI ((m_rv P n q cl x 6).2))) ((m_rv P n q cl x 6).1) n q p cl tn) by
    exact H4 _ _ _ _ _ (Nat.lt_succ_self _) (by omega) (by omega) rfl hr hw (fun _ _ => rfl)
  intro j
  induction j with
  | zero => intro c k z4 N9 hj; exact absurd hj (Nat.not_lt_zero _)
  | succ j ih4 =>
    intro c k z4 N9 hj4 i0 i2 i1 hr9 hw9 hf9
    have y1 := fun hk => m_end_in 2 x k (by omega) hk
    have y2 := fun hk => m_end_in 3 x k (by omega) hk
    refine AR.blk 2 (f' := (7, [some (vA b), some (vI x), some (vI c), some (vI k), z4], [vI 6, vI k], (C, N9))) (fun _ => rfl) ?_
    refine AR.ic_ge rfl (by first | omega | exact y1 (by omega) | exact y2 (by omega)) (fun c1 => ?_) (fun c1 => ?_)
    · show AR E d _ (49, [some (vA b), some (vI x), some (vI c), some (vI k), z4], [], (C, N9)) _
      refine AR.blk 1 (f' := (50, [some (vA b), some (vI x), some (vI c), some (vI k), z4], [vI c], (C, N9))) (fun _ => rfl) ?_
      refine AR.endI rfl (.inl rfl) ?_
      refine ⟨_, congrArg (fun z => (some (vI z), (C, N9))) (show c = (m_rv P n q cl x 6).2 from (by rw [i1, show k = 6 by omega]; rfl)), ?_, hf9⟩
      (rw [show k = 6 by omega] at hr9; exact hr9)
    · show AR E d _ (10, [some (vA b), some (vI x), some (vI c), some (vI k), z4], [], (C, N9)) _
      refine AR.blk 4 (f' := (16, [some (vA b), some (vI x), some (vI c), some (vI k), some (vI 2)], [vI 3, vI 2], (C, N9))) (fun _ => rfl) ?_
      refine AR.blk 5 (f' := (24, [some (vA b), some (vI x), some (vI c), some (vI k), some (vI 2)], [vI k, vI x, vI 2, vA b], (C, N9))) (fun _ => rfl) ?_
      refine AR.callS [vI 2, vI x, vI k] (ev_X6_fromEnd (by omega) 2 x k (by first | omega | exact y1 (by omega) | exact y2 (by omega))) rfl rfl rfl rfl rfl ?_
      show AR E d _ (27, [some (vA b), some (vI x), some (vI c), some (vI k), some (vI 2)], [vI (m_end 2 x k), vA b], (C, N9)) _
      refine AR.blk 1 (f' := (28, [some (vA b), some (vI x), some (vI c), some (vI k), some (vI 2)], [vI x, vI (m_end 2 x k), vA b], (C, N9))) (fun _ => rfl) ?_
      obtain ⟨_, hE2, N3, rfl, hr4, hf5⟩ := ev_X0_drift (E := E) (d := d) (by omega) hb hr9 hw9 (m_end 2 x k) x (by first | omega | exact y1 (by omega) | exact y2 (by omega)) (by first | omega | exact y1 (by omega) | exact y2 (by omega))
      have whr4 := m_drP_w hw9 (show 0 ≤ (m_end 2 x k) ∧ (m_end 2 x k) < 36 by omega) (show 0 ≤ x ∧ x < 4 by omega)
      have fhf5 := fun a ha => (hf5 a ha).trans (hf9 a ha)
      refine AR.callV [vI (m_end 2 x k), vI x] hE2 hb.1 rfl rfl rfl rfl rfl ?_
      show AR E d _ (31, [some (vA b), some (vI x), some (vI c), some (vI k), some (vI 2)], [vI (m_drf ((m_rv P n q cl x k.toNat).1) n q cl (m_end 2 x k) x)], (C, N3)) _
      have f6 := m_drf_in ((m_rv P n q cl x k.toNat).1) n q cl (m_end 2 x k) x
      refine AR.if_eq rfl (by first | omega | exact y1 (by omega) | exact y2 (by omega)) (fun c7 => ?_) (fun c7 => ?_)
      · show AR E d _ (37, [some (vA b), some (vI x), some (vI c), some (vI k), some (vI 2)], [], (C, N3)) _
        refine AR.blk 4 (f' := (16, [some (vA b), some (vI x), some (vI c), some (vI k), some (vI 3)], [vI 3, vI 3], (C, N3))) (fun _ => rfl) ?_
        refine AR.blk 5 (f' := (24, [some (vA b), some (vI x), some (vI c), some (vI k), some (vI 3)], [vI k, vI x, vI 3, vA b], (C, N3))) (fun _ => rfl) ?_
        refine AR.callS [vI 3, vI x, vI k] (ev_X6_fromEnd (by omega) 3 x k (by first | omega | exact y1 (by omega) | exact y2 (by omega))) rfl rfl rfl rfl rfl ?_
        show AR E d _ (27, [some (vA b), some (vI x), some (vI c), some (vI k), some (vI 3)], [vI (m_end 3 x k), vA b], (C, N3)) _
        refine AR.blk 1 (f' := (28, [some (vA b), some (vI x), some (vI c), some (vI k), some (vI 3)], [vI x, vI (m_end 3 x k), vA b], (C, N3))) (fun _ => rfl) ?_
        obtain ⟨_, hE8, N9, rfl, hr10, hf11⟩ := ev_X0_drift (E := E) (d := d) (by omega) hb hr4 whr4 (m_end 3 x k) x (by first | omega | exact y1 (by omega) | exact y2 (by omega)) (by first | omega | exact y1 (by omega) | exact y2 (by omega))
        have whr10 := m_drP_w whr4 (show 0 ≤ (m_end 3 x k) ∧ (m_end 3 x k) < 36 by omega) (show 0 ≤ x ∧ x < 4 by omega)
        have fhf11 := fun a ha => (hf11 a ha).trans (fhf5 a ha)
        refine AR.callV [vI (m_end 3 x k), vI x] hE8 hb.1 rfl rfl rfl rfl rfl ?_
        show AR E d _ (31, [some (vA b), some (vI x), some (vI c), some (vI k), some (vI 3)], [vI (m_drf (m_drP ((m_rv P n q cl x k.toNat).1) n q cl (m_end 2 x k) x) n q cl (m_end 3 x k) x)], (C, N9)) _
        have f12 := m_drf_in (m_drP ((m_rv P n q cl x k.toNat).1) n q cl (m_end 2 x k) x) n q cl (m_end 3 x k) x
        refine AR.if_eq rfl (by first | omega | exact y1 (by omega) | exact y2 (by omega)) (fun c13 => ?_) (fun c13 => ?_)
        · show AR E d _ (37, [some (vA b), some (vI x), some (vI c), some (vI k), some (vI 3)], [], (C, N9)) _
          refine AR.blk 4 (f' := (16, [some (vA b), some (vI x), some (vI c), some (vI k), some (vI 4)], [vI 3, vI 4], (C, N9))) (fun _ => rfl) ?_
          refine AR.blk 3 (f' := (4, [some (vA b), some (vI x), some (vI c), some (vI (k + 1)), some (vI 4)], [], (C, N9))) (fun _ => rfl) ?_
          exact ih4 _ _ _ _ (by omega) (by omega) (by omega) (by rw [m_rv_S P n q cl x k (by omega)]; show _ = (m_rv P n q cl x k.toNat).2 + m_drf (m_rv P n q cl x k.toNat).1 n q cl (m_end 2 x k) x + m_drf (m_drP (m_rv P n q cl x k.toNat).1 n q cl (m_end 2 x k) x) n q cl (m_end 3 x k) x; omega) (by rw [m_rv_S P n q cl x k (by omega)]; exact hr10) (by rw [m_rv_S P n q cl x k (by omega)]; exact whr10) fhf11
        · show AR E d _ (34, [some (vA b), some (vI x), some (vI c), some (vI k), some (vI 3)], [], (C, N9)) _
          refine AR.blk 5 (f' := (16, [some (vA b), some (vI x), some (vI (c + 1)), some (vI k), some (vI 4)], [vI 3, vI 4], (C, N9))) (fun _ => rfl) ?_
          refine AR.blk 3 (f' := (4, [some (vA b), some (vI x), some (vI (c + 1)), some (vI (k + 1)), some (vI 4)], [], (C, N9))) (fun _ => rfl) ?_
          exact ih4 _ _ _ _ (by omega) (by omega) (by omega) (by rw [m_rv_S P n q cl x k (by omega)]; show _ = (m_rv P n q cl x k.toNat).2 + m_drf (m_rv P n q cl x k.toNat).1 n q cl (m_end 2 x k) x + m_drf (m_drP (m_rv P n q cl x k.toNat).1 n q cl (m_end 2 x k) x) n q cl (m_end 3 x k) x; omega) (by rw [m_rv_S P n q cl x k (by omega)]; exact hr10) (by rw [m_rv_S P n q cl x k (by omega)]; exact whr10) fhf11
      · show AR E d _ (34, [some (vA b), some (vI x), some (vI c), some (vI k), some (vI 2)], [], (C, N3)) _
        refine AR.blk 5 (f' := (16, [some (vA b), some (vI x), some (vI (c + 1)), some (vI k), some (vI 3)], [vI 3, vI 3], (C, N3))) (fun _ => rfl) ?_
        refine AR.blk 5 (f' := (24, [some (vA b), some (vI x), some (vI (c + 1)), some (vI k), some (vI 3)], [vI k, vI x, vI 3, vA b], (C, N3))) (fun _ => rfl) ?_
        refine AR.callS [vI 3, vI x, vI k] (ev_X6_fromEnd (by omega) 3 x k (by first | omega | exact y1 (by omega) | exact y2 (by omega))) rfl rfl rfl rfl rfl ?_
        show AR E d _ (27, [some (vA b), some (vI x), some (vI (c + 1)), some (vI k), some (vI 3)], [vI (m_end 3 x k), vA b], (C, N3)) _
        refine AR.blk 1 (f' := (28, [some (vA b), some (vI x), some (vI (c + 1)), some (vI k), some (vI 3)], [vI x, vI (m_end 3 x k), vA b], (C, N3))) (fun _ => rfl) ?_
        obtain ⟨_, hE14, N15, rfl, hr16, hf17⟩ := ev_X0_drift (E := E) (d := d) (by omega) hb hr4 whr4 (m_end 3 x k) x (by first | omega | exact y1 (by omega) | exact y2 (by omega)) (by first | omega | exact y1 (by omega) | exact y2 (by omega))
        have whr16 := m_drP_w whr4 (show 0 ≤ (m_end 3 x k) ∧ (m_end 3 x k) < 36 by omega) (show 0 ≤ x ∧ x < 4 by omega)
        have fhf17 := fun a ha => (hf17 a ha).trans (fhf5 a ha)
        refine AR.callV [vI (m_end 3 x k), vI x] hE14 hb.1 rfl rfl rfl rfl rfl ?_
        show AR E d _ (31, [some (vA b), some (vI x), some (vI (c + 1)), some (vI k), some (vI 3)], [vI (m_drf (m_drP ((m_rv P n q cl x k.toNat).1) n q cl (m_end 2 x k) x) n q cl (m_end 3 x k) x)], (C, N15)) _
        have f18 := m_drf_in (m_drP ((m_rv P n q cl x k.toNat).1) n q cl (m_end 2 x k) x) n q cl (m_end 3 x k) x
        refine AR.if_eq rfl (by first | omega | exact y1 (by omega) | exact y2 (by omega)) (fun c19 => ?_) (fun c19 => ?_)
        · show AR E d _ (37, [some (vA b), some (vI x), some (vI (c + 1)), some (vI k), some (vI 3)], [], (C, N15)) _
          refine AR.blk 4 (f' := (16, [some (vA b), some (vI x), some (vI (c + 1)), some (vI k), some (vI 4)], [vI 3, vI 4], (C, N15))) (fun _ => rfl) ?_
          refine AR.blk 3 (f' := (4, [some (vA b), some (vI x), some (vI (c + 1)), some (vI (k + 1)), some (vI 4)], [], (C, N15))) (fun _ => rfl) ?_
          exact ih4 _ _ _ _ (by omega) (by omega) (by omega) (by rw [m_rv_S P n q cl x k (by omega)]; show _ = (m_rv P n q cl x k.toNat).2 + m_drf (m_rv P n q cl x k.toNat).1 n q cl (m_end 2 x k) x + m_drf (m_drP (m_rv P n q cl x k.toNat).1 n q cl (m_end 2 x k) x) n q cl (m_end 3 x k) x; omega) (by rw [m_rv_S P n q cl x k (by omega)]; exact hr16) (by rw [m_rv_S P n q cl x k (by omega)]; exact whr16) fhf17
        · show AR E d _ (34, [some (vA b), some (vI x), some (vI (c + 1)), some (vI k), some (vI 3)], [], (C, N15)) _
          refine AR.blk 5 (f' := (16, [some (vA b), some (vI x), some (vI ((c + 1) + 1)), some (vI k), some (vI 4)], [vI 3, vI 4], (C, N15))) (fun _ => rfl) ?_
          refine AR.blk 3 (f' := (4, [some (vA b), some (vI x), some (vI ((c + 1) + 1)), some (vI (k + 1)), some (vI 4)], [], (C, N15))) (fun _ => rfl) ?_
          exact ih4 _ _ _ _ (by omega) (by omega) (by omega) (by rw [m_rv_S P n q cl x k (by omega)]; show _ = (m_rv P n q cl x k.toNat).2 + m_drf (m_rv P n q cl x k.toNat).1 n q cl (m_end 2 x k) x + m_drf (m_drP (m_rv P n q cl x k.toNat).1 n q cl (m_end 2 x k) x) n q cl (m_end 3 x k) x; omega) (by rw [m_rv_S P n q cl x k (by omega)]; exact hr16) (by rw [m_rv_S P n q cl x k (by omega)]; exact whr16) fhf17
end L2f
