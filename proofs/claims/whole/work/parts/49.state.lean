/-! LEVEL 2: states, and what the calls do to them -/
/-- a valid game -/
def g_vG (G : m_G) : Prop := g_wG G ∧ (G.2.1.2.1 = 0 → G.2.2.2 = [] ∧ m_cnt G.1.1 0 ≤ 8 ∧ m_cnt G.1.1 1 ≤ 8) ∧ (G.2.1.2.1 = 1 → (G.2.2.2.length : Int) = G.2.1.1 + 1 ∧ ∃ r, G.2.2.2 = m_key G.1.1 G.1.2.2.2.2.1 (G.2.1.1 % 2) :: r) ∧ (G.2.1.2.2.1 = 0 → G.2.1.1 ≤ 119 ∧ ∀ y, y ∈ m_D G.2.2.2 → y.2 ≤ 2) ∧ (∀ y, y ∈ m_D G.2.2.2 → y.2 ≤ 3) ∧ (∀ k, G.1.2.2.2.2.2 k ≤ G.2.1.1)
theorem m_add_memc (x : Int × Int) : ∀ (D : List ((Int × Int) × Int)) (y : (Int × Int) × Int), y ∈ m_add x D → y ∈ D ∨ y.2 = m_cn x D := by
  intro D
  induction D with
  | nil =>
    intro y hy
    rcases List.mem_cons.1 hy with e | e
    · rw [e]; exact .inr rfl
    · cases e
  | cons z r ih =>
    intro y hy
    by_cases e : z.1.1 = x.1 ∧ z.1.2 = x.2
    · rw [show m_add x (z :: r) = (z.1, z.2 + 1) :: r from if_pos e] at hy
      rw [show m_cn x (z :: r) = z.2 + 1 from if_pos e]
      rcases List.mem_cons.1 hy with e2 | e2
      · rw [e2]; exact .inr rfl
      · exact .inl (List.mem_cons_of_mem _ e2)
    · rw [show m_add x (z :: r) = z :: m_add x r from if_neg e] at hy
      rw [show m_cn x (z :: r) = m_cn x r from if_neg e]
      rcases List.mem_cons.1 hy with e2 | e2
      · rw [e2]; exact .inl List.mem_cons_self
      · rcases ih y e2 with e3 | e3
        · exact .inl (List.mem_cons_of_mem _ e3)
        · exact .inr e3
theorem m_cn_le (x : Int × Int) (c : Int) (hc : 0 ≤ c) : ∀ D : List ((Int × Int) × Int), (∀ y, y ∈ D → y.2 ≤ c) → m_cn x D ≤ c + 1 := by
  intro D
  induction D with
  | nil => intro _; show (1 : Int) ≤ c + 1; omega
  | cons z r ih =>
    intro h
    have h1 := h z List.mem_cons_self
    have h2 := ih (fun y hy => h y (List.mem_cons_of_mem _ hy))
    show (if z.1.1 = x.1 ∧ z.1.2 = x.2 then z.2 + 1 else m_cn x r) ≤ c + 1
    split <;> omega
theorem m_D_len : ∀ H : List (Int × Int), (m_D H).length ≤ H.length := by
  intro H
  have h1 := m_diff_D H
  have h2 := m_diff_in H
  omega
theorem m_stl_cn (P : Int → Int) (n : Int) (q cl : Int → Int) (t : Int) (x : Int × Int) (r : List (Int × Int)) : m_stl P n q cl t (x :: r) = 0 → t ≤ 119 ∧ m_cn x (m_D r) ≤ 2 := by
  unfold m_stl
  rw [m_tl_cn]
  omega
/-- the history grows by the position of now -/
theorem g_vH {P : Int → Int} {n : Int} {q cl : Int → Int} {t : Int} {x : Int × Int} {r : List (Int × Int)} (h : ∀ y, y ∈ m_D r → y.2 ≤ 2) : (m_stl P n q cl t (x :: r) = 0 → t ≤ 119 ∧ ∀ y, y ∈ m_D (x :: r) → y.2 ≤ 2) ∧ (∀ y, y ∈ m_D (x :: r) → y.2 ≤ 3) ∧ m_cn x (m_D r) ≤ 3 := by
  have h3 := m_cn_le x 2 (by omega) _ h
  refine ⟨fun e => ?_, fun y hy => ?_, h3⟩
  · have h1 := m_stl_cn P n q cl t x r e
    refine ⟨h1.1, fun y hy => ?_⟩
    rcases m_add_memc x (m_D r) y hy with e2 | e2
    · exact h y e2
    · omega
  · rcases m_add_memc x (m_D r) y hy with e2 | e2
    · have := h y e2; omega
    · omega
/-- the game behind a move -/
def m_go (G : m_G) (s x : Int) : m_G := ((m_gP G.1.1 G.1.2.1 G.1.2.2.1 G.1.2.2.2.1 G.1.2.2.2.2.1 G.1.2.2.2.2.2 G.2.1.1 s x, G.1.2.1, G.1.2.2.1, G.1.2.2.2.1, m_gcl G.1.1 G.1.2.1 G.1.2.2.1 G.1.2.2.2.1 G.1.2.2.2.2.1 G.1.2.2.2.2.2 G.2.1.1 s x, m_gtn G.1.1 G.1.2.1 G.1.2.2.1 G.1.2.2.2.1 G.1.2.2.2.2.1 G.1.2.2.2.2.2 G.2.1.1 s x), (G.2.1.1 + 1, G.2.1.2.1, m_stl (m_gP G.1.1 G.1.2.1 G.1.2.2.1 G.1.2.2.2.1 G.1.2.2.2.2.1 G.1.2.2.2.2.2 G.2.1.1 s x) G.1.2.1 G.1.2.2.1 (m_gcl G.1.1 G.1.2.1 G.1.2.2.1 G.1.2.2.2.1 G.1.2.2.2.2.1 G.1.2.2.2.2.2 G.2.1.1 s x) (G.2.1.1 + 1) (m_gH G.1.1 G.1.2.1 G.1.2.2.1 G.1.2.2.2.1 G.1.2.2.2.2.1 G.1.2.2.2.2.2 G.2.1.1 s x G.2.2.2), m_gca G.1.1 G.1.2.1 G.1.2.2.1 G.1.2.2.2.1 G.1.2.2.2.2.1 G.1.2.2.2.2.2 G.2.1.1 G.2.1.2.2.2 s x), (m_ggn G.1.1 G.2.2.1.1 s x, m_gpu G.1.1 G.2.1.1 G.2.2.1.2.1 s x, m_gmk G.1.1 G.2.1.1 G.2.2.1.2.2 s x), m_gH G.1.1 G.1.2.1 G.1.2.2.1 G.1.2.2.2.1 G.1.2.2.2.2.1 G.1.2.2.2.2.2 G.2.1.1 s x G.2.2.2)
/-- what a move answers -/
def m_goR (G : m_G) (s x : Int) : Int := m_stR (m_go G s x).1.1 G.1.2.1 G.1.2.2.1 (m_go G s x).1.2.2.2.2.1 (G.2.1.1 + 1) (m_go G s x).2.2.2
theorem m_gP_w {P : Int → Int} {n : Int} {q p cl tn : Int → Int} (hw : g_wB P n q p cl tn) (t : Int) {s x : Int} (hs : 0 ≤ s ∧ s < 36) (hx : 0 ≤ x ∧ x < 4) : g_wB (m_gP P n q p cl tn t s x) n q p (m_gcl P n q p cl tn t s x) (m_gtn P n q p cl tn t s x) := by
  have h1 : g_wB (m_c1 P s x) n q p cl tn := m_mov_w (m_proP_w hw x hs) hs hx
  have h0 := hw.2.2.1
  have h2 := m_trn_w h1 (t + 1) n.toNat (by omega)
  unfold m_gP
  split
  · exact m_tdP_w h2 (t + 1)
  · exact h2
theorem m_gtn_in {P : Int → Int} {n : Int} {q p cl tn : Int → Int} (hw : g_wB P n q p cl tn) (t : Int) (s x k : Int) : m_gtn P n q p cl tn t s x k ≤ tn k + 1 := ((m_trn_in (m_c1 P s x) q p (t + 1) cl tn hw.2.2.2.2.1 n.toNat) k).2.1.2
theorem m_gpu_2 {P : Int → Int} {t : Int} {pu : Int → Int} {s x : Int} (h : m_own (P s) = t % 2) : m_gpu2 P pu s x = m_gpu P t pu s x := by
  unfold m_gpu2 m_gpu
  rw [h]
theorem m_gmk_2 {P : Int → Int} {t : Int} {mk : Int → Int} {s x : Int} (h : m_own (P s) = t % 2) : m_gmk2 P mk s x = m_gmk P t mk s x := by
  unfold m_gmk2 m_gmk
  rw [h]
/-- a move that can be made -/
def g_can (G : m_G) (s x : Int) : Prop := (0 ≤ s ∧ s < 36) ∧ (0 ≤ x ∧ x < 4) ∧ G.2.1.2.1 = 1 ∧ G.2.1.2.2.1 = 0 ∧ m_own (G.1.1 s) = G.2.1.1 % 2 ∧ m_cause G.1.1 G.1.2.1 G.1.2.2.1 G.1.2.2.2.2.1 s x = 0
theorem g_can_of {G : m_G} {s x : Int} (hv : g_vG G) (h : g_can G s x) : 1 ≤ m_room s x ∧ G.1.1 s ≠ -1 ∧ G.2.1.1 ≤ 119 ∧ G.2.2.2.length ≤ 120 := by
  obtain ⟨h1, h2, h3, h4, h5, h6⟩ := h
  have a1 := m_room_in s x h1
  have a2 := hv.2.2.1 h3
  have a3 := (hv.2.2.2.1 h4).1
  have a4 := m_own_in _ (hv.1.1.1 s)
  unfold m_cause at h6
  refine ⟨by omega, by omega, a3, by omega⟩
theorem g_vG_go {G : m_G} {s x : Int} (hv : g_vG G) (h : g_can G s x) : g_vG (m_go G s x) := by
  have hc := g_can_of hv h
  obtain ⟨h1, h2, h3, h4, h5, h6⟩ := h
  obtain ⟨⟨P, n, q, p, cl, tn⟩, ⟨t, bg, en, ca⟩, ⟨gn, pu, mk⟩, H⟩ := G
  obtain ⟨⟨v1, v2, v3⟩, v4, v5, v6, v7, v8⟩ := hv
  dsimp only at *
  have w1 := m_gP_w v1 t h1 h2
  have w2 := v6 h4
  have w3 := v5 h3
  have w4 := g_vH (P := m_gP P n q p cl tn t s x) (n := n) (q := q) (cl := m_gcl P n q p cl tn t s x) (t := t + 1) (x := m_key (m_gP P n q p cl tn t s x) (m_gcl P n q p cl tn t s x) ((t + 1) % 2)) w2.2
  have w5 := m_stl_in (m_gP P n q p cl tn t s x) n q (m_gcl P n q p cl tn t s x) (t + 1) (m_gH P n q p cl tn t s x H)
  have w6 : g_wS (t + 1) 1 0 (m_gca P n q p cl tn t ca s x) (m_ggn P gn s x) (m_gpu2 P pu s x) (m_gmk2 P mk s x) := m_wS_go (by subst h3; subst h4; exact v3) hc.2.2.1 h1
  rw [m_gpu_2 h5, m_gmk_2 h5] at w6
  refine ⟨⟨w1, ?_, ?_⟩, ?_, ?_, ?_, ?_, ?_⟩
  · exact g_wH_cons v2 hc.2.2.2 (m_key_in _ _ _ w1.1 (fun k => (w1.2.2.2.2.1 k).1) (by omega))
  · refine ⟨w6.1, .inr h3, w5, w6.2.2.2.1, w6.2.2.2.2.1, fun e => ?_⟩
    have e2 : bg = 0 := e
    omega
  · intro e
    have e2 : bg = 0 := e
    omega
  · intro _
    refine ⟨?_, _, rfl⟩
    show (((m_key (m_gP P n q p cl tn t s x) (m_gcl P n q p cl tn t s x) ((t + 1) % 2) :: H).length : Nat) : Int) = t + 1 + 1
    rw [List.length_cons]
    omega
  · exact w4.1
  · exact w4.2.1
  · intro k
    have z := m_gtn_in v1 t s x k
    have z2 := v8 k
    show m_gtn P n q p cl tn t s x k ≤ t + 1
    omega
/-- the game begun -/
def m_bgn (G : m_G) : m_G := (G.1, (G.2.1.1, 1, m_stl G.1.1 G.1.2.1 G.1.2.2.1 G.1.2.2.2.2.1 G.2.1.1 (m_key G.1.1 G.1.2.2.2.2.1 (G.2.1.1 % 2) :: G.2.2.2), G.2.1.2.2.2), G.2.2.1, m_key G.1.1 G.1.2.2.2.2.1 (G.2.1.1 % 2) :: G.2.2.2)
theorem g_vG_bgn {G : m_G} (hv : g_vG G) (h : G.2.1.2.1 = 0) : g_vG (m_bgn G) := by
  obtain ⟨⟨P, n, q, p, cl, tn⟩, ⟨t, bg, en, ca⟩, ⟨gn, pu, mk⟩, H⟩ := G
  obtain ⟨⟨v1, v2, v3⟩, v4, v5, v6, v7, v8⟩ := hv
  dsimp only at *
  have v9 := (v3.2.2.2.2.2 h)
  have w0 := v4 h
  have w5 := m_stl_in P n q cl t (m_key P cl (t % 2) :: H)
  obtain ⟨rfl, w00⟩ := w0
  have w4 := g_vH (P := P) (n := n) (q := q) (cl := cl) (t := t) (x := m_key P cl (t % 2)) (r := []) (fun y hy => by cases hy)
  refine ⟨⟨v1, ?_, ?_⟩, ?_, ?_, ?_, ?_, ?_⟩
  · exact g_wH_cons v2 (by decide) (m_key_in _ _ _ v1.1 (fun k => (v1.2.2.2.2.1 k).1) (by omega))
  · exact ⟨v3.1, .inr rfl, w5, v3.2.2.2.1, v3.2.2.2.2.1, fun e => by cases e⟩
  · intro e; cases e
  · intro _
    refine ⟨?_, _, rfl⟩
    show (1 : Int) = t + 1
    omega
  · exact w4.1
  · exact w4.2.1
  · exact v8
/-- a piece more -/
def m_putG (G : m_G) (s c : Int) : m_G := ((m_set G.1.1 s c, G.1.2), G.2)
theorem m_cnt_set (P : Int → Int) (s c w : Int) (hs : 0 ≤ s ∧ s < 36) (h : m_own (P s) = -1) (hw : w ≠ -1) : m_cnt (m_set P s c) w = m_cnt P w + (if m_own c = w then 1 else 0) := by
  unfold m_cnt
  have key : ∀ j : Nat, m_sum (fun k => if m_own (m_set P s c k) = w then 1 else 0) j = m_sum (fun k => if m_own (P k) = w then 1 else 0) j + (if s < (j : Int) then (if m_own c = w then 1 else 0) else 0) := by
    intro j
    induction j with
    | zero =>
      show (0 : Int) = 0 + _
      rw [if_neg (by omega)]
      rfl
    | succ j ih =>
      show m_sum (fun k => if m_own (m_set P s c k) = w then 1 else 0) j + (if m_own (m_set P s c (j : Int)) = w then 1 else 0) = m_sum (fun k => if m_own (P k) = w then 1 else 0) j + (if m_own (P (j : Int)) = w then 1 else 0) + _
      rw [ih]
      unfold m_set
      by_cases e : (j : Int) = s
      · rw [if_pos e, e, h]
        omega
      · rw [if_neg e]
        omega
  have := key 36
  rw [this, if_pos (by omega)]
theorem g_vG_put {G : m_G} {s c : Int} (hv : g_vG G) (h : G.2.1.2.1 = 0) (hs : 0 ≤ s ∧ s < 36) (hP : G.1.1 s = -1) (hc : 0 ≤ c ∧ c < 4) (hl : m_cnt G.1.1 (c / 2) < 8) : g_vG (m_putG G s c) := by
  obtain ⟨⟨P, n, q, p, cl, tn⟩, ⟨t, bg, en, ca⟩, ⟨gn, pu, mk⟩, H⟩ := G
  obtain ⟨⟨v1, v2, v3⟩, v4, v5, v6, v7, v8⟩ := hv
  dsimp only at *
  have w0 := v4 h
  have ho : m_own (P s) = -1 := by rw [hP]; rfl
  have o1 : m_own c = c / 2 := by unfold m_own; omega
  have c0 := m_cnt_set P s c 0 hs ho (by omega)
  have c1 := m_cnt_set P s c 1 hs ho (by omega)
  refine ⟨⟨g_wB_set v1 hs (by omega), v2, v3⟩, fun _ => ⟨w0.1, ?_, ?_⟩, fun e => ?_, v6, v7, v8⟩
  · show m_cnt (m_set P s c) 0 ≤ 8
    rw [c0, o1]
    have e : c / 2 = 0 ∨ c / 2 = 1 := by omega
    rcases e with e | e <;> rw [e] at hl ⊢ <;> omega
  · show m_cnt (m_set P s c) 1 ≤ 8
    rw [c1, o1]
    have e : c / 2 = 0 ∨ c / 2 = 1 := by omega
    rcases e with e | e <;> rw [e] at hl ⊢ <;> omega
  · have e2 : bg = 1 := e
    omega
/-- a lock more -/
def m_lokG (G : m_G) (s y : Int) : m_G := ((G.1.1, G.1.2.1 + 1, m_set G.1.2.2.1 G.1.2.1 s, m_set G.1.2.2.2.1 G.1.2.1 y, m_set G.1.2.2.2.2.1 G.1.2.1 0, m_set G.1.2.2.2.2.2 G.1.2.1 0), G.2)
theorem g_wB_lok {P : Int → Int} {n : Int} {q p cl tn : Int → Int} (hw : g_wB P n q p cl tn) {s y : Int} (hs : 0 ≤ s ∧ s < 36) (hy : 2 ≤ y ∧ y ≤ 5) (hn : n < 4) : g_wB P (n + 1) (m_set q n s) (m_set p n y) (m_set cl n 0) (m_set tn n 0) := by
  obtain ⟨a1, a2, a3, a4, a5, a6⟩ := hw
  refine ⟨a1, a2, by omega, fun k h0 h1 => ?_, fun k => ?_, fun k hk => ?_⟩
  · unfold m_set
    by_cases e : k = n
    · rw [if_pos e, if_pos e]; exact ⟨hs, hy⟩
    · rw [if_neg e, if_neg e]; exact a4 k h0 (by omega)
  · unfold m_set
    by_cases e : k = n
    · rw [if_pos e, if_pos e]; exact ⟨.inl rfl, Int.le_refl 0⟩
    · rw [if_neg e, if_neg e]; exact a5 k
  · unfold m_set
    rw [if_neg (by omega), if_neg (by omega)]
    exact a6 k (by omega)
theorem g_vG_lok {G : m_G} {s y : Int} (hv : g_vG G) (h : G.2.1.2.1 = 0) (hs : 0 ≤ s ∧ s < 36) (hy : 2 ≤ y ∧ y ≤ 5) (hn : G.1.2.1 < 4) : g_vG (m_lokG G s y) := by
  obtain ⟨⟨P, n, q, p, cl, tn⟩, ⟨t, bg, en, ca⟩, ⟨gn, pu, mk⟩, H⟩ := G
  obtain ⟨⟨v1, v2, v3⟩, v4, v5, v6, v7, v8⟩ := hv
  dsimp only at *
  have t0 := v3.1
  refine ⟨⟨g_wB_lok v1 hs hy hn, v2, v3⟩, v4, fun e => ?_, v6, v7, fun k => ?_⟩
  · have e2 : bg = 1 := e
    omega
  · show m_set tn n 0 k ≤ t
    unfold m_set
    have := v8 k
    split <;> omega
/-- what is refused, and why: the code (0: nothing is) and the refusal -/
def m_beF (G : m_G) (F : m_F) (s used most : Int) : Int × m_F := if G.2.1.2.1 = 1 then (-3, (2, G.2.1.1, -4, -4, -4)) else if G.1.1 s ≠ -1 then (-3, (5, s, -4, -4, -4)) else if m_la G.1.2.1 G.1.2.2.1 s ≠ -1 then (-3, (6, m_la G.1.2.1 G.1.2.2.1 s, -4, -4, -4)) else if used < most then (0, F) else (-3, (1, most, -4, -4, -4))
def m_mvF (G : m_G) (F : m_F) (s y k : Int) : Int × m_F := if ¬ (0 ≤ s ∧ s < 36) then (-1, F) else if ¬ (0 ≤ y ∧ y < 4) then (-2, F) else if G.2.1.2.1 = 0 then (-3, (3, 0, k, -4, -4)) else if G.2.1.2.2.1 ≠ 0 then (-3, (4, G.2.1.2.2.1, k, -4, -4)) else if m_own (G.1.1 s) ≠ G.2.1.1 % 2 then (-3, (8, G.2.1.1 % 2, k, -4, -4)) else if m_cause G.1.1 G.1.2.1 G.1.2.2.1 G.1.2.2.2.2.1 s y ≠ 0 then (-3, (9, y, k, m_cause G.1.1 G.1.2.1 G.1.2.2.1 G.1.2.2.2.2.1 s y, m_causeD G.1.1 (m_cause G.1.1 G.1.2.1 G.1.2.2.1 G.1.2.2.2.2.1 s y) s y)) else (0, F)
theorem m_mvF_can {G : m_G} {F : m_F} {s y k : Int} (hv : g_vG G) (h : (m_mvF G F s y k).1 = 0) : g_can G s y ∧ (m_mvF G F s y k).2 = F := by
  have h1 := hv.1.2.2.2.1
  unfold m_mvF at h ⊢
  unfold g_can
  by_cases e1 : ¬ (0 ≤ s ∧ s < 36)
  · rw [if_pos e1] at h; cases h
  rw [if_neg e1] at h ⊢
  by_cases e2 : ¬ (0 ≤ y ∧ y < 4)
  · rw [if_pos e2] at h; cases h
  rw [if_neg e2] at h ⊢
  by_cases e3 : G.2.1.2.1 = 0
  · rw [if_pos e3] at h; cases h
  rw [if_neg e3] at h ⊢
  by_cases e4 : G.2.1.2.2.1 ≠ 0
  · rw [if_pos e4] at h; cases h
  rw [if_neg e4] at h ⊢
  by_cases e5 : m_own (G.1.1 s) ≠ G.2.1.1 % 2
  · rw [if_pos e5] at h; cases h
  rw [if_neg e5] at h ⊢
  by_cases e6 : m_cause G.1.1 G.1.2.1 G.1.2.2.1 G.1.2.2.2.2.1 s y ≠ 0
  · rw [if_pos e6] at h; cases h
  rw [if_neg e6] at h ⊢
  exact ⟨⟨by omega, by omega, by omega, by omega, by omega, by omega⟩, rfl⟩
/-- the moves of a text -/
def m_run (G : m_G) (F : m_F) : List (Int × Int) → Int → Int × m_F × m_G
  | [], _ => (0, F, G)
  | y :: r, k => if (m_mvF G F y.1 y.2 k).1 ≠ 0 then ((m_mvF G F y.1 y.2 k).1, (m_mvF G F y.1 y.2 k).2, G) else m_run (m_go G y.1 y.2) F r (k + 1)
/-- game, undo (latest first), snapshot, refusal, text, line -/
abbrev m_S : Type := m_G × List m_G × Option m_G × m_F × (Int × (Int → Int)) × (Int × (Int → Int))
def o_put (S : m_S) (w k s : Int) : Int × m_S := if ¬ (0 ≤ s ∧ s < 36) then (-1, S) else if ¬ ((0 ≤ w ∧ w < 2) ∧ 0 ≤ k ∧ k < 2) then (-2, S) else if (m_beF S.1 S.2.2.2.1 s (m_cnt S.1.1.1 w) 8).1 ≠ 0 then (-3, (S.1, S.2.1, S.2.2.1, (m_beF S.1 S.2.2.2.1 s (m_cnt S.1.1.1 w) 8).2, S.2.2.2.2)) else (m_cnt (m_set S.1.1.1 s (w * 2 + k)) w, (m_putG S.1 s (w * 2 + k), (S.1 :: S.2.1).take 8, S.2.2))
def o_lock (S : m_S) (s y : Int) : Int × m_S := if ¬ (0 ≤ s ∧ s < 36) then (-1, S) else if ¬ (2 ≤ y ∧ y ≤ 5) then (-2, S) else if (m_beF S.1 S.2.2.2.1 s S.1.1.2.1 4).1 ≠ 0 then (-3, (S.1, S.2.1, S.2.2.1, (m_beF S.1 S.2.2.2.1 s S.1.1.2.1 4).2, S.2.2.2.2)) else (S.1.1.2.1, (m_lokG S.1 s y, (S.1 :: S.2.1).take 8, S.2.2))
def o_begin (S : m_S) : Int × m_S := if S.1.2.1.2.1 = 1 then (-3, (S.1, S.2.1, S.2.2.1, (2, S.1.2.1.1, -4, -4, -4), S.2.2.2.2)) else if m_cnt S.1.1.1 0 = 0 then (-3, (S.1, S.2.1, S.2.2.1, (7, 0, -4, -4, -4), S.2.2.2.2)) else if m_cnt S.1.1.1 1 = 0 then (-3, (S.1, S.2.1, S.2.2.1, (7, 1, -4, -4, -4), S.2.2.2.2)) else (m_mvs S.1.1.1 S.1.1.2.1 S.1.1.2.2.1 S.1.1.2.2.2.2.1 S.1.2.1.1 1 (m_bgn S.1).2.1.2.2.1, (m_bgn S.1, (S.1 :: S.2.1).take 8, S.2.2))
def o_move (S : m_S) (s y : Int) : Int × m_S := if (m_mvF S.1 S.2.2.2.1 s y (-4)).1 ≠ 0 then ((m_mvF S.1 S.2.2.2.1 s y (-4)).1, (S.1, S.2.1, S.2.2.1, (m_mvF S.1 S.2.2.2.1 s y (-4)).2, S.2.2.2.2)) else (m_goR S.1 s y, (m_go S.1 s y, (S.1 :: S.2.1).take 8, S.2.2))
def m_mvsG (G : m_G) : Int := m_mvs G.1.1 G.1.2.1 G.1.2.2.1 G.1.2.2.2.2.1 G.2.1.1 G.2.1.2.1 G.2.1.2.2.1
def m_opG (G : m_G) : Int → Int := m_open G.1.1 G.1.2.1 G.1.2.2.1 G.1.2.2.2.2.1 G.2.1.1 G.2.1.2.1 G.2.1.2.2.1
def m_wayf (G : m_G) (k : Int) : Int := if m_opG G k = 1 then m_mvsG (m_go G (k / 4) (k % 4)) else 0
def m_ways (G : m_G) (w : Int) : Int := if w = 1 then m_mvsG G else if w ≠ 2 then -2 else m_sum (m_wayf G) 144
def o_desc (S : m_S) (r : Int) : Int × m_S := if ¬ (0 ≤ r ∧ r < 6) then (-1, S) else (6, (S.1, S.2.1, S.2.2.1, S.2.2.2.1, S.2.2.2.2.1, (6, fun j => m_sign S.1.1.1 S.1.1.2.1 S.1.1.2.2.1 S.1.1.2.2.2.2.1 (r * 6 + j))))
def o_app (S : m_S) (c : Int) : Int × m_S := if 32 ≤ c ∧ c ≤ 126 ∧ S.2.2.2.2.1.1 < 70 then (S.2.2.2.2.1.1 + 1, (S.1, S.2.1, S.2.2.1, S.2.2.2.1, (S.2.2.2.2.1.1 + 1, m_set S.2.2.2.2.1.2 S.2.2.2.2.1.1 c), S.2.2.2.2.2)) else (-2, S)
def m_psT (S : m_S) : Int × List (Int × Int) := m_ps S.2.2.2.2.1.2 S.2.2.2.2.1.1 S.2.2.2.2.1.1.toNat 0 0 0 0 []
def o_read (S : m_S) : Int × m_S := if (m_psT S).1 ≠ -1 then (-100 - (m_psT S).1, (S.1, S.2.1, S.2.2.1, S.2.2.2.1, (0, S.2.2.2.2.1.2), S.2.2.2.2.2)) else if (m_run S.1 S.2.2.2.1 (m_psT S).2 0).1 ≠ 0 then ((if (m_run S.1 S.2.2.2.1 (m_psT S).2 0).1 = -3 then -3 else -2), (S.1, S.2.1, S.2.2.1, (m_run S.1 S.2.2.2.1 (m_psT S).2 0).2.1, (0, S.2.2.2.2.1.2), S.2.2.2.2.2)) else (((m_psT S).2.length : Int), ((m_run S.1 S.2.2.2.1 (m_psT S).2 0).2.2, (S.1 :: S.2.1).take 8, S.2.2.1, (m_run S.1 S.2.2.2.1 (m_psT S).2 0).2.1, (0, S.2.2.2.2.1.2), S.2.2.2.2.2))
def o_undo (S : m_S) : Int × m_S := match S.2.1 with
  | [] => (-4, S)
  | G :: r => ((r.length : Int), (G, r, S.2.2))
def o_save (S : m_S) : Int × m_S := (S.1.2.1.1, (S.1, S.2.1, some S.1, S.2.2.2))
def o_rest (S : m_S) : Int × m_S := match S.2.2.1 with
  | none => (-4, S)
  | some G => (G.2.1.1, (G, [], S.2.2))
