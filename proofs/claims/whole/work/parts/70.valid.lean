/-! LEVEL 2: valid states stay valid; answers are ints -/
def g_vF (F : m_F) : Prop := ag_in F.1 ∧ ag_in F.2.1 ∧ ag_in F.2.2.1 ∧ ag_in F.2.2.2.1 ∧ ag_in F.2.2.2.2
def g_vT (S : m_S) : Prop := g_vS S ∧ g_vF S.2.2.2.1 ∧ (∀ j, 0 ≤ j → j < S.2.2.2.2.2.1 → 0 ≤ S.2.2.2.2.2.2 j ∧ S.2.2.2.2.2.2 j ≤ 200) ∧ S.2.1.length ≤ 8
theorem g_vF_mk {a b c d e : Int} (h : ag_in a ∧ ag_in b ∧ ag_in c ∧ ag_in d ∧ ag_in e) : g_vF (a, b, c, d, e) := h
theorem g_vF_be {G : m_G} {F : m_F} {s u z : Int} (hv : g_vG G) (hF : g_vF F) (hs : ag_in s) (hz : ag_in z) : g_vF (m_beF G F s u z).2 := by
  have h1 := hv.1.2.2.1
  have h2 := m_la_in G.1.2.1 G.1.2.2.1 s hv.1.1.2.2.1.1
  unfold m_beF
  split
  · exact g_vF_mk (by omega)
  · split
    · exact g_vF_mk (by omega)
    · split
      · exact g_vF_mk (by omega)
      · split
        · exact hF
        · exact g_vF_mk (by omega)
theorem m_causeD_in (P : Int → Int) (c s x : Int) (hs : 0 ≤ s ∧ s < 36) (hx : 0 ≤ x ∧ x < 4) : -1 ≤ m_causeD P c s x ∧ m_causeD P c s x ≤ 100 := by
  have h1 := m_std_in P s x hs
  have h2 := m_ah s x (m_std P s x + 1) hs hx (by omega)
  have h3 := m_tug_in (P s)
  unfold m_causeD
  omega
theorem g_vF_mv {G : m_G} {F : m_F} {s y k : Int} (hv : g_vG G) (hF : g_vF F) (hk : ag_in k) : g_vF (m_mvF G F s y k).2 := by
  have h1 := hv.1.2.2.1
  have h2 := hv.1.2.2.2.2.1
  unfold m_mvF
  split
  · exact hF
  · rename_i e1
    split
    · exact hF
    · rename_i e2
      have h3 := m_cause_in G.1.1 G.1.2.1 G.1.2.2.1 G.1.2.2.2.2.1 s y
      have h4 := m_causeD_in G.1.1 (m_cause G.1.1 G.1.2.1 G.1.2.2.1 G.1.2.2.2.2.1 s y) s y (by omega) (by omega)
      split
      · exact g_vF_mk (by omega)
      · split
        · exact g_vF_mk (by omega)
        · split
          · exact g_vF_mk (by omega)
          · split
            · exact g_vF_mk (by omega)
            · exact hF
theorem m_run_v : ∀ (M : List (Int × Int)) (G : m_G) (F : m_F) (k : Int), g_vG G → g_vF F → 0 ≤ k → k + M.length ≤ 1000 → g_vG (m_run G F M k).2.2 ∧ g_vF (m_run G F M k).2.1 ∧ (-3 ≤ (m_run G F M k).1 ∧ (m_run G F M k).1 ≤ 0) := by
  intro M
  induction M with
  | nil => intro G F k hv hF h0 h1; exact ⟨hv, hF, by show (-3 : Int) ≤ 0 ∧ (0 : Int) ≤ 0; omega⟩
  | cons y r ih =>
    intro G F k hv hF h0 h1
    rw [List.length_cons] at h1
    have hi := m_mvF_in G F y.1 y.2 k
    show g_vG (if (m_mvF G F y.1 y.2 k).1 ≠ 0 then ((m_mvF G F y.1 y.2 k).1, (m_mvF G F y.1 y.2 k).2, G) else m_run (m_go G y.1 y.2) F r (k + 1)).2.2 ∧ g_vF (if (m_mvF G F y.1 y.2 k).1 ≠ 0 then ((m_mvF G F y.1 y.2 k).1, (m_mvF G F y.1 y.2 k).2, G) else m_run (m_go G y.1 y.2) F r (k + 1)).2.1 ∧ (-3 ≤ (if (m_mvF G F y.1 y.2 k).1 ≠ 0 then ((m_mvF G F y.1 y.2 k).1, (m_mvF G F y.1 y.2 k).2, G) else m_run (m_go G y.1 y.2) F r (k + 1)).1 ∧ (if (m_mvF G F y.1 y.2 k).1 ≠ 0 then ((m_mvF G F y.1 y.2 k).1, (m_mvF G F y.1 y.2 k).2, G) else m_run (m_go G y.1 y.2) F r (k + 1)).1 ≤ 0)
    by_cases e : (m_mvF G F y.1 y.2 k).1 ≠ 0
    · rw [if_pos e]
      refine ⟨hv, g_vF_mv hv hF (by omega), ?_⟩
      show -3 ≤ (m_mvF G F y.1 y.2 k).1 ∧ (m_mvF G F y.1 y.2 k).1 ≤ 0
      omega
    · rw [if_neg e]
      exact ih _ _ _ (g_vG_go hv (m_mvF_can hv (show (m_mvF G F y.1 y.2 k).1 = 0 by omega)).1) hF (by omega) (by omega)
theorem g_vT_F {S : m_S} (h : g_vT S) {F : m_F} (hF : g_vF F) : g_vT (S.1, S.2.1, S.2.2.1, F, S.2.2.2.2) := ⟨h.1, hF, h.2.2⟩
theorem g_vT_k {S : m_S} (h : g_vT S) {G : m_G} (hG : g_vG G) : g_vT (G, (S.1 :: S.2.1).take 8, S.2.2) := by
  refine ⟨⟨hG, fun G2 hi => ?_, h.1.2.2⟩, h.2.1, h.2.2.1, by show ((S.1 :: S.2.1).take 8).length ≤ 8; rw [List.length_take]; omega⟩
  rcases List.mem_cons.1 (List.mem_of_mem_take hi) with e | e
  · rw [e]; exact h.1.1
  · exact h.1.2.1 G2 e
theorem o_put_v {S : m_S} (h : g_vT S) {w k s : Int} (hs : ag_in s) : g_vT (o_put S w k s).2 ∧ ag_in (o_put S w k s).1 := by
  unfold o_put
  split
  · exact ⟨h, (by decide : ag_in (-1))⟩
  · split
    · exact ⟨h, (by decide : ag_in (-2))⟩
    · rename_i e1 e2
      split
      · exact ⟨g_vT_F h (g_vF_be h.1.1 h.2.1 hs (by omega)), (by decide : ag_in (-3))⟩
      · rename_i e3
        have hb := (m_beF_can (show (m_beF S.1 S.2.2.2.1 s (m_cnt S.1.1.1 w) 8).1 = 0 by omega)).1
        have hb2 := h.1.1.1.2.2.2.1
        have hc := m_cnt_in (m_set S.1.1.1 s (w * 2 + k)) w
        refine ⟨g_vT_k h (g_vG_put h.1.1 (by omega) (by omega) hb.2.1 (by omega) (by rw [show (w * 2 + k) / 2 = w by omega]; exact hb.2.2.2)), ?_⟩
        show ag_in (m_cnt (m_set S.1.1.1 s (w * 2 + k)) w)
        omega
theorem o_lock_v {S : m_S} (h : g_vT S) {s y : Int} (hs : ag_in s) : g_vT (o_lock S s y).2 ∧ ag_in (o_lock S s y).1 := by
  unfold o_lock
  split
  · exact ⟨h, (by decide : ag_in (-1))⟩
  · split
    · exact ⟨h, (by decide : ag_in (-2))⟩
    · rename_i e1 e2
      split
      · exact ⟨g_vT_F h (g_vF_be h.1.1 h.2.1 hs (by omega)), (by decide : ag_in (-3))⟩
      · rename_i e3
        have hb := (m_beF_can (show (m_beF S.1 S.2.2.2.1 s S.1.1.2.1 4).1 = 0 by omega)).1
        have hb2 := h.1.1.1.2.2.2.1
        have hn := h.1.1.1.1.2.2.1
        refine ⟨g_vT_k h (g_vG_lok h.1.1 (by omega) (by omega) (by omega) hb.2.2.2), ?_⟩
        show ag_in S.1.1.2.1
        omega
theorem o_begin_v {S : m_S} (h : g_vT S) : g_vT (o_begin S).2 ∧ ag_in (o_begin S).1 := by
  have h1 := h.1.1.1.2.2.1
  have h2 := h.1.1.1.2.2.2.1
  unfold o_begin
  split
  · exact ⟨g_vT_F h (g_vF_mk (by omega)), (by decide : ag_in (-3))⟩
  · rename_i e1
    split
    · exact ⟨g_vT_F h (g_vF_mk (by omega)), (by decide : ag_in (-3))⟩
    · split
      · exact ⟨g_vT_F h (g_vF_mk (by omega)), (by decide : ag_in (-3))⟩
      · have hm := m_mvs_in S.1.1.1 S.1.1.2.1 S.1.1.2.2.1 S.1.1.2.2.2.2.1 S.1.2.1.1 1 (m_bgn S.1).2.1.2.2.1
        refine ⟨g_vT_k h (g_vG_bgn h.1.1 (by omega)), ?_⟩
        show ag_in (m_mvs S.1.1.1 S.1.1.2.1 S.1.1.2.2.1 S.1.1.2.2.2.2.1 S.1.2.1.1 1 (m_bgn S.1).2.1.2.2.1)
        omega
theorem o_move_v {S : m_S} (h : g_vT S) {s y : Int} : g_vT (o_move S s y).2 ∧ ag_in (o_move S s y).1 := by
  have hi := m_mvF_in S.1 S.2.2.2.1 s y (-4)
  unfold o_move
  split
  · refine ⟨g_vT_F h (g_vF_mv h.1.1 h.2.1 (by omega)), ?_⟩
    show ag_in (m_mvF S.1 S.2.2.2.1 s y (-4)).1
    omega
  · rename_i e
    have hc := (m_mvF_can h.1.1 (show (m_mvF S.1 S.2.2.2.1 s y (-4)).1 = 0 by omega)).1
    have hg := m_goR_in h.1.1 hc
    refine ⟨g_vT_k h (g_vG_go h.1.1 hc), ?_⟩
    show ag_in (m_goR S.1 s y)
    omega
theorem o_desc_v {S : m_S} (h : g_vT S) {r : Int} : g_vT (o_desc S r).2 ∧ ag_in (o_desc S r).1 := by
  unfold o_desc
  split
  · exact ⟨h, (by decide : ag_in (-1))⟩
  · refine ⟨⟨⟨h.1.1, h.1.2.1, h.1.2.2.1, h.1.2.2.2.1, h.1.2.2.2.2.1, (by decide : (0 : Int) ≤ 6 ∧ (6 : Int) ≤ 6)⟩, h.2.1, fun j _ _ => ?_, h.2.2.2⟩, (by decide : ag_in 6)⟩
    have := m_sign_in S.1.1.1 S.1.1.2.1 S.1.1.2.2.1 S.1.1.2.2.2.2.1 (r * 6 + j)
    show 0 ≤ m_sign S.1.1.1 S.1.1.2.1 S.1.1.2.2.1 S.1.1.2.2.2.2.1 (r * 6 + j) ∧ m_sign S.1.1.1 S.1.1.2.1 S.1.1.2.2.1 S.1.1.2.2.2.2.1 (r * 6 + j) ≤ 200
    omega
theorem o_app_v {S : m_S} (h : g_vT S) {c : Int} : g_vT (o_app S c).2 ∧ ag_in (o_app S c).1 := by
  have hl := h.1.2.2.2.1
  unfold o_app
  split
  · rename_i e
    refine ⟨⟨⟨h.1.1, h.1.2.1, h.1.2.2.1, ?_, fun j z0 z1 => ?_, h.1.2.2.2.2.2⟩, h.2.1, h.2.2.1, h.2.2.2⟩, ?_⟩
    · show 0 ≤ S.2.2.2.2.1.1 + 1 ∧ S.2.2.2.2.1.1 + 1 ≤ 70
      omega
    · have z2 : j < S.2.2.2.2.1.1 + 1 := z1
      show 32 ≤ m_set S.2.2.2.2.1.2 S.2.2.2.2.1.1 c j ∧ m_set S.2.2.2.2.1.2 S.2.2.2.2.1.1 c j ≤ 126
      unfold m_set
      by_cases q : j = S.2.2.2.2.1.1
      · rw [if_pos q]; omega
      · rw [if_neg q]; exact h.1.2.2.2.2.1 j z0 (by omega)
    · show ag_in (S.2.2.2.2.1.1 + 1)
      omega
  · exact ⟨h, (by decide : ag_in (-2))⟩
theorem g_vT_t {S : m_S} (h : g_vT S) : g_vT (S.1, S.2.1, S.2.2.1, S.2.2.2.1, (0, S.2.2.2.2.1.2), S.2.2.2.2.2) :=
  ⟨⟨h.1.1, h.1.2.1, h.1.2.2.1, (by decide : (0 : Int) ≤ 0 ∧ (0 : Int) ≤ 70), fun j z0 z1 => by have z2 : j < 0 := z1; omega, h.1.2.2.2.2.2⟩, h.2⟩
theorem o_read_v {S : m_S} (h : g_vT S) : g_vT (o_read S).2 ∧ ag_in (o_read S).1 := by
  have hl := h.1.2.2.2.1
  have hp := m_ps_in S.2.2.2.2.1.2 S.2.2.2.2.1.1 hl
  have hr := m_run_v (m_psT S).2 S.1 S.2.2.2.1 0 h.1.1 h.2.1 (by omega) (by unfold m_psT; omega)
  unfold o_read
  split
  · refine ⟨g_vT_t h, ?_⟩
    show ag_in (-100 - (m_psT S).1)
    unfold m_psT
    omega
  · split
    · refine ⟨g_vT_F (g_vT_t h) hr.2.1, ?_⟩
      show ag_in (if (m_run S.1 S.2.2.2.1 (m_psT S).2 0).1 = -3 then -3 else -2)
      omega
    · refine ⟨g_vT_F (g_vT_k (g_vT_t h) hr.1) hr.2.1, ?_⟩
      show ag_in ((m_psT S).2.length : Int)
      unfold m_psT
      omega
theorem o_undo_v {S : m_S} (h : g_vT S) : g_vT (o_undo S).2 ∧ ag_in (o_undo S).1 := by
  obtain ⟨G, U, R⟩ := S
  cases U with
  | nil => exact ⟨h, (by decide : ag_in (-4))⟩
  | cons G2 r =>
    have hl : (G2 :: r).length ≤ 8 := h.2.2.2
    rw [List.length_cons] at hl
    refine ⟨⟨⟨h.1.2.1 G2 List.mem_cons_self, fun G3 h3 => h.1.2.1 G3 (List.mem_cons_of_mem _ h3), h.1.2.2⟩, h.2.1, h.2.2.1, (show r.length ≤ 8 by omega)⟩, ?_⟩
    show ag_in (r.length : Int)
    omega
theorem o_save_v {S : m_S} (h : g_vT S) : g_vT (o_save S).2 ∧ ag_in (o_save S).1 := by
  have h1 := h.1.1.1.2.2.1
  refine ⟨⟨⟨h.1.1, h.1.2.1, fun G e => ?_, h.1.2.2.2⟩, h.2⟩, ?_⟩
  · have e2 : some S.1 = some G := e
    cases e2
    exact h.1.1
  · show ag_in S.1.2.1.1
    omega
theorem o_rest_v {S : m_S} (h : g_vT S) : g_vT (o_rest S).2 ∧ ag_in (o_rest S).1 := by
  obtain ⟨G, U, V, R⟩ := S
  cases V with
  | none => exact ⟨h, (by decide : ag_in (-4))⟩
  | some G2 =>
    have hg : g_vG G2 := h.1.2.2.1 G2 rfl
    have h1 := hg.1.2.2.1
    refine ⟨⟨⟨hg, fun G3 h3 => (by cases h3), h.1.2.2⟩, h.2.1, h.2.2.1, Nat.zero_le 8⟩, ?_⟩
    show ag_in G2.2.1.1
    omega
/-! the answers of what only reads -/
theorem m_pk_in (f : Int → Int) (place : Int) : ∀ (j : Nat) (k n : Int), 0 ≤ k → -1 ≤ m_pk f place j k n ∧ m_pk f place j k n ≤ k + j := by
  intro j
  induction j with
  | zero => intro k n hk; show (-1 : Int) ≤ -1 ∧ (-1 : Int) ≤ k + 0; omega
  | succ j ih =>
    intro k n hk
    have h1 := ih (k + 1) (n + 1) (by omega)
    have h2 := ih (k + 1) n (by omega)
    unfold m_pk
    split
    · split
      · omega
      · omega
    · omega
theorem m_fst_in (f : Int → Int) : ∀ (j : Nat) (k : Int), 0 ≤ k → -4 ≤ m_fst f j k ∧ m_fst f j k ≤ k + j := by
  intro j
  induction j with
  | zero => intro k hk; show (-4 : Int) ≤ -4 ∧ (-4 : Int) ≤ k + 0; omega
  | succ j ih =>
    intro k hk
    have h1 := ih (k + 1) (by omega)
    unfold m_fst
    split
    · omega
    · omega
theorem m_sum_c (f : Int → Int) (c : Int) (h : ∀ k, 0 ≤ f k ∧ f k ≤ c) : ∀ n : Nat, 0 ≤ m_sum f n ∧ m_sum f n ≤ c * n := by
  intro n
  induction n with
  | zero => exact ⟨Int.le_refl 0, by show (0 : Int) ≤ c * 0; omega⟩
  | succ n ih =>
    have h1 := h n
    show 0 ≤ m_sum f n + f n ∧ m_sum f n + f n ≤ c * ((n + 1 : Nat) : Int)
    rw [Int.natCast_succ, Int.mul_add, Int.mul_one]
    omega
theorem m_ways_in (G : m_G) (w : Int) : ag_in (m_ways G w) := by
  have h1 := m_mvs_in G.1.1 G.1.2.1 G.1.2.2.1 G.1.2.2.2.2.1 G.2.1.1 G.2.1.2.1 G.2.1.2.2.1
  have h2 := m_sum_c (m_wayf G) 144 (fun k => by
    unfold m_wayf
    split
    · exact m_mvs_in _ _ _ _ _ _ _
    · exact ⟨Int.le_refl 0, by decide⟩) 144
  unfold m_ways
  split
  · show ag_in (m_mvs G.1.1 G.1.2.1 G.1.2.2.1 G.1.2.2.2.2.1 G.2.1.1 G.2.1.2.1 G.2.1.2.2.1)
    omega
  · split
    · decide
    · omega
theorem m_sq_in {G : m_G} (hv : g_vG G) (s w : Int) : ag_in (m_sq G.1.1 G.1.2.1 G.1.2.2.1 G.1.2.2.2.2.1 s w) := by
  have h1 := hv.1.1.1 s
  have h2 := m_la_in G.1.2.1 G.1.2.2.1 s hv.1.1.2.2.1.1
  have h3 := m_cl_in G.1.2.1 G.1.2.2.1 G.1.2.2.2.2.1 s (fun k => (hv.1.1.2.2.2.2.1 k).1)
  unfold m_sq
  omega
theorem m_lko_in {G : m_G} (hv : g_vG G) (l w : Int) : ag_in (m_lko G.1.2.1 G.1.2.2.1 G.1.2.2.2.1 G.1.2.2.2.2.1 G.1.2.2.2.2.2 l w) := by
  unfold m_lko
  split
  · decide
  · rename_i e
    have h1 := hv.1.1.2.2.2.1 l (by omega) (by omega)
    have h2 := hv.1.1.2.2.2.2.1 l
    have h3 := hv.2.2.2.2.2 l
    have h4 := hv.1.2.2.1
    unfold m_lk
    omega
theorem m_sd_in {G : m_G} (hv : g_vG G) (w y : Int) : ag_in (m_sd G.1.1 G.2.2.1.1 G.2.2.1.2.1 G.2.2.1.2.2 w y) := by
  have h1 := m_cnt_in G.1.1 w
  have h2 := m_tugs_in G.1.1 w
  have h3 := hv.1.2.2.2.2.2.2.1 w
  have h4 := hv.1.2.2.1
  unfold m_sd
  omega
theorem m_wp_in (P : Int → Int) (n : Int) (q cl : Int → Int) (s x : Int) : ag_in (m_wp P n q cl s x) := by
  unfold m_wp
  split
  · decide
  · rename_i e
    have h1 := m_std_in P s x (by omega)
    omega
theorem m_tin_in {G : m_G} (hv : g_vG G) (l : Int) : ag_in (m_tin G.1.2.1 G.1.2.2.2.1 G.2.1.1 l) := by
  unfold m_tin
  split
  · decide
  · rename_i e
    have h1 := hv.1.1.2.2.2.1 l (by omega) (by omega)
    have h2 := Int.emod_nonneg G.2.1.1 (show G.1.2.2.2.1 l ≠ 0 by omega)
    have h3 := Int.emod_lt_of_pos G.2.1.1 (show 0 < G.1.2.2.2.1 l by omega)
    omega
theorem m_tdi_in {G : m_G} (hv : g_vG G) (x : Int) : ag_in (m_tdi G.2.1.1 x) := by
  have h1 := hv.1.2.2.1
  unfold m_tdi
  omega
theorem m_accS_in {S : m_S} (h : g_vT S) (w : Int) : ag_in (m_accS S w) := by
  have hv := h.1.1
  have a0 := hv.1.2.2.1
  have a1 := hv.1.2.2.2.1
  have a2 := hv.1.2.2.2.2.1
  have a3 := hv.1.2.2.2.2.2.1
  have b0 := hv.1.2.2.2.2.2.2.1 0
  have b1 := hv.1.2.2.2.2.2.2.1 1
  have c0 := m_cnt_in S.1.1.1 0
  have c1 := m_cnt_in S.1.1.1 1
  have d0 := hv.1.1.2.2.1
  have e0 := hv.1.1.2.2.2.2.1 0
  have e1 := hv.1.1.2.2.2.2.1 1
  have e2 := hv.1.1.2.2.2.2.1 2
  have e3 := hv.1.1.2.2.2.2.1 3
  have f0 := hv.2.2.2.2.2 0
  have f1 := hv.2.2.2.2.2 1
  have f2 := hv.2.2.2.2.2 2
  have f3 := hv.2.2.2.2.2 3
  have g0 := m_diff_in S.1.2.2.2
  have g1 := hv.1.2.1.1
  have i0 := h.1.2.2.2.1
  have i1 := h.2.2.2
  unfold m_accS m_acc
  omega
theorem m_meanR_in (P : Int → Int) : ag_in (m_meanR P) := by
  have h := m_mean_b P 36 (by omega)
  unfold m_meanR
  split
  · decide
  · exact (m_mean_ok (by omega) (by omega)).2.2.2
theorem m_rep_eq {G : m_G} (hv : g_vG G) : (if G.2.1.2.1 = 0 then 0 else m_at (m_key G.1.1 G.1.2.2.2.2.1 (G.2.1.1 % 2)) (m_D G.2.2.2)) = m_tl G.2.2.2 := by
  have h1 := hv.1.2.2.2.1
  by_cases e : G.2.1.2.1 = 0
  · rw [if_pos e, (hv.2.1 e).1]
    rfl
  · rw [if_neg e]
    obtain ⟨h2, r, h3⟩ := hv.2.2.1 (by omega)
    rw [h3]
    show m_at _ (m_add _ (m_D r)) = _
    rw [m_at_add, m_tl_cn]
theorem m_rep_ix {G : m_G} (hv : g_vG G) (e : G.2.1.2.1 ≠ 0) : m_ix (m_key G.1.1 G.1.2.2.2.2.1 (G.2.1.1 % 2)) (m_D G.2.2.2) ≠ (m_D G.2.2.2).length := by
  have h1 := hv.1.2.2.2.1
  obtain ⟨h2, r, h3⟩ := hv.2.2.1 (by omega)
  rw [h3]
  exact m_ix_add _ _
theorem m_mx_0 : ∀ D : List ((Int × Int) × Int), 0 ≤ m_mx D := by
  intro D
  induction D with
  | nil => exact Int.le_refl 0
  | cons y r ih =>
    show 0 ≤ (if m_mx r < y.2 then y.2 else m_mx r)
    omega
theorem m_most_eq (H : List (Int × Int)) : m_fm 0 (m_D H) = m_max H := by
  have h := m_mx_0 (m_D H)
  rw [m_fm_mx _ 0 (Int.le_refl 0), m_max_D]
  omega
