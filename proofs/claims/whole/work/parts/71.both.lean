/-! LEVEL 2: each call, of both -/
def g_CS (E : Nat × (Int → Int)) (C : List ag_C) (d yX yM : Nat) (as : List av) (S : m_S) : Prop := ∃ (a : Int) (S' : m_S), g_vT S' ∧ ag_in a ∧ (1 ≤ 2 → ∀ N, g_rX N 0 S → ∃ o, Ev E d yX (vA 0 :: as) (C, N) o ∧ ∃ N' : Nat → Int → Int, o = (some (vI a), (C, N')) ∧ g_rX N' 0 S' ∧ ∀ k, ¬ (0 ≤ k ∧ k < 0 + 152) → N' k = N k) ∧ (1 ≤ 2 → ∀ N, g_rY N 152 S → ∃ o, Ev E d yM (vA 152 :: as) (C, N) o ∧ ∃ N' : Nat → Int → Int, o = (some (vI a), (C, N')) ∧ g_rY N' 152 S' ∧ ∀ k, ¬ (152 ≤ k ∧ k < 152 + 9) → N' k = N k)
theorem m_sg_in {S : m_S} (h : g_vT S) (i : Int) : ag_in (m_sg S.2.2.2.2.2.1 S.2.2.2.2.2.2 i) := by
  unfold m_sg
  split
  · have := h.2.2.1 i (by omega) (by omega)
    omega
  · decide
theorem m_rf_in {F : m_F} (h : g_vF F) (w : Int) : ag_in (m_rf F w) := by
  obtain ⟨h1, h2, h3, h4, h5⟩ := h
  unfold m_rf
  omega
section CS
variable {E : Nat × (Int → Int)} {C : List ag_C} {S : m_S} {d : Nat}

theorem cs_put (hd : 20 ≤ d) (hx : g_isX C 0) (hm : g_isM C 152) (hv : g_vT S) (w k s : Int) (h0 : ag_in w) (h1 : ag_in k) (h2 : ag_in s) : g_CS E C d 60 120 [vI w, vI k, vI s] S := by
  obtain ⟨G, U, V, F, ⟨L, T⟩, ⟨l, ln⟩⟩ := S
  exact ⟨_, _, (o_put_v hv h2 (w := w) (k := k)).1, (o_put_v hv h2 (w := w) (k := k)).2, fun _ N hX => ev_X6_put (by omega) hx hX hv.1 w k s h0 h1 h2, fun _ N hY => ev_X7_put (by omega) hm hY hv.1 w k s h0 h1 h2⟩

theorem cs_lock (hd : 20 ≤ d) (hx : g_isX C 0) (hm : g_isM C 152) (hv : g_vT S) (s y : Int) (h0 : ag_in s) (h1 : ag_in y) : g_CS E C d 61 121 [vI s, vI y] S := by
  obtain ⟨G, U, V, F, ⟨L, T⟩, ⟨l, ln⟩⟩ := S
  exact ⟨_, _, (o_lock_v hv h0 (y := y)).1, (o_lock_v hv h0 (y := y)).2, fun _ N hX => ev_X6_lock (by omega) hx hX hv.1 s y h0 h1, fun _ N hY => ev_X7_lock (by omega) hm hY hv.1 s y h0 h1⟩

theorem cs_begin (hd : 20 ≤ d) (hx : g_isX C 0) (hm : g_isM C 152) (hv : g_vT S) : g_CS E C d 62 122 [] S := by
  obtain ⟨G, U, V, F, ⟨L, T⟩, ⟨l, ln⟩⟩ := S
  exact ⟨_, _, (o_begin_v hv).1, (o_begin_v hv).2, fun _ N hX => ev_X6_begin (by omega) hx hX hv.1  , fun _ N hY => ev_X7_begin (by omega) hm hY hv.1  ⟩

theorem cs_move (hd : 20 ≤ d) (hx : g_isX C 0) (hm : g_isM C 152) (hv : g_vT S) (s y : Int) (h0 : ag_in s) (h1 : ag_in y) : g_CS E C d 63 139 [vI s, vI y] S := by
  obtain ⟨G, U, V, F, ⟨L, T⟩, ⟨l, ln⟩⟩ := S
  exact ⟨_, _, (o_move_v hv (s := s) (y := y)).1, (o_move_v hv (s := s) (y := y)).2, fun _ N hX => ev_X6_move (by omega) hx hX hv.1 s y h0 h1, fun _ N hY => ev_X7_move (by omega) hm hY hv.1 s y h0 h1⟩

theorem cs_describe (hd : 20 ≤ d) (hx : g_isX C 0) (hm : g_isM C 152) (hv : g_vT S) (r : Int) (h0 : ag_in r) : g_CS E C d 77 156 [vI r] S := by
  obtain ⟨G, U, V, F, ⟨L, T⟩, ⟨l, ln⟩⟩ := S
  exact ⟨_, _, (o_desc_v hv (r := r)).1, (o_desc_v hv (r := r)).2, fun _ N hX => ev_X6_describe (by omega) hx hX hv.1 r h0, fun _ N hY => ev_X7_describe (by omega) hm hY hv.1 r h0⟩

theorem cs_read (hd : 20 ≤ d) (hx : g_isX C 0) (hm : g_isM C 152) (hv : g_vT S) : g_CS E C d 80 162 [] S := by
  obtain ⟨G, U, V, F, ⟨L, T⟩, ⟨l, ln⟩⟩ := S
  exact ⟨_, _, (o_read_v hv).1, (o_read_v hv).2, fun _ N hX => ev_X6_read (by omega) hx hX hv.1  , fun _ N hY => ev_X7_read (by omega) hm hY hv.1  ⟩

theorem cs_save (hd : 20 ≤ d) (hx : g_isX C 0) (hm : g_isM C 152) (hv : g_vT S) : g_CS E C d 85 169 [] S := by
  obtain ⟨G, U, V, F, ⟨L, T⟩, ⟨l, ln⟩⟩ := S
  exact ⟨_, _, (o_save_v hv).1, (o_save_v hv).2, fun _ N hX => ev_X6_save (by omega) hx hX hv.1  , fun _ N hY => ev_X7_save (by omega) hm hY hv.1  ⟩

theorem cs_append (hd : 20 ≤ d) (hx : g_isX C 0) (hm : g_isM C 152) (hv : g_vT S) (c : Int) (h0 : ag_in c) : g_CS E C d 79 158 [vI c] S := by
  obtain ⟨G, U, V, F, ⟨L, T⟩, ⟨l, ln⟩⟩ := S
  refine ⟨_, _, (o_app_v hv (c := c)).1, (o_app_v hv (c := c)).2, fun _ N hX => ?_, fun _ N hY => ev_X7_append (by omega) hm hY hv.1 c h0⟩
  by_cases e : 32 ≤ c ∧ c ≤ 126 ∧ L < 70
  · exact ev_X6_append1 (by omega) hx hX hv.1 c h0 e
  · exact ev_X6_append0 (by omega) hx hX hv.1 c h0 e

theorem cs_undo (hd : 20 ≤ d) (hx : g_isX C 0) (hm : g_isM C 152) (hv : g_vT S) : g_CS E C d 84 168 [] S := by
  obtain ⟨G, U, V, F, ⟨L, T⟩, ⟨l, ln⟩⟩ := S
  refine ⟨_, _, (o_undo_v hv).1, (o_undo_v hv).2, ?_⟩
  cases U with
  | nil => exact ⟨fun _ N hX => ev_X6_undo0 (by omega) hx hX hv.1, fun _ N hY => ev_X7_undo0 (by omega) hm hY hv.1⟩
  | cons G9 U => exact ⟨fun _ N hX => ev_X6_undo1 (by omega) hx hX hv.1, fun _ N hY => ev_X7_undo1 (by omega) hm hY hv.1⟩

theorem cs_restore (hd : 20 ≤ d) (hx : g_isX C 0) (hm : g_isM C 152) (hv : g_vT S) : g_CS E C d 86 170 [] S := by
  obtain ⟨G, U, V, F, ⟨L, T⟩, ⟨l, ln⟩⟩ := S
  refine ⟨_, _, (o_rest_v hv).1, (o_rest_v hv).2, ?_⟩
  cases V with
  | none => exact ⟨fun _ N hX => ev_X6_restore0 (by omega) hx hX hv.1, fun _ N hY => ev_X7_restore0 (by omega) hm hY hv.1⟩
  | some G9 => exact ⟨fun _ N hX => ev_X6_restore1 (by omega) hx hX hv.1, fun _ N hY => ev_X7_restore1 (by omega) hm hY hv.1⟩

theorem cs_ways (hd : 20 ≤ d) (hx : g_isX C 0) (hm : g_isM C 152) (hv : g_vT S) (w : Int) (h0 : ag_in w) : g_CS E C d 74 153 [vI w] S := by
  obtain ⟨G, U, V, F, ⟨L, T⟩, ⟨l, ln⟩⟩ := S
  exact ⟨m_ways G w, _, hv, m_ways_in G w, fun _ N hX => ev_X6_ways (by omega) hx hX hv.1 w h0, fun _ N hY => ev_X7_ways (by omega) hm hY hv.1 w h0⟩

theorem cs_squareOf (hd : 20 ≤ d) (hx : g_isX C 0) (hm : g_isM C 152) (hv : g_vT S) (s w : Int) (h0 : ag_in s) (h1 : ag_in w) : g_CS E C d 64 140 [vI s, vI w] S := by
  exact ⟨m_sq S.1.1.1 S.1.1.2.1 S.1.1.2.2.1 S.1.1.2.2.2.2.1 s w, S, hv, m_sq_in hv.1.1 s w, fun _ N hX => ⟨_, ev_X6_squareOf (by omega) hx hX.1.1 hX.1.2.1 hX.1.2.2 hv.1.1.1.1 hv.1.1.1.2.1 hv.1.1.1.2.2  s w h0 h1, N, rfl, hX, fun _ _ => rfl⟩, fun _ N hY => ⟨_, ev_X7_squareOf (by omega) hm hY.1.1 hv.1.1.1.1  s w h0 h1, N, rfl, hY, fun _ _ => rfl⟩⟩

theorem cs_lockOf (hd : 20 ≤ d) (hx : g_isX C 0) (hm : g_isM C 152) (hv : g_vT S) (l w : Int) (h0 : ag_in l) (h1 : ag_in w) : g_CS E C d 65 141 [vI l, vI w] S := by
  exact ⟨m_lko S.1.1.2.1 S.1.1.2.2.1 S.1.1.2.2.2.1 S.1.1.2.2.2.2.1 S.1.1.2.2.2.2.2 l w, S, hv, m_lko_in hv.1.1 l w, fun _ N hX => ⟨_, ev_X6_lockOf (by omega) hx hX.1.1 hX.1.2.1 hX.1.2.2 hv.1.1.1.1 hv.1.1.1.2.1 hv.1.1.1.2.2  l w h0 h1, N, rfl, hX, fun _ _ => rfl⟩, fun _ N hY => ⟨_, ev_X7_lockOf (by omega) hm hY.1.1 hv.1.1.1.1  l w h0 h1, N, rfl, hY, fun _ _ => rfl⟩⟩

theorem cs_sideOf (hd : 20 ≤ d) (hx : g_isX C 0) (hm : g_isM C 152) (hv : g_vT S) (w y : Int) (h0 : ag_in w) (h1 : ag_in y) : g_CS E C d 66 142 [vI w, vI y] S := by
  exact ⟨m_sd S.1.1.1 S.1.2.2.1.1 S.1.2.2.1.2.1 S.1.2.2.1.2.2 w y, S, hv, m_sd_in hv.1.1 w y, fun _ N hX => ⟨_, ev_X6_sideOf (by omega) hx hX.1.1 hX.1.2.1 hX.1.2.2 hv.1.1.1.1 hv.1.1.1.2.1 hv.1.1.1.2.2  w y h0 h1, N, rfl, hX, fun _ _ => rfl⟩, fun _ N hY => ⟨_, ev_X7_sideOf (by omega) hm hY.1.1 hv.1.1.1.1 hY.1.2.1 hv.1.1.1.2.2  w y h0 h1, N, rfl, hY, fun _ _ => rfl⟩⟩

theorem cs_moves (hd : 20 ≤ d) (hx : g_isX C 0) (hm : g_isM C 152) (hv : g_vT S) : g_CS E C d 67 145 [] S := by
  exact ⟨m_mvs S.1.1.1 S.1.1.2.1 S.1.1.2.2.1 S.1.1.2.2.2.2.1 S.1.2.1.1 S.1.2.1.2.1 S.1.2.1.2.2.1, S, hv, (by have := m_mvs_in S.1.1.1 S.1.1.2.1 S.1.1.2.2.1 S.1.1.2.2.2.2.1 S.1.2.1.1 S.1.2.1.2.1 S.1.2.1.2.2.1; omega), fun _ N hX => ⟨_, ev_X6_moves (by omega) hx hX.1.1 hX.1.2.1 hX.1.2.2 hv.1.1.1.1 hv.1.1.1.2.1 hv.1.1.1.2.2   , N, rfl, hX, fun _ _ => rfl⟩, fun _ N hY => ⟨_, ev_X7_moves (by omega) hm hY.1.1 hv.1.1.1.1 hY.1.2.1 hv.1.1.1.2.2   , N, rfl, hY, fun _ _ => rfl⟩⟩

theorem cs_movesAgain (hd : 20 ≤ d) (hx : g_isX C 0) (hm : g_isM C 152) (hv : g_vT S) : g_CS E C d 68 146 [] S := by
  exact ⟨m_sum (m_agn S.1.1.1 S.1.1.2.1 S.1.1.2.2.1 S.1.1.2.2.2.2.1 S.1.2.1.1 S.1.2.1.2.1 S.1.2.1.2.2.1) 4, S, hv, (by have := m_sum_c (m_agn S.1.1.1 S.1.1.2.1 S.1.1.2.2.1 S.1.1.2.2.2.2.1 S.1.2.1.1 S.1.2.1.2.1 S.1.2.1.2.2.1) 36 (m_agn_in S.1.1.1 S.1.1.2.1 S.1.1.2.2.1 S.1.1.2.2.2.2.1 S.1.2.1.1 S.1.2.1.2.1 S.1.2.1.2.2.1) 4; omega), fun _ N hX => ⟨_, ev_X6_movesAgain (by omega) hx hX.1.1 hX.1.2.1 hX.1.2.2 hv.1.1.1.1 hv.1.1.1.2.1 hv.1.1.1.2.2   , N, rfl, hX, fun _ _ => rfl⟩, fun _ N hY => ⟨_, ev_X7_movesAgain (by omega) hm hY.1.1 hv.1.1.1.1 hY.1.2.1 hv.1.1.1.2.2   , N, rfl, hY, fun _ _ => rfl⟩⟩

theorem cs_moveAt (hd : 20 ≤ d) (hx : g_isX C 0) (hm : g_isM C 152) (hv : g_vT S) (w : Int) (h0 : ag_in w) : g_CS E C d 69 147 [vI w] S := by
  exact ⟨m_pk (m_open S.1.1.1 S.1.1.2.1 S.1.1.2.2.1 S.1.1.2.2.2.2.1 S.1.2.1.1 S.1.2.1.2.1 S.1.2.1.2.2.1) w 144 0 0, S, hv, (by have := m_pk_in (m_open S.1.1.1 S.1.1.2.1 S.1.1.2.2.1 S.1.1.2.2.2.2.1 S.1.2.1.1 S.1.2.1.2.1 S.1.2.1.2.2.1) w 144 0 0 (Int.le_refl 0); omega), fun _ N hX => ⟨_, ev_X6_moveAt (by omega) hx hX.1.1 hX.1.2.1 hX.1.2.2 hv.1.1.1.1 hv.1.1.1.2.1 hv.1.1.1.2.2  w h0, N, rfl, hX, fun _ _ => rfl⟩, fun _ N hY => ⟨_, ev_X7_moveAt (by omega) hm hY.1.1 hv.1.1.1.1 hY.1.2.1 hv.1.1.1.2.2  w h0, N, rfl, hY, fun _ _ => rfl⟩⟩

theorem cs_repeats (hd : 20 ≤ d) (hx : g_isX C 0) (hm : g_isM C 152) (hv : g_vT S) : g_CS E C d 70 148 [] S := by
  exact ⟨m_tl S.1.2.2.2, S, hv, (by have h1 := m_tl_in S.1.2.2.2; have h2 := hv.1.1.1.2.1.1; omega), fun _ N hX => ⟨_, ev_X6_repeats (by omega) hx hX.1.1 hX.1.2.1 hX.1.2.2 hv.1.1.1.1 hv.1.1.1.2.1 hv.1.1.1.2.2   , N, rfl, hX, fun _ _ => rfl⟩, fun _ N hY => ⟨_, (by have z := ev_X7_repeats (E := E) (d := d) (by omega) hm hY.1.1 hv.1.1.1.1 hY.1.2.1 hv.1.1.1.2.2 hY.1.2.2.1 (Nat.le_trans (m_D_len _) hv.1.1.1.2.1.1) (fun e => m_rep_ix hv.1.1 e); rw [m_rep_eq hv.1.1] at z; exact z), N, rfl, hY, fun _ _ => rfl⟩⟩

theorem cs_mostRepeats (hd : 20 ≤ d) (hx : g_isX C 0) (hm : g_isM C 152) (hv : g_vT S) : g_CS E C d 71 149 [] S := by
  exact ⟨m_max S.1.2.2.2, S, hv, (by have h1 := m_max_in S.1.2.2.2; have h2 := hv.1.1.1.2.1.1; omega), fun _ N hX => ⟨_, ev_X6_mostRepeats (by omega) hx hX.1.1 hX.1.2.1 hX.1.2.2 hv.1.1.1.1 hv.1.1.1.2.1 hv.1.1.1.2.2   , N, rfl, hX, fun _ _ => rfl⟩, fun _ N hY => ⟨_, (by have z := ev_X7_mostRepeats (E := E) (d := d) (by omega) hm hY.1.1 hv.1.1.1.1 hY.1.2.1 hv.1.1.1.2.2 hY.1.2.2.1 (Nat.le_trans (m_D_len _) hv.1.1.1.2.1.1) (m_D_C hv.1.1); rw [m_most_eq] at z; exact z), N, rfl, hY, fun _ _ => rfl⟩⟩

theorem cs_wouldPush (hd : 20 ≤ d) (hx : g_isX C 0) (hm : g_isM C 152) (hv : g_vT S) (s y : Int) (h0 : ag_in s) (h1 : ag_in y) : g_CS E C d 72 150 [vI s, vI y] S := by
  exact ⟨m_wp S.1.1.1 S.1.1.2.1 S.1.1.2.2.1 S.1.1.2.2.2.2.1 s y, S, hv, m_wp_in S.1.1.1 S.1.1.2.1 S.1.1.2.2.1 S.1.1.2.2.2.2.1 s y, fun _ N hX => ⟨_, ev_X6_wouldPush (by omega) hx hX.1.1 hX.1.2.1 hX.1.2.2 hv.1.1.1.1 hv.1.1.1.2.1 hv.1.1.1.2.2  s y h0 h1, N, rfl, hX, fun _ _ => rfl⟩, fun _ N hY => ⟨_, ev_X7_wouldPush (by omega) hm hY.1.1 hv.1.1.1.1  s y h0 h1, N, rfl, hY, fun _ _ => rfl⟩⟩

theorem cs_firstTake (hd : 20 ≤ d) (hx : g_isX C 0) (hm : g_isM C 152) (hv : g_vT S) : g_CS E C d 73 152 [] S := by
  exact ⟨m_fst (m_ft S.1.1.1 S.1.1.2.1 S.1.1.2.2.1 S.1.1.2.2.2.2.1 S.1.2.1.1 S.1.2.1.2.1 S.1.2.1.2.2.1) 144 0, S, hv, (by have := m_fst_in (m_ft S.1.1.1 S.1.1.2.1 S.1.1.2.2.1 S.1.1.2.2.2.2.1 S.1.2.1.1 S.1.2.1.2.1 S.1.2.1.2.2.1) 144 0 (Int.le_refl 0); omega), fun _ N hX => ⟨_, ev_X6_firstTake (by omega) hx hX.1.1 hX.1.2.1 hX.1.2.2 hv.1.1.1.1 hv.1.1.1.2.1 hv.1.1.1.2.2   , N, rfl, hX, fun _ _ => rfl⟩, fun _ N hY => ⟨_, ev_X7_firstTake (by omega) hm hY.1.1 hv.1.1.1.1 hY.1.2.1 hv.1.1.1.2.2   , N, rfl, hY, fun _ _ => rfl⟩⟩

theorem cs_turnsIn (hd : 20 ≤ d) (hx : g_isX C 0) (hm : g_isM C 152) (hv : g_vT S) (l : Int) (h0 : ag_in l) : g_CS E C d 75 154 [vI l] S := by
  exact ⟨m_tin S.1.1.2.1 S.1.1.2.2.2.1 S.1.2.1.1 l, S, hv, m_tin_in hv.1.1 l, fun _ N hX => ⟨_, ev_X6_turnsIn (by omega) hx hX.1.1 hX.1.2.1 hX.1.2.2 hv.1.1.1.1 hv.1.1.1.2.1 hv.1.1.1.2.2  l h0, N, rfl, hX, fun _ _ => rfl⟩, fun _ N hY => ⟨_, ev_X7_turnsIn (by omega) hm hY.1.1 hv.1.1.1.1 hY.1.2.1 hv.1.1.1.2.2  l h0, N, rfl, hY, fun _ _ => rfl⟩⟩

theorem cs_tideIn (hd : 20 ≤ d) (hx : g_isX C 0) (hm : g_isM C 152) (hv : g_vT S) (y : Int) (h0 : ag_in y) : g_CS E C d 76 155 [vI y] S := by
  exact ⟨m_tdi S.1.2.1.1 y, S, hv, m_tdi_in hv.1.1 y, fun _ N hX => ⟨_, ev_X6_tideIn (by omega) hx hX.1.1 hX.1.2.1 hX.1.2.2 hv.1.1.1.1 hv.1.1.1.2.1 hv.1.1.1.2.2  y h0, N, rfl, hX, fun _ _ => rfl⟩, fun _ N hY => ⟨_, ev_X7_tideIn (by omega) hm hY.1.1 hv.1.1.1.1 hY.1.2.1 hv.1.1.1.2.2  y h0, N, rfl, hY, fun _ _ => rfl⟩⟩

theorem cs_sign (hd : 20 ≤ d) (hx : g_isX C 0) (hm : g_isM C 152) (hv : g_vT S) (i : Int) (h0 : ag_in i) : g_CS E C d 78 157 [vI i] S := by
  exact ⟨m_sg S.2.2.2.2.2.1 S.2.2.2.2.2.2 i, S, hv, m_sg_in hv i, fun _ N hX => ⟨_, ev_X6_sign (by omega) hx hX.1.1 hX.1.2.1 hX.1.2.2 hv.1.1.1.1 hv.1.1.1.2.1 hv.1.1.1.2.2 hX.2.2.2.2.2.1 hv.1.2.2.2.2.2 hX.2.2.2.2.2.2 i h0, N, rfl, hX, fun _ _ => rfl⟩, fun _ N hY => ⟨_, ev_X7_sign (by omega) hm hY.2.2.2.2.2.1 hv.1.2.2.2.2.2 i h0, N, rfl, hY, fun _ _ => rfl⟩⟩

theorem cs_refusal (hd : 20 ≤ d) (hx : g_isX C 0) (hm : g_isM C 152) (hv : g_vT S) (w : Int) (h0 : ag_in w) : g_CS E C d 81 163 [vI w] S := by
  exact ⟨m_rf S.2.2.2.1 w, S, hv, m_rf_in hv.2.1 w, fun _ N hX => ⟨_, ev_X6_refusal (by omega) hx hX.1.1 hX.1.2.1 hX.1.2.2 hv.1.1.1.1 hv.1.1.1.2.1 hv.1.1.1.2.2 hX.2.2.2.1 w h0, N, rfl, hX, fun _ _ => rfl⟩, fun _ N hY => ⟨_, ev_X7_refusalF (by omega) hm hY.2.2.2.1 w h0, N, rfl, hY, fun _ _ => rfl⟩⟩

theorem cs_mean (hd : 20 ≤ d) (hx : g_isX C 0) (hm : g_isM C 152) (hv : g_vT S) : g_CS E C d 83 167 [] S := by
  exact ⟨m_meanR S.1.1.1, S, hv, m_meanR_in S.1.1.1, fun _ N hX => ⟨_, ev_X6_mean (by omega) hx hX.1.1 hX.1.2.1 hX.1.2.2 hv.1.1.1.1 hv.1.1.1.2.1 hv.1.1.1.2.2   , N, rfl, hX, fun _ _ => rfl⟩, fun _ N hY => ⟨_, ev_X7_mean (by omega) hm hY.1.1 hv.1.1.1.1   , N, rfl, hY, fun _ _ => rfl⟩⟩

theorem cs_account (hd : 20 ≤ d) (hx : g_isX C 0) (hm : g_isM C 152) (hv : g_vT S) (w : Int) (h0 : ag_in w) : g_CS E C d 82 166 [vI w] S := by
  obtain ⟨G, U, V, F, ⟨L, T⟩, ⟨l, ln⟩⟩ := S
  exact ⟨_, _, hv, m_accS_in hv w, fun _ N hX => ⟨_, ev_X6_account (by omega) hx hX.1.1 hX.1.2.1 hX.1.2.2 hv.1.1.1.1 hv.1.1.1.2.1 hv.1.1.1.2.2 hX.2.2.2.2.1.1 (g_rP_n hX.2.1) w h0, N, rfl, hX, fun _ _ => rfl⟩, fun _ N hY => ev_X7_account (by omega) hm hY hv.1 w h0⟩
end CS
