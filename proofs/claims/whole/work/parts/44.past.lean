/-! LEVEL 2: the class's past -/
theorem AR.lsw {E : Nat × (Int → Int)} {d : Nat} {M : ag_M} {r : ag_O → Prop} {pc : Nat} {ls : List (Option av)} {st : List av} {h : ag_H} {a dd off : Int} {len : Nat} {ps : Array (Int × Int)} (hc : M.2.2.2.2[pc]? = some (some (.lookupswitch dd ps, len))) (ha : ag_in a) (ho : Op.lookupswitch.offset ps.toList dd a = off) (k : AR E d M (ag_tgt pc off, ls, st, h) r) : AR E d M (pc, ls, vI a :: st, h) r := by
  subst ho
  exact AR.one0 hc (fun _ => ag_ck_of ha) k
theorem AR.retA {E : Nat × (Int → Int)} {d : Nat} {M : ag_M} {pc : Nat} {ls : List (Option av)} {h h' : ag_H} {a : Nat} (hc : M.2.2.2.2[pc]? = some (some (.areturn, 1))) (hr : M.2.1 = 4) (hh : h = h') : AR E d M (pc, ls, [vA a], h) (fun x => x = (some (vA a), h')) := by
  subst hh
  refine AR.fin hc (fun _ => ag_ck_of ⟨?_, hr⟩) rfl
  show decide (M.2.1 = 4) = true
  exact decide_eq_true hr
def g_sl (p : Nat) (i : Int) : Nat := p + (2 + 13 * i.toNat)
def g_isP (C : List ag_C) (p : Nat) : Prop := C[p]? = some (4, 3, [some (p + 1), none, none]) ∧ C[p + 1]? = some (12, 8, (List.range 8).map (fun i => some (p + (2 + 13 * i)))) ∧ ∀ i : Int, 0 ≤ i → i < 8 → g_isG C (g_sl p i)
theorem g_sl_at (p : Nat) (i : Int) (hi : 0 ≤ i ∧ i < 8) : ((List.range 8).map (fun i => some (p + (2 + 13 * i)))).getD i.toNat none = some (g_sl p i) := by
  rw [List.getD_eq_getElem?_getD, List.getElem?_map, List.getElem?_range (by omega)]
  rfl
theorem g_sl_in (p : Nat) (i : Int) (hi : 0 ≤ i ∧ i < 8) : p + 2 ≤ g_sl p i ∧ g_sl p i + 13 ≤ p + 106 := by unfold g_sl; omega
theorem g_sl_ne (p : Nat) (i j : Int) (hi : 0 ≤ i) (hj : 0 ≤ j) (h : i ≠ j) : g_sl p i + 13 ≤ g_sl p j ∨ g_sl p j + 13 ≤ g_sl p i := by unfold g_sl; omega
/-- the latest first -/
def g_rP (N : Nat → Int → Int) (p : Nat) (U : List m_G) : Prop := ∃ nx, (0 ≤ nx ∧ nx < 8) ∧ N p 1 = nx ∧ N p 2 = U.length ∧ U.length ≤ 8 ∧ ∀ (i : Nat) G, U[i]? = some G → g_rG N (g_sl p ((nx + 7 - i) % 8)) G
def g_QP (C : List ag_C) (N : Nat → Int → Int) (p : Nat) (o : Option av) (U : List m_G) : ag_O → Prop := fun r => ∃ N', r = (o, (C, N')) ∧ g_rP N' p U ∧ ∀ a, ¬ (p ≤ a ∧ a < p + 106) → N' a = N a
theorem g_rP_keep {N N1 N' : Nat → Int → Int} {p : Nat} {U : List m_G} {nx : Int} {G : m_G} (hn : 0 ≤ nx ∧ nx < 8) (hl : U.length ≤ 8) (hU : ∀ (i : Nat) G, U[i]? = some G → g_rG N (g_sl p ((nx + 7 - i) % 8)) G) (hG : g_rG N1 (g_sl p nx) G) (h1 : ∀ a, ¬ (g_sl p nx ≤ a ∧ a < g_sl p nx + 13) → N1 a = N a) (h' : ∀ a, a ≠ p → N' a = N1 a) (e1 : N' p 1 = (nx + 1) % 8) (e2 : N' p 2 = if 8 < (U.length : Int) + 1 then 8 else (U.length : Int) + 1) : g_rP N' p ((G :: U).take 8) := by
  have hs := g_sl_in p nx hn
  refine ⟨(nx + 1) % 8, by omega, e1, ?_, ?_, fun i G' hi => ?_⟩
  · rw [e2, List.length_take, List.length_cons]
    omega
  · rw [List.length_take]; omega
  · have hi8 : i < 8 := by
      by_cases q : i < 8
      · exact q
      · rw [List.getElem?_eq_none (by rw [List.length_take]; omega)] at hi; cases hi
    rw [List.getElem?_take_of_lt hi8] at hi
    cases i with
    | zero =>
      cases hi
      rw [show ((nx + 1) % 8 + 7 - ((0 : Nat) : Int)) % 8 = nx by omega]
      exact g_rG_fr hG (fun a h0 _ => h' a (by omega))
    | succ i =>
      have hi2 : U[i]? = some G' := hi
      have h3 := hU i G' hi2
      rw [show ((nx + 1) % 8 + 7 - ((i + 1 : Nat) : Int)) % 8 = (nx + 7 - i) % 8 by omega]
      have h4 := g_sl_in p ((nx + 7 - i) % 8) (by omega)
      have h5 := g_sl_ne p ((nx + 7 - i) % 8) nx (by omega) (by omega) (by omega)
      exact g_rG_fr h3 (fun a z0 z1 => (h' a (by omega)).trans (h1 a (by omega)))
section L2v
variable {E : Nat × (Int → Int)} {C : List ag_C} {N : Nat → Int → Int} {p : Nat} {U : List m_G} {G : m_G} {g : Nat}

def g_QPb (C : List ag_C) (N : Nat → Int → Int) (p g : Nat) (U : List m_G) : ag_O → Prop := fun r => (U.length = 0 ∧ r = (some (vI 0), (C, N))) ∨ ∃ G N', U[0]? = some G ∧ r = (some (vI 1), (C, N')) ∧ g_rG N' g G ∧ g_rP N' p (U.drop 1) ∧ ∀ a, ¬ (p ≤ a ∧ a < p + 106) → ¬ (g ≤ a ∧ a < g + 13) → N' a = N a
theorem g_hd (U : List m_G) : ∃ G : m_G, U.length = 0 ∨ U[0]? = some G := by
  cases U with
  | nil => exact ⟨((fun _ => 0, 0, fun _ => 0, fun _ => 0, fun _ => 0, fun _ => 0), (0, 0, 0, 0), (fun _ => 0, fun _ => 0, fun _ => 0), []), .inl rfl⟩
  | cons G r => exact ⟨G, .inr rfl⟩
theorem g_rP_back {N N' : Nat → Int → Int} {p : Nat} {U : List m_G} {nx : Int} (hn : 0 ≤ nx ∧ nx < 8) (hl : U.length ≤ 8) (hU : ∀ (i : Nat) G, U[i]? = some G → g_rG N (g_sl p ((nx + 7 - i) % 8)) G) (h' : ∀ a, p + 2 ≤ a → a < p + 106 → N' a = N a) (e1 : N' p 1 = (nx + 8 - 1) % 8) (e2 : N' p 2 = (U.length : Int) - 1) (h0 : 0 < U.length) : g_rP N' p (U.drop 1) := by
  refine ⟨(nx + 8 - 1) % 8, by omega, e1, by rw [e2, List.length_drop]; omega, by rw [List.length_drop]; omega, fun i G hi => ?_⟩
  rw [List.getElem?_drop] at hi
  have h1 := hU (1 + i) G hi
  have h2 : i < 8 := by
    by_cases q : 1 + i < U.length
    · omega
    · rw [List.getElem?_eq_none (by omega)] at hi; cases hi
  have h4 := g_sl_in p ((nx + 7 - ((1 + i : Nat) : Int)) % 8) (by omega)
  rw [show ((nx + 8 - 1) % 8 + 7 - (i : Int)) % 8 = (nx + 7 - ((1 + i : Nat) : Int)) % 8 by omega]
  exact g_rG_fr h1 (fun a z0 z1 => h' a (by omega) (by omega))

theorem ev_X4_gameAt {d : Nat} (hd : 1 ≤ d) (hp : g_isP C p) (i : Int) (h0 : 0 ≤ i ∧ i < 8) : Ev E d 52 [vA p, vI i] (C, N) (some (vA (g_sl p i)), (C, N)) := by
  obtain ⟨d, rfl⟩ : ∃ j, d = j + 1 := ⟨d - 1, by omega⟩
  refine Ev.intro (M := ag_mX4_gameAt) rfl rfl ?_
  show AR E d _ (0, [some (vA p), some (vI i)], [], (C, N)) _
  refine AR.blk 1 (f' := (1, [some (vA p), some (vI i)], [vI i], (C, N))) (fun _ => rfl) ?_
  refine AR.if_lt rfl (by omega) (fun c1 => ?_) (fun c1 => ?_)
  · show AR E d _ (19, [some (vA p), some (vI i)], [], (C, N)) _
    refine AR.blk 1 (f' := (20, [some (vA p), some (vI i)], [vR none], (C, N))) (fun _ => rfl) ?_
    exact False.elim (by omega)
  · show AR E d _ (4, [some (vA p), some (vI i)], [], (C, N)) _
    refine AR.blk 2 (f' := (7, [some (vA p), some (vI i)], [vI 8, vI i], (C, N))) (fun _ => rfl) ?_
    refine AR.ic_ge rfl (by omega) (fun c2 => ?_) (fun c2 => ?_)
    · show AR E d _ (19, [some (vA p), some (vI i)], [], (C, N)) _
      refine AR.blk 1 (f' := (20, [some (vA p), some (vI i)], [vR none], (C, N))) (fun _ => rfl) ?_
      exact False.elim (by omega)
    · show AR E d _ (10, [some (vA p), some (vI i)], [], (C, N)) _
      refine AR.blk 1 (f' := (11, [some (vA p), some (vI i)], [vA p], (C, N))) (fun _ => rfl) ?_
      refine AR.getR rfl rfl hp.1 (by decide) rfl ?_
      refine AR.blk 1 (f' := (15, [some (vA p), some (vI i)], [vI i, vA (p + 1)], (C, N))) (fun _ => rfl) ?_
      refine AR.qald rfl hp.2.1 (by omega) (g_sl_at p i (by omega)) ?_
      refine AR.blk 1 (f' := (20, [some (vA p), some (vI i)], [vA (g_sl p i)], (C, N))) (fun _ => rfl) ?_
      exact AR.retA rfl rfl rfl

theorem ev_X4_keep {d : Nat} (hd : 3 ≤ d) (hp : g_isP C p) (hr : g_rP N p U) (hg : g_isG C g) (hrG : g_rG N g G) (hwG : g_wG G) (hd2 : g + 13 ≤ p ∨ p + 106 ≤ g) : ∃ o_, Ev E d 53 [vA p, vA g] (C, N) o_ ∧ g_QP C N p none ((G :: U).take 8) o_ := by
  obtain ⟨d, rfl⟩ : ∃ j, d = j + 1 := ⟨d - 1, by omega⟩
  obtain ⟨nx, hn0, hn1, hn2, hn3, hnU⟩ := hr
  refine Ev.introQ (M := ag_mX4_keep) rfl rfl ?_
  show AR E d _ (0, [some (vA p), some (vA g), none], [], (C, N)) _
  refine AR.blk 2 (f' := (2, [some (vA p), some (vA g), none], [vA p, vA p], (C, N))) (fun _ => rfl) ?_
  refine AR.getI rfl rfl hp.1 (by decide) (v := nx) hn1 ?_
  refine AR.callV [vI nx] (ev_X4_gameAt (by omega) hp nx (by omega)) hp.1 rfl rfl rfl rfl rfl ?_
  show AR E d _ (8, [some (vA p), some (vA g), none], [vA (g_sl p nx)], (C, N)) _
  have f1 := g_sl_in p nx (by omega)
  refine AR.blk 5 (f' := (15, [some (vA p), some (vA g), some (vA (g_sl p nx))], [vA g, vA (g_sl p nx)], (C, N))) (fun _ => rfl) ?_
  obtain ⟨_, hE2, N3, rfl, hr4, hf5⟩ := ev_X1_copyFrom (E := E) (d := d) (by omega) (hp.2.2 nx (by omega) (by omega)) hg (by omega) hrG hwG
  refine AR.callV [vA g] hE2 (hp.2.2 nx (by omega) (by omega)).1 rfl rfl rfl rfl rfl ?_
  show AR E d _ (18, [some (vA p), some (vA g), some (vA (g_sl p nx))], [], (C, N3)) _
  refine AR.blk 2 (f' := (20, [some (vA p), some (vA g), some (vA (g_sl p nx))], [vA p, vA p], (C, N3))) (fun _ => rfl) ?_
  refine AR.getI rfl rfl hp.1 (by decide) (v := nx) ((congrFun (hf5 _ (by omega)) _).trans hn1) ?_
  refine AR.blk 3 (f' := (27, [some (vA p), some (vA g), some (vA (g_sl p nx))], [vI 8, vI (nx + 1), vA p], (C, N3))) (fun _ => rfl) ?_
  refine AR.irem rfl (by omega) ?_
  refine AR.putI rfl rfl hp.1 (by decide) (fun q => absurd q (by decide)) ?_
  refine AR.blk 2 (f' := (33, [some (vA p), some (vA g), some (vA (g_sl p nx))], [vA p, vA p], (C, ag_upd N3 p 1 ((nx + 1) % 8)))) (fun _ => rfl) ?_
  refine AR.getI rfl rfl hp.1 (by decide) (v := (U.length : Int)) ((ag_upd_nk (by omega)).trans ((congrFun (hf5 _ (by omega)) _).trans hn2)) ?_
  refine AR.blk 3 (f' := (40, [some (vA p), some (vA g), some (vA (g_sl p nx))], [vI 8, vI ((U.length : Int) + 1), vA p], (C, ag_upd N3 p 1 ((nx + 1) % 8)))) (fun _ => rfl) ?_
  refine AR.min rfl rfl ⟨(by omega), Nat.le_of_ble_eq_true rfl⟩ ?_
  refine AR.putI rfl rfl hp.1 (by decide) (fun q => absurd q (by decide)) ?_
  refine AR.endV rfl rfl ?_
  refine ⟨_, rfl, g_rP_keep hn0 hn3 hnU hr4 hf5 (fun a ha => (ag_upd_ne ha).trans (ag_upd_ne ha)) ((ag_upd_nk (by omega)).trans ag_upd_eq) ag_upd_eq, fun a ha => (ag_upd_ne (by omega)).trans ((ag_upd_ne (by omega)).trans (hf5 a (by omega)))⟩

theorem ev_X4_bringBack {d : Nat} (hd : 3 ≤ d) (hp : g_isP C p) (hr : g_rP N p U) (hwU : ∀ G, G ∈ U → g_wG G) (hg : g_isG C g) (hd2 : g + 13 ≤ p ∨ p + 106 ≤ g) : ∃ o_, Ev E d 54 [vA p, vA g] (C, N) o_ ∧ g_QPb C N p g U o_ := by
  obtain ⟨d, rfl⟩ : ∃ j, d = j + 1 := ⟨d - 1, by omega⟩
  obtain ⟨nx, hn0, hn1, hn2, hn3, hnU⟩ := hr
  obtain ⟨G, hG0⟩ : ∃ G : m_G, U.length = 0 ∨ U[0]? = some G := g_hd U
  refine Ev.introQ (M := ag_mX4_bringBack) rfl rfl ?_
  show AR E d _ (0, [some (vA p), some (vA g), none, none], [], (C, N)) _
  refine AR.blk 1 (f' := (1, [some (vA p), some (vA g), none, none], [vA p], (C, N))) (fun _ => rfl) ?_
  refine AR.getI rfl rfl hp.1 (by decide) (v := nx) hn1 ?_
  refine AR.blk 5 (f' := (11, [some (vA p), some (vA g), none, none], [vI 8, vI ((nx + 8) - 1)], (C, N))) (fun _ => rfl) ?_
  refine AR.irem rfl (by omega) ?_
  refine AR.blk 3 (f' := (15, [some (vA p), some (vA g), some (vI (((nx + 8) - 1) % 8)), none], [vI (((nx + 8) - 1) % 8), vA p], (C, N))) (fun _ => rfl) ?_
  refine AR.callV [vI (((nx + 8) - 1) % 8)] (ev_X4_gameAt (by omega) hp (((nx + 8) - 1) % 8) (by omega)) hp.1 rfl rfl rfl rfl rfl ?_
  show AR E d _ (18, [some (vA p), some (vA g), some (vI (((nx + 8) - 1) % 8)), none], [vA (g_sl p (((nx + 8) - 1) % 8))], (C, N)) _
  have f1 := g_sl_in p (((nx + 8) - 1) % 8) (by omega)
  refine AR.blk 2 (f' := (20, [some (vA p), some (vA g), some (vI (((nx + 8) - 1) % 8)), some (vA (g_sl p (((nx + 8) - 1) % 8)))], [vA p], (C, N))) (fun _ => rfl) ?_
  refine AR.getI rfl rfl hp.1 (by decide) (v := (U.length : Int)) hn2 ?_
  refine AR.if_eq rfl (by omega) (fun c2 => ?_) (fun c2 => ?_)
  · show AR E d _ (30, [some (vA p), some (vA g), some (vI (((nx + 8) - 1) % 8)), some (vA (g_sl p (((nx + 8) - 1) % 8)))], [], (C, N)) _
    refine AR.blk 1 (f' := (31, [some (vA p), some (vA g), some (vI (((nx + 8) - 1) % 8)), some (vA (g_sl p (((nx + 8) - 1) % 8)))], [vI 0], (C, N))) (fun _ => rfl) ?_
    refine AR.endI rfl (.inr ⟨rfl, .inl rfl⟩) (.inl ⟨by omega, rfl⟩)
  · show AR E d _ (26, [some (vA p), some (vA g), some (vI (((nx + 8) - 1) % 8)), some (vA (g_sl p (((nx + 8) - 1) % 8)))], [], (C, N)) _
    refine AR.blk 2 (f' := (32, [some (vA p), some (vA g), some (vI (((nx + 8) - 1) % 8)), some (vA (g_sl p (((nx + 8) - 1) % 8)))], [], (C, N))) (fun _ => rfl) ?_
    have hG1 : U[0]? = some G := hG0.resolve_left (by omega)
    have hrS := hnU 0 G hG1
    rw [show (nx + 7 - ((0 : Nat) : Int)) % 8 = (nx + 8 - 1) % 8 by omega] at hrS
    refine AR.blk 2 (f' := (34, [some (vA p), some (vA g), some (vI (((nx + 8) - 1) % 8)), some (vA (g_sl p (((nx + 8) - 1) % 8)))], [vA (g_sl p (((nx + 8) - 1) % 8)), vA g], (C, N))) (fun _ => rfl) ?_
    obtain ⟨_, hE3, N4, rfl, hr5, hf6⟩ := ev_X1_copyFrom (E := E) (d := d) (by omega) hg (hp.2.2 ((nx + 8 - 1) % 8) (by omega) (by omega)) (by omega) hrS (hwU G (List.mem_of_getElem? hG1))
    refine AR.callV [vA (g_sl p (((nx + 8) - 1) % 8))] hE3 hg.1 rfl rfl rfl rfl rfl ?_
    show AR E d _ (37, [some (vA p), some (vA g), some (vI (((nx + 8) - 1) % 8)), some (vA (g_sl p (((nx + 8) - 1) % 8)))], [], (C, N4)) _
    refine AR.blk 2 (f' := (39, [some (vA p), some (vA g), some (vI (((nx + 8) - 1) % 8)), some (vA (g_sl p (((nx + 8) - 1) % 8)))], [vI (((nx + 8) - 1) % 8), vA p], (C, N4))) (fun _ => rfl) ?_
    refine AR.putI rfl rfl hp.1 (by decide) (fun q => absurd q (by decide)) ?_
    refine AR.blk 2 (f' := (44, [some (vA p), some (vA g), some (vI (((nx + 8) - 1) % 8)), some (vA (g_sl p (((nx + 8) - 1) % 8)))], [vA p, vA p], (C, ag_upd N4 p 1 (((nx + 8) - 1) % 8)))) (fun _ => rfl) ?_
    refine AR.getI rfl rfl hp.1 (by decide) (v := (U.length : Int)) ((ag_upd_nk (by omega)).trans ((congrFun (hf6 _ (by omega)) _).trans hn2)) ?_
    refine AR.blk 2 (f' := (49, [some (vA p), some (vA g), some (vI (((nx + 8) - 1) % 8)), some (vA (g_sl p (((nx + 8) - 1) % 8)))], [vI ((U.length : Int) - 1), vA p], (C, ag_upd N4 p 1 (((nx + 8) - 1) % 8)))) (fun _ => rfl) ?_
    refine AR.putI rfl rfl hp.1 (by decide) (fun q => absurd q (by decide)) ?_
    refine AR.blk 1 (f' := (53, [some (vA p), some (vA g), some (vI (((nx + 8) - 1) % 8)), some (vA (g_sl p (((nx + 8) - 1) % 8)))], [vI 1], (C, ag_upd (ag_upd N4 p 1 (((nx + 8) - 1) % 8)) p 2 ((U.length : Int) - 1)))) (fun _ => rfl) ?_
    refine AR.endI rfl (.inr ⟨rfl, .inr rfl⟩) (.inr ⟨_, _, hG1, rfl, g_rG_fr hr5 (fun a z0 z1 => (ag_upd_ne (by omega)).trans (ag_upd_ne (by omega))), g_rP_back hn0 hn3 hnU (fun a z0 z1 => (ag_upd_ne (by omega)).trans ((ag_upd_ne (by omega)).trans (hf6 a (by omega)))) ((ag_upd_nk (by omega)).trans ag_upd_eq) ag_upd_eq (by omega), fun a z0 z1 => (ag_upd_ne (by omega)).trans ((ag_upd_ne (by omega)).trans (hf6 a (by omega)))⟩)
end L2v
