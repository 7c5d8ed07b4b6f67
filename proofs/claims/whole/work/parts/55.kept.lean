/-! LEVEL 2: the model: rows, copies, what is kept -/
def g_rM (R : Int → Int) (G : m_G) : Prop := g_rR R G.1.1 G.1.2.1 G.1.2.2.1 G.1.2.2.2.1 G.1.2.2.2.2.1 G.1.2.2.2.2.2 ∧ g_rZ R G.2.1.1 (G.2.1.1 % 2) (G.2.1.1 / 4) G.2.1.2.1 G.2.1.2.2.1 G.2.1.2.2.2 G.2.2.1.1 G.2.2.1.2.1 G.2.2.1.2.2 ∧ g_rD R (m_D G.2.2.2) ∧ (G.2.1.2.1 = 0 → R 6 = m_cnt G.1.1 0 ∧ R 7 = m_cnt G.1.1 1)
theorem g_rM_ext {R R' : Int → Int} {G : m_G} (hv : g_vG G) (h : g_rM R G) (hf : ∀ i, 0 ≤ i → i < 800 → R' i = R i) : g_rM R' G := by
  have h1 := m_D_len G.2.2.2
  have h2 := hv.1.2.1.1
  refine ⟨g_rR_fr h.1 (fun i a b => hf i (by omega) (by omega)), g_rZ_fr h.2.1 (fun i a b => hf i a (by omega)), ⟨(hf 67 (by omega) (by omega)).trans h.2.2.1.1, fun i y hy => ?_⟩, fun e => ⟨(hf 6 (by omega) (by omega)).trans (h.2.2.2 e).1, (hf 7 (by omega) (by omega)).trans (h.2.2.2 e).2⟩⟩
  have h3 : i < (m_D G.2.2.2).length := by
    by_cases z : i < (m_D G.2.2.2).length
    · exact z
    · rw [List.getElem?_eq_none (by omega)] at hy; cases hy
  exact g_ent_fr (h.2.2.1.2 i y hy) (fun k a b => hf _ (by omega) (by omega))
def g_QC (C : List ag_C) (N : Nat → Int → Int) (a b : Nat) (u v : Int) : ag_O → Prop := fun r => ∃ N', r = (none, (C, N')) ∧ (∀ j, 0 ≤ j → j < 800 → N' b (v + j) = N a (u + j)) ∧ (∀ j, ¬ (v ≤ j ∧ j < v + 800) → N' b j = N b j) ∧ ∀ c, c ≠ b → N' c = N c
theorem g_cpS {N : Nat → Int → Int} {b : Nat} {u v k : Int} {f : Int → Int} (h : ∀ j, 0 ≤ j → j < k → N b (v + j) = f (u + j)) : ∀ j, 0 ≤ j → j < k + 1 → ag_upd N b (v + k) (f (u + k)) b (v + j) = f (u + j) := by
  intro j z0 z1
  by_cases e : j = k
  · subst e; exact ag_upd_eq
  · exact (ag_upd_nk (by omega)).trans (h j z0 (by omega))
def g_rK (N : Nat → Int → Int) (m : Nat) (U : List m_G) : Prop := N m 6 = U.length ∧ U.length ≤ 8 ∧ ∀ (i : Nat) G, U[i]? = some G → g_rM (fun k => N (m + 2) (800 * ((U.length : Int) - 1 - i) + k)) G
theorem g_rK_push {N N' : Nat → Int → Int} {m : Nat} {U : List m_G} {G : m_G} {R : Int → Int} (hv : g_vG G) (hvU : ∀ G, G ∈ U → g_vG G) (hK : g_rK N m U) (hl : U.length < 8) (e6 : N' m 6 = U.length + 1) (h1 : ∀ j, j < 800 * (U.length : Int) → N' (m + 2) j = N (m + 2) j) (h2 : ∀ j, 0 ≤ j → j < 800 → N' (m + 2) (800 * (U.length : Int) + j) = R j) (hR : g_rM R G) : g_rK N' m ((G :: U).take 8) := by
  rw [List.take_of_length_le (by rw [List.length_cons]; omega)]
  refine ⟨by rw [e6, List.length_cons]; omega, by rw [List.length_cons]; omega, fun i G2 hi => ?_⟩
  rw [List.length_cons]
  cases i with
  | zero =>
    cases hi
    refine g_rM_ext hv hR (fun k z0 z1 => ?_)
    rw [show 800 * (((U.length + 1 : Nat) : Int) - 1 - ((0 : Nat) : Int)) + k = 800 * (U.length : Int) + k by omega]
    exact h2 k z0 z1
  | succ i =>
    have hi2 : U[i]? = some G2 := hi
    have h3 := hK.2.2 i G2 hi2
    refine g_rM_ext (hvU G2 (List.mem_of_getElem? hi2)) h3 (fun k z0 z1 => ?_)
    have h4 : i < U.length := by
      by_cases z : i < U.length
      · exact z
      · rw [List.getElem?_eq_none (by omega)] at hi2; cases hi2
    rw [show 800 * (((U.length + 1 : Nat) : Int) - 1 - ((i + 1 : Nat) : Int)) + k = 800 * ((U.length : Int) - 1 - i) + k by omega]
    exact h1 _ (by omega)
theorem g_rK_shift {N N' : Nat → Int → Int} {m : Nat} {U : List m_G} {G : m_G} {R : Int → Int} (hv : g_vG G) (hvU : ∀ G, G ∈ U → g_vG G) (hK : g_rK N m U) (hl : U.length = 8) (e6 : N' m 6 = 8) (h1 : ∀ j, 0 ≤ j → j < 5600 → N' (m + 2) j = N (m + 2) (j + 800)) (h2 : ∀ j, 0 ≤ j → j < 800 → N' (m + 2) (5600 + j) = R j) (hR : g_rM R G) : g_rK N' m ((G :: U).take 8) := by
  have hlen : ((G :: U).take 8).length = 8 := by rw [List.length_take, List.length_cons]; omega
  refine ⟨by rw [e6, hlen]; rfl, by omega, fun i G2 hi => ?_⟩
  rw [hlen]
  have hi8 : i < 8 := by
    by_cases z : i < 8
    · exact z
    · rw [List.getElem?_eq_none (by omega)] at hi; cases hi
  rw [List.getElem?_take_of_lt hi8] at hi
  cases i with
  | zero =>
    cases hi
    refine g_rM_ext hv hR (fun k z0 z1 => ?_)
    rw [show 800 * (((8 : Nat) : Int) - 1 - ((0 : Nat) : Int)) + k = 5600 + k by omega]
    exact h2 k z0 z1
  | succ i =>
    have hi2 : U[i]? = some G2 := hi
    have h3 := hK.2.2 i G2 hi2
    rw [hl] at h3
    refine g_rM_ext (hvU G2 (List.mem_of_getElem? hi2)) h3 (fun k z0 z1 => ?_)
    show N' (m + 2) (800 * (((8 : Nat) : Int) - 1 - ((i + 1 : Nat) : Int)) + k) = N (m + 2) (800 * (((8 : Nat) : Int) - 1 - (i : Int)) + k)
    rw [h1 _ (by omega) (by omega)]
    exact congrArg (N (m + 2)) (by omega)
def g_QK (C : List ag_C) (N : Nat → Int → Int) (m : Nat) (U : List m_G) : ag_O → Prop := fun r => ∃ N', r = (none, (C, N')) ∧ g_rK N' m U ∧ (∀ k, k ≠ 6 → N' m k = N m k) ∧ ∀ a, ¬ (a = m ∨ a = m + 2) → N' a = N a
section L2F
variable {E : Nat × (Int → Int)} {C : List ag_C} {N : Nat → Int → Int} {m : Nat}

theorem ev_X7_copies {d : Nat} (hd : 1 ≤ d) {a b n1 n2 : Nat} (h1 : C[a]? = some (8, n1, [])) (h2 : C[b]? = some (8, n2, [])) (hab : a ≠ b) (u v : Int) (h3 : 0 ≤ u ∧ u + 800 ≤ n1 ∧ n1 ≤ 100000) (h4 : 0 ≤ v ∧ v + 800 ≤ n2 ∧ n2 ≤ 100000) : ∃ o_, Ev E d 109 [vA a, vI u, vA b, vI v] (C, N) o_ ∧ g_QC C N a b u v o_ := by
  obtain ⟨d, rfl⟩ : ∃ j, d = j + 1 := ⟨d - 1, by omega⟩
  refine Ev.introQ (M := ag_mX7_copies) rfl rfl ?_
  show AR E d _ (0, [some (vA a), some (vI u), some (vA b), some (vI v), none], [], (C, N)) _
  refine AR.blk 2 (f' := (3, [some (vA a), some (vI u), some (vA b), some (vI v), some (vI 0)], [], (C, N))) (fun _ => rfl) ?_
  suffices H3 : ∀ (j : Nat) (k : Int) (N9 : Nat → Int → Int), (800 - k).toNat < j → (0 ≤ k ∧ k ≤ 800) → (∀ j, 0 ≤ j → j < k → N9 b (v + j) = N a (u + j)) → (∀ j, ¬ (v ≤ j ∧ j < v + 800) → N9 b j = N b j) → (∀ c, c ≠ b → N9 c = N c) → AR E d ag_mX7_copies (3, [some (vA a), some (vI u), some (vA b), some (vI v), some (vI k)], [], (C, N9)) (g_QC C N a b u v) by
    exact H3 _ _ _ (Nat.lt_succ_self _) (by omega) (fun j z0 z1 => by omega) (fun _ _ => rfl) (fun _ _ => rfl)
  intro j
  induction j with
  | zero => intro k N9 hj; exact absurd hj (Nat.not_lt_zero _)
  | succ j ih3 =>
    intro k N9 hj3 i0 hq hr hf
    refine AR.blk 2 (f' := (8, [some (vA a), some (vI u), some (vA b), some (vI v), some (vI k)], [vI 800, vI k], (C, N9))) (fun _ => rfl) ?_
    refine AR.ic_ge rfl (by omega) (fun c1 => ?_) (fun c1 => ?_)
    · show AR E d _ (29, [some (vA a), some (vI u), some (vA b), some (vI v), some (vI k)], [], (C, N9)) _
      refine AR.endV rfl rfl ?_
      exact ⟨_, rfl, fun j z0 z1 => hq j z0 (by omega), hr, hf⟩
    · show AR E d _ (11, [some (vA a), some (vI u), some (vA b), some (vI v), some (vI k)], [], (C, N9)) _
      refine AR.blk 8 (f' := (21, [some (vA a), some (vI u), some (vA b), some (vI v), some (vI k)], [vI (u + k), vA a, vI (v + k), vA b], (C, N9))) (fun _ => rfl) ?_
      refine AR.iald rfl h1 (by omega) (v := N a (u + k)) (congrFun (hf _ hab) _) ?_
      refine AR.iast rfl h2 (by omega) ?_
      refine AR.blk 2 (f' := (3, [some (vA a), some (vI u), some (vA b), some (vI v), some (vI (k + 1))], [], (C, ag_upd N9 b (v + k) (N a (u + k))))) (fun _ => rfl) ?_
      exact ih3 _ _ (by omega) (by omega) (g_cpS (f := N a) hq) (fun j hj => (ag_upd_nk (by omega)).trans (hr j hj)) (fun c hc => (ag_upd_ne hc).trans (hf c hc))

theorem ev_X7_keeps0 {d : Nat} (hd : 2 ≤ d) (hm : g_isM C m) {r : Nat} (h7 : N m 7 = 1) : Ev E d 110 [vA m, vA r] (C, N) (none, (C, N)) := by
  obtain ⟨d, rfl⟩ : ∃ j, d = j + 1 := ⟨d - 1, by omega⟩
  refine Ev.intro (M := ag_mX7_keeps) rfl rfl ?_
  show AR E d _ (0, [some (vA m), some (vA r), none], [], (C, N)) _
  refine AR.blk 1 (f' := (1, [some (vA m), some (vA r), none], [vA m], (C, N))) (fun _ => rfl) ?_
  refine AR.getI rfl rfl hm.1 (by decide) (v := 1) h7 ?_
  refine AR.blk 1 (f' := (7, [some (vA m), some (vA r), none], [], (C, N))) (fun _ => rfl) ?_
  exact AR.retV rfl rfl rfl

theorem ev_X7_keeps1 {d : Nat} (hd : 2 ≤ d) (hm : g_isM C m) (h7 : N m 7 = 0) {G : m_G} {U : List m_G} (hK : g_rK N m U) (hvU : ∀ G, G ∈ U → g_vG G) {r : Nat} (hρ : C[r]? = some (8, 800, [])) (hρ2 : r ≠ m + 2 ∧ r ≠ m) (hG : g_rM (N r) G) (hv : g_vG G) : ∃ o_, Ev E d 110 [vA m, vA r] (C, N) o_ ∧ g_QK C N m ((G :: U).take 8) o_ := by
  obtain ⟨d, rfl⟩ : ∃ j, d = j + 1 := ⟨d - 1, by omega⟩
  refine Ev.introQ (M := ag_mX7_keeps) rfl rfl ?_
  show AR E d _ (0, [some (vA m), some (vA r), none], [], (C, N)) _
  refine AR.blk 1 (f' := (1, [some (vA m), some (vA r), none], [vA m], (C, N))) (fun _ => rfl) ?_
  refine AR.getI rfl rfl hm.1 (by decide) (v := 0) h7 ?_
  refine AR.blk 2 (f' := (9, [some (vA m), some (vA r), none], [vA m], (C, N))) (fun _ => rfl) ?_
  have f1 := hK.2.1
  refine AR.getI rfl rfl hm.1 (by decide) (v := (U.length : Int)) hK.1 ?_
  refine AR.blk 1 (f' := (14, [some (vA m), some (vA r), none], [vI 8, vI (U.length : Int)], (C, N))) (fun _ => rfl) ?_
  refine AR.ic_ne rfl (by omega) (fun c2 => ?_) (fun c2 => ?_)
  · show AR E d _ (58, [some (vA m), some (vA r), none], [], (C, N)) _
    refine AR.blk 3 (f' := (61, [some (vA m), some (vA r), none], [vA m, vI 0, vA r], (C, N))) (fun _ => rfl) ?_
    refine AR.getR rfl rfl hm.1 (by decide) rfl ?_
    refine AR.blk 2 (f' := (68, [some (vA m), some (vA r), none], [vA m, vI 800, vA (m + 2), vI 0, vA r], (C, N))) (fun _ => rfl) ?_
    have f3 := hK.2.1
    refine AR.getI rfl rfl hm.1 (by decide) (v := (U.length : Int)) hK.1 ?_
    refine AR.blk 1 (f' := (72, [some (vA m), some (vA r), none], [vI (800 * (U.length : Int)), vA (m + 2), vI 0, vA r], (C, N))) (fun _ => rfl) ?_
    obtain ⟨_, hE4, N5, rfl, hq6, hr7, hf8⟩ := ev_X7_copies (E := E) (d := d) (by omega) hρ hm.2.2.1 hρ2.1 0 (800 * (U.length : Int)) (by omega) (by omega)
    refine AR.callS [vA r, vI 0, vA (m + 2), vI (800 * (U.length : Int))] hE4 rfl rfl rfl rfl rfl ?_
    show AR E d _ (75, [some (vA m), some (vA r), none], [], (C, N5)) _
    refine AR.blk 2 (f' := (77, [some (vA m), some (vA r), none], [vA m, vA m], (C, N5))) (fun _ => rfl) ?_
    refine AR.getI rfl rfl hm.1 (by decide) (v := (U.length : Int)) ((congrFun (hf8 _ (by omega)) _).trans hK.1) ?_
    refine AR.blk 2 (f' := (82, [some (vA m), some (vA r), none], [vI ((U.length : Int) + 1), vA m], (C, N5))) (fun _ => rfl) ?_
    refine AR.putI rfl rfl hm.1 (by decide) (fun q => absurd q (by decide)) ?_
    refine AR.endV rfl rfl ?_
    refine ⟨_, rfl, g_rK_push hv hvU hK (by omega) ag_upd_eq (fun j hj => (congrFun (ag_upd_ne (by omega)) _).trans (hr7 j (by omega))) (fun j z0 z1 => (congrFun (ag_upd_ne (by omega)) _).trans ((hq6 j z0 z1).trans (congrArg (N r) (by omega)))) hG, fun k hk => (ag_upd_nk hk).trans (congrFun (hf8 _ (by omega)) _), fun a ha => (ag_upd_ne (by omega)).trans (hf8 a (by omega))⟩
  · show AR E d _ (17, [some (vA m), some (vA r), none], [], (C, N)) _
    refine AR.blk 2 (f' := (19, [some (vA m), some (vA r), some (vI 0)], [], (C, N))) (fun _ => rfl) ?_
    suffices H19 : ∀ (j : Nat) (k : Int) (N9 : Nat → Int → Int), (5600 - k).toNat < j → (0 ≤ k ∧ k ≤ 5600) → (∀ j, 0 ≤ j → j < k → N9 (m + 2) j = N (m + 2) (j + 800)) → (∀ j, k ≤ j → N9 (m + 2) j = N (m + 2) j) → (∀ c, c ≠ m + 2 → N9 c = N c) → AR E d ag_mX7_keeps (19, [some (vA m), some (vA r), some (vI k)], [], (C, N9)) (g_QK C N m ((G :: U).take 8)) by
      exact H19 _ _ _ (Nat.lt_succ_self _) (by omega) (fun j z0 z1 => by omega) (fun _ _ => rfl) (fun _ _ => rfl)
    intro j
    induction j with
    | zero => intro k N9 hj; exact absurd hj (Nat.not_lt_zero _)
    | succ j ih19 =>
      intro k N9 hj19 i0 hq9 hr9 hf9
      refine AR.blk 2 (f' := (23, [some (vA m), some (vA r), some (vI k)], [vI 5600, vI k], (C, N9))) (fun _ => rfl) ?_
      refine AR.ic_ge rfl (by omega) (fun c9 => ?_) (fun c9 => ?_)
      · show AR E d _ (48, [some (vA m), some (vA r), some (vI k)], [], (C, N9)) _
        refine AR.blk 2 (f' := (50, [some (vA m), some (vA r), some (vI k)], [vA m, vA m], (C, N9))) (fun _ => rfl) ?_
        refine AR.getI rfl rfl hm.1 (by decide) (v := (U.length : Int)) ((congrFun (hf9 _ (by omega)) _).trans hK.1) ?_
        refine AR.blk 2 (f' := (55, [some (vA m), some (vA r), some (vI k)], [vI ((U.length : Int) - 1), vA m], (C, N9))) (fun _ => rfl) ?_
        refine AR.putI rfl rfl hm.1 (by decide) (fun q => absurd q (by decide)) ?_
        refine AR.blk 3 (f' := (61, [some (vA m), some (vA r), some (vI k)], [vA m, vI 0, vA r], (C, ag_upd N9 m 6 ((U.length : Int) - 1)))) (fun _ => rfl) ?_
        refine AR.getR rfl rfl hm.1 (by decide) rfl ?_
        refine AR.blk 2 (f' := (68, [some (vA m), some (vA r), some (vI k)], [vA m, vI 800, vA (m + 2), vI 0, vA r], (C, ag_upd N9 m 6 ((U.length : Int) - 1)))) (fun _ => rfl) ?_
        refine AR.getI rfl rfl hm.1 (by decide) (v := (U.length : Int) - 1) ag_upd_eq ?_
        refine AR.blk 1 (f' := (72, [some (vA m), some (vA r), some (vI k)], [vI (800 * ((U.length : Int) - 1)), vA (m + 2), vI 0, vA r], (C, ag_upd N9 m 6 ((U.length : Int) - 1)))) (fun _ => rfl) ?_
        obtain ⟨_, hE10, N11, rfl, hq12, hr13, hf14⟩ := ev_X7_copies (E := E) (d := d) (by omega) hρ hm.2.2.1 hρ2.1 0 (800 * ((U.length : Int) - 1)) (by omega) (by omega)
        refine AR.callS [vA r, vI 0, vA (m + 2), vI (800 * ((U.length : Int) - 1))] hE10 rfl rfl rfl rfl rfl ?_
        show AR E d _ (75, [some (vA m), some (vA r), some (vI k)], [], (C, N11)) _
        refine AR.blk 2 (f' := (77, [some (vA m), some (vA r), some (vI k)], [vA m, vA m], (C, N11))) (fun _ => rfl) ?_
        refine AR.getI rfl rfl hm.1 (by decide) (v := (U.length : Int) - 1) ((congrFun (hf14 _ (by omega)) _).trans ag_upd_eq) ?_
        refine AR.blk 2 (f' := (82, [some (vA m), some (vA r), some (vI k)], [vI (((U.length : Int) - 1) + 1), vA m], (C, N11))) (fun _ => rfl) ?_
        refine AR.putI rfl rfl hm.1 (by decide) (fun q => absurd q (by decide)) ?_
        refine AR.endV rfl rfl ?_
        have e7 : 800 * ((U.length : Int) - 1) = 5600 := by omega
        refine ⟨_, rfl, g_rK_shift hv hvU hK (by omega) (ag_upd_eq.trans (by omega)) (fun j z0 hj => (congrFun (ag_upd_ne (by omega)) _).trans ((hr13 j (by omega)).trans ((congrFun (ag_upd_ne (by omega)) _).trans (hq9 j z0 (by omega))))) (fun j z0 z1 => (congrFun (ag_upd_ne (by omega)) _).trans ((congrArg _ (by omega)).trans ((hq12 j z0 z1).trans ((congrFun (ag_upd_ne hρ2.2) _).trans ((congrFun (hf9 _ hρ2.1) _).trans (congrArg (N r) (by omega))))))) hG, fun k hk => (ag_upd_nk hk).trans ((congrFun (hf14 _ (by omega)) _).trans ((ag_upd_nk hk).trans (congrFun (hf9 _ (by omega)) _))), fun a ha => (ag_upd_ne (by omega)).trans ((hf14 a (by omega)).trans ((ag_upd_ne (by omega)).trans (hf9 a (by omega))))⟩
      · show AR E d _ (26, [some (vA m), some (vA r), some (vI k)], [], (C, N9)) _
        refine AR.blk 1 (f' := (27, [some (vA m), some (vA r), some (vI k)], [vA m], (C, N9))) (fun _ => rfl) ?_
        refine AR.getR rfl rfl hm.1 (by decide) rfl ?_
        refine AR.blk 2 (f' := (32, [some (vA m), some (vA r), some (vI k)], [vA m, vI k, vA (m + 2)], (C, N9))) (fun _ => rfl) ?_
        refine AR.getR rfl rfl hm.1 (by decide) rfl ?_
        refine AR.blk 3 (f' := (40, [some (vA m), some (vA r), some (vI k)], [vI (k + 800), vA (m + 2), vI k, vA (m + 2)], (C, N9))) (fun _ => rfl) ?_
        refine AR.iald rfl hm.2.2.1 (by omega) (v := N (m + 2) (k + 800)) (hr9 _ (by omega)) ?_
        refine AR.iast rfl hm.2.2.1 (by omega) ?_
        refine AR.blk 2 (f' := (19, [some (vA m), some (vA r), some (vI (k + 1))], [], (C, ag_upd N9 (m + 2) k (N (m + 2) (k + 800))))) (fun _ => rfl) ?_
        exact ih19 _ _ (by omega) (by omega) (g_up1 (P := fun j => N (m + 2) (j + 800)) hq9) (fun j hj => (ag_upd_nk (by omega)).trans (hr9 j (by omega))) (fun c hc => (ag_upd_ne hc).trans (hf9 c hc))
end L2F
