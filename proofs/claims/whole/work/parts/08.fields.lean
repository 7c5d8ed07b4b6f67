/-! facts of the classes: their fields, their words (places printed by wip/whole/gen_heap.py) -/
def sg_nest (w : Cond) : Bool := match w with
  | .fieldLinkNest _ _ _ _ _ _ => true
  | .methodLinkNest _ _ _ _ => true
  | _ => false
def sg_arrO (w : Cond) : Bool := match w with
  | .arrayOver (.object _) => true
  | _ => false
/-- the words that a call hands on -/
def sg_tok (w : Cond) : Bool := goodWord w || (sg_nest w || sg_arrO w)
def sg_tb : List Cond := lw_tbl.filter sg_tok
theorem sg_mem {w : Cond} (h : w ∈ lw_tbl) (ht : sg_tok w = true) : w ∈ sg_tb := List.mem_filter.mpr ⟨h, ht⟩
theorem sg_8 {P : Nat → Prop} (h0 : P 0) (h1 : P 1) (h2 : P 2) (h3 : P 3) (h4 : P 4) (h5 : P 5) (h6 : P 6) (h7 : P 7) : ∀ t, t < 8 → P t := by
  intro t ht
  have h : t = 0 ∨ t = 1 ∨ t = 2 ∨ t = 3 ∨ t = 4 ∨ t = 5 ∨ t = 6 ∨ t = 7 := by omega
  rcases h with rfl | rfl | rfl | rfl | rfl | rfl | rfl | rfl <;> assumption
theorem sg_cl : ∀ t, t < 8 → vwCl[t]? = some (sg_R t, sg_T t, ag_nf t) := sg_8 rfl rfl rfl rfl rfl rfl rfl rfl
theorem sg_l0 : u_ws (sg_R 0) (sg_T 0) (ag_nf 0) = ([135, 137, 139, 141, 143, 145] : List Nat).filterMap (fun i => lw_tbl[i]?) := by decide +kernel
theorem sg_l1 : u_ws (sg_R 1) (sg_T 1) (ag_nf 1) = ([185, 187, 189, 191, 193, 195, 197, 199, 201] : List Nat).filterMap (fun i => lw_tbl[i]?) := by decide +kernel
theorem sg_l2 : u_ws (sg_R 2) (sg_T 2) (ag_nf 2) = ([159, 161, 163] : List Nat).filterMap (fun i => lw_tbl[i]?) := by decide +kernel
theorem sg_l3 : u_ws (sg_R 3) (sg_T 3) (ag_nf 3) = ([239, 241, 243, 245, 247] : List Nat).filterMap (fun i => lw_tbl[i]?) := by decide +kernel
theorem sg_l4 : u_ws (sg_R 4) (sg_T 4) (ag_nf 4) = ([217, 219, 221] : List Nat).filterMap (fun i => lw_tbl[i]?) := by decide +kernel
theorem sg_l5 : u_ws (sg_R 5) (sg_T 5) (ag_nf 5) = ([266, 268, 270, 272, 274] : List Nat).filterMap (fun i => lw_tbl[i]?) := by decide +kernel
theorem sg_l6 : u_ws (sg_R 6) (sg_T 6) (ag_nf 6) = ([286, 288, 290, 292, 294, 296, 298, 300, 302] : List Nat).filterMap (fun i => lw_tbl[i]?) := by decide +kernel
theorem sg_l7 : u_ws (sg_R 7) (sg_T 7) (ag_nf 7) = ([738, 740, 742, 744, 746, 748, 750, 752, 754, 756, 758, 760, 762, 764, 766, 768, 770, 772, 774, 776] : List Nat).filterMap (fun i => lw_tbl[i]?) := by decide +kernel
theorem sg_lx {C : String} {T : u_T} {N : Nat} {ps : List Nat} (h : u_ws C T N = ps.filterMap (fun i => lw_tbl[i]?)) : ∀ w ∈ u_ws C T N, w ∈ sg_tb := by
  intro w hw
  have hw2 := hw
  rw [h] at hw
  obtain ⟨i, -, hi⟩ := List.mem_filterMap.mp hw
  refine sg_mem (List.mem_of_getElem? hi) ?_
  obtain ⟨k, -, rfl⟩ := List.mem_map.mp hw2
  unfold u_lay
  split <;> rfl
theorem sg_lay : ∀ t, t < 8 → ∀ w ∈ u_ws (sg_R t) (sg_T t) (ag_nf t), w ∈ sg_tb := sg_8 (sg_lx sg_l0) (sg_lx sg_l1) (sg_lx sg_l2) (sg_lx sg_l3) (sg_lx sg_l4) (sg_lx sg_l5) (sg_lx sg_l6) (sg_lx sg_l7)
theorem sg_nm : ∀ t, t < 8 → ∀ a, a < ag_nf t → ∀ b, b < ag_nf t → a ≠ b → ((sg_T t) a).2.1 ≠ ((sg_T t) b).2.1 := sg_8 nmX0 nmX1 nmX2 nmX3 nmX4 nmX5 nmX6 nmX7
theorem sg_tyok : ∀ t, t < 8 → ∀ k, k < ag_nf t → parseFieldDescriptor ((sg_T t) k).2.2.1 = some (sg_ty t k) := sg_8 tyX0_ok tyX1_ok tyX2_ok tyX3_ok tyX4_ok tyX5_ok tyX6_ok tyX7_ok
def sg_isR (ty : FieldType) : Bool := match ty with
  | .object _ => true
  | .array _ => true
  | _ => false
theorem sg_kf : ∀ t, t < 8 → ∀ k, k < ag_nf t → ((sg_T t) k).1 = sg_R t ∧ (ag_kind t k = 2 → ((sg_T t) k).2.2.2 = true ∧ sg_isR (sg_ty t k) = true) ∧ (ag_kind t k ≠ 2 → ((sg_T t) k).2.2.2 = false ∧ (sg_ty t k = .int ∨ ag_kind t k = 1 ∧ sg_ty t k = .boolean)) := by decide +kernel
theorem sg_find {α : Type} {l : List (Nat × α)} {i : Nat} {x : α} (h : l.lookup i = some x) : ∃ j : Nat, l[j]? = some (i, x) := by
  induction l with
  | nil => cases h
  | cons q l ih =>
    obtain ⟨a, y⟩ := q
    rw [List.lookup_cons] at h
    by_cases ha : (i == a) = true
    · rw [ha] at h
      cases h
      rw [beq_iff_eq] at ha
      subst ha
      exact ⟨0, rfl⟩
    · rw [Bool.not_eq_true] at ha
      rw [ha] at h
      obtain ⟨j, hj⟩ := ih h
      exact ⟨j + 1, hj⟩
theorem sg_zip {α β : Type} {l : List (Nat × α)} {r : List β} {i : Nat} {x : α} {P : (Nat × α) × β → Bool} (hl : l.length = r.length) (h : l.lookup i = some x) (ha : (l.zip r).all P = true) : ∃ q, P ((i, x), q) = true := by
  obtain ⟨j, hj⟩ := sg_find h
  have h1 := (List.getElem?_eq_some_iff.mp hj).1
  have h2 : (l.zip r)[j]? = some ((i, x), r[j]'(by omega)) := by
    rw [List.getElem?_zip_eq_some]
    exact ⟨hj, List.getElem?_eq_getElem _⟩
  exact ⟨_, List.all_eq_true.mp ha _ (List.mem_of_getElem? h2)⟩
theorem sg_atm {p : Nat} {w : Cond} (h : sg_at p w = true) : w ∈ lw_tbl := List.mem_of_getElem? (of_decide_eq_true h)
theorem sg_lenF : ∀ ci, ci < 9 → (ag_tF.getD ci []).length = (sg_pF.getD ci []).length := by decide +kernel
theorem sg_lenM : ∀ ci, ci < 9 → (ag_tM.getD ci []).length = (sg_pM.getD ci []).length := by decide +kernel
theorem sg_out {α : Type} {L : List (List α)} (hL : L.length = 9) {ci : Nat} (h : ¬ ci < 9) : L.getD ci [] = [] := by
  rw [List.getD_eq_getElem?_getD, List.getElem?_eq_none (by omega)]
  rfl
/-- a field's link is a word of the tables -/
theorem sg_fw {ci ix t k : Nat} (h : ag_TT.1 ci ix = some (t, k)) : sg_fl ci ix t k ∈ sg_tb := by
  by_cases hc : ci < 9
  · obtain ⟨q, hq⟩ := sg_zip (sg_lenF ci hc) h (sg_f ci hc)
    refine sg_mem (sg_atm hq) ?_
    unfold sg_fl
    split <;> rfl
  · have h2 : (ag_tF.getD ci []).lookup ix = some (t, k) := h
    rw [sg_out (by decide) hc] at h2
    cases h2
theorem sg_ms : ∀ ci, ci < 9 → (((ag_tM.getD ci []).zip (sg_pM.getD ci [])).all fun e => sg_mOk ci e.1 e.2) = true := by
  intro t ht
  have h : t = 0 ∨ t = 1 ∨ t = 2 ∨ t = 3 ∨ t = 4 ∨ t = 5 ∨ t = 6 ∨ t = 7 ∨ t = 8 := by omega
  rcases h with rfl | rfl | rfl | rfl | rfl | rfl | rfl | rfl | rfl
  · exact sg_m0
  · exact sg_m1
  · exact sg_m2
  · exact sg_m3
  · exact sg_m4
  · exact sg_m5
  · exact sg_m6
  · exact sg_m7
  · exact sg_m8
theorem sg_mw {ci ix : Nat} {e : Nat × Nat × Nat × Nat} (h : ag_TT.2.1 ci ix = some e) : ∃ q, sg_mOk ci (ix, e) q = true := by
  by_cases hc : ci < 9
  · exact sg_zip (sg_lenM ci hc) h (sg_ms ci hc)
  · have h2 : (ag_tM.getD ci []).lookup ix = some e := h
    rw [sg_out (by decide) hc] at h2
    cases h2

