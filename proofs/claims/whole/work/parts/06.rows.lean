/-! each instruction: from the abstract frame behind it to the one ahead of it -/
def sg_lv (bs : Nat) (ax : Nat → Nat) (ls : List (Option av)) : List (Nat × Value) := ls.zipIdx.filterMap fun q => q.1.map fun v => (q.2, sg_up bs ax v)
theorem sg_lv_mem {bs : Nat} {ax : Nat → Nat} {ls : List (Option av)} {i : Nat} {w : Value} : (i, w) ∈ sg_lv bs ax ls ↔ ∃ v, ls[i]? = some (some v) ∧ sg_up bs ax v = w := by
  simp only [sg_lv, List.mem_filterMap, Option.map_eq_some_iff]
  constructor
  · rintro ⟨⟨o, j⟩, hq, v, rfl, e⟩
    have h1 := List.mem_zipIdx_iff_getElem?.mp hq
    cases e
    exact ⟨v, h1, rfl⟩
  · rintro ⟨v, hv, rfl⟩
    exact ⟨(some v, i), List.mem_zipIdx_iff_getElem?.mpr hv, v, rfl, rfl⟩
def sg_L (bs : Nat) (ax : Nat → Nat) (nL : Nat) (ls : List (Option av)) (rl : Array Slot) : Prop := lv_has rl nL (sg_lv bs ax ls) ∧ ls.length = nL
theorem sg_L.get {bs : Nat} {ax : Nat → Nat} {nL : Nat} {ls : List (Option av)} {rl : Array Slot} (h : sg_L bs ax nL ls rl) {i : Nat} {v : av} (hi : ls[i]? = some (some v)) : rl[i]? = some (.val (sg_up bs ax v)) :=
  h.1.2.2 (i, sg_up bs ax v) (sg_lv_mem.mpr ⟨v, hi, rfl⟩)
theorem sg_cat (bs : Nat) (ax : Nat → Nat) (v : av) : (sg_up bs ax v).category = if ag_wide (some v) = true then 2 else 1 := by
  rcases v with z | z | b | (_ | r) | k <;> rfl
theorem sg_st_len (ls : List (Option av)) (i : Nat) (v : av) : (ag_st ls i v).length = ls.length := by
  unfold ag_st
  dsimp only
  split <;> split <;> simp
theorem sg_st_get {ls : List (Option av)} {i j : Nat} {v w : av} (h : (ag_st ls i v)[j]? = some (some w)) : j = i ∧ w = v ∨ j ≠ i ∧ ls[j]? = some (some w) ∧ (ag_wide (some v) = true → j ≠ i + 1) ∧ ¬ (j + 1 = i ∧ ag_wide (some w) = true) := by
  unfold ag_st at h
  dsimp only at h
  have base : ∀ (l1 : List (Option av)), l1 = (if 0 < i ∧ ag_wide (ls.getD (i - 1) none) = true then ls.set (i - 1) none else ls) → ∀ j w, l1[j]? = some (some w) → ls[j]? = some (some w) ∧ ¬ (j + 1 = i ∧ ag_wide (some w) = true) := by
    intro l1 e j w hj
    subst e
    by_cases hc : 0 < i ∧ ag_wide (ls.getD (i - 1) none) = true
    · rw [if_pos hc] at hj
      by_cases hji : i - 1 = j
      · subst hji
        rw [List.getElem?_set_self'] at hj
        cases hq : ls[i - 1]? with
        | none => rw [hq] at hj; cases hj
        | some o => rw [hq] at hj; cases hj
      · rw [List.getElem?_set_ne hji] at hj
        exact ⟨hj, fun q => hji (by omega)⟩
    · rw [if_neg hc] at hj
      refine ⟨hj, fun q => hc ⟨by omega, ?_⟩⟩
      rw [show i - 1 = j by omega, List.getD_eq_getElem?_getD, hj]
      exact q.2
  generalize hl : (if 0 < i ∧ ag_wide (ls.getD (i - 1) none) = true then ls.set (i - 1) none else ls) = l1 at h
  have hb := base l1 hl.symm
  by_cases hv : ag_wide (some v) = true
  · rw [if_pos hv] at h
    by_cases hj1 : i + 1 = j
    · subst hj1
      rw [List.getElem?_set_self'] at h
      cases hq : (l1.set i (some v))[i + 1]? with
      | none => rw [hq] at h; cases h
      | some o => rw [hq] at h; cases h
    · rw [List.getElem?_set_ne hj1] at h
      by_cases hj : i = j
      · subst hj
        rw [List.getElem?_set_self'] at h
        cases hq : l1[i]? with
        | none => rw [hq] at h; cases h
        | some o => rw [hq] at h; cases h; exact Or.inl ⟨rfl, rfl⟩
      · rw [List.getElem?_set_ne hj] at h
        exact Or.inr ⟨fun q => hj q.symm, (hb j w h).1, fun _ q => hj1 q.symm, (hb j w h).2⟩
  · rw [if_neg hv] at h
    by_cases hj : i = j
    · subst hj
      rw [List.getElem?_set_self'] at h
      cases hq : l1[i]? with
      | none => rw [hq] at h; cases h
      | some o => rw [hq] at h; cases h; exact Or.inl ⟨rfl, rfl⟩
    · rw [List.getElem?_set_ne hj] at h
      exact Or.inr ⟨fun q => hj q.symm, (hb j w h).1, fun q => absurd q hv, (hb j w h).2⟩
theorem sg_L.put1 {bs : Nat} {ax : Nat → Nat} {nL : Nat} {ls : List (Option av)} {rl rl' : Array Slot} (h : sg_L bs ax nL ls rl) {i : Nat} {v : av} {x : Value} (hx : sg_up bs ax v = x) (hv : ag_wide (some v) = false) (h' : lv_has rl' nL ((i, x) :: (sg_lv bs ax ls).filter (fun q => !(q.1 == i) && !(q.1 + 1 == i && q.2.category == 2)))) : sg_L bs ax nL (ag_st ls i v) rl' := by
  refine ⟨⟨h'.1, h'.2.1, fun q hq => h'.2.2 q ?_⟩, by rw [sg_st_len]; exact h.2⟩
  obtain ⟨j, w⟩ := q
  obtain ⟨u, hu, rfl⟩ := sg_lv_mem.mp hq
  rcases sg_st_get hu with ⟨rfl, rfl⟩ | ⟨h1, h2, -, h4⟩
  · rw [hx]; exact List.mem_cons_self
  · refine List.mem_cons_of_mem _ (List.mem_filter.mpr ⟨sg_lv_mem.mpr ⟨u, h2, rfl⟩, ?_⟩)
    have h5 : ¬ (j + 1 = i ∧ (sg_up bs ax u).category = 2) := fun q => h4 ⟨q.1, by
      have := q.2
      rw [sg_cat] at this
      by_cases hw : ag_wide (some u) = true
      · exact hw
      · rw [if_neg hw] at this; cases this⟩
    simp [h1]
    by_cases q : j + 1 = i
    · exact Or.inr (fun z => h5 ⟨q, z⟩)
    · exact Or.inl q
theorem sg_L.put2 {bs : Nat} {ax : Nat → Nat} {nL : Nat} {ls : List (Option av)} {rl rl' : Array Slot} (h : sg_L bs ax nL ls rl) {i : Nat} {v : av} {x : Value} (hx : sg_up bs ax v = x) (hv : ag_wide (some v) = true) (h' : lv_has rl' nL ((i, x) :: (sg_lv bs ax ls).filter (fun q => !(q.1 == i) && (!(q.1 == i + 1) && !(q.1 + 1 == i && q.2.category == 2))))) : sg_L bs ax nL (ag_st ls i v) rl' := by
  refine ⟨⟨h'.1, h'.2.1, fun q hq => h'.2.2 q ?_⟩, by rw [sg_st_len]; exact h.2⟩
  obtain ⟨j, w⟩ := q
  obtain ⟨u, hu, rfl⟩ := sg_lv_mem.mp hq
  rcases sg_st_get hu with ⟨rfl, rfl⟩ | ⟨h1, h2, h3, h4⟩
  · rw [hx]; exact List.mem_cons_self
  · refine List.mem_cons_of_mem _ (List.mem_filter.mpr ⟨sg_lv_mem.mpr ⟨u, h2, rfl⟩, ?_⟩)
    have h5 : ¬ (j + 1 = i ∧ (sg_up bs ax u).category = 2) := fun q => h4 ⟨q.1, by
      have := q.2
      rw [sg_cat] at this
      by_cases hw : ag_wide (some u) = true
      · exact hw
      · rw [if_neg hw] at this; cases this⟩
    simp [h1, h3 hv]
    by_cases q : j + 1 = i
    · exact Or.inr (fun z => h5 ⟨q, z⟩)
    · exact Or.inl q
section SGR
variable {p : Program} {l : Launch} {e : Env} {R : Room} {s : State} {m : MethodId} {args : Array Value} {below : List Frame} {meth : Method} {c : Code} {Q : State → Prop} {cc : ByteArray} {nL bs n0 s0 : Nat} {dA : Nat → ClassId} {ax : Nat → Nat} {D : va_G}
/-- the walk goes on from this abstract frame, however the machine holds it -/
def sg_J (p : Program) (l : Launch) (e : Env) (R : Room) (s : State) (m : MethodId) (args : Array Value) (below : List Frame) (meth : Method) (c : Code) (Q : State → Prop) (nL bs n0 s0 : Nat) (dA : Nat → ClassId) (ax : Nat → Nat) (D : va_G) (f : ag_F) : Prop :=
  ∀ (H : Heap) (locs : List Loc) (rl : Array Slot) (cells slots : Nat), va_P D vwCl (sg_W bs dA f.2.2.2) H → H.size = bs + f.2.2.2.1.length → va_S (fun q => bs ≤ q) s.heap H locs → sg_L bs ax nL f.2.1 rl → cells + n0 = f.2.2.2.1.length → slots + s0 = sg_ss f.2.2.2.1 →
    W p l e R s m args below meth c H locs cells slots Q (F0 m f.1 rl (f.2.2.1.map (sg_up bs ax)))
variable {pc : Nat} {ls : List (Option av)} {st : List av} {h : ag_H}
end SGR
/-! numbers again -/
theorem sg_nn {a : Int} (h0 : 0 ≤ a) : a = ((a.toNat : Nat) : Int) := by omega
theorem sg_ofN (n : Nat) : Int32.ofInt (n : Int) = Int32.ofNat n := rfl
theorem sg_div {a b : Int} (h0 : 0 ≤ a) (h1 : ag_in a) (h2 : 0 < b) (h3 : ag_in b) : Int32.ofInt a / Int32.ofInt b = Int32.ofInt (a / b) := by
  have hb : Int32.ofInt b ≠ -1 := fun q => by
    have : (Int32.ofInt b).toInt = (-1 : Int32).toInt := by rw [q]
    rw [sg_ti h3] at this
    have h9 : (-1 : Int32).toInt = -1 := by decide
    omega
  apply Int32.toInt_inj.mp
  rw [Int32.toInt_div_of_ne_right _ _ hb, sg_ti h1, sg_ti h3, Int.tdiv_eq_ediv_of_nonneg h0]
  have h4 : a / b ≤ a := Int.ediv_le_self b h0
  have h5 : 0 ≤ a / b := Int.ediv_nonneg h0 (by omega)
  rw [sg_ti ⟨by omega, by have := h1.2; omega⟩]
theorem sg_rem {a b : Int} (h0 : 0 ≤ a) (h1 : ag_in a) (h2 : 0 < b) (h3 : ag_in b) : Int32.ofInt a - Int32.ofInt a / Int32.ofInt b * Int32.ofInt b = Int32.ofInt (a % b) := by
  rw [sg_div h0 h1 h2 h3, ← Int32.ofInt_mul, ← Int32.ofInt_sub, Int.emod_def, Int.mul_comm]
theorem sg_nz {b : Int} (h2 : 0 < b) (h3 : ag_in b) : ¬ Int32.ofInt b = 0 := fun q => by
  rw [show (0 : Int32) = Int32.ofInt 0 from rfl, sg_eq h3 sg_in0] at q
  omega
theorem sg_or {a b : Int} (h0 : 0 ≤ a) (h1 : 0 ≤ b) : Int32.ofInt a ||| Int32.ofInt b = Int32.ofInt ((a.toNat ||| b.toNat : Nat) : Int) := by
  obtain ⟨n, rfl⟩ := Int.eq_ofNat_of_zero_le h0
  obtain ⟨k, rfl⟩ := Int.eq_ofNat_of_zero_le h1
  rw [sg_ofN, sg_ofN, sg_ofN]
  apply Int32.toBitVec.inj
  apply BitVec.eq_of_toNat_eq
  simp [Int32.toBitVec_ofNat', Nat.or_mod_two_pow]
theorem sg_shl {a b : Int} (h0 : 0 ≤ a) (h1 : 0 ≤ b) (h2 : b < 31) : Int32.ofInt a <<< (Int32.ofInt b &&& 31) = Int32.ofInt (a * ((2 ^ b.toNat : Nat) : Int)) := by
  obtain ⟨n, rfl⟩ := Int.eq_ofNat_of_zero_le h0
  obtain ⟨k, rfl⟩ := Int.eq_ofNat_of_zero_le h1
  have hk : k < 31 := by omega
  have h8 : ∀ k, k < 31 → Int32.ofNat k &&& 31 = Int32.ofNat k := by decide
  rw [show ((n : Int) * ((2 ^ ((k : Int).toNat) : Nat) : Int)) = ((n * 2 ^ k : Nat) : Int) by simp, sg_ofN, sg_ofN, sg_ofN, h8 k hk]
  apply Int32.toBitVec.inj
  apply BitVec.eq_of_toNat_eq
  have h9 : ∀ k, k < 31 → ((Int32.ofNat k).toBitVec.smod 32).toNat = k := by decide
  simp [Int32.toBitVec_ofNat', Nat.shiftLeft_eq]
  have h10 : ((BitVec.ofNat 32 k).smod 32#32).toNat = k := h9 k hk
  rw [h10]
theorem sg_and (a : Int) : Int32.ofInt a &&& Int32.ofInt 31 = Int32.ofInt (a % 32) := by
  apply Int32.toBitVec.inj
  apply BitVec.eq_of_toNat_eq
  have h1 : ∀ x : Nat, x &&& 31 = x % 32 := fun x => Nat.and_two_pow_sub_one_eq_mod x 5
  simp [Int32.toBitVec_ofInt, BitVec.toNat_ofInt, h1]
  omega
theorem sg_i2l {a : Int} (h1 : ag_in a) : (Int32.ofInt a).toInt64 = Int64.ofInt a := by
  apply Int64.toInt_inj.mp
  have := h1.1
  have := h1.2
  rw [Int32.toInt_toInt64, sg_ti h1, sg_tl ⟨by omega, by omega⟩]
theorem sg_lcmp {a b : Int} (ha : ag_inL a) (hb : ag_inL b) : lg_cmp (Int64.ofInt a) (Int64.ofInt b) = Int32.ofInt (if a < b then -1 else if a = b then 0 else 1) := by
  unfold lg_cmp
  simp only [sg_ltL ha hb, sg_eqL ha hb, sg_ltL hb ha]
  repeat' split
  all_goals first | rfl | omega
