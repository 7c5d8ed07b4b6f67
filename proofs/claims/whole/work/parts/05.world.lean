/-! numbers of the abstract machine against the machine's -/
theorem sg_ti {a : Int} (h : ag_in a) : (Int32.ofInt a).toInt = a := Int32.toInt_ofInt_of_le h.1 h.2
theorem sg_tl {a : Int} (h : ag_inL a) : (Int64.ofInt a).toInt = a := Int64.toInt_ofInt_of_le h.1 h.2
theorem sg_eq {a b : Int} (ha : ag_in a) (hb : ag_in b) : Int32.ofInt a = Int32.ofInt b ↔ a = b := ⟨fun h => by rw [← sg_ti ha, h, sg_ti hb], fun h => by rw [h]⟩
theorem sg_lt {a b : Int} (ha : ag_in a) (hb : ag_in b) : Int32.ofInt a < Int32.ofInt b ↔ a < b := by rw [Int32.lt_iff_toInt_lt, sg_ti ha, sg_ti hb]
theorem sg_le {a b : Int} (ha : ag_in a) (hb : ag_in b) : Int32.ofInt a ≤ Int32.ofInt b ↔ a ≤ b := by rw [Int32.le_iff_toInt_le, sg_ti ha, sg_ti hb]
theorem sg_eqL {a b : Int} (ha : ag_inL a) (hb : ag_inL b) : Int64.ofInt a = Int64.ofInt b ↔ a = b := ⟨fun h => by rw [← sg_tl ha, h, sg_tl hb], fun h => by rw [h]⟩
theorem sg_ltL {a b : Int} (ha : ag_inL a) (hb : ag_inL b) : Int64.ofInt a < Int64.ofInt b ↔ a < b := by rw [Int64.lt_iff_toInt_lt, sg_tl ha, sg_tl hb]
theorem sg_in0 : ag_in 0 := by decide
theorem sg_nat {i : Int} (h0 : 0 ≤ i) (h1 : i < 100000) : (Int32.ofInt i).toNatClampNeg = i.toNat := by
  show (Int32.ofInt i).toInt.toNat = i.toNat
  rw [sg_ti ⟨by omega, by omega⟩]
theorem sg_vp {i : Int} {n : Nat} (h0 : 0 ≤ i) (h1 : i < n) (hn : n ≤ 100000) : vp_in (Int32.ofInt i) n := by
  have e := sg_nat h0 (by omega)
  intro h
  rcases h with h | h
  · rw [show (0 : Int32) = Int32.ofInt 0 from rfl, sg_lt ⟨by omega, by omega⟩ sg_in0] at h
    omega
  · rw [e] at h
    omega
/-! values and worlds -/
def sg_up (bs : Nat) (ax : Nat → Nat) : av → Value
  | .inl z => .int (Int32.ofInt z)
  | .inr (.inl z) => .long (Int64.ofInt z)
  | .inr (.inr (.inl b)) => .float b
  | .inr (.inr (.inr (.inl (some k)))) => .ref (bs + k)
  | .inr (.inr (.inr (.inl none))) => .null
  | .inr (.inr (.inr (.inr k))) => .ref (ax k)
def sg_rf (bs : Nat) (r : Option Nat) : Value := match r with
  | none => .null
  | some k => .ref (bs + k)
def sg_fs (bs : Nat) (m : Nat → Int → Int) (k : Nat) (c : ag_C) : List Value := (List.range c.2.1).map fun i => if ag_kind c.1 i = 2 then sg_rf bs (c.2.2.getD i none) else .int (Int32.ofInt (m k i))
def sg_E (bs : Nat) (dA : Nat → ClassId) (m : Nat → Int → Int) (k : Nat) (c : ag_C) : va_E :=
  if c.1 < 8 then .inr (c.1, sg_fs bs m k c)
  else if c.1 = 11 then .inl (dA 11, c.2.1, .inr (.inl fun i => Int64.ofInt (m k i)))
  else if c.1 = 12 then .inl (dA 12, c.2.1, .inr (.inr (.inr (.inr fun i => (c.2.2.getD i none).map (bs + ·)))))
  else .inl (dA c.1, c.2.1, .inl fun i => Int32.ofInt (m k i))
def sg_W (bs : Nat) (dA : Nat → ClassId) (h : ag_H) : va_W := h.1.mapIdx fun k c => (bs + k, sg_E bs dA h.2 k c)
theorem sg_W_get {bs : Nat} {dA : Nat → ClassId} {h : ag_H} {k : Nat} {c : ag_C} (hk : h.1[k]? = some c) : (sg_W bs dA h)[k]? = some (bs + k, sg_E bs dA h.2 k c) := by
  simp [sg_W, List.getElem?_mapIdx, hk]
theorem sg_W_len {bs : Nat} {dA : Nat → ClassId} {h : ag_H} : (sg_W bs dA h).length = h.1.length := by simp [sg_W]
theorem sg_W_D {bs : Nat} {dA : Nat → ClassId} {h : ag_H} : va_D (fun q => bs ≤ q) (sg_W bs dA h) := by
  have key : ∀ (k : Nat) (q : Nat × va_E), (sg_W bs dA h)[k]? = some q → q.1 = bs + k := by
    intro k q hq
    simp only [sg_W, List.getElem?_mapIdx, Option.map_eq_some_iff] at hq
    obtain ⟨c, -, rfl⟩ := hq
    rfl
  refine ⟨fun i j p q hp hq e => ?_, fun k q hq => ?_⟩
  · have h1 := key i p hp
    have h2 := key j q hq
    omega
  · have h1 := key k q hq
    show bs ≤ q.1
    omega
/-- changing what one cell holds, in the abstract heap, is changing one place of the world -/
theorem sg_W_set {bs : Nat} {dA : Nat → ClassId} {sh : List ag_C} {m m' : Nat → Int → Int} {k : Nat} {c c' : ag_C} {e : va_E} (hk : sh[k]? = some c) (hm : ∀ j, j ≠ k → m' j = m j) (he : sg_E bs dA m' k c' = e) : sg_W bs dA (sh.set k c', m') = (sg_W bs dA (sh, m)).set k (bs + k, e) := by
  have hl := (List.getElem?_eq_some_iff.mp hk).1
  apply List.ext_getElem?
  intro j
  by_cases hj : j = k
  · subst hj
    rw [List.getElem?_set_self (by rw [sg_W_len]; exact hl)]
    rw [sg_W_get (h := (sh.set j c', m')) (c := c') (by simp [hl]), he]
  · rw [List.getElem?_set_ne (Ne.symm hj)]
    simp only [sg_W, List.getElem?_mapIdx, List.getElem?_set_ne (Ne.symm hj)]
    cases sh[j]? with
    | none => rfl
    | some d =>
      simp only [Option.map_some, sg_E, sg_fs, hm j hj]
theorem sg_W_upd {bs : Nat} {dA : Nat → ClassId} {sh : List ag_C} {m : Nat → Int → Int} {k : Nat} {i z : Int} {c : ag_C} {e : va_E} (hk : sh[k]? = some c) (he : sg_E bs dA (ag_upd m k i z) k c = e) : sg_W bs dA (sh, ag_upd m k i z) = (sg_W bs dA (sh, m)).set k (bs + k, e) := by
  have h1 : sh = sh.set k c := by
    apply List.ext_getElem?
    intro j
    by_cases hj : j = k
    · subst hj
      rw [List.getElem?_set_self (List.getElem?_eq_some_iff.mp hk).1, hk]
    · rw [List.getElem?_set_ne (Ne.symm hj)]
  have h2 := sg_W_set (bs := bs) (dA := dA) (m := m) (m' := ag_upd m k i z) (c' := c) hk (fun j hj => by funext x; simp [ag_upd, hj]) he
  rw [← h1] at h2
  exact h2
theorem sg_W_push {bs : Nat} {dA : Nat → ClassId} {sh : List ag_C} {m : Nat → Int → Int} {c : ag_C} {e : va_E} (he : sg_E bs dA (ag_zero m sh.length) sh.length c = e) : sg_W bs dA (sh ++ [c], ag_zero m sh.length) = sg_W bs dA (sh, m) ++ [(bs + sh.length, e)] := by
  apply List.ext_getElem?
  intro j
  simp only [sg_W, List.mapIdx_append, List.mapIdx_cons, List.mapIdx_nil, Nat.zero_add]
  rw [List.getElem?_append, List.getElem?_append]
  simp only [List.length_mapIdx, List.getElem?_mapIdx]
  by_cases hj : j < sh.length
  · simp only [hj, if_true]
    have hne : ¬ j = sh.length := by omega
    cases sh[j]? with
    | none => rfl
    | some d => 
      have hz : ag_zero m sh.length j = m j := by funext x; simp [ag_zero, hne]
      simp only [Option.map_some, sg_E, sg_fs, hz]
  · simp only [hj, if_false, ← he]
def sg_ss (sh : List ag_C) : Nat := (sh.map fun c => c.2.1).sum
theorem sg_ss_push (sh : List ag_C) (c : ag_C) : sg_ss (sh ++ [c]) = sg_ss sh + c.2.1 := by simp [sg_ss]
theorem sg_ss_set {sh : List ag_C} {k : Nat} {t n : Nat} {rs rs' : List (Option Nat)} {t' : Nat} (hk : sh[k]? = some (t, n, rs)) : sg_ss (sh.set k (t', n, rs')) = sg_ss sh := by
  have hl := (List.getElem?_eq_some_iff.mp hk).1
  have e : (sh.set k (t', n, rs')).map (fun c => c.2.1) = sh.map (fun c => c.2.1) := by
    apply List.ext_getElem?
    intro j
    by_cases hj : j = k
    · subst hj
      simp [hl, hk]
      have h2 := (List.getElem?_eq_some_iff.mp hk).2
      simp [h2]
    · simp [List.getElem?_set_ne (Ne.symm hj)]
  simp only [sg_ss, e]
