/-! LEVEL 2: rules for runs of the abstract machine, whatever the fuel -/
def ag_steps (T : ag_T) (call : Nat → List av → ag_H → Option ag_O) (E : Nat × (Int → Int)) (M : ag_M) : Nat → ag_F → Option ag_F
  | 0, f => some f
  | n + 1, (pc, ls, st, h) => match M.2.2.2.2[pc]? with
    | some (some (i, len)) => match ag_step T call E M.1 M.2.1 M.2.2.1 i len pc ls st h with
      | some (.inl f) => ag_steps T call E M n f
      | _ => none
    | _ => none
/-- a body's run from this frame answers r -/
def AR (E : Nat × (Int → Int)) (d : Nat) (M : ag_M) (f : ag_F) (r : ag_O → Prop) : Prop := ∃ n N o, r o ∧ ∀ fuel, N ≤ fuel → ag_run ag_TT (ag_call ag_TT ag_Ms E fuel d) E M n f = some o
/-- a call answers r -/
def Ev (E : Nat × (Int → Int)) (d y : Nat) (as : List av) (h : ag_H) (r : ag_O) : Prop := ∃ N, ∀ fuel, N ≤ fuel → ag_call ag_TT ag_Ms E fuel d y as h = some r
section AR
variable {E : Nat × (Int → Int)} {d : Nat} {M : ag_M} {r : ag_O → Prop}
theorem ag_run_steps {T : ag_T} {call : Nat → List av → ag_H → Option ag_O} : ∀ (k : Nat) (f f' : ag_F) (n : Nat), ag_steps T call E M k f = some f' → ag_run T call E M (k + n) f = ag_run T call E M n f' := by
  intro k
  induction k with
  | zero => intro f f' n h; cases h; rw [Nat.zero_add]
  | succ k ih =>
    intro f f' n h
    obtain ⟨pc, ls, st, hp⟩ := f
    rw [Nat.succ_add]
    unfold ag_steps at h
    conv => lhs; unfold ag_run
    split at h
    · rename_i i len hq
      rw [hq]
      dsimp only
      split at h
      · rename_i f1 hs
        rw [hs]
        exact ih f1 f' n h
      · cases h
    · cases h
theorem AR.blk {f f' : ag_F} (k : Nat) (hs : ∀ call, ag_steps ag_TT call E M k f = some f') (kk : AR E d M f' r) : AR E d M f r := by
  obtain ⟨n, N, o, q, h⟩ := kk
  exact ⟨k + n, N, o, q, fun fuel hf => by rw [ag_run_steps k f f' n (hs _)]; exact h fuel hf⟩
theorem AR.one {pc : Nat} {ls : List (Option av)} {st : List av} {h : ag_H} {f' : ag_F} {i : Instr} {len : Nat} (hc : M.2.2.2.2[pc]? = some (some (i, len))) (hs : ∃ N, ∀ fuel, N ≤ fuel → ag_step ag_TT (ag_call ag_TT ag_Ms E fuel d) E M.1 M.2.1 M.2.2.1 i len pc ls st h = some (.inl f')) (kk : AR E d M f' r) : AR E d M (pc, ls, st, h) r := by
  obtain ⟨n, N, o, q, h1⟩ := kk
  obtain ⟨N2, h2⟩ := hs
  refine ⟨n + 1, max N N2, o, q, fun fuel hf => ?_⟩
  unfold ag_run
  rw [hc]
  dsimp only
  rw [h2 fuel (by omega)]
  exact h1 fuel (by omega)
theorem AR.one0 {pc : Nat} {ls : List (Option av)} {st : List av} {h : ag_H} {f' : ag_F} {i : Instr} {len : Nat} (hc : M.2.2.2.2[pc]? = some (some (i, len))) (hs : ∀ call, ag_step ag_TT call E M.1 M.2.1 M.2.2.1 i len pc ls st h = some (.inl f')) (kk : AR E d M f' r) : AR E d M (pc, ls, st, h) r :=
  AR.one hc ⟨0, fun _ _ => hs _⟩ kk
theorem AR.fin {pc : Nat} {ls : List (Option av)} {st : List av} {h : ag_H} {i : Instr} {len : Nat} (hc : M.2.2.2.2[pc]? = some (some (i, len))) {o : ag_O} (hs : ∀ call, ag_step ag_TT call E M.1 M.2.1 M.2.2.1 i len pc ls st h = some (.inr o)) (hq : r o) : AR E d M (pc, ls, st, h) r :=
  ⟨1, 0, o, hq, fun fuel _ => by unfold ag_run; rw [hc]; dsimp only; rw [hs]⟩
theorem ag_ck_of {α : Type} {P : Prop} [Decidable P] {k : Option α} (h : P) : ag_ck P k = k := if_pos h
variable {pc : Nat} {ls : List (Option av)} {st : List av} {h : ag_H}
/-! branches -/
theorem AR.if_eq {a off : Int} (hc : M.2.2.2.2[pc]? = some (some (.ifCond .eq off, 3))) (ha : ag_in a) (kt : a = 0 → AR E d M (ag_tgt pc off, ls, st, h) r) (kf : ¬ a = 0 → AR E d M (pc + 3, ls, st, h) r) : AR E d M (pc, ls, vI a :: st, h) r := by
  by_cases q : a = 0
  · exact AR.one0 hc (fun _ => (ag_ck_of ha).trans (if_pos (decide_eq_true q))) (kt q)
  · exact AR.one0 hc (fun _ => (ag_ck_of ha).trans (if_neg (fun z => q (of_decide_eq_true z)))) (kf q)
theorem AR.if_ne {a off : Int} (hc : M.2.2.2.2[pc]? = some (some (.ifCond .ne off, 3))) (ha : ag_in a) (kt : ¬ a = 0 → AR E d M (ag_tgt pc off, ls, st, h) r) (kf : a = 0 → AR E d M (pc + 3, ls, st, h) r) : AR E d M (pc, ls, vI a :: st, h) r := by
  by_cases q : a = 0
  · exact AR.one0 hc (fun _ => (ag_ck_of ha).trans (if_neg (fun z => (show ¬ a = 0 from of_decide_eq_true z) q))) (kf q)
  · exact AR.one0 hc (fun _ => (ag_ck_of ha).trans (if_pos (decide_eq_true q))) (kt q)
theorem AR.if_lt {a off : Int} (hc : M.2.2.2.2[pc]? = some (some (.ifCond .lt off, 3))) (ha : ag_in a) (kt : a < 0 → AR E d M (ag_tgt pc off, ls, st, h) r) (kf : ¬ a < 0 → AR E d M (pc + 3, ls, st, h) r) : AR E d M (pc, ls, vI a :: st, h) r := by
  by_cases q : a < 0
  · exact AR.one0 hc (fun _ => (ag_ck_of ha).trans (if_pos (decide_eq_true q))) (kt q)
  · exact AR.one0 hc (fun _ => (ag_ck_of ha).trans (if_neg (fun z => q (of_decide_eq_true z)))) (kf q)
theorem AR.if_ge {a off : Int} (hc : M.2.2.2.2[pc]? = some (some (.ifCond .ge off, 3))) (ha : ag_in a) (kt : 0 ≤ a → AR E d M (ag_tgt pc off, ls, st, h) r) (kf : ¬ 0 ≤ a → AR E d M (pc + 3, ls, st, h) r) : AR E d M (pc, ls, vI a :: st, h) r := by
  by_cases q : 0 ≤ a
  · exact AR.one0 hc (fun _ => (ag_ck_of ha).trans (if_pos (decide_eq_true q))) (kt q)
  · exact AR.one0 hc (fun _ => (ag_ck_of ha).trans (if_neg (fun z => q (of_decide_eq_true z)))) (kf q)
theorem AR.if_gt {a off : Int} (hc : M.2.2.2.2[pc]? = some (some (.ifCond .gt off, 3))) (ha : ag_in a) (kt : 0 < a → AR E d M (ag_tgt pc off, ls, st, h) r) (kf : ¬ 0 < a → AR E d M (pc + 3, ls, st, h) r) : AR E d M (pc, ls, vI a :: st, h) r := by
  by_cases q : 0 < a
  · exact AR.one0 hc (fun _ => (ag_ck_of ha).trans (if_pos (decide_eq_true q))) (kt q)
  · exact AR.one0 hc (fun _ => (ag_ck_of ha).trans (if_neg (fun z => q (of_decide_eq_true z)))) (kf q)
theorem AR.if_le {a off : Int} (hc : M.2.2.2.2[pc]? = some (some (.ifCond .le off, 3))) (ha : ag_in a) (kt : a ≤ 0 → AR E d M (ag_tgt pc off, ls, st, h) r) (kf : ¬ a ≤ 0 → AR E d M (pc + 3, ls, st, h) r) : AR E d M (pc, ls, vI a :: st, h) r := by
  by_cases q : a ≤ 0
  · exact AR.one0 hc (fun _ => (ag_ck_of ha).trans (if_pos (decide_eq_true q))) (kt q)
  · exact AR.one0 hc (fun _ => (ag_ck_of ha).trans (if_neg (fun z => q (of_decide_eq_true z)))) (kf q)
theorem AR.ic_eq {a b off : Int} (hc : M.2.2.2.2[pc]? = some (some (.if_icmp .eq off, 3))) (ha : ag_in a ∧ ag_in b) (kt : a = b → AR E d M (ag_tgt pc off, ls, st, h) r) (kf : ¬ a = b → AR E d M (pc + 3, ls, st, h) r) : AR E d M (pc, ls, vI b :: vI a :: st, h) r := by
  by_cases q : a = b
  · exact AR.one0 hc (fun _ => (ag_ck_of ha).trans (if_pos (decide_eq_true q))) (kt q)
  · exact AR.one0 hc (fun _ => (ag_ck_of ha).trans (if_neg (fun z => q (of_decide_eq_true z)))) (kf q)
theorem AR.ic_ne {a b off : Int} (hc : M.2.2.2.2[pc]? = some (some (.if_icmp .ne off, 3))) (ha : ag_in a ∧ ag_in b) (kt : ¬ a = b → AR E d M (ag_tgt pc off, ls, st, h) r) (kf : a = b → AR E d M (pc + 3, ls, st, h) r) : AR E d M (pc, ls, vI b :: vI a :: st, h) r := by
  by_cases q : a = b
  · exact AR.one0 hc (fun _ => (ag_ck_of ha).trans (if_neg (fun z => (show ¬ a = b from of_decide_eq_true z) q))) (kf q)
  · exact AR.one0 hc (fun _ => (ag_ck_of ha).trans (if_pos (decide_eq_true q))) (kt q)
theorem AR.ic_lt {a b off : Int} (hc : M.2.2.2.2[pc]? = some (some (.if_icmp .lt off, 3))) (ha : ag_in a ∧ ag_in b) (kt : a < b → AR E d M (ag_tgt pc off, ls, st, h) r) (kf : ¬ a < b → AR E d M (pc + 3, ls, st, h) r) : AR E d M (pc, ls, vI b :: vI a :: st, h) r := by
  by_cases q : a < b
  · exact AR.one0 hc (fun _ => (ag_ck_of ha).trans (if_pos (decide_eq_true q))) (kt q)
  · exact AR.one0 hc (fun _ => (ag_ck_of ha).trans (if_neg (fun z => q (of_decide_eq_true z)))) (kf q)
theorem AR.ic_ge {a b off : Int} (hc : M.2.2.2.2[pc]? = some (some (.if_icmp .ge off, 3))) (ha : ag_in a ∧ ag_in b) (kt : b ≤ a → AR E d M (ag_tgt pc off, ls, st, h) r) (kf : ¬ b ≤ a → AR E d M (pc + 3, ls, st, h) r) : AR E d M (pc, ls, vI b :: vI a :: st, h) r := by
  by_cases q : b ≤ a
  · exact AR.one0 hc (fun _ => (ag_ck_of ha).trans (if_pos (decide_eq_true q))) (kt q)
  · exact AR.one0 hc (fun _ => (ag_ck_of ha).trans (if_neg (fun z => q (of_decide_eq_true z)))) (kf q)
theorem AR.ic_gt {a b off : Int} (hc : M.2.2.2.2[pc]? = some (some (.if_icmp .gt off, 3))) (ha : ag_in a ∧ ag_in b) (kt : b < a → AR E d M (ag_tgt pc off, ls, st, h) r) (kf : ¬ b < a → AR E d M (pc + 3, ls, st, h) r) : AR E d M (pc, ls, vI b :: vI a :: st, h) r := by
  by_cases q : b < a
  · exact AR.one0 hc (fun _ => (ag_ck_of ha).trans (if_pos (decide_eq_true q))) (kt q)
  · exact AR.one0 hc (fun _ => (ag_ck_of ha).trans (if_neg (fun z => q (of_decide_eq_true z)))) (kf q)
theorem AR.ic_le {a b off : Int} (hc : M.2.2.2.2[pc]? = some (some (.if_icmp .le off, 3))) (ha : ag_in a ∧ ag_in b) (kt : a ≤ b → AR E d M (ag_tgt pc off, ls, st, h) r) (kf : ¬ a ≤ b → AR E d M (pc + 3, ls, st, h) r) : AR E d M (pc, ls, vI b :: vI a :: st, h) r := by
  by_cases q : a ≤ b
  · exact AR.one0 hc (fun _ => (ag_ck_of ha).trans (if_pos (decide_eq_true q))) (kt q)
  · exact AR.one0 hc (fun _ => (ag_ck_of ha).trans (if_neg (fun z => q (of_decide_eq_true z)))) (kf q)
/-! arithmetic with conditions -/
theorem AR.idiv {a b : Int} (hc : M.2.2.2.2[pc]? = some (some (.idiv, 1))) (ha : 0 ≤ a ∧ ag_in a ∧ 0 < b ∧ ag_in b) (k : AR E d M (pc + 1, ls, vI (a / b) :: st, h) r) : AR E d M (pc, ls, vI b :: vI a :: st, h) r := AR.one0 hc (fun _ => ag_ck_of ha) k
theorem AR.irem {a b : Int} (hc : M.2.2.2.2[pc]? = some (some (.irem, 1))) (ha : 0 ≤ a ∧ ag_in a ∧ 0 < b ∧ ag_in b) (k : AR E d M (pc + 1, ls, vI (a % b) :: st, h) r) : AR E d M (pc, ls, vI b :: vI a :: st, h) r := AR.one0 hc (fun _ => ag_ck_of ha) k
theorem AR.iand {a b : Int} (hc : M.2.2.2.2[pc]? = some (some (.iand, 1))) (ha : ag_in a ∧ b = 31) (k : AR E d M (pc + 1, ls, vI (a % 32) :: st, h) r) : AR E d M (pc, ls, vI b :: vI a :: st, h) r := AR.one0 hc (fun _ => ag_ck_of ha) k
theorem AR.ior {a b : Int} (hc : M.2.2.2.2[pc]? = some (some (.ior, 1))) (ha : 0 ≤ a ∧ ag_in a ∧ 0 ≤ b ∧ ag_in b) (k : AR E d M (pc + 1, ls, vI ((a.toNat ||| b.toNat : Nat) : Int) :: st, h) r) : AR E d M (pc, ls, vI b :: vI a :: st, h) r := AR.one0 hc (fun _ => ag_ck_of ha) k
theorem AR.ishl {a b : Int} (hc : M.2.2.2.2[pc]? = some (some (.ishl, 1))) (ha : 0 ≤ a ∧ 0 ≤ b ∧ b < 31 ∧ a < 2147483648) (k : AR E d M (pc + 1, ls, vI (a * (2 ^ b.toNat : Nat)) :: st, h) r) : AR E d M (pc, ls, vI b :: vI a :: st, h) r := AR.one0 hc (fun _ => ag_ck_of ha) k
theorem AR.i2l {a : Int} (hc : M.2.2.2.2[pc]? = some (some (.i2l, 1))) (ha : ag_in a) (k : AR E d M (pc + 1, ls, vJ a :: st, h) r) : AR E d M (pc, ls, vI a :: st, h) r := AR.one0 hc (fun _ => ag_ck_of ha) k
theorem AR.lcmp {a b : Int} (hc : M.2.2.2.2[pc]? = some (some (.lcmp, 1))) (ha : ag_inL a ∧ ag_inL b) (k : AR E d M (pc + 1, ls, vI (if a < b then -1 else if a = b then 0 else 1) :: st, h) r) : AR E d M (pc, ls, vJ b :: vJ a :: st, h) r := AR.one0 hc (fun _ => ag_ck_of ha) k
/-! the heap -/
theorem ag_at_of {α : Type} {h : ag_H} {a t n : Nat} {rs : List (Option Nat)} {k : Nat → List (Option Nat) → Option α} (hh : h.1[a]? = some (t, n, rs)) : ag_at h a t k = k n rs := by
  unfold ag_at
  rw [hh]
  exact if_pos rfl
theorem AR.getI {ix t k a n : Nat} {rs : List (Option Nat)} (hc : M.2.2.2.2[pc]? = some (some (.getfield ix, 3))) (hf : ag_TT.1 M.1 ix = some (t, k)) (ha : h.1[a]? = some (t, n, rs)) (hk : (k < ag_nf t ∧ k < n) ∧ ag_kind t k ≠ 2) {v : Int} (hv : h.2 a k = v) (kk : AR E d M (pc + 3, ls, vI v :: st, h) r) : AR E d M (pc, ls, vA a :: st, h) r := by
  subst hv
  refine AR.one0 hc (fun _ => ?_) kk
  show (match ag_TT.1 M.1 ix with | some (t, k) => ag_at h a t fun n rs => ag_ck (k < ag_nf t ∧ k < n) (ag_go (pc + 3) ls ((if ag_kind t k = 2 then vR (rs.getD k none) else vI (h.2 a k)) :: st) h) | none => none) = _
  rw [hf]
  refine (ag_at_of ha).trans ((ag_ck_of hk.1).trans ?_)
  rw [if_neg hk.2]
theorem AR.getR {ix t k a b n : Nat} {rs : List (Option Nat)} (hc : M.2.2.2.2[pc]? = some (some (.getfield ix, 3))) (hf : ag_TT.1 M.1 ix = some (t, k)) (ha : h.1[a]? = some (t, n, rs)) (hk : (k < ag_nf t ∧ k < n) ∧ ag_kind t k = 2) (hb : rs.getD k none = some b) (kk : AR E d M (pc + 3, ls, vA b :: st, h) r) : AR E d M (pc, ls, vA a :: st, h) r := by
  refine AR.one0 hc (fun _ => ?_) kk
  show (match ag_TT.1 M.1 ix with | some (t, k) => ag_at h a t fun n rs => ag_ck (k < ag_nf t ∧ k < n) (ag_go (pc + 3) ls ((if ag_kind t k = 2 then vR (rs.getD k none) else vI (h.2 a k)) :: st) h) | none => none) = _
  rw [hf]
  refine (ag_at_of ha).trans ((ag_ck_of hk.1).trans ?_)
  rw [if_pos hk.2, hb]
theorem AR.putI {ix t k a n : Nat} {z : Int} {rs : List (Option Nat)} (hc : M.2.2.2.2[pc]? = some (some (.putfield ix, 3))) (hf : ag_TT.1 M.1 ix = some (t, k)) (ha : h.1[a]? = some (t, n, rs)) (hk : k < ag_nf t ∧ k < n ∧ ag_kind t k ≠ 2) (h1 : ag_kind t k = 1 → z = 0 ∨ z = 1) (kk : AR E d M (pc + 3, ls, st, (h.1, ag_upd h.2 a k z)) r) : AR E d M (pc, ls, vI z :: vA a :: st, h) r := by
  refine AR.one0 hc (fun _ => ?_) kk
  show (match ag_TT.1 M.1 ix with | some (t, k) => ag_ck (k < ag_nf t) (if ag_kind t k = 2 then _ else ag_i1 (vI z :: vA a :: st) fun z r => ag_a1 r fun a r => ag_at h a t fun n _ => ag_ck ((ag_kind t k = 1 → z = 0 ∨ z = 1) ∧ k < n) (ag_go (pc + 3) ls r (h.1, ag_upd h.2 a k z))) | none => none) = _
  rw [hf]
  refine (ag_ck_of hk.1).trans ((if_neg hk.2.2).trans ?_)
  exact (ag_at_of ha).trans (ag_ck_of ⟨h1, hk.2.1⟩)
theorem AR.iald {a n : Nat} {i : Int} {rs : List (Option Nat)} (hc : M.2.2.2.2[pc]? = some (some (.iaload, 1))) (ha : h.1[a]? = some (8, n, rs)) (hi : 0 ≤ i ∧ i < n ∧ n ≤ 100000) {v : Int} (hv : h.2 a i = v) (kk : AR E d M (pc + 1, ls, vI v :: st, h) r) : AR E d M (pc, ls, vI i :: vA a :: st, h) r :=
  by subst hv; exact AR.one0 hc (fun _ => (ag_at_of ha).trans (ag_ck_of hi)) kk
theorem AR.zald {a n : Nat} {i : Int} {rs : List (Option Nat)} (hc : M.2.2.2.2[pc]? = some (some (.baload, 1))) (ha : h.1[a]? = some (9, n, rs)) (hi : 0 ≤ i ∧ i < n ∧ n ≤ 100000) {v : Int} (hv : h.2 a i = v) (kk : AR E d M (pc + 1, ls, vI v :: st, h) r) : AR E d M (pc, ls, vI i :: vA a :: st, h) r :=
  by subst hv; exact AR.one0 hc (fun _ => (ag_at_of ha).trans (ag_ck_of hi)) kk
theorem AR.cald {a n : Nat} {i : Int} {rs : List (Option Nat)} (hc : M.2.2.2.2[pc]? = some (some (.caload, 1))) (ha : h.1[a]? = some (10, n, rs)) (hi : 0 ≤ i ∧ i < n ∧ n ≤ 100000) {v : Int} (hv : h.2 a i = v) (kk : AR E d M (pc + 1, ls, vI v :: st, h) r) : AR E d M (pc, ls, vI i :: vA a :: st, h) r :=
  by subst hv; exact AR.one0 hc (fun _ => (ag_at_of ha).trans (ag_ck_of hi)) kk
theorem AR.lald {a n : Nat} {i : Int} {rs : List (Option Nat)} (hc : M.2.2.2.2[pc]? = some (some (.laload, 1))) (ha : h.1[a]? = some (11, n, rs)) (hi : 0 ≤ i ∧ i < n ∧ n ≤ 100000) {v : Int} (hv : h.2 a i = v) (kk : AR E d M (pc + 1, ls, vJ v :: st, h) r) : AR E d M (pc, ls, vI i :: vA a :: st, h) r :=
  by subst hv; exact AR.one0 hc (fun _ => (ag_at_of ha).trans (ag_ck_of hi)) kk
theorem AR.qald {a b n : Nat} {i : Int} {rs : List (Option Nat)} (hc : M.2.2.2.2[pc]? = some (some (.aaload, 1))) (ha : h.1[a]? = some (12, n, rs)) (hi : 0 ≤ i ∧ i < n ∧ n ≤ 100000) (hb : rs.getD i.toNat none = some b) (kk : AR E d M (pc + 1, ls, vA b :: st, h) r) : AR E d M (pc, ls, vI i :: vA a :: st, h) r :=
  AR.one0 hc (fun _ => (ag_at_of ha).trans ((ag_ck_of hi).trans (by rw [hb]))) kk
theorem AR.iast {a n : Nat} {i z : Int} {rs : List (Option Nat)} (hc : M.2.2.2.2[pc]? = some (some (.iastore, 1))) (ha : h.1[a]? = some (8, n, rs)) (hi : 0 ≤ i ∧ i < n ∧ n ≤ 100000) (kk : AR E d M (pc + 1, ls, st, (h.1, ag_upd h.2 a i z)) r) : AR E d M (pc, ls, vI z :: vI i :: vA a :: st, h) r :=
  AR.one0 hc (fun _ => (ag_at_of ha).trans (ag_ck_of hi)) kk
theorem AR.zast {a n : Nat} {i z : Int} {rs : List (Option Nat)} (hc : M.2.2.2.2[pc]? = some (some (.bastore, 1))) (ha : h.1[a]? = some (9, n, rs)) (hi : 0 ≤ i ∧ i < n ∧ n ≤ 100000 ∧ (z = 0 ∨ z = 1)) (kk : AR E d M (pc + 1, ls, st, (h.1, ag_upd h.2 a i z)) r) : AR E d M (pc, ls, vI z :: vI i :: vA a :: st, h) r :=
  AR.one0 hc (fun _ => (ag_at_of ha).trans (ag_ck_of hi)) kk
theorem AR.cast {a n : Nat} {i z : Int} {rs : List (Option Nat)} (hc : M.2.2.2.2[pc]? = some (some (.castore, 1))) (ha : h.1[a]? = some (10, n, rs)) (hi : 0 ≤ i ∧ i < n ∧ n ≤ 100000 ∧ 0 ≤ z ∧ z < 65536) (kk : AR E d M (pc + 1, ls, st, (h.1, ag_upd h.2 a i z)) r) : AR E d M (pc, ls, vI z :: vI i :: vA a :: st, h) r :=
  AR.one0 hc (fun _ => (ag_at_of ha).trans (ag_ck_of hi)) kk
theorem AR.last {a n : Nat} {i z : Int} {rs : List (Option Nat)} (hc : M.2.2.2.2[pc]? = some (some (.lastore, 1))) (ha : h.1[a]? = some (11, n, rs)) (hi : 0 ≤ i ∧ i < n ∧ n ≤ 100000) (kk : AR E d M (pc + 1, ls, st, (h.1, ag_upd h.2 a i z)) r) : AR E d M (pc, ls, vJ z :: vI i :: vA a :: st, h) r :=
  AR.one0 hc (fun _ => (ag_at_of ha).trans (ag_ck_of hi)) kk
/-! calls -/
theorem ag_args_st {as rest : List av} {n : Nat} (hn : as.length = n) : ((as.reverse ++ rest).take n).reverse = as ∧ (as.reverse ++ rest).drop n = rest ∧ n ≤ (as.reverse ++ rest).length := by
  subst hn
  refine ⟨?_, ?_, by simp⟩
  · rw [List.take_append_of_le_length (by simp), List.take_of_length_le (by simp), List.reverse_reverse]
  · rw [List.drop_append_of_le_length (by simp), List.drop_of_length_le (by simp), List.nil_append]
theorem AR.callS {ix y n t : Nat} (as : List av) {rest : List av} {o : Option av} {h' : ag_H} (hE : Ev E d y as h (o, h')) (hc : M.2.2.2.2[pc]? = some (some (.invokestatic ix, 3))) (hf : ag_TT.2.1 M.1 ix = some (1, y, n, t)) (hst : st = as.reverse ++ rest) (hn1 : as.length = n) (hn2 : Nat.ble rest.length 4 = true) (kk : AR E d M (pc + 3, ls, ag_push o rest, h') r) : AR E d M (pc, ls, st, h) r := by
  subst hst
  have hn := And.intro hn1 (Nat.le_of_ble_eq_true hn2)
  obtain ⟨N, hN⟩ := hE
  obtain ⟨h1, h2, h3⟩ := ag_args_st (rest := rest) hn.1
  refine AR.one hc ⟨N, fun fuel hfu => ?_⟩ kk
  unfold ag_step
  dsimp only
  rw [hf]
  refine (ag_ck_of ⟨h3, by rw [h2]; exact hn.2⟩).trans ?_
  rw [h1, hN fuel hfu, h2]
theorem ag_recv_of {a t k : Nat} {as : List av} {rs : List (Option Nat)} (hh : h.1[a]? = some (t, k, rs)) : ag_recv h (vA a :: as) t = true := by
  show (match h.1[a]? with | some (t', _) => t' == t | none => false) = true
  rw [hh]
  exact beq_self_eq_true t
theorem AR.callV {ix y n t a k : Nat} (as : List av) {rest : List av} {o : Option av} {h' : ag_H} {rs : List (Option Nat)} (hE : Ev E d y (vA a :: as) h (o, h')) (hh : h.1[a]? = some (t, k, rs)) (hc : M.2.2.2.2[pc]? = some (some (.invokevirtual ix, 3))) (hf : ag_TT.2.1 M.1 ix = some (2, y, n, t)) (hst : st = (vA a :: as).reverse ++ rest) (hn1 : (vA a :: as).length = n) (hn2 : Nat.ble rest.length 4 = true) (kk : AR E d M (pc + 3, ls, ag_push o rest, h') r) : AR E d M (pc, ls, st, h) r := by
  subst hst
  have hn := And.intro hn1 (Nat.le_of_ble_eq_true hn2)
  obtain ⟨N, hN⟩ := hE
  obtain ⟨h1, h2, h3⟩ := ag_args_st (rest := rest) hn.1
  refine AR.one hc ⟨N, fun fuel hfu => ?_⟩ kk
  unfold ag_step
  dsimp only
  rw [hf]
  refine (ag_ck_of ⟨h3, by rw [h2]; exact hn.2, by rw [h1]; exact ag_recv_of hh⟩).trans ?_
  rw [h1, hN fuel hfu, h2]
theorem AR.callI {ix y n t a k : Nat} (as : List av) {rest : List av} {o : Option av} {h' : ag_H} {rs : List (Option Nat)} (hE : Ev E d y (vA a :: as) h (o, h')) (hh : h.1[a]? = some (t, k, rs)) (hc : M.2.2.2.2[pc]? = some (some (.invokespecial ix, 3))) (hf : ag_TT.2.1 M.1 ix = some (3, y, n, t)) (hst : st = (vA a :: as).reverse ++ rest) (hn1 : (vA a :: as).length = n) (hn2 : Nat.ble rest.length 4 = true) (kk : AR E d M (pc + 3, ls, ag_push o rest, h') r) : AR E d M (pc, ls, st, h) r := by
  subst hst
  have hn := And.intro hn1 (Nat.le_of_ble_eq_true hn2)
  obtain ⟨N, hN⟩ := hE
  obtain ⟨h1, h2, h3⟩ := ag_args_st (rest := rest) hn.1
  refine AR.one hc ⟨N, fun fuel hfu => ?_⟩ kk
  unfold ag_step
  dsimp only
  rw [hf]
  refine (ag_ck_of ⟨h3, by rw [h2]; exact hn.2, by rw [h1]; exact ag_recv_of hh⟩).trans ?_
  rw [h1, hN fuel hfu, h2]
/-! returns, switches, the library -/
theorem AR.retI {e z : Int} {h' : ag_H} (hc : M.2.2.2.2[pc]? = some (some (.ireturn, 1))) (he : e = z) (hv : ag_rv M.2.1 (vI e) = true ∧ (M.2.1 = 1 ∨ M.2.1 = 2)) (hh : h = h') : AR E d M (pc, ls, [vI e], h) (fun x => x = (some (vI z), h')) := by
  subst he hh
  exact AR.fin hc (fun _ => ag_ck_of hv) rfl
theorem AR.retZ {e z : Int} {h' : ag_H} (hc : M.2.2.2.2[pc]? = some (some (.ireturn, 1))) (he : e = z) (hr : M.2.1 = 2) (hz : e = 0 ∨ e = 1) (hh : h = h') : AR E d M (pc, ls, [vI e], h) (fun x => x = (some (vI z), h')) := by
  subst he hh
  refine AR.fin hc (fun _ => ag_ck_of ⟨?_, .inr hr⟩) rfl
  show decide (M.2.1 = 1 ∨ M.2.1 = 2 ∧ (e = 0 ∨ e = 1)) = true
  exact decide_eq_true (.inr ⟨hr, hz⟩)
theorem AR.retJ {e z : Int} {h' : ag_H} (hc : M.2.2.2.2[pc]? = some (some (.lreturn, 1))) (he : e = z) (hr : M.2.1 = 3) (hh : h = h') : AR E d M (pc, ls, [vJ e], h) (fun x => x = (some (vJ z), h')) := by
  subst he hh
  refine AR.fin hc (fun _ => ag_ck_of ⟨?_, hr⟩) rfl
  show decide (M.2.1 = 3) = true
  exact decide_eq_true hr
theorem AR.retV {h' : ag_H} (hc : M.2.2.2.2[pc]? = some (some (.return_, 1))) (hr : M.2.1 = 0) (hh : h = h') : AR E d M (pc, ls, [], h) (fun x => x = (none, h')) := by
  subst hh
  exact AR.fin hc (fun _ => ag_ck_of ⟨hr, rfl⟩) rfl
theorem AR.endI {e : Int} (hc : M.2.2.2.2[pc]? = some (some (.ireturn, 1))) (hv : M.2.1 = 1 ∨ M.2.1 = 2 ∧ (e = 0 ∨ e = 1)) (hq : r (some (vI e), h)) : AR E d M (pc, ls, [vI e], h) r := by
  refine AR.fin hc (fun _ => ag_ck_of ⟨decide_eq_true hv, ?_⟩) hq
  rcases hv with q | q
  · exact .inl q
  · exact .inr q.1
theorem AR.endV (hc : M.2.2.2.2[pc]? = some (some (.return_, 1))) (hr : M.2.1 = 0) (hq : r (none, h)) : AR E d M (pc, ls, [], h) r :=
  AR.fin hc (fun _ => ag_ck_of ⟨hr, rfl⟩) hq
theorem AR.tswA {a dd lo hi off : Int} {len : Nat} {offs : Array Int} (j : Nat) (hc : M.2.2.2.2[pc]? = some (some (.tableswitch dd lo hi offs, len))) (ha : ag_in a) {b : Int} (hb : a = b) (ho : offs[j]? = some off) (hj : b = lo + j ∧ b ≤ hi) (k : AR E d M (ag_tgt pc off, ls, st, h) r) : AR E d M (pc, ls, vI a :: st, h) r := by
  subst hb
  refine AR.one0 hc (fun _ => ?_) k
  refine (ag_ck_of ha).trans ((if_neg (by omega)).trans ?_)
  rw [show (a - lo).toNat = j by omega, ho]
theorem AR.tswD {a dd lo hi : Int} {len : Nat} {offs : Array Int} (hc : M.2.2.2.2[pc]? = some (some (.tableswitch dd lo hi offs, len))) (ha : ag_in a) (hj : a < lo ∨ hi < a) (k : AR E d M (ag_tgt pc dd, ls, st, h) r) : AR E d M (pc, ls, vI a :: st, h) r :=
  AR.one0 hc (fun _ => (ag_ck_of ha).trans (if_pos hj)) k
theorem AR.min {a b : Int} {ix y n t : Nat} (hc : M.2.2.2.2[pc]? = some (some (.invokestatic ix, 3))) (hf : ag_TT.2.1 M.1 ix = some (11, y, n, t)) (ha : (ag_in a ∧ ag_in b) ∧ st.length ≤ 3) (k : AR E d M (pc + 3, ls, vI (if b < a then b else a) :: st, h) r) : AR E d M (pc, ls, vI b :: vI a :: st, h) r := by
  refine AR.one0 hc (fun call => ?_) k
  unfold ag_step
  dsimp only
  rw [hf]
  refine (ag_ck_of ⟨by simp only [List.length_cons]; omega, by decide, by decide⟩).trans ?_
  rw [show ag_lib 11 (vI b :: vI a :: st) = some (vI (if b < a then b else a) :: st) from ag_ck_of ha.1]
theorem AR.max {a b : Int} {ix y n t : Nat} (hc : M.2.2.2.2[pc]? = some (some (.invokestatic ix, 3))) (hf : ag_TT.2.1 M.1 ix = some (12, y, n, t)) (ha : (ag_in a ∧ ag_in b) ∧ st.length ≤ 3) (k : AR E d M (pc + 3, ls, vI (if a < b then b else a) :: st, h) r) : AR E d M (pc, ls, vI b :: vI a :: st, h) r := by
  refine AR.one0 hc (fun call => ?_) k
  unfold ag_step
  dsimp only
  rw [hf]
  refine (ag_ck_of ⟨by simp only [List.length_cons]; omega, by decide, by decide⟩).trans ?_
  rw [show ag_lib 12 (vI b :: vI a :: st) = some (vI (if a < b then b else a) :: st) from ag_ck_of ha.1]
theorem AR.charAt {i : Int} {j ix y n t : Nat} (hc : M.2.2.2.2[pc]? = some (some (.invokevirtual ix, 3))) (hf : ag_TT.2.1 M.1 ix = some (14, y, n, t)) (ha : (0 ≤ i ∧ i < 4 ∧ (j = 1 ∨ j = 2)) ∧ st.length ≤ 3) (k : AR E d M (pc + 3, ls, vI (ag_str j i.toNat) :: st, h) r) : AR E d M (pc, ls, vI i :: vX j :: st, h) r := by
  refine AR.one0 hc (fun call => ?_) k
  unfold ag_step
  dsimp only
  rw [hf]
  refine (ag_ck_of (by simp only [List.length_cons]; omega)).trans ?_
  rw [show ag_lib 14 (vI i :: vX j :: st) = some (vI (ag_str j i.toNat) :: st) from ag_ck_of ha.1]
theorem AR.xald {i : Int} (hc : M.2.2.2.2[pc]? = some (some (.iaload, 1))) (hi : 0 ≤ i ∧ i < E.1 ∧ E.1 ≤ 100000) (kk : AR E d M (pc + 1, ls, vI (E.2 i) :: st, h) r) : AR E d M (pc, ls, vI i :: vX 0 :: st, h) r :=
  AR.one0 hc (fun _ => ag_ck_of hi) kk
theorem AR.xlen (hc : M.2.2.2.2[pc]? = some (some (.arraylength, 1))) (kk : AR E d M (pc + 1, ls, vI E.1 :: st, h) r) : AR E d M (pc, ls, vX 0 :: st, h) r :=
  AR.one0 hc (fun _ => rfl) kk
theorem Ev.introQ {y : Nat} {M : ag_M} {as : List av} (hM : ag_Ms[y]? = some M) (hl0 : Nat.ble (ag_args as).length M.2.2.2.1 = true) (k : AR E d M (0, ag_entry M.2.2.2.1 as, [], h) r) : ∃ o, Ev E (d + 1) y as h o ∧ r o := by
  have hl : (ag_args as).length ≤ M.2.2.2.1 := Nat.le_of_ble_eq_true hl0
  obtain ⟨n, N, r, hq, hk⟩ := k
  refine ⟨r, ⟨max n N, fun fuel hf => ?_⟩, hq⟩
  unfold ag_call
  rw [hM]
  dsimp only
  rw [ag_ck_of hl]
  have h1 := hk fuel (by omega)
  obtain ⟨j, rfl⟩ : ∃ j, fuel = n + j := ⟨fuel - n, by omega⟩
  have key : ∀ (T : ag_T) (call : Nat → List av → ag_H → Option ag_O) (n j : Nat) (f : ag_F) (r : ag_O), ag_run T call E M n f = some r → ag_run T call E M (n + j) f = some r := by
    intro T call n
    induction n with
    | zero => intro j f r hr; cases hr
    | succ n ih =>
      intro j f r hr
      obtain ⟨pc, ls, st, h⟩ := f
      rw [Nat.succ_add]
      unfold ag_run at hr ⊢
      split at hr
      · rename_i i len hq
        split at hr
        · rename_i f1 hs
          exact ih j f1 r hr
        · rename_i o1 hs
          exact hr
        · cases hr
      · cases hr
  exact key _ _ n j _ _ h1
theorem Ev.intro {y : Nat} {M : ag_M} {as : List av} {o : ag_O} (hM : ag_Ms[y]? = some M) (hl0 : Nat.ble (ag_args as).length M.2.2.2.1 = true) (k : AR E d M (0, ag_entry M.2.2.2.1 as, [], h) (fun x => x = o)) : Ev E (d + 1) y as h o := by
  obtain ⟨o', h1, rfl⟩ := Ev.introQ hM hl0 k
  exact h1
end AR
/-! deeper calls do as well -/
theorem ag_step_call {T : ag_T} {E : Nat × (Int → Int)} {ci rt : Nat} {ini : Bool} {c1 c2 : Nat → List av → ag_H → Option ag_O} (hcc : ∀ y as h r, c1 y as h = some r → c2 y as h = some r) {i : Instr} {len pc : Nat} {ls : List (Option av)} {st : List av} {h : ag_H} {x : ag_F ⊕ ag_O} (hs : ag_step T c1 E ci rt ini i len pc ls st h = some x) : ag_step T c2 E ci rt ini i len pc ls st h = some x := by
  have go : ∀ {y : Nat} {as : List av} {k : ag_O → ag_R} {x : ag_F ⊕ ag_O}, (match c1 y as h with | some (o, h') => k (o, h') | none => none) = some x → (match c2 y as h with | some (o, h') => k (o, h') | none => none) = some x := by
    intro y as k x hk
    split at hk
    · rename_i o h' hq
      rw [hcc _ _ _ _ hq]
      exact hk
    · cases hk
  cases i with
  | invokevirtual ix =>
    unfold ag_step at hs ⊢
    dsimp only at hs ⊢
    split at hs
    · obtain ⟨h1, h2⟩ := ag_ck_inv hs
      rw [ag_ck_of h1]
      exact go (k := fun q => ag_go (pc + len) ls (ag_push q.1 _) q.2) h2
    · exact hs
    · cases hs
  | invokespecial ix =>
    unfold ag_step at hs ⊢
    dsimp only at hs ⊢
    split at hs
    · obtain ⟨h1, h2⟩ := ag_ck_inv hs
      rw [ag_ck_of h1]
      exact go (k := fun q => ag_go (pc + len) ls (ag_push q.1 _) q.2) h2
    · exact hs
    · cases hs
  | invokestatic ix =>
    unfold ag_step at hs ⊢
    dsimp only at hs ⊢
    split at hs
    · obtain ⟨h1, h2⟩ := ag_ck_inv hs
      rw [ag_ck_of h1]
      exact go (k := fun q => ag_go (pc + len) ls (ag_push q.1 _) q.2) h2
    · exact hs
    · cases hs
  | _ => exact hs
theorem ag_run_call {T : ag_T} {E : Nat × (Int → Int)} {M : ag_M} {c1 c2 : Nat → List av → ag_H → Option ag_O} (hcc : ∀ y as h r, c1 y as h = some r → c2 y as h = some r) : ∀ (n : Nat) (f : ag_F) (r : ag_O), ag_run T c1 E M n f = some r → ag_run T c2 E M n f = some r := by
  intro n
  induction n with
  | zero => intro f r hr; cases hr
  | succ n ih =>
    intro f r hr
    obtain ⟨pc, ls, st, h⟩ := f
    unfold ag_run at hr ⊢
    split at hr
    · rename_i i len hq
      split at hr
      · rename_i f1 hs
        rw [ag_step_call hcc hs]
        exact ih f1 r hr
      · rename_i o1 hs
        rw [ag_step_call hcc hs]
        exact hr
      · cases hr
    · cases hr
theorem ag_call_deep {E : Nat × (Int → Int)} {fuel : Nat} : ∀ (d y : Nat) (as : List av) (h : ag_H) (r : ag_O), ag_call ag_TT ag_Ms E fuel d y as h = some r → ag_call ag_TT ag_Ms E fuel (d + 1) y as h = some r := by
  intro d
  induction d with
  | zero => intro y as h r hc; cases hc
  | succ d ih =>
    intro y as h r hc
    unfold ag_call at hc ⊢
    split at hc
    · obtain ⟨h1, h2⟩ := ag_ck_inv hc
      rw [ag_ck_of h1]
      exact ag_run_call ih _ _ _ h2
    · cases hc
theorem Ev.deep {E : Nat × (Int → Int)} {d y : Nat} {as : List av} {h : ag_H} {r : ag_O} (k : Nat) (hE : Ev E d y as h r) : Ev E (d + k) y as h r := by
  induction k with
  | zero => exact hE
  | succ k ih =>
    obtain ⟨N, hN⟩ := ih
    exact ⟨N, fun fuel hf => ag_call_deep _ _ _ _ _ (hN fuel hf)⟩
theorem Ev.up {E : Nat × (Int → Int)} {d d' y : Nat} {as : List av} {h : ag_H} {r : ag_O} (hE : Ev E d y as h r) (hd : d ≤ d') : Ev E d' y as h r := by
  have := hE.deep (d' - d)
  rwa [show d + (d' - d) = d' by omega] at this
