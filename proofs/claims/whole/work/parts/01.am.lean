/-! THE ABSTRACT MACHINE: values, heaps, one step, runs, calls. A pure function; its soundness is 04. -/
/-- int, long (both as integers), float bits, a reference (a place of the abstract heap, or null), an outer cell (0: the script; 1, 2: the two string constants) -/
abbrev av : Type := Int ⊕ (Int ⊕ (UInt32 ⊕ (Option Nat ⊕ Nat)))
abbrev vI (z : Int) : av := .inl z
abbrev vJ (z : Int) : av := .inr (.inl z)
abbrev vF (b : UInt32) : av := .inr (.inr (.inl b))
abbrev vR (r : Option Nat) : av := .inr (.inr (.inr (.inl r)))
abbrev vA (k : Nat) : av := .inr (.inr (.inr (.inl (some k))))
abbrev vX (k : Nat) : av := .inr (.inr (.inr (.inr k)))
/-- a cell: what it is (0 .. 7 the classes, 8 int[], 9 boolean[], 10 char[], 11 long[], 12 Game[]), how many slots, its references -/
abbrev ag_C : Type := Nat × Nat × List (Option Nat)
/-- a heap: the cells, and the numbers in them -/
abbrev ag_H : Type := List ag_C × (Nat → Int → Int)
/-- a frame: pc, locals, stack, heap -/
abbrev ag_F : Type := Nat × List (Option av) × List av × ag_H
abbrev ag_O : Type := Option av × ag_H
abbrev ag_R : Type := Option (ag_F ⊕ ag_O)
def ag_upd (m : Nat → Int → Int) (a : Nat) (k z : Int) : Nat → Int → Int := fun a' k' => if a' = a ∧ k' = k then z else m a' k'
def ag_zero (m : Nat → Int → Int) (a : Nat) : Nat → Int → Int := fun a' k' => if a' = a then 0 else m a' k'
abbrev ag_in (z : Int) : Prop := -2147483648 ≤ z ∧ z < 2147483648
abbrev ag_inL (z : Int) : Prop := -9223372036854775808 ≤ z ∧ z < 9223372036854775808
/-- a float that is a number -/
abbrev ag_n32 (r : UInt32) : Prop := r &&& 0x7fffffff ≤ 0x7f800000
abbrev ag_go (pc : Nat) (ls : List (Option av)) (st : List av) (h : ag_H) : ag_R := some (.inl (pc, ls, st, h))
def ag_tgt (pc : Nat) (off : Int) : Nat := ((pc : Int) + off).toNat
/-! taking operands -/
def ag_i1 {α : Type} (st : List av) (k : Int → List av → Option α) : Option α := match st with
  | .inl a :: r => k a r
  | _ => none
def ag_i2 {α : Type} (st : List av) (k : Int → Int → List av → Option α) : Option α := match st with
  | .inl b :: .inl a :: r => k a b r
  | _ => none
def ag_j1 {α : Type} (st : List av) (k : Int → List av → Option α) : Option α := match st with
  | .inr (.inl a) :: r => k a r
  | _ => none
def ag_j2 {α : Type} (st : List av) (k : Int → Int → List av → Option α) : Option α := match st with
  | .inr (.inl b) :: .inr (.inl a) :: r => k a b r
  | _ => none
def ag_f1 {α : Type} (st : List av) (k : UInt32 → List av → Option α) : Option α := match st with
  | .inr (.inr (.inl a)) :: r => k a r
  | _ => none
def ag_f2 {α : Type} (st : List av) (k : UInt32 → UInt32 → List av → Option α) : Option α := match st with
  | .inr (.inr (.inl b)) :: .inr (.inr (.inl a)) :: r => k a b r
  | _ => none
def ag_r1 {α : Type} (st : List av) (k : Option Nat → List av → Option α) : Option α := match st with
  | .inr (.inr (.inr (.inl a))) :: r => k a r
  | _ => none
def ag_a1 {α : Type} (st : List av) (k : Nat → List av → Option α) : Option α := match st with
  | .inr (.inr (.inr (.inl (some a)))) :: r => k a r
  | _ => none
/-- a local of a kind -/
def ag_li {α : Type} (ls : List (Option av)) (i : Nat) (k : Int → Option α) : Option α := match ls[i]? with
  | some (some (.inl z)) => k z
  | _ => none
def ag_lj {α : Type} (ls : List (Option av)) (i : Nat) (k : Int → Option α) : Option α := match ls[i]? with
  | some (some (.inr (.inl z))) => k z
  | _ => none
def ag_lf {α : Type} (ls : List (Option av)) (i : Nat) (k : UInt32 → Option α) : Option α := match ls[i]? with
  | some (some (.inr (.inr (.inl z)))) => k z
  | _ => none
def ag_la {α : Type} (ls : List (Option av)) (i : Nat) (k : av → Option α) : Option α := match ls[i]? with
  | some (some (.inr (.inr (.inr z)))) => k (.inr (.inr (.inr z)))
  | _ => none
def ag_wide (v : Option av) : Bool := match v with
  | some (.inr (.inl _)) => true
  | _ => false
/-- putting into a local: a long also takes the next one; the long ahead is gone -/
def ag_st (ls : List (Option av)) (i : Nat) (v : av) : List (Option av) :=
  let l1 := if 0 < i ∧ ag_wide (ls.getD (i - 1) none) = true then ls.set (i - 1) none else ls
  if ag_wide (some v) = true then (l1.set i (some v)).set (i + 1) none else l1.set i (some v)
/-- a cell of a kind -/
def ag_at {α : Type} (h : ag_H) (a : Nat) (t : Nat) (k : Nat → List (Option Nat) → Option α) : Option α := match h.1[a]? with
  | some (t', n, rs) => if t' = t then k n rs else none
  | none => none
/-- if both are ints -/
def ag_ck {α : Type} (P : Prop) [Decidable P] (k : Option α) : Option α := if P then k else none
/-! the tables of the class files: see 02 for their contents -/
abbrev ag_T : Type := (Nat → Nat → Option (Nat × Nat)) × (Nat → Nat → Option (Nat × Nat × Nat × Nat)) × (Nat → Nat → Option av) × (Nat → Nat → Option Nat)
/-- which fields of a class are references (2), booleans (1), ints (0) -/
def ag_kinds : List (List Nat) := [[2, 0, 2, 2, 2, 2], [2, 2, 1, 0, 0, 0, 2, 2, 2], [0, 2, 2], [0, 2, 0, 2, 2], [2, 0, 0], [0, 0, 0, 0, 0], [2, 2, 2, 1, 2, 2, 2, 2, 0], [2, 2, 2, 2, 2, 1, 0, 1, 0, 0, 0, 0, 0, 2, 0, 2, 0, 0, 2, 0]]
def ag_kind (t k : Nat) : Nat := (ag_kinds.getD t []).getD k 0
def ag_nf (t : Nat) : Nat := (ag_kinds.getD t []).length
def ag_aty (t : ArrayType) : Nat := match t with
  | .int => 8
  | .boolean => 9
  | .char => 10
  | .long => 11
  | _ => 99
def ag_cond (c : ClassFile.Cond) (a b : Int) : Bool := match c with
  | .eq => decide (a = b)
  | .ne => decide (a ≠ b)
  | .lt => decide (a < b)
  | .ge => decide (b ≤ a)
  | .gt => decide (b < a)
  | .le => decide (a ≤ b)
def ag_rv (rt : Nat) (v : av) : Bool := match v with
  | .inl z => decide (rt = 1 ∨ rt = 2 ∧ (z = 0 ∨ z = 1))
  | .inr (.inl _) => decide (rt = 3)
  | .inr (.inr (.inr (.inl _))) => decide (rt = 4)
  | _ => false
/-- the receiver is an object of this class -/
def ag_recv (h : ag_H) (as : List av) (t : Nat) : Bool := match as with
  | .inr (.inr (.inr (.inl (some a)))) :: _ => match h.1[a]? with
    | some (t', _) => t' == t
    | none => false
  | _ => false
def ag_push (o : Option av) (st : List av) : List av := match o with
  | some v => v :: st
  | none => st
/-- one of the library's own: 10 Object(), 11 Math.min, 12 Math.max, 13 Float.floatToIntBits, 14 String.charAt of a constant -/
def ag_str (j : Nat) (i : Nat) : Int := if j = 1 then [98, 116, 66, 84].getD i 0 else [117, 114, 100, 108].getD i 0
def ag_lib (k : Nat) (st : List av) : Option (List av) :=
  if k = 10 then ag_a1 st fun _ r => some r
  else if k = 11 then ag_i2 st fun a b r => ag_ck (ag_in a ∧ ag_in b) (some (vI (if b < a then b else a) :: r))
  else if k = 12 then ag_i2 st fun a b r => ag_ck (ag_in a ∧ ag_in b) (some (vI (if a < b then b else a) :: r))
  else if k = 13 then ag_f1 st fun a r => ag_ck (Op.cmpValue (FP.fcmp a a) .l = 0) (some (vI a.toInt32.toInt :: r))
  else if k = 14 then match st with
    | .inl i :: .inr (.inr (.inr (.inr j))) :: r => ag_ck (0 ≤ i ∧ i < 4 ∧ (j = 1 ∨ j = 2)) (some (vI (ag_str j i.toNat) :: r))
    | _ => none
  else none
/-- one step: the next frame, or the answer -/
def ag_step (T : ag_T) (call : Nat → List av → ag_H → Option ag_O) (E : Nat × (Int → Int)) (ci rt : Nat) (ini : Bool) (i : Instr) (len pc : Nat) (ls : List (Option av)) (st : List av) (h : ag_H) : ag_R :=
  match i with
  | .iconst z => ag_go (pc + len) ls (vI z :: st) h
  | .bipush z => ag_go (pc + len) ls (vI z :: st) h
  | .sipush z => ag_go (pc + len) ls (vI z :: st) h
  | .lconst z => ag_go (pc + len) ls (vJ z.val :: st) h
  | .fconst z => ag_go (pc + len) ls (vF (if z = 0 then FP.fconst0 else if z = 1 then FP.fconst1 else FP.fconst2) :: st) h
  | .aconst_null => ag_go (pc + len) ls (vR none :: st) h
  | .iload k => ag_li ls k fun z => ag_go (pc + len) ls (vI z :: st) h
  | .iload_n k => ag_li ls k.val fun z => ag_go (pc + len) ls (vI z :: st) h
  | .lload_n k => ag_lj ls k.val fun z => ag_go (pc + len) ls (vJ z :: st) h
  | .fload_n k => ag_lf ls k.val fun z => ag_go (pc + len) ls (vF z :: st) h
  | .aload k => ag_la ls k fun v => ag_go (pc + len) ls (v :: st) h
  | .aload_n k => ag_la ls k.val fun v => ag_go (pc + len) ls (v :: st) h
  | .istore k => ag_i1 st fun z r => ag_ck (k < ls.length) (ag_go (pc + len) (ag_st ls k (vI z)) r h)
  | .istore_n k => ag_i1 st fun z r => ag_ck (k.val < ls.length) (ag_go (pc + len) (ag_st ls k.val (vI z)) r h)
  | .lstore_n k => ag_j1 st fun z r => ag_ck (k.val + 1 < ls.length) (ag_go (pc + len) (ag_st ls k.val (vJ z)) r h)
  | .fstore_n k => ag_f1 st fun z r => ag_ck (k.val < ls.length) (ag_go (pc + len) (ag_st ls k.val (vF z)) r h)
  | .astore_n k => ag_r1 st fun z r => ag_ck (k.val < ls.length) (ag_go (pc + len) (ag_st ls k.val (vR z)) r h)
  | .iinc k n => ag_li ls k fun z => ag_go (pc + len) (ag_st ls k (vI (z + n))) st h
  | .dup => match st with
    | v :: r => ag_ck (ag_wide (some v) = false) (ag_go (pc + len) ls (v :: v :: r) h)
    | _ => none
  | .dup2 => match st with
    | v :: w :: r => ag_ck (ag_wide (some v) = false ∧ ag_wide (some w) = false) (ag_go (pc + len) ls (v :: w :: v :: w :: r) h)
    | _ => none
  | .pop => match st with
    | v :: r => ag_ck (ag_wide (some v) = false) (ag_go (pc + len) ls r h)
    | _ => none
  | .iadd => ag_i2 st fun a b r => ag_go (pc + len) ls (vI (a + b) :: r) h
  | .isub => ag_i2 st fun a b r => ag_go (pc + len) ls (vI (a - b) :: r) h
  | .imul => ag_i2 st fun a b r => ag_go (pc + len) ls (vI (a * b) :: r) h
  | .idiv => ag_i2 st fun a b r => ag_ck (0 ≤ a ∧ ag_in a ∧ 0 < b ∧ ag_in b) (ag_go (pc + len) ls (vI (a / b) :: r) h)
  | .irem => ag_i2 st fun a b r => ag_ck (0 ≤ a ∧ ag_in a ∧ 0 < b ∧ ag_in b) (ag_go (pc + len) ls (vI (a % b) :: r) h)
  | .iand => ag_i2 st fun a b r => ag_ck (ag_in a ∧ b = 31) (ag_go (pc + len) ls (vI (a % 32) :: r) h)
  | .ior => ag_i2 st fun a b r => ag_ck (0 ≤ a ∧ ag_in a ∧ 0 ≤ b ∧ ag_in b) (ag_go (pc + len) ls (vI ((a.toNat ||| b.toNat : Nat) : Int) :: r) h)
  | .ishl => ag_i2 st fun a b r => ag_ck (0 ≤ a ∧ 0 ≤ b ∧ b < 31 ∧ a < 2147483648) (ag_go (pc + len) ls (vI (a * (2 ^ b.toNat : Nat)) :: r) h)
  | .ladd => ag_j2 st fun a b r => ag_go (pc + len) ls (vJ (a + b) :: r) h
  | .lmul => ag_j2 st fun a b r => ag_go (pc + len) ls (vJ (a * b) :: r) h
  | .lcmp => ag_j2 st fun a b r => ag_ck (ag_inL a ∧ ag_inL b) (ag_go (pc + len) ls (vI (if a < b then -1 else if a = b then 0 else 1) :: r) h)
  | .i2l => ag_i1 st fun a r => ag_ck (ag_in a) (ag_go (pc + len) ls (vJ a :: r) h)
  | .i2f => ag_i1 st fun a r => ag_go (pc + len) ls (vF (FP.i2f (Int32.ofInt a)) :: r) h
  | .f2i => ag_f1 st fun a r => ag_go (pc + len) ls (vI (FP.f2i a).toInt :: r) h
  | .fdiv => ag_f2 st fun a b r => ag_ck (ag_n32 (FP.fdiv a b)) (ag_go (pc + len) ls (vF (FP.fdiv a b) :: r) h)
  | .fmul => ag_f2 st fun a b r => ag_ck (ag_n32 (FP.fmul a b)) (ag_go (pc + len) ls (vF (FP.fmul a b) :: r) h)
  | .fsub => ag_f2 st fun a b r => ag_ck (ag_n32 (FP.fsub a b)) (ag_go (pc + len) ls (vF (FP.fsub a b) :: r) h)
  | .fcmp op => ag_f2 st fun a b r => ag_go (pc + len) ls (vI (Op.cmpValue (FP.fcmp a b) op).toInt :: r) h
  | .goto off => ag_go (ag_tgt pc off) ls st h
  | .ifCond c off => ag_i1 st fun a r => ag_ck (ag_in a) (if ag_cond c a 0 = true then ag_go (ag_tgt pc off) ls r h else ag_go (pc + len) ls r h)
  | .if_icmp c off => ag_i2 st fun a b r => ag_ck (ag_in a ∧ ag_in b) (if ag_cond c a b = true then ag_go (ag_tgt pc off) ls r h else ag_go (pc + len) ls r h)
  | .ifnull off => ag_r1 st fun a r => match a with
    | none => ag_go (ag_tgt pc off) ls r h
    | some _ => ag_go (pc + len) ls r h
  | .ifnonnull off => ag_r1 st fun a r => match a with
    | none => ag_go (pc + len) ls r h
    | some _ => ag_go (ag_tgt pc off) ls r h
  | .tableswitch d lo hi offs => ag_i1 st fun a r => ag_ck (ag_in a) (if a < lo ∨ hi < a then ag_go (ag_tgt pc d) ls r h else match offs[(a - lo).toNat]? with
    | some off => ag_go (ag_tgt pc off) ls r h
    | none => none)
  | .lookupswitch d ps => ag_i1 st fun a r => ag_ck (ag_in a) (ag_go (ag_tgt pc (Op.lookupswitch.offset ps.toList d a)) ls r h)
  | .getfield ix => ag_a1 st fun a r => match T.1 ci ix with
    | some (t, k) => ag_at h a t fun n rs => ag_ck (k < ag_nf t ∧ k < n) (ag_go (pc + len) ls ((if ag_kind t k = 2 then vR (rs.getD k none) else vI (h.2 a k)) :: r) h)
    | none => none
  | .putfield ix => match T.1 ci ix with
    | some (t, k) => ag_ck (k < ag_nf t) (if ag_kind t k = 2
      then ag_r1 st fun v r => ag_a1 r fun a r => ag_at h a t fun n rs => ag_ck (ini = true ∧ t = ci ∧ rs.length = n ∧ k < n) (ag_go (pc + len) ls r (h.1.set a (t, n, rs.set k v), h.2))
      else ag_i1 st fun z r => ag_a1 r fun a r => ag_at h a t fun n _ => ag_ck ((ag_kind t k = 1 → z = 0 ∨ z = 1) ∧ k < n) (ag_go (pc + len) ls r (h.1, ag_upd h.2 a k z)))
    | none => none
  | .arraylength => match st with
    | .inr (.inr (.inr (.inl (some a)))) :: r => match h.1[a]? with
      | some (t, n, _) => ag_ck (8 ≤ t ∧ t ≤ 12) (ag_go (pc + len) ls (vI n :: r) h)
      | none => none
    | .inr (.inr (.inr (.inr 0))) :: r => ag_go (pc + len) ls (vI E.1 :: r) h
    | _ => none
  | .iaload => match st with
    | .inl i :: .inr (.inr (.inr (.inl (some a)))) :: r => ag_at h a 8 fun n _ => ag_ck (0 ≤ i ∧ i < n ∧ n ≤ 100000) (ag_go (pc + len) ls (vI (h.2 a i) :: r) h)
    | .inl i :: .inr (.inr (.inr (.inr 0))) :: r => ag_ck (0 ≤ i ∧ i < E.1 ∧ E.1 ≤ 100000) (ag_go (pc + len) ls (vI (E.2 i) :: r) h)
    | _ => none
  | .baload => ag_i1 st fun i r => ag_a1 r fun a r => ag_at h a 9 fun n _ => ag_ck (0 ≤ i ∧ i < n ∧ n ≤ 100000) (ag_go (pc + len) ls (vI (h.2 a i) :: r) h)
  | .caload => ag_i1 st fun i r => ag_a1 r fun a r => ag_at h a 10 fun n _ => ag_ck (0 ≤ i ∧ i < n ∧ n ≤ 100000) (ag_go (pc + len) ls (vI (h.2 a i) :: r) h)
  | .laload => ag_i1 st fun i r => ag_a1 r fun a r => ag_at h a 11 fun n _ => ag_ck (0 ≤ i ∧ i < n ∧ n ≤ 100000) (ag_go (pc + len) ls (vJ (h.2 a i) :: r) h)
  | .aaload => ag_i1 st fun i r => ag_a1 r fun a r => ag_at h a 12 fun n rs => ag_ck (0 ≤ i ∧ i < n ∧ n ≤ 100000) (ag_go (pc + len) ls (vR (rs.getD i.toNat none) :: r) h)
  | .iastore => ag_i1 st fun z r => ag_i1 r fun i r => ag_a1 r fun a r => ag_at h a 8 fun n _ => ag_ck (0 ≤ i ∧ i < n ∧ n ≤ 100000) (ag_go (pc + len) ls r (h.1, ag_upd h.2 a i z))
  | .bastore => ag_i1 st fun z r => ag_i1 r fun i r => ag_a1 r fun a r => ag_at h a 9 fun n _ => ag_ck (0 ≤ i ∧ i < n ∧ n ≤ 100000 ∧ (z = 0 ∨ z = 1)) (ag_go (pc + len) ls r (h.1, ag_upd h.2 a i z))
  | .castore => ag_i1 st fun z r => ag_i1 r fun i r => ag_a1 r fun a r => ag_at h a 10 fun n _ => ag_ck (0 ≤ i ∧ i < n ∧ n ≤ 100000 ∧ 0 ≤ z ∧ z < 65536) (ag_go (pc + len) ls r (h.1, ag_upd h.2 a i z))
  | .lastore => ag_j1 st fun z r => ag_i1 r fun i r => ag_a1 r fun a r => ag_at h a 11 fun n _ => ag_ck (0 ≤ i ∧ i < n ∧ n ≤ 100000) (ag_go (pc + len) ls r (h.1, ag_upd h.2 a i z))
  | .aastore => ag_a1 st fun v r => ag_i1 r fun i r => ag_a1 r fun a r => ag_at h a 12 fun n rs => ag_at h v 1 fun _ _ => ag_ck (0 ≤ i ∧ i < n ∧ n ≤ 100000 ∧ rs.length = n) (ag_go (pc + len) ls r (h.1.set a (12, n, rs.set i.toNat (some v)), h.2))
  | .new ix => match T.2.2.2 ci ix with
    | some t => ag_ck (t < 8) (ag_go (pc + len) ls (vA h.1.length :: st) (h.1 ++ [(t, ag_nf t, List.replicate (ag_nf t) none)], ag_zero h.2 h.1.length))
    | none => none
  | .newarray ty => ag_i1 st fun n r => ag_ck (0 ≤ n ∧ n ≤ 100000 ∧ ag_aty ty ≤ 12) (ag_go (pc + len) ls (vA h.1.length :: r) (h.1 ++ [(ag_aty ty, n.toNat, [])], ag_zero h.2 h.1.length))
  | .anewarray ix => ag_i1 st fun n r => ag_ck (0 ≤ n ∧ n ≤ 100000 ∧ T.2.2.2 ci ix = some 1) (ag_go (pc + len) ls (vA h.1.length :: r) (h.1 ++ [(12, n.toNat, List.replicate n.toNat none)], ag_zero h.2 h.1.length))
  | .ldc ix => match T.2.2.1 ci ix with
    | some v => ag_ck (ag_wide (some v) = false) (ag_go (pc + len) ls (v :: st) h)
    | none => none
  | .ldc_w ix => match T.2.2.1 ci ix with
    | some v => ag_ck (ag_wide (some v) = false ∧ ci ≠ 7) (ag_go (pc + len) ls (v :: st) h)
    | none => none
  | .ldc2_w ix => match T.2.2.1 ci ix with
    | some v => ag_ck (ag_wide (some v) = true) (ag_go (pc + len) ls (v :: st) h)
    | none => none
  | .invokevirtual ix => match T.2.1 ci ix with
    | some (2, y, n, t) => ag_ck (n ≤ st.length ∧ (st.drop n).length ≤ 4 ∧ ag_recv h (st.take n).reverse t = true) (match call y (st.take n).reverse h with
      | some (o, h') => ag_go (pc + len) ls (ag_push o (st.drop n)) h'
      | none => none)
    | some (14, _, _, _) => ag_ck (st.length ≤ 5) (match ag_lib 14 st with
      | some r => ag_go (pc + len) ls r h
      | none => none)
    | _ => none
  | .invokespecial ix => match T.2.1 ci ix with
    | some (3, y, n, t) => ag_ck (n ≤ st.length ∧ (st.drop n).length ≤ 4 ∧ ag_recv h (st.take n).reverse t = true) (match call y (st.take n).reverse h with
      | some (o, h') => ag_go (pc + len) ls (ag_push o (st.drop n)) h'
      | none => none)
    | some (10, _, _, _) => ag_ck (st.length ≤ 5) (match ag_lib 10 st with
      | some r => ag_go (pc + len) ls r h
      | none => none)
    | _ => none
  | .invokestatic ix => match T.2.1 ci ix with
    | some (1, y, n, _) => ag_ck (n ≤ st.length ∧ (st.drop n).length ≤ 4) (match call y (st.take n).reverse h with
      | some (o, h') => ag_go (pc + len) ls (ag_push o (st.drop n)) h'
      | none => none)
    | some (k, _, _, _) => ag_ck (st.length ≤ 5 ∧ 11 ≤ k ∧ k ≤ 13) (match ag_lib k st with
      | some r => ag_go (pc + len) ls r h
      | none => none)
    | _ => none
  | .ireturn => match st with
    | [v] => ag_ck (ag_rv rt v = true ∧ (rt = 1 ∨ rt = 2)) (some (.inr (some v, h)))
    | _ => none
  | .lreturn => match st with
    | [v] => ag_ck (ag_rv rt v = true ∧ rt = 3) (some (.inr (some v, h)))
    | _ => none
  | .areturn => match st with
    | [v] => ag_ck (ag_rv rt v = true ∧ rt = 4) (some (.inr (some v, h)))
    | _ => none
  | .return_ => ag_ck (rt = 0 ∧ st = []) (some (.inr (none, h)))
  | _ => none
/-- a method's body: its class, its answer's kind (0 void, 1 int, 2 boolean, 3 long, 4 reference), a constructor or not, how many locals, its instructions by pc -/
abbrev ag_M : Type := Nat × Nat × Bool × Nat × List (Option (Instr × Nat))
def ag_run (T : ag_T) (call : Nat → List av → ag_H → Option ag_O) (E : Nat × (Int → Int)) (M : ag_M) : Nat → ag_F → Option ag_O
  | 0, _ => none
  | n + 1, (pc, ls, st, h) => match M.2.2.2.2[pc]? with
    | some (some (i, len)) => match ag_step T call E M.1 M.2.1 M.2.2.1 i len pc ls st h with
      | some (.inl f) => ag_run T call E M n f
      | some (.inr o) => some o
      | none => none
    | _ => none
/-- the locals at a method's entry -/
def ag_args : List av → List (Option av)
  | [] => []
  | v :: l => if ag_wide (some v) = true then some v :: none :: ag_args l else some v :: ag_args l
def ag_entry (maxL : Nat) (as : List av) : List (Option av) := ag_args as ++ List.replicate (maxL - (ag_args as).length) none
/-- a call at a depth, with so many steps at most in each body -/
def ag_call (T : ag_T) (Ms : List ag_M) (E : Nat × (Int → Int)) (fuel : Nat) : Nat → Nat → List av → ag_H → Option ag_O
  | 0, _, _, _ => none
  | d + 1, y, as, h => match Ms[y]? with
    | some M => ag_ck ((ag_args as).length ≤ M.2.2.2.1) (ag_run T (ag_call T Ms E fuel d) E M fuel (0, ag_entry M.2.2.2.1 as, [], h))
    | none => none
