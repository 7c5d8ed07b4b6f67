section
/-! THE ABSTRACT MACHINE: values, heaps, one step, runs, calls. A pure function; its soundness is 04. -/
/-- int, long (both as integers), float bits, a reference (a place of the abstract heap, or null), an outer cell (0: the script; 1, 2: the two string constants) -/
abbrev av : Type := Int ⊕ (Int ⊕ (UInt32 ⊕ (Option Nat ⊕ Nat)))
abbrev vI (z : Int) : av := .inl z
abbrev vJ (z : Int) : av := .inr (.inl z)
abbrev vF (b : UInt32) : av := .inr (.inr (.inl b))
abbrev vR (r : Option Nat) : av := .inr (.inr (.inr (.inl r)))
abbrev vA (k : Nat) : av := .inr (.inr (.inr (.inl (some k))))
abbrev vX (k : Nat) : av := .inr (.inr (.inr (.inr k)))
/-- a cell: what it is (0 .. 7 the classes, 8 int[], 9 boolean[], 10 char[], 11 long[], 12 Game[]), how many slots, its references -/
abbrev ag_C : Type := Nat × Nat × List (Option Nat)
/-- a heap: the cells, and the numbers in them -/
abbrev ag_H : Type := List ag_C × (Nat → Int → Int)
/-- a frame: pc, locals, stack, heap -/
abbrev ag_F : Type := Nat × List (Option av) × List av × ag_H
abbrev ag_O : Type := Option av × ag_H
abbrev ag_R : Type := Option (ag_F ⊕ ag_O)
def ag_upd (m : Nat → Int → Int) (a : Nat) (k z : Int) : Nat → Int → Int := fun a' k' => if a' = a ∧ k' = k then z else m a' k'
def ag_zero (m : Nat → Int → Int) (a : Nat) : Nat → Int → Int := fun a' k' => if a' = a then 0 else m a' k'
abbrev ag_in (z : Int) : Prop := -2147483648 ≤ z ∧ z < 2147483648
abbrev ag_inL (z : Int) : Prop := -9223372036854775808 ≤ z ∧ z < 9223372036854775808
/-- a float that is a number -/
abbrev ag_n32 (r : UInt32) : Prop := r &&& 0x7fffffff ≤ 0x7f800000
abbrev ag_go (pc : Nat) (ls : List (Option av)) (st : List av) (h : ag_H) : ag_R := some (.inl (pc, ls, st, h))
def ag_tgt (pc : Nat) (off : Int) : Nat := ((pc : Int) + off).toNat
/-! taking operands -/
def ag_i1 {α : Type} (st : List av) (k : Int → List av → Option α) : Option α := match st with
  | .inl a :: r => k a r
  | _ => none
def ag_i2 {α : Type} (st : List av) (k : Int → Int → List av → Option α) : Option α := match st with
  | .inl b :: .inl a :: r => k a b r
  | _ => none
def ag_j1 {α : Type} (st : List av) (k : Int → List av → Option α) : Option α := match st with
  | .inr (.inl a) :: r => k a r
  | _ => none
def ag_j2 {α : Type} (st : List av) (k : Int → Int → List av → Option α) : Option α := match st with
  | .inr (.inl b) :: .inr (.inl a) :: r => k a b r
  | _ => none
def ag_f1 {α : Type} (st : List av) (k : UInt32 → List av → Option α) : Option α := match st with
  | .inr (.inr (.inl a)) :: r => k a r
  | _ => none
def ag_f2 {α : Type} (st : List av) (k : UInt32 → UInt32 → List av → Option α) : Option α := match st with
  | .inr (.inr (.inl b)) :: .inr (.inr (.inl a)) :: r => k a b r
  | _ => none
def ag_r1 {α : Type} (st : List av) (k : Option Nat → List av → Option α) : Option α := match st with
  | .inr (.inr (.inr (.inl a))) :: r => k a r
  | _ => none
def ag_a1 {α : Type} (st : List av) (k : Nat → List av → Option α) : Option α := match st with
  | .inr (.inr (.inr (.inl (some a)))) :: r => k a r
  | _ => none
/-- a local of a kind -/
def ag_li {α : Type} (ls : List (Option av)) (i : Nat) (k : Int → Option α) : Option α := match ls[i]? with
  | some (some (.inl z)) => k z
  | _ => none
def ag_lj {α : Type} (ls : List (Option av)) (i : Nat) (k : Int → Option α) : Option α := match ls[i]? with
  | some (some (.inr (.inl z))) => k z
  | _ => none
def ag_lf {α : Type} (ls : List (Option av)) (i : Nat) (k : UInt32 → Option α) : Option α := match ls[i]? with
  | some (some (.inr (.inr (.inl z)))) => k z
  | _ => none
def ag_la {α : Type} (ls : List (Option av)) (i : Nat) (k : av → Option α) : Option α := match ls[i]? with
  | some (some (.inr (.inr (.inr z)))) => k (.inr (.inr (.inr z)))
  | _ => none
def ag_wide (v : Option av) : Bool := match v with
  | some (.inr (.inl _)) => true
  | _ => false
/-- putting into a local: a long also takes the next one; the long ahead is gone -/
def ag_st (ls : List (Option av)) (i : Nat) (v : av) : List (Option av) :=
  let l1 := if 0 < i ∧ ag_wide (ls.getD (i - 1) none) = true then ls.set (i - 1) none else ls
  if ag_wide (some v) = true then (l1.set i (some v)).set (i + 1) none else l1.set i (some v)
/-- a cell of a kind -/
def ag_at {α : Type} (h : ag_H) (a : Nat) (t : Nat) (k : Nat → List (Option Nat) → Option α) : Option α := match h.1[a]? with
  | some (t', n, rs) => if t' = t then k n rs else none
  | none => none
/-- if both are ints -/
def ag_ck {α : Type} (P : Prop) [Decidable P] (k : Option α) : Option α := if P then k else none
/-! the tables of the class files: see 02 for their contents -/
abbrev ag_T : Type := (Nat → Nat → Option (Nat × Nat)) × (Nat → Nat → Option (Nat × Nat × Nat × Nat)) × (Nat → Nat → Option av) × (Nat → Nat → Option Nat)
/-- which fields of a class are references (2), booleans (1), ints (0) -/
def ag_kinds : List (List Nat) := [[2, 0, 2, 2, 2, 2], [2, 2, 1, 0, 0, 0, 2, 2, 2], [0, 2, 2], [0, 2, 0, 2, 2], [2, 0, 0], [0, 0, 0, 0, 0], [2, 2, 2, 1, 2, 2, 2, 2, 0], [2, 2, 2, 2, 2, 1, 0, 1, 0, 0, 0, 0, 0, 2, 0, 2, 0, 0, 2, 0]]
def ag_kind (t k : Nat) : Nat := (ag_kinds.getD t []).getD k 0
def ag_nf (t : Nat) : Nat := (ag_kinds.getD t []).length
def ag_aty (t : ArrayType) : Nat := match t with
  | .int => 8
  | .boolean => 9
  | .char => 10
  | .long => 11
  | _ => 99
def ag_cond (c : ClassFile.Cond) (a b : Int) : Bool := match c with
  | .eq => decide (a = b)
  | .ne => decide (a ≠ b)
  | .lt => decide (a < b)
  | .ge => decide (b ≤ a)
  | .gt => decide (b < a)
  | .le => decide (a ≤ b)
def ag_rv (rt : Nat) (v : av) : Bool := match v with
  | .inl z => decide (rt = 1 ∨ rt = 2 ∧ (z = 0 ∨ z = 1))
  | .inr (.inl _) => decide (rt = 3)
  | .inr (.inr (.inr (.inl _))) => decide (rt = 4)
  | _ => false
/-- the receiver is an object of this class -/
def ag_recv (h : ag_H) (as : List av) (t : Nat) : Bool := match as with
  | .inr (.inr (.inr (.inl (some a)))) :: _ => match h.1[a]? with
    | some (t', _) => t' == t
    | none => false
  | _ => false
def ag_push (o : Option av) (st : List av) : List av := match o with
  | some v => v :: st
  | none => st
/-- one of the library's own: 10 Object(), 11 Math.min, 12 Math.max, 13 Float.floatToIntBits, 14 String.charAt of a constant -/
def ag_str (j : Nat) (i : Nat) : Int := if j = 1 then [98, 116, 66, 84].getD i 0 else [117, 114, 100, 108].getD i 0
def ag_lib (k : Nat) (st : List av) : Option (List av) :=
  if k = 10 then ag_a1 st fun _ r => some r
  else if k = 11 then ag_i2 st fun a b r => ag_ck (ag_in a ∧ ag_in b) (some (vI (if b < a then b else a) :: r))
  else if k = 12 then ag_i2 st fun a b r => ag_ck (ag_in a ∧ ag_in b) (some (vI (if a < b then b else a) :: r))
  else if k = 13 then ag_f1 st fun a r => ag_ck (Op.cmpValue (FP.fcmp a a) .l = 0) (some (vI a.toInt32.toInt :: r))
  else if k = 14 then match st with
    | .inl i :: .inr (.inr (.inr (.inr j))) :: r => ag_ck (0 ≤ i ∧ i < 4 ∧ (j = 1 ∨ j = 2)) (some (vI (ag_str j i.toNat) :: r))
    | _ => none
  else none
/-- one step: the next frame, or the answer -/
def ag_step (T : ag_T) (call : Nat → List av → ag_H → Option ag_O) (E : Nat × (Int → Int)) (ci rt : Nat) (ini : Bool) (i : Instr) (len pc : Nat) (ls : List (Option av)) (st : List av) (h : ag_H) : ag_R :=
  match i with
  | .iconst z => ag_go (pc + len) ls (vI z :: st) h
  | .bipush z => ag_go (pc + len) ls (vI z :: st) h
  | .sipush z => ag_go (pc + len) ls (vI z :: st) h
  | .lconst z => ag_go (pc + len) ls (vJ z.val :: st) h
  | .fconst z => ag_go (pc + len) ls (vF (if z = 0 then FP.fconst0 else if z = 1 then FP.fconst1 else FP.fconst2) :: st) h
  | .aconst_null => ag_go (pc + len) ls (vR none :: st) h
  | .iload k => ag_li ls k fun z => ag_go (pc + len) ls (vI z :: st) h
  | .iload_n k => ag_li ls k.val fun z => ag_go (pc + len) ls (vI z :: st) h
  | .lload_n k => ag_lj ls k.val fun z => ag_go (pc + len) ls (vJ z :: st) h
  | .fload_n k => ag_lf ls k.val fun z => ag_go (pc + len) ls (vF z :: st) h
  | .aload k => ag_la ls k fun v => ag_go (pc + len) ls (v :: st) h
  | .aload_n k => ag_la ls k.val fun v => ag_go (pc + len) ls (v :: st) h
  | .istore k => ag_i1 st fun z r => ag_ck (k < ls.length) (ag_go (pc + len) (ag_st ls k (vI z)) r h)
  | .istore_n k => ag_i1 st fun z r => ag_ck (k.val < ls.length) (ag_go (pc + len) (ag_st ls k.val (vI z)) r h)
  | .lstore_n k => ag_j1 st fun z r => ag_ck (k.val + 1 < ls.length) (ag_go (pc + len) (ag_st ls k.val (vJ z)) r h)
  | .fstore_n k => ag_f1 st fun z r => ag_ck (k.val < ls.length) (ag_go (pc + len) (ag_st ls k.val (vF z)) r h)
  | .astore_n k => ag_r1 st fun z r => ag_ck (k.val < ls.length) (ag_go (pc + len) (ag_st ls k.val (vR z)) r h)
  | .iinc k n => ag_li ls k fun z => ag_go (pc + len) (ag_st ls k (vI (z + n))) st h
  | .dup => match st with
    | v :: r => ag_ck (ag_wide (some v) = false) (ag_go (pc + len) ls (v :: v :: r) h)
    | _ => none
  | .dup2 => match st with
    | v :: w :: r => ag_ck (ag_wide (some v) = false ∧ ag_wide (some w) = false) (ag_go (pc + len) ls (v :: w :: v :: w :: r) h)
    | _ => none
  | .pop => match st with
    | v :: r => ag_ck (ag_wide (some v) = false) (ag_go (pc + len) ls r h)
    | _ => none
  | .iadd => ag_i2 st fun a b r => ag_go (pc + len) ls (vI (a + b) :: r) h
  | .isub => ag_i2 st fun a b r => ag_go (pc + len) ls (vI (a - b) :: r) h
  | .imul => ag_i2 st fun a b r => ag_go (pc + len) ls (vI (a * b) :: r) h
  | .idiv => ag_i2 st fun a b r => ag_ck (0 ≤ a ∧ ag_in a ∧ 0 < b ∧ ag_in b) (ag_go (pc + len) ls (vI (a / b) :: r) h)
  | .irem => ag_i2 st fun a b r => ag_ck (0 ≤ a ∧ ag_in a ∧ 0 < b ∧ ag_in b) (ag_go (pc + len) ls (vI (a % b) :: r) h)
  | .iand => ag_i2 st fun a b r => ag_ck (ag_in a ∧ b = 31) (ag_go (pc + len) ls (vI (a % 32) :: r) h)
  | .ior => ag_i2 st fun a b r => ag_ck (0 ≤ a ∧ ag_in a ∧ 0 ≤ b ∧ ag_in b) (ag_go (pc + len) ls (vI ((a.toNat ||| b.toNat : Nat) : Int) :: r) h)
  | .ishl => ag_i2 st fun a b r => ag_ck (0 ≤ a ∧ 0 ≤ b ∧ b < 31 ∧ a < 2147483648) (ag_go (pc + len) ls (vI (a * (2 ^ b.toNat : Nat)) :: r) h)
  | .ladd => ag_j2 st fun a b r => ag_go (pc + len) ls (vJ (a + b) :: r) h
  | .lmul => ag_j2 st fun a b r => ag_go (pc + len) ls (vJ (a * b) :: r) h
  | .lcmp => ag_j2 st fun a b r => ag_ck (ag_inL a ∧ ag_inL b) (ag_go (pc + len) ls (vI (if a < b then -1 else if a = b then 0 else 1) :: r) h)
  | .i2l => ag_i1 st fun a r => ag_ck (ag_in a) (ag_go (pc + len) ls (vJ a :: r) h)
  | .i2f => ag_i1 st fun a r => ag_go (pc + len) ls (vF (FP.i2f (Int32.ofInt a)) :: r) h
  | .f2i => ag_f1 st fun a r => ag_go (pc + len) ls (vI (FP.f2i a).toInt :: r) h
  | .fdiv => ag_f2 st fun a b r => ag_ck (ag_n32 (FP.fdiv a b)) (ag_go (pc + len) ls (vF (FP.fdiv a b) :: r) h)
  | .fmul => ag_f2 st fun a b r => ag_ck (ag_n32 (FP.fmul a b)) (ag_go (pc + len) ls (vF (FP.fmul a b) :: r) h)
  | .fsub => ag_f2 st fun a b r => ag_ck (ag_n32 (FP.fsub a b)) (ag_go (pc + len) ls (vF (FP.fsub a b) :: r) h)
  | .fcmp op => ag_f2 st fun a b r => ag_go (pc + len) ls (vI (Op.cmpValue (FP.fcmp a b) op).toInt :: r) h
  | .goto off => ag_go (ag_tgt pc off) ls st h
  | .ifCond c off => ag_i1 st fun a r => ag_ck (ag_in a) (if ag_cond c a 0 = true then ag_go (ag_tgt pc off) ls r h else ag_go (pc + len) ls r h)
  | .if_icmp c off => ag_i2 st fun a b r => ag_ck (ag_in a ∧ ag_in b) (if ag_cond c a b = true then ag_go (ag_tgt pc off) ls r h else ag_go (pc + len) ls r h)
  | .ifnull off => ag_r1 st fun a r => match a with
    | none => ag_go (ag_tgt pc off) ls r h
    | some _ => ag_go (pc + len) ls r h
  | .ifnonnull off => ag_r1 st fun a r => match a with
    | none => ag_go (pc + len) ls r h
    | some _ => ag_go (ag_tgt pc off) ls r h
  | .tableswitch d lo hi offs => ag_i1 st fun a r => ag_ck (ag_in a) (if a < lo ∨ hi < a then ag_go (ag_tgt pc d) ls r h else match offs[(a - lo).toNat]? with
    | some off => ag_go (ag_tgt pc off) ls r h
    | none => none)
  | .lookupswitch d ps => ag_i1 st fun a r => ag_ck (ag_in a) (ag_go (ag_tgt pc (Op.lookupswitch.offset ps.toList d a)) ls r h)
  | .getfield ix => ag_a1 st fun a r => match T.1 ci ix with
    | some (t, k) => ag_at h a t fun n rs => ag_ck (k < ag_nf t ∧ k < n) (ag_go (pc + len) ls ((if ag_kind t k = 2 then vR (rs.getD k none) else vI (h.2 a k)) :: r) h)
    | none => none
  | .putfield ix => match T.1 ci ix with
    | some (t, k) => ag_ck (k < ag_nf t) (if ag_kind t k = 2
      then ag_r1 st fun v r => ag_a1 r fun a r => ag_at h a t fun n rs => ag_ck (ini = true ∧ t = ci ∧ rs.length = n ∧ k < n) (ag_go (pc + len) ls r (h.1.set a (t, n, rs.set k v), h.2))
      else ag_i1 st fun z r => ag_a1 r fun a r => ag_at h a t fun n _ => ag_ck ((ag_kind t k = 1 → z = 0 ∨ z = 1) ∧ k < n) (ag_go (pc + len) ls r (h.1, ag_upd h.2 a k z)))
    | none => none
  | .arraylength => match st with
    | .inr (.inr (.inr (.inl (some a)))) :: r => match h.1[a]? with
      | some (t, n, _) => ag_ck (8 ≤ t ∧ t ≤ 12) (ag_go (pc + len) ls (vI n :: r) h)
      | none => none
    | .inr (.inr (.inr (.inr 0))) :: r => ag_go (pc + len) ls (vI E.1 :: r) h
    | _ => none
  | .iaload => match st with
    | .inl i :: .inr (.inr (.inr (.inl (some a)))) :: r => ag_at h a 8 fun n _ => ag_ck (0 ≤ i ∧ i < n ∧ n ≤ 100000) (ag_go (pc + len) ls (vI (h.2 a i) :: r) h)
    | .inl i :: .inr (.inr (.inr (.inr 0))) :: r => ag_ck (0 ≤ i ∧ i < E.1 ∧ E.1 ≤ 100000) (ag_go (pc + len) ls (vI (E.2 i) :: r) h)
    | _ => none
  | .baload => ag_i1 st fun i r => ag_a1 r fun a r => ag_at h a 9 fun n _ => ag_ck (0 ≤ i ∧ i < n ∧ n ≤ 100000) (ag_go (pc + len) ls (vI (h.2 a i) :: r) h)
  | .caload => ag_i1 st fun i r => ag_a1 r fun a r => ag_at h a 10 fun n _ => ag_ck (0 ≤ i ∧ i < n ∧ n ≤ 100000) (ag_go (pc + len) ls (vI (h.2 a i) :: r) h)
  | .laload => ag_i1 st fun i r => ag_a1 r fun a r => ag_at h a 11 fun n _ => ag_ck (0 ≤ i ∧ i < n ∧ n ≤ 100000) (ag_go (pc + len) ls (vJ (h.2 a i) :: r) h)
  | .aaload => ag_i1 st fun i r => ag_a1 r fun a r => ag_at h a 12 fun n rs => ag_ck (0 ≤ i ∧ i < n ∧ n ≤ 100000) (ag_go (pc + len) ls (vR (rs.getD i.toNat none) :: r) h)
  | .iastore => ag_i1 st fun z r => ag_i1 r fun i r => ag_a1 r fun a r => ag_at h a 8 fun n _ => ag_ck (0 ≤ i ∧ i < n ∧ n ≤ 100000) (ag_go (pc + len) ls r (h.1, ag_upd h.2 a i z))
  | .bastore => ag_i1 st fun z r => ag_i1 r fun i r => ag_a1 r fun a r => ag_at h a 9 fun n _ => ag_ck (0 ≤ i ∧ i < n ∧ n ≤ 100000 ∧ (z = 0 ∨ z = 1)) (ag_go (pc + len) ls r (h.1, ag_upd h.2 a i z))
  | .castore => ag_i1 st fun z r => ag_i1 r fun i r => ag_a1 r fun a r => ag_at h a 10 fun n _ => ag_ck (0 ≤ i ∧ i < n ∧ n ≤ 100000 ∧ 0 ≤ z ∧ z < 65536) (ag_go (pc + len) ls r (h.1, ag_upd h.2 a i z))
  | .lastore => ag_j1 st fun z r => ag_i1 r fun i r => ag_a1 r fun a r => ag_at h a 11 fun n _ => ag_ck (0 ≤ i ∧ i < n ∧ n ≤ 100000) (ag_go (pc + len) ls r (h.1, ag_upd h.2 a i z))
  | .aastore => ag_a1 st fun v r => ag_i1 r fun i r => ag_a1 r fun a r => ag_at h a 12 fun n rs => ag_at h v 1 fun _ _ => ag_ck (0 ≤ i ∧ i < n ∧ n ≤ 100000 ∧ rs.length = n) (ag_go (pc + len) ls r (h.1.set a (12, n, rs.set i.toNat (some v)), h.2))
  | .new ix => match T.2.2.2 ci ix with
    | some t => ag_ck (t < 8) (ag_go (pc + len) ls (vA h.1.length :: st) (h.1 ++ [(t, ag_nf t, List.replicate (ag_nf t) none)], ag_zero h.2 h.1.length))
    | none => none
  | .newarray ty => ag_i1 st fun n r => ag_ck (0 ≤ n ∧ n ≤ 100000 ∧ ag_aty ty ≤ 12) (ag_go (pc + len) ls (vA h.1.length :: r) (h.1 ++ [(ag_aty ty, n.toNat, [])], ag_zero h.2 h.1.length))
  | .anewarray ix => ag_i1 st fun n r => ag_ck (0 ≤ n ∧ n ≤ 100000 ∧ T.2.2.2 ci ix = some 1) (ag_go (pc + len) ls (vA h.1.length :: r) (h.1 ++ [(12, n.toNat, List.replicate n.toNat none)], ag_zero h.2 h.1.length))
  | .ldc ix => match T.2.2.1 ci ix with
    | some v => ag_ck (ag_wide (some v) = false) (ag_go (pc + len) ls (v :: st) h)
    | none => none
  | .ldc_w ix => match T.2.2.1 ci ix with
    | some v => ag_ck (ag_wide (some v) = false ∧ ci ≠ 7) (ag_go (pc + len) ls (v :: st) h)
    | none => none
  | .ldc2_w ix => match T.2.2.1 ci ix with
    | some v => ag_ck (ag_wide (some v) = true) (ag_go (pc + len) ls (v :: st) h)
    | none => none
  | .invokevirtual ix => match T.2.1 ci ix with
    | some (2, y, n, t) => ag_ck (n ≤ st.length ∧ (st.drop n).length ≤ 4 ∧ ag_recv h (st.take n).reverse t = true) (match call y (st.take n).reverse h with
      | some (o, h') => ag_go (pc + len) ls (ag_push o (st.drop n)) h'
      | none => none)
    | some (14, _, _, _) => ag_ck (st.length ≤ 5) (match ag_lib 14 st with
      | some r => ag_go (pc + len) ls r h
      | none => none)
    | _ => none
  | .invokespecial ix => match T.2.1 ci ix with
    | some (3, y, n, t) => ag_ck (n ≤ st.length ∧ (st.drop n).length ≤ 4 ∧ ag_recv h (st.take n).reverse t = true) (match call y (st.take n).reverse h with
      | some (o, h') => ag_go (pc + len) ls (ag_push o (st.drop n)) h'
      | none => none)
    | some (10, _, _, _) => ag_ck (st.length ≤ 5) (match ag_lib 10 st with
      | some r => ag_go (pc + len) ls r h
      | none => none)
    | _ => none
  | .invokestatic ix => match T.2.1 ci ix with
    | some (1, y, n, _) => ag_ck (n ≤ st.length ∧ (st.drop n).length ≤ 4) (match call y (st.take n).reverse h with
      | some (o, h') => ag_go (pc + len) ls (ag_push o (st.drop n)) h'
      | none => none)
    | some (k, _, _, _) => ag_ck (st.length ≤ 5 ∧ 11 ≤ k ∧ k ≤ 13) (match ag_lib k st with
      | some r => ag_go (pc + len) ls r h
      | none => none)
    | _ => none
  | .ireturn => match st with
    | [v] => ag_ck (ag_rv rt v = true ∧ (rt = 1 ∨ rt = 2)) (some (.inr (some v, h)))
    | _ => none
  | .lreturn => match st with
    | [v] => ag_ck (ag_rv rt v = true ∧ rt = 3) (some (.inr (some v, h)))
    | _ => none
  | .areturn => match st with
    | [v] => ag_ck (ag_rv rt v = true ∧ rt = 4) (some (.inr (some v, h)))
    | _ => none
  | .return_ => ag_ck (rt = 0 ∧ st = []) (some (.inr (none, h)))
  | _ => none
/-- a method's body: its class, its answer's kind (0 void, 1 int, 2 boolean, 3 long, 4 reference), a constructor or not, how many locals, its instructions by pc -/
abbrev ag_M : Type := Nat × Nat × Bool × Nat × List (Option (Instr × Nat))
def ag_run (T : ag_T) (call : Nat → List av → ag_H → Option ag_O) (E : Nat × (Int → Int)) (M : ag_M) : Nat → ag_F → Option ag_O
  | 0, _ => none
  | n + 1, (pc, ls, st, h) => match M.2.2.2.2[pc]? with
    | some (some (i, len)) => match ag_step T call E M.1 M.2.1 M.2.2.1 i len pc ls st h with
      | some (.inl f) => ag_run T call E M n f
      | some (.inr o) => some o
      | none => none
    | _ => none
/-- the locals at a method's entry -/
def ag_args : List av → List (Option av)
  | [] => []
  | v :: l => if ag_wide (some v) = true then some v :: none :: ag_args l else some v :: ag_args l
def ag_entry (maxL : Nat) (as : List av) : List (Option av) := ag_args as ++ List.replicate (maxL - (ag_args as).length) none
/-- a call at a depth, with so many steps at most in each body -/
def ag_call (T : ag_T) (Ms : List ag_M) (E : Nat × (Int → Int)) (fuel : Nat) : Nat → Nat → List av → ag_H → Option ag_O
  | 0, _, _, _ => none
  | d + 1, y, as, h => match Ms[y]? with
    | some M => ag_ck ((ag_args as).length ≤ M.2.2.2.1) (ag_run T (ag_call T Ms E fuel d) E M fuel (0, ag_entry M.2.2.2.1 as, [], h))
    | none => none
end
section
/-! printed by wip/whole/gen_tables.py: the tables of the class files, the methods by number -/
def ag_tF : List (List (Nat × (Nat × Nat))) := [
  [(9, (0, 0)), (15, (0, 2)), (18, (0, 3)), (21, (0, 4)), (25, (0, 5)), (28, (0, 1))],
  [(12, (1, 0)), (21, (1, 1)), (25, (1, 6)), (29, (1, 7)), (32, (1, 8)), (43, (1, 2)), (47, (1, 3)), (51, (1, 4)), (54, (1, 5))],
  [(11, (2, 1)), (15, (2, 2)), (18, (2, 0))],
  [(9, (3, 1)), (15, (3, 3)), (18, (3, 4)), (21, (3, 0)), (25, (3, 2))],
  [(11, (4, 0)), (18, (4, 1)), (30, (4, 2))],
  [(9, (5, 0)), (15, (5, 1)), (18, (5, 2)), (21, (5, 3)), (24, (5, 4))],
  [(12, (6, 0)), (16, (6, 1)), (19, (6, 2)), (25, (6, 4)), (32, (6, 5)), (39, (6, 6)), (43, (6, 7)), (54, (1, 0)), (76, (0, 1)), (84, (1, 2)), (88, (1, 4)), (123, (0, 2)), (126, (0, 3)), (129, (0, 4)), (133, (0, 5)), (139, (1, 6)), (142, (1, 7)), (145, (1, 8)), (162, (1, 1)), (201, (6, 8)), (207, (3, 0)), (216, (3, 2)), (219, (3, 3)), (222, (3, 4)), (225, (5, 0)), (228, (5, 1)), (231, (5, 2)), (234, (5, 3)), (237, (5, 4)), (240, (1, 3)), (246, (1, 5)), (255, (4, 2)), (266, (6, 3))],
  [(7, (7, 0)), (13, (7, 1)), (16, (7, 2)), (19, (7, 3)), (22, (7, 4)), (25, (7, 10)), (29, (7, 13)), (32, (7, 15)), (36, (7, 18)), (39, (7, 8)), (42, (7, 9)), (45, (7, 11)), (52, (7, 7)), (56, (7, 6)), (155, (7, 12)), (171, (7, 16)), (182, (7, 14)), (185, (7, 17)), (188, (7, 19)), (217, (7, 5))],
  []]
def ag_tM : List (List (Nat × (Nat × Nat × Nat × Nat))) := [
  [(3, (10, 0, 1, 0)), (32, (1, 95, 1, 6)), (36, (1, 96, 1, 6)), (40, (2, 7, 2, 0)), (43, (2, 2, 2, 0)), (46, (1, 101, 2, 6)), (50, (1, 100, 1, 6)), (53, (1, 97, 2, 6)), (57, (2, 13, 3, 0)), (60, (1, 102, 3, 6)), (64, (2, 8, 2, 0)), (67, (1, 98, 1, 6)), (70, (2, 14, 3, 0)), (73, (1, 103, 3, 6)), (76, (1, 99, 1, 6)), (79, (2, 3, 3, 0)), (83, (2, 22, 3, 0))],
  [(3, (10, 0, 1, 0)), (11, (3, 0, 1, 0)), (20, (3, 38, 1, 2)), (35, (2, 1, 2, 0)), (39, (2, 39, 2, 2)), (57, (2, 30, 1, 1)), (61, (2, 28, 1, 1)), (65, (2, 17, 2, 0)), (69, (2, 2, 2, 0)), (72, (1, 95, 1, 6)), (75, (2, 14, 3, 0)), (79, (2, 36, 1, 1)), (82, (2, 37, 1, 1)), (85, (1, 91, 1, 6)), (89, (2, 13, 3, 0)), (92, (2, 19, 3, 0)), (96, (2, 20, 3, 0)), (99, (2, 10, 2, 0)), (103, (2, 35, 1, 1)), (106, (2, 29, 1, 1)), (109, (2, 21, 2, 0)), (112, (2, 25, 1, 0)), (115, (2, 24, 2, 0)), (121, (2, 40, 3, 2)), (125, (2, 41, 1, 2)), (128, (2, 4, 2, 0))],
  [(3, (10, 0, 1, 0)), (22, (2, 42, 2, 2)), (26, (12, 0, 2, 0))],
  [(3, (10, 0, 1, 0)), (28, (1, 50, 1, 3)), (32, (2, 49, 3, 3))],
  [(3, (10, 0, 1, 0)), (17, (3, 26, 1, 1)), (22, (2, 52, 2, 4)), (26, (2, 27, 2, 1)), (33, (11, 0, 2, 0))],
  [(3, (10, 0, 1, 0)), (27, (2, 58, 3, 5))],
  [(3, (10, 0, 1, 0)), (11, (3, 26, 1, 1)), (24, (3, 51, 1, 4)), (31, (3, 45, 1, 3)), (38, (3, 56, 1, 5)), (47, (1, 90, 1, 6)), (51, (1, 91, 1, 6)), (58, (2, 4, 2, 0)), (64, (2, 88, 4, 6)), (68, (2, 53, 2, 4)), (72, (2, 3, 3, 0)), (80, (2, 9, 3, 0)), (91, (2, 87, 4, 6)), (94, (2, 33, 1, 1)), (97, (2, 31, 1, 1)), (101, (2, 89, 5, 6)), (105, (2, 34, 3, 1)), (108, (2, 2, 2, 0)), (111, (1, 93, 1, 6)), (114, (2, 7, 2, 0)), (117, (2, 8, 2, 0)), (120, (2, 6, 2, 0)), (136, (2, 5, 2, 0)), (148, (2, 30, 1, 1)), (152, (2, 28, 1, 1)), (155, (2, 18, 4, 0)), (158, (2, 32, 3, 1)), (166, (2, 41, 1, 2)), (171, (2, 43, 1, 2)), (174, (1, 92, 1, 6)), (177, (2, 14, 3, 0)), (180, (2, 13, 3, 0)), (183, (1, 94, 1, 6)), (186, (2, 16, 3, 0)), (189, (1, 95, 1, 6)), (192, (2, 27, 2, 1)), (195, (2, 29, 1, 1)), (198, (2, 23, 2, 0)), (204, (2, 46, 2, 3)), (210, (2, 48, 1, 3)), (213, (2, 47, 1, 3)), (243, (2, 11, 1, 0)), (249, (2, 12, 1, 0)), (252, (2, 44, 1, 2)), (258, (1, 104, 1, 6)), (262, (2, 54, 2, 4)), (269, (2, 55, 1, 4)), (272, (2, 57, 4, 5)), (276, (2, 15, 4, 0)), (278, (2, 58, 3, 5)), (281, (1, 96, 1, 6)), (284, (1, 101, 2, 6)), (287, (1, 100, 1, 6))],
  [(1, (10, 0, 1, 0)), (48, (1, 107, 3, 7)), (59, (1, 109, 4, 7)), (63, (2, 111, 2, 7)), (67, (2, 114, 3, 7)), (71, (2, 115, 2, 7)), (74, (2, 117, 3, 7)), (77, (2, 106, 3, 7)), (80, (1, 108, 1, 7)), (84, (2, 119, 2, 7)), (87, (2, 110, 2, 7)), (91, (2, 118, 2, 7)), (94, (2, 137, 1, 7)), (98, (2, 145, 1, 7)), (101, (1, 123, 2, 7)), (104, (2, 113, 2, 7)), (107, (2, 112, 2, 7)), (110, (2, 126, 3, 7)), (114, (2, 125, 3, 7)), (117, (2, 116, 2, 7)), (120, (2, 124, 3, 7)), (123, (2, 127, 3, 7)), (126, (2, 130, 4, 7)), (130, (2, 132, 3, 7)), (134, (2, 135, 1, 7)), (137, (2, 134, 2, 7)), (140, (2, 136, 1, 7)), (143, (2, 129, 3, 7)), (146, (2, 131, 1, 7)), (149, (2, 133, 1, 7)), (152, (2, 128, 3, 7)), (158, (2, 138, 3, 7)), (161, (2, 143, 1, 7)), (165, (2, 144, 3, 7)), (168, (2, 151, 3, 7)), (176, (14, 0, 2, 0)), (191, (2, 159, 1, 7)), (196, (2, 160, 1, 7)), (199, (2, 161, 1, 7)), (202, (2, 139, 3, 7)), (205, (2, 164, 1, 7)), (208, (2, 165, 1, 7)), (211, (13, 0, 1, 0))],
  [(9, (3, 59, 1, 6)), (12, (3, 105, 1, 7)), (13, (2, 60, 4, 6)), (17, (2, 120, 4, 7)), (18, (2, 61, 3, 6)), (22, (2, 121, 3, 7)), (23, (2, 62, 1, 6)), (27, (2, 122, 1, 7)), (28, (2, 63, 3, 6)), (31, (2, 139, 3, 7)), (32, (2, 64, 3, 6)), (35, (2, 140, 3, 7)), (36, (2, 65, 3, 6)), (39, (2, 141, 3, 7)), (40, (2, 66, 3, 6)), (43, (2, 142, 3, 7)), (44, (2, 67, 1, 6)), (47, (2, 145, 1, 7)), (48, (2, 68, 1, 6)), (51, (2, 146, 1, 7)), (52, (2, 69, 2, 6)), (56, (2, 147, 2, 7)), (57, (2, 70, 1, 6)), (60, (2, 148, 1, 7)), (61, (2, 71, 1, 6)), (64, (2, 149, 1, 7)), (65, (2, 72, 3, 6)), (68, (2, 150, 3, 7)), (69, (2, 73, 1, 6)), (72, (2, 152, 1, 7)), (73, (2, 74, 2, 6)), (76, (2, 153, 2, 7)), (77, (2, 75, 2, 6)), (80, (2, 154, 2, 7)), (81, (2, 76, 2, 6)), (84, (2, 155, 2, 7)), (85, (2, 77, 2, 6)), (88, (2, 156, 2, 7)), (89, (2, 78, 2, 6)), (92, (2, 157, 2, 7)), (93, (2, 79, 2, 6)), (96, (2, 158, 2, 7)), (97, (2, 80, 1, 6)), (100, (2, 162, 1, 7)), (101, (2, 81, 2, 6)), (104, (2, 163, 2, 7)), (105, (2, 82, 2, 6)), (108, (2, 166, 2, 7)), (109, (2, 83, 1, 6)), (112, (2, 167, 1, 7)), (113, (2, 84, 1, 6)), (116, (2, 168, 1, 7)), (117, (2, 85, 1, 6)), (120, (2, 169, 1, 7)), (121, (2, 86, 1, 6)), (124, (2, 170, 1, 7))]]
def ag_tC : List (List (Nat × av)) := [
  [(86, vJ (8))],
  [(119, vJ (32))],
  [],
  [],
  [],
  [],
  [(290, vF 1258291200)],
  [(174, vX 1), (194, vX 2)],
  []]
def ag_tN : List (List (Nat × Nat)) := [
  [],
  [(9, 0), (18, 2)],
  [],
  [],
  [(9, 1)],
  [],
  [(9, 1), (22, 4), (29, 3), (36, 5)],
  [],
  [(7, 6), (10, 7)]]
def ag_TT : ag_T := (fun c i => (ag_tF.getD c []).lookup i, fun c i => (ag_tM.getD c []).lookup i, fun c i => (ag_tC.getD c []).lookup i, fun c i => (ag_tN.getD c []).lookup i)
def ag_cX0_init : List (Option (Instr × Nat)) := [
  some (.aload_n 0, 1), some (.invokespecial 3, 3), none, none, some (.aload_n 0, 1), some (.bipush 36, 2), none, some (.newarray .int, 2), none, some (.putfield 9, 3), none, none, some (.aload_n 0, 1), some (.iconst 4, 1), some (.newarray .int, 2), none, some (.putfield 15, 3), none, none, some (.aload_n 0, 1), some (.iconst 4, 1), some (.newarray .int, 2), none, some (.putfield 18, 3), none, none, some (.aload_n 0, 1), some (.iconst 4, 1), some (.newarray .boolean, 2), none, some (.putfield 21, 3), none, none, some (.aload_n 0, 1), some (.iconst 4, 1), some (.newarray .int, 2), none, some (.putfield 25, 3), none, none, some (.iconst 0, 1), some (.istore_n 1, 1), some (.iload_n 1, 1), some (.bipush 36, 2), none, some (.if_icmp .ge 16, 3), none, none, some (.aload_n 0, 1), some (.getfield 9, 3), none, none, some (.iload_n 1, 1), some (.iconst (-1), 1), some (.iastore, 1), some (.iinc 1 1, 3), none, none, some (.goto (-16), 3), none, none, some (.return_, 1)]
def ag_mX0_init : ag_M := (0, 0, true, 2, ag_cX0_init)
def ag_cX0_copyBoard : List (Option (Instr × Nat)) := [
  some (.iconst 0, 1), some (.istore_n 2, 1), some (.iload_n 2, 1), some (.bipush 36, 2), none, some (.if_icmp .ge 21, 3), none, none, some (.aload_n 0, 1), some (.getfield 9, 3), none, none, some (.iload_n 2, 1), some (.aload_n 1, 1), some (.getfield 9, 3), none, none, some (.iload_n 2, 1), some (.iaload, 1), some (.iastore, 1), some (.iinc 2 1, 3), none, none, some (.goto (-21), 3), none, none, some (.aload_n 0, 1), some (.aload_n 1, 1), some (.getfield 28, 3), none, none, some (.putfield 28, 3), none, none, some (.iconst 0, 1), some (.istore_n 2, 1), some (.iload_n 2, 1), some (.iconst 4, 1), some (.if_icmp .ge 57, 3), none, none, some (.aload_n 0, 1), some (.getfield 15, 3), none, none, some (.iload_n 2, 1), some (.aload_n 1, 1), some (.getfield 15, 3), none, none, some (.iload_n 2, 1), some (.iaload, 1), some (.iastore, 1), some (.aload_n 0, 1), some (.getfield 18, 3), none, none, some (.iload_n 2, 1), some (.aload_n 1, 1), some (.getfield 18, 3), none, none, some (.iload_n 2, 1), some (.iaload, 1), some (.iastore, 1), some (.aload_n 0, 1), some (.getfield 21, 3), none, none, some (.iload_n 2, 1), some (.aload_n 1, 1), some (.getfield 21, 3), none, none, some (.iload_n 2, 1), some (.baload, 1), some (.bastore, 1), some (.aload_n 0, 1), some (.getfield 25, 3), none, none, some (.iload_n 2, 1), some (.aload_n 1, 1), some (.getfield 25, 3), none, none, some (.iload_n 2, 1), some (.iaload, 1), some (.iastore, 1), some (.iinc 2 1, 3), none, none, some (.goto (-56), 3), none, none, some (.return_, 1)]
def ag_mX0_copyBoard : ag_M := (0, 0, false, 3, ag_cX0_copyBoard)
def ag_cX0_pieceAt : List (Option (Instr × Nat)) := [
  some (.iload_n 1, 1), some (.ifCond .lt 18, 3), none, none, some (.iload_n 1, 1), some (.bipush 36, 2), none, some (.if_icmp .ge 12, 3), none, none, some (.aload_n 0, 1), some (.getfield 9, 3), none, none, some (.iload_n 1, 1), some (.iaload, 1), some (.goto 4, 3), none, none, some (.iconst (-1), 1), some (.ireturn, 1)]
def ag_mX0_pieceAt : ag_M := (0, 1, false, 2, ag_cX0_pieceAt)
def ag_cX0_setPiece : List (Option (Instr × Nat)) := [
  some (.iload_n 1, 1), some (.ifCond .lt 16, 3), none, none, some (.iload_n 1, 1), some (.bipush 36, 2), none, some (.if_icmp .ge 10, 3), none, none, some (.aload_n 0, 1), some (.getfield 9, 3), none, none, some (.iload_n 1, 1), some (.iload_n 2, 1), some (.iastore, 1), some (.return_, 1)]
def ag_mX0_setPiece : ag_M := (0, 0, false, 3, ag_cX0_setPiece)
def ag_cX0_countOf : List (Option (Instr × Nat)) := [
  some (.iconst 0, 1), some (.istore_n 2, 1), some (.iconst 0, 1), some (.istore_n 3, 1), some (.iload_n 3, 1), some (.bipush 36, 2), none, some (.if_icmp .ge 25, 3), none, none, some (.aload_n 0, 1), some (.getfield 9, 3), none, none, some (.iload_n 3, 1), some (.iaload, 1), some (.invokestatic 32, 3), none, none, some (.iload_n 1, 1), some (.if_icmp .ne 6, 3), none, none, some (.iinc 2 1, 3), none, none, some (.iinc 3 1, 3), none, none, some (.goto (-25), 3), none, none, some (.iload_n 2, 1), some (.ireturn, 1)]
def ag_mX0_countOf : ag_M := (0, 1, false, 4, ag_cX0_countOf)
def ag_cX0_tugsOf : List (Option (Instr × Nat)) := [
  some (.iconst 0, 1), some (.istore_n 2, 1), some (.iconst 0, 1), some (.istore_n 3, 1), some (.iload_n 3, 1), some (.bipush 36, 2), none, some (.if_icmp .ge 37, 3), none, none, some (.aload_n 0, 1), some (.getfield 9, 3), none, none, some (.iload_n 3, 1), some (.iaload, 1), some (.invokestatic 32, 3), none, none, some (.iload_n 1, 1), some (.if_icmp .ne 18, 3), none, none, some (.aload_n 0, 1), some (.getfield 9, 3), none, none, some (.iload_n 3, 1), some (.iaload, 1), some (.invokestatic 36, 3), none, none, some (.ifCond .eq 6, 3), none, none, some (.iinc 2 1, 3), none, none, some (.iinc 3 1, 3), none, none, some (.goto (-37), 3), none, none, some (.iload_n 2, 1), some (.ireturn, 1)]
def ag_mX0_tugsOf : ag_M := (0, 1, false, 4, ag_cX0_tugsOf)
def ag_cX0_hasLock : List (Option (Instr × Nat)) := [
  some (.iload_n 1, 1), some (.ifCond .lt 20, 3), none, none, some (.iload_n 1, 1), some (.aload_n 0, 1), some (.getfield 28, 3), none, none, some (.if_icmp .ge 12, 3), none, none, some (.iload_n 1, 1), some (.iconst 4, 1), some (.if_icmp .ge 7, 3), none, none, some (.iconst 1, 1), some (.goto 4, 3), none, none, some (.iconst 0, 1), some (.ireturn, 1)]
def ag_mX0_hasLock : ag_M := (0, 2, false, 2, ag_cX0_hasLock)
def ag_cX0_lockAt : List (Option (Instr × Nat)) := [
  some (.iconst 0, 1), some (.istore_n 2, 1), some (.iload_n 2, 1), some (.iconst 4, 1), some (.if_icmp .ge 29, 3), none, none, some (.iload_n 2, 1), some (.aload_n 0, 1), some (.getfield 28, 3), none, none, some (.if_icmp .ge 15, 3), none, none, some (.aload_n 0, 1), some (.getfield 15, 3), none, none, some (.iload_n 2, 1), some (.iaload, 1), some (.iload_n 1, 1), some (.if_icmp .ne 5, 3), none, none, some (.iload_n 2, 1), some (.ireturn, 1), some (.iinc 2 1, 3), none, none, some (.goto (-28), 3), none, none, some (.iconst (-1), 1), some (.ireturn, 1)]
def ag_mX0_lockAt : ag_M := (0, 1, false, 3, ag_cX0_lockAt)
def ag_cX0_isClosed : List (Option (Instr × Nat)) := [
  some (.aload_n 0, 1), some (.iload_n 1, 1), some (.invokevirtual 40, 3), none, none, some (.istore_n 2, 1), some (.iload_n 2, 1), some (.ifCond .lt 21, 3), none, none, some (.iload_n 2, 1), some (.iconst 4, 1), some (.if_icmp .ge 16, 3), none, none, some (.aload_n 0, 1), some (.getfield 21, 3), none, none, some (.iload_n 2, 1), some (.baload, 1), some (.ifCond .eq 7, 3), none, none, some (.iconst 1, 1), some (.goto 4, 3), none, none, some (.iconst 0, 1), some (.ireturn, 1)]
def ag_mX0_isClosed : ag_M := (0, 2, false, 3, ag_cX0_isClosed)
def ag_cX0_buildLock : List (Option (Instr × Nat)) := [
  some (.aload_n 0, 1), some (.getfield 28, 3), none, none, some (.istore_n 3, 1), some (.iload_n 3, 1), some (.ifCond .lt 8, 3), none, none, some (.iload_n 3, 1), some (.iconst 4, 1), some (.if_icmp .lt 5, 3), none, none, some (.iconst (-1), 1), some (.ireturn, 1), some (.aload_n 0, 1), some (.getfield 15, 3), none, none, some (.iload_n 3, 1), some (.iload_n 1, 1), some (.iastore, 1), some (.aload_n 0, 1), some (.getfield 18, 3), none, none, some (.iload_n 3, 1), some (.iload_n 2, 1), some (.iastore, 1), some (.aload_n 0, 1), some (.getfield 21, 3), none, none, some (.iload_n 3, 1), some (.iconst 0, 1), some (.bastore, 1), some (.aload_n 0, 1), some (.getfield 25, 3), none, none, some (.iload_n 3, 1), some (.iconst 0, 1), some (.iastore, 1), some (.aload_n 0, 1), some (.dup, 1), some (.getfield 28, 3), none, none, some (.iconst 1, 1), some (.iadd, 1), some (.putfield 28, 3), none, none, some (.iload_n 3, 1), some (.ireturn, 1)]
def ag_mX0_buildLock : ag_M := (0, 1, false, 4, ag_cX0_buildLock)
def ag_cX0_turnLocks : List (Option (Instr × Nat)) := [
  some (.iconst 0, 1), some (.istore_n 2, 1), some (.iload_n 2, 1), some (.aload_n 0, 1), some (.getfield 28, 3), none, none, some (.if_icmp .ge 75, 3), none, none, some (.iload_n 2, 1), some (.iconst 4, 1), some (.if_icmp .ge 70, 3), none, none, some (.aload_n 0, 1), some (.getfield 18, 3), none, none, some (.iload_n 2, 1), some (.iaload, 1), some (.istore_n 3, 1), some (.iload_n 3, 1), some (.ifCond .le 53, 3), none, none, some (.iload_n 1, 1), some (.iload_n 3, 1), some (.irem, 1), some (.ifCond .ne 47, 3), none, none, some (.aload_n 0, 1), some (.aload_n 0, 1), some (.getfield 15, 3), none, none, some (.iload_n 2, 1), some (.iaload, 1), some (.invokevirtual 43, 3), none, none, some (.iconst (-1), 1), some (.if_icmp .ne 33, 3), none, none, some (.aload_n 0, 1), some (.getfield 21, 3), none, none, some (.iload_n 2, 1), some (.aload_n 0, 1), some (.getfield 21, 3), none, none, some (.iload_n 2, 1), some (.baload, 1), some (.ifCond .ne 7, 3), none, none, some (.iconst 1, 1), some (.goto 4, 3), none, none, some (.iconst 0, 1), some (.bastore, 1), some (.aload_n 0, 1), some (.getfield 25, 3), none, none, some (.iload_n 2, 1), some (.dup2, 1), some (.iaload, 1), some (.iconst 1, 1), some (.iadd, 1), some (.iastore, 1), some (.iinc 2 1, 3), none, none, some (.goto (-77), 3), none, none, some (.return_, 1)]
def ag_mX0_turnLocks : ag_M := (0, 0, false, 4, ag_cX0_turnLocks)
def ag_cX0_closedLocks : List (Option (Instr × Nat)) := [
  some (.iconst 0, 1), some (.istore_n 1, 1), some (.iconst 0, 1), some (.istore_n 2, 1), some (.iload_n 2, 1), some (.iconst 4, 1), some (.if_icmp .ge 21, 3), none, none, some (.aload_n 0, 1), some (.getfield 21, 3), none, none, some (.iload_n 2, 1), some (.baload, 1), some (.ifCond .eq 6, 3), none, none, some (.iinc 1 1, 3), none, none, some (.iinc 2 1, 3), none, none, some (.goto (-20), 3), none, none, some (.iload_n 1, 1), some (.ireturn, 1)]
def ag_mX0_closedLocks : ag_M := (0, 1, false, 3, ag_cX0_closedLocks)
def ag_cX0_allLockTurns : List (Option (Instr × Nat)) := [
  some (.iconst 0, 1), some (.istore_n 1, 1), some (.iconst 0, 1), some (.istore_n 2, 1), some (.iload_n 2, 1), some (.iconst 4, 1), some (.if_icmp .ge 18, 3), none, none, some (.iload_n 1, 1), some (.aload_n 0, 1), some (.getfield 25, 3), none, none, some (.iload_n 2, 1), some (.iaload, 1), some (.iadd, 1), some (.istore_n 1, 1), some (.iinc 2 1, 3), none, none, some (.goto (-17), 3), none, none, some (.iload_n 1, 1), some (.ireturn, 1)]
def ag_mX0_allLockTurns : ag_M := (0, 1, false, 3, ag_cX0_allLockTurns)
def ag_cX0_standing : List (Option (Instr × Nat)) := [
  some (.iload_n 1, 1), some (.iload_n 2, 1), some (.invokestatic 46, 3), none, none, some (.istore_n 3, 1), some (.iload_n 2, 1), some (.invokestatic 50, 3), none, none, some (.istore 4, 2), none, some (.iconst 0, 1), some (.istore 5, 2), none, some (.iload 5, 2), none, some (.iload_n 3, 1), some (.if_icmp .ge 26, 3), none, none, some (.aload_n 0, 1), some (.iload_n 1, 1), some (.iload 5, 2), none, some (.iconst 1, 1), some (.iadd, 1), some (.iload 4, 2), none, some (.imul, 1), some (.iadd, 1), some (.invokevirtual 43, 3), none, none, some (.iconst (-1), 1), some (.if_icmp .eq 9, 3), none, none, some (.iinc 5 1, 3), none, none, some (.goto (-26), 3), none, none, some (.iload 5, 2), none, some (.ireturn, 1)]
def ag_mX0_standing : ag_M := (0, 1, false, 6, ag_cX0_standing)
def ag_cX0_causeAgainst : List (Option (Instr × Nat)) := [
  some (.aload_n 0, 1), some (.iload_n 1, 1), some (.invokevirtual 43, 3), none, none, some (.istore_n 3, 1), some (.iload_n 3, 1), some (.iload_n 2, 1), some (.invokestatic 53, 3), none, none, some (.ifCond .ne 6, 3), none, none, some (.bipush 10, 2), none, some (.ireturn, 1), some (.iload_n 1, 1), some (.iload_n 2, 1), some (.invokestatic 46, 3), none, none, some (.ifCond .ne 6, 3), none, none, some (.bipush 11, 2), none, some (.ireturn, 1), some (.aload_n 0, 1), some (.iload_n 1, 1), some (.iload_n 2, 1), some (.invokevirtual 57, 3), none, none, some (.istore 4, 2), none, some (.aload_n 0, 1), some (.iload_n 1, 1), some (.iload_n 2, 1), some (.iload 4, 2), none, some (.iconst 1, 1), some (.iadd, 1), some (.invokestatic 60, 3), none, none, some (.invokevirtual 64, 3), none, none, some (.ifCond .eq 6, 3), none, none, some (.bipush 12, 2), none, some (.ireturn, 1), some (.iload 4, 2), none, some (.iload_n 3, 1), some (.invokestatic 67, 3), none, none, some (.if_icmp .le 8, 3), none, none, some (.bipush 13, 2), none, some (.goto 4, 3), none, none, some (.iconst 0, 1), some (.ireturn, 1)]
def ag_mX0_causeAgainst : ag_M := (0, 1, false, 5, ag_cX0_causeAgainst)
def ag_cX0_causeDetail : List (Option (Instr × Nat)) := [
  some (.iload_n 1, 1), some (.tableswitch 60 10 12 #[27, 44, 46], 27), none, none, none, none, none, none, none, none, none, none, none, none, none, none, none, none, none, none, none, none, none, none, none, none, none, none, some (.aload_n 0, 1), some (.iload_n 2, 1), some (.invokevirtual 43, 3), none, none, some (.invokestatic 36, 3), none, none, some (.ifCond .eq 7, 3), none, none, some (.iconst 1, 1), some (.goto 4, 3), none, none, some (.iconst 0, 1), some (.ireturn, 1), some (.iload_n 2, 1), some (.ireturn, 1), some (.iload_n 2, 1), some (.iload_n 3, 1), some (.aload_n 0, 1), some (.iload_n 2, 1), some (.iload_n 3, 1), some (.invokevirtual 57, 3), none, none, some (.iconst 1, 1), some (.iadd, 1), some (.invokestatic 60, 3), none, none, some (.ireturn, 1), some (.aload_n 0, 1), some (.iload_n 2, 1), some (.iload_n 3, 1), some (.invokevirtual 57, 3), none, none, some (.ireturn, 1)]
def ag_mX0_causeDetail : ag_M := (0, 1, false, 4, ag_cX0_causeDetail)
def ag_cX0_pushedOff : List (Option (Instr × Nat)) := [
  some (.aload_n 0, 1), some (.iload_n 1, 1), some (.iload_n 2, 1), some (.invokevirtual 57, 3), none, none, some (.istore_n 3, 1), some (.iload_n 3, 1), some (.ifCond .eq 12, 3), none, none, some (.iload_n 3, 1), some (.iload_n 1, 1), some (.iload_n 2, 1), some (.invokestatic 46, 3), none, none, some (.if_icmp .ge 5, 3), none, none, some (.iconst (-1), 1), some (.ireturn, 1), some (.aload_n 0, 1), some (.iload_n 1, 1), some (.iload_n 2, 1), some (.iload_n 3, 1), some (.invokestatic 60, 3), none, none, some (.invokevirtual 43, 3), none, none, some (.ireturn, 1)]
def ag_mX0_pushedOff : ag_M := (0, 1, false, 4, ag_cX0_pushedOff)
def ag_cX0_countMoves : List (Option (Instr × Nat)) := [
  some (.iconst 0, 1), some (.istore_n 2, 1), some (.iconst 0, 1), some (.istore_n 3, 1), some (.iload_n 3, 1), some (.sipush 144, 3), none, none, some (.if_icmp .ge 42, 3), none, none, some (.iload_n 3, 1), some (.iconst 4, 1), some (.idiv, 1), some (.istore 4, 2), none, some (.aload_n 0, 1), some (.iload 4, 2), none, some (.invokevirtual 43, 3), none, none, some (.invokestatic 32, 3), none, none, some (.iload_n 1, 1), some (.if_icmp .ne 18, 3), none, none, some (.aload_n 0, 1), some (.iload 4, 2), none, some (.iload_n 3, 1), some (.iconst 4, 1), some (.irem, 1), some (.invokevirtual 70, 3), none, none, some (.ifCond .ne 6, 3), none, none, some (.iinc 2 1, 3), none, none, some (.iinc 3 1, 3), none, none, some (.goto (-43), 3), none, none, some (.iload_n 2, 1), some (.ireturn, 1)]
def ag_mX0_countMoves : ag_M := (0, 1, false, 5, ag_cX0_countMoves)
def ag_cX0_movesInLane : List (Option (Instr × Nat)) := [
  some (.iconst 0, 1), some (.istore 4, 2), none, some (.iconst 0, 1), some (.istore 5, 2), none, some (.iconst 0, 1), some (.istore 6, 2), none, some (.iconst 0, 1), some (.istore 7, 2), none, some (.iload 7, 2), none, some (.bipush 6, 2), none, some (.if_icmp .ge 102, 3), none, none, some (.iload_n 3, 1), some (.iload_n 2, 1), some (.iload 7, 2), none, some (.invokestatic 73, 3), none, none, some (.istore 8, 2), none, some (.aload_n 0, 1), some (.iload 8, 2), none, some (.invokevirtual 43, 3), none, none, some (.istore 9, 2), none, some (.iload 9, 2), none, some (.iconst (-1), 1), some (.if_icmp .ne 17, 3), none, none, some (.iconst 0, 1), some (.istore 5, 2), none, some (.aload_n 0, 1), some (.iload 8, 2), none, some (.invokevirtual 64, 3), none, none, some (.istore 6, 2), none, some (.goto 59, 3), none, none, some (.iload 7, 2), none, some (.ifCond .le 22, 3), none, none, some (.iload 6, 2), none, some (.ifCond .ne 17, 3), none, none, some (.iload 5, 2), none, some (.iload 9, 2), none, some (.invokestatic 67, 3), none, none, some (.if_icmp .gt 7, 3), none, none, some (.iconst 1, 1), some (.goto 4, 3), none, none, some (.iconst 0, 1), some (.istore 10, 2), none, some (.iload 10, 2), none, some (.ifCond .eq 24, 3), none, none, some (.iload 9, 2), none, some (.invokestatic 32, 3), none, none, some (.iload_n 1, 1), some (.if_icmp .ne 15, 3), none, none, some (.iload 9, 2), none, some (.iload_n 2, 1), some (.invokestatic 53, 3), none, none, some (.ifCond .eq 6, 3), none, none, some (.iinc 4 1, 3), none, none, some (.iinc 5 1, 3), none, none, some (.iinc 7 1, 3), none, none, some (.goto (-103), 3), none, none, some (.iload 4, 2), none, some (.ireturn, 1)]
def ag_mX0_movesInLane : ag_M := (0, 1, false, 11, ag_cX0_movesInLane)
def ag_cX0_promote : List (Option (Instr × Nat)) := [
  some (.aload_n 0, 1), some (.iload_n 1, 1), some (.invokevirtual 43, 3), none, none, some (.istore_n 3, 1), some (.iload_n 1, 1), some (.iload_n 2, 1), some (.iconst 1, 1), some (.invokestatic 60, 3), none, none, some (.istore 4, 2), none, some (.iload_n 3, 1), some (.iconst (-1), 1), some (.if_icmp .eq 25, 3), none, none, some (.iload_n 3, 1), some (.invokestatic 36, 3), none, none, some (.ifCond .ne 18, 3), none, none, some (.iload 4, 2), none, some (.bipush 6, 2), none, some (.idiv, 1), some (.iload_n 3, 1), some (.invokestatic 32, 3), none, none, some (.invokestatic 76, 3), none, none, some (.if_icmp .eq 5, 3), none, none, some (.iconst 0, 1), some (.ireturn, 1), some (.aload_n 0, 1), some (.iload_n 1, 1), some (.iload_n 3, 1), some (.iconst 1, 1), some (.iadd, 1), some (.invokevirtual 79, 3), none, none, some (.iconst 1, 1), some (.ireturn, 1)]
def ag_mX0_promote : ag_M := (0, 2, false, 5, ag_cX0_promote)
def ag_cX0_shift : List (Option (Instr × Nat)) := [
  some (.aload_n 0, 1), some (.iload_n 1, 1), some (.iload_n 2, 1), some (.invokevirtual 57, 3), none, none, some (.istore_n 3, 1), some (.aload_n 0, 1), some (.iload_n 1, 1), some (.invokevirtual 43, 3), none, none, some (.istore 4, 2), none, some (.aload_n 0, 1), some (.iload_n 1, 1), some (.iconst (-1), 1), some (.invokevirtual 79, 3), none, none, some (.iconst 1, 1), some (.istore 5, 2), none, some (.iload 5, 2), none, some (.iload_n 3, 1), some (.iconst 1, 1), some (.iadd, 1), some (.if_icmp .gt 54, 3), none, none, some (.iload 5, 2), none, some (.bipush 6, 2), none, some (.if_icmp .gt 47, 3), none, none, some (.iload_n 1, 1), some (.iload_n 2, 1), some (.iload 5, 2), none, some (.invokestatic 60, 3), none, none, some (.istore 6, 2), none, some (.iload 6, 2), none, some (.iconst (-1), 1), some (.if_icmp .ne 6, 3), none, none, some (.iload 4, 2), none, some (.ireturn, 1), some (.aload_n 0, 1), some (.iload 6, 2), none, some (.invokevirtual 43, 3), none, none, some (.istore 7, 2), none, some (.aload_n 0, 1), some (.iload 6, 2), none, some (.iload 4, 2), none, some (.invokevirtual 79, 3), none, none, some (.iload 7, 2), none, some (.istore 4, 2), none, some (.iinc 5 1, 3), none, none, some (.goto (-56), 3), none, none, some (.iconst (-1), 1), some (.ireturn, 1)]
def ag_mX0_shift : ag_M := (0, 1, false, 8, ag_cX0_shift)
def ag_cX0_carryRiver : List (Option (Instr × Nat)) := [
  some (.iconst 0, 1), some (.istore_n 2, 1), some (.iconst 0, 1), some (.istore_n 3, 1), some (.iload_n 3, 1), some (.bipush 6, 2), none, some (.if_icmp .ge 42, 3), none, none, some (.iconst 2, 1), some (.istore 4, 2), none, some (.iload 4, 2), none, some (.iconst 3, 1), some (.if_icmp .gt 27, 3), none, none, some (.aload_n 0, 1), some (.iload 4, 2), none, some (.iload_n 1, 1), some (.iload_n 3, 1), some (.invokestatic 73, 3), none, none, some (.iload_n 1, 1), some (.invokevirtual 83, 3), none, none, some (.ifCond .eq 6, 3), none, none, some (.iinc 2 1, 3), none, none, some (.iinc 4 1, 3), none, none, some (.goto (-27), 3), none, none, some (.iinc 3 1, 3), none, none, some (.goto (-42), 3), none, none, some (.iload_n 2, 1), some (.ireturn, 1)]
def ag_mX0_carryRiver : ag_M := (0, 1, false, 5, ag_cX0_carryRiver)
def ag_cX0_drift : List (Option (Instr × Nat)) := [
  some (.aload_n 0, 1), some (.iload_n 1, 1), some (.invokevirtual 43, 3), none, none, some (.istore_n 3, 1), some (.iload_n 1, 1), some (.iload_n 2, 1), some (.iconst 1, 1), some (.invokestatic 60, 3), none, none, some (.istore 4, 2), none, some (.iload_n 3, 1), some (.iconst (-1), 1), some (.if_icmp .eq 28, 3), none, none, some (.iload 4, 2), none, some (.iconst (-1), 1), some (.if_icmp .eq 22, 3), none, none, some (.aload_n 0, 1), some (.iload 4, 2), none, some (.invokevirtual 43, 3), none, none, some (.iconst (-1), 1), some (.if_icmp .ne 12, 3), none, none, some (.aload_n 0, 1), some (.iload 4, 2), none, some (.invokevirtual 64, 3), none, none, some (.ifCond .eq 5, 3), none, none, some (.iconst 0, 1), some (.ireturn, 1), some (.aload_n 0, 1), some (.iload_n 1, 1), some (.iconst (-1), 1), some (.invokevirtual 79, 3), none, none, some (.aload_n 0, 1), some (.iload 4, 2), none, some (.iload_n 3, 1), some (.invokevirtual 79, 3), none, none, some (.iconst 1, 1), some (.ireturn, 1)]
def ag_mX0_drift : ag_M := (0, 2, false, 5, ag_cX0_drift)
def ag_cX0_signOf : List (Option (Instr × Nat)) := [
  some (.aload_n 0, 1), some (.iload_n 1, 1), some (.invokevirtual 43, 3), none, none, some (.istore_n 2, 1), some (.iload_n 2, 1), some (.iconst (-1), 1), some (.if_icmp .eq 37, 3), none, none, some (.iload_n 2, 1), some (.invokestatic 36, 3), none, none, some (.ifCond .eq 8, 3), none, none, some (.bipush 116, 2), none, some (.goto 5, 3), none, none, some (.bipush 98, 2), none, some (.istore_n 3, 1), some (.iload_n 2, 1), some (.invokestatic 32, 3), none, none, some (.ifCond .ne 7, 3), none, none, some (.iload_n 3, 1), some (.goto 10, 3), none, none, some (.iload_n 3, 1), some (.bipush 97, 2), none, some (.isub, 1), some (.bipush 65, 2), none, some (.iadd, 1), some (.ireturn, 1), some (.aload_n 0, 1), some (.iload_n 1, 1), some (.invokevirtual 40, 3), none, none, some (.iconst (-1), 1), some (.if_icmp .ne 6, 3), none, none, some (.bipush 46, 2), none, some (.ireturn, 1), some (.aload_n 0, 1), some (.iload_n 1, 1), some (.invokevirtual 64, 3), none, none, some (.ifCond .eq 8, 3), none, none, some (.bipush 35, 2), none, some (.goto 5, 3), none, none, some (.bipush 61, 2), none, some (.ireturn, 1)]
def ag_mX0_signOf : ag_M := (0, 1, false, 4, ag_cX0_signOf)
def ag_cX0_halfKey : List (Option (Instr × Nat)) := [
  some (.lconst 0, 1), some (.lstore_n 2, 1), some (.iload_n 1, 1), some (.istore 4, 2), none, some (.iload 4, 2), none, some (.iload_n 1, 1), some (.bipush 18, 2), none, some (.iadd, 1), some (.if_icmp .ge 25, 3), none, none, some (.lload_n 2, 1), some (.ldc2_w 86, 3), none, none, some (.lmul, 1), some (.aload_n 0, 1), some (.iload 4, 2), none, some (.invokevirtual 43, 3), none, none, some (.i2l, 1), some (.ladd, 1), some (.lconst 1, 1), some (.ladd, 1), some (.lstore_n 2, 1), some (.iinc 4 1, 3), none, none, some (.goto (-28), 3), none, none, some (.lload_n 2, 1), some (.lreturn, 1)]
def ag_mX0_halfKey : ag_M := (0, 3, false, 5, ag_cX0_halfKey)
def ag_cX0_closedKey : List (Option (Instr × Nat)) := [
  some (.iconst 0, 1), some (.istore_n 1, 1), some (.iconst 0, 1), some (.istore_n 2, 1), some (.iload_n 2, 1), some (.iconst 4, 1), some (.if_icmp .ge 28, 3), none, none, some (.iload_n 1, 1), some (.iconst 2, 1), some (.imul, 1), some (.aload_n 0, 1), some (.getfield 21, 3), none, none, some (.iload_n 2, 1), some (.baload, 1), some (.ifCond .eq 7, 3), none, none, some (.iconst 1, 1), some (.goto 4, 3), none, none, some (.iconst 0, 1), some (.iadd, 1), some (.istore_n 1, 1), some (.iinc 2 1, 3), none, none, some (.goto (-27), 3), none, none, some (.iload_n 1, 1), some (.ireturn, 1)]
def ag_mX0_closedKey : ag_M := (0, 1, false, 3, ag_cX0_closedKey)
def ag_cX1_init : List (Option (Instr × Nat)) := [
  some (.aload_n 0, 1), some (.invokespecial 3, 3), none, none, some (.aload_n 0, 1), some (.new 9, 3), none, none, some (.dup, 1), some (.invokespecial 11, 3), none, none, some (.putfield 12, 3), none, none, some (.aload_n 0, 1), some (.new 18, 3), none, none, some (.dup, 1), some (.invokespecial 20, 3), none, none, some (.putfield 21, 3), none, none, some (.aload_n 0, 1), some (.iconst 2, 1), some (.newarray .int, 2), none, some (.putfield 25, 3), none, none, some (.aload_n 0, 1), some (.iconst 2, 1), some (.newarray .int, 2), none, some (.putfield 29, 3), none, none, some (.aload_n 0, 1), some (.iconst 2, 1), some (.newarray .int, 2), none, some (.putfield 32, 3), none, none, some (.return_, 1)]
def ag_mX1_init : ag_M := (1, 0, true, 1, ag_cX1_init)
def ag_cX1_copyFrom : List (Option (Instr × Nat)) := [
  some (.aload_n 0, 1), some (.getfield 12, 3), none, none, some (.aload_n 1, 1), some (.getfield 12, 3), none, none, some (.invokevirtual 35, 3), none, none, some (.aload_n 0, 1), some (.getfield 21, 3), none, none, some (.aload_n 1, 1), some (.getfield 21, 3), none, none, some (.invokevirtual 39, 3), none, none, some (.aload_n 0, 1), some (.aload_n 1, 1), some (.getfield 43, 3), none, none, some (.putfield 43, 3), none, none, some (.aload_n 0, 1), some (.aload_n 1, 1), some (.getfield 47, 3), none, none, some (.putfield 47, 3), none, none, some (.aload_n 0, 1), some (.aload_n 1, 1), some (.getfield 51, 3), none, none, some (.putfield 51, 3), none, none, some (.aload_n 0, 1), some (.aload_n 1, 1), some (.getfield 54, 3), none, none, some (.putfield 54, 3), none, none, some (.iconst 0, 1), some (.istore_n 2, 1), some (.iload_n 2, 1), some (.iconst 2, 1), some (.if_icmp .ge 45, 3), none, none, some (.aload_n 0, 1), some (.getfield 25, 3), none, none, some (.iload_n 2, 1), some (.aload_n 1, 1), some (.getfield 25, 3), none, none, some (.iload_n 2, 1), some (.iaload, 1), some (.iastore, 1), some (.aload_n 0, 1), some (.getfield 29, 3), none, none, some (.iload_n 2, 1), some (.aload_n 1, 1), some (.getfield 29, 3), none, none, some (.iload_n 2, 1), some (.iaload, 1), some (.iastore, 1), some (.aload_n 0, 1), some (.getfield 32, 3), none, none, some (.iload_n 2, 1), some (.aload_n 1, 1), some (.getfield 32, 3), none, none, some (.iload_n 2, 1), some (.iaload, 1), some (.iastore, 1), some (.iinc 2 1, 3), none, none, some (.goto (-44), 3), none, none, some (.return_, 1)]
def ag_mX1_copyFrom : ag_M := (1, 0, false, 3, ag_cX1_copyFrom)
def ag_cX1_sideToMove : List (Option (Instr × Nat)) := [
  some (.aload_n 0, 1), some (.getfield 51, 3), none, none, some (.iconst 2, 1), some (.irem, 1), some (.ireturn, 1)]
def ag_mX1_sideToMove : ag_M := (1, 1, false, 1, ag_cX1_sideToMove)
def ag_cX1_tide : List (Option (Instr × Nat)) := [
  some (.aload_n 0, 1), some (.getfield 51, 3), none, none, some (.iconst 4, 1), some (.idiv, 1), some (.iconst 4, 1), some (.irem, 1), some (.ireturn, 1)]
def ag_mX1_tide : ag_M := (1, 1, false, 1, ag_cX1_tide)
def ag_cX1_goesOn : List (Option (Instr × Nat)) := [
  some (.aload_n 0, 1), some (.getfield 43, 3), none, none, some (.ifCond .eq 14, 3), none, none, some (.aload_n 0, 1), some (.getfield 47, 3), none, none, some (.ifCond .ne 7, 3), none, none, some (.iconst 1, 1), some (.goto 4, 3), none, none, some (.iconst 0, 1), some (.ireturn, 1)]
def ag_mX1_goesOn : ag_M := (1, 2, false, 1, ag_cX1_goesOn)
def ag_cX1_openMoves : List (Option (Instr × Nat)) := [
  some (.aload_n 0, 1), some (.invokevirtual 57, 3), none, none, some (.ifCond .eq 17, 3), none, none, some (.aload_n 0, 1), some (.getfield 12, 3), none, none, some (.aload_n 0, 1), some (.invokevirtual 61, 3), none, none, some (.invokevirtual 65, 3), none, none, some (.goto 4, 3), none, none, some (.iconst 0, 1), some (.ireturn, 1)]
def ag_mX1_openMoves : ag_M := (1, 1, false, 1, ag_cX1_openMoves)
def ag_cX1_allows : List (Option (Instr × Nat)) := [
  some (.aload_n 0, 1), some (.invokevirtual 57, 3), none, none, some (.ifCond .eq 37, 3), none, none, some (.aload_n 0, 1), some (.getfield 12, 3), none, none, some (.iload_n 1, 1), some (.invokevirtual 69, 3), none, none, some (.invokestatic 72, 3), none, none, some (.aload_n 0, 1), some (.invokevirtual 61, 3), none, none, some (.if_icmp .ne 19, 3), none, none, some (.aload_n 0, 1), some (.getfield 12, 3), none, none, some (.iload_n 1, 1), some (.iload_n 2, 1), some (.invokevirtual 75, 3), none, none, some (.ifCond .ne 7, 3), none, none, some (.iconst 1, 1), some (.goto 4, 3), none, none, some (.iconst 0, 1), some (.ireturn, 1)]
def ag_mX1_allows : ag_M := (1, 2, false, 3, ag_cX1_allows)
def ag_cX1_startPlay : List (Option (Instr × Nat)) := [
  some (.aload_n 0, 1), some (.iconst 1, 1), some (.putfield 43, 3), none, none, some (.aload_n 0, 1), some (.invokevirtual 79, 3), none, none, some (.aload_n 0, 1), some (.invokevirtual 82, 3), none, none, some (.pop, 1), some (.return_, 1)]
def ag_mX1_startPlay : ag_M := (1, 0, false, 1, ag_cX1_startPlay)
def ag_cX1_carryOut : List (Option (Instr × Nat)) := [
  some (.aload_n 0, 1), some (.invokevirtual 61, 3), none, none, some (.istore_n 3, 1), some (.iload_n 3, 1), some (.invokestatic 85, 3), none, none, some (.ifCond .ne 5, 3), none, none, some (.iconst 0, 1), some (.ireturn, 1), some (.aload_n 0, 1), some (.getfield 29, 3), none, none, some (.iload_n 3, 1), some (.dup2, 1), some (.iaload, 1), some (.aload_n 0, 1), some (.getfield 12, 3), none, none, some (.iload_n 1, 1), some (.iload_n 2, 1), some (.invokevirtual 89, 3), none, none, some (.iadd, 1), some (.iastore, 1), some (.aload_n 0, 1), some (.getfield 12, 3), none, none, some (.iload_n 1, 1), some (.iload_n 2, 1), some (.invokevirtual 92, 3), none, none, some (.ifCond .eq 13, 3), none, none, some (.aload_n 0, 1), some (.getfield 32, 3), none, none, some (.iload_n 3, 1), some (.dup2, 1), some (.iaload, 1), some (.iconst 1, 1), some (.iadd, 1), some (.iastore, 1), some (.aload_n 0, 1), some (.getfield 12, 3), none, none, some (.iload_n 1, 1), some (.iload_n 2, 1), some (.invokevirtual 96, 3), none, none, some (.invokestatic 72, 3), none, none, some (.istore 4, 2), none, some (.iload 4, 2), none, some (.invokestatic 85, 3), none, none, some (.ifCond .eq 14, 3), none, none, some (.aload_n 0, 1), some (.getfield 25, 3), none, none, some (.iload 4, 2), none, some (.dup2, 1), some (.iaload, 1), some (.iconst 1, 1), some (.iadd, 1), some (.iastore, 1), some (.aload_n 0, 1), some (.dup, 1), some (.getfield 51, 3), none, none, some (.iconst 1, 1), some (.iadd, 1), some (.putfield 51, 3), none, none, some (.aload_n 0, 1), some (.getfield 12, 3), none, none, some (.aload_n 0, 1), some (.getfield 51, 3), none, none, some (.invokevirtual 99, 3), none, none, some (.aload_n 0, 1), some (.getfield 51, 3), none, none, some (.iconst 4, 1), some (.irem, 1), some (.ifCond .ne 7, 3), none, none, some (.aload_n 0, 1), some (.invokevirtual 103, 3), none, none, some (.aload_n 0, 1), some (.invokevirtual 79, 3), none, none, some (.aload_n 0, 1), some (.invokevirtual 82, 3), none, none, some (.ireturn, 1)]
def ag_mX1_carryOut : ag_M := (1, 1, false, 5, ag_cX1_carryOut)
def ag_cX1_carryByTide : List (Option (Instr × Nat)) := [
  some (.aload_n 0, 1), some (.invokevirtual 106, 3), none, none, some (.iconst 1, 1), some (.if_icmp .ne 23, 3), none, none, some (.aload_n 0, 1), some (.dup, 1), some (.getfield 54, 3), none, none, some (.aload_n 0, 1), some (.getfield 12, 3), none, none, some (.iconst 0, 1), some (.invokevirtual 109, 3), none, none, some (.iadd, 1), some (.putfield 54, 3), none, none, some (.goto 28, 3), none, none, some (.aload_n 0, 1), some (.invokevirtual 106, 3), none, none, some (.iconst 3, 1), some (.if_icmp .ne 20, 3), none, none, some (.aload_n 0, 1), some (.dup, 1), some (.getfield 54, 3), none, none, some (.aload_n 0, 1), some (.getfield 12, 3), none, none, some (.iconst 2, 1), some (.invokevirtual 109, 3), none, none, some (.iadd, 1), some (.putfield 54, 3), none, none, some (.return_, 1)]
def ag_mX1_carryByTide : ag_M := (1, 0, false, 1, ag_cX1_carryByTide)
def ag_cX1_recordPosition : List (Option (Instr × Nat)) := [
  some (.aload_n 0, 1), some (.getfield 12, 3), none, none, some (.invokevirtual 112, 3), none, none, some (.iconst 2, 1), some (.imul, 1), some (.aload_n 0, 1), some (.invokevirtual 61, 3), none, none, some (.iadd, 1), some (.istore_n 1, 1), some (.aload_n 0, 1), some (.getfield 21, 3), none, none, some (.aload_n 0, 1), some (.getfield 12, 3), none, none, some (.iconst 0, 1), some (.invokevirtual 115, 3), none, none, some (.aload_n 0, 1), some (.getfield 12, 3), none, none, some (.bipush 18, 2), none, some (.invokevirtual 115, 3), none, none, some (.ldc2_w 119, 3), none, none, some (.lmul, 1), some (.iload_n 1, 1), some (.i2l, 1), some (.ladd, 1), some (.invokevirtual 121, 3), none, none, some (.return_, 1)]
def ag_mX1_recordPosition : ag_M := (1, 0, false, 2, ag_cX1_recordPosition)
def ag_cX1_settleEnding : List (Option (Instr × Nat)) := [
  some (.aload_n 0, 1), some (.getfield 21, 3), none, none, some (.invokevirtual 125, 3), none, none, some (.istore_n 1, 1), some (.aload_n 0, 1), some (.getfield 12, 3), none, none, some (.iconst 0, 1), some (.invokevirtual 128, 3), none, none, some (.ifCond .ne 11, 3), none, none, some (.aload_n 0, 1), some (.iconst 2, 1), some (.putfield 47, 3), none, none, some (.goto 81, 3), none, none, some (.aload_n 0, 1), some (.getfield 12, 3), none, none, some (.iconst 1, 1), some (.invokevirtual 128, 3), none, none, some (.ifCond .ne 11, 3), none, none, some (.aload_n 0, 1), some (.iconst 1, 1), some (.putfield 47, 3), none, none, some (.goto 62, 3), none, none, some (.iload_n 1, 1), some (.iconst 3, 1), some (.if_icmp .lt 10, 3), none, none, some (.aload_n 0, 1), some (.iconst 3, 1), some (.putfield 47, 3), none, none, some (.iload_n 1, 1), some (.ireturn, 1), some (.aload_n 0, 1), some (.getfield 12, 3), none, none, some (.aload_n 0, 1), some (.invokevirtual 61, 3), none, none, some (.invokevirtual 65, 3), none, none, some (.ifCond .ne 22, 3), none, none, some (.aload_n 0, 1), some (.aload_n 0, 1), some (.invokevirtual 61, 3), none, none, some (.ifCond .ne 7, 3), none, none, some (.iconst 2, 1), some (.goto 4, 3), none, none, some (.iconst 1, 1), some (.putfield 47, 3), none, none, some (.goto 17, 3), none, none, some (.aload_n 0, 1), some (.getfield 51, 3), none, none, some (.bipush 120, 2), none, some (.if_icmp .lt 8, 3), none, none, some (.aload_n 0, 1), some (.iconst 3, 1), some (.putfield 47, 3), none, none, some (.aload_n 0, 1), some (.getfield 47, 3), none, none, some (.ifCond .ne 7, 3), none, none, some (.iload_n 1, 1), some (.goto 4, 3), none, none, some (.iconst 0, 1), some (.ireturn, 1)]
def ag_mX1_settleEnding : ag_M := (1, 1, false, 2, ag_cX1_settleEnding)
def ag_cX2_init : List (Option (Instr × Nat)) := [
  some (.aload_n 0, 1), some (.invokespecial 3, 3), none, none, some (.aload_n 0, 1), some (.bipush 121, 2), none, some (.newarray .long, 2), none, some (.putfield 11, 3), none, none, some (.aload_n 0, 1), some (.bipush 121, 2), none, some (.newarray .long, 2), none, some (.putfield 15, 3), none, none, some (.return_, 1)]
def ag_mX2_init : ag_M := (2, 0, true, 1, ag_cX2_init)
def ag_cX2_copyHistory : List (Option (Instr × Nat)) := [
  some (.aload_n 0, 1), some (.aload_n 1, 1), some (.getfield 18, 3), none, none, some (.putfield 18, 3), none, none, some (.iconst 0, 1), some (.istore_n 2, 1), some (.iload_n 2, 1), some (.aload_n 0, 1), some (.getfield 18, 3), none, none, some (.if_icmp .ge 39, 3), none, none, some (.iload_n 2, 1), some (.bipush 121, 2), none, some (.if_icmp .ge 33, 3), none, none, some (.aload_n 0, 1), some (.getfield 11, 3), none, none, some (.iload_n 2, 1), some (.aload_n 1, 1), some (.getfield 11, 3), none, none, some (.iload_n 2, 1), some (.laload, 1), some (.lastore, 1), some (.aload_n 0, 1), some (.getfield 15, 3), none, none, some (.iload_n 2, 1), some (.aload_n 1, 1), some (.getfield 15, 3), none, none, some (.iload_n 2, 1), some (.laload, 1), some (.lastore, 1), some (.iinc 2 1, 3), none, none, some (.goto (-41), 3), none, none, some (.return_, 1)]
def ag_mX2_copyHistory : ag_M := (2, 0, false, 3, ag_cX2_copyHistory)
def ag_cX2_addPosition : List (Option (Instr × Nat)) := [
  some (.aload_n 0, 1), some (.getfield 18, 3), none, none, some (.ifCond .lt 42, 3), none, none, some (.aload_n 0, 1), some (.getfield 18, 3), none, none, some (.bipush 121, 2), none, some (.if_icmp .ge 33, 3), none, none, some (.aload_n 0, 1), some (.getfield 11, 3), none, none, some (.aload_n 0, 1), some (.getfield 18, 3), none, none, some (.lload_n 1, 1), some (.lastore, 1), some (.aload_n 0, 1), some (.getfield 15, 3), none, none, some (.aload_n 0, 1), some (.getfield 18, 3), none, none, some (.lload_n 3, 1), some (.lastore, 1), some (.aload_n 0, 1), some (.dup, 1), some (.getfield 18, 3), none, none, some (.iconst 1, 1), some (.iadd, 1), some (.putfield 18, 3), none, none, some (.return_, 1)]
def ag_mX2_addPosition : ag_M := (2, 0, false, 5, ag_cX2_addPosition)
def ag_cX2_timesOfLatest : List (Option (Instr × Nat)) := [
  some (.aload_n 0, 1), some (.aload_n 0, 1), some (.getfield 18, 3), none, none, some (.iconst 1, 1), some (.isub, 1), some (.invokevirtual 22, 3), none, none, some (.ireturn, 1)]
def ag_mX2_timesOfLatest : ag_M := (2, 1, false, 1, ag_cX2_timesOfLatest)
def ag_cX2_timesUpTo : List (Option (Instr × Nat)) := [
  some (.iconst 0, 1), some (.istore_n 2, 1), some (.iconst 0, 1), some (.istore_n 3, 1), some (.iload_n 3, 1), some (.iload_n 1, 1), some (.if_icmp .gt 50, 3), none, none, some (.iload_n 1, 1), some (.bipush 121, 2), none, some (.if_icmp .ge 44, 3), none, none, some (.aload_n 0, 1), some (.getfield 11, 3), none, none, some (.iload_n 3, 1), some (.laload, 1), some (.aload_n 0, 1), some (.getfield 11, 3), none, none, some (.iload_n 1, 1), some (.laload, 1), some (.lcmp, 1), some (.ifCond .ne 22, 3), none, none, some (.aload_n 0, 1), some (.getfield 15, 3), none, none, some (.iload_n 3, 1), some (.laload, 1), some (.aload_n 0, 1), some (.getfield 15, 3), none, none, some (.iload_n 1, 1), some (.laload, 1), some (.lcmp, 1), some (.ifCond .ne 6, 3), none, none, some (.iinc 2 1, 3), none, none, some (.iinc 3 1, 3), none, none, some (.goto (-49), 3), none, none, some (.iload_n 2, 1), some (.ireturn, 1)]
def ag_mX2_timesUpTo : ag_M := (2, 1, false, 4, ag_cX2_timesUpTo)
def ag_cX2_mostTimes : List (Option (Instr × Nat)) := [
  some (.iconst 0, 1), some (.istore_n 1, 1), some (.iconst 0, 1), some (.istore_n 2, 1), some (.iload_n 2, 1), some (.aload_n 0, 1), some (.getfield 18, 3), none, none, some (.if_icmp .ge 19, 3), none, none, some (.iload_n 1, 1), some (.aload_n 0, 1), some (.iload_n 2, 1), some (.invokevirtual 22, 3), none, none, some (.invokestatic 26, 3), none, none, some (.istore_n 1, 1), some (.iinc 2 1, 3), none, none, some (.goto (-21), 3), none, none, some (.iload_n 1, 1), some (.ireturn, 1)]
def ag_mX2_mostTimes : ag_M := (2, 1, false, 3, ag_cX2_mostTimes)
def ag_cX2_different : List (Option (Instr × Nat)) := [
  some (.iconst 0, 1), some (.istore_n 1, 1), some (.iconst 0, 1), some (.istore_n 2, 1), some (.iload_n 2, 1), some (.aload_n 0, 1), some (.getfield 18, 3), none, none, some (.if_icmp .ge 21, 3), none, none, some (.aload_n 0, 1), some (.iload_n 2, 1), some (.invokevirtual 22, 3), none, none, some (.iconst 1, 1), some (.if_icmp .ne 6, 3), none, none, some (.iinc 1 1, 3), none, none, some (.iinc 2 1, 3), none, none, some (.goto (-23), 3), none, none, some (.iload_n 1, 1), some (.ireturn, 1)]
def ag_mX2_different : ag_M := (2, 1, false, 3, ag_cX2_different)
def ag_cX3_init : List (Option (Instr × Nat)) := [
  some (.aload_n 0, 1), some (.invokespecial 3, 3), none, none, some (.aload_n 0, 1), some (.bipush 70, 2), none, some (.newarray .int, 2), none, some (.putfield 9, 3), none, none, some (.aload_n 0, 1), some (.bipush 23, 2), none, some (.newarray .int, 2), none, some (.putfield 15, 3), none, none, some (.aload_n 0, 1), some (.bipush 23, 2), none, some (.newarray .int, 2), none, some (.putfield 18, 3), none, none, some (.return_, 1)]
def ag_mX3_init : ag_M := (3, 0, true, 1, ag_cX3_init)
def ag_cX3_addCharacter : List (Option (Instr × Nat)) := [
  some (.iload_n 1, 1), some (.bipush 32, 2), none, some (.if_icmp .lt 25, 3), none, none, some (.iload_n 1, 1), some (.bipush 126, 2), none, some (.if_icmp .gt 19, 3), none, none, some (.aload_n 0, 1), some (.getfield 21, 3), none, none, some (.ifCond .lt 12, 3), none, none, some (.aload_n 0, 1), some (.getfield 21, 3), none, none, some (.bipush 70, 2), none, some (.if_icmp .lt 5, 3), none, none, some (.iconst 0, 1), some (.ireturn, 1), some (.aload_n 0, 1), some (.getfield 9, 3), none, none, some (.aload_n 0, 1), some (.getfield 21, 3), none, none, some (.iload_n 1, 1), some (.iastore, 1), some (.aload_n 0, 1), some (.dup, 1), some (.getfield 21, 3), none, none, some (.iconst 1, 1), some (.iadd, 1), some (.putfield 21, 3), none, none, some (.iconst 1, 1), some (.ireturn, 1)]
def ag_mX3_addCharacter : ag_M := (3, 2, false, 2, ag_cX3_addCharacter)
def ag_cX3_clear : List (Option (Instr × Nat)) := [
  some (.aload_n 0, 1), some (.iconst 0, 1), some (.putfield 21, 3), none, none, some (.return_, 1)]
def ag_mX3_clear : ag_M := (3, 0, false, 1, ag_cX3_clear)
def ag_cX3_parse : List (Option (Instr × Nat)) := [
  some (.aload_n 0, 1), some (.iconst 0, 1), some (.putfield 25, 3), none, none, some (.iconst 0, 1), some (.istore_n 1, 1), some (.iconst 0, 1), some (.istore_n 2, 1), some (.iconst 0, 1), some (.istore_n 3, 1), some (.iconst 0, 1), some (.istore 4, 2), none, some (.iload 4, 2), none, some (.aload_n 0, 1), some (.getfield 21, 3), none, none, some (.if_icmp .ge 121, 3), none, none, some (.iload 4, 2), none, some (.bipush 70, 2), none, some (.if_icmp .ge 114, 3), none, none, some (.aload_n 0, 1), some (.getfield 9, 3), none, none, some (.iload 4, 2), none, some (.iaload, 1), some (.istore 5, 2), none, some (.iload 5, 2), none, some (.invokestatic 28, 3), none, none, some (.istore 6, 2), none, some (.iload_n 3, 1), some (.ifCond .eq 19, 3), none, none, some (.iload 5, 2), none, some (.bipush 59, 2), none, some (.if_icmp .ne 12, 3), none, none, some (.iconst 0, 1), some (.istore_n 3, 1), some (.iconst 0, 1), some (.istore_n 1, 1), some (.iconst 0, 1), some (.istore_n 2, 1), some (.goto 72, 3), none, none, some (.iload_n 3, 1), some (.ifCond .ne 39, 3), none, none, some (.iload_n 2, 1), some (.iconst 2, 1), some (.if_icmp .ge 34, 3), none, none, some (.iload 5, 2), none, some (.bipush 48, 2), none, some (.if_icmp .lt 27, 3), none, none, some (.iload 5, 2), none, some (.bipush 57, 2), none, some (.if_icmp .gt 20, 3), none, none, some (.iload_n 1, 1), some (.bipush 10, 2), none, some (.imul, 1), some (.iload 5, 2), none, some (.iadd, 1), some (.bipush 48, 2), none, some (.isub, 1), some (.istore_n 1, 1), some (.iinc 2 1, 3), none, none, some (.goto 32, 3), none, none, some (.iload_n 3, 1), some (.ifCond .ne 25, 3), none, none, some (.iload_n 2, 1), some (.ifCond .le 21, 3), none, none, some (.iload 6, 2), none, some (.iconst (-1), 1), some (.if_icmp .eq 15, 3), none, none, some (.aload_n 0, 1), some (.iload_n 1, 1), some (.iload 6, 2), none, some (.invokevirtual 32, 3), none, none, some (.iconst 1, 1), some (.istore_n 3, 1), some (.goto 6, 3), none, none, some (.iload 4, 2), none, some (.ireturn, 1), some (.iinc 4 1, 3), none, none, some (.goto (-124), 3), none, none, some (.iload_n 3, 1), some (.ifCond .eq 7, 3), none, none, some (.iconst (-1), 1), some (.goto 7, 3), none, none, some (.aload_n 0, 1), some (.getfield 21, 3), none, none, some (.ireturn, 1)]
def ag_mX3_parse : ag_M := (3, 1, false, 7, ag_cX3_parse)
def ag_cX3_addMove : List (Option (Instr × Nat)) := [
  some (.aload_n 0, 1), some (.getfield 25, 3), none, none, some (.ifCond .lt 42, 3), none, none, some (.aload_n 0, 1), some (.getfield 25, 3), none, none, some (.bipush 23, 2), none, some (.if_icmp .ge 33, 3), none, none, some (.aload_n 0, 1), some (.getfield 15, 3), none, none, some (.aload_n 0, 1), some (.getfield 25, 3), none, none, some (.iload_n 1, 1), some (.iastore, 1), some (.aload_n 0, 1), some (.getfield 18, 3), none, none, some (.aload_n 0, 1), some (.getfield 25, 3), none, none, some (.iload_n 2, 1), some (.iastore, 1), some (.aload_n 0, 1), some (.dup, 1), some (.getfield 25, 3), none, none, some (.iconst 1, 1), some (.iadd, 1), some (.putfield 25, 3), none, none, some (.return_, 1)]
def ag_mX3_addMove : ag_M := (3, 0, false, 3, ag_cX3_addMove)
def ag_cX3_directionOf : List (Option (Instr × Nat)) := [
  some (.iload_n 0, 1), some (.lookupswitch 51 #[(100, 47), (108, 49), (114, 45), (117, 43)], 43), none, none, none, none, none, none, none, none, none, none, none, none, none, none, none, none, none, none, none, none, none, none, none, none, none, none, none, none, none, none, none, none, none, none, none, none, none, none, none, none, none, none, some (.iconst 0, 1), some (.ireturn, 1), some (.iconst 1, 1), some (.ireturn, 1), some (.iconst 2, 1), some (.ireturn, 1), some (.iconst 3, 1), some (.ireturn, 1), some (.iconst (-1), 1), some (.ireturn, 1)]
def ag_mX3_directionOf : ag_M := (3, 1, false, 1, ag_cX3_directionOf)
def ag_cX4_init : List (Option (Instr × Nat)) := [
  some (.aload_n 0, 1), some (.invokespecial 3, 3), none, none, some (.aload_n 0, 1), some (.bipush 8, 2), none, some (.anewarray 9, 3), none, none, some (.putfield 11, 3), none, none, some (.iconst 0, 1), some (.istore_n 1, 1), some (.iload_n 1, 1), some (.bipush 8, 2), none, some (.if_icmp .ge 22, 3), none, none, some (.aload_n 0, 1), some (.getfield 11, 3), none, none, some (.iload_n 1, 1), some (.new 9, 3), none, none, some (.dup, 1), some (.invokespecial 17, 3), none, none, some (.aastore, 1), some (.iinc 1 1, 3), none, none, some (.goto (-22), 3), none, none, some (.return_, 1)]
def ag_mX4_init : ag_M := (4, 0, true, 2, ag_cX4_init)
def ag_cX4_gameAt : List (Option (Instr × Nat)) := [
  some (.iload_n 1, 1), some (.ifCond .lt 18, 3), none, none, some (.iload_n 1, 1), some (.bipush 8, 2), none, some (.if_icmp .ge 12, 3), none, none, some (.aload_n 0, 1), some (.getfield 11, 3), none, none, some (.iload_n 1, 1), some (.aaload, 1), some (.goto 4, 3), none, none, some (.aconst_null, 1), some (.areturn, 1)]
def ag_mX4_gameAt : ag_M := (4, 4, false, 2, ag_cX4_gameAt)
def ag_cX4_keep : List (Option (Instr × Nat)) := [
  some (.aload_n 0, 1), some (.aload_n 0, 1), some (.getfield 18, 3), none, none, some (.invokevirtual 22, 3), none, none, some (.astore_n 2, 1), some (.aload_n 2, 1), some (.ifnull 8, 3), none, none, some (.aload_n 2, 1), some (.aload_n 1, 1), some (.invokevirtual 26, 3), none, none, some (.aload_n 0, 1), some (.aload_n 0, 1), some (.getfield 18, 3), none, none, some (.iconst 1, 1), some (.iadd, 1), some (.bipush 8, 2), none, some (.irem, 1), some (.putfield 18, 3), none, none, some (.aload_n 0, 1), some (.aload_n 0, 1), some (.getfield 30, 3), none, none, some (.iconst 1, 1), some (.iadd, 1), some (.bipush 8, 2), none, some (.invokestatic 33, 3), none, none, some (.putfield 30, 3), none, none, some (.return_, 1)]
def ag_mX4_keep : ag_M := (4, 0, false, 3, ag_cX4_keep)
def ag_cX4_bringBack : List (Option (Instr × Nat)) := [
  some (.aload_n 0, 1), some (.getfield 18, 3), none, none, some (.bipush 8, 2), none, some (.iadd, 1), some (.iconst 1, 1), some (.isub, 1), some (.bipush 8, 2), none, some (.irem, 1), some (.istore_n 2, 1), some (.aload_n 0, 1), some (.iload_n 2, 1), some (.invokevirtual 22, 3), none, none, some (.astore_n 3, 1), some (.aload_n 0, 1), some (.getfield 30, 3), none, none, some (.ifCond .eq 7, 3), none, none, some (.aload_n 3, 1), some (.ifnonnull 5, 3), none, none, some (.iconst 0, 1), some (.ireturn, 1), some (.aload_n 1, 1), some (.aload_n 3, 1), some (.invokevirtual 26, 3), none, none, some (.aload_n 0, 1), some (.iload_n 2, 1), some (.putfield 18, 3), none, none, some (.aload_n 0, 1), some (.dup, 1), some (.getfield 30, 3), none, none, some (.iconst 1, 1), some (.isub, 1), some (.putfield 30, 3), none, none, some (.iconst 1, 1), some (.ireturn, 1)]
def ag_mX4_bringBack : ag_M := (4, 2, false, 4, ag_cX4_bringBack)
def ag_cX4_forget : List (Option (Instr × Nat)) := [
  some (.aload_n 0, 1), some (.iconst 0, 1), some (.putfield 30, 3), none, none, some (.return_, 1)]
def ag_mX4_forget : ag_M := (4, 0, false, 1, ag_cX4_forget)
def ag_cX5_init : List (Option (Instr × Nat)) := [
  some (.aload_n 0, 1), some (.invokespecial 3, 3), none, none, some (.aload_n 0, 1), some (.bipush (-4), 2), none, some (.putfield 9, 3), none, none, some (.aload_n 0, 1), some (.bipush (-4), 2), none, some (.putfield 15, 3), none, none, some (.aload_n 0, 1), some (.bipush (-4), 2), none, some (.putfield 18, 3), none, none, some (.aload_n 0, 1), some (.bipush (-4), 2), none, some (.putfield 21, 3), none, none, some (.aload_n 0, 1), some (.bipush (-4), 2), none, some (.putfield 24, 3), none, none, some (.return_, 1)]
def ag_mX5_init : ag_M := (5, 0, true, 1, ag_cX5_init)
def ag_cX5_note : List (Option (Instr × Nat)) := [
  some (.aload_n 0, 1), some (.iload_n 1, 1), some (.putfield 9, 3), none, none, some (.aload_n 0, 1), some (.iload_n 2, 1), some (.putfield 15, 3), none, none, some (.aload_n 0, 1), some (.iload_n 3, 1), some (.putfield 18, 3), none, none, some (.aload_n 0, 1), some (.bipush (-4), 2), none, some (.bipush (-4), 2), none, some (.invokevirtual 27, 3), none, none, some (.return_, 1)]
def ag_mX5_note : ag_M := (5, 0, false, 4, ag_cX5_note)
def ag_cX5_noteCause : List (Option (Instr × Nat)) := [
  some (.aload_n 0, 1), some (.iload_n 1, 1), some (.putfield 21, 3), none, none, some (.aload_n 0, 1), some (.iload_n 2, 1), some (.putfield 24, 3), none, none, some (.return_, 1)]
def ag_mX5_noteCause : ag_M := (5, 0, false, 3, ag_cX5_noteCause)
def ag_cX6_init : List (Option (Instr × Nat)) := [
  some (.aload_n 0, 1), some (.invokespecial 3, 3), none, none, some (.aload_n 0, 1), some (.new 9, 3), none, none, some (.dup, 1), some (.invokespecial 11, 3), none, none, some (.putfield 12, 3), none, none, some (.aload_n 0, 1), some (.new 9, 3), none, none, some (.dup, 1), some (.invokespecial 11, 3), none, none, some (.putfield 16, 3), none, none, some (.aload_n 0, 1), some (.new 9, 3), none, none, some (.dup, 1), some (.invokespecial 11, 3), none, none, some (.putfield 19, 3), none, none, some (.aload_n 0, 1), some (.new 22, 3), none, none, some (.dup, 1), some (.invokespecial 24, 3), none, none, some (.putfield 25, 3), none, none, some (.aload_n 0, 1), some (.new 29, 3), none, none, some (.dup, 1), some (.invokespecial 31, 3), none, none, some (.putfield 32, 3), none, none, some (.aload_n 0, 1), some (.new 36, 3), none, none, some (.dup, 1), some (.invokespecial 38, 3), none, none, some (.putfield 39, 3), none, none, some (.aload_n 0, 1), some (.bipush 6, 2), none, some (.newarray .int, 2), none, some (.putfield 43, 3), none, none, some (.return_, 1)]
def ag_mX6_init : ag_M := (6, 0, true, 1, ag_cX6_init)
def ag_cX6_put : List (Option (Instr × Nat)) := [
  some (.iload_n 3, 1), some (.invokestatic 47, 3), none, none, some (.ifCond .ne 5, 3), none, none, some (.iconst (-1), 1), some (.ireturn, 1), some (.iload_n 1, 1), some (.invokestatic 51, 3), none, none, some (.ifCond .eq 12, 3), none, none, some (.iload_n 2, 1), some (.ifCond .lt 8, 3), none, none, some (.iload_n 2, 1), some (.iconst 2, 1), some (.if_icmp .lt 6, 3), none, none, some (.bipush (-2), 2), none, some (.ireturn, 1), some (.aload_n 0, 1), some (.iload_n 3, 1), some (.aload_n 0, 1), some (.getfield 12, 3), none, none, some (.getfield 54, 3), none, none, some (.iload_n 1, 1), some (.invokevirtual 58, 3), none, none, some (.bipush 8, 2), none, some (.invokevirtual 64, 3), none, none, some (.istore 4, 2), none, some (.iload 4, 2), none, some (.ifCond .eq 6, 3), none, none, some (.iload 4, 2), none, some (.ireturn, 1), some (.aload_n 0, 1), some (.getfield 25, 3), none, none, some (.aload_n 0, 1), some (.getfield 12, 3), none, none, some (.invokevirtual 68, 3), none, none, some (.aload_n 0, 1), some (.getfield 12, 3), none, none, some (.getfield 54, 3), none, none, some (.iload_n 3, 1), some (.iload_n 1, 1), some (.iconst 2, 1), some (.imul, 1), some (.iload_n 2, 1), some (.iadd, 1), some (.invokevirtual 72, 3), none, none, some (.aload_n 0, 1), some (.getfield 12, 3), none, none, some (.getfield 54, 3), none, none, some (.iload_n 1, 1), some (.invokevirtual 58, 3), none, none, some (.ireturn, 1)]
def ag_mX6_put : ag_M := (6, 1, false, 5, ag_cX6_put)
def ag_cX6_lock : List (Option (Instr × Nat)) := [
  some (.iload_n 1, 1), some (.invokestatic 47, 3), none, none, some (.ifCond .ne 5, 3), none, none, some (.iconst (-1), 1), some (.ireturn, 1), some (.iload_n 2, 1), some (.iconst 2, 1), some (.if_icmp .lt 8, 3), none, none, some (.iload_n 2, 1), some (.iconst 5, 1), some (.if_icmp .le 6, 3), none, none, some (.bipush (-2), 2), none, some (.ireturn, 1), some (.aload_n 0, 1), some (.iload_n 1, 1), some (.aload_n 0, 1), some (.getfield 12, 3), none, none, some (.getfield 54, 3), none, none, some (.getfield 76, 3), none, none, some (.iconst 4, 1), some (.invokevirtual 64, 3), none, none, some (.istore_n 3, 1), some (.iload_n 3, 1), some (.ifCond .eq 5, 3), none, none, some (.iload_n 3, 1), some (.ireturn, 1), some (.aload_n 0, 1), some (.getfield 25, 3), none, none, some (.aload_n 0, 1), some (.getfield 12, 3), none, none, some (.invokevirtual 68, 3), none, none, some (.aload_n 0, 1), some (.getfield 12, 3), none, none, some (.getfield 54, 3), none, none, some (.iload_n 1, 1), some (.iload_n 2, 1), some (.invokevirtual 80, 3), none, none, some (.ireturn, 1)]
def ag_mX6_lock : ag_M := (6, 1, false, 4, ag_cX6_lock)
def ag_cX6_begin : List (Option (Instr × Nat)) := [
  some (.aload_n 0, 1), some (.getfield 12, 3), none, none, some (.getfield 84, 3), none, none, some (.ifCond .eq 18, 3), none, none, some (.aload_n 0, 1), some (.iconst 2, 1), some (.aload_n 0, 1), some (.getfield 12, 3), none, none, some (.getfield 88, 3), none, none, some (.bipush (-4), 2), none, some (.invokevirtual 91, 3), none, none, some (.ireturn, 1), some (.iconst 0, 1), some (.istore_n 1, 1), some (.iload_n 1, 1), some (.iconst 2, 1), some (.if_icmp .ge 33, 3), none, none, some (.aload_n 0, 1), some (.getfield 12, 3), none, none, some (.getfield 54, 3), none, none, some (.iload_n 1, 1), some (.invokevirtual 58, 3), none, none, some (.ifCond .ne 13, 3), none, none, some (.aload_n 0, 1), some (.bipush 7, 2), none, some (.iload_n 1, 1), some (.bipush (-4), 2), none, some (.invokevirtual 91, 3), none, none, some (.ireturn, 1), some (.iinc 1 1, 3), none, none, some (.goto (-32), 3), none, none, some (.aload_n 0, 1), some (.getfield 25, 3), none, none, some (.aload_n 0, 1), some (.getfield 12, 3), none, none, some (.invokevirtual 68, 3), none, none, some (.aload_n 0, 1), some (.getfield 12, 3), none, none, some (.invokevirtual 94, 3), none, none, some (.aload_n 0, 1), some (.getfield 12, 3), none, none, some (.invokevirtual 97, 3), none, none, some (.ireturn, 1)]
def ag_mX6_begin : ag_M := (6, 1, false, 2, ag_cX6_begin)
def ag_cX6_move : List (Option (Instr × Nat)) := [
  some (.aload_n 0, 1), some (.aload_n 0, 1), some (.getfield 12, 3), none, none, some (.iload_n 1, 1), some (.iload_n 2, 1), some (.bipush (-4), 2), none, some (.invokevirtual 101, 3), none, none, some (.istore_n 3, 1), some (.iload_n 3, 1), some (.ifCond .eq 5, 3), none, none, some (.iload_n 3, 1), some (.ireturn, 1), some (.aload_n 0, 1), some (.getfield 25, 3), none, none, some (.aload_n 0, 1), some (.getfield 12, 3), none, none, some (.invokevirtual 68, 3), none, none, some (.aload_n 0, 1), some (.getfield 12, 3), none, none, some (.iload_n 1, 1), some (.iload_n 2, 1), some (.invokevirtual 105, 3), none, none, some (.ireturn, 1)]
def ag_mX6_move : ag_M := (6, 1, false, 4, ag_cX6_move)
def ag_cX6_squareOf : List (Option (Instr × Nat)) := [
  some (.iload_n 1, 1), some (.invokestatic 47, 3), none, none, some (.ifCond .ne 5, 3), none, none, some (.iconst (-1), 1), some (.ireturn, 1), some (.iload_n 2, 1), some (.tableswitch 76 0 2 #[26, 41, 56], 26), none, none, none, none, none, none, none, none, none, none, none, none, none, none, none, none, none, none, none, none, none, none, none, none, none, some (.aload_n 0, 1), some (.getfield 12, 3), none, none, some (.getfield 54, 3), none, none, some (.iload_n 1, 1), some (.invokevirtual 108, 3), none, none, some (.invokestatic 111, 3), none, none, some (.ireturn, 1), some (.aload_n 0, 1), some (.getfield 12, 3), none, none, some (.getfield 54, 3), none, none, some (.iload_n 1, 1), some (.invokevirtual 114, 3), none, none, some (.invokestatic 111, 3), none, none, some (.ireturn, 1), some (.aload_n 0, 1), some (.getfield 12, 3), none, none, some (.getfield 54, 3), none, none, some (.iload_n 1, 1), some (.invokevirtual 117, 3), none, none, some (.ifCond .eq 7, 3), none, none, some (.iconst 1, 1), some (.goto 4, 3), none, none, some (.iconst 0, 1), some (.ireturn, 1), some (.bipush (-2), 2), none, some (.ireturn, 1)]
def ag_mX6_squareOf : ag_M := (6, 1, false, 3, ag_cX6_squareOf)
def ag_cX6_lockOf : List (Option (Instr × Nat)) := [
  some (.aload_n 0, 1), some (.getfield 12, 3), none, none, some (.getfield 54, 3), none, none, some (.iload_n 1, 1), some (.invokevirtual 120, 3), none, none, some (.ifCond .ne 5, 3), none, none, some (.iconst (-1), 1), some (.ireturn, 1), some (.iload_n 2, 1), some (.tableswitch 91 0 3 #[31, 44, 57, 78], 31), none, none, none, none, none, none, none, none, none, none, none, none, none, none, none, none, none, none, none, none, none, none, none, none, none, none, none, none, none, none, some (.aload_n 0, 1), some (.getfield 12, 3), none, none, some (.getfield 54, 3), none, none, some (.getfield 123, 3), none, none, some (.iload_n 1, 1), some (.iaload, 1), some (.ireturn, 1), some (.aload_n 0, 1), some (.getfield 12, 3), none, none, some (.getfield 54, 3), none, none, some (.getfield 126, 3), none, none, some (.iload_n 1, 1), some (.iaload, 1), some (.ireturn, 1), some (.aload_n 0, 1), some (.getfield 12, 3), none, none, some (.getfield 54, 3), none, none, some (.getfield 129, 3), none, none, some (.iload_n 1, 1), some (.baload, 1), some (.ifCond .eq 7, 3), none, none, some (.iconst 1, 1), some (.goto 4, 3), none, none, some (.iconst 0, 1), some (.ireturn, 1), some (.aload_n 0, 1), some (.getfield 12, 3), none, none, some (.getfield 54, 3), none, none, some (.getfield 133, 3), none, none, some (.iload_n 1, 1), some (.iaload, 1), some (.ireturn, 1), some (.bipush (-2), 2), none, some (.ireturn, 1)]
def ag_mX6_lockOf : ag_M := (6, 1, false, 3, ag_cX6_lockOf)
def ag_cX6_sideOf : List (Option (Instr × Nat)) := [
  some (.iload_n 1, 1), some (.invokestatic 51, 3), none, none, some (.ifCond .ne 5, 3), none, none, some (.iconst (-1), 1), some (.ireturn, 1), some (.iload_n 2, 1), some (.tableswitch 116 0 5 #[38, 50, 74, 86, 96, 106], 38), none, none, none, none, none, none, none, none, none, none, none, none, none, none, none, none, none, none, none, none, none, none, none, none, none, none, none, none, none, none, none, none, none, none, none, none, none, some (.aload_n 0, 1), some (.getfield 12, 3), none, none, some (.getfield 54, 3), none, none, some (.iload_n 1, 1), some (.invokevirtual 58, 3), none, none, some (.ireturn, 1), some (.aload_n 0, 1), some (.getfield 12, 3), none, none, some (.getfield 54, 3), none, none, some (.iload_n 1, 1), some (.invokevirtual 58, 3), none, none, some (.aload_n 0, 1), some (.getfield 12, 3), none, none, some (.getfield 54, 3), none, none, some (.iload_n 1, 1), some (.invokevirtual 136, 3), none, none, some (.isub, 1), some (.ireturn, 1), some (.aload_n 0, 1), some (.getfield 12, 3), none, none, some (.getfield 54, 3), none, none, some (.iload_n 1, 1), some (.invokevirtual 136, 3), none, none, some (.ireturn, 1), some (.aload_n 0, 1), some (.getfield 12, 3), none, none, some (.getfield 139, 3), none, none, some (.iload_n 1, 1), some (.iaload, 1), some (.ireturn, 1), some (.aload_n 0, 1), some (.getfield 12, 3), none, none, some (.getfield 142, 3), none, none, some (.iload_n 1, 1), some (.iaload, 1), some (.ireturn, 1), some (.aload_n 0, 1), some (.getfield 12, 3), none, none, some (.getfield 145, 3), none, none, some (.iload_n 1, 1), some (.iaload, 1), some (.ireturn, 1), some (.bipush (-2), 2), none, some (.ireturn, 1)]
def ag_mX6_sideOf : ag_M := (6, 1, false, 3, ag_cX6_sideOf)
def ag_cX6_moves : List (Option (Instr × Nat)) := [
  some (.aload_n 0, 1), some (.getfield 12, 3), none, none, some (.invokevirtual 97, 3), none, none, some (.ireturn, 1)]
def ag_mX6_moves : ag_M := (6, 1, false, 1, ag_cX6_moves)
def ag_cX6_movesAgain : List (Option (Instr × Nat)) := [
  some (.aload_n 0, 1), some (.getfield 12, 3), none, none, some (.invokevirtual 148, 3), none, none, some (.ifCond .ne 5, 3), none, none, some (.iconst 0, 1), some (.ireturn, 1), some (.iconst 0, 1), some (.istore_n 1, 1), some (.iconst 0, 1), some (.istore_n 2, 1), some (.iload_n 2, 1), some (.iconst 4, 1), some (.if_icmp .ge 45, 3), none, none, some (.iconst 0, 1), some (.istore_n 3, 1), some (.iload_n 3, 1), some (.bipush 6, 2), none, some (.if_icmp .ge 31, 3), none, none, some (.iload_n 1, 1), some (.aload_n 0, 1), some (.getfield 12, 3), none, none, some (.getfield 54, 3), none, none, some (.aload_n 0, 1), some (.getfield 12, 3), none, none, some (.invokevirtual 152, 3), none, none, some (.iload_n 2, 1), some (.iload_n 3, 1), some (.invokevirtual 155, 3), none, none, some (.iadd, 1), some (.istore_n 1, 1), some (.iinc 3 1, 3), none, none, some (.goto (-31), 3), none, none, some (.iinc 2 1, 3), none, none, some (.goto (-44), 3), none, none, some (.iload_n 1, 1), some (.ireturn, 1)]
def ag_mX6_movesAgain : ag_M := (6, 1, false, 4, ag_cX6_movesAgain)
def ag_cX6_moveAt : List (Option (Instr × Nat)) := [
  some (.iconst 0, 1), some (.istore_n 2, 1), some (.iconst 0, 1), some (.istore_n 3, 1), some (.iload_n 3, 1), some (.sipush 144, 3), none, none, some (.if_icmp .ge 35, 3), none, none, some (.aload_n 0, 1), some (.getfield 12, 3), none, none, some (.iload_n 3, 1), some (.iconst 4, 1), some (.idiv, 1), some (.iload_n 3, 1), some (.iconst 4, 1), some (.irem, 1), some (.invokevirtual 158, 3), none, none, some (.ifCond .eq 13, 3), none, none, some (.iload_n 2, 1), some (.iload_n 1, 1), some (.if_icmp .ne 5, 3), none, none, some (.iload_n 3, 1), some (.ireturn, 1), some (.iinc 2 1, 3), none, none, some (.iinc 3 1, 3), none, none, some (.goto (-36), 3), none, none, some (.iconst (-1), 1), some (.ireturn, 1)]
def ag_mX6_moveAt : ag_M := (6, 1, false, 4, ag_cX6_moveAt)
def ag_cX6_repeats : List (Option (Instr × Nat)) := [
  some (.aload_n 0, 1), some (.getfield 12, 3), none, none, some (.getfield 162, 3), none, none, some (.invokevirtual 166, 3), none, none, some (.ireturn, 1)]
def ag_mX6_repeats : ag_M := (6, 1, false, 1, ag_cX6_repeats)
def ag_cX6_mostRepeats : List (Option (Instr × Nat)) := [
  some (.aload_n 0, 1), some (.getfield 12, 3), none, none, some (.getfield 162, 3), none, none, some (.invokevirtual 171, 3), none, none, some (.ireturn, 1)]
def ag_mX6_mostRepeats : ag_M := (6, 1, false, 1, ag_cX6_mostRepeats)
def ag_cX6_wouldPush : List (Option (Instr × Nat)) := [
  some (.iload_n 1, 1), some (.invokestatic 47, 3), none, none, some (.ifCond .ne 5, 3), none, none, some (.iconst (-1), 1), some (.ireturn, 1), some (.iload_n 2, 1), some (.invokestatic 174, 3), none, none, some (.ifCond .ne 6, 3), none, none, some (.bipush (-2), 2), none, some (.ireturn, 1), some (.aload_n 0, 1), some (.getfield 12, 3), none, none, some (.getfield 54, 3), none, none, some (.iload_n 1, 1), some (.invokevirtual 108, 3), none, none, some (.iconst (-1), 1), some (.if_icmp .eq 18, 3), none, none, some (.aload_n 0, 1), some (.getfield 12, 3), none, none, some (.getfield 54, 3), none, none, some (.iload_n 1, 1), some (.iload_n 2, 1), some (.invokevirtual 177, 3), none, none, some (.ifCond .eq 6, 3), none, none, some (.bipush (-4), 2), none, some (.ireturn, 1), some (.aload_n 0, 1), some (.getfield 12, 3), none, none, some (.getfield 54, 3), none, none, some (.iload_n 1, 1), some (.iload_n 2, 1), some (.invokevirtual 180, 3), none, none, some (.ireturn, 1)]
def ag_mX6_wouldPush : ag_M := (6, 1, false, 3, ag_cX6_wouldPush)
def ag_cX6_firstTake : List (Option (Instr × Nat)) := [
  some (.aload_n 0, 1), some (.getfield 12, 3), none, none, some (.invokevirtual 152, 3), none, none, some (.invokestatic 183, 3), none, none, some (.istore_n 1, 1), some (.iconst 0, 1), some (.istore_n 2, 1), some (.iload_n 2, 1), some (.sipush 144, 3), none, none, some (.if_icmp .ge 53, 3), none, none, some (.iload_n 2, 1), some (.iconst 4, 1), some (.idiv, 1), some (.istore_n 3, 1), some (.iload_n 2, 1), some (.iconst 4, 1), some (.irem, 1), some (.istore 4, 2), none, some (.aload_n 0, 1), some (.getfield 12, 3), none, none, some (.iload_n 3, 1), some (.iload 4, 2), none, some (.invokevirtual 158, 3), none, none, some (.ifCond .eq 25, 3), none, none, some (.aload_n 0, 1), some (.getfield 12, 3), none, none, some (.getfield 54, 3), none, none, some (.iload_n 3, 1), some (.iload 4, 2), none, some (.invokevirtual 186, 3), none, none, some (.invokestatic 189, 3), none, none, some (.iload_n 1, 1), some (.if_icmp .ne 5, 3), none, none, some (.iload_n 2, 1), some (.ireturn, 1), some (.iinc 2 1, 3), none, none, some (.goto (-54), 3), none, none, some (.bipush (-4), 2), none, some (.ireturn, 1)]
def ag_mX6_firstTake : ag_M := (6, 1, false, 5, ag_cX6_firstTake)
def ag_cX6_ways : List (Option (Instr × Nat)) := [
  some (.iload_n 1, 1), some (.iconst 1, 1), some (.if_icmp .ne 11, 3), none, none, some (.aload_n 0, 1), some (.getfield 12, 3), none, none, some (.invokevirtual 97, 3), none, none, some (.ireturn, 1), some (.iload_n 1, 1), some (.iconst 2, 1), some (.if_icmp .eq 6, 3), none, none, some (.bipush (-2), 2), none, some (.ireturn, 1), some (.iconst 0, 1), some (.istore_n 2, 1), some (.iconst 0, 1), some (.istore_n 3, 1), some (.iload_n 3, 1), some (.sipush 144, 3), none, none, some (.if_icmp .ge 66, 3), none, none, some (.iload_n 3, 1), some (.iconst 4, 1), some (.idiv, 1), some (.istore 4, 2), none, some (.iload_n 3, 1), some (.iconst 4, 1), some (.irem, 1), some (.istore 5, 2), none, some (.aload_n 0, 1), some (.getfield 12, 3), none, none, some (.iload 4, 2), none, some (.iload 5, 2), none, some (.invokevirtual 158, 3), none, none, some (.ifCond .eq 36, 3), none, none, some (.aload_n 0, 1), some (.getfield 16, 3), none, none, some (.aload_n 0, 1), some (.getfield 12, 3), none, none, some (.invokevirtual 192, 3), none, none, some (.aload_n 0, 1), some (.getfield 16, 3), none, none, some (.iload 4, 2), none, some (.iload 5, 2), none, some (.invokevirtual 105, 3), none, none, some (.pop, 1), some (.iload_n 2, 1), some (.aload_n 0, 1), some (.getfield 16, 3), none, none, some (.invokevirtual 97, 3), none, none, some (.iadd, 1), some (.istore_n 2, 1), some (.iinc 3 1, 3), none, none, some (.goto (-67), 3), none, none, some (.iload_n 2, 1), some (.ireturn, 1)]
def ag_mX6_ways : ag_M := (6, 1, false, 6, ag_cX6_ways)
def ag_cX6_turnsIn : List (Option (Instr × Nat)) := [
  some (.aload_n 0, 1), some (.getfield 12, 3), none, none, some (.getfield 54, 3), none, none, some (.iload_n 1, 1), some (.invokevirtual 120, 3), none, none, some (.ifCond .ne 5, 3), none, none, some (.iconst (-1), 1), some (.ireturn, 1), some (.aload_n 0, 1), some (.getfield 12, 3), none, none, some (.getfield 54, 3), none, none, some (.getfield 126, 3), none, none, some (.iload_n 1, 1), some (.iaload, 1), some (.istore_n 2, 1), some (.iload_n 2, 1), some (.ifCond .le 17, 3), none, none, some (.iload_n 2, 1), some (.aload_n 0, 1), some (.getfield 12, 3), none, none, some (.getfield 88, 3), none, none, some (.iload_n 2, 1), some (.irem, 1), some (.isub, 1), some (.goto 4, 3), none, none, some (.iconst (-1), 1), some (.ireturn, 1)]
def ag_mX6_turnsIn : ag_M := (6, 1, false, 3, ag_cX6_turnsIn)
def ag_cX6_tideIn : List (Option (Instr × Nat)) := [
  some (.iload_n 1, 1), some (.ifCond .lt 8, 3), none, none, some (.iload_n 1, 1), some (.iconst 4, 1), some (.if_icmp .lt 5, 3), none, none, some (.iconst (-1), 1), some (.ireturn, 1), some (.iload_n 1, 1), some (.aload_n 0, 1), some (.getfield 12, 3), none, none, some (.invokevirtual 195, 3), none, none, some (.isub, 1), some (.istore_n 2, 1), some (.iload_n 2, 1), some (.ifCond .gt 6, 3), none, none, some (.iinc 2 4, 3), none, none, some (.iconst 4, 1), some (.iload_n 2, 1), some (.imul, 1), some (.aload_n 0, 1), some (.getfield 12, 3), none, none, some (.getfield 88, 3), none, none, some (.iconst 4, 1), some (.irem, 1), some (.isub, 1), some (.ireturn, 1)]
def ag_mX6_tideIn : ag_M := (6, 1, false, 3, ag_cX6_tideIn)
def ag_cX6_describe : List (Option (Instr × Nat)) := [
  some (.iload_n 1, 1), some (.ifCond .lt 9, 3), none, none, some (.iload_n 1, 1), some (.bipush 6, 2), none, some (.if_icmp .lt 5, 3), none, none, some (.iconst (-1), 1), some (.ireturn, 1), some (.iconst 0, 1), some (.istore_n 2, 1), some (.iload_n 2, 1), some (.bipush 6, 2), none, some (.if_icmp .ge 31, 3), none, none, some (.aload_n 0, 1), some (.getfield 43, 3), none, none, some (.iload_n 2, 1), some (.aload_n 0, 1), some (.getfield 12, 3), none, none, some (.getfield 54, 3), none, none, some (.iload_n 1, 1), some (.bipush 6, 2), none, some (.imul, 1), some (.iload_n 2, 1), some (.iadd, 1), some (.invokevirtual 198, 3), none, none, some (.iastore, 1), some (.iinc 2 1, 3), none, none, some (.goto (-31), 3), none, none, some (.aload_n 0, 1), some (.bipush 6, 2), none, some (.putfield 201, 3), none, none, some (.aload_n 0, 1), some (.getfield 201, 3), none, none, some (.ireturn, 1)]
def ag_mX6_describe : ag_M := (6, 1, false, 3, ag_cX6_describe)
def ag_cX6_sign : List (Option (Instr × Nat)) := [
  some (.iload_n 1, 1), some (.ifCond .lt 26, 3), none, none, some (.iload_n 1, 1), some (.aload_n 0, 1), some (.getfield 201, 3), none, none, some (.if_icmp .ge 18, 3), none, none, some (.iload_n 1, 1), some (.bipush 6, 2), none, some (.if_icmp .ge 12, 3), none, none, some (.aload_n 0, 1), some (.getfield 43, 3), none, none, some (.iload_n 1, 1), some (.iaload, 1), some (.goto 4, 3), none, none, some (.iconst (-1), 1), some (.ireturn, 1)]
def ag_mX6_sign : ag_M := (6, 1, false, 2, ag_cX6_sign)
def ag_cX6_append : List (Option (Instr × Nat)) := [
  some (.aload_n 0, 1), some (.getfield 32, 3), none, none, some (.iload_n 1, 1), some (.invokevirtual 204, 3), none, none, some (.ifCond .eq 13, 3), none, none, some (.aload_n 0, 1), some (.getfield 32, 3), none, none, some (.getfield 207, 3), none, none, some (.goto 5, 3), none, none, some (.bipush (-2), 2), none, some (.ireturn, 1)]
def ag_mX6_append : ag_M := (6, 1, false, 2, ag_cX6_append)
def ag_cX6_read : List (Option (Instr × Nat)) := [
  some (.aload_n 0, 1), some (.getfield 32, 3), none, none, some (.invokevirtual 210, 3), none, none, some (.istore_n 1, 1), some (.aload_n 0, 1), some (.getfield 32, 3), none, none, some (.invokevirtual 213, 3), none, none, some (.iload_n 1, 1), some (.iconst (-1), 1), some (.if_icmp .eq 8, 3), none, none, some (.bipush (-100), 2), none, some (.iload_n 1, 1), some (.isub, 1), some (.ireturn, 1), some (.aload_n 0, 1), some (.getfield 16, 3), none, none, some (.aload_n 0, 1), some (.getfield 12, 3), none, none, some (.invokevirtual 192, 3), none, none, some (.iconst 0, 1), some (.istore_n 2, 1), some (.iload_n 2, 1), some (.aload_n 0, 1), some (.getfield 32, 3), none, none, some (.getfield 216, 3), none, none, some (.if_icmp .ge 81, 3), none, none, some (.iload_n 2, 1), some (.bipush 23, 2), none, some (.if_icmp .ge 75, 3), none, none, some (.aload_n 0, 1), some (.getfield 32, 3), none, none, some (.getfield 219, 3), none, none, some (.iload_n 2, 1), some (.iaload, 1), some (.istore_n 3, 1), some (.aload_n 0, 1), some (.getfield 32, 3), none, none, some (.getfield 222, 3), none, none, some (.iload_n 2, 1), some (.iaload, 1), some (.istore 4, 2), none, some (.aload_n 0, 1), some (.aload_n 0, 1), some (.getfield 16, 3), none, none, some (.iload_n 3, 1), some (.iload 4, 2), none, some (.iload_n 2, 1), some (.invokevirtual 101, 3), none, none, some (.istore 5, 2), none, some (.iload 5, 2), none, some (.ifCond .eq 18, 3), none, none, some (.iload 5, 2), none, some (.bipush (-3), 2), none, some (.if_icmp .ne 8, 3), none, none, some (.bipush (-3), 2), none, some (.goto 5, 3), none, none, some (.bipush (-2), 2), none, some (.ireturn, 1), some (.aload_n 0, 1), some (.getfield 16, 3), none, none, some (.iload_n 3, 1), some (.iload 4, 2), none, some (.invokevirtual 105, 3), none, none, some (.pop, 1), some (.iinc 2 1, 3), none, none, some (.goto (-86), 3), none, none, some (.aload_n 0, 1), some (.getfield 25, 3), none, none, some (.aload_n 0, 1), some (.getfield 12, 3), none, none, some (.invokevirtual 68, 3), none, none, some (.aload_n 0, 1), some (.getfield 12, 3), none, none, some (.aload_n 0, 1), some (.getfield 16, 3), none, none, some (.invokevirtual 192, 3), none, none, some (.aload_n 0, 1), some (.getfield 32, 3), none, none, some (.getfield 216, 3), none, none, some (.ireturn, 1)]
def ag_mX6_read : ag_M := (6, 1, false, 6, ag_cX6_read)
def ag_cX6_refusal : List (Option (Instr × Nat)) := [
  some (.iload_n 1, 1), some (.tableswitch 75 0 4 #[35, 43, 51, 59, 67], 35), none, none, none, none, none, none, none, none, none, none, none, none, none, none, none, none, none, none, none, none, none, none, none, none, none, none, none, none, none, none, none, none, none, none, some (.aload_n 0, 1), some (.getfield 39, 3), none, none, some (.getfield 225, 3), none, none, some (.ireturn, 1), some (.aload_n 0, 1), some (.getfield 39, 3), none, none, some (.getfield 228, 3), none, none, some (.ireturn, 1), some (.aload_n 0, 1), some (.getfield 39, 3), none, none, some (.getfield 231, 3), none, none, some (.ireturn, 1), some (.aload_n 0, 1), some (.getfield 39, 3), none, none, some (.getfield 234, 3), none, none, some (.ireturn, 1), some (.aload_n 0, 1), some (.getfield 39, 3), none, none, some (.getfield 237, 3), none, none, some (.ireturn, 1), some (.bipush (-2), 2), none, some (.ireturn, 1)]
def ag_mX6_refusal : ag_M := (6, 1, false, 2, ag_cX6_refusal)
def ag_cX6_account : List (Option (Instr × Nat)) := [
  some (.iload_n 1, 1), some (.tableswitch 293 0 16 #[83, 91, 99, 109, 117, 133, 141, 165, 176, 187, 207, 227, 247, 255, 266, 277, 285], 83), none, none, none, none, none, none, none, none, none, none, none, none, none, none, none, none, none, none, none, none, none, none, none, none, none, none, none, none, none, none, none, none, none, none, none, none, none, none, none, none, none, none, none, none, none, none, none, none, none, none, none, none, none, none, none, none, none, none, none, none, none, none, none, none, none, none, none, none, none, none, none, none, none, none, none, none, none, none, none, none, none, none, some (.aload_n 0, 1), some (.getfield 12, 3), none, none, some (.getfield 88, 3), none, none, some (.ireturn, 1), some (.aload_n 0, 1), some (.getfield 12, 3), none, none, some (.invokevirtual 152, 3), none, none, some (.ireturn, 1), some (.aload_n 0, 1), some (.getfield 12, 3), none, none, some (.getfield 88, 3), none, none, some (.iconst 4, 1), some (.idiv, 1), some (.ireturn, 1), some (.aload_n 0, 1), some (.getfield 12, 3), none, none, some (.invokevirtual 195, 3), none, none, some (.ireturn, 1), some (.aload_n 0, 1), some (.getfield 12, 3), none, none, some (.getfield 84, 3), none, none, some (.ifCond .eq 7, 3), none, none, some (.iconst 1, 1), some (.goto 4, 3), none, none, some (.iconst 0, 1), some (.ireturn, 1), some (.aload_n 0, 1), some (.getfield 12, 3), none, none, some (.getfield 240, 3), none, none, some (.ireturn, 1), some (.aload_n 0, 1), some (.getfield 12, 3), none, none, some (.getfield 54, 3), none, none, some (.iconst 0, 1), some (.invokevirtual 58, 3), none, none, some (.aload_n 0, 1), some (.getfield 12, 3), none, none, some (.getfield 54, 3), none, none, some (.iconst 1, 1), some (.invokevirtual 58, 3), none, none, some (.iadd, 1), some (.ireturn, 1), some (.aload_n 0, 1), some (.getfield 12, 3), none, none, some (.getfield 54, 3), none, none, some (.getfield 76, 3), none, none, some (.ireturn, 1), some (.aload_n 0, 1), some (.getfield 12, 3), none, none, some (.getfield 54, 3), none, none, some (.invokevirtual 243, 3), none, none, some (.ireturn, 1), some (.aload_n 0, 1), some (.getfield 12, 3), none, none, some (.getfield 139, 3), none, none, some (.iconst 0, 1), some (.iaload, 1), some (.aload_n 0, 1), some (.getfield 12, 3), none, none, some (.getfield 139, 3), none, none, some (.iconst 1, 1), some (.iaload, 1), some (.iadd, 1), some (.ireturn, 1), some (.aload_n 0, 1), some (.getfield 12, 3), none, none, some (.getfield 142, 3), none, none, some (.iconst 0, 1), some (.iaload, 1), some (.aload_n 0, 1), some (.getfield 12, 3), none, none, some (.getfield 142, 3), none, none, some (.iconst 1, 1), some (.iaload, 1), some (.iadd, 1), some (.ireturn, 1), some (.aload_n 0, 1), some (.getfield 12, 3), none, none, some (.getfield 145, 3), none, none, some (.iconst 0, 1), some (.iaload, 1), some (.aload_n 0, 1), some (.getfield 12, 3), none, none, some (.getfield 145, 3), none, none, some (.iconst 1, 1), some (.iaload, 1), some (.iadd, 1), some (.ireturn, 1), some (.aload_n 0, 1), some (.getfield 12, 3), none, none, some (.getfield 246, 3), none, none, some (.ireturn, 1), some (.aload_n 0, 1), some (.getfield 12, 3), none, none, some (.getfield 54, 3), none, none, some (.invokevirtual 249, 3), none, none, some (.ireturn, 1), some (.aload_n 0, 1), some (.getfield 12, 3), none, none, some (.getfield 162, 3), none, none, some (.invokevirtual 252, 3), none, none, some (.ireturn, 1), some (.aload_n 0, 1), some (.getfield 32, 3), none, none, some (.getfield 207, 3), none, none, some (.ireturn, 1), some (.aload_n 0, 1), some (.getfield 25, 3), none, none, some (.getfield 255, 3), none, none, some (.ireturn, 1), some (.bipush (-2), 2), none, some (.ireturn, 1)]
def ag_mX6_account : ag_M := (6, 1, false, 2, ag_cX6_account)
def ag_cX6_mean : List (Option (Instr × Nat)) := [
  some (.iconst 0, 1), some (.istore_n 1, 1), some (.iconst 0, 1), some (.istore_n 2, 1), some (.iconst 0, 1), some (.istore_n 3, 1), some (.iload_n 3, 1), some (.bipush 36, 2), none, some (.if_icmp .ge 34, 3), none, none, some (.aload_n 0, 1), some (.getfield 12, 3), none, none, some (.getfield 54, 3), none, none, some (.iload_n 3, 1), some (.invokevirtual 108, 3), none, none, some (.iconst (-1), 1), some (.if_icmp .eq 13, 3), none, none, some (.iload_n 1, 1), some (.iload_n 3, 1), some (.bipush 6, 2), none, some (.idiv, 1), some (.iadd, 1), some (.istore_n 1, 1), some (.iinc 2 1, 3), none, none, some (.iinc 3 1, 3), none, none, some (.goto (-34), 3), none, none, some (.iload_n 2, 1), some (.ifCond .ne 8, 3), none, none, some (.bipush (-4), 2), none, some (.goto 11, 3), none, none, some (.iload_n 1, 1), some (.i2f, 1), some (.iload_n 2, 1), some (.i2f, 1), some (.fdiv, 1), some (.invokestatic 258, 3), none, none, some (.ireturn, 1)]
def ag_mX6_mean : ag_M := (6, 1, false, 4, ag_cX6_mean)
def ag_cX6_undo : List (Option (Instr × Nat)) := [
  some (.aload_n 0, 1), some (.getfield 25, 3), none, none, some (.aload_n 0, 1), some (.getfield 12, 3), none, none, some (.invokevirtual 262, 3), none, none, some (.ifCond .eq 13, 3), none, none, some (.aload_n 0, 1), some (.getfield 25, 3), none, none, some (.getfield 255, 3), none, none, some (.goto 5, 3), none, none, some (.bipush (-4), 2), none, some (.ireturn, 1)]
def ag_mX6_undo : ag_M := (6, 1, false, 1, ag_cX6_undo)
def ag_cX6_save : List (Option (Instr × Nat)) := [
  some (.aload_n 0, 1), some (.getfield 19, 3), none, none, some (.aload_n 0, 1), some (.getfield 12, 3), none, none, some (.invokevirtual 192, 3), none, none, some (.aload_n 0, 1), some (.iconst 1, 1), some (.putfield 266, 3), none, none, some (.aload_n 0, 1), some (.getfield 12, 3), none, none, some (.getfield 88, 3), none, none, some (.ireturn, 1)]
def ag_mX6_save : ag_M := (6, 1, false, 1, ag_cX6_save)
def ag_cX6_restore : List (Option (Instr × Nat)) := [
  some (.aload_n 0, 1), some (.getfield 266, 3), none, none, some (.ifCond .ne 6, 3), none, none, some (.bipush (-4), 2), none, some (.ireturn, 1), some (.aload_n 0, 1), some (.getfield 12, 3), none, none, some (.aload_n 0, 1), some (.getfield 19, 3), none, none, some (.invokevirtual 192, 3), none, none, some (.aload_n 0, 1), some (.getfield 25, 3), none, none, some (.invokevirtual 269, 3), none, none, some (.aload_n 0, 1), some (.getfield 12, 3), none, none, some (.getfield 88, 3), none, none, some (.ireturn, 1)]
def ag_mX6_restore : ag_M := (6, 1, false, 1, ag_cX6_restore)
def ag_cX6_refuse : List (Option (Instr × Nat)) := [
  some (.aload_n 0, 1), some (.getfield 39, 3), none, none, some (.iload_n 1, 1), some (.iload_n 2, 1), some (.iload_n 3, 1), some (.invokevirtual 272, 3), none, none, some (.bipush (-3), 2), none, some (.ireturn, 1)]
def ag_mX6_refuse : ag_M := (6, 1, false, 4, ag_cX6_refuse)
def ag_cX6_buildingError : List (Option (Instr × Nat)) := [
  some (.aload_n 0, 1), some (.getfield 12, 3), none, none, some (.getfield 84, 3), none, none, some (.ifCond .eq 18, 3), none, none, some (.aload_n 0, 1), some (.iconst 2, 1), some (.aload_n 0, 1), some (.getfield 12, 3), none, none, some (.getfield 88, 3), none, none, some (.bipush (-4), 2), none, some (.invokevirtual 91, 3), none, none, some (.ireturn, 1), some (.aload_n 0, 1), some (.getfield 12, 3), none, none, some (.getfield 54, 3), none, none, some (.iload_n 1, 1), some (.invokevirtual 108, 3), none, none, some (.iconst (-1), 1), some (.if_icmp .eq 12, 3), none, none, some (.aload_n 0, 1), some (.iconst 5, 1), some (.iload_n 1, 1), some (.bipush (-4), 2), none, some (.invokevirtual 91, 3), none, none, some (.ireturn, 1), some (.aload_n 0, 1), some (.getfield 12, 3), none, none, some (.getfield 54, 3), none, none, some (.iload_n 1, 1), some (.invokevirtual 114, 3), none, none, some (.iconst (-1), 1), some (.if_icmp .eq 23, 3), none, none, some (.aload_n 0, 1), some (.bipush 6, 2), none, some (.aload_n 0, 1), some (.getfield 12, 3), none, none, some (.getfield 54, 3), none, none, some (.iload_n 1, 1), some (.invokevirtual 114, 3), none, none, some (.bipush (-4), 2), none, some (.invokevirtual 91, 3), none, none, some (.ireturn, 1), some (.iload_n 2, 1), some (.iload_n 3, 1), some (.if_icmp .ge 7, 3), none, none, some (.iconst 0, 1), some (.goto 11, 3), none, none, some (.aload_n 0, 1), some (.iconst 1, 1), some (.iload_n 3, 1), some (.bipush (-4), 2), none, some (.invokevirtual 91, 3), none, none, some (.ireturn, 1)]
def ag_mX6_buildingError : ag_M := (6, 1, false, 4, ag_cX6_buildingError)
def ag_cX6_moveError : List (Option (Instr × Nat)) := [
  some (.iload_n 2, 1), some (.invokestatic 47, 3), none, none, some (.ifCond .ne 5, 3), none, none, some (.iconst (-1), 1), some (.ireturn, 1), some (.iload_n 3, 1), some (.invokestatic 174, 3), none, none, some (.ifCond .ne 6, 3), none, none, some (.bipush (-2), 2), none, some (.ireturn, 1), some (.aload_n 1, 1), some (.getfield 84, 3), none, none, some (.ifCond .ne 12, 3), none, none, some (.aload_n 0, 1), some (.iconst 3, 1), some (.iconst 0, 1), some (.iload 4, 2), none, some (.invokevirtual 91, 3), none, none, some (.ireturn, 1), some (.aload_n 1, 1), some (.getfield 240, 3), none, none, some (.ifCond .eq 15, 3), none, none, some (.aload_n 0, 1), some (.iconst 4, 1), some (.aload_n 1, 1), some (.getfield 240, 3), none, none, some (.iload 4, 2), none, some (.invokevirtual 91, 3), none, none, some (.ireturn, 1), some (.aload_n 1, 1), some (.getfield 54, 3), none, none, some (.iload_n 2, 1), some (.invokevirtual 108, 3), none, none, some (.invokestatic 189, 3), none, none, some (.aload_n 1, 1), some (.invokevirtual 152, 3), none, none, some (.if_icmp .eq 16, 3), none, none, some (.aload_n 0, 1), some (.bipush 8, 2), none, some (.aload_n 1, 1), some (.invokevirtual 152, 3), none, none, some (.iload 4, 2), none, some (.invokevirtual 91, 3), none, none, some (.ireturn, 1), some (.aload_n 1, 1), some (.getfield 54, 3), none, none, some (.iload_n 2, 1), some (.iload_n 3, 1), some (.invokevirtual 177, 3), none, none, some (.istore 5, 2), none, some (.iload 5, 2), none, some (.ifCond .ne 5, 3), none, none, some (.iconst 0, 1), some (.ireturn, 1), some (.aload_n 0, 1), some (.bipush 9, 2), none, some (.iload_n 3, 1), some (.iload 4, 2), none, some (.invokevirtual 91, 3), none, none, some (.istore 6, 2), none, some (.aload_n 0, 1), some (.getfield 39, 3), none, none, some (.iload 5, 2), none, some (.aload_n 1, 1), some (.getfield 54, 3), none, none, some (.iload 5, 2), none, some (.iload_n 2, 1), some (.iload_n 3, 1), some (.invokevirtual 276, 3), none, none, some (.invokevirtual 278, 3), none, none, some (.iload 6, 2), none, some (.ireturn, 1)]
def ag_mX6_moveError : ag_M := (6, 1, false, 7, ag_cX6_moveError)
def ag_cX6_isSquare : List (Option (Instr × Nat)) := [
  some (.iload_n 0, 1), some (.ifCond .lt 13, 3), none, none, some (.iload_n 0, 1), some (.bipush 36, 2), none, some (.if_icmp .ge 7, 3), none, none, some (.iconst 1, 1), some (.goto 4, 3), none, none, some (.iconst 0, 1), some (.ireturn, 1)]
def ag_mX6_isSquare : ag_M := (6, 2, false, 1, ag_cX6_isSquare)
def ag_cX6_isSide : List (Option (Instr × Nat)) := [
  some (.iload_n 0, 1), some (.ifCond .lt 12, 3), none, none, some (.iload_n 0, 1), some (.iconst 2, 1), some (.if_icmp .ge 7, 3), none, none, some (.iconst 1, 1), some (.goto 4, 3), none, none, some (.iconst 0, 1), some (.ireturn, 1)]
def ag_mX6_isSide : ag_M := (6, 2, false, 1, ag_cX6_isSide)
def ag_cX6_isDirection : List (Option (Instr × Nat)) := [
  some (.iload_n 0, 1), some (.ifCond .lt 12, 3), none, none, some (.iload_n 0, 1), some (.iconst 4, 1), some (.if_icmp .ge 7, 3), none, none, some (.iconst 1, 1), some (.goto 4, 3), none, none, some (.iconst 0, 1), some (.ireturn, 1)]
def ag_mX6_isDirection : ag_M := (6, 2, false, 1, ag_cX6_isDirection)
def ag_cX6_orNothing : List (Option (Instr × Nat)) := [
  some (.iload_n 0, 1), some (.ifCond .ge 8, 3), none, none, some (.bipush (-4), 2), none, some (.goto 4, 3), none, none, some (.iload_n 0, 1), some (.ireturn, 1)]
def ag_mX6_orNothing : ag_M := (6, 1, false, 1, ag_cX6_orNothing)
def ag_cX6_otherSide : List (Option (Instr × Nat)) := [
  some (.iconst 1, 1), some (.iload_n 0, 1), some (.isub, 1), some (.ireturn, 1)]
def ag_mX6_otherSide : ag_M := (6, 1, false, 1, ag_cX6_otherSide)
def ag_cX6_ownerOf : List (Option (Instr × Nat)) := [
  some (.iload_n 0, 1), some (.iconst (-1), 1), some (.if_icmp .ne 7, 3), none, none, some (.iconst (-1), 1), some (.goto 6, 3), none, none, some (.iload_n 0, 1), some (.iconst 2, 1), some (.idiv, 1), some (.ireturn, 1)]
def ag_mX6_ownerOf : ag_M := (6, 1, false, 1, ag_cX6_ownerOf)
def ag_cX6_isTug : List (Option (Instr × Nat)) := [
  some (.iload_n 0, 1), some (.iconst (-1), 1), some (.if_icmp .eq 14, 3), none, none, some (.iload_n 0, 1), some (.iconst 2, 1), some (.irem, 1), some (.iconst 1, 1), some (.if_icmp .ne 7, 3), none, none, some (.iconst 1, 1), some (.goto 4, 3), none, none, some (.iconst 0, 1), some (.ireturn, 1)]
def ag_mX6_isTug : ag_M := (6, 2, false, 1, ag_cX6_isTug)
def ag_cX6_goes : List (Option (Instr × Nat)) := [
  some (.iload_n 0, 1), some (.invokestatic 281, 3), none, none, some (.ifCond .ne 19, 3), none, none, some (.iload_n 1, 1), some (.iload_n 0, 1), some (.invokestatic 189, 3), none, none, some (.ifCond .ne 7, 3), none, none, some (.iconst 2, 1), some (.goto 4, 3), none, none, some (.iconst 0, 1), some (.if_icmp .eq 7, 3), none, none, some (.iconst 1, 1), some (.goto 4, 3), none, none, some (.iconst 0, 1), some (.ireturn, 1)]
def ag_mX6_goes : ag_M := (6, 2, false, 2, ag_cX6_goes)
def ag_cX6_strengthOf : List (Option (Instr × Nat)) := [
  some (.iload_n 0, 1), some (.invokestatic 281, 3), none, none, some (.ifCond .eq 7, 3), none, none, some (.iconst 2, 1), some (.goto 4, 3), none, none, some (.iconst 1, 1), some (.ireturn, 1)]
def ag_mX6_strengthOf : ag_M := (6, 1, false, 1, ag_cX6_strengthOf)
def ag_cX6_lastRowOf : List (Option (Instr × Nat)) := [
  some (.iload_n 0, 1), some (.ifCond .ne 7, 3), none, none, some (.iconst 5, 1), some (.goto 4, 3), none, none, some (.iconst 0, 1), some (.ireturn, 1)]
def ag_mX6_lastRowOf : ag_M := (6, 1, false, 1, ag_cX6_lastRowOf)
def ag_cX6_stepOf : List (Option (Instr × Nat)) := [
  some (.iload_n 0, 1), some (.tableswitch 35 0 2 #[27, 30, 32], 27), none, none, none, none, none, none, none, none, none, none, none, none, none, none, none, none, none, none, none, none, none, none, none, none, none, none, some (.bipush 6, 2), none, some (.ireturn, 1), some (.iconst 1, 1), some (.ireturn, 1), some (.bipush (-6), 2), none, some (.ireturn, 1), some (.iconst (-1), 1), some (.ireturn, 1)]
def ag_mX6_stepOf : ag_M := (6, 1, false, 1, ag_cX6_stepOf)
def ag_cX6_roomFrom : List (Option (Instr × Nat)) := [
  some (.iload_n 1, 1), some (.tableswitch 46 0 2 #[27, 34, 41], 27), none, none, none, none, none, none, none, none, none, none, none, none, none, none, none, none, none, none, none, none, none, none, none, none, none, none, some (.iconst 5, 1), some (.iload_n 0, 1), some (.bipush 6, 2), none, some (.idiv, 1), some (.isub, 1), some (.ireturn, 1), some (.iconst 5, 1), some (.iload_n 0, 1), some (.bipush 6, 2), none, some (.irem, 1), some (.isub, 1), some (.ireturn, 1), some (.iload_n 0, 1), some (.bipush 6, 2), none, some (.idiv, 1), some (.ireturn, 1), some (.iload_n 0, 1), some (.bipush 6, 2), none, some (.irem, 1), some (.ireturn, 1)]
def ag_mX6_roomFrom : ag_M := (6, 1, false, 2, ag_cX6_roomFrom)
def ag_cX6_ahead : List (Option (Instr × Nat)) := [
  some (.iload_n 2, 1), some (.iload_n 0, 1), some (.iload_n 1, 1), some (.invokestatic 284, 3), none, none, some (.if_icmp .gt 14, 3), none, none, some (.iload_n 0, 1), some (.iload_n 2, 1), some (.iload_n 1, 1), some (.invokestatic 287, 3), none, none, some (.imul, 1), some (.iadd, 1), some (.goto 4, 3), none, none, some (.iconst (-1), 1), some (.ireturn, 1)]
def ag_mX6_ahead : ag_M := (6, 1, false, 3, ag_cX6_ahead)
def ag_cX6_fromEnd : List (Option (Instr × Nat)) := [
  some (.iload_n 1, 1), some (.tableswitch 55 0 2 #[27, 36, 48], 27), none, none, none, none, none, none, none, none, none, none, none, none, none, none, none, none, none, none, none, none, none, none, none, none, none, none, some (.iconst 5, 1), some (.iload_n 2, 1), some (.isub, 1), some (.bipush 6, 2), none, some (.imul, 1), some (.iload_n 0, 1), some (.iadd, 1), some (.ireturn, 1), some (.iload_n 0, 1), some (.bipush 6, 2), none, some (.imul, 1), some (.bipush 6, 2), none, some (.iadd, 1), some (.iconst 1, 1), some (.isub, 1), some (.iload_n 2, 1), some (.isub, 1), some (.ireturn, 1), some (.iload_n 2, 1), some (.bipush 6, 2), none, some (.imul, 1), some (.iload_n 0, 1), some (.iadd, 1), some (.ireturn, 1), some (.iload_n 0, 1), some (.bipush 6, 2), none, some (.imul, 1), some (.iload_n 2, 1), some (.iadd, 1), some (.ireturn, 1)]
def ag_mX6_fromEnd : ag_M := (6, 1, false, 3, ag_cX6_fromEnd)
def ag_cX6_bitsOf : List (Option (Instr × Nat)) := [
  some (.fload_n 0, 1), some (.fconst 0, 1), some (.fcmp .g, 1), some (.ifCond .gt 5, 3), none, none, some (.iconst 0, 1), some (.ireturn, 1), some (.fload_n 0, 1), some (.fstore_n 1, 1), some (.bipush 127, 2), none, some (.istore_n 2, 1), some (.iconst 0, 1), some (.istore_n 3, 1), some (.iload_n 3, 1), some (.sipush 128, 3), none, none, some (.if_icmp .ge 22, 3), none, none, some (.fload_n 1, 1), some (.fconst 2, 1), some (.fcmp .l, 1), some (.ifCond .lt 16, 3), none, none, some (.fload_n 1, 1), some (.fconst 2, 1), some (.fdiv, 1), some (.fstore_n 1, 1), some (.iinc 2 1, 3), none, none, some (.iinc 3 1, 3), none, none, some (.goto (-23), 3), none, none, some (.iconst 0, 1), some (.istore_n 3, 1), some (.iload_n 3, 1), some (.sipush 128, 3), none, none, some (.if_icmp .ge 22, 3), none, none, some (.fload_n 1, 1), some (.fconst 1, 1), some (.fcmp .g, 1), some (.ifCond .ge 16, 3), none, none, some (.fload_n 1, 1), some (.fconst 2, 1), some (.fmul, 1), some (.fstore_n 1, 1), some (.iinc 2 (-1), 3), none, none, some (.iinc 3 1, 3), none, none, some (.goto (-23), 3), none, none, some (.iload_n 2, 1), some (.bipush 23, 2), none, some (.ishl, 1), some (.fload_n 1, 1), some (.fconst 1, 1), some (.fsub, 1), some (.ldc_w 290, 3), none, none, some (.fmul, 1), some (.f2i, 1), some (.iadd, 1), some (.ireturn, 1)]
def ag_mX6_bitsOf : ag_M := (6, 1, false, 4, ag_cX6_bitsOf)
def ag_cX7_init : List (Option (Instr × Nat)) := [
  some (.aload_n 0, 1), some (.invokespecial 1, 3), none, none, some (.aload_n 0, 1), some (.sipush 800, 3), none, none, some (.newarray .int, 2), none, some (.putfield 7, 3), none, none, some (.aload_n 0, 1), some (.sipush 6400, 3), none, none, some (.newarray .int, 2), none, some (.putfield 13, 3), none, none, some (.aload_n 0, 1), some (.sipush 800, 3), none, none, some (.newarray .int, 2), none, some (.putfield 16, 3), none, none, some (.aload_n 0, 1), some (.sipush 800, 3), none, none, some (.newarray .int, 2), none, some (.putfield 19, 3), none, none, some (.aload_n 0, 1), some (.sipush 800, 3), none, none, some (.newarray .int, 2), none, some (.putfield 22, 3), none, none, some (.aload_n 0, 1), some (.bipush (-4), 2), none, some (.putfield 25, 3), none, none, some (.aload_n 0, 1), some (.bipush 70, 2), none, some (.newarray .int, 2), none, some (.putfield 29, 3), none, none, some (.aload_n 0, 1), some (.bipush 6, 2), none, some (.newarray .char, 2), none, some (.putfield 32, 3), none, none, some (.aload_n 0, 1), some (.bipush 64, 2), none, some (.newarray .int, 2), none, some (.putfield 36, 3), none, none, some (.return_, 1)]
def ag_mX7_init : ag_M := (7, 0, true, 1, ag_cX7_init)
def ag_cX7_refuses : List (Option (Instr × Nat)) := [
  some (.aload_n 0, 1), some (.iload_n 1, 1), some (.putfield 39, 3), none, none, some (.aload_n 0, 1), some (.iload_n 2, 1), some (.putfield 42, 3), none, none, some (.aload_n 0, 1), some (.bipush (-4), 2), none, some (.putfield 25, 3), none, none, some (.aload_n 0, 1), some (.iconst 0, 1), some (.putfield 45, 3), none, none, some (.bipush (-3), 2), none, some (.ireturn, 1)]
def ag_mX7_refuses : ag_M := (7, 1, false, 3, ag_cX7_refuses)
def ag_cX7_in : List (Option (Instr × Nat)) := [
  some (.iload_n 0, 1), some (.iload_n 1, 1), some (.if_icmp .lt 12, 3), none, none, some (.iload_n 0, 1), some (.iload_n 2, 1), some (.if_icmp .gt 7, 3), none, none, some (.iconst 1, 1), some (.goto 4, 3), none, none, some (.iconst 0, 1), some (.ireturn, 1)]
def ag_mX7_in : ag_M := (7, 2, false, 3, ag_cX7_in)
def ag_cX7_isSquare : List (Option (Instr × Nat)) := [
  some (.iload_n 0, 1), some (.iconst 0, 1), some (.bipush 35, 2), none, some (.invokestatic 48, 3), none, none, some (.ireturn, 1)]
def ag_mX7_isSquare : ag_M := (7, 2, false, 1, ag_cX7_isSquare)
def ag_cX7_copies : List (Option (Instr × Nat)) := [
  some (.iconst 0, 1), some (.istore 4, 2), none, some (.iload 4, 2), none, some (.sipush 800, 3), none, none, some (.if_icmp .ge 21, 3), none, none, some (.aload_n 2, 1), some (.iload_n 3, 1), some (.iload 4, 2), none, some (.iadd, 1), some (.aload_n 0, 1), some (.iload_n 1, 1), some (.iload 4, 2), none, some (.iadd, 1), some (.iaload, 1), some (.iastore, 1), some (.iinc 4 1, 3), none, none, some (.goto (-23), 3), none, none, some (.return_, 1)]
def ag_mX7_copies : ag_M := (7, 0, false, 5, ag_cX7_copies)
def ag_cX7_keeps : List (Option (Instr × Nat)) := [
  some (.aload_n 0, 1), some (.getfield 52, 3), none, none, some (.ifCond .eq 4, 3), none, none, some (.return_, 1), some (.aload_n 0, 1), some (.getfield 56, 3), none, none, some (.bipush 8, 2), none, some (.if_icmp .ne 44, 3), none, none, some (.iconst 0, 1), some (.istore_n 2, 1), some (.iload_n 2, 1), some (.sipush 5600, 3), none, none, some (.if_icmp .ge 25, 3), none, none, some (.aload_n 0, 1), some (.getfield 13, 3), none, none, some (.iload_n 2, 1), some (.aload_n 0, 1), some (.getfield 13, 3), none, none, some (.iload_n 2, 1), some (.sipush 800, 3), none, none, some (.iadd, 1), some (.iaload, 1), some (.iastore, 1), some (.iinc 2 1, 3), none, none, some (.goto (-26), 3), none, none, some (.aload_n 0, 1), some (.dup, 1), some (.getfield 56, 3), none, none, some (.iconst 1, 1), some (.isub, 1), some (.putfield 56, 3), none, none, some (.aload_n 1, 1), some (.iconst 0, 1), some (.aload_n 0, 1), some (.getfield 13, 3), none, none, some (.sipush 800, 3), none, none, some (.aload_n 0, 1), some (.getfield 56, 3), none, none, some (.imul, 1), some (.invokestatic 59, 3), none, none, some (.aload_n 0, 1), some (.dup, 1), some (.getfield 56, 3), none, none, some (.iconst 1, 1), some (.iadd, 1), some (.putfield 56, 3), none, none, some (.return_, 1)]
def ag_mX7_keeps : ag_M := (7, 0, false, 3, ag_cX7_keeps)
def ag_cX7_pieceAt : List (Option (Instr × Nat)) := [
  some (.aload_n 0, 1), some (.getfield 7, 3), none, none, some (.bipush 31, 2), none, some (.iload_n 1, 1), some (.iadd, 1), some (.iaload, 1), some (.ireturn, 1)]
def ag_mX7_pieceAt : ag_M := (7, 1, false, 2, ag_cX7_pieceAt)
def ag_cX7_sideAt : List (Option (Instr × Nat)) := [
  some (.aload_n 0, 1), some (.iload_n 1, 1), some (.invokevirtual 63, 3), none, none, some (.ifCond .ne 7, 3), none, none, some (.iconst (-1), 1), some (.goto 12, 3), none, none, some (.aload_n 0, 1), some (.iload_n 1, 1), some (.invokevirtual 63, 3), none, none, some (.iconst 1, 1), some (.isub, 1), some (.iconst 2, 1), some (.idiv, 1), some (.ireturn, 1)]
def ag_mX7_sideAt : ag_M := (7, 1, false, 2, ag_cX7_sideAt)
def ag_cX7_kindAt : List (Option (Instr × Nat)) := [
  some (.aload_n 0, 1), some (.iload_n 1, 1), some (.invokevirtual 63, 3), none, none, some (.iconst 1, 1), some (.isub, 1), some (.iconst 2, 1), some (.irem, 1), some (.ireturn, 1)]
def ag_mX7_kindAt : ag_M := (7, 1, false, 2, ag_cX7_kindAt)
def ag_cX7_ofLock : List (Option (Instr × Nat)) := [
  some (.aload_n 0, 1), some (.getfield 7, 3), none, none, some (.bipush 15, 2), none, some (.iconst 4, 1), some (.iload_n 1, 1), some (.imul, 1), some (.iadd, 1), some (.iload_n 2, 1), some (.iadd, 1), some (.iaload, 1), some (.ireturn, 1)]
def ag_mX7_ofLock : ag_M := (7, 1, false, 3, ag_cX7_ofLock)
def ag_cX7_lockAt : List (Option (Instr × Nat)) := [
  some (.iconst 0, 1), some (.istore_n 2, 1), some (.iload_n 2, 1), some (.aload_n 0, 1), some (.getfield 7, 3), none, none, some (.bipush 14, 2), none, some (.iaload, 1), some (.if_icmp .ge 21, 3), none, none, some (.aload_n 0, 1), some (.iload_n 2, 1), some (.iconst 0, 1), some (.invokevirtual 67, 3), none, none, some (.iload_n 1, 1), some (.if_icmp .ne 5, 3), none, none, some (.iload_n 2, 1), some (.ireturn, 1), some (.iinc 2 1, 3), none, none, some (.goto (-26), 3), none, none, some (.iconst (-1), 1), some (.ireturn, 1)]
def ag_mX7_lockAt : ag_M := (7, 1, false, 3, ag_cX7_lockAt)
def ag_cX7_isClosed : List (Option (Instr × Nat)) := [
  some (.aload_n 0, 1), some (.iload_n 1, 1), some (.invokevirtual 71, 3), none, none, some (.ifCond .lt 21, 3), none, none, some (.aload_n 0, 1), some (.aload_n 0, 1), some (.iload_n 1, 1), some (.invokevirtual 71, 3), none, none, some (.iconst 2, 1), some (.invokevirtual 67, 3), none, none, some (.iconst 1, 1), some (.if_icmp .ne 7, 3), none, none, some (.iconst 1, 1), some (.goto 4, 3), none, none, some (.iconst 0, 1), some (.ireturn, 1)]
def ag_mX7_isClosed : ag_M := (7, 2, false, 2, ag_cX7_isClosed)
def ag_cX7_countOf : List (Option (Instr × Nat)) := [
  some (.iconst 0, 1), some (.istore_n 3, 1), some (.iconst 0, 1), some (.istore 4, 2), none, some (.iload 4, 2), none, some (.bipush 36, 2), none, some (.if_icmp .ge 33, 3), none, none, some (.iload_n 3, 1), some (.aload_n 0, 1), some (.iload 4, 2), none, some (.invokevirtual 63, 3), none, none, some (.iconst 2, 1), some (.iload_n 1, 1), some (.imul, 1), some (.iload_n 2, 1), some (.iadd, 1), some (.iconst 1, 1), some (.iadd, 1), some (.if_icmp .ne 7, 3), none, none, some (.iconst 1, 1), some (.goto 4, 3), none, none, some (.iconst 0, 1), some (.iadd, 1), some (.istore_n 3, 1), some (.iinc 4 1, 3), none, none, some (.goto (-34), 3), none, none, some (.iload_n 3, 1), some (.ireturn, 1)]
def ag_mX7_countOf : ag_M := (7, 1, false, 5, ag_cX7_countOf)
def ag_cX7_pieces : List (Option (Instr × Nat)) := [
  some (.aload_n 0, 1), some (.iload_n 1, 1), some (.iconst 0, 1), some (.invokevirtual 74, 3), none, none, some (.aload_n 0, 1), some (.iload_n 1, 1), some (.iconst 1, 1), some (.invokevirtual 74, 3), none, none, some (.iadd, 1), some (.ireturn, 1)]
def ag_mX7_pieces : ag_M := (7, 1, false, 2, ag_cX7_pieces)
def ag_cX7_cannotBuild : List (Option (Instr × Nat)) := [
  some (.aload_n 0, 1), some (.getfield 7, 3), none, none, some (.iconst 3, 1), some (.iaload, 1), some (.iconst 1, 1), some (.if_icmp .ne 18, 3), none, none, some (.aload_n 0, 1), some (.iconst 2, 1), some (.aload_n 0, 1), some (.getfield 7, 3), none, none, some (.iconst 0, 1), some (.iaload, 1), some (.invokevirtual 77, 3), none, none, some (.pop, 1), some (.goto 46, 3), none, none, some (.aload_n 0, 1), some (.iload_n 1, 1), some (.invokevirtual 63, 3), none, none, some (.ifCond .le 13, 3), none, none, some (.aload_n 0, 1), some (.iconst 5, 1), some (.iload_n 1, 1), some (.invokevirtual 77, 3), none, none, some (.pop, 1), some (.goto 28, 3), none, none, some (.aload_n 0, 1), some (.iload_n 1, 1), some (.invokevirtual 71, 3), none, none, some (.ifCond .lt 18, 3), none, none, some (.aload_n 0, 1), some (.bipush 6, 2), none, some (.aload_n 0, 1), some (.iload_n 1, 1), some (.invokevirtual 71, 3), none, none, some (.invokevirtual 77, 3), none, none, some (.pop, 1), some (.goto 5, 3), none, none, some (.iconst 0, 1), some (.ireturn, 1), some (.iconst 1, 1), some (.ireturn, 1)]
def ag_mX7_cannotBuild : ag_M := (7, 2, false, 2, ag_cX7_cannotBuild)
def ag_cX7_put : List (Option (Instr × Nat)) := [
  some (.iload_n 3, 1), some (.invokestatic 80, 3), none, none, some (.ifCond .ne 5, 3), none, none, some (.iconst (-1), 1), some (.ireturn, 1), some (.iload_n 1, 1), some (.iconst 0, 1), some (.iconst 1, 1), some (.invokestatic 48, 3), none, none, some (.ifCond .eq 12, 3), none, none, some (.iload_n 2, 1), some (.iconst 0, 1), some (.iconst 1, 1), some (.invokestatic 48, 3), none, none, some (.ifCond .ne 6, 3), none, none, some (.bipush (-2), 2), none, some (.ireturn, 1), some (.aload_n 0, 1), some (.iload_n 3, 1), some (.invokevirtual 84, 3), none, none, some (.ifCond .eq 6, 3), none, none, some (.bipush (-3), 2), none, some (.ireturn, 1), some (.aload_n 0, 1), some (.getfield 7, 3), none, none, some (.bipush 6, 2), none, some (.iload_n 1, 1), some (.iadd, 1), some (.iaload, 1), some (.bipush 8, 2), none, some (.if_icmp .ne 11, 3), none, none, some (.aload_n 0, 1), some (.iconst 1, 1), some (.bipush 8, 2), none, some (.invokevirtual 77, 3), none, none, some (.ireturn, 1), some (.aload_n 0, 1), some (.aload_n 0, 1), some (.getfield 7, 3), none, none, some (.invokevirtual 87, 3), none, none, some (.aload_n 0, 1), some (.getfield 7, 3), none, none, some (.bipush 31, 2), none, some (.iload_n 3, 1), some (.iadd, 1), some (.iconst 2, 1), some (.iload_n 1, 1), some (.imul, 1), some (.iload_n 2, 1), some (.iadd, 1), some (.iconst 1, 1), some (.iadd, 1), some (.iastore, 1), some (.aload_n 0, 1), some (.getfield 7, 3), none, none, some (.bipush 6, 2), none, some (.iload_n 1, 1), some (.iadd, 1), some (.dup2, 1), some (.iaload, 1), some (.iconst 1, 1), some (.iadd, 1), some (.iastore, 1), some (.aload_n 0, 1), some (.iload_n 1, 1), some (.invokevirtual 91, 3), none, none, some (.ireturn, 1)]
def ag_mX7_put : ag_M := (7, 1, false, 4, ag_cX7_put)
def ag_cX7_lock : List (Option (Instr × Nat)) := [
  some (.iload_n 1, 1), some (.invokestatic 80, 3), none, none, some (.ifCond .ne 5, 3), none, none, some (.iconst (-1), 1), some (.ireturn, 1), some (.iload_n 2, 1), some (.iconst 2, 1), some (.iconst 5, 1), some (.invokestatic 48, 3), none, none, some (.ifCond .ne 6, 3), none, none, some (.bipush (-2), 2), none, some (.ireturn, 1), some (.aload_n 0, 1), some (.iload_n 1, 1), some (.invokevirtual 84, 3), none, none, some (.ifCond .eq 6, 3), none, none, some (.bipush (-3), 2), none, some (.ireturn, 1), some (.aload_n 0, 1), some (.getfield 7, 3), none, none, some (.bipush 14, 2), none, some (.iaload, 1), some (.iconst 4, 1), some (.if_icmp .ne 10, 3), none, none, some (.aload_n 0, 1), some (.iconst 1, 1), some (.iconst 4, 1), some (.invokevirtual 77, 3), none, none, some (.ireturn, 1), some (.aload_n 0, 1), some (.aload_n 0, 1), some (.getfield 7, 3), none, none, some (.invokevirtual 87, 3), none, none, some (.bipush 15, 2), none, some (.iconst 4, 1), some (.aload_n 0, 1), some (.getfield 7, 3), none, none, some (.bipush 14, 2), none, some (.iaload, 1), some (.imul, 1), some (.iadd, 1), some (.istore_n 3, 1), some (.aload_n 0, 1), some (.getfield 7, 3), none, none, some (.iload_n 3, 1), some (.iload_n 1, 1), some (.iastore, 1), some (.aload_n 0, 1), some (.getfield 7, 3), none, none, some (.iload_n 3, 1), some (.iconst 1, 1), some (.iadd, 1), some (.iload_n 2, 1), some (.iastore, 1), some (.aload_n 0, 1), some (.getfield 7, 3), none, none, some (.iload_n 3, 1), some (.iconst 2, 1), some (.iadd, 1), some (.iconst 0, 1), some (.iastore, 1), some (.aload_n 0, 1), some (.getfield 7, 3), none, none, some (.iload_n 3, 1), some (.iconst 3, 1), some (.iadd, 1), some (.iconst 0, 1), some (.iastore, 1), some (.aload_n 0, 1), some (.getfield 7, 3), none, none, some (.bipush 14, 2), none, some (.dup2, 1), some (.iaload, 1), some (.iconst 1, 1), some (.iadd, 1), some (.iastore, 1), some (.aload_n 0, 1), some (.getfield 7, 3), none, none, some (.bipush 14, 2), none, some (.iaload, 1), some (.iconst 1, 1), some (.isub, 1), some (.ireturn, 1)]
def ag_mX7_lock : ag_M := (7, 1, false, 4, ag_cX7_lock)
def ag_cX7_begin : List (Option (Instr × Nat)) := [
  some (.aload_n 0, 1), some (.getfield 7, 3), none, none, some (.iconst 3, 1), some (.iaload, 1), some (.iconst 1, 1), some (.if_icmp .ne 15, 3), none, none, some (.aload_n 0, 1), some (.iconst 2, 1), some (.aload_n 0, 1), some (.getfield 7, 3), none, none, some (.iconst 0, 1), some (.iaload, 1), some (.invokevirtual 77, 3), none, none, some (.ireturn, 1), some (.iconst 0, 1), some (.istore_n 1, 1), some (.iload_n 1, 1), some (.iconst 2, 1), some (.if_icmp .ge 25, 3), none, none, some (.aload_n 0, 1), some (.iload_n 1, 1), some (.invokevirtual 91, 3), none, none, some (.ifCond .ne 11, 3), none, none, some (.aload_n 0, 1), some (.bipush 7, 2), none, some (.iload_n 1, 1), some (.invokevirtual 77, 3), none, none, some (.ireturn, 1), some (.iinc 1 1, 3), none, none, some (.goto (-24), 3), none, none, some (.aload_n 0, 1), some (.aload_n 0, 1), some (.getfield 7, 3), none, none, some (.invokevirtual 87, 3), none, none, some (.aload_n 0, 1), some (.getfield 7, 3), none, none, some (.iconst 3, 1), some (.iconst 1, 1), some (.iastore, 1), some (.aload_n 0, 1), some (.invokevirtual 94, 3), none, none, some (.pop, 1), some (.aload_n 0, 1), some (.invokevirtual 98, 3), none, none, some (.ireturn, 1)]
def ag_mX7_begin : ag_M := (7, 1, false, 2, ag_cX7_begin)
def ag_cX7_beside : List (Option (Instr × Nat)) := [
  some (.iload_n 1, 1), some (.tableswitch 76 0 2 #[27, 44, 60], 27), none, none, none, none, none, none, none, none, none, none, none, none, none, none, none, none, none, none, none, none, none, none, none, none, none, none, some (.iload_n 0, 1), some (.bipush 6, 2), none, some (.idiv, 1), some (.iconst 5, 1), some (.if_icmp .ne 7, 3), none, none, some (.iconst (-1), 1), some (.goto 7, 3), none, none, some (.iload_n 0, 1), some (.bipush 6, 2), none, some (.iadd, 1), some (.ireturn, 1), some (.iload_n 0, 1), some (.bipush 6, 2), none, some (.irem, 1), some (.iconst 5, 1), some (.if_icmp .ne 7, 3), none, none, some (.iconst (-1), 1), some (.goto 6, 3), none, none, some (.iload_n 0, 1), some (.iconst 1, 1), some (.iadd, 1), some (.ireturn, 1), some (.iload_n 0, 1), some (.bipush 6, 2), none, some (.idiv, 1), some (.ifCond .ne 7, 3), none, none, some (.iconst (-1), 1), some (.goto 7, 3), none, none, some (.iload_n 0, 1), some (.bipush 6, 2), none, some (.isub, 1), some (.ireturn, 1), some (.iload_n 0, 1), some (.bipush 6, 2), none, some (.irem, 1), some (.ifCond .ne 7, 3), none, none, some (.iconst (-1), 1), some (.goto 6, 3), none, none, some (.iload_n 0, 1), some (.iconst 1, 1), some (.isub, 1), some (.ireturn, 1)]
def ag_mX7_beside : ag_M := (7, 1, false, 2, ag_cX7_beside)
def ag_cX7_lineFrom : List (Option (Instr × Nat)) := [
  some (.iconst 0, 1), some (.istore_n 3, 1), some (.iload_n 1, 1), some (.iload_n 2, 1), some (.invokestatic 101, 3), none, none, some (.istore 4, 2), none, some (.iload 4, 2), none, some (.ifCond .lt 26, 3), none, none, some (.aload_n 0, 1), some (.iload 4, 2), none, some (.invokevirtual 63, 3), none, none, some (.ifCond .le 17, 3), none, none, some (.iinc 3 1, 3), none, none, some (.iload 4, 2), none, some (.iload_n 2, 1), some (.invokestatic 101, 3), none, none, some (.istore 4, 2), none, some (.goto (-25), 3), none, none, some (.iload_n 3, 1), some (.ireturn, 1)]
def ag_mX7_lineFrom : ag_M := (7, 1, false, 5, ag_cX7_lineFrom)
def ag_cX7_endOf : List (Option (Instr × Nat)) := [
  some (.iload_n 1, 1), some (.iload_n 2, 1), some (.invokestatic 101, 3), none, none, some (.istore_n 3, 1), some (.iload_n 3, 1), some (.ifCond .lt 20, 3), none, none, some (.aload_n 0, 1), some (.iload_n 3, 1), some (.invokevirtual 63, 3), none, none, some (.ifCond .le 12, 3), none, none, some (.iload_n 3, 1), some (.iload_n 2, 1), some (.invokestatic 101, 3), none, none, some (.istore_n 3, 1), some (.goto (-18), 3), none, none, some (.iload_n 3, 1), some (.ireturn, 1)]
def ag_mX7_endOf : ag_M := (7, 1, false, 4, ag_cX7_endOf)
def ag_cX7_goes : List (Option (Instr × Nat)) := [
  some (.aload_n 0, 1), some (.iload_n 1, 1), some (.invokevirtual 104, 3), none, none, some (.iconst 1, 1), some (.if_icmp .eq 20, 3), none, none, some (.iload_n 2, 1), some (.aload_n 0, 1), some (.iload_n 1, 1), some (.invokevirtual 107, 3), none, none, some (.ifCond .ne 7, 3), none, none, some (.iconst 2, 1), some (.goto 4, 3), none, none, some (.iconst 0, 1), some (.if_icmp .eq 7, 3), none, none, some (.iconst 1, 1), some (.goto 4, 3), none, none, some (.iconst 0, 1), some (.ireturn, 1)]
def ag_mX7_goes : ag_M := (7, 2, false, 3, ag_cX7_goes)
def ag_cX7_against : List (Option (Instr × Nat)) := [
  some (.aload_n 0, 1), some (.iload_n 1, 1), some (.iload_n 2, 1), some (.invokevirtual 110, 3), none, none, some (.ifCond .ne 6, 3), none, none, some (.bipush 10, 2), none, some (.ireturn, 1), some (.iload_n 1, 1), some (.iload_n 2, 1), some (.invokestatic 101, 3), none, none, some (.ifCond .ge 6, 3), none, none, some (.bipush 11, 2), none, some (.ireturn, 1), some (.aload_n 0, 1), some (.iload_n 1, 1), some (.iload_n 2, 1), some (.invokevirtual 114, 3), none, none, some (.istore_n 3, 1), some (.iload_n 3, 1), some (.ifCond .lt 14, 3), none, none, some (.aload_n 0, 1), some (.iload_n 3, 1), some (.invokevirtual 117, 3), none, none, some (.ifCond .eq 6, 3), none, none, some (.bipush 12, 2), none, some (.ireturn, 1), some (.aload_n 0, 1), some (.iload_n 1, 1), some (.iload_n 2, 1), some (.invokevirtual 120, 3), none, none, some (.aload_n 0, 1), some (.iload_n 1, 1), some (.invokevirtual 104, 3), none, none, some (.iconst 1, 1), some (.iadd, 1), some (.if_icmp .le 8, 3), none, none, some (.bipush 13, 2), none, some (.goto 4, 3), none, none, some (.iconst 0, 1), some (.ireturn, 1)]
def ag_mX7_against : ag_M := (7, 1, false, 4, ag_cX7_against)
def ag_cX7_againstDetail : List (Option (Instr × Nat)) := [
  some (.aload_n 0, 1), some (.iload_n 1, 1), some (.iload_n 2, 1), some (.invokevirtual 123, 3), none, none, some (.tableswitch 41 10 12 #[26, 32, 34], 26), none, none, none, none, none, none, none, none, none, none, none, none, none, none, none, none, none, none, none, none, none, none, none, none, none, some (.aload_n 0, 1), some (.iload_n 1, 1), some (.invokevirtual 104, 3), none, none, some (.ireturn, 1), some (.iload_n 1, 1), some (.ireturn, 1), some (.aload_n 0, 1), some (.iload_n 1, 1), some (.iload_n 2, 1), some (.invokevirtual 114, 3), none, none, some (.ireturn, 1), some (.aload_n 0, 1), some (.iload_n 1, 1), some (.iload_n 2, 1), some (.invokevirtual 120, 3), none, none, some (.ireturn, 1)]
def ag_mX7_againstDetail : ag_M := (7, 1, false, 3, ag_cX7_againstDetail)
def ag_cX7_shifts : List (Option (Instr × Nat)) := [
  some (.iload_n 1, 1), some (.iload_n 2, 1), some (.invokestatic 101, 3), none, none, some (.istore_n 3, 1), some (.aload_n 0, 1), some (.iload_n 1, 1), some (.invokevirtual 107, 3), none, none, some (.istore 4, 2), none, some (.aload_n 0, 1), some (.iload_n 3, 1), some (.invokevirtual 63, 3), none, none, some (.ifCond .le 11, 3), none, none, some (.aload_n 0, 1), some (.iload_n 3, 1), some (.iload_n 2, 1), some (.iload 4, 2), none, some (.invokevirtual 126, 3), none, none, some (.aload_n 0, 1), some (.getfield 7, 3), none, none, some (.bipush 31, 2), none, some (.iload_n 3, 1), some (.iadd, 1), some (.aload_n 0, 1), some (.iload_n 1, 1), some (.invokevirtual 63, 3), none, none, some (.iastore, 1), some (.aload_n 0, 1), some (.getfield 7, 3), none, none, some (.bipush 31, 2), none, some (.iload_n 1, 1), some (.iadd, 1), some (.iconst 0, 1), some (.iastore, 1), some (.aload_n 0, 1), some (.iload_n 3, 1), some (.invokevirtual 104, 3), none, none, some (.ifCond .ne 47, 3), none, none, some (.iload_n 3, 1), some (.bipush 6, 2), none, some (.idiv, 1), some (.iload 4, 2), none, some (.ifCond .ne 7, 3), none, none, some (.iconst 5, 1), some (.goto 4, 3), none, none, some (.iconst 0, 1), some (.if_icmp .ne 30, 3), none, none, some (.aload_n 0, 1), some (.getfield 7, 3), none, none, some (.bipush 31, 2), none, some (.iload_n 3, 1), some (.iadd, 1), some (.dup2, 1), some (.iaload, 1), some (.iconst 1, 1), some (.iadd, 1), some (.iastore, 1), some (.aload_n 0, 1), some (.getfield 7, 3), none, none, some (.bipush 12, 2), none, some (.iload 4, 2), none, some (.iadd, 1), some (.dup2, 1), some (.iaload, 1), some (.iconst 1, 1), some (.iadd, 1), some (.iastore, 1), some (.return_, 1)]
def ag_mX7_shifts : ag_M := (7, 0, false, 5, ag_cX7_shifts)
def ag_cX7_pushes : List (Option (Instr × Nat)) := [
  some (.iload_n 1, 1), some (.iload_n 2, 1), some (.invokestatic 101, 3), none, none, some (.istore 4, 2), none, some (.iload 4, 2), none, some (.ifCond .lt 20, 3), none, none, some (.aload_n 0, 1), some (.iload 4, 2), none, some (.invokevirtual 63, 3), none, none, some (.ifCond .le 11, 3), none, none, some (.aload_n 0, 1), some (.iload 4, 2), none, some (.iload_n 2, 1), some (.iload_n 3, 1), some (.invokevirtual 126, 3), none, none, some (.aload_n 0, 1), some (.getfield 7, 3), none, none, some (.bipush 10, 2), none, some (.iload_n 3, 1), some (.iadd, 1), some (.dup2, 1), some (.iaload, 1), some (.iconst 1, 1), some (.iadd, 1), some (.iastore, 1), some (.iload 4, 2), none, some (.ifCond .ge 23, 3), none, none, some (.aload_n 0, 1), some (.getfield 7, 3), none, none, some (.bipush 8, 2), none, some (.aload_n 0, 1), some (.iload_n 1, 1), some (.invokevirtual 107, 3), none, none, some (.iadd, 1), some (.dup2, 1), some (.iaload, 1), some (.iconst 1, 1), some (.iadd, 1), some (.iastore, 1), some (.goto 18, 3), none, none, some (.aload_n 0, 1), some (.getfield 7, 3), none, none, some (.bipush 31, 2), none, some (.iload 4, 2), none, some (.iadd, 1), some (.aload_n 0, 1), some (.iload_n 1, 1), some (.invokevirtual 63, 3), none, none, some (.iastore, 1), some (.aload_n 0, 1), some (.getfield 7, 3), none, none, some (.bipush 31, 2), none, some (.iload_n 1, 1), some (.iadd, 1), some (.iconst 0, 1), some (.iastore, 1), some (.return_, 1)]
def ag_mX7_pushes : ag_M := (7, 0, false, 5, ag_cX7_pushes)
def ag_cX7_locksTurn : List (Option (Instr × Nat)) := [
  some (.iconst 0, 1), some (.istore_n 1, 1), some (.iload_n 1, 1), some (.aload_n 0, 1), some (.getfield 7, 3), none, none, some (.bipush 14, 2), none, some (.iaload, 1), some (.if_icmp .ge 79, 3), none, none, some (.aload_n 0, 1), some (.getfield 7, 3), none, none, some (.iconst 0, 1), some (.iaload, 1), some (.aload_n 0, 1), some (.iload_n 1, 1), some (.iconst 1, 1), some (.invokevirtual 67, 3), none, none, some (.irem, 1), some (.ifCond .gt 57, 3), none, none, some (.aload_n 0, 1), some (.aload_n 0, 1), some (.iload_n 1, 1), some (.iconst 0, 1), some (.invokevirtual 67, 3), none, none, some (.invokevirtual 63, 3), none, none, some (.ifCond .le 6, 3), none, none, some (.goto 41, 3), none, none, some (.aload_n 0, 1), some (.getfield 7, 3), none, none, some (.bipush 15, 2), none, some (.iconst 4, 1), some (.iload_n 1, 1), some (.imul, 1), some (.iadd, 1), some (.iconst 2, 1), some (.iadd, 1), some (.iconst 1, 1), some (.aload_n 0, 1), some (.iload_n 1, 1), some (.iconst 2, 1), some (.invokevirtual 67, 3), none, none, some (.isub, 1), some (.iastore, 1), some (.aload_n 0, 1), some (.getfield 7, 3), none, none, some (.bipush 15, 2), none, some (.iconst 4, 1), some (.iload_n 1, 1), some (.imul, 1), some (.iadd, 1), some (.iconst 3, 1), some (.iadd, 1), some (.dup2, 1), some (.iaload, 1), some (.iconst 1, 1), some (.iadd, 1), some (.iastore, 1), some (.iinc 1 1, 3), none, none, some (.goto (-84), 3), none, none, some (.return_, 1)]
def ag_mX7_locksTurn : ag_M := (7, 0, false, 2, ag_cX7_locksTurn)
def ag_cX7_carries : List (Option (Instr × Nat)) := [
  some (.iload_n 1, 1), some (.iload_n 2, 1), some (.invokestatic 101, 3), none, none, some (.istore_n 3, 1), some (.aload_n 0, 1), some (.iload_n 1, 1), some (.invokevirtual 63, 3), none, none, some (.ifCond .eq 23, 3), none, none, some (.iload_n 3, 1), some (.ifCond .lt 19, 3), none, none, some (.aload_n 0, 1), some (.iload_n 3, 1), some (.invokevirtual 63, 3), none, none, some (.ifCond .gt 11, 3), none, none, some (.aload_n 0, 1), some (.iload_n 3, 1), some (.invokevirtual 117, 3), none, none, some (.ifCond .eq 4, 3), none, none, some (.return_, 1), some (.aload_n 0, 1), some (.getfield 7, 3), none, none, some (.bipush 31, 2), none, some (.iload_n 3, 1), some (.iadd, 1), some (.aload_n 0, 1), some (.iload_n 1, 1), some (.invokevirtual 63, 3), none, none, some (.iastore, 1), some (.aload_n 0, 1), some (.getfield 7, 3), none, none, some (.bipush 31, 2), none, some (.iload_n 1, 1), some (.iadd, 1), some (.iconst 0, 1), some (.iastore, 1), some (.aload_n 0, 1), some (.getfield 7, 3), none, none, some (.iconst 5, 1), some (.dup2, 1), some (.iaload, 1), some (.iconst 1, 1), some (.iadd, 1), some (.iastore, 1), some (.return_, 1)]
def ag_mX7_carries : ag_M := (7, 0, false, 4, ag_cX7_carries)
def ag_cX7_tides : List (Option (Instr × Nat)) := [
  some (.aload_n 0, 1), some (.getfield 7, 3), none, none, some (.iconst 2, 1), some (.dup2, 1), some (.iaload, 1), some (.iconst 1, 1), some (.iadd, 1), some (.iastore, 1), some (.aload_n 0, 1), some (.getfield 7, 3), none, none, some (.iconst 2, 1), some (.iaload, 1), some (.iconst 4, 1), some (.irem, 1), some (.istore_n 1, 1), some (.iconst 0, 1), some (.istore_n 2, 1), some (.iload_n 2, 1), some (.bipush 6, 2), none, some (.if_icmp .ge 69, 3), none, none, some (.iload_n 1, 1), some (.iconst 2, 1), some (.irem, 1), some (.iconst 1, 1), some (.if_icmp .ne 62, 3), none, none, some (.iload_n 1, 1), some (.iconst 1, 1), some (.if_icmp .ne 9, 3), none, none, some (.iconst 5, 1), some (.iload_n 2, 1), some (.isub, 1), some (.goto 4, 3), none, none, some (.iload_n 2, 1), some (.istore_n 3, 1), some (.aload_n 0, 1), some (.bipush 6, 2), none, some (.iload_n 3, 1), some (.imul, 1), some (.iconst 2, 1), some (.iadd, 1), some (.iload_n 1, 1), some (.iconst 1, 1), some (.if_icmp .ne 7, 3), none, none, some (.iconst 0, 1), some (.goto 4, 3), none, none, some (.iconst 2, 1), some (.invokevirtual 130, 3), none, none, some (.aload_n 0, 1), some (.bipush 6, 2), none, some (.iload_n 3, 1), some (.imul, 1), some (.iconst 3, 1), some (.iadd, 1), some (.iload_n 1, 1), some (.iconst 1, 1), some (.if_icmp .ne 7, 3), none, none, some (.iconst 0, 1), some (.goto 4, 3), none, none, some (.iconst 2, 1), some (.invokevirtual 130, 3), none, none, some (.iinc 2 1, 3), none, none, some (.goto (-69), 3), none, none, some (.return_, 1)]
def ag_mX7_tides : ag_M := (7, 0, false, 4, ag_cX7_tides)
def ag_cX7_boardPart : List (Option (Instr × Nat)) := [
  some (.iconst 0, 1), some (.istore_n 2, 1), some (.iconst 0, 1), some (.istore_n 3, 1), some (.iload_n 3, 1), some (.bipush 10, 2), none, some (.if_icmp .ge 37, 3), none, none, some (.bipush 10, 2), none, some (.iload_n 1, 1), some (.imul, 1), some (.iload_n 3, 1), some (.iadd, 1), some (.bipush 36, 2), none, some (.if_icmp .ge 26, 3), none, none, some (.iload_n 2, 1), some (.aload_n 0, 1), some (.bipush 10, 2), none, some (.iload_n 1, 1), some (.imul, 1), some (.iload_n 3, 1), some (.iadd, 1), some (.invokevirtual 63, 3), none, none, some (.iconst 3, 1), some (.iload_n 3, 1), some (.imul, 1), some (.ishl, 1), some (.ior, 1), some (.istore_n 2, 1), some (.iinc 3 1, 3), none, none, some (.goto (-37), 3), none, none, some (.iload_n 2, 1), some (.ireturn, 1)]
def ag_mX7_boardPart : ag_M := (7, 1, false, 4, ag_cX7_boardPart)
def ag_cX7_restPart : List (Option (Instr × Nat)) := [
  some (.aload_n 0, 1), some (.getfield 7, 3), none, none, some (.iconst 1, 1), some (.iaload, 1), some (.istore_n 1, 1), some (.iconst 0, 1), some (.istore_n 2, 1), some (.iload_n 2, 1), some (.aload_n 0, 1), some (.getfield 7, 3), none, none, some (.bipush 14, 2), none, some (.iaload, 1), some (.if_icmp .ge 22, 3), none, none, some (.iload_n 1, 1), some (.aload_n 0, 1), some (.iload_n 2, 1), some (.iconst 2, 1), some (.invokevirtual 67, 3), none, none, some (.iconst 1, 1), some (.iload_n 2, 1), some (.iadd, 1), some (.ishl, 1), some (.ior, 1), some (.istore_n 1, 1), some (.iinc 2 1, 3), none, none, some (.goto (-27), 3), none, none, some (.iload_n 1, 1), some (.ireturn, 1)]
def ag_mX7_restPart : ag_M := (7, 1, false, 3, ag_cX7_restPart)
def ag_cX7_position : List (Option (Instr × Nat)) := [
  some (.iconst 0, 1), some (.istore_n 1, 1), some (.iload_n 1, 1), some (.aload_n 0, 1), some (.getfield 7, 3), none, none, some (.bipush 67, 2), none, some (.iaload, 1), some (.if_icmp .ge 87, 3), none, none, some (.bipush 68, 2), none, some (.bipush 6, 2), none, some (.iload_n 1, 1), some (.imul, 1), some (.iadd, 1), some (.istore_n 2, 1), some (.aload_n 0, 1), some (.getfield 7, 3), none, none, some (.iload_n 2, 1), some (.iconst 4, 1), some (.iadd, 1), some (.iaload, 1), some (.aload_n 0, 1), some (.invokevirtual 134, 3), none, none, some (.if_icmp .ne 7, 3), none, none, some (.iconst 1, 1), some (.goto 4, 3), none, none, some (.iconst 0, 1), some (.istore_n 3, 1), some (.iconst 0, 1), some (.istore 4, 2), none, some (.iload 4, 2), none, some (.iconst 4, 1), some (.if_icmp .ge 37, 3), none, none, some (.iload_n 3, 1), some (.ifCond .eq 33, 3), none, none, some (.aload_n 0, 1), some (.getfield 7, 3), none, none, some (.iload_n 2, 1), some (.iload 4, 2), none, some (.iadd, 1), some (.iaload, 1), some (.aload_n 0, 1), some (.iload 4, 2), none, some (.invokevirtual 137, 3), none, none, some (.if_icmp .ne 7, 3), none, none, some (.iconst 1, 1), some (.goto 4, 3), none, none, some (.iconst 0, 1), some (.istore_n 3, 1), some (.iinc 4 1, 3), none, none, some (.goto (-37), 3), none, none, some (.iload_n 3, 1), some (.ifCond .eq 5, 3), none, none, some (.iload_n 1, 1), some (.ireturn, 1), some (.iinc 1 1, 3), none, none, some (.goto (-92), 3), none, none, some (.aload_n 0, 1), some (.getfield 7, 3), none, none, some (.bipush 67, 2), none, some (.iaload, 1), some (.ireturn, 1)]
def ag_mX7_position : ag_M := (7, 1, false, 5, ag_cX7_position)
def ag_cX7_looks : List (Option (Instr × Nat)) := [
  some (.bipush 68, 2), none, some (.bipush 6, 2), none, some (.aload_n 0, 1), some (.invokevirtual 140, 3), none, none, some (.imul, 1), some (.iadd, 1), some (.istore_n 1, 1), some (.aload_n 0, 1), some (.invokevirtual 140, 3), none, none, some (.aload_n 0, 1), some (.getfield 7, 3), none, none, some (.bipush 67, 2), none, some (.iaload, 1), some (.if_icmp .ne 61, 3), none, none, some (.iconst 0, 1), some (.istore_n 2, 1), some (.iload_n 2, 1), some (.iconst 4, 1), some (.if_icmp .ge 22, 3), none, none, some (.aload_n 0, 1), some (.getfield 7, 3), none, none, some (.iload_n 1, 1), some (.iload_n 2, 1), some (.iadd, 1), some (.aload_n 0, 1), some (.iload_n 2, 1), some (.invokevirtual 137, 3), none, none, some (.iastore, 1), some (.iinc 2 1, 3), none, none, some (.goto (-21), 3), none, none, some (.aload_n 0, 1), some (.getfield 7, 3), none, none, some (.iload_n 1, 1), some (.iconst 4, 1), some (.iadd, 1), some (.aload_n 0, 1), some (.invokevirtual 134, 3), none, none, some (.iastore, 1), some (.aload_n 0, 1), some (.getfield 7, 3), none, none, some (.iload_n 1, 1), some (.iconst 5, 1), some (.iadd, 1), some (.iconst 0, 1), some (.iastore, 1), some (.aload_n 0, 1), some (.getfield 7, 3), none, none, some (.bipush 67, 2), none, some (.dup2, 1), some (.iaload, 1), some (.iconst 1, 1), some (.iadd, 1), some (.iastore, 1), some (.aload_n 0, 1), some (.getfield 7, 3), none, none, some (.iload_n 1, 1), some (.iconst 5, 1), some (.iadd, 1), some (.dup2, 1), some (.iaload, 1), some (.iconst 1, 1), some (.iadd, 1), some (.iastore, 1), some (.aload_n 0, 1), some (.iconst 0, 1), some (.invokevirtual 91, 3), none, none, some (.ifCond .eq 11, 3), none, none, some (.aload_n 0, 1), some (.iconst 1, 1), some (.invokevirtual 91, 3), none, none, some (.ifCond .ne 25, 3), none, none, some (.aload_n 0, 1), some (.getfield 7, 3), none, none, some (.iconst 4, 1), some (.aload_n 0, 1), some (.iconst 0, 1), some (.invokevirtual 91, 3), none, none, some (.ifCond .ne 7, 3), none, none, some (.iconst 2, 1), some (.goto 4, 3), none, none, some (.iconst 1, 1), some (.iastore, 1), some (.goto 73, 3), none, none, some (.aload_n 0, 1), some (.getfield 7, 3), none, none, some (.iload_n 1, 1), some (.iconst 5, 1), some (.iadd, 1), some (.iaload, 1), some (.iconst 3, 1), some (.if_icmp .ne 13, 3), none, none, some (.aload_n 0, 1), some (.getfield 7, 3), none, none, some (.iconst 4, 1), some (.iconst 3, 1), some (.iastore, 1), some (.goto 51, 3), none, none, some (.aload_n 0, 1), some (.invokevirtual 98, 3), none, none, some (.ifCond .ne 26, 3), none, none, some (.aload_n 0, 1), some (.getfield 7, 3), none, none, some (.iconst 4, 1), some (.aload_n 0, 1), some (.getfield 7, 3), none, none, some (.iconst 1, 1), some (.iaload, 1), some (.ifCond .ne 7, 3), none, none, some (.iconst 2, 1), some (.goto 4, 3), none, none, some (.iconst 1, 1), some (.iastore, 1), some (.goto 21, 3), none, none, some (.aload_n 0, 1), some (.getfield 7, 3), none, none, some (.iconst 0, 1), some (.iaload, 1), some (.bipush 120, 2), none, some (.if_icmp .ne 10, 3), none, none, some (.aload_n 0, 1), some (.getfield 7, 3), none, none, some (.iconst 4, 1), some (.iconst 3, 1), some (.iastore, 1), some (.aload_n 0, 1), some (.getfield 7, 3), none, none, some (.iload_n 1, 1), some (.iconst 5, 1), some (.iadd, 1), some (.iaload, 1), some (.ireturn, 1)]
def ag_mX7_looks : ag_M := (7, 1, false, 3, ag_cX7_looks)
def ag_cX7_makes : List (Option (Instr × Nat)) := [
  some (.aload_n 0, 1), some (.iload_n 1, 1), some (.iload_n 2, 1), some (.invokevirtual 143, 3), none, none, some (.aload_n 0, 1), some (.getfield 7, 3), none, none, some (.iconst 0, 1), some (.dup2, 1), some (.iaload, 1), some (.iconst 1, 1), some (.iadd, 1), some (.iastore, 1), some (.aload_n 0, 1), some (.getfield 7, 3), none, none, some (.iconst 1, 1), some (.iconst 1, 1), some (.aload_n 0, 1), some (.getfield 7, 3), none, none, some (.iconst 1, 1), some (.iaload, 1), some (.isub, 1), some (.iastore, 1), some (.aload_n 0, 1), some (.invokevirtual 146, 3), none, none, some (.aload_n 0, 1), some (.getfield 7, 3), none, none, some (.iconst 0, 1), some (.iaload, 1), some (.iconst 4, 1), some (.irem, 1), some (.ifCond .ne 7, 3), none, none, some (.aload_n 0, 1), some (.invokevirtual 149, 3), none, none, some (.aload_n 0, 1), some (.invokevirtual 94, 3), none, none, some (.ireturn, 1)]
def ag_mX7_makes : ag_M := (7, 1, false, 3, ag_cX7_makes)
def ag_cX7_move : List (Option (Instr × Nat)) := [
  some (.iload_n 1, 1), some (.invokestatic 80, 3), none, none, some (.ifCond .ne 5, 3), none, none, some (.iconst (-1), 1), some (.ireturn, 1), some (.iload_n 2, 1), some (.iconst 0, 1), some (.iconst 3, 1), some (.invokestatic 48, 3), none, none, some (.ifCond .ne 6, 3), none, none, some (.bipush (-2), 2), none, some (.ireturn, 1), some (.aload_n 0, 1), some (.getfield 7, 3), none, none, some (.iconst 3, 1), some (.iaload, 1), some (.ifCond .ne 10, 3), none, none, some (.aload_n 0, 1), some (.iconst 3, 1), some (.iconst 0, 1), some (.invokevirtual 77, 3), none, none, some (.ireturn, 1), some (.aload_n 0, 1), some (.getfield 7, 3), none, none, some (.iconst 4, 1), some (.iaload, 1), some (.ifCond .le 15, 3), none, none, some (.aload_n 0, 1), some (.iconst 4, 1), some (.aload_n 0, 1), some (.getfield 7, 3), none, none, some (.iconst 4, 1), some (.iaload, 1), some (.invokevirtual 77, 3), none, none, some (.ireturn, 1), some (.aload_n 0, 1), some (.iload_n 1, 1), some (.invokevirtual 107, 3), none, none, some (.aload_n 0, 1), some (.getfield 7, 3), none, none, some (.iconst 1, 1), some (.iaload, 1), some (.if_icmp .eq 16, 3), none, none, some (.aload_n 0, 1), some (.bipush 8, 2), none, some (.aload_n 0, 1), some (.getfield 7, 3), none, none, some (.iconst 1, 1), some (.iaload, 1), some (.invokevirtual 77, 3), none, none, some (.ireturn, 1), some (.aload_n 0, 1), some (.iload_n 1, 1), some (.iload_n 2, 1), some (.invokevirtual 123, 3), none, none, some (.ifCond .le 33, 3), none, none, some (.aload_n 0, 1), some (.bipush 9, 2), none, some (.iload_n 2, 1), some (.invokevirtual 77, 3), none, none, some (.istore_n 3, 1), some (.aload_n 0, 1), some (.aload_n 0, 1), some (.iload_n 1, 1), some (.iload_n 2, 1), some (.invokevirtual 123, 3), none, none, some (.putfield 45, 3), none, none, some (.aload_n 0, 1), some (.aload_n 0, 1), some (.iload_n 1, 1), some (.iload_n 2, 1), some (.invokevirtual 152, 3), none, none, some (.putfield 155, 3), none, none, some (.iload_n 3, 1), some (.ireturn, 1), some (.aload_n 0, 1), some (.aload_n 0, 1), some (.getfield 7, 3), none, none, some (.invokevirtual 87, 3), none, none, some (.aload_n 0, 1), some (.iload_n 1, 1), some (.iload_n 2, 1), some (.invokevirtual 158, 3), none, none, some (.istore_n 3, 1), some (.aload_n 0, 1), some (.getfield 7, 3), none, none, some (.iconst 4, 1), some (.iaload, 1), some (.ifCond .eq 24, 3), none, none, some (.iload_n 3, 1), some (.iconst 3, 1), some (.if_icmp .ne 23, 3), none, none, some (.aload_n 0, 1), some (.iconst 0, 1), some (.invokevirtual 91, 3), none, none, some (.ifCond .le 15, 3), none, none, some (.aload_n 0, 1), some (.iconst 1, 1), some (.invokevirtual 91, 3), none, none, some (.ifCond .le 7, 3), none, none, some (.iload_n 3, 1), some (.goto 4, 3), none, none, some (.iconst 0, 1), some (.ireturn, 1)]
def ag_mX7_move : ag_M := (7, 1, false, 4, ag_cX7_move)
def ag_cX7_squareOf : List (Option (Instr × Nat)) := [
  some (.iload_n 1, 1), some (.invokestatic 80, 3), none, none, some (.ifCond .ne 5, 3), none, none, some (.iconst (-1), 1), some (.ireturn, 1), some (.iload_n 2, 1), some (.tableswitch 80 0 2 #[26, 47, 66], 26), none, none, none, none, none, none, none, none, none, none, none, none, none, none, none, none, none, none, none, none, none, none, none, none, none, some (.aload_n 0, 1), some (.iload_n 1, 1), some (.invokevirtual 63, 3), none, none, some (.ifCond .ne 8, 3), none, none, some (.bipush (-4), 2), none, some (.goto 10, 3), none, none, some (.aload_n 0, 1), some (.iload_n 1, 1), some (.invokevirtual 63, 3), none, none, some (.iconst 1, 1), some (.isub, 1), some (.ireturn, 1), some (.aload_n 0, 1), some (.iload_n 1, 1), some (.invokevirtual 71, 3), none, none, some (.ifCond .ge 8, 3), none, none, some (.bipush (-4), 2), none, some (.goto 8, 3), none, none, some (.aload_n 0, 1), some (.iload_n 1, 1), some (.invokevirtual 71, 3), none, none, some (.ireturn, 1), some (.aload_n 0, 1), some (.iload_n 1, 1), some (.invokevirtual 117, 3), none, none, some (.ifCond .eq 7, 3), none, none, some (.iconst 1, 1), some (.goto 4, 3), none, none, some (.iconst 0, 1), some (.ireturn, 1), some (.bipush (-2), 2), none, some (.ireturn, 1)]
def ag_mX7_squareOf : ag_M := (7, 1, false, 3, ag_cX7_squareOf)
def ag_cX7_lockOf : List (Option (Instr × Nat)) := [
  some (.iload_n 1, 1), some (.iconst 0, 1), some (.aload_n 0, 1), some (.getfield 7, 3), none, none, some (.bipush 14, 2), none, some (.iaload, 1), some (.iconst 1, 1), some (.isub, 1), some (.invokestatic 48, 3), none, none, some (.ifCond .ne 5, 3), none, none, some (.iconst (-1), 1), some (.ireturn, 1), some (.iload_n 2, 1), some (.iconst 0, 1), some (.iconst 3, 1), some (.invokestatic 48, 3), none, none, some (.ifCond .eq 12, 3), none, none, some (.aload_n 0, 1), some (.iload_n 1, 1), some (.iload_n 2, 1), some (.invokevirtual 67, 3), none, none, some (.goto 5, 3), none, none, some (.bipush (-2), 2), none, some (.ireturn, 1)]
def ag_mX7_lockOf : ag_M := (7, 1, false, 3, ag_cX7_lockOf)
def ag_cX7_sideOf : List (Option (Instr × Nat)) := [
  some (.iload_n 1, 1), some (.iconst 0, 1), some (.iconst 1, 1), some (.invokestatic 48, 3), none, none, some (.ifCond .ne 5, 3), none, none, some (.iconst (-1), 1), some (.ireturn, 1), some (.iload_n 2, 1), some (.tableswitch 90 0 5 #[40, 46, 53, 60, 70, 80], 40), none, none, none, none, none, none, none, none, none, none, none, none, none, none, none, none, none, none, none, none, none, none, none, none, none, none, none, none, none, none, none, none, none, none, none, none, none, none, none, some (.aload_n 0, 1), some (.iload_n 1, 1), some (.invokevirtual 91, 3), none, none, some (.ireturn, 1), some (.aload_n 0, 1), some (.iload_n 1, 1), some (.iconst 0, 1), some (.invokevirtual 74, 3), none, none, some (.ireturn, 1), some (.aload_n 0, 1), some (.iload_n 1, 1), some (.iconst 1, 1), some (.invokevirtual 74, 3), none, none, some (.ireturn, 1), some (.aload_n 0, 1), some (.getfield 7, 3), none, none, some (.bipush 8, 2), none, some (.iload_n 1, 1), some (.iadd, 1), some (.iaload, 1), some (.ireturn, 1), some (.aload_n 0, 1), some (.getfield 7, 3), none, none, some (.bipush 10, 2), none, some (.iload_n 1, 1), some (.iadd, 1), some (.iaload, 1), some (.ireturn, 1), some (.aload_n 0, 1), some (.getfield 7, 3), none, none, some (.bipush 12, 2), none, some (.iload_n 1, 1), some (.iadd, 1), some (.iaload, 1), some (.ireturn, 1), some (.bipush (-2), 2), none, some (.ireturn, 1)]
def ag_mX7_sideOf : ag_M := (7, 1, false, 3, ag_cX7_sideOf)
def ag_cX7_goesOn : List (Option (Instr × Nat)) := [
  some (.aload_n 0, 1), some (.getfield 7, 3), none, none, some (.iconst 3, 1), some (.iaload, 1), some (.iconst 1, 1), some (.if_icmp .ne 16, 3), none, none, some (.aload_n 0, 1), some (.getfield 7, 3), none, none, some (.iconst 4, 1), some (.iaload, 1), some (.ifCond .ne 7, 3), none, none, some (.iconst 1, 1), some (.goto 4, 3), none, none, some (.iconst 0, 1), some (.ireturn, 1)]
def ag_mX7_goesOn : ag_M := (7, 2, false, 1, ag_cX7_goesOn)
def ag_cX7_isMove : List (Option (Instr × Nat)) := [
  some (.aload_n 0, 1), some (.invokevirtual 161, 3), none, none, some (.ifCond .eq 30, 3), none, none, some (.aload_n 0, 1), some (.iload_n 1, 1), some (.invokevirtual 107, 3), none, none, some (.aload_n 0, 1), some (.getfield 7, 3), none, none, some (.iconst 1, 1), some (.iaload, 1), some (.if_icmp .ne 16, 3), none, none, some (.aload_n 0, 1), some (.iload_n 1, 1), some (.iload_n 2, 1), some (.invokevirtual 123, 3), none, none, some (.ifCond .ne 7, 3), none, none, some (.iconst 1, 1), some (.goto 4, 3), none, none, some (.iconst 0, 1), some (.ireturn, 1)]
def ag_mX7_isMove : ag_M := (7, 2, false, 3, ag_cX7_isMove)
def ag_cX7_moves : List (Option (Instr × Nat)) := [
  some (.iconst 0, 1), some (.istore_n 1, 1), some (.iconst 0, 1), some (.istore_n 2, 1), some (.iload_n 2, 1), some (.sipush 144, 3), none, none, some (.if_icmp .ge 30, 3), none, none, some (.iload_n 1, 1), some (.aload_n 0, 1), some (.iload_n 2, 1), some (.iconst 4, 1), some (.idiv, 1), some (.iload_n 2, 1), some (.iconst 4, 1), some (.irem, 1), some (.invokevirtual 165, 3), none, none, some (.ifCond .eq 7, 3), none, none, some (.iconst 1, 1), some (.goto 4, 3), none, none, some (.iconst 0, 1), some (.iadd, 1), some (.istore_n 1, 1), some (.iinc 2 1, 3), none, none, some (.goto (-31), 3), none, none, some (.iload_n 1, 1), some (.ireturn, 1)]
def ag_mX7_moves : ag_M := (7, 1, false, 3, ag_cX7_moves)
def ag_cX7_movesAgain : List (Option (Instr × Nat)) := [
  some (.iconst 0, 1), some (.istore_n 1, 1), some (.iconst 0, 1), some (.istore_n 2, 1), some (.iload_n 2, 1), some (.iconst 4, 1), some (.if_icmp .ge 40, 3), none, none, some (.iconst 0, 1), some (.istore_n 3, 1), some (.iload_n 3, 1), some (.bipush 36, 2), none, some (.if_icmp .ge 26, 3), none, none, some (.iload_n 1, 1), some (.aload_n 0, 1), some (.iload_n 3, 1), some (.iload_n 2, 1), some (.invokevirtual 165, 3), none, none, some (.ifCond .eq 7, 3), none, none, some (.iconst 1, 1), some (.goto 4, 3), none, none, some (.iconst 0, 1), some (.iadd, 1), some (.istore_n 1, 1), some (.iinc 3 1, 3), none, none, some (.goto (-26), 3), none, none, some (.iinc 2 1, 3), none, none, some (.goto (-39), 3), none, none, some (.iload_n 1, 1), some (.ireturn, 1)]
def ag_mX7_movesAgain : ag_M := (7, 1, false, 4, ag_cX7_movesAgain)
def ag_cX7_moveAt : List (Option (Instr × Nat)) := [
  some (.iconst 0, 1), some (.istore_n 2, 1), some (.iconst 0, 1), some (.istore_n 3, 1), some (.iload_n 3, 1), some (.sipush 144, 3), none, none, some (.if_icmp .ge 35, 3), none, none, some (.aload_n 0, 1), some (.iload_n 3, 1), some (.iconst 4, 1), some (.idiv, 1), some (.iload_n 3, 1), some (.iconst 4, 1), some (.irem, 1), some (.invokevirtual 165, 3), none, none, some (.ifCond .ne 6, 3), none, none, some (.goto 13, 3), none, none, some (.iload_n 2, 1), some (.iload_n 1, 1), some (.if_icmp .ne 5, 3), none, none, some (.iload_n 3, 1), some (.ireturn, 1), some (.iinc 2 1, 3), none, none, some (.iinc 3 1, 3), none, none, some (.goto (-36), 3), none, none, some (.iconst (-1), 1), some (.ireturn, 1)]
def ag_mX7_moveAt : ag_M := (7, 1, false, 4, ag_cX7_moveAt)
def ag_cX7_repeats : List (Option (Instr × Nat)) := [
  some (.aload_n 0, 1), some (.getfield 7, 3), none, none, some (.iconst 3, 1), some (.iaload, 1), some (.ifCond .ne 7, 3), none, none, some (.iconst 0, 1), some (.goto 20, 3), none, none, some (.aload_n 0, 1), some (.getfield 7, 3), none, none, some (.bipush 68, 2), none, some (.bipush 6, 2), none, some (.aload_n 0, 1), some (.invokevirtual 140, 3), none, none, some (.imul, 1), some (.iadd, 1), some (.iconst 5, 1), some (.iadd, 1), some (.iaload, 1), some (.ireturn, 1)]
def ag_mX7_repeats : ag_M := (7, 1, false, 1, ag_cX7_repeats)
def ag_cX7_mostRepeats : List (Option (Instr × Nat)) := [
  some (.iconst 0, 1), some (.istore_n 1, 1), some (.iconst 0, 1), some (.istore_n 2, 1), some (.iload_n 2, 1), some (.aload_n 0, 1), some (.getfield 7, 3), none, none, some (.bipush 67, 2), none, some (.iaload, 1), some (.if_icmp .ge 46, 3), none, none, some (.aload_n 0, 1), some (.getfield 7, 3), none, none, some (.bipush 68, 2), none, some (.bipush 6, 2), none, some (.iload_n 2, 1), some (.imul, 1), some (.iadd, 1), some (.iconst 5, 1), some (.iadd, 1), some (.iaload, 1), some (.iload_n 1, 1), some (.if_icmp .le 20, 3), none, none, some (.aload_n 0, 1), some (.getfield 7, 3), none, none, some (.bipush 68, 2), none, some (.bipush 6, 2), none, some (.iload_n 2, 1), some (.imul, 1), some (.iadd, 1), some (.iconst 5, 1), some (.iadd, 1), some (.iaload, 1), some (.goto 4, 3), none, none, some (.iload_n 1, 1), some (.istore_n 1, 1), some (.iinc 2 1, 3), none, none, some (.goto (-51), 3), none, none, some (.iload_n 1, 1), some (.ireturn, 1)]
def ag_mX7_mostRepeats : ag_M := (7, 1, false, 3, ag_cX7_mostRepeats)
def ag_cX7_wouldPush : List (Option (Instr × Nat)) := [
  some (.iload_n 1, 1), some (.invokestatic 80, 3), none, none, some (.ifCond .ne 5, 3), none, none, some (.iconst (-1), 1), some (.ireturn, 1), some (.iload_n 2, 1), some (.iconst 0, 1), some (.iconst 3, 1), some (.invokestatic 48, 3), none, none, some (.ifCond .ne 6, 3), none, none, some (.bipush (-2), 2), none, some (.ireturn, 1), some (.aload_n 0, 1), some (.iload_n 1, 1), some (.invokevirtual 63, 3), none, none, some (.ifCond .eq 12, 3), none, none, some (.aload_n 0, 1), some (.iload_n 1, 1), some (.iload_n 2, 1), some (.invokevirtual 123, 3), none, none, some (.ifCond .le 8, 3), none, none, some (.bipush (-4), 2), none, some (.goto 9, 3), none, none, some (.aload_n 0, 1), some (.iload_n 1, 1), some (.iload_n 2, 1), some (.invokevirtual 120, 3), none, none, some (.ireturn, 1)]
def ag_mX7_wouldPush : ag_M := (7, 1, false, 3, ag_cX7_wouldPush)
def ag_cX7_isTake : List (Option (Instr × Nat)) := [
  some (.aload_n 0, 1), some (.iload_n 1, 1), some (.iload_n 2, 1), some (.invokevirtual 120, 3), none, none, some (.istore_n 3, 1), some (.iload_n 3, 1), some (.ifCond .eq 12, 3), none, none, some (.aload_n 0, 1), some (.iload_n 1, 1), some (.iload_n 2, 1), some (.invokevirtual 114, 3), none, none, some (.ifCond .lt 5, 3), none, none, some (.iconst 0, 1), some (.ireturn, 1), some (.iload_n 1, 1), some (.istore 4, 2), none, some (.iconst 0, 1), some (.istore 5, 2), none, some (.iload 5, 2), none, some (.iload_n 3, 1), some (.if_icmp .ge 17, 3), none, none, some (.iload 4, 2), none, some (.iload_n 2, 1), some (.invokestatic 101, 3), none, none, some (.istore 4, 2), none, some (.iinc 5 1, 3), none, none, some (.goto (-17), 3), none, none, some (.aload_n 0, 1), some (.iload 4, 2), none, some (.invokevirtual 107, 3), none, none, some (.aload_n 0, 1), some (.getfield 7, 3), none, none, some (.iconst 1, 1), some (.iaload, 1), some (.if_icmp .eq 7, 3), none, none, some (.iconst 1, 1), some (.goto 4, 3), none, none, some (.iconst 0, 1), some (.ireturn, 1)]
def ag_mX7_isTake : ag_M := (7, 2, false, 6, ag_cX7_isTake)
def ag_cX7_firstTake : List (Option (Instr × Nat)) := [
  some (.iconst 0, 1), some (.istore_n 1, 1), some (.iload_n 1, 1), some (.sipush 144, 3), none, none, some (.if_icmp .ge 37, 3), none, none, some (.aload_n 0, 1), some (.iload_n 1, 1), some (.iconst 4, 1), some (.idiv, 1), some (.iload_n 1, 1), some (.iconst 4, 1), some (.irem, 1), some (.invokevirtual 165, 3), none, none, some (.ifCond .eq 18, 3), none, none, some (.aload_n 0, 1), some (.iload_n 1, 1), some (.iconst 4, 1), some (.idiv, 1), some (.iload_n 1, 1), some (.iconst 4, 1), some (.irem, 1), some (.invokevirtual 168, 3), none, none, some (.ifCond .eq 5, 3), none, none, some (.iload_n 1, 1), some (.ireturn, 1), some (.iinc 1 1, 3), none, none, some (.goto (-38), 3), none, none, some (.bipush (-4), 2), none, some (.ireturn, 1)]
def ag_mX7_firstTake : ag_M := (7, 1, false, 2, ag_cX7_firstTake)
def ag_cX7_ways : List (Option (Instr × Nat)) := [
  some (.iload_n 1, 1), some (.iconst 1, 1), some (.iconst 2, 1), some (.invokestatic 48, 3), none, none, some (.ifCond .ne 6, 3), none, none, some (.bipush (-2), 2), none, some (.ireturn, 1), some (.iload_n 1, 1), some (.iconst 1, 1), some (.if_icmp .ne 8, 3), none, none, some (.aload_n 0, 1), some (.invokevirtual 98, 3), none, none, some (.ireturn, 1), some (.iconst 0, 1), some (.istore_n 2, 1), some (.iconst 0, 1), some (.istore_n 3, 1), some (.iload_n 3, 1), some (.sipush 144, 3), none, none, some (.if_icmp .ge 79, 3), none, none, some (.aload_n 0, 1), some (.iload_n 3, 1), some (.iconst 4, 1), some (.idiv, 1), some (.iload_n 3, 1), some (.iconst 4, 1), some (.irem, 1), some (.invokevirtual 165, 3), none, none, some (.ifCond .ne 6, 3), none, none, some (.goto 57, 3), none, none, some (.aload_n 0, 1), some (.getfield 7, 3), none, none, some (.iconst 0, 1), some (.aload_n 0, 1), some (.getfield 22, 3), none, none, some (.iconst 0, 1), some (.invokestatic 59, 3), none, none, some (.aload_n 0, 1), some (.iload_n 3, 1), some (.iconst 4, 1), some (.idiv, 1), some (.iload_n 3, 1), some (.iconst 4, 1), some (.irem, 1), some (.invokevirtual 158, 3), none, none, some (.istore 4, 2), none, some (.iload_n 2, 1), some (.iload 4, 2), none, some (.ifCond .le 10, 3), none, none, some (.aload_n 0, 1), some (.invokevirtual 98, 3), none, none, some (.goto 4, 3), none, none, some (.iconst 0, 1), some (.iadd, 1), some (.istore_n 2, 1), some (.aload_n 0, 1), some (.getfield 22, 3), none, none, some (.iconst 0, 1), some (.aload_n 0, 1), some (.getfield 7, 3), none, none, some (.iconst 0, 1), some (.invokestatic 59, 3), none, none, some (.iinc 3 1, 3), none, none, some (.goto (-80), 3), none, none, some (.iload_n 2, 1), some (.ireturn, 1)]
def ag_mX7_ways : ag_M := (7, 1, false, 5, ag_cX7_ways)
def ag_cX7_turnsIn : List (Option (Instr × Nat)) := [
  some (.iload_n 1, 1), some (.iconst 0, 1), some (.aload_n 0, 1), some (.getfield 7, 3), none, none, some (.bipush 14, 2), none, some (.iaload, 1), some (.iconst 1, 1), some (.isub, 1), some (.invokestatic 48, 3), none, none, some (.ifCond .eq 26, 3), none, none, some (.aload_n 0, 1), some (.iload_n 1, 1), some (.iconst 1, 1), some (.invokevirtual 67, 3), none, none, some (.aload_n 0, 1), some (.getfield 7, 3), none, none, some (.iconst 0, 1), some (.iaload, 1), some (.aload_n 0, 1), some (.iload_n 1, 1), some (.iconst 1, 1), some (.invokevirtual 67, 3), none, none, some (.irem, 1), some (.isub, 1), some (.goto 4, 3), none, none, some (.iconst (-1), 1), some (.ireturn, 1)]
def ag_mX7_turnsIn : ag_M := (7, 1, false, 2, ag_cX7_turnsIn)
def ag_cX7_tideIn : List (Option (Instr × Nat)) := [
  some (.iload_n 1, 1), some (.iconst 0, 1), some (.iconst 3, 1), some (.invokestatic 48, 3), none, none, some (.ifCond .ne 5, 3), none, none, some (.iconst (-1), 1), some (.ireturn, 1), some (.aload_n 0, 1), some (.getfield 7, 3), none, none, some (.iconst 2, 1), some (.iaload, 1), some (.istore_n 2, 1), some (.iconst 0, 1), some (.istore_n 3, 1), some (.iinc 3 1, 3), none, none, some (.iload_n 2, 1), some (.aload_n 0, 1), some (.getfield 7, 3), none, none, some (.iconst 0, 1), some (.iaload, 1), some (.iload_n 3, 1), some (.iadd, 1), some (.iconst 4, 1), some (.irem, 1), some (.ifCond .ne 7, 3), none, none, some (.iconst 1, 1), some (.goto 4, 3), none, none, some (.iconst 0, 1), some (.iadd, 1), some (.istore_n 2, 1), some (.aload_n 0, 1), some (.getfield 7, 3), none, none, some (.iconst 0, 1), some (.iaload, 1), some (.iload_n 3, 1), some (.iadd, 1), some (.iconst 4, 1), some (.irem, 1), some (.ifCond .gt (-34), 3), none, none, some (.iload_n 2, 1), some (.iconst 4, 1), some (.irem, 1), some (.iload_n 1, 1), some (.if_icmp .ne (-41), 3), none, none, some (.iload_n 3, 1), some (.ireturn, 1)]
def ag_mX7_tideIn : ag_M := (7, 1, false, 4, ag_cX7_tideIn)
def ag_cX7_describe : List (Option (Instr × Nat)) := [
  some (.iload_n 1, 1), some (.iconst 0, 1), some (.iconst 5, 1), some (.invokestatic 48, 3), none, none, some (.ifCond .ne 5, 3), none, none, some (.iconst (-1), 1), some (.ireturn, 1), some (.aload_n 0, 1), some (.bipush 6, 2), none, some (.putfield 171, 3), none, none, some (.iconst 0, 1), some (.istore_n 2, 1), some (.iload_n 2, 1), some (.bipush 6, 2), none, some (.if_icmp .ge 73, 3), none, none, some (.bipush 6, 2), none, some (.iload_n 1, 1), some (.imul, 1), some (.iload_n 2, 1), some (.iadd, 1), some (.istore_n 3, 1), some (.aload_n 0, 1), some (.getfield 32, 3), none, none, some (.iload_n 2, 1), some (.aload_n 0, 1), some (.iload_n 3, 1), some (.invokevirtual 63, 3), none, none, some (.ifCond .le 18, 3), none, none, some (.ldc 174, 2), none, some (.aload_n 0, 1), some (.iload_n 3, 1), some (.invokevirtual 63, 3), none, none, some (.iconst 1, 1), some (.isub, 1), some (.invokevirtual 176, 3), none, none, some (.goto 31, 3), none, none, some (.aload_n 0, 1), some (.iload_n 3, 1), some (.invokevirtual 71, 3), none, none, some (.ifCond .ge 8, 3), none, none, some (.bipush 46, 2), none, some (.goto 18, 3), none, none, some (.aload_n 0, 1), some (.iload_n 3, 1), some (.invokevirtual 117, 3), none, none, some (.ifCond .eq 8, 3), none, none, some (.bipush 35, 2), none, some (.goto 5, 3), none, none, some (.bipush 61, 2), none, some (.castore, 1), some (.iinc 2 1, 3), none, none, some (.goto (-73), 3), none, none, some (.aload_n 0, 1), some (.getfield 171, 3), none, none, some (.ireturn, 1)]
def ag_mX7_describe : ag_M := (7, 1, false, 4, ag_cX7_describe)
def ag_cX7_sign : List (Option (Instr × Nat)) := [
  some (.iload_n 1, 1), some (.iconst 0, 1), some (.aload_n 0, 1), some (.getfield 171, 3), none, none, some (.iconst 1, 1), some (.isub, 1), some (.invokestatic 48, 3), none, none, some (.ifCond .eq 12, 3), none, none, some (.aload_n 0, 1), some (.getfield 32, 3), none, none, some (.iload_n 1, 1), some (.caload, 1), some (.goto 4, 3), none, none, some (.iconst (-1), 1), some (.ireturn, 1)]
def ag_mX7_sign : ag_M := (7, 1, false, 2, ag_cX7_sign)
def ag_cX7_append : List (Option (Instr × Nat)) := [
  some (.iload_n 1, 1), some (.bipush 32, 2), none, some (.bipush 126, 2), none, some (.invokestatic 48, 3), none, none, some (.ifCond .eq 12, 3), none, none, some (.aload_n 0, 1), some (.getfield 182, 3), none, none, some (.bipush 70, 2), none, some (.if_icmp .ne 6, 3), none, none, some (.bipush (-2), 2), none, some (.ireturn, 1), some (.aload_n 0, 1), some (.getfield 29, 3), none, none, some (.aload_n 0, 1), some (.getfield 182, 3), none, none, some (.iload_n 1, 1), some (.iastore, 1), some (.aload_n 0, 1), some (.dup, 1), some (.getfield 182, 3), none, none, some (.iconst 1, 1), some (.iadd, 1), some (.putfield 182, 3), none, none, some (.aload_n 0, 1), some (.getfield 182, 3), none, none, some (.ireturn, 1)]
def ag_mX7_append : ag_M := (7, 1, false, 2, ag_cX7_append)
def ag_cX7_here : List (Option (Instr × Nat)) := [
  some (.aload_n 0, 1), some (.getfield 185, 3), none, none, some (.aload_n 0, 1), some (.getfield 182, 3), none, none, some (.if_icmp .ge 15, 3), none, none, some (.aload_n 0, 1), some (.getfield 29, 3), none, none, some (.aload_n 0, 1), some (.getfield 185, 3), none, none, some (.iaload, 1), some (.goto 4, 3), none, none, some (.iconst (-1), 1), some (.ireturn, 1)]
def ag_mX7_here : ag_M := (7, 1, false, 1, ag_cX7_here)
def ag_cX7_moveHere : List (Option (Instr × Nat)) := [
  some (.iconst 2, 1), some (.aload_n 0, 1), some (.getfield 188, 3), none, none, some (.imul, 1), some (.istore_n 1, 1), some (.aload_n 0, 1), some (.getfield 185, 3), none, none, some (.istore_n 2, 1), some (.aload_n 0, 1), some (.getfield 36, 3), none, none, some (.iload_n 1, 1), some (.iconst 0, 1), some (.iastore, 1), some (.aload_n 0, 1), some (.getfield 185, 3), none, none, some (.iload_n 2, 1), some (.iconst 2, 1), some (.iadd, 1), some (.if_icmp .ge 53, 3), none, none, some (.aload_n 0, 1), some (.invokevirtual 191, 3), none, none, some (.bipush 48, 2), none, some (.bipush 57, 2), none, some (.invokestatic 48, 3), none, none, some (.ifCond .eq 39, 3), none, none, some (.aload_n 0, 1), some (.getfield 36, 3), none, none, some (.iload_n 1, 1), some (.bipush 10, 2), none, some (.aload_n 0, 1), some (.getfield 36, 3), none, none, some (.iload_n 1, 1), some (.iaload, 1), some (.imul, 1), some (.aload_n 0, 1), some (.invokevirtual 191, 3), none, none, some (.iadd, 1), some (.bipush 48, 2), none, some (.isub, 1), some (.iastore, 1), some (.aload_n 0, 1), some (.dup, 1), some (.getfield 185, 3), none, none, some (.iconst 1, 1), some (.iadd, 1), some (.putfield 185, 3), none, none, some (.goto (-57), 3), none, none, some (.aload_n 0, 1), some (.getfield 185, 3), none, none, some (.iload_n 2, 1), some (.if_icmp .ne 5, 3), none, none, some (.iconst 0, 1), some (.ireturn, 1), some (.iconst 0, 1), some (.istore_n 3, 1), some (.iload_n 3, 1), some (.iconst 4, 1), some (.if_icmp .ge 46, 3), none, none, some (.aload_n 0, 1), some (.invokevirtual 191, 3), none, none, some (.ldc 194, 2), none, some (.iload_n 3, 1), some (.invokevirtual 176, 3), none, none, some (.if_icmp .eq 6, 3), none, none, some (.goto 24, 3), none, none, some (.aload_n 0, 1), some (.getfield 36, 3), none, none, some (.iload_n 1, 1), some (.iconst 1, 1), some (.iadd, 1), some (.iload_n 3, 1), some (.iastore, 1), some (.aload_n 0, 1), some (.dup, 1), some (.getfield 185, 3), none, none, some (.iconst 1, 1), some (.iadd, 1), some (.putfield 185, 3), none, none, some (.iconst 1, 1), some (.ireturn, 1), some (.iinc 3 1, 3), none, none, some (.goto (-45), 3), none, none, some (.iconst 0, 1), some (.ireturn, 1)]
def ag_mX7_moveHere : ag_M := (7, 2, false, 4, ag_cX7_moveHere)
def ag_cX7_isText : List (Option (Instr × Nat)) := [
  some (.aload_n 0, 1), some (.iconst 0, 1), some (.putfield 185, 3), none, none, some (.aload_n 0, 1), some (.iconst 0, 1), some (.putfield 188, 3), none, none, some (.aload_n 0, 1), some (.invokevirtual 196, 3), none, none, some (.ifCond .eq 52, 3), none, none, some (.aload_n 0, 1), some (.dup, 1), some (.getfield 188, 3), none, none, some (.iconst 1, 1), some (.iadd, 1), some (.putfield 188, 3), none, none, some (.aload_n 0, 1), some (.invokevirtual 191, 3), none, none, some (.bipush 59, 2), none, some (.if_icmp .eq 20, 3), none, none, some (.aload_n 0, 1), some (.getfield 185, 3), none, none, some (.aload_n 0, 1), some (.getfield 182, 3), none, none, some (.if_icmp .ne 7, 3), none, none, some (.iconst 1, 1), some (.goto 4, 3), none, none, some (.iconst 0, 1), some (.ireturn, 1), some (.aload_n 0, 1), some (.dup, 1), some (.getfield 185, 3), none, none, some (.iconst 1, 1), some (.iadd, 1), some (.putfield 185, 3), none, none, some (.goto (-53), 3), none, none, some (.iconst 0, 1), some (.ireturn, 1)]
def ag_mX7_isText : ag_M := (7, 2, false, 1, ag_cX7_isText)
def ag_cX7_read : List (Option (Instr × Nat)) := [
  some (.aload_n 0, 1), some (.invokevirtual 199, 3), none, none, some (.istore_n 1, 1), some (.aload_n 0, 1), some (.iconst 0, 1), some (.putfield 182, 3), none, none, some (.iload_n 1, 1), some (.ifCond .ne 11, 3), none, none, some (.bipush (-100), 2), none, some (.aload_n 0, 1), some (.getfield 185, 3), none, none, some (.isub, 1), some (.ireturn, 1), some (.aload_n 0, 1), some (.getfield 7, 3), none, none, some (.iconst 0, 1), some (.aload_n 0, 1), some (.getfield 19, 3), none, none, some (.iconst 0, 1), some (.invokestatic 59, 3), none, none, some (.aload_n 0, 1), some (.iconst 1, 1), some (.putfield 52, 3), none, none, some (.iconst 0, 1), some (.istore_n 2, 1), some (.iconst 0, 1), some (.istore_n 3, 1), some (.iload_n 2, 1), some (.aload_n 0, 1), some (.getfield 188, 3), none, none, some (.if_icmp .ge 36, 3), none, none, some (.iload_n 3, 1), some (.ifCond .lt 32, 3), none, none, some (.aload_n 0, 1), some (.aload_n 0, 1), some (.getfield 36, 3), none, none, some (.iconst 2, 1), some (.iload_n 2, 1), some (.imul, 1), some (.iaload, 1), some (.aload_n 0, 1), some (.getfield 36, 3), none, none, some (.iconst 2, 1), some (.iload_n 2, 1), some (.imul, 1), some (.iconst 1, 1), some (.iadd, 1), some (.iaload, 1), some (.invokevirtual 202, 3), none, none, some (.istore_n 3, 1), some (.iinc 2 1, 3), none, none, some (.goto (-38), 3), none, none, some (.aload_n 0, 1), some (.iconst 0, 1), some (.putfield 52, 3), none, none, some (.iload_n 3, 1), some (.ifCond .lt 16, 3), none, none, some (.aload_n 0, 1), some (.aload_n 0, 1), some (.getfield 19, 3), none, none, some (.invokevirtual 87, 3), none, none, some (.aload_n 0, 1), some (.getfield 188, 3), none, none, some (.ireturn, 1), some (.aload_n 0, 1), some (.getfield 19, 3), none, none, some (.iconst 0, 1), some (.aload_n 0, 1), some (.getfield 7, 3), none, none, some (.iconst 0, 1), some (.invokestatic 59, 3), none, none, some (.iload_n 3, 1), some (.bipush (-3), 2), none, some (.if_icmp .eq 6, 3), none, none, some (.bipush (-2), 2), none, some (.ireturn, 1), some (.aload_n 0, 1), some (.iload_n 2, 1), some (.iconst 1, 1), some (.isub, 1), some (.putfield 25, 3), none, none, some (.bipush (-3), 2), none, some (.ireturn, 1)]
def ag_mX7_read : ag_M := (7, 1, false, 4, ag_cX7_read)
def ag_cX7_refusal : List (Option (Instr × Nat)) := [
  some (.iload_n 1, 1), some (.iconst 0, 1), some (.iconst 4, 1), some (.invokestatic 48, 3), none, none, some (.ifCond .ne 6, 3), none, none, some (.bipush (-2), 2), none, some (.ireturn, 1), some (.aload_n 0, 1), some (.getfield 39, 3), none, none, some (.ifCond .eq 15, 3), none, none, some (.iload_n 1, 1), some (.iconst 2, 1), some (.if_icmp .le 13, 3), none, none, some (.aload_n 0, 1), some (.getfield 45, 3), none, none, some (.ifCond .ne 6, 3), none, none, some (.bipush (-4), 2), none, some (.ireturn, 1), some (.iload_n 1, 1), some (.tableswitch 49 0 3 #[29, 34, 39, 44], 29), none, none, none, none, none, none, none, none, none, none, none, none, none, none, none, none, none, none, none, none, none, none, none, none, none, none, none, none, some (.aload_n 0, 1), some (.getfield 39, 3), none, none, some (.ireturn, 1), some (.aload_n 0, 1), some (.getfield 42, 3), none, none, some (.ireturn, 1), some (.aload_n 0, 1), some (.getfield 25, 3), none, none, some (.ireturn, 1), some (.aload_n 0, 1), some (.getfield 45, 3), none, none, some (.ireturn, 1), some (.aload_n 0, 1), some (.getfield 155, 3), none, none, some (.ireturn, 1)]
def ag_mX7_refusal : ag_M := (7, 1, false, 2, ag_cX7_refusal)
def ag_cX7_closedMany : List (Option (Instr × Nat)) := [
  some (.iconst 0, 1), some (.istore_n 1, 1), some (.iconst 0, 1), some (.istore_n 2, 1), some (.iload_n 2, 1), some (.aload_n 0, 1), some (.getfield 7, 3), none, none, some (.bipush 14, 2), none, some (.iaload, 1), some (.if_icmp .ge 18, 3), none, none, some (.iload_n 1, 1), some (.aload_n 0, 1), some (.iload_n 2, 1), some (.iconst 2, 1), some (.invokevirtual 67, 3), none, none, some (.iadd, 1), some (.istore_n 1, 1), some (.iinc 2 1, 3), none, none, some (.goto (-23), 3), none, none, some (.iload_n 1, 1), some (.ireturn, 1)]
def ag_mX7_closedMany : ag_M := (7, 1, false, 3, ag_cX7_closedMany)
def ag_cX7_turnedAll : List (Option (Instr × Nat)) := [
  some (.iconst 0, 1), some (.istore_n 1, 1), some (.iconst 0, 1), some (.istore_n 2, 1), some (.iload_n 2, 1), some (.aload_n 0, 1), some (.getfield 7, 3), none, none, some (.bipush 14, 2), none, some (.iaload, 1), some (.if_icmp .ge 18, 3), none, none, some (.iload_n 1, 1), some (.aload_n 0, 1), some (.iload_n 2, 1), some (.iconst 3, 1), some (.invokevirtual 67, 3), none, none, some (.iadd, 1), some (.istore_n 1, 1), some (.iinc 2 1, 3), none, none, some (.goto (-23), 3), none, none, some (.iload_n 1, 1), some (.ireturn, 1)]
def ag_mX7_turnedAll : ag_M := (7, 1, false, 3, ag_cX7_turnedAll)
def ag_cX7_account : List (Option (Instr × Nat)) := [
  some (.iload_n 1, 1), some (.tableswitch 230 0 16 #[83, 90, 97, 104, 113, 120, 127, 139, 147, 152, 168, 184, 200, 207, 212, 220, 225], 83), none, none, none, none, none, none, none, none, none, none, none, none, none, none, none, none, none, none, none, none, none, none, none, none, none, none, none, none, none, none, none, none, none, none, none, none, none, none, none, none, none, none, none, none, none, none, none, none, none, none, none, none, none, none, none, none, none, none, none, none, none, none, none, none, none, none, none, none, none, none, none, none, none, none, none, none, none, none, none, none, none, none, some (.aload_n 0, 1), some (.getfield 7, 3), none, none, some (.iconst 0, 1), some (.iaload, 1), some (.ireturn, 1), some (.aload_n 0, 1), some (.getfield 7, 3), none, none, some (.iconst 1, 1), some (.iaload, 1), some (.ireturn, 1), some (.aload_n 0, 1), some (.getfield 7, 3), none, none, some (.iconst 2, 1), some (.iaload, 1), some (.ireturn, 1), some (.aload_n 0, 1), some (.getfield 7, 3), none, none, some (.iconst 2, 1), some (.iaload, 1), some (.iconst 4, 1), some (.irem, 1), some (.ireturn, 1), some (.aload_n 0, 1), some (.getfield 7, 3), none, none, some (.iconst 3, 1), some (.iaload, 1), some (.ireturn, 1), some (.aload_n 0, 1), some (.getfield 7, 3), none, none, some (.iconst 4, 1), some (.iaload, 1), some (.ireturn, 1), some (.aload_n 0, 1), some (.iconst 0, 1), some (.invokevirtual 91, 3), none, none, some (.aload_n 0, 1), some (.iconst 1, 1), some (.invokevirtual 91, 3), none, none, some (.iadd, 1), some (.ireturn, 1), some (.aload_n 0, 1), some (.getfield 7, 3), none, none, some (.bipush 14, 2), none, some (.iaload, 1), some (.ireturn, 1), some (.aload_n 0, 1), some (.invokevirtual 205, 3), none, none, some (.ireturn, 1), some (.aload_n 0, 1), some (.getfield 7, 3), none, none, some (.bipush 8, 2), none, some (.iaload, 1), some (.aload_n 0, 1), some (.getfield 7, 3), none, none, some (.bipush 9, 2), none, some (.iaload, 1), some (.iadd, 1), some (.ireturn, 1), some (.aload_n 0, 1), some (.getfield 7, 3), none, none, some (.bipush 10, 2), none, some (.iaload, 1), some (.aload_n 0, 1), some (.getfield 7, 3), none, none, some (.bipush 11, 2), none, some (.iaload, 1), some (.iadd, 1), some (.ireturn, 1), some (.aload_n 0, 1), some (.getfield 7, 3), none, none, some (.bipush 12, 2), none, some (.iaload, 1), some (.aload_n 0, 1), some (.getfield 7, 3), none, none, some (.bipush 13, 2), none, some (.iaload, 1), some (.iadd, 1), some (.ireturn, 1), some (.aload_n 0, 1), some (.getfield 7, 3), none, none, some (.iconst 5, 1), some (.iaload, 1), some (.ireturn, 1), some (.aload_n 0, 1), some (.invokevirtual 208, 3), none, none, some (.ireturn, 1), some (.aload_n 0, 1), some (.getfield 7, 3), none, none, some (.bipush 67, 2), none, some (.iaload, 1), some (.ireturn, 1), some (.aload_n 0, 1), some (.getfield 182, 3), none, none, some (.ireturn, 1), some (.aload_n 0, 1), some (.getfield 56, 3), none, none, some (.ireturn, 1), some (.bipush (-2), 2), none, some (.ireturn, 1)]
def ag_mX7_account : ag_M := (7, 1, false, 2, ag_cX7_account)
def ag_cX7_mean : List (Option (Instr × Nat)) := [
  some (.iconst 0, 1), some (.istore_n 1, 1), some (.aload_n 0, 1), some (.iconst 0, 1), some (.invokevirtual 91, 3), none, none, some (.aload_n 0, 1), some (.iconst 1, 1), some (.invokevirtual 91, 3), none, none, some (.iadd, 1), some (.istore_n 2, 1), some (.iload_n 2, 1), some (.ifCond .ne 6, 3), none, none, some (.bipush (-4), 2), none, some (.ireturn, 1), some (.iconst 0, 1), some (.istore_n 3, 1), some (.iload_n 3, 1), some (.bipush 36, 2), none, some (.if_icmp .ge 28, 3), none, none, some (.iload_n 1, 1), some (.aload_n 0, 1), some (.iload_n 3, 1), some (.invokevirtual 63, 3), none, none, some (.ifCond .le 10, 3), none, none, some (.iload_n 3, 1), some (.bipush 6, 2), none, some (.idiv, 1), some (.goto 4, 3), none, none, some (.iconst 0, 1), some (.iadd, 1), some (.istore_n 1, 1), some (.iinc 3 1, 3), none, none, some (.goto (-28), 3), none, none, some (.iload_n 1, 1), some (.i2f, 1), some (.iload_n 2, 1), some (.i2f, 1), some (.fdiv, 1), some (.invokestatic 211, 3), none, none, some (.ireturn, 1)]
def ag_mX7_mean : ag_M := (7, 1, false, 4, ag_cX7_mean)
def ag_cX7_undo : List (Option (Instr × Nat)) := [
  some (.aload_n 0, 1), some (.getfield 56, 3), none, none, some (.ifCond .ne 6, 3), none, none, some (.bipush (-4), 2), none, some (.ireturn, 1), some (.aload_n 0, 1), some (.dup, 1), some (.getfield 56, 3), none, none, some (.iconst 1, 1), some (.isub, 1), some (.putfield 56, 3), none, none, some (.aload_n 0, 1), some (.getfield 13, 3), none, none, some (.sipush 800, 3), none, none, some (.aload_n 0, 1), some (.getfield 56, 3), none, none, some (.imul, 1), some (.aload_n 0, 1), some (.getfield 7, 3), none, none, some (.iconst 0, 1), some (.invokestatic 59, 3), none, none, some (.aload_n 0, 1), some (.getfield 56, 3), none, none, some (.ireturn, 1)]
def ag_mX7_undo : ag_M := (7, 1, false, 1, ag_cX7_undo)
def ag_cX7_save : List (Option (Instr × Nat)) := [
  some (.aload_n 0, 1), some (.iconst 1, 1), some (.putfield 217, 3), none, none, some (.aload_n 0, 1), some (.getfield 7, 3), none, none, some (.iconst 0, 1), some (.aload_n 0, 1), some (.getfield 16, 3), none, none, some (.iconst 0, 1), some (.invokestatic 59, 3), none, none, some (.aload_n 0, 1), some (.getfield 7, 3), none, none, some (.iconst 0, 1), some (.iaload, 1), some (.ireturn, 1)]
def ag_mX7_save : ag_M := (7, 1, false, 1, ag_cX7_save)
def ag_cX7_restore : List (Option (Instr × Nat)) := [
  some (.aload_n 0, 1), some (.getfield 217, 3), none, none, some (.ifCond .ne 6, 3), none, none, some (.bipush (-4), 2), none, some (.ireturn, 1), some (.aload_n 0, 1), some (.getfield 16, 3), none, none, some (.iconst 0, 1), some (.aload_n 0, 1), some (.getfield 7, 3), none, none, some (.iconst 0, 1), some (.invokestatic 59, 3), none, none, some (.aload_n 0, 1), some (.iconst 0, 1), some (.putfield 56, 3), none, none, some (.aload_n 0, 1), some (.getfield 7, 3), none, none, some (.iconst 0, 1), some (.iaload, 1), some (.ireturn, 1)]
def ag_mX7_restore : ag_M := (7, 1, false, 1, ag_cX7_restore)
def ag_cL_law : List (Option (Instr × Nat)) := [
  some (.new 7, 3), none, none, some (.dup, 1), some (.invokespecial 9, 3), none, none, some (.astore_n 1, 1), some (.new 10, 3), none, none, some (.dup, 1), some (.invokespecial 12, 3), none, none, some (.astore_n 2, 1), some (.iconst 0, 1), some (.istore_n 3, 1), some (.iload_n 3, 1), some (.aload_n 0, 1), some (.arraylength, 1), some (.iconst 4, 1), some (.isub, 1), some (.if_icmp .gt 730, 3), none, none, some (.aload_n 0, 1), some (.iload_n 3, 1), some (.iaload, 1), some (.bipush 31, 2), none, some (.iand, 1), some (.tableswitch 715 0 26 #[124, 167, 200, 213, 246, 279, 312, 345, 358, 371, 394, 407, 420, 453, 466, 489, 512, 535, 558, 581, 604, 617, 640, 663, 676, 689, 702], 124), none, none, none, none, none, none, none, none, none, none, none, none, none, none, none, none, none, none, none, none, none, none, none, none, none, none, none, none, none, none, none, none, none, none, none, none, none, none, none, none, none, none, none, none, none, none, none, none, none, none, none, none, none, none, none, none, none, none, none, none, none, none, none, none, none, none, none, none, none, none, none, none, none, none, none, none, none, none, none, none, none, none, none, none, none, none, none, none, none, none, none, none, none, none, none, none, none, none, none, none, none, none, none, none, none, none, none, none, none, none, none, none, none, none, none, none, none, none, none, none, none, none, none, some (.aload_n 1, 1), some (.aload_n 0, 1), some (.iload_n 3, 1), some (.iconst 1, 1), some (.iadd, 1), some (.iaload, 1), some (.aload_n 0, 1), some (.iload_n 3, 1), some (.iconst 2, 1), some (.iadd, 1), some (.iaload, 1), some (.aload_n 0, 1), some (.iload_n 3, 1), some (.iconst 3, 1), some (.iadd, 1), some (.iaload, 1), some (.invokevirtual 13, 3), none, none, some (.aload_n 2, 1), some (.aload_n 0, 1), some (.iload_n 3, 1), some (.iconst 1, 1), some (.iadd, 1), some (.iaload, 1), some (.aload_n 0, 1), some (.iload_n 3, 1), some (.iconst 2, 1), some (.iadd, 1), some (.iaload, 1), some (.aload_n 0, 1), some (.iload_n 3, 1), some (.iconst 3, 1), some (.iadd, 1), some (.iaload, 1), some (.invokevirtual 17, 3), none, none, some (.if_icmp .eq 553, 3), none, none, some (.iconst 0, 1), some (.ireturn, 1), some (.aload_n 1, 1), some (.aload_n 0, 1), some (.iload_n 3, 1), some (.iconst 1, 1), some (.iadd, 1), some (.iaload, 1), some (.aload_n 0, 1), some (.iload_n 3, 1), some (.iconst 2, 1), some (.iadd, 1), some (.iaload, 1), some (.invokevirtual 18, 3), none, none, some (.aload_n 2, 1), some (.aload_n 0, 1), some (.iload_n 3, 1), some (.iconst 1, 1), some (.iadd, 1), some (.iaload, 1), some (.aload_n 0, 1), some (.iload_n 3, 1), some (.iconst 2, 1), some (.iadd, 1), some (.iaload, 1), some (.invokevirtual 22, 3), none, none, some (.if_icmp .eq 520, 3), none, none, some (.iconst 0, 1), some (.ireturn, 1), some (.aload_n 1, 1), some (.invokevirtual 23, 3), none, none, some (.aload_n 2, 1), some (.invokevirtual 27, 3), none, none, some (.if_icmp .eq 507, 3), none, none, some (.iconst 0, 1), some (.ireturn, 1), some (.aload_n 1, 1), some (.aload_n 0, 1), some (.iload_n 3, 1), some (.iconst 1, 1), some (.iadd, 1), some (.iaload, 1), some (.aload_n 0, 1), some (.iload_n 3, 1), some (.iconst 2, 1), some (.iadd, 1), some (.iaload, 1), some (.invokevirtual 28, 3), none, none, some (.aload_n 2, 1), some (.aload_n 0, 1), some (.iload_n 3, 1), some (.iconst 1, 1), some (.iadd, 1), some (.iaload, 1), some (.aload_n 0, 1), some (.iload_n 3, 1), some (.iconst 2, 1), some (.iadd, 1), some (.iaload, 1), some (.invokevirtual 31, 3), none, none, some (.if_icmp .eq 474, 3), none, none, some (.iconst 0, 1), some (.ireturn, 1), some (.aload_n 1, 1), some (.aload_n 0, 1), some (.iload_n 3, 1), some (.iconst 1, 1), some (.iadd, 1), some (.iaload, 1), some (.aload_n 0, 1), some (.iload_n 3, 1), some (.iconst 2, 1), some (.iadd, 1), some (.iaload, 1), some (.invokevirtual 32, 3), none, none, some (.aload_n 2, 1), some (.aload_n 0, 1), some (.iload_n 3, 1), some (.iconst 1, 1), some (.iadd, 1), some (.iaload, 1), some (.aload_n 0, 1), some (.iload_n 3, 1), some (.iconst 2, 1), some (.iadd, 1), some (.iaload, 1), some (.invokevirtual 35, 3), none, none, some (.if_icmp .eq 441, 3), none, none, some (.iconst 0, 1), some (.ireturn, 1), some (.aload_n 1, 1), some (.aload_n 0, 1), some (.iload_n 3, 1), some (.iconst 1, 1), some (.iadd, 1), some (.iaload, 1), some (.aload_n 0, 1), some (.iload_n 3, 1), some (.iconst 2, 1), some (.iadd, 1), some (.iaload, 1), some (.invokevirtual 36, 3), none, none, some (.aload_n 2, 1), some (.aload_n 0, 1), some (.iload_n 3, 1), some (.iconst 1, 1), some (.iadd, 1), some (.iaload, 1), some (.aload_n 0, 1), some (.iload_n 3, 1), some (.iconst 2, 1), some (.iadd, 1), some (.iaload, 1), some (.invokevirtual 39, 3), none, none, some (.if_icmp .eq 408, 3), none, none, some (.iconst 0, 1), some (.ireturn, 1), some (.aload_n 1, 1), some (.aload_n 0, 1), some (.iload_n 3, 1), some (.iconst 1, 1), some (.iadd, 1), some (.iaload, 1), some (.aload_n 0, 1), some (.iload_n 3, 1), some (.iconst 2, 1), some (.iadd, 1), some (.iaload, 1), some (.invokevirtual 40, 3), none, none, some (.aload_n 2, 1), some (.aload_n 0, 1), some (.iload_n 3, 1), some (.iconst 1, 1), some (.iadd, 1), some (.iaload, 1), some (.aload_n 0, 1), some (.iload_n 3, 1), some (.iconst 2, 1), some (.iadd, 1), some (.iaload, 1), some (.invokevirtual 43, 3), none, none, some (.if_icmp .eq 375, 3), none, none, some (.iconst 0, 1), some (.ireturn, 1), some (.aload_n 1, 1), some (.invokevirtual 44, 3), none, none, some (.aload_n 2, 1), some (.invokevirtual 47, 3), none, none, some (.if_icmp .eq 362, 3), none, none, some (.iconst 0, 1), some (.ireturn, 1), some (.aload_n 1, 1), some (.invokevirtual 48, 3), none, none, some (.aload_n 2, 1), some (.invokevirtual 51, 3), none, none, some (.if_icmp .eq 349, 3), none, none, some (.iconst 0, 1), some (.ireturn, 1), some (.aload_n 1, 1), some (.aload_n 0, 1), some (.iload_n 3, 1), some (.iconst 1, 1), some (.iadd, 1), some (.iaload, 1), some (.invokevirtual 52, 3), none, none, some (.aload_n 2, 1), some (.aload_n 0, 1), some (.iload_n 3, 1), some (.iconst 1, 1), some (.iadd, 1), some (.iaload, 1), some (.invokevirtual 56, 3), none, none, some (.if_icmp .eq 326, 3), none, none, some (.iconst 0, 1), some (.ireturn, 1), some (.aload_n 1, 1), some (.invokevirtual 57, 3), none, none, some (.aload_n 2, 1), some (.invokevirtual 60, 3), none, none, some (.if_icmp .eq 313, 3), none, none, some (.iconst 0, 1), some (.ireturn, 1), some (.aload_n 1, 1), some (.invokevirtual 61, 3), none, none, some (.aload_n 2, 1), some (.invokevirtual 64, 3), none, none, some (.if_icmp .eq 300, 3), none, none, some (.iconst 0, 1), some (.ireturn, 1), some (.aload_n 1, 1), some (.aload_n 0, 1), some (.iload_n 3, 1), some (.iconst 1, 1), some (.iadd, 1), some (.iaload, 1), some (.aload_n 0, 1), some (.iload_n 3, 1), some (.iconst 2, 1), some (.iadd, 1), some (.iaload, 1), some (.invokevirtual 65, 3), none, none, some (.aload_n 2, 1), some (.aload_n 0, 1), some (.iload_n 3, 1), some (.iconst 1, 1), some (.iadd, 1), some (.iaload, 1), some (.aload_n 0, 1), some (.iload_n 3, 1), some (.iconst 2, 1), some (.iadd, 1), some (.iaload, 1), some (.invokevirtual 68, 3), none, none, some (.if_icmp .eq 267, 3), none, none, some (.iconst 0, 1), some (.ireturn, 1), some (.aload_n 1, 1), some (.invokevirtual 69, 3), none, none, some (.aload_n 2, 1), some (.invokevirtual 72, 3), none, none, some (.if_icmp .eq 254, 3), none, none, some (.iconst 0, 1), some (.ireturn, 1), some (.aload_n 1, 1), some (.aload_n 0, 1), some (.iload_n 3, 1), some (.iconst 1, 1), some (.iadd, 1), some (.iaload, 1), some (.invokevirtual 73, 3), none, none, some (.aload_n 2, 1), some (.aload_n 0, 1), some (.iload_n 3, 1), some (.iconst 1, 1), some (.iadd, 1), some (.iaload, 1), some (.invokevirtual 76, 3), none, none, some (.if_icmp .eq 231, 3), none, none, some (.iconst 0, 1), some (.ireturn, 1), some (.aload_n 1, 1), some (.aload_n 0, 1), some (.iload_n 3, 1), some (.iconst 1, 1), some (.iadd, 1), some (.iaload, 1), some (.invokevirtual 77, 3), none, none, some (.aload_n 2, 1), some (.aload_n 0, 1), some (.iload_n 3, 1), some (.iconst 1, 1), some (.iadd, 1), some (.iaload, 1), some (.invokevirtual 80, 3), none, none, some (.if_icmp .eq 208, 3), none, none, some (.iconst 0, 1), some (.ireturn, 1), some (.aload_n 1, 1), some (.aload_n 0, 1), some (.iload_n 3, 1), some (.iconst 1, 1), some (.iadd, 1), some (.iaload, 1), some (.invokevirtual 81, 3), none, none, some (.aload_n 2, 1), some (.aload_n 0, 1), some (.iload_n 3, 1), some (.iconst 1, 1), some (.iadd, 1), some (.iaload, 1), some (.invokevirtual 84, 3), none, none, some (.if_icmp .eq 185, 3), none, none, some (.iconst 0, 1), some (.ireturn, 1), some (.aload_n 1, 1), some (.aload_n 0, 1), some (.iload_n 3, 1), some (.iconst 1, 1), some (.iadd, 1), some (.iaload, 1), some (.invokevirtual 85, 3), none, none, some (.aload_n 2, 1), some (.aload_n 0, 1), some (.iload_n 3, 1), some (.iconst 1, 1), some (.iadd, 1), some (.iaload, 1), some (.invokevirtual 88, 3), none, none, some (.if_icmp .eq 162, 3), none, none, some (.iconst 0, 1), some (.ireturn, 1), some (.aload_n 1, 1), some (.aload_n 0, 1), some (.iload_n 3, 1), some (.iconst 1, 1), some (.iadd, 1), some (.iaload, 1), some (.invokevirtual 89, 3), none, none, some (.aload_n 2, 1), some (.aload_n 0, 1), some (.iload_n 3, 1), some (.iconst 1, 1), some (.iadd, 1), some (.iaload, 1), some (.invokevirtual 92, 3), none, none, some (.if_icmp .eq 139, 3), none, none, some (.iconst 0, 1), some (.ireturn, 1), some (.aload_n 1, 1), some (.aload_n 0, 1), some (.iload_n 3, 1), some (.iconst 1, 1), some (.iadd, 1), some (.iaload, 1), some (.invokevirtual 93, 3), none, none, some (.aload_n 2, 1), some (.aload_n 0, 1), some (.iload_n 3, 1), some (.iconst 1, 1), some (.iadd, 1), some (.iaload, 1), some (.invokevirtual 96, 3), none, none, some (.if_icmp .eq 116, 3), none, none, some (.iconst 0, 1), some (.ireturn, 1), some (.aload_n 1, 1), some (.invokevirtual 97, 3), none, none, some (.aload_n 2, 1), some (.invokevirtual 100, 3), none, none, some (.if_icmp .eq 103, 3), none, none, some (.iconst 0, 1), some (.ireturn, 1), some (.aload_n 1, 1), some (.aload_n 0, 1), some (.iload_n 3, 1), some (.iconst 1, 1), some (.iadd, 1), some (.iaload, 1), some (.invokevirtual 101, 3), none, none, some (.aload_n 2, 1), some (.aload_n 0, 1), some (.iload_n 3, 1), some (.iconst 1, 1), some (.iadd, 1), some (.iaload, 1), some (.invokevirtual 104, 3), none, none, some (.if_icmp .eq 80, 3), none, none, some (.iconst 0, 1), some (.ireturn, 1), some (.aload_n 1, 1), some (.aload_n 0, 1), some (.iload_n 3, 1), some (.iconst 1, 1), some (.iadd, 1), some (.iaload, 1), some (.invokevirtual 105, 3), none, none, some (.aload_n 2, 1), some (.aload_n 0, 1), some (.iload_n 3, 1), some (.iconst 1, 1), some (.iadd, 1), some (.iaload, 1), some (.invokevirtual 108, 3), none, none, some (.if_icmp .eq 57, 3), none, none, some (.iconst 0, 1), some (.ireturn, 1), some (.aload_n 1, 1), some (.invokevirtual 109, 3), none, none, some (.aload_n 2, 1), some (.invokevirtual 112, 3), none, none, some (.if_icmp .eq 44, 3), none, none, some (.iconst 0, 1), some (.ireturn, 1), some (.aload_n 1, 1), some (.invokevirtual 113, 3), none, none, some (.aload_n 2, 1), some (.invokevirtual 116, 3), none, none, some (.if_icmp .eq 31, 3), none, none, some (.iconst 0, 1), some (.ireturn, 1), some (.aload_n 1, 1), some (.invokevirtual 117, 3), none, none, some (.aload_n 2, 1), some (.invokevirtual 120, 3), none, none, some (.if_icmp .eq 18, 3), none, none, some (.iconst 0, 1), some (.ireturn, 1), some (.aload_n 1, 1), some (.invokevirtual 121, 3), none, none, some (.aload_n 2, 1), some (.invokevirtual 124, 3), none, none, some (.if_icmp .eq 5, 3), none, none, some (.iconst 0, 1), some (.ireturn, 1), some (.iinc 3 4, 3), none, none, some (.goto (-732), 3), none, none, some (.iconst 1, 1), some (.ireturn, 1)]
def ag_mL_law : ag_M := (8, 2, false, 4, ag_cL_law)
def ag_Ms : List ag_M := [ag_mX0_init, ag_mX0_copyBoard, ag_mX0_pieceAt, ag_mX0_setPiece, ag_mX0_countOf, ag_mX0_tugsOf, ag_mX0_hasLock, ag_mX0_lockAt, ag_mX0_isClosed, ag_mX0_buildLock, ag_mX0_turnLocks, ag_mX0_closedLocks, ag_mX0_allLockTurns, ag_mX0_standing, ag_mX0_causeAgainst, ag_mX0_causeDetail, ag_mX0_pushedOff, ag_mX0_countMoves, ag_mX0_movesInLane, ag_mX0_promote, ag_mX0_shift, ag_mX0_carryRiver, ag_mX0_drift, ag_mX0_signOf, ag_mX0_halfKey, ag_mX0_closedKey, ag_mX1_init, ag_mX1_copyFrom, ag_mX1_sideToMove, ag_mX1_tide, ag_mX1_goesOn, ag_mX1_openMoves, ag_mX1_allows, ag_mX1_startPlay, ag_mX1_carryOut, ag_mX1_carryByTide, ag_mX1_recordPosition, ag_mX1_settleEnding, ag_mX2_init, ag_mX2_copyHistory, ag_mX2_addPosition, ag_mX2_timesOfLatest, ag_mX2_timesUpTo, ag_mX2_mostTimes, ag_mX2_different, ag_mX3_init, ag_mX3_addCharacter, ag_mX3_clear, ag_mX3_parse, ag_mX3_addMove, ag_mX3_directionOf, ag_mX4_init, ag_mX4_gameAt, ag_mX4_keep, ag_mX4_bringBack, ag_mX4_forget, ag_mX5_init, ag_mX5_note, ag_mX5_noteCause, ag_mX6_init, ag_mX6_put, ag_mX6_lock, ag_mX6_begin, ag_mX6_move, ag_mX6_squareOf, ag_mX6_lockOf, ag_mX6_sideOf, ag_mX6_moves, ag_mX6_movesAgain, ag_mX6_moveAt, ag_mX6_repeats, ag_mX6_mostRepeats, ag_mX6_wouldPush, ag_mX6_firstTake, ag_mX6_ways, ag_mX6_turnsIn, ag_mX6_tideIn, ag_mX6_describe, ag_mX6_sign, ag_mX6_append, ag_mX6_read, ag_mX6_refusal, ag_mX6_account, ag_mX6_mean, ag_mX6_undo, ag_mX6_save, ag_mX6_restore, ag_mX6_refuse, ag_mX6_buildingError, ag_mX6_moveError, ag_mX6_isSquare, ag_mX6_isSide, ag_mX6_isDirection, ag_mX6_orNothing, ag_mX6_otherSide, ag_mX6_ownerOf, ag_mX6_isTug, ag_mX6_goes, ag_mX6_strengthOf, ag_mX6_lastRowOf, ag_mX6_stepOf, ag_mX6_roomFrom, ag_mX6_ahead, ag_mX6_fromEnd, ag_mX6_bitsOf, ag_mX7_init, ag_mX7_refuses, ag_mX7_in, ag_mX7_isSquare, ag_mX7_copies, ag_mX7_keeps, ag_mX7_pieceAt, ag_mX7_sideAt, ag_mX7_kindAt, ag_mX7_ofLock, ag_mX7_lockAt, ag_mX7_isClosed, ag_mX7_countOf, ag_mX7_pieces, ag_mX7_cannotBuild, ag_mX7_put, ag_mX7_lock, ag_mX7_begin, ag_mX7_beside, ag_mX7_lineFrom, ag_mX7_endOf, ag_mX7_goes, ag_mX7_against, ag_mX7_againstDetail, ag_mX7_shifts, ag_mX7_pushes, ag_mX7_locksTurn, ag_mX7_carries, ag_mX7_tides, ag_mX7_boardPart, ag_mX7_restPart, ag_mX7_position, ag_mX7_looks, ag_mX7_makes, ag_mX7_move, ag_mX7_squareOf, ag_mX7_lockOf, ag_mX7_sideOf, ag_mX7_goesOn, ag_mX7_isMove, ag_mX7_moves, ag_mX7_movesAgain, ag_mX7_moveAt, ag_mX7_repeats, ag_mX7_mostRepeats, ag_mX7_wouldPush, ag_mX7_isTake, ag_mX7_firstTake, ag_mX7_ways, ag_mX7_turnsIn, ag_mX7_tideIn, ag_mX7_describe, ag_mX7_sign, ag_mX7_append, ag_mX7_here, ag_mX7_moveHere, ag_mX7_isText, ag_mX7_read, ag_mX7_refusal, ag_mX7_closedMany, ag_mX7_turnedAll, ag_mX7_account, ag_mX7_mean, ag_mX7_undo, ag_mX7_save, ag_mX7_restore]
end
section
-- ===== PART A: goes FIRST, ahead of the names: the tables' words, and 'selects' of the private methods out of them =====
/-- a private method of a class that the tables say can be made, by its rows of tables_1 -/
def lw_okq (q : MethodName × Nat) : Prop := (q.1.cls ≠ "java/lang/invoke/MethodHandle" ∧ q.1.cls ≠ "java/lang/invoke/VarHandle") ∧ Cond.instantiable q.1.cls q.2 ∈ tables_1 ∧ Cond.privateMethod q.1 ∈ tables_1 ∧ Cond.instanceMethod q.1 ∈ tables_1
theorem lw_p0 : lw_okq (⟨"BargeChess$Board", "countOf", "(I)I"⟩, 6) := ⟨⟨by decide +kernel, by decide +kernel⟩, List.mem_of_getElem? (i := 30) (by decide +kernel), List.mem_of_getElem? (i := 227) (by decide +kernel), List.mem_of_getElem? (i := 228) (by decide +kernel)⟩
theorem lw_p1 : lw_okq (⟨"BargeChess", "buildingError", "(III)I"⟩, 9) := ⟨⟨by decide +kernel, by decide +kernel⟩, List.mem_of_getElem? (i := 16) (by decide +kernel), List.mem_of_getElem? (i := 234) (by decide +kernel), List.mem_of_getElem? (i := 235) (by decide +kernel)⟩
theorem lw_p2 : lw_okq (⟨"BargeChess", "refuse", "(III)I"⟩, 9) := ⟨⟨by decide +kernel, by decide +kernel⟩, List.mem_of_getElem? (i := 16) (by decide +kernel), List.mem_of_getElem? (i := 238) (by decide +kernel), List.mem_of_getElem? (i := 239) (by decide +kernel)⟩
theorem lw_p3 : lw_okq (⟨"BargeChess$Refusal", "note", "(III)V"⟩, 5) := ⟨⟨by decide +kernel, by decide +kernel⟩, List.mem_of_getElem? (i := 162) (by decide +kernel), List.mem_of_getElem? (i := 242) (by decide +kernel), List.mem_of_getElem? (i := 243) (by decide +kernel)⟩
theorem lw_p4 : lw_okq (⟨"BargeChess$Refusal", "noteCause", "(II)V"⟩, 5) := ⟨⟨by decide +kernel, by decide +kernel⟩, List.mem_of_getElem? (i := 162) (by decide +kernel), List.mem_of_getElem? (i := 246) (by decide +kernel), List.mem_of_getElem? (i := 247) (by decide +kernel)⟩
theorem lw_p5 : lw_okq (⟨"BargeChess$Board", "pieceAt", "(I)I"⟩, 6) := ⟨⟨by decide +kernel, by decide +kernel⟩, List.mem_of_getElem? (i := 30) (by decide +kernel), List.mem_of_getElem? (i := 250) (by decide +kernel), List.mem_of_getElem? (i := 251) (by decide +kernel)⟩
theorem lw_p6 : lw_okq (⟨"BargeChess$Board", "lockAt", "(I)I"⟩, 6) := ⟨⟨by decide +kernel, by decide +kernel⟩, List.mem_of_getElem? (i := 30) (by decide +kernel), List.mem_of_getElem? (i := 254) (by decide +kernel), List.mem_of_getElem? (i := 255) (by decide +kernel)⟩
theorem lw_p7 : lw_okq (⟨"BargeChess$Past", "keep", "(LBargeChess$Game;)V"⟩, 3) := ⟨⟨by decide +kernel, by decide +kernel⟩, List.mem_of_getElem? (i := 116) (by decide +kernel), List.mem_of_getElem? (i := 258) (by decide +kernel), List.mem_of_getElem? (i := 259) (by decide +kernel)⟩
theorem lw_p8 : lw_okq (⟨"BargeChess$Past", "gameAt", "(I)LBargeChess$Game;"⟩, 3) := ⟨⟨by decide +kernel, by decide +kernel⟩, List.mem_of_getElem? (i := 116) (by decide +kernel), List.mem_of_getElem? (i := 262) (by decide +kernel), List.mem_of_getElem? (i := 263) (by decide +kernel)⟩
theorem lw_p9 : lw_okq (⟨"BargeChess$Game", "copyFrom", "(LBargeChess$Game;)V"⟩, 9) := ⟨⟨by decide +kernel, by decide +kernel⟩, List.mem_of_getElem? (i := 24) (by decide +kernel), List.mem_of_getElem? (i := 266) (by decide +kernel), List.mem_of_getElem? (i := 267) (by decide +kernel)⟩
theorem lw_p10 : lw_okq (⟨"BargeChess$Board", "copyBoard", "(LBargeChess$Board;)V"⟩, 6) := ⟨⟨by decide +kernel, by decide +kernel⟩, List.mem_of_getElem? (i := 30) (by decide +kernel), List.mem_of_getElem? (i := 270) (by decide +kernel), List.mem_of_getElem? (i := 271) (by decide +kernel)⟩
theorem lw_p11 : lw_okq (⟨"BargeChess$History", "copyHistory", "(LBargeChess$History;)V"⟩, 3) := ⟨⟨by decide +kernel, by decide +kernel⟩, List.mem_of_getElem? (i := 62) (by decide +kernel), List.mem_of_getElem? (i := 274) (by decide +kernel), List.mem_of_getElem? (i := 275) (by decide +kernel)⟩
theorem lw_p12 : lw_okq (⟨"BargeChess$Board", "setPiece", "(II)V"⟩, 6) := ⟨⟨by decide +kernel, by decide +kernel⟩, List.mem_of_getElem? (i := 30) (by decide +kernel), List.mem_of_getElem? (i := 281) (by decide +kernel), List.mem_of_getElem? (i := 282) (by decide +kernel)⟩
theorem lw_p13 : lw_okq (⟨"BargeChess$Board", "buildLock", "(II)I"⟩, 6) := ⟨⟨by decide +kernel, by decide +kernel⟩, List.mem_of_getElem? (i := 30) (by decide +kernel), List.mem_of_getElem? (i := 289) (by decide +kernel), List.mem_of_getElem? (i := 290) (by decide +kernel)⟩
theorem lw_p14 : lw_okq (⟨"BargeChess$Game", "startPlay", "()V"⟩, 9) := ⟨⟨by decide +kernel, by decide +kernel⟩, List.mem_of_getElem? (i := 24) (by decide +kernel), List.mem_of_getElem? (i := 297) (by decide +kernel), List.mem_of_getElem? (i := 298) (by decide +kernel)⟩
theorem lw_p15 : lw_okq (⟨"BargeChess$Game", "recordPosition", "()V"⟩, 9) := ⟨⟨by decide +kernel, by decide +kernel⟩, List.mem_of_getElem? (i := 24) (by decide +kernel), List.mem_of_getElem? (i := 301) (by decide +kernel), List.mem_of_getElem? (i := 302) (by decide +kernel)⟩
def lw_privs_1 : List (MethodName × Nat) := [(⟨"BargeChess$Board", "countOf", "(I)I"⟩, 6), (⟨"BargeChess", "buildingError", "(III)I"⟩, 9), (⟨"BargeChess", "refuse", "(III)I"⟩, 9), (⟨"BargeChess$Refusal", "note", "(III)V"⟩, 5), (⟨"BargeChess$Refusal", "noteCause", "(II)V"⟩, 5), (⟨"BargeChess$Board", "pieceAt", "(I)I"⟩, 6), (⟨"BargeChess$Board", "lockAt", "(I)I"⟩, 6), (⟨"BargeChess$Past", "keep", "(LBargeChess$Game;)V"⟩, 3), (⟨"BargeChess$Past", "gameAt", "(I)LBargeChess$Game;"⟩, 3), (⟨"BargeChess$Game", "copyFrom", "(LBargeChess$Game;)V"⟩, 9), (⟨"BargeChess$Board", "copyBoard", "(LBargeChess$Board;)V"⟩, 6), (⟨"BargeChess$History", "copyHistory", "(LBargeChess$History;)V"⟩, 3), (⟨"BargeChess$Board", "setPiece", "(II)V"⟩, 6), (⟨"BargeChess$Board", "buildLock", "(II)I"⟩, 6), (⟨"BargeChess$Game", "startPlay", "()V"⟩, 9), (⟨"BargeChess$Game", "recordPosition", "()V"⟩, 9)]
theorem lw_r1 : ∀ q ∈ lw_privs_1, lw_okq q := List.forall_mem_cons.mpr ⟨lw_p0, List.forall_mem_cons.mpr ⟨lw_p1, List.forall_mem_cons.mpr ⟨lw_p2, List.forall_mem_cons.mpr ⟨lw_p3, List.forall_mem_cons.mpr ⟨lw_p4, List.forall_mem_cons.mpr ⟨lw_p5, List.forall_mem_cons.mpr ⟨lw_p6, List.forall_mem_cons.mpr ⟨lw_p7, List.forall_mem_cons.mpr ⟨lw_p8, List.forall_mem_cons.mpr ⟨lw_p9, List.forall_mem_cons.mpr ⟨lw_p10, List.forall_mem_cons.mpr ⟨lw_p11, List.forall_mem_cons.mpr ⟨lw_p12, List.forall_mem_cons.mpr ⟨lw_p13, List.forall_mem_cons.mpr ⟨lw_p14, List.forall_mem_cons.mpr ⟨lw_p15, fun _ h => absurd h List.not_mem_nil⟩⟩⟩⟩⟩⟩⟩⟩⟩⟩⟩⟩⟩⟩⟩⟩
theorem lw_p16 : lw_okq (⟨"BargeChess$Board", "closedKey", "()I"⟩, 6) := ⟨⟨by decide +kernel, by decide +kernel⟩, List.mem_of_getElem? (i := 30) (by decide +kernel), List.mem_of_getElem? (i := 305) (by decide +kernel), List.mem_of_getElem? (i := 306) (by decide +kernel)⟩
theorem lw_p17 : lw_okq (⟨"BargeChess$Game", "sideToMove", "()I"⟩, 9) := ⟨⟨by decide +kernel, by decide +kernel⟩, List.mem_of_getElem? (i := 24) (by decide +kernel), List.mem_of_getElem? (i := 309) (by decide +kernel), List.mem_of_getElem? (i := 310) (by decide +kernel)⟩
theorem lw_p18 : lw_okq (⟨"BargeChess$Board", "halfKey", "(I)J"⟩, 6) := ⟨⟨by decide +kernel, by decide +kernel⟩, List.mem_of_getElem? (i := 30) (by decide +kernel), List.mem_of_getElem? (i := 313) (by decide +kernel), List.mem_of_getElem? (i := 314) (by decide +kernel)⟩
theorem lw_p19 : lw_okq (⟨"BargeChess$History", "addPosition", "(JJ)V"⟩, 3) := ⟨⟨by decide +kernel, by decide +kernel⟩, List.mem_of_getElem? (i := 62) (by decide +kernel), List.mem_of_getElem? (i := 320) (by decide +kernel), List.mem_of_getElem? (i := 321) (by decide +kernel)⟩
theorem lw_p20 : lw_okq (⟨"BargeChess$Game", "settleEnding", "()I"⟩, 9) := ⟨⟨by decide +kernel, by decide +kernel⟩, List.mem_of_getElem? (i := 24) (by decide +kernel), List.mem_of_getElem? (i := 324) (by decide +kernel), List.mem_of_getElem? (i := 325) (by decide +kernel)⟩
theorem lw_p21 : lw_okq (⟨"BargeChess$History", "timesOfLatest", "()I"⟩, 3) := ⟨⟨by decide +kernel, by decide +kernel⟩, List.mem_of_getElem? (i := 62) (by decide +kernel), List.mem_of_getElem? (i := 328) (by decide +kernel), List.mem_of_getElem? (i := 329) (by decide +kernel)⟩
theorem lw_p22 : lw_okq (⟨"BargeChess$History", "timesUpTo", "(I)I"⟩, 3) := ⟨⟨by decide +kernel, by decide +kernel⟩, List.mem_of_getElem? (i := 62) (by decide +kernel), List.mem_of_getElem? (i := 332) (by decide +kernel), List.mem_of_getElem? (i := 333) (by decide +kernel)⟩
theorem lw_p23 : lw_okq (⟨"BargeChess$Board", "countMoves", "(I)I"⟩, 6) := ⟨⟨by decide +kernel, by decide +kernel⟩, List.mem_of_getElem? (i := 30) (by decide +kernel), List.mem_of_getElem? (i := 337) (by decide +kernel), List.mem_of_getElem? (i := 338) (by decide +kernel)⟩
theorem lw_p24 : lw_okq (⟨"BargeChess$Board", "causeAgainst", "(II)I"⟩, 6) := ⟨⟨by decide +kernel, by decide +kernel⟩, List.mem_of_getElem? (i := 30) (by decide +kernel), List.mem_of_getElem? (i := 341) (by decide +kernel), List.mem_of_getElem? (i := 342) (by decide +kernel)⟩
theorem lw_p25 : lw_okq (⟨"BargeChess$Board", "standing", "(II)I"⟩, 6) := ⟨⟨by decide +kernel, by decide +kernel⟩, List.mem_of_getElem? (i := 30) (by decide +kernel), List.mem_of_getElem? (i := 355) (by decide +kernel), List.mem_of_getElem? (i := 356) (by decide +kernel)⟩
theorem lw_p26 : lw_okq (⟨"BargeChess$Board", "isClosed", "(I)Z"⟩, 6) := ⟨⟨by decide +kernel, by decide +kernel⟩, List.mem_of_getElem? (i := 30) (by decide +kernel), List.mem_of_getElem? (i := 367) (by decide +kernel), List.mem_of_getElem? (i := 368) (by decide +kernel)⟩
theorem lw_p27 : lw_okq (⟨"BargeChess$Game", "openMoves", "()I"⟩, 9) := ⟨⟨by decide +kernel, by decide +kernel⟩, List.mem_of_getElem? (i := 24) (by decide +kernel), List.mem_of_getElem? (i := 375) (by decide +kernel), List.mem_of_getElem? (i := 376) (by decide +kernel)⟩
theorem lw_p28 : lw_okq (⟨"BargeChess$Game", "goesOn", "()Z"⟩, 9) := ⟨⟨by decide +kernel, by decide +kernel⟩, List.mem_of_getElem? (i := 24) (by decide +kernel), List.mem_of_getElem? (i := 379) (by decide +kernel), List.mem_of_getElem? (i := 380) (by decide +kernel)⟩
theorem lw_p29 : lw_okq (⟨"BargeChess", "moveError", "(LBargeChess$Game;III)I"⟩, 9) := ⟨⟨by decide +kernel, by decide +kernel⟩, List.mem_of_getElem? (i := 16) (by decide +kernel), List.mem_of_getElem? (i := 387) (by decide +kernel), List.mem_of_getElem? (i := 388) (by decide +kernel)⟩
theorem lw_p30 : lw_okq (⟨"BargeChess$Board", "causeDetail", "(III)I"⟩, 6) := ⟨⟨by decide +kernel, by decide +kernel⟩, List.mem_of_getElem? (i := 30) (by decide +kernel), List.mem_of_getElem? (i := 396) (by decide +kernel), List.mem_of_getElem? (i := 397) (by decide +kernel)⟩
theorem lw_p31 : lw_okq (⟨"BargeChess$Game", "carryOut", "(II)I"⟩, 9) := ⟨⟨by decide +kernel, by decide +kernel⟩, List.mem_of_getElem? (i := 24) (by decide +kernel), List.mem_of_getElem? (i := 402) (by decide +kernel), List.mem_of_getElem? (i := 403) (by decide +kernel)⟩
def lw_privs_2 : List (MethodName × Nat) := [(⟨"BargeChess$Board", "closedKey", "()I"⟩, 6), (⟨"BargeChess$Game", "sideToMove", "()I"⟩, 9), (⟨"BargeChess$Board", "halfKey", "(I)J"⟩, 6), (⟨"BargeChess$History", "addPosition", "(JJ)V"⟩, 3), (⟨"BargeChess$Game", "settleEnding", "()I"⟩, 9), (⟨"BargeChess$History", "timesOfLatest", "()I"⟩, 3), (⟨"BargeChess$History", "timesUpTo", "(I)I"⟩, 3), (⟨"BargeChess$Board", "countMoves", "(I)I"⟩, 6), (⟨"BargeChess$Board", "causeAgainst", "(II)I"⟩, 6), (⟨"BargeChess$Board", "standing", "(II)I"⟩, 6), (⟨"BargeChess$Board", "isClosed", "(I)Z"⟩, 6), (⟨"BargeChess$Game", "openMoves", "()I"⟩, 9), (⟨"BargeChess$Game", "goesOn", "()Z"⟩, 9), (⟨"BargeChess", "moveError", "(LBargeChess$Game;III)I"⟩, 9), (⟨"BargeChess$Board", "causeDetail", "(III)I"⟩, 6), (⟨"BargeChess$Game", "carryOut", "(II)I"⟩, 9)]
theorem lw_r2 : ∀ q ∈ lw_privs_2, lw_okq q := List.forall_mem_cons.mpr ⟨lw_p16, List.forall_mem_cons.mpr ⟨lw_p17, List.forall_mem_cons.mpr ⟨lw_p18, List.forall_mem_cons.mpr ⟨lw_p19, List.forall_mem_cons.mpr ⟨lw_p20, List.forall_mem_cons.mpr ⟨lw_p21, List.forall_mem_cons.mpr ⟨lw_p22, List.forall_mem_cons.mpr ⟨lw_p23, List.forall_mem_cons.mpr ⟨lw_p24, List.forall_mem_cons.mpr ⟨lw_p25, List.forall_mem_cons.mpr ⟨lw_p26, List.forall_mem_cons.mpr ⟨lw_p27, List.forall_mem_cons.mpr ⟨lw_p28, List.forall_mem_cons.mpr ⟨lw_p29, List.forall_mem_cons.mpr ⟨lw_p30, List.forall_mem_cons.mpr ⟨lw_p31, fun _ h => absurd h List.not_mem_nil⟩⟩⟩⟩⟩⟩⟩⟩⟩⟩⟩⟩⟩⟩⟩⟩
theorem lw_p32 : lw_okq (⟨"BargeChess$Board", "promote", "(II)Z"⟩, 6) := ⟨⟨by decide +kernel, by decide +kernel⟩, List.mem_of_getElem? (i := 30) (by decide +kernel), List.mem_of_getElem? (i := 408) (by decide +kernel), List.mem_of_getElem? (i := 409) (by decide +kernel)⟩
theorem lw_p33 : lw_okq (⟨"BargeChess$Board", "shift", "(II)I"⟩, 6) := ⟨⟨by decide +kernel, by decide +kernel⟩, List.mem_of_getElem? (i := 30) (by decide +kernel), List.mem_of_getElem? (i := 416) (by decide +kernel), List.mem_of_getElem? (i := 417) (by decide +kernel)⟩
theorem lw_p34 : lw_okq (⟨"BargeChess$Board", "turnLocks", "(I)V"⟩, 6) := ⟨⟨by decide +kernel, by decide +kernel⟩, List.mem_of_getElem? (i := 30) (by decide +kernel), List.mem_of_getElem? (i := 421) (by decide +kernel), List.mem_of_getElem? (i := 422) (by decide +kernel)⟩
theorem lw_p35 : lw_okq (⟨"BargeChess$Game", "carryByTide", "()V"⟩, 9) := ⟨⟨by decide +kernel, by decide +kernel⟩, List.mem_of_getElem? (i := 24) (by decide +kernel), List.mem_of_getElem? (i := 425) (by decide +kernel), List.mem_of_getElem? (i := 426) (by decide +kernel)⟩
theorem lw_p36 : lw_okq (⟨"BargeChess$Game", "tide", "()I"⟩, 9) := ⟨⟨by decide +kernel, by decide +kernel⟩, List.mem_of_getElem? (i := 24) (by decide +kernel), List.mem_of_getElem? (i := 429) (by decide +kernel), List.mem_of_getElem? (i := 430) (by decide +kernel)⟩
theorem lw_p37 : lw_okq (⟨"BargeChess$Board", "carryRiver", "(I)I"⟩, 6) := ⟨⟨by decide +kernel, by decide +kernel⟩, List.mem_of_getElem? (i := 30) (by decide +kernel), List.mem_of_getElem? (i := 433) (by decide +kernel), List.mem_of_getElem? (i := 434) (by decide +kernel)⟩
theorem lw_p38 : lw_okq (⟨"BargeChess$Board", "drift", "(II)Z"⟩, 6) := ⟨⟨by decide +kernel, by decide +kernel⟩, List.mem_of_getElem? (i := 30) (by decide +kernel), List.mem_of_getElem? (i := 440) (by decide +kernel), List.mem_of_getElem? (i := 441) (by decide +kernel)⟩
theorem lw_p39 : lw_okq (⟨"BargeChess$Board", "hasLock", "(I)Z"⟩, 6) := ⟨⟨by decide +kernel, by decide +kernel⟩, List.mem_of_getElem? (i := 30) (by decide +kernel), List.mem_of_getElem? (i := 456) (by decide +kernel), List.mem_of_getElem? (i := 457) (by decide +kernel)⟩
theorem lw_p40 : lw_okq (⟨"BargeChess$Board", "tugsOf", "(I)I"⟩, 6) := ⟨⟨by decide +kernel, by decide +kernel⟩, List.mem_of_getElem? (i := 30) (by decide +kernel), List.mem_of_getElem? (i := 464) (by decide +kernel), List.mem_of_getElem? (i := 465) (by decide +kernel)⟩
theorem lw_p41 : lw_okq (⟨"BargeChess$Board", "movesInLane", "(III)I"⟩, 6) := ⟨⟨by decide +kernel, by decide +kernel⟩, List.mem_of_getElem? (i := 30) (by decide +kernel), List.mem_of_getElem? (i := 477) (by decide +kernel), List.mem_of_getElem? (i := 478) (by decide +kernel)⟩
theorem lw_p42 : lw_okq (⟨"BargeChess$Game", "allows", "(II)Z"⟩, 9) := ⟨⟨by decide +kernel, by decide +kernel⟩, List.mem_of_getElem? (i := 24) (by decide +kernel), List.mem_of_getElem? (i := 485) (by decide +kernel), List.mem_of_getElem? (i := 486) (by decide +kernel)⟩
theorem lw_p43 : lw_okq (⟨"BargeChess$History", "mostTimes", "()I"⟩, 3) := ⟨⟨by decide +kernel, by decide +kernel⟩, List.mem_of_getElem? (i := 62) (by decide +kernel), List.mem_of_getElem? (i := 500) (by decide +kernel), List.mem_of_getElem? (i := 501) (by decide +kernel)⟩
theorem lw_p44 : lw_okq (⟨"BargeChess$Board", "pushedOff", "(II)I"⟩, 6) := ⟨⟨by decide +kernel, by decide +kernel⟩, List.mem_of_getElem? (i := 30) (by decide +kernel), List.mem_of_getElem? (i := 519) (by decide +kernel), List.mem_of_getElem? (i := 520) (by decide +kernel)⟩
theorem lw_p45 : lw_okq (⟨"BargeChess$Board", "signOf", "(I)I"⟩, 6) := ⟨⟨by decide +kernel, by decide +kernel⟩, List.mem_of_getElem? (i := 30) (by decide +kernel), List.mem_of_getElem? (i := 541) (by decide +kernel), List.mem_of_getElem? (i := 542) (by decide +kernel)⟩
theorem lw_p46 : lw_okq (⟨"BargeChess$MoveText", "addCharacter", "(I)Z"⟩, 5) := ⟨⟨by decide +kernel, by decide +kernel⟩, List.mem_of_getElem? (i := 136) (by decide +kernel), List.mem_of_getElem? (i := 553) (by decide +kernel), List.mem_of_getElem? (i := 554) (by decide +kernel)⟩
theorem lw_p47 : lw_okq (⟨"BargeChess$MoveText", "parse", "()I"⟩, 5) := ⟨⟨by decide +kernel, by decide +kernel⟩, List.mem_of_getElem? (i := 136) (by decide +kernel), List.mem_of_getElem? (i := 561) (by decide +kernel), List.mem_of_getElem? (i := 562) (by decide +kernel)⟩
def lw_privs_3 : List (MethodName × Nat) := [(⟨"BargeChess$Board", "promote", "(II)Z"⟩, 6), (⟨"BargeChess$Board", "shift", "(II)I"⟩, 6), (⟨"BargeChess$Board", "turnLocks", "(I)V"⟩, 6), (⟨"BargeChess$Game", "carryByTide", "()V"⟩, 9), (⟨"BargeChess$Game", "tide", "()I"⟩, 9), (⟨"BargeChess$Board", "carryRiver", "(I)I"⟩, 6), (⟨"BargeChess$Board", "drift", "(II)Z"⟩, 6), (⟨"BargeChess$Board", "hasLock", "(I)Z"⟩, 6), (⟨"BargeChess$Board", "tugsOf", "(I)I"⟩, 6), (⟨"BargeChess$Board", "movesInLane", "(III)I"⟩, 6), (⟨"BargeChess$Game", "allows", "(II)Z"⟩, 9), (⟨"BargeChess$History", "mostTimes", "()I"⟩, 3), (⟨"BargeChess$Board", "pushedOff", "(II)I"⟩, 6), (⟨"BargeChess$Board", "signOf", "(I)I"⟩, 6), (⟨"BargeChess$MoveText", "addCharacter", "(I)Z"⟩, 5), (⟨"BargeChess$MoveText", "parse", "()I"⟩, 5)]
theorem lw_r3 : ∀ q ∈ lw_privs_3, lw_okq q := List.forall_mem_cons.mpr ⟨lw_p32, List.forall_mem_cons.mpr ⟨lw_p33, List.forall_mem_cons.mpr ⟨lw_p34, List.forall_mem_cons.mpr ⟨lw_p35, List.forall_mem_cons.mpr ⟨lw_p36, List.forall_mem_cons.mpr ⟨lw_p37, List.forall_mem_cons.mpr ⟨lw_p38, List.forall_mem_cons.mpr ⟨lw_p39, List.forall_mem_cons.mpr ⟨lw_p40, List.forall_mem_cons.mpr ⟨lw_p41, List.forall_mem_cons.mpr ⟨lw_p42, List.forall_mem_cons.mpr ⟨lw_p43, List.forall_mem_cons.mpr ⟨lw_p44, List.forall_mem_cons.mpr ⟨lw_p45, List.forall_mem_cons.mpr ⟨lw_p46, List.forall_mem_cons.mpr ⟨lw_p47, fun _ h => absurd h List.not_mem_nil⟩⟩⟩⟩⟩⟩⟩⟩⟩⟩⟩⟩⟩⟩⟩⟩
theorem lw_p48 : lw_okq (⟨"BargeChess$MoveText", "addMove", "(II)V"⟩, 5) := ⟨⟨by decide +kernel, by decide +kernel⟩, List.mem_of_getElem? (i := 136) (by decide +kernel), List.mem_of_getElem? (i := 568) (by decide +kernel), List.mem_of_getElem? (i := 569) (by decide +kernel)⟩
theorem lw_p49 : lw_okq (⟨"BargeChess$MoveText", "clear", "()V"⟩, 5) := ⟨⟨by decide +kernel, by decide +kernel⟩, List.mem_of_getElem? (i := 136) (by decide +kernel), List.mem_of_getElem? (i := 572) (by decide +kernel), List.mem_of_getElem? (i := 573) (by decide +kernel)⟩
theorem lw_p50 : lw_okq (⟨"BargeChess$Board", "closedLocks", "()I"⟩, 6) := ⟨⟨by decide +kernel, by decide +kernel⟩, List.mem_of_getElem? (i := 30) (by decide +kernel), List.mem_of_getElem? (i := 584) (by decide +kernel), List.mem_of_getElem? (i := 585) (by decide +kernel)⟩
theorem lw_p51 : lw_okq (⟨"BargeChess$Board", "allLockTurns", "()I"⟩, 6) := ⟨⟨by decide +kernel, by decide +kernel⟩, List.mem_of_getElem? (i := 30) (by decide +kernel), List.mem_of_getElem? (i := 588) (by decide +kernel), List.mem_of_getElem? (i := 589) (by decide +kernel)⟩
theorem lw_p52 : lw_okq (⟨"BargeChess$History", "different", "()I"⟩, 3) := ⟨⟨by decide +kernel, by decide +kernel⟩, List.mem_of_getElem? (i := 62) (by decide +kernel), List.mem_of_getElem? (i := 592) (by decide +kernel), List.mem_of_getElem? (i := 593) (by decide +kernel)⟩
theorem lw_p53 : lw_okq (⟨"BargeChess$Past", "bringBack", "(LBargeChess$Game;)Z"⟩, 3) := ⟨⟨by decide +kernel, by decide +kernel⟩, List.mem_of_getElem? (i := 116) (by decide +kernel), List.mem_of_getElem? (i := 608) (by decide +kernel), List.mem_of_getElem? (i := 609) (by decide +kernel)⟩
theorem lw_p54 : lw_okq (⟨"BargeChess$Past", "forget", "()V"⟩, 3) := ⟨⟨by decide +kernel, by decide +kernel⟩, List.mem_of_getElem? (i := 116) (by decide +kernel), List.mem_of_getElem? (i := 620) (by decide +kernel), List.mem_of_getElem? (i := 621) (by decide +kernel)⟩
theorem lw_p55 : lw_okq (⟨"BargeChessModel", "cannotBuild", "(I)Z"⟩, 20) := ⟨⟨by decide +kernel, by decide +kernel⟩, List.mem_of_getElem? (i := 624) (by decide +kernel), List.mem_of_getElem? (i := 702) (by decide +kernel), List.mem_of_getElem? (i := 703) (by decide +kernel)⟩
theorem lw_p56 : lw_okq (⟨"BargeChessModel", "refuses", "(II)I"⟩, 20) := ⟨⟨by decide +kernel, by decide +kernel⟩, List.mem_of_getElem? (i := 624) (by decide +kernel), List.mem_of_getElem? (i := 706) (by decide +kernel), List.mem_of_getElem? (i := 707) (by decide +kernel)⟩
theorem lw_p57 : lw_okq (⟨"BargeChessModel", "pieceAt", "(I)I"⟩, 20) := ⟨⟨by decide +kernel, by decide +kernel⟩, List.mem_of_getElem? (i := 624) (by decide +kernel), List.mem_of_getElem? (i := 710) (by decide +kernel), List.mem_of_getElem? (i := 711) (by decide +kernel)⟩
theorem lw_p58 : lw_okq (⟨"BargeChessModel", "lockAt", "(I)I"⟩, 20) := ⟨⟨by decide +kernel, by decide +kernel⟩, List.mem_of_getElem? (i := 624) (by decide +kernel), List.mem_of_getElem? (i := 714) (by decide +kernel), List.mem_of_getElem? (i := 715) (by decide +kernel)⟩
theorem lw_p59 : lw_okq (⟨"BargeChessModel", "ofLock", "(II)I"⟩, 20) := ⟨⟨by decide +kernel, by decide +kernel⟩, List.mem_of_getElem? (i := 624) (by decide +kernel), List.mem_of_getElem? (i := 718) (by decide +kernel), List.mem_of_getElem? (i := 719) (by decide +kernel)⟩
theorem lw_p60 : lw_okq (⟨"BargeChessModel", "keeps", "([I)V"⟩, 20) := ⟨⟨by decide +kernel, by decide +kernel⟩, List.mem_of_getElem? (i := 624) (by decide +kernel), List.mem_of_getElem? (i := 722) (by decide +kernel), List.mem_of_getElem? (i := 723) (by decide +kernel)⟩
theorem lw_p61 : lw_okq (⟨"BargeChessModel", "pieces", "(I)I"⟩, 20) := ⟨⟨by decide +kernel, by decide +kernel⟩, List.mem_of_getElem? (i := 624) (by decide +kernel), List.mem_of_getElem? (i := 729) (by decide +kernel), List.mem_of_getElem? (i := 730) (by decide +kernel)⟩
theorem lw_p62 : lw_okq (⟨"BargeChessModel", "countOf", "(II)I"⟩, 20) := ⟨⟨by decide +kernel, by decide +kernel⟩, List.mem_of_getElem? (i := 624) (by decide +kernel), List.mem_of_getElem? (i := 733) (by decide +kernel), List.mem_of_getElem? (i := 734) (by decide +kernel)⟩
theorem lw_p63 : lw_okq (⟨"BargeChessModel", "looks", "()I"⟩, 20) := ⟨⟨by decide +kernel, by decide +kernel⟩, List.mem_of_getElem? (i := 624) (by decide +kernel), List.mem_of_getElem? (i := 745) (by decide +kernel), List.mem_of_getElem? (i := 746) (by decide +kernel)⟩
def lw_privs_4 : List (MethodName × Nat) := [(⟨"BargeChess$MoveText", "addMove", "(II)V"⟩, 5), (⟨"BargeChess$MoveText", "clear", "()V"⟩, 5), (⟨"BargeChess$Board", "closedLocks", "()I"⟩, 6), (⟨"BargeChess$Board", "allLockTurns", "()I"⟩, 6), (⟨"BargeChess$History", "different", "()I"⟩, 3), (⟨"BargeChess$Past", "bringBack", "(LBargeChess$Game;)Z"⟩, 3), (⟨"BargeChess$Past", "forget", "()V"⟩, 3), (⟨"BargeChessModel", "cannotBuild", "(I)Z"⟩, 20), (⟨"BargeChessModel", "refuses", "(II)I"⟩, 20), (⟨"BargeChessModel", "pieceAt", "(I)I"⟩, 20), (⟨"BargeChessModel", "lockAt", "(I)I"⟩, 20), (⟨"BargeChessModel", "ofLock", "(II)I"⟩, 20), (⟨"BargeChessModel", "keeps", "([I)V"⟩, 20), (⟨"BargeChessModel", "pieces", "(I)I"⟩, 20), (⟨"BargeChessModel", "countOf", "(II)I"⟩, 20), (⟨"BargeChessModel", "looks", "()I"⟩, 20)]
theorem lw_r4 : ∀ q ∈ lw_privs_4, lw_okq q := List.forall_mem_cons.mpr ⟨lw_p48, List.forall_mem_cons.mpr ⟨lw_p49, List.forall_mem_cons.mpr ⟨lw_p50, List.forall_mem_cons.mpr ⟨lw_p51, List.forall_mem_cons.mpr ⟨lw_p52, List.forall_mem_cons.mpr ⟨lw_p53, List.forall_mem_cons.mpr ⟨lw_p54, List.forall_mem_cons.mpr ⟨lw_p55, List.forall_mem_cons.mpr ⟨lw_p56, List.forall_mem_cons.mpr ⟨lw_p57, List.forall_mem_cons.mpr ⟨lw_p58, List.forall_mem_cons.mpr ⟨lw_p59, List.forall_mem_cons.mpr ⟨lw_p60, List.forall_mem_cons.mpr ⟨lw_p61, List.forall_mem_cons.mpr ⟨lw_p62, List.forall_mem_cons.mpr ⟨lw_p63, fun _ h => absurd h List.not_mem_nil⟩⟩⟩⟩⟩⟩⟩⟩⟩⟩⟩⟩⟩⟩⟩⟩
theorem lw_p64 : lw_okq (⟨"BargeChessModel", "position", "()I"⟩, 20) := ⟨⟨by decide +kernel, by decide +kernel⟩, List.mem_of_getElem? (i := 624) (by decide +kernel), List.mem_of_getElem? (i := 749) (by decide +kernel), List.mem_of_getElem? (i := 750) (by decide +kernel)⟩
theorem lw_p65 : lw_okq (⟨"BargeChessModel", "restPart", "()I"⟩, 20) := ⟨⟨by decide +kernel, by decide +kernel⟩, List.mem_of_getElem? (i := 624) (by decide +kernel), List.mem_of_getElem? (i := 753) (by decide +kernel), List.mem_of_getElem? (i := 754) (by decide +kernel)⟩
theorem lw_p66 : lw_okq (⟨"BargeChessModel", "boardPart", "(I)I"⟩, 20) := ⟨⟨by decide +kernel, by decide +kernel⟩, List.mem_of_getElem? (i := 624) (by decide +kernel), List.mem_of_getElem? (i := 757) (by decide +kernel), List.mem_of_getElem? (i := 758) (by decide +kernel)⟩
theorem lw_p67 : lw_okq (⟨"BargeChessModel", "isMove", "(II)Z"⟩, 20) := ⟨⟨by decide +kernel, by decide +kernel⟩, List.mem_of_getElem? (i := 624) (by decide +kernel), List.mem_of_getElem? (i := 765) (by decide +kernel), List.mem_of_getElem? (i := 766) (by decide +kernel)⟩
theorem lw_p68 : lw_okq (⟨"BargeChessModel", "goesOn", "()Z"⟩, 20) := ⟨⟨by decide +kernel, by decide +kernel⟩, List.mem_of_getElem? (i := 624) (by decide +kernel), List.mem_of_getElem? (i := 769) (by decide +kernel), List.mem_of_getElem? (i := 770) (by decide +kernel)⟩
theorem lw_p69 : lw_okq (⟨"BargeChessModel", "sideAt", "(I)I"⟩, 20) := ⟨⟨by decide +kernel, by decide +kernel⟩, List.mem_of_getElem? (i := 624) (by decide +kernel), List.mem_of_getElem? (i := 773) (by decide +kernel), List.mem_of_getElem? (i := 774) (by decide +kernel)⟩
theorem lw_p70 : lw_okq (⟨"BargeChessModel", "against", "(II)I"⟩, 20) := ⟨⟨by decide +kernel, by decide +kernel⟩, List.mem_of_getElem? (i := 624) (by decide +kernel), List.mem_of_getElem? (i := 777) (by decide +kernel), List.mem_of_getElem? (i := 778) (by decide +kernel)⟩
theorem lw_p71 : lw_okq (⟨"BargeChessModel", "goes", "(II)Z"⟩, 20) := ⟨⟨by decide +kernel, by decide +kernel⟩, List.mem_of_getElem? (i := 624) (by decide +kernel), List.mem_of_getElem? (i := 781) (by decide +kernel), List.mem_of_getElem? (i := 782) (by decide +kernel)⟩
theorem lw_p72 : lw_okq (⟨"BargeChessModel", "kindAt", "(I)I"⟩, 20) := ⟨⟨by decide +kernel, by decide +kernel⟩, List.mem_of_getElem? (i := 624) (by decide +kernel), List.mem_of_getElem? (i := 785) (by decide +kernel), List.mem_of_getElem? (i := 786) (by decide +kernel)⟩
theorem lw_p73 : lw_okq (⟨"BargeChessModel", "endOf", "(II)I"⟩, 20) := ⟨⟨by decide +kernel, by decide +kernel⟩, List.mem_of_getElem? (i := 624) (by decide +kernel), List.mem_of_getElem? (i := 792) (by decide +kernel), List.mem_of_getElem? (i := 793) (by decide +kernel)⟩
theorem lw_p74 : lw_okq (⟨"BargeChessModel", "isClosed", "(I)Z"⟩, 20) := ⟨⟨by decide +kernel, by decide +kernel⟩, List.mem_of_getElem? (i := 624) (by decide +kernel), List.mem_of_getElem? (i := 796) (by decide +kernel), List.mem_of_getElem? (i := 797) (by decide +kernel)⟩
theorem lw_p75 : lw_okq (⟨"BargeChessModel", "lineFrom", "(II)I"⟩, 20) := ⟨⟨by decide +kernel, by decide +kernel⟩, List.mem_of_getElem? (i := 624) (by decide +kernel), List.mem_of_getElem? (i := 800) (by decide +kernel), List.mem_of_getElem? (i := 801) (by decide +kernel)⟩
theorem lw_p76 : lw_okq (⟨"BargeChessModel", "againstDetail", "(II)I"⟩, 20) := ⟨⟨by decide +kernel, by decide +kernel⟩, List.mem_of_getElem? (i := 624) (by decide +kernel), List.mem_of_getElem? (i := 808) (by decide +kernel), List.mem_of_getElem? (i := 809) (by decide +kernel)⟩
theorem lw_p77 : lw_okq (⟨"BargeChessModel", "makes", "(II)I"⟩, 20) := ⟨⟨by decide +kernel, by decide +kernel⟩, List.mem_of_getElem? (i := 624) (by decide +kernel), List.mem_of_getElem? (i := 812) (by decide +kernel), List.mem_of_getElem? (i := 813) (by decide +kernel)⟩
theorem lw_p78 : lw_okq (⟨"BargeChessModel", "shifts", "(II)V"⟩, 20) := ⟨⟨by decide +kernel, by decide +kernel⟩, List.mem_of_getElem? (i := 624) (by decide +kernel), List.mem_of_getElem? (i := 816) (by decide +kernel), List.mem_of_getElem? (i := 817) (by decide +kernel)⟩
theorem lw_p79 : lw_okq (⟨"BargeChessModel", "pushes", "(III)V"⟩, 20) := ⟨⟨by decide +kernel, by decide +kernel⟩, List.mem_of_getElem? (i := 624) (by decide +kernel), List.mem_of_getElem? (i := 820) (by decide +kernel), List.mem_of_getElem? (i := 821) (by decide +kernel)⟩
def lw_privs_5 : List (MethodName × Nat) := [(⟨"BargeChessModel", "position", "()I"⟩, 20), (⟨"BargeChessModel", "restPart", "()I"⟩, 20), (⟨"BargeChessModel", "boardPart", "(I)I"⟩, 20), (⟨"BargeChessModel", "isMove", "(II)Z"⟩, 20), (⟨"BargeChessModel", "goesOn", "()Z"⟩, 20), (⟨"BargeChessModel", "sideAt", "(I)I"⟩, 20), (⟨"BargeChessModel", "against", "(II)I"⟩, 20), (⟨"BargeChessModel", "goes", "(II)Z"⟩, 20), (⟨"BargeChessModel", "kindAt", "(I)I"⟩, 20), (⟨"BargeChessModel", "endOf", "(II)I"⟩, 20), (⟨"BargeChessModel", "isClosed", "(I)Z"⟩, 20), (⟨"BargeChessModel", "lineFrom", "(II)I"⟩, 20), (⟨"BargeChessModel", "againstDetail", "(II)I"⟩, 20), (⟨"BargeChessModel", "makes", "(II)I"⟩, 20), (⟨"BargeChessModel", "shifts", "(II)V"⟩, 20), (⟨"BargeChessModel", "pushes", "(III)V"⟩, 20)]
theorem lw_r5 : ∀ q ∈ lw_privs_5, lw_okq q := List.forall_mem_cons.mpr ⟨lw_p64, List.forall_mem_cons.mpr ⟨lw_p65, List.forall_mem_cons.mpr ⟨lw_p66, List.forall_mem_cons.mpr ⟨lw_p67, List.forall_mem_cons.mpr ⟨lw_p68, List.forall_mem_cons.mpr ⟨lw_p69, List.forall_mem_cons.mpr ⟨lw_p70, List.forall_mem_cons.mpr ⟨lw_p71, List.forall_mem_cons.mpr ⟨lw_p72, List.forall_mem_cons.mpr ⟨lw_p73, List.forall_mem_cons.mpr ⟨lw_p74, List.forall_mem_cons.mpr ⟨lw_p75, List.forall_mem_cons.mpr ⟨lw_p76, List.forall_mem_cons.mpr ⟨lw_p77, List.forall_mem_cons.mpr ⟨lw_p78, List.forall_mem_cons.mpr ⟨lw_p79, fun _ h => absurd h List.not_mem_nil⟩⟩⟩⟩⟩⟩⟩⟩⟩⟩⟩⟩⟩⟩⟩⟩
theorem lw_p80 : lw_okq (⟨"BargeChessModel", "locksTurn", "()V"⟩, 20) := ⟨⟨by decide +kernel, by decide +kernel⟩, List.mem_of_getElem? (i := 624) (by decide +kernel), List.mem_of_getElem? (i := 824) (by decide +kernel), List.mem_of_getElem? (i := 825) (by decide +kernel)⟩
theorem lw_p81 : lw_okq (⟨"BargeChessModel", "tides", "()V"⟩, 20) := ⟨⟨by decide +kernel, by decide +kernel⟩, List.mem_of_getElem? (i := 624) (by decide +kernel), List.mem_of_getElem? (i := 828) (by decide +kernel), List.mem_of_getElem? (i := 829) (by decide +kernel)⟩
theorem lw_p82 : lw_okq (⟨"BargeChessModel", "carries", "(II)V"⟩, 20) := ⟨⟨by decide +kernel, by decide +kernel⟩, List.mem_of_getElem? (i := 624) (by decide +kernel), List.mem_of_getElem? (i := 832) (by decide +kernel), List.mem_of_getElem? (i := 833) (by decide +kernel)⟩
theorem lw_p83 : lw_okq (⟨"BargeChessModel", "isTake", "(II)Z"⟩, 20) := ⟨⟨by decide +kernel, by decide +kernel⟩, List.mem_of_getElem? (i := 624) (by decide +kernel), List.mem_of_getElem? (i := 873) (by decide +kernel), List.mem_of_getElem? (i := 874) (by decide +kernel)⟩
theorem lw_p84 : lw_okq (⟨"BargeChessModel", "isText", "()Z"⟩, 20) := ⟨⟨by decide +kernel, by decide +kernel⟩, List.mem_of_getElem? (i := 624) (by decide +kernel), List.mem_of_getElem? (i := 947) (by decide +kernel), List.mem_of_getElem? (i := 948) (by decide +kernel)⟩
theorem lw_p85 : lw_okq (⟨"BargeChessModel", "moveHere", "()Z"⟩, 20) := ⟨⟨by decide +kernel, by decide +kernel⟩, List.mem_of_getElem? (i := 624) (by decide +kernel), List.mem_of_getElem? (i := 951) (by decide +kernel), List.mem_of_getElem? (i := 952) (by decide +kernel)⟩
theorem lw_p86 : lw_okq (⟨"BargeChessModel", "here", "()I"⟩, 20) := ⟨⟨by decide +kernel, by decide +kernel⟩, List.mem_of_getElem? (i := 624) (by decide +kernel), List.mem_of_getElem? (i := 955) (by decide +kernel), List.mem_of_getElem? (i := 956) (by decide +kernel)⟩
theorem lw_p87 : lw_okq (⟨"BargeChessModel", "closedMany", "()I"⟩, 20) := ⟨⟨by decide +kernel, by decide +kernel⟩, List.mem_of_getElem? (i := 624) (by decide +kernel), List.mem_of_getElem? (i := 969) (by decide +kernel), List.mem_of_getElem? (i := 970) (by decide +kernel)⟩
theorem lw_p88 : lw_okq (⟨"BargeChessModel", "turnedAll", "()I"⟩, 20) := ⟨⟨by decide +kernel, by decide +kernel⟩, List.mem_of_getElem? (i := 624) (by decide +kernel), List.mem_of_getElem? (i := 973) (by decide +kernel), List.mem_of_getElem? (i := 974) (by decide +kernel)⟩
def lw_privs_6 : List (MethodName × Nat) := [(⟨"BargeChessModel", "locksTurn", "()V"⟩, 20), (⟨"BargeChessModel", "tides", "()V"⟩, 20), (⟨"BargeChessModel", "carries", "(II)V"⟩, 20), (⟨"BargeChessModel", "isTake", "(II)Z"⟩, 20), (⟨"BargeChessModel", "isText", "()Z"⟩, 20), (⟨"BargeChessModel", "moveHere", "()Z"⟩, 20), (⟨"BargeChessModel", "here", "()I"⟩, 20), (⟨"BargeChessModel", "closedMany", "()I"⟩, 20), (⟨"BargeChessModel", "turnedAll", "()I"⟩, 20)]
theorem lw_r6 : ∀ q ∈ lw_privs_6, lw_okq q := List.forall_mem_cons.mpr ⟨lw_p80, List.forall_mem_cons.mpr ⟨lw_p81, List.forall_mem_cons.mpr ⟨lw_p82, List.forall_mem_cons.mpr ⟨lw_p83, List.forall_mem_cons.mpr ⟨lw_p84, List.forall_mem_cons.mpr ⟨lw_p85, List.forall_mem_cons.mpr ⟨lw_p86, List.forall_mem_cons.mpr ⟨lw_p87, List.forall_mem_cons.mpr ⟨lw_p88, fun _ h => absurd h List.not_mem_nil⟩⟩⟩⟩⟩⟩⟩⟩⟩
def lw_privs : List (MethodName × Nat) := lw_privs_1 ++ (lw_privs_2 ++ (lw_privs_3 ++ (lw_privs_4 ++ (lw_privs_5 ++ (lw_privs_6)))))
def lw_tbl : List Cond := k2_sels lw_privs ++ tables_1
theorem lw_privs_ok : ∀ q ∈ lw_privs, lw_okq q := by
  show ∀ q ∈ lw_privs_1 ++ (lw_privs_2 ++ (lw_privs_3 ++ (lw_privs_4 ++ (lw_privs_5 ++ (lw_privs_6))))), lw_okq q
  exact List.forall_mem_append.mpr ⟨lw_r1, List.forall_mem_append.mpr ⟨lw_r2, List.forall_mem_append.mpr ⟨lw_r3, List.forall_mem_append.mpr ⟨lw_r4, List.forall_mem_append.mpr ⟨lw_r5, lw_r6⟩⟩⟩⟩⟩
/-- the streams that the claim lets the run draw from -/
abbrev lw_cs : List Choice := [Jvm.Choice.named "NaN.bits"]
theorem lw_bits : nanBits ∈ lw_cs := by first | decide | exact List.mem_cons_self | simp [lw_cs, nanBits]
-- names (printed)
/-! ===== BEGIN words of one list among another's, by their places ===== -/
theorem goodIn_r {big : List Cond} (ws : List Cond) (ps : List Nat) (hp : ws = ps.filterMap (fun i => big[i]?)) (h : ws.all goodWord = true) : GoodIn big ws := by
  intro w hw
  have h1 := List.all_eq_true.mp h w hw
  rw [hp] at hw
  obtain ⟨i, -, hi⟩ := List.mem_filterMap.mp hw
  have hm : w ∈ big := by first | exact List.mem_of_getElem? hi | exact List.getElem?_mem hi
  exact ⟨hm, good_of_word h1⟩
theorem goodIn_app {big a b : List Cond} (ha : GoodIn big a) (hb : GoodIn big b) : GoodIn big (a ++ b) := fun w h => (List.mem_append.mp h).elim (ha w) (hb w)
theorem goodIn_ca {big a b : List Cond} {c : Cond} (ha : GoodIn big (c :: a)) (hb : GoodIn big b) : GoodIn big (c :: (a ++ b)) := fun w h => (List.mem_cons.mp h).elim (fun e => ha w (List.mem_cons.mpr (Or.inl e))) (fun h => (List.mem_append.mp h).elim (fun h => ha w (List.mem_cons.mpr (Or.inr h))) (hb w))
theorem goodIn_sub {big ws : List Cond} (hm : ∀ w ∈ ws, w ∈ big) (h : ws.all goodWord = true) : GoodIn big ws := fun w hw => ⟨hm w hw, good_of_word (List.all_eq_true.mp h w hw)⟩
/-! ===== END ===== -/

/-! ===== BEGIN printed: names, fields, word lists, decode rows ===== -/
def RX0 : String := "BargeChess$Board"
def TX0 : u_T := fun k => match k with
  | 0 => ("BargeChess$Board", "pieces", "[I", true)
  | 1 => ("BargeChess$Board", "lockCount", "I", false)
  | 2 => ("BargeChess$Board", "lockSquares", "[I", true)
  | 3 => ("BargeChess$Board", "lockPeriods", "[I", true)
  | 4 => ("BargeChess$Board", "lockClosed", "[Z", true)
  | _ => ("BargeChess$Board", "lockTurns", "[I", true)
def tyX0 : Nat → FieldType := fun k => match k with
  | 0 => .array .int
  | 1 => .int
  | 2 => .array .int
  | 3 => .array .int
  | 4 => .array .boolean
  | _ => .array .int
abbrev wsX00 : List Cond := u_ws RX0 TX0 6
theorem nmX0 : ∀ a, a < 6 → ∀ b, b < 6 → a ≠ b → (TX0 a).2.1 ≠ (TX0 b).2.1 := by decide +kernel
theorem tyX0_ok : ∀ k, k < 6 → parseFieldDescriptor (TX0 k).2.2.1 = some (tyX0 k) := by decide +kernel
abbrev cX0_init : ByteArray := prog_2_method_1_code
def yX0_init : MethodName := ⟨RX0, "<init>", "()V"⟩
abbrev cX0_copyBoard : ByteArray := prog_2_method_2_code
def yX0_copyBoard : MethodName := ⟨RX0, "copyBoard", "(LBargeChess$Board;)V"⟩
abbrev cX0_pieceAt : ByteArray := prog_2_method_3_code
def yX0_pieceAt : MethodName := ⟨RX0, "pieceAt", "(I)I"⟩
abbrev cX0_setPiece : ByteArray := prog_2_method_4_code
def yX0_setPiece : MethodName := ⟨RX0, "setPiece", "(II)V"⟩
abbrev cX0_countOf : ByteArray := prog_2_method_5_code
def yX0_countOf : MethodName := ⟨RX0, "countOf", "(I)I"⟩
abbrev cX0_tugsOf : ByteArray := prog_2_method_6_code
def yX0_tugsOf : MethodName := ⟨RX0, "tugsOf", "(I)I"⟩
abbrev cX0_hasLock : ByteArray := prog_2_method_7_code
def yX0_hasLock : MethodName := ⟨RX0, "hasLock", "(I)Z"⟩
abbrev cX0_lockAt : ByteArray := prog_2_method_8_code
def yX0_lockAt : MethodName := ⟨RX0, "lockAt", "(I)I"⟩
abbrev cX0_isClosed : ByteArray := prog_2_method_9_code
def yX0_isClosed : MethodName := ⟨RX0, "isClosed", "(I)Z"⟩
abbrev cX0_buildLock : ByteArray := prog_2_method_10_code
def yX0_buildLock : MethodName := ⟨RX0, "buildLock", "(II)I"⟩
abbrev cX0_turnLocks : ByteArray := prog_2_method_11_code
def yX0_turnLocks : MethodName := ⟨RX0, "turnLocks", "(I)V"⟩
abbrev cX0_closedLocks : ByteArray := prog_2_method_12_code
def yX0_closedLocks : MethodName := ⟨RX0, "closedLocks", "()I"⟩
abbrev cX0_allLockTurns : ByteArray := prog_2_method_13_code
def yX0_allLockTurns : MethodName := ⟨RX0, "allLockTurns", "()I"⟩
abbrev cX0_standing : ByteArray := prog_2_method_14_code
def yX0_standing : MethodName := ⟨RX0, "standing", "(II)I"⟩
abbrev cX0_causeAgainst : ByteArray := prog_2_method_15_code
def yX0_causeAgainst : MethodName := ⟨RX0, "causeAgainst", "(II)I"⟩
abbrev cX0_causeDetail : ByteArray := prog_2_method_16_code
def yX0_causeDetail : MethodName := ⟨RX0, "causeDetail", "(III)I"⟩
abbrev cX0_pushedOff : ByteArray := prog_2_method_17_code
def yX0_pushedOff : MethodName := ⟨RX0, "pushedOff", "(II)I"⟩
abbrev cX0_countMoves : ByteArray := prog_2_method_18_code
def yX0_countMoves : MethodName := ⟨RX0, "countMoves", "(I)I"⟩
abbrev cX0_movesInLane : ByteArray := prog_2_method_19_code
def yX0_movesInLane : MethodName := ⟨RX0, "movesInLane", "(III)I"⟩
abbrev cX0_promote : ByteArray := prog_2_method_20_code
def yX0_promote : MethodName := ⟨RX0, "promote", "(II)Z"⟩
abbrev cX0_shift : ByteArray := prog_2_method_21_code
def yX0_shift : MethodName := ⟨RX0, "shift", "(II)I"⟩
abbrev cX0_carryRiver : ByteArray := prog_2_method_22_code
def yX0_carryRiver : MethodName := ⟨RX0, "carryRiver", "(I)I"⟩
abbrev cX0_drift : ByteArray := prog_2_method_23_code
def yX0_drift : MethodName := ⟨RX0, "drift", "(II)Z"⟩
abbrev cX0_signOf : ByteArray := prog_2_method_24_code
def yX0_signOf : MethodName := ⟨RX0, "signOf", "(I)I"⟩
abbrev cX0_halfKey : ByteArray := prog_2_method_25_code
def yX0_halfKey : MethodName := ⟨RX0, "halfKey", "(I)J"⟩
abbrev cX0_closedKey : ByteArray := prog_2_method_26_code
def yX0_closedKey : MethodName := ⟨RX0, "closedKey", "()I"⟩
def RX1 : String := "BargeChess$Game"
def TX1 : u_T := fun k => match k with
  | 0 => ("BargeChess$Game", "board", "LBargeChess$Board;", true)
  | 1 => ("BargeChess$Game", "history", "LBargeChess$History;", true)
  | 2 => ("BargeChess$Game", "begun", "Z", false)
  | 3 => ("BargeChess$Game", "ending", "I", false)
  | 4 => ("BargeChess$Game", "turn", "I", false)
  | 5 => ("BargeChess$Game", "carried", "I", false)
  | 6 => ("BargeChess$Game", "gone", "[I", true)
  | 7 => ("BargeChess$Game", "pushed", "[I", true)
  | _ => ("BargeChess$Game", "becameTugs", "[I", true)
def tyX1 : Nat → FieldType := fun k => match k with
  | 0 => .object "BargeChess$Board"
  | 1 => .object "BargeChess$History"
  | 2 => .boolean
  | 3 => .int
  | 4 => .int
  | 5 => .int
  | 6 => .array .int
  | 7 => .array .int
  | _ => .array .int
abbrev wsX10 : List Cond := u_ws RX1 TX1 9
theorem nmX1 : ∀ a, a < 9 → ∀ b, b < 9 → a ≠ b → (TX1 a).2.1 ≠ (TX1 b).2.1 := by decide +kernel
theorem tyX1_ok : ∀ k, k < 9 → parseFieldDescriptor (TX1 k).2.2.1 = some (tyX1 k) := by decide +kernel
abbrev cX1_init : ByteArray := prog_3_method_1_code
def yX1_init : MethodName := ⟨RX1, "<init>", "()V"⟩
abbrev cX1_copyFrom : ByteArray := prog_3_method_2_code
def yX1_copyFrom : MethodName := ⟨RX1, "copyFrom", "(LBargeChess$Game;)V"⟩
abbrev cX1_sideToMove : ByteArray := prog_3_method_3_code
def yX1_sideToMove : MethodName := ⟨RX1, "sideToMove", "()I"⟩
abbrev cX1_tide : ByteArray := prog_3_method_4_code
def yX1_tide : MethodName := ⟨RX1, "tide", "()I"⟩
abbrev cX1_goesOn : ByteArray := prog_3_method_5_code
def yX1_goesOn : MethodName := ⟨RX1, "goesOn", "()Z"⟩
abbrev cX1_openMoves : ByteArray := prog_3_method_6_code
def yX1_openMoves : MethodName := ⟨RX1, "openMoves", "()I"⟩
abbrev cX1_allows : ByteArray := prog_3_method_7_code
def yX1_allows : MethodName := ⟨RX1, "allows", "(II)Z"⟩
abbrev cX1_startPlay : ByteArray := prog_3_method_8_code
def yX1_startPlay : MethodName := ⟨RX1, "startPlay", "()V"⟩
abbrev cX1_carryOut : ByteArray := prog_3_method_9_code
def yX1_carryOut : MethodName := ⟨RX1, "carryOut", "(II)I"⟩
abbrev cX1_carryByTide : ByteArray := prog_3_method_10_code
def yX1_carryByTide : MethodName := ⟨RX1, "carryByTide", "()V"⟩
abbrev cX1_recordPosition : ByteArray := prog_3_method_11_code
def yX1_recordPosition : MethodName := ⟨RX1, "recordPosition", "()V"⟩
abbrev cX1_settleEnding : ByteArray := prog_3_method_12_code
def yX1_settleEnding : MethodName := ⟨RX1, "settleEnding", "()I"⟩
def RX2 : String := "BargeChess$History"
def TX2 : u_T := fun k => match k with
  | 0 => ("BargeChess$History", "count", "I", false)
  | 1 => ("BargeChess$History", "lowKeys", "[J", true)
  | _ => ("BargeChess$History", "highKeys", "[J", true)
def tyX2 : Nat → FieldType := fun k => match k with
  | 0 => .int
  | 1 => .array .long
  | _ => .array .long
abbrev wsX20 : List Cond := u_ws RX2 TX2 3
theorem nmX2 : ∀ a, a < 3 → ∀ b, b < 3 → a ≠ b → (TX2 a).2.1 ≠ (TX2 b).2.1 := by decide +kernel
theorem tyX2_ok : ∀ k, k < 3 → parseFieldDescriptor (TX2 k).2.2.1 = some (tyX2 k) := by decide +kernel
abbrev cX2_init : ByteArray := prog_4_method_1_code
def yX2_init : MethodName := ⟨RX2, "<init>", "()V"⟩
abbrev cX2_copyHistory : ByteArray := prog_4_method_2_code
def yX2_copyHistory : MethodName := ⟨RX2, "copyHistory", "(LBargeChess$History;)V"⟩
abbrev cX2_addPosition : ByteArray := prog_4_method_3_code
def yX2_addPosition : MethodName := ⟨RX2, "addPosition", "(JJ)V"⟩
abbrev cX2_timesOfLatest : ByteArray := prog_4_method_4_code
def yX2_timesOfLatest : MethodName := ⟨RX2, "timesOfLatest", "()I"⟩
abbrev cX2_timesUpTo : ByteArray := prog_4_method_5_code
def yX2_timesUpTo : MethodName := ⟨RX2, "timesUpTo", "(I)I"⟩
abbrev cX2_mostTimes : ByteArray := prog_4_method_6_code
def yX2_mostTimes : MethodName := ⟨RX2, "mostTimes", "()I"⟩
abbrev cX2_different : ByteArray := prog_4_method_7_code
def yX2_different : MethodName := ⟨RX2, "different", "()I"⟩
def RX3 : String := "BargeChess$MoveText"
def TX3 : u_T := fun k => match k with
  | 0 => ("BargeChess$MoveText", "length", "I", false)
  | 1 => ("BargeChess$MoveText", "codes", "[I", true)
  | 2 => ("BargeChess$MoveText", "moveCount", "I", false)
  | 3 => ("BargeChess$MoveText", "squares", "[I", true)
  | _ => ("BargeChess$MoveText", "directions", "[I", true)
def tyX3 : Nat → FieldType := fun k => match k with
  | 0 => .int
  | 1 => .array .int
  | 2 => .int
  | 3 => .array .int
  | _ => .array .int
abbrev wsX30 : List Cond := u_ws RX3 TX3 5
theorem nmX3 : ∀ a, a < 5 → ∀ b, b < 5 → a ≠ b → (TX3 a).2.1 ≠ (TX3 b).2.1 := by decide +kernel
theorem tyX3_ok : ∀ k, k < 5 → parseFieldDescriptor (TX3 k).2.2.1 = some (tyX3 k) := by decide +kernel
abbrev cX3_init : ByteArray := prog_5_method_1_code
def yX3_init : MethodName := ⟨RX3, "<init>", "()V"⟩
abbrev cX3_addCharacter : ByteArray := prog_5_method_2_code
def yX3_addCharacter : MethodName := ⟨RX3, "addCharacter", "(I)Z"⟩
abbrev cX3_clear : ByteArray := prog_5_method_3_code
def yX3_clear : MethodName := ⟨RX3, "clear", "()V"⟩
abbrev cX3_parse : ByteArray := prog_5_method_4_code
def yX3_parse : MethodName := ⟨RX3, "parse", "()I"⟩
abbrev cX3_addMove : ByteArray := prog_5_method_5_code
def yX3_addMove : MethodName := ⟨RX3, "addMove", "(II)V"⟩
abbrev cX3_directionOf : ByteArray := prog_5_method_6_code
def yX3_directionOf : MethodName := ⟨RX3, "directionOf", "(I)I"⟩
def RX4 : String := "BargeChess$Past"
def TX4 : u_T := fun k => match k with
  | 0 => ("BargeChess$Past", "games", "[LBargeChess$Game;", true)
  | 1 => ("BargeChess$Past", "next", "I", false)
  | _ => ("BargeChess$Past", "count", "I", false)
def tyX4 : Nat → FieldType := fun k => match k with
  | 0 => .array (.object "BargeChess$Game")
  | 1 => .int
  | _ => .int
abbrev wsX40 : List Cond := u_ws RX4 TX4 3
theorem nmX4 : ∀ a, a < 3 → ∀ b, b < 3 → a ≠ b → (TX4 a).2.1 ≠ (TX4 b).2.1 := by decide +kernel
theorem tyX4_ok : ∀ k, k < 3 → parseFieldDescriptor (TX4 k).2.2.1 = some (tyX4 k) := by decide +kernel
abbrev cX4_init : ByteArray := prog_6_method_1_code
def yX4_init : MethodName := ⟨RX4, "<init>", "()V"⟩
abbrev cX4_gameAt : ByteArray := prog_6_method_2_code
def yX4_gameAt : MethodName := ⟨RX4, "gameAt", "(I)LBargeChess$Game;"⟩
abbrev cX4_keep : ByteArray := prog_6_method_3_code
def yX4_keep : MethodName := ⟨RX4, "keep", "(LBargeChess$Game;)V"⟩
abbrev cX4_bringBack : ByteArray := prog_6_method_4_code
def yX4_bringBack : MethodName := ⟨RX4, "bringBack", "(LBargeChess$Game;)Z"⟩
abbrev cX4_forget : ByteArray := prog_6_method_5_code
def yX4_forget : MethodName := ⟨RX4, "forget", "()V"⟩
def RX5 : String := "BargeChess$Refusal"
def TX5 : u_T := fun k => match k with
  | 0 => ("BargeChess$Refusal", "reason", "I", false)
  | 1 => ("BargeChess$Refusal", "detail", "I", false)
  | 2 => ("BargeChess$Refusal", "moveNumber", "I", false)
  | 3 => ("BargeChess$Refusal", "cause", "I", false)
  | _ => ("BargeChess$Refusal", "causeDetail", "I", false)
def tyX5 : Nat → FieldType := fun k => match k with
  | 0 => .int
  | 1 => .int
  | 2 => .int
  | 3 => .int
  | _ => .int
abbrev wsX50 : List Cond := u_ws RX5 TX5 5
theorem nmX5 : ∀ a, a < 5 → ∀ b, b < 5 → a ≠ b → (TX5 a).2.1 ≠ (TX5 b).2.1 := by decide +kernel
theorem tyX5_ok : ∀ k, k < 5 → parseFieldDescriptor (TX5 k).2.2.1 = some (tyX5 k) := by decide +kernel
abbrev cX5_init : ByteArray := prog_7_method_1_code
def yX5_init : MethodName := ⟨RX5, "<init>", "()V"⟩
abbrev cX5_note : ByteArray := prog_7_method_2_code
def yX5_note : MethodName := ⟨RX5, "note", "(III)V"⟩
abbrev cX5_noteCause : ByteArray := prog_7_method_3_code
def yX5_noteCause : MethodName := ⟨RX5, "noteCause", "(II)V"⟩
def RX6 : String := "BargeChess"
def TX6 : u_T := fun k => match k with
  | 0 => ("BargeChess", "now", "LBargeChess$Game;", true)
  | 1 => ("BargeChess", "trial", "LBargeChess$Game;", true)
  | 2 => ("BargeChess", "saved", "LBargeChess$Game;", true)
  | 3 => ("BargeChess", "hasSaved", "Z", false)
  | 4 => ("BargeChess", "past", "LBargeChess$Past;", true)
  | 5 => ("BargeChess", "text", "LBargeChess$MoveText;", true)
  | 6 => ("BargeChess", "lastRefusal", "LBargeChess$Refusal;", true)
  | 7 => ("BargeChess", "line", "[I", true)
  | _ => ("BargeChess", "lineLength", "I", false)
def tyX6 : Nat → FieldType := fun k => match k with
  | 0 => .object "BargeChess$Game"
  | 1 => .object "BargeChess$Game"
  | 2 => .object "BargeChess$Game"
  | 3 => .boolean
  | 4 => .object "BargeChess$Past"
  | 5 => .object "BargeChess$MoveText"
  | 6 => .object "BargeChess$Refusal"
  | 7 => .array .int
  | _ => .int
abbrev wsX60 : List Cond := u_ws RX6 TX6 9
theorem nmX6 : ∀ a, a < 9 → ∀ b, b < 9 → a ≠ b → (TX6 a).2.1 ≠ (TX6 b).2.1 := by decide +kernel
theorem tyX6_ok : ∀ k, k < 9 → parseFieldDescriptor (TX6 k).2.2.1 = some (tyX6 k) := by decide +kernel
abbrev cX6_init : ByteArray := prog_1_method_1_code
def yX6_init : MethodName := ⟨RX6, "<init>", "()V"⟩
abbrev cX6_put : ByteArray := prog_1_method_2_code
def yX6_put : MethodName := ⟨RX6, "put", "(III)I"⟩
abbrev cX6_lock : ByteArray := prog_1_method_3_code
def yX6_lock : MethodName := ⟨RX6, "lock", "(II)I"⟩
abbrev cX6_begin : ByteArray := prog_1_method_4_code
def yX6_begin : MethodName := ⟨RX6, "begin", "()I"⟩
abbrev cX6_move : ByteArray := prog_1_method_5_code
def yX6_move : MethodName := ⟨RX6, "move", "(II)I"⟩
abbrev cX6_squareOf : ByteArray := prog_1_method_6_code
def yX6_squareOf : MethodName := ⟨RX6, "squareOf", "(II)I"⟩
abbrev cX6_lockOf : ByteArray := prog_1_method_7_code
def yX6_lockOf : MethodName := ⟨RX6, "lockOf", "(II)I"⟩
abbrev cX6_sideOf : ByteArray := prog_1_method_8_code
def yX6_sideOf : MethodName := ⟨RX6, "sideOf", "(II)I"⟩
abbrev cX6_moves : ByteArray := prog_1_method_9_code
def yX6_moves : MethodName := ⟨RX6, "moves", "()I"⟩
abbrev cX6_movesAgain : ByteArray := prog_1_method_10_code
def yX6_movesAgain : MethodName := ⟨RX6, "movesAgain", "()I"⟩
abbrev cX6_moveAt : ByteArray := prog_1_method_11_code
def yX6_moveAt : MethodName := ⟨RX6, "moveAt", "(I)I"⟩
abbrev cX6_repeats : ByteArray := prog_1_method_12_code
def yX6_repeats : MethodName := ⟨RX6, "repeats", "()I"⟩
abbrev cX6_mostRepeats : ByteArray := prog_1_method_13_code
def yX6_mostRepeats : MethodName := ⟨RX6, "mostRepeats", "()I"⟩
abbrev cX6_wouldPush : ByteArray := prog_1_method_14_code
def yX6_wouldPush : MethodName := ⟨RX6, "wouldPush", "(II)I"⟩
abbrev cX6_firstTake : ByteArray := prog_1_method_15_code
def yX6_firstTake : MethodName := ⟨RX6, "firstTake", "()I"⟩
abbrev cX6_ways : ByteArray := prog_1_method_16_code
def yX6_ways : MethodName := ⟨RX6, "ways", "(I)I"⟩
abbrev cX6_turnsIn : ByteArray := prog_1_method_17_code
def yX6_turnsIn : MethodName := ⟨RX6, "turnsIn", "(I)I"⟩
abbrev cX6_tideIn : ByteArray := prog_1_method_18_code
def yX6_tideIn : MethodName := ⟨RX6, "tideIn", "(I)I"⟩
abbrev cX6_describe : ByteArray := prog_1_method_19_code
def yX6_describe : MethodName := ⟨RX6, "describe", "(I)I"⟩
abbrev cX6_sign : ByteArray := prog_1_method_20_code
def yX6_sign : MethodName := ⟨RX6, "sign", "(I)I"⟩
abbrev cX6_append : ByteArray := prog_1_method_21_code
def yX6_append : MethodName := ⟨RX6, "append", "(I)I"⟩
abbrev cX6_read : ByteArray := prog_1_method_22_code
def yX6_read : MethodName := ⟨RX6, "read", "()I"⟩
abbrev cX6_refusal : ByteArray := prog_1_method_23_code
def yX6_refusal : MethodName := ⟨RX6, "refusal", "(I)I"⟩
abbrev cX6_account : ByteArray := prog_1_method_24_code
def yX6_account : MethodName := ⟨RX6, "account", "(I)I"⟩
abbrev cX6_mean : ByteArray := prog_1_method_25_code
def yX6_mean : MethodName := ⟨RX6, "mean", "()I"⟩
abbrev cX6_undo : ByteArray := prog_1_method_26_code
def yX6_undo : MethodName := ⟨RX6, "undo", "()I"⟩
abbrev cX6_save : ByteArray := prog_1_method_27_code
def yX6_save : MethodName := ⟨RX6, "save", "()I"⟩
abbrev cX6_restore : ByteArray := prog_1_method_28_code
def yX6_restore : MethodName := ⟨RX6, "restore", "()I"⟩
abbrev cX6_refuse : ByteArray := prog_1_method_29_code
def yX6_refuse : MethodName := ⟨RX6, "refuse", "(III)I"⟩
abbrev cX6_buildingError : ByteArray := prog_1_method_30_code
def yX6_buildingError : MethodName := ⟨RX6, "buildingError", "(III)I"⟩
abbrev cX6_moveError : ByteArray := prog_1_method_31_code
def yX6_moveError : MethodName := ⟨RX6, "moveError", "(LBargeChess$Game;III)I"⟩
abbrev cX6_isSquare : ByteArray := prog_1_method_32_code
def yX6_isSquare : MethodName := ⟨RX6, "isSquare", "(I)Z"⟩
abbrev cX6_isSide : ByteArray := prog_1_method_33_code
def yX6_isSide : MethodName := ⟨RX6, "isSide", "(I)Z"⟩
abbrev cX6_isDirection : ByteArray := prog_1_method_34_code
def yX6_isDirection : MethodName := ⟨RX6, "isDirection", "(I)Z"⟩
abbrev cX6_orNothing : ByteArray := prog_1_method_35_code
def yX6_orNothing : MethodName := ⟨RX6, "orNothing", "(I)I"⟩
abbrev cX6_otherSide : ByteArray := prog_1_method_36_code
def yX6_otherSide : MethodName := ⟨RX6, "otherSide", "(I)I"⟩
abbrev cX6_ownerOf : ByteArray := prog_1_method_37_code
def yX6_ownerOf : MethodName := ⟨RX6, "ownerOf", "(I)I"⟩
abbrev cX6_isTug : ByteArray := prog_1_method_38_code
def yX6_isTug : MethodName := ⟨RX6, "isTug", "(I)Z"⟩
abbrev cX6_goes : ByteArray := prog_1_method_39_code
def yX6_goes : MethodName := ⟨RX6, "goes", "(II)Z"⟩
abbrev cX6_strengthOf : ByteArray := prog_1_method_40_code
def yX6_strengthOf : MethodName := ⟨RX6, "strengthOf", "(I)I"⟩
abbrev cX6_lastRowOf : ByteArray := prog_1_method_41_code
def yX6_lastRowOf : MethodName := ⟨RX6, "lastRowOf", "(I)I"⟩
abbrev cX6_stepOf : ByteArray := prog_1_method_42_code
def yX6_stepOf : MethodName := ⟨RX6, "stepOf", "(I)I"⟩
abbrev cX6_roomFrom : ByteArray := prog_1_method_43_code
def yX6_roomFrom : MethodName := ⟨RX6, "roomFrom", "(II)I"⟩
abbrev cX6_ahead : ByteArray := prog_1_method_44_code
def yX6_ahead : MethodName := ⟨RX6, "ahead", "(III)I"⟩
abbrev cX6_fromEnd : ByteArray := prog_1_method_45_code
def yX6_fromEnd : MethodName := ⟨RX6, "fromEnd", "(III)I"⟩
abbrev cX6_bitsOf : ByteArray := prog_1_method_46_code
def yX6_bitsOf : MethodName := ⟨RX6, "bitsOf", "(F)I"⟩
def RX7 : String := "BargeChessModel"
def TX7 : u_T := fun k => match k with
  | 0 => ("BargeChessModel", "g", "[I", true)
  | 1 => ("BargeChessModel", "kept", "[I", true)
  | 2 => ("BargeChessModel", "saved", "[I", true)
  | 3 => ("BargeChessModel", "before", "[I", true)
  | 4 => ("BargeChessModel", "spare", "[I", true)
  | 5 => ("BargeChessModel", "isSaved", "Z", false)
  | 6 => ("BargeChessModel", "changes", "I", false)
  | 7 => ("BargeChessModel", "isWithin", "Z", false)
  | 8 => ("BargeChessModel", "why", "I", false)
  | 9 => ("BargeChessModel", "detail", "I", false)
  | 10 => ("BargeChessModel", "command", "I", false)
  | 11 => ("BargeChessModel", "cause", "I", false)
  | 12 => ("BargeChessModel", "causeDetail", "I", false)
  | 13 => ("BargeChessModel", "input", "[I", true)
  | 14 => ("BargeChessModel", "length", "I", false)
  | 15 => ("BargeChessModel", "signs", "[C", true)
  | 16 => ("BargeChessModel", "signMany", "I", false)
  | 17 => ("BargeChessModel", "at", "I", false)
  | 18 => ("BargeChessModel", "told", "[I", true)
  | _ => ("BargeChessModel", "toldMany", "I", false)
def tyX7 : Nat → FieldType := fun k => match k with
  | 0 => .array .int
  | 1 => .array .int
  | 2 => .array .int
  | 3 => .array .int
  | 4 => .array .int
  | 5 => .boolean
  | 6 => .int
  | 7 => .boolean
  | 8 => .int
  | 9 => .int
  | 10 => .int
  | 11 => .int
  | 12 => .int
  | 13 => .array .int
  | 14 => .int
  | 15 => .array .char
  | 16 => .int
  | 17 => .int
  | 18 => .array .int
  | _ => .int
abbrev wsX70 : List Cond := u_ws RX7 TX7 20
theorem nmX7 : ∀ a, a < 20 → ∀ b, b < 20 → a ≠ b → (TX7 a).2.1 ≠ (TX7 b).2.1 := by decide +kernel
theorem tyX7_ok : ∀ k, k < 20 → parseFieldDescriptor (TX7 k).2.2.1 = some (tyX7 k) := by decide +kernel
abbrev cX7_init : ByteArray := prog_9_method_1_code
def yX7_init : MethodName := ⟨RX7, "<init>", "()V"⟩
abbrev cX7_refuses : ByteArray := prog_9_method_2_code
def yX7_refuses : MethodName := ⟨RX7, "refuses", "(II)I"⟩
abbrev cX7_in : ByteArray := prog_9_method_3_code
def yX7_in : MethodName := ⟨RX7, "in", "(III)Z"⟩
abbrev cX7_isSquare : ByteArray := prog_9_method_4_code
def yX7_isSquare : MethodName := ⟨RX7, "isSquare", "(I)Z"⟩
abbrev cX7_copies : ByteArray := prog_9_method_5_code
def yX7_copies : MethodName := ⟨RX7, "copies", "([II[II)V"⟩
abbrev cX7_keeps : ByteArray := prog_9_method_6_code
def yX7_keeps : MethodName := ⟨RX7, "keeps", "([I)V"⟩
abbrev cX7_pieceAt : ByteArray := prog_9_method_7_code
def yX7_pieceAt : MethodName := ⟨RX7, "pieceAt", "(I)I"⟩
abbrev cX7_sideAt : ByteArray := prog_9_method_8_code
def yX7_sideAt : MethodName := ⟨RX7, "sideAt", "(I)I"⟩
abbrev cX7_kindAt : ByteArray := prog_9_method_9_code
def yX7_kindAt : MethodName := ⟨RX7, "kindAt", "(I)I"⟩
abbrev cX7_ofLock : ByteArray := prog_9_method_10_code
def yX7_ofLock : MethodName := ⟨RX7, "ofLock", "(II)I"⟩
abbrev cX7_lockAt : ByteArray := prog_9_method_11_code
def yX7_lockAt : MethodName := ⟨RX7, "lockAt", "(I)I"⟩
abbrev cX7_isClosed : ByteArray := prog_9_method_12_code
def yX7_isClosed : MethodName := ⟨RX7, "isClosed", "(I)Z"⟩
abbrev cX7_countOf : ByteArray := prog_9_method_13_code
def yX7_countOf : MethodName := ⟨RX7, "countOf", "(II)I"⟩
abbrev cX7_pieces : ByteArray := prog_9_method_14_code
def yX7_pieces : MethodName := ⟨RX7, "pieces", "(I)I"⟩
abbrev cX7_cannotBuild : ByteArray := prog_9_method_15_code
def yX7_cannotBuild : MethodName := ⟨RX7, "cannotBuild", "(I)Z"⟩
abbrev cX7_put : ByteArray := prog_9_method_16_code
def yX7_put : MethodName := ⟨RX7, "put", "(III)I"⟩
abbrev cX7_lock : ByteArray := prog_9_method_17_code
def yX7_lock : MethodName := ⟨RX7, "lock", "(II)I"⟩
abbrev cX7_begin : ByteArray := prog_9_method_18_code
def yX7_begin : MethodName := ⟨RX7, "begin", "()I"⟩
abbrev cX7_beside : ByteArray := prog_9_method_19_code
def yX7_beside : MethodName := ⟨RX7, "beside", "(II)I"⟩
abbrev cX7_lineFrom : ByteArray := prog_9_method_20_code
def yX7_lineFrom : MethodName := ⟨RX7, "lineFrom", "(II)I"⟩
abbrev cX7_endOf : ByteArray := prog_9_method_21_code
def yX7_endOf : MethodName := ⟨RX7, "endOf", "(II)I"⟩
abbrev cX7_goes : ByteArray := prog_9_method_22_code
def yX7_goes : MethodName := ⟨RX7, "goes", "(II)Z"⟩
abbrev cX7_against : ByteArray := prog_9_method_23_code
def yX7_against : MethodName := ⟨RX7, "against", "(II)I"⟩
abbrev cX7_againstDetail : ByteArray := prog_9_method_24_code
def yX7_againstDetail : MethodName := ⟨RX7, "againstDetail", "(II)I"⟩
abbrev cX7_shifts : ByteArray := prog_9_method_25_code
def yX7_shifts : MethodName := ⟨RX7, "shifts", "(II)V"⟩
abbrev cX7_pushes : ByteArray := prog_9_method_26_code
def yX7_pushes : MethodName := ⟨RX7, "pushes", "(III)V"⟩
abbrev cX7_locksTurn : ByteArray := prog_9_method_27_code
def yX7_locksTurn : MethodName := ⟨RX7, "locksTurn", "()V"⟩
abbrev cX7_carries : ByteArray := prog_9_method_28_code
def yX7_carries : MethodName := ⟨RX7, "carries", "(II)V"⟩
abbrev cX7_tides : ByteArray := prog_9_method_29_code
def yX7_tides : MethodName := ⟨RX7, "tides", "()V"⟩
abbrev cX7_boardPart : ByteArray := prog_9_method_30_code
def yX7_boardPart : MethodName := ⟨RX7, "boardPart", "(I)I"⟩
abbrev cX7_restPart : ByteArray := prog_9_method_31_code
def yX7_restPart : MethodName := ⟨RX7, "restPart", "()I"⟩
abbrev cX7_position : ByteArray := prog_9_method_32_code
def yX7_position : MethodName := ⟨RX7, "position", "()I"⟩
abbrev cX7_looks : ByteArray := prog_9_method_33_code
def yX7_looks : MethodName := ⟨RX7, "looks", "()I"⟩
abbrev cX7_makes : ByteArray := prog_9_method_34_code
def yX7_makes : MethodName := ⟨RX7, "makes", "(II)I"⟩
abbrev cX7_move : ByteArray := prog_9_method_35_code
def yX7_move : MethodName := ⟨RX7, "move", "(II)I"⟩
abbrev cX7_squareOf : ByteArray := prog_9_method_36_code
def yX7_squareOf : MethodName := ⟨RX7, "squareOf", "(II)I"⟩
abbrev cX7_lockOf : ByteArray := prog_9_method_37_code
def yX7_lockOf : MethodName := ⟨RX7, "lockOf", "(II)I"⟩
abbrev cX7_sideOf : ByteArray := prog_9_method_38_code
def yX7_sideOf : MethodName := ⟨RX7, "sideOf", "(II)I"⟩
abbrev cX7_goesOn : ByteArray := prog_9_method_39_code
def yX7_goesOn : MethodName := ⟨RX7, "goesOn", "()Z"⟩
abbrev cX7_isMove : ByteArray := prog_9_method_40_code
def yX7_isMove : MethodName := ⟨RX7, "isMove", "(II)Z"⟩
abbrev cX7_moves : ByteArray := prog_9_method_41_code
def yX7_moves : MethodName := ⟨RX7, "moves", "()I"⟩
abbrev cX7_movesAgain : ByteArray := prog_9_method_42_code
def yX7_movesAgain : MethodName := ⟨RX7, "movesAgain", "()I"⟩
abbrev cX7_moveAt : ByteArray := prog_9_method_43_code
def yX7_moveAt : MethodName := ⟨RX7, "moveAt", "(I)I"⟩
abbrev cX7_repeats : ByteArray := prog_9_method_44_code
def yX7_repeats : MethodName := ⟨RX7, "repeats", "()I"⟩
abbrev cX7_mostRepeats : ByteArray := prog_9_method_45_code
def yX7_mostRepeats : MethodName := ⟨RX7, "mostRepeats", "()I"⟩
abbrev cX7_wouldPush : ByteArray := prog_9_method_46_code
def yX7_wouldPush : MethodName := ⟨RX7, "wouldPush", "(II)I"⟩
abbrev cX7_isTake : ByteArray := prog_9_method_47_code
def yX7_isTake : MethodName := ⟨RX7, "isTake", "(II)Z"⟩
abbrev cX7_firstTake : ByteArray := prog_9_method_48_code
def yX7_firstTake : MethodName := ⟨RX7, "firstTake", "()I"⟩
abbrev cX7_ways : ByteArray := prog_9_method_49_code
def yX7_ways : MethodName := ⟨RX7, "ways", "(I)I"⟩
abbrev cX7_turnsIn : ByteArray := prog_9_method_50_code
def yX7_turnsIn : MethodName := ⟨RX7, "turnsIn", "(I)I"⟩
abbrev cX7_tideIn : ByteArray := prog_9_method_51_code
def yX7_tideIn : MethodName := ⟨RX7, "tideIn", "(I)I"⟩
abbrev cX7_describe : ByteArray := prog_9_method_52_code
def yX7_describe : MethodName := ⟨RX7, "describe", "(I)I"⟩
abbrev cX7_sign : ByteArray := prog_9_method_53_code
def yX7_sign : MethodName := ⟨RX7, "sign", "(I)I"⟩
abbrev cX7_append : ByteArray := prog_9_method_54_code
def yX7_append : MethodName := ⟨RX7, "append", "(I)I"⟩
abbrev cX7_here : ByteArray := prog_9_method_55_code
def yX7_here : MethodName := ⟨RX7, "here", "()I"⟩
abbrev cX7_moveHere : ByteArray := prog_9_method_56_code
def yX7_moveHere : MethodName := ⟨RX7, "moveHere", "()Z"⟩
abbrev cX7_isText : ByteArray := prog_9_method_57_code
def yX7_isText : MethodName := ⟨RX7, "isText", "()Z"⟩
abbrev cX7_read : ByteArray := prog_9_method_58_code
def yX7_read : MethodName := ⟨RX7, "read", "()I"⟩
abbrev cX7_refusal : ByteArray := prog_9_method_59_code
def yX7_refusal : MethodName := ⟨RX7, "refusal", "(I)I"⟩
abbrev cX7_closedMany : ByteArray := prog_9_method_60_code
def yX7_closedMany : MethodName := ⟨RX7, "closedMany", "()I"⟩
abbrev cX7_turnedAll : ByteArray := prog_9_method_61_code
def yX7_turnedAll : MethodName := ⟨RX7, "turnedAll", "()I"⟩
abbrev cX7_account : ByteArray := prog_9_method_62_code
def yX7_account : MethodName := ⟨RX7, "account", "(I)I"⟩
abbrev cX7_mean : ByteArray := prog_9_method_63_code
def yX7_mean : MethodName := ⟨RX7, "mean", "()I"⟩
abbrev cX7_undo : ByteArray := prog_9_method_64_code
def yX7_undo : MethodName := ⟨RX7, "undo", "()I"⟩
abbrev cX7_save : ByteArray := prog_9_method_65_code
def yX7_save : MethodName := ⟨RX7, "save", "()I"⟩
abbrev cX7_restore : ByteArray := prog_9_method_66_code
def yX7_restore : MethodName := ⟨RX7, "restore", "()I"⟩
def RJxf58ca : String := "java/lang/Float"
def TJxf58ca : u_T := fun k => match k with
  | _ => ("", "", "", false)
def tyJxf58ca : Nat → FieldType := fun k => match k with
  | _ => .int
abbrev wsJxf58ca0 : List Cond := u_ws RJxf58ca TJxf58ca 0
theorem nmJxf58ca : ∀ a, a < 0 → ∀ b, b < 0 → a ≠ b → (TJxf58ca a).2.1 ≠ (TJxf58ca b).2.1 := by decide +kernel
theorem tyJxf58ca_ok : ∀ k, k < 0 → parseFieldDescriptor (TJxf58ca k).2.2.1 = some (tyJxf58ca k) := by decide +kernel
abbrev cJxf58ca_isNaN_12338 : ByteArray := prog_10_method_6_code
def yJxf58ca_isNaN_12338 : MethodName := ⟨RJxf58ca, "isNaN", "(F)Z"⟩
abbrev cJxf58ca_floatToIntBits_5c35a : ByteArray := prog_10_method_24_code
def yJxf58ca_floatToIntBits_5c35a : MethodName := ⟨RJxf58ca, "floatToIntBits", "(F)I"⟩
def RJ9 : String := "java/lang/Math"
def TJ9 : u_T := fun k => match k with
  | _ => ("", "", "", false)
def tyJ9 : Nat → FieldType := fun k => match k with
  | _ => .int
abbrev wsJ90 : List Cond := u_ws RJ9 TJ9 0
theorem nmJ9 : ∀ a, a < 0 → ∀ b, b < 0 → a ≠ b → (TJ9 a).2.1 ≠ (TJ9 b).2.1 := by decide +kernel
theorem tyJ9_ok : ∀ k, k < 0 → parseFieldDescriptor (TJ9 k).2.2.1 = some (tyJ9 k) := by decide +kernel
abbrev cJ9_max_7cf53 : ByteArray := prog_11_method_65_code
def yJ9_max_7cf53 : MethodName := ⟨RJ9, "max", "(II)I"⟩
abbrev cJ9_min_7cf53 : ByteArray := prog_11_method_69_code
def yJ9_min_7cf53 : MethodName := ⟨RJ9, "min", "(II)I"⟩
def RJ0 : String := "java/lang/String"
def TJ0 : u_T := fun k => match k with
  | _ => ("", "", "", false)
def tyJ0 : Nat → FieldType := fun k => match k with
  | _ => .int
abbrev wsJ00 : List Cond := u_ws RJ0 TJ0 0
theorem nmJ0 : ∀ a, a < 0 → ∀ b, b < 0 → a ≠ b → (TJ0 a).2.1 ≠ (TJ0 b).2.1 := by decide +kernel
theorem tyJ0_ok : ∀ k, k < 0 → parseFieldDescriptor (TJ0 k).2.2.1 = some (tyJ0 k) := by decide +kernel
abbrev cJ0_charAt_5068e : ByteArray := prog_12_method_56_code
def yJ0_charAt_5068e : MethodName := ⟨RJ0, "charAt", "(I)C"⟩
abbrev cJ0_isLatin1_aae02 : ByteArray := prog_12_method_154_code
def yJ0_isLatin1_aae02 : MethodName := ⟨RJ0, "isLatin1", "()Z"⟩
abbrev cJ0_checkIndex_df160 : ByteArray := prog_12_method_155_code
def yJ0_checkIndex_df160 : MethodName := ⟨RJ0, "checkIndex", "(II)V"⟩
def RJ1 : String := "java/lang/StringLatin1"
def TJ1 : u_T := fun k => match k with
  | _ => ("", "", "", false)
def tyJ1 : Nat → FieldType := fun k => match k with
  | _ => .int
abbrev wsJ10 : List Cond := u_ws RJ1 TJ1 0
theorem nmJ1 : ∀ a, a < 0 → ∀ b, b < 0 → a ≠ b → (TJ1 a).2.1 ≠ (TJ1 b).2.1 := by decide +kernel
theorem tyJ1_ok : ∀ k, k < 0 → parseFieldDescriptor (TJ1 k).2.2.1 = some (tyJ1 k) := by decide +kernel
abbrev cJ1_charAt_3b067 : ByteArray := prog_13_method_2_code
def yJ1_charAt_3b067 : MethodName := ⟨RJ1, "charAt", "([BI)C"⟩
def RJ2 : String := "java/lang/StringUTF16"
def TJ2 : u_T := fun k => match k with
  | _ => ("", "", "", false)
def tyJ2 : Nat → FieldType := fun k => match k with
  | _ => .int
abbrev wsJ20 : List Cond := u_ws RJ2 TJ2 0
theorem nmJ2 : ∀ a, a < 0 → ∀ b, b < 0 → a ≠ b → (TJ2 a).2.1 ≠ (TJ2 b).2.1 := by decide +kernel
theorem tyJ2_ok : ∀ k, k < 0 → parseFieldDescriptor (TJ2 k).2.2.1 = some (tyJ2 k) := by decide +kernel
abbrev cJ2_getChar_3b067 : ByteArray := prog_14_method_5_code
def yJ2_getChar_3b067 : MethodName := ⟨RJ2, "getChar", "([BI)C"⟩
abbrev cJ2_length_9d52b : ByteArray := prog_14_method_6_code
def yJ2_length_9d52b : MethodName := ⟨RJ2, "length", "([B)I"⟩
abbrev cJ2_charAt_3b067 : ByteArray := prog_14_method_83_code
def yJ2_charAt_3b067 : MethodName := ⟨RJ2, "charAt", "([BI)C"⟩
abbrev cJ2_checkIndex_2214a : ByteArray := prog_14_method_91_code
def yJ2_checkIndex_2214a : MethodName := ⟨RJ2, "checkIndex", "(I[B)V"⟩
def RJ3 : String := "jdk/internal/util/Preconditions"
def TJ3 : u_T := fun k => match k with
  | _ => ("", "", "", false)
def tyJ3 : Nat → FieldType := fun k => match k with
  | _ => .int
abbrev wsJ30 : List Cond := u_ws RJ3 TJ3 0
theorem nmJ3 : ∀ a, a < 0 → ∀ b, b < 0 → a ≠ b → (TJ3 a).2.1 ≠ (TJ3 b).2.1 := by decide +kernel
theorem tyJ3_ok : ∀ k, k < 0 → parseFieldDescriptor (TJ3 k).2.2.1 = some (tyJ3 k) := by decide +kernel
abbrev cJ3_checkIndex_8e157 : ByteArray := prog_15_method_11_code
def yJ3_checkIndex_8e157 : MethodName := ⟨RJ3, "checkIndex", "(IILjava/util/function/BiFunction;)I"⟩
def RL : String := "BargeChessLaw"
abbrev cL_law : ByteArray := code
def yL_law : MethodName := ⟨RL, "law", "([I)Z"⟩
abbrev vwCl : List vw_C := [(RX0, TX0, 6), (RX1, TX1, 9), (RX2, TX2, 3), (RX3, TX3, 5), (RX4, TX4, 3), (RX5, TX5, 5), (RX6, TX6, 9), (RX7, TX7, 20)]
/-! the methods by number: as ag_Ms -/
def sg_y : List MethodName := [yX0_init, yX0_copyBoard, yX0_pieceAt, yX0_setPiece, yX0_countOf, yX0_tugsOf, yX0_hasLock, yX0_lockAt, yX0_isClosed, yX0_buildLock, yX0_turnLocks, yX0_closedLocks, yX0_allLockTurns, yX0_standing, yX0_causeAgainst, yX0_causeDetail, yX0_pushedOff, yX0_countMoves, yX0_movesInLane, yX0_promote, yX0_shift, yX0_carryRiver, yX0_drift, yX0_signOf, yX0_halfKey, yX0_closedKey, yX1_init, yX1_copyFrom, yX1_sideToMove, yX1_tide, yX1_goesOn, yX1_openMoves, yX1_allows, yX1_startPlay, yX1_carryOut, yX1_carryByTide, yX1_recordPosition, yX1_settleEnding, yX2_init, yX2_copyHistory, yX2_addPosition, yX2_timesOfLatest, yX2_timesUpTo, yX2_mostTimes, yX2_different, yX3_init, yX3_addCharacter, yX3_clear, yX3_parse, yX3_addMove, yX3_directionOf, yX4_init, yX4_gameAt, yX4_keep, yX4_bringBack, yX4_forget, yX5_init, yX5_note, yX5_noteCause, yX6_init, yX6_put, yX6_lock, yX6_begin, yX6_move, yX6_squareOf, yX6_lockOf, yX6_sideOf, yX6_moves, yX6_movesAgain, yX6_moveAt, yX6_repeats, yX6_mostRepeats, yX6_wouldPush, yX6_firstTake, yX6_ways, yX6_turnsIn, yX6_tideIn, yX6_describe, yX6_sign, yX6_append, yX6_read, yX6_refusal, yX6_account, yX6_mean, yX6_undo, yX6_save, yX6_restore, yX6_refuse, yX6_buildingError, yX6_moveError, yX6_isSquare, yX6_isSide, yX6_isDirection, yX6_orNothing, yX6_otherSide, yX6_ownerOf, yX6_isTug, yX6_goes, yX6_strengthOf, yX6_lastRowOf, yX6_stepOf, yX6_roomFrom, yX6_ahead, yX6_fromEnd, yX6_bitsOf, yX7_init, yX7_refuses, yX7_in, yX7_isSquare, yX7_copies, yX7_keeps, yX7_pieceAt, yX7_sideAt, yX7_kindAt, yX7_ofLock, yX7_lockAt, yX7_isClosed, yX7_countOf, yX7_pieces, yX7_cannotBuild, yX7_put, yX7_lock, yX7_begin, yX7_beside, yX7_lineFrom, yX7_endOf, yX7_goes, yX7_against, yX7_againstDetail, yX7_shifts, yX7_pushes, yX7_locksTurn, yX7_carries, yX7_tides, yX7_boardPart, yX7_restPart, yX7_position, yX7_looks, yX7_makes, yX7_move, yX7_squareOf, yX7_lockOf, yX7_sideOf, yX7_goesOn, yX7_isMove, yX7_moves, yX7_movesAgain, yX7_moveAt, yX7_repeats, yX7_mostRepeats, yX7_wouldPush, yX7_isTake, yX7_firstTake, yX7_ways, yX7_turnsIn, yX7_tideIn, yX7_describe, yX7_sign, yX7_append, yX7_here, yX7_moveHere, yX7_isText, yX7_read, yX7_refusal, yX7_closedMany, yX7_turnedAll, yX7_account, yX7_mean, yX7_undo, yX7_save, yX7_restore]
def sg_c : List ByteArray := [cX0_init, cX0_copyBoard, cX0_pieceAt, cX0_setPiece, cX0_countOf, cX0_tugsOf, cX0_hasLock, cX0_lockAt, cX0_isClosed, cX0_buildLock, cX0_turnLocks, cX0_closedLocks, cX0_allLockTurns, cX0_standing, cX0_causeAgainst, cX0_causeDetail, cX0_pushedOff, cX0_countMoves, cX0_movesInLane, cX0_promote, cX0_shift, cX0_carryRiver, cX0_drift, cX0_signOf, cX0_halfKey, cX0_closedKey, cX1_init, cX1_copyFrom, cX1_sideToMove, cX1_tide, cX1_goesOn, cX1_openMoves, cX1_allows, cX1_startPlay, cX1_carryOut, cX1_carryByTide, cX1_recordPosition, cX1_settleEnding, cX2_init, cX2_copyHistory, cX2_addPosition, cX2_timesOfLatest, cX2_timesUpTo, cX2_mostTimes, cX2_different, cX3_init, cX3_addCharacter, cX3_clear, cX3_parse, cX3_addMove, cX3_directionOf, cX4_init, cX4_gameAt, cX4_keep, cX4_bringBack, cX4_forget, cX5_init, cX5_note, cX5_noteCause, cX6_init, cX6_put, cX6_lock, cX6_begin, cX6_move, cX6_squareOf, cX6_lockOf, cX6_sideOf, cX6_moves, cX6_movesAgain, cX6_moveAt, cX6_repeats, cX6_mostRepeats, cX6_wouldPush, cX6_firstTake, cX6_ways, cX6_turnsIn, cX6_tideIn, cX6_describe, cX6_sign, cX6_append, cX6_read, cX6_refusal, cX6_account, cX6_mean, cX6_undo, cX6_save, cX6_restore, cX6_refuse, cX6_buildingError, cX6_moveError, cX6_isSquare, cX6_isSide, cX6_isDirection, cX6_orNothing, cX6_otherSide, cX6_ownerOf, cX6_isTug, cX6_goes, cX6_strengthOf, cX6_lastRowOf, cX6_stepOf, cX6_roomFrom, cX6_ahead, cX6_fromEnd, cX6_bitsOf, cX7_init, cX7_refuses, cX7_in, cX7_isSquare, cX7_copies, cX7_keeps, cX7_pieceAt, cX7_sideAt, cX7_kindAt, cX7_ofLock, cX7_lockAt, cX7_isClosed, cX7_countOf, cX7_pieces, cX7_cannotBuild, cX7_put, cX7_lock, cX7_begin, cX7_beside, cX7_lineFrom, cX7_endOf, cX7_goes, cX7_against, cX7_againstDetail, cX7_shifts, cX7_pushes, cX7_locksTurn, cX7_carries, cX7_tides, cX7_boardPart, cX7_restPart, cX7_position, cX7_looks, cX7_makes, cX7_move, cX7_squareOf, cX7_lockOf, cX7_sideOf, cX7_goesOn, cX7_isMove, cX7_moves, cX7_movesAgain, cX7_moveAt, cX7_repeats, cX7_mostRepeats, cX7_wouldPush, cX7_isTake, cX7_firstTake, cX7_ways, cX7_turnsIn, cX7_tideIn, cX7_describe, cX7_sign, cX7_append, cX7_here, cX7_moveHere, cX7_isText, cX7_read, cX7_refusal, cX7_closedMany, cX7_turnedAll, cX7_account, cX7_mean, cX7_undo, cX7_save, cX7_restore]
def sg_R : Nat → String := fun i => [RX0, RX1, RX2, RX3, RX4, RX5, RX6, RX7, RL].getD i RL
def sg_T : Nat → u_T := fun i => [TX0, TX1, TX2, TX3, TX4, TX5, TX6, TX7].getD i TX7
def sg_ty : Nat → Nat → FieldType := fun i => [tyX0, tyX1, tyX2, tyX3, tyX4, tyX5, tyX6, tyX7].getD i tyX7
def sg_dec (b : ByteArray) (l : List (Option (Instr × Nat))) : Bool := (l.zipIdx).all fun r => match r.1 with
  | some q => decide (decode b r.2 = .ok q)
  | none => true
theorem sg_dX0_init : sg_dec cX0_init ag_cX0_init = true := by decide +kernel
theorem sg_dX0_copyBoard : sg_dec cX0_copyBoard ag_cX0_copyBoard = true := by decide +kernel
theorem sg_dX0_pieceAt : sg_dec cX0_pieceAt ag_cX0_pieceAt = true := by decide +kernel
theorem sg_dX0_setPiece : sg_dec cX0_setPiece ag_cX0_setPiece = true := by decide +kernel
theorem sg_dX0_countOf : sg_dec cX0_countOf ag_cX0_countOf = true := by decide +kernel
theorem sg_dX0_tugsOf : sg_dec cX0_tugsOf ag_cX0_tugsOf = true := by decide +kernel
theorem sg_dX0_hasLock : sg_dec cX0_hasLock ag_cX0_hasLock = true := by decide +kernel
theorem sg_dX0_lockAt : sg_dec cX0_lockAt ag_cX0_lockAt = true := by decide +kernel
theorem sg_dX0_isClosed : sg_dec cX0_isClosed ag_cX0_isClosed = true := by decide +kernel
theorem sg_dX0_buildLock : sg_dec cX0_buildLock ag_cX0_buildLock = true := by decide +kernel
theorem sg_dX0_turnLocks : sg_dec cX0_turnLocks ag_cX0_turnLocks = true := by decide +kernel
theorem sg_dX0_closedLocks : sg_dec cX0_closedLocks ag_cX0_closedLocks = true := by decide +kernel
theorem sg_dX0_allLockTurns : sg_dec cX0_allLockTurns ag_cX0_allLockTurns = true := by decide +kernel
theorem sg_dX0_standing : sg_dec cX0_standing ag_cX0_standing = true := by decide +kernel
theorem sg_dX0_causeAgainst : sg_dec cX0_causeAgainst ag_cX0_causeAgainst = true := by decide +kernel
theorem sg_dX0_causeDetail : sg_dec cX0_causeDetail ag_cX0_causeDetail = true := by decide +kernel
theorem sg_dX0_pushedOff : sg_dec cX0_pushedOff ag_cX0_pushedOff = true := by decide +kernel
theorem sg_dX0_countMoves : sg_dec cX0_countMoves ag_cX0_countMoves = true := by decide +kernel
theorem sg_dX0_movesInLane : sg_dec cX0_movesInLane ag_cX0_movesInLane = true := by decide +kernel
theorem sg_dX0_promote : sg_dec cX0_promote ag_cX0_promote = true := by decide +kernel
theorem sg_dX0_shift : sg_dec cX0_shift ag_cX0_shift = true := by decide +kernel
theorem sg_dX0_carryRiver : sg_dec cX0_carryRiver ag_cX0_carryRiver = true := by decide +kernel
theorem sg_dX0_drift : sg_dec cX0_drift ag_cX0_drift = true := by decide +kernel
theorem sg_dX0_signOf : sg_dec cX0_signOf ag_cX0_signOf = true := by decide +kernel
theorem sg_dX0_halfKey : sg_dec cX0_halfKey ag_cX0_halfKey = true := by decide +kernel
theorem sg_dX0_closedKey : sg_dec cX0_closedKey ag_cX0_closedKey = true := by decide +kernel
theorem sg_dX1_init : sg_dec cX1_init ag_cX1_init = true := by decide +kernel
theorem sg_dX1_copyFrom : sg_dec cX1_copyFrom ag_cX1_copyFrom = true := by decide +kernel
theorem sg_dX1_sideToMove : sg_dec cX1_sideToMove ag_cX1_sideToMove = true := by decide +kernel
theorem sg_dX1_tide : sg_dec cX1_tide ag_cX1_tide = true := by decide +kernel
theorem sg_dX1_goesOn : sg_dec cX1_goesOn ag_cX1_goesOn = true := by decide +kernel
theorem sg_dX1_openMoves : sg_dec cX1_openMoves ag_cX1_openMoves = true := by decide +kernel
theorem sg_dX1_allows : sg_dec cX1_allows ag_cX1_allows = true := by decide +kernel
theorem sg_dX1_startPlay : sg_dec cX1_startPlay ag_cX1_startPlay = true := by decide +kernel
theorem sg_dX1_carryOut : sg_dec cX1_carryOut ag_cX1_carryOut = true := by decide +kernel
theorem sg_dX1_carryByTide : sg_dec cX1_carryByTide ag_cX1_carryByTide = true := by decide +kernel
theorem sg_dX1_recordPosition : sg_dec cX1_recordPosition ag_cX1_recordPosition = true := by decide +kernel
theorem sg_dX1_settleEnding : sg_dec cX1_settleEnding ag_cX1_settleEnding = true := by decide +kernel
theorem sg_dX2_init : sg_dec cX2_init ag_cX2_init = true := by decide +kernel
theorem sg_dX2_copyHistory : sg_dec cX2_copyHistory ag_cX2_copyHistory = true := by decide +kernel
theorem sg_dX2_addPosition : sg_dec cX2_addPosition ag_cX2_addPosition = true := by decide +kernel
theorem sg_dX2_timesOfLatest : sg_dec cX2_timesOfLatest ag_cX2_timesOfLatest = true := by decide +kernel
theorem sg_dX2_timesUpTo : sg_dec cX2_timesUpTo ag_cX2_timesUpTo = true := by decide +kernel
theorem sg_dX2_mostTimes : sg_dec cX2_mostTimes ag_cX2_mostTimes = true := by decide +kernel
theorem sg_dX2_different : sg_dec cX2_different ag_cX2_different = true := by decide +kernel
theorem sg_dX3_init : sg_dec cX3_init ag_cX3_init = true := by decide +kernel
theorem sg_dX3_addCharacter : sg_dec cX3_addCharacter ag_cX3_addCharacter = true := by decide +kernel
theorem sg_dX3_clear : sg_dec cX3_clear ag_cX3_clear = true := by decide +kernel
theorem sg_dX3_parse : sg_dec cX3_parse ag_cX3_parse = true := by decide +kernel
theorem sg_dX3_addMove : sg_dec cX3_addMove ag_cX3_addMove = true := by decide +kernel
theorem sg_dX3_directionOf : sg_dec cX3_directionOf ag_cX3_directionOf = true := by decide +kernel
theorem sg_dX4_init : sg_dec cX4_init ag_cX4_init = true := by decide +kernel
theorem sg_dX4_gameAt : sg_dec cX4_gameAt ag_cX4_gameAt = true := by decide +kernel
theorem sg_dX4_keep : sg_dec cX4_keep ag_cX4_keep = true := by decide +kernel
theorem sg_dX4_bringBack : sg_dec cX4_bringBack ag_cX4_bringBack = true := by decide +kernel
theorem sg_dX4_forget : sg_dec cX4_forget ag_cX4_forget = true := by decide +kernel
theorem sg_dX5_init : sg_dec cX5_init ag_cX5_init = true := by decide +kernel
theorem sg_dX5_note : sg_dec cX5_note ag_cX5_note = true := by decide +kernel
theorem sg_dX5_noteCause : sg_dec cX5_noteCause ag_cX5_noteCause = true := by decide +kernel
theorem sg_dX6_init : sg_dec cX6_init ag_cX6_init = true := by decide +kernel
theorem sg_dX6_put : sg_dec cX6_put ag_cX6_put = true := by decide +kernel
theorem sg_dX6_lock : sg_dec cX6_lock ag_cX6_lock = true := by decide +kernel
theorem sg_dX6_begin : sg_dec cX6_begin ag_cX6_begin = true := by decide +kernel
theorem sg_dX6_move : sg_dec cX6_move ag_cX6_move = true := by decide +kernel
theorem sg_dX6_squareOf : sg_dec cX6_squareOf ag_cX6_squareOf = true := by decide +kernel
theorem sg_dX6_lockOf : sg_dec cX6_lockOf ag_cX6_lockOf = true := by decide +kernel
theorem sg_dX6_sideOf : sg_dec cX6_sideOf ag_cX6_sideOf = true := by decide +kernel
theorem sg_dX6_moves : sg_dec cX6_moves ag_cX6_moves = true := by decide +kernel
theorem sg_dX6_movesAgain : sg_dec cX6_movesAgain ag_cX6_movesAgain = true := by decide +kernel
theorem sg_dX6_moveAt : sg_dec cX6_moveAt ag_cX6_moveAt = true := by decide +kernel
theorem sg_dX6_repeats : sg_dec cX6_repeats ag_cX6_repeats = true := by decide +kernel
theorem sg_dX6_mostRepeats : sg_dec cX6_mostRepeats ag_cX6_mostRepeats = true := by decide +kernel
theorem sg_dX6_wouldPush : sg_dec cX6_wouldPush ag_cX6_wouldPush = true := by decide +kernel
theorem sg_dX6_firstTake : sg_dec cX6_firstTake ag_cX6_firstTake = true := by decide +kernel
theorem sg_dX6_ways : sg_dec cX6_ways ag_cX6_ways = true := by decide +kernel
theorem sg_dX6_turnsIn : sg_dec cX6_turnsIn ag_cX6_turnsIn = true := by decide +kernel
theorem sg_dX6_tideIn : sg_dec cX6_tideIn ag_cX6_tideIn = true := by decide +kernel
theorem sg_dX6_describe : sg_dec cX6_describe ag_cX6_describe = true := by decide +kernel
theorem sg_dX6_sign : sg_dec cX6_sign ag_cX6_sign = true := by decide +kernel
theorem sg_dX6_append : sg_dec cX6_append ag_cX6_append = true := by decide +kernel
theorem sg_dX6_read : sg_dec cX6_read ag_cX6_read = true := by decide +kernel
theorem sg_dX6_refusal : sg_dec cX6_refusal ag_cX6_refusal = true := by decide +kernel
theorem sg_dX6_account : sg_dec cX6_account ag_cX6_account = true := by decide +kernel
theorem sg_dX6_mean : sg_dec cX6_mean ag_cX6_mean = true := by decide +kernel
theorem sg_dX6_undo : sg_dec cX6_undo ag_cX6_undo = true := by decide +kernel
theorem sg_dX6_save : sg_dec cX6_save ag_cX6_save = true := by decide +kernel
theorem sg_dX6_restore : sg_dec cX6_restore ag_cX6_restore = true := by decide +kernel
theorem sg_dX6_refuse : sg_dec cX6_refuse ag_cX6_refuse = true := by decide +kernel
theorem sg_dX6_buildingError : sg_dec cX6_buildingError ag_cX6_buildingError = true := by decide +kernel
theorem sg_dX6_moveError : sg_dec cX6_moveError ag_cX6_moveError = true := by decide +kernel
theorem sg_dX6_isSquare : sg_dec cX6_isSquare ag_cX6_isSquare = true := by decide +kernel
theorem sg_dX6_isSide : sg_dec cX6_isSide ag_cX6_isSide = true := by decide +kernel
theorem sg_dX6_isDirection : sg_dec cX6_isDirection ag_cX6_isDirection = true := by decide +kernel
theorem sg_dX6_orNothing : sg_dec cX6_orNothing ag_cX6_orNothing = true := by decide +kernel
theorem sg_dX6_otherSide : sg_dec cX6_otherSide ag_cX6_otherSide = true := by decide +kernel
theorem sg_dX6_ownerOf : sg_dec cX6_ownerOf ag_cX6_ownerOf = true := by decide +kernel
theorem sg_dX6_isTug : sg_dec cX6_isTug ag_cX6_isTug = true := by decide +kernel
theorem sg_dX6_goes : sg_dec cX6_goes ag_cX6_goes = true := by decide +kernel
theorem sg_dX6_strengthOf : sg_dec cX6_strengthOf ag_cX6_strengthOf = true := by decide +kernel
theorem sg_dX6_lastRowOf : sg_dec cX6_lastRowOf ag_cX6_lastRowOf = true := by decide +kernel
theorem sg_dX6_stepOf : sg_dec cX6_stepOf ag_cX6_stepOf = true := by decide +kernel
theorem sg_dX6_roomFrom : sg_dec cX6_roomFrom ag_cX6_roomFrom = true := by decide +kernel
theorem sg_dX6_ahead : sg_dec cX6_ahead ag_cX6_ahead = true := by decide +kernel
theorem sg_dX6_fromEnd : sg_dec cX6_fromEnd ag_cX6_fromEnd = true := by decide +kernel
theorem sg_dX6_bitsOf : sg_dec cX6_bitsOf ag_cX6_bitsOf = true := by decide +kernel
theorem sg_dX7_init : sg_dec cX7_init ag_cX7_init = true := by decide +kernel
theorem sg_dX7_refuses : sg_dec cX7_refuses ag_cX7_refuses = true := by decide +kernel
theorem sg_dX7_in : sg_dec cX7_in ag_cX7_in = true := by decide +kernel
theorem sg_dX7_isSquare : sg_dec cX7_isSquare ag_cX7_isSquare = true := by decide +kernel
theorem sg_dX7_copies : sg_dec cX7_copies ag_cX7_copies = true := by decide +kernel
theorem sg_dX7_keeps : sg_dec cX7_keeps ag_cX7_keeps = true := by decide +kernel
theorem sg_dX7_pieceAt : sg_dec cX7_pieceAt ag_cX7_pieceAt = true := by decide +kernel
theorem sg_dX7_sideAt : sg_dec cX7_sideAt ag_cX7_sideAt = true := by decide +kernel
theorem sg_dX7_kindAt : sg_dec cX7_kindAt ag_cX7_kindAt = true := by decide +kernel
theorem sg_dX7_ofLock : sg_dec cX7_ofLock ag_cX7_ofLock = true := by decide +kernel
theorem sg_dX7_lockAt : sg_dec cX7_lockAt ag_cX7_lockAt = true := by decide +kernel
theorem sg_dX7_isClosed : sg_dec cX7_isClosed ag_cX7_isClosed = true := by decide +kernel
theorem sg_dX7_countOf : sg_dec cX7_countOf ag_cX7_countOf = true := by decide +kernel
theorem sg_dX7_pieces : sg_dec cX7_pieces ag_cX7_pieces = true := by decide +kernel
theorem sg_dX7_cannotBuild : sg_dec cX7_cannotBuild ag_cX7_cannotBuild = true := by decide +kernel
theorem sg_dX7_put : sg_dec cX7_put ag_cX7_put = true := by decide +kernel
theorem sg_dX7_lock : sg_dec cX7_lock ag_cX7_lock = true := by decide +kernel
theorem sg_dX7_begin : sg_dec cX7_begin ag_cX7_begin = true := by decide +kernel
theorem sg_dX7_beside : sg_dec cX7_beside ag_cX7_beside = true := by decide +kernel
theorem sg_dX7_lineFrom : sg_dec cX7_lineFrom ag_cX7_lineFrom = true := by decide +kernel
theorem sg_dX7_endOf : sg_dec cX7_endOf ag_cX7_endOf = true := by decide +kernel
theorem sg_dX7_goes : sg_dec cX7_goes ag_cX7_goes = true := by decide +kernel
theorem sg_dX7_against : sg_dec cX7_against ag_cX7_against = true := by decide +kernel
theorem sg_dX7_againstDetail : sg_dec cX7_againstDetail ag_cX7_againstDetail = true := by decide +kernel
theorem sg_dX7_shifts : sg_dec cX7_shifts ag_cX7_shifts = true := by decide +kernel
theorem sg_dX7_pushes : sg_dec cX7_pushes ag_cX7_pushes = true := by decide +kernel
theorem sg_dX7_locksTurn : sg_dec cX7_locksTurn ag_cX7_locksTurn = true := by decide +kernel
theorem sg_dX7_carries : sg_dec cX7_carries ag_cX7_carries = true := by decide +kernel
theorem sg_dX7_tides : sg_dec cX7_tides ag_cX7_tides = true := by decide +kernel
theorem sg_dX7_boardPart : sg_dec cX7_boardPart ag_cX7_boardPart = true := by decide +kernel
theorem sg_dX7_restPart : sg_dec cX7_restPart ag_cX7_restPart = true := by decide +kernel
theorem sg_dX7_position : sg_dec cX7_position ag_cX7_position = true := by decide +kernel
theorem sg_dX7_looks : sg_dec cX7_looks ag_cX7_looks = true := by decide +kernel
theorem sg_dX7_makes : sg_dec cX7_makes ag_cX7_makes = true := by decide +kernel
theorem sg_dX7_move : sg_dec cX7_move ag_cX7_move = true := by decide +kernel
theorem sg_dX7_squareOf : sg_dec cX7_squareOf ag_cX7_squareOf = true := by decide +kernel
theorem sg_dX7_lockOf : sg_dec cX7_lockOf ag_cX7_lockOf = true := by decide +kernel
theorem sg_dX7_sideOf : sg_dec cX7_sideOf ag_cX7_sideOf = true := by decide +kernel
theorem sg_dX7_goesOn : sg_dec cX7_goesOn ag_cX7_goesOn = true := by decide +kernel
theorem sg_dX7_isMove : sg_dec cX7_isMove ag_cX7_isMove = true := by decide +kernel
theorem sg_dX7_moves : sg_dec cX7_moves ag_cX7_moves = true := by decide +kernel
theorem sg_dX7_movesAgain : sg_dec cX7_movesAgain ag_cX7_movesAgain = true := by decide +kernel
theorem sg_dX7_moveAt : sg_dec cX7_moveAt ag_cX7_moveAt = true := by decide +kernel
theorem sg_dX7_repeats : sg_dec cX7_repeats ag_cX7_repeats = true := by decide +kernel
theorem sg_dX7_mostRepeats : sg_dec cX7_mostRepeats ag_cX7_mostRepeats = true := by decide +kernel
theorem sg_dX7_wouldPush : sg_dec cX7_wouldPush ag_cX7_wouldPush = true := by decide +kernel
theorem sg_dX7_isTake : sg_dec cX7_isTake ag_cX7_isTake = true := by decide +kernel
theorem sg_dX7_firstTake : sg_dec cX7_firstTake ag_cX7_firstTake = true := by decide +kernel
theorem sg_dX7_ways : sg_dec cX7_ways ag_cX7_ways = true := by decide +kernel
theorem sg_dX7_turnsIn : sg_dec cX7_turnsIn ag_cX7_turnsIn = true := by decide +kernel
theorem sg_dX7_tideIn : sg_dec cX7_tideIn ag_cX7_tideIn = true := by decide +kernel
theorem sg_dX7_describe : sg_dec cX7_describe ag_cX7_describe = true := by decide +kernel
theorem sg_dX7_sign : sg_dec cX7_sign ag_cX7_sign = true := by decide +kernel
theorem sg_dX7_append : sg_dec cX7_append ag_cX7_append = true := by decide +kernel
theorem sg_dX7_here : sg_dec cX7_here ag_cX7_here = true := by decide +kernel
theorem sg_dX7_moveHere : sg_dec cX7_moveHere ag_cX7_moveHere = true := by decide +kernel
theorem sg_dX7_isText : sg_dec cX7_isText ag_cX7_isText = true := by decide +kernel
theorem sg_dX7_read : sg_dec cX7_read ag_cX7_read = true := by decide +kernel
theorem sg_dX7_refusal : sg_dec cX7_refusal ag_cX7_refusal = true := by decide +kernel
theorem sg_dX7_closedMany : sg_dec cX7_closedMany ag_cX7_closedMany = true := by decide +kernel
theorem sg_dX7_turnedAll : sg_dec cX7_turnedAll ag_cX7_turnedAll = true := by decide +kernel
theorem sg_dX7_account : sg_dec cX7_account ag_cX7_account = true := by decide +kernel
theorem sg_dX7_mean : sg_dec cX7_mean ag_cX7_mean = true := by decide +kernel
theorem sg_dX7_undo : sg_dec cX7_undo ag_cX7_undo = true := by decide +kernel
theorem sg_dX7_save : sg_dec cX7_save ag_cX7_save = true := by decide +kernel
theorem sg_dX7_restore : sg_dec cX7_restore ag_cX7_restore = true := by decide +kernel
theorem sg_dL_law : sg_dec cL_law ag_cL_law = true := by decide +kernel
end
section
/-! what the tables' words say of each link: their places in lw_tbl (printed by wip/whole/gen_words.py), and the checks -/
def sg_ret (rt : Nat) : Option FieldType := [none, some .int, some .boolean, some .long, some (.object "BargeChess$Game")].getD rt none
def sg_yo (y : Nat) : MethodName := sg_y.getD y ⟨"", "", ""⟩
def sg_co (y : Nat) : ByteArray := sg_c.getD y ⟨#[]⟩
def sg_M0 : ag_M := (0, 0, false, 0, [])
def sg_Mo (y : Nat) : ag_M := ag_Ms.getD y sg_M0
def sg_code (y : Nat) : Cond := .code (sg_yo y) (sg_co y) (sg_Mo y).2.2.2.1 (sg_ret (sg_Mo y).2.1)
def sg_host : String := "BargeChess"
def sg_fl (ci ix t k : Nat) : Cond := if ci = t then .fieldLink (sg_R ci) ix (sg_R t) ((sg_T t) k).2.1 ((sg_T t) k).2.2.1 else .fieldLinkNest (sg_R ci) ix (sg_R t) ((sg_T t) k).2.1 ((sg_T t) k).2.2.1 sg_host
def sg_lk (n ci ix y : Nat) : Cond := if n = 0 then .methodLink (sg_R ci) ix (sg_yo y) else .methodLinkNest (sg_R ci) ix (sg_yo y) sg_host
def sg_at (p : Nat) (w : Cond) : Bool := decide (lw_tbl[p]? = some w)
def sg_par (y n : Nat) : Bool := decide ((parseMethodDescriptor (sg_yo y).desc).map (fun d => d.parameters.length) = some n)
def sg_pF : List (List Nat) := [[124, 127, 129, 131, 133, 125], [167, 169, 179, 181, 183, 171, 173, 175, 177], [157, 158, 156], [232, 235, 237, 230, 233], [213, 214, 215], [256, 258, 260, 262, 264], [277, 278, 279, 281, 282, 283, 284, 168, 126, 172, 176, 128, 130, 132, 134, 180, 182, 184, 170, 285, 231, 234, 236, 238, 257, 259, 261, 263, 265, 174, 178, 216, 280], [718, 719, 720, 721, 722, 728, 731, 733, 736, 726, 727, 729, 725, 724, 730, 734, 732, 735, 737, 723], []]
def sg_pM : List (List (Nat × Nat × Nat × Nat)) := [[(0, 123, 110, 111), (1, 319, 320, 0), (1, 488, 437, 0), (0, 459, 344, 6), (0, 406, 340, 5), (1, 440, 441, 0), (1, 447, 448, 0), (1, 433, 434, 0), (0, 443, 445, 25), (1, 450, 451, 0), (0, 455, 457, 26), (1, 460, 461, 0), (0, 429, 431, 24), (1, 525, 526, 0), (1, 500, 501, 0), (0, 503, 371, 12), (0, 528, 530, 38)], [(0, 117, 110, 111), (1, 120, 121, 0), (1, 152, 153, 0), (1, 358, 360, 10), (1, 362, 364, 11), (0, 467, 469, 28), (0, 397, 399, 17), (1, 425, 427, 23), (1, 577, 340, 5), (1, 508, 320, 0), (1, 578, 431, 24), (0, 389, 391, 15), (0, 412, 414, 20), (1, 494, 313, 0), (1, 495, 445, 25), (1, 496, 498, 32), (1, 504, 506, 33), (1, 509, 511, 34), (0, 513, 515, 35), (0, 517, 519, 36), (1, 521, 523, 37), (1, 393, 395, 16), (1, 401, 403, 18), (1, 408, 410, 19), (1, 416, 418, 21), (1, 424, 317, 0)], [(0, 155, 110, 111), (0, 420, 422, 22), (0, 592, 593, 0)], [(0, 229, 110, 111), (0, 653, 654, 0), (0, 656, 658, 48)], [(0, 209, 110, 111), (1, 212, 115, 0), (0, 350, 352, 8), (1, 354, 356, 9), (0, 366, 367, 0)], [(0, 255, 110, 111), (0, 334, 336, 4)], [(0, 109, 110, 111), (1, 114, 115, 0), (1, 206, 207, 0), (1, 226, 227, 0), (1, 252, 253, 0), (0, 309, 310, 0), (0, 312, 313, 0), (1, 315, 317, 0), (0, 322, 324, 1), (1, 346, 348, 7), (1, 369, 371, 12), (1, 377, 379, 13), (0, 326, 328, 2), (1, 385, 387, 14), (1, 463, 465, 27), (0, 475, 477, 29), (1, 490, 492, 31), (1, 338, 340, 5), (0, 536, 537, 0), (1, 342, 344, 6), (1, 539, 457, 26), (1, 544, 546, 39), (1, 552, 554, 40), (1, 564, 469, 28), (1, 482, 399, 17), (1, 565, 567, 41), (1, 573, 575, 42), (1, 583, 418, 21), (1, 588, 590, 43), (0, 479, 480, 0), (1, 483, 431, 24), (1, 599, 445, 25), (0, 604, 605, 0), (1, 607, 609, 44), (0, 439, 320, 0), (1, 615, 356, 9), (1, 624, 519, 36), (1, 629, 631, 45), (1, 641, 643, 46), (1, 649, 651, 47), (1, 660, 662, 49), (1, 672, 674, 50), (1, 676, 678, 51), (1, 680, 682, 52), (0, 688, 689, 0), (1, 696, 698, 53), (1, 708, 710, 54), (1, 330, 332, 3), (1, 484, 486, 30), (1, 489, 336, 4), (0, 436, 437, 0), (0, 453, 441, 0), (0, 454, 448, 0)], [(0, 717, 110, 111), (0, 787, 788, 0), (0, 814, 815, 0), (0, 798, 800, 57), (0, 806, 808, 59), (0, 802, 804, 58), (0, 821, 823, 62), (0, 794, 796, 56), (0, 784, 785, 0), (0, 790, 792, 55), (0, 810, 812, 60), (0, 817, 819, 61), (0, 833, 835, 63), (0, 849, 850, 851), (0, 877, 878, 0), (0, 873, 875, 72), (0, 861, 863, 69), (0, 869, 871, 71), (0, 880, 882, 73), (0, 884, 886, 74), (0, 888, 890, 75), (0, 865, 867, 70), (0, 908, 910, 79), (0, 920, 922, 82), (0, 841, 843, 65), (0, 845, 847, 66), (0, 837, 839, 64), (0, 904, 906, 78), (0, 912, 914, 80), (0, 916, 918, 81), (0, 896, 898, 76), (0, 900, 902, 77), (0, 857, 859, 68), (0, 853, 855, 67), (0, 961, 963, 83), (0, 982, 983, 984), (0, 1043, 1045, 86), (0, 1039, 1041, 85), (0, 1035, 1037, 84), (0, 1048, 893, 894), (0, 1057, 1059, 87), (0, 1061, 1063, 88), (0, 1069, 1070, 0)], [(0, 106, 107, 0), (0, 714, 715, 0), (0, 305, 306, 307), (0, 780, 781, 782), (0, 373, 374, 375), (0, 825, 826, 827), (0, 381, 382, 383), (0, 829, 830, 831), (0, 471, 472, 473), (0, 892, 893, 894), (0, 532, 533, 534), (0, 924, 925, 926), (0, 540, 541, 542), (0, 928, 929, 930), (0, 548, 549, 550), (0, 932, 933, 934), (0, 556, 557, 558), (0, 936, 850, 851), (0, 560, 561, 562), (0, 937, 938, 939), (0, 569, 570, 571), (0, 941, 942, 943), (0, 579, 580, 581), (0, 945, 946, 947), (0, 584, 585, 586), (0, 949, 950, 951), (0, 595, 596, 597), (0, 953, 954, 955), (0, 600, 601, 602), (0, 957, 958, 959), (0, 611, 612, 613), (0, 965, 966, 967), (0, 616, 617, 618), (0, 969, 970, 971), (0, 620, 621, 622), (0, 973, 974, 975), (0, 625, 626, 627), (0, 977, 978, 979), (0, 633, 634, 635), (0, 1023, 1024, 1025), (0, 637, 638, 639), (0, 1027, 1028, 1029), (0, 645, 646, 647), (0, 1031, 1032, 1033), (0, 664, 665, 666), (0, 1049, 1050, 1051), (0, 668, 669, 670), (0, 1053, 1054, 1055), (0, 684, 685, 686), (0, 1065, 1066, 1067), (0, 692, 693, 694), (0, 1079, 1080, 1081), (0, 700, 701, 702), (0, 1083, 1084, 1085), (0, 704, 705, 706), (0, 1087, 1088, 1089)]]
def sg_pO : List (Nat × Nat) := [(122, 92), (361, 92), (341, 92), (372, 92), (318, 92), (555, 92), (547, 92), (345, 92), (458, 92), (380, 92), (512, 92), (675, 92), (679, 92), (446, 92), (432, 92), (487, 92), (610, 92), (428, 92), (568, 92), (499, 92), (507, 92), (524, 92), (531, 92), (632, 92), (404, 92), (396, 92), (116, 91), (357, 91), (400, 91), (520, 91), (470, 91), (466, 91), (576, 91), (388, 91), (493, 91), (516, 91), (392, 91), (415, 91), (154, 93), (365, 93), (411, 93), (419, 93), (423, 93), (591, 93), (683, 93), (228, 95), (644, 95), (663, 95), (652, 95), (659, 95), (655, 95), (208, 94), (353, 94), (349, 94), (699, 94), (711, 94), (254, 96), (333, 96), (337, 96), (108, 90), (308, 90), (376, 90), (384, 90), (474, 90), (535, 90), (543, 90), (551, 90), (559, 90), (563, 90), (572, 90), (582, 90), (587, 90), (598, 90), (603, 90), (614, 90), (619, 90), (623, 90), (628, 90), (636, 90), (640, 90), (648, 90), (667, 90), (671, 90), (687, 90), (695, 90), (703, 90), (707, 90), (329, 90), (325, 90), (478, 90), (311, 90), (314, 90), (481, 90), (538, 90), (606, 90), (321, 90), (438, 90), (435, 90), (462, 90), (502, 90), (449, 90), (442, 90), (452, 90), (527, 90), (690, 90), (716, 97), (797, 97), (789, 97), (786, 97), (816, 97), (813, 97), (801, 97), (864, 97), (876, 97), (809, 97), (805, 97), (887, 97), (824, 97), (820, 97), (793, 97), (783, 97), (828, 97), (832, 97), (879, 97), (891, 97), (883, 97), (872, 97), (868, 97), (899, 97), (907, 97), (911, 97), (915, 97), (923, 97), (919, 97), (848, 97), (844, 97), (840, 97), (836, 97), (903, 97), (895, 97), (927, 97), (931, 97), (935, 97), (860, 97), (856, 97), (852, 97), (940, 97), (944, 97), (948, 97), (952, 97), (956, 97), (964, 97), (960, 97), (968, 97), (972, 97), (976, 97), (980, 97), (1026, 97), (1030, 97), (1046, 97), (1042, 97), (1038, 97), (1034, 97), (1052, 97), (1060, 97), (1064, 97), (1056, 97), (1068, 97), (1082, 97), (1086, 97), (1090, 97)]
/-- the method's own words -/
def sg_own (y : Nat) (q : Nat × Nat) : Bool := sg_at q.1 (sg_code y) && sg_at q.2 (.initialized (sg_yo y).cls) && decide ((sg_yo y).cls ≠ "java/lang/invoke/MethodHandle" ∧ (sg_yo y).cls ≠ "java/lang/invoke/VarHandle") && decide ((sg_yo y).cls = sg_R (sg_Mo y).1) && plainName (sg_yo y).cls && decide ((sg_Mo y).1 < 8)
def sg_mOk (ci : Nat) (e : Nat × (Nat × Nat × Nat × Nat)) (q : Nat × Nat × Nat × Nat) : Bool :=
  if e.2.1 = 1 then decide (e.2.2.1 < 171) && sg_at q.2.1 (sg_lk q.1 ci e.1 e.2.2.1) && sg_at q.2.2.1 (.static (sg_yo e.2.2.1)) && sg_par e.2.2.1 e.2.2.2.1
  else if e.2.1 = 2 then decide (e.2.2.1 < 171) && sg_at q.2.1 (sg_lk q.1 ci e.1 e.2.2.1) && sg_at q.2.2.1 (.instanceMethod (sg_yo e.2.2.1)) && sg_at q.2.2.2 (.selects (sg_R e.2.2.2.2) (sg_yo e.2.2.1) (sg_yo e.2.2.1)) && sg_par e.2.2.1 (e.2.2.2.1 - 1) && decide (0 < e.2.2.2.1 ∧ e.2.2.2.2 < 8)
  else if e.2.1 = 3 then decide (e.2.2.1 < 171) && sg_at q.2.1 (sg_lk q.1 ci e.1 e.2.2.1) && sg_at q.2.2.1 (.instanceMethod (sg_yo e.2.2.1)) && decide ((sg_yo e.2.2.1).name = "<init>" ∧ (sg_Mo e.2.2.1).2.1 = 0) && sg_par e.2.2.1 (e.2.2.2.1 - 1) && decide (0 < e.2.2.2.1 ∧ e.2.2.2.2 < 8)
  else if e.2.1 = 10 then sg_at q.2.1 (.methodLink (sg_R ci) e.1 Lib.objectInit) && sg_at q.2.2.1 (.instanceMethod Lib.objectInit) && sg_at q.2.2.2 (.code Lib.objectInit ⟨#[0xb1]⟩ 1 none)
  else true
theorem sg_f : ∀ ci, ci < 9 → (((ag_tF.getD ci []).zip (sg_pF.getD ci [])).all fun e => sg_at e.2 (sg_fl ci e.1.1 e.1.2.1 e.1.2.2)) = true := by decide +kernel
theorem sg_m0 : (((ag_tM.getD 0 []).zip (sg_pM.getD 0 [])).all fun e => sg_mOk 0 e.1 e.2) = true := by decide +kernel
theorem sg_m1 : (((ag_tM.getD 1 []).zip (sg_pM.getD 1 [])).all fun e => sg_mOk 1 e.1 e.2) = true := by decide +kernel
theorem sg_m2 : (((ag_tM.getD 2 []).zip (sg_pM.getD 2 [])).all fun e => sg_mOk 2 e.1 e.2) = true := by decide +kernel
theorem sg_m3 : (((ag_tM.getD 3 []).zip (sg_pM.getD 3 [])).all fun e => sg_mOk 3 e.1 e.2) = true := by decide +kernel
theorem sg_m4 : (((ag_tM.getD 4 []).zip (sg_pM.getD 4 [])).all fun e => sg_mOk 4 e.1 e.2) = true := by decide +kernel
theorem sg_m5 : (((ag_tM.getD 5 []).zip (sg_pM.getD 5 [])).all fun e => sg_mOk 5 e.1 e.2) = true := by decide +kernel
theorem sg_m6 : (((ag_tM.getD 6 []).zip (sg_pM.getD 6 [])).all fun e => sg_mOk 6 e.1 e.2) = true := by decide +kernel
theorem sg_m7 : (((ag_tM.getD 7 []).zip (sg_pM.getD 7 [])).all fun e => sg_mOk 7 e.1 e.2) = true := by decide +kernel
theorem sg_m8 : (((ag_tM.getD 8 []).zip (sg_pM.getD 8 [])).all fun e => sg_mOk 8 e.1 e.2) = true := by decide +kernel
theorem sg_o0 : ((List.range 30).all fun y => decide (171 ≤ 0 + y) || sg_own (0 + y) (sg_pO.getD (0 + y) (0, 0))) = true := by decide +kernel
theorem sg_o1 : ((List.range 30).all fun y => decide (171 ≤ 30 + y) || sg_own (30 + y) (sg_pO.getD (30 + y) (0, 0))) = true := by decide +kernel
theorem sg_o2 : ((List.range 30).all fun y => decide (171 ≤ 60 + y) || sg_own (60 + y) (sg_pO.getD (60 + y) (0, 0))) = true := by decide +kernel
theorem sg_o3 : ((List.range 30).all fun y => decide (171 ≤ 90 + y) || sg_own (90 + y) (sg_pO.getD (90 + y) (0, 0))) = true := by decide +kernel
theorem sg_o4 : ((List.range 30).all fun y => decide (171 ≤ 120 + y) || sg_own (120 + y) (sg_pO.getD (120 + y) (0, 0))) = true := by decide +kernel
theorem sg_o5 : ((List.range 30).all fun y => decide (171 ≤ 150 + y) || sg_own (150 + y) (sg_pO.getD (150 + y) (0, 0))) = true := by decide +kernel
end
section
/-! numbers of the abstract machine against the machine's -/
theorem sg_ti {a : Int} (h : ag_in a) : (Int32.ofInt a).toInt = a := Int32.toInt_ofInt_of_le h.1 h.2
theorem sg_tl {a : Int} (h : ag_inL a) : (Int64.ofInt a).toInt = a := Int64.toInt_ofInt_of_le h.1 h.2
theorem sg_eq {a b : Int} (ha : ag_in a) (hb : ag_in b) : Int32.ofInt a = Int32.ofInt b ↔ a = b := ⟨fun h => by rw [← sg_ti ha, h, sg_ti hb], fun h => by rw [h]⟩
theorem sg_lt {a b : Int} (ha : ag_in a) (hb : ag_in b) : Int32.ofInt a < Int32.ofInt b ↔ a < b := by rw [Int32.lt_iff_toInt_lt, sg_ti ha, sg_ti hb]
theorem sg_le {a b : Int} (ha : ag_in a) (hb : ag_in b) : Int32.ofInt a ≤ Int32.ofInt b ↔ a ≤ b := by rw [Int32.le_iff_toInt_le, sg_ti ha, sg_ti hb]
theorem sg_eqL {a b : Int} (ha : ag_inL a) (hb : ag_inL b) : Int64.ofInt a = Int64.ofInt b ↔ a = b := ⟨fun h => by rw [← sg_tl ha, h, sg_tl hb], fun h => by rw [h]⟩
theorem sg_ltL {a b : Int} (ha : ag_inL a) (hb : ag_inL b) : Int64.ofInt a < Int64.ofInt b ↔ a < b := by rw [Int64.lt_iff_toInt_lt, sg_tl ha, sg_tl hb]
theorem sg_in0 : ag_in 0 := by decide
theorem sg_nat {i : Int} (h0 : 0 ≤ i) (h1 : i < 100000) : (Int32.ofInt i).toNatClampNeg = i.toNat := by
  show (Int32.ofInt i).toInt.toNat = i.toNat
  rw [sg_ti ⟨by omega, by omega⟩]
theorem sg_vp {i : Int} {n : Nat} (h0 : 0 ≤ i) (h1 : i < n) (hn : n ≤ 100000) : vp_in (Int32.ofInt i) n := by
  have e := sg_nat h0 (by omega)
  intro h
  rcases h with h | h
  · rw [show (0 : Int32) = Int32.ofInt 0 from rfl, sg_lt ⟨by omega, by omega⟩ sg_in0] at h
    omega
  · rw [e] at h
    omega
/-! values and worlds -/
def sg_up (bs : Nat) (ax : Nat → Nat) : av → Value
  | .inl z => .int (Int32.ofInt z)
  | .inr (.inl z) => .long (Int64.ofInt z)
  | .inr (.inr (.inl b)) => .float b
  | .inr (.inr (.inr (.inl (some k)))) => .ref (bs + k)
  | .inr (.inr (.inr (.inl none))) => .null
  | .inr (.inr (.inr (.inr k))) => .ref (ax k)
def sg_rf (bs : Nat) (r : Option Nat) : Value := match r with
  | none => .null
  | some k => .ref (bs + k)
def sg_fs (bs : Nat) (m : Nat → Int → Int) (k : Nat) (c : ag_C) : List Value := (List.range c.2.1).map fun i => if ag_kind c.1 i = 2 then sg_rf bs (c.2.2.getD i none) else .int (Int32.ofInt (m k i))
def sg_E (bs : Nat) (dA : Nat → ClassId) (m : Nat → Int → Int) (k : Nat) (c : ag_C) : va_E :=
  if c.1 < 8 then .inr (c.1, sg_fs bs m k c)
  else if c.1 = 11 then .inl (dA 11, c.2.1, .inr (.inl fun i => Int64.ofInt (m k i)))
  else if c.1 = 12 then .inl (dA 12, c.2.1, .inr (.inr (.inr (.inr fun i => (c.2.2.getD i none).map (bs + ·)))))
  else .inl (dA c.1, c.2.1, .inl fun i => Int32.ofInt (m k i))
def sg_W (bs : Nat) (dA : Nat → ClassId) (h : ag_H) : va_W := h.1.mapIdx fun k c => (bs + k, sg_E bs dA h.2 k c)
theorem sg_W_get {bs : Nat} {dA : Nat → ClassId} {h : ag_H} {k : Nat} {c : ag_C} (hk : h.1[k]? = some c) : (sg_W bs dA h)[k]? = some (bs + k, sg_E bs dA h.2 k c) := by
  simp [sg_W, List.getElem?_mapIdx, hk]
theorem sg_W_len {bs : Nat} {dA : Nat → ClassId} {h : ag_H} : (sg_W bs dA h).length = h.1.length := by simp [sg_W]
theorem sg_W_D {bs : Nat} {dA : Nat → ClassId} {h : ag_H} : va_D (fun q => bs ≤ q) (sg_W bs dA h) := by
  have key : ∀ (k : Nat) (q : Nat × va_E), (sg_W bs dA h)[k]? = some q → q.1 = bs + k := by
    intro k q hq
    simp only [sg_W, List.getElem?_mapIdx, Option.map_eq_some_iff] at hq
    obtain ⟨c, -, rfl⟩ := hq
    rfl
  refine ⟨fun i j p q hp hq e => ?_, fun k q hq => ?_⟩
  · have h1 := key i p hp
    have h2 := key j q hq
    omega
  · have h1 := key k q hq
    show bs ≤ q.1
    omega
/-- changing what one cell holds, in the abstract heap, is changing one place of the world -/
theorem sg_W_set {bs : Nat} {dA : Nat → ClassId} {sh : List ag_C} {m m' : Nat → Int → Int} {k : Nat} {c c' : ag_C} {e : va_E} (hk : sh[k]? = some c) (hm : ∀ j, j ≠ k → m' j = m j) (he : sg_E bs dA m' k c' = e) : sg_W bs dA (sh.set k c', m') = (sg_W bs dA (sh, m)).set k (bs + k, e) := by
  have hl := (List.getElem?_eq_some_iff.mp hk).1
  apply List.ext_getElem?
  intro j
  by_cases hj : j = k
  · subst hj
    rw [List.getElem?_set_self (by rw [sg_W_len]; exact hl)]
    rw [sg_W_get (h := (sh.set j c', m')) (c := c') (by simp [hl]), he]
  · rw [List.getElem?_set_ne (Ne.symm hj)]
    simp only [sg_W, List.getElem?_mapIdx, List.getElem?_set_ne (Ne.symm hj)]
    cases sh[j]? with
    | none => rfl
    | some d =>
      simp only [Option.map_some, sg_E, sg_fs, hm j hj]
theorem sg_W_upd {bs : Nat} {dA : Nat → ClassId} {sh : List ag_C} {m : Nat → Int → Int} {k : Nat} {i z : Int} {c : ag_C} {e : va_E} (hk : sh[k]? = some c) (he : sg_E bs dA (ag_upd m k i z) k c = e) : sg_W bs dA (sh, ag_upd m k i z) = (sg_W bs dA (sh, m)).set k (bs + k, e) := by
  have h1 : sh = sh.set k c := by
    apply List.ext_getElem?
    intro j
    by_cases hj : j = k
    · subst hj
      rw [List.getElem?_set_self (List.getElem?_eq_some_iff.mp hk).1, hk]
    · rw [List.getElem?_set_ne (Ne.symm hj)]
  have h2 := sg_W_set (bs := bs) (dA := dA) (m := m) (m' := ag_upd m k i z) (c' := c) hk (fun j hj => by funext x; simp [ag_upd, hj]) he
  rw [← h1] at h2
  exact h2
theorem sg_W_push {bs : Nat} {dA : Nat → ClassId} {sh : List ag_C} {m : Nat → Int → Int} {c : ag_C} {e : va_E} (he : sg_E bs dA (ag_zero m sh.length) sh.length c = e) : sg_W bs dA (sh ++ [c], ag_zero m sh.length) = sg_W bs dA (sh, m) ++ [(bs + sh.length, e)] := by
  apply List.ext_getElem?
  intro j
  simp only [sg_W, List.mapIdx_append, List.mapIdx_cons, List.mapIdx_nil, Nat.zero_add]
  rw [List.getElem?_append, List.getElem?_append]
  simp only [List.length_mapIdx, List.getElem?_mapIdx]
  by_cases hj : j < sh.length
  · simp only [hj, if_true]
    have hne : ¬ j = sh.length := by omega
    cases sh[j]? with
    | none => rfl
    | some d => 
      have hz : ag_zero m sh.length j = m j := by funext x; simp [ag_zero, hne]
      simp only [Option.map_some, sg_E, sg_fs, hz]
  · simp only [hj, if_false, ← he]
def sg_ss (sh : List ag_C) : Nat := (sh.map fun c => c.2.1).sum
theorem sg_ss_push (sh : List ag_C) (c : ag_C) : sg_ss (sh ++ [c]) = sg_ss sh + c.2.1 := by simp [sg_ss]
theorem sg_ss_set {sh : List ag_C} {k : Nat} {t n : Nat} {rs rs' : List (Option Nat)} {t' : Nat} (hk : sh[k]? = some (t, n, rs)) : sg_ss (sh.set k (t', n, rs')) = sg_ss sh := by
  have hl := (List.getElem?_eq_some_iff.mp hk).1
  have e : (sh.set k (t', n, rs')).map (fun c => c.2.1) = sh.map (fun c => c.2.1) := by
    apply List.ext_getElem?
    intro j
    by_cases hj : j = k
    · subst hj
      simp [hl, hk]
      have h2 := (List.getElem?_eq_some_iff.mp hk).2
      simp [h2]
    · simp [List.getElem?_set_ne (Ne.symm hj)]
  simp only [sg_ss, e]
end
section
/-! each instruction: from the abstract frame behind it to the one ahead of it -/
def sg_lv (bs : Nat) (ax : Nat → Nat) (ls : List (Option av)) : List (Nat × Value) := ls.zipIdx.filterMap fun q => q.1.map fun v => (q.2, sg_up bs ax v)
theorem sg_lv_mem {bs : Nat} {ax : Nat → Nat} {ls : List (Option av)} {i : Nat} {w : Value} : (i, w) ∈ sg_lv bs ax ls ↔ ∃ v, ls[i]? = some (some v) ∧ sg_up bs ax v = w := by
  simp only [sg_lv, List.mem_filterMap, Option.map_eq_some_iff]
  constructor
  · rintro ⟨⟨o, j⟩, hq, v, rfl, e⟩
    have h1 := List.mem_zipIdx_iff_getElem?.mp hq
    cases e
    exact ⟨v, h1, rfl⟩
  · rintro ⟨v, hv, rfl⟩
    exact ⟨(some v, i), List.mem_zipIdx_iff_getElem?.mpr hv, v, rfl, rfl⟩
def sg_L (bs : Nat) (ax : Nat → Nat) (nL : Nat) (ls : List (Option av)) (rl : Array Slot) : Prop := lv_has rl nL (sg_lv bs ax ls) ∧ ls.length = nL
theorem sg_L.get {bs : Nat} {ax : Nat → Nat} {nL : Nat} {ls : List (Option av)} {rl : Array Slot} (h : sg_L bs ax nL ls rl) {i : Nat} {v : av} (hi : ls[i]? = some (some v)) : rl[i]? = some (.val (sg_up bs ax v)) :=
  h.1.2.2 (i, sg_up bs ax v) (sg_lv_mem.mpr ⟨v, hi, rfl⟩)
theorem sg_cat (bs : Nat) (ax : Nat → Nat) (v : av) : (sg_up bs ax v).category = if ag_wide (some v) = true then 2 else 1 := by
  rcases v with z | z | b | (_ | r) | k <;> rfl
theorem sg_st_len (ls : List (Option av)) (i : Nat) (v : av) : (ag_st ls i v).length = ls.length := by
  unfold ag_st
  dsimp only
  split <;> split <;> simp
theorem sg_st_get {ls : List (Option av)} {i j : Nat} {v w : av} (h : (ag_st ls i v)[j]? = some (some w)) : j = i ∧ w = v ∨ j ≠ i ∧ ls[j]? = some (some w) ∧ (ag_wide (some v) = true → j ≠ i + 1) ∧ ¬ (j + 1 = i ∧ ag_wide (some w) = true) := by
  unfold ag_st at h
  dsimp only at h
  have base : ∀ (l1 : List (Option av)), l1 = (if 0 < i ∧ ag_wide (ls.getD (i - 1) none) = true then ls.set (i - 1) none else ls) → ∀ j w, l1[j]? = some (some w) → ls[j]? = some (some w) ∧ ¬ (j + 1 = i ∧ ag_wide (some w) = true) := by
    intro l1 e j w hj
    subst e
    by_cases hc : 0 < i ∧ ag_wide (ls.getD (i - 1) none) = true
    · rw [if_pos hc] at hj
      by_cases hji : i - 1 = j
      · subst hji
        rw [List.getElem?_set_self'] at hj
        cases hq : ls[i - 1]? with
        | none => rw [hq] at hj; cases hj
        | some o => rw [hq] at hj; cases hj
      · rw [List.getElem?_set_ne hji] at hj
        exact ⟨hj, fun q => hji (by omega)⟩
    · rw [if_neg hc] at hj
      refine ⟨hj, fun q => hc ⟨by omega, ?_⟩⟩
      rw [show i - 1 = j by omega, List.getD_eq_getElem?_getD, hj]
      exact q.2
  generalize hl : (if 0 < i ∧ ag_wide (ls.getD (i - 1) none) = true then ls.set (i - 1) none else ls) = l1 at h
  have hb := base l1 hl.symm
  by_cases hv : ag_wide (some v) = true
  · rw [if_pos hv] at h
    by_cases hj1 : i + 1 = j
    · subst hj1
      rw [List.getElem?_set_self'] at h
      cases hq : (l1.set i (some v))[i + 1]? with
      | none => rw [hq] at h; cases h
      | some o => rw [hq] at h; cases h
    · rw [List.getElem?_set_ne hj1] at h
      by_cases hj : i = j
      · subst hj
        rw [List.getElem?_set_self'] at h
        cases hq : l1[i]? with
        | none => rw [hq] at h; cases h
        | some o => rw [hq] at h; cases h; exact Or.inl ⟨rfl, rfl⟩
      · rw [List.getElem?_set_ne hj] at h
        exact Or.inr ⟨fun q => hj q.symm, (hb j w h).1, fun _ q => hj1 q.symm, (hb j w h).2⟩
  · rw [if_neg hv] at h
    by_cases hj : i = j
    · subst hj
      rw [List.getElem?_set_self'] at h
      cases hq : l1[i]? with
      | none => rw [hq] at h; cases h
      | some o => rw [hq] at h; cases h; exact Or.inl ⟨rfl, rfl⟩
    · rw [List.getElem?_set_ne hj] at h
      exact Or.inr ⟨fun q => hj q.symm, (hb j w h).1, fun q => absurd q hv, (hb j w h).2⟩
theorem sg_L.put1 {bs : Nat} {ax : Nat → Nat} {nL : Nat} {ls : List (Option av)} {rl rl' : Array Slot} (h : sg_L bs ax nL ls rl) {i : Nat} {v : av} {x : Value} (hx : sg_up bs ax v = x) (hv : ag_wide (some v) = false) (h' : lv_has rl' nL ((i, x) :: (sg_lv bs ax ls).filter (fun q => !(q.1 == i) && !(q.1 + 1 == i && q.2.category == 2)))) : sg_L bs ax nL (ag_st ls i v) rl' := by
  refine ⟨⟨h'.1, h'.2.1, fun q hq => h'.2.2 q ?_⟩, by rw [sg_st_len]; exact h.2⟩
  obtain ⟨j, w⟩ := q
  obtain ⟨u, hu, rfl⟩ := sg_lv_mem.mp hq
  rcases sg_st_get hu with ⟨rfl, rfl⟩ | ⟨h1, h2, -, h4⟩
  · rw [hx]; exact List.mem_cons_self
  · refine List.mem_cons_of_mem _ (List.mem_filter.mpr ⟨sg_lv_mem.mpr ⟨u, h2, rfl⟩, ?_⟩)
    have h5 : ¬ (j + 1 = i ∧ (sg_up bs ax u).category = 2) := fun q => h4 ⟨q.1, by
      have := q.2
      rw [sg_cat] at this
      by_cases hw : ag_wide (some u) = true
      · exact hw
      · rw [if_neg hw] at this; cases this⟩
    simp [h1]
    by_cases q : j + 1 = i
    · exact Or.inr (fun z => h5 ⟨q, z⟩)
    · exact Or.inl q
theorem sg_L.put2 {bs : Nat} {ax : Nat → Nat} {nL : Nat} {ls : List (Option av)} {rl rl' : Array Slot} (h : sg_L bs ax nL ls rl) {i : Nat} {v : av} {x : Value} (hx : sg_up bs ax v = x) (hv : ag_wide (some v) = true) (h' : lv_has rl' nL ((i, x) :: (sg_lv bs ax ls).filter (fun q => !(q.1 == i) && (!(q.1 == i + 1) && !(q.1 + 1 == i && q.2.category == 2))))) : sg_L bs ax nL (ag_st ls i v) rl' := by
  refine ⟨⟨h'.1, h'.2.1, fun q hq => h'.2.2 q ?_⟩, by rw [sg_st_len]; exact h.2⟩
  obtain ⟨j, w⟩ := q
  obtain ⟨u, hu, rfl⟩ := sg_lv_mem.mp hq
  rcases sg_st_get hu with ⟨rfl, rfl⟩ | ⟨h1, h2, h3, h4⟩
  · rw [hx]; exact List.mem_cons_self
  · refine List.mem_cons_of_mem _ (List.mem_filter.mpr ⟨sg_lv_mem.mpr ⟨u, h2, rfl⟩, ?_⟩)
    have h5 : ¬ (j + 1 = i ∧ (sg_up bs ax u).category = 2) := fun q => h4 ⟨q.1, by
      have := q.2
      rw [sg_cat] at this
      by_cases hw : ag_wide (some u) = true
      · exact hw
      · rw [if_neg hw] at this; cases this⟩
    simp [h1, h3 hv]
    by_cases q : j + 1 = i
    · exact Or.inr (fun z => h5 ⟨q, z⟩)
    · exact Or.inl q
section SGR
variable {p : Program} {l : Launch} {e : Env} {R : Room} {s : State} {m : MethodId} {args : Array Value} {below : List Frame} {meth : Method} {c : Code} {Q : State → Prop} {cc : ByteArray} {nL bs n0 s0 : Nat} {dA : Nat → ClassId} {ax : Nat → Nat} {D : va_G}
/-- the walk goes on from this abstract frame, however the machine holds it -/
def sg_J (p : Program) (l : Launch) (e : Env) (R : Room) (s : State) (m : MethodId) (args : Array Value) (below : List Frame) (meth : Method) (c : Code) (Q : State → Prop) (nL bs n0 s0 : Nat) (dA : Nat → ClassId) (ax : Nat → Nat) (D : va_G) (f : ag_F) : Prop :=
  ∀ (H : Heap) (locs : List Loc) (rl : Array Slot) (cells slots : Nat), va_P D vwCl (sg_W bs dA f.2.2.2) H → H.size = bs + f.2.2.2.1.length → va_S (fun q => bs ≤ q) s.heap H locs → sg_L bs ax nL f.2.1 rl → cells + n0 = f.2.2.2.1.length → slots + s0 = sg_ss f.2.2.2.1 →
    W p l e R s m args below meth c H locs cells slots Q (F0 m f.1 rl (f.2.2.1.map (sg_up bs ax)))
variable {pc : Nat} {ls : List (Option av)} {st : List av} {h : ag_H}
end SGR
/-! numbers again -/
theorem sg_nn {a : Int} (h0 : 0 ≤ a) : a = ((a.toNat : Nat) : Int) := by omega
theorem sg_ofN (n : Nat) : Int32.ofInt (n : Int) = Int32.ofNat n := rfl
theorem sg_div {a b : Int} (h0 : 0 ≤ a) (h1 : ag_in a) (h2 : 0 < b) (h3 : ag_in b) : Int32.ofInt a / Int32.ofInt b = Int32.ofInt (a / b) := by
  have hb : Int32.ofInt b ≠ -1 := fun q => by
    have : (Int32.ofInt b).toInt = (-1 : Int32).toInt := by rw [q]
    rw [sg_ti h3] at this
    have h9 : (-1 : Int32).toInt = -1 := by decide
    omega
  apply Int32.toInt_inj.mp
  rw [Int32.toInt_div_of_ne_right _ _ hb, sg_ti h1, sg_ti h3, Int.tdiv_eq_ediv_of_nonneg h0]
  have h4 : a / b ≤ a := Int.ediv_le_self b h0
  have h5 : 0 ≤ a / b := Int.ediv_nonneg h0 (by omega)
  rw [sg_ti ⟨by omega, by have := h1.2; omega⟩]
theorem sg_rem {a b : Int} (h0 : 0 ≤ a) (h1 : ag_in a) (h2 : 0 < b) (h3 : ag_in b) : Int32.ofInt a - Int32.ofInt a / Int32.ofInt b * Int32.ofInt b = Int32.ofInt (a % b) := by
  rw [sg_div h0 h1 h2 h3, ← Int32.ofInt_mul, ← Int32.ofInt_sub, Int.emod_def, Int.mul_comm]
theorem sg_nz {b : Int} (h2 : 0 < b) (h3 : ag_in b) : ¬ Int32.ofInt b = 0 := fun q => by
  rw [show (0 : Int32) = Int32.ofInt 0 from rfl, sg_eq h3 sg_in0] at q
  omega
theorem sg_or {a b : Int} (h0 : 0 ≤ a) (h1 : 0 ≤ b) : Int32.ofInt a ||| Int32.ofInt b = Int32.ofInt ((a.toNat ||| b.toNat : Nat) : Int) := by
  obtain ⟨n, rfl⟩ := Int.eq_ofNat_of_zero_le h0
  obtain ⟨k, rfl⟩ := Int.eq_ofNat_of_zero_le h1
  rw [sg_ofN, sg_ofN, sg_ofN]
  apply Int32.toBitVec.inj
  apply BitVec.eq_of_toNat_eq
  simp [Int32.toBitVec_ofNat', Nat.or_mod_two_pow]
theorem sg_shl {a b : Int} (h0 : 0 ≤ a) (h1 : 0 ≤ b) (h2 : b < 31) : Int32.ofInt a <<< (Int32.ofInt b &&& 31) = Int32.ofInt (a * ((2 ^ b.toNat : Nat) : Int)) := by
  obtain ⟨n, rfl⟩ := Int.eq_ofNat_of_zero_le h0
  obtain ⟨k, rfl⟩ := Int.eq_ofNat_of_zero_le h1
  have hk : k < 31 := by omega
  have h8 : ∀ k, k < 31 → Int32.ofNat k &&& 31 = Int32.ofNat k := by decide
  rw [show ((n : Int) * ((2 ^ ((k : Int).toNat) : Nat) : Int)) = ((n * 2 ^ k : Nat) : Int) by simp, sg_ofN, sg_ofN, sg_ofN, h8 k hk]
  apply Int32.toBitVec.inj
  apply BitVec.eq_of_toNat_eq
  have h9 : ∀ k, k < 31 → ((Int32.ofNat k).toBitVec.smod 32).toNat = k := by decide
  simp [Int32.toBitVec_ofNat', Nat.shiftLeft_eq]
  have h10 : ((BitVec.ofNat 32 k).smod 32#32).toNat = k := h9 k hk
  rw [h10]
theorem sg_and (a : Int) : Int32.ofInt a &&& Int32.ofInt 31 = Int32.ofInt (a % 32) := by
  apply Int32.toBitVec.inj
  apply BitVec.eq_of_toNat_eq
  have h1 : ∀ x : Nat, x &&& 31 = x % 32 := fun x => Nat.and_two_pow_sub_one_eq_mod x 5
  simp [Int32.toBitVec_ofInt, BitVec.toNat_ofInt, h1]
  omega
theorem sg_i2l {a : Int} (h1 : ag_in a) : (Int32.ofInt a).toInt64 = Int64.ofInt a := by
  apply Int64.toInt_inj.mp
  have := h1.1
  have := h1.2
  rw [Int32.toInt_toInt64, sg_ti h1, sg_tl ⟨by omega, by omega⟩]
theorem sg_lcmp {a b : Int} (ha : ag_inL a) (hb : ag_inL b) : lg_cmp (Int64.ofInt a) (Int64.ofInt b) = Int32.ofInt (if a < b then -1 else if a = b then 0 else 1) := by
  unfold lg_cmp
  simp only [sg_ltL ha hb, sg_eqL ha hb, sg_ltL hb ha]
  repeat' split
  all_goals first | rfl | omega
end
section
/-! the rows, one an instruction (printed by wip/whole/gen_instr.py) -/
section SGI
variable {p : Program} {l : Launch} {e : Env} {R : Room} {s : State} {m : MethodId} {args : Array Value} {below : List Frame} {meth : Method} {c : Code} {Q : State → Prop} {cc : ByteArray} {nL bs n0 s0 : Nat} {dA : Nat → ClassId} {ax : Nat → Nat} {D : va_G}
variable {pc : Nat} {ls : List (Option av)} {st : List av} {h : ag_H}
theorem sg_iconst (hx : p.tables.exec = Jvm.exec) (hb : c.code = cc) {z : Int} (hd : decode cc pc = .ok (.iconst z, 1)) (k : sg_J p l e R s m args below meth c Q nL bs n0 s0 dA ax D (pc + 1, ls, vI z :: st, h)) : sg_J p l e R s m args below meth c Q nL bs n0 s0 dA ax D (pc, ls, st, h) := by
  intro H locs rl cells slots hP hz hS hL hc hs
  refine lv_iconst (v := Int32.ofInt z) hx hb hd rfl ?_
  exact k H locs rl cells slots hP hz hS hL hc hs
theorem sg_bipush (hx : p.tables.exec = Jvm.exec) (hb : c.code = cc) {z : Int} (hz2 : (Int8.ofInt z).toInt32 = Int32.ofInt z) (hd : decode cc pc = .ok (.bipush z, 2)) (k : sg_J p l e R s m args below meth c Q nL bs n0 s0 dA ax D (pc + 2, ls, vI z :: st, h)) : sg_J p l e R s m args below meth c Q nL bs n0 s0 dA ax D (pc, ls, st, h) := by
  intro H locs rl cells slots hP hz hS hL hc hs
  refine lv_bipush (v := Int32.ofInt z) hx hb hd hz2 ?_
  exact k H locs rl cells slots hP hz hS hL hc hs
theorem sg_sipush (hx : p.tables.exec = Jvm.exec) (hb : c.code = cc) {z : Int} (hz2 : (Int16.ofInt z).toInt32 = Int32.ofInt z) (hd : decode cc pc = .ok (.sipush z, 3)) (k : sg_J p l e R s m args below meth c Q nL bs n0 s0 dA ax D (pc + 3, ls, vI z :: st, h)) : sg_J p l e R s m args below meth c Q nL bs n0 s0 dA ax D (pc, ls, st, h) := by
  intro H locs rl cells slots hP hz hS hL hc hs
  refine lv_sipush (v := Int32.ofInt z) hx hb hd hz2 ?_
  exact k H locs rl cells slots hP hz hS hL hc hs
theorem sg_lconst0 (hx : p.tables.exec = Jvm.exec) (hb : c.code = cc)  (hd : decode cc pc = .ok (.lconst 0, 1)) (k : sg_J p l e R s m args below meth c Q nL bs n0 s0 dA ax D (pc + 1, ls, vJ 0 :: st, h)) : sg_J p l e R s m args below meth c Q nL bs n0 s0 dA ax D (pc, ls, st, h) := by
  intro H locs rl cells slots hP hz hS hL hc hs
  refine lv_lconst (v := Int64.ofInt 0) hx hb hd rfl ?_
  exact k H locs rl cells slots hP hz hS hL hc hs
theorem sg_lconst1 (hx : p.tables.exec = Jvm.exec) (hb : c.code = cc)  (hd : decode cc pc = .ok (.lconst 1, 1)) (k : sg_J p l e R s m args below meth c Q nL bs n0 s0 dA ax D (pc + 1, ls, vJ 1 :: st, h)) : sg_J p l e R s m args below meth c Q nL bs n0 s0 dA ax D (pc, ls, st, h) := by
  intro H locs rl cells slots hP hz hS hL hc hs
  refine lv_lconst (v := Int64.ofInt 1) hx hb hd rfl ?_
  exact k H locs rl cells slots hP hz hS hL hc hs
theorem sg_fconst0 (hx : p.tables.exec = Jvm.exec) (hb : c.code = cc)  (hd : decode cc pc = .ok (.fconst 0, 1)) (k : sg_J p l e R s m args below meth c Q nL bs n0 s0 dA ax D (pc + 1, ls, vF FP.fconst0 :: st, h)) : sg_J p l e R s m args below meth c Q nL bs n0 s0 dA ax D (pc, ls, st, h) := by
  intro H locs rl cells slots hP hz hS hL hc hs
  refine lv_fconst0 hx hb hd ?_
  exact k H locs rl cells slots hP hz hS hL hc hs
theorem sg_fconst1 (hx : p.tables.exec = Jvm.exec) (hb : c.code = cc)  (hd : decode cc pc = .ok (.fconst 1, 1)) (k : sg_J p l e R s m args below meth c Q nL bs n0 s0 dA ax D (pc + 1, ls, vF FP.fconst1 :: st, h)) : sg_J p l e R s m args below meth c Q nL bs n0 s0 dA ax D (pc, ls, st, h) := by
  intro H locs rl cells slots hP hz hS hL hc hs
  refine lv_fconst1 hx hb hd ?_
  exact k H locs rl cells slots hP hz hS hL hc hs
theorem sg_fconst2 (hx : p.tables.exec = Jvm.exec) (hb : c.code = cc)  (hd : decode cc pc = .ok (.fconst 2, 1)) (k : sg_J p l e R s m args below meth c Q nL bs n0 s0 dA ax D (pc + 1, ls, vF FP.fconst2 :: st, h)) : sg_J p l e R s m args below meth c Q nL bs n0 s0 dA ax D (pc, ls, st, h) := by
  intro H locs rl cells slots hP hz hS hL hc hs
  refine lv_fconst2 hx hb hd ?_
  exact k H locs rl cells slots hP hz hS hL hc hs
theorem sg_aconst_null (hx : p.tables.exec = Jvm.exec) (hb : c.code = cc)  (hd : decode cc pc = .ok (.aconst_null, 1)) (k : sg_J p l e R s m args below meth c Q nL bs n0 s0 dA ax D (pc + 1, ls, vR none :: st, h)) : sg_J p l e R s m args below meth c Q nL bs n0 s0 dA ax D (pc, ls, st, h) := by
  intro H locs rl cells slots hP hz hS hL hc hs
  refine lv_null hx hb hd ?_
  exact k H locs rl cells slots hP hz hS hL hc hs
theorem sg_iload (hx : p.tables.exec = Jvm.exec) (hb : c.code = cc) {i : Nat} {a : Int} (hi : ls[i]? = some (some (vI a))) (hd : decode cc pc = .ok (.iload i, 2)) (k : sg_J p l e R s m args below meth c Q nL bs n0 s0 dA ax D (pc + 2, ls, vI a :: st, h)) : sg_J p l e R s m args below meth c Q nL bs n0 s0 dA ax D (pc, ls, st, h) := by
  intro H locs rl cells slots hP hz hS hL hc hs
  refine lv_iload hx hb hd (hL.get hi) ?_
  exact k H locs rl cells slots hP hz hS hL hc hs
theorem sg_iload_n (hx : p.tables.exec = Jvm.exec) (hb : c.code = cc) {i : Fin 4} {a : Int} (hi : ls[i.val]? = some (some (vI a))) (hd : decode cc pc = .ok (.iload_n i, 1)) (k : sg_J p l e R s m args below meth c Q nL bs n0 s0 dA ax D (pc + 1, ls, vI a :: st, h)) : sg_J p l e R s m args below meth c Q nL bs n0 s0 dA ax D (pc, ls, st, h) := by
  intro H locs rl cells slots hP hz hS hL hc hs
  refine lv_iload_n hx hb hd rfl (hL.get hi) ?_
  exact k H locs rl cells slots hP hz hS hL hc hs
theorem sg_lload_n (hx : p.tables.exec = Jvm.exec) (hb : c.code = cc) {i : Fin 4} {a : Int} (hi : ls[i.val]? = some (some (vJ a))) (hd : decode cc pc = .ok (.lload_n i, 1)) (k : sg_J p l e R s m args below meth c Q nL bs n0 s0 dA ax D (pc + 1, ls, vJ a :: st, h)) : sg_J p l e R s m args below meth c Q nL bs n0 s0 dA ax D (pc, ls, st, h) := by
  intro H locs rl cells slots hP hz hS hL hc hs
  refine lv_lload_n hx hb hd rfl (hL.get hi) ?_
  exact k H locs rl cells slots hP hz hS hL hc hs
theorem sg_fload_n (hx : p.tables.exec = Jvm.exec) (hb : c.code = cc) {i : Fin 4} {a : UInt32} (hi : ls[i.val]? = some (some (vF a))) (hd : decode cc pc = .ok (.fload_n i, 1)) (k : sg_J p l e R s m args below meth c Q nL bs n0 s0 dA ax D (pc + 1, ls, vF a :: st, h)) : sg_J p l e R s m args below meth c Q nL bs n0 s0 dA ax D (pc, ls, st, h) := by
  intro H locs rl cells slots hP hz hS hL hc hs
  refine lv_fload_n hx hb hd rfl (hL.get hi) ?_
  exact k H locs rl cells slots hP hz hS hL hc hs
theorem sg_aload_nR (hx : p.tables.exec = Jvm.exec) (hb : c.code = cc) {i : Fin 4} {a : Nat} (hi : ls[i.val]? = some (some (vA a))) (hd : decode cc pc = .ok (.aload_n i, 1)) (k : sg_J p l e R s m args below meth c Q nL bs n0 s0 dA ax D (pc + 1, ls, vA a :: st, h)) : sg_J p l e R s m args below meth c Q nL bs n0 s0 dA ax D (pc, ls, st, h) := by
  intro H locs rl cells slots hP hz hS hL hc hs
  refine lv_aload_n hx hb hd rfl (hL.get hi) ?_
  exact k H locs rl cells slots hP hz hS hL hc hs
theorem sg_aload_nX (hx : p.tables.exec = Jvm.exec) (hb : c.code = cc) {i : Fin 4} {a : Nat} (hi : ls[i.val]? = some (some (vX a))) (hd : decode cc pc = .ok (.aload_n i, 1)) (k : sg_J p l e R s m args below meth c Q nL bs n0 s0 dA ax D (pc + 1, ls, vX a :: st, h)) : sg_J p l e R s m args below meth c Q nL bs n0 s0 dA ax D (pc, ls, st, h) := by
  intro H locs rl cells slots hP hz hS hL hc hs
  refine lv_aload_n hx hb hd rfl (hL.get hi) ?_
  exact k H locs rl cells slots hP hz hS hL hc hs
theorem sg_aload_nN (hx : p.tables.exec = Jvm.exec) (hb : c.code = cc) {i : Fin 4} (hi : ls[i.val]? = some (some (vR none))) (hd : decode cc pc = .ok (.aload_n i, 1)) (k : sg_J p l e R s m args below meth c Q nL bs n0 s0 dA ax D (pc + 1, ls, vR none :: st, h)) : sg_J p l e R s m args below meth c Q nL bs n0 s0 dA ax D (pc, ls, st, h) := by
  intro H locs rl cells slots hP hz hS hL hc hs
  refine lv_aload_nN hx hb hd rfl (hL.get hi) ?_
  exact k H locs rl cells slots hP hz hS hL hc hs
theorem sg_istore (hx : p.tables.exec = Jvm.exec) (hb : c.code = cc) {i : Nat} {a : Int} (hi : i < ls.length) (hd : decode cc pc = .ok (.istore i, 2)) (k : sg_J p l e R s m args below meth c Q nL bs n0 s0 dA ax D (pc + 2, ag_st ls i (vI a), st, h)) : sg_J p l e R s m args below meth c Q nL bs n0 s0 dA ax D (pc, ls, vI a :: st, h) := by
  intro H locs rl cells slots hP hz hS hL hc hs
  refine lv_istore hx hb hd hL.1 (by rw [← hL.2]; exact hi) rfl (fun rl' h' => ?_)
  exact k H locs rl' cells slots hP hz hS (sg_L.put1 (ls := ls) (i := i) (v := vI a) hL rfl rfl h') hc hs
theorem sg_istore_n (hx : p.tables.exec = Jvm.exec) (hb : c.code = cc) {i : Fin 4} {a : Int} (hi : i.val < ls.length) (hd : decode cc pc = .ok (.istore_n i, 1)) (k : sg_J p l e R s m args below meth c Q nL bs n0 s0 dA ax D (pc + 1, ag_st ls i.val (vI a), st, h)) : sg_J p l e R s m args below meth c Q nL bs n0 s0 dA ax D (pc, ls, vI a :: st, h) := by
  intro H locs rl cells slots hP hz hS hL hc hs
  refine lv_istore_n hx hb hd rfl hL.1 (by rw [← hL.2]; exact hi) rfl (fun rl' h' => ?_)
  exact k H locs rl' cells slots hP hz hS (sg_L.put1 (ls := ls) (i := i.val) (v := vI a) hL rfl rfl h') hc hs
theorem sg_fstore_n (hx : p.tables.exec = Jvm.exec) (hb : c.code = cc) {i : Fin 4} {a : UInt32} (hi : i.val < ls.length) (hd : decode cc pc = .ok (.fstore_n i, 1)) (k : sg_J p l e R s m args below meth c Q nL bs n0 s0 dA ax D (pc + 1, ag_st ls i.val (vF a), st, h)) : sg_J p l e R s m args below meth c Q nL bs n0 s0 dA ax D (pc, ls, vF a :: st, h) := by
  intro H locs rl cells slots hP hz hS hL hc hs
  refine lv_fstore_n hx hb hd rfl hL.1 (by rw [← hL.2]; exact hi) rfl (fun rl' h' => ?_)
  exact k H locs rl' cells slots hP hz hS (sg_L.put1 (ls := ls) (i := i.val) (v := vF a) hL rfl rfl h') hc hs
theorem sg_astore_nR (hx : p.tables.exec = Jvm.exec) (hb : c.code = cc) {i : Fin 4} {a : Nat} (hi : i.val < ls.length) (hd : decode cc pc = .ok (.astore_n i, 1)) (k : sg_J p l e R s m args below meth c Q nL bs n0 s0 dA ax D (pc + 1, ag_st ls i.val (vA a), st, h)) : sg_J p l e R s m args below meth c Q nL bs n0 s0 dA ax D (pc, ls, vA a :: st, h) := by
  intro H locs rl cells slots hP hz hS hL hc hs
  refine lv_astore_n hx hb hd rfl hL.1 (by rw [← hL.2]; exact hi) rfl (fun rl' h' => ?_)
  exact k H locs rl' cells slots hP hz hS (sg_L.put1 (ls := ls) (i := i.val) (v := vA a) hL rfl rfl h') hc hs
theorem sg_astore_nN (hx : p.tables.exec = Jvm.exec) (hb : c.code = cc) {i : Fin 4} (hi : i.val < ls.length) (hd : decode cc pc = .ok (.astore_n i, 1)) (k : sg_J p l e R s m args below meth c Q nL bs n0 s0 dA ax D (pc + 1, ag_st ls i.val (vR none), st, h)) : sg_J p l e R s m args below meth c Q nL bs n0 s0 dA ax D (pc, ls, vR none :: st, h) := by
  intro H locs rl cells slots hP hz hS hL hc hs
  refine lv_astore_nN hx hb hd rfl hL.1 (by rw [← hL.2]; exact hi) rfl (fun rl' h' => ?_)
  exact k H locs rl' cells slots hP hz hS (sg_L.put1 (ls := ls) (i := i.val) (v := vR none) hL rfl rfl h') hc hs
theorem sg_lstore_n (hx : p.tables.exec = Jvm.exec) (hb : c.code = cc) {i : Fin 4} {a : Int} (hi : i.val + 1 < ls.length) (hd : decode cc pc = .ok (.lstore_n i, 1)) (k : sg_J p l e R s m args below meth c Q nL bs n0 s0 dA ax D (pc + 1, ag_st ls i.val (vJ a), st, h)) : sg_J p l e R s m args below meth c Q nL bs n0 s0 dA ax D (pc, ls, vJ a :: st, h) := by
  intro H locs rl cells slots hP hz hS hL hc hs
  refine lv_lstore_n hx hb hd rfl hL.1 (by rw [← hL.2]; exact hi) rfl (fun rl' h' => ?_)
  exact k H locs rl' cells slots hP hz hS (sg_L.put2 (ls := ls) (i := i.val) (v := vJ a) hL rfl rfl h') hc hs
theorem sg_iadd (hx : p.tables.exec = Jvm.exec) (hb : c.code = cc) {a b : Int} (hd : decode cc pc = .ok (.iadd, 1)) (k : sg_J p l e R s m args below meth c Q nL bs n0 s0 dA ax D (pc + 1, ls, vI (a + b) :: st, h)) : sg_J p l e R s m args below meth c Q nL bs n0 s0 dA ax D (pc, ls, vI b :: vI a :: st, h) := by
  intro H locs rl cells slots hP hz hS hL hc hs
  refine lv_iadd hx hb hd ?_
  rw [← Int32.ofInt_add]
  exact k H locs rl cells slots hP hz hS hL hc hs
theorem sg_isub (hx : p.tables.exec = Jvm.exec) (hb : c.code = cc) {a b : Int} (hd : decode cc pc = .ok (.isub, 1)) (k : sg_J p l e R s m args below meth c Q nL bs n0 s0 dA ax D (pc + 1, ls, vI (a - b) :: st, h)) : sg_J p l e R s m args below meth c Q nL bs n0 s0 dA ax D (pc, ls, vI b :: vI a :: st, h) := by
  intro H locs rl cells slots hP hz hS hL hc hs
  refine lv_isub hx hb hd ?_
  rw [← Int32.ofInt_sub]
  exact k H locs rl cells slots hP hz hS hL hc hs
theorem sg_imul (hx : p.tables.exec = Jvm.exec) (hb : c.code = cc) {a b : Int} (hd : decode cc pc = .ok (.imul, 1)) (k : sg_J p l e R s m args below meth c Q nL bs n0 s0 dA ax D (pc + 1, ls, vI (a * b) :: st, h)) : sg_J p l e R s m args below meth c Q nL bs n0 s0 dA ax D (pc, ls, vI b :: vI a :: st, h) := by
  intro H locs rl cells slots hP hz hS hL hc hs
  refine lv_imul hx hb hd ?_
  rw [← Int32.ofInt_mul]
  exact k H locs rl cells slots hP hz hS hL hc hs
theorem sg_ladd (hx : p.tables.exec = Jvm.exec) (hb : c.code = cc) {a b : Int} (hd : decode cc pc = .ok (.ladd, 1)) (k : sg_J p l e R s m args below meth c Q nL bs n0 s0 dA ax D (pc + 1, ls, vJ (a + b) :: st, h)) : sg_J p l e R s m args below meth c Q nL bs n0 s0 dA ax D (pc, ls, vJ b :: vJ a :: st, h) := by
  intro H locs rl cells slots hP hz hS hL hc hs
  refine lv_ladd hx hb hd ?_
  rw [← Int64.ofInt_add]
  exact k H locs rl cells slots hP hz hS hL hc hs
theorem sg_lmul (hx : p.tables.exec = Jvm.exec) (hb : c.code = cc) {a b : Int} (hd : decode cc pc = .ok (.lmul, 1)) (k : sg_J p l e R s m args below meth c Q nL bs n0 s0 dA ax D (pc + 1, ls, vJ (a * b) :: st, h)) : sg_J p l e R s m args below meth c Q nL bs n0 s0 dA ax D (pc, ls, vJ b :: vJ a :: st, h) := by
  intro H locs rl cells slots hP hz hS hL hc hs
  refine lv_lmul hx hb hd ?_
  rw [← Int64.ofInt_mul]
  exact k H locs rl cells slots hP hz hS hL hc hs
theorem sg_idiv (hx : p.tables.exec = Jvm.exec) (hb : c.code = cc) {a b : Int} (h0 : 0 ≤ a) (h1 : ag_in a) (h2 : 0 < b) (h3 : ag_in b) (hd : decode cc pc = .ok (.idiv, 1)) (k : sg_J p l e R s m args below meth c Q nL bs n0 s0 dA ax D (pc + 1, ls, vI (a / b) :: st, h)) : sg_J p l e R s m args below meth c Q nL bs n0 s0 dA ax D (pc, ls, vI b :: vI a :: st, h) := by
  intro H locs rl cells slots hP hz hS hL hc hs
  refine lv_idiv hx hb hd (sg_nz h2 h3) ?_
  rw [sg_div h0 h1 h2 h3]
  exact k H locs rl cells slots hP hz hS hL hc hs
theorem sg_irem (hx : p.tables.exec = Jvm.exec) (hb : c.code = cc) {a b : Int} (h0 : 0 ≤ a) (h1 : ag_in a) (h2 : 0 < b) (h3 : ag_in b) (hd : decode cc pc = .ok (.irem, 1)) (k : sg_J p l e R s m args below meth c Q nL bs n0 s0 dA ax D (pc + 1, ls, vI (a % b) :: st, h)) : sg_J p l e R s m args below meth c Q nL bs n0 s0 dA ax D (pc, ls, vI b :: vI a :: st, h) := by
  intro H locs rl cells slots hP hz hS hL hc hs
  refine lv_irem hx hb hd (sg_nz h2 h3) ?_
  rw [sg_rem h0 h1 h2 h3]
  exact k H locs rl cells slots hP hz hS hL hc hs
theorem sg_iand (hx : p.tables.exec = Jvm.exec) (hb : c.code = cc) {a : Int} (hd : decode cc pc = .ok (.iand, 1)) (k : sg_J p l e R s m args below meth c Q nL bs n0 s0 dA ax D (pc + 1, ls, vI (a % 32) :: st, h)) : sg_J p l e R s m args below meth c Q nL bs n0 s0 dA ax D (pc, ls, vI 31 :: vI a :: st, h) := by
  intro H locs rl cells slots hP hz hS hL hc hs
  refine lv_iand hx hb hd ?_
  rw [sg_and]
  exact k H locs rl cells slots hP hz hS hL hc hs
theorem sg_ior (hx : p.tables.exec = Jvm.exec) (hb : c.code = cc) {a b : Int} (h0 : 0 ≤ a) (h1 : 0 ≤ b) (hd : decode cc pc = .ok (.ior, 1)) (k : sg_J p l e R s m args below meth c Q nL bs n0 s0 dA ax D (pc + 1, ls, vI ((a.toNat ||| b.toNat : Nat) : Int) :: st, h)) : sg_J p l e R s m args below meth c Q nL bs n0 s0 dA ax D (pc, ls, vI b :: vI a :: st, h) := by
  intro H locs rl cells slots hP hz hS hL hc hs
  refine lv_ior hx hb hd ?_
  rw [sg_or h0 h1]
  exact k H locs rl cells slots hP hz hS hL hc hs
theorem sg_ishl (hx : p.tables.exec = Jvm.exec) (hb : c.code = cc) {a b : Int} (h0 : 0 ≤ a) (h1 : 0 ≤ b) (h2 : b < 31) (hd : decode cc pc = .ok (.ishl, 1)) (k : sg_J p l e R s m args below meth c Q nL bs n0 s0 dA ax D (pc + 1, ls, vI (a * (2 ^ b.toNat : Nat)) :: st, h)) : sg_J p l e R s m args below meth c Q nL bs n0 s0 dA ax D (pc, ls, vI b :: vI a :: st, h) := by
  intro H locs rl cells slots hP hz hS hL hc hs
  refine lv_ishl hx hb hd ?_
  rw [sg_shl h0 h1 h2]
  exact k H locs rl cells slots hP hz hS hL hc hs
theorem sg_xlcmp (hx : p.tables.exec = Jvm.exec) (hb : c.code = cc) {a b : Int} (h0 : ag_inL a) (h1 : ag_inL b) (hd : decode cc pc = .ok (.lcmp, 1)) (k : sg_J p l e R s m args below meth c Q nL bs n0 s0 dA ax D (pc + 1, ls, vI (if a < b then -1 else if a = b then 0 else 1) :: st, h)) : sg_J p l e R s m args below meth c Q nL bs n0 s0 dA ax D (pc, ls, vJ b :: vJ a :: st, h) := by
  intro H locs rl cells slots hP hz hS hL hc hs
  refine W.lcmp hx hb hd ?_
  rw [sg_lcmp h0 h1]
  exact k H locs rl cells slots hP hz hS hL hc hs
theorem sg_xi2l (hx : p.tables.exec = Jvm.exec) (hb : c.code = cc) {a : Int} (h1 : ag_in a) (hd : decode cc pc = .ok (.i2l, 1)) (k : sg_J p l e R s m args below meth c Q nL bs n0 s0 dA ax D (pc + 1, ls, vJ a :: st, h)) : sg_J p l e R s m args below meth c Q nL bs n0 s0 dA ax D (pc, ls, vI a :: st, h) := by
  intro H locs rl cells slots hP hz hS hL hc hs
  refine lv_i2l hx hb hd (sg_i2l h1) ?_
  exact k H locs rl cells slots hP hz hS hL hc hs
theorem sg_i2f (hx : p.tables.exec = Jvm.exec) (hb : c.code = cc) {a : Int} (hd : decode cc pc = .ok (.i2f, 1)) (k : sg_J p l e R s m args below meth c Q nL bs n0 s0 dA ax D (pc + 1, ls, vF (FP.i2f (Int32.ofInt a)) :: st, h)) : sg_J p l e R s m args below meth c Q nL bs n0 s0 dA ax D (pc, ls, vI a :: st, h) := by
  intro H locs rl cells slots hP hz hS hL hc hs
  refine lv_i2f hx hb hd ?_
  exact k H locs rl cells slots hP hz hS hL hc hs
theorem sg_f2i (hx : p.tables.exec = Jvm.exec) (hb : c.code = cc) {a : UInt32} (hd : decode cc pc = .ok (.f2i, 1)) (k : sg_J p l e R s m args below meth c Q nL bs n0 s0 dA ax D (pc + 1, ls, vI (FP.f2i a).toInt :: st, h)) : sg_J p l e R s m args below meth c Q nL bs n0 s0 dA ax D (pc, ls, vF a :: st, h) := by
  intro H locs rl cells slots hP hz hS hL hc hs
  refine lv_f2i hx hb hd ?_
  rw [← Int32.ofInt_toInt (FP.f2i a)]
  exact k H locs rl cells slots hP hz hS hL hc hs
theorem sg_fdiv (hx : p.tables.exec = Jvm.exec) (hb : c.code = cc) {a b : UInt32} (hn : ag_n32 (FP.fdiv a b)) (hd : decode cc pc = .ok (.fdiv, 1)) (k : sg_J p l e R s m args below meth c Q nL bs n0 s0 dA ax D (pc + 1, ls, vF (FP.fdiv a b) :: st, h)) : sg_J p l e R s m args below meth c Q nL bs n0 s0 dA ax D (pc, ls, vF b :: vF a :: st, h) := by
  intro H locs rl cells slots hP hz hS hL hc hs
  refine lv_fdiv hx hb hd hn ?_
  exact k H locs rl cells slots hP hz hS hL hc hs
theorem sg_fmul (hx : p.tables.exec = Jvm.exec) (hb : c.code = cc) {a b : UInt32} (hn : ag_n32 (FP.fmul a b)) (hd : decode cc pc = .ok (.fmul, 1)) (k : sg_J p l e R s m args below meth c Q nL bs n0 s0 dA ax D (pc + 1, ls, vF (FP.fmul a b) :: st, h)) : sg_J p l e R s m args below meth c Q nL bs n0 s0 dA ax D (pc, ls, vF b :: vF a :: st, h) := by
  intro H locs rl cells slots hP hz hS hL hc hs
  refine lv_fmul hx hb hd hn ?_
  exact k H locs rl cells slots hP hz hS hL hc hs
theorem sg_fsub (hx : p.tables.exec = Jvm.exec) (hb : c.code = cc) {a b : UInt32} (hn : ag_n32 (FP.fsub a b)) (hd : decode cc pc = .ok (.fsub, 1)) (k : sg_J p l e R s m args below meth c Q nL bs n0 s0 dA ax D (pc + 1, ls, vF (FP.fsub a b) :: st, h)) : sg_J p l e R s m args below meth c Q nL bs n0 s0 dA ax D (pc, ls, vF b :: vF a :: st, h) := by
  intro H locs rl cells slots hP hz hS hL hc hs
  refine lv_fsub hx hb hd hn ?_
  exact k H locs rl cells slots hP hz hS hL hc hs
theorem sg_fcmp (hx : p.tables.exec = Jvm.exec) (hb : c.code = cc) {a b : UInt32} {op : CmpOp} (hd : decode cc pc = .ok (.fcmp op, 1)) (k : sg_J p l e R s m args below meth c Q nL bs n0 s0 dA ax D (pc + 1, ls, vI (Op.cmpValue (FP.fcmp a b) op).toInt :: st, h)) : sg_J p l e R s m args below meth c Q nL bs n0 s0 dA ax D (pc, ls, vF b :: vF a :: st, h) := by
  intro H locs rl cells slots hP hz hS hL hc hs
  refine lv_fcmp hx hb hd ?_
  rw [← Int32.ofInt_toInt (Op.cmpValue (FP.fcmp a b) op)]
  exact k H locs rl cells slots hP hz hS hL hc hs
theorem sg_dup (hx : p.tables.exec = Jvm.exec) (hb : c.code = cc) {v : av} (hv : ag_wide (some v) = false) (hd : decode cc pc = .ok (.dup, 1)) (k : sg_J p l e R s m args below meth c Q nL bs n0 s0 dA ax D (pc + 1, ls, v :: v :: st, h)) : sg_J p l e R s m args below meth c Q nL bs n0 s0 dA ax D (pc, ls, v :: st, h) := by
  intro H locs rl cells slots hP hz hS hL hc hs
  refine lv_dup hx hb hd (by rw [sg_cat, hv]; rfl) ?_
  exact k H locs rl cells slots hP hz hS hL hc hs
theorem sg_dup2 (hx : p.tables.exec = Jvm.exec) (hb : c.code = cc) {v w : av} (hv : ag_wide (some v) = false) (hw : ag_wide (some w) = false) (hd : decode cc pc = .ok (.dup2, 1)) (k : sg_J p l e R s m args below meth c Q nL bs n0 s0 dA ax D (pc + 1, ls, v :: w :: v :: w :: st, h)) : sg_J p l e R s m args below meth c Q nL bs n0 s0 dA ax D (pc, ls, v :: w :: st, h) := by
  intro H locs rl cells slots hP hz hS hL hc hs
  refine lv_dup2_11 hx hb hd (by rw [sg_cat, hv]; rfl) (by rw [sg_cat, hw]; rfl) ?_
  exact k H locs rl cells slots hP hz hS hL hc hs
theorem sg_pop (hx : p.tables.exec = Jvm.exec) (hb : c.code = cc) {v : av} (hv : ag_wide (some v) = false) (hd : decode cc pc = .ok (.pop, 1)) (k : sg_J p l e R s m args below meth c Q nL bs n0 s0 dA ax D (pc + 1, ls, st, h)) : sg_J p l e R s m args below meth c Q nL bs n0 s0 dA ax D (pc, ls, v :: st, h) := by
  intro H locs rl cells slots hP hz hS hL hc hs
  refine lv_pop hx hb hd (by rw [sg_cat, hv]; rfl) ?_
  exact k H locs rl cells slots hP hz hS hL hc hs
theorem sg_goto (hx : p.tables.exec = Jvm.exec) (hb : c.code = cc) {off : Int} {tgt : Nat} (ht : (pc : Int) + off = (tgt : Int)) (hd : decode cc pc = .ok (.goto off, 3)) (k : sg_J p l e R s m args below meth c Q nL bs n0 s0 dA ax D (tgt, ls, st, h)) : sg_J p l e R s m args below meth c Q nL bs n0 s0 dA ax D (pc, ls, st, h) := by
  intro H locs rl cells slots hP hz hS hL hc hs
  refine lv_goto hx hb hd ht ?_
  exact k H locs rl cells slots hP hz hS hL hc hs
theorem sg_ifnullR (hx : p.tables.exec = Jvm.exec) (hb : c.code = cc) {a : Nat} {off : Int} (hd : decode cc pc = .ok (.ifnull off, 3)) (k : sg_J p l e R s m args below meth c Q nL bs n0 s0 dA ax D (pc + 3, ls, st, h)) : sg_J p l e R s m args below meth c Q nL bs n0 s0 dA ax D (pc, ls, vA a :: st, h) := by
  intro H locs rl cells slots hP hz hS hL hc hs
  refine lv_ifnull hx hb hd ?_
  exact k H locs rl cells slots hP hz hS hL hc hs
theorem sg_ifnullN (hx : p.tables.exec = Jvm.exec) (hb : c.code = cc) {off : Int} {tgt : Nat} (ht : (pc : Int) + off = (tgt : Int)) (hd : decode cc pc = .ok (.ifnull off, 3)) (k : sg_J p l e R s m args below meth c Q nL bs n0 s0 dA ax D (tgt, ls, st, h)) : sg_J p l e R s m args below meth c Q nL bs n0 s0 dA ax D (pc, ls, vR none :: st, h) := by
  intro H locs rl cells slots hP hz hS hL hc hs
  refine lv_ifnullN hx hb hd ht ?_
  exact k H locs rl cells slots hP hz hS hL hc hs
theorem sg_ifnonnullR (hx : p.tables.exec = Jvm.exec) (hb : c.code = cc) {a : Nat} {off : Int} {tgt : Nat} (ht : (pc : Int) + off = (tgt : Int)) (hd : decode cc pc = .ok (.ifnonnull off, 3)) (k : sg_J p l e R s m args below meth c Q nL bs n0 s0 dA ax D (tgt, ls, st, h)) : sg_J p l e R s m args below meth c Q nL bs n0 s0 dA ax D (pc, ls, vA a :: st, h) := by
  intro H locs rl cells slots hP hz hS hL hc hs
  refine lv_ifnonnull hx hb hd ht ?_
  exact k H locs rl cells slots hP hz hS hL hc hs
theorem sg_ifnonnullN (hx : p.tables.exec = Jvm.exec) (hb : c.code = cc) {off : Int} (hd : decode cc pc = .ok (.ifnonnull off, 3)) (k : sg_J p l e R s m args below meth c Q nL bs n0 s0 dA ax D (pc + 3, ls, st, h)) : sg_J p l e R s m args below meth c Q nL bs n0 s0 dA ax D (pc, ls, vR none :: st, h) := by
  intro H locs rl cells slots hP hz hS hL hc hs
  refine lv_ifnonnullN hx hb hd ?_
  exact k H locs rl cells slots hP hz hS hL hc hs
theorem sg_iinc (hx : p.tables.exec = Jvm.exec) (hb : c.code = cc) {i : Nat} {a n : Int} (hi : ls[i]? = some (some (vI a))) (hd : decode cc pc = .ok (.iinc i n, 3)) (k : sg_J p l e R s m args below meth c Q nL bs n0 s0 dA ax D (pc + 3, ag_st ls i (vI (a + n)), st, h)) : sg_J p l e R s m args below meth c Q nL bs n0 s0 dA ax D (pc, ls, st, h) := by
  intro H locs rl cells slots hP hz hS hL hc hs
  obtain ⟨j, hj⟩ := List.getElem?_of_mem (sg_lv_mem (bs := bs) (ax := ax).mpr ⟨_, hi, rfl⟩)
  refine lv_iinc (k := j) (v := Int32.ofInt (a + n)) hx hb hd hL.1 hj (by rw [Int32.ofInt_add]) (by rw [← hL.2]; exact (List.getElem?_eq_some_iff.mp hi).1) rfl (fun rl' h' => ?_)
  exact k H locs rl' cells slots hP hz hS (sg_L.put1 (ls := ls) (i := i) (v := vI (a + n)) hL rfl rfl h') hc hs
theorem sg_icmp_eq (hx : p.tables.exec = Jvm.exec) (hb : c.code = cc) {a b off : Int} {tgt : Nat} (ha : ag_in a) (hb2 : ag_in b) (hd : decode cc pc = .ok (.if_icmp .eq off, 3)) (ht : (pc : Int) + off = (tgt : Int)) (k : a = b → sg_J p l e R s m args below meth c Q nL bs n0 s0 dA ax D (tgt, ls, st, h)) (k2 : ¬ (a = b) → sg_J p l e R s m args below meth c Q nL bs n0 s0 dA ax D (pc + 3, ls, st, h)) : sg_J p l e R s m args below meth c Q nL bs n0 s0 dA ax D (pc, ls, vI b :: vI a :: st, h) := by
  intro H locs rl cells slots hP hz hS hL hc hs
  refine lv_icmp_eq hx hb hd ht (fun q => ?_) (fun q => ?_)
  · exact k ((sg_eq ha hb2).mp q) H locs rl cells slots hP hz hS hL hc hs
  · exact k2 (fun z => q ((sg_eq ha hb2).mpr z)) H locs rl cells slots hP hz hS hL hc hs
theorem sg_if_eq (hx : p.tables.exec = Jvm.exec) (hb : c.code = cc) {a off : Int} {tgt : Nat} (ha : ag_in a) (hd : decode cc pc = .ok (.ifCond .eq off, 3)) (ht : (pc : Int) + off = (tgt : Int)) (k : a = 0 → sg_J p l e R s m args below meth c Q nL bs n0 s0 dA ax D (tgt, ls, st, h)) (k2 : ¬ (a = 0) → sg_J p l e R s m args below meth c Q nL bs n0 s0 dA ax D (pc + 3, ls, st, h)) : sg_J p l e R s m args below meth c Q nL bs n0 s0 dA ax D (pc, ls, vI a :: st, h) := by
  intro H locs rl cells slots hP hz hS hL hc hs
  refine lv_if_eq hx hb hd ht (fun q => ?_) (fun q => ?_)
  · exact k ((sg_eq ha sg_in0).mp q) H locs rl cells slots hP hz hS hL hc hs
  · exact k2 (fun z => q ((sg_eq ha sg_in0).mpr z)) H locs rl cells slots hP hz hS hL hc hs
theorem sg_icmp_ne (hx : p.tables.exec = Jvm.exec) (hb : c.code = cc) {a b off : Int} {tgt : Nat} (ha : ag_in a) (hb2 : ag_in b) (hd : decode cc pc = .ok (.if_icmp .ne off, 3)) (ht : (pc : Int) + off = (tgt : Int)) (k : a ≠ b → sg_J p l e R s m args below meth c Q nL bs n0 s0 dA ax D (tgt, ls, st, h)) (k2 : ¬ (a ≠ b) → sg_J p l e R s m args below meth c Q nL bs n0 s0 dA ax D (pc + 3, ls, st, h)) : sg_J p l e R s m args below meth c Q nL bs n0 s0 dA ax D (pc, ls, vI b :: vI a :: st, h) := by
  intro H locs rl cells slots hP hz hS hL hc hs
  refine lv_icmp_ne hx hb hd ht (fun q => ?_) (fun q => ?_)
  · exact k ((not_congr (sg_eq ha hb2)).mp q) H locs rl cells slots hP hz hS hL hc hs
  · exact k2 (fun z => z ((sg_eq ha hb2).mp q)) H locs rl cells slots hP hz hS hL hc hs
theorem sg_if_ne (hx : p.tables.exec = Jvm.exec) (hb : c.code = cc) {a off : Int} {tgt : Nat} (ha : ag_in a) (hd : decode cc pc = .ok (.ifCond .ne off, 3)) (ht : (pc : Int) + off = (tgt : Int)) (k : a ≠ 0 → sg_J p l e R s m args below meth c Q nL bs n0 s0 dA ax D (tgt, ls, st, h)) (k2 : ¬ (a ≠ 0) → sg_J p l e R s m args below meth c Q nL bs n0 s0 dA ax D (pc + 3, ls, st, h)) : sg_J p l e R s m args below meth c Q nL bs n0 s0 dA ax D (pc, ls, vI a :: st, h) := by
  intro H locs rl cells slots hP hz hS hL hc hs
  refine lv_if_ne hx hb hd ht (fun q => ?_) (fun q => ?_)
  · exact k ((not_congr (sg_eq ha sg_in0)).mp q) H locs rl cells slots hP hz hS hL hc hs
  · exact k2 (fun z => z ((sg_eq ha sg_in0).mp q)) H locs rl cells slots hP hz hS hL hc hs
theorem sg_icmp_lt (hx : p.tables.exec = Jvm.exec) (hb : c.code = cc) {a b off : Int} {tgt : Nat} (ha : ag_in a) (hb2 : ag_in b) (hd : decode cc pc = .ok (.if_icmp .lt off, 3)) (ht : (pc : Int) + off = (tgt : Int)) (k : a < b → sg_J p l e R s m args below meth c Q nL bs n0 s0 dA ax D (tgt, ls, st, h)) (k2 : ¬ (a < b) → sg_J p l e R s m args below meth c Q nL bs n0 s0 dA ax D (pc + 3, ls, st, h)) : sg_J p l e R s m args below meth c Q nL bs n0 s0 dA ax D (pc, ls, vI b :: vI a :: st, h) := by
  intro H locs rl cells slots hP hz hS hL hc hs
  refine lv_icmp_lt hx hb hd ht (fun q => ?_) (fun q => ?_)
  · exact k ((sg_lt ha hb2).mp q) H locs rl cells slots hP hz hS hL hc hs
  · exact k2 (fun z => q ((sg_lt ha hb2).mpr z)) H locs rl cells slots hP hz hS hL hc hs
theorem sg_if_lt (hx : p.tables.exec = Jvm.exec) (hb : c.code = cc) {a off : Int} {tgt : Nat} (ha : ag_in a) (hd : decode cc pc = .ok (.ifCond .lt off, 3)) (ht : (pc : Int) + off = (tgt : Int)) (k : a < 0 → sg_J p l e R s m args below meth c Q nL bs n0 s0 dA ax D (tgt, ls, st, h)) (k2 : ¬ (a < 0) → sg_J p l e R s m args below meth c Q nL bs n0 s0 dA ax D (pc + 3, ls, st, h)) : sg_J p l e R s m args below meth c Q nL bs n0 s0 dA ax D (pc, ls, vI a :: st, h) := by
  intro H locs rl cells slots hP hz hS hL hc hs
  refine lv_if_lt hx hb hd ht (fun q => ?_) (fun q => ?_)
  · exact k ((sg_lt ha sg_in0).mp q) H locs rl cells slots hP hz hS hL hc hs
  · exact k2 (fun z => q ((sg_lt ha sg_in0).mpr z)) H locs rl cells slots hP hz hS hL hc hs
theorem sg_icmp_ge (hx : p.tables.exec = Jvm.exec) (hb : c.code = cc) {a b off : Int} {tgt : Nat} (ha : ag_in a) (hb2 : ag_in b) (hd : decode cc pc = .ok (.if_icmp .ge off, 3)) (ht : (pc : Int) + off = (tgt : Int)) (k : b ≤ a → sg_J p l e R s m args below meth c Q nL bs n0 s0 dA ax D (tgt, ls, st, h)) (k2 : ¬ (b ≤ a) → sg_J p l e R s m args below meth c Q nL bs n0 s0 dA ax D (pc + 3, ls, st, h)) : sg_J p l e R s m args below meth c Q nL bs n0 s0 dA ax D (pc, ls, vI b :: vI a :: st, h) := by
  intro H locs rl cells slots hP hz hS hL hc hs
  refine lv_icmp_ge hx hb hd ht (fun q => ?_) (fun q => ?_)
  · exact k ((sg_le hb2 ha).mp q) H locs rl cells slots hP hz hS hL hc hs
  · exact k2 (fun z => q ((sg_le hb2 ha).mpr z)) H locs rl cells slots hP hz hS hL hc hs
theorem sg_if_ge (hx : p.tables.exec = Jvm.exec) (hb : c.code = cc) {a off : Int} {tgt : Nat} (ha : ag_in a) (hd : decode cc pc = .ok (.ifCond .ge off, 3)) (ht : (pc : Int) + off = (tgt : Int)) (k : 0 ≤ a → sg_J p l e R s m args below meth c Q nL bs n0 s0 dA ax D (tgt, ls, st, h)) (k2 : ¬ (0 ≤ a) → sg_J p l e R s m args below meth c Q nL bs n0 s0 dA ax D (pc + 3, ls, st, h)) : sg_J p l e R s m args below meth c Q nL bs n0 s0 dA ax D (pc, ls, vI a :: st, h) := by
  intro H locs rl cells slots hP hz hS hL hc hs
  refine lv_if_ge hx hb hd ht (fun q => ?_) (fun q => ?_)
  · exact k ((sg_le sg_in0 ha).mp q) H locs rl cells slots hP hz hS hL hc hs
  · exact k2 (fun z => q ((sg_le sg_in0 ha).mpr z)) H locs rl cells slots hP hz hS hL hc hs
theorem sg_icmp_gt (hx : p.tables.exec = Jvm.exec) (hb : c.code = cc) {a b off : Int} {tgt : Nat} (ha : ag_in a) (hb2 : ag_in b) (hd : decode cc pc = .ok (.if_icmp .gt off, 3)) (ht : (pc : Int) + off = (tgt : Int)) (k : b < a → sg_J p l e R s m args below meth c Q nL bs n0 s0 dA ax D (tgt, ls, st, h)) (k2 : ¬ (b < a) → sg_J p l e R s m args below meth c Q nL bs n0 s0 dA ax D (pc + 3, ls, st, h)) : sg_J p l e R s m args below meth c Q nL bs n0 s0 dA ax D (pc, ls, vI b :: vI a :: st, h) := by
  intro H locs rl cells slots hP hz hS hL hc hs
  refine lv_icmp_gt hx hb hd ht (fun q => ?_) (fun q => ?_)
  · exact k ((sg_lt hb2 ha).mp q) H locs rl cells slots hP hz hS hL hc hs
  · exact k2 (fun z => q ((sg_lt hb2 ha).mpr z)) H locs rl cells slots hP hz hS hL hc hs
theorem sg_if_gt (hx : p.tables.exec = Jvm.exec) (hb : c.code = cc) {a off : Int} {tgt : Nat} (ha : ag_in a) (hd : decode cc pc = .ok (.ifCond .gt off, 3)) (ht : (pc : Int) + off = (tgt : Int)) (k : 0 < a → sg_J p l e R s m args below meth c Q nL bs n0 s0 dA ax D (tgt, ls, st, h)) (k2 : ¬ (0 < a) → sg_J p l e R s m args below meth c Q nL bs n0 s0 dA ax D (pc + 3, ls, st, h)) : sg_J p l e R s m args below meth c Q nL bs n0 s0 dA ax D (pc, ls, vI a :: st, h) := by
  intro H locs rl cells slots hP hz hS hL hc hs
  refine lv_if_gt hx hb hd ht (fun q => ?_) (fun q => ?_)
  · exact k ((sg_lt sg_in0 ha).mp q) H locs rl cells slots hP hz hS hL hc hs
  · exact k2 (fun z => q ((sg_lt sg_in0 ha).mpr z)) H locs rl cells slots hP hz hS hL hc hs
theorem sg_icmp_le (hx : p.tables.exec = Jvm.exec) (hb : c.code = cc) {a b off : Int} {tgt : Nat} (ha : ag_in a) (hb2 : ag_in b) (hd : decode cc pc = .ok (.if_icmp .le off, 3)) (ht : (pc : Int) + off = (tgt : Int)) (k : a ≤ b → sg_J p l e R s m args below meth c Q nL bs n0 s0 dA ax D (tgt, ls, st, h)) (k2 : ¬ (a ≤ b) → sg_J p l e R s m args below meth c Q nL bs n0 s0 dA ax D (pc + 3, ls, st, h)) : sg_J p l e R s m args below meth c Q nL bs n0 s0 dA ax D (pc, ls, vI b :: vI a :: st, h) := by
  intro H locs rl cells slots hP hz hS hL hc hs
  refine lv_icmp_le hx hb hd ht (fun q => ?_) (fun q => ?_)
  · exact k ((sg_le ha hb2).mp q) H locs rl cells slots hP hz hS hL hc hs
  · exact k2 (fun z => q ((sg_le ha hb2).mpr z)) H locs rl cells slots hP hz hS hL hc hs
theorem sg_if_le (hx : p.tables.exec = Jvm.exec) (hb : c.code = cc) {a off : Int} {tgt : Nat} (ha : ag_in a) (hd : decode cc pc = .ok (.ifCond .le off, 3)) (ht : (pc : Int) + off = (tgt : Int)) (k : a ≤ 0 → sg_J p l e R s m args below meth c Q nL bs n0 s0 dA ax D (tgt, ls, st, h)) (k2 : ¬ (a ≤ 0) → sg_J p l e R s m args below meth c Q nL bs n0 s0 dA ax D (pc + 3, ls, st, h)) : sg_J p l e R s m args below meth c Q nL bs n0 s0 dA ax D (pc, ls, vI a :: st, h) := by
  intro H locs rl cells slots hP hz hS hL hc hs
  refine lv_if_le hx hb hd ht (fun q => ?_) (fun q => ?_)
  · exact k ((sg_le ha sg_in0).mp q) H locs rl cells slots hP hz hS hL hc hs
  · exact k2 (fun z => q ((sg_le ha sg_in0).mpr z)) H locs rl cells slots hP hz hS hL hc hs
theorem sg_tableOut (hx : p.tables.exec = Jvm.exec) (hb : c.code = cc) {a dflt lo hi : Int} {offs : Array Int} {len tgt : Nat} (ha : ag_in a) (hd : decode cc pc = .ok (.tableswitch dflt lo hi offs, len)) (hq : a < lo ∨ hi < a) (ht : (pc : Int) + dflt = (tgt : Int)) (k : sg_J p l e R s m args below meth c Q nL bs n0 s0 dA ax D (tgt, ls, st, h)) : sg_J p l e R s m args below meth c Q nL bs n0 s0 dA ax D (pc, ls, vI a :: st, h) := by
  intro H locs rl cells slots hP hz hS hL hc hs
  refine lv_tableOut hx hb hd (by rw [sg_ti ha]; exact hq) ht ?_
  exact k H locs rl cells slots hP hz hS hL hc hs
theorem sg_tableIn (hx : p.tables.exec = Jvm.exec) (hb : c.code = cc) {a dflt lo hi off : Int} {offs : Array Int} {len tgt : Nat} (ha : ag_in a) (hd : decode cc pc = .ok (.tableswitch dflt lo hi offs, len)) (h1 : ¬ a < lo) (h2 : ¬ hi < a) (ho : offs[(a - lo).toNat]? = some off) (ht : (pc : Int) + off = (tgt : Int)) (k : sg_J p l e R s m args below meth c Q nL bs n0 s0 dA ax D (tgt, ls, st, h)) : sg_J p l e R s m args below meth c Q nL bs n0 s0 dA ax D (pc, ls, vI a :: st, h) := by
  intro H locs rl cells slots hP hz hS hL hc hs
  refine lv_tableIn hx hb hd (by rw [sg_ti ha]; exact h1) (by rw [sg_ti ha]; exact h2) (by rw [sg_ti ha]; exact ho) ht ?_
  exact k H locs rl cells slots hP hz hS hL hc hs
theorem sg_lookup (hx : p.tables.exec = Jvm.exec) (hb : c.code = cc) {a dflt : Int} {ps : Array (Int × Int)} {len tgt : Nat} (ha : ag_in a) (hd : decode cc pc = .ok (.lookupswitch dflt ps, len)) (hp : (ps.toList.zip (ps.toList.drop 1)).all (fun (a, next) => a.1 < next.1) = true) (ht : (pc : Int) + Op.lookupswitch.offset ps.toList dflt a = (tgt : Int)) (k : sg_J p l e R s m args below meth c Q nL bs n0 s0 dA ax D (tgt, ls, st, h)) : sg_J p l e R s m args below meth c Q nL bs n0 s0 dA ax D (pc, ls, vI a :: st, h) := by
  intro H locs rl cells slots hP hz hS hL hc hs
  refine lv_lookup hx hb hd hp (by rw [sg_ti ha]) ht ?_
  exact k H locs rl cells slots hP hz hS hL hc hs
end SGI
end
section
/-! facts of the classes: their fields, their words (places printed by wip/whole/gen_heap.py) -/
def sg_nest (w : Cond) : Bool := match w with
  | .fieldLinkNest _ _ _ _ _ _ => true
  | .methodLinkNest _ _ _ _ => true
  | _ => false
def sg_arrO (w : Cond) : Bool := match w with
  | .arrayOver (.object _) => true
  | _ => false
/-- the words that a call hands on -/
def sg_tok (w : Cond) : Bool := goodWord w || (sg_nest w || sg_arrO w)
def sg_tb : List Cond := lw_tbl.filter sg_tok
theorem sg_mem {w : Cond} (h : w ∈ lw_tbl) (ht : sg_tok w = true) : w ∈ sg_tb := List.mem_filter.mpr ⟨h, ht⟩
theorem sg_8 {P : Nat → Prop} (h0 : P 0) (h1 : P 1) (h2 : P 2) (h3 : P 3) (h4 : P 4) (h5 : P 5) (h6 : P 6) (h7 : P 7) : ∀ t, t < 8 → P t := by
  intro t ht
  have h : t = 0 ∨ t = 1 ∨ t = 2 ∨ t = 3 ∨ t = 4 ∨ t = 5 ∨ t = 6 ∨ t = 7 := by omega
  rcases h with rfl | rfl | rfl | rfl | rfl | rfl | rfl | rfl <;> assumption
theorem sg_cl : ∀ t, t < 8 → vwCl[t]? = some (sg_R t, sg_T t, ag_nf t) := sg_8 rfl rfl rfl rfl rfl rfl rfl rfl
theorem sg_l0 : u_ws (sg_R 0) (sg_T 0) (ag_nf 0) = ([135, 137, 139, 141, 143, 145] : List Nat).filterMap (fun i => lw_tbl[i]?) := by decide +kernel
theorem sg_l1 : u_ws (sg_R 1) (sg_T 1) (ag_nf 1) = ([185, 187, 189, 191, 193, 195, 197, 199, 201] : List Nat).filterMap (fun i => lw_tbl[i]?) := by decide +kernel
theorem sg_l2 : u_ws (sg_R 2) (sg_T 2) (ag_nf 2) = ([159, 161, 163] : List Nat).filterMap (fun i => lw_tbl[i]?) := by decide +kernel
theorem sg_l3 : u_ws (sg_R 3) (sg_T 3) (ag_nf 3) = ([239, 241, 243, 245, 247] : List Nat).filterMap (fun i => lw_tbl[i]?) := by decide +kernel
theorem sg_l4 : u_ws (sg_R 4) (sg_T 4) (ag_nf 4) = ([217, 219, 221] : List Nat).filterMap (fun i => lw_tbl[i]?) := by decide +kernel
theorem sg_l5 : u_ws (sg_R 5) (sg_T 5) (ag_nf 5) = ([266, 268, 270, 272, 274] : List Nat).filterMap (fun i => lw_tbl[i]?) := by decide +kernel
theorem sg_l6 : u_ws (sg_R 6) (sg_T 6) (ag_nf 6) = ([286, 288, 290, 292, 294, 296, 298, 300, 302] : List Nat).filterMap (fun i => lw_tbl[i]?) := by decide +kernel
theorem sg_l7 : u_ws (sg_R 7) (sg_T 7) (ag_nf 7) = ([738, 740, 742, 744, 746, 748, 750, 752, 754, 756, 758, 760, 762, 764, 766, 768, 770, 772, 774, 776] : List Nat).filterMap (fun i => lw_tbl[i]?) := by decide +kernel
theorem sg_lx {C : String} {T : u_T} {N : Nat} {ps : List Nat} (h : u_ws C T N = ps.filterMap (fun i => lw_tbl[i]?)) : ∀ w ∈ u_ws C T N, w ∈ sg_tb := by
  intro w hw
  have hw2 := hw
  rw [h] at hw
  obtain ⟨i, -, hi⟩ := List.mem_filterMap.mp hw
  refine sg_mem (List.mem_of_getElem? hi) ?_
  obtain ⟨k, -, rfl⟩ := List.mem_map.mp hw2
  unfold u_lay
  split <;> rfl
theorem sg_lay : ∀ t, t < 8 → ∀ w ∈ u_ws (sg_R t) (sg_T t) (ag_nf t), w ∈ sg_tb := sg_8 (sg_lx sg_l0) (sg_lx sg_l1) (sg_lx sg_l2) (sg_lx sg_l3) (sg_lx sg_l4) (sg_lx sg_l5) (sg_lx sg_l6) (sg_lx sg_l7)
theorem sg_nm : ∀ t, t < 8 → ∀ a, a < ag_nf t → ∀ b, b < ag_nf t → a ≠ b → ((sg_T t) a).2.1 ≠ ((sg_T t) b).2.1 := sg_8 nmX0 nmX1 nmX2 nmX3 nmX4 nmX5 nmX6 nmX7
theorem sg_tyok : ∀ t, t < 8 → ∀ k, k < ag_nf t → parseFieldDescriptor ((sg_T t) k).2.2.1 = some (sg_ty t k) := sg_8 tyX0_ok tyX1_ok tyX2_ok tyX3_ok tyX4_ok tyX5_ok tyX6_ok tyX7_ok
def sg_isR (ty : FieldType) : Bool := match ty with
  | .object _ => true
  | .array _ => true
  | _ => false
theorem sg_kf : ∀ t, t < 8 → ∀ k, k < ag_nf t → ((sg_T t) k).1 = sg_R t ∧ (ag_kind t k = 2 → ((sg_T t) k).2.2.2 = true ∧ sg_isR (sg_ty t k) = true) ∧ (ag_kind t k ≠ 2 → ((sg_T t) k).2.2.2 = false ∧ (sg_ty t k = .int ∨ ag_kind t k = 1 ∧ sg_ty t k = .boolean)) := by decide +kernel
theorem sg_find {α : Type} {l : List (Nat × α)} {i : Nat} {x : α} (h : l.lookup i = some x) : ∃ j : Nat, l[j]? = some (i, x) := by
  induction l with
  | nil => cases h
  | cons q l ih =>
    obtain ⟨a, y⟩ := q
    rw [List.lookup_cons] at h
    by_cases ha : (i == a) = true
    · rw [ha] at h
      cases h
      rw [beq_iff_eq] at ha
      subst ha
      exact ⟨0, rfl⟩
    · rw [Bool.not_eq_true] at ha
      rw [ha] at h
      obtain ⟨j, hj⟩ := ih h
      exact ⟨j + 1, hj⟩
theorem sg_zip {α β : Type} {l : List (Nat × α)} {r : List β} {i : Nat} {x : α} {P : (Nat × α) × β → Bool} (hl : l.length = r.length) (h : l.lookup i = some x) (ha : (l.zip r).all P = true) : ∃ q, P ((i, x), q) = true := by
  obtain ⟨j, hj⟩ := sg_find h
  have h1 := (List.getElem?_eq_some_iff.mp hj).1
  have h2 : (l.zip r)[j]? = some ((i, x), r[j]'(by omega)) := by
    rw [List.getElem?_zip_eq_some]
    exact ⟨hj, List.getElem?_eq_getElem _⟩
  exact ⟨_, List.all_eq_true.mp ha _ (List.mem_of_getElem? h2)⟩
theorem sg_atm {p : Nat} {w : Cond} (h : sg_at p w = true) : w ∈ lw_tbl := List.mem_of_getElem? (of_decide_eq_true h)
theorem sg_lenF : ∀ ci, ci < 9 → (ag_tF.getD ci []).length = (sg_pF.getD ci []).length := by decide +kernel
theorem sg_lenM : ∀ ci, ci < 9 → (ag_tM.getD ci []).length = (sg_pM.getD ci []).length := by decide +kernel
theorem sg_out {α : Type} {L : List (List α)} (hL : L.length = 9) {ci : Nat} (h : ¬ ci < 9) : L.getD ci [] = [] := by
  rw [List.getD_eq_getElem?_getD, List.getElem?_eq_none (by omega)]
  rfl
/-- a field's link is a word of the tables -/
theorem sg_fw {ci ix t k : Nat} (h : ag_TT.1 ci ix = some (t, k)) : sg_fl ci ix t k ∈ sg_tb := by
  by_cases hc : ci < 9
  · obtain ⟨q, hq⟩ := sg_zip (sg_lenF ci hc) h (sg_f ci hc)
    refine sg_mem (sg_atm hq) ?_
    unfold sg_fl
    split <;> rfl
  · have h2 : (ag_tF.getD ci []).lookup ix = some (t, k) := h
    rw [sg_out (by decide) hc] at h2
    cases h2
theorem sg_ms : ∀ ci, ci < 9 → (((ag_tM.getD ci []).zip (sg_pM.getD ci [])).all fun e => sg_mOk ci e.1 e.2) = true := by
  intro t ht
  have h : t = 0 ∨ t = 1 ∨ t = 2 ∨ t = 3 ∨ t = 4 ∨ t = 5 ∨ t = 6 ∨ t = 7 ∨ t = 8 := by omega
  rcases h with rfl | rfl | rfl | rfl | rfl | rfl | rfl | rfl | rfl
  · exact sg_m0
  · exact sg_m1
  · exact sg_m2
  · exact sg_m3
  · exact sg_m4
  · exact sg_m5
  · exact sg_m6
  · exact sg_m7
  · exact sg_m8
theorem sg_mw {ci ix : Nat} {e : Nat × Nat × Nat × Nat} (h : ag_TT.2.1 ci ix = some e) : ∃ q, sg_mOk ci (ix, e) q = true := by
  by_cases hc : ci < 9
  · exact sg_zip (sg_lenM ci hc) h (sg_ms ci hc)
  · have h2 : (ag_tM.getD ci []).lookup ix = some e := h
    rw [sg_out (by decide) hc] at h2
    cases h2
end
section
/-! the kit's rows that write, with the heap's size kept in sight -/
section SGV
variable {p : Program} {l : Launch} {e : Env} {R : Room} {s : State} {m : MethodId} {args : Array Value} {below : List Frame} {meth : Method} {c : Code} {H : Heap} {locs : List Loc} {cells slots : Nat} {Q : State → Prop}
variable {cc : ByteArray} {pc : Nat} {ls : Array Slot} {rest : List Value} {D : va_G} {cl : List vw_C} {A : Nat → Prop} {a : Nat} {tys : List (ClassId × FieldType)} {ws : va_W} {H0 : Heap}
theorem sg_vput (hexec : p.tables.exec = Jvm.exec) (hb : c.code = cc) {own C : String} {T : u_T} {N ci index : Nat} {Ts : List Cond} (hts : ∀ w ∈ Ts, w.before args s = true) (hin : ∀ w ∈ u_ws C T N, w ∈ Ts) (ty0 : Nat → FieldType) (hty : ∀ k, k < N → parseFieldDescriptor (T k).2.2.1 = some (ty0 k)) (hnm : ∀ a, a < N → ∀ b, b < N → a ≠ b → (T a).2.1 ≠ (T b).2.1) (hown : s.vm.findClass own = some m.cls) (hK : va_K D cl tys s) (hP : va_P D cl ws H) (hD : va_D A ws) (hS0 : va_S A H0 H locs) (q0 : Nat) {fs : List Value} (he : ws[q0]? = some (a, .inr (ci, fs))) (hc : cl[ci]? = some (C, T, N)) (k : Nat) (hk : k < N) (hlink : (Cond.fieldLink own index C (T k).2.1 (T k).2.2.1).before args s = true ∨ (Cond.fieldLinkNest own index C (T k).2.1 (T k).2.2.1 sg_host).before args s = true) (hdecl : (T k).1 = C) (hfin : (T k).2.2.2 = false) {ty : FieldType} {v : Value} (hd : parseFieldDescriptor (T k).2.2.1 = some ty) (hn : narrow ty v = v) (hfit : fits ty v = true) (hl : k < fs.length)
    (hdg : decode cc pc = .ok (.putfield index, 3)) (kk : ∀ (H1 : Heap) (locs1 : List Loc), va_P D cl (ws.set q0 (a, .inr (ci, fs.set k v))) H1 → H1.size = H.size → va_S A H0 H1 locs1 → W p l e R s m args below meth c H1 locs1 cells slots Q (F0 m (pc + 3) ls rest)) : W p l e R s m args below meth c H locs cells slots Q (F0 m pc ls (v :: .ref a :: rest)) := by
  have hap := va_apart (own := own) hts hin ty0 hty hnm hK hc
  obtain ⟨r, h1, cell, q1, q2, q3, q4⟩ := hP q0 _ he
  have hr : r = (C, T, N) := Option.some.inj (h1.symm.trans hc)
  subst hr
  obtain ⟨hS, hfc, kC, hkC, hkind⟩ := hK.1 ci _ hc
  obtain ⟨cf, kf, fi, f, hi, hsl⟩ := hS k hk
  have hlay := hts _ (hin _ (u_in_lay hk))
  unfold u_lay at hlay
  rw [if_neg (by rw [hfin]; decide)] at hlay
  have hst := (u_facts hfc hkC (u_lays hts hin hk) hi).1
  have h6 := u_store hfc hkC hkind hlay hi hd hn hfit
  have hi2 := hi
  dsimp only at hi2 hdecl
  rw [hdecl] at hi2
  rcases hlink with hlink | hlink
  · refine W.putK hexec hb (f := f) ⟨hown, hlink, ⟨_, _, _, hi2⟩, hst⟩ (by rw [q2]; exact h6) q1 q3 (by rw [hsl]; exact k2_hasslot (q4 k hk)) rfl rfl hdg fun H' e1 e2 e3 => ?_
    rw [hsl] at e1 ⊢
    exact kk H' _ (hP.set hD he ⟨_, hc, t_OB.to (V := updV (vp_V fs) k v) ⟨_, e1, q2, q3, t_set q4 hap hk v⟩ (fun j _ => vp_updV_set hl v j)⟩ e3) e2 (hS0.put e2 e3 (hD.2 q0 _ he))
  · refine va_WputK hexec hb (f := f) hown hlink hi2 hst (by rw [q2]; exact h6) q1 q3 (by rw [hsl]; exact k2_hasslot (q4 k hk)) rfl rfl hdg fun H' e1 e2 e3 => ?_
    rw [hsl] at e1 ⊢
    exact kk H' _ (hP.set hD he ⟨_, hc, t_OB.to (V := updV (vp_V fs) k v) ⟨_, e1, q2, q3, t_set q4 hap hk v⟩ (fun j _ => vp_updV_set hl v j)⟩ e3) e2 (hS0.put e2 e3 (hD.2 q0 _ he))
theorem sg_vputF (hexec : p.tables.exec = Jvm.exec) (hb : c.code = cc) {C : String} {T : u_T} {N ci index : Nat} {Ts : List Cond} (hts : ∀ w ∈ Ts, w.before args s = true) (hin : ∀ w ∈ u_ws C T N, w ∈ Ts) (ty0 : Nat → FieldType) (hty : ∀ k, k < N → parseFieldDescriptor (T k).2.2.1 = some (ty0 k)) (hnm : ∀ a, a < N → ∀ b, b < N → a ≠ b → (T a).2.1 ≠ (T b).2.1) (hown : s.vm.findClass C = some m.cls) (hK : va_K D cl tys s) (hP : va_P D cl ws H) (hD : va_D A ws) (hS0 : va_S A H0 H locs) (q0 : Nat) {fs : List Value} (he : ws[q0]? = some (a, .inr (ci, fs))) (hc : cl[ci]? = some (C, T, N)) (k : Nat) (hk : k < N) (hlink : (Cond.fieldLink C index C (T k).2.1 (T k).2.2.1).before args s = true) (hdecl : (T k).1 = C) (hfin : (T k).2.2.2 = true) (hin2 : meth.name = "<init>") {ty : FieldType} {v : Value} (hd : parseFieldDescriptor (T k).2.2.1 = some ty) (hn : narrow ty v = v) (hfit : fits ty v = true) (hl : k < fs.length)
    (hdg : decode cc pc = .ok (.putfield index, 3)) (kk : ∀ (H1 : Heap) (locs1 : List Loc), va_P D cl (ws.set q0 (a, .inr (ci, fs.set k v))) H1 → H1.size = H.size → va_S A H0 H1 locs1 → W p l e R s m args below meth c H1 locs1 cells slots Q (F0 m (pc + 3) ls rest)) : W p l e R s m args below meth c H locs cells slots Q (F0 m pc ls (v :: .ref a :: rest)) := by
  have hap := va_apart (own := C) hts hin ty0 hty hnm hK hc
  obtain ⟨r, h1, cell, q1, q2, q3, q4⟩ := hP q0 _ he
  have hr : r = (C, T, N) := Option.some.inj (h1.symm.trans hc)
  subst hr
  obtain ⟨hS, hfc, kC, hkC, hkind⟩ := hK.1 ci _ hc
  obtain ⟨cf, kf, fi, f, hi, hsl⟩ := hS k hk
  have hlay := hts _ (hin _ (u_in_lay hk))
  unfold u_lay at hlay
  rw [if_pos hfin] at hlay
  have hst := (u_facts hfc hkC (u_lays hts hin hk) hi).1
  have hcf : m.cls = cf := by
    obtain ⟨_, _, c', _, _, _, -, -, hf', -, -, -, hown2, -⟩ := Cond.laysFinal_spec hlay
    have e1 : c' = cf := by have := hi.symm.trans hf'; simp at this; exact this.1.symm
    try dsimp only at hown2 hdecl
    rw [hdecl] at hown2
    rw [← e1]; exact Option.some.inj (hown.symm.trans hown2)
  have h6 := u_fits hfc hkC hkind (Or.inr hlay) hi hd hn hfit
  have hi2 := hi
  dsimp only at hi2 hdecl
  rw [hdecl] at hi2
  refine W.putFinK hexec hb hown hlink hi2 hst hcf hin2 (by rw [q2]; exact h6) q1 q3 (by rw [hsl]; exact k2_hasslot (q4 k hk)) rfl rfl hdg fun H' e1 e2 e3 => ?_
  rw [hsl] at e1 ⊢
  exact kk H' _ (hP.set hD he ⟨_, hc, t_OB.to (V := updV (vp_V fs) k v) ⟨_, e1, q2, q3, t_set q4 hap hk v⟩ (fun j _ => vp_updV_set hl v j)⟩ e3) e2 (hS0.put e2 e3 (hD.2 q0 _ he))
theorem sg_viast (hexec : p.tables.exec = Jvm.exec) (hb : c.code = cc) (hK : va_K D cl tys s) (hP : va_P D cl ws H) (hD : va_D A ws) (hS : va_S A H0 H locs) (q0 t0 : Nat) {cA : ClassId} {n : Nat} {f : Nat → Int32} (ha : ws[q0]? = some (a, .inl (cA, n, .inl f))) (ht : tys[t0]? = some (cA, .int)) {i : Int32} {x : Int32} (hin : vp_in i n) (hdg : decode cc pc = .ok (.iastore, 1))
    (kk : ∀ (H1 : Heap) (locs1 : List Loc), va_P D cl (ws.set q0 (a, .inl (cA, n, .inl (upd f i.toNatClampNeg x)))) H1 → H1.size = H.size → va_S A H0 H1 locs1 → W p l e R s m args below meth c H1 locs1 cells slots Q (F0 m (pc + 1) ls rest)) : W p l e R s m args below meth c H locs cells slots Q (F0 m pc ls (.int x :: .int i :: .ref a :: rest)) := by
  refine W.iast hexec hb (hP q0 _ ha) ((hK.2 t0 _ ht).1 n (fun j => .int (f j))) (fun q => by cases q) (by show ¬ (i < 0 ∨ (arrV _ _ _).slots.size ≤ _); rw [arrV_size]; exact hin) rfl rfl hdg fun H1 e z oq => ?_
  refine kk H1 _ (hP.set hD ha ?_ oq) z (hS.put z oq (hD.2 q0 _ ha))
  show H1[a]? = some (vp_cell _ _)
  rw [e]
  rw [vp_cell_i, vp_cell_i, arrV_store]
  congr 2
  funext q
  by_cases hq : q = i.toNatClampNeg
  · subst hq
    simp [updV, upd]
  · simp [updV, upd, hq]
theorem sg_vzast (hexec : p.tables.exec = Jvm.exec) (hb : c.code = cc) (hK : va_K D cl tys s) (hP : va_P D cl ws H) (hD : va_D A ws) (hS : va_S A H0 H locs) (q0 t0 : Nat) {cA : ClassId} {n : Nat} {f : Nat → Int32} (ha : ws[q0]? = some (a, .inl (cA, n, .inl f))) (ht : tys[t0]? = some (cA, .boolean)) {i : Int32} {x : Int32} (hin : vp_in i n) (hdg : decode cc pc = .ok (.bastore, 1))
    (kk : ∀ (H1 : Heap) (locs1 : List Loc), va_P D cl (ws.set q0 (a, .inl (cA, n, .inl (upd f i.toNatClampNeg (vp_nar .boolean x))))) H1 → H1.size = H.size → va_S A H0 H1 locs1 → W p l e R s m args below meth c H1 locs1 cells slots Q (F0 m (pc + 1) ls rest)) : W p l e R s m args below meth c H locs cells slots Q (F0 m pc ls (.int x :: .int i :: .ref a :: rest)) := by
  refine W.zast hexec hb (hP q0 _ ha) ((hK.2 t0 _ ht).1 n (fun j => .int (f j))) (fun q => by cases q) (by show ¬ (i < 0 ∨ (arrV _ _ _).slots.size ≤ _); rw [arrV_size]; exact hin) rfl rfl hdg fun H1 e z oq => ?_
  refine kk H1 _ (hP.set hD ha ?_ oq) z (hS.put z oq (hD.2 q0 _ ha))
  show H1[a]? = some (vp_cell _ _)
  rw [e]
  rw [vp_cell_i, vp_cell_i, arrV_store]
  congr 2
  funext q
  by_cases hq : q = i.toNatClampNeg
  · subst hq
    simp [updV, upd, vp_nar]
    try rfl
  · simp [updV, upd, hq]
theorem sg_vcast (hexec : p.tables.exec = Jvm.exec) (hb : c.code = cc) (hK : va_K D cl tys s) (hP : va_P D cl ws H) (hD : va_D A ws) (hS : va_S A H0 H locs) (q0 t0 : Nat) {cA : ClassId} {n : Nat} {f : Nat → Int32} (ha : ws[q0]? = some (a, .inl (cA, n, .inl f))) (ht : tys[t0]? = some (cA, .char)) {i : Int32} {x : Int32} (hin : vp_in i n) (hdg : decode cc pc = .ok (.castore, 1))
    (kk : ∀ (H1 : Heap) (locs1 : List Loc), va_P D cl (ws.set q0 (a, .inl (cA, n, .inl (upd f i.toNatClampNeg (vp_nar .char x))))) H1 → H1.size = H.size → va_S A H0 H1 locs1 → W p l e R s m args below meth c H1 locs1 cells slots Q (F0 m (pc + 1) ls rest)) : W p l e R s m args below meth c H locs cells slots Q (F0 m pc ls (.int x :: .int i :: .ref a :: rest)) := by
  refine W.cast hexec hb (hP q0 _ ha) ((hK.2 t0 _ ht).1 n (fun j => .int (f j))) (fun q => by cases q) (by show ¬ (i < 0 ∨ (arrV _ _ _).slots.size ≤ _); rw [arrV_size]; exact hin) rfl rfl hdg fun H1 e z oq => ?_
  refine kk H1 _ (hP.set hD ha ?_ oq) z (hS.put z oq (hD.2 q0 _ ha))
  show H1[a]? = some (vp_cell _ _)
  rw [e]
  rw [vp_cell_i, vp_cell_i, arrV_store]
  congr 2
  funext q
  by_cases hq : q = i.toNatClampNeg
  · subst hq
    simp [updV, upd, vp_nar]
    try rfl
  · simp [updV, upd, hq]
theorem sg_vlast (hexec : p.tables.exec = Jvm.exec) (hb : c.code = cc) (hK : va_K D cl tys s) (hP : va_P D cl ws H) (hD : va_D A ws) (hS : va_S A H0 H locs) (q0 t0 : Nat) {cA : ClassId} {n : Nat} {f : Nat → Int64} (ha : ws[q0]? = some (a, .inl (cA, n, .inr (.inl f)))) (ht : tys[t0]? = some (cA, .long)) {i : Int32} {x : Int64} (hin : vp_in i n) (hdg : decode cc pc = .ok (.lastore, 1))
    (kk : ∀ (H1 : Heap) (locs1 : List Loc), va_P D cl (ws.set q0 (a, .inl (cA, n, .inr (.inl (vp_updL f i.toNatClampNeg x))))) H1 → H1.size = H.size → va_S A H0 H1 locs1 → W p l e R s m args below meth c H1 locs1 cells slots Q (F0 m (pc + 1) ls rest)) : W p l e R s m args below meth c H locs cells slots Q (F0 m pc ls (.long x :: .int i :: .ref a :: rest)) := by
  refine W.last hexec hb (hP q0 _ ha) ((hK.2 t0 _ ht).1 n (fun j => .long (f j))) (fun q => by cases q) (by show ¬ (i < 0 ∨ (arrV _ _ _).slots.size ≤ _); rw [arrV_size]; exact hin) rfl rfl hdg fun H1 e z oq => ?_
  refine kk H1 _ (hP.set hD ha ?_ oq) z (hS.put z oq (hD.2 q0 _ ha))
  show H1[a]? = some (vp_cell _ _)
  rw [e]
  rw [vp_cell_l, vp_cell_l, arrV_store]
  congr 2
  funext q
  by_cases hq : q = i.toNatClampNeg
  · subst hq
    simp [updV, vp_updL]
  · simp [updV, vp_updL, hq]
theorem sg_vastq (hexec : p.tables.exec = Jvm.exec) (hb : c.code = cc) (hK : va_K D cl tys s) (hP : va_P D cl ws H) (hD : va_D A ws) (hS : va_S A H0 H locs) (q0 t0 qk ci : Nat) {cA : ClassId} {r : vw_C} {n v : Nat} {vs : List Value} {f : Nat → Option Nat} (ha : ws[q0]? = some (a, .inl (cA, n, .inr (.inr (.inr (.inr f)))))) (ht : tys[t0]? = some (cA, .object r.1)) (hv : ws[qk]? = some (v, .inr (ci, vs))) (hc : cl[ci]? = some r) {i : Int32} (hin : vp_in i n) (hdg : decode cc pc = .ok (.aastore, 1))
    (kk : ∀ (H1 : Heap) (locs1 : List Loc), va_P D cl (ws.set q0 (a, .inl (cA, n, .inr (.inr (.inr (.inr (va_up f i.toNatClampNeg (some v)))))))) H1 → H1.size = H.size → va_S A H0 H1 locs1 → W p l e R s m args below meth c H1 locs1 cells slots Q (F0 m (pc + 1) ls rest)) : W p l e R s m args below meth c H locs cells slots Q (F0 m pc ls (.ref v :: .int i :: .ref a :: rest)) := by
  have hlt : i.toNatClampNeg < n := Nat.not_le.mp fun q => hin (Or.inr q)
  have h0 : ¬ i < 0 := fun q => hin (Or.inl q)
  obtain ⟨r', hr', cellV, g1, g2, g3, -⟩ := hP qk _ hv
  have hcls := (hK.1 ci r hc).2
  obtain ⟨kA, comp, k1, k2, k3, -⟩ := (hK.2 t0 _ ht).2
  have hcomp : comp = D.1 ci := Option.some.inj (k3.symm.trans hcls.1)
  subst hcomp
  obtain ⟨kC, hkC, -⟩ := hcls.2
  refine W.aast hexec hb (hP q0 _ ha) (fun q h => by cases h) (fun h => by cases h) k1 k2 rfl hkC ⟨h0, by show _ < (arrV _ _ _).slots.size; rw [arrV_size]; exact hlt⟩ g1 (fun q h => by rw [g3] at h; cases h) (by rw [g2]; exact hkC) (by rw [g2]; exact va_assign hcls) rfl rfl hdg fun H1 e z oq => ?_
  refine kk H1 _ (hP.set hD ha ?_ oq) z (hS.put z oq (hD.2 q0 _ ha))
  show H1[a]? = some (vp_cell _ _)
  rw [e]
  rw [vp_cell_q, vp_cell_q, arrV_store]
  congr 2
  funext q
  by_cases hq : q = i.toNatClampNeg
  · subst hq
    simp [updV, va_up, va_rf]
  · simp [updV, va_up, hq]
theorem sg_vnew (hexec : p.tables.exec = Jvm.exec) (hb : c.code = cc) {own C : String} {T : u_T} {N ci index : Nat} {Ts : List Cond} (hts : ∀ w ∈ Ts, w.before args s = true) (hin : ∀ w ∈ u_ws C T N, w ∈ Ts) (ty : Nat → FieldType) (hty : ∀ k, k < N → parseFieldDescriptor (T k).2.2.1 = some (ty k)) (hown : s.vm.findClass own = some m.cls) (hcl : (Cond.classLink own index C).before args s = true) (hinst : (Cond.instantiable C N).before args s = true) (hini : (Cond.initialized C).before args s = true)
    (hK : va_K D cl tys s) (hP : va_P D cl ws H) (hS : va_S A H0 H locs) (hc : cl[ci]? = some (C, T, N)) {fs : List Value} (hfs : ∀ j, j < N → defaultValue (ty j) = vp_V fs j) (hcells : cells + 1 ≤ R.cells) (hslots : slots + N ≤ R.slots) (hdg : decode cc pc = .ok (.new index, 3))
    (kk : ∀ H1 : Heap, va_P D cl (ws ++ [(H.size, .inr (ci, fs))]) H1 → H1.size = H.size + 1 → va_S A H0 H1 locs →
      W p l e R s m args below meth c H1 locs (cells + 1) (slots + N) Q (F0 m (pc + 3) ls (.ref H.size :: rest))) : W p l e R s m args below meth c H locs cells slots Q (F0 m pc ls rest) := by
  have hKn := hK.1 ci _ hc
  refine W.newcK hexec hb hown hcl hinst hini rfl hdg hcells hslots hKn.2.1 rfl fun H1 kC hkC e1 z1 o1 => ?_
  have hk : ∀ (k : Nat) (x : Nat × va_E), ws[k]? = some x → H1[x.1]? = H[x.1]? := fun k x hx => o1 x.1 ((hP k x hx).lt)
  refine kk H1 ((hP.kept hk).app (fun k x hx => ?_)) z1 ⟨Nat.le_trans hS.1 (by omega), fun x h1 h2 => (o1 x (Nat.lt_of_lt_of_le h1 hS.1)).trans (hS.2.1 x h1 h2), hS.2.2⟩
  have hz : k < 1 := (List.getElem?_eq_some_iff.mp hx).1
  rw [show k = 0 by omega] at hx
  cases hx
  exact ⟨_, hc, (u_born ty hts hin hKn hkC e1 hty).to hfs⟩
theorem sg_vnewa (hexec : p.tables.exec = Jvm.exec) (hb : c.code = cc) {atype : ArrayType} (harr : (Cond.arrayClass (newarray.typeOf atype)).before args s = true) {cA : ClassId} (hcA : s.vm.findClass ("[" ++ (newarray.typeOf atype).toString) = some cA) (hP : va_P D cl ws H) (hS : va_S A H0 H locs)
    {n : Int32} {N' : Nat} {a0 : vp_A} (ha : vp_cell cA a0 = arrV cA N' (fun _ => defaultValue (newarray.typeOf atype))) (hn : ¬ n < 0) (hN : n.toNatClampNeg = N') (hbytes : N' * componentBytes (newarray.typeOf atype) ≤ 536870912) (hcells : cells + 1 ≤ R.cells) (hslots : slots + N' ≤ R.slots) (hdg : decode cc pc = .ok (.newarray atype, 2))
    (kk : ∀ H1 : Heap, va_P D cl (ws ++ [(H.size, .inl (cA, a0))]) H1 → H1.size = H.size + 1 → va_S A H0 H1 locs →
      W p l e R s m args below meth c H1 locs (cells + 1) (slots + N') Q (F0 m (pc + 2) ls (.ref H.size :: rest))) : W p l e R s m args below meth c H locs cells slots Q (F0 m pc ls (.int n :: rest)) := by
  refine va_newaK hexec hb harr rfl hdg rfl hn hN hbytes hcells hslots rfl fun H1 cA' e1 z1 o1 hAr hNm => ?_
  have hcc : cA' = cA := Option.some.inj (hNm.symm.trans hcA)
  subst hcc
  have hk : ∀ (k : Nat) (x : Nat × va_E), ws[k]? = some x → H1[x.1]? = H[x.1]? := fun k x hx => o1 x.1 ((hP k x hx).lt)
  refine kk H1 ((hP.kept hk).app (fun k x hx => ?_)) z1 ⟨Nat.le_trans hS.1 (by omega), fun x h1 h2 => (o1 x (Nat.lt_of_lt_of_le h1 hS.1)).trans (hS.2.1 x h1 h2), hS.2.2⟩
  have hz : k < 1 := (List.getElem?_eq_some_iff.mp hx).1
  rw [show k = 0 by omega] at hx
  cases hx
  show H1[H.size]? = some (vp_cell _ _)
  rw [ha]
  exact e1
theorem sg_vnewq (hexec : p.tables.exec = Jvm.exec) (hb : c.code = cc) {own C : String} {index : Nat} (hown : s.vm.findClass own = some m.cls) (hclink : (Cond.classLink own index C).before args s = true) (hover : (Cond.arrayOver (.object C)).before args s = true) {cA : ClassId} (hcA : s.vm.findClass ("[" ++ (FieldType.object C).toString) = some cA) (hP : va_P D cl ws H) (hS : va_S A H0 H locs)
    {n : Int32} {N' : Nat} (hn : ¬ n < 0) (hN : n.toNatClampNeg = N') (hbytes : N' * 4 ≤ 536870912) (hcells : cells + 1 ≤ R.cells) (hslots : slots + N' ≤ R.slots) (hdg : decode cc pc = .ok (.anewarray index, 3)) {f : Nat → Option Nat} (hf : f = fun _ => none)
    (kk : ∀ H1 : Heap, va_P D cl (ws ++ [(H.size, .inl (cA, N', .inr (.inr (.inr (.inr f)))))]) H1 → H1.size = H.size + 1 → va_S A H0 H1 locs →
      W p l e R s m args below meth c H1 locs (cells + 1) (slots + N') Q (F0 m (pc + 3) ls (.ref H.size :: rest))) : W p l e R s m args below meth c H locs cells slots Q (F0 m pc ls (.int n :: rest)) := by
  subst hN
  subst hf
  refine W.anew hexec hb hown hclink hover rfl hdg rfl hn hbytes hcells hslots fun cA' kA comp f1 f2 f3 f4 => ?_
  have hcc : cA' = cA := Option.some.inj (f1.symm.trans hcA)
  subst hcc
  generalize hH1 : H.push ({ cls := cA', slots := Array.replicate n.toNatClampNeg .null, vm := .none } : Cell) = H1
  have z1 : H1.size = H.size + 1 := by rw [← hH1, Array.size_push]
  have e1 : H1[H.size]? = some (arrV cA' n.toNatClampNeg (fun _ => .null)) := by rw [← hH1, Array.getElem?_push_size, ← arrV_new]
  have o1 : ∀ q : Nat, q < H.size → H1[q]? = H[q]? := fun q hq => by rw [← hH1, Array.getElem?_push, if_neg (Nat.ne_of_lt hq)]
  have hk : ∀ (k : Nat) (x : Nat × va_E), ws[k]? = some x → H1[x.1]? = H[x.1]? := fun k x hx => o1 x.1 ((hP k x hx).lt)
  refine kk H1 ((hP.kept hk).app (fun k x hx => ?_)) z1 ⟨Nat.le_trans hS.1 (by omega), fun x h1 h2 => (o1 x (Nat.lt_of_lt_of_le h1 hS.1)).trans (hS.2.1 x h1 h2), hS.2.2⟩
  have hz : k < 1 := (List.getElem?_eq_some_iff.mp hx).1
  rw [show k = 0 by omega] at hx
  cases hx
  exact e1
end SGV
end
section
/-! the instructions that touch the heap -/
def sg_tys (dA : Nat → ClassId) : List (ClassId × FieldType) := [(dA 8, .int), (dA 9, .boolean), (dA 10, .char), (dA 11, .long), (dA 12, .object "BargeChess$Game")]
theorem sg_upR (bs : Nat) (ax : Nat → Nat) (r : Option Nat) : sg_up bs ax (vR r) = sg_rf bs r := by cases r <;> rfl
theorem sg_rfq (bs : Nat) (r : Option Nat) : sg_rf bs r = va_rf (r.map (bs + ·)) := by cases r <;> rfl
theorem sg_fs_get {bs : Nat} {ax : Nat → Nat} {m : Nat → Int → Int} {a t n k : Nat} {rs : List (Option Nat)} (hk : k < n) : (sg_fs bs m a (t, n, rs))[k]? = some (sg_up bs ax (if ag_kind t k = 2 then vR (rs.getD k none) else vI (m a k))) := by
  simp only [sg_fs, List.getElem?_map, List.getElem?_range hk, Option.map_some]
  by_cases h : ag_kind t k = 2
  · rw [if_pos h, if_pos h, sg_upR]
  · rw [if_neg h, if_neg h]
    rfl
theorem sg_fs_len {bs : Nat} {m : Nat → Int → Int} {a t n : Nat} {rs : List (Option Nat)} : (sg_fs bs m a (t, n, rs)).length = n := by simp [sg_fs]
theorem sg_fs_upd {bs : Nat} {m : Nat → Int → Int} {a t n k : Nat} {z : Int} {rs : List (Option Nat)} (hk : k < n) (h2 : ag_kind t k ≠ 2) : sg_fs bs (ag_upd m a k z) a (t, n, rs) = (sg_fs bs m a (t, n, rs)).set k (.int (Int32.ofInt z)) := by
  apply List.ext_getElem?
  intro i
  by_cases hi : i < n
  · by_cases hik : k = i
    · subst hik
      rw [List.getElem?_set_self (by rw [sg_fs_len]; exact hk)]
      simp only [sg_fs, List.getElem?_map, List.getElem?_range hk, Option.map_some, if_neg h2]
      simp [ag_upd]
    · rw [List.getElem?_set_ne hik]
      simp only [sg_fs, List.getElem?_map, List.getElem?_range hi, Option.map_some]
      have : ¬ ((i : Nat) : Int) = ((k : Nat) : Int) := fun q => hik (by omega)
      simp [ag_upd, this]
  · rw [List.getElem?_eq_none (by rw [sg_fs_len]; omega), List.getElem?_eq_none (by rw [List.length_set, sg_fs_len]; omega)]
theorem sg_fs_ref {bs : Nat} {m : Nat → Int → Int} {a t n k : Nat} {v : Option Nat} {rs : List (Option Nat)} (hk : k < n) (hr : rs.length = n) (h2 : ag_kind t k = 2) : sg_fs bs m a (t, n, rs.set k v) = (sg_fs bs m a (t, n, rs)).set k (sg_rf bs v) := by
  apply List.ext_getElem?
  intro i
  by_cases hi : i < n
  · by_cases hik : k = i
    · subst hik
      rw [List.getElem?_set_self (by rw [sg_fs_len]; exact hk)]
      simp only [sg_fs, List.getElem?_map, List.getElem?_range hk, Option.map_some, if_pos h2]
      simp [List.getD_eq_getElem?_getD, hr, hk]
    · rw [List.getElem?_set_ne hik]
      simp only [sg_fs, List.getElem?_map, List.getElem?_range hi, Option.map_some]
      simp [List.getD_eq_getElem?_getD, List.getElem?_set_ne hik]
  · rw [List.getElem?_eq_none (by rw [sg_fs_len]; omega), List.getElem?_eq_none (by rw [List.length_set, sg_fs_len]; omega)]
theorem sg_fit2 {ty : FieldType} (h : sg_isR ty = true) (bs : Nat) (v : Option Nat) : narrow ty (sg_rf bs v) = sg_rf bs v ∧ fits ty (sg_rf bs v) = true := by
  cases ty <;> first | (cases h; done) | (cases v <;> exact ⟨rfl, rfl⟩)
theorem sg_idx {i : Int} (h0 : 0 ≤ i) : ((i.toNat : Nat) : Int) = i := Int.toNat_of_nonneg h0
theorem sg_updA {m : Nat → Int → Int} {a : Nat} {i z : Int} (h0 : 0 ≤ i) (h1 : i < 100000) : (fun j : Nat => Int32.ofInt (ag_upd m a i z a j)) = upd (fun j : Nat => Int32.ofInt (m a j)) (Int32.ofInt i).toNatClampNeg (Int32.ofInt z) := by
  rw [sg_nat h0 h1]
  funext j
  by_cases hj : j = i.toNat
  · subst hj
    simp [ag_upd, upd, sg_idx h0]
  · have : ¬ (j : Int) = i := fun q => hj (by omega)
    simp [ag_upd, upd, hj, this]
theorem sg_updL {m : Nat → Int → Int} {a : Nat} {i z : Int} (h0 : 0 ≤ i) (h1 : i < 100000) : (fun j : Nat => Int64.ofInt (ag_upd m a i z a j)) = vp_updL (fun j : Nat => Int64.ofInt (m a j)) (Int32.ofInt i).toNatClampNeg (Int64.ofInt z) := by
  rw [sg_nat h0 h1]
  funext j
  by_cases hj : j = i.toNat
  · subst hj
    simp [ag_upd, vp_updL, sg_idx h0]
  · have : ¬ (j : Int) = i := fun q => hj (by omega)
    simp [ag_upd, vp_updL, hj, this]
theorem sg_narZ {z : Int} (h : z = 0 ∨ z = 1) : vp_nar .boolean (Int32.ofInt z) = Int32.ofInt z := by
  rcases h with rfl | rfl <;> decide +kernel
theorem sg_narC {z : Int} (h0 : 0 ≤ z) (h1 : z < 65536) : vp_nar .char (Int32.ofInt z) = Int32.ofInt z := by
  obtain ⟨n, rfl⟩ := Int.eq_ofNat_of_zero_le h0
  have h := (pk_charN (q := n) (by omega)).1
  unfold vp_nar
  rw [show Int32.ofInt (n : Int) = nI n from rfl, h]
section SGH
variable {p : Program} {l : Launch} {e : Env} {R : Room} {s : State} {m : MethodId} {args : Array Value} {below : List Frame} {meth : Method} {c : Code} {Q : State → Prop} {cc : ByteArray} {nL bs n0 s0 ci : Nat} {dA : Nat → ClassId} {ax : Nat → Nat} {D : va_G}
variable {pc : Nat} {ls : List (Option av)} {st : List av} {h : ag_H}
theorem sg_getf (hx : p.tables.exec = Jvm.exec) (hb : c.code = cc) (hts : ∀ w ∈ sg_tb, w.before args s = true) (hown : s.vm.findClass (sg_R ci) = some m.cls) (hK : va_K D vwCl (sg_tys dA) s) {ix t k a n : Nat} {rs : List (Option Nat)} (hf : ag_TT.1 ci ix = some (t, k)) (ht : t < 8) (hk : k < ag_nf t) (hn : k < n) (ha : h.1[a]? = some (t, n, rs)) (hd : decode cc pc = .ok (.getfield ix, 3)) (kk : sg_J p l e R s m args below meth c Q nL bs n0 s0 dA ax D (pc + 3, ls, (if ag_kind t k = 2 then vR (rs.getD k none) else vI (h.2 a k)) :: st, h)) : sg_J p l e R s m args below meth c Q nL bs n0 s0 dA ax D (pc, ls, vA a :: st, h) := by
  intro H locs rl cells slots hP hz hS hL hc hs
  have hw := hts _ (sg_fw hf)
  have he : (sg_W bs dA h)[a]? = some (bs + a, .inr (t, sg_fs bs h.2 a (t, n, rs))) := by
    rw [sg_W_get ha]
    simp [sg_E, ht]
  have hv := sg_fs_get (bs := bs) (ax := ax) (m := h.2) (a := a) (t := t) (rs := rs) hn
  have hde := (sg_kf t ht k hk).1
  unfold sg_fl at hw
  by_cases hc2 : ci = t
  · rw [if_pos hc2] at hw
    exact va_get hx hb hts (sg_lay t ht) hown hK hP a he (sg_cl t ht) k hk hw (by rw [hde]; exact fun _ h9 => h9) hv hd (kk H locs rl cells slots hP hz hS hL hc hs)
  · rw [if_neg hc2] at hw
    exact va_getN hx hb hts (sg_lay t ht) hown hK hP a he (sg_cl t ht) k hk hw (by rw [hde]; exact fun _ h9 => h9) hv hd (kk H locs rl cells slots hP hz hS hL hc hs)
theorem sg_putI (hx : p.tables.exec = Jvm.exec) (hb : c.code = cc) (hts : ∀ w ∈ sg_tb, w.before args s = true) (hown : s.vm.findClass (sg_R ci) = some m.cls) (hK : va_K D vwCl (sg_tys dA) s) {ix t k a n : Nat} {z : Int} {rs : List (Option Nat)} (hf : ag_TT.1 ci ix = some (t, k)) (ht : t < 8) (hk : k < ag_nf t) (h2 : ag_kind t k ≠ 2) (h1 : ag_kind t k = 1 → z = 0 ∨ z = 1) (hn : k < n) (ha : h.1[a]? = some (t, n, rs)) (hd : decode cc pc = .ok (.putfield ix, 3)) (kk : sg_J p l e R s m args below meth c Q nL bs n0 s0 dA ax D (pc + 3, ls, st, (h.1, ag_upd h.2 a k z))) : sg_J p l e R s m args below meth c Q nL bs n0 s0 dA ax D (pc, ls, vI z :: vA a :: st, h) := by
  intro H locs rl cells slots hP hz hS hL hc hs
  obtain ⟨sh, mm⟩ := h
  have hw := hts _ (sg_fw hf)
  have he : (sg_W bs dA (sh, mm))[a]? = some (bs + a, .inr (t, sg_fs bs mm a (t, n, rs))) := by
    rw [sg_W_get ha]
    simp [sg_E, ht]
  have hkf := sg_kf t ht k hk
  have hfi := hkf.2.2 h2
  have hnar : narrow (sg_ty t k) (.int (Int32.ofInt z)) = .int (Int32.ofInt z) ∧ fits (sg_ty t k) (.int (Int32.ofInt z)) = true := by
    rcases hfi.2 with q | ⟨q1, q⟩
    · rw [q]; exact ⟨rfl, rfl⟩
    · rw [q]
      rcases h1 q1 with rfl | rfl <;> exact ⟨by decide +kernel, by decide +kernel⟩
  have hE : sg_E bs dA (ag_upd mm a k z) a (t, n, rs) = .inr (t, (sg_fs bs mm a (t, n, rs)).set k (.int (Int32.ofInt z))) := by
    rw [← sg_fs_upd hn h2]
    simp [sg_E, ht]
  refine sg_vput (ty := sg_ty t k) hx hb hts (sg_lay t ht) (sg_ty t) (sg_tyok t ht) (sg_nm t ht) hown hK hP sg_W_D hS a he (sg_cl t ht) k hk ?_ hkf.1 hfi.1 (sg_tyok t ht k hk) hnar.1 hnar.2 (by rw [sg_fs_len]; exact hn) hd (fun H1 locs1 hP1 hz1 hS1 => ?_)
  · unfold sg_fl at hw
    by_cases hc2 : ci = t
    · rw [if_pos hc2] at hw; exact Or.inl hw
    · rw [if_neg hc2] at hw; exact Or.inr hw
  · have hP2 : va_P D vwCl (sg_W bs dA (sh, ag_upd mm a k z)) H1 := by
      rw [sg_W_upd ha hE]
      exact hP1
    exact kk H1 locs1 rl cells slots hP2 (by rw [hz1]; exact hz) hS1 hL hc hs
theorem sg_putR (hx : p.tables.exec = Jvm.exec) (hb : c.code = cc) (hts : ∀ w ∈ sg_tb, w.before args s = true) (hown : s.vm.findClass (sg_R ci) = some m.cls) (hK : va_K D vwCl (sg_tys dA) s) (hini : meth.name = "<init>") {ix t k a n : Nat} {v : Option Nat} {rs : List (Option Nat)} (hf : ag_TT.1 ci ix = some (t, k)) (hci : t = ci) (ht : t < 8) (hk : k < ag_nf t) (h2 : ag_kind t k = 2) (hn : k < n) (hr : rs.length = n) (ha : h.1[a]? = some (t, n, rs)) (hd : decode cc pc = .ok (.putfield ix, 3)) (kk : sg_J p l e R s m args below meth c Q nL bs n0 s0 dA ax D (pc + 3, ls, st, (h.1.set a (t, n, rs.set k v), h.2))) : sg_J p l e R s m args below meth c Q nL bs n0 s0 dA ax D (pc, ls, vR v :: vA a :: st, h) := by
  intro H locs rl cells slots hP hz hS hL hc hs
  obtain ⟨sh, mm⟩ := h
  subst hci
  have hw := hts _ (sg_fw hf)
  have he : (sg_W bs dA (sh, mm))[a]? = some (bs + a, .inr (t, sg_fs bs mm a (t, n, rs))) := by
    rw [sg_W_get ha]
    simp [sg_E, ht]
  have hkf := sg_kf t ht k hk
  have hfi := hkf.2.1 h2
  have hnar := sg_fit2 hfi.2 bs v
  have hE : sg_E bs dA mm a (t, n, rs.set k v) = .inr (t, (sg_fs bs mm a (t, n, rs)).set k (sg_rf bs v)) := by
    rw [← sg_fs_ref hn hr h2]
    simp [sg_E, ht]
  unfold sg_fl at hw
  rw [if_pos rfl] at hw
  show W p l e R s m args below meth c H locs cells slots Q (F0 m pc rl (sg_up bs ax (vR v) :: .ref (bs + a) :: st.map (sg_up bs ax)))
  rw [sg_upR]
  refine sg_vputF (ty := sg_ty t k) hx hb hts (sg_lay t ht) (sg_ty t) (sg_tyok t ht) (sg_nm t ht) hown hK hP sg_W_D hS a he (sg_cl t ht) k hk hw hkf.1 hfi.1 hini (sg_tyok t ht k hk) hnar.1 hnar.2 (by rw [sg_fs_len]; exact hn) hd (fun H1 locs1 hP1 hz1 hS1 => ?_)
  have hP2 : va_P D vwCl (sg_W bs dA (sh.set a (t, n, rs.set k v), mm)) H1 := by
    rw [sg_W_set ha (fun _ _ => rfl) hE]
    exact hP1
  exact kk H1 locs1 rl cells slots hP2 (by rw [hz1]; simpa using hz) hS1 hL (by simpa using hc) (by show slots + s0 = sg_ss (sh.set a (t, n, rs.set k v)); rw [sg_ss_set ha]; exact hs)
theorem sg_iald (hx : p.tables.exec = Jvm.exec) (hb : c.code = cc) (hK : va_K D vwCl (sg_tys dA) s) {a n : Nat} {i : Int} {rs : List (Option Nat)} (ha : h.1[a]? = some (8, n, rs)) (h0 : 0 ≤ i) (h1 : i < n) (hn : n ≤ 100000) (hd : decode cc pc = .ok (.iaload, 1)) (kk : sg_J p l e R s m args below meth c Q nL bs n0 s0 dA ax D (pc + 1, ls, vI (h.2 a i) :: st, h)) : sg_J p l e R s m args below meth c Q nL bs n0 s0 dA ax D (pc, ls, vI i :: vA a :: st, h) := by
  intro H locs rl cells slots hP hz hS hL hc hs
  have he : (sg_W bs dA h)[a]? = some (bs + a, .inl (dA 8, n, .inl fun i => Int32.ofInt (h.2 a i))) := by
    rw [sg_W_get ha]
    rfl
  refine va_iald hx hb hK hP a 0 he rfl (sg_vp h0 h1 hn) hd ?_
  have := kk H locs rl cells slots hP hz hS hL hc hs
  rw [sg_nat h0 (by omega)]
  dsimp only
  rw [sg_idx h0]
  exact this
theorem sg_zald (hx : p.tables.exec = Jvm.exec) (hb : c.code = cc) (hK : va_K D vwCl (sg_tys dA) s) {a n : Nat} {i : Int} {rs : List (Option Nat)} (ha : h.1[a]? = some (9, n, rs)) (h0 : 0 ≤ i) (h1 : i < n) (hn : n ≤ 100000) (hd : decode cc pc = .ok (.baload, 1)) (kk : sg_J p l e R s m args below meth c Q nL bs n0 s0 dA ax D (pc + 1, ls, vI (h.2 a i) :: st, h)) : sg_J p l e R s m args below meth c Q nL bs n0 s0 dA ax D (pc, ls, vI i :: vA a :: st, h) := by
  intro H locs rl cells slots hP hz hS hL hc hs
  have he : (sg_W bs dA h)[a]? = some (bs + a, .inl (dA 9, n, .inl fun i => Int32.ofInt (h.2 a i))) := by
    rw [sg_W_get ha]
    rfl
  refine va_zald hx hb hK hP a 1 he rfl (sg_vp h0 h1 hn) hd ?_
  have := kk H locs rl cells slots hP hz hS hL hc hs
  rw [sg_nat h0 (by omega)]
  dsimp only
  rw [sg_idx h0]
  exact this
theorem sg_cald (hx : p.tables.exec = Jvm.exec) (hb : c.code = cc) (hK : va_K D vwCl (sg_tys dA) s) {a n : Nat} {i : Int} {rs : List (Option Nat)} (ha : h.1[a]? = some (10, n, rs)) (h0 : 0 ≤ i) (h1 : i < n) (hn : n ≤ 100000) (hd : decode cc pc = .ok (.caload, 1)) (kk : sg_J p l e R s m args below meth c Q nL bs n0 s0 dA ax D (pc + 1, ls, vI (h.2 a i) :: st, h)) : sg_J p l e R s m args below meth c Q nL bs n0 s0 dA ax D (pc, ls, vI i :: vA a :: st, h) := by
  intro H locs rl cells slots hP hz hS hL hc hs
  have he : (sg_W bs dA h)[a]? = some (bs + a, .inl (dA 10, n, .inl fun i => Int32.ofInt (h.2 a i))) := by
    rw [sg_W_get ha]
    rfl
  refine va_cald hx hb hK hP a 2 he rfl (sg_vp h0 h1 hn) hd ?_
  have := kk H locs rl cells slots hP hz hS hL hc hs
  rw [sg_nat h0 (by omega)]
  dsimp only
  rw [sg_idx h0]
  exact this
theorem sg_lald (hx : p.tables.exec = Jvm.exec) (hb : c.code = cc) (hK : va_K D vwCl (sg_tys dA) s) {a n : Nat} {i : Int} {rs : List (Option Nat)} (ha : h.1[a]? = some (11, n, rs)) (h0 : 0 ≤ i) (h1 : i < n) (hn : n ≤ 100000) (hd : decode cc pc = .ok (.laload, 1)) (kk : sg_J p l e R s m args below meth c Q nL bs n0 s0 dA ax D (pc + 1, ls, vJ (h.2 a i) :: st, h)) : sg_J p l e R s m args below meth c Q nL bs n0 s0 dA ax D (pc, ls, vI i :: vA a :: st, h) := by
  intro H locs rl cells slots hP hz hS hL hc hs
  have he : (sg_W bs dA h)[a]? = some (bs + a, .inl (dA 11, n, .inr (.inl fun i => Int64.ofInt (h.2 a i)))) := by
    rw [sg_W_get ha]
    rfl
  refine va_lald hx hb hK hP a 3 he rfl (sg_vp h0 h1 hn) hd ?_
  have := kk H locs rl cells slots hP hz hS hL hc hs
  rw [sg_nat h0 (by omega)]
  dsimp only
  rw [sg_idx h0]
  exact this
theorem sg_qald (hx : p.tables.exec = Jvm.exec) (hb : c.code = cc) (hK : va_K D vwCl (sg_tys dA) s) {a n : Nat} {i : Int} {rs : List (Option Nat)} (ha : h.1[a]? = some (12, n, rs)) (h0 : 0 ≤ i) (h1 : i < n) (hn : n ≤ 100000) (hd : decode cc pc = .ok (.aaload, 1)) (kk : sg_J p l e R s m args below meth c Q nL bs n0 s0 dA ax D (pc + 1, ls, vR (rs.getD i.toNat none) :: st, h)) : sg_J p l e R s m args below meth c Q nL bs n0 s0 dA ax D (pc, ls, vI i :: vA a :: st, h) := by
  intro H locs rl cells slots hP hz hS hL hc hs
  have he : (sg_W bs dA h)[a]? = some (bs + a, .inl (dA 12, n, .inr (.inr (.inr (.inr fun i => (rs.getD i none).map (bs + ·)))))) := by
    rw [sg_W_get ha]
    rfl
  refine va_aldq hx hb hK hP a 4 he rfl (sg_vp h0 h1 hn) hd ?_
  have := kk H locs rl cells slots hP hz hS hL hc hs
  rw [sg_nat h0 (by omega)]
  rw [← sg_rfq, ← sg_upR bs ax]
  exact this
theorem sg_iast (hx : p.tables.exec = Jvm.exec) (hb : c.code = cc) (hK : va_K D vwCl (sg_tys dA) s) {a n : Nat} {i z : Int} {rs : List (Option Nat)} (ha : h.1[a]? = some (8, n, rs)) (h0 : 0 ≤ i) (h1 : i < n) (hn : n ≤ 100000) (hd : decode cc pc = .ok (.iastore, 1)) (kk : sg_J p l e R s m args below meth c Q nL bs n0 s0 dA ax D (pc + 1, ls, st, (h.1, ag_upd h.2 a i z))) : sg_J p l e R s m args below meth c Q nL bs n0 s0 dA ax D (pc, ls, vI z :: vI i :: vA a :: st, h) := by
  intro H locs rl cells slots hP hz hS hL hc hs
  obtain ⟨sh, mm⟩ := h
  have he : (sg_W bs dA (sh, mm))[a]? = some (bs + a, .inl (dA 8, n, .inl fun i => Int32.ofInt (mm a i))) := by
    rw [sg_W_get ha]
    rfl
  refine sg_viast hx hb hK hP sg_W_D hS a 0 he rfl (sg_vp h0 h1 hn) hd (fun H1 locs1 hP1 hz1 hS1 => ?_)
  have hP2 : va_P D vwCl (sg_W bs dA (sh, ag_upd mm a i z)) H1 := by
    rw [sg_W_upd ha rfl]
    show va_P D vwCl ((sg_W bs dA (sh, mm)).set a (bs + a, .inl (dA 8, n, .inl fun j => Int32.ofInt (ag_upd mm a i z a j)))) H1
    rw [sg_updA h0 (by omega)]
    exact hP1
  exact kk H1 locs1 rl cells slots hP2 (by rw [hz1]; exact hz) hS1 hL hc hs
theorem sg_zast (hx : p.tables.exec = Jvm.exec) (hb : c.code = cc) (hK : va_K D vwCl (sg_tys dA) s) {a n : Nat} {i z : Int} {rs : List (Option Nat)} (ha : h.1[a]? = some (9, n, rs)) (h0 : 0 ≤ i) (h1 : i < n) (hn : n ≤ 100000) (hz9 : z = 0 ∨ z = 1) (hd : decode cc pc = .ok (.bastore, 1)) (kk : sg_J p l e R s m args below meth c Q nL bs n0 s0 dA ax D (pc + 1, ls, st, (h.1, ag_upd h.2 a i z))) : sg_J p l e R s m args below meth c Q nL bs n0 s0 dA ax D (pc, ls, vI z :: vI i :: vA a :: st, h) := by
  intro H locs rl cells slots hP hz hS hL hc hs
  obtain ⟨sh, mm⟩ := h
  have he : (sg_W bs dA (sh, mm))[a]? = some (bs + a, .inl (dA 9, n, .inl fun i => Int32.ofInt (mm a i))) := by
    rw [sg_W_get ha]
    rfl
  refine sg_vzast hx hb hK hP sg_W_D hS a 1 he rfl (sg_vp h0 h1 hn) hd (fun H1 locs1 hP1 hz1 hS1 => ?_)
  have hP2 : va_P D vwCl (sg_W bs dA (sh, ag_upd mm a i z)) H1 := by
    rw [sg_W_upd ha rfl]
    show va_P D vwCl ((sg_W bs dA (sh, mm)).set a (bs + a, .inl (dA 9, n, .inl fun j => Int32.ofInt (ag_upd mm a i z a j)))) H1
    rw [sg_updA h0 (by omega)]
    rw [← sg_narZ hz9]
    exact hP1
  exact kk H1 locs1 rl cells slots hP2 (by rw [hz1]; exact hz) hS1 hL hc hs
theorem sg_cast (hx : p.tables.exec = Jvm.exec) (hb : c.code = cc) (hK : va_K D vwCl (sg_tys dA) s) {a n : Nat} {i z : Int} {rs : List (Option Nat)} (ha : h.1[a]? = some (10, n, rs)) (h0 : 0 ≤ i) (h1 : i < n) (hn : n ≤ 100000) (hz8 : 0 ≤ z) (hz9 : z < 65536) (hd : decode cc pc = .ok (.castore, 1)) (kk : sg_J p l e R s m args below meth c Q nL bs n0 s0 dA ax D (pc + 1, ls, st, (h.1, ag_upd h.2 a i z))) : sg_J p l e R s m args below meth c Q nL bs n0 s0 dA ax D (pc, ls, vI z :: vI i :: vA a :: st, h) := by
  intro H locs rl cells slots hP hz hS hL hc hs
  obtain ⟨sh, mm⟩ := h
  have he : (sg_W bs dA (sh, mm))[a]? = some (bs + a, .inl (dA 10, n, .inl fun i => Int32.ofInt (mm a i))) := by
    rw [sg_W_get ha]
    rfl
  refine sg_vcast hx hb hK hP sg_W_D hS a 2 he rfl (sg_vp h0 h1 hn) hd (fun H1 locs1 hP1 hz1 hS1 => ?_)
  have hP2 : va_P D vwCl (sg_W bs dA (sh, ag_upd mm a i z)) H1 := by
    rw [sg_W_upd ha rfl]
    show va_P D vwCl ((sg_W bs dA (sh, mm)).set a (bs + a, .inl (dA 10, n, .inl fun j => Int32.ofInt (ag_upd mm a i z a j)))) H1
    rw [sg_updA h0 (by omega)]
    rw [← sg_narC hz8 hz9]
    exact hP1
  exact kk H1 locs1 rl cells slots hP2 (by rw [hz1]; exact hz) hS1 hL hc hs
theorem sg_last (hx : p.tables.exec = Jvm.exec) (hb : c.code = cc) (hK : va_K D vwCl (sg_tys dA) s) {a n : Nat} {i z : Int} {rs : List (Option Nat)} (ha : h.1[a]? = some (11, n, rs)) (h0 : 0 ≤ i) (h1 : i < n) (hn : n ≤ 100000) (hd : decode cc pc = .ok (.lastore, 1)) (kk : sg_J p l e R s m args below meth c Q nL bs n0 s0 dA ax D (pc + 1, ls, st, (h.1, ag_upd h.2 a i z))) : sg_J p l e R s m args below meth c Q nL bs n0 s0 dA ax D (pc, ls, vJ z :: vI i :: vA a :: st, h) := by
  intro H locs rl cells slots hP hz hS hL hc hs
  obtain ⟨sh, mm⟩ := h
  have he : (sg_W bs dA (sh, mm))[a]? = some (bs + a, .inl (dA 11, n, .inr (.inl fun i => Int64.ofInt (mm a i)))) := by
    rw [sg_W_get ha]
    rfl
  refine sg_vlast hx hb hK hP sg_W_D hS a 3 he rfl (sg_vp h0 h1 hn) hd (fun H1 locs1 hP1 hz1 hS1 => ?_)
  have hP2 : va_P D vwCl (sg_W bs dA (sh, ag_upd mm a i z)) H1 := by
    rw [sg_W_upd ha rfl]
    show va_P D vwCl ((sg_W bs dA (sh, mm)).set a (bs + a, .inl (dA 11, n, .inr (.inl fun j => Int64.ofInt (ag_upd mm a i z a j))))) H1
    rw [sg_updL h0 (by omega)]
    exact hP1
  exact kk H1 locs1 rl cells slots hP2 (by rw [hz1]; exact hz) hS1 hL hc hs
theorem sg_qast (hx : p.tables.exec = Jvm.exec) (hb : c.code = cc) (hK : va_K D vwCl (sg_tys dA) s) {a n v n2 : Nat} {i : Int} {rs rs2 : List (Option Nat)} (ha : h.1[a]? = some (12, n, rs)) (hv : h.1[v]? = some (1, n2, rs2)) (h0 : 0 ≤ i) (h1 : i < n) (hn : n ≤ 100000) (hr : rs.length = n) (hd : decode cc pc = .ok (.aastore, 1)) (kk : sg_J p l e R s m args below meth c Q nL bs n0 s0 dA ax D (pc + 1, ls, st, (h.1.set a (12, n, rs.set i.toNat (some v)), h.2))) : sg_J p l e R s m args below meth c Q nL bs n0 s0 dA ax D (pc, ls, vA v :: vI i :: vA a :: st, h) := by
  intro H locs rl cells slots hP hz hS hL hc hs
  obtain ⟨sh, mm⟩ := h
  have he : (sg_W bs dA (sh, mm))[a]? = some (bs + a, .inl (dA 12, n, .inr (.inr (.inr (.inr fun i => (rs.getD i none).map (bs + ·)))))) := by
    rw [sg_W_get ha]
    rfl
  have hev : (sg_W bs dA (sh, mm))[v]? = some (bs + v, .inr (1, sg_fs bs mm v (1, n2, rs2))) := by
    rw [sg_W_get hv]
    rfl
  refine sg_vastq hx hb hK hP sg_W_D hS a 4 v 1 he rfl hev (sg_cl 1 (by decide)) (sg_vp h0 h1 hn) hd (fun H1 locs1 hP1 hz1 hS1 => ?_)
  have hP2 : va_P D vwCl (sg_W bs dA (sh.set a (12, n, rs.set i.toNat (some v)), mm)) H1 := by
    rw [sg_W_set ha (fun _ _ => rfl) rfl]
    show va_P D vwCl ((sg_W bs dA (sh, mm)).set a (bs + a, .inl (dA 12, n, .inr (.inr (.inr (.inr fun j => ((rs.set i.toNat (some v)).getD j none).map (bs + ·))))))) H1
    have hf : (fun j => ((rs.set i.toNat (some v)).getD j none).map (bs + ·)) = va_up (fun j => (rs.getD j none).map (bs + ·)) (Int32.ofInt i).toNatClampNeg (some (bs + v)) := by
      rw [sg_nat h0 (by omega)]
      funext j
      by_cases hj : j = i.toNat
      · subst hj
        have : i.toNat < rs.length := by omega
        simp [va_up, List.getD_eq_getElem?_getD, this]
      · simp [va_up, hj, List.getD_eq_getElem?_getD, List.getElem?_set_ne (Ne.symm hj)]
    rw [hf]
    exact hP1
  exact kk H1 locs1 rl cells slots hP2 (by rw [hz1]; simpa using hz) hS1 hL (by simpa using hc) (by show slots + s0 = sg_ss (sh.set a (12, n, rs.set i.toNat (some v))); rw [sg_ss_set ha]; exact hs)
theorem sg_alen (hx : p.tables.exec = Jvm.exec) (hb : c.code = cc) (hK : va_K D vwCl (sg_tys dA) s) {a n t : Nat} {rs : List (Option Nat)} (ha : h.1[a]? = some (t, n, rs)) (h8 : 8 ≤ t) (h9 : t ≤ 12) (hd : decode cc pc = .ok (.arraylength, 1)) (kk : sg_J p l e R s m args below meth c Q nL bs n0 s0 dA ax D (pc + 1, ls, vI n :: st, h)) : sg_J p l e R s m args below meth c Q nL bs n0 s0 dA ax D (pc, ls, vA a :: st, h) := by
  intro H locs rl cells slots hP hz hS hL hc hs
  have ht : t = 8 ∨ t = 9 ∨ t = 10 ∨ t = 11 ∨ t = 12 := by omega
  have := kk H locs rl cells slots hP hz hS hL hc hs
  rcases ht with rfl | rfl | rfl | rfl | rfl
  · exact va_alen (t0 := 0) (ty := .int) (v := Int32.ofInt n) hx hb hK hP a (by rw [sg_W_get ha]; rfl) rfl rfl hd this
  · exact va_alen (t0 := 1) (ty := .boolean) (v := Int32.ofInt n) hx hb hK hP a (by rw [sg_W_get ha]; rfl) rfl rfl hd this
  · exact va_alen (t0 := 2) (ty := .char) (v := Int32.ofInt n) hx hb hK hP a (by rw [sg_W_get ha]; rfl) rfl rfl hd this
  · exact va_alen (t0 := 3) (ty := .long) (v := Int32.ofInt n) hx hb hK hP a (by rw [sg_W_get ha]; rfl) rfl rfl hd this
  · exact va_alen (t0 := 4) (ty := .object "BargeChess$Game") (v := Int32.ofInt n) hx hb hK hP a (by rw [sg_W_get ha]; rfl) rfl rfl hd this
end SGH
end
section
/-! what is made, constants, the script, the library's own members (places printed by wip/whole/gen_make.py) -/
def sg_pI : List (Nat × Nat) := [(119, 92), (113, 91), (151, 93), (225, 95), (205, 94), (251, 96), (105, 90), (713, 97)]
def sg_pN : List (List Nat) := [[], [118, 150], [], [], [210], [], [112, 204, 224, 250], [], [104, 712]]
theorem sg_i : ∀ t, t < 8 → (sg_at (sg_pI.getD t (0, 0)).1 (.instantiable (sg_R t) (ag_nf t)) && sg_at (sg_pI.getD t (0, 0)).2 (.initialized (sg_R t))) = true := by decide +kernel
theorem sg_n : ∀ ci, ci < 9 → (((ag_tN.getD ci []).zip (sg_pN.getD ci [])).all fun e => sg_at e.2 (.classLink (sg_R ci) e.1.1 (sg_R e.1.2))) = true := by decide +kernel
theorem sg_lenN : ∀ ci, ci < 9 → (ag_tN.getD ci []).length = (sg_pN.getD ci []).length := by decide +kernel
theorem sg_nw {ci ix t : Nat} (h : ag_TT.2.2.2 ci ix = some t) : .classLink (sg_R ci) ix (sg_R t) ∈ sg_tb := by
  by_cases hc : ci < 9
  · obtain ⟨q, hq⟩ := sg_zip (sg_lenN ci hc) h (sg_n ci hc)
    exact sg_mem (sg_atm hq) rfl
  · have h2 : (ag_tN.getD ci []).lookup ix = some t := h
    rw [sg_out (by decide) hc] at h2
    cases h2
theorem sg_iw {t : Nat} (h : t < 8) : .instantiable (sg_R t) (ag_nf t) ∈ sg_tb ∧ .initialized (sg_R t) ∈ sg_tb := by
  have := sg_i t h
  rw [Bool.and_eq_true] at this
  exact ⟨sg_mem (sg_atm this.1) rfl, sg_mem (sg_atm this.2) rfl⟩
theorem sg_dv : ∀ t, t < 8 → ∀ k, k < ag_nf t → (ag_kind t k = 2 → defaultValue (sg_ty t k) = .null) ∧ (ag_kind t k ≠ 2 → defaultValue (sg_ty t k) = .int 0) := by decide +kernel
theorem sg_wL0 : Cond.constantLong (sg_R 0) 86 (Int64.ofInt 8) ∈ sg_tb := sg_mem (List.mem_of_getElem? (i := 405) (by decide +kernel)) rfl
theorem sg_wL1 : Cond.constantLong (sg_R 1) 119 (Int64.ofInt 32) ∈ sg_tb := sg_mem (List.mem_of_getElem? (i := 407) (by decide +kernel)) rfl
theorem sg_wF6 : Cond.constantFloat (sg_R 6) 290 1258291200 ∈ sg_tb := sg_mem (List.mem_of_getElem? (i := 691) (by decide +kernel)) rfl
theorem sg_wAI : Cond.arrayClass .int ∈ sg_tb := sg_mem (List.mem_of_getElem? (i := 148) (by decide +kernel)) rfl
theorem sg_wAZ : Cond.arrayClass .boolean ∈ sg_tb := sg_mem (List.mem_of_getElem? (i := 149) (by decide +kernel)) rfl
theorem sg_wAC : Cond.arrayClass .char ∈ sg_tb := sg_mem (List.mem_of_getElem? (i := 779) (by decide +kernel)) rfl
theorem sg_wAJ : Cond.arrayClass .long ∈ sg_tb := sg_mem (List.mem_of_getElem? (i := 166) (by decide +kernel)) rfl
theorem sg_wAO : Cond.arrayOver (.object "BargeChess$Game") ∈ sg_tb := sg_mem (List.mem_of_getElem? (i := 211) (by decide +kernel)) rfl
theorem sg_wMn : Cond.methodLink (sg_R 4) 33 Lib.Math.min.name ∈ sg_tb ∧ Cond.static Lib.Math.min.name ∈ sg_tb ∧ Cond.code Lib.Math.min.name Lib.Math.min.code 2 (some .int) ∈ sg_tb := ⟨sg_mem (List.mem_of_getElem? (i := 366) (by decide +kernel)) rfl, sg_mem (List.mem_of_getElem? (i := 367) (by decide +kernel)) rfl, sg_mem (List.mem_of_getElem? (i := 368) (by decide +kernel)) rfl⟩
theorem sg_wMx : Cond.methodLink (sg_R 2) 26 Lib.Math.max.name ∈ sg_tb ∧ Cond.static Lib.Math.max.name ∈ sg_tb ∧ Cond.code Lib.Math.max.name Lib.Math.max.code 2 (some .int) ∈ sg_tb := ⟨sg_mem (List.mem_of_getElem? (i := 592) (by decide +kernel)) rfl, sg_mem (List.mem_of_getElem? (i := 593) (by decide +kernel)) rfl, sg_mem (List.mem_of_getElem? (i := 594) (by decide +kernel)) rfl⟩
theorem sg_wM : Cond.initialized "java/lang/Math" ∈ sg_tb := sg_mem (List.mem_of_getElem? (i := 98) (by decide +kernel)) rfl
theorem sg_tm : ∀ ci, ci < 9 → ∀ e ∈ ag_tM.getD ci [], (e.2.1 = 11 → ci = 4 ∧ e.1 = 33) ∧ (e.2.1 = 12 → ci = 2 ∧ e.1 = 26) ∧ (e.2.1 = 13 → ci = 7 ∧ e.1 = 211) ∧ (e.2.1 = 14 → ci = 7) := by decide +kernel
theorem sg_tc : ∀ ci, ci < 9 → ∀ e ∈ ag_tC.getD ci [], (ci = 0 ∧ e = (86, vJ 8)) ∨ (ci = 1 ∧ e = (119, vJ 32)) ∨ (ci = 6 ∧ e = (290, vF 1258291200)) ∨ (ci = 7 ∧ e = (174, vX 1)) ∨ (ci = 7 ∧ e = (194, vX 2)) := by
  intro t ht
  have h : t = 0 ∨ t = 1 ∨ t = 2 ∨ t = 3 ∨ t = 4 ∨ t = 5 ∨ t = 6 ∨ t = 7 ∨ t = 8 := by omega
  rcases h with rfl | rfl | rfl | rfl | rfl | rfl | rfl | rfl | rfl
  · exact List.forall_mem_cons.mpr ⟨Or.inl ⟨rfl, rfl⟩, fun _ h => by cases h⟩
  · exact List.forall_mem_cons.mpr ⟨Or.inr (Or.inl ⟨rfl, rfl⟩), fun _ h => by cases h⟩
  · exact fun _ h => by cases h
  · exact fun _ h => by cases h
  · exact fun _ h => by cases h
  · exact fun _ h => by cases h
  · exact List.forall_mem_cons.mpr ⟨Or.inr (Or.inr (Or.inl ⟨rfl, rfl⟩)), fun _ h => by cases h⟩
  · exact List.forall_mem_cons.mpr ⟨Or.inr (Or.inr (Or.inr (Or.inl ⟨rfl, rfl⟩))), List.forall_mem_cons.mpr ⟨Or.inr (Or.inr (Or.inr (Or.inr ⟨rfl, rfl⟩))), fun _ h => by cases h⟩⟩
  · exact fun _ h => by cases h
theorem sg_cw {ci ix : Nat} {v : av} (h : ag_TT.2.2.1 ci ix = some v) : (ci = 0 ∧ (ix, v) = (86, vJ 8)) ∨ (ci = 1 ∧ (ix, v) = (119, vJ 32)) ∨ (ci = 6 ∧ (ix, v) = (290, vF 1258291200)) ∨ (ci = 7 ∧ (ix, v) = (174, vX 1)) ∨ (ci = 7 ∧ (ix, v) = (194, vX 2)) := by
  by_cases hc : ci < 9
  · obtain ⟨j, hj⟩ := sg_find h
    exact sg_tc ci hc _ (List.mem_of_getElem? hj)
  · have h2 : (ag_tC.getD ci []).lookup ix = some v := h
    rw [sg_out (by decide) hc] at h2
    cases h2
theorem sg_mk {ci ix : Nat} {e : Nat × Nat × Nat × Nat} (h : ag_TT.2.1 ci ix = some e) : (e.1 = 11 → ci = 4 ∧ ix = 33) ∧ (e.1 = 12 → ci = 2 ∧ ix = 26) ∧ (e.1 = 13 → ci = 7 ∧ ix = 211) ∧ (e.1 = 14 → ci = 7) := by
  by_cases hc : ci < 9
  · obtain ⟨j, hj⟩ := sg_find h
    exact sg_tm ci hc _ (List.mem_of_getElem? hj)
  · have h2 : (ag_tM.getD ci []).lookup ix = some e := h
    rw [sg_out (by decide) hc] at h2
    cases h2
/-- what lies outside: the script, the two string constants, the statics that String.charAt reads -/
def sg_X (E : Nat × (Int → Int)) (bs : Nat) (ax adV : Nat → Nat) (U : State) : Prop :=
  ax 0 < bs ∧ bs ≤ U.heap.size ∧ va_X (ax 0) E.1 (fun j => Int32.ofInt (E.2 j)) U U.heap ∧
  vk_S 2 [4, 4] [[98, 116, 66, 84], [117, 114, 100, 108]] (fun i => ax (i + 1)) adV (fun q => bs ≤ q) U U.heap ∧
  vk_R "BargeChessModel" 174 "btBT" (ax 1) U ∧ vk_R "BargeChessModel" 194 "urdl" (ax 2) U ∧
  va_Z "java/lang/String" "COMPACT_STRINGS" "Z" (.int 1) (fun q => bs ≤ q) U U.heap ∧
  ∃ v : Value, (v = .null ∨ ∃ a, v = .ref a) ∧ va_Z "jdk/internal/util/Preconditions" "SIOOBE_FORMATTER" "Ljava/util/function/BiFunction;" v (fun q => bs ≤ q) U U.heap
section SGM
variable {p : Program} {l : Launch} {e : Env} {R : Room} {s : State} {m : MethodId} {args : Array Value} {below : List Frame} {meth : Method} {c : Code} {Q : State → Prop} {cc : ByteArray} {nL bs n0 s0 ci : Nat} {dA : Nat → ClassId} {ax adV : Nat → Nat} {D : va_G} {E : Nat × (Int → Int)}
variable {pc : Nat} {ls : List (Option av)} {st : List av} {h : ag_H}
theorem sg_nbs {bs k : Nat} (h : k < bs) : ¬ (fun q : Nat => bs ≤ q) k := Nat.not_le.mpr h
theorem sg_sld (hx : p.tables.exec = Jvm.exec) (hb : c.code = cc) (hX : sg_X E bs ax adV s) {i : Int} (h0 : 0 ≤ i) (h1 : i < E.1) (hn : E.1 ≤ 100000) (hd : decode cc pc = .ok (.iaload, 1)) (kk : sg_J p l e R s m args below meth c Q nL bs n0 s0 dA ax D (pc + 1, ls, vI (E.2 i) :: st, h)) : sg_J p l e R s m args below meth c Q nL bs n0 s0 dA ax D (pc, ls, vI i :: vX 0 :: st, h) := by
  intro H locs rl cells slots hP hz hS hL hc hs
  refine va_sld hx hb hX.2.2.1 (Nat.lt_of_lt_of_le hX.1 hX.2.1) (sg_nbs hX.1) hS (sg_vp h0 h1 hn) hd ?_
  have := kk H locs rl cells slots hP hz hS hL hc hs
  rw [sg_nat h0 (by omega)]
  dsimp only
  rw [sg_idx h0]
  exact this
theorem sg_slen (hx : p.tables.exec = Jvm.exec) (hb : c.code = cc) (hX : sg_X E bs ax adV s) (hd : decode cc pc = .ok (.arraylength, 1)) (kk : sg_J p l e R s m args below meth c Q nL bs n0 s0 dA ax D (pc + 1, ls, vI E.1 :: st, h)) : sg_J p l e R s m args below meth c Q nL bs n0 s0 dA ax D (pc, ls, vX 0 :: st, h) := by
  intro H locs rl cells slots hP hz hS hL hc hs
  refine va_slen hx hb hX.2.2.1 (Nat.lt_of_lt_of_le hX.1 hX.2.1) (sg_nbs hX.1) hS hd ?_
  exact kk H locs rl cells slots hP hz hS hL hc hs
theorem sg_ldc2 (hx : p.tables.exec = Jvm.exec) (hb : c.code = cc) (hts : ∀ w ∈ sg_tb, w.before args s = true) (hown : s.vm.findClass (sg_R ci) = some m.cls) {ix : Nat} {v : av} (hf : ag_TT.2.2.1 ci ix = some v) (hv : ag_wide (some v) = true) (hd : decode cc pc = .ok (.ldc2_w ix, 3)) (kk : sg_J p l e R s m args below meth c Q nL bs n0 s0 dA ax D (pc + 3, ls, v :: st, h)) : sg_J p l e R s m args below meth c Q nL bs n0 s0 dA ax D (pc, ls, st, h) := by
  intro H locs rl cells slots hP hz hS hL hc hs
  have := kk H locs rl cells slots hP hz hS hL hc hs
  rcases sg_cw hf with ⟨rfl, q⟩ | ⟨rfl, q⟩ | ⟨rfl, q⟩ | ⟨rfl, q⟩ | ⟨rfl, q⟩ <;> cases q
  · exact lv_ldc2 (v := Int64.ofInt 8) hx hb hown (hts _ sg_wL0) hd this
  · exact lv_ldc2 (v := Int64.ofInt 32) hx hb hown (hts _ sg_wL1) hd this
  · cases hv
  · cases hv
  · cases hv
theorem sg_ldcwf (hx : p.tables.exec = Jvm.exec) (hb : c.code = cc) {own : String} {index : Nat} {v : UInt32} {rl : Array Slot} {rest : List Value} {H : Heap} {locs : List Loc} {cells slots : Nat} (hown : s.vm.findClass own = some m.cls) (hconst : (Cond.constantFloat own index v).before args s = true) (hdg : decode cc pc = .ok (.ldc_w index, 3)) (k : W p l e R s m args below meth c H locs cells slots Q (F0 m (pc + 3) rl (.float v :: rest))) : W p l e R s m args below meth c H locs cells slots Q (F0 m pc rl rest) := by
  intro T hT X
  obtain ⟨t, a, b⟩ := k T hT X
  refine ⟨t, ?_, b⟩
  obtain ⟨kC, cf, hk, hcf, hcp⟩ := Cond.constantFloat_spec hown hconst
  obtain ⟨k', hk', he⟩ := X.warmed.alike.2.2 _ _ hk
  subst hb
  jvm_step X.here [hx, hdg, ldc_w.wp_float (s := T) (f := F0 m pc rl rest) X.here.top hk' (by rw [he]; exact hcf) hcp]
  exact a
theorem sg_ldcw (hx : p.tables.exec = Jvm.exec) (hb : c.code = cc) (hts : ∀ w ∈ sg_tb, w.before args s = true) (hown : s.vm.findClass (sg_R ci) = some m.cls) {ix : Nat} {v : av} (hf : ag_TT.2.2.1 ci ix = some v) (hv : ag_wide (some v) = false) (h6 : ci ≠ 7) (hd : decode cc pc = .ok (.ldc_w ix, 3)) (kk : sg_J p l e R s m args below meth c Q nL bs n0 s0 dA ax D (pc + 3, ls, v :: st, h)) : sg_J p l e R s m args below meth c Q nL bs n0 s0 dA ax D (pc, ls, st, h) := by
  intro H locs rl cells slots hP hz hS hL hc hs
  have := kk H locs rl cells slots hP hz hS hL hc hs
  rcases sg_cw hf with ⟨rfl, q⟩ | ⟨rfl, q⟩ | ⟨rfl, q⟩ | ⟨rfl, q⟩ | ⟨rfl, q⟩ <;> cases q
  · cases hv
  · cases hv
  · exact sg_ldcwf hx hb hown (hts _ sg_wF6) hd this
  · exact absurd rfl h6
  · exact absurd rfl h6
theorem sg_ldc (hx : p.tables.exec = Jvm.exec) (hb : c.code = cc) (hts : ∀ w ∈ sg_tb, w.before args s = true) (hown : s.vm.findClass (sg_R ci) = some m.cls) (hX : sg_X E bs ax adV s) {ix : Nat} {v : av} (hf : ag_TT.2.2.1 ci ix = some v) (hv : ag_wide (some v) = false) (hd : decode cc pc = .ok (.ldc ix, 2)) (kk : sg_J p l e R s m args below meth c Q nL bs n0 s0 dA ax D (pc + 2, ls, v :: st, h)) : sg_J p l e R s m args below meth c Q nL bs n0 s0 dA ax D (pc, ls, st, h) := by
  intro H locs rl cells slots hP hz hS hL hc hs
  have := kk H locs rl cells slots hP hz hS hL hc hs
  rcases sg_cw hf with ⟨rfl, q⟩ | ⟨rfl, q⟩ | ⟨rfl, q⟩ | ⟨rfl, q⟩ | ⟨rfl, q⟩ <;> cases q
  · cases hv
  · cases hv
  · exact lv_ldcf hx hb hown (hts _ sg_wF6) hd this
  · exact va_ldcS hx hb hown hX.2.2.2.2.1 hd this
  · exact va_ldcS hx hb hown hX.2.2.2.2.2.1 hd this
theorem sg_new (hx : p.tables.exec = Jvm.exec) (hb : c.code = cc) (hts : ∀ w ∈ sg_tb, w.before args s = true) (hown : s.vm.findClass (sg_R ci) = some m.cls) (hK : va_K D vwCl (sg_tys dA) s) {ix t : Nat} (hf : ag_TT.2.2.2 ci ix = some t) (ht : t < 8) (hr1 : h.1.length + 1 ≤ R.cells + n0) (hr2 : sg_ss h.1 + ag_nf t ≤ R.slots + s0) (hd : decode cc pc = .ok (.new ix, 3)) (kk : sg_J p l e R s m args below meth c Q nL bs n0 s0 dA ax D (pc + 3, ls, vA h.1.length :: st, (h.1 ++ [(t, ag_nf t, List.replicate (ag_nf t) none)], ag_zero h.2 h.1.length))) : sg_J p l e R s m args below meth c Q nL bs n0 s0 dA ax D (pc, ls, st, h) := by
  intro H locs rl cells slots hP hz hS hL hc hs
  obtain ⟨sh, mm⟩ := h
  have hE : sg_E bs dA (ag_zero mm sh.length) sh.length (t, ag_nf t, List.replicate (ag_nf t) none) = .inr (t, sg_fs bs (ag_zero mm sh.length) sh.length (t, ag_nf t, List.replicate (ag_nf t) none)) := by
    simp [sg_E, ht]
  dsimp only at hz hc hs hr1 hr2
  refine sg_vnew hx hb hts (sg_lay t ht) (sg_ty t) (sg_tyok t ht) hown (hts _ (sg_nw hf)) (hts _ (sg_iw ht).1) (hts _ (sg_iw ht).2) hK hP hS (sg_cl t ht) (fs := sg_fs bs (ag_zero mm sh.length) sh.length (t, ag_nf t, List.replicate (ag_nf t) none)) (fun j hj => ?_) (by omega) (by omega) hd (fun H1 hP1 hz1 hS1 => ?_)
  · have h1 := sg_fs_get (bs := bs) (ax := ax) (m := ag_zero mm sh.length) (a := sh.length) (t := t) (rs := List.replicate (ag_nf t) none) hj
    have h2 := sg_dv t ht j hj
    unfold vp_V
    rw [List.getD_eq_getElem?_getD, h1]
    by_cases hk : ag_kind t j = 2
    · rw [h2.1 hk, if_pos hk]
      simp [List.getD_eq_getElem?_getD, hj]
      rfl
    · rw [h2.2 hk, if_neg hk]
      simp [ag_zero]
      rfl
  · have hP2 : va_P D vwCl (sg_W bs dA (sh ++ [(t, ag_nf t, List.replicate (ag_nf t) none)], ag_zero mm sh.length)) H1 := by
      rw [sg_W_push hE, ← hz]
      exact hP1
    have := kk H1 locs rl (cells + 1) (slots + ag_nf t) hP2 (by rw [hz1, hz]; simp; omega) hS1 hL (by simp; omega) (by have e := sg_ss_push sh (t, ag_nf t, List.replicate (ag_nf t) none); dsimp only at e ⊢; omega)
    rw [hz]
    exact this
theorem sg_newa (hx : p.tables.exec = Jvm.exec) (hb : c.code = cc) (hts : ∀ w ∈ sg_tb, w.before args s = true) (hK : va_K D vwCl (sg_tys dA) s) {ty : ArrayType} {n : Int} (ht : ag_aty ty ≤ 12) (hn0 : 0 ≤ n) (hn1 : n ≤ 100000) (hr1 : h.1.length + 1 ≤ R.cells + n0) (hr2 : sg_ss h.1 + n.toNat ≤ R.slots + s0) (hd : decode cc pc = .ok (.newarray ty, 2)) (kk : sg_J p l e R s m args below meth c Q nL bs n0 s0 dA ax D (pc + 2, ls, vA h.1.length :: st, (h.1 ++ [(ag_aty ty, n.toNat, [])], ag_zero h.2 h.1.length))) : sg_J p l e R s m args below meth c Q nL bs n0 s0 dA ax D (pc, ls, vI n :: st, h) := by
  intro H locs rl cells slots hP hz hS hL hc hs
  obtain ⟨sh, mm⟩ := h
  dsimp only at hz hc hs hr1 hr2
  have hN : (Int32.ofInt n).toNatClampNeg = n.toNat := by
    show (Int32.ofInt n).toInt.toNat = n.toNat
    rw [sg_ti ⟨by omega, by omega⟩]
  have hneg : ¬ Int32.ofInt n < 0 := by
    rw [show (0 : Int32) = Int32.ofInt 0 from rfl, sg_lt ⟨by omega, by omega⟩ sg_in0]
    omega
  have fin : ∀ (H1 : Heap) (a0 : vp_A), sg_E bs dA (ag_zero mm sh.length) sh.length (ag_aty ty, n.toNat, []) = .inl (dA (ag_aty ty), a0) → va_P D vwCl (sg_W bs dA (sh, mm) ++ [(H.size, .inl (dA (ag_aty ty), a0))]) H1 → H1.size = H.size + 1 → va_S (fun q => bs ≤ q) s.heap H1 locs → W p l e R s m args below meth c H1 locs (cells + 1) (slots + n.toNat) Q (F0 m (pc + 2) rl (.ref H.size :: st.map (sg_up bs ax))) := by
    intro H1 a0 hE hP1 hz1 hS1
    have hP2 : va_P D vwCl (sg_W bs dA (sh ++ [(ag_aty ty, n.toNat, [])], ag_zero mm sh.length)) H1 := by
      rw [sg_W_push hE, ← hz]
      exact hP1
    have := kk H1 locs rl (cells + 1) (slots + n.toNat) hP2 (by rw [hz1, hz]; simp; omega) hS1 hL (by simp; omega) (by have e := sg_ss_push sh (ag_aty ty, n.toNat, []); dsimp only at e ⊢; omega)
    rw [hz]
    exact this
  have z32 : (fun i : Nat => Int32.ofInt (ag_zero mm sh.length sh.length (i : Int))) = fun _ => 0 := by
    funext i
    simp [ag_zero]
    try rfl
  have z64 : (fun i : Nat => Int64.ofInt (ag_zero mm sh.length sh.length (i : Int))) = fun _ => 0 := by
    funext i
    simp [ag_zero]
    try rfl
  cases ty with
  | int =>
    refine sg_vnewa (atype := .int) (a0 := (n.toNat, .inl fun _ => 0)) hx hb (hts _ sg_wAI) (hK.2 0 _ rfl).2 hP hS rfl hneg hN (by show n.toNat * 4 ≤ _; omega) (by omega) (by omega) hd (fun H1 hP1 hz1 hS1 => fin H1 _ ?_ hP1 hz1 hS1)
    show (.inl (dA 8, n.toNat, .inl fun i : Nat => Int32.ofInt (ag_zero mm sh.length sh.length (i : Int))) : va_E) = _
    rw [z32]
    rfl
  | boolean =>
    refine sg_vnewa (atype := .boolean) (a0 := (n.toNat, .inl fun _ => 0)) hx hb (hts _ sg_wAZ) (hK.2 1 _ rfl).2 hP hS rfl hneg hN (by show n.toNat * 1 ≤ _; omega) (by omega) (by omega) hd (fun H1 hP1 hz1 hS1 => fin H1 _ ?_ hP1 hz1 hS1)
    show (.inl (dA 9, n.toNat, .inl fun i : Nat => Int32.ofInt (ag_zero mm sh.length sh.length (i : Int))) : va_E) = _
    rw [z32]
    rfl
  | char =>
    refine sg_vnewa (atype := .char) (a0 := (n.toNat, .inl fun _ => 0)) hx hb (hts _ sg_wAC) (hK.2 2 _ rfl).2 hP hS rfl hneg hN (by show n.toNat * 2 ≤ _; omega) (by omega) (by omega) hd (fun H1 hP1 hz1 hS1 => fin H1 _ ?_ hP1 hz1 hS1)
    show (.inl (dA 10, n.toNat, .inl fun i : Nat => Int32.ofInt (ag_zero mm sh.length sh.length (i : Int))) : va_E) = _
    rw [z32]
    rfl
  | long =>
    refine sg_vnewa (atype := .long) (a0 := (n.toNat, .inr (.inl fun _ => 0))) hx hb (hts _ sg_wAJ) (hK.2 3 _ rfl).2 hP hS rfl hneg hN (by show n.toNat * 8 ≤ _; omega) (by omega) (by omega) hd (fun H1 hP1 hz1 hS1 => fin H1 _ ?_ hP1 hz1 hS1)
    show (.inl (dA 11, n.toNat, .inr (.inl fun i : Nat => Int64.ofInt (ag_zero mm sh.length sh.length (i : Int)))) : va_E) = _
    rw [z64]
    rfl
  | _ => exact absurd ht (by decide)
theorem sg_anew (hx : p.tables.exec = Jvm.exec) (hb : c.code = cc) (hts : ∀ w ∈ sg_tb, w.before args s = true) (hown : s.vm.findClass (sg_R ci) = some m.cls) (hK : va_K D vwCl (sg_tys dA) s) {ix : Nat} {n : Int} (hf : ag_TT.2.2.2 ci ix = some 1) (hn0 : 0 ≤ n) (hn1 : n ≤ 100000) (hr1 : h.1.length + 1 ≤ R.cells + n0) (hr2 : sg_ss h.1 + n.toNat ≤ R.slots + s0) (hd : decode cc pc = .ok (.anewarray ix, 3)) (kk : sg_J p l e R s m args below meth c Q nL bs n0 s0 dA ax D (pc + 3, ls, vA h.1.length :: st, (h.1 ++ [(12, n.toNat, List.replicate n.toNat none)], ag_zero h.2 h.1.length))) : sg_J p l e R s m args below meth c Q nL bs n0 s0 dA ax D (pc, ls, vI n :: st, h) := by
  intro H locs rl cells slots hP hz hS hL hc hs
  obtain ⟨sh, mm⟩ := h
  dsimp only at hz hc hs hr1 hr2
  have hN : (Int32.ofInt n).toNatClampNeg = n.toNat := by
    show (Int32.ofInt n).toInt.toNat = n.toNat
    rw [sg_ti ⟨by omega, by omega⟩]
  have hneg : ¬ Int32.ofInt n < 0 := by
    rw [show (0 : Int32) = Int32.ofInt 0 from rfl, sg_lt ⟨by omega, by omega⟩ sg_in0]
    omega
  have hfn : (fun i => ((List.replicate n.toNat (none : Option Nat)).getD i none).map (bs + ·)) = fun _ => none := by
    funext i
    simp only [List.getD_eq_getElem?_getD, List.getElem?_replicate]
    split <;> rfl
  obtain ⟨kA, comp, k1, k2, k3, k4⟩ := (hK.2 4 _ rfl).2
  refine sg_vnewq hx hb hown (hts _ (sg_nw hf)) (hts _ sg_wAO) k4 hP hS hneg hN (by omega) (by omega) (by omega) hd hfn (fun H1 hP1 hz1 hS1 => ?_)
  have hP2 : va_P D vwCl (sg_W bs dA (sh ++ [(12, n.toNat, List.replicate n.toNat none)], ag_zero mm sh.length)) H1 := by
    rw [sg_W_push rfl, ← hz]
    exact hP1
  have := kk H1 locs rl (cells + 1) (slots + n.toNat) hP2 (by rw [hz1, hz]; simp; omega) hS1 hL (by simp; omega) (by have e := sg_ss_push sh (12, n.toNat, List.replicate n.toNat none); dsimp only at e ⊢; omega)
  rw [hz]
  exact this
end SGM
end
section
/-! contracts, and calls by contract -/
theorem sg_warm {w : Cond} (h : w ∈ sg_tb) {s U : State} {A A' : Array Value} (hW : s.WarmedH U.vm) (hb : w.before A s = true) : w.before A' U = true := by
  have ht := (List.mem_filter.mp h).2
  unfold sg_tok at ht
  rw [Bool.or_eq_true, Bool.or_eq_true] at ht
  rcases ht with ht | ht | ht
  · exact word_at hW (good_of_word ht) hb
  · cases w <;> first | (cases ht; done) | exact va_Nw.use rfl (va_Nw.warmF hW (va_Nw.of rfl hb)) | exact va_Nw.use rfl (va_Nw.warmM hW (va_Nw.of rfl hb))
  · unfold sg_arrO at ht
    split at ht
    · exact va_AO.use (va_AO.moved hW.alike (va_AO.of hb))
    · cases ht
def sg_Gd : List Cond := sg_tb.filter goodWord
def sg_ws (y : Nat) : List Cond := sg_code y :: sg_Gd
def sg_rm (d c n : Nat) : Room := { frames := d + 10, cells := c, slots := n, locals := 100 * d + 600 }
theorem sg_X.to {E : Nat × (Int → Int)} {bs : Nat} {ax adV : Nat → Nat} {s U : State} {locs : List Loc} (h : sg_X E bs ax adV s) (hS : va_S (fun q => bs ≤ q) s.heap U.heap locs) (hv : s.vm.Alike U.vm) (hR : ∀ (own tx : String) (k a : Nat), vk_R own k tx a s → vk_R own k tx a U) : sg_X E bs ax adV U := by
  obtain ⟨h1, h2, h3, h4, h5, h6, h7, v, h8, h9⟩ := h
  refine ⟨h1, Nat.le_trans h2 hS.1, (h3.kept (hS.2.1 _ (Nat.lt_of_lt_of_le h1 h2) (Nat.not_le.mpr h1))).moved hv, (h4.kept hS.2.1).moved hv, hR _ _ _ _ h5, hR _ _ _ _ h6, (h7.kept hS.2.1).moved hv, v, h8, (h9.kept hS.2.1).moved hv⟩
section SGD
variable (D : va_G) (dA : Nat → ClassId) (bs : Nat) (ax adV : Nat → Nat) (E : Nat × (Int → Int))
/-- what holds of the state at a method's entry: the heap's world, the classes, the words, what lies outside -/
def sg_In (h : ag_H) (U : State) : Prop := va_P D vwCl (sg_W bs dA h) U.heap ∧ U.heap.size = bs + h.1.length ∧ va_K D vwCl (sg_tys dA) U ∧ (∀ w ∈ sg_tb, goodWord w = false → w.before #[] U = true) ∧ sg_X E bs ax adV U
def sg_Pc (as : List av) (h : ag_H) : Array Value → State → Prop := fun v U => v = (as.map (sg_up bs ax)).toArray ∧ sg_In D dA bs ax adV E h U
def sg_Qc (o : Option av) (h : ag_H) : Array Value → State → Outcome → State → Prop := fun _ st oc t => oc = .returned (o.map (sg_up bs ax)) ∧ va_P D vwCl (sg_W bs dA h) t.heap ∧ t.heap.size = bs + h.1.length ∧ ∀ q : Nat, q < bs → t.heap[q]? = st.heap[q]?
/-- the contract of a method, at a depth, for these arguments and this heap -/
def sg_Met (l : Launch) (d y : Nat) (as : List av) (h : ag_H) (o : Option av) (h' : ag_H) : Prop :=
  Met l (sg_yo y) (sg_ws y) (sg_rm d (h'.1.length - h.1.length) (sg_ss h'.1 - sg_ss h.1)) (sg_Pc D dA bs ax adV E as h) (sg_Qc D dA bs ax o h') (h'.1.length - h.1.length) (sg_ss h'.1 - sg_ss h.1) (fun q => bs ≤ q)
end SGD
theorem sg_nw0 {w : Cond} (h : w ∈ sg_tb) (hg : goodWord w = false) {U U' : State} {A A' : Array Value} (hv : U.vm = U'.vm) (hb : w.before A U = true) : w.before A' U' = true := by
  have ht := (List.mem_filter.mp h).2
  unfold sg_tok at ht
  rw [Bool.or_eq_true, Bool.or_eq_true] at ht
  rcases ht with ht | ht | ht
  · rw [hg] at ht; cases ht
  · cases w <;> first | (cases ht; done) | exact va_tabs rfl hv hb
  · unfold sg_arrO at ht
    split at ht
    · exact va_AO.use (va_AO.moved (by rw [hv]; exact Vm.Alike.refl _) (va_AO.of hb))
    · cases ht
theorem sg_blind {D : va_G} {dA : Nat → ClassId} {bs : Nat} {ax adV : Nat → Nat} {E : Nat × (Int → Int)} {as : List av} {h : ag_H} : FrameBlind (sg_Pc D dA bs ax adV E as h) := by
  intro a U g mk q
  obtain ⟨q0, q1, q2, q3, q4, q5⟩ := q
  refine ⟨q0, q1, q2, va_K.moved (u := U) (U := U.calling g mk a) (Vm.Alike.refl U.vm) q3, fun w hw hg => sg_nw0 (U := U) (U' := U.calling g mk a) (A' := #[]) hw hg rfl (q4 w hw hg), ?_⟩
  refine sg_X.to (s := U) (U := U.calling g mk a) (locs := []) q5 va_S.rf (Vm.Alike.refl U.vm) (fun own tx k a hr => vk_R.same rfl hr)
section SGC
variable {p : Program} {l : Launch} {e : Env} {R : Room} {s : State} {m : MethodId} {args : Array Value} {below : List Frame} {meth : Method} {c : Code} {Q : State → Prop} {cc : ByteArray} {nL bs n0 s0 ci : Nat} {dA : Nat → ClassId} {ax adV : Nat → Nat} {D : va_G} {E : Nat × (Int → Int)}
variable {pc : Nat} {ls : List (Option av)} {st : List av} {h : ag_H}
theorem sg_cats {st : List av} (hl : st.length ≤ 4) : ((st.map (sg_up bs ax)).map fun v => v.category).sum ≤ 8 := by
  have key : ∀ st : List av, ((st.map (sg_up bs ax)).map fun v => v.category).sum ≤ 2 * st.length := by
    intro st
    induction st with
    | nil => simp
    | cons v st ih =>
      have hc := sg_cat bs ax v
      simp only [List.map_cons, List.sum_cons, List.length_cons]
      by_cases hw : ag_wide (some v) = true
      · rw [if_pos hw] at hc; omega
      · rw [if_neg hw] at hc; omega
  have := key st
  omega
/-- the entry's facts of the callee, out of the caller's -/
theorem sg_enter (hts : ∀ w ∈ sg_tb, w.before args s = true) (hK : va_K D vwCl (sg_tys dA) s) (hX : sg_X E bs ax adV s) {H : Heap} {locs : List Loc} (hP : va_P D vwCl (sg_W bs dA h) H) (hz : H.size = bs + h.1.length) (hS : va_S (fun q => bs ≤ q) s.heap H locs) (U : State) (hU : U.heap = H) (hW : s.WarmedH U.vm) : sg_In D dA bs ax adV E h U := by
  subst hU
  exact ⟨hP, hz, hK.moved hW.alike, fun w hw _ => sg_warm hw hW (hts w hw), hX.to hS hW.alike (fun own tx k a hr => vk_R.warm hW hr)⟩
theorem sg_own0 : ∀ y, y < 171 → sg_own y (sg_pO.getD y (0, 0)) = true := by
  intro y hy
  have key : ∀ k, k < 6 → ((List.range 30).all fun j => decide (171 ≤ 30 * k + j) || sg_own (30 * k + j) (sg_pO.getD (30 * k + j) (0, 0))) = true := by
    intro k hk
    have h : k = 0 ∨ k = 1 ∨ k = 2 ∨ k = 3 ∨ k = 4 ∨ k = 5 := by omega
    rcases h with rfl | rfl | rfl | rfl | rfl | rfl
    · exact sg_o0
    · exact sg_o1
    · exact sg_o2
    · exact sg_o3
    · exact sg_o4
    · exact sg_o5
  have h1 := List.all_eq_true.mp (key (y / 30) (by omega)) (y % 30) (List.mem_range.mpr (by omega))
  rw [show 30 * (y / 30) + y % 30 = y by omega] at h1
  rw [Bool.or_eq_true] at h1
  rcases h1 with h1 | h1
  · have := of_decide_eq_true h1; omega
  · exact h1
theorem sg_ownf {y : Nat} (hy : y < 171) : sg_code y ∈ sg_tb ∧ .initialized (sg_yo y).cls ∈ sg_tb ∧ ((sg_yo y).cls ≠ "java/lang/invoke/MethodHandle" ∧ (sg_yo y).cls ≠ "java/lang/invoke/VarHandle") ∧ (sg_yo y).cls = sg_R (sg_Mo y).1 ∧ plainName (sg_yo y).cls = true ∧ (sg_Mo y).1 < 8 := by
  have h := sg_own0 y hy
  simp only [sg_own, Bool.and_eq_true, decide_eq_true_eq] at h
  obtain ⟨⟨⟨⟨⟨h1, h2⟩, h3⟩, h4⟩, h5⟩, h6⟩ := h
  exact ⟨sg_mem (sg_atm h1) rfl, sg_mem (sg_atm h2) rfl, h3, h4, h5, h6⟩
theorem sg_wsin (hts : ∀ w ∈ sg_tb, w.before args s = true) {y : Nat} (hy : y < 171) : ∀ w ∈ sg_ws y, ∀ (a' : Array Value) (U : State), s.WarmedH U.vm → w.before a' U = true := by
  intro w hw a' U hW
  have hm : w ∈ sg_tb := by
    rcases List.mem_cons.mp hw with rfl | hw
    · exact (sg_ownf hy).1
    · exact (List.mem_filter.mp hw).1
  exact sg_warm hm hW (hts w hm)
/-- a call's run, and what comes behind it -/
theorem sg_back {rl : Array Slot} {H : Heap} {locs : List Loc} {cells slots : Nat} {st0 : List Value} {rest : List av} {o : Option av} {h' : ag_H} {a : Array Value} (hL : sg_L bs ax nL ls rl) (hS : va_S (fun q => bs ≤ q) s.heap H locs) (hbs : bs ≤ s.heap.size) (hc : cells + n0 = h.1.length) (hs : slots + s0 = sg_ss h.1) (hz : H.size = bs + h.1.length) (hm1 : h.1.length ≤ h'.1.length) (hm2 : sg_ss h.1 ≤ sg_ss h'.1)
    (hr : va_Run p l e R s m args below meth c H locs cells slots (h'.1.length - h.1.length) (sg_ss h'.1 - sg_ss h.1) (F0 m pc rl st0) (rest.map (sg_up bs ax)) (sg_Qc D dA bs ax o h' a) (fun q => bs ≤ q))
    (kk : sg_J p l e R s m args below meth c Q nL bs n0 s0 dA ax D (pc + 3, ls, ag_push o rest, h')) : W p l e R s m args below meth c H locs cells slots Q (F0 m pc rl st0) := by
  intro T hT X
  obtain ⟨v, st₀, t, T', L, h0, X', hL2, e1, e2, ⟨hv, hP1, hz1, hk1⟩, stp⟩ := hr T hT X
  have hv2 : v = o.map (sg_up bs ax) := Outcome.returned.inj hv
  subst hv2
  rw [h0] at hk1
  have hstack : (o.map (sg_up bs ax)).toList ++ rest.map (sg_up bs ax) = (ag_push o rest).map (sg_up bs ax) := by cases o <;> rfl
  have := kk T'.heap (locs ++ L) rl (cells + (h'.1.length - h.1.length)) (slots + (sg_ss h'.1 - sg_ss h.1)) (by rw [e1]; exact hP1) (by rw [e1]; exact hz1) ⟨by rw [e1, hz1]; have := hS.1; omega, fun q hq hA => by
      have hqb : q < bs := Nat.not_le.mp hA
      rw [e1, hk1 q hqb]
      exact hS.2.1 q hq hA, fun q hq => by
      rcases List.mem_append.mp hq with hq | hq
      · exact hS.2.2 q hq
      · exact hL2 q hq⟩ hL (by dsimp only; omega) (by dsimp only; omega)
  obtain ⟨t2, a1, b1⟩ := this T' rfl X'
  refine ⟨t2, stp t2 ?_, b1⟩
  dsimp only at a1 ⊢
  rw [hstack]
  exact a1
end SGC
end
section
/-! the three kinds of call -/
section SGC
variable {p : Program} {l : Launch} {e : Env} {R : Room} {s : State} {m : MethodId} {args : Array Value} {below : List Frame} {meth : Method} {c : Code} {Q : State → Prop} {cc : ByteArray} {nL bs n0 s0 ci : Nat} {dA : Nat → ClassId} {ax adV : Nat → Nat} {D : va_G} {E : Nat × (Int → Int)}
variable {pc : Nat} {ls : List (Option av)} {st : List av} {h : ag_H}
theorem sg_parm {y n : Nat} (h : sg_par y n = true) : ∀ sig, parseMethodDescriptor (sg_yo y).desc = some sig → n = sig.parameters.length := by
  intro sig hsig
  have h2 := of_decide_eq_true h
  rw [hsig] at h2
  exact (Option.some.inj h2).symm
set_option maxRecDepth 100000 in
theorem sg_room {d c n y : Nat} {R : Room} (hf : d + 11 ≤ R.frames) (hl : 100 * d + 700 ≤ R.locals) (hm : (sg_Mo y).2.2.2.1 ≤ 40) : (sg_rm d c n).frames + 1 ≤ R.frames ∧ 8 + ((sg_Mo y).2.2.2.1 + 11) + (sg_rm d c n).locals ≤ R.locals :=
  ⟨hf, Nat.le_trans (Nat.add_le_add_right (Nat.add_le_add_left (Nat.add_le_add_right hm 11) 8) _) (Nat.le_trans (show 8 + (40 + 11) + (100 * d + 600) ≤ 100 * d + 700 by omega) hl)⟩
theorem sg_maxl : ∀ y, y < 171 → (sg_Mo y).2.2.2.1 ≤ 40 := by decide +kernel
/-- invokestatic -/
theorem sg_callS (hx : p.tables.exec = Jvm.exec) (hb : c.code = cc) (hml : c.maxLocals = nL) (hts : ∀ w ∈ sg_tb, w.before args s = true) (hown : s.vm.findClass (sg_R ci) = some m.cls) (hK : va_K D vwCl (sg_tys dA) s) (hX : sg_X E bs ax adV s) {d ix y n t : Nat} {o : Option av} {h' : ag_H} (hf : ag_TT.2.1 ci ix = some (1, y, n, t)) (hn : n ≤ st.length) (hr4 : (st.drop n).length ≤ 4) (hM : sg_Met D dA bs ax adV E l d y (st.take n).reverse h o h') (hR1 : d + 11 ≤ R.frames) (hR2 : 100 * d + 700 ≤ R.locals) (hm1 : h.1.length ≤ h'.1.length) (hm2 : sg_ss h.1 ≤ sg_ss h'.1) (hc9 : h'.1.length ≤ R.cells + n0) (hs9 : sg_ss h'.1 ≤ R.slots + s0) (hd : decode cc pc = .ok (.invokestatic ix, 3)) (kk : sg_J p l e R s m args below meth c Q nL bs n0 s0 dA ax D (pc + 3, ls, ag_push o (st.drop n), h')) : sg_J p l e R s m args below meth c Q nL bs n0 s0 dA ax D (pc, ls, st, h) := by
  intro H locs rl cells slots hP hz hS hL hc hs
  dsimp only at hP hz hL hc hs
  obtain ⟨q, hq⟩ := sg_mw hf
  change (decide (y < 171) && sg_at q.2.1 (sg_lk q.1 ci ix y) && sg_at q.2.2.1 (.static (sg_yo y)) && sg_par y n) = true at hq
  simp only [Bool.and_eq_true, decide_eq_true_eq] at hq
  obtain ⟨⟨⟨hy, hlk⟩, hst⟩, hpar⟩ := hq
  have ho := sg_ownf hy
  have hA : ((st.take n).reverse.map (sg_up bs ax)).length = n := by simp; omega
  have hstk : st.map (sg_up bs ax) = ((st.take n).reverse.map (sg_up bs ax)).reverse ++ (st.drop n).map (sg_up bs ax) := by
    rw [← List.map_reverse, List.reverse_reverse, ← List.map_append, List.take_append_drop]
  have hrm := sg_room (c := h'.1.length - h.1.length) (n := sg_ss h'.1 - sg_ss h.1) hR1 hR2 (sg_maxl y hy)
  have hws := sg_wsin hts hy
  have hPre : PreS s H (sg_Pc D dA bs ax adV E (st.take n).reverse h) ((st.take n).reverse.map (sg_up bs ax)) := ⟨sg_blind, fun U hU hW => ⟨rfl, sg_enter hts hK hX hP hz hS U hU hW⟩⟩
  refine sg_back (a := ((st.take n).reverse.map (sg_up bs ax)).toArray) (rest := st.drop n) (o := o) (h' := h') hL hS hX.2.1 hc hs hz hm1 hm2 ?_ kk
  unfold sg_lk at hlk
  by_cases h0 : q.1 = 0
  · rw [if_pos h0] at hlk
    exact va_runS (As := (st.take n).reverse.map (sg_up bs ax)) ⟨hx, hb, hml, hown, hts⟩ hM ⟨⟨rfl, rfl, hrm.1, hrm.2, hws, List.mem_cons_self, hts _ ho.1, hts _ ho.2.1, ho.2.2.1, sg_parm hpar, hts _ (sg_mem (sg_atm hlk) rfl)⟩, hts _ (sg_mem (sg_atm hst) rfl)⟩ hPre rfl hA hL.1.1 hstk (lv_room (sg_cats hr4)) hd ⟨by omega, by omega⟩
  · rw [if_neg h0] at hlk
    exact va_runSN (host := sg_host) (As := (st.take n).reverse.map (sg_up bs ax)) ⟨hx, hb, hml, hown, hts⟩ hM ⟨⟨⟨rfl, rfl, hrm.1, hrm.2, hws, List.mem_cons_self⟩, hts _ ho.1, hts _ ho.2.1, ho.2.2.1, sg_parm hpar, hts _ (sg_mem (sg_atm hlk) rfl)⟩, hts _ (sg_mem (sg_atm hst) rfl), trivial⟩ hPre rfl hA hL.1.1 hstk (lv_room (sg_cats hr4)) hd ⟨by omega, by omega⟩
theorem sg_recvd {as : List av} {t : Nat} (h2 : ag_recv h as t = true) : ∃ (a : Nat) (as' : List av) (n : Nat) (rs : List (Option Nat)), as = vA a :: as' ∧ h.1[a]? = some (t, n, rs) := by
  unfold ag_recv at h2
  split at h2
  · rename_i a as'
    split at h2
    · rename_i t' q' hq
      rw [beq_iff_eq] at h2
      subst h2
      exact ⟨a, as', q'.1, q'.2, rfl, hq⟩
    · cases h2
  · cases h2
/-- invokevirtual -/
theorem sg_callV (hx : p.tables.exec = Jvm.exec) (hb : c.code = cc) (hml : c.maxLocals = nL) (hts : ∀ w ∈ sg_tb, w.before args s = true) (hown : s.vm.findClass (sg_R ci) = some m.cls) (hK : va_K D vwCl (sg_tys dA) s) (hX : sg_X E bs ax adV s) {d ix y n t : Nat} {o : Option av} {h' : ag_H} (hf : ag_TT.2.1 ci ix = some (2, y, n, t)) (hn : n ≤ st.length) (hr4 : (st.drop n).length ≤ 4) (hrc : ag_recv h (st.take n).reverse t = true) (hM : sg_Met D dA bs ax adV E l d y (st.take n).reverse h o h') (hR1 : d + 11 ≤ R.frames) (hR2 : 100 * d + 700 ≤ R.locals) (hm1 : h.1.length ≤ h'.1.length) (hm2 : sg_ss h.1 ≤ sg_ss h'.1) (hc9 : h'.1.length ≤ R.cells + n0) (hs9 : sg_ss h'.1 ≤ R.slots + s0) (hd : decode cc pc = .ok (.invokevirtual ix, 3)) (kk : sg_J p l e R s m args below meth c Q nL bs n0 s0 dA ax D (pc + 3, ls, ag_push o (st.drop n), h')) : sg_J p l e R s m args below meth c Q nL bs n0 s0 dA ax D (pc, ls, st, h) := by
  intro H locs rl cells slots hP hz hS hL hc hs
  dsimp only at hP hz hL hc hs
  obtain ⟨q, hq⟩ := sg_mw hf
  change (decide (y < 171) && sg_at q.2.1 (sg_lk q.1 ci ix y) && sg_at q.2.2.1 (.instanceMethod (sg_yo y)) && sg_at q.2.2.2 (.selects (sg_R t) (sg_yo y) (sg_yo y)) && sg_par y (n - 1) && decide (0 < n ∧ t < 8)) = true at hq
  simp only [Bool.and_eq_true, decide_eq_true_eq] at hq
  obtain ⟨⟨⟨⟨⟨hy, hlk⟩, hin⟩, hse⟩, hpar⟩, hn0, ht⟩ := hq
  obtain ⟨a, as', k9, rs9, has, hcell⟩ := sg_recvd hrc
  have ho := sg_ownf hy
  have hlen : as'.length + 1 = n := by
    have := congrArg List.length has
    simp at this
    omega
  have hA : (as'.map (sg_up bs ax)).length = n - 1 := by simp; omega
  have hstk : st.map (sg_up bs ax) = (as'.map (sg_up bs ax)).reverse ++ .ref (bs + a) :: (st.drop n).map (sg_up bs ax) := by
    have h1 : st.take n = as'.reverse ++ [vA a] := by
      have := congrArg List.reverse has
      simpa using this
    have h2 : st = as'.reverse ++ [vA a] ++ st.drop n := by rw [← h1, List.take_append_drop]
    have h3 := congrArg (List.map (sg_up bs ax)) h2
    rw [h3]
    simp [sg_up]
  have hrm := sg_room (c := h'.1.length - h.1.length) (n := sg_ss h'.1 - sg_ss h.1) hR1 hR2 (sg_maxl y hy)
  have hws := sg_wsin hts hy
  have hup : (st.take n).reverse.map (sg_up bs ax) = .ref (bs + a) :: as'.map (sg_up bs ax) := by rw [has]; rfl
  have hcW : (sg_W bs dA h)[a]? = some (bs + a, .inr (t, sg_fs bs h.2 a (t, k9, rs9))) := by
    rw [sg_W_get hcell]
    simp [sg_E, ht]
  have hPre : PreV s H (sg_R t) (bs + a) (sg_Pc D dA bs ax adV E (st.take n).reverse h) (as'.map (sg_up bs ax)) := ⟨sg_blind, va_recv hK hP (sg_cl t ht) hcW, fun U hU hW => ⟨by rw [hup], sg_enter hts hK hX hP hz hS U hU hW⟩⟩
  refine sg_back (a := (Value.ref (bs + a) :: as'.map (sg_up bs ax)).toArray) (rest := st.drop n) (o := o) (h' := h') hL hS hX.2.1 hc hs hz hm1 hm2 ?_ kk
  unfold sg_lk at hlk
  by_cases h0 : q.1 = 0
  · rw [if_pos h0] at hlk
    exact va_runV (C := sg_R t) (b := bs + a) (As := as'.map (sg_up bs ax)) ⟨hx, hb, hml, hown, hts⟩ hM ⟨⟨rfl, rfl, hrm.1, hrm.2, hws, List.mem_cons_self, hts _ ho.1, hts _ ho.2.1, ho.2.2.1, sg_parm hpar, hts _ (sg_mem (sg_atm hlk) rfl)⟩, hts _ (sg_mem (sg_atm hin) rfl), hts _ (sg_mem (sg_atm hse) rfl)⟩ hPre rfl hA hL.1.1 hstk (lv_room (sg_cats hr4)) hd ⟨by omega, by omega⟩
  · rw [if_neg h0] at hlk
    exact va_runVN (C := sg_R t) (b := bs + a) (host := sg_host) (As := as'.map (sg_up bs ax)) ⟨hx, hb, hml, hown, hts⟩ hM ⟨⟨⟨rfl, rfl, hrm.1, hrm.2, hws, List.mem_cons_self⟩, hts _ ho.1, hts _ ho.2.1, ho.2.2.1, sg_parm hpar, hts _ (sg_mem (sg_atm hlk) rfl)⟩, hts _ (sg_mem (sg_atm hin) rfl), hts _ (sg_mem (sg_atm hse) rfl)⟩ hPre rfl hA hL.1.1 hstk (lv_room (sg_cats hr4)) hd ⟨by omega, by omega⟩
/-- invokespecial of a constructor of the claim's own classes -/
theorem sg_callI (hx : p.tables.exec = Jvm.exec) (hb : c.code = cc) (hml : c.maxLocals = nL) (hts : ∀ w ∈ sg_tb, w.before args s = true) (hown : s.vm.findClass (sg_R ci) = some m.cls) (hK : va_K D vwCl (sg_tys dA) s) (hX : sg_X E bs ax adV s) {d ix y n t : Nat} {o : Option av} {h' : ag_H} (hf : ag_TT.2.1 ci ix = some (3, y, n, t)) (hn : n ≤ st.length) (hr4 : (st.drop n).length ≤ 4) (hrc : ag_recv h (st.take n).reverse t = true) (hM : sg_Met D dA bs ax adV E l d y (st.take n).reverse h o h') (hR1 : d + 11 ≤ R.frames) (hR2 : 100 * d + 700 ≤ R.locals) (hm1 : h.1.length ≤ h'.1.length) (hm2 : sg_ss h.1 ≤ sg_ss h'.1) (hc9 : h'.1.length ≤ R.cells + n0) (hs9 : sg_ss h'.1 ≤ R.slots + s0) (hd : decode cc pc = .ok (.invokespecial ix, 3)) (kk : sg_J p l e R s m args below meth c Q nL bs n0 s0 dA ax D (pc + 3, ls, ag_push o (st.drop n), h')) : sg_J p l e R s m args below meth c Q nL bs n0 s0 dA ax D (pc, ls, st, h) := by
  intro H locs rl cells slots hP hz hS hL hc hs
  dsimp only at hP hz hL hc hs
  obtain ⟨q, hq⟩ := sg_mw hf
  change (decide (y < 171) && sg_at q.2.1 (sg_lk q.1 ci ix y) && sg_at q.2.2.1 (.instanceMethod (sg_yo y)) && decide ((sg_yo y).name = "<init>" ∧ (sg_Mo y).2.1 = 0) && sg_par y (n - 1) && decide (0 < n ∧ t < 8)) = true at hq
  simp only [Bool.and_eq_true, decide_eq_true_eq] at hq
  obtain ⟨⟨⟨⟨⟨hy, hlk⟩, hin⟩, hnm, hrt⟩, hpar⟩, hn0, ht⟩ := hq
  obtain ⟨a, as', k9, rs9, has, hcell⟩ := sg_recvd hrc
  have ho := sg_ownf hy
  have hlen : as'.length + 1 = n := by
    have := congrArg List.length has
    simp at this
    omega
  have hA : (as'.map (sg_up bs ax)).length = n - 1 := by simp; omega
  have hstk : st.map (sg_up bs ax) = (as'.map (sg_up bs ax)).reverse ++ .ref (bs + a) :: (st.drop n).map (sg_up bs ax) := by
    have h1 : st.take n = as'.reverse ++ [vA a] := by
      have := congrArg List.reverse has
      simpa using this
    have h2 : st = as'.reverse ++ [vA a] ++ st.drop n := by rw [← h1, List.take_append_drop]
    have h3 := congrArg (List.map (sg_up bs ax)) h2
    rw [h3]
    simp [sg_up]
  have hrm := sg_room (c := h'.1.length - h.1.length) (n := sg_ss h'.1 - sg_ss h.1) hR1 hR2 (sg_maxl y hy)
  have hws := sg_wsin hts hy
  have hup : (st.take n).reverse.map (sg_up bs ax) = .ref (bs + a) :: as'.map (sg_up bs ax) := by rw [has]; rfl
  have hPre : PreS s H (sg_Pc D dA bs ax adV E (st.take n).reverse h) (.ref (bs + a) :: as'.map (sg_up bs ax)) := ⟨sg_blind, fun U hU hW => ⟨by rw [hup], sg_enter hts hK hX hP hz hS U hU hW⟩⟩
  have hcode : sg_code y = .code (sg_yo y) (sg_co y) (sg_Mo y).2.2.2.1 none := by
    unfold sg_code
    rw [hrt]
    rfl
  have hcm : Cond.code (sg_yo y) (sg_co y) (sg_Mo y).2.2.2.1 none ∈ sg_ws y := by rw [← hcode]; exact List.mem_cons_self
  refine sg_back (a := (Value.ref (bs + a) :: as'.map (sg_up bs ax)).toArray) (rest := st.drop n) (o := o) (h' := h') hL hS hX.2.1 hc hs hz hm1 hm2 ?_ kk
  unfold sg_lk at hlk
  by_cases h0 : q.1 = 0
  · rw [if_pos h0] at hlk
    exact va_runI (b := bs + a) (As := as'.map (sg_up bs ax)) ⟨hx, hb, hml, hown, hts⟩ hM ⟨⟨rfl, rfl, hrm.1, hrm.2, hws, hcm, hts _ (by rw [← hcode]; exact ho.1), hts _ ho.2.1, ho.2.2.1, sg_parm hpar, hts _ (sg_mem (sg_atm hlk) rfl)⟩, hnm, hts _ (sg_mem (sg_atm hin) rfl)⟩ hPre rfl hA hL.1.1 hstk (lv_room (sg_cats hr4)) hd ⟨by omega, by omega⟩
  · rw [if_neg h0] at hlk
    exact va_runIN (b := bs + a) (host := sg_host) (As := as'.map (sg_up bs ax)) ⟨hx, hb, hml, hown, hts⟩ hM ⟨⟨⟨rfl, rfl, hrm.1, hrm.2, hws, hcm⟩, hts _ (by rw [← hcode]; exact ho.1), hts _ ho.2.1, ho.2.2.1, sg_parm hpar, hts _ (sg_mem (sg_atm hlk) rfl)⟩, hnm, hts _ (sg_mem (sg_atm hin) rfl)⟩ hPre rfl hA hL.1.1 hstk (lv_room (sg_cats hr4)) hd ⟨by omega, by omega⟩
end SGC
end
section
/-! the library's own members that the claim calls (places printed by wip/whole/gen_lib.py) -/
theorem sj_cm : Cond.code yJ0_charAt_5068e cJ0_charAt_5068e 2 (some .char) ∈ sg_tb := sg_mem (List.mem_of_getElem? (i := 985) (by decide +kernel)) rfl
theorem sj_cmi : Cond.instanceMethod yJ0_charAt_5068e ∈ sg_tb := sg_mem (List.mem_of_getElem? (i := 983) (by decide +kernel)) rfl
theorem sj_cms : Cond.selects RJ0 yJ0_charAt_5068e yJ0_charAt_5068e ∈ sg_tb := sg_mem (List.mem_of_getElem? (i := 984) (by decide +kernel)) rfl
theorem sj_i0 : Cond.initialized RJ0 ∈ sg_tb := sg_mem (List.mem_of_getElem? (i := 99) (by decide +kernel)) rfl
theorem sj_i1 : Cond.initialized RJ1 ∈ sg_tb := sg_mem (List.mem_of_getElem? (i := 100) (by decide +kernel)) rfl
theorem sj_i3 : Cond.initialized RJ3 ∈ sg_tb := sg_mem (List.mem_of_getElem? (i := 101) (by decide +kernel)) rfl
theorem sj_if : Cond.initialized RJxf58ca ∈ sg_tb := sg_mem (List.mem_of_getElem? (i := 103) (by decide +kernel)) rfl
theorem sj_ill : Cond.methodLink RJ0 492 yJ0_isLatin1_aae02 ∈ sg_tb := sg_mem (List.mem_of_getElem? (i := 986) (by decide +kernel)) rfl
theorem sj_ili : Cond.instanceMethod yJ0_isLatin1_aae02 ∈ sg_tb := sg_mem (List.mem_of_getElem? (i := 987) (by decide +kernel)) rfl
theorem sj_ils : Cond.selects RJ0 yJ0_isLatin1_aae02 yJ0_isLatin1_aae02 ∈ sg_tb := sg_mem (List.mem_of_getElem? (i := 988) (by decide +kernel)) rfl
theorem sj_ilc : Cond.code yJ0_isLatin1_aae02 cJ0_isLatin1_aae02 1 (some .boolean) ∈ sg_tb := sg_mem (List.mem_of_getElem? (i := 989) (by decide +kernel)) rfl
theorem sj_f38 : Cond.fieldLink RJ0 38 "java/lang/String" "COMPACT_STRINGS" "Z" ∈ sg_tb := sg_mem (List.mem_of_getElem? (i := 990) (by decide +kernel)) rfl
theorem sj_f15 : Cond.fieldLink RJ0 15 "java/lang/String" "coder" "B" ∈ sg_tb := sg_mem (List.mem_of_getElem? (i := 1091) (by decide +kernel)) rfl
theorem sj_f9 : Cond.fieldLink RJ0 9 "java/lang/String" "value" "[B" ∈ sg_tb := sg_mem (List.mem_of_getElem? (i := 1092) (by decide +kernel)) rfl
theorem sj_f1053 : Cond.fieldLink RJ0 1053 "jdk/internal/util/Preconditions" "SIOOBE_FORMATTER" "Ljava/util/function/BiFunction;" ∈ sg_tb := sg_mem (List.mem_of_getElem? (i := 998) (by decide +kernel)) rfl
theorem sj_lcl : Cond.methodLink RJ0 495 yJ1_charAt_3b067 ∈ sg_tb := sg_mem (List.mem_of_getElem? (i := 992) (by decide +kernel)) rfl
theorem sj_lcs : Cond.static yJ1_charAt_3b067 ∈ sg_tb := sg_mem (List.mem_of_getElem? (i := 993) (by decide +kernel)) rfl
theorem sj_lcc : Cond.code yJ1_charAt_3b067 cJ1_charAt_3b067 2 (some .char) ∈ sg_tb := sg_mem (List.mem_of_getElem? (i := 994) (by decide +kernel)) rfl
theorem sj_scl : Cond.methodLink RJ1 9 yJ0_checkIndex_df160 ∈ sg_tb := sg_mem (List.mem_of_getElem? (i := 995) (by decide +kernel)) rfl
theorem sj_scs : Cond.static yJ0_checkIndex_df160 ∈ sg_tb := sg_mem (List.mem_of_getElem? (i := 996) (by decide +kernel)) rfl
theorem sj_scc : Cond.code yJ0_checkIndex_df160 cJ0_checkIndex_df160 2 none ∈ sg_tb := sg_mem (List.mem_of_getElem? (i := 997) (by decide +kernel)) rfl
theorem sj_pcl : Cond.methodLink RJ0 1059 yJ3_checkIndex_8e157 ∈ sg_tb := sg_mem (List.mem_of_getElem? (i := 1000) (by decide +kernel)) rfl
theorem sj_pcs : Cond.static yJ3_checkIndex_8e157 ∈ sg_tb := sg_mem (List.mem_of_getElem? (i := 1001) (by decide +kernel)) rfl
theorem sj_pcc : Cond.code yJ3_checkIndex_8e157 cJ3_checkIndex_8e157 3 (some .int) ∈ sg_tb := sg_mem (List.mem_of_getElem? (i := 1002) (by decide +kernel)) rfl
theorem sj_fbl : Cond.methodLink (sg_R 7) 211 yJxf58ca_floatToIntBits_5c35a ∈ sg_tb := sg_mem (List.mem_of_getElem? (i := 1069) (by decide +kernel)) rfl
theorem sj_fbs : Cond.static yJxf58ca_floatToIntBits_5c35a ∈ sg_tb := sg_mem (List.mem_of_getElem? (i := 1070) (by decide +kernel)) rfl
theorem sj_fbc : Cond.code yJxf58ca_floatToIntBits_5c35a cJxf58ca_floatToIntBits_5c35a 1 (some .int) ∈ sg_tb := sg_mem (List.mem_of_getElem? (i := 1071) (by decide +kernel)) rfl
theorem sj_fnl : Cond.methodLink RJxf58ca 59 yJxf58ca_isNaN_12338 ∈ sg_tb := sg_mem (List.mem_of_getElem? (i := 1072) (by decide +kernel)) rfl
theorem sj_fns : Cond.static yJxf58ca_isNaN_12338 ∈ sg_tb := sg_mem (List.mem_of_getElem? (i := 1073) (by decide +kernel)) rfl
theorem sj_fnc : Cond.code yJxf58ca_isNaN_12338 cJxf58ca_isNaN_12338 1 (some .boolean) ∈ sg_tb := sg_mem (List.mem_of_getElem? (i := 1074) (by decide +kernel)) rfl
theorem sj_frl : Cond.methodLink RJxf58ca 74 ⟨"java/lang/Float", "floatToRawIntBits", "(F)I"⟩ ∈ sg_tb := sg_mem (List.mem_of_getElem? (i := 1075) (by decide +kernel)) rfl
theorem sj_frs : Cond.static ⟨"java/lang/Float", "floatToRawIntBits", "(F)I"⟩ ∈ sg_tb := sg_mem (List.mem_of_getElem? (i := 1076) (by decide +kernel)) rfl
theorem sj_frn : Cond.native ⟨"java/lang/Float", "floatToRawIntBits", "(F)I"⟩ ∈ sg_tb := sg_mem (List.mem_of_getElem? (i := 1077) (by decide +kernel)) rfl
theorem sj_cml : ∀ ix e, ag_TT.2.1 7 ix = some e → e.1 = 14 → Cond.methodLink (sg_R 7) ix yJ0_charAt_5068e ∈ sg_tb := by
  intro ix e h he
  obtain ⟨j, hj⟩ := sg_find h
  have key : ∀ e ∈ ag_tM.getD 7 [], e.2.1 = 14 → e.1 = 176 := by decide +kernel
  rcases key _ (List.mem_of_getElem? hj) he with rfl
  · exact sg_mem (List.mem_of_getElem? (i := 982) (by decide +kernel)) rfl
theorem dJxf58ca_isNaN_12338_0 : decode cJxf58ca_isNaN_12338 0 = .ok (.fload_n 0, 1) := by decide +kernel
theorem dJxf58ca_isNaN_12338_1 : decode cJxf58ca_isNaN_12338 1 = .ok (.fload_n 0, 1) := by decide +kernel
theorem dJxf58ca_isNaN_12338_2 : decode cJxf58ca_isNaN_12338 2 = .ok (.fcmp .l, 1) := by decide +kernel
theorem dJxf58ca_isNaN_12338_3 : decode cJxf58ca_isNaN_12338 3 = .ok (.ifCond .eq 7, 3) := by decide +kernel
theorem dJxf58ca_isNaN_12338_6 : decode cJxf58ca_isNaN_12338 6 = .ok (.iconst 1, 1) := by decide +kernel
theorem dJxf58ca_isNaN_12338_7 : decode cJxf58ca_isNaN_12338 7 = .ok (.goto 4, 3) := by decide +kernel
theorem dJxf58ca_isNaN_12338_10 : decode cJxf58ca_isNaN_12338 10 = .ok (.iconst 0, 1) := by decide +kernel
theorem dJxf58ca_isNaN_12338_11 : decode cJxf58ca_isNaN_12338 11 = .ok (.ireturn, 1) := by decide +kernel
theorem dJxf58ca_floatToIntBits_5c35a_0 : decode cJxf58ca_floatToIntBits_5c35a 0 = .ok (.fload_n 0, 1) := by decide +kernel
theorem dJxf58ca_floatToIntBits_5c35a_1 : decode cJxf58ca_floatToIntBits_5c35a 1 = .ok (.invokestatic 59, 3) := by decide +kernel
theorem dJxf58ca_floatToIntBits_5c35a_4 : decode cJxf58ca_floatToIntBits_5c35a 4 = .ok (.ifCond .ne 8, 3) := by decide +kernel
theorem dJxf58ca_floatToIntBits_5c35a_7 : decode cJxf58ca_floatToIntBits_5c35a 7 = .ok (.fload_n 0, 1) := by decide +kernel
theorem dJxf58ca_floatToIntBits_5c35a_8 : decode cJxf58ca_floatToIntBits_5c35a 8 = .ok (.invokestatic 74, 3) := by decide +kernel
theorem dJxf58ca_floatToIntBits_5c35a_11 : decode cJxf58ca_floatToIntBits_5c35a 11 = .ok (.ireturn, 1) := by decide +kernel
theorem dJxf58ca_floatToIntBits_5c35a_12 : decode cJxf58ca_floatToIntBits_5c35a 12 = .ok (.ldc 77, 2) := by decide +kernel
theorem dJxf58ca_floatToIntBits_5c35a_14 : decode cJxf58ca_floatToIntBits_5c35a 14 = .ok (.ireturn, 1) := by decide +kernel
theorem dJ0_charAt_5068e_0 : decode cJ0_charAt_5068e 0 = .ok (.aload_n 0, 1) := by decide +kernel
theorem dJ0_charAt_5068e_1 : decode cJ0_charAt_5068e 1 = .ok (.invokevirtual 492, 3) := by decide +kernel
theorem dJ0_charAt_5068e_4 : decode cJ0_charAt_5068e 4 = .ok (.ifCond .eq 12, 3) := by decide +kernel
theorem dJ0_charAt_5068e_7 : decode cJ0_charAt_5068e 7 = .ok (.aload_n 0, 1) := by decide +kernel
theorem dJ0_charAt_5068e_8 : decode cJ0_charAt_5068e 8 = .ok (.getfield 9, 3) := by decide +kernel
theorem dJ0_charAt_5068e_11 : decode cJ0_charAt_5068e 11 = .ok (.iload_n 1, 1) := by decide +kernel
theorem dJ0_charAt_5068e_12 : decode cJ0_charAt_5068e 12 = .ok (.invokestatic 495, 3) := by decide +kernel
theorem dJ0_charAt_5068e_15 : decode cJ0_charAt_5068e 15 = .ok (.ireturn, 1) := by decide +kernel
theorem dJ0_charAt_5068e_16 : decode cJ0_charAt_5068e 16 = .ok (.aload_n 0, 1) := by decide +kernel
theorem dJ0_charAt_5068e_17 : decode cJ0_charAt_5068e 17 = .ok (.getfield 9, 3) := by decide +kernel
theorem dJ0_charAt_5068e_20 : decode cJ0_charAt_5068e 20 = .ok (.iload_n 1, 1) := by decide +kernel
theorem dJ0_charAt_5068e_21 : decode cJ0_charAt_5068e 21 = .ok (.invokestatic 498, 3) := by decide +kernel
theorem dJ0_charAt_5068e_24 : decode cJ0_charAt_5068e 24 = .ok (.ireturn, 1) := by decide +kernel
theorem dJ0_isLatin1_aae02_0 : decode cJ0_isLatin1_aae02 0 = .ok (.getstatic 38, 3) := by decide +kernel
theorem dJ0_isLatin1_aae02_3 : decode cJ0_isLatin1_aae02 3 = .ok (.ifCond .eq 14, 3) := by decide +kernel
theorem dJ0_isLatin1_aae02_6 : decode cJ0_isLatin1_aae02 6 = .ok (.aload_n 0, 1) := by decide +kernel
theorem dJ0_isLatin1_aae02_7 : decode cJ0_isLatin1_aae02 7 = .ok (.getfield 15, 3) := by decide +kernel
theorem dJ0_isLatin1_aae02_10 : decode cJ0_isLatin1_aae02 10 = .ok (.ifCond .ne 7, 3) := by decide +kernel
theorem dJ0_isLatin1_aae02_13 : decode cJ0_isLatin1_aae02 13 = .ok (.iconst 1, 1) := by decide +kernel
theorem dJ0_isLatin1_aae02_14 : decode cJ0_isLatin1_aae02 14 = .ok (.goto 4, 3) := by decide +kernel
theorem dJ0_isLatin1_aae02_17 : decode cJ0_isLatin1_aae02 17 = .ok (.iconst 0, 1) := by decide +kernel
theorem dJ0_isLatin1_aae02_18 : decode cJ0_isLatin1_aae02 18 = .ok (.ireturn, 1) := by decide +kernel
theorem dJ0_checkIndex_df160_0 : decode cJ0_checkIndex_df160 0 = .ok (.iload_n 0, 1) := by decide +kernel
theorem dJ0_checkIndex_df160_1 : decode cJ0_checkIndex_df160 1 = .ok (.iload_n 1, 1) := by decide +kernel
theorem dJ0_checkIndex_df160_2 : decode cJ0_checkIndex_df160 2 = .ok (.getstatic 1053, 3) := by decide +kernel
theorem dJ0_checkIndex_df160_5 : decode cJ0_checkIndex_df160 5 = .ok (.invokestatic 1059, 3) := by decide +kernel
theorem dJ0_checkIndex_df160_8 : decode cJ0_checkIndex_df160 8 = .ok (.pop, 1) := by decide +kernel
theorem dJ0_checkIndex_df160_9 : decode cJ0_checkIndex_df160 9 = .ok (.return_, 1) := by decide +kernel
theorem dJ1_charAt_3b067_0 : decode cJ1_charAt_3b067 0 = .ok (.iload_n 1, 1) := by decide +kernel
theorem dJ1_charAt_3b067_1 : decode cJ1_charAt_3b067 1 = .ok (.aload_n 0, 1) := by decide +kernel
theorem dJ1_charAt_3b067_2 : decode cJ1_charAt_3b067 2 = .ok (.arraylength, 1) := by decide +kernel
theorem dJ1_charAt_3b067_3 : decode cJ1_charAt_3b067 3 = .ok (.invokestatic 9, 3) := by decide +kernel
theorem dJ1_charAt_3b067_6 : decode cJ1_charAt_3b067 6 = .ok (.aload_n 0, 1) := by decide +kernel
theorem dJ1_charAt_3b067_7 : decode cJ1_charAt_3b067 7 = .ok (.iload_n 1, 1) := by decide +kernel
theorem dJ1_charAt_3b067_8 : decode cJ1_charAt_3b067 8 = .ok (.baload, 1) := by decide +kernel
theorem dJ1_charAt_3b067_9 : decode cJ1_charAt_3b067 9 = .ok (.sipush 255, 3) := by decide +kernel
theorem dJ1_charAt_3b067_12 : decode cJ1_charAt_3b067 12 = .ok (.iand, 1) := by decide +kernel
theorem dJ1_charAt_3b067_13 : decode cJ1_charAt_3b067 13 = .ok (.i2c, 1) := by decide +kernel
theorem dJ1_charAt_3b067_14 : decode cJ1_charAt_3b067 14 = .ok (.ireturn, 1) := by decide +kernel
theorem dJ3_checkIndex_8e157_0 : decode cJ3_checkIndex_8e157 0 = .ok (.iload_n 0, 1) := by decide +kernel
theorem dJ3_checkIndex_8e157_1 : decode cJ3_checkIndex_8e157 1 = .ok (.ifCond .lt 8, 3) := by decide +kernel
theorem dJ3_checkIndex_8e157_4 : decode cJ3_checkIndex_8e157 4 = .ok (.iload_n 0, 1) := by decide +kernel
theorem dJ3_checkIndex_8e157_5 : decode cJ3_checkIndex_8e157 5 = .ok (.iload_n 1, 1) := by decide +kernel
theorem dJ3_checkIndex_8e157_6 : decode cJ3_checkIndex_8e157 6 = .ok (.if_icmp .lt 10, 3) := by decide +kernel
theorem dJ3_checkIndex_8e157_9 : decode cJ3_checkIndex_8e157 9 = .ok (.aload_n 2, 1) := by decide +kernel
theorem dJ3_checkIndex_8e157_10 : decode cJ3_checkIndex_8e157 10 = .ok (.iload_n 0, 1) := by decide +kernel
theorem dJ3_checkIndex_8e157_11 : decode cJ3_checkIndex_8e157 11 = .ok (.iload_n 1, 1) := by decide +kernel
theorem dJ3_checkIndex_8e157_12 : decode cJ3_checkIndex_8e157 12 = .ok (.invokestatic 95, 3) := by decide +kernel
theorem dJ3_checkIndex_8e157_15 : decode cJ3_checkIndex_8e157 15 = .ok (.athrow, 1) := by decide +kernel
theorem dJ3_checkIndex_8e157_16 : decode cJ3_checkIndex_8e157 16 = .ok (.iload_n 0, 1) := by decide +kernel
theorem dJ3_checkIndex_8e157_17 : decode cJ3_checkIndex_8e157 17 = .ok (.ireturn, 1) := by decide +kernel
def sj_ws (y : MethodName) (b : ByteArray) (maxL : Nat) (ret : Option FieldType) : List Cond := .code y b maxL ret :: sg_Gd
def sj_rm (k : Nat) : Room := { frames := k, cells := 0, slots := 0, locals := 60 * k }
def sj_Q (v : Option Value) : Array Value → State → Outcome → State → Prop := fun _ st oc t => oc = .returned v ∧ t.heap = st.heap
section SJ
variable {p : Program} {l : Launch} {e : Env} {R : Room} {s : State} {m : MethodId} {args : Array Value} {below : List Frame} {meth : Method} {c : Code} {Q : State → Prop} {cc : ByteArray} {nL bs : Nat} {ax adV : Nat → Nat} {E : Nat × (Int → Int)}
theorem sj_pure {H : Heap} {locs : List Loc} {cells slots pc : Nat} {rl : Array Slot} {st0 rest : List Value} {v : Option Value} {a : Array Value} (hr : va_Run p l e R s m args below meth c H locs cells slots 0 0 (F0 m pc rl st0) rest (sj_Q v a) (fun _ => False)) (kk : W p l e R s m args below meth c H locs cells slots Q (F0 m (pc + 3) rl (v.toList ++ rest))) : W p l e R s m args below meth c H locs cells slots Q (F0 m pc rl st0) := by
  intro T hT X
  obtain ⟨v', st₀, t, T', L, h0, X', hL2, e1, e2, ⟨hv, hh⟩, stp⟩ := hr T hT X
  have hv2 : v' = v := Outcome.returned.inj hv
  subst hv2
  have hL : L = [] := by
    cases L with
    | nil => rfl
    | cons q L => exact (hL2 q List.mem_cons_self).elim
  subst hL
  rw [List.append_nil] at X'
  obtain ⟨t2, a1, b1⟩ := kk T' (by rw [e1, hh, h0]) X'
  exact ⟨t2, stp t2 a1, b1⟩
theorem sj_hts {y : MethodName} {b : ByteArray} {maxL : Nat} {ret : Option FieldType} {rm : Room} {e : Env} {s s₁ : State} {m : MethodId} {args : Array Value} {below : List Frame} {meth : Method} {c : Code} (B : BodyLoose p l y (headSpec (sj_ws y b maxL ret) rm) b maxL ret e s m args below meth c s₁) : ∀ w ∈ sg_Gd, w.before args s = true :=
  fun w hw => atoms_spec (ws := sj_ws y b maxL ret) B.pre w (List.mem_cons_of_mem _ hw)
theorem sj_gd {w : Cond} (h : w ∈ sg_tb) (hg : goodWord w = true) : w ∈ sg_Gd := List.mem_filter.mpr ⟨h, hg⟩
theorem sj_wsin (hts : ∀ w ∈ sg_Gd, w.before args s = true) {y : MethodName} {b : ByteArray} {maxL : Nat} {ret : Option FieldType} (hc : Cond.code y b maxL ret ∈ sg_tb) : ∀ w ∈ sj_ws y b maxL ret, ∀ (a' : Array Value) (U : State), s.WarmedH U.vm → w.before a' U = true := by
  intro w hw a' U hW
  have hm : w ∈ sg_Gd := by
    rcases List.mem_cons.mp hw with rfl | hw
    · exact sj_gd hc rfl
    · exact hw
  exact sg_warm (List.mem_filter.mp hm).1 hW (hts w hm)
theorem sj_X0 (hX : sg_X E bs ax adV s) (U : State) (hU : U.heap = s.heap) (hW : s.WarmedH U.vm) : sg_X E bs ax adV U :=
  hX.to (locs := []) (by rw [hU]; exact va_S.rf) hW.alike (fun own tx k a hr => vk_R.warm hW hr)
theorem sj_blind {av : List Value} : FrameBlind (va_Pc av (fun U => sg_X E bs ax adV U)) := by
  intro a U g mk q
  obtain ⟨q0, q5⟩ := q
  exact ⟨q0, sg_X.to (s := U) (U := U.calling g mk a) (locs := []) q5 va_S.rf (Vm.Alike.refl U.vm) (fun own tx k a hr => vk_R.same rfl hr)⟩
theorem sj_blind0 {av : List Value} : FrameBlind (va_Pc av (fun _ => True)) := fun _ _ _ _ q => q
theorem sj_ofW {l : Launch} {y : MethodName} {ws ws' : List Cond} {rm : Room} {Pc : Array Value → State → Prop} {Qc : Array Value → State → Outcome → State → Prop} {mc ms : Nat} {free : Addr → Prop} {cc : ByteArray} {maxL : Nat} {ret : Option FieldType}
    (hy : plainFor y = true) (hw : ws = Cond.code y cc maxL ret :: ws')
    (body : ∀ p e s m args below meth c s₁, BodyLoose p l y (headSpec ws rm) cc maxL ret e s m args below meth c s₁ → c.maxLocals = maxL → Pc args s →
      W p l e (headSpec ws rm).room s m args below meth c s.heap [] 0 0 (MQ below Qc args s mc ms free) (entryFrame m args maxL)) : Met l y ws rm Pc Qc mc ms free := by
  refine MetFree.of_bodySF (code := cc) (maxLocals := maxL) (ret := ret) hy ?_ ?_
  · intro args s m h hn
    obtain ⟨meth, c, h1, h2, h3, h4, h5, h6, -, -⟩ := Cond.code_spec hn (atoms_spec (ws := ws) h _ (by rw [hw]; exact List.mem_cons_self))
    exact ⟨meth, c, h1, h2, h3, h4, h5, h6⟩
  · intro p e s m args below meth c s₁ B hml hP _
    have hh0 : s₁.heap = s.heap := by rw [B.state]; rfl
    obtain ⟨t, a1, o, b1, b2, b3⟩ := body p e s m args below meth c s₁ B hml hP s₁ hh0 (Stand.of_body B)
    exact ⟨t, o, a1, b1, b2, ⟨b3.1, b3.2⟩⟩
set_option maxHeartbeats 4000000 in
set_option maxRecDepth 100000 in
theorem sj_isNaN (l : Launch) (b : UInt32) (hb0 : Op.cmpValue (FP.fcmp b b) .l = 0) : Met l yJxf58ca_isNaN_12338 (sj_ws yJxf58ca_isNaN_12338 cJxf58ca_isNaN_12338 1 (some .boolean)) (sj_rm 1) (va_Pc [.float b] (fun _ => True)) (sj_Q (some (.int 0))) 0 0 (fun _ => False) := by
  refine sj_ofW (cc := cJxf58ca_isNaN_12338) (maxL := 1) (ret := some .boolean) (by decide +kernel) rfl ?_
  intro p e s m args below meth c s₁ B hml hv
  obtain ⟨rfl, -⟩ := hv
  have hx := B.exec
  have hb := B.bytes
  have hr := B.returns
  have hlocks := B.notSynchronized
  have hl := lv_entry ([.float b]) (n := 1) (Nat.le_of_ble_eq_true rfl)
  rw [lg_entry_eq]
  generalize (lg_sl ([.float b]) ++ List.replicate (1 - (lg_sl ([.float b])).length) Slot.unset).toArray = ls at hl ⊢
  have hl : lv_has ls 1 [(0, .float b)] := hl
  refine lv_fload_n hx hb dJxf58ca_isNaN_12338_0 rfl (lv_at hl 0 rfl) ?_
  refine lv_fload_n hx hb dJxf58ca_isNaN_12338_1 rfl (lv_at hl 0 rfl) ?_
  refine lv_fcmp hx hb dJxf58ca_isNaN_12338_2 ?_
  rw [hb0]
  refine lv_if_eq (tgt := 10) hx hb dJxf58ca_isNaN_12338_3 (by decide) (fun _ => ?_) (fun q => absurd rfl q)
  refine lv_iconst (v := 0) hx hb dJxf58ca_isNaN_12338_10 (by decide) ?_
  exact W.zret (v := 0) (ty := .boolean) hx hb hr rfl (fun t ht hW => ⟨rfl, ht⟩) (fun q h => by cases h) dJxf58ca_isNaN_12338_11
set_option maxHeartbeats 4000000 in
set_option maxRecDepth 100000 in
theorem sj_bits (l : Launch) (b : UInt32) (hb0 : Op.cmpValue (FP.fcmp b b) .l = 0) : Met l yJxf58ca_floatToIntBits_5c35a (sj_ws yJxf58ca_floatToIntBits_5c35a cJxf58ca_floatToIntBits_5c35a 1 (some .int)) (sj_rm 2) (va_Pc [.float b] (fun _ => True)) (sj_Q (some (.int b.toInt32))) 0 0 (fun _ => False) := by
  refine sj_ofW (cc := cJxf58ca_floatToIntBits_5c35a) (maxL := 1) (ret := some .int) (by decide +kernel) rfl ?_
  intro p e s m args below meth c s₁ B hml hv
  obtain ⟨rfl, -⟩ := hv
  have hx := B.exec
  have hb := B.bytes
  have hr := B.returns
  have hlocks := B.notSynchronized
  have hown : s.vm.findClass RJxf58ca = some m.cls := findClass_of_methodNamed B.named
  have hts := sj_hts B
  have hl := lv_entry ([.float b]) (n := 1) (Nat.le_of_ble_eq_true rfl)
  rw [lg_entry_eq]
  generalize (lg_sl ([.float b]) ++ List.replicate (1 - (lg_sl ([.float b])).length) Slot.unset).toArray = ls at hl ⊢
  have hl : lv_has ls 1 [(0, .float b)] := hl
  refine lv_fload_n hx hb dJxf58ca_floatToIntBits_5c35a_0 rfl (lv_at hl 0 rfl) ?_
  refine sj_pure (a := #[.float b]) (rest := []) (v := some (.int 0)) (va_runS (As := [.float b]) ⟨hx, hb, hml, hown, hts⟩ (sj_isNaN l b hb0) ⟨⟨rfl, rfl, by decide, by decide, sj_wsin hts sj_fnc, List.mem_cons_self, hts _ (sj_gd sj_fnc rfl), hts _ (sj_gd sj_if rfl), ⟨by decide, by decide⟩, fun sig h => by cases h; rfl, hts _ (sj_gd sj_fnl rfl)⟩, hts _ (sj_gd sj_fns rfl)⟩ ⟨sj_blind0, fun U hU hW => ⟨rfl, trivial⟩⟩ rfl rfl hl.1 rfl (lv_room (by decide)) dJxf58ca_floatToIntBits_5c35a_1 ⟨Nat.zero_le _, Nat.zero_le _⟩) ?_
  refine lv_if_ne (tgt := 12) hx hb dJxf58ca_floatToIntBits_5c35a_4 (by decide) (fun q => absurd rfl q) (fun _ => ?_)
  refine lv_fload_n hx hb dJxf58ca_floatToIntBits_5c35a_7 rfl (lv_at hl 0 rfl) ?_
  refine vn_f2i hx hb (hml.trans hl.1.symm) hown (hts _ (sj_gd sj_frl rfl)) (hts _ (sj_gd sj_frn rfl)) (hts _ (sj_gd sj_frs rfl)) (hts _ (sj_gd sj_if rfl)) (by decide) (by decide) dJxf58ca_floatToIntBits_5c35a_8 ?_
  exact W.iret (v := b.toInt32) hx hb hr (fun t ht hW => ⟨rfl, ht⟩) (fun q h => by cases h) dJxf58ca_floatToIntBits_5c35a_11
set_option maxHeartbeats 4000000 in
set_option maxRecDepth 100000 in
theorem sj_ckP (l : Launch) (i n : Int32) (f : Value) (hf : f = .null ∨ ∃ a, f = .ref a) (h0 : ¬ i < 0) (h1 : i < n) : Met l yJ3_checkIndex_8e157 (sj_ws yJ3_checkIndex_8e157 cJ3_checkIndex_8e157 3 (some .int)) (sj_rm 1) (va_Pc [.int i, .int n, f] (fun _ => True)) (sj_Q (some (.int i))) 0 0 (fun _ => False) := by
  refine Met.ofW (cc := cJ3_checkIndex_8e157) (maxL := 3) (ret := some .int) (by decide) rfl ?_
  intro p e s m args below meth c s₁ B hml hv
  obtain ⟨rfl, -⟩ := hv
  have hx := B.exec
  have hb := B.bytes
  have hr := B.returns
  have hlocks := B.notSynchronized
  have hl : ∃ ls, lv_has ls 3 [(0, .int i), (1, .int n)] ∧ entryFrame m ([.int i, .int n, f] : List Value).toArray 3 = F0 m 0 ls [] := by
    rcases hf with rfl | ⟨a, rfl⟩
    · have hl := lv_entry ([.int i, .int n, .null]) (n := 3) (Nat.le_of_ble_eq_true rfl)
      rw [lg_entry_eq]
      exact ⟨_, lv_sub hl [0, 1] rfl, rfl⟩
    · have hl := lv_entry ([.int i, .int n, .ref a]) (n := 3) (Nat.le_of_ble_eq_true rfl)
      rw [lg_entry_eq]
      exact ⟨_, lv_sub hl [0, 1] rfl, rfl⟩
  obtain ⟨ls, hl, he⟩ := hl
  rw [he]
  refine lv_iload_n hx hb dJ3_checkIndex_8e157_0 rfl (lv_at hl 0 rfl) ?_
  refine lv_if_lt (tgt := 9) hx hb dJ3_checkIndex_8e157_1 (by decide) (fun q => absurd q h0) (fun _ => ?_)
  refine lv_iload_n hx hb dJ3_checkIndex_8e157_4 rfl (lv_at hl 0 rfl) ?_
  refine lv_iload_n hx hb dJ3_checkIndex_8e157_5 rfl (lv_at hl 1 rfl) ?_
  refine lv_icmp_lt (tgt := 16) hx hb dJ3_checkIndex_8e157_6 (by decide) (fun _ => ?_) (fun q => absurd h1 q)
  refine lv_iload_n hx hb dJ3_checkIndex_8e157_16 rfl (lv_at hl 0 rfl) ?_
  exact W.iret (v := i) hx hb hr (fun t ht hW => ⟨rfl, ht⟩) (fun q h => by cases h) dJ3_checkIndex_8e157_17
set_option maxHeartbeats 4000000 in
set_option maxRecDepth 100000 in
theorem sj_ckS (l : Launch) (i n : Int32) (h0 : ¬ i < 0) (h1 : i < n) : Met l yJ0_checkIndex_df160 (sj_ws yJ0_checkIndex_df160 cJ0_checkIndex_df160 2 none) (sj_rm 2) (va_Pc [.int i, .int n] (fun U => sg_X E bs ax adV U)) (sj_Q none) 0 0 (fun _ => False) := by
  refine Met.ofW (cc := cJ0_checkIndex_df160) (maxL := 2) (ret := none) (by decide) rfl ?_
  intro p e s m args below meth c s₁ B hml hv
  obtain ⟨rfl, hX⟩ := hv
  have hx := B.exec
  have hb := B.bytes
  have hr := B.returns
  have hlocks := B.notSynchronized
  have hown : s.vm.findClass RJ0 = some m.cls := findClass_of_methodNamed B.named
  have hts := sj_hts B
  have hl := lv_entry ([.int i, .int n]) (n := 2) (Nat.le_of_ble_eq_true rfl)
  rw [lg_entry_eq]
  generalize (lg_sl ([.int i, .int n]) ++ List.replicate (2 - (lg_sl ([.int i, .int n])).length) Slot.unset).toArray = ls at hl ⊢
  have hl : lv_has ls 2 [(0, .int i), (1, .int n)] := hl
  obtain ⟨-, -, -, -, -, -, -, v, hv, hZ⟩ := hX
  refine lv_iload_n hx hb dJ0_checkIndex_df160_0 rfl (lv_at hl 0 rfl) ?_
  refine lv_iload_n hx hb dJ0_checkIndex_df160_1 rfl (lv_at hl 1 rfl) ?_
  refine va_gets hx hb hZ va_S.rf hown (hts _ (sj_gd sj_f1053 rfl)) (fun _ h => h) dJ0_checkIndex_df160_2 ?_
  refine sj_pure (a := #[.int i, .int n, v]) (rest := []) (v := some (.int i)) (va_runS (As := [.int i, .int n, v]) ⟨hx, hb, hml, hown, hts⟩ (sj_ckP l i n v hv h0 h1) ⟨⟨rfl, rfl, by decide, by decide, sj_wsin hts sj_pcc, List.mem_cons_self, hts _ (sj_gd sj_pcc rfl), hts _ (sj_gd sj_i3 rfl), ⟨by decide, by decide⟩, fun sig h => by cases h; rfl, hts _ (sj_gd sj_pcl rfl)⟩, hts _ (sj_gd sj_pcs rfl)⟩ ⟨sj_blind0, fun U hU hW => ⟨rfl, trivial⟩⟩ rfl rfl hl.1 rfl (lv_room (by decide)) dJ0_checkIndex_df160_5 ⟨Nat.zero_le _, Nat.zero_le _⟩) ?_
  refine lv_pop hx hb dJ0_checkIndex_df160_8 rfl ?_
  exact W.vret hx hb hr (fun t ht hW => ⟨rfl, ht⟩) (fun q h => by cases h) dJ0_checkIndex_df160_9
theorem sj_ch : ∀ j, j < 2 → ∀ k, k < 4 → ((((([[98, 116, 66, 84], [117, 114, 100, 108]] : List (List Int32)).getD j []).getD k 0) &&& 255).toUInt32 % 65536).toInt32 = Int32.ofInt (ag_str (j + 1) k) ∧ narrow .char (.int (Int32.ofInt (ag_str (j + 1) k))) = .int (Int32.ofInt (ag_str (j + 1) k)) := by decide +kernel
set_option maxHeartbeats 4000000 in
set_option maxRecDepth 100000 in
theorem sj_chL (l : Launch) (j k : Nat) (hj : j < 2) (hk : k < 4) : Met l yJ1_charAt_3b067 (sj_ws yJ1_charAt_3b067 cJ1_charAt_3b067 2 (some .char)) (sj_rm 3) (va_Pc [.ref (adV j), .int (nI k)] (fun U => sg_X E bs ax adV U)) (sj_Q (some (.int (Int32.ofInt (ag_str (j + 1) k))))) 0 0 (fun _ => False) := by
  refine Met.ofW (cc := cJ1_charAt_3b067) (maxL := 2) (ret := some .char) (by decide) rfl ?_
  intro p e s m args below meth c s₁ B hml hv
  obtain ⟨rfl, hX⟩ := hv
  have hx := B.exec
  have hb := B.bytes
  have hr := B.returns
  have hlocks := B.notSynchronized
  have hown : s.vm.findClass RJ1 = some m.cls := findClass_of_methodNamed B.named
  have hts := sj_hts B
  have hl := lv_entry ([.ref (adV j), .int (nI k)]) (n := 2) (Nat.le_of_ble_eq_true rfl)
  rw [lg_entry_eq]
  generalize (lg_sl ([.ref (adV j), .int (nI k)]) ++ List.replicate (2 - (lg_sl ([.ref (adV j), .int (nI k)])).length) Slot.unset).toArray = ls at hl ⊢
  have hl : lv_has ls 2 [(0, .ref (adV j)), (1, .int (nI k))] := hl
  have hS := hX.2.2.2.1
  have hT := (hS.1 j hj).2.2.2
  have hlen : ([4, 4] : List Nat).getD j 0 = 4 := (show ∀ j, j < 2 → ([4, 4] : List Nat).getD j 0 = 4 by decide) j hj
  rw [hlen] at hT
  refine lv_iload_n hx hb dJ1_charAt_3b067_0 rfl (lv_at hl 1 rfl) ?_
  refine lv_aload_n hx hb dJ1_charAt_3b067_1 rfl (lv_at hl 0 rfl) ?_
  refine va_tlen hx hb hT va_S.rf (v := 4) rfl dJ1_charAt_3b067_2 ?_
  refine sj_pure (a := #[.int (nI k), .int 4]) (rest := []) (v := none) (va_runS (As := [.int (nI k), .int 4]) ⟨hx, hb, hml, hown, hts⟩ (sj_ckS (E := E) (bs := bs) (ax := ax) (adV := adV) l (nI k) 4 (nI_pos (by omega)) (nI_lt (b := 4) hk (by decide))) ⟨⟨rfl, rfl, by decide, by decide, sj_wsin hts sj_scc, List.mem_cons_self, hts _ (sj_gd sj_scc rfl), hts _ (sj_gd sj_i0 rfl), ⟨by decide, by decide⟩, fun sig h => by cases h; rfl, hts _ (sj_gd sj_scl rfl)⟩, hts _ (sj_gd sj_scs rfl)⟩ ⟨sj_blind, fun U hU hW => ⟨rfl, sj_X0 hX U hU hW⟩⟩ rfl rfl hl.1 rfl (lv_room (by decide)) dJ1_charAt_3b067_3 ⟨Nat.zero_le _, Nat.zero_le _⟩) ?_
  refine lv_aload_n hx hb dJ1_charAt_3b067_6 rfl (lv_at hl 0 rfl) ?_
  refine lv_iload_n hx hb dJ1_charAt_3b067_7 rfl (lv_at hl 1 rfl) ?_
  refine va_tb hx hb hT va_S.rf (vp_in_nI hk (by decide)) rfl dJ1_charAt_3b067_8 ?_
  refine lv_sipush (v := 255) hx hb dJ1_charAt_3b067_9 (by decide) ?_
  refine lv_iand hx hb dJ1_charAt_3b067_12 ?_
  refine lv_i2c hx hb dJ1_charAt_3b067_13 (v := Int32.ofInt (ag_str (j + 1) k)) (by rw [nI_clamp (by omega)]; exact (sj_ch j hj k hk).1) ?_
  exact W.zret (v := Int32.ofInt (ag_str (j + 1) k)) (ty := .char) hx hb hr (sj_ch j hj k hk).2 (fun t ht hW => ⟨rfl, ht⟩) (fun q h => by cases h) dJ1_charAt_3b067_14
set_option maxHeartbeats 4000000 in
set_option maxRecDepth 100000 in
theorem sj_il (l : Launch) (j : Nat) (hj : j < 2) : Met l yJ0_isLatin1_aae02 (sj_ws yJ0_isLatin1_aae02 cJ0_isLatin1_aae02 1 (some .boolean)) (sj_rm 1) (va_Pc [.ref (ax (j + 1))] (fun U => sg_X E bs ax adV U)) (sj_Q (some (.int 1))) 0 0 (fun _ => False) := by
  refine Met.ofW (cc := cJ0_isLatin1_aae02) (maxL := 1) (ret := some .boolean) (by decide) rfl ?_
  intro p e s m args below meth c s₁ B hml hv
  obtain ⟨rfl, hX⟩ := hv
  have hx := B.exec
  have hb := B.bytes
  have hr := B.returns
  have hlocks := B.notSynchronized
  have hown : s.vm.findClass RJ0 = some m.cls := findClass_of_methodNamed B.named
  have hts := sj_hts B
  have hl := lv_entry ([.ref (ax (j + 1))]) (n := 1) (Nat.le_of_ble_eq_true rfl)
  rw [lg_entry_eq]
  generalize (lg_sl ([.ref (ax (j + 1))]) ++ List.replicate (1 - (lg_sl ([.ref (ax (j + 1))])).length) Slot.unset).toArray = ls at hl ⊢
  have hl : lv_has ls 1 [(0, .ref (ax (j + 1)))] := hl
  obtain ⟨-, -, -, hS, -, -, hZ, -⟩ := hX
  refine va_gets hx hb hZ va_S.rf hown (hts _ (sj_gd sj_f38 rfl)) (fun _ h => h) dJ0_isLatin1_aae02_0 ?_
  refine lv_if_eq (tgt := 17) hx hb dJ0_isLatin1_aae02_3 (by decide) (fun q => absurd q (by decide)) (fun _ => ?_)
  refine lv_aload_n hx hb dJ0_isLatin1_aae02_6 rfl (lv_at hl 0 rfl) ?_
  refine vk_getf hx hb (hS.1 j hj).2.1 va_S.rf hown (hts _ (sj_gd sj_f15 rfl)) (fun _ h => h) dJ0_isLatin1_aae02_7 ?_
  refine lv_if_ne (tgt := 17) hx hb dJ0_isLatin1_aae02_10 (by decide) (fun q => absurd rfl q) (fun _ => ?_)
  refine lv_iconst (v := 1) hx hb dJ0_isLatin1_aae02_13 (by decide) ?_
  refine lv_goto (tgt := 18) hx hb dJ0_isLatin1_aae02_14 (by decide) ?_
  exact W.zret (v := 1) (ty := .boolean) hx hb hr rfl (fun t ht hW => ⟨rfl, ht⟩) (fun q h => by cases h) dJ0_isLatin1_aae02_18
set_option maxHeartbeats 4000000 in
set_option maxRecDepth 100000 in
theorem sj_chS (l : Launch) (j k : Nat) (hj : j < 2) (hk : k < 4) : Met l yJ0_charAt_5068e (sj_ws yJ0_charAt_5068e cJ0_charAt_5068e 2 (some .char)) (sj_rm 4) (va_Pc [.ref (ax (j + 1)), .int (nI k)] (fun U => sg_X E bs ax adV U)) (sj_Q (some (.int (Int32.ofInt (ag_str (j + 1) k))))) 0 0 (fun _ => False) := by
  refine Met.ofW (cc := cJ0_charAt_5068e) (maxL := 2) (ret := some .char) (by decide) rfl ?_
  intro p e s m args below meth c s₁ B hml hv
  obtain ⟨rfl, hX⟩ := hv
  have hx := B.exec
  have hb := B.bytes
  have hr := B.returns
  have hlocks := B.notSynchronized
  have hown : s.vm.findClass RJ0 = some m.cls := findClass_of_methodNamed B.named
  have hts := sj_hts B
  have hl := lv_entry ([.ref (ax (j + 1)), .int (nI k)]) (n := 2) (Nat.le_of_ble_eq_true rfl)
  rw [lg_entry_eq]
  generalize (lg_sl ([.ref (ax (j + 1)), .int (nI k)]) ++ List.replicate (2 - (lg_sl ([.ref (ax (j + 1)), .int (nI k)])).length) Slot.unset).toArray = ls at hl ⊢
  have hl : lv_has ls 2 [(0, .ref (ax (j + 1))), (1, .int (nI k))] := hl
  have hS := hX.2.2.2.1
  refine lv_aload_n hx hb dJ0_charAt_5068e_0 rfl (lv_at hl 0 rfl) ?_
  refine sj_pure (a := #[.ref (ax (j + 1))]) (rest := []) (v := some (.int 1)) (va_runV (C := RJ0) (b := ax (j + 1)) (As := []) ⟨hx, hb, hml, hown, hts⟩ (sj_il (E := E) (bs := bs) (ax := ax) (adV := adV) l j hj) ⟨⟨rfl, rfl, by decide, by decide, sj_wsin hts sj_ilc, List.mem_cons_self, hts _ (sj_gd sj_ilc rfl), hts _ (sj_gd sj_i0 rfl), ⟨by decide, by decide⟩, fun sig h => by cases h; rfl, hts _ (sj_gd sj_ill rfl)⟩, hts _ (sj_gd sj_ili rfl), hts _ (sj_gd sj_ils rfl)⟩ ⟨sj_blind, vk_recv (i := j) hS hj va_S.rf, fun U hU hW => ⟨rfl, sj_X0 hX U hU hW⟩⟩ rfl rfl hl.1 rfl (lv_room (by decide)) dJ0_charAt_5068e_1 ⟨Nat.zero_le _, Nat.zero_le _⟩) ?_
  refine lv_if_eq (tgt := 16) hx hb dJ0_charAt_5068e_4 (by decide) (fun q => absurd q (by decide)) (fun _ => ?_)
  refine lv_aload_n hx hb dJ0_charAt_5068e_7 rfl (lv_at hl 0 rfl) ?_
  refine vk_getf hx hb (hS.1 j hj).2.2.1 va_S.rf hown (hts _ (sj_gd sj_f9 rfl)) (fun _ h => h) dJ0_charAt_5068e_8 ?_
  refine lv_iload_n hx hb dJ0_charAt_5068e_11 rfl (lv_at hl 1 rfl) ?_
  refine sj_pure (a := #[.ref (adV j), .int (nI k)]) (rest := []) (v := some (.int (Int32.ofInt (ag_str (j + 1) k)))) (va_runS (As := [.ref (adV j), .int (nI k)]) ⟨hx, hb, hml, hown, hts⟩ (sj_chL (E := E) (bs := bs) (ax := ax) (adV := adV) l j k hj hk) ⟨⟨rfl, rfl, by decide, by decide, sj_wsin hts sj_lcc, List.mem_cons_self, hts _ (sj_gd sj_lcc rfl), hts _ (sj_gd sj_i1 rfl), ⟨by decide, by decide⟩, fun sig h => by cases h; rfl, hts _ (sj_gd sj_lcl rfl)⟩, hts _ (sj_gd sj_lcs rfl)⟩ ⟨sj_blind, fun U hU hW => ⟨rfl, sj_X0 hX U hU hW⟩⟩ rfl rfl hl.1 rfl (lv_room (by decide)) dJ0_charAt_5068e_12 ⟨Nat.zero_le _, Nat.zero_le _⟩) ?_
  exact W.zret (v := Int32.ofInt (ag_str (j + 1) k)) (ty := .char) hx hb hr (sj_ch j hj k hk).2 (fun t ht hW => ⟨rfl, ht⟩) (fun q h => by cases h) dJ0_charAt_5068e_15
end SJ
end
section
/-! calls of the library's own members, from an abstract frame -/
section SGL
variable {p : Program} {l : Launch} {e : Env} {R : Room} {s : State} {m : MethodId} {args : Array Value} {below : List Frame} {meth : Method} {c : Code} {Q : State → Prop} {cc : ByteArray} {nL bs n0 s0 ci : Nat} {dA : Nat → ClassId} {ax adV : Nat → Nat} {D : va_G} {E : Nat × (Int → Int)}
variable {pc : Nat} {ls : List (Option av)} {st : List av} {h : ag_H}
theorem sg_cat2 (st : List av) : ((st.map (sg_up bs ax)).map fun v => v.category).sum ≤ 2 * st.length := by
  induction st with
  | nil => simp
  | cons v st ih =>
    have hc := sg_cat bs ax v
    simp only [List.map_cons, List.sum_cons, List.length_cons]
    by_cases hw : ag_wide (some v) = true
    · rw [if_pos hw] at hc; omega
    · rw [if_neg hw] at hc; omega
theorem sg_objI (hx : p.tables.exec = Jvm.exec) (hb : c.code = cc) (hml : c.maxLocals = nL) (hts : ∀ w ∈ sg_tb, w.before args s = true) (hown : s.vm.findClass (sg_R ci) = some m.cls) {ix y n t a : Nat} (hf : ag_TT.2.1 ci ix = some (10, y, n, t)) (hl : st.length ≤ 6) (hR1 : 1 ≤ R.frames) (hR2 : 100 ≤ R.locals) (hd : decode cc pc = .ok (.invokespecial ix, 3)) (kk : sg_J p l e R s m args below meth c Q nL bs n0 s0 dA ax D (pc + 3, ls, st, h)) : sg_J p l e R s m args below meth c Q nL bs n0 s0 dA ax D (pc, ls, vA a :: st, h) := by
  intro H locs rl cells slots hP hz hS hL hc hs
  obtain ⟨q, hq⟩ := sg_mw hf
  change (sg_at q.2.1 (.methodLink (sg_R ci) ix Lib.objectInit) && sg_at q.2.2.1 (.instanceMethod Lib.objectInit) && sg_at q.2.2.2 (.code Lib.objectInit ⟨#[0xb1]⟩ 1 none)) = true at hq
  simp only [Bool.and_eq_true] at hq
  obtain ⟨⟨h1, h2⟩, h3⟩ := hq
  have h4 := sg_cat2 (bs := bs) (ax := ax) st
  refine W.objInit (a := bs + a) (rest := st.map (sg_up bs ax)) hx hb hown (hts _ (sg_mem (sg_atm h1) rfl)) (hts _ (sg_mem (sg_atm h2) rfl)) (hts _ (sg_mem (sg_atm h3) rfl)) rfl (hL.1.1.trans hml.symm) rfl hd hR1 ?_ (kk H locs rl cells slots hP hz hS hL hc hs)
  show 2 * 0 + _ + 12 ≤ R.locals
  omega
theorem sg_mmin (hx : p.tables.exec = Jvm.exec) (hb : c.code = cc) (hml : c.maxLocals = nL) (hts : ∀ w ∈ sg_tb, w.before args s = true) (hown : s.vm.findClass (sg_R ci) = some m.cls) {ix y n t : Nat} {a b : Int} (ha : ag_in a) (hb2 : ag_in b) (hf : ag_TT.2.1 ci ix = some (11, y, n, t)) (hl : st.length ≤ 6) (hR1 : 1 ≤ R.frames) (hR2 : 100 ≤ R.locals) (hr1 : h.1.length ≤ R.cells + n0) (hr2 : sg_ss h.1 ≤ R.slots + s0) (hd : decode cc pc = .ok (.invokestatic ix, 3)) (kk : sg_J p l e R s m args below meth c Q nL bs n0 s0 dA ax D (pc + 3, ls, vI (if b < a then b else a) :: st, h)) : sg_J p l e R s m args below meth c Q nL bs n0 s0 dA ax D (pc, ls, vI b :: vI a :: st, h) := by
  intro H locs rl cells slots hP hz hS hL hc hs
  obtain ⟨rfl, rfl⟩ := (sg_mk hf).1 rfl
  have h4 := sg_cat2 (bs := bs) (ax := ax) st
  dsimp only at hc hs
  refine va_mmin hx hb (hml.trans hL.1.1.symm) hown (hts _ sg_wMn.1) (hts _ sg_wMn.2.1) (hts _ sg_wM) (hts _ sg_wMn.2.2) hR1 (by omega) (by omega) (by omega) hd ?_
  have := kk H locs rl cells slots hP hz hS hL hc hs
  have e : (if Int32.ofInt b < Int32.ofInt a then Int32.ofInt b else Int32.ofInt a) = Int32.ofInt (if b < a then b else a) := by
    by_cases hlt : b < a
    · rw [if_pos hlt, if_pos ((sg_lt hb2 ha).mpr hlt)]
    · rw [if_neg hlt, if_neg (fun q => hlt ((sg_lt hb2 ha).mp q))]
  rw [e]
  exact this
theorem sg_mmax (hx : p.tables.exec = Jvm.exec) (hb : c.code = cc) (hml : c.maxLocals = nL) (hts : ∀ w ∈ sg_tb, w.before args s = true) (hown : s.vm.findClass (sg_R ci) = some m.cls) {ix y n t : Nat} {a b : Int} (ha : ag_in a) (hb2 : ag_in b) (hf : ag_TT.2.1 ci ix = some (12, y, n, t)) (hl : st.length ≤ 6) (hR1 : 1 ≤ R.frames) (hR2 : 100 ≤ R.locals) (hr1 : h.1.length ≤ R.cells + n0) (hr2 : sg_ss h.1 ≤ R.slots + s0) (hd : decode cc pc = .ok (.invokestatic ix, 3)) (kk : sg_J p l e R s m args below meth c Q nL bs n0 s0 dA ax D (pc + 3, ls, vI (if a < b then b else a) :: st, h)) : sg_J p l e R s m args below meth c Q nL bs n0 s0 dA ax D (pc, ls, vI b :: vI a :: st, h) := by
  intro H locs rl cells slots hP hz hS hL hc hs
  obtain ⟨rfl, rfl⟩ := (sg_mk hf).2.1 rfl
  have h4 := sg_cat2 (bs := bs) (ax := ax) st
  dsimp only at hc hs
  refine va_mmax hx hb (hml.trans hL.1.1.symm) hown (hts _ sg_wMx.1) (hts _ sg_wMx.2.1) (hts _ sg_wM) (hts _ sg_wMx.2.2) hR1 (by omega) (by omega) (by omega) hd ?_
  have := kk H locs rl cells slots hP hz hS hL hc hs
  have e : (if Int32.ofInt a < Int32.ofInt b then Int32.ofInt b else Int32.ofInt a) = Int32.ofInt (if a < b then b else a) := by
    by_cases hlt : a < b
    · rw [if_pos hlt, if_pos ((sg_lt ha hb2).mpr hlt)]
    · rw [if_neg hlt, if_neg (fun q => hlt ((sg_lt ha hb2).mp q))]
  rw [e]
  exact this
theorem sg_htsG (hts : ∀ w ∈ sg_tb, w.before args s = true) : ∀ w ∈ sg_Gd, w.before args s = true := fun w hw => hts w (List.mem_filter.mp hw).1
theorem sg_lroom {st : List av} (hl : st.length ≤ 4) {rl : Array Slot} {stk : List Value} : 2 * (F0 m pc rl stk).monitorRoom + ((st.map (sg_up bs ax)).map fun v => v.category).sum ≤ 8 := by
  have h4 := sg_cat2 (bs := bs) (ax := ax) st
  show 2 * 0 + _ ≤ 8
  omega
theorem sg_bitsJ (hx : p.tables.exec = Jvm.exec) (hb : c.code = cc) (hml : c.maxLocals = nL) (hts : ∀ w ∈ sg_tb, w.before args s = true) (hown : s.vm.findClass (sg_R ci) = some m.cls) {ix y n t : Nat} {a : UInt32} (ha : Op.cmpValue (FP.fcmp a a) .l = 0) (hf : ag_TT.2.1 ci ix = some (13, y, n, t)) (hl : st.length ≤ 4) (hR1 : 5 ≤ R.frames) (hR2 : 300 ≤ R.locals) (hr1 : h.1.length ≤ R.cells + n0) (hr2 : sg_ss h.1 ≤ R.slots + s0) (hd : decode cc pc = .ok (.invokestatic ix, 3)) (kk : sg_J p l e R s m args below meth c Q nL bs n0 s0 dA ax D (pc + 3, ls, vI a.toInt32.toInt :: st, h)) : sg_J p l e R s m args below meth c Q nL bs n0 s0 dA ax D (pc, ls, vF a :: st, h) := by
  intro H locs rl cells slots hP hz hS hL hc hs
  obtain ⟨rfl, rfl⟩ := (sg_mk hf).2.2.1 rfl
  dsimp only at hc hs
  have := kk H locs rl cells slots hP hz hS hL hc hs
  refine sj_pure (a := #[.float a]) (rest := st.map (sg_up bs ax)) (v := some (.int a.toInt32)) (va_runS (As := [.float a]) ⟨hx, hb, hml, hown, hts⟩ (sj_bits l a ha) ⟨⟨rfl, rfl, ?_, ?_, sj_wsin (sg_htsG hts) sj_fbc, List.mem_cons_self, hts _ sj_fbc, hts _ sj_if, ⟨by decide, by decide⟩, fun sig h => by cases h; rfl, hts _ sj_fbl⟩, hts _ sj_fbs⟩ ⟨sj_blind0, fun U hU hW => ⟨rfl, trivial⟩⟩ rfl rfl hL.1.1 rfl (sg_lroom hl) hd ⟨by omega, by omega⟩) ?_
  · show 2 + 1 ≤ R.frames
    omega
  · show 8 + (1 + 11) + 120 ≤ R.locals
    omega
  · rw [← Int32.ofInt_toInt a.toInt32]
    exact this
theorem sg_chJ (hx : p.tables.exec = Jvm.exec) (hb : c.code = cc) (hml : c.maxLocals = nL) (hts : ∀ w ∈ sg_tb, w.before args s = true) (hown : s.vm.findClass (sg_R ci) = some m.cls) (hX : sg_X E bs ax adV s) {ix y n t j : Nat} {i : Int} (h0 : 0 ≤ i) (h1 : i < 4) (hj : j = 1 ∨ j = 2) (hf : ag_TT.2.1 ci ix = some (14, y, n, t)) (hl : st.length ≤ 4) (hR1 : 5 ≤ R.frames) (hR2 : 300 ≤ R.locals) (hr1 : h.1.length ≤ R.cells + n0) (hr2 : sg_ss h.1 ≤ R.slots + s0) (hd : decode cc pc = .ok (.invokevirtual ix, 3)) (kk : sg_J p l e R s m args below meth c Q nL bs n0 s0 dA ax D (pc + 3, ls, vI (ag_str j i.toNat) :: st, h)) : sg_J p l e R s m args below meth c Q nL bs n0 s0 dA ax D (pc, ls, vI i :: vX j :: st, h) := by
  intro H locs rl cells slots hP hz hS hL hc hs
  obtain rfl := (sg_mk hf).2.2.2 rfl
  dsimp only at hc hs
  have := kk H locs rl cells slots hP hz hS hL hc hs
  obtain ⟨j', rfl, hj2⟩ : ∃ j', j = j' + 1 ∧ j' < 2 := by
    rcases hj with rfl | rfl
    · exact ⟨0, rfl, by decide⟩
    · exact ⟨1, rfl, by decide⟩
  obtain ⟨k, rfl⟩ := Int.eq_ofNat_of_zero_le h0
  have hk : k < 4 := by omega
  have hS2 := hX.2.2.2.1
  refine sj_pure (a := #[.ref (ax (j' + 1)), .int (nI k)]) (rest := st.map (sg_up bs ax)) (v := some (.int (Int32.ofInt (ag_str (j' + 1) k)))) (va_runV (C := RJ0) (b := ax (j' + 1)) (As := [.int (nI k)]) ⟨hx, hb, hml, hown, hts⟩ (sj_chS (E := E) (bs := bs) (ax := ax) (adV := adV) l j' k hj2 hk) ⟨⟨rfl, rfl, ?_, ?_, sj_wsin (sg_htsG hts) sj_cm, List.mem_cons_self, hts _ sj_cm, hts _ sj_i0, ⟨by decide, by decide⟩, fun sig h => by cases h; rfl, hts _ (sj_cml _ _ hf rfl)⟩, hts _ sj_cmi, hts _ sj_cms⟩ ⟨sj_blind, vk_recv (i := j') hS2 hj2 hS, fun U hU hW => ⟨rfl, hX.to (by rw [hU]; exact hS) hW.alike (fun own tx k a hr => vk_R.warm hW hr)⟩⟩ rfl rfl hL.1.1 rfl (sg_lroom hl) hd ⟨by omega, by omega⟩) ?_
  · show 4 + 1 ≤ R.frames
    omega
  · show 8 + (2 + 11) + 240 ≤ R.locals
    omega
  · exact this
end SGL
end
section
/-! what the tables of instructions keep to: lengths, targets (checked by program for every method) -/
def sg_chk (pc : Nat) (i : Instr) (len : Nat) : Bool := match i with
  | .iconst _ | .aconst_null | .iload_n _ | .lload_n _ | .fload_n _ | .aload_n _ | .istore_n _ | .lstore_n _ | .fstore_n _ | .astore_n _ => len == 1
  | .lconst z => len == 1 && decide (z = 0 ∨ z = 1)
  | .fconst z => len == 1 && decide (z = 0 ∨ z = 1 ∨ z = 2)
  | .dup | .dup2 | .pop | .iadd | .isub | .imul | .idiv | .irem | .iand | .ior | .ishl | .ladd | .lmul | .lcmp | .i2l | .i2f | .f2i | .fdiv | .fmul | .fsub | .fcmp _ => len == 1
  | .arraylength | .iaload | .baload | .caload | .laload | .aaload | .iastore | .bastore | .castore | .lastore | .aastore | .ireturn | .lreturn | .areturn | .return_ => len == 1
  | .iload _ | .istore _ | .newarray _ | .ldc _ => len == 2
  | .bipush z => len == 2 && decide ((Int8.ofInt z).toInt32 = Int32.ofInt z)
  | .sipush z => len == 3 && decide ((Int16.ofInt z).toInt32 = Int32.ofInt z)
  | .iinc _ _ | .getfield _ | .putfield _ | .new _ | .anewarray _ | .ldc_w _ | .ldc2_w _ | .invokevirtual _ | .invokespecial _ | .invokestatic _ => len == 3
  | .goto off => len == 3 && decide (0 ≤ (pc : Int) + off)
  | .ifCond _ off => len == 3 && decide (0 ≤ (pc : Int) + off)
  | .if_icmp _ off => len == 3 && decide (0 ≤ (pc : Int) + off)
  | .ifnull off => len == 3 && decide (0 ≤ (pc : Int) + off)
  | .ifnonnull off => len == 3 && decide (0 ≤ (pc : Int) + off)
  | .tableswitch d _ _ offs => decide (0 ≤ (pc : Int) + d) && offs.toList.all fun q => decide (0 ≤ (pc : Int) + q)
  | .lookupswitch d ps => (ps.toList.zip (ps.toList.drop 1)).all (fun (a, next) => a.1 < next.1) && (decide (0 ≤ (pc : Int) + d) && ps.toList.all fun q => decide (0 ≤ (pc : Int) + q.2))
  | _ => false
def sg_chks (l : List (Option (Instr × Nat))) : Bool := (l.zipIdx).all fun r => match r.1 with
  | some q => sg_chk r.2 q.1 q.2
  | none => true
theorem sg_ck : (ag_Ms.all fun M => sg_chks M.2.2.2.2) = true := by decide +kernel
theorem sg_ckL : sg_chks ag_cL_law = true := by decide +kernel
def sg_decs (q : ByteArray × ag_M) : Prop := sg_dec q.1 q.2.2.2.2.2 = true
theorem sg_q0 : ∀ q ∈ ([(cX0_init, ag_mX0_init), (cX0_copyBoard, ag_mX0_copyBoard), (cX0_pieceAt, ag_mX0_pieceAt), (cX0_setPiece, ag_mX0_setPiece), (cX0_countOf, ag_mX0_countOf), (cX0_tugsOf, ag_mX0_tugsOf), (cX0_hasLock, ag_mX0_hasLock), (cX0_lockAt, ag_mX0_lockAt), (cX0_isClosed, ag_mX0_isClosed), (cX0_buildLock, ag_mX0_buildLock), (cX0_turnLocks, ag_mX0_turnLocks), (cX0_closedLocks, ag_mX0_closedLocks), (cX0_allLockTurns, ag_mX0_allLockTurns), (cX0_standing, ag_mX0_standing), (cX0_causeAgainst, ag_mX0_causeAgainst), (cX0_causeDetail, ag_mX0_causeDetail), (cX0_pushedOff, ag_mX0_pushedOff), (cX0_countMoves, ag_mX0_countMoves), (cX0_movesInLane, ag_mX0_movesInLane), (cX0_promote, ag_mX0_promote)] : List (ByteArray × ag_M)), sg_decs q := List.forall_mem_cons.mpr ⟨sg_dX0_init, List.forall_mem_cons.mpr ⟨sg_dX0_copyBoard, List.forall_mem_cons.mpr ⟨sg_dX0_pieceAt, List.forall_mem_cons.mpr ⟨sg_dX0_setPiece, List.forall_mem_cons.mpr ⟨sg_dX0_countOf, List.forall_mem_cons.mpr ⟨sg_dX0_tugsOf, List.forall_mem_cons.mpr ⟨sg_dX0_hasLock, List.forall_mem_cons.mpr ⟨sg_dX0_lockAt, List.forall_mem_cons.mpr ⟨sg_dX0_isClosed, List.forall_mem_cons.mpr ⟨sg_dX0_buildLock, List.forall_mem_cons.mpr ⟨sg_dX0_turnLocks, List.forall_mem_cons.mpr ⟨sg_dX0_closedLocks, List.forall_mem_cons.mpr ⟨sg_dX0_allLockTurns, List.forall_mem_cons.mpr ⟨sg_dX0_standing, List.forall_mem_cons.mpr ⟨sg_dX0_causeAgainst, List.forall_mem_cons.mpr ⟨sg_dX0_causeDetail, List.forall_mem_cons.mpr ⟨sg_dX0_pushedOff, List.forall_mem_cons.mpr ⟨sg_dX0_countMoves, List.forall_mem_cons.mpr ⟨sg_dX0_movesInLane, List.forall_mem_cons.mpr ⟨sg_dX0_promote, fun _ h => by cases h⟩⟩⟩⟩⟩⟩⟩⟩⟩⟩⟩⟩⟩⟩⟩⟩⟩⟩⟩⟩
theorem sg_q1 : ∀ q ∈ ([(cX0_shift, ag_mX0_shift), (cX0_carryRiver, ag_mX0_carryRiver), (cX0_drift, ag_mX0_drift), (cX0_signOf, ag_mX0_signOf), (cX0_halfKey, ag_mX0_halfKey), (cX0_closedKey, ag_mX0_closedKey), (cX1_init, ag_mX1_init), (cX1_copyFrom, ag_mX1_copyFrom), (cX1_sideToMove, ag_mX1_sideToMove), (cX1_tide, ag_mX1_tide), (cX1_goesOn, ag_mX1_goesOn), (cX1_openMoves, ag_mX1_openMoves), (cX1_allows, ag_mX1_allows), (cX1_startPlay, ag_mX1_startPlay), (cX1_carryOut, ag_mX1_carryOut), (cX1_carryByTide, ag_mX1_carryByTide), (cX1_recordPosition, ag_mX1_recordPosition), (cX1_settleEnding, ag_mX1_settleEnding), (cX2_init, ag_mX2_init), (cX2_copyHistory, ag_mX2_copyHistory)] : List (ByteArray × ag_M)), sg_decs q := List.forall_mem_cons.mpr ⟨sg_dX0_shift, List.forall_mem_cons.mpr ⟨sg_dX0_carryRiver, List.forall_mem_cons.mpr ⟨sg_dX0_drift, List.forall_mem_cons.mpr ⟨sg_dX0_signOf, List.forall_mem_cons.mpr ⟨sg_dX0_halfKey, List.forall_mem_cons.mpr ⟨sg_dX0_closedKey, List.forall_mem_cons.mpr ⟨sg_dX1_init, List.forall_mem_cons.mpr ⟨sg_dX1_copyFrom, List.forall_mem_cons.mpr ⟨sg_dX1_sideToMove, List.forall_mem_cons.mpr ⟨sg_dX1_tide, List.forall_mem_cons.mpr ⟨sg_dX1_goesOn, List.forall_mem_cons.mpr ⟨sg_dX1_openMoves, List.forall_mem_cons.mpr ⟨sg_dX1_allows, List.forall_mem_cons.mpr ⟨sg_dX1_startPlay, List.forall_mem_cons.mpr ⟨sg_dX1_carryOut, List.forall_mem_cons.mpr ⟨sg_dX1_carryByTide, List.forall_mem_cons.mpr ⟨sg_dX1_recordPosition, List.forall_mem_cons.mpr ⟨sg_dX1_settleEnding, List.forall_mem_cons.mpr ⟨sg_dX2_init, List.forall_mem_cons.mpr ⟨sg_dX2_copyHistory, fun _ h => by cases h⟩⟩⟩⟩⟩⟩⟩⟩⟩⟩⟩⟩⟩⟩⟩⟩⟩⟩⟩⟩
theorem sg_q2 : ∀ q ∈ ([(cX2_addPosition, ag_mX2_addPosition), (cX2_timesOfLatest, ag_mX2_timesOfLatest), (cX2_timesUpTo, ag_mX2_timesUpTo), (cX2_mostTimes, ag_mX2_mostTimes), (cX2_different, ag_mX2_different), (cX3_init, ag_mX3_init), (cX3_addCharacter, ag_mX3_addCharacter), (cX3_clear, ag_mX3_clear), (cX3_parse, ag_mX3_parse), (cX3_addMove, ag_mX3_addMove), (cX3_directionOf, ag_mX3_directionOf), (cX4_init, ag_mX4_init), (cX4_gameAt, ag_mX4_gameAt), (cX4_keep, ag_mX4_keep), (cX4_bringBack, ag_mX4_bringBack), (cX4_forget, ag_mX4_forget), (cX5_init, ag_mX5_init), (cX5_note, ag_mX5_note), (cX5_noteCause, ag_mX5_noteCause), (cX6_init, ag_mX6_init)] : List (ByteArray × ag_M)), sg_decs q := List.forall_mem_cons.mpr ⟨sg_dX2_addPosition, List.forall_mem_cons.mpr ⟨sg_dX2_timesOfLatest, List.forall_mem_cons.mpr ⟨sg_dX2_timesUpTo, List.forall_mem_cons.mpr ⟨sg_dX2_mostTimes, List.forall_mem_cons.mpr ⟨sg_dX2_different, List.forall_mem_cons.mpr ⟨sg_dX3_init, List.forall_mem_cons.mpr ⟨sg_dX3_addCharacter, List.forall_mem_cons.mpr ⟨sg_dX3_clear, List.forall_mem_cons.mpr ⟨sg_dX3_parse, List.forall_mem_cons.mpr ⟨sg_dX3_addMove, List.forall_mem_cons.mpr ⟨sg_dX3_directionOf, List.forall_mem_cons.mpr ⟨sg_dX4_init, List.forall_mem_cons.mpr ⟨sg_dX4_gameAt, List.forall_mem_cons.mpr ⟨sg_dX4_keep, List.forall_mem_cons.mpr ⟨sg_dX4_bringBack, List.forall_mem_cons.mpr ⟨sg_dX4_forget, List.forall_mem_cons.mpr ⟨sg_dX5_init, List.forall_mem_cons.mpr ⟨sg_dX5_note, List.forall_mem_cons.mpr ⟨sg_dX5_noteCause, List.forall_mem_cons.mpr ⟨sg_dX6_init, fun _ h => by cases h⟩⟩⟩⟩⟩⟩⟩⟩⟩⟩⟩⟩⟩⟩⟩⟩⟩⟩⟩⟩
theorem sg_q3 : ∀ q ∈ ([(cX6_put, ag_mX6_put), (cX6_lock, ag_mX6_lock), (cX6_begin, ag_mX6_begin), (cX6_move, ag_mX6_move), (cX6_squareOf, ag_mX6_squareOf), (cX6_lockOf, ag_mX6_lockOf), (cX6_sideOf, ag_mX6_sideOf), (cX6_moves, ag_mX6_moves), (cX6_movesAgain, ag_mX6_movesAgain), (cX6_moveAt, ag_mX6_moveAt), (cX6_repeats, ag_mX6_repeats), (cX6_mostRepeats, ag_mX6_mostRepeats), (cX6_wouldPush, ag_mX6_wouldPush), (cX6_firstTake, ag_mX6_firstTake), (cX6_ways, ag_mX6_ways), (cX6_turnsIn, ag_mX6_turnsIn), (cX6_tideIn, ag_mX6_tideIn), (cX6_describe, ag_mX6_describe), (cX6_sign, ag_mX6_sign), (cX6_append, ag_mX6_append)] : List (ByteArray × ag_M)), sg_decs q := List.forall_mem_cons.mpr ⟨sg_dX6_put, List.forall_mem_cons.mpr ⟨sg_dX6_lock, List.forall_mem_cons.mpr ⟨sg_dX6_begin, List.forall_mem_cons.mpr ⟨sg_dX6_move, List.forall_mem_cons.mpr ⟨sg_dX6_squareOf, List.forall_mem_cons.mpr ⟨sg_dX6_lockOf, List.forall_mem_cons.mpr ⟨sg_dX6_sideOf, List.forall_mem_cons.mpr ⟨sg_dX6_moves, List.forall_mem_cons.mpr ⟨sg_dX6_movesAgain, List.forall_mem_cons.mpr ⟨sg_dX6_moveAt, List.forall_mem_cons.mpr ⟨sg_dX6_repeats, List.forall_mem_cons.mpr ⟨sg_dX6_mostRepeats, List.forall_mem_cons.mpr ⟨sg_dX6_wouldPush, List.forall_mem_cons.mpr ⟨sg_dX6_firstTake, List.forall_mem_cons.mpr ⟨sg_dX6_ways, List.forall_mem_cons.mpr ⟨sg_dX6_turnsIn, List.forall_mem_cons.mpr ⟨sg_dX6_tideIn, List.forall_mem_cons.mpr ⟨sg_dX6_describe, List.forall_mem_cons.mpr ⟨sg_dX6_sign, List.forall_mem_cons.mpr ⟨sg_dX6_append, fun _ h => by cases h⟩⟩⟩⟩⟩⟩⟩⟩⟩⟩⟩⟩⟩⟩⟩⟩⟩⟩⟩⟩
theorem sg_q4 : ∀ q ∈ ([(cX6_read, ag_mX6_read), (cX6_refusal, ag_mX6_refusal), (cX6_account, ag_mX6_account), (cX6_mean, ag_mX6_mean), (cX6_undo, ag_mX6_undo), (cX6_save, ag_mX6_save), (cX6_restore, ag_mX6_restore), (cX6_refuse, ag_mX6_refuse), (cX6_buildingError, ag_mX6_buildingError), (cX6_moveError, ag_mX6_moveError), (cX6_isSquare, ag_mX6_isSquare), (cX6_isSide, ag_mX6_isSide), (cX6_isDirection, ag_mX6_isDirection), (cX6_orNothing, ag_mX6_orNothing), (cX6_otherSide, ag_mX6_otherSide), (cX6_ownerOf, ag_mX6_ownerOf), (cX6_isTug, ag_mX6_isTug), (cX6_goes, ag_mX6_goes), (cX6_strengthOf, ag_mX6_strengthOf), (cX6_lastRowOf, ag_mX6_lastRowOf)] : List (ByteArray × ag_M)), sg_decs q := List.forall_mem_cons.mpr ⟨sg_dX6_read, List.forall_mem_cons.mpr ⟨sg_dX6_refusal, List.forall_mem_cons.mpr ⟨sg_dX6_account, List.forall_mem_cons.mpr ⟨sg_dX6_mean, List.forall_mem_cons.mpr ⟨sg_dX6_undo, List.forall_mem_cons.mpr ⟨sg_dX6_save, List.forall_mem_cons.mpr ⟨sg_dX6_restore, List.forall_mem_cons.mpr ⟨sg_dX6_refuse, List.forall_mem_cons.mpr ⟨sg_dX6_buildingError, List.forall_mem_cons.mpr ⟨sg_dX6_moveError, List.forall_mem_cons.mpr ⟨sg_dX6_isSquare, List.forall_mem_cons.mpr ⟨sg_dX6_isSide, List.forall_mem_cons.mpr ⟨sg_dX6_isDirection, List.forall_mem_cons.mpr ⟨sg_dX6_orNothing, List.forall_mem_cons.mpr ⟨sg_dX6_otherSide, List.forall_mem_cons.mpr ⟨sg_dX6_ownerOf, List.forall_mem_cons.mpr ⟨sg_dX6_isTug, List.forall_mem_cons.mpr ⟨sg_dX6_goes, List.forall_mem_cons.mpr ⟨sg_dX6_strengthOf, List.forall_mem_cons.mpr ⟨sg_dX6_lastRowOf, fun _ h => by cases h⟩⟩⟩⟩⟩⟩⟩⟩⟩⟩⟩⟩⟩⟩⟩⟩⟩⟩⟩⟩
theorem sg_q5 : ∀ q ∈ ([(cX6_stepOf, ag_mX6_stepOf), (cX6_roomFrom, ag_mX6_roomFrom), (cX6_ahead, ag_mX6_ahead), (cX6_fromEnd, ag_mX6_fromEnd), (cX6_bitsOf, ag_mX6_bitsOf), (cX7_init, ag_mX7_init), (cX7_refuses, ag_mX7_refuses), (cX7_in, ag_mX7_in), (cX7_isSquare, ag_mX7_isSquare), (cX7_copies, ag_mX7_copies), (cX7_keeps, ag_mX7_keeps), (cX7_pieceAt, ag_mX7_pieceAt), (cX7_sideAt, ag_mX7_sideAt), (cX7_kindAt, ag_mX7_kindAt), (cX7_ofLock, ag_mX7_ofLock), (cX7_lockAt, ag_mX7_lockAt), (cX7_isClosed, ag_mX7_isClosed), (cX7_countOf, ag_mX7_countOf), (cX7_pieces, ag_mX7_pieces), (cX7_cannotBuild, ag_mX7_cannotBuild)] : List (ByteArray × ag_M)), sg_decs q := List.forall_mem_cons.mpr ⟨sg_dX6_stepOf, List.forall_mem_cons.mpr ⟨sg_dX6_roomFrom, List.forall_mem_cons.mpr ⟨sg_dX6_ahead, List.forall_mem_cons.mpr ⟨sg_dX6_fromEnd, List.forall_mem_cons.mpr ⟨sg_dX6_bitsOf, List.forall_mem_cons.mpr ⟨sg_dX7_init, List.forall_mem_cons.mpr ⟨sg_dX7_refuses, List.forall_mem_cons.mpr ⟨sg_dX7_in, List.forall_mem_cons.mpr ⟨sg_dX7_isSquare, List.forall_mem_cons.mpr ⟨sg_dX7_copies, List.forall_mem_cons.mpr ⟨sg_dX7_keeps, List.forall_mem_cons.mpr ⟨sg_dX7_pieceAt, List.forall_mem_cons.mpr ⟨sg_dX7_sideAt, List.forall_mem_cons.mpr ⟨sg_dX7_kindAt, List.forall_mem_cons.mpr ⟨sg_dX7_ofLock, List.forall_mem_cons.mpr ⟨sg_dX7_lockAt, List.forall_mem_cons.mpr ⟨sg_dX7_isClosed, List.forall_mem_cons.mpr ⟨sg_dX7_countOf, List.forall_mem_cons.mpr ⟨sg_dX7_pieces, List.forall_mem_cons.mpr ⟨sg_dX7_cannotBuild, fun _ h => by cases h⟩⟩⟩⟩⟩⟩⟩⟩⟩⟩⟩⟩⟩⟩⟩⟩⟩⟩⟩⟩
theorem sg_q6 : ∀ q ∈ ([(cX7_put, ag_mX7_put), (cX7_lock, ag_mX7_lock), (cX7_begin, ag_mX7_begin), (cX7_beside, ag_mX7_beside), (cX7_lineFrom, ag_mX7_lineFrom), (cX7_endOf, ag_mX7_endOf), (cX7_goes, ag_mX7_goes), (cX7_against, ag_mX7_against), (cX7_againstDetail, ag_mX7_againstDetail), (cX7_shifts, ag_mX7_shifts), (cX7_pushes, ag_mX7_pushes), (cX7_locksTurn, ag_mX7_locksTurn), (cX7_carries, ag_mX7_carries), (cX7_tides, ag_mX7_tides), (cX7_boardPart, ag_mX7_boardPart), (cX7_restPart, ag_mX7_restPart), (cX7_position, ag_mX7_position), (cX7_looks, ag_mX7_looks), (cX7_makes, ag_mX7_makes), (cX7_move, ag_mX7_move)] : List (ByteArray × ag_M)), sg_decs q := List.forall_mem_cons.mpr ⟨sg_dX7_put, List.forall_mem_cons.mpr ⟨sg_dX7_lock, List.forall_mem_cons.mpr ⟨sg_dX7_begin, List.forall_mem_cons.mpr ⟨sg_dX7_beside, List.forall_mem_cons.mpr ⟨sg_dX7_lineFrom, List.forall_mem_cons.mpr ⟨sg_dX7_endOf, List.forall_mem_cons.mpr ⟨sg_dX7_goes, List.forall_mem_cons.mpr ⟨sg_dX7_against, List.forall_mem_cons.mpr ⟨sg_dX7_againstDetail, List.forall_mem_cons.mpr ⟨sg_dX7_shifts, List.forall_mem_cons.mpr ⟨sg_dX7_pushes, List.forall_mem_cons.mpr ⟨sg_dX7_locksTurn, List.forall_mem_cons.mpr ⟨sg_dX7_carries, List.forall_mem_cons.mpr ⟨sg_dX7_tides, List.forall_mem_cons.mpr ⟨sg_dX7_boardPart, List.forall_mem_cons.mpr ⟨sg_dX7_restPart, List.forall_mem_cons.mpr ⟨sg_dX7_position, List.forall_mem_cons.mpr ⟨sg_dX7_looks, List.forall_mem_cons.mpr ⟨sg_dX7_makes, List.forall_mem_cons.mpr ⟨sg_dX7_move, fun _ h => by cases h⟩⟩⟩⟩⟩⟩⟩⟩⟩⟩⟩⟩⟩⟩⟩⟩⟩⟩⟩⟩
theorem sg_q7 : ∀ q ∈ ([(cX7_squareOf, ag_mX7_squareOf), (cX7_lockOf, ag_mX7_lockOf), (cX7_sideOf, ag_mX7_sideOf), (cX7_goesOn, ag_mX7_goesOn), (cX7_isMove, ag_mX7_isMove), (cX7_moves, ag_mX7_moves), (cX7_movesAgain, ag_mX7_movesAgain), (cX7_moveAt, ag_mX7_moveAt), (cX7_repeats, ag_mX7_repeats), (cX7_mostRepeats, ag_mX7_mostRepeats), (cX7_wouldPush, ag_mX7_wouldPush), (cX7_isTake, ag_mX7_isTake), (cX7_firstTake, ag_mX7_firstTake), (cX7_ways, ag_mX7_ways), (cX7_turnsIn, ag_mX7_turnsIn), (cX7_tideIn, ag_mX7_tideIn), (cX7_describe, ag_mX7_describe), (cX7_sign, ag_mX7_sign), (cX7_append, ag_mX7_append), (cX7_here, ag_mX7_here)] : List (ByteArray × ag_M)), sg_decs q := List.forall_mem_cons.mpr ⟨sg_dX7_squareOf, List.forall_mem_cons.mpr ⟨sg_dX7_lockOf, List.forall_mem_cons.mpr ⟨sg_dX7_sideOf, List.forall_mem_cons.mpr ⟨sg_dX7_goesOn, List.forall_mem_cons.mpr ⟨sg_dX7_isMove, List.forall_mem_cons.mpr ⟨sg_dX7_moves, List.forall_mem_cons.mpr ⟨sg_dX7_movesAgain, List.forall_mem_cons.mpr ⟨sg_dX7_moveAt, List.forall_mem_cons.mpr ⟨sg_dX7_repeats, List.forall_mem_cons.mpr ⟨sg_dX7_mostRepeats, List.forall_mem_cons.mpr ⟨sg_dX7_wouldPush, List.forall_mem_cons.mpr ⟨sg_dX7_isTake, List.forall_mem_cons.mpr ⟨sg_dX7_firstTake, List.forall_mem_cons.mpr ⟨sg_dX7_ways, List.forall_mem_cons.mpr ⟨sg_dX7_turnsIn, List.forall_mem_cons.mpr ⟨sg_dX7_tideIn, List.forall_mem_cons.mpr ⟨sg_dX7_describe, List.forall_mem_cons.mpr ⟨sg_dX7_sign, List.forall_mem_cons.mpr ⟨sg_dX7_append, List.forall_mem_cons.mpr ⟨sg_dX7_here, fun _ h => by cases h⟩⟩⟩⟩⟩⟩⟩⟩⟩⟩⟩⟩⟩⟩⟩⟩⟩⟩⟩⟩
theorem sg_q8 : ∀ q ∈ ([(cX7_moveHere, ag_mX7_moveHere), (cX7_isText, ag_mX7_isText), (cX7_read, ag_mX7_read), (cX7_refusal, ag_mX7_refusal), (cX7_closedMany, ag_mX7_closedMany), (cX7_turnedAll, ag_mX7_turnedAll), (cX7_account, ag_mX7_account), (cX7_mean, ag_mX7_mean), (cX7_undo, ag_mX7_undo), (cX7_save, ag_mX7_save), (cX7_restore, ag_mX7_restore)] : List (ByteArray × ag_M)), sg_decs q := List.forall_mem_cons.mpr ⟨sg_dX7_moveHere, List.forall_mem_cons.mpr ⟨sg_dX7_isText, List.forall_mem_cons.mpr ⟨sg_dX7_read, List.forall_mem_cons.mpr ⟨sg_dX7_refusal, List.forall_mem_cons.mpr ⟨sg_dX7_closedMany, List.forall_mem_cons.mpr ⟨sg_dX7_turnedAll, List.forall_mem_cons.mpr ⟨sg_dX7_account, List.forall_mem_cons.mpr ⟨sg_dX7_mean, List.forall_mem_cons.mpr ⟨sg_dX7_undo, List.forall_mem_cons.mpr ⟨sg_dX7_save, List.forall_mem_cons.mpr ⟨sg_dX7_restore, fun _ h => by cases h⟩⟩⟩⟩⟩⟩⟩⟩⟩⟩⟩
set_option maxRecDepth 100000 in
theorem sg_zipd : List.zip sg_c ag_Ms = [(cX0_init, ag_mX0_init), (cX0_copyBoard, ag_mX0_copyBoard), (cX0_pieceAt, ag_mX0_pieceAt), (cX0_setPiece, ag_mX0_setPiece), (cX0_countOf, ag_mX0_countOf), (cX0_tugsOf, ag_mX0_tugsOf), (cX0_hasLock, ag_mX0_hasLock), (cX0_lockAt, ag_mX0_lockAt), (cX0_isClosed, ag_mX0_isClosed), (cX0_buildLock, ag_mX0_buildLock), (cX0_turnLocks, ag_mX0_turnLocks), (cX0_closedLocks, ag_mX0_closedLocks), (cX0_allLockTurns, ag_mX0_allLockTurns), (cX0_standing, ag_mX0_standing), (cX0_causeAgainst, ag_mX0_causeAgainst), (cX0_causeDetail, ag_mX0_causeDetail), (cX0_pushedOff, ag_mX0_pushedOff), (cX0_countMoves, ag_mX0_countMoves), (cX0_movesInLane, ag_mX0_movesInLane), (cX0_promote, ag_mX0_promote)] ++ ([(cX0_shift, ag_mX0_shift), (cX0_carryRiver, ag_mX0_carryRiver), (cX0_drift, ag_mX0_drift), (cX0_signOf, ag_mX0_signOf), (cX0_halfKey, ag_mX0_halfKey), (cX0_closedKey, ag_mX0_closedKey), (cX1_init, ag_mX1_init), (cX1_copyFrom, ag_mX1_copyFrom), (cX1_sideToMove, ag_mX1_sideToMove), (cX1_tide, ag_mX1_tide), (cX1_goesOn, ag_mX1_goesOn), (cX1_openMoves, ag_mX1_openMoves), (cX1_allows, ag_mX1_allows), (cX1_startPlay, ag_mX1_startPlay), (cX1_carryOut, ag_mX1_carryOut), (cX1_carryByTide, ag_mX1_carryByTide), (cX1_recordPosition, ag_mX1_recordPosition), (cX1_settleEnding, ag_mX1_settleEnding), (cX2_init, ag_mX2_init), (cX2_copyHistory, ag_mX2_copyHistory)] ++ ([(cX2_addPosition, ag_mX2_addPosition), (cX2_timesOfLatest, ag_mX2_timesOfLatest), (cX2_timesUpTo, ag_mX2_timesUpTo), (cX2_mostTimes, ag_mX2_mostTimes), (cX2_different, ag_mX2_different), (cX3_init, ag_mX3_init), (cX3_addCharacter, ag_mX3_addCharacter), (cX3_clear, ag_mX3_clear), (cX3_parse, ag_mX3_parse), (cX3_addMove, ag_mX3_addMove), (cX3_directionOf, ag_mX3_directionOf), (cX4_init, ag_mX4_init), (cX4_gameAt, ag_mX4_gameAt), (cX4_keep, ag_mX4_keep), (cX4_bringBack, ag_mX4_bringBack), (cX4_forget, ag_mX4_forget), (cX5_init, ag_mX5_init), (cX5_note, ag_mX5_note), (cX5_noteCause, ag_mX5_noteCause), (cX6_init, ag_mX6_init)] ++ ([(cX6_put, ag_mX6_put), (cX6_lock, ag_mX6_lock), (cX6_begin, ag_mX6_begin), (cX6_move, ag_mX6_move), (cX6_squareOf, ag_mX6_squareOf), (cX6_lockOf, ag_mX6_lockOf), (cX6_sideOf, ag_mX6_sideOf), (cX6_moves, ag_mX6_moves), (cX6_movesAgain, ag_mX6_movesAgain), (cX6_moveAt, ag_mX6_moveAt), (cX6_repeats, ag_mX6_repeats), (cX6_mostRepeats, ag_mX6_mostRepeats), (cX6_wouldPush, ag_mX6_wouldPush), (cX6_firstTake, ag_mX6_firstTake), (cX6_ways, ag_mX6_ways), (cX6_turnsIn, ag_mX6_turnsIn), (cX6_tideIn, ag_mX6_tideIn), (cX6_describe, ag_mX6_describe), (cX6_sign, ag_mX6_sign), (cX6_append, ag_mX6_append)] ++ ([(cX6_read, ag_mX6_read), (cX6_refusal, ag_mX6_refusal), (cX6_account, ag_mX6_account), (cX6_mean, ag_mX6_mean), (cX6_undo, ag_mX6_undo), (cX6_save, ag_mX6_save), (cX6_restore, ag_mX6_restore), (cX6_refuse, ag_mX6_refuse), (cX6_buildingError, ag_mX6_buildingError), (cX6_moveError, ag_mX6_moveError), (cX6_isSquare, ag_mX6_isSquare), (cX6_isSide, ag_mX6_isSide), (cX6_isDirection, ag_mX6_isDirection), (cX6_orNothing, ag_mX6_orNothing), (cX6_otherSide, ag_mX6_otherSide), (cX6_ownerOf, ag_mX6_ownerOf), (cX6_isTug, ag_mX6_isTug), (cX6_goes, ag_mX6_goes), (cX6_strengthOf, ag_mX6_strengthOf), (cX6_lastRowOf, ag_mX6_lastRowOf)] ++ ([(cX6_stepOf, ag_mX6_stepOf), (cX6_roomFrom, ag_mX6_roomFrom), (cX6_ahead, ag_mX6_ahead), (cX6_fromEnd, ag_mX6_fromEnd), (cX6_bitsOf, ag_mX6_bitsOf), (cX7_init, ag_mX7_init), (cX7_refuses, ag_mX7_refuses), (cX7_in, ag_mX7_in), (cX7_isSquare, ag_mX7_isSquare), (cX7_copies, ag_mX7_copies), (cX7_keeps, ag_mX7_keeps), (cX7_pieceAt, ag_mX7_pieceAt), (cX7_sideAt, ag_mX7_sideAt), (cX7_kindAt, ag_mX7_kindAt), (cX7_ofLock, ag_mX7_ofLock), (cX7_lockAt, ag_mX7_lockAt), (cX7_isClosed, ag_mX7_isClosed), (cX7_countOf, ag_mX7_countOf), (cX7_pieces, ag_mX7_pieces), (cX7_cannotBuild, ag_mX7_cannotBuild)] ++ ([(cX7_put, ag_mX7_put), (cX7_lock, ag_mX7_lock), (cX7_begin, ag_mX7_begin), (cX7_beside, ag_mX7_beside), (cX7_lineFrom, ag_mX7_lineFrom), (cX7_endOf, ag_mX7_endOf), (cX7_goes, ag_mX7_goes), (cX7_against, ag_mX7_against), (cX7_againstDetail, ag_mX7_againstDetail), (cX7_shifts, ag_mX7_shifts), (cX7_pushes, ag_mX7_pushes), (cX7_locksTurn, ag_mX7_locksTurn), (cX7_carries, ag_mX7_carries), (cX7_tides, ag_mX7_tides), (cX7_boardPart, ag_mX7_boardPart), (cX7_restPart, ag_mX7_restPart), (cX7_position, ag_mX7_position), (cX7_looks, ag_mX7_looks), (cX7_makes, ag_mX7_makes), (cX7_move, ag_mX7_move)] ++ ([(cX7_squareOf, ag_mX7_squareOf), (cX7_lockOf, ag_mX7_lockOf), (cX7_sideOf, ag_mX7_sideOf), (cX7_goesOn, ag_mX7_goesOn), (cX7_isMove, ag_mX7_isMove), (cX7_moves, ag_mX7_moves), (cX7_movesAgain, ag_mX7_movesAgain), (cX7_moveAt, ag_mX7_moveAt), (cX7_repeats, ag_mX7_repeats), (cX7_mostRepeats, ag_mX7_mostRepeats), (cX7_wouldPush, ag_mX7_wouldPush), (cX7_isTake, ag_mX7_isTake), (cX7_firstTake, ag_mX7_firstTake), (cX7_ways, ag_mX7_ways), (cX7_turnsIn, ag_mX7_turnsIn), (cX7_tideIn, ag_mX7_tideIn), (cX7_describe, ag_mX7_describe), (cX7_sign, ag_mX7_sign), (cX7_append, ag_mX7_append), (cX7_here, ag_mX7_here)] ++ ([(cX7_moveHere, ag_mX7_moveHere), (cX7_isText, ag_mX7_isText), (cX7_read, ag_mX7_read), (cX7_refusal, ag_mX7_refusal), (cX7_closedMany, ag_mX7_closedMany), (cX7_turnedAll, ag_mX7_turnedAll), (cX7_account, ag_mX7_account), (cX7_mean, ag_mX7_mean), (cX7_undo, ag_mX7_undo), (cX7_save, ag_mX7_save), (cX7_restore, ag_mX7_restore)])))))))) := rfl
theorem sg_deca : ∀ q ∈ List.zip sg_c ag_Ms, sg_decs q := by
  rw [sg_zipd]
  exact List.forall_mem_append.mpr ⟨sg_q0, List.forall_mem_append.mpr ⟨sg_q1, List.forall_mem_append.mpr ⟨sg_q2, List.forall_mem_append.mpr ⟨sg_q3, List.forall_mem_append.mpr ⟨sg_q4, List.forall_mem_append.mpr ⟨sg_q5, List.forall_mem_append.mpr ⟨sg_q6, List.forall_mem_append.mpr ⟨sg_q7, sg_q8⟩⟩⟩⟩⟩⟩⟩⟩
theorem sg_lc : sg_c.length = 171 := by decide +kernel
theorem sg_lM : ag_Ms.length = 171 := by decide +kernel
theorem sg_at_dec {b : ByteArray} {l : List (Option (Instr × Nat))} (h : sg_dec b l = true) {pc : Nat} {q : Instr × Nat} (hq : l[pc]? = some (some q)) : decode b pc = .ok q := by
  have h1 := List.all_eq_true.mp h (some q, pc) (List.mem_zipIdx_iff_getElem?.mpr hq)
  exact of_decide_eq_true h1
theorem sg_at_chk {l : List (Option (Instr × Nat))} (h : sg_chks l = true) {pc : Nat} {q : Instr × Nat} (hq : l[pc]? = some (some q)) : sg_chk pc q.1 q.2 = true :=
  List.all_eq_true.mp h (some q, pc) (List.mem_zipIdx_iff_getElem?.mpr hq)
theorem sg_mo {y : Nat} {M : ag_M} (h : ag_Ms[y]? = some M) : sg_Mo y = M ∧ y < 171 ∧ sg_dec (sg_co y) M.2.2.2.2 = true ∧ sg_chks M.2.2.2.2 = true := by
  have hy : y < 171 := by
    have := (List.getElem?_eq_some_iff.mp h).1
    rw [sg_lM] at this
    exact this
  have h1 : sg_Mo y = M := by
    unfold sg_Mo
    rw [List.getD_eq_getElem?_getD, h]
    rfl
  have hc : sg_c[y]? = some (sg_co y) := by
    have h2 : y < sg_c.length := by rw [sg_lc]; exact hy
    unfold sg_co
    rw [List.getD_eq_getElem?_getD, List.getElem?_eq_getElem h2]
    rfl
  refine ⟨h1, hy, ?_, List.all_eq_true.mp sg_ck M (List.mem_of_getElem? h)⟩
  have h3 : (List.zip sg_c ag_Ms)[y]? = some (sg_co y, M) := by
    rw [List.getElem?_zip_eq_some]
    exact ⟨hc, h⟩
  exact sg_deca _ (List.mem_of_getElem? h3)
theorem sg_offs (d a : Int) : ∀ ps : List (Int × Int), Op.lookupswitch.offset ps d a = d ∨ ∃ q ∈ ps, Op.lookupswitch.offset ps d a = q.2 := by
  intro ps
  induction ps with
  | nil => exact Or.inl rfl
  | cons q ps ih =>
    by_cases hq : q.1 = a
    · refine Or.inr ⟨q, List.mem_cons_self, ?_⟩
      simp [Op.lookupswitch.offset, hq]
    · rcases ih with h | ⟨r, hr, h⟩
      · refine Or.inl ?_
        simp [Op.lookupswitch.offset, hq] at h ⊢
        exact h
      · refine Or.inr ⟨r, List.mem_cons_of_mem _ hr, ?_⟩
        simp [Op.lookupswitch.offset, hq] at h ⊢
        exact h
theorem sg_tgt {pc : Nat} {off : Int} (h : 0 ≤ (pc : Int) + off) : (pc : Int) + off = ((ag_tgt pc off : Nat) : Int) := by
  unfold ag_tgt
  omega
end
section
/-! a step of the abstract machine is a step of the walk -/
theorem ag_ck_inv {α : Type} {P : Prop} [Decidable P] {k : Option α} {x : α} (h : ag_ck P k = some x) : P ∧ k = some x := by
  unfold ag_ck at h
  split at h
  · exact ⟨by assumption, h⟩
  · cases h
theorem ag_i1_inv {α : Type} {st : List av} {k : Int → List av → Option α} {x : α} (h : ag_i1 st k = some x) : ∃ a r, st = vI a :: r ∧ k a r = some x := by
  unfold ag_i1 at h
  split at h
  · exact ⟨_, _, rfl, h⟩
  · cases h
theorem ag_i2_inv {α : Type} {st : List av} {k : Int → Int → List av → Option α} {x : α} (h : ag_i2 st k = some x) : ∃ a b r, st = vI b :: vI a :: r ∧ k a b r = some x := by
  unfold ag_i2 at h
  split at h
  · exact ⟨_, _, _, rfl, h⟩
  · cases h
theorem ag_j1_inv {α : Type} {st : List av} {k : Int → List av → Option α} {x : α} (h : ag_j1 st k = some x) : ∃ a r, st = vJ a :: r ∧ k a r = some x := by
  unfold ag_j1 at h
  split at h
  · exact ⟨_, _, rfl, h⟩
  · cases h
theorem ag_j2_inv {α : Type} {st : List av} {k : Int → Int → List av → Option α} {x : α} (h : ag_j2 st k = some x) : ∃ a b r, st = vJ b :: vJ a :: r ∧ k a b r = some x := by
  unfold ag_j2 at h
  split at h
  · exact ⟨_, _, _, rfl, h⟩
  · cases h
theorem ag_f1_inv {α : Type} {st : List av} {k : UInt32 → List av → Option α} {x : α} (h : ag_f1 st k = some x) : ∃ a r, st = vF a :: r ∧ k a r = some x := by
  unfold ag_f1 at h
  split at h
  · exact ⟨_, _, rfl, h⟩
  · cases h
theorem ag_f2_inv {α : Type} {st : List av} {k : UInt32 → UInt32 → List av → Option α} {x : α} (h : ag_f2 st k = some x) : ∃ a b r, st = vF b :: vF a :: r ∧ k a b r = some x := by
  unfold ag_f2 at h
  split at h
  · exact ⟨_, _, _, rfl, h⟩
  · cases h
theorem ag_r1_inv {α : Type} {st : List av} {k : Option Nat → List av → Option α} {x : α} (h : ag_r1 st k = some x) : ∃ a r, st = vR a :: r ∧ k a r = some x := by
  unfold ag_r1 at h
  split at h
  · exact ⟨_, _, rfl, h⟩
  · cases h
theorem ag_a1_inv {α : Type} {st : List av} {k : Nat → List av → Option α} {x : α} (h : ag_a1 st k = some x) : ∃ a r, st = vA a :: r ∧ k a r = some x := by
  unfold ag_a1 at h
  split at h
  · exact ⟨_, _, rfl, h⟩
  · cases h
theorem ag_li_inv {α : Type} {ls : List (Option av)} {i : Nat} {k : Int → Option α} {x : α} (h : ag_li ls i k = some x) : ∃ z, ls[i]? = some (some (vI z)) ∧ k z = some x := by
  unfold ag_li at h
  split at h
  · exact ⟨_, by assumption, h⟩
  · cases h
theorem ag_lj_inv {α : Type} {ls : List (Option av)} {i : Nat} {k : Int → Option α} {x : α} (h : ag_lj ls i k = some x) : ∃ z, ls[i]? = some (some (vJ z)) ∧ k z = some x := by
  unfold ag_lj at h
  split at h
  · exact ⟨_, by assumption, h⟩
  · cases h
theorem ag_lf_inv {α : Type} {ls : List (Option av)} {i : Nat} {k : UInt32 → Option α} {x : α} (h : ag_lf ls i k = some x) : ∃ z, ls[i]? = some (some (vF z)) ∧ k z = some x := by
  unfold ag_lf at h
  split at h
  · exact ⟨_, by assumption, h⟩
  · cases h
theorem ag_la_inv {α : Type} {ls : List (Option av)} {i : Nat} {k : av → Option α} {x : α} (h : ag_la ls i k = some x) : ∃ z : Option Nat ⊕ Nat, ls[i]? = some (some (.inr (.inr (.inr z)))) ∧ k (.inr (.inr (.inr z))) = some x := by
  unfold ag_la at h
  split at h
  · exact ⟨_, by assumption, h⟩
  · cases h
theorem ag_at_inv {α : Type} {h : ag_H} {a t : Nat} {k : Nat → List (Option Nat) → Option α} {x : α} (hh : ag_at h a t k = some x) : ∃ n rs, h.1[a]? = some (t, n, rs) ∧ k n rs = some x := by
  unfold ag_at at hh
  split at hh
  · split at hh
    · rename_i t' n rs hq he
      subst he
      exact ⟨_, _, hq, hh⟩
    · cases hh
  · cases hh
theorem ag_lib14_inv {st r : List av} (h : ag_lib 14 st = some r) : ∃ i j r0, st = vI i :: vX j :: r0 ∧ (0 ≤ i ∧ i < 4 ∧ (j = 1 ∨ j = 2)) ∧ r = vI (ag_str j i.toNat) :: r0 := by
  unfold ag_lib at h
  rw [if_neg (by decide), if_neg (by decide), if_neg (by decide), if_neg (by decide), if_pos rfl] at h
  split at h
  · obtain ⟨h1, h2⟩ := ag_ck_inv h
    cases h2
    exact ⟨_, _, _, rfl, h1, rfl⟩
  · cases h
theorem sg_nft {t k : Nat} (h : k < ag_nf t) : t < 8 := by
  rcases Nat.lt_or_ge t 8 with q | q
  · exact q
  · have h2 : ag_nf t = 0 := by
      unfold ag_nf
      rw [List.getD_eq_getElem?_getD, List.getElem?_eq_none (by exact q)]
      rfl
    omega
section SGP
variable {p : Program} {l : Launch} {e : Env} {R : Room} {s : State} {m : MethodId} {args : Array Value} {below : List Frame} {meth : Method} {c : Code} {Q : State → Prop} {cc : ByteArray} {nL bs n0 s0 ci : Nat} {dA : Nat → ClassId} {ax adV : Nat → Nat} {D : va_G} {E : Nat × (Int → Int)}
set_option maxHeartbeats 4000000 in
theorem sg_step (hx : p.tables.exec = Jvm.exec) (hb : c.code = cc) (hml : c.maxLocals = nL) (hts : ∀ w ∈ sg_tb, w.before args s = true) (hown : s.vm.findClass (sg_R ci) = some m.cls) (hK : va_K D vwCl (sg_tys dA) s) (hX : sg_X E bs ax adV s) {ini : Bool} {rt d : Nat} {call : Nat → List av → ag_H → Option ag_O} (hini : ini = true → meth.name = "<init>")
    (hcall : ∀ y as h o h', call y as h = some (o, h') → sg_Met D dA bs ax adV E l d y as h o h' ∧ h.1.length ≤ h'.1.length ∧ sg_ss h.1 ≤ sg_ss h'.1) (hR1 : d + 11 ≤ R.frames) (hR2 : 100 * d + 700 ≤ R.locals)
    {i : Instr} {len pc : Nat} {ls : List (Option av)} {st : List av} {h : ag_H} {f' : ag_F} (hd : decode cc pc = .ok (i, len)) (hc : sg_chk pc i len = true) (hs : ag_step ag_TT call E ci rt ini i len pc ls st h = some (.inl f')) (hr1 : f'.2.2.2.1.length ≤ R.cells + n0) (hr2 : sg_ss f'.2.2.2.1 ≤ R.slots + s0)
    (kk : sg_J p l e R s m args below meth c Q nL bs n0 s0 dA ax D f') : sg_J p l e R s m args below meth c Q nL bs n0 s0 dA ax D (pc, ls, st, h) := by
  cases i with
  | iconst z =>
    have hl := eq_of_beq hc
    subst hl
    unfold ag_step at hs
    dsimp only at hs
    cases hs
    exact sg_iconst hx hb hd kk
  | bipush z =>
    unfold sg_chk at hc
    rw [Bool.and_eq_true, decide_eq_true_eq] at hc
    obtain ⟨hl, hz⟩ := hc
    have hl := eq_of_beq hl
    subst hl
    unfold ag_step at hs
    dsimp only at hs
    cases hs
    exact sg_bipush hx hb hz hd kk
  | sipush z =>
    unfold sg_chk at hc
    rw [Bool.and_eq_true, decide_eq_true_eq] at hc
    obtain ⟨hl, hz⟩ := hc
    have hl := eq_of_beq hl
    subst hl
    unfold ag_step at hs
    dsimp only at hs
    cases hs
    exact sg_sipush hx hb hz hd kk
  | lconst z =>
    unfold sg_chk at hc
    rw [Bool.and_eq_true, decide_eq_true_eq] at hc
    obtain ⟨hl, hz⟩ := hc
    have hl := eq_of_beq hl
    subst hl
    unfold ag_step at hs
    dsimp only at hs
    cases hs
    rcases hz with rfl | rfl
    · exact sg_lconst0 hx hb hd kk
    · exact sg_lconst1 hx hb hd kk
  | fconst z =>
    unfold sg_chk at hc
    rw [Bool.and_eq_true, decide_eq_true_eq] at hc
    obtain ⟨hl, hz⟩ := hc
    have hl := eq_of_beq hl
    subst hl
    unfold ag_step at hs
    dsimp only at hs
    cases hs
    rcases hz with rfl | rfl | rfl
    · exact sg_fconst0 hx hb hd kk
    · exact sg_fconst1 hx hb hd kk
    · exact sg_fconst2 hx hb hd kk
  | aconst_null =>
    have hl := eq_of_beq hc
    subst hl
    unfold ag_step at hs
    dsimp only at hs
    cases hs
    exact sg_aconst_null hx hb hd kk
  | iload k =>
    have hl := eq_of_beq hc
    subst hl
    unfold ag_step at hs
    dsimp only at hs
    obtain ⟨z, hi, hs1⟩ := ag_li_inv hs
    cases hs1
    exact sg_iload hx hb hi hd kk
  | iload_n k =>
    have hl := eq_of_beq hc
    subst hl
    unfold ag_step at hs
    dsimp only at hs
    obtain ⟨z, hi, hs1⟩ := ag_li_inv hs
    cases hs1
    exact sg_iload_n hx hb hi hd kk
  | lload_n k =>
    have hl := eq_of_beq hc
    subst hl
    unfold ag_step at hs
    dsimp only at hs
    obtain ⟨z, hi, hs1⟩ := ag_lj_inv hs
    cases hs1
    exact sg_lload_n hx hb hi hd kk
  | fload_n k =>
    have hl := eq_of_beq hc
    subst hl
    unfold ag_step at hs
    dsimp only at hs
    obtain ⟨z, hi, hs1⟩ := ag_lf_inv hs
    cases hs1
    exact sg_fload_n hx hb hi hd kk
  | aload_n k =>
    have hl := eq_of_beq hc
    subst hl
    unfold ag_step at hs
    dsimp only at hs
    obtain ⟨z, hi, hs1⟩ := ag_la_inv hs
    cases hs1
    rcases z with (_ | a) | a
    · exact sg_aload_nN hx hb hi hd kk
    · exact sg_aload_nR hx hb hi hd kk
    · exact sg_aload_nX hx hb hi hd kk
  | istore k =>
    have hl := eq_of_beq hc
    subst hl
    unfold ag_step at hs
    dsimp only at hs
    obtain ⟨z, r, rfl, hs1⟩ := ag_i1_inv hs
    obtain ⟨hi, hs2⟩ := ag_ck_inv hs1
    cases hs2
    exact sg_istore hx hb hi hd kk
  | istore_n k =>
    have hl := eq_of_beq hc
    subst hl
    unfold ag_step at hs
    dsimp only at hs
    obtain ⟨z, r, rfl, hs1⟩ := ag_i1_inv hs
    obtain ⟨hi, hs2⟩ := ag_ck_inv hs1
    cases hs2
    exact sg_istore_n hx hb hi hd kk
  | fstore_n k =>
    have hl := eq_of_beq hc
    subst hl
    unfold ag_step at hs
    dsimp only at hs
    obtain ⟨z, r, rfl, hs1⟩ := ag_f1_inv hs
    obtain ⟨hi, hs2⟩ := ag_ck_inv hs1
    cases hs2
    exact sg_fstore_n hx hb hi hd kk
  | lstore_n k =>
    have hl := eq_of_beq hc
    subst hl
    unfold ag_step at hs
    dsimp only at hs
    obtain ⟨z, r, rfl, hs1⟩ := ag_j1_inv hs
    obtain ⟨hi, hs2⟩ := ag_ck_inv hs1
    cases hs2
    exact sg_lstore_n hx hb hi hd kk
  | astore_n k =>
    have hl := eq_of_beq hc
    subst hl
    unfold ag_step at hs
    dsimp only at hs
    obtain ⟨z, r, rfl, hs1⟩ := ag_r1_inv hs
    obtain ⟨hi, hs2⟩ := ag_ck_inv hs1
    cases hs2
    cases z with
    | none => exact sg_astore_nN hx hb hi hd kk
    | some a => exact sg_astore_nR hx hb hi hd kk
  | iinc k n =>
    have hl := eq_of_beq hc
    subst hl
    unfold ag_step at hs
    dsimp only at hs
    obtain ⟨z, hi, hs1⟩ := ag_li_inv hs
    cases hs1
    exact sg_iinc hx hb hi hd kk
  | dup =>
    have hl := eq_of_beq hc
    subst hl
    unfold ag_step at hs
    dsimp only at hs
    split at hs
    · obtain ⟨hv, hs1⟩ := ag_ck_inv hs
      cases hs1
      exact sg_dup hx hb hv hd kk
    · cases hs
  | dup2 =>
    have hl := eq_of_beq hc
    subst hl
    unfold ag_step at hs
    dsimp only at hs
    split at hs
    · obtain ⟨⟨hv, hw⟩, hs1⟩ := ag_ck_inv hs
      cases hs1
      exact sg_dup2 hx hb hv hw hd kk
    · cases hs
  | pop =>
    have hl := eq_of_beq hc
    subst hl
    unfold ag_step at hs
    dsimp only at hs
    split at hs
    · obtain ⟨hv, hs1⟩ := ag_ck_inv hs
      cases hs1
      exact sg_pop hx hb hv hd kk
    · cases hs
  | iadd =>
    have hl := eq_of_beq hc
    subst hl
    unfold ag_step at hs
    dsimp only at hs
    obtain ⟨a, b, r, rfl, hs1⟩ := ag_i2_inv hs
    cases hs1
    exact sg_iadd hx hb hd kk
  | isub =>
    have hl := eq_of_beq hc
    subst hl
    unfold ag_step at hs
    dsimp only at hs
    obtain ⟨a, b, r, rfl, hs1⟩ := ag_i2_inv hs
    cases hs1
    exact sg_isub hx hb hd kk
  | imul =>
    have hl := eq_of_beq hc
    subst hl
    unfold ag_step at hs
    dsimp only at hs
    obtain ⟨a, b, r, rfl, hs1⟩ := ag_i2_inv hs
    cases hs1
    exact sg_imul hx hb hd kk
  | ladd =>
    have hl := eq_of_beq hc
    subst hl
    unfold ag_step at hs
    dsimp only at hs
    obtain ⟨a, b, r, rfl, hs1⟩ := ag_j2_inv hs
    cases hs1
    exact sg_ladd hx hb hd kk
  | lmul =>
    have hl := eq_of_beq hc
    subst hl
    unfold ag_step at hs
    dsimp only at hs
    obtain ⟨a, b, r, rfl, hs1⟩ := ag_j2_inv hs
    cases hs1
    exact sg_lmul hx hb hd kk
  | idiv =>
    have hl := eq_of_beq hc
    subst hl
    unfold ag_step at hs
    dsimp only at hs
    obtain ⟨a, b, r, rfl, hs1⟩ := ag_i2_inv hs
    obtain ⟨⟨h0, h1, h2, h3⟩, hs2⟩ := ag_ck_inv hs1
    cases hs2
    exact sg_idiv hx hb h0 h1 h2 h3 hd kk
  | irem =>
    have hl := eq_of_beq hc
    subst hl
    unfold ag_step at hs
    dsimp only at hs
    obtain ⟨a, b, r, rfl, hs1⟩ := ag_i2_inv hs
    obtain ⟨⟨h0, h1, h2, h3⟩, hs2⟩ := ag_ck_inv hs1
    cases hs2
    exact sg_irem hx hb h0 h1 h2 h3 hd kk
  | iand =>
    have hl := eq_of_beq hc
    subst hl
    unfold ag_step at hs
    dsimp only at hs
    obtain ⟨a, b, r, rfl, hs1⟩ := ag_i2_inv hs
    obtain ⟨⟨h0, rfl⟩, hs2⟩ := ag_ck_inv hs1
    cases hs2
    exact sg_iand hx hb hd kk
  | ior =>
    have hl := eq_of_beq hc
    subst hl
    unfold ag_step at hs
    dsimp only at hs
    obtain ⟨a, b, r, rfl, hs1⟩ := ag_i2_inv hs
    obtain ⟨⟨h0, h1, h2, h3⟩, hs2⟩ := ag_ck_inv hs1
    cases hs2
    exact sg_ior hx hb h0 h2 hd kk
  | ishl =>
    have hl := eq_of_beq hc
    subst hl
    unfold ag_step at hs
    dsimp only at hs
    obtain ⟨a, b, r, rfl, hs1⟩ := ag_i2_inv hs
    obtain ⟨⟨h0, h1, h2, h3⟩, hs2⟩ := ag_ck_inv hs1
    cases hs2
    exact sg_ishl hx hb h0 h1 h2 hd kk
  | lcmp =>
    have hl := eq_of_beq hc
    subst hl
    unfold ag_step at hs
    dsimp only at hs
    obtain ⟨a, b, r, rfl, hs1⟩ := ag_j2_inv hs
    obtain ⟨⟨h0, h1⟩, hs2⟩ := ag_ck_inv hs1
    cases hs2
    exact sg_xlcmp hx hb h0 h1 hd kk
  | i2l =>
    have hl := eq_of_beq hc
    subst hl
    unfold ag_step at hs
    dsimp only at hs
    obtain ⟨a, r, rfl, hs1⟩ := ag_i1_inv hs
    obtain ⟨h0, hs2⟩ := ag_ck_inv hs1
    cases hs2
    exact sg_xi2l hx hb h0 hd kk
  | i2f =>
    have hl := eq_of_beq hc
    subst hl
    unfold ag_step at hs
    dsimp only at hs
    obtain ⟨a, r, rfl, hs1⟩ := ag_i1_inv hs
    cases hs1
    exact sg_i2f hx hb hd kk
  | f2i =>
    have hl := eq_of_beq hc
    subst hl
    unfold ag_step at hs
    dsimp only at hs
    obtain ⟨a, r, rfl, hs1⟩ := ag_f1_inv hs
    cases hs1
    exact sg_f2i hx hb hd kk
  | fdiv =>
    have hl := eq_of_beq hc
    subst hl
    unfold ag_step at hs
    dsimp only at hs
    obtain ⟨a, b, r, rfl, hs1⟩ := ag_f2_inv hs
    obtain ⟨h0, hs2⟩ := ag_ck_inv hs1
    cases hs2
    exact sg_fdiv hx hb h0 hd kk
  | fmul =>
    have hl := eq_of_beq hc
    subst hl
    unfold ag_step at hs
    dsimp only at hs
    obtain ⟨a, b, r, rfl, hs1⟩ := ag_f2_inv hs
    obtain ⟨h0, hs2⟩ := ag_ck_inv hs1
    cases hs2
    exact sg_fmul hx hb h0 hd kk
  | fsub =>
    have hl := eq_of_beq hc
    subst hl
    unfold ag_step at hs
    dsimp only at hs
    obtain ⟨a, b, r, rfl, hs1⟩ := ag_f2_inv hs
    obtain ⟨h0, hs2⟩ := ag_ck_inv hs1
    cases hs2
    exact sg_fsub hx hb h0 hd kk
  | fcmp op =>
    have hl := eq_of_beq hc
    subst hl
    unfold ag_step at hs
    dsimp only at hs
    obtain ⟨a, b, r, rfl, hs1⟩ := ag_f2_inv hs
    cases hs1
    exact sg_fcmp hx hb hd kk
  | goto off =>
    unfold sg_chk at hc
    rw [Bool.and_eq_true, decide_eq_true_eq] at hc
    obtain ⟨hl, hz⟩ := hc
    have hl := eq_of_beq hl
    subst hl
    have ht := sg_tgt hz
    unfold ag_step at hs
    dsimp only at hs
    cases hs
    exact sg_goto hx hb ht hd kk
  | ifCond cond off =>
    unfold sg_chk at hc
    rw [Bool.and_eq_true, decide_eq_true_eq] at hc
    obtain ⟨hl, hz⟩ := hc
    have hl := eq_of_beq hl
    subst hl
    have ht := sg_tgt hz
    unfold ag_step at hs
    dsimp only at hs
    obtain ⟨a, r, rfl, hs1⟩ := ag_i1_inv hs
    obtain ⟨ha, hs2⟩ := ag_ck_inv hs1
    have k1 : ag_cond cond a 0 = true → sg_J p l e R s m args below meth c Q nL bs n0 s0 dA ax D (ag_tgt pc off, ls, r, h) := by
      intro q
      rw [if_pos q] at hs2
      cases hs2
      exact kk
    have k2 : ¬ ag_cond cond a 0 = true → sg_J p l e R s m args below meth c Q nL bs n0 s0 dA ax D (pc + 3, ls, r, h) := by
      intro q
      rw [if_neg q] at hs2
      cases hs2
      exact kk
    cases cond with
    | eq => exact sg_if_eq hx hb ha hd ht (fun q => k1 (decide_eq_true q)) (fun q => k2 (fun z => q (of_decide_eq_true z)))
    | ne => exact sg_if_ne hx hb ha hd ht (fun q => k1 (decide_eq_true q)) (fun q => k2 (fun z => q (of_decide_eq_true z)))
    | lt => exact sg_if_lt hx hb ha hd ht (fun q => k1 (decide_eq_true q)) (fun q => k2 (fun z => q (of_decide_eq_true z)))
    | ge => exact sg_if_ge hx hb ha hd ht (fun q => k1 (decide_eq_true q)) (fun q => k2 (fun z => q (of_decide_eq_true z)))
    | gt => exact sg_if_gt hx hb ha hd ht (fun q => k1 (decide_eq_true q)) (fun q => k2 (fun z => q (of_decide_eq_true z)))
    | le => exact sg_if_le hx hb ha hd ht (fun q => k1 (decide_eq_true q)) (fun q => k2 (fun z => q (of_decide_eq_true z)))
  | if_icmp cond off =>
    unfold sg_chk at hc
    rw [Bool.and_eq_true, decide_eq_true_eq] at hc
    obtain ⟨hl, hz⟩ := hc
    have hl := eq_of_beq hl
    subst hl
    have ht := sg_tgt hz
    unfold ag_step at hs
    dsimp only at hs
    obtain ⟨a, b, r, rfl, hs1⟩ := ag_i2_inv hs
    obtain ⟨⟨ha, hb2⟩, hs2⟩ := ag_ck_inv hs1
    have k1 : ag_cond cond a b = true → sg_J p l e R s m args below meth c Q nL bs n0 s0 dA ax D (ag_tgt pc off, ls, r, h) := by
      intro q
      rw [if_pos q] at hs2
      cases hs2
      exact kk
    have k2 : ¬ ag_cond cond a b = true → sg_J p l e R s m args below meth c Q nL bs n0 s0 dA ax D (pc + 3, ls, r, h) := by
      intro q
      rw [if_neg q] at hs2
      cases hs2
      exact kk
    cases cond with
    | eq => exact sg_icmp_eq hx hb ha hb2 hd ht (fun q => k1 (decide_eq_true q)) (fun q => k2 (fun z => q (of_decide_eq_true z)))
    | ne => exact sg_icmp_ne hx hb ha hb2 hd ht (fun q => k1 (decide_eq_true q)) (fun q => k2 (fun z => q (of_decide_eq_true z)))
    | lt => exact sg_icmp_lt hx hb ha hb2 hd ht (fun q => k1 (decide_eq_true q)) (fun q => k2 (fun z => q (of_decide_eq_true z)))
    | ge => exact sg_icmp_ge hx hb ha hb2 hd ht (fun q => k1 (decide_eq_true q)) (fun q => k2 (fun z => q (of_decide_eq_true z)))
    | gt => exact sg_icmp_gt hx hb ha hb2 hd ht (fun q => k1 (decide_eq_true q)) (fun q => k2 (fun z => q (of_decide_eq_true z)))
    | le => exact sg_icmp_le hx hb ha hb2 hd ht (fun q => k1 (decide_eq_true q)) (fun q => k2 (fun z => q (of_decide_eq_true z)))
  | ifnull off =>
    unfold sg_chk at hc
    rw [Bool.and_eq_true, decide_eq_true_eq] at hc
    obtain ⟨hl, hz⟩ := hc
    have hl := eq_of_beq hl
    subst hl
    have ht := sg_tgt hz
    unfold ag_step at hs
    dsimp only at hs
    obtain ⟨a, r, rfl, hs1⟩ := ag_r1_inv hs
    cases a with
    | none => cases hs1; exact sg_ifnullN hx hb ht hd kk
    | some a => cases hs1; exact sg_ifnullR hx hb hd kk
  | ifnonnull off =>
    unfold sg_chk at hc
    rw [Bool.and_eq_true, decide_eq_true_eq] at hc
    obtain ⟨hl, hz⟩ := hc
    have hl := eq_of_beq hl
    subst hl
    have ht := sg_tgt hz
    unfold ag_step at hs
    dsimp only at hs
    obtain ⟨a, r, rfl, hs1⟩ := ag_r1_inv hs
    cases a with
    | none => cases hs1; exact sg_ifnonnullN hx hb hd kk
    | some a => cases hs1; exact sg_ifnonnullR hx hb ht hd kk
  | tableswitch df lo hi offs =>
    unfold sg_chk at hc
    rw [Bool.and_eq_true, decide_eq_true_eq] at hc
    obtain ⟨hz, ho⟩ := hc
    unfold ag_step at hs
    dsimp only at hs
    obtain ⟨a, r, rfl, hs1⟩ := ag_i1_inv hs
    obtain ⟨ha, hs2⟩ := ag_ck_inv hs1
    by_cases hq : a < lo ∨ hi < a
    · rw [if_pos hq] at hs2
      cases hs2
      exact sg_tableOut hx hb ha hd hq (sg_tgt hz) kk
    · rw [if_neg hq] at hs2
      split at hs2
      · rename_i off hof
        cases hs2
        have hm : off ∈ offs.toList := by
          rw [← Array.getElem?_toList] at hof
          exact List.mem_of_getElem? hof
        exact sg_tableIn hx hb ha hd (fun z => hq (Or.inl z)) (fun z => hq (Or.inr z)) hof (sg_tgt (of_decide_eq_true (List.all_eq_true.mp ho off hm))) kk
      · cases hs2
  | lookupswitch df ps =>
    unfold sg_chk at hc
    rw [Bool.and_eq_true, Bool.and_eq_true, decide_eq_true_eq] at hc
    obtain ⟨hp, hz, ho⟩ := hc
    unfold ag_step at hs
    dsimp only at hs
    obtain ⟨a, r, rfl, hs1⟩ := ag_i1_inv hs
    obtain ⟨ha, hs2⟩ := ag_ck_inv hs1
    cases hs2
    refine sg_lookup hx hb ha hd hp (sg_tgt ?_) kk
    rcases sg_offs df a ps.toList with q | ⟨q, hq, e1⟩
    · rw [q]; exact hz
    · rw [e1]; exact of_decide_eq_true (List.all_eq_true.mp ho q hq)
  | getfield ix =>
    have hl := eq_of_beq hc
    subst hl
    unfold ag_step at hs
    dsimp only at hs
    obtain ⟨a, r, rfl, hs1⟩ := ag_a1_inv hs
    split at hs1
    · rename_i t k hf
      obtain ⟨n, rs, ha, hs2⟩ := ag_at_inv hs1
      obtain ⟨⟨hk, hn⟩, hs3⟩ := ag_ck_inv hs2
      cases hs3
      exact sg_getf hx hb hts hown hK hf (sg_nft hk) hk hn ha hd kk
    · cases hs1
  | putfield ix =>
    have hl := eq_of_beq hc
    subst hl
    unfold ag_step at hs
    dsimp only at hs
    split at hs
    · rename_i t k hf
      obtain ⟨hk, hs1⟩ := ag_ck_inv hs
      split at hs1
      · rename_i h2
        obtain ⟨v, r, rfl, hs2⟩ := ag_r1_inv hs1
        obtain ⟨a, r, rfl, hs3⟩ := ag_a1_inv hs2
        obtain ⟨n, rs, ha, hs4⟩ := ag_at_inv hs3
        obtain ⟨⟨hi, htc, hrs, hn⟩, hs5⟩ := ag_ck_inv hs4
        cases hs5
        exact sg_putR hx hb hts hown hK (hini hi) hf htc (sg_nft hk) hk h2 hn hrs ha hd kk
      · rename_i h2
        obtain ⟨z, r, rfl, hs2⟩ := ag_i1_inv hs1
        obtain ⟨a, r, rfl, hs3⟩ := ag_a1_inv hs2
        obtain ⟨n, rs, ha, hs4⟩ := ag_at_inv hs3
        obtain ⟨⟨h1, hn⟩, hs5⟩ := ag_ck_inv hs4
        cases hs5
        exact sg_putI hx hb hts hown hK hf (sg_nft hk) hk h2 h1 hn ha hd kk
    · cases hs
  | arraylength =>
    have hl := eq_of_beq hc
    subst hl
    unfold ag_step at hs
    dsimp only at hs
    split at hs
    · split at hs
      · rename_i t n rs ha
        obtain ⟨⟨h8, h9⟩, hs1⟩ := ag_ck_inv hs
        cases hs1
        exact sg_alen hx hb hK ha h8 h9 hd kk
      · cases hs
    · cases hs
      exact sg_slen hx hb hX hd kk
    · cases hs
  | iaload =>
    have hl := eq_of_beq hc
    subst hl
    unfold ag_step at hs
    dsimp only at hs
    split at hs
    · obtain ⟨n, rs, ha, hs1⟩ := ag_at_inv hs
      obtain ⟨⟨h0, h1, hn⟩, hs2⟩ := ag_ck_inv hs1
      cases hs2
      exact sg_iald hx hb hK ha h0 h1 hn hd kk
    · obtain ⟨⟨h0, h1, hn⟩, hs1⟩ := ag_ck_inv hs
      cases hs1
      exact sg_sld hx hb hX h0 h1 hn hd kk
    · cases hs
  | baload =>
    have hl := eq_of_beq hc
    subst hl
    unfold ag_step at hs
    dsimp only at hs
    obtain ⟨i, r, rfl, hs1⟩ := ag_i1_inv hs
    obtain ⟨a, r, rfl, hs2⟩ := ag_a1_inv hs1
    obtain ⟨n, rs, ha, hs3⟩ := ag_at_inv hs2
    obtain ⟨⟨h0, h1, hn⟩, hs4⟩ := ag_ck_inv hs3
    cases hs4
    exact sg_zald hx hb hK ha h0 h1 hn hd kk
  | caload =>
    have hl := eq_of_beq hc
    subst hl
    unfold ag_step at hs
    dsimp only at hs
    obtain ⟨i, r, rfl, hs1⟩ := ag_i1_inv hs
    obtain ⟨a, r, rfl, hs2⟩ := ag_a1_inv hs1
    obtain ⟨n, rs, ha, hs3⟩ := ag_at_inv hs2
    obtain ⟨⟨h0, h1, hn⟩, hs4⟩ := ag_ck_inv hs3
    cases hs4
    exact sg_cald hx hb hK ha h0 h1 hn hd kk
  | laload =>
    have hl := eq_of_beq hc
    subst hl
    unfold ag_step at hs
    dsimp only at hs
    obtain ⟨i, r, rfl, hs1⟩ := ag_i1_inv hs
    obtain ⟨a, r, rfl, hs2⟩ := ag_a1_inv hs1
    obtain ⟨n, rs, ha, hs3⟩ := ag_at_inv hs2
    obtain ⟨⟨h0, h1, hn⟩, hs4⟩ := ag_ck_inv hs3
    cases hs4
    exact sg_lald hx hb hK ha h0 h1 hn hd kk
  | aaload =>
    have hl := eq_of_beq hc
    subst hl
    unfold ag_step at hs
    dsimp only at hs
    obtain ⟨i, r, rfl, hs1⟩ := ag_i1_inv hs
    obtain ⟨a, r, rfl, hs2⟩ := ag_a1_inv hs1
    obtain ⟨n, rs, ha, hs3⟩ := ag_at_inv hs2
    obtain ⟨⟨h0, h1, hn⟩, hs4⟩ := ag_ck_inv hs3
    cases hs4
    exact sg_qald hx hb hK ha h0 h1 hn hd kk
  | iastore =>
    have hl := eq_of_beq hc
    subst hl
    unfold ag_step at hs
    dsimp only at hs
    obtain ⟨z, r, rfl, hs1⟩ := ag_i1_inv hs
    obtain ⟨i, r, rfl, hs2⟩ := ag_i1_inv hs1
    obtain ⟨a, r, rfl, hs3⟩ := ag_a1_inv hs2
    obtain ⟨n, rs, ha, hs4⟩ := ag_at_inv hs3
    obtain ⟨⟨h0, h1, hn⟩, hs5⟩ := ag_ck_inv hs4
    cases hs5
    exact sg_iast hx hb hK ha h0 h1 hn hd kk
  | bastore =>
    have hl := eq_of_beq hc
    subst hl
    unfold ag_step at hs
    dsimp only at hs
    obtain ⟨z, r, rfl, hs1⟩ := ag_i1_inv hs
    obtain ⟨i, r, rfl, hs2⟩ := ag_i1_inv hs1
    obtain ⟨a, r, rfl, hs3⟩ := ag_a1_inv hs2
    obtain ⟨n, rs, ha, hs4⟩ := ag_at_inv hs3
    obtain ⟨⟨h0, h1, hn, hz⟩, hs5⟩ := ag_ck_inv hs4
    cases hs5
    exact sg_zast hx hb hK ha h0 h1 hn hz hd kk
  | castore =>
    have hl := eq_of_beq hc
    subst hl
    unfold ag_step at hs
    dsimp only at hs
    obtain ⟨z, r, rfl, hs1⟩ := ag_i1_inv hs
    obtain ⟨i, r, rfl, hs2⟩ := ag_i1_inv hs1
    obtain ⟨a, r, rfl, hs3⟩ := ag_a1_inv hs2
    obtain ⟨n, rs, ha, hs4⟩ := ag_at_inv hs3
    obtain ⟨⟨h0, h1, hn, hz, hy⟩, hs5⟩ := ag_ck_inv hs4
    cases hs5
    exact sg_cast hx hb hK ha h0 h1 hn hz hy hd kk
  | lastore =>
    have hl := eq_of_beq hc
    subst hl
    unfold ag_step at hs
    dsimp only at hs
    obtain ⟨z, r, rfl, hs1⟩ := ag_j1_inv hs
    obtain ⟨i, r, rfl, hs2⟩ := ag_i1_inv hs1
    obtain ⟨a, r, rfl, hs3⟩ := ag_a1_inv hs2
    obtain ⟨n, rs, ha, hs4⟩ := ag_at_inv hs3
    obtain ⟨⟨h0, h1, hn⟩, hs5⟩ := ag_ck_inv hs4
    cases hs5
    exact sg_last hx hb hK ha h0 h1 hn hd kk
  | aastore =>
    have hl := eq_of_beq hc
    subst hl
    unfold ag_step at hs
    dsimp only at hs
    obtain ⟨v, r, rfl, hs1⟩ := ag_a1_inv hs
    obtain ⟨i, r, rfl, hs2⟩ := ag_i1_inv hs1
    obtain ⟨a, r, rfl, hs3⟩ := ag_a1_inv hs2
    obtain ⟨n, rs, ha, hs4⟩ := ag_at_inv hs3
    obtain ⟨n2, rs2, hv, hs5⟩ := ag_at_inv hs4
    obtain ⟨⟨h0, h1, hn, hrl⟩, hs6⟩ := ag_ck_inv hs5
    cases hs6
    exact sg_qast hx hb hK ha hv h0 h1 hn hrl hd kk
  | new ix =>
    have hl := eq_of_beq hc
    subst hl
    unfold ag_step at hs
    dsimp only at hs
    split at hs
    · rename_i t hf
      obtain ⟨ht, hs1⟩ := ag_ck_inv hs
      cases hs1
      dsimp only at hr1 hr2
      rw [sg_ss_push] at hr2
      rw [List.length_append] at hr1
      exact sg_new hx hb hts hown hK hf ht hr1 hr2 hd kk
    · cases hs
  | newarray ty =>
    have hl := eq_of_beq hc
    subst hl
    unfold ag_step at hs
    dsimp only at hs
    obtain ⟨n, r, rfl, hs1⟩ := ag_i1_inv hs
    obtain ⟨⟨h0, h1, ht⟩, hs2⟩ := ag_ck_inv hs1
    cases hs2
    dsimp only at hr1 hr2
    rw [sg_ss_push] at hr2
    rw [List.length_append] at hr1
    exact sg_newa hx hb hts hK ht h0 h1 hr1 hr2 hd kk
  | anewarray ix =>
    have hl := eq_of_beq hc
    subst hl
    unfold ag_step at hs
    dsimp only at hs
    obtain ⟨n, r, rfl, hs1⟩ := ag_i1_inv hs
    obtain ⟨⟨h0, h1, ht⟩, hs2⟩ := ag_ck_inv hs1
    cases hs2
    dsimp only at hr1 hr2
    rw [sg_ss_push] at hr2
    rw [List.length_append] at hr1
    exact sg_anew hx hb hts hown hK ht h0 h1 hr1 hr2 hd kk
  | ldc ix =>
    have hl := eq_of_beq hc
    subst hl
    unfold ag_step at hs
    dsimp only at hs
    split at hs
    · rename_i v hf
      obtain ⟨hv, hs1⟩ := ag_ck_inv hs
      cases hs1
      exact sg_ldc hx hb hts hown hX hf hv hd kk
    · cases hs
  | ldc_w ix =>
    have hl := eq_of_beq hc
    subst hl
    unfold ag_step at hs
    dsimp only at hs
    split at hs
    · rename_i v hf
      obtain ⟨⟨hv, h7⟩, hs1⟩ := ag_ck_inv hs
      cases hs1
      exact sg_ldcw hx hb hts hown hf hv h7 hd kk
    · cases hs
  | ldc2_w ix =>
    have hl := eq_of_beq hc
    subst hl
    unfold ag_step at hs
    dsimp only at hs
    split at hs
    · rename_i v hf
      obtain ⟨hv, hs1⟩ := ag_ck_inv hs
      cases hs1
      exact sg_ldc2 hx hb hts hown hf hv hd kk
    · cases hs
  | invokevirtual ix =>
    have hl := eq_of_beq hc
    subst hl
    unfold ag_step at hs
    dsimp only at hs
    split at hs
    · rename_i y n t hf
      obtain ⟨⟨hn, hr4, hrc⟩, hs1⟩ := ag_ck_inv hs
      split at hs1
      · rename_i o h' hcl
        cases hs1
        obtain ⟨hM, hm1, hm2⟩ := hcall _ _ _ _ _ hcl
        exact sg_callV hx hb hml hts hown hK hX hf hn hr4 hrc hM hR1 hR2 hm1 hm2 hr1 hr2 hd kk
      · cases hs1
    · rename_i y n t hf
      obtain ⟨hl6, hs1⟩ := ag_ck_inv hs
      split at hs1
      · rename_i r hlib
        cases hs1
        obtain ⟨i, j, r0, rfl, ⟨h0, h1, hj⟩, rfl⟩ := ag_lib14_inv hlib
        exact sg_chJ hx hb hml hts hown hX h0 h1 hj hf (by simp only [List.length_cons] at hl6; omega) (by omega) (by omega) hr1 hr2 hd kk
      · cases hs1
    · cases hs
  | invokespecial ix =>
    have hl := eq_of_beq hc
    subst hl
    unfold ag_step at hs
    dsimp only at hs
    split at hs
    · rename_i y n t hf
      obtain ⟨⟨hn, hr4, hrc⟩, hs1⟩ := ag_ck_inv hs
      split at hs1
      · rename_i o h' hcl
        cases hs1
        obtain ⟨hM, hm1, hm2⟩ := hcall _ _ _ _ _ hcl
        exact sg_callI hx hb hml hts hown hK hX hf hn hr4 hrc hM hR1 hR2 hm1 hm2 hr1 hr2 hd kk
      · cases hs1
    · rename_i y n t hf
      obtain ⟨hl6, hs1⟩ := ag_ck_inv hs
      split at hs1
      · rename_i r hlib
        cases hs1
        change ag_a1 st (fun _ r => some r) = some r at hlib
        obtain ⟨a, r2, rfl, hlib⟩ := ag_a1_inv hlib
        cases hlib
        exact sg_objI hx hb hml hts hown hf (by simp only [List.length_cons] at hl6; omega) (by omega) (by omega) hd kk
      · cases hs1
    · cases hs
  | invokestatic ix =>
    have hl := eq_of_beq hc
    subst hl
    unfold ag_step at hs
    dsimp only at hs
    split at hs
    · rename_i y n t hf
      obtain ⟨⟨hn, hr4⟩, hs1⟩ := ag_ck_inv hs
      split at hs1
      · rename_i o h' hcl
        cases hs1
        obtain ⟨hM, hm1, hm2⟩ := hcall _ _ _ _ _ hcl
        exact sg_callS hx hb hml hts hown hK hX hf hn hr4 hM hR1 hR2 hm1 hm2 hr1 hr2 hd kk
      · cases hs1
    · rename_i k y n t hk1 hf
      obtain ⟨⟨hl6, hk2, hk3⟩, hs1⟩ := ag_ck_inv hs
      split at hs1
      · rename_i r hlib
        cases hs1
        have hk : k = 11 ∨ k = 12 ∨ k = 13 := by omega
        rcases hk with rfl | rfl | rfl
        · change ag_i2 st (fun a b r => ag_ck (ag_in a ∧ ag_in b) (some (vI (if b < a then b else a) :: r))) = some r at hlib
          obtain ⟨a, b, r2, rfl, hlib⟩ := ag_i2_inv hlib
          obtain ⟨⟨ha, hb2⟩, hlib⟩ := ag_ck_inv hlib
          cases hlib
          exact sg_mmin hx hb hml hts hown ha hb2 hf (by simp only [List.length_cons] at hl6; omega) (by omega) (by omega) hr1 hr2 hd kk
        · change ag_i2 st (fun a b r => ag_ck (ag_in a ∧ ag_in b) (some (vI (if a < b then b else a) :: r))) = some r at hlib
          obtain ⟨a, b, r2, rfl, hlib⟩ := ag_i2_inv hlib
          obtain ⟨⟨ha, hb2⟩, hlib⟩ := ag_ck_inv hlib
          cases hlib
          exact sg_mmax hx hb hml hts hown ha hb2 hf (by simp only [List.length_cons] at hl6; omega) (by omega) (by omega) hr1 hr2 hd kk
        · change ag_f1 st (fun a r => ag_ck (Op.cmpValue (FP.fcmp a a) .l = 0) (some (vI a.toInt32.toInt :: r))) = some r at hlib
          obtain ⟨a, r2, rfl, hlib⟩ := ag_f1_inv hlib
          obtain ⟨ha, hlib⟩ := ag_ck_inv hlib
          cases hlib
          exact sg_bitsJ hx hb hml hts hown ha hf (by simp only [List.length_cons] at hl6; omega) (by omega) (by omega) hr1 hr2 hd kk
      · cases hs1
    · cases hs
  | ireturn =>
    have hl := eq_of_beq hc
    subst hl
    unfold ag_step at hs
    dsimp only at hs
    split at hs
    · obtain ⟨-, hs1⟩ := ag_ck_inv hs
      cases hs1
    · cases hs
  | lreturn =>
    have hl := eq_of_beq hc
    subst hl
    unfold ag_step at hs
    dsimp only at hs
    split at hs
    · obtain ⟨-, hs1⟩ := ag_ck_inv hs
      cases hs1
    · cases hs
  | areturn =>
    have hl := eq_of_beq hc
    subst hl
    unfold ag_step at hs
    dsimp only at hs
    split at hs
    · obtain ⟨-, hs1⟩ := ag_ck_inv hs
      cases hs1
    · cases hs
  | return_ =>
    have hl := eq_of_beq hc
    subst hl
    unfold ag_step at hs
    dsimp only at hs
    obtain ⟨-, hs1⟩ := ag_ck_inv hs
    cases hs1
  | _ => cases hc
end SGP
end
section
/-! a step never shrinks the heap -/
theorem sg_mono {T : ag_T} {E : Nat × (Int → Int)} {ci rt : Nat} {ini : Bool} {call : Nat → List av → ag_H → Option ag_O} (hcall : ∀ y as h o h', call y as h = some (o, h') → h.1.length ≤ h'.1.length ∧ sg_ss h.1 ≤ sg_ss h'.1) {i : Instr} {len pc : Nat} {ls : List (Option av)} {st : List av} {h : ag_H} {f' : ag_F} (hs : ag_step T call E ci rt ini i len pc ls st h = some (.inl f')) : h.1.length ≤ f'.2.2.2.1.length ∧ sg_ss h.1 ≤ sg_ss f'.2.2.2.1 := by
  cases i with
  | iconst z =>
    unfold ag_step at hs
    dsimp only at hs
    cases hs
    exact ⟨Nat.le_refl _, Nat.le_refl _⟩
  | bipush z =>
    unfold ag_step at hs
    dsimp only at hs
    cases hs
    exact ⟨Nat.le_refl _, Nat.le_refl _⟩
  | sipush z =>
    unfold ag_step at hs
    dsimp only at hs
    cases hs
    exact ⟨Nat.le_refl _, Nat.le_refl _⟩
  | lconst z =>
    unfold ag_step at hs
    dsimp only at hs
    cases hs
    exact ⟨Nat.le_refl _, Nat.le_refl _⟩
  | fconst z =>
    unfold ag_step at hs
    dsimp only at hs
    cases hs
    exact ⟨Nat.le_refl _, Nat.le_refl _⟩
  | aconst_null =>
    unfold ag_step at hs
    dsimp only at hs
    cases hs
    exact ⟨Nat.le_refl _, Nat.le_refl _⟩
  | iload k =>
    unfold ag_step at hs
    dsimp only at hs
    obtain ⟨z, hi, hs1⟩ := ag_li_inv hs
    cases hs1
    exact ⟨Nat.le_refl _, Nat.le_refl _⟩
  | iload_n k =>
    unfold ag_step at hs
    dsimp only at hs
    obtain ⟨z, hi, hs1⟩ := ag_li_inv hs
    cases hs1
    exact ⟨Nat.le_refl _, Nat.le_refl _⟩
  | lload_n k =>
    unfold ag_step at hs
    dsimp only at hs
    obtain ⟨z, hi, hs1⟩ := ag_lj_inv hs
    cases hs1
    exact ⟨Nat.le_refl _, Nat.le_refl _⟩
  | fload_n k =>
    unfold ag_step at hs
    dsimp only at hs
    obtain ⟨z, hi, hs1⟩ := ag_lf_inv hs
    cases hs1
    exact ⟨Nat.le_refl _, Nat.le_refl _⟩
  | aload_n k =>
    unfold ag_step at hs
    dsimp only at hs
    obtain ⟨z, hi, hs1⟩ := ag_la_inv hs
    cases hs1
    exact ⟨Nat.le_refl _, Nat.le_refl _⟩
  | istore k =>
    unfold ag_step at hs
    dsimp only at hs
    obtain ⟨z, r, rfl, hs1⟩ := ag_i1_inv hs
    obtain ⟨hi, hs2⟩ := ag_ck_inv hs1
    cases hs2
    exact ⟨Nat.le_refl _, Nat.le_refl _⟩
  | istore_n k =>
    unfold ag_step at hs
    dsimp only at hs
    obtain ⟨z, r, rfl, hs1⟩ := ag_i1_inv hs
    obtain ⟨hi, hs2⟩ := ag_ck_inv hs1
    cases hs2
    exact ⟨Nat.le_refl _, Nat.le_refl _⟩
  | fstore_n k =>
    unfold ag_step at hs
    dsimp only at hs
    obtain ⟨z, r, rfl, hs1⟩ := ag_f1_inv hs
    obtain ⟨hi, hs2⟩ := ag_ck_inv hs1
    cases hs2
    exact ⟨Nat.le_refl _, Nat.le_refl _⟩
  | lstore_n k =>
    unfold ag_step at hs
    dsimp only at hs
    obtain ⟨z, r, rfl, hs1⟩ := ag_j1_inv hs
    obtain ⟨hi, hs2⟩ := ag_ck_inv hs1
    cases hs2
    exact ⟨Nat.le_refl _, Nat.le_refl _⟩
  | astore_n k =>
    unfold ag_step at hs
    dsimp only at hs
    obtain ⟨z, r, rfl, hs1⟩ := ag_r1_inv hs
    obtain ⟨hi, hs2⟩ := ag_ck_inv hs1
    cases hs2
    exact ⟨Nat.le_refl _, Nat.le_refl _⟩
  | iinc k n =>
    unfold ag_step at hs
    dsimp only at hs
    obtain ⟨z, hi, hs1⟩ := ag_li_inv hs
    cases hs1
    exact ⟨Nat.le_refl _, Nat.le_refl _⟩
  | dup =>
    unfold ag_step at hs
    dsimp only at hs
    split at hs
    · obtain ⟨hv, hs1⟩ := ag_ck_inv hs
      cases hs1
      exact ⟨Nat.le_refl _, Nat.le_refl _⟩
    · cases hs
  | dup2 =>
    unfold ag_step at hs
    dsimp only at hs
    split at hs
    · obtain ⟨⟨hv, hw⟩, hs1⟩ := ag_ck_inv hs
      cases hs1
      exact ⟨Nat.le_refl _, Nat.le_refl _⟩
    · cases hs
  | pop =>
    unfold ag_step at hs
    dsimp only at hs
    split at hs
    · obtain ⟨hv, hs1⟩ := ag_ck_inv hs
      cases hs1
      exact ⟨Nat.le_refl _, Nat.le_refl _⟩
    · cases hs
  | iadd =>
    unfold ag_step at hs
    dsimp only at hs
    obtain ⟨a, b, r, rfl, hs1⟩ := ag_i2_inv hs
    cases hs1
    exact ⟨Nat.le_refl _, Nat.le_refl _⟩
  | isub =>
    unfold ag_step at hs
    dsimp only at hs
    obtain ⟨a, b, r, rfl, hs1⟩ := ag_i2_inv hs
    cases hs1
    exact ⟨Nat.le_refl _, Nat.le_refl _⟩
  | imul =>
    unfold ag_step at hs
    dsimp only at hs
    obtain ⟨a, b, r, rfl, hs1⟩ := ag_i2_inv hs
    cases hs1
    exact ⟨Nat.le_refl _, Nat.le_refl _⟩
  | ladd =>
    unfold ag_step at hs
    dsimp only at hs
    obtain ⟨a, b, r, rfl, hs1⟩ := ag_j2_inv hs
    cases hs1
    exact ⟨Nat.le_refl _, Nat.le_refl _⟩
  | lmul =>
    unfold ag_step at hs
    dsimp only at hs
    obtain ⟨a, b, r, rfl, hs1⟩ := ag_j2_inv hs
    cases hs1
    exact ⟨Nat.le_refl _, Nat.le_refl _⟩
  | idiv =>
    unfold ag_step at hs
    dsimp only at hs
    obtain ⟨a, b, r, rfl, hs1⟩ := ag_i2_inv hs
    obtain ⟨⟨h0, h1, h2, h3⟩, hs2⟩ := ag_ck_inv hs1
    cases hs2
    exact ⟨Nat.le_refl _, Nat.le_refl _⟩
  | irem =>
    unfold ag_step at hs
    dsimp only at hs
    obtain ⟨a, b, r, rfl, hs1⟩ := ag_i2_inv hs
    obtain ⟨⟨h0, h1, h2, h3⟩, hs2⟩ := ag_ck_inv hs1
    cases hs2
    exact ⟨Nat.le_refl _, Nat.le_refl _⟩
  | iand =>
    unfold ag_step at hs
    dsimp only at hs
    obtain ⟨a, b, r, rfl, hs1⟩ := ag_i2_inv hs
    obtain ⟨⟨h0, rfl⟩, hs2⟩ := ag_ck_inv hs1
    cases hs2
    exact ⟨Nat.le_refl _, Nat.le_refl _⟩
  | ior =>
    unfold ag_step at hs
    dsimp only at hs
    obtain ⟨a, b, r, rfl, hs1⟩ := ag_i2_inv hs
    obtain ⟨⟨h0, h1, h2, h3⟩, hs2⟩ := ag_ck_inv hs1
    cases hs2
    exact ⟨Nat.le_refl _, Nat.le_refl _⟩
  | ishl =>
    unfold ag_step at hs
    dsimp only at hs
    obtain ⟨a, b, r, rfl, hs1⟩ := ag_i2_inv hs
    obtain ⟨⟨h0, h1, h2, h3⟩, hs2⟩ := ag_ck_inv hs1
    cases hs2
    exact ⟨Nat.le_refl _, Nat.le_refl _⟩
  | lcmp =>
    unfold ag_step at hs
    dsimp only at hs
    obtain ⟨a, b, r, rfl, hs1⟩ := ag_j2_inv hs
    obtain ⟨⟨h0, h1⟩, hs2⟩ := ag_ck_inv hs1
    cases hs2
    exact ⟨Nat.le_refl _, Nat.le_refl _⟩
  | i2l =>
    unfold ag_step at hs
    dsimp only at hs
    obtain ⟨a, r, rfl, hs1⟩ := ag_i1_inv hs
    obtain ⟨h0, hs2⟩ := ag_ck_inv hs1
    cases hs2
    exact ⟨Nat.le_refl _, Nat.le_refl _⟩
  | i2f =>
    unfold ag_step at hs
    dsimp only at hs
    obtain ⟨a, r, rfl, hs1⟩ := ag_i1_inv hs
    cases hs1
    exact ⟨Nat.le_refl _, Nat.le_refl _⟩
  | f2i =>
    unfold ag_step at hs
    dsimp only at hs
    obtain ⟨a, r, rfl, hs1⟩ := ag_f1_inv hs
    cases hs1
    exact ⟨Nat.le_refl _, Nat.le_refl _⟩
  | fdiv =>
    unfold ag_step at hs
    dsimp only at hs
    obtain ⟨a, b, r, rfl, hs1⟩ := ag_f2_inv hs
    obtain ⟨h0, hs2⟩ := ag_ck_inv hs1
    cases hs2
    exact ⟨Nat.le_refl _, Nat.le_refl _⟩
  | fmul =>
    unfold ag_step at hs
    dsimp only at hs
    obtain ⟨a, b, r, rfl, hs1⟩ := ag_f2_inv hs
    obtain ⟨h0, hs2⟩ := ag_ck_inv hs1
    cases hs2
    exact ⟨Nat.le_refl _, Nat.le_refl _⟩
  | fsub =>
    unfold ag_step at hs
    dsimp only at hs
    obtain ⟨a, b, r, rfl, hs1⟩ := ag_f2_inv hs
    obtain ⟨h0, hs2⟩ := ag_ck_inv hs1
    cases hs2
    exact ⟨Nat.le_refl _, Nat.le_refl _⟩
  | fcmp op =>
    unfold ag_step at hs
    dsimp only at hs
    obtain ⟨a, b, r, rfl, hs1⟩ := ag_f2_inv hs
    cases hs1
    exact ⟨Nat.le_refl _, Nat.le_refl _⟩
  | goto off =>
    unfold ag_step at hs
    dsimp only at hs
    cases hs
    exact ⟨Nat.le_refl _, Nat.le_refl _⟩
  | ifCond cond off =>
    unfold ag_step at hs
    dsimp only at hs
    obtain ⟨a, r, rfl, hs1⟩ := ag_i1_inv hs
    obtain ⟨ha, hs2⟩ := ag_ck_inv hs1
    split at hs2
    · cases hs2
      exact ⟨Nat.le_refl _, Nat.le_refl _⟩
    · cases hs2
      exact ⟨Nat.le_refl _, Nat.le_refl _⟩
  | if_icmp cond off =>
    unfold ag_step at hs
    dsimp only at hs
    obtain ⟨a, b, r, rfl, hs1⟩ := ag_i2_inv hs
    obtain ⟨ha, hs2⟩ := ag_ck_inv hs1
    split at hs2
    · cases hs2
      exact ⟨Nat.le_refl _, Nat.le_refl _⟩
    · cases hs2
      exact ⟨Nat.le_refl _, Nat.le_refl _⟩
  | ifnull off =>
    unfold ag_step at hs
    dsimp only at hs
    obtain ⟨a, r, rfl, hs1⟩ := ag_r1_inv hs
    cases a with
    | none => cases hs1; exact ⟨Nat.le_refl _, Nat.le_refl _⟩
    | some a => cases hs1; exact ⟨Nat.le_refl _, Nat.le_refl _⟩
  | ifnonnull off =>
    unfold ag_step at hs
    dsimp only at hs
    obtain ⟨a, r, rfl, hs1⟩ := ag_r1_inv hs
    cases a with
    | none => cases hs1; exact ⟨Nat.le_refl _, Nat.le_refl _⟩
    | some a => cases hs1; exact ⟨Nat.le_refl _, Nat.le_refl _⟩
  | tableswitch df lo hi offs =>
    unfold ag_step at hs
    dsimp only at hs
    obtain ⟨a, r, rfl, hs1⟩ := ag_i1_inv hs
    obtain ⟨ha, hs2⟩ := ag_ck_inv hs1
    split at hs2
    · cases hs2
      exact ⟨Nat.le_refl _, Nat.le_refl _⟩
    · split at hs2
      · cases hs2
        exact ⟨Nat.le_refl _, Nat.le_refl _⟩
      · cases hs2
  | lookupswitch df ps =>
    unfold ag_step at hs
    dsimp only at hs
    obtain ⟨a, r, rfl, hs1⟩ := ag_i1_inv hs
    obtain ⟨ha, hs2⟩ := ag_ck_inv hs1
    cases hs2
    exact ⟨Nat.le_refl _, Nat.le_refl _⟩
  | getfield ix =>
    unfold ag_step at hs
    dsimp only at hs
    obtain ⟨a, r, rfl, hs1⟩ := ag_a1_inv hs
    split at hs1
    · rename_i t k hf
      obtain ⟨n, rs, ha, hs2⟩ := ag_at_inv hs1
      obtain ⟨⟨hk, hn⟩, hs3⟩ := ag_ck_inv hs2
      cases hs3
      exact ⟨Nat.le_refl _, Nat.le_refl _⟩
    · cases hs1
  | putfield ix =>
    unfold ag_step at hs
    dsimp only at hs
    split at hs
    · rename_i t k hf
      obtain ⟨hk, hs1⟩ := ag_ck_inv hs
      split at hs1
      · rename_i h2
        obtain ⟨v, r, rfl, hs2⟩ := ag_r1_inv hs1
        obtain ⟨a, r, rfl, hs3⟩ := ag_a1_inv hs2
        obtain ⟨n, rs, ha, hs4⟩ := ag_at_inv hs3
        obtain ⟨⟨hi, htc, hrs, hn⟩, hs5⟩ := ag_ck_inv hs4
        cases hs5
        exact ⟨by simp, by dsimp only; rw [sg_ss_set ha]; exact Nat.le_refl _⟩
      · rename_i h2
        obtain ⟨z, r, rfl, hs2⟩ := ag_i1_inv hs1
        obtain ⟨a, r, rfl, hs3⟩ := ag_a1_inv hs2
        obtain ⟨n, rs, ha, hs4⟩ := ag_at_inv hs3
        obtain ⟨⟨h1, hn⟩, hs5⟩ := ag_ck_inv hs4
        cases hs5
        exact ⟨Nat.le_refl _, Nat.le_refl _⟩
    · cases hs
  | arraylength =>
    unfold ag_step at hs
    dsimp only at hs
    split at hs
    · split at hs
      · rename_i t n rs ha
        obtain ⟨⟨h8, h9⟩, hs1⟩ := ag_ck_inv hs
        cases hs1
        exact ⟨Nat.le_refl _, Nat.le_refl _⟩
      · cases hs
    · cases hs
      exact ⟨Nat.le_refl _, Nat.le_refl _⟩
    · cases hs
  | iaload =>
    unfold ag_step at hs
    dsimp only at hs
    split at hs
    · obtain ⟨n, rs, ha, hs1⟩ := ag_at_inv hs
      obtain ⟨⟨h0, h1, hn⟩, hs2⟩ := ag_ck_inv hs1
      cases hs2
      exact ⟨Nat.le_refl _, Nat.le_refl _⟩
    · obtain ⟨⟨h0, h1, hn⟩, hs1⟩ := ag_ck_inv hs
      cases hs1
      exact ⟨Nat.le_refl _, Nat.le_refl _⟩
    · cases hs
  | baload =>
    unfold ag_step at hs
    dsimp only at hs
    obtain ⟨i, r, rfl, hs1⟩ := ag_i1_inv hs
    obtain ⟨a, r, rfl, hs2⟩ := ag_a1_inv hs1
    obtain ⟨n, rs, ha, hs3⟩ := ag_at_inv hs2
    obtain ⟨⟨h0, h1, hn⟩, hs4⟩ := ag_ck_inv hs3
    cases hs4
    exact ⟨Nat.le_refl _, Nat.le_refl _⟩
  | caload =>
    unfold ag_step at hs
    dsimp only at hs
    obtain ⟨i, r, rfl, hs1⟩ := ag_i1_inv hs
    obtain ⟨a, r, rfl, hs2⟩ := ag_a1_inv hs1
    obtain ⟨n, rs, ha, hs3⟩ := ag_at_inv hs2
    obtain ⟨⟨h0, h1, hn⟩, hs4⟩ := ag_ck_inv hs3
    cases hs4
    exact ⟨Nat.le_refl _, Nat.le_refl _⟩
  | laload =>
    unfold ag_step at hs
    dsimp only at hs
    obtain ⟨i, r, rfl, hs1⟩ := ag_i1_inv hs
    obtain ⟨a, r, rfl, hs2⟩ := ag_a1_inv hs1
    obtain ⟨n, rs, ha, hs3⟩ := ag_at_inv hs2
    obtain ⟨⟨h0, h1, hn⟩, hs4⟩ := ag_ck_inv hs3
    cases hs4
    exact ⟨Nat.le_refl _, Nat.le_refl _⟩
  | aaload =>
    unfold ag_step at hs
    dsimp only at hs
    obtain ⟨i, r, rfl, hs1⟩ := ag_i1_inv hs
    obtain ⟨a, r, rfl, hs2⟩ := ag_a1_inv hs1
    obtain ⟨n, rs, ha, hs3⟩ := ag_at_inv hs2
    obtain ⟨⟨h0, h1, hn⟩, hs4⟩ := ag_ck_inv hs3
    cases hs4
    exact ⟨Nat.le_refl _, Nat.le_refl _⟩
  | iastore =>
    unfold ag_step at hs
    dsimp only at hs
    obtain ⟨z, r, rfl, hs1⟩ := ag_i1_inv hs
    obtain ⟨i, r, rfl, hs2⟩ := ag_i1_inv hs1
    obtain ⟨a, r, rfl, hs3⟩ := ag_a1_inv hs2
    obtain ⟨n, rs, ha, hs4⟩ := ag_at_inv hs3
    obtain ⟨⟨h0, h1, hn⟩, hs5⟩ := ag_ck_inv hs4
    cases hs5
    exact ⟨Nat.le_refl _, Nat.le_refl _⟩
  | bastore =>
    unfold ag_step at hs
    dsimp only at hs
    obtain ⟨z, r, rfl, hs1⟩ := ag_i1_inv hs
    obtain ⟨i, r, rfl, hs2⟩ := ag_i1_inv hs1
    obtain ⟨a, r, rfl, hs3⟩ := ag_a1_inv hs2
    obtain ⟨n, rs, ha, hs4⟩ := ag_at_inv hs3
    obtain ⟨⟨h0, h1, hn, hz⟩, hs5⟩ := ag_ck_inv hs4
    cases hs5
    exact ⟨Nat.le_refl _, Nat.le_refl _⟩
  | castore =>
    unfold ag_step at hs
    dsimp only at hs
    obtain ⟨z, r, rfl, hs1⟩ := ag_i1_inv hs
    obtain ⟨i, r, rfl, hs2⟩ := ag_i1_inv hs1
    obtain ⟨a, r, rfl, hs3⟩ := ag_a1_inv hs2
    obtain ⟨n, rs, ha, hs4⟩ := ag_at_inv hs3
    obtain ⟨⟨h0, h1, hn, hz, hy⟩, hs5⟩ := ag_ck_inv hs4
    cases hs5
    exact ⟨Nat.le_refl _, Nat.le_refl _⟩
  | lastore =>
    unfold ag_step at hs
    dsimp only at hs
    obtain ⟨z, r, rfl, hs1⟩ := ag_j1_inv hs
    obtain ⟨i, r, rfl, hs2⟩ := ag_i1_inv hs1
    obtain ⟨a, r, rfl, hs3⟩ := ag_a1_inv hs2
    obtain ⟨n, rs, ha, hs4⟩ := ag_at_inv hs3
    obtain ⟨⟨h0, h1, hn⟩, hs5⟩ := ag_ck_inv hs4
    cases hs5
    exact ⟨Nat.le_refl _, Nat.le_refl _⟩
  | aastore =>
    unfold ag_step at hs
    dsimp only at hs
    obtain ⟨v, r, rfl, hs1⟩ := ag_a1_inv hs
    obtain ⟨i, r, rfl, hs2⟩ := ag_i1_inv hs1
    obtain ⟨a, r, rfl, hs3⟩ := ag_a1_inv hs2
    obtain ⟨n, rs, ha, hs4⟩ := ag_at_inv hs3
    obtain ⟨n2, rs2, hv, hs5⟩ := ag_at_inv hs4
    obtain ⟨⟨h0, h1, hn, hrl⟩, hs6⟩ := ag_ck_inv hs5
    cases hs6
    exact ⟨by simp, by dsimp only; rw [sg_ss_set ha]; exact Nat.le_refl _⟩
  | new ix =>
    unfold ag_step at hs
    dsimp only at hs
    split at hs
    · rename_i t hf
      obtain ⟨ht, hs1⟩ := ag_ck_inv hs
      cases hs1
      exact ⟨by simp, by dsimp only; rw [sg_ss_push]; omega⟩
    · cases hs
  | newarray ty =>
    unfold ag_step at hs
    dsimp only at hs
    obtain ⟨n, r, rfl, hs1⟩ := ag_i1_inv hs
    obtain ⟨⟨h0, h1, ht⟩, hs2⟩ := ag_ck_inv hs1
    cases hs2
    exact ⟨by simp, by dsimp only; rw [sg_ss_push]; omega⟩
  | anewarray ix =>
    unfold ag_step at hs
    dsimp only at hs
    obtain ⟨n, r, rfl, hs1⟩ := ag_i1_inv hs
    obtain ⟨⟨h0, h1, ht⟩, hs2⟩ := ag_ck_inv hs1
    cases hs2
    exact ⟨by simp, by dsimp only; rw [sg_ss_push]; omega⟩
  | ldc ix =>
    unfold ag_step at hs
    dsimp only at hs
    split at hs
    · rename_i v hf
      obtain ⟨hv, hs1⟩ := ag_ck_inv hs
      cases hs1
      exact ⟨Nat.le_refl _, Nat.le_refl _⟩
    · cases hs
  | ldc_w ix =>
    unfold ag_step at hs
    dsimp only at hs
    split at hs
    · rename_i v hf
      obtain ⟨⟨hv, h7⟩, hs1⟩ := ag_ck_inv hs
      cases hs1
      exact ⟨Nat.le_refl _, Nat.le_refl _⟩
    · cases hs
  | ldc2_w ix =>
    unfold ag_step at hs
    dsimp only at hs
    split at hs
    · rename_i v hf
      obtain ⟨hv, hs1⟩ := ag_ck_inv hs
      cases hs1
      exact ⟨Nat.le_refl _, Nat.le_refl _⟩
    · cases hs
  | invokevirtual ix =>
    unfold ag_step at hs
    dsimp only at hs
    split at hs
    · obtain ⟨-, hs1⟩ := ag_ck_inv hs
      split at hs1
      · rename_i o h9 hcl
        cases hs1
        exact hcall _ _ _ _ _ hcl
      · cases hs1
    · obtain ⟨-, hs1⟩ := ag_ck_inv hs
      split at hs1
      · cases hs1
        exact ⟨Nat.le_refl _, Nat.le_refl _⟩
      · cases hs1
    · cases hs
  | invokespecial ix =>
    unfold ag_step at hs
    dsimp only at hs
    split at hs
    · obtain ⟨-, hs1⟩ := ag_ck_inv hs
      split at hs1
      · rename_i o h9 hcl
        cases hs1
        exact hcall _ _ _ _ _ hcl
      · cases hs1
    · obtain ⟨-, hs1⟩ := ag_ck_inv hs
      split at hs1
      · cases hs1
        exact ⟨Nat.le_refl _, Nat.le_refl _⟩
      · cases hs1
    · cases hs
  | invokestatic ix =>
    unfold ag_step at hs
    dsimp only at hs
    split at hs
    · obtain ⟨-, hs1⟩ := ag_ck_inv hs
      split at hs1
      · rename_i o h9 hcl
        cases hs1
        exact hcall _ _ _ _ _ hcl
      · cases hs1
    · obtain ⟨-, hs1⟩ := ag_ck_inv hs
      split at hs1
      · cases hs1
        exact ⟨Nat.le_refl _, Nat.le_refl _⟩
      · cases hs1
    · cases hs
  | ireturn =>
    unfold ag_step at hs
    dsimp only at hs
    split at hs
    · obtain ⟨-, hs1⟩ := ag_ck_inv hs
      cases hs1
    · cases hs
  | lreturn =>
    unfold ag_step at hs
    dsimp only at hs
    split at hs
    · obtain ⟨-, hs1⟩ := ag_ck_inv hs
      cases hs1
    · cases hs
  | areturn =>
    unfold ag_step at hs
    dsimp only at hs
    split at hs
    · obtain ⟨-, hs1⟩ := ag_ck_inv hs
      cases hs1
    · cases hs
  | return_ =>
    unfold ag_step at hs
    dsimp only at hs
    obtain ⟨-, hs1⟩ := ag_ck_inv hs
    cases hs1
  | aload k =>
    unfold ag_step at hs
    dsimp only at hs
    obtain ⟨z, hi, hs1⟩ := ag_la_inv hs
    cases hs1
    exact ⟨Nat.le_refl _, Nat.le_refl _⟩
  | _ => cases hs
/-- a step that answers is a return, and leaves the heap as it is -/
theorem sg_ansh {T : ag_T} {E : Nat × (Int → Int)} {ci rt : Nat} {ini : Bool} {call : Nat → List av → ag_H → Option ag_O} {i : Instr} {len pc : Nat} {ls : List (Option av)} {st : List av} {h : ag_H} {o : Option av} {h' : ag_H} (hs : ag_step T call E ci rt ini i len pc ls st h = some (.inr (o, h'))) : h' = h ∧ ((i = .return_ ∧ o = none ∧ rt = 0 ∧ st = []) ∨ ∃ v, o = some v ∧ st = [v] ∧ ag_rv rt v = true ∧ ((i = .ireturn ∧ (rt = 1 ∨ rt = 2)) ∨ (i = .lreturn ∧ rt = 3) ∨ (i = .areturn ∧ rt = 4))) := by
  cases i with
  | iconst z =>
    unfold ag_step at hs
    dsimp only at hs
    cases hs
  | bipush z =>
    unfold ag_step at hs
    dsimp only at hs
    cases hs
  | sipush z =>
    unfold ag_step at hs
    dsimp only at hs
    cases hs
  | lconst z =>
    unfold ag_step at hs
    dsimp only at hs
    cases hs
  | fconst z =>
    unfold ag_step at hs
    dsimp only at hs
    cases hs
  | aconst_null =>
    unfold ag_step at hs
    dsimp only at hs
    cases hs
  | iload k =>
    unfold ag_step at hs
    dsimp only at hs
    obtain ⟨z, hi, hs1⟩ := ag_li_inv hs
    cases hs1
  | iload_n k =>
    unfold ag_step at hs
    dsimp only at hs
    obtain ⟨z, hi, hs1⟩ := ag_li_inv hs
    cases hs1
  | lload_n k =>
    unfold ag_step at hs
    dsimp only at hs
    obtain ⟨z, hi, hs1⟩ := ag_lj_inv hs
    cases hs1
  | fload_n k =>
    unfold ag_step at hs
    dsimp only at hs
    obtain ⟨z, hi, hs1⟩ := ag_lf_inv hs
    cases hs1
  | aload_n k =>
    unfold ag_step at hs
    dsimp only at hs
    obtain ⟨z, hi, hs1⟩ := ag_la_inv hs
    cases hs1
  | istore k =>
    unfold ag_step at hs
    dsimp only at hs
    obtain ⟨z, r, rfl, hs1⟩ := ag_i1_inv hs
    obtain ⟨hi, hs2⟩ := ag_ck_inv hs1
    cases hs2
  | istore_n k =>
    unfold ag_step at hs
    dsimp only at hs
    obtain ⟨z, r, rfl, hs1⟩ := ag_i1_inv hs
    obtain ⟨hi, hs2⟩ := ag_ck_inv hs1
    cases hs2
  | fstore_n k =>
    unfold ag_step at hs
    dsimp only at hs
    obtain ⟨z, r, rfl, hs1⟩ := ag_f1_inv hs
    obtain ⟨hi, hs2⟩ := ag_ck_inv hs1
    cases hs2
  | lstore_n k =>
    unfold ag_step at hs
    dsimp only at hs
    obtain ⟨z, r, rfl, hs1⟩ := ag_j1_inv hs
    obtain ⟨hi, hs2⟩ := ag_ck_inv hs1
    cases hs2
  | astore_n k =>
    unfold ag_step at hs
    dsimp only at hs
    obtain ⟨z, r, rfl, hs1⟩ := ag_r1_inv hs
    obtain ⟨hi, hs2⟩ := ag_ck_inv hs1
    cases hs2
  | iinc k n =>
    unfold ag_step at hs
    dsimp only at hs
    obtain ⟨z, hi, hs1⟩ := ag_li_inv hs
    cases hs1
  | dup =>
    unfold ag_step at hs
    dsimp only at hs
    split at hs
    · obtain ⟨hv, hs1⟩ := ag_ck_inv hs
      cases hs1
    · cases hs
  | dup2 =>
    unfold ag_step at hs
    dsimp only at hs
    split at hs
    · obtain ⟨⟨hv, hw⟩, hs1⟩ := ag_ck_inv hs
      cases hs1
    · cases hs
  | pop =>
    unfold ag_step at hs
    dsimp only at hs
    split at hs
    · obtain ⟨hv, hs1⟩ := ag_ck_inv hs
      cases hs1
    · cases hs
  | iadd =>
    unfold ag_step at hs
    dsimp only at hs
    obtain ⟨a, b, r, rfl, hs1⟩ := ag_i2_inv hs
    cases hs1
  | isub =>
    unfold ag_step at hs
    dsimp only at hs
    obtain ⟨a, b, r, rfl, hs1⟩ := ag_i2_inv hs
    cases hs1
  | imul =>
    unfold ag_step at hs
    dsimp only at hs
    obtain ⟨a, b, r, rfl, hs1⟩ := ag_i2_inv hs
    cases hs1
  | ladd =>
    unfold ag_step at hs
    dsimp only at hs
    obtain ⟨a, b, r, rfl, hs1⟩ := ag_j2_inv hs
    cases hs1
  | lmul =>
    unfold ag_step at hs
    dsimp only at hs
    obtain ⟨a, b, r, rfl, hs1⟩ := ag_j2_inv hs
    cases hs1
  | idiv =>
    unfold ag_step at hs
    dsimp only at hs
    obtain ⟨a, b, r, rfl, hs1⟩ := ag_i2_inv hs
    obtain ⟨⟨h0, h1, h2, h3⟩, hs2⟩ := ag_ck_inv hs1
    cases hs2
  | irem =>
    unfold ag_step at hs
    dsimp only at hs
    obtain ⟨a, b, r, rfl, hs1⟩ := ag_i2_inv hs
    obtain ⟨⟨h0, h1, h2, h3⟩, hs2⟩ := ag_ck_inv hs1
    cases hs2
  | iand =>
    unfold ag_step at hs
    dsimp only at hs
    obtain ⟨a, b, r, rfl, hs1⟩ := ag_i2_inv hs
    obtain ⟨⟨h0, rfl⟩, hs2⟩ := ag_ck_inv hs1
    cases hs2
  | ior =>
    unfold ag_step at hs
    dsimp only at hs
    obtain ⟨a, b, r, rfl, hs1⟩ := ag_i2_inv hs
    obtain ⟨⟨h0, h1, h2, h3⟩, hs2⟩ := ag_ck_inv hs1
    cases hs2
  | ishl =>
    unfold ag_step at hs
    dsimp only at hs
    obtain ⟨a, b, r, rfl, hs1⟩ := ag_i2_inv hs
    obtain ⟨⟨h0, h1, h2, h3⟩, hs2⟩ := ag_ck_inv hs1
    cases hs2
  | lcmp =>
    unfold ag_step at hs
    dsimp only at hs
    obtain ⟨a, b, r, rfl, hs1⟩ := ag_j2_inv hs
    obtain ⟨⟨h0, h1⟩, hs2⟩ := ag_ck_inv hs1
    cases hs2
  | i2l =>
    unfold ag_step at hs
    dsimp only at hs
    obtain ⟨a, r, rfl, hs1⟩ := ag_i1_inv hs
    obtain ⟨h0, hs2⟩ := ag_ck_inv hs1
    cases hs2
  | i2f =>
    unfold ag_step at hs
    dsimp only at hs
    obtain ⟨a, r, rfl, hs1⟩ := ag_i1_inv hs
    cases hs1
  | f2i =>
    unfold ag_step at hs
    dsimp only at hs
    obtain ⟨a, r, rfl, hs1⟩ := ag_f1_inv hs
    cases hs1
  | fdiv =>
    unfold ag_step at hs
    dsimp only at hs
    obtain ⟨a, b, r, rfl, hs1⟩ := ag_f2_inv hs
    obtain ⟨h0, hs2⟩ := ag_ck_inv hs1
    cases hs2
  | fmul =>
    unfold ag_step at hs
    dsimp only at hs
    obtain ⟨a, b, r, rfl, hs1⟩ := ag_f2_inv hs
    obtain ⟨h0, hs2⟩ := ag_ck_inv hs1
    cases hs2
  | fsub =>
    unfold ag_step at hs
    dsimp only at hs
    obtain ⟨a, b, r, rfl, hs1⟩ := ag_f2_inv hs
    obtain ⟨h0, hs2⟩ := ag_ck_inv hs1
    cases hs2
  | fcmp op =>
    unfold ag_step at hs
    dsimp only at hs
    obtain ⟨a, b, r, rfl, hs1⟩ := ag_f2_inv hs
    cases hs1
  | goto off =>
    unfold ag_step at hs
    dsimp only at hs
    cases hs
  | ifCond cond off =>
    unfold ag_step at hs
    dsimp only at hs
    obtain ⟨a, r, rfl, hs1⟩ := ag_i1_inv hs
    obtain ⟨ha, hs2⟩ := ag_ck_inv hs1
    split at hs2
    · cases hs2
    · cases hs2
  | if_icmp cond off =>
    unfold ag_step at hs
    dsimp only at hs
    obtain ⟨a, b, r, rfl, hs1⟩ := ag_i2_inv hs
    obtain ⟨ha, hs2⟩ := ag_ck_inv hs1
    split at hs2
    · cases hs2
    · cases hs2
  | ifnull off =>
    unfold ag_step at hs
    dsimp only at hs
    obtain ⟨a, r, rfl, hs1⟩ := ag_r1_inv hs
    cases a with
    | none => cases hs1
    | some a => cases hs1
  | ifnonnull off =>
    unfold ag_step at hs
    dsimp only at hs
    obtain ⟨a, r, rfl, hs1⟩ := ag_r1_inv hs
    cases a with
    | none => cases hs1
    | some a => cases hs1
  | tableswitch df lo hi offs =>
    unfold ag_step at hs
    dsimp only at hs
    obtain ⟨a, r, rfl, hs1⟩ := ag_i1_inv hs
    obtain ⟨ha, hs2⟩ := ag_ck_inv hs1
    split at hs2
    · cases hs2
    · split at hs2
      · cases hs2
      · cases hs2
  | lookupswitch df ps =>
    unfold ag_step at hs
    dsimp only at hs
    obtain ⟨a, r, rfl, hs1⟩ := ag_i1_inv hs
    obtain ⟨ha, hs2⟩ := ag_ck_inv hs1
    cases hs2
  | getfield ix =>
    unfold ag_step at hs
    dsimp only at hs
    obtain ⟨a, r, rfl, hs1⟩ := ag_a1_inv hs
    split at hs1
    · rename_i t k hf
      obtain ⟨n, rs, ha, hs2⟩ := ag_at_inv hs1
      obtain ⟨⟨hk, hn⟩, hs3⟩ := ag_ck_inv hs2
      cases hs3
    · cases hs1
  | putfield ix =>
    unfold ag_step at hs
    dsimp only at hs
    split at hs
    · rename_i t k hf
      obtain ⟨hk, hs1⟩ := ag_ck_inv hs
      split at hs1
      · rename_i h2
        obtain ⟨v, r, rfl, hs2⟩ := ag_r1_inv hs1
        obtain ⟨a, r, rfl, hs3⟩ := ag_a1_inv hs2
        obtain ⟨n, rs, ha, hs4⟩ := ag_at_inv hs3
        obtain ⟨⟨hi, htc, hrs, hn⟩, hs5⟩ := ag_ck_inv hs4
        cases hs5
      · rename_i h2
        obtain ⟨z, r, rfl, hs2⟩ := ag_i1_inv hs1
        obtain ⟨a, r, rfl, hs3⟩ := ag_a1_inv hs2
        obtain ⟨n, rs, ha, hs4⟩ := ag_at_inv hs3
        obtain ⟨⟨h1, hn⟩, hs5⟩ := ag_ck_inv hs4
        cases hs5
    · cases hs
  | arraylength =>
    unfold ag_step at hs
    dsimp only at hs
    split at hs
    · split at hs
      · rename_i t n rs ha
        obtain ⟨⟨h8, h9⟩, hs1⟩ := ag_ck_inv hs
        cases hs1
      · cases hs
    · cases hs
    · cases hs
  | iaload =>
    unfold ag_step at hs
    dsimp only at hs
    split at hs
    · obtain ⟨n, rs, ha, hs1⟩ := ag_at_inv hs
      obtain ⟨⟨h0, h1, hn⟩, hs2⟩ := ag_ck_inv hs1
      cases hs2
    · obtain ⟨⟨h0, h1, hn⟩, hs1⟩ := ag_ck_inv hs
      cases hs1
    · cases hs
  | baload =>
    unfold ag_step at hs
    dsimp only at hs
    obtain ⟨i, r, rfl, hs1⟩ := ag_i1_inv hs
    obtain ⟨a, r, rfl, hs2⟩ := ag_a1_inv hs1
    obtain ⟨n, rs, ha, hs3⟩ := ag_at_inv hs2
    obtain ⟨⟨h0, h1, hn⟩, hs4⟩ := ag_ck_inv hs3
    cases hs4
  | caload =>
    unfold ag_step at hs
    dsimp only at hs
    obtain ⟨i, r, rfl, hs1⟩ := ag_i1_inv hs
    obtain ⟨a, r, rfl, hs2⟩ := ag_a1_inv hs1
    obtain ⟨n, rs, ha, hs3⟩ := ag_at_inv hs2
    obtain ⟨⟨h0, h1, hn⟩, hs4⟩ := ag_ck_inv hs3
    cases hs4
  | laload =>
    unfold ag_step at hs
    dsimp only at hs
    obtain ⟨i, r, rfl, hs1⟩ := ag_i1_inv hs
    obtain ⟨a, r, rfl, hs2⟩ := ag_a1_inv hs1
    obtain ⟨n, rs, ha, hs3⟩ := ag_at_inv hs2
    obtain ⟨⟨h0, h1, hn⟩, hs4⟩ := ag_ck_inv hs3
    cases hs4
  | aaload =>
    unfold ag_step at hs
    dsimp only at hs
    obtain ⟨i, r, rfl, hs1⟩ := ag_i1_inv hs
    obtain ⟨a, r, rfl, hs2⟩ := ag_a1_inv hs1
    obtain ⟨n, rs, ha, hs3⟩ := ag_at_inv hs2
    obtain ⟨⟨h0, h1, hn⟩, hs4⟩ := ag_ck_inv hs3
    cases hs4
  | iastore =>
    unfold ag_step at hs
    dsimp only at hs
    obtain ⟨z, r, rfl, hs1⟩ := ag_i1_inv hs
    obtain ⟨i, r, rfl, hs2⟩ := ag_i1_inv hs1
    obtain ⟨a, r, rfl, hs3⟩ := ag_a1_inv hs2
    obtain ⟨n, rs, ha, hs4⟩ := ag_at_inv hs3
    obtain ⟨⟨h0, h1, hn⟩, hs5⟩ := ag_ck_inv hs4
    cases hs5
  | bastore =>
    unfold ag_step at hs
    dsimp only at hs
    obtain ⟨z, r, rfl, hs1⟩ := ag_i1_inv hs
    obtain ⟨i, r, rfl, hs2⟩ := ag_i1_inv hs1
    obtain ⟨a, r, rfl, hs3⟩ := ag_a1_inv hs2
    obtain ⟨n, rs, ha, hs4⟩ := ag_at_inv hs3
    obtain ⟨⟨h0, h1, hn, hz⟩, hs5⟩ := ag_ck_inv hs4
    cases hs5
  | castore =>
    unfold ag_step at hs
    dsimp only at hs
    obtain ⟨z, r, rfl, hs1⟩ := ag_i1_inv hs
    obtain ⟨i, r, rfl, hs2⟩ := ag_i1_inv hs1
    obtain ⟨a, r, rfl, hs3⟩ := ag_a1_inv hs2
    obtain ⟨n, rs, ha, hs4⟩ := ag_at_inv hs3
    obtain ⟨⟨h0, h1, hn, hz, hy⟩, hs5⟩ := ag_ck_inv hs4
    cases hs5
  | lastore =>
    unfold ag_step at hs
    dsimp only at hs
    obtain ⟨z, r, rfl, hs1⟩ := ag_j1_inv hs
    obtain ⟨i, r, rfl, hs2⟩ := ag_i1_inv hs1
    obtain ⟨a, r, rfl, hs3⟩ := ag_a1_inv hs2
    obtain ⟨n, rs, ha, hs4⟩ := ag_at_inv hs3
    obtain ⟨⟨h0, h1, hn⟩, hs5⟩ := ag_ck_inv hs4
    cases hs5
  | aastore =>
    unfold ag_step at hs
    dsimp only at hs
    obtain ⟨v, r, rfl, hs1⟩ := ag_a1_inv hs
    obtain ⟨i, r, rfl, hs2⟩ := ag_i1_inv hs1
    obtain ⟨a, r, rfl, hs3⟩ := ag_a1_inv hs2
    obtain ⟨n, rs, ha, hs4⟩ := ag_at_inv hs3
    obtain ⟨n2, rs2, hv, hs5⟩ := ag_at_inv hs4
    obtain ⟨⟨h0, h1, hn, hrl⟩, hs6⟩ := ag_ck_inv hs5
    cases hs6
  | new ix =>
    unfold ag_step at hs
    dsimp only at hs
    split at hs
    · rename_i t hf
      obtain ⟨ht, hs1⟩ := ag_ck_inv hs
      cases hs1
    · cases hs
  | newarray ty =>
    unfold ag_step at hs
    dsimp only at hs
    obtain ⟨n, r, rfl, hs1⟩ := ag_i1_inv hs
    obtain ⟨⟨h0, h1, ht⟩, hs2⟩ := ag_ck_inv hs1
    cases hs2
  | anewarray ix =>
    unfold ag_step at hs
    dsimp only at hs
    obtain ⟨n, r, rfl, hs1⟩ := ag_i1_inv hs
    obtain ⟨⟨h0, h1, ht⟩, hs2⟩ := ag_ck_inv hs1
    cases hs2
  | ldc ix =>
    unfold ag_step at hs
    dsimp only at hs
    split at hs
    · rename_i v hf
      obtain ⟨hv, hs1⟩ := ag_ck_inv hs
      cases hs1
    · cases hs
  | ldc_w ix =>
    unfold ag_step at hs
    dsimp only at hs
    split at hs
    · rename_i v hf
      obtain ⟨⟨hv, h7⟩, hs1⟩ := ag_ck_inv hs
      cases hs1
    · cases hs
  | ldc2_w ix =>
    unfold ag_step at hs
    dsimp only at hs
    split at hs
    · rename_i v hf
      obtain ⟨hv, hs1⟩ := ag_ck_inv hs
      cases hs1
    · cases hs
  | invokevirtual ix =>
    unfold ag_step at hs
    dsimp only at hs
    split at hs
    · obtain ⟨-, hs1⟩ := ag_ck_inv hs
      split at hs1
      · rename_i o h9 hcl
        cases hs1
      · cases hs1
    · obtain ⟨-, hs1⟩ := ag_ck_inv hs
      split at hs1
      · cases hs1
      · cases hs1
    · cases hs
  | invokespecial ix =>
    unfold ag_step at hs
    dsimp only at hs
    split at hs
    · obtain ⟨-, hs1⟩ := ag_ck_inv hs
      split at hs1
      · rename_i o h9 hcl
        cases hs1
      · cases hs1
    · obtain ⟨-, hs1⟩ := ag_ck_inv hs
      split at hs1
      · cases hs1
      · cases hs1
    · cases hs
  | invokestatic ix =>
    unfold ag_step at hs
    dsimp only at hs
    split at hs
    · obtain ⟨-, hs1⟩ := ag_ck_inv hs
      split at hs1
      · rename_i o h9 hcl
        cases hs1
      · cases hs1
    · obtain ⟨-, hs1⟩ := ag_ck_inv hs
      split at hs1
      · cases hs1
      · cases hs1
    · cases hs
  | ireturn =>
    unfold ag_step at hs
    dsimp only at hs
    split at hs
    · obtain ⟨⟨h1, h2⟩, hs1⟩ := ag_ck_inv hs
      cases hs1
      exact ⟨rfl, Or.inr ⟨_, rfl, rfl, h1, Or.inl ⟨rfl, h2⟩⟩⟩
    · cases hs
  | lreturn =>
    unfold ag_step at hs
    dsimp only at hs
    split at hs
    · obtain ⟨⟨h1, h2⟩, hs1⟩ := ag_ck_inv hs
      cases hs1
      exact ⟨rfl, Or.inr ⟨_, rfl, rfl, h1, Or.inr (Or.inl ⟨rfl, h2⟩)⟩⟩
    · cases hs
  | areturn =>
    unfold ag_step at hs
    dsimp only at hs
    split at hs
    · obtain ⟨⟨h1, h2⟩, hs1⟩ := ag_ck_inv hs
      cases hs1
      exact ⟨rfl, Or.inr ⟨_, rfl, rfl, h1, Or.inr (Or.inr ⟨rfl, h2⟩)⟩⟩
    · cases hs
  | return_ =>
    unfold ag_step at hs
    dsimp only at hs
    obtain ⟨⟨h1, h2⟩, hs1⟩ := ag_ck_inv hs
    cases hs1
    exact ⟨rfl, Or.inl ⟨rfl, rfl, h1, h2⟩⟩
  | aload k =>
    unfold ag_step at hs
    dsimp only at hs
    obtain ⟨z, hi, hs1⟩ := ag_la_inv hs
    cases hs1
  | _ => cases hs




theorem sg_runm {T : ag_T} {E : Nat × (Int → Int)} {M : ag_M} {call : Nat → List av → ag_H → Option ag_O} (hcall : ∀ y as h o h', call y as h = some (o, h') → h.1.length ≤ h'.1.length ∧ sg_ss h.1 ≤ sg_ss h'.1) : ∀ (n : Nat) (f : ag_F) (o : Option av) (h' : ag_H), ag_run T call E M n f = some (o, h') → f.2.2.2.1.length ≤ h'.1.length ∧ sg_ss f.2.2.2.1 ≤ sg_ss h'.1 := by
  intro n
  induction n with
  | zero => intro f o h' hr; cases hr
  | succ n ih =>
    intro f o h' hr
    obtain ⟨pc, ls, st, h⟩ := f
    unfold ag_run at hr
    split at hr
    · split at hr
      · rename_i f1 hs
        have h1 := sg_mono hcall hs
        have h2 := ih f1 o h' hr
        exact ⟨Nat.le_trans h1.1 h2.1, Nat.le_trans h1.2 h2.2⟩
      · rename_i o1 hs
        cases hr
        have := (sg_ansh hs).1
        subst this
        exact ⟨Nat.le_refl _, Nat.le_refl _⟩
      · cases hr
    · cases hr
theorem sg_callm {T : ag_T} {Ms : List ag_M} {E : Nat × (Int → Int)} {fuel : Nat} : ∀ (d y : Nat) (as : List av) (h : ag_H) (o : Option av) (h' : ag_H), ag_call T Ms E fuel d y as h = some (o, h') → h.1.length ≤ h'.1.length ∧ sg_ss h.1 ≤ sg_ss h'.1 := by
  intro d
  induction d with
  | zero => intro y as h o h' hc; cases hc
  | succ d ih =>
    intro y as h o h' hc
    unfold ag_call at hc
    split at hc
    · obtain ⟨-, hc⟩ := ag_ck_inv hc
      exact sg_runm ih _ _ _ _ hc
    · cases hc
end
section
/-! what the abstract machine answers, the machine answers -/
theorem sg_args_len (bs : Nat) (ax : Nat → Nat) : ∀ as : List av, (lg_sl (as.map (sg_up bs ax))).length = (ag_args as).length := by
  intro as
  induction as with
  | nil => rfl
  | cons v as ih =>
    have hc := sg_cat bs ax v
    rw [List.map_cons]
    unfold lg_sl at ih ⊢
    rw [List.flatMap_cons]
    unfold ag_args
    by_cases hw : ag_wide (some v) = true
    · rw [if_pos hw] at hc ⊢
      rw [if_pos hc]
      simp [ih]
    · rw [if_neg hw] at hc ⊢
      rw [if_neg (by rw [hc]; decide)]
      simp [ih]
theorem sg_args_in (bs : Nat) (ax : Nat → Nat) : ∀ (as : List av) (i j : Nat) (v : av), (ag_args as)[j]? = some (some v) → (i + j, sg_up bs ax v) ∈ lv_args i (as.map (sg_up bs ax)) := by
  intro as
  induction as with
  | nil => intro i j v h; simp [ag_args] at h
  | cons u as ih =>
    intro i j v h
    have hc := sg_cat bs ax u
    rw [List.map_cons]
    unfold lv_args
    unfold ag_args at h
    by_cases hw : ag_wide (some u) = true
    · rw [if_pos hw] at hc h
      rw [if_pos hc]
      cases j with
      | zero =>
        cases h
        exact List.mem_cons_self
      | succ j =>
        cases j with
        | zero => simp at h
        | succ j =>
          have h2 := ih (i + 2) j v (by simpa using h)
          rw [show i + (j + 1 + 1) = i + 2 + j by omega]
          exact List.mem_cons_of_mem _ h2
    · rw [if_neg hw] at hc h
      rw [if_neg (by rw [hc]; decide)]
      cases j with
      | zero =>
        cases h
        exact List.mem_cons_self
      | succ j =>
        have h2 := ih (i + 1) j v (by simpa using h)
        rw [show i + (j + 1) = i + 1 + j by omega]
        exact List.mem_cons_of_mem _ h2
theorem sg_entryL {bs : Nat} {ax : Nat → Nat} {as : List av} {n : Nat} (h : (ag_args as).length ≤ n) : sg_L bs ax n (ag_entry n as) ((lg_sl (as.map (sg_up bs ax)) ++ List.replicate (n - (lg_sl (as.map (sg_up bs ax))).length) Slot.unset).toArray) := by
  have hl := lv_entry (as.map (sg_up bs ax)) (n := n) (by rw [sg_args_len]; exact h)
  refine ⟨⟨hl.1, hl.2.1, fun q hq => ?_⟩, by unfold ag_entry; simp; omega⟩
  obtain ⟨j, w⟩ := q
  obtain ⟨v, hv, rfl⟩ := sg_lv_mem.mp hq
  apply hl.2.2
  have h2 : (ag_args as)[j]? = some (some v) := by
    unfold ag_entry at hv
    rw [List.getElem?_append] at hv
    split at hv
    · exact hv
    · rw [List.getElem?_replicate] at hv
      split at hv <;> cases hv
  have h3 := sg_args_in bs ax as 0 j v h2
  rwa [Nat.zero_add] at h3
theorem sg_initn : ∀ y, y < 171 → (sg_Mo y).2.2.1 = true → (sg_yo y).name = "<init>" := by decide +kernel
section SGS
variable {p : Program} {l : Launch} {e : Env} {R : Room} {s : State} {m : MethodId} {args : Array Value} {below : List Frame} {meth : Method} {c : Code} {cc : ByteArray} {nL bs n0 s0 ci : Nat} {dA : Nat → ClassId} {ax adV : Nat → Nat} {D : va_G} {E : Nat × (Int → Int)}
theorem sg_return (hx : p.tables.exec = Jvm.exec) (hb : c.code = cc) (hbs : bs ≤ s.heap.size) {rt : Nat} (hr : meth.sig.returnType = sg_ret rt) (hlocks : meth.locks = false) {ini : Bool} {call : Nat → List av → ag_H → Option ag_O} {i : Instr} {len pc : Nat} {ls : List (Option av)} {st : List av} {h : ag_H} {o : Option av} {h' : ag_H} (hd : decode cc pc = .ok (i, len)) (hc : sg_chk pc i len = true) (hs : ag_step ag_TT call E ci rt ini i len pc ls st h = some (.inr (o, h'))) : sg_J p l e R s m args below meth c (MQ below (sg_Qc D dA bs ax o h') args s (h'.1.length - n0) (sg_ss h'.1 - s0) (fun q => bs ≤ q)) nL bs n0 s0 dA ax D (pc, ls, st, h) := by
  intro H locs rl cells slots hP hz hS hL hcl hsl
  obtain ⟨rfl, hans⟩ := sg_ansh hs
  dsimp only at hP hz hL hcl hsl
  have e1 : cells = h'.1.length - n0 := by omega
  have e2 : slots = sg_ss h'.1 - s0 := by omega
  subst e1
  subst e2
  have fin : ∀ (v : Option Value) (t : State), v = o.map (sg_up bs ax) → t.heap = H → sg_Qc D dA bs ax o h' args s (.returned v) t := by
    intro v t hv ht
    subst hv
    refine ⟨rfl, by rw [ht]; exact hP, by rw [ht]; exact hz, fun q hq => ?_⟩
    rw [ht]
    exact hS.2.1 q (Nat.lt_of_lt_of_le hq hbs) (Nat.not_le.mpr hq)
  rcases hans with ⟨rfl, rfl, rfl, rfl⟩ | ⟨v, rfl, rfl, hv, hi⟩
  · have hl := eq_of_beq hc
    subst hl
    exact W.vret hx hb hr (fun t ht _ => fin none t rfl ht) hS.2.2 hd hlocks
  · rcases hi with ⟨rfl, hrt⟩ | ⟨rfl, hrt⟩ | ⟨rfl, hrt⟩
    · have hl := eq_of_beq hc
      subst hl
      rcases v with z | z | b | r | k
      · have hv2 := of_decide_eq_true hv
        rcases hrt with rfl | rfl
        · exact W.iret (v := Int32.ofInt z) hx hb hr (fun t ht _ => fin (some (.int (Int32.ofInt z))) t rfl ht) hS.2.2 hd hlocks
        · have hz2 : z = 0 ∨ z = 1 := by
            rcases hv2 with q | ⟨-, q⟩
            · cases q
            · exact q
          have hn : narrow .boolean (.int (Int32.ofInt z)) = .int (Int32.ofInt z) := by
            rcases hz2 with rfl | rfl <;> decide +kernel
          exact W.zret (v := Int32.ofInt z) (ty := .boolean) hx hb hr hn (fun t ht _ => fin (some (.int (Int32.ofInt z))) t rfl ht) hS.2.2 hd hlocks
      · have hv2 := of_decide_eq_true hv
        omega
      · cases hv
      · have hv2 := of_decide_eq_true hv
        omega
      · cases hv
    · have hl := eq_of_beq hc
      subst hl
      subst hrt
      rcases v with z | z | b | r | k
      · simp [ag_rv] at hv
      · exact W.lret (v := Int64.ofInt z) hx hb hr (fun t ht _ => fin (some (.long (Int64.ofInt z))) t rfl ht) hS.2.2 hd hlocks
      · cases hv
      · simp [ag_rv] at hv
      · cases hv
    · have hl := eq_of_beq hc
      subst hl
      subst hrt
      rcases v with z | z | b | r | k
      · simp [ag_rv] at hv
      · simp [ag_rv] at hv
      · cases hv
      · have hw : sg_rf bs r = .null ∨ ∃ a, sg_rf bs r = .ref a := by
          cases r with
          | none => exact Or.inl rfl
          | some a => exact Or.inr ⟨_, rfl⟩
        show W p l e R s m args below meth c H locs _ _ _ (F0 m pc rl [sg_up bs ax (vR r)])
        rw [sg_upR]
        exact W.aret (v := sg_rf bs r) (rt := .object "BargeChess$Game") hx hb hr (Or.inl ⟨_, rfl⟩) hw (fun t ht _ => fin (some (sg_rf bs r)) t (by rw [← sg_upR bs ax]; rfl) ht) hS.2.2 hd hlocks
      · cases hv
theorem sg_run (hx : p.tables.exec = Jvm.exec) (hb : c.code = cc) (hml : c.maxLocals = nL) (hts : ∀ w ∈ sg_tb, w.before args s = true) {M : ag_M} (hown : s.vm.findClass (sg_R M.1) = some m.cls) (hK : va_K D vwCl (sg_tys dA) s) (hX : sg_X E bs ax adV s) {d : Nat} {call : Nat → List av → ag_H → Option ag_O} (hini : M.2.2.1 = true → meth.name = "<init>")
    (hcall : ∀ y as h o h', call y as h = some (o, h') → sg_Met D dA bs ax adV E l d y as h o h' ∧ h.1.length ≤ h'.1.length ∧ sg_ss h.1 ≤ sg_ss h'.1) (hR1 : d + 11 ≤ R.frames) (hR2 : 100 * d + 700 ≤ R.locals) (hr : meth.sig.returnType = sg_ret M.2.1) (hlocks : meth.locks = false) (hdec : sg_dec cc M.2.2.2.2 = true) (hchk : sg_chks M.2.2.2.2 = true) :
    ∀ (n : Nat) (f : ag_F) (o : Option av) (h' : ag_H), ag_run ag_TT call E M n f = some (o, h') → h'.1.length ≤ R.cells + n0 → sg_ss h'.1 ≤ R.slots + s0 → sg_J p l e R s m args below meth c (MQ below (sg_Qc D dA bs ax o h') args s (h'.1.length - n0) (sg_ss h'.1 - s0) (fun q => bs ≤ q)) nL bs n0 s0 dA ax D f := by
  intro n
  induction n with
  | zero => intro f o h' hr; cases hr
  | succ n ih =>
    intro f o h' hrun hr1 hr2
    obtain ⟨pc, ls, st, h⟩ := f
    unfold ag_run at hrun
    split at hrun
    · rename_i i len hq
      have hd : decode cc pc = .ok (i, len) := sg_at_dec hdec hq
      have hck : sg_chk pc i len = true := sg_at_chk hchk hq
      split at hrun
      · rename_i f1 hs
        have hm := sg_runm (fun y as h o h' hc => (hcall y as h o h' hc).2) n f1 o h' hrun
        exact sg_step hx hb hml hts hown hK hX hini hcall hR1 hR2 hd hck hs (Nat.le_trans hm.1 hr1) (Nat.le_trans hm.2 hr2) (ih f1 o h' hrun hr1 hr2)
      · rename_i o1 hs
        cases hrun
        exact sg_return hx hb hX.2.1 hr hlocks hd hck hs
      · cases hrun
    · cases hrun
end SGS
set_option maxRecDepth 100000 in
/-- the abstract machine's calls are the machine's -/
theorem sg_sound (l : Launch) (D : va_G) (dA : Nat → ClassId) (bs : Nat) (ax adV : Nat → Nat) (E : Nat × (Int → Int)) (fuel : Nat) : ∀ (d y : Nat) (as : List av) (h : ag_H) (o : Option av) (h' : ag_H), ag_call ag_TT ag_Ms E fuel d y as h = some (o, h') → sg_Met D dA bs ax adV E l d y as h o h' ∧ h.1.length ≤ h'.1.length ∧ sg_ss h.1 ≤ sg_ss h'.1 := by
  intro d
  induction d with
  | zero => intro y as h o h' hc; cases hc
  | succ d ih =>
    intro y as h o h' hc
    have hmono := sg_callm _ _ _ _ _ _ hc
    refine ⟨?_, hmono⟩
    unfold ag_call at hc
    split at hc
    · rename_i M hM
      obtain ⟨hlen, hrun⟩ := ag_ck_inv hc
      obtain ⟨hMo, hy, hdec, hchk⟩ := sg_mo hM
      have ho := sg_ownf hy
      unfold sg_Met
      refine Met.ofW (cc := sg_co y) (maxL := (sg_Mo y).2.2.2.1) (ret := sg_ret (sg_Mo y).2.1) ho.2.2.2.2.1 rfl ?_
      intro p e s m args below meth c s₁ B hml hv
      obtain ⟨rfl, hIn⟩ := hv
      have hx := B.exec
      have hb := B.bytes
      have hr := B.returns
      have hlocks := B.notSynchronized
      have hown : s.vm.findClass (sg_yo y).cls = some m.cls := findClass_of_methodNamed B.named
      rw [ho.2.2.2.1] at hown
      have hgd : ∀ w ∈ sg_Gd, w.before (as.map (sg_up bs ax)).toArray s = true := fun w hw => atoms_spec (ws := sg_ws y) B.pre w (List.mem_cons_of_mem _ hw)
      have hts : ∀ w ∈ sg_tb, w.before (as.map (sg_up bs ax)).toArray s = true := by
        intro w hw
        cases hg : goodWord w with
        | true => exact hgd w (List.mem_filter.mpr ⟨hw, hg⟩)
        | false => exact sg_nw0 hw hg rfl (hIn.2.2.2.1 w hw hg)
      have hin : (sg_Mo y).2.2.1 = true → meth.name = "<init>" := fun q => by
        rw [← sg_initn y hy q]
        exact (name_of_methodNamed B.named B.method).1
      rw [lg_entry_eq]
      rw [hMo] at hml hr hown hin ⊢
      have hJ := sg_run (p := p) (l := l) (e := e) (R := (headSpec (sg_ws y) (sg_rm (d + 1) (h'.1.length - h.1.length) (sg_ss h'.1 - sg_ss h.1))).room) (s := s) (m := m) (below := below) (n0 := h.1.length) (s0 := sg_ss h.1) hx hb hml hts hown hIn.2.2.1 hIn.2.2.2.2 hin ih (Nat.le_of_eq (by show d + 11 = d + 1 + 10; omega)) (Nat.le_of_eq (by show 100 * d + 700 = 100 * (d + 1) + 600; omega)) hr hlocks hdec hchk fuel _ o h' hrun (by show h'.1.length ≤ h'.1.length - h.1.length + h.1.length; omega) (by show sg_ss h'.1 ≤ sg_ss h'.1 - sg_ss h.1 + sg_ss h.1; omega)
      exact hJ s.heap [] _ 0 0 hIn.1 hIn.2.1 va_S.rf (sg_entryL hlen) (Nat.zero_add _) (Nat.zero_add _)
    · cases hc
end
section
/-! THE CLAIM OUT OF ONE WALK OF THE LAW'S BODY. Your part is whole_start (and what it stands on); all else here is the same for every law, but numbers. -/
def R_law : String := "BargeChessLaw"
def lw_P (b : Addr) (xs : List Int32) (args : Array Value) (s : State) : Prop := args = #[.ref b] ∧ s.IntsAt b xs ∧ xs.length ≤ 2048 ∧ (Jvm.Cond.and given_1 narrow_1).before args s = true
/-- what a walk over the start with the record d0 says of its end, said of the start itself -/
theorem lw_closed {s t : State} {o : Outcome} {d0 : Drawn} {L : List Loc} {k n : Nat} (hd0 : s.drawn.sameBut d0 lw_cs) (hv : ∃ v, o = .returned v) (hW : (s.setDrawn d0).WarmedH t.vm) (hs : (s.setDrawn d0).sameButNew ({ t with vm := s.vm } : State) L k n) : State.butDraws s t lw_cs (fun t1 => Framed s o t1 L k n) := by
  have h2 : t.drawn = d0 := congrArg State.drawn hs.1
  refine ⟨⟨hv, hW, State.sameButNew.setDrawn hs s.drawn⟩, ?_, by decide⟩
  rw [h2]
  exact hd0
def lw_Q (_ : Array Value) (s : State) (o : Outcome) (t : State) : Prop := o = .returned (some (.int 1)) ∧ State.butDraws s t lw_cs (fun t1 => Framed s o t1 [] 600000 7302250)
def lw_Z (below : List Frame) (a : Array Value) (s : State) : State → Prop := fun t => ∃ o, t.status = .running ∧ Ended t below o ∧ lw_Q a s o t
/-- the law's own end, with 1 on the stack, nothing written that was there before, its room as the claim has it; d0: the record of draws at this point (at the entry s.drawn: begin with 'refine W.base ?_' and 'have hd0 := Drawn.sameBut.refl s.drawn lw_cs') -/
theorem lw_ret {p : Program} {l : Launch} {e : Env} {s : State} {m : MethodId} {below : List Frame} {meth : Method} {c : Code} {b : Nat} {d0 : Drawn} (hd0 : s.drawn.sameBut d0 lw_cs) (hx : p.tables.exec = Jvm.exec) (hb : c.code = code) (hr : meth.sig.returnType = ret) (hlocks : meth.locks = false) {pc : Nat} {H : Heap} {ls : Array Slot} (hdg : decode code pc = .ok (.ireturn, 1)) : W p l e room_1 (s.setDrawn d0) m #[Value.ref b] below meth c H [] 600000 7302250 (lw_Z below #[Value.ref b] s) (F0 m pc ls [.int 1]) := by
  intro T hT X
  obtain ⟨fs, hret, hrun, hended, hW, hframe⟩ := X.leave (v := some (.int 1)) (hlocks := hlocks) (fun h => by rw [hr] at h; cases h)
  have hmeth' : T.vm.method? m = some meth := X.method'
  refine ⟨T.setFrames fs, ?_, .returned (some (.int 1)), hrun, hended, rfl, lw_closed hd0 ⟨_, rfl⟩ hW hframe⟩
  jvm_step X.here [X.here.top, hx, hb, hdg, hmeth', hr, ret, narrow_b1]
  (try refine ⟨rfl, ?_⟩); (try refine ⟨rfl, ?_⟩)
  first | (intro acts; rw [hret _ acts rfl rfl rfl]) | rw [hret _ _ rfl rfl rfl]
  exact Steps.refl _
/-- what holds at the law's entry: the machine, the code, the tables' words (any of lw_tbl by 'hts w (by decide +kernel)'), the script of L ints xs at the cell b, what the Statement gives of the start (any of its parts by flat_of_before) -/
def lw_At (p : Program) (s : State) (m : MethodId) (meth : Method) (c : Code) (b L : Nat) (xs : Nat → Int32) : Prop :=
  p.tables.exec = Jvm.exec ∧ c.code = code ∧ meth.sig.returnType = ret ∧ c.maxLocals = 4 ∧ s.vm.findClass R_law = some m.cls ∧ (∀ w ∈ lw_tbl, w.before #[Value.ref b] s = true) ∧ va_X b L xs s s.heap ∧ b < s.heap.size ∧ meth.locks = false ∧ (Jvm.Cond.and given_1 narrow_1).before #[Value.ref b] s = true
-- ===== YOUR PART BEGINS =====
theorem sg_isr {args : Array Value} {s : State} {C n d : String} (h : (Cond.isRef (.static C n d)).before args s = true) : ∃ v : Value, (v = .null ∨ ∃ a, v = .ref a) ∧ (Term.static C n d).eval args s none [] s = some v := by
  cases hv : (Term.static C n d).eval args s none [] s with
  | none => simp [Cond.before, Cond.holds, Cond.value, hv] at h
  | some w =>
    refine ⟨w, ?_, rfl⟩
    cases w <;> first | exact Or.inl rfl | exact Or.inr ⟨_, rfl⟩ | (simp [Cond.before, Cond.holds, Cond.value, hv] at h; done)
theorem sg_arr {s : State} {args : Array Value} {ty : FieldType} (h : (Cond.arrayClass ty).before args s = true) (hty : sg_isR ty = false) : ∃ cA : ClassId, ArrOfT s cA ty ∧ va_RA s cA ty := by
  obtain ⟨c, k, comp, h1, h2, h3⟩ := Cond.arrayClass_spec h
  refine ⟨c, fun n z => ⟨(fun k h => by cases h), k, h2, comp, h3⟩, ?_⟩
  cases ty <;> first | exact h1 | (cases hty; done)
theorem sg_arrG {s : State} {args : Array Value} {C : String} (h : (Cond.arrayOver (.object C)).before args s = true) : ∃ cA : ClassId, ArrOfT s cA (.object C) ∧ va_RA s cA (.object C) := by
  obtain ⟨comp, c, k, h1, -, h3, h4, h5⟩ := Cond.arrayOver_spec h
  exact ⟨c, fun n z => ⟨(fun k h => by cases h), k, h3, comp, h4⟩, k, comp, h3, h4, h1, h5⟩
theorem sg_strR1 : Cond.stringRef "BargeChessModel" 174 "btBT" ∈ lw_tbl := List.mem_of_getElem? (i := 981) (by decide +kernel)
theorem sg_strR2 : Cond.stringRef "BargeChessModel" 194 "urdl" ∈ lw_tbl := List.mem_of_getElem? (i := 1047) (by decide +kernel)
theorem sg_lsC : Cond.laysStatic "java/lang/String" "COMPACT_STRINGS" "Z" ∈ lw_tbl := List.mem_of_getElem? (i := 991) (by decide +kernel)
theorem sg_lsF : Cond.laysStatic "jdk/internal/util/Preconditions" "SIOOBE_FORMATTER" "Ljava/util/function/BiFunction;" ∈ lw_tbl := List.mem_of_getElem? (i := 999) (by decide +kernel)
theorem sg_two {P : Nat → Prop} (h0 : P 0) (h1 : P 1) : ∀ i, i < 2 → P i := by
  intro i hi
  have : i = 0 ∨ i = 1 := by omega
  rcases this with rfl | rfl <;> assumption
theorem sg_four {P : Nat → Prop} (h0 : P 0) (h1 : P 1) (h2 : P 2) (h3 : P 3) : ∀ i, i < 4 → P i := by
  intro i hi
  have : i = 0 ∨ i = 1 ∨ i = 2 ∨ i = 3 := by omega
  rcases this with rfl | rfl | rfl | rfl <;> assumption
def sg_tm9 (i : Nat) : Term := if i = 0 then .string "BargeChessModel" 174 else .string "BargeChessModel" 194
set_option maxHeartbeats 4000000 in
set_option maxRecDepth 100000 in
/-- the start gives what lies outside -/
theorem sg_startX {s : State} {b L : Nat} {xs : Nat → Int32} (hts : ∀ w ∈ lw_tbl, w.before #[Value.ref b] s = true) (hX : va_X b L xs s s.heap) (hbl : b < s.heap.size) (hgv : (Jvm.Cond.and given_1 narrow_1).before #[Value.ref b] s = true) : ∃ ax adV : Nat → Nat, ax 0 = b ∧ sg_X (L, fun i => (xs i.toNat).toInt) s.heap.size ax adV s := by
  have hq := flat_of_before _ hgv
  have hA : ∀ a : Nat, a < s.heap.size → ¬ (fun q : Nat => s.heap.size ≤ q) a := fun a ha => Nat.not_le.mpr ha
  obtain ⟨adK, adV, hS, hE⟩ := vk_Sof (args := #[Value.ref b]) (s := s) (N := 2) (tm := sg_tm9) (len := [4, 4]) (byt := [[98, 116, 66, 84], [117, 114, 100, 108]]) (A := fun q : Nat => s.heap.size ≤ q)
    (sg_two (by decide) (by decide)) (sg_two (hq _ (by decide +kernel)) (hq _ (by decide +kernel))) (sg_two (hq _ (by decide +kernel)) (hq _ (by decide +kernel))) (sg_two (hq _ (by decide +kernel)) (hq _ (by decide +kernel))) (sg_two (hq _ (by decide +kernel)) (hq _ (by decide +kernel)))
    (sg_two (sg_four (hq _ (by decide +kernel)) (hq _ (by decide +kernel)) (hq _ (by decide +kernel)) (hq _ (by decide +kernel))) (sg_four (hq _ (by decide +kernel)) (hq _ (by decide +kernel)) (hq _ (by decide +kernel)) (hq _ (by decide +kernel))))
    (fun i j hi hj hij => by
      have h9 : (Cond.not (Cond.eq (sg_tm9 0) (sg_tm9 1))).before #[Value.ref b] s = true := hq _ (by decide +kernel)
      have hi2 : i = 0 ∨ i = 1 := by omega
      have hj2 : j = 0 ∨ j = 1 := by omega
      rcases hi2 with rfl | rfl <;> rcases hj2 with rfl | rfl
      · exact absurd rfl hij
      · exact Or.inl h9
      · exact Or.inr h9
      · exact absurd rfl hij) hA
  obtain ⟨v, hv, hev⟩ := sg_isr (args := #[Value.ref b]) (s := s) (C := "jdk/internal/util/Preconditions") (n := "SIOOBE_FORMATTER") (d := "Ljava/util/function/BiFunction;") (hq _ (by decide +kernel))
  refine ⟨fun k => if k = 0 then b else adK (k - 1), adV, rfl, hbl, Nat.le_refl _, ?_, ?_, ?_, ?_, ?_, v, hv, ?_⟩
  · have hf : (fun j : Nat => Int32.ofInt ((fun i : Int => (xs i.toNat).toInt) (j : Int))) = xs := by
      funext j
      simp
    show va_X b L (fun j : Nat => Int32.ofInt ((fun i : Int => (xs i.toNat).toInt) (j : Int))) s s.heap
    rw [hf]
    exact hX
  · have hf : (fun i : Nat => if i + 1 = 0 then b else adK (i + 1 - 1)) = adK := by
      funext i
      simp
    show vk_S 2 [4, 4] [[98, 116, 66, 84], [117, 114, 100, 108]] (fun i : Nat => if i + 1 = 0 then b else adK (i + 1 - 1)) adV _ s s.heap
    rw [hf]
    exact hS
  · exact vk_R.of (hts _ sg_strR1) (hE 0 (by decide))
  · exact vk_R.of (hts _ sg_strR2) (hE 1 (by decide))
  · exact va_Zof (hts _ sg_lsC) (hts _ (List.mem_of_getElem? (i := 99) (by decide +kernel))) (va_eqi (hq _ (by decide +kernel))) hA
  · exact va_Zof (hts _ sg_lsF) (hts _ (List.mem_of_getElem? (i := 101) (by decide +kernel))) hev hA
theorem sg_startK {s : State} {b : Nat} (hts : ∀ w ∈ lw_tbl, w.before #[Value.ref b] s = true) : ∃ (D : va_G) (dA : Nat → ClassId), va_K D vwCl (sg_tys dA) s := by
  have hts2 : ∀ w ∈ sg_tb, w.before #[Value.ref b] s = true := fun w hw => hts w (List.mem_filter.mp hw).1
  have hk : ∀ t, t < 8 → ∃ (cC : ClassId) (iS : Nat → Nat), u_Kn s (sg_R t) (sg_T t) (ag_nf t) cC iS := fun t ht => u_known hts2 (sg_lay t ht) (hts2 _ (sg_iw ht).1)
  have hk2 : ∀ t, ∃ q : ClassId × (Nat → Nat), t < 8 → u_Kn s (sg_R t) (sg_T t) (ag_nf t) q.1 q.2 := by
    intro t
    by_cases ht : t < 8
    · obtain ⟨cC, iS, h⟩ := hk t ht
      exact ⟨(cC, iS), fun _ => h⟩
    · exact ⟨(0, fun _ => 0), fun h => absurd h ht⟩
  obtain ⟨dD, hdD⟩ := Classical.axiomOfChoice hk2
  obtain ⟨a8, h8⟩ := sg_arr (hts2 _ sg_wAI) rfl
  obtain ⟨a9, h9⟩ := sg_arr (hts2 _ sg_wAZ) rfl
  obtain ⟨a10, h10⟩ := sg_arr (hts2 _ sg_wAC) rfl
  obtain ⟨a11, h11⟩ := sg_arr (hts2 _ sg_wAJ) rfl
  obtain ⟨a12, h12⟩ := sg_arrG (hts2 _ sg_wAO)
  refine ⟨(fun t => (dD t).1, fun t => (dD t).2), fun k => if k = 8 then a8 else if k = 9 then a9 else if k = 10 then a10 else if k = 11 then a11 else a12, ?_, ?_⟩
  · intro t q hq
    have ht : t < 8 := by
      have := (List.getElem?_eq_some_iff.mp hq).1
      exact this
    rw [sg_cl t ht] at hq
    cases hq
    exact hdD t ht
  · intro k q hq
    match k, hq with
    | 0, hq => cases hq; exact h8
    | 1, hq => cases hq; exact h9
    | 2, hq => cases hq; exact h10
    | 3, hq => cases hq; exact h11
    | 4, hq => cases hq; exact h12
    | k + 5, hq => simp [sg_tys] at hq
section SGW
variable {p : Program} {l : Launch} {e : Env} {s : State} {m : MethodId} {below : List Frame} {meth : Method} {c : Code} {b bs : Nat} {dA : Nat → ClassId} {ax adV : Nat → Nat} {D : va_G} {E : Nat × (Int → Int)}
theorem sg_lawrun (hx : p.tables.exec = Jvm.exec) (hb : c.code = code) (hml : c.maxLocals = 4) (hts : ∀ w ∈ sg_tb, w.before #[Value.ref b] s = true) (hown : s.vm.findClass (sg_R 8) = some m.cls) (hK : va_K D vwCl (sg_tys dA) s) (hbs : bs = s.heap.size) (hX : sg_X E bs ax adV s) (hr : meth.sig.returnType = ret) (hlocks : meth.locks = false) {d fuel : Nat} (hd : d ≤ 800) :
    ∀ (n : Nat) (f : ag_F) (h' : ag_H), ag_run ag_TT (ag_call ag_TT ag_Ms E fuel d) E ag_mL_law n f = some (some (vI 1), h') → h'.1.length ≤ 600000 → sg_ss h'.1 ≤ 7302250 → sg_J p l e room_1 s m #[Value.ref b] below meth c (lw_Z below #[Value.ref b] s) 4 bs 0 0 dA ax D f := by
  have hcall := sg_sound l D dA bs ax adV E fuel d
  intro n
  induction n with
  | zero => intro f h' hr; cases hr
  | succ n ih =>
    intro f h' hrun hr1 hr2
    obtain ⟨pc, ls, st, h⟩ := f
    unfold ag_run at hrun
    split at hrun
    · rename_i i len hq
      have hd1 : decode code pc = .ok (i, len) := sg_at_dec sg_dL_law hq
      have hck : sg_chk pc i len = true := sg_at_chk sg_ckL hq
      split at hrun
      · rename_i f1 hs
        have hm := sg_runm (fun y as h o h' hc => (hcall y as h o h' hc).2) n f1 _ h' hrun
        exact sg_step (ci := 8) (d := d) hx hb hml hts hown hK hX (fun q => by cases q) hcall (by show d + 11 ≤ 2048; omega) (by show 100 * d + 700 ≤ 84000; omega) hd1 hck hs (Nat.le_trans hm.1 hr1) (Nat.le_trans hm.2 hr2) (ih f1 h' hrun hr1 hr2)
      · rename_i o1 hs
        cases hrun
        obtain ⟨rfl, hans⟩ := sg_ansh hs
        rcases hans with ⟨-, q, -⟩ | ⟨v, hv, rfl, -, hi⟩
        · cases q
        · cases hv
          rcases hi with ⟨rfl, -⟩ | ⟨-, q⟩ | ⟨-, q⟩
          · have hl := eq_of_beq hck
            subst hl
            intro H locs rl cells slots hP hz hS hL hcl hsl
            dsimp only at hcl hsl
            refine va_forget (fun q hq => by rw [← hbs]; exact hS.2.2 q hq) ?_
            refine W.widen (k := 600000) (n := 7302250) (by omega) (by omega) ?_
            exact lw_ret (d0 := s.drawn) (Drawn.sameBut.refl s.drawn lw_cs) hx hb hr hlocks hd1
          · cases q
          · cases q
      · cases hrun
    · cases hrun
end SGW
/-- what is wanted of the abstract machine: for each script a run of the law that answers 1 -/
def sg_Goal : Prop := ∀ (L : Nat) (xs : Int → Int), L ≤ 2048 → (∀ i, ag_in (xs i)) → ∃ (fuel d n : Nat) (h' : ag_H), d ≤ 800 ∧ h'.1.length ≤ 600000 ∧ sg_ss h'.1 ≤ 7302250 ∧ ag_run ag_TT (ag_call ag_TT ag_Ms (L, xs) fuel d) (L, xs) ag_mL_law n (0, [some (vX 0), none, none, none], [], ([], fun _ _ => 0)) = some (some (vI 1), h')
set_option maxRecDepth 100000 in
theorem sg_fin (G : sg_Goal) {p : Program} {e : Env} {s : State} {m : MethodId} {below : List Frame} {meth : Method} {c : Code} (l : Launch) {b L : Nat} {xs : Nat → Int32} (hL : L ≤ 2048) (C0 : lw_At p s m meth c b L xs) : W p l e room_1 s m #[Value.ref b] below meth c s.heap [] 0 0 (lw_Z below #[Value.ref b] s) (entryFrame m ([Value.ref b] : List Value).toArray 4) := by
  obtain ⟨hx, hb, hr, hml, hown, hts, hX, hbl, hlocks, hgv⟩ := id C0
  obtain ⟨ax, adV, ha0, hX2⟩ := sg_startX hts hX hbl hgv
  obtain ⟨D, dA, hK⟩ := sg_startK hts
  obtain ⟨fuel, d, n, h', hd, h1, h2, hrun⟩ := G L (fun i => (xs i.toNat).toInt) hL (fun i => ⟨(xs i.toNat).le_toInt, (xs i.toNat).toInt_lt⟩)
  have hl := lv_entry ([.ref b]) (n := 4) (Nat.le_of_ble_eq_true rfl)
  rw [lg_entry_eq]
  have hJ := sg_lawrun (p := p) (l := l) (e := e) (m := m) (below := below) hx hb hml (fun w hw => hts w (List.mem_filter.mp hw).1) hown hK rfl hX2 hr hlocks hd n _ h' hrun h1 h2
  refine hJ s.heap [] _ 0 0 (fun k q h => by simp [sg_W] at h) (Nat.add_zero _).symm va_S.rf ⟨?_, rfl⟩ rfl rfl
  have e1 : sg_lv s.heap.size ax [some (vX 0), none, none, none] = [(0, .ref b)] := by
    rw [← ha0]
    rfl
  rw [e1]
  exact hl
-- ===== YOUR PART ENDS: whole_start waits for sg_Goal =====
end
section
/-! LEVEL 2: rules for runs of the abstract machine, whatever the fuel -/
def ag_steps (T : ag_T) (call : Nat → List av → ag_H → Option ag_O) (E : Nat × (Int → Int)) (M : ag_M) : Nat → ag_F → Option ag_F
  | 0, f => some f
  | n + 1, (pc, ls, st, h) => match M.2.2.2.2[pc]? with
    | some (some (i, len)) => match ag_step T call E M.1 M.2.1 M.2.2.1 i len pc ls st h with
      | some (.inl f) => ag_steps T call E M n f
      | _ => none
    | _ => none
/-- a body's run from this frame answers r -/
def AR (E : Nat × (Int → Int)) (d : Nat) (M : ag_M) (f : ag_F) (r : ag_O → Prop) : Prop := ∃ n N o, r o ∧ ∀ fuel, N ≤ fuel → ag_run ag_TT (ag_call ag_TT ag_Ms E fuel d) E M n f = some o
/-- a call answers r -/
def Ev (E : Nat × (Int → Int)) (d y : Nat) (as : List av) (h : ag_H) (r : ag_O) : Prop := ∃ N, ∀ fuel, N ≤ fuel → ag_call ag_TT ag_Ms E fuel d y as h = some r
section AR
variable {E : Nat × (Int → Int)} {d : Nat} {M : ag_M} {r : ag_O → Prop}
theorem ag_run_steps {T : ag_T} {call : Nat → List av → ag_H → Option ag_O} : ∀ (k : Nat) (f f' : ag_F) (n : Nat), ag_steps T call E M k f = some f' → ag_run T call E M (k + n) f = ag_run T call E M n f' := by
  intro k
  induction k with
  | zero => intro f f' n h; cases h; rw [Nat.zero_add]
  | succ k ih =>
    intro f f' n h
    obtain ⟨pc, ls, st, hp⟩ := f
    rw [Nat.succ_add]
    unfold ag_steps at h
    conv => lhs; unfold ag_run
    split at h
    · rename_i i len hq
      rw [hq]
      dsimp only
      split at h
      · rename_i f1 hs
        rw [hs]
        exact ih f1 f' n h
      · cases h
    · cases h
theorem AR.blk {f f' : ag_F} (k : Nat) (hs : ∀ call, ag_steps ag_TT call E M k f = some f') (kk : AR E d M f' r) : AR E d M f r := by
  obtain ⟨n, N, o, q, h⟩ := kk
  exact ⟨k + n, N, o, q, fun fuel hf => by rw [ag_run_steps k f f' n (hs _)]; exact h fuel hf⟩
theorem AR.one {pc : Nat} {ls : List (Option av)} {st : List av} {h : ag_H} {f' : ag_F} {i : Instr} {len : Nat} (hc : M.2.2.2.2[pc]? = some (some (i, len))) (hs : ∃ N, ∀ fuel, N ≤ fuel → ag_step ag_TT (ag_call ag_TT ag_Ms E fuel d) E M.1 M.2.1 M.2.2.1 i len pc ls st h = some (.inl f')) (kk : AR E d M f' r) : AR E d M (pc, ls, st, h) r := by
  obtain ⟨n, N, o, q, h1⟩ := kk
  obtain ⟨N2, h2⟩ := hs
  refine ⟨n + 1, max N N2, o, q, fun fuel hf => ?_⟩
  unfold ag_run
  rw [hc]
  dsimp only
  rw [h2 fuel (by omega)]
  exact h1 fuel (by omega)
theorem AR.one0 {pc : Nat} {ls : List (Option av)} {st : List av} {h : ag_H} {f' : ag_F} {i : Instr} {len : Nat} (hc : M.2.2.2.2[pc]? = some (some (i, len))) (hs : ∀ call, ag_step ag_TT call E M.1 M.2.1 M.2.2.1 i len pc ls st h = some (.inl f')) (kk : AR E d M f' r) : AR E d M (pc, ls, st, h) r :=
  AR.one hc ⟨0, fun _ _ => hs _⟩ kk
theorem AR.fin {pc : Nat} {ls : List (Option av)} {st : List av} {h : ag_H} {i : Instr} {len : Nat} (hc : M.2.2.2.2[pc]? = some (some (i, len))) {o : ag_O} (hs : ∀ call, ag_step ag_TT call E M.1 M.2.1 M.2.2.1 i len pc ls st h = some (.inr o)) (hq : r o) : AR E d M (pc, ls, st, h) r :=
  ⟨1, 0, o, hq, fun fuel _ => by unfold ag_run; rw [hc]; dsimp only; rw [hs]⟩
theorem ag_ck_of {α : Type} {P : Prop} [Decidable P] {k : Option α} (h : P) : ag_ck P k = k := if_pos h
variable {pc : Nat} {ls : List (Option av)} {st : List av} {h : ag_H}
/-! branches -/
theorem AR.if_eq {a off : Int} (hc : M.2.2.2.2[pc]? = some (some (.ifCond .eq off, 3))) (ha : ag_in a) (kt : a = 0 → AR E d M (ag_tgt pc off, ls, st, h) r) (kf : ¬ a = 0 → AR E d M (pc + 3, ls, st, h) r) : AR E d M (pc, ls, vI a :: st, h) r := by
  by_cases q : a = 0
  · exact AR.one0 hc (fun _ => (ag_ck_of ha).trans (if_pos (decide_eq_true q))) (kt q)
  · exact AR.one0 hc (fun _ => (ag_ck_of ha).trans (if_neg (fun z => q (of_decide_eq_true z)))) (kf q)
theorem AR.if_ne {a off : Int} (hc : M.2.2.2.2[pc]? = some (some (.ifCond .ne off, 3))) (ha : ag_in a) (kt : ¬ a = 0 → AR E d M (ag_tgt pc off, ls, st, h) r) (kf : a = 0 → AR E d M (pc + 3, ls, st, h) r) : AR E d M (pc, ls, vI a :: st, h) r := by
  by_cases q : a = 0
  · exact AR.one0 hc (fun _ => (ag_ck_of ha).trans (if_neg (fun z => (show ¬ a = 0 from of_decide_eq_true z) q))) (kf q)
  · exact AR.one0 hc (fun _ => (ag_ck_of ha).trans (if_pos (decide_eq_true q))) (kt q)
theorem AR.if_lt {a off : Int} (hc : M.2.2.2.2[pc]? = some (some (.ifCond .lt off, 3))) (ha : ag_in a) (kt : a < 0 → AR E d M (ag_tgt pc off, ls, st, h) r) (kf : ¬ a < 0 → AR E d M (pc + 3, ls, st, h) r) : AR E d M (pc, ls, vI a :: st, h) r := by
  by_cases q : a < 0
  · exact AR.one0 hc (fun _ => (ag_ck_of ha).trans (if_pos (decide_eq_true q))) (kt q)
  · exact AR.one0 hc (fun _ => (ag_ck_of ha).trans (if_neg (fun z => q (of_decide_eq_true z)))) (kf q)
theorem AR.if_ge {a off : Int} (hc : M.2.2.2.2[pc]? = some (some (.ifCond .ge off, 3))) (ha : ag_in a) (kt : 0 ≤ a → AR E d M (ag_tgt pc off, ls, st, h) r) (kf : ¬ 0 ≤ a → AR E d M (pc + 3, ls, st, h) r) : AR E d M (pc, ls, vI a :: st, h) r := by
  by_cases q : 0 ≤ a
  · exact AR.one0 hc (fun _ => (ag_ck_of ha).trans (if_pos (decide_eq_true q))) (kt q)
  · exact AR.one0 hc (fun _ => (ag_ck_of ha).trans (if_neg (fun z => q (of_decide_eq_true z)))) (kf q)
theorem AR.if_gt {a off : Int} (hc : M.2.2.2.2[pc]? = some (some (.ifCond .gt off, 3))) (ha : ag_in a) (kt : 0 < a → AR E d M (ag_tgt pc off, ls, st, h) r) (kf : ¬ 0 < a → AR E d M (pc + 3, ls, st, h) r) : AR E d M (pc, ls, vI a :: st, h) r := by
  by_cases q : 0 < a
  · exact AR.one0 hc (fun _ => (ag_ck_of ha).trans (if_pos (decide_eq_true q))) (kt q)
  · exact AR.one0 hc (fun _ => (ag_ck_of ha).trans (if_neg (fun z => q (of_decide_eq_true z)))) (kf q)
theorem AR.if_le {a off : Int} (hc : M.2.2.2.2[pc]? = some (some (.ifCond .le off, 3))) (ha : ag_in a) (kt : a ≤ 0 → AR E d M (ag_tgt pc off, ls, st, h) r) (kf : ¬ a ≤ 0 → AR E d M (pc + 3, ls, st, h) r) : AR E d M (pc, ls, vI a :: st, h) r := by
  by_cases q : a ≤ 0
  · exact AR.one0 hc (fun _ => (ag_ck_of ha).trans (if_pos (decide_eq_true q))) (kt q)
  · exact AR.one0 hc (fun _ => (ag_ck_of ha).trans (if_neg (fun z => q (of_decide_eq_true z)))) (kf q)
theorem AR.ic_eq {a b off : Int} (hc : M.2.2.2.2[pc]? = some (some (.if_icmp .eq off, 3))) (ha : ag_in a ∧ ag_in b) (kt : a = b → AR E d M (ag_tgt pc off, ls, st, h) r) (kf : ¬ a = b → AR E d M (pc + 3, ls, st, h) r) : AR E d M (pc, ls, vI b :: vI a :: st, h) r := by
  by_cases q : a = b
  · exact AR.one0 hc (fun _ => (ag_ck_of ha).trans (if_pos (decide_eq_true q))) (kt q)
  · exact AR.one0 hc (fun _ => (ag_ck_of ha).trans (if_neg (fun z => q (of_decide_eq_true z)))) (kf q)
theorem AR.ic_ne {a b off : Int} (hc : M.2.2.2.2[pc]? = some (some (.if_icmp .ne off, 3))) (ha : ag_in a ∧ ag_in b) (kt : ¬ a = b → AR E d M (ag_tgt pc off, ls, st, h) r) (kf : a = b → AR E d M (pc + 3, ls, st, h) r) : AR E d M (pc, ls, vI b :: vI a :: st, h) r := by
  by_cases q : a = b
  · exact AR.one0 hc (fun _ => (ag_ck_of ha).trans (if_neg (fun z => (show ¬ a = b from of_decide_eq_true z) q))) (kf q)
  · exact AR.one0 hc (fun _ => (ag_ck_of ha).trans (if_pos (decide_eq_true q))) (kt q)
theorem AR.ic_lt {a b off : Int} (hc : M.2.2.2.2[pc]? = some (some (.if_icmp .lt off, 3))) (ha : ag_in a ∧ ag_in b) (kt : a < b → AR E d M (ag_tgt pc off, ls, st, h) r) (kf : ¬ a < b → AR E d M (pc + 3, ls, st, h) r) : AR E d M (pc, ls, vI b :: vI a :: st, h) r := by
  by_cases q : a < b
  · exact AR.one0 hc (fun _ => (ag_ck_of ha).trans (if_pos (decide_eq_true q))) (kt q)
  · exact AR.one0 hc (fun _ => (ag_ck_of ha).trans (if_neg (fun z => q (of_decide_eq_true z)))) (kf q)
theorem AR.ic_ge {a b off : Int} (hc : M.2.2.2.2[pc]? = some (some (.if_icmp .ge off, 3))) (ha : ag_in a ∧ ag_in b) (kt : b ≤ a → AR E d M (ag_tgt pc off, ls, st, h) r) (kf : ¬ b ≤ a → AR E d M (pc + 3, ls, st, h) r) : AR E d M (pc, ls, vI b :: vI a :: st, h) r := by
  by_cases q : b ≤ a
  · exact AR.one0 hc (fun _ => (ag_ck_of ha).trans (if_pos (decide_eq_true q))) (kt q)
  · exact AR.one0 hc (fun _ => (ag_ck_of ha).trans (if_neg (fun z => q (of_decide_eq_true z)))) (kf q)
theorem AR.ic_gt {a b off : Int} (hc : M.2.2.2.2[pc]? = some (some (.if_icmp .gt off, 3))) (ha : ag_in a ∧ ag_in b) (kt : b < a → AR E d M (ag_tgt pc off, ls, st, h) r) (kf : ¬ b < a → AR E d M (pc + 3, ls, st, h) r) : AR E d M (pc, ls, vI b :: vI a :: st, h) r := by
  by_cases q : b < a
  · exact AR.one0 hc (fun _ => (ag_ck_of ha).trans (if_pos (decide_eq_true q))) (kt q)
  · exact AR.one0 hc (fun _ => (ag_ck_of ha).trans (if_neg (fun z => q (of_decide_eq_true z)))) (kf q)
theorem AR.ic_le {a b off : Int} (hc : M.2.2.2.2[pc]? = some (some (.if_icmp .le off, 3))) (ha : ag_in a ∧ ag_in b) (kt : a ≤ b → AR E d M (ag_tgt pc off, ls, st, h) r) (kf : ¬ a ≤ b → AR E d M (pc + 3, ls, st, h) r) : AR E d M (pc, ls, vI b :: vI a :: st, h) r := by
  by_cases q : a ≤ b
  · exact AR.one0 hc (fun _ => (ag_ck_of ha).trans (if_pos (decide_eq_true q))) (kt q)
  · exact AR.one0 hc (fun _ => (ag_ck_of ha).trans (if_neg (fun z => q (of_decide_eq_true z)))) (kf q)
/-! arithmetic with conditions -/
theorem AR.idiv {a b : Int} (hc : M.2.2.2.2[pc]? = some (some (.idiv, 1))) (ha : 0 ≤ a ∧ ag_in a ∧ 0 < b ∧ ag_in b) (k : AR E d M (pc + 1, ls, vI (a / b) :: st, h) r) : AR E d M (pc, ls, vI b :: vI a :: st, h) r := AR.one0 hc (fun _ => ag_ck_of ha) k
theorem AR.irem {a b : Int} (hc : M.2.2.2.2[pc]? = some (some (.irem, 1))) (ha : 0 ≤ a ∧ ag_in a ∧ 0 < b ∧ ag_in b) (k : AR E d M (pc + 1, ls, vI (a % b) :: st, h) r) : AR E d M (pc, ls, vI b :: vI a :: st, h) r := AR.one0 hc (fun _ => ag_ck_of ha) k
theorem AR.iand {a b : Int} (hc : M.2.2.2.2[pc]? = some (some (.iand, 1))) (ha : ag_in a ∧ b = 31) (k : AR E d M (pc + 1, ls, vI (a % 32) :: st, h) r) : AR E d M (pc, ls, vI b :: vI a :: st, h) r := AR.one0 hc (fun _ => ag_ck_of ha) k
theorem AR.ior {a b : Int} (hc : M.2.2.2.2[pc]? = some (some (.ior, 1))) (ha : 0 ≤ a ∧ ag_in a ∧ 0 ≤ b ∧ ag_in b) (k : AR E d M (pc + 1, ls, vI ((a.toNat ||| b.toNat : Nat) : Int) :: st, h) r) : AR E d M (pc, ls, vI b :: vI a :: st, h) r := AR.one0 hc (fun _ => ag_ck_of ha) k
theorem AR.ishl {a b : Int} (hc : M.2.2.2.2[pc]? = some (some (.ishl, 1))) (ha : 0 ≤ a ∧ 0 ≤ b ∧ b < 31 ∧ a < 2147483648) (k : AR E d M (pc + 1, ls, vI (a * (2 ^ b.toNat : Nat)) :: st, h) r) : AR E d M (pc, ls, vI b :: vI a :: st, h) r := AR.one0 hc (fun _ => ag_ck_of ha) k
theorem AR.i2l {a : Int} (hc : M.2.2.2.2[pc]? = some (some (.i2l, 1))) (ha : ag_in a) (k : AR E d M (pc + 1, ls, vJ a :: st, h) r) : AR E d M (pc, ls, vI a :: st, h) r := AR.one0 hc (fun _ => ag_ck_of ha) k
theorem AR.lcmp {a b : Int} (hc : M.2.2.2.2[pc]? = some (some (.lcmp, 1))) (ha : ag_inL a ∧ ag_inL b) (k : AR E d M (pc + 1, ls, vI (if a < b then -1 else if a = b then 0 else 1) :: st, h) r) : AR E d M (pc, ls, vJ b :: vJ a :: st, h) r := AR.one0 hc (fun _ => ag_ck_of ha) k
/-! the heap -/
theorem ag_at_of {α : Type} {h : ag_H} {a t n : Nat} {rs : List (Option Nat)} {k : Nat → List (Option Nat) → Option α} (hh : h.1[a]? = some (t, n, rs)) : ag_at h a t k = k n rs := by
  unfold ag_at
  rw [hh]
  exact if_pos rfl
theorem AR.getI {ix t k a n : Nat} {rs : List (Option Nat)} (hc : M.2.2.2.2[pc]? = some (some (.getfield ix, 3))) (hf : ag_TT.1 M.1 ix = some (t, k)) (ha : h.1[a]? = some (t, n, rs)) (hk : (k < ag_nf t ∧ k < n) ∧ ag_kind t k ≠ 2) {v : Int} (hv : h.2 a k = v) (kk : AR E d M (pc + 3, ls, vI v :: st, h) r) : AR E d M (pc, ls, vA a :: st, h) r := by
  subst hv
  refine AR.one0 hc (fun _ => ?_) kk
  show (match ag_TT.1 M.1 ix with | some (t, k) => ag_at h a t fun n rs => ag_ck (k < ag_nf t ∧ k < n) (ag_go (pc + 3) ls ((if ag_kind t k = 2 then vR (rs.getD k none) else vI (h.2 a k)) :: st) h) | none => none) = _
  rw [hf]
  refine (ag_at_of ha).trans ((ag_ck_of hk.1).trans ?_)
  rw [if_neg hk.2]
theorem AR.getR {ix t k a b n : Nat} {rs : List (Option Nat)} (hc : M.2.2.2.2[pc]? = some (some (.getfield ix, 3))) (hf : ag_TT.1 M.1 ix = some (t, k)) (ha : h.1[a]? = some (t, n, rs)) (hk : (k < ag_nf t ∧ k < n) ∧ ag_kind t k = 2) (hb : rs.getD k none = some b) (kk : AR E d M (pc + 3, ls, vA b :: st, h) r) : AR E d M (pc, ls, vA a :: st, h) r := by
  refine AR.one0 hc (fun _ => ?_) kk
  show (match ag_TT.1 M.1 ix with | some (t, k) => ag_at h a t fun n rs => ag_ck (k < ag_nf t ∧ k < n) (ag_go (pc + 3) ls ((if ag_kind t k = 2 then vR (rs.getD k none) else vI (h.2 a k)) :: st) h) | none => none) = _
  rw [hf]
  refine (ag_at_of ha).trans ((ag_ck_of hk.1).trans ?_)
  rw [if_pos hk.2, hb]
theorem AR.putI {ix t k a n : Nat} {z : Int} {rs : List (Option Nat)} (hc : M.2.2.2.2[pc]? = some (some (.putfield ix, 3))) (hf : ag_TT.1 M.1 ix = some (t, k)) (ha : h.1[a]? = some (t, n, rs)) (hk : k < ag_nf t ∧ k < n ∧ ag_kind t k ≠ 2) (h1 : ag_kind t k = 1 → z = 0 ∨ z = 1) (kk : AR E d M (pc + 3, ls, st, (h.1, ag_upd h.2 a k z)) r) : AR E d M (pc, ls, vI z :: vA a :: st, h) r := by
  refine AR.one0 hc (fun _ => ?_) kk
  show (match ag_TT.1 M.1 ix with | some (t, k) => ag_ck (k < ag_nf t) (if ag_kind t k = 2 then _ else ag_i1 (vI z :: vA a :: st) fun z r => ag_a1 r fun a r => ag_at h a t fun n _ => ag_ck ((ag_kind t k = 1 → z = 0 ∨ z = 1) ∧ k < n) (ag_go (pc + 3) ls r (h.1, ag_upd h.2 a k z))) | none => none) = _
  rw [hf]
  refine (ag_ck_of hk.1).trans ((if_neg hk.2.2).trans ?_)
  exact (ag_at_of ha).trans (ag_ck_of ⟨h1, hk.2.1⟩)
theorem AR.iald {a n : Nat} {i : Int} {rs : List (Option Nat)} (hc : M.2.2.2.2[pc]? = some (some (.iaload, 1))) (ha : h.1[a]? = some (8, n, rs)) (hi : 0 ≤ i ∧ i < n ∧ n ≤ 100000) {v : Int} (hv : h.2 a i = v) (kk : AR E d M (pc + 1, ls, vI v :: st, h) r) : AR E d M (pc, ls, vI i :: vA a :: st, h) r :=
  by subst hv; exact AR.one0 hc (fun _ => (ag_at_of ha).trans (ag_ck_of hi)) kk
theorem AR.zald {a n : Nat} {i : Int} {rs : List (Option Nat)} (hc : M.2.2.2.2[pc]? = some (some (.baload, 1))) (ha : h.1[a]? = some (9, n, rs)) (hi : 0 ≤ i ∧ i < n ∧ n ≤ 100000) {v : Int} (hv : h.2 a i = v) (kk : AR E d M (pc + 1, ls, vI v :: st, h) r) : AR E d M (pc, ls, vI i :: vA a :: st, h) r :=
  by subst hv; exact AR.one0 hc (fun _ => (ag_at_of ha).trans (ag_ck_of hi)) kk
theorem AR.cald {a n : Nat} {i : Int} {rs : List (Option Nat)} (hc : M.2.2.2.2[pc]? = some (some (.caload, 1))) (ha : h.1[a]? = some (10, n, rs)) (hi : 0 ≤ i ∧ i < n ∧ n ≤ 100000) {v : Int} (hv : h.2 a i = v) (kk : AR E d M (pc + 1, ls, vI v :: st, h) r) : AR E d M (pc, ls, vI i :: vA a :: st, h) r :=
  by subst hv; exact AR.one0 hc (fun _ => (ag_at_of ha).trans (ag_ck_of hi)) kk
theorem AR.lald {a n : Nat} {i : Int} {rs : List (Option Nat)} (hc : M.2.2.2.2[pc]? = some (some (.laload, 1))) (ha : h.1[a]? = some (11, n, rs)) (hi : 0 ≤ i ∧ i < n ∧ n ≤ 100000) {v : Int} (hv : h.2 a i = v) (kk : AR E d M (pc + 1, ls, vJ v :: st, h) r) : AR E d M (pc, ls, vI i :: vA a :: st, h) r :=
  by subst hv; exact AR.one0 hc (fun _ => (ag_at_of ha).trans (ag_ck_of hi)) kk
theorem AR.qald {a b n : Nat} {i : Int} {rs : List (Option Nat)} (hc : M.2.2.2.2[pc]? = some (some (.aaload, 1))) (ha : h.1[a]? = some (12, n, rs)) (hi : 0 ≤ i ∧ i < n ∧ n ≤ 100000) (hb : rs.getD i.toNat none = some b) (kk : AR E d M (pc + 1, ls, vA b :: st, h) r) : AR E d M (pc, ls, vI i :: vA a :: st, h) r :=
  AR.one0 hc (fun _ => (ag_at_of ha).trans ((ag_ck_of hi).trans (by rw [hb]))) kk
theorem AR.iast {a n : Nat} {i z : Int} {rs : List (Option Nat)} (hc : M.2.2.2.2[pc]? = some (some (.iastore, 1))) (ha : h.1[a]? = some (8, n, rs)) (hi : 0 ≤ i ∧ i < n ∧ n ≤ 100000) (kk : AR E d M (pc + 1, ls, st, (h.1, ag_upd h.2 a i z)) r) : AR E d M (pc, ls, vI z :: vI i :: vA a :: st, h) r :=
  AR.one0 hc (fun _ => (ag_at_of ha).trans (ag_ck_of hi)) kk
theorem AR.zast {a n : Nat} {i z : Int} {rs : List (Option Nat)} (hc : M.2.2.2.2[pc]? = some (some (.bastore, 1))) (ha : h.1[a]? = some (9, n, rs)) (hi : 0 ≤ i ∧ i < n ∧ n ≤ 100000 ∧ (z = 0 ∨ z = 1)) (kk : AR E d M (pc + 1, ls, st, (h.1, ag_upd h.2 a i z)) r) : AR E d M (pc, ls, vI z :: vI i :: vA a :: st, h) r :=
  AR.one0 hc (fun _ => (ag_at_of ha).trans (ag_ck_of hi)) kk
theorem AR.cast {a n : Nat} {i z : Int} {rs : List (Option Nat)} (hc : M.2.2.2.2[pc]? = some (some (.castore, 1))) (ha : h.1[a]? = some (10, n, rs)) (hi : 0 ≤ i ∧ i < n ∧ n ≤ 100000 ∧ 0 ≤ z ∧ z < 65536) (kk : AR E d M (pc + 1, ls, st, (h.1, ag_upd h.2 a i z)) r) : AR E d M (pc, ls, vI z :: vI i :: vA a :: st, h) r :=
  AR.one0 hc (fun _ => (ag_at_of ha).trans (ag_ck_of hi)) kk
theorem AR.last {a n : Nat} {i z : Int} {rs : List (Option Nat)} (hc : M.2.2.2.2[pc]? = some (some (.lastore, 1))) (ha : h.1[a]? = some (11, n, rs)) (hi : 0 ≤ i ∧ i < n ∧ n ≤ 100000) (kk : AR E d M (pc + 1, ls, st, (h.1, ag_upd h.2 a i z)) r) : AR E d M (pc, ls, vJ z :: vI i :: vA a :: st, h) r :=
  AR.one0 hc (fun _ => (ag_at_of ha).trans (ag_ck_of hi)) kk
/-! calls -/
theorem ag_args_st {as rest : List av} {n : Nat} (hn : as.length = n) : ((as.reverse ++ rest).take n).reverse = as ∧ (as.reverse ++ rest).drop n = rest ∧ n ≤ (as.reverse ++ rest).length := by
  subst hn
  refine ⟨?_, ?_, by simp⟩
  · rw [List.take_append_of_le_length (by simp), List.take_of_length_le (by simp), List.reverse_reverse]
  · rw [List.drop_append_of_le_length (by simp), List.drop_of_length_le (by simp), List.nil_append]
theorem AR.callS {ix y n t : Nat} (as : List av) {rest : List av} {o : Option av} {h' : ag_H} (hE : Ev E d y as h (o, h')) (hc : M.2.2.2.2[pc]? = some (some (.invokestatic ix, 3))) (hf : ag_TT.2.1 M.1 ix = some (1, y, n, t)) (hst : st = as.reverse ++ rest) (hn1 : as.length = n) (hn2 : Nat.ble rest.length 4 = true) (kk : AR E d M (pc + 3, ls, ag_push o rest, h') r) : AR E d M (pc, ls, st, h) r := by
  subst hst
  have hn := And.intro hn1 (Nat.le_of_ble_eq_true hn2)
  obtain ⟨N, hN⟩ := hE
  obtain ⟨h1, h2, h3⟩ := ag_args_st (rest := rest) hn.1
  refine AR.one hc ⟨N, fun fuel hfu => ?_⟩ kk
  unfold ag_step
  dsimp only
  rw [hf]
  refine (ag_ck_of ⟨h3, by rw [h2]; exact hn.2⟩).trans ?_
  rw [h1, hN fuel hfu, h2]
theorem ag_recv_of {a t k : Nat} {as : List av} {rs : List (Option Nat)} (hh : h.1[a]? = some (t, k, rs)) : ag_recv h (vA a :: as) t = true := by
  show (match h.1[a]? with | some (t', _) => t' == t | none => false) = true
  rw [hh]
  exact beq_self_eq_true t
theorem AR.callV {ix y n t a k : Nat} (as : List av) {rest : List av} {o : Option av} {h' : ag_H} {rs : List (Option Nat)} (hE : Ev E d y (vA a :: as) h (o, h')) (hh : h.1[a]? = some (t, k, rs)) (hc : M.2.2.2.2[pc]? = some (some (.invokevirtual ix, 3))) (hf : ag_TT.2.1 M.1 ix = some (2, y, n, t)) (hst : st = (vA a :: as).reverse ++ rest) (hn1 : (vA a :: as).length = n) (hn2 : Nat.ble rest.length 4 = true) (kk : AR E d M (pc + 3, ls, ag_push o rest, h') r) : AR E d M (pc, ls, st, h) r := by
  subst hst
  have hn := And.intro hn1 (Nat.le_of_ble_eq_true hn2)
  obtain ⟨N, hN⟩ := hE
  obtain ⟨h1, h2, h3⟩ := ag_args_st (rest := rest) hn.1
  refine AR.one hc ⟨N, fun fuel hfu => ?_⟩ kk
  unfold ag_step
  dsimp only
  rw [hf]
  refine (ag_ck_of ⟨h3, by rw [h2]; exact hn.2, by rw [h1]; exact ag_recv_of hh⟩).trans ?_
  rw [h1, hN fuel hfu, h2]
theorem AR.callI {ix y n t a k : Nat} (as : List av) {rest : List av} {o : Option av} {h' : ag_H} {rs : List (Option Nat)} (hE : Ev E d y (vA a :: as) h (o, h')) (hh : h.1[a]? = some (t, k, rs)) (hc : M.2.2.2.2[pc]? = some (some (.invokespecial ix, 3))) (hf : ag_TT.2.1 M.1 ix = some (3, y, n, t)) (hst : st = (vA a :: as).reverse ++ rest) (hn1 : (vA a :: as).length = n) (hn2 : Nat.ble rest.length 4 = true) (kk : AR E d M (pc + 3, ls, ag_push o rest, h') r) : AR E d M (pc, ls, st, h) r := by
  subst hst
  have hn := And.intro hn1 (Nat.le_of_ble_eq_true hn2)
  obtain ⟨N, hN⟩ := hE
  obtain ⟨h1, h2, h3⟩ := ag_args_st (rest := rest) hn.1
  refine AR.one hc ⟨N, fun fuel hfu => ?_⟩ kk
  unfold ag_step
  dsimp only
  rw [hf]
  refine (ag_ck_of ⟨h3, by rw [h2]; exact hn.2, by rw [h1]; exact ag_recv_of hh⟩).trans ?_
  rw [h1, hN fuel hfu, h2]
/-! returns, switches, the library -/
theorem AR.retI {e z : Int} {h' : ag_H} (hc : M.2.2.2.2[pc]? = some (some (.ireturn, 1))) (he : e = z) (hv : ag_rv M.2.1 (vI e) = true ∧ (M.2.1 = 1 ∨ M.2.1 = 2)) (hh : h = h') : AR E d M (pc, ls, [vI e], h) (fun x => x = (some (vI z), h')) := by
  subst he hh
  exact AR.fin hc (fun _ => ag_ck_of hv) rfl
theorem AR.retZ {e z : Int} {h' : ag_H} (hc : M.2.2.2.2[pc]? = some (some (.ireturn, 1))) (he : e = z) (hr : M.2.1 = 2) (hz : e = 0 ∨ e = 1) (hh : h = h') : AR E d M (pc, ls, [vI e], h) (fun x => x = (some (vI z), h')) := by
  subst he hh
  refine AR.fin hc (fun _ => ag_ck_of ⟨?_, .inr hr⟩) rfl
  show decide (M.2.1 = 1 ∨ M.2.1 = 2 ∧ (e = 0 ∨ e = 1)) = true
  exact decide_eq_true (.inr ⟨hr, hz⟩)
theorem AR.retJ {e z : Int} {h' : ag_H} (hc : M.2.2.2.2[pc]? = some (some (.lreturn, 1))) (he : e = z) (hr : M.2.1 = 3) (hh : h = h') : AR E d M (pc, ls, [vJ e], h) (fun x => x = (some (vJ z), h')) := by
  subst he hh
  refine AR.fin hc (fun _ => ag_ck_of ⟨?_, hr⟩) rfl
  show decide (M.2.1 = 3) = true
  exact decide_eq_true hr
theorem AR.retV {h' : ag_H} (hc : M.2.2.2.2[pc]? = some (some (.return_, 1))) (hr : M.2.1 = 0) (hh : h = h') : AR E d M (pc, ls, [], h) (fun x => x = (none, h')) := by
  subst hh
  exact AR.fin hc (fun _ => ag_ck_of ⟨hr, rfl⟩) rfl
theorem AR.endI {e : Int} (hc : M.2.2.2.2[pc]? = some (some (.ireturn, 1))) (hv : M.2.1 = 1 ∨ M.2.1 = 2 ∧ (e = 0 ∨ e = 1)) (hq : r (some (vI e), h)) : AR E d M (pc, ls, [vI e], h) r := by
  refine AR.fin hc (fun _ => ag_ck_of ⟨decide_eq_true hv, ?_⟩) hq
  rcases hv with q | q
  · exact .inl q
  · exact .inr q.1
theorem AR.endV (hc : M.2.2.2.2[pc]? = some (some (.return_, 1))) (hr : M.2.1 = 0) (hq : r (none, h)) : AR E d M (pc, ls, [], h) r :=
  AR.fin hc (fun _ => ag_ck_of ⟨hr, rfl⟩) hq
theorem AR.tswA {a dd lo hi off : Int} {len : Nat} {offs : Array Int} (j : Nat) (hc : M.2.2.2.2[pc]? = some (some (.tableswitch dd lo hi offs, len))) (ha : ag_in a) {b : Int} (hb : a = b) (ho : offs[j]? = some off) (hj : b = lo + j ∧ b ≤ hi) (k : AR E d M (ag_tgt pc off, ls, st, h) r) : AR E d M (pc, ls, vI a :: st, h) r := by
  subst hb
  refine AR.one0 hc (fun _ => ?_) k
  refine (ag_ck_of ha).trans ((if_neg (by omega)).trans ?_)
  rw [show (a - lo).toNat = j by omega, ho]
theorem AR.tswD {a dd lo hi : Int} {len : Nat} {offs : Array Int} (hc : M.2.2.2.2[pc]? = some (some (.tableswitch dd lo hi offs, len))) (ha : ag_in a) (hj : a < lo ∨ hi < a) (k : AR E d M (ag_tgt pc dd, ls, st, h) r) : AR E d M (pc, ls, vI a :: st, h) r :=
  AR.one0 hc (fun _ => (ag_ck_of ha).trans (if_pos hj)) k
theorem AR.min {a b : Int} {ix y n t : Nat} (hc : M.2.2.2.2[pc]? = some (some (.invokestatic ix, 3))) (hf : ag_TT.2.1 M.1 ix = some (11, y, n, t)) (ha : (ag_in a ∧ ag_in b) ∧ st.length ≤ 3) (k : AR E d M (pc + 3, ls, vI (if b < a then b else a) :: st, h) r) : AR E d M (pc, ls, vI b :: vI a :: st, h) r := by
  refine AR.one0 hc (fun call => ?_) k
  unfold ag_step
  dsimp only
  rw [hf]
  refine (ag_ck_of ⟨by simp only [List.length_cons]; omega, by decide, by decide⟩).trans ?_
  rw [show ag_lib 11 (vI b :: vI a :: st) = some (vI (if b < a then b else a) :: st) from ag_ck_of ha.1]
theorem AR.max {a b : Int} {ix y n t : Nat} (hc : M.2.2.2.2[pc]? = some (some (.invokestatic ix, 3))) (hf : ag_TT.2.1 M.1 ix = some (12, y, n, t)) (ha : (ag_in a ∧ ag_in b) ∧ st.length ≤ 3) (k : AR E d M (pc + 3, ls, vI (if a < b then b else a) :: st, h) r) : AR E d M (pc, ls, vI b :: vI a :: st, h) r := by
  refine AR.one0 hc (fun call => ?_) k
  unfold ag_step
  dsimp only
  rw [hf]
  refine (ag_ck_of ⟨by simp only [List.length_cons]; omega, by decide, by decide⟩).trans ?_
  rw [show ag_lib 12 (vI b :: vI a :: st) = some (vI (if a < b then b else a) :: st) from ag_ck_of ha.1]
theorem AR.charAt {i : Int} {j ix y n t : Nat} (hc : M.2.2.2.2[pc]? = some (some (.invokevirtual ix, 3))) (hf : ag_TT.2.1 M.1 ix = some (14, y, n, t)) (ha : (0 ≤ i ∧ i < 4 ∧ (j = 1 ∨ j = 2)) ∧ st.length ≤ 3) (k : AR E d M (pc + 3, ls, vI (ag_str j i.toNat) :: st, h) r) : AR E d M (pc, ls, vI i :: vX j :: st, h) r := by
  refine AR.one0 hc (fun call => ?_) k
  unfold ag_step
  dsimp only
  rw [hf]
  refine (ag_ck_of (by simp only [List.length_cons]; omega)).trans ?_
  rw [show ag_lib 14 (vI i :: vX j :: st) = some (vI (ag_str j i.toNat) :: st) from ag_ck_of ha.1]
theorem AR.xald {i : Int} (hc : M.2.2.2.2[pc]? = some (some (.iaload, 1))) (hi : 0 ≤ i ∧ i < E.1 ∧ E.1 ≤ 100000) (kk : AR E d M (pc + 1, ls, vI (E.2 i) :: st, h) r) : AR E d M (pc, ls, vI i :: vX 0 :: st, h) r :=
  AR.one0 hc (fun _ => ag_ck_of hi) kk
theorem AR.xlen (hc : M.2.2.2.2[pc]? = some (some (.arraylength, 1))) (kk : AR E d M (pc + 1, ls, vI E.1 :: st, h) r) : AR E d M (pc, ls, vX 0 :: st, h) r :=
  AR.one0 hc (fun _ => rfl) kk
theorem Ev.introQ {y : Nat} {M : ag_M} {as : List av} (hM : ag_Ms[y]? = some M) (hl0 : Nat.ble (ag_args as).length M.2.2.2.1 = true) (k : AR E d M (0, ag_entry M.2.2.2.1 as, [], h) r) : ∃ o, Ev E (d + 1) y as h o ∧ r o := by
  have hl : (ag_args as).length ≤ M.2.2.2.1 := Nat.le_of_ble_eq_true hl0
  obtain ⟨n, N, r, hq, hk⟩ := k
  refine ⟨r, ⟨max n N, fun fuel hf => ?_⟩, hq⟩
  unfold ag_call
  rw [hM]
  dsimp only
  rw [ag_ck_of hl]
  have h1 := hk fuel (by omega)
  obtain ⟨j, rfl⟩ : ∃ j, fuel = n + j := ⟨fuel - n, by omega⟩
  have key : ∀ (T : ag_T) (call : Nat → List av → ag_H → Option ag_O) (n j : Nat) (f : ag_F) (r : ag_O), ag_run T call E M n f = some r → ag_run T call E M (n + j) f = some r := by
    intro T call n
    induction n with
    | zero => intro j f r hr; cases hr
    | succ n ih =>
      intro j f r hr
      obtain ⟨pc, ls, st, h⟩ := f
      rw [Nat.succ_add]
      unfold ag_run at hr ⊢
      split at hr
      · rename_i i len hq
        split at hr
        · rename_i f1 hs
          exact ih j f1 r hr
        · rename_i o1 hs
          exact hr
        · cases hr
      · cases hr
  exact key _ _ n j _ _ h1
theorem Ev.intro {y : Nat} {M : ag_M} {as : List av} {o : ag_O} (hM : ag_Ms[y]? = some M) (hl0 : Nat.ble (ag_args as).length M.2.2.2.1 = true) (k : AR E d M (0, ag_entry M.2.2.2.1 as, [], h) (fun x => x = o)) : Ev E (d + 1) y as h o := by
  obtain ⟨o', h1, rfl⟩ := Ev.introQ hM hl0 k
  exact h1
end AR
/-! deeper calls do as well -/
theorem ag_step_call {T : ag_T} {E : Nat × (Int → Int)} {ci rt : Nat} {ini : Bool} {c1 c2 : Nat → List av → ag_H → Option ag_O} (hcc : ∀ y as h r, c1 y as h = some r → c2 y as h = some r) {i : Instr} {len pc : Nat} {ls : List (Option av)} {st : List av} {h : ag_H} {x : ag_F ⊕ ag_O} (hs : ag_step T c1 E ci rt ini i len pc ls st h = some x) : ag_step T c2 E ci rt ini i len pc ls st h = some x := by
  have go : ∀ {y : Nat} {as : List av} {k : ag_O → ag_R} {x : ag_F ⊕ ag_O}, (match c1 y as h with | some (o, h') => k (o, h') | none => none) = some x → (match c2 y as h with | some (o, h') => k (o, h') | none => none) = some x := by
    intro y as k x hk
    split at hk
    · rename_i o h' hq
      rw [hcc _ _ _ _ hq]
      exact hk
    · cases hk
  cases i with
  | invokevirtual ix =>
    unfold ag_step at hs ⊢
    dsimp only at hs ⊢
    split at hs
    · obtain ⟨h1, h2⟩ := ag_ck_inv hs
      rw [ag_ck_of h1]
      exact go (k := fun q => ag_go (pc + len) ls (ag_push q.1 _) q.2) h2
    · exact hs
    · cases hs
  | invokespecial ix =>
    unfold ag_step at hs ⊢
    dsimp only at hs ⊢
    split at hs
    · obtain ⟨h1, h2⟩ := ag_ck_inv hs
      rw [ag_ck_of h1]
      exact go (k := fun q => ag_go (pc + len) ls (ag_push q.1 _) q.2) h2
    · exact hs
    · cases hs
  | invokestatic ix =>
    unfold ag_step at hs ⊢
    dsimp only at hs ⊢
    split at hs
    · obtain ⟨h1, h2⟩ := ag_ck_inv hs
      rw [ag_ck_of h1]
      exact go (k := fun q => ag_go (pc + len) ls (ag_push q.1 _) q.2) h2
    · exact hs
    · cases hs
  | _ => exact hs
theorem ag_run_call {T : ag_T} {E : Nat × (Int → Int)} {M : ag_M} {c1 c2 : Nat → List av → ag_H → Option ag_O} (hcc : ∀ y as h r, c1 y as h = some r → c2 y as h = some r) : ∀ (n : Nat) (f : ag_F) (r : ag_O), ag_run T c1 E M n f = some r → ag_run T c2 E M n f = some r := by
  intro n
  induction n with
  | zero => intro f r hr; cases hr
  | succ n ih =>
    intro f r hr
    obtain ⟨pc, ls, st, h⟩ := f
    unfold ag_run at hr ⊢
    split at hr
    · rename_i i len hq
      split at hr
      · rename_i f1 hs
        rw [ag_step_call hcc hs]
        exact ih f1 r hr
      · rename_i o1 hs
        rw [ag_step_call hcc hs]
        exact hr
      · cases hr
    · cases hr
theorem ag_call_deep {E : Nat × (Int → Int)} {fuel : Nat} : ∀ (d y : Nat) (as : List av) (h : ag_H) (r : ag_O), ag_call ag_TT ag_Ms E fuel d y as h = some r → ag_call ag_TT ag_Ms E fuel (d + 1) y as h = some r := by
  intro d
  induction d with
  | zero => intro y as h r hc; cases hc
  | succ d ih =>
    intro y as h r hc
    unfold ag_call at hc ⊢
    split at hc
    · obtain ⟨h1, h2⟩ := ag_ck_inv hc
      rw [ag_ck_of h1]
      exact ag_run_call ih _ _ _ h2
    · cases hc
theorem Ev.deep {E : Nat × (Int → Int)} {d y : Nat} {as : List av} {h : ag_H} {r : ag_O} (k : Nat) (hE : Ev E d y as h r) : Ev E (d + k) y as h r := by
  induction k with
  | zero => exact hE
  | succ k ih =>
    obtain ⟨N, hN⟩ := ih
    exact ⟨N, fun fuel hf => ag_call_deep _ _ _ _ _ (hN fuel hf)⟩
theorem Ev.up {E : Nat × (Int → Int)} {d d' y : Nat} {as : List av} {h : ag_H} {r : ag_O} (hE : Ev E d y as h r) (hd : d ≤ d') : Ev E d' y as h r := by
  have := hE.deep (d' - d)
  rwa [show d + (d' - d) = d' by omega] at this
end
section
/-! LEVEL 2: numbers of squares, sides, pieces and directions -/
def m_own (c : Int) : Int := if c = -1 then -1 else c / 2
def m_tug (c : Int) : Int := if c = -1 then 0 else if c % 2 = 1 then 1 else 0
def m_goes (c d : Int) : Int := if m_tug c = 1 then 1 else if d = (if m_own c = 0 then 2 else 0) then 0 else 1
def m_step (d : Int) : Int := if d = 0 then 6 else if d = 1 then 1 else if d = 2 then -6 else -1
def m_room (s d : Int) : Int := if d = 0 then 5 - s / 6 else if d = 1 then 5 - s % 6 else if d = 2 then s / 6 else s % 6
def m_ahead (s d k : Int) : Int := if k ≤ m_room s d then s + k * m_step d else -1
def m_end (l d k : Int) : Int := if d = 0 then (5 - k) * 6 + l else if d = 1 then l * 6 + 5 - k else if d = 2 then k * 6 + l else l * 6 + k
section L2a
variable {E : Nat × (Int → Int)} {C : List ag_C} {N : Nat → Int → Int}

theorem m_own_in (c : Int) (h : -1 ≤ c ∧ c ≤ 3) : -1 ≤ m_own c ∧ m_own c ≤ 1 ∧ (m_own c = -1 ↔ c = -1) := by unfold m_own; omega
theorem m_tug_in (c : Int) : m_tug c = 0 ∨ m_tug c = 1 := by unfold m_tug; omega
theorem m_goes_in (c d : Int) : m_goes c d = 0 ∨ m_goes c d = 1 := by unfold m_goes; omega
theorem m_step_in (d : Int) : -6 ≤ m_step d ∧ m_step d ≤ 6 := by unfold m_step; omega
theorem m_room_in (s d : Int) (h : 0 ≤ s ∧ s < 36) : 0 ≤ m_room s d ∧ m_room s d ≤ 5 := by unfold m_room; omega

theorem ev_X6_isSquare {d : Nat} (hd : 1 ≤ d) (s : Int) (h0 : ag_in s) : Ev E d 90 [vI s] (C, N) (some (vI (if 0 ≤ s ∧ s < 36 then 1 else 0)), (C, N)) := by
  obtain ⟨d, rfl⟩ : ∃ j, d = j + 1 := ⟨d - 1, by omega⟩
  refine Ev.intro (M := ag_mX6_isSquare) rfl rfl ?_
  show AR E d _ (0, [some (vI s)], [], (C, N)) _
  refine AR.blk 1 (f' := (1, [some (vI s)], [vI s], (C, N))) (fun _ => rfl) ?_
  refine AR.if_lt rfl (by omega) (fun c1 => ?_) (fun c1 => ?_)
  · show AR E d _ (14, [some (vI s)], [], (C, N)) _
    refine AR.blk 1 (f' := (15, [some (vI s)], [vI 0], (C, N))) (fun _ => rfl) ?_
    exact AR.retI rfl (by omega) (by decide) rfl
  · show AR E d _ (4, [some (vI s)], [], (C, N)) _
    refine AR.blk 2 (f' := (7, [some (vI s)], [vI 36, vI s], (C, N))) (fun _ => rfl) ?_
    refine AR.ic_ge rfl (by omega) (fun c2 => ?_) (fun c2 => ?_)
    · show AR E d _ (14, [some (vI s)], [], (C, N)) _
      refine AR.blk 1 (f' := (15, [some (vI s)], [vI 0], (C, N))) (fun _ => rfl) ?_
      exact AR.retI rfl (by omega) (by decide) rfl
    · show AR E d _ (10, [some (vI s)], [], (C, N)) _
      refine AR.blk 2 (f' := (15, [some (vI s)], [vI 1], (C, N))) (fun _ => rfl) ?_
      exact AR.retI rfl (by omega) (by decide) rfl

theorem ev_X6_isSide {d : Nat} (hd : 1 ≤ d) (s : Int) (h0 : ag_in s) : Ev E d 91 [vI s] (C, N) (some (vI (if 0 ≤ s ∧ s < 2 then 1 else 0)), (C, N)) := by
  obtain ⟨d, rfl⟩ : ∃ j, d = j + 1 := ⟨d - 1, by omega⟩
  refine Ev.intro (M := ag_mX6_isSide) rfl rfl ?_
  show AR E d _ (0, [some (vI s)], [], (C, N)) _
  refine AR.blk 1 (f' := (1, [some (vI s)], [vI s], (C, N))) (fun _ => rfl) ?_
  refine AR.if_lt rfl (by omega) (fun c1 => ?_) (fun c1 => ?_)
  · show AR E d _ (13, [some (vI s)], [], (C, N)) _
    refine AR.blk 1 (f' := (14, [some (vI s)], [vI 0], (C, N))) (fun _ => rfl) ?_
    exact AR.retI rfl (by omega) (by decide) rfl
  · show AR E d _ (4, [some (vI s)], [], (C, N)) _
    refine AR.blk 2 (f' := (6, [some (vI s)], [vI 2, vI s], (C, N))) (fun _ => rfl) ?_
    refine AR.ic_ge rfl (by omega) (fun c2 => ?_) (fun c2 => ?_)
    · show AR E d _ (13, [some (vI s)], [], (C, N)) _
      refine AR.blk 1 (f' := (14, [some (vI s)], [vI 0], (C, N))) (fun _ => rfl) ?_
      exact AR.retI rfl (by omega) (by decide) rfl
    · show AR E d _ (9, [some (vI s)], [], (C, N)) _
      refine AR.blk 2 (f' := (14, [some (vI s)], [vI 1], (C, N))) (fun _ => rfl) ?_
      exact AR.retI rfl (by omega) (by decide) rfl

theorem ev_X6_isDirection {d : Nat} (hd : 1 ≤ d) (s : Int) (h0 : ag_in s) : Ev E d 92 [vI s] (C, N) (some (vI (if 0 ≤ s ∧ s < 4 then 1 else 0)), (C, N)) := by
  obtain ⟨d, rfl⟩ : ∃ j, d = j + 1 := ⟨d - 1, by omega⟩
  refine Ev.intro (M := ag_mX6_isDirection) rfl rfl ?_
  show AR E d _ (0, [some (vI s)], [], (C, N)) _
  refine AR.blk 1 (f' := (1, [some (vI s)], [vI s], (C, N))) (fun _ => rfl) ?_
  refine AR.if_lt rfl (by omega) (fun c1 => ?_) (fun c1 => ?_)
  · show AR E d _ (13, [some (vI s)], [], (C, N)) _
    refine AR.blk 1 (f' := (14, [some (vI s)], [vI 0], (C, N))) (fun _ => rfl) ?_
    exact AR.retI rfl (by omega) (by decide) rfl
  · show AR E d _ (4, [some (vI s)], [], (C, N)) _
    refine AR.blk 2 (f' := (6, [some (vI s)], [vI 4, vI s], (C, N))) (fun _ => rfl) ?_
    refine AR.ic_ge rfl (by omega) (fun c2 => ?_) (fun c2 => ?_)
    · show AR E d _ (13, [some (vI s)], [], (C, N)) _
      refine AR.blk 1 (f' := (14, [some (vI s)], [vI 0], (C, N))) (fun _ => rfl) ?_
      exact AR.retI rfl (by omega) (by decide) rfl
    · show AR E d _ (9, [some (vI s)], [], (C, N)) _
      refine AR.blk 2 (f' := (14, [some (vI s)], [vI 1], (C, N))) (fun _ => rfl) ?_
      exact AR.retI rfl (by omega) (by decide) rfl

theorem ev_X6_orNothing {d : Nat} (hd : 1 ≤ d) (n : Int) (h0 : ag_in n) : Ev E d 93 [vI n] (C, N) (some (vI (if n < 0 then -4 else n)), (C, N)) := by
  obtain ⟨d, rfl⟩ : ∃ j, d = j + 1 := ⟨d - 1, by omega⟩
  refine Ev.intro (M := ag_mX6_orNothing) rfl rfl ?_
  show AR E d _ (0, [some (vI n)], [], (C, N)) _
  refine AR.blk 1 (f' := (1, [some (vI n)], [vI n], (C, N))) (fun _ => rfl) ?_
  refine AR.if_ge rfl (by omega) (fun c1 => ?_) (fun c1 => ?_)
  · show AR E d _ (9, [some (vI n)], [], (C, N)) _
    refine AR.blk 1 (f' := (10, [some (vI n)], [vI n], (C, N))) (fun _ => rfl) ?_
    exact AR.retI rfl (by omega) ⟨rfl, .inl rfl⟩ rfl
  · show AR E d _ (4, [some (vI n)], [], (C, N)) _
    refine AR.blk 2 (f' := (10, [some (vI n)], [vI (-4)], (C, N))) (fun _ => rfl) ?_
    exact AR.retI rfl (by omega) ⟨rfl, .inl rfl⟩ rfl

theorem ev_X6_otherSide {d : Nat} (hd : 1 ≤ d) (n : Int) : Ev E d 94 [vI n] (C, N) (some (vI (1 - n)), (C, N)) := by
  obtain ⟨d, rfl⟩ : ∃ j, d = j + 1 := ⟨d - 1, by omega⟩
  refine Ev.intro (M := ag_mX6_otherSide) rfl rfl ?_
  show AR E d _ (0, [some (vI n)], [], (C, N)) _
  refine AR.blk 3 (f' := (3, [some (vI n)], [vI (1 - n)], (C, N))) (fun _ => rfl) ?_
  exact AR.retI rfl rfl ⟨rfl, .inl rfl⟩ rfl

theorem ev_X6_ownerOf {d : Nat} (hd : 1 ≤ d) (c : Int) (h0 : -1 ≤ c ∧ c ≤ 3) : Ev E d 95 [vI c] (C, N) (some (vI (m_own c)), (C, N)) := by
  obtain ⟨d, rfl⟩ : ∃ j, d = j + 1 := ⟨d - 1, by omega⟩
  refine Ev.intro (M := ag_mX6_ownerOf) rfl rfl ?_
  show AR E d _ (0, [some (vI c)], [], (C, N)) _
  refine AR.blk 2 (f' := (2, [some (vI c)], [vI (-1), vI c], (C, N))) (fun _ => rfl) ?_
  refine AR.ic_ne rfl (by omega) (fun c1 => ?_) (fun c1 => ?_)
  · show AR E d _ (9, [some (vI c)], [], (C, N)) _
    refine AR.blk 2 (f' := (11, [some (vI c)], [vI 2, vI c], (C, N))) (fun _ => rfl) ?_
    refine AR.idiv rfl (by omega) ?_
    exact AR.retI rfl (by unfold m_own; omega) ⟨rfl, .inl rfl⟩ rfl
  · show AR E d _ (5, [some (vI c)], [], (C, N)) _
    refine AR.blk 2 (f' := (12, [some (vI c)], [vI (-1)], (C, N))) (fun _ => rfl) ?_
    exact AR.retI rfl (by unfold m_own; omega) ⟨rfl, .inl rfl⟩ rfl

theorem ev_X6_isTug {d : Nat} (hd : 1 ≤ d) (c : Int) (h0 : -1 ≤ c ∧ c ≤ 3) : Ev E d 96 [vI c] (C, N) (some (vI (m_tug c)), (C, N)) := by
  obtain ⟨d, rfl⟩ : ∃ j, d = j + 1 := ⟨d - 1, by omega⟩
  refine Ev.intro (M := ag_mX6_isTug) rfl rfl ?_
  show AR E d _ (0, [some (vI c)], [], (C, N)) _
  refine AR.blk 2 (f' := (2, [some (vI c)], [vI (-1), vI c], (C, N))) (fun _ => rfl) ?_
  refine AR.ic_eq rfl (by omega) (fun c1 => ?_) (fun c1 => ?_)
  · show AR E d _ (16, [some (vI c)], [], (C, N)) _
    refine AR.blk 1 (f' := (17, [some (vI c)], [vI 0], (C, N))) (fun _ => rfl) ?_
    exact AR.retI rfl (by unfold m_tug; omega) (by decide) rfl
  · show AR E d _ (5, [some (vI c)], [], (C, N)) _
    refine AR.blk 2 (f' := (7, [some (vI c)], [vI 2, vI c], (C, N))) (fun _ => rfl) ?_
    refine AR.irem rfl (by omega) ?_
    refine AR.blk 1 (f' := (9, [some (vI c)], [vI 1, vI (c % 2)], (C, N))) (fun _ => rfl) ?_
    refine AR.ic_ne rfl (by omega) (fun c2 => ?_) (fun c2 => ?_)
    · show AR E d _ (16, [some (vI c)], [], (C, N)) _
      refine AR.blk 1 (f' := (17, [some (vI c)], [vI 0], (C, N))) (fun _ => rfl) ?_
      exact AR.retI rfl (by unfold m_tug; omega) (by decide) rfl
    · show AR E d _ (12, [some (vI c)], [], (C, N)) _
      refine AR.blk 2 (f' := (17, [some (vI c)], [vI 1], (C, N))) (fun _ => rfl) ?_
      exact AR.retI rfl (by unfold m_tug; omega) (by decide) rfl

theorem ev_X6_goes {d : Nat} (hd : 2 ≤ d) (c q : Int) (h0 : -1 ≤ c ∧ c ≤ 3) (h1 : ag_in q) : Ev E d 97 [vI c, vI q] (C, N) (some (vI (m_goes c q)), (C, N)) := by
  obtain ⟨d, rfl⟩ : ∃ j, d = j + 1 := ⟨d - 1, by omega⟩
  refine Ev.intro (M := ag_mX6_goes) rfl rfl ?_
  show AR E d _ (0, [some (vI c), some (vI q)], [], (C, N)) _
  refine AR.blk 1 (f' := (1, [some (vI c), some (vI q)], [vI c], (C, N))) (fun _ => rfl) ?_
  refine AR.callS [vI c] (ev_X6_isTug (by omega) c (by omega)) rfl rfl rfl rfl rfl ?_
  show AR E d _ (4, [some (vI c), some (vI q)], [vI (m_tug c)], (C, N)) _
  have f1 := m_tug_in (c)
  refine AR.if_ne rfl (by omega) (fun c2 => ?_) (fun c2 => ?_)
  · show AR E d _ (23, [some (vI c), some (vI q)], [], (C, N)) _
    refine AR.blk 2 (f' := (28, [some (vI c), some (vI q)], [vI 1], (C, N))) (fun _ => rfl) ?_
    exact AR.retI rfl (by unfold m_goes; omega) (by decide) rfl
  · show AR E d _ (7, [some (vI c), some (vI q)], [], (C, N)) _
    refine AR.blk 2 (f' := (9, [some (vI c), some (vI q)], [vI c, vI q], (C, N))) (fun _ => rfl) ?_
    refine AR.callS [vI c] (ev_X6_ownerOf (by omega) c (by omega)) rfl rfl rfl rfl rfl ?_
    show AR E d _ (12, [some (vI c), some (vI q)], [vI (m_own c), vI q], (C, N)) _
    have f3 := m_own_in (c) (by omega)
    refine AR.if_ne rfl (by omega) (fun c4 => ?_) (fun c4 => ?_)
    · show AR E d _ (19, [some (vI c), some (vI q)], [vI q], (C, N)) _
      refine AR.blk 1 (f' := (20, [some (vI c), some (vI q)], [vI 0, vI q], (C, N))) (fun _ => rfl) ?_
      refine AR.ic_eq rfl (by omega) (fun c5 => ?_) (fun c5 => ?_)
      · show AR E d _ (27, [some (vI c), some (vI q)], [], (C, N)) _
        refine AR.blk 1 (f' := (28, [some (vI c), some (vI q)], [vI 0], (C, N))) (fun _ => rfl) ?_
        exact AR.retI rfl (by unfold m_goes; omega) (by decide) rfl
      · show AR E d _ (23, [some (vI c), some (vI q)], [], (C, N)) _
        refine AR.blk 2 (f' := (28, [some (vI c), some (vI q)], [vI 1], (C, N))) (fun _ => rfl) ?_
        exact AR.retI rfl (by unfold m_goes; omega) (by decide) rfl
    · show AR E d _ (15, [some (vI c), some (vI q)], [vI q], (C, N)) _
      refine AR.blk 2 (f' := (20, [some (vI c), some (vI q)], [vI 2, vI q], (C, N))) (fun _ => rfl) ?_
      refine AR.ic_eq rfl (by omega) (fun c6 => ?_) (fun c6 => ?_)
      · show AR E d _ (27, [some (vI c), some (vI q)], [], (C, N)) _
        refine AR.blk 1 (f' := (28, [some (vI c), some (vI q)], [vI 0], (C, N))) (fun _ => rfl) ?_
        exact AR.retI rfl (by unfold m_goes; omega) (by decide) rfl
      · show AR E d _ (23, [some (vI c), some (vI q)], [], (C, N)) _
        refine AR.blk 2 (f' := (28, [some (vI c), some (vI q)], [vI 1], (C, N))) (fun _ => rfl) ?_
        exact AR.retI rfl (by unfold m_goes; omega) (by decide) rfl

theorem ev_X6_strengthOf {d : Nat} (hd : 2 ≤ d) (c : Int) (h0 : -1 ≤ c ∧ c ≤ 3) : Ev E d 98 [vI c] (C, N) (some (vI (m_tug c + 1)), (C, N)) := by
  obtain ⟨d, rfl⟩ : ∃ j, d = j + 1 := ⟨d - 1, by omega⟩
  refine Ev.intro (M := ag_mX6_strengthOf) rfl rfl ?_
  show AR E d _ (0, [some (vI c)], [], (C, N)) _
  refine AR.blk 1 (f' := (1, [some (vI c)], [vI c], (C, N))) (fun _ => rfl) ?_
  refine AR.callS [vI c] (ev_X6_isTug (by omega) c (by omega)) rfl rfl rfl rfl rfl ?_
  show AR E d _ (4, [some (vI c)], [vI (m_tug c)], (C, N)) _
  have f1 := m_tug_in (c)
  refine AR.if_eq rfl (by omega) (fun c2 => ?_) (fun c2 => ?_)
  · show AR E d _ (11, [some (vI c)], [], (C, N)) _
    refine AR.blk 1 (f' := (12, [some (vI c)], [vI 1], (C, N))) (fun _ => rfl) ?_
    exact AR.retI rfl (by omega) ⟨rfl, .inl rfl⟩ rfl
  · show AR E d _ (7, [some (vI c)], [], (C, N)) _
    refine AR.blk 2 (f' := (12, [some (vI c)], [vI 2], (C, N))) (fun _ => rfl) ?_
    exact AR.retI rfl (by omega) ⟨rfl, .inl rfl⟩ rfl

theorem ev_X6_lastRowOf {d : Nat} (hd : 1 ≤ d) (s : Int) (h0 : ag_in s) : Ev E d 99 [vI s] (C, N) (some (vI (if s = 0 then 5 else 0)), (C, N)) := by
  obtain ⟨d, rfl⟩ : ∃ j, d = j + 1 := ⟨d - 1, by omega⟩
  refine Ev.intro (M := ag_mX6_lastRowOf) rfl rfl ?_
  show AR E d _ (0, [some (vI s)], [], (C, N)) _
  refine AR.blk 1 (f' := (1, [some (vI s)], [vI s], (C, N))) (fun _ => rfl) ?_
  refine AR.if_ne rfl (by omega) (fun c1 => ?_) (fun c1 => ?_)
  · show AR E d _ (8, [some (vI s)], [], (C, N)) _
    refine AR.blk 1 (f' := (9, [some (vI s)], [vI 0], (C, N))) (fun _ => rfl) ?_
    exact AR.retI rfl (by omega) ⟨rfl, .inl rfl⟩ rfl
  · show AR E d _ (4, [some (vI s)], [], (C, N)) _
    refine AR.blk 2 (f' := (9, [some (vI s)], [vI 5], (C, N))) (fun _ => rfl) ?_
    exact AR.retI rfl (by omega) ⟨rfl, .inl rfl⟩ rfl

theorem ev_X6_stepOf {d : Nat} (hd : 1 ≤ d) (q : Int) (h0 : ag_in q) : Ev E d 100 [vI q] (C, N) (some (vI (m_step q)), (C, N)) := by
  obtain ⟨d, rfl⟩ : ∃ j, d = j + 1 := ⟨d - 1, by omega⟩
  refine Ev.intro (M := ag_mX6_stepOf) rfl rfl ?_
  show AR E d _ (0, [some (vI q)], [], (C, N)) _
  refine AR.blk 1 (f' := (1, [some (vI q)], [vI q], (C, N))) (fun _ => rfl) ?_
  have hsw1 : ag_in q := (by omega)
  by_cases e1 : q = 0
  · refine AR.tswA 0 rfl hsw1 e1 rfl (by omega) ?_
    show AR E d _ (28, [some (vI q)], [], (C, N)) _
    refine AR.blk 1 (f' := (30, [some (vI q)], [vI 6], (C, N))) (fun _ => rfl) ?_
    exact AR.retI rfl (by unfold m_step; omega) ⟨rfl, .inl rfl⟩ rfl
  by_cases e2 : q = 1
  · refine AR.tswA 1 rfl hsw1 e2 rfl (by omega) ?_
    show AR E d _ (31, [some (vI q)], [], (C, N)) _
    refine AR.blk 1 (f' := (32, [some (vI q)], [vI 1], (C, N))) (fun _ => rfl) ?_
    exact AR.retI rfl (by unfold m_step; omega) ⟨rfl, .inl rfl⟩ rfl
  by_cases e3 : q = 2
  · refine AR.tswA 2 rfl hsw1 e3 rfl (by omega) ?_
    show AR E d _ (33, [some (vI q)], [], (C, N)) _
    refine AR.blk 1 (f' := (35, [some (vI q)], [vI (-6)], (C, N))) (fun _ => rfl) ?_
    exact AR.retI rfl (by unfold m_step; omega) ⟨rfl, .inl rfl⟩ rfl
  refine AR.tswD rfl hsw1 (by omega) ?_
  show AR E d _ (36, [some (vI q)], [], (C, N)) _
  refine AR.blk 1 (f' := (37, [some (vI q)], [vI (-1)], (C, N))) (fun _ => rfl) ?_
  exact AR.retI rfl (by unfold m_step; omega) ⟨rfl, .inl rfl⟩ rfl

theorem ev_X6_roomFrom {d : Nat} (hd : 1 ≤ d) (s q : Int) (h0 : 0 ≤ s ∧ s < 36) (h1 : ag_in q) : Ev E d 101 [vI s, vI q] (C, N) (some (vI (m_room s q)), (C, N)) := by
  obtain ⟨d, rfl⟩ : ∃ j, d = j + 1 := ⟨d - 1, by omega⟩
  refine Ev.intro (M := ag_mX6_roomFrom) rfl rfl ?_
  show AR E d _ (0, [some (vI s), some (vI q)], [], (C, N)) _
  refine AR.blk 1 (f' := (1, [some (vI s), some (vI q)], [vI q], (C, N))) (fun _ => rfl) ?_
  have hsw1 : ag_in q := (by omega)
  by_cases e1 : q = 0
  · refine AR.tswA 0 rfl hsw1 e1 rfl (by omega) ?_
    show AR E d _ (28, [some (vI s), some (vI q)], [], (C, N)) _
    refine AR.blk 3 (f' := (32, [some (vI s), some (vI q)], [vI 6, vI s, vI 5], (C, N))) (fun _ => rfl) ?_
    refine AR.idiv rfl (by omega) ?_
    refine AR.blk 1 (f' := (34, [some (vI s), some (vI q)], [vI (5 - (s / 6))], (C, N))) (fun _ => rfl) ?_
    exact AR.retI rfl (by unfold m_room; omega) ⟨rfl, .inl rfl⟩ rfl
  by_cases e2 : q = 1
  · refine AR.tswA 1 rfl hsw1 e2 rfl (by omega) ?_
    show AR E d _ (35, [some (vI s), some (vI q)], [], (C, N)) _
    refine AR.blk 3 (f' := (39, [some (vI s), some (vI q)], [vI 6, vI s, vI 5], (C, N))) (fun _ => rfl) ?_
    refine AR.irem rfl (by omega) ?_
    refine AR.blk 1 (f' := (41, [some (vI s), some (vI q)], [vI (5 - (s % 6))], (C, N))) (fun _ => rfl) ?_
    exact AR.retI rfl (by unfold m_room; omega) ⟨rfl, .inl rfl⟩ rfl
  by_cases e3 : q = 2
  · refine AR.tswA 2 rfl hsw1 e3 rfl (by omega) ?_
    show AR E d _ (42, [some (vI s), some (vI q)], [], (C, N)) _
    refine AR.blk 2 (f' := (45, [some (vI s), some (vI q)], [vI 6, vI s], (C, N))) (fun _ => rfl) ?_
    refine AR.idiv rfl (by omega) ?_
    exact AR.retI rfl (by unfold m_room; omega) ⟨rfl, .inl rfl⟩ rfl
  refine AR.tswD rfl hsw1 (by omega) ?_
  show AR E d _ (47, [some (vI s), some (vI q)], [], (C, N)) _
  refine AR.blk 2 (f' := (50, [some (vI s), some (vI q)], [vI 6, vI s], (C, N))) (fun _ => rfl) ?_
  refine AR.irem rfl (by omega) ?_
  exact AR.retI rfl (by unfold m_room; omega) ⟨rfl, .inl rfl⟩ rfl

theorem ev_X6_ahead {d : Nat} (hd : 2 ≤ d) (s q k : Int) (h0 : 0 ≤ s ∧ s < 36) (h1 : ag_in q) (h2 : ag_in k) : Ev E d 102 [vI s, vI q, vI k] (C, N) (some (vI (m_ahead s q k)), (C, N)) := by
  obtain ⟨d, rfl⟩ : ∃ j, d = j + 1 := ⟨d - 1, by omega⟩
  refine Ev.intro (M := ag_mX6_ahead) rfl rfl ?_
  show AR E d _ (0, [some (vI s), some (vI q), some (vI k)], [], (C, N)) _
  refine AR.blk 3 (f' := (3, [some (vI s), some (vI q), some (vI k)], [vI q, vI s, vI k], (C, N))) (fun _ => rfl) ?_
  refine AR.callS [vI s, vI q] (ev_X6_roomFrom (by omega) s q (by omega) (by omega)) rfl rfl rfl rfl rfl ?_
  show AR E d _ (6, [some (vI s), some (vI q), some (vI k)], [vI (m_room s q), vI k], (C, N)) _
  have f1 := m_room_in (s) (q) (by omega)
  refine AR.ic_gt rfl (by omega) (fun c2 => ?_) (fun c2 => ?_)
  · show AR E d _ (20, [some (vI s), some (vI q), some (vI k)], [], (C, N)) _
    refine AR.blk 1 (f' := (21, [some (vI s), some (vI q), some (vI k)], [vI (-1)], (C, N))) (fun _ => rfl) ?_
    exact AR.retI rfl (by unfold m_ahead; first | omega | (rw [if_pos (by assumption)])) ⟨rfl, .inl rfl⟩ rfl
  · show AR E d _ (9, [some (vI s), some (vI q), some (vI k)], [], (C, N)) _
    refine AR.blk 3 (f' := (12, [some (vI s), some (vI q), some (vI k)], [vI q, vI k, vI s], (C, N))) (fun _ => rfl) ?_
    refine AR.callS [vI q] (ev_X6_stepOf (by omega) q (by omega)) rfl rfl rfl rfl rfl ?_
    show AR E d _ (15, [some (vI s), some (vI q), some (vI k)], [vI (m_step q), vI k, vI s], (C, N)) _
    have f3 := m_step_in (q)
    refine AR.blk 3 (f' := (21, [some (vI s), some (vI q), some (vI k)], [vI (s + (k * (m_step q)))], (C, N))) (fun _ => rfl) ?_
    exact AR.retI rfl (by unfold m_ahead; first | omega | (rw [if_pos (by assumption)])) ⟨rfl, .inl rfl⟩ rfl

theorem ev_X6_fromEnd {d : Nat} (hd : 1 ≤ d) (l q k : Int) (h0 : ag_in q) : Ev E d 103 [vI l, vI q, vI k] (C, N) (some (vI (m_end l q k)), (C, N)) := by
  obtain ⟨d, rfl⟩ : ∃ j, d = j + 1 := ⟨d - 1, by omega⟩
  refine Ev.intro (M := ag_mX6_fromEnd) rfl rfl ?_
  show AR E d _ (0, [some (vI l), some (vI q), some (vI k)], [], (C, N)) _
  refine AR.blk 1 (f' := (1, [some (vI l), some (vI q), some (vI k)], [vI q], (C, N))) (fun _ => rfl) ?_
  have hsw1 : ag_in q := (by omega)
  by_cases e1 : q = 0
  · refine AR.tswA 0 rfl hsw1 e1 rfl (by omega) ?_
    show AR E d _ (28, [some (vI l), some (vI q), some (vI k)], [], (C, N)) _
    refine AR.blk 7 (f' := (36, [some (vI l), some (vI q), some (vI k)], [vI (((5 - k) * 6) + l)], (C, N))) (fun _ => rfl) ?_
    exact AR.retI rfl (by unfold m_end; omega) ⟨rfl, .inl rfl⟩ rfl
  by_cases e2 : q = 1
  · refine AR.tswA 1 rfl hsw1 e2 rfl (by omega) ?_
    show AR E d _ (37, [some (vI l), some (vI q), some (vI k)], [], (C, N)) _
    refine AR.blk 9 (f' := (48, [some (vI l), some (vI q), some (vI k)], [vI ((((l * 6) + 6) - 1) - k)], (C, N))) (fun _ => rfl) ?_
    exact AR.retI rfl (by unfold m_end; omega) ⟨rfl, .inl rfl⟩ rfl
  by_cases e3 : q = 2
  · refine AR.tswA 2 rfl hsw1 e3 rfl (by omega) ?_
    show AR E d _ (49, [some (vI l), some (vI q), some (vI k)], [], (C, N)) _
    refine AR.blk 5 (f' := (55, [some (vI l), some (vI q), some (vI k)], [vI ((k * 6) + l)], (C, N))) (fun _ => rfl) ?_
    exact AR.retI rfl (by unfold m_end; omega) ⟨rfl, .inl rfl⟩ rfl
  refine AR.tswD rfl hsw1 (by omega) ?_
  show AR E d _ (56, [some (vI l), some (vI q), some (vI k)], [], (C, N)) _
  refine AR.blk 5 (f' := (62, [some (vI l), some (vI q), some (vI k)], [vI ((l * 6) + k)], (C, N))) (fun _ => rfl) ?_
  exact AR.retI rfl (by unfold m_end; omega) ⟨rfl, .inl rfl⟩ rfl

end L2a
end
section
/-! LEVEL 2: a board of the class -/
def g_isB (C : List ag_C) (b : Nat) : Prop := C[b]? = some (0, 6, [some (b + 1), none, some (b + 2), some (b + 3), some (b + 4), some (b + 5)]) ∧ C[b + 1]? = some (8, 36, []) ∧ C[b + 2]? = some (8, 4, []) ∧ C[b + 3]? = some (8, 4, []) ∧ C[b + 4]? = some (9, 4, []) ∧ C[b + 5]? = some (8, 4, [])
/-- pieces (-1: none), locks: how many, squares, periods, closed, turns -/
def g_wB (P : Int → Int) (n : Int) (q p cl tn : Int → Int) : Prop := (∀ s, -1 ≤ P s ∧ P s ≤ 3) ∧ (∀ s, ¬ (0 ≤ s ∧ s < 36) → P s = -1) ∧ (0 ≤ n ∧ n ≤ 4) ∧ (∀ k, 0 ≤ k → k < n → (0 ≤ q k ∧ q k < 36) ∧ (2 ≤ p k ∧ p k ≤ 5)) ∧ (∀ k, (cl k = 0 ∨ cl k = 1) ∧ 0 ≤ tn k) ∧ (∀ k, n ≤ k → cl k = 0 ∧ tn k = 0)
def g_rB (N : Nat → Int → Int) (b : Nat) (P : Int → Int) (n : Int) (q p cl tn : Int → Int) : Prop := (∀ s, 0 ≤ s → s < 36 → N (b + 1) s = P s) ∧ N b 1 = n ∧ (∀ k, 0 ≤ k → k < 4 → N (b + 2) k = q k ∧ N (b + 3) k = p k) ∧ (∀ k, 0 ≤ k → k < 4 → N (b + 4) k = cl k ∧ N (b + 5) k = tn k)
def m_sum (f : Int → Int) : Nat → Int
  | 0 => 0
  | k + 1 => m_sum f k + f k
theorem m_sum_succ (f : Int → Int) {k : Int} (h : 0 ≤ k) : m_sum f (k + 1).toNat = m_sum f k.toNat + f k := by
  rw [show (k + 1).toNat = k.toNat + 1 by omega]
  show m_sum f k.toNat + f (k.toNat : Int) = _
  rw [show ((k.toNat : Nat) : Int) = k by omega]
theorem m_sum_b (f : Int → Int) (h : ∀ k, 0 ≤ f k ∧ f k ≤ 1) : ∀ n : Nat, 0 ≤ m_sum f n ∧ m_sum f n ≤ n := by
  intro n
  induction n with
  | zero => exact ⟨Int.le_refl 0, Int.le_refl 0⟩
  | succ n ih =>
    have := h n
    show 0 ≤ m_sum f n + f n ∧ m_sum f n + f n ≤ ((n + 1 : Nat) : Int)
    omega
def m_cnt (P : Int → Int) (w : Int) : Int := m_sum (fun s => if m_own (P s) = w then 1 else 0) 36
def m_tugs (P : Int → Int) (w : Int) : Int := m_sum (fun s => if m_own (P s) = w ∧ m_tug (P s) = 1 then 1 else 0) 36
theorem m_cnt_in (P : Int → Int) (w : Int) : 0 ≤ m_cnt P w ∧ m_cnt P w ≤ 36 := m_sum_b _ (fun k => by omega) 36
theorem m_tugs_in (P : Int → Int) (w : Int) : 0 ≤ m_tugs P w ∧ m_tugs P w ≤ 36 := m_sum_b _ (fun k => by omega) 36
def m_la (n : Int) (q : Int → Int) (s : Int) : Int := if 0 < n ∧ q 0 = s then 0 else if 1 < n ∧ q 1 = s then 1 else if 2 < n ∧ q 2 = s then 2 else if 3 < n ∧ q 3 = s then 3 else -1
theorem m_la_in (n : Int) (q : Int → Int) (s : Int) (h : 0 ≤ n) : -1 ≤ m_la n q s ∧ m_la n q s < 4 ∧ m_la n q s < n + (if n = 0 then 0 else 0) := by unfold m_la; omega
def m_cl (n : Int) (q cl : Int → Int) (s : Int) : Int := if 0 ≤ m_la n q s then cl (m_la n q s) else 0
theorem m_cl_in (n : Int) (q cl : Int → Int) (s : Int) (h : ∀ k, (cl k = 0 ∨ cl k = 1)) : m_cl n q cl s = 0 ∨ m_cl n q cl s = 1 := by
  unfold m_cl
  split
  · exact h _
  · exact .inl rfl
/-- how many pieces stand on from the c-th square ahead, with room for k more -/
def m_fr (P : Int → Int) (s st : Int) : Nat → Int → Int
  | 0, c => c
  | k + 1, c => if P (s + (c + 1) * st) = -1 then c else m_fr P s st k (c + 1)
theorem m_fr_in (P : Int → Int) (s st : Int) : ∀ (k : Nat) (c : Int), c ≤ m_fr P s st k c ∧ m_fr P s st k c ≤ c + k := by
  intro k
  induction k with
  | zero => intro c; exact ⟨Int.le_refl _, by show c ≤ c + 0; omega⟩
  | succ k ih =>
    intro c
    have := ih (c + 1)
    unfold m_fr
    split <;> omega
def m_std (P : Int → Int) (s d : Int) : Int := m_fr P s (m_step d) (m_room s d).toNat 0
theorem m_std_in (P : Int → Int) (s d : Int) (h : 0 ≤ s ∧ s < 36) : 0 ≤ m_std P s d ∧ m_std P s d ≤ m_room s d ∧ m_std P s d ≤ 5 := by
  have h1 := m_fr_in P s (m_step d) (m_room s d).toNat 0
  have h2 := m_room_in s d h
  unfold m_std
  omega
def m_cause (P : Int → Int) (n : Int) (q cl : Int → Int) (s d : Int) : Int := if m_goes (P s) d = 0 then 10 else if m_room s d = 0 then 11 else if m_cl n q cl (m_ahead s d (m_std P s d + 1)) = 1 then 12 else if m_tug (P s) + 1 < m_std P s d then 13 else 0
theorem m_ahead_in (s d k : Int) (h : 0 ≤ s ∧ s < 36) (hd : 0 ≤ d ∧ d < 4) (hk : 0 ≤ k) : -1 ≤ m_ahead s d k ∧ m_ahead s d k < 36 ∧ (m_ahead s d k = -1 ↔ m_room s d < k) := by
  have e : d = 0 ∨ d = 1 ∨ d = 2 ∨ d = 3 := by omega
  unfold m_ahead m_room m_step
  rcases e with rfl | rfl | rfl | rfl <;> simp <;> omega
theorem m_cause_in (P : Int → Int) (n : Int) (q cl : Int → Int) (s d : Int) : 0 ≤ m_cause P n q cl s d ∧ m_cause P n q cl s d ≤ 13 := by unfold m_cause; omega
def m_causeD (P : Int → Int) (c s d : Int) : Int := if c = 10 then m_tug (P s) else if c = 11 then s else if c = 12 then m_ahead s d (m_std P s d + 1) else m_std P s d
def m_off (P : Int → Int) (s d : Int) : Int := if m_std P s d = 0 ∨ m_std P s d < m_room s d then -1 else P (m_ahead s d (m_std P s d))
def m_code (P : Int → Int) (n : Int) (q cl : Int → Int) (w m : Int) : Int := if m_own (P (m / 4)) = w ∧ m_cause P n q cl (m / 4) (m % 4) = 0 then 1 else 0
def m_mv (P : Int → Int) (n : Int) (q cl : Int → Int) (w : Int) : Int := m_sum (m_code P n q cl w) 144
theorem m_code_in (P : Int → Int) (n : Int) (q cl : Int → Int) (w m : Int) : 0 ≤ m_code P n q cl w m ∧ m_code P n q cl w m ≤ 1 := by unfold m_code; omega
theorem m_mv_in (P : Int → Int) (n : Int) (q cl : Int → Int) (w : Int) : 0 ≤ m_mv P n q cl w ∧ m_mv P n q cl w ≤ 144 := m_sum_b _ (m_code_in P n q cl w) 144
def m_sign (P : Int → Int) (n : Int) (q cl : Int → Int) (s : Int) : Int := if P s = 0 then 98 else if P s = 1 then 116 else if P s = 2 then 66 else if P s = 3 then 84 else if m_la n q s = -1 then 46 else if m_cl n q cl s = 1 then 35 else 61
section L2b
variable {E : Nat × (Int → Int)} {C : List ag_C} {N : Nat → Int → Int} {b : Nat} {P : Int → Int} {n : Int} {q p cl tn : Int → Int}

theorem m_off_in (P : Int → Int) (s x : Int) (h : ∀ s, -1 ≤ P s ∧ P s ≤ 3) : -1 ≤ m_off P s x ∧ m_off P s x ≤ 3 := by
  unfold m_off
  split
  · omega
  · exact h _

theorem m_sqs (s x c : Int) (h : 0 ≤ s ∧ s < 36) (hx : 0 ≤ x ∧ x < 4) (hc : 0 ≤ c ∧ c < m_room s x) : 0 ≤ s + (c + 1) * m_step x ∧ s + (c + 1) * m_step x < 36 := by
  have e : x = 0 ∨ x = 1 ∨ x = 2 ∨ x = 3 := by omega
  revert hc
  unfold m_room m_step
  rcases e with rfl | rfl | rfl | rfl <;> simp <;> omega

theorem ev_X0_pieceAt {d : Nat} (hd : 1 ≤ d) (hb : g_isB C b) (hr : g_rB N b P n q p cl tn) (hw : g_wB P n q p cl tn) (s : Int) (h0 : ag_in s) : Ev E d 2 [vA b, vI s] (C, N) (some (vI (P s)), (C, N)) := by
  obtain ⟨d, rfl⟩ : ∃ j, d = j + 1 := ⟨d - 1, by omega⟩
  refine Ev.intro (M := ag_mX0_pieceAt) rfl rfl ?_
  show AR E d _ (0, [some (vA b), some (vI s)], [], (C, N)) _
  refine AR.blk 1 (f' := (1, [some (vA b), some (vI s)], [vI s], (C, N))) (fun _ => rfl) ?_
  refine AR.if_lt rfl (by omega) (fun c1 => ?_) (fun c1 => ?_)
  · show AR E d _ (19, [some (vA b), some (vI s)], [], (C, N)) _
    refine AR.blk 1 (f' := (20, [some (vA b), some (vI s)], [vI (-1)], (C, N))) (fun _ => rfl) ?_
    exact AR.retI rfl (by first | rfl | exact (hw.2.1 _ (by omega)).symm) ⟨rfl, .inl rfl⟩ rfl
  · show AR E d _ (4, [some (vA b), some (vI s)], [], (C, N)) _
    refine AR.blk 2 (f' := (7, [some (vA b), some (vI s)], [vI 36, vI s], (C, N))) (fun _ => rfl) ?_
    refine AR.ic_ge rfl (by omega) (fun c2 => ?_) (fun c2 => ?_)
    · show AR E d _ (19, [some (vA b), some (vI s)], [], (C, N)) _
      refine AR.blk 1 (f' := (20, [some (vA b), some (vI s)], [vI (-1)], (C, N))) (fun _ => rfl) ?_
      exact AR.retI rfl (by first | rfl | exact (hw.2.1 _ (by omega)).symm) ⟨rfl, .inl rfl⟩ rfl
    · show AR E d _ (10, [some (vA b), some (vI s)], [], (C, N)) _
      refine AR.blk 1 (f' := (11, [some (vA b), some (vI s)], [vA b], (C, N))) (fun _ => rfl) ?_
      refine AR.getR rfl rfl hb.1 (by decide) rfl ?_
      refine AR.blk 1 (f' := (15, [some (vA b), some (vI s)], [vI s, vA (b + 1)], (C, N))) (fun _ => rfl) ?_
      have f3 := hw.1 s
      refine AR.iald rfl hb.2.1 (by omega) (v := P s) (hr.1 _ (by omega) (by omega)) ?_
      refine AR.blk 1 (f' := (20, [some (vA b), some (vI s)], [vI (P s)], (C, N))) (fun _ => rfl) ?_
      exact AR.retI rfl (by first | rfl | exact (hw.2.1 _ (by omega)).symm) ⟨rfl, .inl rfl⟩ rfl

theorem ev_X0_countOf {d : Nat} (hd : 2 ≤ d) (hb : g_isB C b) (hr : g_rB N b P n q p cl tn) (hw : g_wB P n q p cl tn) (w : Int) (h0 : ag_in w) : Ev E d 4 [vA b, vI w] (C, N) (some (vI (m_cnt P w)), (C, N)) := by
  obtain ⟨d, rfl⟩ : ∃ j, d = j + 1 := ⟨d - 1, by omega⟩
  refine Ev.intro (M := ag_mX0_countOf) rfl rfl ?_
  show AR E d _ (0, [some (vA b), some (vI w), none, none], [], (C, N)) _
  refine AR.blk 4 (f' := (4, [some (vA b), some (vI w), some (vI 0), some (vI 0)], [], (C, N))) (fun _ => rfl) ?_
  suffices H4 : ∀ (j : Nat) (c : Int) (k : Int), (36 - k).toNat < j → (0 ≤ k ∧ k ≤ 36 ∧ 0 ≤ c ∧ c ≤ k) → (c = m_sum (fun s => if m_own (P s) = w then 1 else 0) k.toNat) → AR E d ag_mX0_countOf (4, [some (vA b), some (vI w), some (vI c), some (vI k)], [], (C, N)) (fun o_ => o_ = (some (vI (m_cnt P w)), (C, N))) by
    exact H4 _ _ _ (Nat.lt_succ_self _) (by omega) rfl
  intro j
  induction j with
  | zero => intro c k hj; exact absurd hj (Nat.not_lt_zero _)
  | succ j ih4 =>
    intro c k hj4 i0 i1
    refine AR.blk 2 (f' := (7, [some (vA b), some (vI w), some (vI c), some (vI k)], [vI 36, vI k], (C, N))) (fun _ => rfl) ?_
    refine AR.ic_ge rfl (by omega) (fun c1 => ?_) (fun c1 => ?_)
    · show AR E d _ (32, [some (vA b), some (vI w), some (vI c), some (vI k)], [], (C, N)) _
      refine AR.blk 1 (f' := (33, [some (vA b), some (vI w), some (vI c), some (vI k)], [vI c], (C, N))) (fun _ => rfl) ?_
      exact AR.retI rfl (by rw [i1, show k = 36 by omega]; rfl) ⟨rfl, .inl rfl⟩ rfl
    · show AR E d _ (10, [some (vA b), some (vI w), some (vI c), some (vI k)], [], (C, N)) _
      refine AR.blk 1 (f' := (11, [some (vA b), some (vI w), some (vI c), some (vI k)], [vA b], (C, N))) (fun _ => rfl) ?_
      refine AR.getR rfl rfl hb.1 (by decide) rfl ?_
      refine AR.blk 1 (f' := (15, [some (vA b), some (vI w), some (vI c), some (vI k)], [vI k, vA (b + 1)], (C, N))) (fun _ => rfl) ?_
      have f2 := hw.1 k
      refine AR.iald rfl hb.2.1 (by omega) (v := P k) (hr.1 _ (by omega) (by omega)) ?_
      refine AR.callS [vI (P k)] (ev_X6_ownerOf (by omega) (P k) (by omega)) rfl rfl rfl rfl rfl ?_
      show AR E d _ (19, [some (vA b), some (vI w), some (vI c), some (vI k)], [vI (m_own (P k))], (C, N)) _
      have f3 := m_own_in ((P k)) (by omega)
      refine AR.blk 1 (f' := (20, [some (vA b), some (vI w), some (vI c), some (vI k)], [vI w, vI (m_own (P k))], (C, N))) (fun _ => rfl) ?_
      refine AR.ic_ne rfl (by omega) (fun c4 => ?_) (fun c4 => ?_)
      · show AR E d _ (26, [some (vA b), some (vI w), some (vI c), some (vI k)], [], (C, N)) _
        refine AR.blk 2 (f' := (4, [some (vA b), some (vI w), some (vI c), some (vI (k + 1))], [], (C, N))) (fun _ => rfl) ?_
        exact ih4 _ _ (by omega) (by omega) (by rw [m_sum_succ _ (by omega), ← i1]; omega)
      · show AR E d _ (23, [some (vA b), some (vI w), some (vI c), some (vI k)], [], (C, N)) _
        refine AR.blk 3 (f' := (4, [some (vA b), some (vI w), some (vI (c + 1)), some (vI (k + 1))], [], (C, N))) (fun _ => rfl) ?_
        exact ih4 _ _ (by omega) (by omega) (by rw [m_sum_succ _ (by omega), ← i1]; omega)

theorem ev_X0_tugsOf {d : Nat} (hd : 2 ≤ d) (hb : g_isB C b) (hr : g_rB N b P n q p cl tn) (hw : g_wB P n q p cl tn) (w : Int) (h0 : ag_in w) : Ev E d 5 [vA b, vI w] (C, N) (some (vI (m_tugs P w)), (C, N)) := by
  obtain ⟨d, rfl⟩ : ∃ j, d = j + 1 := ⟨d - 1, by omega⟩
  refine Ev.intro (M := ag_mX0_tugsOf) rfl rfl ?_
  show AR E d _ (0, [some (vA b), some (vI w), none, none], [], (C, N)) _
  refine AR.blk 4 (f' := (4, [some (vA b), some (vI w), some (vI 0), some (vI 0)], [], (C, N))) (fun _ => rfl) ?_
  suffices H4 : ∀ (j : Nat) (c : Int) (k : Int), (36 - k).toNat < j → (0 ≤ k ∧ k ≤ 36 ∧ 0 ≤ c ∧ c ≤ k) → (c = m_sum (fun s => if m_own (P s) = w ∧ m_tug (P s) = 1 then 1 else 0) k.toNat) → AR E d ag_mX0_tugsOf (4, [some (vA b), some (vI w), some (vI c), some (vI k)], [], (C, N)) (fun o_ => o_ = (some (vI (m_tugs P w)), (C, N))) by
    exact H4 _ _ _ (Nat.lt_succ_self _) (by omega) rfl
  intro j
  induction j with
  | zero => intro c k hj; exact absurd hj (Nat.not_lt_zero _)
  | succ j ih4 =>
    intro c k hj4 i0 i1
    refine AR.blk 2 (f' := (7, [some (vA b), some (vI w), some (vI c), some (vI k)], [vI 36, vI k], (C, N))) (fun _ => rfl) ?_
    refine AR.ic_ge rfl (by omega) (fun c1 => ?_) (fun c1 => ?_)
    · show AR E d _ (44, [some (vA b), some (vI w), some (vI c), some (vI k)], [], (C, N)) _
      refine AR.blk 1 (f' := (45, [some (vA b), some (vI w), some (vI c), some (vI k)], [vI c], (C, N))) (fun _ => rfl) ?_
      exact AR.retI rfl (by rw [i1, show k = 36 by omega]; rfl) ⟨rfl, .inl rfl⟩ rfl
    · show AR E d _ (10, [some (vA b), some (vI w), some (vI c), some (vI k)], [], (C, N)) _
      refine AR.blk 1 (f' := (11, [some (vA b), some (vI w), some (vI c), some (vI k)], [vA b], (C, N))) (fun _ => rfl) ?_
      refine AR.getR rfl rfl hb.1 (by decide) rfl ?_
      refine AR.blk 1 (f' := (15, [some (vA b), some (vI w), some (vI c), some (vI k)], [vI k, vA (b + 1)], (C, N))) (fun _ => rfl) ?_
      have f2 := hw.1 k
      refine AR.iald rfl hb.2.1 (by omega) (v := P k) (hr.1 _ (by omega) (by omega)) ?_
      refine AR.callS [vI (P k)] (ev_X6_ownerOf (by omega) (P k) (by omega)) rfl rfl rfl rfl rfl ?_
      show AR E d _ (19, [some (vA b), some (vI w), some (vI c), some (vI k)], [vI (m_own (P k))], (C, N)) _
      have f3 := m_own_in ((P k)) (by omega)
      refine AR.blk 1 (f' := (20, [some (vA b), some (vI w), some (vI c), some (vI k)], [vI w, vI (m_own (P k))], (C, N))) (fun _ => rfl) ?_
      refine AR.ic_ne rfl (by omega) (fun c4 => ?_) (fun c4 => ?_)
      · show AR E d _ (38, [some (vA b), some (vI w), some (vI c), some (vI k)], [], (C, N)) _
        refine AR.blk 2 (f' := (4, [some (vA b), some (vI w), some (vI c), some (vI (k + 1))], [], (C, N))) (fun _ => rfl) ?_
        exact ih4 _ _ (by omega) (by omega) (by rw [m_sum_succ _ (by omega), ← i1]; omega)
      · show AR E d _ (23, [some (vA b), some (vI w), some (vI c), some (vI k)], [], (C, N)) _
        refine AR.blk 1 (f' := (24, [some (vA b), some (vI w), some (vI c), some (vI k)], [vA b], (C, N))) (fun _ => rfl) ?_
        refine AR.getR rfl rfl hb.1 (by decide) rfl ?_
        refine AR.blk 1 (f' := (28, [some (vA b), some (vI w), some (vI c), some (vI k)], [vI k, vA (b + 1)], (C, N))) (fun _ => rfl) ?_
        have f5 := hw.1 k
        refine AR.iald rfl hb.2.1 (by omega) (v := P k) (hr.1 _ (by omega) (by omega)) ?_
        refine AR.callS [vI (P k)] (ev_X6_isTug (by omega) (P k) (by omega)) rfl rfl rfl rfl rfl ?_
        show AR E d _ (32, [some (vA b), some (vI w), some (vI c), some (vI k)], [vI (m_tug (P k))], (C, N)) _
        have f6 := m_tug_in ((P k))
        refine AR.if_eq rfl (by omega) (fun c7 => ?_) (fun c7 => ?_)
        · show AR E d _ (38, [some (vA b), some (vI w), some (vI c), some (vI k)], [], (C, N)) _
          refine AR.blk 2 (f' := (4, [some (vA b), some (vI w), some (vI c), some (vI (k + 1))], [], (C, N))) (fun _ => rfl) ?_
          exact ih4 _ _ (by omega) (by omega) (by rw [m_sum_succ _ (by omega), ← i1]; omega)
        · show AR E d _ (35, [some (vA b), some (vI w), some (vI c), some (vI k)], [], (C, N)) _
          refine AR.blk 3 (f' := (4, [some (vA b), some (vI w), some (vI (c + 1)), some (vI (k + 1))], [], (C, N))) (fun _ => rfl) ?_
          exact ih4 _ _ (by omega) (by omega) (by rw [m_sum_succ _ (by omega), ← i1]; omega)

theorem ev_X0_hasLock {d : Nat} (hd : 1 ≤ d) (hb : g_isB C b) (hr : g_rB N b P n q p cl tn) (hw : g_wB P n q p cl tn) (l : Int) (h0 : ag_in l) : Ev E d 6 [vA b, vI l] (C, N) (some (vI (if 0 ≤ l ∧ l < n then 1 else 0)), (C, N)) := by
  obtain ⟨d, rfl⟩ : ∃ j, d = j + 1 := ⟨d - 1, by omega⟩
  have f0 := hw.2.2.1
  refine Ev.intro (M := ag_mX0_hasLock) rfl rfl ?_
  show AR E d _ (0, [some (vA b), some (vI l)], [], (C, N)) _
  refine AR.blk 1 (f' := (1, [some (vA b), some (vI l)], [vI l], (C, N))) (fun _ => rfl) ?_
  refine AR.if_lt rfl (by omega) (fun c1 => ?_) (fun c1 => ?_)
  · show AR E d _ (21, [some (vA b), some (vI l)], [], (C, N)) _
    refine AR.blk 1 (f' := (22, [some (vA b), some (vI l)], [vI 0], (C, N))) (fun _ => rfl) ?_
    exact AR.retI rfl (by omega) (by decide) rfl
  · show AR E d _ (4, [some (vA b), some (vI l)], [], (C, N)) _
    refine AR.blk 2 (f' := (6, [some (vA b), some (vI l)], [vA b, vI l], (C, N))) (fun _ => rfl) ?_
    have f2 := hw.2.2.1
    refine AR.getI rfl rfl hb.1 (by decide) (v := n) hr.2.1 ?_
    refine AR.ic_ge rfl (by omega) (fun c3 => ?_) (fun c3 => ?_)
    · show AR E d _ (21, [some (vA b), some (vI l)], [], (C, N)) _
      refine AR.blk 1 (f' := (22, [some (vA b), some (vI l)], [vI 0], (C, N))) (fun _ => rfl) ?_
      exact AR.retI rfl (by omega) (by decide) rfl
    · show AR E d _ (12, [some (vA b), some (vI l)], [], (C, N)) _
      refine AR.blk 2 (f' := (14, [some (vA b), some (vI l)], [vI 4, vI l], (C, N))) (fun _ => rfl) ?_
      refine AR.ic_ge rfl (by omega) (fun c4 => ?_) (fun c4 => ?_)
      · show AR E d _ (21, [some (vA b), some (vI l)], [], (C, N)) _
        refine AR.blk 1 (f' := (22, [some (vA b), some (vI l)], [vI 0], (C, N))) (fun _ => rfl) ?_
        exact AR.retI rfl (by omega) (by decide) rfl
      · show AR E d _ (17, [some (vA b), some (vI l)], [], (C, N)) _
        refine AR.blk 2 (f' := (22, [some (vA b), some (vI l)], [vI 1], (C, N))) (fun _ => rfl) ?_
        exact AR.retI rfl (by omega) (by decide) rfl

theorem ev_X0_lockAt {d : Nat} (hd : 1 ≤ d) (hb : g_isB C b) (hr : g_rB N b P n q p cl tn) (hw : g_wB P n q p cl tn) (s : Int) (h0 : ag_in s) : Ev E d 7 [vA b, vI s] (C, N) (some (vI (m_la n q s)), (C, N)) := by
  obtain ⟨d, rfl⟩ : ∃ j, d = j + 1 := ⟨d - 1, by omega⟩
  refine Ev.intro (M := ag_mX0_lockAt) rfl rfl ?_
  show AR E d _ (0, [some (vA b), some (vI s), none], [], (C, N)) _
  refine AR.blk 4 (f' := (4, [some (vA b), some (vI s), some (vI 0)], [vI 4, vI 0], (C, N))) (fun _ => rfl) ?_
  refine AR.blk 3 (f' := (9, [some (vA b), some (vI s), some (vI 0)], [vA b, vI 0], (C, N))) (fun _ => rfl) ?_
  have f1 := hw.2.2.1
  refine AR.getI rfl rfl hb.1 (by decide) (v := n) hr.2.1 ?_
  refine AR.ic_ge rfl (by omega) (fun c2 => ?_) (fun c2 => ?_)
  · show AR E d _ (27, [some (vA b), some (vI s), some (vI 0)], [], (C, N)) _
    refine AR.blk 4 (f' := (4, [some (vA b), some (vI s), some (vI 1)], [vI 4, vI 1], (C, N))) (fun _ => rfl) ?_
    refine AR.blk 3 (f' := (9, [some (vA b), some (vI s), some (vI 1)], [vA b, vI 1], (C, N))) (fun _ => rfl) ?_
    have f3 := hw.2.2.1
    refine AR.getI rfl rfl hb.1 (by decide) (v := n) hr.2.1 ?_
    refine AR.ic_ge rfl (by omega) (fun c4 => ?_) (fun c4 => ?_)
    · show AR E d _ (27, [some (vA b), some (vI s), some (vI 1)], [], (C, N)) _
      refine AR.blk 4 (f' := (4, [some (vA b), some (vI s), some (vI 2)], [vI 4, vI 2], (C, N))) (fun _ => rfl) ?_
      refine AR.blk 3 (f' := (9, [some (vA b), some (vI s), some (vI 2)], [vA b, vI 2], (C, N))) (fun _ => rfl) ?_
      have f5 := hw.2.2.1
      refine AR.getI rfl rfl hb.1 (by decide) (v := n) hr.2.1 ?_
      refine AR.ic_ge rfl (by omega) (fun c6 => ?_) (fun c6 => ?_)
      · show AR E d _ (27, [some (vA b), some (vI s), some (vI 2)], [], (C, N)) _
        refine AR.blk 4 (f' := (4, [some (vA b), some (vI s), some (vI 3)], [vI 4, vI 3], (C, N))) (fun _ => rfl) ?_
        refine AR.blk 3 (f' := (9, [some (vA b), some (vI s), some (vI 3)], [vA b, vI 3], (C, N))) (fun _ => rfl) ?_
        have f7 := hw.2.2.1
        refine AR.getI rfl rfl hb.1 (by decide) (v := n) hr.2.1 ?_
        refine AR.ic_ge rfl (by omega) (fun c8 => ?_) (fun c8 => ?_)
        · show AR E d _ (27, [some (vA b), some (vI s), some (vI 3)], [], (C, N)) _
          refine AR.blk 4 (f' := (4, [some (vA b), some (vI s), some (vI 4)], [vI 4, vI 4], (C, N))) (fun _ => rfl) ?_
          refine AR.blk 2 (f' := (34, [some (vA b), some (vI s), some (vI 4)], [vI (-1)], (C, N))) (fun _ => rfl) ?_
          exact AR.retI rfl (by unfold m_la; omega) ⟨rfl, .inl rfl⟩ rfl
        · show AR E d _ (15, [some (vA b), some (vI s), some (vI 3)], [], (C, N)) _
          refine AR.blk 1 (f' := (16, [some (vA b), some (vI s), some (vI 3)], [vA b], (C, N))) (fun _ => rfl) ?_
          refine AR.getR rfl rfl hb.1 (by decide) rfl ?_
          refine AR.blk 1 (f' := (20, [some (vA b), some (vI s), some (vI 3)], [vI 3, vA (b + 2)], (C, N))) (fun _ => rfl) ?_
          have f9 := hw.2.2.2.1 3 (by omega) (by omega)
          refine AR.iald rfl hb.2.2.1 (by omega) (v := q 3) (hr.2.2.1 _ (by omega) (by omega)).1 ?_
          refine AR.blk 1 (f' := (22, [some (vA b), some (vI s), some (vI 3)], [vI s, vI (q 3)], (C, N))) (fun _ => rfl) ?_
          refine AR.ic_ne rfl (by omega) (fun c10 => ?_) (fun c10 => ?_)
          · show AR E d _ (27, [some (vA b), some (vI s), some (vI 3)], [], (C, N)) _
            refine AR.blk 4 (f' := (4, [some (vA b), some (vI s), some (vI 4)], [vI 4, vI 4], (C, N))) (fun _ => rfl) ?_
            refine AR.blk 2 (f' := (34, [some (vA b), some (vI s), some (vI 4)], [vI (-1)], (C, N))) (fun _ => rfl) ?_
            exact AR.retI rfl (by unfold m_la; omega) ⟨rfl, .inl rfl⟩ rfl
          · show AR E d _ (25, [some (vA b), some (vI s), some (vI 3)], [], (C, N)) _
            refine AR.blk 1 (f' := (26, [some (vA b), some (vI s), some (vI 3)], [vI 3], (C, N))) (fun _ => rfl) ?_
            exact AR.retI rfl (by unfold m_la; omega) ⟨rfl, .inl rfl⟩ rfl
      · show AR E d _ (15, [some (vA b), some (vI s), some (vI 2)], [], (C, N)) _
        refine AR.blk 1 (f' := (16, [some (vA b), some (vI s), some (vI 2)], [vA b], (C, N))) (fun _ => rfl) ?_
        refine AR.getR rfl rfl hb.1 (by decide) rfl ?_
        refine AR.blk 1 (f' := (20, [some (vA b), some (vI s), some (vI 2)], [vI 2, vA (b + 2)], (C, N))) (fun _ => rfl) ?_
        have f11 := hw.2.2.2.1 2 (by omega) (by omega)
        refine AR.iald rfl hb.2.2.1 (by omega) (v := q 2) (hr.2.2.1 _ (by omega) (by omega)).1 ?_
        refine AR.blk 1 (f' := (22, [some (vA b), some (vI s), some (vI 2)], [vI s, vI (q 2)], (C, N))) (fun _ => rfl) ?_
        refine AR.ic_ne rfl (by omega) (fun c12 => ?_) (fun c12 => ?_)
        · show AR E d _ (27, [some (vA b), some (vI s), some (vI 2)], [], (C, N)) _
          refine AR.blk 4 (f' := (4, [some (vA b), some (vI s), some (vI 3)], [vI 4, vI 3], (C, N))) (fun _ => rfl) ?_
          refine AR.blk 3 (f' := (9, [some (vA b), some (vI s), some (vI 3)], [vA b, vI 3], (C, N))) (fun _ => rfl) ?_
          have f13 := hw.2.2.1
          refine AR.getI rfl rfl hb.1 (by decide) (v := n) hr.2.1 ?_
          refine AR.ic_ge rfl (by omega) (fun c14 => ?_) (fun c14 => ?_)
          · show AR E d _ (27, [some (vA b), some (vI s), some (vI 3)], [], (C, N)) _
            refine AR.blk 4 (f' := (4, [some (vA b), some (vI s), some (vI 4)], [vI 4, vI 4], (C, N))) (fun _ => rfl) ?_
            refine AR.blk 2 (f' := (34, [some (vA b), some (vI s), some (vI 4)], [vI (-1)], (C, N))) (fun _ => rfl) ?_
            exact AR.retI rfl (by unfold m_la; omega) ⟨rfl, .inl rfl⟩ rfl
          · show AR E d _ (15, [some (vA b), some (vI s), some (vI 3)], [], (C, N)) _
            refine AR.blk 1 (f' := (16, [some (vA b), some (vI s), some (vI 3)], [vA b], (C, N))) (fun _ => rfl) ?_
            refine AR.getR rfl rfl hb.1 (by decide) rfl ?_
            refine AR.blk 1 (f' := (20, [some (vA b), some (vI s), some (vI 3)], [vI 3, vA (b + 2)], (C, N))) (fun _ => rfl) ?_
            have f15 := hw.2.2.2.1 3 (by omega) (by omega)
            refine AR.iald rfl hb.2.2.1 (by omega) (v := q 3) (hr.2.2.1 _ (by omega) (by omega)).1 ?_
            refine AR.blk 1 (f' := (22, [some (vA b), some (vI s), some (vI 3)], [vI s, vI (q 3)], (C, N))) (fun _ => rfl) ?_
            refine AR.ic_ne rfl (by omega) (fun c16 => ?_) (fun c16 => ?_)
            · show AR E d _ (27, [some (vA b), some (vI s), some (vI 3)], [], (C, N)) _
              refine AR.blk 4 (f' := (4, [some (vA b), some (vI s), some (vI 4)], [vI 4, vI 4], (C, N))) (fun _ => rfl) ?_
              refine AR.blk 2 (f' := (34, [some (vA b), some (vI s), some (vI 4)], [vI (-1)], (C, N))) (fun _ => rfl) ?_
              exact AR.retI rfl (by unfold m_la; omega) ⟨rfl, .inl rfl⟩ rfl
            · show AR E d _ (25, [some (vA b), some (vI s), some (vI 3)], [], (C, N)) _
              refine AR.blk 1 (f' := (26, [some (vA b), some (vI s), some (vI 3)], [vI 3], (C, N))) (fun _ => rfl) ?_
              exact AR.retI rfl (by unfold m_la; omega) ⟨rfl, .inl rfl⟩ rfl
        · show AR E d _ (25, [some (vA b), some (vI s), some (vI 2)], [], (C, N)) _
          refine AR.blk 1 (f' := (26, [some (vA b), some (vI s), some (vI 2)], [vI 2], (C, N))) (fun _ => rfl) ?_
          exact AR.retI rfl (by unfold m_la; omega) ⟨rfl, .inl rfl⟩ rfl
    · show AR E d _ (15, [some (vA b), some (vI s), some (vI 1)], [], (C, N)) _
      refine AR.blk 1 (f' := (16, [some (vA b), some (vI s), some (vI 1)], [vA b], (C, N))) (fun _ => rfl) ?_
      refine AR.getR rfl rfl hb.1 (by decide) rfl ?_
      refine AR.blk 1 (f' := (20, [some (vA b), some (vI s), some (vI 1)], [vI 1, vA (b + 2)], (C, N))) (fun _ => rfl) ?_
      have f17 := hw.2.2.2.1 1 (by omega) (by omega)
      refine AR.iald rfl hb.2.2.1 (by omega) (v := q 1) (hr.2.2.1 _ (by omega) (by omega)).1 ?_
      refine AR.blk 1 (f' := (22, [some (vA b), some (vI s), some (vI 1)], [vI s, vI (q 1)], (C, N))) (fun _ => rfl) ?_
      refine AR.ic_ne rfl (by omega) (fun c18 => ?_) (fun c18 => ?_)
      · show AR E d _ (27, [some (vA b), some (vI s), some (vI 1)], [], (C, N)) _
        refine AR.blk 4 (f' := (4, [some (vA b), some (vI s), some (vI 2)], [vI 4, vI 2], (C, N))) (fun _ => rfl) ?_
        refine AR.blk 3 (f' := (9, [some (vA b), some (vI s), some (vI 2)], [vA b, vI 2], (C, N))) (fun _ => rfl) ?_
        have f19 := hw.2.2.1
        refine AR.getI rfl rfl hb.1 (by decide) (v := n) hr.2.1 ?_
        refine AR.ic_ge rfl (by omega) (fun c20 => ?_) (fun c20 => ?_)
        · show AR E d _ (27, [some (vA b), some (vI s), some (vI 2)], [], (C, N)) _
          refine AR.blk 4 (f' := (4, [some (vA b), some (vI s), some (vI 3)], [vI 4, vI 3], (C, N))) (fun _ => rfl) ?_
          refine AR.blk 3 (f' := (9, [some (vA b), some (vI s), some (vI 3)], [vA b, vI 3], (C, N))) (fun _ => rfl) ?_
          have f21 := hw.2.2.1
          refine AR.getI rfl rfl hb.1 (by decide) (v := n) hr.2.1 ?_
          refine AR.ic_ge rfl (by omega) (fun c22 => ?_) (fun c22 => ?_)
          · show AR E d _ (27, [some (vA b), some (vI s), some (vI 3)], [], (C, N)) _
            refine AR.blk 4 (f' := (4, [some (vA b), some (vI s), some (vI 4)], [vI 4, vI 4], (C, N))) (fun _ => rfl) ?_
            refine AR.blk 2 (f' := (34, [some (vA b), some (vI s), some (vI 4)], [vI (-1)], (C, N))) (fun _ => rfl) ?_
            exact AR.retI rfl (by unfold m_la; omega) ⟨rfl, .inl rfl⟩ rfl
          · show AR E d _ (15, [some (vA b), some (vI s), some (vI 3)], [], (C, N)) _
            refine AR.blk 1 (f' := (16, [some (vA b), some (vI s), some (vI 3)], [vA b], (C, N))) (fun _ => rfl) ?_
            refine AR.getR rfl rfl hb.1 (by decide) rfl ?_
            refine AR.blk 1 (f' := (20, [some (vA b), some (vI s), some (vI 3)], [vI 3, vA (b + 2)], (C, N))) (fun _ => rfl) ?_
            have f23 := hw.2.2.2.1 3 (by omega) (by omega)
            refine AR.iald rfl hb.2.2.1 (by omega) (v := q 3) (hr.2.2.1 _ (by omega) (by omega)).1 ?_
            refine AR.blk 1 (f' := (22, [some (vA b), some (vI s), some (vI 3)], [vI s, vI (q 3)], (C, N))) (fun _ => rfl) ?_
            refine AR.ic_ne rfl (by omega) (fun c24 => ?_) (fun c24 => ?_)
            · show AR E d _ (27, [some (vA b), some (vI s), some (vI 3)], [], (C, N)) _
              refine AR.blk 4 (f' := (4, [some (vA b), some (vI s), some (vI 4)], [vI 4, vI 4], (C, N))) (fun _ => rfl) ?_
              refine AR.blk 2 (f' := (34, [some (vA b), some (vI s), some (vI 4)], [vI (-1)], (C, N))) (fun _ => rfl) ?_
              exact AR.retI rfl (by unfold m_la; omega) ⟨rfl, .inl rfl⟩ rfl
            · show AR E d _ (25, [some (vA b), some (vI s), some (vI 3)], [], (C, N)) _
              refine AR.blk 1 (f' := (26, [some (vA b), some (vI s), some (vI 3)], [vI 3], (C, N))) (fun _ => rfl) ?_
              exact AR.retI rfl (by unfold m_la; omega) ⟨rfl, .inl rfl⟩ rfl
        · show AR E d _ (15, [some (vA b), some (vI s), some (vI 2)], [], (C, N)) _
          refine AR.blk 1 (f' := (16, [some (vA b), some (vI s), some (vI 2)], [vA b], (C, N))) (fun _ => rfl) ?_
          refine AR.getR rfl rfl hb.1 (by decide) rfl ?_
          refine AR.blk 1 (f' := (20, [some (vA b), some (vI s), some (vI 2)], [vI 2, vA (b + 2)], (C, N))) (fun _ => rfl) ?_
          have f25 := hw.2.2.2.1 2 (by omega) (by omega)
          refine AR.iald rfl hb.2.2.1 (by omega) (v := q 2) (hr.2.2.1 _ (by omega) (by omega)).1 ?_
          refine AR.blk 1 (f' := (22, [some (vA b), some (vI s), some (vI 2)], [vI s, vI (q 2)], (C, N))) (fun _ => rfl) ?_
          refine AR.ic_ne rfl (by omega) (fun c26 => ?_) (fun c26 => ?_)
          · show AR E d _ (27, [some (vA b), some (vI s), some (vI 2)], [], (C, N)) _
            refine AR.blk 4 (f' := (4, [some (vA b), some (vI s), some (vI 3)], [vI 4, vI 3], (C, N))) (fun _ => rfl) ?_
            refine AR.blk 3 (f' := (9, [some (vA b), some (vI s), some (vI 3)], [vA b, vI 3], (C, N))) (fun _ => rfl) ?_
            have f27 := hw.2.2.1
            refine AR.getI rfl rfl hb.1 (by decide) (v := n) hr.2.1 ?_
            refine AR.ic_ge rfl (by omega) (fun c28 => ?_) (fun c28 => ?_)
            · show AR E d _ (27, [some (vA b), some (vI s), some (vI 3)], [], (C, N)) _
              refine AR.blk 4 (f' := (4, [some (vA b), some (vI s), some (vI 4)], [vI 4, vI 4], (C, N))) (fun _ => rfl) ?_
              refine AR.blk 2 (f' := (34, [some (vA b), some (vI s), some (vI 4)], [vI (-1)], (C, N))) (fun _ => rfl) ?_
              exact AR.retI rfl (by unfold m_la; omega) ⟨rfl, .inl rfl⟩ rfl
            · show AR E d _ (15, [some (vA b), some (vI s), some (vI 3)], [], (C, N)) _
              refine AR.blk 1 (f' := (16, [some (vA b), some (vI s), some (vI 3)], [vA b], (C, N))) (fun _ => rfl) ?_
              refine AR.getR rfl rfl hb.1 (by decide) rfl ?_
              refine AR.blk 1 (f' := (20, [some (vA b), some (vI s), some (vI 3)], [vI 3, vA (b + 2)], (C, N))) (fun _ => rfl) ?_
              have f29 := hw.2.2.2.1 3 (by omega) (by omega)
              refine AR.iald rfl hb.2.2.1 (by omega) (v := q 3) (hr.2.2.1 _ (by omega) (by omega)).1 ?_
              refine AR.blk 1 (f' := (22, [some (vA b), some (vI s), some (vI 3)], [vI s, vI (q 3)], (C, N))) (fun _ => rfl) ?_
              refine AR.ic_ne rfl (by omega) (fun c30 => ?_) (fun c30 => ?_)
              · show AR E d _ (27, [some (vA b), some (vI s), some (vI 3)], [], (C, N)) _
                refine AR.blk 4 (f' := (4, [some (vA b), some (vI s), some (vI 4)], [vI 4, vI 4], (C, N))) (fun _ => rfl) ?_
                refine AR.blk 2 (f' := (34, [some (vA b), some (vI s), some (vI 4)], [vI (-1)], (C, N))) (fun _ => rfl) ?_
                exact AR.retI rfl (by unfold m_la; omega) ⟨rfl, .inl rfl⟩ rfl
              · show AR E d _ (25, [some (vA b), some (vI s), some (vI 3)], [], (C, N)) _
                refine AR.blk 1 (f' := (26, [some (vA b), some (vI s), some (vI 3)], [vI 3], (C, N))) (fun _ => rfl) ?_
                exact AR.retI rfl (by unfold m_la; omega) ⟨rfl, .inl rfl⟩ rfl
          · show AR E d _ (25, [some (vA b), some (vI s), some (vI 2)], [], (C, N)) _
            refine AR.blk 1 (f' := (26, [some (vA b), some (vI s), some (vI 2)], [vI 2], (C, N))) (fun _ => rfl) ?_
            exact AR.retI rfl (by unfold m_la; omega) ⟨rfl, .inl rfl⟩ rfl
      · show AR E d _ (25, [some (vA b), some (vI s), some (vI 1)], [], (C, N)) _
        refine AR.blk 1 (f' := (26, [some (vA b), some (vI s), some (vI 1)], [vI 1], (C, N))) (fun _ => rfl) ?_
        exact AR.retI rfl (by unfold m_la; omega) ⟨rfl, .inl rfl⟩ rfl
  · show AR E d _ (15, [some (vA b), some (vI s), some (vI 0)], [], (C, N)) _
    refine AR.blk 1 (f' := (16, [some (vA b), some (vI s), some (vI 0)], [vA b], (C, N))) (fun _ => rfl) ?_
    refine AR.getR rfl rfl hb.1 (by decide) rfl ?_
    refine AR.blk 1 (f' := (20, [some (vA b), some (vI s), some (vI 0)], [vI 0, vA (b + 2)], (C, N))) (fun _ => rfl) ?_
    have f31 := hw.2.2.2.1 0 (by omega) (by omega)
    refine AR.iald rfl hb.2.2.1 (by omega) (v := q 0) (hr.2.2.1 _ (by omega) (by omega)).1 ?_
    refine AR.blk 1 (f' := (22, [some (vA b), some (vI s), some (vI 0)], [vI s, vI (q 0)], (C, N))) (fun _ => rfl) ?_
    refine AR.ic_ne rfl (by omega) (fun c32 => ?_) (fun c32 => ?_)
    · show AR E d _ (27, [some (vA b), some (vI s), some (vI 0)], [], (C, N)) _
      refine AR.blk 4 (f' := (4, [some (vA b), some (vI s), some (vI 1)], [vI 4, vI 1], (C, N))) (fun _ => rfl) ?_
      refine AR.blk 3 (f' := (9, [some (vA b), some (vI s), some (vI 1)], [vA b, vI 1], (C, N))) (fun _ => rfl) ?_
      have f33 := hw.2.2.1
      refine AR.getI rfl rfl hb.1 (by decide) (v := n) hr.2.1 ?_
      refine AR.ic_ge rfl (by omega) (fun c34 => ?_) (fun c34 => ?_)
      · show AR E d _ (27, [some (vA b), some (vI s), some (vI 1)], [], (C, N)) _
        refine AR.blk 4 (f' := (4, [some (vA b), some (vI s), some (vI 2)], [vI 4, vI 2], (C, N))) (fun _ => rfl) ?_
        refine AR.blk 3 (f' := (9, [some (vA b), some (vI s), some (vI 2)], [vA b, vI 2], (C, N))) (fun _ => rfl) ?_
        have f35 := hw.2.2.1
        refine AR.getI rfl rfl hb.1 (by decide) (v := n) hr.2.1 ?_
        refine AR.ic_ge rfl (by omega) (fun c36 => ?_) (fun c36 => ?_)
        · show AR E d _ (27, [some (vA b), some (vI s), some (vI 2)], [], (C, N)) _
          refine AR.blk 4 (f' := (4, [some (vA b), some (vI s), some (vI 3)], [vI 4, vI 3], (C, N))) (fun _ => rfl) ?_
          refine AR.blk 3 (f' := (9, [some (vA b), some (vI s), some (vI 3)], [vA b, vI 3], (C, N))) (fun _ => rfl) ?_
          have f37 := hw.2.2.1
          refine AR.getI rfl rfl hb.1 (by decide) (v := n) hr.2.1 ?_
          refine AR.ic_ge rfl (by omega) (fun c38 => ?_) (fun c38 => ?_)
          · show AR E d _ (27, [some (vA b), some (vI s), some (vI 3)], [], (C, N)) _
            refine AR.blk 4 (f' := (4, [some (vA b), some (vI s), some (vI 4)], [vI 4, vI 4], (C, N))) (fun _ => rfl) ?_
            refine AR.blk 2 (f' := (34, [some (vA b), some (vI s), some (vI 4)], [vI (-1)], (C, N))) (fun _ => rfl) ?_
            exact AR.retI rfl (by unfold m_la; omega) ⟨rfl, .inl rfl⟩ rfl
          · show AR E d _ (15, [some (vA b), some (vI s), some (vI 3)], [], (C, N)) _
            refine AR.blk 1 (f' := (16, [some (vA b), some (vI s), some (vI 3)], [vA b], (C, N))) (fun _ => rfl) ?_
            refine AR.getR rfl rfl hb.1 (by decide) rfl ?_
            refine AR.blk 1 (f' := (20, [some (vA b), some (vI s), some (vI 3)], [vI 3, vA (b + 2)], (C, N))) (fun _ => rfl) ?_
            have f39 := hw.2.2.2.1 3 (by omega) (by omega)
            refine AR.iald rfl hb.2.2.1 (by omega) (v := q 3) (hr.2.2.1 _ (by omega) (by omega)).1 ?_
            refine AR.blk 1 (f' := (22, [some (vA b), some (vI s), some (vI 3)], [vI s, vI (q 3)], (C, N))) (fun _ => rfl) ?_
            refine AR.ic_ne rfl (by omega) (fun c40 => ?_) (fun c40 => ?_)
            · show AR E d _ (27, [some (vA b), some (vI s), some (vI 3)], [], (C, N)) _
              refine AR.blk 4 (f' := (4, [some (vA b), some (vI s), some (vI 4)], [vI 4, vI 4], (C, N))) (fun _ => rfl) ?_
              refine AR.blk 2 (f' := (34, [some (vA b), some (vI s), some (vI 4)], [vI (-1)], (C, N))) (fun _ => rfl) ?_
              exact AR.retI rfl (by unfold m_la; omega) ⟨rfl, .inl rfl⟩ rfl
            · show AR E d _ (25, [some (vA b), some (vI s), some (vI 3)], [], (C, N)) _
              refine AR.blk 1 (f' := (26, [some (vA b), some (vI s), some (vI 3)], [vI 3], (C, N))) (fun _ => rfl) ?_
              exact AR.retI rfl (by unfold m_la; omega) ⟨rfl, .inl rfl⟩ rfl
        · show AR E d _ (15, [some (vA b), some (vI s), some (vI 2)], [], (C, N)) _
          refine AR.blk 1 (f' := (16, [some (vA b), some (vI s), some (vI 2)], [vA b], (C, N))) (fun _ => rfl) ?_
          refine AR.getR rfl rfl hb.1 (by decide) rfl ?_
          refine AR.blk 1 (f' := (20, [some (vA b), some (vI s), some (vI 2)], [vI 2, vA (b + 2)], (C, N))) (fun _ => rfl) ?_
          have f41 := hw.2.2.2.1 2 (by omega) (by omega)
          refine AR.iald rfl hb.2.2.1 (by omega) (v := q 2) (hr.2.2.1 _ (by omega) (by omega)).1 ?_
          refine AR.blk 1 (f' := (22, [some (vA b), some (vI s), some (vI 2)], [vI s, vI (q 2)], (C, N))) (fun _ => rfl) ?_
          refine AR.ic_ne rfl (by omega) (fun c42 => ?_) (fun c42 => ?_)
          · show AR E d _ (27, [some (vA b), some (vI s), some (vI 2)], [], (C, N)) _
            refine AR.blk 4 (f' := (4, [some (vA b), some (vI s), some (vI 3)], [vI 4, vI 3], (C, N))) (fun _ => rfl) ?_
            refine AR.blk 3 (f' := (9, [some (vA b), some (vI s), some (vI 3)], [vA b, vI 3], (C, N))) (fun _ => rfl) ?_
            have f43 := hw.2.2.1
            refine AR.getI rfl rfl hb.1 (by decide) (v := n) hr.2.1 ?_
            refine AR.ic_ge rfl (by omega) (fun c44 => ?_) (fun c44 => ?_)
            · show AR E d _ (27, [some (vA b), some (vI s), some (vI 3)], [], (C, N)) _
              refine AR.blk 4 (f' := (4, [some (vA b), some (vI s), some (vI 4)], [vI 4, vI 4], (C, N))) (fun _ => rfl) ?_
              refine AR.blk 2 (f' := (34, [some (vA b), some (vI s), some (vI 4)], [vI (-1)], (C, N))) (fun _ => rfl) ?_
              exact AR.retI rfl (by unfold m_la; omega) ⟨rfl, .inl rfl⟩ rfl
            · show AR E d _ (15, [some (vA b), some (vI s), some (vI 3)], [], (C, N)) _
              refine AR.blk 1 (f' := (16, [some (vA b), some (vI s), some (vI 3)], [vA b], (C, N))) (fun _ => rfl) ?_
              refine AR.getR rfl rfl hb.1 (by decide) rfl ?_
              refine AR.blk 1 (f' := (20, [some (vA b), some (vI s), some (vI 3)], [vI 3, vA (b + 2)], (C, N))) (fun _ => rfl) ?_
              have f45 := hw.2.2.2.1 3 (by omega) (by omega)
              refine AR.iald rfl hb.2.2.1 (by omega) (v := q 3) (hr.2.2.1 _ (by omega) (by omega)).1 ?_
              refine AR.blk 1 (f' := (22, [some (vA b), some (vI s), some (vI 3)], [vI s, vI (q 3)], (C, N))) (fun _ => rfl) ?_
              refine AR.ic_ne rfl (by omega) (fun c46 => ?_) (fun c46 => ?_)
              · show AR E d _ (27, [some (vA b), some (vI s), some (vI 3)], [], (C, N)) _
                refine AR.blk 4 (f' := (4, [some (vA b), some (vI s), some (vI 4)], [vI 4, vI 4], (C, N))) (fun _ => rfl) ?_
                refine AR.blk 2 (f' := (34, [some (vA b), some (vI s), some (vI 4)], [vI (-1)], (C, N))) (fun _ => rfl) ?_
                exact AR.retI rfl (by unfold m_la; omega) ⟨rfl, .inl rfl⟩ rfl
              · show AR E d _ (25, [some (vA b), some (vI s), some (vI 3)], [], (C, N)) _
                refine AR.blk 1 (f' := (26, [some (vA b), some (vI s), some (vI 3)], [vI 3], (C, N))) (fun _ => rfl) ?_
                exact AR.retI rfl (by unfold m_la; omega) ⟨rfl, .inl rfl⟩ rfl
          · show AR E d _ (25, [some (vA b), some (vI s), some (vI 2)], [], (C, N)) _
            refine AR.blk 1 (f' := (26, [some (vA b), some (vI s), some (vI 2)], [vI 2], (C, N))) (fun _ => rfl) ?_
            exact AR.retI rfl (by unfold m_la; omega) ⟨rfl, .inl rfl⟩ rfl
      · show AR E d _ (15, [some (vA b), some (vI s), some (vI 1)], [], (C, N)) _
        refine AR.blk 1 (f' := (16, [some (vA b), some (vI s), some (vI 1)], [vA b], (C, N))) (fun _ => rfl) ?_
        refine AR.getR rfl rfl hb.1 (by decide) rfl ?_
        refine AR.blk 1 (f' := (20, [some (vA b), some (vI s), some (vI 1)], [vI 1, vA (b + 2)], (C, N))) (fun _ => rfl) ?_
        have f47 := hw.2.2.2.1 1 (by omega) (by omega)
        refine AR.iald rfl hb.2.2.1 (by omega) (v := q 1) (hr.2.2.1 _ (by omega) (by omega)).1 ?_
        refine AR.blk 1 (f' := (22, [some (vA b), some (vI s), some (vI 1)], [vI s, vI (q 1)], (C, N))) (fun _ => rfl) ?_
        refine AR.ic_ne rfl (by omega) (fun c48 => ?_) (fun c48 => ?_)
        · show AR E d _ (27, [some (vA b), some (vI s), some (vI 1)], [], (C, N)) _
          refine AR.blk 4 (f' := (4, [some (vA b), some (vI s), some (vI 2)], [vI 4, vI 2], (C, N))) (fun _ => rfl) ?_
          refine AR.blk 3 (f' := (9, [some (vA b), some (vI s), some (vI 2)], [vA b, vI 2], (C, N))) (fun _ => rfl) ?_
          have f49 := hw.2.2.1
          refine AR.getI rfl rfl hb.1 (by decide) (v := n) hr.2.1 ?_
          refine AR.ic_ge rfl (by omega) (fun c50 => ?_) (fun c50 => ?_)
          · show AR E d _ (27, [some (vA b), some (vI s), some (vI 2)], [], (C, N)) _
            refine AR.blk 4 (f' := (4, [some (vA b), some (vI s), some (vI 3)], [vI 4, vI 3], (C, N))) (fun _ => rfl) ?_
            refine AR.blk 3 (f' := (9, [some (vA b), some (vI s), some (vI 3)], [vA b, vI 3], (C, N))) (fun _ => rfl) ?_
            have f51 := hw.2.2.1
            refine AR.getI rfl rfl hb.1 (by decide) (v := n) hr.2.1 ?_
            refine AR.ic_ge rfl (by omega) (fun c52 => ?_) (fun c52 => ?_)
            · show AR E d _ (27, [some (vA b), some (vI s), some (vI 3)], [], (C, N)) _
              refine AR.blk 4 (f' := (4, [some (vA b), some (vI s), some (vI 4)], [vI 4, vI 4], (C, N))) (fun _ => rfl) ?_
              refine AR.blk 2 (f' := (34, [some (vA b), some (vI s), some (vI 4)], [vI (-1)], (C, N))) (fun _ => rfl) ?_
              exact AR.retI rfl (by unfold m_la; omega) ⟨rfl, .inl rfl⟩ rfl
            · show AR E d _ (15, [some (vA b), some (vI s), some (vI 3)], [], (C, N)) _
              refine AR.blk 1 (f' := (16, [some (vA b), some (vI s), some (vI 3)], [vA b], (C, N))) (fun _ => rfl) ?_
              refine AR.getR rfl rfl hb.1 (by decide) rfl ?_
              refine AR.blk 1 (f' := (20, [some (vA b), some (vI s), some (vI 3)], [vI 3, vA (b + 2)], (C, N))) (fun _ => rfl) ?_
              have f53 := hw.2.2.2.1 3 (by omega) (by omega)
              refine AR.iald rfl hb.2.2.1 (by omega) (v := q 3) (hr.2.2.1 _ (by omega) (by omega)).1 ?_
              refine AR.blk 1 (f' := (22, [some (vA b), some (vI s), some (vI 3)], [vI s, vI (q 3)], (C, N))) (fun _ => rfl) ?_
              refine AR.ic_ne rfl (by omega) (fun c54 => ?_) (fun c54 => ?_)
              · show AR E d _ (27, [some (vA b), some (vI s), some (vI 3)], [], (C, N)) _
                refine AR.blk 4 (f' := (4, [some (vA b), some (vI s), some (vI 4)], [vI 4, vI 4], (C, N))) (fun _ => rfl) ?_
                refine AR.blk 2 (f' := (34, [some (vA b), some (vI s), some (vI 4)], [vI (-1)], (C, N))) (fun _ => rfl) ?_
                exact AR.retI rfl (by unfold m_la; omega) ⟨rfl, .inl rfl⟩ rfl
              · show AR E d _ (25, [some (vA b), some (vI s), some (vI 3)], [], (C, N)) _
                refine AR.blk 1 (f' := (26, [some (vA b), some (vI s), some (vI 3)], [vI 3], (C, N))) (fun _ => rfl) ?_
                exact AR.retI rfl (by unfold m_la; omega) ⟨rfl, .inl rfl⟩ rfl
          · show AR E d _ (15, [some (vA b), some (vI s), some (vI 2)], [], (C, N)) _
            refine AR.blk 1 (f' := (16, [some (vA b), some (vI s), some (vI 2)], [vA b], (C, N))) (fun _ => rfl) ?_
            refine AR.getR rfl rfl hb.1 (by decide) rfl ?_
            refine AR.blk 1 (f' := (20, [some (vA b), some (vI s), some (vI 2)], [vI 2, vA (b + 2)], (C, N))) (fun _ => rfl) ?_
            have f55 := hw.2.2.2.1 2 (by omega) (by omega)
            refine AR.iald rfl hb.2.2.1 (by omega) (v := q 2) (hr.2.2.1 _ (by omega) (by omega)).1 ?_
            refine AR.blk 1 (f' := (22, [some (vA b), some (vI s), some (vI 2)], [vI s, vI (q 2)], (C, N))) (fun _ => rfl) ?_
            refine AR.ic_ne rfl (by omega) (fun c56 => ?_) (fun c56 => ?_)
            · show AR E d _ (27, [some (vA b), some (vI s), some (vI 2)], [], (C, N)) _
              refine AR.blk 4 (f' := (4, [some (vA b), some (vI s), some (vI 3)], [vI 4, vI 3], (C, N))) (fun _ => rfl) ?_
              refine AR.blk 3 (f' := (9, [some (vA b), some (vI s), some (vI 3)], [vA b, vI 3], (C, N))) (fun _ => rfl) ?_
              have f57 := hw.2.2.1
              refine AR.getI rfl rfl hb.1 (by decide) (v := n) hr.2.1 ?_
              refine AR.ic_ge rfl (by omega) (fun c58 => ?_) (fun c58 => ?_)
              · show AR E d _ (27, [some (vA b), some (vI s), some (vI 3)], [], (C, N)) _
                refine AR.blk 4 (f' := (4, [some (vA b), some (vI s), some (vI 4)], [vI 4, vI 4], (C, N))) (fun _ => rfl) ?_
                refine AR.blk 2 (f' := (34, [some (vA b), some (vI s), some (vI 4)], [vI (-1)], (C, N))) (fun _ => rfl) ?_
                exact AR.retI rfl (by unfold m_la; omega) ⟨rfl, .inl rfl⟩ rfl
              · show AR E d _ (15, [some (vA b), some (vI s), some (vI 3)], [], (C, N)) _
                refine AR.blk 1 (f' := (16, [some (vA b), some (vI s), some (vI 3)], [vA b], (C, N))) (fun _ => rfl) ?_
                refine AR.getR rfl rfl hb.1 (by decide) rfl ?_
                refine AR.blk 1 (f' := (20, [some (vA b), some (vI s), some (vI 3)], [vI 3, vA (b + 2)], (C, N))) (fun _ => rfl) ?_
                have f59 := hw.2.2.2.1 3 (by omega) (by omega)
                refine AR.iald rfl hb.2.2.1 (by omega) (v := q 3) (hr.2.2.1 _ (by omega) (by omega)).1 ?_
                refine AR.blk 1 (f' := (22, [some (vA b), some (vI s), some (vI 3)], [vI s, vI (q 3)], (C, N))) (fun _ => rfl) ?_
                refine AR.ic_ne rfl (by omega) (fun c60 => ?_) (fun c60 => ?_)
                · show AR E d _ (27, [some (vA b), some (vI s), some (vI 3)], [], (C, N)) _
                  refine AR.blk 4 (f' := (4, [some (vA b), some (vI s), some (vI 4)], [vI 4, vI 4], (C, N))) (fun _ => rfl) ?_
                  refine AR.blk 2 (f' := (34, [some (vA b), some (vI s), some (vI 4)], [vI (-1)], (C, N))) (fun _ => rfl) ?_
                  exact AR.retI rfl (by unfold m_la; omega) ⟨rfl, .inl rfl⟩ rfl
                · show AR E d _ (25, [some (vA b), some (vI s), some (vI 3)], [], (C, N)) _
                  refine AR.blk 1 (f' := (26, [some (vA b), some (vI s), some (vI 3)], [vI 3], (C, N))) (fun _ => rfl) ?_
                  exact AR.retI rfl (by unfold m_la; omega) ⟨rfl, .inl rfl⟩ rfl
            · show AR E d _ (25, [some (vA b), some (vI s), some (vI 2)], [], (C, N)) _
              refine AR.blk 1 (f' := (26, [some (vA b), some (vI s), some (vI 2)], [vI 2], (C, N))) (fun _ => rfl) ?_
              exact AR.retI rfl (by unfold m_la; omega) ⟨rfl, .inl rfl⟩ rfl
        · show AR E d _ (25, [some (vA b), some (vI s), some (vI 1)], [], (C, N)) _
          refine AR.blk 1 (f' := (26, [some (vA b), some (vI s), some (vI 1)], [vI 1], (C, N))) (fun _ => rfl) ?_
          exact AR.retI rfl (by unfold m_la; omega) ⟨rfl, .inl rfl⟩ rfl
    · show AR E d _ (25, [some (vA b), some (vI s), some (vI 0)], [], (C, N)) _
      refine AR.blk 1 (f' := (26, [some (vA b), some (vI s), some (vI 0)], [vI 0], (C, N))) (fun _ => rfl) ?_
      exact AR.retI rfl (by unfold m_la; omega) ⟨rfl, .inl rfl⟩ rfl

theorem ev_X0_isClosed {d : Nat} (hd : 2 ≤ d) (hb : g_isB C b) (hr : g_rB N b P n q p cl tn) (hw : g_wB P n q p cl tn) (s : Int) (h0 : ag_in s) : Ev E d 8 [vA b, vI s] (C, N) (some (vI (m_cl n q cl s)), (C, N)) := by
  obtain ⟨d, rfl⟩ : ∃ j, d = j + 1 := ⟨d - 1, by omega⟩
  have f00 := hw.2.2.1
  refine Ev.intro (M := ag_mX0_isClosed) rfl rfl ?_
  show AR E d _ (0, [some (vA b), some (vI s), none], [], (C, N)) _
  refine AR.blk 2 (f' := (2, [some (vA b), some (vI s), none], [vI s, vA b], (C, N))) (fun _ => rfl) ?_
  refine AR.callV [vI s] (ev_X0_lockAt (by omega) hb hr hw s (by omega)) hb.1 rfl rfl rfl rfl rfl ?_
  show AR E d _ (5, [some (vA b), some (vI s), none], [vI (m_la n q s)], (C, N)) _
  have f1 := m_la_in n q s hw.2.2.1.1
  refine AR.blk 2 (f' := (7, [some (vA b), some (vI s), some (vI (m_la n q s))], [vI (m_la n q s)], (C, N))) (fun _ => rfl) ?_
  refine AR.if_lt rfl (by omega) (fun c2 => ?_) (fun c2 => ?_)
  · show AR E d _ (28, [some (vA b), some (vI s), some (vI (m_la n q s))], [], (C, N)) _
    refine AR.blk 1 (f' := (29, [some (vA b), some (vI s), some (vI (m_la n q s))], [vI 0], (C, N))) (fun _ => rfl) ?_
    exact AR.retI rfl (by unfold m_cl; first | (rw [if_pos (by omega)]; omega) | (rw [if_neg (by omega)])) (by decide) rfl
  · show AR E d _ (10, [some (vA b), some (vI s), some (vI (m_la n q s))], [], (C, N)) _
    refine AR.blk 2 (f' := (12, [some (vA b), some (vI s), some (vI (m_la n q s))], [vI 4, vI (m_la n q s)], (C, N))) (fun _ => rfl) ?_
    refine AR.ic_ge rfl (by omega) (fun c3 => ?_) (fun c3 => ?_)
    · show AR E d _ (28, [some (vA b), some (vI s), some (vI (m_la n q s))], [], (C, N)) _
      refine AR.blk 1 (f' := (29, [some (vA b), some (vI s), some (vI (m_la n q s))], [vI 0], (C, N))) (fun _ => rfl) ?_
      exact AR.retI rfl (by unfold m_cl; first | (rw [if_pos (by omega)]; omega) | (rw [if_neg (by omega)])) (by decide) rfl
    · show AR E d _ (15, [some (vA b), some (vI s), some (vI (m_la n q s))], [], (C, N)) _
      refine AR.blk 1 (f' := (16, [some (vA b), some (vI s), some (vI (m_la n q s))], [vA b], (C, N))) (fun _ => rfl) ?_
      refine AR.getR rfl rfl hb.1 (by decide) rfl ?_
      refine AR.blk 1 (f' := (20, [some (vA b), some (vI s), some (vI (m_la n q s))], [vI (m_la n q s), vA (b + 4)], (C, N))) (fun _ => rfl) ?_
      have f4 := hw.2.2.2.2.1 (m_la n q s)
      refine AR.zald rfl hb.2.2.2.2.1 (by omega) (v := cl (m_la n q s)) (hr.2.2.2 _ (by omega) (by omega)).1 ?_
      refine AR.if_eq rfl (by omega) (fun c5 => ?_) (fun c5 => ?_)
      · show AR E d _ (28, [some (vA b), some (vI s), some (vI (m_la n q s))], [], (C, N)) _
        refine AR.blk 1 (f' := (29, [some (vA b), some (vI s), some (vI (m_la n q s))], [vI 0], (C, N))) (fun _ => rfl) ?_
        exact AR.retI rfl (by unfold m_cl; first | (rw [if_pos (by omega)]; omega) | (rw [if_neg (by omega)])) (by decide) rfl
      · show AR E d _ (24, [some (vA b), some (vI s), some (vI (m_la n q s))], [], (C, N)) _
        refine AR.blk 2 (f' := (29, [some (vA b), some (vI s), some (vI (m_la n q s))], [vI 1], (C, N))) (fun _ => rfl) ?_
        exact AR.retI rfl (by unfold m_cl; first | (rw [if_pos (by omega)]; omega) | (rw [if_neg (by omega)])) (by decide) rfl

theorem ev_X0_closedLocks {d : Nat} (hd : 1 ≤ d) (hb : g_isB C b) (hr : g_rB N b P n q p cl tn) (hw : g_wB P n q p cl tn) : Ev E d 11 [vA b] (C, N) (some (vI (cl 0 + cl 1 + cl 2 + cl 3)), (C, N)) := by
  obtain ⟨d, rfl⟩ : ∃ j, d = j + 1 := ⟨d - 1, by omega⟩
  refine Ev.intro (M := ag_mX0_closedLocks) rfl rfl ?_
  show AR E d _ (0, [some (vA b), none, none], [], (C, N)) _
  refine AR.blk 6 (f' := (6, [some (vA b), some (vI 0), some (vI 0)], [vI 4, vI 0], (C, N))) (fun _ => rfl) ?_
  refine AR.blk 2 (f' := (10, [some (vA b), some (vI 0), some (vI 0)], [vA b], (C, N))) (fun _ => rfl) ?_
  refine AR.getR rfl rfl hb.1 (by decide) rfl ?_
  refine AR.blk 1 (f' := (14, [some (vA b), some (vI 0), some (vI 0)], [vI 0, vA (b + 4)], (C, N))) (fun _ => rfl) ?_
  have f1 := hw.2.2.2.2.1 0
  refine AR.zald rfl hb.2.2.2.2.1 (by omega) (v := cl 0) (hr.2.2.2 _ (by omega) (by omega)).1 ?_
  refine AR.if_eq rfl (by omega) (fun c2 => ?_) (fun c2 => ?_)
  · show AR E d _ (21, [some (vA b), some (vI 0), some (vI 0)], [], (C, N)) _
    refine AR.blk 4 (f' := (6, [some (vA b), some (vI 0), some (vI 1)], [vI 4, vI 1], (C, N))) (fun _ => rfl) ?_
    refine AR.blk 2 (f' := (10, [some (vA b), some (vI 0), some (vI 1)], [vA b], (C, N))) (fun _ => rfl) ?_
    refine AR.getR rfl rfl hb.1 (by decide) rfl ?_
    refine AR.blk 1 (f' := (14, [some (vA b), some (vI 0), some (vI 1)], [vI 1, vA (b + 4)], (C, N))) (fun _ => rfl) ?_
    have f3 := hw.2.2.2.2.1 1
    refine AR.zald rfl hb.2.2.2.2.1 (by omega) (v := cl 1) (hr.2.2.2 _ (by omega) (by omega)).1 ?_
    refine AR.if_eq rfl (by omega) (fun c4 => ?_) (fun c4 => ?_)
    · show AR E d _ (21, [some (vA b), some (vI 0), some (vI 1)], [], (C, N)) _
      refine AR.blk 4 (f' := (6, [some (vA b), some (vI 0), some (vI 2)], [vI 4, vI 2], (C, N))) (fun _ => rfl) ?_
      refine AR.blk 2 (f' := (10, [some (vA b), some (vI 0), some (vI 2)], [vA b], (C, N))) (fun _ => rfl) ?_
      refine AR.getR rfl rfl hb.1 (by decide) rfl ?_
      refine AR.blk 1 (f' := (14, [some (vA b), some (vI 0), some (vI 2)], [vI 2, vA (b + 4)], (C, N))) (fun _ => rfl) ?_
      have f5 := hw.2.2.2.2.1 2
      refine AR.zald rfl hb.2.2.2.2.1 (by omega) (v := cl 2) (hr.2.2.2 _ (by omega) (by omega)).1 ?_
      refine AR.if_eq rfl (by omega) (fun c6 => ?_) (fun c6 => ?_)
      · show AR E d _ (21, [some (vA b), some (vI 0), some (vI 2)], [], (C, N)) _
        refine AR.blk 4 (f' := (6, [some (vA b), some (vI 0), some (vI 3)], [vI 4, vI 3], (C, N))) (fun _ => rfl) ?_
        refine AR.blk 2 (f' := (10, [some (vA b), some (vI 0), some (vI 3)], [vA b], (C, N))) (fun _ => rfl) ?_
        refine AR.getR rfl rfl hb.1 (by decide) rfl ?_
        refine AR.blk 1 (f' := (14, [some (vA b), some (vI 0), some (vI 3)], [vI 3, vA (b + 4)], (C, N))) (fun _ => rfl) ?_
        have f7 := hw.2.2.2.2.1 3
        refine AR.zald rfl hb.2.2.2.2.1 (by omega) (v := cl 3) (hr.2.2.2 _ (by omega) (by omega)).1 ?_
        refine AR.if_eq rfl (by omega) (fun c8 => ?_) (fun c8 => ?_)
        · show AR E d _ (21, [some (vA b), some (vI 0), some (vI 3)], [], (C, N)) _
          refine AR.blk 4 (f' := (6, [some (vA b), some (vI 0), some (vI 4)], [vI 4, vI 4], (C, N))) (fun _ => rfl) ?_
          refine AR.blk 2 (f' := (28, [some (vA b), some (vI 0), some (vI 4)], [vI 0], (C, N))) (fun _ => rfl) ?_
          exact AR.retI rfl (by omega) ⟨rfl, .inl rfl⟩ rfl
        · show AR E d _ (18, [some (vA b), some (vI 0), some (vI 3)], [], (C, N)) _
          refine AR.blk 5 (f' := (6, [some (vA b), some (vI 1), some (vI 4)], [vI 4, vI 4], (C, N))) (fun _ => rfl) ?_
          refine AR.blk 2 (f' := (28, [some (vA b), some (vI 1), some (vI 4)], [vI 1], (C, N))) (fun _ => rfl) ?_
          exact AR.retI rfl (by omega) ⟨rfl, .inl rfl⟩ rfl
      · show AR E d _ (18, [some (vA b), some (vI 0), some (vI 2)], [], (C, N)) _
        refine AR.blk 5 (f' := (6, [some (vA b), some (vI 1), some (vI 3)], [vI 4, vI 3], (C, N))) (fun _ => rfl) ?_
        refine AR.blk 2 (f' := (10, [some (vA b), some (vI 1), some (vI 3)], [vA b], (C, N))) (fun _ => rfl) ?_
        refine AR.getR rfl rfl hb.1 (by decide) rfl ?_
        refine AR.blk 1 (f' := (14, [some (vA b), some (vI 1), some (vI 3)], [vI 3, vA (b + 4)], (C, N))) (fun _ => rfl) ?_
        have f9 := hw.2.2.2.2.1 3
        refine AR.zald rfl hb.2.2.2.2.1 (by omega) (v := cl 3) (hr.2.2.2 _ (by omega) (by omega)).1 ?_
        refine AR.if_eq rfl (by omega) (fun c10 => ?_) (fun c10 => ?_)
        · show AR E d _ (21, [some (vA b), some (vI 1), some (vI 3)], [], (C, N)) _
          refine AR.blk 4 (f' := (6, [some (vA b), some (vI 1), some (vI 4)], [vI 4, vI 4], (C, N))) (fun _ => rfl) ?_
          refine AR.blk 2 (f' := (28, [some (vA b), some (vI 1), some (vI 4)], [vI 1], (C, N))) (fun _ => rfl) ?_
          exact AR.retI rfl (by omega) ⟨rfl, .inl rfl⟩ rfl
        · show AR E d _ (18, [some (vA b), some (vI 1), some (vI 3)], [], (C, N)) _
          refine AR.blk 5 (f' := (6, [some (vA b), some (vI 2), some (vI 4)], [vI 4, vI 4], (C, N))) (fun _ => rfl) ?_
          refine AR.blk 2 (f' := (28, [some (vA b), some (vI 2), some (vI 4)], [vI 2], (C, N))) (fun _ => rfl) ?_
          exact AR.retI rfl (by omega) ⟨rfl, .inl rfl⟩ rfl
    · show AR E d _ (18, [some (vA b), some (vI 0), some (vI 1)], [], (C, N)) _
      refine AR.blk 5 (f' := (6, [some (vA b), some (vI 1), some (vI 2)], [vI 4, vI 2], (C, N))) (fun _ => rfl) ?_
      refine AR.blk 2 (f' := (10, [some (vA b), some (vI 1), some (vI 2)], [vA b], (C, N))) (fun _ => rfl) ?_
      refine AR.getR rfl rfl hb.1 (by decide) rfl ?_
      refine AR.blk 1 (f' := (14, [some (vA b), some (vI 1), some (vI 2)], [vI 2, vA (b + 4)], (C, N))) (fun _ => rfl) ?_
      have f11 := hw.2.2.2.2.1 2
      refine AR.zald rfl hb.2.2.2.2.1 (by omega) (v := cl 2) (hr.2.2.2 _ (by omega) (by omega)).1 ?_
      refine AR.if_eq rfl (by omega) (fun c12 => ?_) (fun c12 => ?_)
      · show AR E d _ (21, [some (vA b), some (vI 1), some (vI 2)], [], (C, N)) _
        refine AR.blk 4 (f' := (6, [some (vA b), some (vI 1), some (vI 3)], [vI 4, vI 3], (C, N))) (fun _ => rfl) ?_
        refine AR.blk 2 (f' := (10, [some (vA b), some (vI 1), some (vI 3)], [vA b], (C, N))) (fun _ => rfl) ?_
        refine AR.getR rfl rfl hb.1 (by decide) rfl ?_
        refine AR.blk 1 (f' := (14, [some (vA b), some (vI 1), some (vI 3)], [vI 3, vA (b + 4)], (C, N))) (fun _ => rfl) ?_
        have f13 := hw.2.2.2.2.1 3
        refine AR.zald rfl hb.2.2.2.2.1 (by omega) (v := cl 3) (hr.2.2.2 _ (by omega) (by omega)).1 ?_
        refine AR.if_eq rfl (by omega) (fun c14 => ?_) (fun c14 => ?_)
        · show AR E d _ (21, [some (vA b), some (vI 1), some (vI 3)], [], (C, N)) _
          refine AR.blk 4 (f' := (6, [some (vA b), some (vI 1), some (vI 4)], [vI 4, vI 4], (C, N))) (fun _ => rfl) ?_
          refine AR.blk 2 (f' := (28, [some (vA b), some (vI 1), some (vI 4)], [vI 1], (C, N))) (fun _ => rfl) ?_
          exact AR.retI rfl (by omega) ⟨rfl, .inl rfl⟩ rfl
        · show AR E d _ (18, [some (vA b), some (vI 1), some (vI 3)], [], (C, N)) _
          refine AR.blk 5 (f' := (6, [some (vA b), some (vI 2), some (vI 4)], [vI 4, vI 4], (C, N))) (fun _ => rfl) ?_
          refine AR.blk 2 (f' := (28, [some (vA b), some (vI 2), some (vI 4)], [vI 2], (C, N))) (fun _ => rfl) ?_
          exact AR.retI rfl (by omega) ⟨rfl, .inl rfl⟩ rfl
      · show AR E d _ (18, [some (vA b), some (vI 1), some (vI 2)], [], (C, N)) _
        refine AR.blk 5 (f' := (6, [some (vA b), some (vI 2), some (vI 3)], [vI 4, vI 3], (C, N))) (fun _ => rfl) ?_
        refine AR.blk 2 (f' := (10, [some (vA b), some (vI 2), some (vI 3)], [vA b], (C, N))) (fun _ => rfl) ?_
        refine AR.getR rfl rfl hb.1 (by decide) rfl ?_
        refine AR.blk 1 (f' := (14, [some (vA b), some (vI 2), some (vI 3)], [vI 3, vA (b + 4)], (C, N))) (fun _ => rfl) ?_
        have f15 := hw.2.2.2.2.1 3
        refine AR.zald rfl hb.2.2.2.2.1 (by omega) (v := cl 3) (hr.2.2.2 _ (by omega) (by omega)).1 ?_
        refine AR.if_eq rfl (by omega) (fun c16 => ?_) (fun c16 => ?_)
        · show AR E d _ (21, [some (vA b), some (vI 2), some (vI 3)], [], (C, N)) _
          refine AR.blk 4 (f' := (6, [some (vA b), some (vI 2), some (vI 4)], [vI 4, vI 4], (C, N))) (fun _ => rfl) ?_
          refine AR.blk 2 (f' := (28, [some (vA b), some (vI 2), some (vI 4)], [vI 2], (C, N))) (fun _ => rfl) ?_
          exact AR.retI rfl (by omega) ⟨rfl, .inl rfl⟩ rfl
        · show AR E d _ (18, [some (vA b), some (vI 2), some (vI 3)], [], (C, N)) _
          refine AR.blk 5 (f' := (6, [some (vA b), some (vI 3), some (vI 4)], [vI 4, vI 4], (C, N))) (fun _ => rfl) ?_
          refine AR.blk 2 (f' := (28, [some (vA b), some (vI 3), some (vI 4)], [vI 3], (C, N))) (fun _ => rfl) ?_
          exact AR.retI rfl (by omega) ⟨rfl, .inl rfl⟩ rfl
  · show AR E d _ (18, [some (vA b), some (vI 0), some (vI 0)], [], (C, N)) _
    refine AR.blk 5 (f' := (6, [some (vA b), some (vI 1), some (vI 1)], [vI 4, vI 1], (C, N))) (fun _ => rfl) ?_
    refine AR.blk 2 (f' := (10, [some (vA b), some (vI 1), some (vI 1)], [vA b], (C, N))) (fun _ => rfl) ?_
    refine AR.getR rfl rfl hb.1 (by decide) rfl ?_
    refine AR.blk 1 (f' := (14, [some (vA b), some (vI 1), some (vI 1)], [vI 1, vA (b + 4)], (C, N))) (fun _ => rfl) ?_
    have f17 := hw.2.2.2.2.1 1
    refine AR.zald rfl hb.2.2.2.2.1 (by omega) (v := cl 1) (hr.2.2.2 _ (by omega) (by omega)).1 ?_
    refine AR.if_eq rfl (by omega) (fun c18 => ?_) (fun c18 => ?_)
    · show AR E d _ (21, [some (vA b), some (vI 1), some (vI 1)], [], (C, N)) _
      refine AR.blk 4 (f' := (6, [some (vA b), some (vI 1), some (vI 2)], [vI 4, vI 2], (C, N))) (fun _ => rfl) ?_
      refine AR.blk 2 (f' := (10, [some (vA b), some (vI 1), some (vI 2)], [vA b], (C, N))) (fun _ => rfl) ?_
      refine AR.getR rfl rfl hb.1 (by decide) rfl ?_
      refine AR.blk 1 (f' := (14, [some (vA b), some (vI 1), some (vI 2)], [vI 2, vA (b + 4)], (C, N))) (fun _ => rfl) ?_
      have f19 := hw.2.2.2.2.1 2
      refine AR.zald rfl hb.2.2.2.2.1 (by omega) (v := cl 2) (hr.2.2.2 _ (by omega) (by omega)).1 ?_
      refine AR.if_eq rfl (by omega) (fun c20 => ?_) (fun c20 => ?_)
      · show AR E d _ (21, [some (vA b), some (vI 1), some (vI 2)], [], (C, N)) _
        refine AR.blk 4 (f' := (6, [some (vA b), some (vI 1), some (vI 3)], [vI 4, vI 3], (C, N))) (fun _ => rfl) ?_
        refine AR.blk 2 (f' := (10, [some (vA b), some (vI 1), some (vI 3)], [vA b], (C, N))) (fun _ => rfl) ?_
        refine AR.getR rfl rfl hb.1 (by decide) rfl ?_
        refine AR.blk 1 (f' := (14, [some (vA b), some (vI 1), some (vI 3)], [vI 3, vA (b + 4)], (C, N))) (fun _ => rfl) ?_
        have f21 := hw.2.2.2.2.1 3
        refine AR.zald rfl hb.2.2.2.2.1 (by omega) (v := cl 3) (hr.2.2.2 _ (by omega) (by omega)).1 ?_
        refine AR.if_eq rfl (by omega) (fun c22 => ?_) (fun c22 => ?_)
        · show AR E d _ (21, [some (vA b), some (vI 1), some (vI 3)], [], (C, N)) _
          refine AR.blk 4 (f' := (6, [some (vA b), some (vI 1), some (vI 4)], [vI 4, vI 4], (C, N))) (fun _ => rfl) ?_
          refine AR.blk 2 (f' := (28, [some (vA b), some (vI 1), some (vI 4)], [vI 1], (C, N))) (fun _ => rfl) ?_
          exact AR.retI rfl (by omega) ⟨rfl, .inl rfl⟩ rfl
        · show AR E d _ (18, [some (vA b), some (vI 1), some (vI 3)], [], (C, N)) _
          refine AR.blk 5 (f' := (6, [some (vA b), some (vI 2), some (vI 4)], [vI 4, vI 4], (C, N))) (fun _ => rfl) ?_
          refine AR.blk 2 (f' := (28, [some (vA b), some (vI 2), some (vI 4)], [vI 2], (C, N))) (fun _ => rfl) ?_
          exact AR.retI rfl (by omega) ⟨rfl, .inl rfl⟩ rfl
      · show AR E d _ (18, [some (vA b), some (vI 1), some (vI 2)], [], (C, N)) _
        refine AR.blk 5 (f' := (6, [some (vA b), some (vI 2), some (vI 3)], [vI 4, vI 3], (C, N))) (fun _ => rfl) ?_
        refine AR.blk 2 (f' := (10, [some (vA b), some (vI 2), some (vI 3)], [vA b], (C, N))) (fun _ => rfl) ?_
        refine AR.getR rfl rfl hb.1 (by decide) rfl ?_
        refine AR.blk 1 (f' := (14, [some (vA b), some (vI 2), some (vI 3)], [vI 3, vA (b + 4)], (C, N))) (fun _ => rfl) ?_
        have f23 := hw.2.2.2.2.1 3
        refine AR.zald rfl hb.2.2.2.2.1 (by omega) (v := cl 3) (hr.2.2.2 _ (by omega) (by omega)).1 ?_
        refine AR.if_eq rfl (by omega) (fun c24 => ?_) (fun c24 => ?_)
        · show AR E d _ (21, [some (vA b), some (vI 2), some (vI 3)], [], (C, N)) _
          refine AR.blk 4 (f' := (6, [some (vA b), some (vI 2), some (vI 4)], [vI 4, vI 4], (C, N))) (fun _ => rfl) ?_
          refine AR.blk 2 (f' := (28, [some (vA b), some (vI 2), some (vI 4)], [vI 2], (C, N))) (fun _ => rfl) ?_
          exact AR.retI rfl (by omega) ⟨rfl, .inl rfl⟩ rfl
        · show AR E d _ (18, [some (vA b), some (vI 2), some (vI 3)], [], (C, N)) _
          refine AR.blk 5 (f' := (6, [some (vA b), some (vI 3), some (vI 4)], [vI 4, vI 4], (C, N))) (fun _ => rfl) ?_
          refine AR.blk 2 (f' := (28, [some (vA b), some (vI 3), some (vI 4)], [vI 3], (C, N))) (fun _ => rfl) ?_
          exact AR.retI rfl (by omega) ⟨rfl, .inl rfl⟩ rfl
    · show AR E d _ (18, [some (vA b), some (vI 1), some (vI 1)], [], (C, N)) _
      refine AR.blk 5 (f' := (6, [some (vA b), some (vI 2), some (vI 2)], [vI 4, vI 2], (C, N))) (fun _ => rfl) ?_
      refine AR.blk 2 (f' := (10, [some (vA b), some (vI 2), some (vI 2)], [vA b], (C, N))) (fun _ => rfl) ?_
      refine AR.getR rfl rfl hb.1 (by decide) rfl ?_
      refine AR.blk 1 (f' := (14, [some (vA b), some (vI 2), some (vI 2)], [vI 2, vA (b + 4)], (C, N))) (fun _ => rfl) ?_
      have f25 := hw.2.2.2.2.1 2
      refine AR.zald rfl hb.2.2.2.2.1 (by omega) (v := cl 2) (hr.2.2.2 _ (by omega) (by omega)).1 ?_
      refine AR.if_eq rfl (by omega) (fun c26 => ?_) (fun c26 => ?_)
      · show AR E d _ (21, [some (vA b), some (vI 2), some (vI 2)], [], (C, N)) _
        refine AR.blk 4 (f' := (6, [some (vA b), some (vI 2), some (vI 3)], [vI 4, vI 3], (C, N))) (fun _ => rfl) ?_
        refine AR.blk 2 (f' := (10, [some (vA b), some (vI 2), some (vI 3)], [vA b], (C, N))) (fun _ => rfl) ?_
        refine AR.getR rfl rfl hb.1 (by decide) rfl ?_
        refine AR.blk 1 (f' := (14, [some (vA b), some (vI 2), some (vI 3)], [vI 3, vA (b + 4)], (C, N))) (fun _ => rfl) ?_
        have f27 := hw.2.2.2.2.1 3
        refine AR.zald rfl hb.2.2.2.2.1 (by omega) (v := cl 3) (hr.2.2.2 _ (by omega) (by omega)).1 ?_
        refine AR.if_eq rfl (by omega) (fun c28 => ?_) (fun c28 => ?_)
        · show AR E d _ (21, [some (vA b), some (vI 2), some (vI 3)], [], (C, N)) _
          refine AR.blk 4 (f' := (6, [some (vA b), some (vI 2), some (vI 4)], [vI 4, vI 4], (C, N))) (fun _ => rfl) ?_
          refine AR.blk 2 (f' := (28, [some (vA b), some (vI 2), some (vI 4)], [vI 2], (C, N))) (fun _ => rfl) ?_
          exact AR.retI rfl (by omega) ⟨rfl, .inl rfl⟩ rfl
        · show AR E d _ (18, [some (vA b), some (vI 2), some (vI 3)], [], (C, N)) _
          refine AR.blk 5 (f' := (6, [some (vA b), some (vI 3), some (vI 4)], [vI 4, vI 4], (C, N))) (fun _ => rfl) ?_
          refine AR.blk 2 (f' := (28, [some (vA b), some (vI 3), some (vI 4)], [vI 3], (C, N))) (fun _ => rfl) ?_
          exact AR.retI rfl (by omega) ⟨rfl, .inl rfl⟩ rfl
      · show AR E d _ (18, [some (vA b), some (vI 2), some (vI 2)], [], (C, N)) _
        refine AR.blk 5 (f' := (6, [some (vA b), some (vI 3), some (vI 3)], [vI 4, vI 3], (C, N))) (fun _ => rfl) ?_
        refine AR.blk 2 (f' := (10, [some (vA b), some (vI 3), some (vI 3)], [vA b], (C, N))) (fun _ => rfl) ?_
        refine AR.getR rfl rfl hb.1 (by decide) rfl ?_
        refine AR.blk 1 (f' := (14, [some (vA b), some (vI 3), some (vI 3)], [vI 3, vA (b + 4)], (C, N))) (fun _ => rfl) ?_
        have f29 := hw.2.2.2.2.1 3
        refine AR.zald rfl hb.2.2.2.2.1 (by omega) (v := cl 3) (hr.2.2.2 _ (by omega) (by omega)).1 ?_
        refine AR.if_eq rfl (by omega) (fun c30 => ?_) (fun c30 => ?_)
        · show AR E d _ (21, [some (vA b), some (vI 3), some (vI 3)], [], (C, N)) _
          refine AR.blk 4 (f' := (6, [some (vA b), some (vI 3), some (vI 4)], [vI 4, vI 4], (C, N))) (fun _ => rfl) ?_
          refine AR.blk 2 (f' := (28, [some (vA b), some (vI 3), some (vI 4)], [vI 3], (C, N))) (fun _ => rfl) ?_
          exact AR.retI rfl (by omega) ⟨rfl, .inl rfl⟩ rfl
        · show AR E d _ (18, [some (vA b), some (vI 3), some (vI 3)], [], (C, N)) _
          refine AR.blk 5 (f' := (6, [some (vA b), some (vI 4), some (vI 4)], [vI 4, vI 4], (C, N))) (fun _ => rfl) ?_
          refine AR.blk 2 (f' := (28, [some (vA b), some (vI 4), some (vI 4)], [vI 4], (C, N))) (fun _ => rfl) ?_
          exact AR.retI rfl (by omega) ⟨rfl, .inl rfl⟩ rfl

theorem ev_X0_allLockTurns {d : Nat} (hd : 1 ≤ d) (hb : g_isB C b) (hr : g_rB N b P n q p cl tn) (hw : g_wB P n q p cl tn) : Ev E d 12 [vA b] (C, N) (some (vI (tn 0 + tn 1 + tn 2 + tn 3)), (C, N)) := by
  obtain ⟨d, rfl⟩ : ∃ j, d = j + 1 := ⟨d - 1, by omega⟩
  refine Ev.intro (M := ag_mX0_allLockTurns) rfl rfl ?_
  show AR E d _ (0, [some (vA b), none, none], [], (C, N)) _
  refine AR.blk 6 (f' := (6, [some (vA b), some (vI 0), some (vI 0)], [vI 4, vI 0], (C, N))) (fun _ => rfl) ?_
  refine AR.blk 3 (f' := (11, [some (vA b), some (vI 0), some (vI 0)], [vA b, vI 0], (C, N))) (fun _ => rfl) ?_
  refine AR.getR rfl rfl hb.1 (by decide) rfl ?_
  refine AR.blk 1 (f' := (15, [some (vA b), some (vI 0), some (vI 0)], [vI 0, vA (b + 5), vI 0], (C, N))) (fun _ => rfl) ?_
  have f1 := hw.2.2.2.2.1 0
  refine AR.iald rfl hb.2.2.2.2.2 (by omega) (v := tn 0) (hr.2.2.2 _ (by omega) (by omega)).2 ?_
  refine AR.blk 6 (f' := (6, [some (vA b), some (vI (0 + (tn 0))), some (vI 1)], [vI 4, vI 1], (C, N))) (fun _ => rfl) ?_
  refine AR.blk 3 (f' := (11, [some (vA b), some (vI (0 + (tn 0))), some (vI 1)], [vA b, vI (0 + (tn 0))], (C, N))) (fun _ => rfl) ?_
  refine AR.getR rfl rfl hb.1 (by decide) rfl ?_
  refine AR.blk 1 (f' := (15, [some (vA b), some (vI (0 + (tn 0))), some (vI 1)], [vI 1, vA (b + 5), vI (0 + (tn 0))], (C, N))) (fun _ => rfl) ?_
  have f2 := hw.2.2.2.2.1 1
  refine AR.iald rfl hb.2.2.2.2.2 (by omega) (v := tn 1) (hr.2.2.2 _ (by omega) (by omega)).2 ?_
  refine AR.blk 6 (f' := (6, [some (vA b), some (vI ((0 + (tn 0)) + (tn 1))), some (vI 2)], [vI 4, vI 2], (C, N))) (fun _ => rfl) ?_
  refine AR.blk 3 (f' := (11, [some (vA b), some (vI ((0 + (tn 0)) + (tn 1))), some (vI 2)], [vA b, vI ((0 + (tn 0)) + (tn 1))], (C, N))) (fun _ => rfl) ?_
  refine AR.getR rfl rfl hb.1 (by decide) rfl ?_
  refine AR.blk 1 (f' := (15, [some (vA b), some (vI ((0 + (tn 0)) + (tn 1))), some (vI 2)], [vI 2, vA (b + 5), vI ((0 + (tn 0)) + (tn 1))], (C, N))) (fun _ => rfl) ?_
  have f3 := hw.2.2.2.2.1 2
  refine AR.iald rfl hb.2.2.2.2.2 (by omega) (v := tn 2) (hr.2.2.2 _ (by omega) (by omega)).2 ?_
  refine AR.blk 6 (f' := (6, [some (vA b), some (vI (((0 + (tn 0)) + (tn 1)) + (tn 2))), some (vI 3)], [vI 4, vI 3], (C, N))) (fun _ => rfl) ?_
  refine AR.blk 3 (f' := (11, [some (vA b), some (vI (((0 + (tn 0)) + (tn 1)) + (tn 2))), some (vI 3)], [vA b, vI (((0 + (tn 0)) + (tn 1)) + (tn 2))], (C, N))) (fun _ => rfl) ?_
  refine AR.getR rfl rfl hb.1 (by decide) rfl ?_
  refine AR.blk 1 (f' := (15, [some (vA b), some (vI (((0 + (tn 0)) + (tn 1)) + (tn 2))), some (vI 3)], [vI 3, vA (b + 5), vI (((0 + (tn 0)) + (tn 1)) + (tn 2))], (C, N))) (fun _ => rfl) ?_
  have f4 := hw.2.2.2.2.1 3
  refine AR.iald rfl hb.2.2.2.2.2 (by omega) (v := tn 3) (hr.2.2.2 _ (by omega) (by omega)).2 ?_
  refine AR.blk 6 (f' := (6, [some (vA b), some (vI ((((0 + (tn 0)) + (tn 1)) + (tn 2)) + (tn 3))), some (vI 4)], [vI 4, vI 4], (C, N))) (fun _ => rfl) ?_
  refine AR.blk 2 (f' := (25, [some (vA b), some (vI ((((0 + (tn 0)) + (tn 1)) + (tn 2)) + (tn 3))), some (vI 4)], [vI ((((0 + (tn 0)) + (tn 1)) + (tn 2)) + (tn 3))], (C, N))) (fun _ => rfl) ?_
  exact AR.retI rfl (by omega) ⟨rfl, .inl rfl⟩ rfl

theorem ev_X0_standing {d : Nat} (hd : 2 ≤ d) (hb : g_isB C b) (hr : g_rB N b P n q p cl tn) (hw : g_wB P n q p cl tn) (s x : Int) (h0 : 0 ≤ s ∧ s < 36) (h1 : 0 ≤ x ∧ x < 4) : Ev E d 13 [vA b, vI s, vI x] (C, N) (some (vI (m_std P s x)), (C, N)) := by
  obtain ⟨d, rfl⟩ : ∃ j, d = j + 1 := ⟨d - 1, by omega⟩
  refine Ev.intro (M := ag_mX0_standing) rfl rfl ?_
  show AR E d _ (0, [some (vA b), some (vI s), some (vI x), none, none, none], [], (C, N)) _
  refine AR.blk 2 (f' := (2, [some (vA b), some (vI s), some (vI x), none, none, none], [vI x, vI s], (C, N))) (fun _ => rfl) ?_
  refine AR.callS [vI s, vI x] (ev_X6_roomFrom (by omega) s x (by first | omega | (have z1 := m_sqs s x c h0 h1 (by omega); omega)) (by first | omega | (have z1 := m_sqs s x c h0 h1 (by omega); omega))) rfl rfl rfl rfl rfl ?_
  show AR E d _ (5, [some (vA b), some (vI s), some (vI x), none, none, none], [vI (m_room s x)], (C, N)) _
  have f1 := m_room_in (s) (x) (by omega)
  refine AR.blk 2 (f' := (7, [some (vA b), some (vI s), some (vI x), some (vI (m_room s x)), none, none], [vI x], (C, N))) (fun _ => rfl) ?_
  refine AR.callS [vI x] (ev_X6_stepOf (by omega) x (by first | omega | (have z1 := m_sqs s x c h0 h1 (by omega); omega))) rfl rfl rfl rfl rfl ?_
  show AR E d _ (10, [some (vA b), some (vI s), some (vI x), some (vI (m_room s x)), none, none], [vI (m_step x)], (C, N)) _
  have f2 := m_step_in (x)
  refine AR.blk 3 (f' := (15, [some (vA b), some (vI s), some (vI x), some (vI (m_room s x)), some (vI (m_step x)), some (vI 0)], [], (C, N))) (fun _ => rfl) ?_
  suffices H15 : ∀ (j : Nat) (c : Int), (m_room s x - c).toNat < j → (0 ≤ c ∧ c ≤ m_room s x) → (m_fr P s (m_step x) (m_room s x - c).toNat c = m_std P s x) → AR E d ag_mX0_standing (15, [some (vA b), some (vI s), some (vI x), some (vI (m_room s x)), some (vI (m_step x)), some (vI c)], [], (C, N)) (fun o_ => o_ = (some (vI (m_std P s x)), (C, N))) by
    exact H15 _ _ (Nat.lt_succ_self _) (by omega) (by rw [Int.sub_zero]; rfl)
  intro j
  induction j with
  | zero => intro c hj; exact absurd hj (Nat.not_lt_zero _)
  | succ j ih15 =>
    intro c hj15 i0 i1
    refine AR.blk 2 (f' := (18, [some (vA b), some (vI s), some (vI x), some (vI (m_room s x)), some (vI (m_step x)), some (vI c)], [vI (m_room s x), vI c], (C, N))) (fun _ => rfl) ?_
    refine AR.ic_ge rfl (by first | omega | (have z1 := m_sqs s x c h0 h1 (by omega); omega)) (fun c3 => ?_) (fun c3 => ?_)
    · show AR E d _ (44, [some (vA b), some (vI s), some (vI x), some (vI (m_room s x)), some (vI (m_step x)), some (vI c)], [], (C, N)) _
      refine AR.blk 1 (f' := (46, [some (vA b), some (vI s), some (vI x), some (vI (m_room s x)), some (vI (m_step x)), some (vI c)], [vI c], (C, N))) (fun _ => rfl) ?_
      exact AR.retI rfl (by rw [← i1]; first | (rw [show (m_room s x - c).toNat = 0 by omega]; rfl) | (rw [show (m_room s x - c).toNat = (m_room s x - (c + 1)).toNat + 1 by omega]; exact (if_pos (by assumption)).symm)) ⟨rfl, .inl rfl⟩ rfl
    · show AR E d _ (21, [some (vA b), some (vI s), some (vI x), some (vI (m_room s x)), some (vI (m_step x)), some (vI c)], [], (C, N)) _
      refine AR.blk 8 (f' := (31, [some (vA b), some (vI s), some (vI x), some (vI (m_room s x)), some (vI (m_step x)), some (vI c)], [vI (s + ((c + 1) * (m_step x))), vA b], (C, N))) (fun _ => rfl) ?_
      refine AR.callV [vI (s + ((c + 1) * (m_step x)))] (ev_X0_pieceAt (by omega) hb hr hw (s + ((c + 1) * (m_step x))) (by first | omega | (have z1 := m_sqs s x c h0 h1 (by omega); omega))) hb.1 rfl rfl rfl rfl rfl ?_
      show AR E d _ (34, [some (vA b), some (vI s), some (vI x), some (vI (m_room s x)), some (vI (m_step x)), some (vI c)], [vI (P (s + ((c + 1) * (m_step x))))], (C, N)) _
      have f4 := hw.1 (s + ((c + 1) * (m_step x)))
      refine AR.blk 1 (f' := (35, [some (vA b), some (vI s), some (vI x), some (vI (m_room s x)), some (vI (m_step x)), some (vI c)], [vI (-1), vI (P (s + ((c + 1) * (m_step x))))], (C, N))) (fun _ => rfl) ?_
      refine AR.ic_eq rfl (by first | omega | (have z1 := m_sqs s x c h0 h1 (by omega); omega)) (fun c5 => ?_) (fun c5 => ?_)
      · show AR E d _ (44, [some (vA b), some (vI s), some (vI x), some (vI (m_room s x)), some (vI (m_step x)), some (vI c)], [], (C, N)) _
        refine AR.blk 1 (f' := (46, [some (vA b), some (vI s), some (vI x), some (vI (m_room s x)), some (vI (m_step x)), some (vI c)], [vI c], (C, N))) (fun _ => rfl) ?_
        exact AR.retI rfl (by rw [← i1]; first | (rw [show (m_room s x - c).toNat = 0 by omega]; rfl) | (rw [show (m_room s x - c).toNat = (m_room s x - (c + 1)).toNat + 1 by omega]; exact (if_pos (by assumption)).symm)) ⟨rfl, .inl rfl⟩ rfl
      · show AR E d _ (38, [some (vA b), some (vI s), some (vI x), some (vI (m_room s x)), some (vI (m_step x)), some (vI c)], [], (C, N)) _
        refine AR.blk 2 (f' := (15, [some (vA b), some (vI s), some (vI x), some (vI (m_room s x)), some (vI (m_step x)), some (vI (c + 1))], [], (C, N))) (fun _ => rfl) ?_
        exact ih15 _ (by omega) (by omega) (by rw [← i1, show (m_room s x - c).toNat = (m_room s x - (c + 1)).toNat + 1 by omega]; exact (if_neg (by assumption)).symm)

theorem ev_X0_causeAgainst {d : Nat} (hd : 3 ≤ d) (hb : g_isB C b) (hr : g_rB N b P n q p cl tn) (hw : g_wB P n q p cl tn) (s x : Int) (h0 : 0 ≤ s ∧ s < 36) (h1 : 0 ≤ x ∧ x < 4) : Ev E d 14 [vA b, vI s, vI x] (C, N) (some (vI (m_cause P n q cl s x)), (C, N)) := by
  obtain ⟨d, rfl⟩ : ∃ j, d = j + 1 := ⟨d - 1, by omega⟩
  refine Ev.intro (M := ag_mX0_causeAgainst) rfl rfl ?_
  show AR E d _ (0, [some (vA b), some (vI s), some (vI x), none, none], [], (C, N)) _
  refine AR.blk 2 (f' := (2, [some (vA b), some (vI s), some (vI x), none, none], [vI s, vA b], (C, N))) (fun _ => rfl) ?_
  refine AR.callV [vI s] (ev_X0_pieceAt (by omega) hb hr hw s (by first | omega | (have z1 := m_ahead_in s x (m_std P s x + 1) h0 h1 (by omega); omega))) hb.1 rfl rfl rfl rfl rfl ?_
  show AR E d _ (5, [some (vA b), some (vI s), some (vI x), none, none], [vI (P s)], (C, N)) _
  have f1 := hw.1 s
  refine AR.blk 3 (f' := (8, [some (vA b), some (vI s), some (vI x), some (vI (P s)), none], [vI x, vI (P s)], (C, N))) (fun _ => rfl) ?_
  refine AR.callS [vI (P s), vI x] (ev_X6_goes (by omega) (P s) x (by first | omega | (have z1 := m_ahead_in s x (m_std P s x + 1) h0 h1 (by omega); omega)) (by first | omega | (have z1 := m_ahead_in s x (m_std P s x + 1) h0 h1 (by omega); omega))) rfl rfl rfl rfl rfl ?_
  show AR E d _ (11, [some (vA b), some (vI s), some (vI x), some (vI (P s)), none], [vI (m_goes (P s) x)], (C, N)) _
  have f2 := m_goes_in ((P s)) (x)
  refine AR.if_ne rfl (by first | omega | (have z1 := m_ahead_in s x (m_std P s x + 1) h0 h1 (by omega); omega)) (fun c3 => ?_) (fun c3 => ?_)
  · show AR E d _ (17, [some (vA b), some (vI s), some (vI x), some (vI (P s)), none], [], (C, N)) _
    refine AR.blk 2 (f' := (19, [some (vA b), some (vI s), some (vI x), some (vI (P s)), none], [vI x, vI s], (C, N))) (fun _ => rfl) ?_
    refine AR.callS [vI s, vI x] (ev_X6_roomFrom (by omega) s x (by first | omega | (have z1 := m_ahead_in s x (m_std P s x + 1) h0 h1 (by omega); omega)) (by first | omega | (have z1 := m_ahead_in s x (m_std P s x + 1) h0 h1 (by omega); omega))) rfl rfl rfl rfl rfl ?_
    show AR E d _ (22, [some (vA b), some (vI s), some (vI x), some (vI (P s)), none], [vI (m_room s x)], (C, N)) _
    have f4 := m_room_in (s) (x) (by omega)
    refine AR.if_ne rfl (by first | omega | (have z1 := m_ahead_in s x (m_std P s x + 1) h0 h1 (by omega); omega)) (fun c5 => ?_) (fun c5 => ?_)
    · show AR E d _ (28, [some (vA b), some (vI s), some (vI x), some (vI (P s)), none], [], (C, N)) _
      refine AR.blk 3 (f' := (31, [some (vA b), some (vI s), some (vI x), some (vI (P s)), none], [vI x, vI s, vA b], (C, N))) (fun _ => rfl) ?_
      refine AR.callV [vI s, vI x] (ev_X0_standing (by omega) hb hr hw s x (by first | omega | (have z1 := m_ahead_in s x (m_std P s x + 1) h0 h1 (by omega); omega)) (by first | omega | (have z1 := m_ahead_in s x (m_std P s x + 1) h0 h1 (by omega); omega))) hb.1 rfl rfl rfl rfl rfl ?_
      show AR E d _ (34, [some (vA b), some (vI s), some (vI x), some (vI (P s)), none], [vI (m_std P s x)], (C, N)) _
      have f6 := m_std_in P s x (by omega)
      refine AR.blk 7 (f' := (43, [some (vA b), some (vI s), some (vI x), some (vI (P s)), some (vI (m_std P s x))], [vI ((m_std P s x) + 1), vI x, vI s, vA b], (C, N))) (fun _ => rfl) ?_
      refine AR.callS [vI s, vI x, vI ((m_std P s x) + 1)] (ev_X6_ahead (by omega) s x ((m_std P s x) + 1) (by first | omega | (have z1 := m_ahead_in s x (m_std P s x + 1) h0 h1 (by omega); omega)) (by first | omega | (have z1 := m_ahead_in s x (m_std P s x + 1) h0 h1 (by omega); omega)) (by first | omega | (have z1 := m_ahead_in s x (m_std P s x + 1) h0 h1 (by omega); omega))) rfl rfl rfl rfl rfl ?_
      show AR E d _ (46, [some (vA b), some (vI s), some (vI x), some (vI (P s)), some (vI (m_std P s x))], [vI (m_ahead s x ((m_std P s x) + 1)), vA b], (C, N)) _
      refine AR.callV [vI (m_ahead s x ((m_std P s x) + 1))] (ev_X0_isClosed (by omega) hb hr hw (m_ahead s x ((m_std P s x) + 1)) (by first | omega | (have z1 := m_ahead_in s x (m_std P s x + 1) h0 h1 (by omega); omega))) hb.1 rfl rfl rfl rfl rfl ?_
      show AR E d _ (49, [some (vA b), some (vI s), some (vI x), some (vI (P s)), some (vI (m_std P s x))], [vI (m_cl n q cl (m_ahead s x ((m_std P s x) + 1)))], (C, N)) _
      have f7 := m_cl_in n q cl (m_ahead s x ((m_std P s x) + 1)) (fun k => (hw.2.2.2.2.1 k).1)
      refine AR.if_eq rfl (by first | omega | (have z1 := m_ahead_in s x (m_std P s x + 1) h0 h1 (by omega); omega)) (fun c8 => ?_) (fun c8 => ?_)
      · show AR E d _ (55, [some (vA b), some (vI s), some (vI x), some (vI (P s)), some (vI (m_std P s x))], [], (C, N)) _
        refine AR.blk 2 (f' := (58, [some (vA b), some (vI s), some (vI x), some (vI (P s)), some (vI (m_std P s x))], [vI (P s), vI (m_std P s x)], (C, N))) (fun _ => rfl) ?_
        refine AR.callS [vI (P s)] (ev_X6_strengthOf (by omega) (P s) (by first | omega | (have z1 := m_ahead_in s x (m_std P s x + 1) h0 h1 (by omega); omega))) rfl rfl rfl rfl rfl ?_
        show AR E d _ (61, [some (vA b), some (vI s), some (vI x), some (vI (P s)), some (vI (m_std P s x))], [vI (m_tug (P s) + 1), vI (m_std P s x)], (C, N)) _
        have f9 := m_tug_in ((P s))
        refine AR.ic_le rfl (by first | omega | (have z1 := m_ahead_in s x (m_std P s x + 1) h0 h1 (by omega); omega)) (fun c10 => ?_) (fun c10 => ?_)
        · show AR E d _ (69, [some (vA b), some (vI s), some (vI x), some (vI (P s)), some (vI (m_std P s x))], [], (C, N)) _
          refine AR.blk 1 (f' := (70, [some (vA b), some (vI s), some (vI x), some (vI (P s)), some (vI (m_std P s x))], [vI 0], (C, N))) (fun _ => rfl) ?_
          exact AR.retI rfl (by unfold m_cause; omega) ⟨rfl, .inl rfl⟩ rfl
        · show AR E d _ (64, [some (vA b), some (vI s), some (vI x), some (vI (P s)), some (vI (m_std P s x))], [], (C, N)) _
          refine AR.blk 2 (f' := (70, [some (vA b), some (vI s), some (vI x), some (vI (P s)), some (vI (m_std P s x))], [vI 13], (C, N))) (fun _ => rfl) ?_
          exact AR.retI rfl (by unfold m_cause; omega) ⟨rfl, .inl rfl⟩ rfl
      · show AR E d _ (52, [some (vA b), some (vI s), some (vI x), some (vI (P s)), some (vI (m_std P s x))], [], (C, N)) _
        refine AR.blk 1 (f' := (54, [some (vA b), some (vI s), some (vI x), some (vI (P s)), some (vI (m_std P s x))], [vI 12], (C, N))) (fun _ => rfl) ?_
        exact AR.retI rfl (by unfold m_cause; omega) ⟨rfl, .inl rfl⟩ rfl
    · show AR E d _ (25, [some (vA b), some (vI s), some (vI x), some (vI (P s)), none], [], (C, N)) _
      refine AR.blk 1 (f' := (27, [some (vA b), some (vI s), some (vI x), some (vI (P s)), none], [vI 11], (C, N))) (fun _ => rfl) ?_
      exact AR.retI rfl (by unfold m_cause; omega) ⟨rfl, .inl rfl⟩ rfl
  · show AR E d _ (14, [some (vA b), some (vI s), some (vI x), some (vI (P s)), none], [], (C, N)) _
    refine AR.blk 1 (f' := (16, [some (vA b), some (vI s), some (vI x), some (vI (P s)), none], [vI 10], (C, N))) (fun _ => rfl) ?_
    exact AR.retI rfl (by unfold m_cause; omega) ⟨rfl, .inl rfl⟩ rfl

theorem ev_X0_causeDetail {d : Nat} (hd : 3 ≤ d) (hb : g_isB C b) (hr : g_rB N b P n q p cl tn) (hw : g_wB P n q p cl tn) (y s x : Int) (h0 : ag_in y) (h1 : 0 ≤ s ∧ s < 36) (h2 : 0 ≤ x ∧ x < 4) : Ev E d 15 [vA b, vI y, vI s, vI x] (C, N) (some (vI (m_causeD P y s x)), (C, N)) := by
  obtain ⟨d, rfl⟩ : ∃ j, d = j + 1 := ⟨d - 1, by omega⟩
  refine Ev.intro (M := ag_mX0_causeDetail) rfl rfl ?_
  show AR E d _ (0, [some (vA b), some (vI y), some (vI s), some (vI x)], [], (C, N)) _
  refine AR.blk 1 (f' := (1, [some (vA b), some (vI y), some (vI s), some (vI x)], [vI y], (C, N))) (fun _ => rfl) ?_
  have hsw1 : ag_in y := (by omega)
  by_cases e1 : y = 10
  · refine AR.tswA 0 rfl hsw1 e1 rfl (by omega) ?_
    show AR E d _ (28, [some (vA b), some (vI y), some (vI s), some (vI x)], [], (C, N)) _
    refine AR.blk 2 (f' := (30, [some (vA b), some (vI y), some (vI s), some (vI x)], [vI s, vA b], (C, N))) (fun _ => rfl) ?_
    refine AR.callV [vI s] (ev_X0_pieceAt (by omega) hb hr hw s (by omega)) hb.1 rfl rfl rfl rfl rfl ?_
    show AR E d _ (33, [some (vA b), some (vI y), some (vI s), some (vI x)], [vI (P s)], (C, N)) _
    have f2 := hw.1 s
    refine AR.callS [vI (P s)] (ev_X6_isTug (by omega) (P s) (by omega)) rfl rfl rfl rfl rfl ?_
    show AR E d _ (36, [some (vA b), some (vI y), some (vI s), some (vI x)], [vI (m_tug (P s))], (C, N)) _
    have f3 := m_tug_in ((P s))
    refine AR.if_eq rfl (by omega) (fun c4 => ?_) (fun c4 => ?_)
    · show AR E d _ (43, [some (vA b), some (vI y), some (vI s), some (vI x)], [], (C, N)) _
      refine AR.blk 1 (f' := (44, [some (vA b), some (vI y), some (vI s), some (vI x)], [vI 0], (C, N))) (fun _ => rfl) ?_
      exact AR.retI rfl (by unfold m_causeD; omega) ⟨rfl, .inl rfl⟩ rfl
    · show AR E d _ (39, [some (vA b), some (vI y), some (vI s), some (vI x)], [], (C, N)) _
      refine AR.blk 2 (f' := (44, [some (vA b), some (vI y), some (vI s), some (vI x)], [vI 1], (C, N))) (fun _ => rfl) ?_
      exact AR.retI rfl (by unfold m_causeD; omega) ⟨rfl, .inl rfl⟩ rfl
  by_cases e5 : y = 11
  · refine AR.tswA 1 rfl hsw1 e5 rfl (by omega) ?_
    show AR E d _ (45, [some (vA b), some (vI y), some (vI s), some (vI x)], [], (C, N)) _
    refine AR.blk 1 (f' := (46, [some (vA b), some (vI y), some (vI s), some (vI x)], [vI s], (C, N))) (fun _ => rfl) ?_
    exact AR.retI rfl (by unfold m_causeD; omega) ⟨rfl, .inl rfl⟩ rfl
  by_cases e6 : y = 12
  · refine AR.tswA 2 rfl hsw1 e6 rfl (by omega) ?_
    show AR E d _ (47, [some (vA b), some (vI y), some (vI s), some (vI x)], [], (C, N)) _
    refine AR.blk 5 (f' := (52, [some (vA b), some (vI y), some (vI s), some (vI x)], [vI x, vI s, vA b, vI x, vI s], (C, N))) (fun _ => rfl) ?_
    refine AR.callV [vI s, vI x] (ev_X0_standing (by omega) hb hr hw s x (by omega) (by omega)) hb.1 rfl rfl rfl rfl rfl ?_
    show AR E d _ (55, [some (vA b), some (vI y), some (vI s), some (vI x)], [vI (m_std P s x), vI x, vI s], (C, N)) _
    have f7 := m_std_in P s x (by omega)
    refine AR.blk 2 (f' := (57, [some (vA b), some (vI y), some (vI s), some (vI x)], [vI ((m_std P s x) + 1), vI x, vI s], (C, N))) (fun _ => rfl) ?_
    refine AR.callS [vI s, vI x, vI ((m_std P s x) + 1)] (ev_X6_ahead (by omega) s x ((m_std P s x) + 1) (by omega) (by omega) (by omega)) rfl rfl rfl rfl rfl ?_
    show AR E d _ (60, [some (vA b), some (vI y), some (vI s), some (vI x)], [vI (m_ahead s x ((m_std P s x) + 1))], (C, N)) _
    exact AR.retI rfl (by unfold m_causeD; omega) ⟨rfl, .inl rfl⟩ rfl
  refine AR.tswD rfl hsw1 (by omega) ?_
  show AR E d _ (61, [some (vA b), some (vI y), some (vI s), some (vI x)], [], (C, N)) _
  refine AR.blk 3 (f' := (64, [some (vA b), some (vI y), some (vI s), some (vI x)], [vI x, vI s, vA b], (C, N))) (fun _ => rfl) ?_
  refine AR.callV [vI s, vI x] (ev_X0_standing (by omega) hb hr hw s x (by omega) (by omega)) hb.1 rfl rfl rfl rfl rfl ?_
  show AR E d _ (67, [some (vA b), some (vI y), some (vI s), some (vI x)], [vI (m_std P s x)], (C, N)) _
  have f8 := m_std_in P s x (by omega)
  exact AR.retI rfl (by unfold m_causeD; omega) ⟨rfl, .inl rfl⟩ rfl

theorem ev_X0_pushedOff {d : Nat} (hd : 3 ≤ d) (hb : g_isB C b) (hr : g_rB N b P n q p cl tn) (hw : g_wB P n q p cl tn) (s x : Int) (h0 : 0 ≤ s ∧ s < 36) (h1 : 0 ≤ x ∧ x < 4) : Ev E d 16 [vA b, vI s, vI x] (C, N) (some (vI (m_off P s x)), (C, N)) := by
  obtain ⟨d, rfl⟩ : ∃ j, d = j + 1 := ⟨d - 1, by omega⟩
  refine Ev.intro (M := ag_mX0_pushedOff) rfl rfl ?_
  show AR E d _ (0, [some (vA b), some (vI s), some (vI x), none], [], (C, N)) _
  refine AR.blk 3 (f' := (3, [some (vA b), some (vI s), some (vI x), none], [vI x, vI s, vA b], (C, N))) (fun _ => rfl) ?_
  refine AR.callV [vI s, vI x] (ev_X0_standing (by omega) hb hr hw s x (by first | omega | (have z1 := m_ahead_in s x (m_std P s x) h0 h1 (by omega); omega)) (by first | omega | (have z1 := m_ahead_in s x (m_std P s x) h0 h1 (by omega); omega))) hb.1 rfl rfl rfl rfl rfl ?_
  show AR E d _ (6, [some (vA b), some (vI s), some (vI x), none], [vI (m_std P s x)], (C, N)) _
  have f1 := m_std_in P s x (by omega)
  refine AR.blk 2 (f' := (8, [some (vA b), some (vI s), some (vI x), some (vI (m_std P s x))], [vI (m_std P s x)], (C, N))) (fun _ => rfl) ?_
  refine AR.if_eq rfl (by first | omega | (have z1 := m_ahead_in s x (m_std P s x) h0 h1 (by omega); omega)) (fun c2 => ?_) (fun c2 => ?_)
  · show AR E d _ (20, [some (vA b), some (vI s), some (vI x), some (vI (m_std P s x))], [], (C, N)) _
    refine AR.blk 1 (f' := (21, [some (vA b), some (vI s), some (vI x), some (vI (m_std P s x))], [vI (-1)], (C, N))) (fun _ => rfl) ?_
    exact AR.retI rfl (by unfold m_off; omega) ⟨rfl, .inl rfl⟩ rfl
  · show AR E d _ (11, [some (vA b), some (vI s), some (vI x), some (vI (m_std P s x))], [], (C, N)) _
    refine AR.blk 3 (f' := (14, [some (vA b), some (vI s), some (vI x), some (vI (m_std P s x))], [vI x, vI s, vI (m_std P s x)], (C, N))) (fun _ => rfl) ?_
    refine AR.callS [vI s, vI x] (ev_X6_roomFrom (by omega) s x (by first | omega | (have z1 := m_ahead_in s x (m_std P s x) h0 h1 (by omega); omega)) (by first | omega | (have z1 := m_ahead_in s x (m_std P s x) h0 h1 (by omega); omega))) rfl rfl rfl rfl rfl ?_
    show AR E d _ (17, [some (vA b), some (vI s), some (vI x), some (vI (m_std P s x))], [vI (m_room s x), vI (m_std P s x)], (C, N)) _
    have f3 := m_room_in (s) (x) (by omega)
    refine AR.ic_ge rfl (by first | omega | (have z1 := m_ahead_in s x (m_std P s x) h0 h1 (by omega); omega)) (fun c4 => ?_) (fun c4 => ?_)
    · show AR E d _ (22, [some (vA b), some (vI s), some (vI x), some (vI (m_std P s x))], [], (C, N)) _
      refine AR.blk 4 (f' := (26, [some (vA b), some (vI s), some (vI x), some (vI (m_std P s x))], [vI (m_std P s x), vI x, vI s, vA b], (C, N))) (fun _ => rfl) ?_
      refine AR.callS [vI s, vI x, vI (m_std P s x)] (ev_X6_ahead (by omega) s x (m_std P s x) (by first | omega | (have z1 := m_ahead_in s x (m_std P s x) h0 h1 (by omega); omega)) (by first | omega | (have z1 := m_ahead_in s x (m_std P s x) h0 h1 (by omega); omega)) (by first | omega | (have z1 := m_ahead_in s x (m_std P s x) h0 h1 (by omega); omega))) rfl rfl rfl rfl rfl ?_
      show AR E d _ (29, [some (vA b), some (vI s), some (vI x), some (vI (m_std P s x))], [vI (m_ahead s x (m_std P s x)), vA b], (C, N)) _
      refine AR.callV [vI (m_ahead s x (m_std P s x))] (ev_X0_pieceAt (by omega) hb hr hw (m_ahead s x (m_std P s x)) (by first | omega | (have z1 := m_ahead_in s x (m_std P s x) h0 h1 (by omega); omega))) hb.1 rfl rfl rfl rfl rfl ?_
      show AR E d _ (32, [some (vA b), some (vI s), some (vI x), some (vI (m_std P s x))], [vI (P (m_ahead s x (m_std P s x)))], (C, N)) _
      have f5 := hw.1 (m_ahead s x (m_std P s x))
      exact AR.retI rfl (by unfold m_off; omega) ⟨rfl, .inl rfl⟩ rfl
    · show AR E d _ (20, [some (vA b), some (vI s), some (vI x), some (vI (m_std P s x))], [], (C, N)) _
      refine AR.blk 1 (f' := (21, [some (vA b), some (vI s), some (vI x), some (vI (m_std P s x))], [vI (-1)], (C, N))) (fun _ => rfl) ?_
      exact AR.retI rfl (by unfold m_off; omega) ⟨rfl, .inl rfl⟩ rfl

theorem ev_X0_countMoves {d : Nat} (hd : 4 ≤ d) (hb : g_isB C b) (hr : g_rB N b P n q p cl tn) (hw : g_wB P n q p cl tn) (w : Int) (h0 : ag_in w) : Ev E d 17 [vA b, vI w] (C, N) (some (vI (m_mv P n q cl w)), (C, N)) := by
  obtain ⟨d, rfl⟩ : ∃ j, d = j + 1 := ⟨d - 1, by omega⟩
  refine Ev.intro (M := ag_mX0_countMoves) rfl rfl ?_
  show AR E d _ (0, [some (vA b), some (vI w), none, none, none], [], (C, N)) _
  refine AR.blk 4 (f' := (4, [some (vA b), some (vI w), some (vI 0), some (vI 0), none], [], (C, N))) (fun _ => rfl) ?_
  suffices H4 : ∀ (j : Nat) (c : Int) (k : Int) (z : Option av), (144 - k).toNat < j → (0 ≤ k ∧ k ≤ 144 ∧ 0 ≤ c ∧ c ≤ k) → (c = m_sum (m_code P n q cl w) k.toNat) → AR E d ag_mX0_countMoves (4, [some (vA b), some (vI w), some (vI c), some (vI k), z], [], (C, N)) (fun o_ => o_ = (some (vI (m_mv P n q cl w)), (C, N))) by
    exact H4 _ _ _ _ (Nat.lt_succ_self _) (by omega) rfl
  intro j
  induction j with
  | zero => intro c k z hj; exact absurd hj (Nat.not_lt_zero _)
  | succ j ih4 =>
    intro c k z hj4 i0 i1
    refine AR.blk 2 (f' := (8, [some (vA b), some (vI w), some (vI c), some (vI k), z], [vI 144, vI k], (C, N))) (fun _ => rfl) ?_
    refine AR.ic_ge rfl (by omega) (fun c1 => ?_) (fun c1 => ?_)
    · show AR E d _ (50, [some (vA b), some (vI w), some (vI c), some (vI k), z], [], (C, N)) _
      refine AR.blk 1 (f' := (51, [some (vA b), some (vI w), some (vI c), some (vI k), z], [vI c], (C, N))) (fun _ => rfl) ?_
      exact AR.retI rfl (by rw [i1, show k = 144 by omega]; rfl) ⟨rfl, .inl rfl⟩ rfl
    · show AR E d _ (11, [some (vA b), some (vI w), some (vI c), some (vI k), z], [], (C, N)) _
      refine AR.blk 2 (f' := (13, [some (vA b), some (vI w), some (vI c), some (vI k), z], [vI 4, vI k], (C, N))) (fun _ => rfl) ?_
      refine AR.idiv rfl (by omega) ?_
      refine AR.blk 3 (f' := (19, [some (vA b), some (vI w), some (vI c), some (vI k), some (vI (k / 4))], [vI (k / 4), vA b], (C, N))) (fun _ => rfl) ?_
      refine AR.callV [vI (k / 4)] (ev_X0_pieceAt (by omega) hb hr hw (k / 4) (by omega)) hb.1 rfl rfl rfl rfl rfl ?_
      show AR E d _ (22, [some (vA b), some (vI w), some (vI c), some (vI k), some (vI (k / 4))], [vI (P (k / 4))], (C, N)) _
      have f2 := hw.1 (k / 4)
      refine AR.callS [vI (P (k / 4))] (ev_X6_ownerOf (by omega) (P (k / 4)) (by omega)) rfl rfl rfl rfl rfl ?_
      show AR E d _ (25, [some (vA b), some (vI w), some (vI c), some (vI k), some (vI (k / 4))], [vI (m_own (P (k / 4)))], (C, N)) _
      have f3 := m_own_in ((P (k / 4))) (by omega)
      refine AR.blk 1 (f' := (26, [some (vA b), some (vI w), some (vI c), some (vI k), some (vI (k / 4))], [vI w, vI (m_own (P (k / 4)))], (C, N))) (fun _ => rfl) ?_
      refine AR.ic_ne rfl (by omega) (fun c4 => ?_) (fun c4 => ?_)
      · show AR E d _ (44, [some (vA b), some (vI w), some (vI c), some (vI k), some (vI (k / 4))], [], (C, N)) _
        refine AR.blk 2 (f' := (4, [some (vA b), some (vI w), some (vI c), some (vI (k + 1)), some (vI (k / 4))], [], (C, N))) (fun _ => rfl) ?_
        exact ih4 _ _ _ (by omega) (by omega) (by rw [m_sum_succ _ (by omega), ← i1]; unfold m_code; omega)
      · show AR E d _ (29, [some (vA b), some (vI w), some (vI c), some (vI k), some (vI (k / 4))], [], (C, N)) _
        refine AR.blk 4 (f' := (34, [some (vA b), some (vI w), some (vI c), some (vI k), some (vI (k / 4))], [vI 4, vI k, vI (k / 4), vA b], (C, N))) (fun _ => rfl) ?_
        refine AR.irem rfl (by omega) ?_
        refine AR.callV [vI (k / 4), vI (k % 4)] (ev_X0_causeAgainst (by omega) hb hr hw (k / 4) (k % 4) (by omega) (by omega)) hb.1 rfl rfl rfl rfl rfl ?_
        show AR E d _ (38, [some (vA b), some (vI w), some (vI c), some (vI k), some (vI (k / 4))], [vI (m_cause P n q cl (k / 4) (k % 4))], (C, N)) _
        have f5 := m_cause_in P n q cl (k / 4) (k % 4)
        refine AR.if_ne rfl (by omega) (fun c6 => ?_) (fun c6 => ?_)
        · show AR E d _ (44, [some (vA b), some (vI w), some (vI c), some (vI k), some (vI (k / 4))], [], (C, N)) _
          refine AR.blk 2 (f' := (4, [some (vA b), some (vI w), some (vI c), some (vI (k + 1)), some (vI (k / 4))], [], (C, N))) (fun _ => rfl) ?_
          exact ih4 _ _ _ (by omega) (by omega) (by rw [m_sum_succ _ (by omega), ← i1]; unfold m_code; omega)
        · show AR E d _ (41, [some (vA b), some (vI w), some (vI c), some (vI k), some (vI (k / 4))], [], (C, N)) _
          refine AR.blk 3 (f' := (4, [some (vA b), some (vI w), some (vI (c + 1)), some (vI (k + 1)), some (vI (k / 4))], [], (C, N))) (fun _ => rfl) ?_
          exact ih4 _ _ _ (by omega) (by omega) (by rw [m_sum_succ _ (by omega), ← i1]; unfold m_code; omega)

theorem ev_X0_signOf {d : Nat} (hd : 3 ≤ d) (hb : g_isB C b) (hr : g_rB N b P n q p cl tn) (hw : g_wB P n q p cl tn) (s : Int) (h0 : 0 ≤ s ∧ s < 36) : Ev E d 23 [vA b, vI s] (C, N) (some (vI (m_sign P n q cl s)), (C, N)) := by
  obtain ⟨d, rfl⟩ : ∃ j, d = j + 1 := ⟨d - 1, by omega⟩
  refine Ev.intro (M := ag_mX0_signOf) rfl rfl ?_
  show AR E d _ (0, [some (vA b), some (vI s), none, none], [], (C, N)) _
  refine AR.blk 2 (f' := (2, [some (vA b), some (vI s), none, none], [vI s, vA b], (C, N))) (fun _ => rfl) ?_
  refine AR.callV [vI s] (ev_X0_pieceAt (by omega) hb hr hw s (by omega)) hb.1 rfl rfl rfl rfl rfl ?_
  show AR E d _ (5, [some (vA b), some (vI s), none, none], [vI (P s)], (C, N)) _
  have f1 := hw.1 s
  refine AR.blk 3 (f' := (8, [some (vA b), some (vI s), some (vI (P s)), none], [vI (-1), vI (P s)], (C, N))) (fun _ => rfl) ?_
  refine AR.ic_eq rfl (by omega) (fun c2 => ?_) (fun c2 => ?_)
  · show AR E d _ (45, [some (vA b), some (vI s), some (vI (P s)), none], [], (C, N)) _
    refine AR.blk 2 (f' := (47, [some (vA b), some (vI s), some (vI (P s)), none], [vI s, vA b], (C, N))) (fun _ => rfl) ?_
    refine AR.callV [vI s] (ev_X0_lockAt (by omega) hb hr hw s (by omega)) hb.1 rfl rfl rfl rfl rfl ?_
    show AR E d _ (50, [some (vA b), some (vI s), some (vI (P s)), none], [vI (m_la n q s)], (C, N)) _
    have f3 := m_la_in n q s hw.2.2.1.1
    refine AR.blk 1 (f' := (51, [some (vA b), some (vI s), some (vI (P s)), none], [vI (-1), vI (m_la n q s)], (C, N))) (fun _ => rfl) ?_
    refine AR.ic_ne rfl (by omega) (fun c4 => ?_) (fun c4 => ?_)
    · show AR E d _ (57, [some (vA b), some (vI s), some (vI (P s)), none], [], (C, N)) _
      refine AR.blk 2 (f' := (59, [some (vA b), some (vI s), some (vI (P s)), none], [vI s, vA b], (C, N))) (fun _ => rfl) ?_
      refine AR.callV [vI s] (ev_X0_isClosed (by omega) hb hr hw s (by omega)) hb.1 rfl rfl rfl rfl rfl ?_
      show AR E d _ (62, [some (vA b), some (vI s), some (vI (P s)), none], [vI (m_cl n q cl s)], (C, N)) _
      have f5 := m_cl_in n q cl s (fun k => (hw.2.2.2.2.1 k).1)
      refine AR.if_eq rfl (by omega) (fun c6 => ?_) (fun c6 => ?_)
      · show AR E d _ (70, [some (vA b), some (vI s), some (vI (P s)), none], [], (C, N)) _
        refine AR.blk 1 (f' := (72, [some (vA b), some (vI s), some (vI (P s)), none], [vI 61], (C, N))) (fun _ => rfl) ?_
        exact AR.retI rfl (by unfold m_sign; first | omega | (simp only [m_own, m_tug] at *; omega)) ⟨rfl, .inl rfl⟩ rfl
      · show AR E d _ (65, [some (vA b), some (vI s), some (vI (P s)), none], [], (C, N)) _
        refine AR.blk 2 (f' := (72, [some (vA b), some (vI s), some (vI (P s)), none], [vI 35], (C, N))) (fun _ => rfl) ?_
        exact AR.retI rfl (by unfold m_sign; first | omega | (simp only [m_own, m_tug] at *; omega)) ⟨rfl, .inl rfl⟩ rfl
    · show AR E d _ (54, [some (vA b), some (vI s), some (vI (P s)), none], [], (C, N)) _
      refine AR.blk 1 (f' := (56, [some (vA b), some (vI s), some (vI (P s)), none], [vI 46], (C, N))) (fun _ => rfl) ?_
      exact AR.retI rfl (by unfold m_sign; first | omega | (simp only [m_own, m_tug] at *; omega)) ⟨rfl, .inl rfl⟩ rfl
  · show AR E d _ (11, [some (vA b), some (vI s), some (vI (P s)), none], [], (C, N)) _
    refine AR.blk 1 (f' := (12, [some (vA b), some (vI s), some (vI (P s)), none], [vI (P s)], (C, N))) (fun _ => rfl) ?_
    refine AR.callS [vI (P s)] (ev_X6_isTug (by omega) (P s) (by omega)) rfl rfl rfl rfl rfl ?_
    show AR E d _ (15, [some (vA b), some (vI s), some (vI (P s)), none], [vI (m_tug (P s))], (C, N)) _
    have f7 := m_tug_in ((P s))
    refine AR.if_eq rfl (by omega) (fun c8 => ?_) (fun c8 => ?_)
    · show AR E d _ (23, [some (vA b), some (vI s), some (vI (P s)), none], [], (C, N)) _
      refine AR.blk 3 (f' := (27, [some (vA b), some (vI s), some (vI (P s)), some (vI 98)], [vI (P s)], (C, N))) (fun _ => rfl) ?_
      refine AR.callS [vI (P s)] (ev_X6_ownerOf (by omega) (P s) (by omega)) rfl rfl rfl rfl rfl ?_
      show AR E d _ (30, [some (vA b), some (vI s), some (vI (P s)), some (vI 98)], [vI (m_own (P s))], (C, N)) _
      have f9 := m_own_in ((P s)) (by omega)
      refine AR.if_ne rfl (by omega) (fun c10 => ?_) (fun c10 => ?_)
      · show AR E d _ (37, [some (vA b), some (vI s), some (vI (P s)), some (vI 98)], [], (C, N)) _
        refine AR.blk 5 (f' := (44, [some (vA b), some (vI s), some (vI (P s)), some (vI 98)], [vI 66], (C, N))) (fun _ => rfl) ?_
        exact AR.retI rfl (by unfold m_sign; first | omega | (simp only [m_own, m_tug] at *; omega)) ⟨rfl, .inl rfl⟩ rfl
      · show AR E d _ (33, [some (vA b), some (vI s), some (vI (P s)), some (vI 98)], [], (C, N)) _
        refine AR.blk 2 (f' := (44, [some (vA b), some (vI s), some (vI (P s)), some (vI 98)], [vI 98], (C, N))) (fun _ => rfl) ?_
        exact AR.retI rfl (by unfold m_sign; first | omega | (simp only [m_own, m_tug] at *; omega)) ⟨rfl, .inl rfl⟩ rfl
    · show AR E d _ (18, [some (vA b), some (vI s), some (vI (P s)), none], [], (C, N)) _
      refine AR.blk 4 (f' := (27, [some (vA b), some (vI s), some (vI (P s)), some (vI 116)], [vI (P s)], (C, N))) (fun _ => rfl) ?_
      refine AR.callS [vI (P s)] (ev_X6_ownerOf (by omega) (P s) (by omega)) rfl rfl rfl rfl rfl ?_
      show AR E d _ (30, [some (vA b), some (vI s), some (vI (P s)), some (vI 116)], [vI (m_own (P s))], (C, N)) _
      have f11 := m_own_in ((P s)) (by omega)
      refine AR.if_ne rfl (by omega) (fun c12 => ?_) (fun c12 => ?_)
      · show AR E d _ (37, [some (vA b), some (vI s), some (vI (P s)), some (vI 116)], [], (C, N)) _
        refine AR.blk 5 (f' := (44, [some (vA b), some (vI s), some (vI (P s)), some (vI 116)], [vI 84], (C, N))) (fun _ => rfl) ?_
        exact AR.retI rfl (by unfold m_sign; first | omega | (simp only [m_own, m_tug] at *; omega)) ⟨rfl, .inl rfl⟩ rfl
      · show AR E d _ (33, [some (vA b), some (vI s), some (vI (P s)), some (vI 116)], [], (C, N)) _
        refine AR.blk 2 (f' := (44, [some (vA b), some (vI s), some (vI (P s)), some (vI 116)], [vI 116], (C, N))) (fun _ => rfl) ?_
        exact AR.retI rfl (by unfold m_sign; first | omega | (simp only [m_own, m_tug] at *; omega)) ⟨rfl, .inl rfl⟩ rfl

end L2b
end
section
/-! LEVEL 2: the model's row -/
def g_isM (C : List ag_C) (m : Nat) : Prop := C[m]? = some (7, 20, [some (m + 1), some (m + 2), some (m + 3), some (m + 4), some (m + 5), none, none, none, none, none, none, none, none, some (m + 6), none, some (m + 7), none, none, some (m + 8), none]) ∧ C[m + 1]? = some (8, 800, []) ∧ C[m + 2]? = some (8, 6400, []) ∧ C[m + 3]? = some (8, 800, []) ∧ C[m + 4]? = some (8, 800, []) ∧ C[m + 5]? = some (8, 800, []) ∧ C[m + 6]? = some (8, 70, []) ∧ C[m + 7]? = some (10, 6, []) ∧ C[m + 8]? = some (8, 64, [])
def g_rR (R : Int → Int) (P : Int → Int) (n : Int) (q p cl tn : Int → Int) : Prop := (∀ s, 0 ≤ s → s < 36 → R (31 + s) = P s + 1) ∧ R 14 = n ∧ (∀ k, 0 ≤ k → k < 4 → R (15 + 4 * k + 0) = q k ∧ R (15 + 4 * k + 1) = p k) ∧ (∀ k, 0 ≤ k → k < 4 → R (15 + 4 * k + 2) = cl k ∧ R (15 + 4 * k + 3) = tn k)
def g_rS (R : Int → Int) (t bg en ca : Int) (gn pu mk : Int → Int) : Prop := R 0 = t ∧ R 1 = t % 2 ∧ R 2 = t / 4 ∧ R 3 = bg ∧ R 4 = en ∧ R 5 = ca ∧ (R 8 = gn 0 ∧ R 9 = gn 1) ∧ (R 10 = pu 0 ∧ R 11 = pu 1) ∧ (R 12 = mk 0 ∧ R 13 = mk 1)
def g_wS (t bg en ca : Int) (gn pu mk : Int → Int) : Prop := (0 ≤ t ∧ t ≤ 120) ∧ (bg = 0 ∨ bg = 1) ∧ (0 ≤ en ∧ en ≤ 3) ∧ (0 ≤ ca ∧ ca ≤ 3 * t) ∧ (∀ w, (0 ≤ gn w ∧ gn w ≤ 10 * t) ∧ (0 ≤ pu w ∧ pu w ≤ 10 * t) ∧ (0 ≤ mk w ∧ mk w ≤ 10 * t)) ∧ (bg = 0 → t = 0 ∧ en = 0)
def m_on (bg en : Int) : Int := if bg = 1 ∧ en = 0 then 1 else 0
theorem m_on_in (bg en : Int) : m_on bg en = 0 ∨ m_on bg en = 1 := by unfold m_on; omega
def m_open (P : Int → Int) (n : Int) (q cl : Int → Int) (t bg en : Int) (m : Int) : Int := if m_on bg en = 1 ∧ m_own (P (m / 4)) = t % 2 ∧ m_cause P n q cl (m / 4) (m % 4) = 0 then 1 else 0
theorem m_open_in (P : Int → Int) (n : Int) (q cl : Int → Int) (t bg en m : Int) : m_open P n q cl t bg en m = 0 ∨ m_open P n q cl t bg en m = 1 := by unfold m_open; omega
def m_mvs (P : Int → Int) (n : Int) (q cl : Int → Int) (t bg en : Int) : Int := m_sum (m_open P n q cl t bg en) 144
theorem m_mvs_in (P : Int → Int) (n : Int) (q cl : Int → Int) (t bg en : Int) : 0 ≤ m_mvs P n q cl t bg en ∧ m_mvs P n q cl t bg en ≤ 144 := m_sum_b _ (fun m => by have := m_open_in P n q cl t bg en m; omega) 144
def m_ck (P : Int → Int) (w k : Int) : Int := m_sum (fun s => if P s + 1 = 2 * w + k + 1 then 1 else 0) 36
theorem m_ck_in (P : Int → Int) (w k : Int) : 0 ≤ m_ck P w k ∧ m_ck P w k ≤ 36 := m_sum_b _ (fun k => by omega) 36
theorem m_sum_ext {f g : Int → Int} : ∀ (n : Nat), (∀ k : Int, 0 ≤ k → k < n → f k = g k) → m_sum f n = m_sum g n := by
  intro n
  induction n with
  | zero => intro _; rfl
  | succ n ih =>
    intro h
    show m_sum f n + f n = m_sum g n + g n
    rw [ih (fun k h0 h1 => h k h0 (by omega)), h n (by omega) (by omega)]
theorem m_sum_add (f g : Int → Int) : ∀ (n : Nat), m_sum (fun k => f k + g k) n = m_sum f n + m_sum g n := by
  intro n
  induction n with
  | zero => rfl
  | succ n ih =>
    show m_sum (fun k => f k + g k) n + (f n + g n) = (m_sum f n + f n) + (m_sum g n + g n)
    omega
theorem m_ck_sum (P : Int → Int) (w : Int) (h : ∀ s, -1 ≤ P s ∧ P s ≤ 3) (hw : 0 ≤ w ∧ w < 2) : m_ck P w 0 + m_ck P w 1 = m_cnt P w := by
  unfold m_ck m_cnt
  rw [← m_sum_add]
  refine m_sum_ext 36 (fun k _ _ => ?_)
  have := h k
  unfold m_own
  omega
theorem m_ck_tug (P : Int → Int) (w : Int) (h : ∀ s, -1 ≤ P s ∧ P s ≤ 3) (hw : 0 ≤ w ∧ w < 2) : m_ck P w 1 = m_tugs P w := by
  unfold m_ck m_tugs
  refine m_sum_ext 36 (fun k _ _ => ?_)
  have := h k
  unfold m_own m_tug
  omega
theorem m_ah (s x k : Int) (h : 0 ≤ s ∧ s < 36) (hx : 0 ≤ x ∧ x < 4) (hk : 0 ≤ k) : m_ahead s x k = -1 ∧ m_room s x < k ∨ 0 ≤ m_ahead s x k ∧ m_ahead s x k < 36 ∧ k ≤ m_room s x ∧ m_ahead s x k = s + k * m_step x := by
  have h1 := m_ahead_in s x k h hx hk
  by_cases q : k ≤ m_room s x
  · refine .inr ⟨?_, h1.2.1, q, ?_⟩
    · omega
    · exact if_pos q
  · exact .inl ⟨by omega, by omega⟩
theorem m_ahS (s x k : Int) (h : 0 ≤ s ∧ s < 36) (hx : 0 ≤ x ∧ x < 4) (hk : 0 ≤ k) (ha : 0 ≤ m_ahead s x k) : m_ahead (m_ahead s x k) x 1 = m_ahead s x (k + 1) := by
  have e : x = 0 ∨ x = 1 ∨ x = 2 ∨ x = 3 := by omega
  revert ha
  unfold m_ahead m_room m_step
  rcases e with rfl | rfl | rfl | rfl <;> simp <;> omega
theorem m_frS (P : Int → Int) (s x c : Int) (h : 0 ≤ s ∧ s < 36) (hx : 0 ≤ x ∧ x < 4) (hc : 0 ≤ c ∧ c ≤ m_room s x) (r : Int) (hr : m_fr P s (m_step x) (m_room s x - c).toNat c = r) : (m_ahead s x (c + 1) = -1 → c = r) ∧ (0 ≤ m_ahead s x (c + 1) → P (m_ahead s x (c + 1)) = -1 → c = r) ∧ (0 ≤ m_ahead s x (c + 1) → P (m_ahead s x (c + 1)) ≠ -1 → c + 1 ≤ m_room s x ∧ m_fr P s (m_step x) (m_room s x - (c + 1)).toNat (c + 1) = r) := by
  have h1 := m_ah s x (c + 1) h hx (by omega)
  refine ⟨fun z => ?_, fun z1 z2 => ?_, fun z1 z2 => ?_⟩
  · rw [show (m_room s x - c).toNat = 0 by omega] at hr
    exact hr
  · rw [show (m_room s x - c).toNat = (m_room s x - (c + 1)).toNat + 1 by omega] at hr
    rw [← hr]
    rw [show m_ahead s x (c + 1) = s + (c + 1) * m_step x by omega] at z2
    exact (if_pos z2).symm
  · rw [show (m_room s x - c).toNat = (m_room s x - (c + 1)).toNat + 1 by omega] at hr
    rw [show m_ahead s x (c + 1) = s + (c + 1) * m_step x by omega] at z2
    exact ⟨by omega, (if_neg z2).symm.trans hr⟩
def m_lk (q p cl tn : Int → Int) (l w : Int) : Int := if w = 0 then q l else if w = 1 then p l else if w = 2 then cl l else tn l
theorem m_lk_of {R P : Int → Int} {n : Int} {q p cl tn : Int → Int} (hr : g_rR R P n q p cl tn) {l w : Int} (hl : 0 ≤ l ∧ l < n) (hn : n ≤ 4) (hw : 0 ≤ w ∧ w < 4) : R (15 + 4 * l + w) = m_lk q p cl tn l w := by
  have h1 := hr.2.2.1 l hl.1 (by omega)
  have h2 := hr.2.2.2 l hl.1 (by omega)
  have e : w = 0 ∨ w = 1 ∨ w = 2 ∨ w = 3 := by omega
  rcases e with rfl | rfl | rfl | rfl
  · exact h1.1
  · exact h1.2
  · exact h2.1
  · exact h2.2
theorem m_two {R g : Int → Int} (z : Int) {w : Int} (h0 : R z = g 0) (h1 : R (z + 1) = g 1) (hw : 0 ≤ w ∧ w < 2) : R (z + w) = g w := by
  have e : w = 0 ∨ w = 1 := by omega
  rcases e with rfl | rfl
  · rw [Int.add_zero]; exact h0
  · exact h1
section L2c
variable {E : Nat × (Int → Int)} {C : List ag_C} {N : Nat → Int → Int} {m : Nat} {P : Int → Int} {n : Int} {q p cl tn : Int → Int} {t bg en ca : Int} {gn pu mk : Int → Int}

theorem ev_X7_in {d : Nat} (hd : 1 ≤ d) (v lo hi : Int) (h0 : ag_in v ∧ ag_in lo ∧ ag_in hi) : Ev E d 107 [vI v, vI lo, vI hi] (C, N) (some (vI (if lo ≤ v ∧ v ≤ hi then 1 else 0)), (C, N)) := by
  obtain ⟨d, rfl⟩ : ∃ j, d = j + 1 := ⟨d - 1, by omega⟩
  refine Ev.intro (M := ag_mX7_in) rfl rfl ?_
  show AR E d _ (0, [some (vI v), some (vI lo), some (vI hi)], [], (C, N)) _
  refine AR.blk 2 (f' := (2, [some (vI v), some (vI lo), some (vI hi)], [vI lo, vI v], (C, N))) (fun _ => rfl) ?_
  refine AR.ic_lt rfl (by omega) (fun c1 => ?_) (fun c1 => ?_)
  · show AR E d _ (14, [some (vI v), some (vI lo), some (vI hi)], [], (C, N)) _
    refine AR.blk 1 (f' := (15, [some (vI v), some (vI lo), some (vI hi)], [vI 0], (C, N))) (fun _ => rfl) ?_
    exact AR.retI rfl (by omega) (by decide) rfl
  · show AR E d _ (5, [some (vI v), some (vI lo), some (vI hi)], [], (C, N)) _
    refine AR.blk 2 (f' := (7, [some (vI v), some (vI lo), some (vI hi)], [vI hi, vI v], (C, N))) (fun _ => rfl) ?_
    refine AR.ic_gt rfl (by omega) (fun c2 => ?_) (fun c2 => ?_)
    · show AR E d _ (14, [some (vI v), some (vI lo), some (vI hi)], [], (C, N)) _
      refine AR.blk 1 (f' := (15, [some (vI v), some (vI lo), some (vI hi)], [vI 0], (C, N))) (fun _ => rfl) ?_
      exact AR.retI rfl (by omega) (by decide) rfl
    · show AR E d _ (10, [some (vI v), some (vI lo), some (vI hi)], [], (C, N)) _
      refine AR.blk 2 (f' := (15, [some (vI v), some (vI lo), some (vI hi)], [vI 1], (C, N))) (fun _ => rfl) ?_
      exact AR.retI rfl (by omega) (by decide) rfl

theorem ev_X7_isSquare {d : Nat} (hd : 2 ≤ d) (s : Int) (h0 : ag_in s) : Ev E d 108 [vI s] (C, N) (some (vI (if 0 ≤ s ∧ s ≤ 35 then 1 else 0)), (C, N)) := by
  obtain ⟨d, rfl⟩ : ∃ j, d = j + 1 := ⟨d - 1, by omega⟩
  refine Ev.intro (M := ag_mX7_isSquare) rfl rfl ?_
  show AR E d _ (0, [some (vI s)], [], (C, N)) _
  refine AR.blk 3 (f' := (4, [some (vI s)], [vI 35, vI 0, vI s], (C, N))) (fun _ => rfl) ?_
  refine AR.callS [vI s, vI 0, vI 35] (ev_X7_in (by omega) s 0 35 (by omega)) rfl rfl rfl rfl rfl ?_
  show AR E d _ (7, [some (vI s)], [vI (if 0 ≤ s ∧ s ≤ 35 then 1 else 0)], (C, N)) _
  exact AR.retZ rfl (by omega) rfl (by omega) rfl

theorem ev_X7_beside {d : Nat} (hd : 1 ≤ d) (s x : Int) (h0 : 0 ≤ s ∧ s < 36) (h1 : 0 ≤ x ∧ x < 4) : Ev E d 123 [vI s, vI x] (C, N) (some (vI (m_ahead s x 1)), (C, N)) := by
  obtain ⟨d, rfl⟩ : ∃ j, d = j + 1 := ⟨d - 1, by omega⟩
  refine Ev.intro (M := ag_mX7_beside) rfl rfl ?_
  show AR E d _ (0, [some (vI s), some (vI x)], [], (C, N)) _
  refine AR.blk 1 (f' := (1, [some (vI s), some (vI x)], [vI x], (C, N))) (fun _ => rfl) ?_
  have hsw1 : ag_in x := (by omega)
  by_cases e1 : x = 0
  · refine AR.tswA 0 rfl hsw1 e1 rfl (by omega) ?_
    show AR E d _ (28, [some (vI s), some (vI x)], [], (C, N)) _
    refine AR.blk 2 (f' := (31, [some (vI s), some (vI x)], [vI 6, vI s], (C, N))) (fun _ => rfl) ?_
    refine AR.idiv rfl (by omega) ?_
    refine AR.blk 1 (f' := (33, [some (vI s), some (vI x)], [vI 5, vI (s / 6)], (C, N))) (fun _ => rfl) ?_
    refine AR.ic_ne rfl (by omega) (fun c2 => ?_) (fun c2 => ?_)
    · show AR E d _ (40, [some (vI s), some (vI x)], [], (C, N)) _
      refine AR.blk 3 (f' := (44, [some (vI s), some (vI x)], [vI (s + 6)], (C, N))) (fun _ => rfl) ?_
      exact AR.retI rfl (by unfold m_ahead m_room m_step; omega) ⟨rfl, .inl rfl⟩ rfl
    · show AR E d _ (36, [some (vI s), some (vI x)], [], (C, N)) _
      refine AR.blk 2 (f' := (44, [some (vI s), some (vI x)], [vI (-1)], (C, N))) (fun _ => rfl) ?_
      exact AR.retI rfl (by unfold m_ahead m_room m_step; omega) ⟨rfl, .inl rfl⟩ rfl
  by_cases e3 : x = 1
  · refine AR.tswA 1 rfl hsw1 e3 rfl (by omega) ?_
    show AR E d _ (45, [some (vI s), some (vI x)], [], (C, N)) _
    refine AR.blk 2 (f' := (48, [some (vI s), some (vI x)], [vI 6, vI s], (C, N))) (fun _ => rfl) ?_
    refine AR.irem rfl (by omega) ?_
    refine AR.blk 1 (f' := (50, [some (vI s), some (vI x)], [vI 5, vI (s % 6)], (C, N))) (fun _ => rfl) ?_
    refine AR.ic_ne rfl (by omega) (fun c4 => ?_) (fun c4 => ?_)
    · show AR E d _ (57, [some (vI s), some (vI x)], [], (C, N)) _
      refine AR.blk 3 (f' := (60, [some (vI s), some (vI x)], [vI (s + 1)], (C, N))) (fun _ => rfl) ?_
      exact AR.retI rfl (by unfold m_ahead m_room m_step; omega) ⟨rfl, .inl rfl⟩ rfl
    · show AR E d _ (53, [some (vI s), some (vI x)], [], (C, N)) _
      refine AR.blk 2 (f' := (60, [some (vI s), some (vI x)], [vI (-1)], (C, N))) (fun _ => rfl) ?_
      exact AR.retI rfl (by unfold m_ahead m_room m_step; omega) ⟨rfl, .inl rfl⟩ rfl
  by_cases e5 : x = 2
  · refine AR.tswA 2 rfl hsw1 e5 rfl (by omega) ?_
    show AR E d _ (61, [some (vI s), some (vI x)], [], (C, N)) _
    refine AR.blk 2 (f' := (64, [some (vI s), some (vI x)], [vI 6, vI s], (C, N))) (fun _ => rfl) ?_
    refine AR.idiv rfl (by omega) ?_
    refine AR.if_ne rfl (by omega) (fun c6 => ?_) (fun c6 => ?_)
    · show AR E d _ (72, [some (vI s), some (vI x)], [], (C, N)) _
      refine AR.blk 3 (f' := (76, [some (vI s), some (vI x)], [vI (s - 6)], (C, N))) (fun _ => rfl) ?_
      exact AR.retI rfl (by unfold m_ahead m_room m_step; omega) ⟨rfl, .inl rfl⟩ rfl
    · show AR E d _ (68, [some (vI s), some (vI x)], [], (C, N)) _
      refine AR.blk 2 (f' := (76, [some (vI s), some (vI x)], [vI (-1)], (C, N))) (fun _ => rfl) ?_
      exact AR.retI rfl (by unfold m_ahead m_room m_step; omega) ⟨rfl, .inl rfl⟩ rfl
  refine AR.tswD rfl hsw1 (by omega) ?_
  show AR E d _ (77, [some (vI s), some (vI x)], [], (C, N)) _
  refine AR.blk 2 (f' := (80, [some (vI s), some (vI x)], [vI 6, vI s], (C, N))) (fun _ => rfl) ?_
  refine AR.irem rfl (by omega) ?_
  refine AR.if_ne rfl (by omega) (fun c7 => ?_) (fun c7 => ?_)
  · show AR E d _ (88, [some (vI s), some (vI x)], [], (C, N)) _
    refine AR.blk 3 (f' := (91, [some (vI s), some (vI x)], [vI (s - 1)], (C, N))) (fun _ => rfl) ?_
    exact AR.retI rfl (by unfold m_ahead m_room m_step; omega) ⟨rfl, .inl rfl⟩ rfl
  · show AR E d _ (84, [some (vI s), some (vI x)], [], (C, N)) _
    refine AR.blk 2 (f' := (91, [some (vI s), some (vI x)], [vI (-1)], (C, N))) (fun _ => rfl) ?_
    exact AR.retI rfl (by unfold m_ahead m_room m_step; omega) ⟨rfl, .inl rfl⟩ rfl

theorem ev_X7_pieceAt {d : Nat} (hd : 1 ≤ d) (hm : g_isM C m) (hr : g_rR (N (m + 1)) P n q p cl tn) (hw : g_wB P n q p cl tn) (s : Int) (h0 : 0 ≤ s ∧ s < 36) : Ev E d 111 [vA m, vI s] (C, N) (some (vI (P s + 1)), (C, N)) := by
  obtain ⟨d, rfl⟩ : ∃ j, d = j + 1 := ⟨d - 1, by omega⟩
  refine Ev.intro (M := ag_mX7_pieceAt) rfl rfl ?_
  show AR E d _ (0, [some (vA m), some (vI s)], [], (C, N)) _
  refine AR.blk 1 (f' := (1, [some (vA m), some (vI s)], [vA m], (C, N))) (fun _ => rfl) ?_
  refine AR.getR rfl rfl hm.1 (by decide) rfl ?_
  refine AR.blk 3 (f' := (8, [some (vA m), some (vI s)], [vI (31 + s), vA (m + 1)], (C, N))) (fun _ => rfl) ?_
  have f1 := hw.1 s
  refine AR.iald rfl hm.2.1 (by omega) (v := P s + 1) (hr.1 _ (by omega) (by omega)) ?_
  exact AR.retI rfl rfl ⟨rfl, .inl rfl⟩ rfl

theorem ev_X7_sideAt {d : Nat} (hd : 2 ≤ d) (hm : g_isM C m) (hr : g_rR (N (m + 1)) P n q p cl tn) (hw : g_wB P n q p cl tn) (s : Int) (h0 : 0 ≤ s ∧ s < 36) : Ev E d 112 [vA m, vI s] (C, N) (some (vI (m_own (P s))), (C, N)) := by
  obtain ⟨d, rfl⟩ : ∃ j, d = j + 1 := ⟨d - 1, by omega⟩
  refine Ev.intro (M := ag_mX7_sideAt) rfl rfl ?_
  show AR E d _ (0, [some (vA m), some (vI s)], [], (C, N)) _
  refine AR.blk 2 (f' := (2, [some (vA m), some (vI s)], [vI s, vA m], (C, N))) (fun _ => rfl) ?_
  refine AR.callV [vI s] (ev_X7_pieceAt (by omega) hm hr hw s (by omega)) hm.1 rfl rfl rfl rfl rfl ?_
  show AR E d _ (5, [some (vA m), some (vI s)], [vI (P s + 1)], (C, N)) _
  have f1 := hw.1 s
  refine AR.if_ne rfl (by omega) (fun c2 => ?_) (fun c2 => ?_)
  · show AR E d _ (12, [some (vA m), some (vI s)], [], (C, N)) _
    refine AR.blk 2 (f' := (14, [some (vA m), some (vI s)], [vI s, vA m], (C, N))) (fun _ => rfl) ?_
    refine AR.callV [vI s] (ev_X7_pieceAt (by omega) hm hr hw s (by omega)) hm.1 rfl rfl rfl rfl rfl ?_
    show AR E d _ (17, [some (vA m), some (vI s)], [vI (P s + 1)], (C, N)) _
    have f3 := hw.1 s
    refine AR.blk 3 (f' := (20, [some (vA m), some (vI s)], [vI 2, vI ((P s + 1) - 1)], (C, N))) (fun _ => rfl) ?_
    refine AR.idiv rfl (by omega) ?_
    exact AR.retI rfl (by unfold m_own; omega) ⟨rfl, .inl rfl⟩ rfl
  · show AR E d _ (8, [some (vA m), some (vI s)], [], (C, N)) _
    refine AR.blk 2 (f' := (21, [some (vA m), some (vI s)], [vI (-1)], (C, N))) (fun _ => rfl) ?_
    exact AR.retI rfl (by unfold m_own; omega) ⟨rfl, .inl rfl⟩ rfl

theorem ev_X7_kindAt {d : Nat} (hd : 2 ≤ d) (hm : g_isM C m) (hr : g_rR (N (m + 1)) P n q p cl tn) (hw : g_wB P n q p cl tn) (s : Int) (h0 : 0 ≤ s ∧ s < 36) (h1 : P s ≠ -1) : Ev E d 113 [vA m, vI s] (C, N) (some (vI (m_tug (P s))), (C, N)) := by
  obtain ⟨d, rfl⟩ : ∃ j, d = j + 1 := ⟨d - 1, by omega⟩
  refine Ev.intro (M := ag_mX7_kindAt) rfl rfl ?_
  show AR E d _ (0, [some (vA m), some (vI s)], [], (C, N)) _
  refine AR.blk 2 (f' := (2, [some (vA m), some (vI s)], [vI s, vA m], (C, N))) (fun _ => rfl) ?_
  refine AR.callV [vI s] (ev_X7_pieceAt (by omega) hm hr hw s (by omega)) hm.1 rfl rfl rfl rfl rfl ?_
  show AR E d _ (5, [some (vA m), some (vI s)], [vI (P s + 1)], (C, N)) _
  have f1 := hw.1 s
  refine AR.blk 3 (f' := (8, [some (vA m), some (vI s)], [vI 2, vI ((P s + 1) - 1)], (C, N))) (fun _ => rfl) ?_
  refine AR.irem rfl (by omega) ?_
  exact AR.retI rfl (by unfold m_tug; omega) ⟨rfl, .inl rfl⟩ rfl

theorem ev_X7_ofLock {d : Nat} (hd : 1 ≤ d) (hm : g_isM C m) (l w : Int) (h0 : 0 ≤ l ∧ l < 4 ∧ 0 ≤ w ∧ w < 4) (v : Int) (hv : N (m + 1) (15 + 4 * l + w) = v) : Ev E d 114 [vA m, vI l, vI w] (C, N) (some (vI v), (C, N)) := by
  obtain ⟨d, rfl⟩ : ∃ j, d = j + 1 := ⟨d - 1, by omega⟩
  refine Ev.intro (M := ag_mX7_ofLock) rfl rfl ?_
  show AR E d _ (0, [some (vA m), some (vI l), some (vI w)], [], (C, N)) _
  refine AR.blk 1 (f' := (1, [some (vA m), some (vI l), some (vI w)], [vA m], (C, N))) (fun _ => rfl) ?_
  refine AR.getR rfl rfl hm.1 (by decide) rfl ?_
  refine AR.blk 7 (f' := (12, [some (vA m), some (vI l), some (vI w)], [vI ((15 + (4 * l)) + w), vA (m + 1)], (C, N))) (fun _ => rfl) ?_
  refine AR.iald rfl hm.2.1 (by omega) (v := N (m + 1) ((15 + (4 * l)) + w)) rfl ?_
  exact AR.retI rfl hv ⟨rfl, .inl rfl⟩ rfl

theorem ev_X7_lockAt {d : Nat} (hd : 2 ≤ d) (hm : g_isM C m) (hr : g_rR (N (m + 1)) P n q p cl tn) (hw : g_wB P n q p cl tn) (s : Int) (h0 : ag_in s) : Ev E d 115 [vA m, vI s] (C, N) (some (vI (m_la n q s)), (C, N)) := by
  obtain ⟨d, rfl⟩ : ∃ j, d = j + 1 := ⟨d - 1, by omega⟩
  refine Ev.intro (M := ag_mX7_lockAt) rfl rfl ?_
  show AR E d _ (0, [some (vA m), some (vI s), none], [], (C, N)) _
  refine AR.blk 4 (f' := (4, [some (vA m), some (vI s), some (vI 0)], [vA m, vI 0], (C, N))) (fun _ => rfl) ?_
  refine AR.getR rfl rfl hm.1 (by decide) rfl ?_
  refine AR.blk 1 (f' := (9, [some (vA m), some (vI s), some (vI 0)], [vI 14, vA (m + 1), vI 0], (C, N))) (fun _ => rfl) ?_
  have f1 := hw.2.2.1
  refine AR.iald rfl hm.2.1 (by omega) (v := n) hr.2.1 ?_
  refine AR.ic_ge rfl (by omega) (fun c2 => ?_) (fun c2 => ?_)
  · show AR E d _ (31, [some (vA m), some (vI s), some (vI 0)], [], (C, N)) _
    refine AR.blk 1 (f' := (32, [some (vA m), some (vI s), some (vI 0)], [vI (-1)], (C, N))) (fun _ => rfl) ?_
    exact AR.retI rfl (by unfold m_la; omega) ⟨rfl, .inl rfl⟩ rfl
  · show AR E d _ (13, [some (vA m), some (vI s), some (vI 0)], [], (C, N)) _
    refine AR.blk 3 (f' := (16, [some (vA m), some (vI s), some (vI 0)], [vI 0, vI 0, vA m], (C, N))) (fun _ => rfl) ?_
    refine AR.callV [vI 0, vI 0] (ev_X7_ofLock (by omega) hm 0 0 (by omega) (q 0) (hr.2.2.1 _ (by omega) (by omega)).1) hm.1 rfl rfl rfl rfl rfl ?_
    show AR E d _ (19, [some (vA m), some (vI s), some (vI 0)], [vI (q 0)], (C, N)) _
    have f3 := hw.2.2.2.1 0 (by omega) (by omega)
    refine AR.blk 1 (f' := (20, [some (vA m), some (vI s), some (vI 0)], [vI s, vI (q 0)], (C, N))) (fun _ => rfl) ?_
    refine AR.ic_ne rfl (by omega) (fun c4 => ?_) (fun c4 => ?_)
    · show AR E d _ (25, [some (vA m), some (vI s), some (vI 0)], [], (C, N)) _
      refine AR.blk 4 (f' := (4, [some (vA m), some (vI s), some (vI 1)], [vA m, vI 1], (C, N))) (fun _ => rfl) ?_
      refine AR.getR rfl rfl hm.1 (by decide) rfl ?_
      refine AR.blk 1 (f' := (9, [some (vA m), some (vI s), some (vI 1)], [vI 14, vA (m + 1), vI 1], (C, N))) (fun _ => rfl) ?_
      have f5 := hw.2.2.1
      refine AR.iald rfl hm.2.1 (by omega) (v := n) hr.2.1 ?_
      refine AR.ic_ge rfl (by omega) (fun c6 => ?_) (fun c6 => ?_)
      · show AR E d _ (31, [some (vA m), some (vI s), some (vI 1)], [], (C, N)) _
        refine AR.blk 1 (f' := (32, [some (vA m), some (vI s), some (vI 1)], [vI (-1)], (C, N))) (fun _ => rfl) ?_
        exact AR.retI rfl (by unfold m_la; omega) ⟨rfl, .inl rfl⟩ rfl
      · show AR E d _ (13, [some (vA m), some (vI s), some (vI 1)], [], (C, N)) _
        refine AR.blk 3 (f' := (16, [some (vA m), some (vI s), some (vI 1)], [vI 0, vI 1, vA m], (C, N))) (fun _ => rfl) ?_
        refine AR.callV [vI 1, vI 0] (ev_X7_ofLock (by omega) hm 1 0 (by omega) (q 1) (hr.2.2.1 _ (by omega) (by omega)).1) hm.1 rfl rfl rfl rfl rfl ?_
        show AR E d _ (19, [some (vA m), some (vI s), some (vI 1)], [vI (q 1)], (C, N)) _
        have f7 := hw.2.2.2.1 1 (by omega) (by omega)
        refine AR.blk 1 (f' := (20, [some (vA m), some (vI s), some (vI 1)], [vI s, vI (q 1)], (C, N))) (fun _ => rfl) ?_
        refine AR.ic_ne rfl (by omega) (fun c8 => ?_) (fun c8 => ?_)
        · show AR E d _ (25, [some (vA m), some (vI s), some (vI 1)], [], (C, N)) _
          refine AR.blk 4 (f' := (4, [some (vA m), some (vI s), some (vI 2)], [vA m, vI 2], (C, N))) (fun _ => rfl) ?_
          refine AR.getR rfl rfl hm.1 (by decide) rfl ?_
          refine AR.blk 1 (f' := (9, [some (vA m), some (vI s), some (vI 2)], [vI 14, vA (m + 1), vI 2], (C, N))) (fun _ => rfl) ?_
          have f9 := hw.2.2.1
          refine AR.iald rfl hm.2.1 (by omega) (v := n) hr.2.1 ?_
          refine AR.ic_ge rfl (by omega) (fun c10 => ?_) (fun c10 => ?_)
          · show AR E d _ (31, [some (vA m), some (vI s), some (vI 2)], [], (C, N)) _
            refine AR.blk 1 (f' := (32, [some (vA m), some (vI s), some (vI 2)], [vI (-1)], (C, N))) (fun _ => rfl) ?_
            exact AR.retI rfl (by unfold m_la; omega) ⟨rfl, .inl rfl⟩ rfl
          · show AR E d _ (13, [some (vA m), some (vI s), some (vI 2)], [], (C, N)) _
            refine AR.blk 3 (f' := (16, [some (vA m), some (vI s), some (vI 2)], [vI 0, vI 2, vA m], (C, N))) (fun _ => rfl) ?_
            refine AR.callV [vI 2, vI 0] (ev_X7_ofLock (by omega) hm 2 0 (by omega) (q 2) (hr.2.2.1 _ (by omega) (by omega)).1) hm.1 rfl rfl rfl rfl rfl ?_
            show AR E d _ (19, [some (vA m), some (vI s), some (vI 2)], [vI (q 2)], (C, N)) _
            have f11 := hw.2.2.2.1 2 (by omega) (by omega)
            refine AR.blk 1 (f' := (20, [some (vA m), some (vI s), some (vI 2)], [vI s, vI (q 2)], (C, N))) (fun _ => rfl) ?_
            refine AR.ic_ne rfl (by omega) (fun c12 => ?_) (fun c12 => ?_)
            · show AR E d _ (25, [some (vA m), some (vI s), some (vI 2)], [], (C, N)) _
              refine AR.blk 4 (f' := (4, [some (vA m), some (vI s), some (vI 3)], [vA m, vI 3], (C, N))) (fun _ => rfl) ?_
              refine AR.getR rfl rfl hm.1 (by decide) rfl ?_
              refine AR.blk 1 (f' := (9, [some (vA m), some (vI s), some (vI 3)], [vI 14, vA (m + 1), vI 3], (C, N))) (fun _ => rfl) ?_
              have f13 := hw.2.2.1
              refine AR.iald rfl hm.2.1 (by omega) (v := n) hr.2.1 ?_
              refine AR.ic_ge rfl (by omega) (fun c14 => ?_) (fun c14 => ?_)
              · show AR E d _ (31, [some (vA m), some (vI s), some (vI 3)], [], (C, N)) _
                refine AR.blk 1 (f' := (32, [some (vA m), some (vI s), some (vI 3)], [vI (-1)], (C, N))) (fun _ => rfl) ?_
                exact AR.retI rfl (by unfold m_la; omega) ⟨rfl, .inl rfl⟩ rfl
              · show AR E d _ (13, [some (vA m), some (vI s), some (vI 3)], [], (C, N)) _
                refine AR.blk 3 (f' := (16, [some (vA m), some (vI s), some (vI 3)], [vI 0, vI 3, vA m], (C, N))) (fun _ => rfl) ?_
                refine AR.callV [vI 3, vI 0] (ev_X7_ofLock (by omega) hm 3 0 (by omega) (q 3) (hr.2.2.1 _ (by omega) (by omega)).1) hm.1 rfl rfl rfl rfl rfl ?_
                show AR E d _ (19, [some (vA m), some (vI s), some (vI 3)], [vI (q 3)], (C, N)) _
                have f15 := hw.2.2.2.1 3 (by omega) (by omega)
                refine AR.blk 1 (f' := (20, [some (vA m), some (vI s), some (vI 3)], [vI s, vI (q 3)], (C, N))) (fun _ => rfl) ?_
                refine AR.ic_ne rfl (by omega) (fun c16 => ?_) (fun c16 => ?_)
                · show AR E d _ (25, [some (vA m), some (vI s), some (vI 3)], [], (C, N)) _
                  refine AR.blk 4 (f' := (4, [some (vA m), some (vI s), some (vI 4)], [vA m, vI 4], (C, N))) (fun _ => rfl) ?_
                  refine AR.getR rfl rfl hm.1 (by decide) rfl ?_
                  refine AR.blk 1 (f' := (9, [some (vA m), some (vI s), some (vI 4)], [vI 14, vA (m + 1), vI 4], (C, N))) (fun _ => rfl) ?_
                  have f17 := hw.2.2.1
                  refine AR.iald rfl hm.2.1 (by omega) (v := n) hr.2.1 ?_
                  refine AR.ic_ge rfl (by omega) (fun c18 => ?_) (fun c18 => ?_)
                  · show AR E d _ (31, [some (vA m), some (vI s), some (vI 4)], [], (C, N)) _
                    refine AR.blk 1 (f' := (32, [some (vA m), some (vI s), some (vI 4)], [vI (-1)], (C, N))) (fun _ => rfl) ?_
                    exact AR.retI rfl (by unfold m_la; omega) ⟨rfl, .inl rfl⟩ rfl
                  · show AR E d _ (13, [some (vA m), some (vI s), some (vI 4)], [], (C, N)) _
                    exact False.elim (by omega)
                · show AR E d _ (23, [some (vA m), some (vI s), some (vI 3)], [], (C, N)) _
                  refine AR.blk 1 (f' := (24, [some (vA m), some (vI s), some (vI 3)], [vI 3], (C, N))) (fun _ => rfl) ?_
                  exact AR.retI rfl (by unfold m_la; omega) ⟨rfl, .inl rfl⟩ rfl
            · show AR E d _ (23, [some (vA m), some (vI s), some (vI 2)], [], (C, N)) _
              refine AR.blk 1 (f' := (24, [some (vA m), some (vI s), some (vI 2)], [vI 2], (C, N))) (fun _ => rfl) ?_
              exact AR.retI rfl (by unfold m_la; omega) ⟨rfl, .inl rfl⟩ rfl
        · show AR E d _ (23, [some (vA m), some (vI s), some (vI 1)], [], (C, N)) _
          refine AR.blk 1 (f' := (24, [some (vA m), some (vI s), some (vI 1)], [vI 1], (C, N))) (fun _ => rfl) ?_
          exact AR.retI rfl (by unfold m_la; omega) ⟨rfl, .inl rfl⟩ rfl
    · show AR E d _ (23, [some (vA m), some (vI s), some (vI 0)], [], (C, N)) _
      refine AR.blk 1 (f' := (24, [some (vA m), some (vI s), some (vI 0)], [vI 0], (C, N))) (fun _ => rfl) ?_
      exact AR.retI rfl (by unfold m_la; omega) ⟨rfl, .inl rfl⟩ rfl

theorem ev_X7_isClosed {d : Nat} (hd : 3 ≤ d) (hm : g_isM C m) (hr : g_rR (N (m + 1)) P n q p cl tn) (hw : g_wB P n q p cl tn) (s : Int) (h0 : ag_in s) : Ev E d 116 [vA m, vI s] (C, N) (some (vI (m_cl n q cl s)), (C, N)) := by
  obtain ⟨d, rfl⟩ : ∃ j, d = j + 1 := ⟨d - 1, by omega⟩
  have f00 := hw.2.2.1
  refine Ev.intro (M := ag_mX7_isClosed) rfl rfl ?_
  show AR E d _ (0, [some (vA m), some (vI s)], [], (C, N)) _
  refine AR.blk 2 (f' := (2, [some (vA m), some (vI s)], [vI s, vA m], (C, N))) (fun _ => rfl) ?_
  refine AR.callV [vI s] (ev_X7_lockAt (by omega) hm hr hw s (by omega)) hm.1 rfl rfl rfl rfl rfl ?_
  show AR E d _ (5, [some (vA m), some (vI s)], [vI (m_la n q s)], (C, N)) _
  have f1 := m_la_in n q s hw.2.2.1.1
  refine AR.if_lt rfl (by omega) (fun c2 => ?_) (fun c2 => ?_)
  · show AR E d _ (26, [some (vA m), some (vI s)], [], (C, N)) _
    refine AR.blk 1 (f' := (27, [some (vA m), some (vI s)], [vI 0], (C, N))) (fun _ => rfl) ?_
    exact AR.retI rfl (by unfold m_cl; first | (rw [if_pos (by omega)]; omega) | (rw [if_neg (by omega)])) (by decide) rfl
  · show AR E d _ (8, [some (vA m), some (vI s)], [], (C, N)) _
    refine AR.blk 3 (f' := (11, [some (vA m), some (vI s)], [vI s, vA m, vA m], (C, N))) (fun _ => rfl) ?_
    refine AR.callV [vI s] (ev_X7_lockAt (by omega) hm hr hw s (by omega)) hm.1 rfl rfl rfl rfl rfl ?_
    show AR E d _ (14, [some (vA m), some (vI s)], [vI (m_la n q s), vA m], (C, N)) _
    have f3 := m_la_in n q s hw.2.2.1.1
    refine AR.blk 1 (f' := (15, [some (vA m), some (vI s)], [vI 2, vI (m_la n q s), vA m], (C, N))) (fun _ => rfl) ?_
    refine AR.callV [vI (m_la n q s), vI 2] (ev_X7_ofLock (by omega) hm (m_la n q s) 2 (by omega) (cl (m_la n q s)) (hr.2.2.2 _ (by omega) (by omega)).1) hm.1 rfl rfl rfl rfl rfl ?_
    show AR E d _ (18, [some (vA m), some (vI s)], [vI (cl (m_la n q s))], (C, N)) _
    have f4 := hw.2.2.2.2.1 (m_la n q s)
    refine AR.blk 1 (f' := (19, [some (vA m), some (vI s)], [vI 1, vI (cl (m_la n q s))], (C, N))) (fun _ => rfl) ?_
    refine AR.ic_ne rfl (by omega) (fun c5 => ?_) (fun c5 => ?_)
    · show AR E d _ (26, [some (vA m), some (vI s)], [], (C, N)) _
      refine AR.blk 1 (f' := (27, [some (vA m), some (vI s)], [vI 0], (C, N))) (fun _ => rfl) ?_
      exact AR.retI rfl (by unfold m_cl; first | (rw [if_pos (by omega)]; omega) | (rw [if_neg (by omega)])) (by decide) rfl
    · show AR E d _ (22, [some (vA m), some (vI s)], [], (C, N)) _
      refine AR.blk 2 (f' := (27, [some (vA m), some (vI s)], [vI 1], (C, N))) (fun _ => rfl) ?_
      exact AR.retI rfl (by unfold m_cl; first | (rw [if_pos (by omega)]; omega) | (rw [if_neg (by omega)])) (by decide) rfl

theorem ev_X7_countOf {d : Nat} (hd : 2 ≤ d) (hm : g_isM C m) (hr : g_rR (N (m + 1)) P n q p cl tn) (hw : g_wB P n q p cl tn) (w k : Int) (h0 : 0 ≤ w ∧ w < 2) (h1 : 0 ≤ k ∧ k < 2) : Ev E d 117 [vA m, vI w, vI k] (C, N) (some (vI (m_ck P w k)), (C, N)) := by
  obtain ⟨d, rfl⟩ : ∃ j, d = j + 1 := ⟨d - 1, by omega⟩
  refine Ev.intro (M := ag_mX7_countOf) rfl rfl ?_
  show AR E d _ (0, [some (vA m), some (vI w), some (vI k), none, none], [], (C, N)) _
  refine AR.blk 4 (f' := (5, [some (vA m), some (vI w), some (vI k), some (vI 0), some (vI 0)], [], (C, N))) (fun _ => rfl) ?_
  suffices H5 : ∀ (j : Nat) (c : Int) (i : Int), (36 - i).toNat < j → (0 ≤ i ∧ i ≤ 36 ∧ 0 ≤ c ∧ c ≤ i) → (c = m_sum (fun s => if P s + 1 = 2 * w + k + 1 then 1 else 0) i.toNat) → AR E d ag_mX7_countOf (5, [some (vA m), some (vI w), some (vI k), some (vI c), some (vI i)], [], (C, N)) (fun o_ => o_ = (some (vI (m_ck P w k)), (C, N))) by
    exact H5 _ _ _ (Nat.lt_succ_self _) (by omega) rfl
  intro j
  induction j with
  | zero => intro c i hj; exact absurd hj (Nat.not_lt_zero _)
  | succ j ih5 =>
    intro c i hj5 i0 i1
    refine AR.blk 2 (f' := (9, [some (vA m), some (vI w), some (vI k), some (vI c), some (vI i)], [vI 36, vI i], (C, N))) (fun _ => rfl) ?_
    refine AR.ic_ge rfl (by omega) (fun c1 => ?_) (fun c1 => ?_)
    · show AR E d _ (42, [some (vA m), some (vI w), some (vI k), some (vI c), some (vI i)], [], (C, N)) _
      refine AR.blk 1 (f' := (43, [some (vA m), some (vI w), some (vI k), some (vI c), some (vI i)], [vI c], (C, N))) (fun _ => rfl) ?_
      exact AR.retI rfl (by rw [i1, show i = 36 by omega]; rfl) ⟨rfl, .inl rfl⟩ rfl
    · show AR E d _ (12, [some (vA m), some (vI w), some (vI k), some (vI c), some (vI i)], [], (C, N)) _
      refine AR.blk 3 (f' := (16, [some (vA m), some (vI w), some (vI k), some (vI c), some (vI i)], [vI i, vA m, vI c], (C, N))) (fun _ => rfl) ?_
      refine AR.callV [vI i] (ev_X7_pieceAt (by omega) hm hr hw i (by omega)) hm.1 rfl rfl rfl rfl rfl ?_
      show AR E d _ (19, [some (vA m), some (vI w), some (vI k), some (vI c), some (vI i)], [vI (P i + 1), vI c], (C, N)) _
      have f2 := hw.1 i
      refine AR.blk 7 (f' := (26, [some (vA m), some (vI w), some (vI k), some (vI c), some (vI i)], [vI (((2 * w) + k) + 1), vI (P i + 1), vI c], (C, N))) (fun _ => rfl) ?_
      refine AR.ic_ne rfl (by omega) (fun c3 => ?_) (fun c3 => ?_)
      · show AR E d _ (33, [some (vA m), some (vI w), some (vI k), some (vI c), some (vI i)], [vI c], (C, N)) _
        refine AR.blk 5 (f' := (5, [some (vA m), some (vI w), some (vI k), some (vI (c + 0)), some (vI (i + 1))], [], (C, N))) (fun _ => rfl) ?_
        exact ih5 _ _ (by omega) (by omega) (by rw [m_sum_succ _ (by omega), ← i1]; omega)
      · show AR E d _ (29, [some (vA m), some (vI w), some (vI k), some (vI c), some (vI i)], [vI c], (C, N)) _
        refine AR.blk 6 (f' := (5, [some (vA m), some (vI w), some (vI k), some (vI (c + 1)), some (vI (i + 1))], [], (C, N))) (fun _ => rfl) ?_
        exact ih5 _ _ (by omega) (by omega) (by rw [m_sum_succ _ (by omega), ← i1]; omega)

theorem ev_X7_pieces {d : Nat} (hd : 3 ≤ d) (hm : g_isM C m) (hr : g_rR (N (m + 1)) P n q p cl tn) (hw : g_wB P n q p cl tn) (w : Int) (h0 : 0 ≤ w ∧ w < 2) : Ev E d 118 [vA m, vI w] (C, N) (some (vI (m_cnt P w)), (C, N)) := by
  obtain ⟨d, rfl⟩ : ∃ j, d = j + 1 := ⟨d - 1, by omega⟩
  refine Ev.intro (M := ag_mX7_pieces) rfl rfl ?_
  show AR E d _ (0, [some (vA m), some (vI w)], [], (C, N)) _
  refine AR.blk 3 (f' := (3, [some (vA m), some (vI w)], [vI 0, vI w, vA m], (C, N))) (fun _ => rfl) ?_
  refine AR.callV [vI w, vI 0] (ev_X7_countOf (by omega) hm hr hw w 0 (by omega) (by omega)) hm.1 rfl rfl rfl rfl rfl ?_
  show AR E d _ (6, [some (vA m), some (vI w)], [vI (m_ck P w 0)], (C, N)) _
  have f1 := m_ck_in P w 0
  refine AR.blk 3 (f' := (9, [some (vA m), some (vI w)], [vI 1, vI w, vA m, vI (m_ck P w 0)], (C, N))) (fun _ => rfl) ?_
  refine AR.callV [vI w, vI 1] (ev_X7_countOf (by omega) hm hr hw w 1 (by omega) (by omega)) hm.1 rfl rfl rfl rfl rfl ?_
  show AR E d _ (12, [some (vA m), some (vI w)], [vI (m_ck P w 1), vI (m_ck P w 0)], (C, N)) _
  have f2 := m_ck_in P w 1
  refine AR.blk 1 (f' := (13, [some (vA m), some (vI w)], [vI ((m_ck P w 0) + (m_ck P w 1))], (C, N))) (fun _ => rfl) ?_
  exact AR.retI rfl (m_ck_sum P w hw.1 h0) ⟨rfl, .inl rfl⟩ rfl

-- lineFrom

theorem ev_X7_lineFrom {d : Nat} (hd : 2 ≤ d) (hm : g_isM C m) (hr : g_rR (N (m + 1)) P n q p cl tn) (hw : g_wB P n q p cl tn) (s x : Int) (h0 : 0 ≤ s ∧ s < 36) (h1 : 0 ≤ x ∧ x < 4) : Ev E d 124 [vA m, vI s, vI x] (C, N) (some (vI (m_std P s x)), (C, N)) := by
  obtain ⟨d, rfl⟩ : ∃ j, d = j + 1 := ⟨d - 1, by omega⟩
  refine Ev.intro (M := ag_mX7_lineFrom) rfl rfl ?_
  show AR E d _ (0, [some (vA m), some (vI s), some (vI x), none, none], [], (C, N)) _
  refine AR.blk 4 (f' := (4, [some (vA m), some (vI s), some (vI x), some (vI 0), none], [vI x, vI s], (C, N))) (fun _ => rfl) ?_
  refine AR.callS [vI s, vI x] (ev_X7_beside (by omega) s x (by omega) (by omega)) rfl rfl rfl rfl rfl ?_
  show AR E d _ (7, [some (vA m), some (vI s), some (vI x), some (vI 0), none], [vI (m_ahead s x 1)], (C, N)) _
  have f1 := m_ah s x 1 (by omega) (by omega) (by omega)
  have f2 := m_room_in s x (by omega)
  refine AR.blk 1 (f' := (9, [some (vA m), some (vI s), some (vI x), some (vI 0), some (vI (m_ahead s x 1))], [], (C, N))) (fun _ => rfl) ?_
  suffices H9 : ∀ (j : Nat) (c : Int) (a : Int), (m_room s x - c).toNat < j → (0 ≤ c ∧ c ≤ m_room s x) → (m_fr P s (m_step x) (m_room s x - c).toNat c = m_std P s x) → (a = m_ahead s x (c + 1)) → AR E d ag_mX7_lineFrom (9, [some (vA m), some (vI s), some (vI x), some (vI c), some (vI a)], [], (C, N)) (fun o_ => o_ = (some (vI (m_std P s x)), (C, N))) by
    exact H9 _ _ _ (Nat.lt_succ_self _) (by have := m_room_in s x (by omega); omega) (by rw [Int.sub_zero]; rfl) rfl
  intro j
  induction j with
  | zero => intro c a hj; exact absurd hj (Nat.not_lt_zero _)
  | succ j ih9 =>
    intro c a hj9 i0 i1 i2
    have z0 := m_ah s x (c + 1) (by omega) (by omega) (by omega)
    have z1 := m_frS P s x c (by omega) (by omega) (by omega) _ i1
    refine AR.blk 1 (f' := (11, [some (vA m), some (vI s), some (vI x), some (vI c), some (vI a)], [vI a], (C, N))) (fun _ => rfl) ?_
    refine AR.if_lt rfl (by omega) (fun c3 => ?_) (fun c3 => ?_)
    · show AR E d _ (37, [some (vA m), some (vI s), some (vI x), some (vI c), some (vI a)], [], (C, N)) _
      refine AR.blk 1 (f' := (38, [some (vA m), some (vI s), some (vI x), some (vI c), some (vI a)], [vI c], (C, N))) (fun _ => rfl) ?_
      exact AR.retI rfl (by first | exact z1.1 (by omega) | exact z1.2.1 (by omega) (by rw [← i2]; omega)) ⟨rfl, .inl rfl⟩ rfl
    · show AR E d _ (14, [some (vA m), some (vI s), some (vI x), some (vI c), some (vI a)], [], (C, N)) _
      refine AR.blk 2 (f' := (17, [some (vA m), some (vI s), some (vI x), some (vI c), some (vI a)], [vI a, vA m], (C, N))) (fun _ => rfl) ?_
      refine AR.callV [vI a] (ev_X7_pieceAt (by omega) hm hr hw a (by omega)) hm.1 rfl rfl rfl rfl rfl ?_
      show AR E d _ (20, [some (vA m), some (vI s), some (vI x), some (vI c), some (vI a)], [vI (P a + 1)], (C, N)) _
      have f4 := hw.1 a
      refine AR.if_le rfl (by omega) (fun c5 => ?_) (fun c5 => ?_)
      · show AR E d _ (37, [some (vA m), some (vI s), some (vI x), some (vI c), some (vI a)], [], (C, N)) _
        refine AR.blk 1 (f' := (38, [some (vA m), some (vI s), some (vI x), some (vI c), some (vI a)], [vI c], (C, N))) (fun _ => rfl) ?_
        exact AR.retI rfl (by first | exact z1.1 (by omega) | exact z1.2.1 (by omega) (by rw [← i2]; omega)) ⟨rfl, .inl rfl⟩ rfl
      · show AR E d _ (23, [some (vA m), some (vI s), some (vI x), some (vI c), some (vI a)], [], (C, N)) _
        refine AR.blk 3 (f' := (29, [some (vA m), some (vI s), some (vI x), some (vI (c + 1)), some (vI a)], [vI x, vI a], (C, N))) (fun _ => rfl) ?_
        refine AR.callS [vI a, vI x] (ev_X7_beside (by omega) a x (by omega) (by omega)) rfl rfl rfl rfl rfl ?_
        show AR E d _ (32, [some (vA m), some (vI s), some (vI x), some (vI (c + 1)), some (vI a)], [vI (m_ahead a x 1)], (C, N)) _
        have f6 := m_ah a x 1 (by omega) (by omega) (by omega)
        have f7 := m_room_in a x (by omega)
        refine AR.blk 2 (f' := (9, [some (vA m), some (vI s), some (vI x), some (vI (c + 1)), some (vI (m_ahead a x 1))], [], (C, N))) (fun _ => rfl) ?_
        have z3 := z1.2.2 (by omega) (by rw [← i2]; omega)
        exact ih9 _ _ (by omega) (by omega) z3.2 (by rw [i2] at *; exact m_ahS s x (c + 1) (by omega) (by omega) (by omega) (by omega))

theorem ev_X7_goes {d : Nat} (hd : 3 ≤ d) (hm : g_isM C m) (hr : g_rR (N (m + 1)) P n q p cl tn) (hw : g_wB P n q p cl tn) (s x : Int) (h0 : 0 ≤ s ∧ s < 36) (h1 : 0 ≤ x ∧ x < 4) (h2 : P s ≠ -1) : Ev E d 126 [vA m, vI s, vI x] (C, N) (some (vI (m_goes (P s) x)), (C, N)) := by
  obtain ⟨d, rfl⟩ : ∃ j, d = j + 1 := ⟨d - 1, by omega⟩
  refine Ev.intro (M := ag_mX7_goes) rfl rfl ?_
  show AR E d _ (0, [some (vA m), some (vI s), some (vI x)], [], (C, N)) _
  refine AR.blk 2 (f' := (2, [some (vA m), some (vI s), some (vI x)], [vI s, vA m], (C, N))) (fun _ => rfl) ?_
  refine AR.callV [vI s] (ev_X7_kindAt (by omega) hm hr hw s (by omega) (by omega)) hm.1 rfl rfl rfl rfl rfl ?_
  show AR E d _ (5, [some (vA m), some (vI s), some (vI x)], [vI (m_tug (P s))], (C, N)) _
  have f1 := m_tug_in (P s)
  refine AR.blk 1 (f' := (6, [some (vA m), some (vI s), some (vI x)], [vI 1, vI (m_tug (P s))], (C, N))) (fun _ => rfl) ?_
  refine AR.ic_eq rfl (by omega) (fun c2 => ?_) (fun c2 => ?_)
  · show AR E d _ (26, [some (vA m), some (vI s), some (vI x)], [], (C, N)) _
    refine AR.blk 2 (f' := (31, [some (vA m), some (vI s), some (vI x)], [vI 1], (C, N))) (fun _ => rfl) ?_
    exact AR.retI rfl (by unfold m_goes; omega) (by decide) rfl
  · show AR E d _ (9, [some (vA m), some (vI s), some (vI x)], [], (C, N)) _
    refine AR.blk 3 (f' := (12, [some (vA m), some (vI s), some (vI x)], [vI s, vA m, vI x], (C, N))) (fun _ => rfl) ?_
    refine AR.callV [vI s] (ev_X7_sideAt (by omega) hm hr hw s (by omega)) hm.1 rfl rfl rfl rfl rfl ?_
    show AR E d _ (15, [some (vA m), some (vI s), some (vI x)], [vI (m_own (P s)), vI x], (C, N)) _
    have f3 := m_own_in (P s) (hw.1 s)
    have f4 := hw.1 s
    refine AR.if_ne rfl (by omega) (fun c5 => ?_) (fun c5 => ?_)
    · show AR E d _ (22, [some (vA m), some (vI s), some (vI x)], [vI x], (C, N)) _
      refine AR.blk 1 (f' := (23, [some (vA m), some (vI s), some (vI x)], [vI 0, vI x], (C, N))) (fun _ => rfl) ?_
      refine AR.ic_eq rfl (by omega) (fun c6 => ?_) (fun c6 => ?_)
      · show AR E d _ (30, [some (vA m), some (vI s), some (vI x)], [], (C, N)) _
        refine AR.blk 1 (f' := (31, [some (vA m), some (vI s), some (vI x)], [vI 0], (C, N))) (fun _ => rfl) ?_
        exact AR.retI rfl (by unfold m_goes; omega) (by decide) rfl
      · show AR E d _ (26, [some (vA m), some (vI s), some (vI x)], [], (C, N)) _
        refine AR.blk 2 (f' := (31, [some (vA m), some (vI s), some (vI x)], [vI 1], (C, N))) (fun _ => rfl) ?_
        exact AR.retI rfl (by unfold m_goes; omega) (by decide) rfl
    · show AR E d _ (18, [some (vA m), some (vI s), some (vI x)], [vI x], (C, N)) _
      refine AR.blk 2 (f' := (23, [some (vA m), some (vI s), some (vI x)], [vI 2, vI x], (C, N))) (fun _ => rfl) ?_
      refine AR.ic_eq rfl (by omega) (fun c7 => ?_) (fun c7 => ?_)
      · show AR E d _ (30, [some (vA m), some (vI s), some (vI x)], [], (C, N)) _
        refine AR.blk 1 (f' := (31, [some (vA m), some (vI s), some (vI x)], [vI 0], (C, N))) (fun _ => rfl) ?_
        exact AR.retI rfl (by unfold m_goes; omega) (by decide) rfl
      · show AR E d _ (26, [some (vA m), some (vI s), some (vI x)], [], (C, N)) _
        refine AR.blk 2 (f' := (31, [some (vA m), some (vI s), some (vI x)], [vI 1], (C, N))) (fun _ => rfl) ?_
        exact AR.retI rfl (by unfold m_goes; omega) (by decide) rfl
end L2c
end
section
/-! LEVEL 2: the model's row, further -/
/-- the place-th of those k with f k = 1, from k on, n ahead of it -/
def m_pk (f : Int → Int) (place : Int) : Nat → Int → Int → Int
  | 0, _, _ => -1
  | j + 1, k, n => if f k = 1 then (if n = place then k else m_pk f place j (k + 1) (n + 1)) else m_pk f place j (k + 1) n
theorem m_pkS (f : Int → Int) (place k n r : Int) (hk : k < 144) (h : m_pk f place (144 - k).toNat k n = r) : (f k = 1 → n = place → k = r) ∧ (f k = 1 → n ≠ place → m_pk f place (144 - (k + 1)).toNat (k + 1) (n + 1) = r) ∧ (f k ≠ 1 → m_pk f place (144 - (k + 1)).toNat (k + 1) n = r) := by
  rw [show (144 - k).toNat = (144 - (k + 1)).toNat + 1 by omega] at h
  unfold m_pk at h
  refine ⟨fun a b => ?_, fun a b => ?_, fun a => ?_⟩
  · rw [if_pos a, if_pos b] at h; exact h
  · rw [if_pos a, if_neg b] at h; exact h
  · rw [if_neg a] at h; exact h
/-- the first k from k on with f k = 1, or -4 -/
def m_fst (f : Int → Int) : Nat → Int → Int
  | 0, _ => -4
  | j + 1, k => if f k = 1 then k else m_fst f j (k + 1)
theorem m_fstS (f : Int → Int) (k r : Int) (hk : k < 144) (h : m_fst f (144 - k).toNat k = r) : (f k = 1 → k = r) ∧ (f k ≠ 1 → m_fst f (144 - (k + 1)).toNat (k + 1) = r) := by
  rw [show (144 - k).toNat = (144 - (k + 1)).toNat + 1 by omega] at h
  unfold m_fst at h
  refine ⟨fun a => ?_, fun a => ?_⟩
  · rw [if_pos a] at h; exact h
  · rw [if_neg a] at h; exact h
def m_take (P : Int → Int) (t : Int) (s x : Int) : Int := if m_std P s x ≠ 0 ∧ m_ahead s x (m_std P s x + 1) = -1 ∧ m_own (P (m_ahead s x (m_std P s x))) ≠ t % 2 then 1 else 0
def m_ft (P : Int → Int) (n : Int) (q cl : Int → Int) (t bg en : Int) (m : Int) : Int := if m_open P n q cl t bg en m = 1 ∧ m_take P t (m / 4) (m % 4) = 1 then 1 else 0
def m_agn (P : Int → Int) (n : Int) (q cl : Int → Int) (t bg en : Int) (x : Int) : Int := m_sum (fun s => m_open P n q cl t bg en (4 * s + x)) 36
def m_sq (P : Int → Int) (n : Int) (q cl : Int → Int) (s w : Int) : Int := if ¬ (0 ≤ s ∧ s < 36) then -1 else if w = 0 then (if P s = -1 then -4 else P s) else if w = 1 then (if m_la n q s = -1 then -4 else m_la n q s) else if w = 2 then m_cl n q cl s else -2
def m_lko (n : Int) (q p cl tn : Int → Int) (l w : Int) : Int := if ¬ (0 ≤ l ∧ l < n) then -1 else if 0 ≤ w ∧ w < 4 then m_lk q p cl tn l w else -2
def m_sd (P : Int → Int) (gn pu mk : Int → Int) (w y : Int) : Int := if ¬ (0 ≤ w ∧ w < 2) then -1 else if y = 0 then m_cnt P w else if y = 1 then m_cnt P w - m_tugs P w else if y = 2 then m_tugs P w else if y = 3 then gn w else if y = 4 then pu w else if y = 5 then mk w else -2
def m_tin (n : Int) (p : Int → Int) (t l : Int) : Int := if ¬ (0 ≤ l ∧ l < n) then -1 else p l - t % p l
def m_tdi (t x : Int) : Int := if ¬ (0 ≤ x ∧ x < 4) then -1 else if x ≤ t / 4 % 4 then 4 * (x - t / 4 % 4 + 4) - t % 4 else 4 * (x - t / 4 % 4) - t % 4
def m_wp (P : Int → Int) (n : Int) (q cl : Int → Int) (s x : Int) : Int := if ¬ (0 ≤ s ∧ s < 36) then -1 else if ¬ (0 ≤ x ∧ x < 4) then -2 else if P s = -1 ∨ m_cause P n q cl s x ≠ 0 then -4 else m_std P s x
theorem m_row (P : Int → Int) : ∀ k : Nat, 0 ≤ m_sum (fun s => if P s = -1 then 0 else s / 6) k ∧ m_sum (fun s => if P s = -1 then 0 else s / 6) k ≤ 6 * k * k := by
  intro k
  induction k with
  | zero => exact ⟨Int.le_refl 0, Int.le_refl 0⟩
  | succ k ih =>
    show 0 ≤ m_sum (fun s => if P s = -1 then 0 else s / 6) k + (if P k = -1 then 0 else (k : Int) / 6) ∧ m_sum (fun s => if P s = -1 then 0 else s / 6) k + (if P k = -1 then 0 else (k : Int) / 6) ≤ 6 * ((k + 1 : Nat) : Int) * ((k + 1 : Nat) : Int)
    have e : 6 * ((k + 1 : Nat) : Int) * ((k + 1 : Nat) : Int) = 6 * (k : Int) * k + 12 * k + 6 := by
      rw [Int.natCast_succ, Int.mul_add, Int.mul_add, Int.add_mul]
      omega
    rw [e]
    have : 0 ≤ (if P k = -1 then 0 else (k : Int) / 6) ∧ (if P k = -1 then 0 else (k : Int) / 6) ≤ k := by omega
    omega
section L2d
variable {E : Nat × (Int → Int)} {C : List ag_C} {N : Nat → Int → Int} {m : Nat} {P : Int → Int} {n : Int} {q p cl tn : Int → Int} {t bg en ca : Int} {gn pu mk : Int → Int}

theorem m_cl_off {P : Int → Int} {n : Int} {q p cl tn : Int → Int} (hw : g_wB P n q p cl tn) : m_cl n q cl (-1) = 0 := by
  have h0 := hw.2.2.2.1 0
  have h1 := hw.2.2.2.1 1
  have h2 := hw.2.2.2.1 2
  have h3 := hw.2.2.2.1 3
  have e : m_la n q (-1) = -1 := by unfold m_la; omega
  unfold m_cl
  rw [e]
  rfl

theorem ev_X7_endOf {d : Nat} (hd : 2 ≤ d) (hm : g_isM C m) (hr : g_rR (N (m + 1)) P n q p cl tn) (hw : g_wB P n q p cl tn) (s x : Int) (h0 : 0 ≤ s ∧ s < 36) (h1 : 0 ≤ x ∧ x < 4) : Ev E d 125 [vA m, vI s, vI x] (C, N) (some (vI (m_ahead s x (m_std P s x + 1))), (C, N)) := by
  obtain ⟨d, rfl⟩ : ∃ j, d = j + 1 := ⟨d - 1, by omega⟩
  refine Ev.intro (M := ag_mX7_endOf) rfl rfl ?_
  show AR E d _ (0, [some (vA m), some (vI s), some (vI x), none], [], (C, N)) _
  refine AR.blk 2 (f' := (2, [some (vA m), some (vI s), some (vI x), none], [vI x, vI s], (C, N))) (fun _ => rfl) ?_
  refine AR.callS [vI s, vI x] (ev_X7_beside (by omega) s x (by omega) (by omega)) rfl rfl rfl rfl rfl ?_
  show AR E d _ (5, [some (vA m), some (vI s), some (vI x), none], [vI (m_ahead s x 1)], (C, N)) _
  have f1 := m_ah s x 1 (by omega) (by omega) (by omega)
  have f2 := m_room_in s x (by omega)
  refine AR.blk 1 (f' := (6, [some (vA m), some (vI s), some (vI x), some (vI (m_ahead s x 1))], [], (C, N))) (fun _ => rfl) ?_
  suffices H6 : ∀ (j : Nat) (c : Int) (a : Int), (m_room s x - c).toNat < j → (0 ≤ c ∧ c ≤ m_room s x) → (m_fr P s (m_step x) (m_room s x - c).toNat c = m_std P s x) → (a = m_ahead s x (c + 1)) → AR E d ag_mX7_endOf (6, [some (vA m), some (vI s), some (vI x), some (vI a)], [], (C, N)) (fun o_ => o_ = (some (vI (m_ahead s x (m_std P s x + 1))), (C, N))) by
    exact H6 _ (0) _ (Nat.lt_succ_self _) (by have := m_room_in s x (by omega); omega) (by rw [Int.sub_zero]; rfl) rfl
  intro j
  induction j with
  | zero => intro c a hj; exact absurd hj (Nat.not_lt_zero _)
  | succ j ih6 =>
    intro c a hj6 i0 i1 i2
    have z0 := m_ah s x (c + 1) (by omega) (by omega) (by omega)
    have z1 := m_frS P s x c (by omega) (by omega) (by omega) _ i1
    refine AR.blk 1 (f' := (7, [some (vA m), some (vI s), some (vI x), some (vI a)], [vI a], (C, N))) (fun _ => rfl) ?_
    refine AR.if_lt rfl (by omega) (fun c3 => ?_) (fun c3 => ?_)
    · show AR E d _ (27, [some (vA m), some (vI s), some (vI x), some (vI a)], [], (C, N)) _
      refine AR.blk 1 (f' := (28, [some (vA m), some (vI s), some (vI x), some (vI a)], [vI a], (C, N))) (fun _ => rfl) ?_
      exact AR.retI rfl (by rw [i2]; first | rw [z1.1 (by omega)] | rw [z1.2.1 (by omega) (by rw [← i2]; omega)]) ⟨rfl, .inl rfl⟩ rfl
    · show AR E d _ (10, [some (vA m), some (vI s), some (vI x), some (vI a)], [], (C, N)) _
      refine AR.blk 2 (f' := (12, [some (vA m), some (vI s), some (vI x), some (vI a)], [vI a, vA m], (C, N))) (fun _ => rfl) ?_
      refine AR.callV [vI a] (ev_X7_pieceAt (by omega) hm hr hw a (by omega)) hm.1 rfl rfl rfl rfl rfl ?_
      show AR E d _ (15, [some (vA m), some (vI s), some (vI x), some (vI a)], [vI (P a + 1)], (C, N)) _
      have f4 := hw.1 a
      refine AR.if_le rfl (by omega) (fun c5 => ?_) (fun c5 => ?_)
      · show AR E d _ (27, [some (vA m), some (vI s), some (vI x), some (vI a)], [], (C, N)) _
        refine AR.blk 1 (f' := (28, [some (vA m), some (vI s), some (vI x), some (vI a)], [vI a], (C, N))) (fun _ => rfl) ?_
        exact AR.retI rfl (by rw [i2]; first | rw [z1.1 (by omega)] | rw [z1.2.1 (by omega) (by rw [← i2]; omega)]) ⟨rfl, .inl rfl⟩ rfl
      · show AR E d _ (18, [some (vA m), some (vI s), some (vI x), some (vI a)], [], (C, N)) _
        refine AR.blk 2 (f' := (20, [some (vA m), some (vI s), some (vI x), some (vI a)], [vI x, vI a], (C, N))) (fun _ => rfl) ?_
        refine AR.callS [vI a, vI x] (ev_X7_beside (by omega) a x (by omega) (by omega)) rfl rfl rfl rfl rfl ?_
        show AR E d _ (23, [some (vA m), some (vI s), some (vI x), some (vI a)], [vI (m_ahead a x 1)], (C, N)) _
        have f6 := m_ah a x 1 (by omega) (by omega) (by omega)
        have f7 := m_room_in a x (by omega)
        refine AR.blk 2 (f' := (6, [some (vA m), some (vI s), some (vI x), some (vI (m_ahead a x 1))], [], (C, N))) (fun _ => rfl) ?_
        have z3 := z1.2.2 (by omega) (by rw [← i2]; omega)
        exact ih6 (c + 1) _ (by omega) (by omega) z3.2 (by rw [i2] at *; exact m_ahS s x (c + 1) (by omega) (by omega) (by omega) (by omega))

theorem ev_X7_against {d : Nat} (hd : 4 ≤ d) (hm : g_isM C m) (hr : g_rR (N (m + 1)) P n q p cl tn) (hw : g_wB P n q p cl tn) (s x : Int) (h0 : 0 ≤ s ∧ s < 36) (h1 : 0 ≤ x ∧ x < 4) (h2 : P s ≠ -1) : Ev E d 127 [vA m, vI s, vI x] (C, N) (some (vI (m_cause P n q cl s x)), (C, N)) := by
  obtain ⟨d, rfl⟩ : ∃ j, d = j + 1 := ⟨d - 1, by omega⟩
  refine Ev.intro (M := ag_mX7_against) rfl rfl ?_
  show AR E d _ (0, [some (vA m), some (vI s), some (vI x), none], [], (C, N)) _
  refine AR.blk 3 (f' := (3, [some (vA m), some (vI s), some (vI x), none], [vI x, vI s, vA m], (C, N))) (fun _ => rfl) ?_
  refine AR.callV [vI s, vI x] (ev_X7_goes (by omega) hm hr hw s x (by omega) (by omega) (by omega)) hm.1 rfl rfl rfl rfl rfl ?_
  show AR E d _ (6, [some (vA m), some (vI s), some (vI x), none], [vI (m_goes (P s) x)], (C, N)) _
  have f1 := m_goes_in (P s) x
  refine AR.if_ne rfl (by omega) (fun c2 => ?_) (fun c2 => ?_)
  · show AR E d _ (12, [some (vA m), some (vI s), some (vI x), none], [], (C, N)) _
    refine AR.blk 2 (f' := (14, [some (vA m), some (vI s), some (vI x), none], [vI x, vI s], (C, N))) (fun _ => rfl) ?_
    refine AR.callS [vI s, vI x] (ev_X7_beside (by omega) s x (by omega) (by omega)) rfl rfl rfl rfl rfl ?_
    show AR E d _ (17, [some (vA m), some (vI s), some (vI x), none], [vI (m_ahead s x 1)], (C, N)) _
    have f3 := m_ah s x 1 (by omega) (by omega) (by omega)
    have f4 := m_room_in s x (by omega)
    refine AR.if_ge rfl (by omega) (fun c5 => ?_) (fun c5 => ?_)
    · show AR E d _ (23, [some (vA m), some (vI s), some (vI x), none], [], (C, N)) _
      refine AR.blk 3 (f' := (26, [some (vA m), some (vI s), some (vI x), none], [vI x, vI s, vA m], (C, N))) (fun _ => rfl) ?_
      refine AR.callV [vI s, vI x] (ev_X7_endOf (by omega) hm hr hw s x (by omega) (by omega)) hm.1 rfl rfl rfl rfl rfl ?_
      show AR E d _ (29, [some (vA m), some (vI s), some (vI x), none], [vI (m_ahead s x (m_std P s x + 1))], (C, N)) _
      have f6 := m_ah s x (m_std P s x + 1) (by omega) (by omega) (by have := m_std_in P s x (by omega); omega)
      refine AR.blk 2 (f' := (31, [some (vA m), some (vI s), some (vI x), some (vI (m_ahead s x (m_std P s x + 1)))], [vI (m_ahead s x (m_std P s x + 1))], (C, N))) (fun _ => rfl) ?_
      refine AR.if_lt rfl (by omega) (fun c7 => ?_) (fun c7 => ?_)
      · show AR E d _ (45, [some (vA m), some (vI s), some (vI x), some (vI (m_ahead s x (m_std P s x + 1)))], [], (C, N)) _
        refine AR.blk 3 (f' := (48, [some (vA m), some (vI s), some (vI x), some (vI (m_ahead s x (m_std P s x + 1)))], [vI x, vI s, vA m], (C, N))) (fun _ => rfl) ?_
        refine AR.callV [vI s, vI x] (ev_X7_lineFrom (by omega) hm hr hw s x (by omega) (by omega)) hm.1 rfl rfl rfl rfl rfl ?_
        show AR E d _ (51, [some (vA m), some (vI s), some (vI x), some (vI (m_ahead s x (m_std P s x + 1)))], [vI (m_std P s x)], (C, N)) _
        have f8 := m_std_in P s x (by omega)
        refine AR.blk 2 (f' := (53, [some (vA m), some (vI s), some (vI x), some (vI (m_ahead s x (m_std P s x + 1)))], [vI s, vA m, vI (m_std P s x)], (C, N))) (fun _ => rfl) ?_
        refine AR.callV [vI s] (ev_X7_kindAt (by omega) hm hr hw s (by omega) (by omega)) hm.1 rfl rfl rfl rfl rfl ?_
        show AR E d _ (56, [some (vA m), some (vI s), some (vI x), some (vI (m_ahead s x (m_std P s x + 1)))], [vI (m_tug (P s)), vI (m_std P s x)], (C, N)) _
        have f9 := m_tug_in (P s)
        refine AR.blk 2 (f' := (58, [some (vA m), some (vI s), some (vI x), some (vI (m_ahead s x (m_std P s x + 1)))], [vI ((m_tug (P s)) + 1), vI (m_std P s x)], (C, N))) (fun _ => rfl) ?_
        refine AR.ic_le rfl (by omega) (fun c10 => ?_) (fun c10 => ?_)
        · show AR E d _ (66, [some (vA m), some (vI s), some (vI x), some (vI (m_ahead s x (m_std P s x + 1)))], [], (C, N)) _
          refine AR.blk 1 (f' := (67, [some (vA m), some (vI s), some (vI x), some (vI (m_ahead s x (m_std P s x + 1)))], [vI 0], (C, N))) (fun _ => rfl) ?_
          exact AR.retI rfl (by unfold m_cause; have z5 := m_la_in n q (-1) hw.2.2.1.1; first | omega | (rw [show m_ahead s x (m_std P s x + 1) = -1 by omega, m_cl_off hw]; omega)) ⟨rfl, .inl rfl⟩ rfl
        · show AR E d _ (61, [some (vA m), some (vI s), some (vI x), some (vI (m_ahead s x (m_std P s x + 1)))], [], (C, N)) _
          refine AR.blk 2 (f' := (67, [some (vA m), some (vI s), some (vI x), some (vI (m_ahead s x (m_std P s x + 1)))], [vI 13], (C, N))) (fun _ => rfl) ?_
          exact AR.retI rfl (by unfold m_cause; have z5 := m_la_in n q (-1) hw.2.2.1.1; first | omega | (rw [show m_ahead s x (m_std P s x + 1) = -1 by omega, m_cl_off hw]; omega)) ⟨rfl, .inl rfl⟩ rfl
      · show AR E d _ (34, [some (vA m), some (vI s), some (vI x), some (vI (m_ahead s x (m_std P s x + 1)))], [], (C, N)) _
        refine AR.blk 2 (f' := (36, [some (vA m), some (vI s), some (vI x), some (vI (m_ahead s x (m_std P s x + 1)))], [vI (m_ahead s x (m_std P s x + 1)), vA m], (C, N))) (fun _ => rfl) ?_
        refine AR.callV [vI (m_ahead s x (m_std P s x + 1))] (ev_X7_isClosed (by omega) hm hr hw (m_ahead s x (m_std P s x + 1)) (by omega)) hm.1 rfl rfl rfl rfl rfl ?_
        show AR E d _ (39, [some (vA m), some (vI s), some (vI x), some (vI (m_ahead s x (m_std P s x + 1)))], [vI (m_cl n q cl (m_ahead s x (m_std P s x + 1)))], (C, N)) _
        have f11 := m_cl_in n q cl (m_ahead s x (m_std P s x + 1)) (fun k => (hw.2.2.2.2.1 k).1)
        refine AR.if_eq rfl (by omega) (fun c12 => ?_) (fun c12 => ?_)
        · show AR E d _ (45, [some (vA m), some (vI s), some (vI x), some (vI (m_ahead s x (m_std P s x + 1)))], [], (C, N)) _
          refine AR.blk 3 (f' := (48, [some (vA m), some (vI s), some (vI x), some (vI (m_ahead s x (m_std P s x + 1)))], [vI x, vI s, vA m], (C, N))) (fun _ => rfl) ?_
          refine AR.callV [vI s, vI x] (ev_X7_lineFrom (by omega) hm hr hw s x (by omega) (by omega)) hm.1 rfl rfl rfl rfl rfl ?_
          show AR E d _ (51, [some (vA m), some (vI s), some (vI x), some (vI (m_ahead s x (m_std P s x + 1)))], [vI (m_std P s x)], (C, N)) _
          have f13 := m_std_in P s x (by omega)
          refine AR.blk 2 (f' := (53, [some (vA m), some (vI s), some (vI x), some (vI (m_ahead s x (m_std P s x + 1)))], [vI s, vA m, vI (m_std P s x)], (C, N))) (fun _ => rfl) ?_
          refine AR.callV [vI s] (ev_X7_kindAt (by omega) hm hr hw s (by omega) (by omega)) hm.1 rfl rfl rfl rfl rfl ?_
          show AR E d _ (56, [some (vA m), some (vI s), some (vI x), some (vI (m_ahead s x (m_std P s x + 1)))], [vI (m_tug (P s)), vI (m_std P s x)], (C, N)) _
          have f14 := m_tug_in (P s)
          refine AR.blk 2 (f' := (58, [some (vA m), some (vI s), some (vI x), some (vI (m_ahead s x (m_std P s x + 1)))], [vI ((m_tug (P s)) + 1), vI (m_std P s x)], (C, N))) (fun _ => rfl) ?_
          refine AR.ic_le rfl (by omega) (fun c15 => ?_) (fun c15 => ?_)
          · show AR E d _ (66, [some (vA m), some (vI s), some (vI x), some (vI (m_ahead s x (m_std P s x + 1)))], [], (C, N)) _
            refine AR.blk 1 (f' := (67, [some (vA m), some (vI s), some (vI x), some (vI (m_ahead s x (m_std P s x + 1)))], [vI 0], (C, N))) (fun _ => rfl) ?_
            exact AR.retI rfl (by unfold m_cause; have z5 := m_la_in n q (-1) hw.2.2.1.1; first | omega | (rw [show m_ahead s x (m_std P s x + 1) = -1 by omega, m_cl_off hw]; omega)) ⟨rfl, .inl rfl⟩ rfl
          · show AR E d _ (61, [some (vA m), some (vI s), some (vI x), some (vI (m_ahead s x (m_std P s x + 1)))], [], (C, N)) _
            refine AR.blk 2 (f' := (67, [some (vA m), some (vI s), some (vI x), some (vI (m_ahead s x (m_std P s x + 1)))], [vI 13], (C, N))) (fun _ => rfl) ?_
            exact AR.retI rfl (by unfold m_cause; have z5 := m_la_in n q (-1) hw.2.2.1.1; first | omega | (rw [show m_ahead s x (m_std P s x + 1) = -1 by omega, m_cl_off hw]; omega)) ⟨rfl, .inl rfl⟩ rfl
        · show AR E d _ (42, [some (vA m), some (vI s), some (vI x), some (vI (m_ahead s x (m_std P s x + 1)))], [], (C, N)) _
          refine AR.blk 1 (f' := (44, [some (vA m), some (vI s), some (vI x), some (vI (m_ahead s x (m_std P s x + 1)))], [vI 12], (C, N))) (fun _ => rfl) ?_
          exact AR.retI rfl (by unfold m_cause; have z5 := m_la_in n q (-1) hw.2.2.1.1; first | omega | (rw [show m_ahead s x (m_std P s x + 1) = -1 by omega, m_cl_off hw]; omega)) ⟨rfl, .inl rfl⟩ rfl
    · show AR E d _ (20, [some (vA m), some (vI s), some (vI x), none], [], (C, N)) _
      refine AR.blk 1 (f' := (22, [some (vA m), some (vI s), some (vI x), none], [vI 11], (C, N))) (fun _ => rfl) ?_
      exact AR.retI rfl (by unfold m_cause; have z5 := m_la_in n q (-1) hw.2.2.1.1; first | omega | (rw [show m_ahead s x (m_std P s x + 1) = -1 by omega, m_cl_off hw]; omega)) ⟨rfl, .inl rfl⟩ rfl
  · show AR E d _ (9, [some (vA m), some (vI s), some (vI x), none], [], (C, N)) _
    refine AR.blk 1 (f' := (11, [some (vA m), some (vI s), some (vI x), none], [vI 10], (C, N))) (fun _ => rfl) ?_
    exact AR.retI rfl (by unfold m_cause; have z5 := m_la_in n q (-1) hw.2.2.1.1; first | omega | (rw [show m_ahead s x (m_std P s x + 1) = -1 by omega, m_cl_off hw]; omega)) ⟨rfl, .inl rfl⟩ rfl

theorem ev_X7_againstDetail {d : Nat} (hd : 5 ≤ d) (hm : g_isM C m) (hr : g_rR (N (m + 1)) P n q p cl tn) (hw : g_wB P n q p cl tn) (s x : Int) (h0 : 0 ≤ s ∧ s < 36) (h1 : 0 ≤ x ∧ x < 4) (h2 : P s ≠ -1) : Ev E d 128 [vA m, vI s, vI x] (C, N) (some (vI (m_causeD P (m_cause P n q cl s x) s x)), (C, N)) := by
  obtain ⟨d, rfl⟩ : ∃ j, d = j + 1 := ⟨d - 1, by omega⟩
  refine Ev.intro (M := ag_mX7_againstDetail) rfl rfl ?_
  show AR E d _ (0, [some (vA m), some (vI s), some (vI x)], [], (C, N)) _
  refine AR.blk 3 (f' := (3, [some (vA m), some (vI s), some (vI x)], [vI x, vI s, vA m], (C, N))) (fun _ => rfl) ?_
  refine AR.callV [vI s, vI x] (ev_X7_against (by omega) hm hr hw s x (by omega) (by omega) (by omega)) hm.1 rfl rfl rfl rfl rfl ?_
  show AR E d _ (6, [some (vA m), some (vI s), some (vI x)], [vI (m_cause P n q cl s x)], (C, N)) _
  have f1 := m_cause_in P n q cl s x
  have hsw6 : ag_in (m_cause P n q cl s x) := (by omega)
  by_cases e2 : m_cause P n q cl s x = 10
  · refine AR.tswA 0 rfl hsw6 e2 rfl (by omega) ?_
    show AR E d _ (32, [some (vA m), some (vI s), some (vI x)], [], (C, N)) _
    refine AR.blk 2 (f' := (34, [some (vA m), some (vI s), some (vI x)], [vI s, vA m], (C, N))) (fun _ => rfl) ?_
    refine AR.callV [vI s] (ev_X7_kindAt (by omega) hm hr hw s (by omega) (by omega)) hm.1 rfl rfl rfl rfl rfl ?_
    show AR E d _ (37, [some (vA m), some (vI s), some (vI x)], [vI (m_tug (P s))], (C, N)) _
    have f3 := m_tug_in (P s)
    exact AR.retI rfl (by unfold m_causeD; omega) ⟨rfl, .inl rfl⟩ rfl
  by_cases e4 : m_cause P n q cl s x = 11
  · refine AR.tswA 1 rfl hsw6 e4 rfl (by omega) ?_
    show AR E d _ (38, [some (vA m), some (vI s), some (vI x)], [], (C, N)) _
    refine AR.blk 1 (f' := (39, [some (vA m), some (vI s), some (vI x)], [vI s], (C, N))) (fun _ => rfl) ?_
    exact AR.retI rfl (by unfold m_causeD; omega) ⟨rfl, .inl rfl⟩ rfl
  by_cases e5 : m_cause P n q cl s x = 12
  · refine AR.tswA 2 rfl hsw6 e5 rfl (by omega) ?_
    show AR E d _ (40, [some (vA m), some (vI s), some (vI x)], [], (C, N)) _
    refine AR.blk 3 (f' := (43, [some (vA m), some (vI s), some (vI x)], [vI x, vI s, vA m], (C, N))) (fun _ => rfl) ?_
    refine AR.callV [vI s, vI x] (ev_X7_endOf (by omega) hm hr hw s x (by omega) (by omega)) hm.1 rfl rfl rfl rfl rfl ?_
    show AR E d _ (46, [some (vA m), some (vI s), some (vI x)], [vI (m_ahead s x (m_std P s x + 1))], (C, N)) _
    have f6 := m_ah s x (m_std P s x + 1) (by omega) (by omega) (by have := m_std_in P s x (by omega); omega)
    exact AR.retI rfl (by unfold m_causeD; omega) ⟨rfl, .inl rfl⟩ rfl
  refine AR.tswD rfl hsw6 (by omega) ?_
  show AR E d _ (47, [some (vA m), some (vI s), some (vI x)], [], (C, N)) _
  refine AR.blk 3 (f' := (50, [some (vA m), some (vI s), some (vI x)], [vI x, vI s, vA m], (C, N))) (fun _ => rfl) ?_
  refine AR.callV [vI s, vI x] (ev_X7_lineFrom (by omega) hm hr hw s x (by omega) (by omega)) hm.1 rfl rfl rfl rfl rfl ?_
  show AR E d _ (53, [some (vA m), some (vI s), some (vI x)], [vI (m_std P s x)], (C, N)) _
  have f7 := m_std_in P s x (by omega)
  exact AR.retI rfl (by unfold m_causeD; omega) ⟨rfl, .inl rfl⟩ rfl

theorem ev_X7_goesOn {d : Nat} (hd : 1 ≤ d) (hm : g_isM C m) (hr : g_rR (N (m + 1)) P n q p cl tn) (hw : g_wB P n q p cl tn) (hs : g_rS (N (m + 1)) t bg en ca gn pu mk) (hv : g_wS t bg en ca gn pu mk) : Ev E d 143 [vA m] (C, N) (some (vI (m_on bg en)), (C, N)) := by
  obtain ⟨d, rfl⟩ : ∃ j, d = j + 1 := ⟨d - 1, by omega⟩
  refine Ev.intro (M := ag_mX7_goesOn) rfl rfl ?_
  show AR E d _ (0, [some (vA m)], [], (C, N)) _
  refine AR.blk 1 (f' := (1, [some (vA m)], [vA m], (C, N))) (fun _ => rfl) ?_
  refine AR.getR rfl rfl hm.1 (by decide) rfl ?_
  refine AR.blk 1 (f' := (5, [some (vA m)], [vI 3, vA (m + 1)], (C, N))) (fun _ => rfl) ?_
  have f1 := hv.1
  have f2 := hv.2.1
  have f3 := hv.2.2.1
  have f4 := hv.2.2.2.1
  refine AR.iald rfl hm.2.1 (by omega) (v := bg) hs.2.2.2.1 ?_
  refine AR.blk 1 (f' := (7, [some (vA m)], [vI 1, vI bg], (C, N))) (fun _ => rfl) ?_
  refine AR.ic_ne rfl (by omega) (fun c5 => ?_) (fun c5 => ?_)
  · show AR E d _ (23, [some (vA m)], [], (C, N)) _
    refine AR.blk 1 (f' := (24, [some (vA m)], [vI 0], (C, N))) (fun _ => rfl) ?_
    exact AR.retI rfl (by unfold m_on; omega) (by decide) rfl
  · show AR E d _ (10, [some (vA m)], [], (C, N)) _
    refine AR.blk 1 (f' := (11, [some (vA m)], [vA m], (C, N))) (fun _ => rfl) ?_
    refine AR.getR rfl rfl hm.1 (by decide) rfl ?_
    refine AR.blk 1 (f' := (15, [some (vA m)], [vI 4, vA (m + 1)], (C, N))) (fun _ => rfl) ?_
    have f6 := hv.1
    have f7 := hv.2.1
    have f8 := hv.2.2.1
    have f9 := hv.2.2.2.1
    refine AR.iald rfl hm.2.1 (by omega) (v := en) hs.2.2.2.2.1 ?_
    refine AR.if_ne rfl (by omega) (fun c10 => ?_) (fun c10 => ?_)
    · show AR E d _ (23, [some (vA m)], [], (C, N)) _
      refine AR.blk 1 (f' := (24, [some (vA m)], [vI 0], (C, N))) (fun _ => rfl) ?_
      exact AR.retI rfl (by unfold m_on; omega) (by decide) rfl
    · show AR E d _ (19, [some (vA m)], [], (C, N)) _
      refine AR.blk 2 (f' := (24, [some (vA m)], [vI 1], (C, N))) (fun _ => rfl) ?_
      exact AR.retI rfl (by unfold m_on; omega) (by decide) rfl

theorem ev_X7_isMove {d : Nat} (hd : 5 ≤ d) (hm : g_isM C m) (hr : g_rR (N (m + 1)) P n q p cl tn) (hw : g_wB P n q p cl tn) (hs : g_rS (N (m + 1)) t bg en ca gn pu mk) (hv : g_wS t bg en ca gn pu mk) (s x : Int) (h0 : 0 ≤ s ∧ s < 36) (h1 : 0 ≤ x ∧ x < 4) : Ev E d 144 [vA m, vI s, vI x] (C, N) (some (vI (m_open P n q cl t bg en (4 * s + x))), (C, N)) := by
  obtain ⟨d, rfl⟩ : ∃ j, d = j + 1 := ⟨d - 1, by omega⟩
  refine Ev.intro (M := ag_mX7_isMove) rfl rfl ?_
  show AR E d _ (0, [some (vA m), some (vI s), some (vI x)], [], (C, N)) _
  refine AR.blk 1 (f' := (1, [some (vA m), some (vI s), some (vI x)], [vA m], (C, N))) (fun _ => rfl) ?_
  refine AR.callV [] (ev_X7_goesOn (by omega) hm hr hw hs hv  ) hm.1 rfl rfl rfl rfl rfl ?_
  show AR E d _ (4, [some (vA m), some (vI s), some (vI x)], [vI (m_on bg en)], (C, N)) _
  have f1 := m_on_in bg en
  refine AR.if_eq rfl (by omega) (fun c2 => ?_) (fun c2 => ?_)
  · show AR E d _ (34, [some (vA m), some (vI s), some (vI x)], [], (C, N)) _
    refine AR.blk 1 (f' := (35, [some (vA m), some (vI s), some (vI x)], [vI 0], (C, N))) (fun _ => rfl) ?_
    exact AR.retI rfl (by unfold m_open; rw [show (4 * s + x) / 4 = s by omega, show (4 * s + x) % 4 = x by omega]; omega) (by decide) rfl
  · show AR E d _ (7, [some (vA m), some (vI s), some (vI x)], [], (C, N)) _
    refine AR.blk 2 (f' := (9, [some (vA m), some (vI s), some (vI x)], [vI s, vA m], (C, N))) (fun _ => rfl) ?_
    refine AR.callV [vI s] (ev_X7_sideAt (by omega) hm hr hw s (by omega)) hm.1 rfl rfl rfl rfl rfl ?_
    show AR E d _ (12, [some (vA m), some (vI s), some (vI x)], [vI (m_own (P s))], (C, N)) _
    have f3 := m_own_in (P s) (hw.1 s)
    have f4 := hw.1 s
    refine AR.blk 1 (f' := (13, [some (vA m), some (vI s), some (vI x)], [vA m, vI (m_own (P s))], (C, N))) (fun _ => rfl) ?_
    refine AR.getR rfl rfl hm.1 (by decide) rfl ?_
    refine AR.blk 1 (f' := (17, [some (vA m), some (vI s), some (vI x)], [vI 1, vA (m + 1), vI (m_own (P s))], (C, N))) (fun _ => rfl) ?_
    have f5 := hv.1
    have f6 := hv.2.1
    have f7 := hv.2.2.1
    have f8 := hv.2.2.2.1
    refine AR.iald rfl hm.2.1 (by omega) (v := t % 2) hs.2.1 ?_
    refine AR.ic_ne rfl (by omega) (fun c9 => ?_) (fun c9 => ?_)
    · show AR E d _ (34, [some (vA m), some (vI s), some (vI x)], [], (C, N)) _
      refine AR.blk 1 (f' := (35, [some (vA m), some (vI s), some (vI x)], [vI 0], (C, N))) (fun _ => rfl) ?_
      exact AR.retI rfl (by unfold m_open; rw [show (4 * s + x) / 4 = s by omega, show (4 * s + x) % 4 = x by omega]; omega) (by decide) rfl
    · show AR E d _ (21, [some (vA m), some (vI s), some (vI x)], [], (C, N)) _
      refine AR.blk 3 (f' := (24, [some (vA m), some (vI s), some (vI x)], [vI x, vI s, vA m], (C, N))) (fun _ => rfl) ?_
      refine AR.callV [vI s, vI x] (ev_X7_against (by omega) hm hr hw s x (by omega) (by omega) (by omega)) hm.1 rfl rfl rfl rfl rfl ?_
      show AR E d _ (27, [some (vA m), some (vI s), some (vI x)], [vI (m_cause P n q cl s x)], (C, N)) _
      have f10 := m_cause_in P n q cl s x
      refine AR.if_ne rfl (by omega) (fun c11 => ?_) (fun c11 => ?_)
      · show AR E d _ (34, [some (vA m), some (vI s), some (vI x)], [], (C, N)) _
        refine AR.blk 1 (f' := (35, [some (vA m), some (vI s), some (vI x)], [vI 0], (C, N))) (fun _ => rfl) ?_
        exact AR.retI rfl (by unfold m_open; rw [show (4 * s + x) / 4 = s by omega, show (4 * s + x) % 4 = x by omega]; omega) (by decide) rfl
      · show AR E d _ (30, [some (vA m), some (vI s), some (vI x)], [], (C, N)) _
        refine AR.blk 2 (f' := (35, [some (vA m), some (vI s), some (vI x)], [vI 1], (C, N))) (fun _ => rfl) ?_
        exact AR.retI rfl (by unfold m_open; rw [show (4 * s + x) / 4 = s by omega, show (4 * s + x) % 4 = x by omega]; omega) (by decide) rfl

theorem ev_X7_moves {d : Nat} (hd : 6 ≤ d) (hm : g_isM C m) (hr : g_rR (N (m + 1)) P n q p cl tn) (hw : g_wB P n q p cl tn) (hs : g_rS (N (m + 1)) t bg en ca gn pu mk) (hv : g_wS t bg en ca gn pu mk) : Ev E d 145 [vA m] (C, N) (some (vI (m_mvs P n q cl t bg en)), (C, N)) := by
  obtain ⟨d, rfl⟩ : ∃ j, d = j + 1 := ⟨d - 1, by omega⟩
  refine Ev.intro (M := ag_mX7_moves) rfl rfl ?_
  show AR E d _ (0, [some (vA m), none, none], [], (C, N)) _
  refine AR.blk 4 (f' := (4, [some (vA m), some (vI 0), some (vI 0)], [], (C, N))) (fun _ => rfl) ?_
  suffices H4 : ∀ (j : Nat) (c : Int) (k : Int), (144 - k).toNat < j → (0 ≤ k ∧ k ≤ 144 ∧ 0 ≤ c ∧ c ≤ k) → (c = m_sum (m_open P n q cl t bg en) k.toNat) → AR E d ag_mX7_moves (4, [some (vA m), some (vI c), some (vI k)], [], (C, N)) (fun o_ => o_ = (some (vI (m_mvs P n q cl t bg en)), (C, N))) by
    exact H4 _ _ _ (Nat.lt_succ_self _) (by omega) rfl
  intro j
  induction j with
  | zero => intro c k hj; exact absurd hj (Nat.not_lt_zero _)
  | succ j ih4 =>
    intro c k hj4 i0 i1
    have z6 : 4 * (k / 4) + k % 4 = k := by omega
    refine AR.blk 2 (f' := (8, [some (vA m), some (vI c), some (vI k)], [vI 144, vI k], (C, N))) (fun _ => rfl) ?_
    refine AR.ic_ge rfl (by omega) (fun c1 => ?_) (fun c1 => ?_)
    · show AR E d _ (38, [some (vA m), some (vI c), some (vI k)], [], (C, N)) _
      refine AR.blk 1 (f' := (39, [some (vA m), some (vI c), some (vI k)], [vI c], (C, N))) (fun _ => rfl) ?_
      exact AR.retI rfl (by rw [i1, show k = 144 by omega]; rfl) ⟨rfl, .inl rfl⟩ rfl
    · show AR E d _ (11, [some (vA m), some (vI c), some (vI k)], [], (C, N)) _
      refine AR.blk 4 (f' := (15, [some (vA m), some (vI c), some (vI k)], [vI 4, vI k, vA m, vI c], (C, N))) (fun _ => rfl) ?_
      refine AR.idiv rfl (by omega) ?_
      refine AR.blk 2 (f' := (18, [some (vA m), some (vI c), some (vI k)], [vI 4, vI k, vI (k / 4), vA m, vI c], (C, N))) (fun _ => rfl) ?_
      refine AR.irem rfl (by omega) ?_
      refine AR.callV [vI (k / 4), vI (k % 4)] (ev_X7_isMove (by omega) hm hr hw hs hv (k / 4) (k % 4) (by omega) (by omega)) hm.1 rfl rfl rfl rfl rfl ?_
      show AR E d _ (22, [some (vA m), some (vI c), some (vI k)], [vI (m_open P n q cl t bg en (4 * (k / 4) + (k % 4))), vI c], (C, N)) _
      have f2 := m_open_in P n q cl t bg en (4 * (k / 4) + (k % 4))
      refine AR.if_eq rfl (by omega) (fun c3 => ?_) (fun c3 => ?_)
      · show AR E d _ (29, [some (vA m), some (vI c), some (vI k)], [vI c], (C, N)) _
        refine AR.blk 5 (f' := (4, [some (vA m), some (vI (c + 0)), some (vI (k + 1))], [], (C, N))) (fun _ => rfl) ?_
        exact ih4 _ _ (by omega) (by omega) (by rw [m_sum_succ _ (by omega), ← i1]; rw [z6] at *; omega)
      · show AR E d _ (25, [some (vA m), some (vI c), some (vI k)], [vI c], (C, N)) _
        refine AR.blk 6 (f' := (4, [some (vA m), some (vI (c + 1)), some (vI (k + 1))], [], (C, N))) (fun _ => rfl) ?_
        exact ih4 _ _ (by omega) (by omega) (by rw [m_sum_succ _ (by omega), ← i1]; rw [z6] at *; omega)

theorem ev_X7_wouldPush {d : Nat} (hd : 5 ≤ d) (hm : g_isM C m) (hr : g_rR (N (m + 1)) P n q p cl tn) (hw : g_wB P n q p cl tn) (s x : Int) (h0 : ag_in s) (h1 : ag_in x) : Ev E d 150 [vA m, vI s, vI x] (C, N) (some (vI (m_wp P n q cl s x)), (C, N)) := by
  obtain ⟨d, rfl⟩ : ∃ j, d = j + 1 := ⟨d - 1, by omega⟩
  refine Ev.intro (M := ag_mX7_wouldPush) rfl rfl ?_
  show AR E d _ (0, [some (vA m), some (vI s), some (vI x)], [], (C, N)) _
  refine AR.blk 1 (f' := (1, [some (vA m), some (vI s), some (vI x)], [vI s], (C, N))) (fun _ => rfl) ?_
  refine AR.callS [vI s] (ev_X7_isSquare (by omega) s (by omega)) rfl rfl rfl rfl rfl ?_
  show AR E d _ (4, [some (vA m), some (vI s), some (vI x)], [vI (if 0 ≤ s ∧ s ≤ 35 then 1 else 0)], (C, N)) _
  refine AR.if_ne rfl (by omega) (fun c1 => ?_) (fun c1 => ?_)
  · show AR E d _ (9, [some (vA m), some (vI s), some (vI x)], [], (C, N)) _
    refine AR.blk 3 (f' := (12, [some (vA m), some (vI s), some (vI x)], [vI 3, vI 0, vI x], (C, N))) (fun _ => rfl) ?_
    refine AR.callS [vI x, vI 0, vI 3] (ev_X7_in (by omega) x 0 3 (by omega)) rfl rfl rfl rfl rfl ?_
    show AR E d _ (15, [some (vA m), some (vI s), some (vI x)], [vI (if 0 ≤ x ∧ x ≤ 3 then 1 else 0)], (C, N)) _
    refine AR.if_ne rfl (by omega) (fun c2 => ?_) (fun c2 => ?_)
    · show AR E d _ (21, [some (vA m), some (vI s), some (vI x)], [], (C, N)) _
      refine AR.blk 2 (f' := (23, [some (vA m), some (vI s), some (vI x)], [vI s, vA m], (C, N))) (fun _ => rfl) ?_
      refine AR.callV [vI s] (ev_X7_pieceAt (by omega) hm hr hw s (by omega)) hm.1 rfl rfl rfl rfl rfl ?_
      show AR E d _ (26, [some (vA m), some (vI s), some (vI x)], [vI (P s + 1)], (C, N)) _
      have f3 := hw.1 s
      refine AR.if_eq rfl (by omega) (fun c4 => ?_) (fun c4 => ?_)
      · show AR E d _ (38, [some (vA m), some (vI s), some (vI x)], [], (C, N)) _
        refine AR.blk 2 (f' := (49, [some (vA m), some (vI s), some (vI x)], [vI (-4)], (C, N))) (fun _ => rfl) ?_
        exact AR.retI rfl (by unfold m_wp; omega) ⟨rfl, .inl rfl⟩ rfl
      · show AR E d _ (29, [some (vA m), some (vI s), some (vI x)], [], (C, N)) _
        refine AR.blk 3 (f' := (32, [some (vA m), some (vI s), some (vI x)], [vI x, vI s, vA m], (C, N))) (fun _ => rfl) ?_
        refine AR.callV [vI s, vI x] (ev_X7_against (by omega) hm hr hw s x (by omega) (by omega) (by omega)) hm.1 rfl rfl rfl rfl rfl ?_
        show AR E d _ (35, [some (vA m), some (vI s), some (vI x)], [vI (m_cause P n q cl s x)], (C, N)) _
        have f5 := m_cause_in P n q cl s x
        refine AR.if_le rfl (by omega) (fun c6 => ?_) (fun c6 => ?_)
        · show AR E d _ (43, [some (vA m), some (vI s), some (vI x)], [], (C, N)) _
          refine AR.blk 3 (f' := (46, [some (vA m), some (vI s), some (vI x)], [vI x, vI s, vA m], (C, N))) (fun _ => rfl) ?_
          refine AR.callV [vI s, vI x] (ev_X7_lineFrom (by omega) hm hr hw s x (by omega) (by omega)) hm.1 rfl rfl rfl rfl rfl ?_
          show AR E d _ (49, [some (vA m), some (vI s), some (vI x)], [vI (m_std P s x)], (C, N)) _
          have f7 := m_std_in P s x (by omega)
          exact AR.retI rfl (by unfold m_wp; omega) ⟨rfl, .inl rfl⟩ rfl
        · show AR E d _ (38, [some (vA m), some (vI s), some (vI x)], [], (C, N)) _
          refine AR.blk 2 (f' := (49, [some (vA m), some (vI s), some (vI x)], [vI (-4)], (C, N))) (fun _ => rfl) ?_
          exact AR.retI rfl (by unfold m_wp; omega) ⟨rfl, .inl rfl⟩ rfl
    · show AR E d _ (18, [some (vA m), some (vI s), some (vI x)], [], (C, N)) _
      refine AR.blk 1 (f' := (20, [some (vA m), some (vI s), some (vI x)], [vI (-2)], (C, N))) (fun _ => rfl) ?_
      exact AR.retI rfl (by unfold m_wp; omega) ⟨rfl, .inl rfl⟩ rfl
  · show AR E d _ (7, [some (vA m), some (vI s), some (vI x)], [], (C, N)) _
    refine AR.blk 1 (f' := (8, [some (vA m), some (vI s), some (vI x)], [vI (-1)], (C, N))) (fun _ => rfl) ?_
    exact AR.retI rfl (by unfold m_wp; omega) ⟨rfl, .inl rfl⟩ rfl

theorem ev_X7_isTake {d : Nat} (hd : 3 ≤ d) (hm : g_isM C m) (hr : g_rR (N (m + 1)) P n q p cl tn) (hw : g_wB P n q p cl tn) (hs : g_rS (N (m + 1)) t bg en ca gn pu mk) (hv : g_wS t bg en ca gn pu mk) (s x : Int) (h0 : 0 ≤ s ∧ s < 36) (h1 : 0 ≤ x ∧ x < 4) : Ev E d 151 [vA m, vI s, vI x] (C, N) (some (vI (m_take P t s x)), (C, N)) := by
  obtain ⟨d, rfl⟩ : ∃ j, d = j + 1 := ⟨d - 1, by omega⟩
  refine Ev.intro (M := ag_mX7_isTake) rfl rfl ?_
  show AR E d _ (0, [some (vA m), some (vI s), some (vI x), none, none, none], [], (C, N)) _
  refine AR.blk 3 (f' := (3, [some (vA m), some (vI s), some (vI x), none, none, none], [vI x, vI s, vA m], (C, N))) (fun _ => rfl) ?_
  refine AR.callV [vI s, vI x] (ev_X7_lineFrom (by omega) hm hr hw s x (by omega) (by omega)) hm.1 rfl rfl rfl rfl rfl ?_
  show AR E d _ (6, [some (vA m), some (vI s), some (vI x), none, none, none], [vI (m_std P s x)], (C, N)) _
  have f1 := m_std_in P s x (by omega)
  refine AR.blk 2 (f' := (8, [some (vA m), some (vI s), some (vI x), some (vI (m_std P s x)), none, none], [vI (m_std P s x)], (C, N))) (fun _ => rfl) ?_
  refine AR.if_eq rfl (by omega) (fun c2 => ?_) (fun c2 => ?_)
  · show AR E d _ (20, [some (vA m), some (vI s), some (vI x), some (vI (m_std P s x)), none, none], [], (C, N)) _
    refine AR.blk 1 (f' := (21, [some (vA m), some (vI s), some (vI x), some (vI (m_std P s x)), none, none], [vI 0], (C, N))) (fun _ => rfl) ?_
    exact AR.retI rfl (by unfold m_take; first | omega | (have e9 : a = m_ahead s x (m_std P s x) := (by rw [i1, show k = m_std P s x by omega]); rw [← e9]; omega)) (by decide) rfl
  · show AR E d _ (11, [some (vA m), some (vI s), some (vI x), some (vI (m_std P s x)), none, none], [], (C, N)) _
    refine AR.blk 3 (f' := (14, [some (vA m), some (vI s), some (vI x), some (vI (m_std P s x)), none, none], [vI x, vI s, vA m], (C, N))) (fun _ => rfl) ?_
    refine AR.callV [vI s, vI x] (ev_X7_endOf (by omega) hm hr hw s x (by omega) (by omega)) hm.1 rfl rfl rfl rfl rfl ?_
    show AR E d _ (17, [some (vA m), some (vI s), some (vI x), some (vI (m_std P s x)), none, none], [vI (m_ahead s x (m_std P s x + 1))], (C, N)) _
    have f3 := m_ah s x (m_std P s x + 1) (by omega) (by omega) (by have := m_std_in P s x (by omega); omega)
    refine AR.if_lt rfl (by omega) (fun c4 => ?_) (fun c4 => ?_)
    · show AR E d _ (22, [some (vA m), some (vI s), some (vI x), some (vI (m_std P s x)), none, none], [], (C, N)) _
      refine AR.blk 4 (f' := (28, [some (vA m), some (vI s), some (vI x), some (vI (m_std P s x)), some (vI s), some (vI 0)], [], (C, N))) (fun _ => rfl) ?_
      suffices H28 : ∀ (j : Nat) (a : Int) (k : Int), (m_std P s x - k).toNat < j → (0 ≤ k ∧ k ≤ m_std P s x) → (a = m_ahead s x k) → AR E d ag_mX7_isTake (28, [some (vA m), some (vI s), some (vI x), some (vI (m_std P s x)), some (vI a), some (vI k)], [], (C, N)) (fun o_ => o_ = (some (vI (m_take P t s x)), (C, N))) by
        exact H28 _ _ _ (Nat.lt_succ_self _) (by omega) (by unfold m_ahead; rw [if_pos (by have := m_room_in s x (by omega); omega)]; omega)
      intro j
      induction j with
      | zero => intro a k hj; exact absurd hj (Nat.not_lt_zero _)
      | succ j ih28 =>
        intro a k hj28 i0 i1
        have z6 := m_ah s x k (by omega) (by omega) (by omega)
        refine AR.blk 2 (f' := (31, [some (vA m), some (vI s), some (vI x), some (vI (m_std P s x)), some (vI a), some (vI k)], [vI (m_std P s x), vI k], (C, N))) (fun _ => rfl) ?_
        refine AR.ic_ge rfl (by omega) (fun c5 => ?_) (fun c5 => ?_)
        · show AR E d _ (48, [some (vA m), some (vI s), some (vI x), some (vI (m_std P s x)), some (vI a), some (vI k)], [], (C, N)) _
          refine AR.blk 2 (f' := (51, [some (vA m), some (vI s), some (vI x), some (vI (m_std P s x)), some (vI a), some (vI k)], [vI a, vA m], (C, N))) (fun _ => rfl) ?_
          refine AR.callV [vI a] (ev_X7_sideAt (by omega) hm hr hw a (by omega)) hm.1 rfl rfl rfl rfl rfl ?_
          show AR E d _ (54, [some (vA m), some (vI s), some (vI x), some (vI (m_std P s x)), some (vI a), some (vI k)], [vI (m_own (P a))], (C, N)) _
          have f6 := m_own_in (P a) (hw.1 a)
          have f7 := hw.1 a
          refine AR.blk 1 (f' := (55, [some (vA m), some (vI s), some (vI x), some (vI (m_std P s x)), some (vI a), some (vI k)], [vA m, vI (m_own (P a))], (C, N))) (fun _ => rfl) ?_
          refine AR.getR rfl rfl hm.1 (by decide) rfl ?_
          refine AR.blk 1 (f' := (59, [some (vA m), some (vI s), some (vI x), some (vI (m_std P s x)), some (vI a), some (vI k)], [vI 1, vA (m + 1), vI (m_own (P a))], (C, N))) (fun _ => rfl) ?_
          have f8 := hv.1
          have f9 := hv.2.1
          have f10 := hv.2.2.1
          have f11 := hv.2.2.2.1
          refine AR.iald rfl hm.2.1 (by omega) (v := t % 2) hs.2.1 ?_
          refine AR.ic_eq rfl (by omega) (fun c12 => ?_) (fun c12 => ?_)
          · show AR E d _ (67, [some (vA m), some (vI s), some (vI x), some (vI (m_std P s x)), some (vI a), some (vI k)], [], (C, N)) _
            refine AR.blk 1 (f' := (68, [some (vA m), some (vI s), some (vI x), some (vI (m_std P s x)), some (vI a), some (vI k)], [vI 0], (C, N))) (fun _ => rfl) ?_
            exact AR.retI rfl (by unfold m_take; first | omega | (have e9 : a = m_ahead s x (m_std P s x) := (by rw [i1, show k = m_std P s x by omega]); rw [← e9]; omega)) (by decide) rfl
          · show AR E d _ (63, [some (vA m), some (vI s), some (vI x), some (vI (m_std P s x)), some (vI a), some (vI k)], [], (C, N)) _
            refine AR.blk 2 (f' := (68, [some (vA m), some (vI s), some (vI x), some (vI (m_std P s x)), some (vI a), some (vI k)], [vI 1], (C, N))) (fun _ => rfl) ?_
            exact AR.retI rfl (by unfold m_take; first | omega | (have e9 : a = m_ahead s x (m_std P s x) := (by rw [i1, show k = m_std P s x by omega]); rw [← e9]; omega)) (by decide) rfl
        · show AR E d _ (34, [some (vA m), some (vI s), some (vI x), some (vI (m_std P s x)), some (vI a), some (vI k)], [], (C, N)) _
          refine AR.blk 2 (f' := (37, [some (vA m), some (vI s), some (vI x), some (vI (m_std P s x)), some (vI a), some (vI k)], [vI x, vI a], (C, N))) (fun _ => rfl) ?_
          refine AR.callS [vI a, vI x] (ev_X7_beside (by omega) a x (by omega) (by omega)) rfl rfl rfl rfl rfl ?_
          show AR E d _ (40, [some (vA m), some (vI s), some (vI x), some (vI (m_std P s x)), some (vI a), some (vI k)], [vI (m_ahead a x 1)], (C, N)) _
          have f13 := m_ah a x 1 (by omega) (by omega) (by omega)
          have f14 := m_room_in a x (by omega)
          refine AR.blk 3 (f' := (28, [some (vA m), some (vI s), some (vI x), some (vI (m_std P s x)), some (vI (m_ahead a x 1)), some (vI (k + 1))], [], (C, N))) (fun _ => rfl) ?_
          exact ih28 _ _ (by omega) (by omega) (by rw [i1]; exact m_ahS s x k (by omega) (by omega) (by omega) (by omega))
    · show AR E d _ (20, [some (vA m), some (vI s), some (vI x), some (vI (m_std P s x)), none, none], [], (C, N)) _
      refine AR.blk 1 (f' := (21, [some (vA m), some (vI s), some (vI x), some (vI (m_std P s x)), none, none], [vI 0], (C, N))) (fun _ => rfl) ?_
      exact AR.retI rfl (by unfold m_take; first | omega | (have e9 : a = m_ahead s x (m_std P s x) := (by rw [i1, show k = m_std P s x by omega]); rw [← e9]; omega)) (by decide) rfl

theorem ev_X7_lockOf {d : Nat} (hd : 2 ≤ d) (hm : g_isM C m) (hr : g_rR (N (m + 1)) P n q p cl tn) (hw : g_wB P n q p cl tn) (l w : Int) (h0 : ag_in l) (h1 : ag_in w) : Ev E d 141 [vA m, vI l, vI w] (C, N) (some (vI (m_lko n q p cl tn l w)), (C, N)) := by
  obtain ⟨d, rfl⟩ : ∃ j, d = j + 1 := ⟨d - 1, by omega⟩
  refine Ev.intro (M := ag_mX7_lockOf) rfl rfl ?_
  show AR E d _ (0, [some (vA m), some (vI l), some (vI w)], [], (C, N)) _
  refine AR.blk 3 (f' := (3, [some (vA m), some (vI l), some (vI w)], [vA m, vI 0, vI l], (C, N))) (fun _ => rfl) ?_
  refine AR.getR rfl rfl hm.1 (by decide) rfl ?_
  refine AR.blk 1 (f' := (8, [some (vA m), some (vI l), some (vI w)], [vI 14, vA (m + 1), vI 0, vI l], (C, N))) (fun _ => rfl) ?_
  have f1 := hw.2.2.1
  refine AR.iald rfl hm.2.1 (by omega) (v := n) hr.2.1 ?_
  refine AR.blk 2 (f' := (11, [some (vA m), some (vI l), some (vI w)], [vI (n - 1), vI 0, vI l], (C, N))) (fun _ => rfl) ?_
  refine AR.callS [vI l, vI 0, vI (n - 1)] (ev_X7_in (by omega) l 0 (n - 1) (by omega)) rfl rfl rfl rfl rfl ?_
  show AR E d _ (14, [some (vA m), some (vI l), some (vI w)], [vI (if 0 ≤ l ∧ l ≤ (n - 1) then 1 else 0)], (C, N)) _
  refine AR.if_ne rfl (by omega) (fun c2 => ?_) (fun c2 => ?_)
  · show AR E d _ (19, [some (vA m), some (vI l), some (vI w)], [], (C, N)) _
    refine AR.blk 3 (f' := (22, [some (vA m), some (vI l), some (vI w)], [vI 3, vI 0, vI w], (C, N))) (fun _ => rfl) ?_
    refine AR.callS [vI w, vI 0, vI 3] (ev_X7_in (by omega) w 0 3 (by omega)) rfl rfl rfl rfl rfl ?_
    show AR E d _ (25, [some (vA m), some (vI l), some (vI w)], [vI (if 0 ≤ w ∧ w ≤ 3 then 1 else 0)], (C, N)) _
    refine AR.if_eq rfl (by omega) (fun c3 => ?_) (fun c3 => ?_)
    · show AR E d _ (37, [some (vA m), some (vI l), some (vI w)], [], (C, N)) _
      refine AR.blk 1 (f' := (39, [some (vA m), some (vI l), some (vI w)], [vI (-2)], (C, N))) (fun _ => rfl) ?_
      exact AR.retI rfl (by unfold m_lko; omega) ⟨rfl, .inl rfl⟩ rfl
    · show AR E d _ (28, [some (vA m), some (vI l), some (vI w)], [], (C, N)) _
      refine AR.blk 3 (f' := (31, [some (vA m), some (vI l), some (vI w)], [vI w, vI l, vA m], (C, N))) (fun _ => rfl) ?_
      refine AR.callV [vI l, vI w] (ev_X7_ofLock (by omega) hm l w (by omega) (m_lk q p cl tn l w) (m_lk_of hr (by omega) (by omega) (by omega))) hm.1 rfl rfl rfl rfl rfl ?_
      show AR E d _ (34, [some (vA m), some (vI l), some (vI w)], [vI (m_lk q p cl tn l w)], (C, N)) _
      refine AR.blk 1 (f' := (39, [some (vA m), some (vI l), some (vI w)], [vI (m_lk q p cl tn l w)], (C, N))) (fun _ => rfl) ?_
      exact AR.retI rfl (by unfold m_lko; omega) ⟨rfl, .inl rfl⟩ rfl
  · show AR E d _ (17, [some (vA m), some (vI l), some (vI w)], [], (C, N)) _
    refine AR.blk 1 (f' := (18, [some (vA m), some (vI l), some (vI w)], [vI (-1)], (C, N))) (fun _ => rfl) ?_
    exact AR.retI rfl (by unfold m_lko; omega) ⟨rfl, .inl rfl⟩ rfl

theorem ev_X7_squareOf {d : Nat} (hd : 4 ≤ d) (hm : g_isM C m) (hr : g_rR (N (m + 1)) P n q p cl tn) (hw : g_wB P n q p cl tn) (s w : Int) (h0 : ag_in s) (h1 : ag_in w) : Ev E d 140 [vA m, vI s, vI w] (C, N) (some (vI (m_sq P n q cl s w)), (C, N)) := by
  obtain ⟨d, rfl⟩ : ∃ j, d = j + 1 := ⟨d - 1, by omega⟩
  refine Ev.intro (M := ag_mX7_squareOf) rfl rfl ?_
  show AR E d _ (0, [some (vA m), some (vI s), some (vI w)], [], (C, N)) _
  refine AR.blk 1 (f' := (1, [some (vA m), some (vI s), some (vI w)], [vI s], (C, N))) (fun _ => rfl) ?_
  refine AR.callS [vI s] (ev_X7_isSquare (by omega) s (by omega)) rfl rfl rfl rfl rfl ?_
  show AR E d _ (4, [some (vA m), some (vI s), some (vI w)], [vI (if 0 ≤ s ∧ s ≤ 35 then 1 else 0)], (C, N)) _
  refine AR.if_ne rfl (by omega) (fun c1 => ?_) (fun c1 => ?_)
  · show AR E d _ (9, [some (vA m), some (vI s), some (vI w)], [], (C, N)) _
    refine AR.blk 1 (f' := (10, [some (vA m), some (vI s), some (vI w)], [vI w], (C, N))) (fun _ => rfl) ?_
    have hsw10 : ag_in w := (by omega)
    by_cases e2 : w = 0
    · refine AR.tswA 0 rfl hsw10 e2 rfl (by omega) ?_
      show AR E d _ (36, [some (vA m), some (vI s), some (vI w)], [], (C, N)) _
      refine AR.blk 2 (f' := (38, [some (vA m), some (vI s), some (vI w)], [vI s, vA m], (C, N))) (fun _ => rfl) ?_
      refine AR.callV [vI s] (ev_X7_pieceAt (by omega) hm hr hw s (by omega)) hm.1 rfl rfl rfl rfl rfl ?_
      show AR E d _ (41, [some (vA m), some (vI s), some (vI w)], [vI (P s + 1)], (C, N)) _
      have f3 := hw.1 s
      refine AR.if_ne rfl (by omega) (fun c4 => ?_) (fun c4 => ?_)
      · show AR E d _ (49, [some (vA m), some (vI s), some (vI w)], [], (C, N)) _
        refine AR.blk 2 (f' := (51, [some (vA m), some (vI s), some (vI w)], [vI s, vA m], (C, N))) (fun _ => rfl) ?_
        refine AR.callV [vI s] (ev_X7_pieceAt (by omega) hm hr hw s (by omega)) hm.1 rfl rfl rfl rfl rfl ?_
        show AR E d _ (54, [some (vA m), some (vI s), some (vI w)], [vI (P s + 1)], (C, N)) _
        have f5 := hw.1 s
        refine AR.blk 2 (f' := (56, [some (vA m), some (vI s), some (vI w)], [vI ((P s + 1) - 1)], (C, N))) (fun _ => rfl) ?_
        exact AR.retI rfl (by unfold m_sq; omega) ⟨rfl, .inl rfl⟩ rfl
      · show AR E d _ (44, [some (vA m), some (vI s), some (vI w)], [], (C, N)) _
        refine AR.blk 2 (f' := (56, [some (vA m), some (vI s), some (vI w)], [vI (-4)], (C, N))) (fun _ => rfl) ?_
        exact AR.retI rfl (by unfold m_sq; omega) ⟨rfl, .inl rfl⟩ rfl
    by_cases e6 : w = 1
    · refine AR.tswA 1 rfl hsw10 e6 rfl (by omega) ?_
      show AR E d _ (57, [some (vA m), some (vI s), some (vI w)], [], (C, N)) _
      refine AR.blk 2 (f' := (59, [some (vA m), some (vI s), some (vI w)], [vI s, vA m], (C, N))) (fun _ => rfl) ?_
      refine AR.callV [vI s] (ev_X7_lockAt (by omega) hm hr hw s (by omega)) hm.1 rfl rfl rfl rfl rfl ?_
      show AR E d _ (62, [some (vA m), some (vI s), some (vI w)], [vI (m_la n q s)], (C, N)) _
      have f7 := m_la_in n q s hw.2.2.1.1
      refine AR.if_ge rfl (by omega) (fun c8 => ?_) (fun c8 => ?_)
      · show AR E d _ (70, [some (vA m), some (vI s), some (vI w)], [], (C, N)) _
        refine AR.blk 2 (f' := (72, [some (vA m), some (vI s), some (vI w)], [vI s, vA m], (C, N))) (fun _ => rfl) ?_
        refine AR.callV [vI s] (ev_X7_lockAt (by omega) hm hr hw s (by omega)) hm.1 rfl rfl rfl rfl rfl ?_
        show AR E d _ (75, [some (vA m), some (vI s), some (vI w)], [vI (m_la n q s)], (C, N)) _
        have f9 := m_la_in n q s hw.2.2.1.1
        exact AR.retI rfl (by unfold m_sq; omega) ⟨rfl, .inl rfl⟩ rfl
      · show AR E d _ (65, [some (vA m), some (vI s), some (vI w)], [], (C, N)) _
        refine AR.blk 2 (f' := (75, [some (vA m), some (vI s), some (vI w)], [vI (-4)], (C, N))) (fun _ => rfl) ?_
        exact AR.retI rfl (by unfold m_sq; omega) ⟨rfl, .inl rfl⟩ rfl
    by_cases e10 : w = 2
    · refine AR.tswA 2 rfl hsw10 e10 rfl (by omega) ?_
      show AR E d _ (76, [some (vA m), some (vI s), some (vI w)], [], (C, N)) _
      refine AR.blk 2 (f' := (78, [some (vA m), some (vI s), some (vI w)], [vI s, vA m], (C, N))) (fun _ => rfl) ?_
      refine AR.callV [vI s] (ev_X7_isClosed (by omega) hm hr hw s (by omega)) hm.1 rfl rfl rfl rfl rfl ?_
      show AR E d _ (81, [some (vA m), some (vI s), some (vI w)], [vI (m_cl n q cl s)], (C, N)) _
      have f11 := m_cl_in n q cl s (fun k => (hw.2.2.2.2.1 k).1)
      refine AR.if_eq rfl (by omega) (fun c12 => ?_) (fun c12 => ?_)
      · show AR E d _ (88, [some (vA m), some (vI s), some (vI w)], [], (C, N)) _
        refine AR.blk 1 (f' := (89, [some (vA m), some (vI s), some (vI w)], [vI 0], (C, N))) (fun _ => rfl) ?_
        exact AR.retI rfl (by unfold m_sq; omega) ⟨rfl, .inl rfl⟩ rfl
      · show AR E d _ (84, [some (vA m), some (vI s), some (vI w)], [], (C, N)) _
        refine AR.blk 2 (f' := (89, [some (vA m), some (vI s), some (vI w)], [vI 1], (C, N))) (fun _ => rfl) ?_
        exact AR.retI rfl (by unfold m_sq; omega) ⟨rfl, .inl rfl⟩ rfl
    refine AR.tswD rfl hsw10 (by omega) ?_
    show AR E d _ (90, [some (vA m), some (vI s), some (vI w)], [], (C, N)) _
    refine AR.blk 1 (f' := (92, [some (vA m), some (vI s), some (vI w)], [vI (-2)], (C, N))) (fun _ => rfl) ?_
    exact AR.retI rfl (by unfold m_sq; omega) ⟨rfl, .inl rfl⟩ rfl
  · show AR E d _ (7, [some (vA m), some (vI s), some (vI w)], [], (C, N)) _
    refine AR.blk 1 (f' := (8, [some (vA m), some (vI s), some (vI w)], [vI (-1)], (C, N))) (fun _ => rfl) ?_
    exact AR.retI rfl (by unfold m_sq; omega) ⟨rfl, .inl rfl⟩ rfl

theorem ev_X7_sideOf {d : Nat} (hd : 4 ≤ d) (hm : g_isM C m) (hr : g_rR (N (m + 1)) P n q p cl tn) (hw : g_wB P n q p cl tn) (hs : g_rS (N (m + 1)) t bg en ca gn pu mk) (hv : g_wS t bg en ca gn pu mk) (w y : Int) (h0 : ag_in w) (h1 : ag_in y) : Ev E d 142 [vA m, vI w, vI y] (C, N) (some (vI (m_sd P gn pu mk w y)), (C, N)) := by
  obtain ⟨d, rfl⟩ : ∃ j, d = j + 1 := ⟨d - 1, by omega⟩
  refine Ev.intro (M := ag_mX7_sideOf) rfl rfl ?_
  show AR E d _ (0, [some (vA m), some (vI w), some (vI y)], [], (C, N)) _
  refine AR.blk 3 (f' := (3, [some (vA m), some (vI w), some (vI y)], [vI 1, vI 0, vI w], (C, N))) (fun _ => rfl) ?_
  refine AR.callS [vI w, vI 0, vI 1] (ev_X7_in (by omega) w 0 1 (by omega)) rfl rfl rfl rfl rfl ?_
  show AR E d _ (6, [some (vA m), some (vI w), some (vI y)], [vI (if 0 ≤ w ∧ w ≤ 1 then 1 else 0)], (C, N)) _
  refine AR.if_ne rfl (by omega) (fun c1 => ?_) (fun c1 => ?_)
  · show AR E d _ (11, [some (vA m), some (vI w), some (vI y)], [], (C, N)) _
    refine AR.blk 1 (f' := (12, [some (vA m), some (vI w), some (vI y)], [vI y], (C, N))) (fun _ => rfl) ?_
    have hsw12 : ag_in y := (by omega)
    by_cases e2 : y = 0
    · refine AR.tswA 0 rfl hsw12 e2 rfl (by omega) ?_
      show AR E d _ (52, [some (vA m), some (vI w), some (vI y)], [], (C, N)) _
      refine AR.blk 2 (f' := (54, [some (vA m), some (vI w), some (vI y)], [vI w, vA m], (C, N))) (fun _ => rfl) ?_
      refine AR.callV [vI w] (ev_X7_pieces (by omega) hm hr hw w (by omega)) hm.1 rfl rfl rfl rfl rfl ?_
      show AR E d _ (57, [some (vA m), some (vI w), some (vI y)], [vI (m_cnt P w)], (C, N)) _
      have f3 := m_cnt_in P w
      exact AR.retI rfl (by unfold m_sd; first | omega | (have y1 := m_ck_sum P w hw.1 (by omega); have y2 := m_ck_tug P w hw.1 (by omega); omega)) ⟨rfl, .inl rfl⟩ rfl
    by_cases e4 : y = 1
    · refine AR.tswA 1 rfl hsw12 e4 rfl (by omega) ?_
      show AR E d _ (58, [some (vA m), some (vI w), some (vI y)], [], (C, N)) _
      refine AR.blk 3 (f' := (61, [some (vA m), some (vI w), some (vI y)], [vI 0, vI w, vA m], (C, N))) (fun _ => rfl) ?_
      refine AR.callV [vI w, vI 0] (ev_X7_countOf (by omega) hm hr hw w 0 (by omega) (by omega)) hm.1 rfl rfl rfl rfl rfl ?_
      show AR E d _ (64, [some (vA m), some (vI w), some (vI y)], [vI (m_ck P w 0)], (C, N)) _
      have f5 := m_ck_in P w 0
      exact AR.retI rfl (by unfold m_sd; first | omega | (have y1 := m_ck_sum P w hw.1 (by omega); have y2 := m_ck_tug P w hw.1 (by omega); omega)) ⟨rfl, .inl rfl⟩ rfl
    by_cases e6 : y = 2
    · refine AR.tswA 2 rfl hsw12 e6 rfl (by omega) ?_
      show AR E d _ (65, [some (vA m), some (vI w), some (vI y)], [], (C, N)) _
      refine AR.blk 3 (f' := (68, [some (vA m), some (vI w), some (vI y)], [vI 1, vI w, vA m], (C, N))) (fun _ => rfl) ?_
      refine AR.callV [vI w, vI 1] (ev_X7_countOf (by omega) hm hr hw w 1 (by omega) (by omega)) hm.1 rfl rfl rfl rfl rfl ?_
      show AR E d _ (71, [some (vA m), some (vI w), some (vI y)], [vI (m_ck P w 1)], (C, N)) _
      have f7 := m_ck_in P w 1
      exact AR.retI rfl (by unfold m_sd; first | omega | (have y1 := m_ck_sum P w hw.1 (by omega); have y2 := m_ck_tug P w hw.1 (by omega); omega)) ⟨rfl, .inl rfl⟩ rfl
    by_cases e8 : y = 3
    · refine AR.tswA 3 rfl hsw12 e8 rfl (by omega) ?_
      show AR E d _ (72, [some (vA m), some (vI w), some (vI y)], [], (C, N)) _
      refine AR.blk 1 (f' := (73, [some (vA m), some (vI w), some (vI y)], [vA m], (C, N))) (fun _ => rfl) ?_
      refine AR.getR rfl rfl hm.1 (by decide) rfl ?_
      refine AR.blk 3 (f' := (80, [some (vA m), some (vI w), some (vI y)], [vI (8 + w), vA (m + 1)], (C, N))) (fun _ => rfl) ?_
      have f9 := hv.2.2.2.2.1 w
      refine AR.iald rfl hm.2.1 (by omega) (v := gn w) (m_two 8 hs.2.2.2.2.2.2.1.1 hs.2.2.2.2.2.2.1.2 (by omega)) ?_
      exact AR.retI rfl (by unfold m_sd; first | omega | (have y1 := m_ck_sum P w hw.1 (by omega); have y2 := m_ck_tug P w hw.1 (by omega); omega)) ⟨rfl, .inl rfl⟩ rfl
    by_cases e10 : y = 4
    · refine AR.tswA 4 rfl hsw12 e10 rfl (by omega) ?_
      show AR E d _ (82, [some (vA m), some (vI w), some (vI y)], [], (C, N)) _
      refine AR.blk 1 (f' := (83, [some (vA m), some (vI w), some (vI y)], [vA m], (C, N))) (fun _ => rfl) ?_
      refine AR.getR rfl rfl hm.1 (by decide) rfl ?_
      refine AR.blk 3 (f' := (90, [some (vA m), some (vI w), some (vI y)], [vI (10 + w), vA (m + 1)], (C, N))) (fun _ => rfl) ?_
      have f11 := hv.2.2.2.2.1 w
      refine AR.iald rfl hm.2.1 (by omega) (v := pu w) (m_two 10 hs.2.2.2.2.2.2.2.1.1 hs.2.2.2.2.2.2.2.1.2 (by omega)) ?_
      exact AR.retI rfl (by unfold m_sd; first | omega | (have y1 := m_ck_sum P w hw.1 (by omega); have y2 := m_ck_tug P w hw.1 (by omega); omega)) ⟨rfl, .inl rfl⟩ rfl
    by_cases e12 : y = 5
    · refine AR.tswA 5 rfl hsw12 e12 rfl (by omega) ?_
      show AR E d _ (92, [some (vA m), some (vI w), some (vI y)], [], (C, N)) _
      refine AR.blk 1 (f' := (93, [some (vA m), some (vI w), some (vI y)], [vA m], (C, N))) (fun _ => rfl) ?_
      refine AR.getR rfl rfl hm.1 (by decide) rfl ?_
      refine AR.blk 3 (f' := (100, [some (vA m), some (vI w), some (vI y)], [vI (12 + w), vA (m + 1)], (C, N))) (fun _ => rfl) ?_
      have f13 := hv.2.2.2.2.1 w
      refine AR.iald rfl hm.2.1 (by omega) (v := mk w) (m_two 12 hs.2.2.2.2.2.2.2.2.1 hs.2.2.2.2.2.2.2.2.2 (by omega)) ?_
      exact AR.retI rfl (by unfold m_sd; first | omega | (have y1 := m_ck_sum P w hw.1 (by omega); have y2 := m_ck_tug P w hw.1 (by omega); omega)) ⟨rfl, .inl rfl⟩ rfl
    refine AR.tswD rfl hsw12 (by omega) ?_
    show AR E d _ (102, [some (vA m), some (vI w), some (vI y)], [], (C, N)) _
    refine AR.blk 1 (f' := (104, [some (vA m), some (vI w), some (vI y)], [vI (-2)], (C, N))) (fun _ => rfl) ?_
    exact AR.retI rfl (by unfold m_sd; first | omega | (have y1 := m_ck_sum P w hw.1 (by omega); have y2 := m_ck_tug P w hw.1 (by omega); omega)) ⟨rfl, .inl rfl⟩ rfl
  · show AR E d _ (9, [some (vA m), some (vI w), some (vI y)], [], (C, N)) _
    refine AR.blk 1 (f' := (10, [some (vA m), some (vI w), some (vI y)], [vI (-1)], (C, N))) (fun _ => rfl) ?_
    exact AR.retI rfl (by unfold m_sd; first | omega | (have y1 := m_ck_sum P w hw.1 (by omega); have y2 := m_ck_tug P w hw.1 (by omega); omega)) ⟨rfl, .inl rfl⟩ rfl

theorem ev_X7_turnsIn {d : Nat} (hd : 2 ≤ d) (hm : g_isM C m) (hr : g_rR (N (m + 1)) P n q p cl tn) (hw : g_wB P n q p cl tn) (hs : g_rS (N (m + 1)) t bg en ca gn pu mk) (hv : g_wS t bg en ca gn pu mk) (l : Int) (h0 : ag_in l) : Ev E d 154 [vA m, vI l] (C, N) (some (vI (m_tin n p t l)), (C, N)) := by
  obtain ⟨d, rfl⟩ : ∃ j, d = j + 1 := ⟨d - 1, by omega⟩
  refine Ev.intro (M := ag_mX7_turnsIn) rfl rfl ?_
  show AR E d _ (0, [some (vA m), some (vI l)], [], (C, N)) _
  refine AR.blk 3 (f' := (3, [some (vA m), some (vI l)], [vA m, vI 0, vI l], (C, N))) (fun _ => rfl) ?_
  refine AR.getR rfl rfl hm.1 (by decide) rfl ?_
  refine AR.blk 1 (f' := (8, [some (vA m), some (vI l)], [vI 14, vA (m + 1), vI 0, vI l], (C, N))) (fun _ => rfl) ?_
  have f1 := hw.2.2.1
  refine AR.iald rfl hm.2.1 (by omega) (v := n) hr.2.1 ?_
  refine AR.blk 2 (f' := (11, [some (vA m), some (vI l)], [vI (n - 1), vI 0, vI l], (C, N))) (fun _ => rfl) ?_
  refine AR.callS [vI l, vI 0, vI (n - 1)] (ev_X7_in (by omega) l 0 (n - 1) (by omega)) rfl rfl rfl rfl rfl ?_
  show AR E d _ (14, [some (vA m), some (vI l)], [vI (if 0 ≤ l ∧ l ≤ (n - 1) then 1 else 0)], (C, N)) _
  refine AR.if_eq rfl (by omega) (fun c2 => ?_) (fun c2 => ?_)
  · show AR E d _ (40, [some (vA m), some (vI l)], [], (C, N)) _
    refine AR.blk 1 (f' := (41, [some (vA m), some (vI l)], [vI (-1)], (C, N))) (fun _ => rfl) ?_
    exact AR.retI rfl (by unfold m_tin; omega) ⟨rfl, .inl rfl⟩ rfl
  · show AR E d _ (17, [some (vA m), some (vI l)], [], (C, N)) _
    refine AR.blk 3 (f' := (20, [some (vA m), some (vI l)], [vI 1, vI l, vA m], (C, N))) (fun _ => rfl) ?_
    refine AR.callV [vI l, vI 1] (ev_X7_ofLock (by omega) hm l 1 (by omega) (p l) (hr.2.2.1 _ (by omega) (by omega)).2) hm.1 rfl rfl rfl rfl rfl ?_
    show AR E d _ (23, [some (vA m), some (vI l)], [vI (p l)], (C, N)) _
    have f3 := hw.2.2.2.1 l (by omega) (by omega)
    refine AR.blk 1 (f' := (24, [some (vA m), some (vI l)], [vA m, vI (p l)], (C, N))) (fun _ => rfl) ?_
    refine AR.getR rfl rfl hm.1 (by decide) rfl ?_
    refine AR.blk 1 (f' := (28, [some (vA m), some (vI l)], [vI 0, vA (m + 1), vI (p l)], (C, N))) (fun _ => rfl) ?_
    have f4 := hv.1
    have f5 := hv.2.1
    have f6 := hv.2.2.1
    have f7 := hv.2.2.2.1
    refine AR.iald rfl hm.2.1 (by omega) (v := t) hs.1 ?_
    refine AR.blk 3 (f' := (32, [some (vA m), some (vI l)], [vI 1, vI l, vA m, vI t, vI (p l)], (C, N))) (fun _ => rfl) ?_
    refine AR.callV [vI l, vI 1] (ev_X7_ofLock (by omega) hm l 1 (by omega) (p l) (hr.2.2.1 _ (by omega) (by omega)).2) hm.1 rfl rfl rfl rfl rfl ?_
    show AR E d _ (35, [some (vA m), some (vI l)], [vI (p l), vI t, vI (p l)], (C, N)) _
    have f8 := hw.2.2.2.1 l (by omega) (by omega)
    refine AR.irem rfl (by omega) ?_
    refine AR.blk 2 (f' := (41, [some (vA m), some (vI l)], [vI ((p l) - (t % (p l)))], (C, N))) (fun _ => rfl) ?_
    exact AR.retI rfl (by unfold m_tin; omega) ⟨rfl, .inl rfl⟩ rfl

theorem ev_X7_closedMany {d : Nat} (hd : 2 ≤ d) (hm : g_isM C m) (hr : g_rR (N (m + 1)) P n q p cl tn) (hw : g_wB P n q p cl tn) : Ev E d 164 [vA m] (C, N) (some (vI (cl 0 + cl 1 + cl 2 + cl 3)), (C, N)) := by
  obtain ⟨d, rfl⟩ : ∃ j, d = j + 1 := ⟨d - 1, by omega⟩
  refine Ev.intro (M := ag_mX7_closedMany) rfl rfl ?_
  show AR E d _ (0, [some (vA m), none, none], [], (C, N)) _
  refine AR.blk 6 (f' := (6, [some (vA m), some (vI 0), some (vI 0)], [vA m, vI 0], (C, N))) (fun _ => rfl) ?_
  refine AR.getR rfl rfl hm.1 (by decide) rfl ?_
  refine AR.blk 1 (f' := (11, [some (vA m), some (vI 0), some (vI 0)], [vI 14, vA (m + 1), vI 0], (C, N))) (fun _ => rfl) ?_
  have f1 := hw.2.2.1
  refine AR.iald rfl hm.2.1 (by omega) (v := n) hr.2.1 ?_
  refine AR.ic_ge rfl (by omega) (fun c2 => ?_) (fun c2 => ?_)
  · show AR E d _ (30, [some (vA m), some (vI 0), some (vI 0)], [], (C, N)) _
    refine AR.blk 1 (f' := (31, [some (vA m), some (vI 0), some (vI 0)], [vI 0], (C, N))) (fun _ => rfl) ?_
    exact AR.retI rfl (by have y0 := hw.2.2.2.2.2 0; have y1 := hw.2.2.2.2.2 1; have y2 := hw.2.2.2.2.2 2; have y3 := hw.2.2.2.2.2 3; omega) ⟨rfl, .inl rfl⟩ rfl
  · show AR E d _ (15, [some (vA m), some (vI 0), some (vI 0)], [], (C, N)) _
    refine AR.blk 4 (f' := (19, [some (vA m), some (vI 0), some (vI 0)], [vI 2, vI 0, vA m, vI 0], (C, N))) (fun _ => rfl) ?_
    refine AR.callV [vI 0, vI 2] (ev_X7_ofLock (by omega) hm 0 2 (by omega) (cl 0) (hr.2.2.2 _ (by omega) (by omega)).1) hm.1 rfl rfl rfl rfl rfl ?_
    show AR E d _ (22, [some (vA m), some (vI 0), some (vI 0)], [vI (cl 0), vI 0], (C, N)) _
    have f3 := hw.2.2.2.2.1 0
    refine AR.blk 6 (f' := (6, [some (vA m), some (vI (0 + (cl 0))), some (vI 1)], [vA m, vI 1], (C, N))) (fun _ => rfl) ?_
    refine AR.getR rfl rfl hm.1 (by decide) rfl ?_
    refine AR.blk 1 (f' := (11, [some (vA m), some (vI (0 + (cl 0))), some (vI 1)], [vI 14, vA (m + 1), vI 1], (C, N))) (fun _ => rfl) ?_
    have f4 := hw.2.2.1
    refine AR.iald rfl hm.2.1 (by omega) (v := n) hr.2.1 ?_
    refine AR.ic_ge rfl (by omega) (fun c5 => ?_) (fun c5 => ?_)
    · show AR E d _ (30, [some (vA m), some (vI (0 + (cl 0))), some (vI 1)], [], (C, N)) _
      refine AR.blk 1 (f' := (31, [some (vA m), some (vI (0 + (cl 0))), some (vI 1)], [vI (0 + (cl 0))], (C, N))) (fun _ => rfl) ?_
      exact AR.retI rfl (by have y0 := hw.2.2.2.2.2 0; have y1 := hw.2.2.2.2.2 1; have y2 := hw.2.2.2.2.2 2; have y3 := hw.2.2.2.2.2 3; omega) ⟨rfl, .inl rfl⟩ rfl
    · show AR E d _ (15, [some (vA m), some (vI (0 + (cl 0))), some (vI 1)], [], (C, N)) _
      refine AR.blk 4 (f' := (19, [some (vA m), some (vI (0 + (cl 0))), some (vI 1)], [vI 2, vI 1, vA m, vI (0 + (cl 0))], (C, N))) (fun _ => rfl) ?_
      refine AR.callV [vI 1, vI 2] (ev_X7_ofLock (by omega) hm 1 2 (by omega) (cl 1) (hr.2.2.2 _ (by omega) (by omega)).1) hm.1 rfl rfl rfl rfl rfl ?_
      show AR E d _ (22, [some (vA m), some (vI (0 + (cl 0))), some (vI 1)], [vI (cl 1), vI (0 + (cl 0))], (C, N)) _
      have f6 := hw.2.2.2.2.1 1
      refine AR.blk 6 (f' := (6, [some (vA m), some (vI ((0 + (cl 0)) + (cl 1))), some (vI 2)], [vA m, vI 2], (C, N))) (fun _ => rfl) ?_
      refine AR.getR rfl rfl hm.1 (by decide) rfl ?_
      refine AR.blk 1 (f' := (11, [some (vA m), some (vI ((0 + (cl 0)) + (cl 1))), some (vI 2)], [vI 14, vA (m + 1), vI 2], (C, N))) (fun _ => rfl) ?_
      have f7 := hw.2.2.1
      refine AR.iald rfl hm.2.1 (by omega) (v := n) hr.2.1 ?_
      refine AR.ic_ge rfl (by omega) (fun c8 => ?_) (fun c8 => ?_)
      · show AR E d _ (30, [some (vA m), some (vI ((0 + (cl 0)) + (cl 1))), some (vI 2)], [], (C, N)) _
        refine AR.blk 1 (f' := (31, [some (vA m), some (vI ((0 + (cl 0)) + (cl 1))), some (vI 2)], [vI ((0 + (cl 0)) + (cl 1))], (C, N))) (fun _ => rfl) ?_
        exact AR.retI rfl (by have y0 := hw.2.2.2.2.2 0; have y1 := hw.2.2.2.2.2 1; have y2 := hw.2.2.2.2.2 2; have y3 := hw.2.2.2.2.2 3; omega) ⟨rfl, .inl rfl⟩ rfl
      · show AR E d _ (15, [some (vA m), some (vI ((0 + (cl 0)) + (cl 1))), some (vI 2)], [], (C, N)) _
        refine AR.blk 4 (f' := (19, [some (vA m), some (vI ((0 + (cl 0)) + (cl 1))), some (vI 2)], [vI 2, vI 2, vA m, vI ((0 + (cl 0)) + (cl 1))], (C, N))) (fun _ => rfl) ?_
        refine AR.callV [vI 2, vI 2] (ev_X7_ofLock (by omega) hm 2 2 (by omega) (cl 2) (hr.2.2.2 _ (by omega) (by omega)).1) hm.1 rfl rfl rfl rfl rfl ?_
        show AR E d _ (22, [some (vA m), some (vI ((0 + (cl 0)) + (cl 1))), some (vI 2)], [vI (cl 2), vI ((0 + (cl 0)) + (cl 1))], (C, N)) _
        have f9 := hw.2.2.2.2.1 2
        refine AR.blk 6 (f' := (6, [some (vA m), some (vI (((0 + (cl 0)) + (cl 1)) + (cl 2))), some (vI 3)], [vA m, vI 3], (C, N))) (fun _ => rfl) ?_
        refine AR.getR rfl rfl hm.1 (by decide) rfl ?_
        refine AR.blk 1 (f' := (11, [some (vA m), some (vI (((0 + (cl 0)) + (cl 1)) + (cl 2))), some (vI 3)], [vI 14, vA (m + 1), vI 3], (C, N))) (fun _ => rfl) ?_
        have f10 := hw.2.2.1
        refine AR.iald rfl hm.2.1 (by omega) (v := n) hr.2.1 ?_
        refine AR.ic_ge rfl (by omega) (fun c11 => ?_) (fun c11 => ?_)
        · show AR E d _ (30, [some (vA m), some (vI (((0 + (cl 0)) + (cl 1)) + (cl 2))), some (vI 3)], [], (C, N)) _
          refine AR.blk 1 (f' := (31, [some (vA m), some (vI (((0 + (cl 0)) + (cl 1)) + (cl 2))), some (vI 3)], [vI (((0 + (cl 0)) + (cl 1)) + (cl 2))], (C, N))) (fun _ => rfl) ?_
          exact AR.retI rfl (by have y0 := hw.2.2.2.2.2 0; have y1 := hw.2.2.2.2.2 1; have y2 := hw.2.2.2.2.2 2; have y3 := hw.2.2.2.2.2 3; omega) ⟨rfl, .inl rfl⟩ rfl
        · show AR E d _ (15, [some (vA m), some (vI (((0 + (cl 0)) + (cl 1)) + (cl 2))), some (vI 3)], [], (C, N)) _
          refine AR.blk 4 (f' := (19, [some (vA m), some (vI (((0 + (cl 0)) + (cl 1)) + (cl 2))), some (vI 3)], [vI 2, vI 3, vA m, vI (((0 + (cl 0)) + (cl 1)) + (cl 2))], (C, N))) (fun _ => rfl) ?_
          refine AR.callV [vI 3, vI 2] (ev_X7_ofLock (by omega) hm 3 2 (by omega) (cl 3) (hr.2.2.2 _ (by omega) (by omega)).1) hm.1 rfl rfl rfl rfl rfl ?_
          show AR E d _ (22, [some (vA m), some (vI (((0 + (cl 0)) + (cl 1)) + (cl 2))), some (vI 3)], [vI (cl 3), vI (((0 + (cl 0)) + (cl 1)) + (cl 2))], (C, N)) _
          have f12 := hw.2.2.2.2.1 3
          refine AR.blk 6 (f' := (6, [some (vA m), some (vI ((((0 + (cl 0)) + (cl 1)) + (cl 2)) + (cl 3))), some (vI 4)], [vA m, vI 4], (C, N))) (fun _ => rfl) ?_
          refine AR.getR rfl rfl hm.1 (by decide) rfl ?_
          refine AR.blk 1 (f' := (11, [some (vA m), some (vI ((((0 + (cl 0)) + (cl 1)) + (cl 2)) + (cl 3))), some (vI 4)], [vI 14, vA (m + 1), vI 4], (C, N))) (fun _ => rfl) ?_
          have f13 := hw.2.2.1
          refine AR.iald rfl hm.2.1 (by omega) (v := n) hr.2.1 ?_
          refine AR.ic_ge rfl (by omega) (fun c14 => ?_) (fun c14 => ?_)
          · show AR E d _ (30, [some (vA m), some (vI ((((0 + (cl 0)) + (cl 1)) + (cl 2)) + (cl 3))), some (vI 4)], [], (C, N)) _
            refine AR.blk 1 (f' := (31, [some (vA m), some (vI ((((0 + (cl 0)) + (cl 1)) + (cl 2)) + (cl 3))), some (vI 4)], [vI ((((0 + (cl 0)) + (cl 1)) + (cl 2)) + (cl 3))], (C, N))) (fun _ => rfl) ?_
            exact AR.retI rfl (by have y0 := hw.2.2.2.2.2 0; have y1 := hw.2.2.2.2.2 1; have y2 := hw.2.2.2.2.2 2; have y3 := hw.2.2.2.2.2 3; omega) ⟨rfl, .inl rfl⟩ rfl
          · show AR E d _ (15, [some (vA m), some (vI ((((0 + (cl 0)) + (cl 1)) + (cl 2)) + (cl 3))), some (vI 4)], [], (C, N)) _
            exact False.elim (by omega)

theorem ev_X7_turnedAll {d : Nat} (hd : 2 ≤ d) (hm : g_isM C m) (hr : g_rR (N (m + 1)) P n q p cl tn) (hw : g_wB P n q p cl tn) : Ev E d 165 [vA m] (C, N) (some (vI (tn 0 + tn 1 + tn 2 + tn 3)), (C, N)) := by
  obtain ⟨d, rfl⟩ : ∃ j, d = j + 1 := ⟨d - 1, by omega⟩
  refine Ev.intro (M := ag_mX7_turnedAll) rfl rfl ?_
  show AR E d _ (0, [some (vA m), none, none], [], (C, N)) _
  refine AR.blk 6 (f' := (6, [some (vA m), some (vI 0), some (vI 0)], [vA m, vI 0], (C, N))) (fun _ => rfl) ?_
  refine AR.getR rfl rfl hm.1 (by decide) rfl ?_
  refine AR.blk 1 (f' := (11, [some (vA m), some (vI 0), some (vI 0)], [vI 14, vA (m + 1), vI 0], (C, N))) (fun _ => rfl) ?_
  have f1 := hw.2.2.1
  refine AR.iald rfl hm.2.1 (by omega) (v := n) hr.2.1 ?_
  refine AR.ic_ge rfl (by omega) (fun c2 => ?_) (fun c2 => ?_)
  · show AR E d _ (30, [some (vA m), some (vI 0), some (vI 0)], [], (C, N)) _
    refine AR.blk 1 (f' := (31, [some (vA m), some (vI 0), some (vI 0)], [vI 0], (C, N))) (fun _ => rfl) ?_
    exact AR.retI rfl (by have y0 := hw.2.2.2.2.2 0; have y1 := hw.2.2.2.2.2 1; have y2 := hw.2.2.2.2.2 2; have y3 := hw.2.2.2.2.2 3; omega) ⟨rfl, .inl rfl⟩ rfl
  · show AR E d _ (15, [some (vA m), some (vI 0), some (vI 0)], [], (C, N)) _
    refine AR.blk 4 (f' := (19, [some (vA m), some (vI 0), some (vI 0)], [vI 3, vI 0, vA m, vI 0], (C, N))) (fun _ => rfl) ?_
    refine AR.callV [vI 0, vI 3] (ev_X7_ofLock (by omega) hm 0 3 (by omega) (tn 0) (hr.2.2.2 _ (by omega) (by omega)).2) hm.1 rfl rfl rfl rfl rfl ?_
    show AR E d _ (22, [some (vA m), some (vI 0), some (vI 0)], [vI (tn 0), vI 0], (C, N)) _
    have f3 := hw.2.2.2.2.1 0
    refine AR.blk 6 (f' := (6, [some (vA m), some (vI (0 + (tn 0))), some (vI 1)], [vA m, vI 1], (C, N))) (fun _ => rfl) ?_
    refine AR.getR rfl rfl hm.1 (by decide) rfl ?_
    refine AR.blk 1 (f' := (11, [some (vA m), some (vI (0 + (tn 0))), some (vI 1)], [vI 14, vA (m + 1), vI 1], (C, N))) (fun _ => rfl) ?_
    have f4 := hw.2.2.1
    refine AR.iald rfl hm.2.1 (by omega) (v := n) hr.2.1 ?_
    refine AR.ic_ge rfl (by omega) (fun c5 => ?_) (fun c5 => ?_)
    · show AR E d _ (30, [some (vA m), some (vI (0 + (tn 0))), some (vI 1)], [], (C, N)) _
      refine AR.blk 1 (f' := (31, [some (vA m), some (vI (0 + (tn 0))), some (vI 1)], [vI (0 + (tn 0))], (C, N))) (fun _ => rfl) ?_
      exact AR.retI rfl (by have y0 := hw.2.2.2.2.2 0; have y1 := hw.2.2.2.2.2 1; have y2 := hw.2.2.2.2.2 2; have y3 := hw.2.2.2.2.2 3; omega) ⟨rfl, .inl rfl⟩ rfl
    · show AR E d _ (15, [some (vA m), some (vI (0 + (tn 0))), some (vI 1)], [], (C, N)) _
      refine AR.blk 4 (f' := (19, [some (vA m), some (vI (0 + (tn 0))), some (vI 1)], [vI 3, vI 1, vA m, vI (0 + (tn 0))], (C, N))) (fun _ => rfl) ?_
      refine AR.callV [vI 1, vI 3] (ev_X7_ofLock (by omega) hm 1 3 (by omega) (tn 1) (hr.2.2.2 _ (by omega) (by omega)).2) hm.1 rfl rfl rfl rfl rfl ?_
      show AR E d _ (22, [some (vA m), some (vI (0 + (tn 0))), some (vI 1)], [vI (tn 1), vI (0 + (tn 0))], (C, N)) _
      have f6 := hw.2.2.2.2.1 1
      refine AR.blk 6 (f' := (6, [some (vA m), some (vI ((0 + (tn 0)) + (tn 1))), some (vI 2)], [vA m, vI 2], (C, N))) (fun _ => rfl) ?_
      refine AR.getR rfl rfl hm.1 (by decide) rfl ?_
      refine AR.blk 1 (f' := (11, [some (vA m), some (vI ((0 + (tn 0)) + (tn 1))), some (vI 2)], [vI 14, vA (m + 1), vI 2], (C, N))) (fun _ => rfl) ?_
      have f7 := hw.2.2.1
      refine AR.iald rfl hm.2.1 (by omega) (v := n) hr.2.1 ?_
      refine AR.ic_ge rfl (by omega) (fun c8 => ?_) (fun c8 => ?_)
      · show AR E d _ (30, [some (vA m), some (vI ((0 + (tn 0)) + (tn 1))), some (vI 2)], [], (C, N)) _
        refine AR.blk 1 (f' := (31, [some (vA m), some (vI ((0 + (tn 0)) + (tn 1))), some (vI 2)], [vI ((0 + (tn 0)) + (tn 1))], (C, N))) (fun _ => rfl) ?_
        exact AR.retI rfl (by have y0 := hw.2.2.2.2.2 0; have y1 := hw.2.2.2.2.2 1; have y2 := hw.2.2.2.2.2 2; have y3 := hw.2.2.2.2.2 3; omega) ⟨rfl, .inl rfl⟩ rfl
      · show AR E d _ (15, [some (vA m), some (vI ((0 + (tn 0)) + (tn 1))), some (vI 2)], [], (C, N)) _
        refine AR.blk 4 (f' := (19, [some (vA m), some (vI ((0 + (tn 0)) + (tn 1))), some (vI 2)], [vI 3, vI 2, vA m, vI ((0 + (tn 0)) + (tn 1))], (C, N))) (fun _ => rfl) ?_
        refine AR.callV [vI 2, vI 3] (ev_X7_ofLock (by omega) hm 2 3 (by omega) (tn 2) (hr.2.2.2 _ (by omega) (by omega)).2) hm.1 rfl rfl rfl rfl rfl ?_
        show AR E d _ (22, [some (vA m), some (vI ((0 + (tn 0)) + (tn 1))), some (vI 2)], [vI (tn 2), vI ((0 + (tn 0)) + (tn 1))], (C, N)) _
        have f9 := hw.2.2.2.2.1 2
        refine AR.blk 6 (f' := (6, [some (vA m), some (vI (((0 + (tn 0)) + (tn 1)) + (tn 2))), some (vI 3)], [vA m, vI 3], (C, N))) (fun _ => rfl) ?_
        refine AR.getR rfl rfl hm.1 (by decide) rfl ?_
        refine AR.blk 1 (f' := (11, [some (vA m), some (vI (((0 + (tn 0)) + (tn 1)) + (tn 2))), some (vI 3)], [vI 14, vA (m + 1), vI 3], (C, N))) (fun _ => rfl) ?_
        have f10 := hw.2.2.1
        refine AR.iald rfl hm.2.1 (by omega) (v := n) hr.2.1 ?_
        refine AR.ic_ge rfl (by omega) (fun c11 => ?_) (fun c11 => ?_)
        · show AR E d _ (30, [some (vA m), some (vI (((0 + (tn 0)) + (tn 1)) + (tn 2))), some (vI 3)], [], (C, N)) _
          refine AR.blk 1 (f' := (31, [some (vA m), some (vI (((0 + (tn 0)) + (tn 1)) + (tn 2))), some (vI 3)], [vI (((0 + (tn 0)) + (tn 1)) + (tn 2))], (C, N))) (fun _ => rfl) ?_
          exact AR.retI rfl (by have y0 := hw.2.2.2.2.2 0; have y1 := hw.2.2.2.2.2 1; have y2 := hw.2.2.2.2.2 2; have y3 := hw.2.2.2.2.2 3; omega) ⟨rfl, .inl rfl⟩ rfl
        · show AR E d _ (15, [some (vA m), some (vI (((0 + (tn 0)) + (tn 1)) + (tn 2))), some (vI 3)], [], (C, N)) _
          refine AR.blk 4 (f' := (19, [some (vA m), some (vI (((0 + (tn 0)) + (tn 1)) + (tn 2))), some (vI 3)], [vI 3, vI 3, vA m, vI (((0 + (tn 0)) + (tn 1)) + (tn 2))], (C, N))) (fun _ => rfl) ?_
          refine AR.callV [vI 3, vI 3] (ev_X7_ofLock (by omega) hm 3 3 (by omega) (tn 3) (hr.2.2.2 _ (by omega) (by omega)).2) hm.1 rfl rfl rfl rfl rfl ?_
          show AR E d _ (22, [some (vA m), some (vI (((0 + (tn 0)) + (tn 1)) + (tn 2))), some (vI 3)], [vI (tn 3), vI (((0 + (tn 0)) + (tn 1)) + (tn 2))], (C, N)) _
          have f12 := hw.2.2.2.2.1 3
          refine AR.blk 6 (f' := (6, [some (vA m), some (vI ((((0 + (tn 0)) + (tn 1)) + (tn 2)) + (tn 3))), some (vI 4)], [vA m, vI 4], (C, N))) (fun _ => rfl) ?_
          refine AR.getR rfl rfl hm.1 (by decide) rfl ?_
          refine AR.blk 1 (f' := (11, [some (vA m), some (vI ((((0 + (tn 0)) + (tn 1)) + (tn 2)) + (tn 3))), some (vI 4)], [vI 14, vA (m + 1), vI 4], (C, N))) (fun _ => rfl) ?_
          have f13 := hw.2.2.1
          refine AR.iald rfl hm.2.1 (by omega) (v := n) hr.2.1 ?_
          refine AR.ic_ge rfl (by omega) (fun c14 => ?_) (fun c14 => ?_)
          · show AR E d _ (30, [some (vA m), some (vI ((((0 + (tn 0)) + (tn 1)) + (tn 2)) + (tn 3))), some (vI 4)], [], (C, N)) _
            refine AR.blk 1 (f' := (31, [some (vA m), some (vI ((((0 + (tn 0)) + (tn 1)) + (tn 2)) + (tn 3))), some (vI 4)], [vI ((((0 + (tn 0)) + (tn 1)) + (tn 2)) + (tn 3))], (C, N))) (fun _ => rfl) ?_
            exact AR.retI rfl (by have y0 := hw.2.2.2.2.2 0; have y1 := hw.2.2.2.2.2 1; have y2 := hw.2.2.2.2.2 2; have y3 := hw.2.2.2.2.2 3; omega) ⟨rfl, .inl rfl⟩ rfl
          · show AR E d _ (15, [some (vA m), some (vI ((((0 + (tn 0)) + (tn 1)) + (tn 2)) + (tn 3))), some (vI 4)], [], (C, N)) _
            exact False.elim (by omega)

theorem ev_X7_moveAt {d : Nat} (hd : 6 ≤ d) (hm : g_isM C m) (hr : g_rR (N (m + 1)) P n q p cl tn) (hw : g_wB P n q p cl tn) (hs : g_rS (N (m + 1)) t bg en ca gn pu mk) (hv : g_wS t bg en ca gn pu mk) (w : Int) (h0 : ag_in w) : Ev E d 147 [vA m, vI w] (C, N) (some (vI (m_pk (m_open P n q cl t bg en) w 144 0 0)), (C, N)) := by
  obtain ⟨d, rfl⟩ : ∃ j, d = j + 1 := ⟨d - 1, by omega⟩
  refine Ev.intro (M := ag_mX7_moveAt) rfl rfl ?_
  show AR E d _ (0, [some (vA m), some (vI w), none, none], [], (C, N)) _
  refine AR.blk 4 (f' := (4, [some (vA m), some (vI w), some (vI 0), some (vI 0)], [], (C, N))) (fun _ => rfl) ?_
  suffices H4 : ∀ (j : Nat) (k : Int) (c : Int), (144 - k).toNat < j → (0 ≤ k ∧ k ≤ 144 ∧ 0 ≤ c ∧ c ≤ k) → (m_pk (m_open P n q cl t bg en) w (144 - k).toNat k c = m_pk (m_open P n q cl t bg en) w 144 0 0) → AR E d ag_mX7_moveAt (4, [some (vA m), some (vI w), some (vI c), some (vI k)], [], (C, N)) (fun o_ => o_ = (some (vI (m_pk (m_open P n q cl t bg en) w 144 0 0)), (C, N))) by
    exact H4 _ _ _ (Nat.lt_succ_self _) (by omega) rfl
  intro j
  induction j with
  | zero => intro k c hj; exact absurd hj (Nat.not_lt_zero _)
  | succ j ih4 =>
    intro k c hj4 i0 i1
    have z6 : 4 * (k / 4) + k % 4 = k := by omega
    have z7 := fun hk => m_pkS _ _ _ _ _ hk i1
    refine AR.blk 2 (f' := (8, [some (vA m), some (vI w), some (vI c), some (vI k)], [vI 144, vI k], (C, N))) (fun _ => rfl) ?_
    refine AR.ic_ge rfl (by omega) (fun c1 => ?_) (fun c1 => ?_)
    · show AR E d _ (43, [some (vA m), some (vI w), some (vI c), some (vI k)], [], (C, N)) _
      refine AR.blk 1 (f' := (44, [some (vA m), some (vI w), some (vI c), some (vI k)], [vI (-1)], (C, N))) (fun _ => rfl) ?_
      exact AR.retI rfl (by rw [z6] at *; first | exact (z7 (by omega)).1 (by omega) (by omega) | (rw [show k = 144 by omega] at i1; exact i1)) ⟨rfl, .inl rfl⟩ rfl
    · show AR E d _ (11, [some (vA m), some (vI w), some (vI c), some (vI k)], [], (C, N)) _
      refine AR.blk 3 (f' := (14, [some (vA m), some (vI w), some (vI c), some (vI k)], [vI 4, vI k, vA m], (C, N))) (fun _ => rfl) ?_
      refine AR.idiv rfl (by omega) ?_
      refine AR.blk 2 (f' := (17, [some (vA m), some (vI w), some (vI c), some (vI k)], [vI 4, vI k, vI (k / 4), vA m], (C, N))) (fun _ => rfl) ?_
      refine AR.irem rfl (by omega) ?_
      refine AR.callV [vI (k / 4), vI (k % 4)] (ev_X7_isMove (by omega) hm hr hw hs hv (k / 4) (k % 4) (by omega) (by omega)) hm.1 rfl rfl rfl rfl rfl ?_
      show AR E d _ (21, [some (vA m), some (vI w), some (vI c), some (vI k)], [vI (m_open P n q cl t bg en (4 * (k / 4) + (k % 4)))], (C, N)) _
      have f2 := m_open_in P n q cl t bg en (4 * (k / 4) + (k % 4))
      refine AR.if_ne rfl (by omega) (fun c3 => ?_) (fun c3 => ?_)
      · show AR E d _ (27, [some (vA m), some (vI w), some (vI c), some (vI k)], [], (C, N)) _
        refine AR.blk 2 (f' := (29, [some (vA m), some (vI w), some (vI c), some (vI k)], [vI w, vI c], (C, N))) (fun _ => rfl) ?_
        refine AR.ic_ne rfl (by omega) (fun c4 => ?_) (fun c4 => ?_)
        · show AR E d _ (34, [some (vA m), some (vI w), some (vI c), some (vI k)], [], (C, N)) _
          refine AR.blk 3 (f' := (4, [some (vA m), some (vI w), some (vI (c + 1)), some (vI (k + 1))], [], (C, N))) (fun _ => rfl) ?_
          exact ih4 _ _ (by omega) (by omega) (by rw [z6] at *; first | exact (z7 (by omega)).2.1 (by omega) (by omega) | exact (z7 (by omega)).2.2 (by omega))
        · show AR E d _ (32, [some (vA m), some (vI w), some (vI c), some (vI k)], [], (C, N)) _
          refine AR.blk 1 (f' := (33, [some (vA m), some (vI w), some (vI c), some (vI k)], [vI k], (C, N))) (fun _ => rfl) ?_
          exact AR.retI rfl (by rw [z6] at *; first | exact (z7 (by omega)).1 (by omega) (by omega) | (rw [show k = 144 by omega] at i1; exact i1)) ⟨rfl, .inl rfl⟩ rfl
      · show AR E d _ (24, [some (vA m), some (vI w), some (vI c), some (vI k)], [], (C, N)) _
        refine AR.blk 3 (f' := (4, [some (vA m), some (vI w), some (vI c), some (vI (k + 1))], [], (C, N))) (fun _ => rfl) ?_
        exact ih4 _ _ (by omega) (by omega) (by rw [z6] at *; first | exact (z7 (by omega)).2.1 (by omega) (by omega) | exact (z7 (by omega)).2.2 (by omega))

-- firstTake

theorem ev_X7_firstTake {d : Nat} (hd : 6 ≤ d) (hm : g_isM C m) (hr : g_rR (N (m + 1)) P n q p cl tn) (hw : g_wB P n q p cl tn) (hs : g_rS (N (m + 1)) t bg en ca gn pu mk) (hv : g_wS t bg en ca gn pu mk) : Ev E d 152 [vA m] (C, N) (some (vI (m_fst (m_ft P n q cl t bg en) 144 0)), (C, N)) := by
  obtain ⟨d, rfl⟩ : ∃ j, d = j + 1 := ⟨d - 1, by omega⟩
  refine Ev.intro (M := ag_mX7_firstTake) rfl rfl ?_
  show AR E d _ (0, [some (vA m), none], [], (C, N)) _
  refine AR.blk 2 (f' := (2, [some (vA m), some (vI 0)], [], (C, N))) (fun _ => rfl) ?_
  suffices H2 : ∀ (j : Nat) (k : Int), (144 - k).toNat < j → (0 ≤ k ∧ k ≤ 144) → (m_fst (m_ft P n q cl t bg en) (144 - k).toNat k = m_fst (m_ft P n q cl t bg en) 144 0) → AR E d ag_mX7_firstTake (2, [some (vA m), some (vI k)], [], (C, N)) (fun o_ => o_ = (some (vI (m_fst (m_ft P n q cl t bg en) 144 0)), (C, N))) by
    exact H2 _ _ (Nat.lt_succ_self _) (by omega) rfl
  intro j
  induction j with
  | zero => intro k hj; exact absurd hj (Nat.not_lt_zero _)
  | succ j ih2 =>
    intro k hj2 i0 i1
    have z6 : 4 * (k / 4) + k % 4 = k := by omega
    have z7 := fun hk => m_fstS _ _ _ hk i1
    refine AR.blk 2 (f' := (6, [some (vA m), some (vI k)], [vI 144, vI k], (C, N))) (fun _ => rfl) ?_
    refine AR.ic_ge rfl (by omega) (fun c1 => ?_) (fun c1 => ?_)
    · show AR E d _ (43, [some (vA m), some (vI k)], [], (C, N)) _
      refine AR.blk 1 (f' := (45, [some (vA m), some (vI k)], [vI (-4)], (C, N))) (fun _ => rfl) ?_
      exact AR.retI rfl (by rw [z6] at *; first | exact (z7 (by omega)).1 (by unfold m_ft; omega) | (rw [show k = 144 by omega] at i1; exact i1)) ⟨rfl, .inl rfl⟩ rfl
    · show AR E d _ (9, [some (vA m), some (vI k)], [], (C, N)) _
      refine AR.blk 3 (f' := (12, [some (vA m), some (vI k)], [vI 4, vI k, vA m], (C, N))) (fun _ => rfl) ?_
      refine AR.idiv rfl (by omega) ?_
      refine AR.blk 2 (f' := (15, [some (vA m), some (vI k)], [vI 4, vI k, vI (k / 4), vA m], (C, N))) (fun _ => rfl) ?_
      refine AR.irem rfl (by omega) ?_
      refine AR.callV [vI (k / 4), vI (k % 4)] (ev_X7_isMove (by omega) hm hr hw hs hv (k / 4) (k % 4) (by omega) (by omega)) hm.1 rfl rfl rfl rfl rfl ?_
      show AR E d _ (19, [some (vA m), some (vI k)], [vI (m_open P n q cl t bg en (4 * (k / 4) + (k % 4)))], (C, N)) _
      have f2 := m_open_in P n q cl t bg en (4 * (k / 4) + (k % 4))
      refine AR.if_eq rfl (by omega) (fun c3 => ?_) (fun c3 => ?_)
      · show AR E d _ (37, [some (vA m), some (vI k)], [], (C, N)) _
        refine AR.blk 2 (f' := (2, [some (vA m), some (vI (k + 1))], [], (C, N))) (fun _ => rfl) ?_
        exact ih2 _ (by omega) (by omega) (by rw [z6] at *; exact (z7 (by omega)).2 (by unfold m_ft; omega))
      · show AR E d _ (22, [some (vA m), some (vI k)], [], (C, N)) _
        refine AR.blk 3 (f' := (25, [some (vA m), some (vI k)], [vI 4, vI k, vA m], (C, N))) (fun _ => rfl) ?_
        refine AR.idiv rfl (by omega) ?_
        refine AR.blk 2 (f' := (28, [some (vA m), some (vI k)], [vI 4, vI k, vI (k / 4), vA m], (C, N))) (fun _ => rfl) ?_
        refine AR.irem rfl (by omega) ?_
        refine AR.callV [vI (k / 4), vI (k % 4)] (ev_X7_isTake (by omega) hm hr hw hs hv (k / 4) (k % 4) (by omega) (by omega)) hm.1 rfl rfl rfl rfl rfl ?_
        show AR E d _ (32, [some (vA m), some (vI k)], [vI (m_take P t (k / 4) (k % 4))], (C, N)) _
        have f4 := (show m_take P t (k / 4) (k % 4) = 0 ∨ m_take P t (k / 4) (k % 4) = 1 by unfold m_take; omega)
        refine AR.if_eq rfl (by omega) (fun c5 => ?_) (fun c5 => ?_)
        · show AR E d _ (37, [some (vA m), some (vI k)], [], (C, N)) _
          refine AR.blk 2 (f' := (2, [some (vA m), some (vI (k + 1))], [], (C, N))) (fun _ => rfl) ?_
          exact ih2 _ (by omega) (by omega) (by rw [z6] at *; exact (z7 (by omega)).2 (by unfold m_ft; omega))
        · show AR E d _ (35, [some (vA m), some (vI k)], [], (C, N)) _
          refine AR.blk 1 (f' := (36, [some (vA m), some (vI k)], [vI k], (C, N))) (fun _ => rfl) ?_
          exact AR.retI rfl (by rw [z6] at *; first | exact (z7 (by omega)).1 (by unfold m_ft; omega) | (rw [show k = 144 by omega] at i1; exact i1)) ⟨rfl, .inl rfl⟩ rfl
end L2d
end
section
/-! LEVEL 2: positions -/
def m_hk (P : Int → Int) (a : Int) : Nat → Int
  | 0 => 0
  | k + 1 => m_hk P a k * 8 + P (a + k) + 1
theorem m_hk_in (P : Int → Int) (h : ∀ s, -1 ≤ P s ∧ P s ≤ 3) (a : Int) : ∀ k : Nat, 0 ≤ m_hk P a k ∧ m_hk P a k < ((8 ^ k : Nat) : Int) := by
  intro k
  induction k with
  | zero => exact ⟨Int.le_refl 0, show (0 : Int) < ((8 ^ 0 : Nat) : Int) by decide⟩
  | succ k ih =>
    have := h (a + k)
    rw [Nat.pow_succ]
    show 0 ≤ m_hk P a k * 8 + P (a + k) + 1 ∧ m_hk P a k * 8 + P (a + k) + 1 < _
    omega
theorem m_hk_18 (P : Int → Int) (h : ∀ s, -1 ≤ P s ∧ P s ≤ 3) (a : Int) : 0 ≤ m_hk P a 18 ∧ m_hk P a 18 < 18014398509481984 := m_hk_in P h a 18
theorem m_hk_le (P : Int → Int) (h : ∀ s, -1 ≤ P s ∧ P s ≤ 3) (a : Int) (k : Nat) (hk : k ≤ 18) : 0 ≤ m_hk P a k ∧ m_hk P a k < 18014398509481984 := by
  have h1 := m_hk_in P h a k
  have h2 : 8 ^ k ≤ 8 ^ 18 := Nat.pow_le_pow_right (by omega) hk
  have h3 : (8 : Nat) ^ 18 = 18014398509481984 := by decide
  omega
theorem m_hk_inj (P P' : Int → Int) (h : ∀ s, -1 ≤ P s ∧ P s ≤ 3) (h' : ∀ s, -1 ≤ P' s ∧ P' s ≤ 3) (a : Int) : ∀ k : Nat, m_hk P a k = m_hk P' a k → ∀ i : Nat, i < k → P (a + i) = P' (a + i) := by
  intro k
  induction k with
  | zero => intro _ i hi; omega
  | succ k ih =>
    intro he i hi
    have h1 := h (a + k)
    have h2 := h' (a + k)
    have e : m_hk P a k * 8 + P (a + k) + 1 = m_hk P' a k * 8 + P' (a + k) + 1 := he
    have e1 : m_hk P a k = m_hk P' a k := by omega
    by_cases q : i = k
    · subst q; omega
    · exact ih e1 i (by omega)
theorem m_hk_S (P : Int → Int) (a k : Int) (h : a ≤ k) : m_hk P a (k + 1 - a).toNat = m_hk P a (k - a).toNat * 8 + P k + 1 := by
  rw [show (k + 1 - a).toNat = (k - a).toNat + 1 by omega]
  show m_hk P a (k - a).toNat * 8 + P (a + ((k - a).toNat : Nat)) + 1 = _
  rw [show a + (((k - a).toNat : Nat) : Int) = k by omega]
def m_ckey (cl : Int → Int) : Int := ((cl 0 * 2 + cl 1) * 2 + cl 2) * 2 + cl 3
def m_key (P cl : Int → Int) (w : Int) : Int × Int := (m_hk P 0 18, m_hk P 18 18 * 32 + (m_ckey cl * 2 + w))
/-! histories: the latest first -/
def m_ct (x : Int × Int) : List (Int × Int) → Int
  | [] => 0
  | y :: r => (if y.1 = x.1 ∧ y.2 = x.2 then 1 else 0) + m_ct x r
def m_hs (lo hi : Int → Int) : Nat → List (Int × Int)
  | 0 => []
  | k + 1 => (lo k, hi k) :: m_hs lo hi k
def m_tl (H : List (Int × Int)) : Int := match H with
  | [] => 0
  | x :: r => m_ct x (x :: r)
def m_max : List (Int × Int) → Int
  | [] => 0
  | x :: r => if m_max r < m_ct x (x :: r) then m_ct x (x :: r) else m_max r
def m_diff : List (Int × Int) → Int
  | [] => 0
  | x :: r => m_diff r + (if m_ct x (x :: r) = 1 then 1 else 0)
theorem m_ct_in (x : Int × Int) : ∀ H : List (Int × Int), 0 ≤ m_ct x H ∧ m_ct x H ≤ H.length := by
  intro H
  induction H with
  | nil => exact ⟨Int.le_refl 0, Int.le_refl 0⟩
  | cons y r ih =>
    show 0 ≤ (if y.1 = x.1 ∧ y.2 = x.2 then 1 else 0) + m_ct x r ∧ (if y.1 = x.1 ∧ y.2 = x.2 then 1 else 0) + m_ct x r ≤ ((y :: r).length : Int)
    rw [List.length_cons]
    omega
theorem m_tl_in (H : List (Int × Int)) : 0 ≤ m_tl H ∧ m_tl H ≤ H.length := by
  cases H with
  | nil => exact ⟨Int.le_refl 0, Int.le_refl 0⟩
  | cons x r => exact m_ct_in x (x :: r)
theorem m_max_in : ∀ H : List (Int × Int), 0 ≤ m_max H ∧ m_max H ≤ H.length := by
  intro H
  induction H with
  | nil => exact ⟨Int.le_refl 0, Int.le_refl 0⟩
  | cons x r ih =>
    have := m_ct_in x (x :: r)
    show 0 ≤ (if m_max r < m_ct x (x :: r) then m_ct x (x :: r) else m_max r) ∧ (if m_max r < m_ct x (x :: r) then m_ct x (x :: r) else m_max r) ≤ ((x :: r).length : Int)
    rw [List.length_cons] at *
    omega
theorem m_diff_in : ∀ H : List (Int × Int), 0 ≤ m_diff H ∧ m_diff H ≤ H.length := by
  intro H
  induction H with
  | nil => exact ⟨Int.le_refl 0, Int.le_refl 0⟩
  | cons x r ih =>
    show 0 ≤ m_diff r + (if m_ct x (x :: r) = 1 then 1 else 0) ∧ m_diff r + (if m_ct x (x :: r) = 1 then 1 else 0) ≤ ((x :: r).length : Int)
    rw [List.length_cons]
    omega
theorem m_hs_len (lo hi : Int → Int) : ∀ n : Nat, (m_hs lo hi n).length = n := by
  intro n
  induction n with
  | zero => rfl
  | succ n ih => show (m_hs lo hi n).length + 1 = n + 1; rw [ih]
theorem m_hs_mem (lo hi : Int → Int) : ∀ (n k : Nat), k < n → (lo k, hi k) ∈ m_hs lo hi n := by
  intro n
  induction n with
  | zero => intro k hk; omega
  | succ n ih =>
    intro k hk
    by_cases q : k = n
    · subst q; exact List.mem_cons_self
    · exact List.mem_cons_of_mem _ (ih k (by omega))
theorem m_hs_S (lo hi : Int → Int) (k : Int) (h : 0 ≤ k) : m_hs lo hi (k + 1).toNat = (lo k, hi k) :: m_hs lo hi k.toNat := by
  rw [show (k + 1).toNat = k.toNat + 1 by omega]
  show (lo (k.toNat : Nat), hi (k.toNat : Nat)) :: m_hs lo hi k.toNat = _
  rw [show ((k.toNat : Nat) : Int) = k by omega]
def g_isH (C : List ag_C) (h : Nat) : Prop := C[h]? = some (2, 3, [none, some (h + 1), some (h + 2)]) ∧ C[h + 1]? = some (11, 121, []) ∧ C[h + 2]? = some (11, 121, [])
def g_rH (N : Nat → Int → Int) (h : Nat) (H : List (Int × Int)) : Prop := N h 0 = H.length ∧ m_hs (N (h + 1)) (N (h + 2)) H.length = H
def g_wH (H : List (Int × Int)) : Prop := H.length ≤ 121 ∧ ∀ x, x ∈ H → ag_inL x.1 ∧ ag_inL x.2
theorem m_hsb {N : Nat → Int → Int} {h : Nat} {H : List (Int × Int)} (hr : g_rH N h H) (hw : g_wH H) (k : Int) (hk : 0 ≤ k ∧ k < H.length) : ag_inL (N (h + 1) k) ∧ ag_inL (N (h + 2) k) := by
  have h1 := m_hs_mem (N (h + 1)) (N (h + 2)) H.length k.toNat (by omega)
  rw [hr.2] at h1
  have h2 := hw.2 _ h1
  rw [show ((k.toNat : Nat) : Int) = k by omega] at h2
  exact h2
def m_tu (lo hi : Int → Int) (k : Int) : Int := m_ct (lo k, hi k) (m_hs lo hi (k + 1).toNat)
section L2e
variable {E : Nat × (Int → Int)} {C : List ag_C} {N : Nat → Int → Int} {b : Nat} {P : Int → Int} {n : Int} {q p cl tn : Int → Int} {h : Nat} {H : List (Int × Int)}

theorem m_tl_of {N : Nat → Int → Int} {h : Nat} {H : List (Int × Int)} (hr : g_rH N h H) : m_tu (N (h + 1)) (N (h + 2)) ((H.length : Int) - 1) = m_tl H := by
  cases H with
  | nil => rfl
  | cons x r =>
    have h2 : (N (h + 1) (r.length : Nat), N (h + 2) (r.length : Nat)) :: m_hs (N (h + 1)) (N (h + 2)) r.length = x :: r := hr.2
    have h3 := (List.cons.inj h2).1
    have e : (((x :: r).length : Nat) : Int) - 1 = (r.length : Int) := by rw [List.length_cons]; omega
    rw [e]
    show m_ct (N (h + 1) (r.length : Nat), N (h + 2) (r.length : Nat)) (m_hs (N (h + 1)) (N (h + 2)) ((r.length : Int) + 1).toNat) = m_ct x (x :: r)
    rw [show ((r.length : Int) + 1).toNat = r.length + 1 by omega, h3]
    exact congrArg (m_ct x) hr.2

theorem m_ckey_in (cl : Int → Int) (h : ∀ k, (cl k = 0 ∨ cl k = 1)) : 0 ≤ m_ckey cl ∧ m_ckey cl < 16 := by
  have h0 := h 0
  have h1 := h 1
  have h2 := h 2
  have h3 := h 3
  unfold m_ckey
  omega

theorem ev_X0_halfKey {d : Nat} (hd : 2 ≤ d) (hb : g_isB C b) (hr : g_rB N b P n q p cl tn) (hw : g_wB P n q p cl tn) (a : Int) (h0 : a = 0 ∨ a = 18) : Ev E d 24 [vA b, vI a] (C, N) (some (vJ (m_hk P a 18)), (C, N)) := by
  obtain ⟨d, rfl⟩ : ∃ j, d = j + 1 := ⟨d - 1, by omega⟩
  refine Ev.intro (M := ag_mX0_halfKey) rfl rfl ?_
  show AR E d _ (0, [some (vA b), some (vI a), none, none, none], [], (C, N)) _
  refine AR.blk 4 (f' := (5, [some (vA b), some (vI a), some (vJ 0), none, some (vI a)], [], (C, N))) (fun _ => rfl) ?_
  suffices H5 : ∀ (j : Nat) (y : Int) (k : Int), (a + 18 - k).toNat < j → (a ≤ k ∧ k ≤ a + 18) → (y = m_hk P a (k - a).toNat) → AR E d ag_mX0_halfKey (5, [some (vA b), some (vI a), some (vJ y), none, some (vI k)], [], (C, N)) (fun o_ => o_ = (some (vJ (m_hk P a 18)), (C, N))) by
    exact H5 _ _ _ (Nat.lt_succ_self _) (by omega) (by rw [Int.sub_self]; rfl)
  intro j
  induction j with
  | zero => intro y k hj; exact absurd hj (Nat.not_lt_zero _)
  | succ j ih5 =>
    intro y k hj5 i0 i1
    have z0 := m_hk_le P hw.1 a (k - a).toNat (by omega)
    refine AR.blk 4 (f' := (11, [some (vA b), some (vI a), some (vJ y), none, some (vI k)], [vI (a + 18), vI k], (C, N))) (fun _ => rfl) ?_
    refine AR.ic_ge rfl (by omega) (fun c1 => ?_) (fun c1 => ?_)
    · show AR E d _ (36, [some (vA b), some (vI a), some (vJ y), none, some (vI k)], [], (C, N)) _
      refine AR.blk 1 (f' := (37, [some (vA b), some (vI a), some (vJ y), none, some (vI k)], [vJ y], (C, N))) (fun _ => rfl) ?_
      exact AR.retJ rfl (by rw [i1, show (k - a).toNat = 18 by omega]) rfl rfl
    · show AR E d _ (14, [some (vA b), some (vI a), some (vJ y), none, some (vI k)], [], (C, N)) _
      refine AR.blk 5 (f' := (22, [some (vA b), some (vI a), some (vJ y), none, some (vI k)], [vI k, vA b, vJ (y * 8)], (C, N))) (fun _ => rfl) ?_
      refine AR.callV [vI k] (ev_X0_pieceAt (by omega) hb hr hw k (by omega)) hb.1 rfl rfl rfl rfl rfl ?_
      show AR E d _ (25, [some (vA b), some (vI a), some (vJ y), none, some (vI k)], [vI (P k), vJ (y * 8)], (C, N)) _
      have f2 := hw.1 k
      refine AR.i2l rfl (by omega) ?_
      refine AR.blk 6 (f' := (5, [some (vA b), some (vI a), some (vJ (((y * 8) + (P k)) + 1)), none, some (vI (k + 1))], [], (C, N))) (fun _ => rfl) ?_
      exact ih5 _ _ (by omega) (by omega) (by rw [m_hk_S P a k (by omega), ← i1])

theorem ev_X0_closedKey {d : Nat} (hd : 1 ≤ d) (hb : g_isB C b) (hr : g_rB N b P n q p cl tn) (hw : g_wB P n q p cl tn) : Ev E d 25 [vA b] (C, N) (some (vI (m_ckey cl)), (C, N)) := by
  obtain ⟨d, rfl⟩ : ∃ j, d = j + 1 := ⟨d - 1, by omega⟩
  refine Ev.intro (M := ag_mX0_closedKey) rfl rfl ?_
  show AR E d _ (0, [some (vA b), none, none], [], (C, N)) _
  refine AR.blk 6 (f' := (6, [some (vA b), some (vI 0), some (vI 0)], [vI 4, vI 0], (C, N))) (fun _ => rfl) ?_
  refine AR.blk 5 (f' := (13, [some (vA b), some (vI 0), some (vI 0)], [vA b, vI 0], (C, N))) (fun _ => rfl) ?_
  refine AR.getR rfl rfl hb.1 (by decide) rfl ?_
  refine AR.blk 1 (f' := (17, [some (vA b), some (vI 0), some (vI 0)], [vI 0, vA (b + 4), vI 0], (C, N))) (fun _ => rfl) ?_
  have f1 := hw.2.2.2.2.1 0
  refine AR.zald rfl hb.2.2.2.2.1 (by omega) (v := cl 0) (hr.2.2.2 _ (by omega) (by omega)).1 ?_
  refine AR.if_eq rfl (by omega) (fun c2 => ?_) (fun c2 => ?_)
  · show AR E d _ (25, [some (vA b), some (vI 0), some (vI 0)], [vI 0], (C, N)) _
    refine AR.blk 7 (f' := (6, [some (vA b), some (vI 0), some (vI 1)], [vI 4, vI 1], (C, N))) (fun _ => rfl) ?_
    refine AR.blk 5 (f' := (13, [some (vA b), some (vI 0), some (vI 1)], [vA b, vI 0], (C, N))) (fun _ => rfl) ?_
    refine AR.getR rfl rfl hb.1 (by decide) rfl ?_
    refine AR.blk 1 (f' := (17, [some (vA b), some (vI 0), some (vI 1)], [vI 1, vA (b + 4), vI 0], (C, N))) (fun _ => rfl) ?_
    have f3 := hw.2.2.2.2.1 1
    refine AR.zald rfl hb.2.2.2.2.1 (by omega) (v := cl 1) (hr.2.2.2 _ (by omega) (by omega)).1 ?_
    refine AR.if_eq rfl (by omega) (fun c4 => ?_) (fun c4 => ?_)
    · show AR E d _ (25, [some (vA b), some (vI 0), some (vI 1)], [vI 0], (C, N)) _
      refine AR.blk 7 (f' := (6, [some (vA b), some (vI 0), some (vI 2)], [vI 4, vI 2], (C, N))) (fun _ => rfl) ?_
      refine AR.blk 5 (f' := (13, [some (vA b), some (vI 0), some (vI 2)], [vA b, vI 0], (C, N))) (fun _ => rfl) ?_
      refine AR.getR rfl rfl hb.1 (by decide) rfl ?_
      refine AR.blk 1 (f' := (17, [some (vA b), some (vI 0), some (vI 2)], [vI 2, vA (b + 4), vI 0], (C, N))) (fun _ => rfl) ?_
      have f5 := hw.2.2.2.2.1 2
      refine AR.zald rfl hb.2.2.2.2.1 (by omega) (v := cl 2) (hr.2.2.2 _ (by omega) (by omega)).1 ?_
      refine AR.if_eq rfl (by omega) (fun c6 => ?_) (fun c6 => ?_)
      · show AR E d _ (25, [some (vA b), some (vI 0), some (vI 2)], [vI 0], (C, N)) _
        refine AR.blk 7 (f' := (6, [some (vA b), some (vI 0), some (vI 3)], [vI 4, vI 3], (C, N))) (fun _ => rfl) ?_
        refine AR.blk 5 (f' := (13, [some (vA b), some (vI 0), some (vI 3)], [vA b, vI 0], (C, N))) (fun _ => rfl) ?_
        refine AR.getR rfl rfl hb.1 (by decide) rfl ?_
        refine AR.blk 1 (f' := (17, [some (vA b), some (vI 0), some (vI 3)], [vI 3, vA (b + 4), vI 0], (C, N))) (fun _ => rfl) ?_
        have f7 := hw.2.2.2.2.1 3
        refine AR.zald rfl hb.2.2.2.2.1 (by omega) (v := cl 3) (hr.2.2.2 _ (by omega) (by omega)).1 ?_
        refine AR.if_eq rfl (by omega) (fun c8 => ?_) (fun c8 => ?_)
        · show AR E d _ (25, [some (vA b), some (vI 0), some (vI 3)], [vI 0], (C, N)) _
          refine AR.blk 7 (f' := (6, [some (vA b), some (vI 0), some (vI 4)], [vI 4, vI 4], (C, N))) (fun _ => rfl) ?_
          refine AR.blk 2 (f' := (35, [some (vA b), some (vI 0), some (vI 4)], [vI 0], (C, N))) (fun _ => rfl) ?_
          exact AR.retI rfl (by unfold m_ckey; omega) ⟨rfl, .inl rfl⟩ rfl
        · show AR E d _ (21, [some (vA b), some (vI 0), some (vI 3)], [vI 0], (C, N)) _
          refine AR.blk 8 (f' := (6, [some (vA b), some (vI 1), some (vI 4)], [vI 4, vI 4], (C, N))) (fun _ => rfl) ?_
          refine AR.blk 2 (f' := (35, [some (vA b), some (vI 1), some (vI 4)], [vI 1], (C, N))) (fun _ => rfl) ?_
          exact AR.retI rfl (by unfold m_ckey; omega) ⟨rfl, .inl rfl⟩ rfl
      · show AR E d _ (21, [some (vA b), some (vI 0), some (vI 2)], [vI 0], (C, N)) _
        refine AR.blk 8 (f' := (6, [some (vA b), some (vI 1), some (vI 3)], [vI 4, vI 3], (C, N))) (fun _ => rfl) ?_
        refine AR.blk 5 (f' := (13, [some (vA b), some (vI 1), some (vI 3)], [vA b, vI 2], (C, N))) (fun _ => rfl) ?_
        refine AR.getR rfl rfl hb.1 (by decide) rfl ?_
        refine AR.blk 1 (f' := (17, [some (vA b), some (vI 1), some (vI 3)], [vI 3, vA (b + 4), vI 2], (C, N))) (fun _ => rfl) ?_
        have f9 := hw.2.2.2.2.1 3
        refine AR.zald rfl hb.2.2.2.2.1 (by omega) (v := cl 3) (hr.2.2.2 _ (by omega) (by omega)).1 ?_
        refine AR.if_eq rfl (by omega) (fun c10 => ?_) (fun c10 => ?_)
        · show AR E d _ (25, [some (vA b), some (vI 1), some (vI 3)], [vI 2], (C, N)) _
          refine AR.blk 7 (f' := (6, [some (vA b), some (vI 2), some (vI 4)], [vI 4, vI 4], (C, N))) (fun _ => rfl) ?_
          refine AR.blk 2 (f' := (35, [some (vA b), some (vI 2), some (vI 4)], [vI 2], (C, N))) (fun _ => rfl) ?_
          exact AR.retI rfl (by unfold m_ckey; omega) ⟨rfl, .inl rfl⟩ rfl
        · show AR E d _ (21, [some (vA b), some (vI 1), some (vI 3)], [vI 2], (C, N)) _
          refine AR.blk 8 (f' := (6, [some (vA b), some (vI 3), some (vI 4)], [vI 4, vI 4], (C, N))) (fun _ => rfl) ?_
          refine AR.blk 2 (f' := (35, [some (vA b), some (vI 3), some (vI 4)], [vI 3], (C, N))) (fun _ => rfl) ?_
          exact AR.retI rfl (by unfold m_ckey; omega) ⟨rfl, .inl rfl⟩ rfl
    · show AR E d _ (21, [some (vA b), some (vI 0), some (vI 1)], [vI 0], (C, N)) _
      refine AR.blk 8 (f' := (6, [some (vA b), some (vI 1), some (vI 2)], [vI 4, vI 2], (C, N))) (fun _ => rfl) ?_
      refine AR.blk 5 (f' := (13, [some (vA b), some (vI 1), some (vI 2)], [vA b, vI 2], (C, N))) (fun _ => rfl) ?_
      refine AR.getR rfl rfl hb.1 (by decide) rfl ?_
      refine AR.blk 1 (f' := (17, [some (vA b), some (vI 1), some (vI 2)], [vI 2, vA (b + 4), vI 2], (C, N))) (fun _ => rfl) ?_
      have f11 := hw.2.2.2.2.1 2
      refine AR.zald rfl hb.2.2.2.2.1 (by omega) (v := cl 2) (hr.2.2.2 _ (by omega) (by omega)).1 ?_
      refine AR.if_eq rfl (by omega) (fun c12 => ?_) (fun c12 => ?_)
      · show AR E d _ (25, [some (vA b), some (vI 1), some (vI 2)], [vI 2], (C, N)) _
        refine AR.blk 7 (f' := (6, [some (vA b), some (vI 2), some (vI 3)], [vI 4, vI 3], (C, N))) (fun _ => rfl) ?_
        refine AR.blk 5 (f' := (13, [some (vA b), some (vI 2), some (vI 3)], [vA b, vI 4], (C, N))) (fun _ => rfl) ?_
        refine AR.getR rfl rfl hb.1 (by decide) rfl ?_
        refine AR.blk 1 (f' := (17, [some (vA b), some (vI 2), some (vI 3)], [vI 3, vA (b + 4), vI 4], (C, N))) (fun _ => rfl) ?_
        have f13 := hw.2.2.2.2.1 3
        refine AR.zald rfl hb.2.2.2.2.1 (by omega) (v := cl 3) (hr.2.2.2 _ (by omega) (by omega)).1 ?_
        refine AR.if_eq rfl (by omega) (fun c14 => ?_) (fun c14 => ?_)
        · show AR E d _ (25, [some (vA b), some (vI 2), some (vI 3)], [vI 4], (C, N)) _
          refine AR.blk 7 (f' := (6, [some (vA b), some (vI 4), some (vI 4)], [vI 4, vI 4], (C, N))) (fun _ => rfl) ?_
          refine AR.blk 2 (f' := (35, [some (vA b), some (vI 4), some (vI 4)], [vI 4], (C, N))) (fun _ => rfl) ?_
          exact AR.retI rfl (by unfold m_ckey; omega) ⟨rfl, .inl rfl⟩ rfl
        · show AR E d _ (21, [some (vA b), some (vI 2), some (vI 3)], [vI 4], (C, N)) _
          refine AR.blk 8 (f' := (6, [some (vA b), some (vI 5), some (vI 4)], [vI 4, vI 4], (C, N))) (fun _ => rfl) ?_
          refine AR.blk 2 (f' := (35, [some (vA b), some (vI 5), some (vI 4)], [vI 5], (C, N))) (fun _ => rfl) ?_
          exact AR.retI rfl (by unfold m_ckey; omega) ⟨rfl, .inl rfl⟩ rfl
      · show AR E d _ (21, [some (vA b), some (vI 1), some (vI 2)], [vI 2], (C, N)) _
        refine AR.blk 8 (f' := (6, [some (vA b), some (vI 3), some (vI 3)], [vI 4, vI 3], (C, N))) (fun _ => rfl) ?_
        refine AR.blk 5 (f' := (13, [some (vA b), some (vI 3), some (vI 3)], [vA b, vI 6], (C, N))) (fun _ => rfl) ?_
        refine AR.getR rfl rfl hb.1 (by decide) rfl ?_
        refine AR.blk 1 (f' := (17, [some (vA b), some (vI 3), some (vI 3)], [vI 3, vA (b + 4), vI 6], (C, N))) (fun _ => rfl) ?_
        have f15 := hw.2.2.2.2.1 3
        refine AR.zald rfl hb.2.2.2.2.1 (by omega) (v := cl 3) (hr.2.2.2 _ (by omega) (by omega)).1 ?_
        refine AR.if_eq rfl (by omega) (fun c16 => ?_) (fun c16 => ?_)
        · show AR E d _ (25, [some (vA b), some (vI 3), some (vI 3)], [vI 6], (C, N)) _
          refine AR.blk 7 (f' := (6, [some (vA b), some (vI 6), some (vI 4)], [vI 4, vI 4], (C, N))) (fun _ => rfl) ?_
          refine AR.blk 2 (f' := (35, [some (vA b), some (vI 6), some (vI 4)], [vI 6], (C, N))) (fun _ => rfl) ?_
          exact AR.retI rfl (by unfold m_ckey; omega) ⟨rfl, .inl rfl⟩ rfl
        · show AR E d _ (21, [some (vA b), some (vI 3), some (vI 3)], [vI 6], (C, N)) _
          refine AR.blk 8 (f' := (6, [some (vA b), some (vI 7), some (vI 4)], [vI 4, vI 4], (C, N))) (fun _ => rfl) ?_
          refine AR.blk 2 (f' := (35, [some (vA b), some (vI 7), some (vI 4)], [vI 7], (C, N))) (fun _ => rfl) ?_
          exact AR.retI rfl (by unfold m_ckey; omega) ⟨rfl, .inl rfl⟩ rfl
  · show AR E d _ (21, [some (vA b), some (vI 0), some (vI 0)], [vI 0], (C, N)) _
    refine AR.blk 8 (f' := (6, [some (vA b), some (vI 1), some (vI 1)], [vI 4, vI 1], (C, N))) (fun _ => rfl) ?_
    refine AR.blk 5 (f' := (13, [some (vA b), some (vI 1), some (vI 1)], [vA b, vI 2], (C, N))) (fun _ => rfl) ?_
    refine AR.getR rfl rfl hb.1 (by decide) rfl ?_
    refine AR.blk 1 (f' := (17, [some (vA b), some (vI 1), some (vI 1)], [vI 1, vA (b + 4), vI 2], (C, N))) (fun _ => rfl) ?_
    have f17 := hw.2.2.2.2.1 1
    refine AR.zald rfl hb.2.2.2.2.1 (by omega) (v := cl 1) (hr.2.2.2 _ (by omega) (by omega)).1 ?_
    refine AR.if_eq rfl (by omega) (fun c18 => ?_) (fun c18 => ?_)
    · show AR E d _ (25, [some (vA b), some (vI 1), some (vI 1)], [vI 2], (C, N)) _
      refine AR.blk 7 (f' := (6, [some (vA b), some (vI 2), some (vI 2)], [vI 4, vI 2], (C, N))) (fun _ => rfl) ?_
      refine AR.blk 5 (f' := (13, [some (vA b), some (vI 2), some (vI 2)], [vA b, vI 4], (C, N))) (fun _ => rfl) ?_
      refine AR.getR rfl rfl hb.1 (by decide) rfl ?_
      refine AR.blk 1 (f' := (17, [some (vA b), some (vI 2), some (vI 2)], [vI 2, vA (b + 4), vI 4], (C, N))) (fun _ => rfl) ?_
      have f19 := hw.2.2.2.2.1 2
      refine AR.zald rfl hb.2.2.2.2.1 (by omega) (v := cl 2) (hr.2.2.2 _ (by omega) (by omega)).1 ?_
      refine AR.if_eq rfl (by omega) (fun c20 => ?_) (fun c20 => ?_)
      · show AR E d _ (25, [some (vA b), some (vI 2), some (vI 2)], [vI 4], (C, N)) _
        refine AR.blk 7 (f' := (6, [some (vA b), some (vI 4), some (vI 3)], [vI 4, vI 3], (C, N))) (fun _ => rfl) ?_
        refine AR.blk 5 (f' := (13, [some (vA b), some (vI 4), some (vI 3)], [vA b, vI 8], (C, N))) (fun _ => rfl) ?_
        refine AR.getR rfl rfl hb.1 (by decide) rfl ?_
        refine AR.blk 1 (f' := (17, [some (vA b), some (vI 4), some (vI 3)], [vI 3, vA (b + 4), vI 8], (C, N))) (fun _ => rfl) ?_
        have f21 := hw.2.2.2.2.1 3
        refine AR.zald rfl hb.2.2.2.2.1 (by omega) (v := cl 3) (hr.2.2.2 _ (by omega) (by omega)).1 ?_
        refine AR.if_eq rfl (by omega) (fun c22 => ?_) (fun c22 => ?_)
        · show AR E d _ (25, [some (vA b), some (vI 4), some (vI 3)], [vI 8], (C, N)) _
          refine AR.blk 7 (f' := (6, [some (vA b), some (vI 8), some (vI 4)], [vI 4, vI 4], (C, N))) (fun _ => rfl) ?_
          refine AR.blk 2 (f' := (35, [some (vA b), some (vI 8), some (vI 4)], [vI 8], (C, N))) (fun _ => rfl) ?_
          exact AR.retI rfl (by unfold m_ckey; omega) ⟨rfl, .inl rfl⟩ rfl
        · show AR E d _ (21, [some (vA b), some (vI 4), some (vI 3)], [vI 8], (C, N)) _
          refine AR.blk 8 (f' := (6, [some (vA b), some (vI 9), some (vI 4)], [vI 4, vI 4], (C, N))) (fun _ => rfl) ?_
          refine AR.blk 2 (f' := (35, [some (vA b), some (vI 9), some (vI 4)], [vI 9], (C, N))) (fun _ => rfl) ?_
          exact AR.retI rfl (by unfold m_ckey; omega) ⟨rfl, .inl rfl⟩ rfl
      · show AR E d _ (21, [some (vA b), some (vI 2), some (vI 2)], [vI 4], (C, N)) _
        refine AR.blk 8 (f' := (6, [some (vA b), some (vI 5), some (vI 3)], [vI 4, vI 3], (C, N))) (fun _ => rfl) ?_
        refine AR.blk 5 (f' := (13, [some (vA b), some (vI 5), some (vI 3)], [vA b, vI 10], (C, N))) (fun _ => rfl) ?_
        refine AR.getR rfl rfl hb.1 (by decide) rfl ?_
        refine AR.blk 1 (f' := (17, [some (vA b), some (vI 5), some (vI 3)], [vI 3, vA (b + 4), vI 10], (C, N))) (fun _ => rfl) ?_
        have f23 := hw.2.2.2.2.1 3
        refine AR.zald rfl hb.2.2.2.2.1 (by omega) (v := cl 3) (hr.2.2.2 _ (by omega) (by omega)).1 ?_
        refine AR.if_eq rfl (by omega) (fun c24 => ?_) (fun c24 => ?_)
        · show AR E d _ (25, [some (vA b), some (vI 5), some (vI 3)], [vI 10], (C, N)) _
          refine AR.blk 7 (f' := (6, [some (vA b), some (vI 10), some (vI 4)], [vI 4, vI 4], (C, N))) (fun _ => rfl) ?_
          refine AR.blk 2 (f' := (35, [some (vA b), some (vI 10), some (vI 4)], [vI 10], (C, N))) (fun _ => rfl) ?_
          exact AR.retI rfl (by unfold m_ckey; omega) ⟨rfl, .inl rfl⟩ rfl
        · show AR E d _ (21, [some (vA b), some (vI 5), some (vI 3)], [vI 10], (C, N)) _
          refine AR.blk 8 (f' := (6, [some (vA b), some (vI 11), some (vI 4)], [vI 4, vI 4], (C, N))) (fun _ => rfl) ?_
          refine AR.blk 2 (f' := (35, [some (vA b), some (vI 11), some (vI 4)], [vI 11], (C, N))) (fun _ => rfl) ?_
          exact AR.retI rfl (by unfold m_ckey; omega) ⟨rfl, .inl rfl⟩ rfl
    · show AR E d _ (21, [some (vA b), some (vI 1), some (vI 1)], [vI 2], (C, N)) _
      refine AR.blk 8 (f' := (6, [some (vA b), some (vI 3), some (vI 2)], [vI 4, vI 2], (C, N))) (fun _ => rfl) ?_
      refine AR.blk 5 (f' := (13, [some (vA b), some (vI 3), some (vI 2)], [vA b, vI 6], (C, N))) (fun _ => rfl) ?_
      refine AR.getR rfl rfl hb.1 (by decide) rfl ?_
      refine AR.blk 1 (f' := (17, [some (vA b), some (vI 3), some (vI 2)], [vI 2, vA (b + 4), vI 6], (C, N))) (fun _ => rfl) ?_
      have f25 := hw.2.2.2.2.1 2
      refine AR.zald rfl hb.2.2.2.2.1 (by omega) (v := cl 2) (hr.2.2.2 _ (by omega) (by omega)).1 ?_
      refine AR.if_eq rfl (by omega) (fun c26 => ?_) (fun c26 => ?_)
      · show AR E d _ (25, [some (vA b), some (vI 3), some (vI 2)], [vI 6], (C, N)) _
        refine AR.blk 7 (f' := (6, [some (vA b), some (vI 6), some (vI 3)], [vI 4, vI 3], (C, N))) (fun _ => rfl) ?_
        refine AR.blk 5 (f' := (13, [some (vA b), some (vI 6), some (vI 3)], [vA b, vI 12], (C, N))) (fun _ => rfl) ?_
        refine AR.getR rfl rfl hb.1 (by decide) rfl ?_
        refine AR.blk 1 (f' := (17, [some (vA b), some (vI 6), some (vI 3)], [vI 3, vA (b + 4), vI 12], (C, N))) (fun _ => rfl) ?_
        have f27 := hw.2.2.2.2.1 3
        refine AR.zald rfl hb.2.2.2.2.1 (by omega) (v := cl 3) (hr.2.2.2 _ (by omega) (by omega)).1 ?_
        refine AR.if_eq rfl (by omega) (fun c28 => ?_) (fun c28 => ?_)
        · show AR E d _ (25, [some (vA b), some (vI 6), some (vI 3)], [vI 12], (C, N)) _
          refine AR.blk 7 (f' := (6, [some (vA b), some (vI 12), some (vI 4)], [vI 4, vI 4], (C, N))) (fun _ => rfl) ?_
          refine AR.blk 2 (f' := (35, [some (vA b), some (vI 12), some (vI 4)], [vI 12], (C, N))) (fun _ => rfl) ?_
          exact AR.retI rfl (by unfold m_ckey; omega) ⟨rfl, .inl rfl⟩ rfl
        · show AR E d _ (21, [some (vA b), some (vI 6), some (vI 3)], [vI 12], (C, N)) _
          refine AR.blk 8 (f' := (6, [some (vA b), some (vI 13), some (vI 4)], [vI 4, vI 4], (C, N))) (fun _ => rfl) ?_
          refine AR.blk 2 (f' := (35, [some (vA b), some (vI 13), some (vI 4)], [vI 13], (C, N))) (fun _ => rfl) ?_
          exact AR.retI rfl (by unfold m_ckey; omega) ⟨rfl, .inl rfl⟩ rfl
      · show AR E d _ (21, [some (vA b), some (vI 3), some (vI 2)], [vI 6], (C, N)) _
        refine AR.blk 8 (f' := (6, [some (vA b), some (vI 7), some (vI 3)], [vI 4, vI 3], (C, N))) (fun _ => rfl) ?_
        refine AR.blk 5 (f' := (13, [some (vA b), some (vI 7), some (vI 3)], [vA b, vI 14], (C, N))) (fun _ => rfl) ?_
        refine AR.getR rfl rfl hb.1 (by decide) rfl ?_
        refine AR.blk 1 (f' := (17, [some (vA b), some (vI 7), some (vI 3)], [vI 3, vA (b + 4), vI 14], (C, N))) (fun _ => rfl) ?_
        have f29 := hw.2.2.2.2.1 3
        refine AR.zald rfl hb.2.2.2.2.1 (by omega) (v := cl 3) (hr.2.2.2 _ (by omega) (by omega)).1 ?_
        refine AR.if_eq rfl (by omega) (fun c30 => ?_) (fun c30 => ?_)
        · show AR E d _ (25, [some (vA b), some (vI 7), some (vI 3)], [vI 14], (C, N)) _
          refine AR.blk 7 (f' := (6, [some (vA b), some (vI 14), some (vI 4)], [vI 4, vI 4], (C, N))) (fun _ => rfl) ?_
          refine AR.blk 2 (f' := (35, [some (vA b), some (vI 14), some (vI 4)], [vI 14], (C, N))) (fun _ => rfl) ?_
          exact AR.retI rfl (by unfold m_ckey; omega) ⟨rfl, .inl rfl⟩ rfl
        · show AR E d _ (21, [some (vA b), some (vI 7), some (vI 3)], [vI 14], (C, N)) _
          refine AR.blk 8 (f' := (6, [some (vA b), some (vI 15), some (vI 4)], [vI 4, vI 4], (C, N))) (fun _ => rfl) ?_
          refine AR.blk 2 (f' := (35, [some (vA b), some (vI 15), some (vI 4)], [vI 15], (C, N))) (fun _ => rfl) ?_
          exact AR.retI rfl (by unfold m_ckey; omega) ⟨rfl, .inl rfl⟩ rfl

theorem ev_X2_timesUpTo {d : Nat} (hd : 1 ≤ d) (hh : g_isH C h) (hr : g_rH N h H) (hw : g_wH H) (w : Int) (h0 : -1 ≤ w ∧ w < H.length) : Ev E d 42 [vA h, vI w] (C, N) (some (vI (m_tu (N (h + 1)) (N (h + 2)) w)), (C, N)) := by
  obtain ⟨d, rfl⟩ : ∃ j, d = j + 1 := ⟨d - 1, by omega⟩
  have f0 := hw.1
  refine Ev.intro (M := ag_mX2_timesUpTo) rfl rfl ?_
  show AR E d _ (0, [some (vA h), some (vI w), none, none], [], (C, N)) _
  refine AR.blk 4 (f' := (4, [some (vA h), some (vI w), some (vI 0), some (vI 0)], [], (C, N))) (fun _ => rfl) ?_
  suffices H4 : ∀ (j : Nat) (c : Int) (k : Int), (w + 1 - k).toNat < j → (0 ≤ k ∧ k ≤ w + 1 ∧ 0 ≤ c ∧ c ≤ k) → (c = m_ct (N (h + 1) w, N (h + 2) w) (m_hs (N (h + 1)) (N (h + 2)) k.toNat)) → AR E d ag_mX2_timesUpTo (4, [some (vA h), some (vI w), some (vI c), some (vI k)], [], (C, N)) (fun o_ => o_ = (some (vI (m_tu (N (h + 1)) (N (h + 2)) w)), (C, N))) by
    exact H4 _ _ _ (Nat.lt_succ_self _) (by omega) rfl
  intro j
  induction j with
  | zero => intro c k hj; exact absurd hj (Nat.not_lt_zero _)
  | succ j ih4 =>
    intro c k hj4 i0 i1
    refine AR.blk 2 (f' := (6, [some (vA h), some (vI w), some (vI c), some (vI k)], [vI w, vI k], (C, N))) (fun _ => rfl) ?_
    refine AR.ic_gt rfl (by omega) (fun c1 => ?_) (fun c1 => ?_)
    · show AR E d _ (56, [some (vA h), some (vI w), some (vI c), some (vI k)], [], (C, N)) _
      refine AR.blk 1 (f' := (57, [some (vA h), some (vI w), some (vI c), some (vI k)], [vI c], (C, N))) (fun _ => rfl) ?_
      exact AR.retI rfl (by rw [i1, show k = w + 1 by omega]; rfl) ⟨rfl, .inl rfl⟩ rfl
    · show AR E d _ (9, [some (vA h), some (vI w), some (vI c), some (vI k)], [], (C, N)) _
      refine AR.blk 2 (f' := (12, [some (vA h), some (vI w), some (vI c), some (vI k)], [vI 121, vI w], (C, N))) (fun _ => rfl) ?_
      refine AR.ic_ge rfl (by omega) (fun c2 => ?_) (fun c2 => ?_)
      · show AR E d _ (56, [some (vA h), some (vI w), some (vI c), some (vI k)], [], (C, N)) _
        refine AR.blk 1 (f' := (57, [some (vA h), some (vI w), some (vI c), some (vI k)], [vI c], (C, N))) (fun _ => rfl) ?_
        exact AR.retI rfl (by rw [i1, show k = w + 1 by omega]; rfl) ⟨rfl, .inl rfl⟩ rfl
      · show AR E d _ (15, [some (vA h), some (vI w), some (vI c), some (vI k)], [], (C, N)) _
        refine AR.blk 1 (f' := (16, [some (vA h), some (vI w), some (vI c), some (vI k)], [vA h], (C, N))) (fun _ => rfl) ?_
        refine AR.getR rfl rfl hh.1 (by decide) rfl ?_
        refine AR.blk 1 (f' := (20, [some (vA h), some (vI w), some (vI c), some (vI k)], [vI k, vA (h + 1)], (C, N))) (fun _ => rfl) ?_
        have f3 := m_hsb hr hw k (by omega)
        refine AR.lald rfl hh.2.1 (by omega) (v := N (h + 1) k) rfl ?_
        refine AR.blk 1 (f' := (22, [some (vA h), some (vI w), some (vI c), some (vI k)], [vA h, vJ (N (h + 1) k)], (C, N))) (fun _ => rfl) ?_
        refine AR.getR rfl rfl hh.1 (by decide) rfl ?_
        refine AR.blk 1 (f' := (26, [some (vA h), some (vI w), some (vI c), some (vI k)], [vI w, vA (h + 1), vJ (N (h + 1) k)], (C, N))) (fun _ => rfl) ?_
        have f4 := m_hsb hr hw w (by omega)
        refine AR.lald rfl hh.2.1 (by omega) (v := N (h + 1) w) rfl ?_
        refine AR.lcmp rfl (by omega) ?_
        refine AR.if_ne rfl (by omega) (fun c5 => ?_) (fun c5 => ?_)
        · show AR E d _ (50, [some (vA h), some (vI w), some (vI c), some (vI k)], [], (C, N)) _
          refine AR.blk 2 (f' := (4, [some (vA h), some (vI w), some (vI c), some (vI (k + 1))], [], (C, N))) (fun _ => rfl) ?_
          exact ih4 _ _ (by omega) (by omega) (by rw [m_hs_S _ _ k (by omega)]; show _ = (if N (h + 1) k = N (h + 1) w ∧ N (h + 2) k = N (h + 2) w then 1 else 0) + m_ct (N (h + 1) w, N (h + 2) w) (m_hs (N (h + 1)) (N (h + 2)) k.toNat); rw [← i1]; omega)
        · show AR E d _ (31, [some (vA h), some (vI w), some (vI c), some (vI k)], [], (C, N)) _
          refine AR.blk 1 (f' := (32, [some (vA h), some (vI w), some (vI c), some (vI k)], [vA h], (C, N))) (fun _ => rfl) ?_
          refine AR.getR rfl rfl hh.1 (by decide) rfl ?_
          refine AR.blk 1 (f' := (36, [some (vA h), some (vI w), some (vI c), some (vI k)], [vI k, vA (h + 2)], (C, N))) (fun _ => rfl) ?_
          have f6 := m_hsb hr hw k (by omega)
          refine AR.lald rfl hh.2.2 (by omega) (v := N (h + 2) k) rfl ?_
          refine AR.blk 1 (f' := (38, [some (vA h), some (vI w), some (vI c), some (vI k)], [vA h, vJ (N (h + 2) k)], (C, N))) (fun _ => rfl) ?_
          refine AR.getR rfl rfl hh.1 (by decide) rfl ?_
          refine AR.blk 1 (f' := (42, [some (vA h), some (vI w), some (vI c), some (vI k)], [vI w, vA (h + 2), vJ (N (h + 2) k)], (C, N))) (fun _ => rfl) ?_
          have f7 := m_hsb hr hw w (by omega)
          refine AR.lald rfl hh.2.2 (by omega) (v := N (h + 2) w) rfl ?_
          refine AR.lcmp rfl (by omega) ?_
          refine AR.if_ne rfl (by omega) (fun c8 => ?_) (fun c8 => ?_)
          · show AR E d _ (50, [some (vA h), some (vI w), some (vI c), some (vI k)], [], (C, N)) _
            refine AR.blk 2 (f' := (4, [some (vA h), some (vI w), some (vI c), some (vI (k + 1))], [], (C, N))) (fun _ => rfl) ?_
            exact ih4 _ _ (by omega) (by omega) (by rw [m_hs_S _ _ k (by omega)]; show _ = (if N (h + 1) k = N (h + 1) w ∧ N (h + 2) k = N (h + 2) w then 1 else 0) + m_ct (N (h + 1) w, N (h + 2) w) (m_hs (N (h + 1)) (N (h + 2)) k.toNat); rw [← i1]; omega)
          · show AR E d _ (47, [some (vA h), some (vI w), some (vI c), some (vI k)], [], (C, N)) _
            refine AR.blk 3 (f' := (4, [some (vA h), some (vI w), some (vI (c + 1)), some (vI (k + 1))], [], (C, N))) (fun _ => rfl) ?_
            exact ih4 _ _ (by omega) (by omega) (by rw [m_hs_S _ _ k (by omega)]; show _ = (if N (h + 1) k = N (h + 1) w ∧ N (h + 2) k = N (h + 2) w then 1 else 0) + m_ct (N (h + 1) w, N (h + 2) w) (m_hs (N (h + 1)) (N (h + 2)) k.toNat); rw [← i1]; omega)

theorem ev_X2_timesOfLatest {d : Nat} (hd : 2 ≤ d) (hh : g_isH C h) (hr : g_rH N h H) (hw : g_wH H) : Ev E d 41 [vA h] (C, N) (some (vI (m_tl H)), (C, N)) := by
  obtain ⟨d, rfl⟩ : ∃ j, d = j + 1 := ⟨d - 1, by omega⟩
  refine Ev.intro (M := ag_mX2_timesOfLatest) rfl rfl ?_
  show AR E d _ (0, [some (vA h)], [], (C, N)) _
  refine AR.blk 2 (f' := (2, [some (vA h)], [vA h, vA h], (C, N))) (fun _ => rfl) ?_
  have f1 := hw.1
  refine AR.getI rfl rfl hh.1 (by decide) (v := (H.length : Int)) hr.1 ?_
  refine AR.blk 2 (f' := (7, [some (vA h)], [vI ((H.length : Int) - 1), vA h], (C, N))) (fun _ => rfl) ?_
  refine AR.callV [vI ((H.length : Int) - 1)] (ev_X2_timesUpTo (by omega) hh hr hw ((H.length : Int) - 1) (by omega)) hh.1 rfl rfl rfl rfl rfl ?_
  show AR E d _ (10, [some (vA h)], [vI (m_tu (N (h + 1)) (N (h + 2)) ((H.length : Int) - 1))], (C, N)) _
  have f2 := m_ct_in (N (h + 1) ((H.length : Int) - 1), N (h + 2) ((H.length : Int) - 1)) (m_hs (N (h + 1)) (N (h + 2)) (((H.length : Int) - 1) + 1).toNat)
  have f3 := m_hs_len (N (h + 1)) (N (h + 2)) (((H.length : Int) - 1) + 1).toNat
  have f4 := (show m_tu (N (h + 1)) (N (h + 2)) ((H.length : Int) - 1) = m_ct (N (h + 1) ((H.length : Int) - 1), N (h + 2) ((H.length : Int) - 1)) (m_hs (N (h + 1)) (N (h + 2)) (((H.length : Int) - 1) + 1).toNat) from rfl)
  exact AR.retI rfl (m_tl_of hr) ⟨rfl, .inl rfl⟩ rfl

theorem ev_X2_mostTimes {d : Nat} (hd : 2 ≤ d) (hh : g_isH C h) (hr : g_rH N h H) (hw : g_wH H) : Ev E d 43 [vA h] (C, N) (some (vI (m_max H)), (C, N)) := by
  obtain ⟨d, rfl⟩ : ∃ j, d = j + 1 := ⟨d - 1, by omega⟩
  have f0 := hw.1
  refine Ev.intro (M := ag_mX2_mostTimes) rfl rfl ?_
  show AR E d _ (0, [some (vA h), none, none], [], (C, N)) _
  refine AR.blk 4 (f' := (4, [some (vA h), some (vI 0), some (vI 0)], [], (C, N))) (fun _ => rfl) ?_
  suffices H4 : ∀ (j : Nat) (c : Int) (k : Int), ((H.length : Int) - k).toNat < j → (0 ≤ k ∧ k ≤ H.length ∧ 0 ≤ c ∧ c ≤ k) → (c = m_max (m_hs (N (h + 1)) (N (h + 2)) k.toNat)) → AR E d ag_mX2_mostTimes (4, [some (vA h), some (vI c), some (vI k)], [], (C, N)) (fun o_ => o_ = (some (vI (m_max H)), (C, N))) by
    exact H4 _ _ _ (Nat.lt_succ_self _) (by omega) rfl
  intro j
  induction j with
  | zero => intro c k hj; exact absurd hj (Nat.not_lt_zero _)
  | succ j ih4 =>
    intro c k hj4 i0 i1
    refine AR.blk 2 (f' := (6, [some (vA h), some (vI c), some (vI k)], [vA h, vI k], (C, N))) (fun _ => rfl) ?_
    have f1 := hw.1
    refine AR.getI rfl rfl hh.1 (by decide) (v := (H.length : Int)) hr.1 ?_
    refine AR.ic_ge rfl (by omega) (fun c2 => ?_) (fun c2 => ?_)
    · show AR E d _ (28, [some (vA h), some (vI c), some (vI k)], [], (C, N)) _
      refine AR.blk 1 (f' := (29, [some (vA h), some (vI c), some (vI k)], [vI c], (C, N))) (fun _ => rfl) ?_
      exact AR.retI rfl (by rw [i1, show k = (H.length : Int) by omega]; exact congrArg m_max hr.2) ⟨rfl, .inl rfl⟩ rfl
    · show AR E d _ (12, [some (vA h), some (vI c), some (vI k)], [], (C, N)) _
      refine AR.blk 3 (f' := (15, [some (vA h), some (vI c), some (vI k)], [vI k, vA h, vI c], (C, N))) (fun _ => rfl) ?_
      refine AR.callV [vI k] (ev_X2_timesUpTo (by omega) hh hr hw k (by omega)) hh.1 rfl rfl rfl rfl rfl ?_
      show AR E d _ (18, [some (vA h), some (vI c), some (vI k)], [vI (m_tu (N (h + 1)) (N (h + 2)) k), vI c], (C, N)) _
      have f3 := m_ct_in (N (h + 1) k, N (h + 2) k) (m_hs (N (h + 1)) (N (h + 2)) (k + 1).toNat)
      have f4 := m_hs_len (N (h + 1)) (N (h + 2)) (k + 1).toNat
      have f5 := (show m_tu (N (h + 1)) (N (h + 2)) k = m_ct (N (h + 1) k, N (h + 2) k) (m_hs (N (h + 1)) (N (h + 2)) (k + 1).toNat) from rfl)
      refine AR.max rfl rfl ⟨(by omega), Nat.le_of_ble_eq_true rfl⟩ ?_
      refine AR.blk 3 (f' := (4, [some (vA h), some (vI (if c < m_tu (N (h + 1)) (N (h + 2)) k then m_tu (N (h + 1)) (N (h + 2)) k else c)), some (vI (k + 1))], [], (C, N))) (fun _ => rfl) ?_
      exact ih4 _ _ (by omega) (by omega) (by rw [m_hs_S _ _ k (by omega)]; show _ = (if m_max (m_hs (N (h + 1)) (N (h + 2)) k.toNat) < m_ct (N (h + 1) k, N (h + 2) k) ((N (h + 1) k, N (h + 2) k) :: m_hs (N (h + 1)) (N (h + 2)) k.toNat) then m_ct (N (h + 1) k, N (h + 2) k) ((N (h + 1) k, N (h + 2) k) :: m_hs (N (h + 1)) (N (h + 2)) k.toNat) else m_max (m_hs (N (h + 1)) (N (h + 2)) k.toNat)); rw [← i1, ← m_hs_S _ _ k (by omega)]; rfl)

theorem ev_X2_different {d : Nat} (hd : 2 ≤ d) (hh : g_isH C h) (hr : g_rH N h H) (hw : g_wH H) : Ev E d 44 [vA h] (C, N) (some (vI (m_diff H)), (C, N)) := by
  obtain ⟨d, rfl⟩ : ∃ j, d = j + 1 := ⟨d - 1, by omega⟩
  have f0 := hw.1
  refine Ev.intro (M := ag_mX2_different) rfl rfl ?_
  show AR E d _ (0, [some (vA h), none, none], [], (C, N)) _
  refine AR.blk 4 (f' := (4, [some (vA h), some (vI 0), some (vI 0)], [], (C, N))) (fun _ => rfl) ?_
  suffices H4 : ∀ (j : Nat) (c : Int) (k : Int), ((H.length : Int) - k).toNat < j → (0 ≤ k ∧ k ≤ H.length ∧ 0 ≤ c ∧ c ≤ k) → (c = m_diff (m_hs (N (h + 1)) (N (h + 2)) k.toNat)) → AR E d ag_mX2_different (4, [some (vA h), some (vI c), some (vI k)], [], (C, N)) (fun o_ => o_ = (some (vI (m_diff H)), (C, N))) by
    exact H4 _ _ _ (Nat.lt_succ_self _) (by omega) rfl
  intro j
  induction j with
  | zero => intro c k hj; exact absurd hj (Nat.not_lt_zero _)
  | succ j ih4 =>
    intro c k hj4 i0 i1
    refine AR.blk 2 (f' := (6, [some (vA h), some (vI c), some (vI k)], [vA h, vI k], (C, N))) (fun _ => rfl) ?_
    have f1 := hw.1
    refine AR.getI rfl rfl hh.1 (by decide) (v := (H.length : Int)) hr.1 ?_
    refine AR.ic_ge rfl (by omega) (fun c2 => ?_) (fun c2 => ?_)
    · show AR E d _ (30, [some (vA h), some (vI c), some (vI k)], [], (C, N)) _
      refine AR.blk 1 (f' := (31, [some (vA h), some (vI c), some (vI k)], [vI c], (C, N))) (fun _ => rfl) ?_
      exact AR.retI rfl (by rw [i1, show k = (H.length : Int) by omega]; exact congrArg m_diff hr.2) ⟨rfl, .inl rfl⟩ rfl
    · show AR E d _ (12, [some (vA h), some (vI c), some (vI k)], [], (C, N)) _
      refine AR.blk 2 (f' := (14, [some (vA h), some (vI c), some (vI k)], [vI k, vA h], (C, N))) (fun _ => rfl) ?_
      refine AR.callV [vI k] (ev_X2_timesUpTo (by omega) hh hr hw k (by omega)) hh.1 rfl rfl rfl rfl rfl ?_
      show AR E d _ (17, [some (vA h), some (vI c), some (vI k)], [vI (m_tu (N (h + 1)) (N (h + 2)) k)], (C, N)) _
      have f3 := m_ct_in (N (h + 1) k, N (h + 2) k) (m_hs (N (h + 1)) (N (h + 2)) (k + 1).toNat)
      have f4 := m_hs_len (N (h + 1)) (N (h + 2)) (k + 1).toNat
      have f5 := (show m_tu (N (h + 1)) (N (h + 2)) k = m_ct (N (h + 1) k, N (h + 2) k) (m_hs (N (h + 1)) (N (h + 2)) (k + 1).toNat) from rfl)
      refine AR.blk 1 (f' := (18, [some (vA h), some (vI c), some (vI k)], [vI 1, vI (m_tu (N (h + 1)) (N (h + 2)) k)], (C, N))) (fun _ => rfl) ?_
      refine AR.ic_ne rfl (by omega) (fun c6 => ?_) (fun c6 => ?_)
      · show AR E d _ (24, [some (vA h), some (vI c), some (vI k)], [], (C, N)) _
        refine AR.blk 2 (f' := (4, [some (vA h), some (vI c), some (vI (k + 1))], [], (C, N))) (fun _ => rfl) ?_
        exact ih4 _ _ (by omega) (by omega) (by rw [m_hs_S _ _ k (by omega)]; show _ = m_diff (m_hs (N (h + 1)) (N (h + 2)) k.toNat) + (if m_ct (N (h + 1) k, N (h + 2) k) ((N (h + 1) k, N (h + 2) k) :: m_hs (N (h + 1)) (N (h + 2)) k.toNat) = 1 then 1 else 0); rw [← i1, ← m_hs_S _ _ k (by omega)]; unfold m_tu at *; omega)
      · show AR E d _ (21, [some (vA h), some (vI c), some (vI k)], [], (C, N)) _
        refine AR.blk 3 (f' := (4, [some (vA h), some (vI (c + 1)), some (vI (k + 1))], [], (C, N))) (fun _ => rfl) ?_
        exact ih4 _ _ (by omega) (by omega) (by rw [m_hs_S _ _ k (by omega)]; show _ = m_diff (m_hs (N (h + 1)) (N (h + 2)) k.toNat) + (if m_ct (N (h + 1) k, N (h + 2) k) ((N (h + 1) k, N (h + 2) k) :: m_hs (N (h + 1)) (N (h + 2)) k.toNat) = 1 then 1 else 0); rw [← i1, ← m_hs_S _ _ k (by omega)]; unfold m_tu at *; omega)
end L2e
end
section
/-! LEVEL 2: a board of the class, changed -/
def m_set (P : Int → Int) (s c : Int) : Int → Int := fun t => if t = s then c else P t
def g_QB (C : List ag_C) (N : Nat → Int → Int) (b : Nat) (o : Option av) (P : Int → Int) (n : Int) (q p cl tn : Int → Int) : ag_O → Prop := fun r => ∃ N', r = (o, (C, N')) ∧ g_rB N' b P n q p cl tn ∧ ∀ a, ¬ (b ≤ a ∧ a < b + 6) → N' a = N a
theorem ag_upd_ne {N : Nat → Int → Int} {a a' : Nat} {k z : Int} (h : a' ≠ a) : ag_upd N a k z a' = N a' := by
  funext k'
  exact if_neg (fun e => h e.1)
theorem ag_upd_nk {N : Nat → Int → Int} {a a' : Nat} {k k' z : Int} (h : k' ≠ k) : ag_upd N a k z a' k' = N a' k' := if_neg (fun e => h e.2)
theorem ag_upd_eq {N : Nat → Int → Int} {a : Nat} {k z : Int} : ag_upd N a k z a k = z := if_pos ⟨rfl, rfl⟩
theorem g_rB_set {N : Nat → Int → Int} {b : Nat} {P : Int → Int} {n : Int} {q p cl tn : Int → Int} (hr : g_rB N b P n q p cl tn) (s c : Int) : g_rB (ag_upd N (b + 1) s c) b (m_set P s c) n q p cl tn := by
  refine ⟨fun t h0 h1 => ?_, ?_, fun k h0 h1 => ?_, fun k h0 h1 => ?_⟩
  · unfold m_set
    by_cases e : t = s
    · subst e; rw [if_pos rfl]; exact ag_upd_eq
    · rw [if_neg e, ag_upd_nk e]; exact hr.1 t h0 h1
  · rw [ag_upd_ne (by omega)]; exact hr.2.1
  · rw [ag_upd_ne (by omega), ag_upd_ne (by omega)]; exact hr.2.2.1 k h0 h1
  · rw [ag_upd_ne (by omega), ag_upd_ne (by omega)]; exact hr.2.2.2 k h0 h1
theorem g_wB_set {P : Int → Int} {n : Int} {q p cl tn : Int → Int} (hw : g_wB P n q p cl tn) {s c : Int} (hs : 0 ≤ s ∧ s < 36) (hc : -1 ≤ c ∧ c ≤ 3) : g_wB (m_set P s c) n q p cl tn := by
  refine ⟨fun t => ?_, fun t ht => ?_, hw.2.2⟩
  · have := hw.1 t
    unfold m_set
    omega
  · unfold m_set
    rw [if_neg (by omega)]
    exact hw.2.1 t ht
def m_prom (P : Int → Int) (s x : Int) : Int := if P s = -1 ∨ m_tug (P s) = 1 ∨ m_ahead s x 1 / 6 ≠ (if m_own (P s) = 0 then 5 else 0) then 0 else 1
def m_proP (P : Int → Int) (s x : Int) : Int → Int := if m_prom P s x = 1 then m_set P s (P s + 1) else P
/-- P with what stands on s and the squares ahead moved on, so many of them -/
def m_sh (P : Int → Int) (s st : Int) : Nat → (Int → Int)
  | 0 => m_set P s (-1)
  | j + 1 => m_set (m_sh P s st j) (s + ((j : Int) + 1) * st) (P (s + j * st))
theorem m_sh_S (P : Int → Int) (s st k : Int) (h : 0 ≤ k) : m_sh P s st (k + 1).toNat = m_set (m_sh P s st k.toNat) (s + (k + 1) * st) (P (s + k * st)) := by
  rw [show (k + 1).toNat = k.toNat + 1 by omega]
  show m_set (m_sh P s st k.toNat) (s + ((k.toNat : Int) + 1) * st) (P (s + (k.toNat : Int) * st)) = _
  rw [show ((k.toNat : Nat) : Int) = k by omega]
theorem m_mul_inj {a c st : Int} (hst : st = 6 ∨ st = 1 ∨ st = -6 ∨ st = -1) (h : a * st = c * st) : a = c := by
  rcases hst with rfl | rfl | rfl | rfl <;> omega
theorem m_sh_far (P : Int → Int) (s st : Int) (hst : st = 6 ∨ st = 1 ∨ st = -6 ∨ st = -1) : ∀ (j : Nat) (i : Int), (j : Int) < i → m_sh P s st j (s + i * st) = P (s + i * st) := by
  intro j
  induction j with
  | zero =>
    intro i hi
    refine if_neg (fun e => ?_)
    have : i * st = 0 * st := by omega
    have := m_mul_inj hst this
    omega
  | succ j ih =>
    intro i hi
    show m_set (m_sh P s st j) (s + ((j : Int) + 1) * st) (P (s + j * st)) (s + i * st) = _
    unfold m_set
    rw [if_neg (fun e => ?_)]
    · exact ih i (by omega)
    · have : i * st = ((j : Int) + 1) * st := by omega
      have := m_mul_inj hst this
      omega
theorem m_step_or (x : Int) : m_step x = 6 ∨ m_step x = 1 ∨ m_step x = -6 ∨ m_step x = -1 := by unfold m_step; omega
theorem m_sh_in (P : Int → Int) (s st : Int) (h : ∀ t, -1 ≤ P t ∧ P t ≤ 3) : ∀ (j : Nat) t, -1 ≤ m_sh P s st j t ∧ m_sh P s st j t ≤ 3 := by
  intro j
  induction j with
  | zero =>
    intro t
    have := h t
    show -1 ≤ (if t = s then -1 else P t) ∧ (if t = s then -1 else P t) ≤ 3
    omega
  | succ j ih =>
    intro t
    have h1 := ih t
    have h2 := h (s + j * st)
    show -1 ≤ (if t = s + ((j : Int) + 1) * st then P (s + j * st) else m_sh P s st j t) ∧ (if t = s + ((j : Int) + 1) * st then P (s + j * st) else m_sh P s st j t) ≤ 3
    omega
theorem m_sh_w {P : Int → Int} {n : Int} {q p cl tn : Int → Int} (hw : g_wB P n q p cl tn) {s x : Int} (hs : 0 ≤ s ∧ s < 36) (hx : 0 ≤ x ∧ x < 4) : ∀ j : Nat, (j : Int) ≤ m_room s x → g_wB (m_sh P s (m_step x) j) n q p cl tn := by
  intro j
  induction j with
  | zero => intro _; exact g_wB_set hw hs (by omega)
  | succ j ih =>
    intro hj
    have := m_sqs s x j hs hx (by omega)
    exact g_wB_set (ih (by omega)) this (hw.1 _)
/-- how many squares of a line change -/
def m_far (P : Int → Int) (s x : Int) : Int := if m_std P s x + 1 ≤ m_room s x then m_std P s x + 1 else m_room s x
def m_held (P : Int → Int) (s x : Int) : Int := if m_std P s x + 1 ≤ m_room s x then -1 else P (s + m_room s x * m_step x)
def m_mov (P : Int → Int) (s x : Int) : Int → Int := m_sh P s (m_step x) (m_far P s x).toNat
def m_drf (P : Int → Int) (n : Int) (q cl : Int → Int) (s x : Int) : Int := if P s = -1 ∨ m_ahead s x 1 = -1 ∨ P (m_ahead s x 1) ≠ -1 ∨ m_cl n q cl (m_ahead s x 1) = 1 then 0 else 1
def m_drP (P : Int → Int) (n : Int) (q cl : Int → Int) (s x : Int) : Int → Int := if m_drf P n q cl s x = 1 then m_set (m_set P s (-1)) (m_ahead s x 1) (P s) else P
theorem m_drP_w {P : Int → Int} {n : Int} {q p cl tn : Int → Int} (hw : g_wB P n q p cl tn) {s x : Int} (hs : 0 ≤ s ∧ s < 36) (hx : 0 ≤ x ∧ x < 4) : g_wB (m_drP P n q cl s x) n q p cl tn := by
  unfold m_drP
  split
  · rename_i e
    have h1 := m_ah s x 1 hs hx (by omega)
    unfold m_drf at e
    exact g_wB_set (g_wB_set hw hs (by omega)) (by omega) (hw.1 s)
  · exact hw
theorem m_drf_in (P : Int → Int) (n : Int) (q cl : Int → Int) (s x : Int) : m_drf P n q cl s x = 0 ∨ m_drf P n q cl s x = 1 := by unfold m_drf; omega
/-- the river, so many rows of it -/
def m_rv (P : Int → Int) (n : Int) (q cl : Int → Int) (x : Int) : Nat → (Int → Int) × Int
  | 0 => (P, 0)
  | k + 1 =>
    (m_drP (m_drP (m_rv P n q cl x k).1 n q cl (m_end 2 x k) x) n q cl (m_end 3 x k) x,
      (m_rv P n q cl x k).2 + m_drf (m_rv P n q cl x k).1 n q cl (m_end 2 x k) x + m_drf (m_drP (m_rv P n q cl x k).1 n q cl (m_end 2 x k) x) n q cl (m_end 3 x k) x)
theorem m_rv_S (P : Int → Int) (n : Int) (q cl : Int → Int) (x k : Int) (h : 0 ≤ k) : m_rv P n q cl x (k + 1).toNat = (m_drP (m_drP (m_rv P n q cl x k.toNat).1 n q cl (m_end 2 x k) x) n q cl (m_end 3 x k) x, (m_rv P n q cl x k.toNat).2 + m_drf (m_rv P n q cl x k.toNat).1 n q cl (m_end 2 x k) x + m_drf (m_drP (m_rv P n q cl x k.toNat).1 n q cl (m_end 2 x k) x) n q cl (m_end 3 x k) x) := by
  have e : ((k.toNat : Nat) : Int) = k := by omega
  rw [show (k + 1).toNat = k.toNat + 1 by omega]
  show (m_drP (m_drP (m_rv P n q cl x k.toNat).1 n q cl (m_end 2 x (k.toNat : Nat)) x) n q cl (m_end 3 x (k.toNat : Nat)) x, (m_rv P n q cl x k.toNat).2 + m_drf (m_rv P n q cl x k.toNat).1 n q cl (m_end 2 x (k.toNat : Nat)) x + m_drf (m_drP (m_rv P n q cl x k.toNat).1 n q cl (m_end 2 x (k.toNat : Nat)) x) n q cl (m_end 3 x (k.toNat : Nat)) x) = _
  rw [e]
theorem m_end_in (l x k : Int) (hl : 0 ≤ l ∧ l < 6) (hk : 0 ≤ k ∧ k < 6) : 0 ≤ m_end l x k ∧ m_end l x k < 36 := by unfold m_end; omega
section L2f
variable {E : Nat × (Int → Int)} {C : List ag_C} {N : Nat → Int → Int} {b : Nat} {P : Int → Int} {n : Int} {q p cl tn : Int → Int}

theorem m_rv_w {P : Int → Int} {n : Int} {q p cl tn : Int → Int} (hw : g_wB P n q p cl tn) {x : Int} (hx : 0 ≤ x ∧ x < 4) : ∀ k : Nat, k ≤ 6 → g_wB (m_rv P n q cl x k).1 n q p cl tn := by
  intro k
  induction k with
  | zero => intro _; exact hw
  | succ k ih => intro hk; exact m_drP_w (m_drP_w (ih (by omega)) (m_end_in 2 x k (by omega) (by omega)) hx) (m_end_in 3 x k (by omega) (by omega)) hx
theorem m_rv_in (P : Int → Int) (n : Int) (q cl : Int → Int) (x : Int) : ∀ k : Nat, 0 ≤ (m_rv P n q cl x k).2 ∧ (m_rv P n q cl x k).2 ≤ 2 * k := by
  intro k
  induction k with
  | zero => exact ⟨Int.le_refl 0, Int.le_refl 0⟩
  | succ k ih =>
    have h1 := m_drf_in (m_rv P n q cl x k).1 n q cl (m_end 2 x k) x
    have h2 := m_drf_in (m_drP (m_rv P n q cl x k).1 n q cl (m_end 2 x k) x) n q cl (m_end 3 x k) x
    show 0 ≤ (m_rv P n q cl x k).2 + m_drf (m_rv P n q cl x k).1 n q cl (m_end 2 x k) x + m_drf (m_drP (m_rv P n q cl x k).1 n q cl (m_end 2 x k) x) n q cl (m_end 3 x k) x ∧ (m_rv P n q cl x k).2 + m_drf (m_rv P n q cl x k).1 n q cl (m_end 2 x k) x + m_drf (m_drP (m_rv P n q cl x k).1 n q cl (m_end 2 x k) x) n q cl (m_end 3 x k) x ≤ 2 * ((k + 1 : Nat) : Int)
    omega

theorem m_held_in (P : Int → Int) (s x : Int) (h : ∀ s, -1 ≤ P s ∧ P s ≤ 3) : -1 ≤ m_held P s x ∧ m_held P s x ≤ 3 := by
  unfold m_held
  split
  · omega
  · exact h _
theorem m_mov_w {P : Int → Int} {n : Int} {q p cl tn : Int → Int} (hw : g_wB P n q p cl tn) {s x : Int} (hs : 0 ≤ s ∧ s < 36) (hx : 0 ≤ x ∧ x < 4) : g_wB (m_mov P s x) n q p cl tn := by
  have y1 := m_room_in s x hs
  have y2 := m_std_in P s x hs
  exact m_sh_w hw hs hx _ (by unfold m_far; omega)

theorem m_proP_w {P : Int → Int} {n : Int} {q p cl tn : Int → Int} (hw : g_wB P n q p cl tn) {s : Int} (x : Int) (hs : 0 ≤ s ∧ s < 36) : g_wB (m_proP P s x) n q p cl tn := by
  unfold m_proP
  split
  · rename_i e
    have h1 := hw.1 s
    refine g_wB_set hw hs ?_
    unfold m_prom m_tug at e
    omega
  · exact hw

theorem ev_X0_setPiece {d : Nat} (hd : 1 ≤ d) (hb : g_isB C b) (hr : g_rB N b P n q p cl tn) (hw : g_wB P n q p cl tn) (s c : Int) (h0 : 0 ≤ s ∧ s < 36) (h1 : -1 ≤ c ∧ c ≤ 3) : ∃ o, Ev E d 3 [vA b, vI s, vI c] (C, N) o ∧ g_QB C N b none (m_set P s c) n q p cl tn o := by
  obtain ⟨d, rfl⟩ : ∃ j, d = j + 1 := ⟨d - 1, by omega⟩
  refine Ev.introQ (M := ag_mX0_setPiece) rfl rfl ?_
  show AR E d _ (0, [some (vA b), some (vI s), some (vI c)], [], (C, N)) _
  refine AR.blk 1 (f' := (1, [some (vA b), some (vI s), some (vI c)], [vI s], (C, N))) (fun _ => rfl) ?_
  refine AR.if_lt rfl (by omega) (fun c1 => ?_) (fun c1 => ?_)
  · show AR E d _ (17, [some (vA b), some (vI s), some (vI c)], [], (C, N)) _
    refine AR.endV rfl rfl ?_
    refine ⟨_, rfl, ?_, (fun _ _ => rfl)⟩
    exact False.elim (by omega)
  · show AR E d _ (4, [some (vA b), some (vI s), some (vI c)], [], (C, N)) _
    refine AR.blk 2 (f' := (7, [some (vA b), some (vI s), some (vI c)], [vI 36, vI s], (C, N))) (fun _ => rfl) ?_
    refine AR.ic_ge rfl (by omega) (fun c2 => ?_) (fun c2 => ?_)
    · show AR E d _ (17, [some (vA b), some (vI s), some (vI c)], [], (C, N)) _
      refine AR.endV rfl rfl ?_
      refine ⟨_, rfl, ?_, (fun _ _ => rfl)⟩
      exact False.elim (by omega)
    · show AR E d _ (10, [some (vA b), some (vI s), some (vI c)], [], (C, N)) _
      refine AR.blk 1 (f' := (11, [some (vA b), some (vI s), some (vI c)], [vA b], (C, N))) (fun _ => rfl) ?_
      refine AR.getR rfl rfl hb.1 (by decide) rfl ?_
      refine AR.blk 2 (f' := (16, [some (vA b), some (vI s), some (vI c)], [vI c, vI s, vA (b + 1)], (C, N))) (fun _ => rfl) ?_
      refine AR.iast rfl hb.2.1 (by omega) ?_
      show AR E d _ (17, [some (vA b), some (vI s), some (vI c)], [], (C, ag_upd N (b + 1) s c)) _
      have hrN4 := g_rB_set hr s c
      have hfN4 : ∀ a, ¬ (b ≤ a ∧ a < b + 6) → (ag_upd N (b + 1) s c) a = N a := fun a ha => (ag_upd_ne (by omega)).trans ((fun _ _ => rfl) a ha)
      generalize ag_upd N (b + 1) s c = N4 at *
      refine AR.endV rfl rfl ?_
      refine ⟨_, rfl, ?_, hfN4⟩
      exact hrN4

theorem ev_X0_promote {d : Nat} (hd : 3 ≤ d) (hb : g_isB C b) (hr : g_rB N b P n q p cl tn) (hw : g_wB P n q p cl tn) (s x : Int) (h0 : 0 ≤ s ∧ s < 36) (h1 : 0 ≤ x ∧ x < 4) (h2 : 1 ≤ m_room s x) : ∃ o, Ev E d 19 [vA b, vI s, vI x] (C, N) o ∧ g_QB C N b (some (vI (m_prom P s x))) (m_proP P s x) n q p cl tn o := by
  obtain ⟨d, rfl⟩ : ∃ j, d = j + 1 := ⟨d - 1, by omega⟩
  have z1 := m_ah s x 1 h0 h1 (by omega)
  refine Ev.introQ (M := ag_mX0_promote) rfl rfl ?_
  show AR E d _ (0, [some (vA b), some (vI s), some (vI x), none, none], [], (C, N)) _
  refine AR.blk 2 (f' := (2, [some (vA b), some (vI s), some (vI x), none, none], [vI s, vA b], (C, N))) (fun _ => rfl) ?_
  refine AR.callV [vI s] (ev_X0_pieceAt (by omega) hb hr hw s (by first | omega | (unfold m_tug at *; omega))) hb.1 rfl rfl rfl rfl rfl ?_
  show AR E d _ (5, [some (vA b), some (vI s), some (vI x), none, none], [vI (P s)], (C, N)) _
  have f1 := hw.1 s
  refine AR.blk 4 (f' := (9, [some (vA b), some (vI s), some (vI x), some (vI (P s)), none], [vI 1, vI x, vI s], (C, N))) (fun _ => rfl) ?_
  refine AR.callS [vI s, vI x, vI 1] (ev_X6_ahead (by omega) s x 1 (by first | omega | (unfold m_tug at *; omega)) (by first | omega | (unfold m_tug at *; omega)) (by first | omega | (unfold m_tug at *; omega))) rfl rfl rfl rfl rfl ?_
  show AR E d _ (12, [some (vA b), some (vI s), some (vI x), some (vI (P s)), none], [vI (m_ahead s x 1)], (C, N)) _
  refine AR.blk 3 (f' := (16, [some (vA b), some (vI s), some (vI x), some (vI (P s)), some (vI (m_ahead s x 1))], [vI (-1), vI (P s)], (C, N))) (fun _ => rfl) ?_
  refine AR.ic_eq rfl (by first | omega | (unfold m_tug at *; omega)) (fun c2 => ?_) (fun c2 => ?_)
  · show AR E d _ (41, [some (vA b), some (vI s), some (vI x), some (vI (P s)), some (vI (m_ahead s x 1))], [], (C, N)) _
    refine AR.blk 1 (f' := (42, [some (vA b), some (vI s), some (vI x), some (vI (P s)), some (vI (m_ahead s x 1))], [vI 0], (C, N))) (fun _ => rfl) ?_
    refine AR.endI rfl (.inr ⟨rfl, by omega⟩) ?_
    refine ⟨_, congrArg (fun z => (some (vI z), (C, N))) (show 0 = m_prom P s x from (by unfold m_prom; omega)), ?_, (fun _ _ => rfl)⟩
    rw [show m_proP P s x = P by unfold m_proP; first | exact if_pos (by unfold m_prom; omega) | exact if_neg (by unfold m_prom; omega)]; exact hr
  · show AR E d _ (19, [some (vA b), some (vI s), some (vI x), some (vI (P s)), some (vI (m_ahead s x 1))], [], (C, N)) _
    refine AR.blk 1 (f' := (20, [some (vA b), some (vI s), some (vI x), some (vI (P s)), some (vI (m_ahead s x 1))], [vI (P s)], (C, N))) (fun _ => rfl) ?_
    refine AR.callS [vI (P s)] (ev_X6_isTug (by omega) (P s) (by first | omega | (unfold m_tug at *; omega))) rfl rfl rfl rfl rfl ?_
    show AR E d _ (23, [some (vA b), some (vI s), some (vI x), some (vI (P s)), some (vI (m_ahead s x 1))], [vI (m_tug (P s))], (C, N)) _
    have f3 := m_tug_in ((P s))
    refine AR.if_ne rfl (by first | omega | (unfold m_tug at *; omega)) (fun c4 => ?_) (fun c4 => ?_)
    · show AR E d _ (41, [some (vA b), some (vI s), some (vI x), some (vI (P s)), some (vI (m_ahead s x 1))], [], (C, N)) _
      refine AR.blk 1 (f' := (42, [some (vA b), some (vI s), some (vI x), some (vI (P s)), some (vI (m_ahead s x 1))], [vI 0], (C, N))) (fun _ => rfl) ?_
      refine AR.endI rfl (.inr ⟨rfl, by omega⟩) ?_
      refine ⟨_, congrArg (fun z => (some (vI z), (C, N))) (show 0 = m_prom P s x from (by unfold m_prom; omega)), ?_, (fun _ _ => rfl)⟩
      rw [show m_proP P s x = P by unfold m_proP; first | exact if_pos (by unfold m_prom; omega) | exact if_neg (by unfold m_prom; omega)]; exact hr
    · show AR E d _ (26, [some (vA b), some (vI s), some (vI x), some (vI (P s)), some (vI (m_ahead s x 1))], [], (C, N)) _
      refine AR.blk 2 (f' := (30, [some (vA b), some (vI s), some (vI x), some (vI (P s)), some (vI (m_ahead s x 1))], [vI 6, vI (m_ahead s x 1)], (C, N))) (fun _ => rfl) ?_
      refine AR.idiv rfl (by first | omega | (unfold m_tug at *; omega)) ?_
      refine AR.blk 1 (f' := (32, [some (vA b), some (vI s), some (vI x), some (vI (P s)), some (vI (m_ahead s x 1))], [vI (P s), vI ((m_ahead s x 1) / 6)], (C, N))) (fun _ => rfl) ?_
      refine AR.callS [vI (P s)] (ev_X6_ownerOf (by omega) (P s) (by first | omega | (unfold m_tug at *; omega))) rfl rfl rfl rfl rfl ?_
      show AR E d _ (35, [some (vA b), some (vI s), some (vI x), some (vI (P s)), some (vI (m_ahead s x 1))], [vI (m_own (P s)), vI ((m_ahead s x 1) / 6)], (C, N)) _
      have f5 := m_own_in ((P s)) (by omega)
      refine AR.callS [vI (m_own (P s))] (ev_X6_lastRowOf (by omega) (m_own (P s)) (by first | omega | (unfold m_tug at *; omega))) rfl rfl rfl rfl rfl ?_
      show AR E d _ (38, [some (vA b), some (vI s), some (vI x), some (vI (P s)), some (vI (m_ahead s x 1))], [vI (if (m_own (P s)) = 0 then 5 else 0), vI ((m_ahead s x 1) / 6)], (C, N)) _
      refine AR.ic_eq rfl (by first | omega | (unfold m_tug at *; omega)) (fun c6 => ?_) (fun c6 => ?_)
      · show AR E d _ (43, [some (vA b), some (vI s), some (vI x), some (vI (P s)), some (vI (m_ahead s x 1))], [], (C, N)) _
        refine AR.blk 5 (f' := (48, [some (vA b), some (vI s), some (vI x), some (vI (P s)), some (vI (m_ahead s x 1))], [vI ((P s) + 1), vI s, vA b], (C, N))) (fun _ => rfl) ?_
        obtain ⟨_, hE7, N8, rfl, hr9, hf10⟩ := ev_X0_setPiece (E := E) (d := d) (by omega) hb hr hw s ((P s) + 1) (by first | omega | (unfold m_tug at *; omega)) (by first | omega | (unfold m_tug at *; omega))
        have whr9 := g_wB_set hw (show 0 ≤ s ∧ s < 36 by omega) (show -1 ≤ ((P s) + 1) ∧ ((P s) + 1) ≤ 3 by first | omega | (unfold m_tug at *; omega))
        have fhf10 := fun a ha => (hf10 a ha).trans ((fun _ _ => rfl) a ha)
        refine AR.callV [vI s, vI ((P s) + 1)] hE7 hb.1 rfl rfl rfl rfl rfl ?_
        show AR E d _ (51, [some (vA b), some (vI s), some (vI x), some (vI (P s)), some (vI (m_ahead s x 1))], [], (C, N8)) _
        refine AR.blk 1 (f' := (52, [some (vA b), some (vI s), some (vI x), some (vI (P s)), some (vI (m_ahead s x 1))], [vI 1], (C, N8))) (fun _ => rfl) ?_
        refine AR.endI rfl (.inr ⟨rfl, by omega⟩) ?_
        refine ⟨_, congrArg (fun z => (some (vI z), (C, N8))) (show 1 = m_prom P s x from (by unfold m_prom; omega)), ?_, fhf10⟩
        rw [show m_proP P s x = (m_set P s ((P s) + 1)) by unfold m_proP; first | exact if_pos (by unfold m_prom; omega) | exact if_neg (by unfold m_prom; omega)]; exact hr9
      · show AR E d _ (41, [some (vA b), some (vI s), some (vI x), some (vI (P s)), some (vI (m_ahead s x 1))], [], (C, N)) _
        refine AR.blk 1 (f' := (42, [some (vA b), some (vI s), some (vI x), some (vI (P s)), some (vI (m_ahead s x 1))], [vI 0], (C, N))) (fun _ => rfl) ?_
        refine AR.endI rfl (.inr ⟨rfl, by omega⟩) ?_
        refine ⟨_, congrArg (fun z => (some (vI z), (C, N))) (show 0 = m_prom P s x from (by unfold m_prom; omega)), ?_, (fun _ _ => rfl)⟩
        rw [show m_proP P s x = P by unfold m_proP; first | exact if_pos (by unfold m_prom; omega) | exact if_neg (by unfold m_prom; omega)]; exact hr

theorem ev_X0_drift {d : Nat} (hd : 3 ≤ d) (hb : g_isB C b) (hr : g_rB N b P n q p cl tn) (hw : g_wB P n q p cl tn) (s x : Int) (h0 : 0 ≤ s ∧ s < 36) (h1 : 0 ≤ x ∧ x < 4) : ∃ o, Ev E d 22 [vA b, vI s, vI x] (C, N) o ∧ g_QB C N b (some (vI (m_drf P n q cl s x))) (m_drP P n q cl s x) n q p cl tn o := by
  obtain ⟨d, rfl⟩ : ∃ j, d = j + 1 := ⟨d - 1, by omega⟩
  have z1 := m_ah s x 1 h0 h1 (by omega)
  refine Ev.introQ (M := ag_mX0_drift) rfl rfl ?_
  show AR E d _ (0, [some (vA b), some (vI s), some (vI x), none, none], [], (C, N)) _
  refine AR.blk 2 (f' := (2, [some (vA b), some (vI s), some (vI x), none, none], [vI s, vA b], (C, N))) (fun _ => rfl) ?_
  refine AR.callV [vI s] (ev_X0_pieceAt (by omega) hb hr hw s (by omega)) hb.1 rfl rfl rfl rfl rfl ?_
  show AR E d _ (5, [some (vA b), some (vI s), some (vI x), none, none], [vI (P s)], (C, N)) _
  have f1 := hw.1 s
  refine AR.blk 4 (f' := (9, [some (vA b), some (vI s), some (vI x), some (vI (P s)), none], [vI 1, vI x, vI s], (C, N))) (fun _ => rfl) ?_
  refine AR.callS [vI s, vI x, vI 1] (ev_X6_ahead (by omega) s x 1 (by omega) (by omega) (by omega)) rfl rfl rfl rfl rfl ?_
  show AR E d _ (12, [some (vA b), some (vI s), some (vI x), some (vI (P s)), none], [vI (m_ahead s x 1)], (C, N)) _
  refine AR.blk 3 (f' := (16, [some (vA b), some (vI s), some (vI x), some (vI (P s)), some (vI (m_ahead s x 1))], [vI (-1), vI (P s)], (C, N))) (fun _ => rfl) ?_
  refine AR.ic_eq rfl (by omega) (fun c2 => ?_) (fun c2 => ?_)
  · show AR E d _ (44, [some (vA b), some (vI s), some (vI x), some (vI (P s)), some (vI (m_ahead s x 1))], [], (C, N)) _
    refine AR.blk 1 (f' := (45, [some (vA b), some (vI s), some (vI x), some (vI (P s)), some (vI (m_ahead s x 1))], [vI 0], (C, N))) (fun _ => rfl) ?_
    refine AR.endI rfl (.inr ⟨rfl, by omega⟩) ?_
    refine ⟨_, congrArg (fun z => (some (vI z), (C, N))) (show 0 = m_drf P n q cl s x from (by unfold m_drf; omega)), ?_, (fun _ _ => rfl)⟩
    rw [show m_drP P n q cl s x = P by unfold m_drP; first | exact if_pos (by unfold m_drf; omega) | exact if_neg (by unfold m_drf; omega)]; exact hr
  · show AR E d _ (19, [some (vA b), some (vI s), some (vI x), some (vI (P s)), some (vI (m_ahead s x 1))], [], (C, N)) _
    refine AR.blk 2 (f' := (22, [some (vA b), some (vI s), some (vI x), some (vI (P s)), some (vI (m_ahead s x 1))], [vI (-1), vI (m_ahead s x 1)], (C, N))) (fun _ => rfl) ?_
    refine AR.ic_eq rfl (by omega) (fun c3 => ?_) (fun c3 => ?_)
    · show AR E d _ (44, [some (vA b), some (vI s), some (vI x), some (vI (P s)), some (vI (m_ahead s x 1))], [], (C, N)) _
      refine AR.blk 1 (f' := (45, [some (vA b), some (vI s), some (vI x), some (vI (P s)), some (vI (m_ahead s x 1))], [vI 0], (C, N))) (fun _ => rfl) ?_
      refine AR.endI rfl (.inr ⟨rfl, by omega⟩) ?_
      refine ⟨_, congrArg (fun z => (some (vI z), (C, N))) (show 0 = m_drf P n q cl s x from (by unfold m_drf; omega)), ?_, (fun _ _ => rfl)⟩
      rw [show m_drP P n q cl s x = P by unfold m_drP; first | exact if_pos (by unfold m_drf; omega) | exact if_neg (by unfold m_drf; omega)]; exact hr
    · show AR E d _ (25, [some (vA b), some (vI s), some (vI x), some (vI (P s)), some (vI (m_ahead s x 1))], [], (C, N)) _
      refine AR.blk 2 (f' := (28, [some (vA b), some (vI s), some (vI x), some (vI (P s)), some (vI (m_ahead s x 1))], [vI (m_ahead s x 1), vA b], (C, N))) (fun _ => rfl) ?_
      refine AR.callV [vI (m_ahead s x 1)] (ev_X0_pieceAt (by omega) hb hr hw (m_ahead s x 1) (by omega)) hb.1 rfl rfl rfl rfl rfl ?_
      show AR E d _ (31, [some (vA b), some (vI s), some (vI x), some (vI (P s)), some (vI (m_ahead s x 1))], [vI (P (m_ahead s x 1))], (C, N)) _
      have f4 := hw.1 (m_ahead s x 1)
      refine AR.blk 1 (f' := (32, [some (vA b), some (vI s), some (vI x), some (vI (P s)), some (vI (m_ahead s x 1))], [vI (-1), vI (P (m_ahead s x 1))], (C, N))) (fun _ => rfl) ?_
      refine AR.ic_ne rfl (by omega) (fun c5 => ?_) (fun c5 => ?_)
      · show AR E d _ (44, [some (vA b), some (vI s), some (vI x), some (vI (P s)), some (vI (m_ahead s x 1))], [], (C, N)) _
        refine AR.blk 1 (f' := (45, [some (vA b), some (vI s), some (vI x), some (vI (P s)), some (vI (m_ahead s x 1))], [vI 0], (C, N))) (fun _ => rfl) ?_
        refine AR.endI rfl (.inr ⟨rfl, by omega⟩) ?_
        refine ⟨_, congrArg (fun z => (some (vI z), (C, N))) (show 0 = m_drf P n q cl s x from (by unfold m_drf; omega)), ?_, (fun _ _ => rfl)⟩
        rw [show m_drP P n q cl s x = P by unfold m_drP; first | exact if_pos (by unfold m_drf; omega) | exact if_neg (by unfold m_drf; omega)]; exact hr
      · show AR E d _ (35, [some (vA b), some (vI s), some (vI x), some (vI (P s)), some (vI (m_ahead s x 1))], [], (C, N)) _
        refine AR.blk 2 (f' := (38, [some (vA b), some (vI s), some (vI x), some (vI (P s)), some (vI (m_ahead s x 1))], [vI (m_ahead s x 1), vA b], (C, N))) (fun _ => rfl) ?_
        refine AR.callV [vI (m_ahead s x 1)] (ev_X0_isClosed (by omega) hb hr hw (m_ahead s x 1) (by omega)) hb.1 rfl rfl rfl rfl rfl ?_
        show AR E d _ (41, [some (vA b), some (vI s), some (vI x), some (vI (P s)), some (vI (m_ahead s x 1))], [vI (m_cl n q cl (m_ahead s x 1))], (C, N)) _
        have f6 := m_cl_in n q cl (m_ahead s x 1) (fun k => (hw.2.2.2.2.1 k).1)
        refine AR.if_eq rfl (by omega) (fun c7 => ?_) (fun c7 => ?_)
        · show AR E d _ (46, [some (vA b), some (vI s), some (vI x), some (vI (P s)), some (vI (m_ahead s x 1))], [], (C, N)) _
          refine AR.blk 3 (f' := (49, [some (vA b), some (vI s), some (vI x), some (vI (P s)), some (vI (m_ahead s x 1))], [vI (-1), vI s, vA b], (C, N))) (fun _ => rfl) ?_
          obtain ⟨_, hE8, N9, rfl, hr10, hf11⟩ := ev_X0_setPiece (E := E) (d := d) (by omega) hb hr hw s (-1) (by omega) (by omega)
          have whr10 := g_wB_set hw (show 0 ≤ s ∧ s < 36 by omega) (show -1 ≤ (-1) ∧ (-1) ≤ 3 by first | omega | (unfold m_tug at *; omega))
          have fhf11 := fun a ha => (hf11 a ha).trans ((fun _ _ => rfl) a ha)
          refine AR.callV [vI s, vI (-1)] hE8 hb.1 rfl rfl rfl rfl rfl ?_
          show AR E d _ (52, [some (vA b), some (vI s), some (vI x), some (vI (P s)), some (vI (m_ahead s x 1))], [], (C, N9)) _
          refine AR.blk 3 (f' := (56, [some (vA b), some (vI s), some (vI x), some (vI (P s)), some (vI (m_ahead s x 1))], [vI (P s), vI (m_ahead s x 1), vA b], (C, N9))) (fun _ => rfl) ?_
          obtain ⟨_, hE12, N13, rfl, hr14, hf15⟩ := ev_X0_setPiece (E := E) (d := d) (by omega) hb hr10 whr10 (m_ahead s x 1) (P s) (by omega) (by omega)
          have whr14 := g_wB_set whr10 (show 0 ≤ (m_ahead s x 1) ∧ (m_ahead s x 1) < 36 by omega) (show -1 ≤ (P s) ∧ (P s) ≤ 3 by first | omega | (unfold m_tug at *; omega))
          have fhf15 := fun a ha => (hf15 a ha).trans (fhf11 a ha)
          refine AR.callV [vI (m_ahead s x 1), vI (P s)] hE12 hb.1 rfl rfl rfl rfl rfl ?_
          show AR E d _ (59, [some (vA b), some (vI s), some (vI x), some (vI (P s)), some (vI (m_ahead s x 1))], [], (C, N13)) _
          refine AR.blk 1 (f' := (60, [some (vA b), some (vI s), some (vI x), some (vI (P s)), some (vI (m_ahead s x 1))], [vI 1], (C, N13))) (fun _ => rfl) ?_
          refine AR.endI rfl (.inr ⟨rfl, by omega⟩) ?_
          refine ⟨_, congrArg (fun z => (some (vI z), (C, N13))) (show 1 = m_drf P n q cl s x from (by unfold m_drf; omega)), ?_, fhf15⟩
          rw [show m_drP P n q cl s x = (m_set (m_set P s (-1)) (m_ahead s x 1) (P s)) by unfold m_drP; first | exact if_pos (by unfold m_drf; omega) | exact if_neg (by unfold m_drf; omega)]; exact hr14
        · show AR E d _ (44, [some (vA b), some (vI s), some (vI x), some (vI (P s)), some (vI (m_ahead s x 1))], [], (C, N)) _
          refine AR.blk 1 (f' := (45, [some (vA b), some (vI s), some (vI x), some (vI (P s)), some (vI (m_ahead s x 1))], [vI 0], (C, N))) (fun _ => rfl) ?_
          refine AR.endI rfl (.inr ⟨rfl, by omega⟩) ?_
          refine ⟨_, congrArg (fun z => (some (vI z), (C, N))) (show 0 = m_drf P n q cl s x from (by unfold m_drf; omega)), ?_, (fun _ _ => rfl)⟩
          rw [show m_drP P n q cl s x = P by unfold m_drP; first | exact if_pos (by unfold m_drf; omega) | exact if_neg (by unfold m_drf; omega)]; exact hr

theorem ev_X0_shift {d : Nat} (hd : 3 ≤ d) (hb : g_isB C b) (hr : g_rB N b P n q p cl tn) (hw : g_wB P n q p cl tn) (s x : Int) (h0 : 0 ≤ s ∧ s < 36) (h1 : 0 ≤ x ∧ x < 4) : ∃ o, Ev E d 20 [vA b, vI s, vI x] (C, N) o ∧ g_QB C N b (some (vI (m_held P s x))) (m_mov P s x) n q p cl tn o := by
  obtain ⟨d, rfl⟩ : ∃ j, d = j + 1 := ⟨d - 1, by omega⟩
  refine Ev.introQ (M := ag_mX0_shift) rfl rfl ?_
  show AR E d _ (0, [some (vA b), some (vI s), some (vI x), none, none, none, none, none], [], (C, N)) _
  refine AR.blk 3 (f' := (3, [some (vA b), some (vI s), some (vI x), none, none, none, none, none], [vI x, vI s, vA b], (C, N))) (fun _ => rfl) ?_
  refine AR.callV [vI s, vI x] (ev_X0_standing (by omega) hb hr hw s x (by omega) (by omega)) hb.1 rfl rfl rfl rfl rfl ?_
  show AR E d _ (6, [some (vA b), some (vI s), some (vI x), none, none, none, none, none], [vI (m_std P s x)], (C, N)) _
  have f1 := m_std_in P s x (by omega)
  refine AR.blk 3 (f' := (9, [some (vA b), some (vI s), some (vI x), some (vI (m_std P s x)), none, none, none, none], [vI s, vA b], (C, N))) (fun _ => rfl) ?_
  refine AR.callV [vI s] (ev_X0_pieceAt (by omega) hb hr hw s (by omega)) hb.1 rfl rfl rfl rfl rfl ?_
  show AR E d _ (12, [some (vA b), some (vI s), some (vI x), some (vI (m_std P s x)), none, none, none, none], [vI (P s)], (C, N)) _
  have f2 := hw.1 s
  refine AR.blk 4 (f' := (17, [some (vA b), some (vI s), some (vI x), some (vI (m_std P s x)), some (vI (P s)), none, none, none], [vI (-1), vI s, vA b], (C, N))) (fun _ => rfl) ?_
  obtain ⟨_, hE3, N4, rfl, hr5, hf6⟩ := ev_X0_setPiece (E := E) (d := d) (by omega) hb hr hw s (-1) (by omega) (by omega)
  have whr5 := g_wB_set hw (show 0 ≤ s ∧ s < 36 by omega) (show -1 ≤ (-1) ∧ (-1) ≤ 3 by first | omega | (unfold m_tug at *; omega))
  have fhf6 := fun a ha => (hf6 a ha).trans ((fun _ _ => rfl) a ha)
  refine AR.callV [vI s, vI (-1)] hE3 hb.1 rfl rfl rfl rfl rfl ?_
  show AR E d _ (20, [some (vA b), some (vI s), some (vI x), some (vI (m_std P s x)), some (vI (P s)), none, none, none], [], (C, N4)) _
  refine AR.blk 2 (f' := (23, [some (vA b), some (vI s), some (vI x), some (vI (m_std P s x)), some (vI (P s)), some (vI 1), none, none], [], (C, N4))) (fun _ => rfl) ?_
  suffices H23 : ∀ (j : Nat) (k : Int) (e : Int) (z6 : Option av) (z7 : Option av) (N9 : Nat → Int → Int), (7 - k).toNat < j → (1 ≤ k ∧ k ≤ m_room s x + 1 ∧ k ≤ m_std P s x + 2) → (e = P (s + (k - 1) * m_step x)) → (g_rB N9 b (m_sh P s (m_step x) (k - 1).toNat) n q p cl tn) → (∀ a, ¬ (b ≤ a ∧ a < b + 6) → N9 a = N a) → AR E d ag_mX0_shift (23, [some (vA b), some (vI s), some (vI x), some (vI (m_std P s x)), some (vI e), some (vI k), z6, z7], [], (C, N9)) (g_QB C N b (some (vI (m_held P s x))) (m_mov P s x) n q p cl tn) by
    exact H23 _ _ _ _ _ _ (Nat.lt_succ_self _) (by have y1 := m_room_in s x (by omega); have y2 := m_std_in P s x (by omega); omega) (by rw [show (1 : Int) - 1 = 0 by rfl, Int.zero_mul, Int.add_zero]) hr5 fhf6
  intro j
  induction j with
  | zero => intro k e z6 z7 N9 hj; exact absurd hj (Nat.not_lt_zero _)
  | succ j ih23 =>
    intro k e z6 z7 N9 hj23 i0 i1 hr9 hf9
    have y1 := m_room_in s x (by omega)
    have y2 := m_std_in P s x (by omega)
    have hw9 := m_sh_w hw (s := s) (x := x) h0 h1 (k - 1).toNat (by omega)
    have y3 := hw.1 (s + (k - 1) * m_step x)
    have y4 := m_ah s x k h0 h1 (by omega)
    refine AR.blk 4 (f' := (28, [some (vA b), some (vI s), some (vI x), some (vI (m_std P s x)), some (vI e), some (vI k), z6, z7], [vI ((m_std P s x) + 1), vI k], (C, N9))) (fun _ => rfl) ?_
    refine AR.ic_gt rfl (by omega) (fun c7 => ?_) (fun c7 => ?_)
    · show AR E d _ (82, [some (vA b), some (vI s), some (vI x), some (vI (m_std P s x)), some (vI e), some (vI k), z6, z7], [], (C, N9)) _
      refine AR.blk 1 (f' := (83, [some (vA b), some (vI s), some (vI x), some (vI (m_std P s x)), some (vI e), some (vI k), z6, z7], [vI (-1)], (C, N9))) (fun _ => rfl) ?_
      refine AR.endI rfl (.inl rfl) ?_
      refine ⟨_, congrArg (fun z => (some (vI z), (C, N9))) (show (-1) = m_held P s x from (by unfold m_held; first | (rw [if_pos (by omega)]) | (rw [if_neg (by omega), i1, show k - 1 = m_room s x by omega]))), ?_, hf9⟩
      exact (show g_rB N9 b (m_sh P s (m_step x) (m_far P s x).toNat) n q p cl tn by rw [show m_far P s x = k - 1 by unfold m_far; omega]; exact hr9)
    · show AR E d _ (31, [some (vA b), some (vI s), some (vI x), some (vI (m_std P s x)), some (vI e), some (vI k), z6, z7], [], (C, N9)) _
      refine AR.blk 2 (f' := (35, [some (vA b), some (vI s), some (vI x), some (vI (m_std P s x)), some (vI e), some (vI k), z6, z7], [vI 6, vI k], (C, N9))) (fun _ => rfl) ?_
      refine AR.ic_gt rfl (by omega) (fun c8 => ?_) (fun c8 => ?_)
      · show AR E d _ (82, [some (vA b), some (vI s), some (vI x), some (vI (m_std P s x)), some (vI e), some (vI k), z6, z7], [], (C, N9)) _
        refine AR.blk 1 (f' := (83, [some (vA b), some (vI s), some (vI x), some (vI (m_std P s x)), some (vI e), some (vI k), z6, z7], [vI (-1)], (C, N9))) (fun _ => rfl) ?_
        refine AR.endI rfl (.inl rfl) ?_
        refine ⟨_, congrArg (fun z => (some (vI z), (C, N9))) (show (-1) = m_held P s x from (by unfold m_held; first | (rw [if_pos (by omega)]) | (rw [if_neg (by omega), i1, show k - 1 = m_room s x by omega]))), ?_, hf9⟩
        exact (show g_rB N9 b (m_sh P s (m_step x) (m_far P s x).toNat) n q p cl tn by rw [show m_far P s x = k - 1 by unfold m_far; omega]; exact hr9)
      · show AR E d _ (38, [some (vA b), some (vI s), some (vI x), some (vI (m_std P s x)), some (vI e), some (vI k), z6, z7], [], (C, N9)) _
        refine AR.blk 3 (f' := (42, [some (vA b), some (vI s), some (vI x), some (vI (m_std P s x)), some (vI e), some (vI k), z6, z7], [vI k, vI x, vI s], (C, N9))) (fun _ => rfl) ?_
        refine AR.callS [vI s, vI x, vI k] (ev_X6_ahead (by omega) s x k (by omega) (by omega) (by omega)) rfl rfl rfl rfl rfl ?_
        show AR E d _ (45, [some (vA b), some (vI s), some (vI x), some (vI (m_std P s x)), some (vI e), some (vI k), z6, z7], [vI (m_ahead s x k)], (C, N9)) _
        refine AR.blk 3 (f' := (50, [some (vA b), some (vI s), some (vI x), some (vI (m_std P s x)), some (vI e), some (vI k), some (vI (m_ahead s x k)), z7], [vI (-1), vI (m_ahead s x k)], (C, N9))) (fun _ => rfl) ?_
        refine AR.ic_ne rfl (by omega) (fun c9 => ?_) (fun c9 => ?_)
        · show AR E d _ (56, [some (vA b), some (vI s), some (vI x), some (vI (m_std P s x)), some (vI e), some (vI k), some (vI (m_ahead s x k)), z7], [], (C, N9)) _
          refine AR.blk 2 (f' := (59, [some (vA b), some (vI s), some (vI x), some (vI (m_std P s x)), some (vI e), some (vI k), some (vI (m_ahead s x k)), z7], [vI (m_ahead s x k), vA b], (C, N9))) (fun _ => rfl) ?_
          refine AR.callV [vI (m_ahead s x k)] (ev_X0_pieceAt (by omega) hb hr9 hw9 (m_ahead s x k) (by omega)) hb.1 rfl rfl rfl rfl rfl ?_
          show AR E d _ (62, [some (vA b), some (vI s), some (vI x), some (vI (m_std P s x)), some (vI e), some (vI k), some (vI (m_ahead s x k)), z7], [vI ((m_sh P s (m_step x) (k - 1).toNat) (m_ahead s x k))], (C, N9)) _
          have f10 := hw9.1 (m_ahead s x k)
          refine AR.blk 4 (f' := (69, [some (vA b), some (vI s), some (vI x), some (vI (m_std P s x)), some (vI e), some (vI k), some (vI (m_ahead s x k)), some (vI ((m_sh P s (m_step x) (k - 1).toNat) (m_ahead s x k)))], [vI e, vI (m_ahead s x k), vA b], (C, N9))) (fun _ => rfl) ?_
          obtain ⟨_, hE11, N12, rfl, hr13, hf14⟩ := ev_X0_setPiece (E := E) (d := d) (by omega) hb hr9 hw9 (m_ahead s x k) e (by omega) (by omega)
          have whr13 := g_wB_set hw9 (show 0 ≤ (m_ahead s x k) ∧ (m_ahead s x k) < 36 by omega) (show -1 ≤ e ∧ e ≤ 3 by first | omega | (unfold m_tug at *; omega))
          have fhf14 := fun a ha => (hf14 a ha).trans (hf9 a ha)
          refine AR.callV [vI (m_ahead s x k), vI e] hE11 hb.1 rfl rfl rfl rfl rfl ?_
          show AR E d _ (72, [some (vA b), some (vI s), some (vI x), some (vI (m_std P s x)), some (vI e), some (vI k), some (vI (m_ahead s x k)), some (vI ((m_sh P s (m_step x) (k - 1).toNat) (m_ahead s x k)))], [], (C, N12)) _
          refine AR.blk 4 (f' := (23, [some (vA b), some (vI s), some (vI x), some (vI (m_std P s x)), some (vI ((m_sh P s (m_step x) (k - 1).toNat) (m_ahead s x k))), some (vI (k + 1)), some (vI (m_ahead s x k)), some (vI ((m_sh P s (m_step x) (k - 1).toNat) (m_ahead s x k)))], [], (C, N12))) (fun _ => rfl) ?_
          exact ih23 _ _ _ _ _ (by omega) (by omega) (by rw [show k + 1 - 1 = k by omega, show m_ahead s x k = s + k * m_step x by omega]; exact m_sh_far P s _ (m_step_or x) (k - 1).toNat k (by omega)) (by rw [show k + 1 - 1 = (k - 1) + 1 by omega, m_sh_S P s (m_step x) (k - 1) (by omega), show s + (k - 1 + 1) * m_step x = m_ahead s x k by (rw [show k - 1 + 1 = k by omega]; omega), ← i1]; exact hr13) fhf14
        · show AR E d _ (53, [some (vA b), some (vI s), some (vI x), some (vI (m_std P s x)), some (vI e), some (vI k), some (vI (m_ahead s x k)), z7], [], (C, N9)) _
          refine AR.blk 1 (f' := (55, [some (vA b), some (vI s), some (vI x), some (vI (m_std P s x)), some (vI e), some (vI k), some (vI (m_ahead s x k)), z7], [vI e], (C, N9))) (fun _ => rfl) ?_
          refine AR.endI rfl (.inl rfl) ?_
          refine ⟨_, congrArg (fun z => (some (vI z), (C, N9))) (show e = m_held P s x from (by unfold m_held; first | (rw [if_pos (by omega)]) | (rw [if_neg (by omega), i1, show k - 1 = m_room s x by omega]))), ?_, hf9⟩
          exact (show g_rB N9 b (m_sh P s (m_step x) (m_far P s x).toNat) n q p cl tn by rw [show m_far P s x = k - 1 by unfold m_far; omega]; exact hr9)

theorem ev_X0_carryRiver {d : Nat} (hd : 4 ≤ d) (hb : g_isB C b) (hr : g_rB N b P n q p cl tn) (hw : g_wB P n q p cl tn) (x : Int) (h0 : 0 ≤ x ∧ x < 4) : ∃ o, Ev E d 21 [vA b, vI x] (C, N) o ∧ g_QB C N b (some (vI ((m_rv P n q cl x 6).2))) ((m_rv P n q cl x 6).1) n q p cl tn o := by
  obtain ⟨d, rfl⟩ : ∃ j, d = j + 1 := ⟨d - 1, by omega⟩
  refine Ev.introQ (M := ag_mX0_carryRiver) rfl rfl ?_
  show AR E d _ (0, [some (vA b), some (vI x), none, none, none], [], (C, N)) _
  refine AR.blk 4 (f' := (4, [some (vA b), some (vI x), some (vI 0), some (vI 0), none], [], (C, N))) (fun _ => rfl) ?_
  suffices H4 : ∀ (j : Nat) (c : Int) (k : Int) (z4 : Option av) (N9 : Nat → Int → Int), (6 - k).toNat < j → (0 ≤ k ∧ k ≤ 6) → (0 ≤ c ∧ c ≤ 2 * k) → (c = (m_rv P n q cl x k.toNat).2) → (g_rB N9 b (m_rv P n q cl x k.toNat).1 n q p cl tn) → (g_wB (m_rv P n q cl x k.toNat).1 n q p cl tn) → (∀ a, ¬ (b ≤ a ∧ a < b + 6) → N9 a = N a) → AR E d ag_mX0_carryRiver (4, [some (vA b), some (vI x), some (vI c), some (vI k), z4], [], (C, N9)) (g_QB C N b (some (vI ((m_rv P n q cl x 6).2))) ((m_rv P n q cl x 6).1) n q p cl tn) by
    exact H4 _ _ _ _ _ (Nat.lt_succ_self _) (by omega) (by omega) rfl hr hw (fun _ _ => rfl)
  intro j
  induction j with
  | zero => intro c k z4 N9 hj; exact absurd hj (Nat.not_lt_zero _)
  | succ j ih4 =>
    intro c k z4 N9 hj4 i0 i2 i1 hr9 hw9 hf9
    have y1 := fun hk => m_end_in 2 x k (by omega) hk
    have y2 := fun hk => m_end_in 3 x k (by omega) hk
    refine AR.blk 2 (f' := (7, [some (vA b), some (vI x), some (vI c), some (vI k), z4], [vI 6, vI k], (C, N9))) (fun _ => rfl) ?_
    refine AR.ic_ge rfl (by first | omega | exact y1 (by omega) | exact y2 (by omega)) (fun c1 => ?_) (fun c1 => ?_)
    · show AR E d _ (49, [some (vA b), some (vI x), some (vI c), some (vI k), z4], [], (C, N9)) _
      refine AR.blk 1 (f' := (50, [some (vA b), some (vI x), some (vI c), some (vI k), z4], [vI c], (C, N9))) (fun _ => rfl) ?_
      refine AR.endI rfl (.inl rfl) ?_
      refine ⟨_, congrArg (fun z => (some (vI z), (C, N9))) (show c = (m_rv P n q cl x 6).2 from (by rw [i1, show k = 6 by omega]; rfl)), ?_, hf9⟩
      (rw [show k = 6 by omega] at hr9; exact hr9)
    · show AR E d _ (10, [some (vA b), some (vI x), some (vI c), some (vI k), z4], [], (C, N9)) _
      refine AR.blk 4 (f' := (16, [some (vA b), some (vI x), some (vI c), some (vI k), some (vI 2)], [vI 3, vI 2], (C, N9))) (fun _ => rfl) ?_
      refine AR.blk 5 (f' := (24, [some (vA b), some (vI x), some (vI c), some (vI k), some (vI 2)], [vI k, vI x, vI 2, vA b], (C, N9))) (fun _ => rfl) ?_
      refine AR.callS [vI 2, vI x, vI k] (ev_X6_fromEnd (by omega) 2 x k (by first | omega | exact y1 (by omega) | exact y2 (by omega))) rfl rfl rfl rfl rfl ?_
      show AR E d _ (27, [some (vA b), some (vI x), some (vI c), some (vI k), some (vI 2)], [vI (m_end 2 x k), vA b], (C, N9)) _
      refine AR.blk 1 (f' := (28, [some (vA b), some (vI x), some (vI c), some (vI k), some (vI 2)], [vI x, vI (m_end 2 x k), vA b], (C, N9))) (fun _ => rfl) ?_
      obtain ⟨_, hE2, N3, rfl, hr4, hf5⟩ := ev_X0_drift (E := E) (d := d) (by omega) hb hr9 hw9 (m_end 2 x k) x (by first | omega | exact y1 (by omega) | exact y2 (by omega)) (by first | omega | exact y1 (by omega) | exact y2 (by omega))
      have whr4 := m_drP_w hw9 (show 0 ≤ (m_end 2 x k) ∧ (m_end 2 x k) < 36 by omega) (show 0 ≤ x ∧ x < 4 by omega)
      have fhf5 := fun a ha => (hf5 a ha).trans (hf9 a ha)
      refine AR.callV [vI (m_end 2 x k), vI x] hE2 hb.1 rfl rfl rfl rfl rfl ?_
      show AR E d _ (31, [some (vA b), some (vI x), some (vI c), some (vI k), some (vI 2)], [vI (m_drf ((m_rv P n q cl x k.toNat).1) n q cl (m_end 2 x k) x)], (C, N3)) _
      have f6 := m_drf_in ((m_rv P n q cl x k.toNat).1) n q cl (m_end 2 x k) x
      refine AR.if_eq rfl (by first | omega | exact y1 (by omega) | exact y2 (by omega)) (fun c7 => ?_) (fun c7 => ?_)
      · show AR E d _ (37, [some (vA b), some (vI x), some (vI c), some (vI k), some (vI 2)], [], (C, N3)) _
        refine AR.blk 4 (f' := (16, [some (vA b), some (vI x), some (vI c), some (vI k), some (vI 3)], [vI 3, vI 3], (C, N3))) (fun _ => rfl) ?_
        refine AR.blk 5 (f' := (24, [some (vA b), some (vI x), some (vI c), some (vI k), some (vI 3)], [vI k, vI x, vI 3, vA b], (C, N3))) (fun _ => rfl) ?_
        refine AR.callS [vI 3, vI x, vI k] (ev_X6_fromEnd (by omega) 3 x k (by first | omega | exact y1 (by omega) | exact y2 (by omega))) rfl rfl rfl rfl rfl ?_
        show AR E d _ (27, [some (vA b), some (vI x), some (vI c), some (vI k), some (vI 3)], [vI (m_end 3 x k), vA b], (C, N3)) _
        refine AR.blk 1 (f' := (28, [some (vA b), some (vI x), some (vI c), some (vI k), some (vI 3)], [vI x, vI (m_end 3 x k), vA b], (C, N3))) (fun _ => rfl) ?_
        obtain ⟨_, hE8, N9, rfl, hr10, hf11⟩ := ev_X0_drift (E := E) (d := d) (by omega) hb hr4 whr4 (m_end 3 x k) x (by first | omega | exact y1 (by omega) | exact y2 (by omega)) (by first | omega | exact y1 (by omega) | exact y2 (by omega))
        have whr10 := m_drP_w whr4 (show 0 ≤ (m_end 3 x k) ∧ (m_end 3 x k) < 36 by omega) (show 0 ≤ x ∧ x < 4 by omega)
        have fhf11 := fun a ha => (hf11 a ha).trans (fhf5 a ha)
        refine AR.callV [vI (m_end 3 x k), vI x] hE8 hb.1 rfl rfl rfl rfl rfl ?_
        show AR E d _ (31, [some (vA b), some (vI x), some (vI c), some (vI k), some (vI 3)], [vI (m_drf (m_drP ((m_rv P n q cl x k.toNat).1) n q cl (m_end 2 x k) x) n q cl (m_end 3 x k) x)], (C, N9)) _
        have f12 := m_drf_in (m_drP ((m_rv P n q cl x k.toNat).1) n q cl (m_end 2 x k) x) n q cl (m_end 3 x k) x
        refine AR.if_eq rfl (by first | omega | exact y1 (by omega) | exact y2 (by omega)) (fun c13 => ?_) (fun c13 => ?_)
        · show AR E d _ (37, [some (vA b), some (vI x), some (vI c), some (vI k), some (vI 3)], [], (C, N9)) _
          refine AR.blk 4 (f' := (16, [some (vA b), some (vI x), some (vI c), some (vI k), some (vI 4)], [vI 3, vI 4], (C, N9))) (fun _ => rfl) ?_
          refine AR.blk 3 (f' := (4, [some (vA b), some (vI x), some (vI c), some (vI (k + 1)), some (vI 4)], [], (C, N9))) (fun _ => rfl) ?_
          exact ih4 _ _ _ _ (by omega) (by omega) (by omega) (by rw [m_rv_S P n q cl x k (by omega)]; show _ = (m_rv P n q cl x k.toNat).2 + m_drf (m_rv P n q cl x k.toNat).1 n q cl (m_end 2 x k) x + m_drf (m_drP (m_rv P n q cl x k.toNat).1 n q cl (m_end 2 x k) x) n q cl (m_end 3 x k) x; omega) (by rw [m_rv_S P n q cl x k (by omega)]; exact hr10) (by rw [m_rv_S P n q cl x k (by omega)]; exact whr10) fhf11
        · show AR E d _ (34, [some (vA b), some (vI x), some (vI c), some (vI k), some (vI 3)], [], (C, N9)) _
          refine AR.blk 5 (f' := (16, [some (vA b), some (vI x), some (vI (c + 1)), some (vI k), some (vI 4)], [vI 3, vI 4], (C, N9))) (fun _ => rfl) ?_
          refine AR.blk 3 (f' := (4, [some (vA b), some (vI x), some (vI (c + 1)), some (vI (k + 1)), some (vI 4)], [], (C, N9))) (fun _ => rfl) ?_
          exact ih4 _ _ _ _ (by omega) (by omega) (by omega) (by rw [m_rv_S P n q cl x k (by omega)]; show _ = (m_rv P n q cl x k.toNat).2 + m_drf (m_rv P n q cl x k.toNat).1 n q cl (m_end 2 x k) x + m_drf (m_drP (m_rv P n q cl x k.toNat).1 n q cl (m_end 2 x k) x) n q cl (m_end 3 x k) x; omega) (by rw [m_rv_S P n q cl x k (by omega)]; exact hr10) (by rw [m_rv_S P n q cl x k (by omega)]; exact whr10) fhf11
      · show AR E d _ (34, [some (vA b), some (vI x), some (vI c), some (vI k), some (vI 2)], [], (C, N3)) _
        refine AR.blk 5 (f' := (16, [some (vA b), some (vI x), some (vI (c + 1)), some (vI k), some (vI 3)], [vI 3, vI 3], (C, N3))) (fun _ => rfl) ?_
        refine AR.blk 5 (f' := (24, [some (vA b), some (vI x), some (vI (c + 1)), some (vI k), some (vI 3)], [vI k, vI x, vI 3, vA b], (C, N3))) (fun _ => rfl) ?_
        refine AR.callS [vI 3, vI x, vI k] (ev_X6_fromEnd (by omega) 3 x k (by first | omega | exact y1 (by omega) | exact y2 (by omega))) rfl rfl rfl rfl rfl ?_
        show AR E d _ (27, [some (vA b), some (vI x), some (vI (c + 1)), some (vI k), some (vI 3)], [vI (m_end 3 x k), vA b], (C, N3)) _
        refine AR.blk 1 (f' := (28, [some (vA b), some (vI x), some (vI (c + 1)), some (vI k), some (vI 3)], [vI x, vI (m_end 3 x k), vA b], (C, N3))) (fun _ => rfl) ?_
        obtain ⟨_, hE14, N15, rfl, hr16, hf17⟩ := ev_X0_drift (E := E) (d := d) (by omega) hb hr4 whr4 (m_end 3 x k) x (by first | omega | exact y1 (by omega) | exact y2 (by omega)) (by first | omega | exact y1 (by omega) | exact y2 (by omega))
        have whr16 := m_drP_w whr4 (show 0 ≤ (m_end 3 x k) ∧ (m_end 3 x k) < 36 by omega) (show 0 ≤ x ∧ x < 4 by omega)
        have fhf17 := fun a ha => (hf17 a ha).trans (fhf5 a ha)
        refine AR.callV [vI (m_end 3 x k), vI x] hE14 hb.1 rfl rfl rfl rfl rfl ?_
        show AR E d _ (31, [some (vA b), some (vI x), some (vI (c + 1)), some (vI k), some (vI 3)], [vI (m_drf (m_drP ((m_rv P n q cl x k.toNat).1) n q cl (m_end 2 x k) x) n q cl (m_end 3 x k) x)], (C, N15)) _
        have f18 := m_drf_in (m_drP ((m_rv P n q cl x k.toNat).1) n q cl (m_end 2 x k) x) n q cl (m_end 3 x k) x
        refine AR.if_eq rfl (by first | omega | exact y1 (by omega) | exact y2 (by omega)) (fun c19 => ?_) (fun c19 => ?_)
        · show AR E d _ (37, [some (vA b), some (vI x), some (vI (c + 1)), some (vI k), some (vI 3)], [], (C, N15)) _
          refine AR.blk 4 (f' := (16, [some (vA b), some (vI x), some (vI (c + 1)), some (vI k), some (vI 4)], [vI 3, vI 4], (C, N15))) (fun _ => rfl) ?_
          refine AR.blk 3 (f' := (4, [some (vA b), some (vI x), some (vI (c + 1)), some (vI (k + 1)), some (vI 4)], [], (C, N15))) (fun _ => rfl) ?_
          exact ih4 _ _ _ _ (by omega) (by omega) (by omega) (by rw [m_rv_S P n q cl x k (by omega)]; show _ = (m_rv P n q cl x k.toNat).2 + m_drf (m_rv P n q cl x k.toNat).1 n q cl (m_end 2 x k) x + m_drf (m_drP (m_rv P n q cl x k.toNat).1 n q cl (m_end 2 x k) x) n q cl (m_end 3 x k) x; omega) (by rw [m_rv_S P n q cl x k (by omega)]; exact hr16) (by rw [m_rv_S P n q cl x k (by omega)]; exact whr16) fhf17
        · show AR E d _ (34, [some (vA b), some (vI x), some (vI (c + 1)), some (vI k), some (vI 3)], [], (C, N15)) _
          refine AR.blk 5 (f' := (16, [some (vA b), some (vI x), some (vI ((c + 1) + 1)), some (vI k), some (vI 4)], [vI 3, vI 4], (C, N15))) (fun _ => rfl) ?_
          refine AR.blk 3 (f' := (4, [some (vA b), some (vI x), some (vI ((c + 1) + 1)), some (vI (k + 1)), some (vI 4)], [], (C, N15))) (fun _ => rfl) ?_
          exact ih4 _ _ _ _ (by omega) (by omega) (by omega) (by rw [m_rv_S P n q cl x k (by omega)]; show _ = (m_rv P n q cl x k.toNat).2 + m_drf (m_rv P n q cl x k.toNat).1 n q cl (m_end 2 x k) x + m_drf (m_drP (m_rv P n q cl x k.toNat).1 n q cl (m_end 2 x k) x) n q cl (m_end 3 x k) x; omega) (by rw [m_rv_S P n q cl x k (by omega)]; exact hr16) (by rw [m_rv_S P n q cl x k (by omega)]; exact whr16) fhf17
end L2f
end
section
/-! LEVEL 2: a board of the class: locks and copies -/
theorem g_rB_cl {N : Nat → Int → Int} {b : Nat} {P : Int → Int} {n : Int} {q p cl tn : Int → Int} (hr : g_rB N b P n q p cl tn) (s c : Int) : g_rB (ag_upd N (b + 4) s c) b P n q p (m_set cl s c) tn := by
  refine ⟨fun t h0 h1 => ?_, ?_, fun k h0 h1 => ?_, fun k h0 h1 => ?_⟩
  · rw [ag_upd_ne (by omega)]; exact hr.1 t h0 h1
  · rw [ag_upd_ne (by omega)]; exact hr.2.1
  · rw [ag_upd_ne (by omega), ag_upd_ne (by omega)]; exact hr.2.2.1 k h0 h1
  · refine ⟨?_, ?_⟩
    · unfold m_set
      by_cases e : k = s
      · subst e; rw [if_pos rfl]; exact ag_upd_eq
      · rw [if_neg e, ag_upd_nk e]; exact (hr.2.2.2 k h0 h1).1
    · rw [ag_upd_ne (by omega)]; exact (hr.2.2.2 k h0 h1).2
theorem g_rB_tn {N : Nat → Int → Int} {b : Nat} {P : Int → Int} {n : Int} {q p cl tn : Int → Int} (hr : g_rB N b P n q p cl tn) (s c : Int) : g_rB (ag_upd N (b + 5) s c) b P n q p cl (m_set tn s c) := by
  refine ⟨fun t h0 h1 => ?_, ?_, fun k h0 h1 => ?_, fun k h0 h1 => ?_⟩
  · rw [ag_upd_ne (by omega)]; exact hr.1 t h0 h1
  · rw [ag_upd_ne (by omega)]; exact hr.2.1
  · rw [ag_upd_ne (by omega), ag_upd_ne (by omega)]; exact hr.2.2.1 k h0 h1
  · refine ⟨?_, ?_⟩
    · rw [ag_upd_ne (by omega)]; exact (hr.2.2.2 k h0 h1).1
    · unfold m_set
      by_cases e : k = s
      · subst e; rw [if_pos rfl]; exact ag_upd_eq
      · rw [if_neg e, ag_upd_nk e]; exact (hr.2.2.2 k h0 h1).2
theorem g_rB_q {N : Nat → Int → Int} {b : Nat} {P : Int → Int} {n : Int} {q p cl tn : Int → Int} (hr : g_rB N b P n q p cl tn) (s c : Int) : g_rB (ag_upd N (b + 2) s c) b P n (m_set q s c) p cl tn := by
  refine ⟨fun t h0 h1 => ?_, ?_, fun k h0 h1 => ?_, fun k h0 h1 => ?_⟩
  · rw [ag_upd_ne (by omega)]; exact hr.1 t h0 h1
  · rw [ag_upd_ne (by omega)]; exact hr.2.1
  · refine ⟨?_, ?_⟩
    · unfold m_set
      by_cases e : k = s
      · subst e; rw [if_pos rfl]; exact ag_upd_eq
      · rw [if_neg e, ag_upd_nk e]; exact (hr.2.2.1 k h0 h1).1
    · rw [ag_upd_ne (by omega)]; exact (hr.2.2.1 k h0 h1).2
  · rw [ag_upd_ne (by omega), ag_upd_ne (by omega)]; exact hr.2.2.2 k h0 h1
theorem g_rB_p {N : Nat → Int → Int} {b : Nat} {P : Int → Int} {n : Int} {q p cl tn : Int → Int} (hr : g_rB N b P n q p cl tn) (s c : Int) : g_rB (ag_upd N (b + 3) s c) b P n q (m_set p s c) cl tn := by
  refine ⟨fun t h0 h1 => ?_, ?_, fun k h0 h1 => ?_, fun k h0 h1 => ?_⟩
  · rw [ag_upd_ne (by omega)]; exact hr.1 t h0 h1
  · rw [ag_upd_ne (by omega)]; exact hr.2.1
  · refine ⟨?_, ?_⟩
    · rw [ag_upd_ne (by omega)]; exact (hr.2.2.1 k h0 h1).1
    · unfold m_set
      by_cases e : k = s
      · subst e; rw [if_pos rfl]; exact ag_upd_eq
      · rw [if_neg e, ag_upd_nk e]; exact (hr.2.2.1 k h0 h1).2
  · rw [ag_upd_ne (by omega), ag_upd_ne (by omega)]; exact hr.2.2.2 k h0 h1
theorem g_rB_n {N : Nat → Int → Int} {b : Nat} {P : Int → Int} {n : Int} {q p cl tn : Int → Int} (hr : g_rB N b P n q p cl tn) (c : Int) : g_rB (ag_upd N b 1 c) b P c q p cl tn := by
  refine ⟨fun t h0 h1 => ?_, ag_upd_eq, fun k h0 h1 => ?_, fun k h0 h1 => ?_⟩
  · rw [ag_upd_ne (by omega)]; exact hr.1 t h0 h1
  · rw [ag_upd_ne (by omega), ag_upd_ne (by omega)]; exact hr.2.2.1 k h0 h1
  · rw [ag_upd_ne (by omega), ag_upd_ne (by omega)]; exact hr.2.2.2 k h0 h1
def m_trn (P q p : Int → Int) (t : Int) (cl tn : Int → Int) : Nat → (Int → Int) × (Int → Int)
  | 0 => (cl, tn)
  | k + 1 => if t % p k = 0 ∧ P (q k) = -1 then (m_set (m_trn P q p t cl tn k).1 k (1 - (m_trn P q p t cl tn k).1 k), m_set (m_trn P q p t cl tn k).2 k ((m_trn P q p t cl tn k).2 k + 1)) else m_trn P q p t cl tn k
theorem m_trn_S (P q p : Int → Int) (t : Int) (cl tn : Int → Int) (k : Int) (h : 0 ≤ k) : m_trn P q p t cl tn (k + 1).toNat = if t % p k = 0 ∧ P (q k) = -1 then (m_set (m_trn P q p t cl tn k.toNat).1 k (1 - (m_trn P q p t cl tn k.toNat).1 k), m_set (m_trn P q p t cl tn k.toNat).2 k ((m_trn P q p t cl tn k.toNat).2 k + 1)) else m_trn P q p t cl tn k.toNat := by
  have e : ((k.toNat : Nat) : Int) = k := by omega
  rw [show (k + 1).toNat = k.toNat + 1 by omega]
  show (if t % p (k.toNat : Nat) = 0 ∧ P (q (k.toNat : Nat)) = -1 then (m_set (m_trn P q p t cl tn k.toNat).1 (k.toNat : Nat) (1 - (m_trn P q p t cl tn k.toNat).1 (k.toNat : Nat)), m_set (m_trn P q p t cl tn k.toNat).2 (k.toNat : Nat) ((m_trn P q p t cl tn k.toNat).2 (k.toNat : Nat) + 1)) else m_trn P q p t cl tn k.toNat) = _
  rw [e]
theorem m_trn_in (P q p : Int → Int) (t : Int) (cl tn : Int → Int) (h : ∀ k, (cl k = 0 ∨ cl k = 1) ∧ 0 ≤ tn k) : ∀ (k : Nat) j, ((m_trn P q p t cl tn k).1 j = 0 ∨ (m_trn P q p t cl tn k).1 j = 1) ∧ (0 ≤ (m_trn P q p t cl tn k).2 j ∧ (m_trn P q p t cl tn k).2 j ≤ tn j + 1) ∧ ((k : Int) ≤ j → (m_trn P q p t cl tn k).1 j = cl j ∧ (m_trn P q p t cl tn k).2 j = tn j) := by
  intro k
  induction k with
  | zero => intro j; have := h j; exact ⟨this.1, ⟨this.2, show tn j ≤ tn j + 1 by omega⟩, fun _ => ⟨rfl, rfl⟩⟩
  | succ k ih =>
    intro j
    unfold m_trn
    split
    · have h1 := ih k
      have h2 := ih j
      show ((if j = (k : Int) then _ else _) = 0 ∨ (if j = (k : Int) then _ else _) = 1) ∧ (0 ≤ (if j = (k : Int) then _ else _) ∧ (if j = (k : Int) then _ else _) ≤ tn j + 1) ∧ (((k + 1 : Nat) : Int) ≤ j → (if j = (k : Int) then _ else _) = cl j ∧ (if j = (k : Int) then _ else _) = tn j)
      by_cases e : j = (k : Int)
      · subst e
        have h3 := h1.2.2 (Int.le_refl _)
        refine ⟨by rw [if_pos rfl]; omega, by rw [if_pos rfl]; omega, fun z => by omega⟩
      · rw [if_neg e, if_neg e]
        exact ⟨h2.1, h2.2.1, fun z => h2.2.2 (by omega)⟩
    · have h2 := ih j
      exact ⟨h2.1, h2.2.1, fun z => h2.2.2 (by omega)⟩
theorem m_trn_w {P : Int → Int} {n : Int} {q p cl tn : Int → Int} (hw : g_wB P n q p cl tn) (t : Int) (k : Nat) (hk : (k : Int) ≤ n) : g_wB P n q p (m_trn P q p t cl tn k).1 (m_trn P q p t cl tn k).2 := by
  have h := m_trn_in P q p t cl tn hw.2.2.2.2.1 k
  refine ⟨hw.1, hw.2.1, hw.2.2.1, hw.2.2.2.1, fun j => ⟨(h j).1, (h j).2.1.1⟩, fun j hj => ?_⟩
  have h1 := (h j).2.2 (by omega)
  have h2 := hw.2.2.2.2.2 j hj
  rw [h1.1, h1.2]
  exact h2
section L2g
variable {E : Nat × (Int → Int)} {C : List ag_C} {N : Nat → Int → Int} {b : Nat} {P : Int → Int} {n : Int} {q p cl tn : Int → Int}

theorem g_up1 {N : Nat → Int → Int} {a : Nat} {k : Int} {P : Int → Int} (h : ∀ s, 0 ≤ s → s < k → N a s = P s) : ∀ s, 0 ≤ s → s < k + 1 → ag_upd N a k (P k) a s = P s := by
  intro s z1 z2
  by_cases e : s = k
  · subst e; exact ag_upd_eq
  · exact (ag_upd_nk e).trans (h s z1 (by omega))
theorem g_cp4 {N : Nat → Int → Int} {b : Nat} {k : Int} {q p cl tn : Int → Int} (j : Int) (h : j ≠ k → (N (b + 2) j = q j ∧ N (b + 3) j = p j) ∧ (N (b + 4) j = cl j ∧ N (b + 5) j = tn j)) : (ag_upd (ag_upd (ag_upd (ag_upd N (b + 2) k (q k)) (b + 3) k (p k)) (b + 4) k (cl k)) (b + 5) k (tn k) (b + 2) j = q j ∧ ag_upd (ag_upd (ag_upd (ag_upd N (b + 2) k (q k)) (b + 3) k (p k)) (b + 4) k (cl k)) (b + 5) k (tn k) (b + 3) j = p j) ∧ (ag_upd (ag_upd (ag_upd (ag_upd N (b + 2) k (q k)) (b + 3) k (p k)) (b + 4) k (cl k)) (b + 5) k (tn k) (b + 4) j = cl j ∧ ag_upd (ag_upd (ag_upd (ag_upd N (b + 2) k (q k)) (b + 3) k (p k)) (b + 4) k (cl k)) (b + 5) k (tn k) (b + 5) j = tn j) := by
  by_cases e : j = k
  · subst e
    refine ⟨⟨?_, ?_⟩, ?_, ?_⟩
    · rw [ag_upd_ne (by omega), ag_upd_ne (by omega), ag_upd_ne (by omega)]; exact ag_upd_eq
    · rw [ag_upd_ne (by omega), ag_upd_ne (by omega)]; exact ag_upd_eq
    · rw [ag_upd_ne (by omega)]; exact ag_upd_eq
    · exact ag_upd_eq
  · rw [ag_upd_nk e, ag_upd_nk e, ag_upd_nk e, ag_upd_nk e, ag_upd_nk e, ag_upd_nk e, ag_upd_nk e, ag_upd_nk e, ag_upd_nk e, ag_upd_nk e, ag_upd_nk e, ag_upd_nk e, ag_upd_nk e, ag_upd_nk e, ag_upd_nk e, ag_upd_nk e]
    exact h e

theorem ev_X0_turnLocks {d : Nat} (hd : 2 ≤ d) (hb : g_isB C b) (hr : g_rB N b P n q p cl tn) (hw : g_wB P n q p cl tn) (t : Int) (h0 : 0 ≤ t ∧ t ≤ 121) : ∃ o_, Ev E d 10 [vA b, vI t] (C, N) o_ ∧ g_QB C N b none P n q p ((m_trn P q p t cl tn n.toNat).1) ((m_trn P q p t cl tn n.toNat).2) o_ := by
  obtain ⟨d, rfl⟩ : ∃ j, d = j + 1 := ⟨d - 1, by omega⟩
  have y9 := hw.2.2.1
  refine Ev.introQ (M := ag_mX0_turnLocks) rfl rfl ?_
  show AR E d _ (0, [some (vA b), some (vI t), none, none], [], (C, N)) _
  refine AR.blk 2 (f' := (2, [some (vA b), some (vI t), some (vI 0), none], [], (C, N))) (fun _ => rfl) ?_
  suffices H2 : ∀ (j : Nat) (k : Int) (z3 : Option av) (ck : Int → Int) (tk : Int → Int) (N9 : Nat → Int → Int), (4 - k).toNat < j → (0 ≤ k ∧ k ≤ 4 ∧ k ≤ n) → ((ck, tk) = m_trn P q p t cl tn k.toNat) → (g_rB N9 b P n q p ck tk) → (∀ a, ¬ (b ≤ a ∧ a < b + 6) → N9 a = N a) → AR E d ag_mX0_turnLocks (2, [some (vA b), some (vI t), some (vI k), z3], [], (C, N9)) (g_QB C N b none P n q p ((m_trn P q p t cl tn n.toNat).1) ((m_trn P q p t cl tn n.toNat).2)) by
    exact H2 _ _ _ (cl) (tn) _ (Nat.lt_succ_self _) (by omega) rfl hr (fun _ _ => rfl)
  intro j
  induction j with
  | zero => intro k z3 ck tk N9 hj; exact absurd hj (Nat.not_lt_zero _)
  | succ j ih2 =>
    intro k z3 ck tk N9 hj2 i0 i1 hr9 hf9
    have y0 := hw.2.2.1
    have y1 := fun hk => hw.2.2.2.1 k (by omega) hk
    have hw9 : g_wB P n q p ck tk := (by have z := m_trn_w hw t k.toNat (by omega); rw [← i1] at z; exact z)
    have y3 := hw.1 (q k)
    have y4 := fun hk : k < n => And.intro (Int.emod_nonneg t (show p k ≠ 0 by have := y1 hk; omega)) (Int.emod_lt_of_pos t (show 0 < p k by have := y1 hk; omega))
    refine AR.blk 2 (f' := (4, [some (vA b), some (vI t), some (vI k), z3], [vA b, vI k], (C, N9))) (fun _ => rfl) ?_
    have f1 := hw9.2.2.1
    refine AR.getI rfl rfl hb.1 (by decide) (v := n) hr9.2.1 ?_
    refine AR.ic_ge rfl (by first | omega | (have := y4 (by omega); omega)) (fun c2 => ?_) (fun c2 => ?_)
    · show AR E d _ (82, [some (vA b), some (vI t), some (vI k), z3], [], (C, N9)) _
      refine AR.endV rfl rfl ?_
      refine ⟨_, rfl, ?_, hf9⟩
      (rw [show k = n by omega] at i1; rw [← i1]; exact hr9)
    · show AR E d _ (10, [some (vA b), some (vI t), some (vI k), z3], [], (C, N9)) _
      refine AR.blk 2 (f' := (12, [some (vA b), some (vI t), some (vI k), z3], [vI 4, vI k], (C, N9))) (fun _ => rfl) ?_
      refine AR.ic_ge rfl (by first | omega | (have := y4 (by omega); omega)) (fun c3 => ?_) (fun c3 => ?_)
      · show AR E d _ (82, [some (vA b), some (vI t), some (vI k), z3], [], (C, N9)) _
        refine AR.endV rfl rfl ?_
        refine ⟨_, rfl, ?_, hf9⟩
        (rw [show k = n by omega] at i1; rw [← i1]; exact hr9)
      · show AR E d _ (15, [some (vA b), some (vI t), some (vI k), z3], [], (C, N9)) _
        refine AR.blk 1 (f' := (16, [some (vA b), some (vI t), some (vI k), z3], [vA b], (C, N9))) (fun _ => rfl) ?_
        refine AR.getR rfl rfl hb.1 (by decide) rfl ?_
        refine AR.blk 1 (f' := (20, [some (vA b), some (vI t), some (vI k), z3], [vI k, vA (b + 3)], (C, N9))) (fun _ => rfl) ?_
        have f4 := hw9.2.2.2.1 k (by omega) (by omega)
        refine AR.iald rfl hb.2.2.2.1 (by first | omega | (have := y4 (by omega); omega)) (v := p k) (hr9.2.2.1 _ (by omega) (by omega)).2 ?_
        refine AR.blk 2 (f' := (23, [some (vA b), some (vI t), some (vI k), some (vI (p k))], [vI (p k)], (C, N9))) (fun _ => rfl) ?_
        refine AR.if_le rfl (by first | omega | (have := y4 (by omega); omega)) (fun c5 => ?_) (fun c5 => ?_)
        · show AR E d _ (76, [some (vA b), some (vI t), some (vI k), some (vI (p k))], [], (C, N9)) _
          refine AR.blk 2 (f' := (2, [some (vA b), some (vI t), some (vI (k + 1)), some (vI (p k))], [], (C, N9))) (fun _ => rfl) ?_
          exact ih2 _ _ (_) (_) _ (by omega) (by omega) (by rw [m_trn_S P q p t cl tn k (by omega), ← i1]; exact (if_neg (show ¬ (t % p k = 0 ∧ P (q k) = -1) by omega)).symm) hr9 hf9
        · show AR E d _ (26, [some (vA b), some (vI t), some (vI k), some (vI (p k))], [], (C, N9)) _
          refine AR.blk 2 (f' := (28, [some (vA b), some (vI t), some (vI k), some (vI (p k))], [vI (p k), vI t], (C, N9))) (fun _ => rfl) ?_
          refine AR.irem rfl (by first | omega | (have := y4 (by omega); omega)) ?_
          refine AR.if_ne rfl (by first | omega | (have := y4 (by omega); omega)) (fun c6 => ?_) (fun c6 => ?_)
          · show AR E d _ (76, [some (vA b), some (vI t), some (vI k), some (vI (p k))], [], (C, N9)) _
            refine AR.blk 2 (f' := (2, [some (vA b), some (vI t), some (vI (k + 1)), some (vI (p k))], [], (C, N9))) (fun _ => rfl) ?_
            exact ih2 _ _ (_) (_) _ (by omega) (by omega) (by rw [m_trn_S P q p t cl tn k (by omega), ← i1]; exact (if_neg (show ¬ (t % p k = 0 ∧ P (q k) = -1) by omega)).symm) hr9 hf9
          · show AR E d _ (32, [some (vA b), some (vI t), some (vI k), some (vI (p k))], [], (C, N9)) _
            refine AR.blk 2 (f' := (34, [some (vA b), some (vI t), some (vI k), some (vI (p k))], [vA b, vA b], (C, N9))) (fun _ => rfl) ?_
            refine AR.getR rfl rfl hb.1 (by decide) rfl ?_
            refine AR.blk 1 (f' := (38, [some (vA b), some (vI t), some (vI k), some (vI (p k))], [vI k, vA (b + 2), vA b], (C, N9))) (fun _ => rfl) ?_
            have f7 := hw9.2.2.2.1 k (by omega) (by omega)
            refine AR.iald rfl hb.2.2.1 (by first | omega | (have := y4 (by omega); omega)) (v := q k) (hr9.2.2.1 _ (by omega) (by omega)).1 ?_
            refine AR.callV [vI (q k)] (ev_X0_pieceAt (by omega) hb hr9 hw9 (q k) (by first | omega | (have := y4 (by omega); omega))) hb.1 rfl rfl rfl rfl rfl ?_
            show AR E d _ (42, [some (vA b), some (vI t), some (vI k), some (vI (p k))], [vI (P (q k))], (C, N9)) _
            have f8 := hw9.1 (q k)
            refine AR.blk 1 (f' := (43, [some (vA b), some (vI t), some (vI k), some (vI (p k))], [vI (-1), vI (P (q k))], (C, N9))) (fun _ => rfl) ?_
            refine AR.ic_ne rfl (by first | omega | (have := y4 (by omega); omega)) (fun c9 => ?_) (fun c9 => ?_)
            · show AR E d _ (76, [some (vA b), some (vI t), some (vI k), some (vI (p k))], [], (C, N9)) _
              refine AR.blk 2 (f' := (2, [some (vA b), some (vI t), some (vI (k + 1)), some (vI (p k))], [], (C, N9))) (fun _ => rfl) ?_
              exact ih2 _ _ (_) (_) _ (by omega) (by omega) (by rw [m_trn_S P q p t cl tn k (by omega), ← i1]; exact (if_neg (show ¬ (t % p k = 0 ∧ P (q k) = -1) by omega)).symm) hr9 hf9
            · show AR E d _ (46, [some (vA b), some (vI t), some (vI k), some (vI (p k))], [], (C, N9)) _
              refine AR.blk 1 (f' := (47, [some (vA b), some (vI t), some (vI k), some (vI (p k))], [vA b], (C, N9))) (fun _ => rfl) ?_
              refine AR.getR rfl rfl hb.1 (by decide) rfl ?_
              refine AR.blk 2 (f' := (52, [some (vA b), some (vI t), some (vI k), some (vI (p k))], [vA b, vI k, vA (b + 4)], (C, N9))) (fun _ => rfl) ?_
              refine AR.getR rfl rfl hb.1 (by decide) rfl ?_
              refine AR.blk 1 (f' := (56, [some (vA b), some (vI t), some (vI k), some (vI (p k))], [vI k, vA (b + 4), vI k, vA (b + 4)], (C, N9))) (fun _ => rfl) ?_
              have f10 := hw9.2.2.2.2.1 k
              refine AR.zald rfl hb.2.2.2.2.1 (by first | omega | (have := y4 (by omega); omega)) (v := ck k) (hr9.2.2.2 _ (by omega) (by omega)).1 ?_
              refine AR.if_ne rfl (by first | omega | (have := y4 (by omega); omega)) (fun c11 => ?_) (fun c11 => ?_)
              · show AR E d _ (64, [some (vA b), some (vI t), some (vI k), some (vI (p k))], [vI k, vA (b + 4)], (C, N9)) _
                refine AR.blk 1 (f' := (65, [some (vA b), some (vI t), some (vI k), some (vI (p k))], [vI 0, vI k, vA (b + 4)], (C, N9))) (fun _ => rfl) ?_
                refine AR.zast rfl hb.2.2.2.2.1 (by first | omega | (have := y4 (by omega); omega)) ?_
                show AR E d _ (66, [some (vA b), some (vI t), some (vI k), some (vI (p k))], [], (C, ag_upd N9 (b + 4) k 0)) _
                have hrN13 := g_rB_cl hr9 k 0
                have hfN13 : ∀ a, ¬ (b ≤ a ∧ a < b + 6) → (ag_upd N9 (b + 4) k 0) a = N a := fun a ha => (ag_upd_ne (by omega)).trans (hf9 a ha)
                generalize ag_upd N9 (b + 4) k 0 = N13 at *
                refine AR.blk 1 (f' := (67, [some (vA b), some (vI t), some (vI k), some (vI (p k))], [vA b], (C, N13))) (fun _ => rfl) ?_
                refine AR.getR rfl rfl hb.1 (by decide) rfl ?_
                refine AR.blk 2 (f' := (72, [some (vA b), some (vI t), some (vI k), some (vI (p k))], [vI k, vA (b + 5), vI k, vA (b + 5)], (C, N13))) (fun _ => rfl) ?_
                have f14 := hw9.2.2.2.2.1 k
                refine AR.iald rfl hb.2.2.2.2.2 (by first | omega | (have := y4 (by omega); omega)) (v := tk k) (hrN13.2.2.2 _ (by omega) (by omega)).2 ?_
                refine AR.blk 2 (f' := (75, [some (vA b), some (vI t), some (vI k), some (vI (p k))], [vI ((tk k) + 1), vI k, vA (b + 5)], (C, N13))) (fun _ => rfl) ?_
                refine AR.iast rfl hb.2.2.2.2.2 (by first | omega | (have := y4 (by omega); omega)) ?_
                show AR E d _ (76, [some (vA b), some (vI t), some (vI k), some (vI (p k))], [], (C, ag_upd N13 (b + 5) k ((tk k) + 1))) _
                have hrN16 := g_rB_tn hrN13 k ((tk k) + 1)
                have hfN16 : ∀ a, ¬ (b ≤ a ∧ a < b + 6) → (ag_upd N13 (b + 5) k ((tk k) + 1)) a = N a := fun a ha => (ag_upd_ne (by omega)).trans (hfN13 a ha)
                generalize ag_upd N13 (b + 5) k ((tk k) + 1) = N16 at *
                refine AR.blk 2 (f' := (2, [some (vA b), some (vI t), some (vI (k + 1)), some (vI (p k))], [], (C, N16))) (fun _ => rfl) ?_
                exact ih2 _ _ (_) (_) _ (by omega) (by omega) (by rw [m_trn_S P q p t cl tn k (by omega), ← i1, if_pos (show t % p k = 0 ∧ P (q k) = -1 by omega)]; show _ = (m_set ck k (1 - ck k), _); first | rw [show 1 - ck k = 0 by omega] | rw [show 1 - ck k = 1 by omega]) hrN16 hfN16
              · show AR E d _ (60, [some (vA b), some (vI t), some (vI k), some (vI (p k))], [vI k, vA (b + 4)], (C, N9)) _
                refine AR.blk 2 (f' := (65, [some (vA b), some (vI t), some (vI k), some (vI (p k))], [vI 1, vI k, vA (b + 4)], (C, N9))) (fun _ => rfl) ?_
                refine AR.zast rfl hb.2.2.2.2.1 (by first | omega | (have := y4 (by omega); omega)) ?_
                show AR E d _ (66, [some (vA b), some (vI t), some (vI k), some (vI (p k))], [], (C, ag_upd N9 (b + 4) k 1)) _
                have hrN18 := g_rB_cl hr9 k 1
                have hfN18 : ∀ a, ¬ (b ≤ a ∧ a < b + 6) → (ag_upd N9 (b + 4) k 1) a = N a := fun a ha => (ag_upd_ne (by omega)).trans (hf9 a ha)
                generalize ag_upd N9 (b + 4) k 1 = N18 at *
                refine AR.blk 1 (f' := (67, [some (vA b), some (vI t), some (vI k), some (vI (p k))], [vA b], (C, N18))) (fun _ => rfl) ?_
                refine AR.getR rfl rfl hb.1 (by decide) rfl ?_
                refine AR.blk 2 (f' := (72, [some (vA b), some (vI t), some (vI k), some (vI (p k))], [vI k, vA (b + 5), vI k, vA (b + 5)], (C, N18))) (fun _ => rfl) ?_
                have f19 := hw9.2.2.2.2.1 k
                refine AR.iald rfl hb.2.2.2.2.2 (by first | omega | (have := y4 (by omega); omega)) (v := tk k) (hrN18.2.2.2 _ (by omega) (by omega)).2 ?_
                refine AR.blk 2 (f' := (75, [some (vA b), some (vI t), some (vI k), some (vI (p k))], [vI ((tk k) + 1), vI k, vA (b + 5)], (C, N18))) (fun _ => rfl) ?_
                refine AR.iast rfl hb.2.2.2.2.2 (by first | omega | (have := y4 (by omega); omega)) ?_
                show AR E d _ (76, [some (vA b), some (vI t), some (vI k), some (vI (p k))], [], (C, ag_upd N18 (b + 5) k ((tk k) + 1))) _
                have hrN21 := g_rB_tn hrN18 k ((tk k) + 1)
                have hfN21 : ∀ a, ¬ (b ≤ a ∧ a < b + 6) → (ag_upd N18 (b + 5) k ((tk k) + 1)) a = N a := fun a ha => (ag_upd_ne (by omega)).trans (hfN18 a ha)
                generalize ag_upd N18 (b + 5) k ((tk k) + 1) = N21 at *
                refine AR.blk 2 (f' := (2, [some (vA b), some (vI t), some (vI (k + 1)), some (vI (p k))], [], (C, N21))) (fun _ => rfl) ?_
                exact ih2 _ _ (_) (_) _ (by omega) (by omega) (by rw [m_trn_S P q p t cl tn k (by omega), ← i1, if_pos (show t % p k = 0 ∧ P (q k) = -1 by omega)]; show _ = (m_set ck k (1 - ck k), _); first | rw [show 1 - ck k = 0 by omega] | rw [show 1 - ck k = 1 by omega]) hrN21 hfN21

theorem ev_X0_buildLock {d : Nat} (hd : 1 ≤ d) (hb : g_isB C b) (hr : g_rB N b P n q p cl tn) (hw : g_wB P n q p cl tn) (s y : Int) (h0 : 0 ≤ s ∧ s < 36) (h1 : 2 ≤ y ∧ y ≤ 5) (h2 : n < 4) : ∃ o_, Ev E d 9 [vA b, vI s, vI y] (C, N) o_ ∧ g_QB C N b (some (vI (n))) P (n + 1) (m_set q n s) (m_set p n y) (m_set cl n 0) (m_set tn n 0) o_ := by
  obtain ⟨d, rfl⟩ : ∃ j, d = j + 1 := ⟨d - 1, by omega⟩
  have y9 := hw.2.2.1
  refine Ev.introQ (M := ag_mX0_buildLock) rfl rfl ?_
  show AR E d _ (0, [some (vA b), some (vI s), some (vI y), none], [], (C, N)) _
  refine AR.blk 1 (f' := (1, [some (vA b), some (vI s), some (vI y), none], [vA b], (C, N))) (fun _ => rfl) ?_
  have f1 := hw.2.2.1
  refine AR.getI rfl rfl hb.1 (by decide) (v := n) hr.2.1 ?_
  refine AR.blk 2 (f' := (6, [some (vA b), some (vI s), some (vI y), some (vI n)], [vI n], (C, N))) (fun _ => rfl) ?_
  refine AR.if_lt rfl (by omega) (fun c2 => ?_) (fun c2 => ?_)
  · show AR E d _ (14, [some (vA b), some (vI s), some (vI y), some (vI n)], [], (C, N)) _
    refine AR.blk 1 (f' := (15, [some (vA b), some (vI s), some (vI y), some (vI n)], [vI (-1)], (C, N))) (fun _ => rfl) ?_
    refine AR.endI rfl (.inl rfl) ?_
    refine ⟨_, congrArg (fun z => (some (vI z), (C, N))) (show (-1) = n from (by omega)), ?_, (fun _ _ => rfl)⟩
    exact False.elim (by omega)
  · show AR E d _ (9, [some (vA b), some (vI s), some (vI y), some (vI n)], [], (C, N)) _
    refine AR.blk 2 (f' := (11, [some (vA b), some (vI s), some (vI y), some (vI n)], [vI 4, vI n], (C, N))) (fun _ => rfl) ?_
    refine AR.ic_lt rfl (by omega) (fun c3 => ?_) (fun c3 => ?_)
    · show AR E d _ (16, [some (vA b), some (vI s), some (vI y), some (vI n)], [], (C, N)) _
      refine AR.blk 1 (f' := (17, [some (vA b), some (vI s), some (vI y), some (vI n)], [vA b], (C, N))) (fun _ => rfl) ?_
      refine AR.getR rfl rfl hb.1 (by decide) rfl ?_
      refine AR.blk 2 (f' := (22, [some (vA b), some (vI s), some (vI y), some (vI n)], [vI s, vI n, vA (b + 2)], (C, N))) (fun _ => rfl) ?_
      refine AR.iast rfl hb.2.2.1 (by omega) ?_
      show AR E d _ (23, [some (vA b), some (vI s), some (vI y), some (vI n)], [], (C, ag_upd N (b + 2) n s)) _
      have hrN5 := g_rB_q hr n s
      have hfN5 : ∀ a, ¬ (b ≤ a ∧ a < b + 6) → (ag_upd N (b + 2) n s) a = N a := fun a ha => (ag_upd_ne (by omega)).trans ((fun _ _ => rfl) a ha)
      generalize ag_upd N (b + 2) n s = N5 at *
      refine AR.blk 1 (f' := (24, [some (vA b), some (vI s), some (vI y), some (vI n)], [vA b], (C, N5))) (fun _ => rfl) ?_
      refine AR.getR rfl rfl hb.1 (by decide) rfl ?_
      refine AR.blk 2 (f' := (29, [some (vA b), some (vI s), some (vI y), some (vI n)], [vI y, vI n, vA (b + 3)], (C, N5))) (fun _ => rfl) ?_
      refine AR.iast rfl hb.2.2.2.1 (by omega) ?_
      show AR E d _ (30, [some (vA b), some (vI s), some (vI y), some (vI n)], [], (C, ag_upd N5 (b + 3) n y)) _
      have hrN7 := g_rB_p hrN5 n y
      have hfN7 : ∀ a, ¬ (b ≤ a ∧ a < b + 6) → (ag_upd N5 (b + 3) n y) a = N a := fun a ha => (ag_upd_ne (by omega)).trans (hfN5 a ha)
      generalize ag_upd N5 (b + 3) n y = N7 at *
      refine AR.blk 1 (f' := (31, [some (vA b), some (vI s), some (vI y), some (vI n)], [vA b], (C, N7))) (fun _ => rfl) ?_
      refine AR.getR rfl rfl hb.1 (by decide) rfl ?_
      refine AR.blk 2 (f' := (36, [some (vA b), some (vI s), some (vI y), some (vI n)], [vI 0, vI n, vA (b + 4)], (C, N7))) (fun _ => rfl) ?_
      refine AR.zast rfl hb.2.2.2.2.1 (by omega) ?_
      show AR E d _ (37, [some (vA b), some (vI s), some (vI y), some (vI n)], [], (C, ag_upd N7 (b + 4) n 0)) _
      have hrN9 := g_rB_cl hrN7 n 0
      have hfN9 : ∀ a, ¬ (b ≤ a ∧ a < b + 6) → (ag_upd N7 (b + 4) n 0) a = N a := fun a ha => (ag_upd_ne (by omega)).trans (hfN7 a ha)
      generalize ag_upd N7 (b + 4) n 0 = N9 at *
      refine AR.blk 1 (f' := (38, [some (vA b), some (vI s), some (vI y), some (vI n)], [vA b], (C, N9))) (fun _ => rfl) ?_
      refine AR.getR rfl rfl hb.1 (by decide) rfl ?_
      refine AR.blk 2 (f' := (43, [some (vA b), some (vI s), some (vI y), some (vI n)], [vI 0, vI n, vA (b + 5)], (C, N9))) (fun _ => rfl) ?_
      refine AR.iast rfl hb.2.2.2.2.2 (by omega) ?_
      show AR E d _ (44, [some (vA b), some (vI s), some (vI y), some (vI n)], [], (C, ag_upd N9 (b + 5) n 0)) _
      have hrN11 := g_rB_tn hrN9 n 0
      have hfN11 : ∀ a, ¬ (b ≤ a ∧ a < b + 6) → (ag_upd N9 (b + 5) n 0) a = N a := fun a ha => (ag_upd_ne (by omega)).trans (hfN9 a ha)
      generalize ag_upd N9 (b + 5) n 0 = N11 at *
      refine AR.blk 2 (f' := (46, [some (vA b), some (vI s), some (vI y), some (vI n)], [vA b, vA b], (C, N11))) (fun _ => rfl) ?_
      have f12 := hw.2.2.1
      refine AR.getI rfl rfl hb.1 (by decide) (v := n) hrN11.2.1 ?_
      refine AR.blk 2 (f' := (51, [some (vA b), some (vI s), some (vI y), some (vI n)], [vI (n + 1), vA b], (C, N11))) (fun _ => rfl) ?_
      refine AR.putI rfl rfl hb.1 (by decide) (fun q => absurd q (by decide)) ?_
      show AR E d _ (54, [some (vA b), some (vI s), some (vI y), some (vI n)], [], (C, ag_upd N11 b 1 (n + 1))) _
      have hrN14 := g_rB_n hrN11 (n + 1)
      have hfN14 : ∀ a, ¬ (b ≤ a ∧ a < b + 6) → (ag_upd N11 b 1 (n + 1)) a = N a := fun a ha => (ag_upd_ne (by omega)).trans (hfN11 a ha)
      generalize ag_upd N11 b 1 (n + 1) = N14 at *
      refine AR.blk 1 (f' := (55, [some (vA b), some (vI s), some (vI y), some (vI n)], [vI n], (C, N14))) (fun _ => rfl) ?_
      refine AR.endI rfl (.inl rfl) ?_
      refine ⟨_, congrArg (fun z => (some (vI z), (C, N14))) (show n = n from (by omega)), ?_, hfN14⟩
      exact hrN14
    · show AR E d _ (14, [some (vA b), some (vI s), some (vI y), some (vI n)], [], (C, N)) _
      refine AR.blk 1 (f' := (15, [some (vA b), some (vI s), some (vI y), some (vI n)], [vI (-1)], (C, N))) (fun _ => rfl) ?_
      refine AR.endI rfl (.inl rfl) ?_
      refine ⟨_, congrArg (fun z => (some (vI z), (C, N))) (show (-1) = n from (by omega)), ?_, (fun _ _ => rfl)⟩
      exact False.elim (by omega)

theorem ev_X0_copyBoard {d : Nat} (hd : 1 ≤ d) (hb : g_isB C b) {o : Nat} (hb2 : g_isB C o) (ho : o + 6 ≤ b ∨ b + 6 ≤ o) {P2 : Int → Int} {n2 : Int} {q2 p2 cl2 tn2 : Int → Int} (hr2 : g_rB N o P2 n2 q2 p2 cl2 tn2) (hw2 : g_wB P2 n2 q2 p2 cl2 tn2) : ∃ o_, Ev E d 1 [vA b, vA o] (C, N) o_ ∧ g_QB C N b none P2 n2 q2 p2 cl2 tn2 o_ := by
  obtain ⟨d, rfl⟩ : ∃ j, d = j + 1 := ⟨d - 1, by omega⟩
  refine Ev.introQ (M := ag_mX0_copyBoard) rfl rfl ?_
  show AR E d _ (0, [some (vA b), some (vA o), none], [], (C, N)) _
  refine AR.blk 2 (f' := (2, [some (vA b), some (vA o), some (vI 0)], [], (C, N))) (fun _ => rfl) ?_
  suffices H2 : ∀ (j : Nat) (k : Int) (N8 : Nat → Int → Int), (36 - k).toNat < j → (0 ≤ k ∧ k ≤ 36) → (∀ s, 0 ≤ s → s < k → N8 (b + 1) s = P2 s) → (∀ a, ¬ (b ≤ a ∧ a < b + 6) → N8 a = N a) → AR E d ag_mX0_copyBoard (2, [some (vA b), some (vA o), some (vI k)], [], (C, N8)) (g_QB C N b none P2 n2 q2 p2 cl2 tn2) by
    exact H2 _ _ _ (Nat.lt_succ_self _) (by omega) (fun s z1 z2 => by omega) (fun _ _ => rfl)
  intro j
  induction j with
  | zero => intro k N8 hj; exact absurd hj (Nat.not_lt_zero _)
  | succ j ih2 =>
    intro k N8 hj2 i0 hr8 hf8
    refine AR.blk 2 (f' := (5, [some (vA b), some (vA o), some (vI k)], [vI 36, vI k], (C, N8))) (fun _ => rfl) ?_
    refine AR.ic_ge rfl (by omega) (fun c1 => ?_) (fun c1 => ?_)
    · show AR E d _ (26, [some (vA b), some (vA o), some (vI k)], [], (C, N8)) _
      refine AR.blk 2 (f' := (28, [some (vA b), some (vA o), some (vI k)], [vA o, vA b], (C, N8))) (fun _ => rfl) ?_
      refine AR.getI rfl rfl hb2.1 (by decide) (v := n2) ((congrFun (hf8 _ (by omega)) _).trans hr2.2.1) ?_
      refine AR.putI rfl rfl hb.1 (by decide) (fun q => absurd q (by decide)) ?_
      refine AR.blk 2 (f' := (36, [some (vA b), some (vA o), some (vI 0)], [], (C, ag_upd N8 b 1 n2))) (fun _ => rfl) ?_
      suffices H36 : ∀ (j : Nat) (k : Int) (N9 : Nat → Int → Int), (4 - k).toNat < j → (0 ≤ k ∧ k ≤ 4) → (N9 b 1 = n2) → (∀ s, 0 ≤ s → s < 36 → N9 (b + 1) s = P2 s) → (∀ j, 0 ≤ j → j < k → (N9 (b + 2) j = q2 j ∧ N9 (b + 3) j = p2 j) ∧ (N9 (b + 4) j = cl2 j ∧ N9 (b + 5) j = tn2 j)) → (∀ a, ¬ (b ≤ a ∧ a < b + 6) → N9 a = N a) → AR E d ag_mX0_copyBoard (36, [some (vA b), some (vA o), some (vI k)], [], (C, N9)) (g_QB C N b none P2 n2 q2 p2 cl2 tn2) by
        exact H36 _ _ _ (Nat.lt_succ_self _) (by omega) ag_upd_eq (fun s z1 z2 => (congrFun (ag_upd_ne (by omega)) _).trans (hr8 s z1 (by omega))) (fun s z1 z2 => by omega) (fun a ha => (ag_upd_ne (by omega)).trans (hf8 a ha))
      intro j
      induction j with
      | zero => intro k N9 hj; exact absurd hj (Nat.not_lt_zero _)
      | succ j ih36 =>
        intro k N9 hj36 i0 hn9 hp9 hr9 hf9
        refine AR.blk 2 (f' := (38, [some (vA b), some (vA o), some (vI k)], [vI 4, vI k], (C, N9))) (fun _ => rfl) ?_
        refine AR.ic_ge rfl (by omega) (fun c2 => ?_) (fun c2 => ?_)
        · show AR E d _ (95, [some (vA b), some (vA o), some (vI k)], [], (C, N9)) _
          refine AR.endV rfl rfl ?_
          exact ⟨N9, rfl, ⟨hp9, hn9, fun j z1 z2 => (hr9 j z1 (by omega)).1, fun j z1 z2 => (hr9 j z1 (by omega)).2⟩, hf9⟩
        · show AR E d _ (41, [some (vA b), some (vA o), some (vI k)], [], (C, N9)) _
          refine AR.blk 1 (f' := (42, [some (vA b), some (vA o), some (vI k)], [vA b], (C, N9))) (fun _ => rfl) ?_
          refine AR.getR rfl rfl hb.1 (by decide) rfl ?_
          refine AR.blk 2 (f' := (47, [some (vA b), some (vA o), some (vI k)], [vA o, vI k, vA (b + 2)], (C, N9))) (fun _ => rfl) ?_
          refine AR.getR rfl rfl hb2.1 (by decide) rfl ?_
          refine AR.blk 1 (f' := (51, [some (vA b), some (vA o), some (vI k)], [vI k, vA (o + 2), vI k, vA (b + 2)], (C, N9))) (fun _ => rfl) ?_
          refine AR.iald rfl hb2.2.2.1 (by omega) (v := q2 k) ((congrFun (hf9 _ (by omega)) _).trans (hr2.2.2.1 _ (by omega) (by omega)).1) ?_
          refine AR.iast rfl hb.2.2.1 (by omega) ?_
          refine AR.blk 1 (f' := (54, [some (vA b), some (vA o), some (vI k)], [vA b], (C, ag_upd N9 (b + 2) k (q2 k)))) (fun _ => rfl) ?_
          refine AR.getR rfl rfl hb.1 (by decide) rfl ?_
          refine AR.blk 2 (f' := (59, [some (vA b), some (vA o), some (vI k)], [vA o, vI k, vA (b + 3)], (C, ag_upd N9 (b + 2) k (q2 k)))) (fun _ => rfl) ?_
          refine AR.getR rfl rfl hb2.1 (by decide) rfl ?_
          refine AR.blk 1 (f' := (63, [some (vA b), some (vA o), some (vI k)], [vI k, vA (o + 3), vI k, vA (b + 3)], (C, ag_upd N9 (b + 2) k (q2 k)))) (fun _ => rfl) ?_
          refine AR.iald rfl hb2.2.2.2.1 (by omega) (v := p2 k) ((congrFun (ag_upd_ne (by omega)) _).trans ((congrFun (hf9 _ (by omega)) _).trans (hr2.2.2.1 _ (by omega) (by omega)).2)) ?_
          refine AR.iast rfl hb.2.2.2.1 (by omega) ?_
          refine AR.blk 1 (f' := (66, [some (vA b), some (vA o), some (vI k)], [vA b], (C, ag_upd (ag_upd N9 (b + 2) k (q2 k)) (b + 3) k (p2 k)))) (fun _ => rfl) ?_
          refine AR.getR rfl rfl hb.1 (by decide) rfl ?_
          refine AR.blk 2 (f' := (71, [some (vA b), some (vA o), some (vI k)], [vA o, vI k, vA (b + 4)], (C, ag_upd (ag_upd N9 (b + 2) k (q2 k)) (b + 3) k (p2 k)))) (fun _ => rfl) ?_
          refine AR.getR rfl rfl hb2.1 (by decide) rfl ?_
          refine AR.blk 1 (f' := (75, [some (vA b), some (vA o), some (vI k)], [vI k, vA (o + 4), vI k, vA (b + 4)], (C, ag_upd (ag_upd N9 (b + 2) k (q2 k)) (b + 3) k (p2 k)))) (fun _ => rfl) ?_
          have f3 := hw2.2.2.2.2.1 k
          refine AR.zald rfl hb2.2.2.2.2.1 (by omega) (v := cl2 k) ((congrFun (ag_upd_ne (by omega)) _).trans ((congrFun (ag_upd_ne (by omega)) _).trans ((congrFun (hf9 _ (by omega)) _).trans (hr2.2.2.2 _ (by omega) (by omega)).1))) ?_
          refine AR.zast rfl hb.2.2.2.2.1 (by omega) ?_
          refine AR.blk 1 (f' := (78, [some (vA b), some (vA o), some (vI k)], [vA b], (C, ag_upd (ag_upd (ag_upd N9 (b + 2) k (q2 k)) (b + 3) k (p2 k)) (b + 4) k (cl2 k)))) (fun _ => rfl) ?_
          refine AR.getR rfl rfl hb.1 (by decide) rfl ?_
          refine AR.blk 2 (f' := (83, [some (vA b), some (vA o), some (vI k)], [vA o, vI k, vA (b + 5)], (C, ag_upd (ag_upd (ag_upd N9 (b + 2) k (q2 k)) (b + 3) k (p2 k)) (b + 4) k (cl2 k)))) (fun _ => rfl) ?_
          refine AR.getR rfl rfl hb2.1 (by decide) rfl ?_
          refine AR.blk 1 (f' := (87, [some (vA b), some (vA o), some (vI k)], [vI k, vA (o + 5), vI k, vA (b + 5)], (C, ag_upd (ag_upd (ag_upd N9 (b + 2) k (q2 k)) (b + 3) k (p2 k)) (b + 4) k (cl2 k)))) (fun _ => rfl) ?_
          have f4 := hw2.2.2.2.2.1 k
          refine AR.iald rfl hb2.2.2.2.2.2 (by omega) (v := tn2 k) ((congrFun (ag_upd_ne (by omega)) _).trans ((congrFun (ag_upd_ne (by omega)) _).trans ((congrFun (ag_upd_ne (by omega)) _).trans ((congrFun (hf9 _ (by omega)) _).trans (hr2.2.2.2 _ (by omega) (by omega)).2)))) ?_
          refine AR.iast rfl hb.2.2.2.2.2 (by omega) ?_
          refine AR.blk 2 (f' := (36, [some (vA b), some (vA o), some (vI (k + 1))], [], (C, ag_upd (ag_upd (ag_upd (ag_upd N9 (b + 2) k (q2 k)) (b + 3) k (p2 k)) (b + 4) k (cl2 k)) (b + 5) k (tn2 k)))) (fun _ => rfl) ?_
          exact ih36 _ _ (by omega) (by omega) ((congrFun (ag_upd_ne (by omega)) _).trans ((congrFun (ag_upd_ne (by omega)) _).trans ((congrFun (ag_upd_ne (by omega)) _).trans ((congrFun (ag_upd_ne (by omega)) _).trans hn9)))) (fun s z1 z2 => (congrFun (ag_upd_ne (by omega)) _).trans ((congrFun (ag_upd_ne (by omega)) _).trans ((congrFun (ag_upd_ne (by omega)) _).trans ((congrFun (ag_upd_ne (by omega)) _).trans (hp9 s z1 z2))))) (fun s z1 z2 => g_cp4 s (fun e => hr9 s z1 (by omega))) (fun a ha => (ag_upd_ne (by omega)).trans ((ag_upd_ne (by omega)).trans ((ag_upd_ne (by omega)).trans ((ag_upd_ne (by omega)).trans (hf9 a ha)))))
    · show AR E d _ (8, [some (vA b), some (vA o), some (vI k)], [], (C, N8)) _
      refine AR.blk 1 (f' := (9, [some (vA b), some (vA o), some (vI k)], [vA b], (C, N8))) (fun _ => rfl) ?_
      refine AR.getR rfl rfl hb.1 (by decide) rfl ?_
      refine AR.blk 2 (f' := (14, [some (vA b), some (vA o), some (vI k)], [vA o, vI k, vA (b + 1)], (C, N8))) (fun _ => rfl) ?_
      refine AR.getR rfl rfl hb2.1 (by decide) rfl ?_
      refine AR.blk 1 (f' := (18, [some (vA b), some (vA o), some (vI k)], [vI k, vA (o + 1), vI k, vA (b + 1)], (C, N8))) (fun _ => rfl) ?_
      refine AR.iald rfl hb2.2.1 (by omega) (v := P2 k) ((congrFun (hf8 _ (by omega)) _).trans (hr2.1 _ (by omega) (by omega))) ?_
      refine AR.iast rfl hb.2.1 (by omega) ?_
      refine AR.blk 2 (f' := (2, [some (vA b), some (vA o), some (vI (k + 1))], [], (C, ag_upd N8 (b + 1) k (P2 k)))) (fun _ => rfl) ?_
      exact ih2 _ _ (by omega) (by omega) (g_up1 hr8) (fun a ha => (ag_upd_ne (by omega)).trans (hf8 a ha))
end L2g
end
