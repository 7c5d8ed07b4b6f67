/-! LEVEL 2: means -/
def m_h1 : Nat → UInt32 → Int → Option (UInt32 × Int)
  | 0, v, e => some (v, e)
  | f + 1, v, e => if (Op.cmpValue (FP.fcmp v FP.fconst2) .l).toInt < 0 then some (v, e) else if ag_n32 (FP.fdiv v FP.fconst2) then m_h1 f (FP.fdiv v FP.fconst2) (e + 1) else none
def m_h2 : Nat → UInt32 → Int → Option (UInt32 × Int)
  | 0, v, e => some (v, e)
  | f + 1, v, e => if 0 ≤ (Op.cmpValue (FP.fcmp v FP.fconst1) .g).toInt then some (v, e) else if ag_n32 (FP.fmul v FP.fconst2) then m_h2 f (FP.fmul v FP.fconst2) (e + (-1)) else none
def m_h3 (v : UInt32) (e : Int) : Option Int := if ag_n32 (FP.fsub v FP.fconst1) ∧ ag_n32 (FP.fmul (FP.fsub v FP.fconst1) 1258291200) ∧ 0 ≤ e ∧ e < 2147483648 then some (e * (2 ^ (23 : Int).toNat : Nat) + (FP.f2i (FP.fmul (FP.fsub v FP.fconst1) 1258291200)).toInt) else none
def m_bits (v : UInt32) : Option Int := if (Op.cmpValue (FP.fcmp v FP.fconst0) .g).toInt ≤ 0 then some 0 else match m_h1 128 v 127 with
  | none => none
  | some x => match m_h2 128 x.1 x.2 with
    | none => none
    | some y => m_h3 y.1 y.2
def m_mv32 (s c : Int) : UInt32 := FP.fdiv (FP.i2f (Int32.ofInt s)) (FP.i2f (Int32.ofInt c))
def m_mok (s c : Nat) : Bool := decide (ag_n32 (m_mv32 s c)) && decide (Op.cmpValue (FP.fcmp (m_mv32 s c) (m_mv32 s c)) .l = 0) && decide (m_bits (m_mv32 s c) = some (m_mv32 s c).toInt32.toInt) && decide (ag_in (m_mv32 s c).toInt32.toInt)
def m_mall (c : Nat) : Nat → Bool
  | 0 => m_mok 0 c
  | k + 1 => m_mok (k + 1) c && m_mall c k
def m_mcs : Nat → Bool
  | 0 => true
  | c + 1 => m_mall (c + 1) (5 * (c + 1)) && m_mcs c
