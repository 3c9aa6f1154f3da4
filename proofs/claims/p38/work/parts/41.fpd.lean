/-! doubles: halves, doubles, exponents; their bits by the class's arithmetic -/
def dD (c : Nat) (q : Int) : UInt64 := FP.Core.of64 (.fin false c q)
theorem k2 : (4611686018427387904 : UInt64) = dD (2 ^ 52) (-51) := by decide +kernel
theorem k1 : FP.dconst1 = dD (2 ^ 52) (-52) := by decide +kernel
