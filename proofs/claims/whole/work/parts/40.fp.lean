/-- below 1: -1, as the machine compares -/
def zCm (o : Option Ordering) : Int := match o with
  | some .gt => 1
  | some .eq => 0
  | some .lt => -1
  | none => 1
theorem zCm_b (o : Option Ordering) : -1 ≤ zCm o ∧ zCm o ≤ 1 := by rcases o with _ | (_ | _ | _) <;> decide
abbrev zD2 : UInt64 := 4611686018427387904
abbrev zD52 : UInt64 := 4841369599423283200
def zBl : Nat → UInt64 → Int → UInt64 × Int
  | 0, v, x => (v, x)
  | m + 1, v, x => if 0 ≤ zCm (FP.dcmp v FP.dconst1) then (v, x) else zBl m (FP.dmul v zD2) (x - 1)
def zNn (r : UInt64) : Bool := decide (r &&& 0x7fffffffffffffff ≤ 0x7ff0000000000000)
/-- no step of the two loops is a NaN, and both end -/
def zBk : Nat → UInt64 → Bool
  | 0, _ => false
  | m + 1, v => if 0 ≤ zCm (FP.dcmp v FP.dconst1) then (zNn (FP.dsub v FP.dconst1) && zNn (FP.dmul (FP.dsub v FP.dconst1) zD52) && zNn (FP.dmul v zD52)) else (zNn (FP.dmul v zD2) && zBk m (FP.dmul v zD2))
def zBc (d : UInt64) : Int64 := (Int32.ofInt (zBl 12 d 1023).2).toInt64 <<< ((Int32.ofInt 52).toInt64 &&& 63) + FP.d2l (FP.dmul (FP.dsub (zBl 12 d 1023).1 FP.dconst1) zD52)
def zBm (d : UInt64) : Int64 := Int64.ofInt (zBl 12 d 1023).2 <<< ((Int32.ofInt 52).toInt64 &&& 63) + FP.d2l (FP.dmul (zBl 12 d 1023).1 zD52) - 4503599627370496
def zQd (a k : Nat) : UInt64 := FP.ddiv (FP.i2d (Int32.ofInt a)) (FP.i2d (Int32.ofInt ((k : Int) * 24)))
def zQk (d : UInt64) : Bool := zNn d && zBk 12 d && (zBc d == zBm d)
set_option maxRecDepth 100000 in
theorem zQ_1 : zQk FP.dconst1 = true := by decide +kernel
def zQr (ks : List Nat) : Bool := ks.all fun k => (List.range (24 * k + 1)).all fun a => a == 0 || zQk (zQd a k)
set_option maxRecDepth 100000 in
theorem zQ_g0 : zQr [1, 2, 3, 4, 5, 6] = true := by decide +kernel
set_option maxRecDepth 100000 in
theorem zQ_g1 : zQr [7, 8, 9] = true := by decide +kernel
set_option maxRecDepth 100000 in
theorem zQ_g2 : zQr [10, 11] = true := by decide +kernel
set_option maxRecDepth 100000 in
theorem zQ_g3 : zQr [12, 13] = true := by decide +kernel
set_option maxRecDepth 100000 in
theorem zQ_g4 : zQr [14] = true := by decide +kernel
set_option maxRecDepth 100000 in
theorem zQ_g5 : zQr [15] = true := by decide +kernel
set_option maxRecDepth 100000 in
theorem zQ_g6 : zQr [16] = true := by decide +kernel
