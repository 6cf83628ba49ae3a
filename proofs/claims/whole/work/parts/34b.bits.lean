/-! bits, counted as the JDK counts them -/
/-- how many bits of n are set, of the lowest k -/
def pcN (n : Nat) : Nat → Nat
  | 0 => 0
  | k + 1 => pcN n k + (n >>> k) % 2
def bcF (x : Int32) : Int32 :=
  let s (x y : Int32) : Int32 := (x.toUInt32 >>> (y.toUInt32 &&& Int32.toUInt32 31)).toInt32
  let a := x - (s x (Int32.ofInt 1) &&& Int32.ofInt 1431655765)
  let b := (a &&& Int32.ofInt 858993459) + (s a (Int32.ofInt 2) &&& Int32.ofInt 858993459)
  let c := (b + s b (Int32.ofInt 4)) &&& Int32.ofInt 252645135
  let e := c + s c (Int32.ofInt 8)
  let f := e + s e (Int32.ofInt 16)
  f &&& Int32.ofInt 63
set_option maxRecDepth 100000 in
theorem bcF_ok : ∀ n, n < 4096 → bcF (iI (n : Nat)) = iI (pcN n 12 : Nat) := by decide +kernel
