/-! ints and longs as whole numbers -/
abbrev iI (x : Int) : Int32 := Int32.ofInt x
abbrev lI (x : Int) : Int64 := Int64.ofInt x
/-- x is an int -/
abbrev i32 (x : Int) : Prop := -2147483648 ≤ x ∧ x ≤ 2147483647
abbrev i64 (x : Int) : Prop := -9223372036854775808 ≤ x ∧ x ≤ 9223372036854775807
theorem iI_toInt {x : Int} (h : i32 x) : (iI x).toInt = x := Int32.toInt_ofInt_of_le (by have := h.1; omega) (by have := h.2; omega)
theorem lI_toInt {x : Int} (h : i64 x) : (lI x).toInt = x := Int64.toInt_ofInt_of_le (by have := h.1; omega) (by have := h.2; omega)
theorem iI_of (x : Int32) : iI x.toInt = x := Int32.ofInt_toInt x
theorem lI_of (x : Int64) : lI x.toInt = x := Int64.ofInt_toInt x
theorem i32_of (x : Int32) : i32 x.toInt := by
  have h1 := Int32.le_toInt x
  have h2 := Int32.toInt_lt x
  constructor <;> omega
theorem i64_of (x : Int64) : i64 x.toInt := by
  have h1 := Int64.le_toInt x
  have h2 := Int64.toInt_lt x
  constructor <;> omega
theorem iI_add (x y : Int) : iI x + iI y = iI (x + y) := (Int32.ofInt_add x y).symm
theorem iI_sub (x y : Int) : iI x - iI y = iI (x - y) := (Int32.ofInt_sub x y).symm
theorem iI_mul (x y : Int) : iI x * iI y = iI (x * y) := (Int32.ofInt_mul x y).symm
theorem iI_neg (x : Int) : -iI x = iI (-x) := (Int32.ofInt_neg x).symm
theorem lI_add (x y : Int) : lI x + lI y = lI (x + y) := (Int64.ofInt_add x y).symm
theorem lI_sub (x y : Int) : lI x - lI y = lI (x - y) := (Int64.ofInt_sub x y).symm
theorem lI_mul (x y : Int) : lI x * lI y = lI (x * y) := (Int64.ofInt_mul x y).symm
theorem lI_neg (x : Int) : -lI x = lI (-x) := (Int64.ofInt_neg x).symm
theorem iI_lt {x y : Int} (hx : i32 x) (hy : i32 y) : iI x < iI y ↔ x < y := by
  rw [Int32.lt_iff_toInt_lt, iI_toInt hx, iI_toInt hy]
theorem iI_le {x y : Int} (hx : i32 x) (hy : i32 y) : iI x ≤ iI y ↔ x ≤ y := by
  rw [Int32.le_iff_toInt_le, iI_toInt hx, iI_toInt hy]
theorem iI_eq {x y : Int} (hx : i32 x) (hy : i32 y) : iI x = iI y ↔ x = y := by
  constructor
  · intro h
    have := congrArg Int32.toInt h
    rwa [iI_toInt hx, iI_toInt hy] at this
  · intro h
    rw [h]
theorem lI_lt {x y : Int} (hx : i64 x) (hy : i64 y) : lI x < lI y ↔ x < y := by
  rw [Int64.lt_iff_toInt_lt, lI_toInt hx, lI_toInt hy]
theorem lI_le {x y : Int} (hx : i64 x) (hy : i64 y) : lI x ≤ lI y ↔ x ≤ y := by
  rw [Int64.le_iff_toInt_le, lI_toInt hx, lI_toInt hy]
theorem lI_eq {x y : Int} (hx : i64 x) (hy : i64 y) : lI x = lI y ↔ x = y := by
  constructor
  · intro h
    have := congrArg Int64.toInt h
    rwa [lI_toInt hx, lI_toInt hy] at this
  · intro h
    rw [h]
theorem iI_nat {x : Int} (h : i32 x) (h0 : 0 ≤ x) : (iI x).toNatClampNeg = x.toNat := by
  show (iI x).toInt.toNat = _
  rw [iI_toInt h]
theorem nI_iI (n : Nat) : nI n = iI n := by
  show Int32.ofNat n = Int32.ofInt n
  exact (Int32.ofInt_eq_ofNat).symm
theorem n0_iI : (0 : Int32) = iI 0 := rfl
theorem n0_lI : (0 : Int64) = lI 0 := rfl
theorem n1_iI : (1 : Int32) = iI 1 := rfl
theorem inB_iI {x : Int} {n : Nat} (h : i32 x) : inB (iI x) n = true ↔ 0 ≤ x ∧ x < n := by
  unfold inB
  rw [Bool.and_eq_true, decide_eq_true_eq, decide_eq_true_eq, n0_iI, iI_le (by constructor <;> omega) h]
  constructor
  · rintro ⟨h1, h2⟩
    rw [iI_nat h h1] at h2
    omega
  · rintro ⟨h1, h2⟩
    refine ⟨h1, ?_⟩
    rw [iI_nat h h1]
    omega
theorem iI_tol {x : Int} (h : i32 x) : (iI x).toInt64 = lI x := by
  have h1 : (iI x).toInt64.toInt = x := by
    rw [Int32.toInt_toInt64, iI_toInt h]
  rw [← lI_of (iI x).toInt64, h1]
theorem lI_toi {x : Int} (h : i32 x) : (lI x).toInt32 = iI x := by
  have h2 : i64 x := by constructor <;> have := h.1 <;> have := h.2 <;> omega
  have h1 : (lI x).toInt32.toInt = x := by
    rw [Int64.toInt_toInt32, lI_toInt h2]
    have := Int32.toInt_bmod (iI x)
    rwa [iI_toInt h] at this
  rw [← iI_of (lI x).toInt32, h1]
theorem iI_div {x y : Int} (hx : i32 x) (hy : i32 y) (h0 : 0 ≤ x) (h1 : 0 < y) : iI x / iI y = iI (x / y) := by
  apply Int32.toInt_inj.mp
  have e : x.tdiv y = x / y := Int.tdiv_eq_ediv_of_nonneg h0
  have b : i32 (x / y) := by
    have h2 : 0 ≤ x / y := Int.ediv_nonneg h0 (by omega)
    have h3 : x / y ≤ x := Int.ediv_le_self y h0
    constructor <;> have := hx.2 <;> omega
  rw [Int32.toInt_div, iI_toInt hx, iI_toInt hy, e, iI_toInt b]
  have := Int32.toInt_bmod (iI (x / y))
  rwa [iI_toInt b] at this
theorem iI_mod {x y : Int} (hx : i32 x) (hy : i32 y) (h0 : 0 ≤ x) (h1 : 0 < y) : iI x % iI y = iI (x % y) := by
  apply Int32.toInt_inj.mp
  have e : x.tmod y = x % y := Int.tmod_eq_emod_of_nonneg h0
  have b : i32 (x % y) := by
    have h2 : 0 ≤ x % y := Int.emod_nonneg _ (by omega)
    have h3 : x % y < y := Int.emod_lt_of_pos _ h1
    constructor <;> have := hy.2 <;> omega
  rw [Int32.toInt_mod, iI_toInt hx, iI_toInt hy, e, iI_toInt b]
theorem lI_div {x y : Int} (hx : i64 x) (hy : i64 y) (h0 : 0 ≤ x) (h1 : 0 < y) : lI x / lI y = lI (x / y) := by
  apply Int64.toInt_inj.mp
  have e : x.tdiv y = x / y := Int.tdiv_eq_ediv_of_nonneg h0
  have b : i64 (x / y) := by
    have h2 : 0 ≤ x / y := Int.ediv_nonneg h0 (by omega)
    have h3 : x / y ≤ x := Int.ediv_le_self y h0
    constructor <;> have := hx.2 <;> omega
  rw [Int64.toInt_div, lI_toInt hx, lI_toInt hy, e, lI_toInt b]
  have := Int64.toInt_bmod (lI (x / y))
  rwa [lI_toInt b] at this
theorem lI_mod {x y : Int} (hx : i64 x) (hy : i64 y) (h0 : 0 ≤ x) (h1 : 0 < y) : lI x % lI y = lI (x % y) := by
  apply Int64.toInt_inj.mp
  have e : x.tmod y = x % y := Int.tmod_eq_emod_of_nonneg h0
  have b : i64 (x % y) := by
    have h2 : 0 ≤ x % y := Int.emod_nonneg _ (by omega)
    have h3 : x % y < y := Int.emod_lt_of_pos _ h1
    constructor <;> have := hy.2 <;> omega
  rw [Int64.toInt_mod, lI_toInt hx, lI_toInt hy, e, lI_toInt b]
theorem lI_0 : lI 0 = 0 := rfl
theorem iI_0 : iI 0 = 0 := rfl
