/-! rows that a symbolic run rewrites by, each side condition left to omega -/
theorem jlt {x y : Int} (a : -2147483648 ≤ x) (b : x ≤ 2147483647) (c : -2147483648 ≤ y) (e : y ≤ 2147483647) : (Int32.ofInt x < Int32.ofInt y) = (x < y) := propext (iI_lt ⟨a, b⟩ ⟨c, e⟩)
theorem jle {x y : Int} (a : -2147483648 ≤ x) (b : x ≤ 2147483647) (c : -2147483648 ≤ y) (e : y ≤ 2147483647) : (Int32.ofInt x ≤ Int32.ofInt y) = (x ≤ y) := propext (iI_le ⟨a, b⟩ ⟨c, e⟩)
theorem jeq {x y : Int} (a : -2147483648 ≤ x) (b : x ≤ 2147483647) (c : -2147483648 ≤ y) (e : y ≤ 2147483647) : (Int32.ofInt x = Int32.ofInt y) = (x = y) := propext (iI_eq ⟨a, b⟩ ⟨c, e⟩)
theorem jlt0 {x : Int} (a : -2147483648 ≤ x) (b : x ≤ 2147483647) : (Int32.ofInt x < 0) = (x < 0) := propext (zt0 ⟨a, b⟩)
theorem jle0 {x : Int} (a : -2147483648 ≤ x) (b : x ≤ 2147483647) : (Int32.ofInt x ≤ 0) = (x ≤ 0) := propext (zle0 ⟨a, b⟩)
theorem jeq0 {x : Int} (a : -2147483648 ≤ x) (b : x ≤ 2147483647) : (Int32.ofInt x = 0) = (x = 0) := propext (zeq0 ⟨a, b⟩)
theorem jge0 {x : Int} (a : -2147483648 ≤ x) (b : x ≤ 2147483647) : (0 ≤ Int32.ofInt x) = (0 ≤ x) := propext (zge0 ⟨a, b⟩)
theorem jgt0 {x : Int} (a : -2147483648 ≤ x) (b : x ≤ 2147483647) : (0 < Int32.ofInt x) = (0 < x) := propext (zgt0 ⟨a, b⟩)
theorem jinB {x : Int} {n : Nat} (a : 0 ≤ x) (b : x < n) (c : x ≤ 2147483647) : inB (Int32.ofInt x) n = true := (inB_iI ⟨by omega, c⟩).mpr ⟨a, b⟩
theorem jnat {x : Int} (a : 0 ≤ x) (c : x ≤ 2147483647) : (Int32.ofInt x).toNatClampNeg = x.toNat := iI_nat ⟨by omega, c⟩ a
theorem jadd {x y : Int} : Int32.ofInt x + Int32.ofInt y = Int32.ofInt (x + y) := iI_add x y
theorem jsub {x y : Int} : Int32.ofInt x - Int32.ofInt y = Int32.ofInt (x - y) := iI_sub x y
theorem jmul {x y : Int} : Int32.ofInt x * Int32.ofInt y = Int32.ofInt (x * y) := iI_mul x y
theorem jneg {x : Int} : -Int32.ofInt x = Int32.ofInt (-x) := iI_neg x
theorem jtol {x : Int} (a : -2147483648 ≤ x) (b : x ≤ 2147483647) : (Int32.ofInt x).toInt64 = Int64.ofInt x := iI_tol ⟨a, b⟩
theorem jmin {x y : Int} (a : -2147483648 ≤ x) (b : x ≤ 2147483647) (c : -2147483648 ≤ y) (e : y ≤ 2147483647) : (if Int32.ofInt y < Int32.ofInt x then Int32.ofInt y else Int32.ofInt x) = Int32.ofInt (min x y) := imin ⟨a, b⟩ ⟨c, e⟩
theorem jmax {x y : Int} (a : -2147483648 ≤ x) (b : x ≤ 2147483647) (c : -2147483648 ≤ y) (e : y ≤ 2147483647) : (if Int32.ofInt x < Int32.ofInt y then Int32.ofInt y else Int32.ofInt x) = Int32.ofInt (max x y) := imax ⟨a, b⟩ ⟨c, e⟩
theorem catS_n : catS [] = 0 := rfl
theorem catS_i {x : Int32} {r : List Value} : catS (.int x :: r) = 1 + catS r := by
  show List.sum (_ :: _) = _
  rw [List.sum_cons]
  rfl
theorem catS_r {x : Nat} {r : List Value} : catS (.ref x :: r) = 1 + catS r := by
  show List.sum (_ :: _) = _
  rw [List.sum_cons]
  rfl
theorem catS_l {x : Int64} {r : List Value} : catS (.long x :: r) = 2 + catS r := by
  show List.sum (_ :: _) = _
  rw [List.sum_cons]
  rfl
theorem kkI {h : Hp} {a i : Nat} {v : Int32} : zK (zsI h a i v) = zK h := rfl
theorem llI {h : Hp} {a i : Nat} {v : Int32} : zL (zsI h a i v) = zL h := rfl
theorem nnI {h : Hp} {a i : Nat} {v : Int32} : zN (zsI h a i v) = zN h := rfl
theorem rrI {h : Hp} {a i : Nat} {v : Int32} : zR (zsI h a i v) = zR h := rfl
theorem jjI {h : Hp} {a i : Nat} {v : Int32} : zJ (zsI h a i v) = zJ h := rfl
theorem kkJ {h : Hp} {a i : Nat} {v : Int64} : zK (zsJ h a i v) = zK h := rfl
theorem llJ {h : Hp} {a i : Nat} {v : Int64} : zL (zsJ h a i v) = zL h := rfl
theorem nnJ {h : Hp} {a i : Nat} {v : Int64} : zN (zsJ h a i v) = zN h := rfl
theorem rrJ {h : Hp} {a i : Nat} {v : Int64} : zR (zsJ h a i v) = zR h := rfl
theorem iiJ {h : Hp} {a i : Nat} {v : Int64} : zI (zsJ h a i v) = zI h := rfl
theorem nEF {a b : Nat} (h : ¬ a = b) : (a = b) = False := eq_false h
theorem nET {a b : Nat} (h : a = b) : (a = b) = True := eq_true h
theorem zIIs {h : Hp} {a i b j : Nat} {v : Int32} : zI (zsI h a i v) b j = if b = a ∧ j = i then v else zI h b j := rfl
theorem zJJs {h : Hp} {a i b j : Nat} {v : Int64} : zJ (zsJ h a i v) b j = if b = a ∧ j = i then v else zJ h b j := rfl
theorem lg_c {x y : Int} (hx : i64 x) (hy : i64 y) : lg_cmp (Int64.ofInt x) (Int64.ofInt y) = if y < x then 1 else if x = y then 0 else -1 := by
  unfold lg_cmp
  have e1 : (Int64.ofInt x > Int64.ofInt y) = (y < x) := propext (lI_lt hy hx)
  have e2 : (Int64.ofInt x = Int64.ofInt y) = (x = y) := propext (lI_eq hx hy)
  simp only [e1, e2]
theorem clt {x y : Int} (a : -9223372036854775808 ≤ x) (b : x ≤ 9223372036854775807) (c : -9223372036854775808 ≤ y) (e : y ≤ 9223372036854775807) : (lg_cmp (Int64.ofInt x) (Int64.ofInt y) < 0) = (x < y) := by
  rw [lg_c ⟨a, b⟩ ⟨c, e⟩]
  apply propext
  split
  · exact ⟨fun z => absurd z (by decide), fun z => by omega⟩
  · split
    · exact ⟨fun z => absurd z (by decide), fun z => by omega⟩
    · exact ⟨fun _ => by omega, fun _ => by decide⟩
theorem cge {x y : Int} (a : -9223372036854775808 ≤ x) (b : x ≤ 9223372036854775807) (c : -9223372036854775808 ≤ y) (e : y ≤ 9223372036854775807) : (0 ≤ lg_cmp (Int64.ofInt x) (Int64.ofInt y)) = (y ≤ x) := by
  rw [lg_c ⟨a, b⟩ ⟨c, e⟩]
  apply propext
  split
  · exact ⟨fun _ => by omega, fun _ => by decide⟩
  · split
    · exact ⟨fun _ => by omega, fun _ => by decide⟩
    · exact ⟨fun z => absurd z (by decide), fun z => by omega⟩
theorem cle {x y : Int} (a : -9223372036854775808 ≤ x) (b : x ≤ 9223372036854775807) (c : -9223372036854775808 ≤ y) (e : y ≤ 9223372036854775807) : (lg_cmp (Int64.ofInt x) (Int64.ofInt y) ≤ 0) = (x ≤ y) := by
  rw [lg_c ⟨a, b⟩ ⟨c, e⟩]
  apply propext
  split
  · exact ⟨fun z => absurd z (by decide), fun z => by omega⟩
  · split
    · exact ⟨fun _ => by omega, fun _ => by decide⟩
    · exact ⟨fun _ => by omega, fun _ => by decide⟩
theorem cgt {x y : Int} (a : -9223372036854775808 ≤ x) (b : x ≤ 9223372036854775807) (c : -9223372036854775808 ≤ y) (e : y ≤ 9223372036854775807) : (0 < lg_cmp (Int64.ofInt x) (Int64.ofInt y)) = (y < x) := by
  rw [lg_c ⟨a, b⟩ ⟨c, e⟩]
  apply propext
  split
  · exact ⟨fun _ => by omega, fun _ => by decide⟩
  · split
    · exact ⟨fun z => absurd z (by decide), fun z => by omega⟩
    · exact ⟨fun z => absurd z (by decide), fun z => by omega⟩
theorem ceq {x y : Int} (a : -9223372036854775808 ≤ x) (b : x ≤ 9223372036854775807) (c : -9223372036854775808 ≤ y) (e : y ≤ 9223372036854775807) : (lg_cmp (Int64.ofInt x) (Int64.ofInt y) = 0) = (x = y) := by
  rw [lg_c ⟨a, b⟩ ⟨c, e⟩]
  apply propext
  split
  · exact ⟨fun z => absurd z (by decide), fun z => by omega⟩
  · split
    · exact ⟨fun _ => by omega, fun _ => rfl⟩
    · exact ⟨fun z => absurd z (by decide), fun z => by omega⟩
theorem b010 : (Int32.ofInt 0 = 0 ∨ Int32.ofInt 0 = 1) = True := eq_true (Or.inl rfl)
theorem b011 : (Int32.ofInt 1 = 0 ∨ Int32.ofInt 1 = 1) = True := eq_true (Or.inr rfl)
theorem pv_2t {h : Hp} {a j b : Nat} (hb : b < zN h) : pv h a j 2 (.ref b) = some (zsR h a j (some b)) := if_pos hb
theorem pv_30 {h : Hp} {a j : Nat} : pv h a j 3 (.int (Int32.ofInt 0)) = some (zsI h a j (Int32.ofInt 0)) := rfl
theorem pv_31 {h : Hp} {a j : Nat} : pv h a j 3 (.int (Int32.ofInt 1)) = some (zsI h a j (Int32.ofInt 1)) := rfl
/-- a yes or no -/
abbrev bI (p : Prop) [Decidable p] : Int32 := if p then 1 else 0
theorem bI_or (p : Prop) [Decidable p] : (bI p = 0 ∨ bI p = 1) = True := by
  apply eq_true
  unfold bI
  split
  · exact Or.inr rfl
  · exact Or.inl rfl
theorem bI_0 (p : Prop) [Decidable p] : ((if p then (1 : Int32) else 0) = 0) = ¬ p := by
  by_cases c : p
  · simp [c]
  · simp [c]
-- bits
theorem iN (a : Nat) : (Int32.ofInt (a : Int)).toBitVec = BitVec.ofNat 32 a := by
  show BitVec.ofInt 32 (a : Int) = _
  exact BitVec.ofInt_natCast 32 a
theorem jand (a b : Nat) : Int32.ofInt (a : Int) &&& Int32.ofInt (b : Int) = Int32.ofInt ((a &&& b : Nat) : Int) := by
  apply Int32.toBitVec_inj.mp
  rw [Int32.toBitVec_and, iN, iN, iN, BitVec.ofNat_and]
theorem jor (a b : Nat) : Int32.ofInt (a : Int) ||| Int32.ofInt (b : Int) = Int32.ofInt ((a ||| b : Nat) : Int) := by
  apply Int32.toBitVec_inj.mp
  rw [Int32.toBitVec_or, iN, iN, iN, BitVec.ofNat_or]
theorem jxor (a b : Nat) : Int32.ofInt (a : Int) ^^^ Int32.ofInt (b : Int) = Int32.ofInt ((a ^^^ b : Nat) : Int) := by
  apply Int32.toBitVec_inj.mp
  rw [Int32.toBitVec_xor, iN, iN, iN, BitVec.ofNat_xor]
theorem jand1 (a : Nat) : Int32.ofInt (a : Int) &&& Int32.ofInt 1 = Int32.ofInt ((a % 2 : Nat) : Int) := by
  have := jand a 1
  rw [Nat.and_one_is_mod] at this
  exact this
theorem s31 : ∀ k, k < 32 → ((Int32.ofInt ((k : Nat) : Int)) &&& 31).toBitVec.smod 32 = BitVec.ofNat 32 k := by decide
theorem jshl (a k : Nat) (hk : k < 32) : Int32.ofInt (a : Int) <<< (Int32.ofInt (k : Int) &&& 31) = Int32.ofInt ((a * 2 ^ k : Nat) : Int) := by
  apply Int32.toBitVec_inj.mp
  rw [Int32.toBitVec_shiftLeft, s31 k hk, iN, iN]
  apply BitVec.eq_of_toNat_eq
  show (BitVec.ofNat 32 a <<< (BitVec.ofNat 32 k).toNat).toNat = _
  rw [BitVec.toNat_shiftLeft, BitVec.toNat_ofNat, BitVec.toNat_ofNat, BitVec.toNat_ofNat, Nat.shiftLeft_eq, Nat.mod_eq_of_lt (show k < 2 ^ 32 by omega), Nat.mod_mul_mod]
theorem jshl1 (k : Nat) (hk : k < 32) : Int32.ofInt 1 <<< (Int32.ofInt (k : Int) &&& 31) = Int32.ofInt ((2 ^ k : Nat) : Int) := by
  have := jshl 1 k hk
  rw [Nat.one_mul] at this
  exact this
theorem jshr (a k : Nat) (ha : a < 2147483648) (hk : k < 32) : Int32.ofInt (a : Int) >>> (Int32.ofInt (k : Int) &&& 31) = Int32.ofInt ((a / 2 ^ k : Nat) : Int) := by
  have hq : a / 2 ^ k ≤ a := Nat.div_le_self _ _
  have hb : i32 ((a / 2 ^ k : Nat) : Int) := by
    generalize a / 2 ^ k = g at hq
    constructor <;> omega
  apply Int32.toInt_inj.mp
  rw [iI_toInt hb]
  show ((Int32.ofInt (a : Int) >>> (Int32.ofInt (k : Int) &&& 31)).toBitVec).toInt = _
  rw [Int32.toBitVec_shiftRight, s31 k hk, BitVec.toInt_sshiftRight', BitVec.toNat_ofNat, Nat.mod_eq_of_lt (show k < 2 ^ 32 by omega)]
  show (Int32.ofInt (a : Int)).toInt >>> k = _
  rw [iI_toInt (by constructor <;> omega), Int.shiftRight_eq_div_pow]
  exact (Int.natCast_ediv a (2 ^ k)).symm ▸ rfl
theorem p2_lt {k n : Nat} (h : k < n) : 2 ^ k < 2 ^ n := Nat.pow_lt_pow_right (by omega) h
theorem p2_12 {k : Nat} (h : k < 12) : 2 ^ k < 4096 := p2_lt h
theorem tb_mod (a k : Nat) : a / 2 ^ k % 2 = if a.testBit k then 1 else 0 := by
  rw [Nat.testBit_eq_decide_div_mod_eq]
  by_cases c : a / 2 ^ k % 2 = 1
  · rw [decide_eq_true c, c]
    rfl
  · rw [decide_eq_false c]
    show _ = 0
    omega
theorem jif0 (p : Prop) [Decidable p] : (Int32.ofInt (if p then 1 else 0) = 0) = ¬ p := by
  by_cases c : p
  · rw [if_pos c]
    exact propext ⟨fun z => absurd z (by decide), fun z => absurd c z⟩
  · rw [if_neg c]
    exact propext ⟨fun _ => c, fun _ => rfl⟩
theorem jif1 (p : Prop) [Decidable p] : (Int32.ofInt (if p then 1 else 0) = Int32.ofInt 1) = p := by
  by_cases c : p
  · rw [if_pos c]
    exact propext ⟨fun _ => c, fun _ => rfl⟩
  · rw [if_neg c]
    exact propext ⟨fun z => absurd z (by decide), fun z => absurd z c⟩
theorem jifb (p : Prop) [Decidable p] : (Int32.ofInt (if p then 1 else 0) = 0 ∨ Int32.ofInt (if p then 1 else 0) = 1) = True := by
  apply eq_true
  split
  · exact Or.inr rfl
  · exact Or.inl rfl
theorem jt0 (p : Prop) [Decidable p] : ((if p then (1 : Int) else 0) = 0) = ¬ p := by
  by_cases c : p
  · rw [if_pos c]
    exact propext ⟨fun z => absurd z (by omega), fun z => absurd c z⟩
  · rw [if_neg c]
    exact propext ⟨fun _ => c, fun _ => rfl⟩
theorem jt1 (p : Prop) [Decidable p] : ((if p then (1 : Int) else 0) = 1) = p := by
  by_cases c : p
  · rw [if_pos c]
    exact propext ⟨fun _ => c, fun _ => rfl⟩
  · rw [if_neg c]
    exact propext ⟨fun z => absurd z (by omega), fun z => absurd z c⟩
theorem j1eq1 : (Int32.ofInt 1 = 1) = True := eq_true rfl
theorem n21 : ((2 : Nat) = 1) = False := eq_false (by omega)
theorem ltT {x y : Int} (h : x < y) : (x < y) = True := eq_true h
theorem ltF {x y : Int} (h : ¬ x < y) : (x < y) = False := eq_false h
theorem leT {x y : Int} (h : x ≤ y) : (x ≤ y) = True := eq_true h
theorem leF {x y : Int} (h : ¬ x ≤ y) : (x ≤ y) = False := eq_false h
theorem eqT {x y : Int} (h : x = y) : (x = y) = True := eq_true h
theorem eqF {x y : Int} (h : ¬ x = y) : (x = y) = False := eq_false h
theorem jbit (a b : Nat) (ha : a < 2147483648) (hb : b < 32) : (Int32.ofInt (a : Int) >>> (Int32.ofInt (b : Int) &&& 31)) &&& Int32.ofInt 1 = Int32.ofInt (if a.testBit b = true then 1 else 0) := by
  rw [jshr a b ha hb, jand1, tb_mod]
  split <;> rfl
/-- h' is h but for numbers in the cells S: no reference changes -/
def fi (S : Nat → Prop) (h h' : Hp) : Prop := fr S h h' ∧ zR h' = zR h
theorem fi.rf {S : Nat → Prop} {h : Hp} : fi S h h := ⟨fr.rf, rfl⟩
theorem fi.tr {S : Nat → Prop} {a b c : Hp} (h1 : fi S a b) (h2 : fi S b c) : fi S a c := ⟨h1.1.tr h2.1, h2.2.trans h1.2⟩
theorem fi.wk {S T : Nat → Prop} {a b : Hp} (h1 : fi S a b) (hs : ∀ q, S q → T q) : fi T a b := ⟨h1.1.wk hs, h1.2⟩
theorem fi_I {S : Nat → Prop} {h : Hp} {a i : Nat} {v : Int32} (ha : S a) : fi S h (zsI h a i v) := ⟨fr_I ha, rfl⟩
theorem fi_J {S : Nat → Prop} {h : Hp} {a i : Nat} {v : Int64} (ha : S a) : fi S h (zsJ h a i v) := ⟨fr_J ha, rfl⟩
theorem fi.I {S : Nat → Prop} {h g : Hp} {a i : Nat} {v : Int32} (hf : fi S h g) (ha : S a) : fi S h (zsI g a i v) := hf.tr (fi_I ha)
theorem fi.J {S : Nat → Prop} {h g : Hp} {a i : Nat} {v : Int64} (hf : fi S h g) (ha : S a) : fi S h (zsJ g a i v) := hf.tr (fi_J ha)
/-- what is of kinds, lengths, references alone -/
abbrev skT : Type := (Nat → Nat) × (Nat → Nat) × Nat × (Nat → Nat → Option Nat)
def sk (h : Hp) : skT := (zK h, zL h, zN h, zR h)
theorem fi_sk {S : Nat → Prop} {h g : Hp} (hf : fi S h g) : sk g = sk h := by
  unfold sk
  rw [hf.1.1, hf.1.2.1, hf.1.2.2.1, hf.2]
theorem zI_s {h : Hp} {a i b j : Nat} {v : Int32} : zI (zsI h a i v) b j = if b = a ∧ j = i then v else zI h b j := rfl
