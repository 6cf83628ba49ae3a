/-! A SMALL PURE MACHINE: cells by their number (0, 1 .. as they are made), typed contents. -/
abbrev Hp : Type := (Nat → Nat) × (Nat → Nat) × (Nat → Nat → Int32) × (Nat → Nat → Int64) × (Nat → Nat → Option Nat) × (Nat × Nat × Nat)
def zK (h : Hp) : Nat → Nat := h.1
def zL (h : Hp) : Nat → Nat := h.2.1
def zI (h : Hp) : Nat → Nat → Int32 := h.2.2.1
def zJ (h : Hp) : Nat → Nat → Int64 := h.2.2.2.1
def zR (h : Hp) : Nat → Nat → Option Nat := h.2.2.2.2.1
def zN (h : Hp) : Nat := h.2.2.2.2.2.1
def zC (h : Hp) : Nat := h.2.2.2.2.2.2.1
def zS (h : Hp) : Nat := h.2.2.2.2.2.2.2
def u1 {α : Type} (f : Nat → α) (a : Nat) (v : α) : Nat → α := fun b => if b = a then v else f b
def u2 {α : Type} (f : Nat → Nat → α) (a i : Nat) (v : α) : Nat → Nat → α := fun b j => if b = a ∧ j = i then v else f b j
def zsI (h : Hp) (a i : Nat) (v : Int32) : Hp := (h.1, h.2.1, u2 h.2.2.1 a i v, h.2.2.2)
def zsJ (h : Hp) (a i : Nat) (v : Int64) : Hp := (h.1, h.2.1, h.2.2.1, u2 h.2.2.2.1 a i v, h.2.2.2.2)
def zsR (h : Hp) (a i : Nat) (v : Option Nat) : Hp := (h.1, h.2.1, h.2.2.1, h.2.2.2.1, u2 h.2.2.2.2.1 a i v, h.2.2.2.2.2)
/-- a new cell of kind k and length n, all zero; it takes s slots -/
def zNew (h : Hp) (k n s : Nat) : Hp := (u1 (zK h) (zN h) k, u1 (zL h) (zN h) n, u1 (zI h) (zN h) (fun _ => 0), u1 (zJ h) (zN h) (fun _ => 0), u1 (zR h) (zN h) (fun _ => none), (zN h + 1, zC h + 1, zS h + s))
/-- an exception's cell: counted, in no list -/
def zThr (h : Hp) : Hp := (h.1, h.2.1, h.2.2.1, h.2.2.2.1, h.2.2.2.2.1, (zN h, zC h + 1, zS h + 6))
def zCpy (h : Hp) (a b sp dp n : Nat) : Hp := (h.1, h.2.1, u1 h.2.2.1 b (va_cpy (zI h a) (zI h b) sp dp n), h.2.2.2)
/-- the script's own number -/
def zSC : Nat := 1000000
abbrev Fr : Type := Nat × List (Option Value) × List Value × Hp
def ps0 (ls : List (Option Value)) : Nat → List (Option Value)
  | 0 => ls
  | n + 1 => match ls[n]? with
    | some (some v) => if v.category = 2 then ls.set n none else ls
    | _ => ls
def ps1 (ls : List (Option Value)) (n : Nat) (v : Value) : List (Option Value) := (ps0 ls n).set n (some v)
def ps2 (ls : List (Option Value)) (n : Nat) (v : Value) : List (Option Value) := ((ps0 ls n).set n (some v)).set (n + 1) none
def vOK (N : Nat) : Value → Bool
  | .ref a => decide (a < N ∨ a = zSC)
  | _ => true
def oOK (N : Nat) : Option Value → Bool
  | some v => vOK N v
  | none => true
def fOK (N : Nat) (ls : List (Option Value)) (st : List Value) : Bool := ls.all (oOK N) && st.all (vOK N)
def catS (st : List Value) : Nat := (st.map fun v => v.category).sum
def xLdI (n i : Nat) (ls : List (Option Value)) (st : List Value) (h : Hp) : Option Fr := match ls[n]? with
  | some (some (.int x)) => some (i + 1, ls, .int x :: st, h)
  | _ => none
def xLdL (n i : Nat) (ls : List (Option Value)) (st : List Value) (h : Hp) : Option Fr := match ls[n]? with
  | some (some (.long x)) => some (i + 1, ls, .long x :: st, h)
  | _ => none
def xLdA (n i : Nat) (ls : List (Option Value)) (st : List Value) (h : Hp) : Option Fr := match ls[n]? with
  | some (some (.ref x)) => some (i + 1, ls, .ref x :: st, h)
  | _ => none
def xStI (n i : Nat) (ls : List (Option Value)) (st : List Value) (h : Hp) : Option Fr := match st with
  | .int x :: r => if n < ls.length then some (i + 1, ps1 ls n (.int x), r, h) else none
  | _ => none
def xStL (n i : Nat) (ls : List (Option Value)) (st : List Value) (h : Hp) : Option Fr := match st with
  | .long x :: r => if n + 1 < ls.length then some (i + 1, ps2 ls n (.long x), r, h) else none
  | _ => none
def xStA (n i : Nat) (ls : List (Option Value)) (st : List Value) (h : Hp) : Option Fr := match st with
  | .ref x :: r => if n < ls.length then some (i + 1, ps1 ls n (.ref x), r, h) else none
  | _ => none
def xInc (n : Nat) (c : Int) (i : Nat) (ls : List (Option Value)) (st : List Value) (h : Hp) : Option Fr := match ls[n]? with
  | some (some (.int x)) => some (i + 1, ps1 ls n (.int (x + Int32.ofInt c)), st, h)
  | _ => none
def xI2 (f : Int32 → Int32 → Int32) (i : Nat) (ls : List (Option Value)) (st : List Value) (h : Hp) : Option Fr := match st with
  | .int y :: .int x :: r => some (i + 1, ls, .int (f x y) :: r, h)
  | _ => none
def xI2z (f : Int32 → Int32 → Int32) (i : Nat) (ls : List (Option Value)) (st : List Value) (h : Hp) : Option Fr := match st with
  | .int y :: .int x :: r => if y = 0 then none else some (i + 1, ls, .int (f x y) :: r, h)
  | _ => none
def xL2 (f : Int64 → Int64 → Int64) (i : Nat) (ls : List (Option Value)) (st : List Value) (h : Hp) : Option Fr := match st with
  | .long y :: .long x :: r => some (i + 1, ls, .long (f x y) :: r, h)
  | _ => none
def xL2z (f : Int64 → Int64 → Int64) (i : Nat) (ls : List (Option Value)) (st : List Value) (h : Hp) : Option Fr := match st with
  | .long y :: .long x :: r => if y = 0 then none else some (i + 1, ls, .long (f x y) :: r, h)
  | _ => none
def xLsh (f : Int64 → Int32 → Int64) (i : Nat) (ls : List (Option Value)) (st : List Value) (h : Hp) : Option Fr := match st with
  | .int y :: .long x :: r => some (i + 1, ls, .long (f x y) :: r, h)
  | _ => none
def xCmp (i : Nat) (ls : List (Option Value)) (st : List Value) (h : Hp) : Option Fr := match st with
  | .long y :: .long x :: r => some (i + 1, ls, .int (lg_cmp x y) :: r, h)
  | _ => none
def xI1 (f : Int32 → Value) (i : Nat) (ls : List (Option Value)) (st : List Value) (h : Hp) : Option Fr := match st with
  | .int x :: r => some (i + 1, ls, f x :: r, h)
  | _ => none
def xL1 (f : Int64 → Value) (i : Nat) (ls : List (Option Value)) (st : List Value) (h : Hp) : Option Fr := match st with
  | .long x :: r => some (i + 1, ls, f x :: r, h)
  | _ => none
def xDup (i : Nat) (ls : List (Option Value)) (st : List Value) (h : Hp) : Option Fr := match st with
  | v :: r => if v.category = 1 then some (i + 1, ls, v :: v :: r, h) else none
  | _ => none
def xDup2 (i : Nat) (ls : List (Option Value)) (st : List Value) (h : Hp) : Option Fr := match st with
  | v :: w :: r => if v.category = 1 ∧ w.category = 1 then some (i + 1, ls, v :: w :: v :: w :: r, h) else none
  | _ => none
def xPop (i : Nat) (ls : List (Option Value)) (st : List Value) (h : Hp) : Option Fr := match st with
  | v :: r => if v.category = 1 then some (i + 1, ls, r, h) else none
  | _ => none
def cnd : Jvm.ClassFile.Cond → Int32 → Int32 → Bool
  | .eq, x, y => decide (x = y)
  | .ne, x, y => decide (x ≠ y)
  | .lt, x, y => decide (x < y)
  | .ge, x, y => decide (y ≤ x)
  | .gt, x, y => decide (y < x)
  | .le, x, y => decide (x ≤ y)
def xBr2 (c : Jvm.ClassFile.Cond) (t : Int) (i : Nat) (ls : List (Option Value)) (st : List Value) (h : Hp) : Option Fr := match st with
  | .int y :: .int x :: r => some (bif cnd c x y then t.toNat else i + 1, ls, r, h)
  | _ => none
def xBr1 (c : Jvm.ClassFile.Cond) (t : Int) (i : Nat) (ls : List (Option Value)) (st : List Value) (h : Hp) : Option Fr := match st with
  | .int x :: r => some (bif cnd c x 0 then t.toNat else i + 1, ls, r, h)
  | _ => none
def swt (d lo hi : Int) (o : Array Int) (x : Int32) : Nat := if x.toInt < lo ∨ hi < x.toInt then d.toNat else ((o[(x.toInt - lo).toNat]?).getD 0).toNat
def xSw (d lo hi : Int) (o : Array Int) (i : Nat) (ls : List (Option Value)) (st : List Value) (h : Hp) : Option Fr := match st with
  | .int x :: r => some (swt d lo hi o x, ls, r, h)
  | _ => none
def gv (h : Hp) (a j : Nat) : Nat → Value
  | 1 => .long (zJ h a j)
  | 2 => va_rf (zR h a j)
  | _ => .int (zI h a j)
def xGet (c i : Nat) (ls : List (Option Value)) (st : List Value) (h : Hp) : Option Fr := match st with
  | .ref a :: r => if zK h a = c / 1000 ∧ a < zN h then some (i + 1, ls, gv h a (c / 10 % 100) (c % 10) :: r, h) else none
  | _ => none
def pv (h : Hp) (a j : Nat) : Nat → Value → Option Hp
  | 0, .int x => some (zsI h a j x)
  | 1, .long x => some (zsJ h a j x)
  | 2, .ref b => if b < zN h then some (zsR h a j (some b)) else none
  | 3, .int x => if x = 0 ∨ x = 1 then some (zsI h a j x) else none
  | _, _ => none
def xPut (c i : Nat) (ls : List (Option Value)) (st : List Value) (h : Hp) : Option Fr := match st with
  | v :: .ref a :: r => if zK h a = c / 1000 ∧ a < zN h then (match pv h a (c / 10 % 100) (c % 10) v with
    | some h' => some (i + 1, ls, r, h')
    | none => none) else none
  | _ => none
/-- the place i lies within n places -/
def inB (i : Int32) (n : Nat) : Bool := decide (0 ≤ i) && decide (i.toNatClampNeg < n)
def xIal (i : Nat) (ls : List (Option Value)) (st : List Value) (h : Hp) : Option Fr := match st with
  | .int j :: .ref a :: r => if zK h a = 14 ∧ a < zN h ∧ inB j (zL h a) = true then some (i + 1, ls, .int (zI h a j.toNatClampNeg) :: r, h) else none
  | _ => none
def xSal (i : Nat) (ls : List (Option Value)) (st : List Value) (h : Hp) : Option Fr := match st with
  | .int j :: .ref a :: r => if a = zSC ∧ inB j (zL h a) = true then some (i + 1, ls, .int (zI h a j.toNatClampNeg) :: r, h) else none
  | _ => none
def xSlen (i : Nat) (ls : List (Option Value)) (st : List Value) (h : Hp) : Option Fr := match st with
  | .ref a :: r => if a = zSC then some (i + 1, ls, .int (Int32.ofNat (zL h a)) :: r, h) else none
  | _ => none
def xIas (i : Nat) (ls : List (Option Value)) (st : List Value) (h : Hp) : Option Fr := match st with
  | .int x :: .int j :: .ref a :: r => if zK h a = 14 ∧ a < zN h ∧ inB j (zL h a) = true then some (i + 1, ls, r, zsI h a j.toNatClampNeg x) else none
  | _ => none
def xJal (i : Nat) (ls : List (Option Value)) (st : List Value) (h : Hp) : Option Fr := match st with
  | .int j :: .ref a :: r => if zK h a = 15 ∧ a < zN h ∧ inB j (zL h a) = true then some (i + 1, ls, .long (zJ h a j.toNatClampNeg) :: r, h) else none
  | _ => none
def xJas (i : Nat) (ls : List (Option Value)) (st : List Value) (h : Hp) : Option Fr := match st with
  | .long x :: .int j :: .ref a :: r => if zK h a = 15 ∧ a < zN h ∧ inB j (zL h a) = true then some (i + 1, ls, r, zsJ h a j.toNatClampNeg x) else none
  | _ => none
def xBal (i : Nat) (ls : List (Option Value)) (st : List Value) (h : Hp) : Option Fr := match st with
  | .int j :: .ref a :: r => if (zK h a = 13 ∨ zK h a = 16) ∧ a < zN h ∧ inB j (zL h a) = true then some (i + 1, ls, .int (zI h a j.toNatClampNeg) :: r, h) else none
  | _ => none
def xBas (i : Nat) (ls : List (Option Value)) (st : List Value) (h : Hp) : Option Fr := match st with
  | .int x :: .int j :: .ref a :: r => if a < zN h ∧ inB j (zL h a) = true then (if zK h a = 13 then some (i + 1, ls, r, zsI h a j.toNatClampNeg (vp_nar .byte x)) else if zK h a = 16 then some (i + 1, ls, r, zsI h a j.toNatClampNeg (vp_nar .boolean x)) else none) else none
  | _ => none
def xAal (i : Nat) (ls : List (Option Value)) (st : List Value) (h : Hp) : Option Fr := match st with
  | .int j :: .ref a :: r => if zK h a = 17 ∧ a < zN h ∧ inB j (zL h a) = true then some (i + 1, ls, va_rf (zR h a j.toNatClampNeg) :: r, h) else none
  | _ => none
def xAas (i : Nat) (ls : List (Option Value)) (st : List Value) (h : Hp) : Option Fr := match st with
  | .ref b :: .int j :: .ref a :: r => if zK h a = 17 ∧ a < zN h ∧ inB j (zL h a) = true ∧ zK h b = 6 ∧ b < zN h then some (i + 1, ls, r, zsR h a j.toNatClampNeg (some b)) else none
  | _ => none
def xLen (i : Nat) (ls : List (Option Value)) (st : List Value) (h : Hp) : Option Fr := match st with
  | .ref a :: r => if (zK h a = 13 ∨ zK h a = 14 ∨ zK h a = 15 ∨ zK h a = 16 ∨ zK h a = 17) ∧ a < zN h then some (i + 1, ls, .int (Int32.ofNat (zL h a)) :: r, h) else none
  | _ => none
def atk : ArrayType → Nat
  | .byte => 13
  | .int => 14
  | .long => 15
  | .boolean => 16
  | _ => 0
/-- a new array of kind k (13 to 17) -/
def xNwa (k i : Nat) (ls : List (Option Value)) (st : List Value) (h : Hp) : Option Fr := match st with
  | .int n :: r => if 13 ≤ k ∧ 0 ≤ n ∧ n.toNatClampNeg * 8 ≤ 536870912 ∧ zN h < zSC ∧ fOK (zN h) ls r = true then some (i + 1, ls, .ref (zN h) :: r, zNew h k n.toNatClampNeg n.toNatClampNeg) else none
  | _ => none
def xNew (k n i : Nat) (ls : List (Option Value)) (st : List Value) (h : Hp) : Option Fr :=
  if k < 13 ∧ zN h < zSC ∧ fOK (zN h) ls st = true then some (i + 1, ls, .ref (zN h) :: st, zNew h k 0 n) else none
def xCpy (i : Nat) (ls : List (Option Value)) (st : List Value) (h : Hp) : Option Fr := match st with
  | .int n :: .int dp :: .ref b :: .int sp :: .ref a :: r => if zK h a = 14 ∧ a < zN h ∧ zK h b = 14 ∧ b < zN h ∧ 0 ≤ n ∧ 0 ≤ dp ∧ 0 ≤ sp ∧ sp.toNatClampNeg + n.toNatClampNeg ≤ zL h a ∧ dp.toNatClampNeg + n.toNatClampNeg ≤ zL h b ∧ catS r ≤ 8 then some (i + 1, ls, r, zCpy h a b sp.toNatClampNeg dp.toNatClampNeg n.toNatClampNeg) else none
  | _ => none
def xMx (i : Nat) (ls : List (Option Value)) (st : List Value) (h : Hp) : Option Fr := match st with
  | .int y :: .int x :: r => if catS r ≤ 8 then some (i + 1, ls, .int (if x < y then y else x) :: r, h) else none
  | _ => none
def xMn (i : Nat) (ls : List (Option Value)) (st : List Value) (h : Hp) : Option Fr := match st with
  | .int y :: .int x :: r => if catS r ≤ 8 then some (i + 1, ls, .int (if y < x then y else x) :: r, h) else none
  | _ => none
def xAb (i : Nat) (ls : List (Option Value)) (st : List Value) (h : Hp) : Option Fr := match st with
  | .long x :: r => if catS r ≤ 8 then some (i + 1, ls, .long (if 0 < x then x else -x) :: r, h) else none
  | _ => none
def xOb (i : Nat) (ls : List (Option Value)) (st : List Value) (h : Hp) : Option Fr := match st with
  | .ref _ :: r => if catS r ≤ 8 then some (i + 1, ls, r, h) else none
  | _ => none
/-- what is not walked: a copy of an array, abs, max, min, Object's own beginning -/
def xDyn (q i : Nat) (ls : List (Option Value)) (st : List Value) (h : Hp) : Option Fr := match q with
  | 0 => xCpy i ls st h
  | 1 => xAb i ls st h
  | 2 => xMx i ls st h
  | 3 => xMn i ls st h
  | 4 => xOb i ls st h
  | _ => none
/-- the entry's locals -/
def eL : List Value → List (Option Value)
  | [] => []
  | v :: vs => if v.category = 2 then some v :: none :: eL vs else some v :: eL vs
def entL (ml : Nat) (vs : List Value) : List (Option Value) := eL vs ++ List.replicate (ml - (eL vs).length) none
