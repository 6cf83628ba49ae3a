/-! a throw that leaves a method of the class -/
abbrev nSE : String := "java/util/NoSuchElementException"
abbrev nSN : List String := ["java/lang/RuntimeException", "java/lang/Exception"]
abbrev zxD (n : String) : Cond := .declares ⟨n, "<init>", "()V"⟩
set_option maxRecDepth 100000 in
theorem zx_d1 : zxD "java/lang/RuntimeException" ∈ tables_1 := List.mem_of_getElem? (i := 1097) (by decide +kernel)
set_option maxRecDepth 100000 in
theorem zx_d2 : zxD "java/lang/Exception" ∈ tables_1 := List.mem_of_getElem? (i := 1099) (by decide +kernel)
set_option maxRecDepth 100000 in
theorem zx_d3 : zxD Bundle.tN ∈ tables_1 := List.mem_of_getElem? (i := 1101) (by decide +kernel)
set_option maxRecDepth 100000 in
theorem zx_c : Cond.castable nSE nSE ∈ tables_1 := List.mem_of_getElem? (i := 1096) (by decide +kernel)
set_option maxRecDepth 100000 in
theorem zx_s1 : Cond.laysStatic Bundle.tN "UNASSIGNED_STACK" Bundle.steD ∈ tables_1 := List.mem_of_getElem? (i := 1121) (by decide +kernel)
set_option maxRecDepth 100000 in
theorem zx_s2 : Cond.laysStatic Bundle.tN "SUPPRESSED_SENTINEL" Bundle.listD ∈ tables_1 := List.mem_of_getElem? (i := 1123) (by decide +kernel)
set_option maxRecDepth 100000 in
theorem zx_t : Cond.initialized Bundle.tN ∈ tables_1 := List.mem_of_getElem? (i := 15) (by decide +kernel)
set_option maxRecDepth 100000 in
theorem zx_i : Cond.initialized nSE ∈ gAll := gAll_t (List.mem_of_getElem? (i := 18) (by decide +kernel)) rfl
set_option maxRecDepth 100000 in
theorem zx_k : Cond.classLink RX11 124 nSE ∈ gAll := gAll_t (List.mem_of_getElem? (i := 1094) (by decide +kernel)) rfl
set_option maxRecDepth 100000 in
theorem zx_h : Cond.classLink "DiceRingLaw" 13 nSE ∈ gAll := gAll_t (List.mem_of_getElem? (i := 1089) (by decide +kernel)) rfl
set_option maxRecDepth 100000 in
theorem zx_b : ∀ w ∈ (vx_at0 RX11 126 nSE nSN).filter (fun w => !goodWord w), w ∈ [Cond.castable nSE nSE, zxD "java/lang/RuntimeException", zxD "java/lang/Exception", zxD Bundle.tN] := by decide +kernel
set_option maxRecDepth 100000 in
theorem zx_g : ∀ w ∈ Cond.classLink RX11 124 nSE :: Cond.initialized nSE :: vx_at0 RX11 126 nSE nSN, vx_ot w = true := by decide +kernel
set_option maxRecDepth 100000 in
theorem zx_x0 : ∀ w ∈ (vx_at0 RX11 126 nSE nSN).filter goodWord, w ∈ lw_tbl := by decide +kernel
/-- the tables' words of a throw that the good ones leave out -/
def ZW (U : State) : Prop := va_Nw (.castable nSE nSE) U ∧ va_Nw (zxD "java/lang/RuntimeException") U ∧ va_Nw (zxD "java/lang/Exception") U ∧ va_Nw (zxD Bundle.tN) U
theorem zx_ok {args : Array Value} {s : State} (hts : ∀ w ∈ gAll, w.before args s = true) (hc : ZW s) : ∀ w ∈ vx_at0 RX11 126 nSE nSN, w.before args s = true :=
  vx_hat (B := [Cond.castable nSE nSE, zxD "java/lang/RuntimeException", zxD "java/lang/Exception", zxD Bundle.tN]) (fun w h => hts w (List.mem_filter.mpr ⟨zx_x0 w h, (List.mem_filter.mp h).2⟩)) zx_b (vx_c (va_Nw.use rfl hc.1) (vx_c (va_Nw.use rfl hc.2.1) (vx_c (va_Nw.use rfl hc.2.2.1) (vx_c (va_Nw.use rfl hc.2.2.2) vx_n))))
/-- what a throw asks of the state -/
def ZX (A : Nat → Prop) (U : State) : Prop := vx_Zq Bundle.tN "UNASSIGNED_STACK" Bundle.steD A U U.heap ∧ vx_Zq Bundle.tN "SUPPRESSED_SENTINEL" Bundle.listD A U U.heap ∧ ZW U
theorem ZX.go {A A' : Nat → Prop} {s U : State} {H : Heap} {locs : List Loc} (z : ZX A s) (hS : va_S A s.heap H locs) (hU : U.heap = H) (hW : s.WarmedH U.vm) (hAB : ∀ q, A' q → A q) : ZX A' U := by
  obtain ⟨z1, z2, z3⟩ := z
  refine ⟨?_, ?_, va_Nw.warmC hW z3.1, va_Nw.warmD hW z3.2.1, va_Nw.warmD hW z3.2.2.1, va_Nw.warmD hW z3.2.2.2⟩
  · rw [hU]
    exact vx_Zq.narrow (vx_Zq.moved hW.alike (vx_Zq.kept z1 hS.2.1)) hAB
  · rw [hU]
    exact vx_Zq.narrow (vx_Zq.moved hW.alike (vx_Zq.kept z2 hS.2.1)) hAB
theorem ZX.calling {A : Nat → Prop} {U : State} {g : JFrame} {mk : MethodId} {a : Array Value} (z : ZX A U) : ZX A (U.calling g mk a) := by
  obtain ⟨z1, z2, z3⟩ := z
  exact ⟨vx_Zq.moved (u := U) (U := U.calling g mk a) (Vm.Alike.refl U.vm) z1, vx_Zq.moved (u := U) (U := U.calling g mk a) (Vm.Alike.refl U.vm) z2, va_Nw.same rfl rfl z3.1, va_Nw.same rfl rfl z3.2.1, va_Nw.same rfl rfl z3.2.2.1, va_Nw.same rfl rfl z3.2.2.2⟩
/-- a start that may throw -/
def gPX (D : va_G) (cy : Nat → ClassId) (ad : Nat → Nat) (h : Hp) (sz : Nat) (a : List Value) : Array Value → State → Prop := va_Pc (a.map (rV ad)) (fun U => (U.heap.size = sz ∧ va_P D vwCl (gws ad cy h) U.heap ∧ WK D cy U ∧ va_D (fun _ => True) (gws ad cy h)) ∧ ZX (va_A (gws ad cy h) sz) U)
theorem gPX_blind {D : va_G} {cy : Nat → ClassId} {ad : Nat → Nat} {h : Hp} {sz : Nat} {a : List Value} : FrameBlind (gPX D cy ad h sz a) := fun a U g mk q => by
  obtain ⟨q0, ⟨q1, qP, qK, qD⟩, qz⟩ := q
  exact ⟨q0, ⟨q1, qP, WK_calling qK, qD⟩, qz.calling⟩
/-- a throw's world -/
def gXC (D : va_G) (cy : Nat → ClassId) (ad : Nat → Nat) (h1 : Hp) (A1 : Nat → Prop) : String → State → State → Prop := fun E st t => E = nSE ∧ va_P D vwCl (gws ad cy h1) t.heap ∧ va_D A1 (gws ad cy h1) ∧ va_F A1 st t ∧ zWF h1
/-- where an instruction may jump to -/
def jtg : Instr → Option Nat
  | .goto t => some t.toNat
  | .if_icmp _ t => some t.toNat
  | .ifCond _ t => some t.toNat
  | _ => none
def isSw : Instr → Bool
  | .tableswitch _ _ _ _ => true
  | _ => false
theorem jtg_c {i t : Nat} {c b : Bool} : (bif c then t else i + 1) = i + 1 ∨ some t = some (bif c then t else i + 1) ∨ b = true := by
  cases c
  · exact Or.inl rfl
  · exact Or.inr (Or.inl rfl)
set_option maxRecDepth 100000 in
set_option maxHeartbeats 4000000 in
theorem ex1_up {ins : Instr} {i i' : Nat} {ls ls' : List (Option Value)} {st st' : List Value} {h h' : Hp} (hx : ex1 i ins ls st h = some (i', ls', st', h')) : st'.length ≤ st.length + 2 ∧ (i' = i + 1 ∨ jtg ins = some i' ∨ isSw ins = true) := by
  cases ins
  case iload n =>
    dsimp only [ex1, xLdI] at hx
    repeat' split at hx
    all_goals (cases hx <;> first | exact ⟨by first | (simp only [List.length_cons]; omega) | omega, Or.inl rfl⟩ | exact ⟨by first | (simp only [List.length_cons]; omega) | omega, Or.inr (Or.inl rfl)⟩ | exact ⟨by first | (simp only [List.length_cons]; omega) | omega, Or.inr (Or.inr rfl)⟩ | exact ⟨by first | (simp only [List.length_cons]; omega) | omega, jtg_c⟩)
  case lload n =>
    dsimp only [ex1, xLdL] at hx
    repeat' split at hx
    all_goals (cases hx <;> first | exact ⟨by first | (simp only [List.length_cons]; omega) | omega, Or.inl rfl⟩ | exact ⟨by first | (simp only [List.length_cons]; omega) | omega, Or.inr (Or.inl rfl)⟩ | exact ⟨by first | (simp only [List.length_cons]; omega) | omega, Or.inr (Or.inr rfl)⟩ | exact ⟨by first | (simp only [List.length_cons]; omega) | omega, jtg_c⟩)
  case aload n =>
    dsimp only [ex1, xLdA] at hx
    repeat' split at hx
    all_goals (cases hx <;> first | exact ⟨by first | (simp only [List.length_cons]; omega) | omega, Or.inl rfl⟩ | exact ⟨by first | (simp only [List.length_cons]; omega) | omega, Or.inr (Or.inl rfl)⟩ | exact ⟨by first | (simp only [List.length_cons]; omega) | omega, Or.inr (Or.inr rfl)⟩ | exact ⟨by first | (simp only [List.length_cons]; omega) | omega, jtg_c⟩)
  case istore n =>
    dsimp only [ex1, xStI] at hx
    repeat' split at hx
    all_goals (cases hx <;> first | exact ⟨by first | (simp only [List.length_cons]; omega) | omega, Or.inl rfl⟩ | exact ⟨by first | (simp only [List.length_cons]; omega) | omega, Or.inr (Or.inl rfl)⟩ | exact ⟨by first | (simp only [List.length_cons]; omega) | omega, Or.inr (Or.inr rfl)⟩ | exact ⟨by first | (simp only [List.length_cons]; omega) | omega, jtg_c⟩)
  case lstore n =>
    dsimp only [ex1, xStL] at hx
    repeat' split at hx
    all_goals (cases hx <;> first | exact ⟨by first | (simp only [List.length_cons]; omega) | omega, Or.inl rfl⟩ | exact ⟨by first | (simp only [List.length_cons]; omega) | omega, Or.inr (Or.inl rfl)⟩ | exact ⟨by first | (simp only [List.length_cons]; omega) | omega, Or.inr (Or.inr rfl)⟩ | exact ⟨by first | (simp only [List.length_cons]; omega) | omega, jtg_c⟩)
  case astore n =>
    dsimp only [ex1, xStA] at hx
    repeat' split at hx
    all_goals (cases hx <;> first | exact ⟨by first | (simp only [List.length_cons]; omega) | omega, Or.inl rfl⟩ | exact ⟨by first | (simp only [List.length_cons]; omega) | omega, Or.inr (Or.inl rfl)⟩ | exact ⟨by first | (simp only [List.length_cons]; omega) | omega, Or.inr (Or.inr rfl)⟩ | exact ⟨by first | (simp only [List.length_cons]; omega) | omega, jtg_c⟩)
  case iinc n c =>
    dsimp only [ex1, xInc] at hx
    repeat' split at hx
    all_goals (cases hx <;> first | exact ⟨by first | (simp only [List.length_cons]; omega) | omega, Or.inl rfl⟩ | exact ⟨by first | (simp only [List.length_cons]; omega) | omega, Or.inr (Or.inl rfl)⟩ | exact ⟨by first | (simp only [List.length_cons]; omega) | omega, Or.inr (Or.inr rfl)⟩ | exact ⟨by first | (simp only [List.length_cons]; omega) | omega, jtg_c⟩)
  case iadd =>
    dsimp only [ex1, xI2] at hx
    repeat' split at hx
    all_goals (cases hx <;> first | exact ⟨by first | (simp only [List.length_cons]; omega) | omega, Or.inl rfl⟩ | exact ⟨by first | (simp only [List.length_cons]; omega) | omega, Or.inr (Or.inl rfl)⟩ | exact ⟨by first | (simp only [List.length_cons]; omega) | omega, Or.inr (Or.inr rfl)⟩ | exact ⟨by first | (simp only [List.length_cons]; omega) | omega, jtg_c⟩)
  case isub =>
    dsimp only [ex1, xI2] at hx
    repeat' split at hx
    all_goals (cases hx <;> first | exact ⟨by first | (simp only [List.length_cons]; omega) | omega, Or.inl rfl⟩ | exact ⟨by first | (simp only [List.length_cons]; omega) | omega, Or.inr (Or.inl rfl)⟩ | exact ⟨by first | (simp only [List.length_cons]; omega) | omega, Or.inr (Or.inr rfl)⟩ | exact ⟨by first | (simp only [List.length_cons]; omega) | omega, jtg_c⟩)
  case imul =>
    dsimp only [ex1, xI2] at hx
    repeat' split at hx
    all_goals (cases hx <;> first | exact ⟨by first | (simp only [List.length_cons]; omega) | omega, Or.inl rfl⟩ | exact ⟨by first | (simp only [List.length_cons]; omega) | omega, Or.inr (Or.inl rfl)⟩ | exact ⟨by first | (simp only [List.length_cons]; omega) | omega, Or.inr (Or.inr rfl)⟩ | exact ⟨by first | (simp only [List.length_cons]; omega) | omega, jtg_c⟩)
  case iand =>
    dsimp only [ex1, xI2] at hx
    repeat' split at hx
    all_goals (cases hx <;> first | exact ⟨by first | (simp only [List.length_cons]; omega) | omega, Or.inl rfl⟩ | exact ⟨by first | (simp only [List.length_cons]; omega) | omega, Or.inr (Or.inl rfl)⟩ | exact ⟨by first | (simp only [List.length_cons]; omega) | omega, Or.inr (Or.inr rfl)⟩ | exact ⟨by first | (simp only [List.length_cons]; omega) | omega, jtg_c⟩)
  case ior =>
    dsimp only [ex1, xI2] at hx
    repeat' split at hx
    all_goals (cases hx <;> first | exact ⟨by first | (simp only [List.length_cons]; omega) | omega, Or.inl rfl⟩ | exact ⟨by first | (simp only [List.length_cons]; omega) | omega, Or.inr (Or.inl rfl)⟩ | exact ⟨by first | (simp only [List.length_cons]; omega) | omega, Or.inr (Or.inr rfl)⟩ | exact ⟨by first | (simp only [List.length_cons]; omega) | omega, jtg_c⟩)
  case ixor =>
    dsimp only [ex1, xI2] at hx
    repeat' split at hx
    all_goals (cases hx <;> first | exact ⟨by first | (simp only [List.length_cons]; omega) | omega, Or.inl rfl⟩ | exact ⟨by first | (simp only [List.length_cons]; omega) | omega, Or.inr (Or.inl rfl)⟩ | exact ⟨by first | (simp only [List.length_cons]; omega) | omega, Or.inr (Or.inr rfl)⟩ | exact ⟨by first | (simp only [List.length_cons]; omega) | omega, jtg_c⟩)
  case ishl =>
    dsimp only [ex1, xI2] at hx
    repeat' split at hx
    all_goals (cases hx <;> first | exact ⟨by first | (simp only [List.length_cons]; omega) | omega, Or.inl rfl⟩ | exact ⟨by first | (simp only [List.length_cons]; omega) | omega, Or.inr (Or.inl rfl)⟩ | exact ⟨by first | (simp only [List.length_cons]; omega) | omega, Or.inr (Or.inr rfl)⟩ | exact ⟨by first | (simp only [List.length_cons]; omega) | omega, jtg_c⟩)
  case ishr =>
    dsimp only [ex1, xI2] at hx
    repeat' split at hx
    all_goals (cases hx <;> first | exact ⟨by first | (simp only [List.length_cons]; omega) | omega, Or.inl rfl⟩ | exact ⟨by first | (simp only [List.length_cons]; omega) | omega, Or.inr (Or.inl rfl)⟩ | exact ⟨by first | (simp only [List.length_cons]; omega) | omega, Or.inr (Or.inr rfl)⟩ | exact ⟨by first | (simp only [List.length_cons]; omega) | omega, jtg_c⟩)
  case iushr =>
    dsimp only [ex1, xI2] at hx
    repeat' split at hx
    all_goals (cases hx <;> first | exact ⟨by first | (simp only [List.length_cons]; omega) | omega, Or.inl rfl⟩ | exact ⟨by first | (simp only [List.length_cons]; omega) | omega, Or.inr (Or.inl rfl)⟩ | exact ⟨by first | (simp only [List.length_cons]; omega) | omega, Or.inr (Or.inr rfl)⟩ | exact ⟨by first | (simp only [List.length_cons]; omega) | omega, jtg_c⟩)
  case idiv =>
    dsimp only [ex1, xI2z] at hx
    repeat' split at hx
    all_goals (cases hx <;> first | exact ⟨by first | (simp only [List.length_cons]; omega) | omega, Or.inl rfl⟩ | exact ⟨by first | (simp only [List.length_cons]; omega) | omega, Or.inr (Or.inl rfl)⟩ | exact ⟨by first | (simp only [List.length_cons]; omega) | omega, Or.inr (Or.inr rfl)⟩ | exact ⟨by first | (simp only [List.length_cons]; omega) | omega, jtg_c⟩)
  case irem =>
    dsimp only [ex1, xI2z] at hx
    repeat' split at hx
    all_goals (cases hx <;> first | exact ⟨by first | (simp only [List.length_cons]; omega) | omega, Or.inl rfl⟩ | exact ⟨by first | (simp only [List.length_cons]; omega) | omega, Or.inr (Or.inl rfl)⟩ | exact ⟨by first | (simp only [List.length_cons]; omega) | omega, Or.inr (Or.inr rfl)⟩ | exact ⟨by first | (simp only [List.length_cons]; omega) | omega, jtg_c⟩)
  case ineg =>
    dsimp only [ex1, xI1] at hx
    repeat' split at hx
    all_goals (cases hx <;> first | exact ⟨by first | (simp only [List.length_cons]; omega) | omega, Or.inl rfl⟩ | exact ⟨by first | (simp only [List.length_cons]; omega) | omega, Or.inr (Or.inl rfl)⟩ | exact ⟨by first | (simp only [List.length_cons]; omega) | omega, Or.inr (Or.inr rfl)⟩ | exact ⟨by first | (simp only [List.length_cons]; omega) | omega, jtg_c⟩)
  case i2l =>
    dsimp only [ex1, xI1] at hx
    repeat' split at hx
    all_goals (cases hx <;> first | exact ⟨by first | (simp only [List.length_cons]; omega) | omega, Or.inl rfl⟩ | exact ⟨by first | (simp only [List.length_cons]; omega) | omega, Or.inr (Or.inl rfl)⟩ | exact ⟨by first | (simp only [List.length_cons]; omega) | omega, Or.inr (Or.inr rfl)⟩ | exact ⟨by first | (simp only [List.length_cons]; omega) | omega, jtg_c⟩)
  case i2b =>
    dsimp only [ex1, xI1] at hx
    repeat' split at hx
    all_goals (cases hx <;> first | exact ⟨by first | (simp only [List.length_cons]; omega) | omega, Or.inl rfl⟩ | exact ⟨by first | (simp only [List.length_cons]; omega) | omega, Or.inr (Or.inl rfl)⟩ | exact ⟨by first | (simp only [List.length_cons]; omega) | omega, Or.inr (Or.inr rfl)⟩ | exact ⟨by first | (simp only [List.length_cons]; omega) | omega, jtg_c⟩)
  case l2i =>
    dsimp only [ex1, xL1] at hx
    repeat' split at hx
    all_goals (cases hx <;> first | exact ⟨by first | (simp only [List.length_cons]; omega) | omega, Or.inl rfl⟩ | exact ⟨by first | (simp only [List.length_cons]; omega) | omega, Or.inr (Or.inl rfl)⟩ | exact ⟨by first | (simp only [List.length_cons]; omega) | omega, Or.inr (Or.inr rfl)⟩ | exact ⟨by first | (simp only [List.length_cons]; omega) | omega, jtg_c⟩)
  case lneg =>
    dsimp only [ex1, xL1] at hx
    repeat' split at hx
    all_goals (cases hx <;> first | exact ⟨by first | (simp only [List.length_cons]; omega) | omega, Or.inl rfl⟩ | exact ⟨by first | (simp only [List.length_cons]; omega) | omega, Or.inr (Or.inl rfl)⟩ | exact ⟨by first | (simp only [List.length_cons]; omega) | omega, Or.inr (Or.inr rfl)⟩ | exact ⟨by first | (simp only [List.length_cons]; omega) | omega, jtg_c⟩)
  case ladd =>
    dsimp only [ex1, xL2] at hx
    repeat' split at hx
    all_goals (cases hx <;> first | exact ⟨by first | (simp only [List.length_cons]; omega) | omega, Or.inl rfl⟩ | exact ⟨by first | (simp only [List.length_cons]; omega) | omega, Or.inr (Or.inl rfl)⟩ | exact ⟨by first | (simp only [List.length_cons]; omega) | omega, Or.inr (Or.inr rfl)⟩ | exact ⟨by first | (simp only [List.length_cons]; omega) | omega, jtg_c⟩)
  case lsub =>
    dsimp only [ex1, xL2] at hx
    repeat' split at hx
    all_goals (cases hx <;> first | exact ⟨by first | (simp only [List.length_cons]; omega) | omega, Or.inl rfl⟩ | exact ⟨by first | (simp only [List.length_cons]; omega) | omega, Or.inr (Or.inl rfl)⟩ | exact ⟨by first | (simp only [List.length_cons]; omega) | omega, Or.inr (Or.inr rfl)⟩ | exact ⟨by first | (simp only [List.length_cons]; omega) | omega, jtg_c⟩)
  case lmul =>
    dsimp only [ex1, xL2] at hx
    repeat' split at hx
    all_goals (cases hx <;> first | exact ⟨by first | (simp only [List.length_cons]; omega) | omega, Or.inl rfl⟩ | exact ⟨by first | (simp only [List.length_cons]; omega) | omega, Or.inr (Or.inl rfl)⟩ | exact ⟨by first | (simp only [List.length_cons]; omega) | omega, Or.inr (Or.inr rfl)⟩ | exact ⟨by first | (simp only [List.length_cons]; omega) | omega, jtg_c⟩)
  case lor =>
    dsimp only [ex1, xL2] at hx
    repeat' split at hx
    all_goals (cases hx <;> first | exact ⟨by first | (simp only [List.length_cons]; omega) | omega, Or.inl rfl⟩ | exact ⟨by first | (simp only [List.length_cons]; omega) | omega, Or.inr (Or.inl rfl)⟩ | exact ⟨by first | (simp only [List.length_cons]; omega) | omega, Or.inr (Or.inr rfl)⟩ | exact ⟨by first | (simp only [List.length_cons]; omega) | omega, jtg_c⟩)
  case ldiv =>
    dsimp only [ex1, xL2z] at hx
    repeat' split at hx
    all_goals (cases hx <;> first | exact ⟨by first | (simp only [List.length_cons]; omega) | omega, Or.inl rfl⟩ | exact ⟨by first | (simp only [List.length_cons]; omega) | omega, Or.inr (Or.inl rfl)⟩ | exact ⟨by first | (simp only [List.length_cons]; omega) | omega, Or.inr (Or.inr rfl)⟩ | exact ⟨by first | (simp only [List.length_cons]; omega) | omega, jtg_c⟩)
  case lrem =>
    dsimp only [ex1, xL2z] at hx
    repeat' split at hx
    all_goals (cases hx <;> first | exact ⟨by first | (simp only [List.length_cons]; omega) | omega, Or.inl rfl⟩ | exact ⟨by first | (simp only [List.length_cons]; omega) | omega, Or.inr (Or.inl rfl)⟩ | exact ⟨by first | (simp only [List.length_cons]; omega) | omega, Or.inr (Or.inr rfl)⟩ | exact ⟨by first | (simp only [List.length_cons]; omega) | omega, jtg_c⟩)
  case lshl =>
    dsimp only [ex1, xLsh] at hx
    repeat' split at hx
    all_goals (cases hx <;> first | exact ⟨by first | (simp only [List.length_cons]; omega) | omega, Or.inl rfl⟩ | exact ⟨by first | (simp only [List.length_cons]; omega) | omega, Or.inr (Or.inl rfl)⟩ | exact ⟨by first | (simp only [List.length_cons]; omega) | omega, Or.inr (Or.inr rfl)⟩ | exact ⟨by first | (simp only [List.length_cons]; omega) | omega, jtg_c⟩)
  case lcmp =>
    dsimp only [ex1, xCmp] at hx
    repeat' split at hx
    all_goals (cases hx <;> first | exact ⟨by first | (simp only [List.length_cons]; omega) | omega, Or.inl rfl⟩ | exact ⟨by first | (simp only [List.length_cons]; omega) | omega, Or.inr (Or.inl rfl)⟩ | exact ⟨by first | (simp only [List.length_cons]; omega) | omega, Or.inr (Or.inr rfl)⟩ | exact ⟨by first | (simp only [List.length_cons]; omega) | omega, jtg_c⟩)
  case dup =>
    dsimp only [ex1, xDup] at hx
    repeat' split at hx
    all_goals (cases hx <;> first | exact ⟨by first | (simp only [List.length_cons]; omega) | omega, Or.inl rfl⟩ | exact ⟨by first | (simp only [List.length_cons]; omega) | omega, Or.inr (Or.inl rfl)⟩ | exact ⟨by first | (simp only [List.length_cons]; omega) | omega, Or.inr (Or.inr rfl)⟩ | exact ⟨by first | (simp only [List.length_cons]; omega) | omega, jtg_c⟩)
  case dup2 =>
    dsimp only [ex1, xDup2] at hx
    repeat' split at hx
    all_goals (cases hx <;> first | exact ⟨by first | (simp only [List.length_cons]; omega) | omega, Or.inl rfl⟩ | exact ⟨by first | (simp only [List.length_cons]; omega) | omega, Or.inr (Or.inl rfl)⟩ | exact ⟨by first | (simp only [List.length_cons]; omega) | omega, Or.inr (Or.inr rfl)⟩ | exact ⟨by first | (simp only [List.length_cons]; omega) | omega, jtg_c⟩)
  case pop =>
    dsimp only [ex1, xPop] at hx
    repeat' split at hx
    all_goals (cases hx <;> first | exact ⟨by first | (simp only [List.length_cons]; omega) | omega, Or.inl rfl⟩ | exact ⟨by first | (simp only [List.length_cons]; omega) | omega, Or.inr (Or.inl rfl)⟩ | exact ⟨by first | (simp only [List.length_cons]; omega) | omega, Or.inr (Or.inr rfl)⟩ | exact ⟨by first | (simp only [List.length_cons]; omega) | omega, jtg_c⟩)
  case if_icmp c t =>
    dsimp only [ex1, xBr2] at hx
    repeat' split at hx
    all_goals (cases hx <;> first | exact ⟨by first | (simp only [List.length_cons]; omega) | omega, Or.inl rfl⟩ | exact ⟨by first | (simp only [List.length_cons]; omega) | omega, Or.inr (Or.inl rfl)⟩ | exact ⟨by first | (simp only [List.length_cons]; omega) | omega, Or.inr (Or.inr rfl)⟩ | exact ⟨by first | (simp only [List.length_cons]; omega) | omega, jtg_c⟩)
  case ifCond c t =>
    dsimp only [ex1, xBr1] at hx
    repeat' split at hx
    all_goals (cases hx <;> first | exact ⟨by first | (simp only [List.length_cons]; omega) | omega, Or.inl rfl⟩ | exact ⟨by first | (simp only [List.length_cons]; omega) | omega, Or.inr (Or.inl rfl)⟩ | exact ⟨by first | (simp only [List.length_cons]; omega) | omega, Or.inr (Or.inr rfl)⟩ | exact ⟨by first | (simp only [List.length_cons]; omega) | omega, jtg_c⟩)
  case tableswitch d lo hi o =>
    dsimp only [ex1, xSw] at hx
    repeat' split at hx
    all_goals (cases hx <;> first | exact ⟨by first | (simp only [List.length_cons]; omega) | omega, Or.inl rfl⟩ | exact ⟨by first | (simp only [List.length_cons]; omega) | omega, Or.inr (Or.inl rfl)⟩ | exact ⟨by first | (simp only [List.length_cons]; omega) | omega, Or.inr (Or.inr rfl)⟩ | exact ⟨by first | (simp only [List.length_cons]; omega) | omega, jtg_c⟩)
  case getfield c =>
    dsimp only [ex1, xGet] at hx
    repeat' split at hx
    all_goals (cases hx <;> first | exact ⟨by first | (simp only [List.length_cons]; omega) | omega, Or.inl rfl⟩ | exact ⟨by first | (simp only [List.length_cons]; omega) | omega, Or.inr (Or.inl rfl)⟩ | exact ⟨by first | (simp only [List.length_cons]; omega) | omega, Or.inr (Or.inr rfl)⟩ | exact ⟨by first | (simp only [List.length_cons]; omega) | omega, jtg_c⟩)
  case iaload =>
    dsimp only [ex1, xIal] at hx
    repeat' split at hx
    all_goals (cases hx <;> first | exact ⟨by first | (simp only [List.length_cons]; omega) | omega, Or.inl rfl⟩ | exact ⟨by first | (simp only [List.length_cons]; omega) | omega, Or.inr (Or.inl rfl)⟩ | exact ⟨by first | (simp only [List.length_cons]; omega) | omega, Or.inr (Or.inr rfl)⟩ | exact ⟨by first | (simp only [List.length_cons]; omega) | omega, jtg_c⟩)
  case laload =>
    dsimp only [ex1, xJal] at hx
    repeat' split at hx
    all_goals (cases hx <;> first | exact ⟨by first | (simp only [List.length_cons]; omega) | omega, Or.inl rfl⟩ | exact ⟨by first | (simp only [List.length_cons]; omega) | omega, Or.inr (Or.inl rfl)⟩ | exact ⟨by first | (simp only [List.length_cons]; omega) | omega, Or.inr (Or.inr rfl)⟩ | exact ⟨by first | (simp only [List.length_cons]; omega) | omega, jtg_c⟩)
  case baload =>
    dsimp only [ex1, xBal] at hx
    repeat' split at hx
    all_goals (cases hx <;> first | exact ⟨by first | (simp only [List.length_cons]; omega) | omega, Or.inl rfl⟩ | exact ⟨by first | (simp only [List.length_cons]; omega) | omega, Or.inr (Or.inl rfl)⟩ | exact ⟨by first | (simp only [List.length_cons]; omega) | omega, Or.inr (Or.inr rfl)⟩ | exact ⟨by first | (simp only [List.length_cons]; omega) | omega, jtg_c⟩)
  case aaload =>
    dsimp only [ex1, xAal] at hx
    repeat' split at hx
    all_goals (cases hx <;> first | exact ⟨by first | (simp only [List.length_cons]; omega) | omega, Or.inl rfl⟩ | exact ⟨by first | (simp only [List.length_cons]; omega) | omega, Or.inr (Or.inl rfl)⟩ | exact ⟨by first | (simp only [List.length_cons]; omega) | omega, Or.inr (Or.inr rfl)⟩ | exact ⟨by first | (simp only [List.length_cons]; omega) | omega, jtg_c⟩)
  case arraylength =>
    dsimp only [ex1, xLen] at hx
    repeat' split at hx
    all_goals (cases hx <;> first | exact ⟨by first | (simp only [List.length_cons]; omega) | omega, Or.inl rfl⟩ | exact ⟨by first | (simp only [List.length_cons]; omega) | omega, Or.inr (Or.inl rfl)⟩ | exact ⟨by first | (simp only [List.length_cons]; omega) | omega, Or.inr (Or.inr rfl)⟩ | exact ⟨by first | (simp only [List.length_cons]; omega) | omega, jtg_c⟩)
  case saload =>
    dsimp only [ex1, xSal] at hx
    repeat' split at hx
    all_goals (cases hx <;> first | exact ⟨by first | (simp only [List.length_cons]; omega) | omega, Or.inl rfl⟩ | exact ⟨by first | (simp only [List.length_cons]; omega) | omega, Or.inr (Or.inl rfl)⟩ | exact ⟨by first | (simp only [List.length_cons]; omega) | omega, Or.inr (Or.inr rfl)⟩ | exact ⟨by first | (simp only [List.length_cons]; omega) | omega, jtg_c⟩)
  case sastore =>
    dsimp only [ex1, xSlen] at hx
    repeat' split at hx
    all_goals (cases hx <;> first | exact ⟨by first | (simp only [List.length_cons]; omega) | omega, Or.inl rfl⟩ | exact ⟨by first | (simp only [List.length_cons]; omega) | omega, Or.inr (Or.inl rfl)⟩ | exact ⟨by first | (simp only [List.length_cons]; omega) | omega, Or.inr (Or.inr rfl)⟩ | exact ⟨by first | (simp only [List.length_cons]; omega) | omega, jtg_c⟩)
  case iconst n =>
    dsimp only [ex1] at hx
    cases hx
    exact ⟨by first | (simp only [List.length_cons]; omega) | omega, by first | exact Or.inl rfl | exact Or.inr (Or.inl rfl)⟩
  case jsr_w n =>
    dsimp only [ex1] at hx
    cases hx
    exact ⟨by first | (simp only [List.length_cons]; omega) | omega, by first | exact Or.inl rfl | exact Or.inr (Or.inl rfl)⟩
  case goto t =>
    dsimp only [ex1] at hx
    cases hx
    exact ⟨by first | (simp only [List.length_cons]; omega) | omega, by first | exact Or.inl rfl | exact Or.inr (Or.inl rfl)⟩
  case putfield c =>
    dsimp only [ex1, xPut] at hx
    repeat' split at hx
    all_goals (cases hx <;> first | exact ⟨by first | (simp only [List.length_cons]; omega) | omega, Or.inl rfl⟩ | exact ⟨by first | (simp only [List.length_cons]; omega) | omega, Or.inr (Or.inl rfl)⟩ | exact ⟨by first | (simp only [List.length_cons]; omega) | omega, Or.inr (Or.inr rfl)⟩ | exact ⟨by first | (simp only [List.length_cons]; omega) | omega, jtg_c⟩)
  case iastore =>
    dsimp only [ex1, xIas] at hx
    repeat' split at hx
    all_goals (cases hx <;> first | exact ⟨by first | (simp only [List.length_cons]; omega) | omega, Or.inl rfl⟩ | exact ⟨by first | (simp only [List.length_cons]; omega) | omega, Or.inr (Or.inl rfl)⟩ | exact ⟨by first | (simp only [List.length_cons]; omega) | omega, Or.inr (Or.inr rfl)⟩ | exact ⟨by first | (simp only [List.length_cons]; omega) | omega, jtg_c⟩)
  case lastore =>
    dsimp only [ex1, xJas] at hx
    repeat' split at hx
    all_goals (cases hx <;> first | exact ⟨by first | (simp only [List.length_cons]; omega) | omega, Or.inl rfl⟩ | exact ⟨by first | (simp only [List.length_cons]; omega) | omega, Or.inr (Or.inl rfl)⟩ | exact ⟨by first | (simp only [List.length_cons]; omega) | omega, Or.inr (Or.inr rfl)⟩ | exact ⟨by first | (simp only [List.length_cons]; omega) | omega, jtg_c⟩)
  case bastore =>
    dsimp only [ex1, xBas] at hx
    repeat' split at hx
    all_goals (cases hx <;> first | exact ⟨by first | (simp only [List.length_cons]; omega) | omega, Or.inl rfl⟩ | exact ⟨by first | (simp only [List.length_cons]; omega) | omega, Or.inr (Or.inl rfl)⟩ | exact ⟨by first | (simp only [List.length_cons]; omega) | omega, Or.inr (Or.inr rfl)⟩ | exact ⟨by first | (simp only [List.length_cons]; omega) | omega, jtg_c⟩)
  case aastore =>
    dsimp only [ex1, xAas] at hx
    repeat' split at hx
    all_goals (cases hx <;> first | exact ⟨by first | (simp only [List.length_cons]; omega) | omega, Or.inl rfl⟩ | exact ⟨by first | (simp only [List.length_cons]; omega) | omega, Or.inr (Or.inl rfl)⟩ | exact ⟨by first | (simp only [List.length_cons]; omega) | omega, Or.inr (Or.inr rfl)⟩ | exact ⟨by first | (simp only [List.length_cons]; omega) | omega, jtg_c⟩)
  case newarray t =>
    dsimp only [ex1, xNwa] at hx
    repeat' split at hx
    all_goals (cases hx <;> first | exact ⟨by first | (simp only [List.length_cons]; omega) | omega, Or.inl rfl⟩ | exact ⟨by first | (simp only [List.length_cons]; omega) | omega, Or.inr (Or.inl rfl)⟩ | exact ⟨by first | (simp only [List.length_cons]; omega) | omega, Or.inr (Or.inr rfl)⟩ | exact ⟨by first | (simp only [List.length_cons]; omega) | omega, jtg_c⟩)
  case anewarray t =>
    dsimp only [ex1, xNwa] at hx
    repeat' split at hx
    all_goals (cases hx <;> first | exact ⟨by first | (simp only [List.length_cons]; omega) | omega, Or.inl rfl⟩ | exact ⟨by first | (simp only [List.length_cons]; omega) | omega, Or.inr (Or.inl rfl)⟩ | exact ⟨by first | (simp only [List.length_cons]; omega) | omega, Or.inr (Or.inr rfl)⟩ | exact ⟨by first | (simp only [List.length_cons]; omega) | omega, jtg_c⟩)
  case new t =>
    dsimp only [ex1, xNew] at hx
    repeat' split at hx
    all_goals (cases hx <;> first | exact ⟨by first | (simp only [List.length_cons]; omega) | omega, Or.inl rfl⟩ | exact ⟨by first | (simp only [List.length_cons]; omega) | omega, Or.inr (Or.inl rfl)⟩ | exact ⟨by first | (simp only [List.length_cons]; omega) | omega, Or.inr (Or.inr rfl)⟩ | exact ⟨by first | (simp only [List.length_cons]; omega) | omega, jtg_c⟩)
  case invokedynamic q =>
    dsimp only [ex1, xDyn] at hx
    split at hx
    · unfold xCpy at hx
      repeat' split at hx
      all_goals (cases hx <;> first | exact ⟨by first | (simp only [List.length_cons]; omega) | omega, Or.inl rfl⟩ | exact ⟨by first | (simp only [List.length_cons]; omega) | omega, Or.inr (Or.inl rfl)⟩ | exact ⟨by first | (simp only [List.length_cons]; omega) | omega, Or.inr (Or.inr rfl)⟩ | exact ⟨by first | (simp only [List.length_cons]; omega) | omega, jtg_c⟩)
    · unfold xAb at hx
      split at hx
      · split at hx <;> cases hx <;> first | exact ⟨by first | (simp only [List.length_cons]; omega) | omega, Or.inl rfl⟩ | exact ⟨by first | (simp only [List.length_cons]; omega) | omega, Or.inr (Or.inl rfl)⟩ | exact ⟨by first | (simp only [List.length_cons]; omega) | omega, Or.inr (Or.inr rfl)⟩ | exact ⟨by first | (simp only [List.length_cons]; omega) | omega, jtg_c⟩
      · cases hx
    · unfold xMx at hx
      split at hx
      · split at hx <;> cases hx <;> first | exact ⟨by first | (simp only [List.length_cons]; omega) | omega, Or.inl rfl⟩ | exact ⟨by first | (simp only [List.length_cons]; omega) | omega, Or.inr (Or.inl rfl)⟩ | exact ⟨by first | (simp only [List.length_cons]; omega) | omega, Or.inr (Or.inr rfl)⟩ | exact ⟨by first | (simp only [List.length_cons]; omega) | omega, jtg_c⟩
      · cases hx
    · unfold xMn at hx
      split at hx
      · split at hx <;> cases hx <;> first | exact ⟨by first | (simp only [List.length_cons]; omega) | omega, Or.inl rfl⟩ | exact ⟨by first | (simp only [List.length_cons]; omega) | omega, Or.inr (Or.inl rfl)⟩ | exact ⟨by first | (simp only [List.length_cons]; omega) | omega, Or.inr (Or.inr rfl)⟩ | exact ⟨by first | (simp only [List.length_cons]; omega) | omega, jtg_c⟩
      · cases hx
    · unfold xOb at hx
      repeat' split at hx
      all_goals (cases hx <;> first | exact ⟨by first | (simp only [List.length_cons]; omega) | omega, Or.inl rfl⟩ | exact ⟨by first | (simp only [List.length_cons]; omega) | omega, Or.inr (Or.inl rfl)⟩ | exact ⟨by first | (simp only [List.length_cons]; omega) | omega, Or.inr (Or.inr rfl)⟩ | exact ⟨by first | (simp only [List.length_cons]; omega) | omega, jtg_c⟩)
    · cases hx
  all_goals (dsimp only [ex1] at hx; cases hx)
theorem cal_up {ins : Instr} {st a r : List Value} {h : Hp} {y : Nat} (hc : cl ins st h = some (y, a, r)) : r.length ≤ st.length := by
  have dr : ∀ (n : Nat) (b : Value) (r : List Value), st.drop n = b :: r → r.length ≤ st.length := fun n b r e => by
    have := congrArg List.length e
    rw [List.length_drop, List.length_cons] at this
    omega
  cases ins
  case invokevirtual k =>
    dsimp only [cl] at hc
    split at hc
    · rename_i e
      split at hc
      · cases hc
        exact dr _ _ _ e
      · cases hc
    · cases hc
  case invokespecial k =>
    dsimp only [cl] at hc
    split at hc
    · rename_i e
      cases hc
      exact dr _ _ _ e
    · cases hc
  case invokestatic k =>
    dsimp only [cl] at hc
    split at hc
    · cases hc
      rw [List.length_drop]
      omega
    · cases hc
  all_goals (cases hc)
set_option maxRecDepth 100000 in
set_option maxHeartbeats 4000000 in
/-- a body that throws, out of its calls -/
theorem bodyX (l : Launch) (k : Nat) (hk : k < gNM) (hh : ¬ (271 ≤ k ∧ k ≤ 274)) (hup : ∀ i ins, (gRes k)[i]? = some ins → isSw ins = false ∧ ∀ t, jtg ins = some t → i < t) : ∀ n : Nat, (∀ j, j < n → CallOK l k j) → ∀ (d i : Nat) (ls : List (Option Value)) (st : List Value) (h : Hp) (h' : Hp), ev n d k i ls st h = some (1, none, h') →
    ∀ (p : Program) (e : Env) (R : Room) (s : State) (m : MethodId) (args : Array Value) (below : List Frame) (meth : Method) (c : Code) (Q : State → Prop) (D : va_G) (cy : Nat → ClassId) (A : Nat → Prop) (ad : Nat → Nat) (H : Heap) (locs : List Loc) (cells slots : Nat) (lsr : Array Slot) (pc len : Nat) (o : Instr),
    Cx D cy k p s m args meth c → Rl D cy ad h A s H locs → lv_has lsr ls.length (lzL ad ls) → ls.length = gML k → st.length ≤ 2 * i → (gTab k)[i]? = some (pc, o, len) → (∀ q, s.heap.size ≤ q → A q) → d + 1 ≤ R.frames → 60 * (d + 1) ≤ R.locals → cells + zC h' ≤ R.cells + zC h → slots + zS h' ≤ R.slots + zS h → Sx k ad h A s →
    (∀ (pc' i' : Nat) (o' : Instr) (len' : Nat) (st' : List Value) (ad' : Nat → Nat) (h2 : Hp) (cells' slots' : Nat) (H' : Heap) (locs' : List Loc) (lsr' : Array Slot), (gTab k)[i']? = some (pc', o', len') → (gRes k)[i']? = some .athrow → h' = zThr h2 → lsr'.size = gML k ∧ st'.length ≤ 2 * i' → (∀ a, a < zN h ∨ a = zSC → ad' a = ad a) → cells' + zC h = cells + zC h2 → slots' + zS h = slots + zS h2 → Rl D cy ad' h2 A s H' locs' → W p l e R s m args below meth c H' locs' cells' slots' Q (F0 m pc' lsr' (st'.map (rV ad')))) →
    W p l e R s m args below meth c H locs cells slots Q (F0 m pc lsr (st.map (rV ad))) := by
  intro n
  induction n with
  | zero => intro _ d i ls st h h' he; cases he
  | succ n ih =>
    intro hcall d i ls st h h' he p e R s m args below meth c Q D cy A ad H locs cells slots lsr pc len o hC hR hl hll hst ht hA hfr hlo hcr hsr hsx kx
    have ih := ih (fun j hj => hcall j (Nat.lt_succ_of_lt hj))
    have hkp := ev_keep _ _ _ _ _ _ _ _ _ _ he hR.2.2.2.2
    rw [ev_s] at he
    split at he
    · cases he
    rename_i ins hins
    obtain ⟨pc2, o2, len2, hrow, hinsr⟩ := gAll_row hk hins
    rw [ht] at hrow
    cases hrow
    have hmem := List.mem_of_getElem? ht
    have hdg := KD_all k hk _ hmem
    dsimp only at hdg
    split at he
    · -- a call
      rename_i y a r hcl
      split at he
      · cases he
      rename_i d'
      split at he
      rotate_left
      · cases he
      rename_i hcon
      split at he
      · rename_i v1 h1 hcev
        split at he
        rotate_left
        · cases he
        rename_i hfo
        have k1 := ev_keep _ _ _ _ _ _ _ _ _ _ hcev hR.2.2.2.2
        have k2 := ev_keep _ _ _ _ _ _ _ _ _ _ he k1.1
        have hcl0 := hcl
        rw [hinsr] at hcl
        have run := hcall n (Nat.lt_succ_self n) p e R s m args below meth c D cy A ad h H locs cells slots lsr pc len o st d' y a r v1 h1 hC hR (by rw [hl.1, hll]) hmem hcl hcon.1 hcon.2 hcev (by omega) (by omega) (by have := k2.2.2.2.2.1; omega) (by have := k2.2.2.2.2.2; omega)
        have hA1 : ∀ q, va_A (gws ad cy h) H.size q → A q := fun q hq => by
          rcases hq with ⟨j, E, hj⟩ | hq
          · exact hR.2.1.2 j (q, E) hj
          · exact hA q (Nat.le_trans hR.2.2.1.1 hq)
        refine g_call run hR.2.2.1 hA1 hA1 (fun ad' H1 locs1 hext hP hD hS hwf => ?_)
        have c1 := k1.2.2.2.2.1
        have c2 := k1.2.2.2.2.2
        -- the row behind
        have hlen : len = 3 := by
          have hz : ilen o = len ∨ ilen o = 0 := by
            have := List.all_eq_true.mp (kLn_l k (List.mem_range.mpr hk)) _ hmem
            simpa using this
          have h3 : ilen o = 3 := rs_cl (cl_is hcl)
          omega
        have hsx1 : ∀ ad2 : Nat → Nat, ad2 zSC = ad zSC → Sx k ad2 h1 A s := fun ad2 h2 hL => by
          obtain ⟨xs, z1, z2, z3, z4⟩ := hsx hL
          exact ⟨xs, by rw [h2, k1.2.2.1]; exact z1, by rw [h2]; exact z2, by rw [h2]; exact z3, by rw [k1.2.1]; exact z4⟩
        have hi1 : ∃ o1 len1, (gTab k)[i + 1]? = some (pc + 3, o1, len1) := by
          cases hq : (gTab k)[i + 1]? with
          | none =>
            exfalso
            have : (gRes k)[i + 1]? = none := by rw [KR_all k hk, List.getElem?_map, hq]; rfl
            cases n with
            | zero => cases he
            | succ n =>
              rw [ev_s, this] at he
              cases he
          | some q =>
            have z := kNx_nx _ i _ _ (KN_all k hk) ht hq
            dsimp only at z
            rw [hlen] at z
            obtain ⟨x1, x2, x3⟩ := q
            dsimp only at z
            subst z
            exact ⟨x2, x3, rfl⟩
        obtain ⟨o1, len1, ht1⟩ := hi1
        have hst1 : (v1.toList ++ r).length ≤ 2 * (i + 1) := by
          have q1 := cal_up hcl0
          have q2 : v1.toList.length ≤ 1 := by cases v1 <;> simp
          rw [List.length_append]
          omega
        rcases hfo with ⟨hNN, hvo⟩ | hfo
        · -- nothing was made: the old numbers go on
          have hext2 : ∀ b, b < zN h1 ∨ b = zSC → ad b = ad' b := fun b hb => (hext b (by rw [← hNN]; exact hb)).symm
          have e1 : gws ad' cy h1 = gws ad cy h1 := by
            unfold gws
            refine List.map_congr_left fun b hb => ?_
            have hb' := List.mem_range.mp hb
            rw [hext2 b (Or.inl hb'), gE_ad hwf hext2]
          rw [e1] at hP hD
          have e2 : (v1.map (rV ad')).toList ++ r.map (rV ad) = (v1.toList ++ r).map (rV ad) := by
            rw [List.map_append]
            congr 1
            cases v1 with
            | none => rfl
            | some x =>
              show [rV ad' x] = [rV ad x]
              rw [rV_eq hext2 (N := zN h1) (v := x) hvo]
          rw [e2]
          exact ih (d' + 1) (i + 1) ls (v1.toList ++ r) h1 h' he p e R s m args below meth c Q D cy A ad H1 locs1 _ _ lsr (pc + 3) len1 o1 hC ⟨hP, hD, hS, hwf, k1.1⟩ hl hll hst1 ht1 hA hfr hlo (by omega) (by omega) (hsx1 ad rfl) (fun pc' i' o' len' st' ad2 h2 cells' slots' H' locs' lsr' g1 g2 gz gs g3 g4 g5 g6 => kx pc' i' o' len' st' ad2 h2 cells' slots' H' locs' lsr' g1 g2 gz gs (fun b hb => g3 b (by rw [hNN]; exact hb)) (by omega) (by omega) g6)
        · simp only [fOK, Bool.and_eq_true] at hfo
          have e2 : (v1.map (rV ad')).toList ++ r.map (rV ad) = (v1.toList ++ r).map (rV ad') := by
            rw [List.map_append, st_ad hext hfo.2]
            congr 1
            cases v1 <;> rfl
          rw [e2]
          have hN1 := k1.2.2.2.1
          exact ih (d' + 1) (i + 1) ls (v1.toList ++ r) h1 h' he p e R s m args below meth c Q D cy A ad' H1 locs1 _ _ lsr (pc + 3) len1 o1 hC ⟨hP, hD, hS, hwf, k1.1⟩ (by rw [lzL_ad hext hfo.1]; exact hl) hll hst1 ht1 hA hfr hlo (by omega) (by omega) (hsx1 ad' (hext _ (Or.inr rfl))) (fun pc' i' o' len' st' ad2 h2 cells' slots' H' locs' lsr' g1 g2 gz gs g3 g4 g5 g6 => kx pc' i' o' len' st' ad2 h2 cells' slots' H' locs' lsr' g1 g2 gz gs (fun b hb => by
            rw [g3 b (by omega)]
            exact hext b hb) (by omega) (by omega) g6)
      · rw [gHd_none hh] at he
        cases he
      · cases he
    · -- an end, or a plain step
      split at he
      · cases he
      · split at he
        · cases he
          exact kx pc i o len st ad h cells slots H locs lsr ht hins rfl ⟨by rw [hl.1, hll], hst⟩ (fun _ _ => rfl) rfl rfl hR
        · split at he
          rotate_left
          · cases he
          rename_i i2 ls2 st2 hh2 hx
          have hu := ex1_up hx
          have hw := hup i _ hins
          rw [hinsr] at hx
          have k1 := ex1_keep hx hR.2.2.2.2
          have k2 := ev_keep _ _ _ _ _ _ _ _ _ _ he k1.1
          have hi2 : i2 < (gTab k).length := by
            by_cases hq : i2 < (gTab k).length
            · exact hq
            · exfalso
              have : (gRes k)[i2]? = none := by
                rw [KR_all k hk, List.getElem?_map, List.getElem?_eq_none (by omega)]
                rfl
              cases n with
              | zero => cases he
              | succ n =>
                rw [ev_s, this] at he
                cases he
          refine step hC hk hR hl hll ht hx hi2 (fun pc' len' o' ad' cells' slots' H' locs' lsr' g1 g2 g3 g4 g5 g6 => ?_) hA (by omega) (by omega) (by have := k2.2.2.2.2.1; omega) (by have := k2.2.2.2.2.2; omega) hsx
          have hst2 : st2.length ≤ 2 * i2 := by
            obtain ⟨u1, u2⟩ := hu
            rcases u2 with u2 | u2 | u2
            · omega
            · have := hw.2 _ u2
              omega
            · rw [hw.1] at u2
              cases u2
          have hll2 : ls2.length = gML k := (ex1_len hx).trans hll
          have hsx1 : Sx k ad' hh2 A s := fun hL => by
            obtain ⟨xs, z1, z2, z3, z4⟩ := hsx hL
            have h2 := g2 zSC (Or.inr rfl)
            exact ⟨xs, by rw [h2, k1.2.2.1]; exact z1, by rw [h2]; exact z2, by rw [h2]; exact z3, by rw [k1.2.1]; exact z4⟩
          have hN1 := k1.2.2.2.1
          exact ih d i2 ls2 st2 hh2 h' he p e R s m args below meth c Q D cy A ad' H' locs' cells' slots' lsr' pc' len' o' hC g5 g6 hll2 hst2 g1 hA hfr hlo (by omega) (by omega) hsx1 (fun pc'' i'' o'' len'' st'' ad2 h2 cells'' slots'' H'' locs'' lsr'' f1 f2 fz fs f3 f4 f5 f6 => kx pc'' i'' o'' len'' st'' ad2 h2 cells'' slots'' H'' locs'' lsr'' f1 f2 fz fs (fun b hb => by
            rw [f3 b (by omega)]
            exact g2 b hb) (by omega) (by omega) f6)
/-- the four that throw -/
abbrev gThr : List Nat := [145, 148, 164, 178]
def kT (y i : Nat) : Bool := match (gTab y)[i]?, (gTab y)[i + 1]?, (gTab y)[i + 2]?, (gTab y)[i + 3]? with
  | some a, some b, some c, some d => decide (a.2.1 = .new 124 ∧ a.2.2 = 3 ∧ b = (a.1 + 3, .dup, 1) ∧ c = (a.1 + 4, .invokespecial 126, 3) ∧ d = (a.1 + 7, .athrow, 1))
  | _, _, _, _ => false
set_option maxRecDepth 100000 in
theorem kT_l : ∀ y ∈ gThr, ∀ i ∈ List.range 60, (gRes y)[i]? = some .athrow → kT y i = true := by decide +kernel
set_option maxRecDepth 100000 in
theorem kT_n : ∀ y ∈ gThr, (gRes y).length ≤ 60 ∧ y ∈ gPl ∧ gC (gOwn y) = RX11 := by decide +kernel
def kU (ins : Instr) (i : Nat) : Bool := !(isSw ins) && (match jtg ins with
  | some t => decide (i < t)
  | none => true)
set_option maxRecDepth 100000 in
theorem kU_l : ∀ y ∈ gThr, ∀ i ∈ List.range 60, ((gRes y)[i]?.map fun ins => kU ins i).getD true = true := by decide +kernel
theorem kU_all {y : Nat} (hy : y ∈ gThr) (i : Nat) (ins : Instr) (h : (gRes y)[i]? = some ins) : isSw ins = false ∧ ∀ t, jtg ins = some t → i < t := by
  have hi : i < 60 := by
    have := (List.getElem?_eq_some_iff.mp h).1
    have := (kT_n y hy).1
    omega
  have u := kU_l y hy i (List.mem_range.mpr hi)
  rw [h] at u
  change kU ins i = true at u
  unfold kU at u
  rw [Bool.and_eq_true] at u
  refine ⟨by simpa using u.1, fun t ht => ?_⟩
  have u2 := u.2
  rw [ht] at u2
  exact of_decide_eq_true u2
theorem cat_2 (ad : Nat → Nat) : ∀ r : List Value, ((r.map (rV ad)).map fun v => v.category).sum ≤ 2 * r.length
  | [] => Nat.le_refl 0
  | v :: r => by
    have ih := cat_2 ad r
    have c : (rV ad v).category ≤ 2 := by cases v <;> exact Nat.le_of_ble_eq_true rfl
    rw [List.map_cons, List.map_cons, List.sum_cons, List.length_cons]
    omega
