/-! the small machine's judgement: helpers; Row -/
theorem cP_eq {x y : Int32} : cP .eq x y = (x = y) := rfl
theorem cP_ne {x y : Int32} : cP .ne x y = (¬ x = y) := rfl
theorem cP_lt {x y : Int32} : cP .lt x y = (x < y) := rfl
theorem cP_ge {x y : Int32} : cP .ge x y = (y ≤ x) := rfl
theorem cP_gt {x y : Int32} : cP .gt x y = (y < x) := rfl
theorem cP_le {x y : Int32} : cP .le x y = (x ≤ y) := rfl
theorem eL_n : eL [] = [] := rfl
theorem eL_i {x : Int32} {l : List Value} : eL (.int x :: l) = some (.int x) :: eL l := rfl
theorem eL_l {x : Int64} {l : List Value} : eL (.long x :: l) = some (.long x) :: none :: eL l := rfl
theorem eL_r {x : Nat} {l : List Value} : eL (.ref x :: l) = some (.ref x) :: eL l := rfl
/-- h' is h but for the cells S; nothing is made -/
def fr (S : Nat → Prop) (h h' : Hp) : Prop := zK h' = zK h ∧ zL h' = zL h ∧ zN h' = zN h ∧ zC h' = zC h ∧ zS h' = zS h ∧ (∀ a, ¬ S a → zI h' a = zI h a) ∧ (∀ a, ¬ S a → zJ h' a = zJ h a) ∧ (∀ a, ¬ S a → zR h' a = zR h a)
theorem fr.rf {S : Nat → Prop} {h : Hp} : fr S h h := ⟨rfl, rfl, rfl, rfl, rfl, fun _ _ => rfl, fun _ _ => rfl, fun _ _ => rfl⟩
theorem fr.tr {S : Nat → Prop} {a b c : Hp} (h1 : fr S a b) (h2 : fr S b c) : fr S a c := by
  obtain ⟨a1, a2, a3, a4, a5, a6, a7, a8⟩ := h1
  obtain ⟨b1, b2, b3, b4, b5, b6, b7, b8⟩ := h2
  exact ⟨b1.trans a1, b2.trans a2, b3.trans a3, b4.trans a4, b5.trans a5, fun q hq => (b6 q hq).trans (a6 q hq), fun q hq => (b7 q hq).trans (a7 q hq), fun q hq => (b8 q hq).trans (a8 q hq)⟩
theorem fr.wk {S T : Nat → Prop} {a b : Hp} (h1 : fr S a b) (hs : ∀ q, S q → T q) : fr T a b := by
  obtain ⟨a1, a2, a3, a4, a5, a6, a7, a8⟩ := h1
  exact ⟨a1, a2, a3, a4, a5, fun q hq => a6 q (fun z => hq (hs q z)), fun q hq => a7 q (fun z => hq (hs q z)), fun q hq => a8 q (fun z => hq (hs q z))⟩
theorem fr_I {S : Nat → Prop} {h : Hp} {a i : Nat} {v : Int32} (ha : S a) : fr S h (zsI h a i v) := ⟨rfl, rfl, rfl, rfl, rfl, fun q hq => zsI_o (fun z => hq (z ▸ ha)), fun _ _ => rfl, fun _ _ => rfl⟩
theorem fr_J {S : Nat → Prop} {h : Hp} {a i : Nat} {v : Int64} (ha : S a) : fr S h (zsJ h a i v) := ⟨rfl, rfl, rfl, rfl, rfl, fun _ _ => rfl, fun q hq => zsJ_o (fun z => hq (z ▸ ha)), fun _ _ => rfl⟩
theorem fr_R {S : Nat → Prop} {h : Hp} {a i : Nat} {v : Option Nat} (ha : S a) : fr S h (zsR h a i v) := ⟨rfl, rfl, rfl, rfl, rfl, fun _ _ => rfl, fun _ _ => rfl, fun q hq => zsR_o (fun z => hq (z ▸ ha))⟩
/-- r is a row whose reach is rc; its WAYS stand in the cell r + 1 -/
def isRow (h : Hp) (r rc : Nat) : Prop := zK h r = 6 ∧ r < zN h ∧ zK h (r + 1) = 15 ∧ r + 1 < zN h ∧ zL h (r + 1) = 2 * rc + 1 ∧ zI h r 0 = iI rc ∧ zR h r 1 = some (r + 1) ∧ rc ≤ 800
theorem isRow.fr {S : Nat → Prop} {h h' : Hp} {r rc : Nat} (hr : isRow h r rc) (hf : fr S h h') (h0 : zI h' r 0 = zI h r 0) (h1 : zR h' r 1 = zR h r 1) : isRow h' r rc := by
  obtain ⟨a1, a2, a3, a4, a5, a6, a7, a8⟩ := hr
  obtain ⟨b1, b2, b3, -⟩ := hf
  exact ⟨by rw [b1]; exact a1, by rw [b3]; exact a2, by rw [b1]; exact a3, by rw [b3]; exact a4, by rw [b2]; exact a5, by rw [h0]; exact a6, by rw [h1]; exact a7, a8⟩
/-- WAYS of n as they stand in the cell w -/
def wAt (h : Hp) (w rc : Nat) (n : Int) : Int64 := if -rc ≤ n ∧ n ≤ rc then zJ h w (n + rc).toNat else 0
theorem t_at {d : Nat} {h : Hp} {r rc : Nat} {n : Int} {Q : Nat → Option Value → Hp → Prop} (hr : isRow h r rc) (hn : -1000000 ≤ n ∧ n ≤ 1000000) (hq : Q 0 (some (.long (wAt h (r + 1) rc n))) h) : PR d m_Row_at [.ref r, .int (iI n)] h Q := by
  obtain ⟨h1, h2, h3, h4, h5, h6, h7, h8⟩ := hr
  have b1 : i32 (n + rc) := by constructor <;> omega
  show PW d 66 0 [some (.ref r), some (.int (iI n)), none] [] h Q
  refine vs_ok 7 ?_
  rw [show ((gRes 66).drop 0).take 7 = [.iload 1, .aload 0, .getfield 6000, .iadd, .istore 2, .iload 2, .ifCond .lt 12] from rfl]
  simp only [vs_iadd, vs_ifCond, vs_getfield, vs_aload0, vs_iload1, vs_iload2, vs_istore2n, vs_istore2i, vs_istore2r, vs_istore2l, vs_nil, gv_0, gv_1, gv_2, gv_3, pv_0, pv_1, va_rf_s, Nat.reduceDiv, Nat.reduceMod, Nat.reduceAdd, Nat.reduceMul, Int.reduceToNat, true_and, and_true, and_self, cP_eq, cP_ne, cP_lt, cP_ge, cP_gt, cP_le, eL_i, eL_l, eL_r, eL_n, h1, h2, h6, iI_add]
  rw [n0_iI, iI_lt b1 (by constructor <;> omega)]
  have hz : ¬ (-rc ≤ n ∧ n ≤ rc) → PW d 66 12 [some (.ref r), some (.int (iI n)), some (.int (iI (n + rc)))] [] h Q := fun hc => by
    refine vs_ok 2 ?_
    rw [show ((gRes 66).drop 12).take 2 = [.jsr_w 0, .goto 18] from rfl]
    simp only [vs_jsr_w, vs_goto, vs_nil, gv_0, gv_1, gv_2, gv_3, pv_0, pv_1, va_rf_s, Nat.reduceDiv, Nat.reduceMod, Nat.reduceAdd, Nat.reduceMul, Int.reduceToNat, true_and, and_true, and_self, cP_eq, cP_ne, cP_lt, cP_ge, cP_gt, cP_le, eL_i, eL_l, eL_r, eL_n]
    refine vs_ok 1 ?_
    rw [show ((gRes 66).drop 18).take 1 = [.lreturn] from rfl]
    simp only [vs_lreturn, vs_nil, gv_0, gv_1, gv_2, gv_3, pv_0, pv_1, va_rf_s, Nat.reduceDiv, Nat.reduceMod, Nat.reduceAdd, Nat.reduceMul, Int.reduceToNat, true_and, and_true, and_self, cP_eq, cP_ne, cP_lt, cP_ge, cP_gt, cP_le, eL_i, eL_l, eL_r, eL_n]
    refine ⟨by decide, ?_⟩
    have : wAt h (r + 1) rc n = 0 := if_neg hc
    rw [this] at hq
    exact hq
  refine ⟨fun c1 => hz (by omega), fun c1 => ?_⟩
  refine vs_ok 5 ?_
  rw [show ((gRes 66).drop 7).take 5 = [.iload 2, .aload 0, .getfield 6012, .arraylength, .if_icmp .lt 14] from rfl]
  simp only [vs_if_icmp, vs_getfield, vs_arraylength, vs_aload0, vs_iload2, vs_nil, gv_0, gv_1, gv_2, gv_3, pv_0, pv_1, va_rf_s, Nat.reduceDiv, Nat.reduceMod, Nat.reduceAdd, Nat.reduceMul, Int.reduceToNat, true_and, and_true, and_self, cP_eq, cP_ne, cP_lt, cP_ge, cP_gt, cP_le, eL_i, eL_l, eL_r, eL_n, h1, h2, h3, h4, h5, h7, or_true, true_or]
  rw [show Int32.ofNat (2 * rc + 1) = iI ((2 * rc + 1 : Nat) : Int) from nI_iI _, iI_lt b1 (by constructor <;> omega)]
  refine ⟨fun c2 => ?_, fun c2 => hz (by omega)⟩
  refine vs_ok 5 ?_
  rw [show ((gRes 66).drop 14).take 5 = [.aload 0, .getfield 6012, .iload 2, .laload, .lreturn] from rfl]
  simp only [vs_getfield, vs_laload, vs_lreturn, vs_aload0, vs_iload2, vs_nil, gv_0, gv_1, gv_2, gv_3, pv_0, pv_1, va_rf_s, Nat.reduceDiv, Nat.reduceMod, Nat.reduceAdd, Nat.reduceMul, Int.reduceToNat, true_and, and_true, and_self, cP_eq, cP_ne, cP_lt, cP_ge, cP_gt, cP_le, eL_i, eL_l, eL_r, eL_n, h1, h2, h3, h4, h5, h7]
  refine ⟨(inB_iI b1).mpr ⟨by omega, by omega⟩, by decide, ?_⟩
  have : wAt h (r + 1) rc n = zJ h (r + 1) (iI (n + rc)).toNatClampNeg := by
    rw [iI_nat b1 (by omega)]
    exact if_pos ⟨by omega, by omega⟩
  rw [this] at hq
  exact hq
