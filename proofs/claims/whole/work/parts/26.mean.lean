/-! Row: addFace, commonPart, leastPart, meanPart, spreadPart, farFrom -/
theorem t_addFace {d : Nat} {h : Hp} {r rc : Nat} {lo hi tot n : Int} {W : Int → Int} {Q : Nat → Option Value → Hp → Prop} (hv : rowV h r rc lo hi tot W) (hn : -rc ≤ n ∧ n ≤ rc)
    (hq : ∀ h', fr (rS r) h h' → rowV h' r rc (min lo n) (max hi n) (tot + 1) (fun m => if m = n then W n + 1 else W m) → Q 0 none h') : PR (d + 1) m_Row_addFace [.ref r, .int (iI n)] h Q := by
  have hrc := hv.1.2.2.2.2.2.2.2
  have va5 := hv.2.2.2.2.1
  show PW (d + 1) 70 0 [some (.ref r), some (.int (iI n))] [] h Q
  refine vs_ok 5 ?_
  rw [show ((gRes 70).drop 0).take 5 = [.aload 0, .iload 1, .aload 0, .iload 1, .invokevirtual 66] from rfl]
  simp only [vs_iv, vs_aload0, vs_iload1, vs_nil, gv_0, gv_1, gv_2, gv_3, pv_0, pv_1, va_rf_s, Nat.reduceDiv, Nat.reduceMod, Nat.reduceAdd, Nat.reduceMul, Int.reduceToNat, true_and, and_true, and_self, cP_eq, cP_ne, cP_lt, cP_ge, cP_gt, cP_le, eL_i, eL_l, eL_r, eL_n, Option.toList_none, Option.toList_some, List.nil_append, List.cons_append]
  refine PW.iv rfl rfl rfl hv.1.1 hv.1.2.1 (le_b rfl) (le_b rfl) ?_
  refine t_atV hv ⟨by omega, by omega⟩ ⟨rfl, ⟨rfl, rfl⟩, ?_⟩
  refine vs_ok 3 ?_
  rw [show ((gRes 70).drop 5).take 3 = [.jsr_w 1, .ladd, .invokevirtual 67] from rfl]
  simp only [vs_ladd, vs_jsr_w, vs_iv, vs_nil, gv_0, gv_1, gv_2, gv_3, pv_0, pv_1, va_rf_s, Nat.reduceDiv, Nat.reduceMod, Nat.reduceAdd, Nat.reduceMul, Int.reduceToNat, true_and, and_true, and_self, cP_eq, cP_ne, cP_lt, cP_ge, cP_gt, cP_le, eL_i, eL_l, eL_r, eL_n, Option.toList_none, Option.toList_some, List.nil_append, List.cons_append, lI_add]
  refine PW.iv rfl rfl rfl hv.1.1 hv.1.2.1 (le_b rfl) (le_b rfl) ?_
  refine t_put hv.1 ⟨by omega, by omega⟩ fun g f2 w2 => ⟨rfl, ⟨f2.2.2.1, rfl⟩, ?_⟩
  have eI := f2.2.2.2.2.2.1 r (by omega)
  have eJ := f2.2.2.2.2.2.2.1 r (by omega)
  have eR := f2.2.2.2.2.2.2.2 r (by omega)
  have g1 := hv.1.fr f2 (by rw [eI]) (by rw [eR])
  have e2 : zI g r 2 = iI lo := by rw [eI]; exact hv.2.1
  have e3 : zI g r 3 = iI hi := by rw [eI]; exact hv.2.2.1
  have e4 : zJ g r 4 = lI tot := by rw [eJ]; exact hv.2.2.2.1
  refine vs_ok 6 ?_
  rw [show ((gRes 70).drop 8).take 6 = [.aload 0, .aload 0, .getfield 6020, .iload 1, .invokedynamic 3, .putfield 6020] from rfl]
  simp only [vs_getfield, vs_putfield, vs_aload0, vs_iload1, vs_nil, gv_0, gv_1, gv_2, gv_3, pv_0, pv_1, va_rf_s, vs_abs, vs_max, vs_min, vs_oinit, Nat.reduceDiv, Nat.reduceMod, Nat.reduceAdd, Nat.reduceMul, Int.reduceToNat, true_and, and_true, and_self, cP_eq, cP_ne, cP_lt, cP_ge, cP_gt, cP_le, eL_i, eL_l, eL_r, eL_n, Option.toList_none, Option.toList_some, List.nil_append, List.cons_append, g1.1, g1.2.1, e2]
  rw [imin (by constructor <;> omega) (by constructor <;> omega)]
  refine ⟨le_b rfl, _, rfl, ?_⟩
  have f3 : fr (fun q => q = r) g (zsI g r 2 (iI (min lo n))) := fr_I rfl
  generalize hg3 : zsI g r 2 (iI (min lo n)) = g3 at f3
  have e33 : zI g3 r 3 = iI hi := by rw [← hg3, zI_sI, if_neg (by omega)]; exact e3
  have e32 : zI g3 r 2 = iI (min lo n) := by rw [← hg3, zI_sI, if_pos ⟨rfl, rfl⟩]
  have e30 : zI g3 r 0 = zI g r 0 := by rw [← hg3, zI_sI, if_neg (by omega)]
  have e3R : zR g3 r 1 = zR g r 1 := by rw [← hg3]; rfl
  have e3J : zJ g3 = zJ g := by rw [← hg3]; rfl
  have g13 := g1.fr f3 e30 e3R
  refine vs_ok 6 ?_
  rw [show ((gRes 70).drop 14).take 6 = [.aload 0, .aload 0, .getfield 6030, .iload 1, .invokedynamic 2, .putfield 6030] from rfl]
  simp only [vs_getfield, vs_putfield, vs_aload0, vs_iload1, vs_nil, gv_0, gv_1, gv_2, gv_3, pv_0, pv_1, va_rf_s, vs_abs, vs_max, vs_min, vs_oinit, Nat.reduceDiv, Nat.reduceMod, Nat.reduceAdd, Nat.reduceMul, Int.reduceToNat, true_and, and_true, and_self, cP_eq, cP_ne, cP_lt, cP_ge, cP_gt, cP_le, eL_i, eL_l, eL_r, eL_n, Option.toList_none, Option.toList_some, List.nil_append, List.cons_append, g13.1, g13.2.1, e33]
  rw [imax (by constructor <;> omega) (by constructor <;> omega)]
  refine ⟨le_b rfl, _, rfl, ?_⟩
  have f4 : fr (fun q => q = r) g3 (zsI g3 r 3 (iI (max hi n))) := fr_I rfl
  generalize hg4 : zsI g3 r 3 (iI (max hi n)) = g4 at f4
  have e43 : zI g4 r 3 = iI (max hi n) := by rw [← hg4, zI_sI, if_pos ⟨rfl, rfl⟩]
  have e42 : zI g4 r 2 = iI (min lo n) := by rw [← hg4, zI_sI, if_neg (by omega)]; exact e32
  have e40 : zI g4 r 0 = zI g3 r 0 := by rw [← hg4, zI_sI, if_neg (by omega)]
  have e4R : zR g4 r 1 = zR g3 r 1 := by rw [← hg4]; rfl
  have e4J : zJ g4 = zJ g3 := by rw [← hg4]; rfl
  have g14 := g13.fr f4 e40 e4R
  have e44 : zJ g4 r 4 = lI tot := by rw [e4J, e3J]; exact e4
  refine vs_ok 7 ?_
  rw [show ((gRes 70).drop 20).take 7 = [.aload 0, .dup, .getfield 6041, .jsr_w 1, .ladd, .putfield 6041, .return_] from rfl]
  simp only [vs_ladd, vs_jsr_w, vs_getfield, vs_putfield, vs_return_, vs_dupi, vs_dupr, vs_aload0, vs_nil, gv_0, gv_1, gv_2, gv_3, pv_0, pv_1, va_rf_s, Nat.reduceDiv, Nat.reduceMod, Nat.reduceAdd, Nat.reduceMul, Int.reduceToNat, true_and, and_true, and_self, cP_eq, cP_ne, cP_lt, cP_ge, cP_gt, cP_le, eL_i, eL_l, eL_r, eL_n, Option.toList_none, Option.toList_some, List.nil_append, List.cons_append, g14.1, g14.2.1, e44, lI_add]
  refine ⟨_, rfl, by decide, ?_⟩
  have f5 : fr (fun q => q = r) g4 (zsJ g4 r 4 (lI (tot + 1))) := fr_J rfl
  generalize hg5 : zsJ g4 r 4 (lI (tot + 1)) = g5 at f5
  refine hq g5 (((f2.wk (fun _ z => Or.inr z)).tr (f3.wk (fun _ z => Or.inl z))).tr ((f4.wk (fun _ z => Or.inl z)).tr (f5.wk (fun _ z => Or.inl z)))) ⟨g14.fr f5 (by rw [← hg5]; rfl) (by rw [← hg5]; rfl), by rw [← hg5]; exact e42, by rw [← hg5]; exact e43, by rw [← hg5, zJ_sJ, if_pos ⟨rfl, rfl⟩], by omega, fun m => ?_, fun m hm => ?_⟩
  · have e5 : zJ g5 (r + 1) = zJ g (r + 1) := by
      rw [← hg5, zsJ_o (by omega), e4J, e3J]
    rw [wAt_eq e5, w2]
    show _ = lI (if m = n then W n + 1 else W m)
    by_cases c : m = n
    · rw [if_pos ⟨c, hn⟩, if_pos c]
    · rw [if_neg (fun z => c z.1), if_neg c]
      exact hv.2.2.2.2.2.1 m
  · show (if m = n then W n + 1 else W m) = 0
    rw [if_neg (by omega)]
    exact hv.2.2.2.2.2.2 m (by omega)
/-- the greatest common part -/
def gcI (a b : Int) : Int := (Nat.gcd a.toNat b.toNat : Int)
theorem gcI_0 {a : Int} (h : 0 ≤ a) : gcI a 0 = a := by
  unfold gcI
  rw [show (0 : Int).toNat = 0 from rfl, Nat.gcd_zero_right]
  omega
theorem gcI_s {a b : Int} (ha : 0 ≤ a) (hb : 0 < b) : gcI b (a % b) = gcI a b := by
  unfold gcI
  have e : (a % b).toNat = a.toNat % b.toNat := by
    have h1 : ((a.toNat % b.toNat : Nat) : Int) = a % b := by
      rw [Int.natCast_emod, Int.toNat_of_nonneg ha, Int.toNat_of_nonneg (by omega)]
    omega
  rw [e, Nat.gcd_comm b.toNat, ← Nat.gcd_rec, Nat.gcd_comm]
theorem lc0 {x : Int} (hx : i64 x) : lg_cmp (lI x) (Int64.ofInt 0) = 0 ↔ x = 0 := lg0 hx
theorem t_commonPart {d : Nat} {h : Hp} {a b : Int} {Q : Nat → Option Value → Hp → Prop} (ha : 0 ≤ a ∧ a < 9223372036854775808) (hb : 0 ≤ b ∧ b < 9223372036854775808)
    (hq : Q 0 (some (.long (lI (gcI a b)))) h) : PR d m_Row_commonPart [.long (lI a), .long (lI b)] h Q := by
  show PW d 84 0 [some (.long (lI a)), none, some (.long (lI b)), none, none, none, none, none, none, none, none] [] h Q
  refine vs_ok 6 ?_
  rw [show ((gRes 84).drop 0).take 6 = [.lload 0, .lstore 4, .lload 2, .lstore 6, .iconst 0, .istore 8] from rfl]
  simp only [vs_iconst, vs_lload0, vs_lload2, vs_lstore4n, vs_lstore4i, vs_lstore4r, vs_lstore4l, vs_lstore6n, vs_lstore6i, vs_lstore6r, vs_lstore6l, vs_istore8n, vs_istore8i, vs_istore8r, vs_istore8l, vs_nil, gv_0, gv_1, gv_2, gv_3, pv_0, pv_1, va_rf_s, Nat.reduceDiv, Nat.reduceMod, Nat.reduceAdd, Nat.reduceMul, Int.reduceToNat, true_and, and_true, and_self, cP_eq, cP_ne, cP_lt, cP_ge, cP_gt, cP_le, eL_i, eL_l, eL_r, eL_n, Option.toList_none, Option.toList_some, List.nil_append, List.cons_append]
  have fin : ∀ (x y i : Int) (o9 o10 : Option Value), 0 ≤ x → x < 9223372036854775808 → y = 0 → 0 ≤ i → i < 1000 → gcI x y = gcI a b → PW d 84 6 [some (.long (lI a)), none, some (.long (lI b)), none, some (.long (lI x)), none, some (.long (lI y)), none, some (.int (iI i)), o9, o10] [] h Q := fun x y i o9 o10 hx hx2 hy hi hi2 hg => by
    refine vs_ok 3 ?_
    rw [show ((gRes 84).drop 6).take 3 = [.iload 8, .iconst 1000, .if_icmp .ge 23] from rfl]
    simp only [vs_iconst, vs_if_icmp, vs_iload8, vs_nil, gv_0, gv_1, gv_2, gv_3, pv_0, pv_1, va_rf_s, Nat.reduceDiv, Nat.reduceMod, Nat.reduceAdd, Nat.reduceMul, Int.reduceToNat, true_and, and_true, and_self, cP_eq, cP_ne, cP_lt, cP_ge, cP_gt, cP_le, eL_i, eL_l, eL_r, eL_n, Option.toList_none, Option.toList_some, List.nil_append, List.cons_append]
    rw [show (Int32.ofInt 1000) = iI 1000 from rfl, iI_le (by constructor <;> omega) (by constructor <;> omega)]
    refine ⟨fun c => absurd c (by omega), fun _ => ?_⟩
    refine vs_ok 4 ?_
    rw [show ((gRes 84).drop 9).take 4 = [.lload 6, .jsr_w 0, .lcmp, .ifCond .eq 23] from rfl]
    simp only [vs_lcmp, vs_jsr_w, vs_ifCond, vs_lload6, vs_nil, gv_0, gv_1, gv_2, gv_3, pv_0, pv_1, va_rf_s, Nat.reduceDiv, Nat.reduceMod, Nat.reduceAdd, Nat.reduceMul, Int.reduceToNat, true_and, and_true, and_self, cP_eq, cP_ne, cP_lt, cP_ge, cP_gt, cP_le, eL_i, eL_l, eL_r, eL_n, Option.toList_none, Option.toList_some, List.nil_append, List.cons_append]
    rw [lc0 (by constructor <;> omega)]
    refine ⟨fun _ => ?_, fun c => absurd hy c⟩
    refine vs_ok 2 ?_
    rw [show ((gRes 84).drop 23).take 2 = [.lload 4, .lreturn] from rfl]
    simp only [vs_lreturn, vs_lload4, vs_nil, gv_0, gv_1, gv_2, gv_3, pv_0, pv_1, va_rf_s, Nat.reduceDiv, Nat.reduceMod, Nat.reduceAdd, Nat.reduceMul, Int.reduceToNat, true_and, and_true, and_self, cP_eq, cP_ne, cP_lt, cP_ge, cP_gt, cP_le, eL_i, eL_l, eL_r, eL_n, Option.toList_none, Option.toList_some, List.nil_append, List.cons_append]
    refine ⟨by decide, ?_⟩
    rw [← hg, hy, gcI_0 hx] at hq
    exact hq
  have one : ∀ (x y i : Int) (o9 o10 : Option Value), 0 ≤ x → x < 9223372036854775808 → 0 < y → y < 9223372036854775808 → 0 ≤ i → i < 1000 → (∀ o9 o10, PW d 84 6 [some (.long (lI a)), none, some (.long (lI b)), none, some (.long (lI y)), none, some (.long (lI (x % y))), none, some (.int (iI (i + 1))), o9, o10] [] h Q) → PW d 84 6 [some (.long (lI a)), none, some (.long (lI b)), none, some (.long (lI x)), none, some (.long (lI y)), none, some (.int (iI i)), o9, o10] [] h Q := fun x y i o9 o10 hx hx2 hy hy2 hi hi2 hn => by
    refine vs_ok 3 ?_
    rw [show ((gRes 84).drop 6).take 3 = [.iload 8, .iconst 1000, .if_icmp .ge 23] from rfl]
    simp only [vs_iconst, vs_if_icmp, vs_iload8, vs_nil, gv_0, gv_1, gv_2, gv_3, pv_0, pv_1, va_rf_s, Nat.reduceDiv, Nat.reduceMod, Nat.reduceAdd, Nat.reduceMul, Int.reduceToNat, true_and, and_true, and_self, cP_eq, cP_ne, cP_lt, cP_ge, cP_gt, cP_le, eL_i, eL_l, eL_r, eL_n, Option.toList_none, Option.toList_some, List.nil_append, List.cons_append]
    rw [show (Int32.ofInt 1000) = iI 1000 from rfl, iI_le (by constructor <;> omega) (by constructor <;> omega)]
    refine ⟨fun c => absurd c (by omega), fun _ => ?_⟩
    refine vs_ok 4 ?_
    rw [show ((gRes 84).drop 9).take 4 = [.lload 6, .jsr_w 0, .lcmp, .ifCond .eq 23] from rfl]
    simp only [vs_lcmp, vs_jsr_w, vs_ifCond, vs_lload6, vs_nil, gv_0, gv_1, gv_2, gv_3, pv_0, pv_1, va_rf_s, Nat.reduceDiv, Nat.reduceMod, Nat.reduceAdd, Nat.reduceMul, Int.reduceToNat, true_and, and_true, and_self, cP_eq, cP_ne, cP_lt, cP_ge, cP_gt, cP_le, eL_i, eL_l, eL_r, eL_n, Option.toList_none, Option.toList_some, List.nil_append, List.cons_append]
    rw [lc0 (by constructor <;> omega)]
    refine ⟨fun c => absurd c (by omega), fun _ => ?_⟩
    refine vs_ok 10 ?_
    rw [show ((gRes 84).drop 13).take 10 = [.lload 4, .lload 6, .lrem, .lstore 9, .lload 6, .lstore 4, .lload 9, .lstore 6, .iinc 8 1, .goto 6] from rfl]
    simp only [vs_lrem, vs_goto, vs_lload4, vs_lstore4n, vs_lstore4i, vs_lstore4r, vs_lstore4l, vs_lload6, vs_lstore6n, vs_lstore6i, vs_lstore6r, vs_lstore6l, vs_iinc8n, vs_iinc8i, vs_iinc8r, vs_iinc8l, vs_lload9, vs_lstore9n, vs_lstore9i, vs_lstore9r, vs_lstore9l, vs_nil, gv_0, gv_1, gv_2, gv_3, pv_0, pv_1, va_rf_s, Nat.reduceDiv, Nat.reduceMod, Nat.reduceAdd, Nat.reduceMul, Int.reduceToNat, true_and, and_true, and_self, cP_eq, cP_ne, cP_lt, cP_ge, cP_gt, cP_le, eL_i, eL_l, eL_r, eL_n, Option.toList_none, Option.toList_some, List.nil_append, List.cons_append, iI_add]
    refine ⟨fun z => absurd ((lI_eq (y := 0) (by constructor <;> omega) (by constructor <;> omega)).mp z) (by omega), ?_⟩
    rw [lI_mod (by constructor <;> omega) (by constructor <;> omega) hx hy]
    exact hn _ _
  have loop : ∀ (j : Nat) (x y i : Int) (o9 o10 : Option Value), 0 ≤ x → x < 9223372036854775808 → 0 ≤ y → y < 2 ^ j → j ≤ 63 → 0 ≤ i → i + 2 * j < 1000 → gcI x y = gcI a b → PW d 84 6 [some (.long (lI a)), none, some (.long (lI b)), none, some (.long (lI x)), none, some (.long (lI y)), none, some (.int (iI i)), o9, o10] [] h Q := by
    intro j
    induction j with
    | zero =>
      intro x y i o9 o10 hx hx2 hy hy2 hj hi hi2 hg
      exact fin x y i o9 o10 hx hx2 (by omega) hi (by omega) hg
    | succ j ih =>
      intro x y i o9 o10 hx hx2 hy hy2 hj hi hi2 hg
      have hp : (2 : Int) ^ (j + 1) = 2 * 2 ^ j := by rw [Int.pow_succ]; omega
      have hp63 : (2 : Int) ^ (j + 1) ≤ 9223372036854775808 := by
        have : (2 : Nat) ^ (j + 1) ≤ 2 ^ 63 := Nat.pow_le_pow_right (by decide) hj
        have h2 : ((2 ^ (j + 1) : Nat) : Int) ≤ ((2 ^ 63 : Nat) : Int) := Int.ofNat_le.mpr this
        simpa using h2
      by_cases hy0 : y = 0
      · exact fin x y i o9 o10 hx hx2 hy0 hi (by omega) hg
      have r1 : 0 ≤ x % y := Int.emod_nonneg _ hy0
      have r2 : x % y < y := Int.emod_lt_of_pos _ (by omega)
      refine one x y i o9 o10 hx hx2 (by omega) (by omega) hi (by omega) fun o9 o10 => ?_
      have hg1 : gcI y (x % y) = gcI a b := by rw [gcI_s hx (by omega), hg]
      by_cases hr0 : x % y = 0
      · exact fin y (x % y) (i + 1) o9 o10 (by omega) (by omega) hr0 (by omega) (by omega) hg1
      have s1 : 0 ≤ y % (x % y) := Int.emod_nonneg _ hr0
      have s2 : y % (x % y) < x % y := Int.emod_lt_of_pos _ (by omega)
      have s3 : y % (x % y) ≤ y - x % y := by
        have h1 := Int.emod_add_mul_ediv y (x % y)
        have h2 : 1 ≤ y / (x % y) := (Int.le_ediv_iff_mul_le (by omega)).mpr (by omega)
        have h3 : x % y * 1 ≤ x % y * (y / (x % y)) := Int.mul_le_mul_of_nonneg_left h2 (by omega)
        omega
      refine one y (x % y) (i + 1) o9 o10 (by omega) (by omega) (by omega) (by omega) (by omega) (by omega) fun o9 o10 => ?_
      exact ih (x % y) (y % (x % y)) (i + 1 + 1) o9 o10 (by omega) (by omega) s1 (by omega) (by omega) (by omega) (by omega) (by rw [gcI_s (by omega) (by omega), hg1])
  exact loop 63 a b 0 none none ha.1 ha.2 hb.1 (Int.lt_of_lt_of_le hb.2 (by decide)) (Nat.le_refl _) (by omega) (by omega) rfl
theorem labs {x : Int} (h : -9223372036854775808 < x ∧ x < 9223372036854775808) : (if 0 < lI x then lI x else -lI x) = lI (x.natAbs : Int) := by
  have e : (0 : Int64) < lI x ↔ 0 < x := lI_lt (x := 0) (by constructor <;> omega) (by constructor <;> omega)
  by_cases c : 0 < x
  · rw [if_pos (e.mpr c), show ((x.natAbs : Nat) : Int) = x by omega]
  · rw [if_neg (fun z => c (e.mp z)), lI_neg, show ((x.natAbs : Nat) : Int) = -x by omega]
theorem lI_tdiv {x y : Int} (hx0 : -9223372036854775808 < x) (hx : i64 x) (hy : i64 y) (h1 : 0 < y) : lI x / lI y = lI (x.tdiv y) := by
  apply Int64.toInt_inj.mp
  have b : i64 (x.tdiv y) := by
    have h3 : (x.tdiv y).natAbs ≤ x.natAbs := Int.natAbs_tdiv_le_natAbs x y
    constructor <;> omega
  rw [Int64.toInt_div, lI_toInt hx, lI_toInt hy, lI_toInt b]
  have := Int64.toInt_bmod (lI (x.tdiv y))
  rwa [lI_toInt b] at this
/-- up or low in least numbers -/
def lpV (up low : Int) (upper : Int32) : Int := if gcI up.natAbs low = 0 then 0 else if upper = 0 then low.tdiv (gcI up.natAbs low) else up.tdiv (gcI up.natAbs low)
theorem gcI_b {a b : Int} (ha : 0 ≤ a ∧ a < 9223372036854775808) (hb : 0 ≤ b ∧ b < 9223372036854775808) : 0 ≤ gcI a b ∧ gcI a b < 9223372036854775808 := by
  unfold gcI
  by_cases h : a.toNat = 0
  · rw [h, Nat.gcd_zero_left]
    omega
  · have := Nat.gcd_le_left b.toNat (Nat.pos_of_ne_zero h)
    omega
theorem t_leastPart {d : Nat} {h : Hp} {up low : Int} {u : Int32} {Q : Nat → Option Value → Hp → Prop} (ha : -9223372036854775808 < up ∧ up < 9223372036854775808) (hb : 0 ≤ low ∧ low < 9223372036854775808)
    (hq : Q 0 (some (.long (lI (lpV up low u)))) h) : PR (d + 1) m_Row_leastPart [.long (lI up), .long (lI low), .int u] h Q := by
  show PW (d + 1) 83 0 [some (.long (lI up)), none, some (.long (lI low)), none, some (.int u), none, none] [] h Q
  refine vs_ok 4 ?_
  rw [show ((gRes 83).drop 0).take 4 = [.lload 0, .invokedynamic 1, .lload 2, .invokestatic 84] from rfl]
  simp only [vs_ist, vs_lload0, vs_lload2, vs_nil, gv_0, gv_1, gv_2, gv_3, pv_0, pv_1, va_rf_s, vs_abs, vs_max, vs_min, vs_oinit, Nat.reduceDiv, Nat.reduceMod, Nat.reduceAdd, Nat.reduceMul, Int.reduceToNat, true_and, and_true, and_self, cP_eq, cP_ne, cP_lt, cP_ge, cP_gt, cP_le, eL_i, eL_l, eL_r, eL_n, Option.toList_none, Option.toList_some, List.nil_append, List.cons_append]
  rw [labs ha]
  refine ⟨le_b rfl, ?_⟩
  refine PW.ss (r := []) rfl (le_b rfl) rfl rfl (le_b rfl) (le_b rfl) ?_
  have hg := gcI_b (a := (up.natAbs : Int)) (b := low) (by omega) hb
  refine t_commonPart (by omega) hb ⟨rfl, ⟨rfl, rfl⟩, ?_⟩
  refine vs_ok 5 ?_
  rw [show ((gRes 83).drop 4).take 5 = [.lstore 5, .lload 5, .jsr_w 0, .lcmp, .ifCond .ne 11] from rfl]
  simp only [vs_lcmp, vs_jsr_w, vs_ifCond, vs_lload5, vs_lstore5n, vs_lstore5i, vs_lstore5r, vs_lstore5l, vs_nil, gv_0, gv_1, gv_2, gv_3, pv_0, pv_1, va_rf_s, Nat.reduceDiv, Nat.reduceMod, Nat.reduceAdd, Nat.reduceMul, Int.reduceToNat, true_and, and_true, and_self, cP_eq, cP_ne, cP_lt, cP_ge, cP_gt, cP_le, eL_i, eL_l, eL_r, eL_n, Option.toList_none, Option.toList_some, List.nil_append, List.cons_append]
  rw [lg0 (by constructor <;> omega)]
  refine ⟨fun c => ?_, fun c => ?_⟩
  · refine vs_ok 2 ?_
    rw [show ((gRes 83).drop 11).take 2 = [.iload 4, .ifCond .eq 17] from rfl]
    simp only [vs_ifCond, vs_iload4, vs_nil, gv_0, gv_1, gv_2, gv_3, pv_0, pv_1, va_rf_s, Nat.reduceDiv, Nat.reduceMod, Nat.reduceAdd, Nat.reduceMul, Int.reduceToNat, true_and, and_true, and_self, cP_eq, cP_ne, cP_lt, cP_ge, cP_gt, cP_le, eL_i, eL_l, eL_r, eL_n, Option.toList_none, Option.toList_some, List.nil_append, List.cons_append]
    unfold lpV at hq
    rw [if_neg c] at hq
    refine ⟨fun e => ?_, fun e => ?_⟩
    · refine vs_ok 4 ?_
      rw [show ((gRes 83).drop 17).take 4 = [.lload 2, .lload 5, .ldiv, .lreturn] from rfl]
      simp only [vs_ldiv, vs_lreturn, vs_lload2, vs_lload5, vs_nil, gv_0, gv_1, gv_2, gv_3, pv_0, pv_1, va_rf_s, Nat.reduceDiv, Nat.reduceMod, Nat.reduceAdd, Nat.reduceMul, Int.reduceToNat, true_and, and_true, and_self, cP_eq, cP_ne, cP_lt, cP_ge, cP_gt, cP_le, eL_i, eL_l, eL_r, eL_n, Option.toList_none, Option.toList_some, List.nil_append, List.cons_append]
      rw [if_pos e] at hq
      refine ⟨fun z => absurd ((lI_eq (y := 0) (by constructor <;> omega) (by constructor <;> omega)).mp z) c, by decide, ?_⟩
      rw [lI_tdiv (by omega) (by constructor <;> omega) (by constructor <;> omega) (by omega)]
      exact hq
    · refine vs_ok 4 ?_
      rw [show ((gRes 83).drop 13).take 4 = [.lload 0, .lload 5, .ldiv, .goto 20] from rfl]
      simp only [vs_ldiv, vs_goto, vs_lload0, vs_lload5, vs_nil, gv_0, gv_1, gv_2, gv_3, pv_0, pv_1, va_rf_s, Nat.reduceDiv, Nat.reduceMod, Nat.reduceAdd, Nat.reduceMul, Int.reduceToNat, true_and, and_true, and_self, cP_eq, cP_ne, cP_lt, cP_ge, cP_gt, cP_le, eL_i, eL_l, eL_r, eL_n, Option.toList_none, Option.toList_some, List.nil_append, List.cons_append]
      rw [if_neg e] at hq
      refine ⟨fun z => absurd ((lI_eq (y := 0) (by constructor <;> omega) (by constructor <;> omega)).mp z) c, ?_⟩
      rw [lI_tdiv (by omega) (by constructor <;> omega) (by constructor <;> omega) (by omega)]
      refine vs_ok 1 ?_
      rw [show ((gRes 83).drop 20).take 1 = [.lreturn] from rfl]
      simp only [vs_lreturn, vs_nil, gv_0, gv_1, gv_2, gv_3, pv_0, pv_1, va_rf_s, Nat.reduceDiv, Nat.reduceMod, Nat.reduceAdd, Nat.reduceMul, Int.reduceToNat, true_and, and_true, and_self, cP_eq, cP_ne, cP_lt, cP_ge, cP_gt, cP_le, eL_i, eL_l, eL_r, eL_n, Option.toList_none, Option.toList_some, List.nil_append, List.cons_append]
      exact ⟨by decide, hq⟩
  · refine vs_ok 2 ?_
    rw [show ((gRes 83).drop 9).take 2 = [.jsr_w 0, .lreturn] from rfl]
    simp only [vs_jsr_w, vs_lreturn, vs_nil, gv_0, gv_1, gv_2, gv_3, pv_0, pv_1, va_rf_s, Nat.reduceDiv, Nat.reduceMod, Nat.reduceAdd, Nat.reduceMul, Int.reduceToNat, true_and, and_true, and_self, cP_eq, cP_ne, cP_lt, cP_ge, cP_gt, cP_le, eL_i, eL_l, eL_r, eL_n, Option.toList_none, Option.toList_some, List.nil_append, List.cons_append]
    refine ⟨by decide, ?_⟩
    have c0 : gcI (up.natAbs : Int) low = 0 := Classical.not_not.mp c
    unfold lpV at hq
    rw [if_pos c0] at hq
    exact hq
theorem t_meanPart {d : Nat} {h : Hp} {r rc : Nat} {lo hi tot : Int} {W : Int → Int} {u : Int32} {Q : Nat → Option Value → Hp → Prop} (hv : rowV h r rc lo hi tot W) (ha : -9223372036854775808 < pS (fun n => n * W n) 1000 ∧ pS (fun n => n * W n) 1000 < 9223372036854775808) (hb : 0 ≤ tot ∧ tot < 9223372036854775808)
    (hq : Q 0 (some (.long (lI (lpV (pS (fun n => n * W n) 1000) tot u)))) h) : PR (d + 2) m_Row_meanPart [.ref r, .int u] h Q := by
  show PW (d + 2) 81 0 [some (.ref r), some (.int u)] [] h Q
  refine vs_ok 2 ?_
  rw [show ((gRes 81).drop 0).take 2 = [.aload 0, .invokevirtual 80] from rfl]
  simp only [vs_iv, vs_aload0, vs_nil, gv_0, gv_1, gv_2, gv_3, pv_0, pv_1, va_rf_s, Nat.reduceDiv, Nat.reduceMod, Nat.reduceAdd, Nat.reduceMul, Int.reduceToNat, true_and, and_true, and_self, cP_eq, cP_ne, cP_lt, cP_ge, cP_gt, cP_le, eL_i, eL_l, eL_r, eL_n, Option.toList_none, Option.toList_some, List.nil_append, List.cons_append]
  refine PW.iv rfl rfl rfl hv.1.1 hv.1.2.1 (le_b rfl) (le_b rfl) ?_
  refine t_sumOfNumbers hv ⟨rfl, ⟨rfl, rfl⟩, ?_⟩
  refine vs_ok 4 ?_
  rw [show ((gRes 81).drop 2).take 4 = [.aload 0, .getfield 6041, .iload 1, .invokestatic 83] from rfl]
  simp only [vs_getfield, vs_ist, vs_aload0, vs_iload1, vs_nil, gv_0, gv_1, gv_2, gv_3, pv_0, pv_1, va_rf_s, Nat.reduceDiv, Nat.reduceMod, Nat.reduceAdd, Nat.reduceMul, Int.reduceToNat, true_and, and_true, and_self, cP_eq, cP_ne, cP_lt, cP_ge, cP_gt, cP_le, eL_i, eL_l, eL_r, eL_n, Option.toList_none, Option.toList_some, List.nil_append, List.cons_append, hv.1.1, hv.1.2.1, hv.2.2.2.1]
  refine PW.ss (r := []) rfl (le_b rfl) rfl rfl (le_b rfl) (le_b rfl) ?_
  refine t_leastPart ha hb ⟨rfl, ⟨rfl, rfl⟩, ?_⟩
  refine vs_ok 1 ?_
  rw [show ((gRes 81).drop 6).take 1 = [.lreturn] from rfl]
  simp only [vs_lreturn, vs_nil, gv_0, gv_1, gv_2, gv_3, pv_0, pv_1, va_rf_s, Nat.reduceDiv, Nat.reduceMod, Nat.reduceAdd, Nat.reduceMul, Int.reduceToNat, true_and, and_true, and_self, cP_eq, cP_ne, cP_lt, cP_ge, cP_gt, cP_le, eL_i, eL_l, eL_r, eL_n, Option.toList_none, Option.toList_some, List.nil_append, List.cons_append]
  exact ⟨by decide, hq⟩
theorem t_spreadPart {d : Nat} {h : Hp} {r rc : Nat} {lo hi tot : Int} {W : Int → Int} {u : Int32} {Q : Nat → Option Value → Hp → Prop} (hv : rowV h r rc lo hi tot W) (ha : -9223372036854775808 < pS (fun n => n * n * W n) 1000 * tot - pS (fun n => n * W n) 1000 * pS (fun n => n * W n) 1000 ∧ pS (fun n => n * n * W n) 1000 * tot - pS (fun n => n * W n) 1000 * pS (fun n => n * W n) 1000 < 9223372036854775808) (hb : 0 ≤ tot * tot ∧ tot * tot < 9223372036854775808)
    (hq : Q 0 (some (.long (lI (lpV (pS (fun n => n * n * W n) 1000 * tot - pS (fun n => n * W n) 1000 * pS (fun n => n * W n) 1000) (tot * tot) u)))) h) : PR (d + 2) m_Row_spreadPart [.ref r, .int u] h Q := by
  have hra := hv.1.2.2.2.2.2.2.2
  have va5 := hv.2.2.2.2.1
  show PW (d + 2) 82 0 [some (.ref r), some (.int u), none, none, none, none, none] [] h Q
  refine vs_ok 2 ?_
  rw [show ((gRes 82).drop 0).take 2 = [.aload 0, .invokevirtual 80] from rfl]
  simp only [vs_iv, vs_aload0, vs_nil, gv_0, gv_1, gv_2, gv_3, pv_0, pv_1, va_rf_s, Nat.reduceDiv, Nat.reduceMod, Nat.reduceAdd, Nat.reduceMul, Int.reduceToNat, true_and, and_true, and_self, cP_eq, cP_ne, cP_lt, cP_ge, cP_gt, cP_le, eL_i, eL_l, eL_r, eL_n, Option.toList_none, Option.toList_some, List.nil_append, List.cons_append]
  refine PW.iv rfl rfl rfl hv.1.1 hv.1.2.1 (le_b rfl) (le_b rfl) ?_
  refine t_sumOfNumbers hv ⟨rfl, ⟨rfl, rfl⟩, ?_⟩
  refine vs_ok 6 ?_
  rw [show ((gRes 82).drop 2).take 6 = [.lstore 2, .jsr_w 0, .lstore 4, .aload 0, .getfield 6020, .istore 6] from rfl]
  simp only [vs_jsr_w, vs_getfield, vs_aload0, vs_lstore2n, vs_lstore2i, vs_lstore2r, vs_lstore2l, vs_lstore4n, vs_lstore4i, vs_lstore4r, vs_lstore4l, vs_istore6n, vs_istore6i, vs_istore6r, vs_istore6l, vs_nil, gv_0, gv_1, gv_2, gv_3, pv_0, pv_1, va_rf_s, Nat.reduceDiv, Nat.reduceMod, Nat.reduceAdd, Nat.reduceMul, Int.reduceToNat, true_and, and_true, and_self, cP_eq, cP_ne, cP_lt, cP_ge, cP_gt, cP_le, eL_i, eL_l, eL_r, eL_n, Option.toList_none, Option.toList_some, List.nil_append, List.cons_append, hv.1.1, hv.1.2.1, hv.2.1]
  have loop : ∀ (k : Nat) (n : Int), k = (hi + 1 - n).toNat → -800 ≤ n → n ≤ hi + 1 → PW (d + 2) 82 8 [some (.ref r), some (.int u), some (.long (lI (pS (fun n => n * W n) 1000))), none, some (.long (lI (pS (fun n => n * n * W n) n))), none, some (.int (iI n))] [] h Q := by
    intro k
    induction k with
    | zero =>
      intro n hk hn1 hn2
      refine vs_ok 4 ?_
      rw [show ((gRes 82).drop 8).take 4 = [.iload 6, .aload 0, .getfield 6030, .if_icmp .gt 26] from rfl]
      simp only [vs_if_icmp, vs_getfield, vs_aload0, vs_iload6, vs_nil, gv_0, gv_1, gv_2, gv_3, pv_0, pv_1, va_rf_s, Nat.reduceDiv, Nat.reduceMod, Nat.reduceAdd, Nat.reduceMul, Int.reduceToNat, true_and, and_true, and_self, cP_eq, cP_ne, cP_lt, cP_ge, cP_gt, cP_le, eL_i, eL_l, eL_r, eL_n, Option.toList_none, Option.toList_some, List.nil_append, List.cons_append, hv.1.1, hv.1.2.1, hv.2.2.1]
      rw [iI_lt (by constructor <;> omega) (by constructor <;> omega)]
      refine ⟨fun _ => ?_, fun c => absurd (show hi < n by omega) c⟩
      rw [← pS_top (f := fun n => n * n * W n) (a := n) (b := 1000) (by omega) (by omega) (fun m m1 m2 => by rw [hv.2.2.2.2.2.2 m (by omega), Int.mul_zero])]
      refine vs_ok 15 ?_
      rw [show ((gRes 82).drop 26).take 15 = [.lload 4, .aload 0, .getfield 6041, .lmul, .lload 2, .lload 2, .lmul, .lsub, .aload 0, .getfield 6041, .aload 0, .getfield 6041, .lmul, .iload 1, .invokestatic 83] from rfl]
      simp only [vs_lsub, vs_lmul, vs_getfield, vs_ist, vs_aload0, vs_iload1, vs_lload2, vs_lload4, vs_nil, gv_0, gv_1, gv_2, gv_3, pv_0, pv_1, va_rf_s, Nat.reduceDiv, Nat.reduceMod, Nat.reduceAdd, Nat.reduceMul, Int.reduceToNat, true_and, and_true, and_self, cP_eq, cP_ne, cP_lt, cP_ge, cP_gt, cP_le, eL_i, eL_l, eL_r, eL_n, Option.toList_none, Option.toList_some, List.nil_append, List.cons_append, hv.1.1, hv.1.2.1, hv.2.2.2.1, lI_mul, lI_sub]
      refine PW.ss (r := []) rfl (le_b rfl) rfl rfl (le_b rfl) (le_b rfl) ?_
      refine t_leastPart ha hb ⟨rfl, ⟨rfl, rfl⟩, ?_⟩
      refine vs_ok 1 ?_
      rw [show ((gRes 82).drop 41).take 1 = [.lreturn] from rfl]
      simp only [vs_lreturn, vs_nil, gv_0, gv_1, gv_2, gv_3, pv_0, pv_1, va_rf_s, Nat.reduceDiv, Nat.reduceMod, Nat.reduceAdd, Nat.reduceMul, Int.reduceToNat, true_and, and_true, and_self, cP_eq, cP_ne, cP_lt, cP_ge, cP_gt, cP_le, eL_i, eL_l, eL_r, eL_n, Option.toList_none, Option.toList_some, List.nil_append, List.cons_append]
      exact ⟨by decide, hq⟩
    | succ k ih =>
      intro n hk hn1 hn2
      refine vs_ok 4 ?_
      rw [show ((gRes 82).drop 8).take 4 = [.iload 6, .aload 0, .getfield 6030, .if_icmp .gt 26] from rfl]
      simp only [vs_if_icmp, vs_getfield, vs_aload0, vs_iload6, vs_nil, gv_0, gv_1, gv_2, gv_3, pv_0, pv_1, va_rf_s, Nat.reduceDiv, Nat.reduceMod, Nat.reduceAdd, Nat.reduceMul, Int.reduceToNat, true_and, and_true, and_self, cP_eq, cP_ne, cP_lt, cP_ge, cP_gt, cP_le, eL_i, eL_l, eL_r, eL_n, Option.toList_none, Option.toList_some, List.nil_append, List.cons_append, hv.1.1, hv.1.2.1, hv.2.2.1]
      rw [iI_lt (by constructor <;> omega) (by constructor <;> omega)]
      refine ⟨fun c => absurd c (by omega), fun _ => ?_⟩
      refine vs_ok 9 ?_
      rw [show ((gRes 82).drop 12).take 9 = [.lload 4, .iload 6, .i2l, .iload 6, .i2l, .lmul, .aload 0, .iload 6, .invokevirtual 66] from rfl]
      simp only [vs_lmul, vs_i2l, vs_iv, vs_aload0, vs_lload4, vs_iload6, vs_nil, gv_0, gv_1, gv_2, gv_3, pv_0, pv_1, va_rf_s, Nat.reduceDiv, Nat.reduceMod, Nat.reduceAdd, Nat.reduceMul, Int.reduceToNat, true_and, and_true, and_self, cP_eq, cP_ne, cP_lt, cP_ge, cP_gt, cP_le, eL_i, eL_l, eL_r, eL_n, Option.toList_none, Option.toList_some, List.nil_append, List.cons_append, lI_mul]
      rw [iI_tol (by constructor <;> omega)]
      refine PW.iv rfl rfl rfl hv.1.1 hv.1.2.1 (le_b rfl) (le_b rfl) ?_
      refine t_atV hv ⟨by omega, by omega⟩ ⟨rfl, ⟨rfl, rfl⟩, ?_⟩
      refine vs_ok 5 ?_
      rw [show ((gRes 82).drop 21).take 5 = [.lmul, .ladd, .lstore 4, .iinc 6 1, .goto 8] from rfl]
      simp only [vs_ladd, vs_lmul, vs_goto, vs_lstore4n, vs_lstore4i, vs_lstore4r, vs_lstore4l, vs_iinc6n, vs_iinc6i, vs_iinc6r, vs_iinc6l, vs_nil, gv_0, gv_1, gv_2, gv_3, pv_0, pv_1, va_rf_s, Nat.reduceDiv, Nat.reduceMod, Nat.reduceAdd, Nat.reduceMul, Int.reduceToNat, true_and, and_true, and_self, cP_eq, cP_ne, cP_lt, cP_ge, cP_gt, cP_le, eL_i, eL_l, eL_r, eL_n, Option.toList_none, Option.toList_some, List.nil_append, List.cons_append, lI_mul, lI_add, iI_add]
      rw [← pS_s (f := fun n => n * n * W n) (by omega)]
      exact ih (n + 1) (by omega) (by omega) (by omega)
  have z2 : pS (fun n => n * n * W n) lo = 0 := pS_zero fun m m1 m2 => by rw [hv.2.2.2.2.2.2 m (by omega), Int.mul_zero]
  have := loop _ lo rfl (by omega) (by omega)
  rw [z2] at this
  exact this
/-- APART of two -/
def faV (Wa Wb : Int → Int) (ta tb : Int) : Int := pS (fun n => ((Wa n * tb - Wb n * ta).natAbs : Int)) 1000
theorem t_farFrom {d : Nat} {h : Hp} {a ra b rb : Nat} {la ha ta lb hb tb : Int} {Wa Wb : Int → Int} {Q : Nat → Option Value → Hp → Prop} (hv : rowV h a ra la ha ta Wa) (ho : rowV h b rb lb hb tb Wb) (hd : ∀ n, -9223372036854775808 < Wa n * tb - Wb n * ta ∧ Wa n * tb - Wb n * ta < 9223372036854775808)
    (hq : Q 0 (some (.long (lI (faV Wa Wb ta tb)))) h) : PR (d + 1) m_Row_farFrom [.ref a, .ref b] h Q := by
  have hra := hv.1.2.2.2.2.2.2.2
  have hrb := ho.1.2.2.2.2.2.2.2
  have va5 := hv.2.2.2.2.1
  have vb5 := ho.2.2.2.2.1
  show PW (d + 1) 85 0 [some (.ref a), some (.ref b), none, none, none] [] h Q
  refine vs_ok 8 ?_
  rw [show ((gRes 85).drop 0).take 8 = [.jsr_w 0, .lstore 2, .aload 0, .getfield 6020, .aload 1, .getfield 6020, .invokedynamic 3, .istore 4] from rfl]
  simp only [vs_jsr_w, vs_getfield, vs_aload0, vs_aload1, vs_lstore2n, vs_lstore2i, vs_lstore2r, vs_lstore2l, vs_istore4n, vs_istore4i, vs_istore4r, vs_istore4l, vs_nil, gv_0, gv_1, gv_2, gv_3, pv_0, pv_1, va_rf_s, vs_abs, vs_max, vs_min, vs_oinit, Nat.reduceDiv, Nat.reduceMod, Nat.reduceAdd, Nat.reduceMul, Int.reduceToNat, true_and, and_true, and_self, cP_eq, cP_ne, cP_lt, cP_ge, cP_gt, cP_le, eL_i, eL_l, eL_r, eL_n, Option.toList_none, Option.toList_some, List.nil_append, List.cons_append, hv.1.1, hv.1.2.1, ho.1.1, ho.1.2.1, hv.2.1, ho.2.1]
  rw [imin (by constructor <;> omega) (by constructor <;> omega)]
  refine ⟨le_b rfl, ?_⟩
  have loop : ∀ (k : Nat) (n : Int), k = (max ha hb + 1 - n).toNat → -800 ≤ n → n ≤ max ha hb + 1 → PW (d + 1) 85 8 [some (.ref a), some (.ref b), some (.long (lI (pS (fun n => ((Wa n * tb - Wb n * ta).natAbs : Int)) n))), none, some (.int (iI n))] [] h Q := by
    intro k
    induction k with
    | zero =>
      intro n hk hn1 hn2
      refine vs_ok 7 ?_
      rw [show ((gRes 85).drop 8).take 7 = [.iload 4, .aload 0, .getfield 6030, .aload 1, .getfield 6030, .invokedynamic 2, .if_icmp .gt 34] from rfl]
      simp only [vs_if_icmp, vs_getfield, vs_aload0, vs_aload1, vs_iload4, vs_nil, gv_0, gv_1, gv_2, gv_3, pv_0, pv_1, va_rf_s, vs_abs, vs_max, vs_min, vs_oinit, Nat.reduceDiv, Nat.reduceMod, Nat.reduceAdd, Nat.reduceMul, Int.reduceToNat, true_and, and_true, and_self, cP_eq, cP_ne, cP_lt, cP_ge, cP_gt, cP_le, eL_i, eL_l, eL_r, eL_n, Option.toList_none, Option.toList_some, List.nil_append, List.cons_append, hv.1.1, hv.1.2.1, ho.1.1, ho.1.2.1, hv.2.2.1, ho.2.2.1]
      rw [imax (by constructor <;> omega) (by constructor <;> omega), iI_lt (by constructor <;> omega) (by constructor <;> omega)]
      refine ⟨le_b rfl, fun _ => ?_, fun c => absurd (show max ha hb < n by omega) c⟩
      refine vs_ok 2 ?_
      rw [show ((gRes 85).drop 34).take 2 = [.lload 2, .lreturn] from rfl]
      simp only [vs_lreturn, vs_lload2, vs_nil, gv_0, gv_1, gv_2, gv_3, pv_0, pv_1, va_rf_s, Nat.reduceDiv, Nat.reduceMod, Nat.reduceAdd, Nat.reduceMul, Int.reduceToNat, true_and, and_true, and_self, cP_eq, cP_ne, cP_lt, cP_ge, cP_gt, cP_le, eL_i, eL_l, eL_r, eL_n, Option.toList_none, Option.toList_some, List.nil_append, List.cons_append]
      refine ⟨by decide, ?_⟩
      rw [← pS_top (f := fun n => ((Wa n * tb - Wb n * ta).natAbs : Int)) (a := n) (b := 1000) (by omega) (by omega) (fun m m1 m2 => by rw [hv.2.2.2.2.2.2 m (by omega), ho.2.2.2.2.2.2 m (by omega), Int.zero_mul, Int.zero_mul]; rfl)]
      exact hq
    | succ k ih =>
      intro n hk hn1 hn2
      refine vs_ok 7 ?_
      rw [show ((gRes 85).drop 8).take 7 = [.iload 4, .aload 0, .getfield 6030, .aload 1, .getfield 6030, .invokedynamic 2, .if_icmp .gt 34] from rfl]
      simp only [vs_if_icmp, vs_getfield, vs_aload0, vs_aload1, vs_iload4, vs_nil, gv_0, gv_1, gv_2, gv_3, pv_0, pv_1, va_rf_s, vs_abs, vs_max, vs_min, vs_oinit, Nat.reduceDiv, Nat.reduceMod, Nat.reduceAdd, Nat.reduceMul, Int.reduceToNat, true_and, and_true, and_self, cP_eq, cP_ne, cP_lt, cP_ge, cP_gt, cP_le, eL_i, eL_l, eL_r, eL_n, Option.toList_none, Option.toList_some, List.nil_append, List.cons_append, hv.1.1, hv.1.2.1, ho.1.1, ho.1.2.1, hv.2.2.1, ho.2.2.1]
      rw [imax (by constructor <;> omega) (by constructor <;> omega), iI_lt (by constructor <;> omega) (by constructor <;> omega)]
      refine ⟨le_b rfl, fun c => absurd c (by omega), fun _ => ?_⟩
      refine vs_ok 4 ?_
      rw [show ((gRes 85).drop 15).take 4 = [.lload 2, .aload 0, .iload 4, .invokevirtual 66] from rfl]
      simp only [vs_iv, vs_aload0, vs_lload2, vs_iload4, vs_nil, gv_0, gv_1, gv_2, gv_3, pv_0, pv_1, va_rf_s, Nat.reduceDiv, Nat.reduceMod, Nat.reduceAdd, Nat.reduceMul, Int.reduceToNat, true_and, and_true, and_self, cP_eq, cP_ne, cP_lt, cP_ge, cP_gt, cP_le, eL_i, eL_l, eL_r, eL_n, Option.toList_none, Option.toList_some, List.nil_append, List.cons_append]
      refine PW.iv rfl rfl rfl hv.1.1 hv.1.2.1 (le_b rfl) (le_b rfl) ?_
      refine t_atV hv ⟨by omega, by omega⟩ ⟨rfl, ⟨rfl, rfl⟩, ?_⟩
      refine vs_ok 6 ?_
      rw [show ((gRes 85).drop 19).take 6 = [.aload 1, .getfield 6041, .lmul, .aload 1, .iload 4, .invokevirtual 66] from rfl]
      simp only [vs_lmul, vs_getfield, vs_iv, vs_aload1, vs_iload4, vs_nil, gv_0, gv_1, gv_2, gv_3, pv_0, pv_1, va_rf_s, Nat.reduceDiv, Nat.reduceMod, Nat.reduceAdd, Nat.reduceMul, Int.reduceToNat, true_and, and_true, and_self, cP_eq, cP_ne, cP_lt, cP_ge, cP_gt, cP_le, eL_i, eL_l, eL_r, eL_n, Option.toList_none, Option.toList_some, List.nil_append, List.cons_append, ho.1.1, ho.1.2.1, ho.2.2.2.1, lI_mul]
      refine PW.iv rfl rfl rfl ho.1.1 ho.1.2.1 (le_b rfl) (le_b rfl) ?_
      refine t_atV ho ⟨by omega, by omega⟩ ⟨rfl, ⟨rfl, rfl⟩, ?_⟩
      refine vs_ok 9 ?_
      rw [show ((gRes 85).drop 25).take 9 = [.aload 0, .getfield 6041, .lmul, .lsub, .invokedynamic 1, .ladd, .lstore 2, .iinc 4 1, .goto 8] from rfl]
      simp only [vs_ladd, vs_lsub, vs_lmul, vs_goto, vs_getfield, vs_aload0, vs_lstore2n, vs_lstore2i, vs_lstore2r, vs_lstore2l, vs_iinc4n, vs_iinc4i, vs_iinc4r, vs_iinc4l, vs_nil, gv_0, gv_1, gv_2, gv_3, pv_0, pv_1, va_rf_s, vs_abs, vs_max, vs_min, vs_oinit, Nat.reduceDiv, Nat.reduceMod, Nat.reduceAdd, Nat.reduceMul, Int.reduceToNat, true_and, and_true, and_self, cP_eq, cP_ne, cP_lt, cP_ge, cP_gt, cP_le, eL_i, eL_l, eL_r, eL_n, Option.toList_none, Option.toList_some, List.nil_append, List.cons_append, hv.1.1, hv.1.2.1, hv.2.2.2.1, lI_mul, lI_sub]
      rw [labs (hd n)]
      refine ⟨le_b rfl, ?_⟩
      rw [lI_add, iI_add, ← pS_s (f := fun n => ((Wa n * tb - Wb n * ta).natAbs : Int)) (by omega)]
      exact ih (n + 1) (by omega) (by omega) (by omega)
  have z2 : pS (fun n => ((Wa n * tb - Wb n * ta).natAbs : Int)) (min la lb) = 0 := pS_zero fun m m1 m2 => by rw [hv.2.2.2.2.2.2 m (by omega), ho.2.2.2.2.2.2 m (by omega), Int.zero_mul, Int.zero_mul]; rfl
  have := loop _ (min la lb) rfl (by omega) (by omega)
  rw [z2] at this
  exact this
