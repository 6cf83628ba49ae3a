/-! Reader: readRun -/
/-- letters, digits, word, number of the run from i on, and where it ends -/
def rnF (B : Nat → Int) (len : Int) : Nat → Int → Int → Int → Int → Int → Int × Int × Int × Int × Int
  | 0, i, l, g, w, n => (l, g, w, n, i)
  | k + 1, i, l, g, w, n => if 97 ≤ byV B len i ∧ byV B len i ≤ 122 then rnF B len k (i + 1) (l + 1) g (w * 27 + byV B len i - 97 + 1) n else if 48 ≤ byV B len i ∧ byV B len i ≤ 57 then rnF B len k (i + 1) l (g + 1) w (n * 10 + byV B len i - 48) else (l, g, w, n, i)
theorem rnF_s {B : Nat → Int} {len : Int} {k : Nat} {i l g w n : Int} : rnF B len (k + 1) i l g w n = (if 97 ≤ byV B len i ∧ byV B len i ≤ 122 then rnF B len k (i + 1) (l + 1) g (w * 27 + byV B len i - 97 + 1) n else if 48 ≤ byV B len i ∧ byV B len i ≤ 57 then rnF B len k (i + 1) l (g + 1) w (n * 10 + byV B len i - 48) else (l, g, w, n, i)) := rfl
/-- kind and value out of these -/
def rnK (x : Int × Int × Int × Int × Int) : Int := if x.2.1 = 0 ∧ x.1 ≤ 6 then 2 else if x.1 = 0 ∧ x.2.1 ≤ 2 then 3 else 1
def rnV (x : Int × Int × Int × Int × Int) : Int := if x.2.1 = 0 ∧ x.1 ≤ 6 then x.2.2.1 else if x.1 = 0 ∧ x.2.1 ≤ 2 then x.2.2.2.1 else 0
theorem rnF_b {B : Nat → Int} {len : Int} : ∀ (k : Nat) (i l g w n : Int), 0 ≤ l → 0 ≤ g → l ≤ (rnF B len k i l g w n).1 ∧ (rnF B len k i l g w n).1 ≤ l + k ∧ g ≤ (rnF B len k i l g w n).2.1 ∧ (rnF B len k i l g w n).2.1 ≤ g + k ∧ i ≤ (rnF B len k i l g w n).2.2.2.2 ∧ (rnF B len k i l g w n).2.2.2.2 ≤ i + k
  | 0, i, l, g, w, n, hl, hg => by
    unfold rnF
    refine ⟨?_, ?_, ?_, ?_, ?_, ?_⟩ <;> dsimp only <;> omega
  | k + 1, i, l, g, w, n, hl, hg => by
    unfold rnF
    split
    · have := rnF_b (B := B) (len := len) k (i + 1) (l + 1) g (w * 27 + byV B len i - 97 + 1) n (by omega) hg
      refine ⟨?_, ?_, ?_, ?_, ?_, ?_⟩ <;> omega
    · split
      · have := rnF_b (B := B) (len := len) k (i + 1) l (g + 1) w (n * 10 + byV B len i - 48) hl (by omega)
        refine ⟨?_, ?_, ?_, ?_, ?_, ?_⟩ <;> omega
      · refine ⟨?_, ?_, ?_, ?_, ?_, ?_⟩ <;> dsimp only <;> omega
theorem rdS.upd {h h' : Hp} {rd tx : Nat} {len fo ki va pl fo' ki' va' pl' : Int} {B : Nat → Int} (hr : rdS h rd tx len B fo ki va pl) (hf : fr (fun q => q = rd) h h') (hR : zR h' rd 0 = zR h rd 0) (h1 : zI h' rd 1 = zI h rd 1) (h2 : zI h' rd 2 = iI fo') (h3 : zI h' rd 3 = iI ki') (h4 : zI h' rd 4 = iI va') (h5 : zI h' rd 5 = iI pl') : rdS h' rd tx len B fo' ki' va' pl' := by
  obtain ⟨r1, r2, r3, ⟨a1, a2, a3, a4, a5⟩, r5, r6, r7, r8, r9, r10⟩ := hr
  have hne : ¬ tx = rd := fun z => by rw [z, r1] at a1; cases a1
  have eI := hf.2.2.2.2.2.1 tx hne
  exact ⟨by rw [hf.1]; exact r1, by rw [hf.2.2.1]; exact r2, by rw [hR]; exact r3, ⟨by rw [hf.1]; exact a1, by rw [hf.2.2.1]; exact a2, by rw [hf.2.1]; exact a3, fun i hi => by rw [eI]; exact a4 i hi, a5⟩, by rw [h1]; exact r5, r6, h2, h3, h4, h5⟩
theorem t_readRun {d : Nat} {h : Hp} {rd tx : Nat} {len fo ki va pl : Int} {B : Nat → Int} {Q : Nat → Option Value → Hp → Prop} (hr : rdS h rd tx len B fo ki va pl) (hp : 0 ≤ pl ∧ pl ≤ 540)
    (hq : ∀ h', fr (fun q => q = rd) h h' → rdS h' rd tx len B (rnF B len (len - pl).toNat pl 0 0 0 0).2.2.2.2 (rnK (rnF B len (len - pl).toNat pl 0 0 0 0)) (rnV (rnF B len (len - pl).toNat pl 0 0 0 0)) pl → Q 0 none h') : PR (d + 1) m_Reader_readRun [.ref rd] h Q := by
  obtain ⟨r1, r2, r3, r4, r5, r6, r7, r8, r9, r10⟩ := id hr
  have hB := r4.2.2.2.2
  show PW (d + 1) 61 0 [some (.ref rd), none, none, none, none, none] [] h Q
  refine vs_ok 11 ?_
  rw [show ((gRes 61).drop 0).take 11 = [.iconst 0, .istore 1, .iconst 0, .istore 2, .iconst 0, .istore 3, .iconst 0, .istore 4, .aload 0, .getfield 5050, .istore 5] from rfl]
  simp only [vs_iconst, vs_getfield, vs_aload0, vs_istore1n, vs_istore1i, vs_istore1r, vs_istore1l, vs_istore2n, vs_istore2i, vs_istore2r, vs_istore2l, vs_istore3n, vs_istore3i, vs_istore3r, vs_istore3l, vs_istore4n, vs_istore4i, vs_istore4r, vs_istore4l, vs_istore5n, vs_istore5i, vs_istore5r, vs_istore5l, vs_nil, gv_0, gv_1, gv_2, gv_3, pv_0, pv_1, va_rf_s, Nat.reduceDiv, Nat.reduceMod, Nat.reduceAdd, Nat.reduceMul, Int.reduceToNat, true_and, and_true, and_self, cP_eq, cP_ne, cP_lt, cP_ge, cP_gt, cP_le, eL_i, eL_l, eL_r, eL_n, Option.toList_none, Option.toList_some, List.nil_append, List.cons_append, r1, r2, r10]
  -- behind the loop
  have fin : ∀ x : Int × Int × Int × Int × Int, x = rnF B len (len - pl).toNat pl 0 0 0 0 → PW (d + 1) 61 57 [some (.ref rd), some (.int (iI x.1)), some (.int (iI x.2.1)), some (.int (iI x.2.2.1)), some (.int (iI x.2.2.2.1)), some (.int (iI x.2.2.2.2))] [] h Q := fun x hx => by
    have bx := rnF_b (B := B) (len := len) (len - pl).toNat pl 0 0 0 0 (by omega) (by omega)
    rw [← hx] at bx hq
    obtain ⟨l, g, w, n, e⟩ := x
    dsimp only at bx hq ⊢
    refine vs_ok 3 ?_
    rw [show ((gRes 61).drop 57).take 3 = [.aload 0, .iload 5, .putfield 5020] from rfl]
    simp only [vs_putfield, vs_aload0, vs_iload5, vs_nil, gv_0, gv_1, gv_2, gv_3, pv_0, pv_1, va_rf_s, Nat.reduceDiv, Nat.reduceMod, Nat.reduceAdd, Nat.reduceMul, Int.reduceToNat, true_and, and_true, and_self, cP_eq, cP_ne, cP_lt, cP_ge, cP_gt, cP_le, eL_i, eL_l, eL_r, eL_n, Option.toList_none, Option.toList_some, List.nil_append, List.cons_append, r1, r2]
    refine ⟨_, rfl, ?_⟩
    have f1 : fr (fun q => q = rd) h (zsI h rd 2 (iI e)) := fr_I rfl
    generalize hg1 : zsI h rd 2 (iI e) = g1 at f1
    have g1K : zK g1 rd = 5 := by rw [f1.1]; exact r1
    have g1N : rd < zN g1 := by rw [f1.2.2.1]; exact r2
    have setk : ∀ (K V : Int), K = rnK (l, g, w, n, e) → V = rnV (l, g, w, n, e) → Q 0 none (zsI (zsI g1 rd 3 (iI K)) rd 4 (iI V)) := fun K V hK hV => by
      have f2 : fr (fun q => q = rd) h (zsI (zsI g1 rd 3 (iI K)) rd 4 (iI V)) := f1.tr ((fr_I (S := fun q => q = rd) rfl).tr (fr_I rfl))
      refine hq _ f2 (hr.upd f2 ?_ ?_ ?_ ?_ ?_ ?_)
      · rw [← hg1]; rfl
      · rw [zI_sI, if_neg (by omega), zI_sI, if_neg (by omega), ← hg1, zI_sI, if_neg (by omega)]
      · rw [zI_sI, if_neg (by omega), zI_sI, if_neg (by omega), ← hg1, zI_sI, if_pos ⟨rfl, rfl⟩]
      · rw [zI_sI, if_neg (by omega), zI_sI, if_pos ⟨rfl, rfl⟩, hK]
      · rw [zI_sI, if_pos ⟨rfl, rfl⟩, hV]
      · rw [zI_sI, if_neg (by omega), zI_sI, if_neg (by omega), ← hg1, zI_sI, if_neg (by omega)]
        exact r10
    have p72 : ¬ (g = 0 ∧ l ≤ 6) → PW (d + 1) 61 72 [some (.ref rd), some (.int (iI l)), some (.int (iI g)), some (.int (iI w)), some (.int (iI n)), some (.int (iI e))] [] g1 Q := fun hc => by
      have p84 : ¬ (l = 0 ∧ g ≤ 2) → PW (d + 1) 61 84 [some (.ref rd), some (.int (iI l)), some (.int (iI g)), some (.int (iI w)), some (.int (iI n)), some (.int (iI e))] [] g1 Q := fun hc2 => by
        refine vs_ok 7 ?_
        rw [show ((gRes 61).drop 84).take 7 = [.aload 0, .iconst 1, .putfield 5030, .aload 0, .iconst 0, .putfield 5040, .return_] from rfl]
        simp only [vs_iconst, vs_putfield, vs_return_, vs_aload0, vs_nil, gv_0, gv_1, gv_2, gv_3, pv_0, pv_1, va_rf_s, Nat.reduceDiv, Nat.reduceMod, Nat.reduceAdd, Nat.reduceMul, Int.reduceToNat, true_and, and_true, and_self, cP_eq, cP_ne, cP_lt, cP_ge, cP_gt, cP_le, eL_i, eL_l, eL_r, eL_n, Option.toList_none, Option.toList_some, List.nil_append, List.cons_append, g1K, g1N]
        refine ⟨_, rfl, ⟨g1K, g1N⟩, _, rfl, by decide, ?_⟩
        exact setk 1 0 (by unfold rnK; rw [if_neg hc, if_neg hc2]) (by unfold rnV; rw [if_neg hc, if_neg hc2])
      refine vs_ok 2 ?_
      rw [show ((gRes 61).drop 72).take 2 = [.iload 1, .ifCond .ne 84] from rfl]
      simp only [vs_ifCond, vs_iload1, vs_nil, gv_0, gv_1, gv_2, gv_3, pv_0, pv_1, va_rf_s, Nat.reduceDiv, Nat.reduceMod, Nat.reduceAdd, Nat.reduceMul, Int.reduceToNat, true_and, and_true, and_self, cP_eq, cP_ne, cP_lt, cP_ge, cP_gt, cP_le, eL_i, eL_l, eL_r, eL_n, Option.toList_none, Option.toList_some, List.nil_append, List.cons_append]
      rw [zeq0 (by constructor <;> omega)]
      refine ⟨fun c => p84 (fun z => c z.1), fun c => ?_⟩
      refine vs_ok 3 ?_
      rw [show ((gRes 61).drop 74).take 3 = [.iload 2, .iconst 2, .if_icmp .gt 84] from rfl]
      simp only [vs_iconst, vs_if_icmp, vs_iload2, vs_nil, gv_0, gv_1, gv_2, gv_3, pv_0, pv_1, va_rf_s, Nat.reduceDiv, Nat.reduceMod, Nat.reduceAdd, Nat.reduceMul, Int.reduceToNat, true_and, and_true, and_self, cP_eq, cP_ne, cP_lt, cP_ge, cP_gt, cP_le, eL_i, eL_l, eL_r, eL_n, Option.toList_none, Option.toList_some, List.nil_append, List.cons_append]
      rw [show Int32.ofInt 2 = iI 2 from rfl, iI_lt (by constructor <;> omega) (by constructor <;> omega)]
      refine ⟨fun c2 => p84 (by omega), fun c2 => ?_⟩
      have hc2 : l = 0 ∧ g ≤ 2 := ⟨Classical.not_not.mp c, by omega⟩
      refine vs_ok 7 ?_
      rw [show ((gRes 61).drop 77).take 7 = [.aload 0, .iconst 3, .putfield 5030, .aload 0, .iload 4, .putfield 5040, .goto 90] from rfl]
      simp only [vs_iconst, vs_goto, vs_putfield, vs_aload0, vs_iload4, vs_nil, gv_0, gv_1, gv_2, gv_3, pv_0, pv_1, va_rf_s, Nat.reduceDiv, Nat.reduceMod, Nat.reduceAdd, Nat.reduceMul, Int.reduceToNat, true_and, and_true, and_self, cP_eq, cP_ne, cP_lt, cP_ge, cP_gt, cP_le, eL_i, eL_l, eL_r, eL_n, Option.toList_none, Option.toList_some, List.nil_append, List.cons_append, g1K, g1N]
      refine ⟨_, rfl, ⟨g1K, g1N⟩, _, rfl, ?_⟩
      refine vs_ok 1 ?_
      rw [show ((gRes 61).drop 90).take 1 = [.return_] from rfl]
      simp only [vs_return_, vs_nil, gv_0, gv_1, gv_2, gv_3, pv_0, pv_1, va_rf_s, Nat.reduceDiv, Nat.reduceMod, Nat.reduceAdd, Nat.reduceMul, Int.reduceToNat, true_and, and_true, and_self, cP_eq, cP_ne, cP_lt, cP_ge, cP_gt, cP_le, eL_i, eL_l, eL_r, eL_n, Option.toList_none, Option.toList_some, List.nil_append, List.cons_append]
      refine ⟨by decide, ?_⟩
      exact setk 3 n (by unfold rnK; rw [if_neg hc, if_pos hc2]) (by unfold rnV; rw [if_neg hc, if_pos hc2])
    refine vs_ok 2 ?_
    rw [show ((gRes 61).drop 60).take 2 = [.iload 2, .ifCond .ne 72] from rfl]
    simp only [vs_ifCond, vs_iload2, vs_nil, gv_0, gv_1, gv_2, gv_3, pv_0, pv_1, va_rf_s, Nat.reduceDiv, Nat.reduceMod, Nat.reduceAdd, Nat.reduceMul, Int.reduceToNat, true_and, and_true, and_self, cP_eq, cP_ne, cP_lt, cP_ge, cP_gt, cP_le, eL_i, eL_l, eL_r, eL_n, Option.toList_none, Option.toList_some, List.nil_append, List.cons_append]
    rw [zeq0 (by constructor <;> omega)]
    refine ⟨fun c => p72 (fun z => c z.1), fun c => ?_⟩
    refine vs_ok 3 ?_
    rw [show ((gRes 61).drop 62).take 3 = [.iload 1, .iconst 6, .if_icmp .gt 72] from rfl]
    simp only [vs_iconst, vs_if_icmp, vs_iload1, vs_nil, gv_0, gv_1, gv_2, gv_3, pv_0, pv_1, va_rf_s, Nat.reduceDiv, Nat.reduceMod, Nat.reduceAdd, Nat.reduceMul, Int.reduceToNat, true_and, and_true, and_self, cP_eq, cP_ne, cP_lt, cP_ge, cP_gt, cP_le, eL_i, eL_l, eL_r, eL_n, Option.toList_none, Option.toList_some, List.nil_append, List.cons_append]
    rw [show Int32.ofInt 6 = iI 6 from rfl, iI_lt (by constructor <;> omega) (by constructor <;> omega)]
    refine ⟨fun c2 => p72 (by omega), fun c2 => ?_⟩
    have hc : g = 0 ∧ l ≤ 6 := ⟨Classical.not_not.mp c, by omega⟩
    refine vs_ok 7 ?_
    rw [show ((gRes 61).drop 65).take 7 = [.aload 0, .iconst 2, .putfield 5030, .aload 0, .iload 3, .putfield 5040, .goto 90] from rfl]
    simp only [vs_iconst, vs_goto, vs_putfield, vs_aload0, vs_iload3, vs_nil, gv_0, gv_1, gv_2, gv_3, pv_0, pv_1, va_rf_s, Nat.reduceDiv, Nat.reduceMod, Nat.reduceAdd, Nat.reduceMul, Int.reduceToNat, true_and, and_true, and_self, cP_eq, cP_ne, cP_lt, cP_ge, cP_gt, cP_le, eL_i, eL_l, eL_r, eL_n, Option.toList_none, Option.toList_some, List.nil_append, List.cons_append, g1K, g1N]
    refine ⟨_, rfl, ⟨g1K, g1N⟩, _, rfl, ?_⟩
    refine vs_ok 1 ?_
    rw [show ((gRes 61).drop 90).take 1 = [.return_] from rfl]
    simp only [vs_return_, vs_nil, gv_0, gv_1, gv_2, gv_3, pv_0, pv_1, va_rf_s, Nat.reduceDiv, Nat.reduceMod, Nat.reduceAdd, Nat.reduceMul, Int.reduceToNat, true_and, and_true, and_self, cP_eq, cP_ne, cP_lt, cP_ge, cP_gt, cP_le, eL_i, eL_l, eL_r, eL_n, Option.toList_none, Option.toList_some, List.nil_append, List.cons_append]
    refine ⟨by decide, ?_⟩
    exact setk 2 w (by unfold rnK; rw [if_pos hc]) (by unfold rnV; rw [if_pos hc])
  have loop : ∀ (k : Nat) (i l g w n : Int), k = (len - i).toNat → 0 ≤ i → i ≤ 540 → 0 ≤ l → 0 ≤ g → l + g ≤ i → rnF B len k i l g w n = rnF B len (len - pl).toNat pl 0 0 0 0 → PW (d + 1) 61 11 [some (.ref rd), some (.int (iI l)), some (.int (iI g)), some (.int (iI w)), some (.int (iI n)), some (.int (iI i))] [] h Q := by
    intro k
    induction k with
    | zero =>
      intro i l g w n hk hi1 hi2 hl hg hlg hfn
      refine vs_ok 4 ?_
      rw [show ((gRes 61).drop 11).take 4 = [.iload 5, .aload 0, .getfield 5010, .if_icmp .ge 57] from rfl]
      simp only [vs_if_icmp, vs_getfield, vs_aload0, vs_iload5, vs_nil, gv_0, gv_1, gv_2, gv_3, pv_0, pv_1, va_rf_s, Nat.reduceDiv, Nat.reduceMod, Nat.reduceAdd, Nat.reduceMul, Int.reduceToNat, true_and, and_true, and_self, cP_eq, cP_ne, cP_lt, cP_ge, cP_gt, cP_le, eL_i, eL_l, eL_r, eL_n, Option.toList_none, Option.toList_some, List.nil_append, List.cons_append, r1, r2, r5]
      rw [iI_le (by constructor <;> omega) (by constructor <;> omega)]
      refine ⟨fun _ => ?_, fun c => absurd (show len ≤ i by omega) c⟩
      exact fin (l, g, w, n, i) (by rw [← hfn]; rfl)
    | succ k ih =>
      intro i l g w n hk hi1 hi2 hl hg hlg hfn
      have hb := byV_b (len := len) (i := i) hB
      have b32 : i32 (byV B len i) := by constructor <;> omega
      have i32i : i32 i := by constructor <;> omega
      refine vs_ok 4 ?_
      rw [show ((gRes 61).drop 11).take 4 = [.iload 5, .aload 0, .getfield 5010, .if_icmp .ge 57] from rfl]
      simp only [vs_if_icmp, vs_getfield, vs_aload0, vs_iload5, vs_nil, gv_0, gv_1, gv_2, gv_3, pv_0, pv_1, va_rf_s, Nat.reduceDiv, Nat.reduceMod, Nat.reduceAdd, Nat.reduceMul, Int.reduceToNat, true_and, and_true, and_self, cP_eq, cP_ne, cP_lt, cP_ge, cP_gt, cP_le, eL_i, eL_l, eL_r, eL_n, Option.toList_none, Option.toList_some, List.nil_append, List.cons_append, r1, r2, r5]
      rw [iI_le (by constructor <;> omega) (by constructor <;> omega)]
      refine ⟨fun c => absurd c (by omega), fun _ => ?_⟩
      rw [rnF_s] at hfn
      have nxt : ∀ (l' g' w' n' : Int), 0 ≤ l' → 0 ≤ g' → l' + g' ≤ i + 1 → rnF B len k (i + 1) l' g' w' n' = rnF B len (len - pl).toNat pl 0 0 0 0 → PW (d + 1) 61 55 [some (.ref rd), some (.int (iI l')), some (.int (iI g')), some (.int (iI w')), some (.int (iI n')), some (.int (iI i))] [] h Q := fun l' g' w' n' e1 e2 e3 e4 => by
        refine vs_ok 2 ?_
        rw [show ((gRes 61).drop 55).take 2 = [.iinc 5 1, .goto 11] from rfl]
        simp only [vs_goto, vs_iinc5n, vs_iinc5i, vs_iinc5r, vs_iinc5l, vs_nil, gv_0, gv_1, gv_2, gv_3, pv_0, pv_1, va_rf_s, Nat.reduceDiv, Nat.reduceMod, Nat.reduceAdd, Nat.reduceMul, Int.reduceToNat, true_and, and_true, and_self, cP_eq, cP_ne, cP_lt, cP_ge, cP_gt, cP_le, eL_i, eL_l, eL_r, eL_n, Option.toList_none, Option.toList_some, List.nil_append, List.cons_append, iI_add]
        exact ih (i + 1) l' g' w' n' (by omega) (by omega) (by omega) e1 e2 e3 e4
      have p25 : (isLe (byV B len i) ∨ isDi (byV B len i)) → PW (d + 1) 61 25 [some (.ref rd), some (.int (iI l)), some (.int (iI g)), some (.int (iI w)), some (.int (iI n)), some (.int (iI i))] [] h Q := fun hc => by
        refine vs_ok 3 ?_
        rw [show ((gRes 61).drop 25).take 3 = [.aload 0, .iload 5, .invokevirtual 59] from rfl]
        simp only [vs_iv, vs_aload0, vs_iload5, vs_nil, gv_0, gv_1, gv_2, gv_3, pv_0, pv_1, va_rf_s, Nat.reduceDiv, Nat.reduceMod, Nat.reduceAdd, Nat.reduceMul, Int.reduceToNat, true_and, and_true, and_self, cP_eq, cP_ne, cP_lt, cP_ge, cP_gt, cP_le, eL_i, eL_l, eL_r, eL_n, Option.toList_none, Option.toList_some, List.nil_append, List.cons_append]
        refine PW.iv rfl rfl rfl r1 r2 (le_b rfl) (le_b rfl) ?_
        refine t_byteAt hr i32i ⟨rfl, ⟨rfl, rfl⟩, ?_⟩
        refine vs_ok 1 ?_
        rw [show ((gRes 61).drop 28).take 1 = [.invokestatic 62] from rfl]
        simp only [vs_ist, vs_nil, gv_0, gv_1, gv_2, gv_3, pv_0, pv_1, va_rf_s, Nat.reduceDiv, Nat.reduceMod, Nat.reduceAdd, Nat.reduceMul, Int.reduceToNat, true_and, and_true, and_self, cP_eq, cP_ne, cP_lt, cP_ge, cP_gt, cP_le, eL_i, eL_l, eL_r, eL_n, Option.toList_none, Option.toList_some, List.nil_append, List.cons_append]
        refine PW.ss (r := []) rfl (le_b rfl) rfl rfl (le_b rfl) (le_b rfl) ?_
        refine t_isLetter b32 (fun z => ⟨rfl, ⟨rfl, rfl⟩, ?_⟩) (fun z => ⟨rfl, ⟨rfl, rfl⟩, ?_⟩)
        · rw [if_pos (show 97 ≤ byV B len i ∧ byV B len i ≤ 122 from z)] at hfn
          refine vs_ok 1 ?_
          rw [show ((gRes 61).drop 29).take 1 = [.ifCond .eq 44] from rfl]
          simp only [vs_ifCond, vs_nil, gv_0, gv_1, gv_2, gv_3, pv_0, pv_1, va_rf_s, Nat.reduceDiv, Nat.reduceMod, Nat.reduceAdd, Nat.reduceMul, Int.reduceToNat, true_and, and_true, and_self, cP_eq, cP_ne, cP_lt, cP_ge, cP_gt, cP_le, eL_i, eL_l, eL_r, eL_n, Option.toList_none, Option.toList_some, List.nil_append, List.cons_append]
          refine ⟨fun c => absurd c (by decide), fun _ => ?_⟩
          refine vs_ok 7 ?_
          rw [show ((gRes 61).drop 30).take 7 = [.iinc 1 1, .iload 3, .iconst 27, .imul, .aload 0, .iload 5, .invokevirtual 59] from rfl]
          simp only [vs_imul, vs_iconst, vs_iv, vs_aload0, vs_iinc1n, vs_iinc1i, vs_iinc1r, vs_iinc1l, vs_iload3, vs_iload5, vs_nil, gv_0, gv_1, gv_2, gv_3, pv_0, pv_1, va_rf_s, Nat.reduceDiv, Nat.reduceMod, Nat.reduceAdd, Nat.reduceMul, Int.reduceToNat, true_and, and_true, and_self, cP_eq, cP_ne, cP_lt, cP_ge, cP_gt, cP_le, eL_i, eL_l, eL_r, eL_n, Option.toList_none, Option.toList_some, List.nil_append, List.cons_append, iI_add, iI_mul]
          refine PW.iv rfl rfl rfl r1 r2 (le_b rfl) (le_b rfl) ?_
          refine t_byteAt hr i32i ⟨rfl, ⟨rfl, rfl⟩, ?_⟩
          refine vs_ok 7 ?_
          rw [show ((gRes 61).drop 37).take 7 = [.iadd, .iconst 97, .isub, .iconst 1, .iadd, .istore 3, .goto 55] from rfl]
          simp only [vs_iadd, vs_isub, vs_iconst, vs_goto, vs_istore3n, vs_istore3i, vs_istore3r, vs_istore3l, vs_nil, gv_0, gv_1, gv_2, gv_3, pv_0, pv_1, va_rf_s, Nat.reduceDiv, Nat.reduceMod, Nat.reduceAdd, Nat.reduceMul, Int.reduceToNat, true_and, and_true, and_self, cP_eq, cP_ne, cP_lt, cP_ge, cP_gt, cP_le, eL_i, eL_l, eL_r, eL_n, Option.toList_none, Option.toList_some, List.nil_append, List.cons_append, iI_add, iI_sub]
          exact nxt (l + 1) g _ n (by omega) hg (by omega) hfn
        · have z2 : 48 ≤ byV B len i ∧ byV B len i ≤ 57 := hc.resolve_left z
          rw [if_neg (show ¬ (97 ≤ byV B len i ∧ byV B len i ≤ 122) from z), if_pos z2] at hfn
          refine vs_ok 1 ?_
          rw [show ((gRes 61).drop 29).take 1 = [.ifCond .eq 44] from rfl]
          simp only [vs_ifCond, vs_nil, gv_0, gv_1, gv_2, gv_3, pv_0, pv_1, va_rf_s, Nat.reduceDiv, Nat.reduceMod, Nat.reduceAdd, Nat.reduceMul, Int.reduceToNat, true_and, and_true, and_self, cP_eq, cP_ne, cP_lt, cP_ge, cP_gt, cP_le, eL_i, eL_l, eL_r, eL_n, Option.toList_none, Option.toList_some, List.nil_append, List.cons_append]
          refine ⟨fun _ => ?_, fun c => (by simp at c)⟩
          refine vs_ok 7 ?_
          rw [show ((gRes 61).drop 44).take 7 = [.iinc 2 1, .iload 4, .iconst 10, .imul, .aload 0, .iload 5, .invokevirtual 59] from rfl]
          simp only [vs_imul, vs_iconst, vs_iv, vs_aload0, vs_iinc2n, vs_iinc2i, vs_iinc2r, vs_iinc2l, vs_iload4, vs_iload5, vs_nil, gv_0, gv_1, gv_2, gv_3, pv_0, pv_1, va_rf_s, Nat.reduceDiv, Nat.reduceMod, Nat.reduceAdd, Nat.reduceMul, Int.reduceToNat, true_and, and_true, and_self, cP_eq, cP_ne, cP_lt, cP_ge, cP_gt, cP_le, eL_i, eL_l, eL_r, eL_n, Option.toList_none, Option.toList_some, List.nil_append, List.cons_append, iI_add, iI_mul]
          refine PW.iv rfl rfl rfl r1 r2 (le_b rfl) (le_b rfl) ?_
          refine t_byteAt hr i32i ⟨rfl, ⟨rfl, rfl⟩, ?_⟩
          refine vs_ok 4 ?_
          rw [show ((gRes 61).drop 51).take 4 = [.iadd, .iconst 48, .isub, .istore 4] from rfl]
          simp only [vs_iadd, vs_isub, vs_iconst, vs_istore4n, vs_istore4i, vs_istore4r, vs_istore4l, vs_nil, gv_0, gv_1, gv_2, gv_3, pv_0, pv_1, va_rf_s, Nat.reduceDiv, Nat.reduceMod, Nat.reduceAdd, Nat.reduceMul, Int.reduceToNat, true_and, and_true, and_self, cP_eq, cP_ne, cP_lt, cP_ge, cP_gt, cP_le, eL_i, eL_l, eL_r, eL_n, Option.toList_none, Option.toList_some, List.nil_append, List.cons_append, iI_add, iI_sub]
          exact nxt l (g + 1) w _ hl (by omega) (by omega) hfn
      refine vs_ok 3 ?_
      rw [show ((gRes 61).drop 15).take 3 = [.aload 0, .iload 5, .invokevirtual 59] from rfl]
      simp only [vs_iv, vs_aload0, vs_iload5, vs_nil, gv_0, gv_1, gv_2, gv_3, pv_0, pv_1, va_rf_s, Nat.reduceDiv, Nat.reduceMod, Nat.reduceAdd, Nat.reduceMul, Int.reduceToNat, true_and, and_true, and_self, cP_eq, cP_ne, cP_lt, cP_ge, cP_gt, cP_le, eL_i, eL_l, eL_r, eL_n, Option.toList_none, Option.toList_some, List.nil_append, List.cons_append]
      refine PW.iv rfl rfl rfl r1 r2 (le_b rfl) (le_b rfl) ?_
      refine t_byteAt hr i32i ⟨rfl, ⟨rfl, rfl⟩, ?_⟩
      refine vs_ok 1 ?_
      rw [show ((gRes 61).drop 18).take 1 = [.invokestatic 62] from rfl]
      simp only [vs_ist, vs_nil, gv_0, gv_1, gv_2, gv_3, pv_0, pv_1, va_rf_s, Nat.reduceDiv, Nat.reduceMod, Nat.reduceAdd, Nat.reduceMul, Int.reduceToNat, true_and, and_true, and_self, cP_eq, cP_ne, cP_lt, cP_ge, cP_gt, cP_le, eL_i, eL_l, eL_r, eL_n, Option.toList_none, Option.toList_some, List.nil_append, List.cons_append]
      refine PW.ss (r := []) rfl (le_b rfl) rfl rfl (le_b rfl) (le_b rfl) ?_
      refine t_isLetter b32 (fun z => ⟨rfl, ⟨rfl, rfl⟩, ?_⟩) (fun z => ⟨rfl, ⟨rfl, rfl⟩, ?_⟩)
      · refine vs_ok 1 ?_
        rw [show ((gRes 61).drop 19).take 1 = [.ifCond .ne 25] from rfl]
        simp only [vs_ifCond, vs_nil, gv_0, gv_1, gv_2, gv_3, pv_0, pv_1, va_rf_s, Nat.reduceDiv, Nat.reduceMod, Nat.reduceAdd, Nat.reduceMul, Int.reduceToNat, true_and, and_true, and_self, cP_eq, cP_ne, cP_lt, cP_ge, cP_gt, cP_le, eL_i, eL_l, eL_r, eL_n, Option.toList_none, Option.toList_some, List.nil_append, List.cons_append]
        exact ⟨fun _ => p25 (Or.inl z), fun c => (by simp at c)⟩
      refine vs_ok 1 ?_
      rw [show ((gRes 61).drop 19).take 1 = [.ifCond .ne 25] from rfl]
      simp only [vs_ifCond, vs_nil, gv_0, gv_1, gv_2, gv_3, pv_0, pv_1, va_rf_s, Nat.reduceDiv, Nat.reduceMod, Nat.reduceAdd, Nat.reduceMul, Int.reduceToNat, true_and, and_true, and_self, cP_eq, cP_ne, cP_lt, cP_ge, cP_gt, cP_le, eL_i, eL_l, eL_r, eL_n, Option.toList_none, Option.toList_some, List.nil_append, List.cons_append]
      refine ⟨fun c => (by simp at c), fun _ => ?_⟩
      refine vs_ok 3 ?_
      rw [show ((gRes 61).drop 20).take 3 = [.aload 0, .iload 5, .invokevirtual 59] from rfl]
      simp only [vs_iv, vs_aload0, vs_iload5, vs_nil, gv_0, gv_1, gv_2, gv_3, pv_0, pv_1, va_rf_s, Nat.reduceDiv, Nat.reduceMod, Nat.reduceAdd, Nat.reduceMul, Int.reduceToNat, true_and, and_true, and_self, cP_eq, cP_ne, cP_lt, cP_ge, cP_gt, cP_le, eL_i, eL_l, eL_r, eL_n, Option.toList_none, Option.toList_some, List.nil_append, List.cons_append]
      refine PW.iv rfl rfl rfl r1 r2 (le_b rfl) (le_b rfl) ?_
      refine t_byteAt hr i32i ⟨rfl, ⟨rfl, rfl⟩, ?_⟩
      refine vs_ok 1 ?_
      rw [show ((gRes 61).drop 23).take 1 = [.invokestatic 63] from rfl]
      simp only [vs_ist, vs_nil, gv_0, gv_1, gv_2, gv_3, pv_0, pv_1, va_rf_s, Nat.reduceDiv, Nat.reduceMod, Nat.reduceAdd, Nat.reduceMul, Int.reduceToNat, true_and, and_true, and_self, cP_eq, cP_ne, cP_lt, cP_ge, cP_gt, cP_le, eL_i, eL_l, eL_r, eL_n, Option.toList_none, Option.toList_some, List.nil_append, List.cons_append]
      refine PW.ss (r := []) rfl (le_b rfl) rfl rfl (le_b rfl) (le_b rfl) ?_
      refine t_isDigit b32 (fun z2 => ⟨rfl, ⟨rfl, rfl⟩, ?_⟩) (fun z2 => ⟨rfl, ⟨rfl, rfl⟩, ?_⟩)
      · refine vs_ok 1 ?_
        rw [show ((gRes 61).drop 24).take 1 = [.ifCond .eq 57] from rfl]
        simp only [vs_ifCond, vs_nil, gv_0, gv_1, gv_2, gv_3, pv_0, pv_1, va_rf_s, Nat.reduceDiv, Nat.reduceMod, Nat.reduceAdd, Nat.reduceMul, Int.reduceToNat, true_and, and_true, and_self, cP_eq, cP_ne, cP_lt, cP_ge, cP_gt, cP_le, eL_i, eL_l, eL_r, eL_n, Option.toList_none, Option.toList_some, List.nil_append, List.cons_append]
        refine ⟨fun c => absurd c (by decide), fun _ => ?_⟩
        exact p25 (Or.inr z2)
      · refine vs_ok 1 ?_
        rw [show ((gRes 61).drop 24).take 1 = [.ifCond .eq 57] from rfl]
        simp only [vs_ifCond, vs_nil, gv_0, gv_1, gv_2, gv_3, pv_0, pv_1, va_rf_s, Nat.reduceDiv, Nat.reduceMod, Nat.reduceAdd, Nat.reduceMul, Int.reduceToNat, true_and, and_true, and_self, cP_eq, cP_ne, cP_lt, cP_ge, cP_gt, cP_le, eL_i, eL_l, eL_r, eL_n, Option.toList_none, Option.toList_some, List.nil_append, List.cons_append]
        refine ⟨fun _ => ?_, fun c => (by simp at c)⟩
        rw [if_neg (show ¬ (97 ≤ byV B len i ∧ byV B len i ≤ 122) from z), if_neg (show ¬ (48 ≤ byV B len i ∧ byV B len i ≤ 57) from z2)] at hfn
        exact fin (l, g, w, n, i) hfn
  exact loop _ pl 0 0 0 0 rfl hp.1 hp.2 (by omega) (by omega) (by omega) rfl
