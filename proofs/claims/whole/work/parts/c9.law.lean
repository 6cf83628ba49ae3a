/-! the law's rows, case by case -/
theorem PW.kp {d k i : Nat} {ls : List (Option Value)} {st : List Value} {h : Hp} {Q : Nat → Option Value → Hp → Prop} (hn : zN h ≤ zSC) (hp : PW d k i ls st h (fun t v g => KP h g → Q t v g)) : PW d k i ls st h Q := by
  obtain ⟨n, t, v, h', h1, h2⟩ := hp
  exact ⟨n, t, v, h', h1, h2 (ev_keep n d k i ls st h t v h' h1 hn)⟩
theorem tk_get {α : Type} {l L : List α} {i n : Nat} (hr : (l.drop i).take n = L) (t : Nat) (ht : t < n) : l[i + t]? = L[t]? := by
  rw [← hr, List.getElem?_take_of_lt ht, List.getElem?_drop]
theorem PW.al {d k i n a : Nat} {ls : List (Option Value)} {st : List Value} {h : Hp} {Q : Nat → Option Value → Hp → Prop} (hf : (gRes k)[i]? = some (.aload n)) (hl : ls[n]? = some (some (.ref a))) (kk : PW d k (i + 1) ls (.ref a :: st) h Q) : PW d k i ls st h Q := by
  refine PW.step hf rfl rfl ?_ kk
  dsimp only [ex1, xLdA]
  rw [hl]
theorem PW.il {d k i n : Nat} {a : Int32} {ls : List (Option Value)} {st : List Value} {h : Hp} {Q : Nat → Option Value → Hp → Prop} (hf : (gRes k)[i]? = some (.iload n)) (hl : ls[n]? = some (some (.int a))) (kk : PW d k (i + 1) ls (.int a :: st) h Q) : PW d k i ls st h Q := by
  refine PW.step hf rfl rfl ?_ kk
  dsimp only [ex1, xLdI]
  rw [hl]
/-- what holds in the law's loop -/
def LE (h : Hp) (x m o L : Nat) (S : Nat → Int) (c s : Nat) : Prop := INV h x m o ∧ zN h ≤ zSC ∧ (zC h ≤ c ∧ zS h ≤ s) ∧ zL h zSC = L ∧ ∀ k, k < L → zI h zSC k = iI (S k)
section LAW
variable {x m o L n : Nat} {S : Nat → Int} {c s : Nat} {h : Hp} {a5 a6 a7 : Option Value} {Q : Nat → Option Value → Hp → Prop}
theorem LE.go {g : Hp} (E : LE h x m o L S c s) (kp : KP h g) (z : szE h g) (I : INV g x m o) : LE g x m o L S c s := by
  obtain ⟨-, e1, e2, e3, e4⟩ := E
  exact ⟨I, by rw [z.1]; exact e1, by rw [z.2.1, z.2.2]; exact e2, by rw [kp.2.2.1]; exact e3, fun k hk => by rw [kp.2.1]; exact e4 k hk⟩
theorem szE.tr {a b d : Hp} (z : szE a b) (y : szE b d) : szE a d := ⟨y.1.trans z.1, y.2.1.trans z.2.1, y.2.2.trans z.2.2⟩
/-- an int of the script -/
theorem PW.sarg {d i j : Nat} {l1 l2 l3 : Option Value} {r : List (Option Value)} {st : List Value} {v : Int} (hr : ((gRes 282).drop i).take 5 = [.aload 0, .iload 4, .iconst j, .iadd, .saload]) (hn : n + j < L) (hL : L ≤ 3072) (e3 : zL h zSC = L) (e4 : zI h zSC (n + j) = iI v)
    (kk : PW d 282 (i + 5) (some (.ref zSC) :: l1 :: l2 :: l3 :: some (.int (iI n)) :: r) (.int (iI v) :: st) h Q) : PW d 282 i (some (.ref zSC) :: l1 :: l2 :: l3 :: some (.int (iI n)) :: r) st h Q := by
  refine PW.al (tk_get hr 0 (by omega)) rfl ?_
  refine PW.il (tk_get hr 1 (by omega)) rfl ?_
  refine PW.step (tk_get hr 2 (by omega)) rfl rfl rfl ?_
  refine PW.step (tk_get hr 3 (by omega)) rfl rfl rfl ?_
  refine PW.step (tk_get hr 4 (by omega)) rfl rfl ?_ kk
  have e : Int32.ofInt (n : Int) + Int32.ofInt (j : Int) = iI ((n + j : Nat) : Int) := by
    rw [← Int32.ofInt_add]
    congr 1
  show xSal (i + 4) _ (.int (Int32.ofInt (n : Int) + Int32.ofInt (j : Int)) :: .ref zSC :: st) h = _
  rw [e]
  dsimp only [xSal]
  have e5 : (iI ((n + j : Nat) : Int)).toNatClampNeg = n + j := (jnat (x := ((n + j : Nat) : Int)) (by omega) (by omega)).trans (by omega)
  rw [e5, if_pos ⟨rfl, by rw [e3]; exact jinB (x := ((n + j : Nat) : Int)) (by omega) (by omega) (by omega)⟩, e4]
theorem PW.eqI {d k i : Nat} {t : Int} {c : Int32} {ls : List (Option Value)} {r : List Value} (hf : (gRes k)[i]? = some (.if_icmp .eq t)) (kk : PW d k t.toNat ls r h Q) : PW d k i ls (.int c :: .int c :: r) h Q :=
  PW.step hf rfl rfl (by dsimp only [ex1, xBr2]; rw [cnd_t (show cP .eq c c from rfl)]; rfl) kk
theorem lgc (c : Int64) : lg_cmp c c = 0 := by
  unfold lg_cmp
  simp
theorem PW.eqL {d k i : Nat} {t : Int} {c : Int64} {ls : List (Option Value)} {r : List Value} (hf : (gRes k)[i]? = some .lcmp) (hg : (gRes k)[i + 1]? = some (.ifCond .eq t)) (kk : PW d k t.toNat ls r h Q) : PW d k i ls (.long c :: .long c :: r) h Q := by
  refine PW.step (i' := i + 1) hf rfl rfl rfl ?_
  refine PW.step hg rfl rfl ?_ kk
  dsimp only [ex1, xBr1]
  rw [cnd_t (show cP .eq (lg_cmp c c) 0 from lgc c)]
  rfl
theorem lw_0 (E : LE h x m o L S c s) (hm : m = x + 161) (ho : o = x + 197) (hS : ∀ k, i32 (S k)) (hL : L ≤ 3072) (hn : n + 6 ≤ L) (K : ∀ g b5 b6 b7, LE g x m o L S (c + 1) (s + 6) → PW 140 282 806 [some (.ref zSC), some (.ref x), some (.ref m), some (.ref o), some (.int (iI n)), b5, b6, b7] [] g Q) : PW 140 282 25 [some (.ref zSC), some (.ref x), some (.ref m), some (.ref o), some (.int (iI n)), a5, a6, a7] [] h Q := by
  obtain ⟨I, e1, e2, e3, e4⟩ := id E
  have kx := I.1.1.N
  have km := I.1.2.1.k
  refine PW.al rfl rfl ?_
  refine PW.sarg (j := 1) (v := S (n + 1)) rfl (by omega) hL e3 (e4 _ (by omega)) ?_
  refine PW.sarg (j := 2) (v := S (n + 2)) rfl (by omega) hL e3 (e4 _ (by omega)) ?_
  refine PW.sarg (j := 3) (v := S (n + 3)) rfl (by omega) hL e3 (e4 _ (by omega)) ?_
  refine PW.sarg (j := 4) (v := S (n + 4)) rfl (by omega) hL e3 (e4 _ (by omega)) ?_
  refine PW.sarg (j := 5) (v := S (n + 5)) rfl (by omega) hL e3 (e4 _ (by omega)) ?_
  refine PW.iv rfl rfl rfl kx.1 kx.2 (le_b rfl) (le_b rfl) ?_
  refine PW.kp e1 ?_
  refine p_feed (hS _) (hS _) (hS _) (hS _) (hS _) hm I _ fun g1 v pv z zk M kp => ⟨rfl, ⟨z.1, ?_⟩, ?_⟩
  · obtain ⟨v0, rfl⟩ := pv
    rfl
  · obtain ⟨v0, rfl⟩ := pv
    show PW 140 282 52 [some (.ref zSC), some (.ref x), some (.ref m), some (.ref o), some (.int (iI n)), a5, a6, a7] [.int v0] g1 Q
    have n1 : zN g1 ≤ zSC := by rw [z.1]; exact e1
    refine PW.al rfl rfl ?_
    have f3 : zL g1 zSC = L := by rw [kp.2.2.1]; exact e3
    have f4 : ∀ k, k < L → zI g1 zSC k = iI (S k) := fun k hk => by rw [kp.2.1]; exact e4 k hk
    refine PW.sarg (j := 1) (v := S (n + 1)) rfl (by omega) hL f3 (f4 _ (by omega)) ?_
    refine PW.sarg (j := 2) (v := S (n + 2)) rfl (by omega) hL f3 (f4 _ (by omega)) ?_
    refine PW.sarg (j := 3) (v := S (n + 3)) rfl (by omega) hL f3 (f4 _ (by omega)) ?_
    refine PW.sarg (j := 4) (v := S (n + 4)) rfl (by omega) hL f3 (f4 _ (by omega)) ?_
    refine PW.sarg (j := 5) (v := S (n + 5)) rfl (by omega) hL f3 (f4 _ (by omega)) ?_
    refine PW.iv rfl rfl rfl (by rw [zk]; exact km.1) (by rw [z.1]; exact km.2) (le_b rfl) (le_b rfl) ?_
    refine PW.kp n1 ?_
    refine M _ fun g2 z2 I2 kp2 => ⟨rfl, ⟨z2.1, rfl⟩, ?_⟩
    show PW 140 282 79 [some (.ref zSC), some (.ref x), some (.ref m), some (.ref o), some (.int (iI n)), a5, a6, a7] [.int v0, .int v0] g2 Q
    refine PW.eqI rfl ?_
    have E2 := E.go (kp.tr kp2) (z.tr z2) I2
    exact K g2 _ _ _ ⟨E2.1, E2.2.1, ⟨by have := E2.2.2.1.1; omega, by have := E2.2.2.1.2; omega⟩, E2.2.2.2⟩
theorem lw_1 (E : LE h x m o L S c s) (hm : m = x + 161) (ho : o = x + 197) (hS : ∀ k, i32 (S k)) (hL : L ≤ 3072) (hn : n + 6 ≤ L) (K : ∀ g b5 b6 b7, LE g x m o L S (c + 1) (s + 6) → PW 140 282 806 [some (.ref zSC), some (.ref x), some (.ref m), some (.ref o), some (.int (iI n)), b5, b6, b7] [] g Q) : PW 140 282 82 [some (.ref zSC), some (.ref x), some (.ref m), some (.ref o), some (.int (iI n)), a5, a6, a7] [] h Q := by
  obtain ⟨I, e1, e2, e3, e4⟩ := id E
  have kx := I.1.1.N
  have km := I.1.2.1.k
  refine PW.al rfl rfl ?_
  refine PW.sarg (j := 1) (v := S (n + 1)) rfl (by omega) hL e3 (e4 _ (by omega)) ?_
  refine PW.iv rfl rfl rfl kx.1 kx.2 (le_b rfl) (le_b rfl) ?_
  refine PW.kp e1 ?_
  refine p_end (hS _) hm I _ fun g1 v pv z zk M kp => ⟨rfl, ⟨z.1, ?_⟩, ?_⟩
  · obtain ⟨v0, rfl⟩ := pv
    rfl
  · obtain ⟨v0, rfl⟩ := pv
    show PW 140 282 89 [some (.ref zSC), some (.ref x), some (.ref m), some (.ref o), some (.int (iI n)), a5, a6, a7] [.int v0] g1 Q
    have n1 : zN g1 ≤ zSC := by rw [z.1]; exact e1
    refine PW.al rfl rfl ?_
    have f3 : zL g1 zSC = L := by rw [kp.2.2.1]; exact e3
    have f4 : ∀ k, k < L → zI g1 zSC k = iI (S k) := fun k hk => by rw [kp.2.1]; exact e4 k hk
    refine PW.sarg (j := 1) (v := S (n + 1)) rfl (by omega) hL f3 (f4 _ (by omega)) ?_
    refine PW.iv rfl rfl rfl (by rw [zk]; exact km.1) (by rw [z.1]; exact km.2) (le_b rfl) (le_b rfl) ?_
    refine PW.kp n1 ?_
    refine M _ fun g2 z2 I2 kp2 => ⟨rfl, ⟨z2.1, rfl⟩, ?_⟩
    show PW 140 282 96 [some (.ref zSC), some (.ref x), some (.ref m), some (.ref o), some (.int (iI n)), a5, a6, a7] [.int v0, .int v0] g2 Q
    refine PW.eqI rfl ?_
    have E2 := E.go (kp.tr kp2) (z.tr z2) I2
    exact K g2 _ _ _ ⟨E2.1, E2.2.1, ⟨by have := E2.2.2.1.1; omega, by have := E2.2.2.1.2; omega⟩, E2.2.2.2⟩
theorem lw_2 (E : LE h x m o L S c s) (hm : m = x + 161) (ho : o = x + 197) (hS : ∀ k, i32 (S k)) (hL : L ≤ 3072) (hn : n + 6 ≤ L) (K : ∀ g b5 b6 b7, LE g x m o L S (c + 1) (s + 6) → PW 140 282 806 [some (.ref zSC), some (.ref x), some (.ref m), some (.ref o), some (.int (iI n)), b5, b6, b7] [] g Q) : PW 140 282 99 [some (.ref zSC), some (.ref x), some (.ref m), some (.ref o), some (.int (iI n)), a5, a6, a7] [] h Q := by
  obtain ⟨I, e1, e2, e3, e4⟩ := id E
  have kx := I.1.1.N
  have km := I.1.2.1.k
  refine PW.al rfl rfl ?_
  refine PW.iv rfl rfl rfl kx.1 kx.2 (le_b rfl) (le_b rfl) ?_
  refine PW.kp e1 ?_
  refine p_table hm I _ fun g1 v pv z zk M kp => ⟨rfl, ⟨z.1, ?_⟩, ?_⟩
  · obtain ⟨v0, rfl⟩ := pv
    rfl
  · obtain ⟨v0, rfl⟩ := pv
    show PW 140 282 101 [some (.ref zSC), some (.ref x), some (.ref m), some (.ref o), some (.int (iI n)), a5, a6, a7] [.int v0] g1 Q
    have n1 : zN g1 ≤ zSC := by rw [z.1]; exact e1
    refine PW.al rfl rfl ?_
    refine PW.iv rfl rfl rfl (by rw [zk]; exact km.1) (by rw [z.1]; exact km.2) (le_b rfl) (le_b rfl) ?_
    refine PW.kp n1 ?_
    refine M _ fun g2 z2 I2 kp2 => ⟨rfl, ⟨z2.1, rfl⟩, ?_⟩
    show PW 140 282 103 [some (.ref zSC), some (.ref x), some (.ref m), some (.ref o), some (.int (iI n)), a5, a6, a7] [.int v0, .int v0] g2 Q
    refine PW.eqI rfl ?_
    have E2 := E.go (kp.tr kp2) (z.tr z2) I2
    exact K g2 _ _ _ ⟨E2.1, E2.2.1, ⟨by have := E2.2.2.1.1; omega, by have := E2.2.2.1.2; omega⟩, E2.2.2.2⟩
theorem lw_3 (E : LE h x m o L S c s) (hm : m = x + 161) (ho : o = x + 197) (hS : ∀ k, i32 (S k)) (hL : L ≤ 3072) (hn : n + 6 ≤ L) (K : ∀ g b5 b6 b7, LE g x m o L S (c + 1) (s + 6) → PW 140 282 806 [some (.ref zSC), some (.ref x), some (.ref m), some (.ref o), some (.int (iI n)), b5, b6, b7] [] g Q) : PW 140 282 106 [some (.ref zSC), some (.ref x), some (.ref m), some (.ref o), some (.int (iI n)), a5, a6, a7] [] h Q := by
  obtain ⟨I, e1, e2, e3, e4⟩ := id E
  have kx := I.1.1.N
  have km := I.1.2.1.k
  refine PW.al rfl rfl ?_
  refine PW.iv rfl rfl rfl kx.1 kx.2 (le_b rfl) (le_b rfl) ?_
  refine PW.kp e1 ?_
  refine p_fault hm I _ fun g1 v pv z zk M kp => ⟨rfl, ⟨z.1, ?_⟩, ?_⟩
  · obtain ⟨v0, rfl⟩ := pv
    rfl
  · obtain ⟨v0, rfl⟩ := pv
    show PW 140 282 108 [some (.ref zSC), some (.ref x), some (.ref m), some (.ref o), some (.int (iI n)), a5, a6, a7] [.int v0] g1 Q
    have n1 : zN g1 ≤ zSC := by rw [z.1]; exact e1
    refine PW.al rfl rfl ?_
    refine PW.iv rfl rfl rfl (by rw [zk]; exact km.1) (by rw [z.1]; exact km.2) (le_b rfl) (le_b rfl) ?_
    refine PW.kp n1 ?_
    refine M _ fun g2 z2 I2 kp2 => ⟨rfl, ⟨z2.1, rfl⟩, ?_⟩
    show PW 140 282 110 [some (.ref zSC), some (.ref x), some (.ref m), some (.ref o), some (.int (iI n)), a5, a6, a7] [.int v0, .int v0] g2 Q
    refine PW.eqI rfl ?_
    have E2 := E.go (kp.tr kp2) (z.tr z2) I2
    exact K g2 _ _ _ ⟨E2.1, E2.2.1, ⟨by have := E2.2.2.1.1; omega, by have := E2.2.2.1.2; omega⟩, E2.2.2.2⟩
theorem lw_4 (E : LE h x m o L S c s) (hm : m = x + 161) (ho : o = x + 197) (hS : ∀ k, i32 (S k)) (hL : L ≤ 3072) (hn : n + 6 ≤ L) (K : ∀ g b5 b6 b7, LE g x m o L S (c + 1) (s + 6) → PW 140 282 806 [some (.ref zSC), some (.ref x), some (.ref m), some (.ref o), some (.int (iI n)), b5, b6, b7] [] g Q) : PW 140 282 113 [some (.ref zSC), some (.ref x), some (.ref m), some (.ref o), some (.int (iI n)), a5, a6, a7] [] h Q := by
  obtain ⟨I, e1, e2, e3, e4⟩ := id E
  have kx := I.1.1.N
  have km := I.1.2.1.k
  refine PW.al rfl rfl ?_
  refine PW.sarg (j := 1) (v := S (n + 1)) rfl (by omega) hL e3 (e4 _ (by omega)) ?_
  refine PW.sarg (j := 2) (v := S (n + 2)) rfl (by omega) hL e3 (e4 _ (by omega)) ?_
  refine PW.al rfl rfl ?_
  have ko : zK h o = 15 ∧ o < zN h ∧ zL h o = 1 := ⟨I.1.2.2.2.1, I.1.2.2.2.2.2, I.1.2.2.2.2.1⟩
  obtain ⟨r, hD, hN, hV⟩ := p_about (hS _) (hS _) hm ho I
  refine PW.ss (a := [.ref x, .int (iI (S (n + 1))), .int (iI (S (n + 2))), .ref o]) (r := []) rfl (le_b rfl) rfl rfl (le_b rfl) (le_b rfl) ?_
  refine PW.kp e1 ?_
  refine t_L_about ⟨kx, ko⟩ hD (fun er kp => ⟨rfl, ⟨rfl, rfl⟩, ?_⟩) fun v0 er kp => ⟨rfl, ⟨rfl, rfl⟩, ?_⟩
  · show PW 140 282 126 [some (.ref zSC), some (.ref x), some (.ref m), some (.ref o), some (.int (iI n)), a5, a6, a7] [.int (iI 1)] (zThr h) Q
    have n1 : zN (zThr h) ≤ zSC := e1
    have f3 : zL (zThr h) zSC = L := e3
    have f4 : ∀ k, k < L → zI (zThr h) zSC k = iI (S k) := e4
    have k1 : zK (zThr h) = zK h := rfl
    have k2 : zN (zThr h) = zN h := rfl
    refine vs_ok 1 ?_
    rw [show ((gRes 282).drop 126).take 1 = [.istore 5] from rfl]
    simp (disch := omega) only [vs_istore5n, vs_istore5i, vs_istore5r, vs_istore5l, vs_nil, gv_0, gv_1, gv_2, gv_3, pv_0, pv_1, va_rf_s, Nat.reduceDiv, Nat.reduceMod, Nat.reduceAdd, Nat.reduceMul, Int.reduceToNat, true_and, and_true, and_self, cP_eq, cP_ne, cP_lt, cP_ge, cP_gt, cP_le, eL_i, eL_l, eL_r, eL_n, Option.toList_none, Option.toList_some, List.nil_append, List.cons_append, kkI, llI, nnI, rrI, jjI, kkJ, llJ, nnJ, rrJ, iiJ, zIIs, zJJs, nEF, nET, and_false, false_and, jmin, jmax, catS_n, catS_i, catS_r, catS_l, Nat.reduceLeDiff, j1eq1, n21, jt0, jt1, Bool.false_eq_true, Classical.not_not, true_or, or_true, false_or, or_false, true_imp_iff, false_imp_iff, not_true_eq_false, not_false_eq_true, jif0, jif1, jifb, ltT, ltF, leT, leF, eqT, eqF, jlt, jle, jeq, jlt0, jle0, jeq0, jge0, jgt0, jinB, jnat, clt, cle, ceq, cgt, cge, lI_add, lI_sub, lI_mul, jadd, jsub, jmul, jneg, jtol, b010, b011, pv_2t, Int.toNat_natCast, Option.some.injEq, exists_eq_left', if_true, if_false]
    refine PW.al rfl rfl ?_
    refine PW.sarg (j := 1) (v := S (n + 1)) rfl (by omega) hL f3 (f4 _ (by omega)) ?_
    refine PW.sarg (j := 2) (v := S (n + 2)) rfl (by omega) hL f3 (f4 _ (by omega)) ?_
    refine PW.iv rfl rfl rfl km.1 km.2 (le_b rfl) (le_b rfl) ?_
    refine PW.kp n1 ?_
    refine hN er _ fun g2 v2 z2 zk I2 t1 pv kp2 => ⟨rfl, ⟨z2.1, ?_⟩, ?_⟩
    · obtain ⟨v0, rfl⟩ := pv
      rfl
    obtain ⟨v0, rfl⟩ := pv
    show PW 140 282 139 [some (.ref zSC), some (.ref x), some (.ref m), some (.ref o), some (.int (iI n)), some (.int (iI 1)), a6, a7] [.int v0] g2 Q
    refine vs_ok 1 ?_
    rw [show ((gRes 282).drop 139).take 1 = [.istore 6] from rfl]
    simp (disch := omega) only [vs_istore6n, vs_istore6i, vs_istore6r, vs_istore6l, vs_nil, gv_0, gv_1, gv_2, gv_3, pv_0, pv_1, va_rf_s, Nat.reduceDiv, Nat.reduceMod, Nat.reduceAdd, Nat.reduceMul, Int.reduceToNat, true_and, and_true, and_self, cP_eq, cP_ne, cP_lt, cP_ge, cP_gt, cP_le, eL_i, eL_l, eL_r, eL_n, Option.toList_none, Option.toList_some, List.nil_append, List.cons_append, kkI, llI, nnI, rrI, jjI, kkJ, llJ, nnJ, rrJ, iiJ, zIIs, zJJs, nEF, nET, and_false, false_and, jmin, jmax, catS_n, catS_i, catS_r, catS_l, Nat.reduceLeDiff, j1eq1, n21, jt0, jt1, Bool.false_eq_true, Classical.not_not, true_or, or_true, false_or, or_false, true_imp_iff, false_imp_iff, not_true_eq_false, not_false_eq_true, jif0, jif1, jifb, ltT, ltF, leT, leF, eqT, eqF, jlt, jle, jeq, jlt0, jle0, jeq0, jge0, jgt0, jinB, jnat, clt, cle, ceq, cgt, cge, lI_add, lI_sub, lI_mul, jadd, jsub, jmul, jneg, jtol, b010, b011, pv_2t, Int.toNat_natCast, Option.some.injEq, exists_eq_left', if_true, if_false]
    have ko2 : zK g2 o = 15 ∧ o < zN g2 ∧ zL g2 o = 1 := ⟨I2.1.2.2.2.1, I2.1.2.2.2.2.2, I2.1.2.2.2.2.1⟩
    have E2 : LE g2 x m o L S (c + 1) (s + 6) := ⟨I2, by rw [z2.1]; exact n1, ⟨by rw [z2.2.1]; show zC h + 1 ≤ c + 1; omega, by rw [z2.2.2]; show zS h + 6 ≤ s + 6; omega⟩, by rw [kp2.2.2.1]; exact f3, fun k hk => by rw [kp2.2.1]; exact f4 k hk⟩
    refine PW.al rfl rfl ?_
    refine PW.iv rfl rfl rfl (by rw [zk]; exact km.1) (by rw [z2.1]; exact km.2) (le_b rfl) (le_b rfl) ?_
    refine t_M_thrown I2.1.2.1 t1 ⟨rfl, ⟨rfl, rfl⟩, ?_⟩
    show PW 140 282 142 [some (.ref zSC), some (.ref x), some (.ref m), some (.ref o), some (.int (iI n)), some (.int (iI 1)), some (.int v0), a7] [.int (iI 1)] g2 Q
    refine PW.il rfl rfl ?_
    refine PW.eqI rfl ?_
    show PW 140 282 146 [some (.ref zSC), some (.ref x), some (.ref m), some (.ref o), some (.int (iI n)), some (.int (iI 1)), some (.int v0), a7] [] g2 Q
    refine vs_ok 2 ?_
    rw [show ((gRes 282).drop 146).take 2 = [.iload 5, .ifCond .ne 157] from rfl]
    simp (disch := omega) only [vs_ifCond, vs_iload5, vs_nil, gv_0, gv_1, gv_2, gv_3, pv_0, pv_1, va_rf_s, Nat.reduceDiv, Nat.reduceMod, Nat.reduceAdd, Nat.reduceMul, Int.reduceToNat, true_and, and_true, and_self, cP_eq, cP_ne, cP_lt, cP_ge, cP_gt, cP_le, eL_i, eL_l, eL_r, eL_n, Option.toList_none, Option.toList_some, List.nil_append, List.cons_append, kkI, llI, nnI, rrI, jjI, kkJ, llJ, nnJ, rrJ, iiJ, zIIs, zJJs, nEF, nET, and_false, false_and, jmin, jmax, catS_n, catS_i, catS_r, catS_l, Nat.reduceLeDiff, j1eq1, n21, jt0, jt1, Bool.false_eq_true, Classical.not_not, true_or, or_true, false_or, or_false, true_imp_iff, false_imp_iff, not_true_eq_false, not_false_eq_true, jif0, jif1, jifb, ltT, ltF, leT, leF, eqT, eqF, jlt, jle, jeq, jlt0, jle0, jeq0, jge0, jgt0, jinB, jnat, clt, cle, ceq, cgt, cge, lI_add, lI_sub, lI_mul, jadd, jsub, jmul, jneg, jtol, b010, b011, pv_2t, Int.toNat_natCast, Option.some.injEq, exists_eq_left', if_true, if_false]
    refine vs_ok 1 ?_
    rw [show ((gRes 282).drop 157).take 1 = [.goto 806] from rfl]
    simp (disch := omega) only [vs_goto, vs_nil, gv_0, gv_1, gv_2, gv_3, pv_0, pv_1, va_rf_s, Nat.reduceDiv, Nat.reduceMod, Nat.reduceAdd, Nat.reduceMul, Int.reduceToNat, true_and, and_true, and_self, cP_eq, cP_ne, cP_lt, cP_ge, cP_gt, cP_le, eL_i, eL_l, eL_r, eL_n, Option.toList_none, Option.toList_some, List.nil_append, List.cons_append, kkI, llI, nnI, rrI, jjI, kkJ, llJ, nnJ, rrJ, iiJ, zIIs, zJJs, nEF, nET, and_false, false_and, jmin, jmax, catS_n, catS_i, catS_r, catS_l, Nat.reduceLeDiff, j1eq1, n21, jt0, jt1, Bool.false_eq_true, Classical.not_not, true_or, or_true, false_or, or_false, true_imp_iff, false_imp_iff, not_true_eq_false, not_false_eq_true, jif0, jif1, jifb, ltT, ltF, leT, leF, eqT, eqF, jlt, jle, jeq, jlt0, jle0, jeq0, jge0, jgt0, jinB, jnat, clt, cle, ceq, cgt, cge, lI_add, lI_sub, lI_mul, jadd, jsub, jmul, jneg, jtol, b010, b011, pv_2t, Int.toNat_natCast, Option.some.injEq, exists_eq_left', if_true, if_false]
    exact K g2 _ _ _ E2
  · show PW 140 282 126 [some (.ref zSC), some (.ref x), some (.ref m), some (.ref o), some (.int (iI n)), a5, a6, a7] [.int (iI 0)] (zsJ h o 0 v0.toInt64) Q
    have n1 : zN (zsJ h o 0 v0.toInt64) ≤ zSC := e1
    have f3 : zL (zsJ h o 0 v0.toInt64) zSC = L := e3
    have f4 : ∀ k, k < L → zI (zsJ h o 0 v0.toInt64) zSC k = iI (S k) := e4
    have k1 : zK (zsJ h o 0 v0.toInt64) = zK h := rfl
    have k2 : zN (zsJ h o 0 v0.toInt64) = zN h := rfl
    refine vs_ok 1 ?_
    rw [show ((gRes 282).drop 126).take 1 = [.istore 5] from rfl]
    simp (disch := omega) only [vs_istore5n, vs_istore5i, vs_istore5r, vs_istore5l, vs_nil, gv_0, gv_1, gv_2, gv_3, pv_0, pv_1, va_rf_s, Nat.reduceDiv, Nat.reduceMod, Nat.reduceAdd, Nat.reduceMul, Int.reduceToNat, true_and, and_true, and_self, cP_eq, cP_ne, cP_lt, cP_ge, cP_gt, cP_le, eL_i, eL_l, eL_r, eL_n, Option.toList_none, Option.toList_some, List.nil_append, List.cons_append, kkI, llI, nnI, rrI, jjI, kkJ, llJ, nnJ, rrJ, iiJ, zIIs, zJJs, nEF, nET, and_false, false_and, jmin, jmax, catS_n, catS_i, catS_r, catS_l, Nat.reduceLeDiff, j1eq1, n21, jt0, jt1, Bool.false_eq_true, Classical.not_not, true_or, or_true, false_or, or_false, true_imp_iff, false_imp_iff, not_true_eq_false, not_false_eq_true, jif0, jif1, jifb, ltT, ltF, leT, leF, eqT, eqF, jlt, jle, jeq, jlt0, jle0, jeq0, jge0, jgt0, jinB, jnat, clt, cle, ceq, cgt, cge, lI_add, lI_sub, lI_mul, jadd, jsub, jmul, jneg, jtol, b010, b011, pv_2t, Int.toNat_natCast, Option.some.injEq, exists_eq_left', if_true, if_false]
    refine PW.al rfl rfl ?_
    refine PW.sarg (j := 1) (v := S (n + 1)) rfl (by omega) hL f3 (f4 _ (by omega)) ?_
    refine PW.sarg (j := 2) (v := S (n + 2)) rfl (by omega) hL f3 (f4 _ (by omega)) ?_
    refine PW.iv rfl rfl rfl km.1 km.2 (le_b rfl) (le_b rfl) ?_
    refine PW.kp n1 ?_
    refine hV _ er ⟨_, rfl⟩ _ _ fun g2 z2 zk I2 t1 o1 o2 kp2 => ⟨rfl, ⟨z2.1, rfl⟩, ?_⟩
    show PW 140 282 139 [some (.ref zSC), some (.ref x), some (.ref m), some (.ref o), some (.int (iI n)), some (.int (iI 0)), a6, a7] [.int v0] g2 Q
    refine vs_ok 1 ?_
    rw [show ((gRes 282).drop 139).take 1 = [.istore 6] from rfl]
    simp (disch := omega) only [vs_istore6n, vs_istore6i, vs_istore6r, vs_istore6l, vs_nil, gv_0, gv_1, gv_2, gv_3, pv_0, pv_1, va_rf_s, Nat.reduceDiv, Nat.reduceMod, Nat.reduceAdd, Nat.reduceMul, Int.reduceToNat, true_and, and_true, and_self, cP_eq, cP_ne, cP_lt, cP_ge, cP_gt, cP_le, eL_i, eL_l, eL_r, eL_n, Option.toList_none, Option.toList_some, List.nil_append, List.cons_append, kkI, llI, nnI, rrI, jjI, kkJ, llJ, nnJ, rrJ, iiJ, zIIs, zJJs, nEF, nET, and_false, false_and, jmin, jmax, catS_n, catS_i, catS_r, catS_l, Nat.reduceLeDiff, j1eq1, n21, jt0, jt1, Bool.false_eq_true, Classical.not_not, true_or, or_true, false_or, or_false, true_imp_iff, false_imp_iff, not_true_eq_false, not_false_eq_true, jif0, jif1, jifb, ltT, ltF, leT, leF, eqT, eqF, jlt, jle, jeq, jlt0, jle0, jeq0, jge0, jgt0, jinB, jnat, clt, cle, ceq, cgt, cge, lI_add, lI_sub, lI_mul, jadd, jsub, jmul, jneg, jtol, b010, b011, pv_2t, Int.toNat_natCast, Option.some.injEq, exists_eq_left', if_true, if_false]
    have ko2 : zK g2 o = 15 ∧ o < zN g2 ∧ zL g2 o = 1 := ⟨I2.1.2.2.2.1, I2.1.2.2.2.2.2, I2.1.2.2.2.2.1⟩
    have E2 : LE g2 x m o L S (c + 1) (s + 6) := ⟨I2, by rw [z2.1]; exact n1, ⟨by rw [z2.2.1]; show zC h ≤ c + 1; omega, by rw [z2.2.2]; show zS h ≤ s + 6; omega⟩, by rw [kp2.2.2.1]; exact f3, fun k hk => by rw [kp2.2.1]; exact f4 k hk⟩
    refine PW.al rfl rfl ?_
    refine PW.iv rfl rfl rfl (by rw [zk]; exact km.1) (by rw [z2.1]; exact km.2) (le_b rfl) (le_b rfl) ?_
    refine t_M_thrown I2.1.2.1 t1 ⟨rfl, ⟨rfl, rfl⟩, ?_⟩
    show PW 140 282 142 [some (.ref zSC), some (.ref x), some (.ref m), some (.ref o), some (.int (iI n)), some (.int (iI 0)), some (.int v0), a7] [.int (iI 0)] g2 Q
    refine PW.il rfl rfl ?_
    refine PW.eqI rfl ?_
    show PW 140 282 146 [some (.ref zSC), some (.ref x), some (.ref m), some (.ref o), some (.int (iI n)), some (.int (iI 0)), some (.int v0), a7] [] g2 Q
    refine vs_ok 2 ?_
    rw [show ((gRes 282).drop 146).take 2 = [.iload 5, .ifCond .ne 157] from rfl]
    simp (disch := omega) only [vs_ifCond, vs_iload5, vs_nil, gv_0, gv_1, gv_2, gv_3, pv_0, pv_1, va_rf_s, Nat.reduceDiv, Nat.reduceMod, Nat.reduceAdd, Nat.reduceMul, Int.reduceToNat, true_and, and_true, and_self, cP_eq, cP_ne, cP_lt, cP_ge, cP_gt, cP_le, eL_i, eL_l, eL_r, eL_n, Option.toList_none, Option.toList_some, List.nil_append, List.cons_append, kkI, llI, nnI, rrI, jjI, kkJ, llJ, nnJ, rrJ, iiJ, zIIs, zJJs, nEF, nET, and_false, false_and, jmin, jmax, catS_n, catS_i, catS_r, catS_l, Nat.reduceLeDiff, j1eq1, n21, jt0, jt1, Bool.false_eq_true, Classical.not_not, true_or, or_true, false_or, or_false, true_imp_iff, false_imp_iff, not_true_eq_false, not_false_eq_true, jif0, jif1, jifb, ltT, ltF, leT, leF, eqT, eqF, jlt, jle, jeq, jlt0, jle0, jeq0, jge0, jgt0, jinB, jnat, clt, cle, ceq, cgt, cge, lI_add, lI_sub, lI_mul, jadd, jsub, jmul, jneg, jtol, b010, b011, pv_2t, Int.toNat_natCast, Option.some.injEq, exists_eq_left', if_true, if_false]
    refine vs_ok 5 ?_
    rw [show ((gRes 282).drop 148).take 5 = [.aload 3, .iconst 0, .laload, .iload 6, .i2l] from rfl]
    simp (disch := omega) only [vs_i2l, vs_iconst, vs_laload, vs_aload3, vs_iload6, vs_nil, gv_0, gv_1, gv_2, gv_3, pv_0, pv_1, va_rf_s, Nat.reduceDiv, Nat.reduceMod, Nat.reduceAdd, Nat.reduceMul, Int.reduceToNat, true_and, and_true, and_self, cP_eq, cP_ne, cP_lt, cP_ge, cP_gt, cP_le, eL_i, eL_l, eL_r, eL_n, Option.toList_none, Option.toList_some, List.nil_append, List.cons_append, kkI, llI, nnI, rrI, jjI, kkJ, llJ, nnJ, rrJ, iiJ, zIIs, zJJs, nEF, nET, and_false, false_and, jmin, jmax, catS_n, catS_i, catS_r, catS_l, Nat.reduceLeDiff, j1eq1, n21, jt0, jt1, Bool.false_eq_true, Classical.not_not, true_or, or_true, false_or, or_false, true_imp_iff, false_imp_iff, not_true_eq_false, not_false_eq_true, jif0, jif1, jifb, ltT, ltF, leT, leF, eqT, eqF, jlt, jle, jeq, jlt0, jle0, jeq0, jge0, jgt0, jinB, jnat, clt, cle, ceq, cgt, cge, lI_add, lI_sub, lI_mul, jadd, jsub, jmul, jneg, jtol, b010, b011, pv_2t, Int.toNat_natCast, Option.some.injEq, exists_eq_left', if_true, if_false, ko2, o1]
    refine PW.eqL rfl rfl ?_
    show PW 140 282 157 [some (.ref zSC), some (.ref x), some (.ref m), some (.ref o), some (.int (iI n)), some (.int (iI 0)), some (.int v0), a7] [] g2 Q
    refine vs_ok 1 ?_
    rw [show ((gRes 282).drop 157).take 1 = [.goto 806] from rfl]
    simp (disch := omega) only [vs_goto, vs_nil, gv_0, gv_1, gv_2, gv_3, pv_0, pv_1, va_rf_s, Nat.reduceDiv, Nat.reduceMod, Nat.reduceAdd, Nat.reduceMul, Int.reduceToNat, true_and, and_true, and_self, cP_eq, cP_ne, cP_lt, cP_ge, cP_gt, cP_le, eL_i, eL_l, eL_r, eL_n, Option.toList_none, Option.toList_some, List.nil_append, List.cons_append, kkI, llI, nnI, rrI, jjI, kkJ, llJ, nnJ, rrJ, iiJ, zIIs, zJJs, nEF, nET, and_false, false_and, jmin, jmax, catS_n, catS_i, catS_r, catS_l, Nat.reduceLeDiff, j1eq1, n21, jt0, jt1, Bool.false_eq_true, Classical.not_not, true_or, or_true, false_or, or_false, true_imp_iff, false_imp_iff, not_true_eq_false, not_false_eq_true, jif0, jif1, jifb, ltT, ltF, leT, leF, eqT, eqF, jlt, jle, jeq, jlt0, jle0, jeq0, jge0, jgt0, jinB, jnat, clt, cle, ceq, cgt, cge, lI_add, lI_sub, lI_mul, jadd, jsub, jmul, jneg, jtol, b010, b011, pv_2t, Int.toNat_natCast, Option.some.injEq, exists_eq_left', if_true, if_false]
    exact K g2 _ _ _ E2
theorem lw_5 (E : LE h x m o L S c s) (hm : m = x + 161) (ho : o = x + 197) (hS : ∀ k, i32 (S k)) (hL : L ≤ 3072) (hn : n + 6 ≤ L) (K : ∀ g b5 b6 b7, LE g x m o L S (c + 1) (s + 6) → PW 140 282 806 [some (.ref zSC), some (.ref x), some (.ref m), some (.ref o), some (.int (iI n)), b5, b6, b7] [] g Q) : PW 140 282 158 [some (.ref zSC), some (.ref x), some (.ref m), some (.ref o), some (.int (iI n)), a5, a6, a7] [] h Q := by
  obtain ⟨I, e1, e2, e3, e4⟩ := id E
  have kx := I.1.1.N
  have km := I.1.2.1.k
  refine PW.al rfl rfl ?_
  refine PW.sarg (j := 1) (v := S (n + 1)) rfl (by omega) hL e3 (e4 _ (by omega)) ?_
  refine PW.iv rfl rfl rfl kx.1 kx.2 (le_b rfl) (le_b rfl) ?_
  refine PW.kp e1 ?_
  refine p_all (hS _) hm I _ fun g1 v pv z zk M kp => ⟨rfl, ⟨z.1, ?_⟩, ?_⟩
  · obtain ⟨v0, rfl⟩ := pv
    rfl
  · obtain ⟨v0, rfl⟩ := pv
    show PW 140 282 165 [some (.ref zSC), some (.ref x), some (.ref m), some (.ref o), some (.int (iI n)), a5, a6, a7] [.long v0] g1 Q
    have n1 : zN g1 ≤ zSC := by rw [z.1]; exact e1
    refine PW.al rfl rfl ?_
    have f3 : zL g1 zSC = L := by rw [kp.2.2.1]; exact e3
    have f4 : ∀ k, k < L → zI g1 zSC k = iI (S k) := fun k hk => by rw [kp.2.1]; exact e4 k hk
    refine PW.sarg (j := 1) (v := S (n + 1)) rfl (by omega) hL f3 (f4 _ (by omega)) ?_
    refine PW.iv rfl rfl rfl (by rw [zk]; exact km.1) (by rw [z.1]; exact km.2) (le_b rfl) (le_b rfl) ?_
    refine PW.kp n1 ?_
    refine M _ fun g2 z2 I2 kp2 => ⟨rfl, ⟨z2.1, rfl⟩, ?_⟩
    show PW 140 282 172 [some (.ref zSC), some (.ref x), some (.ref m), some (.ref o), some (.int (iI n)), a5, a6, a7] [.long v0, .long v0] g2 Q
    refine PW.eqL rfl rfl ?_
    have E2 := E.go (kp.tr kp2) (z.tr z2) I2
    exact K g2 _ _ _ ⟨E2.1, E2.2.1, ⟨by have := E2.2.2.1.1; omega, by have := E2.2.2.1.2; omega⟩, E2.2.2.2⟩
theorem lw_6 (E : LE h x m o L S c s) (hm : m = x + 161) (ho : o = x + 197) (hS : ∀ k, i32 (S k)) (hL : L ≤ 3072) (hn : n + 6 ≤ L) (K : ∀ g b5 b6 b7, LE g x m o L S (c + 1) (s + 6) → PW 140 282 806 [some (.ref zSC), some (.ref x), some (.ref m), some (.ref o), some (.int (iI n)), b5, b6, b7] [] g Q) : PW 140 282 176 [some (.ref zSC), some (.ref x), some (.ref m), some (.ref o), some (.int (iI n)), a5, a6, a7] [] h Q := by
  obtain ⟨I, e1, e2, e3, e4⟩ := id E
  have kx := I.1.1.N
  have km := I.1.2.1.k
  refine PW.al rfl rfl ?_
  refine PW.sarg (j := 1) (v := S (n + 1)) rfl (by omega) hL e3 (e4 _ (by omega)) ?_
  refine PW.sarg (j := 2) (v := S (n + 2)) rfl (by omega) hL e3 (e4 _ (by omega)) ?_
  refine PW.iv rfl rfl rfl kx.1 kx.2 (le_b rfl) (le_b rfl) ?_
  refine PW.kp e1 ?_
  refine p_ways (hS _) (hS _) hm I _ fun g1 v pv z zk M kp => ⟨rfl, ⟨z.1, ?_⟩, ?_⟩
  · obtain ⟨v0, rfl⟩ := pv
    rfl
  · obtain ⟨v0, rfl⟩ := pv
    show PW 140 282 188 [some (.ref zSC), some (.ref x), some (.ref m), some (.ref o), some (.int (iI n)), a5, a6, a7] [.long v0] g1 Q
    have n1 : zN g1 ≤ zSC := by rw [z.1]; exact e1
    refine PW.al rfl rfl ?_
    have f3 : zL g1 zSC = L := by rw [kp.2.2.1]; exact e3
    have f4 : ∀ k, k < L → zI g1 zSC k = iI (S k) := fun k hk => by rw [kp.2.1]; exact e4 k hk
    refine PW.sarg (j := 1) (v := S (n + 1)) rfl (by omega) hL f3 (f4 _ (by omega)) ?_
    refine PW.sarg (j := 2) (v := S (n + 2)) rfl (by omega) hL f3 (f4 _ (by omega)) ?_
    refine PW.iv rfl rfl rfl (by rw [zk]; exact km.1) (by rw [z.1]; exact km.2) (le_b rfl) (le_b rfl) ?_
    refine PW.kp n1 ?_
    refine M _ fun g2 z2 I2 kp2 => ⟨rfl, ⟨z2.1, rfl⟩, ?_⟩
    show PW 140 282 200 [some (.ref zSC), some (.ref x), some (.ref m), some (.ref o), some (.int (iI n)), a5, a6, a7] [.long v0, .long v0] g2 Q
    refine PW.eqL rfl rfl ?_
    have E2 := E.go (kp.tr kp2) (z.tr z2) I2
    exact K g2 _ _ _ ⟨E2.1, E2.2.1, ⟨by have := E2.2.2.1.1; omega, by have := E2.2.2.1.2; omega⟩, E2.2.2.2⟩
theorem lw_7 (E : LE h x m o L S c s) (hm : m = x + 161) (ho : o = x + 197) (hS : ∀ k, i32 (S k)) (hL : L ≤ 3072) (hn : n + 6 ≤ L) (K : ∀ g b5 b6 b7, LE g x m o L S (c + 1) (s + 6) → PW 140 282 806 [some (.ref zSC), some (.ref x), some (.ref m), some (.ref o), some (.int (iI n)), b5, b6, b7] [] g Q) : PW 140 282 204 [some (.ref zSC), some (.ref x), some (.ref m), some (.ref o), some (.int (iI n)), a5, a6, a7] [] h Q := by
  obtain ⟨I, e1, e2, e3, e4⟩ := id E
  have kx := I.1.1.N
  have km := I.1.2.1.k
  refine PW.al rfl rfl ?_
  refine PW.sarg (j := 1) (v := S (n + 1)) rfl (by omega) hL e3 (e4 _ (by omega)) ?_
  refine PW.sarg (j := 2) (v := S (n + 2)) rfl (by omega) hL e3 (e4 _ (by omega)) ?_
  refine PW.al rfl rfl ?_
  have ko : zK h o = 15 ∧ o < zN h ∧ zL h o = 1 := ⟨I.1.2.2.2.1, I.1.2.2.2.2.2, I.1.2.2.2.2.1⟩
  obtain ⟨r, hD, hN, hV⟩ := p_mean (hS _) (hS _) hm ho I
  refine PW.ss (a := [.ref x, .int (iI (S (n + 1))), .int (iI (S (n + 2))), .ref o]) (r := []) rfl (le_b rfl) rfl rfl (le_b rfl) (le_b rfl) ?_
  refine PW.kp e1 ?_
  refine t_L_mean ⟨kx, ko⟩ hD (fun er kp => ⟨rfl, ⟨rfl, rfl⟩, ?_⟩) fun v0 er kp => ⟨rfl, ⟨rfl, rfl⟩, ?_⟩
  · show PW 140 282 217 [some (.ref zSC), some (.ref x), some (.ref m), some (.ref o), some (.int (iI n)), a5, a6, a7] [.int (iI 1)] (zThr h) Q
    have n1 : zN (zThr h) ≤ zSC := e1
    have f3 : zL (zThr h) zSC = L := e3
    have f4 : ∀ k, k < L → zI (zThr h) zSC k = iI (S k) := e4
    have k1 : zK (zThr h) = zK h := rfl
    have k2 : zN (zThr h) = zN h := rfl
    refine vs_ok 1 ?_
    rw [show ((gRes 282).drop 217).take 1 = [.istore 5] from rfl]
    simp (disch := omega) only [vs_istore5n, vs_istore5i, vs_istore5r, vs_istore5l, vs_nil, gv_0, gv_1, gv_2, gv_3, pv_0, pv_1, va_rf_s, Nat.reduceDiv, Nat.reduceMod, Nat.reduceAdd, Nat.reduceMul, Int.reduceToNat, true_and, and_true, and_self, cP_eq, cP_ne, cP_lt, cP_ge, cP_gt, cP_le, eL_i, eL_l, eL_r, eL_n, Option.toList_none, Option.toList_some, List.nil_append, List.cons_append, kkI, llI, nnI, rrI, jjI, kkJ, llJ, nnJ, rrJ, iiJ, zIIs, zJJs, nEF, nET, and_false, false_and, jmin, jmax, catS_n, catS_i, catS_r, catS_l, Nat.reduceLeDiff, j1eq1, n21, jt0, jt1, Bool.false_eq_true, Classical.not_not, true_or, or_true, false_or, or_false, true_imp_iff, false_imp_iff, not_true_eq_false, not_false_eq_true, jif0, jif1, jifb, ltT, ltF, leT, leF, eqT, eqF, jlt, jle, jeq, jlt0, jle0, jeq0, jge0, jgt0, jinB, jnat, clt, cle, ceq, cgt, cge, lI_add, lI_sub, lI_mul, jadd, jsub, jmul, jneg, jtol, b010, b011, pv_2t, Int.toNat_natCast, Option.some.injEq, exists_eq_left', if_true, if_false]
    refine PW.al rfl rfl ?_
    refine PW.sarg (j := 1) (v := S (n + 1)) rfl (by omega) hL f3 (f4 _ (by omega)) ?_
    refine PW.sarg (j := 2) (v := S (n + 2)) rfl (by omega) hL f3 (f4 _ (by omega)) ?_
    refine PW.iv rfl rfl rfl km.1 km.2 (le_b rfl) (le_b rfl) ?_
    refine PW.kp n1 ?_
    refine hN er _ fun g2 v2 z2 zk I2 t1 pv kp2 => ⟨rfl, ⟨z2.1, ?_⟩, ?_⟩
    · obtain ⟨v0, rfl⟩ := pv
      rfl
    obtain ⟨v0, rfl⟩ := pv
    show PW 140 282 230 [some (.ref zSC), some (.ref x), some (.ref m), some (.ref o), some (.int (iI n)), some (.int (iI 1)), a6, a7] [.long v0] g2 Q
    refine vs_ok 1 ?_
    rw [show ((gRes 282).drop 230).take 1 = [.lstore 6] from rfl]
    simp (disch := omega) only [vs_lstore6n, vs_lstore6i, vs_lstore6r, vs_lstore6l, vs_nil, gv_0, gv_1, gv_2, gv_3, pv_0, pv_1, va_rf_s, Nat.reduceDiv, Nat.reduceMod, Nat.reduceAdd, Nat.reduceMul, Int.reduceToNat, true_and, and_true, and_self, cP_eq, cP_ne, cP_lt, cP_ge, cP_gt, cP_le, eL_i, eL_l, eL_r, eL_n, Option.toList_none, Option.toList_some, List.nil_append, List.cons_append, kkI, llI, nnI, rrI, jjI, kkJ, llJ, nnJ, rrJ, iiJ, zIIs, zJJs, nEF, nET, and_false, false_and, jmin, jmax, catS_n, catS_i, catS_r, catS_l, Nat.reduceLeDiff, j1eq1, n21, jt0, jt1, Bool.false_eq_true, Classical.not_not, true_or, or_true, false_or, or_false, true_imp_iff, false_imp_iff, not_true_eq_false, not_false_eq_true, jif0, jif1, jifb, ltT, ltF, leT, leF, eqT, eqF, jlt, jle, jeq, jlt0, jle0, jeq0, jge0, jgt0, jinB, jnat, clt, cle, ceq, cgt, cge, lI_add, lI_sub, lI_mul, jadd, jsub, jmul, jneg, jtol, b010, b011, pv_2t, Int.toNat_natCast, Option.some.injEq, exists_eq_left', if_true, if_false]
    have ko2 : zK g2 o = 15 ∧ o < zN g2 ∧ zL g2 o = 1 := ⟨I2.1.2.2.2.1, I2.1.2.2.2.2.2, I2.1.2.2.2.2.1⟩
    have E2 : LE g2 x m o L S (c + 1) (s + 6) := ⟨I2, by rw [z2.1]; exact n1, ⟨by rw [z2.2.1]; show zC h + 1 ≤ c + 1; omega, by rw [z2.2.2]; show zS h + 6 ≤ s + 6; omega⟩, by rw [kp2.2.2.1]; exact f3, fun k hk => by rw [kp2.2.1]; exact f4 k hk⟩
    refine PW.al rfl rfl ?_
    refine PW.iv rfl rfl rfl (by rw [zk]; exact km.1) (by rw [z2.1]; exact km.2) (le_b rfl) (le_b rfl) ?_
    refine t_M_thrown I2.1.2.1 t1 ⟨rfl, ⟨rfl, rfl⟩, ?_⟩
    show PW 140 282 233 [some (.ref zSC), some (.ref x), some (.ref m), some (.ref o), some (.int (iI n)), some (.int (iI 1)), some (.long v0), none] [.int (iI 1)] g2 Q
    refine PW.il rfl rfl ?_
    refine PW.eqI rfl ?_
    show PW 140 282 237 [some (.ref zSC), some (.ref x), some (.ref m), some (.ref o), some (.int (iI n)), some (.int (iI 1)), some (.long v0), none] [] g2 Q
    refine vs_ok 2 ?_
    rw [show ((gRes 282).drop 237).take 2 = [.iload 5, .ifCond .ne 247] from rfl]
    simp (disch := omega) only [vs_ifCond, vs_iload5, vs_nil, gv_0, gv_1, gv_2, gv_3, pv_0, pv_1, va_rf_s, Nat.reduceDiv, Nat.reduceMod, Nat.reduceAdd, Nat.reduceMul, Int.reduceToNat, true_and, and_true, and_self, cP_eq, cP_ne, cP_lt, cP_ge, cP_gt, cP_le, eL_i, eL_l, eL_r, eL_n, Option.toList_none, Option.toList_some, List.nil_append, List.cons_append, kkI, llI, nnI, rrI, jjI, kkJ, llJ, nnJ, rrJ, iiJ, zIIs, zJJs, nEF, nET, and_false, false_and, jmin, jmax, catS_n, catS_i, catS_r, catS_l, Nat.reduceLeDiff, j1eq1, n21, jt0, jt1, Bool.false_eq_true, Classical.not_not, true_or, or_true, false_or, or_false, true_imp_iff, false_imp_iff, not_true_eq_false, not_false_eq_true, jif0, jif1, jifb, ltT, ltF, leT, leF, eqT, eqF, jlt, jle, jeq, jlt0, jle0, jeq0, jge0, jgt0, jinB, jnat, clt, cle, ceq, cgt, cge, lI_add, lI_sub, lI_mul, jadd, jsub, jmul, jneg, jtol, b010, b011, pv_2t, Int.toNat_natCast, Option.some.injEq, exists_eq_left', if_true, if_false]
    refine vs_ok 1 ?_
    rw [show ((gRes 282).drop 247).take 1 = [.goto 806] from rfl]
    simp (disch := omega) only [vs_goto, vs_nil, gv_0, gv_1, gv_2, gv_3, pv_0, pv_1, va_rf_s, Nat.reduceDiv, Nat.reduceMod, Nat.reduceAdd, Nat.reduceMul, Int.reduceToNat, true_and, and_true, and_self, cP_eq, cP_ne, cP_lt, cP_ge, cP_gt, cP_le, eL_i, eL_l, eL_r, eL_n, Option.toList_none, Option.toList_some, List.nil_append, List.cons_append, kkI, llI, nnI, rrI, jjI, kkJ, llJ, nnJ, rrJ, iiJ, zIIs, zJJs, nEF, nET, and_false, false_and, jmin, jmax, catS_n, catS_i, catS_r, catS_l, Nat.reduceLeDiff, j1eq1, n21, jt0, jt1, Bool.false_eq_true, Classical.not_not, true_or, or_true, false_or, or_false, true_imp_iff, false_imp_iff, not_true_eq_false, not_false_eq_true, jif0, jif1, jifb, ltT, ltF, leT, leF, eqT, eqF, jlt, jle, jeq, jlt0, jle0, jeq0, jge0, jgt0, jinB, jnat, clt, cle, ceq, cgt, cge, lI_add, lI_sub, lI_mul, jadd, jsub, jmul, jneg, jtol, b010, b011, pv_2t, Int.toNat_natCast, Option.some.injEq, exists_eq_left', if_true, if_false]
    exact K g2 _ _ _ E2
  · show PW 140 282 217 [some (.ref zSC), some (.ref x), some (.ref m), some (.ref o), some (.int (iI n)), a5, a6, a7] [.int (iI 0)] (zsJ h o 0 v0) Q
    have n1 : zN (zsJ h o 0 v0) ≤ zSC := e1
    have f3 : zL (zsJ h o 0 v0) zSC = L := e3
    have f4 : ∀ k, k < L → zI (zsJ h o 0 v0) zSC k = iI (S k) := e4
    have k1 : zK (zsJ h o 0 v0) = zK h := rfl
    have k2 : zN (zsJ h o 0 v0) = zN h := rfl
    refine vs_ok 1 ?_
    rw [show ((gRes 282).drop 217).take 1 = [.istore 5] from rfl]
    simp (disch := omega) only [vs_istore5n, vs_istore5i, vs_istore5r, vs_istore5l, vs_nil, gv_0, gv_1, gv_2, gv_3, pv_0, pv_1, va_rf_s, Nat.reduceDiv, Nat.reduceMod, Nat.reduceAdd, Nat.reduceMul, Int.reduceToNat, true_and, and_true, and_self, cP_eq, cP_ne, cP_lt, cP_ge, cP_gt, cP_le, eL_i, eL_l, eL_r, eL_n, Option.toList_none, Option.toList_some, List.nil_append, List.cons_append, kkI, llI, nnI, rrI, jjI, kkJ, llJ, nnJ, rrJ, iiJ, zIIs, zJJs, nEF, nET, and_false, false_and, jmin, jmax, catS_n, catS_i, catS_r, catS_l, Nat.reduceLeDiff, j1eq1, n21, jt0, jt1, Bool.false_eq_true, Classical.not_not, true_or, or_true, false_or, or_false, true_imp_iff, false_imp_iff, not_true_eq_false, not_false_eq_true, jif0, jif1, jifb, ltT, ltF, leT, leF, eqT, eqF, jlt, jle, jeq, jlt0, jle0, jeq0, jge0, jgt0, jinB, jnat, clt, cle, ceq, cgt, cge, lI_add, lI_sub, lI_mul, jadd, jsub, jmul, jneg, jtol, b010, b011, pv_2t, Int.toNat_natCast, Option.some.injEq, exists_eq_left', if_true, if_false]
    refine PW.al rfl rfl ?_
    refine PW.sarg (j := 1) (v := S (n + 1)) rfl (by omega) hL f3 (f4 _ (by omega)) ?_
    refine PW.sarg (j := 2) (v := S (n + 2)) rfl (by omega) hL f3 (f4 _ (by omega)) ?_
    refine PW.iv rfl rfl rfl km.1 km.2 (le_b rfl) (le_b rfl) ?_
    refine PW.kp n1 ?_
    refine hV _ er ⟨_, rfl⟩ _ _ fun g2 z2 zk I2 t1 o1 o2 kp2 => ⟨rfl, ⟨z2.1, rfl⟩, ?_⟩
    show PW 140 282 230 [some (.ref zSC), some (.ref x), some (.ref m), some (.ref o), some (.int (iI n)), some (.int (iI 0)), a6, a7] [.long v0] g2 Q
    refine vs_ok 1 ?_
    rw [show ((gRes 282).drop 230).take 1 = [.lstore 6] from rfl]
    simp (disch := omega) only [vs_lstore6n, vs_lstore6i, vs_lstore6r, vs_lstore6l, vs_nil, gv_0, gv_1, gv_2, gv_3, pv_0, pv_1, va_rf_s, Nat.reduceDiv, Nat.reduceMod, Nat.reduceAdd, Nat.reduceMul, Int.reduceToNat, true_and, and_true, and_self, cP_eq, cP_ne, cP_lt, cP_ge, cP_gt, cP_le, eL_i, eL_l, eL_r, eL_n, Option.toList_none, Option.toList_some, List.nil_append, List.cons_append, kkI, llI, nnI, rrI, jjI, kkJ, llJ, nnJ, rrJ, iiJ, zIIs, zJJs, nEF, nET, and_false, false_and, jmin, jmax, catS_n, catS_i, catS_r, catS_l, Nat.reduceLeDiff, j1eq1, n21, jt0, jt1, Bool.false_eq_true, Classical.not_not, true_or, or_true, false_or, or_false, true_imp_iff, false_imp_iff, not_true_eq_false, not_false_eq_true, jif0, jif1, jifb, ltT, ltF, leT, leF, eqT, eqF, jlt, jle, jeq, jlt0, jle0, jeq0, jge0, jgt0, jinB, jnat, clt, cle, ceq, cgt, cge, lI_add, lI_sub, lI_mul, jadd, jsub, jmul, jneg, jtol, b010, b011, pv_2t, Int.toNat_natCast, Option.some.injEq, exists_eq_left', if_true, if_false]
    have ko2 : zK g2 o = 15 ∧ o < zN g2 ∧ zL g2 o = 1 := ⟨I2.1.2.2.2.1, I2.1.2.2.2.2.2, I2.1.2.2.2.2.1⟩
    have E2 : LE g2 x m o L S (c + 1) (s + 6) := ⟨I2, by rw [z2.1]; exact n1, ⟨by rw [z2.2.1]; show zC h ≤ c + 1; omega, by rw [z2.2.2]; show zS h ≤ s + 6; omega⟩, by rw [kp2.2.2.1]; exact f3, fun k hk => by rw [kp2.2.1]; exact f4 k hk⟩
    refine PW.al rfl rfl ?_
    refine PW.iv rfl rfl rfl (by rw [zk]; exact km.1) (by rw [z2.1]; exact km.2) (le_b rfl) (le_b rfl) ?_
    refine t_M_thrown I2.1.2.1 t1 ⟨rfl, ⟨rfl, rfl⟩, ?_⟩
    show PW 140 282 233 [some (.ref zSC), some (.ref x), some (.ref m), some (.ref o), some (.int (iI n)), some (.int (iI 0)), some (.long v0), none] [.int (iI 0)] g2 Q
    refine PW.il rfl rfl ?_
    refine PW.eqI rfl ?_
    show PW 140 282 237 [some (.ref zSC), some (.ref x), some (.ref m), some (.ref o), some (.int (iI n)), some (.int (iI 0)), some (.long v0), none] [] g2 Q
    refine vs_ok 2 ?_
    rw [show ((gRes 282).drop 237).take 2 = [.iload 5, .ifCond .ne 247] from rfl]
    simp (disch := omega) only [vs_ifCond, vs_iload5, vs_nil, gv_0, gv_1, gv_2, gv_3, pv_0, pv_1, va_rf_s, Nat.reduceDiv, Nat.reduceMod, Nat.reduceAdd, Nat.reduceMul, Int.reduceToNat, true_and, and_true, and_self, cP_eq, cP_ne, cP_lt, cP_ge, cP_gt, cP_le, eL_i, eL_l, eL_r, eL_n, Option.toList_none, Option.toList_some, List.nil_append, List.cons_append, kkI, llI, nnI, rrI, jjI, kkJ, llJ, nnJ, rrJ, iiJ, zIIs, zJJs, nEF, nET, and_false, false_and, jmin, jmax, catS_n, catS_i, catS_r, catS_l, Nat.reduceLeDiff, j1eq1, n21, jt0, jt1, Bool.false_eq_true, Classical.not_not, true_or, or_true, false_or, or_false, true_imp_iff, false_imp_iff, not_true_eq_false, not_false_eq_true, jif0, jif1, jifb, ltT, ltF, leT, leF, eqT, eqF, jlt, jle, jeq, jlt0, jle0, jeq0, jge0, jgt0, jinB, jnat, clt, cle, ceq, cgt, cge, lI_add, lI_sub, lI_mul, jadd, jsub, jmul, jneg, jtol, b010, b011, pv_2t, Int.toNat_natCast, Option.some.injEq, exists_eq_left', if_true, if_false]
    refine vs_ok 4 ?_
    rw [show ((gRes 282).drop 239).take 4 = [.aload 3, .iconst 0, .laload, .lload 6] from rfl]
    simp (disch := omega) only [vs_iconst, vs_laload, vs_aload3, vs_lload6, vs_nil, gv_0, gv_1, gv_2, gv_3, pv_0, pv_1, va_rf_s, Nat.reduceDiv, Nat.reduceMod, Nat.reduceAdd, Nat.reduceMul, Int.reduceToNat, true_and, and_true, and_self, cP_eq, cP_ne, cP_lt, cP_ge, cP_gt, cP_le, eL_i, eL_l, eL_r, eL_n, Option.toList_none, Option.toList_some, List.nil_append, List.cons_append, kkI, llI, nnI, rrI, jjI, kkJ, llJ, nnJ, rrJ, iiJ, zIIs, zJJs, nEF, nET, and_false, false_and, jmin, jmax, catS_n, catS_i, catS_r, catS_l, Nat.reduceLeDiff, j1eq1, n21, jt0, jt1, Bool.false_eq_true, Classical.not_not, true_or, or_true, false_or, or_false, true_imp_iff, false_imp_iff, not_true_eq_false, not_false_eq_true, jif0, jif1, jifb, ltT, ltF, leT, leF, eqT, eqF, jlt, jle, jeq, jlt0, jle0, jeq0, jge0, jgt0, jinB, jnat, clt, cle, ceq, cgt, cge, lI_add, lI_sub, lI_mul, jadd, jsub, jmul, jneg, jtol, b010, b011, pv_2t, Int.toNat_natCast, Option.some.injEq, exists_eq_left', if_true, if_false, ko2, o1]
    refine PW.eqL rfl rfl ?_
    show PW 140 282 247 [some (.ref zSC), some (.ref x), some (.ref m), some (.ref o), some (.int (iI n)), some (.int (iI 0)), some (.long v0), none] [] g2 Q
    refine vs_ok 1 ?_
    rw [show ((gRes 282).drop 247).take 1 = [.goto 806] from rfl]
    simp (disch := omega) only [vs_goto, vs_nil, gv_0, gv_1, gv_2, gv_3, pv_0, pv_1, va_rf_s, Nat.reduceDiv, Nat.reduceMod, Nat.reduceAdd, Nat.reduceMul, Int.reduceToNat, true_and, and_true, and_self, cP_eq, cP_ne, cP_lt, cP_ge, cP_gt, cP_le, eL_i, eL_l, eL_r, eL_n, Option.toList_none, Option.toList_some, List.nil_append, List.cons_append, kkI, llI, nnI, rrI, jjI, kkJ, llJ, nnJ, rrJ, iiJ, zIIs, zJJs, nEF, nET, and_false, false_and, jmin, jmax, catS_n, catS_i, catS_r, catS_l, Nat.reduceLeDiff, j1eq1, n21, jt0, jt1, Bool.false_eq_true, Classical.not_not, true_or, or_true, false_or, or_false, true_imp_iff, false_imp_iff, not_true_eq_false, not_false_eq_true, jif0, jif1, jifb, ltT, ltF, leT, leF, eqT, eqF, jlt, jle, jeq, jlt0, jle0, jeq0, jge0, jgt0, jinB, jnat, clt, cle, ceq, cgt, cge, lI_add, lI_sub, lI_mul, jadd, jsub, jmul, jneg, jtol, b010, b011, pv_2t, Int.toNat_natCast, Option.some.injEq, exists_eq_left', if_true, if_false]
    exact K g2 _ _ _ E2
theorem lw_8 (E : LE h x m o L S c s) (hm : m = x + 161) (ho : o = x + 197) (hS : ∀ k, i32 (S k)) (hL : L ≤ 3072) (hn : n + 6 ≤ L) (K : ∀ g b5 b6 b7, LE g x m o L S (c + 1) (s + 6) → PW 140 282 806 [some (.ref zSC), some (.ref x), some (.ref m), some (.ref o), some (.int (iI n)), b5, b6, b7] [] g Q) : PW 140 282 248 [some (.ref zSC), some (.ref x), some (.ref m), some (.ref o), some (.int (iI n)), a5, a6, a7] [] h Q := by
  obtain ⟨I, e1, e2, e3, e4⟩ := id E
  have kx := I.1.1.N
  have km := I.1.2.1.k
  refine PW.al rfl rfl ?_
  refine PW.sarg (j := 1) (v := S (n + 1)) rfl (by omega) hL e3 (e4 _ (by omega)) ?_
  refine PW.sarg (j := 2) (v := S (n + 2)) rfl (by omega) hL e3 (e4 _ (by omega)) ?_
  refine PW.sarg (j := 3) (v := S (n + 3)) rfl (by omega) hL e3 (e4 _ (by omega)) ?_
  refine PW.sarg (j := 4) (v := S (n + 4)) rfl (by omega) hL e3 (e4 _ (by omega)) ?_
  refine PW.iv rfl rfl rfl kx.1 kx.2 (le_b rfl) (le_b rfl) ?_
  refine PW.kp e1 ?_
  refine p_against (hS _) (hS _) (hS _) (hS _) hm I _ fun g1 v pv z zk M kp => ⟨rfl, ⟨z.1, ?_⟩, ?_⟩
  · obtain ⟨v0, rfl⟩ := pv
    rfl
  · obtain ⟨v0, rfl⟩ := pv
    show PW 140 282 270 [some (.ref zSC), some (.ref x), some (.ref m), some (.ref o), some (.int (iI n)), a5, a6, a7] [.long v0] g1 Q
    have n1 : zN g1 ≤ zSC := by rw [z.1]; exact e1
    refine PW.al rfl rfl ?_
    have f3 : zL g1 zSC = L := by rw [kp.2.2.1]; exact e3
    have f4 : ∀ k, k < L → zI g1 zSC k = iI (S k) := fun k hk => by rw [kp.2.1]; exact e4 k hk
    refine PW.sarg (j := 1) (v := S (n + 1)) rfl (by omega) hL f3 (f4 _ (by omega)) ?_
    refine PW.sarg (j := 2) (v := S (n + 2)) rfl (by omega) hL f3 (f4 _ (by omega)) ?_
    refine PW.sarg (j := 3) (v := S (n + 3)) rfl (by omega) hL f3 (f4 _ (by omega)) ?_
    refine PW.sarg (j := 4) (v := S (n + 4)) rfl (by omega) hL f3 (f4 _ (by omega)) ?_
    refine PW.iv rfl rfl rfl (by rw [zk]; exact km.1) (by rw [z.1]; exact km.2) (le_b rfl) (le_b rfl) ?_
    refine PW.kp n1 ?_
    refine M _ fun g2 z2 I2 kp2 => ⟨rfl, ⟨z2.1, rfl⟩, ?_⟩
    show PW 140 282 292 [some (.ref zSC), some (.ref x), some (.ref m), some (.ref o), some (.int (iI n)), a5, a6, a7] [.long v0, .long v0] g2 Q
    refine PW.eqL rfl rfl ?_
    have E2 := E.go (kp.tr kp2) (z.tr z2) I2
    exact K g2 _ _ _ ⟨E2.1, E2.2.1, ⟨by have := E2.2.2.1.1; omega, by have := E2.2.2.1.2; omega⟩, E2.2.2.2⟩
theorem lw_9 (E : LE h x m o L S c s) (hm : m = x + 161) (ho : o = x + 197) (hS : ∀ k, i32 (S k)) (hL : L ≤ 3072) (hn : n + 6 ≤ L) (K : ∀ g b5 b6 b7, LE g x m o L S (c + 1) (s + 6) → PW 140 282 806 [some (.ref zSC), some (.ref x), some (.ref m), some (.ref o), some (.int (iI n)), b5, b6, b7] [] g Q) : PW 140 282 296 [some (.ref zSC), some (.ref x), some (.ref m), some (.ref o), some (.int (iI n)), a5, a6, a7] [] h Q := by
  obtain ⟨I, e1, e2, e3, e4⟩ := id E
  have kx := I.1.1.N
  have km := I.1.2.1.k
  refine PW.al rfl rfl ?_
  refine PW.sarg (j := 1) (v := S (n + 1)) rfl (by omega) hL e3 (e4 _ (by omega)) ?_
  refine PW.sarg (j := 2) (v := S (n + 2)) rfl (by omega) hL e3 (e4 _ (by omega)) ?_
  refine PW.sarg (j := 3) (v := S (n + 3)) rfl (by omega) hL e3 (e4 _ (by omega)) ?_
  refine PW.iv rfl rfl rfl kx.1 kx.2 (le_b rfl) (le_b rfl) ?_
  refine PW.kp e1 ?_
  refine p_beats (hS _) (hS _) (hS _) hm I _ fun g1 v pv z zk M kp => ⟨rfl, ⟨z.1, ?_⟩, ?_⟩
  · obtain ⟨v0, rfl⟩ := pv
    rfl
  · obtain ⟨v0, rfl⟩ := pv
    show PW 140 282 313 [some (.ref zSC), some (.ref x), some (.ref m), some (.ref o), some (.int (iI n)), a5, a6, a7] [.int v0] g1 Q
    have n1 : zN g1 ≤ zSC := by rw [z.1]; exact e1
    refine PW.al rfl rfl ?_
    have f3 : zL g1 zSC = L := by rw [kp.2.2.1]; exact e3
    have f4 : ∀ k, k < L → zI g1 zSC k = iI (S k) := fun k hk => by rw [kp.2.1]; exact e4 k hk
    refine PW.sarg (j := 1) (v := S (n + 1)) rfl (by omega) hL f3 (f4 _ (by omega)) ?_
    refine PW.sarg (j := 2) (v := S (n + 2)) rfl (by omega) hL f3 (f4 _ (by omega)) ?_
    refine PW.sarg (j := 3) (v := S (n + 3)) rfl (by omega) hL f3 (f4 _ (by omega)) ?_
    refine PW.iv rfl rfl rfl (by rw [zk]; exact km.1) (by rw [z.1]; exact km.2) (le_b rfl) (le_b rfl) ?_
    refine PW.kp n1 ?_
    refine M _ fun g2 z2 I2 kp2 => ⟨rfl, ⟨z2.1, rfl⟩, ?_⟩
    show PW 140 282 330 [some (.ref zSC), some (.ref x), some (.ref m), some (.ref o), some (.int (iI n)), a5, a6, a7] [.int v0, .int v0] g2 Q
    refine PW.eqI rfl ?_
    have E2 := E.go (kp.tr kp2) (z.tr z2) I2
    exact K g2 _ _ _ ⟨E2.1, E2.2.1, ⟨by have := E2.2.2.1.1; omega, by have := E2.2.2.1.2; omega⟩, E2.2.2.2⟩
theorem lw_10 (E : LE h x m o L S c s) (hm : m = x + 161) (ho : o = x + 197) (hS : ∀ k, i32 (S k)) (hL : L ≤ 3072) (hn : n + 6 ≤ L) (K : ∀ g b5 b6 b7, LE g x m o L S (c + 1) (s + 6) → PW 140 282 806 [some (.ref zSC), some (.ref x), some (.ref m), some (.ref o), some (.int (iI n)), b5, b6, b7] [] g Q) : PW 140 282 333 [some (.ref zSC), some (.ref x), some (.ref m), some (.ref o), some (.int (iI n)), a5, a6, a7] [] h Q := by
  obtain ⟨I, e1, e2, e3, e4⟩ := id E
  have kx := I.1.1.N
  have km := I.1.2.1.k
  refine PW.al rfl rfl ?_
  refine PW.sarg (j := 1) (v := S (n + 1)) rfl (by omega) hL e3 (e4 _ (by omega)) ?_
  refine PW.iv rfl rfl rfl kx.1 kx.2 (le_b rfl) (le_b rfl) ?_
  refine PW.kp e1 ?_
  refine p_beaten (hS _) hm I _ fun g1 v pv z zk M kp => ⟨rfl, ⟨z.1, ?_⟩, ?_⟩
  · obtain ⟨v0, rfl⟩ := pv
    rfl
  · obtain ⟨v0, rfl⟩ := pv
    show PW 140 282 340 [some (.ref zSC), some (.ref x), some (.ref m), some (.ref o), some (.int (iI n)), a5, a6, a7] [.int v0] g1 Q
    have n1 : zN g1 ≤ zSC := by rw [z.1]; exact e1
    refine PW.al rfl rfl ?_
    have f3 : zL g1 zSC = L := by rw [kp.2.2.1]; exact e3
    have f4 : ∀ k, k < L → zI g1 zSC k = iI (S k) := fun k hk => by rw [kp.2.1]; exact e4 k hk
    refine PW.sarg (j := 1) (v := S (n + 1)) rfl (by omega) hL f3 (f4 _ (by omega)) ?_
    refine PW.iv rfl rfl rfl (by rw [zk]; exact km.1) (by rw [z.1]; exact km.2) (le_b rfl) (le_b rfl) ?_
    refine PW.kp n1 ?_
    refine M _ fun g2 z2 I2 kp2 => ⟨rfl, ⟨z2.1, rfl⟩, ?_⟩
    show PW 140 282 347 [some (.ref zSC), some (.ref x), some (.ref m), some (.ref o), some (.int (iI n)), a5, a6, a7] [.int v0, .int v0] g2 Q
    refine PW.eqI rfl ?_
    have E2 := E.go (kp.tr kp2) (z.tr z2) I2
    exact K g2 _ _ _ ⟨E2.1, E2.2.1, ⟨by have := E2.2.2.1.1; omega, by have := E2.2.2.1.2; omega⟩, E2.2.2.2⟩
theorem lw_11 (E : LE h x m o L S c s) (hm : m = x + 161) (ho : o = x + 197) (hS : ∀ k, i32 (S k)) (hL : L ≤ 3072) (hn : n + 6 ≤ L) (K : ∀ g b5 b6 b7, LE g x m o L S (c + 1) (s + 6) → PW 140 282 806 [some (.ref zSC), some (.ref x), some (.ref m), some (.ref o), some (.int (iI n)), b5, b6, b7] [] g Q) : PW 140 282 350 [some (.ref zSC), some (.ref x), some (.ref m), some (.ref o), some (.int (iI n)), a5, a6, a7] [] h Q := by
  obtain ⟨I, e1, e2, e3, e4⟩ := id E
  have kx := I.1.1.N
  have km := I.1.2.1.k
  refine PW.al rfl rfl ?_
  refine PW.iv rfl rfl rfl kx.1 kx.2 (le_b rfl) (le_b rfl) ?_
  refine PW.kp e1 ?_
  refine p_ring hm I _ fun g1 v pv z zk M kp => ⟨rfl, ⟨z.1, ?_⟩, ?_⟩
  · obtain ⟨v0, rfl⟩ := pv
    rfl
  · obtain ⟨v0, rfl⟩ := pv
    show PW 140 282 352 [some (.ref zSC), some (.ref x), some (.ref m), some (.ref o), some (.int (iI n)), a5, a6, a7] [.int v0] g1 Q
    have n1 : zN g1 ≤ zSC := by rw [z.1]; exact e1
    refine PW.al rfl rfl ?_
    refine PW.iv rfl rfl rfl (by rw [zk]; exact km.1) (by rw [z.1]; exact km.2) (le_b rfl) (le_b rfl) ?_
    refine PW.kp n1 ?_
    refine M _ fun g2 z2 I2 kp2 => ⟨rfl, ⟨z2.1, rfl⟩, ?_⟩
    show PW 140 282 354 [some (.ref zSC), some (.ref x), some (.ref m), some (.ref o), some (.int (iI n)), a5, a6, a7] [.int v0, .int v0] g2 Q
    refine PW.eqI rfl ?_
    have E2 := E.go (kp.tr kp2) (z.tr z2) I2
    exact K g2 _ _ _ ⟨E2.1, E2.2.1, ⟨by have := E2.2.2.1.1; omega, by have := E2.2.2.1.2; omega⟩, E2.2.2.2⟩
theorem lw_12 (E : LE h x m o L S c s) (hm : m = x + 161) (ho : o = x + 197) (hS : ∀ k, i32 (S k)) (hL : L ≤ 3072) (hn : n + 6 ≤ L) (K : ∀ g b5 b6 b7, LE g x m o L S (c + 1) (s + 6) → PW 140 282 806 [some (.ref zSC), some (.ref x), some (.ref m), some (.ref o), some (.int (iI n)), b5, b6, b7] [] g Q) : PW 140 282 357 [some (.ref zSC), some (.ref x), some (.ref m), some (.ref o), some (.int (iI n)), a5, a6, a7] [] h Q := by
  obtain ⟨I, e1, e2, e3, e4⟩ := id E
  have kx := I.1.1.N
  have km := I.1.2.1.k
  refine PW.al rfl rfl ?_
  refine PW.sarg (j := 1) (v := S (n + 1)) rfl (by omega) hL e3 (e4 _ (by omega)) ?_
  refine PW.iv rfl rfl rfl kx.1 kx.2 (le_b rfl) (le_b rfl) ?_
  refine PW.kp e1 ?_
  refine p_ringAt (hS _) hm I _ fun g1 v pv z zk M kp => ⟨rfl, ⟨z.1, ?_⟩, ?_⟩
  · obtain ⟨v0, rfl⟩ := pv
    rfl
  · obtain ⟨v0, rfl⟩ := pv
    show PW 140 282 364 [some (.ref zSC), some (.ref x), some (.ref m), some (.ref o), some (.int (iI n)), a5, a6, a7] [.int v0] g1 Q
    have n1 : zN g1 ≤ zSC := by rw [z.1]; exact e1
    refine PW.al rfl rfl ?_
    have f3 : zL g1 zSC = L := by rw [kp.2.2.1]; exact e3
    have f4 : ∀ k, k < L → zI g1 zSC k = iI (S k) := fun k hk => by rw [kp.2.1]; exact e4 k hk
    refine PW.sarg (j := 1) (v := S (n + 1)) rfl (by omega) hL f3 (f4 _ (by omega)) ?_
    refine PW.iv rfl rfl rfl (by rw [zk]; exact km.1) (by rw [z.1]; exact km.2) (le_b rfl) (le_b rfl) ?_
    refine PW.kp n1 ?_
    refine M _ fun g2 z2 I2 kp2 => ⟨rfl, ⟨z2.1, rfl⟩, ?_⟩
    show PW 140 282 371 [some (.ref zSC), some (.ref x), some (.ref m), some (.ref o), some (.int (iI n)), a5, a6, a7] [.int v0, .int v0] g2 Q
    refine PW.eqI rfl ?_
    have E2 := E.go (kp.tr kp2) (z.tr z2) I2
    exact K g2 _ _ _ ⟨E2.1, E2.2.1, ⟨by have := E2.2.2.1.1; omega, by have := E2.2.2.1.2; omega⟩, E2.2.2.2⟩
theorem lw_13 (E : LE h x m o L S c s) (hm : m = x + 161) (ho : o = x + 197) (hS : ∀ k, i32 (S k)) (hL : L ≤ 3072) (hn : n + 6 ≤ L) (K : ∀ g b5 b6 b7, LE g x m o L S (c + 1) (s + 6) → PW 140 282 806 [some (.ref zSC), some (.ref x), some (.ref m), some (.ref o), some (.int (iI n)), b5, b6, b7] [] g Q) : PW 140 282 374 [some (.ref zSC), some (.ref x), some (.ref m), some (.ref o), some (.int (iI n)), a5, a6, a7] [] h Q := by
  obtain ⟨I, e1, e2, e3, e4⟩ := id E
  have kx := I.1.1.N
  have km := I.1.2.1.k
  refine PW.al rfl rfl ?_
  refine PW.iv rfl rfl rfl kx.1 kx.2 (le_b rfl) (le_b rfl) ?_
  refine PW.kp e1 ?_
  refine p_threes hm I _ fun g1 v pv z zk M kp => ⟨rfl, ⟨z.1, ?_⟩, ?_⟩
  · obtain ⟨v0, rfl⟩ := pv
    rfl
  · obtain ⟨v0, rfl⟩ := pv
    show PW 140 282 376 [some (.ref zSC), some (.ref x), some (.ref m), some (.ref o), some (.int (iI n)), a5, a6, a7] [.int v0] g1 Q
    have n1 : zN g1 ≤ zSC := by rw [z.1]; exact e1
    refine PW.al rfl rfl ?_
    refine PW.iv rfl rfl rfl (by rw [zk]; exact km.1) (by rw [z.1]; exact km.2) (le_b rfl) (le_b rfl) ?_
    refine PW.kp n1 ?_
    refine M _ fun g2 z2 I2 kp2 => ⟨rfl, ⟨z2.1, rfl⟩, ?_⟩
    show PW 140 282 378 [some (.ref zSC), some (.ref x), some (.ref m), some (.ref o), some (.int (iI n)), a5, a6, a7] [.int v0, .int v0] g2 Q
    refine PW.eqI rfl ?_
    have E2 := E.go (kp.tr kp2) (z.tr z2) I2
    exact K g2 _ _ _ ⟨E2.1, E2.2.1, ⟨by have := E2.2.2.1.1; omega, by have := E2.2.2.1.2; omega⟩, E2.2.2.2⟩
theorem lw_14 (E : LE h x m o L S c s) (hm : m = x + 161) (ho : o = x + 197) (hS : ∀ k, i32 (S k)) (hL : L ≤ 3072) (hn : n + 6 ≤ L) (K : ∀ g b5 b6 b7, LE g x m o L S (c + 1) (s + 6) → PW 140 282 806 [some (.ref zSC), some (.ref x), some (.ref m), some (.ref o), some (.int (iI n)), b5, b6, b7] [] g Q) : PW 140 282 381 [some (.ref zSC), some (.ref x), some (.ref m), some (.ref o), some (.int (iI n)), a5, a6, a7] [] h Q := by
  obtain ⟨I, e1, e2, e3, e4⟩ := id E
  have kx := I.1.1.N
  have km := I.1.2.1.k
  refine PW.al rfl rfl ?_
  refine PW.iv rfl rfl rfl kx.1 kx.2 (le_b rfl) (le_b rfl) ?_
  refine PW.kp e1 ?_
  refine p_top hm I _ fun g1 v pv z zk M kp => ⟨rfl, ⟨z.1, ?_⟩, ?_⟩
  · obtain ⟨v0, rfl⟩ := pv
    rfl
  · obtain ⟨v0, rfl⟩ := pv
    show PW 140 282 383 [some (.ref zSC), some (.ref x), some (.ref m), some (.ref o), some (.int (iI n)), a5, a6, a7] [.int v0] g1 Q
    have n1 : zN g1 ≤ zSC := by rw [z.1]; exact e1
    refine PW.al rfl rfl ?_
    refine PW.iv rfl rfl rfl (by rw [zk]; exact km.1) (by rw [z.1]; exact km.2) (le_b rfl) (le_b rfl) ?_
    refine PW.kp n1 ?_
    refine M _ fun g2 z2 I2 kp2 => ⟨rfl, ⟨z2.1, rfl⟩, ?_⟩
    show PW 140 282 385 [some (.ref zSC), some (.ref x), some (.ref m), some (.ref o), some (.int (iI n)), a5, a6, a7] [.int v0, .int v0] g2 Q
    refine PW.eqI rfl ?_
    have E2 := E.go (kp.tr kp2) (z.tr z2) I2
    exact K g2 _ _ _ ⟨E2.1, E2.2.1, ⟨by have := E2.2.2.1.1; omega, by have := E2.2.2.1.2; omega⟩, E2.2.2.2⟩
theorem lw_15 (E : LE h x m o L S c s) (hm : m = x + 161) (ho : o = x + 197) (hS : ∀ k, i32 (S k)) (hL : L ≤ 3072) (hn : n + 6 ≤ L) (K : ∀ g b5 b6 b7, LE g x m o L S (c + 1) (s + 6) → PW 140 282 806 [some (.ref zSC), some (.ref x), some (.ref m), some (.ref o), some (.int (iI n)), b5, b6, b7] [] g Q) : PW 140 282 388 [some (.ref zSC), some (.ref x), some (.ref m), some (.ref o), some (.int (iI n)), a5, a6, a7] [] h Q := by
  obtain ⟨I, e1, e2, e3, e4⟩ := id E
  have kx := I.1.1.N
  have km := I.1.2.1.k
  refine PW.al rfl rfl ?_
  refine PW.iv rfl rfl rfl kx.1 kx.2 (le_b rfl) (le_b rfl) ?_
  refine PW.kp e1 ?_
  refine p_anyTwo hm I _ fun g1 v pv z zk M kp => ⟨rfl, ⟨z.1, ?_⟩, ?_⟩
  · obtain ⟨v0, rfl⟩ := pv
    rfl
  · obtain ⟨v0, rfl⟩ := pv
    show PW 140 282 390 [some (.ref zSC), some (.ref x), some (.ref m), some (.ref o), some (.int (iI n)), a5, a6, a7] [.int v0] g1 Q
    have n1 : zN g1 ≤ zSC := by rw [z.1]; exact e1
    refine PW.al rfl rfl ?_
    refine PW.iv rfl rfl rfl (by rw [zk]; exact km.1) (by rw [z.1]; exact km.2) (le_b rfl) (le_b rfl) ?_
    refine PW.kp n1 ?_
    refine M _ fun g2 z2 I2 kp2 => ⟨rfl, ⟨z2.1, rfl⟩, ?_⟩
    show PW 140 282 392 [some (.ref zSC), some (.ref x), some (.ref m), some (.ref o), some (.int (iI n)), a5, a6, a7] [.int v0, .int v0] g2 Q
    refine PW.eqI rfl ?_
    have E2 := E.go (kp.tr kp2) (z.tr z2) I2
    exact K g2 _ _ _ ⟨E2.1, E2.2.1, ⟨by have := E2.2.2.1.1; omega, by have := E2.2.2.1.2; omega⟩, E2.2.2.2⟩
end LAW
