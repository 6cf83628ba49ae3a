/-! rows counted: place by place, and ORDER by ORDER -/
/-- letters a so far, each with what g tells of those ahead -/
def bb (w : Nat → Nat) (a : Nat) (g : Nat → Nat) (t : Nat) : Nat := smN (fun i => if w i = a then g i else 0) t
abbrev o1 : Nat → Nat := fun _ => 1
theorem bb_s (w : Nat → Nat) (a : Nat) (g : Nat → Nat) (t : Nat) : bb w a g (t + 1) = bb w a g t + if w t = a then g t else 0 := rfl
theorem cn_bb (w : Nat → Nat) (a : Nat) : ∀ t, cnW w a t = bb w a o1 t
  | 0 => rfl
  | t + 1 => by
    show cnW w a t + (if w t = a then 1 else 0) = bb w a o1 t + if w t = a then 1 else 0
    rw [cn_bb w a t]
theorem bb_cg {w : Nat → Nat} {a : Nat} {f g : Nat → Nat} {t : Nat} (h : ∀ i, i < t → f i = g i) : bb w a f t = bb w a g t := smN_cg t fun i hi => by
  rw [h i hi]
theorem bb_add (w : Nat → Nat) (a : Nat) (f g : Nat → Nat) : ∀ t, bb w a (fun i => f i + g i) t = bb w a f t + bb w a g t
  | 0 => rfl
  | t + 1 => by
    rw [bb_s, bb_s, bb_s, bb_add w a f g t]
    split <;> omega
/-- a product of two counts: one of both comes last -/
theorem bb_mul {w : Nat → Nat} {x y : Nat} (h : x ≠ y) (f g : Nat → Nat) : ∀ t, bb w x f t * bb w y g t = bb w x (fun i => f i * bb w y g i) t + bb w y (fun i => bb w x f i * g i) t
  | 0 => rfl
  | t + 1 => by
    have ih := bb_mul (w := w) h f g t
    rw [bb_s, bb_s, bb_s, bb_s]
    by_cases c : w t = x
    · rw [if_pos c, if_neg (by omega), if_pos c, if_neg (by omega), Nat.add_zero, Nat.add_zero, Nat.add_mul, ih]
      omega
    · by_cases c2 : w t = y
      · rw [if_neg c, if_pos c2, if_neg c, if_pos c2, Nat.add_zero, Nat.add_zero, Nat.mul_add, ih]
        omega
      · rw [if_neg c, if_neg c2, if_neg c, if_neg c2, Nat.add_zero, Nat.add_zero, Nat.add_zero, Nat.add_zero, ih]
theorem cn2 {w : Nat → Nat} {x y : Nat} (h : x ≠ y) (t : Nat) : cnW w x t * cnW w y t = bb w x (bb w y o1) t + bb w y (bb w x o1) t := by
  rw [cn_bb, cn_bb, bb_mul h]
  have e1 : bb w x (fun i => o1 i * bb w y o1 i) t = bb w x (bb w y o1) t := bb_cg fun i _ => Nat.one_mul _
  have e2 : bb w y (fun i => bb w x o1 i * o1 i) t = bb w y (bb w x o1) t := bb_cg fun i _ => Nat.mul_one _
  rw [e1, e2]
theorem cn3 {w : Nat → Nat} {x y z : Nat} (h1 : x ≠ y) (h2 : x ≠ z) (h3 : y ≠ z) (t : Nat) : cnW w x t * cnW w y t * cnW w z t = bb w x (bb w y (bb w z o1)) t + bb w x (bb w z (bb w y o1)) t + bb w y (bb w x (bb w z o1)) t + bb w y (bb w z (bb w x o1)) t + bb w z (bb w x (bb w y o1)) t + bb w z (bb w y (bb w x o1)) t := by
  rw [cn2 h1, cn_bb w z, Nat.add_mul, bb_mul h2, bb_mul h3]
  have e1 : bb w x (fun i => bb w y o1 i * bb w z o1 i) t = bb w x (bb w y (bb w z o1)) t + bb w x (bb w z (bb w y o1)) t := by
    rw [← bb_add]
    refine bb_cg fun i _ => ?_
    rw [← cn_bb, ← cn_bb, cn2 h3]
  have e2 : bb w y (fun i => bb w x o1 i * bb w z o1 i) t = bb w y (bb w x (bb w z o1)) t + bb w y (bb w z (bb w x o1)) t := by
    rw [← bb_add]
    refine bb_cg fun i _ => ?_
    rw [← cn_bb, ← cn_bb, cn2 h2]
  have e3 : bb w z (fun i => bb w x (bb w y o1) i * o1 i) t = bb w z (bb w x (bb w y o1)) t := bb_cg fun i _ => Nat.mul_one _
  have e4 : bb w z (fun i => bb w y (bb w x o1) i * o1 i) t = bb w z (bb w y (bb w x o1)) t := bb_cg fun i _ => Nat.mul_one _
  rw [e1, e2, e3, e4]
  omega
abbrev ab (w : Nat → Nat) (x t i : Nat) : Nat := cnW w x t - cnW w x (i + 1)
theorem ab_s {w : Nat → Nat} {x t i : Nat} (hi : i < t) : ab w x (t + 1) i = ab w x t i + if w t = x then 1 else 0 := by
  have := cnW_mono w x (show i + 1 ≤ t by omega)
  show cnW w x t + (if w t = x then 1 else 0) - cnW w x (i + 1) = cnW w x t - cnW w x (i + 1) + if w t = x then 1 else 0
  omega
theorem ab_e {w : Nat → Nat} {x t : Nat} : ab w x (t + 1) t = 0 := Nat.sub_self _
def fE (w : Nat → Nat) (d : Nat) (f : Nat → Nat → Nat) (t : Nat) : Nat := smN (fun i => if w i = d then f t i else 0) t
theorem fE_s {w : Nat → Nat} {d : Nat} {f : Nat → Nat → Nat} {t : Nat} (h : f (t + 1) t = 0) : fE w d f (t + 1) = smN (fun i => if w i = d then f (t + 1) i else 0) t := by
  show smN (fun i => if w i = d then f (t + 1) i else 0) t + (if w t = d then f (t + 1) t else 0) = _
  rw [h]
  split <;> rfl
theorem smN_ad {f g : Nat → Nat} : ∀ n, smN (fun i => f i + g i) n = smN f n + smN g n
  | 0 => rfl
  | n + 1 => by
    show smN (fun i => f i + g i) n + (f n + g n) = smN f n + f n + (smN g n + g n)
    rw [smN_ad n]
    omega
theorem fE_ad {w : Nat → Nat} {d : Nat} {f g e : Nat → Nat} {t : Nat} (h : ∀ i, i < t → e i = f i + g i) : smN (fun i => if w i = d then e i else 0) t = smN (fun i => if w i = d then f i else 0) t + smN (fun i => if w i = d then g i else 0) t := by
  rw [← smN_ad]
  refine smN_cg t fun i hi => ?_
  rw [h i hi]
  split <;> omega
theorem fE1 {w : Nat → Nat} {d x : Nat} (g : Nat → Nat) : ∀ t, fE w d (fun t i => g i * ab w x t i) t = bb w x (bb w d g) t
  | 0 => rfl
  | t + 1 => by
    rw [fE_s (by rw [ab_e, Nat.mul_zero]), bb_s, ← fE1 g t]
    by_cases c : w t = x
    · rw [if_pos c]
      exact fE_ad fun i hi => by rw [ab_s hi, if_pos c, Nat.mul_add, Nat.mul_one]
    · rw [if_neg c]
      exact smN_cg t fun i hi => by
        rw [ab_s hi, if_neg c]
        rfl
theorem fE2 {w : Nat → Nat} {d x y : Nat} (h : x ≠ y) (g : Nat → Nat) : ∀ t, fE w d (fun t i => g i * (ab w x t i * ab w y t i)) t = bb w x (bb w y (bb w d g)) t + bb w y (bb w x (bb w d g)) t
  | 0 => rfl
  | t + 1 => by
    have ih := fE2 (w := w) (d := d) h g t
    rw [fE_s (by rw [ab_e, Nat.zero_mul, Nat.mul_zero]), bb_s, bb_s]
    change smN (fun i => if w i = d then g i * (ab w x t i * ab w y t i) else 0) t = _ at ih
    by_cases c : w t = x
    · have c2 : ¬ w t = y := fun z => h (c.symm.trans z)
      have e : smN (fun i => if w i = d then g i * ab w y t i else 0) t = bb w y (bb w d g) t := fE1 g t
      have a : smN (fun i => if w i = d then g i * (ab w x (t + 1) i * ab w y (t + 1) i) else 0) t = _ := fE_ad (f := fun i => g i * (ab w x t i * ab w y t i)) (g := fun i => g i * ab w y t i) fun i hi => by
        rw [ab_s hi, ab_s hi, if_pos c, if_neg c2]
        simp only [Nat.add_zero, Nat.add_mul, Nat.mul_add, Nat.one_mul, Nat.mul_one]
      rw [a, ih, e, if_pos c, if_neg c2]
      omega
    · by_cases c2 : w t = y
      · have e : smN (fun i => if w i = d then g i * ab w x t i else 0) t = bb w x (bb w d g) t := fE1 g t
        have a : smN (fun i => if w i = d then g i * (ab w x (t + 1) i * ab w y (t + 1) i) else 0) t = _ := fE_ad (f := fun i => g i * (ab w x t i * ab w y t i)) (g := fun i => g i * ab w x t i) fun i hi => by
          rw [ab_s hi, ab_s hi, if_neg c, if_pos c2]
          simp only [Nat.add_zero, Nat.add_mul, Nat.mul_add, Nat.one_mul, Nat.mul_one]
        rw [a, ih, e, if_neg c, if_pos c2]
        omega
      · rw [if_neg c, if_neg c2]
        have a : smN (fun i => if w i = d then g i * (ab w x (t + 1) i * ab w y (t + 1) i) else 0) t = smN (fun i => if w i = d then g i * (ab w x t i * ab w y t i) else 0) t := smN_cg t fun i hi => by
          rw [ab_s hi, ab_s hi, if_neg c, if_neg c2]
          rfl
        rw [a, ih]
        rfl
theorem fE3 {w : Nat → Nat} {d x y z : Nat} (h1 : x ≠ y) (h2 : x ≠ z) (h3 : y ≠ z) (g : Nat → Nat) : ∀ t, fE w d (fun t i => g i * (ab w x t i * ab w y t i * ab w z t i)) t = bb w x (bb w y (bb w z (bb w d g))) t + bb w x (bb w z (bb w y (bb w d g))) t + bb w y (bb w x (bb w z (bb w d g))) t + bb w y (bb w z (bb w x (bb w d g))) t + bb w z (bb w x (bb w y (bb w d g))) t + bb w z (bb w y (bb w x (bb w d g))) t
  | 0 => rfl
  | t + 1 => by
    have ih := fE3 (w := w) (d := d) h1 h2 h3 g t
    rw [fE_s (by rw [ab_e, Nat.zero_mul, Nat.zero_mul, Nat.mul_zero]), bb_s, bb_s, bb_s, bb_s, bb_s, bb_s]
    change smN (fun i => if w i = d then g i * (ab w x t i * ab w y t i * ab w z t i) else 0) t = _ at ih
    by_cases c : w t = x
    · have c2 : ¬ w t = y := fun z => h1 (c.symm.trans z)
      have c3 : ¬ w t = z := fun z => h2 (c.symm.trans z)
      have e : smN (fun i => if w i = d then g i * (ab w y t i * ab w z t i) else 0) t = _ := fE2 (w := w) (d := d) h3 g t
      have a : smN (fun i => if w i = d then g i * (ab w x (t + 1) i * ab w y (t + 1) i * ab w z (t + 1) i) else 0) t = _ := fE_ad (f := fun i => g i * (ab w x t i * ab w y t i * ab w z t i)) (g := fun i => g i * (ab w y t i * ab w z t i)) fun i hi => by
        rw [ab_s hi, ab_s hi, ab_s hi, if_pos c, if_neg c2, if_neg c3]
        simp only [Nat.add_zero, Nat.add_mul, Nat.mul_add, Nat.one_mul, Nat.mul_one]
      rw [a, ih, e, if_pos c, if_pos c, if_neg c2, if_neg c2, if_neg c3, if_neg c3]
      omega
    · by_cases c2 : w t = y
      · have c3 : ¬ w t = z := fun z => h3 (c2.symm.trans z)
        have e : smN (fun i => if w i = d then g i * (ab w x t i * ab w z t i) else 0) t = _ := fE2 (w := w) (d := d) h2 g t
        have a : smN (fun i => if w i = d then g i * (ab w x (t + 1) i * ab w y (t + 1) i * ab w z (t + 1) i) else 0) t = _ := fE_ad (f := fun i => g i * (ab w x t i * ab w y t i * ab w z t i)) (g := fun i => g i * (ab w x t i * ab w z t i)) fun i hi => by
          rw [ab_s hi, ab_s hi, ab_s hi, if_neg c, if_pos c2, if_neg c3]
          simp only [Nat.add_zero, Nat.add_mul, Nat.mul_add, Nat.one_mul, Nat.mul_one]
        rw [a, ih, e, if_neg c, if_neg c, if_pos c2, if_pos c2, if_neg c3, if_neg c3]
        omega
      · by_cases c3 : w t = z
        · have e : smN (fun i => if w i = d then g i * (ab w x t i * ab w y t i) else 0) t = _ := fE2 (w := w) (d := d) h1 g t
          have a : smN (fun i => if w i = d then g i * (ab w x (t + 1) i * ab w y (t + 1) i * ab w z (t + 1) i) else 0) t = _ := fE_ad (f := fun i => g i * (ab w x t i * ab w y t i * ab w z t i)) (g := fun i => g i * (ab w x t i * ab w y t i)) fun i hi => by
            rw [ab_s hi, ab_s hi, ab_s hi, if_neg c, if_neg c2, if_pos c3]
            simp only [Nat.add_zero, Nat.add_mul, Nat.mul_add, Nat.one_mul, Nat.mul_one]
          rw [a, ih, e, if_neg c, if_neg c, if_neg c2, if_neg c2, if_pos c3, if_pos c3]
          omega
        · have a : smN (fun i => if w i = d then g i * (ab w x (t + 1) i * ab w y (t + 1) i * ab w z (t + 1) i) else 0) t = smN (fun i => if w i = d then g i * (ab w x t i * ab w y t i * ab w z t i) else 0) t := smN_cg t fun i hi => by
            rw [ab_s hi, ab_s hi, ab_s hi, if_neg c, if_neg c2, if_neg c3]
            rfl
          rw [a, ih, if_neg c, if_neg c, if_neg c2, if_neg c2, if_neg c3, if_neg c3]
          rfl
/-- a sum over those that are told, as a list -/
def sL (f : Nat → Nat) : List Nat → Nat
  | [] => 0
  | a :: l => f a + sL f l
theorem sL_app (f : Nat → Nat) : ∀ l m : List Nat, sL f (l ++ m) = sL f l + sL f m
  | [], m => (Nat.zero_add _).symm
  | a :: l, m => by
    show f a + sL f (l ++ m) = f a + sL f l + sL f m
    rw [sL_app f l m]
    omega
def flL (P : Nat → Bool) : Nat → List Nat
  | 0 => []
  | n + 1 => flL P n ++ if P n = true then [n] else []
theorem sm_sL (P : Nat → Bool) (f : Nat → Nat) : ∀ n, smN (fun i => if P i = true then f i else 0) n = sL f (flL P n)
  | 0 => rfl
  | n + 1 => by
    show smN (fun i => if P i = true then f i else 0) n + (if P n = true then f n else 0) = sL f (flL P n ++ if P n = true then [n] else [])
    rw [sL_app, sm_sL P f n]
    by_cases c : P n = true
    · rw [if_pos c, if_pos c]; rfl
    · rw [if_neg c, if_neg c]; rfl
theorem sm_sL' {Q : Nat → Prop} [DecidablePred Q] (P : Nat → Bool) (f : Nat → Nat) (n : Nat) (h : ∀ i, Q i ↔ P i = true) : smN (fun i => if Q i then f i else 0) n = sL f (flL P n) := by
  rw [← sm_sL]
  refine smN_cg n fun i _ => ?_
  by_cases c : Q i
  · rw [if_pos c, if_pos ((h i).mp c)]
  · rw [if_neg c, if_neg fun z => c ((h i).mpr z)]
/-- the letters ahead of and behind letter i, for one set -/
def mS (w : Nat → Nat) (L n d s : Nat) : Nat := smN (fun i => if w i = d then pdW w L i d s n else 0) L
theorem pl_mS (w : Nat → Nat) (L n d e : Nat) : plM w L n d e = sL (mS w L n d) (flL (fun s => decide (s.testBit d = false ∧ pcN s 12 = e)) (2 ^ n)) := by
  have a : ∀ (l : List Nat) (L' : Nat), smN (fun i => if w i = d then sL (fun s => pdW w L i d s n) l else 0) L' = sL (fun s => smN (fun i => if w i = d then pdW w L i d s n else 0) L') l := fun l => by
    induction l with
    | nil =>
      intro L'
      exact smN_zero L' fun i _ => by
        split <;> rfl
    | cons s l ih =>
      intro L'
      show _ = smN (fun i => if w i = d then pdW w L i d s n else 0) L' + _
      rw [← ih L', ← smN_ad]
      refine smN_cg L' fun i _ => ?_
      split <;> rfl
  have b := a (flL (fun s => decide (s.testBit d = false ∧ pcN s 12 = e)) (2 ^ n)) L
  show smN (plI w L d e n) L = sL (fun s => smN (fun i => if w i = d then pdW w L i d s n else 0) L) _
  rw [← b]
  refine smN_cg L fun i _ => ?_
  show (if w i = d then smN (plS w L d e n i) (2 ^ n) else 0) = _
  have c : smN (plS w L d e n i) (2 ^ n) = sL (fun s => pdW w L i d s n) (flL (fun s => decide (s.testBit d = false ∧ pcN s 12 = e)) (2 ^ n)) := sm_sL' _ _ _ fun s => (decide_eq_true_iff).symm
  rw [c]
theorem mS_f {w : Nat → Nat} {L n d s : Nat} (f : Nat → Nat → Nat) (h : ∀ i, pdW w L i d s n = f L i) : mS w L n d s = fE w d f L := smN_cg L fun i _ => by
  rw [h i]
theorem bb_ad3 (w : Nat → Nat) (a : Nat) (f g e : Nat → Nat) (t : Nat) (h : ∀ i, e i = f i + g i) : bb w a e t = bb w a f t + bb w a g t := by
  rw [← bb_add]
  exact bb_cg fun i _ => h i
theorem bb_f {w : Nat → Nat} {a : Nat} {e : Nat → Nat} {f : Nat → Nat} (h : ∀ i, e i = f i) (t : Nat) : bb w a e t = bb w a f t := bb_cg fun i _ => h i
theorem mS_2_0_0 (w : Nat → Nat) (L : Nat) : mS w L 2 0 0 = bb w 1 (bb w 0 o1) L := by
  rw [mS_f (fun t i => (1) * ab w 1 t i) fun i => by
    show (1 * (1)) * (ab w 1 L i) = _
    simp only [Nat.one_mul, Nat.mul_one, Nat.mul_assoc, Nat.mul_comm, Nat.mul_left_comm]]
  rw [fE1 (fun i => 1)]
theorem mS_2_0_2 (w : Nat → Nat) (L : Nat) : mS w L 2 0 2 = bb w 0 (bb w 1 o1) L := by
  rw [mS_f (fun _ i => cnW w 1 i) fun i => by
    show (1 * (1)) * (cnW w 1 i) = _
    simp only [Nat.one_mul, Nat.mul_one, Nat.mul_assoc, Nat.mul_comm, Nat.mul_left_comm]]
  show bb w 0 (fun i => cnW w 1 i) L = _
  have e : bb w 0 (fun i => cnW w 1 i) = bb w 0 (bb w 1 o1) := funext fun t => bb_f (fun i => cn_bb w 1 i) t
  rw [e]
theorem mS_2_1_0 (w : Nat → Nat) (L : Nat) : mS w L 2 1 0 = bb w 0 (bb w 1 o1) L := by
  rw [mS_f (fun t i => (1) * ab w 0 t i) fun i => by
    show (1 * (ab w 0 L i)) * (1) = _
    simp only [Nat.one_mul, Nat.mul_one, Nat.mul_assoc, Nat.mul_comm, Nat.mul_left_comm]]
  rw [fE1 (fun i => 1)]
theorem mS_2_1_1 (w : Nat → Nat) (L : Nat) : mS w L 2 1 1 = bb w 1 (bb w 0 o1) L := by
  rw [mS_f (fun _ i => cnW w 0 i) fun i => by
    show (1 * (cnW w 0 i)) * (1) = _
    simp only [Nat.one_mul, Nat.mul_one, Nat.mul_assoc, Nat.mul_comm, Nat.mul_left_comm]]
  show bb w 1 (fun i => cnW w 0 i) L = _
  have e : bb w 1 (fun i => cnW w 0 i) = bb w 1 (bb w 0 o1) := funext fun t => bb_f (fun i => cn_bb w 0 i) t
  rw [e]
theorem mS_3_0_0 (w : Nat → Nat) (L : Nat) : mS w L 3 0 0 = bb w 2 (bb w 1 (bb w 0 o1)) L + bb w 1 (bb w 2 (bb w 0 o1)) L := by
  rw [mS_f (fun t i => (1) * (ab w 1 t i * ab w 2 t i)) fun i => by
    show ((1 * (1)) * (ab w 1 L i)) * (ab w 2 L i) = _
    simp only [Nat.one_mul, Nat.mul_one, Nat.mul_assoc, Nat.mul_comm, Nat.mul_left_comm]]
  rw [fE2 (by decide) (fun i => 1)]
  have e : bb w 0 (fun i => 1) = bb w 0 o1 := rfl
  rw [e]
  try omega
theorem mS_3_0_2 (w : Nat → Nat) (L : Nat) : mS w L 3 0 2 = bb w 2 (bb w 0 (bb w 1 o1)) L := by
  rw [mS_f (fun t i => (cnW w 1 i) * ab w 2 t i) fun i => by
    show ((1 * (1)) * (cnW w 1 i)) * (ab w 2 L i) = _
    simp only [Nat.one_mul, Nat.mul_one, Nat.mul_assoc, Nat.mul_comm, Nat.mul_left_comm]]
  rw [fE1 (fun i => cnW w 1 i)]
  have e : bb w 0 (fun i => cnW w 1 i) = bb w 0 (bb w 1 o1) := funext fun t => bb_f (fun i => cn_bb w 1 i) t
  rw [e]
theorem mS_3_0_4 (w : Nat → Nat) (L : Nat) : mS w L 3 0 4 = bb w 1 (bb w 0 (bb w 2 o1)) L := by
  rw [mS_f (fun t i => (cnW w 2 i) * ab w 1 t i) fun i => by
    show ((1 * (1)) * (ab w 1 L i)) * (cnW w 2 i) = _
    simp only [Nat.one_mul, Nat.mul_one, Nat.mul_assoc, Nat.mul_comm, Nat.mul_left_comm]]
  rw [fE1 (fun i => cnW w 2 i)]
  have e : bb w 0 (fun i => cnW w 2 i) = bb w 0 (bb w 2 o1) := funext fun t => bb_f (fun i => cn_bb w 2 i) t
  rw [e]
theorem mS_3_0_6 (w : Nat → Nat) (L : Nat) : mS w L 3 0 6 = bb w 0 (bb w 2 (bb w 1 o1)) L + bb w 0 (bb w 1 (bb w 2 o1)) L := by
  rw [mS_f (fun _ i => cnW w 1 i * cnW w 2 i) fun i => by
    show ((1 * (1)) * (cnW w 1 i)) * (cnW w 2 i) = _
    simp only [Nat.one_mul, Nat.mul_one, Nat.mul_assoc, Nat.mul_comm, Nat.mul_left_comm]]
  show bb w 0 (fun i => cnW w 1 i * cnW w 2 i) L = _
  have e : bb w 0 (fun i => cnW w 1 i * cnW w 2 i) = fun t => bb w 0 (bb w 1 (bb w 2 o1)) t + bb w 0 (bb w 2 (bb w 1 o1)) t := funext fun t => bb_ad3 w 0 _ _ _ t fun i => cn2 (by decide) i
  rw [e]
  dsimp only
  try omega
theorem mS_3_1_0 (w : Nat → Nat) (L : Nat) : mS w L 3 1 0 = bb w 2 (bb w 0 (bb w 1 o1)) L + bb w 0 (bb w 2 (bb w 1 o1)) L := by
  rw [mS_f (fun t i => (1) * (ab w 0 t i * ab w 2 t i)) fun i => by
    show ((1 * (ab w 0 L i)) * (1)) * (ab w 2 L i) = _
    simp only [Nat.one_mul, Nat.mul_one, Nat.mul_assoc, Nat.mul_comm, Nat.mul_left_comm]]
  rw [fE2 (by decide) (fun i => 1)]
  have e : bb w 1 (fun i => 1) = bb w 1 o1 := rfl
  rw [e]
  try omega
theorem mS_3_1_1 (w : Nat → Nat) (L : Nat) : mS w L 3 1 1 = bb w 2 (bb w 1 (bb w 0 o1)) L := by
  rw [mS_f (fun t i => (cnW w 0 i) * ab w 2 t i) fun i => by
    show ((1 * (cnW w 0 i)) * (1)) * (ab w 2 L i) = _
    simp only [Nat.one_mul, Nat.mul_one, Nat.mul_assoc, Nat.mul_comm, Nat.mul_left_comm]]
  rw [fE1 (fun i => cnW w 0 i)]
  have e : bb w 1 (fun i => cnW w 0 i) = bb w 1 (bb w 0 o1) := funext fun t => bb_f (fun i => cn_bb w 0 i) t
  rw [e]
theorem mS_3_1_4 (w : Nat → Nat) (L : Nat) : mS w L 3 1 4 = bb w 0 (bb w 1 (bb w 2 o1)) L := by
  rw [mS_f (fun t i => (cnW w 2 i) * ab w 0 t i) fun i => by
    show ((1 * (ab w 0 L i)) * (1)) * (cnW w 2 i) = _
    simp only [Nat.one_mul, Nat.mul_one, Nat.mul_assoc, Nat.mul_comm, Nat.mul_left_comm]]
  rw [fE1 (fun i => cnW w 2 i)]
  have e : bb w 1 (fun i => cnW w 2 i) = bb w 1 (bb w 2 o1) := funext fun t => bb_f (fun i => cn_bb w 2 i) t
  rw [e]
theorem mS_3_1_5 (w : Nat → Nat) (L : Nat) : mS w L 3 1 5 = bb w 1 (bb w 2 (bb w 0 o1)) L + bb w 1 (bb w 0 (bb w 2 o1)) L := by
  rw [mS_f (fun _ i => cnW w 0 i * cnW w 2 i) fun i => by
    show ((1 * (cnW w 0 i)) * (1)) * (cnW w 2 i) = _
    simp only [Nat.one_mul, Nat.mul_one, Nat.mul_assoc, Nat.mul_comm, Nat.mul_left_comm]]
  show bb w 1 (fun i => cnW w 0 i * cnW w 2 i) L = _
  have e : bb w 1 (fun i => cnW w 0 i * cnW w 2 i) = fun t => bb w 1 (bb w 0 (bb w 2 o1)) t + bb w 1 (bb w 2 (bb w 0 o1)) t := funext fun t => bb_ad3 w 1 _ _ _ t fun i => cn2 (by decide) i
  rw [e]
  dsimp only
  try omega
theorem mS_3_2_0 (w : Nat → Nat) (L : Nat) : mS w L 3 2 0 = bb w 1 (bb w 0 (bb w 2 o1)) L + bb w 0 (bb w 1 (bb w 2 o1)) L := by
  rw [mS_f (fun t i => (1) * (ab w 0 t i * ab w 1 t i)) fun i => by
    show ((1 * (ab w 0 L i)) * (ab w 1 L i)) * (1) = _
    simp only [Nat.one_mul, Nat.mul_one, Nat.mul_assoc, Nat.mul_comm, Nat.mul_left_comm]]
  rw [fE2 (by decide) (fun i => 1)]
  have e : bb w 2 (fun i => 1) = bb w 2 o1 := rfl
  rw [e]
  try omega
theorem mS_3_2_1 (w : Nat → Nat) (L : Nat) : mS w L 3 2 1 = bb w 1 (bb w 2 (bb w 0 o1)) L := by
  rw [mS_f (fun t i => (cnW w 0 i) * ab w 1 t i) fun i => by
    show ((1 * (cnW w 0 i)) * (ab w 1 L i)) * (1) = _
    simp only [Nat.one_mul, Nat.mul_one, Nat.mul_assoc, Nat.mul_comm, Nat.mul_left_comm]]
  rw [fE1 (fun i => cnW w 0 i)]
  have e : bb w 2 (fun i => cnW w 0 i) = bb w 2 (bb w 0 o1) := funext fun t => bb_f (fun i => cn_bb w 0 i) t
  rw [e]
theorem mS_3_2_2 (w : Nat → Nat) (L : Nat) : mS w L 3 2 2 = bb w 0 (bb w 2 (bb w 1 o1)) L := by
  rw [mS_f (fun t i => (cnW w 1 i) * ab w 0 t i) fun i => by
    show ((1 * (ab w 0 L i)) * (cnW w 1 i)) * (1) = _
    simp only [Nat.one_mul, Nat.mul_one, Nat.mul_assoc, Nat.mul_comm, Nat.mul_left_comm]]
  rw [fE1 (fun i => cnW w 1 i)]
  have e : bb w 2 (fun i => cnW w 1 i) = bb w 2 (bb w 1 o1) := funext fun t => bb_f (fun i => cn_bb w 1 i) t
  rw [e]
theorem mS_3_2_3 (w : Nat → Nat) (L : Nat) : mS w L 3 2 3 = bb w 2 (bb w 1 (bb w 0 o1)) L + bb w 2 (bb w 0 (bb w 1 o1)) L := by
  rw [mS_f (fun _ i => cnW w 0 i * cnW w 1 i) fun i => by
    show ((1 * (cnW w 0 i)) * (cnW w 1 i)) * (1) = _
    simp only [Nat.one_mul, Nat.mul_one, Nat.mul_assoc, Nat.mul_comm, Nat.mul_left_comm]]
  show bb w 2 (fun i => cnW w 0 i * cnW w 1 i) L = _
  have e : bb w 2 (fun i => cnW w 0 i * cnW w 1 i) = fun t => bb w 2 (bb w 0 (bb w 1 o1)) t + bb w 2 (bb w 1 (bb w 0 o1)) t := funext fun t => bb_ad3 w 2 _ _ _ t fun i => cn2 (by decide) i
  rw [e]
  dsimp only
  try omega
theorem mS_4_0_0 (w : Nat → Nat) (L : Nat) : mS w L 4 0 0 = bb w 3 (bb w 2 (bb w 1 (bb w 0 o1))) L + bb w 2 (bb w 3 (bb w 1 (bb w 0 o1))) L + bb w 3 (bb w 1 (bb w 2 (bb w 0 o1))) L + bb w 1 (bb w 3 (bb w 2 (bb w 0 o1))) L + bb w 2 (bb w 1 (bb w 3 (bb w 0 o1))) L + bb w 1 (bb w 2 (bb w 3 (bb w 0 o1))) L := by
  rw [mS_f (fun t i => (1) * (ab w 1 t i * ab w 2 t i * ab w 3 t i)) fun i => by
    show (((1 * (1)) * (ab w 1 L i)) * (ab w 2 L i)) * (ab w 3 L i) = _
    simp only [Nat.one_mul, Nat.mul_one, Nat.mul_assoc, Nat.mul_comm, Nat.mul_left_comm]]
  rw [fE3 (by decide) (by decide) (by decide) (fun i => 1)]
  have e : bb w 0 (fun i => 1) = bb w 0 o1 := rfl
  rw [e]
  try omega
theorem mS_4_0_2 (w : Nat → Nat) (L : Nat) : mS w L 4 0 2 = bb w 3 (bb w 2 (bb w 0 (bb w 1 o1))) L + bb w 2 (bb w 3 (bb w 0 (bb w 1 o1))) L := by
  rw [mS_f (fun t i => (cnW w 1 i) * (ab w 2 t i * ab w 3 t i)) fun i => by
    show (((1 * (1)) * (cnW w 1 i)) * (ab w 2 L i)) * (ab w 3 L i) = _
    simp only [Nat.one_mul, Nat.mul_one, Nat.mul_assoc, Nat.mul_comm, Nat.mul_left_comm]]
  rw [fE2 (by decide) (fun i => cnW w 1 i)]
  have e : bb w 0 (fun i => cnW w 1 i) = bb w 0 (bb w 1 o1) := funext fun t => bb_f (fun i => cn_bb w 1 i) t
  rw [e]
  try omega
theorem mS_4_0_4 (w : Nat → Nat) (L : Nat) : mS w L 4 0 4 = bb w 3 (bb w 1 (bb w 0 (bb w 2 o1))) L + bb w 1 (bb w 3 (bb w 0 (bb w 2 o1))) L := by
  rw [mS_f (fun t i => (cnW w 2 i) * (ab w 1 t i * ab w 3 t i)) fun i => by
    show (((1 * (1)) * (ab w 1 L i)) * (cnW w 2 i)) * (ab w 3 L i) = _
    simp only [Nat.one_mul, Nat.mul_one, Nat.mul_assoc, Nat.mul_comm, Nat.mul_left_comm]]
  rw [fE2 (by decide) (fun i => cnW w 2 i)]
  have e : bb w 0 (fun i => cnW w 2 i) = bb w 0 (bb w 2 o1) := funext fun t => bb_f (fun i => cn_bb w 2 i) t
  rw [e]
  try omega
theorem mS_4_0_6 (w : Nat → Nat) (L : Nat) : mS w L 4 0 6 = bb w 3 (bb w 0 (bb w 2 (bb w 1 o1))) L + bb w 3 (bb w 0 (bb w 1 (bb w 2 o1))) L := by
  rw [mS_f (fun t i => (cnW w 1 i * cnW w 2 i) * ab w 3 t i) fun i => by
    show (((1 * (1)) * (cnW w 1 i)) * (cnW w 2 i)) * (ab w 3 L i) = _
    simp only [Nat.one_mul, Nat.mul_one, Nat.mul_assoc, Nat.mul_comm, Nat.mul_left_comm]]
  rw [fE1 (fun i => cnW w 1 i * cnW w 2 i)]
  have e : bb w 0 (fun i => cnW w 1 i * cnW w 2 i) = fun t => bb w 0 (bb w 1 (bb w 2 o1)) t + bb w 0 (bb w 2 (bb w 1 o1)) t := funext fun t => bb_ad3 w 0 _ _ _ t fun i => cn2 (by decide) i
  rw [e]
  simp only [bb_add]
  try omega
theorem mS_4_0_8 (w : Nat → Nat) (L : Nat) : mS w L 4 0 8 = bb w 2 (bb w 1 (bb w 0 (bb w 3 o1))) L + bb w 1 (bb w 2 (bb w 0 (bb w 3 o1))) L := by
  rw [mS_f (fun t i => (cnW w 3 i) * (ab w 1 t i * ab w 2 t i)) fun i => by
    show (((1 * (1)) * (ab w 1 L i)) * (ab w 2 L i)) * (cnW w 3 i) = _
    simp only [Nat.one_mul, Nat.mul_one, Nat.mul_assoc, Nat.mul_comm, Nat.mul_left_comm]]
  rw [fE2 (by decide) (fun i => cnW w 3 i)]
  have e : bb w 0 (fun i => cnW w 3 i) = bb w 0 (bb w 3 o1) := funext fun t => bb_f (fun i => cn_bb w 3 i) t
  rw [e]
  try omega
theorem mS_4_0_10 (w : Nat → Nat) (L : Nat) : mS w L 4 0 10 = bb w 2 (bb w 0 (bb w 3 (bb w 1 o1))) L + bb w 2 (bb w 0 (bb w 1 (bb w 3 o1))) L := by
  rw [mS_f (fun t i => (cnW w 1 i * cnW w 3 i) * ab w 2 t i) fun i => by
    show (((1 * (1)) * (cnW w 1 i)) * (ab w 2 L i)) * (cnW w 3 i) = _
    simp only [Nat.one_mul, Nat.mul_one, Nat.mul_assoc, Nat.mul_comm, Nat.mul_left_comm]]
  rw [fE1 (fun i => cnW w 1 i * cnW w 3 i)]
  have e : bb w 0 (fun i => cnW w 1 i * cnW w 3 i) = fun t => bb w 0 (bb w 1 (bb w 3 o1)) t + bb w 0 (bb w 3 (bb w 1 o1)) t := funext fun t => bb_ad3 w 0 _ _ _ t fun i => cn2 (by decide) i
  rw [e]
  simp only [bb_add]
  try omega
theorem mS_4_0_12 (w : Nat → Nat) (L : Nat) : mS w L 4 0 12 = bb w 1 (bb w 0 (bb w 3 (bb w 2 o1))) L + bb w 1 (bb w 0 (bb w 2 (bb w 3 o1))) L := by
  rw [mS_f (fun t i => (cnW w 2 i * cnW w 3 i) * ab w 1 t i) fun i => by
    show (((1 * (1)) * (ab w 1 L i)) * (cnW w 2 i)) * (cnW w 3 i) = _
    simp only [Nat.one_mul, Nat.mul_one, Nat.mul_assoc, Nat.mul_comm, Nat.mul_left_comm]]
  rw [fE1 (fun i => cnW w 2 i * cnW w 3 i)]
  have e : bb w 0 (fun i => cnW w 2 i * cnW w 3 i) = fun t => bb w 0 (bb w 2 (bb w 3 o1)) t + bb w 0 (bb w 3 (bb w 2 o1)) t := funext fun t => bb_ad3 w 0 _ _ _ t fun i => cn2 (by decide) i
  rw [e]
  simp only [bb_add]
  try omega
theorem mS_4_0_14 (w : Nat → Nat) (L : Nat) : mS w L 4 0 14 = bb w 0 (bb w 3 (bb w 2 (bb w 1 o1))) L + bb w 0 (bb w 2 (bb w 3 (bb w 1 o1))) L + bb w 0 (bb w 3 (bb w 1 (bb w 2 o1))) L + bb w 0 (bb w 1 (bb w 3 (bb w 2 o1))) L + bb w 0 (bb w 2 (bb w 1 (bb w 3 o1))) L + bb w 0 (bb w 1 (bb w 2 (bb w 3 o1))) L := by
  rw [mS_f (fun _ i => cnW w 1 i * cnW w 2 i * cnW w 3 i) fun i => by
    show (((1 * (1)) * (cnW w 1 i)) * (cnW w 2 i)) * (cnW w 3 i) = _
    simp only [Nat.one_mul, Nat.mul_one, Nat.mul_assoc, Nat.mul_comm, Nat.mul_left_comm]]
  show bb w 0 (fun i => cnW w 1 i * cnW w 2 i * cnW w 3 i) L = _
  have e : bb w 0 (fun i => cnW w 1 i * cnW w 2 i * cnW w 3 i) = fun t => bb w 0 (bb w 1 (bb w 2 (bb w 3 o1))) t + bb w 0 (bb w 1 (bb w 3 (bb w 2 o1))) t + bb w 0 (bb w 2 (bb w 1 (bb w 3 o1))) t + bb w 0 (bb w 2 (bb w 3 (bb w 1 o1))) t + bb w 0 (bb w 3 (bb w 1 (bb w 2 o1))) t + bb w 0 (bb w 3 (bb w 2 (bb w 1 o1))) t := funext fun t => by
    rw [bb_f (fun i => cn3 (by decide) (by decide) (by decide) i) t]
    simp only [bb_add]
  rw [e]
  dsimp only
  try omega
theorem mS_4_1_0 (w : Nat → Nat) (L : Nat) : mS w L 4 1 0 = bb w 3 (bb w 2 (bb w 0 (bb w 1 o1))) L + bb w 2 (bb w 3 (bb w 0 (bb w 1 o1))) L + bb w 3 (bb w 0 (bb w 2 (bb w 1 o1))) L + bb w 0 (bb w 3 (bb w 2 (bb w 1 o1))) L + bb w 2 (bb w 0 (bb w 3 (bb w 1 o1))) L + bb w 0 (bb w 2 (bb w 3 (bb w 1 o1))) L := by
  rw [mS_f (fun t i => (1) * (ab w 0 t i * ab w 2 t i * ab w 3 t i)) fun i => by
    show (((1 * (ab w 0 L i)) * (1)) * (ab w 2 L i)) * (ab w 3 L i) = _
    simp only [Nat.one_mul, Nat.mul_one, Nat.mul_assoc, Nat.mul_comm, Nat.mul_left_comm]]
  rw [fE3 (by decide) (by decide) (by decide) (fun i => 1)]
  have e : bb w 1 (fun i => 1) = bb w 1 o1 := rfl
  rw [e]
  try omega
theorem mS_4_1_1 (w : Nat → Nat) (L : Nat) : mS w L 4 1 1 = bb w 3 (bb w 2 (bb w 1 (bb w 0 o1))) L + bb w 2 (bb w 3 (bb w 1 (bb w 0 o1))) L := by
  rw [mS_f (fun t i => (cnW w 0 i) * (ab w 2 t i * ab w 3 t i)) fun i => by
    show (((1 * (cnW w 0 i)) * (1)) * (ab w 2 L i)) * (ab w 3 L i) = _
    simp only [Nat.one_mul, Nat.mul_one, Nat.mul_assoc, Nat.mul_comm, Nat.mul_left_comm]]
  rw [fE2 (by decide) (fun i => cnW w 0 i)]
  have e : bb w 1 (fun i => cnW w 0 i) = bb w 1 (bb w 0 o1) := funext fun t => bb_f (fun i => cn_bb w 0 i) t
  rw [e]
  try omega
theorem mS_4_1_4 (w : Nat → Nat) (L : Nat) : mS w L 4 1 4 = bb w 3 (bb w 0 (bb w 1 (bb w 2 o1))) L + bb w 0 (bb w 3 (bb w 1 (bb w 2 o1))) L := by
  rw [mS_f (fun t i => (cnW w 2 i) * (ab w 0 t i * ab w 3 t i)) fun i => by
    show (((1 * (ab w 0 L i)) * (1)) * (cnW w 2 i)) * (ab w 3 L i) = _
    simp only [Nat.one_mul, Nat.mul_one, Nat.mul_assoc, Nat.mul_comm, Nat.mul_left_comm]]
  rw [fE2 (by decide) (fun i => cnW w 2 i)]
  have e : bb w 1 (fun i => cnW w 2 i) = bb w 1 (bb w 2 o1) := funext fun t => bb_f (fun i => cn_bb w 2 i) t
  rw [e]
  try omega
theorem mS_4_1_5 (w : Nat → Nat) (L : Nat) : mS w L 4 1 5 = bb w 3 (bb w 1 (bb w 2 (bb w 0 o1))) L + bb w 3 (bb w 1 (bb w 0 (bb w 2 o1))) L := by
  rw [mS_f (fun t i => (cnW w 0 i * cnW w 2 i) * ab w 3 t i) fun i => by
    show (((1 * (cnW w 0 i)) * (1)) * (cnW w 2 i)) * (ab w 3 L i) = _
    simp only [Nat.one_mul, Nat.mul_one, Nat.mul_assoc, Nat.mul_comm, Nat.mul_left_comm]]
  rw [fE1 (fun i => cnW w 0 i * cnW w 2 i)]
  have e : bb w 1 (fun i => cnW w 0 i * cnW w 2 i) = fun t => bb w 1 (bb w 0 (bb w 2 o1)) t + bb w 1 (bb w 2 (bb w 0 o1)) t := funext fun t => bb_ad3 w 1 _ _ _ t fun i => cn2 (by decide) i
  rw [e]
  simp only [bb_add]
  try omega
theorem mS_4_1_8 (w : Nat → Nat) (L : Nat) : mS w L 4 1 8 = bb w 2 (bb w 0 (bb w 1 (bb w 3 o1))) L + bb w 0 (bb w 2 (bb w 1 (bb w 3 o1))) L := by
  rw [mS_f (fun t i => (cnW w 3 i) * (ab w 0 t i * ab w 2 t i)) fun i => by
    show (((1 * (ab w 0 L i)) * (1)) * (ab w 2 L i)) * (cnW w 3 i) = _
    simp only [Nat.one_mul, Nat.mul_one, Nat.mul_assoc, Nat.mul_comm, Nat.mul_left_comm]]
  rw [fE2 (by decide) (fun i => cnW w 3 i)]
  have e : bb w 1 (fun i => cnW w 3 i) = bb w 1 (bb w 3 o1) := funext fun t => bb_f (fun i => cn_bb w 3 i) t
  rw [e]
  try omega
theorem mS_4_1_9 (w : Nat → Nat) (L : Nat) : mS w L 4 1 9 = bb w 2 (bb w 1 (bb w 3 (bb w 0 o1))) L + bb w 2 (bb w 1 (bb w 0 (bb w 3 o1))) L := by
  rw [mS_f (fun t i => (cnW w 0 i * cnW w 3 i) * ab w 2 t i) fun i => by
    show (((1 * (cnW w 0 i)) * (1)) * (ab w 2 L i)) * (cnW w 3 i) = _
    simp only [Nat.one_mul, Nat.mul_one, Nat.mul_assoc, Nat.mul_comm, Nat.mul_left_comm]]
  rw [fE1 (fun i => cnW w 0 i * cnW w 3 i)]
  have e : bb w 1 (fun i => cnW w 0 i * cnW w 3 i) = fun t => bb w 1 (bb w 0 (bb w 3 o1)) t + bb w 1 (bb w 3 (bb w 0 o1)) t := funext fun t => bb_ad3 w 1 _ _ _ t fun i => cn2 (by decide) i
  rw [e]
  simp only [bb_add]
  try omega
theorem mS_4_1_12 (w : Nat → Nat) (L : Nat) : mS w L 4 1 12 = bb w 0 (bb w 1 (bb w 3 (bb w 2 o1))) L + bb w 0 (bb w 1 (bb w 2 (bb w 3 o1))) L := by
  rw [mS_f (fun t i => (cnW w 2 i * cnW w 3 i) * ab w 0 t i) fun i => by
    show (((1 * (ab w 0 L i)) * (1)) * (cnW w 2 i)) * (cnW w 3 i) = _
    simp only [Nat.one_mul, Nat.mul_one, Nat.mul_assoc, Nat.mul_comm, Nat.mul_left_comm]]
  rw [fE1 (fun i => cnW w 2 i * cnW w 3 i)]
  have e : bb w 1 (fun i => cnW w 2 i * cnW w 3 i) = fun t => bb w 1 (bb w 2 (bb w 3 o1)) t + bb w 1 (bb w 3 (bb w 2 o1)) t := funext fun t => bb_ad3 w 1 _ _ _ t fun i => cn2 (by decide) i
  rw [e]
  simp only [bb_add]
  try omega
theorem mS_4_1_13 (w : Nat → Nat) (L : Nat) : mS w L 4 1 13 = bb w 1 (bb w 3 (bb w 2 (bb w 0 o1))) L + bb w 1 (bb w 2 (bb w 3 (bb w 0 o1))) L + bb w 1 (bb w 3 (bb w 0 (bb w 2 o1))) L + bb w 1 (bb w 0 (bb w 3 (bb w 2 o1))) L + bb w 1 (bb w 2 (bb w 0 (bb w 3 o1))) L + bb w 1 (bb w 0 (bb w 2 (bb w 3 o1))) L := by
  rw [mS_f (fun _ i => cnW w 0 i * cnW w 2 i * cnW w 3 i) fun i => by
    show (((1 * (cnW w 0 i)) * (1)) * (cnW w 2 i)) * (cnW w 3 i) = _
    simp only [Nat.one_mul, Nat.mul_one, Nat.mul_assoc, Nat.mul_comm, Nat.mul_left_comm]]
  show bb w 1 (fun i => cnW w 0 i * cnW w 2 i * cnW w 3 i) L = _
  have e : bb w 1 (fun i => cnW w 0 i * cnW w 2 i * cnW w 3 i) = fun t => bb w 1 (bb w 0 (bb w 2 (bb w 3 o1))) t + bb w 1 (bb w 0 (bb w 3 (bb w 2 o1))) t + bb w 1 (bb w 2 (bb w 0 (bb w 3 o1))) t + bb w 1 (bb w 2 (bb w 3 (bb w 0 o1))) t + bb w 1 (bb w 3 (bb w 0 (bb w 2 o1))) t + bb w 1 (bb w 3 (bb w 2 (bb w 0 o1))) t := funext fun t => by
    rw [bb_f (fun i => cn3 (by decide) (by decide) (by decide) i) t]
    simp only [bb_add]
  rw [e]
  dsimp only
  try omega
theorem mS_4_2_0 (w : Nat → Nat) (L : Nat) : mS w L 4 2 0 = bb w 3 (bb w 1 (bb w 0 (bb w 2 o1))) L + bb w 1 (bb w 3 (bb w 0 (bb w 2 o1))) L + bb w 3 (bb w 0 (bb w 1 (bb w 2 o1))) L + bb w 0 (bb w 3 (bb w 1 (bb w 2 o1))) L + bb w 1 (bb w 0 (bb w 3 (bb w 2 o1))) L + bb w 0 (bb w 1 (bb w 3 (bb w 2 o1))) L := by
  rw [mS_f (fun t i => (1) * (ab w 0 t i * ab w 1 t i * ab w 3 t i)) fun i => by
    show (((1 * (ab w 0 L i)) * (ab w 1 L i)) * (1)) * (ab w 3 L i) = _
    simp only [Nat.one_mul, Nat.mul_one, Nat.mul_assoc, Nat.mul_comm, Nat.mul_left_comm]]
  rw [fE3 (by decide) (by decide) (by decide) (fun i => 1)]
  have e : bb w 2 (fun i => 1) = bb w 2 o1 := rfl
  rw [e]
  try omega
theorem mS_4_2_1 (w : Nat → Nat) (L : Nat) : mS w L 4 2 1 = bb w 3 (bb w 1 (bb w 2 (bb w 0 o1))) L + bb w 1 (bb w 3 (bb w 2 (bb w 0 o1))) L := by
  rw [mS_f (fun t i => (cnW w 0 i) * (ab w 1 t i * ab w 3 t i)) fun i => by
    show (((1 * (cnW w 0 i)) * (ab w 1 L i)) * (1)) * (ab w 3 L i) = _
    simp only [Nat.one_mul, Nat.mul_one, Nat.mul_assoc, Nat.mul_comm, Nat.mul_left_comm]]
  rw [fE2 (by decide) (fun i => cnW w 0 i)]
  have e : bb w 2 (fun i => cnW w 0 i) = bb w 2 (bb w 0 o1) := funext fun t => bb_f (fun i => cn_bb w 0 i) t
  rw [e]
  try omega
theorem mS_4_2_2 (w : Nat → Nat) (L : Nat) : mS w L 4 2 2 = bb w 3 (bb w 0 (bb w 2 (bb w 1 o1))) L + bb w 0 (bb w 3 (bb w 2 (bb w 1 o1))) L := by
  rw [mS_f (fun t i => (cnW w 1 i) * (ab w 0 t i * ab w 3 t i)) fun i => by
    show (((1 * (ab w 0 L i)) * (cnW w 1 i)) * (1)) * (ab w 3 L i) = _
    simp only [Nat.one_mul, Nat.mul_one, Nat.mul_assoc, Nat.mul_comm, Nat.mul_left_comm]]
  rw [fE2 (by decide) (fun i => cnW w 1 i)]
  have e : bb w 2 (fun i => cnW w 1 i) = bb w 2 (bb w 1 o1) := funext fun t => bb_f (fun i => cn_bb w 1 i) t
  rw [e]
  try omega
theorem mS_4_2_3 (w : Nat → Nat) (L : Nat) : mS w L 4 2 3 = bb w 3 (bb w 2 (bb w 1 (bb w 0 o1))) L + bb w 3 (bb w 2 (bb w 0 (bb w 1 o1))) L := by
  rw [mS_f (fun t i => (cnW w 0 i * cnW w 1 i) * ab w 3 t i) fun i => by
    show (((1 * (cnW w 0 i)) * (cnW w 1 i)) * (1)) * (ab w 3 L i) = _
    simp only [Nat.one_mul, Nat.mul_one, Nat.mul_assoc, Nat.mul_comm, Nat.mul_left_comm]]
  rw [fE1 (fun i => cnW w 0 i * cnW w 1 i)]
  have e : bb w 2 (fun i => cnW w 0 i * cnW w 1 i) = fun t => bb w 2 (bb w 0 (bb w 1 o1)) t + bb w 2 (bb w 1 (bb w 0 o1)) t := funext fun t => bb_ad3 w 2 _ _ _ t fun i => cn2 (by decide) i
  rw [e]
  simp only [bb_add]
  try omega
theorem mS_4_2_8 (w : Nat → Nat) (L : Nat) : mS w L 4 2 8 = bb w 1 (bb w 0 (bb w 2 (bb w 3 o1))) L + bb w 0 (bb w 1 (bb w 2 (bb w 3 o1))) L := by
  rw [mS_f (fun t i => (cnW w 3 i) * (ab w 0 t i * ab w 1 t i)) fun i => by
    show (((1 * (ab w 0 L i)) * (ab w 1 L i)) * (1)) * (cnW w 3 i) = _
    simp only [Nat.one_mul, Nat.mul_one, Nat.mul_assoc, Nat.mul_comm, Nat.mul_left_comm]]
  rw [fE2 (by decide) (fun i => cnW w 3 i)]
  have e : bb w 2 (fun i => cnW w 3 i) = bb w 2 (bb w 3 o1) := funext fun t => bb_f (fun i => cn_bb w 3 i) t
  rw [e]
  try omega
theorem mS_4_2_9 (w : Nat → Nat) (L : Nat) : mS w L 4 2 9 = bb w 1 (bb w 2 (bb w 3 (bb w 0 o1))) L + bb w 1 (bb w 2 (bb w 0 (bb w 3 o1))) L := by
  rw [mS_f (fun t i => (cnW w 0 i * cnW w 3 i) * ab w 1 t i) fun i => by
    show (((1 * (cnW w 0 i)) * (ab w 1 L i)) * (1)) * (cnW w 3 i) = _
    simp only [Nat.one_mul, Nat.mul_one, Nat.mul_assoc, Nat.mul_comm, Nat.mul_left_comm]]
  rw [fE1 (fun i => cnW w 0 i * cnW w 3 i)]
  have e : bb w 2 (fun i => cnW w 0 i * cnW w 3 i) = fun t => bb w 2 (bb w 0 (bb w 3 o1)) t + bb w 2 (bb w 3 (bb w 0 o1)) t := funext fun t => bb_ad3 w 2 _ _ _ t fun i => cn2 (by decide) i
  rw [e]
  simp only [bb_add]
  try omega
theorem mS_4_2_10 (w : Nat → Nat) (L : Nat) : mS w L 4 2 10 = bb w 0 (bb w 2 (bb w 3 (bb w 1 o1))) L + bb w 0 (bb w 2 (bb w 1 (bb w 3 o1))) L := by
  rw [mS_f (fun t i => (cnW w 1 i * cnW w 3 i) * ab w 0 t i) fun i => by
    show (((1 * (ab w 0 L i)) * (cnW w 1 i)) * (1)) * (cnW w 3 i) = _
    simp only [Nat.one_mul, Nat.mul_one, Nat.mul_assoc, Nat.mul_comm, Nat.mul_left_comm]]
  rw [fE1 (fun i => cnW w 1 i * cnW w 3 i)]
  have e : bb w 2 (fun i => cnW w 1 i * cnW w 3 i) = fun t => bb w 2 (bb w 1 (bb w 3 o1)) t + bb w 2 (bb w 3 (bb w 1 o1)) t := funext fun t => bb_ad3 w 2 _ _ _ t fun i => cn2 (by decide) i
  rw [e]
  simp only [bb_add]
  try omega
theorem mS_4_2_11 (w : Nat → Nat) (L : Nat) : mS w L 4 2 11 = bb w 2 (bb w 3 (bb w 1 (bb w 0 o1))) L + bb w 2 (bb w 1 (bb w 3 (bb w 0 o1))) L + bb w 2 (bb w 3 (bb w 0 (bb w 1 o1))) L + bb w 2 (bb w 0 (bb w 3 (bb w 1 o1))) L + bb w 2 (bb w 1 (bb w 0 (bb w 3 o1))) L + bb w 2 (bb w 0 (bb w 1 (bb w 3 o1))) L := by
  rw [mS_f (fun _ i => cnW w 0 i * cnW w 1 i * cnW w 3 i) fun i => by
    show (((1 * (cnW w 0 i)) * (cnW w 1 i)) * (1)) * (cnW w 3 i) = _
    simp only [Nat.one_mul, Nat.mul_one, Nat.mul_assoc, Nat.mul_comm, Nat.mul_left_comm]]
  show bb w 2 (fun i => cnW w 0 i * cnW w 1 i * cnW w 3 i) L = _
  have e : bb w 2 (fun i => cnW w 0 i * cnW w 1 i * cnW w 3 i) = fun t => bb w 2 (bb w 0 (bb w 1 (bb w 3 o1))) t + bb w 2 (bb w 0 (bb w 3 (bb w 1 o1))) t + bb w 2 (bb w 1 (bb w 0 (bb w 3 o1))) t + bb w 2 (bb w 1 (bb w 3 (bb w 0 o1))) t + bb w 2 (bb w 3 (bb w 0 (bb w 1 o1))) t + bb w 2 (bb w 3 (bb w 1 (bb w 0 o1))) t := funext fun t => by
    rw [bb_f (fun i => cn3 (by decide) (by decide) (by decide) i) t]
    simp only [bb_add]
  rw [e]
  dsimp only
  try omega
theorem mS_4_3_0 (w : Nat → Nat) (L : Nat) : mS w L 4 3 0 = bb w 2 (bb w 1 (bb w 0 (bb w 3 o1))) L + bb w 1 (bb w 2 (bb w 0 (bb w 3 o1))) L + bb w 2 (bb w 0 (bb w 1 (bb w 3 o1))) L + bb w 0 (bb w 2 (bb w 1 (bb w 3 o1))) L + bb w 1 (bb w 0 (bb w 2 (bb w 3 o1))) L + bb w 0 (bb w 1 (bb w 2 (bb w 3 o1))) L := by
  rw [mS_f (fun t i => (1) * (ab w 0 t i * ab w 1 t i * ab w 2 t i)) fun i => by
    show (((1 * (ab w 0 L i)) * (ab w 1 L i)) * (ab w 2 L i)) * (1) = _
    simp only [Nat.one_mul, Nat.mul_one, Nat.mul_assoc, Nat.mul_comm, Nat.mul_left_comm]]
  rw [fE3 (by decide) (by decide) (by decide) (fun i => 1)]
  have e : bb w 3 (fun i => 1) = bb w 3 o1 := rfl
  rw [e]
  try omega
theorem mS_4_3_1 (w : Nat → Nat) (L : Nat) : mS w L 4 3 1 = bb w 2 (bb w 1 (bb w 3 (bb w 0 o1))) L + bb w 1 (bb w 2 (bb w 3 (bb w 0 o1))) L := by
  rw [mS_f (fun t i => (cnW w 0 i) * (ab w 1 t i * ab w 2 t i)) fun i => by
    show (((1 * (cnW w 0 i)) * (ab w 1 L i)) * (ab w 2 L i)) * (1) = _
    simp only [Nat.one_mul, Nat.mul_one, Nat.mul_assoc, Nat.mul_comm, Nat.mul_left_comm]]
  rw [fE2 (by decide) (fun i => cnW w 0 i)]
  have e : bb w 3 (fun i => cnW w 0 i) = bb w 3 (bb w 0 o1) := funext fun t => bb_f (fun i => cn_bb w 0 i) t
  rw [e]
  try omega
theorem mS_4_3_2 (w : Nat → Nat) (L : Nat) : mS w L 4 3 2 = bb w 2 (bb w 0 (bb w 3 (bb w 1 o1))) L + bb w 0 (bb w 2 (bb w 3 (bb w 1 o1))) L := by
  rw [mS_f (fun t i => (cnW w 1 i) * (ab w 0 t i * ab w 2 t i)) fun i => by
    show (((1 * (ab w 0 L i)) * (cnW w 1 i)) * (ab w 2 L i)) * (1) = _
    simp only [Nat.one_mul, Nat.mul_one, Nat.mul_assoc, Nat.mul_comm, Nat.mul_left_comm]]
  rw [fE2 (by decide) (fun i => cnW w 1 i)]
  have e : bb w 3 (fun i => cnW w 1 i) = bb w 3 (bb w 1 o1) := funext fun t => bb_f (fun i => cn_bb w 1 i) t
  rw [e]
  try omega
theorem mS_4_3_3 (w : Nat → Nat) (L : Nat) : mS w L 4 3 3 = bb w 2 (bb w 3 (bb w 1 (bb w 0 o1))) L + bb w 2 (bb w 3 (bb w 0 (bb w 1 o1))) L := by
  rw [mS_f (fun t i => (cnW w 0 i * cnW w 1 i) * ab w 2 t i) fun i => by
    show (((1 * (cnW w 0 i)) * (cnW w 1 i)) * (ab w 2 L i)) * (1) = _
    simp only [Nat.one_mul, Nat.mul_one, Nat.mul_assoc, Nat.mul_comm, Nat.mul_left_comm]]
  rw [fE1 (fun i => cnW w 0 i * cnW w 1 i)]
  have e : bb w 3 (fun i => cnW w 0 i * cnW w 1 i) = fun t => bb w 3 (bb w 0 (bb w 1 o1)) t + bb w 3 (bb w 1 (bb w 0 o1)) t := funext fun t => bb_ad3 w 3 _ _ _ t fun i => cn2 (by decide) i
  rw [e]
  simp only [bb_add]
  try omega
theorem mS_4_3_4 (w : Nat → Nat) (L : Nat) : mS w L 4 3 4 = bb w 1 (bb w 0 (bb w 3 (bb w 2 o1))) L + bb w 0 (bb w 1 (bb w 3 (bb w 2 o1))) L := by
  rw [mS_f (fun t i => (cnW w 2 i) * (ab w 0 t i * ab w 1 t i)) fun i => by
    show (((1 * (ab w 0 L i)) * (ab w 1 L i)) * (cnW w 2 i)) * (1) = _
    simp only [Nat.one_mul, Nat.mul_one, Nat.mul_assoc, Nat.mul_comm, Nat.mul_left_comm]]
  rw [fE2 (by decide) (fun i => cnW w 2 i)]
  have e : bb w 3 (fun i => cnW w 2 i) = bb w 3 (bb w 2 o1) := funext fun t => bb_f (fun i => cn_bb w 2 i) t
  rw [e]
  try omega
theorem mS_4_3_5 (w : Nat → Nat) (L : Nat) : mS w L 4 3 5 = bb w 1 (bb w 3 (bb w 2 (bb w 0 o1))) L + bb w 1 (bb w 3 (bb w 0 (bb w 2 o1))) L := by
  rw [mS_f (fun t i => (cnW w 0 i * cnW w 2 i) * ab w 1 t i) fun i => by
    show (((1 * (cnW w 0 i)) * (ab w 1 L i)) * (cnW w 2 i)) * (1) = _
    simp only [Nat.one_mul, Nat.mul_one, Nat.mul_assoc, Nat.mul_comm, Nat.mul_left_comm]]
  rw [fE1 (fun i => cnW w 0 i * cnW w 2 i)]
  have e : bb w 3 (fun i => cnW w 0 i * cnW w 2 i) = fun t => bb w 3 (bb w 0 (bb w 2 o1)) t + bb w 3 (bb w 2 (bb w 0 o1)) t := funext fun t => bb_ad3 w 3 _ _ _ t fun i => cn2 (by decide) i
  rw [e]
  simp only [bb_add]
  try omega
theorem mS_4_3_6 (w : Nat → Nat) (L : Nat) : mS w L 4 3 6 = bb w 0 (bb w 3 (bb w 2 (bb w 1 o1))) L + bb w 0 (bb w 3 (bb w 1 (bb w 2 o1))) L := by
  rw [mS_f (fun t i => (cnW w 1 i * cnW w 2 i) * ab w 0 t i) fun i => by
    show (((1 * (ab w 0 L i)) * (cnW w 1 i)) * (cnW w 2 i)) * (1) = _
    simp only [Nat.one_mul, Nat.mul_one, Nat.mul_assoc, Nat.mul_comm, Nat.mul_left_comm]]
  rw [fE1 (fun i => cnW w 1 i * cnW w 2 i)]
  have e : bb w 3 (fun i => cnW w 1 i * cnW w 2 i) = fun t => bb w 3 (bb w 1 (bb w 2 o1)) t + bb w 3 (bb w 2 (bb w 1 o1)) t := funext fun t => bb_ad3 w 3 _ _ _ t fun i => cn2 (by decide) i
  rw [e]
  simp only [bb_add]
  try omega
theorem mS_4_3_7 (w : Nat → Nat) (L : Nat) : mS w L 4 3 7 = bb w 3 (bb w 2 (bb w 1 (bb w 0 o1))) L + bb w 3 (bb w 1 (bb w 2 (bb w 0 o1))) L + bb w 3 (bb w 2 (bb w 0 (bb w 1 o1))) L + bb w 3 (bb w 0 (bb w 2 (bb w 1 o1))) L + bb w 3 (bb w 1 (bb w 0 (bb w 2 o1))) L + bb w 3 (bb w 0 (bb w 1 (bb w 2 o1))) L := by
  rw [mS_f (fun _ i => cnW w 0 i * cnW w 1 i * cnW w 2 i) fun i => by
    show (((1 * (cnW w 0 i)) * (cnW w 1 i)) * (cnW w 2 i)) * (1) = _
    simp only [Nat.one_mul, Nat.mul_one, Nat.mul_assoc, Nat.mul_comm, Nat.mul_left_comm]]
  show bb w 3 (fun i => cnW w 0 i * cnW w 1 i * cnW w 2 i) L = _
  have e : bb w 3 (fun i => cnW w 0 i * cnW w 1 i * cnW w 2 i) = fun t => bb w 3 (bb w 0 (bb w 1 (bb w 2 o1))) t + bb w 3 (bb w 0 (bb w 2 (bb w 1 o1))) t + bb w 3 (bb w 1 (bb w 0 (bb w 2 o1))) t + bb w 3 (bb w 1 (bb w 2 (bb w 0 o1))) t + bb w 3 (bb w 2 (bb w 0 (bb w 1 o1))) t + bb w 3 (bb w 2 (bb w 1 (bb w 0 o1))) t := funext fun t => by
    rw [bb_f (fun i => cn3 (by decide) (by decide) (by decide) i) t]
    simp only [bb_add]
  rw [e]
  dsimp only
  try omega
