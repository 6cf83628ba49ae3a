/-! ways through the net: the class's levels are the shortest ways -/
/-- k steps of beating lead from v to s, by NAMES above s alone -/
def rch (bt : Nat → Nat) (nm s : Nat) : Nat → Nat → Prop
  | 0, v => v = s
  | k + 1, v => (s < v ∧ v < nm) ∧ ∃ w, (bt v).testBit w = true ∧ rch bt nm s k w
/-- and no fewer -/
def dst (bt : Nat → Nat) (nm s k v : Nat) : Prop := rch bt nm s k v ∧ ∀ j, j < k → ¬ rch bt nm s j v
theorem rch_lt {bt : Nat → Nat} {nm s : Nat} (hs : s < nm) : ∀ {k v : Nat}, rch bt nm s k v → v < nm ∧ s ≤ v
  | 0, v, h => by
    have : v = s := h
    omega
  | k + 1, v, h => by
    have := h.1
    omega
theorem dst_of {bt : Nat → Nat} {nm s : Nat} : ∀ (k v : Nat), rch bt nm s k v → ∃ j, j ≤ k ∧ dst bt nm s j v
  | 0, v, h => ⟨0, Nat.le_refl _, h, fun j hj => absurd hj (by omega)⟩
  | k + 1, v, h => by
    by_cases c : ∃ j, j ≤ k ∧ rch bt nm s j v
    · obtain ⟨j, hj, hr⟩ := c
      obtain ⟨i, hi, hd⟩ := dst_of j v hr
      exact ⟨i, by omega, hd⟩
    · exact ⟨k + 1, Nat.le_refl _, h, fun j hj hr => c ⟨j, by omega, hr⟩⟩
termination_by k => k
theorem dst_u {bt : Nat → Nat} {nm s i j v : Nat} (a : dst bt nm s i v) (b : dst bt nm s j v) : i = j := by
  by_cases c : i < j
  · exact absurd a.1 (b.2 i c)
  · by_cases c2 : j < i
    · exact absurd b.1 (a.2 j c2)
    · omega
/-- a shortest way goes by shortest ways -/
theorem dst_p {bt : Nat → Nat} {nm s k v : Nat} (h : dst bt nm s (k + 1) v) : ∃ w, (bt v).testBit w = true ∧ dst bt nm s k w := by
  obtain ⟨⟨a, w, e, r⟩, m⟩ := h
  exact ⟨w, e, r, fun j hj hr => m (j + 1) (by omega) ⟨a, w, e, hr⟩⟩
theorem dst_all {bt : Nat → Nat} {nm s : Nat} : ∀ (k v : Nat), dst bt nm s k v → ∀ j, j ≤ k → ∃ u, dst bt nm s j u
  | 0, v, h, j, hj => ⟨v, by rw [show j = 0 by omega]; exact h⟩
  | k + 1, v, h, j, hj => by
    by_cases c : j = k + 1
    · exact ⟨v, by rw [c]; exact h⟩
    · obtain ⟨w, -, hw⟩ := dst_p h
      exact dst_all k w hw j (by omega)
/-- n + 1 NAMES are not all below n, if they are unlike -/
theorem php : ∀ (n : Nat) (g : Nat → Nat), (∀ i, i ≤ n → g i < n) → (∀ i j, i ≤ n → j ≤ n → g i = g j → i = j) → False
  | 0, g, h, _ => absurd (h 0 (Nat.le_refl _)) (by omega)
  | n + 1, g, h, inj => by
    refine php n (fun i => if g i = n then g (n + 1) else g i) (fun i hi => ?_) fun i j hi hj e => ?_
    · have a := h i (by omega)
      have b := h (n + 1) (Nat.le_refl _)
      by_cases c : g i = n
      · rw [if_pos c]
        have : g (n + 1) ≠ n := fun z => absurd (inj i (n + 1) (by omega) (Nat.le_refl _) (by omega)) (by omega)
        omega
      · rw [if_neg c]
        omega
    · by_cases c : g i = n
      · by_cases c2 : g j = n
        · exact inj i j (by omega) (by omega) (by omega)
        · rw [if_pos c, if_neg c2] at e
          exact absurd (inj (n + 1) j (Nat.le_refl _) (by omega) e) (by omega)
      · by_cases c2 : g j = n
        · rw [if_neg c, if_pos c2] at e
          exact absurd (inj i (n + 1) (by omega) (Nat.le_refl _) e) (by omega)
        · rw [if_neg c, if_neg c2] at e
          exact inj i j (by omega) (by omega) e
theorem dst_lt {bt : Nat → Nat} {nm s k v : Nat} (hs : s < nm) (h : dst bt nm s k v) : k < nm := by
  by_cases c : k < nm
  · exact c
  · exfalso
    have ch : ∀ j, ∃ u, j ≤ nm → dst bt nm s j u := fun j => by
      by_cases y : j ≤ nm
      · obtain ⟨u, hu⟩ := dst_all k v h j (by omega)
        exact ⟨u, fun _ => hu⟩
      · exact ⟨0, fun z => absurd z y⟩
    refine php nm (fun j => Classical.choose (ch j)) (fun i hi => (rch_lt hs (Classical.choose_spec (ch i) hi).1).1) fun i j hi hj e => ?_
    have a := Classical.choose_spec (ch i) hi
    have b := Classical.choose_spec (ch j) hj
    rw [e] at a
    exact dst_u a b
/-- what one level of the class's walk reaches -/
theorem wbI_e {bt : Nat → Nat} {edge k nm : Nat} (hk : 1 ≤ k) : ∀ (c v : Nat) (st : Nat → Nat) (re : Nat), c + v = nm → (∀ u, (wbI bt edge k c v st re).1 u = if v ≤ u ∧ u < nm ∧ st u = 0 ∧ bt u &&& edge ≠ 0 then k else st u) ∧ ∀ u, (wbI bt edge k c v st re).2.testBit u = (re.testBit u || decide (v ≤ u ∧ u < nm ∧ st u = 0 ∧ bt u &&& edge ≠ 0))
  | 0, v, st, re, h => by
    refine ⟨fun u => ?_, fun u => ?_⟩
    · rw [if_neg (by omega)]
      rfl
    · rw [decide_eq_false (by omega), Bool.or_false]
      rfl
  | c + 1, v, st, re, h => by
    unfold wbI
    by_cases y : st v = 0 ∧ bt v &&& edge ≠ 0
    · rw [if_pos y]
      obtain ⟨h1, h2⟩ := wbI_e (nm := nm) hk c (v + 1) (fun i => if i = v then k else st i) (re ||| 2 ^ v) (by omega)
      refine ⟨fun u => ?_, fun u => ?_⟩
      · rw [h1 u]
        by_cases e : u = v
        · rw [if_neg (by omega), if_pos e, e, if_pos ⟨Nat.le_refl _, by omega, y⟩]
        · rw [if_neg e]
          by_cases z : v + 1 ≤ u ∧ u < nm ∧ st u = 0 ∧ bt u &&& edge ≠ 0
          · rw [if_pos z, if_pos ⟨by omega, z.2⟩]
          · rw [if_neg z, if_neg fun w => z ⟨by omega, w.2⟩]
      · rw [h2 u, Nat.testBit_or, Nat.testBit_two_pow]
        by_cases e : u = v
        · rw [decide_eq_true e.symm, e, decide_eq_true (show v ≤ v ∧ v < nm ∧ st v = 0 ∧ bt v &&& edge ≠ 0 from ⟨Nat.le_refl _, by omega, y⟩)]
          simp
        · rw [decide_eq_false fun z => e z.symm, Bool.or_false, if_neg e]
          refine congrArg (re.testBit u || ·) ?_
          by_cases z : v + 1 ≤ u ∧ u < nm ∧ st u = 0 ∧ bt u &&& edge ≠ 0
          · rw [decide_eq_true z, decide_eq_true (show v ≤ u ∧ u < nm ∧ st u = 0 ∧ bt u &&& edge ≠ 0 from ⟨by omega, z.2⟩)]
          · rw [decide_eq_false z, decide_eq_false (show ¬ (v ≤ u ∧ u < nm ∧ st u = 0 ∧ bt u &&& edge ≠ 0) from fun w => z ⟨by omega, w.2⟩)]
    · rw [if_neg y]
      obtain ⟨h1, h2⟩ := wbI_e (nm := nm) hk c (v + 1) st re (by omega)
      refine ⟨fun u => ?_, fun u => ?_⟩
      · rw [h1 u]
        by_cases e : u = v
        · rw [if_neg (by omega), e, if_neg fun w => y w.2.2]
        · by_cases z : v + 1 ≤ u ∧ u < nm ∧ st u = 0 ∧ bt u &&& edge ≠ 0
          · rw [if_pos z, if_pos ⟨by omega, z.2⟩]
          · rw [if_neg z, if_neg fun w => z ⟨by omega, w.2⟩]
      · rw [h2 u]
        refine congrArg (re.testBit u || ·) ?_
        by_cases e : u = v
        · rw [decide_eq_false (by omega), e, decide_eq_false fun w => y w.2.2]
        · by_cases z : v + 1 ≤ u ∧ u < nm ∧ st u = 0 ∧ bt u &&& edge ≠ 0
          · rw [decide_eq_true z, decide_eq_true (show v ≤ u ∧ u < nm ∧ st u = 0 ∧ bt u &&& edge ≠ 0 from ⟨by omega, z.2⟩)]
          · rw [decide_eq_false z, decide_eq_false (show ¬ (v ≤ u ∧ u < nm ∧ st u = 0 ∧ bt u &&& edge ≠ 0) from fun w => z ⟨by omega, w.2⟩)]
theorem and_ne {a b : Nat} : a &&& b ≠ 0 ↔ ∃ i, a.testBit i = true ∧ b.testBit i = true := by
  constructor
  · intro h
    obtain ⟨i, hi⟩ := Nat.exists_testBit_of_ne_zero h
    rw [Nat.testBit_and, Bool.and_eq_true] at hi
    exact ⟨i, hi⟩
  · rintro ⟨i, h1, h2⟩ z
    have : (a &&& b).testBit i = true := by rw [Nat.testBit_and, h1, h2]; rfl
    rw [z, Nat.zero_testBit] at this
    cases this
/-- the class's walk from s: no way round, or a shortest one, and the levels below it -/
theorem wbO_e {bt : Nat → Nat} {nm s : Nat} (hs : s < nm) : ∀ (f k edge : Nat) (st : Nat → Nat), f + k = nm → 1 ≤ k → (∀ v, edge.testBit v = true ↔ dst bt nm s (k - 1) v) → (∀ v, s < v → v < nm → ∀ j, 1 ≤ j → j < k → (st v = j ↔ dst bt nm s j v)) → (∀ v, st v < k) → (∀ v, v ≤ s → st v = 0) → (∀ v j, (bt s).testBit v = true → s < v → v < nm → j < k → ¬ rch bt nm s j v) →
    ((wbO bt nm s f k edge st).1 = 0 ∧ (∀ v j, (bt s).testBit v = true → s < v → v < nm → ¬ rch bt nm s j v)) ∨ (∃ L, (wbO bt nm s f k edge st).1 = L + 1 ∧ 1 ≤ L ∧ (∃ v, (bt s).testBit v = true ∧ s < v ∧ v < nm ∧ dst bt nm s L v) ∧ (∀ v j, (bt s).testBit v = true → s < v → v < nm → j < L → ¬ rch bt nm s j v) ∧ (∀ v, s < v → v < nm → ∀ j, 1 ≤ j → j ≤ L → ((wbO bt nm s f k edge st).2 v = j ↔ dst bt nm s j v)) ∧ ∀ v, v ≤ s → (wbO bt nm s f k edge st).2 v = 0)
  | 0, k, edge, st, hf, hk, he, hst, hlt, h0, hno => by
    refine Or.inl ⟨rfl, fun v j e a b hr => ?_⟩
    obtain ⟨i, hi, hd⟩ := dst_of j v hr
    have := dst_lt hs hd
    exact hno v i e a b (by omega) hd.1
  | f + 1, k, edge, st, hf, hk, he, hst, hlt, h0, hno => by
    obtain ⟨w1, w2⟩ := wbI_e (bt := bt) (edge := edge) (nm := nm) hk (nm - (s + 1)) (s + 1) st 0 (by omega)
    -- what is reached now
    have new : ∀ v, (s + 1 ≤ v ∧ v < nm ∧ st v = 0 ∧ bt v &&& edge ≠ 0) ↔ dst bt nm s k v := fun v => by
      constructor
      · rintro ⟨a, b, c, e⟩
        obtain ⟨w, x, y⟩ := and_ne.mp e
        have dw := (he w).mp y
        have rv : rch bt nm s k v := by
          rw [show k = k - 1 + 1 by omega]
          exact ⟨⟨by omega, b⟩, w, x, dw.1⟩
        refine ⟨rv, fun j hj hr => ?_⟩
        obtain ⟨i, hi, hd⟩ := dst_of j v hr
        by_cases i0 : i = 0
        · rw [i0] at hd
          have : v = s := hd.1
          omega
        · have := (hst v (by omega) b i (by omega) (by omega)).mpr hd
          omega
      · intro hd
        obtain ⟨a, b⟩ := rch_lt hs hd.1
        have ne : v ≠ s := fun z => by
          have : rch bt nm s 0 v := z
          exact hd.2 0 (by omega) this
        have hd' := hd
        rw [show k = k - 1 + 1 by omega] at hd'
        obtain ⟨w, x, dw⟩ := dst_p hd'
        refine ⟨by omega, a, ?_, and_ne.mpr ⟨w, x, (he w).mpr dw⟩⟩
        by_cases z : st v = 0
        · exact z
        · have l := hlt v
          have := (hst v (by omega) a (st v) (by omega) l).mp rfl
          exact absurd this.1 (hd.2 _ l)
    have st' : ∀ v, s < v → v < nm → ∀ j, 1 ≤ j → j < k + 1 → ((wbI bt edge k (nm - (s + 1)) (s + 1) st 0).1 v = j ↔ dst bt nm s j v) := fun v a b j hj1 hj2 => by
      rw [w1 v]
      by_cases c : s + 1 ≤ v ∧ v < nm ∧ st v = 0 ∧ bt v &&& edge ≠ 0
      · rw [if_pos c]
        have d := (new v).mp c
        constructor
        · intro z
          rw [← z]
          exact d
        · intro z
          exact dst_u d z
      · rw [if_neg c]
        by_cases y : j = k
        · rw [y]
          constructor
          · intro z
            have := hlt v
            omega
          · intro z
            exact absurd ((new v).mpr z) c
        · exact hst v a b j hj1 (by omega)
    have re' : ∀ v, (wbI bt edge k (nm - (s + 1)) (s + 1) st 0).2.testBit v = true ↔ dst bt nm s k v := fun v => by
      rw [w2 v, Nat.zero_testBit, Bool.false_or, decide_eq_true_eq]
      exact new v
    have lt' : ∀ v, (wbI bt edge k (nm - (s + 1)) (s + 1) st 0).1 v < k + 1 := fun v => by
      rw [w1 v]
      have := hlt v
      split <;> omega
    have z' : ∀ v, v ≤ s → (wbI bt edge k (nm - (s + 1)) (s + 1) st 0).1 v = 0 := fun v hv => by
      rw [w1 v, if_neg (by omega)]
      exact h0 v hv
    unfold wbO
    by_cases c0 : edge = 0
    · rw [if_pos c0]
      refine Or.inl ⟨rfl, fun v j e a b hr => ?_⟩
      obtain ⟨i, hi, hd⟩ := dst_of j v hr
      by_cases y : i < k
      · exact hno v i e a b y hd.1
      · obtain ⟨u, hu⟩ := dst_all i v hd (k - 1) (by omega)
        have := (he u).mpr hu
        rw [c0, Nat.zero_testBit] at this
        cases this
    · rw [if_neg c0]
      by_cases c1 : bt s &&& (wbI bt edge k (nm - (s + 1)) (s + 1) st 0).2 ≠ 0
      · rw [if_pos c1]
        obtain ⟨v, a, b⟩ := and_ne.mp c1
        have dv := (re' v).mp b
        obtain ⟨x, y⟩ := rch_lt hs dv.1
        have ne : v ≠ s := fun z => by
          have : rch bt nm s 0 v := z
          exact dv.2 0 (by omega) this
        exact Or.inr ⟨k, rfl, hk, ⟨v, a, by omega, x, dv⟩, fun v j e a b hj => hno v j e a b hj, fun v a b j h1 h2 => st' v a b j h1 (by omega), z'⟩
      · rw [if_neg c1]
        refine wbO_e hs f (k + 1) _ _ (by omega) (by omega) (fun v => by rw [show k + 1 - 1 = k by omega]; exact re' v) (fun v a b j h1 h2 => st' v a b j h1 h2) lt' z' fun v j e a b hj hr => ?_
        obtain ⟨i, hi, hd⟩ := dst_of j v hr
        by_cases y : i < k
        · exact hno v i e a b y hd.1
        · have ik : i = k := by omega
          rw [ik] at hd
          exact c1 (and_ne.mpr ⟨v, e, (re' v).mpr hd⟩)
/-- the Model's ways: f tells the shortest of each NAME (100: none) -/
def thP (bt : Nat → Nat) (nm s : Nat) (f : Nat → Nat) : Prop := (∀ v, v < nm → f v ≤ 100 ∧ (f v < 100 → rch bt nm s (f v) v)) ∧ ∀ v k, v < nm → k ≤ nm → rch bt nm s k v → f v ≤ k
/-- the Model's shortest way round -/
def bsP (bt : Nat → Nat) (nm s : Nat) (f : Nat → Nat) (b : Nat) : Prop := b ≤ 100 ∧ (∀ v, s < v → v < nm → (bt s).testBit v = true → b ≤ f v + 1) ∧ (b < 100 → ∃ v, (s < v ∧ v < nm) ∧ (bt s).testBit v = true ∧ b = f v + 1)
theorem thP_d {bt : Nat → Nat} {nm s : Nat} {f : Nat → Nat} (hs : s < nm) (hn : nm ≤ 12) (t : thP bt nm s f) {v k : Nat} (hv : v < nm) (hk : k < 100) : f v = k ↔ dst bt nm s k v := by
  constructor
  · intro e
    have r := (t.1 v hv).2 (by omega)
    rw [e] at r
    refine ⟨r, fun j hj hr => ?_⟩
    obtain ⟨i, hi, hd⟩ := dst_of j v hr
    have := dst_lt hs hd
    have := t.2 v i hv (by omega) hd.1
    omega
  · intro hd
    have l := dst_lt hs hd
    have a := t.2 v k hv (by omega) hd.1
    have r := (t.1 v hv).2 (by omega)
    by_cases c : f v < k
    · exact absurd r (hd.2 _ c)
    · omega
/-- class and Model agree on the shortest way round through s -/
theorem wb_eq {bt : Nat → Nat} {nm s b : Nat} {f : Nat → Nat} (hs : s < nm) (hn : nm ≤ 12) (t : thP bt nm s f) (hb : bsP bt nm s f b) : ((wbF bt nm s).1 = if b = 100 then 0 else b) ∧ (b ≠ 100 → 2 ≤ b ∧ (∃ v, (s < v ∧ v < nm) ∧ (bt s).testBit v = true ∧ f v = b - 1) ∧ (∀ v, v < nm → ∀ j, 1 ≤ j → j < b → ((wbF bt nm s).2 v = j ↔ f v = j))) := by
  have W := wbO_e (bt := bt) hs (nm - 1) 1 (2 ^ s) (fun _ => 0) (by omega) (Nat.le_refl _) (fun v => by
    rw [Nat.testBit_two_pow, decide_eq_true_eq]
    constructor
    · intro z
      exact ⟨z.symm, fun j hj => absurd hj (by omega)⟩
    · intro z
      have : v = s := z.1
      omega) (fun v _ _ j h1 h2 => by omega) (fun _ => by show 0 < 1; omega) (fun _ _ => rfl) (fun v j _ a b hj hr => by
    have j0 : j = 0 := by omega
    rw [j0] at hr
    have : v = s := hr
    omega)
  rcases W with ⟨e, no⟩ | ⟨L, e, hL, ⟨v, x, a, c, dv⟩, lo, st, z0⟩
  · have b100 : b = 100 := by
      by_cases y : b < 100
      · obtain ⟨v, ⟨a, c⟩, x, -⟩ := hb.2.2 y
        by_cases z : f v < 100
        · exact absurd ((t.1 v c).2 z) (no v _ x a c)
        · have := hb.1
          have := (hb.2.1 v a c x)
          obtain ⟨v', ⟨a', c'⟩, x', e'⟩ := hb.2.2 y
          exact absurd ((t.1 v' c').2 (by omega)) (no v' _ x' a' c')
      · have := hb.1
        omega
    rw [b100]
    exact ⟨e, fun z => absurd rfl z⟩
  · have lL := dst_lt hs dv
    have fv := (thP_d hs hn t c (show L < 100 by omega)).mpr dv
    have bl := hb.2.1 v a c x
    have be : b = L + 1 := by
      obtain ⟨v', ⟨a', c'⟩, x', e'⟩ := hb.2.2 (by omega)
      by_cases y : f v' < L
      · exact absurd ((t.1 v' c').2 (by omega)) (lo v' _ x' a' c' y)
      · omega
    rw [be, if_neg (by omega)]
    refine ⟨e, fun _ => ⟨by omega, ⟨v, ⟨a, c⟩, x, by omega⟩, fun u hu j h1 h2 => ?_⟩⟩
    by_cases y : s < u
    · exact (st u y hu j h1 (by omega)).trans (thP_d hs hn t hu (by omega)).symm
    · have z := z0 u (by omega)
      constructor
      · intro w
        have : (wbF bt nm s).2 u = 0 := z
        omega
      · intro w
        have d := (thP_d hs hn t hu (show j < 100 by omega)).mp w
        obtain ⟨-, q⟩ := rch_lt hs d.1
        have us : u = s := by omega
        have r0 : rch bt nm s 0 u := us
        exact absurd r0 (d.2 0 (by omega))
