/-! the Model: its list of pairs is all pairs that are right -/
theorem smN_sw {f : Nat → Nat → Nat} (a : Nat) : ∀ b, smN (fun i => smN (f i) b) a = smN (fun j => smN (fun i => f i j) a) b
  | 0 => smN_zero a fun _ _ => rfl
  | b + 1 => by
    show smN (fun i => smN (f i) b + f i b) a = smN (fun j => smN (fun i => f i j) a) b + smN (fun i => f i b) a
    rw [smN_ad, smN_sw a b]
theorem smN_eqv {f g : Nat → Nat} : ∀ n, (∀ i, i < n → g i ≤ f i) → smN g n ≤ smN f n ∧ (smN f n = smN g n → ∀ i, i < n → f i = g i)
  | 0, _ => ⟨Nat.le_refl _, fun _ i hi => absurd hi (Nat.not_lt_zero i)⟩
  | n + 1, h => by
    have ih := smN_eqv n fun i hi => h i (by omega)
    have hn := h n (by omega)
    constructor
    · show smN g n + g n ≤ smN f n + f n
      omega
    · intro e i hi
      change smN f n + f n = smN g n + g n at e
      by_cases c : i = n
      · rw [c]; omega
      · exact ih.2 (by omega) i (by omega)
theorem smN_off {g : Nat → Nat} {v k : Nat} : ∀ N, smN (fun s => if v ≤ s ∧ s - v < k then g (s - v) else 0) N = smN g (min k (N - v))
  | 0 => by
    rw [show min k (0 - v) = 0 by omega]
    rfl
  | N + 1 => by
    show smN (fun s => if v ≤ s ∧ s - v < k then g (s - v) else 0) N + (if v ≤ N ∧ N - v < k then g (N - v) else 0) = _
    rw [smN_off N]
    by_cases c : v ≤ N ∧ N - v < k
    · rw [if_pos c, show min k (N + 1 - v) = (N - v) + 1 by omega, show min k (N - v) = N - v by omega]
      rfl
    · rw [if_neg c, show min k (N + 1 - v) = min k (N - v) by omega]
      rfl
theorem smN_ml {f : Nat → Nat} {c : Nat} : ∀ n, smN (fun i => c * f i) n = c * smN f n
  | 0 => rfl
  | n + 1 => by
    show smN (fun i => c * f i) n + c * f n = c * (smN f n + f n)
    rw [smN_ml n, Nat.mul_add]
theorem smN_mr {f : Nat → Nat} {c : Nat} : ∀ n, smN (fun i => f i * c) n = smN f n * c
  | 0 => (Nat.zero_mul c).symm
  | n + 1 => by
    show smN (fun i => f i * c) n + f n * c = (smN f n + f n) * c
    rw [smN_mr n, Nat.add_mul]
theorem cvN_tot {X Y : Nat → Nat} : smN (cvN X Y) 130 = smN X 61 * smN Y 61 := by
  show smN (fun s => smN (fun v => cvT X Y s v) 61) 130 = _
  rw [smN_sw (f := fun s v => cvT X Y s v) 130 61]
  have e : ∀ v, v < 61 → smN (fun s => cvT X Y s v) 130 = X v * smN Y 61 := fun v hv => by
    have := smN_off (g := Y) (v := v) (k := 61) 130
    rw [show min 61 (130 - v) = 61 by omega] at this
    rw [← this, ← smN_ml]
    refine smN_cg 130 fun s _ => ?_
    unfold cvT
    by_cases c : v ≤ s ∧ s - v ≤ 60
    · rw [if_pos c, if_pos ⟨c.1, by omega⟩]
    · rw [if_neg c, if_neg (by omega), Nat.mul_zero]
  rw [smN_cg 61 e, smN_mr]
theorem tg_tot {f g : Nat → Int} {na nb : Nat} (hf : ∀ i, i < na → 0 ≤ f i ∧ f i ≤ 60) (hg : ∀ i, i < nb → 0 ≤ g i ∧ g i ≤ 60) : smN (tgN f g na nb) 130 = na * nb := by
  show smN (fun s => smN (fun i => tgR f g nb s i) na) 130 = _
  rw [smN_sw (f := fun s i => tgR f g nb s i) 130 na]
  rw [smN_c (c := nb) na fun i hi => ?_, Nat.mul_comm]
  show smN (fun s => smN (fun j => tgT f g s i j) nb) 130 = _
  rw [smN_sw (f := fun s j => tgT f g s i j) 130 nb]
  rw [smN_c (c := 1) nb fun j hj => ?_, Nat.one_mul]
  have a := hf i hi
  have b := hg j hj
  have := smN_at (a := (f i + g j).toNat) (c := 1) 130
  rw [if_pos (by omega)] at this
  rw [← this]
  refine smN_cg 130 fun s _ => ?_
  show (if f i + g j = (s : Int) then 1 else 0) = if s = (f i + g j).toNat then 1 else 0
  by_cases c : f i + g j = (s : Int)
  · rw [if_pos c, if_pos (by omega)]
  · rw [if_neg c, if_neg (by omega)]
theorem mn_sup {X : Nat → Nat} : ∀ n, 1 ≤ smN X n → ∃ x, x < n ∧ X x ≠ 0 ∧ ∀ i, i < x → X i = 0
  | 0, h => absurd h (Nat.not_succ_le_zero 0)
  | n + 1, h => by
    change 1 ≤ smN X n + X n at h
    by_cases c : 1 ≤ smN X n
    · obtain ⟨x, h1, h2, h3⟩ := mn_sup n c
      exact ⟨x, by omega, h2, h3⟩
    · have z : smN X n = 0 := by omega
      refine ⟨n, by omega, by omega, fun i hi => ?_⟩
      have := sm_one (X := X) n i hi
      omega
/-- all that a pair must be: so many FACES, none out of reach, every sum as often as it is wanted -/
abbrev gpP (tg : Nat → Nat) (p q l : Nat) (Z : Pr2) : Prop := smN Z.1 61 = p ∧ smN Z.2 61 = q ∧ (∀ i, i < l ∨ 60 < i → Z.1 i = 0 ∧ Z.2 i = 0) ∧ ∀ s, s < 130 → cvN Z.1 Z.2 s = tg s
theorem cv_low {X Y : Nat → Nat} {x y s : Nat} (hX : ∀ i, i < x → X i = 0) (hY : ∀ i, i < y → Y i = 0) (h : s < x + y) : cvN X Y s = 0 := smN_zero 61 fun v _ => by
  unfold cvT
  by_cases c : v ≤ s ∧ s - v ≤ 60
  · rw [if_pos c]
    by_cases c2 : v < x
    · rw [hX v c2, Nat.zero_mul]
    · rw [hY (s - v) (by omega), Nat.mul_zero]
  · rw [if_neg c]
theorem cv_at {X Y : Nat → Nat} {x y : Nat} (hx : x ≤ 60) (hy : y ≤ 60) (hX : ∀ i, i < x → X i = 0) (hY : ∀ i, i < y → Y i = 0) : cvN X Y (x + y) = X x * Y y := by
  have := smN_at (a := x) (c := X x * Y y) 61
  rw [if_pos (by omega)] at this
  rw [← this]
  refine smN_cg 61 fun v _ => ?_
  unfold cvT
  by_cases c : v = x
  · rw [if_pos c, c, if_pos ⟨by omega, by omega⟩, show x + y - x = y by omega]
  · rw [if_neg c]
    by_cases c3 : v ≤ x + y ∧ x + y - v ≤ 60
    · rw [if_pos c3]
      by_cases c2 : v < x
      · rw [hX v c2, Nat.zero_mul]
      · rw [hY (x + y - v) (by omega), Nat.mul_zero]
    · rw [if_neg c3]
theorem cv_ge {X Y : Nat → Nat} {i j : Nat} (hi : i ≤ 60) (hj : j ≤ 60) : X i * Y j ≤ cvN X Y (i + j) := by
  have := sm_one (X := cvT X Y (i + j)) 61 i (by omega)
  unfold cvT at this
  rw [if_pos ⟨by omega, by omega⟩, show i + j - i = j by omega] at this
  exact this
theorem oLn_mem {tg : Nat → Nat} {p q x low high : Nat} {Z : Pr2} : ∀ k n, Z ∈ oLn tg p q x low high k n ↔ ∃ u, n ≤ u ∧ u < n + k ∧ (tg low % u = 0 ∧ u ≤ p ∧ tg low / u ≤ q) ∧ Z ∈ mdL tg u p q x (low - x) high (high - low) (sgN x u) (sgN (low - x) (tg low / u))
  | 0, n => by
    constructor
    · intro h
      cases h
    · intro ⟨u, h1, h2, _⟩
      omega
  | k + 1, n => by
    have ih := oLn_mem (tg := tg) (p := p) (q := q) (x := x) (low := low) (high := high) (Z := Z) k (n + 1)
    show Z ∈ (if tg low % n = 0 ∧ n ≤ p ∧ tg low / n ≤ q then mdL tg n p q x (low - x) high (high - low) (sgN x n) (sgN (low - x) (tg low / n)) else []) ++ oLn tg p q x low high k (n + 1) ↔ _
    rw [List.mem_append, ih]
    constructor
    · intro h
      cases h with
      | inl h =>
        by_cases c : tg low % n = 0 ∧ n ≤ p ∧ tg low / n ≤ q
        · rw [if_pos c] at h
          exact ⟨n, Nat.le_refl n, by omega, c, h⟩
        · rw [if_neg c] at h
          cases h
      | inr h =>
        obtain ⟨u, h1, h2, h3⟩ := h
        exact ⟨u, by omega, by omega, h3⟩
    · intro ⟨u, h1, h2, h3, h4⟩
      by_cases c : u = n
      · left
        rw [c] at h3 h4
        rw [if_pos h3]
        exact h4
      · right
        exact ⟨u, by omega, by omega, h3, h4⟩
theorem oLx_mem {tg : Nat → Nat} {p q l low high : Nat} {Z : Pr2} : ∀ k x, Z ∈ oLx tg p q l low high k x ↔ ∃ u, x ≤ u ∧ u < x + k ∧ u + l ≤ low ∧ low - u ≤ 60 ∧ Z ∈ oLn tg p q u low high (tg low) 1
  | 0, n => by
    constructor
    · intro h
      cases h
    · intro ⟨u, h1, h2, _⟩
      omega
  | k + 1, x => by
    have ih := oLx_mem (tg := tg) (p := p) (q := q) (l := l) (low := low) (high := high) (Z := Z) k (x + 1)
    show Z ∈ (if x + l ≤ low then (if low - x ≤ 60 then oLn tg p q x low high (tg low) 1 else []) ++ oLx tg p q l low high k (x + 1) else []) ↔ _
    by_cases c0 : x + l ≤ low
    · rw [if_pos c0, List.mem_append, ih]
      constructor
      · intro h
        cases h with
        | inl h =>
          by_cases c : low - x ≤ 60
          · rw [if_pos c] at h
            exact ⟨x, Nat.le_refl x, by omega, c0, c, h⟩
          · rw [if_neg c] at h
            cases h
        | inr h =>
          obtain ⟨u, h1, h2, h3⟩ := h
          exact ⟨u, by omega, by omega, h3⟩
      · intro ⟨u, h1, h2, h3, h4, h5⟩
        by_cases c : u = x
        · left
          rw [c] at h4 h5
          rw [if_pos h4]
          exact h5
        · right
          exact ⟨u, by omega, by omega, h3, h4, h5⟩
    · rw [if_neg c0]
      constructor
      · intro h
        cases h
      · intro ⟨u, h1, h2, h3, _⟩
        omega
theorem oLL_mem {tg : Nat → Nat} {p q l low high : Nat} {Z : Pr2} (hp : 1 ≤ p) (hq : 1 ≤ q) (tot : smN tg 130 = p * q) (l1 : ∀ s, s < low → tg s = 0) (l2 : tg low ≠ 0) (h1 : ∀ s, high < s → tg s = 0) (hlh : low ≤ high) (hh : high ≤ 120) : Z ∈ oLL tg p q l low high ↔ gpP tg p q l Z := by
  show Z ∈ oLx tg p q l low high (61 - l) l ↔ _
  rw [oLx_mem]
  have root : ∀ x y n m, x ≤ 60 → y ≤ 60 → x + y = low → 1 ≤ n → 1 ≤ m → msT n x y (low + 1) (sgN x n) (sgN y m) := fun x y n m hx hy hxy hn hm => by
    refine ⟨if_pos rfl, fun i hi => if_neg (by omega), ?_, fun i hi => if_neg (by omega), fun i hi => if_neg (by omega), fun i hi => if_neg (by omega), fun i hi => ⟨if_neg (by omega), if_neg (by omega)⟩, by omega⟩
    show 1 ≤ if y = y then m else 0
    rw [if_pos rfl]
    exact hm
  constructor
  · intro ⟨x, x1, x2, x3, x4, h⟩
    rw [oLn_mem] at h
    obtain ⟨n, n1, n2, ⟨n3, n4, n5⟩, h⟩ := h
    obtain ⟨y, hy⟩ : ∃ y, low - x = y := ⟨_, rfl⟩
    rw [hy] at h x4
    have dm := Nat.div_add_mod (tg low) n
    rw [n3] at dm
    obtain ⟨m, hm⟩ : ∃ m, tg low / n = m := ⟨_, rfl⟩
    rw [hm] at h dm
    have m1 : 1 ≤ m := by
      cases m with
      | zero => rw [Nat.mul_zero] at dm; omega
      | succ m => omega
    obtain ⟨b1, b2, b3, b4, b5, b6, b7, b8⟩ := (md_mem n1 (by omega) x4 (high - low) (low + 1) (by omega) _ _ (root x y n m (by omega) x4 (by omega) n1 m1)).mp h
    have zx : ∀ i, i < x → Z.1 i = 0 := fun i hi => by rw [b1 i (by omega)]; exact if_neg (by omega)
    have zy : ∀ i, i < y → Z.2 i = 0 := fun i hi => by rw [b2 i (by omega)]; exact if_neg (by omega)
    have ux : Z.1 x = n := by rw [b1 x (by omega)]; exact if_pos rfl
    have uy : Z.2 y = m := by rw [b2 y (by omega)]; exact if_pos rfl
    have le : ∀ s, s ≤ high → cvN Z.1 Z.2 s = tg s := fun s hs => by
      by_cases c1 : s < low
      · rw [cv_low (s := s) zx zy (by omega), l1 s c1]
      · by_cases c2 : s = low
        · have := cv_at (by omega) x4 zx zy
          rw [show x + y = low by omega, ux, uy] at this
          rw [c2, this]
          omega
        · exact b6 s (by omega) hs
    refine ⟨b7, b8, fun i hi => ?_, ?_⟩
    · cases hi with
      | inl hi => exact ⟨zx i (by omega), zy i (by omega)⟩
      | inr hi => exact b5 i hi
    · refine (smN_eqv (f := cvN Z.1 Z.2) (g := tg) 130 fun s hs => ?_).2 ?_
      · by_cases c : s ≤ high
        · rw [le s c]
          exact Nat.le_refl _
        · rw [h1 s (by omega)]
          exact Nat.zero_le _
      · rw [cvN_tot, b7, b8, tot]
  · intro ⟨g1, g2, g3, g4⟩
    obtain ⟨x, x1, x2, x3⟩ := mn_sup (X := Z.1) 61 (by omega)
    obtain ⟨y, y1, y2, y3⟩ := mn_sup (X := Z.2) 61 (by omega)
    have lx : l ≤ x := by
      by_cases c : x < l
      · exact absurd (g3 x (Or.inl c)).1 x2
      · omega
    have ly : l ≤ y := by
      by_cases c : y < l
      · exact absurd (g3 y (Or.inl c)).2 y2
      · omega
    have ca := cv_at (by omega) (by omega) x3 y3
    have pos : 1 ≤ Z.1 x * Z.2 y := Nat.mul_pos (by omega) (by omega)
    rw [g4 (x + y) (by omega)] at ca
    have lw : x + y = low := by
      by_cases c1 : x + y < low
      · have := l1 _ c1
        omega
      · by_cases c2 : low < x + y
        · have a := cv_low (s := low) x3 y3 c2
          rw [g4 low (by omega)] at a
          exact absurd a l2
        · omega
    rw [lw] at ca
    have n1 : 1 ≤ Z.1 x := by omega
    have m1 : 1 ≤ Z.2 y := by omega
    have dv : tg low / Z.1 x = Z.2 y := by rw [ca]; exact Nat.mul_div_cancel_left _ n1
    have md : tg low % Z.1 x = 0 := by rw [ca]; exact Nat.mul_mod_right _ _
    have px := sm_one (X := Z.1) 61 x x1
    have py := sm_one (X := Z.2) 61 y y1
    have nl : Z.1 x ≤ tg low := by
      rw [ca]
      have : Z.1 x * 1 ≤ Z.1 x * Z.2 y := Nat.mul_le_mul_left _ m1
      omega
    refine ⟨x, lx, by omega, by omega, by omega, ?_⟩
    rw [oLn_mem]
    refine ⟨Z.1 x, n1, by omega, ⟨md, by omega, by rw [dv]; omega⟩, ?_⟩
    rw [show low - x = y by omega, dv]
    refine (md_mem n1 (by omega) (by omega) (high - low) (low + 1) (by omega) _ _ (root x y (Z.1 x) (Z.2 y) (by omega) (by omega) lw n1 m1)).mpr ⟨fun i hi => ?_, fun i hi => ?_, fun i hi => ?_, fun i hi => ?_, fun i hi => g3 i (Or.inr hi), fun v v1 v2 => g4 v (by omega), g1, g2⟩
    · show Z.1 i = if i = x then Z.1 x else 0
      by_cases c : i = x
      · rw [if_pos c, c]
      · rw [if_neg c]
        exact x3 i (by omega)
    · show Z.2 i = if i = y then Z.2 y else 0
      by_cases c : i = y
      · rw [if_pos c, c]
      · rw [if_neg c]
        exact y3 i (by omega)
    · by_cases c : 60 < i
      · exact (g3 i (Or.inr c)).1
      · have := cv_ge (X := Z.1) (Y := Z.2) (i := i) (j := y) (by omega) (by omega)
        rw [g4 (i + y) (by omega), h1 (i + y) (by omega)] at this
        by_cases z : Z.1 i = 0
        · exact z
        · have : 1 ≤ Z.1 i * Z.2 y := Nat.mul_pos (by omega) m1
          omega
    · by_cases c : 60 < i
      · exact (g3 i (Or.inr c)).2
      · have := cv_ge (X := Z.1) (Y := Z.2) (i := x) (j := i) (by omega) (by omega)
        rw [g4 (x + i) (by omega), h1 (x + i) (by omega)] at this
        by_cases z : Z.2 i = 0
        · exact z
        · have : 1 ≤ Z.1 x * Z.2 i := Nat.mul_pos n1 (by omega)
          omega
