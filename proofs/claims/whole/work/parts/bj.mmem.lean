/-! the Model: which pairs its search lists -/
theorem smN_pw {f g : Nat → Nat} (h : ∀ i, f i ≤ g i) : ∀ n, smN f n ≤ smN g n
  | 0 => Nat.le_refl _
  | n + 1 => Nat.add_le_add (smN_pw h n) (h n)
theorem smN_at {a c : Nat} : ∀ n, smN (fun v => if v = a then c else 0) n = if a < n then c else 0
  | 0 => by rw [if_neg (by omega)]; rfl
  | n + 1 => by
    show smN (fun v => if v = a then c else 0) n + (if n = a then c else 0) = _
    rw [smN_at n]
    by_cases c1 : n = a
    · rw [if_neg (by omega), if_pos c1, if_pos (by omega)]
      omega
    · by_cases c2 : a < n
      · rw [if_pos c2, if_neg c1, if_pos (by omega)]
        rfl
      · rw [if_neg c2, if_neg c1, if_neg (by omega)]
/-- the state of the search at the sum s -/
abbrev msT (n x y s : Nat) (X Y : Nat → Nat) : Prop := X x = n ∧ (∀ i, i < x → X i = 0) ∧ 1 ≤ Y y ∧ (∀ i, i < y → Y i = 0) ∧ (∀ i, s - y ≤ i → X i = 0) ∧ (∀ i, s - x ≤ i → Y i = 0) ∧ (∀ i, 60 < i → X i = 0 ∧ Y i = 0) ∧ x + y < s
/-- Z goes on as X and Y do below the sum s, and is right from there on -/
abbrev mdP (tg : Nat → Nat) (P Q x y high s : Nat) (X Y : Nat → Nat) (Z : Pr2) : Prop := (∀ i, i < s - y → Z.1 i = X i) ∧ (∀ i, i < s - x → Z.2 i = Y i) ∧ (∀ i, high - y < i → Z.1 i = 0) ∧ (∀ i, high - x < i → Z.2 i = 0) ∧ (∀ i, 60 < i → Z.1 i = 0 ∧ Z.2 i = 0) ∧ (∀ v, s ≤ v → v ≤ high → cvN Z.1 Z.2 v = tg v) ∧ smN Z.1 61 = P ∧ smN Z.2 61 = Q
theorem cv_st {n x y s : Nat} {X Y : Nat → Nat} {Z : Pr2} (hx : x ≤ 60) (hy : y ≤ 60) (st : msT n x y s X Y) (h1 : ∀ i, i < s - y → Z.1 i = X i) (h2 : ∀ i, i < s - x → Z.2 i = Y i) (h6 : ∀ i, 60 < i → Z.1 i = 0 ∧ Z.2 i = 0) : cvN Z.1 Z.2 s = cvN X Y s + Z.1 (s - y) * Y y + n * Z.2 (s - x) := by
  obtain ⟨a1, a2, a3, a4, a5, a6, a7, a8⟩ := st
  have e : cvN Z.1 Z.2 s = smN (fun v => (cvT X Y s v + if v = s - y then Z.1 (s - y) * Y y else 0) + if v = x then n * Z.2 (s - x) else 0) 61 := by
    refine smN_cg 61 fun v hv => ?_
    by_cases c1 : v = x
    · rw [if_neg (by omega), if_pos c1, c1]
      have z : cvT X Y s x = 0 := by
        unfold cvT
        rw [a6 (s - x) (Nat.le_refl _), Nat.mul_zero]
        split <;> rfl
      rw [z]
      unfold cvT
      by_cases c2 : s - x ≤ 60
      · rw [if_pos ⟨by omega, c2⟩, h1 x (by omega), a1]
        omega
      · rw [if_neg fun z => c2 z.2, (h6 (s - x) (by omega)).2]
        rfl
    · by_cases c2 : v = s - y
      · rw [if_pos c2, if_neg c1, c2]
        have z : cvT X Y s (s - y) = 0 := by
          unfold cvT
          rw [a5 (s - y) (Nat.le_refl _), Nat.zero_mul]
          split <;> rfl
        rw [z]
        unfold cvT
        have e : s - (s - y) = y := by omega
        rw [e, if_pos ⟨by omega, hy⟩, h2 y (by omega)]
        omega
      · rw [if_neg c2, if_neg c1]
        show cvT Z.1 Z.2 s v = cvT X Y s v
        unfold cvT
        by_cases c3 : v ≤ s ∧ s - v ≤ 60
        · rw [if_pos c3, if_pos c3]
          by_cases c4 : v < s - y
          · rw [h1 v c4]
            by_cases c5 : v < x
            · rw [a2 v c5, Nat.zero_mul, Nat.zero_mul]
            · rw [h2 (s - v) (by omega)]
          · rw [h2 (s - v) (by omega), a4 (s - v) (by omega), Nat.mul_zero, Nat.mul_zero]
        · rw [if_neg c3, if_neg c3]
  rw [e, smN_ad, smN_ad, smN_at, smN_at]
  show cvN X Y s + _ + _ = _
  rw [if_pos (show x < 61 by omega)]
  by_cases c : s - y < 61
  · rw [if_pos c]
  · rw [if_neg c, (h6 (s - y) (by omega)).1, Nat.zero_mul]
theorem opL_mem {n P Q x y s : Nat} {ch : (Nat → Nat) → (Nat → Nat) → List Pr2} {X Y : Nat → Nat} {l : Nat} {Z : Pr2} : ∀ (j t : Nat), Z ∈ opL n P Q x y s ch X Y l j t ↔ ∃ u, t ≤ u ∧ u < t + j ∧ okT n P Q x y s X Y l u ∧ Z ∈ ch (upS X (s - y) u) (upS Y (s - x) ((l - u * Y y) / n))
  | 0, t => by
    constructor
    · intro h
      cases h
    · intro ⟨u, h1, h2, _⟩
      omega
  | j + 1, t => by
    have ih := opL_mem (n := n) (P := P) (Q := Q) (x := x) (y := y) (s := s) (ch := ch) (X := X) (Y := Y) (l := l) (Z := Z) j (t + 1)
    show Z ∈ (if okT n P Q x y s X Y l t then ch (upS X (s - y) t) (upS Y (s - x) ((l - t * Y y) / n)) else []) ++ opL n P Q x y s ch X Y l j (t + 1) ↔ _
    rw [List.mem_append, ih]
    constructor
    · intro h
      cases h with
      | inl h =>
        by_cases c : okT n P Q x y s X Y l t
        · rw [if_pos c] at h
          exact ⟨t, Nat.le_refl t, by omega, c, h⟩
        · rw [if_neg c] at h
          cases h
      | inr h =>
        obtain ⟨u, h1, h2, h3⟩ := h
        exact ⟨u, by omega, by omega, h3⟩
    · intro ⟨u, h1, h2, h3, h4⟩
      by_cases c : u = t
      · left
        rw [c] at h3 h4
        rw [if_pos h3]
        exact h4
      · right
        exact ⟨u, by omega, by omega, h3, h4⟩
theorem md_mem {tg : Nat → Nat} {n P Q x y high : Nat} {Z : Pr2} (hn : 1 ≤ n) (hx : x ≤ 60) (hy : y ≤ 60) : ∀ (k s : Nat), k + s = high + 1 → ∀ (X Y : Nat → Nat), msT n x y s X Y → (Z ∈ mdL tg n P Q x y high k X Y ↔ mdP tg P Q x y high s X Y Z) := by
  intro k
  induction k with
  | zero =>
    intro s hs X Y st
    have em : mdL tg n P Q x y high 0 X Y = if smN X 61 = P ∧ smN Y 61 = Q then [(X, Y)] else [] := rfl
    rw [em]
    have st0 := st
    obtain ⟨a1, a2, a3, a4, a5, a6, a7, a8⟩ := st
    constructor
    · intro h
      by_cases c : smN X 61 = P ∧ smN Y 61 = Q
      · rw [if_pos c] at h
        have e : Z = (X, Y) := List.mem_singleton.mp h
        rw [e]
        exact ⟨fun _ _ => rfl, fun _ _ => rfl, fun i hi => a5 i (by omega), fun i hi => a6 i (by omega), a7, fun v h1 h2 => by omega, c⟩
      · rw [if_neg c] at h
        cases h
    · intro ⟨h1, h2, h3, h4, h5, h6, h7, h8⟩
      have e1 : Z.1 = X := funext fun i => by
        by_cases c : i < s - y
        · exact h1 i c
        · rw [h3 i (by omega), a5 i (by omega)]
      have e2 : Z.2 = Y := funext fun i => by
        by_cases c : i < s - x
        · exact h2 i c
        · rw [h4 i (by omega), a6 i (by omega)]
      rw [← e1, ← e2, if_pos ⟨h7, h8⟩]
      exact List.mem_singleton.mpr rfl
  | succ k ih =>
    intro s hs X Y st
    have esk : high - k = s := by omega
    have em : mdL tg n P Q x y high (k + 1) X Y = if cvN X Y s ≤ tg s then opL n P Q x y s (mdL tg n P Q x y high k) X Y (tg s - cvN X Y s) (tg s - cvN X Y s + 1) 0 else [] := by
      rw [← esk]
      rfl
    rw [em]
    have st0 := st
    obtain ⟨a1, a2, a3, a4, a5, a6, a7, a8⟩ := st
    have upa : ∀ (X : Nat → Nat) (i t : Nat), (i ≤ 60 ∨ t = X i) → upS X i t i = t := fun X i t h => by
      unfold upS
      by_cases c : i ≤ 60
      · rw [if_pos c]
        exact if_pos rfl
      · rw [if_neg c]
        omega
    have upz : ∀ (X : Nat → Nat) (i t j : Nat), j ≠ i → upS X i t j = X j := fun X i t j hj => by
      unfold upS
      by_cases c : i ≤ 60
      · rw [if_pos c]
        exact if_neg hj
      · rw [if_neg c]
    have st1 : ∀ t r, (∀ i, 60 < i → upS X (s - y) t i = 0 ∧ upS Y (s - x) r i = 0) → msT n x y (s + 1) (upS X (s - y) t) (upS Y (s - x) r) := fun t r h60 => by
      refine ⟨by rw [upz X _ _ x (by omega)]; exact a1, fun i hi => by rw [upz X _ _ i (by omega)]; exact a2 i hi, by rw [upz Y _ _ y (by omega)]; exact a3, fun i hi => by rw [upz Y _ _ i (by omega)]; exact a4 i hi, fun i hi => by rw [upz X _ _ i (by omega)]; exact a5 i (by omega), fun i hi => by rw [upz Y _ _ i (by omega)]; exact a6 i (by omega), h60, by omega⟩
    have h60 : ∀ t r i, 60 < i → upS X (s - y) t i = 0 ∧ upS Y (s - x) r i = 0 := fun t r i hi => by
      unfold upS
      have := a7 i hi
      constructor
      · by_cases c : s - y ≤ 60
        · rw [if_pos c]
          show (if i = s - y then t else X i) = 0
          rw [if_neg (by omega)]
          exact this.1
        · rw [if_neg c]
          exact this.1
      · by_cases c : s - x ≤ 60
        · rw [if_pos c]
          show (if i = s - x then r else Y i) = 0
          rw [if_neg (by omega)]
          exact this.2
        · rw [if_neg c]
          exact this.2
    constructor
    · intro h
      by_cases c : cvN X Y s ≤ tg s
      · rw [if_pos c, opL_mem] at h
        obtain ⟨u, _, _, ok, hz⟩ := h
        obtain ⟨o1, o2, o3, o4, o5, o6⟩ := ok
        generalize hR : (tg s - cvN X Y s - u * Y y) / n = r at hz
        have er : n * r = tg s - cvN X Y s - u * Y y := by
          have := Nat.div_add_mod (tg s - cvN X Y s - u * Y y) n
          rw [o2, hR] at this
          exact this
        obtain ⟨h1, h2, h3, h4, h5, h6, h7, h8⟩ := (ih (s + 1) (by omega) _ _ (st1 u r (h60 u r))).mp hz
        have b1 : ∀ i, i < s - y → Z.1 i = X i := fun i hi => by rw [h1 i (by omega), upz X _ _ i (by omega)]
        have b2 : ∀ i, i < s - x → Z.2 i = Y i := fun i hi => by rw [h2 i (by omega), upz Y _ _ i (by omega)]
        refine ⟨b1, b2, h3, h4, h5, fun v v1 v2 => ?_, h7, h8⟩
        by_cases cv : v = s
        · have r0 : s - x ≤ 60 ∨ r = 0 := by
            cases o4 with
            | inl o4 =>
              right
              rw [← hR, o4, Nat.zero_div]
            | inr o4 => exact Or.inl o4
          have t1 : Z.1 (s - y) = u := by
            rw [h1 (s - y) (by omega)]
            refine upa X (s - y) u ?_
            rw [a5 (s - y) (Nat.le_refl _)]
            omega
          have t2 : Z.2 (s - x) = r := by
            rw [h2 (s - x) (by omega)]
            refine upa Y (s - x) r ?_
            rw [a6 (s - x) (Nat.le_refl _)]
            exact r0
          rw [cv, cv_st hx hy st0 b1 b2 h5, t1, t2, er]
          omega
        · exact h6 v (by omega) v2
      · rw [if_neg c] at h
        cases h
    · intro ⟨h1, h2, h3, h4, h5, h6, h7, h8⟩
      have cv := cv_st hx hy st0 h1 h2 h5
      rw [h6 s (Nat.le_refl s) (by omega)] at cv
      obtain ⟨u, hu⟩ : ∃ u, Z.1 (s - y) = u := ⟨_, rfl⟩
      obtain ⟨r, hr⟩ : ∃ r, Z.2 (s - x) = r := ⟨_, rfl⟩
      rw [hu, hr] at cv
      have u0 : u = 0 ∨ s - y ≤ 60 := by
        by_cases c : s - y ≤ 60
        · exact Or.inr c
        · left; rw [← hu]; exact (h5 _ (by omega)).1
      have r0 : r = 0 ∨ s - x ≤ 60 := by
        by_cases c : s - x ≤ 60
        · exact Or.inr c
        · left; rw [← hr]; exact (h5 _ (by omega)).2
      have lr : tg s - cvN X Y s - u * Y y = n * r := by omega
      have dr : (tg s - cvN X Y s - u * Y y) / n = r := by rw [lr]; exact Nat.mul_div_cancel_left r (by omega)
      have mr : (tg s - cvN X Y s - u * Y y) % n = 0 := by rw [lr]; exact Nat.mul_mod_right n r
      have q1 : ∀ i, i < s + 1 - y → Z.1 i = upS X (s - y) u i := fun i hi => by
        by_cases c : i = s - y
        · rw [c, hu, upa X (s - y) u (by rw [a5 (s - y) (Nat.le_refl _)]; omega)]
        · rw [upz X _ _ i c]
          exact h1 i (by omega)
      have q2 : ∀ i, i < s + 1 - x → Z.2 i = upS Y (s - x) r i := fun i hi => by
        by_cases c : i = s - x
        · rw [c, hr, upa Y (s - x) r (by rw [a6 (s - x) (Nat.le_refl _)]; omega)]
        · rw [upz Y _ _ i c]
          exact h2 i (by omega)
      have s1 : smN X 61 + u ≤ P := by
        rw [← sm_upS (X := X) (i := s - y) (t := u) (fun _ => a5 _ (Nat.le_refl _)) (by omega), ← h7]
        refine smN_pw (fun i => ?_) 61
        by_cases c : i < s + 1 - y
        · rw [q1 i c]
          exact Nat.le_refl _
        · rw [upz X _ _ i (by omega), a5 i (by omega)]
          exact Nat.zero_le _
      have s2 : smN Y 61 + r ≤ Q := by
        rw [← sm_upS (X := Y) (i := s - x) (t := r) (fun _ => a6 _ (Nat.le_refl _)) (by omega), ← h8]
        refine smN_pw (fun i => ?_) 61
        by_cases c : i < s + 1 - x
        · rw [q2 i c]
          exact Nat.le_refl _
        · rw [upz Y _ _ i (by omega), a6 i (by omega)]
          exact Nat.zero_le _
      have ul : u ≤ tg s - cvN X Y s := by
        have : u * 1 ≤ u * Y y := Nat.mul_le_mul_left u a3
        omega
      rw [if_pos (by omega), opL_mem]
      refine ⟨u, Nat.zero_le u, by omega, ⟨by omega, mr, u0, ?_, s1, by rw [dr]; exact s2⟩, ?_⟩
      · rw [lr]
        cases r0 with
        | inl r0 => left; rw [r0]; rfl
        | inr r0 => exact Or.inr r0
      · rw [dr]
        exact (ih (s + 1) (by omega) _ _ (st1 u r (h60 u r))).mpr ⟨q1, q2, h3, h4, h5, fun v v1 v2 => h6 v (by omega) v2, h7, h8⟩
