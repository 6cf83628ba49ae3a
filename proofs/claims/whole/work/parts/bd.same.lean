/-! the words found are the same -/
theorem lstW_0 (u : Nat → Nat) : lstW u 0 = [] := rfl
theorem ok_0 {n f : Nat} (r : List Nat) : okP n f 0 0 r := by
  show if (0 : Nat) = 0 then ∀ a b, a < n → b < n → tld 0 a b → cbP f a b r else _
  rw [if_pos rfl]
  intro a b _ _ h
  change (0 : Nat).testBit _ = true at h
  rw [Nat.zero_testBit] at h
  cases h
theorem cf_eq {n f q : Nat} (hn : 2 ≤ n ∧ n ≤ 4) (hq : q < 8) : cfP n f q ↔ cfM n f q := by
  have q4 : q &&& 4 = 0 ↔ q < 4 := by
    have : q = 0 ∨ q = 1 ∨ q = 2 ∨ q = 3 ∨ q = 4 ∨ q = 5 ∨ q = 6 ∨ q = 7 := by omega
    rcases this with z | z | z | z | z | z | z | z <;> subst z <;> decide
  have dv : f ^ n % fac n = 0 → f ^ n % n = 0 := fun h => by
    have hc : n = 2 ∨ n = 3 ∨ n = 4 := by omega
    rcases hc with z | z | z <;> subst z
    · exact h
    · have h : f ^ 3 % 6 = 0 := h
      omega
    · have h : f ^ 4 % 24 = 0 := h
      omega
  unfold cfP cfM
  rw [q4]
  constructor
  · rintro ⟨a, b⟩
    exact ⟨fun z => by omega, fun z => by omega⟩
  · rintro ⟨a, b⟩
    refine ⟨?_, by omega⟩
    by_cases z : q = 0
    · exact Or.inl z
    · by_cases z4 : 4 ≤ q
      · exact Or.inr (dv (b z4))
      · exact Or.inr (a (by omega))
theorem fair_some {n f q : Nat} (hn : 2 ≤ n ∧ n ≤ 4) (hq : q < 8) {r : List Nat} (h : exF n f q 0 (n * f) [] = some r) : ∃ w, r = lstW w (n * f) ∧ wdP2 n f (n * f) w ∧ gdM n (n * f) q w ∧ ∀ v, wdP2 n f (n * f) v → gdM n (n * f) q v → ¬ lxP (n * f) v w := by
  have a := (exF_go (n := n) (f := f) (fb := q) (wt := 0) (n * f) 0 fun _ => 0).1 r h
  rw [Nat.zero_add] at a
  obtain ⟨w, w1, w2, w3⟩ := a
  refine ⟨w, w2, go_wd w1, (fn_gd hn hq w (n * f)).mp w1.2.2.2, fun v pv gv => w3 v (wd_go pv (fun j _ j2 => ?_) ((fn_gd hn hq v (n * f)).mpr gv))⟩
  by_cases z : q = 0
  · rw [z]
    exact ok_0 _
  · exact gd_ok hn hq z pv gv j j2
theorem fair_none {n f q : Nat} (hn : 2 ≤ n ∧ n ≤ 4) (hq : q < 8) (h : exF n f q 0 (n * f) [] = none) (v : Nat → Nat) (pv : wdP2 n f (n * f) v) : ¬ gdM n (n * f) q v := fun gv => by
  have a := (exF_go (n := n) (f := f) (fb := q) (wt := 0) (n * f) 0 fun _ => 0).2 h v
  rw [Nat.zero_add] at a
  refine a (wd_go pv (fun j _ j2 => ?_) ((fn_gd hn hq v (n * f)).mpr gv))
  by_cases z : q = 0
  · rw [z]
    exact ok_0 _
  · exact gd_ok hn hq z pv gv j j2
theorem laid_some {B : Nat → Int} {n f np : Nat} (hb : ∀ i, 0 ≤ B i ∧ B i ≤ 255) (hn : 2 ≤ n ∧ n ≤ 4) (hf : 1 ≤ f) (hp : ∀ i, i < np → laP B n i) {r : List Nat} (h : exF n f 0 (wtB B np) (n * f) [] = some r) : ∃ w, r = lstW w (n * f) ∧ wdP2 n f (n * f) w ∧ laG B np n f w ∧ ∀ v, wdP2 n f (n * f) v → laG B np n f v → ¬ lxP (n * f) v w := by
  have a := (exF_go (n := n) (f := f) (fb := 0) (wt := wtB B np) (n * f) 0 fun _ => 0).1 r h
  rw [Nat.zero_add] at a
  obtain ⟨w, w1, w2, w3⟩ := a
  have pw := go_wd w1
  have p := Nat.mul_pos (show 0 < n by omega) (show 0 < f by omega)
  refine ⟨w, w2, pw, (la_ok hb hn.2 hp pw).1.mp (w1.2.2.1 (n * f) p (Nat.le_refl _)), fun v pv gv => w3 v (wd_go pv (fun j _ j2 => (la_ok hb hn.2 hp pv).2 gv j j2) (Or.inl rfl))⟩
theorem laid_none {B : Nat → Int} {n f np : Nat} (hb : ∀ i, 0 ≤ B i ∧ B i ≤ 255) (hn : 2 ≤ n ∧ n ≤ 4) (hp : ∀ i, i < np → laP B n i) (h : exF n f 0 (wtB B np) (n * f) [] = none) (v : Nat → Nat) (pv : wdP2 n f (n * f) v) : ¬ laG B np n f v := fun gv => by
  have a := (exF_go (n := n) (f := f) (fb := 0) (wt := wtB B np) (n * f) 0 fun _ => 0).2 h v
  rw [Nat.zero_add] at a
  exact a (wd_go pv (fun j _ j2 => (la_ok hb hn.2 hp pv).2 gv j j2) (Or.inl rfl))
/-- the first of the good words is one alone -/
theorem lx_uniq {n f L : Nat} {G : (Nat → Nat) → Prop} {v w : Nat → Nat} (pv : wdP2 n f L v) (pw : wdP2 n f L w) (gv : G v) (gw : G w) (hv : ∀ u, wdP2 n f L u → G u → ¬ lxP L u v) (hw : ∀ u, wdP2 n f L u → G u → ¬ lxP L u w) : ∀ i, i < L → v i = w i := by
  rcases lx_tri v w L with z | z | z
  · exact absurd z (hw v pv gv)
  · exact absurd z (hv w pw gw)
  · exact z
theorem lst_get (w : Nat → Nat) : ∀ (L i : Nat), i < L → (lstW w L).reverse[i]? = some (w i)
  | 0, i, h => absurd h (by omega)
  | L + 1, i, h => by
    show (w L :: lstW w L).reverse[i]? = some (w i)
    rw [List.reverse_cons]
    have l : (lstW w L).reverse.length = L := by rw [List.length_reverse, lst_len]
    by_cases c : i < L
    · rw [List.getElem?_append_left (by omega)]
      exact lst_get w L i c
    · have e : i = L := by omega
      rw [List.getElem?_append_right (by omega), e, l, Nat.sub_self]
      rfl
theorem lt_ls (B : Nat → Int) : ∀ k, ltL B k = lstW (ltB B) k
  | 0 => rfl
  | k + 1 => by
    show (B k - 97).toNat :: ltL B k = ltB B k :: lstW (ltB B) k
    rw [lt_ls B k]
