/-! the Model: no pair is listed twice -/
def catL (f : Nat → List Pr2) : Nat → Nat → List Pr2
  | 0, _ => []
  | k + 1, t => f t ++ catL f k (t + 1)
theorem catL_mem {f : Nat → List Pr2} {Z : Pr2} : ∀ k t, Z ∈ catL f k t → ∃ u, t ≤ u ∧ u < t + k ∧ Z ∈ f u
  | 0, t, h => by cases h
  | k + 1, t, h => by
    cases List.mem_append.mp h with
    | inl h => exact ⟨t, Nat.le_refl t, by omega, h⟩
    | inr h =>
      obtain ⟨u, h1, h2, h3⟩ := catL_mem k (t + 1) h
      exact ⟨u, by omega, by omega, h3⟩
theorem nd_app {A B : List Pr2} (ha : A.Nodup) (hb : B.Nodup) (h : ∀ Z, Z ∈ A → Z ∈ B → False) : (A ++ B).Nodup := by
  rw [List.nodup_append]
  refine ⟨ha, hb, fun a h1 b h2 e => h a h1 (by rw [e]; exact h2)⟩
theorem catL_nd {f : Nat → List Pr2} : ∀ k t, (∀ u, t ≤ u → u < t + k → (f u).Nodup) → (∀ u v Z, t ≤ u → u < t + k → t ≤ v → v < t + k → Z ∈ f u → Z ∈ f v → u = v) → (catL f k t).Nodup
  | 0, _, _, _ => List.nodup_nil
  | k + 1, t, h1, h2 => by
    refine nd_app (h1 t (Nat.le_refl t) (by omega)) (catL_nd k (t + 1) (fun u a b => h1 u (by omega) (by omega)) fun u v Z a b c d => h2 u v Z (by omega) (by omega) (by omega) (by omega)) fun Z a b => ?_
    obtain ⟨u, u1, u2, u3⟩ := catL_mem k (t + 1) b
    have := h2 t u Z (Nat.le_refl t) (by omega) (by omega) (by omega) a u3
    omega
theorem catL_nil {f : Nat → List Pr2} : ∀ k t, (∀ u, t ≤ u → f u = []) → catL f k t = []
  | 0, _, _ => rfl
  | k + 1, t, h => by
    show f t ++ catL f k (t + 1) = []
    rw [h t (Nat.le_refl t), catL_nil k (t + 1) fun u hu => h u (by omega)]
    rfl
theorem opL_cat {n P Q x y s : Nat} {ch : (Nat → Nat) → (Nat → Nat) → List Pr2} {X Y : Nat → Nat} {l : Nat} : ∀ j t, opL n P Q x y s ch X Y l j t = catL (fun u => if okT n P Q x y s X Y l u then ch (upS X (s - y) u) (upS Y (s - x) ((l - u * Y y) / n)) else []) j t
  | 0, _ => rfl
  | j + 1, t => by
    show _ ++ opL n P Q x y s ch X Y l j (t + 1) = _ ++ catL _ j (t + 1)
    rw [opL_cat j (t + 1)]
theorem oLn_cat {tg : Nat → Nat} {p q x low high : Nat} : ∀ k n, oLn tg p q x low high k n = catL (fun u => if tg low % u = 0 ∧ u ≤ p ∧ tg low / u ≤ q then mdL tg u p q x (low - x) high (high - low) (sgN x u) (sgN (low - x) (tg low / u)) else []) k n
  | 0, _ => rfl
  | k + 1, n => by
    show _ ++ oLn tg p q x low high k (n + 1) = _ ++ catL _ k (n + 1)
    rw [oLn_cat k (n + 1)]
theorem oLx_cat {tg : Nat → Nat} {p q l low high : Nat} : ∀ k x, oLx tg p q l low high k x = catL (fun u => if u + l ≤ low then (if low - u ≤ 60 then oLn tg p q u low high (tg low) 1 else []) else []) k x
  | 0, _ => rfl
  | k + 1, x => by
    show (if x + l ≤ low then (if low - x ≤ 60 then oLn tg p q x low high (tg low) 1 else []) ++ oLx tg p q l low high k (x + 1) else []) = (if x + l ≤ low then (if low - x ≤ 60 then oLn tg p q x low high (tg low) 1 else []) else []) ++ catL _ k (x + 1)
    by_cases c : x + l ≤ low
    · rw [if_pos c, if_pos c, oLx_cat k (x + 1)]
    · rw [if_neg c, if_neg c, catL_nil k (x + 1) fun u hu => if_neg (by omega)]
      rfl
theorem md_nd {tg : Nat → Nat} {n P Q x y high : Nat} (hn : 1 ≤ n) (hx : x ≤ 60) (hy : y ≤ 60) : ∀ (k s : Nat), k + s = high + 1 → ∀ (X Y : Nat → Nat), msT n x y s X Y → (mdL tg n P Q x y high k X Y).Nodup := by
  intro k
  induction k with
  | zero =>
    intro s hs X Y st
    show (if smN X 61 = P ∧ smN Y 61 = Q then [(X, Y)] else []).Nodup
    split
    · exact List.nodup_cons.mpr ⟨List.not_mem_nil, List.nodup_nil⟩
    · exact List.nodup_nil
  | succ k ih =>
    intro s hs X Y st
    have esk : high - k = s := by omega
    have em : mdL tg n P Q x y high (k + 1) X Y = if cvN X Y s ≤ tg s then opL n P Q x y s (mdL tg n P Q x y high k) X Y (tg s - cvN X Y s) (tg s - cvN X Y s + 1) 0 else [] := by
      rw [← esk]
      rfl
    rw [em]
    obtain ⟨a1, a2, a3, a4, a5, a6, a7, a8⟩ := st
    have upz : ∀ (X : Nat → Nat) (i t j : Nat), j ≠ i → upS X i t j = X j := fun X i t j hj => by
      unfold upS
      by_cases c : i ≤ 60
      · rw [if_pos c]
        exact if_neg hj
      · rw [if_neg c]
    have st1 : ∀ t r, msT n x y (s + 1) (upS X (s - y) t) (upS Y (s - x) r) := fun t r => by
      refine ⟨by rw [upz X _ _ x (by omega)]; exact a1, fun i hi => by rw [upz X _ _ i (by omega)]; exact a2 i hi, by rw [upz Y _ _ y (by omega)]; exact a3, fun i hi => by rw [upz Y _ _ i (by omega)]; exact a4 i hi, fun i hi => by rw [upz X _ _ i (by omega)]; exact a5 i (by omega), fun i hi => by rw [upz Y _ _ i (by omega)]; exact a6 i (by omega), fun i hi => ?_, by omega⟩
      have := a7 i hi
      unfold upS
      constructor
      · by_cases c : s - y ≤ 60
        · rw [if_pos c]
          show (if i = s - y then t else X i) = 0
          rw [if_neg (by omega)]
          exact this.1
        · rw [if_neg c]
          exact this.1
      · by_cases c : s - x ≤ 60
        · rw [if_pos c]
          show (if i = s - x then r else Y i) = 0
          rw [if_neg (by omega)]
          exact this.2
        · rw [if_neg c]
          exact this.2
    by_cases c : cvN X Y s ≤ tg s
    · rw [if_pos c, opL_cat]
      refine catL_nd _ _ (fun u _ _ => ?_) (fun u v Z _ _ _ _ hu hv => ?_)
      · split
        · exact ih (s + 1) (by omega) _ _ (st1 _ _)
        · exact List.nodup_nil
      · split at hu
        · split at hv
          · rename_i ku kv
            have b1 := ((md_mem hn hx hy k (s + 1) (by omega) _ _ (st1 u _)).mp hu).1 (s - y) (by omega)
            have b2 := ((md_mem hn hx hy k (s + 1) (by omega) _ _ (st1 v _)).mp hv).1 (s - y) (by omega)
            by_cases c2 : s - y ≤ 60
            · unfold upS at b1 b2
              rw [if_pos c2] at b1 b2
              change _ = (if s - y = s - y then u else X (s - y)) at b1
              change _ = (if s - y = s - y then v else X (s - y)) at b2
              rw [if_pos rfl] at b1 b2
              omega
            · have := ku.2.2.1
              have := kv.2.2.1
              omega
          · cases hv
        · cases hu
    · rw [if_neg c]
      exact List.nodup_nil
theorem oLL_nd {tg : Nat → Nat} {p q l low high : Nat} (l2 : tg low ≠ 0) (hlh : low ≤ high) : (oLL tg p q l low high).Nodup := by
  show (oLx tg p q l low high (61 - l) l).Nodup
  have root : ∀ x y n m, x ≤ 60 → y ≤ 60 → x + y = low → 1 ≤ n → 1 ≤ m → msT n x y (low + 1) (sgN x n) (sgN y m) := fun x y n m hx hy hxy hn hm => by
    refine ⟨if_pos rfl, fun i hi => if_neg (by omega), ?_, fun i hi => if_neg (by omega), fun i hi => if_neg (by omega), fun i hi => if_neg (by omega), fun i hi => ⟨if_neg (by omega), if_neg (by omega)⟩, by omega⟩
    show 1 ≤ if y = y then m else 0
    rw [if_pos rfl]
    exact hm
  have rm : ∀ x n, x ≤ 60 → x ≤ low → low - x ≤ 60 → 1 ≤ n → tg low % n = 0 → msT n x (low - x) (low + 1) (sgN x n) (sgN (low - x) (tg low / n)) := fun x n h1 h2 h3 h4 h5 => by
    refine root x (low - x) n (tg low / n) h1 h3 (by omega) h4 ?_
    have dm := Nat.div_add_mod (tg low) n
    rw [h5] at dm
    cases hq : tg low / n with
    | zero => rw [hq, Nat.mul_zero] at dm; omega
    | succ m => omega
  -- what its first FACES are
  have fst : ∀ x Z, x ≤ 60 → x ≤ low → low - x ≤ 60 → Z ∈ oLn tg p q x low high (tg low) 1 → Z.1 x ≠ 0 ∧ ∀ i, i < x → Z.1 i = 0 := fun x Z h1 h2 h3 h => by
    obtain ⟨n, n1, n2, ⟨n3, n4, n5⟩, h⟩ := (oLn_mem (tg low) 1).mp h
    have b := ((md_mem n1 h1 h3 (high - low) (low + 1) (by omega) _ _ (rm x n h1 h2 h3 n1 n3)).mp h).1
    constructor
    · rw [b x (by omega)]
      show (if x = x then n else 0) ≠ 0
      rw [if_pos rfl]
      omega
    · intro i hi
      rw [b i (by omega)]
      exact if_neg (by omega)
  rw [oLx_cat]
  refine catL_nd _ _ (fun x a b => ?_) (fun u v Z a b c d hu hv => ?_)
  · split
    · split
      · rename_i c1 c2
        rw [oLn_cat]
        refine catL_nd _ _ (fun n a b => ?_) (fun u v Z a b c d hu hv => ?_)
        · split
          · rename_i c3
            exact md_nd a (by omega) c2 (high - low) (low + 1) (by omega) _ _ (rm x n (by omega) (by omega) c2 a c3.1)
          · exact List.nodup_nil
        · split at hu
          · split at hv
            · rename_i k1 k2
              have b1 := ((md_mem a (by omega) c2 (high - low) (low + 1) (by omega) _ _ (rm x u (by omega) (by omega) c2 a k1.1)).mp hu).1 x (by omega)
              have b2 := ((md_mem c (by omega) c2 (high - low) (low + 1) (by omega) _ _ (rm x v (by omega) (by omega) c2 c k2.1)).mp hv).1 x (by omega)
              change _ = (if x = x then u else 0) at b1
              change _ = (if x = x then v else 0) at b2
              rw [if_pos rfl] at b1 b2
              omega
            · cases hv
          · cases hu
      · exact List.nodup_nil
    · exact List.nodup_nil
  · split at hu
    · split at hu
      · split at hv
        · split at hv
          · rename_i c1 c2 c3 c4
            have f1 := fst u Z (by omega) (by omega) c2 hu
            have f2 := fst v Z (by omega) (by omega) c4 hv
            by_cases z1 : u < v
            · exact absurd (f2.2 u z1) f1.1
            · by_cases z2 : v < u
              · exact absurd (f1.2 v z2) f2.1
              · omega
          · cases hv
        · cases hv
      · cases hu
    · cases hu
