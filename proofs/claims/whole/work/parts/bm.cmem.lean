/-! FaceSearch: which paths its search lists -/
theorem cv_ck {X Y : Nat → Nat} {m k t u : Nat} (hm : m ≤ 60) (hX : ∀ i, m ≤ i → X i = 0) (hY : ∀ i, m ≤ i → Y i = 0) : (cvN (upN X m t) (upN Y m u) k : Int) = (cvN X Y k : Int) + ckF (upN X m t) (upN Y m u) m k := by
  have xm : upN X m t m = t := if_pos rfl
  have ym : upN Y m u m = u := if_pos rfl
  have xo : ∀ i, i ≠ m → upN X m t i = X i := fun i hi => if_neg hi
  have yo : ∀ i, i ≠ m → upN Y m u i = Y i := fun i hi => if_neg hi
  by_cases c0 : k < m
  · have e : cvN (upN X m t) (upN Y m u) k = cvN X Y k := smN_cg 61 fun v _ => by
      unfold cvT
      by_cases c : v ≤ k ∧ k - v ≤ 60
      · rw [if_pos c, if_pos c, xo v (by omega), yo (k - v) (by omega)]
      · rw [if_neg c, if_neg c]
    rw [e]
    unfold ckF ckS
    rw [if_neg (by omega), if_neg (by omega)]
    omega
  · obtain ⟨b, hb⟩ : ∃ b, k - m = b := ⟨_, rfl⟩
    have e : cvN (upN X m t) (upN Y m u) k = smN (fun v => (cvT X Y k v + if v = m then (if b ≤ 60 then t * upN Y m u b else 0) else 0) + if v = b then (if b = m then 0 else X b * u) else 0) 61 := smN_cg 61 fun v hv => by
      by_cases c1 : v = m
      · rw [if_pos c1]
        have z : cvT X Y k v = 0 := by
          unfold cvT
          rw [c1, hX m (Nat.le_refl m), Nat.zero_mul]
          split <;> rfl
        have z2 : (if v = b then (if b = m then 0 else X b * u) else 0) = 0 := by
          by_cases c2 : v = b
          · rw [if_pos c2, if_pos (by omega)]
          · rw [if_neg c2]
        rw [z, z2, c1]
        unfold cvT
        by_cases c3 : b ≤ 60
        · rw [if_pos c3, if_pos ⟨by omega, by omega⟩, xm, hb]
          omega
        · rw [if_neg c3, if_neg (by omega)]
      · rw [if_neg c1]
        by_cases c2 : v = b
        · rw [if_pos c2, if_neg (by omega)]
          have kv : k - v = m := by omega
          unfold cvT
          rw [if_pos ⟨by omega, by omega⟩, if_pos ⟨by omega, by omega⟩, kv, ym, xo v c1, hY m (Nat.le_refl m), c2]
          omega
        · rw [if_neg c2]
          unfold cvT
          by_cases c : v ≤ k ∧ k - v ≤ 60
          · rw [if_pos c, if_pos c, xo v c1, yo (k - v) (by omega)]
            rfl
          · rw [if_neg c, if_neg c]
    rw [e, smN_ad, smN_ad, smN_at, smN_at, if_pos (show m < 61 by omega)]
    show ((cvN X Y k + _ + _ : Nat) : Int) = _
    unfold ckF ckS
    rw [xm, ym]
    by_cases c1 : b < m
    · rw [if_pos (show b ≤ 60 by omega), if_pos (show b < 61 by omega), if_neg (show ¬ b = m by omega), if_pos (by omega), if_neg (by omega), hb, xo b (by omega), Nat.mul_comm (X b) u]
      rw [Int.natCast_add, Int.natCast_add, Int.natCast_mul, Int.natCast_mul]
      omega
    · by_cases c2 : b = m
      · rw [if_pos (show b ≤ 60 by omega), if_pos (show b < 61 by omega), if_pos c2, if_neg (by omega), if_pos (by omega), c2, ym, Int.natCast_add, Int.natCast_add, Int.natCast_mul]
        omega
      · have z1 : (if b ≤ 60 then t * upN Y m u b else 0) = 0 := by
          rw [yo b c2, hY b (by omega), Nat.mul_zero]
          split <;> rfl
        have z2 : (if b < 61 then (if b = m then 0 else X b * u) else 0) = 0 := by
          rw [if_neg c2, hX b (by omega), Nat.zero_mul]
          split <;> rfl
        rw [z1, z2, if_neg (by omega), if_neg (by omega)]
        omega
theorem lF_cv {c : Nat → Int} : ∀ (n : Nat) (P : Pth), P.length = n → n ≤ 61 → ∀ k, lF c P k = c k - (cvN (fX P) (fY P) k : Int) := by
  intro n
  induction n with
  | zero =>
    intro P h _ k
    have e : P = [] := List.length_eq_zero_iff.mp h
    rw [e, lF_nil]
    have z : cvN (fX []) (fY []) k = 0 := smN_zero 61 fun v _ => by
      unfold cvT
      rw [(fX_ge (P := []) (Nat.zero_le v)).1, Nat.zero_mul]
      split <;> rfl
    rw [z]
    omega
  | succ n ih =>
    intro P h hn k
    have ne : P ≠ [] := fun z => by rw [z] at h; cases h
    have e := List.dropLast_concat_getLast ne
    have l : P.dropLast.length = n := by rw [List.length_dropLast, h]; rfl
    rw [← e, lF_app, ih P.dropLast l (by omega) k, fX_app.1, fX_app.2, l, cv_ck (X := fX P.dropLast) (Y := fY P.dropLast) (by omega) (fun i hi => (fX_ge (by omega)).1) (fun i hi => (fX_ge (by omega)).2)]
    omega
theorem cvN_mo {X Y X' Y' : Nat → Nat} {s : Nat} (hx : ∀ i, X i ≤ X' i) (hy : ∀ i, Y i ≤ Y' i) : cvN X Y s ≤ cvN X' Y' s := smN_pw (fun v => by
  unfold cvT
  split
  · exact Nat.mul_le_mul (hx v) (hy _)
  · exact Nat.le_refl _) 61
theorem cvN_lo {X Y X' Y' : Nat → Nat} {s : Nat} (h : ∀ i, i ≤ s → X i = X' i ∧ Y i = Y' i) : cvN X Y s = cvN X' Y' s := smN_cg 61 fun v _ => by
  unfold cvT
  by_cases c : v ≤ s ∧ s - v ≤ 60
  · rw [if_pos c, if_pos c, (h v c.1).1, (h (s - v) (by omega)).2]
  · rw [if_neg c, if_neg c]
theorem fX_pre {P L : Pth} {i : Nat} (h : i < P.length) : fX (P ++ L) i = fX P i ∧ fY (P ++ L) i = fY P i := by
  unfold fX fY
  rw [List.getElem?_append_left h]
  exact ⟨rfl, rfl⟩
theorem fX_le {P L : Pth} (i : Nat) : fX P i ≤ fX (P ++ L) i ∧ fY P i ≤ fY (P ++ L) i := by
  by_cases c : i < P.length
  · rw [(fX_pre c).1, (fX_pre c).2]
    exact ⟨Nat.le_refl _, Nat.le_refl _⟩
  · rw [(fX_ge (by omega)).1, (fX_ge (by omega)).2]
    exact ⟨Nat.zero_le _, Nat.zero_le _⟩
theorem sX_le {P L : Pth} : sX P ≤ sX (P ++ L) ∧ sY P ≤ sY (P ++ L) := by
  unfold sX sY
  rw [List.length_append]
  constructor
  · rw [smN_cg P.length (f := fX P) (g := fX (P ++ L)) fun i hi => (fX_pre hi).1.symm]
    exact smN_mono (by omega)
  · rw [smN_cg P.length (f := fY P) (g := fY (P ++ L)) fun i hi => (fX_pre hi).2.symm]
    exact smN_mono (by omega)
/-- what a path must be to be found -/
abbrev fdP (cn : Nat → Nat) (p q dp : Nat) (R : Pth) : Prop := R.length ≤ dp + 1 ∧ sX R = p ∧ sY R = q ∧ (∀ k, k < 130 → cvN (fX R) (fY R) k = cn k) ∧ (fX R (R.length - 1) ≠ 0 ∨ fY R (R.length - 1) ≠ 0)
/-- how far a path has come without being found -/
abbrev ivP (cn : Nat → Nat) (p q dp : Nat) (P : Pth) : Prop := P.length ≤ dp ∧ sX P ≤ p ∧ sY P ≤ q ∧ ¬ (sX P = p ∧ sY P = q) ∧ (∀ k, k < 130 → cvN (fX P) (fY P) k ≤ cn k) ∧ (P.length ≠ 0 → 1 ≤ fX P 0 ∧ 1 ≤ fY P 0)
theorem smN_len {P : Pth} (h : P.length ≤ 61) : smN (fX P) 61 = sX P ∧ smN (fY P) 61 = sY P := ⟨smN_ext h fun i hi => (fX_ge hi).1, smN_ext h fun i hi => (fX_ge hi).2⟩
theorem fn_key {cn : Nat → Nat} {p q dp : Nat} {P rest : Pth} {t u : Nat} (hdp : dp ≤ 60) (c0 : 1 ≤ cn 0) (iv : ivP cn p q dp P) (f : fdP cn p q dp (P ++ (t, u) :: rest)) : ptW (fun k => (cn k : Int)) P t = (u : Int) ∧ u ≤ q - sY P ∧ t ≤ p - sX P ∧ (P.length ≠ 0 → t * fY P 0 ≤ cn P.length - cvN (fX P) (fY P) P.length) ∧ (P.length = 0 → t ≠ 0) ∧ (∀ k, k < 130 → cvN (fX (P ++ [(t, u)])) (fY (P ++ [(t, u)])) k ≤ cn k) := by
  obtain ⟨f1, f2, f3, f4, f5⟩ := f
  obtain ⟨v1, v2, v3, v4, v5, v6⟩ := iv
  have eR : P ++ (t, u) :: rest = (P ++ [(t, u)]) ++ rest := by rw [List.append_assoc]; rfl
  rw [eR] at f1 f2 f3 f4 f5
  have sl := sX_le (P := P ++ [(t, u)]) (L := rest)
  rw [sX_app.1, sX_app.2, f2, f3] at sl
  dsimp only at sl
  have mo : ∀ k, k < 130 → cvN (fX (P ++ [(t, u)])) (fY (P ++ [(t, u)])) k ≤ cn k := fun k hk => by
    rw [← f4 k hk]
    exact cvN_mo (fun i => (fX_le i).1) (fun i => (fX_le i).2)
  have at_d : cn P.length = cvN (fX (P ++ [(t, u)])) (fY (P ++ [(t, u)])) P.length := by
    rw [← f4 P.length (by omega)]
    exact cvN_lo fun i hi => fX_pre (by rw [app_len]; omega)
  have ck := cv_ck (X := fX P) (Y := fY P) (m := P.length) (k := P.length) (t := t) (u := u) (by omega) (fun i hi => (fX_ge hi).1) (fun i hi => (fX_ge hi).2)
  have ea := fX_app (P := P) (a := (t, u))
  rw [← ea.1, ← ea.2] at ck
  have x1 : fX (P ++ [(t, u)]) P.length = t := by rw [fX_app.1]; exact if_pos rfl
  have y1 : fY (P ++ [(t, u)]) P.length = u := by rw [fX_app.2]; exact if_pos rfl
  refine ⟨?_, by omega, by omega, ?_, ?_, mo⟩
  · unfold ptW ptF
    dsimp only
    by_cases c : P.length = 0
    · rw [if_pos c, if_pos c]
      have e : P = [] := List.length_eq_zero_iff.mp c
      have z : cvN (fX P) (fY P) 0 = 0 := smN_zero 61 fun v _ => by
        unfold cvT
        rw [e, (fX_ge (P := []) (Nat.zero_le v)).1, Nat.zero_mul]
        split <;> rfl
      unfold ckF ckS at ck
      rw [if_neg (by omega), if_pos (by omega), x1, y1, c, z] at ck
      rw [c] at at_d
      rw [lF_cv (c := fun k => (cn k : Int)) P.length P rfl (by omega) 0, z]
      have tu : cn 0 = t * u := by
        have : ((t * u : Nat) : Int) = (t : Int) * u := Int.natCast_mul _ _
        omega
      have t0 : t ≠ 0 := fun z => by rw [z, Nat.zero_mul] at tu; omega
      rw [show ((cn 0 : Nat) : Int) - ((0 : Nat) : Int) = ((t * u : Nat) : Int) by rw [tu]; omega]
      have m0 : ((t * u : Nat) : Int) % (t : Int) = 0 := by
        have : ((t * u % t : Nat) : Int) = ((t * u : Nat) : Int) % (t : Int) := Int.natCast_emod _ _
        rw [← this, Nat.mul_mod_right]
        rfl
      have d0 : ((t * u : Nat) : Int) / (t : Int) = (u : Int) := by
        have : ((t * u / t : Nat) : Int) = ((t * u : Nat) : Int) / (t : Int) := Int.natCast_ediv _ _
        rw [← this, Nat.mul_div_cancel_left u (by omega)]
      rw [if_neg (by rw [m0]; omega), d0]
    · rw [if_neg c, if_neg c, lF_cv (c := fun k => (cn k : Int)) P.length P rfl (by omega) P.length]
      have v := v6 c
      unfold ckF ckS at ck
      rw [if_pos (by omega), if_neg (by omega), x1, y1, Nat.sub_self, (fX_pre (L := [(t, u)]) (show 0 < P.length by omega)).1, (fX_pre (L := [(t, u)]) (show 0 < P.length by omega)).2] at ck
      have e1 : ((t * fY P 0 : Nat) : Int) = (t : Int) * (fY P 0 : Int) := Int.natCast_mul _ _
      have e2 : ((fX P 0 * u : Nat) : Int) = (u : Int) * (fX P 0 : Int) := by rw [Nat.mul_comm]; exact Int.natCast_mul _ _
      rw [show ((cn P.length : Nat) : Int) - (cvN (fX P) (fY P) P.length : Int) - (t : Int) * (fY P 0 : Int) = ((fX P 0 * u : Nat) : Int) by omega]
      have m0 : ((fX P 0 * u : Nat) : Int) % (fX P 0 : Int) = 0 := by
        have : ((fX P 0 * u % fX P 0 : Nat) : Int) = ((fX P 0 * u : Nat) : Int) % (fX P 0 : Int) := Int.natCast_emod _ _
        rw [← this, Nat.mul_mod_right]
        rfl
      have d0 : ((fX P 0 * u : Nat) : Int) / (fX P 0 : Int) = (u : Int) := by
        have : ((fX P 0 * u / fX P 0 : Nat) : Int) = ((fX P 0 * u : Nat) : Int) / (fX P 0 : Int) := Int.natCast_ediv _ _
        rw [← this, Nat.mul_div_cancel_left u (by omega)]
      rw [if_neg (by rw [m0]; omega), d0]
  · intro c
    unfold ckF ckS at ck
    rw [if_pos (by omega), if_neg (by omega), x1, y1, Nat.sub_self, (fX_pre (L := [(t, u)]) (show 0 < P.length by omega)).1, (fX_pre (L := [(t, u)]) (show 0 < P.length by omega)).2] at ck
    have e1 : ((t * fY P 0 : Nat) : Int) = (t : Int) * (fY P 0 : Int) := Int.natCast_mul _ _
    have e2 : ((fX P 0 * u : Nat) : Int) = (u : Int) * (fX P 0 : Int) := by rw [Nat.mul_comm]; exact Int.natCast_mul _ _
    omega
  · intro c z
    unfold ckF ckS at ck
    have e : P = [] := List.length_eq_zero_iff.mp c
    have z2 : cvN (fX P) (fY P) 0 = 0 := smN_zero 61 fun v _ => by
      unfold cvT
      rw [e, (fX_ge (P := []) (Nat.zero_le v)).1, Nat.zero_mul]
      split <;> rfl
    rw [if_neg (by omega), if_pos (by omega), x1, y1, c, z2, z] at ck
    rw [c, z] at at_d
    have : ((0 : Nat) : Int) * (u : Int) = 0 := by rw [Int.natCast_zero, Int.zero_mul]
    omega
