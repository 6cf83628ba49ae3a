/-! FaceSearch: how many steps the walk takes at most -/
/-- in how many ways a and b steps can be mixed -/
def bn : Nat → Nat → Nat
  | 0, _ => 1
  | a + 1, b => smN (fun i => bn a i) (b + 1)
theorem bn_pos : ∀ a b, 1 ≤ bn a b
  | 0, _ => Nat.le_refl 1
  | a + 1, b => by
    show 1 ≤ smN (fun i => bn a i) b + bn a b
    have := bn_pos a b
    omega
theorem bn_s (a b : Nat) : bn (a + 1) (b + 1) = bn (a + 1) b + bn a (b + 1) := rfl
theorem bn_mono {a b : Nat} : ∀ {b' : Nat}, b ≤ b' → bn a b ≤ bn a b'
  | 0, h => by rw [show b = 0 by omega]; exact Nat.le_refl _
  | b' + 1, h => by
    by_cases c : b = b' + 1
    · rw [c]; exact Nat.le_refl _
    · have h1 := bn_mono (a := a) (show b ≤ b' by omega)
      cases a with
      | zero => exact Nat.le_refl _
      | succ a =>
        rw [bn_s]
        omega
abbrev opP (c : Nat → Int) (q : Nat) (P : Pth) (t : Nat) : Prop := ¬ (P.length = 0 ∧ t = 0) ∧ 0 ≤ ptW c P t ∧ ptW c P t ≤ ((q - sY P : Nat) : Int)
noncomputable def tqF (c : Nat → Int) (p q : Nat) (P : Pth) : Nat → Nat
  | 0 => 0
  | t + 1 => tqF c p q P t + (@ite _ (opP c q P t) (Classical.propDecidable _) (bn (p - sX P - t) (q - sY P - (ptW c P t).toNat)) 0)
/-- no option lies behind one that takes nothing of y -/
abbrev lsP (c : Nat → Int) (q : Nat) (P : Pth) : Prop := ∀ t t', opP c q P t → ptW c P t = 0 → t < t' → ¬ opP c q P t'
theorem tqF_b {c : Nat → Int} {p q : Nat} {P : Pth} (hls : lsP c q P) : ∀ t, t ≤ p - sX P + 1 → tqF c p q P t ≤ bn (p - sX P) (q - sY P) ∧ ((∀ m, m < t → opP c q P m → ptW c P m ≠ 0) → t ≤ p - sX P → tqF c p q P t + bn (p - sX P - t) (q - sY P) ≤ bn (p - sX P) (q - sY P)) ∧ ((∃ m, m < t ∧ opP c q P m ∧ ptW c P m = 0) → tqF c p q P t ≤ bn (p - sX P) (q - sY P))
  | 0, _ => ⟨Nat.zero_le _, fun _ _ => by show 0 + bn (p - sX P - 0) (q - sY P) ≤ _; rw [Nat.zero_add, Nat.sub_zero]; exact Nat.le_refl _, fun _ => Nat.zero_le _⟩
  | t + 1, ht => by
    obtain ⟨i1, i2, i3⟩ := tqF_b (p := p) hls t (by omega)
    generalize hA : p - sX P = A at *
    generalize hB : q - sY P = B at *
    have ef : tqF c p q P (t + 1) = tqF c p q P t + (@ite _ (opP c q P t) (Classical.propDecidable _) (bn (A - t) (B - (ptW c P t).toNat)) 0) := by
      show tqF c p q P t + (@ite _ (opP c q P t) (Classical.propDecidable _) (bn (p - sX P - t) (q - sY P - (ptW c P t).toNat)) 0) = _
      rw [hA, hB]
    by_cases ho : opP c q P t
    · rw [if_pos ho] at ef
      have none0 : ∀ m, m < t → opP c q P m → ptW c P m ≠ 0 := fun m hm hom hz => hls m t hom hz hm ho
      have j := i2 none0 (by omega)
      have ob := ho.2
      rw [hB] at ob
      by_cases cz : ptW c P t = 0
      · rw [cz] at ef
        have e0 : B - (0 : Int).toNat = B := rfl
        rw [e0] at ef
        refine ⟨by omega, fun h _ => absurd cz (h t (by omega) ho), fun _ => by omega⟩
      · have m1 : bn (A - t) (B - (ptW c P t).toNat) ≤ bn (A - t) (B - 1) := bn_mono (by omega)
        obtain ⟨b', hb'⟩ : ∃ b', B = b' + 1 := ⟨B - 1, by omega⟩
        rw [hb'] at m1 j ⊢
        rw [show b' + 1 - 1 = b' by omega] at m1
        rw [hb'] at ef
        have i1' := i1
        rw [hb'] at i1'
        by_cases ca : t = A
        · have z : A - t = 0 := by omega
          rw [z] at m1 j ef
          have q1 : bn 0 (b' + 1) = 1 := rfl
          have q2 : bn 0 b' = 1 := rfl
          refine ⟨by omega, fun _ h => absurd h (by omega), fun _ => by omega⟩
        · obtain ⟨a', ha'⟩ : ∃ a', A - t = a' + 1 := ⟨A - t - 1, by omega⟩
          rw [ha'] at m1 j ef
          have ps := bn_s a' b'
          have z : A - (t + 1) = a' := by omega
          rw [z]
          refine ⟨by omega, fun _ _ => by omega, fun _ => by omega⟩
    · rw [if_neg ho, Nat.add_zero] at ef
      rw [ef]
      refine ⟨i1, fun h h2 => ?_, fun _ => i1⟩
      have j := i2 (fun m hm => h m (by omega)) (by omega)
      have : bn (A - (t + 1)) B ≤ bn (A - t) B := by
        obtain ⟨a', ha'⟩ : ∃ a', A - t = a' + 1 := ⟨A - t - 1, by omega⟩
        rw [ha', show A - (t + 1) = a' by omega]
        cases B with
        | zero =>
          show bn a' 0 ≤ smN (fun i => bn a' i) 0 + bn a' 0
          omega
        | succ b' =>
          rw [bn_s]
          omega
      omega
theorem enW_st {c : Nat → Int} {p q dp hh : Nat} {ch : Pth → List Pth × Nat} {P : Pth} (hch : ∀ r : Nat × Nat, opP c q P r.1 → (r.2 : Int) = ptW c P r.1 → (ch (P ++ [r])).2 ≤ (3 * hh + 1) * bn (p - sX (P ++ [r])) (q - sY (P ++ [r]))) : ∀ t, (enW c p q dp ch P t).2 ≤ 1 + (3 * hh + 2) * tqF c p q P t
  | 0 => by show 1 ≤ _; omega
  | t + 1 => by
    have ih := enW_st (dp := dp) hch t
    have ef : tqF c p q P (t + 1) = tqF c p q P t + (@ite _ (opP c q P t) (Classical.propDecidable _) (bn (p - sX P - t) (q - sY P - (ptW c P t).toNat)) 0) := rfl
    unfold enW
    by_cases c0 : P.length = 0 ∧ t = 0
    · rw [if_pos c0]
      show 1 ≤ _
      omega
    · rw [if_neg c0]
      by_cases c1 : 0 ≤ ptW c P t ∧ ptW c P t ≤ ((q - sY P : Nat) : Int)
      · rw [if_pos c1]
        dsimp only
        rw [if_pos ⟨c0, c1⟩] at ef
        obtain ⟨o, hoo⟩ : ∃ o : Nat, ptW c P t = (o : Int) := ⟨(ptW c P t).toNat, by omega⟩
        rw [hoo, Int.toNat_natCast] at ef ⊢
        have h1 := hch (t, o) ⟨c0, c1⟩ hoo.symm
        have sa := sX_app (P := P) (a := (t, o))
        rw [sa.1, sa.2, ← Nat.sub_sub, ← Nat.sub_sub] at h1
        have bp := bn_pos (p - sX P - t) (q - sY P - o)
        generalize bn (p - sX P - t) (q - sY P - o) = F at *
        rw [ef]
        have hR : ∀ R : List Pth × Nat, R.2 ≤ (3 * hh + 1) * F → R.2 + 1 + (enW c p q dp ch P t).2 ≤ 1 + (3 * hh + 2) * (tqF c p q P t + F) := fun R hR => by
          rw [Nat.mul_add, show (3 * hh + 2) * F = (3 * hh + 1) * F + F by rw [show 3 * hh + 2 = 3 * hh + 1 + 1 by omega, Nat.add_mul, Nat.one_mul]]
          omega
        refine hR _ ?_
        split
        · split
          · exact Nat.zero_le _
          · split
            · exact h1
            · exact Nat.zero_le _
        · exact Nat.zero_le _
      · rw [if_neg c1]
        rw [if_neg (fun z => c1 z.2), Nat.add_zero] at ef
        rw [ef]
        exact ih
theorem lsP_d {c : Nat → Int} {q : Nat} {P : Pth} (hd : P.length ≠ 0) (hy : 1 ≤ fY P 0) : lsP c q P := by
  intro t t' h1 h2 h3 h4
  have e2 := h2
  have o4 := h4.2.1
  unfold ptW ptF at h2 o4
  dsimp only at h2 o4
  rw [if_neg hd, if_neg hd] at h2 o4
  have my : ((t' : Int)) * (fY P 0 : Int) = (t : Int) * (fY P 0 : Int) + ((t' : Int) - t) * (fY P 0 : Int) := by rw [← Int.add_mul]; congr 1; omega
  have mp : 1 ≤ ((t' : Int) - t) * (fY P 0 : Int) := Int.le_trans (by omega) (Int.mul_le_mul_of_nonneg_right (show (1 : Int) ≤ (t' : Int) - t by omega) (show (0 : Int) ≤ (fY P 0 : Int) by omega))
  by_cases ca : fX P 0 = 0 ∨ lF c P P.length - (t : Int) * (fY P 0 : Int) < 0 ∨ (lF c P P.length - (t : Int) * (fY P 0 : Int)) % (fX P 0 : Int) ≠ 0
  · rw [if_pos ca] at h2
    omega
  · rw [if_neg ca] at h2
    have c1 : ¬ fX P 0 = 0 := fun z => ca (Or.inl z)
    have c3 : (lF c P P.length - (t : Int) * (fY P 0 : Int)) % (fX P 0 : Int) = 0 := Classical.byContradiction fun z => ca (Or.inr (Or.inr z))
    have dm := Int.mul_ediv_add_emod (lF c P P.length - (t : Int) * (fY P 0 : Int)) (fX P 0 : Int)
    rw [h2, c3, Int.mul_zero] at dm
    rw [if_pos (Or.inr (Or.inl (by omega)))] at o4
    omega
theorem ndW_st {c : Nat → Int} {p q dp : Nat} : ∀ (k : Nat) (P : Pth), P.length ≠ 0 → 1 ≤ fY P 0 → (ndW c p q dp k P).2 ≤ (3 * k + 1) * bn (p - sX P) (q - sY P)
  | 0, _, _, _ => Nat.zero_le _
  | k + 1, P, hd, hy => by
    have e : ndW c p q dp (k + 1) P = enW c p q dp (ndW c p q dp k) P (tW c p P) := rfl
    rw [e]
    have h1 := enW_st (c := c) (p := p) (q := q) (dp := dp) (hh := k) (ch := ndW c p q dp k) (P := P) (fun r _ _ => ndW_st k (P ++ [r]) (by rw [app_len]; omega) (by
      rw [fX_app.2]
      show 1 ≤ (if 0 = P.length then r.2 else fY P 0)
      rw [if_neg (by omega)]
      exact hy)) (tW c p P)
    have h2 := (tqF_b (c := c) (p := p) (q := q) (P := P) (lsP_d hd hy) (tW c p P) (by unfold tW; omega)).1
    have bp := bn_pos (p - sX P) (q - sY P)
    have h3 := Nat.mul_le_mul_left (3 * k + 2) h2
    generalize bn (p - sX P) (q - sY P) = F at *
    rw [show 3 * (k + 1) + 1 = 3 * k + 2 + 2 by omega, Nat.add_mul]
    omega
theorem bn_64 {p q : Nat} (hp : 1 ≤ p) (hpq : p ≤ q) (h : p * q ≤ 64) : bn p q ≤ 12870 := by
  have p8 : p ≤ 8 := by
    apply Classical.byContradiction
    intro z
    have := Nat.mul_le_mul (show 9 ≤ p by omega) (show 9 ≤ q by omega)
    omega
  have : p = 1 ∨ p = 2 ∨ p = 3 ∨ p = 4 ∨ p = 5 ∨ p = 6 ∨ p = 7 ∨ p = 8 := by omega
  rcases this with z | z | z | z | z | z | z | z <;> subst z
  · exact Nat.le_trans (bn_mono (show q ≤ 64 by omega)) (Nat.le_of_ble_eq_true (by decide +kernel))
  · exact Nat.le_trans (bn_mono (show q ≤ 32 by omega)) (Nat.le_of_ble_eq_true (by decide +kernel))
  · exact Nat.le_trans (bn_mono (show q ≤ 21 by omega)) (Nat.le_of_ble_eq_true (by decide +kernel))
  · exact Nat.le_trans (bn_mono (show q ≤ 16 by omega)) (Nat.le_of_ble_eq_true (by decide +kernel))
  · exact Nat.le_trans (bn_mono (show q ≤ 12 by omega)) (Nat.le_of_ble_eq_true (by decide +kernel))
  · exact Nat.le_trans (bn_mono (show q ≤ 10 by omega)) (Nat.le_of_ble_eq_true (by decide +kernel))
  · exact Nat.le_trans (bn_mono (show q ≤ 9 by omega)) (Nat.le_of_ble_eq_true (by decide +kernel))
  · exact Nat.le_trans (bn_mono (show q ≤ 8 by omega)) (Nat.le_of_ble_eq_true (by decide +kernel))
theorem rtW_st {c : Nat → Int} {p q dp : Nat} (hc0 : 1 ≤ c 0) (hp : 1 ≤ p) (hpq : p ≤ q) (h : p * q ≤ 64) : (rtW c p q dp).2 ≤ 100000000 := by
  -- at the root each option takes at least one of y
  have pos : ∀ t, opP c q [] t → ptW c [] t ≠ 0 := fun t ho hz => by
    have l0 : lF c [] 0 = c 0 := by rw [lF_nil]
    unfold ptW ptF at hz
    dsimp only at hz
    have el : ([] : Pth).length = 0 := rfl
    rw [if_pos el, if_pos el, l0] at hz
    by_cases ca : t = 0 ∨ c 0 < 0 ∨ c 0 % (t : Int) ≠ 0
    · rw [if_pos ca] at hz
      omega
    · rw [if_neg ca] at hz
      have c3 : c 0 % (t : Int) = 0 := Classical.byContradiction fun z => ca (Or.inr (Or.inr z))
      have dm := Int.mul_ediv_add_emod (c 0) (t : Int)
      rw [hz, c3, Int.mul_zero] at dm
      omega
  have h1 := enW_st (c := c) (p := p) (q := q) (dp := dp) (hh := 60) (ch := ndW c p q dp 60) (P := []) (fun r hr he => ndW_st 60 ([] ++ [r]) (by rw [app_len]; omega) (by
    have := pos r.1 hr
    have := hr.2.1
    show 1 ≤ r.2
    omega)) (p + 1)
  have h2 := (tqF_b (c := c) (p := p) (q := q) (P := []) (fun t t' ho hz => absurd hz (pos t ho)) (p + 1) (by show p + 1 ≤ p - 0 + 1; omega)).1
  have h3 := bn_64 hp hpq h
  have e : bn (p - sX []) (q - sY []) = bn p q := rfl
  rw [e] at h2
  unfold rtW
  have := Nat.mul_le_mul_left (3 * 60 + 2) (Nat.le_trans h2 h3)
  omega
