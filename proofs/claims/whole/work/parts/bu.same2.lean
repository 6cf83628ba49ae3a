/-! FaceSearch's entries are the pairs that count -/
theorem zE_ok {cn tg : Nat → Nat} {p q ls least : Nat} {e : Ent} (hle : least ≤ 60) (c0 : 1 ≤ cn 0) (htg : ∀ t, t < 130 → tg t = if ls ≤ t then cn (t - ls) else 0) (f : fdP cn p q (60 - least) e.2) (h1 : least ≤ e.1) (h2 : e.1 < least + (60 - grF (fX e.2) 61 + 1 - least)) (h3 : inP p q ls least (fX e.2) (fY e.2) e.1) : fX e.2 0 ≠ 0 ∧ fY e.2 0 ≠ 0 ∧ (∀ i, 60 < e.1 + i → fX e.2 i = 0) ∧ (∀ i, 60 < ls - e.1 + i → fY e.2 i = 0) ∧ gpP tg p q least (zE ls e) ∧ tnP p q (zE ls e).1 (zE ls e).2 := by
  obtain ⟨s, P⟩ := e
  dsimp only at *
  obtain ⟨f1, f2, f3, f4, f5⟩ := f
  obtain ⟨i1, i2, i3⟩ := h3
  have sl := smN_len (P := P) (by omega)
  have z0 := cv_at (X := fX P) (Y := fY P) (x := 0) (y := 0) (by omega) (by omega) (fun i hi => absurd hi (Nat.not_lt_zero i)) (fun i hi => absurd hi (Nat.not_lt_zero i))
  rw [f4 0 (by omega)] at z0
  have x0 : fX P 0 ≠ 0 := fun z => by rw [z, Nat.zero_mul] at z0; omega
  have y0 : fY P 0 ≠ 0 := fun z => by rw [z, Nat.mul_zero] at z0; omega
  have gl := grF_le (fX P) 61
  have hx : ∀ i, 60 < s + i → fX P i = 0 := fun i hi => by
    by_cases c : i < 61
    · exact gr_sup 61 i (by omega) c
    · exact (fX_ge (by omega)).1
  have hy : ∀ i, 60 < ls - s + i → fY P i = 0 := fun i hi => by
    by_cases c : i < 61
    · exact gr_sup 61 i (by omega) c
    · exact (fX_ge (by omega)).2
  have zz : ∀ i, i < least ∨ 60 < i → shZ s (fX P) i = 0 ∧ shZ (ls - s) (fY P) i = 0 := fun i hi => by
    unfold shZ
    constructor
    · by_cases c : s ≤ i
      · rw [if_pos c]
        exact hx _ (by omega)
      · rw [if_neg c]
    · by_cases c : ls - s ≤ i
      · rw [if_pos c]
        exact hy _ (by omega)
      · rw [if_neg c]
  refine ⟨x0, y0, hx, hy, ⟨?_, ?_, zz, fun t ht => ?_⟩, (tn_gt fun i hi => zz i (Or.inr hi)).mpr fun pq g => ?_⟩
  · rw [smN_sh fun i hi => hx i (by omega), sl.1, f2]
  · rw [smN_sh fun i hi => hy i (by omega), sl.2, f3]
  · rw [cv_sh hx hy, htg t ht]
    by_cases c : ls ≤ t
    · rw [if_pos (by omega), if_pos c, show t - s - (ls - s) = t - ls by omega]
      exact f4 _ (by omega)
    · rw [if_neg (by omega), if_neg c]
  · cases i3 with
    | inl i3 => exact i3 pq
    | inr i3 =>
      cases i3 with
      | inl i3 => exact gt_ir (gt_tr g (sh_lt i3 x0))
      | inr i3 =>
        rw [← i3.1] at g
        exact (ah_gt 61 0 (fun i hi => by rw [hx i (by omega), hy i (by omega)]) fun j hj => absurd hj (Nat.not_lt_zero j)).mp i3.2 (sh_gt.mp g)
def mkP (X Y : Nat → Nat) (n : Nat) : Pth := (List.range n).map fun i => (X i, Y i)
theorem mkP_at {X Y : Nat → Nat} {n : Nat} (h : ∀ i, n ≤ i → X i = 0 ∧ Y i = 0) : fX (mkP X Y n) = X ∧ fY (mkP X Y n) = Y ∧ (mkP X Y n).length = n := by
  have l : (mkP X Y n).length = n := by unfold mkP; rw [List.length_map, List.length_range]
  have at_ : ∀ i, i < n → (mkP X Y n)[i]? = some (X i, Y i) := fun i hi => by
    unfold mkP
    rw [List.getElem?_map, List.getElem?_range hi]
    rfl
  refine ⟨funext fun i => ?_, funext fun i => ?_, l⟩
  · by_cases c : i < n
    · unfold fX
      rw [at_ i c]
      rfl
    · rw [(fX_ge (by omega)).1, (h i (by omega)).1]
  · by_cases c : i < n
    · unfold fY
      rw [at_ i c]
      rfl
    · rw [(fX_ge (by omega)).2, (h i (by omega)).2]
theorem zE_all {cn tg : Nat → Nat} {p q ls least : Nat} {Z : Pr2} (hle : least ≤ 60) (hp : 1 ≤ p) (hq : 1 ≤ q) (hls : ls ≤ 120) (c0 : 1 ≤ cn 0) (hcn : ∀ k, 120 < ls + k → cn k = 0) (htg : ∀ t, t < 130 → tg t = if ls ≤ t then cn (t - ls) else 0) (g : gpP tg p q least Z) (t : tnP p q Z.1 Z.2) : ∃ e : Ent, fdP cn p q (60 - least) e.2 ∧ least ≤ e.1 ∧ e.1 < least + (60 - grF (fX e.2) 61 + 1 - least) ∧ inP p q ls least (fX e.2) (fY e.2) e.1 ∧ Z = zE ls e := by
  obtain ⟨g1, g2, g3, g4⟩ := g
  obtain ⟨x, x1, x2, x3⟩ := mn_sup (X := Z.1) 61 (by omega)
  obtain ⟨y, y1, y2, y3⟩ := mn_sup (X := Z.2) 61 (by omega)
  have lx : least ≤ x := by
    by_cases c : x < least
    · exact absurd (g3 x (Or.inl c)).1 x2
    · omega
  have ly : least ≤ y := by
    by_cases c : y < least
    · exact absurd (g3 y (Or.inl c)).2 y2
    · omega
  have ca := cv_at (by omega) (by omega) x3 y3
  have pos : 1 ≤ Z.1 x * Z.2 y := Nat.mul_pos (by omega) (by omega)
  rw [g4 (x + y) (by omega), htg (x + y) (by omega)] at ca
  have lw : x + y = ls := by
    by_cases c1 : x + y < ls
    · rw [if_neg (by omega)] at ca
      omega
    · by_cases c2 : ls < x + y
      · have a := cv_low (s := ls) x3 y3 c2
        rw [g4 ls (by omega), htg ls (by omega), if_pos (Nat.le_refl ls), Nat.sub_self] at a
        omega
      · omega
  obtain ⟨X, hX⟩ : ∃ X : Nat → Nat, X = fun i => Z.1 (x + i) := ⟨_, rfl⟩
  obtain ⟨Y, hY⟩ : ∃ Y : Nat → Nat, Y = fun i => Z.2 (y + i) := ⟨_, rfl⟩
  have eX : ∀ i, X i = Z.1 (x + i) := fun i => by rw [hX]
  have eY : ∀ i, Y i = Z.2 (y + i) := fun i => by rw [hY]
  have zX : Z.1 = shZ x X := funext fun i => by
    unfold shZ
    by_cases c : x ≤ i
    · rw [if_pos c, eX, show x + (i - x) = i by omega]
    · rw [if_neg c, x3 i (by omega)]
  have zY : Z.2 = shZ y Y := funext fun i => by
    unfold shZ
    by_cases c : y ≤ i
    · rw [if_pos c, eY, show y + (i - y) = i by omega]
    · rw [if_neg c, y3 i (by omega)]
  have hx : ∀ i, 60 < x + i → X i = 0 := fun i hi => by rw [eX]; exact (g3 _ (Or.inr hi)).1
  have hy : ∀ i, 60 < y + i → Y i = 0 := fun i hi => by rw [eY]; exact (g3 _ (Or.inr hi)).2
  have X0 : X 0 ≠ 0 := by rw [eX]; exact x2
  have Y0 : Y 0 ≠ 0 := by rw [eY]; exact y2
  obtain ⟨gx, gx2⟩ := gr_in (X := X) 61 ⟨0, by omega, X0⟩
  obtain ⟨gy, gy2⟩ := gr_in (X := Y) 61 ⟨0, by omega, Y0⟩
  have bx : x + grF X 61 ≤ 60 := by
    by_cases c : x + grF X 61 ≤ 60
    · exact c
    · exact absurd (hx _ (by omega)) gx
  have by_ : y + grF Y 61 ≤ 60 := by
    by_cases c : y + grF Y 61 ≤ 60
    · exact c
    · exact absurd (hy _ (by omega)) gy
  obtain ⟨n, hn⟩ : ∃ n, max (grF X 61) (grF Y 61) = n := ⟨_, rfl⟩
  obtain ⟨m1, m2, m3⟩ := mkP_at (X := X) (Y := Y) (n := n + 1) fun i hi => by
    by_cases c : i < 61
    · exact ⟨gr_sup 61 i (by omega) c, gr_sup 61 i (by omega) c⟩
    · exact ⟨hx i (by omega), hy i (by omega)⟩
  have sl := smN_len (P := mkP X Y (n + 1)) (by omega)
  rw [m1, m2] at sl
  refine ⟨(x, mkP X Y (n + 1)), ⟨by show (mkP X Y (n + 1)).length ≤ _; omega, ?_, ?_, fun k hk => ?_, ?_⟩, lx, ?_, ?_, ?_⟩
  · show sX (mkP X Y (n + 1)) = p
    rw [← sl.1, ← g1, zX, smN_sh fun i hi => hx i (by omega)]
  · show sY (mkP X Y (n + 1)) = q
    rw [← sl.2, ← g2, zY, smN_sh fun i hi => hy i (by omega)]
  · show cvN (fX (mkP X Y (n + 1))) (fY (mkP X Y (n + 1))) k = cn k
    rw [m1, m2]
    by_cases c : ls + k < 130
    · have a := g4 (ls + k) c
      rw [zX, zY, cv_sh hx hy, if_pos (by omega), htg _ c, if_pos (by omega), show ls + k - x - y = k by omega, show ls + k - ls = k by omega] at a
      exact a
    · rw [hcn k (by omega)]
      exact smN_zero 61 fun v _ => by
        unfold cvT
        by_cases c2 : v ≤ k ∧ k - v ≤ 60
        · rw [if_pos c2]
          by_cases c3 : 60 < x + v
          · rw [hx v c3, Nat.zero_mul]
          · rw [hy (k - v) (by omega), Nat.mul_zero]
        · rw [if_neg c2]
  · show fX (mkP X Y (n + 1)) ((mkP X Y (n + 1)).length - 1) ≠ 0 ∨ fY (mkP X Y (n + 1)) ((mkP X Y (n + 1)).length - 1) ≠ 0
    rw [m1, m2, m3, show n + 1 - 1 = n from rfl]
    by_cases c : grF Y 61 ≤ grF X 61
    · left
      rw [show n = grF X 61 by omega]
      exact gx
    · right
      rw [show n = grF Y 61 by omega]
      exact gy
  · show x < least + (60 - grF (fX (mkP X Y (n + 1))) 61 + 1 - least)
    rw [m1]
    omega
  · show inP p q ls least (fX (mkP X Y (n + 1))) (fY (mkP X Y (n + 1))) x
    rw [m1, m2]
    refine ⟨by omega, by omega, ?_⟩
    by_cases c : p = q
    · have no := (tn_gt fun i hi => g3 i (Or.inr hi)).mp t c
      rw [zX, zY] at no
      right
      by_cases c1 : x < y
      · left
        omega
      · by_cases c2 : y < x
        · exact absurd (sh_lt c2 Y0) no
        · right
          have e : x = y := by omega
          refine ⟨by omega, (ah_gt 61 0 (fun i hi => by rw [hx i (by omega), hy i (by omega)]) fun j hj => absurd hj (Nat.not_lt_zero j)).mpr fun g => no ?_⟩
          rw [e]
          exact sh_gt.mpr g
    · exact Or.inl c
  · show Z = (shZ x (fX (mkP X Y (n + 1))), shZ (ls - x) (fY (mkP X Y (n + 1))))
    rw [m1, m2, show ls - x = y by omega, ← zX, ← zY]
