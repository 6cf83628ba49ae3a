/-! FaceSearch: paths, what is left beside them, the search as a function -/
abbrev Pth : Type := List (Nat × Nat)
def fX (P : Pth) (i : Nat) : Nat := ((P[i]?).getD (0, 0)).1
def fY (P : Pth) (i : Nat) : Nat := ((P[i]?).getD (0, 0)).2
def sX (P : Pth) : Nat := smN (fX P) P.length
def sY (P : Pth) : Nat := smN (fY P) P.length
def lF (c : Nat → Int) (P : Pth) (k : Nat) : Int := c k - siN (fun j => ckF (fX P) (fY P) j k) P.length
theorem fX_ge {P : Pth} {i : Nat} (h : P.length ≤ i) : fX P i = 0 ∧ fY P i = 0 := by
  unfold fX fY
  rw [List.getElem?_eq_none h]
  exact ⟨rfl, rfl⟩
theorem fX_app {P : Pth} {a : Nat × Nat} : fX (P ++ [a]) = upN (fX P) P.length a.1 ∧ fY (P ++ [a]) = upN (fY P) P.length a.2 := by
  constructor <;> funext i
  · show fX (P ++ [a]) i = if i = P.length then a.1 else fX P i
    unfold fX
    by_cases c : i < P.length
    · rw [List.getElem?_append_left c, if_neg (by omega)]
    · rw [List.getElem?_append_right (by omega)]
      by_cases e : i = P.length
      · rw [if_pos e, e, Nat.sub_self]
        rfl
      · rw [if_neg e, List.getElem?_eq_none (by show 1 ≤ i - P.length; omega), List.getElem?_eq_none (by omega)]
  · show fY (P ++ [a]) i = if i = P.length then a.2 else fY P i
    unfold fY
    by_cases c : i < P.length
    · rw [List.getElem?_append_left c, if_neg (by omega)]
    · rw [List.getElem?_append_right (by omega)]
      by_cases e : i = P.length
      · rw [if_pos e, e, Nat.sub_self]
        rfl
      · rw [if_neg e, List.getElem?_eq_none (by show 1 ≤ i - P.length; omega), List.getElem?_eq_none (by omega)]
theorem app_len {P : Pth} {a : Nat × Nat} : (P ++ [a]).length = P.length + 1 := by rw [List.length_append]; rfl
theorem sX_app {P : Pth} {a : Nat × Nat} : sX (P ++ [a]) = sX P + a.1 ∧ sY (P ++ [a]) = sY P + a.2 := by
  unfold sX sY
  rw [app_len, fX_app.1, fX_app.2]
  constructor
  · show smN (upN (fX P) P.length a.1) P.length + upN (fX P) P.length a.1 P.length = _
    rw [smN_congr P.length (g := fX P) fun i hi => if_neg (by omega)]
    show _ + (if P.length = P.length then a.1 else _) = _
    rw [if_pos rfl]
  · show smN (upN (fY P) P.length a.2) P.length + upN (fY P) P.length a.2 P.length = _
    rw [smN_congr P.length (g := fY P) fun i hi => if_neg (by omega)]
    show _ + (if P.length = P.length then a.2 else _) = _
    rw [if_pos rfl]
theorem siN_congr {f g : Nat → Int} : ∀ n : Nat, (∀ i, i < n → f i = g i) → siN f n = siN g n
  | 0, _ => rfl
  | n + 1, h => by
    show siN f n + f n = siN g n + g n
    rw [siN_congr n fun i hi => h i (by omega), h n (by omega)]
/-- what degree j makes takes of x and y but what lies up to j -/
theorem ckF_congr {X Y X' Y' : Nat → Nat} {j k : Nat} (h : ∀ i, i ≤ j → X i = X' i ∧ Y i = Y' i) : ckF X Y j k = ckF X' Y' j k := by
  unfold ckF ckS
  rw [(h j (Nat.le_refl _)).1, (h j (Nat.le_refl _)).2]
  by_cases c : j ≤ k ∧ k < j + j
  · rw [if_pos c, if_pos c, (h (k - j) (by omega)).1, (h (k - j) (by omega)).2]
  · rw [if_neg c, if_neg c]
theorem ckF_0 {X Y : Nat → Nat} {j k : Nat} (h : ¬ (j ≤ k ∧ k < j + (j + 1))) : ckF X Y j k = 0 := by
  unfold ckF ckS
  rw [if_neg (by omega), if_neg (by omega)]
  rfl
theorem ckF_00 {X Y : Nat → Nat} {j k : Nat} (h : X j = 0 ∧ Y j = 0) : ckF X Y j k = 0 := by
  unfold ckF ckS
  rw [h.1, h.2]
  simp
theorem lF_app {c : Nat → Int} {P : Pth} {a : Nat × Nat} {k : Nat} : lF c (P ++ [a]) k = lF c P k - ckF (fX (P ++ [a])) (fY (P ++ [a])) P.length k := by
  unfold lF
  rw [app_len]
  show c k - (siN (fun j => ckF (fX (P ++ [a])) (fY (P ++ [a])) j k) P.length + ckF (fX (P ++ [a])) (fY (P ++ [a])) P.length k) = _
  rw [siN_congr P.length (g := fun j => ckF (fX P) (fY P) j k) fun j hj => ckF_congr fun i hi => by
    rw [fX_app.1, fX_app.2]
    exact ⟨if_neg (by omega), if_neg (by omega)⟩]
  omega
theorem ck_b {X Y : Nat → Nat} {j k : Nat} (hx : ∀ i, X i ≤ 64) (hy : ∀ i, Y i ≤ 64) : 0 ≤ ckF X Y j k ∧ ckF X Y j k ≤ 128 * (X j : Int) + 64 * (Y j : Int) := by
  have e : ∀ a b : Nat, b ≤ 64 → 0 ≤ (a : Int) * b ∧ (a : Int) * b ≤ 64 * (a : Int) := fun a b hb => by
    have h1 := Nat.mul_le_mul_left a hb
    have h2 : ((a * b : Nat) : Int) = (a : Int) * b := Int.natCast_mul _ _
    omega
  have e1 := e (X j) (Y (k - j)) (hy _)
  have e2 := e (Y j) (X (k - j)) (hx _)
  have e3 := e (X j) (Y j) (hy _)
  unfold ckF ckS
  split <;> split <;> omega
theorem si_b {X Y : Nat → Nat} {k : Nat} (hx : ∀ i, X i ≤ 64) (hy : ∀ i, Y i ≤ 64) : ∀ n, 0 ≤ siN (fun j => ckF X Y j k) n ∧ siN (fun j => ckF X Y j k) n ≤ 128 * (smN X n : Int) + 64 * (smN Y n : Int)
  | 0 => by unfold siN smN; omega
  | n + 1 => by
    have h1 := si_b (k := k) hx hy n
    have h2 := ck_b (j := n) (k := k) hx hy
    show 0 ≤ siN _ n + ckF X Y n k ∧ siN _ n + ckF X Y n k ≤ 128 * ((smN X n + X n : Nat) : Int) + 64 * ((smN Y n + Y n : Nat) : Int)
    omega
theorem lF_b {c : Nat → Int} {P : Pth} {k : Nat} (hc : 0 ≤ c k ∧ c k ≤ 1000) (hx : ∀ i, fX P i ≤ 64) (hy : ∀ i, fY P i ≤ 64) (h1 : sX P ≤ 64) (h2 : sY P ≤ 64) : -50000 ≤ lF c P k ∧ lF c P k ≤ 50000 := by
  have := si_b (k := k) hx hy P.length
  unfold sX at h1
  unfold sY at h2
  unfold lF
  omega
/-- none of what is left is below 0 -/
abbrev enP (c : Nat → Int) (P : Pth) : Prop := (fX P (P.length - 1) = 0 ∧ fY P (P.length - 1) = 0) ∨ enB (lF c P) (P.length - 1) (P.length - 1 + 1)
abbrev ptW (c : Nat → Int) (P : Pth) (m : Nat) : Int := ptF (lF c P) (fX P) (fY P) P.length m
/-- the paths found below P with less than t at its degree, in order; how many steps that takes -/
noncomputable def enW (c : Nat → Int) (p q dp : Nat) (ch : Pth → List Pth × Nat) (P : Pth) : Nat → List Pth × Nat
  | 0 => ([], 1)
  | t + 1 => if P.length = 0 ∧ t = 0 then ([], 1) else
      if 0 ≤ ptW c P t ∧ ptW c P t ≤ ((q - sY P : Nat) : Int) then
        (let P' := P ++ [(t, (ptW c P t).toNat)]
         let r : List Pth × Nat := @ite _ (enP c P') (Classical.propDecidable _) (if sX P' = p ∧ sY P' = q then ([P'], 0) else if P.length < dp then ch P' else ([], 0)) ([], 0)
         (r.1 ++ (enW c p q dp ch P t).1, r.2 + 1 + (enW c p q dp ch P t).2))
      else enW c p q dp ch P t
def tW (c : Nat → Int) (p : Nat) (P : Pth) : Nat := min (p - sX P) (if 0 < fY P 0 then (lF c P P.length).toNat / fY P 0 else 0) + 1
noncomputable def ndW (c : Nat → Int) (p q dp : Nat) : Nat → Pth → List Pth × Nat
  | 0, _ => ([], 0)
  | k + 1, P => enW c p q dp (ndW c p q dp k) P (tW c p P)
theorem enW_none {c : Nat → Int} {p q dp : Nat} {ch : Pth → List Pth × Nat} {P : Pth} : ∀ t, cnF (lF c P) (fX P) (fY P) P.length (q - sY P) t = none → enW c p q dp ch P t = ([], 1)
  | 0, _ => rfl
  | t + 1, h => by
    unfold cnF at h
    unfold enW
    split at h
    · rename_i z
      rw [if_pos z]
    · rename_i z
      rw [if_neg z]
      split at h
      · cases h
      · rename_i z2
        rw [if_neg z2]
        exact enW_none t h
theorem enW_some {c : Nat → Int} {p q dp : Nat} {ch : Pth → List Pth × Nat} {P : Pth} {r : Nat × Nat} : ∀ t, cnF (lF c P) (fX P) (fY P) P.length (q - sY P) t = some r → enW c p q dp ch P t = ((@ite (List Pth × Nat) (enP c (P ++ [r])) (Classical.propDecidable _) (if sX (P ++ [r]) = p ∧ sY (P ++ [r]) = q then ([P ++ [r]], 0) else if P.length < dp then ch (P ++ [r]) else ([], 0)) ([], 0)).1 ++ (enW c p q dp ch P r.1).1, (@ite (List Pth × Nat) (enP c (P ++ [r])) (Classical.propDecidable _) (if sX (P ++ [r]) = p ∧ sY (P ++ [r]) = q then ([P ++ [r]], 0) else if P.length < dp then ch (P ++ [r]) else ([], 0)) ([], 0)).2 + 1 + (enW c p q dp ch P r.1).2)
  | 0, h => by cases h
  | t + 1, h => by
    unfold cnF at h
    split at h
    · cases h
    · rename_i z
      split at h
      · rename_i z2
        have h := Option.some.inj h
        subst h
        rw [enW, if_neg z, if_pos z2]
      · rename_i z2
        rw [enW, if_neg z, if_neg z2]
        exact enW_some t h
theorem enW_pos {c : Nat → Int} {p q dp : Nat} {ch : Pth → List Pth × Nat} {P : Pth} : ∀ t, 1 ≤ (enW c p q dp ch P t).2
  | 0 => Nat.le_refl 1
  | t + 1 => by
    have := enW_pos (c := c) (p := p) (q := q) (dp := dp) (ch := ch) (P := P) t
    unfold enW
    split
    · exact Nat.le_refl 1
    · split
      · show 1 ≤ _ + 1 + _
        omega
      · exact this
theorem pt_up {lf : Nat → Int} {X Y : Nat → Nat} {d a b m : Nat} : ptF lf (upN X d a) (upN Y d b) d m = ptF lf X Y d m := by
  unfold ptF
  dsimp only
  by_cases c : d = 0
  · simp only [if_pos c]
  · have e1 : upN X d a 0 = X 0 := if_neg (by omega)
    have e2 : upN Y d b 0 = Y 0 := if_neg (by omega)
    simp only [if_neg c, e1, e2]
theorem cn_up {lf : Nat → Int} {X Y : Nat → Nat} {d a b w : Nat} : ∀ t, cnF lf (upN X d a) (upN Y d b) d w t = cnF lf X Y d w t
  | 0 => rfl
  | t + 1 => by
    unfold cnF
    rw [pt_up, cn_up t]
theorem up_up2 {F : Nat → Nat} {k a b : Nat} : upN (upN F k a) k b = upN F k b := by
  funext i
  show (if i = k then b else if i = k then a else F i) = if i = k then b else F i
  split <;> rfl
