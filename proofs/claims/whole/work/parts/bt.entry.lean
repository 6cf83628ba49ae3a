/-! FaceSearch: the entries of what is found, and the same pairs as the Model's -/
theorem tn_gt {p q : Nat} {X Y : Nat → Nat} (hx : ∀ i, 60 < i → X i = 0 ∧ Y i = 0) : tnP p q X Y ↔ (p = q → ¬ gtL Y X) := by
  obtain ⟨h1, h2⟩ := fdF_eq (X := toI X) (K := toI Y) 60 0
  have b := fdF_r (X := toI X) (K := toI Y) 60 0
  have e : toI X (fdF (toI X) (toI Y) 60 0) < toI Y (fdF (toI X) (toI Y) 60 0) ↔ gtL Y X := by
    constructor
    · intro h
      exact ⟨_, Int.ofNat_lt.mp h, fun j hj => (Int.ofNat_inj.mp (h1 j (Nat.zero_le j) hj)).symm⟩
    · intro ⟨i, g1, g2⟩
      have i60 : i ≤ 60 := by
        by_cases c : i ≤ 60
        · exact c
        · have := (hx i (by omega)).2
          omega
      have e : fdF (toI X) (toI Y) 60 0 = i := by
        by_cases c1 : fdF (toI X) (toI Y) 60 0 < i
        · cases h2 with
          | inl h2 => omega
          | inr h2 => exact absurd (congrArg (fun n : Nat => (n : Int)) (g2 _ c1).symm) h2
        · by_cases c2 : i < fdF (toI X) (toI Y) 60 0
          · have : (X i : Int) = (Y i : Int) := h1 i (Nat.zero_le i) c2
            omega
          · omega
      rw [e]
      exact Int.ofNat_lt.mpr g1
  unfold tnP
  rw [e]
  constructor
  · intro h a b
    exact h ⟨a, b⟩
  · intro h a
    exact h a.1 a.2
theorem gr_sup {X : Nat → Nat} : ∀ k i, grF X k < i → i < k → X i = 0
  | 0, i, _, h => absurd h (Nat.not_lt_zero i)
  | k + 1, i, h, hi => by
    unfold grF at h
    by_cases c : 0 < X k
    · rw [if_pos c] at h
      omega
    · rw [if_neg c] at h
      by_cases z : i = k
      · rw [z]; omega
      · exact gr_sup k i h (by omega)
theorem gr_in {X : Nat → Nat} : ∀ k, (∃ i, i < k ∧ X i ≠ 0) → X (grF X k) ≠ 0 ∧ grF X k < k
  | 0, ⟨i, h, _⟩ => absurd h (Nat.not_lt_zero i)
  | k + 1, ⟨i, h, hi⟩ => by
    unfold grF
    by_cases c : 0 < X k
    · rw [if_pos c]
      exact ⟨by omega, by omega⟩
    · rw [if_neg c]
      have ne : i ≠ k := fun z => by rw [z] at hi; omega
      have := gr_in k ⟨i, by omega, hi⟩
      exact ⟨this.1, by omega⟩
theorem ah_gt {X Y : Nat → Nat} : ∀ k d, (∀ i, d + k ≤ i → X i = Y i) → (∀ j, j < d → X j = Y j) → (ahF X Y k d = true ↔ ¬ gtL Y X)
  | 0, d, h1, h2 => by
    have e : X = Y := funext fun i => by
      by_cases c : i < d
      · exact h2 i c
      · exact h1 i (by omega)
    rw [e]
    exact ⟨fun _ => gt_ir, fun _ => rfl⟩
  | k + 1, d, h1, h2 => by
    unfold ahF
    by_cases c : X d = Y d
    · rw [if_pos c]
      refine ah_gt k (d + 1) (fun i hi => h1 i (by omega)) fun j hj => ?_
      by_cases z : j = d
      · rw [z]; exact c
      · exact h2 j (by omega)
    · rw [if_neg c, decide_eq_true_iff]
      constructor
      · intro h ⟨i, g1, g2⟩
        by_cases c1 : i < d
        · have := h2 i c1
          omega
        · by_cases c2 : d < i
          · exact c (g2 d c2).symm
          · have : i = d := by omega
            rw [this] at g1
            omega
      · intro h
        by_cases z : Y d < X d
        · exact z
        · exact absurd ⟨d, by omega, fun j hj => (h2 j hj).symm⟩ h
abbrev Ent : Type := Nat × Pth
abbrev zE (ls : Nat) (e : Ent) : Pr2 := (shZ e.1 (fX e.2), shZ (ls - e.1) (fY e.2))
def eS (p q ls least : Nat) (P : Pth) : Nat → Nat → List Ent
  | 0, _ => []
  | k + 1, s => (if inP p q ls least (fX P) (fY P) s then [(s, P)] else []) ++ eS p q ls least P k (s + 1)
def enL (p q ls least : Nat) : List Pth → List Ent
  | [] => []
  | P :: L => eS p q ls least P (60 - grF (fX P) 61 + 1 - least) least ++ enL p q ls least L
def stE (p ls : Nat) (K : KpT) (e : Ent) : KpT := kpF p (fX e.2) (fY e.2) e.1 (ls - e.1) (K.1, K.2.1, K.2.2.1, K.2.2.2.1, K.2.2.2.2 + 1)
theorem afS_eq {p q ls least : Nat} {P : Pth} : ∀ k s K, afS p q ls least (fX P) (fY P) k s K = (eS p q ls least P k s).foldl (stE p ls) K
  | 0, _, _ => rfl
  | k + 1, s, K => by
    show afS p q ls least (fX P) (fY P) k (s + 1) (if inP p q ls least (fX P) (fY P) s then kpF p (fX P) (fY P) s (ls - s) (K.1, K.2.1, K.2.2.1, K.2.2.2.1, K.2.2.2.2 + 1) else K) = ((if inP p q ls least (fX P) (fY P) s then [(s, P)] else []) ++ eS p q ls least P k (s + 1)).foldl (stE p ls) K
    rw [afS_eq k (s + 1), List.foldl_append]
    by_cases c : inP p q ls least (fX P) (fY P) s
    · rw [if_pos c, if_pos c]
      rfl
    · rw [if_neg c, if_neg c]
      rfl
theorem afL_eq {p q ls least : Nat} : ∀ (L : List Pth) K, afL p q ls least L K = (enL p q ls least L).foldl (stE p ls) K
  | [], _ => rfl
  | P :: L, K => by
    show afL p q ls least L (afF p q ls least (fX P) (fY P) K) = (eS p q ls least P (60 - grF (fX P) 61 + 1 - least) least ++ enL p q ls least L).foldl (stE p ls) K
    rw [afL_eq L, List.foldl_append, ← afS_eq]
    rfl
theorem eS_mem {p q ls least : Nat} {P : Pth} {e : Ent} : ∀ k s, e ∈ eS p q ls least P k s ↔ e.2 = P ∧ s ≤ e.1 ∧ e.1 < s + k ∧ inP p q ls least (fX P) (fY P) e.1
  | 0, s => by
    constructor
    · intro h; cases h
    · intro h; omega
  | k + 1, s => by
    show e ∈ (if inP p q ls least (fX P) (fY P) s then [(s, P)] else []) ++ eS p q ls least P k (s + 1) ↔ _
    rw [List.mem_append, eS_mem k (s + 1)]
    constructor
    · intro h
      cases h with
      | inl h =>
        by_cases c : inP p q ls least (fX P) (fY P) s
        · rw [if_pos c] at h
          have z := List.mem_singleton.mp h
          rw [z]
          exact ⟨rfl, Nat.le_refl s, by show s < _; omega, c⟩
        · rw [if_neg c] at h
          cases h
      | inr h => exact ⟨h.1, by omega, by omega, h.2.2.2⟩
    · intro ⟨h1, h2, h3, h4⟩
      by_cases c : e.1 = s
      · left
        rw [c] at h4
        rw [if_pos h4]
        exact List.mem_singleton.mpr (Prod.ext c h1)
      · exact Or.inr ⟨h1, by omega, by omega, h4⟩
theorem enL_mem {p q ls least : Nat} {e : Ent} : ∀ L : List Pth, e ∈ enL p q ls least L ↔ e.2 ∈ L ∧ least ≤ e.1 ∧ e.1 < least + (60 - grF (fX e.2) 61 + 1 - least) ∧ inP p q ls least (fX e.2) (fY e.2) e.1
  | [] => by
    constructor
    · intro h; cases h
    · intro h; cases h.1
  | P :: L => by
    show e ∈ eS p q ls least P (60 - grF (fX P) 61 + 1 - least) least ++ enL p q ls least L ↔ _
    rw [List.mem_append, eS_mem, enL_mem L, List.mem_cons]
    constructor
    · intro h
      cases h with
      | inl h =>
        obtain ⟨h1, h2, h3, h4⟩ := h
        rw [h1]
        exact ⟨Or.inl rfl, h2, h3, h4⟩
      | inr h => exact ⟨Or.inr h.1, h.2⟩
    · intro ⟨h, h1, h2, h3⟩
      cases h with
      | inl h => rw [h] at h2 h3; exact Or.inl ⟨h, h1, h2, h3⟩
      | inr h => exact Or.inr ⟨h, h1, h2, h3⟩
/-- one entry after another: of the same start, the earlier is ahead -/
abbrev oE (a b : Ent) : Prop := a.1 = b.1 → gtL (fX a.2) (fX b.2)
theorem eS_pw {p q ls least : Nat} {P : Pth} : ∀ k s, (eS p q ls least P k s).Pairwise oE
  | 0, _ => List.Pairwise.nil
  | k + 1, s => by
    refine List.pairwise_append.mpr ⟨?_, eS_pw k (s + 1), fun a ha b hb => ?_⟩
    · split
      · exact List.pairwise_singleton _ _
      · exact List.Pairwise.nil
    · split at ha
      · have z := List.mem_singleton.mp ha
        have y := (eS_mem k (s + 1)).mp hb
        intro e
        rw [z] at e
        change s = b.1 at e
        omega
      · cases ha
theorem enL_pw {p q ls least : Nat} : ∀ L : List Pth, L.Pairwise (fun R S => gtL (fX R) (fX S)) → (enL p q ls least L).Pairwise oE
  | [], _ => List.Pairwise.nil
  | P :: L, h => by
    obtain ⟨h1, h2⟩ := List.pairwise_cons.mp h
    refine List.pairwise_append.mpr ⟨eS_pw _ _, enL_pw L h2, fun a ha b hb _ => ?_⟩
    rw [((eS_mem _ _).mp ha).1]
    exact h1 b.2 ((enL_mem L).mp hb).1
