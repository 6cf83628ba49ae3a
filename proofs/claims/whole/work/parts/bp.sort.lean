/-! pairs of dice in descending order, put in their place one after another -/
theorem fdF_eq {X K : Nat → Int} : ∀ k v, (∀ j, v ≤ j → j < fdF X K k v → X j = K j) ∧ (fdF X K k v = v + k ∨ X (fdF X K k v) ≠ K (fdF X K k v))
  | 0, v => ⟨fun j h1 h2 => absurd h2 (by show ¬ j < v; omega), Or.inl rfl⟩
  | k + 1, v => by
    unfold fdF
    by_cases c : X v = K v
    · rw [if_pos c]
      obtain ⟨h1, h2⟩ := fdF_eq (X := X) (K := K) k (v + 1)
      refine ⟨fun j a b => ?_, ?_⟩
      · by_cases z : j = v
        · rw [z]; exact c
        · exact h1 j (by omega) b
      · cases h2 with
        | inl h2 => left; omega
        | inr h2 => exact Or.inr h2
    · rw [if_neg c]
      exact ⟨fun j a b => absurd b (by omega), Or.inr c⟩
theorem ad_gt {X K : Nat → Nat} (hx : ∀ i, 60 < i → X i = 0) : adP X K ↔ gtL X K := by
  obtain ⟨h1, h2⟩ := fdF_eq (X := toI X) (K := toI K) 60 0
  have b := fdF_r (X := toI X) (K := toI K) 60 0
  constructor
  · intro h
    refine ⟨_, Int.ofNat_lt.mp h, fun j hj => Int.ofNat_inj.mp (h1 j (Nat.zero_le j) hj)⟩
  · intro ⟨i, g1, g2⟩
    have i60 : i ≤ 60 := by
      by_cases c : i ≤ 60
      · exact c
      · have := hx i (by omega)
        omega
    have e : fdF (toI X) (toI K) 60 0 = i := by
      by_cases c1 : fdF (toI X) (toI K) 60 0 < i
      · cases h2 with
        | inl h2 => omega
        | inr h2 =>
          exact absurd (congrArg (fun n : Nat => (n : Int)) (g2 _ c1)) h2
      · by_cases c2 : i < fdF (toI X) (toI K) 60 0
        · have : (X i : Int) = (K i : Int) := h1 i (Nat.zero_le i) c2
          omega
        · omega
    show toI K (fdF (toI X) (toI K) 60 0) < toI X (fdF (toI X) (toI K) 60 0)
    rw [e]
    exact Int.ofNat_lt.mpr g1
theorem gt_tr {A B C : Nat → Nat} (x : gtL A B) (y : gtL B C) : gtL A C := by
  obtain ⟨i, h1, h2⟩ := x
  obtain ⟨j, k1, k2⟩ := y
  by_cases c : i < j
  · exact ⟨i, by rw [← k2 i c]; exact h1, fun l hl => (h2 l hl).trans (k2 l (by omega))⟩
  · by_cases c2 : j < i
    · exact ⟨j, by rw [h2 j c2]; exact k1, fun l hl => (h2 l (by omega)).trans (k2 l hl)⟩
    · have e : i = j := by omega
      subst e
      exact ⟨i, by omega, fun l hl => (h2 l hl).trans (k2 l hl)⟩
theorem gt_ir {A : Nat → Nat} : ¬ gtL A A := fun ⟨_, h, _⟩ => absurd h (Nat.lt_irrefl _)
theorem gt_or {A B : Nat → Nat} : ∀ n, (∀ i, n ≤ i → A i = B i) → A = B ∨ gtL A B ∨ gtL B A := by
  have lp : ∀ n k, (∀ j, j < k → A j = B j) → (∀ i, k + n ≤ i → A i = B i) → A = B ∨ gtL A B ∨ gtL B A := by
    intro n
    induction n with
    | zero =>
      intro k h1 h2
      left
      funext i
      by_cases c : i < k
      · exact h1 i c
      · exact h2 i (by omega)
    | succ n ih =>
      intro k h1 h2
      by_cases c : A k = B k
      · exact ih (k + 1) (fun j hj => by
          by_cases z : j = k
          · rw [z]; exact c
          · exact h1 j (by omega)) (fun i hi => h2 i (by omega))
      · by_cases c2 : B k < A k
        · exact Or.inr (Or.inl ⟨k, c2, h1⟩)
        · exact Or.inr (Or.inr ⟨k, by omega, fun j hj => (h1 j hj).symm⟩)
  intro n h
  exact lp n 0 (fun j hj => absurd hj (Nat.not_lt_zero j)) (fun i hi => h i (by omega))
/-- where Z goes -/
def poZ (Z : Pr2) : List Pr2 → Nat
  | [] => 0
  | W :: L => if adP Z.1 W.1 then 0 else poZ Z L + 1
def oI (Z : Pr2) (S : List Pr2) : List Pr2 := S.take (poZ Z S) ++ Z :: S.drop (poZ Z S)
def srt (M : List Pr2) : List Pr2 := M.foldl (fun S Z => oI Z S) []
theorem srt_app {M : List Pr2} {Z : Pr2} : srt (M ++ [Z]) = oI Z (srt M) := by
  unfold srt
  rw [List.foldl_append]
  rfl
theorem poZ_le (Z : Pr2) : ∀ S, poZ Z S ≤ S.length
  | [] => Nat.le_refl 0
  | W :: L => by
    have := poZ_le Z L
    unfold poZ
    rw [List.length_cons]
    split <;> omega
abbrev z60 (Z : Pr2) : Prop := ∀ i, 60 < i → Z.1 i = 0
abbrev dsc (S : List Pr2) : Prop := S.Pairwise fun Z W => gtL Z.1 W.1
theorem oI_mem {Z W : Pr2} {S : List Pr2} : W ∈ oI Z S ↔ W = Z ∨ W ∈ S := by
  have e : W ∈ S ↔ W ∈ S.take (poZ Z S) ∨ W ∈ S.drop (poZ Z S) := by
    rw [← List.mem_append, List.take_append_drop]
  unfold oI
  rw [List.mem_append, List.mem_cons, e]
  constructor
  · intro h
    cases h with
    | inl h => exact Or.inr (Or.inl h)
    | inr h =>
      cases h with
      | inl h => exact Or.inl h
      | inr h => exact Or.inr (Or.inr h)
  · intro h
    cases h with
    | inl h => exact Or.inr (Or.inl h)
    | inr h =>
      cases h with
      | inl h => exact Or.inl h
      | inr h => exact Or.inr (Or.inr h)
/-- what Z is ahead of begins at its place -/
theorem poZ_iff {Z : Pr2} (hz : z60 Z) : ∀ S : List Pr2, dsc S → ∀ i W, S[i]? = some W → (adP Z.1 W.1 ↔ poZ Z S ≤ i)
  | [], _, i, W, h => by cases h
  | V :: L, hs, i, W, h => by
    obtain ⟨h1, h2⟩ := List.pairwise_cons.mp hs
    unfold poZ
    cases i with
    | zero =>
      have e : V = W := Option.some.inj h
      rw [e]
      by_cases c : adP Z.1 W.1
      · rw [if_pos c]
        exact ⟨fun _ => Nat.le_refl 0, fun _ => c⟩
      · rw [if_neg c]
        exact ⟨fun z => absurd z c, fun z => absurd z (by omega)⟩
    | succ i =>
      have hi : L[i]? = some W := h
      have ih := poZ_iff hz L h2 i W hi
      by_cases c : adP Z.1 V.1
      · rw [if_pos c]
        refine ⟨fun _ => Nat.zero_le _, fun _ => ?_⟩
        exact (ad_gt hz).mpr (gt_tr ((ad_gt hz).mp c) (h1 W (List.mem_of_getElem? hi)))
      · rw [if_neg c, ih]
        omega
theorem oI_dsc {Z : Pr2} {S : List Pr2} (hz : z60 Z) (hs : dsc S) (h60 : ∀ W, W ∈ S → z60 W) (ne : ∀ W, W ∈ S → W.1 ≠ Z.1) : dsc (oI Z S) := by
  have hs0 := hs
  have e := List.take_append_drop (poZ Z S) S
  unfold dsc at hs
  rw [← e] at hs
  obtain ⟨a1, a2, a3⟩ := List.pairwise_append.mp hs
  unfold oI
  refine List.pairwise_append.mpr ⟨a1, List.pairwise_cons.mpr ⟨fun W hW => ?_, a2⟩, fun V hV W hW => ?_⟩
  · obtain ⟨i, hi⟩ := List.getElem?_of_mem hW
    rw [List.getElem?_drop] at hi
    exact (ad_gt hz).mp ((poZ_iff hz S hs0 _ W hi).mpr (by omega))
  · obtain ⟨i, hi⟩ := List.getElem?_of_mem hV
    have il : i < poZ Z S := by
      by_cases c : i < poZ Z S
      · exact c
      · rw [List.getElem?_take_eq_none (by omega)] at hi
        cases hi
    rw [List.getElem?_take_of_lt il] at hi
    have vS := List.mem_of_getElem? hi
    have gv : gtL V.1 Z.1 := by
      have no : ¬ adP Z.1 V.1 := fun z => absurd ((poZ_iff hz S hs0 i V hi).mp z) (by omega)
      cases gt_or (A := V.1) (B := Z.1) 61 (fun j hj => by rw [h60 V vS j (by omega), hz j (by omega)]) with
      | inl z => exact absurd z (ne V vS)
      | inr z =>
        cases z with
        | inl z => exact z
        | inr z => exact absurd ((ad_gt hz).mpr z) no
    cases List.mem_cons.mp hW with
    | inl z => rw [z]; exact gv
    | inr z => exact a3 V hV W z
/-- two lists in descending order with the same members are the same -/
theorem dsc_uniq : ∀ A B : List Pr2, dsc A → dsc B → (∀ Z, Z ∈ A ↔ Z ∈ B) → A = B
  | [], [], _, _, _ => rfl
  | [], b :: B, _, _, h => absurd ((h b).mpr List.mem_cons_self) List.not_mem_nil
  | a :: A, [], _, _, h => absurd ((h a).mp List.mem_cons_self) List.not_mem_nil
  | a :: A, b :: B, ha, hb, h => by
    obtain ⟨a1, a2⟩ := List.pairwise_cons.mp ha
    obtain ⟨b1, b2⟩ := List.pairwise_cons.mp hb
    have e : a = b := by
      cases List.mem_cons.mp ((h a).mp List.mem_cons_self) with
      | inl z => exact z
      | inr z =>
        cases List.mem_cons.mp ((h b).mpr List.mem_cons_self) with
        | inl y => exact y.symm
        | inr y => exact absurd (gt_tr (a1 b y) (b1 a z)) gt_ir
    subst e
    rw [dsc_uniq A B a2 b2 fun Z => ?_]
    constructor
    · intro hZ
      cases List.mem_cons.mp ((h Z).mp (List.mem_cons_of_mem _ hZ)) with
      | inl z => exact absurd (a1 Z hZ) (by rw [z]; exact gt_ir)
      | inr z => exact z
    · intro hZ
      cases List.mem_cons.mp ((h Z).mpr (List.mem_cons_of_mem _ hZ)) with
      | inl z => exact absurd (b1 Z hZ) (by rw [z]; exact gt_ir)
      | inr z => exact z
