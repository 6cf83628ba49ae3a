/-! FaceSearch: all paths that are right, each once, in descending order -/
theorem nw_mem {cn : Nat → Nat} {p q dp : Nat} (hdp : dp ≤ 60) (c0 : 1 ≤ cn 0) (tot : smN cn 130 = p * q) : ∀ (k : Nat) (P : Pth), k + P.length = 61 → P.length ≠ 0 → ivP cn p q dp P → ∀ R, (R ∈ (ndW (fun k => (cn k : Int)) p q dp k P).1 ↔ fdP cn p q dp R ∧ ∃ b rest, R = P ++ b :: rest)
  | 0, P, h, _, iv, _ => absurd iv.1 (by omega)
  | k + 1, P, h, h0, iv, R => by
    have e := en_mem (ch := ndW (fun k => (cn k : Int)) p q dp k) hdp c0 tot iv (fun a R _ iv' => nw_mem hdp c0 tot k (P ++ [a]) (by rw [app_len]; omega) (by rw [app_len]; omega) iv' R) R (tW (fun k => (cn k : Int)) p P) (by unfold tW; omega)
    show R ∈ (enW (fun k => (cn k : Int)) p q dp (ndW (fun k => (cn k : Int)) p q dp k) P (tW (fun k => (cn k : Int)) p P)).1 ↔ _
    rw [e]
    constructor
    · intro ⟨f, t, u, rest, e, _⟩
      exact ⟨f, (t, u), rest, e⟩
    · intro ⟨f, ⟨t, u⟩, rest, e⟩
      refine ⟨f, t, u, rest, e, ?_⟩
      rw [e] at f
      have k := fn_key hdp c0 iv f
      have y := (iv.2.2.2.2.2 h0).2
      have b := k.2.2.2.1 h0
      have lo := lF_cv (c := fun k => (cn k : Int)) P.length P rfl (by have := iv.1; omega) P.length
      have e2 : (lF (fun k => (cn k : Int)) P P.length).toNat = cn P.length - cvN (fX P) (fY P) P.length := by
        rw [lo]
        show ((cn P.length : Int) - _).toNat = _
        omega
      unfold tW
      rw [if_pos (by omega), e2]
      have : t ≤ (cn P.length - cvN (fX P) (fY P) P.length) / fY P 0 := (Nat.le_div_iff_mul_le (by omega)).mpr b
      have := k.2.2.1
      omega
theorem rt_mem {cn : Nat → Nat} {p q dp : Nat} (hdp : dp ≤ 60) (hp : 1 ≤ p) (c0 : 1 ≤ cn 0) (tot : smN cn 130 = p * q) (R : Pth) : R ∈ (rtW (fun k => (cn k : Int)) p q dp).1 ↔ fdP cn p q dp R := by
  have iv : ivP cn p q dp [] := by
    refine ⟨Nat.zero_le _, Nat.zero_le _, Nat.zero_le _, fun z => ?_, fun k _ => ?_, fun z => absurd rfl z⟩
    · have : (0 : Nat) = p := z.1
      omega
    · have z : cvN (fX []) (fY []) k = 0 := smN_zero 61 fun v _ => by
        unfold cvT
        rw [(fX_ge (P := []) (Nat.zero_le v)).1, Nat.zero_mul]
        split <;> rfl
      rw [z]
      exact Nat.zero_le _
  have e := en_mem (ch := ndW (fun k => (cn k : Int)) p q dp 60) hdp c0 tot iv (fun a R _ iv' => nw_mem hdp c0 tot 60 ([] ++ [a]) rfl (by rw [app_len]; omega) iv' R) R (p + 1) (by show p + 1 ≤ p - 0 + 1; omega)
  show R ∈ (enW (fun k => (cn k : Int)) p q dp (ndW (fun k => (cn k : Int)) p q dp 60) [] (p + 1)).1 ↔ _
  rw [e]
  constructor
  · intro h
    exact h.1
  · intro f
    refine ⟨f, ?_⟩
    cases R with
    | nil =>
      have := f.2.1
      have z : (0 : Nat) = p := this
      omega
    | cons a R =>
      obtain ⟨t, u⟩ := a
      have k := fn_key (rest := R) hdp c0 iv f
      have b : t ≤ p - 0 := k.2.2.1
      exact ⟨t, u, R, rfl, by omega⟩
/-- A is ahead of B: more at the first place where they differ -/
abbrev gtL (A B : Nat → Nat) : Prop := ∃ i, B i < A i ∧ ∀ j, j < i → A j = B j
theorem en_pre {c : Nat → Int} {p q dp : Nat} {P : Pth} {ch : Pth → List Pth × Nat} (hch : ∀ a R, R ∈ (ch (P ++ [a])).1 → ∃ L, R = (P ++ [a]) ++ L) {R : Pth} : ∀ T, R ∈ (enW c p q dp ch P T).1 → ∃ t u L, t < T ∧ R = P ++ (t, u) :: L
  | 0, h => by cases h
  | T + 1, h => by
    unfold enW at h
    split at h
    · cases h
    · split at h
      · dsimp only at h
        cases List.mem_append.mp h with
        | inl h =>
          split at h
          · split at h
            · exact ⟨T, _, [], by omega, List.mem_singleton.mp h⟩
            · split at h
              · obtain ⟨L, hL⟩ := hch _ R h
                exact ⟨T, _, L, by omega, by rw [hL, List.append_assoc]; rfl⟩
              · cases h
          · cases h
        | inr h =>
          obtain ⟨t, u, L, h1, h2⟩ := en_pre hch T h
          exact ⟨t, u, L, by omega, h2⟩
      · obtain ⟨t, u, L, h1, h2⟩ := en_pre hch T h
        exact ⟨t, u, L, by omega, h2⟩
theorem nd_pre {c : Nat → Int} {p q dp : Nat} {R : Pth} : ∀ k P, R ∈ (ndW c p q dp k P).1 → ∃ L, R = P ++ L
  | 0, P, h => by cases h
  | k + 1, P, h => by
    obtain ⟨t, u, L, _, h2⟩ := en_pre (fun a R h => nd_pre k (P ++ [a]) h) _ h
    exact ⟨_, h2⟩
theorem pw_app {r : Pth → Pth → Prop} {A B : List Pth} (ha : A.Pairwise r) (hb : B.Pairwise r) (h : ∀ a, a ∈ A → ∀ b, b ∈ B → r a b) : (A ++ B).Pairwise r := List.pairwise_append.mpr ⟨ha, hb, h⟩
theorem en_pw {c : Nat → Int} {p q dp : Nat} {P : Pth} {ch : Pth → List Pth × Nat} (hch : ∀ a R, R ∈ (ch (P ++ [a])).1 → ∃ L, R = (P ++ [a]) ++ L) (hpw : ∀ a, (ch (P ++ [a])).1.Pairwise fun R S => gtL (fX R) (fX S)) : ∀ T, ((enW c p q dp ch P T).1).Pairwise fun R S => gtL (fX R) (fX S)
  | 0 => List.Pairwise.nil
  | T + 1 => by
    have ih := en_pw (c := c) (p := p) (q := q) (dp := dp) hch hpw T
    unfold enW
    split
    · exact List.Pairwise.nil
    · split
      · dsimp only
        refine pw_app ?_ ih fun a h b hb => ?_
        · split
          · split
            · exact List.pairwise_singleton _ _
            · split
              · exact hpw _
              · exact List.Pairwise.nil
          · exact List.Pairwise.nil
        · have e1 : ∃ u L, a = P ++ (T, u) :: L := by
            split at h
            · split at h
              · exact ⟨_, [], List.mem_singleton.mp h⟩
              · split at h
                · obtain ⟨L, hL⟩ := hch _ a h
                  exact ⟨_, L, by rw [hL, List.append_assoc]; rfl⟩
                · cases h
            · cases h
          obtain ⟨u, L, e1⟩ := e1
          obtain ⟨t, u2, L2, h1, e2⟩ := en_pre hch T hb
          have at_ : ∀ (t u : Nat) (L : Pth), fX (P ++ (t, u) :: L) P.length = t := fun t u L => by
            unfold fX
            rw [List.getElem?_append_right (Nat.le_refl _), Nat.sub_self]
            rfl
          refine ⟨P.length, ?_, fun j hj => ?_⟩
          · rw [e1, e2, at_, at_]
            exact h1
          · rw [e1, e2, (fX_pre hj).1, (fX_pre hj).1]
      · exact ih
theorem nd_pw {c : Nat → Int} {p q dp : Nat} : ∀ k P, ((ndW c p q dp k P).1).Pairwise fun R S => gtL (fX R) (fX S)
  | 0, _ => List.Pairwise.nil
  | k + 1, P => en_pw (fun a R h => nd_pre k (P ++ [a]) h) (fun a => nd_pw k (P ++ [a])) _
theorem rt_pw {c : Nat → Int} {p q dp : Nat} : ((rtW c p q dp).1).Pairwise fun R S => gtL (fX R) (fX S) := en_pw (fun a R h => nd_pre 60 ([] ++ [a]) h) (fun a => nd_pw 60 ([] ++ [a])) _
