/-! FaceSearch: its list is all paths that are right -/
theorem fd_inc {cn : Nat → Nat} {p q dp : Nat} {A L : Pth} {b : Nat × Nat} (f : fdP cn p q dp (A ++ b :: L)) : ¬ (sX A = p ∧ sY A = q) := by
  obtain ⟨f1, f2, f3, f4, f5⟩ := f
  intro ⟨a1, a2⟩
  obtain ⟨n, hn⟩ : ∃ n, (A ++ b :: L).length = n + 1 := ⟨A.length + L.length, by rw [List.length_append, List.length_cons]; omega⟩
  have na : A.length ≤ n := by
    rw [List.length_append, List.length_cons] at hn
    omega
  unfold sX at f2 a1
  unfold sY at f3 a2
  rw [hn] at f2 f3 f5
  change smN (fX (A ++ b :: L)) n + fX (A ++ b :: L) n = p at f2
  change smN (fY (A ++ b :: L)) n + fY (A ++ b :: L) n = q at f3
  have m1 := smN_mono (f := fX (A ++ b :: L)) na
  have m2 := smN_mono (f := fY (A ++ b :: L)) na
  rw [smN_cg A.length (g := fX A) fun i hi => (fX_pre hi).1] at m1
  rw [smN_cg A.length (g := fY A) fun i hi => (fX_pre hi).2] at m2
  rw [show n + 1 - 1 = n from rfl] at f5
  omega
theorem en_ok {cn : Nat → Nat} {p q dp : Nat} {P : Pth} {a : Nat × Nat} (hdp : dp ≤ 60) (iv : ivP cn p q dp P) : enP (fun k => (cn k : Int)) (P ++ [a]) ↔ ∀ k, k < 130 → cvN (fX (P ++ [a])) (fY (P ++ [a])) k ≤ cn k := by
  obtain ⟨v1, v2, v3, v4, v5, v6⟩ := iv
  have l' := app_len (P := P) (a := a)
  have lf : ∀ k, lF (fun k => (cn k : Int)) (P ++ [a]) k = (cn k : Int) - (cvN (fX (P ++ [a])) (fY (P ++ [a])) k : Int) := lF_cv (P.length + 1) (P ++ [a]) l' (by omega)
  have lo : ∀ k, lF (fun k => (cn k : Int)) P k = (cn k : Int) - (cvN (fX P) (fY P) k : Int) := lF_cv P.length P rfl (by omega)
  have la : ∀ k, lF (fun k => (cn k : Int)) (P ++ [a]) k = lF (fun k => (cn k : Int)) P k - ckF (fX (P ++ [a])) (fY (P ++ [a])) P.length k := fun k => lF_app
  have e1 : (P ++ [a]).length - 1 = P.length := by omega
  constructor
  · intro h k hk
    have b := v5 k hk
    have x := lf k
    have y := lo k
    have z := la k
    cases h with
    | inl h =>
      rw [e1] at h
      rw [ckF_00 h] at z
      omega
    | inr h =>
      rw [e1] at h
      by_cases c : P.length ≤ k ∧ k < P.length + (P.length + 1)
      · have := h k c.1 c.2
        omega
      · rw [ckF_0 c] at z
        omega
  · intro h
    right
    rw [e1]
    intro k h1 h2
    have := h k (by omega)
    rw [lf k]
    omega
theorem fd_full {cn : Nat → Nat} {p q dp : Nat} {P : Pth} {a : Nat × Nat} (hdp : dp ≤ 60) (tot : smN cn 130 = p * q) (iv : ivP cn p q dp P) (en : ∀ k, k < 130 → cvN (fX (P ++ [a])) (fY (P ++ [a])) k ≤ cn k) (hX : sX (P ++ [a]) = p) (hY : sY (P ++ [a]) = q) : fdP cn p q dp (P ++ [a]) := by
  obtain ⟨v1, v2, v3, v4, v5, v6⟩ := iv
  have l' := app_len (P := P) (a := a)
  have sl := smN_len (P := P ++ [a]) (by omega)
  refine ⟨by omega, hX, hY, fun k hk => ?_, ?_⟩
  · refine ((smN_eqv (f := cn) (g := cvN (fX (P ++ [a])) (fY (P ++ [a]))) 130 en).2 ?_ k hk).symm
    rw [cvN_tot, sl.1, sl.2, hX, hY, tot]
  · have s := sX_app (P := P) (a := a)
    rw [hX, hY] at s
    rw [show (P ++ [a]).length - 1 = P.length by omega, fX_app.1, fX_app.2]
    show (if P.length = P.length then a.1 else _) ≠ 0 ∨ (if P.length = P.length then a.2 else _) ≠ 0
    rw [if_pos rfl, if_pos rfl]
    omega
theorem en_mem {cn : Nat → Nat} {p q dp : Nat} {P : Pth} {ch : Pth → List Pth × Nat} (hdp : dp ≤ 60) (c0 : 1 ≤ cn 0) (tot : smN cn 130 = p * q) (iv : ivP cn p q dp P) (hch : ∀ a R, P.length < dp → ivP cn p q dp (P ++ [a]) → (R ∈ (ch (P ++ [a])).1 ↔ fdP cn p q dp R ∧ ∃ b rest, R = (P ++ [a]) ++ b :: rest)) (R : Pth) : ∀ T, T ≤ p - sX P + 1 → (R ∈ (enW (fun k => (cn k : Int)) p q dp ch P T).1 ↔ fdP cn p q dp R ∧ ∃ t u rest, R = P ++ (t, u) :: rest ∧ t < T)
  | 0, _ => by
    constructor
    · intro h
      cases h
    · intro ⟨_, t, u, rest, _, h⟩
      omega
  | T + 1, hT => by
    have ih := en_mem hdp c0 tot iv hch R T (by omega)
    have iv0 := iv
    obtain ⟨v1, v2, v3, v4, v5, v6⟩ := iv
    have split1 : (fdP cn p q dp R ∧ ∃ t u rest, R = P ++ (t, u) :: rest ∧ t < T + 1) ↔ (fdP cn p q dp R ∧ ∃ u rest, R = P ++ (T, u) :: rest) ∨ (fdP cn p q dp R ∧ ∃ t u rest, R = P ++ (t, u) :: rest ∧ t < T) := by
      constructor
      · intro ⟨f, t, u, rest, e, h⟩
        by_cases c : t = T
        · left
          rw [c] at e
          exact ⟨f, u, rest, e⟩
        · right
          exact ⟨f, t, u, rest, e, by omega⟩
      · intro h
        cases h with
        | inl h =>
          obtain ⟨f, u, rest, e⟩ := h
          exact ⟨f, T, u, rest, e, by omega⟩
        | inr h =>
          obtain ⟨f, t, u, rest, e, h⟩ := h
          exact ⟨f, t, u, rest, e, by omega⟩
    rw [split1]
    unfold enW
    by_cases z0 : P.length = 0 ∧ T = 0
    · rw [if_pos z0]
      constructor
      · intro h
        cases h
      · intro h
        cases h with
        | inl h =>
          obtain ⟨f, u, rest, e⟩ := h
          rw [e] at f
          exact absurd z0.2 ((fn_key hdp c0 iv0 f).2.2.2.2.1 z0.1)
        | inr h =>
          obtain ⟨f, t, u, rest, e, h⟩ := h
          omega
    · rw [if_neg z0]
      by_cases z1 : 0 ≤ ptW (fun k => (cn k : Int)) P T ∧ ptW (fun k => (cn k : Int)) P T ≤ ((q - sY P : Nat) : Int)
      · rw [if_pos z1]
        obtain ⟨w, hw⟩ : ∃ w : Nat, ptW (fun k => (cn k : Int)) P T = w := ⟨(ptW (fun k => (cn k : Int)) P T).toNat, by omega⟩
        rw [hw] at z1
        dsimp only
        rw [hw, Int.toNat_natCast, List.mem_append, ih]
        refine or_congr ?_ Iff.rfl
        have s := sX_app (P := P) (a := (T, w))
        dsimp only at s
        have iv1 : (∀ k, k < 130 → cvN (fX (P ++ [(T, w)])) (fY (P ++ [(T, w)])) k ≤ cn k) → ¬ (sX (P ++ [(T, w)]) = p ∧ sY (P ++ [(T, w)]) = q) → P.length < dp → ivP cn p q dp (P ++ [(T, w)]) := fun en nc ld => by
          have s1 : sX (P ++ [(T, w)]) ≤ p := by rw [s.1]; clear split1 ih hch; omega
          have s2 : sY (P ++ [(T, w)]) ≤ q := by rw [s.2]; clear split1 ih hch; omega
          refine ⟨by rw [app_len]; exact ld, s1, s2, nc, en, fun _ => ?_⟩
          by_cases c : P.length = 0
          · have e : P = [] := List.length_eq_zero_iff.mp c
            subst e
            have T0 : T ≠ 0 := fun z => z0 ⟨rfl, z⟩
            have hw2 := hw
            unfold ptW ptF at hw2
            dsimp only at hw2
            simp only [List.length_nil, ↓reduceIte, lF_nil] at hw2
            clear split1 ih hch
            have w0 : 1 ≤ w := by
              cases w with
              | succ w => omega
              | zero =>
                split at hw2
                · omega
                · rename_i k
                  have a1 : ((cn 0 % T : Nat) : Int) = (cn 0 : Int) % (T : Int) := Int.natCast_emod _ _
                  have a2 : ((cn 0 / T : Nat) : Int) = (cn 0 : Int) / (T : Int) := Int.natCast_ediv _ _
                  have a3 := Nat.div_add_mod (cn 0) T
                  have b1 : cn 0 % T = 0 := by omega
                  have b2 : cn 0 / T = 0 := by omega
                  rw [b1, b2, Nat.mul_zero] at a3
                  omega
            exact ⟨by show 1 ≤ T; omega, w0⟩
          · rw [(fX_pre (by omega)).1, (fX_pre (by omega)).2]
            exact v6 c
        have uu : ∀ u rest, fdP cn p q dp (P ++ (T, u) :: rest) → u = w ∧ ∀ k, k < 130 → cvN (fX (P ++ [(T, w)])) (fY (P ++ [(T, w)])) k ≤ cn k := fun u rest f => by
          have k := fn_key hdp c0 iv0 f
          have e : u = w := by
            have := k.1
            rw [hw] at this
            omega
          rw [← e]
          exact ⟨rfl, k.2.2.2.2.2⟩
        have ap : ∀ rest, P ++ (T, w) :: rest = (P ++ [(T, w)]) ++ rest := fun rest => by rw [List.append_assoc]; rfl
        by_cases c1 : enP (fun k => (cn k : Int)) (P ++ [(T, w)])
        · rw [if_pos c1]
          have en := (en_ok hdp iv0).mp c1
          by_cases c2 : sX (P ++ [(T, w)]) = p ∧ sY (P ++ [(T, w)]) = q
          · rw [if_pos c2]
            constructor
            · intro h
              have e : R = P ++ [(T, w)] := List.mem_singleton.mp h
              rw [e]
              exact ⟨fd_full hdp tot iv0 en c2.1 c2.2, w, [], rfl⟩
            · intro ⟨f, u, rest, e⟩
              rw [e] at f
              have k := (uu u rest f).1
              rw [k] at f e
              cases rest with
              | nil => rw [e]; exact List.mem_singleton.mpr rfl
              | cons b rest =>
                rw [ap] at f
                exact absurd c2 (fd_inc f)
          · rw [if_neg c2]
            by_cases c3 : P.length < dp
            · rw [if_pos c3, hch (T, w) R c3 (iv1 en c2 c3)]
              constructor
              · intro ⟨f, b, rest, e⟩
                exact ⟨f, w, b :: rest, by rw [ap]; exact e⟩
              · intro ⟨f, u, rest, e⟩
                rw [e] at f
                have k := (uu u rest f).1
                rw [k] at f e
                cases rest with
                | nil => exact absurd ⟨f.2.1, f.2.2.1⟩ c2
                | cons b rest =>
                  rw [← e] at f
                  exact ⟨f, b, rest, by rw [e, ap]⟩
            · rw [if_neg c3]
              constructor
              · intro h
                cases h
              · intro ⟨f, u, rest, e⟩
                rw [e] at f
                have k := (uu u rest f).1
                rw [k] at f e
                cases rest with
                | nil => exact absurd ⟨f.2.1, f.2.2.1⟩ c2
                | cons b rest =>
                  have := f.1
                  rw [List.length_append, List.length_cons, List.length_cons] at this
                  omega
        · rw [if_neg c1]
          constructor
          · intro h
            cases h
          · intro ⟨f, u, rest, e⟩
            rw [e] at f
            exact absurd ((en_ok hdp iv0).mpr (uu u rest f).2) c1
      · rw [if_neg z1, ih]
        constructor
        · intro h
          exact Or.inr h
        · intro h
          cases h with
          | inr h => exact h
          | inl h =>
            obtain ⟨f, u, rest, e⟩ := h
            rw [e] at f
            have k := fn_key hdp c0 iv0 f
            rw [k.1] at z1
            exact absurd ⟨by omega, by omega⟩ z1
