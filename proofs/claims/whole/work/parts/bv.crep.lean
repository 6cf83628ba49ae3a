/-! FaceSearch: what is kept is the first hundred in descending order -/
theorem sm_in {X : Nat → Nat} {j : Nat} : ∀ n, j < smN X n → ∃ d, d < n ∧ smN X d ≤ j ∧ j < smN X (d + 1)
  | 0, h => absurd h (Nat.not_lt_zero j)
  | n + 1, h => by
    by_cases c : j < smN X n
    · obtain ⟨d, h1, h2⟩ := sm_in n c
      exact ⟨d, by omega, h2⟩
    · exact ⟨n, by omega, by omega, h⟩
theorem smN_shp {s : Nat} {X : Nat → Nat} : ∀ d, smN (shZ s X) (s + d) = smN X d
  | 0 => smN_zero s fun i hi => if_neg (by omega)
  | d + 1 => by
    show smN (shZ s X) (s + d) + shZ s X (s + d) = smN X d + X d
    rw [smN_shp d]
    unfold shZ
    rw [if_pos (by omega), show s + d - s = d by omega]
theorem dg_sh {s j : Nat} {X : Nat → Nat} (hx : ∀ i, 60 < s + i → X i = 0) (hj : j < smN X 61) : dgF (shZ s X) j = s + dgF X j := by
  obtain ⟨d, h1, h2, h3⟩ := sm_in 61 hj
  have nz : X d ≠ 0 := fun z => by
    change j < smN X d + X d at h3
    omega
  have b : s + d ≤ 60 := by
    by_cases c : s + d ≤ 60
    · exact c
    · exact absurd (hx d (by omega)) nz
  rw [dgF_eq h2 h3 h1]
  refine dgF_eq ?_ ?_ (by omega)
  · rw [smN_shp]; exact h2
  · rw [show s + d + 1 = s + (d + 1) by omega, smN_shp]; exact h3
/-- the first of W's FACES -/
abbrev stW (W : Pr2) (s : Nat) : Prop := W.1 s ≠ 0 ∧ ∀ j, j < s → W.1 j = 0
theorem stW.uq {W : Pr2} {s r : Nat} (a : stW W s) (b : stW W r) : s = r := by
  by_cases c : s < r
  · exact absurd (b.2 s c) a.1
  · by_cases c2 : r < s
    · exact absurd (a.2 r c2) b.1
    · omega
abbrev okE (p q ls : Nat) (e : Ent) : Prop := fX e.2 0 ≠ 0 ∧ (∀ i, 60 < e.1 + i → fX e.2 i = 0) ∧ (∀ i, 60 < ls - e.1 + i → fY e.2 i = 0) ∧ smN (fX e.2) 61 = p ∧ smN (fY e.2) 61 = q
abbrev clR (p q : Nat) (K : KpT) (S : List Pr2) : Prop := K.2.2.2.2 = S.length ∧ K.1 = min 100 S.length ∧ (∀ i, i < K.1 → K.2.2.1 i < 100 ∧ (K.1 < 100 → K.2.2.1 i < K.1)) ∧ (∀ i j, i < K.1 → j < K.1 → K.2.2.1 i = K.2.2.1 j → i = j) ∧ ∀ i W, i < K.1 → S[i]? = some W → stW W (K.2.1 i) ∧ (∀ j, j < p → K.2.2.2.1 (65 * K.2.2.1 i + j) = (dgF W.1 j : Int)) ∧ ∀ j, j < q → K.2.2.2.1 (65 * K.2.2.1 i + p + j) = (dgF W.2 j : Int)
theorem zE_st {ls : Nat} {e : Ent} (h : fX e.2 0 ≠ 0) : stW (zE ls e) e.1 := by
  constructor
  · show shZ e.1 (fX e.2) e.1 ≠ 0
    unfold shZ
    rw [if_pos (Nat.le_refl _), Nat.sub_self]
    exact h
  · intro j hj
    exact if_neg (by omega)
theorem zE_60 {p q ls : Nat} {e : Ent} (h : okE p q ls e) : z60 (zE ls e) := fun i hi => by
  show shZ e.1 (fX e.2) i = 0
  unfold shZ
  by_cases c : e.1 ≤ i
  · rw [if_pos c]
    exact h.2.1 _ (by omega)
  · rw [if_neg c]
theorem at_po {Z : Pr2} {S : List Pr2} {st : Nat → Nat} {s : Nat} (hz : z60 Z) (hs : dsc S) : ∀ k, k ≤ S.length → (∀ i W, i < k → S[i]? = some W → (adP Z.1 W.1 ↔ s < st i)) → atF st s k = min (poZ Z S) k
  | 0, _, _ => by rw [Nat.min_zero]; rfl
  | k + 1, hk, h => by
    have ih := at_po (st := st) (s := s) hz hs k (by omega) fun i W hi => h i W (by omega)
    have g : S[k]? = some S[k] := List.getElem?_eq_getElem (by omega)
    have e := h k _ (by omega) g
    have p := poZ_iff hz S hs k _ g
    unfold atF
    by_cases c : s < st k
    · rw [if_pos c, ih]
      have := p.mp (e.mpr c)
      omega
    · rw [if_neg c]
      have : ¬ poZ Z S ≤ k := fun z => c (e.mp (p.mpr z))
      omega
theorem stE_rep {p q ls : Nat} {K : KpT} {S : List Pr2} {e : Ent} (hpq : p + q ≤ 65) (ok : okE p q ls e) (hs : dsc S) (r : clR p q K S) (hw : ∀ W, W ∈ S → ∃ e', W = zE ls e' ∧ okE p q ls e' ∧ oE e' e) : clR p q (stE p ls K e) (oI (zE ls e) S) := by
  obtain ⟨r1, r2, r3, r4, r5⟩ := r
  have hz := zE_60 ok
  have le := poZ_le (zE ls e) S
  have ol := oI_len (Z := zE ls e) (S := S)
  have ps := at_po (Z := zE ls e) (st := K.2.1) (s := e.1) hz hs K.1 (by omega) fun i W hi h => by
    obtain ⟨e', e1, e2, e3⟩ := hw W (List.mem_of_getElem? h)
    have s1 := (r5 i W hi h).1
    rw [e1] at s1
    have s2 : e'.1 = K.2.1 i := (zE_st e2.1).uq s1
    rw [ad_gt hz, e1, ← s2]
    constructor
    · intro g
      by_cases c : e.1 < e'.1
      · exact c
      · by_cases c2 : e'.1 < e.1
        · exact absurd (gt_tr g (sh_lt c2 e2.1)) gt_ir
        · have c3 : e'.1 = e.1 := by omega
          have y := (sh_gt (s := e.1)).mpr (e3 c3)
          change gtL (shZ e.1 (fX e.2)) (shZ e'.1 (fX e'.2)) at g
          rw [c3] at g
          exact absurd (gt_tr g y) gt_ir
    · intro c
      exact sh_lt c ok.1
  unfold stE kpF
  dsimp only
  rw [ps]
  by_cases c : min (poZ (zE ls e) S) K.1 = 100
  · rw [if_pos c]
    refine ⟨by show K.2.2.2.2 + 1 = _; omega, by show K.1 = _; omega, r3, r4, fun i W hi h => ?_⟩
    change i < K.1 at hi
    rw [oI_at, if_pos (by omega)] at h
    exact r5 i W hi h
  · rw [if_neg c]
    obtain ⟨a, ha⟩ : ∃ a, poZ (zE ls e) S = a := ⟨_, rfl⟩
    have oa := fun i => oI_at (Z := zE ls e) (S := S) (i := i)
    rw [ha] at c le
    simp only [ha] at oa
    rw [ha, show min a K.1 = a by omega]
    obtain ⟨S0, hS0⟩ : ∃ S0, (if K.1 < 100 then K.1 else K.2.2.1 99) = S0 := ⟨_, rfl⟩
    rw [hS0]
    have S1 : S0 < 100 := by
      rw [← hS0]
      split
      · assumption
      · exact (r3 99 (by omega)).1
    have S2 : ∀ i, i < K.1 → i < 99 → K.2.2.1 i ≠ S0 := fun i h1 h2 z => by
      rw [← hS0] at z
      by_cases c1 : K.1 < 100
      · rw [if_pos c1] at z
        have := (r3 i h1).2 c1
        omega
      · rw [if_neg c1] at z
        have := r4 i 99 h1 (by omega) z
        omega
    -- where an entry was before
    have sl : ∀ i, i < min (K.1 + 1) 100 → (i = a ∧ shF K.2.2.1 a (min (K.1 + 1) 100) S0 i = S0) ∨ ∃ j, j < K.1 ∧ j < 99 ∧ (i < a ∧ j = i ∨ a < i ∧ i = j + 1) ∧ shF K.2.2.1 a (min (K.1 + 1) 100) S0 i = K.2.2.1 j ∧ shF K.2.1 a (min (K.1 + 1) 100) e.1 i = K.2.1 j ∧ (oI (zE ls e) S)[i]? = S[j]? := fun i hi => by
      unfold shF
      by_cases c1 : i < a
      · right
        refine ⟨i, by omega, by omega, Or.inl ⟨c1, rfl⟩, by rw [if_pos c1], by rw [if_pos c1], by rw [oa i, if_pos c1]⟩
      · by_cases c2 : i = a
        · left
          exact ⟨c2, by rw [if_neg c1, if_pos c2]⟩
        · right
          refine ⟨i - 1, by omega, by omega, Or.inr ⟨by omega, by omega⟩, by rw [if_neg c1, if_neg c2, if_pos hi], by rw [if_neg c1, if_neg c2, if_pos hi], by rw [oa i, if_neg c1, if_neg c2]⟩
    refine ⟨by show K.2.2.2.2 + 1 = _; omega, by show min (K.1 + 1) 100 = _; omega, fun i hi => ?_, fun i j hi hj h => ?_, fun i W hi h => ?_⟩
    · change i < min (K.1 + 1) 100 at hi
      show shF K.2.2.1 a (min (K.1 + 1) 100) S0 i < 100 ∧ (min (K.1 + 1) 100 < 100 → shF K.2.2.1 a (min (K.1 + 1) 100) S0 i < min (K.1 + 1) 100)
      cases sl i hi with
      | inl x =>
        rw [x.2]
        refine ⟨S1, fun h => ?_⟩
        rw [← hS0, if_pos (by omega)]
        omega
      | inr x =>
        obtain ⟨j, j1, j2, j3, j4, j5⟩ := x
        rw [j4]
        have := r3 j j1
        exact ⟨this.1, fun h => by have := this.2 (by omega); omega⟩
    · change i < min (K.1 + 1) 100 at hi
      change j < min (K.1 + 1) 100 at hj
      change shF K.2.2.1 a (min (K.1 + 1) 100) S0 i = shF K.2.2.1 a (min (K.1 + 1) 100) S0 j at h
      cases sl i hi with
      | inl x =>
        cases sl j hj with
        | inl y => omega
        | inr y =>
          obtain ⟨j', j1, j2, j3, j4, j5⟩ := y
          rw [x.2, j4] at h
          exact absurd h.symm (S2 j' j1 j2)
      | inr x =>
        obtain ⟨i', i1, i2, i3, i4, i5⟩ := x
        cases sl j hj with
        | inl y =>
          rw [y.2, i4] at h
          exact absurd h (S2 i' i1 i2)
        | inr y =>
          obtain ⟨j', j1, j2, j3, j4, j5⟩ := y
          rw [i4, j4] at h
          have := r4 i' j' i1 j1 h
          omega
    · change i < min (K.1 + 1) 100 at hi
      show stW W (shF K.2.1 a (min (K.1 + 1) 100) e.1 i) ∧ (∀ j, j < p → pfW (pfW K.2.2.2.1 (65 * S0 + 0) e.1 (fX e.2) (smN (fX e.2) 61)) (65 * S0 + p) (ls - e.1) (fY e.2) (smN (fY e.2) 61) (65 * shF K.2.2.1 a (min (K.1 + 1) 100) S0 i + j) = (dgF W.1 j : Int)) ∧ ∀ j, j < q → pfW (pfW K.2.2.2.1 (65 * S0 + 0) e.1 (fX e.2) (smN (fX e.2) 61)) (65 * S0 + p) (ls - e.1) (fY e.2) (smN (fY e.2) 61) (65 * shF K.2.2.1 a (min (K.1 + 1) 100) S0 i + p + j) = (dgF W.2 j : Int)
      obtain ⟨k1, k2, k3, k4, k5⟩ := ok
      rw [k4, k5]
      cases sl i hi with
      | inl x =>
        rw [oa i, if_neg (by omega), if_pos x.1] at h
        have hW := Option.some.inj h
        rw [← hW, x.2]
        refine ⟨?_, fun j hj => ?_, fun j hj => ?_⟩
        · unfold shF
          rw [if_neg (by omega), if_pos x.1]
          exact zE_st k1
        · unfold pfW
          rw [if_neg (by omega), if_pos (by omega), show 65 * S0 + j - (65 * S0 + 0) = j by omega]
          show _ = (dgF (shZ e.1 (fX e.2)) j : Int)
          rw [dg_sh k2 (by omega)]
        · unfold pfW
          rw [if_pos (by omega), show 65 * S0 + p + j - (65 * S0 + p) = j by omega]
          show _ = (dgF (shZ (ls - e.1) (fY e.2)) j : Int)
          rw [dg_sh k3 (by omega)]
      | inr x =>
        obtain ⟨i', i1, i2, i3, i4, i5, i6⟩ := x
        rw [i6] at h
        have o := r5 i' W i1 h
        have ns := S2 i' i1 i2
        rw [i4, i5]
        refine ⟨o.1, fun j hj => ?_, fun j hj => ?_⟩
        · unfold pfW
          rw [if_neg (by omega), if_neg (by omega)]
          exact o.2.1 j hj
        · unfold pfW
          rw [if_neg (by omega), if_neg (by omega)]
          exact o.2.2 j hj
