/-! others: the class and the Model keep the same pairs -/
theorem cl_go {p q ls : Nat} (hpq : p + q ≤ 65) : ∀ (E : List Ent) (K : KpT) (S : List Pr2), clR p q K S → dsc S → (∀ W, W ∈ S → ∃ e', W = zE ls e' ∧ okE p q ls e' ∧ ∀ e, e ∈ E → oE e' e) → E.Pairwise oE → (∀ e, e ∈ E → okE p q ls e) → clR p q (E.foldl (stE p ls) K) ((E.map (zE ls)).foldl (fun S Z => oI Z S) S) ∧ dsc ((E.map (zE ls)).foldl (fun S Z => oI Z S) S) ∧ ∀ Z, Z ∈ (E.map (zE ls)).foldl (fun S Z => oI Z S) S ↔ Z ∈ S ∨ ∃ e, e ∈ E ∧ Z = zE ls e
  | [], K, S, r, hs, _, _, _ => by
    refine ⟨r, hs, fun Z => ⟨fun h => Or.inl h, fun h => ?_⟩⟩
    cases h with
    | inl h => exact h
    | inr h =>
      obtain ⟨e, h, _⟩ := h
      cases h
  | e :: E, K, S, r, hs, hw, pw, ok => by
    obtain ⟨p1, p2⟩ := List.pairwise_cons.mp pw
    have oke := ok e List.mem_cons_self
    have st := stE_rep hpq oke hs r fun W hW => by
      obtain ⟨e', a, b, c⟩ := hw W hW
      exact ⟨e', a, b, c e List.mem_cons_self⟩
    have d := oI_dsc (Z := zE ls e) (zE_60 oke) hs (fun W hW => by
      obtain ⟨e', a, b, c⟩ := hw W hW
      rw [a]
      exact zE_60 b) fun W hW h => by
      obtain ⟨e', a, b, c⟩ := hw W hW
      have s1 : stW W e.1 := by
        have := zE_st (ls := ls) oke.1
        unfold stW at this ⊢
        rw [h]
        exact this
      rw [a] at s1 h
      have s2 : e'.1 = e.1 := (zE_st b.1).uq s1
      have g := (sh_gt (s := e.1)).mpr (c e List.mem_cons_self s2)
      change shZ e'.1 (fX e'.2) = shZ e.1 (fX e.2) at h
      rw [s2] at h
      rw [h] at g
      exact gt_ir g
    have ih := cl_go hpq E (stE p ls K e) (oI (zE ls e) S) st d (fun W hW => by
      cases oI_mem.mp hW with
      | inl z => exact ⟨e, z, oke, fun e2 h2 => p1 e2 h2⟩
      | inr hW =>
        obtain ⟨e', a, b, c⟩ := hw W hW
        exact ⟨e', a, b, fun e2 h2 => c e2 (List.mem_cons_of_mem _ h2)⟩) p2 fun e2 h2 => ok e2 (List.mem_cons_of_mem _ h2)
    rw [List.foldl_cons, List.map_cons, List.foldl_cons]
    refine ⟨ih.1, ih.2.1, fun Z => ?_⟩
    rw [ih.2.2 Z, oI_mem]
    constructor
    · intro h
      cases h with
      | inl h =>
        cases h with
        | inl h => exact Or.inr ⟨e, List.mem_cons_self, h⟩
        | inr h => exact Or.inl h
      | inr h =>
        obtain ⟨e2, h2, h3⟩ := h
        exact Or.inr ⟨e2, List.mem_cons_of_mem _ h2, h3⟩
    · intro h
      cases h with
      | inl h => exact Or.inl (Or.inr h)
      | inr h =>
        obtain ⟨e2, h2, h3⟩ := h
        cases List.mem_cons.mp h2 with
        | inl z => rw [z] at h3; exact Or.inl (Or.inl h3)
        | inr z => exact Or.inr ⟨e2, z, h3⟩
theorem C_oth {cn tg : Nat → Nat} {p q ls least : Nat} {K : KpT} (hpq : p + q ≤ 65) (hle : least ≤ 60) (hp : 1 ≤ p) (hq : 1 ≤ q) (hls : ls ≤ 120) (c0 : 1 ≤ cn 0) (hcn : ∀ k, 120 < ls + k → cn k = 0) (tot : smN cn 130 = p * q) (htg : ∀ t, t < 130 → tg t = if ls ≤ t then cn (t - ls) else 0) : ∃ S, othS tg p q least S ∧ clR p q (afL p q ls least (rtW (fun k => (cn k : Int)) p q (60 - least)).1 (0, K.2.1, K.2.2.1, K.2.2.2.1, 0)) S := by
  have em := fun e => enL_mem (p := p) (q := q) (ls := ls) (least := least) (e := e) (rtW (fun k => (cn k : Int)) p q (60 - least)).1
  have rm := fun R => rt_mem (cn := cn) (p := p) (q := q) (dp := 60 - least) (by omega) hp c0 tot R
  have ok1 : ∀ e, e ∈ enL p q ls least (rtW (fun k => (cn k : Int)) p q (60 - least)).1 → okE p q ls e ∧ gpP tg p q least (zE ls e) ∧ tnP p q (zE ls e).1 (zE ls e).2 := fun e he => by
    obtain ⟨h1, h2, h3, h4⟩ := (em e).mp he
    have f := (rm e.2).mp h1
    obtain ⟨k1, k2, k3, k4, k5, k6⟩ := zE_ok hle c0 htg f h2 h3 h4
    have sl := smN_len (P := e.2) (by have := f.1; omega)
    exact ⟨⟨k1, k3, k4, by rw [sl.1]; exact f.2.1, by rw [sl.2]; exact f.2.2.1⟩, k5, k6⟩
  obtain ⟨g1, g2, g3⟩ := cl_go (ls := ls) hpq (enL p q ls least (rtW (fun k => (cn k : Int)) p q (60 - least)).1) (0, K.2.1, K.2.2.1, K.2.2.2.1, 0) [] ⟨rfl, rfl, fun i hi => absurd hi (Nat.not_lt_zero i), fun i j hi => absurd hi (Nat.not_lt_zero i), fun i W hi => absurd hi (Nat.not_lt_zero i)⟩ List.Pairwise.nil (fun W hW => absurd hW List.not_mem_nil) (enL_pw _ rt_pw) fun e he => (ok1 e he).1
  refine ⟨_, ⟨g2, fun Z => ?_⟩, by rw [afL_eq]; exact g1⟩
  rw [g3 Z]
  constructor
  · intro h
    cases h with
    | inl h => cases h
    | inr h =>
      obtain ⟨e, he, hz⟩ := h
      rw [hz]
      exact (ok1 e he).2
  · intro ⟨g, t⟩
    obtain ⟨e, a, b, c, d, f⟩ := zE_all hle hp hq hls c0 hcn htg g t
    exact Or.inr ⟨e, (em e).mpr ⟨(rm e.2).mpr a, b, c, d⟩, f⟩
theorem va_dg {f : Nat → Nat} {j d : Nat} (h1 : smN f d ≤ j) (h2 : j < smN f (d + 1)) : ∀ k v, v ≤ d → d < v + k → smN f v ≤ j → vaF f k (j - smN f v) v = d
  | 0, v, a, b, _ => absurd b (by omega)
  | k + 1, v, a, b, c => by
    have e : smN f (v + 1) = smN f v + f v := rfl
    unfold vaF
    by_cases z : v = d
    · rw [if_neg (by rw [z] at e c ⊢; omega)]
      exact z
    · have m := smN_mono (f := f) (show v + 1 ≤ d by omega)
      rw [if_pos (by omega), show j - smN f v - f v = j - smN f (v + 1) by omega]
      exact va_dg h1 h2 k (v + 1) (by omega) (by omega) (by omega)
theorem va_eq {f : Nat → Nat} {j : Nat} (h : j < smN f 61) : vaF f 61 j 0 = dgF f j := by
  obtain ⟨d, h1, h2, h3⟩ := sm_in 61 h
  rw [dgF_eq h2 h3 h1]
  exact va_dg h2 h3 61 0 (by omega) (by omega) (Nat.zero_le _)
theorem sn_eq {f : Nat → Nat} : ∀ k v, smN f v + snF2 f k v = smN f (v + k)
  | 0, v => rfl
  | k + 1, v => by
    have ih := sn_eq (f := f) k (v + 1)
    show smN f v + (f v + snF2 f k (v + 1)) = smN f (v + (k + 1))
    change smN f v + f v + snF2 f k (v + 1) = _ at ih
    rw [show v + (k + 1) = v + 1 + k by omega, ← ih]
    omega
/-- the same number of pairs, and the same FACES at every place -/
theorem oth_same {tg : Nat → Nat} {p q l : Nat} {K : KpT} {KM : KsT} {S S' : List Pr2} (a : othS tg p q l S) (b : clR p q K S) (a' : othS tg p q l S') (b' : mdR KM S') : K.2.2.2.2 = KM.1 ∧ K.1 = KM.2.1 ∧ ∀ k, k < K.1 → smN (KM.2.2.1 k) 61 = p ∧ smN (KM.2.2.2 k) 61 = q ∧ (∀ j, j < p → K.2.2.2.1 (65 * K.2.2.1 k + j) = (vaF (KM.2.2.1 k) 61 j 0 : Int)) ∧ ∀ j, j < q → K.2.2.2.1 (65 * K.2.2.1 k + p + j) = (vaF (KM.2.2.2 k) 61 j 0 : Int) := by
  have e := a.uq a'
  subst e
  obtain ⟨c1, c2, c3, c4, c5⟩ := b
  obtain ⟨m1, m2, m3⟩ := b'
  refine ⟨by omega, by omega, fun k hk => ?_⟩
  have g : S[k]? = some (S[k]'(by omega)) := List.getElem?_eq_getElem (by omega)
  have mem := List.mem_of_getElem? g
  generalize S[k]'(by omega) = W at g mem
  have m := m3 k W (by omega) g
  have c := c5 k W hk g
  have gp := ((a.2 W).mp mem).1
  rw [m.1, m.2]
  refine ⟨gp.1, gp.2.1, fun j hj => ?_, fun j hj => ?_⟩
  · rw [c.2.1 j hj, va_eq (by rw [gp.1]; exact hj)]
  · rw [c.2.2 j hj, va_eq (by rw [gp.2.1]; exact hj)]
