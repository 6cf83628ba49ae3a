/-! the class's search finds the first of the good words -/
theorem fO_some {g : Nat → Option (List Nat)} {a : List Nat} : ∀ (k i : Nat), fO g k i = some a → ∃ c, i ≤ c ∧ c < i + k ∧ g c = some a ∧ ∀ c', i ≤ c' → c' < c → g c' = none
  | 0, i, h => by cases h
  | k + 1, i, h => by
    change (match g i with | some a => some a | none => fO g k (i + 1)) = some a at h
    cases e : g i with
    | some b =>
      rw [e] at h
      exact ⟨i, by omega, by omega, e.trans h, fun c' h1 h2 => absurd h1 (by omega)⟩
    | none =>
      rw [e] at h
      obtain ⟨c, c1, c2, c3, c4⟩ := fO_some k (i + 1) h
      refine ⟨c, by omega, by omega, c3, fun c' h1 h2 => ?_⟩
      by_cases z : c' = i
      · rw [z]; exact e
      · exact c4 c' (by omega) h2
theorem fO_none {g : Nat → Option (List Nat)} : ∀ (k i : Nat), fO g k i = none → ∀ c, i ≤ c → c < i + k → g c = none
  | 0, i, _, c, h1, h2 => absurd h2 (by omega)
  | k + 1, i, h, c, h1, h2 => by
    change (match g i with | some a => some a | none => fO g k (i + 1)) = none at h
    cases e : g i with
    | some b => rw [e] at h; cases h
    | none =>
      rw [e] at h
      by_cases z : c = i
      · rw [z]; exact e
      · exact fO_none k (i + 1) h c (by omega) (by omega)
theorem lst_c {v w : Nat → Nat} : ∀ k, (∀ i, i < k → v i = w i) → lstW v k = lstW w k
  | 0, _ => rfl
  | k + 1, h => by
    show v k :: lstW v k = w k :: lstW w k
    rw [lst_c k fun i hi => h i (by omega), h k (by omega)]
theorem lst_len (w : Nat → Nat) : ∀ k, (lstW w k).length = k
  | 0 => rfl
  | k + 1 => congrArg (· + 1) (lst_len w k)
theorem cn_lst (w : Nat → Nat) (c : Nat) : ∀ k, cn c (lstW w k) = cnW w c k
  | 0 => rfl
  | k + 1 => by
    show cn c (lstW w k) + (if w k = c then 1 else 0) = cnW w c k + if w k = c then 1 else 0
    rw [cn_lst w c k]
/-- a word that goes on as u begins (d letters), and may be found -/
def goW (n f fb wt d L : Nat) (u v : Nat → Nat) : Prop := (∀ i, i < d → v i = u i) ∧ (∀ i, d ≤ i → i < L → v i < n ∧ cnW v (v i) i < f) ∧ (∀ j, d < j → j ≤ L → okP n f fb wt (lstW v j)) ∧ fnP n fb (lstW v L)
theorem exF_go {n f fb wt : Nat} : ∀ (k d : Nat) (u : Nat → Nat), (∀ r, exF n f fb wt k (lstW u d) = some r → ∃ w, goW n f fb wt d (d + k) u w ∧ r = lstW w (d + k) ∧ ∀ v, goW n f fb wt d (d + k) u v → ¬ lxP (d + k) v w) ∧ (exF n f fb wt k (lstW u d) = none → ∀ v, ¬ goW n f fb wt d (d + k) u v)
  | 0, d, u => by
    have e : exF n f fb wt 0 (lstW u d) = if fnP n fb (lstW u d) then some (lstW u d) else none := rfl
    rw [e]
    by_cases c : fnP n fb (lstW u d)
    · rw [if_pos c]
      refine ⟨fun r hr => ⟨u, ⟨fun _ _ => rfl, fun i h1 h2 => absurd h1 (by omega), fun j h1 h2 => absurd h1 (by omega), c⟩, (Option.some.inj hr).symm, ?_⟩, fun h => by cases h⟩
      rintro v ⟨h1, -⟩ ⟨j, j1, j2, j3⟩
      have := h1 j j1
      omega
    · rw [if_neg c]
      refine ⟨fun r hr => (by cases hr), fun _ v hv => c ?_⟩
      have := hv.2.2.2
      rw [show d + 0 = d from rfl, lst_c d hv.1] at this
      exact this
  | k + 1, d, u => by
    have e : exF n f fb wt (k + 1) (lstW u d) = fO (exG n f fb wt (exF n f fb wt k) (lstW u d)) n 0 := rfl
    rw [e]
    have up : ∀ c, c :: lstW u d = lstW (upN u d c) (d + 1) := fun c => by
      show _ = upN u d c d :: lstW (upN u d c) d
      have e1 : upN u d c d = c := if_pos rfl
      rw [e1, lst_c (v := upN u d c) (w := u) d fun i hi => if_neg (by omega)]
    have ih := fun c => exF_go (n := n) (f := f) (fb := fb) (wt := wt) k (d + 1) (upN u d c)
    have edk : d + 1 + k = d + (k + 1) := by omega
    rw [edk] at ih
    -- one letter more
    have go_up : ∀ c v, c < n → cn c (lstW u d) < f → okP n f fb wt (c :: lstW u d) → goW n f fb wt (d + 1) (d + (k + 1)) (upN u d c) v → goW n f fb wt d (d + (k + 1)) u v := fun c v hc h1 h2 h => by
      obtain ⟨a1, a2, a3, a4⟩ := h
      have vc : v d = c := by rw [a1 d (by omega)]; exact if_pos rfl
      have vu : ∀ i, i < d → v i = u i := fun i hi => by rw [a1 i (by omega)]; exact if_neg (by omega)
      refine ⟨vu, fun i i1 i2 => ?_, fun j j1 j2 => ?_, a4⟩
      · by_cases z : i = d
        · rw [z, vc]
          refine ⟨hc, ?_⟩
          rw [cnW_c d vu, ← cn_lst]
          exact h1
        · exact a2 i (by omega) i2
      · by_cases z : j = d + 1
        · rw [z]
          show okP n f fb wt (v d :: lstW v d)
          rw [vc, lst_c d vu]
          exact h2
        · exact a3 j (by omega) j2
    have go_dn : ∀ v, goW n f fb wt d (d + (k + 1)) u v → v d < n ∧ cn (v d) (lstW u d) < f ∧ okP n f fb wt (v d :: lstW u d) ∧ goW n f fb wt (d + 1) (d + (k + 1)) (upN u d (v d)) v := fun v h => by
      obtain ⟨a1, a2, a3, a4⟩ := h
      have b := a2 d (by omega) (by omega)
      refine ⟨b.1, ?_, ?_, ⟨fun i hi => ?_, fun i i1 i2 => a2 i (by omega) i2, fun j j1 j2 => a3 j (by omega) j2, a4⟩⟩
      · rw [cn_lst, ← cnW_c d a1]
        exact b.2
      · have := a3 (d + 1) (by omega) (by omega)
        change okP n f fb wt (v d :: lstW v d) at this
        rw [lst_c d a1] at this
        exact this
      · show v i = if i = d then v d else u i
        by_cases z : i = d
        · rw [if_pos z, z]
        · rw [if_neg z]
          exact a1 i (by omega)
    have gN : ∀ c, c < n → exG n f fb wt (exF n f fb wt k) (lstW u d) c = none → ∀ v, v d = c → ¬ goW n f fb wt d (d + (k + 1)) u v := fun c hc h v vc hv => by
      obtain ⟨b1, b2, b3, b4⟩ := go_dn v hv
      rw [vc] at b2 b3 b4
      rw [exG_t ⟨b2, b3⟩, up] at h
      exact (ih c).2 h v b4
    refine ⟨fun r hr => ?_, fun h v hv => ?_⟩
    · obtain ⟨c, -, c2, c3, c4⟩ := fO_some n 0 hr
      by_cases g : cn c (lstW u d) < f ∧ okP n f fb wt (c :: lstW u d)
      · rw [exG_t g, up] at c3
        obtain ⟨w, w1, w2, w3⟩ := (ih c).1 r c3
        refine ⟨w, go_up c w (by omega) g.1 g.2 w1, w2, fun v hv => ?_⟩
        have wd : w d = c := by rw [w1.1 d (by omega)]; exact if_pos rfl
        have b := go_dn v hv
        rintro ⟨j, j1, j2, j3⟩
        have jd : d ≤ j := by
          by_cases z : d ≤ j
          · exact z
          · have a := hv.1 j (by omega)
            have a2 := w1.1 j (by omega)
            have a3 : upN u d c j = u j := if_neg (by omega)
            omega
        by_cases z : j = d
        · rw [z, wd] at j3
          exact gN (v d) (by omega) (c4 (v d) (by omega) j3) v rfl hv
        · have vd : v d = c := by rw [j2 d (by omega), wd]
          have b4 := b.2.2.2
          rw [vd] at b4
          exact w3 v b4 ⟨j, j1, j2, j3⟩
      · rw [exG_f g] at c3
        cases c3
    · exact gN (v d) (by have := go_dn v hv; omega) (fO_none n 0 h (v d) (by omega) (by have := go_dn v hv; omega)) v rfl hv
/-- all letters as often: a word -/
theorem cn_sum {n : Nat} {w : Nat → Nat} : ∀ L, (∀ i, i < L → w i < n) → smN (fun c => cnW w c L) n = L
  | 0, _ => smN_zero n fun _ _ => rfl
  | L + 1, h => by
    have e : ∀ n, w L < n → smN (fun c => cnW w c L + if w L = c then 1 else 0) n = smN (fun c => cnW w c L) n + 1 := fun n => by
      induction n with
      | zero => intro h; exact absurd h (by omega)
      | succ n ih =>
        intro hn
        show smN (fun c => cnW w c L + if w L = c then 1 else 0) n + (cnW w n L + if w L = n then 1 else 0) = smN (fun c => cnW w c L) n + cnW w n L + 1
        by_cases z : w L = n
        · rw [if_pos z, smN_cg (g := fun c => cnW w c L) n fun c hc => by rw [if_neg (by omega)]; rfl]
          omega
        · rw [if_neg z, ih (by omega)]
          omega
    have := e n (h L (by omega))
    rw [cn_sum L fun i hi => h i (by omega)] at this
    exact this
theorem smN_le2 {f : Nat → Nat} {b : Nat} : ∀ n, (∀ i, i < n → f i ≤ b) → smN f n ≤ n * b ∧ (smN f n = n * b → ∀ i, i < n → f i = b)
  | 0, _ => ⟨Nat.zero_le _, fun _ i hi => absurd hi (by omega)⟩
  | n + 1, h => by
    obtain ⟨a1, a2⟩ := smN_le2 n fun i hi => h i (by omega)
    have hn := h n (by omega)
    have e : smN f (n + 1) = smN f n + f n := rfl
    have e2 : (n + 1) * b = n * b + b := by rw [Nat.add_mul, Nat.one_mul]
    refine ⟨by omega, fun z i hi => ?_⟩
    by_cases c : i = n
    · rw [c]; omega
    · exact a2 (by omega) i (by omega)
theorem go_wd {n f fb wt : Nat} {u v : Nat → Nat} (h : goW n f fb wt 0 (n * f) u v) : wdP2 n f (n * f) v := by
  obtain ⟨-, a2, -, -⟩ := h
  have l : ∀ i, i < n * f → v i < n := fun i hi => (a2 i (by omega) hi).1
  have b : ∀ c k, k ≤ n * f → cnW v c k ≤ f := fun c k => by
    induction k with
    | zero => intro _; exact Nat.zero_le _
    | succ k ih =>
      intro hk
      show cnW v c k + (if v k = c then 1 else 0) ≤ f
      by_cases z : v k = c
      · rw [if_pos z]
        have := (a2 k (by omega) (by omega)).2
        rw [z] at this
        omega
      · rw [if_neg z]
        exact ih (by omega)
  refine ⟨l, fun c hc => ?_⟩
  exact (smN_le2 n fun i _ => b i (n * f) (Nat.le_refl _)).2 (cn_sum (n * f) l) c hc
theorem wd_go {n f fb wt : Nat} {u v : Nat → Nat} (h : wdP2 n f (n * f) v) (ho : ∀ j, 0 < j → j ≤ n * f → okP n f fb wt (lstW v j)) (hf : fnP n fb (lstW v (n * f))) : goW n f fb wt 0 (n * f) u v := by
  refine ⟨fun i hi => absurd hi (by omega), fun i _ hi => ⟨h.1 i hi, ?_⟩, ho, hf⟩
  have := cnW_lt (w := v) hi rfl
  rw [h.2 _ (h.1 i hi)] at this
  exact this
