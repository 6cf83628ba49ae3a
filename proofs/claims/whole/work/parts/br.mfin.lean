/-! the Model: what others leaves, as ONE list -/
theorem gp_uniq {tg : Nat → Nat} {p q l : Nat} {Z W : Pr2} (hp : 1 ≤ p) (hz : gpP tg p q l Z) (hw : gpP tg p q l W) (e : Z.1 = W.1) : Z = W := by
  obtain ⟨z1, z2, z3, z4⟩ := hz
  obtain ⟨w1, w2, w3, w4⟩ := hw
  obtain ⟨x, x1, x2, x3⟩ := mn_sup (X := Z.1) 61 (by omega)
  have go : ∀ n i, i < n → i ≤ 60 → Z.2 i = W.2 i := by
    intro n
    induction n with
    | zero => intro i h; omega
    | succ n ih =>
      intro i h1 h2
      by_cases c : i < n
      · exact ih i c h2
      · have e0 : smN (cvT Z.1 Z.2 (x + i)) 61 = smN (cvT Z.1 W.2 (x + i)) 61 := by
          have a := z4 (x + i) (by omega)
          have b := w4 (x + i) (by omega)
          rw [← e] at b
          exact a.trans b.symm
        have ef : cvT Z.1 W.2 (x + i) = upN (cvT Z.1 Z.2 (x + i)) x (cvT Z.1 W.2 (x + i) x) := funext fun v => by
          show _ = if v = x then _ else _
          by_cases c1 : v = x
          · rw [if_pos c1, c1]
          · rw [if_neg c1]
            unfold cvT
            by_cases c2 : v ≤ x + i ∧ x + i - v ≤ 60
            · rw [if_pos c2, if_pos c2]
              by_cases c3 : v < x
              · rw [x3 v c3, Nat.zero_mul, Nat.zero_mul]
              · rw [ih (x + i - v) (by omega) (by omega)]
            · rw [if_neg c2, if_neg c2]
        have up := sm_up (X := cvT Z.1 Z.2 (x + i)) (i := x) (t := cvT Z.1 W.2 (x + i) x) 61
        rw [← ef, if_pos x1, if_pos x1] at up
        have ex : cvT Z.1 Z.2 (x + i) x = cvT Z.1 W.2 (x + i) x := by omega
        unfold cvT at ex
        rw [if_pos ⟨by omega, by omega⟩, if_pos ⟨by omega, by omega⟩, show x + i - x = i by omega] at ex
        exact Nat.eq_of_mul_eq_mul_left (by omega) ex
  have e2 : Z.2 = W.2 := funext fun i => by
    by_cases c : i ≤ 60
    · exact go (i + 1) i (by omega) c
    · rw [(z3 i (Or.inr (by omega))).2, (w3 i (Or.inr (by omega))).2]
  exact Prod.ext e e2
/-- all pairs that count, in descending order -/
abbrev othS (tg : Nat → Nat) (p q l : Nat) (S : List Pr2) : Prop := dsc S ∧ ∀ Z, Z ∈ S ↔ gpP tg p q l Z ∧ tnP p q Z.1 Z.2
theorem othS.uq {tg : Nat → Nat} {p q l : Nat} {S S' : List Pr2} (a : othS tg p q l S) (b : othS tg p q l S') : S = S' := dsc_uniq S S' a.1 b.1 fun Z => by rw [a.2, b.2]
theorem M_oth {tg : Nat → Nat} {p q l low high : Nat} (hp : 1 ≤ p) (hq : 1 ≤ q) (tot : smN tg 130 = p * q) (l1 : ∀ s, s < low → tg s = 0) (l2 : tg low ≠ 0) (h1 : ∀ s, high < s → tg s = 0) (hlh : low ≤ high) (hh : high ≤ 120) : ∃ S, othS tg p q l S ∧ mdR (ksL p q (oLL tg p q l low high)) S := by
  have mem := fun Z => oLL_mem (Z := Z) (l := l) hp hq tot l1 l2 h1 hlh hh
  have nd := oLL_nd (tg := tg) (p := p) (q := q) (l := l) (low := low) (high := high) l2 hlh
  have h60 : ∀ W, W ∈ oLL tg p q l low high → z60 W := fun W hW i hi => (((mem W).mp hW).2.2.1 i (Or.inr hi)).1
  have ne : (oLL tg p q l low high).Pairwise fun Z W => Z.1 ≠ W.1 := List.Pairwise.imp_of_mem (fun {a b} ha hb h e => h (gp_uniq hp ((mem a).mp ha) ((mem b).mp hb) e)) nd
  have hf60 : ∀ W, W ∈ (oLL tg p q l low high).filter (fun Z => decide (tnP p q Z.1 Z.2)) → z60 W := fun W hW => h60 W (List.mem_filter.mp hW).1
  have nef : ((oLL tg p q l low high).filter fun Z => decide (tnP p q Z.1 Z.2)).Pairwise fun Z W => Z.1 ≠ W.1 := ne.filter _
  obtain ⟨d, m, _⟩ := srt_ok hf60 nef
  refine ⟨_, ⟨d, fun Z => ?_⟩, ksL_rep h60 ne⟩
  rw [m Z, List.mem_filter, mem Z]
  constructor
  · intro h
    exact ⟨h.1, of_decide_eq_true h.2⟩
  · intro h
    exact ⟨h.1, decide_eq_true h.2⟩
