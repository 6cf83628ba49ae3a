/-! the sums of two dice: the class's WAYS are the Model's counted FACES -/
theorem fc_tg {f g : Nat → Int} {na : Nat} {t : Nat} : ∀ nb, fcN g nb ((t : Int) - f na) = (smN (tgT f g t na) nb : Int)
  | 0 => rfl
  | nb + 1 => by
    show fcN g nb ((t : Int) - f na) + (if (t : Int) - f na = g nb then 1 else 0) = ((smN (tgT f g t na) nb + (if f na + g nb = (t : Int) then 1 else 0) : Nat) : Int)
    rw [fc_tg nb]
    by_cases c : f na + g nb = (t : Int)
    · rw [if_pos (by omega), if_pos c]
      rfl
    · rw [if_neg (by omega), if_neg c]
      omega
theorem cv_tg {f g : Nat → Int} {nb t : Nat} : ∀ na, (∀ i, i < na → 0 ≤ f i ∧ f i ≤ 60) → cvW 0 (fcN f na) (fcN g nb) (t : Int) = (tgN f g na nb t : Int)
  | 0, _ => pS_zero fun m _ _ => Int.zero_mul _
  | na + 1, h => by
    have ih := cv_tg (g := g) (nb := nb) (t := t) na fun i hi => h i (by omega)
    have b := h na (by omega)
    have e : cvW 0 (fcN f (na + 1)) (fcN g nb) (t : Int) = tS (fun i => fcN f na i * fcN g nb (sg 0 i t) + (if i = f na then 1 else 0) * fcN g nb ((t : Int) - f na)) := by
      refine pS_congr fun m _ _ => ?_
      show (fcN f na m + (if m = f na then 1 else 0)) * fcN g nb (sg 0 m t) = _
      rw [Int.add_mul]
      by_cases c : m = f na
      · rw [if_pos c, c]
        rfl
      · rw [if_neg c, Int.zero_mul, Int.zero_mul]
    have s : tS (fun i => fcN f na i * fcN g nb (sg 0 i t) + (if i = f na then 1 else 0) * fcN g nb ((t : Int) - f na)) = tS (fun i => fcN f na i * fcN g nb (sg 0 i t)) + tS (fun i => (if i = f na then 1 else 0) * fcN g nb ((t : Int) - f na)) := sm_add _
    rw [e, s, tS_mulc, tS_one (by omega), Int.one_mul, fc_tg]
    change cvW 0 (fcN f na) (fcN g nb) (t : Int) + _ = ((smN (tgR f g nb t) na + tgR f g nb t na : Nat) : Int)
    rw [ih]
    rfl
/-- all that the two searches need of two dice -/
theorem oth_link {va vb : RowVal} {f g : Nat → Int} {na nb : Nat} (ga : gV va) (gb : gV vb) (pa : 0 ≤ va.1) (pb : 0 ≤ vb.1) (ha : va.1 ≤ 60) (hb : vb.1 ≤ 60) (hf : ∀ i, i < na → 0 ≤ f i ∧ f i ≤ 60) (hg : ∀ i, i < nb → 0 ≤ g i ∧ g i ≤ 60) (wa : ∀ x, va.2.2.2 x = fcN f na x) (wb : ∀ x, vb.2.2.2 x = fcN g nb x) : ∃ ls : Nat, (va.1 + vb.1).toNat = ls ∧ ls ≤ 120 ∧ skC va.2.2.2 vb.2.2.2 va.1 vb.1 = (fun k => ((tgN f g na nb (ls + k) : Nat) : Int)) ∧ 1 ≤ tgN f g na nb (ls + 0) ∧ (∀ k, 120 < ls + k → tgN f g na nb (ls + k) = 0) ∧ smN (fun k => tgN f g na nb (ls + k)) 130 = na * nb ∧ ∀ t, t < 130 → tgN f g na nb t = if ls ≤ t then tgN f g na nb (ls + (t - ls)) else 0 := by
  have ea : va.2.2.2 = fcN f na := funext wa
  have eb : vb.2.2.2 = fcN g nb := funext wb
  obtain ⟨ls, hl⟩ : ∃ ls : Nat, va.1 + vb.1 = (ls : Int) := ⟨(va.1 + vb.1).toNat, by omega⟩
  have cv := fun t : Nat => cv_tg (g := g) (nb := nb) (t := t) na hf
  rw [← ea, ← eb] at cv
  have sk : ∀ k, skC va.2.2.2 vb.2.2.2 va.1 vb.1 k = ((tgN f g na nb (ls + k) : Nat) : Int) := fun k => by
    show cvW 0 va.2.2.2 vb.2.2.2 ((k : Int) + va.1 + vb.1) = _
    rw [← cv (ls + k), show (k : Int) + va.1 + vb.1 = ((ls + k : Nat) : Int) by omega]
  have hi : ∀ t, 120 < t → tgN f g na nb t = 0 := fun t ht => smN_zero na fun i hi => smN_zero nb fun j hj => by
    have a := hf i hi
    have b := hg j hj
    exact if_neg (by omega)
  have lo : ∀ t, t < ls → tgN f g na nb t = 0 := fun t ht => by
    have z : cvW 0 va.2.2.2 vb.2.2.2 (t : Int) = 0 := pS_zero fun m _ _ => by
      by_cases c : m < va.1
      · rw [ga.2.2.1 m (by omega), Int.zero_mul]
      · rw [gb.2.2.1 (sg 0 m t) (by show ¬ (vb.1 ≤ (t : Int) - m ∧ _); omega), Int.mul_zero]
    have := cv t
    omega
  refine ⟨ls, by omega, by omega, funext sk, ?_, fun k hk => hi _ hk, ?_, fun t ht => ?_⟩
  · have a := ga.2.2.2.1.1
    have b := gb.2.2.2.1.1
    have m := Int.mul_pos a b
    have ge := tS_ge (f := fun i => va.2.2.2 i * vb.2.2.2 (sg 0 i (ls : Int))) (fun i => Int.mul_nonneg (ga.2.1 i) (gb.2.1 _)) (m := va.1) (by omega) (by omega)
    have e : sg 0 va.1 (ls : Int) = vb.1 := by show (ls : Int) - va.1 = vb.1; omega
    rw [e] at ge
    have c := cv ls
    change tS (fun i => va.2.2.2 i * vb.2.2.2 (sg 0 i (ls : Int))) = _ at c
    show 1 ≤ tgN f g na nb ls
    omega
  · rw [← tg_tot hf hg]
    have e : tgN f g na nb = shZ ls (fun k => tgN f g na nb (ls + k)) := funext fun t => by
      unfold shZ
      by_cases c : ls ≤ t
      · rw [if_pos c]
        show tgN f g na nb t = tgN f g na nb (ls + (t - ls))
        rw [show ls + (t - ls) = t by omega]
      · rw [if_neg c, lo t (by omega)]
    have s := smN_sh (s := ls) (N := 130) (X := fun k => tgN f g na nb (ls + k)) fun i h => hi _ (by omega)
    rw [← s, ← e]
  · by_cases c : ls ≤ t
    · rw [if_pos c, show ls + (t - ls) = t by omega]
    · rw [if_neg c, lo t (by omega)]
