/-! ORDERS as digits and as codes; fairness alike -/
def ckA (n dg : Nat) : Bool := match odF n n 0 dg 0 with
  | some q => (oqF n n dg 0 == decide (isO n q)) && (!(decide (isO n q)) || (decide (q < 2 ^ (2 * n)) && allN (fun k => pthD n dg k == q / 2 ^ (2 * (n - 1 - k)) % 4) n))
  | none => !(oqF n n dg 0)
theorem ckA_2 : allN (fun a => allN (fun b => ckA 2 (100 * a + b)) 100) 100 = true := by decide +kernel
theorem ckA_3 : allN (fun a => allN (fun b => ckA 3 (100 * a + b)) 100) 100 = true := by decide +kernel
theorem ckA_4 : allN (fun a => allN (fun b => ckA 4 (100 * a + b)) 100) 100 = true := by decide +kernel
theorem ckA_n {n dg : Nat} (hn : 2 ≤ n ∧ n ≤ 4) (h : dg < 10000) : ckA n dg = true := by
  have e : dg = 100 * (dg / 100) + dg % 100 := by omega
  have hc : n = 2 ∨ n = 3 ∨ n = 4 := by omega
  rcases hc with z | z | z <;> subst z
  · have := allN_iff.mp (allN_iff.mp ckA_2 (dg / 100) (by omega)) (dg % 100) (by omega)
    rw [← e] at this
    exact this
  · have := allN_iff.mp (allN_iff.mp ckA_3 (dg / 100) (by omega)) (dg % 100) (by omega)
    rw [← e] at this
    exact this
  · have := allN_iff.mp (allN_iff.mp ckA_4 (dg / 100) (by omega)) (dg % 100) (by omega)
    rw [← e] at this
    exact this
theorem odF_lt {n : Nat} : ∀ (k i r q q' : Nat), odF n k i r q = some q' → r < 10 ^ k
  | 0, i, r, q, q', h => by
    change (if r = 0 then some q else none) = some q' at h
    by_cases c : r = 0
    · rw [c]; decide
    · rw [if_neg c] at h; cases h
  | k + 1, i, r, q, q', h => by
    change (if r % 10 < 1 ∨ n < r % 10 then none else odF n k (i + 1) (r / 10) (q ||| (r % 10 - 1) * 2 ^ (2 * i))) = some q' at h
    by_cases c : r % 10 < 1 ∨ n < r % 10
    · rw [if_pos c] at h; cases h
    · rw [if_neg c] at h
      have := odF_lt k _ _ _ _ h
      rw [Nat.pow_succ]
      omega
/-- an ORDER's digits, and its code -/
theorem od_oq {n dg : Nat} (hn : 2 ≤ n ∧ n ≤ 4) : (oqF n n dg 0 = true → ∃ q, odF n n 0 dg 0 = some q ∧ isO n q ∧ q < 2 ^ (2 * n) ∧ ∀ k, k < n → pthD n dg k = q / 2 ^ (2 * (n - 1 - k)) % 4) ∧ (∀ q, odF n n 0 dg 0 = some q → isO n q → oqF n n dg 0 = true) := by
  have p : 10 ^ n ≤ 10 ^ 4 := Nat.pow_le_pow_right (by omega) hn.2
  have e4 : 10 ^ 4 = 10000 := by decide
  have ck : dg < 10000 → ckA n dg = true := ckA_n hn
  unfold ckA at ck
  refine ⟨fun h => ?_, fun q h1 h2 => ?_⟩
  · have l := (oqF_dig n dg 0 h).1
    have ck := ck (by omega)
    cases e : odF n n 0 dg 0 with
    | none =>
      rw [e] at ck
      dsimp only at ck
      rw [h] at ck
      cases ck
    | some q =>
      rw [e] at ck
      dsimp only at ck
      rw [Bool.and_eq_true, h, beq_iff_eq] at ck
      have i := of_decide_eq_true ck.1.symm
      have c2 := ck.2
      rw [← ck.1] at c2
      change (decide (q < 2 ^ (2 * n)) && _) = true at c2
      rw [Bool.and_eq_true] at c2
      exact ⟨q, rfl, i, of_decide_eq_true c2.1, fun k hk => beq_iff_eq.mp (allN_iff.mp c2.2 k hk)⟩
  · have l := odF_lt n 0 dg 0 q h1
    have ck := ck (by omega)
    rw [h1] at ck
    dsimp only at ck
    rw [Bool.and_eq_true, beq_iff_eq, decide_eq_true h2] at ck
    exact ck.1
def dcF (n q : Nat) : Nat → Nat
  | 0 => 0
  | i + 1 => dcF n q i + (q / 2 ^ (2 * i) % 4 + 1) * 10 ^ i
def ckB (n q : Nat) : Bool := !(decide (isO n q) && decide (q < 2 ^ (2 * n))) || (decide (dcF n q n < 4322) && oqF n n (dcF n q n) 0 && allN (fun k => pthD n (dcF n q n) k == q / 2 ^ (2 * (n - 1 - k)) % 4) n)
theorem ckB_2 : allN (ckB 2) 256 = true := by decide +kernel
theorem ckB_3 : allN (ckB 3) 256 = true := by decide +kernel
theorem ckB_4 : allN (ckB 4) 256 = true := by decide +kernel
theorem oq_of {n q : Nat} (hn : 2 ≤ n ∧ n ≤ 4) (h1 : isO n q) (h2 : q < 2 ^ (2 * n)) : ∃ dg, dg < 4322 ∧ oqF n n dg 0 = true ∧ ∀ k, k < n → pthD n dg k = q / 2 ^ (2 * (n - 1 - k)) % 4 := by
  have b := (p4_b hn.2).1
  have ck : ckB n q = true := by
    have hc : n = 2 ∨ n = 3 ∨ n = 4 := by omega
    rcases hc with z | z | z <;> subst z
    · exact allN_iff.mp ckB_2 q (by omega)
    · exact allN_iff.mp ckB_3 q (by omega)
    · exact allN_iff.mp ckB_4 q (by omega)
  unfold ckB at ck
  rw [decide_eq_true h1, decide_eq_true h2] at ck
  change (decide (dcF n q n < 4322) && oqF n n (dcF n q n) 0 && _) = true at ck
  rw [Bool.and_eq_true, Bool.and_eq_true] at ck
  exact ⟨dcF n q n, of_decide_eq_true ck.1.1, ck.1.2, fun k hk => beq_iff_eq.mp (allN_iff.mp ck.2 k hk)⟩
theorem bl_0 (p w : Nat → Nat) : ∀ t, blW p w t 0 = bb w (p 0) o1 t
  | 0 => rfl
  | t + 1 => by
    show blW p w t 0 + (if w t = p 0 then (if 0 = 0 then 1 else blW p w t (0 - 1)) else 0) = bb w (p 0) o1 t + if w t = p 0 then 1 else 0
    rw [bl_0 p w t, if_pos (rfl : 0 = 0)]
theorem bl_k (p w : Nat → Nat) (k : Nat) : ∀ t, blW p w t (k + 1) = bb w (p (k + 1)) (fun i => blW p w i k) t
  | 0 => rfl
  | t + 1 => by
    show blW p w t (k + 1) + (if w t = p (k + 1) then (if k + 1 = 0 then 1 else blW p w t (k + 1 - 1)) else 0) = bb w (p (k + 1)) (fun i => blW p w i k) t + if w t = p (k + 1) then blW p w t k else 0
    rw [bl_k p w k t, if_neg (show ¬ k + 1 = 0 by omega)]
    rfl
theorem of_2 : ∀ q, q < 16 → isO 2 q → ofU q 2 = true := by decide +kernel
theorem of_3 : ∀ q, q < 64 → isO 3 q → ofU q 3 = true := by decide +kernel
theorem of_4 : ∀ q, q < 256 → isO 4 q → ofU q 4 = true := by decide +kernel
/-- rows in an ORDER: as the class counts, so the Model -/
theorem rw_bl {n q : Nat} (hn : 2 ≤ n ∧ n ≤ 4) (h1 : isO n q) (h2 : q < 2 ^ (2 * n)) {p : Nat → Nat} (hp : ∀ k, k < n → p k = q / 2 ^ (2 * (n - 1 - k)) % 4) (w : Nat → Nat) (L : Nat) : rwF n (wcR n (lstW w L)) q = blW p w L (n - 1) := by
  have hc : n = 2 ∨ n = 3 ∨ n = 4 := by omega
  rcases hc with z | z | z <;> subst z
  · have h2 : q < 16 := h2
    have p0 := hp 0 (by omega)
    have p1 := hp 1 (by omega)
    rw [rw2 w L q ⟨h2, of_2 q h2 h1⟩]
    show _ = blW p w L (0 + 1)
    rw [bl_k, show (fun i => blW p w i 0) = bb w (p 0) o1 from funext fun i => bl_0 p w i]
    show _ = bb w (p 1) _ L
    rw [p0, p1, show q / 2 ^ (2 * (2 - 1 - 1)) % 4 = q % 4 by show q / 1 % 4 = q % 4; rw [Nat.div_one], show q / 2 ^ (2 * (2 - 1 - 0)) % 4 = q / 4 by show q / 4 % 4 = q / 4; omega]
  · have h2 : q < 64 := h2
    have p0 := hp 0 (by omega)
    have p1 := hp 1 (by omega)
    have p2 := hp 2 (by omega)
    rw [rw3 w L q ⟨h2, of_3 q h2 h1⟩]
    show _ = blW p w L (0 + 1 + 1)
    rw [bl_k, show (fun i => blW p w i (0 + 1)) = bb w (p 1) (bb w (p 0) o1) from funext fun i => by rw [bl_k, show (fun i => blW p w i 0) = bb w (p 0) o1 from funext fun i => bl_0 p w i]]
    show _ = bb w (p 2) _ L
    rw [p0, p1, p2, show q / 2 ^ (2 * (3 - 1 - 2)) % 4 = q % 4 by show q / 1 % 4 = q % 4; rw [Nat.div_one], show q / 2 ^ (2 * (3 - 1 - 1)) % 4 = q / 4 % 4 from rfl, show q / 2 ^ (2 * (3 - 1 - 0)) % 4 = q / 4 / 4 by show q / 16 % 4 = q / 4 / 4; omega]
  · have h2 : q < 256 := h2
    have p0 := hp 0 (by omega)
    have p1 := hp 1 (by omega)
    have p2 := hp 2 (by omega)
    have p3 := hp 3 (by omega)
    rw [rw4 w L q ⟨h2, of_4 q h2 h1⟩]
    show _ = blW p w L (0 + 1 + 1 + 1)
    rw [bl_k, show (fun i => blW p w i (0 + 1 + 1)) = bb w (p 2) (bb w (p 1) (bb w (p 0) o1)) from funext fun i => by
      rw [bl_k, show (fun i => blW p w i (0 + 1)) = bb w (p 1) (bb w (p 0) o1) from funext fun i => by rw [bl_k, show (fun i => blW p w i 0) = bb w (p 0) o1 from funext fun i => bl_0 p w i]]]
    show _ = bb w (p 3) _ L
    rw [p0, p1, p2, p3, show q / 2 ^ (2 * (4 - 1 - 3)) % 4 = q % 4 by show q / 1 % 4 = q % 4; rw [Nat.div_one], show q / 2 ^ (2 * (4 - 1 - 2)) % 4 = q / 4 % 4 from rfl, show q / 2 ^ (2 * (4 - 1 - 1)) % 4 = q / 4 / 4 % 4 by show q / 16 % 4 = q / 4 / 4 % 4; omega, show q / 2 ^ (2 * (4 - 1 - 0)) % 4 = q / 4 / 4 / 4 by show q / 64 % 4 = q / 4 / 4 / 4; omega]
/-- rows in the ORDER that digits tell -/
theorem rio_eq {n : Nat} (hn : 2 ≤ n ∧ n ≤ 4) (w : Nat → Nat) (L dg : Nat) : rioF n (wcR n (lstW w L)) dg = if oqF n n dg 0 = true then (rwD w L n dg : Int) else -1 := by
  obtain ⟨h1, h2⟩ := od_oq (n := n) (dg := dg) hn
  unfold rioF
  by_cases c : oqF n n dg 0 = true
  · obtain ⟨q, e, i, b, p⟩ := h1 c
    rw [e, if_pos c]
    dsimp only
    rw [if_pos i, rw_bl hn i b p]
    rfl
  · rw [if_neg c]
    cases e : odF n n 0 dg 0 with
    | none => rfl
    | some q =>
      dsimp only
      rw [if_neg fun i => c (h2 q e i)]
theorem oe_eq {n : Nat} (hn : 2 ≤ n ∧ n ≤ 4) (w : Nat → Nat) (L : Nat) : oeM w L n ↔ oeP n (wcR n (lstW w L)) := by
  constructor
  · intro h a b ha hb oa ob
    obtain ⟨x, x1, x2, x3⟩ := oq_of hn oa ha
    obtain ⟨y, y1, y2, y3⟩ := oq_of hn ob hb
    rw [rw_bl hn oa ha x3, rw_bl hn ob hb y3]
    refine h x y x1 y1 ?_ ?_
    · unfold oqI
      rw [if_neg (by omega), Int.toNat_natCast]
      exact x2
    · unfold oqI
      rw [if_neg (by omega), Int.toNat_natCast]
      exact y2
  · intro h x y x1 y1 x2 y2
    unfold oqI at x2 y2
    rw [if_neg (by omega), Int.toNat_natCast] at x2 y2
    obtain ⟨a, -, oa, ha, pa⟩ := (od_oq hn).1 x2
    obtain ⟨b, -, ob, hb, pb⟩ := (od_oq hn).1 y2
    have := h a b ha hb oa ob
    rw [rw_bl hn oa ha pa, rw_bl hn ob hb pb] at this
    exact this
theorem fb_eq {n : Nat} (hn : 2 ≤ n ∧ n ≤ 4) (w : Nat → Nat) (L : Nat) {a b c : Bool} (ha : a = true ↔ faT n (plM w L n)) (hb : b = true ↔ faM n (plM w L n)) (hc : c = true ↔ oeM w L n) : fvN a b c = fbN n (wcR n (lstW w L)) := by
  obtain ⟨f1, f2⟩ := fa_eq hn w L
  have e1 : faAb n (plF n (wcR n (lstW w L))) = a := by
    rw [Bool.eq_iff_iff, faAb_iff, ← f1, ha]
  have e2 : faBb n (plF n (wcR n (lstW w L))) = b := by
    rw [Bool.eq_iff_iff, faBb_iff, ← f2, hb]
  have e3 : oeB n (wcR n (lstW w L)) = c := by
    rw [Bool.eq_iff_iff, oeB_iff, ← oe_eq hn, hc]
  unfold fbN
  rw [e1, e2, e3]
/-- fair as asked: as the class, so the Model -/
theorem fn_gd {n q : Nat} (hn : 2 ≤ n ∧ n ≤ 4) (hq : q < 8) (w : Nat → Nat) (L : Nat) : fnP n q (lstW w L) ↔ gdM n L q w := by
  obtain ⟨f1, f2⟩ := fa_eq hn w L
  have e := fb_eq hn w L (a := faAb n (plF n (wcR n (lstW w L)))) (b := faBb n (plF n (wcR n (lstW w L)))) (c := oeB n (wcR n (lstW w L))) (by rw [faAb_iff, f1]) (by rw [faBb_iff, f2]) (by rw [oeB_iff, oe_eq hn])
  show q = 0 ∨ fbN n (wcR n (lstW w L)) &&& q = q ↔ _
  rw [← e, fv_q _ _ _ q hq, faAb_iff, faBb_iff, oeB_iff, ← f1, ← f2, ← oe_eq hn]
  unfold gdM
  constructor
  · rintro (z | z)
    · rw [z]
      exact ⟨fun y => (by cases y), fun y => (by cases y), fun y => absurd y (by omega)⟩
    · exact z
  · exact Or.inr
