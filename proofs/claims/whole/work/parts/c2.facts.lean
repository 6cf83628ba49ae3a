/-! what the two sides' NAMES give, and the net as bits -/
theorem tS_pls (f g : Int → Int) : tS (fun x => f x + g x) = tS f + tS g := sm_add 2000
theorem tS_fc {f : Nat → Int} : ∀ c, (∀ i, i < c → 0 ≤ f i ∧ f i ≤ 60) → tS (fcN f c) = c
  | 0, _ => by
    have e : fcN f 0 = fun x => (0 : Int) * (fun _ => (0 : Int)) x := rfl
    rw [e, tS_cmul, Int.zero_mul]
    rfl
  | c + 1, h => by
    have e : fcN f (c + 1) = fun x => fcN f c x + (if x = f c then 1 else 0) := rfl
    have b := h c (by omega)
    rw [e, tS_pls, tS_fc c fun i hi => h i (by omega), tS_one (by omega)]
    omega
theorem fc_pos {f : Nat → Int} {x : Int} : ∀ c, 0 < fcN f c x → ∃ i, i < c ∧ x = f i
  | 0, h => absurd h (Int.lt_irrefl 0)
  | c + 1, h => by
    by_cases z : x = f c
    · exact ⟨c, by omega, z⟩
    · have e : fcN f (c + 1) x = fcN f c x + (if x = f c then 1 else 0) := rfl
      rw [e, if_neg z] at h
      obtain ⟨i, hi, hx⟩ := fc_pos (f := f) (x := x) c (by omega)
      exact ⟨i, by omega, hx⟩
theorem die_v {v : RowVal} {f : Nat → Int} {c : Nat} (g : gV v) (hf : ∀ i, i < c → 0 ≤ f i ∧ f i ≤ 60) (hw : ∀ x, v.2.2.2 x = fcN f c x) : 0 ≤ v.1 ∧ v.2.1 ≤ 60 ∧ v.2.2.1 = (c : Int) := by
  obtain ⟨-, -, -, ⟨p1, p2⟩, e, -⟩ := g
  have ew : v.2.2.2 = fcN f c := funext hw
  rw [hw] at p1 p2
  obtain ⟨i, hi, xi⟩ := fc_pos c p1
  obtain ⟨j, hj, xj⟩ := fc_pos c p2
  have bi := hf i hi
  have bj := hf j hj
  rw [e, ew, tS_fc c hf]
  omega
section NMS
variable {h : Hp} {m nm : Nat} {F : Nat → Int} {V : Nat → RowVal} {fl : Nat → Nat → Int}
theorem nm_g (c : mnS h m nm F V) : ∀ k : Nat, (k : Int) < nm → gV (V k) := fun k hk => (c.2.2 k (by omega)).2.2
theorem nm_F (c : faS h m 0 nm F V fl) : ∀ i : Nat, (i : Int) < nm → 0 ≤ F i ∧ F i ≤ 12 := fun i hi => (c i (by omega)).2.1
theorem nm_V (a : mnS h m nm F V) (c : faS h m 0 nm F V fl) : ∀ k : Nat, (k : Int) < nm → 0 < F k → 0 ≤ (V k).1 ∧ (V k).2.1 ≤ 60 ∧ (V k).2.2.1 = F k := fun k hk hF => by
  have d := (c k (by omega)).2.2 hF
  have e := die_v (nm_g a k hk) (fun i hi => (d.1 i hi).2) d.2
  omega
theorem nm_L (a : mnS h m nm F V) : ∀ i j, i < nm → j < nm → i64 (ldV (V i).2.2.2 (V j).2.2.2) := fun i j hi hj => by
  have gi := (a.2.2 i hi).2.2.w8
  have gj := (a.2.2 j hj).2.2.w8
  have b1 := ab_w gi gj
  have b2 := ab_w gj gi
  rw [ld_ab]
  constructor <;> omega
end NMS
theorem ntF_e (V : Nat → RowVal) (a b : Nat) : ntF V a b = if 0 < ldV (V a).2.2.2 (V b).2.2.2 then 1 else if ldV (V a).2.2.2 (V b).2.2.2 < 0 then -1 else 0 := by
  unfold ntF
  rw [ld_ab]
  generalize abV (V a).2.2.2 (V b).2.2.2 = p
  generalize abV (V b).2.2.2 (V a).2.2.2 = q
  by_cases c1 : q < p
  · rw [if_pos c1, if_pos (show 0 < p - q by omega)]
  · rw [if_neg c1, if_neg (show ¬ 0 < p - q by omega)]
    by_cases c2 : p < q
    · rw [if_pos c2, if_pos (show p - q < 0 by omega)]
    · rw [if_neg c2, if_neg (show ¬ p - q < 0 by omega)]
theorem ld_anti (V : Nat → RowVal) (a b : Nat) : ldV (V b).2.2.2 (V a).2.2.2 = - ldV (V a).2.2.2 (V b).2.2.2 := by
  rw [ld_ab, ld_ab]
  omega
/-- a bit of the net: who beats whom -/
theorem ld_bit {V : Nat → RowVal} {nm : Nat} {bt : Nat → Nat} (hb : nm ≤ 12) (l : ldP V nm bt) {i : Nat} (hi : i < nm) (j : Nat) : (bt i).testBit j = true ↔ j < nm ∧ i ≠ j ∧ 0 < ldV (V i).2.2.2 (V j).2.2.2 := by
  rw [l.2 i (by omega) j, decide_eq_true_iff]
  have a := ld_anti V i j
  constructor
  · rintro ⟨-, h2, -, h4⟩
    refine ⟨h2, ?_⟩
    rcases h4 with ⟨h5, h6⟩ | ⟨h5, h6⟩ <;> dsimp only at h6
    · exact ⟨by omega, h6⟩
    · exact ⟨by omega, by omega⟩
  · rintro ⟨h1, h2, h3⟩
    refine ⟨hi, h1, Or.inl (by omega), ?_⟩
    by_cases c : i < j
    · exact Or.inl ⟨c, h3⟩
    · exact Or.inr ⟨by omega, by show ldV (V j).2.2.2 (V i).2.2.2 < 0; omega⟩
theorem ld_bt {V : Nat → RowVal} {nm : Nat} {bt : Nat → Nat} (hb : nm ≤ 12) (l : ldP V nm bt) : btP bt nm := fun a ha => by
  refine ⟨Nat.lt_pow_two_of_testBit _ fun i hi => ?_, fun j hj => ?_⟩
  · cases c : (bt a).testBit i with
    | false => rfl
    | true => exact absurd ((ld_bit hb l ha i).mp c).1 (by omega)
  · obtain ⟨h1, h2, h3⟩ := (ld_bit hb l ha j).mp hj
    refine ⟨fun z => h2 z.symm, ?_⟩
    cases c : (bt j).testBit a with
    | false => rfl
    | true =>
      have := ((ld_bit hb l h1 a).mp c).2.2
      have := ld_anti V a j
      omega
theorem ld_nt {V : Nat → RowVal} {nm : Nat} {bt : Nat → Nat} (hb : nm ≤ 12) (l : ldP V nm bt) {a b : Nat} (ha : a < nm) (h2 : b < nm) : ntF V a b = nsg bt a b := by
  rw [ntF_e]
  unfold nsg
  have x := ld_bit hb l ha b
  have y := ld_bit hb l h2 a
  have e := ld_anti V a b
  by_cases z : a = b
  · subst z
    rw [if_neg (by omega), if_neg (by omega), if_neg fun w => (x.mp w).2.1 rfl, if_neg fun w => (x.mp w).2.1 rfl]
  · by_cases c1 : 0 < ldV (V a).2.2.2 (V b).2.2.2
    · rw [if_pos c1, if_pos (x.mpr ⟨h2, z, c1⟩)]
    · rw [if_neg c1, if_neg fun w => c1 (x.mp w).2.2]
      by_cases c2 : ldV (V a).2.2.2 (V b).2.2.2 < 0
      · rw [if_pos c2, if_pos (y.mpr ⟨ha, fun w => z w.symm, by omega⟩)]
      · rw [if_neg c2, if_neg fun w => c2 (by have := (y.mp w).2.2; omega)]
theorem net_mt {h : Hp} {m nm : Nat} {V : Nat → RowVal} {bt : Nat → Nat} (hb : nm ≤ 12) (l : ldP V nm bt) (n : netS h m nm V) : mtN h m nm bt := fun a b ha h2 => by
  rw [n a b ha h2, ld_nt hb l ha h2]
