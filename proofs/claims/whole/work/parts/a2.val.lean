/-! what the Model's both makes, and the class's values -/
theorem sm_pt {f : Int → Int} {lo x : Int} {k : Nat} (h1 : lo ≤ x) (h2 : x < lo + k) (hz : ∀ q, q ≠ x → f q = 0) : sm f lo k = f x := by
  have e : k = (x - lo).toNat + (1 + (k - (x - lo).toNat - 1)) := by omega
  rw [e, sm_split, sm_split, sm_zero (lo := lo) _ (fun j hj => hz _ (by omega)), sm_zero (k - (x - lo).toNat - 1) (fun j hj => hz _ (by omega))]
  show 0 + ((0 + f (lo + (((x - lo).toNat : Nat) : Int) + ((0 : Nat) : Int))) + 0) = f x
  rw [show lo + (((x - lo).toNat : Nat) : Int) + ((0 : Nat) : Int) = x by omega]
  omega
theorem tS_401 {f : Int → Int} (hf : spt f 200) : tS f = sm f (-200) 401 := sm_spt hf (by omega) (by omega) (by omega)
theorem pS_200 {f : Int → Int} (hf : spt f 200) {n : Int} (h : -200 ≤ n) : pS f n = sm f (-200) (n + 200).toNat := by
  unfold pS
  rw [show (n + 1000).toNat = 800 + (n + 200).toNat by omega, sm_split, sm_zero (lo := -1000) 800 (fun j hj => hf _ (by omega))]
  show 0 + sm f (-1000 + ((800 : Nat) : Int)) _ = _
  rw [show (-1000 : Int) + ((800 : Nat) : Int) = -200 by omega]
  omega
theorem sm_lt {f : Int → Int} {x : Int} (h : -200 ≤ x ∧ x ≤ 201) : sm (fun q => if q < x then f q else 0) (-200) 401 = sm f (-200) (x + 200).toNat := by
  have e : 401 = (x + 200).toNat + (401 - (x + 200).toNat) := by omega
  rw [show sm (fun q => if q < x then f q else 0) (-200) 401 = sm (fun q => if q < x then f q else 0) (-200) ((x + 200).toNat + (401 - (x + 200).toNat)) from congrArg _ e, sm_split, sm_zero (401 - (x + 200).toNat) (fun j hj => if_neg (by omega)), sm_congr (x + 200).toNat (fun j hj => if_pos (by omega))]
  omega
theorem sm_ge' {f : Int → Int} {x : Int} (h : -200 ≤ x ∧ x ≤ 201) : sm (fun q => if x ≤ q then f q else 0) (-200) 401 = sm f (-200) 401 - sm f (-200) (x + 200).toNat := by
  have a := sm_add (f := fun q => if x ≤ q then f q else 0) (g := fun q => if q < x then f q else 0) (lo := -200) 401
  rw [sm_lt h, sm_congr (g := f) 401 (fun j hj => by
    by_cases c : -200 + (j : Int) < x
    · rw [if_pos c, if_neg (by omega), Int.zero_add]
    · rw [if_neg c, if_pos (by omega), Int.add_zero])] at a
  omega
theorem spt_mul {f : Int → Int} {g : Int → Int} (hf : spt f 200) : spt (fun p => f p * g p) 200 := fun m hm => by
  show f m * g m = 0
  rw [hf m hm, Int.zero_mul]
theorem bdV_0 (p q : Int) : bdV 0 p q = p + q := by
  unfold bdV
  rw [if_neg (by decide), if_neg (by decide), if_neg (by decide)]
theorem bdV_2 (p q : Int) : bdV 2 p q = if q < p then p else q := by
  unfold bdV
  rw [if_pos rfl]
theorem bdV_3 (p q : Int) : bdV 3 p q = if p < q then p else q := by
  unfold bdV
  rw [if_neg (by decide), if_pos rfl]
theorem bdV_4 (p q : Int) : bdV 4 p q = if q < p then 1 else 0 := by
  unfold bdV
  rw [if_neg (by decide), if_neg (by decide), if_pos rfl]
theorem po_0 {Wa Wb : Int → Int} (ha : spt Wa 200) (hb : spt Wb 200) (v : Int) : poW 0 Wa Wb 401 v = cvW 0 Wa Wb v := by
  have inn : ∀ p, poR1 0 Wa Wb p v 401 = Wa p * Wb (v - p) := fun p => by
    unfold poR1
    by_cases c : -200 ≤ v - p ∧ v - p ≤ 200
    · rw [sm_pt (x := v - p) (by omega) (by omega) (fun q hq => if_neg (by rw [bdV_0]; omega)), if_pos (by rw [bdV_0]; omega)]
    · rw [hb _ c, Int.mul_zero]
      exact sm_zero _ fun j hj => if_neg (by rw [bdV_0]; omega)
  have e : poW 0 Wa Wb 401 v = sm (fun p => Wa p * Wb (v - p)) (-200) 401 := sm_congr 401 fun j hj => inn _
  rw [e, ← tS_401 (spt_mul ha)]
  unfold cvW
  exact pS_congr fun m _ _ => by
    show _ = Wa m * Wb (sg 0 m v)
    rfl
theorem po_2 {Wa Wb : Int → Int} (ha : spt Wa 200) (hb : spt Wb 200) {v : Int} (hv : -200 ≤ v ∧ v ≤ 200) : poW 2 Wa Wb 401 v = mxW Wa Wb v := by
  have inn : ∀ p, poR1 2 Wa Wb p v 401 = (if p < v then Wa p * Wb v else 0) + (if p = v then Wa v * pS Wb (v + 1) else 0) := fun p => by
    unfold poR1
    by_cases c1 : p < v
    · rw [if_pos c1, if_neg (by omega), Int.add_zero, sm_pt (x := v) (by omega) (by omega) (fun q hq => if_neg (by rw [bdV_2]; split <;> omega)), if_pos (by rw [bdV_2]; split <;> omega)]
    · by_cases c2 : p = v
      · rw [if_neg c1, if_pos c2, Int.zero_add, c2, pS_200 hb (by omega), ← sm_cmul, ← sm_lt (by omega)]
        exact sm_congr 401 fun j hj => by
          by_cases c3 : -200 + (j : Int) < v + 1
          · rw [if_pos c3, if_pos (by rw [bdV_2]; split <;> omega)]
          · rw [if_neg c3, if_neg (by rw [bdV_2]; split <;> omega)]
      · rw [if_neg c1, if_neg c2]
        exact sm_zero _ fun j hj => if_neg (by rw [bdV_2]; split <;> omega)
  have e : poW 2 Wa Wb 401 v = sm (fun p => (if p < v then Wa p * Wb v else 0) + (if p = v then Wa v * pS Wb (v + 1) else 0)) (-200) 401 := sm_congr 401 fun j hj => inn _
  rw [e, sm_add, sm_lt (f := fun p => Wa p * Wb v) (by omega), sm_pt (x := v) (by omega) (by omega) (fun q hq => if_neg hq), if_pos rfl, mx_e ha hb, pS_s' hb]
  rw [show (fun p => Wa p * Wb v) = fun p => Wb v * Wa p from funext fun p => Int.mul_comm _ _, sm_cmul, ← pS_200 ha (by omega), Int.mul_comm (Wb v)]
  omega
theorem po_3 {Wa Wb : Int → Int} {ta tb : Int} (ha : spt Wa 200) (hb : spt Wb 200) (hta : ta = tS Wa) (htb : tb = tS Wb) {v : Int} (hv : -200 ≤ v ∧ v ≤ 200) : poW 3 Wa Wb 401 v = mnW ta tb Wa Wb v := by
  have inn : ∀ p, poR1 3 Wa Wb p v 401 = (if v + 1 ≤ p then Wa p * Wb v else 0) + (if p = v then Wa v * (tb - pS Wb v) else 0) := fun p => by
    unfold poR1
    by_cases c1 : v + 1 ≤ p
    · rw [if_pos c1, if_neg (by omega), Int.add_zero, sm_pt (x := v) (by omega) (by omega) (fun q hq => if_neg (by rw [bdV_3]; split <;> omega)), if_pos (by rw [bdV_3]; split <;> omega)]
    · by_cases c2 : p = v
      · rw [if_neg c1, if_pos c2, Int.zero_add, c2, htb, tS_401 hb, pS_200 hb (by omega), ← sm_ge' (by omega), ← sm_cmul]
        exact sm_congr 401 fun j hj => by
          by_cases c3 : v ≤ -200 + (j : Int)
          · rw [if_pos c3, if_pos (by rw [bdV_3]; split <;> omega)]
          · rw [if_neg c3, if_neg (by rw [bdV_3]; split <;> omega), Int.mul_zero]
      · rw [if_neg c1, if_neg c2]
        exact sm_zero _ fun j hj => if_neg (by rw [bdV_3]; split <;> omega)
  have e : poW 3 Wa Wb 401 v = sm (fun p => (if v + 1 ≤ p then Wa p * Wb v else 0) + (if p = v then Wa v * (tb - pS Wb v) else 0)) (-200) 401 := sm_congr 401 fun j hj => inn _
  rw [e, sm_add, sm_ge' (f := fun p => Wa p * Wb v) (by omega), sm_pt (x := v) (by omega) (by omega) (fun q hq => if_neg hq), if_pos rfl, mn_e ha hb]
  rw [show (fun p => Wa p * Wb v) = fun p => Wb v * Wa p from funext fun p => Int.mul_comm _ _, sm_cmul, sm_cmul, ← pS_200 ha (n := v + 1) (by omega), ← tS_401 ha, ← hta, ← Int.mul_sub, Int.mul_comm (Wb v), pS_s' hb, show tb - (pS Wb v + Wb v) + Wb v = tb - pS Wb v by omega]
  omega
theorem po_4 {Wa Wb : Int → Int} {tb : Int} (ha : spt Wa 200) (hb : spt Wb 200) (htb : tb = tS Wb) (v : Int) : poW 4 Wa Wb 401 v = if v = 1 then abV Wa Wb else if v = 0 then tS Wa * tb - abV Wa Wb else 0 := by
  have inn : ∀ p, -200 ≤ p → p ≤ 200 → poR1 4 Wa Wb p v 401 = (if v = 1 then Wa p * pS Wb p else if v = 0 then Wa p * tb - Wa p * pS Wb p else 0) := fun p p1 p2 => by
    unfold poR1
    by_cases c1 : v = 1
    · rw [if_pos c1, pS_200 hb (by omega), ← sm_cmul, ← sm_lt (by omega)]
      exact sm_congr 401 fun j hj => by
        by_cases c3 : -200 + (j : Int) < p
        · rw [if_pos c3, if_pos (by rw [bdV_4, if_pos c3]; omega)]
        · rw [if_neg c3, if_neg (by rw [bdV_4, if_neg c3]; omega)]
    · by_cases c2 : v = 0
      · rw [if_neg c1, if_pos c2, ← Int.mul_sub, htb, tS_401 hb, pS_200 hb (by omega), ← sm_ge' (by omega), ← sm_cmul]
        exact sm_congr 401 fun j hj => by
          by_cases c3 : p ≤ -200 + (j : Int)
          · rw [if_pos c3, if_pos (by rw [bdV_4, if_neg (by omega)]; omega)]
          · rw [if_neg c3, if_neg (by rw [bdV_4, if_pos (by omega)]; omega), Int.mul_zero]
      · rw [if_neg c1, if_neg c2]
        exact sm_zero _ fun j hj => if_neg (by rw [bdV_4]; split <;> omega)
  have e : poW 4 Wa Wb 401 v = sm (fun p => if v = 1 then Wa p * pS Wb p else if v = 0 then Wa p * tb - Wa p * pS Wb p else 0) (-200) 401 := sm_congr 401 fun j hj => inn _ (by omega) (by omega)
  rw [e]
  have ea : sm (fun p => Wa p * pS Wb p) (-200) 401 = abV Wa Wb := (tS_401 (spt_mul ha)).symm
  by_cases c1 : v = 1
  · rw [if_pos c1, ← ea]
    exact sm_congr 401 fun j hj => if_pos c1
  · by_cases c2 : v = 0
    · rw [if_neg c1, if_pos c2, ← ea, tS_401 ha]
      have h := sm_add (f := fun p => Wa p * tb - Wa p * pS Wb p) (g := fun p => Wa p * pS Wb p) (lo := -200) 401
      have h2 : sm (fun m => (Wa m * tb - Wa m * pS Wb m) + Wa m * pS Wb m) (-200) 401 = sm Wa (-200) 401 * tb := by
        rw [Int.mul_comm, ← sm_cmul]
        exact sm_congr 401 fun j hj => by
          rw [Int.mul_comm tb]
          omega
      rw [h2] at h
      rw [h]
      have h3 : sm (fun p => if v = 1 then Wa p * pS Wb p else if v = 0 then Wa p * tb - Wa p * pS Wb p else 0) (-200) 401 = sm (fun p => Wa p * tb - Wa p * pS Wb p) (-200) 401 := sm_congr 401 fun j hj => by
        rw [if_neg c1, if_pos c2]
      rw [h3]
      omega
    · rw [if_neg c1, if_neg c2]
      exact sm_zero _ fun j hj => by
        rw [if_neg c1, if_neg c2]
/-- a value turned over -/
def ngV (v : RowVal) : RowVal := (-v.2.1, -v.1, v.2.2.1, fun n => v.2.2.2 (-n))
theorem ad_ng (a b : RowVal) : adV 1 a b = adV 0 a (ngV b) := by
  have e1 : ¬ (1 : Int32) = 0 := by decide
  unfold adV ngV
  rw [if_neg e1, if_neg e1, if_pos rfl, if_pos rfl]
  refine Prod.ext ?_ (Prod.ext ?_ (Prod.ext rfl ?_))
  · show a.1 - b.2.1 = a.1 + -b.2.1
    omega
  · show a.2.1 - b.1 = a.2.1 + -b.1
    omega
  · funext m
    unfold cvW
    exact pS_congr fun i _ _ => by
      show a.2.2.2 i * b.2.2.2 (i - m) = a.2.2.2 i * b.2.2.2 (-(m - i))
      rw [show -(m - i) = i - m by omega]
theorem ng_ad {v : RowVal} (hv : spt v.2.2.2 200) : adV 1 (nuV 0) v = ngV v := by
  have e1 : ¬ (1 : Int32) = 0 := by decide
  unfold adV ngV
  rw [if_neg e1, if_neg e1]
  refine Prod.ext ?_ (Prod.ext ?_ (Prod.ext ?_ ?_))
  · show 0 - v.2.1 = -v.2.1
    omega
  · show 0 - v.1 = -v.1
    omega
  · show 1 * v.2.2.1 = v.2.2.1
    omega
  · funext m
    show tS (fun i => (if i = 0 then 1 else 0) * v.2.2.2 (i - m)) = v.2.2.2 (-m)
    rw [tS_e, sm_pt (x := 0) (by omega) (by omega) (fun q hq => by
      show (if q = 0 then 1 else 0) * _ = (0 : Int)
      rw [if_neg hq, Int.zero_mul]), if_pos rfl, Int.one_mul, show (0 : Int) - m = -m by omega]
theorem gV_ng {v : RowVal} (hv : gV v) : gV (ngV v) := by
  rw [← ng_ad hv.spt]
  refine gV_ad (gV_nu (by omega)) hv ?_
  exact okS_neg hv
/-- the Model's sum is good when the class's is -/
theorem pk_0 {a b : RowVal} (ha : gV a) (hb : gV b) : (a.2.2.1 * b.2.2.1 ≤ 1000000000 ∧ poK 0 a.2.2.2 b.2.2.2) ↔ okS 0 a b := by
  have e : (adV 0 a b).1 = a.1 + b.1 ∧ (adV 0 a b).2.1 = a.2.1 + b.2.1 := ⟨rfl, rfl⟩
  unfold okS
  rw [e.1, e.2]
  refine ⟨fun ⟨h1, h2⟩ => ⟨?_, ?_, h1⟩, fun ⟨h1, h2, h3⟩ => ⟨h3, fun p q hp hq => ?_⟩⟩
  · have := h2 a.1 b.1 (by have := ha.2.2.2.1.1; omega) (by have := hb.2.2.2.1.1; omega)
    rw [bdV_0] at this
    exact this.1
  · have := h2 a.2.1 b.2.1 (by have := ha.2.2.2.1.2; omega) (by have := hb.2.2.2.1.2; omega)
    rw [bdV_0] at this
    exact this.2
  · have p1 : a.1 ≤ p ∧ p ≤ a.2.1 := Classical.byContradiction fun z => hp (ha.2.2.1 p z)
    have q1 : b.1 ≤ q ∧ q ≤ b.2.1 := Classical.byContradiction fun z => hq (hb.2.2.1 q z)
    rw [bdV_0]
    omega
theorem pk_c {how : Int} (hh : how = 2 ∨ how = 3 ∨ how = 4) {a b : RowVal} (ha : gV a) (hb : gV b) : (a.2.2.1 * b.2.2.1 ≤ 1000000000 ∧ poK how a.2.2.2 b.2.2.2) ↔ okC a b := by
  refine ⟨fun h => h.1, fun h => ⟨h, fun p q hp hq => ?_⟩⟩
  have p1 : a.1 ≤ p ∧ p ≤ a.2.1 := Classical.byContradiction fun z => hp (ha.2.2.1 p z)
  have q1 : b.1 ≤ q ∧ q ≤ b.2.1 := Classical.byContradiction fun z => hq (hb.2.2.1 q z)
  have a1 := ha.1
  have b1 := hb.1
  rcases hh with h | h | h
  · rw [h, bdV_2]
    split <;> omega
  · rw [h, bdV_3]
    split <;> omega
  · rw [h, bdV_4]
    split <;> omega
/-- the word that binds, as a number -/
abbrev hwF (w : Int) : Int := if w = 164222 then 2 else if w = 9176 then 3 else 4
theorem po_c {w : Int} (hw : prW w) {a b : RowVal} (ha : gV a) (hb : gV b) {v : Int} (hv : -200 ≤ v ∧ v ≤ 200) : poW (hwF w) a.2.2.2 b.2.2.2 401 v = (cmV w a b).2.2.2 v := by
  have sa := ha.spt
  have sb := hb.spt
  have n1 : ¬ (1 : Int32) = 0 := by decide
  unfold cmV
  rcases hw with h | h | h
  · subst h
    rw [show hwF 164222 = 2 from if_pos rfl, po_2 sa sb hv, if_neg (by decide), if_pos rfl]
    exact (enV_mx ha hb n1 v).symm
  · subst h
    rw [show hwF 9176 = 3 from rfl, po_3 sa sb ha.2.2.2.2.1 hb.2.2.2.2.1 hv, if_neg (by decide), if_neg (by decide)]
    exact (enV_mn ha hb v).symm
  · subst h
    rw [show hwF 267305 = 4 from rfl, po_4 sa sb hb.2.2.2.2.1, if_pos rfl]
    show _ = if v = 1 then _ else if v = 0 then a.2.2.1 * b.2.2.1 - _ else 0
    rw [ha.2.2.2.2.1]
theorem cm_t {w : Int} (a b : RowVal) : (cmV w a b).2.2.1 = a.2.2.1 * b.2.2.1 := by
  unfold cmV
  split <;> rfl
