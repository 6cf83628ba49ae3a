/-! sums: shift, reflection, exchange -/
theorem sm_add {f g : Int → Int} {lo : Int} : ∀ k, sm (fun m => f m + g m) lo k = sm f lo k + sm g lo k
  | 0 => rfl
  | k + 1 => by
    show sm (fun m => f m + g m) lo k + (f (lo + k) + g (lo + k)) = (sm f lo k + f (lo + k)) + (sm g lo k + g (lo + k))
    rw [sm_add k]
    omega
theorem sm_cmul {f : Int → Int} {c lo : Int} : ∀ k, sm (fun m => c * f m) lo k = c * sm f lo k
  | 0 => (Int.mul_zero c).symm
  | k + 1 => by
    show sm (fun m => c * f m) lo k + c * f (lo + k) = c * (sm f lo k + f (lo + k))
    rw [sm_cmul k, Int.mul_add]
theorem sm_ex {F : Int → Int → Int} {lo lo2 : Int} {n : Nat} : ∀ k, sm (fun m => sm (fun i => F i m) lo2 n) lo k = sm (fun i => sm (fun m => F i m) lo k) lo2 n
  | 0 => (sm_zero n fun _ _ => rfl).symm
  | k + 1 => by
    show sm (fun m => sm (fun i => F i m) lo2 n) lo k + sm (fun i => F i (lo + k)) lo2 n = _
    rw [sm_ex k, ← sm_add]
    rfl
theorem sm_split {f : Int → Int} {lo : Int} (a : Nat) : ∀ b, sm f lo (a + b) = sm f lo a + sm f (lo + a) b
  | 0 => by
    show sm f lo a = sm f lo a + 0
    omega
  | b + 1 => by
    show sm f lo (a + b) + f (lo + (a + b : Nat)) = sm f lo a + (sm f (lo + a) b + f (lo + a + b))
    rw [sm_split a b, show lo + ((a + b : Nat) : Int) = lo + a + b by omega]
    omega
theorem sm_shift {f : Int → Int} {c lo : Int} : ∀ k, sm (fun m => f (m + c)) lo k = sm f (lo + c) k
  | 0 => rfl
  | k + 1 => by
    show sm (fun m => f (m + c)) lo k + f (lo + k + c) = sm f (lo + c) k + f (lo + c + k)
    rw [sm_shift k, show lo + k + c = lo + c + k by omega]
theorem sm_first {f : Int → Int} {lo : Int} (k : Nat) : sm f lo (k + 1) = f lo + sm f (lo + 1) k := by
  rw [Nat.add_comm, sm_split 1 k]
  show (0 + f (lo + (0 : Nat))) + sm f (lo + (1 : Nat)) k = _
  rw [show lo + ((0 : Nat) : Int) = lo by omega, show lo + ((1 : Nat) : Int) = lo + 1 by omega]
  omega
theorem sm_refl {f : Int → Int} {c : Int} : ∀ (k : Nat) (lo : Int), sm (fun m => f (c - m)) lo k = sm f (c - lo - k + 1) k
  | 0, _ => rfl
  | k + 1, lo => by
    rw [sm_first (f := f)]
    show sm (fun m => f (c - m)) lo k + f (c - (lo + k)) = _
    rw [sm_refl k lo, show c - lo - ((k + 1 : Nat) : Int) + 1 = c - (lo + k) by omega, show c - (lo + (k : Int)) + 1 = c - lo - k + 1 by omega]
    omega
/-- f is 0 beyond -b .. b -/
abbrev spt (f : Int → Int) (b : Int) : Prop := ∀ m, ¬ (-b ≤ m ∧ m ≤ b) → f m = 0
theorem sm_spt {f : Int → Int} {b lo : Int} {k : Nat} (hf : spt f b) (hb : 0 ≤ b) (h1 : lo ≤ -b) (h2 : b < lo + k) : sm f lo k = sm f (-b) (2 * b + 1).toNat := by
  have e : k = (-b - lo).toNat + ((2 * b + 1).toNat + (k - (-b - lo).toNat - (2 * b + 1).toNat)) := by omega
  rw [e, sm_split, sm_split, sm_zero (lo := lo) _ (fun j hj => hf _ (by omega)), show lo + (((-b - lo).toNat : Nat) : Int) = -b by omega, sm_zero (lo := -b + ((2 * b + 1).toNat : Nat)) _ (fun j hj => hf _ (by omega))]
  omega
/-- the sum of all -/
abbrev tS (f : Int → Int) : Int := pS f 1000
theorem tS_e (f : Int → Int) : tS f = sm f (-1000) 2000 := rfl
theorem tS_shift {f : Int → Int} {c : Int} (hf : spt f 400) (hc : -500 ≤ c ∧ c ≤ 500) : tS (fun m => f (m + c)) = tS f := by
  rw [tS_e, tS_e, sm_shift, sm_spt (b := 400) hf (by omega) (by omega) (by omega), sm_spt (b := 400) (lo := -1000) hf (by omega) (by omega) (by omega)]
theorem tS_refl {f : Int → Int} {c : Int} (hf : spt f 400) (hc : -500 ≤ c ∧ c ≤ 500) : tS (fun m => f (c - m)) = tS f := by
  rw [tS_e, tS_e, sm_refl, sm_spt (b := 400) hf (by omega) (by omega) (by omega), sm_spt (b := 400) (lo := -1000) hf (by omega) (by omega) (by omega)]
theorem tS_ex {F : Int → Int → Int} : tS (fun m => tS (fun i => F i m)) = tS (fun i => tS (fun m => F i m)) := sm_ex 2000
theorem tS_cmul {f : Int → Int} {c : Int} : tS (fun m => c * f m) = c * tS f := sm_cmul 2000
theorem tS_mulc {f : Int → Int} {c : Int} : tS (fun m => f m * c) = tS f * c := by
  rw [Int.mul_comm, ← tS_cmul]
  exact pS_congr fun m _ _ => Int.mul_comm _ _
theorem sm_nn {f : Int → Int} (hf : ∀ m, 0 ≤ f m) {lo : Int} : ∀ k, 0 ≤ sm f lo k
  | 0 => Int.le_refl 0
  | k + 1 => by
    have := sm_nn hf (lo := lo) k
    have := hf (lo + k)
    show 0 ≤ sm f lo k + f (lo + k)
    omega
theorem sm_ge {f : Int → Int} (hf : ∀ m, 0 ≤ f m) {lo : Int} : ∀ (k j : Nat), j < k → f (lo + j) ≤ sm f lo k
  | 0, j, h => absurd h (by omega)
  | k + 1, j, h => by
    have h1 := sm_nn hf (lo := lo) k
    have h2 := hf (lo + k)
    show f (lo + j) ≤ sm f lo k + f (lo + k)
    by_cases c : j = k
    · rw [c]
      omega
    · have := sm_ge hf k j (by omega) (lo := lo)
      omega
theorem tS_nn {f : Int → Int} (hf : ∀ m, 0 ≤ f m) : 0 ≤ tS f := sm_nn hf _
theorem tS_ge {f : Int → Int} (hf : ∀ m, 0 ≤ f m) {m : Int} (h1 : -1000 ≤ m) (h2 : m < 1000) : f m ≤ tS f := by
  have := sm_ge hf (lo := -1000) 2000 (m + 1000).toNat (by omega)
  rw [show -1000 + (((m + 1000).toNat : Nat) : Int) = m by omega] at this
  exact this
/-- a NAME's numbers: least, greatest, ALL, WAYS -/
def gV (v : RowVal) : Prop := (-200 ≤ v.1 ∧ v.1 ≤ v.2.1 ∧ v.2.1 ≤ 200) ∧ (∀ m, 0 ≤ v.2.2.2 m) ∧ (∀ m, ¬ (v.1 ≤ m ∧ m ≤ v.2.1) → v.2.2.2 m = 0) ∧ (0 < v.2.2.2 v.1 ∧ 0 < v.2.2.2 v.2.1) ∧ v.2.2.1 = tS v.2.2.2 ∧ 1 ≤ v.2.2.1 ∧ v.2.2.1 ≤ 1000000000
abbrev zV : RowVal := (0, 0, 0, fun _ => 0)
def rB (v : RowVal) : Prop := gV v ∨ v = zV
theorem gV.spt {v : RowVal} (h : gV v) : spt v.2.2.2 200 := fun m hm => h.2.2.1 m (by have := h.1; omega)
theorem spt.up {f : Int → Int} {a b : Int} (h : spt f a) (hab : a ≤ b) : spt f b := fun m hm => h m (by omega)
theorem gV.le {v : RowVal} (h : gV v) (m : Int) : v.2.2.2 m ≤ 1000000000 := by
  have h1 := h.1
  by_cases c : -1000 ≤ m ∧ m < 1000
  · have := tS_ge h.2.1 c.1 c.2
    have := h.2.2.2.2.1
    have := h.2.2.2.2.2.2
    omega
  · rw [h.2.2.1 m (by omega)]
    omega
theorem rB.b {v : RowVal} (h : rB v) : (0 ≤ v.2.2.1 ∧ v.2.2.1 ≤ 1000000000) ∧ (∀ m, i64 (v.2.2.2 m)) ∧ ∀ m, 0 ≤ v.2.2.2 m ∧ v.2.2.2 m ≤ 1000000000 := by
  rcases h with h | h
  · have h1 := h.2.2.2.2.2
    refine ⟨⟨by omega, by omega⟩, fun m => ?_, fun m => ⟨h.2.1 m, h.le m⟩⟩
    have a := h.2.1 m
    have b := h.le m
    constructor <;> omega
  · subst h
    exact ⟨⟨by show (0 : Int) ≤ 0; omega, by show (0 : Int) ≤ 1000000000; omega⟩, fun m => ⟨by show (-9223372036854775808 : Int) ≤ 0; omega, by show (0 : Int) ≤ 9223372036854775807; omega⟩, fun m => ⟨by show (0 : Int) ≤ 0; omega, by show (0 : Int) ≤ 1000000000; omega⟩⟩
/-- the number n -/
abbrev nuV (n : Int) : RowVal := (n, n, 1, fun m => if m = n then 1 else 0)
theorem tS_one {n : Int} (h : -1000 ≤ n ∧ n < 1000) : tS (fun m => if m = n then 1 else 0) = 1 := by
  have e : tS (fun m => if m = n then (1 : Int) else 0) = pS (fun m => if m = n then 1 else 0) (n + 1) := pS_top (by omega) (by omega) fun m h1 h2 => if_neg (by omega)
  rw [e, pS_s (by omega), if_pos rfl, pS_zero fun m h1 h2 => if_neg (by omega)]
  rfl
theorem gV_nu {n : Int} (h : -200 ≤ n ∧ n ≤ 200) : gV (nuV n) := by
  refine ⟨⟨h.1, Int.le_refl _, h.2⟩, fun m => ?_, fun m hm => if_neg (fun z => hm ?_), ⟨?_, ?_⟩, (tS_one ⟨by omega, by omega⟩).symm, Int.le_refl _, by show (1 : Int) ≤ 1000000000; omega⟩
  · show (0 : Int) ≤ if m = n then 1 else 0
    split <;> omega
  · show n ≤ m ∧ m ≤ n
    omega
  · show (0 : Int) < if n = n then 1 else 0
    rw [if_pos rfl]
    omega
  · show (0 : Int) < if n = n then 1 else 0
    rw [if_pos rfl]
    omega
/-- a and b thrown apart and added (mi 0), or b taken away -/
def adV (mi : Int32) (a b : RowVal) : RowVal := (if mi = 0 then a.1 + b.1 else a.1 - b.2.1, if mi = 0 then a.2.1 + b.2.1 else a.2.1 - b.1, a.2.2.1 * b.2.2.1, cvW mi a.2.2.2 b.2.2.2)
abbrev okS (mi : Int32) (a b : RowVal) : Prop := -200 ≤ (adV mi a b).1 ∧ (adV mi a b).2.1 ≤ 200 ∧ a.2.2.1 * b.2.2.1 ≤ 1000000000
theorem cv_nn {mi : Int32} {Wa Wb : Int → Int} (ha : ∀ m, 0 ≤ Wa m) (hb : ∀ m, 0 ≤ Wb m) (m : Int) : 0 ≤ cvW mi Wa Wb m := tS_nn fun i => Int.mul_nonneg (ha i) (hb _)
theorem cv_tot {mi : Int32} {Wa Wb : Int → Int} (ha : spt Wa 200) (hb : spt Wb 200) : tS (cvW mi Wa Wb) = tS Wa * tS Wb := by
  show tS (fun m => tS (fun i => Wa i * Wb (sg mi i m))) = _
  rw [tS_ex, ← tS_mulc]
  refine pS_congr fun i h1 h2 => ?_
  show tS (fun m => Wa i * Wb (sg mi i m)) = _
  rw [tS_cmul]
  by_cases c : -200 ≤ i ∧ i ≤ 200
  · refine congrArg (fun z => Wa i * z) ?_
    unfold sg
    by_cases z : mi = 0
    · simp only [z, if_true]
      exact tS_shift (c := -i) (hb.up (by omega)) (by omega)
    · simp only [z, if_false]
      exact tS_refl (hb.up (by omega)) (by omega)
  · rw [ha i c, Int.zero_mul, Int.zero_mul]
theorem gV_ad {mi : Int32} {a b : RowVal} (ha : gV a) (hb : gV b) (hok : okS mi a b) : gV (adV mi a b) := by
  obtain ⟨al, ah, at0, aW⟩ := a
  obtain ⟨bl, bh, bt0, bW⟩ := b
  have sa := ha.spt
  have sb := hb.spt
  obtain ⟨a1, a2, a3, a4, a5, a6, a7⟩ := ha
  obtain ⟨b1, b2, b3, b4, b5, b6, b7⟩ := hb
  dsimp only at a1 a2 a3 a4 a5 a6 a7 b1 b2 b3 b4 b5 b6 b7 sa sb
  obtain ⟨k1, k2, k3⟩ := hok
  simp only [adV] at k1 k2 k3
  have lo : ∀ i j m, sg mi i m = j → m = if mi = 0 then i + j else i - j := fun i j m h => by
    unfold sg at h
    split at h <;> rename_i c
    · rw [if_pos c]
      omega
    · rw [if_neg c]
      omega
  have term : ∀ i m, al ≤ i ∧ i ≤ ah → aW i * bW (sg mi i m) ≤ cvW mi aW bW m := fun i m hi => tS_ge (f := fun i => aW i * bW (sg mi i m)) (fun i => Int.mul_nonneg (a2 i) (b2 _)) (by omega) (by omega)
  refine ⟨⟨k1, ?_, k2⟩, cv_nn a2 b2, fun m hm => ?_, ⟨?_, ?_⟩, ?_, ?_, k3⟩
  · show (if mi = 0 then al + bl else al - bh) ≤ (if mi = 0 then ah + bh else ah - bl)
    split <;> omega
  · refine pS_zero fun i h1 h2 => ?_
    show aW i * bW (sg mi i m) = 0
    by_cases c : al ≤ i ∧ i ≤ ah
    · rw [b3 (sg mi i m) (fun z => hm ?_), Int.mul_zero]
      have := lo i _ m rfl
      show (if mi = 0 then al + bl else al - bh) ≤ m ∧ m ≤ (if mi = 0 then ah + bh else ah - bl)
      split at this <;> rename_i c0
      · rw [if_pos c0, if_pos c0]
        omega
      · rw [if_neg c0, if_neg c0]
        omega
    · rw [a3 i c, Int.zero_mul]
  · show 0 < cvW mi aW bW (if mi = 0 then al + bl else al - bh)
    refine Int.lt_of_lt_of_le ?_ (term al _ ⟨by omega, by omega⟩)
    refine Int.mul_pos a4.1 ?_
    unfold sg
    by_cases c : mi = 0
    · rw [if_pos c, if_pos c, show al + bl - al = bl by omega]
      exact b4.1
    · rw [if_neg c, if_neg c, show al - (al - bh) = bh by omega]
      exact b4.2
  · show 0 < cvW mi aW bW (if mi = 0 then ah + bh else ah - bl)
    refine Int.lt_of_lt_of_le ?_ (term ah _ ⟨by omega, by omega⟩)
    refine Int.mul_pos a4.2 ?_
    unfold sg
    by_cases c : mi = 0
    · rw [if_pos c, if_pos c, show ah + bh - ah = bh by omega]
      exact b4.2
    · rw [if_neg c, if_neg c, show ah - (ah - bl) = bl by omega]
      exact b4.1
  · show at0 * bt0 = tS (cvW mi aW bW)
    rw [cv_tot sa sb, a5, b5]
  · show 1 ≤ at0 * bt0
    have : 0 < at0 * bt0 := Int.mul_pos (by omega) (by omega)
    omega
