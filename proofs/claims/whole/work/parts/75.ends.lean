/-! the values of high, low, more -/
theorem pS_lo {f : Int → Int} {b n : Int} (hf : ∀ m, m < b → f m = 0) (hn : n ≤ b) : pS f n = 0 := pS_zero fun m _ h => hf m (by omega)
theorem pS_hi {f : Int → Int} {b n : Int} (hf : ∀ m, b < m → f m = 0) (hb : -1000 ≤ b + 1) (hn : b < n) : pS f n = pS f (b + 1) := pS_top (by omega) (by omega) fun m h1 _ => hf m (by omega)
theorem pS_nn {f : Int → Int} (hf : ∀ m, 0 ≤ f m) (n : Int) : 0 ≤ pS f n := sm_nn hf _
theorem pS_ge {f : Int → Int} (hf : ∀ m, 0 ≤ f m) {m n : Int} (h1 : -1000 ≤ m) (h2 : m < n) : f m ≤ pS f n := by
  have := sm_ge hf (lo := -1000) (n + 1000).toNat (m + 1000).toNat (by omega)
  rw [show -1000 + (((m + 1000).toNat : Nat) : Int) = m by omega] at this
  exact this
theorem gV.z {v : RowVal} (h : gV v) : (∀ m, m < v.1 → v.2.2.2 m = 0) ∧ ∀ m, v.2.1 < m → v.2.2.2 m = 0 := ⟨fun m hm => h.2.2.1 m (by omega), fun m hm => h.2.2.1 m (by omega)⟩
/-- all at most n -/
theorem gV.top {v : RowVal} (h : gV v) {n : Int} (hn : v.2.1 < n) : pS v.2.2.2 n = v.2.2.1 := by
  have h1 := h.1
  by_cases c : n ≤ 1000
  · rw [h.2.2.2.2.1, pS_hi h.z.2 (by omega) hn, ← pS_hi h.z.2 (by omega) (show v.2.1 < 1000 by omega)]
  · rw [h.2.2.2.2.1, pS_hi h.z.2 (by omega) hn, ← pS_hi h.z.2 (by omega) (show v.2.1 < 1000 by omega)]
theorem pS_lt {f : Int → Int} {n : Int} (h : n < -1000) : pS f n = 0 ∧ pS f (n + 1) = 0 := ⟨pS_zero fun m h1 h2 => by omega, pS_zero fun m h1 h2 => by omega⟩
/-- as pS_s, of W that is 0 below -200 -/
theorem pS_s' {f : Int → Int} (hf : spt f 200) (n : Int) : pS f (n + 1) = pS f n + f n := by
  by_cases c : -1000 ≤ n
  · exact pS_s c
  · rw [(pS_lt (f := f) (n := n) (by omega)).2, (pS_lt (f := f) (n := n) (by omega)).1, hf n (by omega)]
    rfl
def mxW (Wa Wb : Int → Int) (m : Int) : Int := pS Wa (m + 1) * pS Wb (m + 1) - pS Wa m * pS Wb m
def mnW (ta tb : Int) (Wa Wb : Int → Int) (m : Int) : Int := (ta - pS Wa m) * (tb - pS Wb m) - (ta - pS Wa (m + 1)) * (tb - pS Wb (m + 1))
theorem pS_mx {Wa Wb : Int → Int} : ∀ k : Nat, sm (mxW Wa Wb) (-1000) k = pS Wa (-1000 + k) * pS Wb (-1000 + k)
  | 0 => by
    have e : ∀ f : Int → Int, pS f (-1000 + ((0 : Nat) : Int)) = 0 := fun f => pS_zero fun m h1 h2 => by omega
    rw [e, e]
    rfl
  | k + 1 => by
    show sm (mxW Wa Wb) (-1000) k + mxW Wa Wb (-1000 + k) = _
    rw [pS_mx k]
    unfold mxW
    rw [show -1000 + ((k + 1 : Nat) : Int) = -1000 + k + 1 by omega]
    omega
theorem pS_mn {ta tb : Int} {Wa Wb : Int → Int} : ∀ k : Nat, sm (mnW ta tb Wa Wb) (-1000) k = ta * tb - (ta - pS Wa (-1000 + k)) * (tb - pS Wb (-1000 + k))
  | 0 => by
    have e : ∀ f : Int → Int, pS f (-1000 + ((0 : Nat) : Int)) = 0 := fun f => pS_zero fun m h1 h2 => by omega
    rw [e, e, Int.sub_zero, Int.sub_zero]
    show 0 = _
    omega
  | k + 1 => by
    show sm (mnW ta tb Wa Wb) (-1000) k + mnW ta tb Wa Wb (-1000 + k) = _
    rw [pS_mn k]
    unfold mnW
    rw [show -1000 + ((k + 1 : Nat) : Int) = -1000 + k + 1 by omega]
    omega
theorem mx_e {Wa Wb : Int → Int} (ha : spt Wa 200) (hb : spt Wb 200) (m : Int) : mxW Wa Wb m = Wa m * (pS Wb m + Wb m) + pS Wa m * Wb m := by
  unfold mxW
  rw [pS_s' ha, pS_s' hb, Int.add_mul, Int.mul_add, Int.mul_add]
  omega
theorem mn_e {ta tb : Int} {Wa Wb : Int → Int} (ha : spt Wa 200) (hb : spt Wb 200) (m : Int) : mnW ta tb Wa Wb m = Wa m * (tb - pS Wb (m + 1) + Wb m) + (ta - pS Wa (m + 1)) * Wb m := by
  have e1 : ta - pS Wa m = (ta - pS Wa (m + 1)) + Wa m := by rw [pS_s' ha]; omega
  have e2 : tb - pS Wb m = (tb - pS Wb (m + 1)) + Wb m := by rw [pS_s' hb]; omega
  unfold mnW
  rw [e1, e2, Int.add_mul, Int.mul_add, Int.mul_add]
  omega
def enX (mi : Int32) (a b : RowVal) : RowVal := (if mi = 0 then min a.1 b.1 else max a.1 b.1, if mi = 0 then min a.2.1 b.2.1 else max a.2.1 b.2.1, a.2.2.1 * b.2.2.1, enV mi (min a.1 b.1) (max a.2.1 b.2.1) a.2.2.2 b.2.2.2)
theorem enV_mx {mi : Int32} {a b : RowVal} (ha : gV a) (hb : gV b) (hm : ¬ mi = 0) (m : Int) : enV mi (min a.1 b.1) (max a.2.1 b.2.1) a.2.2.2 b.2.2.2 m = mxW a.2.2.2 b.2.2.2 m := by
  have a1 := ha.1
  have b1 := hb.1
  unfold enV
  by_cases c : min a.1 b.1 ≤ m ∧ m ≤ max a.2.1 b.2.1
  · rw [if_pos c, mx_e ha.spt hb.spt]
    have ps : ∀ W : Int → Int, (∀ m, m < min a.1 b.1 → W m = 0) → psE mi (min a.1 b.1) (max a.2.1 b.2.1) W (m - min a.1 b.1) = pS W m := fun W hW => by
      unfold psE nmE
      simp only [if_neg hm]
      have := sm_shift (f := W) (c := min a.1 b.1) (lo := 0) (m - min a.1 b.1).toNat
      rw [show (fun j => W (min a.1 b.1 + j)) = fun j => W (j + min a.1 b.1) from funext fun j => by rw [Int.add_comm], this]
      unfold pS
      rw [show (m + 1000).toNat = (min a.1 b.1 + 1000).toNat + (m - min a.1 b.1).toNat by omega, sm_split, sm_zero (lo := -1000) _ (fun j hj => hW _ (by omega)), show -1000 + (((min a.1 b.1 + 1000).toNat : Nat) : Int) = 0 + min a.1 b.1 by omega]
      omega
    unfold enE idE
    rw [if_neg hm, ps _ (fun m h => ha.z.1 m (by omega)), ps _ (fun m h => hb.z.1 m (by omega))]
    unfold nmE
    rw [if_neg hm, show min a.1 b.1 + (m - min a.1 b.1) = m by omega]
  · rw [if_neg c]
    unfold mxW
    by_cases z : m < min a.1 b.1
    · rw [pS_lo ha.z.1 (show m + 1 ≤ a.1 by omega), pS_lo ha.z.1 (show m ≤ a.1 by omega), Int.zero_mul, Int.zero_mul]
      rfl
    · rw [ha.top (show a.2.1 < m + 1 by omega), ha.top (show a.2.1 < m by omega), hb.top (show b.2.1 < m + 1 by omega), hb.top (show b.2.1 < m by omega)]
      omega
theorem enV_mn {a b : RowVal} (ha : gV a) (hb : gV b) (m : Int) : enV 0 (min a.1 b.1) (max a.2.1 b.2.1) a.2.2.2 b.2.2.2 m = mnW a.2.2.1 b.2.2.1 a.2.2.2 b.2.2.2 m := by
  have a1 := ha.1
  have b1 := hb.1
  unfold enV
  by_cases c : min a.1 b.1 ≤ m ∧ m ≤ max a.2.1 b.2.1
  · rw [if_pos c, mn_e ha.spt hb.spt]
    have ps : ∀ (W : Int → Int) (t : Int), pS W (max a.2.1 b.2.1 + 1) = t → psE 0 (min a.1 b.1) (max a.2.1 b.2.1) W (max a.2.1 b.2.1 - m) = t - pS W (m + 1) := fun W t hW => by
      unfold psE nmE
      simp only [if_true]
      rw [sm_refl (f := W) (c := max a.2.1 b.2.1), ← hW]
      unfold pS
      rw [show (max a.2.1 b.2.1 + 1 + 1000).toNat = (m + 1 + 1000).toNat + (max a.2.1 b.2.1 - m).toNat by omega, sm_split, show -1000 + (((m + 1 + 1000).toNat : Nat) : Int) = max a.2.1 b.2.1 - 0 - ((max a.2.1 b.2.1 - m).toNat : Nat) + 1 by omega]
      omega
    unfold enE idE
    rw [if_pos rfl, ps _ _ (ha.top (by omega)), ps _ _ (hb.top (by omega))]
    unfold nmE
    rw [if_pos rfl, show max a.2.1 b.2.1 - (max a.2.1 b.2.1 - m) = m by omega]
  · rw [if_neg c]
    unfold mnW
    by_cases z : m < min a.1 b.1
    · rw [pS_lo ha.z.1 (show m + 1 ≤ a.1 by omega), pS_lo ha.z.1 (show m ≤ a.1 by omega), pS_lo hb.z.1 (show m + 1 ≤ b.1 by omega), pS_lo hb.z.1 (show m ≤ b.1 by omega)]
      omega
    · rw [ha.top (show a.2.1 < m + 1 by omega), ha.top (show a.2.1 < m by omega), Int.sub_self, Int.zero_mul, Int.zero_mul]
      rfl
theorem pS_le {v : RowVal} (h : gV v) (n : Int) : pS v.2.2.2 n ≤ v.2.2.1 := by
  have h1 := h.1
  by_cases c : v.2.1 < n
  · rw [h.top c]
    omega
  · have e : pS v.2.2.2 (v.2.1 + 1) = v.2.2.1 := h.top (by omega)
    by_cases c2 : n < -1000
    · rw [(pS_lt c2).1]
      have := h.2.2.2.2.2.1
      omega
    · rw [← e]
      unfold pS
      rw [show (v.2.1 + 1 + 1000).toNat = (n + 1000).toNat + (v.2.1 + 1 - n).toNat by omega, sm_split]
      have := sm_nn h.2.1 (lo := -1000 + ((n + 1000).toNat : Nat)) (v.2.1 + 1 - n).toNat
      omega
theorem gV_en {mi : Int32} {a b : RowVal} (ha : gV a) (hb : gV b) (hok : a.2.2.1 * b.2.2.1 ≤ 1000000000) : gV (enX mi a b) := by
  have a1 := ha.1
  have b1 := hb.1
  have ta := ha.2.2.2.2.2.1
  have tb := hb.2.2.2.2.2.1
  have tp : 0 < a.2.2.1 * b.2.2.1 := Int.mul_pos (by omega) (by omega)
  by_cases hm : mi = 0
  · subst hm
    have ev := enV_mn ha hb
    have nn : ∀ m, 0 ≤ mnW a.2.2.1 b.2.2.1 a.2.2.2 b.2.2.2 m := fun m => by
      rw [mn_e ha.spt hb.spt]
      have p1 := pS_le ha (m + 1)
      have p2 := pS_le hb (m + 1)
      have q1 := ha.2.1 m
      have q2 := hb.2.1 m
      have r1 : 0 ≤ a.2.2.2 m * (b.2.2.1 - pS b.2.2.2 (m + 1) + b.2.2.2 m) := Int.mul_nonneg q1 (by omega)
      have r2 : 0 ≤ (a.2.2.1 - pS a.2.2.2 (m + 1)) * b.2.2.2 m := Int.mul_nonneg (by omega) q2
      omega
    refine ⟨⟨?_, ?_, ?_⟩, fun m => ?_, fun m hm => ?_, ⟨?_, ?_⟩, ?_, by show 1 ≤ a.2.2.1 * b.2.2.1; omega, hok⟩
    · show -200 ≤ (if (0 : Int32) = 0 then min a.1 b.1 else max a.1 b.1)
      rw [if_pos rfl]
      omega
    · show (if (0 : Int32) = 0 then min a.1 b.1 else max a.1 b.1) ≤ (if (0 : Int32) = 0 then min a.2.1 b.2.1 else max a.2.1 b.2.1)
      rw [if_pos rfl, if_pos rfl]
      omega
    · show (if (0 : Int32) = 0 then min a.2.1 b.2.1 else max a.2.1 b.2.1) ≤ 200
      rw [if_pos rfl]
      omega
    · show 0 ≤ enV 0 (min a.1 b.1) (max a.2.1 b.2.1) a.2.2.2 b.2.2.2 m
      rw [ev]
      exact nn m
    · show enV 0 (min a.1 b.1) (max a.2.1 b.2.1) a.2.2.2 b.2.2.2 m = 0
      change ¬ ((if (0 : Int32) = 0 then min a.1 b.1 else max a.1 b.1) ≤ m ∧ m ≤ (if (0 : Int32) = 0 then min a.2.1 b.2.1 else max a.2.1 b.2.1)) at hm
      rw [if_pos rfl, if_pos rfl] at hm
      rw [ev]
      unfold mnW
      by_cases z : m < min a.1 b.1
      · rw [pS_lo ha.z.1 (show m + 1 ≤ a.1 by omega), pS_lo ha.z.1 (show m ≤ a.1 by omega), pS_lo hb.z.1 (show m + 1 ≤ b.1 by omega), pS_lo hb.z.1 (show m ≤ b.1 by omega)]
        omega
      · by_cases z2 : a.2.1 < m
        · rw [ha.top (show a.2.1 < m + 1 by omega), ha.top (show a.2.1 < m by omega), Int.sub_self, Int.zero_mul, Int.zero_mul]
          rfl
        · rw [hb.top (show b.2.1 < m + 1 by omega), hb.top (show b.2.1 < m by omega), Int.sub_self, Int.mul_zero, Int.mul_zero]
          rfl
    · show 0 < enV 0 (min a.1 b.1) (max a.2.1 b.2.1) a.2.2.2 b.2.2.2 (if (0 : Int32) = 0 then min a.1 b.1 else max a.1 b.1)
      rw [if_pos rfl, ev, mn_e ha.spt hb.spt]
      have q1 := ha.2.1 (min a.1 b.1)
      have q2 := hb.2.1 (min a.1 b.1)
      have p1 := pS_le ha (min a.1 b.1 + 1)
      have p2 := pS_le hb (min a.1 b.1 + 1)
      by_cases z : a.1 ≤ b.1
      · rw [show min a.1 b.1 = a.1 by omega] at *
        have e1 : b.2.2.1 - pS b.2.2.2 (a.1 + 1) + b.2.2.2 a.1 = b.2.2.1 - pS b.2.2.2 a.1 := by rw [pS_s' hb.spt]; omega
        rw [e1, pS_lo hb.z.1 (show a.1 ≤ b.1 from z), Int.sub_zero]
        have r1 : 0 < a.2.2.2 a.1 * b.2.2.1 := Int.mul_pos ha.2.2.2.1.1 (by omega)
        have r2 : 0 ≤ (a.2.2.1 - pS a.2.2.2 (a.1 + 1)) * b.2.2.2 a.1 := Int.mul_nonneg (by omega) q2
        omega
      · rw [show min a.1 b.1 = b.1 by omega] at *
        have r1 : 0 ≤ a.2.2.2 b.1 * (b.2.2.1 - pS b.2.2.2 (b.1 + 1) + b.2.2.2 b.1) := Int.mul_nonneg q1 (by omega)
        rw [pS_lo ha.z.1 (show b.1 + 1 ≤ a.1 by omega), Int.sub_zero]
        have r2 : 0 < a.2.2.1 * b.2.2.2 b.1 := Int.mul_pos (by omega) hb.2.2.2.1.1
        omega
    · show 0 < enV 0 (min a.1 b.1) (max a.2.1 b.2.1) a.2.2.2 b.2.2.2 (if (0 : Int32) = 0 then min a.2.1 b.2.1 else max a.2.1 b.2.1)
      rw [if_pos rfl, ev]
      unfold mnW
      by_cases z : a.2.1 ≤ b.2.1
      · rw [show min a.2.1 b.2.1 = a.2.1 by omega, ha.top (show a.2.1 < a.2.1 + 1 by omega), Int.sub_self, Int.zero_mul, Int.sub_zero]
        have e1 := pS_s' ha.spt a.2.1
        rw [ha.top (show a.2.1 < a.2.1 + 1 by omega)] at e1
        have p1 := ha.2.2.2.1.2
        have e2 := pS_s' hb.spt a.2.1
        have p2 := pS_le hb a.2.1
        refine Int.mul_pos (by omega) ?_
        by_cases w : a.2.1 < b.2.1
        · have := hb.top (show b.2.1 < b.2.1 + 1 by omega)
          have e3 := pS_s' hb.spt b.2.1
          have p3 := hb.2.2.2.1.2
          have p4 : pS b.2.2.2 a.2.1 ≤ pS b.2.2.2 b.2.1 := by
            unfold pS
            rw [show (b.2.1 + 1000).toNat = (a.2.1 + 1000).toNat + (b.2.1 - a.2.1).toNat by omega, sm_split]
            have := sm_nn hb.2.1 (lo := -1000 + ((a.2.1 + 1000).toNat : Nat)) (b.2.1 - a.2.1).toNat
            omega
          omega
        · have e : a.2.1 = b.2.1 := by omega
          have := hb.top (show b.2.1 < b.2.1 + 1 by omega)
          have e3 := pS_s' hb.spt b.2.1
          have p3 := hb.2.2.2.1.2
          rw [e]
          omega
      · rw [show min a.2.1 b.2.1 = b.2.1 by omega, hb.top (show b.2.1 < b.2.1 + 1 by omega), Int.sub_self, Int.mul_zero, Int.sub_zero]
        have e1 := pS_s' hb.spt b.2.1
        rw [hb.top (show b.2.1 < b.2.1 + 1 by omega)] at e1
        have p1 := hb.2.2.2.1.2
        refine Int.mul_pos ?_ (by omega)
        have := ha.top (show a.2.1 < a.2.1 + 1 by omega)
        have e3 := pS_s' ha.spt a.2.1
        have p3 := ha.2.2.2.1.2
        have p4 : pS a.2.2.2 b.2.1 ≤ pS a.2.2.2 a.2.1 := by
          unfold pS
          rw [show (a.2.1 + 1000).toNat = (b.2.1 + 1000).toNat + (a.2.1 - b.2.1).toNat by omega, sm_split]
          have := sm_nn ha.2.1 (lo := -1000 + ((b.2.1 + 1000).toNat : Nat)) (a.2.1 - b.2.1).toNat
          omega
        omega
    · show a.2.2.1 * b.2.2.1 = tS (enV 0 (min a.1 b.1) (max a.2.1 b.2.1) a.2.2.2 b.2.2.2)
      rw [show enV 0 (min a.1 b.1) (max a.2.1 b.2.1) a.2.2.2 b.2.2.2 = mnW a.2.2.1 b.2.2.1 a.2.2.2 b.2.2.2 from funext ev, tS_e, pS_mn, show (-1000 : Int) + (2000 : Nat) = 1000 by omega, ha.top (show a.2.1 < 1000 by omega), Int.sub_self, Int.zero_mul, Int.sub_zero]
  · have ev := enV_mx ha hb hm
    have nn : ∀ m, 0 ≤ mxW a.2.2.2 b.2.2.2 m := fun m => by
      rw [mx_e ha.spt hb.spt]
      have p1 := pS_nn ha.2.1 m
      have p2 := pS_nn hb.2.1 m
      have q1 := ha.2.1 m
      have q2 := hb.2.1 m
      have r1 : 0 ≤ a.2.2.2 m * (pS b.2.2.2 m + b.2.2.2 m) := Int.mul_nonneg q1 (by omega)
      have r2 : 0 ≤ pS a.2.2.2 m * b.2.2.2 m := Int.mul_nonneg p1 q2
      omega
    refine ⟨⟨?_, ?_, ?_⟩, fun m => ?_, fun m hm2 => ?_, ⟨?_, ?_⟩, ?_, by show 1 ≤ a.2.2.1 * b.2.2.1; omega, hok⟩
    · show -200 ≤ (if mi = 0 then min a.1 b.1 else max a.1 b.1)
      rw [if_neg hm]
      omega
    · show (if mi = 0 then min a.1 b.1 else max a.1 b.1) ≤ (if mi = 0 then min a.2.1 b.2.1 else max a.2.1 b.2.1)
      rw [if_neg hm, if_neg hm]
      omega
    · show (if mi = 0 then min a.2.1 b.2.1 else max a.2.1 b.2.1) ≤ 200
      rw [if_neg hm]
      omega
    · show 0 ≤ enV mi (min a.1 b.1) (max a.2.1 b.2.1) a.2.2.2 b.2.2.2 m
      rw [ev]
      exact nn m
    · show enV mi (min a.1 b.1) (max a.2.1 b.2.1) a.2.2.2 b.2.2.2 m = 0
      change ¬ ((if mi = 0 then min a.1 b.1 else max a.1 b.1) ≤ m ∧ m ≤ (if mi = 0 then min a.2.1 b.2.1 else max a.2.1 b.2.1)) at hm2
      rw [if_neg hm, if_neg hm] at hm2
      rw [ev]
      unfold mxW
      by_cases z : max a.2.1 b.2.1 < m
      · rw [ha.top (show a.2.1 < m + 1 by omega), ha.top (show a.2.1 < m by omega), hb.top (show b.2.1 < m + 1 by omega), hb.top (show b.2.1 < m by omega)]
        omega
      · by_cases z2 : m < a.1
        · rw [pS_lo ha.z.1 (show m + 1 ≤ a.1 by omega), pS_lo ha.z.1 (show m ≤ a.1 by omega), Int.zero_mul, Int.zero_mul]
          rfl
        · rw [pS_lo hb.z.1 (show m + 1 ≤ b.1 by omega), pS_lo hb.z.1 (show m ≤ b.1 by omega), Int.mul_zero, Int.mul_zero]
          rfl
    · show 0 < enV mi (min a.1 b.1) (max a.2.1 b.2.1) a.2.2.2 b.2.2.2 (if mi = 0 then min a.1 b.1 else max a.1 b.1)
      rw [if_neg hm, ev]
      unfold mxW
      have g1 := pS_ge ha.2.1 (show -1000 ≤ a.1 by omega) (show a.1 < max a.1 b.1 + 1 by omega)
      have g2 := pS_ge hb.2.1 (show -1000 ≤ b.1 by omega) (show b.1 < max a.1 b.1 + 1 by omega)
      have r : 0 < pS a.2.2.2 (max a.1 b.1 + 1) * pS b.2.2.2 (max a.1 b.1 + 1) := Int.mul_pos (by have := ha.2.2.2.1.1; omega) (by have := hb.2.2.2.1.1; omega)
      by_cases z : a.1 ≤ b.1
      · rw [pS_lo hb.z.1 (show max a.1 b.1 ≤ b.1 by omega), Int.mul_zero]
        omega
      · rw [pS_lo ha.z.1 (show max a.1 b.1 ≤ a.1 by omega), Int.zero_mul]
        omega
    · show 0 < enV mi (min a.1 b.1) (max a.2.1 b.2.1) a.2.2.2 b.2.2.2 (if mi = 0 then min a.2.1 b.2.1 else max a.2.1 b.2.1)
      rw [if_neg hm, ev, mx_e ha.spt hb.spt, ← pS_s' hb.spt]
      rw [hb.top (show b.2.1 < max a.2.1 b.2.1 + 1 by omega)]
      by_cases z : b.2.1 ≤ a.2.1
      · rw [show max a.2.1 b.2.1 = a.2.1 by omega]
        have r1 : 0 < a.2.2.2 a.2.1 * b.2.2.1 := Int.mul_pos ha.2.2.2.1.2 (by omega)
        have r2 : 0 ≤ pS a.2.2.2 a.2.1 * b.2.2.2 a.2.1 := Int.mul_nonneg (pS_nn ha.2.1 a.2.1) (hb.2.1 a.2.1)
        omega
      · rw [show max a.2.1 b.2.1 = b.2.1 by omega]
        have r1 : 0 ≤ a.2.2.2 b.2.1 * b.2.2.1 := Int.mul_nonneg (ha.2.1 b.2.1) (by omega)
        rw [ha.top (show a.2.1 < b.2.1 by omega)]
        have r2 : 0 < a.2.2.1 * b.2.2.2 b.2.1 := Int.mul_pos (by omega) hb.2.2.2.1.2
        omega
    · show a.2.2.1 * b.2.2.1 = tS (enV mi (min a.1 b.1) (max a.2.1 b.2.1) a.2.2.2 b.2.2.2)
      rw [show enV mi (min a.1 b.1) (max a.2.1 b.2.1) a.2.2.2 b.2.2.2 = mxW a.2.2.2 b.2.2.2 from funext ev, tS_e, pS_mx, show (-1000 : Int) + (2000 : Nat) = 1000 by omega, ha.top (show a.2.1 < 1000 by omega), hb.top (show b.2.1 < 1000 by omega)]
theorem ab_b {a b : RowVal} (ha : gV a) (hb : gV b) : 0 ≤ abV a.2.2.2 b.2.2.2 ∧ abV a.2.2.2 b.2.2.2 ≤ a.2.2.1 * b.2.2.1 := by
  refine ⟨tS_nn fun n => Int.mul_nonneg (ha.2.1 n) (pS_nn hb.2.1 n), ?_⟩
  have e : a.2.2.1 * b.2.2.1 = tS (fun n => a.2.2.2 n * b.2.2.1) := by rw [tS_mulc, ← ha.2.2.2.2.1]
  rw [e]
  have : tS (fun n => a.2.2.2 n * b.2.2.1) - abV a.2.2.2 b.2.2.2 = tS (fun n => a.2.2.2 n * (b.2.2.1 - pS b.2.2.2 n)) := by
    have h := sm_add (f := fun n => a.2.2.2 n * (b.2.2.1 - pS b.2.2.2 n)) (g := fun n => a.2.2.2 n * pS b.2.2.2 n) (lo := -1000) 2000
    have h2 : tS (fun n => a.2.2.2 n * b.2.2.1) = sm (fun m => a.2.2.2 m * (b.2.2.1 - pS b.2.2.2 m) + a.2.2.2 m * pS b.2.2.2 m) (-1000) 2000 := pS_congr fun m _ _ => by
      show a.2.2.2 m * b.2.2.1 = a.2.2.2 m * (b.2.2.1 - pS b.2.2.2 m) + a.2.2.2 m * pS b.2.2.2 m
      rw [← Int.mul_add, show b.2.2.1 - pS b.2.2.2 m + pS b.2.2.2 m = b.2.2.1 by omega]
    rw [h2, h]
    show _ - sm (fun n => a.2.2.2 n * pS b.2.2.2 n) (-1000) 2000 = _
    rw [Int.add_sub_cancel]
    rfl
  have nn := tS_nn (f := fun n => a.2.2.2 n * (b.2.2.1 - pS b.2.2.2 n)) fun n => Int.mul_nonneg (ha.2.1 n) (by have := pS_le hb n; omega)
  omega
def moX (a b : RowVal) : RowVal := (if 0 < a.2.2.1 * b.2.2.1 - abV a.2.2.2 b.2.2.2 then 0 else 1, if 0 < abV a.2.2.2 b.2.2.2 then 1 else 0, a.2.2.1 * b.2.2.1, fun m => if m = 1 then abV a.2.2.2 b.2.2.2 else if m = 0 then a.2.2.1 * b.2.2.1 - abV a.2.2.2 b.2.2.2 else 0)
theorem gV_mo {a b : RowVal} (ha : gV a) (hb : gV b) (hok : a.2.2.1 * b.2.2.1 ≤ 1000000000) : gV (moX a b) := by
  have ta := ha.2.2.2.2.2.1
  have tb := hb.2.2.2.2.2.1
  have tp : 0 < a.2.2.1 * b.2.2.1 := Int.mul_pos (by omega) (by omega)
  have ab := ab_b ha hb
  unfold moX
  generalize abV a.2.2.2 b.2.2.2 = u at *
  generalize a.2.2.1 * b.2.2.1 = t at *
  have tot : tS (fun m => if m = 1 then u else if m = 0 then t - u else 0) = t := by
    have e : tS (fun m => if m = 1 then u else if m = 0 then t - u else 0) = pS (fun m => if m = 1 then u else if m = 0 then t - u else 0) (0 + 1 + 1) := pS_top (by omega) (by omega) fun m h1 h2 => by
      show (if m = 1 then u else if m = 0 then t - u else 0) = 0
      rw [if_neg (by omega), if_neg (by omega)]
    rw [e, pS_s (by omega), pS_s (by omega), pS_zero fun m h1 h2 => by
      show (if m = 1 then u else if m = 0 then t - u else 0) = 0
      rw [if_neg (by omega), if_neg (by omega)]]
    simp
  refine ⟨⟨?_, ?_, ?_⟩, fun m => ?_, fun m hm => ?_, ⟨?_, ?_⟩, tot.symm, by show 1 ≤ t; omega, hok⟩
  · show -200 ≤ (if 0 < t - u then (0 : Int) else 1)
    split <;> omega
  · show (if 0 < t - u then (0 : Int) else 1) ≤ (if 0 < u then 1 else 0)
    split <;> split <;> omega
  · show (if 0 < u then (1 : Int) else 0) ≤ 200
    split <;> omega
  · show 0 ≤ (if m = 1 then u else if m = 0 then t - u else 0)
    split
    · omega
    · split <;> omega
  · change ¬ ((if 0 < t - u then (0 : Int) else 1) ≤ m ∧ m ≤ (if 0 < u then 1 else 0)) at hm
    show (if m = 1 then u else if m = 0 then t - u else 0) = 0
    split at hm <;> split at hm <;> repeat' split
    all_goals omega
  · show 0 < (if (if 0 < t - u then (0 : Int) else 1) = 1 then u else if (if 0 < t - u then (0 : Int) else 1) = 0 then t - u else 0)
    by_cases c : 0 < t - u
    · have e : (if 0 < t - u then (0 : Int) else 1) = 0 := if_pos c
      rw [e, if_neg (by omega), if_pos rfl]
      exact c
    · have e : (if 0 < t - u then (0 : Int) else 1) = 1 := if_neg c
      rw [e, if_pos rfl]
      omega
  · show 0 < (if (if 0 < u then (1 : Int) else 0) = 1 then u else if (if 0 < u then (1 : Int) else 0) = 0 then t - u else 0)
    by_cases c : 0 < u
    · have e : (if 0 < u then (1 : Int) else 0) = 1 := if_pos c
      rw [e, if_pos rfl]
      exact c
    · have e : (if 0 < u then (1 : Int) else 0) = 0 := if_neg c
      rw [e, if_neg (by omega), if_pos rfl]
      omega
