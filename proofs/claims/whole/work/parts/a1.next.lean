/-! the Model's next TOKEN, and the class's -/
/-- the letters of a word: digits of 27 into digits of 256 -/
def wd8F : Nat → Nat → Nat
  | 0, _ => 0
  | k + 1, v => if v = 0 then 0 else wd8F k (v / 27) * 256 + (v % 27 + 96)
abbrev wd8 (v : Int) : Int := ((wd8F 6 v.toNat : Nat) : Int)
theorem wd8F_0 : ∀ k, wd8F k 0 = 0
  | 0 => rfl
  | _ + 1 => if_pos rfl
theorem wd8F_d {k w b : Nat} (hb : 1 ≤ b ∧ b ≤ 26) : wd8F (k + 1) (w * 27 + b) = wd8F k w * 256 + (b + 96) := by
  show (if w * 27 + b = 0 then 0 else wd8F k ((w * 27 + b) / 27) * 256 + ((w * 27 + b) % 27 + 96)) = _
  rw [if_neg (by omega), show (w * 27 + b) / 27 = w by omega, show (w * 27 + b) % 27 = b by omega]
theorem wd8F_up : ∀ {k w : Nat}, w < 27 ^ k → wd8F (k + 1) w = wd8F k w
  | 0, w, h => by
    have : w = 0 := by
      have : (27 : Nat) ^ 0 = 1 := rfl
      omega
    rw [this, wd8F_0, wd8F_0]
  | k + 1, w, h => by
    show (if w = 0 then 0 else wd8F (k + 1) (w / 27) * 256 + (w % 27 + 96)) = (if w = 0 then 0 else wd8F k (w / 27) * 256 + (w % 27 + 96))
    rw [wd8F_up (k := k) (w := w / 27) (by rw [Nat.pow_succ] at h; omega)]
theorem wd8F_6 {k w : Nat} (hk : k ≤ 6) (h : w < 27 ^ k) : wd8F k w = wd8F 6 w := by
  have a : ∀ j, wd8F k w = wd8F (k + j) w := by
    intro j
    induction j with
    | zero => rfl
    | succ j ih => exact ih.trans (wd8F_up (Nat.lt_of_lt_of_le h (Nat.pow_le_pow_right (by omega) (by omega)))).symm
  have := a (6 - k)
  rw [show k + (6 - k) = 6 by omega] at this
  exact this
theorem wd8F_inj : ∀ {k v w : Nat}, v < 27 ^ k → w < 27 ^ k → wd8F k v = wd8F k w → v = w
  | 0, v, w, h1, h2, _ => by
    have : (27 : Nat) ^ 0 = 1 := rfl
    omega
  | k + 1, v, w, h1, h2, h => by
    change (if v = 0 then 0 else wd8F k (v / 27) * 256 + (v % 27 + 96)) = (if w = 0 then 0 else wd8F k (w / 27) * 256 + (w % 27 + 96)) at h
    have e1 := Nat.mod_lt v (show 27 > 0 by omega)
    have e2 := Nat.mod_lt w (show 27 > 0 by omega)
    by_cases a : v = 0
    · by_cases b : w = 0
      · omega
      · rw [if_pos a, if_neg b] at h
        omega
    · by_cases b : w = 0
      · rw [if_neg a, if_pos b] at h
        omega
      · rw [if_neg a, if_neg b] at h
        rw [Nat.pow_succ] at h1 h2
        have := wd8F_inj (k := k) (v := v / 27) (w := w / 27) (by omega) (by omega) (by omega)
        omega
theorem wd8_inj {v w : Int} (hv : 0 ≤ v ∧ v < 387420489) (hw : 0 ≤ w ∧ w < 387420489) (h : wd8 v = wd8 w) : v = w := by
  have e : 27 ^ 6 = 387420489 := by decide
  have := wd8F_inj (k := 6) (v := v.toNat) (w := w.toNat) (by omega) (by omega) (Int.ofNat.inj h)
  omega
theorem wd8F_b : ∀ (k v : Nat), wd8F k v < 256 ^ k
  | 0, _ => Nat.lt_of_lt_of_eq Nat.zero_lt_one rfl
  | k + 1, v => by
    show (if v = 0 then 0 else wd8F k (v / 27) * 256 + (v % 27 + 96)) < _
    have := wd8F_b k (v / 27)
    have m := Nat.mod_lt v (show 27 > 0 by omega)
    rw [Nat.pow_succ]
    split <;> omega
theorem wd8_b (v : Int) : 0 ≤ wd8 v ∧ wd8 v < 281474976710656 := by
  have := wd8F_b 6 v.toNat
  have e : 256 ^ 6 = 281474976710656 := by decide
  unfold wd8
  omega
theorem jw8 (a c : Nat) (hc : c < 256) : (Int64.ofInt (a : Int) <<< (Int64.ofInt 8 &&& 63)) ||| Int64.ofInt (c : Int) = Int64.ofInt ((a * 256 + c : Nat) : Int) := by
  have n : ∀ x : Nat, (Int64.ofInt (x : Int)).toBitVec = BitVec.ofNat 64 x := fun x => by
    show BitVec.ofInt 64 (x : Int) = _
    exact BitVec.ofInt_natCast 64 x
  apply Int64.toBitVec_inj.mp
  rw [Int64.toBitVec_or, Int64.toBitVec_shiftLeft, show (Int64.ofInt 8 &&& 63).toBitVec.smod 64 = BitVec.ofNat 64 8 by decide, n, n, n]
  have e : (BitVec.ofNat 64 a <<< BitVec.ofNat 64 8) = BitVec.ofNat 64 (a * 256) := by
    apply BitVec.eq_of_toNat_eq
    show (BitVec.ofNat 64 a <<< (BitVec.ofNat 64 8).toNat).toNat = _
    rw [BitVec.toNat_shiftLeft, BitVec.toNat_ofNat, BitVec.toNat_ofNat, BitVec.toNat_ofNat, Nat.shiftLeft_eq, show 8 % 2 ^ 64 = 8 by decide, Nat.mod_mul_mod]
  rw [e, ← BitVec.ofNat_or]
  congr 1
  have := Nat.shiftLeft_add_eq_or_of_lt (i := 8) (b := c) hc a
  rw [Nat.shiftLeft_eq] at this
  exact this.symm
/-- only the reader's own numbers change -/
def nxC (h g : Hp) (m : Nat) : Prop := fi (fun q => q = m) h g ∧ ∀ i, i ≠ 4 → i ≠ 17 → i ≠ 18 → i ≠ 19 → i ≠ 20 → zI g m i = zI h m i
theorem nxC.rf {h : Hp} {m : Nat} : nxC h h m := ⟨fi.rf, fun _ _ _ _ _ _ => rfl⟩
theorem nxC.tr {a b c : Hp} {m : Nat} (x : nxC a b m) (y : nxC b c m) : nxC a c m := ⟨x.1.tr y.1, fun i h1 h2 h3 h4 h5 => by rw [y.2 i h1 h2 h3 h4 h5, x.2 i h1 h2 h3 h4 h5]⟩
theorem nxC.I {h g : Hp} {m j : Nat} {v : Int32} (x : nxC h g m) (hj : j = 4 ∨ j = 17 ∨ j = 18 ∨ j = 19 ∨ j = 20) : nxC h (zsI g m j v) m := ⟨x.1.I rfl, fun i h1 h2 h3 h4 h5 => by rw [zI_s, if_neg (by omega)]; exact x.2 i h1 h2 h3 h4 h5⟩
theorem nxC.J {h g : Hp} {m j : Nat} {v : Int64} (x : nxC h g m) : nxC h (zsJ g m j v) m := ⟨x.1.J rfl, fun i h1 h2 h3 h4 h5 => x.2 i h1 h2 h3 h4 h5⟩
/-- the reader at byte p, with all that it reads from -/
def nxG (h : Hp) (m sz p : Nat) (B : Nat → Int) : Prop := mO h m ∧ zI h m 3 = iI sz ∧ sz ≤ 540 ∧ zI h m 4 = iI p ∧ p ≤ sz ∧ (∀ i, i < 540 → zI h (m + 1) i = mbS (B i)) ∧ ∀ i, 0 ≤ B i ∧ B i ≤ 255
theorem nxG.of {h g : Hp} {m sz p p' : Nat} {B : Nat → Int} (x : nxG h m sz p B) (c : nxC h g m) (h4 : zI g m 4 = iI p') (hp : p' ≤ sz) : nxG g m sz p' B :=
  ⟨x.1.fi c.1, by rw [c.2 3 (by omega) (by omega) (by omega) (by omega) (by omega)]; exact x.2.1, x.2.2.1, h4, hp, fun i hi => by rw [c.1.1.2.2.2.2.2.1 (m + 1) (by omega)]; exact x.2.2.2.2.2.1 i hi, x.2.2.2.2.2.2⟩
theorem t_peek {d : Nat} {h : Hp} {m sz p : Nat} {B : Nat → Int} {Q : Nat → Option Value → Hp → Prop} (x : nxG h m sz p B) (hq : Q 0 (some (.int (iI (pkB B sz p)))) h) : PR d m_M_peek [.ref m] h Q :=
  t_M_peek x.1 x.2.1 x.2.2.1 x.2.2.2.1 (by have := x.2.2.1; have := x.2.2.2.2.1; omega) x.2.2.2.2.2.1 x.2.2.2.2.2.2 hq
theorem pkB_b {B : Nat → Int} {sz p : Nat} (hB : ∀ i, 0 ≤ B i ∧ B i ≤ 255) : i32 (pkB B sz p) := by
  unfold pkB
  have := hB p
  split <;> constructor <;> omega
theorem pkB_v {B : Nat → Int} {sz p : Nat} (hp : p < sz) : pkB B sz p = byV B sz p := by
  unfold pkB byV
  rw [if_pos hp, if_pos (by omega), Int.toNat_natCast]
/-- where the reader stands against the class's -/
abbrev tkP0 (sz : Nat) (fo : Int) (p : Nat) : Prop := (p : Int) = fo ∨ 500 < sz ∧ 500 ≤ p ∧ 500 ≤ fo
abbrev tkB (at' nu wo : Int) : Prop := (0 ≤ at' ∧ at' ≤ 500) ∧ (-2147483648 ≤ nu ∧ nu ≤ 2147483647) ∧ -9223372036854775808 ≤ wo ∧ wo ≤ 9223372036854775807
def tkR (sz : Nat) (s : R4) (p : Nat) (tk at' nu wo : Int) : Prop := tkP0 sz s.1 p ∧ at' = s.2.2.2 ∧ ((s.2.1 = 0 ∧ sz ≤ 500 ∧ tk = 0) ∨ (s.2.1 = 0 ∧ 500 < sz ∧ tk = 4) ∨ (s.2.1 = 1 ∧ tk = 4) ∨ (s.2.1 = 2 ∧ tk = 1 ∧ s.2.2.1 < 387420489 ∧ wo = wd8 s.2.2.1) ∨ (s.2.1 = 3 ∧ tk = 2 ∧ nu = s.2.2.1) ∨ (s.2.1 = 4 ∧ tk = 3 ∧ nu = s.2.2.1))
/-- the reader after a TOKEN -/
def nxE (g : Hp) (m sz : Nat) (B : Nat → Int) (s : R4) : Prop := ∃ (p : Nat) (tk at' nu wo : Int), nxG g m sz p B ∧ zI g m 17 = iI tk ∧ (0 ≤ tk ∧ tk ≤ 4) ∧ zI g m 18 = iI at' ∧ zI g m 20 = iI nu ∧ zJ g m 23 = lI wo ∧ tkB at' nu wo ∧ tkR sz s p tk at' nu wo
abbrev sgB (c : Int) : Prop := c = 40 ∨ c = 41 ∨ c = 43 ∨ c = 44 ∨ c = 45 ∨ c = 46 ∨ c = 59 ∨ c = 61
/-- the numbers of a run of letters and digits, up to byte i -/
def riN (B : Nat → Int) (sz : Nat) (sm : Int) (i : Nat) (l gd w n : Int) (wo : Nat) (nu al : Int) : Prop := (0 ≤ l ∧ 0 ≤ gd ∧ l + gd ≤ i) ∧ (sm = 1 ∨ sm = 0) ∧ (sm = 1 → 1 ≤ l ∨ (l = 0 ∧ gd = 0 ∧ 97 ≤ byV B sz i ∧ byV B sz i ≤ 122)) ∧ (sm = 0 → 1 ≤ gd ∨ (l = 0 ∧ gd = 0 ∧ 48 ≤ byV B sz i ∧ byV B sz i ≤ 57)) ∧ al = (if (sm = 1 ∧ gd = 0) ∨ (sm = 0 ∧ l = 0) then 1 else 0) ∧
  (0 ≤ w ∧ w < ((27 ^ l.toNat : Nat) : Int)) ∧ wo < 256 ^ (min (l + gd).toNat 6) ∧ (gd = 0 → l ≤ 6 → wo = wd8F l.toNat w.toNat) ∧ (0 ≤ nu ∧ (l + gd = 0 → nu = 0) ∧ (l + gd ≤ 1 → nu ≤ 74) ∧ nu ≤ 814) ∧ (l = 0 → gd ≤ 2 → nu = n)
theorem wo_b {wo b k : Nat} (h : wo < 256 ^ (min k 6)) (hb : b < 256) : (if k < 6 then wo * 256 + b else wo) < 256 ^ (min (k + 1) 6) := by
  by_cases c : k < 6
  · rw [if_pos c, show min (k + 1) 6 = k + 1 by omega, Nat.pow_succ]
    rw [show min k 6 = k by omega] at h
    omega
  · rw [if_neg c, show min (k + 1) 6 = 6 by omega]
    rw [show min k 6 = 6 by omega] at h
    exact h
theorem riN.let' {B : Nat → Int} {sz i b : Nat} {sm l gd w n nu al : Int} {wo : Nat} (x : riN B sz sm i l gd w n wo nu al) (hb : byV B sz i = b) (h1 : 97 ≤ b ∧ b ≤ 122) : riN B sz sm (i + 1) (l + 1) gd (w * 27 + byV B sz i - 97 + 1) n (if l + gd < 6 then wo * 256 + b else wo) (if l + gd < 2 then 10 * nu + b - 48 else nu) (if al = 1 ∧ sm = 1 then 1 else 0) := by
  obtain ⟨⟨a1, a2, a3⟩, a4, a5, a6, a7, ⟨a8, a9⟩, a10, a11, ⟨a12, a13, a14, a15⟩, a16⟩ := x
  refine ⟨⟨by omega, a2, by omega⟩, a4, fun _ => Or.inl (by omega), fun z => ?_, ?_, ?_, ?_, fun z1 z2 => ?_, ?_, fun z => absurd z (by omega)⟩
  · have := a6 z
    omega
  · rw [a7]
    by_cases c : sm = 1 ∧ gd = 0
    · rw [if_pos (Or.inl c), if_pos ⟨rfl, c.1⟩, if_pos (Or.inl c)]
    · rw [if_neg (show ¬ ((sm = 1 ∧ gd = 0) ∨ (sm = 0 ∧ l + 1 = 0)) by omega)]
      apply if_neg
      intro z
      by_cases c2 : (sm = 1 ∧ gd = 0) ∨ (sm = 0 ∧ l = 0)
      · omega
      · rw [if_neg c2] at z
        exact absurd z.1 (by omega)
  · rw [hb, show (l + 1).toNat = l.toNat + 1 by omega, pw_s]
    omega
  · have := wo_b (k := (l + gd).toNat) a10 (show b < 256 by omega)
    rw [show (l + 1 + gd).toNat = (l + gd).toNat + 1 by omega]
    by_cases c : l + gd < 6
    · rw [if_pos (by omega)] at this
      rw [if_pos c]
      exact this
    · rw [if_neg (by omega)] at this
      rw [if_neg c]
      exact this
  · rw [if_pos (by omega), hb, a11 z1 (by omega), show (l + 1).toNat = l.toNat + 1 by omega, show (w * 27 + (b : Int) - 97 + 1).toNat = w.toNat * 27 + (b - 96) by omega, wd8F_d (by omega)]
    omega
  · by_cases c : l + gd < 2
    · rw [if_pos c]
      by_cases c0 : l + gd = 0
      · have := a13 c0
        omega
      · have := a14 (by omega)
        omega
    · rw [if_neg c]
      omega
theorem riN.dig {B : Nat → Int} {sz i b : Nat} {sm l gd w n nu al : Int} {wo : Nat} (x : riN B sz sm i l gd w n wo nu al) (hb : byV B sz i = b) (h1 : 48 ≤ b ∧ b ≤ 57) : riN B sz sm (i + 1) l (gd + 1) w (n * 10 + byV B sz i - 48) (if l + gd < 6 then wo * 256 + b else wo) (if l + gd < 2 then 10 * nu + b - 48 else nu) (if al = 1 ∧ sm = 0 then 1 else 0) := by
  obtain ⟨⟨a1, a2, a3⟩, a4, a5, a6, a7, ⟨a8, a9⟩, a10, a11, ⟨a12, a13, a14, a15⟩, a16⟩ := x
  refine ⟨⟨a1, by omega, by omega⟩, a4, fun z => ?_, fun _ => Or.inl (by omega), ?_, ⟨a8, a9⟩, ?_, fun z => absurd z (by omega), ?_, fun z1 z2 => ?_⟩
  · have := a5 z
    omega
  · rw [a7]
    by_cases c : sm = 0 ∧ l = 0
    · rw [if_pos (Or.inr c), if_pos ⟨rfl, c.1⟩, if_pos (Or.inr c)]
    · rw [if_neg (show ¬ ((sm = 1 ∧ gd + 1 = 0) ∨ (sm = 0 ∧ l = 0)) by omega)]
      apply if_neg
      intro z
      by_cases c2 : (sm = 1 ∧ gd = 0) ∨ (sm = 0 ∧ l = 0)
      · omega
      · rw [if_neg c2] at z
        exact absurd z.1 (by omega)
  · have := wo_b (k := (l + gd).toNat) a10 (show b < 256 by omega)
    rw [show (l + (gd + 1)).toNat = (l + gd).toNat + 1 by omega]
    by_cases c : l + gd < 6
    · rw [if_pos (by omega)] at this
      rw [if_pos c]
      exact this
    · rw [if_neg (by omega)] at this
      rw [if_neg c]
      exact this
  · by_cases c : l + gd < 2
    · rw [if_pos c]
      by_cases c0 : l + gd = 0
      · have := a13 c0
        omega
      · have := a14 (by omega)
        omega
    · rw [if_neg c]
      omega
  · rw [if_pos (by omega), hb, a16 z1 (by omega)]
    omega
def riH (h g : Hp) (m sz p2 i : Nat) (B : Nat → Int) (sp nu : Int) (wo : Nat) : Prop := nxC h g m ∧ nxG g m sz i B ∧ zI g m 18 = iI p2 ∧ zI g m 19 = iI sp ∧ zI g m 20 = iI nu ∧ zJ g m 23 = lI wo
/-- what a run of letters and digits is -/
theorem rn_tk {B : Nat → Int} {sz p2 i : Nat} {sm l gd w n nu al tk : Int} {wo : Nat} (x : riN B sz sm i l gd w n wo nu al) (he : ¬ ((97 ≤ byV B sz i ∧ byV B sz i ≤ 122) ∨ (48 ≤ byV B sz i ∧ byV B sz i ≤ 57))) (ht : tk = if al = 0 ∨ (if sm = 1 then 6 else 2) < l + gd then 4 else if sm = 1 then 1 else 2) : tkR sz ((i : Int), rnK (l, gd, w, n, (i : Int)), rnV (l, gd, w, n, (i : Int)), (p2 : Int)) i tk p2 nu wo := by
  obtain ⟨⟨a1, a2, a3⟩, a4, a5, a6, a7, ⟨a8, a9⟩, a10, a11, ⟨a12, a13, a14, a15⟩, a16⟩ := x
  refine ⟨Or.inl rfl, rfl, ?_⟩
  unfold rnK rnV
  dsimp only
  rcases a4 with s1 | s0
  · have l1 : 1 ≤ l := by
      have := a5 s1
      omega
    rw [if_pos s1, if_pos s1] at ht
    by_cases c : gd = 0
    · rw [if_pos (Or.inl ⟨s1, c⟩)] at a7
      by_cases c6 : l ≤ 6
      · rw [if_neg (by omega)] at ht
        rw [if_pos ⟨c, c6⟩, if_pos ⟨c, c6⟩]
        have e : 27 ^ 6 = 387420489 := by decide
        have p := Nat.pow_le_pow_right (n := 27) (by omega) (show l.toNat ≤ 6 by omega)
        refine Or.inr (Or.inr (Or.inr (Or.inl ⟨rfl, ht, by omega, ?_⟩)))
        rw [a11 c c6, wd8F_6 (by omega) (by omega)]
      · rw [if_pos (by omega)] at ht
        rw [if_neg (by omega), if_neg (by omega), if_neg (by omega), if_neg (by omega)]
        exact Or.inr (Or.inr (Or.inl ⟨rfl, ht⟩))
    · rw [if_neg (by omega)] at a7
      rw [if_pos (Or.inl a7)] at ht
      rw [if_neg (by omega), if_neg (by omega), if_neg (by omega), if_neg (by omega)]
      exact Or.inr (Or.inr (Or.inl ⟨rfl, ht⟩))
  · have g1 : 1 ≤ gd := by
      have := a6 s0
      omega
    have n1 : ¬ sm = 1 := by omega
    have n2 : ¬ (gd = 0 ∧ l ≤ 6) := by omega
    rw [if_neg n1, if_neg n1] at ht
    rw [if_neg n2, if_neg n2]
    by_cases c : l = 0
    · rw [if_pos (Or.inr ⟨s0, c⟩)] at a7
      by_cases c2 : gd ≤ 2
      · rw [if_neg (show ¬ (al = 0 ∨ 2 < l + gd) by omega)] at ht
        rw [if_pos ⟨c, c2⟩, if_pos ⟨c, c2⟩]
        exact Or.inr (Or.inr (Or.inr (Or.inr (Or.inl ⟨rfl, ht, a16 c c2⟩))))
      · have n3 : ¬ (l = 0 ∧ gd ≤ 2) := fun z => c2 z.2
        rw [if_pos (show al = 0 ∨ 2 < l + gd by omega)] at ht
        rw [if_neg n3, if_neg n3]
        exact Or.inr (Or.inr (Or.inl ⟨rfl, ht⟩))
    · have n3 : ¬ (l = 0 ∧ gd ≤ 2) := fun z => c z.1
      rw [if_neg (show ¬ ((sm = 1 ∧ gd = 0) ∨ (sm = 0 ∧ l = 0)) by omega)] at a7
      rw [if_pos (Or.inl a7)] at ht
      rw [if_neg n3, if_neg n3]
      exact Or.inr (Or.inr (Or.inl ⟨rfl, ht⟩))
/-- a run of letters and digits from byte p2 -/
theorem t_M_run {d : Nat} {h : Hp} {m sz p2 : Nat} {c sm : Int} {B : Nat → Int} {Q : Nat → Option Value → Hp → Prop}
    (hq : ∀ g, nxC h g m → nxE g m sz B ((rnF B sz (sz - p2) p2 0 0 0 0).2.2.2.2, rnK (rnF B sz (sz - p2) p2 0 0 0 0), rnV (rnF B sz (sz - p2) p2 0 0 0 0), (p2 : Int)) → Q 0 none g) (hp2 : (p2 : Int) ≤ 500) :
    ∀ (k i : Nat) (l gd w n : Int) (wo : Nat) (nu al : Int) (g : Hp), k + i = sz → riH h g m sz p2 i B (l + gd) nu wo → riN B sz sm i l gd w n wo nu al → rnF B sz k i l gd w n = rnF B sz (sz - p2) p2 0 0 0 0 → PW (d + 1) 198 102 [some (.ref m), some (.int (iI c)), some (.int (iI sm)), some (.int (iI al))] [] g Q := by
  -- the end
  have out : ∀ (i : Nat) (l gd w n : Int) (wo : Nat) (nu al : Int) (g : Hp), riH h g m sz p2 i B (l + gd) nu wo → riN B sz sm i l gd w n wo nu al → ¬ ((97 ≤ byV B sz i ∧ byV B sz i ≤ 122) ∨ (48 ≤ byV B sz i ∧ byV B sz i ≤ 57)) → rnF B sz (sz - p2) p2 0 0 0 0 = (l, gd, w, n, (i : Int)) → PW (d + 1) 198 163 [some (.ref m), some (.int (iI c)), some (.int (iI sm)), some (.int (iI al))] [] g Q := by
    intro i l gd w n wo nu al g ⟨c0, xg, g18, g19, g20, g23⟩ rn he hx
    rw [hx] at hq
    have M := xg.1.k
    have sz1 := xg.2.2.1
    have ip := xg.2.2.2.2.1
    have nb := rn.2.2.2.2.2.2.2.2.1
    have wb : wo < 256 ^ 6 := Nat.lt_of_lt_of_le rn.2.2.2.2.2.2.1 (Nat.pow_le_pow_right (by omega) (by omega))
    have e6 : 256 ^ 6 = 281474976710656 := by decide
    have a1 := rn.1
    have a7 := rn.2.2.2.2.1
    have fin : ∀ tk : Int, (0 ≤ tk ∧ tk ≤ 4) → tk = (if al = 0 ∨ (if sm = 1 then 6 else 2) < l + gd then 4 else if sm = 1 then 1 else 2) → PW (d + 1) 198 181 [some (.ref m), some (.int (iI c)), some (.int (iI sm)), some (.int (iI al))] [.int (iI tk), .ref m] g Q := fun tk tb ht => by
      refine vs_ok 2 ?_
      rw [show ((gRes 198).drop 181).take 2 = [.putfield 12170, .return_] from rfl]
      simp (disch := omega) only [vs_putfield, vs_return_, vs_nil, gv_0, gv_1, gv_2, gv_3, pv_0, pv_1, va_rf_s, Nat.reduceDiv, Nat.reduceMod, Nat.reduceAdd, Nat.reduceMul, Int.reduceToNat, true_and, and_true, and_self, cP_eq, cP_ne, cP_lt, cP_ge, cP_gt, cP_le, eL_i, eL_l, eL_r, eL_n, Option.toList_none, Option.toList_some, List.nil_append, List.cons_append, kkI, llI, nnI, rrI, jjI, kkJ, llJ, nnJ, rrJ, iiJ, zIIs, zJJs, nEF, nET, and_false, false_and, jmin, jmax, catS_n, catS_i, catS_r, catS_l, Nat.reduceLeDiff, j1eq1, n21, jt0, jt1, Bool.false_eq_true, Classical.not_not, true_or, or_true, false_or, or_false, true_imp_iff, false_imp_iff, not_true_eq_false, not_false_eq_true, jif0, jif1, jifb, ltT, ltF, leT, leF, eqT, eqF, jlt, jle, jeq, jlt0, jle0, jeq0, jge0, jgt0, jinB, jnat, clt, cle, ceq, cgt, cge, lI_add, lI_sub, lI_mul, jadd, jsub, jmul, jneg, jtol, b010, b011, pv_2t, Int.toNat_natCast, Option.some.injEq, exists_eq_left', if_true, if_false, M, show gRc 198 = 0 from rfl]
      have c1 : nxC h (zsI g m 17 (iI tk)) m := c0.I (by omega)
      refine hq _ c1 ⟨i, tk, p2, nu, wo, xg.of ((nxC.rf (h := g)).I (by omega)) ?_ ip, ?_, tb, ?_, ?_, g23, ⟨⟨by omega, hp2⟩, ⟨by omega, by omega⟩, by omega, by omega⟩, rn_tk rn he ht⟩
      · rw [zI_s, if_neg (by omega)]; exact xg.2.2.2.1
      · rw [zI_s, if_pos ⟨rfl, rfl⟩]
      · rw [zI_s, if_neg (by omega)]; exact g18
      · rw [zI_s, if_neg (by omega)]; exact g20
    have no : (al = 0 ∨ (if sm = 1 then 6 else 2) < l + gd) → PW (d + 1) 198 174 [some (.ref m), some (.int (iI c)), some (.int (iI sm)), some (.int (iI al))] [.ref m] g Q := fun z => by
      refine vs_ok 2 ?_
      rw [show ((gRes 198).drop 174).take 2 = [.iconst 4, .goto 181] from rfl]
      simp (disch := omega) only [vs_iconst, vs_goto, vs_nil, gv_0, gv_1, gv_2, gv_3, pv_0, pv_1, va_rf_s, Nat.reduceDiv, Nat.reduceMod, Nat.reduceAdd, Nat.reduceMul, Int.reduceToNat, true_and, and_true, and_self, cP_eq, cP_ne, cP_lt, cP_ge, cP_gt, cP_le, eL_i, eL_l, eL_r, eL_n, Option.toList_none, Option.toList_some, List.nil_append, List.cons_append, kkI, llI, nnI, rrI, jjI, kkJ, llJ, nnJ, rrJ, iiJ, zIIs, zJJs, nEF, nET, and_false, false_and, jmin, jmax, catS_n, catS_i, catS_r, catS_l, Nat.reduceLeDiff, j1eq1, n21, jt0, jt1, Bool.false_eq_true, Classical.not_not, true_or, or_true, false_or, or_false, true_imp_iff, false_imp_iff, not_true_eq_false, not_false_eq_true, jif0, jif1, jifb, ltT, ltF, leT, leF, eqT, eqF, jlt, jle, jeq, jlt0, jle0, jeq0, jge0, jgt0, jinB, jnat, clt, cle, ceq, cgt, cge, lI_add, lI_sub, lI_mul, jadd, jsub, jmul, jneg, jtol, b010, b011, pv_2t, Int.toNat_natCast, Option.some.injEq, exists_eq_left', if_true, if_false]
      exact fin 4 (by omega) (if_pos z).symm
    by_cases ca : al = 0
    · refine vs_ok 3 ?_
      rw [show ((gRes 198).drop 163).take 3 = [.aload 0, .iload 3, .ifCond .eq 174] from rfl]
      simp (disch := omega) only [vs_ifCond, vs_aload0, vs_iload3, vs_nil, gv_0, gv_1, gv_2, gv_3, pv_0, pv_1, va_rf_s, Nat.reduceDiv, Nat.reduceMod, Nat.reduceAdd, Nat.reduceMul, Int.reduceToNat, true_and, and_true, and_self, cP_eq, cP_ne, cP_lt, cP_ge, cP_gt, cP_le, eL_i, eL_l, eL_r, eL_n, Option.toList_none, Option.toList_some, List.nil_append, List.cons_append, kkI, llI, nnI, rrI, jjI, kkJ, llJ, nnJ, rrJ, iiJ, zIIs, zJJs, nEF, nET, and_false, false_and, jmin, jmax, catS_n, catS_i, catS_r, catS_l, Nat.reduceLeDiff, j1eq1, n21, jt0, jt1, Bool.false_eq_true, Classical.not_not, true_or, or_true, false_or, or_false, true_imp_iff, false_imp_iff, not_true_eq_false, not_false_eq_true, jif0, jif1, jifb, ltT, ltF, leT, leF, eqT, eqF, jlt, jle, jeq, jlt0, jle0, jeq0, jge0, jgt0, jinB, jnat, clt, cle, ceq, cgt, cge, lI_add, lI_sub, lI_mul, jadd, jsub, jmul, jneg, jtol, b010, b011, pv_2t, Int.toNat_natCast, Option.some.injEq, exists_eq_left', if_true, if_false]
      exact no (Or.inl ca)
    · have ca1 : al = 1 := by
        rw [a7] at ca ⊢
        split
        · rfl
        · rename_i z
          rw [if_neg z] at ca
          exact absurd rfl ca
      refine vs_ok 3 ?_
      rw [show ((gRes 198).drop 163).take 3 = [.aload 0, .iload 3, .ifCond .eq 174] from rfl]
      simp (disch := omega) only [vs_ifCond, vs_aload0, vs_iload3, vs_nil, gv_0, gv_1, gv_2, gv_3, pv_0, pv_1, va_rf_s, Nat.reduceDiv, Nat.reduceMod, Nat.reduceAdd, Nat.reduceMul, Int.reduceToNat, true_and, and_true, and_self, cP_eq, cP_ne, cP_lt, cP_ge, cP_gt, cP_le, eL_i, eL_l, eL_r, eL_n, Option.toList_none, Option.toList_some, List.nil_append, List.cons_append, kkI, llI, nnI, rrI, jjI, kkJ, llJ, nnJ, rrJ, iiJ, zIIs, zJJs, nEF, nET, and_false, false_and, jmin, jmax, catS_n, catS_i, catS_r, catS_l, Nat.reduceLeDiff, j1eq1, n21, jt0, jt1, Bool.false_eq_true, Classical.not_not, true_or, or_true, false_or, or_false, true_imp_iff, false_imp_iff, not_true_eq_false, not_false_eq_true, jif0, jif1, jifb, ltT, ltF, leT, leF, eqT, eqF, jlt, jle, jeq, jlt0, jle0, jeq0, jge0, jgt0, jinB, jnat, clt, cle, ceq, cgt, cge, lI_add, lI_sub, lI_mul, jadd, jsub, jmul, jneg, jtol, b010, b011, pv_2t, Int.toNat_natCast, Option.some.injEq, exists_eq_left', if_true, if_false]
      rcases rn.2.1 with s1 | s0
      · refine vs_ok 4 ?_
        rw [show ((gRes 198).drop 166).take 4 = [.aload 0, .getfield 12190, .iload 2, .ifCond .eq 172] from rfl]
        simp (disch := omega) only [vs_ifCond, vs_getfield, vs_aload0, vs_iload2, vs_nil, gv_0, gv_1, gv_2, gv_3, pv_0, pv_1, va_rf_s, Nat.reduceDiv, Nat.reduceMod, Nat.reduceAdd, Nat.reduceMul, Int.reduceToNat, true_and, and_true, and_self, cP_eq, cP_ne, cP_lt, cP_ge, cP_gt, cP_le, eL_i, eL_l, eL_r, eL_n, Option.toList_none, Option.toList_some, List.nil_append, List.cons_append, kkI, llI, nnI, rrI, jjI, kkJ, llJ, nnJ, rrJ, iiJ, zIIs, zJJs, nEF, nET, and_false, false_and, jmin, jmax, catS_n, catS_i, catS_r, catS_l, Nat.reduceLeDiff, j1eq1, n21, jt0, jt1, Bool.false_eq_true, Classical.not_not, true_or, or_true, false_or, or_false, true_imp_iff, false_imp_iff, not_true_eq_false, not_false_eq_true, jif0, jif1, jifb, ltT, ltF, leT, leF, eqT, eqF, jlt, jle, jeq, jlt0, jle0, jeq0, jge0, jgt0, jinB, jnat, clt, cle, ceq, cgt, cge, lI_add, lI_sub, lI_mul, jadd, jsub, jmul, jneg, jtol, b010, b011, pv_2t, Int.toNat_natCast, Option.some.injEq, exists_eq_left', if_true, if_false, M, g19]
        refine vs_ok 2 ?_
        rw [show ((gRes 198).drop 170).take 2 = [.iconst 6, .goto 173] from rfl]
        simp (disch := omega) only [vs_iconst, vs_goto, vs_nil, gv_0, gv_1, gv_2, gv_3, pv_0, pv_1, va_rf_s, Nat.reduceDiv, Nat.reduceMod, Nat.reduceAdd, Nat.reduceMul, Int.reduceToNat, true_and, and_true, and_self, cP_eq, cP_ne, cP_lt, cP_ge, cP_gt, cP_le, eL_i, eL_l, eL_r, eL_n, Option.toList_none, Option.toList_some, List.nil_append, List.cons_append, kkI, llI, nnI, rrI, jjI, kkJ, llJ, nnJ, rrJ, iiJ, zIIs, zJJs, nEF, nET, and_false, false_and, jmin, jmax, catS_n, catS_i, catS_r, catS_l, Nat.reduceLeDiff, j1eq1, n21, jt0, jt1, Bool.false_eq_true, Classical.not_not, true_or, or_true, false_or, or_false, true_imp_iff, false_imp_iff, not_true_eq_false, not_false_eq_true, jif0, jif1, jifb, ltT, ltF, leT, leF, eqT, eqF, jlt, jle, jeq, jlt0, jle0, jeq0, jge0, jgt0, jinB, jnat, clt, cle, ceq, cgt, cge, lI_add, lI_sub, lI_mul, jadd, jsub, jmul, jneg, jtol, b010, b011, pv_2t, Int.toNat_natCast, Option.some.injEq, exists_eq_left', if_true, if_false]
        by_cases c6 : l + gd ≤ 6
        · refine vs_ok 1 ?_
          rw [show ((gRes 198).drop 173).take 1 = [.if_icmp .le 176] from rfl]
          simp (disch := omega) only [vs_if_icmp, vs_nil, gv_0, gv_1, gv_2, gv_3, pv_0, pv_1, va_rf_s, Nat.reduceDiv, Nat.reduceMod, Nat.reduceAdd, Nat.reduceMul, Int.reduceToNat, true_and, and_true, and_self, cP_eq, cP_ne, cP_lt, cP_ge, cP_gt, cP_le, eL_i, eL_l, eL_r, eL_n, Option.toList_none, Option.toList_some, List.nil_append, List.cons_append, kkI, llI, nnI, rrI, jjI, kkJ, llJ, nnJ, rrJ, iiJ, zIIs, zJJs, nEF, nET, and_false, false_and, jmin, jmax, catS_n, catS_i, catS_r, catS_l, Nat.reduceLeDiff, j1eq1, n21, jt0, jt1, Bool.false_eq_true, Classical.not_not, true_or, or_true, false_or, or_false, true_imp_iff, false_imp_iff, not_true_eq_false, not_false_eq_true, jif0, jif1, jifb, ltT, ltF, leT, leF, eqT, eqF, jlt, jle, jeq, jlt0, jle0, jeq0, jge0, jgt0, jinB, jnat, clt, cle, ceq, cgt, cge, lI_add, lI_sub, lI_mul, jadd, jsub, jmul, jneg, jtol, b010, b011, pv_2t, Int.toNat_natCast, Option.some.injEq, exists_eq_left', if_true, if_false]
          refine vs_ok 2 ?_
          rw [show ((gRes 198).drop 176).take 2 = [.iload 2, .ifCond .eq 180] from rfl]
          simp (disch := omega) only [vs_ifCond, vs_iload2, vs_nil, gv_0, gv_1, gv_2, gv_3, pv_0, pv_1, va_rf_s, Nat.reduceDiv, Nat.reduceMod, Nat.reduceAdd, Nat.reduceMul, Int.reduceToNat, true_and, and_true, and_self, cP_eq, cP_ne, cP_lt, cP_ge, cP_gt, cP_le, eL_i, eL_l, eL_r, eL_n, Option.toList_none, Option.toList_some, List.nil_append, List.cons_append, kkI, llI, nnI, rrI, jjI, kkJ, llJ, nnJ, rrJ, iiJ, zIIs, zJJs, nEF, nET, and_false, false_and, jmin, jmax, catS_n, catS_i, catS_r, catS_l, Nat.reduceLeDiff, j1eq1, n21, jt0, jt1, Bool.false_eq_true, Classical.not_not, true_or, or_true, false_or, or_false, true_imp_iff, false_imp_iff, not_true_eq_false, not_false_eq_true, jif0, jif1, jifb, ltT, ltF, leT, leF, eqT, eqF, jlt, jle, jeq, jlt0, jle0, jeq0, jge0, jgt0, jinB, jnat, clt, cle, ceq, cgt, cge, lI_add, lI_sub, lI_mul, jadd, jsub, jmul, jneg, jtol, b010, b011, pv_2t, Int.toNat_natCast, Option.some.injEq, exists_eq_left', if_true, if_false]
          refine vs_ok 2 ?_
          rw [show ((gRes 198).drop 178).take 2 = [.iconst 1, .goto 181] from rfl]
          simp (disch := omega) only [vs_iconst, vs_goto, vs_nil, gv_0, gv_1, gv_2, gv_3, pv_0, pv_1, va_rf_s, Nat.reduceDiv, Nat.reduceMod, Nat.reduceAdd, Nat.reduceMul, Int.reduceToNat, true_and, and_true, and_self, cP_eq, cP_ne, cP_lt, cP_ge, cP_gt, cP_le, eL_i, eL_l, eL_r, eL_n, Option.toList_none, Option.toList_some, List.nil_append, List.cons_append, kkI, llI, nnI, rrI, jjI, kkJ, llJ, nnJ, rrJ, iiJ, zIIs, zJJs, nEF, nET, and_false, false_and, jmin, jmax, catS_n, catS_i, catS_r, catS_l, Nat.reduceLeDiff, j1eq1, n21, jt0, jt1, Bool.false_eq_true, Classical.not_not, true_or, or_true, false_or, or_false, true_imp_iff, false_imp_iff, not_true_eq_false, not_false_eq_true, jif0, jif1, jifb, ltT, ltF, leT, leF, eqT, eqF, jlt, jle, jeq, jlt0, jle0, jeq0, jge0, jgt0, jinB, jnat, clt, cle, ceq, cgt, cge, lI_add, lI_sub, lI_mul, jadd, jsub, jmul, jneg, jtol, b010, b011, pv_2t, Int.toNat_natCast, Option.some.injEq, exists_eq_left', if_true, if_false]
          exact fin 1 (by omega) (by rw [if_neg (by rw [if_pos s1]; omega), if_pos s1])
        · refine vs_ok 1 ?_
          rw [show ((gRes 198).drop 173).take 1 = [.if_icmp .le 176] from rfl]
          simp (disch := omega) only [vs_if_icmp, vs_nil, gv_0, gv_1, gv_2, gv_3, pv_0, pv_1, va_rf_s, Nat.reduceDiv, Nat.reduceMod, Nat.reduceAdd, Nat.reduceMul, Int.reduceToNat, true_and, and_true, and_self, cP_eq, cP_ne, cP_lt, cP_ge, cP_gt, cP_le, eL_i, eL_l, eL_r, eL_n, Option.toList_none, Option.toList_some, List.nil_append, List.cons_append, kkI, llI, nnI, rrI, jjI, kkJ, llJ, nnJ, rrJ, iiJ, zIIs, zJJs, nEF, nET, and_false, false_and, jmin, jmax, catS_n, catS_i, catS_r, catS_l, Nat.reduceLeDiff, j1eq1, n21, jt0, jt1, Bool.false_eq_true, Classical.not_not, true_or, or_true, false_or, or_false, true_imp_iff, false_imp_iff, not_true_eq_false, not_false_eq_true, jif0, jif1, jifb, ltT, ltF, leT, leF, eqT, eqF, jlt, jle, jeq, jlt0, jle0, jeq0, jge0, jgt0, jinB, jnat, clt, cle, ceq, cgt, cge, lI_add, lI_sub, lI_mul, jadd, jsub, jmul, jneg, jtol, b010, b011, pv_2t, Int.toNat_natCast, Option.some.injEq, exists_eq_left', if_true, if_false]
          exact no (Or.inr (by rw [if_pos s1]; omega))
      · refine vs_ok 4 ?_
        rw [show ((gRes 198).drop 166).take 4 = [.aload 0, .getfield 12190, .iload 2, .ifCond .eq 172] from rfl]
        simp (disch := omega) only [vs_ifCond, vs_getfield, vs_aload0, vs_iload2, vs_nil, gv_0, gv_1, gv_2, gv_3, pv_0, pv_1, va_rf_s, Nat.reduceDiv, Nat.reduceMod, Nat.reduceAdd, Nat.reduceMul, Int.reduceToNat, true_and, and_true, and_self, cP_eq, cP_ne, cP_lt, cP_ge, cP_gt, cP_le, eL_i, eL_l, eL_r, eL_n, Option.toList_none, Option.toList_some, List.nil_append, List.cons_append, kkI, llI, nnI, rrI, jjI, kkJ, llJ, nnJ, rrJ, iiJ, zIIs, zJJs, nEF, nET, and_false, false_and, jmin, jmax, catS_n, catS_i, catS_r, catS_l, Nat.reduceLeDiff, j1eq1, n21, jt0, jt1, Bool.false_eq_true, Classical.not_not, true_or, or_true, false_or, or_false, true_imp_iff, false_imp_iff, not_true_eq_false, not_false_eq_true, jif0, jif1, jifb, ltT, ltF, leT, leF, eqT, eqF, jlt, jle, jeq, jlt0, jle0, jeq0, jge0, jgt0, jinB, jnat, clt, cle, ceq, cgt, cge, lI_add, lI_sub, lI_mul, jadd, jsub, jmul, jneg, jtol, b010, b011, pv_2t, Int.toNat_natCast, Option.some.injEq, exists_eq_left', if_true, if_false, M, g19]
        refine vs_ok 1 ?_
        rw [show ((gRes 198).drop 172).take 1 = [.iconst 2] from rfl]
        simp (disch := omega) only [vs_iconst, vs_nil, gv_0, gv_1, gv_2, gv_3, pv_0, pv_1, va_rf_s, Nat.reduceDiv, Nat.reduceMod, Nat.reduceAdd, Nat.reduceMul, Int.reduceToNat, true_and, and_true, and_self, cP_eq, cP_ne, cP_lt, cP_ge, cP_gt, cP_le, eL_i, eL_l, eL_r, eL_n, Option.toList_none, Option.toList_some, List.nil_append, List.cons_append, kkI, llI, nnI, rrI, jjI, kkJ, llJ, nnJ, rrJ, iiJ, zIIs, zJJs, nEF, nET, and_false, false_and, jmin, jmax, catS_n, catS_i, catS_r, catS_l, Nat.reduceLeDiff, j1eq1, n21, jt0, jt1, Bool.false_eq_true, Classical.not_not, true_or, or_true, false_or, or_false, true_imp_iff, false_imp_iff, not_true_eq_false, not_false_eq_true, jif0, jif1, jifb, ltT, ltF, leT, leF, eqT, eqF, jlt, jle, jeq, jlt0, jle0, jeq0, jge0, jgt0, jinB, jnat, clt, cle, ceq, cgt, cge, lI_add, lI_sub, lI_mul, jadd, jsub, jmul, jneg, jtol, b010, b011, pv_2t, Int.toNat_natCast, Option.some.injEq, exists_eq_left', if_true, if_false]
        by_cases c6 : l + gd ≤ 2
        · refine vs_ok 1 ?_
          rw [show ((gRes 198).drop 173).take 1 = [.if_icmp .le 176] from rfl]
          simp (disch := omega) only [vs_if_icmp, vs_nil, gv_0, gv_1, gv_2, gv_3, pv_0, pv_1, va_rf_s, Nat.reduceDiv, Nat.reduceMod, Nat.reduceAdd, Nat.reduceMul, Int.reduceToNat, true_and, and_true, and_self, cP_eq, cP_ne, cP_lt, cP_ge, cP_gt, cP_le, eL_i, eL_l, eL_r, eL_n, Option.toList_none, Option.toList_some, List.nil_append, List.cons_append, kkI, llI, nnI, rrI, jjI, kkJ, llJ, nnJ, rrJ, iiJ, zIIs, zJJs, nEF, nET, and_false, false_and, jmin, jmax, catS_n, catS_i, catS_r, catS_l, Nat.reduceLeDiff, j1eq1, n21, jt0, jt1, Bool.false_eq_true, Classical.not_not, true_or, or_true, false_or, or_false, true_imp_iff, false_imp_iff, not_true_eq_false, not_false_eq_true, jif0, jif1, jifb, ltT, ltF, leT, leF, eqT, eqF, jlt, jle, jeq, jlt0, jle0, jeq0, jge0, jgt0, jinB, jnat, clt, cle, ceq, cgt, cge, lI_add, lI_sub, lI_mul, jadd, jsub, jmul, jneg, jtol, b010, b011, pv_2t, Int.toNat_natCast, Option.some.injEq, exists_eq_left', if_true, if_false]
          refine vs_ok 2 ?_
          rw [show ((gRes 198).drop 176).take 2 = [.iload 2, .ifCond .eq 180] from rfl]
          simp (disch := omega) only [vs_ifCond, vs_iload2, vs_nil, gv_0, gv_1, gv_2, gv_3, pv_0, pv_1, va_rf_s, Nat.reduceDiv, Nat.reduceMod, Nat.reduceAdd, Nat.reduceMul, Int.reduceToNat, true_and, and_true, and_self, cP_eq, cP_ne, cP_lt, cP_ge, cP_gt, cP_le, eL_i, eL_l, eL_r, eL_n, Option.toList_none, Option.toList_some, List.nil_append, List.cons_append, kkI, llI, nnI, rrI, jjI, kkJ, llJ, nnJ, rrJ, iiJ, zIIs, zJJs, nEF, nET, and_false, false_and, jmin, jmax, catS_n, catS_i, catS_r, catS_l, Nat.reduceLeDiff, j1eq1, n21, jt0, jt1, Bool.false_eq_true, Classical.not_not, true_or, or_true, false_or, or_false, true_imp_iff, false_imp_iff, not_true_eq_false, not_false_eq_true, jif0, jif1, jifb, ltT, ltF, leT, leF, eqT, eqF, jlt, jle, jeq, jlt0, jle0, jeq0, jge0, jgt0, jinB, jnat, clt, cle, ceq, cgt, cge, lI_add, lI_sub, lI_mul, jadd, jsub, jmul, jneg, jtol, b010, b011, pv_2t, Int.toNat_natCast, Option.some.injEq, exists_eq_left', if_true, if_false]
          refine vs_ok 1 ?_
          rw [show ((gRes 198).drop 180).take 1 = [.iconst 2] from rfl]
          simp (disch := omega) only [vs_iconst, vs_nil, gv_0, gv_1, gv_2, gv_3, pv_0, pv_1, va_rf_s, Nat.reduceDiv, Nat.reduceMod, Nat.reduceAdd, Nat.reduceMul, Int.reduceToNat, true_and, and_true, and_self, cP_eq, cP_ne, cP_lt, cP_ge, cP_gt, cP_le, eL_i, eL_l, eL_r, eL_n, Option.toList_none, Option.toList_some, List.nil_append, List.cons_append, kkI, llI, nnI, rrI, jjI, kkJ, llJ, nnJ, rrJ, iiJ, zIIs, zJJs, nEF, nET, and_false, false_and, jmin, jmax, catS_n, catS_i, catS_r, catS_l, Nat.reduceLeDiff, j1eq1, n21, jt0, jt1, Bool.false_eq_true, Classical.not_not, true_or, or_true, false_or, or_false, true_imp_iff, false_imp_iff, not_true_eq_false, not_false_eq_true, jif0, jif1, jifb, ltT, ltF, leT, leF, eqT, eqF, jlt, jle, jeq, jlt0, jle0, jeq0, jge0, jgt0, jinB, jnat, clt, cle, ceq, cgt, cge, lI_add, lI_sub, lI_mul, jadd, jsub, jmul, jneg, jtol, b010, b011, pv_2t, Int.toNat_natCast, Option.some.injEq, exists_eq_left', if_true, if_false]
          exact fin 2 (by omega) (by rw [if_neg (by rw [if_neg (by omega)]; omega), if_neg (by omega)])
        · refine vs_ok 1 ?_
          rw [show ((gRes 198).drop 173).take 1 = [.if_icmp .le 176] from rfl]
          simp (disch := omega) only [vs_if_icmp, vs_nil, gv_0, gv_1, gv_2, gv_3, pv_0, pv_1, va_rf_s, Nat.reduceDiv, Nat.reduceMod, Nat.reduceAdd, Nat.reduceMul, Int.reduceToNat, true_and, and_true, and_self, cP_eq, cP_ne, cP_lt, cP_ge, cP_gt, cP_le, eL_i, eL_l, eL_r, eL_n, Option.toList_none, Option.toList_some, List.nil_append, List.cons_append, kkI, llI, nnI, rrI, jjI, kkJ, llJ, nnJ, rrJ, iiJ, zIIs, zJJs, nEF, nET, and_false, false_and, jmin, jmax, catS_n, catS_i, catS_r, catS_l, Nat.reduceLeDiff, j1eq1, n21, jt0, jt1, Bool.false_eq_true, Classical.not_not, true_or, or_true, false_or, or_false, true_imp_iff, false_imp_iff, not_true_eq_false, not_false_eq_true, jif0, jif1, jifb, ltT, ltF, leT, leF, eqT, eqF, jlt, jle, jeq, jlt0, jle0, jeq0, jge0, jgt0, jinB, jnat, clt, cle, ceq, cgt, cge, lI_add, lI_sub, lI_mul, jadd, jsub, jmul, jneg, jtol, b010, b011, pv_2t, Int.toNat_natCast, Option.some.injEq, exists_eq_left', if_true, if_false]
          exact no (Or.inr (by rw [if_neg (by omega)]; omega))
  intro k
  induction k with
  | zero =>
    intro i l gd w n wo nu al g hk rh rn hF
    have hk : i = sz := by omega
    have M := rh.2.1.1.k
    have e : pkB B sz i = -1 := if_neg (by omega)
    have hB := rh.2.1.2.2.2.2.2.2
    have bv : byV B sz i = 0 := if_neg (by omega)
    refine vs_ok 1 ?_
    rw [show ((gRes 198).drop 102).take 1 = [.aload 0] from rfl]
    simp (disch := omega) only [vs_aload0, vs_nil, gv_0, gv_1, gv_2, gv_3, pv_0, pv_1, va_rf_s, Nat.reduceDiv, Nat.reduceMod, Nat.reduceAdd, Nat.reduceMul, Int.reduceToNat, true_and, and_true, and_self, cP_eq, cP_ne, cP_lt, cP_ge, cP_gt, cP_le, eL_i, eL_l, eL_r, eL_n, Option.toList_none, Option.toList_some, List.nil_append, List.cons_append, kkI, llI, nnI, rrI, jjI, kkJ, llJ, nnJ, rrJ, iiJ, zIIs, zJJs, nEF, nET, and_false, false_and, jmin, jmax, catS_n, catS_i, catS_r, catS_l, Nat.reduceLeDiff, j1eq1, n21, jt0, jt1, Bool.false_eq_true, Classical.not_not, true_or, or_true, false_or, or_false, true_imp_iff, false_imp_iff, not_true_eq_false, not_false_eq_true, jif0, jif1, jifb, ltT, ltF, leT, leF, eqT, eqF, jlt, jle, jeq, jlt0, jle0, jeq0, jge0, jgt0, jinB, jnat, clt, cle, ceq, cgt, cge, lI_add, lI_sub, lI_mul, jadd, jsub, jmul, jneg, jtol, b010, b011, pv_2t, Int.toNat_natCast, Option.some.injEq, exists_eq_left', if_true, if_false]
    refine PW.iv rfl rfl rfl M.1 M.2 (le_b rfl) (le_b rfl) ?_
    refine t_peek rh.2.1 ⟨rfl, ⟨rfl, rfl⟩, ?_⟩
    refine PW.ss (r := []) rfl (le_b rfl) rfl rfl (le_b rfl) (le_b rfl) ?_
    refine t_M_isSmall (pkB_b hB) ⟨rfl, ⟨rfl, rfl⟩, ?_⟩
    rw [if_neg (by omega)]
    refine vs_ok 1 ?_
    rw [show ((gRes 198).drop 105).take 1 = [.ifCond .ne 110] from rfl]
    simp (disch := omega) only [vs_ifCond, vs_nil, gv_0, gv_1, gv_2, gv_3, pv_0, pv_1, va_rf_s, Nat.reduceDiv, Nat.reduceMod, Nat.reduceAdd, Nat.reduceMul, Int.reduceToNat, true_and, and_true, and_self, cP_eq, cP_ne, cP_lt, cP_ge, cP_gt, cP_le, eL_i, eL_l, eL_r, eL_n, Option.toList_none, Option.toList_some, List.nil_append, List.cons_append, kkI, llI, nnI, rrI, jjI, kkJ, llJ, nnJ, rrJ, iiJ, zIIs, zJJs, nEF, nET, and_false, false_and, jmin, jmax, catS_n, catS_i, catS_r, catS_l, Nat.reduceLeDiff, j1eq1, n21, jt0, jt1, Bool.false_eq_true, Classical.not_not, true_or, or_true, false_or, or_false, true_imp_iff, false_imp_iff, not_true_eq_false, not_false_eq_true, jif0, jif1, jifb, ltT, ltF, leT, leF, eqT, eqF, jlt, jle, jeq, jlt0, jle0, jeq0, jge0, jgt0, jinB, jnat, clt, cle, ceq, cgt, cge, lI_add, lI_sub, lI_mul, jadd, jsub, jmul, jneg, jtol, b010, b011, pv_2t, Int.toNat_natCast, Option.some.injEq, exists_eq_left', if_true, if_false]
    refine vs_ok 1 ?_
    rw [show ((gRes 198).drop 106).take 1 = [.aload 0] from rfl]
    simp (disch := omega) only [vs_aload0, vs_nil, gv_0, gv_1, gv_2, gv_3, pv_0, pv_1, va_rf_s, Nat.reduceDiv, Nat.reduceMod, Nat.reduceAdd, Nat.reduceMul, Int.reduceToNat, true_and, and_true, and_self, cP_eq, cP_ne, cP_lt, cP_ge, cP_gt, cP_le, eL_i, eL_l, eL_r, eL_n, Option.toList_none, Option.toList_some, List.nil_append, List.cons_append, kkI, llI, nnI, rrI, jjI, kkJ, llJ, nnJ, rrJ, iiJ, zIIs, zJJs, nEF, nET, and_false, false_and, jmin, jmax, catS_n, catS_i, catS_r, catS_l, Nat.reduceLeDiff, j1eq1, n21, jt0, jt1, Bool.false_eq_true, Classical.not_not, true_or, or_true, false_or, or_false, true_imp_iff, false_imp_iff, not_true_eq_false, not_false_eq_true, jif0, jif1, jifb, ltT, ltF, leT, leF, eqT, eqF, jlt, jle, jeq, jlt0, jle0, jeq0, jge0, jgt0, jinB, jnat, clt, cle, ceq, cgt, cge, lI_add, lI_sub, lI_mul, jadd, jsub, jmul, jneg, jtol, b010, b011, pv_2t, Int.toNat_natCast, Option.some.injEq, exists_eq_left', if_true, if_false]
    refine PW.iv rfl rfl rfl M.1 M.2 (le_b rfl) (le_b rfl) ?_
    refine t_peek rh.2.1 ⟨rfl, ⟨rfl, rfl⟩, ?_⟩
    refine PW.ss (r := []) rfl (le_b rfl) rfl rfl (le_b rfl) (le_b rfl) ?_
    refine t_M_isDigit (pkB_b hB) ⟨rfl, ⟨rfl, rfl⟩, ?_⟩
    rw [if_neg (by omega)]
    refine vs_ok 1 ?_
    rw [show ((gRes 198).drop 109).take 1 = [.ifCond .eq 163] from rfl]
    simp (disch := omega) only [vs_ifCond, vs_nil, gv_0, gv_1, gv_2, gv_3, pv_0, pv_1, va_rf_s, Nat.reduceDiv, Nat.reduceMod, Nat.reduceAdd, Nat.reduceMul, Int.reduceToNat, true_and, and_true, and_self, cP_eq, cP_ne, cP_lt, cP_ge, cP_gt, cP_le, eL_i, eL_l, eL_r, eL_n, Option.toList_none, Option.toList_some, List.nil_append, List.cons_append, kkI, llI, nnI, rrI, jjI, kkJ, llJ, nnJ, rrJ, iiJ, zIIs, zJJs, nEF, nET, and_false, false_and, jmin, jmax, catS_n, catS_i, catS_r, catS_l, Nat.reduceLeDiff, j1eq1, n21, jt0, jt1, Bool.false_eq_true, Classical.not_not, true_or, or_true, false_or, or_false, true_imp_iff, false_imp_iff, not_true_eq_false, not_false_eq_true, jif0, jif1, jifb, ltT, ltF, leT, leF, eqT, eqF, jlt, jle, jeq, jlt0, jle0, jeq0, jge0, jgt0, jinB, jnat, clt, cle, ceq, cgt, cge, lI_add, lI_sub, lI_mul, jadd, jsub, jmul, jneg, jtol, b010, b011, pv_2t, Int.toNat_natCast, Option.some.injEq, exists_eq_left', if_true, if_false]
    exact out i l gd w n wo nu al g rh rn (by omega) hF.symm
  | succ k ih =>
    intro i l gd w n wo nu al g hk rh rn hF
    have M := rh.2.1.1.k
    have hB := rh.2.1.2.2.2.2.2.2
    have sz1 := rh.2.1.2.2.1
    have e : pkB B sz i = byV B sz i := pkB_v (by omega)
    have bb := byV_b (len := sz) (i := i) hB
    obtain ⟨b, hb⟩ : ∃ b : Nat, byV B sz i = b := ⟨(byV B sz i).toNat, by omega⟩
    have nb := rn.2.2.2.2.2.2.2.2.1
    have wb : wo < 256 ^ 6 := Nat.lt_of_lt_of_le rn.2.2.2.2.2.2.1 (Nat.pow_le_pow_right (by omega) (by omega))
    have e6 : 256 ^ 6 = 281474976710656 := by decide
    have a1 := rn.1
    have a7 := rn.2.2.2.2.1
    rw [hb] at e
    -- behind the tests
    have body : ∀ (sb l' gd' w' n' : Int), (sb = if 97 ≤ (b : Int) ∧ (b : Int) ≤ 122 then 1 else 0) → l' + gd' = l + gd + 1 → riN B sz sm (i + 1) l' gd' w' n' (if l + gd < 6 then wo * 256 + b else wo) (if l + gd < 2 then 10 * nu + b - 48 else nu) (if al = 1 ∧ sm = sb then 1 else 0) → rnF B sz k (i + 1 : Nat) l' gd' w' n' = rnF B sz (sz - p2) p2 0 0 0 0 → PW (d + 1) 198 110 [some (.ref m), some (.int (iI c)), some (.int (iI sm)), some (.int (iI al))] [] g Q := by
      intro sb l' gd' w' n' hsb hlg rn' hF'
      have p150 : ∀ g1, riH h g1 m sz p2 i B (l + gd) (if l + gd < 2 then 10 * nu + b - 48 else nu) (if l + gd < 6 then wo * 256 + b else wo) → PW (d + 1) 198 150 [some (.ref m), some (.int (iI c)), some (.int (iI sm)), some (.int (iI (if al = 1 ∧ sm = sb then 1 else 0)))] [] g1 Q := by
        intro g1 ⟨c1, x1, y18, y19, y20, y23⟩
        have M1 := x1.1.k
        have y4 := x1.2.2.2.1
        have c2 : nxC g1 (zsI (zsI g1 m 19 (iI (l + gd + 1))) m 4 (iI ((i : Int) + 1))) m := ((nxC.rf).I (by omega)).I (by omega)
        refine vs_ok 13 ?_
        rw [show ((gRes 198).drop 150).take 13 = [.aload 0, .dup, .getfield 12190, .iconst 1, .iadd, .putfield 12190, .aload 0, .dup, .getfield 12040, .iconst 1, .iadd, .putfield 12040, .goto 102] from rfl]
        simp (disch := omega) only [vs_iadd, vs_iconst, vs_goto, vs_getfield, vs_putfield, vs_dupi, vs_dupr, vs_aload0, vs_nil, gv_0, gv_1, gv_2, gv_3, pv_0, pv_1, va_rf_s, Nat.reduceDiv, Nat.reduceMod, Nat.reduceAdd, Nat.reduceMul, Int.reduceToNat, true_and, and_true, and_self, cP_eq, cP_ne, cP_lt, cP_ge, cP_gt, cP_le, eL_i, eL_l, eL_r, eL_n, Option.toList_none, Option.toList_some, List.nil_append, List.cons_append, kkI, llI, nnI, rrI, jjI, kkJ, llJ, nnJ, rrJ, iiJ, zIIs, zJJs, nEF, nET, and_false, false_and, jmin, jmax, catS_n, catS_i, catS_r, catS_l, Nat.reduceLeDiff, j1eq1, n21, jt0, jt1, Bool.false_eq_true, Classical.not_not, true_or, or_true, false_or, or_false, true_imp_iff, false_imp_iff, not_true_eq_false, not_false_eq_true, jif0, jif1, jifb, ltT, ltF, leT, leF, eqT, eqF, jlt, jle, jeq, jlt0, jle0, jeq0, jge0, jgt0, jinB, jnat, clt, cle, ceq, cgt, cge, lI_add, lI_sub, lI_mul, jadd, jsub, jmul, jneg, jtol, b010, b011, pv_2t, Int.toNat_natCast, Option.some.injEq, exists_eq_left', if_true, if_false, M1, y19, y4]
        refine ih (i + 1) l' gd' w' n' _ _ _ _ (by omega) ⟨c1.tr c2, x1.of c2 (by rw [zI_s, if_pos ⟨rfl, rfl⟩]; rfl) (by omega), ?_, ?_, ?_, y23⟩ rn' hF'
        · rw [zI_s, if_neg (by omega), zI_s, if_neg (by omega)]; exact y18
        · rw [zI_s, if_neg (by omega), zI_s, if_pos ⟨rfl, rfl⟩, hlg]
        · rw [zI_s, if_neg (by omega), zI_s, if_neg (by omega)]; exact y20
      have p135 : ∀ g1, riH h g1 m sz p2 i B (l + gd) nu (if l + gd < 6 then wo * 256 + b else wo) → PW (d + 1) 198 135 [some (.ref m), some (.int (iI c)), some (.int (iI sm)), some (.int (iI (if al = 1 ∧ sm = sb then 1 else 0)))] [] g1 Q := by
        intro g1 ⟨c1, x1, y18, y19, y20, y23⟩
        have M1 := x1.1.k
        by_cases c2 : l + gd < 2
        · rw [if_pos c2] at p150
          refine vs_ok 4 ?_
          rw [show ((gRes 198).drop 135).take 4 = [.aload 0, .getfield 12190, .iconst 2, .if_icmp .ge 150] from rfl]
          simp (disch := omega) only [vs_iconst, vs_if_icmp, vs_getfield, vs_aload0, vs_nil, gv_0, gv_1, gv_2, gv_3, pv_0, pv_1, va_rf_s, Nat.reduceDiv, Nat.reduceMod, Nat.reduceAdd, Nat.reduceMul, Int.reduceToNat, true_and, and_true, and_self, cP_eq, cP_ne, cP_lt, cP_ge, cP_gt, cP_le, eL_i, eL_l, eL_r, eL_n, Option.toList_none, Option.toList_some, List.nil_append, List.cons_append, kkI, llI, nnI, rrI, jjI, kkJ, llJ, nnJ, rrJ, iiJ, zIIs, zJJs, nEF, nET, and_false, false_and, jmin, jmax, catS_n, catS_i, catS_r, catS_l, Nat.reduceLeDiff, j1eq1, n21, jt0, jt1, Bool.false_eq_true, Classical.not_not, true_or, or_true, false_or, or_false, true_imp_iff, false_imp_iff, not_true_eq_false, not_false_eq_true, jif0, jif1, jifb, ltT, ltF, leT, leF, eqT, eqF, jlt, jle, jeq, jlt0, jle0, jeq0, jge0, jgt0, jinB, jnat, clt, cle, ceq, cgt, cge, lI_add, lI_sub, lI_mul, jadd, jsub, jmul, jneg, jtol, b010, b011, pv_2t, Int.toNat_natCast, Option.some.injEq, exists_eq_left', if_true, if_false, M1, y19]
          refine vs_ok 6 ?_
          rw [show ((gRes 198).drop 139).take 6 = [.aload 0, .iconst 10, .aload 0, .getfield 12200, .imul, .aload 0] from rfl]
          simp (disch := omega) only [vs_imul, vs_iconst, vs_getfield, vs_aload0, vs_nil, gv_0, gv_1, gv_2, gv_3, pv_0, pv_1, va_rf_s, Nat.reduceDiv, Nat.reduceMod, Nat.reduceAdd, Nat.reduceMul, Int.reduceToNat, true_and, and_true, and_self, cP_eq, cP_ne, cP_lt, cP_ge, cP_gt, cP_le, eL_i, eL_l, eL_r, eL_n, Option.toList_none, Option.toList_some, List.nil_append, List.cons_append, kkI, llI, nnI, rrI, jjI, kkJ, llJ, nnJ, rrJ, iiJ, zIIs, zJJs, nEF, nET, and_false, false_and, jmin, jmax, catS_n, catS_i, catS_r, catS_l, Nat.reduceLeDiff, j1eq1, n21, jt0, jt1, Bool.false_eq_true, Classical.not_not, true_or, or_true, false_or, or_false, true_imp_iff, false_imp_iff, not_true_eq_false, not_false_eq_true, jif0, jif1, jifb, ltT, ltF, leT, leF, eqT, eqF, jlt, jle, jeq, jlt0, jle0, jeq0, jge0, jgt0, jinB, jnat, clt, cle, ceq, cgt, cge, lI_add, lI_sub, lI_mul, jadd, jsub, jmul, jneg, jtol, b010, b011, pv_2t, Int.toNat_natCast, Option.some.injEq, exists_eq_left', if_true, if_false, M1, y20]
          refine PW.iv rfl rfl rfl M1.1 M1.2 (le_b rfl) (le_b rfl) ?_
          refine t_peek x1 ⟨rfl, ⟨rfl, rfl⟩, ?_⟩
          rw [e]
          refine vs_ok 4 ?_
          rw [show ((gRes 198).drop 146).take 4 = [.iadd, .iconst 48, .isub, .putfield 12200] from rfl]
          simp (disch := omega) only [vs_iadd, vs_isub, vs_iconst, vs_putfield, vs_nil, gv_0, gv_1, gv_2, gv_3, pv_0, pv_1, va_rf_s, Nat.reduceDiv, Nat.reduceMod, Nat.reduceAdd, Nat.reduceMul, Int.reduceToNat, true_and, and_true, and_self, cP_eq, cP_ne, cP_lt, cP_ge, cP_gt, cP_le, eL_i, eL_l, eL_r, eL_n, Option.toList_none, Option.toList_some, List.nil_append, List.cons_append, kkI, llI, nnI, rrI, jjI, kkJ, llJ, nnJ, rrJ, iiJ, zIIs, zJJs, nEF, nET, and_false, false_and, jmin, jmax, catS_n, catS_i, catS_r, catS_l, Nat.reduceLeDiff, j1eq1, n21, jt0, jt1, Bool.false_eq_true, Classical.not_not, true_or, or_true, false_or, or_false, true_imp_iff, false_imp_iff, not_true_eq_false, not_false_eq_true, jif0, jif1, jifb, ltT, ltF, leT, leF, eqT, eqF, jlt, jle, jeq, jlt0, jle0, jeq0, jge0, jgt0, jinB, jnat, clt, cle, ceq, cgt, cge, lI_add, lI_sub, lI_mul, jadd, jsub, jmul, jneg, jtol, b010, b011, pv_2t, Int.toNat_natCast, Option.some.injEq, exists_eq_left', if_true, if_false, M1]
          have c3 : nxC g1 (zsI g1 m 20 (iI (10 * nu + b - 48))) m := (nxC.rf).I (by omega)
          refine p150 _ ⟨c1.tr c3, x1.of c3 (by rw [zI_s, if_neg (by omega)]; exact x1.2.2.2.1) x1.2.2.2.2.1, ?_, ?_, ?_, y23⟩
          · rw [zI_s, if_neg (by omega)]; exact y18
          · rw [zI_s, if_neg (by omega)]; exact y19
          · rw [zI_s, if_pos ⟨rfl, rfl⟩]
        · rw [if_neg c2] at p150
          refine vs_ok 4 ?_
          rw [show ((gRes 198).drop 135).take 4 = [.aload 0, .getfield 12190, .iconst 2, .if_icmp .ge 150] from rfl]
          simp (disch := omega) only [vs_iconst, vs_if_icmp, vs_getfield, vs_aload0, vs_nil, gv_0, gv_1, gv_2, gv_3, pv_0, pv_1, va_rf_s, Nat.reduceDiv, Nat.reduceMod, Nat.reduceAdd, Nat.reduceMul, Int.reduceToNat, true_and, and_true, and_self, cP_eq, cP_ne, cP_lt, cP_ge, cP_gt, cP_le, eL_i, eL_l, eL_r, eL_n, Option.toList_none, Option.toList_some, List.nil_append, List.cons_append, kkI, llI, nnI, rrI, jjI, kkJ, llJ, nnJ, rrJ, iiJ, zIIs, zJJs, nEF, nET, and_false, false_and, jmin, jmax, catS_n, catS_i, catS_r, catS_l, Nat.reduceLeDiff, j1eq1, n21, jt0, jt1, Bool.false_eq_true, Classical.not_not, true_or, or_true, false_or, or_false, true_imp_iff, false_imp_iff, not_true_eq_false, not_false_eq_true, jif0, jif1, jifb, ltT, ltF, leT, leF, eqT, eqF, jlt, jle, jeq, jlt0, jle0, jeq0, jge0, jgt0, jinB, jnat, clt, cle, ceq, cgt, cge, lI_add, lI_sub, lI_mul, jadd, jsub, jmul, jneg, jtol, b010, b011, pv_2t, Int.toNat_natCast, Option.some.injEq, exists_eq_left', if_true, if_false, M1, y19]
          exact p150 g1 ⟨c1, x1, y18, y19, y20, y23⟩
      obtain ⟨c0, xg, g18, g19, g20, g23⟩ := rh
      have p121 : PW (d + 1) 198 121 [some (.ref m), some (.int (iI c)), some (.int (iI sm)), some (.int (iI (if al = 1 ∧ sm = sb then 1 else 0)))] [] g Q := by
        by_cases c2 : l + gd < 6
        · rw [if_pos c2] at p135
          refine vs_ok 4 ?_
          rw [show ((gRes 198).drop 121).take 4 = [.aload 0, .getfield 12190, .iconst 6, .if_icmp .ge 135] from rfl]
          simp (disch := omega) only [vs_iconst, vs_if_icmp, vs_getfield, vs_aload0, vs_nil, gv_0, gv_1, gv_2, gv_3, pv_0, pv_1, va_rf_s, Nat.reduceDiv, Nat.reduceMod, Nat.reduceAdd, Nat.reduceMul, Int.reduceToNat, true_and, and_true, and_self, cP_eq, cP_ne, cP_lt, cP_ge, cP_gt, cP_le, eL_i, eL_l, eL_r, eL_n, Option.toList_none, Option.toList_some, List.nil_append, List.cons_append, kkI, llI, nnI, rrI, jjI, kkJ, llJ, nnJ, rrJ, iiJ, zIIs, zJJs, nEF, nET, and_false, false_and, jmin, jmax, catS_n, catS_i, catS_r, catS_l, Nat.reduceLeDiff, j1eq1, n21, jt0, jt1, Bool.false_eq_true, Classical.not_not, true_or, or_true, false_or, or_false, true_imp_iff, false_imp_iff, not_true_eq_false, not_false_eq_true, jif0, jif1, jifb, ltT, ltF, leT, leF, eqT, eqF, jlt, jle, jeq, jlt0, jle0, jeq0, jge0, jgt0, jinB, jnat, clt, cle, ceq, cgt, cge, lI_add, lI_sub, lI_mul, jadd, jsub, jmul, jneg, jtol, b010, b011, pv_2t, Int.toNat_natCast, Option.some.injEq, exists_eq_left', if_true, if_false, M, g19]
          refine vs_ok 6 ?_
          rw [show ((gRes 198).drop 125).take 6 = [.aload 0, .aload 0, .getfield 12231, .iconst 8, .lshl, .aload 0] from rfl]
          simp (disch := omega) only [vs_iconst, vs_getfield, vs_aload0, vs_nil, gv_0, gv_1, gv_2, gv_3, pv_0, pv_1, va_rf_s, vs_lshl, Nat.reduceDiv, Nat.reduceMod, Nat.reduceAdd, Nat.reduceMul, Int.reduceToNat, true_and, and_true, and_self, cP_eq, cP_ne, cP_lt, cP_ge, cP_gt, cP_le, eL_i, eL_l, eL_r, eL_n, Option.toList_none, Option.toList_some, List.nil_append, List.cons_append, kkI, llI, nnI, rrI, jjI, kkJ, llJ, nnJ, rrJ, iiJ, zIIs, zJJs, nEF, nET, and_false, false_and, jmin, jmax, catS_n, catS_i, catS_r, catS_l, Nat.reduceLeDiff, j1eq1, n21, jt0, jt1, Bool.false_eq_true, Classical.not_not, true_or, or_true, false_or, or_false, true_imp_iff, false_imp_iff, not_true_eq_false, not_false_eq_true, jif0, jif1, jifb, ltT, ltF, leT, leF, eqT, eqF, jlt, jle, jeq, jlt0, jle0, jeq0, jge0, jgt0, jinB, jnat, clt, cle, ceq, cgt, cge, lI_add, lI_sub, lI_mul, jadd, jsub, jmul, jneg, jtol, b010, b011, pv_2t, Int.toNat_natCast, Option.some.injEq, exists_eq_left', if_true, if_false, M, g23]
          refine PW.iv rfl rfl rfl M.1 M.2 (le_b rfl) (le_b rfl) ?_
          refine t_peek xg ⟨rfl, ⟨rfl, rfl⟩, ?_⟩
          rw [e]
          refine vs_ok 3 ?_
          rw [show ((gRes 198).drop 132).take 3 = [.i2l, .lor, .putfield 12231] from rfl]
          simp (disch := omega) only [vs_i2l, vs_putfield, vs_nil, gv_0, gv_1, gv_2, gv_3, pv_0, pv_1, va_rf_s, vs_lor, Nat.reduceDiv, Nat.reduceMod, Nat.reduceAdd, Nat.reduceMul, Int.reduceToNat, true_and, and_true, and_self, cP_eq, cP_ne, cP_lt, cP_ge, cP_gt, cP_le, eL_i, eL_l, eL_r, eL_n, Option.toList_none, Option.toList_some, List.nil_append, List.cons_append, kkI, llI, nnI, rrI, jjI, kkJ, llJ, nnJ, rrJ, iiJ, zIIs, zJJs, nEF, nET, and_false, false_and, jmin, jmax, catS_n, catS_i, catS_r, catS_l, Nat.reduceLeDiff, j1eq1, n21, jt0, jt1, Bool.false_eq_true, Classical.not_not, true_or, or_true, false_or, or_false, true_imp_iff, false_imp_iff, not_true_eq_false, not_false_eq_true, jif0, jif1, jifb, ltT, ltF, leT, leF, eqT, eqF, jlt, jle, jeq, jlt0, jle0, jeq0, jge0, jgt0, jinB, jnat, clt, cle, ceq, cgt, cge, lI_add, lI_sub, lI_mul, jadd, jsub, jmul, jneg, jtol, b010, b011, pv_2t, Int.toNat_natCast, Option.some.injEq, exists_eq_left', if_true, if_false, M, jw8 wo b (by omega)]
          have c3 : nxC g (zsJ g m 23 (lI ((wo * 256 + b : Nat) : Int))) m := (nxC.rf).J
          exact p135 _ ⟨c0.tr c3, xg.of c3 xg.2.2.2.1 xg.2.2.2.2.1, g18, g19, g20, by rw [zJJs, if_pos ⟨rfl, rfl⟩]⟩
        · rw [if_neg c2] at p135
          refine vs_ok 4 ?_
          rw [show ((gRes 198).drop 121).take 4 = [.aload 0, .getfield 12190, .iconst 6, .if_icmp .ge 135] from rfl]
          simp (disch := omega) only [vs_iconst, vs_if_icmp, vs_getfield, vs_aload0, vs_nil, gv_0, gv_1, gv_2, gv_3, pv_0, pv_1, va_rf_s, Nat.reduceDiv, Nat.reduceMod, Nat.reduceAdd, Nat.reduceMul, Int.reduceToNat, true_and, and_true, and_self, cP_eq, cP_ne, cP_lt, cP_ge, cP_gt, cP_le, eL_i, eL_l, eL_r, eL_n, Option.toList_none, Option.toList_some, List.nil_append, List.cons_append, kkI, llI, nnI, rrI, jjI, kkJ, llJ, nnJ, rrJ, iiJ, zIIs, zJJs, nEF, nET, and_false, false_and, jmin, jmax, catS_n, catS_i, catS_r, catS_l, Nat.reduceLeDiff, j1eq1, n21, jt0, jt1, Bool.false_eq_true, Classical.not_not, true_or, or_true, false_or, or_false, true_imp_iff, false_imp_iff, not_true_eq_false, not_false_eq_true, jif0, jif1, jifb, ltT, ltF, leT, leF, eqT, eqF, jlt, jle, jeq, jlt0, jle0, jeq0, jge0, jgt0, jinB, jnat, clt, cle, ceq, cgt, cge, lI_add, lI_sub, lI_mul, jadd, jsub, jmul, jneg, jtol, b010, b011, pv_2t, Int.toNat_natCast, Option.some.injEq, exists_eq_left', if_true, if_false, M, g19]
          exact p135 g ⟨c0, xg, g18, g19, g20, g23⟩
      have p119 : ¬ (al = 1 ∧ sm = sb) → PW (d + 1) 198 119 [some (.ref m), some (.int (iI c)), some (.int (iI sm)), some (.int (iI al))] [] g Q := fun z => by
        rw [if_neg z] at p121
        refine vs_ok 2 ?_
        rw [show ((gRes 198).drop 119).take 2 = [.iconst 0, .istore 3] from rfl]
        simp (disch := omega) only [vs_iconst, vs_istore3n, vs_istore3i, vs_istore3r, vs_istore3l, vs_nil, gv_0, gv_1, gv_2, gv_3, pv_0, pv_1, va_rf_s, Nat.reduceDiv, Nat.reduceMod, Nat.reduceAdd, Nat.reduceMul, Int.reduceToNat, true_and, and_true, and_self, cP_eq, cP_ne, cP_lt, cP_ge, cP_gt, cP_le, eL_i, eL_l, eL_r, eL_n, Option.toList_none, Option.toList_some, List.nil_append, List.cons_append, kkI, llI, nnI, rrI, jjI, kkJ, llJ, nnJ, rrJ, iiJ, zIIs, zJJs, nEF, nET, and_false, false_and, jmin, jmax, catS_n, catS_i, catS_r, catS_l, Nat.reduceLeDiff, j1eq1, n21, jt0, jt1, Bool.false_eq_true, Classical.not_not, true_or, or_true, false_or, or_false, true_imp_iff, false_imp_iff, not_true_eq_false, not_false_eq_true, jif0, jif1, jifb, ltT, ltF, leT, leF, eqT, eqF, jlt, jle, jeq, jlt0, jle0, jeq0, jge0, jgt0, jinB, jnat, clt, cle, ceq, cgt, cge, lI_add, lI_sub, lI_mul, jadd, jsub, jmul, jneg, jtol, b010, b011, pv_2t, Int.toNat_natCast, Option.some.injEq, exists_eq_left', if_true, if_false]
        exact p121
      by_cases ca : al = 1
      · refine vs_ok 2 ?_
        rw [show ((gRes 198).drop 110).take 2 = [.iload 3, .ifCond .eq 119] from rfl]
        simp (disch := omega) only [vs_ifCond, vs_iload3, vs_nil, gv_0, gv_1, gv_2, gv_3, pv_0, pv_1, va_rf_s, Nat.reduceDiv, Nat.reduceMod, Nat.reduceAdd, Nat.reduceMul, Int.reduceToNat, true_and, and_true, and_self, cP_eq, cP_ne, cP_lt, cP_ge, cP_gt, cP_le, eL_i, eL_l, eL_r, eL_n, Option.toList_none, Option.toList_some, List.nil_append, List.cons_append, kkI, llI, nnI, rrI, jjI, kkJ, llJ, nnJ, rrJ, iiJ, zIIs, zJJs, nEF, nET, and_false, false_and, jmin, jmax, catS_n, catS_i, catS_r, catS_l, Nat.reduceLeDiff, j1eq1, n21, jt0, jt1, Bool.false_eq_true, Classical.not_not, true_or, or_true, false_or, or_false, true_imp_iff, false_imp_iff, not_true_eq_false, not_false_eq_true, jif0, jif1, jifb, ltT, ltF, leT, leF, eqT, eqF, jlt, jle, jeq, jlt0, jle0, jeq0, jge0, jgt0, jinB, jnat, clt, cle, ceq, cgt, cge, lI_add, lI_sub, lI_mul, jadd, jsub, jmul, jneg, jtol, b010, b011, pv_2t, Int.toNat_natCast, Option.some.injEq, exists_eq_left', if_true, if_false]
        refine vs_ok 1 ?_
        rw [show ((gRes 198).drop 112).take 1 = [.aload 0] from rfl]
        simp (disch := omega) only [vs_aload0, vs_nil, gv_0, gv_1, gv_2, gv_3, pv_0, pv_1, va_rf_s, Nat.reduceDiv, Nat.reduceMod, Nat.reduceAdd, Nat.reduceMul, Int.reduceToNat, true_and, and_true, and_self, cP_eq, cP_ne, cP_lt, cP_ge, cP_gt, cP_le, eL_i, eL_l, eL_r, eL_n, Option.toList_none, Option.toList_some, List.nil_append, List.cons_append, kkI, llI, nnI, rrI, jjI, kkJ, llJ, nnJ, rrJ, iiJ, zIIs, zJJs, nEF, nET, and_false, false_and, jmin, jmax, catS_n, catS_i, catS_r, catS_l, Nat.reduceLeDiff, j1eq1, n21, jt0, jt1, Bool.false_eq_true, Classical.not_not, true_or, or_true, false_or, or_false, true_imp_iff, false_imp_iff, not_true_eq_false, not_false_eq_true, jif0, jif1, jifb, ltT, ltF, leT, leF, eqT, eqF, jlt, jle, jeq, jlt0, jle0, jeq0, jge0, jgt0, jinB, jnat, clt, cle, ceq, cgt, cge, lI_add, lI_sub, lI_mul, jadd, jsub, jmul, jneg, jtol, b010, b011, pv_2t, Int.toNat_natCast, Option.some.injEq, exists_eq_left', if_true, if_false]
        refine PW.iv rfl rfl rfl M.1 M.2 (le_b rfl) (le_b rfl) ?_
        refine t_peek xg ⟨rfl, ⟨rfl, rfl⟩, ?_⟩
        refine PW.ss (r := []) rfl (le_b rfl) rfl rfl (le_b rfl) (le_b rfl) ?_
        refine t_M_isSmall (pkB_b hB) ⟨rfl, ⟨rfl, rfl⟩, ?_⟩
        rw [e, ← hsb]
        have s01 : sb = 0 ∨ sb = 1 := by
          rw [hsb]
          split
          · exact Or.inr rfl
          · exact Or.inl rfl
        have m01 := rn.2.1
        by_cases cs : sm = sb
        · rw [if_pos ⟨ca, cs⟩] at p121
          refine vs_ok 2 ?_
          rw [show ((gRes 198).drop 115).take 2 = [.iload 2, .if_icmp .ne 119] from rfl]
          simp (disch := omega) only [vs_if_icmp, vs_iload2, vs_nil, gv_0, gv_1, gv_2, gv_3, pv_0, pv_1, va_rf_s, Nat.reduceDiv, Nat.reduceMod, Nat.reduceAdd, Nat.reduceMul, Int.reduceToNat, true_and, and_true, and_self, cP_eq, cP_ne, cP_lt, cP_ge, cP_gt, cP_le, eL_i, eL_l, eL_r, eL_n, Option.toList_none, Option.toList_some, List.nil_append, List.cons_append, kkI, llI, nnI, rrI, jjI, kkJ, llJ, nnJ, rrJ, iiJ, zIIs, zJJs, nEF, nET, and_false, false_and, jmin, jmax, catS_n, catS_i, catS_r, catS_l, Nat.reduceLeDiff, j1eq1, n21, jt0, jt1, Bool.false_eq_true, Classical.not_not, true_or, or_true, false_or, or_false, true_imp_iff, false_imp_iff, not_true_eq_false, not_false_eq_true, jif0, jif1, jifb, ltT, ltF, leT, leF, eqT, eqF, jlt, jle, jeq, jlt0, jle0, jeq0, jge0, jgt0, jinB, jnat, clt, cle, ceq, cgt, cge, lI_add, lI_sub, lI_mul, jadd, jsub, jmul, jneg, jtol, b010, b011, pv_2t, Int.toNat_natCast, Option.some.injEq, exists_eq_left', if_true, if_false]
          refine vs_ok 2 ?_
          rw [show ((gRes 198).drop 117).take 2 = [.iconst 1, .goto 120] from rfl]
          simp (disch := omega) only [vs_iconst, vs_goto, vs_nil, gv_0, gv_1, gv_2, gv_3, pv_0, pv_1, va_rf_s, Nat.reduceDiv, Nat.reduceMod, Nat.reduceAdd, Nat.reduceMul, Int.reduceToNat, true_and, and_true, and_self, cP_eq, cP_ne, cP_lt, cP_ge, cP_gt, cP_le, eL_i, eL_l, eL_r, eL_n, Option.toList_none, Option.toList_some, List.nil_append, List.cons_append, kkI, llI, nnI, rrI, jjI, kkJ, llJ, nnJ, rrJ, iiJ, zIIs, zJJs, nEF, nET, and_false, false_and, jmin, jmax, catS_n, catS_i, catS_r, catS_l, Nat.reduceLeDiff, j1eq1, n21, jt0, jt1, Bool.false_eq_true, Classical.not_not, true_or, or_true, false_or, or_false, true_imp_iff, false_imp_iff, not_true_eq_false, not_false_eq_true, jif0, jif1, jifb, ltT, ltF, leT, leF, eqT, eqF, jlt, jle, jeq, jlt0, jle0, jeq0, jge0, jgt0, jinB, jnat, clt, cle, ceq, cgt, cge, lI_add, lI_sub, lI_mul, jadd, jsub, jmul, jneg, jtol, b010, b011, pv_2t, Int.toNat_natCast, Option.some.injEq, exists_eq_left', if_true, if_false]
          refine vs_ok 1 ?_
          rw [show ((gRes 198).drop 120).take 1 = [.istore 3] from rfl]
          simp (disch := omega) only [vs_istore3n, vs_istore3i, vs_istore3r, vs_istore3l, vs_nil, gv_0, gv_1, gv_2, gv_3, pv_0, pv_1, va_rf_s, Nat.reduceDiv, Nat.reduceMod, Nat.reduceAdd, Nat.reduceMul, Int.reduceToNat, true_and, and_true, and_self, cP_eq, cP_ne, cP_lt, cP_ge, cP_gt, cP_le, eL_i, eL_l, eL_r, eL_n, Option.toList_none, Option.toList_some, List.nil_append, List.cons_append, kkI, llI, nnI, rrI, jjI, kkJ, llJ, nnJ, rrJ, iiJ, zIIs, zJJs, nEF, nET, and_false, false_and, jmin, jmax, catS_n, catS_i, catS_r, catS_l, Nat.reduceLeDiff, j1eq1, n21, jt0, jt1, Bool.false_eq_true, Classical.not_not, true_or, or_true, false_or, or_false, true_imp_iff, false_imp_iff, not_true_eq_false, not_false_eq_true, jif0, jif1, jifb, ltT, ltF, leT, leF, eqT, eqF, jlt, jle, jeq, jlt0, jle0, jeq0, jge0, jgt0, jinB, jnat, clt, cle, ceq, cgt, cge, lI_add, lI_sub, lI_mul, jadd, jsub, jmul, jneg, jtol, b010, b011, pv_2t, Int.toNat_natCast, Option.some.injEq, exists_eq_left', if_true, if_false]
          exact p121
        · refine vs_ok 2 ?_
          rw [show ((gRes 198).drop 115).take 2 = [.iload 2, .if_icmp .ne 119] from rfl]
          simp (disch := omega) only [vs_if_icmp, vs_iload2, vs_nil, gv_0, gv_1, gv_2, gv_3, pv_0, pv_1, va_rf_s, Nat.reduceDiv, Nat.reduceMod, Nat.reduceAdd, Nat.reduceMul, Int.reduceToNat, true_and, and_true, and_self, cP_eq, cP_ne, cP_lt, cP_ge, cP_gt, cP_le, eL_i, eL_l, eL_r, eL_n, Option.toList_none, Option.toList_some, List.nil_append, List.cons_append, kkI, llI, nnI, rrI, jjI, kkJ, llJ, nnJ, rrJ, iiJ, zIIs, zJJs, nEF, nET, and_false, false_and, jmin, jmax, catS_n, catS_i, catS_r, catS_l, Nat.reduceLeDiff, j1eq1, n21, jt0, jt1, Bool.false_eq_true, Classical.not_not, true_or, or_true, false_or, or_false, true_imp_iff, false_imp_iff, not_true_eq_false, not_false_eq_true, jif0, jif1, jifb, ltT, ltF, leT, leF, eqT, eqF, jlt, jle, jeq, jlt0, jle0, jeq0, jge0, jgt0, jinB, jnat, clt, cle, ceq, cgt, cge, lI_add, lI_sub, lI_mul, jadd, jsub, jmul, jneg, jtol, b010, b011, pv_2t, Int.toNat_natCast, Option.some.injEq, exists_eq_left', if_true, if_false]
          exact p119 fun z => cs z.2
      · have ca0 : al = 0 := by
          rw [a7] at ca ⊢
          split
          · rename_i z
            rw [if_pos z] at ca
            exact absurd rfl ca
          · rfl
        refine vs_ok 2 ?_
        rw [show ((gRes 198).drop 110).take 2 = [.iload 3, .ifCond .eq 119] from rfl]
        simp (disch := omega) only [vs_ifCond, vs_iload3, vs_nil, gv_0, gv_1, gv_2, gv_3, pv_0, pv_1, va_rf_s, Nat.reduceDiv, Nat.reduceMod, Nat.reduceAdd, Nat.reduceMul, Int.reduceToNat, true_and, and_true, and_self, cP_eq, cP_ne, cP_lt, cP_ge, cP_gt, cP_le, eL_i, eL_l, eL_r, eL_n, Option.toList_none, Option.toList_some, List.nil_append, List.cons_append, kkI, llI, nnI, rrI, jjI, kkJ, llJ, nnJ, rrJ, iiJ, zIIs, zJJs, nEF, nET, and_false, false_and, jmin, jmax, catS_n, catS_i, catS_r, catS_l, Nat.reduceLeDiff, j1eq1, n21, jt0, jt1, Bool.false_eq_true, Classical.not_not, true_or, or_true, false_or, or_false, true_imp_iff, false_imp_iff, not_true_eq_false, not_false_eq_true, jif0, jif1, jifb, ltT, ltF, leT, leF, eqT, eqF, jlt, jle, jeq, jlt0, jle0, jeq0, jge0, jgt0, jinB, jnat, clt, cle, ceq, cgt, cge, lI_add, lI_sub, lI_mul, jadd, jsub, jmul, jneg, jtol, b010, b011, pv_2t, Int.toNat_natCast, Option.some.injEq, exists_eq_left', if_true, if_false]
        exact p119 fun z => ca z.1
    have es := rnF_s (B := B) (len := sz) (k := k) (i := i) (l := l) (g := gd) (w := w) (n := n)
    rw [hF] at es
    refine vs_ok 1 ?_
    rw [show ((gRes 198).drop 102).take 1 = [.aload 0] from rfl]
    simp (disch := omega) only [vs_aload0, vs_nil, gv_0, gv_1, gv_2, gv_3, pv_0, pv_1, va_rf_s, Nat.reduceDiv, Nat.reduceMod, Nat.reduceAdd, Nat.reduceMul, Int.reduceToNat, true_and, and_true, and_self, cP_eq, cP_ne, cP_lt, cP_ge, cP_gt, cP_le, eL_i, eL_l, eL_r, eL_n, Option.toList_none, Option.toList_some, List.nil_append, List.cons_append, kkI, llI, nnI, rrI, jjI, kkJ, llJ, nnJ, rrJ, iiJ, zIIs, zJJs, nEF, nET, and_false, false_and, jmin, jmax, catS_n, catS_i, catS_r, catS_l, Nat.reduceLeDiff, j1eq1, n21, jt0, jt1, Bool.false_eq_true, Classical.not_not, true_or, or_true, false_or, or_false, true_imp_iff, false_imp_iff, not_true_eq_false, not_false_eq_true, jif0, jif1, jifb, ltT, ltF, leT, leF, eqT, eqF, jlt, jle, jeq, jlt0, jle0, jeq0, jge0, jgt0, jinB, jnat, clt, cle, ceq, cgt, cge, lI_add, lI_sub, lI_mul, jadd, jsub, jmul, jneg, jtol, b010, b011, pv_2t, Int.toNat_natCast, Option.some.injEq, exists_eq_left', if_true, if_false]
    refine PW.iv rfl rfl rfl M.1 M.2 (le_b rfl) (le_b rfl) ?_
    refine t_peek rh.2.1 ⟨rfl, ⟨rfl, rfl⟩, ?_⟩
    refine PW.ss (r := []) rfl (le_b rfl) rfl rfl (le_b rfl) (le_b rfl) ?_
    refine t_M_isSmall (pkB_b hB) ⟨rfl, ⟨rfl, rfl⟩, ?_⟩
    rw [e]
    by_cases cl : 97 ≤ (b : Int) ∧ (b : Int) ≤ 122
    · rw [if_pos cl]
      rw [if_pos (by rw [hb]; exact cl)] at es
      refine vs_ok 1 ?_
      rw [show ((gRes 198).drop 105).take 1 = [.ifCond .ne 110] from rfl]
      simp (disch := omega) only [vs_ifCond, vs_nil, gv_0, gv_1, gv_2, gv_3, pv_0, pv_1, va_rf_s, Nat.reduceDiv, Nat.reduceMod, Nat.reduceAdd, Nat.reduceMul, Int.reduceToNat, true_and, and_true, and_self, cP_eq, cP_ne, cP_lt, cP_ge, cP_gt, cP_le, eL_i, eL_l, eL_r, eL_n, Option.toList_none, Option.toList_some, List.nil_append, List.cons_append, kkI, llI, nnI, rrI, jjI, kkJ, llJ, nnJ, rrJ, iiJ, zIIs, zJJs, nEF, nET, and_false, false_and, jmin, jmax, catS_n, catS_i, catS_r, catS_l, Nat.reduceLeDiff, j1eq1, n21, jt0, jt1, Bool.false_eq_true, Classical.not_not, true_or, or_true, false_or, or_false, true_imp_iff, false_imp_iff, not_true_eq_false, not_false_eq_true, jif0, jif1, jifb, ltT, ltF, leT, leF, eqT, eqF, jlt, jle, jeq, jlt0, jle0, jeq0, jge0, jgt0, jinB, jnat, clt, cle, ceq, cgt, cge, lI_add, lI_sub, lI_mul, jadd, jsub, jmul, jneg, jtol, b010, b011, pv_2t, Int.toNat_natCast, Option.some.injEq, exists_eq_left', if_true, if_false]
      exact body 1 (l + 1) gd _ n (if_pos cl).symm (by omega) (rn.let' hb (by omega)) es.symm
    · rw [if_neg cl]
      rw [if_neg (by rw [hb]; exact cl)] at es
      refine vs_ok 1 ?_
      rw [show ((gRes 198).drop 105).take 1 = [.ifCond .ne 110] from rfl]
      simp (disch := omega) only [vs_ifCond, vs_nil, gv_0, gv_1, gv_2, gv_3, pv_0, pv_1, va_rf_s, Nat.reduceDiv, Nat.reduceMod, Nat.reduceAdd, Nat.reduceMul, Int.reduceToNat, true_and, and_true, and_self, cP_eq, cP_ne, cP_lt, cP_ge, cP_gt, cP_le, eL_i, eL_l, eL_r, eL_n, Option.toList_none, Option.toList_some, List.nil_append, List.cons_append, kkI, llI, nnI, rrI, jjI, kkJ, llJ, nnJ, rrJ, iiJ, zIIs, zJJs, nEF, nET, and_false, false_and, jmin, jmax, catS_n, catS_i, catS_r, catS_l, Nat.reduceLeDiff, j1eq1, n21, jt0, jt1, Bool.false_eq_true, Classical.not_not, true_or, or_true, false_or, or_false, true_imp_iff, false_imp_iff, not_true_eq_false, not_false_eq_true, jif0, jif1, jifb, ltT, ltF, leT, leF, eqT, eqF, jlt, jle, jeq, jlt0, jle0, jeq0, jge0, jgt0, jinB, jnat, clt, cle, ceq, cgt, cge, lI_add, lI_sub, lI_mul, jadd, jsub, jmul, jneg, jtol, b010, b011, pv_2t, Int.toNat_natCast, Option.some.injEq, exists_eq_left', if_true, if_false]
      refine vs_ok 1 ?_
      rw [show ((gRes 198).drop 106).take 1 = [.aload 0] from rfl]
      simp (disch := omega) only [vs_aload0, vs_nil, gv_0, gv_1, gv_2, gv_3, pv_0, pv_1, va_rf_s, Nat.reduceDiv, Nat.reduceMod, Nat.reduceAdd, Nat.reduceMul, Int.reduceToNat, true_and, and_true, and_self, cP_eq, cP_ne, cP_lt, cP_ge, cP_gt, cP_le, eL_i, eL_l, eL_r, eL_n, Option.toList_none, Option.toList_some, List.nil_append, List.cons_append, kkI, llI, nnI, rrI, jjI, kkJ, llJ, nnJ, rrJ, iiJ, zIIs, zJJs, nEF, nET, and_false, false_and, jmin, jmax, catS_n, catS_i, catS_r, catS_l, Nat.reduceLeDiff, j1eq1, n21, jt0, jt1, Bool.false_eq_true, Classical.not_not, true_or, or_true, false_or, or_false, true_imp_iff, false_imp_iff, not_true_eq_false, not_false_eq_true, jif0, jif1, jifb, ltT, ltF, leT, leF, eqT, eqF, jlt, jle, jeq, jlt0, jle0, jeq0, jge0, jgt0, jinB, jnat, clt, cle, ceq, cgt, cge, lI_add, lI_sub, lI_mul, jadd, jsub, jmul, jneg, jtol, b010, b011, pv_2t, Int.toNat_natCast, Option.some.injEq, exists_eq_left', if_true, if_false]
      refine PW.iv rfl rfl rfl M.1 M.2 (le_b rfl) (le_b rfl) ?_
      refine t_peek rh.2.1 ⟨rfl, ⟨rfl, rfl⟩, ?_⟩
      refine PW.ss (r := []) rfl (le_b rfl) rfl rfl (le_b rfl) (le_b rfl) ?_
      refine t_M_isDigit (pkB_b hB) ⟨rfl, ⟨rfl, rfl⟩, ?_⟩
      rw [e]
      by_cases cd : 48 ≤ (b : Int) ∧ (b : Int) ≤ 57
      · rw [if_pos cd]
        rw [if_pos (by rw [hb]; exact cd)] at es
        refine vs_ok 1 ?_
        rw [show ((gRes 198).drop 109).take 1 = [.ifCond .eq 163] from rfl]
        simp (disch := omega) only [vs_ifCond, vs_nil, gv_0, gv_1, gv_2, gv_3, pv_0, pv_1, va_rf_s, Nat.reduceDiv, Nat.reduceMod, Nat.reduceAdd, Nat.reduceMul, Int.reduceToNat, true_and, and_true, and_self, cP_eq, cP_ne, cP_lt, cP_ge, cP_gt, cP_le, eL_i, eL_l, eL_r, eL_n, Option.toList_none, Option.toList_some, List.nil_append, List.cons_append, kkI, llI, nnI, rrI, jjI, kkJ, llJ, nnJ, rrJ, iiJ, zIIs, zJJs, nEF, nET, and_false, false_and, jmin, jmax, catS_n, catS_i, catS_r, catS_l, Nat.reduceLeDiff, j1eq1, n21, jt0, jt1, Bool.false_eq_true, Classical.not_not, true_or, or_true, false_or, or_false, true_imp_iff, false_imp_iff, not_true_eq_false, not_false_eq_true, jif0, jif1, jifb, ltT, ltF, leT, leF, eqT, eqF, jlt, jle, jeq, jlt0, jle0, jeq0, jge0, jgt0, jinB, jnat, clt, cle, ceq, cgt, cge, lI_add, lI_sub, lI_mul, jadd, jsub, jmul, jneg, jtol, b010, b011, pv_2t, Int.toNat_natCast, Option.some.injEq, exists_eq_left', if_true, if_false]
        exact body 0 l (gd + 1) w _ (if_neg cl).symm (by omega) (rn.dig hb (by omega)) es.symm
      · rw [if_neg cd]
        rw [if_neg (by rw [hb]; exact cd)] at es
        refine vs_ok 1 ?_
        rw [show ((gRes 198).drop 109).take 1 = [.ifCond .eq 163] from rfl]
        simp (disch := omega) only [vs_ifCond, vs_nil, gv_0, gv_1, gv_2, gv_3, pv_0, pv_1, va_rf_s, Nat.reduceDiv, Nat.reduceMod, Nat.reduceAdd, Nat.reduceMul, Int.reduceToNat, true_and, and_true, and_self, cP_eq, cP_ne, cP_lt, cP_ge, cP_gt, cP_le, eL_i, eL_l, eL_r, eL_n, Option.toList_none, Option.toList_some, List.nil_append, List.cons_append, kkI, llI, nnI, rrI, jjI, kkJ, llJ, nnJ, rrJ, iiJ, zIIs, zJJs, nEF, nET, and_false, false_and, jmin, jmax, catS_n, catS_i, catS_r, catS_l, Nat.reduceLeDiff, j1eq1, n21, jt0, jt1, Bool.false_eq_true, Classical.not_not, true_or, or_true, false_or, or_false, true_imp_iff, false_imp_iff, not_true_eq_false, not_false_eq_true, jif0, jif1, jifb, ltT, ltF, leT, leF, eqT, eqF, jlt, jle, jeq, jlt0, jle0, jeq0, jge0, jgt0, jinB, jnat, clt, cle, ceq, cgt, cge, lI_add, lI_sub, lI_mul, jadd, jsub, jmul, jneg, jtol, b010, b011, pv_2t, Int.toNat_natCast, Option.some.injEq, exists_eq_left', if_true, if_false]
        exact out i l gd w n wo nu al g rh rn (by rw [hb]; omega) es
theorem t_M_next {d : Nat} {h : Hp} {m sz p : Nat} {fo va : Int} {B : Nat → Int} {Q : Nat → Option Value → Hp → Prop} (x : nxG h m sz p B) (T : tkP0 sz fo p)
    (hq : ∀ g, nxC h g m → nxE g m sz B (adF B sz fo va) → Q 0 none g) : PR (d + 1) m_M_next [.ref m] h Q := by
  obtain ⟨nu, hnu, h20⟩ : ∃ nu : Int, (-2147483648 ≤ nu ∧ nu ≤ 2147483647) ∧ zI h m 20 = iI nu := ⟨(zI h m 20).toInt, ⟨Int32.le_toInt _, by have := Int32.toInt_lt (zI h m 20); omega⟩, (iI_of _).symm⟩
  obtain ⟨wo, hwo, h23⟩ : ∃ wo : Int, (-9223372036854775808 ≤ wo ∧ wo ≤ 9223372036854775807) ∧ zJ h m 23 = lI wo := ⟨(zJ h m 23).toInt, ⟨Int64.le_toInt _, by have := Int64.toInt_lt (zJ h m 23); omega⟩, (lI_of _).symm⟩
  have hs := x.2.2.1
  have hB := x.2.2.2.2.2.2
  obtain ⟨L, hL⟩ : ∃ L : Int, L = min (sz : Int) 500 := ⟨_, rfl⟩
  obtain ⟨a, ha⟩ : ∃ a : Int, a = skF B sz L (L - fo).toNat fo := ⟨_, rfl⟩
  have eA : adF B sz fo va = if L ≤ a then (L, 0, va, L) else if (97 ≤ byV B sz a ∧ byV B sz a ≤ 122) ∨ (48 ≤ byV B sz a ∧ byV B sz a ≤ 57) then ((rnF B sz (sz - a).toNat a 0 0 0 0).2.2.2.2, rnK (rnF B sz (sz - a).toNat a 0 0 0 0), rnV (rnF B sz (sz - a).toNat a 0 0 0 0), a) else (a + 1, if sgB (byV B sz a) then 4 else 1, byV B sz a, a) := by
    rw [ha, hL]
    rfl
  -- a TOKEN begins at byte p2, or none
  have p15 : ∀ (p2 : Nat) (g : Hp), ((p2 : Int) < L ∧ a = p2 ∨ L ≤ p2 ∧ L ≤ a) → nxC h g m → nxG g m sz p2 B → zI g m 20 = iI nu → zJ g m 23 = lI wo → PW (d + 1) 198 15 [some (.ref m), none, none, none] [] g Q := by
    intro p2 g ho c0 xg g20 g23
    have M := xg.1.k
    have g3 := xg.2.1
    have g4 := xg.2.2.2.1
    have ip := xg.2.2.2.2.1
    have c1 : nxC g (zsI (zsI g m 18 (iI p2)) m 19 (iI 0)) m := ((nxC.rf).I (by omega)).I (by omega)
    have x1 := xg.of c1 (p' := p2) (by rw [zI_s, if_neg (by omega), zI_s, if_neg (by omega)]; exact g4) ip
    have y18 : zI (zsI (zsI g m 18 (iI p2)) m 19 (iI 0)) m 18 = iI p2 := by rw [zI_s, if_neg (by omega), zI_s, if_pos ⟨rfl, rfl⟩]
    have y19 : zI (zsI (zsI g m 18 (iI p2)) m 19 (iI 0)) m 19 = iI 0 := by rw [zI_s, if_pos ⟨rfl, rfl⟩]
    have y20 : zI (zsI (zsI g m 18 (iI p2)) m 19 (iI 0)) m 20 = iI nu := by rw [zI_s, if_neg (by omega), zI_s, if_neg (by omega)]; exact g20
    have y23 : zJ (zsI (zsI g m 18 (iI p2)) m 19 (iI 0)) m 23 = lI wo := g23
    refine vs_ok 7 ?_
    rw [show ((gRes 198).drop 15).take 7 = [.aload 0, .aload 0, .getfield 12040, .putfield 12180, .aload 0, .iconst 0, .putfield 12190] from rfl]
    simp (disch := omega) only [vs_iconst, vs_getfield, vs_putfield, vs_aload0, vs_nil, gv_0, gv_1, gv_2, gv_3, pv_0, pv_1, va_rf_s, Nat.reduceDiv, Nat.reduceMod, Nat.reduceAdd, Nat.reduceMul, Int.reduceToNat, true_and, and_true, and_self, cP_eq, cP_ne, cP_lt, cP_ge, cP_gt, cP_le, eL_i, eL_l, eL_r, eL_n, Option.toList_none, Option.toList_some, List.nil_append, List.cons_append, kkI, llI, nnI, rrI, jjI, kkJ, llJ, nnJ, rrJ, iiJ, zIIs, zJJs, nEF, nET, and_false, false_and, jmin, jmax, catS_n, catS_i, catS_r, catS_l, Nat.reduceLeDiff, j1eq1, n21, jt0, jt1, Bool.false_eq_true, Classical.not_not, true_or, or_true, false_or, or_false, true_imp_iff, false_imp_iff, not_true_eq_false, not_false_eq_true, jif0, jif1, jifb, ltT, ltF, leT, leF, eqT, eqF, jlt, jle, jeq, jlt0, jle0, jeq0, jge0, jgt0, jinB, jnat, clt, cle, ceq, cgt, cge, lI_add, lI_sub, lI_mul, jadd, jsub, jmul, jneg, jtol, b010, b011, pv_2t, Int.toNat_natCast, Option.some.injEq, exists_eq_left', if_true, if_false, M, g4]
    have c2 := c0.tr c1
    generalize zsI (zsI g m 18 (iI p2)) m 19 (iI 0) = g1 at *
    have M1 := x1.1.k
    have y3 := x1.2.1
    have y4 := x1.2.2.2.1
    -- ahead of the limit
    have p37 : (sz ≤ 500 ∨ p2 < 500) → PW (d + 1) 198 37 [some (.ref m), none, none, none] [] g1 Q := fun hl => by
      refine vs_ok 1 ?_
      rw [show ((gRes 198).drop 37).take 1 = [.aload 0] from rfl]
      simp (disch := omega) only [vs_aload0, vs_nil, gv_0, gv_1, gv_2, gv_3, pv_0, pv_1, va_rf_s, Nat.reduceDiv, Nat.reduceMod, Nat.reduceAdd, Nat.reduceMul, Int.reduceToNat, true_and, and_true, and_self, cP_eq, cP_ne, cP_lt, cP_ge, cP_gt, cP_le, eL_i, eL_l, eL_r, eL_n, Option.toList_none, Option.toList_some, List.nil_append, List.cons_append, kkI, llI, nnI, rrI, jjI, kkJ, llJ, nnJ, rrJ, iiJ, zIIs, zJJs, nEF, nET, and_false, false_and, jmin, jmax, catS_n, catS_i, catS_r, catS_l, Nat.reduceLeDiff, j1eq1, n21, jt0, jt1, Bool.false_eq_true, Classical.not_not, true_or, or_true, false_or, or_false, true_imp_iff, false_imp_iff, not_true_eq_false, not_false_eq_true, jif0, jif1, jifb, ltT, ltF, leT, leF, eqT, eqF, jlt, jle, jeq, jlt0, jle0, jeq0, jge0, jgt0, jinB, jnat, clt, cle, ceq, cgt, cge, lI_add, lI_sub, lI_mul, jadd, jsub, jmul, jneg, jtol, b010, b011, pv_2t, Int.toNat_natCast, Option.some.injEq, exists_eq_left', if_true, if_false]
      refine PW.iv rfl rfl rfl M1.1 M1.2 (le_b rfl) (le_b rfl) ?_
      refine t_peek x1 ⟨rfl, ⟨rfl, rfl⟩, ?_⟩
      by_cases ce : p2 < sz
      · have eL : (p2 : Int) < L ∧ a = p2 := by omega
        rw [if_neg (by omega)] at eA
        rw [eL.2, show (((sz : Nat) : Int) - (p2 : Int)).toNat = sz - p2 by omega] at eA
        rw [pkB_v ce]
        have bb := byV_b (len := sz) (i := p2) hB
        obtain ⟨b, hb⟩ : ∃ b : Nat, byV B sz p2 = b := ⟨(byV B sz p2).toNat, by omega⟩
        rw [hb] at eA ⊢
        refine vs_ok 3 ?_
        rw [show ((gRes 198).drop 39).take 3 = [.istore 1, .iload 1, .ifCond .ge 46] from rfl]
        simp (disch := omega) only [vs_ifCond, vs_iload1, vs_istore1n, vs_istore1i, vs_istore1r, vs_istore1l, vs_nil, gv_0, gv_1, gv_2, gv_3, pv_0, pv_1, va_rf_s, Nat.reduceDiv, Nat.reduceMod, Nat.reduceAdd, Nat.reduceMul, Int.reduceToNat, true_and, and_true, and_self, cP_eq, cP_ne, cP_lt, cP_ge, cP_gt, cP_le, eL_i, eL_l, eL_r, eL_n, Option.toList_none, Option.toList_some, List.nil_append, List.cons_append, kkI, llI, nnI, rrI, jjI, kkJ, llJ, nnJ, rrJ, iiJ, zIIs, zJJs, nEF, nET, and_false, false_and, jmin, jmax, catS_n, catS_i, catS_r, catS_l, Nat.reduceLeDiff, j1eq1, n21, jt0, jt1, Bool.false_eq_true, Classical.not_not, true_or, or_true, false_or, or_false, true_imp_iff, false_imp_iff, not_true_eq_false, not_false_eq_true, jif0, jif1, jifb, ltT, ltF, leT, leF, eqT, eqF, jlt, jle, jeq, jlt0, jle0, jeq0, jge0, jgt0, jinB, jnat, clt, cle, ceq, cgt, cge, lI_add, lI_sub, lI_mul, jadd, jsub, jmul, jneg, jtol, b010, b011, pv_2t, Int.toNat_natCast, Option.some.injEq, exists_eq_left', if_true, if_false]
        refine vs_ok 1 ?_
        rw [show ((gRes 198).drop 46).take 1 = [.iload 1] from rfl]
        simp (disch := omega) only [vs_iload1, vs_nil, gv_0, gv_1, gv_2, gv_3, pv_0, pv_1, va_rf_s, Nat.reduceDiv, Nat.reduceMod, Nat.reduceAdd, Nat.reduceMul, Int.reduceToNat, true_and, and_true, and_self, cP_eq, cP_ne, cP_lt, cP_ge, cP_gt, cP_le, eL_i, eL_l, eL_r, eL_n, Option.toList_none, Option.toList_some, List.nil_append, List.cons_append, kkI, llI, nnI, rrI, jjI, kkJ, llJ, nnJ, rrJ, iiJ, zIIs, zJJs, nEF, nET, and_false, false_and, jmin, jmax, catS_n, catS_i, catS_r, catS_l, Nat.reduceLeDiff, j1eq1, n21, jt0, jt1, Bool.false_eq_true, Classical.not_not, true_or, or_true, false_or, or_false, true_imp_iff, false_imp_iff, not_true_eq_false, not_false_eq_true, jif0, jif1, jifb, ltT, ltF, leT, leF, eqT, eqF, jlt, jle, jeq, jlt0, jle0, jeq0, jge0, jgt0, jinB, jnat, clt, cle, ceq, cgt, cge, lI_add, lI_sub, lI_mul, jadd, jsub, jmul, jneg, jtol, b010, b011, pv_2t, Int.toNat_natCast, Option.some.injEq, exists_eq_left', if_true, if_false]
        refine PW.ss (r := []) rfl (le_b rfl) rfl rfl (le_b rfl) (le_b rfl) ?_
        refine t_M_isSmall (by constructor <;> omega) ⟨rfl, ⟨rfl, rfl⟩, ?_⟩
        have run : ∀ sm : Int, (sm = 1 ∧ 97 ≤ b ∧ b ≤ 122 ∨ sm = 0 ∧ 48 ≤ b ∧ b ≤ 57) → PW (d + 1) 198 91 [some (.ref m), some (.int (iI b)), none, none] [] g1 Q := by
          intro sm hsm
          rw [if_pos (by omega)] at eA
          rw [eA] at hq
          refine vs_ok 1 ?_
          rw [show ((gRes 198).drop 91).take 1 = [.iload 1] from rfl]
          simp (disch := omega) only [vs_iload1, vs_nil, gv_0, gv_1, gv_2, gv_3, pv_0, pv_1, va_rf_s, Nat.reduceDiv, Nat.reduceMod, Nat.reduceAdd, Nat.reduceMul, Int.reduceToNat, true_and, and_true, and_self, cP_eq, cP_ne, cP_lt, cP_ge, cP_gt, cP_le, eL_i, eL_l, eL_r, eL_n, Option.toList_none, Option.toList_some, List.nil_append, List.cons_append, kkI, llI, nnI, rrI, jjI, kkJ, llJ, nnJ, rrJ, iiJ, zIIs, zJJs, nEF, nET, and_false, false_and, jmin, jmax, catS_n, catS_i, catS_r, catS_l, Nat.reduceLeDiff, j1eq1, n21, jt0, jt1, Bool.false_eq_true, Classical.not_not, true_or, or_true, false_or, or_false, true_imp_iff, false_imp_iff, not_true_eq_false, not_false_eq_true, jif0, jif1, jifb, ltT, ltF, leT, leF, eqT, eqF, jlt, jle, jeq, jlt0, jle0, jeq0, jge0, jgt0, jinB, jnat, clt, cle, ceq, cgt, cge, lI_add, lI_sub, lI_mul, jadd, jsub, jmul, jneg, jtol, b010, b011, pv_2t, Int.toNat_natCast, Option.some.injEq, exists_eq_left', if_true, if_false]
          refine PW.ss (r := []) rfl (le_b rfl) rfl rfl (le_b rfl) (le_b rfl) ?_
          refine t_M_isSmall (by constructor <;> omega) ⟨rfl, ⟨rfl, rfl⟩, ?_⟩
          rw [show (if 97 ≤ (b : Int) ∧ (b : Int) ≤ 122 then (1 : Int) else 0) = sm by
            by_cases z : 97 ≤ (b : Int) ∧ (b : Int) ≤ 122
            · rw [if_pos z]; omega
            · rw [if_neg z]; omega]
          refine vs_ok 9 ?_
          rw [show ((gRes 198).drop 93).take 9 = [.istore 2, .iconst 1, .istore 3, .aload 0, .jsr_w 0, .putfield 12231, .aload 0, .iconst 0, .putfield 12200] from rfl]
          simp (disch := omega) only [vs_iconst, vs_jsr_w, vs_putfield, vs_aload0, vs_istore2n, vs_istore2i, vs_istore2r, vs_istore2l, vs_istore3n, vs_istore3i, vs_istore3r, vs_istore3l, vs_nil, gv_0, gv_1, gv_2, gv_3, pv_0, pv_1, va_rf_s, Nat.reduceDiv, Nat.reduceMod, Nat.reduceAdd, Nat.reduceMul, Int.reduceToNat, true_and, and_true, and_self, cP_eq, cP_ne, cP_lt, cP_ge, cP_gt, cP_le, eL_i, eL_l, eL_r, eL_n, Option.toList_none, Option.toList_some, List.nil_append, List.cons_append, kkI, llI, nnI, rrI, jjI, kkJ, llJ, nnJ, rrJ, iiJ, zIIs, zJJs, nEF, nET, and_false, false_and, jmin, jmax, catS_n, catS_i, catS_r, catS_l, Nat.reduceLeDiff, j1eq1, n21, jt0, jt1, Bool.false_eq_true, Classical.not_not, true_or, or_true, false_or, or_false, true_imp_iff, false_imp_iff, not_true_eq_false, not_false_eq_true, jif0, jif1, jifb, ltT, ltF, leT, leF, eqT, eqF, jlt, jle, jeq, jlt0, jle0, jeq0, jge0, jgt0, jinB, jnat, clt, cle, ceq, cgt, cge, lI_add, lI_sub, lI_mul, jadd, jsub, jmul, jneg, jtol, b010, b011, pv_2t, Int.toNat_natCast, Option.some.injEq, exists_eq_left', if_true, if_false, M1]
          have c3 : nxC g1 (zsI (zsJ g1 m 23 (lI 0)) m 20 (iI 0)) m := ((nxC.rf).J).I (by omega)
          refine t_M_run hq (by omega) (sz - p2) p2 0 0 0 0 0 0 1 _ (by omega) ⟨c2.tr c3, x1.of c3 (by rw [zI_s, if_neg (by omega)]; exact y4) (by omega), ?_, ?_, ?_, ?_⟩ ⟨by omega, by omega, fun z => Or.inr (by rw [hb]; omega), fun z => Or.inr (by rw [hb]; omega), ?_, ⟨by omega, by decide⟩, by decide, fun _ _ => rfl, by omega, fun _ _ => rfl⟩ rfl
          · rw [zI_s, if_neg (by omega)]; exact y18
          · rw [zI_s, if_neg (by omega)]; exact y19
          · rw [zI_s, if_pos ⟨rfl, rfl⟩]
          · show zJ (zsJ g1 m 23 (lI 0)) m 23 = _
            rw [zJJs, if_pos ⟨rfl, rfl⟩]
            rfl
          · rw [if_pos (by omega)]
        by_cases cl : 97 ≤ (b : Int) ∧ (b : Int) ≤ 122
        · rw [if_pos cl]
          refine vs_ok 1 ?_
          rw [show ((gRes 198).drop 48).take 1 = [.ifCond .ne 91] from rfl]
          simp (disch := omega) only [vs_ifCond, vs_nil, gv_0, gv_1, gv_2, gv_3, pv_0, pv_1, va_rf_s, Nat.reduceDiv, Nat.reduceMod, Nat.reduceAdd, Nat.reduceMul, Int.reduceToNat, true_and, and_true, and_self, cP_eq, cP_ne, cP_lt, cP_ge, cP_gt, cP_le, eL_i, eL_l, eL_r, eL_n, Option.toList_none, Option.toList_some, List.nil_append, List.cons_append, kkI, llI, nnI, rrI, jjI, kkJ, llJ, nnJ, rrJ, iiJ, zIIs, zJJs, nEF, nET, and_false, false_and, jmin, jmax, catS_n, catS_i, catS_r, catS_l, Nat.reduceLeDiff, j1eq1, n21, jt0, jt1, Bool.false_eq_true, Classical.not_not, true_or, or_true, false_or, or_false, true_imp_iff, false_imp_iff, not_true_eq_false, not_false_eq_true, jif0, jif1, jifb, ltT, ltF, leT, leF, eqT, eqF, jlt, jle, jeq, jlt0, jle0, jeq0, jge0, jgt0, jinB, jnat, clt, cle, ceq, cgt, cge, lI_add, lI_sub, lI_mul, jadd, jsub, jmul, jneg, jtol, b010, b011, pv_2t, Int.toNat_natCast, Option.some.injEq, exists_eq_left', if_true, if_false]
          exact run 1 (by omega)
        · rw [if_neg cl]
          refine vs_ok 1 ?_
          rw [show ((gRes 198).drop 48).take 1 = [.ifCond .ne 91] from rfl]
          simp (disch := omega) only [vs_ifCond, vs_nil, gv_0, gv_1, gv_2, gv_3, pv_0, pv_1, va_rf_s, Nat.reduceDiv, Nat.reduceMod, Nat.reduceAdd, Nat.reduceMul, Int.reduceToNat, true_and, and_true, and_self, cP_eq, cP_ne, cP_lt, cP_ge, cP_gt, cP_le, eL_i, eL_l, eL_r, eL_n, Option.toList_none, Option.toList_some, List.nil_append, List.cons_append, kkI, llI, nnI, rrI, jjI, kkJ, llJ, nnJ, rrJ, iiJ, zIIs, zJJs, nEF, nET, and_false, false_and, jmin, jmax, catS_n, catS_i, catS_r, catS_l, Nat.reduceLeDiff, j1eq1, n21, jt0, jt1, Bool.false_eq_true, Classical.not_not, true_or, or_true, false_or, or_false, true_imp_iff, false_imp_iff, not_true_eq_false, not_false_eq_true, jif0, jif1, jifb, ltT, ltF, leT, leF, eqT, eqF, jlt, jle, jeq, jlt0, jle0, jeq0, jge0, jgt0, jinB, jnat, clt, cle, ceq, cgt, cge, lI_add, lI_sub, lI_mul, jadd, jsub, jmul, jneg, jtol, b010, b011, pv_2t, Int.toNat_natCast, Option.some.injEq, exists_eq_left', if_true, if_false]
          refine vs_ok 1 ?_
          rw [show ((gRes 198).drop 49).take 1 = [.iload 1] from rfl]
          simp (disch := omega) only [vs_iload1, vs_nil, gv_0, gv_1, gv_2, gv_3, pv_0, pv_1, va_rf_s, Nat.reduceDiv, Nat.reduceMod, Nat.reduceAdd, Nat.reduceMul, Int.reduceToNat, true_and, and_true, and_self, cP_eq, cP_ne, cP_lt, cP_ge, cP_gt, cP_le, eL_i, eL_l, eL_r, eL_n, Option.toList_none, Option.toList_some, List.nil_append, List.cons_append, kkI, llI, nnI, rrI, jjI, kkJ, llJ, nnJ, rrJ, iiJ, zIIs, zJJs, nEF, nET, and_false, false_and, jmin, jmax, catS_n, catS_i, catS_r, catS_l, Nat.reduceLeDiff, j1eq1, n21, jt0, jt1, Bool.false_eq_true, Classical.not_not, true_or, or_true, false_or, or_false, true_imp_iff, false_imp_iff, not_true_eq_false, not_false_eq_true, jif0, jif1, jifb, ltT, ltF, leT, leF, eqT, eqF, jlt, jle, jeq, jlt0, jle0, jeq0, jge0, jgt0, jinB, jnat, clt, cle, ceq, cgt, cge, lI_add, lI_sub, lI_mul, jadd, jsub, jmul, jneg, jtol, b010, b011, pv_2t, Int.toNat_natCast, Option.some.injEq, exists_eq_left', if_true, if_false]
          refine PW.ss (r := []) rfl (le_b rfl) rfl rfl (le_b rfl) (le_b rfl) ?_
          refine t_M_isDigit (by constructor <;> omega) ⟨rfl, ⟨rfl, rfl⟩, ?_⟩
          by_cases cd : 48 ≤ (b : Int) ∧ (b : Int) ≤ 57
          · rw [if_pos cd]
            refine vs_ok 1 ?_
            rw [show ((gRes 198).drop 51).take 1 = [.ifCond .ne 91] from rfl]
            simp (disch := omega) only [vs_ifCond, vs_nil, gv_0, gv_1, gv_2, gv_3, pv_0, pv_1, va_rf_s, Nat.reduceDiv, Nat.reduceMod, Nat.reduceAdd, Nat.reduceMul, Int.reduceToNat, true_and, and_true, and_self, cP_eq, cP_ne, cP_lt, cP_ge, cP_gt, cP_le, eL_i, eL_l, eL_r, eL_n, Option.toList_none, Option.toList_some, List.nil_append, List.cons_append, kkI, llI, nnI, rrI, jjI, kkJ, llJ, nnJ, rrJ, iiJ, zIIs, zJJs, nEF, nET, and_false, false_and, jmin, jmax, catS_n, catS_i, catS_r, catS_l, Nat.reduceLeDiff, j1eq1, n21, jt0, jt1, Bool.false_eq_true, Classical.not_not, true_or, or_true, false_or, or_false, true_imp_iff, false_imp_iff, not_true_eq_false, not_false_eq_true, jif0, jif1, jifb, ltT, ltF, leT, leF, eqT, eqF, jlt, jle, jeq, jlt0, jle0, jeq0, jge0, jgt0, jinB, jnat, clt, cle, ceq, cgt, cge, lI_add, lI_sub, lI_mul, jadd, jsub, jmul, jneg, jtol, b010, b011, pv_2t, Int.toNat_natCast, Option.some.injEq, exists_eq_left', if_true, if_false]
            exact run 0 (by omega)
          · rw [if_neg cd]
            rw [if_neg (by omega)] at eA
            refine vs_ok 1 ?_
            rw [show ((gRes 198).drop 51).take 1 = [.ifCond .ne 91] from rfl]
            simp (disch := omega) only [vs_ifCond, vs_nil, gv_0, gv_1, gv_2, gv_3, pv_0, pv_1, va_rf_s, Nat.reduceDiv, Nat.reduceMod, Nat.reduceAdd, Nat.reduceMul, Int.reduceToNat, true_and, and_true, and_self, cP_eq, cP_ne, cP_lt, cP_ge, cP_gt, cP_le, eL_i, eL_l, eL_r, eL_n, Option.toList_none, Option.toList_some, List.nil_append, List.cons_append, kkI, llI, nnI, rrI, jjI, kkJ, llJ, nnJ, rrJ, iiJ, zIIs, zJJs, nEF, nET, and_false, false_and, jmin, jmax, catS_n, catS_i, catS_r, catS_l, Nat.reduceLeDiff, j1eq1, n21, jt0, jt1, Bool.false_eq_true, Classical.not_not, true_or, or_true, false_or, or_false, true_imp_iff, false_imp_iff, not_true_eq_false, not_false_eq_true, jif0, jif1, jifb, ltT, ltF, leT, leF, eqT, eqF, jlt, jle, jeq, jlt0, jle0, jeq0, jge0, jgt0, jinB, jnat, clt, cle, ceq, cgt, cge, lI_add, lI_sub, lI_mul, jadd, jsub, jmul, jneg, jtol, b010, b011, pv_2t, Int.toNat_natCast, Option.some.injEq, exists_eq_left', if_true, if_false]
            have fin : ∀ tk : Int, (tk = 3 ∧ sgB b ∨ tk = 4 ∧ ¬ sgB b) → PW (d + 1) 198 80 [some (.ref m), some (.int (iI b)), none, none] [.int (iI tk), .ref m] g1 Q := fun tk ht => by
              refine vs_ok 11 ?_
              rw [show ((gRes 198).drop 80).take 11 = [.putfield 12170, .aload 0, .iload 1, .putfield 12200, .aload 0, .dup, .getfield 12040, .iconst 1, .iadd, .putfield 12040, .return_] from rfl]
              simp (disch := omega) only [vs_iadd, vs_iconst, vs_getfield, vs_putfield, vs_return_, vs_dupi, vs_dupr, vs_aload0, vs_iload1, vs_nil, gv_0, gv_1, gv_2, gv_3, pv_0, pv_1, va_rf_s, Nat.reduceDiv, Nat.reduceMod, Nat.reduceAdd, Nat.reduceMul, Int.reduceToNat, true_and, and_true, and_self, cP_eq, cP_ne, cP_lt, cP_ge, cP_gt, cP_le, eL_i, eL_l, eL_r, eL_n, Option.toList_none, Option.toList_some, List.nil_append, List.cons_append, kkI, llI, nnI, rrI, jjI, kkJ, llJ, nnJ, rrJ, iiJ, zIIs, zJJs, nEF, nET, and_false, false_and, jmin, jmax, catS_n, catS_i, catS_r, catS_l, Nat.reduceLeDiff, j1eq1, n21, jt0, jt1, Bool.false_eq_true, Classical.not_not, true_or, or_true, false_or, or_false, true_imp_iff, false_imp_iff, not_true_eq_false, not_false_eq_true, jif0, jif1, jifb, ltT, ltF, leT, leF, eqT, eqF, jlt, jle, jeq, jlt0, jle0, jeq0, jge0, jgt0, jinB, jnat, clt, cle, ceq, cgt, cge, lI_add, lI_sub, lI_mul, jadd, jsub, jmul, jneg, jtol, b010, b011, pv_2t, Int.toNat_natCast, Option.some.injEq, exists_eq_left', if_true, if_false, M1, y4, show gRc 198 = 0 from rfl]
              have c3 : nxC g1 (zsI (zsI (zsI g1 m 17 (iI tk)) m 20 (iI b)) m 4 (iI ((p2 : Int) + 1))) m := (((nxC.rf).I (by omega)).I (by omega)).I (by omega)
              refine hq _ (c2.tr c3) ⟨p2 + 1, tk, p2, b, wo, x1.of c3 (by rw [zI_s, if_pos ⟨rfl, rfl⟩]; rfl) (by omega), ?_, by omega, ?_, ?_, y23, ⟨by omega, by omega, hwo⟩, ?_⟩
              · rw [zI_s, if_neg (by omega), zI_s, if_neg (by omega), zI_s, if_pos ⟨rfl, rfl⟩]
              · rw [zI_s, if_neg (by omega), zI_s, if_neg (by omega), zI_s, if_neg (by omega)]; exact y18
              · rw [zI_s, if_neg (by omega), zI_s, if_pos ⟨rfl, rfl⟩]
              · rw [eA]
                refine ⟨Or.inl (by show ((p2 + 1 : Nat) : Int) = (p2 : Int) + 1; omega), rfl, ?_⟩
                rcases ht with ⟨t1, t2⟩ | ⟨t1, t2⟩
                · rw [if_pos t2]
                  exact Or.inr (Or.inr (Or.inr (Or.inr (Or.inr ⟨rfl, t1, rfl⟩))))
                · rw [if_neg t2]
                  exact Or.inr (Or.inr (Or.inl ⟨rfl, t1⟩))
            have yes : sgB b → PW (d + 1) 198 77 [some (.ref m), some (.int (iI b)), none, none] [.ref m] g1 Q := fun z => by
              refine vs_ok 2 ?_
              rw [show ((gRes 198).drop 77).take 2 = [.iconst 3, .goto 80] from rfl]
              simp (disch := omega) only [vs_iconst, vs_goto, vs_nil, gv_0, gv_1, gv_2, gv_3, pv_0, pv_1, va_rf_s, Nat.reduceDiv, Nat.reduceMod, Nat.reduceAdd, Nat.reduceMul, Int.reduceToNat, true_and, and_true, and_self, cP_eq, cP_ne, cP_lt, cP_ge, cP_gt, cP_le, eL_i, eL_l, eL_r, eL_n, Option.toList_none, Option.toList_some, List.nil_append, List.cons_append, kkI, llI, nnI, rrI, jjI, kkJ, llJ, nnJ, rrJ, iiJ, zIIs, zJJs, nEF, nET, and_false, false_and, jmin, jmax, catS_n, catS_i, catS_r, catS_l, Nat.reduceLeDiff, j1eq1, n21, jt0, jt1, Bool.false_eq_true, Classical.not_not, true_or, or_true, false_or, or_false, true_imp_iff, false_imp_iff, not_true_eq_false, not_false_eq_true, jif0, jif1, jifb, ltT, ltF, leT, leF, eqT, eqF, jlt, jle, jeq, jlt0, jle0, jeq0, jge0, jgt0, jinB, jnat, clt, cle, ceq, cgt, cge, lI_add, lI_sub, lI_mul, jadd, jsub, jmul, jneg, jtol, b010, b011, pv_2t, Int.toNat_natCast, Option.some.injEq, exists_eq_left', if_true, if_false]
              exact fin 3 (Or.inl ⟨rfl, z⟩)
            by_cases s1 : (b : Int) = 59
            · refine vs_ok 27 ?_
              rw [show ((gRes 198).drop 52).take 27 = [.aload 0, .iload 1, .iconst 59, .if_icmp .eq 77, .iload 1, .iconst 61, .if_icmp .eq 77, .iload 1, .iconst 43, .if_icmp .eq 77, .iload 1, .iconst 45, .if_icmp .eq 77, .iload 1, .iconst 40, .if_icmp .eq 77, .iload 1, .iconst 41, .if_icmp .eq 77, .iload 1, .iconst 44, .if_icmp .eq 77, .iload 1, .iconst 46, .if_icmp .ne 79, .iconst 3, .goto 80] from rfl]
              simp (disch := omega) only [vs_iconst, vs_goto, vs_if_icmp, vs_aload0, vs_iload1, vs_nil, gv_0, gv_1, gv_2, gv_3, pv_0, pv_1, va_rf_s, Nat.reduceDiv, Nat.reduceMod, Nat.reduceAdd, Nat.reduceMul, Int.reduceToNat, true_and, and_true, and_self, cP_eq, cP_ne, cP_lt, cP_ge, cP_gt, cP_le, eL_i, eL_l, eL_r, eL_n, Option.toList_none, Option.toList_some, List.nil_append, List.cons_append, kkI, llI, nnI, rrI, jjI, kkJ, llJ, nnJ, rrJ, iiJ, zIIs, zJJs, nEF, nET, and_false, false_and, jmin, jmax, catS_n, catS_i, catS_r, catS_l, Nat.reduceLeDiff, j1eq1, n21, jt0, jt1, Bool.false_eq_true, Classical.not_not, true_or, or_true, false_or, or_false, true_imp_iff, false_imp_iff, not_true_eq_false, not_false_eq_true, jif0, jif1, jifb, ltT, ltF, leT, leF, eqT, eqF, jlt, jle, jeq, jlt0, jle0, jeq0, jge0, jgt0, jinB, jnat, clt, cle, ceq, cgt, cge, lI_add, lI_sub, lI_mul, jadd, jsub, jmul, jneg, jtol, b010, b011, pv_2t, Int.toNat_natCast, Option.some.injEq, exists_eq_left', if_true, if_false]
              exact yes (by omega)
            by_cases s2 : (b : Int) = 61
            · refine vs_ok 27 ?_
              rw [show ((gRes 198).drop 52).take 27 = [.aload 0, .iload 1, .iconst 59, .if_icmp .eq 77, .iload 1, .iconst 61, .if_icmp .eq 77, .iload 1, .iconst 43, .if_icmp .eq 77, .iload 1, .iconst 45, .if_icmp .eq 77, .iload 1, .iconst 40, .if_icmp .eq 77, .iload 1, .iconst 41, .if_icmp .eq 77, .iload 1, .iconst 44, .if_icmp .eq 77, .iload 1, .iconst 46, .if_icmp .ne 79, .iconst 3, .goto 80] from rfl]
              simp (disch := omega) only [vs_iconst, vs_goto, vs_if_icmp, vs_aload0, vs_iload1, vs_nil, gv_0, gv_1, gv_2, gv_3, pv_0, pv_1, va_rf_s, Nat.reduceDiv, Nat.reduceMod, Nat.reduceAdd, Nat.reduceMul, Int.reduceToNat, true_and, and_true, and_self, cP_eq, cP_ne, cP_lt, cP_ge, cP_gt, cP_le, eL_i, eL_l, eL_r, eL_n, Option.toList_none, Option.toList_some, List.nil_append, List.cons_append, kkI, llI, nnI, rrI, jjI, kkJ, llJ, nnJ, rrJ, iiJ, zIIs, zJJs, nEF, nET, and_false, false_and, jmin, jmax, catS_n, catS_i, catS_r, catS_l, Nat.reduceLeDiff, j1eq1, n21, jt0, jt1, Bool.false_eq_true, Classical.not_not, true_or, or_true, false_or, or_false, true_imp_iff, false_imp_iff, not_true_eq_false, not_false_eq_true, jif0, jif1, jifb, ltT, ltF, leT, leF, eqT, eqF, jlt, jle, jeq, jlt0, jle0, jeq0, jge0, jgt0, jinB, jnat, clt, cle, ceq, cgt, cge, lI_add, lI_sub, lI_mul, jadd, jsub, jmul, jneg, jtol, b010, b011, pv_2t, Int.toNat_natCast, Option.some.injEq, exists_eq_left', if_true, if_false]
              exact yes (by omega)
            by_cases s3 : (b : Int) = 43
            · refine vs_ok 27 ?_
              rw [show ((gRes 198).drop 52).take 27 = [.aload 0, .iload 1, .iconst 59, .if_icmp .eq 77, .iload 1, .iconst 61, .if_icmp .eq 77, .iload 1, .iconst 43, .if_icmp .eq 77, .iload 1, .iconst 45, .if_icmp .eq 77, .iload 1, .iconst 40, .if_icmp .eq 77, .iload 1, .iconst 41, .if_icmp .eq 77, .iload 1, .iconst 44, .if_icmp .eq 77, .iload 1, .iconst 46, .if_icmp .ne 79, .iconst 3, .goto 80] from rfl]
              simp (disch := omega) only [vs_iconst, vs_goto, vs_if_icmp, vs_aload0, vs_iload1, vs_nil, gv_0, gv_1, gv_2, gv_3, pv_0, pv_1, va_rf_s, Nat.reduceDiv, Nat.reduceMod, Nat.reduceAdd, Nat.reduceMul, Int.reduceToNat, true_and, and_true, and_self, cP_eq, cP_ne, cP_lt, cP_ge, cP_gt, cP_le, eL_i, eL_l, eL_r, eL_n, Option.toList_none, Option.toList_some, List.nil_append, List.cons_append, kkI, llI, nnI, rrI, jjI, kkJ, llJ, nnJ, rrJ, iiJ, zIIs, zJJs, nEF, nET, and_false, false_and, jmin, jmax, catS_n, catS_i, catS_r, catS_l, Nat.reduceLeDiff, j1eq1, n21, jt0, jt1, Bool.false_eq_true, Classical.not_not, true_or, or_true, false_or, or_false, true_imp_iff, false_imp_iff, not_true_eq_false, not_false_eq_true, jif0, jif1, jifb, ltT, ltF, leT, leF, eqT, eqF, jlt, jle, jeq, jlt0, jle0, jeq0, jge0, jgt0, jinB, jnat, clt, cle, ceq, cgt, cge, lI_add, lI_sub, lI_mul, jadd, jsub, jmul, jneg, jtol, b010, b011, pv_2t, Int.toNat_natCast, Option.some.injEq, exists_eq_left', if_true, if_false]
              exact yes (by omega)
            by_cases s4 : (b : Int) = 45
            · refine vs_ok 27 ?_
              rw [show ((gRes 198).drop 52).take 27 = [.aload 0, .iload 1, .iconst 59, .if_icmp .eq 77, .iload 1, .iconst 61, .if_icmp .eq 77, .iload 1, .iconst 43, .if_icmp .eq 77, .iload 1, .iconst 45, .if_icmp .eq 77, .iload 1, .iconst 40, .if_icmp .eq 77, .iload 1, .iconst 41, .if_icmp .eq 77, .iload 1, .iconst 44, .if_icmp .eq 77, .iload 1, .iconst 46, .if_icmp .ne 79, .iconst 3, .goto 80] from rfl]
              simp (disch := omega) only [vs_iconst, vs_goto, vs_if_icmp, vs_aload0, vs_iload1, vs_nil, gv_0, gv_1, gv_2, gv_3, pv_0, pv_1, va_rf_s, Nat.reduceDiv, Nat.reduceMod, Nat.reduceAdd, Nat.reduceMul, Int.reduceToNat, true_and, and_true, and_self, cP_eq, cP_ne, cP_lt, cP_ge, cP_gt, cP_le, eL_i, eL_l, eL_r, eL_n, Option.toList_none, Option.toList_some, List.nil_append, List.cons_append, kkI, llI, nnI, rrI, jjI, kkJ, llJ, nnJ, rrJ, iiJ, zIIs, zJJs, nEF, nET, and_false, false_and, jmin, jmax, catS_n, catS_i, catS_r, catS_l, Nat.reduceLeDiff, j1eq1, n21, jt0, jt1, Bool.false_eq_true, Classical.not_not, true_or, or_true, false_or, or_false, true_imp_iff, false_imp_iff, not_true_eq_false, not_false_eq_true, jif0, jif1, jifb, ltT, ltF, leT, leF, eqT, eqF, jlt, jle, jeq, jlt0, jle0, jeq0, jge0, jgt0, jinB, jnat, clt, cle, ceq, cgt, cge, lI_add, lI_sub, lI_mul, jadd, jsub, jmul, jneg, jtol, b010, b011, pv_2t, Int.toNat_natCast, Option.some.injEq, exists_eq_left', if_true, if_false]
              exact yes (by omega)
            by_cases s5 : (b : Int) = 40
            · refine vs_ok 27 ?_
              rw [show ((gRes 198).drop 52).take 27 = [.aload 0, .iload 1, .iconst 59, .if_icmp .eq 77, .iload 1, .iconst 61, .if_icmp .eq 77, .iload 1, .iconst 43, .if_icmp .eq 77, .iload 1, .iconst 45, .if_icmp .eq 77, .iload 1, .iconst 40, .if_icmp .eq 77, .iload 1, .iconst 41, .if_icmp .eq 77, .iload 1, .iconst 44, .if_icmp .eq 77, .iload 1, .iconst 46, .if_icmp .ne 79, .iconst 3, .goto 80] from rfl]
              simp (disch := omega) only [vs_iconst, vs_goto, vs_if_icmp, vs_aload0, vs_iload1, vs_nil, gv_0, gv_1, gv_2, gv_3, pv_0, pv_1, va_rf_s, Nat.reduceDiv, Nat.reduceMod, Nat.reduceAdd, Nat.reduceMul, Int.reduceToNat, true_and, and_true, and_self, cP_eq, cP_ne, cP_lt, cP_ge, cP_gt, cP_le, eL_i, eL_l, eL_r, eL_n, Option.toList_none, Option.toList_some, List.nil_append, List.cons_append, kkI, llI, nnI, rrI, jjI, kkJ, llJ, nnJ, rrJ, iiJ, zIIs, zJJs, nEF, nET, and_false, false_and, jmin, jmax, catS_n, catS_i, catS_r, catS_l, Nat.reduceLeDiff, j1eq1, n21, jt0, jt1, Bool.false_eq_true, Classical.not_not, true_or, or_true, false_or, or_false, true_imp_iff, false_imp_iff, not_true_eq_false, not_false_eq_true, jif0, jif1, jifb, ltT, ltF, leT, leF, eqT, eqF, jlt, jle, jeq, jlt0, jle0, jeq0, jge0, jgt0, jinB, jnat, clt, cle, ceq, cgt, cge, lI_add, lI_sub, lI_mul, jadd, jsub, jmul, jneg, jtol, b010, b011, pv_2t, Int.toNat_natCast, Option.some.injEq, exists_eq_left', if_true, if_false]
              exact yes (by omega)
            by_cases s6 : (b : Int) = 41
            · refine vs_ok 27 ?_
              rw [show ((gRes 198).drop 52).take 27 = [.aload 0, .iload 1, .iconst 59, .if_icmp .eq 77, .iload 1, .iconst 61, .if_icmp .eq 77, .iload 1, .iconst 43, .if_icmp .eq 77, .iload 1, .iconst 45, .if_icmp .eq 77, .iload 1, .iconst 40, .if_icmp .eq 77, .iload 1, .iconst 41, .if_icmp .eq 77, .iload 1, .iconst 44, .if_icmp .eq 77, .iload 1, .iconst 46, .if_icmp .ne 79, .iconst 3, .goto 80] from rfl]
              simp (disch := omega) only [vs_iconst, vs_goto, vs_if_icmp, vs_aload0, vs_iload1, vs_nil, gv_0, gv_1, gv_2, gv_3, pv_0, pv_1, va_rf_s, Nat.reduceDiv, Nat.reduceMod, Nat.reduceAdd, Nat.reduceMul, Int.reduceToNat, true_and, and_true, and_self, cP_eq, cP_ne, cP_lt, cP_ge, cP_gt, cP_le, eL_i, eL_l, eL_r, eL_n, Option.toList_none, Option.toList_some, List.nil_append, List.cons_append, kkI, llI, nnI, rrI, jjI, kkJ, llJ, nnJ, rrJ, iiJ, zIIs, zJJs, nEF, nET, and_false, false_and, jmin, jmax, catS_n, catS_i, catS_r, catS_l, Nat.reduceLeDiff, j1eq1, n21, jt0, jt1, Bool.false_eq_true, Classical.not_not, true_or, or_true, false_or, or_false, true_imp_iff, false_imp_iff, not_true_eq_false, not_false_eq_true, jif0, jif1, jifb, ltT, ltF, leT, leF, eqT, eqF, jlt, jle, jeq, jlt0, jle0, jeq0, jge0, jgt0, jinB, jnat, clt, cle, ceq, cgt, cge, lI_add, lI_sub, lI_mul, jadd, jsub, jmul, jneg, jtol, b010, b011, pv_2t, Int.toNat_natCast, Option.some.injEq, exists_eq_left', if_true, if_false]
              exact yes (by omega)
            by_cases s7 : (b : Int) = 44
            · refine vs_ok 27 ?_
              rw [show ((gRes 198).drop 52).take 27 = [.aload 0, .iload 1, .iconst 59, .if_icmp .eq 77, .iload 1, .iconst 61, .if_icmp .eq 77, .iload 1, .iconst 43, .if_icmp .eq 77, .iload 1, .iconst 45, .if_icmp .eq 77, .iload 1, .iconst 40, .if_icmp .eq 77, .iload 1, .iconst 41, .if_icmp .eq 77, .iload 1, .iconst 44, .if_icmp .eq 77, .iload 1, .iconst 46, .if_icmp .ne 79, .iconst 3, .goto 80] from rfl]
              simp (disch := omega) only [vs_iconst, vs_goto, vs_if_icmp, vs_aload0, vs_iload1, vs_nil, gv_0, gv_1, gv_2, gv_3, pv_0, pv_1, va_rf_s, Nat.reduceDiv, Nat.reduceMod, Nat.reduceAdd, Nat.reduceMul, Int.reduceToNat, true_and, and_true, and_self, cP_eq, cP_ne, cP_lt, cP_ge, cP_gt, cP_le, eL_i, eL_l, eL_r, eL_n, Option.toList_none, Option.toList_some, List.nil_append, List.cons_append, kkI, llI, nnI, rrI, jjI, kkJ, llJ, nnJ, rrJ, iiJ, zIIs, zJJs, nEF, nET, and_false, false_and, jmin, jmax, catS_n, catS_i, catS_r, catS_l, Nat.reduceLeDiff, j1eq1, n21, jt0, jt1, Bool.false_eq_true, Classical.not_not, true_or, or_true, false_or, or_false, true_imp_iff, false_imp_iff, not_true_eq_false, not_false_eq_true, jif0, jif1, jifb, ltT, ltF, leT, leF, eqT, eqF, jlt, jle, jeq, jlt0, jle0, jeq0, jge0, jgt0, jinB, jnat, clt, cle, ceq, cgt, cge, lI_add, lI_sub, lI_mul, jadd, jsub, jmul, jneg, jtol, b010, b011, pv_2t, Int.toNat_natCast, Option.some.injEq, exists_eq_left', if_true, if_false]
              exact yes (by omega)
            by_cases s8 : (b : Int) = 46
            · refine vs_ok 25 ?_
              rw [show ((gRes 198).drop 52).take 25 = [.aload 0, .iload 1, .iconst 59, .if_icmp .eq 77, .iload 1, .iconst 61, .if_icmp .eq 77, .iload 1, .iconst 43, .if_icmp .eq 77, .iload 1, .iconst 45, .if_icmp .eq 77, .iload 1, .iconst 40, .if_icmp .eq 77, .iload 1, .iconst 41, .if_icmp .eq 77, .iload 1, .iconst 44, .if_icmp .eq 77, .iload 1, .iconst 46, .if_icmp .ne 79] from rfl]
              simp (disch := omega) only [vs_iconst, vs_if_icmp, vs_aload0, vs_iload1, vs_nil, gv_0, gv_1, gv_2, gv_3, pv_0, pv_1, va_rf_s, Nat.reduceDiv, Nat.reduceMod, Nat.reduceAdd, Nat.reduceMul, Int.reduceToNat, true_and, and_true, and_self, cP_eq, cP_ne, cP_lt, cP_ge, cP_gt, cP_le, eL_i, eL_l, eL_r, eL_n, Option.toList_none, Option.toList_some, List.nil_append, List.cons_append, kkI, llI, nnI, rrI, jjI, kkJ, llJ, nnJ, rrJ, iiJ, zIIs, zJJs, nEF, nET, and_false, false_and, jmin, jmax, catS_n, catS_i, catS_r, catS_l, Nat.reduceLeDiff, j1eq1, n21, jt0, jt1, Bool.false_eq_true, Classical.not_not, true_or, or_true, false_or, or_false, true_imp_iff, false_imp_iff, not_true_eq_false, not_false_eq_true, jif0, jif1, jifb, ltT, ltF, leT, leF, eqT, eqF, jlt, jle, jeq, jlt0, jle0, jeq0, jge0, jgt0, jinB, jnat, clt, cle, ceq, cgt, cge, lI_add, lI_sub, lI_mul, jadd, jsub, jmul, jneg, jtol, b010, b011, pv_2t, Int.toNat_natCast, Option.some.injEq, exists_eq_left', if_true, if_false]
              exact yes (by omega)
            refine vs_ok 25 ?_
            rw [show ((gRes 198).drop 52).take 25 = [.aload 0, .iload 1, .iconst 59, .if_icmp .eq 77, .iload 1, .iconst 61, .if_icmp .eq 77, .iload 1, .iconst 43, .if_icmp .eq 77, .iload 1, .iconst 45, .if_icmp .eq 77, .iload 1, .iconst 40, .if_icmp .eq 77, .iload 1, .iconst 41, .if_icmp .eq 77, .iload 1, .iconst 44, .if_icmp .eq 77, .iload 1, .iconst 46, .if_icmp .ne 79] from rfl]
            simp (disch := omega) only [vs_iconst, vs_if_icmp, vs_aload0, vs_iload1, vs_nil, gv_0, gv_1, gv_2, gv_3, pv_0, pv_1, va_rf_s, Nat.reduceDiv, Nat.reduceMod, Nat.reduceAdd, Nat.reduceMul, Int.reduceToNat, true_and, and_true, and_self, cP_eq, cP_ne, cP_lt, cP_ge, cP_gt, cP_le, eL_i, eL_l, eL_r, eL_n, Option.toList_none, Option.toList_some, List.nil_append, List.cons_append, kkI, llI, nnI, rrI, jjI, kkJ, llJ, nnJ, rrJ, iiJ, zIIs, zJJs, nEF, nET, and_false, false_and, jmin, jmax, catS_n, catS_i, catS_r, catS_l, Nat.reduceLeDiff, j1eq1, n21, jt0, jt1, Bool.false_eq_true, Classical.not_not, true_or, or_true, false_or, or_false, true_imp_iff, false_imp_iff, not_true_eq_false, not_false_eq_true, jif0, jif1, jifb, ltT, ltF, leT, leF, eqT, eqF, jlt, jle, jeq, jlt0, jle0, jeq0, jge0, jgt0, jinB, jnat, clt, cle, ceq, cgt, cge, lI_add, lI_sub, lI_mul, jadd, jsub, jmul, jneg, jtol, b010, b011, pv_2t, Int.toNat_natCast, Option.some.injEq, exists_eq_left', if_true, if_false]
            refine vs_ok 1 ?_
            rw [show ((gRes 198).drop 79).take 1 = [.iconst 4] from rfl]
            simp (disch := omega) only [vs_iconst, vs_nil, gv_0, gv_1, gv_2, gv_3, pv_0, pv_1, va_rf_s, Nat.reduceDiv, Nat.reduceMod, Nat.reduceAdd, Nat.reduceMul, Int.reduceToNat, true_and, and_true, and_self, cP_eq, cP_ne, cP_lt, cP_ge, cP_gt, cP_le, eL_i, eL_l, eL_r, eL_n, Option.toList_none, Option.toList_some, List.nil_append, List.cons_append, kkI, llI, nnI, rrI, jjI, kkJ, llJ, nnJ, rrJ, iiJ, zIIs, zJJs, nEF, nET, and_false, false_and, jmin, jmax, catS_n, catS_i, catS_r, catS_l, Nat.reduceLeDiff, j1eq1, n21, jt0, jt1, Bool.false_eq_true, Classical.not_not, true_or, or_true, false_or, or_false, true_imp_iff, false_imp_iff, not_true_eq_false, not_false_eq_true, jif0, jif1, jifb, ltT, ltF, leT, leF, eqT, eqF, jlt, jle, jeq, jlt0, jle0, jeq0, jge0, jgt0, jinB, jnat, clt, cle, ceq, cgt, cge, lI_add, lI_sub, lI_mul, jadd, jsub, jmul, jneg, jtol, b010, b011, pv_2t, Int.toNat_natCast, Option.some.injEq, exists_eq_left', if_true, if_false]
            exact fin 4 (Or.inr ⟨rfl, by omega⟩)
      · rw [show pkB B sz p2 = -1 from if_neg ce]
        rw [if_pos (by omega)] at eA
        refine vs_ok 3 ?_
        rw [show ((gRes 198).drop 39).take 3 = [.istore 1, .iload 1, .ifCond .ge 46] from rfl]
        simp (disch := omega) only [vs_ifCond, vs_iload1, vs_istore1n, vs_istore1i, vs_istore1r, vs_istore1l, vs_nil, gv_0, gv_1, gv_2, gv_3, pv_0, pv_1, va_rf_s, Nat.reduceDiv, Nat.reduceMod, Nat.reduceAdd, Nat.reduceMul, Int.reduceToNat, true_and, and_true, and_self, cP_eq, cP_ne, cP_lt, cP_ge, cP_gt, cP_le, eL_i, eL_l, eL_r, eL_n, Option.toList_none, Option.toList_some, List.nil_append, List.cons_append, kkI, llI, nnI, rrI, jjI, kkJ, llJ, nnJ, rrJ, iiJ, zIIs, zJJs, nEF, nET, and_false, false_and, jmin, jmax, catS_n, catS_i, catS_r, catS_l, Nat.reduceLeDiff, j1eq1, n21, jt0, jt1, Bool.false_eq_true, Classical.not_not, true_or, or_true, false_or, or_false, true_imp_iff, false_imp_iff, not_true_eq_false, not_false_eq_true, jif0, jif1, jifb, ltT, ltF, leT, leF, eqT, eqF, jlt, jle, jeq, jlt0, jle0, jeq0, jge0, jgt0, jinB, jnat, clt, cle, ceq, cgt, cge, lI_add, lI_sub, lI_mul, jadd, jsub, jmul, jneg, jtol, b010, b011, pv_2t, Int.toNat_natCast, Option.some.injEq, exists_eq_left', if_true, if_false]
        refine vs_ok 4 ?_
        rw [show ((gRes 198).drop 42).take 4 = [.aload 0, .iconst 0, .putfield 12170, .return_] from rfl]
        simp (disch := omega) only [vs_iconst, vs_putfield, vs_return_, vs_aload0, vs_nil, gv_0, gv_1, gv_2, gv_3, pv_0, pv_1, va_rf_s, Nat.reduceDiv, Nat.reduceMod, Nat.reduceAdd, Nat.reduceMul, Int.reduceToNat, true_and, and_true, and_self, cP_eq, cP_ne, cP_lt, cP_ge, cP_gt, cP_le, eL_i, eL_l, eL_r, eL_n, Option.toList_none, Option.toList_some, List.nil_append, List.cons_append, kkI, llI, nnI, rrI, jjI, kkJ, llJ, nnJ, rrJ, iiJ, zIIs, zJJs, nEF, nET, and_false, false_and, jmin, jmax, catS_n, catS_i, catS_r, catS_l, Nat.reduceLeDiff, j1eq1, n21, jt0, jt1, Bool.false_eq_true, Classical.not_not, true_or, or_true, false_or, or_false, true_imp_iff, false_imp_iff, not_true_eq_false, not_false_eq_true, jif0, jif1, jifb, ltT, ltF, leT, leF, eqT, eqF, jlt, jle, jeq, jlt0, jle0, jeq0, jge0, jgt0, jinB, jnat, clt, cle, ceq, cgt, cge, lI_add, lI_sub, lI_mul, jadd, jsub, jmul, jneg, jtol, b010, b011, pv_2t, Int.toNat_natCast, Option.some.injEq, exists_eq_left', if_true, if_false, M1, show gRc 198 = 0 from rfl]
        have c3 : nxC g1 (zsI g1 m 17 (iI 0)) m := (nxC.rf).I (by omega)
        refine hq _ (c2.tr c3) ⟨p2, 0, p2, nu, wo, x1.of c3 (by rw [zI_s, if_neg (by omega)]; exact y4) (by omega), by rw [zI_s, if_pos ⟨rfl, rfl⟩], by omega, by rw [zI_s, if_neg (by omega)]; exact y18, by rw [zI_s, if_neg (by omega)]; exact y20, y23, ⟨by omega, hnu, hwo⟩, ?_⟩
        rw [eA]
        exact ⟨Or.inl (by show (p2 : Int) = L; omega), by show (p2 : Int) = L; omega, Or.inl ⟨rfl, by omega, rfl⟩⟩
    by_cases cz : sz ≤ 500
    · refine vs_ok 4 ?_
      rw [show ((gRes 198).drop 22).take 4 = [.aload 0, .getfield 12030, .iconst 500, .if_icmp .le 37] from rfl]
      simp (disch := omega) only [vs_iconst, vs_if_icmp, vs_getfield, vs_aload0, vs_nil, gv_0, gv_1, gv_2, gv_3, pv_0, pv_1, va_rf_s, Nat.reduceDiv, Nat.reduceMod, Nat.reduceAdd, Nat.reduceMul, Int.reduceToNat, true_and, and_true, and_self, cP_eq, cP_ne, cP_lt, cP_ge, cP_gt, cP_le, eL_i, eL_l, eL_r, eL_n, Option.toList_none, Option.toList_some, List.nil_append, List.cons_append, kkI, llI, nnI, rrI, jjI, kkJ, llJ, nnJ, rrJ, iiJ, zIIs, zJJs, nEF, nET, and_false, false_and, jmin, jmax, catS_n, catS_i, catS_r, catS_l, Nat.reduceLeDiff, j1eq1, n21, jt0, jt1, Bool.false_eq_true, Classical.not_not, true_or, or_true, false_or, or_false, true_imp_iff, false_imp_iff, not_true_eq_false, not_false_eq_true, jif0, jif1, jifb, ltT, ltF, leT, leF, eqT, eqF, jlt, jle, jeq, jlt0, jle0, jeq0, jge0, jgt0, jinB, jnat, clt, cle, ceq, cgt, cge, lI_add, lI_sub, lI_mul, jadd, jsub, jmul, jneg, jtol, b010, b011, pv_2t, Int.toNat_natCast, Option.some.injEq, exists_eq_left', if_true, if_false, M1, y3]
      exact p37 (Or.inl cz)
    · by_cases cp : p2 < 500
      · refine vs_ok 4 ?_
        rw [show ((gRes 198).drop 22).take 4 = [.aload 0, .getfield 12030, .iconst 500, .if_icmp .le 37] from rfl]
        simp (disch := omega) only [vs_iconst, vs_if_icmp, vs_getfield, vs_aload0, vs_nil, gv_0, gv_1, gv_2, gv_3, pv_0, pv_1, va_rf_s, Nat.reduceDiv, Nat.reduceMod, Nat.reduceAdd, Nat.reduceMul, Int.reduceToNat, true_and, and_true, and_self, cP_eq, cP_ne, cP_lt, cP_ge, cP_gt, cP_le, eL_i, eL_l, eL_r, eL_n, Option.toList_none, Option.toList_some, List.nil_append, List.cons_append, kkI, llI, nnI, rrI, jjI, kkJ, llJ, nnJ, rrJ, iiJ, zIIs, zJJs, nEF, nET, and_false, false_and, jmin, jmax, catS_n, catS_i, catS_r, catS_l, Nat.reduceLeDiff, j1eq1, n21, jt0, jt1, Bool.false_eq_true, Classical.not_not, true_or, or_true, false_or, or_false, true_imp_iff, false_imp_iff, not_true_eq_false, not_false_eq_true, jif0, jif1, jifb, ltT, ltF, leT, leF, eqT, eqF, jlt, jle, jeq, jlt0, jle0, jeq0, jge0, jgt0, jinB, jnat, clt, cle, ceq, cgt, cge, lI_add, lI_sub, lI_mul, jadd, jsub, jmul, jneg, jtol, b010, b011, pv_2t, Int.toNat_natCast, Option.some.injEq, exists_eq_left', if_true, if_false, M1, y3]
        refine vs_ok 4 ?_
        rw [show ((gRes 198).drop 26).take 4 = [.aload 0, .getfield 12040, .iconst 500, .if_icmp .lt 37] from rfl]
        simp (disch := omega) only [vs_iconst, vs_if_icmp, vs_getfield, vs_aload0, vs_nil, gv_0, gv_1, gv_2, gv_3, pv_0, pv_1, va_rf_s, Nat.reduceDiv, Nat.reduceMod, Nat.reduceAdd, Nat.reduceMul, Int.reduceToNat, true_and, and_true, and_self, cP_eq, cP_ne, cP_lt, cP_ge, cP_gt, cP_le, eL_i, eL_l, eL_r, eL_n, Option.toList_none, Option.toList_some, List.nil_append, List.cons_append, kkI, llI, nnI, rrI, jjI, kkJ, llJ, nnJ, rrJ, iiJ, zIIs, zJJs, nEF, nET, and_false, false_and, jmin, jmax, catS_n, catS_i, catS_r, catS_l, Nat.reduceLeDiff, j1eq1, n21, jt0, jt1, Bool.false_eq_true, Classical.not_not, true_or, or_true, false_or, or_false, true_imp_iff, false_imp_iff, not_true_eq_false, not_false_eq_true, jif0, jif1, jifb, ltT, ltF, leT, leF, eqT, eqF, jlt, jle, jeq, jlt0, jle0, jeq0, jge0, jgt0, jinB, jnat, clt, cle, ceq, cgt, cge, lI_add, lI_sub, lI_mul, jadd, jsub, jmul, jneg, jtol, b010, b011, pv_2t, Int.toNat_natCast, Option.some.injEq, exists_eq_left', if_true, if_false, M1, y4]
        exact p37 (Or.inr cp)
      · rw [if_pos (by omega)] at eA
        refine vs_ok 4 ?_
        rw [show ((gRes 198).drop 22).take 4 = [.aload 0, .getfield 12030, .iconst 500, .if_icmp .le 37] from rfl]
        simp (disch := omega) only [vs_iconst, vs_if_icmp, vs_getfield, vs_aload0, vs_nil, gv_0, gv_1, gv_2, gv_3, pv_0, pv_1, va_rf_s, Nat.reduceDiv, Nat.reduceMod, Nat.reduceAdd, Nat.reduceMul, Int.reduceToNat, true_and, and_true, and_self, cP_eq, cP_ne, cP_lt, cP_ge, cP_gt, cP_le, eL_i, eL_l, eL_r, eL_n, Option.toList_none, Option.toList_some, List.nil_append, List.cons_append, kkI, llI, nnI, rrI, jjI, kkJ, llJ, nnJ, rrJ, iiJ, zIIs, zJJs, nEF, nET, and_false, false_and, jmin, jmax, catS_n, catS_i, catS_r, catS_l, Nat.reduceLeDiff, j1eq1, n21, jt0, jt1, Bool.false_eq_true, Classical.not_not, true_or, or_true, false_or, or_false, true_imp_iff, false_imp_iff, not_true_eq_false, not_false_eq_true, jif0, jif1, jifb, ltT, ltF, leT, leF, eqT, eqF, jlt, jle, jeq, jlt0, jle0, jeq0, jge0, jgt0, jinB, jnat, clt, cle, ceq, cgt, cge, lI_add, lI_sub, lI_mul, jadd, jsub, jmul, jneg, jtol, b010, b011, pv_2t, Int.toNat_natCast, Option.some.injEq, exists_eq_left', if_true, if_false, M1, y3]
        refine vs_ok 4 ?_
        rw [show ((gRes 198).drop 26).take 4 = [.aload 0, .getfield 12040, .iconst 500, .if_icmp .lt 37] from rfl]
        simp (disch := omega) only [vs_iconst, vs_if_icmp, vs_getfield, vs_aload0, vs_nil, gv_0, gv_1, gv_2, gv_3, pv_0, pv_1, va_rf_s, Nat.reduceDiv, Nat.reduceMod, Nat.reduceAdd, Nat.reduceMul, Int.reduceToNat, true_and, and_true, and_self, cP_eq, cP_ne, cP_lt, cP_ge, cP_gt, cP_le, eL_i, eL_l, eL_r, eL_n, Option.toList_none, Option.toList_some, List.nil_append, List.cons_append, kkI, llI, nnI, rrI, jjI, kkJ, llJ, nnJ, rrJ, iiJ, zIIs, zJJs, nEF, nET, and_false, false_and, jmin, jmax, catS_n, catS_i, catS_r, catS_l, Nat.reduceLeDiff, j1eq1, n21, jt0, jt1, Bool.false_eq_true, Classical.not_not, true_or, or_true, false_or, or_false, true_imp_iff, false_imp_iff, not_true_eq_false, not_false_eq_true, jif0, jif1, jifb, ltT, ltF, leT, leF, eqT, eqF, jlt, jle, jeq, jlt0, jle0, jeq0, jge0, jgt0, jinB, jnat, clt, cle, ceq, cgt, cge, lI_add, lI_sub, lI_mul, jadd, jsub, jmul, jneg, jtol, b010, b011, pv_2t, Int.toNat_natCast, Option.some.injEq, exists_eq_left', if_true, if_false, M1, y4]
        refine vs_ok 7 ?_
        rw [show ((gRes 198).drop 30).take 7 = [.aload 0, .iconst 500, .putfield 12180, .aload 0, .iconst 4, .putfield 12170, .return_] from rfl]
        simp (disch := omega) only [vs_iconst, vs_putfield, vs_return_, vs_aload0, vs_nil, gv_0, gv_1, gv_2, gv_3, pv_0, pv_1, va_rf_s, Nat.reduceDiv, Nat.reduceMod, Nat.reduceAdd, Nat.reduceMul, Int.reduceToNat, true_and, and_true, and_self, cP_eq, cP_ne, cP_lt, cP_ge, cP_gt, cP_le, eL_i, eL_l, eL_r, eL_n, Option.toList_none, Option.toList_some, List.nil_append, List.cons_append, kkI, llI, nnI, rrI, jjI, kkJ, llJ, nnJ, rrJ, iiJ, zIIs, zJJs, nEF, nET, and_false, false_and, jmin, jmax, catS_n, catS_i, catS_r, catS_l, Nat.reduceLeDiff, j1eq1, n21, jt0, jt1, Bool.false_eq_true, Classical.not_not, true_or, or_true, false_or, or_false, true_imp_iff, false_imp_iff, not_true_eq_false, not_false_eq_true, jif0, jif1, jifb, ltT, ltF, leT, leF, eqT, eqF, jlt, jle, jeq, jlt0, jle0, jeq0, jge0, jgt0, jinB, jnat, clt, cle, ceq, cgt, cge, lI_add, lI_sub, lI_mul, jadd, jsub, jmul, jneg, jtol, b010, b011, pv_2t, Int.toNat_natCast, Option.some.injEq, exists_eq_left', if_true, if_false, M1, show gRc 198 = 0 from rfl]
        have c3 : nxC g1 (zsI (zsI g1 m 18 (iI 500)) m 17 (iI 4)) m := ((nxC.rf).I (by omega)).I (by omega)
        refine hq _ (c2.tr c3) ⟨p2, 4, 500, nu, wo, x1.of c3 (by rw [zI_s, if_neg (by omega), zI_s, if_neg (by omega)]; exact y4) (by omega), by rw [zI_s, if_pos ⟨rfl, rfl⟩], by omega, by rw [zI_s, if_neg (by omega), zI_s, if_pos ⟨rfl, rfl⟩], by rw [zI_s, if_neg (by omega), zI_s, if_neg (by omega)]; exact y20, y23, ⟨by omega, hnu, hwo⟩, ?_⟩
        rw [eA]
        exact ⟨Or.inr ⟨by omega, by omega, by show 500 ≤ L; omega⟩, by show (500 : Int) = L; omega, Or.inr (Or.inl ⟨rfl, by omega, rfl⟩)⟩
  -- blanks
  have lp : ∀ (j p2 : Nat) (g : Hp), j + p2 = sz → ((p2 : Int) < L → skF B sz L (L - p2).toNat p2 = a) → (L ≤ p2 → L ≤ a) → nxC h g m → nxG g m sz p2 B → zI g m 20 = iI nu → zJ g m 23 = lI wo → PW (d + 1) 198 0 [some (.ref m), none, none, none] [] g Q := by
    intro j
    induction j with
    | zero =>
      intro p2 g hj hF hF2 c0 xg g20 g23
      have M := xg.1.k
      refine vs_ok 1 ?_
      rw [show ((gRes 198).drop 0).take 1 = [.aload 0] from rfl]
      simp (disch := omega) only [vs_aload0, vs_nil, gv_0, gv_1, gv_2, gv_3, pv_0, pv_1, va_rf_s, Nat.reduceDiv, Nat.reduceMod, Nat.reduceAdd, Nat.reduceMul, Int.reduceToNat, true_and, and_true, and_self, cP_eq, cP_ne, cP_lt, cP_ge, cP_gt, cP_le, eL_i, eL_l, eL_r, eL_n, Option.toList_none, Option.toList_some, List.nil_append, List.cons_append, kkI, llI, nnI, rrI, jjI, kkJ, llJ, nnJ, rrJ, iiJ, zIIs, zJJs, nEF, nET, and_false, false_and, jmin, jmax, catS_n, catS_i, catS_r, catS_l, Nat.reduceLeDiff, j1eq1, n21, jt0, jt1, Bool.false_eq_true, Classical.not_not, true_or, or_true, false_or, or_false, true_imp_iff, false_imp_iff, not_true_eq_false, not_false_eq_true, jif0, jif1, jifb, ltT, ltF, leT, leF, eqT, eqF, jlt, jle, jeq, jlt0, jle0, jeq0, jge0, jgt0, jinB, jnat, clt, cle, ceq, cgt, cge, lI_add, lI_sub, lI_mul, jadd, jsub, jmul, jneg, jtol, b010, b011, pv_2t, Int.toNat_natCast, Option.some.injEq, exists_eq_left', if_true, if_false]
      refine PW.iv rfl rfl rfl M.1 M.2 (le_b rfl) (le_b rfl) ?_
      refine t_peek xg ⟨rfl, ⟨rfl, rfl⟩, ?_⟩
      rw [show pkB B sz p2 = -1 from if_neg (by omega)]
      refine vs_ok 2 ?_
      rw [show ((gRes 198).drop 2).take 2 = [.iconst 32, .if_icmp .eq 8] from rfl]
      simp (disch := omega) only [vs_iconst, vs_if_icmp, vs_nil, gv_0, gv_1, gv_2, gv_3, pv_0, pv_1, va_rf_s, Nat.reduceDiv, Nat.reduceMod, Nat.reduceAdd, Nat.reduceMul, Int.reduceToNat, true_and, and_true, and_self, cP_eq, cP_ne, cP_lt, cP_ge, cP_gt, cP_le, eL_i, eL_l, eL_r, eL_n, Option.toList_none, Option.toList_some, List.nil_append, List.cons_append, kkI, llI, nnI, rrI, jjI, kkJ, llJ, nnJ, rrJ, iiJ, zIIs, zJJs, nEF, nET, and_false, false_and, jmin, jmax, catS_n, catS_i, catS_r, catS_l, Nat.reduceLeDiff, j1eq1, n21, jt0, jt1, Bool.false_eq_true, Classical.not_not, true_or, or_true, false_or, or_false, true_imp_iff, false_imp_iff, not_true_eq_false, not_false_eq_true, jif0, jif1, jifb, ltT, ltF, leT, leF, eqT, eqF, jlt, jle, jeq, jlt0, jle0, jeq0, jge0, jgt0, jinB, jnat, clt, cle, ceq, cgt, cge, lI_add, lI_sub, lI_mul, jadd, jsub, jmul, jneg, jtol, b010, b011, pv_2t, Int.toNat_natCast, Option.some.injEq, exists_eq_left', if_true, if_false]
      refine vs_ok 1 ?_
      rw [show ((gRes 198).drop 4).take 1 = [.aload 0] from rfl]
      simp (disch := omega) only [vs_aload0, vs_nil, gv_0, gv_1, gv_2, gv_3, pv_0, pv_1, va_rf_s, Nat.reduceDiv, Nat.reduceMod, Nat.reduceAdd, Nat.reduceMul, Int.reduceToNat, true_and, and_true, and_self, cP_eq, cP_ne, cP_lt, cP_ge, cP_gt, cP_le, eL_i, eL_l, eL_r, eL_n, Option.toList_none, Option.toList_some, List.nil_append, List.cons_append, kkI, llI, nnI, rrI, jjI, kkJ, llJ, nnJ, rrJ, iiJ, zIIs, zJJs, nEF, nET, and_false, false_and, jmin, jmax, catS_n, catS_i, catS_r, catS_l, Nat.reduceLeDiff, j1eq1, n21, jt0, jt1, Bool.false_eq_true, Classical.not_not, true_or, or_true, false_or, or_false, true_imp_iff, false_imp_iff, not_true_eq_false, not_false_eq_true, jif0, jif1, jifb, ltT, ltF, leT, leF, eqT, eqF, jlt, jle, jeq, jlt0, jle0, jeq0, jge0, jgt0, jinB, jnat, clt, cle, ceq, cgt, cge, lI_add, lI_sub, lI_mul, jadd, jsub, jmul, jneg, jtol, b010, b011, pv_2t, Int.toNat_natCast, Option.some.injEq, exists_eq_left', if_true, if_false]
      refine PW.iv rfl rfl rfl M.1 M.2 (le_b rfl) (le_b rfl) ?_
      refine t_peek xg ⟨rfl, ⟨rfl, rfl⟩, ?_⟩
      rw [show pkB B sz p2 = -1 from if_neg (by omega)]
      refine vs_ok 2 ?_
      rw [show ((gRes 198).drop 6).take 2 = [.iconst 10, .if_icmp .ne 15] from rfl]
      simp (disch := omega) only [vs_iconst, vs_if_icmp, vs_nil, gv_0, gv_1, gv_2, gv_3, pv_0, pv_1, va_rf_s, Nat.reduceDiv, Nat.reduceMod, Nat.reduceAdd, Nat.reduceMul, Int.reduceToNat, true_and, and_true, and_self, cP_eq, cP_ne, cP_lt, cP_ge, cP_gt, cP_le, eL_i, eL_l, eL_r, eL_n, Option.toList_none, Option.toList_some, List.nil_append, List.cons_append, kkI, llI, nnI, rrI, jjI, kkJ, llJ, nnJ, rrJ, iiJ, zIIs, zJJs, nEF, nET, and_false, false_and, jmin, jmax, catS_n, catS_i, catS_r, catS_l, Nat.reduceLeDiff, j1eq1, n21, jt0, jt1, Bool.false_eq_true, Classical.not_not, true_or, or_true, false_or, or_false, true_imp_iff, false_imp_iff, not_true_eq_false, not_false_eq_true, jif0, jif1, jifb, ltT, ltF, leT, leF, eqT, eqF, jlt, jle, jeq, jlt0, jle0, jeq0, jge0, jgt0, jinB, jnat, clt, cle, ceq, cgt, cge, lI_add, lI_sub, lI_mul, jadd, jsub, jmul, jneg, jtol, b010, b011, pv_2t, Int.toNat_natCast, Option.some.injEq, exists_eq_left', if_true, if_false]
      exact p15 p2 g (Or.inr ⟨by omega, hF2 (by omega)⟩) c0 xg g20 g23
    | succ j ih =>
      intro p2 g hj hF hF2 c0 xg g20 g23
      have M := xg.1.k
      have g4 := xg.2.2.2.1
      have bb := byV_b (len := sz) (i := p2) hB
      obtain ⟨b, hb⟩ : ∃ b : Nat, byV B sz p2 = b := ⟨(byV B sz p2).toNat, by omega⟩
      have e : pkB B sz p2 = b := (pkB_v (by omega)).trans hb
      have nxt : (b : Int) = 32 ∨ (b : Int) = 10 → PW (d + 1) 198 8 [some (.ref m), none, none, none] [] g Q := fun z => by
        have c1 : nxC g (zsI g m 4 (iI ((p2 : Int) + 1))) m := (nxC.rf).I (by omega)
        refine vs_ok 7 ?_
        rw [show ((gRes 198).drop 8).take 7 = [.aload 0, .dup, .getfield 12040, .iconst 1, .iadd, .putfield 12040, .goto 0] from rfl]
        simp (disch := omega) only [vs_iadd, vs_iconst, vs_goto, vs_getfield, vs_putfield, vs_dupi, vs_dupr, vs_aload0, vs_nil, gv_0, gv_1, gv_2, gv_3, pv_0, pv_1, va_rf_s, Nat.reduceDiv, Nat.reduceMod, Nat.reduceAdd, Nat.reduceMul, Int.reduceToNat, true_and, and_true, and_self, cP_eq, cP_ne, cP_lt, cP_ge, cP_gt, cP_le, eL_i, eL_l, eL_r, eL_n, Option.toList_none, Option.toList_some, List.nil_append, List.cons_append, kkI, llI, nnI, rrI, jjI, kkJ, llJ, nnJ, rrJ, iiJ, zIIs, zJJs, nEF, nET, and_false, false_and, jmin, jmax, catS_n, catS_i, catS_r, catS_l, Nat.reduceLeDiff, j1eq1, n21, jt0, jt1, Bool.false_eq_true, Classical.not_not, true_or, or_true, false_or, or_false, true_imp_iff, false_imp_iff, not_true_eq_false, not_false_eq_true, jif0, jif1, jifb, ltT, ltF, leT, leF, eqT, eqF, jlt, jle, jeq, jlt0, jle0, jeq0, jge0, jgt0, jinB, jnat, clt, cle, ceq, cgt, cge, lI_add, lI_sub, lI_mul, jadd, jsub, jmul, jneg, jtol, b010, b011, pv_2t, Int.toNat_natCast, Option.some.injEq, exists_eq_left', if_true, if_false, M, g4]
        refine ih (p2 + 1) _ (by omega) (fun y => ?_) (fun y => ?_) (c0.tr c1) (xg.of c1 (by rw [zI_s, if_pos ⟨rfl, rfl⟩]; rfl) (by omega)) (by rw [zI_s, if_neg (by omega)]; exact g20) g23
        · have := hF (by omega)
          rw [show (L - (p2 : Int)).toNat = (L - ((p2 + 1 : Nat) : Int)).toNat + 1 by omega, skF_s, if_pos (by rw [hb]; exact z)] at this
          exact this
        · by_cases y2 : (p2 : Int) < L
          · have := hF y2
            rw [show (L - (p2 : Int)).toNat = (L - ((p2 + 1 : Nat) : Int)).toNat + 1 by omega, skF_s, if_pos (by rw [hb]; exact z), show (L - ((p2 + 1 : Nat) : Int)).toNat = 0 by omega] at this
            change (p2 : Int) + 1 = a at this
            omega
          · exact hF2 (by omega)
      refine vs_ok 1 ?_
      rw [show ((gRes 198).drop 0).take 1 = [.aload 0] from rfl]
      simp (disch := omega) only [vs_aload0, vs_nil, gv_0, gv_1, gv_2, gv_3, pv_0, pv_1, va_rf_s, Nat.reduceDiv, Nat.reduceMod, Nat.reduceAdd, Nat.reduceMul, Int.reduceToNat, true_and, and_true, and_self, cP_eq, cP_ne, cP_lt, cP_ge, cP_gt, cP_le, eL_i, eL_l, eL_r, eL_n, Option.toList_none, Option.toList_some, List.nil_append, List.cons_append, kkI, llI, nnI, rrI, jjI, kkJ, llJ, nnJ, rrJ, iiJ, zIIs, zJJs, nEF, nET, and_false, false_and, jmin, jmax, catS_n, catS_i, catS_r, catS_l, Nat.reduceLeDiff, j1eq1, n21, jt0, jt1, Bool.false_eq_true, Classical.not_not, true_or, or_true, false_or, or_false, true_imp_iff, false_imp_iff, not_true_eq_false, not_false_eq_true, jif0, jif1, jifb, ltT, ltF, leT, leF, eqT, eqF, jlt, jle, jeq, jlt0, jle0, jeq0, jge0, jgt0, jinB, jnat, clt, cle, ceq, cgt, cge, lI_add, lI_sub, lI_mul, jadd, jsub, jmul, jneg, jtol, b010, b011, pv_2t, Int.toNat_natCast, Option.some.injEq, exists_eq_left', if_true, if_false]
      refine PW.iv rfl rfl rfl M.1 M.2 (le_b rfl) (le_b rfl) ?_
      refine t_peek xg ⟨rfl, ⟨rfl, rfl⟩, ?_⟩
      rw [e]
      by_cases c1 : (b : Int) = 32
      · refine vs_ok 2 ?_
        rw [show ((gRes 198).drop 2).take 2 = [.iconst 32, .if_icmp .eq 8] from rfl]
        simp (disch := omega) only [vs_iconst, vs_if_icmp, vs_nil, gv_0, gv_1, gv_2, gv_3, pv_0, pv_1, va_rf_s, Nat.reduceDiv, Nat.reduceMod, Nat.reduceAdd, Nat.reduceMul, Int.reduceToNat, true_and, and_true, and_self, cP_eq, cP_ne, cP_lt, cP_ge, cP_gt, cP_le, eL_i, eL_l, eL_r, eL_n, Option.toList_none, Option.toList_some, List.nil_append, List.cons_append, kkI, llI, nnI, rrI, jjI, kkJ, llJ, nnJ, rrJ, iiJ, zIIs, zJJs, nEF, nET, and_false, false_and, jmin, jmax, catS_n, catS_i, catS_r, catS_l, Nat.reduceLeDiff, j1eq1, n21, jt0, jt1, Bool.false_eq_true, Classical.not_not, true_or, or_true, false_or, or_false, true_imp_iff, false_imp_iff, not_true_eq_false, not_false_eq_true, jif0, jif1, jifb, ltT, ltF, leT, leF, eqT, eqF, jlt, jle, jeq, jlt0, jle0, jeq0, jge0, jgt0, jinB, jnat, clt, cle, ceq, cgt, cge, lI_add, lI_sub, lI_mul, jadd, jsub, jmul, jneg, jtol, b010, b011, pv_2t, Int.toNat_natCast, Option.some.injEq, exists_eq_left', if_true, if_false]
        exact nxt (Or.inl c1)
      · refine vs_ok 2 ?_
        rw [show ((gRes 198).drop 2).take 2 = [.iconst 32, .if_icmp .eq 8] from rfl]
        simp (disch := omega) only [vs_iconst, vs_if_icmp, vs_nil, gv_0, gv_1, gv_2, gv_3, pv_0, pv_1, va_rf_s, Nat.reduceDiv, Nat.reduceMod, Nat.reduceAdd, Nat.reduceMul, Int.reduceToNat, true_and, and_true, and_self, cP_eq, cP_ne, cP_lt, cP_ge, cP_gt, cP_le, eL_i, eL_l, eL_r, eL_n, Option.toList_none, Option.toList_some, List.nil_append, List.cons_append, kkI, llI, nnI, rrI, jjI, kkJ, llJ, nnJ, rrJ, iiJ, zIIs, zJJs, nEF, nET, and_false, false_and, jmin, jmax, catS_n, catS_i, catS_r, catS_l, Nat.reduceLeDiff, j1eq1, n21, jt0, jt1, Bool.false_eq_true, Classical.not_not, true_or, or_true, false_or, or_false, true_imp_iff, false_imp_iff, not_true_eq_false, not_false_eq_true, jif0, jif1, jifb, ltT, ltF, leT, leF, eqT, eqF, jlt, jle, jeq, jlt0, jle0, jeq0, jge0, jgt0, jinB, jnat, clt, cle, ceq, cgt, cge, lI_add, lI_sub, lI_mul, jadd, jsub, jmul, jneg, jtol, b010, b011, pv_2t, Int.toNat_natCast, Option.some.injEq, exists_eq_left', if_true, if_false]
        refine vs_ok 1 ?_
        rw [show ((gRes 198).drop 4).take 1 = [.aload 0] from rfl]
        simp (disch := omega) only [vs_aload0, vs_nil, gv_0, gv_1, gv_2, gv_3, pv_0, pv_1, va_rf_s, Nat.reduceDiv, Nat.reduceMod, Nat.reduceAdd, Nat.reduceMul, Int.reduceToNat, true_and, and_true, and_self, cP_eq, cP_ne, cP_lt, cP_ge, cP_gt, cP_le, eL_i, eL_l, eL_r, eL_n, Option.toList_none, Option.toList_some, List.nil_append, List.cons_append, kkI, llI, nnI, rrI, jjI, kkJ, llJ, nnJ, rrJ, iiJ, zIIs, zJJs, nEF, nET, and_false, false_and, jmin, jmax, catS_n, catS_i, catS_r, catS_l, Nat.reduceLeDiff, j1eq1, n21, jt0, jt1, Bool.false_eq_true, Classical.not_not, true_or, or_true, false_or, or_false, true_imp_iff, false_imp_iff, not_true_eq_false, not_false_eq_true, jif0, jif1, jifb, ltT, ltF, leT, leF, eqT, eqF, jlt, jle, jeq, jlt0, jle0, jeq0, jge0, jgt0, jinB, jnat, clt, cle, ceq, cgt, cge, lI_add, lI_sub, lI_mul, jadd, jsub, jmul, jneg, jtol, b010, b011, pv_2t, Int.toNat_natCast, Option.some.injEq, exists_eq_left', if_true, if_false]
        refine PW.iv rfl rfl rfl M.1 M.2 (le_b rfl) (le_b rfl) ?_
        refine t_peek xg ⟨rfl, ⟨rfl, rfl⟩, ?_⟩
        rw [e]
        by_cases c2 : (b : Int) = 10
        · refine vs_ok 2 ?_
          rw [show ((gRes 198).drop 6).take 2 = [.iconst 10, .if_icmp .ne 15] from rfl]
          simp (disch := omega) only [vs_iconst, vs_if_icmp, vs_nil, gv_0, gv_1, gv_2, gv_3, pv_0, pv_1, va_rf_s, Nat.reduceDiv, Nat.reduceMod, Nat.reduceAdd, Nat.reduceMul, Int.reduceToNat, true_and, and_true, and_self, cP_eq, cP_ne, cP_lt, cP_ge, cP_gt, cP_le, eL_i, eL_l, eL_r, eL_n, Option.toList_none, Option.toList_some, List.nil_append, List.cons_append, kkI, llI, nnI, rrI, jjI, kkJ, llJ, nnJ, rrJ, iiJ, zIIs, zJJs, nEF, nET, and_false, false_and, jmin, jmax, catS_n, catS_i, catS_r, catS_l, Nat.reduceLeDiff, j1eq1, n21, jt0, jt1, Bool.false_eq_true, Classical.not_not, true_or, or_true, false_or, or_false, true_imp_iff, false_imp_iff, not_true_eq_false, not_false_eq_true, jif0, jif1, jifb, ltT, ltF, leT, leF, eqT, eqF, jlt, jle, jeq, jlt0, jle0, jeq0, jge0, jgt0, jinB, jnat, clt, cle, ceq, cgt, cge, lI_add, lI_sub, lI_mul, jadd, jsub, jmul, jneg, jtol, b010, b011, pv_2t, Int.toNat_natCast, Option.some.injEq, exists_eq_left', if_true, if_false]
          exact nxt (Or.inr c2)
        · refine vs_ok 2 ?_
          rw [show ((gRes 198).drop 6).take 2 = [.iconst 10, .if_icmp .ne 15] from rfl]
          simp (disch := omega) only [vs_iconst, vs_if_icmp, vs_nil, gv_0, gv_1, gv_2, gv_3, pv_0, pv_1, va_rf_s, Nat.reduceDiv, Nat.reduceMod, Nat.reduceAdd, Nat.reduceMul, Int.reduceToNat, true_and, and_true, and_self, cP_eq, cP_ne, cP_lt, cP_ge, cP_gt, cP_le, eL_i, eL_l, eL_r, eL_n, Option.toList_none, Option.toList_some, List.nil_append, List.cons_append, kkI, llI, nnI, rrI, jjI, kkJ, llJ, nnJ, rrJ, iiJ, zIIs, zJJs, nEF, nET, and_false, false_and, jmin, jmax, catS_n, catS_i, catS_r, catS_l, Nat.reduceLeDiff, j1eq1, n21, jt0, jt1, Bool.false_eq_true, Classical.not_not, true_or, or_true, false_or, or_false, true_imp_iff, false_imp_iff, not_true_eq_false, not_false_eq_true, jif0, jif1, jifb, ltT, ltF, leT, leF, eqT, eqF, jlt, jle, jeq, jlt0, jle0, jeq0, jge0, jgt0, jinB, jnat, clt, cle, ceq, cgt, cge, lI_add, lI_sub, lI_mul, jadd, jsub, jmul, jneg, jtol, b010, b011, pv_2t, Int.toNat_natCast, Option.some.injEq, exists_eq_left', if_true, if_false]
          refine p15 p2 g ?_ c0 xg g20 g23
          by_cases y2 : (p2 : Int) < L
          · have := hF y2
            rw [show (L - (p2 : Int)).toNat = (L - ((p2 + 1 : Nat) : Int)).toNat + 1 by omega, skF_s, if_neg (by rw [hb]; omega)] at this
            exact Or.inl ⟨y2, this.symm⟩
          · exact Or.inr ⟨by omega, hF2 (by omega)⟩
  show PW (d + 1) 198 0 [some (.ref m), none, none, none] [] h Q
  refine lp (sz - p) p h (by have := x.2.2.2.2.1; omega) (fun y => ?_) (fun y => ?_) nxC.rf x h20 h23
  · rcases T with z | z
    · rw [ha, z]
    · omega
  · have := (skF_b (B := B) (len := sz) (L := L) (L - fo).toNat fo).1
    omega
