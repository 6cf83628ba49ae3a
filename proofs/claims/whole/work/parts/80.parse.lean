/-! the language, as a function of the bytes: TOKENS, SUMS -/
theorem pw_s {b n : Nat} : ((b ^ (n + 1) : Nat) : Int) = (b ^ n : Nat) * (b : Int) := by rw [Nat.pow_succ, Int.natCast_mul]
theorem rnF_w {B : Nat → Int} {len : Int} : ∀ (k : Nat) (i l g w n : Int), 0 ≤ l → 0 ≤ g → 0 ≤ w → w < ((27 ^ l.toNat : Nat) : Int) → 0 ≤ n → n < ((10 ^ g.toNat : Nat) : Int) → (0 ≤ (rnF B len k i l g w n).2.2.1 ∧ (rnF B len k i l g w n).2.2.1 < ((27 ^ (rnF B len k i l g w n).1.toNat : Nat) : Int)) ∧ 0 ≤ (rnF B len k i l g w n).2.2.2.1 ∧ (rnF B len k i l g w n).2.2.2.1 < ((10 ^ (rnF B len k i l g w n).2.1.toNat : Nat) : Int)
  | 0, i, l, g, w, n, h1, h2, h3, h4, h5, h6 => ⟨⟨h3, h4⟩, h5, h6⟩
  | k + 1, i, l, g, w, n, h1, h2, h3, h4, h5, h6 => by
    rw [rnF_s]
    split
    · rename_i c
      refine rnF_w k (i + 1) (l + 1) g _ n (by omega) h2 (by omega) ?_ h5 h6
      rw [show (l + 1).toNat = l.toNat + 1 by omega, pw_s]
      omega
    · split
      · rename_i c
        refine rnF_w k (i + 1) l (g + 1) w _ h1 (by omega) h3 h4 (by omega) ?_
        rw [show (g + 1).toNat = g.toNat + 1 by omega, pw_s]
        omega
      · exact ⟨⟨h3, h4⟩, h5, h6⟩
/-- a Reader's state: following, kind, value, place -/
abbrev R4 : Type := Int × Int × Int × Int
def tkP (s : R4) : Prop := (0 ≤ s.1 ∧ s.1 ≤ 540) ∧ (0 ≤ s.2.1 ∧ s.2.1 ≤ 4) ∧ (0 ≤ s.2.2.1 ∧ s.2.2.1 ≤ 400000000) ∧ (0 ≤ s.2.2.2 ∧ s.2.2.2 ≤ 500) ∧ (s.2.1 = 3 → s.2.2.1 ≤ 99)
theorem rn_v {x : Int × Int × Int × Int × Int} (h1 : 0 ≤ x.1) (h2 : 0 ≤ x.2.1) (hw : 0 ≤ x.2.2.1 ∧ x.2.2.1 < ((27 ^ x.1.toNat : Nat) : Int)) (hn : 0 ≤ x.2.2.2.1 ∧ x.2.2.2.1 < ((10 ^ x.2.1.toNat : Nat) : Int)) : (0 ≤ rnK x ∧ rnK x ≤ 4) ∧ (0 ≤ rnV x ∧ rnV x ≤ 400000000) ∧ (rnK x = 3 → rnV x ≤ 99) := by
  have a6 : x.1 ≤ 6 → ((27 ^ x.1.toNat : Nat) : Int) ≤ 387420489 := fun h => by
    have := Nat.pow_le_pow_right (n := 27) (by omega) (show x.1.toNat ≤ 6 by omega)
    have e : 27 ^ 6 = 387420489 := by decide
    omega
  have a2 : x.2.1 ≤ 2 → ((10 ^ x.2.1.toNat : Nat) : Int) ≤ 100 := fun h => by
    have := Nat.pow_le_pow_right (n := 10) (by omega) (show x.2.1.toNat ≤ 2 by omega)
    have e : 10 ^ 2 = 100 := by decide
    omega
  unfold rnK rnV
  by_cases c : x.2.1 = 0 ∧ x.1 ≤ 6
  · rw [if_pos c, if_pos c]
    have := a6 c.2
    omega
  · rw [if_neg c, if_neg c]
    by_cases c2 : x.1 = 0 ∧ x.2.1 ≤ 2
    · rw [if_pos c2, if_pos c2]
      have := a2 c2.2
      omega
    · rw [if_neg c2, if_neg c2]
      omega
/-- the next TOKEN's state -/
def nx (B : Nat → Int) (len : Int) (s : R4) : R4 := adF B len s.1 s.2.2.1
theorem ad_tk {B : Nat → Int} {len fo va : Int} (hB : ∀ i, 0 ≤ B i ∧ B i ≤ 255) (hl : 0 ≤ len ∧ len ≤ 540) (hf : 0 ≤ fo ∧ fo ≤ 540) (hv : 0 ≤ va ∧ va ≤ 400000000) : tkP (adF B len fo va) := by
  unfold adF
  dsimp only
  have sb := skF_b (B := B) (len := len) (L := min len 500) (min len 500 - fo).toNat fo
  generalize skF B len (min len 500) (min len 500 - fo).toNat fo = a at *
  split
  · refine ⟨⟨?_, ?_⟩, ⟨?_, ?_⟩, hv, ⟨?_, ?_⟩, fun z => ?_⟩ <;> dsimp only at * <;> omega
  · rename_i c
    split
    · have b1 := rnF_b (B := B) (len := len) (len - a).toNat a 0 0 0 0 (by omega) (by omega)
      have b2 := rnF_w (B := B) (len := len) (len - a).toNat a 0 0 0 0 (by omega) (by omega) (by omega) (by decide) (by omega) (by decide)
      obtain ⟨v1, v2, v3⟩ := rn_v (x := rnF B len (len - a).toNat a 0 0 0 0) (by omega) (by omega) b2.1 b2.2
      exact ⟨⟨by show 0 ≤ (rnF B len (len - a).toNat a 0 0 0 0).2.2.2.2; omega, by show (rnF B len (len - a).toNat a 0 0 0 0).2.2.2.2 ≤ 540; omega⟩, v1, v2, ⟨by show 0 ≤ a; omega, by show a ≤ 500; omega⟩, v3⟩
    · have bb := byV_b (len := len) (i := a) hB
      refine ⟨⟨?_, ?_⟩, ⟨?_, ?_⟩, ⟨bb.1, by show byV B len a ≤ _; omega⟩, ⟨by show 0 ≤ a; omega, by show a ≤ 500; omega⟩, fun z => ?_⟩
      · show 0 ≤ a + 1; omega
      · show a + 1 ≤ 540; omega
      · show 0 ≤ (if _ then (4 : Int) else 1)
        split <;> omega
      · show (if _ then (4 : Int) else 1) ≤ 4
        split <;> omega
      · change (if _ then (4 : Int) else 1) = 3 at z
        split at z <;> omega
theorem nx_tk {B : Nat → Int} {len : Int} {s : R4} (hB : ∀ i, 0 ≤ B i ∧ B i ≤ 255) (hl : 0 ≤ len ∧ len ≤ 540) (hs : tkP s) : tkP (nx B len s) := ad_tk hB hl hs.1 hs.2.2.1
/-- what reading a part tells: good, FAULT's kind and place, the Reader's state, the value (none: TOO MUCH) -/
abbrev PRes : Type := Bool × Int × Int × R4 × Option RowVal
def flR (k p : Int) (s : R4) : Option PRes := some (false, k, p, s, none)
def okR (s : R4) (v : Option RowVal) : Option PRes := some (true, 0, 0, s, v)
def bnd (r : Option PRes) (k : R4 → Option RowVal → Option PRes) : Option PRes := match r with
  | none => none
  | some q => if q.1 = true then k q.2.2.2.1 q.2.2.2.2 else some q
abbrev sgP (s : R4) (c : Int) : Prop := s.2.1 = 4 ∧ s.2.2.1 = c
abbrev wrP (s : R4) (c : Int) : Prop := s.2.1 = 2 ∧ s.2.2.1 = c
abbrev prW (w : Int) : Prop := w = 164222 ∨ w = 9176 ∨ w = 267305
abbrev owW (w : Int) : Prop := w = 3164 ∨ w = 8903 ∨ w = 411 ∨ prW w
def jnO (mi : Int32) : Option RowVal → Option RowVal → Option RowVal
  | some a, some b => if okS mi a b then some (adV mi a b) else none
  | _, _ => none
def cmO (w : Int) : Option RowVal → Option RowVal → Option RowVal
  | some a, some b => if okC a b then some (cmV w a b) else none
  | _, _ => none
def rpV (n : Int) : Option RowVal → Option RowVal
  | some v => rpO v (n.toNat - 1)
  | none => none
def ngO : Option RowVal → Option RowVal
  | some v => some (adV 1 (nuV 0) v)
  | none => none
/-- a NUMBER that stands for itself -/
def nuS (n p : Int) (s : R4) : Option PRes := if 60 < n then flR 2 p s else okR s (some (nuV n))
def unS (B : Nat → Int) (len : Int) (Wd : Nat → Int) (nm : Nat) (Vn : Nat → RowVal) (sf : Nat → R4 → Option PRes) (o : Nat) (s : R4) : Option PRes :=
  if s.2.1 = 3 then nuS s.2.2.1 s.2.2.2 (nx B len s)
  else if sgP s 40 then (if 10 ≤ o then flR 4 s.2.2.2 s else bnd (sf (o + 1) (nx B len s)) fun s2 v => if sgP s2 41 then okR (nx B len s2) v else flR 1 s2.2.2.2 s2)
  else if s.2.1 ≠ 2 then flR 1 s.2.2.2 s
  else if prW s.2.2.1 then
    (if ¬ sgP (nx B len s) 40 then flR 1 (nx B len s).2.2.2 (nx B len s) else if 10 ≤ o then flR 4 (nx B len s).2.2.2 (nx B len s) else
      bnd (sf (o + 1) (nx B len (nx B len s))) fun s3 v1 => if ¬ sgP s3 44 then flR 1 s3.2.2.2 s3 else
        bnd (sf (o + 1) (nx B len s3)) fun s4 v2 => if ¬ sgP s4 41 then flR 1 s4.2.2.2 s4 else okR (nx B len s4) (cmO s.2.2.1 v1 v2))
  else if owW s.2.2.1 then flR 1 s.2.2.2 s
  else if fndW Wd s.2.2.1 nm 0 = -1 then flR 3 s.2.2.2 s
  else okR (nx B len s) (some (Vn (fndW Wd s.2.2.1 nm 0).toNat))
def tmS (B : Nat → Int) (len : Int) (Wd : Nat → Int) (nm : Nat) (Vn : Nat → RowVal) (sf : Nat → R4 → Option PRes) (o : Nat) (s : R4) : Option PRes :=
  if s.2.1 ≠ 3 then unS B len Wd nm Vn sf o s
  else if ¬ wrP (nx B len s) 411 then nuS s.2.2.1 s.2.2.2 (nx B len s)
  else if s.2.2.1 < 1 ∨ 6 < s.2.2.1 then flR 2 s.2.2.2 (nx B len s)
  else bnd (unS B len Wd nm Vn sf o (nx B len (nx B len s))) fun s3 v => okR s3 (rpV s.2.2.1 v)
/-- a SUM (none), or what follows behind its part so far (some v); the first number bounds the steps -/
def smS (B : Nat → Int) (len : Int) (Wd : Nat → Int) (nm : Nat) (Vn : Nat → RowVal) : Nat → Option (Option RowVal) → Nat → R4 → Option PRes
  | 0, _, _, _ => none
  | f + 1, none, o, s => bnd (tmS B len Wd nm Vn (fun o s => smS B len Wd nm Vn f none o s) o (if sgP s 45 then nx B len s else s)) fun s2 v => smS B len Wd nm Vn f (some (if sgP s 45 then ngO v else v)) o s2
  | f + 1, some v, o, s => if sgP s 43 ∨ sgP s 45 then bnd (tmS B len Wd nm Vn (fun o s => smS B len Wd nm Vn f none o s) o (nx B len s)) fun s2 w => smS B len Wd nm Vn f (some (jnO (if sgP s 45 then 1 else 0) v w)) o s2 else okR s v
