/-! reading a text always ends -/
/-- a Reader's state behind a TOKEN -/
abbrev okF (len : Int) (s : R4) : Prop := 0 ≤ s.1 ∧ (s.2.1 = 0 → min len 500 ≤ s.1) ∧ (s.2.1 ≠ 0 → s.2.2.2 < s.1 ∧ s.2.2.2 < min len 500 ∧ 0 ≤ s.2.2.2)
/-- how much is left -/
def muF (s : R4) : Nat := if s.2.1 = 0 then 0 else (500 - s.2.2.2).toNat
theorem muF_b {len : Int} {s : R4} (h : okF len s) (h0 : s.2.1 ≠ 0) : 1 ≤ muF s ∧ muF s ≤ 500 := by
  unfold muF
  rw [if_neg h0]
  have := h.2.2 h0
  omega
theorem muF_0 {s : R4} (h0 : s.2.1 = 0) : muF s = 0 := if_pos h0
theorem muF_n {s : R4} (h0 : s.2.1 ≠ 0) : muF s = (500 - s.2.2.2).toNat := if_neg h0
theorem rnK_n (x : Int × Int × Int × Int × Int) : rnK x ≠ 0 := by
  unfold rnK
  split
  · omega
  · split <;> omega
theorem ad_ok {B : Nat → Int} {len fo va : Int} (hl : 0 ≤ len) (h0 : 0 ≤ fo) : okF len (adF B len fo va) ∧ ((adF B len fo va).2.1 ≠ 0 → fo ≤ (adF B len fo va).2.2.2 ∧ fo < min len 500) := by
  unfold adF
  dsimp only
  have sb := skF_b (B := B) (len := len) (L := min len 500) (min len 500 - fo).toNat fo
  generalize ha : skF B len (min len 500) (min len 500 - fo).toNat fo = a at *
  split
  · rename_i c
    refine ⟨⟨?_, fun _ => Int.le_refl _, fun z => absurd rfl z⟩, fun z => absurd rfl z⟩
    show 0 ≤ min len 500
    omega
  · rename_i c
    split
    · rename_i c2
      obtain ⟨k, hk⟩ : ∃ k, (len - a).toNat = k + 1 := ⟨(len - a).toNat - 1, by omega⟩
      have b1 := rnF_b (B := B) (len := len) k (a + 1) (0 + 1) 0 (0 * 27 + byV B len a - 97 + 1) 0 (by omega) (by omega)
      have b2 := rnF_b (B := B) (len := len) k (a + 1) 0 (0 + 1) 0 (0 * 10 + byV B len a - 48) (by omega) (by omega)
      have e : a + 1 ≤ (rnF B len (len - a).toNat a 0 0 0 0).2.2.2.2 := by
        rw [hk, rnF_s]
        split
        · exact b1.2.2.2.2.1
        · rw [if_pos (by omega)]
          exact b2.2.2.2.2.1
      refine ⟨⟨?_, fun z => absurd z (rnK_n _), fun _ => ⟨?_, ?_, ?_⟩⟩, fun _ => ⟨?_, by omega⟩⟩
      · show 0 ≤ (rnF B len (len - a).toNat a 0 0 0 0).2.2.2.2
        omega
      · show a < (rnF B len (len - a).toNat a 0 0 0 0).2.2.2.2
        omega
      · show a < min len 500
        omega
      · show 0 ≤ a
        omega
      · show fo ≤ a
        omega
    · refine ⟨⟨?_, fun z => absurd z ?_, fun _ => ⟨?_, ?_, ?_⟩⟩, fun _ => ⟨?_, by omega⟩⟩
      · show 0 ≤ a + 1
        omega
      · show (if _ then (4 : Int) else 1) ≠ 0
        split <;> omega
      · show a < a + 1
        omega
      · show a < min len 500
        omega
      · show 0 ≤ a
        omega
      · show fo ≤ a
        omega
section TOT
variable {B : Nat → Int} {len : Int} {Wd : Nat → Int} {nm : Nat} {V : Nat → RowVal}
theorem nx_ok {s : R4} (hl : 0 ≤ len) (h : okF len s) : okF len (nx B len s) ∧ muF (nx B len s) ≤ muF s ∧ (s.2.1 ≠ 0 → muF (nx B len s) < muF s) := by
  obtain ⟨a, b⟩ := ad_ok (B := B) (va := s.2.2.1) hl h.1
  change okF len (nx B len s) at a
  change (nx B len s).2.1 ≠ 0 → s.1 ≤ (nx B len s).2.2.2 ∧ s.1 < min len 500 at b
  refine ⟨a, ?_⟩
  by_cases k : (nx B len s).2.1 = 0
  · rw [muF_0 k]
    exact ⟨Nat.zero_le _, fun z => by have := muF_b h z; omega⟩
  · obtain ⟨b1, b2⟩ := b k
    have k2 : s.2.1 ≠ 0 := fun z => by have := h.2.1 z; omega
    have c := h.2.2 k2
    have d := a.2.2 k
    rw [muF_n k, muF_n k2]
    omega
/-- the part is read; if well, something of it was taken -/
abbrev tkT (len : Int) (s : R4) (r : Option PRes) : Prop := ∃ q, r = some q ∧ (q.1 = true → okF len q.2.2.2.1 ∧ muF q.2.2.2.1 < muF s)
theorem tk_fl {s s' : R4} {k p : Int} : tkT len s (flR k p s') := ⟨_, rfl, fun z => by cases z⟩
theorem tk_ok {s s' : R4} {v : Option RowVal} (h : okF len s' ∧ muF s' < muF s) : tkT len s (okR s' v) := ⟨_, rfl, fun _ => h⟩
theorem tk_bnd {s t : R4} {r : Option PRes} {k : R4 → Option RowVal → Option PRes} (h : tkT len t r) (hk : ∀ s2 v, okF len s2 → muF s2 < muF t → tkT len s (k s2 v)) : tkT len s (bnd r k) := by
  obtain ⟨q, rfl, hq⟩ := h
  show tkT len s (if q.1 = true then k q.2.2.2.1 q.2.2.2.2 else some q)
  by_cases c : q.1 = true
  · rw [if_pos c]
    exact hk _ _ (hq c).1 (hq c).2
  · rw [if_neg c]
    exact ⟨q, rfl, fun z => absurd z c⟩
theorem tk_nu {s s' : R4} {n p : Int} (h : okF len s' ∧ muF s' < muF s) : tkT len s (nuS n p s') := by
  unfold nuS
  split
  · exact tk_fl
  · exact tk_ok h
theorem un_tk (hl : 0 ≤ len) {f : Nat} {sf : Nat → R4 → Option PRes} (hs : ∀ o s, okF len s → muF s < f → tkT len s (sf o s)) {o : Nat} {s : R4} (h : okF len s) (hf : muF s ≤ f) : tkT len s (unS B len Wd nm V sf o s) := by
  have n1 := nx_ok (B := B) hl h
  unfold unS
  by_cases c1 : s.2.1 = 3
  · rw [if_pos c1]
    exact tk_nu ⟨n1.1, n1.2.2 (by omega)⟩
  rw [if_neg c1]
  by_cases c2 : sgP s 40
  · have m1 := n1.2.2 (by omega)
    rw [if_pos c2]
    split
    · exact tk_fl
    · refine tk_bnd (hs _ _ n1.1 (by omega)) fun s2 v o2 m2 => ?_
      have n2 := nx_ok (B := B) hl o2
      try dsimp only
      split
      · exact tk_ok ⟨n2.1, by omega⟩
      · exact tk_fl
  rw [if_neg c2]
  by_cases c3 : s.2.1 ≠ 2
  · rw [if_pos c3]
    exact tk_fl
  have m1 := n1.2.2 (by omega)
  have n2 := nx_ok (B := B) hl n1.1
  rw [if_neg c3]
  split
  · split
    · exact tk_fl
    · split
      · exact tk_fl
      · refine tk_bnd (hs _ _ n2.1 (by omega)) fun s3 v1 o3 m3 => ?_
        have n3 := nx_ok (B := B) hl o3
        try dsimp only
        split
        · exact tk_fl
        · refine tk_bnd (hs _ _ n3.1 (by omega)) fun s4 v2 o4 m4 => ?_
          have n4 := nx_ok (B := B) hl o4
          try dsimp only
          split
          · exact tk_fl
          · exact tk_ok ⟨n4.1, by omega⟩
  · split
    · exact tk_fl
    · split
      · exact tk_fl
      · exact tk_ok ⟨n1.1, m1⟩
theorem tm_tk (hl : 0 ≤ len) {f : Nat} {sf : Nat → R4 → Option PRes} (hs : ∀ o s, okF len s → muF s < f → tkT len s (sf o s)) {o : Nat} {s : R4} (h : okF len s) (hf : muF s ≤ f) : tkT len s (tmS B len Wd nm V sf o s) := by
  have n1 := nx_ok (B := B) hl h
  unfold tmS
  by_cases c1 : s.2.1 ≠ 3
  · rw [if_pos c1]
    exact un_tk hl hs h hf
  have m1 := n1.2.2 (by omega)
  have n2 := nx_ok (B := B) hl n1.1
  rw [if_neg c1]
  split
  · exact tk_nu ⟨n1.1, m1⟩
  · split
    · exact tk_fl
    · refine tk_bnd (un_tk hl hs n2.1 (by omega)) fun s3 v o3 m3 => ?_
      exact tk_ok ⟨o3, by omega⟩
theorem sm_tk (hl : 0 ≤ len) : ∀ (f : Nat), (∀ o s, okF len s → muF s < f → tkT len s (smS B len Wd nm V f none o s)) ∧ ∀ v o s, okF len s → muF s < f → ∃ q, smS B len Wd nm V f (some v) o s = some q ∧ (q.1 = true → okF len q.2.2.2.1 ∧ muF q.2.2.2.1 ≤ muF s)
  | 0 => ⟨fun _ _ _ h => absurd h (Nat.not_lt_zero _), fun _ _ _ _ h => absurd h (Nat.not_lt_zero _)⟩
  | f + 1 => by
    obtain ⟨i1, i2⟩ := sm_tk hl f
    refine ⟨fun o s h hf => ?_, fun v o s h hf => ?_⟩
    · have e : smS B len Wd nm V (f + 1) none o s = bnd (tmS B len Wd nm V (fun o s => smS B len Wd nm V f none o s) o (if sgP s 45 then nx B len s else s)) fun s2 v => smS B len Wd nm V f (some (if sgP s 45 then ngO v else v)) o s2 := rfl
      rw [e]
      have n1 := nx_ok (B := B) hl h
      have p : okF len (if sgP s 45 then nx B len s else s) ∧ muF (if sgP s 45 then nx B len s else s) ≤ muF s := by
        split
        · exact ⟨n1.1, n1.2.1⟩
        · exact ⟨h, Nat.le_refl _⟩
      generalize (if sgP s 45 then nx B len s else s) = s' at p
      refine tk_bnd (tm_tk hl i1 p.1 (by omega)) fun s2 v o2 m2 => ?_
      obtain ⟨q, e2, hq⟩ := i2 (if sgP s 45 then ngO v else v) o s2 o2 (by omega)
      exact ⟨q, e2, fun z => ⟨(hq z).1, by have := (hq z).2; omega⟩⟩
    · have e : smS B len Wd nm V (f + 1) (some v) o s = if sgP s 43 ∨ sgP s 45 then bnd (tmS B len Wd nm V (fun o s => smS B len Wd nm V f none o s) o (nx B len s)) fun s2 w => smS B len Wd nm V f (some (jnO (if sgP s 45 then 1 else 0) v w)) o s2 else okR s v := rfl
      rw [e]
      have n1 := nx_ok (B := B) hl h
      by_cases c : sgP s 43 ∨ sgP s 45
      · have m1 := n1.2.2 (by omega)
        rw [if_pos c]
        have t : tkT len s (bnd (tmS B len Wd nm V (fun o s => smS B len Wd nm V f none o s) o (nx B len s)) fun s2 w => smS B len Wd nm V f (some (jnO (if sgP s 45 then 1 else 0) v w)) o s2) := by
          refine tk_bnd (tm_tk hl i1 n1.1 (by omega)) fun s2 w o2 m2 => ?_
          obtain ⟨q, e2, hq⟩ := i2 (jnO (if sgP s 45 then 1 else 0) v w) o s2 o2 (by omega)
          exact ⟨q, e2, fun z => ⟨(hq z).1, by have := (hq z).2; omega⟩⟩
        obtain ⟨q, e2, hq⟩ := t
        exact ⟨q, e2, fun z => ⟨(hq z).1, by have := (hq z).2; omega⟩⟩
      · rw [if_neg c]
        exact ⟨_, rfl, fun _ => ⟨h, Nat.le_refl _⟩⟩
theorem le_tk (hl : 0 ≤ len) {s : R4} (h : okF len s) : ∃ r, leS B len Wd nm V s = some r ∧ (r.1 = true → okF len r.2.2.2.1) := by
  unfold leS
  by_cases c : ¬ sgP s 61
  · rw [if_pos c]
    exact ⟨_, rfl, fun z => by cases z⟩
  rw [if_neg c]
  have n1 := nx_ok (B := B) hl h
  have m1 := n1.2.2 (by omega)
  have mb := muF_b h (by omega)
  obtain ⟨q, e, hq⟩ := (sm_tk (B := B) (Wd := Wd) (nm := nm) (V := V) hl 500).1 0 (nx B len s) n1.1 (by omega)
  rw [e]
  dsimp only
  by_cases c1 : q.1 = false
  · rw [if_pos c1]
    exact ⟨_, rfl, fun z => by cases z⟩
  rw [if_neg c1]
  have ok := (hq (by cases x : q.1 with | true => rfl | false => exact absurd x c1)).1
  have n2 := nx_ok (B := B) hl ok
  split
  · exact ⟨_, rfl, fun z => by cases z⟩
  · cases q.2.2.2.2 with
    | none => exact ⟨_, rfl, fun z => by cases z⟩
    | some u => exact ⟨_, rfl, fun _ => n2.1⟩
theorem fc_ok (hl : 0 ≤ len) : ∀ (k n : Nat) (v : RowVal) (s : R4), okF len s → okF len (fcS B len k n v s).2.2.2.1
  | 0, _, _, _, h => h
  | k + 1, n, v, s, h => by
    unfold fcS
    split
    · exact h
    · split
      · exact h
      · split
        · exact h
        · exact fc_ok hl k _ _ _ (nx_ok (B := B) hl h).1
theorem di_ok (hl : 0 ≤ len) {v : RowVal} {s : R4} (h : okF len s) : okF len (diS B len v s).2.2.2.1 := by
  have f := fc_ok (B := B) hl 13 0 v s h
  unfold diS
  dsimp only
  split
  · exact f
  · split
    · exact f
    · exact (nx_ok (B := B) hl f).1
theorem hd_ok (hl : 0 ≤ len) {s : R4} (h : okF len s) : okF len (hdS B len Wd nm s).2.2.2.1 ∧ ((hdS B len Wd nm s).1 = true → nm < 12) := by
  have n1 := nx_ok (B := B) hl h
  have n2 := nx_ok (B := B) hl n1.1
  unfold hdS
  split
  · exact ⟨h, fun z => by cases z⟩
  · split
    · exact ⟨h, fun z => by cases z⟩
    · split
      · exact ⟨h, fun z => by cases z⟩
      · split
        · exact ⟨h, fun z => by cases z⟩
        · exact ⟨n2.1, fun _ => by omega⟩
end TOT
/-- a text always tells something; the kind of its FAULT is 0 to 5 -/
theorem tl_tot {B : Nat → Int} {len : Int} (hl : 0 ≤ len) : ∀ (k nm : Nat) (F Wd : Nat → Int) (V : Nat → RowVal) (s : R4), k + nm = 13 → nm ≤ 12 → okF len s → ∃ R, tlS B len k nm F Wd V s = some R ∧ 0 ≤ R.1 ∧ R.1 ≤ 5
  | 0, nm, _, _, _, _, h1, h2, _ => absurd h1 (by omega)
  | k + 1, nm, F, Wd, V, s, h1, h2, h => by
    obtain ⟨o1, o2⟩ := hd_ok (B := B) (Wd := Wd) (nm := nm) hl h
    unfold tlS
    by_cases c0 : s.2.1 = 0
    · rw [if_pos c0]
      refine ⟨_, rfl, ?_⟩
      split
      · exact ⟨show (0 : Int) ≤ 1 by omega, show (1 : Int) ≤ 5 by omega⟩
      · exact ⟨show (0 : Int) ≤ 0 by omega, show (0 : Int) ≤ 5 by omega⟩
    rw [if_neg c0]
    by_cases c1 : (hdS B len Wd nm s).1 = false
    · rw [if_pos c1]
      have := hdS_k c1
      exact ⟨_, rfl, by show 0 ≤ (hdS B len Wd nm s).2.1; omega, by show (hdS B len Wd nm s).2.1 ≤ 5; omega⟩
    rw [if_neg c1]
    have n12 : nm < 12 := o2 (by cases x : (hdS B len Wd nm s).1 with | true => rfl | false => exact absurd x c1)
    by_cases c2 : (hdS B len Wd nm s).2.2.2.2.1 = true
    · rw [if_pos c2]
      by_cases c3 : (diS B len (V nm) (hdS B len Wd nm s).2.2.2.1).1 = false
      · rw [if_pos c3]
        have := diS_k c3
        exact ⟨_, rfl, by show 0 ≤ (diS B len (V nm) (hdS B len Wd nm s).2.2.2.1).2.1; omega, by show (diS B len (V nm) (hdS B len Wd nm s).2.2.2.1).2.1 ≤ 5; omega⟩
      · rw [if_neg c3]
        exact tl_tot hl k _ _ _ _ _ (by omega) (by omega) (di_ok (B := B) hl o1)
    · rw [if_neg c2]
      obtain ⟨r, er, hr⟩ := le_tk (B := B) (Wd := Wd) (nm := nm) (V := V) hl o1
      have ek := leS_k er
      rw [er]
      dsimp only
      by_cases c3 : r.1 = false
      · rw [if_pos c3]
        have := ek c3
        exact ⟨_, rfl, by show 0 ≤ r.2.1; omega, by show r.2.1 ≤ 5; omega⟩
      · rw [if_neg c3]
        exact tl_tot hl k _ _ _ _ _ (by omega) (by omega) (hr (by cases x : r.1 with | true => rfl | false => exact absurd x c3))
theorem tl_all {B : Nat → Int} {len va : Int} (hl : 0 ≤ len) (F Wd : Nat → Int) (V : Nat → RowVal) : ∃ R, tlS B len 13 0 F Wd V (adF B len 0 va) = some R ∧ i32 R.1 := by
  obtain ⟨R, e, b1, b2⟩ := tl_tot (B := B) hl 13 0 F Wd V (adF B len 0 va) (by omega) (by omega) (ad_ok hl (Int.le_refl 0)).1
  exact ⟨R, e, by omega, by omega⟩
