/-! the Model's reader against the class's: tests, NAMES, FAULTS -/
theorem wd8_w {s : R4} {p : Nat} {sz : Nat} {tk at' nu wo w : Int} (hk : tkP s) (T : tkR sz s p tk at' nu wo) (hw : 0 ≤ w ∧ w < 387420489) : (tk = 1 ∧ wo = wd8 w) ↔ wrP s w := by
  obtain ⟨-, -, T⟩ := T
  obtain ⟨-, -, k3, -⟩ := hk
  constructor
  · rintro ⟨h1, h2⟩
    rcases T with z | z | z | z | z | z
    · omega
    · omega
    · omega
    · exact ⟨z.1, wd8_inj ⟨k3.1, z.2.2.1⟩ hw (z.2.2.2.symm.trans h2)⟩
    · omega
    · omega
  · rintro ⟨h1, h2⟩
    rcases T with z | z | z | z | z | z
    · omega
    · omega
    · omega
    · exact ⟨z.2.1, by rw [z.2.2.2, h2]⟩
    · omega
    · omega
theorem t_sgn {d : Nat} {h : Hp} {m sz : Nat} {c : Int} {B : Nat → Int} {s : R4} {Q : Nat → Option Value → Hp → Prop} (x : nxE h m sz B s) (hc : 0 ≤ c ∧ c ≤ 255) (hq : Q 0 (some (.int (iI (if sgP s c then 1 else 0)))) h) : PR d m_M_isSign [.ref m, .int (iI c)] h Q := by
  obtain ⟨p, tk, at', nu, wo, xg, h17, ht, h18, h20, h23, hb, T⟩ := x
  refine t_M_isSign xg.1 h17 ht h20 (by constructor <;> omega) (by constructor <;> omega) ?_
  obtain ⟨-, -, T⟩ := T
  by_cases c1 : sgP s c
  · rw [if_pos c1] at hq
    rw [if_pos (by omega)]
    exact hq
  · rw [if_neg c1] at hq
    rw [if_neg (by omega)]
    exact hq
theorem t_wrd {d : Nat} {h : Hp} {m sz : Nat} {w w8 : Int} {B : Nat → Int} {s : R4} {Q : Nat → Option Value → Hp → Prop} (x : nxE h m sz B s) (hk : tkP s) (hw : 0 ≤ w ∧ w < 387420489) (h8 : w8 = wd8 w) (hq : Q 0 (some (.int (iI (if wrP s w then 1 else 0)))) h) : PR d m_M_isWord [.ref m, .long (lI w8)] h Q := by
  obtain ⟨p, tk, at', nu, wo, xg, h17, ht, h18, h20, h23, hb, T⟩ := x
  have b8 := wd8_b w
  refine t_M_isWord xg.1 h17 ht h23 (by constructor <;> omega) (by constructor <;> omega) ?_
  have e := wd8_w hk T hw
  rw [← h8] at e
  by_cases c1 : wrP s w
  · rw [if_pos c1] at hq
    rw [if_pos (e.mpr c1)]
    exact hq
  · rw [if_neg c1] at hq
    rw [if_neg fun z => c1 (e.mp z)]
    exact hq
theorem t_nam {d : Nat} {h : Hp} {m sz : Nat} {B : Nat → Int} {s : R4} {Q : Nat → Option Value → Hp → Prop} (x : nxE h m sz B s) (hk : tkP s) (hq : Q 0 (some (.int (iI (if s.2.1 = 2 ∧ ¬ owW s.2.2.1 then 1 else 0)))) h) : PR d m_M_isName [.ref m] h Q := by
  obtain ⟨p, tk, at', nu, wo, xg, h17, ht, h18, h20, h23, hb, T⟩ := x
  refine t_M_isName xg.1 h17 ht h23 (by constructor <;> omega) ?_
  have e1 := wd8_w hk T (w := 3164) (by omega)
  have e2 := wd8_w hk T (w := 8903) (by omega)
  have e3 := wd8_w hk T (w := 411) (by omega)
  have e4 := wd8_w hk T (w := 164222) (by omega)
  have e5 := wd8_w hk T (w := 9176) (by omega)
  have e6 := wd8_w hk T (w := 267305) (by omega)
  rw [show wd8 3164 = 6580581 from rfl] at e1
  rw [show wd8 8903 = 7103860 from rfl] at e2
  rw [show wd8 411 = 28518 from rfl] at e3
  rw [show wd8 164222 = 1751738216 from rfl] at e4
  rw [show wd8 9176 = 7106423 from rfl] at e5
  rw [show wd8 267305 = 1836020325 from rfl] at e6
  have e0 : tk = 1 ↔ s.2.1 = 2 := by
    obtain ⟨-, -, T⟩ := T
    omega
  by_cases c1 : s.2.1 = 2 ∧ ¬ owW s.2.2.1
  · rw [if_pos c1] at hq
    have t1 := e0.mpr c1.1
    have c2 := c1.2
    rw [if_pos ⟨t1, fun z => c2 (Or.inl (e1.mp ⟨t1, z⟩).2), fun z => c2 (Or.inr (Or.inl (e2.mp ⟨t1, z⟩).2)), fun z => c2 (Or.inr (Or.inr (Or.inl (e3.mp ⟨t1, z⟩).2))), fun z => c2 (Or.inr (Or.inr (Or.inr (Or.inl (e4.mp ⟨t1, z⟩).2)))), fun z => c2 (Or.inr (Or.inr (Or.inr (Or.inr (Or.inl (e5.mp ⟨t1, z⟩).2))))), fun z => c2 (Or.inr (Or.inr (Or.inr (Or.inr (Or.inr (e6.mp ⟨t1, z⟩).2)))))⟩]
    exact hq
  · rw [if_neg c1] at hq
    rw [if_neg]
    · exact hq
    · rintro ⟨t1, n1, n2, n3, n4, n5, n6⟩
      have s2 := e0.mp t1
      refine c1 ⟨s2, fun z => ?_⟩
      rcases z with z | z | z | z | z | z
      · exact n1 (e1.mpr ⟨s2, z⟩).2
      · exact n2 (e2.mpr ⟨s2, z⟩).2
      · exact n3 (e3.mpr ⟨s2, z⟩).2
      · exact n4 (e4.mpr ⟨s2, z⟩).2
      · exact n5 (e5.mpr ⟨s2, z⟩).2
      · exact n6 (e6.mpr ⟨s2, z⟩).2
/-- the NAMES told so far -/
def naS (h : Hp) (m n : Nat) (Wd : Nat → Int) (Vn : Nat → RowVal) : Prop := zI h (m + 7) 1 = iI n ∧ n ≤ 12 ∧ ∀ k, k < n → (0 ≤ Wd k ∧ Wd k < 387420489) ∧ zJ h (m + 4) (12 + k) = lI (wd8 (Wd k)) ∧ slV h m (12 + k) (Vn k) ∧ gV (Vn k)
theorem nm_fn {Wd N : Nat → Int} {w wo : Int} : ∀ (k i : Nat), (∀ j, i ≤ j → j < i + k → (N j = wo ↔ Wd j = w)) → (match fB (fun k => N k == wo) k i with | some k => 12 + (k : Int) | none => -1) = if fndW Wd w k i = -1 then -1 else 12 + fndW Wd w k i
  | 0, _, _ => rfl
  | k + 1, i, h => by
    have e1 : fB (fun k => N k == wo) (k + 1) i = if (N i == wo) = true then some i else fB (fun k => N k == wo) k (i + 1) := rfl
    have e2 : fndW Wd w (k + 1) i = if Wd i = w then (i : Int) else fndW Wd w k (i + 1) := rfl
    by_cases c : Wd i = w
    · rw [e1, e2, if_pos c, if_pos (beq_iff_eq.mpr ((h i (by omega) (by omega)).mpr c)), if_neg (by omega)]
    · rw [e1, e2, if_neg c, if_neg fun z => c ((h i (by omega) (by omega)).mp (beq_iff_eq.mp z))]
      exact nm_fn k (i + 1) fun j h1 h2 => h j (by omega) (by omega)
theorem t_nmd {d : Nat} {h : Hp} {m sz n : Nat} {B Wd : Nat → Int} {Vn : Nat → RowVal} {s : R4} {Q : Nat → Option Value → Hp → Prop} (x : nxE h m sz B s) (hk : tkP s) (ns : naS h m n Wd Vn) (h2 : s.2.1 = 2) (hq : Q 0 (some (.int (iI (if fndW Wd s.2.2.1 n 0 = -1 then -1 else 12 + fndW Wd s.2.2.1 n 0)))) h) : PR d m_M_named [.ref m] h Q := by
  obtain ⟨p, tk, at', nu, wo, xg, h17, ht, h18, h20, h23, hb, T⟩ := x
  obtain ⟨n1, n2, n3⟩ := ns
  refine t_M_named (N := fun k => wd8 (Wd k)) xg.1 n1 n2 h23 (by constructor <;> omega) (fun k hkn => ⟨?_, (n3 k hkn).2.1⟩) ?_
  · have := wd8_b (Wd k)
    constructor <;> omega
  · have e := nm_fn (Wd := Wd) (N := fun k => wd8 (Wd k)) (w := s.2.2.1) (wo := wo) n 0 fun j h1 h3 => by
      have T2 := T.2.2
      have b := hk.2.2.1
      have w4 : s.2.2.1 < 387420489 ∧ wo = wd8 s.2.2.1 := by
        rcases T2 with z | z | z | z | z | z
        · omega
        · omega
        · omega
        · exact z.2.2
        · omega
        · omega
      rw [w4.2]
      exact ⟨fun z => wd8_inj (n3 j (by omega)).1 ⟨b.1, w4.1⟩ z, fun z => by rw [z]⟩
    rw [show nmF (fun k => wd8 (Wd k)) wo n = if fndW Wd s.2.2.1 n 0 = -1 then -1 else 12 + fndW Wd s.2.2.1 n 0 from e]
    exact hq
/-- what reading a SUM at depth o changes -/
abbrev sdS (o s : Nat) : Prop := (24 ≤ s ∧ s ≤ 26) ∨ (27 + o ≤ s ∧ s ≤ 37) ∨ 39 + o ≤ s
def suC (o : Nat) (h g : Hp) (m : Nat) : Prop := fi (fun q => q = m ∨ q = m + 2 ∨ q = m + 3 ∨ (m + 9 ≤ q ∧ q ≤ m + 12)) h g ∧ (∀ i, i ≠ 4 → i ≠ 17 → i ≠ 18 → i ≠ 19 → i ≠ 20 → i ≠ 7 → zI g m i = zI h m i) ∧ (∀ i, i < o + 1 → zI g (m + 9) i = zI h (m + 9) i) ∧ (∀ q i, m + 10 ≤ q → q ≤ m + 12 → i < o → zI g q i = zI h q i) ∧ ∀ s, s < 49 → ¬ sdS o s → (∀ k, k < 401 → zJ g (m + 2) (401 * s + k) = zJ h (m + 2) (401 * s + k)) ∧ zJ g (m + 3) s = zJ h (m + 3) s
theorem suC.rf {o : Nat} {h : Hp} {m : Nat} : suC o h h m := ⟨fi.rf, fun _ _ _ _ _ _ _ => rfl, fun _ _ => rfl, fun _ _ _ _ _ => rfl, fun _ _ _ => ⟨fun _ _ => rfl, rfl⟩⟩
theorem suC.tr {o : Nat} {a b c : Hp} {m : Nat} (x : suC o a b m) (y : suC o b c m) : suC o a c m :=
  ⟨x.1.tr y.1, fun i h1 h2 h3 h4 h5 h6 => by rw [y.2.1 i h1 h2 h3 h4 h5 h6, x.2.1 i h1 h2 h3 h4 h5 h6], fun i h1 => by rw [y.2.2.1 i h1, x.2.2.1 i h1], fun q i h1 h2 h3 => by rw [y.2.2.2.1 q i h1 h2 h3, x.2.2.2.1 q i h1 h2 h3], fun s hs hp => ⟨fun k hk => by rw [(y.2.2.2.2 s hs hp).1 k hk, (x.2.2.2.2 s hs hp).1 k hk], by rw [(y.2.2.2.2 s hs hp).2, (x.2.2.2.2 s hs hp).2]⟩⟩
theorem suC.up {o o' : Nat} {h g : Hp} {m : Nat} (x : suC o h g m) (ho : o' ≤ o) : suC o' h g m := ⟨x.1, x.2.1, fun i h1 => x.2.2.1 i (by omega), fun q i h1 h2 h3 => x.2.2.2.1 q i h1 h2 (by omega), fun s hs hp => x.2.2.2.2 s hs (by omega)⟩
theorem suC.sl {o : Nat} {h g : Hp} {m s : Nat} {W : Int → Int} {tot : Int} (x : suC o h g m) (hs : s < 49) (hp : ¬ sdS o s) (v : slW h m s W tot) : slW g m s W tot := ⟨fun k hk => by rw [(x.2.2.2.2 s hs hp).1 k hk]; exact v.1 k hk, by rw [(x.2.2.2.2 s hs hp).2]; exact v.2⟩
theorem nxC.su {o : Nat} {h g : Hp} {m : Nat} (c : nxC h g m) : suC o h g m :=
  ⟨c.1.wk fun q z => Or.inl z, fun i h1 h2 h3 h4 h5 _ => c.2 i h1 h2 h3 h4 h5, fun i _ => by rw [c.1.1.2.2.2.2.2.1 (m + 9) (by omega)], fun q i h1 h2 _ => by rw [c.1.1.2.2.2.2.2.1 q (by omega)], fun s _ _ => ⟨fun k _ => by rw [c.1.1.2.2.2.2.2.2.1 (m + 2) (by omega)], by rw [c.1.1.2.2.2.2.2.2.1 (m + 3) (by omega)]⟩⟩
theorem poR.su {o : Nat} {P : Nat → Prop} {h g : Hp} {m : Nat} (c : poR P h g m) (hP : ∀ s, P s → sdS o s) : suC o h g m :=
  ⟨c.1.wk fun q z => by omega, fun i _ _ _ _ _ h6 => c.2.1 i h6, fun i _ => by rw [c.2.2.1 (m + 9) (by omega)], fun q i h1 h2 _ => by rw [c.2.2.1 q (by omega)], fun s hs hp => c.2.2.2.2 s hs fun z => hp (hP s z)⟩
theorem suC_I {o j : Nat} {h : Hp} {m q : Nat} {v : Int32} (h1 : m + 10 ≤ q) (h2 : q ≤ m + 12) (hj : o ≤ j) : suC o h (zsI h q j v) m :=
  ⟨fi_I (Or.inr (Or.inr (Or.inr ⟨by omega, h2⟩))), fun i _ _ _ _ _ _ => by rw [zI_s, if_neg (by omega)], fun i _ => by rw [zI_s, if_neg (by omega)], fun q' i _ _ h3 => by rw [zI_s, if_neg (by omega)], fun s _ _ => ⟨fun _ _ => rfl, rfl⟩⟩
theorem suC_K {o j : Nat} {h : Hp} {m : Nat} {v : Int32} (hj : o + 1 ≤ j) : suC o h (zsI h (m + 9) j v) m :=
  ⟨fi_I (Or.inr (Or.inr (Or.inr ⟨by omega, by omega⟩))), fun i _ _ _ _ _ _ => by rw [zI_s, if_neg (by omega)], fun i _ => by rw [zI_s, if_neg (by omega)], fun q' i _ _ h3 => by rw [zI_s, if_neg (by omega)], fun s _ _ => ⟨fun _ _ => rfl, rfl⟩⟩
/-- reading on: the reader, the NAMES, whether it is TOO MUCH -/
def suG (h : Hp) (m sz n : Nat) (B Wd : Nat → Int) (Vn : Nat → RowVal) (s : R4) (tm : Bool) : Prop := nxE h m sz B s ∧ tkP s ∧ naS h m n Wd Vn ∧ zI h m 7 = iI (if tm = true then 1 else 0)
theorem suG.m {h : Hp} {m sz n : Nat} {B Wd : Nat → Int} {Vn : Nat → RowVal} {s : R4} {tm : Bool} (x : suG h m sz n B Wd Vn s tm) : mO h m := by
  obtain ⟨⟨p, tk, at', nu, wo, xg, -⟩, -⟩ := x
  exact xg.1
theorem naS.su {o : Nat} {h g : Hp} {m n : Nat} {Wd : Nat → Int} {Vn : Nat → RowVal} (x : naS h m n Wd Vn) (c : suC o h g m) : naS g m n Wd Vn := by
  obtain ⟨n1, n2, n3⟩ := x
  refine ⟨by rw [c.1.1.2.2.2.2.2.1 (m + 7) (by omega)]; exact n1, n2, fun k hk => ⟨(n3 k hk).1, ?_, c.sl (by omega) (by omega) (n3 k hk).2.2.1, (n3 k hk).2.2.2⟩⟩
  rw [c.1.1.2.2.2.2.2.2.1 (m + 4) (by omega)]
  exact (n3 k hk).2.1
/-- the reader is kept where its numbers are -/
theorem nxE.of {h g : Hp} {m sz : Nat} {B : Nat → Int} {s : R4} (x : nxE h m sz B s) (hm : mO g m) (h1 : ∀ i, i = 3 ∨ i = 4 ∨ i = 17 ∨ i = 18 ∨ i = 20 → zI g m i = zI h m i) (h2 : zI g (m + 1) = zI h (m + 1)) (h3 : zJ g m 23 = zJ h m 23) : nxE g m sz B s := by
  obtain ⟨p, tk, at', nu, wo, xg, h17, ht, h18, h20, h23, hb, T⟩ := x
  exact ⟨p, tk, at', nu, wo, ⟨hm, by rw [h1 3 (by omega)]; exact xg.2.1, xg.2.2.1, by rw [h1 4 (by omega)]; exact xg.2.2.2.1, xg.2.2.2.2.1, fun i hi => by rw [h2]; exact xg.2.2.2.2.2.1 i hi, xg.2.2.2.2.2.2⟩, by rw [h1 17 (by omega)]; exact h17, ht, by rw [h1 18 (by omega)]; exact h18, by rw [h1 20 (by omega)]; exact h20, by rw [h3]; exact h23, hb, T⟩
/-- values have changed, the reader has not -/
theorem suG.po {P : Nat → Prop} {h g : Hp} {m sz n : Nat} {B Wd : Nat → Int} {Vn : Nat → RowVal} {s : R4} {tm tm' : Bool} (x : suG h m sz n B Wd Vn s tm) (c : poR P h g m) (hP : ∀ s, P s → sdS 0 s) (h7 : zI g m 7 = iI (if tm' = true then 1 else 0)) : suG g m sz n B Wd Vn s tm' :=
  ⟨x.1.of (x.m.fi c.1) (fun i hi => c.2.1 i (by omega)) (c.2.2.1 _ (by omega)) (by rw [c.2.2.2.1]), x.2.1, x.2.2.1.su (c.su hP), h7⟩
theorem suG.ar {h g : Hp} {m sz n q : Nat} {B Wd : Nat → Int} {Vn : Nat → RowVal} {s : R4} {tm : Bool} (x : suG h m sz n B Wd Vn s tm) (c : fi (fun z => z = q) h g) (hq : m + 9 ≤ q ∧ q ≤ m + 12) (hJ : zJ g = zJ h) : suG g m sz n B Wd Vn s tm := by
  have e : zI g m = zI h m := c.1.2.2.2.2.2.1 m (by omega)
  refine ⟨x.1.of (x.m.fi c) (fun i hi => by rw [e]) (c.1.2.2.2.2.2.1 _ (by omega)) (by rw [hJ]), x.2.1, ?_, by rw [e]; exact x.2.2.2⟩
  obtain ⟨n1, n2, n3⟩ := x.2.2.1
  exact ⟨by rw [c.1.2.2.2.2.2.1 (m + 7) (by omega)]; exact n1, n2, fun k hk => ⟨(n3 k hk).1, by rw [hJ]; exact (n3 k hk).2.1, (n3 k hk).2.2.1.of (by rw [hJ]) (by rw [hJ]), (n3 k hk).2.2.2⟩⟩
theorem t_nxt {d : Nat} {h : Hp} {m sz n : Nat} {B Wd : Nat → Int} {Vn : Nat → RowVal} {s : R4} {tm : Bool} {Q : Nat → Option Value → Hp → Prop} (x : suG h m sz n B Wd Vn s tm) (hq : ∀ g, nxC h g m → suG g m sz n B Wd Vn (nx B sz s) tm → Q 0 none g) : PR (d + 1) m_M_next [.ref m] h Q := by
  have hx := x.1
  obtain ⟨p, tk, at', nu, wo, xg, h17, ht, h18, h20, h23, hb, T⟩ := hx
  refine t_M_next (fo := s.1) (va := s.2.2.1) xg T.1 fun g c e => hq g c ⟨e, ?_, x.2.2.1.su (c.su (o := 0)), ?_⟩
  · exact nx_tk xg.2.2.2.2.2.2 (by have := xg.2.2.1; omega) x.2.1
  · rw [c.2 7 (by omega) (by omega) (by omega) (by omega) (by omega)]
    exact x.2.2.2
/-- the FAULT told: kind k at the TOKEN's place, or at p -/
def e22 (g : Hp) (m : Nat) (p : Int) : Prop := zI g m 22 = iI p ∧ (zI g m 7 = iI 0 ∨ zI g m 7 = iI 1)
/-- what may have changed when a FAULT is told -/
def flC (h g : Hp) (m : Nat) : Prop := fi (fun q => q = m ∨ q = m + 2 ∨ q = m + 3 ∨ (m + 9 ≤ q ∧ q ≤ m + 12)) h g ∧ (∀ i, i ≠ 4 → i ≠ 17 → i ≠ 18 → i ≠ 19 → i ≠ 20 → i ≠ 7 → i ≠ 21 → i ≠ 22 → zI g m i = zI h m i) ∧ ∀ s, s < 24 → (∀ k, k < 401 → zJ g (m + 2) (401 * s + k) = zJ h (m + 2) (401 * s + k)) ∧ zJ g (m + 3) s = zJ h (m + 3) s
theorem flC.tr {a b c : Hp} {m : Nat} (x : flC a b m) (y : flC b c m) : flC a c m :=
  ⟨x.1.tr y.1, fun i h1 h2 h3 h4 h5 h6 h7 h8 => by rw [y.2.1 i h1 h2 h3 h4 h5 h6 h7 h8, x.2.1 i h1 h2 h3 h4 h5 h6 h7 h8], fun s hs => ⟨fun k hk => by rw [(y.2.2 s hs).1 k hk, (x.2.2 s hs).1 k hk], by rw [(y.2.2 s hs).2, (x.2.2 s hs).2]⟩⟩
theorem flC.n {h g : Hp} {m : Nat} (x : flC h g m) : zN g = zN h := x.1.1.2.2.1
theorem suC.fl {o : Nat} {h g : Hp} {m : Nat} (x : suC o h g m) : flC h g m := ⟨x.1, fun i h1 h2 h3 h4 h5 h6 _ _ => x.2.1 i h1 h2 h3 h4 h5 h6, fun s hs => x.2.2.2.2 s (by omega) (by omega)⟩
def flG (h g : Hp) (m : Nat) (k p : Int) : Prop := flC h g m ∧ zI g m 21 = iI k ∧ e22 g m p
theorem suG.b7 {h : Hp} {m sz n : Nat} {B Wd : Nat → Int} {Vn : Nat → RowVal} {s : R4} {tm : Bool} (x : suG h m sz n B Wd Vn s tm) : zI h m 7 = iI 0 ∨ zI h m 7 = iI 1 := by
  have := x.2.2.2
  cases tm
  · exact Or.inl this
  · exact Or.inr this
theorem bad_c {h g : Hp} {m : Nat} (f : fi (fun q => q = m) h g) (h1 : ∀ i, i ≠ 21 → i ≠ 22 → zI g m i = zI h m i) : flC h g m :=
  ⟨f.wk fun q z => Or.inl z, fun i _ _ _ _ _ _ h7 h8 => h1 i h7 h8, fun s _ => ⟨fun k _ => by rw [f.1.2.2.2.2.2.2.1 (m + 2) (by omega)], by rw [f.1.2.2.2.2.2.2.1 (m + 3) (by omega)]⟩⟩
theorem t_bad {d : Nat} {h : Hp} {m sz n : Nat} {k : Int} {B Wd : Nat → Int} {Vn : Nat → RowVal} {s : R4} {tm : Bool} {Q : Nat → Option Value → Hp → Prop} (x : suG h m sz n B Wd Vn s tm) (hq : ∀ g, flG h g m k s.2.2.2 → Q 0 (some (.int (iI 0))) g) : PR d m_M_bad [.ref m, .int (iI k)] h Q := by
  have b7 := x.b7
  obtain ⟨⟨p, tk, at', nu, wo, xg, h17, ht, h18, h20, h23, hb, T⟩, -⟩ := x
  have e := T.2.1
  subst e
  exact t_M_bad xg.1 h18 fun g f h1 h2 h21 h22 => hq g ⟨bad_c f h1, h21, h22, by rw [h1 7 (by omega) (by omega)]; exact b7⟩
theorem t_badAt {d : Nat} {h : Hp} {m sz n : Nat} {k p : Int} {B Wd : Nat → Int} {Vn : Nat → RowVal} {s : R4} {tm : Bool} {Q : Nat → Option Value → Hp → Prop} (x : suG h m sz n B Wd Vn s tm) (hq : ∀ g, flG h g m k p → Q 0 (some (.int (iI 0))) g) : PR d m_M_badAt [.ref m, .int (iI k), .int (iI p)] h Q :=
  t_M_badAt x.m fun g f h1 h2 h21 h22 => hq g ⟨bad_c f h1, h21, h22, by rw [h1 7 (by omega) (by omega)]; exact x.b7⟩
/-- the part at depth o begins anew: no value yet, not thrown several times, its sign read -/
def beS (h : Hp) (m o : Nat) (s : R4) : Prop := zI h (m + 12) o = iI 0 ∧ zI h (m + 11) o = iI 0 ∧ zI h (m + 10) o = iI (if sgP s 45 then -1 else 1)
theorem t_M_begin {d : Nat} {h : Hp} {m sz n o : Nat} {B Wd : Nat → Int} {Vn : Nat → RowVal} {s : R4} {tm : Bool} {Q : Nat → Option Value → Hp → Prop} (x : suG h m sz n B Wd Vn s tm) (ho : o ≤ 10) (hq : ∀ g, suC o h g m → suG g m sz n B Wd Vn (if sgP s 45 then nx B sz s else s) tm → beS g m o s → Q 0 none g) : PR (d + 2) m_M_begin [.ref m, .int (iI o)] h Q := by
  have hm := x.m
  have M := hm.k
  have A9 := hm.kind
  have A10 := hm.signed
  have A11 := hm.times
  have A12 := hm.has
  show PW (d + 2) 209 0 [some (.ref m), some (.int (iI o))] [] h Q
  refine vs_ok 4 ?_
  rw [show ((gRes 209).drop 0).take 4 = [.aload 0, .getfield 12162, .iload 1, .iconst 0] from rfl]
  simp (disch := omega) only [vs_iconst, vs_getfield, vs_aload0, vs_iload1, vs_nil, gv_0, gv_1, gv_2, gv_3, pv_0, pv_1, va_rf_s, Nat.reduceDiv, Nat.reduceMod, Nat.reduceAdd, Nat.reduceMul, Int.reduceToNat, true_and, and_true, and_self, cP_eq, cP_ne, cP_lt, cP_ge, cP_gt, cP_le, eL_i, eL_l, eL_r, eL_n, Option.toList_none, Option.toList_some, List.nil_append, List.cons_append, kkI, llI, nnI, rrI, jjI, kkJ, llJ, nnJ, rrJ, iiJ, zIIs, zJJs, nEF, nET, and_false, false_and, jmin, jmax, catS_n, catS_i, catS_r, catS_l, Nat.reduceLeDiff, j1eq1, n21, jt0, jt1, Bool.false_eq_true, Classical.not_not, true_or, or_true, false_or, or_false, true_imp_iff, false_imp_iff, not_true_eq_false, not_false_eq_true, jif0, jif1, jifb, ltT, ltF, leT, leF, eqT, eqF, jlt, jle, jeq, jlt0, jle0, jeq0, jge0, jgt0, jinB, jnat, clt, cle, ceq, cgt, cge, lI_add, lI_sub, lI_mul, jadd, jsub, jmul, jneg, jtol, b010, b011, pv_2t, Int.toNat_natCast, Option.some.injEq, exists_eq_left', if_true, if_false, M, A12]
  refine PW.bos rfl ⟨A12.2.1, A12.2.2.1, by rw [A12.2.2.2]; exact (inB_iI (by constructor <;> omega)).mpr ⟨by omega, by omega⟩⟩ ?_
  rw [show (iI (o : Int)).toNatClampNeg = o from jnat (by omega) (by omega)]
  have f1 : fi (fun z => z = m + 12) h (zsI h (m + 12) o (vp_nar .boolean (iI 0))) := fi_I rfl
  have s1 := x.ar f1 (by omega) rfl
  have c1 : suC o h (zsI h (m + 12) o (vp_nar .boolean (iI 0))) m := suC_I (by omega) (by omega) (by omega)
  have v1 : zI (zsI h (m + 12) o (vp_nar .boolean (iI 0))) (m + 12) o = iI 0 := by
    rw [zI_s, if_pos ⟨rfl, rfl⟩]
    rfl
  generalize zsI h (m + 12) o (vp_nar .boolean (iI 0)) = g1 at *
  have M1 := s1.m.k
  have B10 := s1.m.signed
  have B11 := s1.m.times
  refine vs_ok 10 ?_
  rw [show ((gRes 209).drop 5).take 10 = [.aload 0, .getfield 12152, .iload 1, .iconst 0, .iastore, .aload 0, .getfield 12142, .iload 1, .iconst 1, .iastore] from rfl]
  simp (disch := omega) only [vs_iconst, vs_getfield, vs_iastore, vs_aload0, vs_iload1, vs_nil, gv_0, gv_1, gv_2, gv_3, pv_0, pv_1, va_rf_s, Nat.reduceDiv, Nat.reduceMod, Nat.reduceAdd, Nat.reduceMul, Int.reduceToNat, true_and, and_true, and_self, cP_eq, cP_ne, cP_lt, cP_ge, cP_gt, cP_le, eL_i, eL_l, eL_r, eL_n, Option.toList_none, Option.toList_some, List.nil_append, List.cons_append, kkI, llI, nnI, rrI, jjI, kkJ, llJ, nnJ, rrJ, iiJ, zIIs, zJJs, nEF, nET, and_false, false_and, jmin, jmax, catS_n, catS_i, catS_r, catS_l, Nat.reduceLeDiff, j1eq1, n21, jt0, jt1, Bool.false_eq_true, Classical.not_not, true_or, or_true, false_or, or_false, true_imp_iff, false_imp_iff, not_true_eq_false, not_false_eq_true, jif0, jif1, jifb, ltT, ltF, leT, leF, eqT, eqF, jlt, jle, jeq, jlt0, jle0, jeq0, jge0, jgt0, jinB, jnat, clt, cle, ceq, cgt, cge, lI_add, lI_sub, lI_mul, jadd, jsub, jmul, jneg, jtol, b010, b011, pv_2t, Int.toNat_natCast, Option.some.injEq, exists_eq_left', if_true, if_false, M1, B10, B11]
  have f2 : fi (fun z => z = m + 11) g1 (zsI g1 (m + 11) o (iI 0)) := fi_I rfl
  have f3 : fi (fun z => z = m + 10) (zsI g1 (m + 11) o (iI 0)) (zsI (zsI g1 (m + 11) o (iI 0)) (m + 10) o (iI 1)) := fi_I rfl
  have s3 := (s1.ar f2 (by omega) rfl).ar f3 (by omega) rfl
  have c3 : suC o h (zsI (zsI g1 (m + 11) o (iI 0)) (m + 10) o (iI 1)) m := c1.tr ((suC_I (by omega) (by omega) (by omega)).tr (suC_I (by omega) (by omega) (by omega)))
  have v3 : zI (zsI (zsI g1 (m + 11) o (iI 0)) (m + 10) o (iI 1)) (m + 12) o = iI 0 ∧ zI (zsI (zsI g1 (m + 11) o (iI 0)) (m + 10) o (iI 1)) (m + 11) o = iI 0 ∧ zI (zsI (zsI g1 (m + 11) o (iI 0)) (m + 10) o (iI 1)) (m + 10) o = iI 1 := by
    refine ⟨?_, ?_, ?_⟩
    · rw [zI_s, if_neg (by omega), zI_s, if_neg (by omega)]; exact v1
    · rw [zI_s, if_neg (by omega), zI_s, if_pos ⟨rfl, rfl⟩]
    · rw [zI_s, if_pos ⟨rfl, rfl⟩]
  generalize zsI (zsI g1 (m + 11) o (iI 0)) (m + 10) o (iI 1) = g3 at *
  have M3 := s3.m.k
  refine vs_ok 2 ?_
  rw [show ((gRes 209).drop 15).take 2 = [.aload 0, .iconst 45] from rfl]
  simp (disch := omega) only [vs_iconst, vs_aload0, vs_nil, gv_0, gv_1, gv_2, gv_3, pv_0, pv_1, va_rf_s, Nat.reduceDiv, Nat.reduceMod, Nat.reduceAdd, Nat.reduceMul, Int.reduceToNat, true_and, and_true, and_self, cP_eq, cP_ne, cP_lt, cP_ge, cP_gt, cP_le, eL_i, eL_l, eL_r, eL_n, Option.toList_none, Option.toList_some, List.nil_append, List.cons_append, kkI, llI, nnI, rrI, jjI, kkJ, llJ, nnJ, rrJ, iiJ, zIIs, zJJs, nEF, nET, and_false, false_and, jmin, jmax, catS_n, catS_i, catS_r, catS_l, Nat.reduceLeDiff, j1eq1, n21, jt0, jt1, Bool.false_eq_true, Classical.not_not, true_or, or_true, false_or, or_false, true_imp_iff, false_imp_iff, not_true_eq_false, not_false_eq_true, jif0, jif1, jifb, ltT, ltF, leT, leF, eqT, eqF, jlt, jle, jeq, jlt0, jle0, jeq0, jge0, jgt0, jinB, jnat, clt, cle, ceq, cgt, cge, lI_add, lI_sub, lI_mul, jadd, jsub, jmul, jneg, jtol, b010, b011, pv_2t, Int.toNat_natCast, Option.some.injEq, exists_eq_left', if_true, if_false]
  refine PW.iv rfl rfl rfl M3.1 M3.2 (le_b rfl) (le_b rfl) ?_
  refine t_sgn s3.1 (by omega) ⟨rfl, ⟨rfl, rfl⟩, ?_⟩
  by_cases c : sgP s 45
  · rw [if_pos c]
    have C10 := s3.m.signed
    refine vs_ok 1 ?_
    rw [show ((gRes 209).drop 18).take 1 = [.ifCond .ne 20] from rfl]
    simp (disch := omega) only [vs_ifCond, vs_nil, gv_0, gv_1, gv_2, gv_3, pv_0, pv_1, va_rf_s, Nat.reduceDiv, Nat.reduceMod, Nat.reduceAdd, Nat.reduceMul, Int.reduceToNat, true_and, and_true, and_self, cP_eq, cP_ne, cP_lt, cP_ge, cP_gt, cP_le, eL_i, eL_l, eL_r, eL_n, Option.toList_none, Option.toList_some, List.nil_append, List.cons_append, kkI, llI, nnI, rrI, jjI, kkJ, llJ, nnJ, rrJ, iiJ, zIIs, zJJs, nEF, nET, and_false, false_and, jmin, jmax, catS_n, catS_i, catS_r, catS_l, Nat.reduceLeDiff, j1eq1, n21, jt0, jt1, Bool.false_eq_true, Classical.not_not, true_or, or_true, false_or, or_false, true_imp_iff, false_imp_iff, not_true_eq_false, not_false_eq_true, jif0, jif1, jifb, ltT, ltF, leT, leF, eqT, eqF, jlt, jle, jeq, jlt0, jle0, jeq0, jge0, jgt0, jinB, jnat, clt, cle, ceq, cgt, cge, lI_add, lI_sub, lI_mul, jadd, jsub, jmul, jneg, jtol, b010, b011, pv_2t, Int.toNat_natCast, Option.some.injEq, exists_eq_left', if_true, if_false]
    refine vs_ok 5 ?_
    rw [show ((gRes 209).drop 20).take 5 = [.aload 0, .getfield 12142, .iload 1, .iconst (-1), .iastore] from rfl]
    simp (disch := omega) only [vs_iconst, vs_getfield, vs_iastore, vs_aload0, vs_iload1, vs_nil, gv_0, gv_1, gv_2, gv_3, pv_0, pv_1, va_rf_s, Nat.reduceDiv, Nat.reduceMod, Nat.reduceAdd, Nat.reduceMul, Int.reduceToNat, true_and, and_true, and_self, cP_eq, cP_ne, cP_lt, cP_ge, cP_gt, cP_le, eL_i, eL_l, eL_r, eL_n, Option.toList_none, Option.toList_some, List.nil_append, List.cons_append, kkI, llI, nnI, rrI, jjI, kkJ, llJ, nnJ, rrJ, iiJ, zIIs, zJJs, nEF, nET, and_false, false_and, jmin, jmax, catS_n, catS_i, catS_r, catS_l, Nat.reduceLeDiff, j1eq1, n21, jt0, jt1, Bool.false_eq_true, Classical.not_not, true_or, or_true, false_or, or_false, true_imp_iff, false_imp_iff, not_true_eq_false, not_false_eq_true, jif0, jif1, jifb, ltT, ltF, leT, leF, eqT, eqF, jlt, jle, jeq, jlt0, jle0, jeq0, jge0, jgt0, jinB, jnat, clt, cle, ceq, cgt, cge, lI_add, lI_sub, lI_mul, jadd, jsub, jmul, jneg, jtol, b010, b011, pv_2t, Int.toNat_natCast, Option.some.injEq, exists_eq_left', if_true, if_false, M3, C10]
    have f4 : fi (fun z => z = m + 10) g3 (zsI g3 (m + 10) o (iI (-1))) := fi_I rfl
    have s4 := s3.ar f4 (by omega) rfl
    have c4 : suC o h (zsI g3 (m + 10) o (iI (-1))) m := c3.tr (suC_I (by omega) (by omega) (by omega))
    have v4 : zI (zsI g3 (m + 10) o (iI (-1))) (m + 12) o = iI 0 ∧ zI (zsI g3 (m + 10) o (iI (-1))) (m + 11) o = iI 0 ∧ zI (zsI g3 (m + 10) o (iI (-1))) (m + 10) o = iI (-1) := by
      refine ⟨?_, ?_, ?_⟩
      · rw [zI_s, if_neg (by omega)]; exact v3.1
      · rw [zI_s, if_neg (by omega)]; exact v3.2.1
      · rw [zI_s, if_pos ⟨rfl, rfl⟩]
    generalize zsI g3 (m + 10) o (iI (-1)) = g4 at *
    have M4 := s4.m.k
    refine vs_ok 1 ?_
    rw [show ((gRes 209).drop 25).take 1 = [.aload 0] from rfl]
    simp (disch := omega) only [vs_aload0, vs_nil, gv_0, gv_1, gv_2, gv_3, pv_0, pv_1, va_rf_s, Nat.reduceDiv, Nat.reduceMod, Nat.reduceAdd, Nat.reduceMul, Int.reduceToNat, true_and, and_true, and_self, cP_eq, cP_ne, cP_lt, cP_ge, cP_gt, cP_le, eL_i, eL_l, eL_r, eL_n, Option.toList_none, Option.toList_some, List.nil_append, List.cons_append, kkI, llI, nnI, rrI, jjI, kkJ, llJ, nnJ, rrJ, iiJ, zIIs, zJJs, nEF, nET, and_false, false_and, jmin, jmax, catS_n, catS_i, catS_r, catS_l, Nat.reduceLeDiff, j1eq1, n21, jt0, jt1, Bool.false_eq_true, Classical.not_not, true_or, or_true, false_or, or_false, true_imp_iff, false_imp_iff, not_true_eq_false, not_false_eq_true, jif0, jif1, jifb, ltT, ltF, leT, leF, eqT, eqF, jlt, jle, jeq, jlt0, jle0, jeq0, jge0, jgt0, jinB, jnat, clt, cle, ceq, cgt, cge, lI_add, lI_sub, lI_mul, jadd, jsub, jmul, jneg, jtol, b010, b011, pv_2t, Int.toNat_natCast, Option.some.injEq, exists_eq_left', if_true, if_false]
    refine PW.iv rfl rfl rfl M4.1 M4.2 (le_b rfl) (le_b rfl) ?_
    refine t_nxt s4 fun g5 c5 s5 => ⟨rfl, ⟨c5.1.1.2.2.1, rfl⟩, ?_⟩
    refine vs_ok 1 ?_
    rw [show ((gRes 209).drop 27).take 1 = [.return_] from rfl]
    simp (disch := omega) only [vs_return_, vs_nil, gv_0, gv_1, gv_2, gv_3, pv_0, pv_1, va_rf_s, Nat.reduceDiv, Nat.reduceMod, Nat.reduceAdd, Nat.reduceMul, Int.reduceToNat, true_and, and_true, and_self, cP_eq, cP_ne, cP_lt, cP_ge, cP_gt, cP_le, eL_i, eL_l, eL_r, eL_n, Option.toList_none, Option.toList_some, List.nil_append, List.cons_append, kkI, llI, nnI, rrI, jjI, kkJ, llJ, nnJ, rrJ, iiJ, zIIs, zJJs, nEF, nET, and_false, false_and, jmin, jmax, catS_n, catS_i, catS_r, catS_l, Nat.reduceLeDiff, j1eq1, n21, jt0, jt1, Bool.false_eq_true, Classical.not_not, true_or, or_true, false_or, or_false, true_imp_iff, false_imp_iff, not_true_eq_false, not_false_eq_true, jif0, jif1, jifb, ltT, ltF, leT, leF, eqT, eqF, jlt, jle, jeq, jlt0, jle0, jeq0, jge0, jgt0, jinB, jnat, clt, cle, ceq, cgt, cge, lI_add, lI_sub, lI_mul, jadd, jsub, jmul, jneg, jtol, b010, b011, pv_2t, Int.toNat_natCast, Option.some.injEq, exists_eq_left', if_true, if_false, show gRc 209 = 0 from rfl]
    have eI : ∀ q, q ≠ m → zI g5 q = zI g4 q := fun q hq => c5.1.1.2.2.2.2.2.1 q hq
    refine hq g5 (c4.tr c5.su) (by rw [if_pos c]; exact s5) ⟨?_, ?_, ?_⟩
    · rw [eI _ (by omega)]; exact v4.1
    · rw [eI _ (by omega)]; exact v4.2.1
    · rw [eI _ (by omega), if_pos c]; exact v4.2.2
  · rw [if_neg c]
    refine vs_ok 1 ?_
    rw [show ((gRes 209).drop 18).take 1 = [.ifCond .ne 20] from rfl]
    simp (disch := omega) only [vs_ifCond, vs_nil, gv_0, gv_1, gv_2, gv_3, pv_0, pv_1, va_rf_s, Nat.reduceDiv, Nat.reduceMod, Nat.reduceAdd, Nat.reduceMul, Int.reduceToNat, true_and, and_true, and_self, cP_eq, cP_ne, cP_lt, cP_ge, cP_gt, cP_le, eL_i, eL_l, eL_r, eL_n, Option.toList_none, Option.toList_some, List.nil_append, List.cons_append, kkI, llI, nnI, rrI, jjI, kkJ, llJ, nnJ, rrJ, iiJ, zIIs, zJJs, nEF, nET, and_false, false_and, jmin, jmax, catS_n, catS_i, catS_r, catS_l, Nat.reduceLeDiff, j1eq1, n21, jt0, jt1, Bool.false_eq_true, Classical.not_not, true_or, or_true, false_or, or_false, true_imp_iff, false_imp_iff, not_true_eq_false, not_false_eq_true, jif0, jif1, jifb, ltT, ltF, leT, leF, eqT, eqF, jlt, jle, jeq, jlt0, jle0, jeq0, jge0, jgt0, jinB, jnat, clt, cle, ceq, cgt, cge, lI_add, lI_sub, lI_mul, jadd, jsub, jmul, jneg, jtol, b010, b011, pv_2t, Int.toNat_natCast, Option.some.injEq, exists_eq_left', if_true, if_false]
    refine vs_ok 1 ?_
    rw [show ((gRes 209).drop 19).take 1 = [.return_] from rfl]
    simp (disch := omega) only [vs_return_, vs_nil, gv_0, gv_1, gv_2, gv_3, pv_0, pv_1, va_rf_s, Nat.reduceDiv, Nat.reduceMod, Nat.reduceAdd, Nat.reduceMul, Int.reduceToNat, true_and, and_true, and_self, cP_eq, cP_ne, cP_lt, cP_ge, cP_gt, cP_le, eL_i, eL_l, eL_r, eL_n, Option.toList_none, Option.toList_some, List.nil_append, List.cons_append, kkI, llI, nnI, rrI, jjI, kkJ, llJ, nnJ, rrJ, iiJ, zIIs, zJJs, nEF, nET, and_false, false_and, jmin, jmax, catS_n, catS_i, catS_r, catS_l, Nat.reduceLeDiff, j1eq1, n21, jt0, jt1, Bool.false_eq_true, Classical.not_not, true_or, or_true, false_or, or_false, true_imp_iff, false_imp_iff, not_true_eq_false, not_false_eq_true, jif0, jif1, jifb, ltT, ltF, leT, leF, eqT, eqF, jlt, jle, jeq, jlt0, jle0, jeq0, jge0, jgt0, jinB, jnat, clt, cle, ceq, cgt, cge, lI_add, lI_sub, lI_mul, jadd, jsub, jmul, jneg, jtol, b010, b011, pv_2t, Int.toNat_natCast, Option.some.injEq, exists_eq_left', if_true, if_false, show gRc 209 = 0 from rfl]
    exact hq g3 c3 (by rw [if_neg c]; exact s3) ⟨v3.1, v3.2.1, by rw [if_neg c]; exact v3.2.2⟩
theorem t_M_sign {d : Nat} {h : Hp} {m sz n : Nat} {c : Int} {B Wd : Nat → Int} {Vn : Nat → RowVal} {s : R4} {tm : Bool} {Q : Nat → Option Value → Hp → Prop} (x : suG h m sz n B Wd Vn s tm) (hc : 0 ≤ c ∧ c ≤ 255) (h1 : sgP s c → ∀ g, nxC h g m → suG g m sz n B Wd Vn (nx B sz s) tm → Q 0 (some (.int (iI 1))) g) (h0 : ¬ sgP s c → ∀ g, flG h g m 1 s.2.2.2 → Q 0 (some (.int (iI 0))) g) : PR (d + 2) m_M_sign [.ref m, .int (iI c)] h Q := by
  have M := x.m.k
  show PW (d + 2) 202 0 [some (.ref m), some (.int (iI c))] [] h Q
  refine vs_ok 2 ?_
  rw [show ((gRes 202).drop 0).take 2 = [.aload 0, .iload 1] from rfl]
  simp (disch := omega) only [vs_aload0, vs_iload1, vs_nil, gv_0, gv_1, gv_2, gv_3, pv_0, pv_1, va_rf_s, Nat.reduceDiv, Nat.reduceMod, Nat.reduceAdd, Nat.reduceMul, Int.reduceToNat, true_and, and_true, and_self, cP_eq, cP_ne, cP_lt, cP_ge, cP_gt, cP_le, eL_i, eL_l, eL_r, eL_n, Option.toList_none, Option.toList_some, List.nil_append, List.cons_append, kkI, llI, nnI, rrI, jjI, kkJ, llJ, nnJ, rrJ, iiJ, zIIs, zJJs, nEF, nET, and_false, false_and, jmin, jmax, catS_n, catS_i, catS_r, catS_l, Nat.reduceLeDiff, j1eq1, n21, jt0, jt1, Bool.false_eq_true, Classical.not_not, true_or, or_true, false_or, or_false, true_imp_iff, false_imp_iff, not_true_eq_false, not_false_eq_true, jif0, jif1, jifb, ltT, ltF, leT, leF, eqT, eqF, jlt, jle, jeq, jlt0, jle0, jeq0, jge0, jgt0, jinB, jnat, clt, cle, ceq, cgt, cge, lI_add, lI_sub, lI_mul, jadd, jsub, jmul, jneg, jtol, b010, b011, pv_2t, Int.toNat_natCast, Option.some.injEq, exists_eq_left', if_true, if_false]
  refine PW.iv rfl rfl rfl M.1 M.2 (le_b rfl) (le_b rfl) ?_
  refine t_sgn x.1 hc ⟨rfl, ⟨rfl, rfl⟩, ?_⟩
  by_cases z : sgP s c
  · rw [if_pos z]
    refine vs_ok 1 ?_
    rw [show ((gRes 202).drop 3).take 1 = [.ifCond .ne 8] from rfl]
    simp (disch := omega) only [vs_ifCond, vs_nil, gv_0, gv_1, gv_2, gv_3, pv_0, pv_1, va_rf_s, Nat.reduceDiv, Nat.reduceMod, Nat.reduceAdd, Nat.reduceMul, Int.reduceToNat, true_and, and_true, and_self, cP_eq, cP_ne, cP_lt, cP_ge, cP_gt, cP_le, eL_i, eL_l, eL_r, eL_n, Option.toList_none, Option.toList_some, List.nil_append, List.cons_append, kkI, llI, nnI, rrI, jjI, kkJ, llJ, nnJ, rrJ, iiJ, zIIs, zJJs, nEF, nET, and_false, false_and, jmin, jmax, catS_n, catS_i, catS_r, catS_l, Nat.reduceLeDiff, j1eq1, n21, jt0, jt1, Bool.false_eq_true, Classical.not_not, true_or, or_true, false_or, or_false, true_imp_iff, false_imp_iff, not_true_eq_false, not_false_eq_true, jif0, jif1, jifb, ltT, ltF, leT, leF, eqT, eqF, jlt, jle, jeq, jlt0, jle0, jeq0, jge0, jgt0, jinB, jnat, clt, cle, ceq, cgt, cge, lI_add, lI_sub, lI_mul, jadd, jsub, jmul, jneg, jtol, b010, b011, pv_2t, Int.toNat_natCast, Option.some.injEq, exists_eq_left', if_true, if_false]
    refine vs_ok 1 ?_
    rw [show ((gRes 202).drop 8).take 1 = [.aload 0] from rfl]
    simp (disch := omega) only [vs_aload0, vs_nil, gv_0, gv_1, gv_2, gv_3, pv_0, pv_1, va_rf_s, Nat.reduceDiv, Nat.reduceMod, Nat.reduceAdd, Nat.reduceMul, Int.reduceToNat, true_and, and_true, and_self, cP_eq, cP_ne, cP_lt, cP_ge, cP_gt, cP_le, eL_i, eL_l, eL_r, eL_n, Option.toList_none, Option.toList_some, List.nil_append, List.cons_append, kkI, llI, nnI, rrI, jjI, kkJ, llJ, nnJ, rrJ, iiJ, zIIs, zJJs, nEF, nET, and_false, false_and, jmin, jmax, catS_n, catS_i, catS_r, catS_l, Nat.reduceLeDiff, j1eq1, n21, jt0, jt1, Bool.false_eq_true, Classical.not_not, true_or, or_true, false_or, or_false, true_imp_iff, false_imp_iff, not_true_eq_false, not_false_eq_true, jif0, jif1, jifb, ltT, ltF, leT, leF, eqT, eqF, jlt, jle, jeq, jlt0, jle0, jeq0, jge0, jgt0, jinB, jnat, clt, cle, ceq, cgt, cge, lI_add, lI_sub, lI_mul, jadd, jsub, jmul, jneg, jtol, b010, b011, pv_2t, Int.toNat_natCast, Option.some.injEq, exists_eq_left', if_true, if_false]
    refine PW.iv rfl rfl rfl M.1 M.2 (le_b rfl) (le_b rfl) ?_
    refine t_nxt x fun g c g1 => ⟨rfl, ⟨c.1.1.2.2.1, rfl⟩, ?_⟩
    refine vs_ok 2 ?_
    rw [show ((gRes 202).drop 10).take 2 = [.iconst 1, .ireturn] from rfl]
    simp (disch := omega) only [vs_iconst, vs_ireturn, vs_nil, gv_0, gv_1, gv_2, gv_3, pv_0, pv_1, va_rf_s, Nat.reduceDiv, Nat.reduceMod, Nat.reduceAdd, Nat.reduceMul, Int.reduceToNat, true_and, and_true, and_self, cP_eq, cP_ne, cP_lt, cP_ge, cP_gt, cP_le, eL_i, eL_l, eL_r, eL_n, Option.toList_none, Option.toList_some, List.nil_append, List.cons_append, kkI, llI, nnI, rrI, jjI, kkJ, llJ, nnJ, rrJ, iiJ, zIIs, zJJs, nEF, nET, and_false, false_and, jmin, jmax, catS_n, catS_i, catS_r, catS_l, Nat.reduceLeDiff, j1eq1, n21, jt0, jt1, Bool.false_eq_true, Classical.not_not, true_or, or_true, false_or, or_false, true_imp_iff, false_imp_iff, not_true_eq_false, not_false_eq_true, jif0, jif1, jifb, ltT, ltF, leT, leF, eqT, eqF, jlt, jle, jeq, jlt0, jle0, jeq0, jge0, jgt0, jinB, jnat, clt, cle, ceq, cgt, cge, lI_add, lI_sub, lI_mul, jadd, jsub, jmul, jneg, jtol, b010, b011, pv_2t, Int.toNat_natCast, Option.some.injEq, exists_eq_left', if_true, if_false, show gRc 202 = 2 from rfl]
    exact h1 z g c g1
  · rw [if_neg z]
    refine vs_ok 1 ?_
    rw [show ((gRes 202).drop 3).take 1 = [.ifCond .ne 8] from rfl]
    simp (disch := omega) only [vs_ifCond, vs_nil, gv_0, gv_1, gv_2, gv_3, pv_0, pv_1, va_rf_s, Nat.reduceDiv, Nat.reduceMod, Nat.reduceAdd, Nat.reduceMul, Int.reduceToNat, true_and, and_true, and_self, cP_eq, cP_ne, cP_lt, cP_ge, cP_gt, cP_le, eL_i, eL_l, eL_r, eL_n, Option.toList_none, Option.toList_some, List.nil_append, List.cons_append, kkI, llI, nnI, rrI, jjI, kkJ, llJ, nnJ, rrJ, iiJ, zIIs, zJJs, nEF, nET, and_false, false_and, jmin, jmax, catS_n, catS_i, catS_r, catS_l, Nat.reduceLeDiff, j1eq1, n21, jt0, jt1, Bool.false_eq_true, Classical.not_not, true_or, or_true, false_or, or_false, true_imp_iff, false_imp_iff, not_true_eq_false, not_false_eq_true, jif0, jif1, jifb, ltT, ltF, leT, leF, eqT, eqF, jlt, jle, jeq, jlt0, jle0, jeq0, jge0, jgt0, jinB, jnat, clt, cle, ceq, cgt, cge, lI_add, lI_sub, lI_mul, jadd, jsub, jmul, jneg, jtol, b010, b011, pv_2t, Int.toNat_natCast, Option.some.injEq, exists_eq_left', if_true, if_false]
    refine vs_ok 2 ?_
    rw [show ((gRes 202).drop 4).take 2 = [.aload 0, .iconst 1] from rfl]
    simp (disch := omega) only [vs_iconst, vs_aload0, vs_nil, gv_0, gv_1, gv_2, gv_3, pv_0, pv_1, va_rf_s, Nat.reduceDiv, Nat.reduceMod, Nat.reduceAdd, Nat.reduceMul, Int.reduceToNat, true_and, and_true, and_self, cP_eq, cP_ne, cP_lt, cP_ge, cP_gt, cP_le, eL_i, eL_l, eL_r, eL_n, Option.toList_none, Option.toList_some, List.nil_append, List.cons_append, kkI, llI, nnI, rrI, jjI, kkJ, llJ, nnJ, rrJ, iiJ, zIIs, zJJs, nEF, nET, and_false, false_and, jmin, jmax, catS_n, catS_i, catS_r, catS_l, Nat.reduceLeDiff, j1eq1, n21, jt0, jt1, Bool.false_eq_true, Classical.not_not, true_or, or_true, false_or, or_false, true_imp_iff, false_imp_iff, not_true_eq_false, not_false_eq_true, jif0, jif1, jifb, ltT, ltF, leT, leF, eqT, eqF, jlt, jle, jeq, jlt0, jle0, jeq0, jge0, jgt0, jinB, jnat, clt, cle, ceq, cgt, cge, lI_add, lI_sub, lI_mul, jadd, jsub, jmul, jneg, jtol, b010, b011, pv_2t, Int.toNat_natCast, Option.some.injEq, exists_eq_left', if_true, if_false]
    refine PW.iv rfl rfl rfl M.1 M.2 (le_b rfl) (le_b rfl) ?_
    refine t_bad x fun g f => ⟨rfl, ⟨f.1.1.1.2.2.1, rfl⟩, ?_⟩
    refine vs_ok 1 ?_
    rw [show ((gRes 202).drop 7).take 1 = [.ireturn] from rfl]
    simp (disch := omega) only [vs_ireturn, vs_nil, gv_0, gv_1, gv_2, gv_3, pv_0, pv_1, va_rf_s, Nat.reduceDiv, Nat.reduceMod, Nat.reduceAdd, Nat.reduceMul, Int.reduceToNat, true_and, and_true, and_self, cP_eq, cP_ne, cP_lt, cP_ge, cP_gt, cP_le, eL_i, eL_l, eL_r, eL_n, Option.toList_none, Option.toList_some, List.nil_append, List.cons_append, kkI, llI, nnI, rrI, jjI, kkJ, llJ, nnJ, rrJ, iiJ, zIIs, zJJs, nEF, nET, and_false, false_and, jmin, jmax, catS_n, catS_i, catS_r, catS_l, Nat.reduceLeDiff, j1eq1, n21, jt0, jt1, Bool.false_eq_true, Classical.not_not, true_or, or_true, false_or, or_false, true_imp_iff, false_imp_iff, not_true_eq_false, not_false_eq_true, jif0, jif1, jifb, ltT, ltF, leT, leF, eqT, eqF, jlt, jle, jeq, jlt0, jle0, jeq0, jge0, jgt0, jinB, jnat, clt, cle, ceq, cgt, cge, lI_add, lI_sub, lI_mul, jadd, jsub, jmul, jneg, jtol, b010, b011, pv_2t, Int.toNat_natCast, Option.some.injEq, exists_eq_left', if_true, if_false, show gRc 202 = 2 from rfl]
    exact h0 z g f
