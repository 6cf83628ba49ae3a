/-! the two sides together: what holds between the calls -/
/-- g is h but for the cells S; refs move among the thrown rows and the tables alone -/
def fx (x : Nat) (S : Nat → Prop) (h g : Hp) : Prop := fr S h g ∧ (∀ a, x + 117 ≤ a → (a < x + 155 ∨ x + 161 ≤ a) → zR g a = zR h a) ∧ ∀ i, i ≠ 2 → zR g x i = zR h x i
theorem fx.of {x : Nat} {S : Nat → Prop} {h g : Hp} (f : fi S h g) : fx x S h g := ⟨f.1, fun a _ _ => by rw [f.2], fun i _ => by rw [f.2]⟩
theorem fx.rf {x : Nat} {S : Nat → Prop} {h : Hp} : fx x S h h := fx.of fi.rf
theorem fx.of_fr {x : Nat} {S : Nat → Prop} {h g : Hp} (f : fr S h g) (hs : ∀ q, S q → x + 155 ≤ q ∧ q < x + 161) : fx x S h g := ⟨f, fun a _ b => f.2.2.2.2.2.2.2 a (fun z => by have := hs a z; omega), fun i _ => by rw [f.2.2.2.2.2.2.2 x (fun z => by have := hs x z; omega)]⟩
theorem fx.tr {x : Nat} {S : Nat → Prop} {a b c : Hp} (f : fx x S a b) (g : fx x S b c) : fx x S a c := ⟨f.1.tr g.1, fun q h1 h2 => (g.2.1 q h1 h2).trans (f.2.1 q h1 h2), fun i hi => (g.2.2 i hi).trans (f.2.2 i hi)⟩
theorem fx.wk {x : Nat} {S T : Nat → Prop} {a b : Hp} (f : fx x S a b) (hs : ∀ q, S q → T q) : fx x T a b := ⟨f.1.wk hs, f.2⟩
section FXS
variable {x m o : Nat} {S : Nat → Prop} {h g : Hp}
theorem objA.fx {y k : Nat} {l : List (Nat × Nat)} (ho : objA h y k l) (f : fx x S h g) (h1 : x + 117 ≤ y) (h2 : y < x + 155 ∨ x + 161 ≤ y) : objA g y k l := by
  obtain ⟨a, b, e⟩ := ho
  refine ⟨by rw [f.1.1]; exact a, by rw [f.1.2.2.1]; exact b, fun i p hp => ?_⟩
  rw [f.2.1 y h1 h2, f.1.1, f.1.2.1]
  exact e i p hp
theorem mO.fx (hm : mO h m) (f : fx x S h g) (h1 : x + 161 ≤ m) : mO g m := by
  obtain ⟨a, b, e⟩ := hm
  refine ⟨by rw [f.1.1]; exact a, by rw [f.1.2.2.1]; exact b, fun i p hp => ?_⟩
  rw [f.2.1 m (by omega) (Or.inr h1), f.1.1, f.1.2.1]
  exact e i p hp
theorem fsO.fx (ho : fsO h (x + 126)) (f : fx x S h g) : fsO g (x + 126) := by
  obtain ⟨o1, o2, o3, o4, o5, o6⟩ := ho
  have o7 := o6.fx f (by omega) (by omega)
  rw [fsO, f.1.1, f.1.2.1, f.1.2.2.1, f.2.1 (x + 126) (by omega) (by omega)]
  exact ⟨o1, o2, o3, o4, o5, o7⟩
theorem wsO.fx (ho : wsO h (x + 141)) (f : fx x S h g) : wsO g (x + 141) := ⟨ho.1.fx f (by omega) (by omega), by rw [f.2.1 (x + 141) (by omega) (by omega)]; exact ho.2.1, ho.2.2.fx f (by omega) (by omega)⟩
/-- DiceRing's cells: which are where -/
def dA (h : Hp) (x : Nat) : Prop := (zK h x = 11 ∧ x + 161 ≤ zN h) ∧ (zR h x 0 = some (x + 1) ∧ zR h x 3 = some (x + 30) ∧ zR h x 5 = some (x + 117) ∧ zR h x 7 = some (x + 121) ∧ zR h x 8 = some (x + 126) ∧ zR h x 9 = some (x + 135) ∧ zR h x 10 = some (x + 141) ∧ (zR h x 11 = some (x + 153) ∧ zK h (x + 153) = 15 ∧ x + 153 < zN h ∧ zL h (x + 153) = 12) ∧ (zR h x 12 = some (x + 154) ∧ zK h (x + 154) = 15 ∧ x + 154 < zN h ∧ zL h (x + 154) = 201)) ∧ objA h (x + 117) 3 netL ∧ objA h (x + 121) 2 gaL ∧ fsO h (x + 126) ∧ objA h (x + 135) 9 wcL ∧ wsO h (x + 141)
theorem dA.fx (a : dA h x) (f : fx x S h g) : dA g x := by
  obtain ⟨⟨a1, a2⟩, ⟨r0, r3, r5, r7, r8, r9, r10, ⟨r11, k11⟩, r12, k12⟩, o1, o2, o3, o4, o5⟩ := a
  have r := f.2.2
  refine ⟨⟨by rw [f.1.1]; exact a1, by rw [f.1.2.2.1]; exact a2⟩, ⟨?_, ?_, ?_, ?_, ?_, ?_, ?_, ⟨?_, ?_⟩, ?_, ?_⟩, o1.fx f (by omega) (by omega), o2.fx f (by omega) (by omega), o3.fx f, o4.fx f (by omega) (by omega), o5.fx f⟩
  · rw [r 0 (by omega)]; exact r0
  · rw [r 3 (by omega)]; exact r3
  · rw [r 5 (by omega)]; exact r5
  · rw [r 7 (by omega)]; exact r7
  · rw [r 8 (by omega)]; exact r8
  · rw [r 9 (by omega)]; exact r9
  · rw [r 10 (by omega)]; exact r10
  · rw [r 11 (by omega)]; exact r11
  · rw [f.1.1, f.1.2.2.1, f.1.2.1]; exact k11
  · rw [r 12 (by omega)]; exact r12
  · rw [f.1.1, f.1.2.2.1, f.1.2.1]; exact k12
def iA (h : Hp) (x m o : Nat) : Prop := dA h x ∧ mO h m ∧ (zI h m 7 = iI 0 ∨ zI h m 7 = iI 1) ∧ zK h o = 15 ∧ zL h o = 1 ∧ o < zN h
theorem iA.keep (c : iA h x m o) (hm : m = x + 161) (f : fx x S h g) (h7 : zI g m 7 = zI h m 7) : iA g x m o := by
  obtain ⟨a, b, d, e⟩ := c
  exact ⟨a.fx f, b.fx f (by omega), by rw [h7]; exact d, by rw [f.1.1, f.1.2.1, f.1.2.2.1]; exact e⟩
theorem iS.keep (c : thS h x) (f : fx x S h g) (hs : ∀ q, S q → ¬ (x + 155 ≤ q ∧ q < x + 161)) : thS g x := by
  obtain ⟨⟨r1, r2, r3⟩, e1, e2, e3⟩ := c
  have n : ∀ k, k < 6 → ¬ S (x + 155 + k) := fun k hk z => hs _ z ⟨by omega, by omega⟩
  exact ⟨⟨by rw [f.2.2 13 (by omega)]; exact r1, by rw [f.2.2 14 (by omega)]; exact r2, by rw [f.2.2 15 (by omega)]; exact r3⟩, e1.keep f.1 (n 0 (by omega)) (n 1 (by omega)), e2.keep f.1 (n 2 (by omega)) (n 3 (by omega)), e3.keep f.1 (n 4 (by omega)) (n 5 (by omega))⟩
def iT (h : Hp) (x m : Nat) : Prop := ∃ (len : Nat) (B : Nat → Int), tpS h x len B ∧ mtS h m len B
theorem tpS.fx {len : Nat} {B : Nat → Int} (c : tpS h x len B) (f : fx x S h g) (hs : ∀ q, S q → q ≠ x + 1) (e1 : zI g x 1 = zI h x 1) : tpS g x len B := by
  rw [tpS, f.1.1, f.1.2.1, f.1.2.2.1, f.2.2 0 (by omega), e1, f.1.2.2.2.2.2.1 (x + 1) (fun z => hs _ z rfl)]
  exact c
theorem mtS.fx {len : Nat} {B : Nat → Int} (c : mtS h m len B) (f : fx x S h g) (hs : ∀ q, S q → q ≠ m + 1) (e1 : zI g m 2 = zI h m 2) : mtS g m len B := by
  rw [mtS, e1, f.1.2.2.2.2.2.1 (m + 1) (fun z => hs _ z rfl)]
  exact c
theorem iT.keep (c : iT h x m) (f : fx x S h g) (hs : ∀ q, S q → q ≠ x + 1 ∧ q ≠ m + 1) (e1 : zI g x 1 = zI h x 1) (e2 : zI g m 2 = zI h m 2) : iT g x m := by
  obtain ⟨len, B, a, b⟩ := c
  exact ⟨len, B, a.fx f (fun q z => (hs q z).1) e1, b.fx f (fun q z => (hs q z).2) e2⟩
/-- the tables and the Teller: the NAMES that hold -/
def dN (h : Hp) (x nm : Nat) (F : Nat → Int) (V : Nat → RowVal) : Prop := ∃ (t to nm0 : Nat) (va : Int) (st : List RowVal) (tm : Bool) (F0 Wd0 : Nat → Int) (V0 : Nat → RowVal) (Wd : Nat → Int), zR h x 2 = some t ∧ (to = x + 2 ∧ t = x + 89 ∨ to = x + 89 ∧ t = x + 2) ∧ tlO h (x + 30) to nm0 va st tm F0 Wd0 V0 ∧ isTb h t nm F Wd ∧ (∀ k, k < 12 → rowP h (t + 4 + 2 * k) 200 (V k)) ∧ ∀ i, i < 12 → i32 (Wd i)
theorem dN.keep {nm : Nat} {F : Nat → Int} {V : Nat → RowVal} (c : dN h x nm F V) (f : fr S h g) (hs : ∀ q, S q → ¬ (x + 2 ≤ q ∧ q < x + 117)) (h2 : zR g x 2 = zR h x 2) : dN g x nm F V := by
  obtain ⟨t, to, nm0, va, st, tm, F0, Wd0, V0, Wd, c1, c2, ⟨⟨o1, o2, o3, o4, o5⟩, ⟨q1, q2, q3⟩, q4, q5, q6, q7⟩, c4, c5, c6⟩ := c
  have n : ∀ q, x + 2 ≤ q → q < x + 117 → ¬ S q := fun q a b z => hs q z ⟨a, b⟩
  have e3 := f.2.2.2.2.2.2.2 (x + 30) (n _ (by omega) (by omega))
  refine ⟨t, to, nm0, va, st, tm, F0, Wd0, V0, Wd, by rw [h2]; exact c1, c2, ⟨⟨by rw [f.1]; exact o1, by rw [f.2.2.1]; exact o2, by rw [e3]; exact o3, by rw [e3]; exact o4, by rw [e3]; exact o5⟩, ⟨by rw [f.1]; exact q1, by rw [f.2.2.2.2.2.1 _ (n _ (by omega) (by omega))]; exact q2, q3⟩, q4.keep f (fun q z => ?_), q5.keep f (fun q z w => hs q z ?_), fun k hk => (q6 k hk).keep f (n _ (by omega) (by omega)) (n _ (by omega) (by omega)), q7⟩, c4.keep f (fun q z w => hs q z ?_), fun k hk => (c5 k hk).keep f (n _ (by omega) (by omega)) (n _ (by omega) (by omega)), c6⟩
  · have := hs q z
    unfold bnA
    omega
  · omega
  · omega
def jN (h : Hp) (x m : Nat) : Prop := ∃ (nm : Nat) (F : Nat → Int) (V : Nat → RowVal) (fl : Nat → Nat → Int), dN h x nm F V ∧ nwS h x nm V ∧ mnS h m nm F V ∧ faS h m 0 nm F V fl ∧ netS h m nm V
theorem nwS.fx {nm : Nat} {V : Nat → RowVal} (c : nwS h x nm V) (f : fx x S h g) (hs : ∀ q, S q → q ≠ x + 118) (e6 : zI g x 6 = zI h x 6) (e4 : zI g (x + 117) 4 = zI h (x + 117) 4) : nwS g x nm V := by
  obtain ⟨a, b, d⟩ := c
  refine ⟨by rw [f.2.2 5 (by omega)]; exact a, b.fx f (by omega) (by omega), ?_⟩
  rw [e6]
  cases d with
  | inl d => exact Or.inl d
  | inr d =>
    obtain ⟨d1, bt, ⟨n1, n2, n3, n4⟩, d3⟩ := d
    refine Or.inr ⟨d1, bt, ⟨n1.fx f (by omega) (by omega), n2, by rw [e4]; exact n3, fun i hi => ⟨(n4 i hi).1, ?_⟩⟩, d3⟩
    rw [f.1.2.2.2.2.2.1 _ (fun z => hs _ z rfl)]
    exact (n4 i hi).2
/-- the Model's NAMES stay -/
theorem mNk {nm : Nat} {F : Nat → Int} {V : Nat → RowVal} {fl : Nat → Nat → Int} (c : mnS h m nm F V ∧ faS h m 0 nm F V fl ∧ netS h m nm V) (f : fx x S h g) (hs : ∀ q, S q → ¬ (m + 2 ≤ q ∧ q ≤ m + 8)) : mnS g m nm F V ∧ faS g m 0 nm F V fl ∧ netS g m nm V := by
  obtain ⟨a, b, d⟩ := c
  have n : ∀ q, m + 2 ≤ q → q ≤ m + 8 → ¬ S q := fun q a b z => hs q z ⟨a, b⟩
  have I : ∀ q, m + 2 ≤ q → q ≤ m + 8 → zI g q = zI h q := fun q a b => f.1.2.2.2.2.2.1 _ (n q a b)
  have J : ∀ q, m + 2 ≤ q → q ≤ m + 8 → zJ g q = zJ h q := fun q a b => f.1.2.2.2.2.2.2.1 _ (n q a b)
  refine ⟨⟨by rw [I _ (by omega) (by omega)]; exact a.1, a.2.1, fun k hk => ⟨by rw [I _ (by omega) (by omega)]; exact (a.2.2 k hk).1, slW.of (a.2.2 k hk).2.1 (J _ (by omega) (by omega)) (J _ (by omega) (by omega)), (a.2.2 k hk).2.2⟩⟩, b.of (fun j _ _ => by rw [I _ (by omega) (by omega)]) (fun j _ _ => by rw [I _ (by omega) (by omega)]), fun a b ha hb => by rw [I _ (by omega) (by omega)]; exact d a b ha hb⟩
theorem jN.keep (c : jN h x m) (hm : m = x + 161) (f : fx x S h g) (hs : ∀ q, S q → ¬ (x + 2 ≤ q ∧ q < x + 117) ∧ q ≠ x + 118 ∧ ¬ (m + 2 ≤ q ∧ q ≤ m + 8)) (h2 : zR g x 2 = zR h x 2) (e6 : zI g x 6 = zI h x 6) (e4 : zI g (x + 117) 4 = zI h (x + 117) 4) : jN g x m := by
  obtain ⟨nm, F, V, fl, a, b, c⟩ := c
  exact ⟨nm, F, V, fl, a.keep f.1 (fun q z => (hs q z).1) h2, b.fx f (fun q z => (hs q z).2.1) e6 e4, mNk c f fun q z => (hs q z).2.2⟩
def iF (h : Hp) (x m : Nat) : Prop := ∃ f : Int, zI h x 4 = iI f ∧ zI h m 21 = iI f
theorem iF.keep (c : iF h x m) (e1 : zI g x 4 = zI h x 4) (e2 : zI g m 21 = zI h m 21) : iF g x m := by
  obtain ⟨f, a, b⟩ := c
  exact ⟨f, by rw [e1]; exact a, by rw [e2]; exact b⟩
def iR (h : Hp) (x m : Nat) : Prop := ∃ (rn : Nat) (rm : Nat → Nat), rn ≤ 12 ∧ zI h (x + 117) 3 = iI rn ∧ zI h m 28 = iI rn ∧ ∀ i, i < rn → zI h (x + 117 + 3) i = iI (rm i) ∧ zI h (m + 16) i = iI (rm i)
theorem iR.keep (c : iR h x m) (f : fx x S h g) (hs : ∀ q, S q → q ≠ x + 120 ∧ q ≠ m + 16) (e1 : zI g (x + 117) 3 = zI h (x + 117) 3) (e2 : zI g m 28 = zI h m 28) : iR g x m := by
  obtain ⟨rn, rm, a, b, c, d⟩ := c
  refine ⟨rn, rm, a, by rw [e1]; exact b, by rw [e2]; exact c, fun i hi => ?_⟩
  rw [f.1.2.2.2.2.2.1 (x + 117 + 3) (fun z => (hs _ z).1 rfl), f.1.2.2.2.2.2.1 (m + 16) (fun z => (hs _ z).2 rfl)]
  exact d i hi
def iP (h : Hp) (x m : Nat) : Prop := ∃ sh : Nat → Int, ∀ i, i < 12 → i32 (sh i) ∧ zI h (x + 121 + 4) i = iI (sh i) ∧ zJ h (m + 19) i = lI (sh i)
theorem iP.keep (c : iP h x m) (f : fx x S h g) (hs : ∀ q, S q → q ≠ x + 125 ∧ q ≠ m + 19) : iP g x m := by
  obtain ⟨sh, a⟩ := c
  refine ⟨sh, fun i hi => ?_⟩
  rw [f.1.2.2.2.2.2.1 (x + 121 + 4) (fun z => (hs _ z).1 rfl), f.1.2.2.2.2.2.2.1 (m + 19) (fun z => (hs _ z).2 rfl)]
  exact a i hi
def iO (h : Hp) (x m : Nat) : Prop := ∃ (p q : Nat) (K : KpT) (X Y : Nat → Nat → Nat), pkS h (x + 126) p q K ∧ (∃ tr : Nat → Nat, ∀ i, i < 61 → tr i ≤ 65 ∧ zI h (x + 126 + 8) i = iI (tr i)) ∧ otS h m K.1 p q X Y ∧ ∀ k, k < K.1 → 65 * K.2.2.1 k + p + q ≤ 6500 ∧ (∀ j, j < p → K.2.2.2.1 (65 * K.2.2.1 k + j) = (vaF (X k) 61 j 0 : Int)) ∧ ∀ j, j < q → K.2.2.2.1 (65 * K.2.2.1 k + p + j) = (vaF (Y k) 61 j 0 : Int)
theorem iO.keep (c : iO h x m) (f : fx x S h g) (hs : ∀ q, S q → ¬ (x + 126 ≤ q ∧ q < x + 135) ∧ q ≠ m + 25 ∧ q ≠ m + 26) (e1 : zI g m 39 = zI h m 39) (e2 : zI g m 41 = zI h m 41) (e3 : zI g m 42 = zI h m 42) : iO g x m := by
  obtain ⟨p, q, K, X, Y, a, ⟨tr, b⟩, c, d⟩ := c
  have I : ∀ q, x + 126 ≤ q → q < x + 135 → zI g q = zI h q := fun q a b => f.1.2.2.2.2.2.1 _ fun z => (hs q z).1 ⟨a, b⟩
  refine ⟨p, q, K, X, Y, ?_, ⟨tr, fun i hi => ?_⟩, ?_, d⟩
  · rw [pkS, I _ (by omega) (by omega), I _ (by omega) (by omega), I _ (by omega) (by omega), I _ (by omega) (by omega), I _ (by omega) (by omega)]
    exact a
  · rw [I _ (by omega) (by omega)]
    exact b i hi
  · rw [otS, e1, e2, e3, f.1.2.2.2.2.2.1 (m + 25) (fun z => (hs _ z).2.1 rfl), f.1.2.2.2.2.2.1 (m + 26) (fun z => (hs _ z).2.2 rfl)]
    exact c
def iG (h : Hp) (x m : Nat) : Prop := ∃ (n L : Nat) (w : Nat → Nat) (s : wcS) (pl : Nat → Nat), (n = 0 ∨ 2 ≤ n ∧ n ≤ 4) ∧ wcC h (x + 135) n s ∧ (∀ i, i < 16 → zI h (x + 135 + 5) i = iI (pl i)) ∧ fwS h m n L w ∧ (n ≠ 0 → s = wcR n (lstW w L) ∧ ∀ i, i < 16 → pl i = plF n s i)
theorem iG.keep (c : iG h x m) (f : fx x S h g) (hs : ∀ q, S q → ¬ (x + 135 ≤ q ∧ q < x + 141) ∧ q ≠ m + 28) (e1 : zI g m 54 = zI h m 54) (e2 : zI g m 55 = zI h m 55) : iG g x m := by
  obtain ⟨n, L, w, s, pl, a, ⟨b1, b2, b3, b4, b5, b6⟩, c, d, e⟩ := c
  have I : ∀ q, x + 135 ≤ q → q < x + 141 → zI g q = zI h q := fun q a b => f.1.2.2.2.2.2.1 _ fun z => (hs q z).1 ⟨a, b⟩
  refine ⟨n, L, w, s, pl, a, ⟨b1.fx f (by omega) (by omega), ?_, fun i hi => ?_, fun i hi => ?_, fun i hi => ?_, fun i hi => ?_⟩, fun i hi => ?_, ?_, e⟩
  · rw [I _ (by omega) (by omega)]; exact b2
  · rw [I _ (by omega) (by omega)]; exact b3 i hi
  · rw [I _ (by omega) (by omega)]; exact b4 i hi
  · rw [I _ (by omega) (by omega)]; exact b5 i hi
  · rw [I _ (by omega) (by omega)]; exact b6 i hi
  · rw [I _ (by omega) (by omega)]; exact c i hi
  · rw [fwS, e1, e2, f.1.2.2.2.2.2.1 (m + 28) (fun z => (hs _ z).2 rfl)]
    exact d
def iK (h : Hp) (x m : Nat) : Prop := ∃ (L : Nat) (w : Nat → Nat), L ≤ 12 ∧ wdP h (x + 141) (lstW w L) ∧ zI h m 56 = iI L ∧ ∀ i, i < L → zI h (m + 29) i = iI (w i : Nat)
theorem iK.keep (c : iK h x m) (f : fx x S h g) (hs : ∀ q, S q → q ≠ x + 142 ∧ q ≠ m + 29) (e1 : zI g (x + 141) 6 = zI h (x + 141) 6) (e2 : zI g m 56 = zI h m 56) : iK g x m := by
  obtain ⟨L, w, a, b, c, d⟩ := c
  refine ⟨L, w, a, ?_, by rw [e2]; exact c, fun i hi => ?_⟩
  · rw [wdP, e1, f.1.2.2.2.2.2.1 (x + 141 + 1) (fun z => (hs _ z).1 rfl)]
    exact b
  · rw [f.1.2.2.2.2.2.1 (m + 29) (fun z => (hs _ z).2 rfl)]
    exact d i hi
def iL (h : Hp) (x m : Nat) : Prop := ∃ p : Nat → Int, ∀ i, i < 12 → zJ h (x + 153) i = lI (p i) ∧ zJ h (m + 34) i = lI (p i)
theorem iL.keep (c : iL h x m) (f : fx x S h g) (hs : ∀ q, S q → q ≠ x + 153 ∧ q ≠ m + 34) : iL g x m := by
  obtain ⟨p, a⟩ := c
  refine ⟨p, fun i hi => ?_⟩
  rw [f.1.2.2.2.2.2.2.1 (x + 153) (fun z => (hs _ z).1 rfl), f.1.2.2.2.2.2.2.1 (m + 34) (fun z => (hs _ z).2 rfl)]
  exact a i hi
end FXS
