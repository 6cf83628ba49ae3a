/-! the beginning: the two objects as they are made, side by side -/
theorem tl0.gk {S : Nat → Prop} {c s : Nat} {h g : Hp} {t : Nat} (ht : tl0 h t) (f : gw S c s h g) (hn : t + 87 ≤ zN h) (h0 : ∀ q, S q → t + 87 ≤ q) : tl0 g t := by
  obtain ⟨⟨a1, a2, a3, a4, a5⟩, ⟨b1, b2⟩, c1, d1⟩ := ht
  have n0 : ¬ S t := fun z => by have := h0 _ z; omega
  have n1 : ¬ S (t + 1) := fun z => by have := h0 _ z; omega
  have r0 := f.2.2.2.2.2.2.2 t (by omega) n0
  refine ⟨⟨by rw [f.2.2.2.1 t (by omega)]; exact a1, by rw [f.1]; omega, by rw [r0]; exact a3, by rw [r0]; exact a4, by rw [r0]; exact a5⟩, ⟨by rw [f.2.2.2.1 _ (by omega)]; exact b1, by rw [f.2.2.2.2.2.1 _ (by omega) n1]; exact b2⟩, c1.gk f (fun q z w => ?_), d1.gk f (fun q z w => ?_)⟩
  · have := h0 q z
    have : q < t + 3 + 56 := w.2
    omega
  · have := h0 q z
    omega
theorem D0.gk {S : Nat → Prop} {c s : Nat} {h g : Hp} {x : Nat} (d : D0 h x) (f : gw S c s h g) (hn : x + 161 ≤ zN h) (hs : ∀ q, S q → x + 161 ≤ q) : D0 g x := by
  obtain ⟨⟨⟨⟨p1, p2⟩, p3, p4, p5, p6⟩, p7, p8, p9, p10⟩, i0, ⟨t1, t2⟩, ⟨u1, u2⟩, ⟨n1, n2, n3, n4⟩, ⟨g1, g2, g3⟩, ⟨f1, f2, f3, f4⟩, ⟨w1, w2, w3, w4⟩, ⟨s1, ⟨s2, s3, s4⟩, s5⟩, ⟨a1, a2, a3⟩, ⟨b1, b2⟩, ⟨e1, e2, e3⟩, ⟨v1, x1⟩, ⟨v2, x2⟩, ⟨v3, x3⟩⟩ := d
  have n : ∀ q, q < x + 161 → ¬ S q := fun q hq z => by have := hs _ z; omega
  have K : ∀ q, q < x + 161 → zK g q = zK h q := fun q hq => f.2.2.2.1 q (by omega)
  have L : ∀ q, q < x + 161 → zL g q = zL h q := fun q hq => f.2.2.2.2.1 q (by omega)
  have I : ∀ q, q < x + 161 → zI g q = zI h q := fun q hq => f.2.2.2.2.2.1 q (by omega) (n q hq)
  have J : ∀ q, q < x + 161 → zJ g q = zJ h q := fun q hq => f.2.2.2.2.2.2.1 q (by omega) (n q hq)
  have R : ∀ q, q < x + 161 → zR g q = zR h q := fun q hq => f.2.2.2.2.2.2.2 q (by omega) (n q hq)
  have R0 := R x (by omega)
  have nN : x + 161 ≤ zN g := by rw [f.1]; omega
  refine ⟨⟨⟨⟨by rw [K x (by omega)]; exact p1, by omega⟩, by rw [R0]; exact p3, by rw [K _ (by omega)]; exact p4, by omega, by rw [L _ (by omega)]; exact p6⟩, by rw [I x (by omega)]; exact p7, p8, fun i hi => by rw [I _ (by omega)]; exact p9 i hi, p10⟩, fun i => by rw [I x (by omega)]; exact i0 i, ⟨by rw [R0]; exact t1, t2.gk f fun q z w => by have := hs q z; omega⟩, ⟨by rw [R0]; exact u1, u2.gk f (by omega) fun q z => by have := hs q z; omega⟩, ⟨by rw [R0]; exact n1, n2.gk f (n _ (by omega)), fun i => by rw [I _ (by omega)]; exact n3 i, fun i => by rw [I _ (by omega)]; exact n4 i⟩, ⟨by rw [R0]; exact g1, g2.gk f (n _ (by omega)), fun i => by rw [I _ (by omega)]; exact g3 i⟩, ⟨by rw [R0]; exact f1, f2.gk f (by omega) ⟨n _ (by omega), n _ (by omega)⟩, fun i => by rw [I _ (by omega)]; exact f3 i, fun q q1 q2 i => by rw [I _ (by omega)]; exact f4 q q1 q2 i⟩, ⟨by rw [R0]; exact w1, w2.gk f (n _ (by omega)), fun i => by rw [I _ (by omega)]; exact w3 i, fun q q1 q2 i => by rw [I _ (by omega)]; exact w4 q q1 q2 i⟩, ⟨by rw [R0]; exact s1, ⟨s2.gk f (n _ (by omega)), by rw [R _ (by omega)]; exact s3, s4.gk f (n _ (by omega))⟩, fun i => by rw [I _ (by omega)]; exact s5 i⟩, ⟨by rw [R0]; exact a1, ⟨by rw [K _ (by omega)]; exact a2.1, by omega, by rw [L _ (by omega)]; exact a2.2.2⟩, fun i => by rw [J _ (by omega)]; exact a3 i⟩, ⟨by rw [R0]; exact b1, by rw [K _ (by omega)]; exact b2.1, by omega, by rw [L _ (by omega)]; exact b2.2.2⟩, ⟨by rw [R0]; exact e1, by rw [R0]; exact e2, by rw [R0]; exact e3⟩, ⟨v1, rowV.gk x1 f (n _ (by omega)) (n _ (by omega))⟩, ⟨v2, rowV.gk x2 f (n _ (by omega)) (n _ (by omega))⟩, ⟨v3, rowV.gk x3 f (n _ (by omega)) (n _ (by omega))⟩⟩
theorem INV0 {h : Hp} {x m o : Nat} (d : D0 h x) (hN : x + 161 ≤ zN h) (hm : mO h m) (hz : ∀ q, m ≤ q → q < m + 36 → zI h q = (fun _ => 0) ∧ zJ h q = fun _ => 0) (ho : zK h o = 15 ∧ zL h o = 1 ∧ o < zN h) : INV h x m o := by
  obtain ⟨tp, i0, ⟨t1, t2⟩, ⟨u1, u2⟩, ⟨n1, n2, n3, n4⟩, ⟨g1, g2, g3⟩, ⟨f1, f2, f3, f4⟩, ⟨w1, w2, w3, w4⟩, ⟨s1, s2, s3⟩, ⟨a1, a2, a3⟩, ⟨b1, b2⟩, th⟩ := d
  have zm : ∀ q, m ≤ q → q < m + 36 → ∀ j, zI h q j = iI 0 := fun q q1 q2 j => by
    rw [(hz q q1 q2).1]
    rfl
  have jm : ∀ q, m ≤ q → q < m + 36 → ∀ j, zJ h q j = lI 0 := fun q q1 q2 j => by
    rw [(hz q q1 q2).2]
    rfl
  have z0 := zm m (Nat.le_refl _) (by omega)
  have q0 : i32 0 := by constructor <;> omega
  have q1 : (0 : Int) ≤ 0 ∧ (0 : Int) ≤ 255 := by constructor <;> omega
  have q2 : 0 < 4096 := by omega
  have e59 : x + 30 + 59 = x + 89 := by omega
  rw [tl0, e59] at u2
  obtain ⟨u3, ⟨u4, u5⟩, u6, u7, u8⟩ := u2
  obtain ⟨t3, t4⟩ := t2
  have dn : dN h x 0 (fun _ => 0) (fun _ => (0, 0, 0, fun _ => 0)) := ⟨x + 2, x + 89, 0, 0, [], false, fun _ => 0, fun _ => 0, fun _ => (0, 0, 0, fun _ => 0), fun _ => 0, t1, Or.inr ⟨rfl, rfl⟩, ⟨u3, ⟨u4, u5, by omega, by omega⟩, u6, u7, u8, fun _ _ => q0⟩, t3, t4, fun _ _ => q0⟩
  have nw : nwS h x 0 (fun _ => (0, 0, 0, fun _ => 0)) := ⟨n1, n2, Or.inr ⟨i0 6, fun _ => 0, ⟨n2, Nat.zero_le _, n3 4, fun i hi => ⟨q2, n4 i⟩⟩, fun i hi => q2, fun i hi j => by simp⟩⟩
  have jn : jN h x m := ⟨0, fun _ => 0, fun _ => (0, 0, 0, fun _ => 0), fun _ _ => 0, dn, nw, ⟨zm _ (by omega) (by omega) 0, Nat.zero_le _, fun k hk => absurd hk (Nat.not_lt_zero _)⟩, fun k hk => absurd hk (Nat.not_lt_zero _), fun a b ha => absurd ha (Nat.not_lt_zero _)⟩
  have ot : iO h x m := ⟨0, 0, (0, fun _ => 0, fun _ => 0, fun _ => 0, 0), fun _ _ => 0, fun _ _ => 0, ⟨⟨f4 _ (by omega) (by omega) 3, Nat.zero_le _, f4 _ (by omega) (by omega) 4, f4 _ (by omega) (by omega) 5⟩, fun i hi => ⟨Nat.zero_le _, f4 _ (by omega) (by omega) i⟩, fun i hi => ⟨Nat.zero_lt_succ _, f4 _ (by omega) (by omega) i⟩, fun j hj => f4 _ (by omega) (by omega) j, f3 12⟩, ⟨fun _ => 0, fun i hi => ⟨Nat.zero_le _, f4 _ (by omega) (by omega) i⟩⟩, ⟨z0 39, z0 41, z0 42, Nat.zero_le _, Nat.zero_le _, Nat.zero_le _, fun k hk => absurd hk (Nat.not_lt_zero _)⟩, fun k hk => absurd hk (Nat.not_lt_zero _)⟩
  have ig : iG h x m := ⟨0, 0, fun _ => 0, (fun _ => 0, fun _ => 0, fun _ => 0, fun _ => 0), fun _ => 0, Or.inl rfl, ⟨w2, w3 5, fun i hi => w4 _ (by omega) (by omega) i, fun i hi => w4 _ (by omega) (by omega) i, fun i hi => w4 _ (by omega) (by omega) i, fun i hi => w4 _ (by omega) (by omega) i⟩, fun i hi => w4 _ (by omega) (by omega) i, ⟨z0 54, z0 55, Or.inl ⟨rfl, rfl⟩, fun i hi => absurd hi (Nat.not_lt_zero _)⟩, fun q => absurd rfl q⟩
  have ik : iK h x m := ⟨0, fun _ => 0, Nat.zero_le _, ⟨s3 6, fun i c hc => by simp [lstW] at hc⟩, z0 56, fun i hi => absurd hi (Nat.not_lt_zero _)⟩
  exact ⟨⟨⟨⟨tp.1.1.1, hN⟩, ⟨tp.1.2.1, u1, n1, g1, f1, w1, s1, ⟨a1, a2⟩, b1, b2⟩, n2, g2, f2, w2, s2⟩, hm, Or.inl (z0 7), ho⟩, th, ⟨0, fun _ => 0, tp, z0 2, Nat.zero_le _, fun i hi => zm _ (by omega) (by omega) i, fun i => q1⟩, jn, ⟨0, i0 4, z0 21⟩, ⟨0, fun _ => 0, Nat.zero_le _, n3 3, z0 28, fun i hi => absurd hi (Nat.not_lt_zero _)⟩, ⟨fun _ => 0, fun i hi => ⟨q0, g3 i, jm _ (by omega) (by omega) i⟩⟩, ot, ig, ik, ⟨fun _ => 0, fun i hi => ⟨a3 i, jm _ (by omega) (by omega) i⟩⟩⟩
