/-! DiceRing's constructor -/
theorem fsO.gk {S : Nat → Prop} {c s : Nat} {h g : Hp} {x : Nat} (ho : fsO h x) (f : gw S c s h g) (hn : x + 9 ≤ zN h) (hs : ¬ S x ∧ ¬ S (x + 1)) : fsO g x := by
  obtain ⟨⟨a1, a2, a3⟩, a4, a5, a6, a7, a8⟩ := ho
  have k0 := f.2.2.2.1
  have l0 := f.2.2.2.2.1
  have rx := f.2.2.2.2.2.2.2 x (by omega) hs.1
  refine ⟨⟨by rw [k0 x (by omega)]; exact a1, by rw [f.1]; omega, by rw [rx]; exact a3⟩, ⟨by rw [rx]; exact a4.1, by rw [k0 _ (by omega)]; exact a4.2.1, by rw [f.1]; omega, by rw [l0 _ (by omega)]; exact a4.2.2.2⟩, ⟨by rw [rx]; exact a5.1, by rw [k0 _ (by omega)]; exact a5.2.1, by rw [f.1]; omega, by rw [l0 _ (by omega)]; exact a5.2.2.2⟩, ⟨by rw [rx]; exact a6.1, by rw [k0 _ (by omega)]; exact a6.2.1, by rw [f.1]; omega, by rw [l0 _ (by omega)]; exact a6.2.2.2⟩, ⟨by rw [rx]; exact a7.1, by rw [k0 _ (by omega)]; exact a7.2.1, by rw [f.1]; omega, by rw [l0 _ (by omega)]; exact a7.2.2.2⟩, a8.gk f hs.2⟩
/-- DiceRing at x as it is made -/
def D0 (h : Hp) (x : Nat) : Prop := tpS h x 0 (fun _ => 0) ∧ (∀ i, zI h x i = 0) ∧ (zR h x 2 = some (x + 2) ∧ tb0 h (x + 2)) ∧ (zR h x 3 = some (x + 30) ∧ tl0 h (x + 30)) ∧ (zR h x 5 = some (x + 117) ∧ objA h (x + 117) 3 netL ∧ (∀ i, zI h (x + 117) i = 0) ∧ ∀ i, zI h (x + 118) i = 0) ∧ (zR h x 7 = some (x + 121) ∧ objA h (x + 121) 2 gaL ∧ ∀ i, zI h (x + 121 + 4) i = 0) ∧ (zR h x 8 = some (x + 126) ∧ fsO h (x + 126) ∧ (∀ i, zI h (x + 126) i = 0) ∧ ∀ q, x + 126 < q → q < x + 135 → ∀ i, zI h q i = 0) ∧ (zR h x 9 = some (x + 135) ∧ objA h (x + 135) 9 wcL ∧ (∀ i, zI h (x + 135) i = 0) ∧ ∀ q, x + 135 < q → q < x + 141 → ∀ i, zI h q i = 0) ∧ (zR h x 10 = some (x + 141) ∧ wsO h (x + 141) ∧ ∀ i, zI h (x + 141) i = 0) ∧ (zR h x 11 = some (x + 153) ∧ (zK h (x + 153) = 15 ∧ x + 153 < zN h ∧ zL h (x + 153) = 12) ∧ ∀ i, zJ h (x + 153) i = 0) ∧ (zR h x 12 = some (x + 154) ∧ zK h (x + 154) = 15 ∧ x + 154 < zN h ∧ zL h (x + 154) = 201) ∧ thS h x
theorem t_DiA {d : Nat} {h : Hp} {x : Nat} {Q : Nat → Option Value → Hp → Prop} (h1 : zK h x = 11) (h2 : zN h = x + 1) (h3 : x + 161 ≤ zSC)
    (hq : ∀ g s, s ≤ 100000 → gw (fun q => q = x) 116 s h g → zI g x = zI h x → (zR g x 0 = some (x + 1) ∧ zR g x 2 = some (x + 2) ∧ zR g x 3 = some (x + 30)) → (∀ j, j ≠ 0 → j ≠ 2 → j ≠ 3 → zR g x j = zR h x j) → (zK g (x + 1) = 14 ∧ zL g (x + 1) = 540 ∧ zI g (x + 1) = fun _ => 0) → tb0 g (x + 2) → tl0 g (x + 30) → PW (d + 5) 137 16 [some (.ref x)] [] g Q) : PW (d + 5) 137 2 [some (.ref x)] [] h Q := by
  refine PW.arr (y := 11) (j := 0) rfl rfl rfl rfl h1 (by omega) (by omega) (by decide) (by decide) rfl fun g0 w0 a0 b0 c0 d0 i0 _ r0 => ?_
  rw [h2] at a0 b0 c0 d0 r0
  have n0 : zN g0 = x + 2 := by rw [w0.1, h2]
  have k0 : zK g0 x = 11 := by rw [w0.2.2.2.1 x (by omega)]; exact h1
  show PW (d + 5) 137 6 [some (.ref x)] [] g0 Q
  refine PW.nobj (j := 2) (cc := 27) (ss := 4908) (P := fun g => tb0 g (x + 2) ∧ zN g = x + 30) rfl rfl rfl rfl rfl rfl (by decide) rfl (by decide) k0 (by omega) (by omega) (fun g Q' a b c e f => by
    rw [n0] at a b c e f ⊢
    exact t_Table_init (d := d + 3) a b (by omega) c fun g2 w2 v1 v2 => f g2 w2 ⟨⟨v1, v2⟩, by rw [w2.1, b]⟩) fun e1 g1 w1 f1 p1 i1 j1 r1 => ?_
  rw [n0] at r1
  have n1 : zN g1 = x + 30 := by rw [f1.2.2.1]; exact p1.2
  have k1 : zK g1 x = 11 := by rw [w1.2.2.2.1 x (by omega)]; exact k0
  show PW (d + 5) 137 11 [some (.ref x)] [] g1 Q
  refine PW.nobj (j := 3) (cc := 86) (ss := (gN 5 + 0 + (gN 0 + 10986) + (gN 7 + 4908))) (P := fun g => tl0 g (x + 30) ∧ zN g = x + 117) rfl rfl rfl rfl rfl rfl (by decide) rfl (by decide) k1 (by omega) (by omega) (fun g Q' a b c e f => by
    rw [n1] at a b c e f ⊢
    exact t_Teller_init (d := d) a b (by omega) fun g2 w2 v => f g2 w2 ⟨v, by rw [w2.1, b]⟩) fun e2 g2 w2 f2 p2 i2 j2 r2 => ?_
  rw [n1] at r2
  have n2 : zN g2 = x + 117 := by rw [f2.2.2.1]; exact p2.2
  have k2 : zK g2 x = 11 := by rw [w2.2.2.2.1 x (by omega)]; exact k1
  show PW (d + 5) 137 16 [some (.ref x)] [] g2 Q
  have W1 := w2
  have W0 := w1.tr (W1.wk fun q _ z => Or.inl z)
  have W := w0.tr (W0.wk fun q _ z => Or.inl z)
  have X1 := (gw.of_fr f1).tr (W1.wk fun q _ z => Or.inl z)
  have X2 : gw (fun q => q = x) 0 0 e2 g2 := gw.of_fr f2
  refine hq g2 _ (by exact Nat.le_of_ble_eq_true rfl) W (by rw [i2, i1, i0]) ⟨by rw [r2, if_neg (by omega), r1, if_neg (by omega), r0, if_pos rfl], by rw [r2, if_neg (by omega), r1, if_pos rfl], by rw [r2, if_pos rfl]⟩ (fun j z0 z1 z2 => by rw [r2, if_neg z2, r1, if_neg z1, r0, if_neg z0]) ?_ ?_ ?_
  · exact ⟨by rw [W0.2.2.2.1 _ (by omega)]; exact a0, by rw [W0.2.2.2.2.1 _ (by omega)]; exact b0, by rw [W0.2.2.2.2.2.1 _ (by omega) (by omega)]; exact c0⟩
  · exact p1.1.gk X1 (fun q z => by omega)
  · obtain ⟨⟨o1, o2, o3, o4, o5⟩, ⟨q1, q2⟩, bn, tb⟩ := p2.1
    have en := p2.2
    have rx := X2.2.2.2.2.2.2.2 (x + 30) (by omega) (by omega)
    exact ⟨⟨by rw [X2.2.2.2.1 _ (by omega)]; exact o1, by omega, by rw [rx]; exact o3, by rw [rx]; exact o4, by rw [rx]; exact o5⟩, ⟨by rw [X2.2.2.2.1 _ (by omega)]; exact q1, by rw [X2.2.2.2.2.2.1 _ (by omega) (by omega)]; exact q2⟩, bn.gk X2 (fun q z => by unfold bnA; omega), tb.gk X2 (fun q z => by omega)⟩
theorem t_DiB {d : Nat} {h : Hp} {x : Nat} {Q : Nat → Option Value → Hp → Prop} (h1 : zK h x = 11) (h2 : zN h = x + 117) (h3 : x + 161 ≤ zSC)
    (hq : ∀ g s, s ≤ 100000 → gw (fun q => q = x) 18 s h g → zI g x = zI h x → (zR g x 5 = some (x + 117) ∧ zR g x 7 = some (x + 121) ∧ zR g x 8 = some (x + 126)) → (∀ j, j ≠ 5 → j ≠ 7 → j ≠ 8 → zR g x j = zR h x j) → (objA g (x + 117) 3 netL ∧ zI g (x + 117) = (fun _ => 0) ∧ zI g (x + 118) = fun _ => 0) → (objA g (x + 121) 2 gaL ∧ zI g (x + 121 + 4) = fun _ => 0) → (fsO g (x + 126) ∧ zI g (x + 126) = (fun _ => 0) ∧ ∀ q, x + 126 < q → q < x + 135 → zI g q = fun _ => 0) → PW (d + 5) 137 31 [some (.ref x)] [] g Q) : PW (d + 5) 137 16 [some (.ref x)] [] h Q := by
  refine PW.nobj (j := 5) (cc := 3) (ss := 36) (P := fun g => (objA g (x + 117) 3 netL ∧ zI g (x + 117) = (fun _ => 0) ∧ zI g (x + 118) = fun _ => 0) ∧ zN g = x + 121) rfl rfl rfl rfl rfl rfl (by decide) rfl (by decide) h1 (by omega) (by omega) (fun g Q' a b c e f => by
    rw [h2] at a b c e f ⊢
    exact t_Net_init0 a b (by omega) fun g2 w2 v1 v2 v3 v4 => f g2 w2 ⟨⟨v1, by rw [v2, c], (v3 (x + 118) (by omega) (by omega)).1⟩, v4⟩) fun e3 g3 w3 f3 p3 i3 j3 r3 => ?_
  rw [h2] at r3
  have n3 : zN g3 = x + 121 := by rw [f3.2.2.1]; exact p3.2
  have k3 : zK g3 x = 11 := by rw [w3.2.2.2.1 x (by omega)]; exact h1
  show PW (d + 5) 137 21 [some (.ref x)] [] g3 Q
  refine PW.nobj (j := 7) (cc := 4) (ss := 75) (P := fun g => (objA g (x + 121) 2 gaL ∧ zI g (x + 121 + 4) = fun _ => 0) ∧ zN g = x + 126) rfl rfl rfl rfl rfl rfl (by decide) rfl (by decide) k3 (by omega) (by omega) (fun g Q' a b c e f => by
    rw [n3] at a b c e f ⊢
    exact t_Game_init0 a b (by omega) fun g2 w2 v1 v2 => f g2 w2 ⟨⟨v1, v2⟩, by rw [w2.1, b]⟩) fun e4 g4 w4 f4 p4 i4 j4 r4 => ?_
  rw [n3] at r4
  have n4 : zN g4 = x + 126 := by rw [f4.2.2.1]; exact p4.2
  have k4 : zK g4 x = 11 := by rw [w4.2.2.2.1 x (by omega)]; exact k3
  show PW (d + 5) 137 26 [some (.ref x)] [] g4 Q
  refine PW.nobj (j := 8) (cc := 8) (ss := (gN 4 + 6700 + 122 + 61 + 61 + 61)) (P := fun g => (fsO g (x + 126) ∧ zI g (x + 126) = (fun _ => 0) ∧ zer g (x + 126)) ∧ zN g = x + 135) rfl rfl rfl rfl rfl rfl (by decide) rfl (by decide) k4 (by omega) (by omega) (fun g Q' a b c e f => by
    rw [n4] at a b c e f ⊢
    exact t_FaceSearch_init (d := d + 3) a b (by omega) c e fun g2 w2 v1 v2 v3 => f g2 w2 ⟨⟨v1, v2, v3⟩, by rw [w2.1, b]⟩) fun e5 g5 w5 f5 p5 i5 j5 r5 => ?_
  rw [n4] at r5
  have n5 : zN g5 = x + 135 := by rw [f5.2.2.1]; exact p5.2
  have k5 : zK g5 x = 11 := by rw [w5.2.2.2.1 x (by omega)]; exact k4
  show PW (d + 5) 137 31 [some (.ref x)] [] g5 Q
  have W4 := w5
  have W3 := w4.tr (W4.wk fun q _ z => Or.inl z)
  have W := w3.tr (W3.wk fun q _ z => Or.inl z)
  have X3 := (gw.of_fr f3).tr (W3.wk fun q _ z => Or.inl z)
  have X4 := (gw.of_fr f4).tr (W4.wk fun q _ z => Or.inl z)
  have X5 : gw (fun q => q = x) 0 0 e5 g5 := gw.of_fr f5
  refine hq g5 _ (by exact Nat.le_of_ble_eq_true rfl) W (by rw [i5, i4, i3]) ⟨by rw [r5, if_neg (by omega), r4, if_neg (by omega), r3, if_pos rfl], by rw [r5, if_neg (by omega), r4, if_pos rfl], by rw [r5, if_pos rfl]⟩ (fun j z3 z4 z5 => by rw [r5, if_neg z5, r4, if_neg z4, r3, if_neg z3]) ?_ ?_ ?_
  · have en := p3.2
    exact ⟨p3.1.1.gk X3 (by omega), by rw [X3.2.2.2.2.2.1 _ (by omega) (by omega)]; exact p3.1.2.1, by rw [X3.2.2.2.2.2.1 _ (by omega) (by omega)]; exact p3.1.2.2⟩
  · have en := p4.2
    exact ⟨p4.1.1.gk X4 (by omega), by rw [X4.2.2.2.2.2.1 _ (by omega) (by omega)]; exact p4.1.2⟩
  · have en := p5.2
    exact ⟨p5.1.1.gk X5 (by omega) ⟨by omega, by omega⟩, by rw [X5.2.2.2.2.2.1 _ (by omega) (by omega)]; exact p5.1.2.1, fun q q1 q2 => by rw [X5.2.2.2.2.2.1 q (by omega) (by omega)]; exact (p5.1.2.2 q q1 (by omega)).1⟩
theorem t_DiC {d : Nat} {h : Hp} {x : Nat} {Q : Nat → Option Value → Hp → Prop} (h1 : zK h x = 11) (h2 : zN h = x + 135) (h3 : x + 161 ≤ zSC)
    (hq : ∀ g s, s ≤ 100000 → gw (fun q => q = x) 20 s h g → zI g x = zI h x → (zR g x 9 = some (x + 135) ∧ zR g x 10 = some (x + 141) ∧ zR g x 11 = some (x + 153) ∧ zR g x 12 = some (x + 154)) → (∀ j, j ≠ 9 → j ≠ 10 → j ≠ 11 → j ≠ 12 → zR g x j = zR h x j) → (objA g (x + 135) 9 wcL ∧ zI g (x + 135) = (fun _ => 0) ∧ ∀ q, x + 135 < q → q < x + 141 → zI g q = fun _ => 0) → (wsO g (x + 141) ∧ zI g (x + 141) = fun _ => 0) → (zK g (x + 153) = 15 ∧ zL g (x + 153) = 12 ∧ zJ g (x + 153) = fun _ => 0) → (zK g (x + 154) = 15 ∧ zL g (x + 154) = 201) → PW (d + 5) 137 49 [some (.ref x)] [] g Q) : PW (d + 5) 137 31 [some (.ref x)] [] h Q := by
  refine PW.nobj (j := 9) (cc := 5) (ss := 356) (P := fun g => (objA g (x + 135) 9 wcL ∧ zI g (x + 135) = (fun _ => 0) ∧ zer g (x + 135)) ∧ zN g = x + 141) rfl rfl rfl rfl rfl rfl (by decide) rfl (by decide) h1 (by omega) (by omega) (fun g Q' a b c e f => by
    rw [h2] at a b c e f ⊢
    exact t_WordCount_init0 a b (by omega) fun g2 w2 v1 v2 _ v3 v4 => f g2 w2 ⟨⟨v1, by rw [v2, c], v3⟩, v4⟩) fun e6 g6 w6 f6 p6 i6 j6 r6 => ?_
  rw [h2] at r6
  have n6 : zN g6 = x + 141 := by rw [f6.2.2.1]; exact p6.2
  have k6 : zK g6 x = 11 := by rw [w6.2.2.2.1 x (by omega)]; exact h1
  show PW (d + 5) 137 36 [some (.ref x)] [] g6 Q
  refine PW.nobj (j := 10) (cc := 11) (ss := (48 + (gN 9 + 356))) (P := fun g => (wsO g (x + 141) ∧ zI g (x + 141) = fun _ => 0) ∧ zN g = x + 153) rfl rfl rfl rfl rfl rfl (by decide) rfl (by decide) k6 (by omega) (by omega) (fun g Q' a b c e f => by
    rw [n6] at a b c e f ⊢
    exact t_WordSearch_init (d := d + 3) a b (by omega) c fun g2 w2 v1 v2 => f g2 w2 ⟨⟨v1, v2⟩, by rw [w2.1, b]⟩) fun e7 g7 w7 f7 p7 i7 j7 r7 => ?_
  rw [n6] at r7
  have n7 : zN g7 = x + 153 := by rw [f7.2.2.1]; exact p7.2
  have k7 : zK g7 x = 11 := by rw [w7.2.2.2.1 x (by omega)]; exact k6
  show PW (d + 5) 137 41 [some (.ref x)] [] g7 Q
  refine PW.arr (y := 11) (j := 11) rfl rfl rfl rfl k7 (by omega) (by omega) (by decide) (by decide) rfl fun g8 w8 a8 b8 c8 d8 i8 _ r8 => ?_
  rw [n7] at a8 b8 c8 d8 r8
  have n8 : zN g8 = x + 154 := by rw [w8.1, n7]
  have k8 : zK g8 x = 11 := by rw [w8.2.2.2.1 x (by omega)]; exact k7
  show PW (d + 5) 137 45 [some (.ref x)] [] g8 Q
  refine PW.arr (y := 11) (j := 12) rfl rfl rfl rfl k8 (by omega) (by omega) (by decide) (by decide) rfl fun g9 w9 a9 b9 c9 d9 i9 _ r9 => ?_
  rw [n8] at a9 b9 c9 d9 r9
  have n9 : zN g9 = x + 155 := by rw [w9.1, n8]
  have k9 : zK g9 x = 11 := by rw [w9.2.2.2.1 x (by omega)]; exact k8
  show PW (d + 5) 137 49 [some (.ref x)] [] g9 Q
  have W8 := w9
  have W7 := w8.tr (W8.wk fun q _ z => Or.inl z)
  have W6 := w7.tr (W7.wk fun q _ z => Or.inl z)
  have W := w6.tr (W6.wk fun q _ z => Or.inl z)
  have X6 := (gw.of_fr f6).tr (W6.wk fun q _ z => Or.inl z)
  have X7 := (gw.of_fr f7).tr (W7.wk fun q _ z => Or.inl z)
  refine hq g9 _ (by exact Nat.le_of_ble_eq_true rfl) W (by rw [i9, i8, i7, i6]) ⟨by rw [r9, if_neg (by omega), r8, if_neg (by omega), r7, if_neg (by omega), r6, if_pos rfl], by rw [r9, if_neg (by omega), r8, if_neg (by omega), r7, if_pos rfl], by rw [r9, if_neg (by omega), r8, if_pos rfl], by rw [r9, if_pos rfl]⟩ (fun j z6 z7 z8 z9 => by rw [r9, if_neg z9, r8, if_neg z8, r7, if_neg z7, r6, if_neg z6]) ?_ ?_ ?_ ?_
  · have en := p6.2
    exact ⟨p6.1.1.gk X6 (by omega), by rw [X6.2.2.2.2.2.1 _ (by omega) (by omega)]; exact p6.1.2.1, fun q q1 q2 => by rw [X6.2.2.2.2.2.1 q (by omega) (by omega)]; exact (p6.1.2.2 q q1 (by omega)).1⟩
  · have en := p7.2
    obtain ⟨o1, o2, o3⟩ := p7.1.1
    exact ⟨⟨o1.gk X7 (by omega), by rw [X7.2.2.2.2.2.2.2 _ (by omega) (by omega)]; exact o2, o3.gk X7 (by omega)⟩, by rw [X7.2.2.2.2.2.1 _ (by omega) (by omega)]; exact p7.1.2⟩
  · exact ⟨by rw [W8.2.2.2.1 _ (by omega)]; exact a8, by rw [W8.2.2.2.2.1 _ (by omega)]; exact b8, by rw [W8.2.2.2.2.2.2.1 _ (by omega) (by omega)]; exact d8⟩
  · exact ⟨a9, b9⟩
theorem t_DiD {d : Nat} {h : Hp} {x : Nat} {Q : Nat → Option Value → Hp → Prop} (h1 : zK h x = 11) (h2 : zN h = x + 155) (h3 : x + 161 ≤ zSC)
    (hq : ∀ g s, s ≤ 100000 → gw (fun q => q = x) 6 s h g → zI g x = zI h x → (zR g x 13 = some (x + 155) ∧ zR g x 14 = some (x + 157) ∧ zR g x 15 = some (x + 159)) → (∀ j, j ≠ 13 → j ≠ 14 → j ≠ 15 → zR g x j = zR h x j) → rowV g (x + 155) 800 0 0 0 (fun _ => 0) → rowV g (x + 157) 800 0 0 0 (fun _ => 0) → rowV g (x + 159) 800 0 0 0 (fun _ => 0) → PW (d + 5) 137 67 [some (.ref x)] [] g Q) : PW (d + 5) 137 49 [some (.ref x)] [] h Q := by
  refine PW.nrow (rc := 800) (j := 13) rfl rfl rfl rfl rfl rfl h1 (by omega) (by omega) rfl (fun _ => rfl) fun g10 w10 v10 i10 r10 => ?_
  rw [h2] at v10 r10
  have n10 : zN g10 = x + 157 := by rw [w10.1, h2]
  have k10 : zK g10 x = 11 := by rw [w10.2.2.2.1 x (by omega)]; exact h1
  show PW (d + 5) 137 55 [some (.ref x)] [] g10 Q
  refine PW.nrow (rc := 800) (j := 14) rfl rfl rfl rfl rfl rfl k10 (by omega) (by omega) rfl (fun _ => rfl) fun g11 w11 v11 i11 r11 => ?_
  rw [n10] at v11 r11
  have n11 : zN g11 = x + 159 := by rw [w11.1, n10]
  have k11 : zK g11 x = 11 := by rw [w11.2.2.2.1 x (by omega)]; exact k10
  show PW (d + 5) 137 61 [some (.ref x)] [] g11 Q
  refine PW.nrow (rc := 800) (j := 15) rfl rfl rfl rfl rfl rfl k11 (by omega) (by omega) rfl (fun _ => rfl) fun g12 w12 v12 i12 r12 => ?_
  rw [n11] at v12 r12
  have n12 : zN g12 = x + 161 := by rw [w12.1, n11]
  have k12 : zK g12 x = 11 := by rw [w12.2.2.2.1 x (by omega)]; exact k11
  show PW (d + 5) 137 67 [some (.ref x)] [] g12 Q
  have W11 := w12
  have W10 := w11.tr (W11.wk fun q _ z => Or.inl z)
  have W := w10.tr (W10.wk fun q _ z => Or.inl z)
  refine hq g12 _ (by exact Nat.le_of_ble_eq_true rfl) W (by rw [i12, i11, i10]) ⟨by rw [r12, if_neg (by omega), r11, if_neg (by omega), r10, if_pos rfl], by rw [r12, if_neg (by omega), r11, if_pos rfl], by rw [r12, if_pos rfl]⟩ (fun j z10 z11 z12 => by rw [r12, if_neg z12, r11, if_neg z11, r10, if_neg z10]) ?_ ?_ ?_
  · exact v10.gk W10 (by omega) (by omega)
  · exact v11.gk W11 (by omega) (by omega)
  · exact v12
theorem t_D_init {d : Nat} {h : Hp} {x : Nat} {Q : Nat → Option Value → Hp → Prop} (h1 : zK h x = 11) (h2 : zN h = x + 1) (h3 : x + 161 ≤ zSC) (hI : zI h x = fun _ => 0)
    (hq : ∀ h' s, s ≤ 400000 → gw (fun q => q = x) 160 s h h' → D0 h' x → Q 0 none h') : PR (d + 5) m_D_init [.ref x] h Q := by
  show PW (d + 5) 137 0 [some (.ref x)] [] h Q
  refine vs_ok 2 ?_
  rw [show ((gRes 137).drop 0).take 2 = [.aload 0, .invokedynamic 4] from rfl]
  simp only [vs_aload0, vs_nil, gv_0, gv_1, gv_2, gv_3, pv_0, pv_1, va_rf_s, vs_abs, vs_max, vs_min, vs_oinit, Nat.reduceDiv, Nat.reduceMod, Nat.reduceAdd, Nat.reduceMul, Int.reduceToNat, true_and, and_true, and_self, cP_eq, cP_ne, cP_lt, cP_ge, cP_gt, cP_le, eL_i, eL_l, eL_r, eL_n, Option.toList_none, Option.toList_some, List.nil_append, List.cons_append]
  refine ⟨le_b rfl, ?_⟩
  refine t_DiA h1 h2 h3 fun ga sa lsa wa ia ra xa a0 a1 a2 => ?_
  have na : zN ga = x + 117 := by rw [wa.1, h2]
  refine t_DiB (by rw [wa.2.2.2.1 x (by omega)]; exact h1) na h3 fun gb sb lsb wb ib rb xb b3 b4 b5 => ?_
  have nb : zN gb = x + 135 := by rw [wb.1, na]
  refine t_DiC (by rw [wb.2.2.2.1 x (by omega), wa.2.2.2.1 x (by omega)]; exact h1) nb h3 fun gc sc lsc wc ic rc xc c6 c7 c8 c9 => ?_
  have nc : zN gc = x + 155 := by rw [wc.1, nb]
  refine t_DiD (by rw [wc.2.2.2.1 x (by omega), wb.2.2.2.1 x (by omega), wa.2.2.2.1 x (by omega)]; exact h1) nc h3 fun gd sd lsd wd id' rd xd d10 d11 d12 => ?_
  have nd : zN gd = x + 161 := by rw [wd.1, nc]
  refine vs_ok 1 ?_
  rw [show ((gRes 137).drop 67).take 1 = [.return_] from rfl]
  simp only [vs_return_, vs_nil, gv_0, gv_1, gv_2, gv_3, pv_0, pv_1, va_rf_s, Nat.reduceDiv, Nat.reduceMod, Nat.reduceAdd, Nat.reduceMul, Int.reduceToNat, true_and, and_true, and_self, cP_eq, cP_ne, cP_lt, cP_ge, cP_gt, cP_le, eL_i, eL_l, eL_r, eL_n, Option.toList_none, Option.toList_some, List.nil_append, List.cons_append]
  have Wc := wd
  have Wb := wc.tr (wd.wk fun q _ z => Or.inl z)
  have Wa := wb.tr (Wb.wk fun q _ z => Or.inl z)
  have W := wa.tr (Wa.wk fun q _ z => Or.inl z)
  have I : zI gd x = fun _ => 0 := by rw [id', ic, ib, ia, hI]
  have ka : zK gd x = 11 := by rw [W.2.2.2.1 x (by omega)]; exact h1
  refine ⟨by decide, hq gd _ (by omega) W ⟨⟨⟨⟨ka, by omega⟩, ?_, by rw [Wa.2.2.2.1 _ (by omega)]; exact a0.1, by omega, by rw [Wa.2.2.2.2.1 _ (by omega)]; exact a0.2.1⟩, by rw [I]; rfl, by omega, fun i _ => by rw [Wa.2.2.2.2.2.1 _ (by omega) (by omega), a0.2.2]; rfl, fun i => ⟨Int.le_refl _, by show (0 : Int) ≤ 255; omega⟩⟩, fun i => by rw [I], ⟨?_, a1.gk Wa (fun q z => by omega)⟩, ⟨?_, ?_⟩, ⟨?_, b3.1.gk Wb (by omega), (fun i => by rw [Wb.2.2.2.2.2.1 _ (by omega) (by omega), b3.2.1]), fun i => by rw [Wb.2.2.2.2.2.1 _ (by omega) (by omega), b3.2.2]⟩, ⟨?_, b4.1.gk Wb (by omega), fun i => by rw [Wb.2.2.2.2.2.1 _ (by omega) (by omega), b4.2]⟩, ⟨?_, b5.1.gk Wb (by omega) ⟨by omega, by omega⟩, fun i => by rw [Wb.2.2.2.2.2.1 _ (by omega) (by omega), b5.2.1], fun q q1 q2 i => by rw [Wb.2.2.2.2.2.1 q (by omega) (by omega), b5.2.2 q q1 q2]⟩, ⟨?_, c6.1.gk Wc (by omega), fun i => by rw [Wc.2.2.2.2.2.1 _ (by omega) (by omega), c6.2.1], fun q q1 q2 i => by rw [Wc.2.2.2.2.2.1 q (by omega) (by omega), c6.2.2 q q1 q2]⟩, ⟨?_, ?_, fun i => by rw [Wc.2.2.2.2.2.1 _ (by omega) (by omega), c7.2]⟩, ⟨?_, ⟨by rw [Wc.2.2.2.1 _ (by omega)]; exact c8.1, by omega, by rw [Wc.2.2.2.2.1 _ (by omega)]; exact c8.2.1⟩, fun i => by rw [Wc.2.2.2.2.2.2.1 _ (by omega) (by omega), c8.2.2]⟩, ⟨?_, by rw [Wc.2.2.2.1 _ (by omega)]; exact c9.1, by omega, by rw [Wc.2.2.2.2.1 _ (by omega)]; exact c9.2⟩, rd, ⟨(0, 0, 0, fun _ => 0), d10⟩, ⟨(0, 0, 0, fun _ => 0), d11⟩, ⟨(0, 0, 0, fun _ => 0), d12⟩⟩⟩
  · rw [xd 0 (by omega) (by omega) (by omega), xc 0 (by omega) (by omega) (by omega) (by omega), xb 0 (by omega) (by omega) (by omega)]
    exact ra.1
  · rw [xd 2 (by omega) (by omega) (by omega), xc 2 (by omega) (by omega) (by omega) (by omega), xb 2 (by omega) (by omega) (by omega)]
    exact ra.2.1
  · rw [xd 3 (by omega) (by omega) (by omega), xc 3 (by omega) (by omega) (by omega) (by omega), xb 3 (by omega) (by omega) (by omega)]
    exact ra.2.2
  · obtain ⟨⟨o1, o2, o3, o4, o5⟩, ⟨q1, q2⟩, bn, tb⟩ := a2
    have rx := Wa.2.2.2.2.2.2.2 (x + 30) (by omega) (by omega)
    exact ⟨⟨by rw [Wa.2.2.2.1 _ (by omega)]; exact o1, by omega, by rw [rx]; exact o3, by rw [rx]; exact o4, by rw [rx]; exact o5⟩, ⟨by rw [Wa.2.2.2.1 _ (by omega)]; exact q1, by rw [Wa.2.2.2.2.2.1 _ (by omega) (by omega)]; exact q2⟩, bn.gk Wa (fun q z => by unfold bnA; omega), tb.gk Wa (fun q z => by omega)⟩
  · rw [xd 5 (by omega) (by omega) (by omega), xc 5 (by omega) (by omega) (by omega) (by omega)]
    exact rb.1
  · rw [xd 7 (by omega) (by omega) (by omega), xc 7 (by omega) (by omega) (by omega) (by omega)]
    exact rb.2.1
  · rw [xd 8 (by omega) (by omega) (by omega), xc 8 (by omega) (by omega) (by omega) (by omega)]
    exact rb.2.2
  · rw [xd 9 (by omega) (by omega) (by omega)]
    exact rc.1
  · rw [xd 10 (by omega) (by omega) (by omega)]
    exact rc.2.1
  · obtain ⟨o1, o2, o3⟩ := c7.1
    exact ⟨o1.gk Wc (by omega), by rw [Wc.2.2.2.2.2.2.2 _ (by omega) (by omega)]; exact o2, o3.gk Wc (by omega)⟩
  · rw [xd 11 (by omega) (by omega) (by omega)]
    exact rc.2.2.1
  · rw [xd 12 (by omega) (by omega) (by omega)]
    exact rc.2.2.2
