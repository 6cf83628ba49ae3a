/-! the Model's cells: its arrays never move -/
abbrev moL : List (Nat × Nat × Nat) := [(1, 13, 540), (5, 15, 19649), (6, 15, 49), (8, 15, 24), (9, 14, 288), (10, 14, 24), (11, 14, 2), (12, 14, 144), (13, 14, 12), (14, 14, 12), (15, 14, 12), (16, 16, 12), (24, 15, 3202), (25, 15, 1601), (26, 14, 12), (27, 14, 12), (29, 14, 7), (30, 15, 128), (31, 15, 12), (32, 15, 7), (33, 14, 130), (34, 14, 61), (35, 14, 61), (36, 14, 130), (37, 14, 6100), (38, 14, 6100), (45, 14, 24), (46, 14, 24), (47, 14, 24), (48, 14, 4), (49, 14, 16), (50, 14, 24), (51, 14, 4), (57, 15, 12), (58, 15, 201)]
/-- the Model at m, its arrays in the cells behind it -/
def mO (h : Hp) (m : Nat) : Prop := objM h m 12 1 moL
theorem mO.fi {S : Nat → Prop} {h g : Hp} {m : Nat} (hm : mO h m) (f : fi S h g) : mO g m := by
  obtain ⟨a, b, e⟩ := hm
  refine ⟨by rw [f.1.1]; exact a, by rw [f.1.2.2.1]; exact b, fun i p hp => ?_⟩
  rw [f.2, f.1.1, f.1.2.1]
  exact e i p hp
theorem mO.n {h : Hp} {m : Nat} (hm : mO h m) : m + 35 < zN h := by
  have := hm.2.1
  have e : moL.length = 35 := rfl
  omega
theorem mO.k {h : Hp} {m : Nat} (hm : mO h m) : zK h m = 12 ∧ m < zN h := ⟨hm.1, by have := hm.n; omega⟩
theorem mO.tape {h : Hp} {m : Nat} (hm : mO h m) : zR h m 1 = some (m + 1) ∧ zK h (m + 1) = 13 ∧ m + 1 < zN h ∧ zL h (m + 1) = 540 := by
  have e := hm.2.2 0 (1, 13, 540) rfl
  have n := hm.n
  rw [show m + 1 + 0 = m + 1 by omega] at e
  exact ⟨e.1, e.2.1, by omega, e.2.2⟩
theorem mO.pool {h : Hp} {m : Nat} (hm : mO h m) : zR h m 5 = some (m + 2) ∧ zK h (m + 2) = 15 ∧ m + 2 < zN h ∧ zL h (m + 2) = 19649 := by
  have e := hm.2.2 1 (5, 15, 19649) rfl
  have n := hm.n
  rw [show m + 1 + 1 = m + 2 by omega] at e
  exact ⟨e.1, e.2.1, by omega, e.2.2⟩
theorem mO.alls {h : Hp} {m : Nat} (hm : mO h m) : zR h m 6 = some (m + 3) ∧ zK h (m + 3) = 15 ∧ m + 3 < zN h ∧ zL h (m + 3) = 49 := by
  have e := hm.2.2 2 (6, 15, 49) rfl
  have n := hm.n
  rw [show m + 1 + 2 = m + 3 by omega] at e
  exact ⟨e.1, e.2.1, by omega, e.2.2⟩
theorem mO.names {h : Hp} {m : Nat} (hm : mO h m) : zR h m 8 = some (m + 4) ∧ zK h (m + 4) = 15 ∧ m + 4 < zN h ∧ zL h (m + 4) = 24 := by
  have e := hm.2.2 3 (8, 15, 24) rfl
  have n := hm.n
  rw [show m + 1 + 3 = m + 4 by omega] at e
  exact ⟨e.1, e.2.1, by omega, e.2.2⟩
theorem mO.faces {h : Hp} {m : Nat} (hm : mO h m) : zR h m 9 = some (m + 5) ∧ zK h (m + 5) = 14 ∧ m + 5 < zN h ∧ zL h (m + 5) = 288 := by
  have e := hm.2.2 4 (9, 14, 288) rfl
  have n := hm.n
  rw [show m + 1 + 4 = m + 5 by omega] at e
  exact ⟨e.1, e.2.1, by omega, e.2.2⟩
theorem mO.faceMany {h : Hp} {m : Nat} (hm : mO h m) : zR h m 10 = some (m + 6) ∧ zK h (m + 6) = 14 ∧ m + 6 < zN h ∧ zL h (m + 6) = 24 := by
  have e := hm.2.2 5 (10, 14, 24) rfl
  have n := hm.n
  rw [show m + 1 + 5 = m + 6 by omega] at e
  exact ⟨e.1, e.2.1, by omega, e.2.2⟩
theorem mO.nameMany {h : Hp} {m : Nat} (hm : mO h m) : zR h m 11 = some (m + 7) ∧ zK h (m + 7) = 14 ∧ m + 7 < zN h ∧ zL h (m + 7) = 2 := by
  have e := hm.2.2 6 (11, 14, 2) rfl
  have n := hm.n
  rw [show m + 1 + 6 = m + 7 by omega] at e
  exact ⟨e.1, e.2.1, by omega, e.2.2⟩
theorem mO.net {h : Hp} {m : Nat} (hm : mO h m) : zR h m 12 = some (m + 8) ∧ zK h (m + 8) = 14 ∧ m + 8 < zN h ∧ zL h (m + 8) = 144 := by
  have e := hm.2.2 7 (12, 14, 144) rfl
  have n := hm.n
  rw [show m + 1 + 7 = m + 8 by omega] at e
  exact ⟨e.1, e.2.1, by omega, e.2.2⟩
theorem mO.kind {h : Hp} {m : Nat} (hm : mO h m) : zR h m 13 = some (m + 9) ∧ zK h (m + 9) = 14 ∧ m + 9 < zN h ∧ zL h (m + 9) = 12 := by
  have e := hm.2.2 8 (13, 14, 12) rfl
  have n := hm.n
  rw [show m + 1 + 8 = m + 9 by omega] at e
  exact ⟨e.1, e.2.1, by omega, e.2.2⟩
theorem mO.signed {h : Hp} {m : Nat} (hm : mO h m) : zR h m 14 = some (m + 10) ∧ zK h (m + 10) = 14 ∧ m + 10 < zN h ∧ zL h (m + 10) = 12 := by
  have e := hm.2.2 9 (14, 14, 12) rfl
  have n := hm.n
  rw [show m + 1 + 9 = m + 10 by omega] at e
  exact ⟨e.1, e.2.1, by omega, e.2.2⟩
theorem mO.times {h : Hp} {m : Nat} (hm : mO h m) : zR h m 15 = some (m + 11) ∧ zK h (m + 11) = 14 ∧ m + 11 < zN h ∧ zL h (m + 11) = 12 := by
  have e := hm.2.2 10 (15, 14, 12) rfl
  have n := hm.n
  rw [show m + 1 + 10 = m + 11 by omega] at e
  exact ⟨e.1, e.2.1, by omega, e.2.2⟩
theorem mO.has {h : Hp} {m : Nat} (hm : mO h m) : zR h m 16 = some (m + 12) ∧ zK h (m + 12) = 16 ∧ m + 12 < zN h ∧ zL h (m + 12) = 12 := by
  have e := hm.2.2 11 (16, 16, 12) rfl
  have n := hm.n
  rw [show m + 1 + 11 = m + 12 by omega] at e
  exact ⟨e.1, e.2.1, by omega, e.2.2⟩
theorem mO.wide {h : Hp} {m : Nat} (hm : mO h m) : zR h m 24 = some (m + 13) ∧ zK h (m + 13) = 15 ∧ m + 13 < zN h ∧ zL h (m + 13) = 3202 := by
  have e := hm.2.2 12 (24, 15, 3202) rfl
  have n := hm.n
  rw [show m + 1 + 12 = m + 13 by omega] at e
  exact ⟨e.1, e.2.1, by omega, e.2.2⟩
theorem mO.wideMade {h : Hp} {m : Nat} (hm : mO h m) : zR h m 25 = some (m + 14) ∧ zK h (m + 14) = 15 ∧ m + 14 < zN h ∧ zL h (m + 14) = 1601 := by
  have e := hm.2.2 13 (25, 15, 1601) rfl
  have n := hm.n
  rw [show m + 1 + 13 = m + 14 by omega] at e
  exact ⟨e.1, e.2.1, by omega, e.2.2⟩
theorem mO.far {h : Hp} {m : Nat} (hm : mO h m) : zR h m 26 = some (m + 15) ∧ zK h (m + 15) = 14 ∧ m + 15 < zN h ∧ zL h (m + 15) = 12 := by
  have e := hm.2.2 14 (26, 14, 12) rfl
  have n := hm.n
  rw [show m + 1 + 14 = m + 15 by omega] at e
  exact ⟨e.1, e.2.1, by omega, e.2.2⟩
theorem mO.ringNames {h : Hp} {m : Nat} (hm : mO h m) : zR h m 27 = some (m + 16) ∧ zK h (m + 16) = 14 ∧ m + 16 < zN h ∧ zL h (m + 16) = 12 := by
  have e := hm.2.2 15 (27, 14, 12) rfl
  have n := hm.n
  rw [show m + 1 + 15 = m + 16 by omega] at e
  exact ⟨e.1, e.2.1, by omega, e.2.2⟩
theorem mO.member {h : Hp} {m : Nat} (hm : mO h m) : zR h m 29 = some (m + 17) ∧ zK h (m + 17) = 14 ∧ m + 17 < zN h ∧ zL h (m + 17) = 7 := by
  have e := hm.2.2 16 (29, 14, 7) rfl
  have n := hm.n
  rw [show m + 1 + 16 = m + 17 by omega] at e
  exact ⟨e.1, e.2.1, by omega, e.2.2⟩
theorem mO.pairing {h : Hp} {m : Nat} (hm : mO h m) : zR h m 30 = some (m + 18) ∧ zK h (m + 18) = 15 ∧ m + 18 < zN h ∧ zL h (m + 18) = 128 := by
  have e := hm.2.2 17 (30, 15, 128) rfl
  have n := hm.n
  rw [show m + 1 + 17 = m + 18 by omega] at e
  exact ⟨e.1, e.2.1, by omega, e.2.2⟩
theorem mO.share {h : Hp} {m : Nat} (hm : mO h m) : zR h m 31 = some (m + 19) ∧ zK h (m + 19) = 15 ∧ m + 19 < zN h ∧ zL h (m + 19) = 12 := by
  have e := hm.2.2 18 (31, 15, 12) rfl
  have n := hm.n
  rw [show m + 1 + 18 = m + 19 by omega] at e
  exact ⟨e.1, e.2.1, by omega, e.2.2⟩
theorem mO.shareNow {h : Hp} {m : Nat} (hm : mO h m) : zR h m 32 = some (m + 20) ∧ zK h (m + 20) = 15 ∧ m + 20 < zN h ∧ zL h (m + 20) = 7 := by
  have e := hm.2.2 19 (32, 15, 7) rfl
  have n := hm.n
  rw [show m + 1 + 19 = m + 20 by omega] at e
  exact ⟨e.1, e.2.1, by omega, e.2.2⟩
theorem mO.target {h : Hp} {m : Nat} (hm : mO h m) : zR h m 33 = some (m + 21) ∧ zK h (m + 21) = 14 ∧ m + 21 < zN h ∧ zL h (m + 21) = 130 := by
  have e := hm.2.2 20 (33, 14, 130) rfl
  have n := hm.n
  rw [show m + 1 + 20 = m + 21 by omega] at e
  exact ⟨e.1, e.2.1, by omega, e.2.2⟩
theorem mO.xs {h : Hp} {m : Nat} (hm : mO h m) : zR h m 34 = some (m + 22) ∧ zK h (m + 22) = 14 ∧ m + 22 < zN h ∧ zL h (m + 22) = 61 := by
  have e := hm.2.2 21 (34, 14, 61) rfl
  have n := hm.n
  rw [show m + 1 + 21 = m + 22 by omega] at e
  exact ⟨e.1, e.2.1, by omega, e.2.2⟩
theorem mO.ys {h : Hp} {m : Nat} (hm : mO h m) : zR h m 35 = some (m + 23) ∧ zK h (m + 23) = 14 ∧ m + 23 < zN h ∧ zL h (m + 23) = 61 := by
  have e := hm.2.2 22 (35, 14, 61) rfl
  have n := hm.n
  rw [show m + 1 + 22 = m + 23 by omega] at e
  exact ⟨e.1, e.2.1, by omega, e.2.2⟩
theorem mO.tried {h : Hp} {m : Nat} (hm : mO h m) : zR h m 36 = some (m + 24) ∧ zK h (m + 24) = 14 ∧ m + 24 < zN h ∧ zL h (m + 24) = 130 := by
  have e := hm.2.2 23 (36, 14, 130) rfl
  have n := hm.n
  rw [show m + 1 + 23 = m + 24 by omega] at e
  exact ⟨e.1, e.2.1, by omega, e.2.2⟩
theorem mO.keptX {h : Hp} {m : Nat} (hm : mO h m) : zR h m 37 = some (m + 25) ∧ zK h (m + 25) = 14 ∧ m + 25 < zN h ∧ zL h (m + 25) = 6100 := by
  have e := hm.2.2 24 (37, 14, 6100) rfl
  have n := hm.n
  rw [show m + 1 + 24 = m + 25 by omega] at e
  exact ⟨e.1, e.2.1, by omega, e.2.2⟩
theorem mO.keptY {h : Hp} {m : Nat} (hm : mO h m) : zR h m 38 = some (m + 26) ∧ zK h (m + 26) = 14 ∧ m + 26 < zN h ∧ zL h (m + 26) = 6100 := by
  have e := hm.2.2 25 (38, 14, 6100) rfl
  have n := hm.n
  rw [show m + 1 + 25 = m + 26 by omega] at e
  exact ⟨e.1, e.2.1, by omega, e.2.2⟩
theorem mO.letters {h : Hp} {m : Nat} (hm : mO h m) : zR h m 45 = some (m + 27) ∧ zK h (m + 27) = 14 ∧ m + 27 < zN h ∧ zL h (m + 27) = 24 := by
  have e := hm.2.2 26 (45, 14, 24) rfl
  have n := hm.n
  rw [show m + 1 + 26 = m + 27 by omega] at e
  exact ⟨e.1, e.2.1, by omega, e.2.2⟩
theorem mO.fairWord {h : Hp} {m : Nat} (hm : mO h m) : zR h m 46 = some (m + 28) ∧ zK h (m + 28) = 14 ∧ m + 28 < zN h ∧ zL h (m + 28) = 24 := by
  have e := hm.2.2 27 (46, 14, 24) rfl
  have n := hm.n
  rw [show m + 1 + 27 = m + 28 by omega] at e
  exact ⟨e.1, e.2.1, by omega, e.2.2⟩
theorem mO.keptWord {h : Hp} {m : Nat} (hm : mO h m) : zR h m 47 = some (m + 29) ∧ zK h (m + 29) = 14 ∧ m + 29 < zN h ∧ zL h (m + 29) = 24 := by
  have e := hm.2.2 28 (47, 14, 24) rfl
  have n := hm.n
  rw [show m + 1 + 28 = m + 29 by omega] at e
  exact ⟨e.1, e.2.1, by omega, e.2.2⟩
theorem mO.below {h : Hp} {m : Nat} (hm : mO h m) : zR h m 48 = some (m + 30) ∧ zK h (m + 30) = 14 ∧ m + 30 < zN h ∧ zL h (m + 30) = 4 := by
  have e := hm.2.2 29 (48, 14, 4) rfl
  have n := hm.n
  rw [show m + 1 + 29 = m + 30 by omega] at e
  exact ⟨e.1, e.2.1, by omega, e.2.2⟩
theorem mO.beatsOf {h : Hp} {m : Nat} (hm : mO h m) : zR h m 49 = some (m + 31) ∧ zK h (m + 31) = 14 ∧ m + 31 < zN h ∧ zL h (m + 31) = 16 := by
  have e := hm.2.2 30 (49, 14, 16) rfl
  have n := hm.n
  rw [show m + 1 + 30 = m + 31 by omega] at e
  exact ⟨e.1, e.2.1, by omega, e.2.2⟩
theorem mO.wants {h : Hp} {m : Nat} (hm : mO h m) : zR h m 50 = some (m + 32) ∧ zK h (m + 32) = 14 ∧ m + 32 < zN h ∧ zL h (m + 32) = 24 := by
  have e := hm.2.2 31 (50, 14, 24) rfl
  have n := hm.n
  rw [show m + 1 + 31 = m + 32 by omega] at e
  exact ⟨e.1, e.2.1, by omega, e.2.2⟩
theorem mO.pathOf {h : Hp} {m : Nat} (hm : mO h m) : zR h m 51 = some (m + 33) ∧ zK h (m + 33) = 14 ∧ m + 33 < zN h ∧ zL h (m + 33) = 4 := by
  have e := hm.2.2 32 (51, 14, 4) rfl
  have n := hm.n
  rw [show m + 1 + 32 = m + 33 by omega] at e
  exact ⟨e.1, e.2.1, by omega, e.2.2⟩
theorem mO.rolledParts {h : Hp} {m : Nat} (hm : mO h m) : zR h m 57 = some (m + 34) ∧ zK h (m + 34) = 15 ∧ m + 34 < zN h ∧ zL h (m + 34) = 12 := by
  have e := hm.2.2 33 (57, 15, 12) rfl
  have n := hm.n
  rw [show m + 1 + 33 = m + 34 by omega] at e
  exact ⟨e.1, e.2.1, by omega, e.2.2⟩
theorem mO.met {h : Hp} {m : Nat} (hm : mO h m) : zR h m 58 = some (m + 35) ∧ zK h (m + 35) = 15 ∧ m + 35 < zN h ∧ zL h (m + 35) = 201 := by
  have e := hm.2.2 34 (58, 15, 201) rfl
  have n := hm.n
  rw [show m + 1 + 34 = m + 35 by omega] at e
  exact ⟨e.1, e.2.1, by omega, e.2.2⟩
