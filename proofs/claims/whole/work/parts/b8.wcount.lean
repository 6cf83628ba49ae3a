/-! words: the class's counts and the Model's -/
theorem of3 : ∀ q, q < 64 → ofU q 3 = true → ofU (q / 4) 2 = true := by decide +kernel
theorem of4 : ∀ q, q < 256 → ofU q 4 = true → ofU (q / 4) 3 = true := by decide +kernel
/-- the class's counts, ORDER by ORDER -/
theorem wc_bb {n : Nat} (w : Nat → Nat) : ∀ t, (∀ a, (wcR n (lstW w t)).1 a = bb w a o1 t) ∧ (∀ q, q < 16 → ofU q 2 = true → (wcR n (lstW w t)).2.1 q = bb w (q % 4) (bb w (q / 4) o1) t) ∧ (3 ≤ n → ∀ q, q < 64 → ofU q 3 = true → (wcR n (lstW w t)).2.2.1 q = bb w (q % 4) (bb w (q / 4 % 4) (bb w (q / 4 / 4) o1)) t) ∧ (4 ≤ n → ∀ q, q < 256 → ofU q 4 = true → (wcR n (lstW w t)).2.2.2 q = bb w (q % 4) (bb w (q / 4 % 4) (bb w (q / 4 / 4 % 4) (bb w (q / 4 / 4 / 4) o1))) t)
  | 0 => ⟨fun _ => rfl, fun _ _ _ => rfl, fun _ _ _ _ => rfl, fun _ _ _ _ => rfl⟩
  | t + 1 => by
    obtain ⟨h1, h2, h3, h4⟩ := wc_bb (n := n) w t
    have e : wcR n (lstW w (t + 1)) = wcT n (w t) (wcR n (lstW w t)) := rfl
    rw [e]
    generalize wcR n (lstW w t) = s at *
    refine ⟨fun a => ?_, fun q hq hu => ?_, fun hn q hq hu => ?_, fun hn q hq hu => ?_⟩
    · show (if a = w t then s.1 a + 1 else s.1 a) = _
      rw [bb_s, h1 a]
      by_cases c : w t = a
      · rw [if_pos c.symm, if_pos c]
      · rw [if_neg (fun z => c z.symm), if_neg c]
        rfl
    · show (if q % 4 = w t ∧ ofU q 2 = true then s.2.1 q + s.1 (q / 4) else s.2.1 q) = _
      rw [bb_s, h2 q hq hu, h1]
      by_cases c : w t = q % 4
      · rw [if_pos ⟨c.symm, hu⟩, if_pos c]
      · rw [if_neg (fun z => c z.1.symm), if_neg c]
        rfl
    · show (if 3 ≤ n then (fun q => if q % 4 = w t ∧ ofU q 3 = true then s.2.2.1 q + s.2.1 (q / 4) else s.2.2.1 q) else s.2.2.1) q = _
      rw [if_pos hn, bb_s, h3 hn q hq hu, h2 (q / 4) (by omega) (of3 q hq hu)]
      by_cases c : w t = q % 4
      · rw [if_pos ⟨c.symm, hu⟩, if_pos c]
      · rw [if_neg (fun z => c z.1.symm), if_neg c]
        rfl
    · show (if 4 ≤ n then (fun q => if q % 4 = w t ∧ ofU q 4 = true then s.2.2.2 q + s.2.2.1 (q / 4) else s.2.2.2 q) else s.2.2.2) q = _
      rw [if_pos hn, bb_s, h4 hn q hq hu, h3 (by omega) (q / 4) (by omega) (of4 q hq hu)]
      by_cases c : w t = q % 4
      · rw [if_pos ⟨c.symm, hu⟩, if_pos c]
      · rw [if_neg (fun z => c z.1.symm), if_neg c]
        rfl
theorem rw2 (w : Nat → Nat) (L q : Nat) (h : q < 16 ∧ ofU q 2 = true) : rwF 2 (wcR 2 (lstW w L)) q = bb w (q % 4) (bb w (q / 4) o1) L := (wc_bb w L).2.1 q h.1 h.2
theorem rw3 (w : Nat → Nat) (L q : Nat) (h : q < 64 ∧ ofU q 3 = true) : rwF 3 (wcR 3 (lstW w L)) q = bb w (q % 4) (bb w (q / 4 % 4) (bb w (q / 4 / 4) o1)) L := (wc_bb w L).2.2.1 (by omega) q h.1 h.2
theorem rw4 (w : Nat → Nat) (L q : Nat) (h : q < 256 ∧ ofU q 4 = true) : rwF 4 (wcR 4 (lstW w L)) q = bb w (q % 4) (bb w (q / 4 % 4) (bb w (q / 4 / 4 % 4) (bb w (q / 4 / 4 / 4) o1))) L := (wc_bb w L).2.2.2 (by omega) q h.1 h.2
theorem plF_l {n : Nat} {s : wcS} {d e : Nat} (he : e < n) (hn : n ≤ 4) : plF n s (4 * d + e) = sL (rwF n s) (flL (fun q => decide (isO n q ∧ q / 2 ^ (2 * (n - 1 - e)) % 4 = d)) (2 ^ (2 * n))) := by
  have e1 : (4 * d + e) % 4 = e := by omega
  have e2 : (4 * d + e) / 4 = d := by omega
  show (if (4 * d + e) % 4 < n then smN (plT n s (4 * d + e)) (2 ^ (2 * n)) else 0) = _
  rw [if_pos (by omega), ← sm_sL' (Q := fun q => isO n q ∧ q / 2 ^ (2 * (n - 1 - e)) % 4 = d) _ (rwF n s) (2 ^ (2 * n)) fun q => (decide_eq_true_iff).symm]
  refine smN_cg _ fun q _ => ?_
  show (if isO n q ∧ q / 2 ^ (2 * (n - 1 - (4 * d + e) % 4)) % 4 = (4 * d + e) / 4 then rwF n s q else 0) = _
  rw [e1, e2]
theorem pm_2_0_0 (w : Nat → Nat) (L : Nat) : plM w L 2 0 0 = bb w 1 (bb w 0 o1) L := by
  rw [pl_mS, show flL (fun s => decide (s.testBit 0 = false ∧ pcN s 12 = 0)) (2 ^ 2) = [0] from by decide +kernel]
  show mS w L 2 0 0 + 0 = _
  rw [mS_2_0_0]
  omega
theorem pc_2_0_0 (w : Nat → Nat) (L : Nat) : plF 2 (wcR 2 (lstW w L)) (4 * 0 + 0) = plM w L 2 0 0 := by
  rw [plF_l (by decide) (by decide), show flL (fun q => decide (isO 2 q ∧ q / 2 ^ (2 * (2 - 1 - 0)) % 4 = 0)) (2 ^ (2 * 2)) = [1] from by decide +kernel, pm_2_0_0]
  have r1 : rwF 2 (wcR 2 (lstW w L)) 1 = bb w 1 (bb w 0 o1) L := rw2 w L 1 ⟨by decide, by decide⟩
  show rwF 2 (wcR 2 (lstW w L)) 1 + 0 = _
  rw [r1]
  omega
theorem pm_2_0_1 (w : Nat → Nat) (L : Nat) : plM w L 2 0 1 = bb w 0 (bb w 1 o1) L := by
  rw [pl_mS, show flL (fun s => decide (s.testBit 0 = false ∧ pcN s 12 = 1)) (2 ^ 2) = [2] from by decide +kernel]
  show mS w L 2 0 2 + 0 = _
  rw [mS_2_0_2]
  omega
theorem pc_2_0_1 (w : Nat → Nat) (L : Nat) : plF 2 (wcR 2 (lstW w L)) (4 * 0 + 1) = plM w L 2 0 1 := by
  rw [plF_l (by decide) (by decide), show flL (fun q => decide (isO 2 q ∧ q / 2 ^ (2 * (2 - 1 - 1)) % 4 = 0)) (2 ^ (2 * 2)) = [4] from by decide +kernel, pm_2_0_1]
  have r4 : rwF 2 (wcR 2 (lstW w L)) 4 = bb w 0 (bb w 1 o1) L := rw2 w L 4 ⟨by decide, by decide⟩
  show rwF 2 (wcR 2 (lstW w L)) 4 + 0 = _
  rw [r4]
  omega
theorem pm_2_1_0 (w : Nat → Nat) (L : Nat) : plM w L 2 1 0 = bb w 0 (bb w 1 o1) L := by
  rw [pl_mS, show flL (fun s => decide (s.testBit 1 = false ∧ pcN s 12 = 0)) (2 ^ 2) = [0] from by decide +kernel]
  show mS w L 2 1 0 + 0 = _
  rw [mS_2_1_0]
  omega
theorem pc_2_1_0 (w : Nat → Nat) (L : Nat) : plF 2 (wcR 2 (lstW w L)) (4 * 1 + 0) = plM w L 2 1 0 := by
  rw [plF_l (by decide) (by decide), show flL (fun q => decide (isO 2 q ∧ q / 2 ^ (2 * (2 - 1 - 0)) % 4 = 1)) (2 ^ (2 * 2)) = [4] from by decide +kernel, pm_2_1_0]
  have r4 : rwF 2 (wcR 2 (lstW w L)) 4 = bb w 0 (bb w 1 o1) L := rw2 w L 4 ⟨by decide, by decide⟩
  show rwF 2 (wcR 2 (lstW w L)) 4 + 0 = _
  rw [r4]
  omega
theorem pm_2_1_1 (w : Nat → Nat) (L : Nat) : plM w L 2 1 1 = bb w 1 (bb w 0 o1) L := by
  rw [pl_mS, show flL (fun s => decide (s.testBit 1 = false ∧ pcN s 12 = 1)) (2 ^ 2) = [1] from by decide +kernel]
  show mS w L 2 1 1 + 0 = _
  rw [mS_2_1_1]
  omega
theorem pc_2_1_1 (w : Nat → Nat) (L : Nat) : plF 2 (wcR 2 (lstW w L)) (4 * 1 + 1) = plM w L 2 1 1 := by
  rw [plF_l (by decide) (by decide), show flL (fun q => decide (isO 2 q ∧ q / 2 ^ (2 * (2 - 1 - 1)) % 4 = 1)) (2 ^ (2 * 2)) = [1] from by decide +kernel, pm_2_1_1]
  have r1 : rwF 2 (wcR 2 (lstW w L)) 1 = bb w 1 (bb w 0 o1) L := rw2 w L 1 ⟨by decide, by decide⟩
  show rwF 2 (wcR 2 (lstW w L)) 1 + 0 = _
  rw [r1]
  omega
def tot2 (w : Nat → Nat) (L : Nat) : Nat := bb w 1 (bb w 0 o1) L + bb w 0 (bb w 1 o1) L
theorem sums2 (w : Nat → Nat) (L : Nat) : plM w L 2 0 0 + plM w L 2 0 1 = tot2 w L ∧ plM w L 2 1 0 + plM w L 2 1 1 = tot2 w L ∧ plM w L 2 0 0 + plM w L 2 1 0 = tot2 w L ∧ plM w L 2 0 1 + plM w L 2 1 1 = tot2 w L := by
  unfold tot2
  rw [pm_2_0_0, pm_2_0_1, pm_2_1_0, pm_2_1_1]
  refine ⟨?_, ?_, ?_, ?_⟩ <;> omega
theorem pm_3_0_0 (w : Nat → Nat) (L : Nat) : plM w L 3 0 0 = bb w 2 (bb w 1 (bb w 0 o1)) L + bb w 1 (bb w 2 (bb w 0 o1)) L := by
  rw [pl_mS, show flL (fun s => decide (s.testBit 0 = false ∧ pcN s 12 = 0)) (2 ^ 3) = [0] from by decide +kernel]
  show mS w L 3 0 0 + 0 = _
  rw [mS_3_0_0]
  omega
theorem pc_3_0_0 (w : Nat → Nat) (L : Nat) : plF 3 (wcR 3 (lstW w L)) (4 * 0 + 0) = plM w L 3 0 0 := by
  rw [plF_l (by decide) (by decide), show flL (fun q => decide (isO 3 q ∧ q / 2 ^ (2 * (3 - 1 - 0)) % 4 = 0)) (2 ^ (2 * 3)) = [6, 9] from by decide +kernel, pm_3_0_0]
  have r6 : rwF 3 (wcR 3 (lstW w L)) 6 = bb w 2 (bb w 1 (bb w 0 o1)) L := rw3 w L 6 ⟨by decide, by decide⟩
  have r9 : rwF 3 (wcR 3 (lstW w L)) 9 = bb w 1 (bb w 2 (bb w 0 o1)) L := rw3 w L 9 ⟨by decide, by decide⟩
  show rwF 3 (wcR 3 (lstW w L)) 6 + (rwF 3 (wcR 3 (lstW w L)) 9 + 0) = _
  rw [r6, r9]
  omega
theorem pm_3_0_1 (w : Nat → Nat) (L : Nat) : plM w L 3 0 1 = bb w 2 (bb w 0 (bb w 1 o1)) L + bb w 1 (bb w 0 (bb w 2 o1)) L := by
  rw [pl_mS, show flL (fun s => decide (s.testBit 0 = false ∧ pcN s 12 = 1)) (2 ^ 3) = [2, 4] from by decide +kernel]
  show mS w L 3 0 2 + (mS w L 3 0 4 + 0) = _
  rw [mS_3_0_2, mS_3_0_4]
  omega
theorem pc_3_0_1 (w : Nat → Nat) (L : Nat) : plF 3 (wcR 3 (lstW w L)) (4 * 0 + 1) = plM w L 3 0 1 := by
  rw [plF_l (by decide) (by decide), show flL (fun q => decide (isO 3 q ∧ q / 2 ^ (2 * (3 - 1 - 1)) % 4 = 0)) (2 ^ (2 * 3)) = [18, 33] from by decide +kernel, pm_3_0_1]
  have r18 : rwF 3 (wcR 3 (lstW w L)) 18 = bb w 2 (bb w 0 (bb w 1 o1)) L := rw3 w L 18 ⟨by decide, by decide⟩
  have r33 : rwF 3 (wcR 3 (lstW w L)) 33 = bb w 1 (bb w 0 (bb w 2 o1)) L := rw3 w L 33 ⟨by decide, by decide⟩
  show rwF 3 (wcR 3 (lstW w L)) 18 + (rwF 3 (wcR 3 (lstW w L)) 33 + 0) = _
  rw [r18, r33]
  omega
theorem pm_3_0_2 (w : Nat → Nat) (L : Nat) : plM w L 3 0 2 = bb w 0 (bb w 2 (bb w 1 o1)) L + bb w 0 (bb w 1 (bb w 2 o1)) L := by
  rw [pl_mS, show flL (fun s => decide (s.testBit 0 = false ∧ pcN s 12 = 2)) (2 ^ 3) = [6] from by decide +kernel]
  show mS w L 3 0 6 + 0 = _
  rw [mS_3_0_6]
  omega
theorem pc_3_0_2 (w : Nat → Nat) (L : Nat) : plF 3 (wcR 3 (lstW w L)) (4 * 0 + 2) = plM w L 3 0 2 := by
  rw [plF_l (by decide) (by decide), show flL (fun q => decide (isO 3 q ∧ q / 2 ^ (2 * (3 - 1 - 2)) % 4 = 0)) (2 ^ (2 * 3)) = [24, 36] from by decide +kernel, pm_3_0_2]
  have r24 : rwF 3 (wcR 3 (lstW w L)) 24 = bb w 0 (bb w 2 (bb w 1 o1)) L := rw3 w L 24 ⟨by decide, by decide⟩
  have r36 : rwF 3 (wcR 3 (lstW w L)) 36 = bb w 0 (bb w 1 (bb w 2 o1)) L := rw3 w L 36 ⟨by decide, by decide⟩
  show rwF 3 (wcR 3 (lstW w L)) 24 + (rwF 3 (wcR 3 (lstW w L)) 36 + 0) = _
  rw [r24, r36]
  omega
theorem pm_3_1_0 (w : Nat → Nat) (L : Nat) : plM w L 3 1 0 = bb w 2 (bb w 0 (bb w 1 o1)) L + bb w 0 (bb w 2 (bb w 1 o1)) L := by
  rw [pl_mS, show flL (fun s => decide (s.testBit 1 = false ∧ pcN s 12 = 0)) (2 ^ 3) = [0] from by decide +kernel]
  show mS w L 3 1 0 + 0 = _
  rw [mS_3_1_0]
  omega
theorem pc_3_1_0 (w : Nat → Nat) (L : Nat) : plF 3 (wcR 3 (lstW w L)) (4 * 1 + 0) = plM w L 3 1 0 := by
  rw [plF_l (by decide) (by decide), show flL (fun q => decide (isO 3 q ∧ q / 2 ^ (2 * (3 - 1 - 0)) % 4 = 1)) (2 ^ (2 * 3)) = [18, 24] from by decide +kernel, pm_3_1_0]
  have r18 : rwF 3 (wcR 3 (lstW w L)) 18 = bb w 2 (bb w 0 (bb w 1 o1)) L := rw3 w L 18 ⟨by decide, by decide⟩
  have r24 : rwF 3 (wcR 3 (lstW w L)) 24 = bb w 0 (bb w 2 (bb w 1 o1)) L := rw3 w L 24 ⟨by decide, by decide⟩
  show rwF 3 (wcR 3 (lstW w L)) 18 + (rwF 3 (wcR 3 (lstW w L)) 24 + 0) = _
  rw [r18, r24]
  omega
theorem pm_3_1_1 (w : Nat → Nat) (L : Nat) : plM w L 3 1 1 = bb w 2 (bb w 1 (bb w 0 o1)) L + bb w 0 (bb w 1 (bb w 2 o1)) L := by
  rw [pl_mS, show flL (fun s => decide (s.testBit 1 = false ∧ pcN s 12 = 1)) (2 ^ 3) = [1, 4] from by decide +kernel]
  show mS w L 3 1 1 + (mS w L 3 1 4 + 0) = _
  rw [mS_3_1_1, mS_3_1_4]
  omega
theorem pc_3_1_1 (w : Nat → Nat) (L : Nat) : plF 3 (wcR 3 (lstW w L)) (4 * 1 + 1) = plM w L 3 1 1 := by
  rw [plF_l (by decide) (by decide), show flL (fun q => decide (isO 3 q ∧ q / 2 ^ (2 * (3 - 1 - 1)) % 4 = 1)) (2 ^ (2 * 3)) = [6, 36] from by decide +kernel, pm_3_1_1]
  have r6 : rwF 3 (wcR 3 (lstW w L)) 6 = bb w 2 (bb w 1 (bb w 0 o1)) L := rw3 w L 6 ⟨by decide, by decide⟩
  have r36 : rwF 3 (wcR 3 (lstW w L)) 36 = bb w 0 (bb w 1 (bb w 2 o1)) L := rw3 w L 36 ⟨by decide, by decide⟩
  show rwF 3 (wcR 3 (lstW w L)) 6 + (rwF 3 (wcR 3 (lstW w L)) 36 + 0) = _
  rw [r6, r36]
  omega
theorem pm_3_1_2 (w : Nat → Nat) (L : Nat) : plM w L 3 1 2 = bb w 1 (bb w 2 (bb w 0 o1)) L + bb w 1 (bb w 0 (bb w 2 o1)) L := by
  rw [pl_mS, show flL (fun s => decide (s.testBit 1 = false ∧ pcN s 12 = 2)) (2 ^ 3) = [5] from by decide +kernel]
  show mS w L 3 1 5 + 0 = _
  rw [mS_3_1_5]
  omega
theorem pc_3_1_2 (w : Nat → Nat) (L : Nat) : plF 3 (wcR 3 (lstW w L)) (4 * 1 + 2) = plM w L 3 1 2 := by
  rw [plF_l (by decide) (by decide), show flL (fun q => decide (isO 3 q ∧ q / 2 ^ (2 * (3 - 1 - 2)) % 4 = 1)) (2 ^ (2 * 3)) = [9, 33] from by decide +kernel, pm_3_1_2]
  have r9 : rwF 3 (wcR 3 (lstW w L)) 9 = bb w 1 (bb w 2 (bb w 0 o1)) L := rw3 w L 9 ⟨by decide, by decide⟩
  have r33 : rwF 3 (wcR 3 (lstW w L)) 33 = bb w 1 (bb w 0 (bb w 2 o1)) L := rw3 w L 33 ⟨by decide, by decide⟩
  show rwF 3 (wcR 3 (lstW w L)) 9 + (rwF 3 (wcR 3 (lstW w L)) 33 + 0) = _
  rw [r9, r33]
  omega
theorem pm_3_2_0 (w : Nat → Nat) (L : Nat) : plM w L 3 2 0 = bb w 1 (bb w 0 (bb w 2 o1)) L + bb w 0 (bb w 1 (bb w 2 o1)) L := by
  rw [pl_mS, show flL (fun s => decide (s.testBit 2 = false ∧ pcN s 12 = 0)) (2 ^ 3) = [0] from by decide +kernel]
  show mS w L 3 2 0 + 0 = _
  rw [mS_3_2_0]
  omega
theorem pc_3_2_0 (w : Nat → Nat) (L : Nat) : plF 3 (wcR 3 (lstW w L)) (4 * 2 + 0) = plM w L 3 2 0 := by
  rw [plF_l (by decide) (by decide), show flL (fun q => decide (isO 3 q ∧ q / 2 ^ (2 * (3 - 1 - 0)) % 4 = 2)) (2 ^ (2 * 3)) = [33, 36] from by decide +kernel, pm_3_2_0]
  have r33 : rwF 3 (wcR 3 (lstW w L)) 33 = bb w 1 (bb w 0 (bb w 2 o1)) L := rw3 w L 33 ⟨by decide, by decide⟩
  have r36 : rwF 3 (wcR 3 (lstW w L)) 36 = bb w 0 (bb w 1 (bb w 2 o1)) L := rw3 w L 36 ⟨by decide, by decide⟩
  show rwF 3 (wcR 3 (lstW w L)) 33 + (rwF 3 (wcR 3 (lstW w L)) 36 + 0) = _
  rw [r33, r36]
  omega
theorem pm_3_2_1 (w : Nat → Nat) (L : Nat) : plM w L 3 2 1 = bb w 1 (bb w 2 (bb w 0 o1)) L + bb w 0 (bb w 2 (bb w 1 o1)) L := by
  rw [pl_mS, show flL (fun s => decide (s.testBit 2 = false ∧ pcN s 12 = 1)) (2 ^ 3) = [1, 2] from by decide +kernel]
  show mS w L 3 2 1 + (mS w L 3 2 2 + 0) = _
  rw [mS_3_2_1, mS_3_2_2]
  omega
theorem pc_3_2_1 (w : Nat → Nat) (L : Nat) : plF 3 (wcR 3 (lstW w L)) (4 * 2 + 1) = plM w L 3 2 1 := by
  rw [plF_l (by decide) (by decide), show flL (fun q => decide (isO 3 q ∧ q / 2 ^ (2 * (3 - 1 - 1)) % 4 = 2)) (2 ^ (2 * 3)) = [9, 24] from by decide +kernel, pm_3_2_1]
  have r9 : rwF 3 (wcR 3 (lstW w L)) 9 = bb w 1 (bb w 2 (bb w 0 o1)) L := rw3 w L 9 ⟨by decide, by decide⟩
  have r24 : rwF 3 (wcR 3 (lstW w L)) 24 = bb w 0 (bb w 2 (bb w 1 o1)) L := rw3 w L 24 ⟨by decide, by decide⟩
  show rwF 3 (wcR 3 (lstW w L)) 9 + (rwF 3 (wcR 3 (lstW w L)) 24 + 0) = _
  rw [r9, r24]
  omega
theorem pm_3_2_2 (w : Nat → Nat) (L : Nat) : plM w L 3 2 2 = bb w 2 (bb w 1 (bb w 0 o1)) L + bb w 2 (bb w 0 (bb w 1 o1)) L := by
  rw [pl_mS, show flL (fun s => decide (s.testBit 2 = false ∧ pcN s 12 = 2)) (2 ^ 3) = [3] from by decide +kernel]
  show mS w L 3 2 3 + 0 = _
  rw [mS_3_2_3]
  omega
theorem pc_3_2_2 (w : Nat → Nat) (L : Nat) : plF 3 (wcR 3 (lstW w L)) (4 * 2 + 2) = plM w L 3 2 2 := by
  rw [plF_l (by decide) (by decide), show flL (fun q => decide (isO 3 q ∧ q / 2 ^ (2 * (3 - 1 - 2)) % 4 = 2)) (2 ^ (2 * 3)) = [6, 18] from by decide +kernel, pm_3_2_2]
  have r6 : rwF 3 (wcR 3 (lstW w L)) 6 = bb w 2 (bb w 1 (bb w 0 o1)) L := rw3 w L 6 ⟨by decide, by decide⟩
  have r18 : rwF 3 (wcR 3 (lstW w L)) 18 = bb w 2 (bb w 0 (bb w 1 o1)) L := rw3 w L 18 ⟨by decide, by decide⟩
  show rwF 3 (wcR 3 (lstW w L)) 6 + (rwF 3 (wcR 3 (lstW w L)) 18 + 0) = _
  rw [r6, r18]
  omega
def tot3 (w : Nat → Nat) (L : Nat) : Nat := bb w 2 (bb w 1 (bb w 0 o1)) L + bb w 1 (bb w 2 (bb w 0 o1)) L + bb w 2 (bb w 0 (bb w 1 o1)) L + bb w 0 (bb w 2 (bb w 1 o1)) L + bb w 1 (bb w 0 (bb w 2 o1)) L + bb w 0 (bb w 1 (bb w 2 o1)) L
theorem sums3 (w : Nat → Nat) (L : Nat) : plM w L 3 0 0 + plM w L 3 0 1 + plM w L 3 0 2 = tot3 w L ∧ plM w L 3 1 0 + plM w L 3 1 1 + plM w L 3 1 2 = tot3 w L ∧ plM w L 3 2 0 + plM w L 3 2 1 + plM w L 3 2 2 = tot3 w L ∧ plM w L 3 0 0 + plM w L 3 1 0 + plM w L 3 2 0 = tot3 w L ∧ plM w L 3 0 1 + plM w L 3 1 1 + plM w L 3 2 1 = tot3 w L ∧ plM w L 3 0 2 + plM w L 3 1 2 + plM w L 3 2 2 = tot3 w L := by
  unfold tot3
  rw [pm_3_0_0, pm_3_0_1, pm_3_0_2, pm_3_1_0, pm_3_1_1, pm_3_1_2, pm_3_2_0, pm_3_2_1, pm_3_2_2]
  refine ⟨?_, ?_, ?_, ?_, ?_, ?_⟩ <;> omega
theorem pm_4_0_0 (w : Nat → Nat) (L : Nat) : plM w L 4 0 0 = bb w 3 (bb w 2 (bb w 1 (bb w 0 o1))) L + bb w 2 (bb w 3 (bb w 1 (bb w 0 o1))) L + bb w 3 (bb w 1 (bb w 2 (bb w 0 o1))) L + bb w 1 (bb w 3 (bb w 2 (bb w 0 o1))) L + bb w 2 (bb w 1 (bb w 3 (bb w 0 o1))) L + bb w 1 (bb w 2 (bb w 3 (bb w 0 o1))) L := by
  rw [pl_mS, show flL (fun s => decide (s.testBit 0 = false ∧ pcN s 12 = 0)) (2 ^ 4) = [0] from by decide +kernel]
  show mS w L 4 0 0 + 0 = _
  rw [mS_4_0_0]
  omega
theorem pc_4_0_0 (w : Nat → Nat) (L : Nat) : plF 4 (wcR 4 (lstW w L)) (4 * 0 + 0) = plM w L 4 0 0 := by
  rw [plF_l (by decide) (by decide), show flL (fun q => decide (isO 4 q ∧ q / 2 ^ (2 * (4 - 1 - 0)) % 4 = 0)) (2 ^ (2 * 4)) = [27, 30, 39, 45, 54, 57] from by decide +kernel, pm_4_0_0]
  have r27 : rwF 4 (wcR 4 (lstW w L)) 27 = bb w 3 (bb w 2 (bb w 1 (bb w 0 o1))) L := rw4 w L 27 ⟨by decide, by decide⟩
  have r30 : rwF 4 (wcR 4 (lstW w L)) 30 = bb w 2 (bb w 3 (bb w 1 (bb w 0 o1))) L := rw4 w L 30 ⟨by decide, by decide⟩
  have r39 : rwF 4 (wcR 4 (lstW w L)) 39 = bb w 3 (bb w 1 (bb w 2 (bb w 0 o1))) L := rw4 w L 39 ⟨by decide, by decide⟩
  have r45 : rwF 4 (wcR 4 (lstW w L)) 45 = bb w 1 (bb w 3 (bb w 2 (bb w 0 o1))) L := rw4 w L 45 ⟨by decide, by decide⟩
  have r54 : rwF 4 (wcR 4 (lstW w L)) 54 = bb w 2 (bb w 1 (bb w 3 (bb w 0 o1))) L := rw4 w L 54 ⟨by decide, by decide⟩
  have r57 : rwF 4 (wcR 4 (lstW w L)) 57 = bb w 1 (bb w 2 (bb w 3 (bb w 0 o1))) L := rw4 w L 57 ⟨by decide, by decide⟩
  show rwF 4 (wcR 4 (lstW w L)) 27 + (rwF 4 (wcR 4 (lstW w L)) 30 + (rwF 4 (wcR 4 (lstW w L)) 39 + (rwF 4 (wcR 4 (lstW w L)) 45 + (rwF 4 (wcR 4 (lstW w L)) 54 + (rwF 4 (wcR 4 (lstW w L)) 57 + 0))))) = _
  rw [r27, r30, r39, r45, r54, r57]
  omega
theorem pm_4_0_1 (w : Nat → Nat) (L : Nat) : plM w L 4 0 1 = bb w 3 (bb w 2 (bb w 0 (bb w 1 o1))) L + bb w 2 (bb w 3 (bb w 0 (bb w 1 o1))) L + bb w 3 (bb w 1 (bb w 0 (bb w 2 o1))) L + bb w 1 (bb w 3 (bb w 0 (bb w 2 o1))) L + bb w 2 (bb w 1 (bb w 0 (bb w 3 o1))) L + bb w 1 (bb w 2 (bb w 0 (bb w 3 o1))) L := by
  rw [pl_mS, show flL (fun s => decide (s.testBit 0 = false ∧ pcN s 12 = 1)) (2 ^ 4) = [2, 4, 8] from by decide +kernel]
  show mS w L 4 0 2 + (mS w L 4 0 4 + (mS w L 4 0 8 + 0)) = _
  rw [mS_4_0_2, mS_4_0_4, mS_4_0_8]
  omega
theorem pc_4_0_1 (w : Nat → Nat) (L : Nat) : plF 4 (wcR 4 (lstW w L)) (4 * 0 + 1) = plM w L 4 0 1 := by
  rw [plF_l (by decide) (by decide), show flL (fun q => decide (isO 4 q ∧ q / 2 ^ (2 * (4 - 1 - 1)) % 4 = 0)) (2 ^ (2 * 4)) = [75, 78, 135, 141, 198, 201] from by decide +kernel, pm_4_0_1]
  have r75 : rwF 4 (wcR 4 (lstW w L)) 75 = bb w 3 (bb w 2 (bb w 0 (bb w 1 o1))) L := rw4 w L 75 ⟨by decide, by decide⟩
  have r78 : rwF 4 (wcR 4 (lstW w L)) 78 = bb w 2 (bb w 3 (bb w 0 (bb w 1 o1))) L := rw4 w L 78 ⟨by decide, by decide⟩
  have r135 : rwF 4 (wcR 4 (lstW w L)) 135 = bb w 3 (bb w 1 (bb w 0 (bb w 2 o1))) L := rw4 w L 135 ⟨by decide, by decide⟩
  have r141 : rwF 4 (wcR 4 (lstW w L)) 141 = bb w 1 (bb w 3 (bb w 0 (bb w 2 o1))) L := rw4 w L 141 ⟨by decide, by decide⟩
  have r198 : rwF 4 (wcR 4 (lstW w L)) 198 = bb w 2 (bb w 1 (bb w 0 (bb w 3 o1))) L := rw4 w L 198 ⟨by decide, by decide⟩
  have r201 : rwF 4 (wcR 4 (lstW w L)) 201 = bb w 1 (bb w 2 (bb w 0 (bb w 3 o1))) L := rw4 w L 201 ⟨by decide, by decide⟩
  show rwF 4 (wcR 4 (lstW w L)) 75 + (rwF 4 (wcR 4 (lstW w L)) 78 + (rwF 4 (wcR 4 (lstW w L)) 135 + (rwF 4 (wcR 4 (lstW w L)) 141 + (rwF 4 (wcR 4 (lstW w L)) 198 + (rwF 4 (wcR 4 (lstW w L)) 201 + 0))))) = _
  rw [r75, r78, r135, r141, r198, r201]
  omega
theorem pm_4_0_2 (w : Nat → Nat) (L : Nat) : plM w L 4 0 2 = bb w 3 (bb w 0 (bb w 2 (bb w 1 o1))) L + bb w 2 (bb w 0 (bb w 3 (bb w 1 o1))) L + bb w 3 (bb w 0 (bb w 1 (bb w 2 o1))) L + bb w 1 (bb w 0 (bb w 3 (bb w 2 o1))) L + bb w 2 (bb w 0 (bb w 1 (bb w 3 o1))) L + bb w 1 (bb w 0 (bb w 2 (bb w 3 o1))) L := by
  rw [pl_mS, show flL (fun s => decide (s.testBit 0 = false ∧ pcN s 12 = 2)) (2 ^ 4) = [6, 10, 12] from by decide +kernel]
  show mS w L 4 0 6 + (mS w L 4 0 10 + (mS w L 4 0 12 + 0)) = _
  rw [mS_4_0_6, mS_4_0_10, mS_4_0_12]
  omega
theorem pc_4_0_2 (w : Nat → Nat) (L : Nat) : plF 4 (wcR 4 (lstW w L)) (4 * 0 + 2) = plM w L 4 0 2 := by
  rw [plF_l (by decide) (by decide), show flL (fun q => decide (isO 4 q ∧ q / 2 ^ (2 * (4 - 1 - 2)) % 4 = 0)) (2 ^ (2 * 4)) = [99, 114, 147, 177, 210, 225] from by decide +kernel, pm_4_0_2]
  have r99 : rwF 4 (wcR 4 (lstW w L)) 99 = bb w 3 (bb w 0 (bb w 2 (bb w 1 o1))) L := rw4 w L 99 ⟨by decide, by decide⟩
  have r114 : rwF 4 (wcR 4 (lstW w L)) 114 = bb w 2 (bb w 0 (bb w 3 (bb w 1 o1))) L := rw4 w L 114 ⟨by decide, by decide⟩
  have r147 : rwF 4 (wcR 4 (lstW w L)) 147 = bb w 3 (bb w 0 (bb w 1 (bb w 2 o1))) L := rw4 w L 147 ⟨by decide, by decide⟩
  have r177 : rwF 4 (wcR 4 (lstW w L)) 177 = bb w 1 (bb w 0 (bb w 3 (bb w 2 o1))) L := rw4 w L 177 ⟨by decide, by decide⟩
  have r210 : rwF 4 (wcR 4 (lstW w L)) 210 = bb w 2 (bb w 0 (bb w 1 (bb w 3 o1))) L := rw4 w L 210 ⟨by decide, by decide⟩
  have r225 : rwF 4 (wcR 4 (lstW w L)) 225 = bb w 1 (bb w 0 (bb w 2 (bb w 3 o1))) L := rw4 w L 225 ⟨by decide, by decide⟩
  show rwF 4 (wcR 4 (lstW w L)) 99 + (rwF 4 (wcR 4 (lstW w L)) 114 + (rwF 4 (wcR 4 (lstW w L)) 147 + (rwF 4 (wcR 4 (lstW w L)) 177 + (rwF 4 (wcR 4 (lstW w L)) 210 + (rwF 4 (wcR 4 (lstW w L)) 225 + 0))))) = _
  rw [r99, r114, r147, r177, r210, r225]
  omega
theorem pm_4_0_3 (w : Nat → Nat) (L : Nat) : plM w L 4 0 3 = bb w 0 (bb w 3 (bb w 2 (bb w 1 o1))) L + bb w 0 (bb w 2 (bb w 3 (bb w 1 o1))) L + bb w 0 (bb w 3 (bb w 1 (bb w 2 o1))) L + bb w 0 (bb w 1 (bb w 3 (bb w 2 o1))) L + bb w 0 (bb w 2 (bb w 1 (bb w 3 o1))) L + bb w 0 (bb w 1 (bb w 2 (bb w 3 o1))) L := by
  rw [pl_mS, show flL (fun s => decide (s.testBit 0 = false ∧ pcN s 12 = 3)) (2 ^ 4) = [14] from by decide +kernel]
  show mS w L 4 0 14 + 0 = _
  rw [mS_4_0_14]
  omega
theorem pc_4_0_3 (w : Nat → Nat) (L : Nat) : plF 4 (wcR 4 (lstW w L)) (4 * 0 + 3) = plM w L 4 0 3 := by
  rw [plF_l (by decide) (by decide), show flL (fun q => decide (isO 4 q ∧ q / 2 ^ (2 * (4 - 1 - 3)) % 4 = 0)) (2 ^ (2 * 4)) = [108, 120, 156, 180, 216, 228] from by decide +kernel, pm_4_0_3]
  have r108 : rwF 4 (wcR 4 (lstW w L)) 108 = bb w 0 (bb w 3 (bb w 2 (bb w 1 o1))) L := rw4 w L 108 ⟨by decide, by decide⟩
  have r120 : rwF 4 (wcR 4 (lstW w L)) 120 = bb w 0 (bb w 2 (bb w 3 (bb w 1 o1))) L := rw4 w L 120 ⟨by decide, by decide⟩
  have r156 : rwF 4 (wcR 4 (lstW w L)) 156 = bb w 0 (bb w 3 (bb w 1 (bb w 2 o1))) L := rw4 w L 156 ⟨by decide, by decide⟩
  have r180 : rwF 4 (wcR 4 (lstW w L)) 180 = bb w 0 (bb w 1 (bb w 3 (bb w 2 o1))) L := rw4 w L 180 ⟨by decide, by decide⟩
  have r216 : rwF 4 (wcR 4 (lstW w L)) 216 = bb w 0 (bb w 2 (bb w 1 (bb w 3 o1))) L := rw4 w L 216 ⟨by decide, by decide⟩
  have r228 : rwF 4 (wcR 4 (lstW w L)) 228 = bb w 0 (bb w 1 (bb w 2 (bb w 3 o1))) L := rw4 w L 228 ⟨by decide, by decide⟩
  show rwF 4 (wcR 4 (lstW w L)) 108 + (rwF 4 (wcR 4 (lstW w L)) 120 + (rwF 4 (wcR 4 (lstW w L)) 156 + (rwF 4 (wcR 4 (lstW w L)) 180 + (rwF 4 (wcR 4 (lstW w L)) 216 + (rwF 4 (wcR 4 (lstW w L)) 228 + 0))))) = _
  rw [r108, r120, r156, r180, r216, r228]
  omega
theorem pm_4_1_0 (w : Nat → Nat) (L : Nat) : plM w L 4 1 0 = bb w 3 (bb w 2 (bb w 0 (bb w 1 o1))) L + bb w 2 (bb w 3 (bb w 0 (bb w 1 o1))) L + bb w 3 (bb w 0 (bb w 2 (bb w 1 o1))) L + bb w 0 (bb w 3 (bb w 2 (bb w 1 o1))) L + bb w 2 (bb w 0 (bb w 3 (bb w 1 o1))) L + bb w 0 (bb w 2 (bb w 3 (bb w 1 o1))) L := by
  rw [pl_mS, show flL (fun s => decide (s.testBit 1 = false ∧ pcN s 12 = 0)) (2 ^ 4) = [0] from by decide +kernel]
  show mS w L 4 1 0 + 0 = _
  rw [mS_4_1_0]
  omega
theorem pc_4_1_0 (w : Nat → Nat) (L : Nat) : plF 4 (wcR 4 (lstW w L)) (4 * 1 + 0) = plM w L 4 1 0 := by
  rw [plF_l (by decide) (by decide), show flL (fun q => decide (isO 4 q ∧ q / 2 ^ (2 * (4 - 1 - 0)) % 4 = 1)) (2 ^ (2 * 4)) = [75, 78, 99, 108, 114, 120] from by decide +kernel, pm_4_1_0]
  have r75 : rwF 4 (wcR 4 (lstW w L)) 75 = bb w 3 (bb w 2 (bb w 0 (bb w 1 o1))) L := rw4 w L 75 ⟨by decide, by decide⟩
  have r78 : rwF 4 (wcR 4 (lstW w L)) 78 = bb w 2 (bb w 3 (bb w 0 (bb w 1 o1))) L := rw4 w L 78 ⟨by decide, by decide⟩
  have r99 : rwF 4 (wcR 4 (lstW w L)) 99 = bb w 3 (bb w 0 (bb w 2 (bb w 1 o1))) L := rw4 w L 99 ⟨by decide, by decide⟩
  have r108 : rwF 4 (wcR 4 (lstW w L)) 108 = bb w 0 (bb w 3 (bb w 2 (bb w 1 o1))) L := rw4 w L 108 ⟨by decide, by decide⟩
  have r114 : rwF 4 (wcR 4 (lstW w L)) 114 = bb w 2 (bb w 0 (bb w 3 (bb w 1 o1))) L := rw4 w L 114 ⟨by decide, by decide⟩
  have r120 : rwF 4 (wcR 4 (lstW w L)) 120 = bb w 0 (bb w 2 (bb w 3 (bb w 1 o1))) L := rw4 w L 120 ⟨by decide, by decide⟩
  show rwF 4 (wcR 4 (lstW w L)) 75 + (rwF 4 (wcR 4 (lstW w L)) 78 + (rwF 4 (wcR 4 (lstW w L)) 99 + (rwF 4 (wcR 4 (lstW w L)) 108 + (rwF 4 (wcR 4 (lstW w L)) 114 + (rwF 4 (wcR 4 (lstW w L)) 120 + 0))))) = _
  rw [r75, r78, r99, r108, r114, r120]
  omega
theorem pm_4_1_1 (w : Nat → Nat) (L : Nat) : plM w L 4 1 1 = bb w 3 (bb w 2 (bb w 1 (bb w 0 o1))) L + bb w 2 (bb w 3 (bb w 1 (bb w 0 o1))) L + bb w 3 (bb w 0 (bb w 1 (bb w 2 o1))) L + bb w 0 (bb w 3 (bb w 1 (bb w 2 o1))) L + bb w 2 (bb w 0 (bb w 1 (bb w 3 o1))) L + bb w 0 (bb w 2 (bb w 1 (bb w 3 o1))) L := by
  rw [pl_mS, show flL (fun s => decide (s.testBit 1 = false ∧ pcN s 12 = 1)) (2 ^ 4) = [1, 4, 8] from by decide +kernel]
  show mS w L 4 1 1 + (mS w L 4 1 4 + (mS w L 4 1 8 + 0)) = _
  rw [mS_4_1_1, mS_4_1_4, mS_4_1_8]
  omega
theorem pc_4_1_1 (w : Nat → Nat) (L : Nat) : plF 4 (wcR 4 (lstW w L)) (4 * 1 + 1) = plM w L 4 1 1 := by
  rw [plF_l (by decide) (by decide), show flL (fun q => decide (isO 4 q ∧ q / 2 ^ (2 * (4 - 1 - 1)) % 4 = 1)) (2 ^ (2 * 4)) = [27, 30, 147, 156, 210, 216] from by decide +kernel, pm_4_1_1]
  have r27 : rwF 4 (wcR 4 (lstW w L)) 27 = bb w 3 (bb w 2 (bb w 1 (bb w 0 o1))) L := rw4 w L 27 ⟨by decide, by decide⟩
  have r30 : rwF 4 (wcR 4 (lstW w L)) 30 = bb w 2 (bb w 3 (bb w 1 (bb w 0 o1))) L := rw4 w L 30 ⟨by decide, by decide⟩
  have r147 : rwF 4 (wcR 4 (lstW w L)) 147 = bb w 3 (bb w 0 (bb w 1 (bb w 2 o1))) L := rw4 w L 147 ⟨by decide, by decide⟩
  have r156 : rwF 4 (wcR 4 (lstW w L)) 156 = bb w 0 (bb w 3 (bb w 1 (bb w 2 o1))) L := rw4 w L 156 ⟨by decide, by decide⟩
  have r210 : rwF 4 (wcR 4 (lstW w L)) 210 = bb w 2 (bb w 0 (bb w 1 (bb w 3 o1))) L := rw4 w L 210 ⟨by decide, by decide⟩
  have r216 : rwF 4 (wcR 4 (lstW w L)) 216 = bb w 0 (bb w 2 (bb w 1 (bb w 3 o1))) L := rw4 w L 216 ⟨by decide, by decide⟩
  show rwF 4 (wcR 4 (lstW w L)) 27 + (rwF 4 (wcR 4 (lstW w L)) 30 + (rwF 4 (wcR 4 (lstW w L)) 147 + (rwF 4 (wcR 4 (lstW w L)) 156 + (rwF 4 (wcR 4 (lstW w L)) 210 + (rwF 4 (wcR 4 (lstW w L)) 216 + 0))))) = _
  rw [r27, r30, r147, r156, r210, r216]
  omega
theorem pm_4_1_2 (w : Nat → Nat) (L : Nat) : plM w L 4 1 2 = bb w 3 (bb w 1 (bb w 2 (bb w 0 o1))) L + bb w 2 (bb w 1 (bb w 3 (bb w 0 o1))) L + bb w 3 (bb w 1 (bb w 0 (bb w 2 o1))) L + bb w 0 (bb w 1 (bb w 3 (bb w 2 o1))) L + bb w 2 (bb w 1 (bb w 0 (bb w 3 o1))) L + bb w 0 (bb w 1 (bb w 2 (bb w 3 o1))) L := by
  rw [pl_mS, show flL (fun s => decide (s.testBit 1 = false ∧ pcN s 12 = 2)) (2 ^ 4) = [5, 9, 12] from by decide +kernel]
  show mS w L 4 1 5 + (mS w L 4 1 9 + (mS w L 4 1 12 + 0)) = _
  rw [mS_4_1_5, mS_4_1_9, mS_4_1_12]
  omega
theorem pc_4_1_2 (w : Nat → Nat) (L : Nat) : plF 4 (wcR 4 (lstW w L)) (4 * 1 + 2) = plM w L 4 1 2 := by
  rw [plF_l (by decide) (by decide), show flL (fun q => decide (isO 4 q ∧ q / 2 ^ (2 * (4 - 1 - 2)) % 4 = 1)) (2 ^ (2 * 4)) = [39, 54, 135, 180, 198, 228] from by decide +kernel, pm_4_1_2]
  have r39 : rwF 4 (wcR 4 (lstW w L)) 39 = bb w 3 (bb w 1 (bb w 2 (bb w 0 o1))) L := rw4 w L 39 ⟨by decide, by decide⟩
  have r54 : rwF 4 (wcR 4 (lstW w L)) 54 = bb w 2 (bb w 1 (bb w 3 (bb w 0 o1))) L := rw4 w L 54 ⟨by decide, by decide⟩
  have r135 : rwF 4 (wcR 4 (lstW w L)) 135 = bb w 3 (bb w 1 (bb w 0 (bb w 2 o1))) L := rw4 w L 135 ⟨by decide, by decide⟩
  have r180 : rwF 4 (wcR 4 (lstW w L)) 180 = bb w 0 (bb w 1 (bb w 3 (bb w 2 o1))) L := rw4 w L 180 ⟨by decide, by decide⟩
  have r198 : rwF 4 (wcR 4 (lstW w L)) 198 = bb w 2 (bb w 1 (bb w 0 (bb w 3 o1))) L := rw4 w L 198 ⟨by decide, by decide⟩
  have r228 : rwF 4 (wcR 4 (lstW w L)) 228 = bb w 0 (bb w 1 (bb w 2 (bb w 3 o1))) L := rw4 w L 228 ⟨by decide, by decide⟩
  show rwF 4 (wcR 4 (lstW w L)) 39 + (rwF 4 (wcR 4 (lstW w L)) 54 + (rwF 4 (wcR 4 (lstW w L)) 135 + (rwF 4 (wcR 4 (lstW w L)) 180 + (rwF 4 (wcR 4 (lstW w L)) 198 + (rwF 4 (wcR 4 (lstW w L)) 228 + 0))))) = _
  rw [r39, r54, r135, r180, r198, r228]
  omega
theorem pm_4_1_3 (w : Nat → Nat) (L : Nat) : plM w L 4 1 3 = bb w 1 (bb w 3 (bb w 2 (bb w 0 o1))) L + bb w 1 (bb w 2 (bb w 3 (bb w 0 o1))) L + bb w 1 (bb w 3 (bb w 0 (bb w 2 o1))) L + bb w 1 (bb w 0 (bb w 3 (bb w 2 o1))) L + bb w 1 (bb w 2 (bb w 0 (bb w 3 o1))) L + bb w 1 (bb w 0 (bb w 2 (bb w 3 o1))) L := by
  rw [pl_mS, show flL (fun s => decide (s.testBit 1 = false ∧ pcN s 12 = 3)) (2 ^ 4) = [13] from by decide +kernel]
  show mS w L 4 1 13 + 0 = _
  rw [mS_4_1_13]
  omega
theorem pc_4_1_3 (w : Nat → Nat) (L : Nat) : plF 4 (wcR 4 (lstW w L)) (4 * 1 + 3) = plM w L 4 1 3 := by
  rw [plF_l (by decide) (by decide), show flL (fun q => decide (isO 4 q ∧ q / 2 ^ (2 * (4 - 1 - 3)) % 4 = 1)) (2 ^ (2 * 4)) = [45, 57, 141, 177, 201, 225] from by decide +kernel, pm_4_1_3]
  have r45 : rwF 4 (wcR 4 (lstW w L)) 45 = bb w 1 (bb w 3 (bb w 2 (bb w 0 o1))) L := rw4 w L 45 ⟨by decide, by decide⟩
  have r57 : rwF 4 (wcR 4 (lstW w L)) 57 = bb w 1 (bb w 2 (bb w 3 (bb w 0 o1))) L := rw4 w L 57 ⟨by decide, by decide⟩
  have r141 : rwF 4 (wcR 4 (lstW w L)) 141 = bb w 1 (bb w 3 (bb w 0 (bb w 2 o1))) L := rw4 w L 141 ⟨by decide, by decide⟩
  have r177 : rwF 4 (wcR 4 (lstW w L)) 177 = bb w 1 (bb w 0 (bb w 3 (bb w 2 o1))) L := rw4 w L 177 ⟨by decide, by decide⟩
  have r201 : rwF 4 (wcR 4 (lstW w L)) 201 = bb w 1 (bb w 2 (bb w 0 (bb w 3 o1))) L := rw4 w L 201 ⟨by decide, by decide⟩
  have r225 : rwF 4 (wcR 4 (lstW w L)) 225 = bb w 1 (bb w 0 (bb w 2 (bb w 3 o1))) L := rw4 w L 225 ⟨by decide, by decide⟩
  show rwF 4 (wcR 4 (lstW w L)) 45 + (rwF 4 (wcR 4 (lstW w L)) 57 + (rwF 4 (wcR 4 (lstW w L)) 141 + (rwF 4 (wcR 4 (lstW w L)) 177 + (rwF 4 (wcR 4 (lstW w L)) 201 + (rwF 4 (wcR 4 (lstW w L)) 225 + 0))))) = _
  rw [r45, r57, r141, r177, r201, r225]
  omega
theorem pm_4_2_0 (w : Nat → Nat) (L : Nat) : plM w L 4 2 0 = bb w 3 (bb w 1 (bb w 0 (bb w 2 o1))) L + bb w 1 (bb w 3 (bb w 0 (bb w 2 o1))) L + bb w 3 (bb w 0 (bb w 1 (bb w 2 o1))) L + bb w 0 (bb w 3 (bb w 1 (bb w 2 o1))) L + bb w 1 (bb w 0 (bb w 3 (bb w 2 o1))) L + bb w 0 (bb w 1 (bb w 3 (bb w 2 o1))) L := by
  rw [pl_mS, show flL (fun s => decide (s.testBit 2 = false ∧ pcN s 12 = 0)) (2 ^ 4) = [0] from by decide +kernel]
  show mS w L 4 2 0 + 0 = _
  rw [mS_4_2_0]
  omega
theorem pc_4_2_0 (w : Nat → Nat) (L : Nat) : plF 4 (wcR 4 (lstW w L)) (4 * 2 + 0) = plM w L 4 2 0 := by
  rw [plF_l (by decide) (by decide), show flL (fun q => decide (isO 4 q ∧ q / 2 ^ (2 * (4 - 1 - 0)) % 4 = 2)) (2 ^ (2 * 4)) = [135, 141, 147, 156, 177, 180] from by decide +kernel, pm_4_2_0]
  have r135 : rwF 4 (wcR 4 (lstW w L)) 135 = bb w 3 (bb w 1 (bb w 0 (bb w 2 o1))) L := rw4 w L 135 ⟨by decide, by decide⟩
  have r141 : rwF 4 (wcR 4 (lstW w L)) 141 = bb w 1 (bb w 3 (bb w 0 (bb w 2 o1))) L := rw4 w L 141 ⟨by decide, by decide⟩
  have r147 : rwF 4 (wcR 4 (lstW w L)) 147 = bb w 3 (bb w 0 (bb w 1 (bb w 2 o1))) L := rw4 w L 147 ⟨by decide, by decide⟩
  have r156 : rwF 4 (wcR 4 (lstW w L)) 156 = bb w 0 (bb w 3 (bb w 1 (bb w 2 o1))) L := rw4 w L 156 ⟨by decide, by decide⟩
  have r177 : rwF 4 (wcR 4 (lstW w L)) 177 = bb w 1 (bb w 0 (bb w 3 (bb w 2 o1))) L := rw4 w L 177 ⟨by decide, by decide⟩
  have r180 : rwF 4 (wcR 4 (lstW w L)) 180 = bb w 0 (bb w 1 (bb w 3 (bb w 2 o1))) L := rw4 w L 180 ⟨by decide, by decide⟩
  show rwF 4 (wcR 4 (lstW w L)) 135 + (rwF 4 (wcR 4 (lstW w L)) 141 + (rwF 4 (wcR 4 (lstW w L)) 147 + (rwF 4 (wcR 4 (lstW w L)) 156 + (rwF 4 (wcR 4 (lstW w L)) 177 + (rwF 4 (wcR 4 (lstW w L)) 180 + 0))))) = _
  rw [r135, r141, r147, r156, r177, r180]
  omega
theorem pm_4_2_1 (w : Nat → Nat) (L : Nat) : plM w L 4 2 1 = bb w 3 (bb w 1 (bb w 2 (bb w 0 o1))) L + bb w 1 (bb w 3 (bb w 2 (bb w 0 o1))) L + bb w 3 (bb w 0 (bb w 2 (bb w 1 o1))) L + bb w 0 (bb w 3 (bb w 2 (bb w 1 o1))) L + bb w 1 (bb w 0 (bb w 2 (bb w 3 o1))) L + bb w 0 (bb w 1 (bb w 2 (bb w 3 o1))) L := by
  rw [pl_mS, show flL (fun s => decide (s.testBit 2 = false ∧ pcN s 12 = 1)) (2 ^ 4) = [1, 2, 8] from by decide +kernel]
  show mS w L 4 2 1 + (mS w L 4 2 2 + (mS w L 4 2 8 + 0)) = _
  rw [mS_4_2_1, mS_4_2_2, mS_4_2_8]
  omega
theorem pc_4_2_1 (w : Nat → Nat) (L : Nat) : plF 4 (wcR 4 (lstW w L)) (4 * 2 + 1) = plM w L 4 2 1 := by
  rw [plF_l (by decide) (by decide), show flL (fun q => decide (isO 4 q ∧ q / 2 ^ (2 * (4 - 1 - 1)) % 4 = 2)) (2 ^ (2 * 4)) = [39, 45, 99, 108, 225, 228] from by decide +kernel, pm_4_2_1]
  have r39 : rwF 4 (wcR 4 (lstW w L)) 39 = bb w 3 (bb w 1 (bb w 2 (bb w 0 o1))) L := rw4 w L 39 ⟨by decide, by decide⟩
  have r45 : rwF 4 (wcR 4 (lstW w L)) 45 = bb w 1 (bb w 3 (bb w 2 (bb w 0 o1))) L := rw4 w L 45 ⟨by decide, by decide⟩
  have r99 : rwF 4 (wcR 4 (lstW w L)) 99 = bb w 3 (bb w 0 (bb w 2 (bb w 1 o1))) L := rw4 w L 99 ⟨by decide, by decide⟩
  have r108 : rwF 4 (wcR 4 (lstW w L)) 108 = bb w 0 (bb w 3 (bb w 2 (bb w 1 o1))) L := rw4 w L 108 ⟨by decide, by decide⟩
  have r225 : rwF 4 (wcR 4 (lstW w L)) 225 = bb w 1 (bb w 0 (bb w 2 (bb w 3 o1))) L := rw4 w L 225 ⟨by decide, by decide⟩
  have r228 : rwF 4 (wcR 4 (lstW w L)) 228 = bb w 0 (bb w 1 (bb w 2 (bb w 3 o1))) L := rw4 w L 228 ⟨by decide, by decide⟩
  show rwF 4 (wcR 4 (lstW w L)) 39 + (rwF 4 (wcR 4 (lstW w L)) 45 + (rwF 4 (wcR 4 (lstW w L)) 99 + (rwF 4 (wcR 4 (lstW w L)) 108 + (rwF 4 (wcR 4 (lstW w L)) 225 + (rwF 4 (wcR 4 (lstW w L)) 228 + 0))))) = _
  rw [r39, r45, r99, r108, r225, r228]
  omega
theorem pm_4_2_2 (w : Nat → Nat) (L : Nat) : plM w L 4 2 2 = bb w 3 (bb w 2 (bb w 1 (bb w 0 o1))) L + bb w 1 (bb w 2 (bb w 3 (bb w 0 o1))) L + bb w 3 (bb w 2 (bb w 0 (bb w 1 o1))) L + bb w 0 (bb w 2 (bb w 3 (bb w 1 o1))) L + bb w 1 (bb w 2 (bb w 0 (bb w 3 o1))) L + bb w 0 (bb w 2 (bb w 1 (bb w 3 o1))) L := by
  rw [pl_mS, show flL (fun s => decide (s.testBit 2 = false ∧ pcN s 12 = 2)) (2 ^ 4) = [3, 9, 10] from by decide +kernel]
  show mS w L 4 2 3 + (mS w L 4 2 9 + (mS w L 4 2 10 + 0)) = _
  rw [mS_4_2_3, mS_4_2_9, mS_4_2_10]
  omega
theorem pc_4_2_2 (w : Nat → Nat) (L : Nat) : plF 4 (wcR 4 (lstW w L)) (4 * 2 + 2) = plM w L 4 2 2 := by
  rw [plF_l (by decide) (by decide), show flL (fun q => decide (isO 4 q ∧ q / 2 ^ (2 * (4 - 1 - 2)) % 4 = 2)) (2 ^ (2 * 4)) = [27, 57, 75, 120, 201, 216] from by decide +kernel, pm_4_2_2]
  have r27 : rwF 4 (wcR 4 (lstW w L)) 27 = bb w 3 (bb w 2 (bb w 1 (bb w 0 o1))) L := rw4 w L 27 ⟨by decide, by decide⟩
  have r57 : rwF 4 (wcR 4 (lstW w L)) 57 = bb w 1 (bb w 2 (bb w 3 (bb w 0 o1))) L := rw4 w L 57 ⟨by decide, by decide⟩
  have r75 : rwF 4 (wcR 4 (lstW w L)) 75 = bb w 3 (bb w 2 (bb w 0 (bb w 1 o1))) L := rw4 w L 75 ⟨by decide, by decide⟩
  have r120 : rwF 4 (wcR 4 (lstW w L)) 120 = bb w 0 (bb w 2 (bb w 3 (bb w 1 o1))) L := rw4 w L 120 ⟨by decide, by decide⟩
  have r201 : rwF 4 (wcR 4 (lstW w L)) 201 = bb w 1 (bb w 2 (bb w 0 (bb w 3 o1))) L := rw4 w L 201 ⟨by decide, by decide⟩
  have r216 : rwF 4 (wcR 4 (lstW w L)) 216 = bb w 0 (bb w 2 (bb w 1 (bb w 3 o1))) L := rw4 w L 216 ⟨by decide, by decide⟩
  show rwF 4 (wcR 4 (lstW w L)) 27 + (rwF 4 (wcR 4 (lstW w L)) 57 + (rwF 4 (wcR 4 (lstW w L)) 75 + (rwF 4 (wcR 4 (lstW w L)) 120 + (rwF 4 (wcR 4 (lstW w L)) 201 + (rwF 4 (wcR 4 (lstW w L)) 216 + 0))))) = _
  rw [r27, r57, r75, r120, r201, r216]
  omega
theorem pm_4_2_3 (w : Nat → Nat) (L : Nat) : plM w L 4 2 3 = bb w 2 (bb w 3 (bb w 1 (bb w 0 o1))) L + bb w 2 (bb w 1 (bb w 3 (bb w 0 o1))) L + bb w 2 (bb w 3 (bb w 0 (bb w 1 o1))) L + bb w 2 (bb w 0 (bb w 3 (bb w 1 o1))) L + bb w 2 (bb w 1 (bb w 0 (bb w 3 o1))) L + bb w 2 (bb w 0 (bb w 1 (bb w 3 o1))) L := by
  rw [pl_mS, show flL (fun s => decide (s.testBit 2 = false ∧ pcN s 12 = 3)) (2 ^ 4) = [11] from by decide +kernel]
  show mS w L 4 2 11 + 0 = _
  rw [mS_4_2_11]
  omega
theorem pc_4_2_3 (w : Nat → Nat) (L : Nat) : plF 4 (wcR 4 (lstW w L)) (4 * 2 + 3) = plM w L 4 2 3 := by
  rw [plF_l (by decide) (by decide), show flL (fun q => decide (isO 4 q ∧ q / 2 ^ (2 * (4 - 1 - 3)) % 4 = 2)) (2 ^ (2 * 4)) = [30, 54, 78, 114, 198, 210] from by decide +kernel, pm_4_2_3]
  have r30 : rwF 4 (wcR 4 (lstW w L)) 30 = bb w 2 (bb w 3 (bb w 1 (bb w 0 o1))) L := rw4 w L 30 ⟨by decide, by decide⟩
  have r54 : rwF 4 (wcR 4 (lstW w L)) 54 = bb w 2 (bb w 1 (bb w 3 (bb w 0 o1))) L := rw4 w L 54 ⟨by decide, by decide⟩
  have r78 : rwF 4 (wcR 4 (lstW w L)) 78 = bb w 2 (bb w 3 (bb w 0 (bb w 1 o1))) L := rw4 w L 78 ⟨by decide, by decide⟩
  have r114 : rwF 4 (wcR 4 (lstW w L)) 114 = bb w 2 (bb w 0 (bb w 3 (bb w 1 o1))) L := rw4 w L 114 ⟨by decide, by decide⟩
  have r198 : rwF 4 (wcR 4 (lstW w L)) 198 = bb w 2 (bb w 1 (bb w 0 (bb w 3 o1))) L := rw4 w L 198 ⟨by decide, by decide⟩
  have r210 : rwF 4 (wcR 4 (lstW w L)) 210 = bb w 2 (bb w 0 (bb w 1 (bb w 3 o1))) L := rw4 w L 210 ⟨by decide, by decide⟩
  show rwF 4 (wcR 4 (lstW w L)) 30 + (rwF 4 (wcR 4 (lstW w L)) 54 + (rwF 4 (wcR 4 (lstW w L)) 78 + (rwF 4 (wcR 4 (lstW w L)) 114 + (rwF 4 (wcR 4 (lstW w L)) 198 + (rwF 4 (wcR 4 (lstW w L)) 210 + 0))))) = _
  rw [r30, r54, r78, r114, r198, r210]
  omega
theorem pm_4_3_0 (w : Nat → Nat) (L : Nat) : plM w L 4 3 0 = bb w 2 (bb w 1 (bb w 0 (bb w 3 o1))) L + bb w 1 (bb w 2 (bb w 0 (bb w 3 o1))) L + bb w 2 (bb w 0 (bb w 1 (bb w 3 o1))) L + bb w 0 (bb w 2 (bb w 1 (bb w 3 o1))) L + bb w 1 (bb w 0 (bb w 2 (bb w 3 o1))) L + bb w 0 (bb w 1 (bb w 2 (bb w 3 o1))) L := by
  rw [pl_mS, show flL (fun s => decide (s.testBit 3 = false ∧ pcN s 12 = 0)) (2 ^ 4) = [0] from by decide +kernel]
  show mS w L 4 3 0 + 0 = _
  rw [mS_4_3_0]
  omega
theorem pc_4_3_0 (w : Nat → Nat) (L : Nat) : plF 4 (wcR 4 (lstW w L)) (4 * 3 + 0) = plM w L 4 3 0 := by
  rw [plF_l (by decide) (by decide), show flL (fun q => decide (isO 4 q ∧ q / 2 ^ (2 * (4 - 1 - 0)) % 4 = 3)) (2 ^ (2 * 4)) = [198, 201, 210, 216, 225, 228] from by decide +kernel, pm_4_3_0]
  have r198 : rwF 4 (wcR 4 (lstW w L)) 198 = bb w 2 (bb w 1 (bb w 0 (bb w 3 o1))) L := rw4 w L 198 ⟨by decide, by decide⟩
  have r201 : rwF 4 (wcR 4 (lstW w L)) 201 = bb w 1 (bb w 2 (bb w 0 (bb w 3 o1))) L := rw4 w L 201 ⟨by decide, by decide⟩
  have r210 : rwF 4 (wcR 4 (lstW w L)) 210 = bb w 2 (bb w 0 (bb w 1 (bb w 3 o1))) L := rw4 w L 210 ⟨by decide, by decide⟩
  have r216 : rwF 4 (wcR 4 (lstW w L)) 216 = bb w 0 (bb w 2 (bb w 1 (bb w 3 o1))) L := rw4 w L 216 ⟨by decide, by decide⟩
  have r225 : rwF 4 (wcR 4 (lstW w L)) 225 = bb w 1 (bb w 0 (bb w 2 (bb w 3 o1))) L := rw4 w L 225 ⟨by decide, by decide⟩
  have r228 : rwF 4 (wcR 4 (lstW w L)) 228 = bb w 0 (bb w 1 (bb w 2 (bb w 3 o1))) L := rw4 w L 228 ⟨by decide, by decide⟩
  show rwF 4 (wcR 4 (lstW w L)) 198 + (rwF 4 (wcR 4 (lstW w L)) 201 + (rwF 4 (wcR 4 (lstW w L)) 210 + (rwF 4 (wcR 4 (lstW w L)) 216 + (rwF 4 (wcR 4 (lstW w L)) 225 + (rwF 4 (wcR 4 (lstW w L)) 228 + 0))))) = _
  rw [r198, r201, r210, r216, r225, r228]
  omega
theorem pm_4_3_1 (w : Nat → Nat) (L : Nat) : plM w L 4 3 1 = bb w 2 (bb w 1 (bb w 3 (bb w 0 o1))) L + bb w 1 (bb w 2 (bb w 3 (bb w 0 o1))) L + bb w 2 (bb w 0 (bb w 3 (bb w 1 o1))) L + bb w 0 (bb w 2 (bb w 3 (bb w 1 o1))) L + bb w 1 (bb w 0 (bb w 3 (bb w 2 o1))) L + bb w 0 (bb w 1 (bb w 3 (bb w 2 o1))) L := by
  rw [pl_mS, show flL (fun s => decide (s.testBit 3 = false ∧ pcN s 12 = 1)) (2 ^ 4) = [1, 2, 4] from by decide +kernel]
  show mS w L 4 3 1 + (mS w L 4 3 2 + (mS w L 4 3 4 + 0)) = _
  rw [mS_4_3_1, mS_4_3_2, mS_4_3_4]
  omega
theorem pc_4_3_1 (w : Nat → Nat) (L : Nat) : plF 4 (wcR 4 (lstW w L)) (4 * 3 + 1) = plM w L 4 3 1 := by
  rw [plF_l (by decide) (by decide), show flL (fun q => decide (isO 4 q ∧ q / 2 ^ (2 * (4 - 1 - 1)) % 4 = 3)) (2 ^ (2 * 4)) = [54, 57, 114, 120, 177, 180] from by decide +kernel, pm_4_3_1]
  have r54 : rwF 4 (wcR 4 (lstW w L)) 54 = bb w 2 (bb w 1 (bb w 3 (bb w 0 o1))) L := rw4 w L 54 ⟨by decide, by decide⟩
  have r57 : rwF 4 (wcR 4 (lstW w L)) 57 = bb w 1 (bb w 2 (bb w 3 (bb w 0 o1))) L := rw4 w L 57 ⟨by decide, by decide⟩
  have r114 : rwF 4 (wcR 4 (lstW w L)) 114 = bb w 2 (bb w 0 (bb w 3 (bb w 1 o1))) L := rw4 w L 114 ⟨by decide, by decide⟩
  have r120 : rwF 4 (wcR 4 (lstW w L)) 120 = bb w 0 (bb w 2 (bb w 3 (bb w 1 o1))) L := rw4 w L 120 ⟨by decide, by decide⟩
  have r177 : rwF 4 (wcR 4 (lstW w L)) 177 = bb w 1 (bb w 0 (bb w 3 (bb w 2 o1))) L := rw4 w L 177 ⟨by decide, by decide⟩
  have r180 : rwF 4 (wcR 4 (lstW w L)) 180 = bb w 0 (bb w 1 (bb w 3 (bb w 2 o1))) L := rw4 w L 180 ⟨by decide, by decide⟩
  show rwF 4 (wcR 4 (lstW w L)) 54 + (rwF 4 (wcR 4 (lstW w L)) 57 + (rwF 4 (wcR 4 (lstW w L)) 114 + (rwF 4 (wcR 4 (lstW w L)) 120 + (rwF 4 (wcR 4 (lstW w L)) 177 + (rwF 4 (wcR 4 (lstW w L)) 180 + 0))))) = _
  rw [r54, r57, r114, r120, r177, r180]
  omega
theorem pm_4_3_2 (w : Nat → Nat) (L : Nat) : plM w L 4 3 2 = bb w 2 (bb w 3 (bb w 1 (bb w 0 o1))) L + bb w 1 (bb w 3 (bb w 2 (bb w 0 o1))) L + bb w 2 (bb w 3 (bb w 0 (bb w 1 o1))) L + bb w 0 (bb w 3 (bb w 2 (bb w 1 o1))) L + bb w 1 (bb w 3 (bb w 0 (bb w 2 o1))) L + bb w 0 (bb w 3 (bb w 1 (bb w 2 o1))) L := by
  rw [pl_mS, show flL (fun s => decide (s.testBit 3 = false ∧ pcN s 12 = 2)) (2 ^ 4) = [3, 5, 6] from by decide +kernel]
  show mS w L 4 3 3 + (mS w L 4 3 5 + (mS w L 4 3 6 + 0)) = _
  rw [mS_4_3_3, mS_4_3_5, mS_4_3_6]
  omega
theorem pc_4_3_2 (w : Nat → Nat) (L : Nat) : plF 4 (wcR 4 (lstW w L)) (4 * 3 + 2) = plM w L 4 3 2 := by
  rw [plF_l (by decide) (by decide), show flL (fun q => decide (isO 4 q ∧ q / 2 ^ (2 * (4 - 1 - 2)) % 4 = 3)) (2 ^ (2 * 4)) = [30, 45, 78, 108, 141, 156] from by decide +kernel, pm_4_3_2]
  have r30 : rwF 4 (wcR 4 (lstW w L)) 30 = bb w 2 (bb w 3 (bb w 1 (bb w 0 o1))) L := rw4 w L 30 ⟨by decide, by decide⟩
  have r45 : rwF 4 (wcR 4 (lstW w L)) 45 = bb w 1 (bb w 3 (bb w 2 (bb w 0 o1))) L := rw4 w L 45 ⟨by decide, by decide⟩
  have r78 : rwF 4 (wcR 4 (lstW w L)) 78 = bb w 2 (bb w 3 (bb w 0 (bb w 1 o1))) L := rw4 w L 78 ⟨by decide, by decide⟩
  have r108 : rwF 4 (wcR 4 (lstW w L)) 108 = bb w 0 (bb w 3 (bb w 2 (bb w 1 o1))) L := rw4 w L 108 ⟨by decide, by decide⟩
  have r141 : rwF 4 (wcR 4 (lstW w L)) 141 = bb w 1 (bb w 3 (bb w 0 (bb w 2 o1))) L := rw4 w L 141 ⟨by decide, by decide⟩
  have r156 : rwF 4 (wcR 4 (lstW w L)) 156 = bb w 0 (bb w 3 (bb w 1 (bb w 2 o1))) L := rw4 w L 156 ⟨by decide, by decide⟩
  show rwF 4 (wcR 4 (lstW w L)) 30 + (rwF 4 (wcR 4 (lstW w L)) 45 + (rwF 4 (wcR 4 (lstW w L)) 78 + (rwF 4 (wcR 4 (lstW w L)) 108 + (rwF 4 (wcR 4 (lstW w L)) 141 + (rwF 4 (wcR 4 (lstW w L)) 156 + 0))))) = _
  rw [r30, r45, r78, r108, r141, r156]
  omega
theorem pm_4_3_3 (w : Nat → Nat) (L : Nat) : plM w L 4 3 3 = bb w 3 (bb w 2 (bb w 1 (bb w 0 o1))) L + bb w 3 (bb w 1 (bb w 2 (bb w 0 o1))) L + bb w 3 (bb w 2 (bb w 0 (bb w 1 o1))) L + bb w 3 (bb w 0 (bb w 2 (bb w 1 o1))) L + bb w 3 (bb w 1 (bb w 0 (bb w 2 o1))) L + bb w 3 (bb w 0 (bb w 1 (bb w 2 o1))) L := by
  rw [pl_mS, show flL (fun s => decide (s.testBit 3 = false ∧ pcN s 12 = 3)) (2 ^ 4) = [7] from by decide +kernel]
  show mS w L 4 3 7 + 0 = _
  rw [mS_4_3_7]
  omega
theorem pc_4_3_3 (w : Nat → Nat) (L : Nat) : plF 4 (wcR 4 (lstW w L)) (4 * 3 + 3) = plM w L 4 3 3 := by
  rw [plF_l (by decide) (by decide), show flL (fun q => decide (isO 4 q ∧ q / 2 ^ (2 * (4 - 1 - 3)) % 4 = 3)) (2 ^ (2 * 4)) = [27, 39, 75, 99, 135, 147] from by decide +kernel, pm_4_3_3]
  have r27 : rwF 4 (wcR 4 (lstW w L)) 27 = bb w 3 (bb w 2 (bb w 1 (bb w 0 o1))) L := rw4 w L 27 ⟨by decide, by decide⟩
  have r39 : rwF 4 (wcR 4 (lstW w L)) 39 = bb w 3 (bb w 1 (bb w 2 (bb w 0 o1))) L := rw4 w L 39 ⟨by decide, by decide⟩
  have r75 : rwF 4 (wcR 4 (lstW w L)) 75 = bb w 3 (bb w 2 (bb w 0 (bb w 1 o1))) L := rw4 w L 75 ⟨by decide, by decide⟩
  have r99 : rwF 4 (wcR 4 (lstW w L)) 99 = bb w 3 (bb w 0 (bb w 2 (bb w 1 o1))) L := rw4 w L 99 ⟨by decide, by decide⟩
  have r135 : rwF 4 (wcR 4 (lstW w L)) 135 = bb w 3 (bb w 1 (bb w 0 (bb w 2 o1))) L := rw4 w L 135 ⟨by decide, by decide⟩
  have r147 : rwF 4 (wcR 4 (lstW w L)) 147 = bb w 3 (bb w 0 (bb w 1 (bb w 2 o1))) L := rw4 w L 147 ⟨by decide, by decide⟩
  show rwF 4 (wcR 4 (lstW w L)) 27 + (rwF 4 (wcR 4 (lstW w L)) 39 + (rwF 4 (wcR 4 (lstW w L)) 75 + (rwF 4 (wcR 4 (lstW w L)) 99 + (rwF 4 (wcR 4 (lstW w L)) 135 + (rwF 4 (wcR 4 (lstW w L)) 147 + 0))))) = _
  rw [r27, r39, r75, r99, r135, r147]
  omega
def tot4 (w : Nat → Nat) (L : Nat) : Nat := bb w 3 (bb w 2 (bb w 1 (bb w 0 o1))) L + bb w 2 (bb w 3 (bb w 1 (bb w 0 o1))) L + bb w 3 (bb w 1 (bb w 2 (bb w 0 o1))) L + bb w 1 (bb w 3 (bb w 2 (bb w 0 o1))) L + bb w 2 (bb w 1 (bb w 3 (bb w 0 o1))) L + bb w 1 (bb w 2 (bb w 3 (bb w 0 o1))) L + bb w 3 (bb w 2 (bb w 0 (bb w 1 o1))) L + bb w 2 (bb w 3 (bb w 0 (bb w 1 o1))) L + bb w 3 (bb w 0 (bb w 2 (bb w 1 o1))) L + bb w 0 (bb w 3 (bb w 2 (bb w 1 o1))) L + bb w 2 (bb w 0 (bb w 3 (bb w 1 o1))) L + bb w 0 (bb w 2 (bb w 3 (bb w 1 o1))) L + bb w 3 (bb w 1 (bb w 0 (bb w 2 o1))) L + bb w 1 (bb w 3 (bb w 0 (bb w 2 o1))) L + bb w 3 (bb w 0 (bb w 1 (bb w 2 o1))) L + bb w 0 (bb w 3 (bb w 1 (bb w 2 o1))) L + bb w 1 (bb w 0 (bb w 3 (bb w 2 o1))) L + bb w 0 (bb w 1 (bb w 3 (bb w 2 o1))) L + bb w 2 (bb w 1 (bb w 0 (bb w 3 o1))) L + bb w 1 (bb w 2 (bb w 0 (bb w 3 o1))) L + bb w 2 (bb w 0 (bb w 1 (bb w 3 o1))) L + bb w 0 (bb w 2 (bb w 1 (bb w 3 o1))) L + bb w 1 (bb w 0 (bb w 2 (bb w 3 o1))) L + bb w 0 (bb w 1 (bb w 2 (bb w 3 o1))) L
theorem sums4 (w : Nat → Nat) (L : Nat) : plM w L 4 0 0 + plM w L 4 0 1 + plM w L 4 0 2 + plM w L 4 0 3 = tot4 w L ∧ plM w L 4 1 0 + plM w L 4 1 1 + plM w L 4 1 2 + plM w L 4 1 3 = tot4 w L ∧ plM w L 4 2 0 + plM w L 4 2 1 + plM w L 4 2 2 + plM w L 4 2 3 = tot4 w L ∧ plM w L 4 3 0 + plM w L 4 3 1 + plM w L 4 3 2 + plM w L 4 3 3 = tot4 w L ∧ plM w L 4 0 0 + plM w L 4 1 0 + plM w L 4 2 0 + plM w L 4 3 0 = tot4 w L ∧ plM w L 4 0 1 + plM w L 4 1 1 + plM w L 4 2 1 + plM w L 4 3 1 = tot4 w L ∧ plM w L 4 0 2 + plM w L 4 1 2 + plM w L 4 2 2 + plM w L 4 3 2 = tot4 w L ∧ plM w L 4 0 3 + plM w L 4 1 3 + plM w L 4 2 3 + plM w L 4 3 3 = tot4 w L := by
  unfold tot4
  rw [pm_4_0_0, pm_4_0_1, pm_4_0_2, pm_4_0_3, pm_4_1_0, pm_4_1_1, pm_4_1_2, pm_4_1_3, pm_4_2_0, pm_4_2_1, pm_4_2_2, pm_4_2_3, pm_4_3_0, pm_4_3_1, pm_4_3_2, pm_4_3_3]
  refine ⟨?_, ?_, ?_, ?_, ?_, ?_, ?_, ?_⟩ <;> omega
/-- how often a die stands in a place: as the class counts, so the Model -/
theorem pl_eq {n : Nat} (hn : 2 ≤ n ∧ n ≤ 4) (w : Nat → Nat) (L : Nat) {d e : Nat} (hd : d < n) (he : e < n) : plF n (wcR n (lstW w L)) (4 * d + e) = plM w L n d e := by
  have hc : n = 2 ∨ n = 3 ∨ n = 4 := by omega
  rcases hc with z | z | z
  · subst z
    have hd' : d = 0 ∨ d = 1 := by omega
    have he' : e = 0 ∨ e = 1 := by omega
    rcases hd' with rfl | rfl <;> rcases he' with rfl | rfl
    · exact pc_2_0_0 w L
    · exact pc_2_0_1 w L
    · exact pc_2_1_0 w L
    · exact pc_2_1_1 w L
  · subst z
    have hd' : d = 0 ∨ d = 1 ∨ d = 2 := by omega
    have he' : e = 0 ∨ e = 1 ∨ e = 2 := by omega
    rcases hd' with rfl | rfl | rfl <;> rcases he' with rfl | rfl | rfl
    · exact pc_3_0_0 w L
    · exact pc_3_0_1 w L
    · exact pc_3_0_2 w L
    · exact pc_3_1_0 w L
    · exact pc_3_1_1 w L
    · exact pc_3_1_2 w L
    · exact pc_3_2_0 w L
    · exact pc_3_2_1 w L
    · exact pc_3_2_2 w L
  · subst z
    have hd' : d = 0 ∨ d = 1 ∨ d = 2 ∨ d = 3 := by omega
    have he' : e = 0 ∨ e = 1 ∨ e = 2 ∨ e = 3 := by omega
    rcases hd' with rfl | rfl | rfl | rfl <;> rcases he' with rfl | rfl | rfl | rfl
    · exact pc_4_0_0 w L
    · exact pc_4_0_1 w L
    · exact pc_4_0_2 w L
    · exact pc_4_0_3 w L
    · exact pc_4_1_0 w L
    · exact pc_4_1_1 w L
    · exact pc_4_1_2 w L
    · exact pc_4_1_3 w L
    · exact pc_4_2_0 w L
    · exact pc_4_2_1 w L
    · exact pc_4_2_2 w L
    · exact pc_4_2_3 w L
    · exact pc_4_3_0 w L
    · exact pc_4_3_1 w L
    · exact pc_4_3_2 w L
    · exact pc_4_3_3 w L
theorem lt2 {P : Nat → Prop} : (∀ d, d < 2 → P d) ↔ P 0 ∧ P 1 := ⟨fun h => ⟨h 0 (by omega), h 1 (by omega)⟩, fun h d hd => by
  have : d = 0 ∨ d = 1 := by omega
  rcases this with z | z <;> rw [z]
  · exact h.1
  · exact h.2⟩
theorem lt3 {P : Nat → Prop} : (∀ d, d < 3 → P d) ↔ P 0 ∧ P 1 ∧ P 2 := ⟨fun h => ⟨h 0 (by omega), h 1 (by omega), h 2 (by omega)⟩, fun h d hd => by
  have : d = 0 ∨ d = 1 ∨ d = 2 := by omega
  rcases this with z | z | z <;> rw [z]
  · exact h.1
  · exact h.2.1
  · exact h.2.2⟩
theorem lt4 {P : Nat → Prop} : (∀ d, d < 4 → P d) ↔ P 0 ∧ P 1 ∧ P 2 ∧ P 3 := ⟨fun h => ⟨h 0 (by omega), h 1 (by omega), h 2 (by omega), h 3 (by omega)⟩, fun h d hd => by
  have : d = 0 ∨ d = 1 ∨ d = 2 ∨ d = 3 := by omega
  rcases this with z | z | z | z <;> rw [z]
  · exact h.1
  · exact h.2.1
  · exact h.2.2.1
  · exact h.2.2.2⟩
theorem tot_2 {x y T : Nat} (h1 : y = x) (s : x + y = T) : 2 * x = T ∧ 2 * y = T := by omega
theorem tot_3 {x y z T : Nat} (h1 : y = x) (h2 : z = x) (s : x + y + z = T) : 3 * x = T ∧ 3 * y = T ∧ 3 * z = T := by omega
theorem tot_4 {x y z u T : Nat} (h1 : y = x) (h2 : z = x) (h3 : u = x) (s : x + y + z + u = T) : 4 * x = T ∧ 4 * y = T ∧ 4 * z = T ∧ 4 * u = T := by omega
theorem tot_e {n x y T : Nat} (hn : 0 < n) (h1 : n * x = T) (h2 : n * y = T) : x = y := Nat.eq_of_mul_eq_mul_left hn (h1.trans h2.symm)
/-- place by place, or die by die -/
theorem fa_eq {n : Nat} (hn : 2 ≤ n ∧ n ≤ 4) (w : Nat → Nat) (L : Nat) : (faT n (plM w L n) ↔ faA n (plF n (wcR n (lstW w L)))) ∧ (faM n (plM w L n) ↔ faB n (plF n (wcR n (lstW w L)))) := by
  have pe := fun d e (hd : d < n) (he : e < n) => pl_eq hn w L hd he
  refine ⟨⟨fun z d hd => ?_, fun z d hd => ?_⟩, ?_⟩
  · rw [pe d (n - 1) hd (by omega), pe 0 (n - 1) (by omega) (by omega)]
    exact z d hd
  · have := z d hd
    rw [pe d (n - 1) hd (by omega), pe 0 (n - 1) (by omega) (by omega)] at this
    exact this
  · have e1 : faB n (plF n (wcR n (lstW w L))) ↔ ∀ d, d < n → ∀ e, e < n → plM w L n d e = plM w L n d 0 := by
      constructor
      · intro z d hd e he
        have := z d hd e he
        have a := pe d 0 hd (by omega)
        rw [pe d e hd he, a] at this
        exact this
      · intro z d hd e he
        have a := pe d 0 hd (by omega)
        rw [pe d e hd he, a]
        exact z d hd e he
    rw [e1]
    have hc : n = 2 ∨ n = 3 ∨ n = 4 := by omega
    rcases hc with z | z | z
    · subst z
      obtain ⟨s0, s1, s2, s3⟩ := sums2 w L
      constructor
      · intro h
        have q0 := tot_2 (h 0 (by omega) 1 (by omega)) s2
        have q1 := tot_2 (h 1 (by omega) 1 (by omega)) s3
        intro d hd e he
        have c1 : d = 0 ∨ d = 1 := by omega
        have c2 : e = 0 ∨ e = 1 := by omega
        rcases c1 with rfl | rfl <;> rcases c2 with rfl | rfl
        · exact tot_e (by decide) q0.1 q0.1
        · exact tot_e (by decide) q1.1 q0.1
        · exact tot_e (by decide) q0.2 q0.2
        · exact tot_e (by decide) q1.2 q0.2
      · intro h
        have q0 := tot_2 (h 0 (by omega) 1 (by omega)) s0
        have q1 := tot_2 (h 1 (by omega) 1 (by omega)) s1
        intro e he d hd
        have c1 : e = 0 ∨ e = 1 := by omega
        have c2 : d = 0 ∨ d = 1 := by omega
        rcases c1 with rfl | rfl <;> rcases c2 with rfl | rfl
        · exact tot_e (by decide) q0.1 q0.1
        · exact tot_e (by decide) q1.1 q0.1
        · exact tot_e (by decide) q0.2 q0.2
        · exact tot_e (by decide) q1.2 q0.2
    · subst z
      obtain ⟨s0, s1, s2, s3, s4, s5⟩ := sums3 w L
      constructor
      · intro h
        have q0 := tot_3 (h 0 (by omega) 1 (by omega)) (h 0 (by omega) 2 (by omega)) s3
        have q1 := tot_3 (h 1 (by omega) 1 (by omega)) (h 1 (by omega) 2 (by omega)) s4
        have q2 := tot_3 (h 2 (by omega) 1 (by omega)) (h 2 (by omega) 2 (by omega)) s5
        intro d hd e he
        have c1 : d = 0 ∨ d = 1 ∨ d = 2 := by omega
        have c2 : e = 0 ∨ e = 1 ∨ e = 2 := by omega
        rcases c1 with rfl | rfl | rfl <;> rcases c2 with rfl | rfl | rfl
        · exact tot_e (by decide) q0.1 q0.1
        · exact tot_e (by decide) q1.1 q0.1
        · exact tot_e (by decide) q2.1 q0.1
        · exact tot_e (by decide) q0.2.1 q0.2.1
        · exact tot_e (by decide) q1.2.1 q0.2.1
        · exact tot_e (by decide) q2.2.1 q0.2.1
        · exact tot_e (by decide) q0.2.2 q0.2.2
        · exact tot_e (by decide) q1.2.2 q0.2.2
        · exact tot_e (by decide) q2.2.2 q0.2.2
      · intro h
        have q0 := tot_3 (h 0 (by omega) 1 (by omega)) (h 0 (by omega) 2 (by omega)) s0
        have q1 := tot_3 (h 1 (by omega) 1 (by omega)) (h 1 (by omega) 2 (by omega)) s1
        have q2 := tot_3 (h 2 (by omega) 1 (by omega)) (h 2 (by omega) 2 (by omega)) s2
        intro e he d hd
        have c1 : e = 0 ∨ e = 1 ∨ e = 2 := by omega
        have c2 : d = 0 ∨ d = 1 ∨ d = 2 := by omega
        rcases c1 with rfl | rfl | rfl <;> rcases c2 with rfl | rfl | rfl
        · exact tot_e (by decide) q0.1 q0.1
        · exact tot_e (by decide) q1.1 q0.1
        · exact tot_e (by decide) q2.1 q0.1
        · exact tot_e (by decide) q0.2.1 q0.2.1
        · exact tot_e (by decide) q1.2.1 q0.2.1
        · exact tot_e (by decide) q2.2.1 q0.2.1
        · exact tot_e (by decide) q0.2.2 q0.2.2
        · exact tot_e (by decide) q1.2.2 q0.2.2
        · exact tot_e (by decide) q2.2.2 q0.2.2
    · subst z
      obtain ⟨s0, s1, s2, s3, s4, s5, s6, s7⟩ := sums4 w L
      constructor
      · intro h
        have q0 := tot_4 (h 0 (by omega) 1 (by omega)) (h 0 (by omega) 2 (by omega)) (h 0 (by omega) 3 (by omega)) s4
        have q1 := tot_4 (h 1 (by omega) 1 (by omega)) (h 1 (by omega) 2 (by omega)) (h 1 (by omega) 3 (by omega)) s5
        have q2 := tot_4 (h 2 (by omega) 1 (by omega)) (h 2 (by omega) 2 (by omega)) (h 2 (by omega) 3 (by omega)) s6
        have q3 := tot_4 (h 3 (by omega) 1 (by omega)) (h 3 (by omega) 2 (by omega)) (h 3 (by omega) 3 (by omega)) s7
        intro d hd e he
        have c1 : d = 0 ∨ d = 1 ∨ d = 2 ∨ d = 3 := by omega
        have c2 : e = 0 ∨ e = 1 ∨ e = 2 ∨ e = 3 := by omega
        rcases c1 with rfl | rfl | rfl | rfl <;> rcases c2 with rfl | rfl | rfl | rfl
        · exact tot_e (by decide) q0.1 q0.1
        · exact tot_e (by decide) q1.1 q0.1
        · exact tot_e (by decide) q2.1 q0.1
        · exact tot_e (by decide) q3.1 q0.1
        · exact tot_e (by decide) q0.2.1 q0.2.1
        · exact tot_e (by decide) q1.2.1 q0.2.1
        · exact tot_e (by decide) q2.2.1 q0.2.1
        · exact tot_e (by decide) q3.2.1 q0.2.1
        · exact tot_e (by decide) q0.2.2.1 q0.2.2.1
        · exact tot_e (by decide) q1.2.2.1 q0.2.2.1
        · exact tot_e (by decide) q2.2.2.1 q0.2.2.1
        · exact tot_e (by decide) q3.2.2.1 q0.2.2.1
        · exact tot_e (by decide) q0.2.2.2 q0.2.2.2
        · exact tot_e (by decide) q1.2.2.2 q0.2.2.2
        · exact tot_e (by decide) q2.2.2.2 q0.2.2.2
        · exact tot_e (by decide) q3.2.2.2 q0.2.2.2
      · intro h
        have q0 := tot_4 (h 0 (by omega) 1 (by omega)) (h 0 (by omega) 2 (by omega)) (h 0 (by omega) 3 (by omega)) s0
        have q1 := tot_4 (h 1 (by omega) 1 (by omega)) (h 1 (by omega) 2 (by omega)) (h 1 (by omega) 3 (by omega)) s1
        have q2 := tot_4 (h 2 (by omega) 1 (by omega)) (h 2 (by omega) 2 (by omega)) (h 2 (by omega) 3 (by omega)) s2
        have q3 := tot_4 (h 3 (by omega) 1 (by omega)) (h 3 (by omega) 2 (by omega)) (h 3 (by omega) 3 (by omega)) s3
        intro e he d hd
        have c1 : e = 0 ∨ e = 1 ∨ e = 2 ∨ e = 3 := by omega
        have c2 : d = 0 ∨ d = 1 ∨ d = 2 ∨ d = 3 := by omega
        rcases c1 with rfl | rfl | rfl | rfl <;> rcases c2 with rfl | rfl | rfl | rfl
        · exact tot_e (by decide) q0.1 q0.1
        · exact tot_e (by decide) q1.1 q0.1
        · exact tot_e (by decide) q2.1 q0.1
        · exact tot_e (by decide) q3.1 q0.1
        · exact tot_e (by decide) q0.2.1 q0.2.1
        · exact tot_e (by decide) q1.2.1 q0.2.1
        · exact tot_e (by decide) q2.2.1 q0.2.1
        · exact tot_e (by decide) q3.2.1 q0.2.1
        · exact tot_e (by decide) q0.2.2.1 q0.2.2.1
        · exact tot_e (by decide) q1.2.2.1 q0.2.2.1
        · exact tot_e (by decide) q2.2.2.1 q0.2.2.1
        · exact tot_e (by decide) q3.2.2.1 q0.2.2.1
        · exact tot_e (by decide) q0.2.2.2 q0.2.2.2
        · exact tot_e (by decide) q1.2.2.2 q0.2.2.2
        · exact tot_e (by decide) q2.2.2.2 q0.2.2.2
        · exact tot_e (by decide) q3.2.2.2 q0.2.2.2
