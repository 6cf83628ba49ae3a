/-! a constructor's step: a new Row in a field -/
theorem PW.nrow {d k i a j y c rc : Nat} {w : Int} {l : List (Option Value)} {h : Hp} {Q : Nat → Option Value → Hp → Prop} (hr : ((gRes k).drop i).take 4 = [.aload 0, .new 6, .dup, .iconst w]) (hr2 : (gRes k)[i + 4]? = some (.invokespecial 65)) (hr3 : ((gRes k).drop (i + 5)).take 1 = [.putfield c]) (h1 : c / 1000 = y) (h2 : c / 10 % 100 = j) (h3 : c % 10 = 2) (hk : zK h a = y) (ha : a < zN h) (hz : zN h + 1 < zSC) (hrc : rc = if (Int32.ofInt w) = 0 then 200 else 800) (hl : ∀ n, l.all (oOK n) = true)
    (hq : ∀ h', gw (fun q => q = a) 2 (5 + (2 * rc + 1)) h h' → rowV h' (zN h) rc 0 0 0 (fun _ => 0) → zI h' a = zI h a → (∀ q, zR h' a q = if q = j then some (zN h) else zR h a q) → PW (d + 1) k (i + 6) (some (.ref a) :: l) [] h' Q) : PW (d + 1) k i (some (.ref a) :: l) [] h Q := by
  have fo : ∀ n, a < n → fOK n (some (.ref a) :: l) [.ref a] = true := fun n c => by
    show ((decide (a < n ∨ a = zSC) && l.all (oOK n)) && (decide (a < n ∨ a = zSC) && true)) = true
    rw [decide_eq_true (Or.inl c), hl]
    rfl
  refine vs_ok 4 ?_
  rw [hr]
  simp only [vs_aload0, vs_new, vs_dupr, vs_iconst, vs_nil, true_and, and_true]
  refine ⟨⟨by decide, by omega, fo _ ha⟩, ?_⟩
  have w1 : gw (fun _ => False) 1 5 h (zNew h 6 0 (gN 6)) := gw_new
  have q1 := zNew_K (h := h) (k := 6) (n := 0) (s := gN 6)
  have q2 := zNew_I (h := h) (k := 6) (n := 0) (s := gN 6)
  have q3 := zNew_J (h := h) (k := 6) (n := 0) (s := gN 6)
  generalize zNew h 6 0 (gN 6) = g at *
  refine PW.is hr2 rfl rfl (le_b rfl) (le_b rfl) ?_
  have a1 : a < zN g := by rw [w1.1]; omega
  have fo2 : fOK (zN g) (some (.ref a) :: l) [.ref (zN h), .ref a] = true := by
    show ((decide (a < zN g ∨ a = zSC) && l.all (oOK (zN g))) && (decide (zN h < zN g ∨ zN h = zSC) && (decide (a < zN g ∨ a = zSC) && true))) = true
    rw [decide_eq_true (Or.inl a1), hl, decide_eq_true (Or.inl (show zN h < zN g by rw [w1.1]; omega))]
    rfl
  refine t_Row_init (rc := rc) q1 w1.1 (by omega) q2 q3 hrc fun g2 w2 rv => ⟨rfl, Or.inr fo2, ?_⟩
  have k2 : zK g2 a = y := by rw [w2.2.2.2.1 a (by rw [w1.1]; omega), w1.2.2.2.1 a ha, hk]
  have n2 : zN h < zN g2 := by rw [w2.1, w1.1]; omega
  refine vs_ok 1 ?_
  rw [show i + 1 + 1 + 1 + 1 + 1 = i + 5 from rfl, hr3]
  simp only [vs_putfield, vs_nil, Option.toList_none, List.nil_append, h1, h2, h3, pv, true_and, and_true]
  refine ⟨⟨k2, by omega⟩, _, if_pos n2, ?_⟩
  refine hq _ (((w1.wk (T := fun q => q = a) (fun _ _ c => c.elim)).tr (w2.wk fun q _ c => Or.inr (by omega))).tr (gw.of_fr (fr_R (S := fun q => q = a ∨ zN h ≤ q) (Or.inl rfl)))) ?_ ?_ fun q => ?_
  · exact rv.keep (S := fun q => q = a) (fr_R rfl) (by omega) (by omega)
  · show zI g2 a = _
    rw [w2.2.2.2.2.2.1 a (by rw [w1.1]; omega) (by omega), w1.2.2.2.2.2.1 a ha (fun c => c)]
  · rw [zR_sR, w2.2.2.2.2.2.2.2 a (by rw [w1.1]; omega) (by omega), w1.2.2.2.2.2.2.2 a ha (fun c => c)]
    by_cases c : q = j
    · rw [if_pos ⟨rfl, c⟩, if_pos c]
    · rw [if_neg (fun z => c z.2), if_neg c]
