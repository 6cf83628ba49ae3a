/-! Reader: start; Table: addName -/
theorem t_start {d : Nat} {h : Hp} {rd tx : Nat} {len va : Int} {B : Nat → Int} {Q : Nat → Option Value → Hp → Prop} (r1 : zK h rd = 5) (r2 : rd < zN h) (hva : zI h rd 4 = iI va) (ha : zK h tx = 14 ∧ tx < zN h ∧ zL h tx = 540 ∧ (∀ i, i < 540 → zI h tx i = iI (B i)) ∧ ∀ i, 0 ≤ B i ∧ B i ≤ 255) (hl : 0 ≤ len ∧ len ≤ 540)
    (hq : ∀ h', fr (fun q => q = rd) h h' → rdS h' rd tx len B (adF B len 0 va).1 (adF B len 0 va).2.1 (adF B len 0 va).2.2.1 (adF B len 0 va).2.2.2 → Q 0 none h') : PR (d + 3) m_Reader_start [.ref rd, .ref tx, .int (iI len)] h Q := by
  obtain ⟨a1, a2, a3, a4, a5⟩ := ha
  have hne : ¬ tx = rd := fun z => by rw [z, r1] at a1; cases a1
  show PW (d + 3) 55 0 [some (.ref rd), some (.ref tx), some (.int (iI len))] [] h Q
  refine vs_ok 3 ?_
  rw [show ((gRes 55).drop 0).take 3 = [.aload 0, .aload 1, .putfield 5002] from rfl]
  simp only [vs_putfield, vs_aload0, vs_aload1, vs_nil, gv_0, gv_1, gv_2, gv_3, pv_0, pv_1, va_rf_s, Nat.reduceDiv, Nat.reduceMod, Nat.reduceAdd, Nat.reduceMul, Int.reduceToNat, true_and, and_true, and_self, cP_eq, cP_ne, cP_lt, cP_ge, cP_gt, cP_le, eL_i, eL_l, eL_r, eL_n, Option.toList_none, Option.toList_some, List.nil_append, List.cons_append, r1, r2]
  refine ⟨_, if_pos a2, ?_⟩
  have f1 : fr (fun q => q = rd) h (zsR h rd 0 (some tx)) := fr_R rfl
  have e1 : zR (zsR h rd 0 (some tx)) rd 0 = some tx := by rw [zR_sR, if_pos ⟨rfl, rfl⟩]
  have e2 : zI (zsR h rd 0 (some tx)) = zI h := rfl
  generalize zsR h rd 0 (some tx) = g1 at f1 e1 e2
  have k1 : zK g1 rd = 5 := by rw [f1.1]; exact r1
  have n1 : rd < zN g1 := by rw [f1.2.2.1]; exact r2
  have ka : zK g1 tx = 14 := by rw [f1.1]; exact a1
  have na : tx < zN g1 := by rw [f1.2.2.1]; exact a2
  have la : zL g1 tx = 540 := by rw [f1.2.1]; exact a3
  refine vs_ok 5 ?_
  rw [show ((gRes 55).drop 3).take 5 = [.aload 0, .iload 2, .aload 1, .arraylength, .invokedynamic 3] from rfl]
  simp only [vs_arraylength, vs_aload0, vs_aload1, vs_iload2, vs_nil, gv_0, gv_1, gv_2, gv_3, pv_0, pv_1, va_rf_s, vs_abs, vs_max, vs_min, vs_oinit, Nat.reduceDiv, Nat.reduceMod, Nat.reduceAdd, Nat.reduceMul, Int.reduceToNat, true_and, and_true, and_self, cP_eq, cP_ne, cP_lt, cP_ge, cP_gt, cP_le, eL_i, eL_l, eL_r, eL_n, Option.toList_none, Option.toList_some, List.nil_append, List.cons_append, k1, n1, ka, na, la, or_true, true_or]
  rw [show Int32.ofNat 540 = iI 540 from rfl, imin (by constructor <;> omega) (by constructor <;> omega), show min len 540 = len by omega]
  refine ⟨le_b rfl, ?_⟩
  refine vs_ok 1 ?_
  rw [show ((gRes 55).drop 8).take 1 = [.putfield 5010] from rfl]
  simp only [vs_putfield, vs_nil, gv_0, gv_1, gv_2, gv_3, pv_0, pv_1, va_rf_s, Nat.reduceDiv, Nat.reduceMod, Nat.reduceAdd, Nat.reduceMul, Int.reduceToNat, true_and, and_true, and_self, cP_eq, cP_ne, cP_lt, cP_ge, cP_gt, cP_le, eL_i, eL_l, eL_r, eL_n, Option.toList_none, Option.toList_some, List.nil_append, List.cons_append, k1, n1]
  refine ⟨_, rfl, ?_⟩
  have f2 : fr (fun q => q = rd) g1 (zsI g1 rd 1 (iI len)) := fr_I rfl
  have e3 : zI (zsI g1 rd 1 (iI len)) rd 1 = iI len := by rw [zI_sI, if_pos ⟨rfl, rfl⟩]
  have e4 : ∀ i, i ≠ 1 → zI (zsI g1 rd 1 (iI len)) rd i = zI h rd i := fun i hi => by rw [zI_sI, if_neg (fun z => hi z.2), e2]
  have e5 : zR (zsI g1 rd 1 (iI len)) rd 0 = some tx := e1
  generalize zsI g1 rd 1 (iI len) = g2 at f2 e3 e4 e5
  have k2 : zK g2 rd = 5 := by rw [f2.1]; exact k1
  have n2 : rd < zN g2 := by rw [f2.2.2.1]; exact n1
  refine vs_ok 3 ?_
  rw [show ((gRes 55).drop 9).take 3 = [.aload 0, .iconst 0, .putfield 5020] from rfl]
  simp only [vs_iconst, vs_putfield, vs_aload0, vs_nil, gv_0, gv_1, gv_2, gv_3, pv_0, pv_1, va_rf_s, Nat.reduceDiv, Nat.reduceMod, Nat.reduceAdd, Nat.reduceMul, Int.reduceToNat, true_and, and_true, and_self, cP_eq, cP_ne, cP_lt, cP_ge, cP_gt, cP_le, eL_i, eL_l, eL_r, eL_n, Option.toList_none, Option.toList_some, List.nil_append, List.cons_append, k2, n2]
  refine ⟨_, rfl, ?_⟩
  have f3 : fr (fun q => q = rd) g2 (zsI g2 rd 2 (iI 0)) := fr_I rfl
  have hf : fr (fun q => q = rd) h (zsI g2 rd 2 (iI 0)) := f1.tr (f2.tr f3)
  have hI := hf.2.2.2.2.2.1 tx hne
  have hr : rdS (zsI g2 rd 2 (iI 0)) rd tx len B 0 (zI h rd 3).toInt va (zI h rd 5).toInt := by
    refine ⟨by rw [hf.1]; exact r1, by rw [hf.2.2.1]; exact r2, e5, ⟨by rw [hf.1]; exact a1, by rw [hf.2.2.1]; exact a2, by rw [hf.2.1]; exact a3, fun i hi => by rw [hI]; exact a4 i hi, a5⟩, ?_, hl, ?_, ?_, ?_, ?_⟩
    · rw [zI_sI, if_neg (by omega)]; exact e3
    · rw [zI_sI, if_pos ⟨rfl, rfl⟩]
    · rw [zI_sI, if_neg (by omega), e4 3 (by omega), iI_of]
    · rw [zI_sI, if_neg (by omega), e4 4 (by omega)]; exact hva
    · rw [zI_sI, if_neg (by omega), e4 5 (by omega), iI_of]
  generalize zsI g2 rd 2 (iI 0) = g3 at hf hr
  refine vs_ok 2 ?_
  rw [show ((gRes 55).drop 12).take 2 = [.aload 0, .invokevirtual 60] from rfl]
  simp only [vs_iv, vs_aload0, vs_nil, gv_0, gv_1, gv_2, gv_3, pv_0, pv_1, va_rf_s, Nat.reduceDiv, Nat.reduceMod, Nat.reduceAdd, Nat.reduceMul, Int.reduceToNat, true_and, and_true, and_self, cP_eq, cP_ne, cP_lt, cP_ge, cP_gt, cP_le, eL_i, eL_l, eL_r, eL_n, Option.toList_none, Option.toList_some, List.nil_append, List.cons_append]
  refine PW.iv rfl rfl rfl hr.1 hr.2.1 (le_b rfl) (le_b rfl) ?_
  refine t_advance hr ⟨by omega, by omega⟩ fun g4 f4 hr4 => ⟨rfl, ⟨f4.2.2.1, rfl⟩, ?_⟩
  refine vs_ok 1 ?_
  rw [show ((gRes 55).drop 14).take 1 = [.return_] from rfl]
  simp only [vs_return_, vs_nil, gv_0, gv_1, gv_2, gv_3, pv_0, pv_1, va_rf_s, Nat.reduceDiv, Nat.reduceMod, Nat.reduceAdd, Nat.reduceMul, Int.reduceToNat, true_and, and_true, and_self, cP_eq, cP_ne, cP_lt, cP_ge, cP_gt, cP_le, eL_i, eL_l, eL_r, eL_n, Option.toList_none, Option.toList_some, List.nil_append, List.cons_append]
  exact ⟨by decide, hq g4 (hf.tr f4) hr4⟩
theorem t_addName {d : Nat} {h : Hp} {t : Nat} {nm w f : Int} {F Wd : Nat → Int} {Q : Nat → Option Value → Hp → Prop} (ht : isTb h t nm F Wd) (hnm : nm < 12)
    (hq : ∀ h', fr (fun q => q = t ∨ q = t + 2 ∨ q = t + 3) h h' → isTb h' t (nm + 1) (fun i => if i = nm.toNat then f else F i) (fun i => if i = nm.toNat then w else Wd i) → Q 0 none h') : PR d m_Table_addName [.ref t, .int (iI w), .int (iI f)] h Q := by
  obtain ⟨h1, h2, ⟨p1, p2, p3, p4⟩, ⟨a1, a2, a3, a4⟩, ⟨b1, b2, b3, b4⟩, h6, h7, h8⟩ := id ht
  have h2' : t < zN h := by omega
  have h2a : t + 2 < zN h := by omega
  have h2b : t + 3 < zN h := by omega
  show PW d 93 0 [some (.ref t), some (.int (iI w)), some (.int (iI f))] [] h Q
  refine vs_ok 6 ?_
  rw [show ((gRes 93).drop 0).take 6 = [.aload 0, .getfield 7030, .aload 0, .getfield 7022, .arraylength, .if_icmp .ge 24] from rfl]
  simp only [vs_if_icmp, vs_getfield, vs_arraylength, vs_aload0, vs_nil, gv_0, gv_1, gv_2, gv_3, pv_0, pv_1, va_rf_s, Nat.reduceDiv, Nat.reduceMod, Nat.reduceAdd, Nat.reduceMul, Int.reduceToNat, true_and, and_true, and_self, cP_eq, cP_ne, cP_lt, cP_ge, cP_gt, cP_le, eL_i, eL_l, eL_r, eL_n, Option.toList_none, Option.toList_some, List.nil_append, List.cons_append, h1, h2', h6, b1, b2, b3, h2b, or_true, true_or]
  rw [of12, iI_le (by constructor <;> omega) (by constructor <;> omega)]
  refine ⟨fun c => absurd c (by omega), fun _ => ?_⟩
  refine vs_ok 6 ?_
  rw [show ((gRes 93).drop 6).take 6 = [.aload 0, .getfield 7022, .aload 0, .getfield 7030, .iload 1, .iastore] from rfl]
  simp only [vs_getfield, vs_iastore, vs_aload0, vs_iload1, vs_nil, gv_0, gv_1, gv_2, gv_3, pv_0, pv_1, va_rf_s, Nat.reduceDiv, Nat.reduceMod, Nat.reduceAdd, Nat.reduceMul, Int.reduceToNat, true_and, and_true, and_self, cP_eq, cP_ne, cP_lt, cP_ge, cP_gt, cP_le, eL_i, eL_l, eL_r, eL_n, Option.toList_none, Option.toList_some, List.nil_append, List.cons_append, h1, h2', h6, b1, b2, b3, h2b]
  refine ⟨(inB_iI (by constructor <;> omega)).mpr ⟨by omega, by omega⟩, ?_⟩
  rw [iI_nat (by constructor <;> omega) (by omega)]
  have f1 : fr (fun q => q = t ∨ q = t + 2 ∨ q = t + 3) h (zsI h (t + 3) nm.toNat (iI w)) := fr_I (Or.inr (Or.inr rfl))
  have e1 : ∀ a i, ¬ a = t + 3 → zI (zsI h (t + 3) nm.toNat (iI w)) a i = zI h a i := fun a i ha => by rw [zI_sI, if_neg (fun z => ha z.1)]
  have e2 : ∀ i, zI (zsI h (t + 3) nm.toNat (iI w)) (t + 3) i = if i = nm.toNat then iI w else zI h (t + 3) i := fun i => by
    rw [zI_sI]
    by_cases c : i = nm.toNat
    · rw [if_pos ⟨rfl, c⟩, if_pos c]
    · rw [if_neg (fun z => c z.2), if_neg c]
  have eR : zR (zsI h (t + 3) nm.toNat (iI w)) = zR h := rfl
  have eK : zK (zsI h (t + 3) nm.toNat (iI w)) = zK h := rfl
  have eL : zL (zsI h (t + 3) nm.toNat (iI w)) = zL h := rfl
  have eN : zN (zsI h (t + 3) nm.toNat (iI w)) = zN h := rfl
  generalize zsI h (t + 3) nm.toNat (iI w) = g1 at f1 e1 e2 eR eK eL eN
  refine vs_ok 6 ?_
  rw [show ((gRes 93).drop 12).take 6 = [.aload 0, .getfield 7012, .aload 0, .getfield 7030, .iload 2, .iastore] from rfl]
  simp only [vs_getfield, vs_iastore, vs_aload0, vs_iload2, vs_nil, gv_0, gv_1, gv_2, gv_3, pv_0, pv_1, va_rf_s, Nat.reduceDiv, Nat.reduceMod, Nat.reduceAdd, Nat.reduceMul, Int.reduceToNat, true_and, and_true, and_self, cP_eq, cP_ne, cP_lt, cP_ge, cP_gt, cP_le, eL_i, eL_l, eL_r, eL_n, Option.toList_none, Option.toList_some, List.nil_append, List.cons_append, eK, eN, eR, eL, h1, h2', e1 t 3 (by omega), h6, a1, a2, a3, h2a]
  refine ⟨(inB_iI (by constructor <;> omega)).mpr ⟨by omega, by omega⟩, ?_⟩
  rw [iI_nat (by constructor <;> omega) (by omega)]
  have f2 : fr (fun q => q = t ∨ q = t + 2 ∨ q = t + 3) g1 (zsI g1 (t + 2) nm.toNat (iI f)) := fr_I (Or.inr (Or.inl rfl))
  have d1 : ∀ a i, ¬ a = t + 2 → zI (zsI g1 (t + 2) nm.toNat (iI f)) a i = zI g1 a i := fun a i ha => by rw [zI_sI, if_neg (fun z => ha z.1)]
  have d2 : ∀ i, zI (zsI g1 (t + 2) nm.toNat (iI f)) (t + 2) i = if i = nm.toNat then iI f else zI g1 (t + 2) i := fun i => by
    rw [zI_sI]
    by_cases c : i = nm.toNat
    · rw [if_pos ⟨rfl, c⟩, if_pos c]
    · rw [if_neg (fun z => c z.2), if_neg c]
  have dR : zR (zsI g1 (t + 2) nm.toNat (iI f)) = zR h := eR
  have dK : zK (zsI g1 (t + 2) nm.toNat (iI f)) = zK h := eK
  have dL : zL (zsI g1 (t + 2) nm.toNat (iI f)) = zL h := eL
  have dN : zN (zsI g1 (t + 2) nm.toNat (iI f)) = zN h := eN
  generalize zsI g1 (t + 2) nm.toNat (iI f) = g2 at f2 d1 d2 dR dK dL dN
  refine vs_ok 7 ?_
  rw [show ((gRes 93).drop 18).take 7 = [.aload 0, .dup, .getfield 7030, .iconst 1, .iadd, .putfield 7030, .return_] from rfl]
  simp only [vs_iadd, vs_iconst, vs_getfield, vs_putfield, vs_return_, vs_dupi, vs_dupr, vs_aload0, vs_nil, gv_0, gv_1, gv_2, gv_3, pv_0, pv_1, va_rf_s, Nat.reduceDiv, Nat.reduceMod, Nat.reduceAdd, Nat.reduceMul, Int.reduceToNat, true_and, and_true, and_self, cP_eq, cP_ne, cP_lt, cP_ge, cP_gt, cP_le, eL_i, eL_l, eL_r, eL_n, Option.toList_none, Option.toList_some, List.nil_append, List.cons_append, dK, dN, h1, h2', d1 t 3 (by omega), e1 t 3 (by omega), h6, iI_add]
  refine ⟨_, rfl, by decide, hq _ (f1.tr (f2.tr (fr_I (Or.inl rfl)))) ?_⟩
  refine ⟨by rw [show zK (zsI g2 t 3 (iI (nm + 1))) = zK g2 from rfl, dK]; exact h1, by rw [show zN (zsI g2 t 3 (iI (nm + 1))) = zN g2 from rfl, dN]; exact h2, ⟨by rw [show zR (zsI g2 t 3 (iI (nm + 1))) = zR g2 from rfl, dR]; exact p1, by rw [show zK (zsI g2 t 3 (iI (nm + 1))) = zK g2 from rfl, dK]; exact p2, by rw [show zL (zsI g2 t 3 (iI (nm + 1))) = zL g2 from rfl, dL]; exact p3, fun i hi => by rw [show zR (zsI g2 t 3 (iI (nm + 1))) = zR g2 from rfl, dR]; exact p4 i hi⟩, ⟨by rw [show zR (zsI g2 t 3 (iI (nm + 1))) = zR g2 from rfl, dR]; exact a1, by rw [show zK (zsI g2 t 3 (iI (nm + 1))) = zK g2 from rfl, dK]; exact a2, by rw [show zL (zsI g2 t 3 (iI (nm + 1))) = zL g2 from rfl, dL]; exact a3, fun i hi => ?_⟩, ⟨by rw [show zR (zsI g2 t 3 (iI (nm + 1))) = zR g2 from rfl, dR]; exact b1, by rw [show zK (zsI g2 t 3 (iI (nm + 1))) = zK g2 from rfl, dK]; exact b2, by rw [show zL (zsI g2 t 3 (iI (nm + 1))) = zL g2 from rfl, dL]; exact b3, fun i hi => ?_⟩, by rw [zI_sI, if_pos ⟨rfl, rfl⟩], by omega, by omega⟩
  · rw [zI_sI, if_neg (by omega), d2, e1 (t + 2) i (by omega), a4 i hi]
    show _ = iI (if i = nm.toNat then f else F i)
    split <;> rfl
  · rw [zI_sI, if_neg (by omega), d1 (t + 3) i (by omega), e2, b4 i hi]
    show _ = iI (if i = nm.toNat then w else Wd i)
    split <;> rfl
