/-! the contracts of all methods at once -/
set_option maxRecDepth 1000000 in
theorem k0_l : ∀ k ∈ gPl, (gTab k)[0]?.map (fun q => q.1) = some 0 := by decide +kernel
set_option maxRecDepth 1000000 in
theorem gPv_o : ∀ y ∈ List.range 284, gSt y = 0 → y ∈ gPl ∧ gOwn y < 13 ∧ y ∈ gPv := by decide +kernel
set_option maxRecDepth 1000000 in
theorem gPi_o : ∀ y ∈ List.range 284, gSt y = 2 → y ≠ 281 → y ∈ gPl ∧ y ∈ gPi := by decide +kernel
set_option maxRecDepth 1000000 in
theorem gPs_o : ∀ y ∈ gPl, gSt y = 1 → y ∈ gPs := by decide +kernel
set_option maxRecDepth 1000000 in
theorem gPl_n : ∀ y ∈ gPl, y < gNM ∧ ¬ (271 ≤ y ∧ y ≤ 274) ∧ y ≠ gLAW := by decide +kernel
theorem gPi_v {y : Nat} (h : y ∈ gPv) : y ∈ gPi := by
  obtain ⟨h1, h2⟩ := List.mem_filter.mp h
  have h3 : gSt y = 0 := by simpa using h2
  exact List.mem_filter.mpr ⟨h1, by rw [h3]; rfl⟩
/-- no method but the law calls the law's own helpers -/
def kHp (k : Nat) : Bool := (gRes k).all (fun q => match q with
  | .invokestatic y => decide (y ∈ gPl)
  | _ => true)
set_option maxRecDepth 1000000 in
theorem kHp_l : ∀ k ∈ gPl, kHp k = true := by decide +kernel
set_option maxRecDepth 100000 in
set_option maxHeartbeats 4000000 in
theorem met_of (l : Launch) (n : Nat) {y : Nat} (hy : y ∈ gPl) (ih : ∀ j, j < n → CallOK l y j) {D : va_G} {cy : Nat → ClassId} {ad : Nat → Nat} {h h1 : Hp} {d' sz : Nat} {a : List Value} {v : Option Value} (hle : (eL a).length ≤ gML y) (hwf : zWF h) (hn : zN h ≤ zSC) (he : ev n d' y 0 (entL (gML y) a) [] h = some (0, v, h1)) :
    Met l (gY y) (wsU y) (rmU (d' + 1) (zC h1 - zC h) (zS h1 - zS h)) (gP D cy ad h sz a) (gQ D cy ad h v h1 (va_A (gws ad cy h) sz)) (zC h1 - zC h) (zS h1 - zS h) (va_A (gws ad cy h) sz) := by
  obtain ⟨hyN, hyH, hyL⟩ := gPl_n y hy
  have hM := mOK_of (mOK_l y hy)
  obtain ⟨hM1, hM2, hM3, hM4, hM5, hR0, hR1, hR2, hR3, hR4, hM6⟩ := hM
  refine Met.ofW (cc := gB y) (maxL := gML y) (ret := gRt y) hM5 rfl ?_
  intro p e s m args below meth c s₁ B hml hv
  obtain ⟨rfl, hsz, hP, hK, hD0⟩ := hv
  have hx := B.exec
  have hb := B.bytes
  have hr := B.returns
  have hts0 := atoms_spec (ws := wsU y) B.pre
  have hts : ∀ w ∈ gAll, w.before (a.map (rV ad)).toArray s = true := fun w hw => hts0 w (List.mem_cons_of_mem _ hw)
  have hown : s.vm.findClass (gC (gOwn y)) = some m.cls := by
    rw [← hM1]
    exact findClass_of_methodNamed B.named
  have hlocks := B.notSynchronized
  have hin : meth.name = (gY y).name := (name_of_methodNamed B.named B.method).1
  subst hsz
  have hD := hD0.self (sz := s.heap.size)
  generalize hAe : va_A (gws ad cy h) s.heap.size = A at hD ⊢
  have hA : ∀ q : Nat, s.heap.size ≤ q → A q := fun q h => by rw [← hAe]; exact Or.inr h
  have hS : va_S A s.heap s.heap [] := va_S.rf
  have hl := lv_entry (a.map (rV ad)) (n := gML y) (by rw [sl_len]; exact hle)
  rw [lg_entry_eq]
  generalize (lg_sl (a.map (rV ad)) ++ List.replicate (gML y - (lg_sl (a.map (rV ad))).length) Slot.unset).toArray = lsr at hl ⊢
  have hl2 := ent_has hle hl
  have hkp := ev_keep _ _ _ _ _ _ _ _ _ _ he hn
  have h0 := k0_l y hy
  cases hq : (gTab y)[0]? with
  | none => rw [hq] at h0; cases h0
  | some q =>
  obtain ⟨pc, o, len⟩ := q
  rw [hq] at h0
  have hpc : pc = 0 := Option.some.inj h0
  subst hpc
  have c1 := hkp.2.2.2.2.1
  have c2 := hkp.2.2.2.2.2
  refine body l y hyN hyH n ih d' 0 (entL (gML y) a) [] h v h1 he p e _ s m _ below meth c _ D cy A ad s.heap [] 0 0 lsr 0 len o ⟨hx, hb, hml, hown, hts, hK, fun q => by rw [hin, (hM6 q).1]⟩ ⟨hP, hD, hS, hwf, hn⟩ hl2 (ent_len hle) hq hA (Nat.le_refl _) (Nat.le_refl _) (by show 0 + zC h1 ≤ zC h1 - zC h + zC h; omega) (by show 0 + zS h1 ≤ zS h1 - zS h + zS h; omega) (fun q => absurd q hyL) (fun pc' o' st' ad' cells' slots' H' locs' lsr' g1 g2 g3 g4 g5 g6 => ?_)
  obtain rfl : cells' = zC h1 - zC h := by omega
  obtain rfl : slots' = zS h1 - zS h := by omega
  obtain ⟨hP6, hD6, hS6, hwf6, hn6⟩ := g6
  cases o'
  case return_ =>
    dsimp only [rtv] at g2
    split at g2
    rotate_left
    · cases g2
    rename_i hc
    obtain ⟨rfl, hrc⟩ := hc
    cases g2
    exact W.vret hx hb (by rw [hr, hR0 hrc]) (fun t ht hW => ⟨ad', g3, rfl, by rw [ht]; exact hP6, hD6, hS6.F ht, hwf6⟩) hS6.2.2 g1
  case ireturn =>
    dsimp only [rtv] at g2
    split at g2
    rotate_left
    · cases g2
    rename_i x
    split at g2
    rotate_left
    · cases g2
    rename_i hc
    cases g2
    rcases hc with hc | ⟨hc, hz⟩
    · exact W.zret (ty := .int) hx hb (by rw [hr, hR1 hc]) rfl (fun t ht hW => ⟨ad', g3, rfl, by rw [ht]; exact hP6, hD6, hS6.F ht, hwf6⟩) hS6.2.2 g1
    · exact W.zret (ty := .boolean) hx hb (by rw [hr, hR2 hc]) (by rcases hz with rfl | rfl <;> rfl) (fun t ht hW => ⟨ad', g3, rfl, by rw [ht]; exact hP6, hD6, hS6.F ht, hwf6⟩) hS6.2.2 g1
  case lreturn =>
    dsimp only [rtv] at g2
    split at g2
    rotate_left
    · cases g2
    rename_i x
    split at g2
    rotate_left
    · cases g2
    rename_i hc
    cases g2
    exact W.lret hx hb (by rw [hr, hR3 hc]) (fun t ht hW => ⟨ad', g3, rfl, by rw [ht]; exact hP6, hD6, hS6.F ht, hwf6⟩) hS6.2.2 g1
  case areturn =>
    dsimp only [rtv] at g2
    split at g2
    rotate_left
    · cases g2
    rename_i x
    split at g2
    rotate_left
    · cases g2
    rename_i hc
    cases g2
    obtain ⟨t0, ht0, ht1⟩ := hR4 hc
    exact W.aret hx hb (by rw [hr, ht0]) ht1 (Or.inr ⟨_, rfl⟩) (fun t ht hW => ⟨ad', g3, rfl, by rw [ht]; exact hP6, hD6, hS6.F ht, hwf6⟩) hS6.2.2 g1
  all_goals (dsimp only [rtv] at g2; cases g2)
theorem cat_map (ad : Nat → Nat) (r : List Value) (hr : catS r ≤ 8) : ((r.map (rV ad)).map fun v => v.category).sum ≤ 8 := by
  rw [List.map_map, show ((fun v => Value.category v) ∘ rV ad) = (fun v => v.category) from funext fun v => rV_cat ad v]
  exact hr
set_option maxRecDepth 100000 in
set_option maxHeartbeats 4000000 in
/-- one call of a method with a contract -/
theorem call_of (l : Launch) (n k : Nat) (hk : k < gNM) (hst : ∀ y, .invokestatic y ∈ gRes k → y ∈ gPl) (ih : ∀ y ∈ gPl, ∀ j, j < n → CallOK l y j) : CallOK l k n := by
  intro p e R s m args below meth c D cy A ad h H locs cells slots lsr pc len o st d' y a r v h1 hC hR hsz hmem hcl hcat hle he hfr hlo hcr hsr
  obtain ⟨hx0, hb, hml, hown, hts, hK, hini⟩ := hC
  obtain ⟨hP, hD, hS, hwf, hn⟩ := hR
  have hdg := KD_all k hk _ hmem
  dsimp only at hdg
  have hln : ilen o = len ∨ ilen o = 0 := by
    have := List.all_eq_true.mp (kLn_l k (List.mem_range.mpr hk)) _ hmem
    simpa using this
  have hkp := ev_keep _ _ _ _ _ _ _ _ _ _ he hn
  have c1 := hkp.2.2.2.2.1
  have c2 := hkp.2.2.2.2.2
  have hrsm : rs k (gTab k) pc o ∈ gRes k := by
    rw [KR_all k hk]
    exact List.mem_map.mpr ⟨_, hmem, rfl⟩
  have hSt := List.all_eq_true.mp (kSty_l k (List.mem_range.mpr hk)) _ hrsm
  have hcat2 := cat_map ad r hcat
  have hroom : (rmU (d' + 1) (zC h1 - zC h) (zS h1 - zS h)).frames + 1 ≤ R.frames := hfr
  have hf : cells + (zC h1 - zC h) ≤ R.cells ∧ slots + (zS h1 - zS h) ≤ R.slots := ⟨by omega, by omega⟩
  have hpre : ∀ U : State, U.heap = H → s.WarmedH U.vm → gP D cy ad h H.size a ((a.map (rV ad)).toArray) U := fun U hU hW => ⟨rfl, by rw [hU], by rw [hU]; exact hP, WK_moved hW hK, hD.weaken (fun _ _ _ _ => trivial)⟩
  cases o
  case invokevirtual x =>
    obtain rfl : len = 3 := len_of (N := 3) hln (by decide)
    dsimp only [rs] at hcl hSt
    cases hq : lk gLk (gOwn k) x with
    | none => rw [hq] at hcl; cases hcl
    | some y0 =>
    rw [hq] at hcl hSt
    dsimp only [oi, Option.map, Option.getD, cl] at hcl
    have hs0 : gSt y0 = 0 := by simpa [oi] using hSt
    split at hcl
    rotate_left
    · cases hcl
    rename_i b r0 hdrop
    split at hcl
    rotate_left
    · cases hcl
    rename_i hbb
    cases hcl
    have hm := lk_get hq
    have hlt : y < 284 := gLk_n _ hm
    obtain ⟨hy, ho13, hyv⟩ := gPv_o y (List.mem_range.mpr hlt) hs0
    obtain ⟨hM1, hM2, hM3, hM4, hM5, -⟩ := mOK_of (mOK_l y hy)
    have hM := met_of l n hy (ih y hy) (D := D) (cy := cy) (ad := ad) (sz := H.size) hle hwf hn he
    have hlen : ((st.take (gNP y)).reverse).length = gNP y := by
      have : (st.drop (gNP y)).length = (Value.ref b :: r).length := by rw [hdrop]
      simp only [List.length_drop, List.length_cons] at this
      simp
      omega
    have hst2 : st.map (rV ad) = (((st.take (gNP y)).reverse).map (rV ad)).reverse ++ .ref (ad b) :: r.map (rV ad) := by
      rw [← List.map_reverse, List.reverse_reverse, show (Value.ref (ad b) :: r.map (rV ad)) = (Value.ref b :: r).map (rV ad) from rfl, ← hdrop, ← List.map_append, List.take_append_drop]
    have hget := gws_get (ad := ad) (cy := cy) hbb.2
    rw [gE_obj hbb.1 ho13] at hget
    refine va_runV (b := ad b) (As := ((st.take (gNP y)).reverse).map (rV ad)) ⟨hx0, hb, hml, hown, hts⟩ hM (cwV (gNP y) hts (gI (fun w hw => ?_)) rfl rfl rfl ⟨hM1, hM2.1, hM2.2, hM3⟩ ⟨hroom, ?_⟩) ⟨gP_blind, va_recv hK.1 hP (kind_ok _ ho13).1 hget, hpre⟩ rfl (by rw [List.length_map]; exact hlen) hsz hst2 (lv_room hcat2) hdg hf
    · rcases List.mem_append.mp hw with hw | hw
      · simp only [List.mem_cons, List.not_mem_nil, or_false] at hw
        rcases hw with rfl | rfl | rfl | rfl
        · exact gLk_w _ hm
        · exact gIm_w y (gPi_v hyv)
        · exact gSe_w y hyv
        · exact gMi_w y hy
      · exact gI_U hy w hw
    · show 8 + (gML y + 11) + 60 * (d' + 1) ≤ R.locals
      omega
  case invokespecial x =>
    obtain rfl : len = 3 := len_of (N := 3) hln (by decide)
    dsimp only [rs] at hcl hSt
    cases hq : lk gLk (gOwn k) x with
    | some y0 =>
      rw [hq] at hcl hSt
      dsimp only at hcl hSt
      split at hcl
      · cases hcl
      rename_i hne
      rw [if_neg hne] at hSt
      dsimp only [cl] at hcl
      have hs0 : gSt y0 = 2 := by simpa using hSt
      split at hcl
      rotate_left
      · cases hcl
      rename_i b r0 hdrop
      cases hcl
      have hm := lk_get hq
      have hlt : y < 284 := gLk_n _ hm
      obtain ⟨hy, hyi⟩ := gPi_o y (List.mem_range.mpr (by omega)) hs0 (by omega)
      obtain ⟨hM1, hM2, hM3, hM4, hM5, -, -, -, -, -, hM6⟩ := mOK_of (mOK_l y hy)
      have hM := met_of l n hy (ih y hy) (D := D) (cy := cy) (ad := ad) (sz := H.size) hle hwf hn he
      have hlen : ((st.take (gNP y)).reverse).length = gNP y := by
        have : (st.drop (gNP y)).length = (Value.ref b :: r).length := by rw [hdrop]
        simp only [List.length_drop, List.length_cons] at this
        simp
        omega
      have hst2 : st.map (rV ad) = (((st.take (gNP y)).reverse).map (rV ad)).reverse ++ .ref (ad b) :: r.map (rV ad) := by
        rw [← List.map_reverse, List.reverse_reverse, show (Value.ref (ad b) :: r.map (rV ad)) = (Value.ref b :: r).map (rV ad) from rfl, ← hdrop, ← List.map_append, List.take_append_drop]
      refine va_runI (b := ad b) (As := ((st.take (gNP y)).reverse).map (rV ad)) ⟨hx0, hb, hml, hown, hts⟩ hM (cwI (gNP y) hts (gI (gI_U hy)) (by unfold wsU wCd; rw [(hM6 hs0).2]) rfl rfl (by rw [hM1]; exact hts _ (gMi_w y hy)) (hts _ (gLk_w _ hm)) (hts _ (gIm_w y hyi)) (hM6 hs0).1 ⟨hM2.1, hM2.2, hM3⟩ ⟨hroom, ?_⟩) ⟨gP_blind, hpre⟩ rfl (by rw [List.length_map]; exact hlen) hsz hst2 (lv_room hcat2) hdg hf
      show 8 + (gML y + 11) + 60 * (d' + 1) ≤ R.locals
      omega
    | none =>
      rw [hq] at hcl hSt
      dsimp only at hcl hSt
      cases hq2 : lk gNk (gOwn k) x with
      | none => rw [hq2] at hcl; cases hcl
      | some y0 =>
      rw [hq2] at hcl hSt
      dsimp only [oi, Option.map, Option.getD, cl] at hcl
      have hs0 : gSt y0 = 2 := by simpa [oi] using hSt
      split at hcl
      rotate_left
      · cases hcl
      rename_i b r0 hdrop
      cases hcl
      have hm := lk_get hq2
      have hlt : y < 271 := (gNk_n _ hm).1
      obtain ⟨hy, hyi⟩ := gPi_o y (List.mem_range.mpr (by omega)) hs0 (by omega)
      obtain ⟨hM1, hM2, hM3, hM4, hM5, -, -, -, -, -, hM6⟩ := mOK_of (mOK_l y hy)
      have hM := met_of l n hy (ih y hy) (D := D) (cy := cy) (ad := ad) (sz := H.size) hle hwf hn he
      have hlen : ((st.take (gNP y)).reverse).length = gNP y := by
        have : (st.drop (gNP y)).length = (Value.ref b :: r).length := by rw [hdrop]
        simp only [List.length_drop, List.length_cons] at this
        simp
        omega
      have hst2 : st.map (rV ad) = (((st.take (gNP y)).reverse).map (rV ad)).reverse ++ .ref (ad b) :: r.map (rV ad) := by
        rw [← List.map_reverse, List.reverse_reverse, show (Value.ref (ad b) :: r.map (rV ad)) = (Value.ref b :: r).map (rV ad) from rfl, ← hdrop, ← List.map_append, List.take_append_drop]
      refine va_runIN (b := ad b) (As := ((st.take (gNP y)).reverse).map (rV ad)) ⟨hx0, hb, hml, hown, hts⟩ hM ⟨va_cnB (gNP y) hts (gI (gI_U hy)) (by unfold wsU wCd; rw [(hM6 hs0).2]) rfl rfl (hK.2.2 _ hm) (by rw [hM1]; exact hts _ (gMi_w y hy)) ⟨hM2.1, hM2.2, hM3⟩ ⟨hroom, ?_⟩, (hM6 hs0).1, hts _ (gIm_w y hyi)⟩ ⟨gP_blind, hpre⟩ rfl (by rw [List.length_map]; exact hlen) hsz hst2 (lv_room hcat2) hdg hf
      show 8 + (gML y + 11) + 60 * (d' + 1) ≤ R.locals
      omega
  case invokestatic x =>
    obtain rfl : len = 3 := len_of (N := 3) hln (by decide)
    dsimp only [rs] at hcl hSt hrsm
    split at hcl
    · cases hcl
    rename_i hnac
    rw [if_neg hnac] at hSt hrsm
    cases hq : lk gLk (gOwn k) x with
    | none => rw [hq] at hcl; cases hcl
    | some y0 =>
    rw [hq] at hcl hSt hrsm
    dsimp only [oi, Option.map, Option.getD] at hcl hSt hrsm
    split at hcl
    · cases hcl
    rename_i hlt8
    rw [if_neg hlt8] at hSt hrsm
    have hs0 : gSt y0 = 1 := by simpa using hSt
    have hy0 := hst y0 hrsm
    dsimp only [cl] at hcl
    split at hcl
    rotate_left
    · cases hcl
    rename_i hnp
    cases hcl
    have hy := hy0
    have hm := lk_get hq
    have hys := gPs_o y hy hs0
    obtain ⟨hM1, hM2, hM3, hM4, hM5, -⟩ := mOK_of (mOK_l y hy)
    have hM := met_of l n hy (ih y hy) (D := D) (cy := cy) (ad := ad) (sz := H.size) hle hwf hn he
    have hlen : ((st.take (gNP y)).reverse).length = gNP y := by
      simp
      omega
    have hst2 : st.map (rV ad) = (((st.take (gNP y)).reverse).map (rV ad)).reverse ++ (st.drop (gNP y)).map (rV ad) := by
      rw [← List.map_reverse, List.reverse_reverse, ← List.map_append, List.take_append_drop]
    refine va_runS (As := ((st.take (gNP y)).reverse).map (rV ad)) ⟨hx0, hb, hml, hown, hts⟩ hM (va_cwS (gNP y) hts (gI (fun w hw => ?_)) rfl rfl rfl ⟨hM2.1, hM2.2, hM3⟩ ⟨hroom, ?_⟩) ⟨gP_blind, hpre⟩ rfl (by rw [List.length_map]; exact hlen) hsz hst2 (lv_room hcat2) hdg hf
    · rcases List.mem_append.mp hw with hw | hw
      · simp only [List.mem_cons, List.not_mem_nil, or_false] at hw
        rcases hw with rfl | rfl | rfl
        · exact gLk_w _ hm
        · exact gSm_w y hys
        · rw [hM1]
          exact gMi_w y hy
      · exact gI_U hy w hw
    · show 8 + (gML y + 11) + 60 * (d' + 1) ≤ R.locals
      omega
  all_goals (exfalso; have h3 := cl_is hcl; first | (cases h3; done) | skip)
  case ldc x =>
    rw [show isCl (rs k (gTab k) pc (.ldc x)) = false from oi_cl _ _ (fun _ => rfl)] at h3
    cases h3
  case ldc_w x =>
    rw [show isCl (rs k (gTab k) pc (.ldc_w x)) = false from oi_cl _ _ (fun _ => rfl)] at h3
    cases h3
  case ldc2_w x =>
    rw [show isCl (rs k (gTab k) pc (.ldc2_w x)) = false from oi_cl _ _ (fun _ => rfl)] at h3
    cases h3
  case getfield x =>
    rw [show isCl (rs k (gTab k) pc (.getfield x)) = false from oi_cl _ _ (fun _ => rfl)] at h3
    cases h3
  case putfield x =>
    rw [show isCl (rs k (gTab k) pc (.putfield x)) = false from oi_cl _ _ (fun _ => rfl)] at h3
    cases h3
  case goto x =>
    rw [show isCl (rs k (gTab k) pc (.goto x)) = false from oi_cl _ _ (fun _ => rfl)] at h3
    cases h3
  case if_icmp c0 x =>
    rw [show isCl (rs k (gTab k) pc (.if_icmp c0 x)) = false from oi_cl _ _ (fun _ => rfl)] at h3
    cases h3
  case ifCond c0 x =>
    rw [show isCl (rs k (gTab k) pc (.ifCond c0 x)) = false from oi_cl _ _ (fun _ => rfl)] at h3
    cases h3
  case new x =>
    dsimp only [rs] at h3
    split at h3
    · cases h3
    · split at h3 <;> cases h3
  case anewarray x =>
    dsimp only [rs] at h3
    split at h3 <;> cases h3
  case iaload =>
    dsimp only [rs] at h3
    split at h3 <;> cases h3
  case arraylength =>
    dsimp only [rs] at h3
    split at h3 <;> cases h3
theorem callOK (l : Launch) : ∀ n : Nat, ∀ k ∈ gPl, CallOK l k n := by
  intro n
  induction n using Nat.strongRecOn with
  | ind n ih =>
    intro k hk
    refine call_of l n k (gPl_n k hk).1 (fun y hy => ?_) (fun y hy j hj => ih j hj y hy)
    have := List.all_eq_true.mp (kHp_l k hk) _ hy
    simpa using this
