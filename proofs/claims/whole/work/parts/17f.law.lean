/-! the law's own body -/
set_option maxRecDepth 1000000 in
theorem kLs_l : kLs = true := by decide +kernel
/-- calls but the static ones -/
def CallN (l : Launch) (k n : Nat) : Prop := ∀ (p : Program) (e : Env) (R : Room) (s : State) (m : MethodId) (args : Array Value) (below : List Frame) (meth : Method) (c : Code) (D : va_G) (cy : Nat → ClassId) (A : Nat → Prop) (ad : Nat → Nat) (h : Hp) (H : Heap) (locs : List Loc) (cells slots : Nat) (lsr : Array Slot) (pc len : Nat) (o : Instr) (st : List Value) (d' y : Nat) (a r : List Value) (v : Option Value) (h1 : Hp),
  (∀ x, o ≠ .invokestatic x) → Cx D cy k p s m args meth c → Rl D cy ad h A s H locs → lsr.size = gML k → (pc, o, len) ∈ gTab k → cl (rs k (gTab k) pc o) st h = some (y, a, r) → catS r ≤ 8 → (eL a).length ≤ gML y → ev n d' y 0 (entL (gML y) a) [] h = some (0, v, h1) → d' + 2 ≤ R.frames → 60 * (d' + 2) ≤ R.locals → cells + zC h1 ≤ R.cells + zC h → slots + zS h1 ≤ R.slots + zS h →
  va_Run p l e R s m args below meth c H locs cells slots (zC h1 - zC h) (zS h1 - zS h) (F0 m pc lsr (st.map (rV ad))) (r.map (rV ad)) (gQ D cy ad h v h1 (va_A (gws ad cy h) H.size) ((a.map (rV ad)).toArray)) (va_A (gws ad cy h) H.size)
/-- the law's calls -/
def CallZ (l : Launch) (k n : Nat) : Prop := ∀ (p : Program) (e : Env) (R : Room) (s : State) (m : MethodId) (args : Array Value) (below : List Frame) (meth : Method) (c : Code) (D : va_G) (cy : Nat → ClassId) (A : Nat → Prop) (ad : Nat → Nat) (h : Hp) (H : Heap) (locs : List Loc) (cells slots : Nat) (lsr : Array Slot) (pc len : Nat) (o : Instr) (st : List Value) (d' y : Nat) (a r : List Value) (v : Option Value) (h1 : Hp),
  ZX A s → (∀ q, s.heap.size ≤ q → A q) → 9 ≤ d' → Cx D cy k p s m args meth c → Rl D cy ad h A s H locs → lsr.size = gML k → (pc, o, len) ∈ gTab k → cl (rs k (gTab k) pc o) st h = some (y, a, r) → catS r ≤ 8 → (eL a).length ≤ gML y → ev n d' y 0 (entL (gML y) a) [] h = some (0, v, h1) → d' + 2 ≤ R.frames → 60 * (d' + 2) ≤ R.locals → cells + zC h1 ≤ R.cells + zC h → slots + zS h1 ≤ R.slots + zS h →
  va_Run p l e R s m args below meth c H locs cells slots (zC h1 - zC h) (zS h1 - zS h) (F0 m pc lsr (st.map (rV ad))) (r.map (rV ad)) (gQ D cy ad h v h1 (va_A (gws ad cy h) H.size) ((a.map (rV ad)).toArray)) (va_A (gws ad cy h) H.size)
set_option maxRecDepth 100000 in
set_option maxHeartbeats 4000000 in
theorem call_ofN (l : Launch) (n k : Nat) (hk : k < gNM) (ih : ∀ y ∈ gPl, ∀ j, j < n → CallOK l y j) : CallN l k n := by
  intro p e R s m args below meth c D cy A ad h H locs cells slots lsr pc len o st d' y a r v h1 hno hC hR hsz hmem hcl hcat hle he hfr hlo hcr hsr
  obtain ⟨hx0, hb, hml, hown, hts, hK, hini⟩ := hC
  obtain ⟨hP, hD, hS, hwf, hn⟩ := hR
  have hdg := KD_all k hk _ hmem
  dsimp only at hdg
  have hln : ilen o = len ∨ ilen o = 0 := by
    have := List.all_eq_true.mp (kLn_l k (List.mem_range.mpr hk)) _ hmem
    simpa using this
  have hkp := ev_keep _ _ _ _ _ _ _ _ _ _ he hn
  have c1 := hkp.2.2.2.2.1
  have c2 := hkp.2.2.2.2.2
  have hrsm : rs k (gTab k) pc o ∈ gRes k := by
    rw [KR_all k hk]
    exact List.mem_map.mpr ⟨_, hmem, rfl⟩
  have hSt := List.all_eq_true.mp (kSty_l k (List.mem_range.mpr hk)) _ hrsm
  have hcat2 := cat_map ad r hcat
  have hroom : (rmU (d' + 1) (zC h1 - zC h) (zS h1 - zS h)).frames + 1 ≤ R.frames := hfr
  have hf : cells + (zC h1 - zC h) ≤ R.cells ∧ slots + (zS h1 - zS h) ≤ R.slots := ⟨by omega, by omega⟩
  have hpre : ∀ U : State, U.heap = H → s.WarmedH U.vm → gP D cy ad h H.size a ((a.map (rV ad)).toArray) U := fun U hU hW => ⟨rfl, by rw [hU], by rw [hU]; exact hP, WK_moved hW hK, hD.weaken (fun _ _ _ _ => trivial)⟩
  cases o
  case invokevirtual x =>
    obtain rfl : len = 3 := len_of (N := 3) hln (by decide)
    dsimp only [rs] at hcl hSt
    cases hq : lk gLk (gOwn k) x with
    | none => rw [hq] at hcl; cases hcl
    | some y0 =>
    rw [hq] at hcl hSt
    dsimp only [oi, Option.map, Option.getD, cl] at hcl
    have hs0 : gSt y0 = 0 := by simpa [oi] using hSt
    split at hcl
    rotate_left
    · cases hcl
    rename_i b r0 hdrop
    split at hcl
    rotate_left
    · cases hcl
    rename_i hbb
    cases hcl
    have hm := lk_get hq
    have hlt : y < 284 := gLk_n _ hm
    obtain ⟨hy, ho13, hyv⟩ := gPv_o y (List.mem_range.mpr hlt) hs0
    obtain ⟨hM1, hM2, hM3, hM4, hM5, -⟩ := mOK_of (mOK_l y hy)
    have hM := met_of l n hy (ih y hy) (D := D) (cy := cy) (ad := ad) (sz := H.size) hle hwf hn he
    have hlen : ((st.take (gNP y)).reverse).length = gNP y := by
      have : (st.drop (gNP y)).length = (Value.ref b :: r).length := by rw [hdrop]
      simp only [List.length_drop, List.length_cons] at this
      simp
      omega
    have hst2 : st.map (rV ad) = (((st.take (gNP y)).reverse).map (rV ad)).reverse ++ .ref (ad b) :: r.map (rV ad) := by
      rw [← List.map_reverse, List.reverse_reverse, show (Value.ref (ad b) :: r.map (rV ad)) = (Value.ref b :: r).map (rV ad) from rfl, ← hdrop, ← List.map_append, List.take_append_drop]
    have hget := gws_get (ad := ad) (cy := cy) hbb.2
    rw [gE_obj hbb.1 ho13] at hget
    refine va_runV (b := ad b) (As := ((st.take (gNP y)).reverse).map (rV ad)) ⟨hx0, hb, hml, hown, hts⟩ hM (cwV (gNP y) hts (gI (fun w hw => ?_)) rfl rfl rfl ⟨hM1, hM2.1, hM2.2, hM3⟩ ⟨hroom, ?_⟩) ⟨gP_blind, va_recv hK.1 hP (kind_ok _ ho13).1 hget, hpre⟩ rfl (by rw [List.length_map]; exact hlen) hsz hst2 (lv_room hcat2) hdg hf
    · rcases List.mem_append.mp hw with hw | hw
      · simp only [List.mem_cons, List.not_mem_nil, or_false] at hw
        rcases hw with rfl | rfl | rfl | rfl
        · exact gLk_w _ hm
        · exact gIm_w y (gPi_v hyv)
        · exact gSe_w y hyv
        · exact gMi_w y hy
      · exact gI_U hy w hw
    · show 8 + (gML y + 11) + 60 * (d' + 1) ≤ R.locals
      omega
  case invokespecial x =>
    obtain rfl : len = 3 := len_of (N := 3) hln (by decide)
    dsimp only [rs] at hcl hSt
    cases hq : lk gLk (gOwn k) x with
    | some y0 =>
      rw [hq] at hcl hSt
      dsimp only at hcl hSt
      split at hcl
      · cases hcl
      rename_i hne
      rw [if_neg hne] at hSt
      dsimp only [cl] at hcl
      have hs0 : gSt y0 = 2 := by simpa using hSt
      split at hcl
      rotate_left
      · cases hcl
      rename_i b r0 hdrop
      cases hcl
      have hm := lk_get hq
      have hlt : y < 284 := gLk_n _ hm
      obtain ⟨hy, hyi⟩ := gPi_o y (List.mem_range.mpr (by omega)) hs0 (by omega)
      obtain ⟨hM1, hM2, hM3, hM4, hM5, -, -, -, -, -, hM6⟩ := mOK_of (mOK_l y hy)
      have hM := met_of l n hy (ih y hy) (D := D) (cy := cy) (ad := ad) (sz := H.size) hle hwf hn he
      have hlen : ((st.take (gNP y)).reverse).length = gNP y := by
        have : (st.drop (gNP y)).length = (Value.ref b :: r).length := by rw [hdrop]
        simp only [List.length_drop, List.length_cons] at this
        simp
        omega
      have hst2 : st.map (rV ad) = (((st.take (gNP y)).reverse).map (rV ad)).reverse ++ .ref (ad b) :: r.map (rV ad) := by
        rw [← List.map_reverse, List.reverse_reverse, show (Value.ref (ad b) :: r.map (rV ad)) = (Value.ref b :: r).map (rV ad) from rfl, ← hdrop, ← List.map_append, List.take_append_drop]
      refine va_runI (b := ad b) (As := ((st.take (gNP y)).reverse).map (rV ad)) ⟨hx0, hb, hml, hown, hts⟩ hM (cwI (gNP y) hts (gI (gI_U hy)) (by unfold wsU wCd; rw [(hM6 hs0).2]) rfl rfl (by rw [hM1]; exact hts _ (gMi_w y hy)) (hts _ (gLk_w _ hm)) (hts _ (gIm_w y hyi)) (hM6 hs0).1 ⟨hM2.1, hM2.2, hM3⟩ ⟨hroom, ?_⟩) ⟨gP_blind, hpre⟩ rfl (by rw [List.length_map]; exact hlen) hsz hst2 (lv_room hcat2) hdg hf
      show 8 + (gML y + 11) + 60 * (d' + 1) ≤ R.locals
      omega
    | none =>
      rw [hq] at hcl hSt
      dsimp only at hcl hSt
      cases hq2 : lk gNk (gOwn k) x with
      | none => rw [hq2] at hcl; cases hcl
      | some y0 =>
      rw [hq2] at hcl hSt
      dsimp only [oi, Option.map, Option.getD, cl] at hcl
      have hs0 : gSt y0 = 2 := by simpa [oi] using hSt
      split at hcl
      rotate_left
      · cases hcl
      rename_i b r0 hdrop
      cases hcl
      have hm := lk_get hq2
      have hlt : y < 271 := (gNk_n _ hm).1
      obtain ⟨hy, hyi⟩ := gPi_o y (List.mem_range.mpr (by omega)) hs0 (by omega)
      obtain ⟨hM1, hM2, hM3, hM4, hM5, -, -, -, -, -, hM6⟩ := mOK_of (mOK_l y hy)
      have hM := met_of l n hy (ih y hy) (D := D) (cy := cy) (ad := ad) (sz := H.size) hle hwf hn he
      have hlen : ((st.take (gNP y)).reverse).length = gNP y := by
        have : (st.drop (gNP y)).length = (Value.ref b :: r).length := by rw [hdrop]
        simp only [List.length_drop, List.length_cons] at this
        simp
        omega
      have hst2 : st.map (rV ad) = (((st.take (gNP y)).reverse).map (rV ad)).reverse ++ .ref (ad b) :: r.map (rV ad) := by
        rw [← List.map_reverse, List.reverse_reverse, show (Value.ref (ad b) :: r.map (rV ad)) = (Value.ref b :: r).map (rV ad) from rfl, ← hdrop, ← List.map_append, List.take_append_drop]
      refine va_runIN (b := ad b) (As := ((st.take (gNP y)).reverse).map (rV ad)) ⟨hx0, hb, hml, hown, hts⟩ hM ⟨va_cnB (gNP y) hts (gI (gI_U hy)) (by unfold wsU wCd; rw [(hM6 hs0).2]) rfl rfl (hK.2.2 _ hm) (by rw [hM1]; exact hts _ (gMi_w y hy)) ⟨hM2.1, hM2.2, hM3⟩ ⟨hroom, ?_⟩, (hM6 hs0).1, hts _ (gIm_w y hyi)⟩ ⟨gP_blind, hpre⟩ rfl (by rw [List.length_map]; exact hlen) hsz hst2 (lv_room hcat2) hdg hf
      show 8 + (gML y + 11) + 60 * (d' + 1) ≤ R.locals
      omega
  case invokestatic x => exact absurd rfl (hno x)
  all_goals (exfalso; have h3 := cl_is hcl; first | (cases h3; done) | skip)
  case ldc x =>
    rw [show isCl (rs k (gTab k) pc (.ldc x)) = false from oi_cl _ _ (fun _ => rfl)] at h3
    cases h3
  case ldc_w x =>
    rw [show isCl (rs k (gTab k) pc (.ldc_w x)) = false from oi_cl _ _ (fun _ => rfl)] at h3
    cases h3
  case ldc2_w x =>
    rw [show isCl (rs k (gTab k) pc (.ldc2_w x)) = false from oi_cl _ _ (fun _ => rfl)] at h3
    cases h3
  case getfield x =>
    rw [show isCl (rs k (gTab k) pc (.getfield x)) = false from oi_cl _ _ (fun _ => rfl)] at h3
    cases h3
  case putfield x =>
    rw [show isCl (rs k (gTab k) pc (.putfield x)) = false from oi_cl _ _ (fun _ => rfl)] at h3
    cases h3
  case goto x =>
    rw [show isCl (rs k (gTab k) pc (.goto x)) = false from oi_cl _ _ (fun _ => rfl)] at h3
    cases h3
  case if_icmp c0 x =>
    rw [show isCl (rs k (gTab k) pc (.if_icmp c0 x)) = false from oi_cl _ _ (fun _ => rfl)] at h3
    cases h3
  case ifCond c0 x =>
    rw [show isCl (rs k (gTab k) pc (.ifCond c0 x)) = false from oi_cl _ _ (fun _ => rfl)] at h3
    cases h3
  case new x =>
    dsimp only [rs] at h3
    split at h3
    · cases h3
    · split at h3 <;> cases h3
  case anewarray x =>
    dsimp only [rs] at h3
    split at h3 <;> cases h3
  case iaload =>
    dsimp only [rs] at h3
    split at h3 <;> cases h3
  case arraylength =>
    dsimp only [rs] at h3
    split at h3 <;> cases h3
set_option maxRecDepth 100000 in
set_option maxHeartbeats 4000000 in
theorem callZ_of (l : Launch) (hfl : l.stackTraces = false) (n k : Nat) (hk : k < gNM) (hkl : k = gLAW) : CallZ l k n := by
  intro p e R s m args below meth c D cy A ad h H locs cells slots lsr pc len o st d' y a r v h1 hZ hA hd hC hR hsz hmem hcl hcat hle he hfr hlo hcr hsr
  by_cases hs : ∀ x, o ≠ .invokestatic x
  · exact call_ofN l n k hk (fun y hy j _ => callOK l j y hy) p e R s m args below meth c D cy A ad h H locs cells slots lsr pc len o st d' y a r v h1 hs hC hR hsz hmem hcl hcat hle he hfr hlo hcr hsr
  obtain ⟨x, rfl⟩ : ∃ x, o = .invokestatic x := by
    by_cases hq : ∃ x, o = .invokestatic x
    · exact hq
    · exact absurd (fun x hx => hq ⟨x, hx⟩) hs
  obtain ⟨hx0, hb, hml, hown, hts, hK, hini⟩ := hC
  obtain ⟨hP, hD, hS, hwf, hn⟩ := hR
  have hdg := KD_all k hk _ hmem
  dsimp only at hdg
  have hln : ilen (.invokestatic x) = len ∨ ilen (.invokestatic x) = 0 := by
    have := List.all_eq_true.mp (kLn_l k (List.mem_range.mpr hk)) _ hmem
    simpa using this
  have hkp := ev_keep _ _ _ _ _ _ _ _ _ _ he hn
  have c1 := hkp.2.2.2.2.1
  have c2 := hkp.2.2.2.2.2
  have hrsm : rs k (gTab k) pc (.invokestatic x) ∈ gRes k := by
    rw [KR_all k hk]
    exact List.mem_map.mpr ⟨_, hmem, rfl⟩
  have hSt := List.all_eq_true.mp (kSty_l k (List.mem_range.mpr hk)) _ hrsm
  have hcat2 := cat_map ad r hcat
  have hroom : (rmU (d' + 1) (zC h1 - zC h) (zS h1 - zS h)).frames + 1 ≤ R.frames := hfr
  have hf : cells + (zC h1 - zC h) ≤ R.cells ∧ slots + (zS h1 - zS h) ≤ R.slots := ⟨by omega, by omega⟩
  have hA1 : ∀ q, va_A (gws ad cy h) H.size q → A q := fun q hq => by
    rcases hq with ⟨j, E, hj⟩ | hq
    · exact hD.2 j (q, E) hj
    · exact hA q (Nat.le_trans hS.1 hq)
  have hpre : ∀ U : State, U.heap = H → s.WarmedH U.vm → gPX D cy ad h H.size a ((a.map (rV ad)).toArray) U := fun U hU hW => ⟨rfl, ⟨by rw [hU], by rw [hU]; exact hP, WK_moved hW hK, hD.weaken (fun _ _ _ _ => trivial)⟩, hZ.go hS hU hW hA1⟩
  obtain rfl : len = 3 := len_of (N := 3) hln (by decide)
  dsimp only [rs] at hcl hSt hrsm
  split at hcl
  · cases hcl
  rename_i hnac
  rw [if_neg hnac] at hSt hrsm
  cases hq : lk gLk (gOwn k) x with
  | none => rw [hq] at hcl; cases hcl
  | some y0 =>
  rw [hq] at hcl hSt hrsm
  dsimp only [oi, Option.map, Option.getD] at hcl hSt hrsm
  split at hcl
  · cases hcl
  rename_i hlt8
  rw [if_neg hlt8] at hSt hrsm
  have hs0 : gSt y0 = 1 := by simpa using hSt
  have hy0 : y0 ∈ gHlp := by
    subst hkl
    have := List.all_eq_true.mp kLs_l _ hrsm
    simpa using this
  dsimp only [cl] at hcl
  split at hcl
  rotate_left
  · cases hcl
  rename_i hnp
  cases hcl
  have hy := hy0
  have hm := lk_get hq
  obtain ⟨hM1, hM2, hM3, hM4, hM5, -⟩ := mOK_of (mOKh_l y hy)
  have hM := met_ofH l hfl n hy (D := D) (cy := cy) (ad := ad) (sz := H.size) hle hwf hn he hd
  have hlen : ((st.take (gNP y)).reverse).length = gNP y := by
    simp
    omega
  have hst2 : st.map (rV ad) = (((st.take (gNP y)).reverse).map (rV ad)).reverse ++ (st.drop (gNP y)).map (rV ad) := by
    rw [← List.map_reverse, List.reverse_reverse, ← List.map_append, List.take_append_drop]
  refine vx_runSW (hh := gHx y) (As := ((st.take (gNP y)).reverse).map (rV ad)) ⟨hx0, hb, hml, hown, hts⟩ hM (vx_cwSW (gNP y) hts (gI (fun w hw => ?_)) rfl rfl rfl ⟨hM2.1, hM2.2, hM3⟩ ⟨hroom, ?_⟩) ⟨gPX_blind, hpre⟩ rfl (by rw [List.length_map]; exact hlen) hsz hst2 (lv_room hcat2) hdg hf
  · rcases List.mem_append.mp hw with hw | hw
    · simp only [List.mem_cons, List.not_mem_nil, or_false] at hw
      rcases hw with rfl | rfl | rfl
      · exact gLk_w _ hm
      · exact gSmh_w y hy
      · rw [hM1]
        exact gMih_w y hy
    · exact gI_H hy w hw
  · show 8 + (gML y + 11) + 60 * (d' + 1) ≤ R.locals
    omega
set_option maxRecDepth 100000 in
set_option maxHeartbeats 4000000 in
theorem bodyL (l : Launch) (k : Nat) (hk : k < gNM) (hh : ¬ (271 ≤ k ∧ k ≤ 274)) : ∀ n : Nat, (∀ j, j < n → CallZ l k j) → ∀ (d i : Nat) (ls : List (Option Value)) (st : List Value) (h : Hp) (v : Option Value) (h' : Hp), ev n d k i ls st h = some (0, v, h') →
    ∀ (p : Program) (e : Env) (R : Room) (s : State) (m : MethodId) (args : Array Value) (below : List Frame) (meth : Method) (c : Code) (Q : State → Prop) (D : va_G) (cy : Nat → ClassId) (A : Nat → Prop) (ad : Nat → Nat) (H : Heap) (locs : List Loc) (cells slots : Nat) (lsr : Array Slot) (pc len : Nat) (o : Instr),
    ZX A s → 10 ≤ d → Cx D cy k p s m args meth c → Rl D cy ad h A s H locs → lv_has lsr ls.length (lzL ad ls) → ls.length = gML k → (gTab k)[i]? = some (pc, o, len) → (∀ q, s.heap.size ≤ q → A q) → d + 1 ≤ R.frames → 60 * (d + 1) ≤ R.locals → cells + zC h' ≤ R.cells + zC h → slots + zS h' ≤ R.slots + zS h → Sx k ad h A s →
    (∀ (pc' : Nat) (o' : Instr) (st' : List Value) (ad' : Nat → Nat) (cells' slots' : Nat) (H' : Heap) (locs' : List Loc) (lsr' : Array Slot), decode (gB k) pc' = .ok (o', 1) → rtv k o' st' = some v → (∀ a, a < zN h ∨ a = zSC → ad' a = ad a) → cells' + zC h = cells + zC h' → slots' + zS h = slots + zS h' → Rl D cy ad' h' A s H' locs' → W p l e R s m args below meth c H' locs' cells' slots' Q (F0 m pc' lsr' (st'.map (rV ad')))) →
    W p l e R s m args below meth c H locs cells slots Q (F0 m pc lsr (st.map (rV ad))) := by
  intro n
  induction n with
  | zero => intro _ d i ls st h v h' he; cases he
  | succ n ih =>
    intro hcall d i ls st h v h' he p e R s m args below meth c Q D cy A ad H locs cells slots lsr pc len o hZ hd hC hR hl hll ht hA hfr hlo hcr hsr hsx kr
    have ih := ih (fun j hj => hcall j (Nat.lt_succ_of_lt hj))
    have hkp := ev_keep _ _ _ _ _ _ _ _ _ _ he hR.2.2.2.2
    rw [ev_s] at he
    split at he
    · cases he
    rename_i ins hins
    obtain ⟨pc2, o2, len2, hrow, hinsr⟩ := gAll_row hk hins
    rw [ht] at hrow
    cases hrow
    have hmem := List.mem_of_getElem? ht
    have hdg := KD_all k hk _ hmem
    dsimp only at hdg
    split at he
    · -- a call
      rename_i y a r hcl
      split at he
      · cases he
      rename_i d'
      split at he
      rotate_left
      · cases he
      rename_i hcon
      split at he
      · rename_i v1 h1 hcev
        split at he
        rotate_left
        · cases he
        rename_i hfo
        have k1 := ev_keep _ _ _ _ _ _ _ _ _ _ hcev hR.2.2.2.2
        have k2 := ev_keep _ _ _ _ _ _ _ _ _ _ he k1.1
        rw [hinsr] at hcl
        have run := hcall n (Nat.lt_succ_self n) p e R s m args below meth c D cy A ad h H locs cells slots lsr pc len o st d' y a r v1 h1 hZ hA (by omega) hC hR (by rw [hl.1, hll]) hmem hcl hcon.1 hcon.2 hcev (by omega) (by omega) (by have := k2.2.2.2.2.1; omega) (by have := k2.2.2.2.2.2; omega)
        have hA1 : ∀ q, va_A (gws ad cy h) H.size q → A q := fun q hq => by
          rcases hq with ⟨j, E, hj⟩ | hq
          · exact hR.2.1.2 j (q, E) hj
          · exact hA q (Nat.le_trans hR.2.2.1.1 hq)
        refine g_call run hR.2.2.1 hA1 hA1 (fun ad' H1 locs1 hext hP hD hS hwf => ?_)
        have c1 := k1.2.2.2.2.1
        have c2 := k1.2.2.2.2.2
        -- the row behind
        have hlen : len = 3 := by
          have hz : ilen o = len ∨ ilen o = 0 := by
            have := List.all_eq_true.mp (kLn_l k (List.mem_range.mpr hk)) _ hmem
            simpa using this
          have h3 : ilen o = 3 := rs_cl (cl_is hcl)
          omega
        have hsx1 : ∀ ad2 : Nat → Nat, ad2 zSC = ad zSC → Sx k ad2 h1 A s := fun ad2 h2 hL => by
          obtain ⟨xs, z1, z2, z3, z4⟩ := hsx hL
          exact ⟨xs, by rw [h2, k1.2.2.1]; exact z1, by rw [h2]; exact z2, by rw [h2]; exact z3, by rw [k1.2.1]; exact z4⟩
        have hi1 : ∃ o1 len1, (gTab k)[i + 1]? = some (pc + 3, o1, len1) := by
          cases hq : (gTab k)[i + 1]? with
          | none =>
            exfalso
            have : (gRes k)[i + 1]? = none := by rw [KR_all k hk, List.getElem?_map, hq]; rfl
            cases n with
            | zero => cases he
            | succ n =>
              rw [ev_s, this] at he
              cases he
          | some q =>
            have z := kNx_nx _ i _ _ (KN_all k hk) ht hq
            dsimp only at z
            rw [hlen] at z
            obtain ⟨x1, x2, x3⟩ := q
            dsimp only at z
            subst z
            exact ⟨x2, x3, rfl⟩
        obtain ⟨o1, len1, ht1⟩ := hi1
        rcases hfo with ⟨hNN, hvo⟩ | hfo
        · -- nothing was made: the old numbers go on
          have hext2 : ∀ b, b < zN h1 ∨ b = zSC → ad b = ad' b := fun b hb => (hext b (by rw [← hNN]; exact hb)).symm
          have e1 : gws ad' cy h1 = gws ad cy h1 := by
            unfold gws
            refine List.map_congr_left fun b hb => ?_
            have hb' := List.mem_range.mp hb
            rw [hext2 b (Or.inl hb'), gE_ad hwf hext2]
          rw [e1] at hP hD
          have e2 : (v1.map (rV ad')).toList ++ r.map (rV ad) = (v1.toList ++ r).map (rV ad) := by
            rw [List.map_append]
            congr 1
            cases v1 with
            | none => rfl
            | some x =>
              show [rV ad' x] = [rV ad x]
              rw [rV_eq hext2 (N := zN h1) (v := x) hvo]
          rw [e2]
          exact ih (d' + 1) (i + 1) ls (v1.toList ++ r) h1 v h' he p e R s m args below meth c Q D cy A ad H1 locs1 _ _ lsr (pc + 3) len1 o1 hZ hd hC ⟨hP, hD, hS, hwf, k1.1⟩ hl hll ht1 hA hfr hlo (by omega) (by omega) (hsx1 ad rfl) (fun pc' o' st' ad2 cells' slots' H' locs' lsr' g1 g2 g3 g4 g5 g6 => kr pc' o' st' ad2 cells' slots' H' locs' lsr' g1 g2 (fun b hb => g3 b (by rw [hNN]; exact hb)) (by omega) (by omega) g6)
        · simp only [fOK, Bool.and_eq_true] at hfo
          have e2 : (v1.map (rV ad')).toList ++ r.map (rV ad) = (v1.toList ++ r).map (rV ad') := by
            rw [List.map_append, st_ad hext hfo.2]
            congr 1
            cases v1 <;> rfl
          rw [e2]
          have hN1 := k1.2.2.2.1
          exact ih (d' + 1) (i + 1) ls (v1.toList ++ r) h1 v h' he p e R s m args below meth c Q D cy A ad' H1 locs1 _ _ lsr (pc + 3) len1 o1 hZ hd hC ⟨hP, hD, hS, hwf, k1.1⟩ (by rw [lzL_ad hext hfo.1]; exact hl) hll ht1 hA hfr hlo (by omega) (by omega) (hsx1 ad' (hext _ (Or.inr rfl))) (fun pc' o' st' ad2 cells' slots' H' locs' lsr' g1 g2 g3 g4 g5 g6 => kr pc' o' st' ad2 cells' slots' H' locs' lsr' g1 g2 (fun b hb => by
            rw [g3 b (by omega)]
            exact hext b hb) (by omega) (by omega) g6)
      · rw [gHd_none hh] at he
        cases he
      · cases he
    · -- an end, or a plain step
      split at he
      · rename_i v2 hrt
        cases he
        have h1 : len = 1 ∧ rtv k o st = some v := by
          rw [hinsr] at hrt
          have hz : ilen o = len ∨ ilen o = 0 := by
            have := List.all_eq_true.mp (kLn_l k (List.mem_range.mpr hk)) _ hmem
            simpa using this
          have hir := rs_rt (rt_is hrt)
          cases o
          case return_ => exact ⟨len_of (N := 1) hz (by decide), hrt⟩
          case ireturn => exact ⟨len_of (N := 1) hz (by decide), hrt⟩
          case lreturn => exact ⟨len_of (N := 1) hz (by decide), hrt⟩
          case areturn => exact ⟨len_of (N := 1) hz (by decide), hrt⟩
          all_goals (cases hir; done)
        obtain ⟨rfl, h2⟩ := h1
        exact kr pc o st ad cells slots H locs lsr hdg h2 (fun _ _ => rfl) rfl rfl hR
      · split at he
        · cases he
        · split at he
          rotate_left
          · cases he
          rename_i i2 ls2 st2 hh2 hx
          rw [hinsr] at hx
          have k1 := ex1_keep hx hR.2.2.2.2
          have k2 := ev_keep _ _ _ _ _ _ _ _ _ _ he k1.1
          have hi2 : i2 < (gTab k).length := by
            by_cases hq : i2 < (gTab k).length
            · exact hq
            · exfalso
              have : (gRes k)[i2]? = none := by
                rw [KR_all k hk, List.getElem?_map, List.getElem?_eq_none (by omega)]
                rfl
              cases n with
              | zero => cases he
              | succ n =>
                rw [ev_s, this] at he
                cases he
          refine step hC hk hR hl hll ht hx hi2 (fun pc' len' o' ad' cells' slots' H' locs' lsr' g1 g2 g3 g4 g5 g6 => ?_) hA (by omega) (by omega) (by have := k2.2.2.2.2.1; omega) (by have := k2.2.2.2.2.2; omega) hsx
          have hll2 : ls2.length = gML k := (ex1_len hx).trans hll
          have hsx1 : Sx k ad' hh2 A s := fun hL => by
            obtain ⟨xs, z1, z2, z3, z4⟩ := hsx hL
            have h2 := g2 zSC (Or.inr rfl)
            exact ⟨xs, by rw [h2, k1.2.2.1]; exact z1, by rw [h2]; exact z2, by rw [h2]; exact z3, by rw [k1.2.1]; exact z4⟩
          have hN1 := k1.2.2.2.1
          exact ih d i2 ls2 st2 hh2 v h' he p e R s m args below meth c Q D cy A ad' H' locs' cells' slots' lsr' pc' len' o' hZ hd hC g5 g6 hll2 g1 hA hfr hlo (by omega) (by omega) hsx1 (fun pc'' o'' st'' ad2 cells'' slots'' H'' locs'' lsr'' f1 f2 f3 f4 f5 f6 => kr pc'' o'' st'' ad2 cells'' slots'' H'' locs'' lsr'' f1 f2 (fun b hb => by
            rw [f3 b (by omega)]
            exact g2 b hb) (by omega) (by omega) f6)
