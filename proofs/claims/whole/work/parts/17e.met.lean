/-! the helpers' contracts, and the law's calls -/
def wHc (k : Nat) : Cond := .codeWith (gY k) (gB k) (gML k) (gRt k) (gHx k)
def wsH (k : Nat) : List Cond := wHc k :: gAll
set_option maxRecDepth 1000000 in
theorem mOKh_l : ∀ k ∈ gHlp, mOKb k = true := by decide +kernel
set_option maxRecDepth 1000000 in
theorem k0h_l : ∀ k ∈ gHlp, (gTab k)[0]?.map (fun q => q.1) = some 0 := by decide +kernel
set_option maxRecDepth 1000000 in
theorem kHph_l : ∀ k ∈ gHlp, kHp k = true := by decide +kernel
set_option maxRecDepth 100000 in
theorem hcd_1 : wHc 271 ∈ gAll := gAll_t (List.mem_of_getElem? (i := 1088) rfl) rfl
set_option maxRecDepth 100000 in
theorem hcd_2 : wHc 272 ∈ gAll := gAll_t (List.mem_of_getElem? (i := 1157) rfl) rfl
set_option maxRecDepth 100000 in
theorem hcd_3 : wHc 273 ∈ gAll := gAll_t (List.mem_of_getElem? (i := 1181) rfl) rfl
set_option maxRecDepth 100000 in
theorem hcd_4 : wHc 274 ∈ gAll := gAll_t (List.mem_of_getElem? (i := 1196) rfl) rfl
set_option maxRecDepth 100000 in
theorem hst_1 : wSm 271 ∈ gAll := gAll_t (List.mem_of_getElem? (i := 1087) rfl) rfl
set_option maxRecDepth 100000 in
theorem hst_2 : wSm 272 ∈ gAll := gAll_t (List.mem_of_getElem? (i := 1156) rfl) rfl
set_option maxRecDepth 100000 in
theorem hst_3 : wSm 273 ∈ gAll := gAll_t (List.mem_of_getElem? (i := 1180) rfl) rfl
set_option maxRecDepth 100000 in
theorem hst_4 : wSm 274 ∈ gAll := gAll_t (List.mem_of_getElem? (i := 1195) rfl) rfl
set_option maxRecDepth 100000 in
theorem hin_1 : Cond.initialized "DiceRingLaw" ∈ gAll := gAll_t (List.mem_of_getElem? (i := 0) rfl) rfl
theorem gHc_w : ∀ k ∈ gHlp, wHc k ∈ gAll := List.forall_mem_cons.mpr ⟨hcd_1, List.forall_mem_cons.mpr ⟨hcd_2, List.forall_mem_cons.mpr ⟨hcd_3, List.forall_mem_cons.mpr ⟨hcd_4, fun _ h => absurd h List.not_mem_nil⟩⟩⟩⟩
theorem gSmh_w : ∀ k ∈ gHlp, wSm k ∈ gAll := List.forall_mem_cons.mpr ⟨hst_1, List.forall_mem_cons.mpr ⟨hst_2, List.forall_mem_cons.mpr ⟨hst_3, List.forall_mem_cons.mpr ⟨hst_4, fun _ h => absurd h List.not_mem_nil⟩⟩⟩⟩
theorem gMih_w : ∀ k ∈ gHlp, wMi k ∈ gAll := fun k hk => by
  have e := (kHn_l k hk).2
  unfold wMi
  rw [e]
  exact hin_1
theorem gI_H {y : Nat} (hy : y ∈ gHlp) : ∀ w ∈ wsH y, w ∈ gAll := fun w h => by
  rcases List.mem_cons.mp h with rfl | h
  · exact gHc_w y hy
  · exact h
/-- all that the law calls statically are its helpers -/
def kLs : Bool := (gRes gLAW).all (fun q => match q with
  | .invokestatic y => decide (y ∈ gHlp)
  | _ => true)
set_option maxRecDepth 100000 in
set_option maxHeartbeats 4000000 in
theorem met_ofH (l : Launch) (hfl : l.stackTraces = false) (n : Nat) {y : Nat} (hy : y ∈ gHlp) {D : va_G} {cy : Nat → ClassId} {ad : Nat → Nat} {h h1 : Hp} {d' sz : Nat} {a : List Value} {v : Option Value} (hle : (eL a).length ≤ gML y) (hwf : zWF h) (hn : zN h ≤ zSC) (he : ev n d' y 0 (entL (gML y) a) [] h = some (0, v, h1)) (hd : 9 ≤ d') :
    Met l (gY y) (wsH y) (rmU (d' + 1) (zC h1 - zC h) (zS h1 - zS h)) (gPX D cy ad h sz a) (gQ D cy ad h v h1 (va_A (gws ad cy h) sz)) (zC h1 - zC h) (zS h1 - zS h) (va_A (gws ad cy h) sz) := by
  obtain ⟨hyN, hyL, hyH⟩ := gHlp_n hy
  have hM := mOK_of (mOKh_l y hy)
  obtain ⟨hM1, hM2, hM3, hM4, hM5, hR0, hR1, hR2, hR3, hR4, hM6⟩ := hM
  refine va_MetW (hh := gHx y) (cc := gB y) (maxL := gML y) (ret := gRt y) hM5 rfl ?_
  intro p e s m args below meth c s₁ B hml hv
  obtain ⟨rfl, ⟨hsz, hP, hK, hD0⟩, hz⟩ := hv
  have hx := B.exec
  have hb := B.bytes
  have hr := B.returns
  have hts0 := atoms_spec (ws := wsH y) B.pre
  have htab := vx_table (p := p) (x := gY y) B (hts0 _ List.mem_cons_self)
  have hts : ∀ w ∈ gAll, w.before (a.map (rV ad)).toArray s = true := fun w hw => hts0 w (List.mem_cons_of_mem _ hw)
  have hown : s.vm.findClass (gC (gOwn y)) = some m.cls := by
    rw [← hM1]
    exact findClass_of_methodNamed B.named
  have hlocks := B.notSynchronized
  have hin : meth.name = (gY y).name := (name_of_methodNamed B.named B.method).1
  subst hsz
  have hD := hD0.self (sz := s.heap.size)
  generalize hAe : va_A (gws ad cy h) s.heap.size = A at hD hz ⊢
  have hA : ∀ q : Nat, s.heap.size ≤ q → A q := fun q h => by rw [← hAe]; exact Or.inr h
  have hS : va_S A s.heap s.heap [] := va_S.rf
  have hl := lv_entry (a.map (rV ad)) (n := gML y) (by rw [sl_len]; exact hle)
  rw [lg_entry_eq]
  generalize (lg_sl (a.map (rV ad)) ++ List.replicate (gML y - (lg_sl (a.map (rV ad))).length) Slot.unset).toArray = lsr at hl ⊢
  have hl2 := ent_has hle hl
  have hkp := ev_keep _ _ _ _ _ _ _ _ _ _ he hn
  have h0 := k0h_l y hy
  cases hq : (gTab y)[0]? with
  | none => rw [hq] at h0; cases h0
  | some q =>
  obtain ⟨pc, o, len⟩ := q
  rw [hq] at h0
  have hpc : pc = 0 := Option.some.inj h0
  subst hpc
  have c1 := hkp.2.2.2.2.1
  have c2 := hkp.2.2.2.2.2
  refine bodyH l hfl y hy hyN n (fun j _ => call_of l j y hyN (fun z hz => by have := List.all_eq_true.mp (kHph_l y hy) _ hz; simpa using this) (fun y9 hy9 j9 _ => callOK l j9 y9 hy9)) d' 0 (entL (gML y) a) [] h v h1 he p e _ s m _ below meth c _ D cy A ad s.heap [] 0 0 lsr 0 len o ⟨hx, hb, hml, hown, hts, hK, fun q => by rw [hin, (hM6 q).1]⟩ hz htab hd ⟨hP, hD, hS, hwf, hn⟩ hl2 (ent_len hle) hq hA (Nat.le_refl _) (Nat.le_refl _) (by show 0 + zC h1 ≤ zC h1 - zC h + zC h; omega) (by show 0 + zS h1 ≤ zS h1 - zS h + zS h; omega) (fun q => absurd q hyL) (fun pc' o' st' ad' cells' slots' H' locs' lsr' g1 g2 g3 g4 g5 g6 => ?_)
  obtain rfl : cells' = zC h1 - zC h := by omega
  obtain rfl : slots' = zS h1 - zS h := by omega
  obtain ⟨hP6, hD6, hS6, hwf6, hn6⟩ := g6
  cases o'
  case return_ =>
    dsimp only [rtv] at g2
    split at g2
    rotate_left
    · cases g2
    rename_i hc
    obtain ⟨rfl, hrc⟩ := hc
    cases g2
    exact W.vret hx hb (by rw [hr, hR0 hrc]) (fun t ht hW => ⟨ad', g3, rfl, by rw [ht]; exact hP6, hD6, hS6.F ht, hwf6⟩) hS6.2.2 g1
  case ireturn =>
    dsimp only [rtv] at g2
    split at g2
    rotate_left
    · cases g2
    rename_i x
    split at g2
    rotate_left
    · cases g2
    rename_i hc
    cases g2
    rcases hc with hc | ⟨hc, hz⟩
    · exact W.zret (ty := .int) hx hb (by rw [hr, hR1 hc]) rfl (fun t ht hW => ⟨ad', g3, rfl, by rw [ht]; exact hP6, hD6, hS6.F ht, hwf6⟩) hS6.2.2 g1
    · exact W.zret (ty := .boolean) hx hb (by rw [hr, hR2 hc]) (by rcases hz with rfl | rfl <;> rfl) (fun t ht hW => ⟨ad', g3, rfl, by rw [ht]; exact hP6, hD6, hS6.F ht, hwf6⟩) hS6.2.2 g1
  case lreturn =>
    dsimp only [rtv] at g2
    split at g2
    rotate_left
    · cases g2
    rename_i x
    split at g2
    rotate_left
    · cases g2
    rename_i hc
    cases g2
    exact W.lret hx hb (by rw [hr, hR3 hc]) (fun t ht hW => ⟨ad', g3, rfl, by rw [ht]; exact hP6, hD6, hS6.F ht, hwf6⟩) hS6.2.2 g1
  case areturn =>
    dsimp only [rtv] at g2
    split at g2
    rotate_left
    · cases g2
    rename_i x
    split at g2
    rotate_left
    · cases g2
    rename_i hc
    cases g2
    obtain ⟨t0, ht0, ht1⟩ := hR4 hc
    exact W.aret hx hb (by rw [hr, ht0]) ht1 (Or.inr ⟨_, rfl⟩) (fun t ht hW => ⟨ad', g3, rfl, by rw [ht]; exact hP6, hD6, hS6.F ht, hwf6⟩) hS6.2.2 g1
  all_goals (dsimp only [rtv] at g2; cases g2)
