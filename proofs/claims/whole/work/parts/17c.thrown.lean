/-! a callee that throws: its contract, and the call -/
theorem gXC_of {D : va_G} {cy : Nat → ClassId} {ad ad' : Nat → Nat} {h h1 h2 : Hp} {A A1 : Nat → Prop} {s : State} {H' : Heap} {locs' : List Loc} (hz : h1 = zThr h2) (hN : zN h1 = zN h) (hext : ∀ a, a < zN h ∨ a = zSC → ad' a = ad a) (g6 : Rl D cy ad' h2 A s H' locs') (hA1 : A1 = A) (t : State) (h3 : H'.size ≤ t.heap.size) (h4 : ∀ q : Nat, q < H'.size → t.heap[q]? = H'[q]?) : gXC D cy ad h1 A1 nSE s t := by
  subst hA1
  subst hz
  obtain ⟨hP6, hD6, hS6, hwf6, hn6⟩ := g6
  have e0 : zN h2 = zN h := hN
  have hext2 : ∀ b, b < zN h2 ∨ b = zSC → ad b = ad' b := fun b hb => (hext b (by rw [← e0]; exact hb)).symm
  have e1 : gws ad cy (zThr h2) = gws ad' cy h2 := by
    unfold gws
    refine List.map_congr_left fun b hb => ?_
    have hb' : b < zN h2 := List.mem_range.mp hb
    rw [← hext2 b (Or.inl hb')]
    show (ad b, gE ad cy h2 b) = _
    rw [gE_ad hwf6 hext2]
  refine ⟨rfl, ?_, ?_, ?_, hwf6⟩
  · rw [e1]
    exact hP6.kept fun k q hk => h4 q.1 (vx_lt hP6 hk)
  · rw [e1]
    exact hD6
  · exact ⟨Nat.le_trans hS6.1 h3, fun q h1 h2 => by rw [h4 q (Nat.lt_of_lt_of_le h1 hS6.1)]; exact hS6.2.1 q h1 h2⟩
theorem kT_row {y i pc len : Nat} {o : Instr} (hy : y ∈ gThr) (ht : (gTab y)[i]? = some (pc, o, len)) (hr : (gRes y)[i]? = some .athrow) : i < 60 ∧ decode (gB y) pc = .ok (.new 124, 3) ∧ decode (gB y) (pc + 3) = .ok (.dup, 1) ∧ decode (gB y) (pc + 4) = .ok (.invokespecial 126, 3) ∧ decode (gB y) (pc + 7) = .ok (.athrow, 1) := by
  obtain ⟨q1, q2, -⟩ := kT_n y hy
  have hi : i < 60 := by
    have := (List.getElem?_eq_some_iff.mp hr).1
    omega
  have k := kT_l y hy i (List.mem_range.mpr hi) hr
  have hyN := (gPl_n y q2).1
  unfold kT at k
  rw [ht] at k
  split at k
  rotate_left
  · cases k
  rename_i a b c d ha hb hc hd
  cases ha
  obtain ⟨e1, e2, rfl, rfl, rfl⟩ := of_decide_eq_true k
  dsimp only at e1 e2
  subst e1
  subst e2
  have m0 := KD_all y hyN _ (List.mem_of_getElem? ht)
  have m1 := KD_all y hyN _ (List.mem_of_getElem? hb)
  have m2 := KD_all y hyN _ (List.mem_of_getElem? hc)
  have m3 := KD_all y hyN _ (List.mem_of_getElem? hd)
  exact ⟨hi, m0, m1, m2, m3⟩
theorem zx_f1 : Bundle.fit nSE = true := by decide +kernel
theorem zx_f2 : ∀ n ∈ nSN, Bundle.fit n = true := by decide +kernel
set_option maxRecDepth 100000 in
set_option maxHeartbeats 4000000 in
theorem metX_of (l : Launch) (hfl : l.stackTraces = false) (n : Nat) {y : Nat} (hy : y ∈ gThr) (ih : ∀ j, j < n → CallOK l y j) {D : va_G} {cy : Nat → ClassId} {ad : Nat → Nat} {h h1 : Hp} {d' sz : Nat} {a : List Value} (hle : (eL a).length ≤ gML y) (hwf : zWF h) (hn : zN h ≤ zSC) (he : ev n d' y 0 (entL (gML y) a) [] h = some (1, none, h1)) (hd : 8 ≤ d') (hN : zN h1 = zN h) :
    vx_Met l (gY y) (wsU y) (rmU (d' + 1) (zC h1 - zC h) (zS h1 - zS h)) (gPX D cy ad h sz a) (fun _ _ _ _ => False) (gXC D cy ad h1 (va_A (gws ad cy h) sz)) (zC h1 - zC h) (zS h1 - zS h) (va_A (gws ad cy h) sz) := by
  obtain ⟨-, hyP, hO⟩ := kT_n y hy
  obtain ⟨hyN, hyH, hyL⟩ := gPl_n y hyP
  have hM := mOK_of (mOK_l y hyP)
  obtain ⟨hM1, hM2, hM3, hM4, hM5, hR0, hR1, hR2, hR3, hR4, hM6⟩ := hM
  refine vx_ofW (cc := gB y) (maxL := gML y) (ret := gRt y) hM5 rfl ?_
  intro p e s m args below meth c s₁ B hml htab hv
  obtain ⟨rfl, ⟨hsz, hP, hK, hD0⟩, hz⟩ := hv
  have hx := B.exec
  have hb := B.bytes
  have hts0 := atoms_spec (ws := wsU y) B.pre
  have hts : ∀ w ∈ gAll, w.before (a.map (rV ad)).toArray s = true := fun w hw => hts0 w (List.mem_cons_of_mem _ hw)
  have hown : s.vm.findClass (gC (gOwn y)) = some m.cls := by
    rw [← hM1]
    exact findClass_of_methodNamed B.named
  have hlocks := B.notSynchronized
  have hin : meth.name = (gY y).name := (name_of_methodNamed B.named B.method).1
  subst hsz
  have hD := hD0.self (sz := s.heap.size)
  generalize hAe : va_A (gws ad cy h) s.heap.size = A at hD hz ⊢
  have hA : ∀ q : Nat, s.heap.size ≤ q → A q := fun q h => by rw [← hAe]; exact Or.inr h
  have hS : va_S A s.heap s.heap [] := va_S.rf
  have hl := lv_entry (a.map (rV ad)) (n := gML y) (by rw [sl_len]; exact hle)
  rw [lg_entry_eq]
  generalize (lg_sl (a.map (rV ad)) ++ List.replicate (gML y - (lg_sl (a.map (rV ad))).length) Slot.unset).toArray = lsr at hl ⊢
  have hl2 := ent_has hle hl
  have hkp := ev_keep _ _ _ _ _ _ _ _ _ _ he hn
  have h0 := k0_l y hyP
  cases hq : (gTab y)[0]? with
  | none => rw [hq] at h0; cases h0
  | some q =>
  obtain ⟨pc, o, len⟩ := q
  rw [hq] at h0
  have hpc : pc = 0 := Option.some.inj h0
  subst hpc
  have c1 := hkp.2.2.2.2.1
  have c2 := hkp.2.2.2.2.2
  refine bodyX l y hyN hyH (kU_all hy) n ih d' 0 (entL (gML y) a) [] h h1 he p e _ s m _ below meth c _ D cy A ad s.heap [] 0 0 lsr 0 len o ⟨hx, hb, hml, hown, hts, hK, fun q => by rw [hin, (hM6 q).1]⟩ ⟨hP, hD, hS, hwf, hn⟩ hl2 (ent_len hle) (Nat.zero_le _) hq hA (Nat.le_refl _) (Nat.le_refl _) (by show 0 + zC h1 ≤ zC h1 - zC h + zC h; omega) (by show 0 + zS h1 ≤ zS h1 - zS h + zS h; omega) (fun q => absurd q hyL) (fun pc' i' o' len' st' ad' h2 cells' slots' H' locs' lsr' g1 g2 gz gs g3 g4 g5 g6 => ?_)
  obtain ⟨i60, d0, d3, d4, d7⟩ := kT_row hy g1 g2
  have z1 : zC h1 = zC h2 + 1 := by rw [gz]; rfl
  have z2 : zS h1 = zS h2 + 6 := by rw [gz]; rfl
  have hcat := cat_2 ad' st'
  have hst := gs.2
  refine vx_throw0 hx hb hfl (own := RX11) (cls := nSE) (names := nSN) (ik := 124) (ic := 126) (A := A) (by rw [← hO]; exact hown) zx_f1 zx_f2 (hts _ zx_k) (hts _ zx_i) (zx_ok hts hz.2.2) zx_g hz.1 hz.2.1 g6.2.2.1 (gs.1.trans hml.symm) d0 d3 d4 d7 (fun x hx => (htab x hx).elim) ?_ ?_ ?_ ?_ hlocks (fun t _ h3 h4 => gXC_of gz hN g3 g6 rfl t h3 h4) g6.2.2.1.2.2 ?_ ?_
  · show 2 + 3 < d' + 1
    omega
  · show _ + (13 * (2 + 1) + 42) ≤ 60 * (d' + 1)
    omega
  · show cells' + 1 ≤ zC h1 - zC h
    omega
  · show slots' + 6 ≤ zS h1 - zS h
    omega
  · omega
  · omega
/-- the four helpers, and what they call -/
abbrev gHlp : List Nat := [271, 272, 273, 274]
def kHv (k : Nat) : Bool := (gRes k).all (fun q => match q with
  | .invokevirtual y => decide (y ∈ gThr)
  | _ => true)
def kHo (k : Nat) : Bool := (gTab k).all (fun q => match q.2.1 with
  | .invokestatic _ | .invokespecial _ => false
  | _ => true)
set_option maxRecDepth 1000000 in
theorem kHo_l : ∀ k ∈ gHlp, kHo k = true := by decide +kernel
def isIv : Instr → Bool
  | .invokevirtual _ | .invokespecial _ | .invokestatic _ => true
  | _ => false
theorem rs_iv {k : Nat} {T : List (Nat × Instr × Nat)} {pc : Nat} {o : Instr} (h : isCl (rs k T pc o) = true) : isIv o = true := by
  have oi9 : ∀ {α : Type} (x : Option α) (f : α → Instr), (∀ a, isCl (f a) = false) → isCl (oi (x.map f)) = true → False := fun x f hf z => by
    rw [oi_cl x f hf] at z
    cases z
  cases o
  case ldc x => exact (oi9 _ _ (fun _ => rfl) h).elim
  case ldc_w x => exact (oi9 _ _ (fun _ => rfl) h).elim
  case ldc2_w x => exact (oi9 _ _ (fun _ => rfl) h).elim
  case getfield x => exact (oi9 _ _ (fun _ => rfl) h).elim
  case putfield x => exact (oi9 _ _ (fun _ => rfl) h).elim
  case goto x => exact (oi9 _ _ (fun _ => rfl) h).elim
  case if_icmp c x => exact (oi9 _ _ (fun _ => rfl) h).elim
  case ifCond c x => exact (oi9 _ _ (fun _ => rfl) h).elim
  case new x =>
    exfalso
    dsimp only [rs] at h
    split at h
    · cases h
    · split at h <;> cases h
  case anewarray x =>
    exfalso
    dsimp only [rs] at h
    split at h <;> cases h
  case iaload =>
    exfalso
    dsimp only [rs] at h
    split at h <;> cases h
  case arraylength =>
    exfalso
    dsimp only [rs] at h
    split at h <;> cases h
  all_goals first | rfl | (cases h; done)
set_option maxRecDepth 1000000 in
theorem kHv_l : ∀ k ∈ gHlp, kHv k = true := by decide +kernel
theorem gHlp_n {k : Nat} (h : k ∈ gHlp) : k < gNM ∧ k ≠ gLAW ∧ (271 ≤ k ∧ k ≤ 274) := by
  simp only [gHlp, List.mem_cons, List.not_mem_nil, or_false] at h
  rcases h with rfl | rfl | rfl | rfl <;> exact ⟨by decide, by decide, by decide, by decide⟩
set_option maxRecDepth 100000 in
set_option maxHeartbeats 4000000 in
theorem callX_of (l : Launch) (hfl : l.stackTraces = false) (n k : Nat) (hk : k ∈ gHlp) {p : Program} {e : Env} {R : Room} {s : State} {m : MethodId} {args : Array Value} {below : List Frame} {meth : Method} {c : Code} {D : va_G} {cy : Nat → ClassId} {A : Nat → Prop} {ad : Nat → Nat} {h : Hp} {H : Heap} {locs : List Loc} {cells slots : Nat} {lsr : Array Slot} {pc len : Nat} {o : Instr} {st : List Value} {d' y : Nat} {a r : List Value} {h1 : Hp}
    (hC : Cx D cy k p s m args meth c) (hR : Rl D cy ad h A s H locs) (hZ : ZX A s) (hA : ∀ q, s.heap.size ≤ q → A q) (hsz : lsr.size = gML k) (hmem : (pc, o, len) ∈ gTab k) (hcl : cl (rs k (gTab k) pc o) st h = some (y, a, r)) (hcat : catS r ≤ 8) (hle : (eL a).length ≤ gML y) (he : ev n d' y 0 (entL (gML y) a) [] h = some (1, none, h1)) (hN : zN h1 = zN h) (hd : 8 ≤ d') (hfr : d' + 2 ≤ R.frames) (hlo : 60 * (d' + 2) ≤ R.locals) (hcr : cells + zC h1 ≤ R.cells + zC h) (hsr : slots + zS h1 ≤ R.slots + zS h) :
    vx_Run p l e R s m args below meth c H locs cells slots (zC h1 - zC h) (zS h1 - zS h) (F0 m pc lsr (st.map (rV ad))) (r.map (rV ad)) (fun _ _ _ => False) (gXC D cy ad h1 (va_A (gws ad cy h) H.size)) (va_A (gws ad cy h) H.size) := by
  obtain ⟨hkN, hkL, hk1⟩ := gHlp_n hk
  obtain ⟨hx0, hb, hml, hown, hts, hK, hini⟩ := hC
  obtain ⟨hP, hD, hS, hwf, hn⟩ := hR
  have hdg := KD_all k hkN _ hmem
  dsimp only at hdg
  have hln : ilen o = len ∨ ilen o = 0 := by
    have := List.all_eq_true.mp (kLn_l k (List.mem_range.mpr hkN)) _ hmem
    simpa using this
  have hkp := ev_keep _ _ _ _ _ _ _ _ _ _ he hn
  have c1 := hkp.2.2.2.2.1
  have c2 := hkp.2.2.2.2.2
  have hrsm : rs k (gTab k) pc o ∈ gRes k := by
    rw [KR_all k hkN]
    exact List.mem_map.mpr ⟨_, hmem, rfl⟩
  have hSt := List.all_eq_true.mp (kSty_l k (List.mem_range.mpr hkN)) _ hrsm
  have hHv := List.all_eq_true.mp (kHv_l k hk) _ hrsm
  have hcat2 := cat_map ad r hcat
  have hroom : (rmU (d' + 1) (zC h1 - zC h) (zS h1 - zS h)).frames + 1 ≤ R.frames := hfr
  have hf : cells + (zC h1 - zC h) ≤ R.cells ∧ slots + (zS h1 - zS h) ≤ R.slots := ⟨by omega, by omega⟩
  have hA1 : ∀ q, va_A (gws ad cy h) H.size q → A q := fun q hq => by
    rcases hq with ⟨j, E, hj⟩ | hq
    · exact hD.2 j (q, E) hj
    · exact hA q (Nat.le_trans hS.1 hq)
  have hpre : ∀ U : State, U.heap = H → s.WarmedH U.vm → gPX D cy ad h H.size a ((a.map (rV ad)).toArray) U := fun U hU hW => ⟨rfl, ⟨by rw [hU], by rw [hU]; exact hP, WK_moved hW hK, hD.weaken (fun _ _ _ _ => trivial)⟩, hZ.go hS hU hW hA1⟩
  have h5 := rs_iv (cl_is hcl)
  have hHo := List.all_eq_true.mp (kHo_l k hk) _ hmem
  cases o
  case invokevirtual x =>
    obtain rfl : len = 3 := len_of (N := 3) hln (by decide)
    dsimp only [rs] at hcl hSt hHv
    cases hq : lk gLk (gOwn k) x with
    | none => rw [hq] at hcl; cases hcl
    | some y0 =>
    rw [hq] at hcl hSt hHv
    dsimp only [oi, Option.map, Option.getD, cl] at hcl hHv
    have hs0 : gSt y0 = 0 := by simpa [oi] using hSt
    have hyT : y0 ∈ gThr := of_decide_eq_true hHv
    split at hcl
    rotate_left
    · cases hcl
    rename_i b r0 hdrop
    split at hcl
    rotate_left
    · cases hcl
    rename_i hbb
    cases hcl
    have hm := lk_get hq
    have hlt : y < 284 := gLk_n _ hm
    obtain ⟨hy, ho13, hyv⟩ := gPv_o y (List.mem_range.mpr hlt) hs0
    obtain ⟨hM1, hM2, hM3, hM4, hM5, -⟩ := mOK_of (mOK_l y hy)
    have hM := metX_of l hfl n hyT (fun j _ => callOK l j y hy) (D := D) (cy := cy) (ad := ad) (sz := H.size) hle hwf hn he hd hN
    have hlen : ((st.take (gNP y)).reverse).length = gNP y := by
      have : (st.drop (gNP y)).length = (Value.ref b :: r).length := by rw [hdrop]
      simp only [List.length_drop, List.length_cons] at this
      simp
      omega
    have hst2 : st.map (rV ad) = (((st.take (gNP y)).reverse).map (rV ad)).reverse ++ .ref (ad b) :: r.map (rV ad) := by
      rw [← List.map_reverse, List.reverse_reverse, show (Value.ref (ad b) :: r.map (rV ad)) = (Value.ref b :: r).map (rV ad) from rfl, ← hdrop, ← List.map_append, List.take_append_drop]
    have hget := gws_get (ad := ad) (cy := cy) hbb.2
    rw [gE_obj hbb.1 ho13] at hget
    refine vx_runV (Qc := fun _ _ _ _ => False) (b := ad b) (As := ((st.take (gNP y)).reverse).map (rV ad)) ⟨hx0, hb, hml, hown, hts⟩ hM (cwV (gNP y) hts (gI (fun w hw => ?_)) rfl rfl rfl ⟨hM1, hM2.1, hM2.2, hM3⟩ ⟨hroom, ?_⟩) ⟨gPX_blind, va_recv hK.1 hP (kind_ok _ ho13).1 hget, hpre⟩ rfl (by rw [List.length_map]; exact hlen) hsz hst2 (lv_room hcat2) hdg hf
    · rcases List.mem_append.mp hw with hw | hw
      · simp only [List.mem_cons, List.not_mem_nil, or_false] at hw
        rcases hw with rfl | rfl | rfl | rfl
        · exact gLk_w _ hm
        · exact gIm_w y (gPi_v hyv)
        · exact gSe_w y hyv
        · exact gMi_w y hy
      · exact gI_U hy w hw
    · show 8 + (gML y + 11) + 60 * (d' + 1) ≤ R.locals
      omega
  case invokestatic x => cases hHo
  case invokespecial x => cases hHo
  all_goals (cases h5; done)
