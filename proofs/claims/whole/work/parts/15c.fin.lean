/-- no row is one of those that stand for something else in the small machine -/
def kBd (k : Nat) : Bool := (gTab k).all (fun q => match q.2.1 with
  | .jsr_w _ | .saload | .sastore | .invokedynamic _ => false
  | _ => true)
set_option maxRecDepth 1000000 in
theorem kBd_l : ∀ k ∈ List.range 284, kBd k = true := by decide +kernel
section FIN
variable {p : Program} {l : Launch} {e : Env} {R : Room} {s : State} {m : MethodId} {args : Array Value} {below : List Frame} {meth : Method} {c : Code} {Q : State → Prop}
variable {D : va_G} {cy : Nat → ClassId} {A : Nat → Prop} {k : Nat} {ad : Nat → Nat} {h h' : Hp} {H : Heap} {locs : List Loc} {cells slots : Nat} {lsr : Array Slot} {ls ls' : List (Option Value)} {st st' : List Value} {i i' pc len : Nat} {o : Instr}

set_option maxRecDepth 100000 in
set_option maxHeartbeats 4000000 in
theorem s_dynS {x q : Nat} (hC : Cx D cy k p s m args meth c) (hk : k < gNM) (hR : Rl D cy ad h A s H locs) (hl : lv_has lsr ls.length (lzL ad ls)) (hll : ls.length = gML k) (ht : (gTab k)[i]? = some (pc, .invokestatic x, len)) (hdg : decode (gB k) pc = .ok (.invokestatic x, len)) (hln : ilen (.invokestatic x) = len ∨ ilen (.invokestatic x) = 0) (hx : ex1 i (.invokedynamic q) ls st h = some (i', ls', st', h')) (hi : i' < (gTab k).length) (kk : KK p l e R s m args below meth c Q D cy A k ad h cells slots i' ls' st' h') (hfr : 1 ≤ R.frames) (hlo : 60 ≤ R.locals) (hcc : cells ≤ R.cells) (hss : slots ≤ R.slots) (hrs : rs k (gTab k) pc (.invokestatic x) = .invokedynamic q) (h81 : lk gLk (gOwn k) x ≠ some 281) : W p l e R s m args below meth c H locs cells slots Q (F0 m pc lsr (st.map (rV ad))) := by
  obtain ⟨hx0, hb, hml, hown, hts, hK, hini⟩ := hC
  obtain rfl : len = 3 := len_of (N := 3) hln (by decide)
  have hmls : c.maxLocals = lsr.size := by rw [hml, hl.1, hll]
  have hcat : ∀ r : List Value, catS r ≤ 8 → ((r.map (rV ad)).map fun v => v.category).sum ≤ 8 := fun r hr => by
    rw [List.map_map, show ((fun v => Value.category v) ∘ rV ad) = (fun v => v.category) from funext fun v => rV_cat ad v]
    exact hr
  dsimp only [rs] at hrs
  split at hrs
  · rename_i hac
    cases hrs
    replace hx : xCpy i ls st h = some (i', ls', st', h') := hx
    unfold xCpy at hx
    split at hx
    rotate_left
    · cases hx
    rename_i n dp b sp a r
    split at hx
    rotate_left
    · cases hx
    rename_i hc
    obtain ⟨hka, haN, hkb, hbN, hn0, hd0, hs0, hle1, hle2, hcr⟩ := hc
    cases hx
    have hga := gws_get (ad := ad) (cy := cy) haN
    rw [gE_arr hka (by decide)] at hga
    have hgb := gws_get (ad := ad) (cy := cy) hbN
    rw [gE_arr hkb (by decide)] at hgb
    have hlw : (Cond.methodLink (gC (gOwn k)) x arraycopyName).before args s = true := by
      rw [hac.1, hac.2]
      exact hts _ lW_s
    have z := hcat st' hcr
    refine va_copyi hx0 hb hmls hown hlw (hts _ nW_s) (hts _ sW_s) (hts _ iW_s) hK.1 hR.1 hR.2.1 hR.2.2.1 a b 1 1 (ty := .int) hga hgb rfl rfl rfl (Int32.not_lt.mpr hs0) (Int32.not_lt.mpr hd0) (Int32.not_lt.mpr hn0) hle1 hle2 (fun _ _ => rfl) hfr (Nat.le_trans (Nat.add_le_add_right z _) (Nat.le_trans (show 8 + (nativeFrameWords "java/lang/System" "arraycopy" 5 + 11) ≤ 60 by decide +kernel) hlo)) hdg (fun H1 locs1 hP hD hS => ?_)
    have e1 : gE ad cy (zCpy h a b sp.toNatClampNeg dp.toNatClampNeg n.toNatClampNeg) b = .inl (cy 14, zL h b, .inl (va_cpy (zI h a) (zI h b) sp.toNatClampNeg dp.toNatClampNeg n.toNatClampNeg)) := by
      rw [gE_arr (h := zCpy h a b _ _ _) hkb (by decide)]
      have : zI (zCpy h a b sp.toNatClampNeg dp.toNatClampNeg n.toNatClampNeg) b = va_cpy (zI h a) (zI h b) sp.toNatClampNeg dp.toNatClampNeg n.toNatClampNeg := by
        show u1 (zI h) b _ b = _
        simp [u1]
      unfold gAr
      rw [this]
      rfl
    have e2 := gws_set (ad := ad) (cy := cy) (h := h) (h' := zCpy h a b sp.toNatClampNeg dp.toNatClampNeg n.toNatClampNeg) rfl (fun q hq => gE_eq rfl rfl (by show u1 (zI h) b _ q = _; unfold u1; rw [if_neg hq]) rfl rfl) e1
    rw [e2] at hP hD
    exact nxtH hk ht hi ⟨hP, hD, hS, hR.2.2.2.1, hR.2.2.2.2⟩ rfl rfl kk hl
  · cases hq : lk gLk (gOwn k) x with
    | none => rw [hq] at hrs; cases hrs
    | some y =>
      rw [hq] at hrs
      dsimp only [oi, Option.map, Option.getD] at hrs
      split at hrs
      rotate_left
      · cases hrs
      rename_i hy
      cases hrs
      have hm := lk_get hq
      have hlt : y < 284 := gLk_n _ hm
      have hlw := hts _ (gLk_w _ hm)
      rcases (show y = 278 ∨ y = 279 ∨ y = 280 ∨ y = 281 ∨ y = 282 ∨ y = 283 by omega) with rfl | rfl | rfl | rfl | rfl | rfl
      · replace hx : xAb i ls st h = some (i', ls', st', h') := hx
        unfold xAb at hx
        split at hx
        rotate_left
        · cases hx
        rename_i x0 r
        split at hx
        rotate_left
        · cases hx
        rename_i hc
        cases hx
        have z := hcat r hc
        refine va_mabs_long hx0 hb hmls hown hlw (hts _ sW_abs) (hts _ iW_m) (hts _ cW_abs) hfr (Nat.le_trans (Nat.add_le_add_right z _) (Nat.le_trans (by decide) hlo)) hcc hss hdg ?_
        exact nxt hk ht hi hR kk hl
      · replace hx : xMx i ls st h = some (i', ls', st', h') := hx
        unfold xMx at hx
        split at hx
        rotate_left
        · cases hx
        rename_i y0 x0 r
        split at hx
        rotate_left
        · cases hx
        rename_i hc
        cases hx
        have z := hcat r hc
        refine va_mmax hx0 hb hmls hown hlw (hts _ sW_max) (hts _ iW_m) (hts _ cW_max) hfr (Nat.le_trans (Nat.add_le_add_right z _) (Nat.le_trans (by decide) hlo)) hcc hss hdg ?_
        exact nxt hk ht hi hR kk hl
      · replace hx : xMn i ls st h = some (i', ls', st', h') := hx
        unfold xMn at hx
        split at hx
        rotate_left
        · cases hx
        rename_i y0 x0 r
        split at hx
        rotate_left
        · cases hx
        rename_i hc
        cases hx
        have z := hcat r hc
        refine va_mmin hx0 hb hmls hown hlw (hts _ sW_min) (hts _ iW_m) (hts _ cW_min) hfr (Nat.le_trans (Nat.add_le_add_right z _) (Nat.le_trans (by decide) hlo)) hcc hss hdg ?_
        exact nxt hk ht hi hR kk hl
      · exact absurd hq h81
      · replace hx : (none : Option _) = some (i', ls', st', h') := hx
        cases hx
      · replace hx : (none : Option _) = some (i', ls', st', h') := hx
        cases hx
set_option maxRecDepth 100000 in
set_option maxHeartbeats 4000000 in
theorem s_dynI {x : Nat} (hC : Cx D cy k p s m args meth c) (hk : k < gNM) (hR : Rl D cy ad h A s H locs) (hl : lv_has lsr ls.length (lzL ad ls)) (hll : ls.length = gML k) (ht : (gTab k)[i]? = some (pc, .invokespecial x, len)) (hdg : decode (gB k) pc = .ok (.invokespecial x, len)) (hln : ilen (.invokespecial x) = len ∨ ilen (.invokespecial x) = 0) (hx : ex1 i (.invokedynamic 4) ls st h = some (i', ls', st', h')) (hi : i' < (gTab k).length) (kk : KK p l e R s m args below meth c Q D cy A k ad h cells slots i' ls' st' h') (hfr : 1 ≤ R.frames) (hlo : 60 ≤ R.locals) (hcc : cells ≤ R.cells) (hss : slots ≤ R.slots) (hq : lk gLk (gOwn k) x = some 281) : W p l e R s m args below meth c H locs cells slots Q (F0 m pc lsr (st.map (rV ad))) := by
  obtain ⟨hx0, hb, hml, hown, hts, hK, hini⟩ := hC
  obtain rfl : len = 3 := len_of (N := 3) hln (by decide)
  replace hx : xOb i ls st h = some (i', ls', st', h') := hx
  unfold xOb at hx
  split at hx
  rotate_left
  · cases hx
  rename_i a r
  split at hx
  rotate_left
  · cases hx
  rename_i hc
  cases hx
  have hcat : ((st'.map (rV ad)).map fun v => v.category).sum ≤ 8 := by
    rw [List.map_map, show ((fun v => Value.category v) ∘ rV ad) = (fun v => v.category) from funext fun v => rV_cat ad v]
    exact hc
  have hlw := hts _ (gLk_w _ (lk_get hq))
  refine W.objInit hx0 hb hown hlw (hts _ oW_i) (hts _ oW_c) rfl (by rw [hml, ← hll]; exact hl.1) (rest := st'.map (rV ad)) rfl hdg hfr (Nat.le_trans (Nat.add_le_add_right (lv_room hcat) 12) (Nat.le_trans (by decide) hlo)) ?_
  exact nxt hk ht hi hR kk hl
set_option maxRecDepth 100000 in
set_option maxHeartbeats 4000000 in
theorem step (hC : Cx D cy k p s m args meth c) (hk : k < gNM) (hR : Rl D cy ad h A s H locs) (hl : lv_has lsr ls.length (lzL ad ls)) (hll : ls.length = gML k) (ht : (gTab k)[i]? = some (pc, o, len)) (hx : ex1 i (rs k (gTab k) pc o) ls st h = some (i', ls', st', h')) (hi : i' < (gTab k).length) (kk : KK p l e R s m args below meth c Q D cy A k ad h cells slots i' ls' st' h') (hA : ∀ q, s.heap.size ≤ q → A q) (hfr : 1 ≤ R.frames) (hlo : 60 ≤ R.locals) (hcr : cells + zC h' ≤ R.cells + zC h) (hsr : slots + zS h' ≤ R.slots + zS h) (hsx : Sx k ad h A s) : W p l e R s m args below meth c H locs cells slots Q (F0 m pc lsr (st.map (rV ad))) := by
  have hkp := ex1_keep hx hR.2.2.2.2
  have hcc : cells ≤ R.cells := by have := hkp.2.2.2.2.1; omega
  have hss : slots ≤ R.slots := by have := hkp.2.2.2.2.2; omega
  have hdg := KD_all k hk _ (List.mem_of_getElem? ht)
  have hkr := List.mem_range.mpr hk
  have hln : ilen o = len ∨ ilen o = 0 := by
    have := List.all_eq_true.mp (kLn_l k hkr) _ (List.mem_of_getElem? ht)
    simpa using this
  dsimp only at hdg
  cases o
  case iadd => exact s_iadd hC hk hR hl ht hdg hln hx hi kk
  case isub => exact s_isub hC hk hR hl ht hdg hln hx hi kk
  case imul => exact s_imul hC hk hR hl ht hdg hln hx hi kk
  case iand => exact s_iand hC hk hR hl ht hdg hln hx hi kk
  case ior => exact s_ior hC hk hR hl ht hdg hln hx hi kk
  case ixor => exact s_ixor hC hk hR hl ht hdg hln hx hi kk
  case ishl => exact s_ishl hC hk hR hl ht hdg hln hx hi kk
  case ishr => exact s_ishr hC hk hR hl ht hdg hln hx hi kk
  case iushr => exact s_iushr hC hk hR hl ht hdg hln hx hi kk
  case ladd => exact s_ladd hC hk hR hl ht hdg hln hx hi kk
  case lsub => exact s_lsub hC hk hR hl ht hdg hln hx hi kk
  case lmul => exact s_lmul hC hk hR hl ht hdg hln hx hi kk
  case lor => exact s_lor hC hk hR hl ht hdg hln hx hi kk
  case lshl => exact s_lshl hC hk hR hl ht hdg hln hx hi kk
  case lcmp => exact s_lcmp hC hk hR hl ht hdg hln hx hi kk
  case ineg => exact s_ineg hC hk hR hl ht hdg hln hx hi kk
  case i2l => exact s_i2l hC hk hR hl ht hdg hln hx hi kk
  case i2b => exact s_i2b hC hk hR hl ht hdg hln hx hi kk
  case l2i => exact s_l2i hC hk hR hl ht hdg hln hx hi kk
  case lneg => exact s_lneg hC hk hR hl ht hdg hln hx hi kk
  case idiv => exact s_idiv hC hk hR hl ht hdg hln hx hi kk
  case irem => exact s_irem hC hk hR hl ht hdg hln hx hi kk
  case ldiv => exact s_ldiv hC hk hR hl ht hdg hln hx hi kk
  case lrem => exact s_lrem hC hk hR hl ht hdg hln hx hi kk
  case dup => exact s_dup hC hk hR hl ht hdg hln hx hi kk
  case pop => exact s_pop hC hk hR hl ht hdg hln hx hi kk
  case dup2 => exact s_dup2 hC hk hR hl ht hdg hln hx hi kk
  case iastore => exact s_iastore hC hk hR hl ht hdg hln hx hi kk
  case lastore => exact s_lastore hC hk hR hl ht hdg hln hx hi kk
  case bastore => exact s_bastore hC hk hR hl ht hdg hln hx hi kk
  case aastore => exact s_aastore hC hk hR hl ht hdg hln hx hi kk
  case laload => exact s_laload hC hk hR hl ht hdg hln hx hi kk
  case baload => exact s_baload hC hk hR hl ht hdg hln hx hi kk
  case aaload => exact s_aaload hC hk hR hl ht hdg hln hx hi kk
  case iload => exact s_iload hC hk hR hl ht hdg hln hx hi kk
  case lload => exact s_lload hC hk hR hl ht hdg hln hx hi kk
  case aload => exact s_aload hC hk hR hl ht hdg hln hx hi kk
  case istore => exact s_istore hC hk hR hl ht hdg hln hx hi kk
  case lstore => exact s_lstore hC hk hR hl ht hdg hln hx hi kk
  case astore => exact s_astore hC hk hR hl ht hdg hln hx hi kk
  case iload_n => exact s_iload_n hC hk hR hl ht hdg hln hx hi kk
  case lload_n => exact s_lload_n hC hk hR hl ht hdg hln hx hi kk
  case aload_n => exact s_aload_n hC hk hR hl ht hdg hln hx hi kk
  case istore_n => exact s_istore_n hC hk hR hl ht hdg hln hx hi kk
  case lstore_n => exact s_lstore_n hC hk hR hl ht hdg hln hx hi kk
  case astore_n => exact s_astore_n hC hk hR hl ht hdg hln hx hi kk
  case iconst => exact s_iconst hC hk hR hl ht hdg hln hx hi kk
  case bipush => exact s_bipush hC hk hR hl ht hdg hln hx hi kk
  case sipush => exact s_sipush hC hk hR hl ht hdg hln hx hi kk
  case lconst => exact s_lconst hC hk hR hl ht hdg hln hx hi kk
  case ldc => exact s_ldc hC hk hR hl ht hdg hln hx hi kk
  case ldc_w => exact s_ldc_w hC hk hR hl ht hdg hln hx hi kk
  case ldc2_w => exact s_ldc2_w hC hk hR hl ht hdg hln hx hi kk
  case goto => exact s_goto hC hk hR hl ht hdg hln hx hi kk
  case getfield => exact s_getfield hC hk hR hl ht hdg hln hx hi kk
  case if_icmp => exact s_if_icmp hC hk hR hl ht hdg hln hx hi kk
  case ifCond => exact s_ifCond hC hk hR hl ht hdg hln hx hi kk
  case iinc => exact s_iinc hC hk hR hl ht hdg hln hx hi kk
  case putfield x =>
    refine s_putfield hC hk hR hl ht hdg hln hx hi kk (fun _ cc hq hf => ?_)
    have h1 := List.all_eq_true.mp (kFin_l k hkr) (.putfield cc) (by
      rw [KR_all k hk]
      refine List.mem_map.mpr ⟨_, List.mem_of_getElem? ht, ?_⟩
      show oi ((lk gF (gOwn k) x).map .putfield) = _
      rw [hq]
      rfl)
    dsimp only at h1
    rw [hf] at h1
    simpa using h1
  case iaload =>
    by_cases hL : k = gLAW
    · have e1 : rs k (gTab k) pc .iaload = .saload := if_pos hL
      rw [e1] at hx
      exact s_saload hC hk hR hl ht hdg hln hx hi kk (hsx hL)
    · have e1 : rs k (gTab k) pc .iaload = .iaload := if_neg hL
      rw [e1] at hx
      exact s_iaload hC hk hR hl ht hdg hln hx hi kk
  case arraylength =>
    by_cases hL : k = gLAW
    · have e1 : rs k (gTab k) pc .arraylength = .sastore := if_pos hL
      rw [e1] at hx
      exact s_sastore hC hk hR hl ht hdg hln hx hi kk (hsx hL)
    · have e1 : rs k (gTab k) pc .arraylength = .arraylength := if_neg hL
      rw [e1] at hx
      exact s_arraylength hC hk hR hl ht hdg hln hx hi kk
  case tableswitch d lo hi0 offs =>
    refine s_tableswitch hC hk hR hl ht hdg hln hx hi kk ?_
    have h1 := List.all_eq_true.mp (kSw_l k hkr) _ (List.mem_of_getElem? ht)
    simp only [Bool.and_eq_true, decide_eq_true_eq, Array.all_eq_true_iff_forall_mem] at h1
    exact ⟨h1.1.1, h1.1.2, h1.2⟩
  case newarray t => exact s_newarray hC hk hR hl ht hdg hln hx hi kk hA hcr hsr
  case anewarray x =>
    by_cases hq : lk gCl (gOwn k) x = some 6
    · have e1 : rs k (gTab k) pc (.anewarray x) = .anewarray 17 := if_pos hq
      rw [e1] at hx
      exact s_anewarray hC hk hR hl ht hdg hln hx hi kk hA hcr hsr hq
    · have e1 : rs k (gTab k) pc (.anewarray x) = .nop := if_neg hq
      rw [e1] at hx
      cases hx
  case new x =>
    cases hq : lk gCl (gOwn k) x with
    | some y =>
      have e1 : rs k (gTab k) pc (.new x) = .new y := by
        dsimp only [rs]
        rw [hq]
      rw [e1] at hx
      exact s_new hC hk hR hl ht hdg hln hx hi kk hA hcr hsr hq
    | none =>
      exfalso
      dsimp only [rs] at hx
      rw [hq] at hx
      dsimp only at hx
      split at hx <;> cases hx
  case invokestatic x =>
    have h81 : lk gLk (gOwn k) x ≠ some 281 := by
      have := List.all_eq_true.mp (k81_l k hkr) _ (List.mem_of_getElem? ht)
      simpa using this
    cases hrs : rs k (gTab k) pc (.invokestatic x)
    case invokedynamic q =>
      rw [hrs] at hx
      exact s_dynS hC hk hR hl hll ht hdg hln hx hi kk hfr hlo hcc hss hrs h81
    all_goals (exfalso; dsimp only [rs] at hrs; split at hrs <;> first | (cases hrs; done) | skip)
    all_goals (cases hq : lk gLk (gOwn k) x <;> rw [hq] at hrs <;> dsimp only [oi, Option.map, Option.getD] at hrs <;> (try split at hrs) <;> cases hrs <;> (dsimp only [rs] at hx; rw [if_neg (by assumption), hq] at hx; dsimp only [oi, Option.map, Option.getD] at hx; (try rw [if_neg (by assumption)] at hx); cases hx))
  case invokespecial x =>
    dsimp only [rs] at hx
    split at hx
    · rename_i y hq
      split at hx
      · rename_i hy
        subst hy
        exact s_dynI hC hk hR hl hll ht hdg hln hx hi kk hfr hlo hcc hss hq
      · cases hx
    · exfalso
      cases hq : lk gNk (gOwn k) x <;> rw [hq] at hx <;> cases hx
  case invokevirtual x =>
    exfalso
    dsimp only [rs] at hx
    cases hq : lk gLk (gOwn k) x <;> rw [hq] at hx <;> cases hx
  case jsr_w q => exact absurd (List.all_eq_true.mp (kBd_l k hkr) _ (List.mem_of_getElem? ht)) (by intro z; cases z)
  case saload => exact absurd (List.all_eq_true.mp (kBd_l k hkr) _ (List.mem_of_getElem? ht)) (by intro z; cases z)
  case sastore => exact absurd (List.all_eq_true.mp (kBd_l k hkr) _ (List.mem_of_getElem? ht)) (by intro z; cases z)
  case invokedynamic q => exact absurd (List.all_eq_true.mp (kBd_l k hkr) _ (List.mem_of_getElem? ht)) (by intro z; cases z)
  all_goals (dsimp only [rs, ex1] at hx; cases hx)
end FIN
