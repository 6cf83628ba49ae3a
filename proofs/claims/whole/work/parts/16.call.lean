/-! calls, and whole bodies -/
def wsU (y : Nat) : List Cond := wCd y :: gAll
def rmU (d mc ms : Nat) : Room := { frames := d, cells := mc, slots := ms, locals := 60 * d }
def gQ (D : va_G) (cy : Nat → ClassId) (ad : Nat → Nat) (h : Hp) (v : Option Value) (h' : Hp) (A1 : Nat → Prop) : Array Value → State → Outcome → State → Prop := fun _ st oc t => ∃ ad' : Nat → Nat, (∀ a, a < zN h ∨ a = zSC → ad' a = ad a) ∧ oc = .returned (v.map (rV ad')) ∧ va_P D vwCl (gws ad' cy h') t.heap ∧ va_D A1 (gws ad' cy h') ∧ va_F A1 st t ∧ zWF h'
def gP (D : va_G) (cy : Nat → ClassId) (ad : Nat → Nat) (h : Hp) (sz : Nat) (a : List Value) : Array Value → State → Prop := va_Pc (a.map (rV ad)) (fun U => U.heap.size = sz ∧ va_P D vwCl (gws ad cy h) U.heap ∧ WK D cy U ∧ va_D (fun _ => True) (gws ad cy h))
theorem WK_moved {D : va_G} {cy : Nat → ClassId} {u U : State} (hW : u.WarmedH U.vm) (h : WK D cy u) : WK D cy U := ⟨va_K.moved hW.alike h.1, va_AO.moved hW.alike h.2.1, fun e he => va_Nw.warmM hW (h.2.2 e he)⟩
theorem WK_calling {D : va_G} {cy : Nat → ClassId} {U : State} {g : JFrame} {mk : MethodId} {a : Array Value} (h : WK D cy U) : WK D cy (U.calling g mk a) := ⟨va_K.moved (u := U) (U := U.calling g mk a) (Vm.Alike.refl U.vm) h.1, va_AO.moved (u := U) (U := U.calling g mk a) (Vm.Alike.refl U.vm) h.2.1, fun e he => va_Nw.same rfl rfl (h.2.2 e he)⟩
theorem gP_blind {D : va_G} {cy : Nat → ClassId} {ad : Nat → Nat} {h : Hp} {sz : Nat} {a : List Value} : FrameBlind (gP D cy ad h sz a) := fun a U g mk q => by
  obtain ⟨q0, q1, qP, qK, qD⟩ := q
  exact ⟨q0, q1, qP, WK_calling qK, qD⟩
theorem gI {ws : List Cond} (hw : ∀ w ∈ ws, w ∈ gAll) : GoodIn gAll ws := fun w h => ⟨hw w h, good_of_word (List.mem_filter.mp (hw w h)).2⟩
theorem gI_U {y : Nat} (hy : y ∈ gPl) : ∀ w ∈ wsU y, w ∈ gAll := fun w h => by
  rcases List.mem_cons.mp h with rfl | h
  · exact gCd_w y hy
  · exact h
theorem sl_len (ad : Nat → Nat) : ∀ a : List Value, (lg_sl (a.map (rV ad))).length = (eL a).length
  | [] => rfl
  | v :: a => by
    have ih := sl_len ad a
    unfold lg_sl at ih ⊢
    rw [List.map_cons, List.flatMap_cons, List.length_append, ih, rV_cat, show eL (v :: a) = (if v.category = 2 then some v :: none :: eL a else some v :: eL a) from rfl]
    by_cases hc : v.category = 2
    · simp [hc]
      omega
    · simp [hc]
      omega
theorem eL_args (ad : Nat → Nat) : ∀ (a : List Value) (i j : Nat) (v : Value), (eL a)[j]? = some (some v) → (i + j, rV ad v) ∈ lv_args i (a.map (rV ad))
  | [], i, j, v, h => by simp [eL] at h
  | w :: a, i, j, v, h => by
    rw [show eL (w :: a) = (if w.category = 2 then some w :: none :: eL a else some w :: eL a) from rfl] at h
    rw [List.map_cons]
    unfold lv_args
    rw [rV_cat]
    by_cases hc : w.category = 2
    · rw [if_pos hc] at h
      rw [if_pos hc]
      match j, h with
      | 0, h =>
        simp at h
        subst h
        exact List.mem_cons_self
      | 1, h => simp at h
      | j + 2, h =>
        have := eL_args ad a (i + 2) j v (by simpa using h)
        rw [show i + 2 + j = i + (j + 2) by omega] at this
        exact List.mem_cons_of_mem _ this
    · rw [if_neg hc] at h
      rw [if_neg hc]
      match j, h with
      | 0, h =>
        simp at h
        subst h
        exact List.mem_cons_self
      | j + 1, h =>
        have := eL_args ad a (i + 1) j v (by simpa using h)
        rw [show i + 1 + j = i + (j + 1) by omega] at this
        exact List.mem_cons_of_mem _ this
theorem ent_len {ml : Nat} {a : List Value} (h : (eL a).length ≤ ml) : (entL ml a).length = ml := by
  unfold entL
  rw [List.length_append, List.length_replicate]
  omega
theorem ent_has {ad : Nat → Nat} {ml : Nat} {a : List Value} {lsr : Array Slot} (hle : (eL a).length ≤ ml) (h : lv_has lsr ml (lv_args 0 (a.map (rV ad)))) : lv_has lsr (entL ml a).length (lzL ad (entL ml a)) := by
  refine lv_sb h (ent_len hle).symm fun q hq => ?_
  obtain ⟨j, u⟩ := q
  obtain ⟨v, hv, hu⟩ := lzL_mem.mp hq
  dsimp only at hv hu
  subst hu
  unfold entL at hv
  by_cases hj : j < (eL a).length
  · rw [List.getElem?_append_left hj] at hv
    have := eL_args ad a 0 j v hv
    rwa [Nat.zero_add] at this
  · rw [List.getElem?_append_right (by omega)] at hv
    have := List.eq_of_mem_replicate (List.mem_of_getElem? hv)
    cases this
theorem gAll_row {k i : Nat} (hk : k < gNM) {ins : Instr} (h : (gRes k)[i]? = some ins) : ∃ pc o len, (gTab k)[i]? = some (pc, o, len) ∧ ins = rs k (gTab k) pc o := by
  rw [KR_all k hk, List.getElem?_map] at h
  cases hq : (gTab k)[i]? with
  | none => rw [hq] at h; cases h
  | some q =>
    rw [hq] at h
    obtain ⟨pc, o, len⟩ := q
    exact ⟨pc, o, len, rfl, (Option.some.inj h).symm⟩
def isCl : Instr → Bool
  | .invokevirtual _ | .invokespecial _ | .invokestatic _ => true
  | _ => false
def isRt : Instr → Bool
  | .return_ | .ireturn | .lreturn | .areturn => true
  | _ => false
theorem cl_is {ins : Instr} {st : List Value} {h : Hp} {q : Nat × List Value × List Value} (hq : cl ins st h = some q) : isCl ins = true := by
  cases ins <;> first | rfl | (cases hq; done)
theorem rt_is {k : Nat} {ins : Instr} {st : List Value} {q : Option Value} (hq : rtv k ins st = some q) : isRt ins = true := by
  cases ins <;> first | rfl | (cases hq; done)
theorem oi_cl {α : Type} (x : Option α) (f : α → Instr) (hf : ∀ a, isCl (f a) = false) : isCl (oi (x.map f)) = false := by
  cases x with
  | none => rfl
  | some a => exact hf a
theorem oi_rt {α : Type} (x : Option α) (f : α → Instr) (hf : ∀ a, isRt (f a) = false) : isRt (oi (x.map f)) = false := by
  cases x with
  | none => rfl
  | some a => exact hf a
theorem rs_cl {k : Nat} {T : List (Nat × Instr × Nat)} {pc : Nat} {o : Instr} (h : isCl (rs k T pc o) = true) : ilen o = 3 := by
  cases o
  case ldc x =>
    exfalso
    have z : isCl (rs k T pc (.ldc x)) = false := oi_cl _ _ (fun _ => rfl)
    rw [z] at h
    cases h
  case iaload =>
    exfalso
    dsimp only [rs] at h
    split at h <;> cases h
  case arraylength =>
    exfalso
    dsimp only [rs] at h
    split at h <;> cases h
  all_goals first | rfl | (exfalso; cases h; done)
theorem rs_rt {k : Nat} {T : List (Nat × Instr × Nat)} {pc : Nat} {o : Instr} (h : isRt (rs k T pc o) = true) : isRt o = true := by
  have oi9 : ∀ {α : Type} (x : Option α) (f : α → Instr), (∀ a, isRt (f a) = false) → isRt (oi (x.map f)) = true → False := fun x f hf z => by
    rw [oi_rt x f hf] at z
    cases z
  cases o
  case ldc x => exact (oi9 _ _ (fun _ => rfl) h).elim
  case ldc_w x => exact (oi9 _ _ (fun _ => rfl) h).elim
  case ldc2_w x => exact (oi9 _ _ (fun _ => rfl) h).elim
  case getfield x => exact (oi9 _ _ (fun _ => rfl) h).elim
  case putfield x => exact (oi9 _ _ (fun _ => rfl) h).elim
  case invokevirtual x => exact (oi9 _ _ (fun _ => rfl) h).elim
  case goto x => exact (oi9 _ _ (fun _ => rfl) h).elim
  case if_icmp c x => exact (oi9 _ _ (fun _ => rfl) h).elim
  case ifCond c x => exact (oi9 _ _ (fun _ => rfl) h).elim
  case invokestatic x =>
    exfalso
    dsimp only [rs] at h
    split at h
    · cases h
    · refine oi9 _ _ (fun a => ?_) h
      split <;> rfl
  case invokespecial x =>
    exfalso
    dsimp only [rs] at h
    split at h
    · split at h <;> cases h
    · exact oi9 _ _ (fun _ => rfl) h
  case new x =>
    exfalso
    dsimp only [rs] at h
    split at h
    · cases h
    · split at h <;> cases h
  case anewarray x =>
    exfalso
    dsimp only [rs] at h
    split at h <;> cases h
  case iaload =>
    exfalso
    dsimp only [rs] at h
    split at h <;> cases h
  case arraylength =>
    exfalso
    dsimp only [rs] at h
    split at h <;> cases h
  all_goals first | rfl | (cases h; done)
section CALL
variable {p : Program} {l : Launch} {e : Env} {R : Room} {s : State} {m : MethodId} {args : Array Value} {below : List Frame} {meth : Method} {c : Code} {Q : State → Prop}
variable {D : va_G} {cy : Nat → ClassId} {A A1 : Nat → Prop} {k : Nat} {ad : Nat → Nat} {h h' : Hp} {H : Heap} {locs : List Loc} {cells slots mc ms : Nat} {lsr : Array Slot} {ls ls' : List (Option Value)} {st st' : List Value} {i i' pc len : Nat} {o : Instr} {v : Option Value} {rest st0 : List Value} {a9 : Array Value} {free : Nat → Prop}
theorem g_call (run : va_Run p l e R s m args below meth c H locs cells slots mc ms (F0 m pc lsr st0) rest (gQ D cy ad h v h' A1 a9) free) (hS : va_S A s.heap H locs) (hA1 : ∀ q, A1 q → A q) (hf : ∀ q, free q → A q)
    (kk : ∀ (ad' : Nat → Nat) (H1 : Heap) (locs1 : List Loc), (∀ a, a < zN h ∨ a = zSC → ad' a = ad a) → va_P D vwCl (gws ad' cy h') H1 → va_D A (gws ad' cy h') → va_S A s.heap H1 locs1 → zWF h' → W p l e R s m args below meth c H1 locs1 (cells + mc) (slots + ms) Q (F0 m (pc + 3) lsr ((v.map (rV ad')).toList ++ rest))) : W p l e R s m args below meth c H locs cells slots Q (F0 m pc lsr st0) := by
  intro T hT X
  obtain ⟨v1, st₀, t, T', L, h0, X', hL, e1, e2, ⟨ad', hext, hv, hP, hD, ⟨hz, hk⟩, hwf⟩, stt⟩ := run T hT X
  cases hv
  rw [h0] at hz hk
  obtain ⟨t2, a1, b1⟩ := kk ad' T'.heap (locs ++ L) hext (by rw [e1]; exact hP) (hD.weaken (fun _ _ _ z => hA1 _ z)) ⟨Nat.le_trans hS.1 (by rw [e1]; exact hz), fun q h1 h2 => by rw [e1, hk q (Nat.lt_of_lt_of_le h1 hS.1) (fun z => h2 (hA1 q z))]; exact hS.2.1 q h1 h2, fun q hq => by
      rcases List.mem_append.mp hq with h | h
      · exact hS.2.2 q h
      · exact hf _ (hL q h)⟩ hwf T' rfl X'
  exact ⟨t2, stt t2 a1, b1⟩
end CALL
/-- where method k calls, the callee runs as the small machine says (for runs of n steps) -/
def CallOK (l : Launch) (k n : Nat) : Prop := ∀ (p : Program) (e : Env) (R : Room) (s : State) (m : MethodId) (args : Array Value) (below : List Frame) (meth : Method) (c : Code) (D : va_G) (cy : Nat → ClassId) (A : Nat → Prop) (ad : Nat → Nat) (h : Hp) (H : Heap) (locs : List Loc) (cells slots : Nat) (lsr : Array Slot) (pc len : Nat) (o : Instr) (st : List Value) (d' y : Nat) (a r : List Value) (v : Option Value) (h1 : Hp),
  Cx D cy k p s m args meth c → Rl D cy ad h A s H locs → lsr.size = gML k → (pc, o, len) ∈ gTab k → cl (rs k (gTab k) pc o) st h = some (y, a, r) → catS r ≤ 8 → (eL a).length ≤ gML y → ev n d' y 0 (entL (gML y) a) [] h = some (0, v, h1) → d' + 2 ≤ R.frames → 60 * (d' + 2) ≤ R.locals → cells + zC h1 ≤ R.cells + zC h → slots + zS h1 ≤ R.slots + zS h →
  va_Run p l e R s m args below meth c H locs cells slots (zC h1 - zC h) (zS h1 - zS h) (F0 m pc lsr (st.map (rV ad))) (r.map (rV ad)) (gQ D cy ad h v h1 (va_A (gws ad cy h) H.size) ((a.map (rV ad)).toArray)) (va_A (gws ad cy h) H.size)
theorem gHd_none {k i : Nat} (hk : ¬ (271 ≤ k ∧ k ≤ 274)) : gHd k i = none := by
  unfold gHd
  have e0 : ∀ a : Nat, (271 ≤ a ∧ a ≤ 274) → (a == k) = false := fun a ha => by simp; omega
  simp [e0]
set_option maxRecDepth 100000 in
set_option maxHeartbeats 4000000 in
/-- a body, out of its calls -/
theorem body (l : Launch) (k : Nat) (hk : k < gNM) (hh : ¬ (271 ≤ k ∧ k ≤ 274)) : ∀ n : Nat, (∀ j, j < n → CallOK l k j) → ∀ (d i : Nat) (ls : List (Option Value)) (st : List Value) (h : Hp) (v : Option Value) (h' : Hp), ev n d k i ls st h = some (0, v, h') →
    ∀ (p : Program) (e : Env) (R : Room) (s : State) (m : MethodId) (args : Array Value) (below : List Frame) (meth : Method) (c : Code) (Q : State → Prop) (D : va_G) (cy : Nat → ClassId) (A : Nat → Prop) (ad : Nat → Nat) (H : Heap) (locs : List Loc) (cells slots : Nat) (lsr : Array Slot) (pc len : Nat) (o : Instr),
    Cx D cy k p s m args meth c → Rl D cy ad h A s H locs → lv_has lsr ls.length (lzL ad ls) → ls.length = gML k → (gTab k)[i]? = some (pc, o, len) → (∀ q, s.heap.size ≤ q → A q) → d + 1 ≤ R.frames → 60 * (d + 1) ≤ R.locals → cells + zC h' ≤ R.cells + zC h → slots + zS h' ≤ R.slots + zS h → Sx k ad h A s →
    (∀ (pc' : Nat) (o' : Instr) (st' : List Value) (ad' : Nat → Nat) (cells' slots' : Nat) (H' : Heap) (locs' : List Loc) (lsr' : Array Slot), decode (gB k) pc' = .ok (o', 1) → rtv k o' st' = some v → (∀ a, a < zN h ∨ a = zSC → ad' a = ad a) → cells' + zC h = cells + zC h' → slots' + zS h = slots + zS h' → Rl D cy ad' h' A s H' locs' → W p l e R s m args below meth c H' locs' cells' slots' Q (F0 m pc' lsr' (st'.map (rV ad')))) →
    W p l e R s m args below meth c H locs cells slots Q (F0 m pc lsr (st.map (rV ad))) := by
  intro n
  induction n with
  | zero => intro _ d i ls st h v h' he; cases he
  | succ n ih =>
    intro hcall d i ls st h v h' he p e R s m args below meth c Q D cy A ad H locs cells slots lsr pc len o hC hR hl hll ht hA hfr hlo hcr hsr hsx kr
    have ih := ih (fun j hj => hcall j (Nat.lt_succ_of_lt hj))
    have hkp := ev_keep _ _ _ _ _ _ _ _ _ _ he hR.2.2.2.2
    rw [ev_s] at he
    split at he
    · cases he
    rename_i ins hins
    obtain ⟨pc2, o2, len2, hrow, hinsr⟩ := gAll_row hk hins
    rw [ht] at hrow
    cases hrow
    have hmem := List.mem_of_getElem? ht
    have hdg := KD_all k hk _ hmem
    dsimp only at hdg
    split at he
    · -- a call
      rename_i y a r hcl
      split at he
      · cases he
      rename_i d'
      split at he
      rotate_left
      · cases he
      rename_i hcon
      split at he
      · rename_i v1 h1 hcev
        split at he
        rotate_left
        · cases he
        rename_i hfo
        have k1 := ev_keep _ _ _ _ _ _ _ _ _ _ hcev hR.2.2.2.2
        have k2 := ev_keep _ _ _ _ _ _ _ _ _ _ he k1.1
        rw [hinsr] at hcl
        have run := hcall n (Nat.lt_succ_self n) p e R s m args below meth c D cy A ad h H locs cells slots lsr pc len o st d' y a r v1 h1 hC hR (by rw [hl.1, hll]) hmem hcl hcon.1 hcon.2 hcev (by omega) (by omega) (by have := k2.2.2.2.2.1; omega) (by have := k2.2.2.2.2.2; omega)
        have hA1 : ∀ q, va_A (gws ad cy h) H.size q → A q := fun q hq => by
          rcases hq with ⟨j, E, hj⟩ | hq
          · exact hR.2.1.2 j (q, E) hj
          · exact hA q (Nat.le_trans hR.2.2.1.1 hq)
        refine g_call run hR.2.2.1 hA1 hA1 (fun ad' H1 locs1 hext hP hD hS hwf => ?_)
        have c1 := k1.2.2.2.2.1
        have c2 := k1.2.2.2.2.2
        -- the row behind
        have hlen : len = 3 := by
          have hz : ilen o = len ∨ ilen o = 0 := by
            have := List.all_eq_true.mp (kLn_l k (List.mem_range.mpr hk)) _ hmem
            simpa using this
          have h3 : ilen o = 3 := rs_cl (cl_is hcl)
          omega
        have hsx1 : ∀ ad2 : Nat → Nat, ad2 zSC = ad zSC → Sx k ad2 h1 A s := fun ad2 h2 hL => by
          obtain ⟨xs, z1, z2, z3, z4⟩ := hsx hL
          exact ⟨xs, by rw [h2, k1.2.2.1]; exact z1, by rw [h2]; exact z2, by rw [h2]; exact z3, by rw [k1.2.1]; exact z4⟩
        have hi1 : ∃ o1 len1, (gTab k)[i + 1]? = some (pc + 3, o1, len1) := by
          cases hq : (gTab k)[i + 1]? with
          | none =>
            exfalso
            have : (gRes k)[i + 1]? = none := by rw [KR_all k hk, List.getElem?_map, hq]; rfl
            cases n with
            | zero => cases he
            | succ n =>
              rw [ev_s, this] at he
              cases he
          | some q =>
            have z := kNx_nx _ i _ _ (KN_all k hk) ht hq
            dsimp only at z
            rw [hlen] at z
            obtain ⟨x1, x2, x3⟩ := q
            dsimp only at z
            subst z
            exact ⟨x2, x3, rfl⟩
        obtain ⟨o1, len1, ht1⟩ := hi1
        rcases hfo with ⟨hNN, hvo⟩ | hfo
        · -- nothing was made: the old numbers go on
          have hext2 : ∀ b, b < zN h1 ∨ b = zSC → ad b = ad' b := fun b hb => (hext b (by rw [← hNN]; exact hb)).symm
          have e1 : gws ad' cy h1 = gws ad cy h1 := by
            unfold gws
            refine List.map_congr_left fun b hb => ?_
            have hb' := List.mem_range.mp hb
            rw [hext2 b (Or.inl hb'), gE_ad hwf hext2]
          rw [e1] at hP hD
          have e2 : (v1.map (rV ad')).toList ++ r.map (rV ad) = (v1.toList ++ r).map (rV ad) := by
            rw [List.map_append]
            congr 1
            cases v1 with
            | none => rfl
            | some x =>
              show [rV ad' x] = [rV ad x]
              rw [rV_eq hext2 (N := zN h1) (v := x) hvo]
          rw [e2]
          exact ih (d' + 1) (i + 1) ls (v1.toList ++ r) h1 v h' he p e R s m args below meth c Q D cy A ad H1 locs1 _ _ lsr (pc + 3) len1 o1 hC ⟨hP, hD, hS, hwf, k1.1⟩ hl hll ht1 hA hfr hlo (by omega) (by omega) (hsx1 ad rfl) (fun pc' o' st' ad2 cells' slots' H' locs' lsr' g1 g2 g3 g4 g5 g6 => kr pc' o' st' ad2 cells' slots' H' locs' lsr' g1 g2 (fun b hb => g3 b (by rw [hNN]; exact hb)) (by omega) (by omega) g6)
        · simp only [fOK, Bool.and_eq_true] at hfo
          have e2 : (v1.map (rV ad')).toList ++ r.map (rV ad) = (v1.toList ++ r).map (rV ad') := by
            rw [List.map_append, st_ad hext hfo.2]
            congr 1
            cases v1 <;> rfl
          rw [e2]
          have hN1 := k1.2.2.2.1
          exact ih (d' + 1) (i + 1) ls (v1.toList ++ r) h1 v h' he p e R s m args below meth c Q D cy A ad' H1 locs1 _ _ lsr (pc + 3) len1 o1 hC ⟨hP, hD, hS, hwf, k1.1⟩ (by rw [lzL_ad hext hfo.1]; exact hl) hll ht1 hA hfr hlo (by omega) (by omega) (hsx1 ad' (hext _ (Or.inr rfl))) (fun pc' o' st' ad2 cells' slots' H' locs' lsr' g1 g2 g3 g4 g5 g6 => kr pc' o' st' ad2 cells' slots' H' locs' lsr' g1 g2 (fun b hb => by
            rw [g3 b (by omega)]
            exact hext b hb) (by omega) (by omega) g6)
      · rw [gHd_none hh] at he
        cases he
      · cases he
    · -- an end, or a plain step
      split at he
      · rename_i v2 hrt
        cases he
        have h1 : len = 1 ∧ rtv k o st = some v := by
          rw [hinsr] at hrt
          have hz : ilen o = len ∨ ilen o = 0 := by
            have := List.all_eq_true.mp (kLn_l k (List.mem_range.mpr hk)) _ hmem
            simpa using this
          have hir := rs_rt (rt_is hrt)
          cases o
          case return_ => exact ⟨len_of (N := 1) hz (by decide), hrt⟩
          case ireturn => exact ⟨len_of (N := 1) hz (by decide), hrt⟩
          case lreturn => exact ⟨len_of (N := 1) hz (by decide), hrt⟩
          case areturn => exact ⟨len_of (N := 1) hz (by decide), hrt⟩
          all_goals (cases hir; done)
        obtain ⟨rfl, h2⟩ := h1
        exact kr pc o st ad cells slots H locs lsr hdg h2 (fun _ _ => rfl) rfl rfl hR
      · split at he
        · cases he
        · split at he
          rotate_left
          · cases he
          rename_i i2 ls2 st2 hh2 hx
          rw [hinsr] at hx
          have k1 := ex1_keep hx hR.2.2.2.2
          have k2 := ev_keep _ _ _ _ _ _ _ _ _ _ he k1.1
          have hi2 : i2 < (gTab k).length := by
            by_cases hq : i2 < (gTab k).length
            · exact hq
            · exfalso
              have : (gRes k)[i2]? = none := by
                rw [KR_all k hk, List.getElem?_map, List.getElem?_eq_none (by omega)]
                rfl
              cases n with
              | zero => cases he
              | succ n =>
                rw [ev_s, this] at he
                cases he
          refine step hC hk hR hl hll ht hx hi2 (fun pc' len' o' ad' cells' slots' H' locs' lsr' g1 g2 g3 g4 g5 g6 => ?_) hA (by omega) (by omega) (by have := k2.2.2.2.2.1; omega) (by have := k2.2.2.2.2.2; omega) hsx
          have hll2 : ls2.length = gML k := (ex1_len hx).trans hll
          have hsx1 : Sx k ad' hh2 A s := fun hL => by
            obtain ⟨xs, z1, z2, z3, z4⟩ := hsx hL
            have h2 := g2 zSC (Or.inr rfl)
            exact ⟨xs, by rw [h2, k1.2.2.1]; exact z1, by rw [h2]; exact z2, by rw [h2]; exact z3, by rw [k1.2.1]; exact z4⟩
          have hN1 := k1.2.2.2.1
          exact ih d i2 ls2 st2 hh2 v h' he p e R s m args below meth c Q D cy A ad' H' locs' cells' slots' lsr' pc' len' o' hC g5 g6 hll2 g1 hA hfr hlo (by omega) (by omega) hsx1 (fun pc'' o'' st'' ad2 cells'' slots'' H'' locs'' lsr'' f1 f2 f3 f4 f5 f6 => kr pc'' o'' st'' ad2 cells'' slots'' H'' locs'' lsr'' f1 f2 (fun b hb => by
            rw [f3 b (by omega)]
            exact g2 b hb) (by omega) (by omega) f6)
