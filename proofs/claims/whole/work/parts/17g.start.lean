/-! the law's run: from the small machine's to the machine's (begun with the kit's skeleton) -/
/-! THE CLAIM OUT OF ONE WALK OF THE LAW'S BODY. Your part is whole_start (and what it stands on); all else here is the same for every law, but numbers. -/
def R_law : String := "DiceRingLaw"
def lw_P (b : Addr) (xs : List Int32) (args : Array Value) (s : State) : Prop := args = #[.ref b] ∧ s.IntsAt b xs ∧ xs.length ≤ 3072 ∧ (Jvm.Cond.and given_1 narrow_1).before args s = true
def lw_Q (_ : Array Value) (s : State) (o : Outcome) (t : State) : Prop := o = .returned (some (.int 1)) ∧ Framed s o t [] 601024 7293034
def lw_Z (below : List Frame) (a : Array Value) (s : State) : State → Prop := fun t => ∃ o, t.status = .running ∧ Ended t below o ∧ lw_Q a s o t
/-- the law's own end, with 1 on the stack, nothing written that was there before, its room as the claim has it -/
theorem lw_ret {p : Program} {l : Launch} {e : Env} {s : State} {m : MethodId} {below : List Frame} {meth : Method} {c : Code} {b : Nat} (hx : p.tables.exec = Jvm.exec) (hb : c.code = code) (hr : meth.sig.returnType = ret) (hlocks : meth.locks = false) {pc : Nat} {H : Heap} {ls : Array Slot} (hdg : decode code pc = .ok (.ireturn, 1)) : W p l e room_1 s m #[Value.ref b] below meth c H [] 601024 7293034 (lw_Z below #[Value.ref b] s) (F0 m pc ls [.int 1]) := by
  intro T hT X
  obtain ⟨fs, hret, hrun, hended, hW, hframe⟩ := X.leave (v := some (.int 1)) (hlocks := hlocks) (fun h => by rw [hr] at h; cases h)
  have hmeth' : T.vm.method? m = some meth := X.method'
  refine ⟨T.setFrames fs, ?_, .returned (some (.int 1)), hrun, hended, rfl, ⟨_, rfl⟩, hW, hframe⟩
  jvm_step X.here [X.here.top, hx, hb, hdg, hmeth', hr, ret, narrow_b1]
  (try refine ⟨rfl, ?_⟩); (try refine ⟨rfl, ?_⟩)
  first | (intro acts; rw [hret _ acts rfl rfl rfl]) | rw [hret _ _ rfl rfl rfl]
  exact Steps.refl _
/-- what holds at the law's entry: the machine, the code, the tables' words (any of lw_tbl by 'hts w (by decide +kernel)'), the script of L ints xs at the cell b, what the Statement gives of the start (any of its parts by flat_of_before) -/
def lw_At (p : Program) (s : State) (m : MethodId) (meth : Method) (c : Code) (b L : Nat) (xs : Nat → Int32) : Prop :=
  p.tables.exec = Jvm.exec ∧ c.code = code ∧ meth.sig.returnType = ret ∧ c.maxLocals = 8 ∧ s.vm.findClass R_law = some m.cls ∧ (∀ w ∈ lw_tbl, w.before #[Value.ref b] s = true) ∧ va_X b L xs s s.heap ∧ b < s.heap.size ∧ meth.locks = false ∧ (Jvm.Cond.and given_1 narrow_1).before #[Value.ref b] s = true
set_option maxRecDepth 100000 in
theorem zx_a1 : Cond.arrayClass .byte ∈ tables_1 := List.mem_of_getElem? (i := 1388) (by decide +kernel)
set_option maxRecDepth 100000 in
theorem zx_a2 : Cond.arrayClass .int ∈ tables_1 := List.mem_of_getElem? (i := 65) (by decide +kernel)
set_option maxRecDepth 100000 in
theorem zx_a3 : Cond.arrayClass .long ∈ tables_1 := List.mem_of_getElem? (i := 66) (by decide +kernel)
set_option maxRecDepth 100000 in
theorem zx_a4 : Cond.arrayClass .boolean ∈ tables_1 := List.mem_of_getElem? (i := 1389) (by decide +kernel)
set_option maxRecDepth 100000 in
theorem zx_a5 : Cond.arrayOver (.object "DiceRing$Row") ∈ tables_1 := List.mem_of_getElem? (i := 38) (by decide +kernel)
theorem arrK {t : FieldType} {args : Array Value} {s : State} (h : (Cond.arrayClass t).before args s = true) : ∃ c, ArrOfT s c t ∧ s.vm.findClass ("[" ++ t.toString) = some c := by
  obtain ⟨c, k, comp, h1, h2, h3⟩ := Cond.arrayClass_spec h
  exact ⟨c, fun n z => ⟨(fun k h => by cases h), k, h2, comp, h3⟩, h1⟩
theorem WK_start {s : State} {args : Array Value} (hts : ∀ w ∈ lw_tbl, w.before args s = true) : ∃ (D : va_G) (cy : Nat → ClassId), WK D cy s := by
  have ht : ∀ w ∈ tables_1, w.before args s = true := fun w hw => hts w (List.mem_append_right _ hw)
  have hg : ∀ w ∈ gAll, w.before args s = true := fun w hw => hts w (List.mem_filter.mp hw).1
  obtain ⟨c0, i0, -⟩ := u_known hg (kind_ok 0 (by omega)).2.1 (hg _ (gIn_w 0 (List.mem_range.mpr (by omega))))
  have h1 : ∀ k, ∃ (cC : ClassId) (iS : Nat → Nat), k < 13 → u_Kn s (gC k) (gTX k) (gN k) cC iS := by
    intro k
    by_cases hk : k < 13
    · obtain ⟨c, iS, h⟩ := u_known hg (kind_ok k hk).2.1 (hg _ (gIn_w k (List.mem_range.mpr hk)))
      exact ⟨c, iS, fun _ => h⟩
    · exact ⟨c0, i0, fun h => absurd h hk⟩
  obtain ⟨c13, a13, f13⟩ := arrK (ht _ zx_a1)
  obtain ⟨c14, a14, f14⟩ := arrK (ht _ zx_a2)
  obtain ⟨c15, a15, f15⟩ := arrK (ht _ zx_a3)
  obtain ⟨c16, a16, f16⟩ := arrK (ht _ zx_a4)
  obtain ⟨comp, c17, k17, r1, r2, r3, r4, r5⟩ := Cond.arrayOver_spec (ht _ zx_a5)
  refine ⟨(fun k => Classical.choose (h1 k), fun k => Classical.choose (Classical.choose_spec (h1 k))), fun k => if k = 13 then c13 else if k = 14 then c14 else if k = 15 then c15 else if k = 16 then c16 else c17, ⟨fun c q hq => ?_, fun k q hq => ?_⟩, va_AO.of (ht _ zx_a5), fun e he => va_Nw.of rfl (ht _ (gNk_w e he))⟩
  · have hc : c < 13 := (List.getElem?_eq_some_iff.mp hq).1
    have e := (kind_ok c hc).1
    rw [hq] at e
    cases e
    exact Classical.choose_spec (Classical.choose_spec (h1 c)) hc
  · match k, hq with
    | 0, hq => cases hq; exact ⟨a13, f13⟩
    | 1, hq => cases hq; exact ⟨a14, f14⟩
    | 2, hq => cases hq; exact ⟨a15, f15⟩
    | 3, hq => cases hq; exact ⟨a16, f16⟩
    | 4, hq => cases hq; exact ⟨fun n z => ⟨(fun k h => by cases h), k17, r3, comp, r4⟩, k17, comp, r3, r4, r1, r5⟩
    | k + 5, hq => simp [gTy] at hq
theorem ZX_start {s : State} {args : Array Value} {A : Nat → Prop} (hts : ∀ w ∈ lw_tbl, w.before args s = true) (hgv : (Jvm.Cond.and given_1 narrow_1).before args s = true) (hA : ∀ a : Nat, a < s.heap.size → ¬ A a) : ZX A s := by
  have ht : ∀ w ∈ tables_1, w.before args s = true := fun w hw => hts w (List.mem_append_right _ hw)
  have hs := flat_of_before _ hgv
  exact ⟨vx_Zqof (ht _ zx_s1) (ht _ zx_t) (hs _ (by decide +kernel)) hA, vx_Zqof (ht _ zx_s2) (ht _ zx_t) (hs _ (by decide +kernel)) hA, va_Nw.of rfl (ht _ zx_c), va_Nw.of rfl (ht _ zx_d1), va_Nw.of rfl (ht _ zx_d2), va_Nw.of rfl (ht _ zx_d3)⟩
/-- the small machine's beginning: the script alone -/
def h0S (L : Nat) (xs : Nat → Int32) : Hp := (fun _ => 0, fun a => if a = zSC then L else 0, fun a i => if a = zSC then xs i else 0, fun _ _ => 0, fun _ _ => none, (0, 0, 0))
set_option maxRecDepth 100000 in
theorem kL0 : (gTab gLAW)[0]?.map (fun q => q.1) = some 0 := by decide +kernel
set_option maxRecDepth 100000 in
theorem kL1 : gML gLAW = 8 ∧ gC (gOwn gLAW) = "DiceRingLaw" ∧ gLAW < gNM ∧ ¬ (271 ≤ gLAW ∧ gLAW ≤ 274) ∧ gSt gLAW ≠ 2 := by decide +kernel
set_option maxRecDepth 100000 in
theorem kL2 : gB gLAW = code := rfl
set_option maxRecDepth 100000 in
set_option maxHeartbeats 4000000 in
theorem law_run {p : Program} {e : Env} {s : State} {m : MethodId} {below : List Frame} {meth : Method} {c : Code} (l : Launch) (hflags : l.flags = flags0) {b L : Nat} {xs : Nat → Int32} (C0 : lw_At p s m meth c b L xs) {n : Nat} {h' : Hp} (he : ev n 140 gLAW 0 (entL (gML gLAW) [.ref zSC]) [] (h0S L xs) = some (0, some (.int 1), h')) (hc : zC h' ≤ 601024) (hs : zS h' ≤ 7293034) : W p l e room_1 s m #[Value.ref b] below meth c s.heap [] 0 0 (lw_Z below #[Value.ref b] s) (entryFrame m ([Value.ref b] : List Value).toArray 8) := by
  obtain ⟨hx, hb, hr, hml, hown, hts, hX, hbl, hlocks, hgv⟩ := id C0
  obtain ⟨l1, l2, l3, l4, l5⟩ := kL1
  have hfl : l.stackTraces = false := by
    unfold Launch.stackTraces
    rw [hflags]
    decide +kernel
  obtain ⟨D, cy, hWK⟩ := WK_start hts
  obtain ⟨A, hAe⟩ : ∃ A : Nat → Prop, A = fun q => s.heap.size ≤ q := ⟨_, rfl⟩
  obtain ⟨ad, had⟩ : ∃ ad : Nat → Nat, ad zSC = b := ⟨fun _ => b, rfl⟩
  have hZ : ZX A s := ZX_start hts hgv (fun a ha => by rw [hAe]; exact Nat.not_le.mpr ha)
  have hA : ∀ q : Nat, s.heap.size ≤ q → A q := fun q h => by rw [hAe]; exact h
  have hl := lv_entry ([Value.ref b]) (n := 8) (Nat.le_of_ble_eq_true rfl)
  rw [lg_entry_eq]
  generalize (lg_sl ([Value.ref b]) ++ List.replicate (8 - (lg_sl ([Value.ref b])).length) Slot.unset).toArray = lsr at hl ⊢
  have e1 : ([Value.ref zSC]).map (rV ad) = [Value.ref b] := by
    show [Value.ref (ad zSC)] = _
    rw [had]
  have hle : (eL [Value.ref zSC]).length ≤ gML gLAW := by
    rw [l1]
    exact Nat.le_of_ble_eq_true rfl
  have hl2 : lv_has lsr (entL (gML gLAW) [.ref zSC]).length (lzL ad (entL (gML gLAW) [.ref zSC])) := ent_has hle (by rw [e1, l1]; exact hl)
  have hg : ∀ w ∈ gAll, w.before #[Value.ref b] s = true := fun w hw => hts w (List.mem_filter.mp hw).1
  have h0 := kL0
  cases hq : (gTab gLAW)[0]? with
  | none => rw [hq] at h0; cases h0
  | some q =>
  obtain ⟨pc, o, len⟩ := q
  rw [hq] at h0
  have hpc : pc = 0 := Option.some.inj h0
  subst hpc
  have hP : va_P D vwCl (gws ad cy (h0S L xs)) s.heap := fun k q h => by simp [gws, h0S, zN] at h
  have hD : va_D A (gws ad cy (h0S L xs)) := ⟨fun i j p q h => by simp [gws, h0S, zN] at h, fun k q h => by simp [gws, h0S, zN] at h⟩
  have hwf : zWF (h0S L xs) := fun a j b h => by cases h
  have hsx : Sx gLAW ad (h0S L xs) A s := fun _ => by
    have e2 : zL (h0S L xs) zSC = L := by
      show (if zSC = zSC then L else 0) = L
      rw [if_pos rfl]
    have e3 : zI (h0S L xs) zSC = xs := by
      funext i
      show (if zSC = zSC then xs i else 0) = _
      rw [if_pos rfl]
    exact ⟨xs, by rw [had, e2]; exact hX, by rw [had]; exact hbl, by rw [had, hAe]; exact Nat.not_le.mpr hbl, e3⟩
  refine bodyL l gLAW l3 l4 n (fun j _ => callZ_of l hfl j gLAW l3 rfl) 140 0 (entL (gML gLAW) [.ref zSC]) [] (h0S L xs) (some (.int 1)) h' he p e room_1 s m #[Value.ref b] below meth c (lw_Z below #[Value.ref b] s) D cy A ad s.heap [] 0 0 lsr 0 len o hZ (by omega) ⟨hx, by rw [kL2]; exact hb, by rw [l1]; exact hml, by rw [l2]; exact hown, hg, hWK, fun q => absurd q l5⟩ ⟨hP, hD, va_S.rf, hwf, Nat.zero_le _⟩ hl2 (ent_len hle) hq hA (Nat.le_of_ble_eq_true rfl) (Nat.le_of_ble_eq_true rfl) (by show 0 + zC h' ≤ 601024 + 0; omega) (by show 0 + zS h' ≤ 7293034 + 0; omega) hsx (fun pc' o' st' ad' cells' slots' H' locs' lsr' g1 g2 g3 g4 g5 g6 => ?_)
  have g4' : cells' + 0 = 0 + zC h' := g4
  have g5' : slots' + 0 = 0 + zS h' := g5
  rw [kL2] at g1
  cases o'
  case ireturn =>
    dsimp only [rtv] at g2
    split at g2
    rotate_left
    · cases g2
    rename_i x
    split at g2
    rotate_left
    · cases g2
    cases g2
    exact W.widen (k := 601024) (n := 7293034) (by omega) (by omega) (va_forget (fun q hq => by have := g6.2.2.1.2.2 q hq; rw [hAe] at this; exact this) (lw_ret hx hb hr hlocks g1))
  case return_ =>
    dsimp only [rtv] at g2
    split at g2 <;> cases g2
  case lreturn =>
    dsimp only [rtv] at g2
    split at g2
    · split at g2 <;> cases g2
    · cases g2
  case areturn =>
    dsimp only [rtv] at g2
    split at g2
    · split at g2 <;> cases g2
    · cases g2
  all_goals (dsimp only [rtv] at g2; cases g2)
