/-! the small machine's steps are the machine's -/
theorem kNx_nx : ∀ (T : List (Nat × Instr × Nat)) (i : Nat) (a b : Nat × Instr × Nat), kNx T = true → T[i]? = some a → T[i + 1]? = some b → b.1 = a.1 + a.2.2
  | [], i, a, b, _, h, _ => by simp at h
  | [x], i, a, b, _, h, h2 => by simp at h2
  | x :: y :: T, 0, a, b, hk, h, h2 => by
    simp only [kNx, Bool.and_eq_true, beq_iff_eq] at hk
    simp at h h2
    subst h
    subst h2
    exact hk.1
  | x :: y :: T, i + 1, a, b, hk, h, h2 => by
    simp only [kNx, Bool.and_eq_true, beq_iff_eq] at hk
    exact kNx_nx (y :: T) i a b hk.2 (by simpa using h) (by simpa using h2)
theorem ix_get {T : List (Nat × Instr × Nat)} {pc : Nat} {off t : Int} (h : ix T pc off = some t) : ∃ (j : Nat) (e : Nat × Instr × Nat), t = (j : Int) ∧ T[j]? = some e ∧ (pc : Int) + off = (e.1 : Int) := by
  unfold ix at h
  cases hq : T.findIdx? (fun e => (e.1 : Int) == (pc : Int) + off) with
  | none => rw [hq] at h; cases h
  | some j =>
    rw [hq] at h
    cases h
    obtain ⟨hj, hp, -⟩ := List.findIdx?_eq_some_iff_getElem.mp hq
    refine ⟨j, T[j], rfl, List.getElem?_eq_getElem hj, ?_⟩
    have hp2 := hp
    simp only [beq_iff_eq] at hp2
    exact hp2.symm
theorem lk_get {l : List (Nat × Nat × Nat)} {own x y : Nat} (h : lk l own x = some y) : (own, x, y) ∈ l := by
  unfold lk at h
  cases hq : l.find? (fun e => e.1 == own && e.2.1 == x) with
  | none => rw [hq] at h; cases h
  | some e =>
    rw [hq] at h
    have hm := List.mem_of_find?_eq_some hq
    have hp := List.find?_some hq
    simp only [Bool.and_eq_true, beq_iff_eq] at hp
    have h2 : e.2.2 = y := by simpa using h
    rw [← hp.1, ← hp.2, ← h2]
    exact hm
theorem lkI_get {l : List (Nat × Nat × Int)} {own x : Nat} {y : Int} (h : lkI l own x = some y) : (own, x, y) ∈ l := by
  unfold lkI at h
  cases hq : l.find? (fun e => e.1 == own && e.2.1 == x) with
  | none => rw [hq] at h; cases h
  | some e =>
    rw [hq] at h
    have hm := List.mem_of_find?_eq_some hq
    have hp := List.find?_some hq
    simp only [Bool.and_eq_true, beq_iff_eq] at hp
    have h2 : e.2.2 = y := by simpa using h
    rw [← hp.1, ← hp.2, ← h2]
    exact hm
theorem inB_vp {i : Int32} {n : Nat} (h : inB i n = true) : vp_in i n := by
  simp only [inB, Bool.and_eq_true, decide_eq_true_eq] at h
  intro q
  rcases q with q | q
  · exact absurd h.1 (Int32.not_le.mpr q)
  · omega
/-- what stays, whatever is done -/
def KP (h h' : Hp) : Prop := zN h' ≤ zSC ∧ zI h' zSC = zI h zSC ∧ zL h' zSC = zL h zSC ∧ zN h ≤ zN h' ∧ zC h ≤ zC h' ∧ zS h ≤ zS h'
theorem KP.rf {h : Hp} (hn : zN h ≤ zSC) : KP h h := ⟨hn, rfl, rfl, Nat.le_refl _, Nat.le_refl _, Nat.le_refl _⟩
theorem KP.tr {a b c : Hp} (h1 : KP a b) (h2 : KP b c) : KP a c := ⟨h2.1, h2.2.1.trans h1.2.1, h2.2.2.1.trans h1.2.2.1, Nat.le_trans h1.2.2.2.1 h2.2.2.2.1, Nat.le_trans h1.2.2.2.2.1 h2.2.2.2.2.1, Nat.le_trans h1.2.2.2.2.2 h2.2.2.2.2.2⟩
def Rl (D : va_G) (cy : Nat → ClassId) (ad : Nat → Nat) (h : Hp) (A : Nat → Prop) (s : State) (H : Heap) (locs : List Loc) : Prop := va_P D vwCl (gws ad cy h) H ∧ va_D A (gws ad cy h) ∧ va_S A s.heap H locs ∧ zWF h ∧ zN h ≤ zSC
/-- the tables' words of a state that come along into a call -/
def WK (D : va_G) (cy : Nat → ClassId) (s : State) : Prop := va_K D vwCl (gTy cy) s ∧ va_AO "DiceRing$Row" s ∧ ∀ e ∈ gNk, va_Nw (wNk e) s
def Cx (D : va_G) (cy : Nat → ClassId) (k : Nat) (p : Program) (s : State) (m : MethodId) (args : Array Value) (meth : Method) (c : Code) : Prop := p.tables.exec = Jvm.exec ∧ c.code = gB k ∧ c.maxLocals = gML k ∧ s.vm.findClass (gC (gOwn k)) = some m.cls ∧ (∀ w ∈ gAll, w.before args s = true) ∧ WK D cy s ∧ (gSt k = 2 → meth.name = "<init>")
/-- the script, for the law's own body -/
def Sx (k : Nat) (ad : Nat → Nat) (h : Hp) (A : Nat → Prop) (s : State) : Prop := k = gLAW → ∃ xs : Nat → Int32, va_X (ad zSC) (zL h zSC) xs s s.heap ∧ ad zSC < s.heap.size ∧ ¬ A (ad zSC) ∧ zI h zSC = xs
section SND
variable {p : Program} {l : Launch} {e : Env} {R : Room} {s : State} {m : MethodId} {args : Array Value} {below : List Frame} {meth : Method} {c : Code} {Q : State → Prop}
variable {D : va_G} {cy : Nat → ClassId} {A : Nat → Prop} {k : Nat} {ad : Nat → Nat} {h h' : Hp} {H : Heap} {locs : List Loc} {cells slots : Nat} {lsr : Array Slot} {ls ls' : List (Option Value)} {st st' : List Value} {i i' pc len : Nat} {o : Instr}
/-- the goal behind a step -/
def KK (p : Program) (l : Launch) (e : Env) (R : Room) (s : State) (m : MethodId) (args : Array Value) (below : List Frame) (meth : Method) (c : Code) (Q : State → Prop) (D : va_G) (cy : Nat → ClassId) (A : Nat → Prop) (k : Nat) (ad : Nat → Nat) (h : Hp) (cells slots : Nat) (i' : Nat) (ls' : List (Option Value)) (st' : List Value) (h' : Hp) : Prop :=
  ∀ (pc' len' : Nat) (o' : Instr) (ad' : Nat → Nat) (cells' slots' : Nat) (H' : Heap) (locs' : List Loc) (lsr' : Array Slot), (gTab k)[i']? = some (pc', o', len') → (∀ a, a < zN h ∨ a = zSC → ad' a = ad a) → cells' + zC h = cells + zC h' → slots' + zS h = slots + zS h' → Rl D cy ad' h' A s H' locs' → lv_has lsr' ls'.length (lzL ad' ls') → W p l e R s m args below meth c H' locs' cells' slots' Q (F0 m pc' lsr' (st'.map (rV ad')))
theorem nx_row (hk : k < gNM) (ht : (gTab k)[i]? = some (pc, o, len)) (hi : i + 1 < (gTab k).length) : ∃ o' len', (gTab k)[i + 1]? = some (pc + len, o', len') := by
  obtain ⟨⟨a, b, c⟩, hq⟩ : ∃ x, (gTab k)[i + 1]? = some x := ⟨_, List.getElem?_eq_getElem hi⟩
  have := kNx_nx _ i _ _ (KN_all k hk) ht hq
  dsimp only at this
  subst this
  exact ⟨_, _, hq⟩
theorem nxt (hk : k < gNM) (ht : (gTab k)[i]? = some (pc, o, len)) (hi : i + 1 < (gTab k).length) (hR : Rl D cy ad h A s H locs) (kk : KK p l e R s m args below meth c Q D cy A k ad h cells slots (i + 1) ls' st' h) (hl : lv_has lsr ls'.length (lzL ad ls')) : W p l e R s m args below meth c H locs cells slots Q (F0 m (pc + len) lsr (st'.map (rV ad))) := by
  obtain ⟨o', len', hq⟩ := nx_row hk ht hi
  exact kk _ _ _ ad cells slots H locs lsr hq (fun _ _ => rfl) rfl rfl hR hl
/-- the same heap's contents changed at one cell -/
theorem nxtH {H1 : Heap} {locs1 : List Loc} (hk : k < gNM) (ht : (gTab k)[i]? = some (pc, o, len)) (hi : i + 1 < (gTab k).length) (hR : Rl D cy ad h' A s H1 locs1) (hc : zC h' = zC h) (hs : zS h' = zS h) (kk : KK p l e R s m args below meth c Q D cy A k ad h cells slots (i + 1) ls' st' h') (hl : lv_has lsr ls'.length (lzL ad ls')) : W p l e R s m args below meth c H1 locs1 cells slots Q (F0 m (pc + len) lsr (st'.map (rV ad))) := by
  obtain ⟨o', len', hq⟩ := nx_row hk ht hi
  exact kk _ _ _ ad cells slots H1 locs1 lsr hq (fun _ _ => rfl) (by rw [hc]) (by rw [hs]) hR hl
theorem tgtW {t : Int} {off : Int} (hR : Rl D cy ad h A s H locs) (hix : ix (gTab k) pc off = some t) (kk : KK p l e R s m args below meth c Q D cy A k ad h cells slots t.toNat ls' st' h) (hl : lv_has lsr ls'.length (lzL ad ls')) : ∃ tgt : Nat, (pc : Int) + off = (tgt : Int) ∧ W p l e R s m args below meth c H locs cells slots Q (F0 m tgt lsr (st'.map (rV ad))) := by
  obtain ⟨j, ⟨a, b, d⟩, rfl, h1, h2⟩ := ix_get hix
  exact ⟨a, h2, kk _ _ _ ad cells slots H locs lsr h1 (fun _ _ => rfl) rfl rfl hR hl⟩
-- heaps behind a store
theorem Rl_I {a j : Nat} {v : Int32} {H1 : Heap} {locs1 : List Loc} {E : va_E} (hR : Rl D cy ad h A s H locs) (he : gE ad cy (zsI h a j v) a = E) (hP : va_P D vwCl ((gws ad cy h).set a (ad a, E)) H1) (hD : va_D A ((gws ad cy h).set a (ad a, E))) (hS : va_S A s.heap H1 locs1) : Rl D cy ad (zsI h a j v) A s H1 locs1 := by
  have e1 : (gws ad cy h).set a (ad a, E) = gws ad cy (zsI h a j v) := gws_set rfl (fun b hb => gE_eq rfl rfl (zsI_o hb) rfl rfl) he
  rw [e1] at hP hD
  exact ⟨hP, hD, hS, hR.2.2.2.1, hR.2.2.2.2⟩
theorem Rl_J {a j : Nat} {v : Int64} {H1 : Heap} {locs1 : List Loc} {E : va_E} (hR : Rl D cy ad h A s H locs) (he : gE ad cy (zsJ h a j v) a = E) (hP : va_P D vwCl ((gws ad cy h).set a (ad a, E)) H1) (hD : va_D A ((gws ad cy h).set a (ad a, E))) (hS : va_S A s.heap H1 locs1) : Rl D cy ad (zsJ h a j v) A s H1 locs1 := by
  have e1 : (gws ad cy h).set a (ad a, E) = gws ad cy (zsJ h a j v) := gws_set rfl (fun b hb => gE_eq rfl rfl rfl (zsJ_o hb) rfl) he
  rw [e1] at hP hD
  exact ⟨hP, hD, hS, hR.2.2.2.1, hR.2.2.2.2⟩
theorem Rl_R {a j b : Nat} {H1 : Heap} {locs1 : List Loc} {E : va_E} (hb : b < zN h) (hR : Rl D cy ad h A s H locs) (he : gE ad cy (zsR h a j (some b)) a = E) (hP : va_P D vwCl ((gws ad cy h).set a (ad a, E)) H1) (hD : va_D A ((gws ad cy h).set a (ad a, E))) (hS : va_S A s.heap H1 locs1) : Rl D cy ad (zsR h a j (some b)) A s H1 locs1 := by
  have e1 : (gws ad cy h).set a (ad a, E) = gws ad cy (zsR h a j (some b)) := gws_set rfl (fun b hb => gE_eq rfl rfl rfl rfl (zsR_o hb)) he
  rw [e1] at hP hD
  refine ⟨hP, hD, hS, fun x y z hz => ?_, hR.2.2.2.2⟩
  have hz' : u2 (zR h) a j (some b) x y = some z := hz
  unfold u2 at hz'
  split at hz'
  · cases hz'
    exact hb
  · exact hR.2.2.2.1 x y z hz'
theorem Rl_new {q k0 n0 s0 : Nat} {H1 : Heap} {locs1 : List Loc} {E : va_E} (hR : Rl D cy ad h A s H locs) (hn : zN h < zSC) (he : gE (u1 ad (zN h) q) cy (zNew h k0 n0 s0) (zN h) = E) (hP : va_P D vwCl (gws ad cy h ++ [(q, E)]) H1) (hD : va_D A (gws ad cy h ++ [(q, E)])) (hS : va_S A s.heap H1 locs1) : Rl D cy (u1 ad (zN h) q) (zNew h k0 n0 s0) A s H1 locs1 := by
  have ho : ∀ {α : Type} (f : Nat → α) (b : Nat) (v : α), b < zN h → u1 f (zN h) v b = f b := fun f b v hb => by
    unfold u1
    rw [if_neg (Nat.ne_of_lt hb)]
  have e1 : gws ad cy h ++ [(q, E)] = gws (u1 ad (zN h) q) cy (zNew h k0 n0 s0) := by
    refine gws_push rfl (fun b hb => ?_) he
    have z := gE_eq (ad := u1 ad (zN h) q) (cy := cy) (h := h) (h' := zNew h k0 n0 s0) (a := b) (ho (zK h) b k0 hb) (ho (zL h) b n0 hb) (ho (zI h) b (fun _ => 0) hb) (ho (zJ h) b (fun _ => 0) hb) (ho (zR h) b (fun _ => none) hb)
    rw [z]
    exact gE_ad hR.2.2.2.1 (u1_ext hn)
  rw [e1] at hP hD
  refine ⟨hP, hD, hS, fun x y z hz => ?_, hn⟩
  have hz' : u1 (zR h) (zN h) (fun _ => none) x y = some z := hz
  unfold u1 at hz'
  split at hz'
  · cases hz'
  · exact Nat.lt_succ_of_lt (hR.2.2.2.1 x y z hz')
end SND
