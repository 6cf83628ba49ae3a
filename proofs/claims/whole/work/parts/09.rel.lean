/-! WHAT THE SMALL MACHINE'S CELLS ARE IN THE HEAP: cell a stands at ad a. -/
def gAll : List Cond := lw_tbl.filter goodWord
theorem gAll_t {w : Cond} (h : w ∈ tables_1) (hg : goodWord w = true) : w ∈ gAll := List.mem_filter.mpr ⟨List.mem_append_right _ h, hg⟩
def rV (ad : Nat → Nat) : Value → Value
  | .ref a => .ref (ad a)
  | v => v
theorem rV_int (ad : Nat → Nat) (x : Int32) : rV ad (.int x) = .int x := rfl
theorem rV_long (ad : Nat → Nat) (x : Int64) : rV ad (.long x) = .long x := rfl
theorem rV_ref (ad : Nat → Nat) (x : Nat) : rV ad (.ref x) = .ref (ad x) := rfl
theorem rV_null (ad : Nat → Nat) : rV ad .null = .null := rfl
theorem rV_cat (ad : Nat → Nat) (v : Value) : (rV ad v).category = v.category := by cases v <;> rfl
theorem rV_rf (ad : Nat → Nat) (r : Option Nat) : rV ad (va_rf r) = va_rf (r.map ad) := by cases r <;> rfl
theorem rV_eq {ad ad' : Nat → Nat} {N : Nat} (h : ∀ a, a < N ∨ a = zSC → ad' a = ad a) {v : Value} (hv : vOK N v = true) : rV ad' v = rV ad v := by
  cases v with
  | ref a => exact congrArg Value.ref (h a (of_decide_eq_true hv))
  | _ => rfl
def gTcL : List (List Nat) := [[2, 2, 2, 2, 0, 3], [2, 2, 2, 2, 2, 0, 0, 0, 0, 0, 0, 0, 0], [2, 2, 2, 2, 0], [2, 2, 2, 0, 0], [2, 2, 2, 0, 0, 0], [2, 0, 0, 0, 0, 0], [0, 2, 0, 0, 1], [2, 2, 2, 0], [2, 2, 2, 3, 0, 0, 0], [2, 2, 2, 2, 2, 0], [2, 2, 2, 2, 2, 2, 0, 0, 0, 0, 0], [2, 0, 2, 2, 0, 2, 3, 2, 2, 2, 2, 2, 2, 2, 2, 2], [0, 2, 0, 0, 0, 2, 2, 3, 2, 2, 2, 2, 2, 2, 2, 2, 2, 0, 0, 0, 0, 0, 0, 1, 2, 2, 2, 2, 0, 2, 2, 2, 2, 2, 2, 2, 2, 2, 2, 0, 0, 0, 0, 0, 0, 2, 2, 2, 2, 2, 2, 2, 0, 0, 0, 0, 0, 2, 2]]
def gTc (k j : Nat) : Nat := (gTcL.getD k []).getD j 0
def gFs (ad : Nat → Nat) (h : Hp) (k a : Nat) : List Value := (List.range (gN k)).map (fun j => rV ad (gv h a j (gTc k j)))
def gAr (ad : Nat → Nat) (cy : Nat → ClassId) (h : Hp) (a : Nat) : Nat → va_E
  | 13 => .inl (cy 13, zL h a, .inl (zI h a))
  | 14 => .inl (cy 14, zL h a, .inl (zI h a))
  | 15 => .inl (cy 15, zL h a, .inr (.inl (zJ h a)))
  | 16 => .inl (cy 16, zL h a, .inl (zI h a))
  | _ => .inl (cy 17, zL h a, .inr (.inr (.inr (.inr (fun i => (zR h a i).map ad)))))
def gE (ad : Nat → Nat) (cy : Nat → ClassId) (h : Hp) (a : Nat) : va_E := if zK h a < 13 then .inr (zK h a, gFs ad h (zK h a) a) else gAr ad cy h a (zK h a)
def gws (ad : Nat → Nat) (cy : Nat → ClassId) (h : Hp) : va_W := (List.range (zN h)).map (fun a => (ad a, gE ad cy h a))
def gTy (cy : Nat → ClassId) : List (ClassId × FieldType) := [(cy 13, .byte), (cy 14, .int), (cy 15, .long), (cy 16, .boolean), (cy 17, .object "DiceRing$Row")]
def zWF (h : Hp) : Prop := ∀ a j b, zR h a j = some b → b < zN h
theorem gws_get {ad : Nat → Nat} {cy : Nat → ClassId} {h : Hp} {a : Nat} (ha : a < zN h) : (gws ad cy h)[a]? = some (ad a, gE ad cy h a) := by
  simp [gws, ha]
theorem gE_obj {ad : Nat → Nat} {cy : Nat → ClassId} {h : Hp} {a k : Nat} (hk : zK h a = k) (h13 : k < 13) : gE ad cy h a = .inr (k, gFs ad h k a) := by
  subst hk
  simp [gE, h13]
theorem gE_arr {ad : Nat → Nat} {cy : Nat → ClassId} {h : Hp} {a k : Nat} (hk : zK h a = k) (h13 : ¬ k < 13) : gE ad cy h a = gAr ad cy h a k := by
  subst hk
  simp [gE, h13]
theorem gv_eq {h h' : Hp} {a j t : Nat} (h1 : zI h' a = zI h a) (h2 : zJ h' a = zJ h a) (h3 : zR h' a = zR h a) : gv h' a j t = gv h a j t := by
  unfold gv
  split <;> simp [h1, h2, h3]
theorem gE_eq {ad : Nat → Nat} {cy : Nat → ClassId} {h h' : Hp} {a : Nat} (hk : zK h' a = zK h a) (hl : zL h' a = zL h a) (h1 : zI h' a = zI h a) (h2 : zJ h' a = zJ h a) (h3 : zR h' a = zR h a) : gE ad cy h' a = gE ad cy h a := by
  unfold gE
  rw [hk]
  have e : gFs ad h' (zK h a) a = gFs ad h (zK h a) a := by
    unfold gFs
    exact List.map_congr_left fun j _ => by rw [gv_eq h1 h2 h3]
  rw [e]
  by_cases c : zK h a < 13
  · rw [if_pos c, if_pos c]
  · rw [if_neg c, if_neg c]
    unfold gAr
    split <;> simp [hl, h1, h2, h3]
theorem gE_ad {ad ad' : Nat → Nat} {cy : Nat → ClassId} {h : Hp} {a : Nat} (hw : zWF h) (hA : ∀ b, b < zN h ∨ b = zSC → ad' b = ad b) : gE ad' cy h a = gE ad cy h a := by
  unfold gE
  have e : ∀ (i : Nat), (zR h a i).map ad' = (zR h a i).map ad := fun i => by
    cases hq : zR h a i with
    | none => rfl
    | some b => exact congrArg some (hA b (Or.inl (hw a i b hq)))
  have e2 : gFs ad' h (zK h a) a = gFs ad h (zK h a) a := by
    unfold gFs
    refine List.map_congr_left fun j _ => ?_
    unfold gv
    split
    · rfl
    · rw [rV_rf, rV_rf, e]
    · rfl
  rw [e2]
  by_cases c : zK h a < 13
  · rw [if_pos c, if_pos c]
  · rw [if_neg c, if_neg c]
    unfold gAr
    split <;> simp [e]
theorem gws_set {ad : Nat → Nat} {cy : Nat → ClassId} {h h' : Hp} {a : Nat} {E : va_E} (hN : zN h' = zN h) (ho : ∀ b, b ≠ a → gE ad cy h' b = gE ad cy h b) (he : gE ad cy h' a = E) : (gws ad cy h).set a (ad a, E) = gws ad cy h' := by
  apply List.ext_getElem?
  intro i
  unfold gws
  rw [hN, List.getElem?_set]
  by_cases hi : a = i
  · subst hi
    simp only [if_true]
    by_cases hl : a < zN h
    · simp [hl, he]
    · simp [hl]
  · rw [if_neg hi]
    simp only [List.getElem?_map]
    by_cases hl : i < zN h
    · simp [hl, ho i (fun q => hi q.symm)]
    · simp [hl]
theorem gws_push {ad : Nat → Nat} {cy : Nat → ClassId} {h h' : Hp} {q : Nat} {E : va_E} (hN : zN h' = zN h + 1) (ho : ∀ b, b < zN h → gE (u1 ad (zN h) q) cy h' b = gE ad cy h b) (he : gE (u1 ad (zN h) q) cy h' (zN h) = E) : gws ad cy h ++ [(q, E)] = gws (u1 ad (zN h) q) cy h' := by
  unfold gws
  rw [hN, List.range_succ, List.map_append]
  congr 1
  · refine List.map_congr_left fun b hb => ?_
    have hb' := List.mem_range.mp hb
    rw [ho b hb']
    simp [u1, Nat.ne_of_lt hb']
  · simp [u1, he]
theorem u1_ext {ad : Nat → Nat} {N q : Nat} (hN : N < zSC) : ∀ a, a < N ∨ a = zSC → u1 ad N q a = ad a := by
  intro a ha
  unfold u1
  rw [if_neg]
  omega
-- what the setters are at each place
theorem zsI_o {h : Hp} {a i b : Nat} {v : Int32} (hb : b ≠ a) : zI (zsI h a i v) b = zI h b := by
  funext j
  show u2 (zI h) a i v b j = _
  simp [u2, hb]
theorem zsJ_o {h : Hp} {a i b : Nat} {v : Int64} (hb : b ≠ a) : zJ (zsJ h a i v) b = zJ h b := by
  funext j
  show u2 (zJ h) a i v b j = _
  simp [u2, hb]
theorem zsR_o {h : Hp} {a i b : Nat} {v : Option Nat} (hb : b ≠ a) : zR (zsR h a i v) b = zR h b := by
  funext j
  show u2 (zR h) a i v b j = _
  simp [u2, hb]
theorem zsI_s {h : Hp} {a i : Nat} {v : Int32} : zI (zsI h a i v) a = upd (zI h a) i v := by
  funext j
  show u2 (zI h) a i v a j = _
  simp [u2, upd]
theorem zsJ_s {h : Hp} {a i : Nat} {v : Int64} : zJ (zsJ h a i v) a = vp_updL (zJ h a) i v := by
  funext j
  show u2 (zJ h) a i v a j = _
  simp [u2, vp_updL]
theorem zsR_s {h : Hp} {a i : Nat} {v : Option Nat} : zR (zsR h a i v) a = va_up (zR h a) i v := by
  funext j
  show u2 (zR h) a i v a j = _
  simp [u2, va_up]
/-- one field's new contents, in the list of all -/
theorem gFs_set {ad : Nat → Nat} {h h' : Hp} {k a j : Nat} {v : Value} (hj : j < gN k) (he : gv h' a j (gTc k j) = v) (ho : ∀ i, i ≠ j → i < gN k → gv h' a i (gTc k i) = gv h a i (gTc k i)) : (gFs ad h k a).set j (rV ad v) = gFs ad h' k a := by
  apply List.ext_getElem?
  intro i
  unfold gFs
  rw [List.getElem?_set]
  by_cases hi : j = i
  · subst hi
    simp [hj, he]
  · rw [if_neg hi]
    simp only [List.getElem?_map]
    by_cases hl : i < gN k
    · simp [hl, ho i (fun q => hi q.symm) hl]
    · simp [hl]
theorem gFs_get {ad : Nat → Nat} {h : Hp} {k a j : Nat} (hj : j < gN k) : (gFs ad h k a)[j]? = some (rV ad (gv h a j (gTc k j))) := by
  simp [gFs, hj]
theorem gFs_len {ad : Nat → Nat} {h : Hp} {k a : Nat} : (gFs ad h k a).length = gN k := by
  simp [gFs]
/-! locals -/
def lzL (ad : Nat → Nat) (ls : List (Option Value)) : List (Nat × Value) := (List.range ls.length).filterMap (fun i => match ls[i]? with
  | some (some v) => some (i, rV ad v)
  | _ => none)
theorem lzL_mem {ad : Nat → Nat} {ls : List (Option Value)} {q : Nat × Value} : q ∈ lzL ad ls ↔ ∃ v, ls[q.1]? = some (some v) ∧ q.2 = rV ad v := by
  unfold lzL
  rw [List.mem_filterMap]
  constructor
  · rintro ⟨i, hi, h⟩
    split at h
    · rename_i v hv
      cases h
      exact ⟨v, hv, rfl⟩
    · cases h
  · rintro ⟨v, hv, h2⟩
    refine ⟨q.1, List.mem_range.mpr (List.getElem?_eq_some_iff.mp hv).1, ?_⟩
    rw [hv]
    show some (q.1, rV ad v) = some q
    rw [← h2]
theorem lr_at {ad : Nat → Nat} {ls : List (Option Value)} {lsr : Array Slot} {n i : Nat} {v : Value} (h : lv_has lsr n (lzL ad ls)) (hv : ls[i]? = some (some v)) : lsr[i]? = some (.val (rV ad v)) := h.2.2 (i, rV ad v) (lzL_mem.mpr ⟨v, hv, rfl⟩)
theorem ps0_s (ls : List (Option Value)) (n : Nat) : ps0 ls (n + 1) = (match ls[n]? with
    | some (some v) => if v.category = 2 then ls.set n none else ls
    | _ => ls) := rfl
theorem ps0_len (ls : List (Option Value)) (n : Nat) : (ps0 ls n).length = ls.length := by
  cases n with
  | zero => rfl
  | succ n =>
    rw [ps0_s]
    split
    · split <;> simp
    · rfl
theorem ps0_get {ls : List (Option Value)} {n j : Nat} {v : Value} (h : (ps0 ls n)[j]? = some (some v)) : ls[j]? = some (some v) ∧ (j + 1 = n → ¬ v.category = 2) := by
  cases n with
  | zero => exact ⟨h, fun q => by omega⟩
  | succ n =>
    rw [ps0_s] at h
    split at h
    · rename_i x hx
      split at h
      · rw [List.getElem?_set] at h
        by_cases hj : n = j
        · subst hj
          simp at h
        · rw [if_neg hj] at h
          exact ⟨h, fun q => by omega⟩
      · rename_i hc
        refine ⟨h, fun q => ?_⟩
        have : j = n := by omega
        subst this
        rw [hx] at h
        cases h
        exact hc
    · rename_i hx
      refine ⟨h, fun q => ?_⟩
      have : j = n := by omega
      subst this
      exact absurd h (hx v)
theorem ps1_len (ls : List (Option Value)) (n : Nat) (v : Value) : (ps1 ls n v).length = ls.length := by
  unfold ps1
  rw [List.length_set, ps0_len]
theorem ps2_len (ls : List (Option Value)) (n : Nat) (v : Value) : (ps2 ls n v).length = ls.length := by
  unfold ps2
  rw [List.length_set, List.length_set, ps0_len]
theorem ps1_sub {ad : Nat → Nat} {ls : List (Option Value)} {n : Nat} {v w : Value} (hw : w = rV ad v) : ∀ q ∈ lzL ad (ps1 ls n v), q ∈ (n, w) :: (lzL ad ls).filter (fun q => !(q.1 == n) && !(q.1 + 1 == n && q.2.category == 2)) := by
  intro q hq
  obtain ⟨j, u⟩ := q
  obtain ⟨x, hx, hu⟩ := lzL_mem.mp hq
  dsimp only at hx hu
  subst hu
  subst hw
  unfold ps1 at hx
  rw [List.getElem?_set] at hx
  by_cases hj : n = j
  · subst hj
    rw [if_pos rfl] at hx
    split at hx
    · cases hx
      exact List.mem_cons_self
    · cases hx
  · rw [if_neg hj] at hx
    obtain ⟨h1, h2⟩ := ps0_get hx
    refine List.mem_cons_of_mem _ (List.mem_filter.mpr ⟨lzL_mem.mpr ⟨x, h1, rfl⟩, ?_⟩)
    have e1 : (j == n) = false := by simp; omega
    dsimp only
    rw [e1]
    by_cases hc : j + 1 = n
    · have := h2 hc
      simp [rV_cat, this]
    · simp [hc]
theorem ps2_sub {ad : Nat → Nat} {ls : List (Option Value)} {n : Nat} {v w : Value} (hw : w = rV ad v) : ∀ q ∈ lzL ad (ps2 ls n v), q ∈ (n, w) :: (lzL ad ls).filter (fun q => !(q.1 == n) && (!(q.1 == n + 1) && !(q.1 + 1 == n && q.2.category == 2))) := by
  intro q hq
  obtain ⟨j, u⟩ := q
  obtain ⟨x, hx, hu⟩ := lzL_mem.mp hq
  dsimp only at hx hu
  subst hu
  subst hw
  unfold ps2 at hx
  rw [List.getElem?_set] at hx
  by_cases hj2 : n + 1 = j
  · subst hj2
    rw [if_pos rfl] at hx
    split at hx <;> cases hx
  rw [if_neg hj2, List.getElem?_set] at hx
  by_cases hj : n = j
  · subst hj
    rw [if_pos rfl] at hx
    split at hx
    · cases hx
      exact List.mem_cons_self
    · cases hx
  · rw [if_neg hj] at hx
    obtain ⟨h1, h2⟩ := ps0_get hx
    refine List.mem_cons_of_mem _ (List.mem_filter.mpr ⟨lzL_mem.mpr ⟨x, h1, rfl⟩, ?_⟩)
    have e1 : (j == n) = false := by simp; omega
    have e2 : (j == n + 1) = false := by simp; omega
    dsimp only
    rw [e1, e2]
    by_cases hc : j + 1 = n
    · have := h2 hc
      simp [rV_cat, this]
    · simp [hc]
theorem lv_sb {ls : Array Slot} {n n' : Nat} {l l' : List (Nat × Value)} (h : lv_has ls n l) (hn : n = n') (hs : ∀ q ∈ l', q ∈ l) : lv_has ls n' l' := ⟨hn ▸ h.1, h.2.1, fun q hq => h.2.2 q (hs q hq)⟩
theorem ps1_has {ad : Nat → Nat} {ls : List (Option Value)} {n : Nat} {v w : Value} {lsr : Array Slot} (hw : w = rV ad v) (h : lv_has lsr ls.length ((n, w) :: (lzL ad ls).filter (fun q => !(q.1 == n) && !(q.1 + 1 == n && q.2.category == 2)))) : lv_has lsr (ps1 ls n v).length (lzL ad (ps1 ls n v)) := lv_sb h (ps1_len ls n v).symm (ps1_sub hw)
theorem ps2_has {ad : Nat → Nat} {ls : List (Option Value)} {n : Nat} {v w : Value} {lsr : Array Slot} (hw : w = rV ad v) (h : lv_has lsr ls.length ((n, w) :: (lzL ad ls).filter (fun q => !(q.1 == n) && (!(q.1 == n + 1) && !(q.1 + 1 == n && q.2.category == 2))))) : lv_has lsr (ps2 ls n v).length (lzL ad (ps2 ls n v)) := lv_sb h (ps2_len ls n v).symm (ps2_sub hw)
theorem fm_congr {α β : Type} {f g : α → Option β} (l : List α) (h : ∀ i ∈ l, f i = g i) : l.filterMap f = l.filterMap g := by
  induction l with
  | nil => rfl
  | cons a l ih =>
    rw [List.filterMap_cons, List.filterMap_cons, h a List.mem_cons_self, ih fun i hi => h i (List.mem_cons_of_mem _ hi)]
theorem lzL_ad {ad ad' : Nat → Nat} {ls : List (Option Value)} {N : Nat} (hA : ∀ a, a < N ∨ a = zSC → ad' a = ad a) (h : ls.all (oOK N) = true) : lzL ad' ls = lzL ad ls := by
  unfold lzL
  refine fm_congr _ fun i _ => ?_
  cases hv : ls[i]? with
  | none => rfl
  | some o =>
    cases o with
    | none => rfl
    | some v =>
      have : vOK N v = true := List.all_eq_true.mp h _ (List.mem_of_getElem? hv)
      show some (i, rV ad' v) = some (i, rV ad v)
      rw [rV_eq hA this]
theorem st_ad {ad ad' : Nat → Nat} {st : List Value} {N : Nat} (hA : ∀ a, a < N ∨ a = zSC → ad' a = ad a) (h : st.all (vOK N) = true) : st.map (rV ad') = st.map (rV ad) := List.map_congr_left fun v hv => rV_eq hA (List.all_eq_true.mp h v hv)
