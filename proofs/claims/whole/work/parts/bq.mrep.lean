/-! the Model: what is kept is the first hundred in descending order -/
theorem oI_len {Z : Pr2} {S : List Pr2} : (oI Z S).length = S.length + 1 := by
  have := poZ_le Z S
  unfold oI
  rw [List.length_append, List.length_cons, List.length_take, List.length_drop]
  omega
theorem oI_at {Z : Pr2} {S : List Pr2} {i : Nat} : (oI Z S)[i]? = if i < poZ Z S then S[i]? else if i = poZ Z S then some Z else S[i - 1]? := by
  have le := poZ_le Z S
  have lt : (S.take (poZ Z S)).length = poZ Z S := by rw [List.length_take]; omega
  unfold oI
  by_cases c : i < poZ Z S
  · rw [if_pos c, List.getElem?_append_left (by omega), List.getElem?_take_of_lt c]
  · rw [if_neg c, List.getElem?_append_right (by omega), lt]
    by_cases c2 : i = poZ Z S
    · rw [if_pos c2, c2, Nat.sub_self]
      rfl
    · rw [if_neg c2]
      obtain ⟨j, hj⟩ : ∃ j, i - poZ Z S = j + 1 := ⟨i - poZ Z S - 1, by omega⟩
      rw [hj, List.getElem?_cons_succ, List.getElem?_drop, show poZ Z S + j = i - 1 by omega]
theorem srt_go : ∀ (M S : List Pr2), dsc S → (∀ W, W ∈ S ++ M → z60 W) → (S ++ M).Pairwise (fun Z W => Z.1 ≠ W.1) → dsc (M.foldl (fun S Z => oI Z S) S) ∧ (∀ Z, Z ∈ M.foldl (fun S Z => oI Z S) S ↔ Z ∈ S ∨ Z ∈ M) ∧ (M.foldl (fun S Z => oI Z S) S).length = S.length + M.length
  | [], S, hs, _, _ => ⟨hs, fun Z => ⟨fun h => Or.inl h, fun h => h.elim id fun z => absurd z List.not_mem_nil⟩, rfl⟩
  | Z :: M, S, hs, h60, ne => by
    obtain ⟨n1, n2, n3⟩ := List.pairwise_append.mp ne
    obtain ⟨n4, n5⟩ := List.pairwise_cons.mp n2
    have hz := h60 Z (List.mem_append.mpr (Or.inr List.mem_cons_self))
    have d := oI_dsc hz hs (fun W hW => h60 W (List.mem_append.mpr (Or.inl hW))) fun W hW => n3 W hW Z List.mem_cons_self
    have ih := srt_go M (oI Z S) d (fun W hW => by
      cases List.mem_append.mp hW with
      | inl hW =>
        cases oI_mem.mp hW with
        | inl e => rw [e]; exact hz
        | inr hW => exact h60 W (List.mem_append.mpr (Or.inl hW))
      | inr hW => exact h60 W (List.mem_append.mpr (Or.inr (List.mem_cons_of_mem _ hW)))) (by
      refine List.pairwise_append.mpr ⟨d.imp fun {a b} h e => by rw [e] at h; exact gt_ir h, n5, fun a ha b hb => ?_⟩
      cases oI_mem.mp ha with
      | inl e => rw [e]; exact n4 b hb
      | inr ha => exact n3 a ha b (List.mem_cons_of_mem _ hb))
    refine ⟨ih.1, fun W => ?_, by rw [List.foldl_cons, ih.2.2, oI_len, List.length_cons]; omega⟩
    rw [List.foldl_cons, ih.2.1 W, oI_mem, List.mem_cons]
    constructor
    · intro h
      cases h with
      | inl h =>
        cases h with
        | inl h => exact Or.inr (Or.inl h)
        | inr h => exact Or.inl h
      | inr h => exact Or.inr (Or.inr h)
    · intro h
      cases h with
      | inl h => exact Or.inl (Or.inr h)
      | inr h =>
        cases h with
        | inl h => exact Or.inl (Or.inl h)
        | inr h => exact Or.inr h
abbrev mdR (K : KsT) (S : List Pr2) : Prop := K.1 = S.length ∧ K.2.1 = min 100 S.length ∧ ∀ i W, i < K.2.1 → S[i]? = some W → K.2.2.1 i = W.1 ∧ K.2.2.2 i = W.2
theorem psF_po {Z : Pr2} {S : List Pr2} {KX : Nat → Nat → Nat} (hz : z60 Z) (hs : dsc S) : ∀ k, k ≤ S.length → (∀ i W, i < k → S[i]? = some W → KX i = W.1) → psF Z.1 KX k = min (poZ Z S) k
  | 0, _, _ => by rw [Nat.min_zero]; rfl
  | k + 1, hk, h => by
    have ih := psF_po (KX := KX) hz hs k (by omega) fun i W hi => h i W (by omega)
    have g : S[k]? = some S[k] := List.getElem?_eq_getElem (by omega)
    have e := h k _ (by omega) g
    have p := poZ_iff hz S hs k _ g
    unfold psF
    rw [e]
    by_cases c : adP Z.1 (S[k]).1
    · rw [if_pos c, ih]
      have := p.mp c
      omega
    · rw [if_neg c]
      have : ¬ poZ Z S ≤ k := fun z => c (p.mpr z)
      omega
theorem fdK_rep {p q : Nat} {K : KsT} {S : List Pr2} {Z : Pr2} (hz : z60 Z) (hs : dsc S) (r : mdR K S) (t : tnP p q Z.1 Z.2) : mdR (fdK p q K Z) (oI Z S) := by
  obtain ⟨r1, r2, r3⟩ := r
  have le := poZ_le Z S
  have ps := psF_po (KX := K.2.2.1) hz hs K.2.1 (by omega) fun i W hi h => (r3 i W hi h).1
  have ol := oI_len (Z := Z) (S := S)
  unfold fdK
  rw [if_pos t, ps]
  by_cases c : min (poZ Z S) K.2.1 = 100
  · rw [if_pos c]
    refine ⟨by show K.1 + 1 = _; omega, by show K.2.1 = _; omega, fun i W hi h => ?_⟩
    change i < K.2.1 at hi
    rw [oI_at, if_pos (by omega)] at h
    exact r3 i W hi h
  · rw [if_neg c]
    have e : min (poZ Z S) K.2.1 = poZ Z S := by omega
    rw [e]
    refine ⟨by show K.1 + 1 = _; omega, by show min (K.2.1 + 1) 100 = _; omega, fun i W hi h => ?_⟩
    change i < min (K.2.1 + 1) 100 at hi
    show shK K.2.2.1 (poZ Z S) (min (K.2.1 + 1) 100) Z.1 i = W.1 ∧ shK K.2.2.2 (poZ Z S) (min (K.2.1 + 1) 100) Z.2 i = W.2
    unfold shK
    rw [oI_at] at h
    by_cases c1 : i < poZ Z S
    · rw [if_pos c1] at h
      rw [if_pos c1, if_pos c1]
      exact r3 i W (by omega) h
    · rw [if_neg c1] at h
      rw [if_neg c1, if_neg c1]
      by_cases c2 : i = poZ Z S
      · rw [if_pos c2] at h
        rw [if_pos c2, if_pos c2, Option.some.inj h]
        exact ⟨rfl, rfl⟩
      · rw [if_neg c2] at h
        rw [if_neg c2, if_neg c2, if_pos hi, if_pos hi]
        exact r3 (i - 1) W (by omega) h
theorem ks_go {p q : Nat} : ∀ (M : List Pr2) (K : KsT) (S : List Pr2), mdR K S → dsc S → (∀ W, W ∈ S ++ M → z60 W) → (S ++ M).Pairwise (fun Z W => Z.1 ≠ W.1) → mdR (M.foldl (fdK p q) K) ((M.filter fun Z => decide (tnP p q Z.1 Z.2)).foldl (fun S Z => oI Z S) S)
  | [], K, S, r, _, _, _ => r
  | Z :: M, K, S, r, hs, h60, ne => by
    obtain ⟨n1, n2, n3⟩ := List.pairwise_append.mp ne
    obtain ⟨n4, n5⟩ := List.pairwise_cons.mp n2
    have hz := h60 Z (List.mem_append.mpr (Or.inr List.mem_cons_self))
    rw [List.foldl_cons]
    by_cases c : tnP p q Z.1 Z.2
    · rw [List.filter_cons_of_pos (by exact decide_eq_true c), List.foldl_cons]
      have d := oI_dsc hz hs (fun W hW => h60 W (List.mem_append.mpr (Or.inl hW))) fun W hW => n3 W hW Z List.mem_cons_self
      refine ks_go M _ _ (fdK_rep hz hs r c) d (fun W hW => ?_) ?_
      · cases List.mem_append.mp hW with
        | inl hW =>
          cases oI_mem.mp hW with
          | inl e => rw [e]; exact hz
          | inr hW => exact h60 W (List.mem_append.mpr (Or.inl hW))
        | inr hW => exact h60 W (List.mem_append.mpr (Or.inr (List.mem_cons_of_mem _ hW)))
      · refine List.pairwise_append.mpr ⟨d.imp fun {a b} h e => by rw [e] at h; exact gt_ir h, n5, fun a ha b hb => ?_⟩
        cases oI_mem.mp ha with
        | inl e => rw [e]; exact n4 b hb
        | inr ha => exact n3 a ha b (List.mem_cons_of_mem _ hb)
    · rw [List.filter_cons_of_neg (by rw [decide_eq_false c]; exact Bool.false_ne_true)]
      have ek : fdK p q K Z = K := if_neg c
      rw [ek]
      refine ks_go M K S r hs (fun W hW => ?_) ?_
      · cases List.mem_append.mp hW with
        | inl hW => exact h60 W (List.mem_append.mpr (Or.inl hW))
        | inr hW => exact h60 W (List.mem_append.mpr (Or.inr (List.mem_cons_of_mem _ hW)))
      · exact List.pairwise_append.mpr ⟨n1, n5, fun a ha b hb => n3 a ha b (List.mem_cons_of_mem _ hb)⟩
theorem ksL_rep {p q : Nat} {M : List Pr2} (h60 : ∀ W, W ∈ M → z60 W) (ne : M.Pairwise fun Z W => Z.1 ≠ W.1) : mdR (ksL p q M) (srt (M.filter fun Z => decide (tnP p q Z.1 Z.2))) := ks_go M _ [] ⟨rfl, rfl, fun i W hi _ => absurd hi (Nat.not_lt_zero i)⟩ List.Pairwise.nil h60 ne
theorem srt_ok {M : List Pr2} (h60 : ∀ W, W ∈ M → z60 W) (ne : M.Pairwise fun Z W => Z.1 ≠ W.1) : dsc (srt M) ∧ (∀ Z, Z ∈ srt M ↔ Z ∈ M) ∧ (srt M).length = M.length := by
  obtain ⟨a, b, c⟩ := srt_go M [] List.Pairwise.nil h60 ne
  refine ⟨a, fun Z => ?_, ?_⟩
  · rw [show srt M = M.foldl (fun S Z => oI Z S) [] from rfl, b Z]
    exact ⟨fun h => h.elim (fun z => absurd z List.not_mem_nil) id, Or.inr⟩
  · rw [show srt M = M.foldl (fun S Z => oI Z S) [] from rfl, c]
    exact Nat.zero_add _
