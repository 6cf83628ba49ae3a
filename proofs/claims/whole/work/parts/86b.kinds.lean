/-! FAULTS' kinds are 1 to 5 -/
def flk (q : PRes) : Prop := q.1 = false → 1 ≤ q.2.1 ∧ q.2.1 ≤ 5
theorem fl_k {k p : Int} {s : R4} {q : PRes} (h : flR k p s = some q) (hk : 1 ≤ k ∧ k ≤ 5) : flk q := by
  have : (false, k, p, s, none) = q := by simpa [flR] using h
  rw [← this]
  exact fun _ => hk
theorem ok_k {s : R4} {v : Option RowVal} {q : PRes} (h : okR s v = some q) : flk q := by
  have : (true, 0, 0, s, v) = q := by simpa [okR] using h
  rw [← this]
  exact fun z => by cases z
theorem nuS_k {n p : Int} {s : R4} {q : PRes} (h : nuS n p s = some q) : flk q := by
  unfold nuS at h
  split at h
  · exact fl_k h (by omega)
  · exact ok_k h
theorem bnd_k {x : Option PRes} {k : R4 → Option RowVal → Option PRes} {r : PRes} (h : bnd x k = some r) (h1 : ∀ q, x = some q → flk q) (h2 : ∀ s v r, k s v = some r → flk r) : flk r := by
  obtain ⟨q, e, h⟩ := bnd_some h
  rcases h with ⟨-, h⟩ | ⟨-, h⟩
  · exact h2 _ _ _ h
  · rw [h]
    exact h1 q e
theorem unS_k {B : Nat → Int} {len : Int} {Wd : Nat → Int} {nm : Nat} {V : Nat → RowVal} {sf : Nat → R4 → Option PRes} (hsf : ∀ o s q, sf o s = some q → flk q) {o : Nat} {s : R4} {q : PRes} (h : unS B len Wd nm V sf o s = some q) : flk q := by
  unfold unS at h
  split at h
  · exact nuS_k h
  · split at h
    · split at h
      · exact fl_k h (by omega)
      · refine bnd_k h (hsf _ _) fun s2 v r hr => ?_
        split at hr
        · exact ok_k hr
        · exact fl_k hr (by omega)
    · split at h
      · exact fl_k h (by omega)
      · split at h
        · split at h
          · exact fl_k h (by omega)
          · split at h
            · exact fl_k h (by omega)
            · refine bnd_k h (hsf _ _) fun s3 v1 r hr => ?_
              split at hr
              · exact fl_k hr (by omega)
              · refine bnd_k hr (hsf _ _) fun s4 v2 r hr => ?_
                split at hr
                · exact fl_k hr (by omega)
                · exact ok_k hr
        · split at h
          · exact fl_k h (by omega)
          · split at h
            · exact fl_k h (by omega)
            · exact ok_k h
theorem tmS_k {B : Nat → Int} {len : Int} {Wd : Nat → Int} {nm : Nat} {V : Nat → RowVal} {sf : Nat → R4 → Option PRes} (hsf : ∀ o s q, sf o s = some q → flk q) {o : Nat} {s : R4} {q : PRes} (h : tmS B len Wd nm V sf o s = some q) : flk q := by
  unfold tmS at h
  split at h
  · exact unS_k hsf h
  · split at h
    · exact nuS_k h
    · split at h
      · exact fl_k h (by omega)
      · exact bnd_k h (fun q hq => unS_k hsf hq) fun s3 v r hr => ok_k hr
theorem smS_k {B : Nat → Int} {len : Int} {Wd : Nat → Int} {nm : Nat} {V : Nat → RowVal} : ∀ (f : Nat) (m : Option (Option RowVal)) (o : Nat) (s : R4) (q : PRes), smS B len Wd nm V f m o s = some q → flk q
  | 0, _, _, _, _, h => by cases h
  | f + 1, none, o, s, q, h => bnd_k h (fun q hq => tmS_k (fun o s q h => smS_k f none o s q h) hq) fun s2 v r hr => smS_k f _ o s2 r hr
  | f + 1, some v, o, s, q, h => by
    unfold smS at h
    split at h
    · exact bnd_k h (fun q hq => tmS_k (fun o s q h => smS_k f none o s q h) hq) fun s2 w r hr => smS_k f _ o s2 r hr
    · exact ok_k h
theorem hdS_k {B : Nat → Int} {len : Int} {Wd : Nat → Int} {nm : Nat} {s : R4} (h : (hdS B len Wd nm s).1 = false) : 1 ≤ (hdS B len Wd nm s).2.1 ∧ (hdS B len Wd nm s).2.1 ≤ 5 := by
  generalize hr : hdS B len Wd nm s = r at *
  unfold hdS at hr
  repeat' split at hr
  all_goals (subst hr; first | (cases h; done) | (dsimp only; omega))
theorem fcS_k {B : Nat → Int} {len : Int} : ∀ (k n : Nat) (v : RowVal) (s : R4), (fcS B len k n v s).1 = false → 1 ≤ (fcS B len k n v s).2.1 ∧ (fcS B len k n v s).2.1 ≤ 5
  | 0, _, _, _, h => by cases h
  | k + 1, n, v, s, h => by
    generalize hr : fcS B len (k + 1) n v s = r at *
    unfold fcS at hr
    split at hr
    · subst hr; cases h
    · split at hr
      · subst hr; exact ⟨by show (1 : Int) ≤ 2; omega, by show (2 : Int) ≤ 5; omega⟩
      · split at hr
        · subst hr; exact ⟨by show (1 : Int) ≤ 4; omega, by show (4 : Int) ≤ 5; omega⟩
        · subst hr
          exact fcS_k k _ _ _ h
theorem diS_k {B : Nat → Int} {len : Int} {v0 : RowVal} {s : R4} (h : (diS B len v0 s).1 = false) : 1 ≤ (diS B len v0 s).2.1 ∧ (diS B len v0 s).2.1 ≤ 5 := by
  generalize hr : diS B len v0 s = r at *
  unfold diS at hr
  dsimp only at hr
  split at hr
  · rename_i c
    subst hr
    exact fcS_k _ _ _ _ c
  · split at hr
    · subst hr; exact ⟨by show (1 : Int) ≤ 1; omega, by show (1 : Int) ≤ 5; omega⟩
    · subst hr; cases h
theorem leS_k {B : Nat → Int} {len : Int} {Wd : Nat → Int} {nm : Nat} {V : Nat → RowVal} {s : R4} {r : LRes} (hr : leS B len Wd nm V s = some r) (h : r.1 = false) : 1 ≤ r.2.1 ∧ r.2.1 ≤ 5 := by
  unfold leS at hr
  split at hr
  · have hr := Option.some.inj hr
    subst hr; exact ⟨by show (1 : Int) ≤ 1; omega, by show (1 : Int) ≤ 5; omega⟩
  · cases e : smS B len Wd nm V 500 none 0 (nx B len s) with
    | none => rw [e] at hr; cases hr
    | some q =>
      rw [e] at hr
      dsimp only at hr
      split at hr
      · rename_i c
        have hr := Option.some.inj hr
        subst hr
        exact smS_k _ _ _ _ _ e c
      · split at hr
        · have hr := Option.some.inj hr
          subst hr; exact ⟨by show (1 : Int) ≤ 1; omega, by show (1 : Int) ≤ 5; omega⟩
        · cases e4 : q.2.2.2.2 with
          | none =>
            rw [e4] at hr
            have hr := Option.some.inj hr
            subst hr; exact ⟨by show (1 : Int) ≤ 5; omega, by show (5 : Int) ≤ 5; omega⟩
          | some u =>
            rw [e4] at hr
            have hr := Option.some.inj hr
            subst hr; cases h
