def mOK (k : Nat) : Prop := (gY k).cls = gC (gOwn k) ∧ ((gY k).cls ≠ "java/lang/invoke/MethodHandle" ∧ (gY k).cls ≠ "java/lang/invoke/VarHandle") ∧ (parseMethodDescriptor (gY k).desc).map (fun d => d.parameters.length) = some (gNP k) ∧ gML k ≤ 40 ∧ plainName (gY k).cls = true ∧ (gRc k = 0 → gRt k = none) ∧ (gRc k = 1 → gRt k = some .int) ∧ (gRc k = 2 → gRt k = some .boolean) ∧ (gRc k = 3 → gRt k = some .long) ∧ (gRc k = 4 → ∃ t, gRt k = some t ∧ ((∃ n, t = .object n) ∨ ∃ u, t = .array u)) ∧ (gSt k = 2 → (gY k).name = "<init>" ∧ gRt k = none)
def mOKb (k : Nat) : Bool := decide ((gY k).cls = gC (gOwn k)) && decide ((gY k).cls ≠ "java/lang/invoke/MethodHandle" ∧ (gY k).cls ≠ "java/lang/invoke/VarHandle") && decide ((parseMethodDescriptor (gY k).desc).map (fun d => d.parameters.length) = some (gNP k)) && decide (gML k ≤ 40) && plainName (gY k).cls && (match gRc k with
  | 0 => decide (gRt k = none)
  | 1 => decide (gRt k = some .int)
  | 2 => decide (gRt k = some .boolean)
  | 3 => decide (gRt k = some .long)
  | _ => (match gRt k with
    | some (.object _) => true
    | some (.array _) => true
    | _ => false)) && (gSt k != 2 || (decide ((gY k).name = "<init>") && decide (gRt k = none)))
theorem mOK_of {k : Nat} (h : mOKb k = true) : mOK k := by
  simp only [mOKb, Bool.and_eq_true, decide_eq_true_eq] at h
  obtain ⟨⟨⟨⟨⟨⟨h1, h2⟩, h3⟩, h4⟩, h5⟩, h6⟩, h7⟩ := h
  refine ⟨h1, h2, h3, h4, h5, fun q => ?_, fun q => ?_, fun q => ?_, fun q => ?_, fun q => ?_, fun q => ?_⟩
  · rw [q] at h6
    exact of_decide_eq_true h6
  · rw [q] at h6
    exact of_decide_eq_true h6
  · rw [q] at h6
    exact of_decide_eq_true h6
  · rw [q] at h6
    exact of_decide_eq_true h6
  · rw [q] at h6
    have h8 : (match gRt k with
      | some (.object _) => true
      | some (.array _) => true
      | _ => false) = true := h6
    split at h8
    · rename_i n hn
      exact ⟨_, hn, Or.inl ⟨_, rfl⟩⟩
    · rename_i n hn
      exact ⟨_, hn, Or.inr ⟨_, rfl⟩⟩
    · cases h8
  · rw [q] at h7
    simpa using h7
set_option maxRecDepth 1000000 in
theorem mOK_l : ∀ k ∈ gPl, mOKb k = true := by decide +kernel
/-- a final field is put in its own constructors alone -/
def kFin (k : Nat) : Bool := (gRes k).all (fun q => match q with
  | .putfield c => !((gTX (c / 1000) (c / 10 % 100)).2.2.2) || (gSt k == 2 && gOwn k == c / 1000)
  | _ => true)
set_option maxRecDepth 1000000 in
theorem kFin_l : ∀ k ∈ List.range 284, kFin k = true := by decide +kernel
/-- which calls are of which style -/
def kSty (k : Nat) : Bool := (gRes k).all (fun q => match q with
  | .invokevirtual y => gSt y == 0
  | .invokestatic y => gSt y == 1
  | .invokespecial y => gSt y == 2
  | _ => true)
set_option maxRecDepth 1000000 in
theorem kSty_l : ∀ k ∈ List.range 284, kSty k = true := by decide +kernel
/-- how long an instruction is (0: as it is told) -/
def ilen : Instr → Nat
  | .bipush _ | .iload _ | .lload _ | .aload _ | .istore _ | .lstore _ | .astore _ | .ldc _ | .newarray _ => 2
  | .sipush _ | .ldc_w _ | .ldc2_w _ | .goto _ | .if_icmp _ _ | .ifCond _ _ | .iinc _ _ | .getfield _ | .putfield _ | .invokevirtual _ | .invokespecial _ | .invokestatic _ | .new _ | .anewarray _ => 3
  | .tableswitch _ _ _ _ => 0
  | _ => 1
def kLn (k : Nat) : Bool := (gTab k).all (fun q => ilen q.2.1 == q.2.2 || ilen q.2.1 == 0)
set_option maxRecDepth 1000000 in
theorem kLn_l : ∀ k ∈ List.range 284, kLn k = true := by decide +kernel
theorem len_of {b N : Nat} (h : N = b ∨ N = 0) (hN : N ≠ 0) : b = N := by
  rcases h with h | h
  · exact h.symm
  · exact absurd h hN
def k81 (k : Nat) : Bool := (gTab k).all (fun q => match q.2.1 with
  | .invokestatic x => decide (lk gLk (gOwn k) x ≠ some 281)
  | _ => true)
set_option maxRecDepth 1000000 in
theorem k81_l : ∀ k ∈ List.range 284, k81 k = true := by decide +kernel
def kSw (k : Nat) : Bool := (gTab k).all (fun q => match q.2.1 with
  | .tableswitch d lo hi offs => (ix (gTab k) q.1 d).isSome && decide (hi - lo + 1 = offs.size) && offs.all (fun o => (ix (gTab k) q.1 o).isSome)
  | _ => true)
set_option maxRecDepth 1000000 in
theorem kSw_l : ∀ k ∈ List.range 284, kSw k = true := by decide +kernel
