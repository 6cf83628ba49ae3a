/-! what the tables say, for all rows of a list at once -/
def gTX : Nat → u_T
  | 0 => TX0
  | 1 => TX1
  | 2 => TX2
  | 3 => TX3
  | 4 => TX4
  | 5 => TX5
  | 6 => TX6
  | 7 => TX7
  | 8 => TX8
  | 9 => TX9
  | 10 => TX10
  | 11 => TX11
  | _ => TX12
def gTyX : Nat → Nat → FieldType
  | 0 => tyX0
  | 1 => tyX1
  | 2 => tyX2
  | 3 => tyX3
  | 4 => tyX4
  | 5 => tyX5
  | 6 => tyX6
  | 7 => tyX7
  | 8 => tyX8
  | 9 => tyX9
  | 10 => tyX10
  | 11 => tyX11
  | _ => tyX12
def tcT : FieldType → Nat → Bool
  | .int, 0 => true
  | .long, 1 => true
  | .object _, 2 => true
  | .array _, 2 => true
  | .boolean, 3 => true
  | _, _ => false
theorem u_good {C : String} {T : u_T} {N : Nat} : ∀ w ∈ u_ws C T N, goodWord w = true := by
  intro w hw
  obtain ⟨j, -, rfl⟩ := List.mem_map.mp hw
  unfold u_lay
  split <;> rfl
theorem gAll_u {C : String} {T : u_T} {N : Nat} (h : ∀ w ∈ u_ws C T N, w ∈ tables_1) : ∀ w ∈ u_ws C T N, w ∈ gAll := fun w hw => gAll_t (h w hw) (u_good w hw)
def kindOK (k : Nat) : Prop := vwCl[k]? = some (gC k, gTX k, gN k) ∧ (∀ w ∈ u_ws (gC k) (gTX k) (gN k), w ∈ gAll) ∧ (∀ j, j < gN k → parseFieldDescriptor (gTX k j).2.2.1 = some (gTyX k j)) ∧ (∀ a, a < gN k → ∀ b, b < gN k → a ≠ b → (gTX k a).2.1 ≠ (gTX k b).2.1) ∧ (∀ j, j < gN k → tcT (gTyX k j) (gTc k j) = true ∧ (gTX k j).1 = gC k)
set_option maxRecDepth 100000 in
theorem kind_0 : kindOK 0 := ⟨rfl, gAll_u inT0, tyX0_ok, nmX0, by decide +kernel⟩
set_option maxRecDepth 100000 in
theorem kind_1 : kindOK 1 := ⟨rfl, gAll_u inT1, tyX1_ok, nmX1, by decide +kernel⟩
set_option maxRecDepth 100000 in
theorem kind_2 : kindOK 2 := ⟨rfl, gAll_u inT2, tyX2_ok, nmX2, by decide +kernel⟩
set_option maxRecDepth 100000 in
theorem kind_3 : kindOK 3 := ⟨rfl, gAll_u inT3, tyX3_ok, nmX3, by decide +kernel⟩
set_option maxRecDepth 100000 in
theorem kind_4 : kindOK 4 := ⟨rfl, gAll_u inT4, tyX4_ok, nmX4, by decide +kernel⟩
set_option maxRecDepth 100000 in
theorem kind_5 : kindOK 5 := ⟨rfl, gAll_u inT5, tyX5_ok, nmX5, by decide +kernel⟩
set_option maxRecDepth 100000 in
theorem kind_6 : kindOK 6 := ⟨rfl, gAll_u inT6, tyX6_ok, nmX6, by decide +kernel⟩
set_option maxRecDepth 100000 in
theorem kind_7 : kindOK 7 := ⟨rfl, gAll_u inT7, tyX7_ok, nmX7, by decide +kernel⟩
set_option maxRecDepth 100000 in
theorem kind_8 : kindOK 8 := ⟨rfl, gAll_u inT8, tyX8_ok, nmX8, by decide +kernel⟩
set_option maxRecDepth 100000 in
theorem kind_9 : kindOK 9 := ⟨rfl, gAll_u inT9, tyX9_ok, nmX9, by decide +kernel⟩
set_option maxRecDepth 100000 in
theorem kind_10 : kindOK 10 := ⟨rfl, gAll_u inT10, tyX10_ok, nmX10, by decide +kernel⟩
set_option maxRecDepth 100000 in
theorem kind_11 : kindOK 11 := ⟨rfl, gAll_u inT11, tyX11_ok, nmX11, by decide +kernel⟩
set_option maxRecDepth 100000 in
theorem kind_12 : kindOK 12 := ⟨rfl, gAll_u inT12, tyX12_ok, nmX12, by decide +kernel⟩
theorem kind_ok : ∀ k, k < 13 → kindOK k
  | 0, _ => kind_0
  | 1, _ => kind_1
  | 2, _ => kind_2
  | 3, _ => kind_3
  | 4, _ => kind_4
  | 5, _ => kind_5
  | 6, _ => kind_6
  | 7, _ => kind_7
  | 8, _ => kind_8
  | 9, _ => kind_9
  | 10, _ => kind_10
  | 11, _ => kind_11
  | 12, _ => kind_12
  | n + 13, h => absurd h (by omega)
theorem zip_mem {α β : Type} : ∀ {a : List α} {b : List β}, a.length = b.length → ∀ {x : α}, x ∈ a → ∃ y, (x, y) ∈ a.zip b
  | [], _, _, _, h => absurd h List.not_mem_nil
  | x :: a, [], hl, _, _ => by simp at hl
  | x :: a, y :: b, hl, z, h => by
    rcases List.mem_cons.mp h with rfl | h
    · exact ⟨y, List.mem_cons_self⟩
    · obtain ⟨w, hw⟩ := zip_mem (a := a) (b := b) (by simpa using hl) h
      exact ⟨w, List.mem_cons_of_mem _ hw⟩
theorem pos_ok {α : Type} {l : List α} {ps : List Nat} {f : α → Cond} (hl : l.length = ps.length) (h : ∀ q ∈ l.zip ps, tables_1[q.2]? = some (f q.1) ∧ goodWord (f q.1) = true) : ∀ x ∈ l, f x ∈ gAll := fun x hx => by
  obtain ⟨y, hy⟩ := zip_mem hl hx
  exact gAll_t (List.mem_of_getElem? (h _ hy).1) (h _ hy).2
def wF (e : Nat × Nat × Nat) : Cond := .fieldLink (gC e.1) e.2.1 (gC (e.2.2 / 1000)) (gTX (e.2.2 / 1000) (e.2.2 / 10 % 100)).2.1 (gTX (e.2.2 / 1000) (e.2.2 / 10 % 100)).2.2.1
set_option maxRecDepth 1000000 in
theorem gF_w : ∀ e ∈ gF, wF e ∈ gAll := pos_ok (ps := gFp) rfl (by decide +kernel)
set_option maxRecDepth 1000000 in
theorem gF_n : ∀ e ∈ gF, e.2.2 / 1000 < 13 ∧ e.2.2 / 10 % 100 < gN (e.2.2 / 1000) ∧ gTc (e.2.2 / 1000) (e.2.2 / 10 % 100) = e.2.2 % 10 := by decide +kernel
def wL (e : Nat × Nat × Nat) : Cond := .methodLink (gC e.1) e.2.1 (gY e.2.2)
set_option maxRecDepth 1000000 in
theorem gLk_w : ∀ e ∈ gLk, wL e ∈ gAll := pos_ok (ps := gLkp) rfl (by decide +kernel)
set_option maxRecDepth 1000000 in
theorem gLk_n : ∀ e ∈ gLk, e.2.2 < 284 := by decide +kernel
def wNk (e : Nat × Nat × Nat) : Cond := .methodLinkNest (gC e.1) e.2.1 (gY e.2.2) "DiceRing"
set_option maxRecDepth 1000000 in
theorem gNk_w : ∀ e ∈ gNk, wNk e ∈ tables_1 := fun e he => by
  have h : ∀ q ∈ gNk.zip gNkp, tables_1[q.2]? = some (wNk q.1) := by decide +kernel
  obtain ⟨y, hy⟩ := zip_mem (a := gNk) (b := gNkp) rfl he
  exact List.mem_of_getElem? (h _ hy)
set_option maxRecDepth 1000000 in
theorem gNk_n : ∀ e ∈ gNk, e.2.2 < 271 ∧ gSt e.2.2 = 2 := by decide +kernel
def wCl (e : Nat × Nat × Nat) : Cond := .classLink (gC e.1) e.2.1 (gC e.2.2)
set_option maxRecDepth 1000000 in
theorem gCl_w : ∀ e ∈ gCl, wCl e ∈ gAll := pos_ok (ps := gClp) rfl (by decide +kernel)
set_option maxRecDepth 1000000 in
theorem gCl_n : ∀ e ∈ gCl, e.2.2 < 13 := by decide +kernel
def wKI (e : Nat × Nat × Int) : Cond := .constant (gC e.1) e.2.1 (Int32.ofInt e.2.2)
set_option maxRecDepth 1000000 in
theorem gKI_w : ∀ e ∈ gKI, wKI e ∈ gAll := pos_ok (ps := gKIp) rfl (by decide +kernel)
def wKL (e : Nat × Nat × Int) : Cond := .constantLong (gC e.1) e.2.1 (Int64.ofInt e.2.2)
set_option maxRecDepth 1000000 in
theorem gKL_w : ∀ e ∈ gKL, wKL e ∈ gAll := pos_ok (ps := gKLp) rfl (by decide +kernel)
def wIn (k : Nat) : Cond := .instantiable (gC k) (gN k)
def wIi (k : Nat) : Cond := .initialized (gC k)
set_option maxRecDepth 1000000 in
theorem gIn_w : ∀ k ∈ List.range 13, wIn k ∈ gAll := pos_ok (ps := [118, 230, 208, 186, 236, 90, 39, 32, 84, 302, 327, 24, 1206]) rfl (by decide +kernel)
set_option maxRecDepth 1000000 in
theorem gIi_w : ∀ k ∈ List.range 13, wIi k ∈ gAll := pos_ok (ps := [6, 10, 9, 8, 11, 5, 3, 2, 4, 12, 13, 1, 14]) rfl (by decide +kernel)
theorem aW : ∀ t : ArrayType, 13 ≤ atk t → Cond.arrayClass (newarray.typeOf t) ∈ gAll := by
  intro t ht
  cases t
  case byte => exact gAll_t (List.mem_of_getElem? (i := 1388) (by decide +kernel)) rfl
  case int => exact gAll_t (List.mem_of_getElem? (i := 65) (by decide +kernel)) rfl
  case long => exact gAll_t (List.mem_of_getElem? (i := 66) (by decide +kernel)) rfl
  case boolean => exact gAll_t (List.mem_of_getElem? (i := 1389) (by decide +kernel)) rfl
  all_goals exact absurd ht (by decide)
theorem aoW : Cond.arrayOver (.object "DiceRing$Row") ∈ tables_1 := List.mem_of_getElem? (i := 38) (by decide +kernel)
/-! methods that are called by a contract: 0 to 270, 275 to 277, 283 -/
def gPl : List Nat := List.range 271 ++ [275, 276, 277, 283]
def wCd (k : Nat) : Cond := .code (gY k) (gB k) (gML k) (gRt k)
set_option maxRecDepth 100000 in
theorem cd_0 : wCd 0 ∈ gAll := gAll_t (List.mem_of_getElem? (i := 121) rfl) rfl
set_option maxRecDepth 100000 in
theorem cd_1 : wCd 1 ∈ gAll := gAll_t (List.mem_of_getElem? (i := 537) rfl) rfl
set_option maxRecDepth 100000 in
theorem cd_2 : wCd 2 ∈ gAll := gAll_t (List.mem_of_getElem? (i := 569) rfl) rfl
set_option maxRecDepth 100000 in
theorem cd_3 : wCd 3 ∈ gAll := gAll_t (List.mem_of_getElem? (i := 565) rfl) rfl
set_option maxRecDepth 100000 in
theorem cd_4 : wCd 4 ∈ gAll := gAll_t (List.mem_of_getElem? (i := 561) rfl) rfl
set_option maxRecDepth 100000 in
theorem cd_5 : wCd 5 ∈ gAll := gAll_t (List.mem_of_getElem? (i := 557) rfl) rfl
set_option maxRecDepth 100000 in
theorem cd_6 : wCd 6 ∈ gAll := gAll_t (List.mem_of_getElem? (i := 615) rfl) rfl
set_option maxRecDepth 100000 in
theorem cd_7 : wCd 7 ∈ gAll := gAll_t (List.mem_of_getElem? (i := 636) rfl) rfl
set_option maxRecDepth 100000 in
theorem cd_8 : wCd 8 ∈ gAll := gAll_t (List.mem_of_getElem? (i := 603) rfl) rfl
set_option maxRecDepth 100000 in
theorem cd_9 : wCd 9 ∈ gAll := gAll_t (List.mem_of_getElem? (i := 640) rfl) rfl
set_option maxRecDepth 100000 in
theorem cd_10 : wCd 10 ∈ gAll := gAll_t (List.mem_of_getElem? (i := 607) rfl) rfl
set_option maxRecDepth 100000 in
theorem cd_11 : wCd 11 ∈ gAll := gAll_t (List.mem_of_getElem? (i := 623) rfl) rfl
set_option maxRecDepth 100000 in
theorem cd_12 : wCd 12 ∈ gAll := gAll_t (List.mem_of_getElem? (i := 581) rfl) rfl
set_option maxRecDepth 100000 in
theorem cd_13 : wCd 13 ∈ gAll := gAll_t (List.mem_of_getElem? (i := 233) rfl) rfl
set_option maxRecDepth 100000 in
theorem cd_14 : wCd 14 ∈ gAll := gAll_t (List.mem_of_getElem? (i := 867) rfl) rfl
set_option maxRecDepth 100000 in
theorem cd_15 : wCd 15 ∈ gAll := gAll_t (List.mem_of_getElem? (i := 876) rfl) rfl
set_option maxRecDepth 100000 in
theorem cd_16 : wCd 16 ∈ gAll := gAll_t (List.mem_of_getElem? (i := 881) rfl) rfl
set_option maxRecDepth 100000 in
theorem cd_17 : wCd 17 ∈ gAll := gAll_t (List.mem_of_getElem? (i := 886) rfl) rfl
set_option maxRecDepth 100000 in
theorem cd_18 : wCd 18 ∈ gAll := gAll_t (List.mem_of_getElem? (i := 890) rfl) rfl
set_option maxRecDepth 100000 in
theorem cd_19 : wCd 19 ∈ gAll := gAll_t (List.mem_of_getElem? (i := 894) rfl) rfl
set_option maxRecDepth 100000 in
theorem cd_20 : wCd 20 ∈ gAll := gAll_t (List.mem_of_getElem? (i := 898) rfl) rfl
set_option maxRecDepth 100000 in
theorem cd_21 : wCd 21 ∈ gAll := gAll_t (List.mem_of_getElem? (i := 909) rfl) rfl
set_option maxRecDepth 100000 in
theorem cd_22 : wCd 22 ∈ gAll := gAll_t (List.mem_of_getElem? (i := 901) rfl) rfl
set_option maxRecDepth 100000 in
theorem cd_23 : wCd 23 ∈ gAll := gAll_t (List.mem_of_getElem? (i := 905) rfl) rfl
set_option maxRecDepth 100000 in
theorem cd_24 : wCd 24 ∈ gAll := gAll_t (List.mem_of_getElem? (i := 211) rfl) rfl
set_option maxRecDepth 100000 in
theorem cd_25 : wCd 25 ∈ gAll := gAll_t (List.mem_of_getElem? (i := 817) rfl) rfl
set_option maxRecDepth 100000 in
theorem cd_26 : wCd 26 ∈ gAll := gAll_t (List.mem_of_getElem? (i := 821) rfl) rfl
set_option maxRecDepth 100000 in
theorem cd_27 : wCd 27 ∈ gAll := gAll_t (List.mem_of_getElem? (i := 825) rfl) rfl
set_option maxRecDepth 100000 in
theorem cd_28 : wCd 28 ∈ gAll := gAll_t (List.mem_of_getElem? (i := 832) rfl) rfl
set_option maxRecDepth 100000 in
theorem cd_29 : wCd 29 ∈ gAll := gAll_t (List.mem_of_getElem? (i := 835) rfl) rfl
set_option maxRecDepth 100000 in
theorem cd_30 : wCd 30 ∈ gAll := gAll_t (List.mem_of_getElem? (i := 839) rfl) rfl
set_option maxRecDepth 100000 in
theorem cd_31 : wCd 31 ∈ gAll := gAll_t (List.mem_of_getElem? (i := 843) rfl) rfl
set_option maxRecDepth 100000 in
theorem cd_32 : wCd 32 ∈ gAll := gAll_t (List.mem_of_getElem? (i := 854) rfl) rfl
set_option maxRecDepth 100000 in
theorem cd_33 : wCd 33 ∈ gAll := gAll_t (List.mem_of_getElem? (i := 189) rfl) rfl
set_option maxRecDepth 100000 in
theorem cd_34 : wCd 34 ∈ gAll := gAll_t (List.mem_of_getElem? (i := 723) rfl) rfl
set_option maxRecDepth 100000 in
theorem cd_35 : wCd 35 ∈ gAll := gAll_t (List.mem_of_getElem? (i := 733) rfl) rfl
set_option maxRecDepth 100000 in
theorem cd_36 : wCd 36 ∈ gAll := gAll_t (List.mem_of_getElem? (i := 758) rfl) rfl
set_option maxRecDepth 100000 in
theorem cd_37 : wCd 37 ∈ gAll := gAll_t (List.mem_of_getElem? (i := 741) rfl) rfl
set_option maxRecDepth 100000 in
theorem cd_38 : wCd 38 ∈ gAll := gAll_t (List.mem_of_getElem? (i := 745) rfl) rfl
set_option maxRecDepth 100000 in
theorem cd_39 : wCd 39 ∈ gAll := gAll_t (List.mem_of_getElem? (i := 750) rfl) rfl
set_option maxRecDepth 100000 in
theorem cd_40 : wCd 40 ∈ gAll := gAll_t (List.mem_of_getElem? (i := 754) rfl) rfl
set_option maxRecDepth 100000 in
theorem cd_41 : wCd 41 ∈ gAll := gAll_t (List.mem_of_getElem? (i := 766) rfl) rfl
set_option maxRecDepth 100000 in
theorem cd_42 : wCd 42 ∈ gAll := gAll_t (List.mem_of_getElem? (i := 774) rfl) rfl
set_option maxRecDepth 100000 in
theorem cd_43 : wCd 43 ∈ gAll := gAll_t (List.mem_of_getElem? (i := 778) rfl) rfl
set_option maxRecDepth 100000 in
theorem cd_44 : wCd 44 ∈ gAll := gAll_t (List.mem_of_getElem? (i := 786) rfl) rfl
set_option maxRecDepth 100000 in
theorem cd_45 : wCd 45 ∈ gAll := gAll_t (List.mem_of_getElem? (i := 790) rfl) rfl
set_option maxRecDepth 100000 in
theorem cd_46 : wCd 46 ∈ gAll := gAll_t (List.mem_of_getElem? (i := 804) rfl) rfl
set_option maxRecDepth 100000 in
theorem cd_47 : wCd 47 ∈ gAll := gAll_t (List.mem_of_getElem? (i := 808) rfl) rfl
set_option maxRecDepth 100000 in
theorem cd_48 : wCd 48 ∈ gAll := gAll_t (List.mem_of_getElem? (i := 239) rfl) rfl
set_option maxRecDepth 100000 in
theorem cd_49 : wCd 49 ∈ gAll := gAll_t (List.mem_of_getElem? (i := 871) rfl) rfl
set_option maxRecDepth 100000 in
theorem cd_50 : wCd 50 ∈ gAll := gAll_t (List.mem_of_getElem? (i := 913) rfl) rfl
set_option maxRecDepth 100000 in
theorem cd_51 : wCd 51 ∈ gAll := gAll_t (List.mem_of_getElem? (i := 918) rfl) rfl
set_option maxRecDepth 100000 in
theorem cd_52 : wCd 52 ∈ gAll := gAll_t (List.mem_of_getElem? (i := 1189) rfl) rfl
set_option maxRecDepth 100000 in
theorem cd_53 : wCd 53 ∈ gAll := gAll_t (List.mem_of_getElem? (i := 1193) rfl) rfl
set_option maxRecDepth 100000 in
theorem cd_54 : wCd 54 ∈ gAll := gAll_t (List.mem_of_getElem? (i := 93) rfl) rfl
set_option maxRecDepth 100000 in
theorem cd_55 : wCd 55 ∈ gAll := gAll_t (List.mem_of_getElem? (i := 446) rfl) rfl
set_option maxRecDepth 100000 in
theorem cd_56 : wCd 56 ∈ gAll := gAll_t (List.mem_of_getElem? (i := 646) rfl) rfl
set_option maxRecDepth 100000 in
theorem cd_57 : wCd 57 ∈ gAll := gAll_t (List.mem_of_getElem? (i := 521) rfl) rfl
set_option maxRecDepth 100000 in
theorem cd_58 : wCd 58 ∈ gAll := gAll_t (List.mem_of_getElem? (i := 478) rfl) rfl
set_option maxRecDepth 100000 in
theorem cd_59 : wCd 59 ∈ gAll := gAll_t (List.mem_of_getElem? (i := 457) rfl) rfl
set_option maxRecDepth 100000 in
theorem cd_60 : wCd 60 ∈ gAll := gAll_t (List.mem_of_getElem? (i := 453) rfl) rfl
set_option maxRecDepth 100000 in
theorem cd_61 : wCd 61 ∈ gAll := gAll_t (List.mem_of_getElem? (i := 467) rfl) rfl
set_option maxRecDepth 100000 in
theorem cd_62 : wCd 62 ∈ gAll := gAll_t (List.mem_of_getElem? (i := 460) rfl) rfl
set_option maxRecDepth 100000 in
theorem cd_63 : wCd 63 ∈ gAll := gAll_t (List.mem_of_getElem? (i := 463) rfl) rfl
set_option maxRecDepth 100000 in
theorem cd_64 : wCd 64 ∈ gAll := gAll_t (List.mem_of_getElem? (i := 470) rfl) rfl
set_option maxRecDepth 100000 in
theorem cd_65 : wCd 65 ∈ gAll := gAll_t (List.mem_of_getElem? (i := 42) rfl) rfl
set_option maxRecDepth 100000 in
theorem cd_66 : wCd 66 ∈ gAll := gAll_t (List.mem_of_getElem? (i := 516) rfl) rfl
set_option maxRecDepth 100000 in
theorem cd_67 : wCd 67 ∈ gAll := gAll_t (List.mem_of_getElem? (i := 139) rfl) rfl
set_option maxRecDepth 100000 in
theorem cd_68 : wCd 68 ∈ gAll := gAll_t (List.mem_of_getElem? (i := 132) rfl) rfl
set_option maxRecDepth 100000 in
theorem cd_69 : wCd 69 ∈ gAll := gAll_t (List.mem_of_getElem? (i := 128) rfl) rfl
set_option maxRecDepth 100000 in
theorem cd_70 : wCd 70 ∈ gAll := gAll_t (List.mem_of_getElem? (i := 512) rfl) rfl
set_option maxRecDepth 100000 in
theorem cd_71 : wCd 71 ∈ gAll := gAll_t (List.mem_of_getElem? (i := 619) rfl) rfl
set_option maxRecDepth 100000 in
theorem cd_72 : wCd 72 ∈ gAll := gAll_t (List.mem_of_getElem? (i := 627) rfl) rfl
set_option maxRecDepth 100000 in
theorem cd_73 : wCd 73 ∈ gAll := gAll_t (List.mem_of_getElem? (i := 632) rfl) rfl
set_option maxRecDepth 100000 in
theorem cd_74 : wCd 74 ∈ gAll := gAll_t (List.mem_of_getElem? (i := 584) rfl) rfl
set_option maxRecDepth 100000 in
theorem cd_75 : wCd 75 ∈ gAll := gAll_t (List.mem_of_getElem? (i := 599) rfl) rfl
set_option maxRecDepth 100000 in
theorem cd_76 : wCd 76 ∈ gAll := gAll_t (List.mem_of_getElem? (i := 590) rfl) rfl
set_option maxRecDepth 100000 in
theorem cd_77 : wCd 77 ∈ gAll := gAll_t (List.mem_of_getElem? (i := 594) rfl) rfl
set_option maxRecDepth 100000 in
theorem cd_78 : wCd 78 ∈ gAll := gAll_t (List.mem_of_getElem? (i := 708) rfl) rfl
set_option maxRecDepth 100000 in
theorem cd_79 : wCd 79 ∈ gAll := gAll_t (List.mem_of_getElem? (i := 700) rfl) rfl
set_option maxRecDepth 100000 in
theorem cd_80 : wCd 80 ∈ gAll := gAll_t (List.mem_of_getElem? (i := 1170) rfl) rfl
set_option maxRecDepth 100000 in
theorem cd_81 : wCd 81 ∈ gAll := gAll_t (List.mem_of_getElem? (i := 1166) rfl) rfl
set_option maxRecDepth 100000 in
theorem cd_82 : wCd 82 ∈ gAll := gAll_t (List.mem_of_getElem? (i := 1178) rfl) rfl
set_option maxRecDepth 100000 in
theorem cd_83 : wCd 83 ∈ gAll := gAll_t (List.mem_of_getElem? (i := 1173) rfl) rfl
set_option maxRecDepth 100000 in
theorem cd_84 : wCd 84 ∈ gAll := gAll_t (List.mem_of_getElem? (i := 846) rfl) rfl
set_option maxRecDepth 100000 in
theorem cd_85 : wCd 85 ∈ gAll := gAll_t (List.mem_of_getElem? (i := 1082) rfl) rfl
set_option maxRecDepth 100000 in
theorem cd_86 : wCd 86 ∈ gAll := gAll_t (List.mem_of_getElem? (i := 1204) rfl) rfl
set_option maxRecDepth 100000 in
theorem cd_87 : wCd 87 ∈ gAll := gAll_t (List.mem_of_getElem? (i := 35) rfl) rfl
set_option maxRecDepth 100000 in
theorem cd_88 : wCd 88 ∈ gAll := gAll_t (List.mem_of_getElem? (i := 674) rfl) rfl
set_option maxRecDepth 100000 in
theorem cd_89 : wCd 89 ∈ gAll := gAll_t (List.mem_of_getElem? (i := 507) rfl) rfl
set_option maxRecDepth 100000 in
theorem cd_90 : wCd 90 ∈ gAll := gAll_t (List.mem_of_getElem? (i := 666) rfl) rfl
set_option maxRecDepth 100000 in
theorem cd_91 : wCd 91 ∈ gAll := gAll_t (List.mem_of_getElem? (i := 662) rfl) rfl
set_option maxRecDepth 100000 in
theorem cd_92 : wCd 92 ∈ gAll := gAll_t (List.mem_of_getElem? (i := 499) rfl) rfl
set_option maxRecDepth 100000 in
theorem cd_93 : wCd 93 ∈ gAll := gAll_t (List.mem_of_getElem? (i := 525) rfl) rfl
set_option maxRecDepth 100000 in
theorem cd_94 : wCd 94 ∈ gAll := gAll_t (List.mem_of_getElem? (i := 87) rfl) rfl
set_option maxRecDepth 100000 in
theorem cd_95 : wCd 95 ∈ gAll := gAll_t (List.mem_of_getElem? (i := 442) rfl) rfl
set_option maxRecDepth 100000 in
theorem cd_96 : wCd 96 ∈ gAll := gAll_t (List.mem_of_getElem? (i := 650) rfl) rfl
set_option maxRecDepth 100000 in
theorem cd_97 : wCd 97 ∈ gAll := gAll_t (List.mem_of_getElem? (i := 482) rfl) rfl
set_option maxRecDepth 100000 in
theorem cd_98 : wCd 98 ∈ gAll := gAll_t (List.mem_of_getElem? (i := 486) rfl) rfl
set_option maxRecDepth 100000 in
theorem cd_99 : wCd 99 ∈ gAll := gAll_t (List.mem_of_getElem? (i := 474) rfl) rfl
set_option maxRecDepth 100000 in
theorem cd_100 : wCd 100 ∈ gAll := gAll_t (List.mem_of_getElem? (i := 490) rfl) rfl
set_option maxRecDepth 100000 in
theorem cd_101 : wCd 101 ∈ gAll := gAll_t (List.mem_of_getElem? (i := 493) rfl) rfl
set_option maxRecDepth 100000 in
theorem cd_102 : wCd 102 ∈ gAll := gAll_t (List.mem_of_getElem? (i := 503) rfl) rfl
set_option maxRecDepth 100000 in
theorem cd_103 : wCd 103 ∈ gAll := gAll_t (List.mem_of_getElem? (i := 529) rfl) rfl
set_option maxRecDepth 100000 in
theorem cd_104 : wCd 104 ∈ gAll := gAll_t (List.mem_of_getElem? (i := 533) rfl) rfl
set_option maxRecDepth 100000 in
theorem cd_105 : wCd 105 ∈ gAll := gAll_t (List.mem_of_getElem? (i := 541) rfl) rfl
set_option maxRecDepth 100000 in
theorem cd_106 : wCd 106 ∈ gAll := gAll_t (List.mem_of_getElem? (i := 545) rfl) rfl
set_option maxRecDepth 100000 in
theorem cd_107 : wCd 107 ∈ gAll := gAll_t (List.mem_of_getElem? (i := 553) rfl) rfl
set_option maxRecDepth 100000 in
theorem cd_108 : wCd 108 ∈ gAll := gAll_t (List.mem_of_getElem? (i := 549) rfl) rfl
set_option maxRecDepth 100000 in
theorem cd_109 : wCd 109 ∈ gAll := gAll_t (List.mem_of_getElem? (i := 573) rfl) rfl
set_option maxRecDepth 100000 in
theorem cd_110 : wCd 110 ∈ gAll := gAll_t (List.mem_of_getElem? (i := 577) rfl) rfl
set_option maxRecDepth 100000 in
theorem cd_111 : wCd 111 ∈ gAll := gAll_t (List.mem_of_getElem? (i := 611) rfl) rfl
set_option maxRecDepth 100000 in
theorem cd_112 : wCd 112 ∈ gAll := gAll_t (List.mem_of_getElem? (i := 305) rfl) rfl
set_option maxRecDepth 100000 in
theorem cd_113 : wCd 113 ∈ gAll := gAll_t (List.mem_of_getElem? (i := 940) rfl) rfl
set_option maxRecDepth 100000 in
theorem cd_114 : wCd 114 ∈ gAll := gAll_t (List.mem_of_getElem? (i := 946) rfl) rfl
set_option maxRecDepth 100000 in
theorem cd_115 : wCd 115 ∈ gAll := gAll_t (List.mem_of_getElem? (i := 949) rfl) rfl
set_option maxRecDepth 100000 in
theorem cd_116 : wCd 116 ∈ gAll := gAll_t (List.mem_of_getElem? (i := 962) rfl) rfl
set_option maxRecDepth 100000 in
theorem cd_117 : wCd 117 ∈ gAll := gAll_t (List.mem_of_getElem? (i := 966) rfl) rfl
set_option maxRecDepth 100000 in
theorem cd_118 : wCd 118 ∈ gAll := gAll_t (List.mem_of_getElem? (i := 982) rfl) rfl
set_option maxRecDepth 100000 in
theorem cd_119 : wCd 119 ∈ gAll := gAll_t (List.mem_of_getElem? (i := 970) rfl) rfl
set_option maxRecDepth 100000 in
theorem cd_120 : wCd 120 ∈ gAll := gAll_t (List.mem_of_getElem? (i := 958) rfl) rfl
set_option maxRecDepth 100000 in
theorem cd_121 : wCd 121 ∈ gAll := gAll_t (List.mem_of_getElem? (i := 954) rfl) rfl
set_option maxRecDepth 100000 in
theorem cd_122 : wCd 122 ∈ gAll := gAll_t (List.mem_of_getElem? (i := 974) rfl) rfl
set_option maxRecDepth 100000 in
theorem cd_123 : wCd 123 ∈ gAll := gAll_t (List.mem_of_getElem? (i := 330) rfl) rfl
set_option maxRecDepth 100000 in
theorem cd_124 : wCd 124 ∈ gAll := gAll_t (List.mem_of_getElem? (i := 995) rfl) rfl
set_option maxRecDepth 100000 in
theorem cd_125 : wCd 125 ∈ gAll := gAll_t (List.mem_of_getElem? (i := 999) rfl) rfl
set_option maxRecDepth 100000 in
theorem cd_126 : wCd 126 ∈ gAll := gAll_t (List.mem_of_getElem? (i := 1045) rfl) rfl
set_option maxRecDepth 100000 in
theorem cd_127 : wCd 127 ∈ gAll := gAll_t (List.mem_of_getElem? (i := 1048) rfl) rfl
set_option maxRecDepth 100000 in
theorem cd_128 : wCd 128 ∈ gAll := gAll_t (List.mem_of_getElem? (i := 1030) rfl) rfl
set_option maxRecDepth 100000 in
theorem cd_129 : wCd 129 ∈ gAll := gAll_t (List.mem_of_getElem? (i := 1003) rfl) rfl
set_option maxRecDepth 100000 in
theorem cd_130 : wCd 130 ∈ gAll := gAll_t (List.mem_of_getElem? (i := 1008) rfl) rfl
set_option maxRecDepth 100000 in
theorem cd_131 : wCd 131 ∈ gAll := gAll_t (List.mem_of_getElem? (i := 1019) rfl) rfl
set_option maxRecDepth 100000 in
theorem cd_132 : wCd 132 ∈ gAll := gAll_t (List.mem_of_getElem? (i := 1023) rfl) rfl
set_option maxRecDepth 100000 in
theorem cd_133 : wCd 133 ∈ gAll := gAll_t (List.mem_of_getElem? (i := 1027) rfl) rfl
set_option maxRecDepth 100000 in
theorem cd_134 : wCd 134 ∈ gAll := gAll_t (List.mem_of_getElem? (i := 1034) rfl) rfl
set_option maxRecDepth 100000 in
theorem cd_135 : wCd 135 ∈ gAll := gAll_t (List.mem_of_getElem? (i := 1012) rfl) rfl
set_option maxRecDepth 100000 in
theorem cd_136 : wCd 136 ∈ gAll := gAll_t (List.mem_of_getElem? (i := 1056) rfl) rfl
set_option maxRecDepth 100000 in
theorem cd_137 : wCd 137 ∈ gAll := gAll_t (List.mem_of_getElem? (i := 27) rfl) rfl
set_option maxRecDepth 100000 in
theorem cd_138 : wCd 138 ∈ gAll := gAll_t (List.mem_of_getElem? (i := 422) rfl) rfl
set_option maxRecDepth 100000 in
theorem cd_139 : wCd 139 ∈ gAll := gAll_t (List.mem_of_getElem? (i := 426) rfl) rfl
set_option maxRecDepth 100000 in
theorem cd_140 : wCd 140 ∈ gAll := gAll_t (List.mem_of_getElem? (i := 430) rfl) rfl
set_option maxRecDepth 100000 in
theorem cd_141 : wCd 141 ∈ gAll := gAll_t (List.mem_of_getElem? (i := 438) rfl) rfl
set_option maxRecDepth 100000 in
theorem cd_142 : wCd 142 ∈ gAll := gAll_t (List.mem_of_getElem? (i := 434) rfl) rfl
set_option maxRecDepth 100000 in
theorem cd_143 : wCd 143 ∈ gAll := gAll_t (List.mem_of_getElem? (i := 654) rfl) rfl
set_option maxRecDepth 100000 in
theorem cd_144 : wCd 144 ∈ gAll := gAll_t (List.mem_of_getElem? (i := 658) rfl) rfl
set_option maxRecDepth 100000 in
theorem cd_145 : wCd 145 ∈ gAll := gAll_t (List.mem_of_getElem? (i := 1093) rfl) rfl
set_option maxRecDepth 100000 in
theorem cd_146 : wCd 146 ∈ gAll := gAll_t (List.mem_of_getElem? (i := 670) rfl) rfl
set_option maxRecDepth 100000 in
theorem cd_147 : wCd 147 ∈ gAll := gAll_t (List.mem_of_getElem? (i := 680) rfl) rfl
set_option maxRecDepth 100000 in
theorem cd_148 : wCd 148 ∈ gAll := gAll_t (List.mem_of_getElem? (i := 1161) rfl) rfl
set_option maxRecDepth 100000 in
theorem cd_149 : wCd 149 ∈ gAll := gAll_t (List.mem_of_getElem? (i := 689) rfl) rfl
set_option maxRecDepth 100000 in
theorem cd_150 : wCd 150 ∈ gAll := gAll_t (List.mem_of_getElem? (i := 693) rfl) rfl
set_option maxRecDepth 100000 in
theorem cd_151 : wCd 151 ∈ gAll := gAll_t (List.mem_of_getElem? (i := 685) rfl) rfl
set_option maxRecDepth 100000 in
theorem cd_152 : wCd 152 ∈ gAll := gAll_t (List.mem_of_getElem? (i := 704) rfl) rfl
set_option maxRecDepth 100000 in
theorem cd_153 : wCd 153 ∈ gAll := gAll_t (List.mem_of_getElem? (i := 719) rfl) rfl
set_option maxRecDepth 100000 in
theorem cd_154 : wCd 154 ∈ gAll := gAll_t (List.mem_of_getElem? (i := 715) rfl) rfl
set_option maxRecDepth 100000 in
theorem cd_155 : wCd 155 ∈ gAll := gAll_t (List.mem_of_getElem? (i := 737) rfl) rfl
set_option maxRecDepth 100000 in
theorem cd_156 : wCd 156 ∈ gAll := gAll_t (List.mem_of_getElem? (i := 762) rfl) rfl
set_option maxRecDepth 100000 in
theorem cd_157 : wCd 157 ∈ gAll := gAll_t (List.mem_of_getElem? (i := 770) rfl) rfl
set_option maxRecDepth 100000 in
theorem cd_158 : wCd 158 ∈ gAll := gAll_t (List.mem_of_getElem? (i := 782) rfl) rfl
set_option maxRecDepth 100000 in
theorem cd_159 : wCd 159 ∈ gAll := gAll_t (List.mem_of_getElem? (i := 800) rfl) rfl
set_option maxRecDepth 100000 in
theorem cd_160 : wCd 160 ∈ gAll := gAll_t (List.mem_of_getElem? (i := 812) rfl) rfl
set_option maxRecDepth 100000 in
theorem cd_161 : wCd 161 ∈ gAll := gAll_t (List.mem_of_getElem? (i := 850) rfl) rfl
set_option maxRecDepth 100000 in
theorem cd_162 : wCd 162 ∈ gAll := gAll_t (List.mem_of_getElem? (i := 858) rfl) rfl
set_option maxRecDepth 100000 in
theorem cd_163 : wCd 163 ∈ gAll := gAll_t (List.mem_of_getElem? (i := 862) rfl) rfl
set_option maxRecDepth 100000 in
theorem cd_164 : wCd 164 ∈ gAll := gAll_t (List.mem_of_getElem? (i := 1185) rfl) rfl
set_option maxRecDepth 100000 in
theorem cd_165 : wCd 165 ∈ gAll := gAll_t (List.mem_of_getElem? (i := 923) rfl) rfl
set_option maxRecDepth 100000 in
theorem cd_166 : wCd 166 ∈ gAll := gAll_t (List.mem_of_getElem? (i := 927) rfl) rfl
set_option maxRecDepth 100000 in
theorem cd_167 : wCd 167 ∈ gAll := gAll_t (List.mem_of_getElem? (i := 936) rfl) rfl
set_option maxRecDepth 100000 in
theorem cd_168 : wCd 168 ∈ gAll := gAll_t (List.mem_of_getElem? (i := 978) rfl) rfl
set_option maxRecDepth 100000 in
theorem cd_169 : wCd 169 ∈ gAll := gAll_t (List.mem_of_getElem? (i := 986) rfl) rfl
set_option maxRecDepth 100000 in
theorem cd_170 : wCd 170 ∈ gAll := gAll_t (List.mem_of_getElem? (i := 991) rfl) rfl
set_option maxRecDepth 100000 in
theorem cd_171 : wCd 171 ∈ gAll := gAll_t (List.mem_of_getElem? (i := 1041) rfl) rfl
set_option maxRecDepth 100000 in
theorem cd_172 : wCd 172 ∈ gAll := gAll_t (List.mem_of_getElem? (i := 1052) rfl) rfl
set_option maxRecDepth 100000 in
theorem cd_173 : wCd 173 ∈ gAll := gAll_t (List.mem_of_getElem? (i := 1060) rfl) rfl
set_option maxRecDepth 100000 in
theorem cd_174 : wCd 174 ∈ gAll := gAll_t (List.mem_of_getElem? (i := 1064) rfl) rfl
set_option maxRecDepth 100000 in
theorem cd_175 : wCd 175 ∈ gAll := gAll_t (List.mem_of_getElem? (i := 1069) rfl) rfl
set_option maxRecDepth 100000 in
theorem cd_176 : wCd 176 ∈ gAll := gAll_t (List.mem_of_getElem? (i := 1073) rfl) rfl
set_option maxRecDepth 100000 in
theorem cd_177 : wCd 177 ∈ gAll := gAll_t (List.mem_of_getElem? (i := 1078) rfl) rfl
set_option maxRecDepth 100000 in
theorem cd_178 : wCd 178 ∈ gAll := gAll_t (List.mem_of_getElem? (i := 1200) rfl) rfl
set_option maxRecDepth 100000 in
theorem cd_179 : wCd 179 ∈ gAll := gAll_t (List.mem_of_getElem? (i := 1209) rfl) rfl
set_option maxRecDepth 100000 in
theorem cd_180 : wCd 180 ∈ gAll := gAll_t (List.mem_of_getElem? (i := 1393) rfl) rfl
set_option maxRecDepth 100000 in
theorem cd_181 : wCd 181 ∈ gAll := gAll_t (List.mem_of_getElem? (i := 1536) rfl) rfl
set_option maxRecDepth 100000 in
theorem cd_182 : wCd 182 ∈ gAll := gAll_t (List.mem_of_getElem? (i := 1397) rfl) rfl
set_option maxRecDepth 100000 in
theorem cd_183 : wCd 183 ∈ gAll := gAll_t (List.mem_of_getElem? (i := 1401) rfl) rfl
set_option maxRecDepth 100000 in
theorem cd_184 : wCd 184 ∈ gAll := gAll_t (List.mem_of_getElem? (i := 1405) rfl) rfl
set_option maxRecDepth 100000 in
theorem cd_185 : wCd 185 ∈ gAll := gAll_t (List.mem_of_getElem? (i := 1413) rfl) rfl
set_option maxRecDepth 100000 in
theorem cd_186 : wCd 186 ∈ gAll := gAll_t (List.mem_of_getElem? (i := 1484) rfl) rfl
set_option maxRecDepth 100000 in
theorem cd_187 : wCd 187 ∈ gAll := gAll_t (List.mem_of_getElem? (i := 1564) rfl) rfl
set_option maxRecDepth 100000 in
theorem cd_188 : wCd 188 ∈ gAll := gAll_t (List.mem_of_getElem? (i := 1667) rfl) rfl
set_option maxRecDepth 100000 in
theorem cd_189 : wCd 189 ∈ gAll := gAll_t (List.mem_of_getElem? (i := 1461) rfl) rfl
set_option maxRecDepth 100000 in
theorem cd_190 : wCd 190 ∈ gAll := gAll_t (List.mem_of_getElem? (i := 1496) rfl) rfl
set_option maxRecDepth 100000 in
theorem cd_191 : wCd 191 ∈ gAll := gAll_t (List.mem_of_getElem? (i := 1492) rfl) rfl
set_option maxRecDepth 100000 in
theorem cd_192 : wCd 192 ∈ gAll := gAll_t (List.mem_of_getElem? (i := 1512) rfl) rfl
set_option maxRecDepth 100000 in
theorem cd_193 : wCd 193 ∈ gAll := gAll_t (List.mem_of_getElem? (i := 1508) rfl) rfl
set_option maxRecDepth 100000 in
theorem cd_194 : wCd 194 ∈ gAll := gAll_t (List.mem_of_getElem? (i := 1504) rfl) rfl
set_option maxRecDepth 100000 in
theorem cd_195 : wCd 195 ∈ gAll := gAll_t (List.mem_of_getElem? (i := 1421) rfl) rfl
set_option maxRecDepth 100000 in
theorem cd_196 : wCd 196 ∈ gAll := gAll_t (List.mem_of_getElem? (i := 1424) rfl) rfl
set_option maxRecDepth 100000 in
theorem cd_197 : wCd 197 ∈ gAll := gAll_t (List.mem_of_getElem? (i := 1427) rfl) rfl
set_option maxRecDepth 100000 in
theorem cd_198 : wCd 198 ∈ gAll := gAll_t (List.mem_of_getElem? (i := 1417) rfl) rfl
set_option maxRecDepth 100000 in
theorem cd_199 : wCd 199 ∈ gAll := gAll_t (List.mem_of_getElem? (i := 1441) rfl) rfl
set_option maxRecDepth 100000 in
theorem cd_200 : wCd 200 ∈ gAll := gAll_t (List.mem_of_getElem? (i := 1436) rfl) rfl
set_option maxRecDepth 100000 in
theorem cd_201 : wCd 201 ∈ gAll := gAll_t (List.mem_of_getElem? (i := 1473) rfl) rfl
set_option maxRecDepth 100000 in
theorem cd_202 : wCd 202 ∈ gAll := gAll_t (List.mem_of_getElem? (i := 1469) rfl) rfl
set_option maxRecDepth 100000 in
theorem cd_203 : wCd 203 ∈ gAll := gAll_t (List.mem_of_getElem? (i := 1488) rfl) rfl
set_option maxRecDepth 100000 in
theorem cd_204 : wCd 204 ∈ gAll := gAll_t (List.mem_of_getElem? (i := 1445) rfl) rfl
set_option maxRecDepth 100000 in
theorem cd_205 : wCd 205 ∈ gAll := gAll_t (List.mem_of_getElem? (i := 1453) rfl) rfl
set_option maxRecDepth 100000 in
theorem cd_206 : wCd 206 ∈ gAll := gAll_t (List.mem_of_getElem? (i := 1431) rfl) rfl
set_option maxRecDepth 100000 in
theorem cd_207 : wCd 207 ∈ gAll := gAll_t (List.mem_of_getElem? (i := 1457) rfl) rfl
set_option maxRecDepth 100000 in
theorem cd_208 : wCd 208 ∈ gAll := gAll_t (List.mem_of_getElem? (i := 1465) rfl) rfl
set_option maxRecDepth 100000 in
theorem cd_209 : wCd 209 ∈ gAll := gAll_t (List.mem_of_getElem? (i := 1481) rfl) rfl
set_option maxRecDepth 100000 in
theorem cd_210 : wCd 210 ∈ gAll := gAll_t (List.mem_of_getElem? (i := 1477) rfl) rfl
set_option maxRecDepth 100000 in
theorem cd_211 : wCd 211 ∈ gAll := gAll_t (List.mem_of_getElem? (i := 1500) rfl) rfl
set_option maxRecDepth 100000 in
theorem cd_212 : wCd 212 ∈ gAll := gAll_t (List.mem_of_getElem? (i := 1409) rfl) rfl
set_option maxRecDepth 100000 in
theorem cd_213 : wCd 213 ∈ gAll := gAll_t (List.mem_of_getElem? (i := 1524) rfl) rfl
set_option maxRecDepth 100000 in
theorem cd_214 : wCd 214 ∈ gAll := gAll_t (List.mem_of_getElem? (i := 1532) rfl) rfl
set_option maxRecDepth 100000 in
theorem cd_215 : wCd 215 ∈ gAll := gAll_t (List.mem_of_getElem? (i := 1540) rfl) rfl
set_option maxRecDepth 100000 in
theorem cd_216 : wCd 216 ∈ gAll := gAll_t (List.mem_of_getElem? (i := 1544) rfl) rfl
set_option maxRecDepth 100000 in
theorem cd_217 : wCd 217 ∈ gAll := gAll_t (List.mem_of_getElem? (i := 1528) rfl) rfl
set_option maxRecDepth 100000 in
theorem cd_218 : wCd 218 ∈ gAll := gAll_t (List.mem_of_getElem? (i := 1548) rfl) rfl
set_option maxRecDepth 100000 in
theorem cd_219 : wCd 219 ∈ gAll := gAll_t (List.mem_of_getElem? (i := 1553) rfl) rfl
set_option maxRecDepth 100000 in
theorem cd_220 : wCd 220 ∈ gAll := gAll_t (List.mem_of_getElem? (i := 1561) rfl) rfl
set_option maxRecDepth 100000 in
theorem cd_221 : wCd 221 ∈ gAll := gAll_t (List.mem_of_getElem? (i := 1557) rfl) rfl
set_option maxRecDepth 100000 in
theorem cd_222 : wCd 222 ∈ gAll := gAll_t (List.mem_of_getElem? (i := 1516) rfl) rfl
set_option maxRecDepth 100000 in
theorem cd_223 : wCd 223 ∈ gAll := gAll_t (List.mem_of_getElem? (i := 1520) rfl) rfl
set_option maxRecDepth 100000 in
theorem cd_224 : wCd 224 ∈ gAll := gAll_t (List.mem_of_getElem? (i := 1572) rfl) rfl
set_option maxRecDepth 100000 in
theorem cd_225 : wCd 225 ∈ gAll := gAll_t (List.mem_of_getElem? (i := 1568) rfl) rfl
set_option maxRecDepth 100000 in
theorem cd_226 : wCd 226 ∈ gAll := gAll_t (List.mem_of_getElem? (i := 1576) rfl) rfl
set_option maxRecDepth 100000 in
theorem cd_227 : wCd 227 ∈ gAll := gAll_t (List.mem_of_getElem? (i := 1584) rfl) rfl
set_option maxRecDepth 100000 in
theorem cd_228 : wCd 228 ∈ gAll := gAll_t (List.mem_of_getElem? (i := 1580) rfl) rfl
set_option maxRecDepth 100000 in
theorem cd_229 : wCd 229 ∈ gAll := gAll_t (List.mem_of_getElem? (i := 1592) rfl) rfl
set_option maxRecDepth 100000 in
theorem cd_230 : wCd 230 ∈ gAll := gAll_t (List.mem_of_getElem? (i := 1588) rfl) rfl
set_option maxRecDepth 100000 in
theorem cd_231 : wCd 231 ∈ gAll := gAll_t (List.mem_of_getElem? (i := 1596) rfl) rfl
set_option maxRecDepth 100000 in
theorem cd_232 : wCd 232 ∈ gAll := gAll_t (List.mem_of_getElem? (i := 1600) rfl) rfl
set_option maxRecDepth 100000 in
theorem cd_233 : wCd 233 ∈ gAll := gAll_t (List.mem_of_getElem? (i := 1607) rfl) rfl
set_option maxRecDepth 100000 in
theorem cd_234 : wCd 234 ∈ gAll := gAll_t (List.mem_of_getElem? (i := 1604) rfl) rfl
set_option maxRecDepth 100000 in
theorem cd_235 : wCd 235 ∈ gAll := gAll_t (List.mem_of_getElem? (i := 1611) rfl) rfl
set_option maxRecDepth 100000 in
theorem cd_236 : wCd 236 ∈ gAll := gAll_t (List.mem_of_getElem? (i := 1615) rfl) rfl
set_option maxRecDepth 100000 in
theorem cd_237 : wCd 237 ∈ gAll := gAll_t (List.mem_of_getElem? (i := 1619) rfl) rfl
set_option maxRecDepth 100000 in
theorem cd_238 : wCd 238 ∈ gAll := gAll_t (List.mem_of_getElem? (i := 1623) rfl) rfl
set_option maxRecDepth 100000 in
theorem cd_239 : wCd 239 ∈ gAll := gAll_t (List.mem_of_getElem? (i := 1627) rfl) rfl
set_option maxRecDepth 100000 in
theorem cd_240 : wCd 240 ∈ gAll := gAll_t (List.mem_of_getElem? (i := 1631) rfl) rfl
set_option maxRecDepth 100000 in
theorem cd_241 : wCd 241 ∈ gAll := gAll_t (List.mem_of_getElem? (i := 1639) rfl) rfl
set_option maxRecDepth 100000 in
theorem cd_242 : wCd 242 ∈ gAll := gAll_t (List.mem_of_getElem? (i := 1635) rfl) rfl
set_option maxRecDepth 100000 in
theorem cd_243 : wCd 243 ∈ gAll := gAll_t (List.mem_of_getElem? (i := 1643) rfl) rfl
set_option maxRecDepth 100000 in
theorem cd_244 : wCd 244 ∈ gAll := gAll_t (List.mem_of_getElem? (i := 1655) rfl) rfl
set_option maxRecDepth 100000 in
theorem cd_245 : wCd 245 ∈ gAll := gAll_t (List.mem_of_getElem? (i := 1647) rfl) rfl
set_option maxRecDepth 100000 in
theorem cd_246 : wCd 246 ∈ gAll := gAll_t (List.mem_of_getElem? (i := 1651) rfl) rfl
set_option maxRecDepth 100000 in
theorem cd_247 : wCd 247 ∈ gAll := gAll_t (List.mem_of_getElem? (i := 1659) rfl) rfl
set_option maxRecDepth 100000 in
theorem cd_248 : wCd 248 ∈ gAll := gAll_t (List.mem_of_getElem? (i := 1686) rfl) rfl
set_option maxRecDepth 100000 in
theorem cd_249 : wCd 249 ∈ gAll := gAll_t (List.mem_of_getElem? (i := 1682) rfl) rfl
set_option maxRecDepth 100000 in
theorem cd_250 : wCd 250 ∈ gAll := gAll_t (List.mem_of_getElem? (i := 1679) rfl) rfl
set_option maxRecDepth 100000 in
theorem cd_251 : wCd 251 ∈ gAll := gAll_t (List.mem_of_getElem? (i := 1671) rfl) rfl
set_option maxRecDepth 100000 in
theorem cd_252 : wCd 252 ∈ gAll := gAll_t (List.mem_of_getElem? (i := 1675) rfl) rfl
set_option maxRecDepth 100000 in
theorem cd_253 : wCd 253 ∈ gAll := gAll_t (List.mem_of_getElem? (i := 1663) rfl) rfl
set_option maxRecDepth 100000 in
theorem cd_254 : wCd 254 ∈ gAll := gAll_t (List.mem_of_getElem? (i := 1694) rfl) rfl
set_option maxRecDepth 100000 in
theorem cd_255 : wCd 255 ∈ gAll := gAll_t (List.mem_of_getElem? (i := 1690) rfl) rfl
set_option maxRecDepth 100000 in
theorem cd_256 : wCd 256 ∈ gAll := gAll_t (List.mem_of_getElem? (i := 1698) rfl) rfl
set_option maxRecDepth 100000 in
theorem cd_257 : wCd 257 ∈ gAll := gAll_t (List.mem_of_getElem? (i := 1706) rfl) rfl
set_option maxRecDepth 100000 in
theorem cd_258 : wCd 258 ∈ gAll := gAll_t (List.mem_of_getElem? (i := 1710) rfl) rfl
set_option maxRecDepth 100000 in
theorem cd_259 : wCd 259 ∈ gAll := gAll_t (List.mem_of_getElem? (i := 1714) rfl) rfl
set_option maxRecDepth 100000 in
theorem cd_260 : wCd 260 ∈ gAll := gAll_t (List.mem_of_getElem? (i := 1718) rfl) rfl
set_option maxRecDepth 100000 in
theorem cd_261 : wCd 261 ∈ gAll := gAll_t (List.mem_of_getElem? (i := 1702) rfl) rfl
set_option maxRecDepth 100000 in
theorem cd_262 : wCd 262 ∈ gAll := gAll_t (List.mem_of_getElem? (i := 1722) rfl) rfl
set_option maxRecDepth 100000 in
theorem cd_263 : wCd 263 ∈ gAll := gAll_t (List.mem_of_getElem? (i := 1726) rfl) rfl
set_option maxRecDepth 100000 in
theorem cd_264 : wCd 264 ∈ gAll := gAll_t (List.mem_of_getElem? (i := 1730) rfl) rfl
set_option maxRecDepth 100000 in
theorem cd_265 : wCd 265 ∈ gAll := gAll_t (List.mem_of_getElem? (i := 1734) rfl) rfl
set_option maxRecDepth 100000 in
theorem cd_266 : wCd 266 ∈ gAll := gAll_t (List.mem_of_getElem? (i := 1739) rfl) rfl
set_option maxRecDepth 100000 in
theorem cd_267 : wCd 267 ∈ gAll := gAll_t (List.mem_of_getElem? (i := 1743) rfl) rfl
set_option maxRecDepth 100000 in
theorem cd_268 : wCd 268 ∈ gAll := gAll_t (List.mem_of_getElem? (i := 1748) rfl) rfl
set_option maxRecDepth 100000 in
theorem cd_269 : wCd 269 ∈ gAll := gAll_t (List.mem_of_getElem? (i := 1752) rfl) rfl
set_option maxRecDepth 100000 in
theorem cd_270 : wCd 270 ∈ gAll := gAll_t (List.mem_of_getElem? (i := 1756) rfl) rfl
set_option maxRecDepth 100000 in
theorem cd_275 : wCd 275 ∈ gAll := gAll_t (List.mem_of_getElem? (i := 727) rfl) rfl
set_option maxRecDepth 100000 in
theorem cd_276 : wCd 276 ∈ gAll := gAll_t (List.mem_of_getElem? (i := 793) rfl) rfl
set_option maxRecDepth 100000 in
theorem cd_277 : wCd 277 ∈ gAll := gAll_t (List.mem_of_getElem? (i := 711) rfl) rfl
set_option maxRecDepth 100000 in
theorem cd_283 : wCd 283 ∈ gAll := gAll_t (List.mem_of_getElem? (i := 931) rfl) rfl
theorem cdc_0 : ∀ k ∈ [0, 1, 2, 3, 4, 5, 6, 7, 8, 9, 10, 11, 12, 13, 14, 15, 16, 17, 18, 19, 20, 21, 22, 23], wCd k ∈ gAll := List.forall_mem_cons.mpr ⟨cd_0, List.forall_mem_cons.mpr ⟨cd_1, List.forall_mem_cons.mpr ⟨cd_2, List.forall_mem_cons.mpr ⟨cd_3, List.forall_mem_cons.mpr ⟨cd_4, List.forall_mem_cons.mpr ⟨cd_5, List.forall_mem_cons.mpr ⟨cd_6, List.forall_mem_cons.mpr ⟨cd_7, List.forall_mem_cons.mpr ⟨cd_8, List.forall_mem_cons.mpr ⟨cd_9, List.forall_mem_cons.mpr ⟨cd_10, List.forall_mem_cons.mpr ⟨cd_11, List.forall_mem_cons.mpr ⟨cd_12, List.forall_mem_cons.mpr ⟨cd_13, List.forall_mem_cons.mpr ⟨cd_14, List.forall_mem_cons.mpr ⟨cd_15, List.forall_mem_cons.mpr ⟨cd_16, List.forall_mem_cons.mpr ⟨cd_17, List.forall_mem_cons.mpr ⟨cd_18, List.forall_mem_cons.mpr ⟨cd_19, List.forall_mem_cons.mpr ⟨cd_20, List.forall_mem_cons.mpr ⟨cd_21, List.forall_mem_cons.mpr ⟨cd_22, List.forall_mem_cons.mpr ⟨cd_23, fun _ h => absurd h List.not_mem_nil⟩⟩⟩⟩⟩⟩⟩⟩⟩⟩⟩⟩⟩⟩⟩⟩⟩⟩⟩⟩⟩⟩⟩⟩
theorem cdc_1 : ∀ k ∈ [24, 25, 26, 27, 28, 29, 30, 31, 32, 33, 34, 35, 36, 37, 38, 39, 40, 41, 42, 43, 44, 45, 46, 47], wCd k ∈ gAll := List.forall_mem_cons.mpr ⟨cd_24, List.forall_mem_cons.mpr ⟨cd_25, List.forall_mem_cons.mpr ⟨cd_26, List.forall_mem_cons.mpr ⟨cd_27, List.forall_mem_cons.mpr ⟨cd_28, List.forall_mem_cons.mpr ⟨cd_29, List.forall_mem_cons.mpr ⟨cd_30, List.forall_mem_cons.mpr ⟨cd_31, List.forall_mem_cons.mpr ⟨cd_32, List.forall_mem_cons.mpr ⟨cd_33, List.forall_mem_cons.mpr ⟨cd_34, List.forall_mem_cons.mpr ⟨cd_35, List.forall_mem_cons.mpr ⟨cd_36, List.forall_mem_cons.mpr ⟨cd_37, List.forall_mem_cons.mpr ⟨cd_38, List.forall_mem_cons.mpr ⟨cd_39, List.forall_mem_cons.mpr ⟨cd_40, List.forall_mem_cons.mpr ⟨cd_41, List.forall_mem_cons.mpr ⟨cd_42, List.forall_mem_cons.mpr ⟨cd_43, List.forall_mem_cons.mpr ⟨cd_44, List.forall_mem_cons.mpr ⟨cd_45, List.forall_mem_cons.mpr ⟨cd_46, List.forall_mem_cons.mpr ⟨cd_47, fun _ h => absurd h List.not_mem_nil⟩⟩⟩⟩⟩⟩⟩⟩⟩⟩⟩⟩⟩⟩⟩⟩⟩⟩⟩⟩⟩⟩⟩⟩
theorem cdc_2 : ∀ k ∈ [48, 49, 50, 51, 52, 53, 54, 55, 56, 57, 58, 59, 60, 61, 62, 63, 64, 65, 66, 67, 68, 69, 70, 71], wCd k ∈ gAll := List.forall_mem_cons.mpr ⟨cd_48, List.forall_mem_cons.mpr ⟨cd_49, List.forall_mem_cons.mpr ⟨cd_50, List.forall_mem_cons.mpr ⟨cd_51, List.forall_mem_cons.mpr ⟨cd_52, List.forall_mem_cons.mpr ⟨cd_53, List.forall_mem_cons.mpr ⟨cd_54, List.forall_mem_cons.mpr ⟨cd_55, List.forall_mem_cons.mpr ⟨cd_56, List.forall_mem_cons.mpr ⟨cd_57, List.forall_mem_cons.mpr ⟨cd_58, List.forall_mem_cons.mpr ⟨cd_59, List.forall_mem_cons.mpr ⟨cd_60, List.forall_mem_cons.mpr ⟨cd_61, List.forall_mem_cons.mpr ⟨cd_62, List.forall_mem_cons.mpr ⟨cd_63, List.forall_mem_cons.mpr ⟨cd_64, List.forall_mem_cons.mpr ⟨cd_65, List.forall_mem_cons.mpr ⟨cd_66, List.forall_mem_cons.mpr ⟨cd_67, List.forall_mem_cons.mpr ⟨cd_68, List.forall_mem_cons.mpr ⟨cd_69, List.forall_mem_cons.mpr ⟨cd_70, List.forall_mem_cons.mpr ⟨cd_71, fun _ h => absurd h List.not_mem_nil⟩⟩⟩⟩⟩⟩⟩⟩⟩⟩⟩⟩⟩⟩⟩⟩⟩⟩⟩⟩⟩⟩⟩⟩
theorem cdc_3 : ∀ k ∈ [72, 73, 74, 75, 76, 77, 78, 79, 80, 81, 82, 83, 84, 85, 86, 87, 88, 89, 90, 91, 92, 93, 94, 95], wCd k ∈ gAll := List.forall_mem_cons.mpr ⟨cd_72, List.forall_mem_cons.mpr ⟨cd_73, List.forall_mem_cons.mpr ⟨cd_74, List.forall_mem_cons.mpr ⟨cd_75, List.forall_mem_cons.mpr ⟨cd_76, List.forall_mem_cons.mpr ⟨cd_77, List.forall_mem_cons.mpr ⟨cd_78, List.forall_mem_cons.mpr ⟨cd_79, List.forall_mem_cons.mpr ⟨cd_80, List.forall_mem_cons.mpr ⟨cd_81, List.forall_mem_cons.mpr ⟨cd_82, List.forall_mem_cons.mpr ⟨cd_83, List.forall_mem_cons.mpr ⟨cd_84, List.forall_mem_cons.mpr ⟨cd_85, List.forall_mem_cons.mpr ⟨cd_86, List.forall_mem_cons.mpr ⟨cd_87, List.forall_mem_cons.mpr ⟨cd_88, List.forall_mem_cons.mpr ⟨cd_89, List.forall_mem_cons.mpr ⟨cd_90, List.forall_mem_cons.mpr ⟨cd_91, List.forall_mem_cons.mpr ⟨cd_92, List.forall_mem_cons.mpr ⟨cd_93, List.forall_mem_cons.mpr ⟨cd_94, List.forall_mem_cons.mpr ⟨cd_95, fun _ h => absurd h List.not_mem_nil⟩⟩⟩⟩⟩⟩⟩⟩⟩⟩⟩⟩⟩⟩⟩⟩⟩⟩⟩⟩⟩⟩⟩⟩
theorem cdc_4 : ∀ k ∈ [96, 97, 98, 99, 100, 101, 102, 103, 104, 105, 106, 107, 108, 109, 110, 111, 112, 113, 114, 115, 116, 117, 118, 119], wCd k ∈ gAll := List.forall_mem_cons.mpr ⟨cd_96, List.forall_mem_cons.mpr ⟨cd_97, List.forall_mem_cons.mpr ⟨cd_98, List.forall_mem_cons.mpr ⟨cd_99, List.forall_mem_cons.mpr ⟨cd_100, List.forall_mem_cons.mpr ⟨cd_101, List.forall_mem_cons.mpr ⟨cd_102, List.forall_mem_cons.mpr ⟨cd_103, List.forall_mem_cons.mpr ⟨cd_104, List.forall_mem_cons.mpr ⟨cd_105, List.forall_mem_cons.mpr ⟨cd_106, List.forall_mem_cons.mpr ⟨cd_107, List.forall_mem_cons.mpr ⟨cd_108, List.forall_mem_cons.mpr ⟨cd_109, List.forall_mem_cons.mpr ⟨cd_110, List.forall_mem_cons.mpr ⟨cd_111, List.forall_mem_cons.mpr ⟨cd_112, List.forall_mem_cons.mpr ⟨cd_113, List.forall_mem_cons.mpr ⟨cd_114, List.forall_mem_cons.mpr ⟨cd_115, List.forall_mem_cons.mpr ⟨cd_116, List.forall_mem_cons.mpr ⟨cd_117, List.forall_mem_cons.mpr ⟨cd_118, List.forall_mem_cons.mpr ⟨cd_119, fun _ h => absurd h List.not_mem_nil⟩⟩⟩⟩⟩⟩⟩⟩⟩⟩⟩⟩⟩⟩⟩⟩⟩⟩⟩⟩⟩⟩⟩⟩
theorem cdc_5 : ∀ k ∈ [120, 121, 122, 123, 124, 125, 126, 127, 128, 129, 130, 131, 132, 133, 134, 135, 136, 137, 138, 139, 140, 141, 142, 143], wCd k ∈ gAll := List.forall_mem_cons.mpr ⟨cd_120, List.forall_mem_cons.mpr ⟨cd_121, List.forall_mem_cons.mpr ⟨cd_122, List.forall_mem_cons.mpr ⟨cd_123, List.forall_mem_cons.mpr ⟨cd_124, List.forall_mem_cons.mpr ⟨cd_125, List.forall_mem_cons.mpr ⟨cd_126, List.forall_mem_cons.mpr ⟨cd_127, List.forall_mem_cons.mpr ⟨cd_128, List.forall_mem_cons.mpr ⟨cd_129, List.forall_mem_cons.mpr ⟨cd_130, List.forall_mem_cons.mpr ⟨cd_131, List.forall_mem_cons.mpr ⟨cd_132, List.forall_mem_cons.mpr ⟨cd_133, List.forall_mem_cons.mpr ⟨cd_134, List.forall_mem_cons.mpr ⟨cd_135, List.forall_mem_cons.mpr ⟨cd_136, List.forall_mem_cons.mpr ⟨cd_137, List.forall_mem_cons.mpr ⟨cd_138, List.forall_mem_cons.mpr ⟨cd_139, List.forall_mem_cons.mpr ⟨cd_140, List.forall_mem_cons.mpr ⟨cd_141, List.forall_mem_cons.mpr ⟨cd_142, List.forall_mem_cons.mpr ⟨cd_143, fun _ h => absurd h List.not_mem_nil⟩⟩⟩⟩⟩⟩⟩⟩⟩⟩⟩⟩⟩⟩⟩⟩⟩⟩⟩⟩⟩⟩⟩⟩
theorem cdc_6 : ∀ k ∈ [144, 145, 146, 147, 148, 149, 150, 151, 152, 153, 154, 155, 156, 157, 158, 159, 160, 161, 162, 163, 164, 165, 166, 167], wCd k ∈ gAll := List.forall_mem_cons.mpr ⟨cd_144, List.forall_mem_cons.mpr ⟨cd_145, List.forall_mem_cons.mpr ⟨cd_146, List.forall_mem_cons.mpr ⟨cd_147, List.forall_mem_cons.mpr ⟨cd_148, List.forall_mem_cons.mpr ⟨cd_149, List.forall_mem_cons.mpr ⟨cd_150, List.forall_mem_cons.mpr ⟨cd_151, List.forall_mem_cons.mpr ⟨cd_152, List.forall_mem_cons.mpr ⟨cd_153, List.forall_mem_cons.mpr ⟨cd_154, List.forall_mem_cons.mpr ⟨cd_155, List.forall_mem_cons.mpr ⟨cd_156, List.forall_mem_cons.mpr ⟨cd_157, List.forall_mem_cons.mpr ⟨cd_158, List.forall_mem_cons.mpr ⟨cd_159, List.forall_mem_cons.mpr ⟨cd_160, List.forall_mem_cons.mpr ⟨cd_161, List.forall_mem_cons.mpr ⟨cd_162, List.forall_mem_cons.mpr ⟨cd_163, List.forall_mem_cons.mpr ⟨cd_164, List.forall_mem_cons.mpr ⟨cd_165, List.forall_mem_cons.mpr ⟨cd_166, List.forall_mem_cons.mpr ⟨cd_167, fun _ h => absurd h List.not_mem_nil⟩⟩⟩⟩⟩⟩⟩⟩⟩⟩⟩⟩⟩⟩⟩⟩⟩⟩⟩⟩⟩⟩⟩⟩
theorem cdc_7 : ∀ k ∈ [168, 169, 170, 171, 172, 173, 174, 175, 176, 177, 178, 179, 180, 181, 182, 183, 184, 185, 186, 187, 188, 189, 190, 191], wCd k ∈ gAll := List.forall_mem_cons.mpr ⟨cd_168, List.forall_mem_cons.mpr ⟨cd_169, List.forall_mem_cons.mpr ⟨cd_170, List.forall_mem_cons.mpr ⟨cd_171, List.forall_mem_cons.mpr ⟨cd_172, List.forall_mem_cons.mpr ⟨cd_173, List.forall_mem_cons.mpr ⟨cd_174, List.forall_mem_cons.mpr ⟨cd_175, List.forall_mem_cons.mpr ⟨cd_176, List.forall_mem_cons.mpr ⟨cd_177, List.forall_mem_cons.mpr ⟨cd_178, List.forall_mem_cons.mpr ⟨cd_179, List.forall_mem_cons.mpr ⟨cd_180, List.forall_mem_cons.mpr ⟨cd_181, List.forall_mem_cons.mpr ⟨cd_182, List.forall_mem_cons.mpr ⟨cd_183, List.forall_mem_cons.mpr ⟨cd_184, List.forall_mem_cons.mpr ⟨cd_185, List.forall_mem_cons.mpr ⟨cd_186, List.forall_mem_cons.mpr ⟨cd_187, List.forall_mem_cons.mpr ⟨cd_188, List.forall_mem_cons.mpr ⟨cd_189, List.forall_mem_cons.mpr ⟨cd_190, List.forall_mem_cons.mpr ⟨cd_191, fun _ h => absurd h List.not_mem_nil⟩⟩⟩⟩⟩⟩⟩⟩⟩⟩⟩⟩⟩⟩⟩⟩⟩⟩⟩⟩⟩⟩⟩⟩
theorem cdc_8 : ∀ k ∈ [192, 193, 194, 195, 196, 197, 198, 199, 200, 201, 202, 203, 204, 205, 206, 207, 208, 209, 210, 211, 212, 213, 214, 215], wCd k ∈ gAll := List.forall_mem_cons.mpr ⟨cd_192, List.forall_mem_cons.mpr ⟨cd_193, List.forall_mem_cons.mpr ⟨cd_194, List.forall_mem_cons.mpr ⟨cd_195, List.forall_mem_cons.mpr ⟨cd_196, List.forall_mem_cons.mpr ⟨cd_197, List.forall_mem_cons.mpr ⟨cd_198, List.forall_mem_cons.mpr ⟨cd_199, List.forall_mem_cons.mpr ⟨cd_200, List.forall_mem_cons.mpr ⟨cd_201, List.forall_mem_cons.mpr ⟨cd_202, List.forall_mem_cons.mpr ⟨cd_203, List.forall_mem_cons.mpr ⟨cd_204, List.forall_mem_cons.mpr ⟨cd_205, List.forall_mem_cons.mpr ⟨cd_206, List.forall_mem_cons.mpr ⟨cd_207, List.forall_mem_cons.mpr ⟨cd_208, List.forall_mem_cons.mpr ⟨cd_209, List.forall_mem_cons.mpr ⟨cd_210, List.forall_mem_cons.mpr ⟨cd_211, List.forall_mem_cons.mpr ⟨cd_212, List.forall_mem_cons.mpr ⟨cd_213, List.forall_mem_cons.mpr ⟨cd_214, List.forall_mem_cons.mpr ⟨cd_215, fun _ h => absurd h List.not_mem_nil⟩⟩⟩⟩⟩⟩⟩⟩⟩⟩⟩⟩⟩⟩⟩⟩⟩⟩⟩⟩⟩⟩⟩⟩
theorem cdc_9 : ∀ k ∈ [216, 217, 218, 219, 220, 221, 222, 223, 224, 225, 226, 227, 228, 229, 230, 231, 232, 233, 234, 235, 236, 237, 238, 239], wCd k ∈ gAll := List.forall_mem_cons.mpr ⟨cd_216, List.forall_mem_cons.mpr ⟨cd_217, List.forall_mem_cons.mpr ⟨cd_218, List.forall_mem_cons.mpr ⟨cd_219, List.forall_mem_cons.mpr ⟨cd_220, List.forall_mem_cons.mpr ⟨cd_221, List.forall_mem_cons.mpr ⟨cd_222, List.forall_mem_cons.mpr ⟨cd_223, List.forall_mem_cons.mpr ⟨cd_224, List.forall_mem_cons.mpr ⟨cd_225, List.forall_mem_cons.mpr ⟨cd_226, List.forall_mem_cons.mpr ⟨cd_227, List.forall_mem_cons.mpr ⟨cd_228, List.forall_mem_cons.mpr ⟨cd_229, List.forall_mem_cons.mpr ⟨cd_230, List.forall_mem_cons.mpr ⟨cd_231, List.forall_mem_cons.mpr ⟨cd_232, List.forall_mem_cons.mpr ⟨cd_233, List.forall_mem_cons.mpr ⟨cd_234, List.forall_mem_cons.mpr ⟨cd_235, List.forall_mem_cons.mpr ⟨cd_236, List.forall_mem_cons.mpr ⟨cd_237, List.forall_mem_cons.mpr ⟨cd_238, List.forall_mem_cons.mpr ⟨cd_239, fun _ h => absurd h List.not_mem_nil⟩⟩⟩⟩⟩⟩⟩⟩⟩⟩⟩⟩⟩⟩⟩⟩⟩⟩⟩⟩⟩⟩⟩⟩
theorem cdc_10 : ∀ k ∈ [240, 241, 242, 243, 244, 245, 246, 247, 248, 249, 250, 251, 252, 253, 254, 255, 256, 257, 258, 259, 260, 261, 262, 263], wCd k ∈ gAll := List.forall_mem_cons.mpr ⟨cd_240, List.forall_mem_cons.mpr ⟨cd_241, List.forall_mem_cons.mpr ⟨cd_242, List.forall_mem_cons.mpr ⟨cd_243, List.forall_mem_cons.mpr ⟨cd_244, List.forall_mem_cons.mpr ⟨cd_245, List.forall_mem_cons.mpr ⟨cd_246, List.forall_mem_cons.mpr ⟨cd_247, List.forall_mem_cons.mpr ⟨cd_248, List.forall_mem_cons.mpr ⟨cd_249, List.forall_mem_cons.mpr ⟨cd_250, List.forall_mem_cons.mpr ⟨cd_251, List.forall_mem_cons.mpr ⟨cd_252, List.forall_mem_cons.mpr ⟨cd_253, List.forall_mem_cons.mpr ⟨cd_254, List.forall_mem_cons.mpr ⟨cd_255, List.forall_mem_cons.mpr ⟨cd_256, List.forall_mem_cons.mpr ⟨cd_257, List.forall_mem_cons.mpr ⟨cd_258, List.forall_mem_cons.mpr ⟨cd_259, List.forall_mem_cons.mpr ⟨cd_260, List.forall_mem_cons.mpr ⟨cd_261, List.forall_mem_cons.mpr ⟨cd_262, List.forall_mem_cons.mpr ⟨cd_263, fun _ h => absurd h List.not_mem_nil⟩⟩⟩⟩⟩⟩⟩⟩⟩⟩⟩⟩⟩⟩⟩⟩⟩⟩⟩⟩⟩⟩⟩⟩
theorem cdc_11 : ∀ k ∈ [264, 265, 266, 267, 268, 269, 270, 275, 276, 277, 283], wCd k ∈ gAll := List.forall_mem_cons.mpr ⟨cd_264, List.forall_mem_cons.mpr ⟨cd_265, List.forall_mem_cons.mpr ⟨cd_266, List.forall_mem_cons.mpr ⟨cd_267, List.forall_mem_cons.mpr ⟨cd_268, List.forall_mem_cons.mpr ⟨cd_269, List.forall_mem_cons.mpr ⟨cd_270, List.forall_mem_cons.mpr ⟨cd_275, List.forall_mem_cons.mpr ⟨cd_276, List.forall_mem_cons.mpr ⟨cd_277, List.forall_mem_cons.mpr ⟨cd_283, fun _ h => absurd h List.not_mem_nil⟩⟩⟩⟩⟩⟩⟩⟩⟩⟩⟩
set_option maxRecDepth 100000 in
theorem gCd_w : ∀ k ∈ gPl, wCd k ∈ gAll := by
  intro k hk
  have h2 : ∀ k ∈ gPl, k ∈ [0, 1, 2, 3, 4, 5, 6, 7, 8, 9, 10, 11, 12, 13, 14, 15, 16, 17, 18, 19, 20, 21, 22, 23] ++ ([24, 25, 26, 27, 28, 29, 30, 31, 32, 33, 34, 35, 36, 37, 38, 39, 40, 41, 42, 43, 44, 45, 46, 47] ++ ([48, 49, 50, 51, 52, 53, 54, 55, 56, 57, 58, 59, 60, 61, 62, 63, 64, 65, 66, 67, 68, 69, 70, 71] ++ ([72, 73, 74, 75, 76, 77, 78, 79, 80, 81, 82, 83, 84, 85, 86, 87, 88, 89, 90, 91, 92, 93, 94, 95] ++ ([96, 97, 98, 99, 100, 101, 102, 103, 104, 105, 106, 107, 108, 109, 110, 111, 112, 113, 114, 115, 116, 117, 118, 119] ++ ([120, 121, 122, 123, 124, 125, 126, 127, 128, 129, 130, 131, 132, 133, 134, 135, 136, 137, 138, 139, 140, 141, 142, 143] ++ ([144, 145, 146, 147, 148, 149, 150, 151, 152, 153, 154, 155, 156, 157, 158, 159, 160, 161, 162, 163, 164, 165, 166, 167] ++ ([168, 169, 170, 171, 172, 173, 174, 175, 176, 177, 178, 179, 180, 181, 182, 183, 184, 185, 186, 187, 188, 189, 190, 191] ++ ([192, 193, 194, 195, 196, 197, 198, 199, 200, 201, 202, 203, 204, 205, 206, 207, 208, 209, 210, 211, 212, 213, 214, 215] ++ ([216, 217, 218, 219, 220, 221, 222, 223, 224, 225, 226, 227, 228, 229, 230, 231, 232, 233, 234, 235, 236, 237, 238, 239] ++ ([240, 241, 242, 243, 244, 245, 246, 247, 248, 249, 250, 251, 252, 253, 254, 255, 256, 257, 258, 259, 260, 261, 262, 263] ++ ([264, 265, 266, 267, 268, 269, 270, 275, 276, 277, 283]))))))))))) := by decide +kernel
  have h := h2 k hk
  simp only [List.mem_append] at h
  rcases h with h | h | h | h | h | h | h | h | h | h | h | h
  · exact cdc_0 k h
  · exact cdc_1 k h
  · exact cdc_2 k h
  · exact cdc_3 k h
  · exact cdc_4 k h
  · exact cdc_5 k h
  · exact cdc_6 k h
  · exact cdc_7 k h
  · exact cdc_8 k h
  · exact cdc_9 k h
  · exact cdc_10 k h
  · exact cdc_11 k h
def wMi (k : Nat) : Cond := .initialized (gC (gOwn k))
set_option maxRecDepth 1000000 in
theorem gMi_w : ∀ k ∈ gPl, wMi k ∈ gAll := pos_ok (ps := [6, 6, 6, 6, 6, 6, 6, 6, 6, 6, 6, 6, 6, 10, 10, 10, 10, 10, 10, 10, 10, 10, 10, 10, 9, 9, 9, 9, 9, 9, 9, 9, 9, 8, 8, 8, 8, 8, 8, 8, 8, 8, 8, 8, 8, 8, 8, 8, 11, 11, 11, 11, 11, 11, 5, 5, 5, 5, 5, 5, 5, 5, 5, 5, 5, 3, 3, 3, 3, 3, 3, 3, 3, 3, 3, 3, 3, 3, 3, 3, 3, 3, 3, 3, 3, 3, 3, 2, 2, 2, 2, 2, 2, 2, 4, 4, 4, 4, 4, 4, 4, 4, 4, 4, 4, 4, 4, 4, 4, 4, 4, 4, 12, 12, 12, 12, 12, 12, 12, 12, 12, 12, 12, 13, 13, 13, 13, 13, 13, 13, 13, 13, 13, 13, 13, 13, 13, 1, 1, 1, 1, 1, 1, 1, 1, 1, 1, 1, 1, 1, 1, 1, 1, 1, 1, 1, 1, 1, 1, 1, 1, 1, 1, 1, 1, 1, 1, 1, 1, 1, 1, 1, 1, 1, 1, 1, 1, 1, 1, 14, 14, 14, 14, 14, 14, 14, 14, 14, 14, 14, 14, 14, 14, 14, 14, 14, 14, 14, 14, 14, 14, 14, 14, 14, 14, 14, 14, 14, 14, 14, 14, 14, 14, 14, 14, 14, 14, 14, 14, 14, 14, 14, 14, 14, 14, 14, 14, 14, 14, 14, 14, 14, 14, 14, 14, 14, 14, 14, 14, 14, 14, 14, 14, 14, 14, 14, 14, 14, 14, 14, 14, 14, 14, 14, 14, 14, 14, 14, 14, 14, 14, 14, 14, 14, 14, 14, 14, 14, 14, 14, 14, 20, 21, 19, 1]) rfl (by decide +kernel)
def gPi : List Nat := gPl.filter (fun k => gSt k != 1)
def gPs : List Nat := gPl.filter (fun k => gSt k == 1)
def gPv : List Nat := gPl.filter (fun k => gSt k == 0)
def wIm (k : Nat) : Cond := .instanceMethod (gY k)
set_option maxRecDepth 1000000 in
theorem gIm_w : ∀ k ∈ gPi, wIm k ∈ gAll := pos_ok (ps := [120, 535, 568, 563, 560, 555, 613, 634, 602, 638, 606, 621, 579, 232, 865, 875, 880, 885, 889, 893, 897, 908, 904, 210, 815, 820, 824, 831, 838, 842, 852, 188, 721, 731, 756, 739, 744, 749, 753, 764, 772, 777, 784, 789, 802, 807, 238, 869, 911, 916, 1187, 1191, 92, 444, 644, 519, 476, 456, 451, 466, 41, 514, 138, 131, 126, 510, 617, 625, 631, 597, 588, 592, 706, 698, 1169, 1164, 1176, 1080, 1202, 34, 672, 505, 664, 660, 497, 523, 86, 440, 648, 481, 485, 473, 502, 528, 532, 540, 544, 552, 548, 572, 576, 610, 304, 938, 944, 961, 965, 980, 968, 957, 952, 973, 329, 993, 998, 1043, 1002, 1018, 1022, 1026, 1033, 1011, 1054, 26, 420, 425, 428, 437, 432, 652, 656, 1091, 668, 678, 1159, 688, 692, 683, 702, 718, 713, 735, 760, 768, 780, 798, 810, 848, 856, 861, 1183, 921, 926, 935, 976, 984, 989, 1039, 1050, 1058, 1063, 1067, 1071, 1076, 1198, 1208, 1391, 1535, 1395, 1400, 1403, 1412, 1666, 1460, 1495, 1491, 1511, 1503, 1420, 1416, 1440, 1435, 1472, 1468, 1487, 1444, 1452, 1430, 1456, 1464, 1480, 1476, 1499, 1407, 1522, 1531, 1539, 1543, 1526, 1546, 1551, 1555, 1515, 1519, 1571, 1566, 1574, 1583, 1578, 1591, 1586, 1594, 1598, 1602, 1609, 1613, 1618, 1622, 1626, 1629, 1638, 1633, 1642, 1654, 1646, 1650, 1657, 1685, 1678, 1670, 1674, 1661, 1693, 1688, 1696, 1705, 1709, 1713, 1717, 1700, 1720, 1725, 1728, 1732, 1737, 1741, 1746, 1750, 1754, 930]) rfl (by decide +kernel)
def wSm (k : Nat) : Cond := .static (gY k)
set_option maxRecDepth 1000000 in
theorem gSm_w : ∀ k ∈ gPs, wSm k ∈ gAll := pos_ok (ps := [900, 834, 459, 462, 469, 583, 1172, 845, 489, 492, 948, 1047, 1029, 1007, 1483, 1563, 1507, 1423, 1426, 1560, 1606, 1681, 726, 792, 710]) rfl (by decide +kernel)
def wSe (k : Nat) : Cond := .selects (gC (gOwn k)) (gY k) (gY k)
theorem posL_ok {α : Type} {l : List α} {ps : List Nat} {f : α → Cond} (hl : l.length = ps.length) (h : ∀ q ∈ l.zip ps, lw_tbl[q.2]? = some (f q.1) ∧ goodWord (f q.1) = true) : ∀ x ∈ l, f x ∈ gAll := fun x hx => by
  obtain ⟨y, hy⟩ := zip_mem hl hx
  exact List.mem_filter.mpr ⟨List.mem_of_getElem? (h _ hy).1, (h _ hy).2⟩
set_option maxRecDepth 1000000 in
theorem gSe_w : ∀ k ∈ gPv, wSe k ∈ gAll := posL_ok (ps := [650, 17, 678, 16, 670, 728, 749, 20, 753, 21, 736, 694, 980, 39, 40, 41, 42, 43, 44, 46, 45, 930, 33, 34, 35, 36, 37, 967, 836, 846, 871, 854, 27, 28, 29, 879, 887, 30, 899, 31, 917, 32, 984, 1026, 1031, 1302, 1306, 559, 759, 634, 591, 4, 566, 5, 629, 1, 0, 241, 625, 732, 740, 23, 712, 703, 707, 821, 813, 63, 1279, 1291, 1195, 1317, 787, 620, 779, 775, 612, 638, 555, 763, 7, 8, 6, 9, 10, 11, 12, 13, 15, 14, 18, 19, 22, 1053, 1059, 51, 52, 1095, 1083, 50, 1067, 53, 1108, 54, 1158, 55, 57, 58, 59, 60, 56, 1169, 535, 2, 543, 3, 547, 767, 771, 1206, 783, 793, 1274, 24, 25, 798, 817, 26, 828, 850, 875, 883, 895, 913, 925, 963, 971, 38, 1298, 1036, 47, 49, 1091, 1099, 1104, 1154, 1165, 1173, 61, 1182, 1186, 1191, 1313, 1506, 89, 1510, 64, 1518, 65, 103, 74, 82, 81, 85, 84, 67, 66, 70, 69, 77, 76, 80, 71, 72, 68, 73, 75, 79, 78, 83, 1522, 1637, 88, 90, 91, 1641, 1661, 1666, 1670, 86, 87, 92, 1681, 1689, 93, 1693, 94, 1701, 1709, 1713, 1717, 1724, 1728, 95, 96, 97, 1744, 98, 1748, 99, 102, 100, 101, 1772, 107, 106, 104, 105, 1776, 108, 1803, 1811, 109, 110, 111, 112, 1815, 1835, 113, 1843, 1847, 1852, 1856, 1861, 1865, 1869, 48]) rfl (by decide +kernel)
