theorem iW_m : Cond.initialized "java/lang/Math" ∈ gAll := gAll_t (List.mem_of_getElem? (i := 7) (by decide +kernel)) rfl
theorem sW_max : Cond.static Lib.Math.max.name ∈ gAll := gAll_t (List.mem_of_getElem? (i := 134) (by decide +kernel)) rfl
set_option maxRecDepth 100000 in
theorem cW_max : Cond.code Lib.Math.max.name Lib.Math.max.code 2 (some .int) ∈ gAll := gAll_t (List.mem_of_getElem? (i := 135) (by decide +kernel)) rfl
theorem sW_min : Cond.static Lib.Math.min.name ∈ gAll := gAll_t (List.mem_of_getElem? (i := 448) (by decide +kernel)) rfl
set_option maxRecDepth 100000 in
theorem cW_min : Cond.code Lib.Math.min.name Lib.Math.min.code 2 (some .int) ∈ gAll := gAll_t (List.mem_of_getElem? (i := 449) (by decide +kernel)) rfl
theorem sW_abs : Cond.static Lib.MathLoose.abs_long.x ∈ gAll := gAll_t (List.mem_of_getElem? (i := 1084) (by decide +kernel)) rfl
set_option maxRecDepth 100000 in
theorem cW_abs : Cond.code Lib.MathLoose.abs_long.x Lib.MathLoose.abs_long.code 2 (some .long) ∈ gAll := gAll_t (List.mem_of_getElem? (i := 1085) (by decide +kernel)) rfl
theorem iW_s : Cond.initialized "java/lang/System" ∈ gAll := gAll_t (List.mem_of_getElem? (i := 22) (by decide +kernel)) rfl
theorem nW_s : Cond.native arraycopyName ∈ gAll := gAll_t (List.mem_of_getElem? (i := 1037) (by decide +kernel)) rfl
theorem sW_s : Cond.static arraycopyName ∈ gAll := gAll_t (List.mem_of_getElem? (i := 1036) (by decide +kernel)) rfl
theorem lW_s : Cond.methodLink "DiceRing$WordSearch" 81 arraycopyName ∈ gAll := gAll_t (List.mem_of_getElem? (i := 1035) (by decide +kernel)) rfl
theorem oW_i : Cond.instanceMethod Lib.objectInit ∈ gAll := gAll_t (List.mem_of_getElem? (i := 29) (by decide +kernel)) rfl
theorem oW_c : Cond.code Lib.objectInit ⟨#[0xb1]⟩ 1 none ∈ gAll := gAll_t (List.mem_of_getElem? (i := 30) (by decide +kernel)) rfl
