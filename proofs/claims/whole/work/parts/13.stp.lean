theorem i32_mod (x y : Int32) : x % y = x - x / y * y := by
  apply Int32.toInt_inj.mp
  rw [Int32.toInt_sub, Int32.toInt_mul, Int32.toInt_div, Int32.toInt_mod]
  have h1 : (x.toInt.tmod y.toInt).bmod (2 ^ 32) = x.toInt.tmod y.toInt := by
    rw [← Int32.toInt_mod]
    exact Int32.toInt_bmod _
  rw [← h1, Int.tmod_def]
  simp [Int.mul_comm]
theorem i64_mod (x y : Int64) : x % y = x - x / y * y := by
  apply Int64.toInt_inj.mp
  rw [Int64.toInt_sub, Int64.toInt_mul, Int64.toInt_div, Int64.toInt_mod]
  have h1 : (x.toInt.tmod y.toInt).bmod (2 ^ 64) = x.toInt.tmod y.toInt := by
    rw [← Int64.toInt_mod]
    exact Int64.toInt_bmod _
  rw [← h1, Int.tmod_def]
  simp [Int.mul_comm]
section STP
variable {p : Program} {l : Launch} {e : Env} {R : Room} {s : State} {m : MethodId} {args : Array Value} {below : List Frame} {meth : Method} {c : Code} {Q : State → Prop}
variable {D : va_G} {cy : Nat → ClassId} {A : Nat → Prop} {k : Nat} {ad : Nat → Nat} {h h' : Hp} {H : Heap} {locs : List Loc} {cells slots : Nat} {lsr : Array Slot} {ls ls' : List (Option Value)} {st st' : List Value} {i i' pc len : Nat} {o : Instr}

set_option maxRecDepth 100000 in
set_option maxHeartbeats 4000000 in
theorem s_iadd (hC : Cx D cy k p s m args meth c) (hk : k < gNM) (hR : Rl D cy ad h A s H locs) (hl : lv_has lsr ls.length (lzL ad ls)) (ht : (gTab k)[i]? = some (pc, .iadd, len)) (hdg : decode (gB k) pc = .ok (.iadd, len)) (hln : ilen (.iadd) = len ∨ ilen (.iadd) = 0) (hx : ex1 i (.iadd) ls st h = some (i', ls', st', h')) (hi : i' < (gTab k).length) (kk : KK p l e R s m args below meth c Q D cy A k ad h cells slots i' ls' st' h') : W p l e R s m args below meth c H locs cells slots Q (F0 m pc lsr (st.map (rV ad))) := by
  obtain ⟨hx0, hb, hml, hown, hts, hK, hini⟩ := hC
  dsimp only [ex1, xI2] at hx
  split at hx
  · rename_i y x r
    cases hx
    obtain rfl : len = 1 := len_of (N := 1) hln (by decide)
    refine lv_iadd hx0 hb hdg ?_
    exact nxt hk ht hi hR kk hl
  · cases hx

set_option maxRecDepth 100000 in
set_option maxHeartbeats 4000000 in
theorem s_isub (hC : Cx D cy k p s m args meth c) (hk : k < gNM) (hR : Rl D cy ad h A s H locs) (hl : lv_has lsr ls.length (lzL ad ls)) (ht : (gTab k)[i]? = some (pc, .isub, len)) (hdg : decode (gB k) pc = .ok (.isub, len)) (hln : ilen (.isub) = len ∨ ilen (.isub) = 0) (hx : ex1 i (.isub) ls st h = some (i', ls', st', h')) (hi : i' < (gTab k).length) (kk : KK p l e R s m args below meth c Q D cy A k ad h cells slots i' ls' st' h') : W p l e R s m args below meth c H locs cells slots Q (F0 m pc lsr (st.map (rV ad))) := by
  obtain ⟨hx0, hb, hml, hown, hts, hK, hini⟩ := hC
  dsimp only [ex1, xI2] at hx
  split at hx
  · rename_i y x r
    cases hx
    obtain rfl : len = 1 := len_of (N := 1) hln (by decide)
    refine lv_isub hx0 hb hdg ?_
    exact nxt hk ht hi hR kk hl
  · cases hx

set_option maxRecDepth 100000 in
set_option maxHeartbeats 4000000 in
theorem s_imul (hC : Cx D cy k p s m args meth c) (hk : k < gNM) (hR : Rl D cy ad h A s H locs) (hl : lv_has lsr ls.length (lzL ad ls)) (ht : (gTab k)[i]? = some (pc, .imul, len)) (hdg : decode (gB k) pc = .ok (.imul, len)) (hln : ilen (.imul) = len ∨ ilen (.imul) = 0) (hx : ex1 i (.imul) ls st h = some (i', ls', st', h')) (hi : i' < (gTab k).length) (kk : KK p l e R s m args below meth c Q D cy A k ad h cells slots i' ls' st' h') : W p l e R s m args below meth c H locs cells slots Q (F0 m pc lsr (st.map (rV ad))) := by
  obtain ⟨hx0, hb, hml, hown, hts, hK, hini⟩ := hC
  dsimp only [ex1, xI2] at hx
  split at hx
  · rename_i y x r
    cases hx
    obtain rfl : len = 1 := len_of (N := 1) hln (by decide)
    refine lv_imul hx0 hb hdg ?_
    exact nxt hk ht hi hR kk hl
  · cases hx

set_option maxRecDepth 100000 in
set_option maxHeartbeats 4000000 in
theorem s_iand (hC : Cx D cy k p s m args meth c) (hk : k < gNM) (hR : Rl D cy ad h A s H locs) (hl : lv_has lsr ls.length (lzL ad ls)) (ht : (gTab k)[i]? = some (pc, .iand, len)) (hdg : decode (gB k) pc = .ok (.iand, len)) (hln : ilen (.iand) = len ∨ ilen (.iand) = 0) (hx : ex1 i (.iand) ls st h = some (i', ls', st', h')) (hi : i' < (gTab k).length) (kk : KK p l e R s m args below meth c Q D cy A k ad h cells slots i' ls' st' h') : W p l e R s m args below meth c H locs cells slots Q (F0 m pc lsr (st.map (rV ad))) := by
  obtain ⟨hx0, hb, hml, hown, hts, hK, hini⟩ := hC
  dsimp only [ex1, xI2] at hx
  split at hx
  · rename_i y x r
    cases hx
    obtain rfl : len = 1 := len_of (N := 1) hln (by decide)
    refine lv_iand hx0 hb hdg ?_
    exact nxt hk ht hi hR kk hl
  · cases hx

set_option maxRecDepth 100000 in
set_option maxHeartbeats 4000000 in
theorem s_ior (hC : Cx D cy k p s m args meth c) (hk : k < gNM) (hR : Rl D cy ad h A s H locs) (hl : lv_has lsr ls.length (lzL ad ls)) (ht : (gTab k)[i]? = some (pc, .ior, len)) (hdg : decode (gB k) pc = .ok (.ior, len)) (hln : ilen (.ior) = len ∨ ilen (.ior) = 0) (hx : ex1 i (.ior) ls st h = some (i', ls', st', h')) (hi : i' < (gTab k).length) (kk : KK p l e R s m args below meth c Q D cy A k ad h cells slots i' ls' st' h') : W p l e R s m args below meth c H locs cells slots Q (F0 m pc lsr (st.map (rV ad))) := by
  obtain ⟨hx0, hb, hml, hown, hts, hK, hini⟩ := hC
  dsimp only [ex1, xI2] at hx
  split at hx
  · rename_i y x r
    cases hx
    obtain rfl : len = 1 := len_of (N := 1) hln (by decide)
    refine lv_ior hx0 hb hdg ?_
    exact nxt hk ht hi hR kk hl
  · cases hx

set_option maxRecDepth 100000 in
set_option maxHeartbeats 4000000 in
theorem s_ixor (hC : Cx D cy k p s m args meth c) (hk : k < gNM) (hR : Rl D cy ad h A s H locs) (hl : lv_has lsr ls.length (lzL ad ls)) (ht : (gTab k)[i]? = some (pc, .ixor, len)) (hdg : decode (gB k) pc = .ok (.ixor, len)) (hln : ilen (.ixor) = len ∨ ilen (.ixor) = 0) (hx : ex1 i (.ixor) ls st h = some (i', ls', st', h')) (hi : i' < (gTab k).length) (kk : KK p l e R s m args below meth c Q D cy A k ad h cells slots i' ls' st' h') : W p l e R s m args below meth c H locs cells slots Q (F0 m pc lsr (st.map (rV ad))) := by
  obtain ⟨hx0, hb, hml, hown, hts, hK, hini⟩ := hC
  dsimp only [ex1, xI2] at hx
  split at hx
  · rename_i y x r
    cases hx
    obtain rfl : len = 1 := len_of (N := 1) hln (by decide)
    refine lv_ixor hx0 hb hdg ?_
    exact nxt hk ht hi hR kk hl
  · cases hx

set_option maxRecDepth 100000 in
set_option maxHeartbeats 4000000 in
theorem s_ishl (hC : Cx D cy k p s m args meth c) (hk : k < gNM) (hR : Rl D cy ad h A s H locs) (hl : lv_has lsr ls.length (lzL ad ls)) (ht : (gTab k)[i]? = some (pc, .ishl, len)) (hdg : decode (gB k) pc = .ok (.ishl, len)) (hln : ilen (.ishl) = len ∨ ilen (.ishl) = 0) (hx : ex1 i (.ishl) ls st h = some (i', ls', st', h')) (hi : i' < (gTab k).length) (kk : KK p l e R s m args below meth c Q D cy A k ad h cells slots i' ls' st' h') : W p l e R s m args below meth c H locs cells slots Q (F0 m pc lsr (st.map (rV ad))) := by
  obtain ⟨hx0, hb, hml, hown, hts, hK, hini⟩ := hC
  dsimp only [ex1, xI2] at hx
  split at hx
  · rename_i y x r
    cases hx
    obtain rfl : len = 1 := len_of (N := 1) hln (by decide)
    refine lv_ishl hx0 hb hdg ?_
    exact nxt hk ht hi hR kk hl
  · cases hx

set_option maxRecDepth 100000 in
set_option maxHeartbeats 4000000 in
theorem s_ishr (hC : Cx D cy k p s m args meth c) (hk : k < gNM) (hR : Rl D cy ad h A s H locs) (hl : lv_has lsr ls.length (lzL ad ls)) (ht : (gTab k)[i]? = some (pc, .ishr, len)) (hdg : decode (gB k) pc = .ok (.ishr, len)) (hln : ilen (.ishr) = len ∨ ilen (.ishr) = 0) (hx : ex1 i (.ishr) ls st h = some (i', ls', st', h')) (hi : i' < (gTab k).length) (kk : KK p l e R s m args below meth c Q D cy A k ad h cells slots i' ls' st' h') : W p l e R s m args below meth c H locs cells slots Q (F0 m pc lsr (st.map (rV ad))) := by
  obtain ⟨hx0, hb, hml, hown, hts, hK, hini⟩ := hC
  dsimp only [ex1, xI2] at hx
  split at hx
  · rename_i y x r
    cases hx
    obtain rfl : len = 1 := len_of (N := 1) hln (by decide)
    refine lv_ishr hx0 hb hdg ?_
    exact nxt hk ht hi hR kk hl
  · cases hx

set_option maxRecDepth 100000 in
set_option maxHeartbeats 4000000 in
theorem s_iushr (hC : Cx D cy k p s m args meth c) (hk : k < gNM) (hR : Rl D cy ad h A s H locs) (hl : lv_has lsr ls.length (lzL ad ls)) (ht : (gTab k)[i]? = some (pc, .iushr, len)) (hdg : decode (gB k) pc = .ok (.iushr, len)) (hln : ilen (.iushr) = len ∨ ilen (.iushr) = 0) (hx : ex1 i (.iushr) ls st h = some (i', ls', st', h')) (hi : i' < (gTab k).length) (kk : KK p l e R s m args below meth c Q D cy A k ad h cells slots i' ls' st' h') : W p l e R s m args below meth c H locs cells slots Q (F0 m pc lsr (st.map (rV ad))) := by
  obtain ⟨hx0, hb, hml, hown, hts, hK, hini⟩ := hC
  dsimp only [ex1, xI2] at hx
  split at hx
  · rename_i y x r
    cases hx
    obtain rfl : len = 1 := len_of (N := 1) hln (by decide)
    refine lv_iushr hx0 hb hdg rfl ?_
    exact nxt hk ht hi hR kk hl
  · cases hx

set_option maxRecDepth 100000 in
set_option maxHeartbeats 4000000 in
theorem s_ladd (hC : Cx D cy k p s m args meth c) (hk : k < gNM) (hR : Rl D cy ad h A s H locs) (hl : lv_has lsr ls.length (lzL ad ls)) (ht : (gTab k)[i]? = some (pc, .ladd, len)) (hdg : decode (gB k) pc = .ok (.ladd, len)) (hln : ilen (.ladd) = len ∨ ilen (.ladd) = 0) (hx : ex1 i (.ladd) ls st h = some (i', ls', st', h')) (hi : i' < (gTab k).length) (kk : KK p l e R s m args below meth c Q D cy A k ad h cells slots i' ls' st' h') : W p l e R s m args below meth c H locs cells slots Q (F0 m pc lsr (st.map (rV ad))) := by
  obtain ⟨hx0, hb, hml, hown, hts, hK, hini⟩ := hC
  dsimp only [ex1, xL2] at hx
  split at hx
  · rename_i y x r
    cases hx
    obtain rfl : len = 1 := len_of (N := 1) hln (by decide)
    refine lv_ladd hx0 hb hdg ?_
    exact nxt hk ht hi hR kk hl
  · cases hx

set_option maxRecDepth 100000 in
set_option maxHeartbeats 4000000 in
theorem s_lsub (hC : Cx D cy k p s m args meth c) (hk : k < gNM) (hR : Rl D cy ad h A s H locs) (hl : lv_has lsr ls.length (lzL ad ls)) (ht : (gTab k)[i]? = some (pc, .lsub, len)) (hdg : decode (gB k) pc = .ok (.lsub, len)) (hln : ilen (.lsub) = len ∨ ilen (.lsub) = 0) (hx : ex1 i (.lsub) ls st h = some (i', ls', st', h')) (hi : i' < (gTab k).length) (kk : KK p l e R s m args below meth c Q D cy A k ad h cells slots i' ls' st' h') : W p l e R s m args below meth c H locs cells slots Q (F0 m pc lsr (st.map (rV ad))) := by
  obtain ⟨hx0, hb, hml, hown, hts, hK, hini⟩ := hC
  dsimp only [ex1, xL2] at hx
  split at hx
  · rename_i y x r
    cases hx
    obtain rfl : len = 1 := len_of (N := 1) hln (by decide)
    refine lv_lsub hx0 hb hdg ?_
    exact nxt hk ht hi hR kk hl
  · cases hx

set_option maxRecDepth 100000 in
set_option maxHeartbeats 4000000 in
theorem s_lmul (hC : Cx D cy k p s m args meth c) (hk : k < gNM) (hR : Rl D cy ad h A s H locs) (hl : lv_has lsr ls.length (lzL ad ls)) (ht : (gTab k)[i]? = some (pc, .lmul, len)) (hdg : decode (gB k) pc = .ok (.lmul, len)) (hln : ilen (.lmul) = len ∨ ilen (.lmul) = 0) (hx : ex1 i (.lmul) ls st h = some (i', ls', st', h')) (hi : i' < (gTab k).length) (kk : KK p l e R s m args below meth c Q D cy A k ad h cells slots i' ls' st' h') : W p l e R s m args below meth c H locs cells slots Q (F0 m pc lsr (st.map (rV ad))) := by
  obtain ⟨hx0, hb, hml, hown, hts, hK, hini⟩ := hC
  dsimp only [ex1, xL2] at hx
  split at hx
  · rename_i y x r
    cases hx
    obtain rfl : len = 1 := len_of (N := 1) hln (by decide)
    refine lv_lmul hx0 hb hdg ?_
    exact nxt hk ht hi hR kk hl
  · cases hx

set_option maxRecDepth 100000 in
set_option maxHeartbeats 4000000 in
theorem s_lor (hC : Cx D cy k p s m args meth c) (hk : k < gNM) (hR : Rl D cy ad h A s H locs) (hl : lv_has lsr ls.length (lzL ad ls)) (ht : (gTab k)[i]? = some (pc, .lor, len)) (hdg : decode (gB k) pc = .ok (.lor, len)) (hln : ilen (.lor) = len ∨ ilen (.lor) = 0) (hx : ex1 i (.lor) ls st h = some (i', ls', st', h')) (hi : i' < (gTab k).length) (kk : KK p l e R s m args below meth c Q D cy A k ad h cells slots i' ls' st' h') : W p l e R s m args below meth c H locs cells slots Q (F0 m pc lsr (st.map (rV ad))) := by
  obtain ⟨hx0, hb, hml, hown, hts, hK, hini⟩ := hC
  dsimp only [ex1, xL2] at hx
  split at hx
  · rename_i y x r
    cases hx
    obtain rfl : len = 1 := len_of (N := 1) hln (by decide)
    refine lv_lor hx0 hb hdg ?_
    exact nxt hk ht hi hR kk hl
  · cases hx

set_option maxRecDepth 100000 in
set_option maxHeartbeats 4000000 in
theorem s_lshl (hC : Cx D cy k p s m args meth c) (hk : k < gNM) (hR : Rl D cy ad h A s H locs) (hl : lv_has lsr ls.length (lzL ad ls)) (ht : (gTab k)[i]? = some (pc, .lshl, len)) (hdg : decode (gB k) pc = .ok (.lshl, len)) (hln : ilen (.lshl) = len ∨ ilen (.lshl) = 0) (hx : ex1 i (.lshl) ls st h = some (i', ls', st', h')) (hi : i' < (gTab k).length) (kk : KK p l e R s m args below meth c Q D cy A k ad h cells slots i' ls' st' h') : W p l e R s m args below meth c H locs cells slots Q (F0 m pc lsr (st.map (rV ad))) := by
  obtain ⟨hx0, hb, hml, hown, hts, hK, hini⟩ := hC
  dsimp only [ex1, xLsh] at hx
  split at hx
  · rename_i y x r
    cases hx
    obtain rfl : len = 1 := len_of (N := 1) hln (by decide)
    refine lv_lshl hx0 hb hdg rfl ?_
    exact nxt hk ht hi hR kk hl
  · cases hx

set_option maxRecDepth 100000 in
set_option maxHeartbeats 4000000 in
theorem s_lcmp (hC : Cx D cy k p s m args meth c) (hk : k < gNM) (hR : Rl D cy ad h A s H locs) (hl : lv_has lsr ls.length (lzL ad ls)) (ht : (gTab k)[i]? = some (pc, .lcmp, len)) (hdg : decode (gB k) pc = .ok (.lcmp, len)) (hln : ilen (.lcmp) = len ∨ ilen (.lcmp) = 0) (hx : ex1 i (.lcmp) ls st h = some (i', ls', st', h')) (hi : i' < (gTab k).length) (kk : KK p l e R s m args below meth c Q D cy A k ad h cells slots i' ls' st' h') : W p l e R s m args below meth c H locs cells slots Q (F0 m pc lsr (st.map (rV ad))) := by
  obtain ⟨hx0, hb, hml, hown, hts, hK, hini⟩ := hC
  dsimp only [ex1, xCmp] at hx
  split at hx
  · rename_i y x r
    cases hx
    obtain rfl : len = 1 := len_of (N := 1) hln (by decide)
    refine W.lcmp hx0 hb hdg ?_
    exact nxt hk ht hi hR kk hl
  · cases hx

set_option maxRecDepth 100000 in
set_option maxHeartbeats 4000000 in
theorem s_ineg (hC : Cx D cy k p s m args meth c) (hk : k < gNM) (hR : Rl D cy ad h A s H locs) (hl : lv_has lsr ls.length (lzL ad ls)) (ht : (gTab k)[i]? = some (pc, .ineg, len)) (hdg : decode (gB k) pc = .ok (.ineg, len)) (hln : ilen (.ineg) = len ∨ ilen (.ineg) = 0) (hx : ex1 i (.ineg) ls st h = some (i', ls', st', h')) (hi : i' < (gTab k).length) (kk : KK p l e R s m args below meth c Q D cy A k ad h cells slots i' ls' st' h') : W p l e R s m args below meth c H locs cells slots Q (F0 m pc lsr (st.map (rV ad))) := by
  obtain ⟨hx0, hb, hml, hown, hts, hK, hini⟩ := hC
  dsimp only [ex1, xI1] at hx
  split at hx
  · rename_i x r
    cases hx
    obtain rfl : len = 1 := len_of (N := 1) hln (by decide)
    refine lv_ineg hx0 hb hdg ?_
    exact nxt hk ht hi hR kk hl
  · cases hx

set_option maxRecDepth 100000 in
set_option maxHeartbeats 4000000 in
theorem s_i2l (hC : Cx D cy k p s m args meth c) (hk : k < gNM) (hR : Rl D cy ad h A s H locs) (hl : lv_has lsr ls.length (lzL ad ls)) (ht : (gTab k)[i]? = some (pc, .i2l, len)) (hdg : decode (gB k) pc = .ok (.i2l, len)) (hln : ilen (.i2l) = len ∨ ilen (.i2l) = 0) (hx : ex1 i (.i2l) ls st h = some (i', ls', st', h')) (hi : i' < (gTab k).length) (kk : KK p l e R s m args below meth c Q D cy A k ad h cells slots i' ls' st' h') : W p l e R s m args below meth c H locs cells slots Q (F0 m pc lsr (st.map (rV ad))) := by
  obtain ⟨hx0, hb, hml, hown, hts, hK, hini⟩ := hC
  dsimp only [ex1, xI1] at hx
  split at hx
  · rename_i x r
    cases hx
    obtain rfl : len = 1 := len_of (N := 1) hln (by decide)
    refine lv_i2l hx0 hb hdg rfl ?_
    exact nxt hk ht hi hR kk hl
  · cases hx

set_option maxRecDepth 100000 in
set_option maxHeartbeats 4000000 in
theorem s_i2b (hC : Cx D cy k p s m args meth c) (hk : k < gNM) (hR : Rl D cy ad h A s H locs) (hl : lv_has lsr ls.length (lzL ad ls)) (ht : (gTab k)[i]? = some (pc, .i2b, len)) (hdg : decode (gB k) pc = .ok (.i2b, len)) (hln : ilen (.i2b) = len ∨ ilen (.i2b) = 0) (hx : ex1 i (.i2b) ls st h = some (i', ls', st', h')) (hi : i' < (gTab k).length) (kk : KK p l e R s m args below meth c Q D cy A k ad h cells slots i' ls' st' h') : W p l e R s m args below meth c H locs cells slots Q (F0 m pc lsr (st.map (rV ad))) := by
  obtain ⟨hx0, hb, hml, hown, hts, hK, hini⟩ := hC
  dsimp only [ex1, xI1] at hx
  split at hx
  · rename_i x r
    cases hx
    obtain rfl : len = 1 := len_of (N := 1) hln (by decide)
    refine lv_i2b hx0 hb hdg rfl ?_
    exact nxt hk ht hi hR kk hl
  · cases hx

set_option maxRecDepth 100000 in
set_option maxHeartbeats 4000000 in
theorem s_l2i (hC : Cx D cy k p s m args meth c) (hk : k < gNM) (hR : Rl D cy ad h A s H locs) (hl : lv_has lsr ls.length (lzL ad ls)) (ht : (gTab k)[i]? = some (pc, .l2i, len)) (hdg : decode (gB k) pc = .ok (.l2i, len)) (hln : ilen (.l2i) = len ∨ ilen (.l2i) = 0) (hx : ex1 i (.l2i) ls st h = some (i', ls', st', h')) (hi : i' < (gTab k).length) (kk : KK p l e R s m args below meth c Q D cy A k ad h cells slots i' ls' st' h') : W p l e R s m args below meth c H locs cells slots Q (F0 m pc lsr (st.map (rV ad))) := by
  obtain ⟨hx0, hb, hml, hown, hts, hK, hini⟩ := hC
  dsimp only [ex1, xL1] at hx
  split at hx
  · rename_i x r
    cases hx
    obtain rfl : len = 1 := len_of (N := 1) hln (by decide)
    refine lv_l2i hx0 hb hdg rfl ?_
    exact nxt hk ht hi hR kk hl
  · cases hx

set_option maxRecDepth 100000 in
set_option maxHeartbeats 4000000 in
theorem s_lneg (hC : Cx D cy k p s m args meth c) (hk : k < gNM) (hR : Rl D cy ad h A s H locs) (hl : lv_has lsr ls.length (lzL ad ls)) (ht : (gTab k)[i]? = some (pc, .lneg, len)) (hdg : decode (gB k) pc = .ok (.lneg, len)) (hln : ilen (.lneg) = len ∨ ilen (.lneg) = 0) (hx : ex1 i (.lneg) ls st h = some (i', ls', st', h')) (hi : i' < (gTab k).length) (kk : KK p l e R s m args below meth c Q D cy A k ad h cells slots i' ls' st' h') : W p l e R s m args below meth c H locs cells slots Q (F0 m pc lsr (st.map (rV ad))) := by
  obtain ⟨hx0, hb, hml, hown, hts, hK, hini⟩ := hC
  dsimp only [ex1, xL1] at hx
  split at hx
  · rename_i x r
    cases hx
    obtain rfl : len = 1 := len_of (N := 1) hln (by decide)
    refine lv_lneg hx0 hb hdg ?_
    exact nxt hk ht hi hR kk hl
  · cases hx

set_option maxRecDepth 100000 in
set_option maxHeartbeats 4000000 in
theorem s_idiv (hC : Cx D cy k p s m args meth c) (hk : k < gNM) (hR : Rl D cy ad h A s H locs) (hl : lv_has lsr ls.length (lzL ad ls)) (ht : (gTab k)[i]? = some (pc, .idiv, len)) (hdg : decode (gB k) pc = .ok (.idiv, len)) (hln : ilen (.idiv) = len ∨ ilen (.idiv) = 0) (hx : ex1 i (.idiv) ls st h = some (i', ls', st', h')) (hi : i' < (gTab k).length) (kk : KK p l e R s m args below meth c Q D cy A k ad h cells slots i' ls' st' h') : W p l e R s m args below meth c H locs cells slots Q (F0 m pc lsr (st.map (rV ad))) := by
  obtain ⟨hx0, hb, hml, hown, hts, hK, hini⟩ := hC
  dsimp only [ex1, xI2z] at hx
  split at hx
  · rename_i y x r
    split at hx
    · cases hx
    · rename_i hne
      cases hx
      obtain rfl : len = 1 := len_of (N := 1) hln (by decide)
      refine lv_idiv hx0 hb hdg hne ?_
      exact nxt hk ht hi hR kk hl
  · cases hx

set_option maxRecDepth 100000 in
set_option maxHeartbeats 4000000 in
theorem s_irem (hC : Cx D cy k p s m args meth c) (hk : k < gNM) (hR : Rl D cy ad h A s H locs) (hl : lv_has lsr ls.length (lzL ad ls)) (ht : (gTab k)[i]? = some (pc, .irem, len)) (hdg : decode (gB k) pc = .ok (.irem, len)) (hln : ilen (.irem) = len ∨ ilen (.irem) = 0) (hx : ex1 i (.irem) ls st h = some (i', ls', st', h')) (hi : i' < (gTab k).length) (kk : KK p l e R s m args below meth c Q D cy A k ad h cells slots i' ls' st' h') : W p l e R s m args below meth c H locs cells slots Q (F0 m pc lsr (st.map (rV ad))) := by
  obtain ⟨hx0, hb, hml, hown, hts, hK, hini⟩ := hC
  dsimp only [ex1, xI2z] at hx
  split at hx
  · rename_i y x r
    split at hx
    · cases hx
    · rename_i hne
      cases hx
      obtain rfl : len = 1 := len_of (N := 1) hln (by decide)
      refine lv_irem hx0 hb hdg hne ?_
      rw [← i32_mod]
      exact nxt hk ht hi hR kk hl
  · cases hx

set_option maxRecDepth 100000 in
set_option maxHeartbeats 4000000 in
theorem s_ldiv (hC : Cx D cy k p s m args meth c) (hk : k < gNM) (hR : Rl D cy ad h A s H locs) (hl : lv_has lsr ls.length (lzL ad ls)) (ht : (gTab k)[i]? = some (pc, .ldiv, len)) (hdg : decode (gB k) pc = .ok (.ldiv, len)) (hln : ilen (.ldiv) = len ∨ ilen (.ldiv) = 0) (hx : ex1 i (.ldiv) ls st h = some (i', ls', st', h')) (hi : i' < (gTab k).length) (kk : KK p l e R s m args below meth c Q D cy A k ad h cells slots i' ls' st' h') : W p l e R s m args below meth c H locs cells slots Q (F0 m pc lsr (st.map (rV ad))) := by
  obtain ⟨hx0, hb, hml, hown, hts, hK, hini⟩ := hC
  dsimp only [ex1, xL2z] at hx
  split at hx
  · rename_i y x r
    split at hx
    · cases hx
    · rename_i hne
      cases hx
      obtain rfl : len = 1 := len_of (N := 1) hln (by decide)
      refine lv_ldiv hx0 hb hdg hne ?_
      exact nxt hk ht hi hR kk hl
  · cases hx

set_option maxRecDepth 100000 in
set_option maxHeartbeats 4000000 in
theorem s_lrem (hC : Cx D cy k p s m args meth c) (hk : k < gNM) (hR : Rl D cy ad h A s H locs) (hl : lv_has lsr ls.length (lzL ad ls)) (ht : (gTab k)[i]? = some (pc, .lrem, len)) (hdg : decode (gB k) pc = .ok (.lrem, len)) (hln : ilen (.lrem) = len ∨ ilen (.lrem) = 0) (hx : ex1 i (.lrem) ls st h = some (i', ls', st', h')) (hi : i' < (gTab k).length) (kk : KK p l e R s m args below meth c Q D cy A k ad h cells slots i' ls' st' h') : W p l e R s m args below meth c H locs cells slots Q (F0 m pc lsr (st.map (rV ad))) := by
  obtain ⟨hx0, hb, hml, hown, hts, hK, hini⟩ := hC
  dsimp only [ex1, xL2z] at hx
  split at hx
  · rename_i y x r
    split at hx
    · cases hx
    · rename_i hne
      cases hx
      obtain rfl : len = 1 := len_of (N := 1) hln (by decide)
      refine lv_lrem hx0 hb hdg hne ?_
      rw [← i64_mod]
      exact nxt hk ht hi hR kk hl
  · cases hx

set_option maxRecDepth 100000 in
set_option maxHeartbeats 4000000 in
theorem s_dup (hC : Cx D cy k p s m args meth c) (hk : k < gNM) (hR : Rl D cy ad h A s H locs) (hl : lv_has lsr ls.length (lzL ad ls)) (ht : (gTab k)[i]? = some (pc, .dup, len)) (hdg : decode (gB k) pc = .ok (.dup, len)) (hln : ilen (.dup) = len ∨ ilen (.dup) = 0) (hx : ex1 i (.dup) ls st h = some (i', ls', st', h')) (hi : i' < (gTab k).length) (kk : KK p l e R s m args below meth c Q D cy A k ad h cells slots i' ls' st' h') : W p l e R s m args below meth c H locs cells slots Q (F0 m pc lsr (st.map (rV ad))) := by
  obtain ⟨hx0, hb, hml, hown, hts, hK, hini⟩ := hC
  dsimp only [ex1, xDup] at hx
  split at hx
  · rename_i v r
    split at hx
    · rename_i hc
      cases hx
      obtain rfl : len = 1 := len_of (N := 1) hln (by decide)
      refine lv_dup hx0 hb hdg (by rw [rV_cat]; exact hc) ?_
      exact nxt hk ht hi hR kk hl
    · cases hx
  · cases hx

set_option maxRecDepth 100000 in
set_option maxHeartbeats 4000000 in
theorem s_pop (hC : Cx D cy k p s m args meth c) (hk : k < gNM) (hR : Rl D cy ad h A s H locs) (hl : lv_has lsr ls.length (lzL ad ls)) (ht : (gTab k)[i]? = some (pc, .pop, len)) (hdg : decode (gB k) pc = .ok (.pop, len)) (hln : ilen (.pop) = len ∨ ilen (.pop) = 0) (hx : ex1 i (.pop) ls st h = some (i', ls', st', h')) (hi : i' < (gTab k).length) (kk : KK p l e R s m args below meth c Q D cy A k ad h cells slots i' ls' st' h') : W p l e R s m args below meth c H locs cells slots Q (F0 m pc lsr (st.map (rV ad))) := by
  obtain ⟨hx0, hb, hml, hown, hts, hK, hini⟩ := hC
  dsimp only [ex1, xPop] at hx
  split at hx
  · rename_i v r
    split at hx
    · rename_i hc
      cases hx
      obtain rfl : len = 1 := len_of (N := 1) hln (by decide)
      refine lv_pop hx0 hb hdg (by rw [rV_cat]; exact hc) ?_
      exact nxt hk ht hi hR kk hl
    · cases hx
  · cases hx

set_option maxRecDepth 100000 in
set_option maxHeartbeats 4000000 in
theorem s_dup2 (hC : Cx D cy k p s m args meth c) (hk : k < gNM) (hR : Rl D cy ad h A s H locs) (hl : lv_has lsr ls.length (lzL ad ls)) (ht : (gTab k)[i]? = some (pc, .dup2, len)) (hdg : decode (gB k) pc = .ok (.dup2, len)) (hln : ilen (.dup2) = len ∨ ilen (.dup2) = 0) (hx : ex1 i (.dup2) ls st h = some (i', ls', st', h')) (hi : i' < (gTab k).length) (kk : KK p l e R s m args below meth c Q D cy A k ad h cells slots i' ls' st' h') : W p l e R s m args below meth c H locs cells slots Q (F0 m pc lsr (st.map (rV ad))) := by
  obtain ⟨hx0, hb, hml, hown, hts, hK, hini⟩ := hC
  dsimp only [ex1, xDup2] at hx
  split at hx
  · rename_i v w r
    split at hx
    · rename_i hc
      cases hx
      obtain rfl : len = 1 := len_of (N := 1) hln (by decide)
      refine lv_dup2_11 hx0 hb hdg (by rw [rV_cat]; exact hc.1) (by rw [rV_cat]; exact hc.2) ?_
      exact nxt hk ht hi hR kk hl
    · cases hx
  · cases hx

set_option maxRecDepth 100000 in
set_option maxHeartbeats 4000000 in
theorem s_iload {n : Nat} (hC : Cx D cy k p s m args meth c) (hk : k < gNM) (hR : Rl D cy ad h A s H locs) (hl : lv_has lsr ls.length (lzL ad ls)) (ht : (gTab k)[i]? = some (pc, .iload n, len)) (hdg : decode (gB k) pc = .ok (.iload n, len)) (hln : ilen (.iload n) = len ∨ ilen (.iload n) = 0) (hx : ex1 i (.iload n) ls st h = some (i', ls', st', h')) (hi : i' < (gTab k).length) (kk : KK p l e R s m args below meth c Q D cy A k ad h cells slots i' ls' st' h') : W p l e R s m args below meth c H locs cells slots Q (F0 m pc lsr (st.map (rV ad))) := by
  obtain ⟨hx0, hb, hml, hown, hts, hK, hini⟩ := hC
  dsimp only [ex1, xLdI] at hx
  split at hx
  · rename_i x hv
    cases hx
    obtain rfl : len = 2 := len_of (N := 2) hln (by decide)
    refine lv_iload hx0 hb hdg (lr_at hl hv) ?_
    exact nxt hk ht hi hR kk hl
  · cases hx

set_option maxRecDepth 100000 in
set_option maxHeartbeats 4000000 in
theorem s_iload_n {n : Fin 4} (hC : Cx D cy k p s m args meth c) (hk : k < gNM) (hR : Rl D cy ad h A s H locs) (hl : lv_has lsr ls.length (lzL ad ls)) (ht : (gTab k)[i]? = some (pc, .iload_n n, len)) (hdg : decode (gB k) pc = .ok (.iload_n n, len)) (hln : ilen (.iload_n n) = len ∨ ilen (.iload_n n) = 0) (hx : ex1 i (.iload n) ls st h = some (i', ls', st', h')) (hi : i' < (gTab k).length) (kk : KK p l e R s m args below meth c Q D cy A k ad h cells slots i' ls' st' h') : W p l e R s m args below meth c H locs cells slots Q (F0 m pc lsr (st.map (rV ad))) := by
  obtain ⟨hx0, hb, hml, hown, hts, hK, hini⟩ := hC
  dsimp only [ex1, xLdI] at hx
  split at hx
  · rename_i x hv
    cases hx
    obtain rfl : len = 1 := len_of (N := 1) hln (by decide)
    refine lv_iload_n hx0 hb hdg rfl (lr_at hl hv) ?_
    exact nxt hk ht hi hR kk hl
  · cases hx

set_option maxRecDepth 100000 in
set_option maxHeartbeats 4000000 in
theorem s_lload {n : Nat} (hC : Cx D cy k p s m args meth c) (hk : k < gNM) (hR : Rl D cy ad h A s H locs) (hl : lv_has lsr ls.length (lzL ad ls)) (ht : (gTab k)[i]? = some (pc, .lload n, len)) (hdg : decode (gB k) pc = .ok (.lload n, len)) (hln : ilen (.lload n) = len ∨ ilen (.lload n) = 0) (hx : ex1 i (.lload n) ls st h = some (i', ls', st', h')) (hi : i' < (gTab k).length) (kk : KK p l e R s m args below meth c Q D cy A k ad h cells slots i' ls' st' h') : W p l e R s m args below meth c H locs cells slots Q (F0 m pc lsr (st.map (rV ad))) := by
  obtain ⟨hx0, hb, hml, hown, hts, hK, hini⟩ := hC
  dsimp only [ex1, xLdL] at hx
  split at hx
  · rename_i x hv
    cases hx
    obtain rfl : len = 2 := len_of (N := 2) hln (by decide)
    refine lv_lload hx0 hb hdg (lr_at hl hv) ?_
    exact nxt hk ht hi hR kk hl
  · cases hx

set_option maxRecDepth 100000 in
set_option maxHeartbeats 4000000 in
theorem s_lload_n {n : Fin 4} (hC : Cx D cy k p s m args meth c) (hk : k < gNM) (hR : Rl D cy ad h A s H locs) (hl : lv_has lsr ls.length (lzL ad ls)) (ht : (gTab k)[i]? = some (pc, .lload_n n, len)) (hdg : decode (gB k) pc = .ok (.lload_n n, len)) (hln : ilen (.lload_n n) = len ∨ ilen (.lload_n n) = 0) (hx : ex1 i (.lload n) ls st h = some (i', ls', st', h')) (hi : i' < (gTab k).length) (kk : KK p l e R s m args below meth c Q D cy A k ad h cells slots i' ls' st' h') : W p l e R s m args below meth c H locs cells slots Q (F0 m pc lsr (st.map (rV ad))) := by
  obtain ⟨hx0, hb, hml, hown, hts, hK, hini⟩ := hC
  dsimp only [ex1, xLdL] at hx
  split at hx
  · rename_i x hv
    cases hx
    obtain rfl : len = 1 := len_of (N := 1) hln (by decide)
    refine lv_lload_n hx0 hb hdg rfl (lr_at hl hv) ?_
    exact nxt hk ht hi hR kk hl
  · cases hx

set_option maxRecDepth 100000 in
set_option maxHeartbeats 4000000 in
theorem s_aload {n : Nat} (hC : Cx D cy k p s m args meth c) (hk : k < gNM) (hR : Rl D cy ad h A s H locs) (hl : lv_has lsr ls.length (lzL ad ls)) (ht : (gTab k)[i]? = some (pc, .aload n, len)) (hdg : decode (gB k) pc = .ok (.aload n, len)) (hln : ilen (.aload n) = len ∨ ilen (.aload n) = 0) (hx : ex1 i (.aload n) ls st h = some (i', ls', st', h')) (hi : i' < (gTab k).length) (kk : KK p l e R s m args below meth c Q D cy A k ad h cells slots i' ls' st' h') : W p l e R s m args below meth c H locs cells slots Q (F0 m pc lsr (st.map (rV ad))) := by
  obtain ⟨hx0, hb, hml, hown, hts, hK, hini⟩ := hC
  dsimp only [ex1, xLdA] at hx
  split at hx
  · rename_i x hv
    cases hx
    obtain rfl : len = 2 := len_of (N := 2) hln (by decide)
    refine lv_aload hx0 hb hdg (lr_at hl hv) ?_
    exact nxt hk ht hi hR kk hl
  · cases hx

set_option maxRecDepth 100000 in
set_option maxHeartbeats 4000000 in
theorem s_aload_n {n : Fin 4} (hC : Cx D cy k p s m args meth c) (hk : k < gNM) (hR : Rl D cy ad h A s H locs) (hl : lv_has lsr ls.length (lzL ad ls)) (ht : (gTab k)[i]? = some (pc, .aload_n n, len)) (hdg : decode (gB k) pc = .ok (.aload_n n, len)) (hln : ilen (.aload_n n) = len ∨ ilen (.aload_n n) = 0) (hx : ex1 i (.aload n) ls st h = some (i', ls', st', h')) (hi : i' < (gTab k).length) (kk : KK p l e R s m args below meth c Q D cy A k ad h cells slots i' ls' st' h') : W p l e R s m args below meth c H locs cells slots Q (F0 m pc lsr (st.map (rV ad))) := by
  obtain ⟨hx0, hb, hml, hown, hts, hK, hini⟩ := hC
  dsimp only [ex1, xLdA] at hx
  split at hx
  · rename_i x hv
    cases hx
    obtain rfl : len = 1 := len_of (N := 1) hln (by decide)
    refine lv_aload_n hx0 hb hdg rfl (lr_at hl hv) ?_
    exact nxt hk ht hi hR kk hl
  · cases hx

set_option maxRecDepth 100000 in
set_option maxHeartbeats 4000000 in
theorem s_istore {n : Nat} (hC : Cx D cy k p s m args meth c) (hk : k < gNM) (hR : Rl D cy ad h A s H locs) (hl : lv_has lsr ls.length (lzL ad ls)) (ht : (gTab k)[i]? = some (pc, .istore n, len)) (hdg : decode (gB k) pc = .ok (.istore n, len)) (hln : ilen (.istore n) = len ∨ ilen (.istore n) = 0) (hx : ex1 i (.istore n) ls st h = some (i', ls', st', h')) (hi : i' < (gTab k).length) (kk : KK p l e R s m args below meth c Q D cy A k ad h cells slots i' ls' st' h') : W p l e R s m args below meth c H locs cells slots Q (F0 m pc lsr (st.map (rV ad))) := by
  obtain ⟨hx0, hb, hml, hown, hts, hK, hini⟩ := hC
  dsimp only [ex1, xStI] at hx
  split at hx
  · rename_i x r
    split at hx
    · rename_i hn
      cases hx
      obtain rfl : len = 2 := len_of (N := 2) hln (by decide)
      refine lv_istore hx0 hb hdg hl hn rfl (fun lsr2 hl2 => ?_)
      exact nxt hk ht hi hR kk (ps1_has rfl hl2)
    · cases hx
  · cases hx

set_option maxRecDepth 100000 in
set_option maxHeartbeats 4000000 in
theorem s_istore_n {n : Fin 4} (hC : Cx D cy k p s m args meth c) (hk : k < gNM) (hR : Rl D cy ad h A s H locs) (hl : lv_has lsr ls.length (lzL ad ls)) (ht : (gTab k)[i]? = some (pc, .istore_n n, len)) (hdg : decode (gB k) pc = .ok (.istore_n n, len)) (hln : ilen (.istore_n n) = len ∨ ilen (.istore_n n) = 0) (hx : ex1 i (.istore n) ls st h = some (i', ls', st', h')) (hi : i' < (gTab k).length) (kk : KK p l e R s m args below meth c Q D cy A k ad h cells slots i' ls' st' h') : W p l e R s m args below meth c H locs cells slots Q (F0 m pc lsr (st.map (rV ad))) := by
  obtain ⟨hx0, hb, hml, hown, hts, hK, hini⟩ := hC
  dsimp only [ex1, xStI] at hx
  split at hx
  · rename_i x r
    split at hx
    · rename_i hn
      cases hx
      obtain rfl : len = 1 := len_of (N := 1) hln (by decide)
      refine lv_istore_n hx0 hb hdg rfl hl hn rfl (fun lsr2 hl2 => ?_)
      exact nxt hk ht hi hR kk (ps1_has rfl hl2)
    · cases hx
  · cases hx

set_option maxRecDepth 100000 in
set_option maxHeartbeats 4000000 in
theorem s_lstore {n : Nat} (hC : Cx D cy k p s m args meth c) (hk : k < gNM) (hR : Rl D cy ad h A s H locs) (hl : lv_has lsr ls.length (lzL ad ls)) (ht : (gTab k)[i]? = some (pc, .lstore n, len)) (hdg : decode (gB k) pc = .ok (.lstore n, len)) (hln : ilen (.lstore n) = len ∨ ilen (.lstore n) = 0) (hx : ex1 i (.lstore n) ls st h = some (i', ls', st', h')) (hi : i' < (gTab k).length) (kk : KK p l e R s m args below meth c Q D cy A k ad h cells slots i' ls' st' h') : W p l e R s m args below meth c H locs cells slots Q (F0 m pc lsr (st.map (rV ad))) := by
  obtain ⟨hx0, hb, hml, hown, hts, hK, hini⟩ := hC
  dsimp only [ex1, xStL] at hx
  split at hx
  · rename_i x r
    split at hx
    · rename_i hn
      cases hx
      obtain rfl : len = 2 := len_of (N := 2) hln (by decide)
      refine lv_lstore hx0 hb hdg hl hn rfl (fun lsr2 hl2 => ?_)
      exact nxt hk ht hi hR kk (ps2_has rfl hl2)
    · cases hx
  · cases hx

set_option maxRecDepth 100000 in
set_option maxHeartbeats 4000000 in
theorem s_lstore_n {n : Fin 4} (hC : Cx D cy k p s m args meth c) (hk : k < gNM) (hR : Rl D cy ad h A s H locs) (hl : lv_has lsr ls.length (lzL ad ls)) (ht : (gTab k)[i]? = some (pc, .lstore_n n, len)) (hdg : decode (gB k) pc = .ok (.lstore_n n, len)) (hln : ilen (.lstore_n n) = len ∨ ilen (.lstore_n n) = 0) (hx : ex1 i (.lstore n) ls st h = some (i', ls', st', h')) (hi : i' < (gTab k).length) (kk : KK p l e R s m args below meth c Q D cy A k ad h cells slots i' ls' st' h') : W p l e R s m args below meth c H locs cells slots Q (F0 m pc lsr (st.map (rV ad))) := by
  obtain ⟨hx0, hb, hml, hown, hts, hK, hini⟩ := hC
  dsimp only [ex1, xStL] at hx
  split at hx
  · rename_i x r
    split at hx
    · rename_i hn
      cases hx
      obtain rfl : len = 1 := len_of (N := 1) hln (by decide)
      refine lv_lstore_n hx0 hb hdg rfl hl hn rfl (fun lsr2 hl2 => ?_)
      exact nxt hk ht hi hR kk (ps2_has rfl hl2)
    · cases hx
  · cases hx

set_option maxRecDepth 100000 in
set_option maxHeartbeats 4000000 in
theorem s_astore {n : Nat} (hC : Cx D cy k p s m args meth c) (hk : k < gNM) (hR : Rl D cy ad h A s H locs) (hl : lv_has lsr ls.length (lzL ad ls)) (ht : (gTab k)[i]? = some (pc, .astore n, len)) (hdg : decode (gB k) pc = .ok (.astore n, len)) (hln : ilen (.astore n) = len ∨ ilen (.astore n) = 0) (hx : ex1 i (.astore n) ls st h = some (i', ls', st', h')) (hi : i' < (gTab k).length) (kk : KK p l e R s m args below meth c Q D cy A k ad h cells slots i' ls' st' h') : W p l e R s m args below meth c H locs cells slots Q (F0 m pc lsr (st.map (rV ad))) := by
  obtain ⟨hx0, hb, hml, hown, hts, hK, hini⟩ := hC
  dsimp only [ex1, xStA] at hx
  split at hx
  · rename_i x r
    split at hx
    · rename_i hn
      cases hx
      obtain rfl : len = 2 := len_of (N := 2) hln (by decide)
      refine lv_astore hx0 hb hdg hl hn rfl (fun lsr2 hl2 => ?_)
      exact nxt hk ht hi hR kk (ps1_has rfl hl2)
    · cases hx
  · cases hx

set_option maxRecDepth 100000 in
set_option maxHeartbeats 4000000 in
theorem s_astore_n {n : Fin 4} (hC : Cx D cy k p s m args meth c) (hk : k < gNM) (hR : Rl D cy ad h A s H locs) (hl : lv_has lsr ls.length (lzL ad ls)) (ht : (gTab k)[i]? = some (pc, .astore_n n, len)) (hdg : decode (gB k) pc = .ok (.astore_n n, len)) (hln : ilen (.astore_n n) = len ∨ ilen (.astore_n n) = 0) (hx : ex1 i (.astore n) ls st h = some (i', ls', st', h')) (hi : i' < (gTab k).length) (kk : KK p l e R s m args below meth c Q D cy A k ad h cells slots i' ls' st' h') : W p l e R s m args below meth c H locs cells slots Q (F0 m pc lsr (st.map (rV ad))) := by
  obtain ⟨hx0, hb, hml, hown, hts, hK, hini⟩ := hC
  dsimp only [ex1, xStA] at hx
  split at hx
  · rename_i x r
    split at hx
    · rename_i hn
      cases hx
      obtain rfl : len = 1 := len_of (N := 1) hln (by decide)
      refine lv_astore_n hx0 hb hdg rfl hl hn rfl (fun lsr2 hl2 => ?_)
      exact nxt hk ht hi hR kk (ps1_has rfl hl2)
    · cases hx
  · cases hx

set_option maxRecDepth 100000 in
set_option maxHeartbeats 4000000 in
theorem s_iinc {n : Nat} {cc : Int} (hC : Cx D cy k p s m args meth c) (hk : k < gNM) (hR : Rl D cy ad h A s H locs) (hl : lv_has lsr ls.length (lzL ad ls)) (ht : (gTab k)[i]? = some (pc, .iinc n cc, len)) (hdg : decode (gB k) pc = .ok (.iinc n cc, len)) (hln : ilen (.iinc n cc) = len ∨ ilen (.iinc n cc) = 0) (hx : ex1 i (.iinc n cc) ls st h = some (i', ls', st', h')) (hi : i' < (gTab k).length) (kk : KK p l e R s m args below meth c Q D cy A k ad h cells slots i' ls' st' h') : W p l e R s m args below meth c H locs cells slots Q (F0 m pc lsr (st.map (rV ad))) := by
  obtain ⟨hx0, hb, hml, hown, hts, hK, hini⟩ := hC
  dsimp only [ex1, xInc] at hx
  split at hx
  · rename_i x hv
    cases hx
    obtain rfl : len = 3 := len_of (N := 3) hln (by decide)
    have hm : (n, Value.int x) ∈ lzL ad ls := lzL_mem.mpr ⟨.int x, hv, rfl⟩
    obtain ⟨q, hq⟩ := List.getElem?_of_mem hm
    refine lv_iinc hx0 hb hdg hl (k := q) hq rfl (List.getElem?_eq_some_iff.mp hv).1 rfl (fun lsr2 hl2 => ?_)
    exact nxt hk ht hi hR kk (ps1_has rfl hl2)
  · cases hx

set_option maxRecDepth 100000 in
set_option maxHeartbeats 4000000 in
theorem s_iconst {n : Int} (hC : Cx D cy k p s m args meth c) (hk : k < gNM) (hR : Rl D cy ad h A s H locs) (hl : lv_has lsr ls.length (lzL ad ls)) (ht : (gTab k)[i]? = some (pc, .iconst n, len)) (hdg : decode (gB k) pc = .ok (.iconst n, len)) (hln : ilen (.iconst n) = len ∨ ilen (.iconst n) = 0) (hx : ex1 i (.iconst n) ls st h = some (i', ls', st', h')) (hi : i' < (gTab k).length) (kk : KK p l e R s m args below meth c Q D cy A k ad h cells slots i' ls' st' h') : W p l e R s m args below meth c H locs cells slots Q (F0 m pc lsr (st.map (rV ad))) := by
  obtain ⟨hx0, hb, hml, hown, hts, hK, hini⟩ := hC
  dsimp only [ex1] at hx
  cases hx
  obtain rfl : len = 1 := len_of (N := 1) hln (by decide)
  refine lv_iconst hx0 hb hdg rfl ?_
  exact nxt hk ht hi hR kk hl

set_option maxRecDepth 100000 in
set_option maxHeartbeats 4000000 in
theorem s_bipush {n : Int} (hC : Cx D cy k p s m args meth c) (hk : k < gNM) (hR : Rl D cy ad h A s H locs) (hl : lv_has lsr ls.length (lzL ad ls)) (ht : (gTab k)[i]? = some (pc, .bipush n, len)) (hdg : decode (gB k) pc = .ok (.bipush n, len)) (hln : ilen (.bipush n) = len ∨ ilen (.bipush n) = 0) (hx : ex1 i (.iconst (Int8.ofInt n).toInt32.toInt) ls st h = some (i', ls', st', h')) (hi : i' < (gTab k).length) (kk : KK p l e R s m args below meth c Q D cy A k ad h cells slots i' ls' st' h') : W p l e R s m args below meth c H locs cells slots Q (F0 m pc lsr (st.map (rV ad))) := by
  obtain ⟨hx0, hb, hml, hown, hts, hK, hini⟩ := hC
  dsimp only [ex1] at hx
  cases hx
  obtain rfl : len = 2 := len_of (N := 2) hln (by decide)
  refine lv_bipush hx0 hb hdg (Int32.ofInt_toInt _).symm ?_
  exact nxt hk ht hi hR kk hl

set_option maxRecDepth 100000 in
set_option maxHeartbeats 4000000 in
theorem s_sipush {n : Int} (hC : Cx D cy k p s m args meth c) (hk : k < gNM) (hR : Rl D cy ad h A s H locs) (hl : lv_has lsr ls.length (lzL ad ls)) (ht : (gTab k)[i]? = some (pc, .sipush n, len)) (hdg : decode (gB k) pc = .ok (.sipush n, len)) (hln : ilen (.sipush n) = len ∨ ilen (.sipush n) = 0) (hx : ex1 i (.iconst (Int16.ofInt n).toInt32.toInt) ls st h = some (i', ls', st', h')) (hi : i' < (gTab k).length) (kk : KK p l e R s m args below meth c Q D cy A k ad h cells slots i' ls' st' h') : W p l e R s m args below meth c H locs cells slots Q (F0 m pc lsr (st.map (rV ad))) := by
  obtain ⟨hx0, hb, hml, hown, hts, hK, hini⟩ := hC
  dsimp only [ex1] at hx
  cases hx
  obtain rfl : len = 3 := len_of (N := 3) hln (by decide)
  refine lv_sipush hx0 hb hdg (Int32.ofInt_toInt _).symm ?_
  exact nxt hk ht hi hR kk hl

set_option maxRecDepth 100000 in
set_option maxHeartbeats 4000000 in
theorem s_lconst {n : Fin 2} (hC : Cx D cy k p s m args meth c) (hk : k < gNM) (hR : Rl D cy ad h A s H locs) (hl : lv_has lsr ls.length (lzL ad ls)) (ht : (gTab k)[i]? = some (pc, .lconst n, len)) (hdg : decode (gB k) pc = .ok (.lconst n, len)) (hln : ilen (.lconst n) = len ∨ ilen (.lconst n) = 0) (hx : ex1 i (.jsr_w n) ls st h = some (i', ls', st', h')) (hi : i' < (gTab k).length) (kk : KK p l e R s m args below meth c Q D cy A k ad h cells slots i' ls' st' h') : W p l e R s m args below meth c H locs cells slots Q (F0 m pc lsr (st.map (rV ad))) := by
  obtain ⟨hx0, hb, hml, hown, hts, hK, hini⟩ := hC
  dsimp only [ex1] at hx
  cases hx
  obtain rfl : len = 1 := len_of (N := 1) hln (by decide)
  refine lv_lconst hx0 hb hdg (Int64.ofInt_eq_ofNat).symm ?_
  exact nxt hk ht hi hR kk hl

set_option maxRecDepth 100000 in
set_option maxHeartbeats 4000000 in
theorem s_ldc {x : Nat} (hC : Cx D cy k p s m args meth c) (hk : k < gNM) (hR : Rl D cy ad h A s H locs) (hl : lv_has lsr ls.length (lzL ad ls)) (ht : (gTab k)[i]? = some (pc, .ldc x, len)) (hdg : decode (gB k) pc = .ok (.ldc x, len)) (hln : ilen (.ldc x) = len ∨ ilen (.ldc x) = 0) (hx : ex1 i (oi ((lkI gKI (gOwn k) x).map .iconst)) ls st h = some (i', ls', st', h')) (hi : i' < (gTab k).length) (kk : KK p l e R s m args below meth c Q D cy A k ad h cells slots i' ls' st' h') : W p l e R s m args below meth c H locs cells slots Q (F0 m pc lsr (st.map (rV ad))) := by
  obtain ⟨hx0, hb, hml, hown, hts, hK, hini⟩ := hC
  cases hq : lkI gKI (gOwn k) x with
  | none => rw [hq] at hx; cases hx
  | some n =>
    rw [hq] at hx
    dsimp only [ex1, oi, Option.map, Option.getD] at hx
    cases hx
    obtain rfl : len = 2 := len_of (N := 2) hln (by decide)
    refine lv_ldc hx0 hb hown (v := Int32.ofInt n) (hts _ (gKI_w _ (lkI_get hq))) hdg ?_
    exact nxt hk ht hi hR kk hl

set_option maxRecDepth 100000 in
set_option maxHeartbeats 4000000 in
theorem s_ldc_w {x : Nat} (hC : Cx D cy k p s m args meth c) (hk : k < gNM) (hR : Rl D cy ad h A s H locs) (hl : lv_has lsr ls.length (lzL ad ls)) (ht : (gTab k)[i]? = some (pc, .ldc_w x, len)) (hdg : decode (gB k) pc = .ok (.ldc_w x, len)) (hln : ilen (.ldc_w x) = len ∨ ilen (.ldc_w x) = 0) (hx : ex1 i (oi ((lkI gKI (gOwn k) x).map .iconst)) ls st h = some (i', ls', st', h')) (hi : i' < (gTab k).length) (kk : KK p l e R s m args below meth c Q D cy A k ad h cells slots i' ls' st' h') : W p l e R s m args below meth c H locs cells slots Q (F0 m pc lsr (st.map (rV ad))) := by
  obtain ⟨hx0, hb, hml, hown, hts, hK, hini⟩ := hC
  cases hq : lkI gKI (gOwn k) x with
  | none => rw [hq] at hx; cases hx
  | some n =>
    rw [hq] at hx
    dsimp only [ex1, oi, Option.map, Option.getD] at hx
    cases hx
    obtain rfl : len = 3 := len_of (N := 3) hln (by decide)
    refine lv_ldcw hx0 hb hown (v := Int32.ofInt n) (hts _ (gKI_w _ (lkI_get hq))) hdg ?_
    exact nxt hk ht hi hR kk hl

set_option maxRecDepth 100000 in
set_option maxHeartbeats 4000000 in
theorem s_ldc2_w {x : Nat} (hC : Cx D cy k p s m args meth c) (hk : k < gNM) (hR : Rl D cy ad h A s H locs) (hl : lv_has lsr ls.length (lzL ad ls)) (ht : (gTab k)[i]? = some (pc, .ldc2_w x, len)) (hdg : decode (gB k) pc = .ok (.ldc2_w x, len)) (hln : ilen (.ldc2_w x) = len ∨ ilen (.ldc2_w x) = 0) (hx : ex1 i (oi ((lkI gKL (gOwn k) x).map .jsr_w)) ls st h = some (i', ls', st', h')) (hi : i' < (gTab k).length) (kk : KK p l e R s m args below meth c Q D cy A k ad h cells slots i' ls' st' h') : W p l e R s m args below meth c H locs cells slots Q (F0 m pc lsr (st.map (rV ad))) := by
  obtain ⟨hx0, hb, hml, hown, hts, hK, hini⟩ := hC
  cases hq : lkI gKL (gOwn k) x with
  | none => rw [hq] at hx; cases hx
  | some n =>
    rw [hq] at hx
    dsimp only [ex1, oi, Option.map, Option.getD] at hx
    cases hx
    obtain rfl : len = 3 := len_of (N := 3) hln (by decide)
    refine lv_ldc2 hx0 hb hown (v := Int64.ofInt n) (hts _ (gKL_w _ (lkI_get hq))) hdg ?_
    exact nxt hk ht hi hR kk hl

set_option maxRecDepth 100000 in
set_option maxHeartbeats 4000000 in
theorem s_goto {off : Int} (hC : Cx D cy k p s m args meth c) (hk : k < gNM) (hR : Rl D cy ad h A s H locs) (hl : lv_has lsr ls.length (lzL ad ls)) (ht : (gTab k)[i]? = some (pc, .goto off, len)) (hdg : decode (gB k) pc = .ok (.goto off, len)) (hln : ilen (.goto off) = len ∨ ilen (.goto off) = 0) (hx : ex1 i (oi ((ix (gTab k) pc off).map .goto)) ls st h = some (i', ls', st', h')) (hi : i' < (gTab k).length) (kk : KK p l e R s m args below meth c Q D cy A k ad h cells slots i' ls' st' h') : W p l e R s m args below meth c H locs cells slots Q (F0 m pc lsr (st.map (rV ad))) := by
  obtain ⟨hx0, hb, hml, hown, hts, hK, hini⟩ := hC
  cases hq : ix (gTab k) pc off with
  | none => rw [hq] at hx; cases hx
  | some t =>
    rw [hq] at hx
    dsimp only [ex1, oi, Option.map, Option.getD] at hx
    cases hx
    obtain rfl : len = 3 := len_of (N := 3) hln (by decide)
    obtain ⟨tgt, h1, h2⟩ := tgtW hR hq kk hl
    exact lv_goto hx0 hb hdg h1 h2

set_option maxRecDepth 100000 in
set_option maxHeartbeats 4000000 in
theorem s_if_icmp {cd : Jvm.ClassFile.Cond} {off : Int} (hC : Cx D cy k p s m args meth c) (hk : k < gNM) (hR : Rl D cy ad h A s H locs) (hl : lv_has lsr ls.length (lzL ad ls)) (ht : (gTab k)[i]? = some (pc, .if_icmp cd off, len)) (hdg : decode (gB k) pc = .ok (.if_icmp cd off, len)) (hln : ilen (.if_icmp cd off) = len ∨ ilen (.if_icmp cd off) = 0) (hx : ex1 i (oi ((ix (gTab k) pc off).map (.if_icmp cd))) ls st h = some (i', ls', st', h')) (hi : i' < (gTab k).length) (kk : KK p l e R s m args below meth c Q D cy A k ad h cells slots i' ls' st' h') : W p l e R s m args below meth c H locs cells slots Q (F0 m pc lsr (st.map (rV ad))) := by
  obtain ⟨hx0, hb, hml, hown, hts, hK, hini⟩ := hC
  cases hq : ix (gTab k) pc off with
  | none => rw [hq] at hx; cases hx
  | some t =>
    rw [hq] at hx
    dsimp only [ex1, oi, Option.map, Option.getD, xBr2] at hx
    split at hx
    rotate_left
    · cases hx
    rename_i y x r
    cases hx
    obtain rfl : len = 3 := len_of (N := 3) hln (by decide)
    cases cd
    case eq =>
      by_cases hcd : x = y
      · have ec : cnd .eq x y = true := decide_eq_true hcd
        rw [ec] at kk hi
        obtain ⟨tgt, h1, h2⟩ := tgtW hR hq kk hl
        exact lv_icmp_eq hx0 hb hdg h1 (fun _ => h2) (fun q => absurd hcd q)
      · have ec : cnd .eq x y = false := decide_eq_false hcd
        rw [ec] at kk hi
        obtain ⟨j, ⟨a, b, d⟩, -, -, h1⟩ := ix_get hq
        exact lv_icmp_eq hx0 hb hdg h1 (fun q => absurd q hcd) (fun _ => nxt hk ht hi hR kk hl)
    case ne =>
      by_cases hcd : ¬ x = y
      · have ec : cnd .ne x y = true := decide_eq_true hcd
        rw [ec] at kk hi
        obtain ⟨tgt, h1, h2⟩ := tgtW hR hq kk hl
        exact lv_icmp_ne hx0 hb hdg h1 (fun _ => h2) (fun q => absurd q hcd)
      · have ec : cnd .ne x y = false := decide_eq_false hcd
        rw [ec] at kk hi
        obtain ⟨j, ⟨a, b, d⟩, -, -, h1⟩ := ix_get hq
        exact lv_icmp_ne hx0 hb hdg h1 (fun q => absurd q hcd) (fun _ => nxt hk ht hi hR kk hl)
    case lt =>
      by_cases hcd : x < y
      · have ec : cnd .lt x y = true := decide_eq_true hcd
        rw [ec] at kk hi
        obtain ⟨tgt, h1, h2⟩ := tgtW hR hq kk hl
        exact lv_icmp_lt hx0 hb hdg h1 (fun _ => h2) (fun q => absurd hcd q)
      · have ec : cnd .lt x y = false := decide_eq_false hcd
        rw [ec] at kk hi
        obtain ⟨j, ⟨a, b, d⟩, -, -, h1⟩ := ix_get hq
        exact lv_icmp_lt hx0 hb hdg h1 (fun q => absurd q hcd) (fun _ => nxt hk ht hi hR kk hl)
    case ge =>
      by_cases hcd : y ≤ x
      · have ec : cnd .ge x y = true := decide_eq_true hcd
        rw [ec] at kk hi
        obtain ⟨tgt, h1, h2⟩ := tgtW hR hq kk hl
        exact lv_icmp_ge hx0 hb hdg h1 (fun _ => h2) (fun q => absurd hcd q)
      · have ec : cnd .ge x y = false := decide_eq_false hcd
        rw [ec] at kk hi
        obtain ⟨j, ⟨a, b, d⟩, -, -, h1⟩ := ix_get hq
        exact lv_icmp_ge hx0 hb hdg h1 (fun q => absurd q hcd) (fun _ => nxt hk ht hi hR kk hl)
    case gt =>
      by_cases hcd : y < x
      · have ec : cnd .gt x y = true := decide_eq_true hcd
        rw [ec] at kk hi
        obtain ⟨tgt, h1, h2⟩ := tgtW hR hq kk hl
        exact lv_icmp_gt hx0 hb hdg h1 (fun _ => h2) (fun q => absurd hcd q)
      · have ec : cnd .gt x y = false := decide_eq_false hcd
        rw [ec] at kk hi
        obtain ⟨j, ⟨a, b, d⟩, -, -, h1⟩ := ix_get hq
        exact lv_icmp_gt hx0 hb hdg h1 (fun q => absurd q hcd) (fun _ => nxt hk ht hi hR kk hl)
    case le =>
      by_cases hcd : x ≤ y
      · have ec : cnd .le x y = true := decide_eq_true hcd
        rw [ec] at kk hi
        obtain ⟨tgt, h1, h2⟩ := tgtW hR hq kk hl
        exact lv_icmp_le hx0 hb hdg h1 (fun _ => h2) (fun q => absurd hcd q)
      · have ec : cnd .le x y = false := decide_eq_false hcd
        rw [ec] at kk hi
        obtain ⟨j, ⟨a, b, d⟩, -, -, h1⟩ := ix_get hq
        exact lv_icmp_le hx0 hb hdg h1 (fun q => absurd q hcd) (fun _ => nxt hk ht hi hR kk hl)

set_option maxRecDepth 100000 in
set_option maxHeartbeats 4000000 in
theorem s_ifCond {cd : Jvm.ClassFile.Cond} {off : Int} (hC : Cx D cy k p s m args meth c) (hk : k < gNM) (hR : Rl D cy ad h A s H locs) (hl : lv_has lsr ls.length (lzL ad ls)) (ht : (gTab k)[i]? = some (pc, .ifCond cd off, len)) (hdg : decode (gB k) pc = .ok (.ifCond cd off, len)) (hln : ilen (.ifCond cd off) = len ∨ ilen (.ifCond cd off) = 0) (hx : ex1 i (oi ((ix (gTab k) pc off).map (.ifCond cd))) ls st h = some (i', ls', st', h')) (hi : i' < (gTab k).length) (kk : KK p l e R s m args below meth c Q D cy A k ad h cells slots i' ls' st' h') : W p l e R s m args below meth c H locs cells slots Q (F0 m pc lsr (st.map (rV ad))) := by
  obtain ⟨hx0, hb, hml, hown, hts, hK, hini⟩ := hC
  cases hq : ix (gTab k) pc off with
  | none => rw [hq] at hx; cases hx
  | some t =>
    rw [hq] at hx
    dsimp only [ex1, oi, Option.map, Option.getD, xBr1] at hx
    split at hx
    rotate_left
    · cases hx
    rename_i x r
    cases hx
    obtain rfl : len = 3 := len_of (N := 3) hln (by decide)
    cases cd
    case eq =>
      by_cases hcd : x = 0
      · have ec : cnd .eq x 0 = true := decide_eq_true hcd
        rw [ec] at kk hi
        obtain ⟨tgt, h1, h2⟩ := tgtW hR hq kk hl
        exact lv_if_eq hx0 hb hdg h1 (fun _ => h2) (fun q => absurd hcd q)
      · have ec : cnd .eq x 0 = false := decide_eq_false hcd
        rw [ec] at kk hi
        obtain ⟨j, ⟨a, b, d⟩, -, -, h1⟩ := ix_get hq
        exact lv_if_eq hx0 hb hdg h1 (fun q => absurd q hcd) (fun _ => nxt hk ht hi hR kk hl)
    case ne =>
      by_cases hcd : ¬ x = 0
      · have ec : cnd .ne x 0 = true := decide_eq_true hcd
        rw [ec] at kk hi
        obtain ⟨tgt, h1, h2⟩ := tgtW hR hq kk hl
        exact lv_if_ne hx0 hb hdg h1 (fun _ => h2) (fun q => absurd q hcd)
      · have ec : cnd .ne x 0 = false := decide_eq_false hcd
        rw [ec] at kk hi
        obtain ⟨j, ⟨a, b, d⟩, -, -, h1⟩ := ix_get hq
        exact lv_if_ne hx0 hb hdg h1 (fun q => absurd q hcd) (fun _ => nxt hk ht hi hR kk hl)
    case lt =>
      by_cases hcd : x < 0
      · have ec : cnd .lt x 0 = true := decide_eq_true hcd
        rw [ec] at kk hi
        obtain ⟨tgt, h1, h2⟩ := tgtW hR hq kk hl
        exact lv_if_lt hx0 hb hdg h1 (fun _ => h2) (fun q => absurd hcd q)
      · have ec : cnd .lt x 0 = false := decide_eq_false hcd
        rw [ec] at kk hi
        obtain ⟨j, ⟨a, b, d⟩, -, -, h1⟩ := ix_get hq
        exact lv_if_lt hx0 hb hdg h1 (fun q => absurd q hcd) (fun _ => nxt hk ht hi hR kk hl)
    case ge =>
      by_cases hcd : 0 ≤ x
      · have ec : cnd .ge x 0 = true := decide_eq_true hcd
        rw [ec] at kk hi
        obtain ⟨tgt, h1, h2⟩ := tgtW hR hq kk hl
        exact lv_if_ge hx0 hb hdg h1 (fun _ => h2) (fun q => absurd hcd q)
      · have ec : cnd .ge x 0 = false := decide_eq_false hcd
        rw [ec] at kk hi
        obtain ⟨j, ⟨a, b, d⟩, -, -, h1⟩ := ix_get hq
        exact lv_if_ge hx0 hb hdg h1 (fun q => absurd q hcd) (fun _ => nxt hk ht hi hR kk hl)
    case gt =>
      by_cases hcd : 0 < x
      · have ec : cnd .gt x 0 = true := decide_eq_true hcd
        rw [ec] at kk hi
        obtain ⟨tgt, h1, h2⟩ := tgtW hR hq kk hl
        exact lv_if_gt hx0 hb hdg h1 (fun _ => h2) (fun q => absurd hcd q)
      · have ec : cnd .gt x 0 = false := decide_eq_false hcd
        rw [ec] at kk hi
        obtain ⟨j, ⟨a, b, d⟩, -, -, h1⟩ := ix_get hq
        exact lv_if_gt hx0 hb hdg h1 (fun q => absurd q hcd) (fun _ => nxt hk ht hi hR kk hl)
    case le =>
      by_cases hcd : x ≤ 0
      · have ec : cnd .le x 0 = true := decide_eq_true hcd
        rw [ec] at kk hi
        obtain ⟨tgt, h1, h2⟩ := tgtW hR hq kk hl
        exact lv_if_le hx0 hb hdg h1 (fun _ => h2) (fun q => absurd hcd q)
      · have ec : cnd .le x 0 = false := decide_eq_false hcd
        rw [ec] at kk hi
        obtain ⟨j, ⟨a, b, d⟩, -, -, h1⟩ := ix_get hq
        exact lv_if_le hx0 hb hdg h1 (fun q => absurd q hcd) (fun _ => nxt hk ht hi hR kk hl)

end STP
