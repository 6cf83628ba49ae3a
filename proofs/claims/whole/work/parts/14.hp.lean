/-! instructions on the heap -/
section STH
variable {p : Program} {l : Launch} {e : Env} {R : Room} {s : State} {m : MethodId} {args : Array Value} {below : List Frame} {meth : Method} {c : Code} {Q : State → Prop}
variable {D : va_G} {cy : Nat → ClassId} {A : Nat → Prop} {k : Nat} {ad : Nat → Nat} {h h' : Hp} {H : Heap} {locs : List Loc} {cells slots : Nat} {lsr : Array Slot} {ls ls' : List (Option Value)} {st st' : List Value} {i i' pc len : Nat} {o : Instr}
set_option maxRecDepth 100000 in
set_option maxHeartbeats 4000000 in
theorem s_getfield {x : Nat} (hC : Cx D cy k p s m args meth c) (hk : k < gNM) (hR : Rl D cy ad h A s H locs) (hl : lv_has lsr ls.length (lzL ad ls)) (ht : (gTab k)[i]? = some (pc, .getfield x, len)) (hdg : decode (gB k) pc = .ok (.getfield x, len)) (hln : ilen (.getfield x) = len ∨ ilen (.getfield x) = 0) (hx : ex1 i (oi ((lk gF (gOwn k) x).map .getfield)) ls st h = some (i', ls', st', h')) (hi : i' < (gTab k).length) (kk : KK p l e R s m args below meth c Q D cy A k ad h cells slots i' ls' st' h') : W p l e R s m args below meth c H locs cells slots Q (F0 m pc lsr (st.map (rV ad))) := by
  obtain ⟨hx0, hb, hml, hown, hts, hK, hini⟩ := hC
  cases hq : lk gF (gOwn k) x with
  | none => rw [hq] at hx; cases hx
  | some cc =>
    rw [hq] at hx
    dsimp only [ex1, oi, Option.map, Option.getD, xGet] at hx
    split at hx
    rotate_left
    · cases hx
    rename_i a r
    split at hx
    rotate_left
    · cases hx
    rename_i hc
    obtain ⟨hka, haN⟩ := hc
    cases hx
    obtain rfl : len = 3 := len_of (N := 3) hln (by decide)
    have hm := lk_get hq
    obtain ⟨h13, hj, htc⟩ := gF_n _ hm
    dsimp only at h13 hj htc
    obtain ⟨hv, hws, hty, hnm, hdc⟩ := kind_ok _ h13
    have hget : (gws ad cy h)[a]? = some (ad a, .inr (cc / 1000, gFs ad h (cc / 1000) a)) := by rw [gws_get haN, gE_obj hka h13]
    have hlink := hts _ (gF_w _ hm)
    refine va_get (D := D) (ci := cc / 1000) hx0 hb hts hws hown hK.1 hR.1 a hget hv (cc / 10 % 100) hj hlink (fun _ q => by rw [(hdc _ hj).2] at q; exact q) (gFs_get hj) hdg ?_
    rw [htc]
    exact nxt hk ht hi hR kk hl
set_option maxRecDepth 100000 in
set_option maxHeartbeats 4000000 in
theorem s_putfield {x : Nat} (hC : Cx D cy k p s m args meth c) (hk : k < gNM) (hR : Rl D cy ad h A s H locs) (hl : lv_has lsr ls.length (lzL ad ls)) (ht : (gTab k)[i]? = some (pc, .putfield x, len)) (hdg : decode (gB k) pc = .ok (.putfield x, len)) (hln : ilen (.putfield x) = len ∨ ilen (.putfield x) = 0) (hx : ex1 i (oi ((lk gF (gOwn k) x).map .putfield)) ls st h = some (i', ls', st', h')) (hi : i' < (gTab k).length) (kk : KK p l e R s m args below meth c Q D cy A k ad h cells slots i' ls' st' h') (hfz : (lk gF (gOwn k) x).isSome = true → ∀ cc, lk gF (gOwn k) x = some cc → (gTX (cc / 1000) (cc / 10 % 100)).2.2.2 = true → gSt k = 2 ∧ gOwn k = cc / 1000) : W p l e R s m args below meth c H locs cells slots Q (F0 m pc lsr (st.map (rV ad))) := by
  obtain ⟨hx0, hb, hml, hown, hts, hK, hini⟩ := hC
  cases hq : lk gF (gOwn k) x with
  | none => rw [hq] at hx; cases hx
  | some cc =>
    rw [hq] at hx
    dsimp only [ex1, oi, Option.map, Option.getD, xPut] at hx
    split at hx
    rotate_left
    · cases hx
    rename_i v a r
    split at hx
    rotate_left
    · cases hx
    rename_i hc
    obtain ⟨hka, haN⟩ := hc
    split at hx
    rotate_left
    · cases hx
    rename_i h2 hpv
    cases hx
    obtain rfl : len = 3 := len_of (N := 3) hln (by decide)
    have hm := lk_get hq
    obtain ⟨h13, hj, htc⟩ := gF_n _ hm
    dsimp only at h13 hj htc
    obtain ⟨hv, hws, hty, hnm, hdc⟩ := kind_ok _ h13
    obtain ⟨hd1, hd2⟩ := hdc _ hj
    have hget : (gws ad cy h)[a]? = some (ad a, .inr (cc / 1000, gFs ad h (cc / 1000) a)) := by rw [gws_get haN, gE_obj hka h13]
    have hlink := hts _ (gF_w _ hm)
    have hsame : ∀ x, s.fieldFound? (gTX (cc / 1000) (cc / 10 % 100)).1 (gTX (cc / 1000) (cc / 10 % 100)).2.1 (gTX (cc / 1000) (cc / 10 % 100)).2.2.1 = some x → s.fieldFound? (gC (cc / 1000)) (gTX (cc / 1000) (cc / 10 % 100)).2.1 (gTX (cc / 1000) (cc / 10 % 100)).2.2.1 = some x := fun _ q => by rw [hd2] at q; exact q
    -- the new contents
    obtain ⟨e1, e2, e3, e4⟩ : narrow (gTyX (cc / 1000) (cc / 10 % 100)) (rV ad v) = rV ad v ∧ fits (gTyX (cc / 1000) (cc / 10 % 100)) (rV ad v) = true ∧ (zC h' = zC h ∧ zS h' = zS h) ∧ ∀ (H1 : Heap) (locs1 : List Loc), va_P D vwCl ((gws ad cy h).set a (ad a, .inr (cc / 1000, (gFs ad h (cc / 1000) a).set (cc / 10 % 100) (rV ad v)))) H1 → va_D A ((gws ad cy h).set a (ad a, .inr (cc / 1000, (gFs ad h (cc / 1000) a).set (cc / 10 % 100) (rV ad v)))) → va_S A s.heap H1 locs1 → Rl D cy ad h' A s H1 locs1 := by
      rw [← htc] at hpv
      generalize ht0 : gTc (cc / 1000) (cc / 10 % 100) = tt at hpv hd1
      unfold pv at hpv
      split at hpv
      · rename_i x0
        cases hpv
        refine ⟨?_, ?_, ⟨rfl, rfl⟩, fun H1 locs1 hP hD hS => Rl_I hR ?_ hP hD hS⟩
        · revert hd1; cases gTyX (cc / 1000) (cc / 10 % 100) <;> intro hd1 <;> first | rfl | cases hd1
        · revert hd1; cases gTyX (cc / 1000) (cc / 10 % 100) <;> intro hd1 <;> first | rfl | cases hd1
        · rw [gE_obj (show zK (zsI h a _ x0) a = cc / 1000 from hka) h13]
          congr 2
          refine (gFs_set hj ?_ fun q hq1 hq2 => ?_).symm
          · rw [ht0]
            show Value.int _ = _
            rw [zsI_s]
            simp [upd]
          · unfold gv
            split
            · rfl
            · rfl
            · rw [zsI_s]
              simp [upd, hq1]
      · rename_i x0
        cases hpv
        refine ⟨?_, ?_, ⟨rfl, rfl⟩, fun H1 locs1 hP hD hS => Rl_J hR ?_ hP hD hS⟩
        · revert hd1; cases gTyX (cc / 1000) (cc / 10 % 100) <;> intro hd1 <;> first | rfl | cases hd1
        · revert hd1; cases gTyX (cc / 1000) (cc / 10 % 100) <;> intro hd1 <;> first | rfl | cases hd1
        · rw [gE_obj (show zK (zsJ h a _ x0) a = cc / 1000 from hka) h13]
          congr 2
          refine (gFs_set hj ?_ fun q hq1 hq2 => ?_).symm
          · rw [ht0]
            show Value.long _ = _
            rw [zsJ_s]
            simp [vp_updL]
          · unfold gv
            split
            · rw [zsJ_s]
              simp [vp_updL, hq1]
            · rfl
            · rfl
      · rename_i b0
        split at hpv
        rotate_left
        · cases hpv
        rename_i hb0
        cases hpv
        refine ⟨?_, ?_, ⟨rfl, rfl⟩, fun H1 locs1 hP hD hS => Rl_R hb0 hR ?_ hP hD hS⟩
        · revert hd1; cases gTyX (cc / 1000) (cc / 10 % 100) <;> intro hd1 <;> first | rfl | cases hd1
        · revert hd1; cases gTyX (cc / 1000) (cc / 10 % 100) <;> intro hd1 <;> first | rfl | cases hd1
        · rw [gE_obj (show zK (zsR h a _ (some b0)) a = cc / 1000 from hka) h13]
          congr 2
          refine (gFs_set hj ?_ fun q hq1 hq2 => ?_).symm
          · rw [ht0]
            show va_rf _ = _
            rw [zsR_s]
            simp [va_up, va_rf]
          · unfold gv
            split
            · rfl
            · rw [zsR_s]
              simp [va_up, hq1]
            · rfl
      · rename_i x0
        split at hpv
        rotate_left
        · cases hpv
        rename_i hb0
        cases hpv
        refine ⟨?_, ?_, ⟨rfl, rfl⟩, fun H1 locs1 hP hD hS => Rl_I hR ?_ hP hD hS⟩
        · revert hd1; cases gTyX (cc / 1000) (cc / 10 % 100) <;> intro hd1 <;> first | (rcases hb0 with rfl | rfl <;> rfl) | cases hd1
        · revert hd1; cases gTyX (cc / 1000) (cc / 10 % 100) <;> intro hd1 <;> first | (rcases hb0 with rfl | rfl <;> rfl) | cases hd1
        · rw [gE_obj (show zK (zsI h a _ x0) a = cc / 1000 from hka) h13]
          congr 2
          refine (gFs_set hj ?_ fun q hq1 hq2 => ?_).symm
          · rw [ht0]
            show Value.int _ = _
            rw [zsI_s]
            simp [upd]
          · unfold gv
            split
            · rfl
            · rfl
            · rw [zsI_s]
              simp [upd, hq1]
      · cases hpv
    by_cases hfin : (gTX (cc / 1000) (cc / 10 % 100)).2.2.2 = true
    · have hst := hfz (by rw [hq]; rfl) cc hq hfin
      refine va_putF (D := D) (ci := cc / 1000) hx0 hb hts hws (gTyX (cc / 1000)) hty hnm hown hK.1 hR.1 hR.2.1 hR.2.2.1 a hget hv (cc / 10 % 100) hj hlink hsame hfin (hini hst.1) (by rw [hd2, hst.2]) (hty _ hj) e1 e2 (by rw [gFs_len]; exact hj) hdg (fun H1 locs1 hP hD hS => ?_)
      exact nxtH hk ht hi (e4 _ _ hP hD hS) e3.1 e3.2 kk hl
    · refine va_put (D := D) (ci := cc / 1000) hx0 hb hts hws (gTyX (cc / 1000)) hty hnm hown hK.1 hR.1 hR.2.1 hR.2.2.1 a hget hv (cc / 10 % 100) hj hlink hsame (by simpa using hfin) (hty _ hj) e1 e2 (by rw [gFs_len]; exact hj) hdg (fun H1 locs1 hP hD hS => ?_)
      exact nxtH hk ht hi (e4 _ _ hP hD hS) e3.1 e3.2 kk hl
set_option maxRecDepth 100000 in
set_option maxHeartbeats 4000000 in
theorem s_iaload (hC : Cx D cy k p s m args meth c) (hk : k < gNM) (hR : Rl D cy ad h A s H locs) (hl : lv_has lsr ls.length (lzL ad ls)) (ht : (gTab k)[i]? = some (pc, .iaload, len)) (hdg : decode (gB k) pc = .ok (.iaload, len)) (hln : ilen (.iaload) = len ∨ ilen (.iaload) = 0) (hx : ex1 i (.iaload) ls st h = some (i', ls', st', h')) (hi : i' < (gTab k).length) (kk : KK p l e R s m args below meth c Q D cy A k ad h cells slots i' ls' st' h') : W p l e R s m args below meth c H locs cells slots Q (F0 m pc lsr (st.map (rV ad))) := by
  obtain ⟨hx0, hb, hml, hown, hts, hK, hini⟩ := hC
  dsimp only [ex1, xIal] at hx
  split at hx
  rotate_left
  · cases hx
  rename_i j a r
  split at hx
  rotate_left
  · cases hx
  rename_i hc
  obtain ⟨hka, haN, hin⟩ := hc
  cases hx
  obtain rfl : len = 1 := len_of (N := 1) hln (by decide)
  have hget := gws_get (ad := ad) (cy := cy) haN
  rw [gE_arr hka (by decide)] at hget
  refine va_iald hx0 hb hK.1 hR.1 a 1 hget rfl (inB_vp hin) hdg ?_
  exact nxt hk ht hi hR kk hl

set_option maxRecDepth 100000 in
set_option maxHeartbeats 4000000 in
theorem s_laload (hC : Cx D cy k p s m args meth c) (hk : k < gNM) (hR : Rl D cy ad h A s H locs) (hl : lv_has lsr ls.length (lzL ad ls)) (ht : (gTab k)[i]? = some (pc, .laload, len)) (hdg : decode (gB k) pc = .ok (.laload, len)) (hln : ilen (.laload) = len ∨ ilen (.laload) = 0) (hx : ex1 i (.laload) ls st h = some (i', ls', st', h')) (hi : i' < (gTab k).length) (kk : KK p l e R s m args below meth c Q D cy A k ad h cells slots i' ls' st' h') : W p l e R s m args below meth c H locs cells slots Q (F0 m pc lsr (st.map (rV ad))) := by
  obtain ⟨hx0, hb, hml, hown, hts, hK, hini⟩ := hC
  dsimp only [ex1, xJal] at hx
  split at hx
  rotate_left
  · cases hx
  rename_i j a r
  split at hx
  rotate_left
  · cases hx
  rename_i hc
  obtain ⟨hka, haN, hin⟩ := hc
  cases hx
  obtain rfl : len = 1 := len_of (N := 1) hln (by decide)
  have hget := gws_get (ad := ad) (cy := cy) haN
  rw [gE_arr hka (by decide)] at hget
  refine va_lald hx0 hb hK.1 hR.1 a 2 hget rfl (inB_vp hin) hdg ?_
  exact nxt hk ht hi hR kk hl

set_option maxRecDepth 100000 in
set_option maxHeartbeats 4000000 in
theorem s_aaload (hC : Cx D cy k p s m args meth c) (hk : k < gNM) (hR : Rl D cy ad h A s H locs) (hl : lv_has lsr ls.length (lzL ad ls)) (ht : (gTab k)[i]? = some (pc, .aaload, len)) (hdg : decode (gB k) pc = .ok (.aaload, len)) (hln : ilen (.aaload) = len ∨ ilen (.aaload) = 0) (hx : ex1 i (.aaload) ls st h = some (i', ls', st', h')) (hi : i' < (gTab k).length) (kk : KK p l e R s m args below meth c Q D cy A k ad h cells slots i' ls' st' h') : W p l e R s m args below meth c H locs cells slots Q (F0 m pc lsr (st.map (rV ad))) := by
  obtain ⟨hx0, hb, hml, hown, hts, hK, hini⟩ := hC
  dsimp only [ex1, xAal] at hx
  split at hx
  rotate_left
  · cases hx
  rename_i j a r
  split at hx
  rotate_left
  · cases hx
  rename_i hc
  obtain ⟨hka, haN, hin⟩ := hc
  cases hx
  obtain rfl : len = 1 := len_of (N := 1) hln (by decide)
  have hget := gws_get (ad := ad) (cy := cy) haN
  rw [gE_arr hka (by decide)] at hget
  refine va_aldq hx0 hb hK.1 hR.1 a 4 hget rfl (inB_vp hin) hdg ?_
  rw [← rV_rf]
  exact nxt hk ht hi hR kk hl

set_option maxRecDepth 100000 in
set_option maxHeartbeats 4000000 in
theorem s_baload (hC : Cx D cy k p s m args meth c) (hk : k < gNM) (hR : Rl D cy ad h A s H locs) (hl : lv_has lsr ls.length (lzL ad ls)) (ht : (gTab k)[i]? = some (pc, .baload, len)) (hdg : decode (gB k) pc = .ok (.baload, len)) (hln : ilen (.baload) = len ∨ ilen (.baload) = 0) (hx : ex1 i (.baload) ls st h = some (i', ls', st', h')) (hi : i' < (gTab k).length) (kk : KK p l e R s m args below meth c Q D cy A k ad h cells slots i' ls' st' h') : W p l e R s m args below meth c H locs cells slots Q (F0 m pc lsr (st.map (rV ad))) := by
  obtain ⟨hx0, hb, hml, hown, hts, hK, hini⟩ := hC
  dsimp only [ex1, xBal] at hx
  split at hx
  rotate_left
  · cases hx
  rename_i j a r
  split at hx
  rotate_left
  · cases hx
  rename_i hc
  obtain ⟨hka, haN, hin⟩ := hc
  cases hx
  obtain rfl : len = 1 := len_of (N := 1) hln (by decide)
  have hget := gws_get (ad := ad) (cy := cy) haN
  rcases hka with hka | hka
  · rw [gE_arr hka (by decide)] at hget
    refine va_bald hx0 hb hK.1 hR.1 a 0 hget rfl (inB_vp hin) hdg ?_
    exact nxt hk ht hi hR kk hl
  · rw [gE_arr hka (by decide)] at hget
    refine va_zald hx0 hb hK.1 hR.1 a 3 hget rfl (inB_vp hin) hdg ?_
    exact nxt hk ht hi hR kk hl

set_option maxRecDepth 100000 in
set_option maxHeartbeats 4000000 in
theorem s_iastore (hC : Cx D cy k p s m args meth c) (hk : k < gNM) (hR : Rl D cy ad h A s H locs) (hl : lv_has lsr ls.length (lzL ad ls)) (ht : (gTab k)[i]? = some (pc, .iastore, len)) (hdg : decode (gB k) pc = .ok (.iastore, len)) (hln : ilen (.iastore) = len ∨ ilen (.iastore) = 0) (hx : ex1 i (.iastore) ls st h = some (i', ls', st', h')) (hi : i' < (gTab k).length) (kk : KK p l e R s m args below meth c Q D cy A k ad h cells slots i' ls' st' h') : W p l e R s m args below meth c H locs cells slots Q (F0 m pc lsr (st.map (rV ad))) := by
  obtain ⟨hx0, hb, hml, hown, hts, hK, hini⟩ := hC
  dsimp only [ex1, xIas] at hx
  split at hx
  rotate_left
  · cases hx
  rename_i x j a r
  split at hx
  rotate_left
  · cases hx
  rename_i hc
  obtain ⟨hka, haN, hin⟩ := hc
  cases hx
  obtain rfl : len = 1 := len_of (N := 1) hln (by decide)
  have hget := gws_get (ad := ad) (cy := cy) haN
  rw [gE_arr hka (by decide)] at hget
  refine va_iast hx0 hb hK.1 hR.1 hR.2.1 hR.2.2.1 a 1 hget rfl (inB_vp hin) hdg (fun H1 locs1 hP hD hS => ?_)
  exact nxtH hk ht hi (Rl_I hR (by rw [gE_arr (h := zsI h a _ x) hka (by decide)]; unfold gAr; rw [zsI_s]; rfl) hP hD hS) rfl rfl kk hl

set_option maxRecDepth 100000 in
set_option maxHeartbeats 4000000 in
theorem s_lastore (hC : Cx D cy k p s m args meth c) (hk : k < gNM) (hR : Rl D cy ad h A s H locs) (hl : lv_has lsr ls.length (lzL ad ls)) (ht : (gTab k)[i]? = some (pc, .lastore, len)) (hdg : decode (gB k) pc = .ok (.lastore, len)) (hln : ilen (.lastore) = len ∨ ilen (.lastore) = 0) (hx : ex1 i (.lastore) ls st h = some (i', ls', st', h')) (hi : i' < (gTab k).length) (kk : KK p l e R s m args below meth c Q D cy A k ad h cells slots i' ls' st' h') : W p l e R s m args below meth c H locs cells slots Q (F0 m pc lsr (st.map (rV ad))) := by
  obtain ⟨hx0, hb, hml, hown, hts, hK, hini⟩ := hC
  dsimp only [ex1, xJas] at hx
  split at hx
  rotate_left
  · cases hx
  rename_i x j a r
  split at hx
  rotate_left
  · cases hx
  rename_i hc
  obtain ⟨hka, haN, hin⟩ := hc
  cases hx
  obtain rfl : len = 1 := len_of (N := 1) hln (by decide)
  have hget := gws_get (ad := ad) (cy := cy) haN
  rw [gE_arr hka (by decide)] at hget
  refine va_last hx0 hb hK.1 hR.1 hR.2.1 hR.2.2.1 a 2 hget rfl (inB_vp hin) hdg (fun H1 locs1 hP hD hS => ?_)
  exact nxtH hk ht hi (Rl_J hR (by rw [gE_arr (h := zsJ h a _ x) hka (by decide)]; unfold gAr; rw [zsJ_s]; rfl) hP hD hS) rfl rfl kk hl

set_option maxRecDepth 100000 in
set_option maxHeartbeats 4000000 in
theorem s_bastore (hC : Cx D cy k p s m args meth c) (hk : k < gNM) (hR : Rl D cy ad h A s H locs) (hl : lv_has lsr ls.length (lzL ad ls)) (ht : (gTab k)[i]? = some (pc, .bastore, len)) (hdg : decode (gB k) pc = .ok (.bastore, len)) (hln : ilen (.bastore) = len ∨ ilen (.bastore) = 0) (hx : ex1 i (.bastore) ls st h = some (i', ls', st', h')) (hi : i' < (gTab k).length) (kk : KK p l e R s m args below meth c Q D cy A k ad h cells slots i' ls' st' h') : W p l e R s m args below meth c H locs cells slots Q (F0 m pc lsr (st.map (rV ad))) := by
  obtain ⟨hx0, hb, hml, hown, hts, hK, hini⟩ := hC
  dsimp only [ex1, xBas] at hx
  split at hx
  rotate_left
  · cases hx
  rename_i x j a r
  split at hx
  rotate_left
  · cases hx
  rename_i hc
  obtain ⟨haN, hin⟩ := hc
  have hget := gws_get (ad := ad) (cy := cy) haN
  split at hx
  · rename_i hka
    cases hx
    obtain rfl : len = 1 := len_of (N := 1) hln (by decide)
    rw [gE_arr hka (by decide)] at hget
    refine va_bast hx0 hb hK.1 hR.1 hR.2.1 hR.2.2.1 a 0 hget rfl (inB_vp hin) hdg (fun H1 locs1 hP hD hS => ?_)
    exact nxtH hk ht hi (Rl_I hR (by rw [gE_arr (h := zsI h a _ _) hka (by decide)]; unfold gAr; rw [zsI_s]; rfl) hP hD hS) rfl rfl kk hl
  · split at hx
    rotate_left
    · cases hx
    rename_i hka
    cases hx
    obtain rfl : len = 1 := len_of (N := 1) hln (by decide)
    rw [gE_arr hka (by decide)] at hget
    refine va_zast hx0 hb hK.1 hR.1 hR.2.1 hR.2.2.1 a 3 hget rfl (inB_vp hin) hdg (fun H1 locs1 hP hD hS => ?_)
    exact nxtH hk ht hi (Rl_I hR (by rw [gE_arr (h := zsI h a _ _) hka (by decide)]; unfold gAr; rw [zsI_s]; rfl) hP hD hS) rfl rfl kk hl

set_option maxRecDepth 100000 in
set_option maxHeartbeats 4000000 in
theorem s_aastore (hC : Cx D cy k p s m args meth c) (hk : k < gNM) (hR : Rl D cy ad h A s H locs) (hl : lv_has lsr ls.length (lzL ad ls)) (ht : (gTab k)[i]? = some (pc, .aastore, len)) (hdg : decode (gB k) pc = .ok (.aastore, len)) (hln : ilen (.aastore) = len ∨ ilen (.aastore) = 0) (hx : ex1 i (.aastore) ls st h = some (i', ls', st', h')) (hi : i' < (gTab k).length) (kk : KK p l e R s m args below meth c Q D cy A k ad h cells slots i' ls' st' h') : W p l e R s m args below meth c H locs cells slots Q (F0 m pc lsr (st.map (rV ad))) := by
  obtain ⟨hx0, hb, hml, hown, hts, hK, hini⟩ := hC
  dsimp only [ex1, xAas] at hx
  split at hx
  rotate_left
  · cases hx
  rename_i b j a r
  split at hx
  rotate_left
  · cases hx
  rename_i hc
  obtain ⟨hka, haN, hin, hkb, hbN⟩ := hc
  cases hx
  obtain rfl : len = 1 := len_of (N := 1) hln (by decide)
  have hget := gws_get (ad := ad) (cy := cy) haN
  rw [gE_arr hka (by decide)] at hget
  have hgb := gws_get (ad := ad) (cy := cy) hbN
  rw [gE_obj hkb (by decide)] at hgb
  refine va_astq hx0 hb hK.1 hR.1 hR.2.1 hR.2.2.1 a 4 b 6 hget rfl hgb (kind_ok 6 (by decide)).1 (inB_vp hin) hdg (fun H1 locs1 hP hD hS => ?_)
  refine nxtH hk ht hi (Rl_R hbN hR ?_ hP hD hS) rfl rfl kk hl
  rw [gE_arr (h := zsR h a _ (some b)) hka (by decide)]
  unfold gAr
  rw [zsR_s]
  have e1 : (fun i => Option.map ad (va_up (zR h a) j.toNatClampNeg (some b) i)) = va_up (fun i => Option.map ad (zR h a i)) j.toNatClampNeg (some (ad b)) := by
    funext q
    unfold va_up
    split <;> rfl
  rw [e1]
  rfl

set_option maxRecDepth 100000 in
set_option maxHeartbeats 4000000 in
theorem s_arraylength (hC : Cx D cy k p s m args meth c) (hk : k < gNM) (hR : Rl D cy ad h A s H locs) (hl : lv_has lsr ls.length (lzL ad ls)) (ht : (gTab k)[i]? = some (pc, .arraylength, len)) (hdg : decode (gB k) pc = .ok (.arraylength, len)) (hln : ilen (.arraylength) = len ∨ ilen (.arraylength) = 0) (hx : ex1 i (.arraylength) ls st h = some (i', ls', st', h')) (hi : i' < (gTab k).length) (kk : KK p l e R s m args below meth c Q D cy A k ad h cells slots i' ls' st' h') : W p l e R s m args below meth c H locs cells slots Q (F0 m pc lsr (st.map (rV ad))) := by
  obtain ⟨hx0, hb, hml, hown, hts, hK, hini⟩ := hC
  dsimp only [ex1, xLen] at hx
  split at hx
  rotate_left
  · cases hx
  rename_i a r
  split at hx
  rotate_left
  · cases hx
  rename_i hc
  obtain ⟨hka, haN⟩ := hc
  cases hx
  obtain rfl : len = 1 := len_of (N := 1) hln (by decide)
  have hget := gws_get (ad := ad) (cy := cy) haN
  rcases hka with hka | hka | hka | hka | hka
  · rw [gE_arr hka (by decide)] at hget
    refine va_alen hx0 hb hK.1 hR.1 a 0 hget rfl rfl hdg ?_
    exact nxt hk ht hi hR kk hl
  · rw [gE_arr hka (by decide)] at hget
    refine va_alen hx0 hb hK.1 hR.1 a 1 hget rfl rfl hdg ?_
    exact nxt hk ht hi hR kk hl
  · rw [gE_arr hka (by decide)] at hget
    refine va_alen hx0 hb hK.1 hR.1 a 2 hget rfl rfl hdg ?_
    exact nxt hk ht hi hR kk hl
  · rw [gE_arr hka (by decide)] at hget
    refine va_alen hx0 hb hK.1 hR.1 a 3 hget rfl rfl hdg ?_
    exact nxt hk ht hi hR kk hl
  · rw [gE_arr hka (by decide)] at hget
    refine va_alen hx0 hb hK.1 hR.1 a 4 hget rfl rfl hdg ?_
    exact nxt hk ht hi hR kk hl

set_option maxRecDepth 100000 in
set_option maxHeartbeats 4000000 in
theorem s_saload (hC : Cx D cy k p s m args meth c) (hk : k < gNM) (hR : Rl D cy ad h A s H locs) (hl : lv_has lsr ls.length (lzL ad ls)) (ht : (gTab k)[i]? = some (pc, .iaload, len)) (hdg : decode (gB k) pc = .ok (.iaload, len)) (hln : ilen (.iaload) = len ∨ ilen (.iaload) = 0) (hx : ex1 i (.saload) ls st h = some (i', ls', st', h')) (hi : i' < (gTab k).length) (kk : KK p l e R s m args below meth c Q D cy A k ad h cells slots i' ls' st' h') (hsx : ∃ xs : Nat → Int32, va_X (ad zSC) (zL h zSC) xs s s.heap ∧ ad zSC < s.heap.size ∧ ¬ A (ad zSC) ∧ zI h zSC = xs) : W p l e R s m args below meth c H locs cells slots Q (F0 m pc lsr (st.map (rV ad))) := by
  obtain ⟨hx0, hb, hml, hown, hts, hK, hini⟩ := hC
  dsimp only [ex1, xSal] at hx
  split at hx
  rotate_left
  · cases hx
  rename_i j a r
  split at hx
  rotate_left
  · cases hx
  rename_i hc
  obtain ⟨rfl, hin⟩ := hc
  cases hx
  obtain rfl : len = 1 := len_of (N := 1) hln (by decide)
  obtain ⟨xs, hX, hbl, hbA, hxs⟩ := hsx
  refine va_sld hx0 hb hX hbl hbA hR.2.2.1 (inB_vp hin) hdg ?_
  rw [← hxs]
  exact nxt hk ht hi hR kk hl

set_option maxRecDepth 100000 in
set_option maxHeartbeats 4000000 in
theorem s_sastore (hC : Cx D cy k p s m args meth c) (hk : k < gNM) (hR : Rl D cy ad h A s H locs) (hl : lv_has lsr ls.length (lzL ad ls)) (ht : (gTab k)[i]? = some (pc, .arraylength, len)) (hdg : decode (gB k) pc = .ok (.arraylength, len)) (hln : ilen (.arraylength) = len ∨ ilen (.arraylength) = 0) (hx : ex1 i (.sastore) ls st h = some (i', ls', st', h')) (hi : i' < (gTab k).length) (kk : KK p l e R s m args below meth c Q D cy A k ad h cells slots i' ls' st' h') (hsx : ∃ xs : Nat → Int32, va_X (ad zSC) (zL h zSC) xs s s.heap ∧ ad zSC < s.heap.size ∧ ¬ A (ad zSC) ∧ zI h zSC = xs) : W p l e R s m args below meth c H locs cells slots Q (F0 m pc lsr (st.map (rV ad))) := by
  obtain ⟨hx0, hb, hml, hown, hts, hK, hini⟩ := hC
  dsimp only [ex1, xSlen] at hx
  split at hx
  rotate_left
  · cases hx
  rename_i a r
  split at hx
  rotate_left
  · cases hx
  rename_i hc
  subst hc
  cases hx
  obtain rfl : len = 1 := len_of (N := 1) hln (by decide)
  obtain ⟨xs, hX, hbl, hbA, hxs⟩ := hsx
  refine va_slen hx0 hb hX hbl hbA hR.2.2.1 hdg ?_
  exact nxt hk ht hi hR kk hl

set_option maxRecDepth 100000 in
set_option maxHeartbeats 4000000 in
theorem s_tableswitch {d lo hi0 : Int} {offs : Array Int} (hC : Cx D cy k p s m args meth c) (hk : k < gNM) (hR : Rl D cy ad h A s H locs) (hl : lv_has lsr ls.length (lzL ad ls)) (ht : (gTab k)[i]? = some (pc, .tableswitch d lo hi0 offs, len)) (hdg : decode (gB k) pc = .ok (.tableswitch d lo hi0 offs, len)) (hln : ilen (.tableswitch d lo hi0 offs) = len ∨ ilen (.tableswitch d lo hi0 offs) = 0) (hx : ex1 i (.tableswitch ((ix (gTab k) pc d).getD (-1)) lo hi0 (offs.map (fun o => (ix (gTab k) pc o).getD (-1)))) ls st h = some (i', ls', st', h')) (hi : i' < (gTab k).length) (kk : KK p l e R s m args below meth c Q D cy A k ad h cells slots i' ls' st' h') (hsw : (ix (gTab k) pc d).isSome = true ∧ hi0 - lo + 1 = offs.size ∧ ∀ o ∈ offs, (ix (gTab k) pc o).isSome = true) : W p l e R s m args below meth c H locs cells slots Q (F0 m pc lsr (st.map (rV ad))) := by
  obtain ⟨hx0, hb, hml, hown, hts, hK, hini⟩ := hC
  dsimp only [ex1, xSw] at hx
  split at hx
  rotate_left
  · cases hx
  rename_i x r
  cases hx
  by_cases hc : x.toInt < lo ∨ hi0 < x.toInt
  · have e1 : swt ((ix (gTab k) pc d).getD (-1)) lo hi0 (offs.map (fun o => (ix (gTab k) pc o).getD (-1))) x = ((ix (gTab k) pc d).getD (-1)).toNat := if_pos hc
    rw [e1] at kk
    obtain ⟨t, hq⟩ := Option.isSome_iff_exists.mp hsw.1
    rw [hq] at kk
    obtain ⟨tgt, h1, h2⟩ := tgtW hR hq kk hl
    exact lv_tableOut hx0 hb hdg hc h1 h2
  · have e1 : swt ((ix (gTab k) pc d).getD (-1)) lo hi0 (offs.map (fun o => (ix (gTab k) pc o).getD (-1))) x = (((offs.map (fun o => (ix (gTab k) pc o).getD (-1)))[(x.toInt - lo).toNat]?).getD 0).toNat := if_neg hc
    rw [e1] at kk
    have hlt : (x.toInt - lo).toNat < offs.size := by have := hsw.2.1; omega
    have ho : offs[(x.toInt - lo).toNat]? = some offs[(x.toInt - lo).toNat] := Array.getElem?_eq_getElem hlt
    obtain ⟨t, hq⟩ := Option.isSome_iff_exists.mp (hsw.2.2 _ (Array.getElem_mem hlt))
    rw [Array.getElem?_map, ho] at kk
    dsimp only [Option.map, Option.getD] at kk
    rw [show (ix (gTab k) pc offs[(x.toInt - lo).toNat]) = some t from hq] at kk
    obtain ⟨tgt, h1, h2⟩ := tgtW hR hq kk hl
    exact lv_tableIn hx0 hb hdg (fun q => hc (Or.inl q)) (fun q => hc (Or.inr q)) ho h1 h2

set_option maxRecDepth 100000 in
set_option maxHeartbeats 4000000 in
theorem s_newarray {t : ArrayType} (hC : Cx D cy k p s m args meth c) (hk : k < gNM) (hR : Rl D cy ad h A s H locs) (hl : lv_has lsr ls.length (lzL ad ls)) (ht : (gTab k)[i]? = some (pc, .newarray t, len)) (hdg : decode (gB k) pc = .ok (.newarray t, len)) (hln : ilen (.newarray t) = len ∨ ilen (.newarray t) = 0) (hx : ex1 i (.newarray t) ls st h = some (i', ls', st', h')) (hi : i' < (gTab k).length) (kk : KK p l e R s m args below meth c Q D cy A k ad h cells slots i' ls' st' h') (hA : ∀ q, s.heap.size ≤ q → A q) (hcr : cells + zC h' ≤ R.cells + zC h) (hsr : slots + zS h' ≤ R.slots + zS h) : W p l e R s m args below meth c H locs cells slots Q (F0 m pc lsr (st.map (rV ad))) := by
  obtain ⟨hx0, hb, hml, hown, hts, hK, hini⟩ := hC
  dsimp only [ex1, xNwa] at hx
  split at hx
  rotate_left
  · cases hx
  rename_i n r
  split at hx
  rotate_left
  · cases hx
  rename_i hc
  obtain ⟨h13, hn0, hn8, hsc, hfo⟩ := hc
  cases hx
  obtain rfl : len = 2 := len_of (N := 2) hln (by decide)
  have hcr' : cells + 1 ≤ R.cells := by
    have : cells + (zC h + 1) ≤ R.cells + zC h := hcr
    omega
  have hsr' : slots + n.toNatClampNeg ≤ R.slots := by
    have : slots + (zS h + n.toNatClampNeg) ≤ R.slots + zS h := hsr
    omega
  simp only [fOK, Bool.and_eq_true] at hfo
  have fin : ∀ (q : Nat) (H1 : Heap) (E : va_E), gE (u1 ad (zN h) q) cy (zNew h (atk t) n.toNatClampNeg n.toNatClampNeg) (zN h) = E → va_P D vwCl (gws ad cy h ++ [(q, E)]) H1 → va_D A (gws ad cy h ++ [(q, E)]) → va_S A s.heap H1 locs → W p l e R s m args below meth c H1 locs (cells + 1) (slots + n.toNatClampNeg) Q (F0 m (pc + 2) lsr (.ref q :: r.map (rV ad))) := by
    intro q H1 E he hP hD hS
    obtain ⟨o', len', hq⟩ := nx_row hk ht hi
    have hRn := Rl_new (n0 := n.toNatClampNeg) (s0 := n.toNatClampNeg) hR hsc he hP hD hS
    have hext := u1_ext (ad := ad) (q := q) hsc
    have z := kk _ _ _ (u1 ad (zN h) q) (cells + 1) (slots + n.toNatClampNeg) H1 locs lsr hq hext (by show cells + 1 + zC h = cells + (zC h + 1); omega) (by show slots + n.toNatClampNeg + zS h = slots + (zS h + n.toNatClampNeg); omega) hRn (by rw [lzL_ad hext hfo.1]; exact hl)
    have e1 : (Value.ref (zN h) :: r).map (rV (u1 ad (zN h) q)) = .ref q :: r.map (rV ad) := by
      rw [List.map_cons, st_ad hext hfo.2]
      show Value.ref (u1 ad (zN h) q (zN h)) :: _ = _
      simp [u1]
    rw [e1] at z
    exact z
  have hkN : ∀ q, zK (zNew h q n.toNatClampNeg n.toNatClampNeg) (zN h) = q := fun q => by
    show u1 (zK h) (zN h) q (zN h) = q
    simp [u1]
  have hLN : ∀ q, zL (zNew h q n.toNatClampNeg n.toNatClampNeg) (zN h) = n.toNatClampNeg := fun q => by
    show u1 (zL h) (zN h) _ (zN h) = _
    simp [u1]
  have hIN : ∀ q, zI (zNew h q n.toNatClampNeg n.toNatClampNeg) (zN h) = fun _ => 0 := fun q => by
    show u1 (zI h) (zN h) _ (zN h) = _
    simp [u1]
  have hJN : ∀ q, zJ (zNew h q n.toNatClampNeg n.toNatClampNeg) (zN h) = fun _ => 0 := fun q => by
    show u1 (zJ h) (zN h) _ (zN h) = _
    simp [u1]
  cases t
  case boolean =>
    refine va_newa hx0 hb (hts _ (aW .boolean (by decide))) (ty := .boolean) rfl hK.1 hR.1 hR.2.1 hR.2.2.1 hA (a0 := (n.toNatClampNeg, .inl (fun _ => 0))) (fun _ => rfl) (Int32.not_lt.mpr hn0) rfl (Nat.le_trans (Nat.mul_le_mul_left _ (by decide)) hn8) hcr' hsr' hdg (fun q cA H1 hK1 hP hD hS => fin q H1 _ ?_ hP hD hS)
    have e1 : cA = cy 16 := by
      have a1 := (hK1.2 5 _ rfl).2
      have a2 := (hK.1.2 3 _ rfl).2
      exact Option.some.inj (a1.symm.trans a2)
    rw [gE_arr (hkN _) (by decide), e1]
    unfold gAr
    simp only [hLN, hIN, atk]
  case byte =>
    refine va_newa hx0 hb (hts _ (aW .byte (by decide))) (ty := .byte) rfl hK.1 hR.1 hR.2.1 hR.2.2.1 hA (a0 := (n.toNatClampNeg, .inl (fun _ => 0))) (fun _ => rfl) (Int32.not_lt.mpr hn0) rfl (Nat.le_trans (Nat.mul_le_mul_left _ (by decide)) hn8) hcr' hsr' hdg (fun q cA H1 hK1 hP hD hS => fin q H1 _ ?_ hP hD hS)
    have e1 : cA = cy 13 := by
      have a1 := (hK1.2 5 _ rfl).2
      have a2 := (hK.1.2 0 _ rfl).2
      exact Option.some.inj (a1.symm.trans a2)
    rw [gE_arr (hkN _) (by decide), e1]
    unfold gAr
    simp only [hLN, hIN, atk]
  case int =>
    refine va_newa hx0 hb (hts _ (aW .int (by decide))) (ty := .int) rfl hK.1 hR.1 hR.2.1 hR.2.2.1 hA (a0 := (n.toNatClampNeg, .inl (fun _ => 0))) (fun _ => rfl) (Int32.not_lt.mpr hn0) rfl (Nat.le_trans (Nat.mul_le_mul_left _ (by decide)) hn8) hcr' hsr' hdg (fun q cA H1 hK1 hP hD hS => fin q H1 _ ?_ hP hD hS)
    have e1 : cA = cy 14 := by
      have a1 := (hK1.2 5 _ rfl).2
      have a2 := (hK.1.2 1 _ rfl).2
      exact Option.some.inj (a1.symm.trans a2)
    rw [gE_arr (hkN _) (by decide), e1]
    unfold gAr
    simp only [hLN, hIN, atk]
  case long =>
    refine va_newa hx0 hb (hts _ (aW .long (by decide))) (ty := .long) rfl hK.1 hR.1 hR.2.1 hR.2.2.1 hA (a0 := (n.toNatClampNeg, .inr (.inl (fun _ => 0)))) (fun _ => rfl) (Int32.not_lt.mpr hn0) rfl (Nat.le_trans (Nat.mul_le_mul_left _ (by decide)) hn8) hcr' hsr' hdg (fun q cA H1 hK1 hP hD hS => fin q H1 _ ?_ hP hD hS)
    have e1 : cA = cy 15 := by
      have a1 := (hK1.2 5 _ rfl).2
      have a2 := (hK.1.2 2 _ rfl).2
      exact Option.some.inj (a1.symm.trans a2)
    rw [gE_arr (hkN _) (by decide), e1]
    unfold gAr
    simp only [hLN, hJN, atk]
  all_goals exact absurd h13 (by decide)

set_option maxRecDepth 100000 in
set_option maxHeartbeats 4000000 in
theorem s_anewarray {x : Nat} (hC : Cx D cy k p s m args meth c) (hk : k < gNM) (hR : Rl D cy ad h A s H locs) (hl : lv_has lsr ls.length (lzL ad ls)) (ht : (gTab k)[i]? = some (pc, .anewarray x, len)) (hdg : decode (gB k) pc = .ok (.anewarray x, len)) (hln : ilen (.anewarray x) = len ∨ ilen (.anewarray x) = 0) (hx : ex1 i (.anewarray 17) ls st h = some (i', ls', st', h')) (hi : i' < (gTab k).length) (kk : KK p l e R s m args below meth c Q D cy A k ad h cells slots i' ls' st' h') (hA : ∀ q, s.heap.size ≤ q → A q) (hcr : cells + zC h' ≤ R.cells + zC h) (hsr : slots + zS h' ≤ R.slots + zS h) (hlx : lk gCl (gOwn k) x = some 6) : W p l e R s m args below meth c H locs cells slots Q (F0 m pc lsr (st.map (rV ad))) := by
  obtain ⟨hx0, hb, hml, hown, hts, hK, hini⟩ := hC
  dsimp only [ex1, xNwa] at hx
  split at hx
  rotate_left
  · cases hx
  rename_i n r
  split at hx
  rotate_left
  · cases hx
  rename_i hc
  obtain ⟨h13, hn0, hn8, hsc, hfo⟩ := hc
  cases hx
  obtain rfl : len = 3 := len_of (N := 3) hln (by decide)
  have hcr' : cells + 1 ≤ R.cells := by
    have : cells + (zC h + 1) ≤ R.cells + zC h := hcr
    omega
  have hsr' : slots + n.toNatClampNeg ≤ R.slots := by
    have : slots + (zS h + n.toNatClampNeg) ≤ R.slots + zS h := hsr
    omega
  simp only [fOK, Bool.and_eq_true] at hfo
  refine va_newq hx0 hb hown (hts _ (gCl_w _ (lk_get hlx))) hK.2.1 hK.1 hR.1 hR.2.1 hR.2.2.1 hA (Int32.not_lt.mpr hn0) rfl (Nat.le_trans (Nat.mul_le_mul_left _ (by decide)) hn8) hcr' hsr' hdg (fun q cA H1 hK1 hP hD hS => ?_)
  obtain ⟨o', len', hq⟩ := nx_row hk ht hi
  have e1 : cA = cy 17 := by
    obtain ⟨k1, c1, -, -, -, a1⟩ := (hK1.2 5 _ rfl).2
    obtain ⟨k2, c2, -, -, -, a2⟩ := (hK.1.2 4 _ rfl).2
    exact Option.some.inj (a1.symm.trans a2)
  subst e1
  have hkN : zK (zNew h 17 n.toNatClampNeg n.toNatClampNeg) (zN h) = 17 := by
    show u1 (zK h) (zN h) 17 (zN h) = 17
    simp [u1]
  have hLN : zL (zNew h 17 n.toNatClampNeg n.toNatClampNeg) (zN h) = n.toNatClampNeg := by
    show u1 (zL h) (zN h) _ (zN h) = _
    simp [u1]
  have hRN : zR (zNew h 17 n.toNatClampNeg n.toNatClampNeg) (zN h) = fun _ => none := by
    show u1 (zR h) (zN h) _ (zN h) = _
    simp [u1]
  have hRn := Rl_new (k0 := 17) (n0 := n.toNatClampNeg) (s0 := n.toNatClampNeg) hR hsc (by
    rw [gE_arr hkN (by decide)]
    unfold gAr
    simp only [hLN, hRN]
    rfl) hP hD hS
  have hext := u1_ext (ad := ad) (q := q) hsc
  have z := kk _ _ _ (u1 ad (zN h) q) (cells + 1) (slots + n.toNatClampNeg) H1 locs lsr hq hext (by show cells + 1 + zC h = cells + (zC h + 1); omega) (by show slots + n.toNatClampNeg + zS h = slots + (zS h + n.toNatClampNeg); omega) hRn (by rw [lzL_ad hext hfo.1]; exact hl)
  have e1 : (Value.ref (zN h) :: r).map (rV (u1 ad (zN h) q)) = .ref q :: r.map (rV ad) := by
    rw [List.map_cons, st_ad hext hfo.2]
    show Value.ref (u1 ad (zN h) q (zN h)) :: _ = _
    simp [u1]
  rw [e1] at z
  exact z

set_option maxRecDepth 100000 in
set_option maxHeartbeats 4000000 in
theorem s_new {x y : Nat} (hC : Cx D cy k p s m args meth c) (hk : k < gNM) (hR : Rl D cy ad h A s H locs) (hl : lv_has lsr ls.length (lzL ad ls)) (ht : (gTab k)[i]? = some (pc, .new x, len)) (hdg : decode (gB k) pc = .ok (.new x, len)) (hln : ilen (.new x) = len ∨ ilen (.new x) = 0) (hx : ex1 i (.new y) ls st h = some (i', ls', st', h')) (hi : i' < (gTab k).length) (kk : KK p l e R s m args below meth c Q D cy A k ad h cells slots i' ls' st' h') (hA : ∀ q, s.heap.size ≤ q → A q) (hcr : cells + zC h' ≤ R.cells + zC h) (hsr : slots + zS h' ≤ R.slots + zS h) (hlx : lk gCl (gOwn k) x = some y) : W p l e R s m args below meth c H locs cells slots Q (F0 m pc lsr (st.map (rV ad))) := by
  obtain ⟨hx0, hb, hml, hown, hts, hK, hini⟩ := hC
  dsimp only [ex1, xNew] at hx
  split at hx
  rotate_left
  · cases hx
  rename_i hc
  obtain ⟨h13, hsc, hfo⟩ := hc
  cases hx
  obtain rfl : len = 3 := len_of (N := 3) hln (by decide)
  have hcr' : cells + 1 ≤ R.cells := by
    have : cells + (zC h + 1) ≤ R.cells + zC h := hcr
    omega
  have hsr' : slots + gN y ≤ R.slots := by
    have : slots + (zS h + gN y) ≤ R.slots + zS h := hsr
    omega
  simp only [fOK, Bool.and_eq_true] at hfo
  obtain ⟨hv, hws, hty, hnm, hdc⟩ := kind_ok _ h13
  have hym := List.mem_range.mpr h13
  refine va_new (ci := y) (fs := gFs ad (zNew h y 0 (gN y)) y (zN h)) hx0 hb hts hws (gTyX y) hty hown (hts _ (gCl_w _ (lk_get hlx))) (hts _ (gIn_w _ hym)) (hts _ (gIi_w _ hym)) hK.1 hR.1 hR.2.1 hR.2.2.1 hA hv (fun j hj => ?_) hcr' hsr' hdg (fun q H1 hP hD hS => ?_)
  · unfold vp_V
    rw [List.getD_eq_getElem?_getD, gFs_get hj]
    have hd1 := (hdc j hj).1
    have hI : zI (zNew h y 0 (gN y)) (zN h) j = 0 := by
      show u1 (zI h) (zN h) _ (zN h) j = _
      simp [u1]
    have hJ : zJ (zNew h y 0 (gN y)) (zN h) j = 0 := by
      show u1 (zJ h) (zN h) _ (zN h) j = _
      simp [u1]
    have hRR : zR (zNew h y 0 (gN y)) (zN h) j = none := by
      show u1 (zR h) (zN h) _ (zN h) j = _
      simp [u1]
    show defaultValue (gTyX y j) = rV ad (gv _ _ _ (gTc y j))
    have hall : ∀ (ty : FieldType) (tc : Nat), tcT ty tc = true → defaultValue ty = rV ad (gv (zNew h y 0 (gN y)) (zN h) j tc) := by
      intro ty tc q
      unfold tcT at q
      split at q
      · show Value.int 0 = .int _
        rw [hI]
      · show Value.long 0 = .long _
        rw [hJ]
      · show Value.null = rV ad (va_rf _)
        rw [hRR]
        rfl
      · show Value.null = rV ad (va_rf _)
        rw [hRR]
        rfl
      · show Value.int 0 = .int _
        rw [hI]
      · cases q
    exact hall _ _ hd1
  · obtain ⟨o', len', hq⟩ := nx_row hk ht hi
    have hkN : zK (zNew h y 0 (gN y)) (zN h) = y := by
      show u1 (zK h) (zN h) y (zN h) = y
      simp [u1]
    have hext := u1_ext (ad := ad) (q := q) hsc
    have hRn := Rl_new (k0 := y) (n0 := 0) (s0 := gN y) hR hsc (by
      rw [gE_obj hkN h13]
      congr 2
      unfold gFs
      refine List.map_congr_left fun j _ => ?_
      have hRR : zR (zNew h y 0 (gN y)) (zN h) j = none := by
        show u1 (zR h) (zN h) _ (zN h) j = _
        simp [u1]
      unfold gv
      split
      · rfl
      · rw [hRR]
        rfl
      · rfl) hP hD hS
    have z := kk _ _ _ (u1 ad (zN h) q) (cells + 1) (slots + gN y) H1 locs lsr hq hext (by show cells + 1 + zC h = cells + (zC h + 1); omega) (by show slots + gN y + zS h = slots + (zS h + gN y); omega) hRn (by rw [lzL_ad hext hfo.1]; exact hl)
    have e1 : (Value.ref (zN h) :: st).map (rV (u1 ad (zN h) q)) = .ref q :: st.map (rV ad) := by
      rw [List.map_cons, st_ad hext hfo.2]
      show Value.ref (u1 ad (zN h) q (zN h)) :: _ = _
      simp [u1]
    rw [e1] at z
    exact z

end STH
