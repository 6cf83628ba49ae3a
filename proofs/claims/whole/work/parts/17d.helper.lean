/-! a helper's body: it catches -/
theorem ev_t : ∀ (n d k i : Nat) (ls : List (Option Value)) (st : List Value) (h : Hp) (t : Nat) (v : Option Value) (h' : Hp), ev n d k i ls st h = some (t, v, h') → t = 0 ∨ t = 1 ∧ v = none := by
  intro n
  induction n with
  | zero => intro d k i ls st h t v h' he; cases he
  | succ n ih =>
    intro d k i ls st h t v h' he
    rw [ev_s] at he
    split at he
    · cases he
    split at he
    · split at he
      · cases he
      split at he
      · split at he
        · split at he
          · exact ih _ _ _ _ _ _ _ _ _ he
          · cases he
        · split at he
          · split at he
            · split at he
              · exact ih _ _ _ _ _ _ _ _ _ he
              · cases he
            · cases he
          · cases he
        · cases he
      · cases he
    · split at he
      · cases he
        exact Or.inl rfl
      · split at he
        · cases he
          exact Or.inr ⟨rfl, rfl⟩
        · split at he
          · exact ih _ _ _ _ _ _ _ _ _ he
          · cases he
theorem psN_sub {ad : Nat → Nat} {ls : List (Option Value)} {n : Nat} {w : Value} : ∀ q ∈ lzL ad ((ps0 ls n).set n none), q ∈ (n, w) :: (lzL ad ls).filter (fun q => !(q.1 == n) && !(q.1 + 1 == n && q.2.category == 2)) := by
  intro q hq
  obtain ⟨j, u⟩ := q
  obtain ⟨x, hx, hu⟩ := lzL_mem.mp hq
  dsimp only at hx hu
  subst hu
  rw [List.getElem?_set] at hx
  by_cases hj : n = j
  · subst hj
    rw [if_pos rfl] at hx
    split at hx <;> cases hx
  · rw [if_neg hj] at hx
    obtain ⟨h1, h2⟩ := ps0_get hx
    refine List.mem_cons_of_mem _ (List.mem_filter.mpr ⟨lzL_mem.mpr ⟨x, h1, rfl⟩, ?_⟩)
    have e1 : (j == n) = false := by simp; omega
    dsimp only
    rw [e1]
    by_cases hc : j + 1 = n
    · have := h2 hc
      simp [rV_cat, this]
    · simp [hc]
/-- the helpers' tables of handlers -/
def gHx : Nat → List (Nat × Nat × Nat × Nat)
  | 271 => [(0, 10, 13, 13)]
  | 272 => [(0, 9, 12, 13)]
  | 273 => [(0, 12, 15, 13)]
  | 274 => [(0, 10, 13, 13)]
  | _ => []
def kHj (k i : Nat) : Bool := match gHd k i, (gTab k)[i]? with
  | some j, some a => (match gHx k, (gTab k)[j]?, (gTab k)[j + 1]?, (gRes k)[j]? with
    | [q], some b, some c, some (.astore x) => decide (q = (0, q.2.1, b.1, 13)) && decide (a.1 < q.2.1) && decide (b.2.1 = .astore x) && decide (c.1 = b.1 + 2) && decide (b.2.2 = 2) && decide (x < gML k)
    | _, _, _, _ => false)
  | _, _ => true
set_option maxRecDepth 1000000 in
theorem kHj_l : ∀ k ∈ gHlp, ∀ i ∈ List.range 20, kHj k i = true := by decide +kernel
set_option maxRecDepth 1000000 in
theorem kHn_l : ∀ k ∈ gHlp, (gTab k).length ≤ 20 ∧ gC (gOwn k) = "DiceRingLaw" := by decide +kernel
theorem kHj_of {k i j pc len xx : Nat} {o : Instr} (hk : k ∈ gHlp) (hj : gHd k i = some j) (ht : (gTab k)[i]? = some (pc, o, len)) (hx : (gRes k)[j]? = some (.astore xx)) : ∃ (e9 pcj : Nat) (oj : Instr) (lenj : Nat), gHx k = [(0, e9, pcj, 13)] ∧ covers ⟨0, e9, pcj, 13⟩ pc = true ∧ decode (gB k) pcj = .ok (.astore xx, 2) ∧ xx < gML k ∧ (gTab k)[j + 1]? = some (pcj + 2, oj, lenj) ∧ gC (gOwn k) = "DiceRingLaw" := by
  obtain ⟨n1, n2⟩ := kHn_l k hk
  have hi : i < 20 := by
    have := (List.getElem?_eq_some_iff.mp ht).1
    omega
  have z := kHj_l k hk i (List.mem_range.mpr hi)
  unfold kHj at z
  rw [hj, ht] at z
  dsimp only at z
  rw [hx] at z
  split at z
  rotate_left
  · cases z
  rename_i q b c x hq hb hc hxx
  cases hxx
  simp only [Bool.and_eq_true, decide_eq_true_eq] at z
  obtain ⟨⟨⟨⟨⟨z1, z2⟩, z3⟩, z4⟩, z5⟩, z6⟩ := z
  obtain ⟨q1, q2, q3, q4⟩ := q
  obtain ⟨b1, b2, b3⟩ := b
  obtain ⟨c1, c2, c3⟩ := c
  dsimp only at z1 z2 z3 z4 z5
  cases z1
  subst z3
  subst z5
  subst z4
  have m0 := KD_all k (gHlp_n hk).1 _ (List.mem_of_getElem? hb)
  refine ⟨q2, _, c2, c3, hq, ?_, m0, z6, hc, n2⟩
  simp [covers, z2]
set_option maxRecDepth 100000 in
set_option maxHeartbeats 4000000 in
/-- a helper's body -/
theorem bodyH (l : Launch) (hfl : l.stackTraces = false) (k : Nat) (hk4 : k ∈ gHlp) (hk : k < gNM) : ∀ n : Nat, (∀ j, j < n → CallOK l k j) → ∀ (d i : Nat) (ls : List (Option Value)) (st : List Value) (h : Hp) (v : Option Value) (h' : Hp), ev n d k i ls st h = some (0, v, h') →
    ∀ (p : Program) (e : Env) (R : Room) (s : State) (m : MethodId) (args : Array Value) (below : List Frame) (meth : Method) (c : Code) (Q : State → Prop) (D : va_G) (cy : Nat → ClassId) (A : Nat → Prop) (ad : Nat → Nat) (H : Heap) (locs : List Loc) (cells slots : Nat) (lsr : Array Slot) (pc len : Nat) (o : Instr),
    Cx D cy k p s m args meth c → ZX A s → c.exceptionTable.toList = tableOf (gHx k) → 9 ≤ d → Rl D cy ad h A s H locs → lv_has lsr ls.length (lzL ad ls) → ls.length = gML k → (gTab k)[i]? = some (pc, o, len) → (∀ q, s.heap.size ≤ q → A q) → d + 1 ≤ R.frames → 60 * (d + 1) ≤ R.locals → cells + zC h' ≤ R.cells + zC h → slots + zS h' ≤ R.slots + zS h → Sx k ad h A s →
    (∀ (pc' : Nat) (o' : Instr) (st' : List Value) (ad' : Nat → Nat) (cells' slots' : Nat) (H' : Heap) (locs' : List Loc) (lsr' : Array Slot), decode (gB k) pc' = .ok (o', 1) → rtv k o' st' = some v → (∀ a, a < zN h ∨ a = zSC → ad' a = ad a) → cells' + zC h = cells + zC h' → slots' + zS h = slots + zS h' → Rl D cy ad' h' A s H' locs' → W p l e R s m args below meth c H' locs' cells' slots' Q (F0 m pc' lsr' (st'.map (rV ad')))) →
    W p l e R s m args below meth c H locs cells slots Q (F0 m pc lsr (st.map (rV ad))) := by
  intro n
  induction n with
  | zero => intro _ d i ls st h v h' he; cases he
  | succ n ih =>
    intro hcall d i ls st h v h' he p e R s m args below meth c Q D cy A ad H locs cells slots lsr pc len o hC hZ htab hd hR hl hll ht hA hfr hlo hcr hsr hsx kr
    have ih := ih (fun j hj => hcall j (Nat.lt_succ_of_lt hj))
    have hkp := ev_keep _ _ _ _ _ _ _ _ _ _ he hR.2.2.2.2
    rw [ev_s] at he
    split at he
    · cases he
    rename_i ins hins
    obtain ⟨pc2, o2, len2, hrow, hinsr⟩ := gAll_row hk hins
    rw [ht] at hrow
    cases hrow
    have hmem := List.mem_of_getElem? ht
    have hdg := KD_all k hk _ hmem
    dsimp only at hdg
    split at he
    · -- a call
      rename_i y a r hcl
      split at he
      · cases he
      rename_i d'
      split at he
      rotate_left
      · cases he
      rename_i hcon
      split at he
      · rename_i v1 h1 hcev
        split at he
        rotate_left
        · cases he
        rename_i hfo
        have k1 := ev_keep _ _ _ _ _ _ _ _ _ _ hcev hR.2.2.2.2
        have k2 := ev_keep _ _ _ _ _ _ _ _ _ _ he k1.1
        rw [hinsr] at hcl
        have run := hcall n (Nat.lt_succ_self n) p e R s m args below meth c D cy A ad h H locs cells slots lsr pc len o st d' y a r v1 h1 hC hR (by rw [hl.1, hll]) hmem hcl hcon.1 hcon.2 hcev (by omega) (by omega) (by have := k2.2.2.2.2.1; omega) (by have := k2.2.2.2.2.2; omega)
        have hA1 : ∀ q, va_A (gws ad cy h) H.size q → A q := fun q hq => by
          rcases hq with ⟨j, E, hj⟩ | hq
          · exact hR.2.1.2 j (q, E) hj
          · exact hA q (Nat.le_trans hR.2.2.1.1 hq)
        refine g_call run hR.2.2.1 hA1 hA1 (fun ad' H1 locs1 hext hP hD hS hwf => ?_)
        have c1 := k1.2.2.2.2.1
        have c2 := k1.2.2.2.2.2
        -- the row behind
        have hlen : len = 3 := by
          have hz : ilen o = len ∨ ilen o = 0 := by
            have := List.all_eq_true.mp (kLn_l k (List.mem_range.mpr hk)) _ hmem
            simpa using this
          have h3 : ilen o = 3 := rs_cl (cl_is hcl)
          omega
        have hsx1 : ∀ ad2 : Nat → Nat, ad2 zSC = ad zSC → Sx k ad2 h1 A s := fun ad2 h2 hL => by
          obtain ⟨xs, z1, z2, z3, z4⟩ := hsx hL
          exact ⟨xs, by rw [h2, k1.2.2.1]; exact z1, by rw [h2]; exact z2, by rw [h2]; exact z3, by rw [k1.2.1]; exact z4⟩
        have hi1 : ∃ o1 len1, (gTab k)[i + 1]? = some (pc + 3, o1, len1) := by
          cases hq : (gTab k)[i + 1]? with
          | none =>
            exfalso
            have : (gRes k)[i + 1]? = none := by rw [KR_all k hk, List.getElem?_map, hq]; rfl
            cases n with
            | zero => cases he
            | succ n =>
              rw [ev_s, this] at he
              cases he
          | some q =>
            have z := kNx_nx _ i _ _ (KN_all k hk) ht hq
            dsimp only at z
            rw [hlen] at z
            obtain ⟨x1, x2, x3⟩ := q
            dsimp only at z
            subst z
            exact ⟨x2, x3, rfl⟩
        obtain ⟨o1, len1, ht1⟩ := hi1
        rcases hfo with ⟨hNN, hvo⟩ | hfo
        · -- nothing was made: the old numbers go on
          have hext2 : ∀ b, b < zN h1 ∨ b = zSC → ad b = ad' b := fun b hb => (hext b (by rw [← hNN]; exact hb)).symm
          have e1 : gws ad' cy h1 = gws ad cy h1 := by
            unfold gws
            refine List.map_congr_left fun b hb => ?_
            have hb' := List.mem_range.mp hb
            rw [hext2 b (Or.inl hb'), gE_ad hwf hext2]
          rw [e1] at hP hD
          have e2 : (v1.map (rV ad')).toList ++ r.map (rV ad) = (v1.toList ++ r).map (rV ad) := by
            rw [List.map_append]
            congr 1
            cases v1 with
            | none => rfl
            | some x =>
              show [rV ad' x] = [rV ad x]
              rw [rV_eq hext2 (N := zN h1) (v := x) hvo]
          rw [e2]
          exact ih (d' + 1) (i + 1) ls (v1.toList ++ r) h1 v h' he p e R s m args below meth c Q D cy A ad H1 locs1 _ _ lsr (pc + 3) len1 o1 hC hZ htab hd ⟨hP, hD, hS, hwf, k1.1⟩ hl hll ht1 hA hfr hlo (by omega) (by omega) (hsx1 ad rfl) (fun pc' o' st' ad2 cells' slots' H' locs' lsr' g1 g2 g3 g4 g5 g6 => kr pc' o' st' ad2 cells' slots' H' locs' lsr' g1 g2 (fun b hb => g3 b (by rw [hNN]; exact hb)) (by omega) (by omega) g6)
        · simp only [fOK, Bool.and_eq_true] at hfo
          have e2 : (v1.map (rV ad')).toList ++ r.map (rV ad) = (v1.toList ++ r).map (rV ad') := by
            rw [List.map_append, st_ad hext hfo.2]
            congr 1
            cases v1 <;> rfl
          rw [e2]
          have hN1 := k1.2.2.2.1
          exact ih (d' + 1) (i + 1) ls (v1.toList ++ r) h1 v h' he p e R s m args below meth c Q D cy A ad' H1 locs1 _ _ lsr (pc + 3) len1 o1 hC hZ htab hd ⟨hP, hD, hS, hwf, k1.1⟩ (by rw [lzL_ad hext hfo.1]; exact hl) hll ht1 hA hfr hlo (by omega) (by omega) (hsx1 ad' (hext _ (Or.inr rfl))) (fun pc' o' st' ad2 cells' slots' H' locs' lsr' g1 g2 g3 g4 g5 g6 => kr pc' o' st' ad2 cells' slots' H' locs' lsr' g1 g2 (fun b hb => by
            rw [g3 b (by omega)]
            exact hext b hb) (by omega) (by omega) g6)
      · rename_i t1 v1 h1 hne hcev
        obtain ⟨rfl, rfl⟩ : t1 = 1 ∧ v1 = none := by
          rcases ev_t _ _ _ _ _ _ _ _ _ _ hcev with z | z
          · subst z
            exact (hne rfl).elim
          · exact z
        split at he
        rotate_left
        · cases he
        rename_i j hj
        split at he
        rotate_left
        · cases he
        rename_i xx hjx
        split at he
        rotate_left
        · cases he
        rename_i hNN
        have k1 := ev_keep _ _ _ _ _ _ _ _ _ _ hcev hR.2.2.2.2
        have k2 := ev_keep _ _ _ _ _ _ _ _ _ _ he k1.1
        rw [hinsr] at hcl
        have c1 := k1.2.2.2.2.1
        have c2 := k1.2.2.2.2.2
        have c3 := k2.2.2.2.2.1
        have c4 := k2.2.2.2.2.2
        have run := callX_of (cells := cells) (slots := slots) (locs := locs) (e := e) (below := below) l hfl n k hk4 hC hR hZ hA (by rw [hl.1, hll]) hmem hcl hcon.1 hcon.2 hcev hNN (by omega) (by omega) (by omega) (by omega) (by omega)
        obtain ⟨e9, pcj, oj1, lenj1, w1, w2, w3, w4, w5, w6⟩ := kHj_of hk4 hj ht hjx
        obtain ⟨hx0, hb, hml, hown, hts, hK, hini⟩ := id hC
        rw [w1] at htab
        have hown9 : s.vm.findClass "DiceRingLaw" = some m.cls := by
          rw [← w6]
          exact hown
        have hA1 : ∀ q, va_A (gws ad cy h) H.size q → A q := fun q hq => by
          rcases hq with ⟨j, E, hj⟩ | hq
          · exact hR.2.1.2 j (q, E) hj
          · exact hA q (Nat.le_trans hR.2.2.1.1 hq)
        intro T hT X
        rcases run T hT X with ⟨v9, st9, t9, T9, L9, h09, X9, hL9, e19, e29, hf9, st9⟩ | ⟨q9, s9, t9, T9, L9, E9, ce, h09, X9, hL9, e19, e29, hx9, hce, hcv, hcl9, st9⟩
        · exact hf9.elim
        obtain ⟨rfl, hP9, hD9, hF9, hwf9⟩ := hx9
        obtain ⟨-, -, hS9⟩ := vx_keep h09 e19 hR.2.2.1 (fun q _ z => hA1 q z) hA1 hL9 hF9
        have Wx : vx_W p l e R s m args below meth c T9.heap (locs ++ L9) (cells + (zC h1 - zC h)) (slots + (zS h1 - zS h)) Q (F0 m pc lsr (r.map (rV ad))) q9 := by
          refine vx_catch (own := "DiceRingLaw") (name := nSE) (E := nSE) (ce := ce) hown9 [] ⟨0, e9, pcj, 13⟩ [] htab (fun z hz => by cases hz) w2 (show (13 : Nat) ≠ 0 from by decide) (hts _ zx_h) (va_Nw.use rfl hZ.2.2.1) (by rw [e19]; exact hce) hcv hcl9 ?_
          refine lv_astore hx0 hb w3 hl (by rw [hll]; exact w4) rfl (fun ls' hl' => ?_)
          have hlen : ((ps0 ls xx).set xx none).length = ls.length := by rw [List.length_set, ps0_len]
          have hl2 : lv_has ls' ((ps0 ls xx).set xx none).length (lzL ad ((ps0 ls xx).set xx none)) := lv_sb hl' hlen.symm psN_sub
          have z := ih (d' + 1) (j + 1) ((ps0 ls xx).set xx none) [] h1 v h' he p e R s m args below meth c Q D cy A ad T9.heap (locs ++ L9) (cells + (zC h1 - zC h)) (slots + (zS h1 - zS h)) ls' (pcj + 2) lenj1 oj1 hC hZ (by rw [w1]; exact htab) hd ⟨by rw [e19]; exact hP9, hD9.weaken (fun _ _ _ z => hA1 _ z), hS9, hwf9, k1.1⟩ hl2 (hlen.trans hll) w5 hA hfr hlo (by omega) (by omega) (fun q => absurd q (gHlp_n hk4).2.1) (fun pc' o' st' ad2 cells' slots' H' locs' lsr' g1 g2 g3 g4 g5 g6 => kr pc' o' st' ad2 cells' slots' H' locs' lsr' g1 g2 (fun b hb => g3 b (by rw [hNN]; exact hb)) (by omega) (by omega) g6)
          exact z
        obtain ⟨t, a1, b1⟩ := Wx T9 rfl X9
        exact ⟨t, st9.trans a1, b1⟩
      · cases he
    · -- an end, or a plain step
      split at he
      · rename_i v2 hrt
        cases he
        have h1 : len = 1 ∧ rtv k o st = some v := by
          rw [hinsr] at hrt
          have hz : ilen o = len ∨ ilen o = 0 := by
            have := List.all_eq_true.mp (kLn_l k (List.mem_range.mpr hk)) _ hmem
            simpa using this
          have hir := rs_rt (rt_is hrt)
          cases o
          case return_ => exact ⟨len_of (N := 1) hz (by decide), hrt⟩
          case ireturn => exact ⟨len_of (N := 1) hz (by decide), hrt⟩
          case lreturn => exact ⟨len_of (N := 1) hz (by decide), hrt⟩
          case areturn => exact ⟨len_of (N := 1) hz (by decide), hrt⟩
          all_goals (cases hir; done)
        obtain ⟨rfl, h2⟩ := h1
        exact kr pc o st ad cells slots H locs lsr hdg h2 (fun _ _ => rfl) rfl rfl hR
      · split at he
        · cases he
        · split at he
          rotate_left
          · cases he
          rename_i i2 ls2 st2 hh2 hx
          rw [hinsr] at hx
          have k1 := ex1_keep hx hR.2.2.2.2
          have k2 := ev_keep _ _ _ _ _ _ _ _ _ _ he k1.1
          have hi2 : i2 < (gTab k).length := by
            by_cases hq : i2 < (gTab k).length
            · exact hq
            · exfalso
              have : (gRes k)[i2]? = none := by
                rw [KR_all k hk, List.getElem?_map, List.getElem?_eq_none (by omega)]
                rfl
              cases n with
              | zero => cases he
              | succ n =>
                rw [ev_s, this] at he
                cases he
          refine step hC hk hR hl hll ht hx hi2 (fun pc' len' o' ad' cells' slots' H' locs' lsr' g1 g2 g3 g4 g5 g6 => ?_) hA (by omega) (by omega) (by have := k2.2.2.2.2.1; omega) (by have := k2.2.2.2.2.2; omega) hsx
          have hll2 : ls2.length = gML k := (ex1_len hx).trans hll
          have hsx1 : Sx k ad' hh2 A s := fun hL => by
            obtain ⟨xs, z1, z2, z3, z4⟩ := hsx hL
            have h2 := g2 zSC (Or.inr rfl)
            exact ⟨xs, by rw [h2, k1.2.2.1]; exact z1, by rw [h2]; exact z2, by rw [h2]; exact z3, by rw [k1.2.1]; exact z4⟩
          have hN1 := k1.2.2.2.1
          exact ih d i2 ls2 st2 hh2 v h' he p e R s m args below meth c Q D cy A ad' H' locs' cells' slots' lsr' pc' len' o' hC hZ htab hd g5 g6 hll2 g1 hA hfr hlo (by omega) (by omega) hsx1 (fun pc'' o'' st'' ad2 cells'' slots'' H'' locs'' lsr'' f1 f2 f3 f4 f5 f6 => kr pc'' o'' st'' ad2 cells'' slots'' H'' locs'' lsr'' f1 f2 (fun b hb => by
            rw [f3 b (by omega)]
            exact g2 b hb) (by omega) (by omega) f6)
