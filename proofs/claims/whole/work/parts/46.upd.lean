/-! one of Bench's rows is written -/
def bnZ (h : Hp) (b : Nat) : Prop := rowV h (b + 6) 200 0 0 1 (fun m => if m = 0 then 1 else 0)
theorem bn_upd {h h' : Hp} {b p : Nat} {ht : Int} {tm : Bool} {R : Nat → Nat} {V : Nat → RowVal} {v : RowVal} (hb : bnC h b ht tm R) (hv : bnV h R V) (hz : bnZ h b) (hp : p < 26) (hf : fr (rS (R p)) h h') (hr : rowP h' (R p) 200 v) : bnC h' b ht tm R ∧ bnV h' R (fun i => if i = p then v else V i) ∧ bnZ h' b := by
  obtain ⟨a1, a2, a3, a4, a5, a6, a7, a8, a9, aa, ab, ac, ad, ae⟩ := hb
  have o := ad p hp
  have n0 : ¬ rS (R p) b := fun c => by rcases o with o | o | o <;> rcases c with c | c <;> omega
  have n1 : ¬ rS (R p) (b + 1) := fun c => by rcases o with o | o | o <;> rcases c with c | c <;> omega
  have n6 : ¬ rS (R p) (b + 6) := fun c => by rcases o with o | o | o <;> rcases c with c | c <;> omega
  have n7 : ¬ rS (R p) (b + 6 + 1) := fun c => by rcases o with o | o | o <;> rcases c with c | c <;> omega
  have e0 := hf.2.2.2.2.2.1 b n0
  have r0 := hf.2.2.2.2.2.2.2 b n0
  have r1 := hf.2.2.2.2.2.2.2 (b + 1) n1
  refine ⟨⟨by rw [hf.1, a1], by rw [hf.2.2.1]; exact a2, by rw [e0, a3], by rw [e0, a4], a5, by rw [r0, a6], by rw [hf.1, a7], by rw [hf.2.1, a8], fun i hi => by rw [r1, a9 i hi], by rw [r0, aa], by rw [r0, ab], by rw [r0, ac], ad, ae⟩, fun i hi => ?_, hz.keep hf n6 n7⟩
  show rowP h' (R i) 200 (if i = p then v else V i)
  by_cases c : i = p
  · rw [if_pos c, c]
    exact hr
  · rw [if_neg c]
    have ne : R i ≠ R p := fun z => c (ae i p hi hp z)
    have oi := ad i hi
    refine (hv i hi).keep hf (fun z => ?_) (fun z => ?_)
    · rcases o with o | o | o <;> rcases oi with oi | oi | oi <;> rcases z with z | z <;> omega
    · rcases o with o | o | o <;> rcases oi with oi | oi | oi <;> rcases z with z | z <;> omega
