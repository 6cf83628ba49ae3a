/-! the Model's constructor -/
theorem t_Mi0 {d C S : Nat} {h0 h : Hp} {m : Nat} {Q : Nat → Option Value → Hp → Prop} (ho : objM h m 12 1 []) (hN : zN h = m + 1 + 0) (hz : m + 36 ≤ zSC) (hw : gw (fun q => q = m) C S h0 h) (hI : zI h m = zI h0 m) (hJ : zJ h m = zJ h0 m) (hx : m < zN h0) (hzz : zer h m)
    (hq : ∀ g S', S' ≤ S + 40000 → gw (fun q => q = m) (C + 5) S' h0 g → zI g m = zI h0 m → zJ g m = zJ h0 m → objM g m 12 1 [(1, 13, 540), (5, 15, 19649), (6, 15, 49), (8, 15, 24), (9, 14, 288)] → zN g = m + 1 + 5 → zer g m → PW d 179 22 [some (.ref m)] [] g Q) : PW d 179 2 [some (.ref m)] [] h Q := by
  refine PW.arm rfl rfl rfl rfl (by decide) ho hN (by omega) (by omega) (by decide) (by decide) hw hI hJ hx hzz rfl fun g0 w0 i0 j0 o0 n0 u0 _ => ?_
  show PW d 179 6 [some (.ref m)] [] g0 Q
  replace n0 : zN g0 = m + 1 + 1 := n0
  replace o0 : objM g0 m 12 1 [(1, 13, 540)] := o0
  refine PW.arm rfl rfl rfl rfl (by decide) o0 n0 (by omega) (by omega) (by decide) (by decide) w0 i0 j0 hx u0 rfl fun g1 w1 i1 j1 o1 n1 u1 _ => ?_
  show PW d 179 10 [some (.ref m)] [] g1 Q
  replace n1 : zN g1 = m + 1 + 2 := n1
  replace o1 : objM g1 m 12 1 [(1, 13, 540), (5, 15, 19649)] := o1
  refine PW.arm rfl rfl rfl rfl (by decide) o1 n1 (by omega) (by omega) (by decide) (by decide) w1 i1 j1 hx u1 rfl fun g2 w2 i2 j2 o2 n2 u2 _ => ?_
  show PW d 179 14 [some (.ref m)] [] g2 Q
  replace n2 : zN g2 = m + 1 + 3 := n2
  replace o2 : objM g2 m 12 1 [(1, 13, 540), (5, 15, 19649), (6, 15, 49)] := o2
  refine PW.arm rfl rfl rfl rfl (by decide) o2 n2 (by omega) (by omega) (by decide) (by decide) w2 i2 j2 hx u2 rfl fun g3 w3 i3 j3 o3 n3 u3 _ => ?_
  show PW d 179 18 [some (.ref m)] [] g3 Q
  replace n3 : zN g3 = m + 1 + 4 := n3
  replace o3 : objM g3 m 12 1 [(1, 13, 540), (5, 15, 19649), (6, 15, 49), (8, 15, 24)] := o3
  refine PW.arm rfl rfl rfl rfl (by decide) o3 n3 (by omega) (by omega) (by decide) (by decide) w3 i3 j3 hx u3 rfl fun g4 w4 i4 j4 o4 n4 u4 _ => ?_
  show PW d 179 22 [some (.ref m)] [] g4 Q
  replace n4 : zN g4 = m + 1 + 5 := n4
  replace o4 : objM g4 m 12 1 [(1, 13, 540), (5, 15, 19649), (6, 15, 49), (8, 15, 24), (9, 14, 288)] := o4
  exact hq g4 _ (by omega) w4 i4 j4 o4 n4 u4
theorem t_Mi1 {d C S : Nat} {h0 h : Hp} {m : Nat} {Q : Nat → Option Value → Hp → Prop} (ho : objM h m 12 1 [(1, 13, 540), (5, 15, 19649), (6, 15, 49), (8, 15, 24), (9, 14, 288)]) (hN : zN h = m + 1 + 5) (hz : m + 36 ≤ zSC) (hw : gw (fun q => q = m) C S h0 h) (hI : zI h m = zI h0 m) (hJ : zJ h m = zJ h0 m) (hx : m < zN h0) (hzz : zer h m)
    (hq : ∀ g S', S' ≤ S + 40000 → gw (fun q => q = m) (C + 5) S' h0 g → zI g m = zI h0 m → zJ g m = zJ h0 m → objM g m 12 1 [(1, 13, 540), (5, 15, 19649), (6, 15, 49), (8, 15, 24), (9, 14, 288), (10, 14, 24), (11, 14, 2), (12, 14, 144), (13, 14, 12), (14, 14, 12)] → zN g = m + 1 + 10 → zer g m → PW d 179 42 [some (.ref m)] [] g Q) : PW d 179 22 [some (.ref m)] [] h Q := by
  refine PW.arm rfl rfl rfl rfl (by decide) ho hN (by omega) (by omega) (by decide) (by decide) hw hI hJ hx hzz rfl fun g5 w5 i5 j5 o5 n5 u5 _ => ?_
  show PW d 179 26 [some (.ref m)] [] g5 Q
  replace n5 : zN g5 = m + 1 + 6 := n5
  replace o5 : objM g5 m 12 1 [(1, 13, 540), (5, 15, 19649), (6, 15, 49), (8, 15, 24), (9, 14, 288), (10, 14, 24)] := o5
  refine PW.arm rfl rfl rfl rfl (by decide) o5 n5 (by omega) (by omega) (by decide) (by decide) w5 i5 j5 hx u5 rfl fun g6 w6 i6 j6 o6 n6 u6 _ => ?_
  show PW d 179 30 [some (.ref m)] [] g6 Q
  replace n6 : zN g6 = m + 1 + 7 := n6
  replace o6 : objM g6 m 12 1 [(1, 13, 540), (5, 15, 19649), (6, 15, 49), (8, 15, 24), (9, 14, 288), (10, 14, 24), (11, 14, 2)] := o6
  refine PW.arm rfl rfl rfl rfl (by decide) o6 n6 (by omega) (by omega) (by decide) (by decide) w6 i6 j6 hx u6 rfl fun g7 w7 i7 j7 o7 n7 u7 _ => ?_
  show PW d 179 34 [some (.ref m)] [] g7 Q
  replace n7 : zN g7 = m + 1 + 8 := n7
  replace o7 : objM g7 m 12 1 [(1, 13, 540), (5, 15, 19649), (6, 15, 49), (8, 15, 24), (9, 14, 288), (10, 14, 24), (11, 14, 2), (12, 14, 144)] := o7
  refine PW.arm rfl rfl rfl rfl (by decide) o7 n7 (by omega) (by omega) (by decide) (by decide) w7 i7 j7 hx u7 rfl fun g8 w8 i8 j8 o8 n8 u8 _ => ?_
  show PW d 179 38 [some (.ref m)] [] g8 Q
  replace n8 : zN g8 = m + 1 + 9 := n8
  replace o8 : objM g8 m 12 1 [(1, 13, 540), (5, 15, 19649), (6, 15, 49), (8, 15, 24), (9, 14, 288), (10, 14, 24), (11, 14, 2), (12, 14, 144), (13, 14, 12)] := o8
  refine PW.arm rfl rfl rfl rfl (by decide) o8 n8 (by omega) (by omega) (by decide) (by decide) w8 i8 j8 hx u8 rfl fun g9 w9 i9 j9 o9 n9 u9 _ => ?_
  show PW d 179 42 [some (.ref m)] [] g9 Q
  replace n9 : zN g9 = m + 1 + 10 := n9
  replace o9 : objM g9 m 12 1 [(1, 13, 540), (5, 15, 19649), (6, 15, 49), (8, 15, 24), (9, 14, 288), (10, 14, 24), (11, 14, 2), (12, 14, 144), (13, 14, 12), (14, 14, 12)] := o9
  exact hq g9 _ (by omega) w9 i9 j9 o9 n9 u9
theorem t_Mi2 {d C S : Nat} {h0 h : Hp} {m : Nat} {Q : Nat → Option Value → Hp → Prop} (ho : objM h m 12 1 [(1, 13, 540), (5, 15, 19649), (6, 15, 49), (8, 15, 24), (9, 14, 288), (10, 14, 24), (11, 14, 2), (12, 14, 144), (13, 14, 12), (14, 14, 12)]) (hN : zN h = m + 1 + 10) (hz : m + 36 ≤ zSC) (hw : gw (fun q => q = m) C S h0 h) (hI : zI h m = zI h0 m) (hJ : zJ h m = zJ h0 m) (hx : m < zN h0) (hzz : zer h m)
    (hq : ∀ g S', S' ≤ S + 40000 → gw (fun q => q = m) (C + 5) S' h0 g → zI g m = zI h0 m → zJ g m = zJ h0 m → objM g m 12 1 [(1, 13, 540), (5, 15, 19649), (6, 15, 49), (8, 15, 24), (9, 14, 288), (10, 14, 24), (11, 14, 2), (12, 14, 144), (13, 14, 12), (14, 14, 12), (15, 14, 12), (16, 16, 12), (24, 15, 3202), (25, 15, 1601), (26, 14, 12)] → zN g = m + 1 + 15 → zer g m → PW d 179 62 [some (.ref m)] [] g Q) : PW d 179 42 [some (.ref m)] [] h Q := by
  refine PW.arm rfl rfl rfl rfl (by decide) ho hN (by omega) (by omega) (by decide) (by decide) hw hI hJ hx hzz rfl fun g10 w10 i10 j10 o10 n10 u10 _ => ?_
  show PW d 179 46 [some (.ref m)] [] g10 Q
  replace n10 : zN g10 = m + 1 + 11 := n10
  replace o10 : objM g10 m 12 1 [(1, 13, 540), (5, 15, 19649), (6, 15, 49), (8, 15, 24), (9, 14, 288), (10, 14, 24), (11, 14, 2), (12, 14, 144), (13, 14, 12), (14, 14, 12), (15, 14, 12)] := o10
  refine PW.arm rfl rfl rfl rfl (by decide) o10 n10 (by omega) (by omega) (by decide) (by decide) w10 i10 j10 hx u10 rfl fun g11 w11 i11 j11 o11 n11 u11 _ => ?_
  show PW d 179 50 [some (.ref m)] [] g11 Q
  replace n11 : zN g11 = m + 1 + 12 := n11
  replace o11 : objM g11 m 12 1 [(1, 13, 540), (5, 15, 19649), (6, 15, 49), (8, 15, 24), (9, 14, 288), (10, 14, 24), (11, 14, 2), (12, 14, 144), (13, 14, 12), (14, 14, 12), (15, 14, 12), (16, 16, 12)] := o11
  refine PW.arm rfl rfl rfl rfl (by decide) o11 n11 (by omega) (by omega) (by decide) (by decide) w11 i11 j11 hx u11 rfl fun g12 w12 i12 j12 o12 n12 u12 _ => ?_
  show PW d 179 54 [some (.ref m)] [] g12 Q
  replace n12 : zN g12 = m + 1 + 13 := n12
  replace o12 : objM g12 m 12 1 [(1, 13, 540), (5, 15, 19649), (6, 15, 49), (8, 15, 24), (9, 14, 288), (10, 14, 24), (11, 14, 2), (12, 14, 144), (13, 14, 12), (14, 14, 12), (15, 14, 12), (16, 16, 12), (24, 15, 3202)] := o12
  refine PW.arm rfl rfl rfl rfl (by decide) o12 n12 (by omega) (by omega) (by decide) (by decide) w12 i12 j12 hx u12 rfl fun g13 w13 i13 j13 o13 n13 u13 _ => ?_
  show PW d 179 58 [some (.ref m)] [] g13 Q
  replace n13 : zN g13 = m + 1 + 14 := n13
  replace o13 : objM g13 m 12 1 [(1, 13, 540), (5, 15, 19649), (6, 15, 49), (8, 15, 24), (9, 14, 288), (10, 14, 24), (11, 14, 2), (12, 14, 144), (13, 14, 12), (14, 14, 12), (15, 14, 12), (16, 16, 12), (24, 15, 3202), (25, 15, 1601)] := o13
  refine PW.arm rfl rfl rfl rfl (by decide) o13 n13 (by omega) (by omega) (by decide) (by decide) w13 i13 j13 hx u13 rfl fun g14 w14 i14 j14 o14 n14 u14 _ => ?_
  show PW d 179 62 [some (.ref m)] [] g14 Q
  replace n14 : zN g14 = m + 1 + 15 := n14
  replace o14 : objM g14 m 12 1 [(1, 13, 540), (5, 15, 19649), (6, 15, 49), (8, 15, 24), (9, 14, 288), (10, 14, 24), (11, 14, 2), (12, 14, 144), (13, 14, 12), (14, 14, 12), (15, 14, 12), (16, 16, 12), (24, 15, 3202), (25, 15, 1601), (26, 14, 12)] := o14
  exact hq g14 _ (by omega) w14 i14 j14 o14 n14 u14
theorem t_Mi3 {d C S : Nat} {h0 h : Hp} {m : Nat} {Q : Nat → Option Value → Hp → Prop} (ho : objM h m 12 1 [(1, 13, 540), (5, 15, 19649), (6, 15, 49), (8, 15, 24), (9, 14, 288), (10, 14, 24), (11, 14, 2), (12, 14, 144), (13, 14, 12), (14, 14, 12), (15, 14, 12), (16, 16, 12), (24, 15, 3202), (25, 15, 1601), (26, 14, 12)]) (hN : zN h = m + 1 + 15) (hz : m + 36 ≤ zSC) (hw : gw (fun q => q = m) C S h0 h) (hI : zI h m = zI h0 m) (hJ : zJ h m = zJ h0 m) (hx : m < zN h0) (hzz : zer h m)
    (hq : ∀ g S', S' ≤ S + 40000 → gw (fun q => q = m) (C + 5) S' h0 g → zI g m = zI h0 m → zJ g m = zJ h0 m → objM g m 12 1 [(1, 13, 540), (5, 15, 19649), (6, 15, 49), (8, 15, 24), (9, 14, 288), (10, 14, 24), (11, 14, 2), (12, 14, 144), (13, 14, 12), (14, 14, 12), (15, 14, 12), (16, 16, 12), (24, 15, 3202), (25, 15, 1601), (26, 14, 12), (27, 14, 12), (29, 14, 7), (30, 15, 128), (31, 15, 12), (32, 15, 7)] → zN g = m + 1 + 20 → zer g m → PW d 179 82 [some (.ref m)] [] g Q) : PW d 179 62 [some (.ref m)] [] h Q := by
  refine PW.arm rfl rfl rfl rfl (by decide) ho hN (by omega) (by omega) (by decide) (by decide) hw hI hJ hx hzz rfl fun g15 w15 i15 j15 o15 n15 u15 _ => ?_
  show PW d 179 66 [some (.ref m)] [] g15 Q
  replace n15 : zN g15 = m + 1 + 16 := n15
  replace o15 : objM g15 m 12 1 [(1, 13, 540), (5, 15, 19649), (6, 15, 49), (8, 15, 24), (9, 14, 288), (10, 14, 24), (11, 14, 2), (12, 14, 144), (13, 14, 12), (14, 14, 12), (15, 14, 12), (16, 16, 12), (24, 15, 3202), (25, 15, 1601), (26, 14, 12), (27, 14, 12)] := o15
  refine PW.arm rfl rfl rfl rfl (by decide) o15 n15 (by omega) (by omega) (by decide) (by decide) w15 i15 j15 hx u15 rfl fun g16 w16 i16 j16 o16 n16 u16 _ => ?_
  show PW d 179 70 [some (.ref m)] [] g16 Q
  replace n16 : zN g16 = m + 1 + 17 := n16
  replace o16 : objM g16 m 12 1 [(1, 13, 540), (5, 15, 19649), (6, 15, 49), (8, 15, 24), (9, 14, 288), (10, 14, 24), (11, 14, 2), (12, 14, 144), (13, 14, 12), (14, 14, 12), (15, 14, 12), (16, 16, 12), (24, 15, 3202), (25, 15, 1601), (26, 14, 12), (27, 14, 12), (29, 14, 7)] := o16
  refine PW.arm rfl rfl rfl rfl (by decide) o16 n16 (by omega) (by omega) (by decide) (by decide) w16 i16 j16 hx u16 rfl fun g17 w17 i17 j17 o17 n17 u17 _ => ?_
  show PW d 179 74 [some (.ref m)] [] g17 Q
  replace n17 : zN g17 = m + 1 + 18 := n17
  replace o17 : objM g17 m 12 1 [(1, 13, 540), (5, 15, 19649), (6, 15, 49), (8, 15, 24), (9, 14, 288), (10, 14, 24), (11, 14, 2), (12, 14, 144), (13, 14, 12), (14, 14, 12), (15, 14, 12), (16, 16, 12), (24, 15, 3202), (25, 15, 1601), (26, 14, 12), (27, 14, 12), (29, 14, 7), (30, 15, 128)] := o17
  refine PW.arm rfl rfl rfl rfl (by decide) o17 n17 (by omega) (by omega) (by decide) (by decide) w17 i17 j17 hx u17 rfl fun g18 w18 i18 j18 o18 n18 u18 _ => ?_
  show PW d 179 78 [some (.ref m)] [] g18 Q
  replace n18 : zN g18 = m + 1 + 19 := n18
  replace o18 : objM g18 m 12 1 [(1, 13, 540), (5, 15, 19649), (6, 15, 49), (8, 15, 24), (9, 14, 288), (10, 14, 24), (11, 14, 2), (12, 14, 144), (13, 14, 12), (14, 14, 12), (15, 14, 12), (16, 16, 12), (24, 15, 3202), (25, 15, 1601), (26, 14, 12), (27, 14, 12), (29, 14, 7), (30, 15, 128), (31, 15, 12)] := o18
  refine PW.arm rfl rfl rfl rfl (by decide) o18 n18 (by omega) (by omega) (by decide) (by decide) w18 i18 j18 hx u18 rfl fun g19 w19 i19 j19 o19 n19 u19 _ => ?_
  show PW d 179 82 [some (.ref m)] [] g19 Q
  replace n19 : zN g19 = m + 1 + 20 := n19
  replace o19 : objM g19 m 12 1 [(1, 13, 540), (5, 15, 19649), (6, 15, 49), (8, 15, 24), (9, 14, 288), (10, 14, 24), (11, 14, 2), (12, 14, 144), (13, 14, 12), (14, 14, 12), (15, 14, 12), (16, 16, 12), (24, 15, 3202), (25, 15, 1601), (26, 14, 12), (27, 14, 12), (29, 14, 7), (30, 15, 128), (31, 15, 12), (32, 15, 7)] := o19
  exact hq g19 _ (by omega) w19 i19 j19 o19 n19 u19
theorem t_Mi4 {d C S : Nat} {h0 h : Hp} {m : Nat} {Q : Nat → Option Value → Hp → Prop} (ho : objM h m 12 1 [(1, 13, 540), (5, 15, 19649), (6, 15, 49), (8, 15, 24), (9, 14, 288), (10, 14, 24), (11, 14, 2), (12, 14, 144), (13, 14, 12), (14, 14, 12), (15, 14, 12), (16, 16, 12), (24, 15, 3202), (25, 15, 1601), (26, 14, 12), (27, 14, 12), (29, 14, 7), (30, 15, 128), (31, 15, 12), (32, 15, 7)]) (hN : zN h = m + 1 + 20) (hz : m + 36 ≤ zSC) (hw : gw (fun q => q = m) C S h0 h) (hI : zI h m = zI h0 m) (hJ : zJ h m = zJ h0 m) (hx : m < zN h0) (hzz : zer h m)
    (hq : ∀ g S', S' ≤ S + 40000 → gw (fun q => q = m) (C + 5) S' h0 g → zI g m = zI h0 m → zJ g m = zJ h0 m → objM g m 12 1 [(1, 13, 540), (5, 15, 19649), (6, 15, 49), (8, 15, 24), (9, 14, 288), (10, 14, 24), (11, 14, 2), (12, 14, 144), (13, 14, 12), (14, 14, 12), (15, 14, 12), (16, 16, 12), (24, 15, 3202), (25, 15, 1601), (26, 14, 12), (27, 14, 12), (29, 14, 7), (30, 15, 128), (31, 15, 12), (32, 15, 7), (33, 14, 130), (34, 14, 61), (35, 14, 61), (36, 14, 130), (37, 14, 6100)] → zN g = m + 1 + 25 → zer g m → PW d 179 102 [some (.ref m)] [] g Q) : PW d 179 82 [some (.ref m)] [] h Q := by
  refine PW.arm rfl rfl rfl rfl (by decide) ho hN (by omega) (by omega) (by decide) (by decide) hw hI hJ hx hzz rfl fun g20 w20 i20 j20 o20 n20 u20 _ => ?_
  show PW d 179 86 [some (.ref m)] [] g20 Q
  replace n20 : zN g20 = m + 1 + 21 := n20
  replace o20 : objM g20 m 12 1 [(1, 13, 540), (5, 15, 19649), (6, 15, 49), (8, 15, 24), (9, 14, 288), (10, 14, 24), (11, 14, 2), (12, 14, 144), (13, 14, 12), (14, 14, 12), (15, 14, 12), (16, 16, 12), (24, 15, 3202), (25, 15, 1601), (26, 14, 12), (27, 14, 12), (29, 14, 7), (30, 15, 128), (31, 15, 12), (32, 15, 7), (33, 14, 130)] := o20
  refine PW.arm rfl rfl rfl rfl (by decide) o20 n20 (by omega) (by omega) (by decide) (by decide) w20 i20 j20 hx u20 rfl fun g21 w21 i21 j21 o21 n21 u21 _ => ?_
  show PW d 179 90 [some (.ref m)] [] g21 Q
  replace n21 : zN g21 = m + 1 + 22 := n21
  replace o21 : objM g21 m 12 1 [(1, 13, 540), (5, 15, 19649), (6, 15, 49), (8, 15, 24), (9, 14, 288), (10, 14, 24), (11, 14, 2), (12, 14, 144), (13, 14, 12), (14, 14, 12), (15, 14, 12), (16, 16, 12), (24, 15, 3202), (25, 15, 1601), (26, 14, 12), (27, 14, 12), (29, 14, 7), (30, 15, 128), (31, 15, 12), (32, 15, 7), (33, 14, 130), (34, 14, 61)] := o21
  refine PW.arm rfl rfl rfl rfl (by decide) o21 n21 (by omega) (by omega) (by decide) (by decide) w21 i21 j21 hx u21 rfl fun g22 w22 i22 j22 o22 n22 u22 _ => ?_
  show PW d 179 94 [some (.ref m)] [] g22 Q
  replace n22 : zN g22 = m + 1 + 23 := n22
  replace o22 : objM g22 m 12 1 [(1, 13, 540), (5, 15, 19649), (6, 15, 49), (8, 15, 24), (9, 14, 288), (10, 14, 24), (11, 14, 2), (12, 14, 144), (13, 14, 12), (14, 14, 12), (15, 14, 12), (16, 16, 12), (24, 15, 3202), (25, 15, 1601), (26, 14, 12), (27, 14, 12), (29, 14, 7), (30, 15, 128), (31, 15, 12), (32, 15, 7), (33, 14, 130), (34, 14, 61), (35, 14, 61)] := o22
  refine PW.arm rfl rfl rfl rfl (by decide) o22 n22 (by omega) (by omega) (by decide) (by decide) w22 i22 j22 hx u22 rfl fun g23 w23 i23 j23 o23 n23 u23 _ => ?_
  show PW d 179 98 [some (.ref m)] [] g23 Q
  replace n23 : zN g23 = m + 1 + 24 := n23
  replace o23 : objM g23 m 12 1 [(1, 13, 540), (5, 15, 19649), (6, 15, 49), (8, 15, 24), (9, 14, 288), (10, 14, 24), (11, 14, 2), (12, 14, 144), (13, 14, 12), (14, 14, 12), (15, 14, 12), (16, 16, 12), (24, 15, 3202), (25, 15, 1601), (26, 14, 12), (27, 14, 12), (29, 14, 7), (30, 15, 128), (31, 15, 12), (32, 15, 7), (33, 14, 130), (34, 14, 61), (35, 14, 61), (36, 14, 130)] := o23
  refine PW.arm rfl rfl rfl rfl (by decide) o23 n23 (by omega) (by omega) (by decide) (by decide) w23 i23 j23 hx u23 rfl fun g24 w24 i24 j24 o24 n24 u24 _ => ?_
  show PW d 179 102 [some (.ref m)] [] g24 Q
  replace n24 : zN g24 = m + 1 + 25 := n24
  replace o24 : objM g24 m 12 1 [(1, 13, 540), (5, 15, 19649), (6, 15, 49), (8, 15, 24), (9, 14, 288), (10, 14, 24), (11, 14, 2), (12, 14, 144), (13, 14, 12), (14, 14, 12), (15, 14, 12), (16, 16, 12), (24, 15, 3202), (25, 15, 1601), (26, 14, 12), (27, 14, 12), (29, 14, 7), (30, 15, 128), (31, 15, 12), (32, 15, 7), (33, 14, 130), (34, 14, 61), (35, 14, 61), (36, 14, 130), (37, 14, 6100)] := o24
  exact hq g24 _ (by omega) w24 i24 j24 o24 n24 u24
theorem t_Mi5 {d C S : Nat} {h0 h : Hp} {m : Nat} {Q : Nat → Option Value → Hp → Prop} (ho : objM h m 12 1 [(1, 13, 540), (5, 15, 19649), (6, 15, 49), (8, 15, 24), (9, 14, 288), (10, 14, 24), (11, 14, 2), (12, 14, 144), (13, 14, 12), (14, 14, 12), (15, 14, 12), (16, 16, 12), (24, 15, 3202), (25, 15, 1601), (26, 14, 12), (27, 14, 12), (29, 14, 7), (30, 15, 128), (31, 15, 12), (32, 15, 7), (33, 14, 130), (34, 14, 61), (35, 14, 61), (36, 14, 130), (37, 14, 6100)]) (hN : zN h = m + 1 + 25) (hz : m + 36 ≤ zSC) (hw : gw (fun q => q = m) C S h0 h) (hI : zI h m = zI h0 m) (hJ : zJ h m = zJ h0 m) (hx : m < zN h0) (hzz : zer h m)
    (hq : ∀ g S', S' ≤ S + 40000 → gw (fun q => q = m) (C + 5) S' h0 g → zI g m = zI h0 m → zJ g m = zJ h0 m → objM g m 12 1 [(1, 13, 540), (5, 15, 19649), (6, 15, 49), (8, 15, 24), (9, 14, 288), (10, 14, 24), (11, 14, 2), (12, 14, 144), (13, 14, 12), (14, 14, 12), (15, 14, 12), (16, 16, 12), (24, 15, 3202), (25, 15, 1601), (26, 14, 12), (27, 14, 12), (29, 14, 7), (30, 15, 128), (31, 15, 12), (32, 15, 7), (33, 14, 130), (34, 14, 61), (35, 14, 61), (36, 14, 130), (37, 14, 6100), (38, 14, 6100), (45, 14, 24), (46, 14, 24), (47, 14, 24), (48, 14, 4)] → zN g = m + 1 + 30 → zer g m → PW d 179 122 [some (.ref m)] [] g Q) : PW d 179 102 [some (.ref m)] [] h Q := by
  refine PW.arm rfl rfl rfl rfl (by decide) ho hN (by omega) (by omega) (by decide) (by decide) hw hI hJ hx hzz rfl fun g25 w25 i25 j25 o25 n25 u25 _ => ?_
  show PW d 179 106 [some (.ref m)] [] g25 Q
  replace n25 : zN g25 = m + 1 + 26 := n25
  replace o25 : objM g25 m 12 1 [(1, 13, 540), (5, 15, 19649), (6, 15, 49), (8, 15, 24), (9, 14, 288), (10, 14, 24), (11, 14, 2), (12, 14, 144), (13, 14, 12), (14, 14, 12), (15, 14, 12), (16, 16, 12), (24, 15, 3202), (25, 15, 1601), (26, 14, 12), (27, 14, 12), (29, 14, 7), (30, 15, 128), (31, 15, 12), (32, 15, 7), (33, 14, 130), (34, 14, 61), (35, 14, 61), (36, 14, 130), (37, 14, 6100), (38, 14, 6100)] := o25
  refine PW.arm rfl rfl rfl rfl (by decide) o25 n25 (by omega) (by omega) (by decide) (by decide) w25 i25 j25 hx u25 rfl fun g26 w26 i26 j26 o26 n26 u26 _ => ?_
  show PW d 179 110 [some (.ref m)] [] g26 Q
  replace n26 : zN g26 = m + 1 + 27 := n26
  replace o26 : objM g26 m 12 1 [(1, 13, 540), (5, 15, 19649), (6, 15, 49), (8, 15, 24), (9, 14, 288), (10, 14, 24), (11, 14, 2), (12, 14, 144), (13, 14, 12), (14, 14, 12), (15, 14, 12), (16, 16, 12), (24, 15, 3202), (25, 15, 1601), (26, 14, 12), (27, 14, 12), (29, 14, 7), (30, 15, 128), (31, 15, 12), (32, 15, 7), (33, 14, 130), (34, 14, 61), (35, 14, 61), (36, 14, 130), (37, 14, 6100), (38, 14, 6100), (45, 14, 24)] := o26
  refine PW.arm rfl rfl rfl rfl (by decide) o26 n26 (by omega) (by omega) (by decide) (by decide) w26 i26 j26 hx u26 rfl fun g27 w27 i27 j27 o27 n27 u27 _ => ?_
  show PW d 179 114 [some (.ref m)] [] g27 Q
  replace n27 : zN g27 = m + 1 + 28 := n27
  replace o27 : objM g27 m 12 1 [(1, 13, 540), (5, 15, 19649), (6, 15, 49), (8, 15, 24), (9, 14, 288), (10, 14, 24), (11, 14, 2), (12, 14, 144), (13, 14, 12), (14, 14, 12), (15, 14, 12), (16, 16, 12), (24, 15, 3202), (25, 15, 1601), (26, 14, 12), (27, 14, 12), (29, 14, 7), (30, 15, 128), (31, 15, 12), (32, 15, 7), (33, 14, 130), (34, 14, 61), (35, 14, 61), (36, 14, 130), (37, 14, 6100), (38, 14, 6100), (45, 14, 24), (46, 14, 24)] := o27
  refine PW.arm rfl rfl rfl rfl (by decide) o27 n27 (by omega) (by omega) (by decide) (by decide) w27 i27 j27 hx u27 rfl fun g28 w28 i28 j28 o28 n28 u28 _ => ?_
  show PW d 179 118 [some (.ref m)] [] g28 Q
  replace n28 : zN g28 = m + 1 + 29 := n28
  replace o28 : objM g28 m 12 1 [(1, 13, 540), (5, 15, 19649), (6, 15, 49), (8, 15, 24), (9, 14, 288), (10, 14, 24), (11, 14, 2), (12, 14, 144), (13, 14, 12), (14, 14, 12), (15, 14, 12), (16, 16, 12), (24, 15, 3202), (25, 15, 1601), (26, 14, 12), (27, 14, 12), (29, 14, 7), (30, 15, 128), (31, 15, 12), (32, 15, 7), (33, 14, 130), (34, 14, 61), (35, 14, 61), (36, 14, 130), (37, 14, 6100), (38, 14, 6100), (45, 14, 24), (46, 14, 24), (47, 14, 24)] := o28
  refine PW.arm rfl rfl rfl rfl (by decide) o28 n28 (by omega) (by omega) (by decide) (by decide) w28 i28 j28 hx u28 rfl fun g29 w29 i29 j29 o29 n29 u29 _ => ?_
  show PW d 179 122 [some (.ref m)] [] g29 Q
  replace n29 : zN g29 = m + 1 + 30 := n29
  replace o29 : objM g29 m 12 1 [(1, 13, 540), (5, 15, 19649), (6, 15, 49), (8, 15, 24), (9, 14, 288), (10, 14, 24), (11, 14, 2), (12, 14, 144), (13, 14, 12), (14, 14, 12), (15, 14, 12), (16, 16, 12), (24, 15, 3202), (25, 15, 1601), (26, 14, 12), (27, 14, 12), (29, 14, 7), (30, 15, 128), (31, 15, 12), (32, 15, 7), (33, 14, 130), (34, 14, 61), (35, 14, 61), (36, 14, 130), (37, 14, 6100), (38, 14, 6100), (45, 14, 24), (46, 14, 24), (47, 14, 24), (48, 14, 4)] := o29
  exact hq g29 _ (by omega) w29 i29 j29 o29 n29 u29
theorem t_Mi6 {d C S : Nat} {h0 h : Hp} {m : Nat} {Q : Nat → Option Value → Hp → Prop} (ho : objM h m 12 1 [(1, 13, 540), (5, 15, 19649), (6, 15, 49), (8, 15, 24), (9, 14, 288), (10, 14, 24), (11, 14, 2), (12, 14, 144), (13, 14, 12), (14, 14, 12), (15, 14, 12), (16, 16, 12), (24, 15, 3202), (25, 15, 1601), (26, 14, 12), (27, 14, 12), (29, 14, 7), (30, 15, 128), (31, 15, 12), (32, 15, 7), (33, 14, 130), (34, 14, 61), (35, 14, 61), (36, 14, 130), (37, 14, 6100), (38, 14, 6100), (45, 14, 24), (46, 14, 24), (47, 14, 24), (48, 14, 4)]) (hN : zN h = m + 1 + 30) (hz : m + 36 ≤ zSC) (hw : gw (fun q => q = m) C S h0 h) (hI : zI h m = zI h0 m) (hJ : zJ h m = zJ h0 m) (hx : m < zN h0) (hzz : zer h m)
    (hq : ∀ g S', S' ≤ S + 40000 → gw (fun q => q = m) (C + 5) S' h0 g → zI g m = zI h0 m → zJ g m = zJ h0 m → objM g m 12 1 [(1, 13, 540), (5, 15, 19649), (6, 15, 49), (8, 15, 24), (9, 14, 288), (10, 14, 24), (11, 14, 2), (12, 14, 144), (13, 14, 12), (14, 14, 12), (15, 14, 12), (16, 16, 12), (24, 15, 3202), (25, 15, 1601), (26, 14, 12), (27, 14, 12), (29, 14, 7), (30, 15, 128), (31, 15, 12), (32, 15, 7), (33, 14, 130), (34, 14, 61), (35, 14, 61), (36, 14, 130), (37, 14, 6100), (38, 14, 6100), (45, 14, 24), (46, 14, 24), (47, 14, 24), (48, 14, 4), (49, 14, 16), (50, 14, 24), (51, 14, 4), (57, 15, 12), (58, 15, 201)] → zN g = m + 1 + 35 → zer g m → PW d 179 142 [some (.ref m)] [] g Q) : PW d 179 122 [some (.ref m)] [] h Q := by
  refine PW.arm rfl rfl rfl rfl (by decide) ho hN (by omega) (by omega) (by decide) (by decide) hw hI hJ hx hzz rfl fun g30 w30 i30 j30 o30 n30 u30 _ => ?_
  show PW d 179 126 [some (.ref m)] [] g30 Q
  replace n30 : zN g30 = m + 1 + 31 := n30
  replace o30 : objM g30 m 12 1 [(1, 13, 540), (5, 15, 19649), (6, 15, 49), (8, 15, 24), (9, 14, 288), (10, 14, 24), (11, 14, 2), (12, 14, 144), (13, 14, 12), (14, 14, 12), (15, 14, 12), (16, 16, 12), (24, 15, 3202), (25, 15, 1601), (26, 14, 12), (27, 14, 12), (29, 14, 7), (30, 15, 128), (31, 15, 12), (32, 15, 7), (33, 14, 130), (34, 14, 61), (35, 14, 61), (36, 14, 130), (37, 14, 6100), (38, 14, 6100), (45, 14, 24), (46, 14, 24), (47, 14, 24), (48, 14, 4), (49, 14, 16)] := o30
  refine PW.arm rfl rfl rfl rfl (by decide) o30 n30 (by omega) (by omega) (by decide) (by decide) w30 i30 j30 hx u30 rfl fun g31 w31 i31 j31 o31 n31 u31 _ => ?_
  show PW d 179 130 [some (.ref m)] [] g31 Q
  replace n31 : zN g31 = m + 1 + 32 := n31
  replace o31 : objM g31 m 12 1 [(1, 13, 540), (5, 15, 19649), (6, 15, 49), (8, 15, 24), (9, 14, 288), (10, 14, 24), (11, 14, 2), (12, 14, 144), (13, 14, 12), (14, 14, 12), (15, 14, 12), (16, 16, 12), (24, 15, 3202), (25, 15, 1601), (26, 14, 12), (27, 14, 12), (29, 14, 7), (30, 15, 128), (31, 15, 12), (32, 15, 7), (33, 14, 130), (34, 14, 61), (35, 14, 61), (36, 14, 130), (37, 14, 6100), (38, 14, 6100), (45, 14, 24), (46, 14, 24), (47, 14, 24), (48, 14, 4), (49, 14, 16), (50, 14, 24)] := o31
  refine PW.arm rfl rfl rfl rfl (by decide) o31 n31 (by omega) (by omega) (by decide) (by decide) w31 i31 j31 hx u31 rfl fun g32 w32 i32 j32 o32 n32 u32 _ => ?_
  show PW d 179 134 [some (.ref m)] [] g32 Q
  replace n32 : zN g32 = m + 1 + 33 := n32
  replace o32 : objM g32 m 12 1 [(1, 13, 540), (5, 15, 19649), (6, 15, 49), (8, 15, 24), (9, 14, 288), (10, 14, 24), (11, 14, 2), (12, 14, 144), (13, 14, 12), (14, 14, 12), (15, 14, 12), (16, 16, 12), (24, 15, 3202), (25, 15, 1601), (26, 14, 12), (27, 14, 12), (29, 14, 7), (30, 15, 128), (31, 15, 12), (32, 15, 7), (33, 14, 130), (34, 14, 61), (35, 14, 61), (36, 14, 130), (37, 14, 6100), (38, 14, 6100), (45, 14, 24), (46, 14, 24), (47, 14, 24), (48, 14, 4), (49, 14, 16), (50, 14, 24), (51, 14, 4)] := o32
  refine PW.arm rfl rfl rfl rfl (by decide) o32 n32 (by omega) (by omega) (by decide) (by decide) w32 i32 j32 hx u32 rfl fun g33 w33 i33 j33 o33 n33 u33 _ => ?_
  show PW d 179 138 [some (.ref m)] [] g33 Q
  replace n33 : zN g33 = m + 1 + 34 := n33
  replace o33 : objM g33 m 12 1 [(1, 13, 540), (5, 15, 19649), (6, 15, 49), (8, 15, 24), (9, 14, 288), (10, 14, 24), (11, 14, 2), (12, 14, 144), (13, 14, 12), (14, 14, 12), (15, 14, 12), (16, 16, 12), (24, 15, 3202), (25, 15, 1601), (26, 14, 12), (27, 14, 12), (29, 14, 7), (30, 15, 128), (31, 15, 12), (32, 15, 7), (33, 14, 130), (34, 14, 61), (35, 14, 61), (36, 14, 130), (37, 14, 6100), (38, 14, 6100), (45, 14, 24), (46, 14, 24), (47, 14, 24), (48, 14, 4), (49, 14, 16), (50, 14, 24), (51, 14, 4), (57, 15, 12)] := o33
  refine PW.arm rfl rfl rfl rfl (by decide) o33 n33 (by omega) (by omega) (by decide) (by decide) w33 i33 j33 hx u33 rfl fun g34 w34 i34 j34 o34 n34 u34 _ => ?_
  show PW d 179 142 [some (.ref m)] [] g34 Q
  replace n34 : zN g34 = m + 1 + 35 := n34
  replace o34 : objM g34 m 12 1 [(1, 13, 540), (5, 15, 19649), (6, 15, 49), (8, 15, 24), (9, 14, 288), (10, 14, 24), (11, 14, 2), (12, 14, 144), (13, 14, 12), (14, 14, 12), (15, 14, 12), (16, 16, 12), (24, 15, 3202), (25, 15, 1601), (26, 14, 12), (27, 14, 12), (29, 14, 7), (30, 15, 128), (31, 15, 12), (32, 15, 7), (33, 14, 130), (34, 14, 61), (35, 14, 61), (36, 14, 130), (37, 14, 6100), (38, 14, 6100), (45, 14, 24), (46, 14, 24), (47, 14, 24), (48, 14, 4), (49, 14, 16), (50, 14, 24), (51, 14, 4), (57, 15, 12), (58, 15, 201)] := o34
  exact hq g34 _ (by omega) w34 i34 j34 o34 n34 u34
/-- the Model as it is made: all zeros -/
theorem t_M_init {d : Nat} {h : Hp} {m : Nat} {Q : Nat → Option Value → Hp → Prop} (h1 : zK h m = 12) (h2 : zN h = m + 1) (h3 : m + 36 ≤ zSC) (hI : zI h m = fun _ => 0) (hJ : zJ h m = fun _ => 0)
    (hq : ∀ g s, s ≤ 280000 → gw (fun q => q = m) 35 s h g → mO g m → (∀ q, m ≤ q → q < m + 36 → zI g q = (fun _ => 0) ∧ zJ g q = fun _ => 0) → Q 0 none g) : PR (d + 1) m_M_init [.ref m] h Q := by
  show PW (d + 1) 179 0 [some (.ref m)] [] h Q
  refine vs_ok 2 ?_
  rw [show ((gRes 179).drop 0).take 2 = [.aload 0, .invokedynamic 4] from rfl]
  simp only [vs_aload0, vs_nil, gv_0, gv_1, gv_2, gv_3, pv_0, pv_1, va_rf_s, vs_abs, vs_max, vs_min, vs_oinit, Nat.reduceDiv, Nat.reduceMod, Nat.reduceAdd, Nat.reduceMul, Int.reduceToNat, true_and, and_true, and_self, cP_eq, cP_ne, cP_lt, cP_ge, cP_gt, cP_le, eL_i, eL_l, eL_r, eL_n, Option.toList_none, Option.toList_some, List.nil_append, List.cons_append]
  refine ⟨le_b rfl, ?_⟩
  refine t_Mi0 (C := 0) (S := 0) (h0 := h) (objM0 h1 h2) h2 h3 (gw.of_fr fr.rf) rfl rfl (by omega) (fun q a b => by omega) fun g0 s0 l0 w0 i0 j0 o0 n0 u0 => ?_
  refine t_Mi1 o0 n0 h3 w0 i0 j0 (by omega) u0 fun g1 s1 l1 w1 i1 j1 o1 n1 u1 => ?_
  refine t_Mi2 o1 n1 h3 w1 i1 j1 (by omega) u1 fun g2 s2 l2 w2 i2 j2 o2 n2 u2 => ?_
  refine t_Mi3 o2 n2 h3 w2 i2 j2 (by omega) u2 fun g3 s3 l3 w3 i3 j3 o3 n3 u3 => ?_
  refine t_Mi4 o3 n3 h3 w3 i3 j3 (by omega) u3 fun g4 s4 l4 w4 i4 j4 o4 n4 u4 => ?_
  refine t_Mi5 o4 n4 h3 w4 i4 j4 (by omega) u4 fun g5 s5 l5 w5 i5 j5 o5 n5 u5 => ?_
  refine t_Mi6 o5 n5 h3 w5 i5 j5 (by omega) u5 fun g6 s6 l6 w6 i6 j6 o6 n6 u6 => ?_
  refine vs_ok 1 ?_
  rw [show ((gRes 179).drop 142).take 1 = [.return_] from rfl]
  simp only [vs_return_, vs_nil, gv_0, gv_1, gv_2, gv_3, pv_0, pv_1, va_rf_s, Nat.reduceDiv, Nat.reduceMod, Nat.reduceAdd, Nat.reduceMul, Int.reduceToNat, true_and, and_true, and_self, cP_eq, cP_ne, cP_lt, cP_ge, cP_gt, cP_le, eL_i, eL_l, eL_r, eL_n, Option.toList_none, Option.toList_some, List.nil_append, List.cons_append]
  refine ⟨by decide, hq g6 _ (by omega) w6 o6 fun q a b => ?_⟩
  by_cases c : q = m
  · rw [c, i6, j6]
    exact ⟨hI, hJ⟩
  · exact u6 q (by omega) (by rw [n6]; omega)
