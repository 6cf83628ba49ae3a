/-- each row begins where the one ahead of it ends -/
def kNx : List (Nat × Instr × Nat) → Bool
  | a :: b :: l => (b.1 == a.1 + a.2.2) && kNx (b :: l)
  | _ => true
/-! the tables hold -/
set_option maxRecDepth 1000000 in
theorem kd_0 : ∀ e ∈ zt_0, decode (gB 0) e.1 = .ok (e.2.1, e.2.2) := by decide +kernel
set_option maxRecDepth 1000000 in
theorem kr_0 : zr_0 = zt_0.map (fun e => rs 0 zt_0 e.1 e.2.1) := by decide +kernel
set_option maxRecDepth 1000000 in
theorem kn_0 : kNx zt_0 = true := by decide +kernel
set_option maxRecDepth 1000000 in
theorem kd_1 : ∀ e ∈ zt_1, decode (gB 1) e.1 = .ok (e.2.1, e.2.2) := by decide +kernel
set_option maxRecDepth 1000000 in
theorem kr_1 : zr_1 = zt_1.map (fun e => rs 1 zt_1 e.1 e.2.1) := by decide +kernel
set_option maxRecDepth 1000000 in
theorem kn_1 : kNx zt_1 = true := by decide +kernel
set_option maxRecDepth 1000000 in
theorem kd_2 : ∀ e ∈ zt_2, decode (gB 2) e.1 = .ok (e.2.1, e.2.2) := by decide +kernel
set_option maxRecDepth 1000000 in
theorem kr_2 : zr_2 = zt_2.map (fun e => rs 2 zt_2 e.1 e.2.1) := by decide +kernel
set_option maxRecDepth 1000000 in
theorem kn_2 : kNx zt_2 = true := by decide +kernel
set_option maxRecDepth 1000000 in
theorem kd_3 : ∀ e ∈ zt_3, decode (gB 3) e.1 = .ok (e.2.1, e.2.2) := by decide +kernel
set_option maxRecDepth 1000000 in
theorem kr_3 : zr_3 = zt_3.map (fun e => rs 3 zt_3 e.1 e.2.1) := by decide +kernel
set_option maxRecDepth 1000000 in
theorem kn_3 : kNx zt_3 = true := by decide +kernel
set_option maxRecDepth 1000000 in
theorem kd_4 : ∀ e ∈ zt_4, decode (gB 4) e.1 = .ok (e.2.1, e.2.2) := by decide +kernel
set_option maxRecDepth 1000000 in
theorem kr_4 : zr_4 = zt_4.map (fun e => rs 4 zt_4 e.1 e.2.1) := by decide +kernel
set_option maxRecDepth 1000000 in
theorem kn_4 : kNx zt_4 = true := by decide +kernel
set_option maxRecDepth 1000000 in
theorem kd_5 : ∀ e ∈ zt_5, decode (gB 5) e.1 = .ok (e.2.1, e.2.2) := by decide +kernel
set_option maxRecDepth 1000000 in
theorem kr_5 : zr_5 = zt_5.map (fun e => rs 5 zt_5 e.1 e.2.1) := by decide +kernel
set_option maxRecDepth 1000000 in
theorem kn_5 : kNx zt_5 = true := by decide +kernel
set_option maxRecDepth 1000000 in
theorem kd_6 : ∀ e ∈ zt_6, decode (gB 6) e.1 = .ok (e.2.1, e.2.2) := by decide +kernel
set_option maxRecDepth 1000000 in
theorem kr_6 : zr_6 = zt_6.map (fun e => rs 6 zt_6 e.1 e.2.1) := by decide +kernel
set_option maxRecDepth 1000000 in
theorem kn_6 : kNx zt_6 = true := by decide +kernel
set_option maxRecDepth 1000000 in
theorem kd_7 : ∀ e ∈ zt_7, decode (gB 7) e.1 = .ok (e.2.1, e.2.2) := by decide +kernel
set_option maxRecDepth 1000000 in
theorem kr_7 : zr_7 = zt_7.map (fun e => rs 7 zt_7 e.1 e.2.1) := by decide +kernel
set_option maxRecDepth 1000000 in
theorem kn_7 : kNx zt_7 = true := by decide +kernel
set_option maxRecDepth 1000000 in
theorem kd_8 : ∀ e ∈ zt_8, decode (gB 8) e.1 = .ok (e.2.1, e.2.2) := by decide +kernel
set_option maxRecDepth 1000000 in
theorem kr_8 : zr_8 = zt_8.map (fun e => rs 8 zt_8 e.1 e.2.1) := by decide +kernel
set_option maxRecDepth 1000000 in
theorem kn_8 : kNx zt_8 = true := by decide +kernel
set_option maxRecDepth 1000000 in
theorem kd_9 : ∀ e ∈ zt_9, decode (gB 9) e.1 = .ok (e.2.1, e.2.2) := by decide +kernel
set_option maxRecDepth 1000000 in
theorem kr_9 : zr_9 = zt_9.map (fun e => rs 9 zt_9 e.1 e.2.1) := by decide +kernel
set_option maxRecDepth 1000000 in
theorem kn_9 : kNx zt_9 = true := by decide +kernel
set_option maxRecDepth 1000000 in
theorem kd_10 : ∀ e ∈ zt_10, decode (gB 10) e.1 = .ok (e.2.1, e.2.2) := by decide +kernel
set_option maxRecDepth 1000000 in
theorem kr_10 : zr_10 = zt_10.map (fun e => rs 10 zt_10 e.1 e.2.1) := by decide +kernel
set_option maxRecDepth 1000000 in
theorem kn_10 : kNx zt_10 = true := by decide +kernel
set_option maxRecDepth 1000000 in
theorem kd_11 : ∀ e ∈ zt_11, decode (gB 11) e.1 = .ok (e.2.1, e.2.2) := by decide +kernel
set_option maxRecDepth 1000000 in
theorem kr_11 : zr_11 = zt_11.map (fun e => rs 11 zt_11 e.1 e.2.1) := by decide +kernel
set_option maxRecDepth 1000000 in
theorem kn_11 : kNx zt_11 = true := by decide +kernel
set_option maxRecDepth 1000000 in
theorem kd_12 : ∀ e ∈ zt_12, decode (gB 12) e.1 = .ok (e.2.1, e.2.2) := by decide +kernel
set_option maxRecDepth 1000000 in
theorem kr_12 : zr_12 = zt_12.map (fun e => rs 12 zt_12 e.1 e.2.1) := by decide +kernel
set_option maxRecDepth 1000000 in
theorem kn_12 : kNx zt_12 = true := by decide +kernel
set_option maxRecDepth 1000000 in
theorem kd_13 : ∀ e ∈ zt_13, decode (gB 13) e.1 = .ok (e.2.1, e.2.2) := by decide +kernel
set_option maxRecDepth 1000000 in
theorem kr_13 : zr_13 = zt_13.map (fun e => rs 13 zt_13 e.1 e.2.1) := by decide +kernel
set_option maxRecDepth 1000000 in
theorem kn_13 : kNx zt_13 = true := by decide +kernel
set_option maxRecDepth 1000000 in
theorem kd_14 : ∀ e ∈ zt_14, decode (gB 14) e.1 = .ok (e.2.1, e.2.2) := by decide +kernel
set_option maxRecDepth 1000000 in
theorem kr_14 : zr_14 = zt_14.map (fun e => rs 14 zt_14 e.1 e.2.1) := by decide +kernel
set_option maxRecDepth 1000000 in
theorem kn_14 : kNx zt_14 = true := by decide +kernel
set_option maxRecDepth 1000000 in
theorem kd_15 : ∀ e ∈ zt_15, decode (gB 15) e.1 = .ok (e.2.1, e.2.2) := by decide +kernel
set_option maxRecDepth 1000000 in
theorem kr_15 : zr_15 = zt_15.map (fun e => rs 15 zt_15 e.1 e.2.1) := by decide +kernel
set_option maxRecDepth 1000000 in
theorem kn_15 : kNx zt_15 = true := by decide +kernel
set_option maxRecDepth 1000000 in
theorem kd_16 : ∀ e ∈ zt_16, decode (gB 16) e.1 = .ok (e.2.1, e.2.2) := by decide +kernel
set_option maxRecDepth 1000000 in
theorem kr_16 : zr_16 = zt_16.map (fun e => rs 16 zt_16 e.1 e.2.1) := by decide +kernel
set_option maxRecDepth 1000000 in
theorem kn_16 : kNx zt_16 = true := by decide +kernel
set_option maxRecDepth 1000000 in
theorem kd_17 : ∀ e ∈ zt_17, decode (gB 17) e.1 = .ok (e.2.1, e.2.2) := by decide +kernel
set_option maxRecDepth 1000000 in
theorem kr_17 : zr_17 = zt_17.map (fun e => rs 17 zt_17 e.1 e.2.1) := by decide +kernel
set_option maxRecDepth 1000000 in
theorem kn_17 : kNx zt_17 = true := by decide +kernel
set_option maxRecDepth 1000000 in
theorem kd_18 : ∀ e ∈ zt_18, decode (gB 18) e.1 = .ok (e.2.1, e.2.2) := by decide +kernel
set_option maxRecDepth 1000000 in
theorem kr_18 : zr_18 = zt_18.map (fun e => rs 18 zt_18 e.1 e.2.1) := by decide +kernel
set_option maxRecDepth 1000000 in
theorem kn_18 : kNx zt_18 = true := by decide +kernel
set_option maxRecDepth 1000000 in
theorem kd_19 : ∀ e ∈ zt_19, decode (gB 19) e.1 = .ok (e.2.1, e.2.2) := by decide +kernel
set_option maxRecDepth 1000000 in
theorem kr_19 : zr_19 = zt_19.map (fun e => rs 19 zt_19 e.1 e.2.1) := by decide +kernel
set_option maxRecDepth 1000000 in
theorem kn_19 : kNx zt_19 = true := by decide +kernel
set_option maxRecDepth 1000000 in
theorem kd_20 : ∀ e ∈ zt_20, decode (gB 20) e.1 = .ok (e.2.1, e.2.2) := by decide +kernel
set_option maxRecDepth 1000000 in
theorem kr_20 : zr_20 = zt_20.map (fun e => rs 20 zt_20 e.1 e.2.1) := by decide +kernel
set_option maxRecDepth 1000000 in
theorem kn_20 : kNx zt_20 = true := by decide +kernel
set_option maxRecDepth 1000000 in
theorem kd_21 : ∀ e ∈ zt_21, decode (gB 21) e.1 = .ok (e.2.1, e.2.2) := by decide +kernel
set_option maxRecDepth 1000000 in
theorem kr_21 : zr_21 = zt_21.map (fun e => rs 21 zt_21 e.1 e.2.1) := by decide +kernel
set_option maxRecDepth 1000000 in
theorem kn_21 : kNx zt_21 = true := by decide +kernel
set_option maxRecDepth 1000000 in
theorem kd_22 : ∀ e ∈ zt_22, decode (gB 22) e.1 = .ok (e.2.1, e.2.2) := by decide +kernel
set_option maxRecDepth 1000000 in
theorem kr_22 : zr_22 = zt_22.map (fun e => rs 22 zt_22 e.1 e.2.1) := by decide +kernel
set_option maxRecDepth 1000000 in
theorem kn_22 : kNx zt_22 = true := by decide +kernel
set_option maxRecDepth 1000000 in
theorem kd_23 : ∀ e ∈ zt_23, decode (gB 23) e.1 = .ok (e.2.1, e.2.2) := by decide +kernel
set_option maxRecDepth 1000000 in
theorem kr_23 : zr_23 = zt_23.map (fun e => rs 23 zt_23 e.1 e.2.1) := by decide +kernel
set_option maxRecDepth 1000000 in
theorem kn_23 : kNx zt_23 = true := by decide +kernel
set_option maxRecDepth 1000000 in
theorem kd_24 : ∀ e ∈ zt_24, decode (gB 24) e.1 = .ok (e.2.1, e.2.2) := by decide +kernel
set_option maxRecDepth 1000000 in
theorem kr_24 : zr_24 = zt_24.map (fun e => rs 24 zt_24 e.1 e.2.1) := by decide +kernel
set_option maxRecDepth 1000000 in
theorem kn_24 : kNx zt_24 = true := by decide +kernel
set_option maxRecDepth 1000000 in
theorem kd_25 : ∀ e ∈ zt_25, decode (gB 25) e.1 = .ok (e.2.1, e.2.2) := by decide +kernel
set_option maxRecDepth 1000000 in
theorem kr_25 : zr_25 = zt_25.map (fun e => rs 25 zt_25 e.1 e.2.1) := by decide +kernel
set_option maxRecDepth 1000000 in
theorem kn_25 : kNx zt_25 = true := by decide +kernel
set_option maxRecDepth 1000000 in
theorem kd_26 : ∀ e ∈ zt_26, decode (gB 26) e.1 = .ok (e.2.1, e.2.2) := by decide +kernel
set_option maxRecDepth 1000000 in
theorem kr_26 : zr_26 = zt_26.map (fun e => rs 26 zt_26 e.1 e.2.1) := by decide +kernel
set_option maxRecDepth 1000000 in
theorem kn_26 : kNx zt_26 = true := by decide +kernel
set_option maxRecDepth 1000000 in
theorem kd_27 : ∀ e ∈ zt_27, decode (gB 27) e.1 = .ok (e.2.1, e.2.2) := by decide +kernel
set_option maxRecDepth 1000000 in
theorem kr_27 : zr_27 = zt_27.map (fun e => rs 27 zt_27 e.1 e.2.1) := by decide +kernel
set_option maxRecDepth 1000000 in
theorem kn_27 : kNx zt_27 = true := by decide +kernel
set_option maxRecDepth 1000000 in
theorem kd_28 : ∀ e ∈ zt_28, decode (gB 28) e.1 = .ok (e.2.1, e.2.2) := by decide +kernel
set_option maxRecDepth 1000000 in
theorem kr_28 : zr_28 = zt_28.map (fun e => rs 28 zt_28 e.1 e.2.1) := by decide +kernel
set_option maxRecDepth 1000000 in
theorem kn_28 : kNx zt_28 = true := by decide +kernel
set_option maxRecDepth 1000000 in
theorem kd_29 : ∀ e ∈ zt_29, decode (gB 29) e.1 = .ok (e.2.1, e.2.2) := by decide +kernel
set_option maxRecDepth 1000000 in
theorem kr_29 : zr_29 = zt_29.map (fun e => rs 29 zt_29 e.1 e.2.1) := by decide +kernel
set_option maxRecDepth 1000000 in
theorem kn_29 : kNx zt_29 = true := by decide +kernel
set_option maxRecDepth 1000000 in
theorem kd_30 : ∀ e ∈ zt_30, decode (gB 30) e.1 = .ok (e.2.1, e.2.2) := by decide +kernel
set_option maxRecDepth 1000000 in
theorem kr_30 : zr_30 = zt_30.map (fun e => rs 30 zt_30 e.1 e.2.1) := by decide +kernel
set_option maxRecDepth 1000000 in
theorem kn_30 : kNx zt_30 = true := by decide +kernel
set_option maxRecDepth 1000000 in
theorem kd_31 : ∀ e ∈ zt_31, decode (gB 31) e.1 = .ok (e.2.1, e.2.2) := by decide +kernel
set_option maxRecDepth 1000000 in
theorem kr_31 : zr_31 = zt_31.map (fun e => rs 31 zt_31 e.1 e.2.1) := by decide +kernel
set_option maxRecDepth 1000000 in
theorem kn_31 : kNx zt_31 = true := by decide +kernel
set_option maxRecDepth 1000000 in
theorem kd_32 : ∀ e ∈ zt_32, decode (gB 32) e.1 = .ok (e.2.1, e.2.2) := by decide +kernel
set_option maxRecDepth 1000000 in
theorem kr_32 : zr_32 = zt_32.map (fun e => rs 32 zt_32 e.1 e.2.1) := by decide +kernel
set_option maxRecDepth 1000000 in
theorem kn_32 : kNx zt_32 = true := by decide +kernel
set_option maxRecDepth 1000000 in
theorem kd_33 : ∀ e ∈ zt_33, decode (gB 33) e.1 = .ok (e.2.1, e.2.2) := by decide +kernel
set_option maxRecDepth 1000000 in
theorem kr_33 : zr_33 = zt_33.map (fun e => rs 33 zt_33 e.1 e.2.1) := by decide +kernel
set_option maxRecDepth 1000000 in
theorem kn_33 : kNx zt_33 = true := by decide +kernel
set_option maxRecDepth 1000000 in
theorem kd_34 : ∀ e ∈ zt_34, decode (gB 34) e.1 = .ok (e.2.1, e.2.2) := by decide +kernel
set_option maxRecDepth 1000000 in
theorem kr_34 : zr_34 = zt_34.map (fun e => rs 34 zt_34 e.1 e.2.1) := by decide +kernel
set_option maxRecDepth 1000000 in
theorem kn_34 : kNx zt_34 = true := by decide +kernel
set_option maxRecDepth 1000000 in
theorem kd_35 : ∀ e ∈ zt_35, decode (gB 35) e.1 = .ok (e.2.1, e.2.2) := by decide +kernel
set_option maxRecDepth 1000000 in
theorem kr_35 : zr_35 = zt_35.map (fun e => rs 35 zt_35 e.1 e.2.1) := by decide +kernel
set_option maxRecDepth 1000000 in
theorem kn_35 : kNx zt_35 = true := by decide +kernel
set_option maxRecDepth 1000000 in
theorem kd_36 : ∀ e ∈ zt_36, decode (gB 36) e.1 = .ok (e.2.1, e.2.2) := by decide +kernel
set_option maxRecDepth 1000000 in
theorem kr_36 : zr_36 = zt_36.map (fun e => rs 36 zt_36 e.1 e.2.1) := by decide +kernel
set_option maxRecDepth 1000000 in
theorem kn_36 : kNx zt_36 = true := by decide +kernel
set_option maxRecDepth 1000000 in
theorem kd_37 : ∀ e ∈ zt_37, decode (gB 37) e.1 = .ok (e.2.1, e.2.2) := by decide +kernel
set_option maxRecDepth 1000000 in
theorem kr_37 : zr_37 = zt_37.map (fun e => rs 37 zt_37 e.1 e.2.1) := by decide +kernel
set_option maxRecDepth 1000000 in
theorem kn_37 : kNx zt_37 = true := by decide +kernel
set_option maxRecDepth 1000000 in
theorem kd_38 : ∀ e ∈ zt_38, decode (gB 38) e.1 = .ok (e.2.1, e.2.2) := by decide +kernel
set_option maxRecDepth 1000000 in
theorem kr_38 : zr_38 = zt_38.map (fun e => rs 38 zt_38 e.1 e.2.1) := by decide +kernel
set_option maxRecDepth 1000000 in
theorem kn_38 : kNx zt_38 = true := by decide +kernel
set_option maxRecDepth 1000000 in
theorem kd_39 : ∀ e ∈ zt_39, decode (gB 39) e.1 = .ok (e.2.1, e.2.2) := by decide +kernel
set_option maxRecDepth 1000000 in
theorem kr_39 : zr_39 = zt_39.map (fun e => rs 39 zt_39 e.1 e.2.1) := by decide +kernel
set_option maxRecDepth 1000000 in
theorem kn_39 : kNx zt_39 = true := by decide +kernel
set_option maxRecDepth 1000000 in
theorem kd_40 : ∀ e ∈ zt_40, decode (gB 40) e.1 = .ok (e.2.1, e.2.2) := by decide +kernel
set_option maxRecDepth 1000000 in
theorem kr_40 : zr_40 = zt_40.map (fun e => rs 40 zt_40 e.1 e.2.1) := by decide +kernel
set_option maxRecDepth 1000000 in
theorem kn_40 : kNx zt_40 = true := by decide +kernel
set_option maxRecDepth 1000000 in
theorem kd_41 : ∀ e ∈ zt_41, decode (gB 41) e.1 = .ok (e.2.1, e.2.2) := by decide +kernel
set_option maxRecDepth 1000000 in
theorem kr_41 : zr_41 = zt_41.map (fun e => rs 41 zt_41 e.1 e.2.1) := by decide +kernel
set_option maxRecDepth 1000000 in
theorem kn_41 : kNx zt_41 = true := by decide +kernel
set_option maxRecDepth 1000000 in
theorem kd_42 : ∀ e ∈ zt_42, decode (gB 42) e.1 = .ok (e.2.1, e.2.2) := by decide +kernel
set_option maxRecDepth 1000000 in
theorem kr_42 : zr_42 = zt_42.map (fun e => rs 42 zt_42 e.1 e.2.1) := by decide +kernel
set_option maxRecDepth 1000000 in
theorem kn_42 : kNx zt_42 = true := by decide +kernel
set_option maxRecDepth 1000000 in
theorem kd_43 : ∀ e ∈ zt_43, decode (gB 43) e.1 = .ok (e.2.1, e.2.2) := by decide +kernel
set_option maxRecDepth 1000000 in
theorem kr_43 : zr_43 = zt_43.map (fun e => rs 43 zt_43 e.1 e.2.1) := by decide +kernel
set_option maxRecDepth 1000000 in
theorem kn_43 : kNx zt_43 = true := by decide +kernel
set_option maxRecDepth 1000000 in
theorem kd_44 : ∀ e ∈ zt_44, decode (gB 44) e.1 = .ok (e.2.1, e.2.2) := by decide +kernel
set_option maxRecDepth 1000000 in
theorem kr_44 : zr_44 = zt_44.map (fun e => rs 44 zt_44 e.1 e.2.1) := by decide +kernel
set_option maxRecDepth 1000000 in
theorem kn_44 : kNx zt_44 = true := by decide +kernel
set_option maxRecDepth 1000000 in
theorem kd_45 : ∀ e ∈ zt_45, decode (gB 45) e.1 = .ok (e.2.1, e.2.2) := by decide +kernel
set_option maxRecDepth 1000000 in
theorem kr_45 : zr_45 = zt_45.map (fun e => rs 45 zt_45 e.1 e.2.1) := by decide +kernel
set_option maxRecDepth 1000000 in
theorem kn_45 : kNx zt_45 = true := by decide +kernel
set_option maxRecDepth 1000000 in
theorem kd_46 : ∀ e ∈ zt_46, decode (gB 46) e.1 = .ok (e.2.1, e.2.2) := by decide +kernel
set_option maxRecDepth 1000000 in
theorem kr_46 : zr_46 = zt_46.map (fun e => rs 46 zt_46 e.1 e.2.1) := by decide +kernel
set_option maxRecDepth 1000000 in
theorem kn_46 : kNx zt_46 = true := by decide +kernel
set_option maxRecDepth 1000000 in
theorem kd_47 : ∀ e ∈ zt_47, decode (gB 47) e.1 = .ok (e.2.1, e.2.2) := by decide +kernel
set_option maxRecDepth 1000000 in
theorem kr_47 : zr_47 = zt_47.map (fun e => rs 47 zt_47 e.1 e.2.1) := by decide +kernel
set_option maxRecDepth 1000000 in
theorem kn_47 : kNx zt_47 = true := by decide +kernel
set_option maxRecDepth 1000000 in
theorem kd_48 : ∀ e ∈ zt_48, decode (gB 48) e.1 = .ok (e.2.1, e.2.2) := by decide +kernel
set_option maxRecDepth 1000000 in
theorem kr_48 : zr_48 = zt_48.map (fun e => rs 48 zt_48 e.1 e.2.1) := by decide +kernel
set_option maxRecDepth 1000000 in
theorem kn_48 : kNx zt_48 = true := by decide +kernel
set_option maxRecDepth 1000000 in
theorem kd_49 : ∀ e ∈ zt_49, decode (gB 49) e.1 = .ok (e.2.1, e.2.2) := by decide +kernel
set_option maxRecDepth 1000000 in
theorem kr_49 : zr_49 = zt_49.map (fun e => rs 49 zt_49 e.1 e.2.1) := by decide +kernel
set_option maxRecDepth 1000000 in
theorem kn_49 : kNx zt_49 = true := by decide +kernel
set_option maxRecDepth 1000000 in
theorem kd_50 : ∀ e ∈ zt_50, decode (gB 50) e.1 = .ok (e.2.1, e.2.2) := by decide +kernel
set_option maxRecDepth 1000000 in
theorem kr_50 : zr_50 = zt_50.map (fun e => rs 50 zt_50 e.1 e.2.1) := by decide +kernel
set_option maxRecDepth 1000000 in
theorem kn_50 : kNx zt_50 = true := by decide +kernel
set_option maxRecDepth 1000000 in
theorem kd_51 : ∀ e ∈ zt_51, decode (gB 51) e.1 = .ok (e.2.1, e.2.2) := by decide +kernel
set_option maxRecDepth 1000000 in
theorem kr_51 : zr_51 = zt_51.map (fun e => rs 51 zt_51 e.1 e.2.1) := by decide +kernel
set_option maxRecDepth 1000000 in
theorem kn_51 : kNx zt_51 = true := by decide +kernel
set_option maxRecDepth 1000000 in
theorem kd_52 : ∀ e ∈ zt_52, decode (gB 52) e.1 = .ok (e.2.1, e.2.2) := by decide +kernel
set_option maxRecDepth 1000000 in
theorem kr_52 : zr_52 = zt_52.map (fun e => rs 52 zt_52 e.1 e.2.1) := by decide +kernel
set_option maxRecDepth 1000000 in
theorem kn_52 : kNx zt_52 = true := by decide +kernel
set_option maxRecDepth 1000000 in
theorem kd_53 : ∀ e ∈ zt_53, decode (gB 53) e.1 = .ok (e.2.1, e.2.2) := by decide +kernel
set_option maxRecDepth 1000000 in
theorem kr_53 : zr_53 = zt_53.map (fun e => rs 53 zt_53 e.1 e.2.1) := by decide +kernel
set_option maxRecDepth 1000000 in
theorem kn_53 : kNx zt_53 = true := by decide +kernel
set_option maxRecDepth 1000000 in
theorem kd_54 : ∀ e ∈ zt_54, decode (gB 54) e.1 = .ok (e.2.1, e.2.2) := by decide +kernel
set_option maxRecDepth 1000000 in
theorem kr_54 : zr_54 = zt_54.map (fun e => rs 54 zt_54 e.1 e.2.1) := by decide +kernel
set_option maxRecDepth 1000000 in
theorem kn_54 : kNx zt_54 = true := by decide +kernel
set_option maxRecDepth 1000000 in
theorem kd_55 : ∀ e ∈ zt_55, decode (gB 55) e.1 = .ok (e.2.1, e.2.2) := by decide +kernel
set_option maxRecDepth 1000000 in
theorem kr_55 : zr_55 = zt_55.map (fun e => rs 55 zt_55 e.1 e.2.1) := by decide +kernel
set_option maxRecDepth 1000000 in
theorem kn_55 : kNx zt_55 = true := by decide +kernel
set_option maxRecDepth 1000000 in
theorem kd_56 : ∀ e ∈ zt_56, decode (gB 56) e.1 = .ok (e.2.1, e.2.2) := by decide +kernel
set_option maxRecDepth 1000000 in
theorem kr_56 : zr_56 = zt_56.map (fun e => rs 56 zt_56 e.1 e.2.1) := by decide +kernel
set_option maxRecDepth 1000000 in
theorem kn_56 : kNx zt_56 = true := by decide +kernel
set_option maxRecDepth 1000000 in
theorem kd_57 : ∀ e ∈ zt_57, decode (gB 57) e.1 = .ok (e.2.1, e.2.2) := by decide +kernel
set_option maxRecDepth 1000000 in
theorem kr_57 : zr_57 = zt_57.map (fun e => rs 57 zt_57 e.1 e.2.1) := by decide +kernel
set_option maxRecDepth 1000000 in
theorem kn_57 : kNx zt_57 = true := by decide +kernel
set_option maxRecDepth 1000000 in
theorem kd_58 : ∀ e ∈ zt_58, decode (gB 58) e.1 = .ok (e.2.1, e.2.2) := by decide +kernel
set_option maxRecDepth 1000000 in
theorem kr_58 : zr_58 = zt_58.map (fun e => rs 58 zt_58 e.1 e.2.1) := by decide +kernel
set_option maxRecDepth 1000000 in
theorem kn_58 : kNx zt_58 = true := by decide +kernel
set_option maxRecDepth 1000000 in
theorem kd_59 : ∀ e ∈ zt_59, decode (gB 59) e.1 = .ok (e.2.1, e.2.2) := by decide +kernel
set_option maxRecDepth 1000000 in
theorem kr_59 : zr_59 = zt_59.map (fun e => rs 59 zt_59 e.1 e.2.1) := by decide +kernel
set_option maxRecDepth 1000000 in
theorem kn_59 : kNx zt_59 = true := by decide +kernel
set_option maxRecDepth 1000000 in
theorem kd_60 : ∀ e ∈ zt_60, decode (gB 60) e.1 = .ok (e.2.1, e.2.2) := by decide +kernel
set_option maxRecDepth 1000000 in
theorem kr_60 : zr_60 = zt_60.map (fun e => rs 60 zt_60 e.1 e.2.1) := by decide +kernel
set_option maxRecDepth 1000000 in
theorem kn_60 : kNx zt_60 = true := by decide +kernel
set_option maxRecDepth 1000000 in
theorem kd_61 : ∀ e ∈ zt_61, decode (gB 61) e.1 = .ok (e.2.1, e.2.2) := by decide +kernel
set_option maxRecDepth 1000000 in
theorem kr_61 : zr_61 = zt_61.map (fun e => rs 61 zt_61 e.1 e.2.1) := by decide +kernel
set_option maxRecDepth 1000000 in
theorem kn_61 : kNx zt_61 = true := by decide +kernel
set_option maxRecDepth 1000000 in
theorem kd_62 : ∀ e ∈ zt_62, decode (gB 62) e.1 = .ok (e.2.1, e.2.2) := by decide +kernel
set_option maxRecDepth 1000000 in
theorem kr_62 : zr_62 = zt_62.map (fun e => rs 62 zt_62 e.1 e.2.1) := by decide +kernel
set_option maxRecDepth 1000000 in
theorem kn_62 : kNx zt_62 = true := by decide +kernel
set_option maxRecDepth 1000000 in
theorem kd_63 : ∀ e ∈ zt_63, decode (gB 63) e.1 = .ok (e.2.1, e.2.2) := by decide +kernel
set_option maxRecDepth 1000000 in
theorem kr_63 : zr_63 = zt_63.map (fun e => rs 63 zt_63 e.1 e.2.1) := by decide +kernel
set_option maxRecDepth 1000000 in
theorem kn_63 : kNx zt_63 = true := by decide +kernel
set_option maxRecDepth 1000000 in
theorem kd_64 : ∀ e ∈ zt_64, decode (gB 64) e.1 = .ok (e.2.1, e.2.2) := by decide +kernel
set_option maxRecDepth 1000000 in
theorem kr_64 : zr_64 = zt_64.map (fun e => rs 64 zt_64 e.1 e.2.1) := by decide +kernel
set_option maxRecDepth 1000000 in
theorem kn_64 : kNx zt_64 = true := by decide +kernel
set_option maxRecDepth 1000000 in
theorem kd_65 : ∀ e ∈ zt_65, decode (gB 65) e.1 = .ok (e.2.1, e.2.2) := by decide +kernel
set_option maxRecDepth 1000000 in
theorem kr_65 : zr_65 = zt_65.map (fun e => rs 65 zt_65 e.1 e.2.1) := by decide +kernel
set_option maxRecDepth 1000000 in
theorem kn_65 : kNx zt_65 = true := by decide +kernel
set_option maxRecDepth 1000000 in
theorem kd_66 : ∀ e ∈ zt_66, decode (gB 66) e.1 = .ok (e.2.1, e.2.2) := by decide +kernel
set_option maxRecDepth 1000000 in
theorem kr_66 : zr_66 = zt_66.map (fun e => rs 66 zt_66 e.1 e.2.1) := by decide +kernel
set_option maxRecDepth 1000000 in
theorem kn_66 : kNx zt_66 = true := by decide +kernel
set_option maxRecDepth 1000000 in
theorem kd_67 : ∀ e ∈ zt_67, decode (gB 67) e.1 = .ok (e.2.1, e.2.2) := by decide +kernel
set_option maxRecDepth 1000000 in
theorem kr_67 : zr_67 = zt_67.map (fun e => rs 67 zt_67 e.1 e.2.1) := by decide +kernel
set_option maxRecDepth 1000000 in
theorem kn_67 : kNx zt_67 = true := by decide +kernel
set_option maxRecDepth 1000000 in
theorem kd_68 : ∀ e ∈ zt_68, decode (gB 68) e.1 = .ok (e.2.1, e.2.2) := by decide +kernel
set_option maxRecDepth 1000000 in
theorem kr_68 : zr_68 = zt_68.map (fun e => rs 68 zt_68 e.1 e.2.1) := by decide +kernel
set_option maxRecDepth 1000000 in
theorem kn_68 : kNx zt_68 = true := by decide +kernel
set_option maxRecDepth 1000000 in
theorem kd_69 : ∀ e ∈ zt_69, decode (gB 69) e.1 = .ok (e.2.1, e.2.2) := by decide +kernel
set_option maxRecDepth 1000000 in
theorem kr_69 : zr_69 = zt_69.map (fun e => rs 69 zt_69 e.1 e.2.1) := by decide +kernel
set_option maxRecDepth 1000000 in
theorem kn_69 : kNx zt_69 = true := by decide +kernel
set_option maxRecDepth 1000000 in
theorem kd_70 : ∀ e ∈ zt_70, decode (gB 70) e.1 = .ok (e.2.1, e.2.2) := by decide +kernel
set_option maxRecDepth 1000000 in
theorem kr_70 : zr_70 = zt_70.map (fun e => rs 70 zt_70 e.1 e.2.1) := by decide +kernel
set_option maxRecDepth 1000000 in
theorem kn_70 : kNx zt_70 = true := by decide +kernel
set_option maxRecDepth 1000000 in
theorem kd_71 : ∀ e ∈ zt_71, decode (gB 71) e.1 = .ok (e.2.1, e.2.2) := by decide +kernel
set_option maxRecDepth 1000000 in
theorem kr_71 : zr_71 = zt_71.map (fun e => rs 71 zt_71 e.1 e.2.1) := by decide +kernel
set_option maxRecDepth 1000000 in
theorem kn_71 : kNx zt_71 = true := by decide +kernel
set_option maxRecDepth 1000000 in
theorem kd_72 : ∀ e ∈ zt_72, decode (gB 72) e.1 = .ok (e.2.1, e.2.2) := by decide +kernel
set_option maxRecDepth 1000000 in
theorem kr_72 : zr_72 = zt_72.map (fun e => rs 72 zt_72 e.1 e.2.1) := by decide +kernel
set_option maxRecDepth 1000000 in
theorem kn_72 : kNx zt_72 = true := by decide +kernel
set_option maxRecDepth 1000000 in
theorem kd_73 : ∀ e ∈ zt_73, decode (gB 73) e.1 = .ok (e.2.1, e.2.2) := by decide +kernel
set_option maxRecDepth 1000000 in
theorem kr_73 : zr_73 = zt_73.map (fun e => rs 73 zt_73 e.1 e.2.1) := by decide +kernel
set_option maxRecDepth 1000000 in
theorem kn_73 : kNx zt_73 = true := by decide +kernel
set_option maxRecDepth 1000000 in
theorem kd_74 : ∀ e ∈ zt_74, decode (gB 74) e.1 = .ok (e.2.1, e.2.2) := by decide +kernel
set_option maxRecDepth 1000000 in
theorem kr_74 : zr_74 = zt_74.map (fun e => rs 74 zt_74 e.1 e.2.1) := by decide +kernel
set_option maxRecDepth 1000000 in
theorem kn_74 : kNx zt_74 = true := by decide +kernel
set_option maxRecDepth 1000000 in
theorem kd_75 : ∀ e ∈ zt_75, decode (gB 75) e.1 = .ok (e.2.1, e.2.2) := by decide +kernel
set_option maxRecDepth 1000000 in
theorem kr_75 : zr_75 = zt_75.map (fun e => rs 75 zt_75 e.1 e.2.1) := by decide +kernel
set_option maxRecDepth 1000000 in
theorem kn_75 : kNx zt_75 = true := by decide +kernel
set_option maxRecDepth 1000000 in
theorem kd_76 : ∀ e ∈ zt_76, decode (gB 76) e.1 = .ok (e.2.1, e.2.2) := by decide +kernel
set_option maxRecDepth 1000000 in
theorem kr_76 : zr_76 = zt_76.map (fun e => rs 76 zt_76 e.1 e.2.1) := by decide +kernel
set_option maxRecDepth 1000000 in
theorem kn_76 : kNx zt_76 = true := by decide +kernel
set_option maxRecDepth 1000000 in
theorem kd_77 : ∀ e ∈ zt_77, decode (gB 77) e.1 = .ok (e.2.1, e.2.2) := by decide +kernel
set_option maxRecDepth 1000000 in
theorem kr_77 : zr_77 = zt_77.map (fun e => rs 77 zt_77 e.1 e.2.1) := by decide +kernel
set_option maxRecDepth 1000000 in
theorem kn_77 : kNx zt_77 = true := by decide +kernel
set_option maxRecDepth 1000000 in
theorem kd_78 : ∀ e ∈ zt_78, decode (gB 78) e.1 = .ok (e.2.1, e.2.2) := by decide +kernel
set_option maxRecDepth 1000000 in
theorem kr_78 : zr_78 = zt_78.map (fun e => rs 78 zt_78 e.1 e.2.1) := by decide +kernel
set_option maxRecDepth 1000000 in
theorem kn_78 : kNx zt_78 = true := by decide +kernel
set_option maxRecDepth 1000000 in
theorem kd_79 : ∀ e ∈ zt_79, decode (gB 79) e.1 = .ok (e.2.1, e.2.2) := by decide +kernel
set_option maxRecDepth 1000000 in
theorem kr_79 : zr_79 = zt_79.map (fun e => rs 79 zt_79 e.1 e.2.1) := by decide +kernel
set_option maxRecDepth 1000000 in
theorem kn_79 : kNx zt_79 = true := by decide +kernel
set_option maxRecDepth 1000000 in
theorem kd_80 : ∀ e ∈ zt_80, decode (gB 80) e.1 = .ok (e.2.1, e.2.2) := by decide +kernel
set_option maxRecDepth 1000000 in
theorem kr_80 : zr_80 = zt_80.map (fun e => rs 80 zt_80 e.1 e.2.1) := by decide +kernel
set_option maxRecDepth 1000000 in
theorem kn_80 : kNx zt_80 = true := by decide +kernel
set_option maxRecDepth 1000000 in
theorem kd_81 : ∀ e ∈ zt_81, decode (gB 81) e.1 = .ok (e.2.1, e.2.2) := by decide +kernel
set_option maxRecDepth 1000000 in
theorem kr_81 : zr_81 = zt_81.map (fun e => rs 81 zt_81 e.1 e.2.1) := by decide +kernel
set_option maxRecDepth 1000000 in
theorem kn_81 : kNx zt_81 = true := by decide +kernel
set_option maxRecDepth 1000000 in
theorem kd_82 : ∀ e ∈ zt_82, decode (gB 82) e.1 = .ok (e.2.1, e.2.2) := by decide +kernel
set_option maxRecDepth 1000000 in
theorem kr_82 : zr_82 = zt_82.map (fun e => rs 82 zt_82 e.1 e.2.1) := by decide +kernel
set_option maxRecDepth 1000000 in
theorem kn_82 : kNx zt_82 = true := by decide +kernel
set_option maxRecDepth 1000000 in
theorem kd_83 : ∀ e ∈ zt_83, decode (gB 83) e.1 = .ok (e.2.1, e.2.2) := by decide +kernel
set_option maxRecDepth 1000000 in
theorem kr_83 : zr_83 = zt_83.map (fun e => rs 83 zt_83 e.1 e.2.1) := by decide +kernel
set_option maxRecDepth 1000000 in
theorem kn_83 : kNx zt_83 = true := by decide +kernel
set_option maxRecDepth 1000000 in
theorem kd_84 : ∀ e ∈ zt_84, decode (gB 84) e.1 = .ok (e.2.1, e.2.2) := by decide +kernel
set_option maxRecDepth 1000000 in
theorem kr_84 : zr_84 = zt_84.map (fun e => rs 84 zt_84 e.1 e.2.1) := by decide +kernel
set_option maxRecDepth 1000000 in
theorem kn_84 : kNx zt_84 = true := by decide +kernel
set_option maxRecDepth 1000000 in
theorem kd_85 : ∀ e ∈ zt_85, decode (gB 85) e.1 = .ok (e.2.1, e.2.2) := by decide +kernel
set_option maxRecDepth 1000000 in
theorem kr_85 : zr_85 = zt_85.map (fun e => rs 85 zt_85 e.1 e.2.1) := by decide +kernel
set_option maxRecDepth 1000000 in
theorem kn_85 : kNx zt_85 = true := by decide +kernel
set_option maxRecDepth 1000000 in
theorem kd_86 : ∀ e ∈ zt_86, decode (gB 86) e.1 = .ok (e.2.1, e.2.2) := by decide +kernel
set_option maxRecDepth 1000000 in
theorem kr_86 : zr_86 = zt_86.map (fun e => rs 86 zt_86 e.1 e.2.1) := by decide +kernel
set_option maxRecDepth 1000000 in
theorem kn_86 : kNx zt_86 = true := by decide +kernel
set_option maxRecDepth 1000000 in
theorem kd_87 : ∀ e ∈ zt_87, decode (gB 87) e.1 = .ok (e.2.1, e.2.2) := by decide +kernel
set_option maxRecDepth 1000000 in
theorem kr_87 : zr_87 = zt_87.map (fun e => rs 87 zt_87 e.1 e.2.1) := by decide +kernel
set_option maxRecDepth 1000000 in
theorem kn_87 : kNx zt_87 = true := by decide +kernel
set_option maxRecDepth 1000000 in
theorem kd_88 : ∀ e ∈ zt_88, decode (gB 88) e.1 = .ok (e.2.1, e.2.2) := by decide +kernel
set_option maxRecDepth 1000000 in
theorem kr_88 : zr_88 = zt_88.map (fun e => rs 88 zt_88 e.1 e.2.1) := by decide +kernel
set_option maxRecDepth 1000000 in
theorem kn_88 : kNx zt_88 = true := by decide +kernel
set_option maxRecDepth 1000000 in
theorem kd_89 : ∀ e ∈ zt_89, decode (gB 89) e.1 = .ok (e.2.1, e.2.2) := by decide +kernel
set_option maxRecDepth 1000000 in
theorem kr_89 : zr_89 = zt_89.map (fun e => rs 89 zt_89 e.1 e.2.1) := by decide +kernel
set_option maxRecDepth 1000000 in
theorem kn_89 : kNx zt_89 = true := by decide +kernel
set_option maxRecDepth 1000000 in
theorem kd_90 : ∀ e ∈ zt_90, decode (gB 90) e.1 = .ok (e.2.1, e.2.2) := by decide +kernel
set_option maxRecDepth 1000000 in
theorem kr_90 : zr_90 = zt_90.map (fun e => rs 90 zt_90 e.1 e.2.1) := by decide +kernel
set_option maxRecDepth 1000000 in
theorem kn_90 : kNx zt_90 = true := by decide +kernel
set_option maxRecDepth 1000000 in
theorem kd_91 : ∀ e ∈ zt_91, decode (gB 91) e.1 = .ok (e.2.1, e.2.2) := by decide +kernel
set_option maxRecDepth 1000000 in
theorem kr_91 : zr_91 = zt_91.map (fun e => rs 91 zt_91 e.1 e.2.1) := by decide +kernel
set_option maxRecDepth 1000000 in
theorem kn_91 : kNx zt_91 = true := by decide +kernel
set_option maxRecDepth 1000000 in
theorem kd_92 : ∀ e ∈ zt_92, decode (gB 92) e.1 = .ok (e.2.1, e.2.2) := by decide +kernel
set_option maxRecDepth 1000000 in
theorem kr_92 : zr_92 = zt_92.map (fun e => rs 92 zt_92 e.1 e.2.1) := by decide +kernel
set_option maxRecDepth 1000000 in
theorem kn_92 : kNx zt_92 = true := by decide +kernel
set_option maxRecDepth 1000000 in
theorem kd_93 : ∀ e ∈ zt_93, decode (gB 93) e.1 = .ok (e.2.1, e.2.2) := by decide +kernel
set_option maxRecDepth 1000000 in
theorem kr_93 : zr_93 = zt_93.map (fun e => rs 93 zt_93 e.1 e.2.1) := by decide +kernel
set_option maxRecDepth 1000000 in
theorem kn_93 : kNx zt_93 = true := by decide +kernel
set_option maxRecDepth 1000000 in
theorem kd_94 : ∀ e ∈ zt_94, decode (gB 94) e.1 = .ok (e.2.1, e.2.2) := by decide +kernel
set_option maxRecDepth 1000000 in
theorem kr_94 : zr_94 = zt_94.map (fun e => rs 94 zt_94 e.1 e.2.1) := by decide +kernel
set_option maxRecDepth 1000000 in
theorem kn_94 : kNx zt_94 = true := by decide +kernel
set_option maxRecDepth 1000000 in
theorem kd_95 : ∀ e ∈ zt_95, decode (gB 95) e.1 = .ok (e.2.1, e.2.2) := by decide +kernel
set_option maxRecDepth 1000000 in
theorem kr_95 : zr_95 = zt_95.map (fun e => rs 95 zt_95 e.1 e.2.1) := by decide +kernel
set_option maxRecDepth 1000000 in
theorem kn_95 : kNx zt_95 = true := by decide +kernel
set_option maxRecDepth 1000000 in
theorem kd_96 : ∀ e ∈ zt_96, decode (gB 96) e.1 = .ok (e.2.1, e.2.2) := by decide +kernel
set_option maxRecDepth 1000000 in
theorem kr_96 : zr_96 = zt_96.map (fun e => rs 96 zt_96 e.1 e.2.1) := by decide +kernel
set_option maxRecDepth 1000000 in
theorem kn_96 : kNx zt_96 = true := by decide +kernel
set_option maxRecDepth 1000000 in
theorem kd_97 : ∀ e ∈ zt_97, decode (gB 97) e.1 = .ok (e.2.1, e.2.2) := by decide +kernel
set_option maxRecDepth 1000000 in
theorem kr_97 : zr_97 = zt_97.map (fun e => rs 97 zt_97 e.1 e.2.1) := by decide +kernel
set_option maxRecDepth 1000000 in
theorem kn_97 : kNx zt_97 = true := by decide +kernel
set_option maxRecDepth 1000000 in
theorem kd_98 : ∀ e ∈ zt_98, decode (gB 98) e.1 = .ok (e.2.1, e.2.2) := by decide +kernel
set_option maxRecDepth 1000000 in
theorem kr_98 : zr_98 = zt_98.map (fun e => rs 98 zt_98 e.1 e.2.1) := by decide +kernel
set_option maxRecDepth 1000000 in
theorem kn_98 : kNx zt_98 = true := by decide +kernel
set_option maxRecDepth 1000000 in
theorem kd_99 : ∀ e ∈ zt_99, decode (gB 99) e.1 = .ok (e.2.1, e.2.2) := by decide +kernel
set_option maxRecDepth 1000000 in
theorem kr_99 : zr_99 = zt_99.map (fun e => rs 99 zt_99 e.1 e.2.1) := by decide +kernel
set_option maxRecDepth 1000000 in
theorem kn_99 : kNx zt_99 = true := by decide +kernel
set_option maxRecDepth 1000000 in
theorem kd_100 : ∀ e ∈ zt_100, decode (gB 100) e.1 = .ok (e.2.1, e.2.2) := by decide +kernel
set_option maxRecDepth 1000000 in
theorem kr_100 : zr_100 = zt_100.map (fun e => rs 100 zt_100 e.1 e.2.1) := by decide +kernel
set_option maxRecDepth 1000000 in
theorem kn_100 : kNx zt_100 = true := by decide +kernel
set_option maxRecDepth 1000000 in
theorem kd_101 : ∀ e ∈ zt_101, decode (gB 101) e.1 = .ok (e.2.1, e.2.2) := by decide +kernel
set_option maxRecDepth 1000000 in
theorem kr_101 : zr_101 = zt_101.map (fun e => rs 101 zt_101 e.1 e.2.1) := by decide +kernel
set_option maxRecDepth 1000000 in
theorem kn_101 : kNx zt_101 = true := by decide +kernel
set_option maxRecDepth 1000000 in
theorem kd_102 : ∀ e ∈ zt_102, decode (gB 102) e.1 = .ok (e.2.1, e.2.2) := by decide +kernel
set_option maxRecDepth 1000000 in
theorem kr_102 : zr_102 = zt_102.map (fun e => rs 102 zt_102 e.1 e.2.1) := by decide +kernel
set_option maxRecDepth 1000000 in
theorem kn_102 : kNx zt_102 = true := by decide +kernel
set_option maxRecDepth 1000000 in
theorem kd_103 : ∀ e ∈ zt_103, decode (gB 103) e.1 = .ok (e.2.1, e.2.2) := by decide +kernel
set_option maxRecDepth 1000000 in
theorem kr_103 : zr_103 = zt_103.map (fun e => rs 103 zt_103 e.1 e.2.1) := by decide +kernel
set_option maxRecDepth 1000000 in
theorem kn_103 : kNx zt_103 = true := by decide +kernel
set_option maxRecDepth 1000000 in
theorem kd_104 : ∀ e ∈ zt_104, decode (gB 104) e.1 = .ok (e.2.1, e.2.2) := by decide +kernel
set_option maxRecDepth 1000000 in
theorem kr_104 : zr_104 = zt_104.map (fun e => rs 104 zt_104 e.1 e.2.1) := by decide +kernel
set_option maxRecDepth 1000000 in
theorem kn_104 : kNx zt_104 = true := by decide +kernel
set_option maxRecDepth 1000000 in
theorem kd_105 : ∀ e ∈ zt_105, decode (gB 105) e.1 = .ok (e.2.1, e.2.2) := by decide +kernel
set_option maxRecDepth 1000000 in
theorem kr_105 : zr_105 = zt_105.map (fun e => rs 105 zt_105 e.1 e.2.1) := by decide +kernel
set_option maxRecDepth 1000000 in
theorem kn_105 : kNx zt_105 = true := by decide +kernel
set_option maxRecDepth 1000000 in
theorem kd_106 : ∀ e ∈ zt_106, decode (gB 106) e.1 = .ok (e.2.1, e.2.2) := by decide +kernel
set_option maxRecDepth 1000000 in
theorem kr_106 : zr_106 = zt_106.map (fun e => rs 106 zt_106 e.1 e.2.1) := by decide +kernel
set_option maxRecDepth 1000000 in
theorem kn_106 : kNx zt_106 = true := by decide +kernel
set_option maxRecDepth 1000000 in
theorem kd_107 : ∀ e ∈ zt_107, decode (gB 107) e.1 = .ok (e.2.1, e.2.2) := by decide +kernel
set_option maxRecDepth 1000000 in
theorem kr_107 : zr_107 = zt_107.map (fun e => rs 107 zt_107 e.1 e.2.1) := by decide +kernel
set_option maxRecDepth 1000000 in
theorem kn_107 : kNx zt_107 = true := by decide +kernel
set_option maxRecDepth 1000000 in
theorem kd_108 : ∀ e ∈ zt_108, decode (gB 108) e.1 = .ok (e.2.1, e.2.2) := by decide +kernel
set_option maxRecDepth 1000000 in
theorem kr_108 : zr_108 = zt_108.map (fun e => rs 108 zt_108 e.1 e.2.1) := by decide +kernel
set_option maxRecDepth 1000000 in
theorem kn_108 : kNx zt_108 = true := by decide +kernel
set_option maxRecDepth 1000000 in
theorem kd_109 : ∀ e ∈ zt_109, decode (gB 109) e.1 = .ok (e.2.1, e.2.2) := by decide +kernel
set_option maxRecDepth 1000000 in
theorem kr_109 : zr_109 = zt_109.map (fun e => rs 109 zt_109 e.1 e.2.1) := by decide +kernel
set_option maxRecDepth 1000000 in
theorem kn_109 : kNx zt_109 = true := by decide +kernel
set_option maxRecDepth 1000000 in
theorem kd_110 : ∀ e ∈ zt_110, decode (gB 110) e.1 = .ok (e.2.1, e.2.2) := by decide +kernel
set_option maxRecDepth 1000000 in
theorem kr_110 : zr_110 = zt_110.map (fun e => rs 110 zt_110 e.1 e.2.1) := by decide +kernel
set_option maxRecDepth 1000000 in
theorem kn_110 : kNx zt_110 = true := by decide +kernel
set_option maxRecDepth 1000000 in
theorem kd_111 : ∀ e ∈ zt_111, decode (gB 111) e.1 = .ok (e.2.1, e.2.2) := by decide +kernel
set_option maxRecDepth 1000000 in
theorem kr_111 : zr_111 = zt_111.map (fun e => rs 111 zt_111 e.1 e.2.1) := by decide +kernel
set_option maxRecDepth 1000000 in
theorem kn_111 : kNx zt_111 = true := by decide +kernel
set_option maxRecDepth 1000000 in
theorem kd_112 : ∀ e ∈ zt_112, decode (gB 112) e.1 = .ok (e.2.1, e.2.2) := by decide +kernel
set_option maxRecDepth 1000000 in
theorem kr_112 : zr_112 = zt_112.map (fun e => rs 112 zt_112 e.1 e.2.1) := by decide +kernel
set_option maxRecDepth 1000000 in
theorem kn_112 : kNx zt_112 = true := by decide +kernel
set_option maxRecDepth 1000000 in
theorem kd_113 : ∀ e ∈ zt_113, decode (gB 113) e.1 = .ok (e.2.1, e.2.2) := by decide +kernel
set_option maxRecDepth 1000000 in
theorem kr_113 : zr_113 = zt_113.map (fun e => rs 113 zt_113 e.1 e.2.1) := by decide +kernel
set_option maxRecDepth 1000000 in
theorem kn_113 : kNx zt_113 = true := by decide +kernel
set_option maxRecDepth 1000000 in
theorem kd_114 : ∀ e ∈ zt_114, decode (gB 114) e.1 = .ok (e.2.1, e.2.2) := by decide +kernel
set_option maxRecDepth 1000000 in
theorem kr_114 : zr_114 = zt_114.map (fun e => rs 114 zt_114 e.1 e.2.1) := by decide +kernel
set_option maxRecDepth 1000000 in
theorem kn_114 : kNx zt_114 = true := by decide +kernel
set_option maxRecDepth 1000000 in
theorem kd_115 : ∀ e ∈ zt_115, decode (gB 115) e.1 = .ok (e.2.1, e.2.2) := by decide +kernel
set_option maxRecDepth 1000000 in
theorem kr_115 : zr_115 = zt_115.map (fun e => rs 115 zt_115 e.1 e.2.1) := by decide +kernel
set_option maxRecDepth 1000000 in
theorem kn_115 : kNx zt_115 = true := by decide +kernel
set_option maxRecDepth 1000000 in
theorem kd_116 : ∀ e ∈ zt_116, decode (gB 116) e.1 = .ok (e.2.1, e.2.2) := by decide +kernel
set_option maxRecDepth 1000000 in
theorem kr_116 : zr_116 = zt_116.map (fun e => rs 116 zt_116 e.1 e.2.1) := by decide +kernel
set_option maxRecDepth 1000000 in
theorem kn_116 : kNx zt_116 = true := by decide +kernel
set_option maxRecDepth 1000000 in
theorem kd_117 : ∀ e ∈ zt_117, decode (gB 117) e.1 = .ok (e.2.1, e.2.2) := by decide +kernel
set_option maxRecDepth 1000000 in
theorem kr_117 : zr_117 = zt_117.map (fun e => rs 117 zt_117 e.1 e.2.1) := by decide +kernel
set_option maxRecDepth 1000000 in
theorem kn_117 : kNx zt_117 = true := by decide +kernel
set_option maxRecDepth 1000000 in
theorem kd_118 : ∀ e ∈ zt_118, decode (gB 118) e.1 = .ok (e.2.1, e.2.2) := by decide +kernel
set_option maxRecDepth 1000000 in
theorem kr_118 : zr_118 = zt_118.map (fun e => rs 118 zt_118 e.1 e.2.1) := by decide +kernel
set_option maxRecDepth 1000000 in
theorem kn_118 : kNx zt_118 = true := by decide +kernel
set_option maxRecDepth 1000000 in
theorem kd_119 : ∀ e ∈ zt_119, decode (gB 119) e.1 = .ok (e.2.1, e.2.2) := by decide +kernel
set_option maxRecDepth 1000000 in
theorem kr_119 : zr_119 = zt_119.map (fun e => rs 119 zt_119 e.1 e.2.1) := by decide +kernel
set_option maxRecDepth 1000000 in
theorem kn_119 : kNx zt_119 = true := by decide +kernel
set_option maxRecDepth 1000000 in
theorem kd_120 : ∀ e ∈ zt_120, decode (gB 120) e.1 = .ok (e.2.1, e.2.2) := by decide +kernel
set_option maxRecDepth 1000000 in
theorem kr_120 : zr_120 = zt_120.map (fun e => rs 120 zt_120 e.1 e.2.1) := by decide +kernel
set_option maxRecDepth 1000000 in
theorem kn_120 : kNx zt_120 = true := by decide +kernel
set_option maxRecDepth 1000000 in
theorem kd_121 : ∀ e ∈ zt_121, decode (gB 121) e.1 = .ok (e.2.1, e.2.2) := by decide +kernel
set_option maxRecDepth 1000000 in
theorem kr_121 : zr_121 = zt_121.map (fun e => rs 121 zt_121 e.1 e.2.1) := by decide +kernel
set_option maxRecDepth 1000000 in
theorem kn_121 : kNx zt_121 = true := by decide +kernel
set_option maxRecDepth 1000000 in
theorem kd_122 : ∀ e ∈ zt_122, decode (gB 122) e.1 = .ok (e.2.1, e.2.2) := by decide +kernel
set_option maxRecDepth 1000000 in
theorem kr_122 : zr_122 = zt_122.map (fun e => rs 122 zt_122 e.1 e.2.1) := by decide +kernel
set_option maxRecDepth 1000000 in
theorem kn_122 : kNx zt_122 = true := by decide +kernel
set_option maxRecDepth 1000000 in
theorem kd_123 : ∀ e ∈ zt_123, decode (gB 123) e.1 = .ok (e.2.1, e.2.2) := by decide +kernel
set_option maxRecDepth 1000000 in
theorem kr_123 : zr_123 = zt_123.map (fun e => rs 123 zt_123 e.1 e.2.1) := by decide +kernel
set_option maxRecDepth 1000000 in
theorem kn_123 : kNx zt_123 = true := by decide +kernel
set_option maxRecDepth 1000000 in
theorem kd_124 : ∀ e ∈ zt_124, decode (gB 124) e.1 = .ok (e.2.1, e.2.2) := by decide +kernel
set_option maxRecDepth 1000000 in
theorem kr_124 : zr_124 = zt_124.map (fun e => rs 124 zt_124 e.1 e.2.1) := by decide +kernel
set_option maxRecDepth 1000000 in
theorem kn_124 : kNx zt_124 = true := by decide +kernel
set_option maxRecDepth 1000000 in
theorem kd_125 : ∀ e ∈ zt_125, decode (gB 125) e.1 = .ok (e.2.1, e.2.2) := by decide +kernel
set_option maxRecDepth 1000000 in
theorem kr_125 : zr_125 = zt_125.map (fun e => rs 125 zt_125 e.1 e.2.1) := by decide +kernel
set_option maxRecDepth 1000000 in
theorem kn_125 : kNx zt_125 = true := by decide +kernel
set_option maxRecDepth 1000000 in
theorem kd_126 : ∀ e ∈ zt_126, decode (gB 126) e.1 = .ok (e.2.1, e.2.2) := by decide +kernel
set_option maxRecDepth 1000000 in
theorem kr_126 : zr_126 = zt_126.map (fun e => rs 126 zt_126 e.1 e.2.1) := by decide +kernel
set_option maxRecDepth 1000000 in
theorem kn_126 : kNx zt_126 = true := by decide +kernel
set_option maxRecDepth 1000000 in
theorem kd_127 : ∀ e ∈ zt_127, decode (gB 127) e.1 = .ok (e.2.1, e.2.2) := by decide +kernel
set_option maxRecDepth 1000000 in
theorem kr_127 : zr_127 = zt_127.map (fun e => rs 127 zt_127 e.1 e.2.1) := by decide +kernel
set_option maxRecDepth 1000000 in
theorem kn_127 : kNx zt_127 = true := by decide +kernel
set_option maxRecDepth 1000000 in
theorem kd_128 : ∀ e ∈ zt_128, decode (gB 128) e.1 = .ok (e.2.1, e.2.2) := by decide +kernel
set_option maxRecDepth 1000000 in
theorem kr_128 : zr_128 = zt_128.map (fun e => rs 128 zt_128 e.1 e.2.1) := by decide +kernel
set_option maxRecDepth 1000000 in
theorem kn_128 : kNx zt_128 = true := by decide +kernel
set_option maxRecDepth 1000000 in
theorem kd_129 : ∀ e ∈ zt_129, decode (gB 129) e.1 = .ok (e.2.1, e.2.2) := by decide +kernel
set_option maxRecDepth 1000000 in
theorem kr_129 : zr_129 = zt_129.map (fun e => rs 129 zt_129 e.1 e.2.1) := by decide +kernel
set_option maxRecDepth 1000000 in
theorem kn_129 : kNx zt_129 = true := by decide +kernel
set_option maxRecDepth 1000000 in
theorem kd_130 : ∀ e ∈ zt_130, decode (gB 130) e.1 = .ok (e.2.1, e.2.2) := by decide +kernel
set_option maxRecDepth 1000000 in
theorem kr_130 : zr_130 = zt_130.map (fun e => rs 130 zt_130 e.1 e.2.1) := by decide +kernel
set_option maxRecDepth 1000000 in
theorem kn_130 : kNx zt_130 = true := by decide +kernel
set_option maxRecDepth 1000000 in
theorem kd_131 : ∀ e ∈ zt_131, decode (gB 131) e.1 = .ok (e.2.1, e.2.2) := by decide +kernel
set_option maxRecDepth 1000000 in
theorem kr_131 : zr_131 = zt_131.map (fun e => rs 131 zt_131 e.1 e.2.1) := by decide +kernel
set_option maxRecDepth 1000000 in
theorem kn_131 : kNx zt_131 = true := by decide +kernel
set_option maxRecDepth 1000000 in
theorem kd_132 : ∀ e ∈ zt_132, decode (gB 132) e.1 = .ok (e.2.1, e.2.2) := by decide +kernel
set_option maxRecDepth 1000000 in
theorem kr_132 : zr_132 = zt_132.map (fun e => rs 132 zt_132 e.1 e.2.1) := by decide +kernel
set_option maxRecDepth 1000000 in
theorem kn_132 : kNx zt_132 = true := by decide +kernel
set_option maxRecDepth 1000000 in
theorem kd_133 : ∀ e ∈ zt_133, decode (gB 133) e.1 = .ok (e.2.1, e.2.2) := by decide +kernel
set_option maxRecDepth 1000000 in
theorem kr_133 : zr_133 = zt_133.map (fun e => rs 133 zt_133 e.1 e.2.1) := by decide +kernel
set_option maxRecDepth 1000000 in
theorem kn_133 : kNx zt_133 = true := by decide +kernel
set_option maxRecDepth 1000000 in
theorem kd_134 : ∀ e ∈ zt_134, decode (gB 134) e.1 = .ok (e.2.1, e.2.2) := by decide +kernel
set_option maxRecDepth 1000000 in
theorem kr_134 : zr_134 = zt_134.map (fun e => rs 134 zt_134 e.1 e.2.1) := by decide +kernel
set_option maxRecDepth 1000000 in
theorem kn_134 : kNx zt_134 = true := by decide +kernel
set_option maxRecDepth 1000000 in
theorem kd_135 : ∀ e ∈ zt_135, decode (gB 135) e.1 = .ok (e.2.1, e.2.2) := by decide +kernel
set_option maxRecDepth 1000000 in
theorem kr_135 : zr_135 = zt_135.map (fun e => rs 135 zt_135 e.1 e.2.1) := by decide +kernel
set_option maxRecDepth 1000000 in
theorem kn_135 : kNx zt_135 = true := by decide +kernel
set_option maxRecDepth 1000000 in
theorem kd_136 : ∀ e ∈ zt_136, decode (gB 136) e.1 = .ok (e.2.1, e.2.2) := by decide +kernel
set_option maxRecDepth 1000000 in
theorem kr_136 : zr_136 = zt_136.map (fun e => rs 136 zt_136 e.1 e.2.1) := by decide +kernel
set_option maxRecDepth 1000000 in
theorem kn_136 : kNx zt_136 = true := by decide +kernel
set_option maxRecDepth 1000000 in
theorem kd_137 : ∀ e ∈ zt_137, decode (gB 137) e.1 = .ok (e.2.1, e.2.2) := by decide +kernel
set_option maxRecDepth 1000000 in
theorem kr_137 : zr_137 = zt_137.map (fun e => rs 137 zt_137 e.1 e.2.1) := by decide +kernel
set_option maxRecDepth 1000000 in
theorem kn_137 : kNx zt_137 = true := by decide +kernel
set_option maxRecDepth 1000000 in
theorem kd_138 : ∀ e ∈ zt_138, decode (gB 138) e.1 = .ok (e.2.1, e.2.2) := by decide +kernel
set_option maxRecDepth 1000000 in
theorem kr_138 : zr_138 = zt_138.map (fun e => rs 138 zt_138 e.1 e.2.1) := by decide +kernel
set_option maxRecDepth 1000000 in
theorem kn_138 : kNx zt_138 = true := by decide +kernel
set_option maxRecDepth 1000000 in
theorem kd_139 : ∀ e ∈ zt_139, decode (gB 139) e.1 = .ok (e.2.1, e.2.2) := by decide +kernel
set_option maxRecDepth 1000000 in
theorem kr_139 : zr_139 = zt_139.map (fun e => rs 139 zt_139 e.1 e.2.1) := by decide +kernel
set_option maxRecDepth 1000000 in
theorem kn_139 : kNx zt_139 = true := by decide +kernel
set_option maxRecDepth 1000000 in
theorem kd_140 : ∀ e ∈ zt_140, decode (gB 140) e.1 = .ok (e.2.1, e.2.2) := by decide +kernel
set_option maxRecDepth 1000000 in
theorem kr_140 : zr_140 = zt_140.map (fun e => rs 140 zt_140 e.1 e.2.1) := by decide +kernel
set_option maxRecDepth 1000000 in
theorem kn_140 : kNx zt_140 = true := by decide +kernel
set_option maxRecDepth 1000000 in
theorem kd_141 : ∀ e ∈ zt_141, decode (gB 141) e.1 = .ok (e.2.1, e.2.2) := by decide +kernel
set_option maxRecDepth 1000000 in
theorem kr_141 : zr_141 = zt_141.map (fun e => rs 141 zt_141 e.1 e.2.1) := by decide +kernel
set_option maxRecDepth 1000000 in
theorem kn_141 : kNx zt_141 = true := by decide +kernel
set_option maxRecDepth 1000000 in
theorem kd_142 : ∀ e ∈ zt_142, decode (gB 142) e.1 = .ok (e.2.1, e.2.2) := by decide +kernel
set_option maxRecDepth 1000000 in
theorem kr_142 : zr_142 = zt_142.map (fun e => rs 142 zt_142 e.1 e.2.1) := by decide +kernel
set_option maxRecDepth 1000000 in
theorem kn_142 : kNx zt_142 = true := by decide +kernel
set_option maxRecDepth 1000000 in
theorem kd_143 : ∀ e ∈ zt_143, decode (gB 143) e.1 = .ok (e.2.1, e.2.2) := by decide +kernel
set_option maxRecDepth 1000000 in
theorem kr_143 : zr_143 = zt_143.map (fun e => rs 143 zt_143 e.1 e.2.1) := by decide +kernel
set_option maxRecDepth 1000000 in
theorem kn_143 : kNx zt_143 = true := by decide +kernel
set_option maxRecDepth 1000000 in
theorem kd_144 : ∀ e ∈ zt_144, decode (gB 144) e.1 = .ok (e.2.1, e.2.2) := by decide +kernel
set_option maxRecDepth 1000000 in
theorem kr_144 : zr_144 = zt_144.map (fun e => rs 144 zt_144 e.1 e.2.1) := by decide +kernel
set_option maxRecDepth 1000000 in
theorem kn_144 : kNx zt_144 = true := by decide +kernel
set_option maxRecDepth 1000000 in
theorem kd_145 : ∀ e ∈ zt_145, decode (gB 145) e.1 = .ok (e.2.1, e.2.2) := by decide +kernel
set_option maxRecDepth 1000000 in
theorem kr_145 : zr_145 = zt_145.map (fun e => rs 145 zt_145 e.1 e.2.1) := by decide +kernel
set_option maxRecDepth 1000000 in
theorem kn_145 : kNx zt_145 = true := by decide +kernel
set_option maxRecDepth 1000000 in
theorem kd_146 : ∀ e ∈ zt_146, decode (gB 146) e.1 = .ok (e.2.1, e.2.2) := by decide +kernel
set_option maxRecDepth 1000000 in
theorem kr_146 : zr_146 = zt_146.map (fun e => rs 146 zt_146 e.1 e.2.1) := by decide +kernel
set_option maxRecDepth 1000000 in
theorem kn_146 : kNx zt_146 = true := by decide +kernel
set_option maxRecDepth 1000000 in
theorem kd_147 : ∀ e ∈ zt_147, decode (gB 147) e.1 = .ok (e.2.1, e.2.2) := by decide +kernel
set_option maxRecDepth 1000000 in
theorem kr_147 : zr_147 = zt_147.map (fun e => rs 147 zt_147 e.1 e.2.1) := by decide +kernel
set_option maxRecDepth 1000000 in
theorem kn_147 : kNx zt_147 = true := by decide +kernel
set_option maxRecDepth 1000000 in
theorem kd_148 : ∀ e ∈ zt_148, decode (gB 148) e.1 = .ok (e.2.1, e.2.2) := by decide +kernel
set_option maxRecDepth 1000000 in
theorem kr_148 : zr_148 = zt_148.map (fun e => rs 148 zt_148 e.1 e.2.1) := by decide +kernel
set_option maxRecDepth 1000000 in
theorem kn_148 : kNx zt_148 = true := by decide +kernel
set_option maxRecDepth 1000000 in
theorem kd_149 : ∀ e ∈ zt_149, decode (gB 149) e.1 = .ok (e.2.1, e.2.2) := by decide +kernel
set_option maxRecDepth 1000000 in
theorem kr_149 : zr_149 = zt_149.map (fun e => rs 149 zt_149 e.1 e.2.1) := by decide +kernel
set_option maxRecDepth 1000000 in
theorem kn_149 : kNx zt_149 = true := by decide +kernel
set_option maxRecDepth 1000000 in
theorem kd_150 : ∀ e ∈ zt_150, decode (gB 150) e.1 = .ok (e.2.1, e.2.2) := by decide +kernel
set_option maxRecDepth 1000000 in
theorem kr_150 : zr_150 = zt_150.map (fun e => rs 150 zt_150 e.1 e.2.1) := by decide +kernel
set_option maxRecDepth 1000000 in
theorem kn_150 : kNx zt_150 = true := by decide +kernel
set_option maxRecDepth 1000000 in
theorem kd_151 : ∀ e ∈ zt_151, decode (gB 151) e.1 = .ok (e.2.1, e.2.2) := by decide +kernel
set_option maxRecDepth 1000000 in
theorem kr_151 : zr_151 = zt_151.map (fun e => rs 151 zt_151 e.1 e.2.1) := by decide +kernel
set_option maxRecDepth 1000000 in
theorem kn_151 : kNx zt_151 = true := by decide +kernel
set_option maxRecDepth 1000000 in
theorem kd_152 : ∀ e ∈ zt_152, decode (gB 152) e.1 = .ok (e.2.1, e.2.2) := by decide +kernel
set_option maxRecDepth 1000000 in
theorem kr_152 : zr_152 = zt_152.map (fun e => rs 152 zt_152 e.1 e.2.1) := by decide +kernel
set_option maxRecDepth 1000000 in
theorem kn_152 : kNx zt_152 = true := by decide +kernel
set_option maxRecDepth 1000000 in
theorem kd_153 : ∀ e ∈ zt_153, decode (gB 153) e.1 = .ok (e.2.1, e.2.2) := by decide +kernel
set_option maxRecDepth 1000000 in
theorem kr_153 : zr_153 = zt_153.map (fun e => rs 153 zt_153 e.1 e.2.1) := by decide +kernel
set_option maxRecDepth 1000000 in
theorem kn_153 : kNx zt_153 = true := by decide +kernel
set_option maxRecDepth 1000000 in
theorem kd_154 : ∀ e ∈ zt_154, decode (gB 154) e.1 = .ok (e.2.1, e.2.2) := by decide +kernel
set_option maxRecDepth 1000000 in
theorem kr_154 : zr_154 = zt_154.map (fun e => rs 154 zt_154 e.1 e.2.1) := by decide +kernel
set_option maxRecDepth 1000000 in
theorem kn_154 : kNx zt_154 = true := by decide +kernel
set_option maxRecDepth 1000000 in
theorem kd_155 : ∀ e ∈ zt_155, decode (gB 155) e.1 = .ok (e.2.1, e.2.2) := by decide +kernel
set_option maxRecDepth 1000000 in
theorem kr_155 : zr_155 = zt_155.map (fun e => rs 155 zt_155 e.1 e.2.1) := by decide +kernel
set_option maxRecDepth 1000000 in
theorem kn_155 : kNx zt_155 = true := by decide +kernel
set_option maxRecDepth 1000000 in
theorem kd_156 : ∀ e ∈ zt_156, decode (gB 156) e.1 = .ok (e.2.1, e.2.2) := by decide +kernel
set_option maxRecDepth 1000000 in
theorem kr_156 : zr_156 = zt_156.map (fun e => rs 156 zt_156 e.1 e.2.1) := by decide +kernel
set_option maxRecDepth 1000000 in
theorem kn_156 : kNx zt_156 = true := by decide +kernel
set_option maxRecDepth 1000000 in
theorem kd_157 : ∀ e ∈ zt_157, decode (gB 157) e.1 = .ok (e.2.1, e.2.2) := by decide +kernel
set_option maxRecDepth 1000000 in
theorem kr_157 : zr_157 = zt_157.map (fun e => rs 157 zt_157 e.1 e.2.1) := by decide +kernel
set_option maxRecDepth 1000000 in
theorem kn_157 : kNx zt_157 = true := by decide +kernel
set_option maxRecDepth 1000000 in
theorem kd_158 : ∀ e ∈ zt_158, decode (gB 158) e.1 = .ok (e.2.1, e.2.2) := by decide +kernel
set_option maxRecDepth 1000000 in
theorem kr_158 : zr_158 = zt_158.map (fun e => rs 158 zt_158 e.1 e.2.1) := by decide +kernel
set_option maxRecDepth 1000000 in
theorem kn_158 : kNx zt_158 = true := by decide +kernel
set_option maxRecDepth 1000000 in
theorem kd_159 : ∀ e ∈ zt_159, decode (gB 159) e.1 = .ok (e.2.1, e.2.2) := by decide +kernel
set_option maxRecDepth 1000000 in
theorem kr_159 : zr_159 = zt_159.map (fun e => rs 159 zt_159 e.1 e.2.1) := by decide +kernel
set_option maxRecDepth 1000000 in
theorem kn_159 : kNx zt_159 = true := by decide +kernel
set_option maxRecDepth 1000000 in
theorem kd_160 : ∀ e ∈ zt_160, decode (gB 160) e.1 = .ok (e.2.1, e.2.2) := by decide +kernel
set_option maxRecDepth 1000000 in
theorem kr_160 : zr_160 = zt_160.map (fun e => rs 160 zt_160 e.1 e.2.1) := by decide +kernel
set_option maxRecDepth 1000000 in
theorem kn_160 : kNx zt_160 = true := by decide +kernel
set_option maxRecDepth 1000000 in
theorem kd_161 : ∀ e ∈ zt_161, decode (gB 161) e.1 = .ok (e.2.1, e.2.2) := by decide +kernel
set_option maxRecDepth 1000000 in
theorem kr_161 : zr_161 = zt_161.map (fun e => rs 161 zt_161 e.1 e.2.1) := by decide +kernel
set_option maxRecDepth 1000000 in
theorem kn_161 : kNx zt_161 = true := by decide +kernel
set_option maxRecDepth 1000000 in
theorem kd_162 : ∀ e ∈ zt_162, decode (gB 162) e.1 = .ok (e.2.1, e.2.2) := by decide +kernel
set_option maxRecDepth 1000000 in
theorem kr_162 : zr_162 = zt_162.map (fun e => rs 162 zt_162 e.1 e.2.1) := by decide +kernel
set_option maxRecDepth 1000000 in
theorem kn_162 : kNx zt_162 = true := by decide +kernel
set_option maxRecDepth 1000000 in
theorem kd_163 : ∀ e ∈ zt_163, decode (gB 163) e.1 = .ok (e.2.1, e.2.2) := by decide +kernel
set_option maxRecDepth 1000000 in
theorem kr_163 : zr_163 = zt_163.map (fun e => rs 163 zt_163 e.1 e.2.1) := by decide +kernel
set_option maxRecDepth 1000000 in
theorem kn_163 : kNx zt_163 = true := by decide +kernel
set_option maxRecDepth 1000000 in
theorem kd_164 : ∀ e ∈ zt_164, decode (gB 164) e.1 = .ok (e.2.1, e.2.2) := by decide +kernel
set_option maxRecDepth 1000000 in
theorem kr_164 : zr_164 = zt_164.map (fun e => rs 164 zt_164 e.1 e.2.1) := by decide +kernel
set_option maxRecDepth 1000000 in
theorem kn_164 : kNx zt_164 = true := by decide +kernel
set_option maxRecDepth 1000000 in
theorem kd_165 : ∀ e ∈ zt_165, decode (gB 165) e.1 = .ok (e.2.1, e.2.2) := by decide +kernel
set_option maxRecDepth 1000000 in
theorem kr_165 : zr_165 = zt_165.map (fun e => rs 165 zt_165 e.1 e.2.1) := by decide +kernel
set_option maxRecDepth 1000000 in
theorem kn_165 : kNx zt_165 = true := by decide +kernel
set_option maxRecDepth 1000000 in
theorem kd_166 : ∀ e ∈ zt_166, decode (gB 166) e.1 = .ok (e.2.1, e.2.2) := by decide +kernel
set_option maxRecDepth 1000000 in
theorem kr_166 : zr_166 = zt_166.map (fun e => rs 166 zt_166 e.1 e.2.1) := by decide +kernel
set_option maxRecDepth 1000000 in
theorem kn_166 : kNx zt_166 = true := by decide +kernel
set_option maxRecDepth 1000000 in
theorem kd_167 : ∀ e ∈ zt_167, decode (gB 167) e.1 = .ok (e.2.1, e.2.2) := by decide +kernel
set_option maxRecDepth 1000000 in
theorem kr_167 : zr_167 = zt_167.map (fun e => rs 167 zt_167 e.1 e.2.1) := by decide +kernel
set_option maxRecDepth 1000000 in
theorem kn_167 : kNx zt_167 = true := by decide +kernel
set_option maxRecDepth 1000000 in
theorem kd_168 : ∀ e ∈ zt_168, decode (gB 168) e.1 = .ok (e.2.1, e.2.2) := by decide +kernel
set_option maxRecDepth 1000000 in
theorem kr_168 : zr_168 = zt_168.map (fun e => rs 168 zt_168 e.1 e.2.1) := by decide +kernel
set_option maxRecDepth 1000000 in
theorem kn_168 : kNx zt_168 = true := by decide +kernel
set_option maxRecDepth 1000000 in
theorem kd_169 : ∀ e ∈ zt_169, decode (gB 169) e.1 = .ok (e.2.1, e.2.2) := by decide +kernel
set_option maxRecDepth 1000000 in
theorem kr_169 : zr_169 = zt_169.map (fun e => rs 169 zt_169 e.1 e.2.1) := by decide +kernel
set_option maxRecDepth 1000000 in
theorem kn_169 : kNx zt_169 = true := by decide +kernel
set_option maxRecDepth 1000000 in
theorem kd_170 : ∀ e ∈ zt_170, decode (gB 170) e.1 = .ok (e.2.1, e.2.2) := by decide +kernel
set_option maxRecDepth 1000000 in
theorem kr_170 : zr_170 = zt_170.map (fun e => rs 170 zt_170 e.1 e.2.1) := by decide +kernel
set_option maxRecDepth 1000000 in
theorem kn_170 : kNx zt_170 = true := by decide +kernel
set_option maxRecDepth 1000000 in
theorem kd_171 : ∀ e ∈ zt_171, decode (gB 171) e.1 = .ok (e.2.1, e.2.2) := by decide +kernel
set_option maxRecDepth 1000000 in
theorem kr_171 : zr_171 = zt_171.map (fun e => rs 171 zt_171 e.1 e.2.1) := by decide +kernel
set_option maxRecDepth 1000000 in
theorem kn_171 : kNx zt_171 = true := by decide +kernel
set_option maxRecDepth 1000000 in
theorem kd_172 : ∀ e ∈ zt_172, decode (gB 172) e.1 = .ok (e.2.1, e.2.2) := by decide +kernel
set_option maxRecDepth 1000000 in
theorem kr_172 : zr_172 = zt_172.map (fun e => rs 172 zt_172 e.1 e.2.1) := by decide +kernel
set_option maxRecDepth 1000000 in
theorem kn_172 : kNx zt_172 = true := by decide +kernel
set_option maxRecDepth 1000000 in
theorem kd_173 : ∀ e ∈ zt_173, decode (gB 173) e.1 = .ok (e.2.1, e.2.2) := by decide +kernel
set_option maxRecDepth 1000000 in
theorem kr_173 : zr_173 = zt_173.map (fun e => rs 173 zt_173 e.1 e.2.1) := by decide +kernel
set_option maxRecDepth 1000000 in
theorem kn_173 : kNx zt_173 = true := by decide +kernel
set_option maxRecDepth 1000000 in
theorem kd_174 : ∀ e ∈ zt_174, decode (gB 174) e.1 = .ok (e.2.1, e.2.2) := by decide +kernel
set_option maxRecDepth 1000000 in
theorem kr_174 : zr_174 = zt_174.map (fun e => rs 174 zt_174 e.1 e.2.1) := by decide +kernel
set_option maxRecDepth 1000000 in
theorem kn_174 : kNx zt_174 = true := by decide +kernel
set_option maxRecDepth 1000000 in
theorem kd_175 : ∀ e ∈ zt_175, decode (gB 175) e.1 = .ok (e.2.1, e.2.2) := by decide +kernel
set_option maxRecDepth 1000000 in
theorem kr_175 : zr_175 = zt_175.map (fun e => rs 175 zt_175 e.1 e.2.1) := by decide +kernel
set_option maxRecDepth 1000000 in
theorem kn_175 : kNx zt_175 = true := by decide +kernel
set_option maxRecDepth 1000000 in
theorem kd_176 : ∀ e ∈ zt_176, decode (gB 176) e.1 = .ok (e.2.1, e.2.2) := by decide +kernel
set_option maxRecDepth 1000000 in
theorem kr_176 : zr_176 = zt_176.map (fun e => rs 176 zt_176 e.1 e.2.1) := by decide +kernel
set_option maxRecDepth 1000000 in
theorem kn_176 : kNx zt_176 = true := by decide +kernel
set_option maxRecDepth 1000000 in
theorem kd_177 : ∀ e ∈ zt_177, decode (gB 177) e.1 = .ok (e.2.1, e.2.2) := by decide +kernel
set_option maxRecDepth 1000000 in
theorem kr_177 : zr_177 = zt_177.map (fun e => rs 177 zt_177 e.1 e.2.1) := by decide +kernel
set_option maxRecDepth 1000000 in
theorem kn_177 : kNx zt_177 = true := by decide +kernel
set_option maxRecDepth 1000000 in
theorem kd_178 : ∀ e ∈ zt_178, decode (gB 178) e.1 = .ok (e.2.1, e.2.2) := by decide +kernel
set_option maxRecDepth 1000000 in
theorem kr_178 : zr_178 = zt_178.map (fun e => rs 178 zt_178 e.1 e.2.1) := by decide +kernel
set_option maxRecDepth 1000000 in
theorem kn_178 : kNx zt_178 = true := by decide +kernel
set_option maxRecDepth 1000000 in
theorem kd_179 : ∀ e ∈ zt_179, decode (gB 179) e.1 = .ok (e.2.1, e.2.2) := by decide +kernel
set_option maxRecDepth 1000000 in
theorem kr_179 : zr_179 = zt_179.map (fun e => rs 179 zt_179 e.1 e.2.1) := by decide +kernel
set_option maxRecDepth 1000000 in
theorem kn_179 : kNx zt_179 = true := by decide +kernel
set_option maxRecDepth 1000000 in
theorem kd_180 : ∀ e ∈ zt_180, decode (gB 180) e.1 = .ok (e.2.1, e.2.2) := by decide +kernel
set_option maxRecDepth 1000000 in
theorem kr_180 : zr_180 = zt_180.map (fun e => rs 180 zt_180 e.1 e.2.1) := by decide +kernel
set_option maxRecDepth 1000000 in
theorem kn_180 : kNx zt_180 = true := by decide +kernel
set_option maxRecDepth 1000000 in
theorem kd_181 : ∀ e ∈ zt_181, decode (gB 181) e.1 = .ok (e.2.1, e.2.2) := by decide +kernel
set_option maxRecDepth 1000000 in
theorem kr_181 : zr_181 = zt_181.map (fun e => rs 181 zt_181 e.1 e.2.1) := by decide +kernel
set_option maxRecDepth 1000000 in
theorem kn_181 : kNx zt_181 = true := by decide +kernel
set_option maxRecDepth 1000000 in
theorem kd_182 : ∀ e ∈ zt_182, decode (gB 182) e.1 = .ok (e.2.1, e.2.2) := by decide +kernel
set_option maxRecDepth 1000000 in
theorem kr_182 : zr_182 = zt_182.map (fun e => rs 182 zt_182 e.1 e.2.1) := by decide +kernel
set_option maxRecDepth 1000000 in
theorem kn_182 : kNx zt_182 = true := by decide +kernel
set_option maxRecDepth 1000000 in
theorem kd_183 : ∀ e ∈ zt_183, decode (gB 183) e.1 = .ok (e.2.1, e.2.2) := by decide +kernel
set_option maxRecDepth 1000000 in
theorem kr_183 : zr_183 = zt_183.map (fun e => rs 183 zt_183 e.1 e.2.1) := by decide +kernel
set_option maxRecDepth 1000000 in
theorem kn_183 : kNx zt_183 = true := by decide +kernel
set_option maxRecDepth 1000000 in
theorem kd_184 : ∀ e ∈ zt_184, decode (gB 184) e.1 = .ok (e.2.1, e.2.2) := by decide +kernel
set_option maxRecDepth 1000000 in
theorem kr_184 : zr_184 = zt_184.map (fun e => rs 184 zt_184 e.1 e.2.1) := by decide +kernel
set_option maxRecDepth 1000000 in
theorem kn_184 : kNx zt_184 = true := by decide +kernel
set_option maxRecDepth 1000000 in
theorem kd_185 : ∀ e ∈ zt_185, decode (gB 185) e.1 = .ok (e.2.1, e.2.2) := by decide +kernel
set_option maxRecDepth 1000000 in
theorem kr_185 : zr_185 = zt_185.map (fun e => rs 185 zt_185 e.1 e.2.1) := by decide +kernel
set_option maxRecDepth 1000000 in
theorem kn_185 : kNx zt_185 = true := by decide +kernel
set_option maxRecDepth 1000000 in
theorem kd_186 : ∀ e ∈ zt_186, decode (gB 186) e.1 = .ok (e.2.1, e.2.2) := by decide +kernel
set_option maxRecDepth 1000000 in
theorem kr_186 : zr_186 = zt_186.map (fun e => rs 186 zt_186 e.1 e.2.1) := by decide +kernel
set_option maxRecDepth 1000000 in
theorem kn_186 : kNx zt_186 = true := by decide +kernel
set_option maxRecDepth 1000000 in
theorem kd_187 : ∀ e ∈ zt_187, decode (gB 187) e.1 = .ok (e.2.1, e.2.2) := by decide +kernel
set_option maxRecDepth 1000000 in
theorem kr_187 : zr_187 = zt_187.map (fun e => rs 187 zt_187 e.1 e.2.1) := by decide +kernel
set_option maxRecDepth 1000000 in
theorem kn_187 : kNx zt_187 = true := by decide +kernel
set_option maxRecDepth 1000000 in
theorem kd_188 : ∀ e ∈ zt_188, decode (gB 188) e.1 = .ok (e.2.1, e.2.2) := by decide +kernel
set_option maxRecDepth 1000000 in
theorem kr_188 : zr_188 = zt_188.map (fun e => rs 188 zt_188 e.1 e.2.1) := by decide +kernel
set_option maxRecDepth 1000000 in
theorem kn_188 : kNx zt_188 = true := by decide +kernel
set_option maxRecDepth 1000000 in
theorem kd_189 : ∀ e ∈ zt_189, decode (gB 189) e.1 = .ok (e.2.1, e.2.2) := by decide +kernel
set_option maxRecDepth 1000000 in
theorem kr_189 : zr_189 = zt_189.map (fun e => rs 189 zt_189 e.1 e.2.1) := by decide +kernel
set_option maxRecDepth 1000000 in
theorem kn_189 : kNx zt_189 = true := by decide +kernel
set_option maxRecDepth 1000000 in
theorem kd_190 : ∀ e ∈ zt_190, decode (gB 190) e.1 = .ok (e.2.1, e.2.2) := by decide +kernel
set_option maxRecDepth 1000000 in
theorem kr_190 : zr_190 = zt_190.map (fun e => rs 190 zt_190 e.1 e.2.1) := by decide +kernel
set_option maxRecDepth 1000000 in
theorem kn_190 : kNx zt_190 = true := by decide +kernel
set_option maxRecDepth 1000000 in
theorem kd_191 : ∀ e ∈ zt_191, decode (gB 191) e.1 = .ok (e.2.1, e.2.2) := by decide +kernel
set_option maxRecDepth 1000000 in
theorem kr_191 : zr_191 = zt_191.map (fun e => rs 191 zt_191 e.1 e.2.1) := by decide +kernel
set_option maxRecDepth 1000000 in
theorem kn_191 : kNx zt_191 = true := by decide +kernel
set_option maxRecDepth 1000000 in
theorem kd_192 : ∀ e ∈ zt_192, decode (gB 192) e.1 = .ok (e.2.1, e.2.2) := by decide +kernel
set_option maxRecDepth 1000000 in
theorem kr_192 : zr_192 = zt_192.map (fun e => rs 192 zt_192 e.1 e.2.1) := by decide +kernel
set_option maxRecDepth 1000000 in
theorem kn_192 : kNx zt_192 = true := by decide +kernel
set_option maxRecDepth 1000000 in
theorem kd_193 : ∀ e ∈ zt_193, decode (gB 193) e.1 = .ok (e.2.1, e.2.2) := by decide +kernel
set_option maxRecDepth 1000000 in
theorem kr_193 : zr_193 = zt_193.map (fun e => rs 193 zt_193 e.1 e.2.1) := by decide +kernel
set_option maxRecDepth 1000000 in
theorem kn_193 : kNx zt_193 = true := by decide +kernel
set_option maxRecDepth 1000000 in
theorem kd_194 : ∀ e ∈ zt_194, decode (gB 194) e.1 = .ok (e.2.1, e.2.2) := by decide +kernel
set_option maxRecDepth 1000000 in
theorem kr_194 : zr_194 = zt_194.map (fun e => rs 194 zt_194 e.1 e.2.1) := by decide +kernel
set_option maxRecDepth 1000000 in
theorem kn_194 : kNx zt_194 = true := by decide +kernel
set_option maxRecDepth 1000000 in
theorem kd_195 : ∀ e ∈ zt_195, decode (gB 195) e.1 = .ok (e.2.1, e.2.2) := by decide +kernel
set_option maxRecDepth 1000000 in
theorem kr_195 : zr_195 = zt_195.map (fun e => rs 195 zt_195 e.1 e.2.1) := by decide +kernel
set_option maxRecDepth 1000000 in
theorem kn_195 : kNx zt_195 = true := by decide +kernel
set_option maxRecDepth 1000000 in
theorem kd_196 : ∀ e ∈ zt_196, decode (gB 196) e.1 = .ok (e.2.1, e.2.2) := by decide +kernel
set_option maxRecDepth 1000000 in
theorem kr_196 : zr_196 = zt_196.map (fun e => rs 196 zt_196 e.1 e.2.1) := by decide +kernel
set_option maxRecDepth 1000000 in
theorem kn_196 : kNx zt_196 = true := by decide +kernel
set_option maxRecDepth 1000000 in
theorem kd_197 : ∀ e ∈ zt_197, decode (gB 197) e.1 = .ok (e.2.1, e.2.2) := by decide +kernel
set_option maxRecDepth 1000000 in
theorem kr_197 : zr_197 = zt_197.map (fun e => rs 197 zt_197 e.1 e.2.1) := by decide +kernel
set_option maxRecDepth 1000000 in
theorem kn_197 : kNx zt_197 = true := by decide +kernel
set_option maxRecDepth 1000000 in
theorem kd_198 : ∀ e ∈ zt_198, decode (gB 198) e.1 = .ok (e.2.1, e.2.2) := by decide +kernel
set_option maxRecDepth 1000000 in
theorem kr_198 : zr_198 = zt_198.map (fun e => rs 198 zt_198 e.1 e.2.1) := by decide +kernel
set_option maxRecDepth 1000000 in
theorem kn_198 : kNx zt_198 = true := by decide +kernel
set_option maxRecDepth 1000000 in
theorem kd_199 : ∀ e ∈ zt_199, decode (gB 199) e.1 = .ok (e.2.1, e.2.2) := by decide +kernel
set_option maxRecDepth 1000000 in
theorem kr_199 : zr_199 = zt_199.map (fun e => rs 199 zt_199 e.1 e.2.1) := by decide +kernel
set_option maxRecDepth 1000000 in
theorem kn_199 : kNx zt_199 = true := by decide +kernel
set_option maxRecDepth 1000000 in
theorem kd_200 : ∀ e ∈ zt_200, decode (gB 200) e.1 = .ok (e.2.1, e.2.2) := by decide +kernel
set_option maxRecDepth 1000000 in
theorem kr_200 : zr_200 = zt_200.map (fun e => rs 200 zt_200 e.1 e.2.1) := by decide +kernel
set_option maxRecDepth 1000000 in
theorem kn_200 : kNx zt_200 = true := by decide +kernel
set_option maxRecDepth 1000000 in
theorem kd_201 : ∀ e ∈ zt_201, decode (gB 201) e.1 = .ok (e.2.1, e.2.2) := by decide +kernel
set_option maxRecDepth 1000000 in
theorem kr_201 : zr_201 = zt_201.map (fun e => rs 201 zt_201 e.1 e.2.1) := by decide +kernel
set_option maxRecDepth 1000000 in
theorem kn_201 : kNx zt_201 = true := by decide +kernel
set_option maxRecDepth 1000000 in
theorem kd_202 : ∀ e ∈ zt_202, decode (gB 202) e.1 = .ok (e.2.1, e.2.2) := by decide +kernel
set_option maxRecDepth 1000000 in
theorem kr_202 : zr_202 = zt_202.map (fun e => rs 202 zt_202 e.1 e.2.1) := by decide +kernel
set_option maxRecDepth 1000000 in
theorem kn_202 : kNx zt_202 = true := by decide +kernel
set_option maxRecDepth 1000000 in
theorem kd_203 : ∀ e ∈ zt_203, decode (gB 203) e.1 = .ok (e.2.1, e.2.2) := by decide +kernel
set_option maxRecDepth 1000000 in
theorem kr_203 : zr_203 = zt_203.map (fun e => rs 203 zt_203 e.1 e.2.1) := by decide +kernel
set_option maxRecDepth 1000000 in
theorem kn_203 : kNx zt_203 = true := by decide +kernel
set_option maxRecDepth 1000000 in
theorem kd_204 : ∀ e ∈ zt_204, decode (gB 204) e.1 = .ok (e.2.1, e.2.2) := by decide +kernel
set_option maxRecDepth 1000000 in
theorem kr_204 : zr_204 = zt_204.map (fun e => rs 204 zt_204 e.1 e.2.1) := by decide +kernel
set_option maxRecDepth 1000000 in
theorem kn_204 : kNx zt_204 = true := by decide +kernel
set_option maxRecDepth 1000000 in
theorem kd_205 : ∀ e ∈ zt_205, decode (gB 205) e.1 = .ok (e.2.1, e.2.2) := by decide +kernel
set_option maxRecDepth 1000000 in
theorem kr_205 : zr_205 = zt_205.map (fun e => rs 205 zt_205 e.1 e.2.1) := by decide +kernel
set_option maxRecDepth 1000000 in
theorem kn_205 : kNx zt_205 = true := by decide +kernel
set_option maxRecDepth 1000000 in
theorem kd_206 : ∀ e ∈ zt_206, decode (gB 206) e.1 = .ok (e.2.1, e.2.2) := by decide +kernel
set_option maxRecDepth 1000000 in
theorem kr_206 : zr_206 = zt_206.map (fun e => rs 206 zt_206 e.1 e.2.1) := by decide +kernel
set_option maxRecDepth 1000000 in
theorem kn_206 : kNx zt_206 = true := by decide +kernel
set_option maxRecDepth 1000000 in
theorem kd_207 : ∀ e ∈ zt_207, decode (gB 207) e.1 = .ok (e.2.1, e.2.2) := by decide +kernel
set_option maxRecDepth 1000000 in
theorem kr_207 : zr_207 = zt_207.map (fun e => rs 207 zt_207 e.1 e.2.1) := by decide +kernel
set_option maxRecDepth 1000000 in
theorem kn_207 : kNx zt_207 = true := by decide +kernel
set_option maxRecDepth 1000000 in
theorem kd_208 : ∀ e ∈ zt_208, decode (gB 208) e.1 = .ok (e.2.1, e.2.2) := by decide +kernel
set_option maxRecDepth 1000000 in
theorem kr_208 : zr_208 = zt_208.map (fun e => rs 208 zt_208 e.1 e.2.1) := by decide +kernel
set_option maxRecDepth 1000000 in
theorem kn_208 : kNx zt_208 = true := by decide +kernel
set_option maxRecDepth 1000000 in
theorem kd_209 : ∀ e ∈ zt_209, decode (gB 209) e.1 = .ok (e.2.1, e.2.2) := by decide +kernel
set_option maxRecDepth 1000000 in
theorem kr_209 : zr_209 = zt_209.map (fun e => rs 209 zt_209 e.1 e.2.1) := by decide +kernel
set_option maxRecDepth 1000000 in
theorem kn_209 : kNx zt_209 = true := by decide +kernel
set_option maxRecDepth 1000000 in
theorem kd_210 : ∀ e ∈ zt_210, decode (gB 210) e.1 = .ok (e.2.1, e.2.2) := by decide +kernel
set_option maxRecDepth 1000000 in
theorem kr_210 : zr_210 = zt_210.map (fun e => rs 210 zt_210 e.1 e.2.1) := by decide +kernel
set_option maxRecDepth 1000000 in
theorem kn_210 : kNx zt_210 = true := by decide +kernel
set_option maxRecDepth 1000000 in
theorem kd_211 : ∀ e ∈ zt_211, decode (gB 211) e.1 = .ok (e.2.1, e.2.2) := by decide +kernel
set_option maxRecDepth 1000000 in
theorem kr_211 : zr_211 = zt_211.map (fun e => rs 211 zt_211 e.1 e.2.1) := by decide +kernel
set_option maxRecDepth 1000000 in
theorem kn_211 : kNx zt_211 = true := by decide +kernel
set_option maxRecDepth 1000000 in
theorem kd_212 : ∀ e ∈ zt_212, decode (gB 212) e.1 = .ok (e.2.1, e.2.2) := by decide +kernel
set_option maxRecDepth 1000000 in
theorem kr_212 : zr_212 = zt_212.map (fun e => rs 212 zt_212 e.1 e.2.1) := by decide +kernel
set_option maxRecDepth 1000000 in
theorem kn_212 : kNx zt_212 = true := by decide +kernel
set_option maxRecDepth 1000000 in
theorem kd_213 : ∀ e ∈ zt_213, decode (gB 213) e.1 = .ok (e.2.1, e.2.2) := by decide +kernel
set_option maxRecDepth 1000000 in
theorem kr_213 : zr_213 = zt_213.map (fun e => rs 213 zt_213 e.1 e.2.1) := by decide +kernel
set_option maxRecDepth 1000000 in
theorem kn_213 : kNx zt_213 = true := by decide +kernel
set_option maxRecDepth 1000000 in
theorem kd_214 : ∀ e ∈ zt_214, decode (gB 214) e.1 = .ok (e.2.1, e.2.2) := by decide +kernel
set_option maxRecDepth 1000000 in
theorem kr_214 : zr_214 = zt_214.map (fun e => rs 214 zt_214 e.1 e.2.1) := by decide +kernel
set_option maxRecDepth 1000000 in
theorem kn_214 : kNx zt_214 = true := by decide +kernel
set_option maxRecDepth 1000000 in
theorem kd_215 : ∀ e ∈ zt_215, decode (gB 215) e.1 = .ok (e.2.1, e.2.2) := by decide +kernel
set_option maxRecDepth 1000000 in
theorem kr_215 : zr_215 = zt_215.map (fun e => rs 215 zt_215 e.1 e.2.1) := by decide +kernel
set_option maxRecDepth 1000000 in
theorem kn_215 : kNx zt_215 = true := by decide +kernel
set_option maxRecDepth 1000000 in
theorem kd_216 : ∀ e ∈ zt_216, decode (gB 216) e.1 = .ok (e.2.1, e.2.2) := by decide +kernel
set_option maxRecDepth 1000000 in
theorem kr_216 : zr_216 = zt_216.map (fun e => rs 216 zt_216 e.1 e.2.1) := by decide +kernel
set_option maxRecDepth 1000000 in
theorem kn_216 : kNx zt_216 = true := by decide +kernel
set_option maxRecDepth 1000000 in
theorem kd_217 : ∀ e ∈ zt_217, decode (gB 217) e.1 = .ok (e.2.1, e.2.2) := by decide +kernel
set_option maxRecDepth 1000000 in
theorem kr_217 : zr_217 = zt_217.map (fun e => rs 217 zt_217 e.1 e.2.1) := by decide +kernel
set_option maxRecDepth 1000000 in
theorem kn_217 : kNx zt_217 = true := by decide +kernel
set_option maxRecDepth 1000000 in
theorem kd_218 : ∀ e ∈ zt_218, decode (gB 218) e.1 = .ok (e.2.1, e.2.2) := by decide +kernel
set_option maxRecDepth 1000000 in
theorem kr_218 : zr_218 = zt_218.map (fun e => rs 218 zt_218 e.1 e.2.1) := by decide +kernel
set_option maxRecDepth 1000000 in
theorem kn_218 : kNx zt_218 = true := by decide +kernel
set_option maxRecDepth 1000000 in
theorem kd_219 : ∀ e ∈ zt_219, decode (gB 219) e.1 = .ok (e.2.1, e.2.2) := by decide +kernel
set_option maxRecDepth 1000000 in
theorem kr_219 : zr_219 = zt_219.map (fun e => rs 219 zt_219 e.1 e.2.1) := by decide +kernel
set_option maxRecDepth 1000000 in
theorem kn_219 : kNx zt_219 = true := by decide +kernel
set_option maxRecDepth 1000000 in
theorem kd_220 : ∀ e ∈ zt_220, decode (gB 220) e.1 = .ok (e.2.1, e.2.2) := by decide +kernel
set_option maxRecDepth 1000000 in
theorem kr_220 : zr_220 = zt_220.map (fun e => rs 220 zt_220 e.1 e.2.1) := by decide +kernel
set_option maxRecDepth 1000000 in
theorem kn_220 : kNx zt_220 = true := by decide +kernel
set_option maxRecDepth 1000000 in
theorem kd_221 : ∀ e ∈ zt_221, decode (gB 221) e.1 = .ok (e.2.1, e.2.2) := by decide +kernel
set_option maxRecDepth 1000000 in
theorem kr_221 : zr_221 = zt_221.map (fun e => rs 221 zt_221 e.1 e.2.1) := by decide +kernel
set_option maxRecDepth 1000000 in
theorem kn_221 : kNx zt_221 = true := by decide +kernel
set_option maxRecDepth 1000000 in
theorem kd_222 : ∀ e ∈ zt_222, decode (gB 222) e.1 = .ok (e.2.1, e.2.2) := by decide +kernel
set_option maxRecDepth 1000000 in
theorem kr_222 : zr_222 = zt_222.map (fun e => rs 222 zt_222 e.1 e.2.1) := by decide +kernel
set_option maxRecDepth 1000000 in
theorem kn_222 : kNx zt_222 = true := by decide +kernel
set_option maxRecDepth 1000000 in
theorem kd_223 : ∀ e ∈ zt_223, decode (gB 223) e.1 = .ok (e.2.1, e.2.2) := by decide +kernel
set_option maxRecDepth 1000000 in
theorem kr_223 : zr_223 = zt_223.map (fun e => rs 223 zt_223 e.1 e.2.1) := by decide +kernel
set_option maxRecDepth 1000000 in
theorem kn_223 : kNx zt_223 = true := by decide +kernel
set_option maxRecDepth 1000000 in
theorem kd_224 : ∀ e ∈ zt_224, decode (gB 224) e.1 = .ok (e.2.1, e.2.2) := by decide +kernel
set_option maxRecDepth 1000000 in
theorem kr_224 : zr_224 = zt_224.map (fun e => rs 224 zt_224 e.1 e.2.1) := by decide +kernel
set_option maxRecDepth 1000000 in
theorem kn_224 : kNx zt_224 = true := by decide +kernel
set_option maxRecDepth 1000000 in
theorem kd_225 : ∀ e ∈ zt_225, decode (gB 225) e.1 = .ok (e.2.1, e.2.2) := by decide +kernel
set_option maxRecDepth 1000000 in
theorem kr_225 : zr_225 = zt_225.map (fun e => rs 225 zt_225 e.1 e.2.1) := by decide +kernel
set_option maxRecDepth 1000000 in
theorem kn_225 : kNx zt_225 = true := by decide +kernel
set_option maxRecDepth 1000000 in
theorem kd_226 : ∀ e ∈ zt_226, decode (gB 226) e.1 = .ok (e.2.1, e.2.2) := by decide +kernel
set_option maxRecDepth 1000000 in
theorem kr_226 : zr_226 = zt_226.map (fun e => rs 226 zt_226 e.1 e.2.1) := by decide +kernel
set_option maxRecDepth 1000000 in
theorem kn_226 : kNx zt_226 = true := by decide +kernel
set_option maxRecDepth 1000000 in
theorem kd_227 : ∀ e ∈ zt_227, decode (gB 227) e.1 = .ok (e.2.1, e.2.2) := by decide +kernel
set_option maxRecDepth 1000000 in
theorem kr_227 : zr_227 = zt_227.map (fun e => rs 227 zt_227 e.1 e.2.1) := by decide +kernel
set_option maxRecDepth 1000000 in
theorem kn_227 : kNx zt_227 = true := by decide +kernel
set_option maxRecDepth 1000000 in
theorem kd_228 : ∀ e ∈ zt_228, decode (gB 228) e.1 = .ok (e.2.1, e.2.2) := by decide +kernel
set_option maxRecDepth 1000000 in
theorem kr_228 : zr_228 = zt_228.map (fun e => rs 228 zt_228 e.1 e.2.1) := by decide +kernel
set_option maxRecDepth 1000000 in
theorem kn_228 : kNx zt_228 = true := by decide +kernel
set_option maxRecDepth 1000000 in
theorem kd_229 : ∀ e ∈ zt_229, decode (gB 229) e.1 = .ok (e.2.1, e.2.2) := by decide +kernel
set_option maxRecDepth 1000000 in
theorem kr_229 : zr_229 = zt_229.map (fun e => rs 229 zt_229 e.1 e.2.1) := by decide +kernel
set_option maxRecDepth 1000000 in
theorem kn_229 : kNx zt_229 = true := by decide +kernel
set_option maxRecDepth 1000000 in
theorem kd_230 : ∀ e ∈ zt_230, decode (gB 230) e.1 = .ok (e.2.1, e.2.2) := by decide +kernel
set_option maxRecDepth 1000000 in
theorem kr_230 : zr_230 = zt_230.map (fun e => rs 230 zt_230 e.1 e.2.1) := by decide +kernel
set_option maxRecDepth 1000000 in
theorem kn_230 : kNx zt_230 = true := by decide +kernel
set_option maxRecDepth 1000000 in
theorem kd_231 : ∀ e ∈ zt_231, decode (gB 231) e.1 = .ok (e.2.1, e.2.2) := by decide +kernel
set_option maxRecDepth 1000000 in
theorem kr_231 : zr_231 = zt_231.map (fun e => rs 231 zt_231 e.1 e.2.1) := by decide +kernel
set_option maxRecDepth 1000000 in
theorem kn_231 : kNx zt_231 = true := by decide +kernel
set_option maxRecDepth 1000000 in
theorem kd_232 : ∀ e ∈ zt_232, decode (gB 232) e.1 = .ok (e.2.1, e.2.2) := by decide +kernel
set_option maxRecDepth 1000000 in
theorem kr_232 : zr_232 = zt_232.map (fun e => rs 232 zt_232 e.1 e.2.1) := by decide +kernel
set_option maxRecDepth 1000000 in
theorem kn_232 : kNx zt_232 = true := by decide +kernel
set_option maxRecDepth 1000000 in
theorem kd_233 : ∀ e ∈ zt_233, decode (gB 233) e.1 = .ok (e.2.1, e.2.2) := by decide +kernel
set_option maxRecDepth 1000000 in
theorem kr_233 : zr_233 = zt_233.map (fun e => rs 233 zt_233 e.1 e.2.1) := by decide +kernel
set_option maxRecDepth 1000000 in
theorem kn_233 : kNx zt_233 = true := by decide +kernel
set_option maxRecDepth 1000000 in
theorem kd_234 : ∀ e ∈ zt_234, decode (gB 234) e.1 = .ok (e.2.1, e.2.2) := by decide +kernel
set_option maxRecDepth 1000000 in
theorem kr_234 : zr_234 = zt_234.map (fun e => rs 234 zt_234 e.1 e.2.1) := by decide +kernel
set_option maxRecDepth 1000000 in
theorem kn_234 : kNx zt_234 = true := by decide +kernel
set_option maxRecDepth 1000000 in
theorem kd_235 : ∀ e ∈ zt_235, decode (gB 235) e.1 = .ok (e.2.1, e.2.2) := by decide +kernel
set_option maxRecDepth 1000000 in
theorem kr_235 : zr_235 = zt_235.map (fun e => rs 235 zt_235 e.1 e.2.1) := by decide +kernel
set_option maxRecDepth 1000000 in
theorem kn_235 : kNx zt_235 = true := by decide +kernel
set_option maxRecDepth 1000000 in
theorem kd_236 : ∀ e ∈ zt_236, decode (gB 236) e.1 = .ok (e.2.1, e.2.2) := by decide +kernel
set_option maxRecDepth 1000000 in
theorem kr_236 : zr_236 = zt_236.map (fun e => rs 236 zt_236 e.1 e.2.1) := by decide +kernel
set_option maxRecDepth 1000000 in
theorem kn_236 : kNx zt_236 = true := by decide +kernel
set_option maxRecDepth 1000000 in
theorem kd_237 : ∀ e ∈ zt_237, decode (gB 237) e.1 = .ok (e.2.1, e.2.2) := by decide +kernel
set_option maxRecDepth 1000000 in
theorem kr_237 : zr_237 = zt_237.map (fun e => rs 237 zt_237 e.1 e.2.1) := by decide +kernel
set_option maxRecDepth 1000000 in
theorem kn_237 : kNx zt_237 = true := by decide +kernel
set_option maxRecDepth 1000000 in
theorem kd_238 : ∀ e ∈ zt_238, decode (gB 238) e.1 = .ok (e.2.1, e.2.2) := by decide +kernel
set_option maxRecDepth 1000000 in
theorem kr_238 : zr_238 = zt_238.map (fun e => rs 238 zt_238 e.1 e.2.1) := by decide +kernel
set_option maxRecDepth 1000000 in
theorem kn_238 : kNx zt_238 = true := by decide +kernel
set_option maxRecDepth 1000000 in
theorem kd_239 : ∀ e ∈ zt_239, decode (gB 239) e.1 = .ok (e.2.1, e.2.2) := by decide +kernel
set_option maxRecDepth 1000000 in
theorem kr_239 : zr_239 = zt_239.map (fun e => rs 239 zt_239 e.1 e.2.1) := by decide +kernel
set_option maxRecDepth 1000000 in
theorem kn_239 : kNx zt_239 = true := by decide +kernel
set_option maxRecDepth 1000000 in
theorem kd_240 : ∀ e ∈ zt_240, decode (gB 240) e.1 = .ok (e.2.1, e.2.2) := by decide +kernel
set_option maxRecDepth 1000000 in
theorem kr_240 : zr_240 = zt_240.map (fun e => rs 240 zt_240 e.1 e.2.1) := by decide +kernel
set_option maxRecDepth 1000000 in
theorem kn_240 : kNx zt_240 = true := by decide +kernel
set_option maxRecDepth 1000000 in
theorem kd_241 : ∀ e ∈ zt_241, decode (gB 241) e.1 = .ok (e.2.1, e.2.2) := by decide +kernel
set_option maxRecDepth 1000000 in
theorem kr_241 : zr_241 = zt_241.map (fun e => rs 241 zt_241 e.1 e.2.1) := by decide +kernel
set_option maxRecDepth 1000000 in
theorem kn_241 : kNx zt_241 = true := by decide +kernel
set_option maxRecDepth 1000000 in
theorem kd_242 : ∀ e ∈ zt_242, decode (gB 242) e.1 = .ok (e.2.1, e.2.2) := by decide +kernel
set_option maxRecDepth 1000000 in
theorem kr_242 : zr_242 = zt_242.map (fun e => rs 242 zt_242 e.1 e.2.1) := by decide +kernel
set_option maxRecDepth 1000000 in
theorem kn_242 : kNx zt_242 = true := by decide +kernel
set_option maxRecDepth 1000000 in
theorem kd_243 : ∀ e ∈ zt_243, decode (gB 243) e.1 = .ok (e.2.1, e.2.2) := by decide +kernel
set_option maxRecDepth 1000000 in
theorem kr_243 : zr_243 = zt_243.map (fun e => rs 243 zt_243 e.1 e.2.1) := by decide +kernel
set_option maxRecDepth 1000000 in
theorem kn_243 : kNx zt_243 = true := by decide +kernel
set_option maxRecDepth 1000000 in
theorem kd_244 : ∀ e ∈ zt_244, decode (gB 244) e.1 = .ok (e.2.1, e.2.2) := by decide +kernel
set_option maxRecDepth 1000000 in
theorem kr_244 : zr_244 = zt_244.map (fun e => rs 244 zt_244 e.1 e.2.1) := by decide +kernel
set_option maxRecDepth 1000000 in
theorem kn_244 : kNx zt_244 = true := by decide +kernel
set_option maxRecDepth 1000000 in
theorem kd_245 : ∀ e ∈ zt_245, decode (gB 245) e.1 = .ok (e.2.1, e.2.2) := by decide +kernel
set_option maxRecDepth 1000000 in
theorem kr_245 : zr_245 = zt_245.map (fun e => rs 245 zt_245 e.1 e.2.1) := by decide +kernel
set_option maxRecDepth 1000000 in
theorem kn_245 : kNx zt_245 = true := by decide +kernel
set_option maxRecDepth 1000000 in
theorem kd_246 : ∀ e ∈ zt_246, decode (gB 246) e.1 = .ok (e.2.1, e.2.2) := by decide +kernel
set_option maxRecDepth 1000000 in
theorem kr_246 : zr_246 = zt_246.map (fun e => rs 246 zt_246 e.1 e.2.1) := by decide +kernel
set_option maxRecDepth 1000000 in
theorem kn_246 : kNx zt_246 = true := by decide +kernel
set_option maxRecDepth 1000000 in
theorem kd_247 : ∀ e ∈ zt_247, decode (gB 247) e.1 = .ok (e.2.1, e.2.2) := by decide +kernel
set_option maxRecDepth 1000000 in
theorem kr_247 : zr_247 = zt_247.map (fun e => rs 247 zt_247 e.1 e.2.1) := by decide +kernel
set_option maxRecDepth 1000000 in
theorem kn_247 : kNx zt_247 = true := by decide +kernel
set_option maxRecDepth 1000000 in
theorem kd_248 : ∀ e ∈ zt_248, decode (gB 248) e.1 = .ok (e.2.1, e.2.2) := by decide +kernel
set_option maxRecDepth 1000000 in
theorem kr_248 : zr_248 = zt_248.map (fun e => rs 248 zt_248 e.1 e.2.1) := by decide +kernel
set_option maxRecDepth 1000000 in
theorem kn_248 : kNx zt_248 = true := by decide +kernel
set_option maxRecDepth 1000000 in
theorem kd_249 : ∀ e ∈ zt_249, decode (gB 249) e.1 = .ok (e.2.1, e.2.2) := by decide +kernel
set_option maxRecDepth 1000000 in
theorem kr_249 : zr_249 = zt_249.map (fun e => rs 249 zt_249 e.1 e.2.1) := by decide +kernel
set_option maxRecDepth 1000000 in
theorem kn_249 : kNx zt_249 = true := by decide +kernel
set_option maxRecDepth 1000000 in
theorem kd_250 : ∀ e ∈ zt_250, decode (gB 250) e.1 = .ok (e.2.1, e.2.2) := by decide +kernel
set_option maxRecDepth 1000000 in
theorem kr_250 : zr_250 = zt_250.map (fun e => rs 250 zt_250 e.1 e.2.1) := by decide +kernel
set_option maxRecDepth 1000000 in
theorem kn_250 : kNx zt_250 = true := by decide +kernel
set_option maxRecDepth 1000000 in
theorem kd_251 : ∀ e ∈ zt_251, decode (gB 251) e.1 = .ok (e.2.1, e.2.2) := by decide +kernel
set_option maxRecDepth 1000000 in
theorem kr_251 : zr_251 = zt_251.map (fun e => rs 251 zt_251 e.1 e.2.1) := by decide +kernel
set_option maxRecDepth 1000000 in
theorem kn_251 : kNx zt_251 = true := by decide +kernel
set_option maxRecDepth 1000000 in
theorem kd_252 : ∀ e ∈ zt_252, decode (gB 252) e.1 = .ok (e.2.1, e.2.2) := by decide +kernel
set_option maxRecDepth 1000000 in
theorem kr_252 : zr_252 = zt_252.map (fun e => rs 252 zt_252 e.1 e.2.1) := by decide +kernel
set_option maxRecDepth 1000000 in
theorem kn_252 : kNx zt_252 = true := by decide +kernel
set_option maxRecDepth 1000000 in
theorem kd_253 : ∀ e ∈ zt_253, decode (gB 253) e.1 = .ok (e.2.1, e.2.2) := by decide +kernel
set_option maxRecDepth 1000000 in
theorem kr_253 : zr_253 = zt_253.map (fun e => rs 253 zt_253 e.1 e.2.1) := by decide +kernel
set_option maxRecDepth 1000000 in
theorem kn_253 : kNx zt_253 = true := by decide +kernel
set_option maxRecDepth 1000000 in
theorem kd_254 : ∀ e ∈ zt_254, decode (gB 254) e.1 = .ok (e.2.1, e.2.2) := by decide +kernel
set_option maxRecDepth 1000000 in
theorem kr_254 : zr_254 = zt_254.map (fun e => rs 254 zt_254 e.1 e.2.1) := by decide +kernel
set_option maxRecDepth 1000000 in
theorem kn_254 : kNx zt_254 = true := by decide +kernel
set_option maxRecDepth 1000000 in
theorem kd_255 : ∀ e ∈ zt_255, decode (gB 255) e.1 = .ok (e.2.1, e.2.2) := by decide +kernel
set_option maxRecDepth 1000000 in
theorem kr_255 : zr_255 = zt_255.map (fun e => rs 255 zt_255 e.1 e.2.1) := by decide +kernel
set_option maxRecDepth 1000000 in
theorem kn_255 : kNx zt_255 = true := by decide +kernel
set_option maxRecDepth 1000000 in
theorem kd_256 : ∀ e ∈ zt_256, decode (gB 256) e.1 = .ok (e.2.1, e.2.2) := by decide +kernel
set_option maxRecDepth 1000000 in
theorem kr_256 : zr_256 = zt_256.map (fun e => rs 256 zt_256 e.1 e.2.1) := by decide +kernel
set_option maxRecDepth 1000000 in
theorem kn_256 : kNx zt_256 = true := by decide +kernel
set_option maxRecDepth 1000000 in
theorem kd_257 : ∀ e ∈ zt_257, decode (gB 257) e.1 = .ok (e.2.1, e.2.2) := by decide +kernel
set_option maxRecDepth 1000000 in
theorem kr_257 : zr_257 = zt_257.map (fun e => rs 257 zt_257 e.1 e.2.1) := by decide +kernel
set_option maxRecDepth 1000000 in
theorem kn_257 : kNx zt_257 = true := by decide +kernel
set_option maxRecDepth 1000000 in
theorem kd_258 : ∀ e ∈ zt_258, decode (gB 258) e.1 = .ok (e.2.1, e.2.2) := by decide +kernel
set_option maxRecDepth 1000000 in
theorem kr_258 : zr_258 = zt_258.map (fun e => rs 258 zt_258 e.1 e.2.1) := by decide +kernel
set_option maxRecDepth 1000000 in
theorem kn_258 : kNx zt_258 = true := by decide +kernel
set_option maxRecDepth 1000000 in
theorem kd_259 : ∀ e ∈ zt_259, decode (gB 259) e.1 = .ok (e.2.1, e.2.2) := by decide +kernel
set_option maxRecDepth 1000000 in
theorem kr_259 : zr_259 = zt_259.map (fun e => rs 259 zt_259 e.1 e.2.1) := by decide +kernel
set_option maxRecDepth 1000000 in
theorem kn_259 : kNx zt_259 = true := by decide +kernel
set_option maxRecDepth 1000000 in
theorem kd_260 : ∀ e ∈ zt_260, decode (gB 260) e.1 = .ok (e.2.1, e.2.2) := by decide +kernel
set_option maxRecDepth 1000000 in
theorem kr_260 : zr_260 = zt_260.map (fun e => rs 260 zt_260 e.1 e.2.1) := by decide +kernel
set_option maxRecDepth 1000000 in
theorem kn_260 : kNx zt_260 = true := by decide +kernel
set_option maxRecDepth 1000000 in
theorem kd_261 : ∀ e ∈ zt_261, decode (gB 261) e.1 = .ok (e.2.1, e.2.2) := by decide +kernel
set_option maxRecDepth 1000000 in
theorem kr_261 : zr_261 = zt_261.map (fun e => rs 261 zt_261 e.1 e.2.1) := by decide +kernel
set_option maxRecDepth 1000000 in
theorem kn_261 : kNx zt_261 = true := by decide +kernel
set_option maxRecDepth 1000000 in
theorem kd_262 : ∀ e ∈ zt_262, decode (gB 262) e.1 = .ok (e.2.1, e.2.2) := by decide +kernel
set_option maxRecDepth 1000000 in
theorem kr_262 : zr_262 = zt_262.map (fun e => rs 262 zt_262 e.1 e.2.1) := by decide +kernel
set_option maxRecDepth 1000000 in
theorem kn_262 : kNx zt_262 = true := by decide +kernel
set_option maxRecDepth 1000000 in
theorem kd_263 : ∀ e ∈ zt_263, decode (gB 263) e.1 = .ok (e.2.1, e.2.2) := by decide +kernel
set_option maxRecDepth 1000000 in
theorem kr_263 : zr_263 = zt_263.map (fun e => rs 263 zt_263 e.1 e.2.1) := by decide +kernel
set_option maxRecDepth 1000000 in
theorem kn_263 : kNx zt_263 = true := by decide +kernel
set_option maxRecDepth 1000000 in
theorem kd_264 : ∀ e ∈ zt_264, decode (gB 264) e.1 = .ok (e.2.1, e.2.2) := by decide +kernel
set_option maxRecDepth 1000000 in
theorem kr_264 : zr_264 = zt_264.map (fun e => rs 264 zt_264 e.1 e.2.1) := by decide +kernel
set_option maxRecDepth 1000000 in
theorem kn_264 : kNx zt_264 = true := by decide +kernel
set_option maxRecDepth 1000000 in
theorem kd_265 : ∀ e ∈ zt_265, decode (gB 265) e.1 = .ok (e.2.1, e.2.2) := by decide +kernel
set_option maxRecDepth 1000000 in
theorem kr_265 : zr_265 = zt_265.map (fun e => rs 265 zt_265 e.1 e.2.1) := by decide +kernel
set_option maxRecDepth 1000000 in
theorem kn_265 : kNx zt_265 = true := by decide +kernel
set_option maxRecDepth 1000000 in
theorem kd_266 : ∀ e ∈ zt_266, decode (gB 266) e.1 = .ok (e.2.1, e.2.2) := by decide +kernel
set_option maxRecDepth 1000000 in
theorem kr_266 : zr_266 = zt_266.map (fun e => rs 266 zt_266 e.1 e.2.1) := by decide +kernel
set_option maxRecDepth 1000000 in
theorem kn_266 : kNx zt_266 = true := by decide +kernel
set_option maxRecDepth 1000000 in
theorem kd_267 : ∀ e ∈ zt_267, decode (gB 267) e.1 = .ok (e.2.1, e.2.2) := by decide +kernel
set_option maxRecDepth 1000000 in
theorem kr_267 : zr_267 = zt_267.map (fun e => rs 267 zt_267 e.1 e.2.1) := by decide +kernel
set_option maxRecDepth 1000000 in
theorem kn_267 : kNx zt_267 = true := by decide +kernel
set_option maxRecDepth 1000000 in
theorem kd_268 : ∀ e ∈ zt_268, decode (gB 268) e.1 = .ok (e.2.1, e.2.2) := by decide +kernel
set_option maxRecDepth 1000000 in
theorem kr_268 : zr_268 = zt_268.map (fun e => rs 268 zt_268 e.1 e.2.1) := by decide +kernel
set_option maxRecDepth 1000000 in
theorem kn_268 : kNx zt_268 = true := by decide +kernel
set_option maxRecDepth 1000000 in
theorem kd_269 : ∀ e ∈ zt_269, decode (gB 269) e.1 = .ok (e.2.1, e.2.2) := by decide +kernel
set_option maxRecDepth 1000000 in
theorem kr_269 : zr_269 = zt_269.map (fun e => rs 269 zt_269 e.1 e.2.1) := by decide +kernel
set_option maxRecDepth 1000000 in
theorem kn_269 : kNx zt_269 = true := by decide +kernel
set_option maxRecDepth 1000000 in
theorem kd_270 : ∀ e ∈ zt_270, decode (gB 270) e.1 = .ok (e.2.1, e.2.2) := by decide +kernel
set_option maxRecDepth 1000000 in
theorem kr_270 : zr_270 = zt_270.map (fun e => rs 270 zt_270 e.1 e.2.1) := by decide +kernel
set_option maxRecDepth 1000000 in
theorem kn_270 : kNx zt_270 = true := by decide +kernel
set_option maxRecDepth 1000000 in
theorem kd_271 : ∀ e ∈ zt_271, decode (gB 271) e.1 = .ok (e.2.1, e.2.2) := by decide +kernel
set_option maxRecDepth 1000000 in
theorem kr_271 : zr_271 = zt_271.map (fun e => rs 271 zt_271 e.1 e.2.1) := by decide +kernel
set_option maxRecDepth 1000000 in
theorem kn_271 : kNx zt_271 = true := by decide +kernel
set_option maxRecDepth 1000000 in
theorem kd_272 : ∀ e ∈ zt_272, decode (gB 272) e.1 = .ok (e.2.1, e.2.2) := by decide +kernel
set_option maxRecDepth 1000000 in
theorem kr_272 : zr_272 = zt_272.map (fun e => rs 272 zt_272 e.1 e.2.1) := by decide +kernel
set_option maxRecDepth 1000000 in
theorem kn_272 : kNx zt_272 = true := by decide +kernel
set_option maxRecDepth 1000000 in
theorem kd_273 : ∀ e ∈ zt_273, decode (gB 273) e.1 = .ok (e.2.1, e.2.2) := by decide +kernel
set_option maxRecDepth 1000000 in
theorem kr_273 : zr_273 = zt_273.map (fun e => rs 273 zt_273 e.1 e.2.1) := by decide +kernel
set_option maxRecDepth 1000000 in
theorem kn_273 : kNx zt_273 = true := by decide +kernel
set_option maxRecDepth 1000000 in
theorem kd_274 : ∀ e ∈ zt_274, decode (gB 274) e.1 = .ok (e.2.1, e.2.2) := by decide +kernel
set_option maxRecDepth 1000000 in
theorem kr_274 : zr_274 = zt_274.map (fun e => rs 274 zt_274 e.1 e.2.1) := by decide +kernel
set_option maxRecDepth 1000000 in
theorem kn_274 : kNx zt_274 = true := by decide +kernel
set_option maxRecDepth 1000000 in
theorem kd_275 : ∀ e ∈ zt_275, decode (gB 275) e.1 = .ok (e.2.1, e.2.2) := by decide +kernel
set_option maxRecDepth 1000000 in
theorem kr_275 : zr_275 = zt_275.map (fun e => rs 275 zt_275 e.1 e.2.1) := by decide +kernel
set_option maxRecDepth 1000000 in
theorem kn_275 : kNx zt_275 = true := by decide +kernel
set_option maxRecDepth 1000000 in
theorem kd_276 : ∀ e ∈ zt_276, decode (gB 276) e.1 = .ok (e.2.1, e.2.2) := by decide +kernel
set_option maxRecDepth 1000000 in
theorem kr_276 : zr_276 = zt_276.map (fun e => rs 276 zt_276 e.1 e.2.1) := by decide +kernel
set_option maxRecDepth 1000000 in
theorem kn_276 : kNx zt_276 = true := by decide +kernel
set_option maxRecDepth 1000000 in
theorem kd_277 : ∀ e ∈ zt_277, decode (gB 277) e.1 = .ok (e.2.1, e.2.2) := by decide +kernel
set_option maxRecDepth 1000000 in
theorem kr_277 : zr_277 = zt_277.map (fun e => rs 277 zt_277 e.1 e.2.1) := by decide +kernel
set_option maxRecDepth 1000000 in
theorem kn_277 : kNx zt_277 = true := by decide +kernel
set_option maxRecDepth 1000000 in
theorem kd_278 : ∀ e ∈ zt_278, decode (gB 278) e.1 = .ok (e.2.1, e.2.2) := by decide +kernel
set_option maxRecDepth 1000000 in
theorem kr_278 : zr_278 = zt_278.map (fun e => rs 278 zt_278 e.1 e.2.1) := by decide +kernel
set_option maxRecDepth 1000000 in
theorem kn_278 : kNx zt_278 = true := by decide +kernel
set_option maxRecDepth 1000000 in
theorem kd_279 : ∀ e ∈ zt_279, decode (gB 279) e.1 = .ok (e.2.1, e.2.2) := by decide +kernel
set_option maxRecDepth 1000000 in
theorem kr_279 : zr_279 = zt_279.map (fun e => rs 279 zt_279 e.1 e.2.1) := by decide +kernel
set_option maxRecDepth 1000000 in
theorem kn_279 : kNx zt_279 = true := by decide +kernel
set_option maxRecDepth 1000000 in
theorem kd_280 : ∀ e ∈ zt_280, decode (gB 280) e.1 = .ok (e.2.1, e.2.2) := by decide +kernel
set_option maxRecDepth 1000000 in
theorem kr_280 : zr_280 = zt_280.map (fun e => rs 280 zt_280 e.1 e.2.1) := by decide +kernel
set_option maxRecDepth 1000000 in
theorem kn_280 : kNx zt_280 = true := by decide +kernel
set_option maxRecDepth 1000000 in
theorem kd_281 : ∀ e ∈ zt_281, decode (gB 281) e.1 = .ok (e.2.1, e.2.2) := by decide +kernel
set_option maxRecDepth 1000000 in
theorem kr_281 : zr_281 = zt_281.map (fun e => rs 281 zt_281 e.1 e.2.1) := by decide +kernel
set_option maxRecDepth 1000000 in
theorem kn_281 : kNx zt_281 = true := by decide +kernel
set_option maxRecDepth 1000000 in
theorem kr_282 : zr_282 = zt_282.map (fun e => rs 282 zt_282 e.1 e.2.1) := by decide +kernel
set_option maxRecDepth 1000000 in
theorem kn_282 : kNx zt_282 = true := by decide +kernel
set_option maxRecDepth 1000000 in
theorem kd_283 : ∀ e ∈ zt_283, decode (gB 283) e.1 = .ok (e.2.1, e.2.2) := by decide +kernel
set_option maxRecDepth 1000000 in
theorem kr_283 : zr_283 = zt_283.map (fun e => rs 283 zt_283 e.1 e.2.1) := by decide +kernel
set_option maxRecDepth 1000000 in
theorem kn_283 : kNx zt_283 = true := by decide +kernel
