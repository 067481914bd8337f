theorem pc_dv {N : Nat} {ty : Nat → FieldType} {fs : List Value} (h : (List.range N).map (fun j => defaultValue (ty j)) = fs) : ∀ j, j < N → defaultValue (ty j) = vp_V fs j := by
  intro j hj
  subst h
  unfold vp_V
  rw [List.getD_eq_getElem?_getD, List.getElem?_map, List.getElem?_range hj]
  rfl
theorem cl_L_7 : Cond.classLink RL 7 "PassingFrames" ∈ pf_tb := pf_tbm (i := 88) (by decide +kernel) rfl
theorem nl_L_7 : pc_Nl RL 7 11 4 [.null, .null, .null, .null] := ⟨RX11, TX11, tyX11, rfl, in_X11, tyX11_ok, cl_L_7, pf_tbm (i := 89) (by decide +kernel) rfl, pf_tbm (i := 68) (by decide +kernel) rfl, pc_dv rfl⟩
theorem cl_X11_7 : Cond.classLink RX11 7 "PassingFrames$Text" ∈ pf_tb := pf_tbm (i := 96) (by decide +kernel) rfl
theorem nl_X11_7 : pc_Nl RX11 7 10 10 [.null, .null, .null, .null, .null, .int 0, .int 0, .int 0, .int 0, .int 0] := ⟨RX10, TX10, tyX10, rfl, in_X10, tyX10_ok, cl_X11_7, pf_tbm (i := 97) (by decide +kernel) rfl, pf_tbm (i := 69) (by decide +kernel) rfl, pc_dv rfl⟩
theorem cl_X11_16 : Cond.classLink RX11 16 "PassingFrames$Ring" ∈ pf_tb := pf_tbm (i := 143) (by decide +kernel) rfl
theorem nl_X11_16 : pc_Nl RX11 16 9 7 [.null, .null, .null, .int 0, .int 0, .int 0, .int 0] := ⟨RX9, TX9, tyX9, rfl, in_X9, tyX9_ok, cl_X11_16, pf_tbm (i := 144) (by decide +kernel) rfl, pf_tbm (i := 70) (by decide +kernel) rfl, pc_dv rfl⟩
theorem cl_X9_9 : Cond.classLink RX9 9 "PassingFrames$Device" ∈ pf_tb := pf_tbm (i := 149) (by decide +kernel) rfl
theorem nl_X9_9 : pc_Nl RX9 9 3 10 [.null, .null, .null, .null, .int 0, .int 0, .int 0, .int 0, .int 0, .int 0] := ⟨RX3, TX3, tyX3, rfl, in_X3, tyX3_ok, cl_X9_9, pf_tbm (i := 151) (by decide +kernel) rfl, pf_tbm (i := 71) (by decide +kernel) rfl, pc_dv rfl⟩
theorem cl_X3_15 : Cond.classLink RX3 15 "PassingFrames$Overlay" ∈ pf_tb := pf_tbm (i := 156) (by decide +kernel) rfl
theorem nl_X3_15 : pc_Nl RX3 15 7 3 [.int 0, .int 0, .int 0] := ⟨RX7, TX7, tyX7, rfl, in_X7, tyX7_ok, cl_X3_15, pf_tbm (i := 157) (by decide +kernel) rfl, pf_tbm (i := 72) (by decide +kernel) rfl, pc_dv rfl⟩
theorem cl_X3_25 : Cond.classLink RX3 25 "PassingFrames$Mailboxes" ∈ pf_tb := pf_tbm (i := 175) (by decide +kernel) rfl
theorem nl_X3_25 : pc_Nl RX3 25 5 8 [.null, .null, .int 0, .int 0, .int 0, .int 0, .int 0, .int 0] := ⟨RX5, TX5, tyX5, rfl, in_X5, tyX5_ok, cl_X3_25, pf_tbm (i := 176) (by decide +kernel) rfl, pf_tbm (i := 73) (by decide +kernel) rfl, pc_dv rfl⟩
theorem cl_X5_9 : Cond.classLink RX5 9 "PassingFrames$Queue" ∈ pf_tb := pf_tbm (i := 181) (by decide +kernel) rfl
theorem nl_X5_9 : pc_Nl RX5 9 8 2 [.null, .int 0] := ⟨RX8, TX8, tyX8, rfl, in_X8, tyX8_ok, cl_X5_9, pf_tbm (i := 182) (by decide +kernel) rfl, pf_tbm (i := 74) (by decide +kernel) rfl, pc_dv rfl⟩
theorem cl_X11_23 : Cond.classLink RX11 23 "PassingFrames$Clocks" ∈ pf_tb := pf_tbm (i := 293) (by decide +kernel) rfl
theorem nl_X11_23 : pc_Nl RX11 23 1 3 [.null, .null, .null] := ⟨RX1, TX1, tyX1, rfl, in_X1, tyX1_ok, cl_X11_23, pf_tbm (i := 294) (by decide +kernel) rfl, pf_tbm (i := 75) (by decide +kernel) rfl, pc_dv rfl⟩
theorem cl_X11_32 : Cond.classLink RX11 32 "PassingFrames$Master" ∈ pf_tb := pf_tbm (i := 309) (by decide +kernel) rfl
theorem nl_X11_32 : pc_Nl RX11 32 6 5 [.null, .null, .null, .int 0, .int 0] := ⟨RX6, TX6, tyX6, rfl, in_X6, tyX6_ok, cl_X11_32, pf_tbm (i := 310) (by decide +kernel) rfl, pf_tbm (i := 76) (by decide +kernel) rfl, pc_dv rfl⟩
theorem cl_X6_9 : Cond.classLink RX6 9 "PassingFrames$Datagram" ∈ pf_tb := pf_tbm (i := 315) (by decide +kernel) rfl
theorem nl_X6_9 : pc_Nl RX6 9 2 10 [.int 0, .int 0, .int 0, .int 0, .null, .null, .null, .null, .int 0, .int 0] := ⟨RX2, TX2, tyX2, rfl, in_X2, tyX2_ok, cl_X6_9, pf_tbm (i := 333) (by decide +kernel) rfl, pf_tbm (i := 78) (by decide +kernel) rfl, pc_dv rfl⟩
theorem cl_X6_17 : Cond.classLink RX6 17 "PassingFrames$Expectations" ∈ pf_tb := pf_tbm (i := 317) (by decide +kernel) rfl
theorem nl_X6_17 : pc_Nl RX6 17 4 3 [.null, .null, .int 0] := ⟨RX4, TX4, tyX4, rfl, in_X4, tyX4_ok, cl_X6_17, pf_tbm (i := 318) (by decide +kernel) rfl, pf_tbm (i := 77) (by decide +kernel) rfl, pc_dv rfl⟩
theorem cl_X2_15 : Cond.classLink RX2 15 "PassingFrames$Cargo" ∈ pf_tb := pf_tbm (i := 338) (by decide +kernel) rfl
theorem nl_X2_15 : pc_Nl RX2 15 0 3 [.null, .null, .int 0] := ⟨RX0, TX0, tyX0, rfl, in_X0, tyX0_ok, cl_X2_15, pf_tbm (i := 339) (by decide +kernel) rfl, pf_tbm (i := 79) (by decide +kernel) rfl, pc_dv rfl⟩
theorem cl_L_10 : Cond.classLink RL 10 "PassingFramesModel" ∈ pf_tb := pf_tbm (i := 1072) (by decide +kernel) rfl
theorem nl_L_10 : pc_Nl RL 10 12 50 [.int 0, .null, .int 0, .int 0, .null, .null, .null, .null, .int 0, .int 0, .int 0, .null, .null, .null, .null, .int 0, .int 0, .null, .null, .null, .null, .null, .int 0, .int 0, .null, .null, .null, .null, .null, .null, .null, .null, .null, .null, .null, .null, .null, .null, .null, .null, .int 0, .null, .null, .null, .int 0, .null, .int 0, .null, .null, .null] := ⟨RX12, TX12, tyX12, rfl, in_X12, tyX12_ok, cl_L_10, pf_tbm (i := 1073) (by decide +kernel) rfl, pf_tbm (i := 85) (by decide +kernel) rfl, pc_dv rfl⟩
theorem pfl_X10_9 : pc_Fl RX10 9 10 0 (tyX10 0) := ⟨TX10, 10, tyX10, rfl, by decide, in_X10, tyX10_ok, nmX10, by decide +kernel, rfl, rfl, pf_tbm (i := 102) (by decide +kernel) rfl⟩
theorem pfl_X10_15 : pc_Fl RX10 15 10 1 (tyX10 1) := ⟨TX10, 10, tyX10, rfl, by decide, in_X10, tyX10_ok, nmX10, by decide +kernel, rfl, rfl, pf_tbm (i := 103) (by decide +kernel) rfl⟩
theorem pfl_X10_19 : pc_Fl RX10 19 10 2 (tyX10 2) := ⟨TX10, 10, tyX10, rfl, by decide, in_X10, tyX10_ok, nmX10, by decide +kernel, rfl, rfl, pf_tbm (i := 105) (by decide +kernel) rfl⟩
theorem pfl_X10_22 : pc_Fl RX10 22 10 3 (tyX10 3) := ⟨TX10, 10, tyX10, rfl, by decide, in_X10, tyX10_ok, nmX10, by decide +kernel, rfl, rfl, pf_tbm (i := 107) (by decide +kernel) rfl⟩
theorem pfl_X10_25 : pc_Fl RX10 25 10 4 (tyX10 4) := ⟨TX10, 10, tyX10, rfl, by decide, in_X10, tyX10_ok, nmX10, by decide +kernel, rfl, rfl, pf_tbm (i := 109) (by decide +kernel) rfl⟩
theorem pfl_X8_9 : pc_Fl RX8 9 8 0 (tyX8 0) := ⟨TX8, 2, tyX8, rfl, by decide, in_X8, tyX8_ok, nmX8, by decide +kernel, rfl, rfl, pf_tbm (i := 187) (by decide +kernel) rfl⟩
theorem pfl_X5_12 : pc_Fl RX5 12 5 0 (tyX5 0) := ⟨TX5, 8, tyX5, rfl, by decide, in_X5, tyX5_ok, nmX5, by decide +kernel, rfl, rfl, pf_tbm (i := 194) (by decide +kernel) rfl⟩
theorem pfl_X5_18 : pc_Fl RX5 18 5 1 (tyX5 1) := ⟨TX5, 8, tyX5, rfl, by decide, in_X5, tyX5_ok, nmX5, by decide +kernel, rfl, rfl, pf_tbm (i := 196) (by decide +kernel) rfl⟩
theorem pfl_X3_9 : pc_Fl RX3 9 3 0 (tyX3 0) := ⟨TX3, 10, tyX3, rfl, by decide, in_X3, tyX3_ok, nmX3, by decide +kernel, rfl, rfl, pf_tbm (i := 222) (by decide +kernel) rfl⟩
theorem pfl_X3_18 : pc_Fl RX3 18 3 1 (tyX3 1) := ⟨TX3, 10, tyX3, rfl, by decide, in_X3, tyX3_ok, nmX3, by decide +kernel, rfl, rfl, pf_tbm (i := 225) (by decide +kernel) rfl⟩
theorem pfl_X3_22 : pc_Fl RX3 22 3 2 (tyX3 2) := ⟨TX3, 10, tyX3, rfl, by decide, in_X3, tyX3_ok, nmX3, by decide +kernel, rfl, rfl, pf_tbm (i := 227) (by decide +kernel) rfl⟩
theorem pfl_X3_28 : pc_Fl RX3 28 3 3 (tyX3 3) := ⟨TX3, 10, tyX3, rfl, by decide, in_X3, tyX3_ok, nmX3, by decide +kernel, rfl, rfl, pf_tbm (i := 229) (by decide +kernel) rfl⟩
theorem pfl_X9_11 : pc_Fl RX9 11 9 0 (tyX9 0) := ⟨TX9, 7, tyX9, rfl, by decide, in_X9, tyX9_ok, nmX9, by decide +kernel, rfl, rfl, pf_tbm (i := 269) (by decide +kernel) rfl⟩
theorem pfl_X9_17 : pc_Fl RX9 17 9 1 (tyX9 1) := ⟨TX9, 7, tyX9, rfl, by decide, in_X9, tyX9_ok, nmX9, by decide +kernel, rfl, rfl, pf_tbm (i := 272) (by decide +kernel) rfl⟩
theorem pfl_X9_21 : pc_Fl RX9 21 9 2 (tyX9 2) := ⟨TX9, 7, tyX9, rfl, by decide, in_X9, tyX9_ok, nmX9, by decide +kernel, rfl, rfl, pf_tbm (i := 273) (by decide +kernel) rfl⟩
theorem pfl_X1_18 : pc_Fl RX1 18 1 0 (tyX1 0) := ⟨TX1, 3, tyX1, rfl, by decide, in_X1, tyX1_ok, nmX1, by decide +kernel, rfl, rfl, pf_tbm (i := 299) (by decide +kernel) rfl⟩
theorem pfl_X1_9 : pc_Fl RX1 9 1 1 (tyX1 1) := ⟨TX1, 3, tyX1, rfl, by decide, in_X1, tyX1_ok, nmX1, by decide +kernel, rfl, rfl, pf_tbm (i := 300) (by decide +kernel) rfl⟩
theorem pfl_X1_15 : pc_Fl RX1 15 1 2 (tyX1 2) := ⟨TX1, 3, tyX1, rfl, by decide, in_X1, tyX1_ok, nmX1, by decide +kernel, rfl, rfl, pf_tbm (i := 301) (by decide +kernel) rfl⟩
theorem pfl_X4_9 : pc_Fl RX4 9 4 0 (tyX4 0) := ⟨TX4, 3, tyX4, rfl, by decide, in_X4, tyX4_ok, nmX4, by decide +kernel, rfl, rfl, pf_tbm (i := 323) (by decide +kernel) rfl⟩
theorem pfl_X4_15 : pc_Fl RX4 15 4 1 (tyX4 1) := ⟨TX4, 3, tyX4, rfl, by decide, in_X4, tyX4_ok, nmX4, by decide +kernel, rfl, rfl, pf_tbm (i := 324) (by decide +kernel) rfl⟩
theorem pfl_X0_9 : pc_Fl RX0 9 0 0 (tyX0 0) := ⟨TX0, 3, tyX0, rfl, by decide, in_X0, tyX0_ok, nmX0, by decide +kernel, rfl, rfl, pf_tbm (i := 344) (by decide +kernel) rfl⟩
theorem pfl_X0_15 : pc_Fl RX0 15 0 1 (tyX0 1) := ⟨TX0, 3, tyX0, rfl, by decide, in_X0, tyX0_ok, nmX0, by decide +kernel, rfl, rfl, pf_tbm (i := 346) (by decide +kernel) rfl⟩
theorem pfl_X2_9 : pc_Fl RX2 9 2 4 (tyX2 4) := ⟨TX2, 10, tyX2, rfl, by decide, in_X2, tyX2_ok, nmX2, by decide +kernel, rfl, rfl, pf_tbm (i := 363) (by decide +kernel) rfl⟩
theorem pfl_X2_18 : pc_Fl RX2 18 2 5 (tyX2 5) := ⟨TX2, 10, tyX2, rfl, by decide, in_X2, tyX2_ok, nmX2, by decide +kernel, rfl, rfl, pf_tbm (i := 365) (by decide +kernel) rfl⟩
theorem pfl_X2_22 : pc_Fl RX2 22 2 6 (tyX2 6) := ⟨TX2, 10, tyX2, rfl, by decide, in_X2, tyX2_ok, nmX2, by decide +kernel, rfl, rfl, pf_tbm (i := 367) (by decide +kernel) rfl⟩
theorem pfl_X2_25 : pc_Fl RX2 25 2 7 (tyX2 7) := ⟨TX2, 10, tyX2, rfl, by decide, in_X2, tyX2_ok, nmX2, by decide +kernel, rfl, rfl, pf_tbm (i := 369) (by decide +kernel) rfl⟩
theorem pfl_X6_24 : pc_Fl RX6 24 6 0 (tyX6 0) := ⟨TX6, 5, tyX6, rfl, by decide, in_X6, tyX6_ok, nmX6, by decide +kernel, rfl, rfl, pf_tbm (i := 397) (by decide +kernel) rfl⟩
theorem pfl_X6_11 : pc_Fl RX6 11 6 1 (tyX6 1) := ⟨TX6, 5, tyX6, rfl, by decide, in_X6, tyX6_ok, nmX6, by decide +kernel, rfl, rfl, pf_tbm (i := 398) (by decide +kernel) rfl⟩
theorem pfl_X6_20 : pc_Fl RX6 20 6 2 (tyX6 2) := ⟨TX6, 5, tyX6, rfl, by decide, in_X6, tyX6_ok, nmX6, by decide +kernel, rfl, rfl, pf_tbm (i := 399) (by decide +kernel) rfl⟩
theorem pfl_X11_10 : pc_Fl RX11 10 11 0 (tyX11 0) := ⟨TX11, 4, tyX11, rfl, by decide, in_X11, tyX11_ok, nmX11, by decide +kernel, rfl, rfl, pf_tbm (i := 525) (by decide +kernel) rfl⟩
theorem pfl_X11_19 : pc_Fl RX11 19 11 1 (tyX11 1) := ⟨TX11, 4, tyX11, rfl, by decide, in_X11, tyX11_ok, nmX11, by decide +kernel, rfl, rfl, pf_tbm (i := 526) (by decide +kernel) rfl⟩
theorem pfl_X11_28 : pc_Fl RX11 28 11 2 (tyX11 2) := ⟨TX11, 4, tyX11, rfl, by decide, in_X11, tyX11_ok, nmX11, by decide +kernel, rfl, rfl, pf_tbm (i := 527) (by decide +kernel) rfl⟩
theorem pfl_X11_35 : pc_Fl RX11 35 11 3 (tyX11 3) := ⟨TX11, 4, tyX11, rfl, by decide, in_X11, tyX11_ok, nmX11, by decide +kernel, rfl, rfl, pf_tbm (i := 528) (by decide +kernel) rfl⟩
theorem pfl_X12_7 : pc_Fl RX12 7 12 1 (tyX12 1) := ⟨TX12, 50, tyX12, rfl, by decide, in_X12, tyX12_ok, nmX12, by decide +kernel, rfl, rfl, pf_tbm (i := 1095) (by decide +kernel) rfl⟩
theorem pfl_X12_13 : pc_Fl RX12 13 12 4 (tyX12 4) := ⟨TX12, 50, tyX12, rfl, by decide, in_X12, tyX12_ok, nmX12, by decide +kernel, rfl, rfl, pf_tbm (i := 1098) (by decide +kernel) rfl⟩
theorem pfl_X12_16 : pc_Fl RX12 16 12 5 (tyX12 5) := ⟨TX12, 50, tyX12, rfl, by decide, in_X12, tyX12_ok, nmX12, by decide +kernel, rfl, rfl, pf_tbm (i := 1099) (by decide +kernel) rfl⟩
theorem pfl_X12_19 : pc_Fl RX12 19 12 6 (tyX12 6) := ⟨TX12, 50, tyX12, rfl, by decide, in_X12, tyX12_ok, nmX12, by decide +kernel, rfl, rfl, pf_tbm (i := 1100) (by decide +kernel) rfl⟩
theorem pfl_X12_22 : pc_Fl RX12 22 12 7 (tyX12 7) := ⟨TX12, 50, tyX12, rfl, by decide, in_X12, tyX12_ok, nmX12, by decide +kernel, rfl, rfl, pf_tbm (i := 1101) (by decide +kernel) rfl⟩
theorem pfl_X12_25 : pc_Fl RX12 25 12 11 (tyX12 11) := ⟨TX12, 50, tyX12, rfl, by decide, in_X12, tyX12_ok, nmX12, by decide +kernel, rfl, rfl, pf_tbm (i := 1105) (by decide +kernel) rfl⟩
theorem pfl_X12_28 : pc_Fl RX12 28 12 12 (tyX12 12) := ⟨TX12, 50, tyX12, rfl, by decide, in_X12, tyX12_ok, nmX12, by decide +kernel, rfl, rfl, pf_tbm (i := 1106) (by decide +kernel) rfl⟩
theorem pfl_X12_31 : pc_Fl RX12 31 12 13 (tyX12 13) := ⟨TX12, 50, tyX12, rfl, by decide, in_X12, tyX12_ok, nmX12, by decide +kernel, rfl, rfl, pf_tbm (i := 1107) (by decide +kernel) rfl⟩
theorem pfl_X12_34 : pc_Fl RX12 34 12 14 (tyX12 14) := ⟨TX12, 50, tyX12, rfl, by decide, in_X12, tyX12_ok, nmX12, by decide +kernel, rfl, rfl, pf_tbm (i := 1108) (by decide +kernel) rfl⟩
theorem pfl_X12_37 : pc_Fl RX12 37 12 17 (tyX12 17) := ⟨TX12, 50, tyX12, rfl, by decide, in_X12, tyX12_ok, nmX12, by decide +kernel, rfl, rfl, pf_tbm (i := 1111) (by decide +kernel) rfl⟩
theorem pfl_X12_40 : pc_Fl RX12 40 12 18 (tyX12 18) := ⟨TX12, 50, tyX12, rfl, by decide, in_X12, tyX12_ok, nmX12, by decide +kernel, rfl, rfl, pf_tbm (i := 1112) (by decide +kernel) rfl⟩
theorem pfl_X12_43 : pc_Fl RX12 43 12 19 (tyX12 19) := ⟨TX12, 50, tyX12, rfl, by decide, in_X12, tyX12_ok, nmX12, by decide +kernel, rfl, rfl, pf_tbm (i := 1113) (by decide +kernel) rfl⟩
theorem pfl_X12_46 : pc_Fl RX12 46 12 20 (tyX12 20) := ⟨TX12, 50, tyX12, rfl, by decide, in_X12, tyX12_ok, nmX12, by decide +kernel, rfl, rfl, pf_tbm (i := 1114) (by decide +kernel) rfl⟩
theorem pfl_X12_49 : pc_Fl RX12 49 12 21 (tyX12 21) := ⟨TX12, 50, tyX12, rfl, by decide, in_X12, tyX12_ok, nmX12, by decide +kernel, rfl, rfl, pf_tbm (i := 1115) (by decide +kernel) rfl⟩
theorem pfl_X12_52 : pc_Fl RX12 52 12 24 (tyX12 24) := ⟨TX12, 50, tyX12, rfl, by decide, in_X12, tyX12_ok, nmX12, by decide +kernel, rfl, rfl, pf_tbm (i := 1118) (by decide +kernel) rfl⟩
theorem pfl_X12_55 : pc_Fl RX12 55 12 25 (tyX12 25) := ⟨TX12, 50, tyX12, rfl, by decide, in_X12, tyX12_ok, nmX12, by decide +kernel, rfl, rfl, pf_tbm (i := 1119) (by decide +kernel) rfl⟩
theorem pfl_X12_58 : pc_Fl RX12 58 12 26 (tyX12 26) := ⟨TX12, 50, tyX12, rfl, by decide, in_X12, tyX12_ok, nmX12, by decide +kernel, rfl, rfl, pf_tbm (i := 1120) (by decide +kernel) rfl⟩
theorem pfl_X12_61 : pc_Fl RX12 61 12 27 (tyX12 27) := ⟨TX12, 50, tyX12, rfl, by decide, in_X12, tyX12_ok, nmX12, by decide +kernel, rfl, rfl, pf_tbm (i := 1121) (by decide +kernel) rfl⟩
theorem pfl_X12_64 : pc_Fl RX12 64 12 28 (tyX12 28) := ⟨TX12, 50, tyX12, rfl, by decide, in_X12, tyX12_ok, nmX12, by decide +kernel, rfl, rfl, pf_tbm (i := 1122) (by decide +kernel) rfl⟩
theorem pfl_X12_67 : pc_Fl RX12 67 12 29 (tyX12 29) := ⟨TX12, 50, tyX12, rfl, by decide, in_X12, tyX12_ok, nmX12, by decide +kernel, rfl, rfl, pf_tbm (i := 1123) (by decide +kernel) rfl⟩
theorem pfl_X12_70 : pc_Fl RX12 70 12 30 (tyX12 30) := ⟨TX12, 50, tyX12, rfl, by decide, in_X12, tyX12_ok, nmX12, by decide +kernel, rfl, rfl, pf_tbm (i := 1124) (by decide +kernel) rfl⟩
theorem pfl_X12_73 : pc_Fl RX12 73 12 31 (tyX12 31) := ⟨TX12, 50, tyX12, rfl, by decide, in_X12, tyX12_ok, nmX12, by decide +kernel, rfl, rfl, pf_tbm (i := 1125) (by decide +kernel) rfl⟩
theorem pfl_X12_76 : pc_Fl RX12 76 12 32 (tyX12 32) := ⟨TX12, 50, tyX12, rfl, by decide, in_X12, tyX12_ok, nmX12, by decide +kernel, rfl, rfl, pf_tbm (i := 1126) (by decide +kernel) rfl⟩
theorem pfl_X12_79 : pc_Fl RX12 79 12 33 (tyX12 33) := ⟨TX12, 50, tyX12, rfl, by decide, in_X12, tyX12_ok, nmX12, by decide +kernel, rfl, rfl, pf_tbm (i := 1127) (by decide +kernel) rfl⟩
theorem pfl_X12_82 : pc_Fl RX12 82 12 34 (tyX12 34) := ⟨TX12, 50, tyX12, rfl, by decide, in_X12, tyX12_ok, nmX12, by decide +kernel, rfl, rfl, pf_tbm (i := 1128) (by decide +kernel) rfl⟩
theorem pfl_X12_85 : pc_Fl RX12 85 12 35 (tyX12 35) := ⟨TX12, 50, tyX12, rfl, by decide, in_X12, tyX12_ok, nmX12, by decide +kernel, rfl, rfl, pf_tbm (i := 1129) (by decide +kernel) rfl⟩
theorem pfl_X12_88 : pc_Fl RX12 88 12 36 (tyX12 36) := ⟨TX12, 50, tyX12, rfl, by decide, in_X12, tyX12_ok, nmX12, by decide +kernel, rfl, rfl, pf_tbm (i := 1130) (by decide +kernel) rfl⟩
theorem pfl_X12_91 : pc_Fl RX12 91 12 37 (tyX12 37) := ⟨TX12, 50, tyX12, rfl, by decide, in_X12, tyX12_ok, nmX12, by decide +kernel, rfl, rfl, pf_tbm (i := 1131) (by decide +kernel) rfl⟩
theorem pfl_X12_94 : pc_Fl RX12 94 12 38 (tyX12 38) := ⟨TX12, 50, tyX12, rfl, by decide, in_X12, tyX12_ok, nmX12, by decide +kernel, rfl, rfl, pf_tbm (i := 1132) (by decide +kernel) rfl⟩
theorem pfl_X12_97 : pc_Fl RX12 97 12 39 (tyX12 39) := ⟨TX12, 50, tyX12, rfl, by decide, in_X12, tyX12_ok, nmX12, by decide +kernel, rfl, rfl, pf_tbm (i := 1133) (by decide +kernel) rfl⟩
theorem pfl_X12_100 : pc_Fl RX12 100 12 41 (tyX12 41) := ⟨TX12, 50, tyX12, rfl, by decide, in_X12, tyX12_ok, nmX12, by decide +kernel, rfl, rfl, pf_tbm (i := 1135) (by decide +kernel) rfl⟩
theorem pfl_X12_103 : pc_Fl RX12 103 12 42 (tyX12 42) := ⟨TX12, 50, tyX12, rfl, by decide, in_X12, tyX12_ok, nmX12, by decide +kernel, rfl, rfl, pf_tbm (i := 1136) (by decide +kernel) rfl⟩
theorem pfl_X12_106 : pc_Fl RX12 106 12 43 (tyX12 43) := ⟨TX12, 50, tyX12, rfl, by decide, in_X12, tyX12_ok, nmX12, by decide +kernel, rfl, rfl, pf_tbm (i := 1137) (by decide +kernel) rfl⟩
theorem pfl_X12_109 : pc_Fl RX12 109 12 45 (tyX12 45) := ⟨TX12, 50, tyX12, rfl, by decide, in_X12, tyX12_ok, nmX12, by decide +kernel, rfl, rfl, pf_tbm (i := 1139) (by decide +kernel) rfl⟩
theorem pfl_X12_112 : pc_Fl RX12 112 12 47 (tyX12 47) := ⟨TX12, 50, tyX12, rfl, by decide, in_X12, tyX12_ok, nmX12, by decide +kernel, rfl, rfl, pf_tbm (i := 1141) (by decide +kernel) rfl⟩
theorem pfl_X12_115 : pc_Fl RX12 115 12 48 (tyX12 48) := ⟨TX12, 50, tyX12, rfl, by decide, in_X12, tyX12_ok, nmX12, by decide +kernel, rfl, rfl, pf_tbm (i := 1142) (by decide +kernel) rfl⟩
theorem pfl_X12_118 : pc_Fl RX12 118 12 49 (tyX12 49) := ⟨TX12, 50, tyX12, rfl, by decide, in_X12, tyX12_ok, nmX12, by decide +kernel, rfl, rfl, pf_tbm (i := 1143) (by decide +kernel) rfl⟩
theorem pil_L_9 : pc_Il RL 9 yX11_init cX11_init 2 0 := ⟨⟨pf_tbm (i := 68) (by decide +kernel) rfl, pf_tbm (i := 92) (by decide +kernel) rfl, ⟨by decide +kernel, by decide +kernel⟩, by decide +kernel⟩, pf_tbm (i := 90) (by decide +kernel) rfl, pf_tbm (i := 91) (by decide +kernel) rfl, rfl⟩
theorem pol_X11 : pc_Ol RX11 1 := ⟨pf_tbm (i := 93) (by decide +kernel) rfl, pf_tbm (i := 94) (by decide +kernel) rfl, pf_tbm (i := 95) (by decide +kernel) rfl⟩
theorem pil_X11_9 : pc_Il RX11 9 yX10_init cX10_init 1 0 := ⟨⟨pf_tbm (i := 69) (by decide +kernel) rfl, pf_tbm (i := 100) (by decide +kernel) rfl, ⟨by decide +kernel, by decide +kernel⟩, by decide +kernel⟩, pf_tbm (i := 98) (by decide +kernel) rfl, pf_tbm (i := 99) (by decide +kernel) rfl, rfl⟩
theorem pol_X10 : pc_Ol RX10 3 := ⟨pf_tbm (i := 101) (by decide +kernel) rfl, pf_tbm (i := 94) (by decide +kernel) rfl, pf_tbm (i := 95) (by decide +kernel) rfl⟩
theorem pil_X11_18 : pc_Il RX11 18 yX9_init cX9_init 2 0 := ⟨⟨pf_tbm (i := 70) (by decide +kernel) rfl, pf_tbm (i := 147) (by decide +kernel) rfl, ⟨by decide +kernel, by decide +kernel⟩, by decide +kernel⟩, pf_tbm (i := 145) (by decide +kernel) rfl, pf_tbm (i := 146) (by decide +kernel) rfl, rfl⟩
theorem pol_X9 : pc_Ol RX9 3 := ⟨pf_tbm (i := 148) (by decide +kernel) rfl, pf_tbm (i := 94) (by decide +kernel) rfl, pf_tbm (i := 95) (by decide +kernel) rfl⟩
theorem pil_X9_24 : pc_Il RX9 24 yX3_init cX3_init 1 0 := ⟨⟨pf_tbm (i := 71) (by decide +kernel) rfl, pf_tbm (i := 154) (by decide +kernel) rfl, ⟨by decide +kernel, by decide +kernel⟩, by decide +kernel⟩, pf_tbm (i := 152) (by decide +kernel) rfl, pf_tbm (i := 153) (by decide +kernel) rfl, rfl⟩
theorem pol_X3 : pc_Ol RX3 3 := ⟨pf_tbm (i := 155) (by decide +kernel) rfl, pf_tbm (i := 94) (by decide +kernel) rfl, pf_tbm (i := 95) (by decide +kernel) rfl⟩
theorem pil_X3_17 : pc_Il RX3 17 yX7_init cX7_init 1 0 := ⟨⟨pf_tbm (i := 72) (by decide +kernel) rfl, pf_tbm (i := 160) (by decide +kernel) rfl, ⟨by decide +kernel, by decide +kernel⟩, by decide +kernel⟩, pf_tbm (i := 158) (by decide +kernel) rfl, pf_tbm (i := 159) (by decide +kernel) rfl, rfl⟩
theorem pol_X7 : pc_Ol RX7 3 := ⟨pf_tbm (i := 161) (by decide +kernel) rfl, pf_tbm (i := 94) (by decide +kernel) rfl, pf_tbm (i := 95) (by decide +kernel) rfl⟩
theorem pil_X3_27 : pc_Il RX3 27 yX5_init cX5_init 1 0 := ⟨⟨pf_tbm (i := 73) (by decide +kernel) rfl, pf_tbm (i := 179) (by decide +kernel) rfl, ⟨by decide +kernel, by decide +kernel⟩, by decide +kernel⟩, pf_tbm (i := 177) (by decide +kernel) rfl, pf_tbm (i := 178) (by decide +kernel) rfl, rfl⟩
theorem pol_X5 : pc_Ol RX5 3 := ⟨pf_tbm (i := 180) (by decide +kernel) rfl, pf_tbm (i := 94) (by decide +kernel) rfl, pf_tbm (i := 95) (by decide +kernel) rfl⟩
theorem pil_X5_11 : pc_Il RX5 11 yX8_init cX8_init 1 0 := ⟨⟨pf_tbm (i := 74) (by decide +kernel) rfl, pf_tbm (i := 185) (by decide +kernel) rfl, ⟨by decide +kernel, by decide +kernel⟩, by decide +kernel⟩, pf_tbm (i := 183) (by decide +kernel) rfl, pf_tbm (i := 184) (by decide +kernel) rfl, rfl⟩
theorem pol_X8 : pc_Ol RX8 3 := ⟨pf_tbm (i := 186) (by decide +kernel) rfl, pf_tbm (i := 94) (by decide +kernel) rfl, pf_tbm (i := 95) (by decide +kernel) rfl⟩
theorem pil_X11_25 : pc_Il RX11 25 yX1_init cX1_init 2 1 := ⟨⟨pf_tbm (i := 75) (by decide +kernel) rfl, pf_tbm (i := 297) (by decide +kernel) rfl, ⟨by decide +kernel, by decide +kernel⟩, by decide +kernel⟩, pf_tbm (i := 295) (by decide +kernel) rfl, pf_tbm (i := 296) (by decide +kernel) rfl, rfl⟩
theorem pol_X1 : pc_Ol RX1 3 := ⟨pf_tbm (i := 298) (by decide +kernel) rfl, pf_tbm (i := 94) (by decide +kernel) rfl, pf_tbm (i := 95) (by decide +kernel) rfl⟩
theorem pil_X11_34 : pc_Il RX11 34 yX6_init cX6_init 3 1 := ⟨⟨pf_tbm (i := 76) (by decide +kernel) rfl, pf_tbm (i := 313) (by decide +kernel) rfl, ⟨by decide +kernel, by decide +kernel⟩, by decide +kernel⟩, pf_tbm (i := 311) (by decide +kernel) rfl, pf_tbm (i := 312) (by decide +kernel) rfl, rfl⟩
theorem pol_X6 : pc_Ol RX6 3 := ⟨pf_tbm (i := 314) (by decide +kernel) rfl, pf_tbm (i := 94) (by decide +kernel) rfl, pf_tbm (i := 95) (by decide +kernel) rfl⟩
theorem pil_X6_19 : pc_Il RX6 19 yX4_init cX4_init 1 0 := ⟨⟨pf_tbm (i := 77) (by decide +kernel) rfl, pf_tbm (i := 321) (by decide +kernel) rfl, ⟨by decide +kernel, by decide +kernel⟩, by decide +kernel⟩, pf_tbm (i := 319) (by decide +kernel) rfl, pf_tbm (i := 320) (by decide +kernel) rfl, rfl⟩
theorem pol_X4 : pc_Ol RX4 3 := ⟨pf_tbm (i := 322) (by decide +kernel) rfl, pf_tbm (i := 94) (by decide +kernel) rfl, pf_tbm (i := 95) (by decide +kernel) rfl⟩
theorem pil_X6_28 : pc_Il RX6 28 yX2_init cX2_init 1 0 := ⟨⟨pf_tbm (i := 78) (by decide +kernel) rfl, pf_tbm (i := 336) (by decide +kernel) rfl, ⟨by decide +kernel, by decide +kernel⟩, by decide +kernel⟩, pf_tbm (i := 334) (by decide +kernel) rfl, pf_tbm (i := 335) (by decide +kernel) rfl, rfl⟩
theorem pol_X2 : pc_Ol RX2 3 := ⟨pf_tbm (i := 337) (by decide +kernel) rfl, pf_tbm (i := 94) (by decide +kernel) rfl, pf_tbm (i := 95) (by decide +kernel) rfl⟩
theorem pil_X2_17 : pc_Il RX2 17 yX0_init cX0_init 1 0 := ⟨⟨pf_tbm (i := 79) (by decide +kernel) rfl, pf_tbm (i := 342) (by decide +kernel) rfl, ⟨by decide +kernel, by decide +kernel⟩, by decide +kernel⟩, pf_tbm (i := 340) (by decide +kernel) rfl, pf_tbm (i := 341) (by decide +kernel) rfl, rfl⟩
theorem pol_X0 : pc_Ol RX0 3 := ⟨pf_tbm (i := 343) (by decide +kernel) rfl, pf_tbm (i := 94) (by decide +kernel) rfl, pf_tbm (i := 95) (by decide +kernel) rfl⟩
theorem pil_L_12 : pc_Il RL 12 yX12_init cX12_init 1 0 := ⟨⟨pf_tbm (i := 85) (by decide +kernel) rfl, pf_tbm (i := 1076) (by decide +kernel) rfl, ⟨by decide +kernel, by decide +kernel⟩, by decide +kernel⟩, pf_tbm (i := 1074) (by decide +kernel) rfl, pf_tbm (i := 1075) (by decide +kernel) rfl, rfl⟩
theorem pol_X12 : pc_Ol RX12 1 := ⟨pf_tbm (i := 1077) (by decide +kernel) rfl, pf_tbm (i := 94) (by decide +kernel) rfl, pf_tbm (i := 95) (by decide +kernel) rfl⟩
theorem ac_int : Cond.arrayClass .int ∈ pf_tb := pf_tbm (i := 142) (by decide +kernel) rfl
theorem ac_char : Cond.arrayClass .char ∈ pf_tb := pf_tbm (i := 141) (by decide +kernel) rfl
theorem pc_len {b : Nat} {pre l : List va_E} {a k : Nat} (ha : b + pre.length = a) (hk : a + l.length = k) : b + (pre ++ l).length = k := by
  rw [List.length_append, ← Nat.add_assoc, ha]
  exact hk
theorem pc_at {pre l : List va_E} {j : Nat} {e : va_E} (h : l[j]? = some e) : (pre ++ l)[pre.length + j]? = some e := by
  rw [List.getElem?_append_right (Nat.le_add_right _ _), Nat.add_sub_cancel_left]
  exact h
theorem pc_put (pre l : List va_E) (j : Nat) (e : va_E) : (pre ++ l).set (pre.length + j) e = pre ++ l.set j e := by
  rw [List.set_append_right _ _ (Nat.le_add_right _ _), Nat.add_sub_cancel_left]
section
variable {G : pf_G} {p : Program} {e : Env} {R : Room} {s : State} {m : MethodId} {args : Array Value} {below : List Frame} {meth : Method} {c : Code} {cc : ByteArray} {own : String} {nL : Nat} {Q : State → Prop} {pc : Nat} {H : Heap} {locs : List Loc} {ls : Array Slot} {rest : List Value} {pre l : List va_E} {cells slots a : Nat}
theorem pc_v_new {idx ci N q : Nat} {fs : List Value} (F : pc_Fix G p s m args c cc own nL) (hN : pc_Nl own idx ci N fs) (ha : G.2.2.1 + pre.length = a) (hH : pc_H G (pre ++ l) H) (hS : va_S (pc_A G) s.heap H locs) (hq : a + l.length = q) (h1 : cells + 1 ≤ R.cells) (h2 : slots + N ≤ R.slots) (hd : decode cc pc = .ok (.new idx, 3))
    (kk : ∀ H1 : Heap, pc_H G (pre ++ (l ++ [.inr (ci, fs)])) H1 → va_S (pc_A G) s.heap H1 locs → W p G.1 e R s m args below meth c H1 locs (cells + 1) (slots + N) Q (F0 m (pc + 3) ls (.ref q :: rest))) : W p G.1 e R s m args below meth c H locs cells slots Q (F0 m pc ls rest) :=
  pc_u_new F hN hH hS (pc_len ha hq) h1 h2 hd (fun H1 hH1 hS1 => kk H1 (by rw [← List.append_assoc]; exact hH1) hS1)
theorem pc_v_newa {t q : Nat} {atype : ArrayType} {ty : FieldType} {n : Int32} {N' : Nat} (F : pc_Fix G p s m args c cc own nL) (hty : newarray.typeOf atype = ty) (harr : Cond.arrayClass ty ∈ pf_tb) (hqc : s.vm.findClass ("[" ++ ty.toString) = some (pf_ct G t)) (ha : G.2.2.1 + pre.length = a) (hH : pc_H G (pre ++ l) H) (hS : va_S (pc_A G) s.heap H locs) (hq : a + l.length = q)
    (hc : ∀ cA : ClassId, vp_cell cA (N', .inl fun _ => 0) = arrV cA N' (fun _ => defaultValue ty)) (hn : ¬ n < 0) (hN : n.toNatClampNeg = N') (hbytes : N' * componentBytes ty ≤ 536870912) (h1 : cells + 1 ≤ R.cells) (h2 : slots + N' ≤ R.slots) (hd : decode cc pc = .ok (.newarray atype, 2))
    (kk : ∀ H1 : Heap, pc_H G (pre ++ (l ++ [.inl (pf_ct G t, N', .inl fun _ => 0)])) H1 → va_S (pc_A G) s.heap H1 locs → W p G.1 e R s m args below meth c H1 locs (cells + 1) (slots + N') Q (F0 m (pc + 2) ls (.ref q :: rest))) : W p G.1 e R s m args below meth c H locs cells slots Q (F0 m pc ls (.int n :: rest)) :=
  pc_u_newa F hty harr hqc hH hS (pc_len ha hq) hc hn hN hbytes h1 h2 hd (fun H1 hH1 hS1 => kk H1 (by rw [← List.append_assoc]; exact hH1) hS1)
theorem pc_v_anew {idx t q : Nat} {C : String} {n : Int32} {N' : Nat} (F : pc_Fix G p s m args c cc own nL) (hcl : Cond.classLink own idx C ∈ pf_tb) (hao : va_AO C s) (hqc : (pf_ty G)[t]? = some (pf_ct G t, .object C)) (ha : G.2.2.1 + pre.length = a) (hH : pc_H G (pre ++ l) H) (hS : va_S (pc_A G) s.heap H locs) (hq : a + l.length = q)
    (hn : ¬ n < 0) (hN : n.toNatClampNeg = N') (hbytes : N' * 4 ≤ 536870912) (h1 : cells + 1 ≤ R.cells) (h2 : slots + N' ≤ R.slots) (hd : decode cc pc = .ok (.anewarray idx, 3))
    (kk : ∀ H1 : Heap, pc_H G (pre ++ (l ++ [.inl (pf_ct G t, N', .inr (.inr (.inr (.inr fun _ => none))))])) H1 → va_S (pc_A G) s.heap H1 locs → W p G.1 e R s m args below meth c H1 locs (cells + 1) (slots + N') Q (F0 m (pc + 3) ls (.ref q :: rest))) : W p G.1 e R s m args below meth c H locs cells slots Q (F0 m pc ls (.int n :: rest)) :=
  pc_u_anew F hcl hao hqc hH hS (pc_len ha hq) hn hN hbytes h1 h2 hd (fun H1 hH1 hS1 => kk H1 (by rw [← List.append_assoc]; exact hH1) hS1)
theorem pc_v_putF {idx ci k j q : Nat} {ty : FieldType} {v : Value} {fs : List Value} (F : pc_Fix G p s m args c cc own nL) (hin : meth.name = "<init>") (hF : pc_Fl own idx ci k ty) (ha : G.2.2.1 + pre.length = a) (hH : pc_H G (pre ++ l) H) (hS : va_S (pc_A G) s.heap H locs) (hj : l[j]? = some (.inr (ci, fs))) (hq : a + j = q) (hn : narrow ty v = v) (hfit : fits ty v = true) (hl : k < fs.length) (hd : decode cc pc = .ok (.putfield idx, 3))
    (kk : ∀ (H1 : Heap) (locs1 : List Loc), pc_H G (pre ++ l.set j (.inr (ci, fs.set k v))) H1 → va_S (pc_A G) s.heap H1 locs1 → W p G.1 e R s m args below meth c H1 locs1 cells slots Q (F0 m (pc + 3) ls rest)) : W p G.1 e R s m args below meth c H locs cells slots Q (F0 m pc ls (v :: .ref q :: rest)) :=
  pc_u_putF F hin hF hH hS (pc_at hj) (by omega) hn hfit hl hd (fun H1 locs1 hH1 hS1 => kk H1 locs1 (by rw [← pc_put]; exact hH1) hS1)
theorem pc_v_get {idx ci k j q : Nat} {ty : FieldType} {v : Value} {fs : List Value} (F : pc_Fix G p s m args c cc own nL) (hF : pc_Fl own idx ci k ty) (ha : G.2.2.1 + pre.length = a) (hH : pc_H G (pre ++ l) H) (hj : l[j]? = some (.inr (ci, fs))) (hq : a + j = q) (hv : fs[k]? = some v) (hd : decode cc pc = .ok (.getfield idx, 3))
    (kk : W p G.1 e R s m args below meth c H locs cells slots Q (F0 m (pc + 3) ls (v :: rest))) : W p G.1 e R s m args below meth c H locs cells slots Q (F0 m pc ls (.ref q :: rest)) :=
  pc_u_get F hF hH (pc_at hj) (by omega) hv hd kk
theorem pc_v_call {idx nL2 fr lo mc ms q n : Nat} {y : MethodName} {cc2 : ByteArray} {As : List Value} {d : va_E} {cl : List va_E} (F : pc_Fix G p s m args c cc own nL) (hI : pc_Il own idx y cc2 nL2 n) (hM : pc_Met G y cc2 nL2 fr lo mc ms (.ref q :: As) ((pre ++ l) ++ [d]) ((pre ++ l) ++ cl)) (hH : pc_H G (pre ++ (l ++ [d])) H) (hS : va_S (pc_A G) s.heap H locs) (hn : As.length = n) (hl : ls.size = nL) (hfr : fr + 1 ≤ R.frames) (hlo : 8 + (nL2 + 11) + lo ≤ R.locals) (h1 : cells + mc ≤ R.cells) (h2 : slots + ms ≤ R.slots) (hwd : (rest.map fun v => v.category).sum ≤ 8) {st : List Value} (hst : st = As.reverse ++ .ref q :: rest) (hd : decode cc pc = .ok (.invokespecial idx, 3))
    (kk : ∀ (H1 : Heap) (locs1 : List Loc), pc_H G (pre ++ (l ++ cl)) H1 → va_S (pc_A G) s.heap H1 locs1 → W p G.1 e R s m args below meth c H1 locs1 (cells + mc) (slots + ms) Q (F0 m (pc + 3) ls rest)) : W p G.1 e R s m args below meth c H locs cells slots Q (F0 m pc ls st) :=
  pc_u_call F hI hM (by rw [List.append_assoc]; exact hH) hS hn hl hfr hlo h1 h2 hwd hst hd (fun H1 locs1 hH1 hS1 => kk H1 locs1 (by rw [← List.append_assoc]; exact hH1) hS1)
end
def kl_ar (G : pf_G) (t n : Nat) : va_E := .inl (pf_ct G t, n, .inl fun _ => 0)
def kl_X0 (G : pf_G) (a : Nat) : List va_E := [.inr (0, [.ref (a + 1), .ref (a + 2), .int 0]), kl_ar G 0 8, kl_ar G 0 8]
def kl_X7 (G : pf_G) (a : Nat) : List va_E := [.inr (7, [.int 0, .int 0, .int 0])]
def kl_X8 (G : pf_G) (a : Nat) : List va_E := [.inr (8, [.ref (a + 1), .int 0]), kl_ar G 0 4]
def kl_X4 (G : pf_G) (a : Nat) : List va_E := [.inr (4, [.ref (a + 1), .ref (a + 2), .int 0]), kl_ar G 0 6, kl_ar G 0 6]
def kl_X5 (G : pf_G) (a : Nat) : List va_E := .inr (5, [.ref (a + 1), .ref (a + 3), .int 0, .int 0, .int 0, .int 0, .int 0, .int 0]) :: (kl_X8 G (a + 1) ++ kl_X8 G (a + 3))
def kl_X3 (G : pf_G) (a : Nat) : List va_E := .inr (3, [.ref (a + 1), .ref (a + 2), .ref (a + 3), .ref (a + 4), .int 0, .int 0, .int 0, .int 0, .int 0, .int 0]) :: kl_ar G 0 16 :: (kl_X7 G (a + 2) ++ (kl_X7 G (a + 3) ++ kl_X5 G (a + 4)))
def kl_X2 (G : pf_G) (a : Nat) : List va_E := .inr (2, [.int 0, .int 0, .int 0, .int 0, .ref (a + 1), .ref (a + 2), .ref (a + 5), .ref (a + 8), .int 0, .int 0]) :: kl_ar G 0 8 :: (kl_X0 G (a + 2) ++ (kl_X0 G (a + 5) ++ [kl_ar G 0 8]))
def kl_X10 (G : pf_G) (a : Nat) : List va_E := [.inr (10, [.ref (a + 1), .ref (a + 2), .ref (a + 3), .ref (a + 4), .ref (a + 5), .int 0, .int 0, .int 0, .int 0, .int 0]), kl_ar G 1 200, kl_ar G 0 8, kl_ar G 0 8, kl_ar G 0 8, kl_ar G 0 8]
def kl_X1 (G : pf_G) (a r : Nat) : List va_E := [.inr (1, [.ref r, .ref (a + 1), .ref (a + 2)]), kl_ar G 0 8, kl_ar G 0 8]
