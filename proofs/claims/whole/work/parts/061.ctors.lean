theorem fz_X0_9 : FW RX0 9 0 0 RX0 TX0 2 := ⟨rfl, by decide, by decide, rfl, rL6 _ (List.mem_of_getElem? (i := 12) rfl), inlX0, tyX0_ok, nmX0⟩
theorem fz_X0_15 : FW RX0 15 0 1 RX0 TX0 2 := ⟨rfl, by decide, by decide, rfl, rL6 _ (List.mem_of_getElem? (i := 13) rfl), inlX0, tyX0_ok, nmX0⟩
theorem fz_X1_14 : FW RX1 14 1 0 RX1 TX1 4 := ⟨rfl, by decide, by decide, rfl, rL7 _ (List.mem_of_getElem? (i := 19) rfl), inlX1, tyX1_ok, nmX1⟩
theorem fz_X1_20 : FW RX1 20 1 1 RX1 TX1 4 := ⟨rfl, by decide, by decide, rfl, rL7 _ (List.mem_of_getElem? (i := 20) rfl), inlX1, tyX1_ok, nmX1⟩
theorem fz_X1_24 : FW RX1 24 1 2 RX1 TX1 4 := ⟨rfl, by decide, by decide, rfl, rL7 _ (List.mem_of_getElem? (i := 21) rfl), inlX1, tyX1_ok, nmX1⟩
theorem fz_X1_27 : FW RX1 27 1 3 RX1 TX1 4 := ⟨rfl, by decide, by decide, rfl, rL7 _ (List.mem_of_getElem? (i := 22) rfl), inlX1, tyX1_ok, nmX1⟩
theorem fz_X10_12 : FW RX10 12 10 0 RX10 TX10 12 := ⟨rfl, by decide, by decide, rfl, rL4 _ (List.mem_of_getElem? (i := 12) rfl), inlX10, tyX10_ok, nmX10⟩
theorem fz_X10_21 : FW RX10 21 10 1 RX10 TX10 12 := ⟨rfl, by decide, by decide, rfl, rL4 _ (List.mem_of_getElem? (i := 16) rfl), inlX10, tyX10_ok, nmX10⟩
theorem fz_X10_30 : FW RX10 30 10 2 RX10 TX10 12 := ⟨rfl, by decide, by decide, rfl, rL4 _ (List.mem_of_getElem? (i := 18) rfl), inlX10, tyX10_ok, nmX10⟩
theorem fz_X10_34 : FW RX10 34 10 3 RX10 TX10 12 := ⟨rfl, by decide, by decide, rfl, rL4 _ (List.mem_of_getElem? (i := 19) rfl), inlX10, tyX10_ok, nmX10⟩
theorem fz_X10_37 : FW RX10 37 10 4 RX10 TX10 12 := ⟨rfl, by decide, by decide, rfl, rL4 _ (List.mem_of_getElem? (i := 20) rfl), inlX10, tyX10_ok, nmX10⟩
theorem fz_X10_41 : FW RX10 41 10 5 RX10 TX10 12 := ⟨rfl, by decide, by decide, rfl, rL4 _ (List.mem_of_getElem? (i := 21) rfl), inlX10, tyX10_ok, nmX10⟩
theorem fz_X10_44 : FW RX10 44 10 6 RX10 TX10 12 := ⟨rfl, by decide, by decide, rfl, rL4 _ (List.mem_of_getElem? (i := 22) rfl), inlX10, tyX10_ok, nmX10⟩
theorem fz_X10_47 : FW RX10 47 10 7 RX10 TX10 12 := ⟨rfl, by decide, by decide, rfl, rL4 _ (List.mem_of_getElem? (i := 23) rfl), inlX10, tyX10_ok, nmX10⟩
theorem fz_X10_50 : FW RX10 50 10 8 RX10 TX10 12 := ⟨rfl, by decide, by decide, rfl, rL5 _ (List.mem_of_getElem? (i := 0) rfl), inlX10, tyX10_ok, nmX10⟩
theorem fz_X10_53 : FW RX10 53 10 9 RX10 TX10 12 := ⟨rfl, by decide, by decide, rfl, rL5 _ (List.mem_of_getElem? (i := 1) rfl), inlX10, tyX10_ok, nmX10⟩
theorem fz_X10_57 : FW RX10 57 10 10 RX10 TX10 12 := ⟨rfl, by decide, by decide, rfl, rL5 _ (List.mem_of_getElem? (i := 2) rfl), inlX10, tyX10_ok, nmX10⟩
theorem fz_X10_60 : FW RX10 60 10 11 RX10 TX10 12 := ⟨rfl, by decide, by decide, rfl, rL5 _ (List.mem_of_getElem? (i := 3) rfl), inlX10, tyX10_ok, nmX10⟩
theorem fz_X11_11 : FW RX11 11 11 0 RX11 TX11 20 := ⟨rfl, by decide, by decide, rfl, rL1 _ (List.mem_of_getElem? (i := 14) rfl), inlX11, tyX11_ok, nmX11⟩
theorem fz_X11_18 : FW RX11 18 11 1 RX11 TX11 20 := ⟨rfl, by decide, by decide, rfl, rL1 _ (List.mem_of_getElem? (i := 18) rfl), inlX11, tyX11_ok, nmX11⟩
theorem fz_X11_25 : FW RX11 25 11 2 RX11 TX11 20 := ⟨rfl, by decide, by decide, rfl, rL1 _ (List.mem_of_getElem? (i := 22) rfl), inlX11, tyX11_ok, nmX11⟩
theorem fz_X11_34 : FW RX11 34 11 3 RX11 TX11 20 := ⟨rfl, by decide, by decide, rfl, rL2 _ (List.mem_of_getElem? (i := 2) rfl), inlX11, tyX11_ok, nmX11⟩
theorem fz_X11_40 : FW RX11 40 10 0 RX10 TX10 12 := ⟨rfl, by decide, by decide, rfl, rL2 _ (List.mem_of_getElem? (i := 6) rfl), inlX10, tyX10_ok, nmX10⟩
theorem fz_X11_47 : FW RX11 47 11 4 RX11 TX11 20 := ⟨rfl, by decide, by decide, rfl, rL2 _ (List.mem_of_getElem? (i := 7) rfl), inlX11, tyX11_ok, nmX11⟩
theorem fz_X11_51 : FW RX11 51 11 5 RX11 TX11 20 := ⟨rfl, by decide, by decide, rfl, rL2 _ (List.mem_of_getElem? (i := 8) rfl), inlX11, tyX11_ok, nmX11⟩
theorem fz_X11_55 : FW RX11 55 11 6 RX11 TX11 20 := ⟨rfl, by decide, by decide, rfl, rL2 _ (List.mem_of_getElem? (i := 9) rfl), inlX11, tyX11_ok, nmX11⟩
theorem fz_X11_61 : FW RX11 61 11 7 RX11 TX11 20 := ⟨rfl, by decide, by decide, rfl, rL2 _ (List.mem_of_getElem? (i := 13) rfl), inlX11, tyX11_ok, nmX11⟩
theorem fz_X11_65 : FW RX11 65 11 8 RX11 TX11 20 := ⟨rfl, by decide, by decide, rfl, rL2 _ (List.mem_of_getElem? (i := 14) rfl), inlX11, tyX11_ok, nmX11⟩
theorem fz_X11_71 : FW RX11 71 11 9 RX11 TX11 20 := ⟨rfl, by decide, by decide, rfl, rL2 _ (List.mem_of_getElem? (i := 18) rfl), inlX11, tyX11_ok, nmX11⟩
theorem fz_X11_78 : FW RX11 78 11 10 RX11 TX11 20 := ⟨rfl, by decide, by decide, rfl, rL2 _ (List.mem_of_getElem? (i := 22) rfl), inlX11, tyX11_ok, nmX11⟩
theorem fz_X11_87 : FW RX11 87 11 11 RX11 TX11 20 := ⟨rfl, by decide, by decide, rfl, rL3 _ (List.mem_of_getElem? (i := 2) rfl), inlX11, tyX11_ok, nmX11⟩
theorem fz_X11_91 : FW RX11 91 11 12 RX11 TX11 20 := ⟨rfl, by decide, by decide, rfl, rL3 _ (List.mem_of_getElem? (i := 4) rfl), inlX11, tyX11_ok, nmX11⟩
theorem fz_X11_95 : FW RX11 95 11 13 RX11 TX11 20 := ⟨rfl, by decide, by decide, rfl, rL3 _ (List.mem_of_getElem? (i := 5) rfl), inlX11, tyX11_ok, nmX11⟩
theorem fz_X11_98 : FW RX11 98 11 14 RX11 TX11 20 := ⟨rfl, by decide, by decide, rfl, rL3 _ (List.mem_of_getElem? (i := 6) rfl), inlX11, tyX11_ok, nmX11⟩
theorem fz_X11_102 : FW RX11 102 11 15 RX11 TX11 20 := ⟨rfl, by decide, by decide, rfl, rL3 _ (List.mem_of_getElem? (i := 7) rfl), inlX11, tyX11_ok, nmX11⟩
theorem fz_X11_106 : FW RX11 106 11 16 RX11 TX11 20 := ⟨rfl, by decide, by decide, rfl, rL3 _ (List.mem_of_getElem? (i := 8) rfl), inlX11, tyX11_ok, nmX11⟩
theorem fz_X11_109 : FW RX11 109 11 17 RX11 TX11 20 := ⟨rfl, by decide, by decide, rfl, rL3 _ (List.mem_of_getElem? (i := 9) rfl), inlX11, tyX11_ok, nmX11⟩
theorem fz_X11_112 : FW RX11 112 11 18 RX11 TX11 20 := ⟨rfl, by decide, by decide, rfl, rL3 _ (List.mem_of_getElem? (i := 10) rfl), inlX11, tyX11_ok, nmX11⟩
theorem fz_X11_115 : FW RX11 115 11 19 RX11 TX11 20 := ⟨rfl, by decide, by decide, rfl, rL3 _ (List.mem_of_getElem? (i := 11) rfl), inlX11, tyX11_ok, nmX11⟩
theorem fz_X12_7 : FW RX12 7 12 0 RX12 TX12 47 := ⟨rfl, by decide, by decide, rfl, rL9 _ (List.mem_of_getElem? (i := 0) rfl), inlX12, tyX12_ok, nmX12⟩
theorem fz_X12_13 : FW RX12 13 12 1 RX12 TX12 47 := ⟨rfl, by decide, by decide, rfl, rL9 _ (List.mem_of_getElem? (i := 1) rfl), inlX12, tyX12_ok, nmX12⟩
theorem fz_X12_17 : FW RX12 17 12 4 RX12 TX12 47 := ⟨rfl, by decide, by decide, rfl, rL9 _ (List.mem_of_getElem? (i := 2) rfl), inlX12, tyX12_ok, nmX12⟩
theorem fz_X12_21 : FW RX12 21 12 5 RX12 TX12 47 := ⟨rfl, by decide, by decide, rfl, rL9 _ (List.mem_of_getElem? (i := 3) rfl), inlX12, tyX12_ok, nmX12⟩
theorem fz_X12_24 : FW RX12 24 12 6 RX12 TX12 47 := ⟨rfl, by decide, by decide, rfl, rL9 _ (List.mem_of_getElem? (i := 4) rfl), inlX12, tyX12_ok, nmX12⟩
theorem fz_X12_27 : FW RX12 27 12 7 RX12 TX12 47 := ⟨rfl, by decide, by decide, rfl, rL9 _ (List.mem_of_getElem? (i := 5) rfl), inlX12, tyX12_ok, nmX12⟩
theorem fz_X12_30 : FW RX12 30 12 8 RX12 TX12 47 := ⟨rfl, by decide, by decide, rfl, rL9 _ (List.mem_of_getElem? (i := 7) rfl), inlX12, tyX12_ok, nmX12⟩
theorem fz_X12_34 : FW RX12 34 12 9 RX12 TX12 47 := ⟨rfl, by decide, by decide, rfl, rL9 _ (List.mem_of_getElem? (i := 8) rfl), inlX12, tyX12_ok, nmX12⟩
theorem fz_X12_37 : FW RX12 37 12 16 RX12 TX12 47 := ⟨rfl, by decide, by decide, rfl, rL9 _ (List.mem_of_getElem? (i := 9) rfl), inlX12, tyX12_ok, nmX12⟩
theorem fz_X12_41 : FW RX12 41 12 17 RX12 TX12 47 := ⟨rfl, by decide, by decide, rfl, rL9 _ (List.mem_of_getElem? (i := 10) rfl), inlX12, tyX12_ok, nmX12⟩
theorem fz_X12_44 : FW RX12 44 12 20 RX12 TX12 47 := ⟨rfl, by decide, by decide, rfl, rL9 _ (List.mem_of_getElem? (i := 11) rfl), inlX12, tyX12_ok, nmX12⟩
theorem fz_X12_47 : FW RX12 47 12 23 RX12 TX12 47 := ⟨rfl, by decide, by decide, rfl, rL9 _ (List.mem_of_getElem? (i := 12) rfl), inlX12, tyX12_ok, nmX12⟩
theorem fz_X12_50 : FW RX12 50 12 24 RX12 TX12 47 := ⟨rfl, by decide, by decide, rfl, rL9 _ (List.mem_of_getElem? (i := 13) rfl), inlX12, tyX12_ok, nmX12⟩
theorem fz_X12_53 : FW RX12 53 12 25 RX12 TX12 47 := ⟨rfl, by decide, by decide, rfl, rL9 _ (List.mem_of_getElem? (i := 14) rfl), inlX12, tyX12_ok, nmX12⟩
theorem fz_X12_56 : FW RX12 56 12 26 RX12 TX12 47 := ⟨rfl, by decide, by decide, rfl, rL9 _ (List.mem_of_getElem? (i := 15) rfl), inlX12, tyX12_ok, nmX12⟩
theorem fz_X12_59 : FW RX12 59 12 28 RX12 TX12 47 := ⟨rfl, by decide, by decide, rfl, rL9 _ (List.mem_of_getElem? (i := 16) rfl), inlX12, tyX12_ok, nmX12⟩
theorem fz_X12_62 : FW RX12 62 12 29 RX12 TX12 47 := ⟨rfl, by decide, by decide, rfl, rL9 _ (List.mem_of_getElem? (i := 17) rfl), inlX12, tyX12_ok, nmX12⟩
theorem fz_X12_65 : FW RX12 65 12 31 RX12 TX12 47 := ⟨rfl, by decide, by decide, rfl, rL9 _ (List.mem_of_getElem? (i := 18) rfl), inlX12, tyX12_ok, nmX12⟩
theorem fz_X12_68 : FW RX12 68 12 33 RX12 TX12 47 := ⟨rfl, by decide, by decide, rfl, rL9 _ (List.mem_of_getElem? (i := 19) rfl), inlX12, tyX12_ok, nmX12⟩
theorem fz_X12_71 : FW RX12 71 12 34 RX12 TX12 47 := ⟨rfl, by decide, by decide, rfl, rL9 _ (List.mem_of_getElem? (i := 20) rfl), inlX12, tyX12_ok, nmX12⟩
theorem fz_X12_74 : FW RX12 74 12 35 RX12 TX12 47 := ⟨rfl, by decide, by decide, rfl, rL9 _ (List.mem_of_getElem? (i := 21) rfl), inlX12, tyX12_ok, nmX12⟩
theorem fz_X12_77 : FW RX12 77 12 37 RX12 TX12 47 := ⟨rfl, by decide, by decide, rfl, rL9 _ (List.mem_of_getElem? (i := 22) rfl), inlX12, tyX12_ok, nmX12⟩
theorem fz_X12_81 : FW RX12 81 12 38 RX12 TX12 47 := ⟨rfl, by decide, by decide, rfl, rL9 _ (List.mem_of_getElem? (i := 23) rfl), inlX12, tyX12_ok, nmX12⟩
theorem fz_X12_84 : FW RX12 84 12 41 RX12 TX12 47 := ⟨rfl, by decide, by decide, rfl, rL10 _ (List.mem_of_getElem? (i := 0) rfl), inlX12, tyX12_ok, nmX12⟩
theorem fz_X12_87 : FW RX12 87 12 42 RX12 TX12 47 := ⟨rfl, by decide, by decide, rfl, rL10 _ (List.mem_of_getElem? (i := 1) rfl), inlX12, tyX12_ok, nmX12⟩
theorem fz_X12_90 : FW RX12 90 12 43 RX12 TX12 47 := ⟨rfl, by decide, by decide, rfl, rL10 _ (List.mem_of_getElem? (i := 2) rfl), inlX12, tyX12_ok, nmX12⟩
theorem fz_X2_9 : FW RX2 9 2 0 RX2 TX2 9 := ⟨rfl, by decide, by decide, rfl, rL5 _ (List.mem_of_getElem? (i := 23) rfl), inlX2, tyX2_ok, nmX2⟩
theorem fz_X2_13 : FW RX2 13 2 1 RX2 TX2 9 := ⟨rfl, by decide, by decide, rfl, rL6 _ (List.mem_of_getElem? (i := 0) rfl), inlX2, tyX2_ok, nmX2⟩
theorem fz_X2_16 : FW RX2 16 2 2 RX2 TX2 9 := ⟨rfl, by decide, by decide, rfl, rL6 _ (List.mem_of_getElem? (i := 1) rfl), inlX2, tyX2_ok, nmX2⟩
theorem fz_X2_19 : FW RX2 19 2 3 RX2 TX2 9 := ⟨rfl, by decide, by decide, rfl, rL6 _ (List.mem_of_getElem? (i := 2) rfl), inlX2, tyX2_ok, nmX2⟩
theorem fz_X2_22 : FW RX2 22 2 4 RX2 TX2 9 := ⟨rfl, by decide, by decide, rfl, rL6 _ (List.mem_of_getElem? (i := 3) rfl), inlX2, tyX2_ok, nmX2⟩
theorem fz_X2_25 : FW RX2 25 2 5 RX2 TX2 9 := ⟨rfl, by decide, by decide, rfl, rL6 _ (List.mem_of_getElem? (i := 4) rfl), inlX2, tyX2_ok, nmX2⟩
theorem fz_X2_28 : FW RX2 28 2 6 RX2 TX2 9 := ⟨rfl, by decide, by decide, rfl, rL6 _ (List.mem_of_getElem? (i := 5) rfl), inlX2, tyX2_ok, nmX2⟩
theorem fz_X2_32 : FW RX2 32 2 7 RX2 TX2 9 := ⟨rfl, by decide, by decide, rfl, rL6 _ (List.mem_of_getElem? (i := 6) rfl), inlX2, tyX2_ok, nmX2⟩
theorem fz_X2_36 : FW RX2 36 2 8 RX2 TX2 9 := ⟨rfl, by decide, by decide, rfl, rL6 _ (List.mem_of_getElem? (i := 7) rfl), inlX2, tyX2_ok, nmX2⟩
theorem fz_X3_12 : FW RX3 12 3 0 RX3 TX3 5 := ⟨rfl, by decide, by decide, rfl, rL7 _ (List.mem_of_getElem? (i := 3) rfl), inlX3, tyX3_ok, nmX3⟩
theorem fz_X3_18 : FW RX3 18 3 3 RX3 TX3 5 := ⟨rfl, by decide, by decide, rfl, rL7 _ (List.mem_of_getElem? (i := 4) rfl), inlX3, tyX3_ok, nmX3⟩
theorem fz_X3_22 : FW RX3 22 3 4 RX3 TX3 5 := ⟨rfl, by decide, by decide, rfl, rL7 _ (List.mem_of_getElem? (i := 5) rfl), inlX3, tyX3_ok, nmX3⟩
theorem fz_X3_26 : FW RX3 26 3 1 RX3 TX3 5 := ⟨rfl, by decide, by decide, rfl, rL7 _ (List.mem_of_getElem? (i := 6) rfl), inlX3, tyX3_ok, nmX3⟩
theorem fz_X3_30 : FW RX3 30 3 2 RX3 TX3 5 := ⟨rfl, by decide, by decide, rfl, rL7 _ (List.mem_of_getElem? (i := 7) rfl), inlX3, tyX3_ok, nmX3⟩
theorem fz_X4_11 : FW RX4 11 4 0 RX4 TX4 4 := ⟨rfl, by decide, by decide, rfl, rL7 _ (List.mem_of_getElem? (i := 11) rfl), inlX4, tyX4_ok, nmX4⟩
theorem fz_X4_15 : FW RX4 15 4 1 RX4 TX4 4 := ⟨rfl, by decide, by decide, rfl, rL7 _ (List.mem_of_getElem? (i := 12) rfl), inlX4, tyX4_ok, nmX4⟩
theorem fz_X4_21 : FW RX4 21 4 2 RX4 TX4 4 := ⟨rfl, by decide, by decide, rfl, rL7 _ (List.mem_of_getElem? (i := 13) rfl), inlX4, tyX4_ok, nmX4⟩
theorem fz_X4_24 : FW RX4 24 4 3 RX4 TX4 4 := ⟨rfl, by decide, by decide, rfl, rL7 _ (List.mem_of_getElem? (i := 14) rfl), inlX4, tyX4_ok, nmX4⟩
theorem fz_X5_16 : FW RX5 16 5 0 RX5 TX5 6 := ⟨rfl, by decide, by decide, rfl, rL8 _ (List.mem_of_getElem? (i := 4) rfl), inlX5, tyX5_ok, nmX5⟩
theorem fz_X5_20 : FW RX5 20 5 1 RX5 TX5 6 := ⟨rfl, by decide, by decide, rfl, rL8 _ (List.mem_of_getElem? (i := 6) rfl), inlX5, tyX5_ok, nmX5⟩
theorem fz_X5_24 : FW RX5 24 5 2 RX5 TX5 6 := ⟨rfl, by decide, by decide, rfl, rL8 _ (List.mem_of_getElem? (i := 7) rfl), inlX5, tyX5_ok, nmX5⟩
theorem fz_X5_28 : FW RX5 28 5 3 RX5 TX5 6 := ⟨rfl, by decide, by decide, rfl, rL8 _ (List.mem_of_getElem? (i := 8) rfl), inlX5, tyX5_ok, nmX5⟩
theorem fz_X5_31 : FW RX5 31 5 4 RX5 TX5 6 := ⟨rfl, by decide, by decide, rfl, rL8 _ (List.mem_of_getElem? (i := 9) rfl), inlX5, tyX5_ok, nmX5⟩
theorem fz_X5_35 : FW RX5 35 5 5 RX5 TX5 6 := ⟨rfl, by decide, by decide, rfl, rL8 _ (List.mem_of_getElem? (i := 10) rfl), inlX5, tyX5_ok, nmX5⟩
theorem fz_X6_9 : FW RX6 9 6 0 RX6 TX6 12 := ⟨rfl, by decide, by decide, rfl, rL3 _ (List.mem_of_getElem? (i := 17) rfl), inlX6, tyX6_ok, nmX6⟩
theorem fz_X6_15 : FW RX6 15 6 1 RX6 TX6 12 := ⟨rfl, by decide, by decide, rfl, rL3 _ (List.mem_of_getElem? (i := 18) rfl), inlX6, tyX6_ok, nmX6⟩
theorem fz_X6_19 : FW RX6 19 6 2 RX6 TX6 12 := ⟨rfl, by decide, by decide, rfl, rL3 _ (List.mem_of_getElem? (i := 19) rfl), inlX6, tyX6_ok, nmX6⟩
theorem fz_X6_22 : FW RX6 22 6 3 RX6 TX6 12 := ⟨rfl, by decide, by decide, rfl, rL3 _ (List.mem_of_getElem? (i := 20) rfl), inlX6, tyX6_ok, nmX6⟩
theorem fz_X6_25 : FW RX6 25 6 4 RX6 TX6 12 := ⟨rfl, by decide, by decide, rfl, rL3 _ (List.mem_of_getElem? (i := 21) rfl), inlX6, tyX6_ok, nmX6⟩
theorem fz_X6_28 : FW RX6 28 6 5 RX6 TX6 12 := ⟨rfl, by decide, by decide, rfl, rL3 _ (List.mem_of_getElem? (i := 22) rfl), inlX6, tyX6_ok, nmX6⟩
theorem fz_X6_31 : FW RX6 31 6 6 RX6 TX6 12 := ⟨rfl, by decide, by decide, rfl, rL3 _ (List.mem_of_getElem? (i := 23) rfl), inlX6, tyX6_ok, nmX6⟩
theorem fz_X6_34 : FW RX6 34 6 7 RX6 TX6 12 := ⟨rfl, by decide, by decide, rfl, rL4 _ (List.mem_of_getElem? (i := 0) rfl), inlX6, tyX6_ok, nmX6⟩
theorem fz_X6_37 : FW RX6 37 6 8 RX6 TX6 12 := ⟨rfl, by decide, by decide, rfl, rL4 _ (List.mem_of_getElem? (i := 1) rfl), inlX6, tyX6_ok, nmX6⟩
theorem fz_X6_42 : FW RX6 42 6 9 RX6 TX6 12 := ⟨rfl, by decide, by decide, rfl, rL4 _ (List.mem_of_getElem? (i := 3) rfl), inlX6, tyX6_ok, nmX6⟩
theorem fz_X6_46 : FW RX6 46 6 10 RX6 TX6 12 := ⟨rfl, by decide, by decide, rfl, rL4 _ (List.mem_of_getElem? (i := 4) rfl), inlX6, tyX6_ok, nmX6⟩
theorem fz_X6_49 : FW RX6 49 6 11 RX6 TX6 12 := ⟨rfl, by decide, by decide, rfl, rL4 _ (List.mem_of_getElem? (i := 5) rfl), inlX6, tyX6_ok, nmX6⟩
theorem fz_X7_9 : FW RX7 9 7 0 RX7 TX7 12 := ⟨rfl, by decide, by decide, rfl, rL5 _ (List.mem_of_getElem? (i := 7) rfl), inlX7, tyX7_ok, nmX7⟩
theorem fz_X7_15 : FW RX7 15 7 1 RX7 TX7 12 := ⟨rfl, by decide, by decide, rfl, rL5 _ (List.mem_of_getElem? (i := 9) rfl), inlX7, tyX7_ok, nmX7⟩
theorem fz_X7_19 : FW RX7 19 7 2 RX7 TX7 12 := ⟨rfl, by decide, by decide, rfl, rL5 _ (List.mem_of_getElem? (i := 10) rfl), inlX7, tyX7_ok, nmX7⟩
theorem fz_X7_22 : FW RX7 22 7 3 RX7 TX7 12 := ⟨rfl, by decide, by decide, rfl, rL5 _ (List.mem_of_getElem? (i := 11) rfl), inlX7, tyX7_ok, nmX7⟩
theorem fz_X7_25 : FW RX7 25 7 4 RX7 TX7 12 := ⟨rfl, by decide, by decide, rfl, rL5 _ (List.mem_of_getElem? (i := 12) rfl), inlX7, tyX7_ok, nmX7⟩
theorem fz_X7_28 : FW RX7 28 7 5 RX7 TX7 12 := ⟨rfl, by decide, by decide, rfl, rL5 _ (List.mem_of_getElem? (i := 13) rfl), inlX7, tyX7_ok, nmX7⟩
theorem fz_X7_31 : FW RX7 31 7 6 RX7 TX7 12 := ⟨rfl, by decide, by decide, rfl, rL5 _ (List.mem_of_getElem? (i := 14) rfl), inlX7, tyX7_ok, nmX7⟩
theorem fz_X7_35 : FW RX7 35 7 7 RX7 TX7 12 := ⟨rfl, by decide, by decide, rfl, rL5 _ (List.mem_of_getElem? (i := 15) rfl), inlX7, tyX7_ok, nmX7⟩
theorem fz_X7_38 : FW RX7 38 7 8 RX7 TX7 12 := ⟨rfl, by decide, by decide, rfl, rL5 _ (List.mem_of_getElem? (i := 16) rfl), inlX7, tyX7_ok, nmX7⟩
theorem fz_X7_41 : FW RX7 41 7 9 RX7 TX7 12 := ⟨rfl, by decide, by decide, rfl, rL5 _ (List.mem_of_getElem? (i := 17) rfl), inlX7, tyX7_ok, nmX7⟩
theorem fz_X7_44 : FW RX7 44 7 10 RX7 TX7 12 := ⟨rfl, by decide, by decide, rfl, rL5 _ (List.mem_of_getElem? (i := 18) rfl), inlX7, tyX7_ok, nmX7⟩
theorem fz_X7_47 : FW RX7 47 7 11 RX7 TX7 12 := ⟨rfl, by decide, by decide, rfl, rL5 _ (List.mem_of_getElem? (i := 19) rfl), inlX7, tyX7_ok, nmX7⟩
theorem fz_X8_12 : FW RX8 12 8 0 RX8 TX8 3 := ⟨rfl, by decide, by decide, rfl, rL6 _ (List.mem_of_getElem? (i := 19) rfl), inlX8, tyX8_ok, nmX8⟩
theorem fz_X8_18 : FW RX8 18 8 2 RX8 TX8 3 := ⟨rfl, by decide, by decide, rfl, rL6 _ (List.mem_of_getElem? (i := 20) rfl), inlX8, tyX8_ok, nmX8⟩
theorem fz_X8_22 : FW RX8 22 8 1 RX8 TX8 3 := ⟨rfl, by decide, by decide, rfl, rL6 _ (List.mem_of_getElem? (i := 21) rfl), inlX8, tyX8_ok, nmX8⟩
theorem fz_X9_9 : FW RX9 9 9 0 RX9 TX9 4 := ⟨rfl, by decide, by decide, rfl, rL8 _ (List.mem_of_getElem? (i := 16) rfl), inlX9, tyX9_ok, nmX9⟩
theorem fz_X9_15 : FW RX9 15 9 1 RX9 TX9 4 := ⟨rfl, by decide, by decide, rfl, rL8 _ (List.mem_of_getElem? (i := 17) rfl), inlX9, tyX9_ok, nmX9⟩
theorem fz_X9_19 : FW RX9 19 9 2 RX9 TX9 4 := ⟨rfl, by decide, by decide, rfl, rL8 _ (List.mem_of_getElem? (i := 18) rfl), inlX9, tyX9_ok, nmX9⟩
theorem fz_X9_23 : FW RX9 23 9 3 RX9 TX9 4 := ⟨rfl, by decide, by decide, rfl, rL8 _ (List.mem_of_getElem? (i := 19) rfl), inlX9, tyX9_ok, nmX9⟩
def zW_X0_init_36 (cy : Nat → ClassId) (a : Nat) : va_W := [(a, .inr (0, [.ref (a + 1), .ref (a + 2)]))] ++ [((a + 1), .inl (cy 0, 216, .inl (fun _ => 0)))] ++ [((a + 2), .inl (cy 0, 216, .inl (fun _ => 0)))]
theorem zD_X0_init_36 {cy : Nat → ClassId} {a : Nat} : va_D (zA a 3) (zW_X0_init_36 cy a) := zD_of rfl (Nat.le_of_ble_eq_true rfl)
set_option maxRecDepth 100000 in
set_option maxHeartbeats 4000000 in
theorem zc_X0_init_36 {l : Launch} {D : va_G} {cy : Nat → ClassId} {a : Nat} : Met l yX0_init (wU yX0_init cX0_init 2 none) (rmZ 1 2 432) (PcZ D cy a [.ref a, .int 36] [(a, .inr (0, [.null, .null]))]) (QcZ D a 3 (zW_X0_init_36 cy a)) 2 432 (zA a 3) := by
  refine z_met (lv := [(0, .ref a), (1, .int 36)]) (by decide) rfl (Nat.le_of_ble_eq_true rfl) rfl (zD_of rfl (Nat.le_of_ble_eq_true rfl)) ?_
  intro p e s m args below meth c ls E hr hlk hin hw hl
  have hx := E.1.1
  have hb := E.1.2.1
  refine lv_aload_n hx hb dX0_init_0 rfl (lv_at hl 0 rfl) ?_
  refine W.objInit hx hb E.1.2.2.2.1 (E.1.2.2.2.2 _ (rL6 _ (List.mem_of_getElem? (i := 11) rfl))) (E.1.2.2.2.2 _ (rL1 _ (List.mem_of_getElem? (i := 11) rfl))) (E.1.2.2.2.2 _ (rL1 _ (List.mem_of_getElem? (i := 12) rfl))) rfl (hl.1.trans E.1.2.2.1.symm) rfl dX0_init_1 (Nat.le_of_ble_eq_true rfl) (Nat.le_of_ble_eq_true rfl) ?_
  refine W.eq (g2 := F0 m 4 ls []) rfl ?_
  refine lv_aload_n hx hb dX0_init_4 rfl (lv_at hl 0 rfl) ?_
  refine lv_iload_n hx hb dX0_init_5 rfl (lv_at hl 1 rfl) ?_
  refine lv_bipush (v := 6) hx hb dX0_init_6 (by decide) ?_
  refine lv_imul hx hb dX0_init_8 ?_
  refine z_newa (N' := 216) (a0 := (216, .inl (fun _ => 0))) E hw 0 rfl trivial rfl (rL3 _ (List.mem_of_getElem? (i := 3) rfl)) (fun _ => rfl) (by decide) (by decide) (by decide) ⟨by omega, by omega⟩ (Nat.le_of_ble_eq_true rfl) (Nat.le_of_ble_eq_true rfl) dX0_init_9 (fun H hw => ?_)
  have hw : ZH D ([(a, .inr (0, [.null, .null]))] ++ [((a + 1), .inl (cy 0, 216, .inl (fun _ => 0)))]) a 3 (a + 2) s H _ := hw
  refine z_putF E hw fz_X0_9 rfl hin rfl (q0 := 0) rfl rfl rfl (Nat.le_of_ble_eq_true rfl) dX0_init_11 (fun H locs hw => ?_)
  have hw : ZH D ([(a, .inr (0, [.ref (a + 1), .null]))] ++ [((a + 1), .inl (cy 0, 216, .inl (fun _ => 0)))]) a 3 (a + 2) s H _ := hw
  refine lv_aload_n hx hb dX0_init_14 rfl (lv_at hl 0 rfl) ?_
  refine lv_iload_n hx hb dX0_init_15 rfl (lv_at hl 1 rfl) ?_
  refine lv_bipush (v := 6) hx hb dX0_init_16 (by decide) ?_
  refine lv_imul hx hb dX0_init_18 ?_
  refine z_newa (N' := 216) (a0 := (216, .inl (fun _ => 0))) E hw 0 rfl trivial rfl (rL3 _ (List.mem_of_getElem? (i := 3) rfl)) (fun _ => rfl) (by decide) (by decide) (by decide) ⟨by omega, by omega⟩ (Nat.le_of_ble_eq_true rfl) (Nat.le_of_ble_eq_true rfl) dX0_init_19 (fun H hw => ?_)
  have hw : ZH D ([(a, .inr (0, [.ref (a + 1), .null]))] ++ [((a + 1), .inl (cy 0, 216, .inl (fun _ => 0)))] ++ [((a + 2), .inl (cy 0, 216, .inl (fun _ => 0)))]) a 3 (a + 3) s H _ := hw
  refine z_putF E hw fz_X0_15 rfl hin rfl (q0 := 0) rfl rfl rfl (Nat.le_of_ble_eq_true rfl) dX0_init_21 (fun H locs hw => ?_)
  have hw : ZH D ([(a, .inr (0, [.ref (a + 1), .ref (a + 2)]))] ++ [((a + 1), .inl (cy 0, 216, .inl (fun _ => 0)))] ++ [((a + 2), .inl (cy 0, 216, .inl (fun _ => 0)))]) a 3 (a + 3) s H _ := hw
  exact z_vret E hr hlk hw rfl dX0_init_24

def zW_X0_init_216 (cy : Nat → ClassId) (a : Nat) : va_W := [(a, .inr (0, [.ref (a + 1), .ref (a + 2)]))] ++ [((a + 1), .inl (cy 0, 1296, .inl (fun _ => 0)))] ++ [((a + 2), .inl (cy 0, 1296, .inl (fun _ => 0)))]
theorem zD_X0_init_216 {cy : Nat → ClassId} {a : Nat} : va_D (zA a 3) (zW_X0_init_216 cy a) := zD_of rfl (Nat.le_of_ble_eq_true rfl)
set_option maxRecDepth 100000 in
set_option maxHeartbeats 4000000 in
theorem zc_X0_init_216 {l : Launch} {D : va_G} {cy : Nat → ClassId} {a : Nat} : Met l yX0_init (wU yX0_init cX0_init 2 none) (rmZ 1 2 2592) (PcZ D cy a [.ref a, .int 216] [(a, .inr (0, [.null, .null]))]) (QcZ D a 3 (zW_X0_init_216 cy a)) 2 2592 (zA a 3) := by
  refine z_met (lv := [(0, .ref a), (1, .int 216)]) (by decide) rfl (Nat.le_of_ble_eq_true rfl) rfl (zD_of rfl (Nat.le_of_ble_eq_true rfl)) ?_
  intro p e s m args below meth c ls E hr hlk hin hw hl
  have hx := E.1.1
  have hb := E.1.2.1
  refine lv_aload_n hx hb dX0_init_0 rfl (lv_at hl 0 rfl) ?_
  refine W.objInit hx hb E.1.2.2.2.1 (E.1.2.2.2.2 _ (rL6 _ (List.mem_of_getElem? (i := 11) rfl))) (E.1.2.2.2.2 _ (rL1 _ (List.mem_of_getElem? (i := 11) rfl))) (E.1.2.2.2.2 _ (rL1 _ (List.mem_of_getElem? (i := 12) rfl))) rfl (hl.1.trans E.1.2.2.1.symm) rfl dX0_init_1 (Nat.le_of_ble_eq_true rfl) (Nat.le_of_ble_eq_true rfl) ?_
  refine W.eq (g2 := F0 m 4 ls []) rfl ?_
  refine lv_aload_n hx hb dX0_init_4 rfl (lv_at hl 0 rfl) ?_
  refine lv_iload_n hx hb dX0_init_5 rfl (lv_at hl 1 rfl) ?_
  refine lv_bipush (v := 6) hx hb dX0_init_6 (by decide) ?_
  refine lv_imul hx hb dX0_init_8 ?_
  refine z_newa (N' := 1296) (a0 := (1296, .inl (fun _ => 0))) E hw 0 rfl trivial rfl (rL3 _ (List.mem_of_getElem? (i := 3) rfl)) (fun _ => rfl) (by decide) (by decide) (by decide) ⟨by omega, by omega⟩ (Nat.le_of_ble_eq_true rfl) (Nat.le_of_ble_eq_true rfl) dX0_init_9 (fun H hw => ?_)
  have hw : ZH D ([(a, .inr (0, [.null, .null]))] ++ [((a + 1), .inl (cy 0, 1296, .inl (fun _ => 0)))]) a 3 (a + 2) s H _ := hw
  refine z_putF E hw fz_X0_9 rfl hin rfl (q0 := 0) rfl rfl rfl (Nat.le_of_ble_eq_true rfl) dX0_init_11 (fun H locs hw => ?_)
  have hw : ZH D ([(a, .inr (0, [.ref (a + 1), .null]))] ++ [((a + 1), .inl (cy 0, 1296, .inl (fun _ => 0)))]) a 3 (a + 2) s H _ := hw
  refine lv_aload_n hx hb dX0_init_14 rfl (lv_at hl 0 rfl) ?_
  refine lv_iload_n hx hb dX0_init_15 rfl (lv_at hl 1 rfl) ?_
  refine lv_bipush (v := 6) hx hb dX0_init_16 (by decide) ?_
  refine lv_imul hx hb dX0_init_18 ?_
  refine z_newa (N' := 1296) (a0 := (1296, .inl (fun _ => 0))) E hw 0 rfl trivial rfl (rL3 _ (List.mem_of_getElem? (i := 3) rfl)) (fun _ => rfl) (by decide) (by decide) (by decide) ⟨by omega, by omega⟩ (Nat.le_of_ble_eq_true rfl) (Nat.le_of_ble_eq_true rfl) dX0_init_19 (fun H hw => ?_)
  have hw : ZH D ([(a, .inr (0, [.ref (a + 1), .null]))] ++ [((a + 1), .inl (cy 0, 1296, .inl (fun _ => 0)))] ++ [((a + 2), .inl (cy 0, 1296, .inl (fun _ => 0)))]) a 3 (a + 3) s H _ := hw
  refine z_putF E hw fz_X0_15 rfl hin rfl (q0 := 0) rfl rfl rfl (Nat.le_of_ble_eq_true rfl) dX0_init_21 (fun H locs hw => ?_)
  have hw : ZH D ([(a, .inr (0, [.ref (a + 1), .ref (a + 2)]))] ++ [((a + 1), .inl (cy 0, 1296, .inl (fun _ => 0)))] ++ [((a + 2), .inl (cy 0, 1296, .inl (fun _ => 0)))]) a 3 (a + 3) s H _ := hw
  exact z_vret E hr hlk hw rfl dX0_init_24

def zW_X0_init_4 (cy : Nat → ClassId) (a : Nat) : va_W := [(a, .inr (0, [.ref (a + 1), .ref (a + 2)]))] ++ [((a + 1), .inl (cy 0, 24, .inl (fun _ => 0)))] ++ [((a + 2), .inl (cy 0, 24, .inl (fun _ => 0)))]
theorem zD_X0_init_4 {cy : Nat → ClassId} {a : Nat} : va_D (zA a 3) (zW_X0_init_4 cy a) := zD_of rfl (Nat.le_of_ble_eq_true rfl)
set_option maxRecDepth 100000 in
set_option maxHeartbeats 4000000 in
theorem zc_X0_init_4 {l : Launch} {D : va_G} {cy : Nat → ClassId} {a : Nat} : Met l yX0_init (wU yX0_init cX0_init 2 none) (rmZ 1 2 48) (PcZ D cy a [.ref a, .int 4] [(a, .inr (0, [.null, .null]))]) (QcZ D a 3 (zW_X0_init_4 cy a)) 2 48 (zA a 3) := by
  refine z_met (lv := [(0, .ref a), (1, .int 4)]) (by decide) rfl (Nat.le_of_ble_eq_true rfl) rfl (zD_of rfl (Nat.le_of_ble_eq_true rfl)) ?_
  intro p e s m args below meth c ls E hr hlk hin hw hl
  have hx := E.1.1
  have hb := E.1.2.1
  refine lv_aload_n hx hb dX0_init_0 rfl (lv_at hl 0 rfl) ?_
  refine W.objInit hx hb E.1.2.2.2.1 (E.1.2.2.2.2 _ (rL6 _ (List.mem_of_getElem? (i := 11) rfl))) (E.1.2.2.2.2 _ (rL1 _ (List.mem_of_getElem? (i := 11) rfl))) (E.1.2.2.2.2 _ (rL1 _ (List.mem_of_getElem? (i := 12) rfl))) rfl (hl.1.trans E.1.2.2.1.symm) rfl dX0_init_1 (Nat.le_of_ble_eq_true rfl) (Nat.le_of_ble_eq_true rfl) ?_
  refine W.eq (g2 := F0 m 4 ls []) rfl ?_
  refine lv_aload_n hx hb dX0_init_4 rfl (lv_at hl 0 rfl) ?_
  refine lv_iload_n hx hb dX0_init_5 rfl (lv_at hl 1 rfl) ?_
  refine lv_bipush (v := 6) hx hb dX0_init_6 (by decide) ?_
  refine lv_imul hx hb dX0_init_8 ?_
  refine z_newa (N' := 24) (a0 := (24, .inl (fun _ => 0))) E hw 0 rfl trivial rfl (rL3 _ (List.mem_of_getElem? (i := 3) rfl)) (fun _ => rfl) (by decide) (by decide) (by decide) ⟨by omega, by omega⟩ (Nat.le_of_ble_eq_true rfl) (Nat.le_of_ble_eq_true rfl) dX0_init_9 (fun H hw => ?_)
  have hw : ZH D ([(a, .inr (0, [.null, .null]))] ++ [((a + 1), .inl (cy 0, 24, .inl (fun _ => 0)))]) a 3 (a + 2) s H _ := hw
  refine z_putF E hw fz_X0_9 rfl hin rfl (q0 := 0) rfl rfl rfl (Nat.le_of_ble_eq_true rfl) dX0_init_11 (fun H locs hw => ?_)
  have hw : ZH D ([(a, .inr (0, [.ref (a + 1), .null]))] ++ [((a + 1), .inl (cy 0, 24, .inl (fun _ => 0)))]) a 3 (a + 2) s H _ := hw
  refine lv_aload_n hx hb dX0_init_14 rfl (lv_at hl 0 rfl) ?_
  refine lv_iload_n hx hb dX0_init_15 rfl (lv_at hl 1 rfl) ?_
  refine lv_bipush (v := 6) hx hb dX0_init_16 (by decide) ?_
  refine lv_imul hx hb dX0_init_18 ?_
  refine z_newa (N' := 24) (a0 := (24, .inl (fun _ => 0))) E hw 0 rfl trivial rfl (rL3 _ (List.mem_of_getElem? (i := 3) rfl)) (fun _ => rfl) (by decide) (by decide) (by decide) ⟨by omega, by omega⟩ (Nat.le_of_ble_eq_true rfl) (Nat.le_of_ble_eq_true rfl) dX0_init_19 (fun H hw => ?_)
  have hw : ZH D ([(a, .inr (0, [.ref (a + 1), .null]))] ++ [((a + 1), .inl (cy 0, 24, .inl (fun _ => 0)))] ++ [((a + 2), .inl (cy 0, 24, .inl (fun _ => 0)))]) a 3 (a + 3) s H _ := hw
  refine z_putF E hw fz_X0_15 rfl hin rfl (q0 := 0) rfl rfl rfl (Nat.le_of_ble_eq_true rfl) dX0_init_21 (fun H locs hw => ?_)
  have hw : ZH D ([(a, .inr (0, [.ref (a + 1), .ref (a + 2)]))] ++ [((a + 1), .inl (cy 0, 24, .inl (fun _ => 0)))] ++ [((a + 2), .inl (cy 0, 24, .inl (fun _ => 0)))]) a 3 (a + 3) s H _ := hw
  exact z_vret E hr hlk hw rfl dX0_init_24
