theorem fz_X0_9 : FW RX0 9 0 0 RX0 TX0 2 := ⟨rfl, by decide, by decide, rfl, rL6 _ (List.mem_of_getElem? (i := 12) rfl), inlX0, tyX0_ok, nmX0⟩
theorem fz_X0_15 : FW RX0 15 0 1 RX0 TX0 2 := ⟨rfl, by decide, by decide, rfl, rL6 _ (List.mem_of_getElem? (i := 13) rfl), inlX0, tyX0_ok, nmX0⟩
theorem fz_X1_14 : FW RX1 14 1 0 RX1 TX1 4 := ⟨rfl, by decide, by decide, rfl, rL7 _ (List.mem_of_getElem? (i := 19) rfl), inlX1, tyX1_ok, nmX1⟩
theorem fz_X1_20 : FW RX1 20 1 1 RX1 TX1 4 := ⟨rfl, by decide, by decide, rfl, rL7 _ (List.mem_of_getElem? (i := 20) rfl), inlX1, tyX1_ok, nmX1⟩
theorem fz_X1_24 : FW RX1 24 1 2 RX1 TX1 4 := ⟨rfl, by decide, by decide, rfl, rL7 _ (List.mem_of_getElem? (i := 21) rfl), inlX1, tyX1_ok, nmX1⟩
theorem fz_X1_27 : FW RX1 27 1 3 RX1 TX1 4 := ⟨rfl, by decide, by decide, rfl, rL7 _ (List.mem_of_getElem? (i := 22) rfl), inlX1, tyX1_ok, nmX1⟩
theorem fz_X10_12 : FW RX10 12 10 0 RX10 TX10 12 := ⟨rfl, by decide, by decide, rfl, rL4 _ (List.mem_of_getElem? (i := 12) rfl), inlX10, tyX10_ok, nmX10⟩
theorem fz_X10_21 : FW RX10 21 10 1 RX10 TX10 12 := ⟨rfl, by decide, by decide, rfl, rL4 _ (List.mem_of_getElem? (i := 16) rfl), inlX10, tyX10_ok, nmX10⟩
theorem fz_X10_30 : FW RX10 30 10 2 RX10 TX10 12 := ⟨rfl, by decide, by decide, rfl, rL4 _ (List.mem_of_getElem? (i := 18) rfl), inlX10, tyX10_ok, nmX10⟩
theorem fz_X10_34 : FW RX10 34 10 3 RX10 TX10 12 := ⟨rfl, by decide, by decide, rfl, rL4 _ (List.mem_of_getElem? (i := 19) rfl), inlX10, tyX10_ok, nmX10⟩
theorem fz_X10_37 : FW RX10 37 10 4 RX10 TX10 12 := ⟨rfl, by decide, by decide, rfl, rL4 _ (List.mem_of_getElem? (i := 20) rfl), inlX10, tyX10_ok, nmX10⟩
theorem fz_X10_41 : FW RX10 41 10 5 RX10 TX10 12 := ⟨rfl, by decide, by decide, rfl, rL4 _ (List.mem_of_getElem? (i := 21) rfl), inlX10, tyX10_ok, nmX10⟩
theorem fz_X10_44 : FW RX10 44 10 6 RX10 TX10 12 := ⟨rfl, by decide, by decide, rfl, rL4 _ (List.mem_of_getElem? (i := 22) rfl), inlX10, tyX10_ok, nmX10⟩
theorem fz_X10_47 : FW RX10 47 10 7 RX10 TX10 12 := ⟨rfl, by decide, by decide, rfl, rL4 _ (List.mem_of_getElem? (i := 23) rfl), inlX10, tyX10_ok, nmX10⟩
theorem fz_X10_50 : FW RX10 50 10 8 RX10 TX10 12 := ⟨rfl, by decide, by decide, rfl, rL5 _ (List.mem_of_getElem? (i := 0) rfl), inlX10, tyX10_ok, nmX10⟩
theorem fz_X10_53 : FW RX10 53 10 9 RX10 TX10 12 := ⟨rfl, by decide, by decide, rfl, rL5 _ (List.mem_of_getElem? (i := 1) rfl), inlX10, tyX10_ok, nmX10⟩
theorem fz_X10_57 : FW RX10 57 10 10 RX10 TX10 12 := ⟨rfl, by decide, by decide, rfl, rL5 _ (List.mem_of_getElem? (i := 2) rfl), inlX10, tyX10_ok, nmX10⟩
theorem fz_X10_60 : FW RX10 60 10 11 RX10 TX10 12 := ⟨rfl, by decide, by decide, rfl, rL5 _ (List.mem_of_getElem? (i := 3) rfl), inlX10, tyX10_ok, nmX10⟩
theorem fz_X11_11 : FW RX11 11 11 0 RX11 TX11 20 := ⟨rfl, by decide, by decide, rfl, rL1 _ (List.mem_of_getElem? (i := 14) rfl), inlX11, tyX11_ok, nmX11⟩
theorem fz_X11_18 : FW RX11 18 11 1 RX11 TX11 20 := ⟨rfl, by decide, by decide, rfl, rL1 _ (List.mem_of_getElem? (i := 18) rfl), inlX11, tyX11_ok, nmX11⟩
theorem fz_X11_25 : FW RX11 25 11 2 RX11 TX11 20 := ⟨rfl, by decide, by decide, rfl, rL1 _ (List.mem_of_getElem? (i := 22) rfl), inlX11, tyX11_ok, nmX11⟩
theorem fz_X11_34 : FW RX11 34 11 3 RX11 TX11 20 := ⟨rfl, by decide, by decide, rfl, rL2 _ (List.mem_of_getElem? (i := 2) rfl), inlX11, tyX11_ok, nmX11⟩
theorem fz_X11_40 : FW RX11 40 10 0 RX10 TX10 12 := ⟨rfl, by decide, by decide, rfl, rL2 _ (List.mem_of_getElem? (i := 6) rfl), inlX10, tyX10_ok, nmX10⟩
theorem fz_X11_47 : FW RX11 47 11 4 RX11 TX11 20 := ⟨rfl, by decide, by decide, rfl, rL2 _ (List.mem_of_getElem? (i := 7) rfl), inlX11, tyX11_ok, nmX11⟩
theorem fz_X11_51 : FW RX11 51 11 5 RX11 TX11 20 := ⟨rfl, by decide, by decide, rfl, rL2 _ (List.mem_of_getElem? (i := 8) rfl), inlX11, tyX11_ok, nmX11⟩
theorem fz_X11_55 : FW RX11 55 11 6 RX11 TX11 20 := ⟨rfl, by decide, by decide, rfl, rL2 _ (List.mem_of_getElem? (i := 9) rfl), inlX11, tyX11_ok, nmX11⟩
theorem fz_X11_61 : FW RX11 61 11 7 RX11 TX11 20 := ⟨rfl, by decide, by decide, rfl, rL2 _ (List.mem_of_getElem? (i := 13) rfl), inlX11, tyX11_ok, nmX11⟩
theorem fz_X11_65 : FW RX11 65 11 8 RX11 TX11 20 := ⟨rfl, by decide, by decide, rfl, rL2 _ (List.mem_of_getElem? (i := 14) rfl), inlX11, tyX11_ok, nmX11⟩
theorem fz_X11_71 : FW RX11 71 11 9 RX11 TX11 20 := ⟨rfl, by decide, by decide, rfl, rL2 _ (List.mem_of_getElem? (i := 18) rfl), inlX11, tyX11_ok, nmX11⟩
theorem fz_X11_78 : FW RX11 78 11 10 RX11 TX11 20 := ⟨rfl, by decide, by decide, rfl, rL2 _ (List.mem_of_getElem? (i := 22) rfl), inlX11, tyX11_ok, nmX11⟩
theorem fz_X11_87 : FW RX11 87 11 11 RX11 TX11 20 := ⟨rfl, by decide, by decide, rfl, rL3 _ (List.mem_of_getElem? (i := 2) rfl), inlX11, tyX11_ok, nmX11⟩
theorem fz_X11_91 : FW RX11 91 11 12 RX11 TX11 20 := ⟨rfl, by decide, by decide, rfl, rL3 _ (List.mem_of_getElem? (i := 4) rfl), inlX11, tyX11_ok, nmX11⟩
theorem fz_X11_95 : FW RX11 95 11 13 RX11 TX11 20 := ⟨rfl, by decide, by decide, rfl, rL3 _ (List.mem_of_getElem? (i := 5) rfl), inlX11, tyX11_ok, nmX11⟩
theorem fz_X11_98 : FW RX11 98 11 14 RX11 TX11 20 := ⟨rfl, by decide, by decide, rfl, rL3 _ (List.mem_of_getElem? (i := 6) rfl), inlX11, tyX11_ok, nmX11⟩
theorem fz_X11_102 : FW RX11 102 11 15 RX11 TX11 20 := ⟨rfl, by decide, by decide, rfl, rL3 _ (List.mem_of_getElem? (i := 7) rfl), inlX11, tyX11_ok, nmX11⟩
theorem fz_X11_106 : FW RX11 106 11 16 RX11 TX11 20 := ⟨rfl, by decide, by decide, rfl, rL3 _ (List.mem_of_getElem? (i := 8) rfl), inlX11, tyX11_ok, nmX11⟩
theorem fz_X11_109 : FW RX11 109 11 17 RX11 TX11 20 := ⟨rfl, by decide, by decide, rfl, rL3 _ (List.mem_of_getElem? (i := 9) rfl), inlX11, tyX11_ok, nmX11⟩
theorem fz_X11_112 : FW RX11 112 11 18 RX11 TX11 20 := ⟨rfl, by decide, by decide, rfl, rL3 _ (List.mem_of_getElem? (i := 10) rfl), inlX11, tyX11_ok, nmX11⟩
theorem fz_X11_115 : FW RX11 115 11 19 RX11 TX11 20 := ⟨rfl, by decide, by decide, rfl, rL3 _ (List.mem_of_getElem? (i := 11) rfl), inlX11, tyX11_ok, nmX11⟩
theorem fz_X12_7 : FW RX12 7 12 0 RX12 TX12 47 := ⟨rfl, by decide, by decide, rfl, rL9 _ (List.mem_of_getElem? (i := 0) rfl), inlX12, tyX12_ok, nmX12⟩
theorem fz_X12_13 : FW RX12 13 12 1 RX12 TX12 47 := ⟨rfl, by decide, by decide, rfl, rL9 _ (List.mem_of_getElem? (i := 1) rfl), inlX12, tyX12_ok, nmX12⟩
theorem fz_X12_17 : FW RX12 17 12 4 RX12 TX12 47 := ⟨rfl, by decide, by decide, rfl, rL9 _ (List.mem_of_getElem? (i := 2) rfl), inlX12, tyX12_ok, nmX12⟩
theorem fz_X12_21 : FW RX12 21 12 5 RX12 TX12 47 := ⟨rfl, by decide, by decide, rfl, rL9 _ (List.mem_of_getElem? (i := 3) rfl), inlX12, tyX12_ok, nmX12⟩
theorem fz_X12_24 : FW RX12 24 12 6 RX12 TX12 47 := ⟨rfl, by decide, by decide, rfl, rL9 _ (List.mem_of_getElem? (i := 4) rfl), inlX12, tyX12_ok, nmX12⟩
theorem fz_X12_27 : FW RX12 27 12 7 RX12 TX12 47 := ⟨rfl, by decide, by decide, rfl, rL9 _ (List.mem_of_getElem? (i := 5) rfl), inlX12, tyX12_ok, nmX12⟩
theorem fz_X12_30 : FW RX12 30 12 8 RX12 TX12 47 := ⟨rfl, by decide, by decide, rfl, rL9 _ (List.mem_of_getElem? (i := 7) rfl), inlX12, tyX12_ok, nmX12⟩
theorem fz_X12_34 : FW RX12 34 12 9 RX12 TX12 47 := ⟨rfl, by decide, by decide, rfl, rL9 _ (List.mem_of_getElem? (i := 8) rfl), inlX12, tyX12_ok, nmX12⟩
theorem fz_X12_37 : FW RX12 37 12 16 RX12 TX12 47 := ⟨rfl, by decide, by decide, rfl, rL9 _ (List.mem_of_getElem? (i := 9) rfl), inlX12, tyX12_ok, nmX12⟩
theorem fz_X12_41 : FW RX12 41 12 17 RX12 TX12 47 := ⟨rfl, by decide, by decide, rfl, rL9 _ (List.mem_of_getElem? (i := 10) rfl), inlX12, tyX12_ok, nmX12⟩
theorem fz_X12_44 : FW RX12 44 12 20 RX12 TX12 47 := ⟨rfl, by decide, by decide, rfl, rL9 _ (List.mem_of_getElem? (i := 11) rfl), inlX12, tyX12_ok, nmX12⟩
theorem fz_X12_47 : FW RX12 47 12 23 RX12 TX12 47 := ⟨rfl, by decide, by decide, rfl, rL9 _ (List.mem_of_getElem? (i := 12) rfl), inlX12, tyX12_ok, nmX12⟩
theorem fz_X12_50 : FW RX12 50 12 24 RX12 TX12 47 := ⟨rfl, by decide, by decide, rfl, rL9 _ (List.mem_of_getElem? (i := 13) rfl), inlX12, tyX12_ok, nmX12⟩
theorem fz_X12_53 : FW RX12 53 12 25 RX12 TX12 47 := ⟨rfl, by decide, by decide, rfl, rL9 _ (List.mem_of_getElem? (i := 14) rfl), inlX12, tyX12_ok, nmX12⟩
theorem fz_X12_56 : FW RX12 56 12 26 RX12 TX12 47 := ⟨rfl, by decide, by decide, rfl, rL9 _ (List.mem_of_getElem? (i := 15) rfl), inlX12, tyX12_ok, nmX12⟩
theorem fz_X12_59 : FW RX12 59 12 28 RX12 TX12 47 := ⟨rfl, by decide, by decide, rfl, rL9 _ (List.mem_of_getElem? (i := 16) rfl), inlX12, tyX12_ok, nmX12⟩
theorem fz_X12_62 : FW RX12 62 12 29 RX12 TX12 47 := ⟨rfl, by decide, by decide, rfl, rL9 _ (List.mem_of_getElem? (i := 17) rfl), inlX12, tyX12_ok, nmX12⟩
theorem fz_X12_65 : FW RX12 65 12 31 RX12 TX12 47 := ⟨rfl, by decide, by decide, rfl, rL9 _ (List.mem_of_getElem? (i := 18) rfl), inlX12, tyX12_ok, nmX12⟩
theorem fz_X12_68 : FW RX12 68 12 33 RX12 TX12 47 := ⟨rfl, by decide, by decide, rfl, rL9 _ (List.mem_of_getElem? (i := 19) rfl), inlX12, tyX12_ok, nmX12⟩
theorem fz_X12_71 : FW RX12 71 12 34 RX12 TX12 47 := ⟨rfl, by decide, by decide, rfl, rL9 _ (List.mem_of_getElem? (i := 20) rfl), inlX12, tyX12_ok, nmX12⟩
theorem fz_X12_74 : FW RX12 74 12 35 RX12 TX12 47 := ⟨rfl, by decide, by decide, rfl, rL9 _ (List.mem_of_getElem? (i := 21) rfl), inlX12, tyX12_ok, nmX12⟩
theorem fz_X12_77 : FW RX12 77 12 37 RX12 TX12 47 := ⟨rfl, by decide, by decide, rfl, rL9 _ (List.mem_of_getElem? (i := 22) rfl), inlX12, tyX12_ok, nmX12⟩
theorem fz_X12_81 : FW RX12 81 12 38 RX12 TX12 47 := ⟨rfl, by decide, by decide, rfl, rL9 _ (List.mem_of_getElem? (i := 23) rfl), inlX12, tyX12_ok, nmX12⟩
theorem fz_X12_84 : FW RX12 84 12 41 RX12 TX12 47 := ⟨rfl, by decide, by decide, rfl, rL10 _ (List.mem_of_getElem? (i := 0) rfl), inlX12, tyX12_ok, nmX12⟩
theorem fz_X12_87 : FW RX12 87 12 42 RX12 TX12 47 := ⟨rfl, by decide, by decide, rfl, rL10 _ (List.mem_of_getElem? (i := 1) rfl), inlX12, tyX12_ok, nmX12⟩
theorem fz_X12_90 : FW RX12 90 12 43 RX12 TX12 47 := ⟨rfl, by decide, by decide, rfl, rL10 _ (List.mem_of_getElem? (i := 2) rfl), inlX12, tyX12_ok, nmX12⟩
theorem fz_X2_9 : FW RX2 9 2 0 RX2 TX2 9 := ⟨rfl, by decide, by decide, rfl, rL5 _ (List.mem_of_getElem? (i := 23) rfl), inlX2, tyX2_ok, nmX2⟩
theorem fz_X2_13 : FW RX2 13 2 1 RX2 TX2 9 := ⟨rfl, by decide, by decide, rfl, rL6 _ (List.mem_of_getElem? (i := 0) rfl), inlX2, tyX2_ok, nmX2⟩
theorem fz_X2_16 : FW RX2 16 2 2 RX2 TX2 9 := ⟨rfl, by decide, by decide, rfl, rL6 _ (List.mem_of_getElem? (i := 1) rfl), inlX2, tyX2_ok, nmX2⟩
theorem fz_X2_19 : FW RX2 19 2 3 RX2 TX2 9 := ⟨rfl, by decide, by decide, rfl, rL6 _ (List.mem_of_getElem? (i := 2) rfl), inlX2, tyX2_ok, nmX2⟩
theorem fz_X2_22 : FW RX2 22 2 4 RX2 TX2 9 := ⟨rfl, by decide, by decide, rfl, rL6 _ (List.mem_of_getElem? (i := 3) rfl), inlX2, tyX2_ok, nmX2⟩
theorem fz_X2_25 : FW RX2 25 2 5 RX2 TX2 9 := ⟨rfl, by decide, by decide, rfl, rL6 _ (List.mem_of_getElem? (i := 4) rfl), inlX2, tyX2_ok, nmX2⟩
theorem fz_X2_28 : FW RX2 28 2 6 RX2 TX2 9 := ⟨rfl, by decide, by decide, rfl, rL6 _ (List.mem_of_getElem? (i := 5) rfl), inlX2, tyX2_ok, nmX2⟩
theorem fz_X2_32 : FW RX2 32 2 7 RX2 TX2 9 := ⟨rfl, by decide, by decide, rfl, rL6 _ (List.mem_of_getElem? (i := 6) rfl), inlX2, tyX2_ok, nmX2⟩
theorem fz_X2_36 : FW RX2 36 2 8 RX2 TX2 9 := ⟨rfl, by decide, by decide, rfl, rL6 _ (List.mem_of_getElem? (i := 7) rfl), inlX2, tyX2_ok, nmX2⟩
theorem fz_X3_12 : FW RX3 12 3 0 RX3 TX3 5 := ⟨rfl, by decide, by decide, rfl, rL7 _ (List.mem_of_getElem? (i := 3) rfl), inlX3, tyX3_ok, nmX3⟩
theorem fz_X3_18 : FW RX3 18 3 3 RX3 TX3 5 := ⟨rfl, by decide, by decide, rfl, rL7 _ (List.mem_of_getElem? (i := 4) rfl), inlX3, tyX3_ok, nmX3⟩
theorem fz_X3_22 : FW RX3 22 3 4 RX3 TX3 5 := ⟨rfl, by decide, by decide, rfl, rL7 _ (List.mem_of_getElem? (i := 5) rfl), inlX3, tyX3_ok, nmX3⟩
theorem fz_X3_26 : FW RX3 26 3 1 RX3 TX3 5 := ⟨rfl, by decide, by decide, rfl, rL7 _ (List.mem_of_getElem? (i := 6) rfl), inlX3, tyX3_ok, nmX3⟩
theorem fz_X3_30 : FW RX3 30 3 2 RX3 TX3 5 := ⟨rfl, by decide, by decide, rfl, rL7 _ (List.mem_of_getElem? (i := 7) rfl), inlX3, tyX3_ok, nmX3⟩
theorem fz_X4_11 : FW RX4 11 4 0 RX4 TX4 4 := ⟨rfl, by decide, by decide, rfl, rL7 _ (List.mem_of_getElem? (i := 11) rfl), inlX4, tyX4_ok, nmX4⟩
theorem fz_X4_15 : FW RX4 15 4 1 RX4 TX4 4 := ⟨rfl, by decide, by decide, rfl, rL7 _ (List.mem_of_getElem? (i := 12) rfl), inlX4, tyX4_ok, nmX4⟩
theorem fz_X4_21 : FW RX4 21 4 2 RX4 TX4 4 := ⟨rfl, by decide, by decide, rfl, rL7 _ (List.mem_of_getElem? (i := 13) rfl), inlX4, tyX4_ok, nmX4⟩
theorem fz_X4_24 : FW RX4 24 4 3 RX4 TX4 4 := ⟨rfl, by decide, by decide, rfl, rL7 _ (List.mem_of_getElem? (i := 14) rfl), inlX4, tyX4_ok, nmX4⟩
theorem fz_X5_16 : FW RX5 16 5 0 RX5 TX5 6 := ⟨rfl, by decide, by decide, rfl, rL8 _ (List.mem_of_getElem? (i := 4) rfl), inlX5, tyX5_ok, nmX5⟩
theorem fz_X5_20 : FW RX5 20 5 1 RX5 TX5 6 := ⟨rfl, by decide, by decide, rfl, rL8 _ (List.mem_of_getElem? (i := 6) rfl), inlX5, tyX5_ok, nmX5⟩
theorem fz_X5_24 : FW RX5 24 5 2 RX5 TX5 6 := ⟨rfl, by decide, by decide, rfl, rL8 _ (List.mem_of_getElem? (i := 7) rfl), inlX5, tyX5_ok, nmX5⟩
theorem fz_X5_28 : FW RX5 28 5 3 RX5 TX5 6 := ⟨rfl, by decide, by decide, rfl, rL8 _ (List.mem_of_getElem? (i := 8) rfl), inlX5, tyX5_ok, nmX5⟩
theorem fz_X5_31 : FW RX5 31 5 4 RX5 TX5 6 := ⟨rfl, by decide, by decide, rfl, rL8 _ (List.mem_of_getElem? (i := 9) rfl), inlX5, tyX5_ok, nmX5⟩
theorem fz_X5_35 : FW RX5 35 5 5 RX5 TX5 6 := ⟨rfl, by decide, by decide, rfl, rL8 _ (List.mem_of_getElem? (i := 10) rfl), inlX5, tyX5_ok, nmX5⟩
theorem fz_X6_9 : FW RX6 9 6 0 RX6 TX6 12 := ⟨rfl, by decide, by decide, rfl, rL3 _ (List.mem_of_getElem? (i := 17) rfl), inlX6, tyX6_ok, nmX6⟩
theorem fz_X6_15 : FW RX6 15 6 1 RX6 TX6 12 := ⟨rfl, by decide, by decide, rfl, rL3 _ (List.mem_of_getElem? (i := 18) rfl), inlX6, tyX6_ok, nmX6⟩
theorem fz_X6_19 : FW RX6 19 6 2 RX6 TX6 12 := ⟨rfl, by decide, by decide, rfl, rL3 _ (List.mem_of_getElem? (i := 19) rfl), inlX6, tyX6_ok, nmX6⟩
theorem fz_X6_22 : FW RX6 22 6 3 RX6 TX6 12 := ⟨rfl, by decide, by decide, rfl, rL3 _ (List.mem_of_getElem? (i := 20) rfl), inlX6, tyX6_ok, nmX6⟩
theorem fz_X6_25 : FW RX6 25 6 4 RX6 TX6 12 := ⟨rfl, by decide, by decide, rfl, rL3 _ (List.mem_of_getElem? (i := 21) rfl), inlX6, tyX6_ok, nmX6⟩
theorem fz_X6_28 : FW RX6 28 6 5 RX6 TX6 12 := ⟨rfl, by decide, by decide, rfl, rL3 _ (List.mem_of_getElem? (i := 22) rfl), inlX6, tyX6_ok, nmX6⟩
theorem fz_X6_31 : FW RX6 31 6 6 RX6 TX6 12 := ⟨rfl, by decide, by decide, rfl, rL3 _ (List.mem_of_getElem? (i := 23) rfl), inlX6, tyX6_ok, nmX6⟩
theorem fz_X6_34 : FW RX6 34 6 7 RX6 TX6 12 := ⟨rfl, by decide, by decide, rfl, rL4 _ (List.mem_of_getElem? (i := 0) rfl), inlX6, tyX6_ok, nmX6⟩
theorem fz_X6_37 : FW RX6 37 6 8 RX6 TX6 12 := ⟨rfl, by decide, by decide, rfl, rL4 _ (List.mem_of_getElem? (i := 1) rfl), inlX6, tyX6_ok, nmX6⟩
theorem fz_X6_42 : FW RX6 42 6 9 RX6 TX6 12 := ⟨rfl, by decide, by decide, rfl, rL4 _ (List.mem_of_getElem? (i := 3) rfl), inlX6, tyX6_ok, nmX6⟩
theorem fz_X6_46 : FW RX6 46 6 10 RX6 TX6 12 := ⟨rfl, by decide, by decide, rfl, rL4 _ (List.mem_of_getElem? (i := 4) rfl), inlX6, tyX6_ok, nmX6⟩
theorem fz_X6_49 : FW RX6 49 6 11 RX6 TX6 12 := ⟨rfl, by decide, by decide, rfl, rL4 _ (List.mem_of_getElem? (i := 5) rfl), inlX6, tyX6_ok, nmX6⟩
theorem fz_X7_9 : FW RX7 9 7 0 RX7 TX7 12 := ⟨rfl, by decide, by decide, rfl, rL5 _ (List.mem_of_getElem? (i := 7) rfl), inlX7, tyX7_ok, nmX7⟩
theorem fz_X7_15 : FW RX7 15 7 1 RX7 TX7 12 := ⟨rfl, by decide, by decide, rfl, rL5 _ (List.mem_of_getElem? (i := 9) rfl), inlX7, tyX7_ok, nmX7⟩
theorem fz_X7_19 : FW RX7 19 7 2 RX7 TX7 12 := ⟨rfl, by decide, by decide, rfl, rL5 _ (List.mem_of_getElem? (i := 10) rfl), inlX7, tyX7_ok, nmX7⟩
theorem fz_X7_22 : FW RX7 22 7 3 RX7 TX7 12 := ⟨rfl, by decide, by decide, rfl, rL5 _ (List.mem_of_getElem? (i := 11) rfl), inlX7, tyX7_ok, nmX7⟩
theorem fz_X7_25 : FW RX7 25 7 4 RX7 TX7 12 := ⟨rfl, by decide, by decide, rfl, rL5 _ (List.mem_of_getElem? (i := 12) rfl), inlX7, tyX7_ok, nmX7⟩
theorem fz_X7_28 : FW RX7 28 7 5 RX7 TX7 12 := ⟨rfl, by decide, by decide, rfl, rL5 _ (List.mem_of_getElem? (i := 13) rfl), inlX7, tyX7_ok, nmX7⟩
theorem fz_X7_31 : FW RX7 31 7 6 RX7 TX7 12 := ⟨rfl, by decide, by decide, rfl, rL5 _ (List.mem_of_getElem? (i := 14) rfl), inlX7, tyX7_ok, nmX7⟩
theorem fz_X7_35 : FW RX7 35 7 7 RX7 TX7 12 := ⟨rfl, by decide, by decide, rfl, rL5 _ (List.mem_of_getElem? (i := 15) rfl), inlX7, tyX7_ok, nmX7⟩
theorem fz_X7_38 : FW RX7 38 7 8 RX7 TX7 12 := ⟨rfl, by decide, by decide, rfl, rL5 _ (List.mem_of_getElem? (i := 16) rfl), inlX7, tyX7_ok, nmX7⟩
theorem fz_X7_41 : FW RX7 41 7 9 RX7 TX7 12 := ⟨rfl, by decide, by decide, rfl, rL5 _ (List.mem_of_getElem? (i := 17) rfl), inlX7, tyX7_ok, nmX7⟩
theorem fz_X7_44 : FW RX7 44 7 10 RX7 TX7 12 := ⟨rfl, by decide, by decide, rfl, rL5 _ (List.mem_of_getElem? (i := 18) rfl), inlX7, tyX7_ok, nmX7⟩
theorem fz_X7_47 : FW RX7 47 7 11 RX7 TX7 12 := ⟨rfl, by decide, by decide, rfl, rL5 _ (List.mem_of_getElem? (i := 19) rfl), inlX7, tyX7_ok, nmX7⟩
theorem fz_X8_12 : FW RX8 12 8 0 RX8 TX8 3 := ⟨rfl, by decide, by decide, rfl, rL6 _ (List.mem_of_getElem? (i := 19) rfl), inlX8, tyX8_ok, nmX8⟩
theorem fz_X8_18 : FW RX8 18 8 2 RX8 TX8 3 := ⟨rfl, by decide, by decide, rfl, rL6 _ (List.mem_of_getElem? (i := 20) rfl), inlX8, tyX8_ok, nmX8⟩
theorem fz_X8_22 : FW RX8 22 8 1 RX8 TX8 3 := ⟨rfl, by decide, by decide, rfl, rL6 _ (List.mem_of_getElem? (i := 21) rfl), inlX8, tyX8_ok, nmX8⟩
theorem fz_X9_9 : FW RX9 9 9 0 RX9 TX9 4 := ⟨rfl, by decide, by decide, rfl, rL8 _ (List.mem_of_getElem? (i := 16) rfl), inlX9, tyX9_ok, nmX9⟩
theorem fz_X9_15 : FW RX9 15 9 1 RX9 TX9 4 := ⟨rfl, by decide, by decide, rfl, rL8 _ (List.mem_of_getElem? (i := 17) rfl), inlX9, tyX9_ok, nmX9⟩
theorem fz_X9_19 : FW RX9 19 9 2 RX9 TX9 4 := ⟨rfl, by decide, by decide, rfl, rL8 _ (List.mem_of_getElem? (i := 18) rfl), inlX9, tyX9_ok, nmX9⟩
theorem fz_X9_23 : FW RX9 23 9 3 RX9 TX9 4 := ⟨rfl, by decide, by decide, rfl, rL8 _ (List.mem_of_getElem? (i := 19) rfl), inlX9, tyX9_ok, nmX9⟩
def zW_X0_init_36 (cy : Nat → ClassId) (a : Nat) : va_W := (a, .inr (0, [.ref (a + 1), .ref (a + 2)])) :: ([] ++ [((a + 1), .inl (cy 0, 216, .inl (fun _ => 0)))] ++ [((a + 2), .inl (cy 0, 216, .inl (fun _ => 0)))])
theorem zD_X0_init_36 {cy : Nat → ClassId} {a : Nat} : va_D (zA a 3) (zW_X0_init_36 cy a) := zD_of rfl (Nat.le_of_ble_eq_true rfl)
set_option maxRecDepth 100000 in
set_option maxHeartbeats 4000000 in
theorem zc_X0_init_36 {l : Launch} {D : va_G} {cy : Nat → ClassId} {a : Nat} : Met l yX0_init (wU yX0_init cX0_init 2 none) (rmZ 1 2 432) (PcZ D cy a [.ref a, .int 36] [(a, .inr (0, [.null, .null]))]) (QcZ D a 3 (zW_X0_init_36 cy a)) 2 432 (zA a 3) := by
  refine z_met (lv := [(0, .ref a), (1, .int 36)]) (by decide) rfl (Nat.le_of_ble_eq_true rfl) rfl (zD_of rfl (Nat.le_of_ble_eq_true rfl)) ?_
  intro p e s m args below meth c ls E hr hlk hin hw hl
  have hx := E.1.1
  have hb := E.1.2.1
  refine lv_aload_n hx hb dX0_init_0 rfl (lv_at hl 0 rfl) ?_
  refine W.objInit hx hb E.1.2.2.2.1 (E.1.2.2.2.2 _ (rL6 _ (List.mem_of_getElem? (i := 11) rfl))) (E.1.2.2.2.2 _ (rL1 _ (List.mem_of_getElem? (i := 11) rfl))) (E.1.2.2.2.2 _ (rL1 _ (List.mem_of_getElem? (i := 12) rfl))) rfl (hl.1.trans E.1.2.2.1.symm) rfl dX0_init_1 (Nat.le_of_ble_eq_true rfl) (Nat.le_of_ble_eq_true rfl) ?_
  refine W.eq (g2 := F0 m 4 ls []) rfl ?_
  refine lv_aload_n hx hb dX0_init_4 rfl (lv_at hl 0 rfl) ?_
  refine lv_iload_n hx hb dX0_init_5 rfl (lv_at hl 1 rfl) ?_
  refine lv_bipush (v := 6) hx hb dX0_init_6 (by decide) ?_
  refine lv_imul hx hb dX0_init_8 ?_
  refine y_newa (a + 2) rfl (N' := 216) (a0 := (216, .inl (fun _ => 0))) E hw 0 rfl trivial rfl (rL3 _ (List.mem_of_getElem? (i := 3) rfl)) (fun _ => rfl) (by decide) (by decide) (by decide) ⟨by omega, by omega⟩ (Nat.le_of_ble_eq_true rfl) (Nat.le_of_ble_eq_true rfl) dX0_init_9 (fun H hw => ?_)
  refine y_putF [.ref (a + 1), .null] rfl E hw fz_X0_9 rfl hin rfl rfl rfl (Nat.le_of_ble_eq_true rfl) dX0_init_11 (fun H locs hw => ?_)
  refine lv_aload_n hx hb dX0_init_14 rfl (lv_at hl 0 rfl) ?_
  refine lv_iload_n hx hb dX0_init_15 rfl (lv_at hl 1 rfl) ?_
  refine lv_bipush (v := 6) hx hb dX0_init_16 (by decide) ?_
  refine lv_imul hx hb dX0_init_18 ?_
  refine y_newa (a + 3) rfl (N' := 216) (a0 := (216, .inl (fun _ => 0))) E hw 0 rfl trivial rfl (rL3 _ (List.mem_of_getElem? (i := 3) rfl)) (fun _ => rfl) (by decide) (by decide) (by decide) ⟨by omega, by omega⟩ (Nat.le_of_ble_eq_true rfl) (Nat.le_of_ble_eq_true rfl) dX0_init_19 (fun H hw => ?_)
  refine y_putF [.ref (a + 1), .ref (a + 2)] rfl E hw fz_X0_15 rfl hin rfl rfl rfl (Nat.le_of_ble_eq_true rfl) dX0_init_21 (fun H locs hw => ?_)
  exact z_vret E hr hlk hw rfl dX0_init_24

def zW_X0_init_216 (cy : Nat → ClassId) (a : Nat) : va_W := (a, .inr (0, [.ref (a + 1), .ref (a + 2)])) :: ([] ++ [((a + 1), .inl (cy 0, 1296, .inl (fun _ => 0)))] ++ [((a + 2), .inl (cy 0, 1296, .inl (fun _ => 0)))])
theorem zD_X0_init_216 {cy : Nat → ClassId} {a : Nat} : va_D (zA a 3) (zW_X0_init_216 cy a) := zD_of rfl (Nat.le_of_ble_eq_true rfl)
set_option maxRecDepth 100000 in
set_option maxHeartbeats 4000000 in
theorem zc_X0_init_216 {l : Launch} {D : va_G} {cy : Nat → ClassId} {a : Nat} : Met l yX0_init (wU yX0_init cX0_init 2 none) (rmZ 1 2 2592) (PcZ D cy a [.ref a, .int 216] [(a, .inr (0, [.null, .null]))]) (QcZ D a 3 (zW_X0_init_216 cy a)) 2 2592 (zA a 3) := by
  refine z_met (lv := [(0, .ref a), (1, .int 216)]) (by decide) rfl (Nat.le_of_ble_eq_true rfl) rfl (zD_of rfl (Nat.le_of_ble_eq_true rfl)) ?_
  intro p e s m args below meth c ls E hr hlk hin hw hl
  have hx := E.1.1
  have hb := E.1.2.1
  refine lv_aload_n hx hb dX0_init_0 rfl (lv_at hl 0 rfl) ?_
  refine W.objInit hx hb E.1.2.2.2.1 (E.1.2.2.2.2 _ (rL6 _ (List.mem_of_getElem? (i := 11) rfl))) (E.1.2.2.2.2 _ (rL1 _ (List.mem_of_getElem? (i := 11) rfl))) (E.1.2.2.2.2 _ (rL1 _ (List.mem_of_getElem? (i := 12) rfl))) rfl (hl.1.trans E.1.2.2.1.symm) rfl dX0_init_1 (Nat.le_of_ble_eq_true rfl) (Nat.le_of_ble_eq_true rfl) ?_
  refine W.eq (g2 := F0 m 4 ls []) rfl ?_
  refine lv_aload_n hx hb dX0_init_4 rfl (lv_at hl 0 rfl) ?_
  refine lv_iload_n hx hb dX0_init_5 rfl (lv_at hl 1 rfl) ?_
  refine lv_bipush (v := 6) hx hb dX0_init_6 (by decide) ?_
  refine lv_imul hx hb dX0_init_8 ?_
  refine y_newa (a + 2) rfl (N' := 1296) (a0 := (1296, .inl (fun _ => 0))) E hw 0 rfl trivial rfl (rL3 _ (List.mem_of_getElem? (i := 3) rfl)) (fun _ => rfl) (by decide) (by decide) (by decide) ⟨by omega, by omega⟩ (Nat.le_of_ble_eq_true rfl) (Nat.le_of_ble_eq_true rfl) dX0_init_9 (fun H hw => ?_)
  refine y_putF [.ref (a + 1), .null] rfl E hw fz_X0_9 rfl hin rfl rfl rfl (Nat.le_of_ble_eq_true rfl) dX0_init_11 (fun H locs hw => ?_)
  refine lv_aload_n hx hb dX0_init_14 rfl (lv_at hl 0 rfl) ?_
  refine lv_iload_n hx hb dX0_init_15 rfl (lv_at hl 1 rfl) ?_
  refine lv_bipush (v := 6) hx hb dX0_init_16 (by decide) ?_
  refine lv_imul hx hb dX0_init_18 ?_
  refine y_newa (a + 3) rfl (N' := 1296) (a0 := (1296, .inl (fun _ => 0))) E hw 0 rfl trivial rfl (rL3 _ (List.mem_of_getElem? (i := 3) rfl)) (fun _ => rfl) (by decide) (by decide) (by decide) ⟨by omega, by omega⟩ (Nat.le_of_ble_eq_true rfl) (Nat.le_of_ble_eq_true rfl) dX0_init_19 (fun H hw => ?_)
  refine y_putF [.ref (a + 1), .ref (a + 2)] rfl E hw fz_X0_15 rfl hin rfl rfl rfl (Nat.le_of_ble_eq_true rfl) dX0_init_21 (fun H locs hw => ?_)
  exact z_vret E hr hlk hw rfl dX0_init_24

def zW_X0_init_4 (cy : Nat → ClassId) (a : Nat) : va_W := (a, .inr (0, [.ref (a + 1), .ref (a + 2)])) :: ([] ++ [((a + 1), .inl (cy 0, 24, .inl (fun _ => 0)))] ++ [((a + 2), .inl (cy 0, 24, .inl (fun _ => 0)))])
theorem zD_X0_init_4 {cy : Nat → ClassId} {a : Nat} : va_D (zA a 3) (zW_X0_init_4 cy a) := zD_of rfl (Nat.le_of_ble_eq_true rfl)
set_option maxRecDepth 100000 in
set_option maxHeartbeats 4000000 in
theorem zc_X0_init_4 {l : Launch} {D : va_G} {cy : Nat → ClassId} {a : Nat} : Met l yX0_init (wU yX0_init cX0_init 2 none) (rmZ 1 2 48) (PcZ D cy a [.ref a, .int 4] [(a, .inr (0, [.null, .null]))]) (QcZ D a 3 (zW_X0_init_4 cy a)) 2 48 (zA a 3) := by
  refine z_met (lv := [(0, .ref a), (1, .int 4)]) (by decide) rfl (Nat.le_of_ble_eq_true rfl) rfl (zD_of rfl (Nat.le_of_ble_eq_true rfl)) ?_
  intro p e s m args below meth c ls E hr hlk hin hw hl
  have hx := E.1.1
  have hb := E.1.2.1
  refine lv_aload_n hx hb dX0_init_0 rfl (lv_at hl 0 rfl) ?_
  refine W.objInit hx hb E.1.2.2.2.1 (E.1.2.2.2.2 _ (rL6 _ (List.mem_of_getElem? (i := 11) rfl))) (E.1.2.2.2.2 _ (rL1 _ (List.mem_of_getElem? (i := 11) rfl))) (E.1.2.2.2.2 _ (rL1 _ (List.mem_of_getElem? (i := 12) rfl))) rfl (hl.1.trans E.1.2.2.1.symm) rfl dX0_init_1 (Nat.le_of_ble_eq_true rfl) (Nat.le_of_ble_eq_true rfl) ?_
  refine W.eq (g2 := F0 m 4 ls []) rfl ?_
  refine lv_aload_n hx hb dX0_init_4 rfl (lv_at hl 0 rfl) ?_
  refine lv_iload_n hx hb dX0_init_5 rfl (lv_at hl 1 rfl) ?_
  refine lv_bipush (v := 6) hx hb dX0_init_6 (by decide) ?_
  refine lv_imul hx hb dX0_init_8 ?_
  refine y_newa (a + 2) rfl (N' := 24) (a0 := (24, .inl (fun _ => 0))) E hw 0 rfl trivial rfl (rL3 _ (List.mem_of_getElem? (i := 3) rfl)) (fun _ => rfl) (by decide) (by decide) (by decide) ⟨by omega, by omega⟩ (Nat.le_of_ble_eq_true rfl) (Nat.le_of_ble_eq_true rfl) dX0_init_9 (fun H hw => ?_)
  refine y_putF [.ref (a + 1), .null] rfl E hw fz_X0_9 rfl hin rfl rfl rfl (Nat.le_of_ble_eq_true rfl) dX0_init_11 (fun H locs hw => ?_)
  refine lv_aload_n hx hb dX0_init_14 rfl (lv_at hl 0 rfl) ?_
  refine lv_iload_n hx hb dX0_init_15 rfl (lv_at hl 1 rfl) ?_
  refine lv_bipush (v := 6) hx hb dX0_init_16 (by decide) ?_
  refine lv_imul hx hb dX0_init_18 ?_
  refine y_newa (a + 3) rfl (N' := 24) (a0 := (24, .inl (fun _ => 0))) E hw 0 rfl trivial rfl (rL3 _ (List.mem_of_getElem? (i := 3) rfl)) (fun _ => rfl) (by decide) (by decide) (by decide) ⟨by omega, by omega⟩ (Nat.le_of_ble_eq_true rfl) (Nat.le_of_ble_eq_true rfl) dX0_init_19 (fun H hw => ?_)
  refine y_putF [.ref (a + 1), .ref (a + 2)] rfl E hw fz_X0_15 rfl hin rfl rfl rfl (Nat.le_of_ble_eq_true rfl) dX0_init_21 (fun H locs hw => ?_)
  exact z_vret E hr hlk hw rfl dX0_init_24

def zW_X0_init_1 (cy : Nat → ClassId) (a : Nat) : va_W := (a, .inr (0, [.ref (a + 1), .ref (a + 2)])) :: ([] ++ [((a + 1), .inl (cy 0, 6, .inl (fun _ => 0)))] ++ [((a + 2), .inl (cy 0, 6, .inl (fun _ => 0)))])
theorem zD_X0_init_1 {cy : Nat → ClassId} {a : Nat} : va_D (zA a 3) (zW_X0_init_1 cy a) := zD_of rfl (Nat.le_of_ble_eq_true rfl)
set_option maxRecDepth 100000 in
set_option maxHeartbeats 4000000 in
theorem zc_X0_init_1 {l : Launch} {D : va_G} {cy : Nat → ClassId} {a : Nat} : Met l yX0_init (wU yX0_init cX0_init 2 none) (rmZ 1 2 12) (PcZ D cy a [.ref a, .int 1] [(a, .inr (0, [.null, .null]))]) (QcZ D a 3 (zW_X0_init_1 cy a)) 2 12 (zA a 3) := by
  refine z_met (lv := [(0, .ref a), (1, .int 1)]) (by decide) rfl (Nat.le_of_ble_eq_true rfl) rfl (zD_of rfl (Nat.le_of_ble_eq_true rfl)) ?_
  intro p e s m args below meth c ls E hr hlk hin hw hl
  have hx := E.1.1
  have hb := E.1.2.1
  refine lv_aload_n hx hb dX0_init_0 rfl (lv_at hl 0 rfl) ?_
  refine W.objInit hx hb E.1.2.2.2.1 (E.1.2.2.2.2 _ (rL6 _ (List.mem_of_getElem? (i := 11) rfl))) (E.1.2.2.2.2 _ (rL1 _ (List.mem_of_getElem? (i := 11) rfl))) (E.1.2.2.2.2 _ (rL1 _ (List.mem_of_getElem? (i := 12) rfl))) rfl (hl.1.trans E.1.2.2.1.symm) rfl dX0_init_1 (Nat.le_of_ble_eq_true rfl) (Nat.le_of_ble_eq_true rfl) ?_
  refine W.eq (g2 := F0 m 4 ls []) rfl ?_
  refine lv_aload_n hx hb dX0_init_4 rfl (lv_at hl 0 rfl) ?_
  refine lv_iload_n hx hb dX0_init_5 rfl (lv_at hl 1 rfl) ?_
  refine lv_bipush (v := 6) hx hb dX0_init_6 (by decide) ?_
  refine lv_imul hx hb dX0_init_8 ?_
  refine y_newa (a + 2) rfl (N' := 6) (a0 := (6, .inl (fun _ => 0))) E hw 0 rfl trivial rfl (rL3 _ (List.mem_of_getElem? (i := 3) rfl)) (fun _ => rfl) (by decide) (by decide) (by decide) ⟨by omega, by omega⟩ (Nat.le_of_ble_eq_true rfl) (Nat.le_of_ble_eq_true rfl) dX0_init_9 (fun H hw => ?_)
  refine y_putF [.ref (a + 1), .null] rfl E hw fz_X0_9 rfl hin rfl rfl rfl (Nat.le_of_ble_eq_true rfl) dX0_init_11 (fun H locs hw => ?_)
  refine lv_aload_n hx hb dX0_init_14 rfl (lv_at hl 0 rfl) ?_
  refine lv_iload_n hx hb dX0_init_15 rfl (lv_at hl 1 rfl) ?_
  refine lv_bipush (v := 6) hx hb dX0_init_16 (by decide) ?_
  refine lv_imul hx hb dX0_init_18 ?_
  refine y_newa (a + 3) rfl (N' := 6) (a0 := (6, .inl (fun _ => 0))) E hw 0 rfl trivial rfl (rL3 _ (List.mem_of_getElem? (i := 3) rfl)) (fun _ => rfl) (by decide) (by decide) (by decide) ⟨by omega, by omega⟩ (Nat.le_of_ble_eq_true rfl) (Nat.le_of_ble_eq_true rfl) dX0_init_19 (fun H hw => ?_)
  refine y_putF [.ref (a + 1), .ref (a + 2)] rfl E hw fz_X0_15 rfl hin rfl rfl rfl (Nat.le_of_ble_eq_true rfl) dX0_init_21 (fun H locs hw => ?_)
  exact z_vret E hr hlk hw rfl dX0_init_24

def zW_X0_init_64 (cy : Nat → ClassId) (a : Nat) : va_W := (a, .inr (0, [.ref (a + 1), .ref (a + 2)])) :: ([] ++ [((a + 1), .inl (cy 0, 384, .inl (fun _ => 0)))] ++ [((a + 2), .inl (cy 0, 384, .inl (fun _ => 0)))])
theorem zD_X0_init_64 {cy : Nat → ClassId} {a : Nat} : va_D (zA a 3) (zW_X0_init_64 cy a) := zD_of rfl (Nat.le_of_ble_eq_true rfl)
set_option maxRecDepth 100000 in
set_option maxHeartbeats 4000000 in
theorem zc_X0_init_64 {l : Launch} {D : va_G} {cy : Nat → ClassId} {a : Nat} : Met l yX0_init (wU yX0_init cX0_init 2 none) (rmZ 1 2 768) (PcZ D cy a [.ref a, .int 64] [(a, .inr (0, [.null, .null]))]) (QcZ D a 3 (zW_X0_init_64 cy a)) 2 768 (zA a 3) := by
  refine z_met (lv := [(0, .ref a), (1, .int 64)]) (by decide) rfl (Nat.le_of_ble_eq_true rfl) rfl (zD_of rfl (Nat.le_of_ble_eq_true rfl)) ?_
  intro p e s m args below meth c ls E hr hlk hin hw hl
  have hx := E.1.1
  have hb := E.1.2.1
  refine lv_aload_n hx hb dX0_init_0 rfl (lv_at hl 0 rfl) ?_
  refine W.objInit hx hb E.1.2.2.2.1 (E.1.2.2.2.2 _ (rL6 _ (List.mem_of_getElem? (i := 11) rfl))) (E.1.2.2.2.2 _ (rL1 _ (List.mem_of_getElem? (i := 11) rfl))) (E.1.2.2.2.2 _ (rL1 _ (List.mem_of_getElem? (i := 12) rfl))) rfl (hl.1.trans E.1.2.2.1.symm) rfl dX0_init_1 (Nat.le_of_ble_eq_true rfl) (Nat.le_of_ble_eq_true rfl) ?_
  refine W.eq (g2 := F0 m 4 ls []) rfl ?_
  refine lv_aload_n hx hb dX0_init_4 rfl (lv_at hl 0 rfl) ?_
  refine lv_iload_n hx hb dX0_init_5 rfl (lv_at hl 1 rfl) ?_
  refine lv_bipush (v := 6) hx hb dX0_init_6 (by decide) ?_
  refine lv_imul hx hb dX0_init_8 ?_
  refine y_newa (a + 2) rfl (N' := 384) (a0 := (384, .inl (fun _ => 0))) E hw 0 rfl trivial rfl (rL3 _ (List.mem_of_getElem? (i := 3) rfl)) (fun _ => rfl) (by decide) (by decide) (by decide) ⟨by omega, by omega⟩ (Nat.le_of_ble_eq_true rfl) (Nat.le_of_ble_eq_true rfl) dX0_init_9 (fun H hw => ?_)
  refine y_putF [.ref (a + 1), .null] rfl E hw fz_X0_9 rfl hin rfl rfl rfl (Nat.le_of_ble_eq_true rfl) dX0_init_11 (fun H locs hw => ?_)
  refine lv_aload_n hx hb dX0_init_14 rfl (lv_at hl 0 rfl) ?_
  refine lv_iload_n hx hb dX0_init_15 rfl (lv_at hl 1 rfl) ?_
  refine lv_bipush (v := 6) hx hb dX0_init_16 (by decide) ?_
  refine lv_imul hx hb dX0_init_18 ?_
  refine y_newa (a + 3) rfl (N' := 384) (a0 := (384, .inl (fun _ => 0))) E hw 0 rfl trivial rfl (rL3 _ (List.mem_of_getElem? (i := 3) rfl)) (fun _ => rfl) (by decide) (by decide) (by decide) ⟨by omega, by omega⟩ (Nat.le_of_ble_eq_true rfl) (Nat.le_of_ble_eq_true rfl) dX0_init_19 (fun H hw => ?_)
  refine y_putF [.ref (a + 1), .ref (a + 2)] rfl E hw fz_X0_15 rfl hin rfl rfl rfl (Nat.le_of_ble_eq_true rfl) dX0_init_21 (fun H locs hw => ?_)
  exact z_vret E hr hlk hw rfl dX0_init_24

def zW_X2_init (cy : Nat → ClassId) (a : Nat) : va_W := (a, .inr (2, [.ref (a + 1), .ref (a + 2), .ref (a + 3), .ref (a + 4), .ref (a + 5), .ref (a + 6), .int 0, .int 0, .int 0])) :: ([] ++ [((a + 1), .inl (cy 0, 60, .inl (fun _ => 0)))] ++ [((a + 2), .inl (cy 0, 60, .inl (fun _ => 0)))] ++ [((a + 3), .inl (cy 0, 60, .inl (fun _ => 0)))] ++ [((a + 4), .inl (cy 0, 60, .inl (fun _ => 0)))] ++ [((a + 5), .inl (cy 0, 60, .inl (fun _ => 0)))] ++ [((a + 6), .inl (cy 0, 60, .inl (fun _ => 0)))])
theorem zD_X2_init {cy : Nat → ClassId} {a : Nat} : va_D (zA a 7) (zW_X2_init cy a) := zD_of rfl (Nat.le_of_ble_eq_true rfl)
set_option maxRecDepth 100000 in
set_option maxHeartbeats 4000000 in
theorem zc_X2_init {l : Launch} {D : va_G} {cy : Nat → ClassId} {a : Nat} : Met l yX2_init (wU yX2_init cX2_init 1 none) (rmZ 1 6 360) (PcZ D cy a [.ref a] [(a, .inr (2, [.null, .null, .null, .null, .null, .null, .int 0, .int 0, .int 0]))]) (QcZ D a 7 (zW_X2_init cy a)) 6 360 (zA a 7) := by
  refine z_met (lv := [(0, .ref a)]) (by decide) rfl (Nat.le_of_ble_eq_true rfl) rfl (zD_of rfl (Nat.le_of_ble_eq_true rfl)) ?_
  intro p e s m args below meth c ls E hr hlk hin hw hl
  have hx := E.1.1
  have hb := E.1.2.1
  refine lv_aload_n hx hb dX2_init_0 rfl (lv_at hl 0 rfl) ?_
  refine W.objInit hx hb E.1.2.2.2.1 (E.1.2.2.2.2 _ (rL5 _ (List.mem_of_getElem? (i := 22) rfl))) (E.1.2.2.2.2 _ (rL1 _ (List.mem_of_getElem? (i := 11) rfl))) (E.1.2.2.2.2 _ (rL1 _ (List.mem_of_getElem? (i := 12) rfl))) rfl (hl.1.trans E.1.2.2.1.symm) rfl dX2_init_1 (Nat.le_of_ble_eq_true rfl) (Nat.le_of_ble_eq_true rfl) ?_
  refine W.eq (g2 := F0 m 4 ls []) rfl ?_
  refine lv_aload_n hx hb dX2_init_4 rfl (lv_at hl 0 rfl) ?_
  refine lv_bipush (v := 60) hx hb dX2_init_5 (by decide) ?_
  refine y_newa (a + 2) rfl (N' := 60) (a0 := (60, .inl (fun _ => 0))) E hw 0 rfl trivial rfl (rL3 _ (List.mem_of_getElem? (i := 3) rfl)) (fun _ => rfl) (by decide) (by decide) (by decide) ⟨by omega, by omega⟩ (Nat.le_of_ble_eq_true rfl) (Nat.le_of_ble_eq_true rfl) dX2_init_7 (fun H hw => ?_)
  refine y_putF [.ref (a + 1), .null, .null, .null, .null, .null, .int 0, .int 0, .int 0] rfl E hw fz_X2_9 rfl hin rfl rfl rfl (Nat.le_of_ble_eq_true rfl) dX2_init_9 (fun H locs hw => ?_)
  refine lv_aload_n hx hb dX2_init_12 rfl (lv_at hl 0 rfl) ?_
  refine lv_bipush (v := 60) hx hb dX2_init_13 (by decide) ?_
  refine y_newa (a + 3) rfl (N' := 60) (a0 := (60, .inl (fun _ => 0))) E hw 0 rfl trivial rfl (rL3 _ (List.mem_of_getElem? (i := 3) rfl)) (fun _ => rfl) (by decide) (by decide) (by decide) ⟨by omega, by omega⟩ (Nat.le_of_ble_eq_true rfl) (Nat.le_of_ble_eq_true rfl) dX2_init_15 (fun H hw => ?_)
  refine y_putF [.ref (a + 1), .ref (a + 2), .null, .null, .null, .null, .int 0, .int 0, .int 0] rfl E hw fz_X2_13 rfl hin rfl rfl rfl (Nat.le_of_ble_eq_true rfl) dX2_init_17 (fun H locs hw => ?_)
  refine lv_aload_n hx hb dX2_init_20 rfl (lv_at hl 0 rfl) ?_
  refine lv_bipush (v := 60) hx hb dX2_init_21 (by decide) ?_
  refine y_newa (a + 4) rfl (N' := 60) (a0 := (60, .inl (fun _ => 0))) E hw 0 rfl trivial rfl (rL3 _ (List.mem_of_getElem? (i := 3) rfl)) (fun _ => rfl) (by decide) (by decide) (by decide) ⟨by omega, by omega⟩ (Nat.le_of_ble_eq_true rfl) (Nat.le_of_ble_eq_true rfl) dX2_init_23 (fun H hw => ?_)
  refine y_putF [.ref (a + 1), .ref (a + 2), .ref (a + 3), .null, .null, .null, .int 0, .int 0, .int 0] rfl E hw fz_X2_16 rfl hin rfl rfl rfl (Nat.le_of_ble_eq_true rfl) dX2_init_25 (fun H locs hw => ?_)
  refine lv_aload_n hx hb dX2_init_28 rfl (lv_at hl 0 rfl) ?_
  refine lv_bipush (v := 60) hx hb dX2_init_29 (by decide) ?_
  refine y_newa (a + 5) rfl (N' := 60) (a0 := (60, .inl (fun _ => 0))) E hw 0 rfl trivial rfl (rL3 _ (List.mem_of_getElem? (i := 3) rfl)) (fun _ => rfl) (by decide) (by decide) (by decide) ⟨by omega, by omega⟩ (Nat.le_of_ble_eq_true rfl) (Nat.le_of_ble_eq_true rfl) dX2_init_31 (fun H hw => ?_)
  refine y_putF [.ref (a + 1), .ref (a + 2), .ref (a + 3), .ref (a + 4), .null, .null, .int 0, .int 0, .int 0] rfl E hw fz_X2_19 rfl hin rfl rfl rfl (Nat.le_of_ble_eq_true rfl) dX2_init_33 (fun H locs hw => ?_)
  refine lv_aload_n hx hb dX2_init_36 rfl (lv_at hl 0 rfl) ?_
  refine lv_bipush (v := 60) hx hb dX2_init_37 (by decide) ?_
  refine y_newa (a + 6) rfl (N' := 60) (a0 := (60, .inl (fun _ => 0))) E hw 0 rfl trivial rfl (rL3 _ (List.mem_of_getElem? (i := 3) rfl)) (fun _ => rfl) (by decide) (by decide) (by decide) ⟨by omega, by omega⟩ (Nat.le_of_ble_eq_true rfl) (Nat.le_of_ble_eq_true rfl) dX2_init_39 (fun H hw => ?_)
  refine y_putF [.ref (a + 1), .ref (a + 2), .ref (a + 3), .ref (a + 4), .ref (a + 5), .null, .int 0, .int 0, .int 0] rfl E hw fz_X2_22 rfl hin rfl rfl rfl (Nat.le_of_ble_eq_true rfl) dX2_init_41 (fun H locs hw => ?_)
  refine lv_aload_n hx hb dX2_init_44 rfl (lv_at hl 0 rfl) ?_
  refine lv_bipush (v := 60) hx hb dX2_init_45 (by decide) ?_
  refine y_newa (a + 7) rfl (N' := 60) (a0 := (60, .inl (fun _ => 0))) E hw 0 rfl trivial rfl (rL3 _ (List.mem_of_getElem? (i := 3) rfl)) (fun _ => rfl) (by decide) (by decide) (by decide) ⟨by omega, by omega⟩ (Nat.le_of_ble_eq_true rfl) (Nat.le_of_ble_eq_true rfl) dX2_init_47 (fun H hw => ?_)
  refine y_putF [.ref (a + 1), .ref (a + 2), .ref (a + 3), .ref (a + 4), .ref (a + 5), .ref (a + 6), .int 0, .int 0, .int 0] rfl E hw fz_X2_25 rfl hin rfl rfl rfl (Nat.le_of_ble_eq_true rfl) dX2_init_49 (fun H locs hw => ?_)
  refine lv_aload_n hx hb dX2_init_52 rfl (lv_at hl 0 rfl) ?_
  refine lv_iconst (v := 0) hx hb dX2_init_53 (by decide) ?_
  refine y_put [.ref (a + 1), .ref (a + 2), .ref (a + 3), .ref (a + 4), .ref (a + 5), .ref (a + 6), .int 0, .int 0, .int 0] rfl E hw fz_X2_28 rfl rfl rfl (Nat.le_of_ble_eq_true rfl) dX2_init_54 (fun H locs hw => ?_)
  refine lv_aload_n hx hb dX2_init_57 rfl (lv_at hl 0 rfl) ?_
  refine lv_iconst (v := 0) hx hb dX2_init_58 (by decide) ?_
  refine y_put [.ref (a + 1), .ref (a + 2), .ref (a + 3), .ref (a + 4), .ref (a + 5), .ref (a + 6), .int 0, .int 0, .int 0] rfl E hw fz_X2_32 rfl rfl rfl (Nat.le_of_ble_eq_true rfl) dX2_init_59 (fun H locs hw => ?_)
  refine lv_aload_n hx hb dX2_init_62 rfl (lv_at hl 0 rfl) ?_
  refine lv_iconst (v := 0) hx hb dX2_init_63 (by decide) ?_
  refine y_put [.ref (a + 1), .ref (a + 2), .ref (a + 3), .ref (a + 4), .ref (a + 5), .ref (a + 6), .int 0, .int 0, .int 0] rfl E hw fz_X2_36 rfl rfl rfl (Nat.le_of_ble_eq_true rfl) dX2_init_64 (fun H locs hw => ?_)
  exact z_vret E hr hlk hw rfl dX2_init_67

def zW_X7_init (cy : Nat → ClassId) (a : Nat) : va_W := (a, .inr (7, [.ref (a + 1), .ref (a + 2), .ref (a + 3), .ref (a + 4), .ref (a + 5), .ref (a + 6), .int 0, .int 0, .int 0, .int 3, .int 1, .int 1])) :: ([] ++ [((a + 1), .inl (cy 0, 6, .inl (fun _ => 0)))] ++ [((a + 2), .inl (cy 1, 6, .inr (.inl (fun _ => 0))))] ++ [((a + 3), .inl (cy 0, 6, .inl (fun _ => 0)))] ++ [((a + 4), .inl (cy 1, 6, .inr (.inl (fun _ => 0))))] ++ [((a + 5), .inl (cy 0, 36, .inl (fun _ => 0)))] ++ [((a + 6), .inl (cy 0, 6, .inl (fun _ => 0)))])
theorem zD_X7_init {cy : Nat → ClassId} {a : Nat} : va_D (zA a 7) (zW_X7_init cy a) := zD_of rfl (Nat.le_of_ble_eq_true rfl)
set_option maxRecDepth 100000 in
set_option maxHeartbeats 4000000 in
theorem zc_X7_init {l : Launch} {D : va_G} {cy : Nat → ClassId} {a : Nat} : Met l yX7_init (wU yX7_init cX7_init 1 none) (rmZ 1 6 66) (PcZ D cy a [.ref a] [(a, .inr (7, [.null, .null, .null, .null, .null, .null, .int 0, .int 0, .int 0, .int 0, .int 0, .int 0]))]) (QcZ D a 7 (zW_X7_init cy a)) 6 66 (zA a 7) := by
  refine z_met (lv := [(0, .ref a)]) (by decide) rfl (Nat.le_of_ble_eq_true rfl) rfl (zD_of rfl (Nat.le_of_ble_eq_true rfl)) ?_
  intro p e s m args below meth c ls E hr hlk hin hw hl
  have hx := E.1.1
  have hb := E.1.2.1
  refine lv_aload_n hx hb dX7_init_0 rfl (lv_at hl 0 rfl) ?_
  refine W.objInit hx hb E.1.2.2.2.1 (E.1.2.2.2.2 _ (rL5 _ (List.mem_of_getElem? (i := 6) rfl))) (E.1.2.2.2.2 _ (rL1 _ (List.mem_of_getElem? (i := 11) rfl))) (E.1.2.2.2.2 _ (rL1 _ (List.mem_of_getElem? (i := 12) rfl))) rfl (hl.1.trans E.1.2.2.1.symm) rfl dX7_init_1 (Nat.le_of_ble_eq_true rfl) (Nat.le_of_ble_eq_true rfl) ?_
  refine W.eq (g2 := F0 m 4 ls []) rfl ?_
  refine lv_aload_n hx hb dX7_init_4 rfl (lv_at hl 0 rfl) ?_
  refine lv_bipush (v := 6) hx hb dX7_init_5 (by decide) ?_
  refine y_newa (a + 2) rfl (N' := 6) (a0 := (6, .inl (fun _ => 0))) E hw 0 rfl trivial rfl (rL3 _ (List.mem_of_getElem? (i := 3) rfl)) (fun _ => rfl) (by decide) (by decide) (by decide) ⟨by omega, by omega⟩ (Nat.le_of_ble_eq_true rfl) (Nat.le_of_ble_eq_true rfl) dX7_init_7 (fun H hw => ?_)
  refine y_putF [.ref (a + 1), .null, .null, .null, .null, .null, .int 0, .int 0, .int 0, .int 0, .int 0, .int 0] rfl E hw fz_X7_9 rfl hin rfl rfl rfl (Nat.le_of_ble_eq_true rfl) dX7_init_9 (fun H locs hw => ?_)
  refine lv_aload_n hx hb dX7_init_12 rfl (lv_at hl 0 rfl) ?_
  refine lv_bipush (v := 6) hx hb dX7_init_13 (by decide) ?_
  refine y_newa (a + 3) rfl (N' := 6) (a0 := (6, .inr (.inl (fun _ => 0)))) E hw 1 rfl trivial rfl (rL5 _ (List.mem_of_getElem? (i := 8) rfl)) (fun _ => rfl) (by decide) (by decide) (by decide) ⟨by omega, by omega⟩ (Nat.le_of_ble_eq_true rfl) (Nat.le_of_ble_eq_true rfl) dX7_init_15 (fun H hw => ?_)
  refine y_putF [.ref (a + 1), .ref (a + 2), .null, .null, .null, .null, .int 0, .int 0, .int 0, .int 0, .int 0, .int 0] rfl E hw fz_X7_15 rfl hin rfl rfl rfl (Nat.le_of_ble_eq_true rfl) dX7_init_17 (fun H locs hw => ?_)
  refine lv_aload_n hx hb dX7_init_20 rfl (lv_at hl 0 rfl) ?_
  refine lv_bipush (v := 6) hx hb dX7_init_21 (by decide) ?_
  refine y_newa (a + 4) rfl (N' := 6) (a0 := (6, .inl (fun _ => 0))) E hw 0 rfl trivial rfl (rL3 _ (List.mem_of_getElem? (i := 3) rfl)) (fun _ => rfl) (by decide) (by decide) (by decide) ⟨by omega, by omega⟩ (Nat.le_of_ble_eq_true rfl) (Nat.le_of_ble_eq_true rfl) dX7_init_23 (fun H hw => ?_)
  refine y_putF [.ref (a + 1), .ref (a + 2), .ref (a + 3), .null, .null, .null, .int 0, .int 0, .int 0, .int 0, .int 0, .int 0] rfl E hw fz_X7_19 rfl hin rfl rfl rfl (Nat.le_of_ble_eq_true rfl) dX7_init_25 (fun H locs hw => ?_)
  refine lv_aload_n hx hb dX7_init_28 rfl (lv_at hl 0 rfl) ?_
  refine lv_bipush (v := 6) hx hb dX7_init_29 (by decide) ?_
  refine y_newa (a + 5) rfl (N' := 6) (a0 := (6, .inr (.inl (fun _ => 0)))) E hw 1 rfl trivial rfl (rL5 _ (List.mem_of_getElem? (i := 8) rfl)) (fun _ => rfl) (by decide) (by decide) (by decide) ⟨by omega, by omega⟩ (Nat.le_of_ble_eq_true rfl) (Nat.le_of_ble_eq_true rfl) dX7_init_31 (fun H hw => ?_)
  refine y_putF [.ref (a + 1), .ref (a + 2), .ref (a + 3), .ref (a + 4), .null, .null, .int 0, .int 0, .int 0, .int 0, .int 0, .int 0] rfl E hw fz_X7_22 rfl hin rfl rfl rfl (Nat.le_of_ble_eq_true rfl) dX7_init_33 (fun H locs hw => ?_)
  refine lv_aload_n hx hb dX7_init_36 rfl (lv_at hl 0 rfl) ?_
  refine lv_bipush (v := 36) hx hb dX7_init_37 (by decide) ?_
  refine y_newa (a + 6) rfl (N' := 36) (a0 := (36, .inl (fun _ => 0))) E hw 0 rfl trivial rfl (rL3 _ (List.mem_of_getElem? (i := 3) rfl)) (fun _ => rfl) (by decide) (by decide) (by decide) ⟨by omega, by omega⟩ (Nat.le_of_ble_eq_true rfl) (Nat.le_of_ble_eq_true rfl) dX7_init_39 (fun H hw => ?_)
  refine y_putF [.ref (a + 1), .ref (a + 2), .ref (a + 3), .ref (a + 4), .ref (a + 5), .null, .int 0, .int 0, .int 0, .int 0, .int 0, .int 0] rfl E hw fz_X7_25 rfl hin rfl rfl rfl (Nat.le_of_ble_eq_true rfl) dX7_init_41 (fun H locs hw => ?_)
  refine lv_aload_n hx hb dX7_init_44 rfl (lv_at hl 0 rfl) ?_
  refine lv_bipush (v := 6) hx hb dX7_init_45 (by decide) ?_
  refine y_newa (a + 7) rfl (N' := 6) (a0 := (6, .inl (fun _ => 0))) E hw 0 rfl trivial rfl (rL3 _ (List.mem_of_getElem? (i := 3) rfl)) (fun _ => rfl) (by decide) (by decide) (by decide) ⟨by omega, by omega⟩ (Nat.le_of_ble_eq_true rfl) (Nat.le_of_ble_eq_true rfl) dX7_init_47 (fun H hw => ?_)
  refine y_putF [.ref (a + 1), .ref (a + 2), .ref (a + 3), .ref (a + 4), .ref (a + 5), .ref (a + 6), .int 0, .int 0, .int 0, .int 0, .int 0, .int 0] rfl E hw fz_X7_28 rfl hin rfl rfl rfl (Nat.le_of_ble_eq_true rfl) dX7_init_49 (fun H locs hw => ?_)
  refine lv_aload_n hx hb dX7_init_52 rfl (lv_at hl 0 rfl) ?_
  refine lv_iconst (v := 0) hx hb dX7_init_53 (by decide) ?_
  refine y_put [.ref (a + 1), .ref (a + 2), .ref (a + 3), .ref (a + 4), .ref (a + 5), .ref (a + 6), .int 0, .int 0, .int 0, .int 0, .int 0, .int 0] rfl E hw fz_X7_31 rfl rfl rfl (Nat.le_of_ble_eq_true rfl) dX7_init_54 (fun H locs hw => ?_)
  refine lv_aload_n hx hb dX7_init_57 rfl (lv_at hl 0 rfl) ?_
  refine lv_iconst (v := 0) hx hb dX7_init_58 (by decide) ?_
  refine y_put [.ref (a + 1), .ref (a + 2), .ref (a + 3), .ref (a + 4), .ref (a + 5), .ref (a + 6), .int 0, .int 0, .int 0, .int 0, .int 0, .int 0] rfl E hw fz_X7_35 rfl rfl rfl (Nat.le_of_ble_eq_true rfl) dX7_init_59 (fun H locs hw => ?_)
  refine lv_aload_n hx hb dX7_init_62 rfl (lv_at hl 0 rfl) ?_
  refine lv_iconst (v := 0) hx hb dX7_init_63 (by decide) ?_
  refine y_put [.ref (a + 1), .ref (a + 2), .ref (a + 3), .ref (a + 4), .ref (a + 5), .ref (a + 6), .int 0, .int 0, .int 0, .int 0, .int 0, .int 0] rfl E hw fz_X7_38 rfl rfl rfl (Nat.le_of_ble_eq_true rfl) dX7_init_64 (fun H locs hw => ?_)
  refine lv_aload_n hx hb dX7_init_67 rfl (lv_at hl 0 rfl) ?_
  refine lv_iconst (v := 3) hx hb dX7_init_68 (by decide) ?_
  refine y_put [.ref (a + 1), .ref (a + 2), .ref (a + 3), .ref (a + 4), .ref (a + 5), .ref (a + 6), .int 0, .int 0, .int 0, .int 3, .int 0, .int 0] rfl E hw fz_X7_41 rfl rfl rfl (Nat.le_of_ble_eq_true rfl) dX7_init_69 (fun H locs hw => ?_)
  refine lv_aload_n hx hb dX7_init_72 rfl (lv_at hl 0 rfl) ?_
  refine lv_iconst (v := 1) hx hb dX7_init_73 (by decide) ?_
  refine y_put [.ref (a + 1), .ref (a + 2), .ref (a + 3), .ref (a + 4), .ref (a + 5), .ref (a + 6), .int 0, .int 0, .int 0, .int 3, .int 1, .int 0] rfl E hw fz_X7_44 rfl rfl rfl (Nat.le_of_ble_eq_true rfl) dX7_init_74 (fun H locs hw => ?_)
  refine lv_aload_n hx hb dX7_init_77 rfl (lv_at hl 0 rfl) ?_
  refine lv_iconst (v := 1) hx hb dX7_init_78 (by decide) ?_
  refine y_put [.ref (a + 1), .ref (a + 2), .ref (a + 3), .ref (a + 4), .ref (a + 5), .ref (a + 6), .int 0, .int 0, .int 0, .int 3, .int 1, .int 1] rfl E hw fz_X7_47 rfl rfl rfl (Nat.le_of_ble_eq_true rfl) dX7_init_79 (fun H locs hw => ?_)
  exact z_vret E hr hlk hw rfl dX7_init_82

def zW_X6_init (cy : Nat → ClassId) (a : Nat) : va_W := (a, .inr (6, [.ref (a + 1), .int 0, .int (-1), .int (-1), .int 0, .int 0, .int 0, .int 0, .int (-1), .long (-1), .int 0, .int 0])) :: ([] ++ [((a + 1), .inl (cy 0, 900, .inl (fun _ => 0)))])
theorem zD_X6_init {cy : Nat → ClassId} {a : Nat} : va_D (zA a 2) (zW_X6_init cy a) := zD_of rfl (Nat.le_of_ble_eq_true rfl)
set_option maxRecDepth 100000 in
set_option maxHeartbeats 4000000 in
theorem zc_X6_init {l : Launch} {D : va_G} {cy : Nat → ClassId} {a : Nat} : Met l yX6_init (wU yX6_init cX6_init 1 none) (rmZ 1 1 900) (PcZ D cy a [.ref a] [(a, .inr (6, [.null, .int 0, .int 0, .int 0, .int 0, .int 0, .int 0, .int 0, .int 0, .long 0, .int 0, .int 0]))]) (QcZ D a 2 (zW_X6_init cy a)) 1 900 (zA a 2) := by
  refine z_met (lv := [(0, .ref a)]) (by decide) rfl (Nat.le_of_ble_eq_true rfl) rfl (zD_of rfl (Nat.le_of_ble_eq_true rfl)) ?_
  intro p e s m args below meth c ls E hr hlk hin hw hl
  have hx := E.1.1
  have hb := E.1.2.1
  refine lv_aload_n hx hb dX6_init_0 rfl (lv_at hl 0 rfl) ?_
  refine W.objInit hx hb E.1.2.2.2.1 (E.1.2.2.2.2 _ (rL3 _ (List.mem_of_getElem? (i := 16) rfl))) (E.1.2.2.2.2 _ (rL1 _ (List.mem_of_getElem? (i := 11) rfl))) (E.1.2.2.2.2 _ (rL1 _ (List.mem_of_getElem? (i := 12) rfl))) rfl (hl.1.trans E.1.2.2.1.symm) rfl dX6_init_1 (Nat.le_of_ble_eq_true rfl) (Nat.le_of_ble_eq_true rfl) ?_
  refine W.eq (g2 := F0 m 4 ls []) rfl ?_
  refine lv_aload_n hx hb dX6_init_4 rfl (lv_at hl 0 rfl) ?_
  refine lv_sipush (v := 900) hx hb dX6_init_5 (by decide) ?_
  refine y_newa (a + 2) rfl (N' := 900) (a0 := (900, .inl (fun _ => 0))) E hw 0 rfl trivial rfl (rL3 _ (List.mem_of_getElem? (i := 3) rfl)) (fun _ => rfl) (by decide) (by decide) (by decide) ⟨by omega, by omega⟩ (Nat.le_of_ble_eq_true rfl) (Nat.le_of_ble_eq_true rfl) dX6_init_8 (fun H hw => ?_)
  refine y_putF [.ref (a + 1), .int 0, .int 0, .int 0, .int 0, .int 0, .int 0, .int 0, .int 0, .long 0, .int 0, .int 0] rfl E hw fz_X6_9 rfl hin rfl rfl rfl (Nat.le_of_ble_eq_true rfl) dX6_init_10 (fun H locs hw => ?_)
  refine lv_aload_n hx hb dX6_init_13 rfl (lv_at hl 0 rfl) ?_
  refine lv_iconst (v := 0) hx hb dX6_init_14 (by decide) ?_
  refine y_put [.ref (a + 1), .int 0, .int 0, .int 0, .int 0, .int 0, .int 0, .int 0, .int 0, .long 0, .int 0, .int 0] rfl E hw fz_X6_15 rfl rfl rfl (Nat.le_of_ble_eq_true rfl) dX6_init_15 (fun H locs hw => ?_)
  refine lv_aload_n hx hb dX6_init_18 rfl (lv_at hl 0 rfl) ?_
  refine lv_iconst (v := (-1)) hx hb dX6_init_19 (by decide) ?_
  refine y_put [.ref (a + 1), .int 0, .int (-1), .int 0, .int 0, .int 0, .int 0, .int 0, .int 0, .long 0, .int 0, .int 0] rfl E hw fz_X6_19 rfl rfl rfl (Nat.le_of_ble_eq_true rfl) dX6_init_20 (fun H locs hw => ?_)
  refine lv_aload_n hx hb dX6_init_23 rfl (lv_at hl 0 rfl) ?_
  refine lv_iconst (v := (-1)) hx hb dX6_init_24 (by decide) ?_
  refine y_put [.ref (a + 1), .int 0, .int (-1), .int (-1), .int 0, .int 0, .int 0, .int 0, .int 0, .long 0, .int 0, .int 0] rfl E hw fz_X6_22 rfl rfl rfl (Nat.le_of_ble_eq_true rfl) dX6_init_25 (fun H locs hw => ?_)
  refine lv_aload_n hx hb dX6_init_28 rfl (lv_at hl 0 rfl) ?_
  refine lv_iconst (v := 0) hx hb dX6_init_29 (by decide) ?_
  refine y_put [.ref (a + 1), .int 0, .int (-1), .int (-1), .int 0, .int 0, .int 0, .int 0, .int 0, .long 0, .int 0, .int 0] rfl E hw fz_X6_25 rfl rfl rfl (Nat.le_of_ble_eq_true rfl) dX6_init_30 (fun H locs hw => ?_)
  refine lv_aload_n hx hb dX6_init_33 rfl (lv_at hl 0 rfl) ?_
  refine lv_iconst (v := 0) hx hb dX6_init_34 (by decide) ?_
  refine y_put [.ref (a + 1), .int 0, .int (-1), .int (-1), .int 0, .int 0, .int 0, .int 0, .int 0, .long 0, .int 0, .int 0] rfl E hw fz_X6_28 rfl rfl rfl (Nat.le_of_ble_eq_true rfl) dX6_init_35 (fun H locs hw => ?_)
  refine lv_aload_n hx hb dX6_init_38 rfl (lv_at hl 0 rfl) ?_
  refine lv_iconst (v := 0) hx hb dX6_init_39 (by decide) ?_
  refine y_put [.ref (a + 1), .int 0, .int (-1), .int (-1), .int 0, .int 0, .int 0, .int 0, .int 0, .long 0, .int 0, .int 0] rfl E hw fz_X6_31 rfl rfl rfl (Nat.le_of_ble_eq_true rfl) dX6_init_40 (fun H locs hw => ?_)
  refine lv_aload_n hx hb dX6_init_43 rfl (lv_at hl 0 rfl) ?_
  refine lv_iconst (v := 0) hx hb dX6_init_44 (by decide) ?_
  refine y_put [.ref (a + 1), .int 0, .int (-1), .int (-1), .int 0, .int 0, .int 0, .int 0, .int 0, .long 0, .int 0, .int 0] rfl E hw fz_X6_34 rfl rfl rfl (Nat.le_of_ble_eq_true rfl) dX6_init_45 (fun H locs hw => ?_)
  refine lv_aload_n hx hb dX6_init_48 rfl (lv_at hl 0 rfl) ?_
  refine lv_iconst (v := (-1)) hx hb dX6_init_49 (by decide) ?_
  refine y_put [.ref (a + 1), .int 0, .int (-1), .int (-1), .int 0, .int 0, .int 0, .int 0, .int (-1), .long 0, .int 0, .int 0] rfl E hw fz_X6_37 rfl rfl rfl (Nat.le_of_ble_eq_true rfl) dX6_init_50 (fun H locs hw => ?_)
  refine lv_aload_n hx hb dX6_init_53 rfl (lv_at hl 0 rfl) ?_
  refine lv_ldc2 hx hb E.1.2.2.2.1 (E.1.2.2.2.2 _ (rL4 _ (List.mem_of_getElem? (i := 2) rfl))) dX6_init_54 ?_
  refine y_put [.ref (a + 1), .int 0, .int (-1), .int (-1), .int 0, .int 0, .int 0, .int 0, .int (-1), .long (-1), .int 0, .int 0] rfl E hw fz_X6_42 rfl rfl rfl (Nat.le_of_ble_eq_true rfl) dX6_init_57 (fun H locs hw => ?_)
  refine lv_aload_n hx hb dX6_init_60 rfl (lv_at hl 0 rfl) ?_
  refine lv_iconst (v := 0) hx hb dX6_init_61 (by decide) ?_
  refine y_put [.ref (a + 1), .int 0, .int (-1), .int (-1), .int 0, .int 0, .int 0, .int 0, .int (-1), .long (-1), .int 0, .int 0] rfl E hw fz_X6_46 rfl rfl rfl (Nat.le_of_ble_eq_true rfl) dX6_init_62 (fun H locs hw => ?_)
  refine lv_aload_n hx hb dX6_init_65 rfl (lv_at hl 0 rfl) ?_
  refine lv_iconst (v := 0) hx hb dX6_init_66 (by decide) ?_
  refine y_put [.ref (a + 1), .int 0, .int (-1), .int (-1), .int 0, .int 0, .int 0, .int 0, .int (-1), .long (-1), .int 0, .int 0] rfl E hw fz_X6_49 rfl rfl rfl (Nat.le_of_ble_eq_true rfl) dX6_init_67 (fun H locs hw => ?_)
  exact z_vret E hr hlk hw rfl dX6_init_70

def zW_X9_init (cy : Nat → ClassId) (a : Nat) : va_W := (a, .inr (9, [.ref (a + 1), .int 0, .int 0, .int 0])) :: ([] ++ [((a + 1), .inl (cy 1, 60, .inr (.inl (fun _ => 0))))])
theorem zD_X9_init {cy : Nat → ClassId} {a : Nat} : va_D (zA a 2) (zW_X9_init cy a) := zD_of rfl (Nat.le_of_ble_eq_true rfl)
set_option maxRecDepth 100000 in
set_option maxHeartbeats 4000000 in
theorem zc_X9_init {l : Launch} {D : va_G} {cy : Nat → ClassId} {a : Nat} : Met l yX9_init (wU yX9_init cX9_init 1 none) (rmZ 1 1 60) (PcZ D cy a [.ref a] [(a, .inr (9, [.null, .int 0, .int 0, .int 0]))]) (QcZ D a 2 (zW_X9_init cy a)) 1 60 (zA a 2) := by
  refine z_met (lv := [(0, .ref a)]) (by decide) rfl (Nat.le_of_ble_eq_true rfl) rfl (zD_of rfl (Nat.le_of_ble_eq_true rfl)) ?_
  intro p e s m args below meth c ls E hr hlk hin hw hl
  have hx := E.1.1
  have hb := E.1.2.1
  refine lv_aload_n hx hb dX9_init_0 rfl (lv_at hl 0 rfl) ?_
  refine W.objInit hx hb E.1.2.2.2.1 (E.1.2.2.2.2 _ (rL8 _ (List.mem_of_getElem? (i := 15) rfl))) (E.1.2.2.2.2 _ (rL1 _ (List.mem_of_getElem? (i := 11) rfl))) (E.1.2.2.2.2 _ (rL1 _ (List.mem_of_getElem? (i := 12) rfl))) rfl (hl.1.trans E.1.2.2.1.symm) rfl dX9_init_1 (Nat.le_of_ble_eq_true rfl) (Nat.le_of_ble_eq_true rfl) ?_
  refine W.eq (g2 := F0 m 4 ls []) rfl ?_
  refine lv_aload_n hx hb dX9_init_4 rfl (lv_at hl 0 rfl) ?_
  refine lv_bipush (v := 60) hx hb dX9_init_5 (by decide) ?_
  refine y_newa (a + 2) rfl (N' := 60) (a0 := (60, .inr (.inl (fun _ => 0)))) E hw 1 rfl trivial rfl (rL5 _ (List.mem_of_getElem? (i := 8) rfl)) (fun _ => rfl) (by decide) (by decide) (by decide) ⟨by omega, by omega⟩ (Nat.le_of_ble_eq_true rfl) (Nat.le_of_ble_eq_true rfl) dX9_init_7 (fun H hw => ?_)
  refine y_putF [.ref (a + 1), .int 0, .int 0, .int 0] rfl E hw fz_X9_9 rfl hin rfl rfl rfl (Nat.le_of_ble_eq_true rfl) dX9_init_9 (fun H locs hw => ?_)
  refine lv_aload_n hx hb dX9_init_12 rfl (lv_at hl 0 rfl) ?_
  refine lv_iconst (v := 0) hx hb dX9_init_13 (by decide) ?_
  refine y_put [.ref (a + 1), .int 0, .int 0, .int 0] rfl E hw fz_X9_15 rfl rfl rfl (Nat.le_of_ble_eq_true rfl) dX9_init_14 (fun H locs hw => ?_)
  refine lv_aload_n hx hb dX9_init_17 rfl (lv_at hl 0 rfl) ?_
  refine lv_iconst (v := 0) hx hb dX9_init_18 (by decide) ?_
  refine y_put [.ref (a + 1), .int 0, .int 0, .int 0] rfl E hw fz_X9_19 rfl rfl rfl (Nat.le_of_ble_eq_true rfl) dX9_init_19 (fun H locs hw => ?_)
  refine lv_aload_n hx hb dX9_init_22 rfl (lv_at hl 0 rfl) ?_
  refine lv_iconst (v := 0) hx hb dX9_init_23 (by decide) ?_
  refine y_put [.ref (a + 1), .int 0, .int 0, .int 0] rfl E hw fz_X9_23 rfl rfl rfl (Nat.le_of_ble_eq_true rfl) dX9_init_24 (fun H locs hw => ?_)
  exact z_vret E hr hlk hw rfl dX9_init_27

def zW_X4_init (cy : Nat → ClassId) (a : Nat) : va_W := (a, .inr (4, [.ref (a + 1), .int (-1), .ref (a + 2), .int 0])) :: ([] ++ [((a + 1), .inl (cy 0, 6, .inl (fun _ => 0)))] ++ [((a + 2), .inl (cy 0, 60, .inl (fun _ => 0)))])
theorem zD_X4_init {cy : Nat → ClassId} {a : Nat} : va_D (zA a 3) (zW_X4_init cy a) := zD_of rfl (Nat.le_of_ble_eq_true rfl)
set_option maxRecDepth 100000 in
set_option maxHeartbeats 4000000 in
theorem zc_X4_init {l : Launch} {D : va_G} {cy : Nat → ClassId} {a : Nat} : Met l yX4_init (wU yX4_init cX4_init 1 none) (rmZ 1 2 66) (PcZ D cy a [.ref a] [(a, .inr (4, [.null, .int 0, .null, .int 0]))]) (QcZ D a 3 (zW_X4_init cy a)) 2 66 (zA a 3) := by
  refine z_met (lv := [(0, .ref a)]) (by decide) rfl (Nat.le_of_ble_eq_true rfl) rfl (zD_of rfl (Nat.le_of_ble_eq_true rfl)) ?_
  intro p e s m args below meth c ls E hr hlk hin hw hl
  have hx := E.1.1
  have hb := E.1.2.1
  refine lv_aload_n hx hb dX4_init_0 rfl (lv_at hl 0 rfl) ?_
  refine W.objInit hx hb E.1.2.2.2.1 (E.1.2.2.2.2 _ (rL7 _ (List.mem_of_getElem? (i := 10) rfl))) (E.1.2.2.2.2 _ (rL1 _ (List.mem_of_getElem? (i := 11) rfl))) (E.1.2.2.2.2 _ (rL1 _ (List.mem_of_getElem? (i := 12) rfl))) rfl (hl.1.trans E.1.2.2.1.symm) rfl dX4_init_1 (Nat.le_of_ble_eq_true rfl) (Nat.le_of_ble_eq_true rfl) ?_
  refine W.eq (g2 := F0 m 4 ls []) rfl ?_
  refine lv_aload_n hx hb dX4_init_4 rfl (lv_at hl 0 rfl) ?_
  refine lv_bipush (v := 6) hx hb dX4_init_5 (by decide) ?_
  refine y_newa (a + 2) rfl (N' := 6) (a0 := (6, .inl (fun _ => 0))) E hw 0 rfl trivial rfl (rL3 _ (List.mem_of_getElem? (i := 3) rfl)) (fun _ => rfl) (by decide) (by decide) (by decide) ⟨by omega, by omega⟩ (Nat.le_of_ble_eq_true rfl) (Nat.le_of_ble_eq_true rfl) dX4_init_7 (fun H hw => ?_)
  refine y_putF [.ref (a + 1), .int 0, .null, .int 0] rfl E hw fz_X4_11 rfl hin rfl rfl rfl (Nat.le_of_ble_eq_true rfl) dX4_init_9 (fun H locs hw => ?_)
  refine lv_aload_n hx hb dX4_init_12 rfl (lv_at hl 0 rfl) ?_
  refine lv_iconst (v := (-1)) hx hb dX4_init_13 (by decide) ?_
  refine y_put [.ref (a + 1), .int (-1), .null, .int 0] rfl E hw fz_X4_15 rfl rfl rfl (Nat.le_of_ble_eq_true rfl) dX4_init_14 (fun H locs hw => ?_)
  refine lv_aload_n hx hb dX4_init_17 rfl (lv_at hl 0 rfl) ?_
  refine lv_bipush (v := 60) hx hb dX4_init_18 (by decide) ?_
  refine y_newa (a + 3) rfl (N' := 60) (a0 := (60, .inl (fun _ => 0))) E hw 0 rfl trivial rfl (rL3 _ (List.mem_of_getElem? (i := 3) rfl)) (fun _ => rfl) (by decide) (by decide) (by decide) ⟨by omega, by omega⟩ (Nat.le_of_ble_eq_true rfl) (Nat.le_of_ble_eq_true rfl) dX4_init_20 (fun H hw => ?_)
  refine y_putF [.ref (a + 1), .int (-1), .ref (a + 2), .int 0] rfl E hw fz_X4_21 rfl hin rfl rfl rfl (Nat.le_of_ble_eq_true rfl) dX4_init_22 (fun H locs hw => ?_)
  refine lv_aload_n hx hb dX4_init_25 rfl (lv_at hl 0 rfl) ?_
  refine lv_iconst (v := 0) hx hb dX4_init_26 (by decide) ?_
  refine y_put [.ref (a + 1), .int (-1), .ref (a + 2), .int 0] rfl E hw fz_X4_24 rfl rfl rfl (Nat.le_of_ble_eq_true rfl) dX4_init_27 (fun H locs hw => ?_)
  exact z_vret E hr hlk hw rfl dX4_init_30

def zW_X1_init (cy : Nat → ClassId) (a : Nat) : va_W := (a, .inr (1, [.ref (a + 1), .ref (a + 4), .ref (a + 5), .int 0])) :: ([] ++ zW_X0_init_1 cy (a + 1) ++ [((a + 4), .inl (cy 0, 3600, .inl (fun _ => 0)))] ++ [((a + 5), .inl (cy 0, 20, .inl (fun _ => 0)))])
theorem zD_X1_init {cy : Nat → ClassId} {a : Nat} : va_D (zA a 6) (zW_X1_init cy a) := zD_of rfl (Nat.le_of_ble_eq_true rfl)
set_option maxRecDepth 100000 in
set_option maxHeartbeats 4000000 in
theorem zc_X1_init {l : Launch} {D : va_G} {cy : Nat → ClassId} {a : Nat} : Met l yX1_init (wU yX1_init cX1_init 1 none) (rmZ 2 5 3634) (PcZ D cy a [.ref a] [(a, .inr (1, [.null, .null, .null, .int 0]))]) (QcZ D a 6 (zW_X1_init cy a)) 5 3634 (zA a 6) := by
  refine z_met (lv := [(0, .ref a)]) (by decide) rfl (Nat.le_of_ble_eq_true rfl) rfl (zD_of rfl (Nat.le_of_ble_eq_true rfl)) ?_
  intro p e s m args below meth c ls E hr hlk hin hw hl
  have hx := E.1.1
  have hb := E.1.2.1
  refine lv_aload_n hx hb dX1_init_0 rfl (lv_at hl 0 rfl) ?_
  refine W.objInit hx hb E.1.2.2.2.1 (E.1.2.2.2.2 _ (rL7 _ (List.mem_of_getElem? (i := 17) rfl))) (E.1.2.2.2.2 _ (rL1 _ (List.mem_of_getElem? (i := 11) rfl))) (E.1.2.2.2.2 _ (rL1 _ (List.mem_of_getElem? (i := 12) rfl))) rfl (hl.1.trans E.1.2.2.1.symm) rfl dX1_init_1 (Nat.le_of_ble_eq_true rfl) (Nat.le_of_ble_eq_true rfl) ?_
  refine W.eq (g2 := F0 m 4 ls []) rfl ?_
  refine lv_aload_n hx hb dX1_init_4 rfl (lv_at hl 0 rfl) ?_
  refine y_new (a + 2) rfl (κ := 0) (C := RX0) (T := TX0) (N := 2) (fs := [.null, .null]) E hw rfl rfl inlX0 tyX0_ok (rL7 _ (List.mem_of_getElem? (i := 18) rfl)) (rL3 _ (List.mem_of_getElem? (i := 0) rfl)) (rL3 _ (List.mem_of_getElem? (i := 1) rfl)) (by decide +kernel) ⟨by omega, by omega⟩ (Nat.le_of_ble_eq_true rfl) (Nat.le_of_ble_eq_true rfl) dX1_init_5 (fun H hw => ?_)
  refine lv_dup hx hb dX1_init_8 rfl ?_
  refine lv_iconst (v := 1) hx hb dX1_init_9 (by decide) ?_
  refine y_init (a + 4) [.ref (a + 1), .ref a] E hw rfl rfl (zc_X0_init_1 (a := (a + 1))) (rL7 _ (List.mem_of_getElem? (i := 23) rfl)) (rL6 _ (List.mem_of_getElem? (i := 9) rfl)) (rL6 _ (List.mem_of_getElem? (i := 10) rfl)) (rL3 _ (List.mem_of_getElem? (i := 1) rfl)) ⟨rfl, by decide, by decide, by decide +kernel⟩ rfl rfl hl.1 (Nat.le_of_ble_eq_true rfl) ⟨Nat.le_of_ble_eq_true rfl, Nat.le_of_ble_eq_true rfl⟩ ⟨Nat.le_of_ble_eq_true rfl, Nat.le_of_ble_eq_true rfl⟩ dX1_init_10 zD_X0_init_1 ⟨by omega, by omega⟩ (fun H locs hw => ?_)
  refine y_putF [.ref (a + 1), .null, .null, .int 0] rfl E hw fz_X1_14 rfl hin rfl rfl rfl (Nat.le_of_ble_eq_true rfl) dX1_init_13 (fun H locs hw => ?_)
  refine lv_aload_n hx hb dX1_init_16 rfl (lv_at hl 0 rfl) ?_
  refine lv_sipush (v := 3600) hx hb dX1_init_17 (by decide) ?_
  refine y_newa (a + 5) rfl (N' := 3600) (a0 := (3600, .inl (fun _ => 0))) E hw 0 rfl trivial rfl (rL3 _ (List.mem_of_getElem? (i := 3) rfl)) (fun _ => rfl) (by decide) (by decide) (by decide) ⟨by omega, by omega⟩ (Nat.le_of_ble_eq_true rfl) (Nat.le_of_ble_eq_true rfl) dX1_init_20 (fun H hw => ?_)
  refine y_putF [.ref (a + 1), .ref (a + 4), .null, .int 0] rfl E hw fz_X1_20 rfl hin rfl rfl rfl (Nat.le_of_ble_eq_true rfl) dX1_init_22 (fun H locs hw => ?_)
  refine lv_aload_n hx hb dX1_init_25 rfl (lv_at hl 0 rfl) ?_
  refine lv_bipush (v := 20) hx hb dX1_init_26 (by decide) ?_
  refine y_newa (a + 6) rfl (N' := 20) (a0 := (20, .inl (fun _ => 0))) E hw 0 rfl trivial rfl (rL3 _ (List.mem_of_getElem? (i := 3) rfl)) (fun _ => rfl) (by decide) (by decide) (by decide) ⟨by omega, by omega⟩ (Nat.le_of_ble_eq_true rfl) (Nat.le_of_ble_eq_true rfl) dX1_init_28 (fun H hw => ?_)
  refine y_putF [.ref (a + 1), .ref (a + 4), .ref (a + 5), .int 0] rfl E hw fz_X1_24 rfl hin rfl rfl rfl (Nat.le_of_ble_eq_true rfl) dX1_init_30 (fun H locs hw => ?_)
  refine lv_aload_n hx hb dX1_init_33 rfl (lv_at hl 0 rfl) ?_
  refine lv_iconst (v := 0) hx hb dX1_init_34 (by decide) ?_
  refine y_put [.ref (a + 1), .ref (a + 4), .ref (a + 5), .int 0] rfl E hw fz_X1_27 rfl rfl rfl (Nat.le_of_ble_eq_true rfl) dX1_init_35 (fun H locs hw => ?_)
  exact z_vret E hr hlk hw rfl dX1_init_38

def zW_X5_init (cy : Nat → ClassId) (a : Nat) : va_W := (a, .inr (5, [.ref (a + 1), .ref (a + 4), .ref (a + 5), .ref (a + 6), .int 0, .int 0])) :: ([] ++ zW_X0_init_64 cy (a + 1) ++ [((a + 4), .inl (cy 3, 64, .inl (fun _ => 0)))] ++ [((a + 5), .inl (cy 0, 6, .inl (fun _ => 0)))] ++ [((a + 6), .inl (cy 0, 6, .inl (fun _ => 0)))])
theorem zD_X5_init {cy : Nat → ClassId} {a : Nat} : va_D (zA a 7) (zW_X5_init cy a) := zD_of rfl (Nat.le_of_ble_eq_true rfl)
set_option maxRecDepth 100000 in
set_option maxHeartbeats 4000000 in
theorem zc_X5_init {l : Launch} {D : va_G} {cy : Nat → ClassId} {a : Nat} : Met l yX5_init (wU yX5_init cX5_init 1 none) (rmZ 2 6 846) (PcZ D cy a [.ref a] [(a, .inr (5, [.null, .null, .null, .null, .int 0, .int 0]))]) (QcZ D a 7 (zW_X5_init cy a)) 6 846 (zA a 7) := by
  refine z_met (lv := [(0, .ref a)]) (by decide) rfl (Nat.le_of_ble_eq_true rfl) rfl (zD_of rfl (Nat.le_of_ble_eq_true rfl)) ?_
  intro p e s m args below meth c ls E hr hlk hin hw hl
  have hx := E.1.1
  have hb := E.1.2.1
  refine lv_aload_n hx hb dX5_init_0 rfl (lv_at hl 0 rfl) ?_
  refine W.objInit hx hb E.1.2.2.2.1 (E.1.2.2.2.2 _ (rL8 _ (List.mem_of_getElem? (i := 2) rfl))) (E.1.2.2.2.2 _ (rL1 _ (List.mem_of_getElem? (i := 11) rfl))) (E.1.2.2.2.2 _ (rL1 _ (List.mem_of_getElem? (i := 12) rfl))) rfl (hl.1.trans E.1.2.2.1.symm) rfl dX5_init_1 (Nat.le_of_ble_eq_true rfl) (Nat.le_of_ble_eq_true rfl) ?_
  refine W.eq (g2 := F0 m 4 ls []) rfl ?_
  refine lv_aload_n hx hb dX5_init_4 rfl (lv_at hl 0 rfl) ?_
  refine y_new (a + 2) rfl (κ := 0) (C := RX0) (T := TX0) (N := 2) (fs := [.null, .null]) E hw rfl rfl inlX0 tyX0_ok (rL8 _ (List.mem_of_getElem? (i := 3) rfl)) (rL3 _ (List.mem_of_getElem? (i := 0) rfl)) (rL3 _ (List.mem_of_getElem? (i := 1) rfl)) (by decide +kernel) ⟨by omega, by omega⟩ (Nat.le_of_ble_eq_true rfl) (Nat.le_of_ble_eq_true rfl) dX5_init_5 (fun H hw => ?_)
  refine lv_dup hx hb dX5_init_8 rfl ?_
  refine lv_bipush (v := 64) hx hb dX5_init_9 (by decide) ?_
  refine y_init (a + 4) [.ref (a + 1), .ref a] E hw rfl rfl (zc_X0_init_64 (a := (a + 1))) (rL8 _ (List.mem_of_getElem? (i := 11) rfl)) (rL6 _ (List.mem_of_getElem? (i := 9) rfl)) (rL6 _ (List.mem_of_getElem? (i := 10) rfl)) (rL3 _ (List.mem_of_getElem? (i := 1) rfl)) ⟨rfl, by decide, by decide, by decide +kernel⟩ rfl rfl hl.1 (Nat.le_of_ble_eq_true rfl) ⟨Nat.le_of_ble_eq_true rfl, Nat.le_of_ble_eq_true rfl⟩ ⟨Nat.le_of_ble_eq_true rfl, Nat.le_of_ble_eq_true rfl⟩ dX5_init_11 zD_X0_init_64 ⟨by omega, by omega⟩ (fun H locs hw => ?_)
  refine y_putF [.ref (a + 1), .null, .null, .null, .int 0, .int 0] rfl E hw fz_X5_16 rfl hin rfl rfl rfl (Nat.le_of_ble_eq_true rfl) dX5_init_14 (fun H locs hw => ?_)
  refine lv_aload_n hx hb dX5_init_17 rfl (lv_at hl 0 rfl) ?_
  refine lv_bipush (v := 64) hx hb dX5_init_18 (by decide) ?_
  refine y_newa (a + 5) rfl (N' := 64) (a0 := (64, .inl (fun _ => 0))) E hw 3 rfl trivial rfl (rL8 _ (List.mem_of_getElem? (i := 5) rfl)) (fun _ => rfl) (by decide) (by decide) (by decide) ⟨by omega, by omega⟩ (Nat.le_of_ble_eq_true rfl) (Nat.le_of_ble_eq_true rfl) dX5_init_20 (fun H hw => ?_)
  refine y_putF [.ref (a + 1), .ref (a + 4), .null, .null, .int 0, .int 0] rfl E hw fz_X5_20 rfl hin rfl rfl rfl (Nat.le_of_ble_eq_true rfl) dX5_init_22 (fun H locs hw => ?_)
  refine lv_aload_n hx hb dX5_init_25 rfl (lv_at hl 0 rfl) ?_
  refine lv_bipush (v := 6) hx hb dX5_init_26 (by decide) ?_
  refine y_newa (a + 6) rfl (N' := 6) (a0 := (6, .inl (fun _ => 0))) E hw 0 rfl trivial rfl (rL3 _ (List.mem_of_getElem? (i := 3) rfl)) (fun _ => rfl) (by decide) (by decide) (by decide) ⟨by omega, by omega⟩ (Nat.le_of_ble_eq_true rfl) (Nat.le_of_ble_eq_true rfl) dX5_init_28 (fun H hw => ?_)
  refine y_putF [.ref (a + 1), .ref (a + 4), .ref (a + 5), .null, .int 0, .int 0] rfl E hw fz_X5_24 rfl hin rfl rfl rfl (Nat.le_of_ble_eq_true rfl) dX5_init_30 (fun H locs hw => ?_)
  refine lv_aload_n hx hb dX5_init_33 rfl (lv_at hl 0 rfl) ?_
  refine lv_bipush (v := 6) hx hb dX5_init_34 (by decide) ?_
  refine y_newa (a + 7) rfl (N' := 6) (a0 := (6, .inl (fun _ => 0))) E hw 0 rfl trivial rfl (rL3 _ (List.mem_of_getElem? (i := 3) rfl)) (fun _ => rfl) (by decide) (by decide) (by decide) ⟨by omega, by omega⟩ (Nat.le_of_ble_eq_true rfl) (Nat.le_of_ble_eq_true rfl) dX5_init_36 (fun H hw => ?_)
  refine y_putF [.ref (a + 1), .ref (a + 4), .ref (a + 5), .ref (a + 6), .int 0, .int 0] rfl E hw fz_X5_28 rfl hin rfl rfl rfl (Nat.le_of_ble_eq_true rfl) dX5_init_38 (fun H locs hw => ?_)
  refine lv_aload_n hx hb dX5_init_41 rfl (lv_at hl 0 rfl) ?_
  refine lv_iconst (v := 0) hx hb dX5_init_42 (by decide) ?_
  refine y_put [.ref (a + 1), .ref (a + 4), .ref (a + 5), .ref (a + 6), .int 0, .int 0] rfl E hw fz_X5_31 rfl rfl rfl (Nat.le_of_ble_eq_true rfl) dX5_init_43 (fun H locs hw => ?_)
  refine lv_aload_n hx hb dX5_init_46 rfl (lv_at hl 0 rfl) ?_
  refine lv_iconst (v := 0) hx hb dX5_init_47 (by decide) ?_
  refine y_put [.ref (a + 1), .ref (a + 4), .ref (a + 5), .ref (a + 6), .int 0, .int 0] rfl E hw fz_X5_35 rfl rfl rfl (Nat.le_of_ble_eq_true rfl) dX5_init_48 (fun H locs hw => ?_)
  exact z_vret E hr hlk hw rfl dX5_init_51

def zW_X10_init (cy : Nat → ClassId) (a : Nat) : va_W := (a, .inr (10, [.ref (a + 1), .ref (a + 8), .ref (a + 15), .ref (a + 18), .ref (a + 21), .ref (a + 22), .ref (a + 25), .ref (a + 26), .ref (a + 27), .int 0, .int 0, .int 0])) :: ([] ++ zW_X7_init cy (a + 1) ++ zW_X2_init cy (a + 8) ++ zW_X0_init_36 cy (a + 15) ++ zW_X0_init_216 cy (a + 18) ++ [((a + 21), .inl (cy 0, 36, .inl (fun _ => 0)))] ++ zW_X0_init_4 cy (a + 22) ++ [((a + 25), .inl (cy 0, 4, .inl (fun _ => 0)))] ++ [((a + 26), .inl (cy 0, 36, .inl (fun _ => 0)))] ++ [((a + 27), .inl (cy 0, 1080, .inl (fun _ => 0)))])
theorem zD_X10_init {cy : Nat → ClassId} {a : Nat} : va_D (zA a 28) (zW_X10_init cy a) := zD_of rfl (Nat.le_of_ble_eq_true rfl)
set_option maxRecDepth 100000 in
set_option maxHeartbeats 4000000 in
theorem zc_X10_init {l : Launch} {D : va_G} {cy : Nat → ClassId} {a : Nat} : Met l yX10_init (wU yX10_init cX10_init 1 none) (rmZ 2 27 4681) (PcZ D cy a [.ref a] [(a, .inr (10, [.null, .null, .null, .null, .null, .null, .null, .null, .null, .int 0, .int 0, .int 0]))]) (QcZ D a 28 (zW_X10_init cy a)) 27 4681 (zA a 28) := by
  refine z_met (lv := [(0, .ref a)]) (by decide) rfl (Nat.le_of_ble_eq_true rfl) rfl (zD_of rfl (Nat.le_of_ble_eq_true rfl)) ?_
  intro p e s m args below meth c ls E hr hlk hin hw hl
  have hx := E.1.1
  have hb := E.1.2.1
  refine lv_aload_n hx hb dX10_init_0 rfl (lv_at hl 0 rfl) ?_
  refine W.objInit hx hb E.1.2.2.2.1 (E.1.2.2.2.2 _ (rL4 _ (List.mem_of_getElem? (i := 8) rfl))) (E.1.2.2.2.2 _ (rL1 _ (List.mem_of_getElem? (i := 11) rfl))) (E.1.2.2.2.2 _ (rL1 _ (List.mem_of_getElem? (i := 12) rfl))) rfl (hl.1.trans E.1.2.2.1.symm) rfl dX10_init_1 (Nat.le_of_ble_eq_true rfl) (Nat.le_of_ble_eq_true rfl) ?_
  refine W.eq (g2 := F0 m 4 ls []) rfl ?_
  refine lv_aload_n hx hb dX10_init_4 rfl (lv_at hl 0 rfl) ?_
  refine y_new (a + 2) rfl (κ := 7) (C := RX7) (T := TX7) (N := 12) (fs := [.null, .null, .null, .null, .null, .null, .int 0, .int 0, .int 0, .int 0, .int 0, .int 0]) E hw rfl rfl inlX7 tyX7_ok (rL4 _ (List.mem_of_getElem? (i := 9) rfl)) (rL4 _ (List.mem_of_getElem? (i := 10) rfl)) (rL4 _ (List.mem_of_getElem? (i := 11) rfl)) (by decide +kernel) ⟨by omega, by omega⟩ (Nat.le_of_ble_eq_true rfl) (Nat.le_of_ble_eq_true rfl) dX10_init_5 (fun H hw => ?_)
  refine lv_dup hx hb dX10_init_8 rfl ?_
  refine y_initN (a + 8) [.ref (a + 1), .ref a] E hw rfl rfl (zc_X7_init (a := (a + 1))) (List.mem_of_getElem? (i := 8) rfl) (rL5 _ (List.mem_of_getElem? (i := 4) rfl)) (rL5 _ (List.mem_of_getElem? (i := 5) rfl)) (rL4 _ (List.mem_of_getElem? (i := 11) rfl)) ⟨rfl, by decide, by decide, by decide +kernel⟩ rfl rfl hl.1 (Nat.le_of_ble_eq_true rfl) ⟨Nat.le_of_ble_eq_true rfl, Nat.le_of_ble_eq_true rfl⟩ ⟨Nat.le_of_ble_eq_true rfl, Nat.le_of_ble_eq_true rfl⟩ dX10_init_9 zD_X7_init ⟨by omega, by omega⟩ (fun H locs hw => ?_)
  refine y_putF [.ref (a + 1), .null, .null, .null, .null, .null, .null, .null, .null, .int 0, .int 0, .int 0] rfl E hw fz_X10_12 rfl hin rfl rfl rfl (Nat.le_of_ble_eq_true rfl) dX10_init_12 (fun H locs hw => ?_)
  refine lv_aload_n hx hb dX10_init_15 rfl (lv_at hl 0 rfl) ?_
  refine y_new (a + 9) rfl (κ := 2) (C := RX2) (T := TX2) (N := 9) (fs := [.null, .null, .null, .null, .null, .null, .int 0, .int 0, .int 0]) E hw rfl rfl inlX2 tyX2_ok (rL4 _ (List.mem_of_getElem? (i := 13) rfl)) (rL4 _ (List.mem_of_getElem? (i := 14) rfl)) (rL4 _ (List.mem_of_getElem? (i := 15) rfl)) (by decide +kernel) ⟨by omega, by omega⟩ (Nat.le_of_ble_eq_true rfl) (Nat.le_of_ble_eq_true rfl) dX10_init_16 (fun H hw => ?_)
  refine lv_dup hx hb dX10_init_19 rfl ?_
  refine y_initN (a + 15) [.ref (a + 8), .ref a] E hw rfl rfl (zc_X2_init (a := (a + 8))) (List.mem_of_getElem? (i := 9) rfl) (rL5 _ (List.mem_of_getElem? (i := 20) rfl)) (rL5 _ (List.mem_of_getElem? (i := 21) rfl)) (rL4 _ (List.mem_of_getElem? (i := 15) rfl)) ⟨rfl, by decide, by decide, by decide +kernel⟩ rfl rfl hl.1 (Nat.le_of_ble_eq_true rfl) ⟨Nat.le_of_ble_eq_true rfl, Nat.le_of_ble_eq_true rfl⟩ ⟨Nat.le_of_ble_eq_true rfl, Nat.le_of_ble_eq_true rfl⟩ dX10_init_20 zD_X2_init ⟨by omega, by omega⟩ (fun H locs hw => ?_)
  refine y_putF [.ref (a + 1), .ref (a + 8), .null, .null, .null, .null, .null, .null, .null, .int 0, .int 0, .int 0] rfl E hw fz_X10_21 rfl hin rfl rfl rfl (Nat.le_of_ble_eq_true rfl) dX10_init_23 (fun H locs hw => ?_)
  refine lv_aload_n hx hb dX10_init_26 rfl (lv_at hl 0 rfl) ?_
  refine y_new (a + 16) rfl (κ := 0) (C := RX0) (T := TX0) (N := 2) (fs := [.null, .null]) E hw rfl rfl inlX0 tyX0_ok (rL4 _ (List.mem_of_getElem? (i := 17) rfl)) (rL3 _ (List.mem_of_getElem? (i := 0) rfl)) (rL3 _ (List.mem_of_getElem? (i := 1) rfl)) (by decide +kernel) ⟨by omega, by omega⟩ (Nat.le_of_ble_eq_true rfl) (Nat.le_of_ble_eq_true rfl) dX10_init_27 (fun H hw => ?_)
  refine lv_dup hx hb dX10_init_30 rfl ?_
  refine lv_bipush (v := 36) hx hb dX10_init_31 (by decide) ?_
  refine y_init (a + 18) [.ref (a + 15), .ref a] E hw rfl rfl (zc_X0_init_36 (a := (a + 15))) (rL6 _ (List.mem_of_getElem? (i := 8) rfl)) (rL6 _ (List.mem_of_getElem? (i := 9) rfl)) (rL6 _ (List.mem_of_getElem? (i := 10) rfl)) (rL3 _ (List.mem_of_getElem? (i := 1) rfl)) ⟨rfl, by decide, by decide, by decide +kernel⟩ rfl rfl hl.1 (Nat.le_of_ble_eq_true rfl) ⟨Nat.le_of_ble_eq_true rfl, Nat.le_of_ble_eq_true rfl⟩ ⟨Nat.le_of_ble_eq_true rfl, Nat.le_of_ble_eq_true rfl⟩ dX10_init_33 zD_X0_init_36 ⟨by omega, by omega⟩ (fun H locs hw => ?_)
  refine y_putF [.ref (a + 1), .ref (a + 8), .ref (a + 15), .null, .null, .null, .null, .null, .null, .int 0, .int 0, .int 0] rfl E hw fz_X10_30 rfl hin rfl rfl rfl (Nat.le_of_ble_eq_true rfl) dX10_init_36 (fun H locs hw => ?_)
  refine lv_aload_n hx hb dX10_init_39 rfl (lv_at hl 0 rfl) ?_
  refine y_new (a + 19) rfl (κ := 0) (C := RX0) (T := TX0) (N := 2) (fs := [.null, .null]) E hw rfl rfl inlX0 tyX0_ok (rL4 _ (List.mem_of_getElem? (i := 17) rfl)) (rL3 _ (List.mem_of_getElem? (i := 0) rfl)) (rL3 _ (List.mem_of_getElem? (i := 1) rfl)) (by decide +kernel) ⟨by omega, by omega⟩ (Nat.le_of_ble_eq_true rfl) (Nat.le_of_ble_eq_true rfl) dX10_init_40 (fun H hw => ?_)
  refine lv_dup hx hb dX10_init_43 rfl ?_
  refine lv_sipush (v := 216) hx hb dX10_init_44 (by decide) ?_
  refine y_init (a + 21) [.ref (a + 18), .ref a] E hw rfl rfl (zc_X0_init_216 (a := (a + 18))) (rL6 _ (List.mem_of_getElem? (i := 8) rfl)) (rL6 _ (List.mem_of_getElem? (i := 9) rfl)) (rL6 _ (List.mem_of_getElem? (i := 10) rfl)) (rL3 _ (List.mem_of_getElem? (i := 1) rfl)) ⟨rfl, by decide, by decide, by decide +kernel⟩ rfl rfl hl.1 (Nat.le_of_ble_eq_true rfl) ⟨Nat.le_of_ble_eq_true rfl, Nat.le_of_ble_eq_true rfl⟩ ⟨Nat.le_of_ble_eq_true rfl, Nat.le_of_ble_eq_true rfl⟩ dX10_init_47 zD_X0_init_216 ⟨by omega, by omega⟩ (fun H locs hw => ?_)
  refine y_putF [.ref (a + 1), .ref (a + 8), .ref (a + 15), .ref (a + 18), .null, .null, .null, .null, .null, .int 0, .int 0, .int 0] rfl E hw fz_X10_34 rfl hin rfl rfl rfl (Nat.le_of_ble_eq_true rfl) dX10_init_50 (fun H locs hw => ?_)
  refine lv_aload_n hx hb dX10_init_53 rfl (lv_at hl 0 rfl) ?_
  refine lv_bipush (v := 36) hx hb dX10_init_54 (by decide) ?_
  refine y_newa (a + 22) rfl (N' := 36) (a0 := (36, .inl (fun _ => 0))) E hw 0 rfl trivial rfl (rL3 _ (List.mem_of_getElem? (i := 3) rfl)) (fun _ => rfl) (by decide) (by decide) (by decide) ⟨by omega, by omega⟩ (Nat.le_of_ble_eq_true rfl) (Nat.le_of_ble_eq_true rfl) dX10_init_56 (fun H hw => ?_)
  refine y_putF [.ref (a + 1), .ref (a + 8), .ref (a + 15), .ref (a + 18), .ref (a + 21), .null, .null, .null, .null, .int 0, .int 0, .int 0] rfl E hw fz_X10_37 rfl hin rfl rfl rfl (Nat.le_of_ble_eq_true rfl) dX10_init_58 (fun H locs hw => ?_)
  refine lv_aload_n hx hb dX10_init_61 rfl (lv_at hl 0 rfl) ?_
  refine y_new (a + 23) rfl (κ := 0) (C := RX0) (T := TX0) (N := 2) (fs := [.null, .null]) E hw rfl rfl inlX0 tyX0_ok (rL4 _ (List.mem_of_getElem? (i := 17) rfl)) (rL3 _ (List.mem_of_getElem? (i := 0) rfl)) (rL3 _ (List.mem_of_getElem? (i := 1) rfl)) (by decide +kernel) ⟨by omega, by omega⟩ (Nat.le_of_ble_eq_true rfl) (Nat.le_of_ble_eq_true rfl) dX10_init_62 (fun H hw => ?_)
  refine lv_dup hx hb dX10_init_65 rfl ?_
  refine lv_iconst (v := 4) hx hb dX10_init_66 (by decide) ?_
  refine y_init (a + 25) [.ref (a + 22), .ref a] E hw rfl rfl (zc_X0_init_4 (a := (a + 22))) (rL6 _ (List.mem_of_getElem? (i := 8) rfl)) (rL6 _ (List.mem_of_getElem? (i := 9) rfl)) (rL6 _ (List.mem_of_getElem? (i := 10) rfl)) (rL3 _ (List.mem_of_getElem? (i := 1) rfl)) ⟨rfl, by decide, by decide, by decide +kernel⟩ rfl rfl hl.1 (Nat.le_of_ble_eq_true rfl) ⟨Nat.le_of_ble_eq_true rfl, Nat.le_of_ble_eq_true rfl⟩ ⟨Nat.le_of_ble_eq_true rfl, Nat.le_of_ble_eq_true rfl⟩ dX10_init_67 zD_X0_init_4 ⟨by omega, by omega⟩ (fun H locs hw => ?_)
  refine y_putF [.ref (a + 1), .ref (a + 8), .ref (a + 15), .ref (a + 18), .ref (a + 21), .ref (a + 22), .null, .null, .null, .int 0, .int 0, .int 0] rfl E hw fz_X10_41 rfl hin rfl rfl rfl (Nat.le_of_ble_eq_true rfl) dX10_init_70 (fun H locs hw => ?_)
  refine lv_aload_n hx hb dX10_init_73 rfl (lv_at hl 0 rfl) ?_
  refine lv_iconst (v := 4) hx hb dX10_init_74 (by decide) ?_
  refine y_newa (a + 26) rfl (N' := 4) (a0 := (4, .inl (fun _ => 0))) E hw 0 rfl trivial rfl (rL3 _ (List.mem_of_getElem? (i := 3) rfl)) (fun _ => rfl) (by decide) (by decide) (by decide) ⟨by omega, by omega⟩ (Nat.le_of_ble_eq_true rfl) (Nat.le_of_ble_eq_true rfl) dX10_init_75 (fun H hw => ?_)
  refine y_putF [.ref (a + 1), .ref (a + 8), .ref (a + 15), .ref (a + 18), .ref (a + 21), .ref (a + 22), .ref (a + 25), .null, .null, .int 0, .int 0, .int 0] rfl E hw fz_X10_44 rfl hin rfl rfl rfl (Nat.le_of_ble_eq_true rfl) dX10_init_77 (fun H locs hw => ?_)
  refine lv_aload_n hx hb dX10_init_80 rfl (lv_at hl 0 rfl) ?_
  refine lv_bipush (v := 36) hx hb dX10_init_81 (by decide) ?_
  refine y_newa (a + 27) rfl (N' := 36) (a0 := (36, .inl (fun _ => 0))) E hw 0 rfl trivial rfl (rL3 _ (List.mem_of_getElem? (i := 3) rfl)) (fun _ => rfl) (by decide) (by decide) (by decide) ⟨by omega, by omega⟩ (Nat.le_of_ble_eq_true rfl) (Nat.le_of_ble_eq_true rfl) dX10_init_83 (fun H hw => ?_)
  refine y_putF [.ref (a + 1), .ref (a + 8), .ref (a + 15), .ref (a + 18), .ref (a + 21), .ref (a + 22), .ref (a + 25), .ref (a + 26), .null, .int 0, .int 0, .int 0] rfl E hw fz_X10_47 rfl hin rfl rfl rfl (Nat.le_of_ble_eq_true rfl) dX10_init_85 (fun H locs hw => ?_)
  refine lv_aload_n hx hb dX10_init_88 rfl (lv_at hl 0 rfl) ?_
  refine lv_sipush (v := 1080) hx hb dX10_init_89 (by decide) ?_
  refine y_newa (a + 28) rfl (N' := 1080) (a0 := (1080, .inl (fun _ => 0))) E hw 0 rfl trivial rfl (rL3 _ (List.mem_of_getElem? (i := 3) rfl)) (fun _ => rfl) (by decide) (by decide) (by decide) ⟨by omega, by omega⟩ (Nat.le_of_ble_eq_true rfl) (Nat.le_of_ble_eq_true rfl) dX10_init_92 (fun H hw => ?_)
  refine y_putF [.ref (a + 1), .ref (a + 8), .ref (a + 15), .ref (a + 18), .ref (a + 21), .ref (a + 22), .ref (a + 25), .ref (a + 26), .ref (a + 27), .int 0, .int 0, .int 0] rfl E hw fz_X10_50 rfl hin rfl rfl rfl (Nat.le_of_ble_eq_true rfl) dX10_init_94 (fun H locs hw => ?_)
  refine lv_aload_n hx hb dX10_init_97 rfl (lv_at hl 0 rfl) ?_
  refine lv_iconst (v := 0) hx hb dX10_init_98 (by decide) ?_
  refine y_put [.ref (a + 1), .ref (a + 8), .ref (a + 15), .ref (a + 18), .ref (a + 21), .ref (a + 22), .ref (a + 25), .ref (a + 26), .ref (a + 27), .int 0, .int 0, .int 0] rfl E hw fz_X10_53 rfl rfl rfl (Nat.le_of_ble_eq_true rfl) dX10_init_99 (fun H locs hw => ?_)
  refine lv_aload_n hx hb dX10_init_102 rfl (lv_at hl 0 rfl) ?_
  refine lv_iconst (v := 0) hx hb dX10_init_103 (by decide) ?_
  refine y_put [.ref (a + 1), .ref (a + 8), .ref (a + 15), .ref (a + 18), .ref (a + 21), .ref (a + 22), .ref (a + 25), .ref (a + 26), .ref (a + 27), .int 0, .int 0, .int 0] rfl E hw fz_X10_57 rfl rfl rfl (Nat.le_of_ble_eq_true rfl) dX10_init_104 (fun H locs hw => ?_)
  refine lv_aload_n hx hb dX10_init_107 rfl (lv_at hl 0 rfl) ?_
  refine lv_iconst (v := 0) hx hb dX10_init_108 (by decide) ?_
  refine y_put [.ref (a + 1), .ref (a + 8), .ref (a + 15), .ref (a + 18), .ref (a + 21), .ref (a + 22), .ref (a + 25), .ref (a + 26), .ref (a + 27), .int 0, .int 0, .int 0] rfl E hw fz_X10_60 rfl rfl rfl (Nat.le_of_ble_eq_true rfl) dX10_init_109 (fun H locs hw => ?_)
  exact z_vret E hr hlk hw rfl dX10_init_112

def zW_X8_init (cy : Nat → ClassId) (a : Nat) (r0 : Nat) : va_W := (a, .inr (8, [.ref (a + 1), .ref r0, .int 0])) :: ([] ++ zW_X7_init cy (a + 1))
theorem zD_X8_init {cy : Nat → ClassId} {a : Nat} {r0 : Nat} : va_D (zA a 8) (zW_X8_init cy a r0) := zD_of rfl (Nat.le_of_ble_eq_true rfl)
set_option maxRecDepth 100000 in
set_option maxHeartbeats 4000000 in
theorem zc_X8_init {l : Launch} {D : va_G} {cy : Nat → ClassId} {a : Nat} {r0 : Nat} : Met l yX8_init (wU yX8_init cX8_init 2 none) (rmZ 2 7 78) (PcZ D cy a [.ref a, .ref r0] [(a, .inr (8, [.null, .null, .int 0]))]) (QcZ D a 8 (zW_X8_init cy a r0)) 7 78 (zA a 8) := by
  refine z_met (lv := [(0, .ref a), (1, .ref r0)]) (by decide) rfl (Nat.le_of_ble_eq_true rfl) rfl (zD_of rfl (Nat.le_of_ble_eq_true rfl)) ?_
  intro p e s m args below meth c ls E hr hlk hin hw hl
  have hx := E.1.1
  have hb := E.1.2.1
  refine lv_aload_n hx hb dX8_init_0 rfl (lv_at hl 0 rfl) ?_
  refine W.objInit hx hb E.1.2.2.2.1 (E.1.2.2.2.2 _ (rL6 _ (List.mem_of_getElem? (i := 17) rfl))) (E.1.2.2.2.2 _ (rL1 _ (List.mem_of_getElem? (i := 11) rfl))) (E.1.2.2.2.2 _ (rL1 _ (List.mem_of_getElem? (i := 12) rfl))) rfl (hl.1.trans E.1.2.2.1.symm) rfl dX8_init_1 (Nat.le_of_ble_eq_true rfl) (Nat.le_of_ble_eq_true rfl) ?_
  refine W.eq (g2 := F0 m 4 ls []) rfl ?_
  refine lv_aload_n hx hb dX8_init_4 rfl (lv_at hl 0 rfl) ?_
  refine y_new (a + 2) rfl (κ := 7) (C := RX7) (T := TX7) (N := 12) (fs := [.null, .null, .null, .null, .null, .null, .int 0, .int 0, .int 0, .int 0, .int 0, .int 0]) E hw rfl rfl inlX7 tyX7_ok (rL6 _ (List.mem_of_getElem? (i := 18) rfl)) (rL4 _ (List.mem_of_getElem? (i := 10) rfl)) (rL4 _ (List.mem_of_getElem? (i := 11) rfl)) (by decide +kernel) ⟨by omega, by omega⟩ (Nat.le_of_ble_eq_true rfl) (Nat.le_of_ble_eq_true rfl) dX8_init_5 (fun H hw => ?_)
  refine lv_dup hx hb dX8_init_8 rfl ?_
  refine y_initN (a + 8) [.ref (a + 1), .ref a] E hw rfl rfl (zc_X7_init (a := (a + 1))) (List.mem_of_getElem? (i := 7) rfl) (rL5 _ (List.mem_of_getElem? (i := 4) rfl)) (rL5 _ (List.mem_of_getElem? (i := 5) rfl)) (rL4 _ (List.mem_of_getElem? (i := 11) rfl)) ⟨rfl, by decide, by decide, by decide +kernel⟩ rfl rfl hl.1 (Nat.le_of_ble_eq_true rfl) ⟨Nat.le_of_ble_eq_true rfl, Nat.le_of_ble_eq_true rfl⟩ ⟨Nat.le_of_ble_eq_true rfl, Nat.le_of_ble_eq_true rfl⟩ dX8_init_9 zD_X7_init ⟨by omega, by omega⟩ (fun H locs hw => ?_)
  refine y_putF [.ref (a + 1), .null, .int 0] rfl E hw fz_X8_12 rfl hin rfl rfl rfl (Nat.le_of_ble_eq_true rfl) dX8_init_12 (fun H locs hw => ?_)
  refine lv_aload_n hx hb dX8_init_15 rfl (lv_at hl 0 rfl) ?_
  refine lv_iconst (v := 0) hx hb dX8_init_16 (by decide) ?_
  refine y_put [.ref (a + 1), .null, .int 0] rfl E hw fz_X8_18 rfl rfl rfl (Nat.le_of_ble_eq_true rfl) dX8_init_17 (fun H locs hw => ?_)
  refine lv_aload_n hx hb dX8_init_20 rfl (lv_at hl 0 rfl) ?_
  refine lv_aload_n hx hb dX8_init_21 rfl (lv_at hl 1 rfl) ?_
  refine y_putF [.ref (a + 1), .ref r0, .int 0] rfl E hw fz_X8_22 rfl hin rfl rfl rfl (Nat.le_of_ble_eq_true rfl) dX8_init_22 (fun H locs hw => ?_)
  exact z_vret E hr hlk hw rfl dX8_init_25

def zW_X3_init (cy : Nat → ClassId) (a : Nat) (r0 : Nat) (r1 : Nat) : va_W := (a, .inr (3, [.ref (a + 1), .ref r0, .ref r1, .ref (a + 8), .int 0])) :: ([] ++ zW_X2_init cy (a + 1) ++ [((a + 8), .inl (cy 0, 3, .inl (fun _ => 0)))])
theorem zD_X3_init {cy : Nat → ClassId} {a : Nat} {r0 : Nat} {r1 : Nat} : va_D (zA a 9) (zW_X3_init cy a r0 r1) := zD_of rfl (Nat.le_of_ble_eq_true rfl)
set_option maxRecDepth 100000 in
set_option maxHeartbeats 4000000 in
theorem zc_X3_init {l : Launch} {D : va_G} {cy : Nat → ClassId} {a : Nat} {r0 : Nat} {r1 : Nat} : Met l yX3_init (wU yX3_init cX3_init 3 none) (rmZ 2 8 372) (PcZ D cy a [.ref a, .ref r0, .ref r1] [(a, .inr (3, [.null, .null, .null, .null, .int 0]))]) (QcZ D a 9 (zW_X3_init cy a r0 r1)) 8 372 (zA a 9) := by
  refine z_met (lv := [(0, .ref a), (1, .ref r0), (2, .ref r1)]) (by decide) rfl (Nat.le_of_ble_eq_true rfl) rfl (zD_of rfl (Nat.le_of_ble_eq_true rfl)) ?_
  intro p e s m args below meth c ls E hr hlk hin hw hl
  have hx := E.1.1
  have hb := E.1.2.1
  refine lv_aload_n hx hb dX3_init_0 rfl (lv_at hl 0 rfl) ?_
  refine W.objInit hx hb E.1.2.2.2.1 (E.1.2.2.2.2 _ (rL7 _ (List.mem_of_getElem? (i := 1) rfl))) (E.1.2.2.2.2 _ (rL1 _ (List.mem_of_getElem? (i := 11) rfl))) (E.1.2.2.2.2 _ (rL1 _ (List.mem_of_getElem? (i := 12) rfl))) rfl (hl.1.trans E.1.2.2.1.symm) rfl dX3_init_1 (Nat.le_of_ble_eq_true rfl) (Nat.le_of_ble_eq_true rfl) ?_
  refine W.eq (g2 := F0 m 4 ls []) rfl ?_
  refine lv_aload_n hx hb dX3_init_4 rfl (lv_at hl 0 rfl) ?_
  refine y_new (a + 2) rfl (κ := 2) (C := RX2) (T := TX2) (N := 9) (fs := [.null, .null, .null, .null, .null, .null, .int 0, .int 0, .int 0]) E hw rfl rfl inlX2 tyX2_ok (rL7 _ (List.mem_of_getElem? (i := 2) rfl)) (rL4 _ (List.mem_of_getElem? (i := 14) rfl)) (rL4 _ (List.mem_of_getElem? (i := 15) rfl)) (by decide +kernel) ⟨by omega, by omega⟩ (Nat.le_of_ble_eq_true rfl) (Nat.le_of_ble_eq_true rfl) dX3_init_5 (fun H hw => ?_)
  refine lv_dup hx hb dX3_init_8 rfl ?_
  refine y_initN (a + 8) [.ref (a + 1), .ref a] E hw rfl rfl (zc_X2_init (a := (a + 1))) (List.mem_of_getElem? (i := 6) rfl) (rL5 _ (List.mem_of_getElem? (i := 20) rfl)) (rL5 _ (List.mem_of_getElem? (i := 21) rfl)) (rL4 _ (List.mem_of_getElem? (i := 15) rfl)) ⟨rfl, by decide, by decide, by decide +kernel⟩ rfl rfl hl.1 (Nat.le_of_ble_eq_true rfl) ⟨Nat.le_of_ble_eq_true rfl, Nat.le_of_ble_eq_true rfl⟩ ⟨Nat.le_of_ble_eq_true rfl, Nat.le_of_ble_eq_true rfl⟩ dX3_init_9 zD_X2_init ⟨by omega, by omega⟩ (fun H locs hw => ?_)
  refine y_putF [.ref (a + 1), .null, .null, .null, .int 0] rfl E hw fz_X3_12 rfl hin rfl rfl rfl (Nat.le_of_ble_eq_true rfl) dX3_init_12 (fun H locs hw => ?_)
  refine lv_aload_n hx hb dX3_init_15 rfl (lv_at hl 0 rfl) ?_
  refine lv_iconst (v := 3) hx hb dX3_init_16 (by decide) ?_
  refine y_newa (a + 9) rfl (N' := 3) (a0 := (3, .inl (fun _ => 0))) E hw 0 rfl trivial rfl (rL3 _ (List.mem_of_getElem? (i := 3) rfl)) (fun _ => rfl) (by decide) (by decide) (by decide) ⟨by omega, by omega⟩ (Nat.le_of_ble_eq_true rfl) (Nat.le_of_ble_eq_true rfl) dX3_init_17 (fun H hw => ?_)
  refine y_putF [.ref (a + 1), .null, .null, .ref (a + 8), .int 0] rfl E hw fz_X3_18 rfl hin rfl rfl rfl (Nat.le_of_ble_eq_true rfl) dX3_init_19 (fun H locs hw => ?_)
  refine lv_aload_n hx hb dX3_init_22 rfl (lv_at hl 0 rfl) ?_
  refine lv_iconst (v := 0) hx hb dX3_init_23 (by decide) ?_
  refine y_put [.ref (a + 1), .null, .null, .ref (a + 8), .int 0] rfl E hw fz_X3_22 rfl rfl rfl (Nat.le_of_ble_eq_true rfl) dX3_init_24 (fun H locs hw => ?_)
  refine lv_aload_n hx hb dX3_init_27 rfl (lv_at hl 0 rfl) ?_
  refine lv_aload_n hx hb dX3_init_28 rfl (lv_at hl 1 rfl) ?_
  refine y_putF [.ref (a + 1), .ref r0, .null, .ref (a + 8), .int 0] rfl E hw fz_X3_26 rfl hin rfl rfl rfl (Nat.le_of_ble_eq_true rfl) dX3_init_29 (fun H locs hw => ?_)
  refine lv_aload_n hx hb dX3_init_32 rfl (lv_at hl 0 rfl) ?_
  refine lv_aload_n hx hb dX3_init_33 rfl (lv_at hl 2 rfl) ?_
  refine y_putF [.ref (a + 1), .ref r0, .ref r1, .ref (a + 8), .int 0] rfl E hw fz_X3_30 rfl hin rfl rfl rfl (Nat.le_of_ble_eq_true rfl) dX3_init_34 (fun H locs hw => ?_)
  exact z_vret E hr hlk hw rfl dX3_init_37
