theorem zmo_X11_1 : Cond.methodLink RX11 1 objectInit ∈ ztbl := (zi1 27 (by decide +kernel) rfl)
theorem zmo_X0_3 : Cond.methodLink RX0 3 objectInit ∈ ztbl := (zi2 77 (by decide +kernel) rfl)
theorem zmo_X1_3 : Cond.methodLink RX1 3 objectInit ∈ ztbl := (zi1 168 (by decide +kernel) rfl)
theorem zmo_X2_1 : Cond.methodLink RX2 1 objectInit ∈ ztbl := (zi1 143 (by decide +kernel) rfl)
theorem zmo_X3_3 : Cond.methodLink RX3 3 objectInit ∈ ztbl := (zi2 50 (by decide +kernel) rfl)
theorem zmo_X4_3 : Cond.methodLink RX4 3 objectInit ∈ ztbl := (zi1 137 (by decide +kernel) rfl)
theorem zmo_X5_7 : Cond.methodLink RX5 7 objectInit ∈ ztbl := (zi2 98 (by decide +kernel) rfl)
theorem zmo_X6_3 : Cond.methodLink RX6 3 objectInit ∈ ztbl := (zi2 141 (by decide +kernel) rfl)
theorem zmo_X7_7 : Cond.methodLink RX7 7 objectInit ∈ ztbl := (zi1 35 (by decide +kernel) rfl)
theorem zmo_X8_3 : Cond.methodLink RX8 3 objectInit ∈ ztbl := (zi2 111 (by decide +kernel) rfl)
theorem zmo_X9_3 : Cond.methodLink RX9 3 objectInit ∈ ztbl := (zi2 164 (by decide +kernel) rfl)
theorem zmo_X10_3 : Cond.methodLink RX10 3 objectInit ∈ ztbl := (zi2 197 (by decide +kernel) rfl)
theorem zmo_X12_1 : Cond.methodLink RX12 1 objectInit ∈ ztbl := (zi5 235 (by decide +kernel) rfl)
theorem zM_obj : Cond.instanceMethod objectInit ∈ ztbl ∧ Cond.code objectInit ⟨#[0xb1]⟩ 1 none ∈ ztbl := ⟨(zi1 28 (by decide +kernel) rfl), (zi1 29 rfl rfl)⟩
theorem zini_L : Cond.initialized RL ∈ ztbl := (zi1 0 (by decide +kernel) rfl)
theorem zini_X11 : Cond.initialized RX11 ∈ ztbl := (zi1 1 (by decide +kernel) rfl)
theorem zini_X7 : Cond.initialized RX7 ∈ ztbl := (zi1 2 (by decide +kernel) rfl)
theorem zini_J0 : Cond.initialized RJ0 ∈ ztbl := (zi1 3 (by decide +kernel) rfl)
theorem zini_J1 : Cond.initialized RJ1 ∈ ztbl := (zi1 4 (by decide +kernel) rfl)
theorem zini_J3 : Cond.initialized RJ3 ∈ ztbl := (zi1 5 (by decide +kernel) rfl)
theorem zini_J2 : Cond.initialized RJ2 ∈ ztbl := (zi1 6 (by decide +kernel) rfl)
theorem zini_X4 : Cond.initialized RX4 ∈ ztbl := (zi1 7 (by decide +kernel) rfl)
theorem zini_X2 : Cond.initialized RX2 ∈ ztbl := (zi1 8 (by decide +kernel) rfl)
theorem zini_X1 : Cond.initialized RX1 ∈ ztbl := (zi1 9 (by decide +kernel) rfl)
theorem zini_X3 : Cond.initialized RX3 ∈ ztbl := (zi1 10 (by decide +kernel) rfl)
theorem zini_X0 : Cond.initialized RX0 ∈ ztbl := (zi1 11 (by decide +kernel) rfl)
theorem zini_X5 : Cond.initialized RX5 ∈ ztbl := (zi1 12 (by decide +kernel) rfl)
theorem zini_X8 : Cond.initialized RX8 ∈ ztbl := (zi1 13 (by decide +kernel) rfl)
theorem zini_X6 : Cond.initialized RX6 ∈ ztbl := (zi1 14 (by decide +kernel) rfl)
theorem zini_X9 : Cond.initialized RX9 ∈ ztbl := (zi1 15 (by decide +kernel) rfl)
theorem zini_X10 : Cond.initialized RX10 ∈ ztbl := (zi1 16 (by decide +kernel) rfl)
theorem zini_J10 : Cond.initialized RJ10 ∈ ztbl := (zi1 17 (by decide +kernel) rfl)
theorem zini_X12 : Cond.initialized RX12 ∈ ztbl := (zi1 18 (by decide +kernel) rfl)
theorem zini_J9 : Cond.initialized RJ9 ∈ ztbl := (zi1 19 (by decide +kernel) rfl)
theorem zini_J11 : Cond.initialized RJ11 ∈ ztbl := (zi1 20 (by decide +kernel) rfl)
theorem zini_J6 : Cond.initialized RJ6 ∈ ztbl := (zi1 21 (by decide +kernel) rfl)
theorem zcl_L_7 : Cond.classLink RL 7 RX11 ∈ ztbl := (zi1 22 (by decide +kernel) rfl)
theorem zin_X11 : Cond.instantiable RX11 16 ∈ ztbl := (zi1 23 (by decide +kernel) rfl)
theorem zcl_X11_13 : Cond.classLink RX11 13 RX7 ∈ ztbl := (zi1 30 (by decide +kernel) rfl)
theorem zin_X7 : Cond.instantiable RX7 14 ∈ ztbl := (zi1 31 (by decide +kernel) rfl)
theorem zarr_byte : Cond.arrayClass .byte ∈ ztbl := (zi1 130 (by decide +kernel) rfl)
theorem zarr_long : Cond.arrayClass .long ∈ ztbl := (zi1 131 (by decide +kernel) rfl)
theorem zcl_X11_22 : Cond.classLink RX11 22 RX4 ∈ ztbl := (zi1 132 (by decide +kernel) rfl)
theorem zin_X4 : Cond.instantiable RX4 14 ∈ ztbl := (zi1 133 (by decide +kernel) rfl)
theorem zcl_X4_21 : Cond.classLink RX4 21 RX2 ∈ ztbl := (zi1 138 (by decide +kernel) rfl)
theorem zin_X2 : Cond.instantiable RX2 5 ∈ ztbl := (zi1 139 (by decide +kernel) rfl)
theorem zarr_int : Cond.arrayClass .int ∈ ztbl := (zi1 162 (by decide +kernel) rfl)
theorem zcl_X4_28 : Cond.classLink RX4 28 RX1 ∈ ztbl := (zi1 163 (by decide +kernel) rfl)
theorem zin_X1 : Cond.instantiable RX1 7 ∈ ztbl := (zi1 164 (by decide +kernel) rfl)
theorem zcl_X11_32 : Cond.classLink RX11 32 RX3 ∈ ztbl := (zi2 45 (by decide +kernel) rfl)
theorem zin_X3 : Cond.instantiable RX3 5 ∈ ztbl := (zi2 46 (by decide +kernel) rfl)
theorem zcl_X11_42 : Cond.classLink RX11 42 RX0 ∈ ztbl := (zi2 72 (by decide +kernel) rfl)
theorem zin_X0 : Cond.instantiable RX0 4 ∈ ztbl := (zi2 73 (by decide +kernel) rfl)
theorem zcl_X11_49 : Cond.classLink RX11 49 RX5 ∈ ztbl := (zi2 93 (by decide +kernel) rfl)
theorem zin_X5 : Cond.instantiable RX5 2 ∈ ztbl := (zi2 94 (by decide +kernel) rfl)
theorem zcl_X11_56 : Cond.classLink RX11 56 RX8 ∈ ztbl := (zi2 106 (by decide +kernel) rfl)
theorem zin_X8 : Cond.instantiable RX8 6 ∈ ztbl := (zi2 107 (by decide +kernel) rfl)
theorem zcl_X11_63 : Cond.classLink RX11 63 RX6 ∈ ztbl := (zi2 136 (by decide +kernel) rfl)
theorem zin_X6 : Cond.instantiable RX6 5 ∈ ztbl := (zi2 137 (by decide +kernel) rfl)
theorem zcl_X11_70 : Cond.classLink RX11 70 RX9 ∈ ztbl := (zi2 159 (by decide +kernel) rfl)
theorem zin_X9 : Cond.instantiable RX9 8 ∈ ztbl := (zi2 160 (by decide +kernel) rfl)
theorem zcl_X9_18 : Cond.classLink RX9 18 RX3 ∈ ztbl := (zi2 165 (by decide +kernel) rfl)
theorem zcl_X11_77 : Cond.classLink RX11 77 RX10 ∈ ztbl := (zi2 192 (by decide +kernel) rfl)
theorem zin_X10 : Cond.instantiable RX10 1 ∈ ztbl := (zi2 193 (by decide +kernel) rfl)
theorem zcl_L_10 : Cond.classLink RL 10 RX12 ∈ ztbl := (zi5 230 (by decide +kernel) rfl)
theorem zin_X12 : Cond.instantiable RX12 79 ∈ ztbl := (zi5 231 (by decide +kernel) rfl)
theorem zarr_boolean : Cond.arrayClass .boolean ∈ ztbl := (zi6 234 (by decide +kernel) rfl)
theorem zq_X11_9 : zFr RX11 9 11 0 (.array .byte) true := ⟨RX11, TX11, 16, tyX11, rfl, by decide, zcw_X11, (zi2 225 (by decide +kernel) rfl), tyX11_ok, nmX11, rfl, rfl, by decide +kernel⟩
theorem zq_X11_18 : zFr RX11 18 11 2 (.object "HedgeRecord$Reader") true := ⟨RX11, TX11, 16, tyX11, rfl, by decide, zcw_X11, (zi2 227 (by decide +kernel) rfl), tyX11_ok, nmX11, rfl, rfl, by decide +kernel⟩
theorem zq_X11_25 : zFr RX11 25 11 3 (.object "HedgeRecord$Hedge") false := ⟨RX11, TX11, 16, tyX11, rfl, by decide, zcw_X11, (zi2 228 (by decide +kernel) rfl), tyX11_ok, nmX11, rfl, rfl, by decide +kernel⟩
theorem zq_X11_29 : zFr RX11 29 11 4 (.object "HedgeRecord$Hedge") false := ⟨RX11, TX11, 16, tyX11, rfl, by decide, zcw_X11, (zi2 229 (by decide +kernel) rfl), tyX11_ok, nmX11, rfl, rfl, by decide +kernel⟩
theorem zq_X11_35 : zFr RX11 35 11 5 (.object "HedgeRecord$Growth") true := ⟨RX11, TX11, 16, tyX11, rfl, by decide, zcw_X11, (zi2 230 (by decide +kernel) rfl), tyX11_ok, nmX11, rfl, rfl, by decide +kernel⟩
theorem zq_X11_39 : zFr RX11 39 11 6 (.object "HedgeRecord$Growth") true := ⟨RX11, TX11, 16, tyX11, rfl, by decide, zcw_X11, (zi2 231 (by decide +kernel) rfl), tyX11_ok, nmX11, rfl, rfl, by decide +kernel⟩
theorem zq_X11_45 : zFr RX11 45 11 7 (.object "HedgeRecord$Acts") true := ⟨RX11, TX11, 16, tyX11, rfl, by decide, zcw_X11, (zi2 232 (by decide +kernel) rfl), tyX11_ok, nmX11, rfl, rfl, by decide +kernel⟩
theorem zq_X11_52 : zFr RX11 52 11 8 (.object "HedgeRecord$Images") true := ⟨RX11, TX11, 16, tyX11, rfl, by decide, zcw_X11, (zi2 233 (by decide +kernel) rfl), tyX11_ok, nmX11, rfl, rfl, by decide +kernel⟩
theorem zq_X11_59 : zFr RX11 59 11 9 (.object "HedgeRecord$Rings") true := ⟨RX11, TX11, 16, tyX11, rfl, by decide, zcw_X11, (zi2 234 (by decide +kernel) rfl), tyX11_ok, nmX11, rfl, rfl, by decide +kernel⟩
theorem zq_X11_66 : zFr RX11 66 11 10 (.object "HedgeRecord$Orders") true := ⟨RX11, TX11, 16, tyX11, rfl, by decide, zcw_X11, (zi2 235 (by decide +kernel) rfl), tyX11_ok, nmX11, rfl, rfl, by decide +kernel⟩
theorem zq_X11_73 : zFr RX11 73 11 11 (.object "HedgeRecord$Trimming") true := ⟨RX11, TX11, 16, tyX11, rfl, by decide, zcw_X11, (zi2 236 (by decide +kernel) rfl), tyX11_ok, nmX11, rfl, rfl, by decide +kernel⟩
theorem zq_X11_80 : zFr RX11 80 11 12 (.object "HedgeRecord$Turns") true := ⟨RX11, TX11, 16, tyX11, rfl, by decide, zcw_X11, (zi2 237 (by decide +kernel) rfl), tyX11_ok, nmX11, rfl, rfl, by decide +kernel⟩
theorem zq_X11_84 : zFr RX11 84 11 13 (.array .int) true := ⟨RX11, TX11, 16, tyX11, rfl, by decide, zcw_X11, (zi2 238 (by decide +kernel) rfl), tyX11_ok, nmX11, rfl, rfl, by decide +kernel⟩
theorem zq_X11_88 : zFr RX11 88 11 14 (.array .int) true := ⟨RX11, TX11, 16, tyX11, rfl, by decide, zcw_X11, (zi2 239 (by decide +kernel) rfl), tyX11_ok, nmX11, rfl, rfl, by decide +kernel⟩
theorem zq_X0_13 : zFr RX0 13 0 3 (.array .int) true := ⟨RX0, TX0, 4, tyX0, rfl, by decide, zcw_X0, (zi2 83 (by decide +kernel) rfl), tyX0_ok, nmX0, rfl, rfl, by decide +kernel⟩
theorem zq_X1_9 : zFr RX1 9 1 0 (.array .int) true := ⟨RX1, TX1, 7, tyX1, rfl, by decide, zcw_X1, (zi1 169 (by decide +kernel) rfl), tyX1_ok, nmX1, rfl, rfl, by decide +kernel⟩
theorem zq_X1_15 : zFr RX1 15 1 1 (.array .int) true := ⟨RX1, TX1, 7, tyX1, rfl, by decide, zcw_X1, (zi1 172 (by decide +kernel) rfl), tyX1_ok, nmX1, rfl, rfl, by decide +kernel⟩
theorem zq_X1_18 : zFr RX1 18 1 2 (.array .int) true := ⟨RX1, TX1, 7, tyX1, rfl, by decide, zcw_X1, (zi1 176 (by decide +kernel) rfl), tyX1_ok, nmX1, rfl, rfl, by decide +kernel⟩
theorem zq_X1_21 : zFr RX1 21 1 3 (.array .int) true := ⟨RX1, TX1, 7, tyX1, rfl, by decide, zcw_X1, (zi1 178 (by decide +kernel) rfl), tyX1_ok, nmX1, rfl, rfl, by decide +kernel⟩
theorem zq_X1_24 : zFr RX1 24 1 4 (.array .int) true := ⟨RX1, TX1, 7, tyX1, rfl, by decide, zcw_X1, (zi1 180 (by decide +kernel) rfl), tyX1_ok, nmX1, rfl, rfl, by decide +kernel⟩
theorem zq_X1_27 : zFr RX1 27 1 5 (.array .int) true := ⟨RX1, TX1, 7, tyX1, rfl, by decide, zcw_X1, (zi1 183 (by decide +kernel) rfl), tyX1_ok, nmX1, rfl, rfl, by decide +kernel⟩
theorem zq_X1_30 : zFr RX1 30 1 6 (.array .int) true := ⟨RX1, TX1, 7, tyX1, rfl, by decide, zcw_X1, (zi1 186 (by decide +kernel) rfl), tyX1_ok, nmX1, rfl, rfl, by decide +kernel⟩
theorem zq_X2_9 : zFr RX2 9 2 2 (.array .int) true := ⟨RX2, TX2, 5, tyX2, rfl, by decide, zcw_X2, (zi1 148 (by decide +kernel) rfl), tyX2_ok, nmX2, rfl, rfl, by decide +kernel⟩
theorem zq_X2_13 : zFr RX2 13 2 3 (.array .int) true := ⟨RX2, TX2, 5, tyX2, rfl, by decide, zcw_X2, (zi1 149 (by decide +kernel) rfl), tyX2_ok, nmX2, rfl, rfl, by decide +kernel⟩
theorem zq_X2_16 : zFr RX2 16 2 4 (.array .int) true := ⟨RX2, TX2, 5, tyX2, rfl, by decide, zcw_X2, (zi1 150 (by decide +kernel) rfl), tyX2_ok, nmX2, rfl, rfl, by decide +kernel⟩
theorem zq_X3_9 : zFr RX3 9 3 3 (.array .int) true := ⟨RX3, TX3, 5, tyX3, rfl, by decide, zcw_X3, (zi2 57 (by decide +kernel) rfl), tyX3_ok, nmX3, rfl, rfl, by decide +kernel⟩
theorem zq_X3_15 : zFr RX3 15 3 4 (.array .int) true := ⟨RX3, TX3, 5, tyX3, rfl, by decide, zcw_X3, (zi2 59 (by decide +kernel) rfl), tyX3_ok, nmX3, rfl, rfl, by decide +kernel⟩
theorem zq_X4_9 : zFr RX4 9 4 5 (.array .int) true := ⟨RX4, TX4, 14, tyX4, rfl, by decide, zcw_X4, (zi1 227 (by decide +kernel) rfl), tyX4_ok, nmX4, rfl, rfl, by decide +kernel⟩
theorem zq_X4_15 : zFr RX4 15 4 7 (.array .int) true := ⟨RX4, TX4, 14, tyX4, rfl, by decide, zcw_X4, (zi1 233 (by decide +kernel) rfl), tyX4_ok, nmX4, rfl, rfl, by decide +kernel⟩
theorem zq_X4_18 : zFr RX4 18 4 8 (.array .int) true := ⟨RX4, TX4, 14, tyX4, rfl, by decide, zcw_X4, (zi1 235 (by decide +kernel) rfl), tyX4_ok, nmX4, rfl, rfl, by decide +kernel⟩
theorem zq_X4_24 : zFr RX4 24 4 12 (.object "HedgeRecord$Formula") true := ⟨RX4, TX4, 14, tyX4, rfl, by decide, zcw_X4, (zi2 6 (by decide +kernel) rfl), tyX4_ok, nmX4, rfl, rfl, by decide +kernel⟩
theorem zq_X4_31 : zFr RX4 31 4 13 (.object "HedgeRecord$Bills") true := ⟨RX4, TX4, 14, tyX4, rfl, by decide, zcw_X4, (zi2 10 (by decide +kernel) rfl), tyX4_ok, nmX4, rfl, rfl, by decide +kernel⟩
theorem zq_X5_15 : zFr RX5 15 5 1 (.array .int) true := ⟨RX5, TX5, 2, tyX5, rfl, by decide, zcw_X5, (zi2 100 (by decide +kernel) rfl), tyX5_ok, nmX5, rfl, rfl, by decide +kernel⟩
theorem zq_X6_9 : zFr RX6 9 6 2 (.array .int) true := ⟨RX6, TX6, 5, tyX6, rfl, by decide, zcw_X6, (zi2 145 (by decide +kernel) rfl), tyX6_ok, nmX6, rfl, rfl, by decide +kernel⟩
theorem zq_X6_15 : zFr RX6 15 6 3 (.array .int) true := ⟨RX6, TX6, 5, tyX6, rfl, by decide, zcw_X6, (zi2 146 (by decide +kernel) rfl), tyX6_ok, nmX6, rfl, rfl, by decide +kernel⟩
theorem zq_X6_18 : zFr RX6 18 6 4 (.array .int) true := ⟨RX6, TX6, 5, tyX6, rfl, by decide, zcw_X6, (zi2 147 (by decide +kernel) rfl), tyX6_ok, nmX6, rfl, rfl, by decide +kernel⟩
theorem zq_X7_17 : zFr RX7 17 7 2 (.array .byte) true := ⟨RX7, TX7, 14, tyX7, rfl, by decide, zcw_X7, (zi1 89 (by decide +kernel) rfl), tyX7_ok, nmX7, rfl, rfl, by decide +kernel⟩
theorem zq_X7_21 : zFr RX7 21 7 12 (.array .long) true := ⟨RX7, TX7, 14, tyX7, rfl, by decide, zcw_X7, (zi1 99 (by decide +kernel) rfl), tyX7_ok, nmX7, rfl, rfl, by decide +kernel⟩
theorem zq_X7_25 : zFr RX7 25 7 13 (.array .long) true := ⟨RX7, TX7, 14, tyX7, rfl, by decide, zcw_X7, (zi1 100 (by decide +kernel) rfl), tyX7_ok, nmX7, rfl, rfl, by decide +kernel⟩
theorem zq_X8_9 : zFr RX8 9 8 2 (.array .int) true := ⟨RX8, TX8, 6, tyX8, rfl, by decide, zcw_X8, (zi2 117 (by decide +kernel) rfl), tyX8_ok, nmX8, rfl, rfl, by decide +kernel⟩
theorem zq_X8_15 : zFr RX8 15 8 3 (.array .int) true := ⟨RX8, TX8, 6, tyX8, rfl, by decide, zcw_X8, (zi2 119 (by decide +kernel) rfl), tyX8_ok, nmX8, rfl, rfl, by decide +kernel⟩
theorem zq_X8_18 : zFr RX8 18 8 4 (.array .int) true := ⟨RX8, TX8, 6, tyX8, rfl, by decide, zcw_X8, (zi2 121 (by decide +kernel) rfl), tyX8_ok, nmX8, rfl, rfl, by decide +kernel⟩
theorem zq_X8_21 : zFr RX8 21 8 5 (.array .int) true := ⟨RX8, TX8, 6, tyX8, rfl, by decide, zcw_X8, (zi2 122 (by decide +kernel) rfl), tyX8_ok, nmX8, rfl, rfl, by decide +kernel⟩
theorem zq_X9_9 : zFr RX9 9 9 4 (.array .int) true := ⟨RX9, TX9, 8, tyX9, rfl, by decide, zcw_X9, (zi2 171 (by decide +kernel) rfl), tyX9_ok, nmX9, rfl, rfl, by decide +kernel⟩
theorem zq_X9_15 : zFr RX9 15 9 5 (.array .int) true := ⟨RX9, TX9, 8, tyX9, rfl, by decide, zcw_X9, (zi2 172 (by decide +kernel) rfl), tyX9_ok, nmX9, rfl, rfl, by decide +kernel⟩
theorem zq_X9_20 : zFr RX9 20 9 6 (.array .int) true := ⟨RX9, TX9, 8, tyX9, rfl, by decide, zcw_X9, (zi2 173 (by decide +kernel) rfl), tyX9_ok, nmX9, rfl, rfl, by decide +kernel⟩
theorem zq_X9_24 : zFr RX9 24 9 7 (.object "HedgeRecord$Growth") true := ⟨RX9, TX9, 8, tyX9, rfl, by decide, zcw_X9, (zi2 174 (by decide +kernel) rfl), tyX9_ok, nmX9, rfl, rfl, by decide +kernel⟩
theorem zq_X10_9 : zFr RX10 9 10 0 (.array .int) true := ⟨RX10, TX10, 1, tyX10, rfl, by decide, zcw_X10, (zi2 198 (by decide +kernel) rfl), tyX10_ok, nmX10, rfl, rfl, by decide +kernel⟩
theorem zq_X12_7 : zFr RX12 7 12 0 (.array .int) true := ⟨RX12, TX12, 79, tyX12, rfl, by decide, zcw_X12, (zi5 236 (by decide +kernel) rfl), tyX12_ok, nmX12, rfl, rfl, by decide +kernel⟩
theorem zq_X12_17 : zFr RX12 17 12 10 (.array .long) true := ⟨RX12, TX12, 79, tyX12, rfl, by decide, zcw_X12, (zi6 6 (by decide +kernel) rfl), tyX12_ok, nmX12, rfl, rfl, by decide +kernel⟩
theorem zq_X12_21 : zFr RX12 21 12 11 (.array .int) true := ⟨RX12, TX12, 79, tyX12, rfl, by decide, zcw_X12, (zi6 7 (by decide +kernel) rfl), tyX12_ok, nmX12, rfl, rfl, by decide +kernel⟩
theorem zq_X12_24 : zFr RX12 24 12 12 (.array .int) true := ⟨RX12, TX12, 79, tyX12, rfl, by decide, zcw_X12, (zi6 8 (by decide +kernel) rfl), tyX12_ok, nmX12, rfl, rfl, by decide +kernel⟩
theorem zq_X12_27 : zFr RX12 27 12 13 (.array .int) true := ⟨RX12, TX12, 79, tyX12, rfl, by decide, zcw_X12, (zi6 9 (by decide +kernel) rfl), tyX12_ok, nmX12, rfl, rfl, by decide +kernel⟩
theorem zq_X12_30 : zFr RX12 30 12 14 (.array .int) true := ⟨RX12, TX12, 79, tyX12, rfl, by decide, zcw_X12, (zi6 10 (by decide +kernel) rfl), tyX12_ok, nmX12, rfl, rfl, by decide +kernel⟩
theorem zq_X12_33 : zFr RX12 33 12 15 (.array .int) true := ⟨RX12, TX12, 79, tyX12, rfl, by decide, zcw_X12, (zi6 11 (by decide +kernel) rfl), tyX12_ok, nmX12, rfl, rfl, by decide +kernel⟩
theorem zq_X12_36 : zFr RX12 36 12 16 (.array .int) true := ⟨RX12, TX12, 79, tyX12, rfl, by decide, zcw_X12, (zi6 12 (by decide +kernel) rfl), tyX12_ok, nmX12, rfl, rfl, by decide +kernel⟩
theorem zq_X12_39 : zFr RX12 39 12 24 (.array .int) true := ⟨RX12, TX12, 79, tyX12, rfl, by decide, zcw_X12, (zi6 20 (by decide +kernel) rfl), tyX12_ok, nmX12, rfl, rfl, by decide +kernel⟩
theorem zq_X12_42 : zFr RX12 42 12 25 (.array .int) true := ⟨RX12, TX12, 79, tyX12, rfl, by decide, zcw_X12, (zi6 21 (by decide +kernel) rfl), tyX12_ok, nmX12, rfl, rfl, by decide +kernel⟩
theorem zq_X12_45 : zFr RX12 45 12 26 (.array .int) true := ⟨RX12, TX12, 79, tyX12, rfl, by decide, zcw_X12, (zi6 22 (by decide +kernel) rfl), tyX12_ok, nmX12, rfl, rfl, by decide +kernel⟩
theorem zq_X12_48 : zFr RX12 48 12 27 (.array .int) true := ⟨RX12, TX12, 79, tyX12, rfl, by decide, zcw_X12, (zi6 23 (by decide +kernel) rfl), tyX12_ok, nmX12, rfl, rfl, by decide +kernel⟩
theorem zq_X12_51 : zFr RX12 51 12 28 (.array .int) true := ⟨RX12, TX12, 79, tyX12, rfl, by decide, zcw_X12, (zi6 24 (by decide +kernel) rfl), tyX12_ok, nmX12, rfl, rfl, by decide +kernel⟩
theorem zq_X12_54 : zFr RX12 54 12 29 (.array .int) true := ⟨RX12, TX12, 79, tyX12, rfl, by decide, zcw_X12, (zi6 25 (by decide +kernel) rfl), tyX12_ok, nmX12, rfl, rfl, by decide +kernel⟩
theorem zq_X12_57 : zFr RX12 57 12 30 (.array .int) true := ⟨RX12, TX12, 79, tyX12, rfl, by decide, zcw_X12, (zi6 26 (by decide +kernel) rfl), tyX12_ok, nmX12, rfl, rfl, by decide +kernel⟩
theorem zq_X12_60 : zFr RX12 60 12 31 (.array .boolean) true := ⟨RX12, TX12, 79, tyX12, rfl, by decide, zcw_X12, (zi6 27 (by decide +kernel) rfl), tyX12_ok, nmX12, rfl, rfl, by decide +kernel⟩
theorem zq_X12_64 : zFr RX12 64 12 32 (.array .boolean) true := ⟨RX12, TX12, 79, tyX12, rfl, by decide, zcw_X12, (zi6 28 (by decide +kernel) rfl), tyX12_ok, nmX12, rfl, rfl, by decide +kernel⟩
theorem zq_X12_67 : zFr RX12 67 12 33 (.array .int) true := ⟨RX12, TX12, 79, tyX12, rfl, by decide, zcw_X12, (zi6 29 (by decide +kernel) rfl), tyX12_ok, nmX12, rfl, rfl, by decide +kernel⟩
theorem zq_X12_76 : zFr RX12 76 12 53 (.array .int) true := ⟨RX12, TX12, 79, tyX12, rfl, by decide, zcw_X12, (zi6 49 (by decide +kernel) rfl), tyX12_ok, nmX12, rfl, rfl, by decide +kernel⟩
theorem zq_X12_79 : zFr RX12 79 12 54 (.array .int) true := ⟨RX12, TX12, 79, tyX12, rfl, by decide, zcw_X12, (zi6 50 (by decide +kernel) rfl), tyX12_ok, nmX12, rfl, rfl, by decide +kernel⟩
theorem zq_X12_82 : zFr RX12 82 12 55 (.array .int) true := ⟨RX12, TX12, 79, tyX12, rfl, by decide, zcw_X12, (zi6 51 (by decide +kernel) rfl), tyX12_ok, nmX12, rfl, rfl, by decide +kernel⟩
theorem zq_X12_85 : zFr RX12 85 12 58 (.array .int) true := ⟨RX12, TX12, 79, tyX12, rfl, by decide, zcw_X12, (zi6 54 (by decide +kernel) rfl), tyX12_ok, nmX12, rfl, rfl, by decide +kernel⟩
theorem zq_X12_88 : zFr RX12 88 12 59 (.array .int) true := ⟨RX12, TX12, 79, tyX12, rfl, by decide, zcw_X12, (zi6 55 (by decide +kernel) rfl), tyX12_ok, nmX12, rfl, rfl, by decide +kernel⟩
theorem zq_X12_91 : zFr RX12 91 12 61 (.array .int) true := ⟨RX12, TX12, 79, tyX12, rfl, by decide, zcw_X12, (zi6 57 (by decide +kernel) rfl), tyX12_ok, nmX12, rfl, rfl, by decide +kernel⟩
theorem zq_X12_94 : zFr RX12 94 12 62 (.array .int) true := ⟨RX12, TX12, 79, tyX12, rfl, by decide, zcw_X12, (zi6 58 (by decide +kernel) rfl), tyX12_ok, nmX12, rfl, rfl, by decide +kernel⟩
theorem zq_X12_97 : zFr RX12 97 12 63 (.array .int) true := ⟨RX12, TX12, 79, tyX12, rfl, by decide, zcw_X12, (zi6 59 (by decide +kernel) rfl), tyX12_ok, nmX12, rfl, rfl, by decide +kernel⟩
theorem zq_X12_100 : zFr RX12 100 12 64 (.array .int) true := ⟨RX12, TX12, 79, tyX12, rfl, by decide, zcw_X12, (zi6 60 (by decide +kernel) rfl), tyX12_ok, nmX12, rfl, rfl, by decide +kernel⟩
theorem zq_X12_103 : zFr RX12 103 12 67 (.array .int) true := ⟨RX12, TX12, 79, tyX12, rfl, by decide, zcw_X12, (zi6 63 (by decide +kernel) rfl), tyX12_ok, nmX12, rfl, rfl, by decide +kernel⟩
theorem zq_X12_106 : zFr RX12 106 12 68 (.array .int) true := ⟨RX12, TX12, 79, tyX12, rfl, by decide, zcw_X12, (zi6 64 (by decide +kernel) rfl), tyX12_ok, nmX12, rfl, rfl, by decide +kernel⟩
theorem zq_X12_109 : zFr RX12 109 12 69 (.array .int) true := ⟨RX12, TX12, 79, tyX12, rfl, by decide, zcw_X12, (zi6 65 (by decide +kernel) rfl), tyX12_ok, nmX12, rfl, rfl, by decide +kernel⟩
theorem zq_X12_112 : zFr RX12 112 12 70 (.array .int) true := ⟨RX12, TX12, 79, tyX12, rfl, by decide, zcw_X12, (zi6 66 (by decide +kernel) rfl), tyX12_ok, nmX12, rfl, rfl, by decide +kernel⟩
theorem zq_X12_115 : zFr RX12 115 12 71 (.array .boolean) true := ⟨RX12, TX12, 79, tyX12, rfl, by decide, zcw_X12, (zi6 67 (by decide +kernel) rfl), tyX12_ok, nmX12, rfl, rfl, by decide +kernel⟩
theorem zq_X12_118 : zFr RX12 118 12 74 (.array .int) true := ⟨RX12, TX12, 79, tyX12, rfl, by decide, zcw_X12, (zi6 70 (by decide +kernel) rfl), tyX12_ok, nmX12, rfl, rfl, by decide +kernel⟩
theorem zq_X12_121 : zFr RX12 121 12 75 (.array .int) true := ⟨RX12, TX12, 79, tyX12, rfl, by decide, zcw_X12, (zi6 71 (by decide +kernel) rfl), tyX12_ok, nmX12, rfl, rfl, by decide +kernel⟩
theorem zq_X12_124 : zFr RX12 124 12 76 (.array .int) true := ⟨RX12, TX12, 79, tyX12, rfl, by decide, zcw_X12, (zi6 72 (by decide +kernel) rfl), tyX12_ok, nmX12, rfl, rfl, by decide +kernel⟩
theorem zq_X12_127 : zFr RX12 127 12 77 (.array .boolean) true := ⟨RX12, TX12, 79, tyX12, rfl, by decide, zcw_X12, (zi6 73 (by decide +kernel) rfl), tyX12_ok, nmX12, rfl, rfl, by decide +kernel⟩
theorem zq_X12_130 : zFr RX12 130 12 78 (.array .int) true := ⟨RX12, TX12, 79, tyX12, rfl, by decide, zcw_X12, (zi6 74 (by decide +kernel) rfl), tyX12_ok, nmX12, rfl, rfl, by decide +kernel⟩
theorem zMc_X0_init : zMc yX0_init cX0_init 1 0 := ⟨(zi1 11 (by decide +kernel) rfl), (zi2 75 (by decide +kernel) rfl), (zi2 76 rfl rfl), ⟨by decide +kernel, by decide +kernel, by decide +kernel⟩, rfl⟩
theorem zMc_X1_init : zMc yX1_init cX1_init 1 0 := ⟨(zi1 9 (by decide +kernel) rfl), (zi1 166 (by decide +kernel) rfl), (zi1 167 rfl rfl), ⟨by decide +kernel, by decide +kernel, by decide +kernel⟩, rfl⟩
theorem zMc_X2_init : zMc yX2_init cX2_init 1 0 := ⟨(zi1 8 (by decide +kernel) rfl), (zi1 141 (by decide +kernel) rfl), (zi1 142 rfl rfl), ⟨by decide +kernel, by decide +kernel, by decide +kernel⟩, rfl⟩
theorem zMc_X3_init : zMc yX3_init cX3_init 1 0 := ⟨(zi1 10 (by decide +kernel) rfl), (zi2 48 (by decide +kernel) rfl), (zi2 49 rfl rfl), ⟨by decide +kernel, by decide +kernel, by decide +kernel⟩, rfl⟩
theorem zMc_X4_init : zMc yX4_init cX4_init 1 0 := ⟨(zi1 7 (by decide +kernel) rfl), (zi1 135 (by decide +kernel) rfl), (zi1 136 rfl rfl), ⟨by decide +kernel, by decide +kernel, by decide +kernel⟩, rfl⟩
theorem zMc_X5_init : zMc yX5_init cX5_init 1 0 := ⟨(zi1 12 (by decide +kernel) rfl), (zi2 96 (by decide +kernel) rfl), (zi2 97 rfl rfl), ⟨by decide +kernel, by decide +kernel, by decide +kernel⟩, rfl⟩
theorem zMc_X6_init : zMc yX6_init cX6_init 1 0 := ⟨(zi1 14 (by decide +kernel) rfl), (zi2 139 (by decide +kernel) rfl), (zi2 140 rfl rfl), ⟨by decide +kernel, by decide +kernel, by decide +kernel⟩, rfl⟩
theorem zMc_X7_init : zMc yX7_init cX7_init 4 1 := ⟨(zi1 2 (by decide +kernel) rfl), (zi1 33 (by decide +kernel) rfl), (zi1 34 rfl rfl), ⟨by decide +kernel, by decide +kernel, by decide +kernel⟩, rfl⟩
theorem zMc_X8_init : zMc yX8_init cX8_init 1 0 := ⟨(zi1 13 (by decide +kernel) rfl), (zi2 109 (by decide +kernel) rfl), (zi2 110 rfl rfl), ⟨by decide +kernel, by decide +kernel, by decide +kernel⟩, rfl⟩
theorem zMc_X9_init : zMc yX9_init cX9_init 1 0 := ⟨(zi1 15 (by decide +kernel) rfl), (zi2 162 (by decide +kernel) rfl), (zi2 163 rfl rfl), ⟨by decide +kernel, by decide +kernel, by decide +kernel⟩, rfl⟩
theorem zMc_X10_init : zMc yX10_init cX10_init 1 0 := ⟨(zi1 16 (by decide +kernel) rfl), (zi2 195 (by decide +kernel) rfl), (zi2 196 rfl rfl), ⟨by decide +kernel, by decide +kernel, by decide +kernel⟩, rfl⟩
theorem zMc_X11_init : zMc yX11_init cX11_init 1 0 := ⟨(zi1 1 (by decide +kernel) rfl), (zi1 25 (by decide +kernel) rfl), (zi1 26 rfl rfl), ⟨by decide +kernel, by decide +kernel, by decide +kernel⟩, rfl⟩
theorem zMc_X12_init : zMc yX12_init cX12_init 1 0 := ⟨(zi1 18 (by decide +kernel) rfl), (zi5 233 (by decide +kernel) rfl), (zi5 234 rfl rfl), ⟨by decide +kernel, by decide +kernel, by decide +kernel⟩, rfl⟩
theorem zclr_id {S : zS} {k : Nat} (h1 : S.1 k = fun _ => 0) (h2 : S.2 k = fun _ => 0) : zclr S k = S := by
  refine Prod.ext (funext fun j => ?_) (funext fun j => ?_)
  · show (if j = k then _ else S.1 j) = _
    by_cases h : j = k
    · rw [if_pos h, h, h1]
    · rw [if_neg h]
  · show (if j = k then _ else S.2 j) = _
    by_cases h : j = k
    · rw [if_pos h, h, h2]
    · rw [if_neg h]
theorem zcat0 (k : Nat) : zcat k zS0 zS0 = zS0 := by
  refine Prod.ext (funext fun j => ?_) (funext fun j => ?_)
  · show (if j < k then _ else _) = _
    by_cases h : j < k
    · rw [if_pos h]
    · rw [if_neg h]; rfl
  · show (if j < k then _ else _) = _
    by_cases h : j < k
    · rw [if_pos h]
    · rw [if_neg h]; rfl
section ZG3
variable {Ly : List zC} {l : Launch} {own : String} {cc : ByteArray} {nL : Nat} {ret : Option FieldType} {R : Room} {n0 nc ns : Nat} {ini : Bool} {EX : State → (Nat → Prop) → (Nat → Nat) → Prop} {Qf : List Frame → Array Value → State → va_G → (Nat → ClassId) → (Nat → Nat) → (Nat → Prop) → State → Prop} {S : zS} {pc : Nat} {lo : List (Nat × Value)} {st : List Value}
theorem g_ly {Ly2 : List zC} (h : Ly = Ly2) (k : WG Ly2 l own cc nL ret R n0 ini EX Qf nc ns pc lo st S) : WG Ly l own cc nL ret R n0 ini EX Qf nc ns pc lo st S := h ▸ k
end ZG3
