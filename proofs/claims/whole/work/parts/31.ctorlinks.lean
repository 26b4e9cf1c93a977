theorem oi_1 : Cond.instanceMethod objectInit ∈ gw := gm_1 27 rfl rfl
theorem oi_2 : Cond.code objectInit ⟨#[0xb1]⟩ 1 none ∈ gw := gm_1 28 rfl rfl
theorem dv_0 : ∀ j, j < 7 → defaultValue (fy_0 j) = vp_V (dfl 0) j := by decide +kernel
theorem dv_1 : ∀ j, j < 7 → defaultValue (fy_1 j) = vp_V (dfl 1) j := by decide +kernel
theorem dv_2 : ∀ j, j < 2 → defaultValue (fy_2 j) = vp_V (dfl 2) j := by decide +kernel
theorem dv_3 : ∀ j, j < 3 → defaultValue (fy_3 j) = vp_V (dfl 3) j := by decide +kernel
theorem dv_4 : ∀ j, j < 3 → defaultValue (fy_4 j) = vp_V (dfl 4) j := by decide +kernel
theorem dv_5 : ∀ j, j < 11 → defaultValue (fy_5 j) = vp_V (dfl 5) j := by decide +kernel
theorem dv_6 : ∀ j, j < 5 → defaultValue (fy_6 j) = vp_V (dfl 6) j := by decide +kernel
theorem dv_7 : ∀ j, j < 12 → defaultValue (fy_7 j) = vp_V (dfl 7) j := by decide +kernel
theorem dv_8 : ∀ j, j < 3 → defaultValue (fy_8 j) = vp_V (dfl 8) j := by decide +kernel
theorem dv_9 : ∀ j, j < 4 → defaultValue (fy_9 j) = vp_V (dfl 9) j := by decide +kernel
theorem dv_10 : ∀ j, j < 20 → defaultValue (fy_10 j) = vp_V (dfl 10) j := by decide +kernel
theorem dv_11 : ∀ j, j < 56 → defaultValue (fy_11 j) = vp_V (dfl 11) j := by decide +kernel
theorem ol_10 : Cond.methodLink cn_10 1 objectInit ∈ gw := gm_1 26 rfl rfl
theorem ol_5 : Cond.methodLink cn_5 5 objectInit ∈ gw := gm_1 36 rfl rfl
theorem ol_4 : Cond.methodLink cn_4 5 objectInit ∈ gw := gm_1 79 rfl rfl
theorem ol_6 : Cond.methodLink cn_6 3 objectInit ∈ gw := gm_1 96 rfl rfl
theorem ol_9 : Cond.methodLink cn_9 3 objectInit ∈ gw := gm_1 142 rfl rfl
theorem ol_2 : Cond.methodLink cn_2 5 objectInit ∈ gw := gm_1 165 rfl rfl
theorem ol_1 : Cond.methodLink cn_1 3 objectInit ∈ gw := gm_1 179 rfl rfl
theorem ol_8 : Cond.methodLink cn_8 3 objectInit ∈ gw := gm_1 218 rfl rfl
theorem ol_3 : Cond.methodLink cn_3 3 objectInit ∈ gw := gm_1 234 rfl rfl
theorem ol_0 : Cond.methodLink cn_0 3 objectInit ∈ gw := gm_2 12 rfl rfl
theorem ol_7 : Cond.methodLink cn_7 3 objectInit ∈ gw := gm_2 45 rfl rfl
theorem ol_11 : Cond.methodLink cn_11 22 objectInit ∈ gw := gm_5 172 rfl rfl
theorem ac_int : Cond.arrayClass .int ∈ gw := gm_1 73 rfl rfl
theorem ac_byte : Cond.arrayClass .byte ∈ gw := gm_4 9 rfl rfl
theorem ac_boolean : Cond.arrayClass .boolean ∈ gw := gm_1 72 rfl rfl
theorem ac_long : Cond.arrayClass .long ∈ gw := gm_1 159 rfl rfl
theorem cl_10_9 : Cond.classLink cn_10 9 "SteamNations$House" ∈ gw := gm_1 29 rfl rfl
theorem cl_1_18 : Cond.classLink cn_1 18 "SteamNations$Text" ∈ gw := gm_1 182 rfl rfl
theorem ff_10_11 : FLkF cn_10 11 10 1 (.array (.object "SteamNations$House")) := ⟨cn_10, ft_10, 20, fy_10, rfl, by decide, in_10, fo_10, nm_10, gm_2 86 rfl rfl, rfl, rfl, rfl⟩
theorem ff_10_15 : FLkF cn_10 15 10 2 (.array .boolean) := ⟨cn_10, ft_10, 20, fy_10, rfl, by decide, in_10, fo_10, nm_10, gm_2 87 rfl rfl, rfl, rfl, rfl⟩
theorem ff_10_19 : FLkF cn_10 19 10 3 (.array .int) := ⟨cn_10, ft_10, 20, fy_10, rfl, by decide, in_10, fo_10, nm_10, gm_2 88 rfl rfl, rfl, rfl, rfl⟩
theorem ff_10_26 : FLkF cn_10 26 10 4 (.object "SteamNations$Reader") := ⟨cn_10, ft_10, 20, fy_10, rfl, by decide, in_10, fo_10, nm_10, gm_2 89 rfl rfl, rfl, rfl, rfl⟩
theorem ff_10_33 : FLkF cn_10 33 10 6 (.object "SteamNations$Past") := ⟨cn_10, ft_10, 20, fy_10, rfl, by decide, in_10, fo_10, nm_10, gm_2 91 rfl rfl, rfl, rfl, rfl⟩
theorem ff_10_40 : FLkF cn_10 40 10 10 (.object "SteamNations$Room") := ⟨cn_10, ft_10, 20, fy_10, rfl, by decide, in_10, fo_10, nm_10, gm_2 95 rfl rfl, rfl, rfl, rfl⟩
theorem ff_10_44 : FLkF cn_10 44 10 11 (.object "SteamNations$Room") := ⟨cn_10, ft_10, 20, fy_10, rfl, by decide, in_10, fo_10, nm_10, gm_2 96 rfl rfl, rfl, rfl, rfl⟩
theorem ff_10_47 : FLkF cn_10 47 10 12 (.array .int) := ⟨cn_10, ft_10, 20, fy_10, rfl, by decide, in_10, fo_10, nm_10, gm_2 97 rfl rfl, rfl, rfl, rfl⟩
theorem ff_10_50 : FLkF cn_10 50 10 13 (.array .int) := ⟨cn_10, ft_10, 20, fy_10, rfl, by decide, in_10, fo_10, nm_10, gm_2 98 rfl rfl, rfl, rfl, rfl⟩
theorem ff_10_53 : FLkF cn_10 53 10 14 (.array .long) := ⟨cn_10, ft_10, 20, fy_10, rfl, by decide, in_10, fo_10, nm_10, gm_2 99 rfl rfl, rfl, rfl, rfl⟩
theorem ff_10_57 : FLkF cn_10 57 10 15 (.array .int) := ⟨cn_10, ft_10, 20, fy_10, rfl, by decide, in_10, fo_10, nm_10, gm_2 100 rfl rfl, rfl, rfl, rfl⟩
theorem ff_10_75 : FLkF cn_10 75 10 0 (.object "SteamNations$House") := ⟨cn_10, ft_10, 20, fy_10, rfl, by decide, in_10, fo_10, nm_10, gm_2 85 rfl rfl, rfl, rfl, rfl⟩
theorem ff_10_84 : FLkF cn_10 84 10 5 (.object "SteamNations$Steam") := ⟨cn_10, ft_10, 20, fy_10, rfl, by decide, in_10, fo_10, nm_10, gm_2 90 rfl rfl, rfl, rfl, rfl⟩
theorem ff_10_93 : FLkF cn_10 93 10 7 (.object "SteamNations$Moves") := ⟨cn_10, ft_10, 20, fy_10, rfl, by decide, in_10, fo_10, nm_10, gm_2 92 rfl rfl, rfl, rfl, rfl⟩
theorem ff_10_102 : FLkF cn_10 102 10 8 (.object "SteamNations$Errands") := ⟨cn_10, ft_10, 20, fy_10, rfl, by decide, in_10, fo_10, nm_10, gm_2 93 rfl rfl, rfl, rfl, rfl⟩
theorem ff_10_111 : FLkF cn_10 111 10 9 (.object "SteamNations$Seatings") := ⟨cn_10, ft_10, 20, fy_10, rfl, by decide, in_10, fo_10, nm_10, gm_2 94 rfl rfl, rfl, rfl, rfl⟩
theorem ff_0_12 : FLkF cn_0 12 0 2 (.object "SteamNations$Room") := ⟨cn_0, ft_0, 7, fy_0, rfl, by decide, in_0, fo_0, nm_0, gm_2 19 rfl rfl, rfl, rfl, rfl⟩
theorem ff_0_21 : FLkF cn_0 21 0 3 (.object "SteamNations$Past") := ⟨cn_0, ft_0, 7, fy_0, rfl, by decide, in_0, fo_0, nm_0, gm_2 20 rfl rfl, rfl, rfl, rfl⟩
theorem ff_0_29 : FLkF cn_0 29 0 0 (.object "SteamNations$Moves") := ⟨cn_0, ft_0, 7, fy_0, rfl, by decide, in_0, fo_0, nm_0, gm_2 17 rfl rfl, rfl, rfl, rfl⟩
theorem ff_0_33 : FLkF cn_0 33 0 1 (.object "SteamNations$Machine") := ⟨cn_0, ft_0, 7, fy_0, rfl, by decide, in_0, fo_0, nm_0, gm_2 18 rfl rfl, rfl, rfl, rfl⟩
theorem ff_1_12 : FLkF cn_1 12 1 0 (.object "SteamNations$Room") := ⟨cn_1, ft_1, 7, fy_1, rfl, by decide, in_1, fo_1, nm_1, gm_1 184 rfl rfl, rfl, rfl, rfl⟩
theorem ff_1_20 : FLkF cn_1 20 1 2 (.array (.object "SteamNations$Text")) := ⟨cn_1, ft_1, 7, fy_1, rfl, by decide, in_1, fo_1, nm_1, gm_1 189 rfl rfl, rfl, rfl, rfl⟩
theorem ff_1_28 : FLkF cn_1 28 1 5 (.array .int) := ⟨cn_1, ft_1, 7, fy_1, rfl, by decide, in_1, fo_1, nm_1, gm_1 194 rfl rfl, rfl, rfl, rfl⟩
theorem ff_1_32 : FLkF cn_1 32 1 1 (.object "SteamNations$Text") := ⟨cn_1, ft_1, 7, fy_1, rfl, by decide, in_1, fo_1, nm_1, gm_1 188 rfl rfl, rfl, rfl, rfl⟩
theorem ff_2_13 : FLkF cn_2 13 2 0 (.array .int) := ⟨cn_2, ft_2, 2, fy_2, rfl, by decide, in_2, fo_2, nm_2, gm_1 166 rfl rfl, rfl, rfl, rfl⟩
theorem ff_2_19 : FLkF cn_2 19 2 1 (.array .int) := ⟨cn_2, ft_2, 2, fy_2, rfl, by decide, in_2, fo_2, nm_2, gm_1 169 rfl rfl, rfl, rfl, rfl⟩
theorem ff_3_9 : FLkF cn_3 9 3 0 (.object "SteamNations$House") := ⟨cn_3, ft_3, 3, fy_3, rfl, by decide, in_3, fo_3, nm_3, gm_1 235 rfl rfl, rfl, rfl, rfl⟩
theorem ff_3_15 : FLkF cn_3 15 3 1 (.object "SteamNations$Past") := ⟨cn_3, ft_3, 3, fy_3, rfl, by decide, in_3, fo_3, nm_3, gm_1 237 rfl rfl, rfl, rfl, rfl⟩
theorem ff_3_19 : FLkF cn_3 19 3 2 (.object "SteamNations$Steam") := ⟨cn_3, ft_3, 3, fy_3, rfl, by decide, in_3, fo_3, nm_3, gm_1 239 rfl rfl, rfl, rfl, rfl⟩
theorem ff_4_11 : FLkF cn_4 11 4 0 (.array .int) := ⟨cn_4, ft_4, 3, fy_4, rfl, by decide, in_4, fo_4, nm_4, gm_1 80 rfl rfl, rfl, rfl, rfl⟩
theorem ff_5_11 : FLkF cn_5 11 5 0 (.array .int) := ⟨cn_5, ft_5, 11, fy_5, rfl, by decide, in_5, fo_5, nm_5, gm_1 37 rfl rfl, rfl, rfl, rfl⟩
theorem ff_5_15 : FLkF cn_5 15 5 1 (.array .int) := ⟨cn_5, ft_5, 11, fy_5, rfl, by decide, in_5, fo_5, nm_5, gm_1 38 rfl rfl, rfl, rfl, rfl⟩
theorem ff_5_18 : FLkF cn_5 18 5 2 (.array .int) := ⟨cn_5, ft_5, 11, fy_5, rfl, by decide, in_5, fo_5, nm_5, gm_1 39 rfl rfl, rfl, rfl, rfl⟩
theorem ff_5_23 : FLkF cn_5 23 5 3 (.array .int) := ⟨cn_5, ft_5, 11, fy_5, rfl, by decide, in_5, fo_5, nm_5, gm_1 40 rfl rfl, rfl, rfl, rfl⟩
theorem ff_5_28 : FLkF cn_5 28 5 4 (.array .int) := ⟨cn_5, ft_5, 11, fy_5, rfl, by decide, in_5, fo_5, nm_5, gm_1 41 rfl rfl, rfl, rfl, rfl⟩
theorem ff_6_9 : FLkF cn_6 9 6 1 (.array .int) := ⟨cn_6, ft_6, 5, fy_6, rfl, by decide, in_6, fo_6, nm_6, gm_1 106 rfl rfl, rfl, rfl, rfl⟩
theorem ff_6_15 : FLkF cn_6 15 6 2 (.array .int) := ⟨cn_6, ft_6, 5, fy_6, rfl, by decide, in_6, fo_6, nm_6, gm_1 110 rfl rfl, rfl, rfl, rfl⟩
theorem ff_6_18 : FLkF cn_6 18 6 3 (.array .int) := ⟨cn_6, ft_6, 5, fy_6, rfl, by decide, in_6, fo_6, nm_6, gm_1 114 rfl rfl, rfl, rfl, rfl⟩
theorem ff_6_24 : FLkF cn_6 24 6 4 (.array .int) := ⟨cn_6, ft_6, 5, fy_6, rfl, by decide, in_6, fo_6, nm_6, gm_1 120 rfl rfl, rfl, rfl, rfl⟩
theorem ff_7_12 : FLkF cn_7 12 7 1 (.object "SteamNations$Room") := ⟨cn_7, ft_7, 12, fy_7, rfl, by decide, in_7, fo_7, nm_7, gm_2 49 rfl rfl, rfl, rfl, rfl⟩
theorem ff_7_18 : FLkF cn_7 18 7 2 (.array .int) := ⟨cn_7, ft_7, 12, fy_7, rfl, by decide, in_7, fo_7, nm_7, gm_2 50 rfl rfl, rfl, rfl, rfl⟩
theorem ff_7_22 : FLkF cn_7 22 7 3 (.array .int) := ⟨cn_7, ft_7, 12, fy_7, rfl, by decide, in_7, fo_7, nm_7, gm_2 51 rfl rfl, rfl, rfl, rfl⟩
theorem ff_7_25 : FLkF cn_7 25 7 4 (.array .int) := ⟨cn_7, ft_7, 12, fy_7, rfl, by decide, in_7, fo_7, nm_7, gm_2 52 rfl rfl, rfl, rfl, rfl⟩
theorem ff_7_28 : FLkF cn_7 28 7 5 (.array .int) := ⟨cn_7, ft_7, 12, fy_7, rfl, by decide, in_7, fo_7, nm_7, gm_2 53 rfl rfl, rfl, rfl, rfl⟩
theorem ff_7_31 : FLkF cn_7 31 7 6 (.array .int) := ⟨cn_7, ft_7, 12, fy_7, rfl, by decide, in_7, fo_7, nm_7, gm_2 54 rfl rfl, rfl, rfl, rfl⟩
theorem ff_7_34 : FLkF cn_7 34 7 7 (.array .int) := ⟨cn_7, ft_7, 12, fy_7, rfl, by decide, in_7, fo_7, nm_7, gm_2 55 rfl rfl, rfl, rfl, rfl⟩
theorem ff_7_37 : FLkF cn_7 37 7 8 (.array .int) := ⟨cn_7, ft_7, 12, fy_7, rfl, by decide, in_7, fo_7, nm_7, gm_2 56 rfl rfl, rfl, rfl, rfl⟩
theorem ff_7_44 : FLkF cn_7 44 7 0 (.object "SteamNations$Steam") := ⟨cn_7, ft_7, 12, fy_7, rfl, by decide, in_7, fo_7, nm_7, gm_2 48 rfl rfl, rfl, rfl, rfl⟩
theorem ff_8_9 : FLkF cn_8 9 8 1 (.array .int) := ⟨cn_8, ft_8, 3, fy_8, rfl, by decide, in_8, fo_8, nm_8, gm_1 220 rfl rfl, rfl, rfl, rfl⟩
theorem ff_8_15 : FLkF cn_8 15 8 2 (.array .int) := ⟨cn_8, ft_8, 3, fy_8, rfl, by decide, in_8, fo_8, nm_8, gm_1 221 rfl rfl, rfl, rfl, rfl⟩
theorem ff_8_18 : FLkF cn_8 18 8 0 (.object "SteamNations$Machine") := ⟨cn_8, ft_8, 3, fy_8, rfl, by decide, in_8, fo_8, nm_8, gm_1 219 rfl rfl, rfl, rfl, rfl⟩
theorem ff_11_7 : FLkF cn_11 7 11 1 (.array .int) := ⟨cn_11, ft_11, 56, fy_11, rfl, by decide, in_11, fo_11, nm_11, gm_5 174 rfl rfl, rfl, rfl, rfl⟩
theorem ff_11_28 : FLkF cn_11 28 11 2 (.array .int) := ⟨cn_11, ft_11, 56, fy_11, rfl, by decide, in_11, fo_11, nm_11, gm_5 175 rfl rfl, rfl, rfl, rfl⟩
theorem ff_11_31 : FLkF cn_11 31 11 3 (.array .int) := ⟨cn_11, ft_11, 56, fy_11, rfl, by decide, in_11, fo_11, nm_11, gm_5 176 rfl rfl, rfl, rfl, rfl⟩
theorem ff_11_34 : FLkF cn_11 34 11 4 (.array .boolean) := ⟨cn_11, ft_11, 56, fy_11, rfl, by decide, in_11, fo_11, nm_11, gm_5 177 rfl rfl, rfl, rfl, rfl⟩
theorem ff_11_38 : FLkF cn_11 38 11 5 (.array .int) := ⟨cn_11, ft_11, 56, fy_11, rfl, by decide, in_11, fo_11, nm_11, gm_5 178 rfl rfl, rfl, rfl, rfl⟩
theorem ff_11_41 : FLkF cn_11 41 11 7 (.array .byte) := ⟨cn_11, ft_11, 56, fy_11, rfl, by decide, in_11, fo_11, nm_11, gm_5 180 rfl rfl, rfl, rfl, rfl⟩
theorem ff_11_45 : FLkF cn_11 45 11 11 (.array .byte) := ⟨cn_11, ft_11, 56, fy_11, rfl, by decide, in_11, fo_11, nm_11, gm_5 184 rfl rfl, rfl, rfl, rfl⟩
theorem ff_11_48 : FLkF cn_11 48 11 12 (.array .int) := ⟨cn_11, ft_11, 56, fy_11, rfl, by decide, in_11, fo_11, nm_11, gm_5 185 rfl rfl, rfl, rfl, rfl⟩
theorem ff_11_54 : FLkF cn_11 54 11 15 (.array .int) := ⟨cn_11, ft_11, 56, fy_11, rfl, by decide, in_11, fo_11, nm_11, gm_5 188 rfl rfl, rfl, rfl, rfl⟩
theorem ff_11_57 : FLkF cn_11 57 11 16 (.array .int) := ⟨cn_11, ft_11, 56, fy_11, rfl, by decide, in_11, fo_11, nm_11, gm_5 189 rfl rfl, rfl, rfl, rfl⟩
theorem ff_11_60 : FLkF cn_11 60 11 17 (.array .int) := ⟨cn_11, ft_11, 56, fy_11, rfl, by decide, in_11, fo_11, nm_11, gm_5 190 rfl rfl, rfl, rfl, rfl⟩
theorem ff_11_63 : FLkF cn_11 63 11 26 (.array .int) := ⟨cn_11, ft_11, 56, fy_11, rfl, by decide, in_11, fo_11, nm_11, gm_5 199 rfl rfl, rfl, rfl, rfl⟩
theorem ff_11_66 : FLkF cn_11 66 11 29 (.array .int) := ⟨cn_11, ft_11, 56, fy_11, rfl, by decide, in_11, fo_11, nm_11, gm_5 202 rfl rfl, rfl, rfl, rfl⟩
theorem ff_11_69 : FLkF cn_11 69 11 30 (.array .int) := ⟨cn_11, ft_11, 56, fy_11, rfl, by decide, in_11, fo_11, nm_11, gm_5 203 rfl rfl, rfl, rfl, rfl⟩
theorem ff_11_72 : FLkF cn_11 72 11 31 (.array .int) := ⟨cn_11, ft_11, 56, fy_11, rfl, by decide, in_11, fo_11, nm_11, gm_5 204 rfl rfl, rfl, rfl, rfl⟩
theorem ff_11_75 : FLkF cn_11 75 11 33 (.array .int) := ⟨cn_11, ft_11, 56, fy_11, rfl, by decide, in_11, fo_11, nm_11, gm_5 206 rfl rfl, rfl, rfl, rfl⟩
theorem ff_11_78 : FLkF cn_11 78 11 34 (.array .int) := ⟨cn_11, ft_11, 56, fy_11, rfl, by decide, in_11, fo_11, nm_11, gm_5 207 rfl rfl, rfl, rfl, rfl⟩
theorem ff_11_81 : FLkF cn_11 81 11 37 (.array .int) := ⟨cn_11, ft_11, 56, fy_11, rfl, by decide, in_11, fo_11, nm_11, gm_5 210 rfl rfl, rfl, rfl, rfl⟩
theorem ff_11_84 : FLkF cn_11 84 11 38 (.array .int) := ⟨cn_11, ft_11, 56, fy_11, rfl, by decide, in_11, fo_11, nm_11, gm_5 211 rfl rfl, rfl, rfl, rfl⟩
theorem ff_11_87 : FLkF cn_11 87 11 39 (.array .int) := ⟨cn_11, ft_11, 56, fy_11, rfl, by decide, in_11, fo_11, nm_11, gm_5 212 rfl rfl, rfl, rfl, rfl⟩
theorem ff_11_90 : FLkF cn_11 90 11 40 (.array .boolean) := ⟨cn_11, ft_11, 56, fy_11, rfl, by decide, in_11, fo_11, nm_11, gm_5 213 rfl rfl, rfl, rfl, rfl⟩
theorem ff_11_93 : FLkF cn_11 93 11 41 (.array .int) := ⟨cn_11, ft_11, 56, fy_11, rfl, by decide, in_11, fo_11, nm_11, gm_5 214 rfl rfl, rfl, rfl, rfl⟩
theorem ff_11_96 : FLkF cn_11 96 11 42 (.array .int) := ⟨cn_11, ft_11, 56, fy_11, rfl, by decide, in_11, fo_11, nm_11, gm_5 215 rfl rfl, rfl, rfl, rfl⟩
theorem ff_11_99 : FLkF cn_11 99 11 43 (.array .int) := ⟨cn_11, ft_11, 56, fy_11, rfl, by decide, in_11, fo_11, nm_11, gm_5 216 rfl rfl, rfl, rfl, rfl⟩
theorem ff_11_102 : FLkF cn_11 102 11 44 (.array .int) := ⟨cn_11, ft_11, 56, fy_11, rfl, by decide, in_11, fo_11, nm_11, gm_5 217 rfl rfl, rfl, rfl, rfl⟩
theorem ff_11_105 : FLkF cn_11 105 11 45 (.array .long) := ⟨cn_11, ft_11, 56, fy_11, rfl, by decide, in_11, fo_11, nm_11, gm_5 218 rfl rfl, rfl, rfl, rfl⟩
theorem ff_11_112 : FLkF cn_11 112 11 52 (.array .long) := ⟨cn_11, ft_11, 56, fy_11, rfl, by decide, in_11, fo_11, nm_11, gm_5 225 rfl rfl, rfl, rfl, rfl⟩
theorem ff_11_115 : FLkF cn_11 115 11 53 (.array .int) := ⟨cn_11, ft_11, 56, fy_11, rfl, by decide, in_11, fo_11, nm_11, gm_5 226 rfl rfl, rfl, rfl, rfl⟩
theorem il_10_25 : ILk cn_10 25 ⟨"SteamNations$Reader", "<init>", "()V"⟩ prog_7_method_1_code 1 0 := ⟨Or.inr (by decide), gm_1 34 rfl rfl, gm_1 2 rfl rfl, gm_1 35 rfl rfl, ⟨by decide, by decide, by decide +kernel⟩, by decide, rfl⟩
theorem il_10_32 : ILk cn_10 32 ⟨"SteamNations$Past", "<init>", "()V"⟩ prog_6_method_1_code 1 0 := ⟨Or.inr (by decide), gm_1 77 rfl rfl, gm_1 3 rfl rfl, gm_1 78 rfl rfl, ⟨by decide, by decide, by decide +kernel⟩, by decide, rfl⟩
theorem il_10_39 : ILk cn_10 39 ⟨"SteamNations$Room", "<init>", "()V"⟩ prog_8_method_1_code 1 0 := ⟨Or.inl (gm_1 93 rfl rfl), gm_1 94 rfl rfl, gm_1 4 rfl rfl, gm_1 95 rfl rfl, ⟨by decide, by decide, by decide +kernel⟩, by decide, rfl⟩
theorem il_10_66 : ILk cn_10 66 ⟨"SteamNations$Text", "<init>", "([I[II)V"⟩ prog_11_method_1_code 6 3 := ⟨Or.inl (gm_1 139 rfl rfl), gm_1 140 rfl rfl, gm_1 6 rfl rfl, gm_1 141 rfl rfl, ⟨by decide, by decide, by decide +kernel⟩, by decide, rfl⟩
theorem il_10_71 : ILk cn_10 71 ⟨"SteamNations$Machine", "<init>", "()V"⟩ prog_4_method_1_code 1 0 := ⟨Or.inr (by decide), gm_1 163 rfl rfl, gm_1 7 rfl rfl, gm_1 164 rfl rfl, ⟨by decide, by decide, by decide +kernel⟩, by decide, rfl⟩
theorem il_10_72 : ILk cn_10 72 ⟨"SteamNations$House", "<init>", "(LSteamNations$Text;)V"⟩ prog_3_method_1_code 2 1 := ⟨Or.inl (gm_1 176 rfl rfl), gm_1 177 rfl rfl, gm_1 8 rfl rfl, gm_1 178 rfl rfl, ⟨by decide, by decide, by decide +kernel⟩, by decide, rfl⟩
theorem il_10_81 : ILk cn_10 81 ⟨"SteamNations$Steam", "<init>", "(LSteamNations$Machine;)V"⟩ prog_10_method_1_code 2 1 := ⟨Or.inl (gm_1 215 rfl rfl), gm_1 216 rfl rfl, gm_1 9 rfl rfl, gm_1 217 rfl rfl, ⟨by decide, by decide, by decide +kernel⟩, by decide, rfl⟩
theorem il_10_90 : ILk cn_10 90 ⟨"SteamNations$Moves", "<init>", "(LSteamNations$House;LSteamNations$Past;LSteamNations$Steam;)V"⟩ prog_5_method_1_code 4 3 := ⟨Or.inl (gm_1 231 rfl rfl), gm_1 232 rfl rfl, gm_1 10 rfl rfl, gm_1 233 rfl rfl, ⟨by decide, by decide, by decide +kernel⟩, by decide, rfl⟩
theorem il_10_99 : ILk cn_10 99 ⟨"SteamNations$Errands", "<init>", "(LSteamNations$Moves;LSteamNations$Machine;)V"⟩ prog_2_method_1_code 3 2 := ⟨Or.inl (gm_2 9 rfl rfl), gm_2 10 rfl rfl, gm_1 11 rfl rfl, gm_2 11 rfl rfl, ⟨by decide, by decide, by decide +kernel⟩, by decide, rfl⟩
theorem il_10_108 : ILk cn_10 108 ⟨"SteamNations$Seatings", "<init>", "(LSteamNations$Steam;)V"⟩ prog_9_method_1_code 2 1 := ⟨Or.inl (gm_2 42 rfl rfl), gm_2 43 rfl rfl, gm_1 12 rfl rfl, gm_2 44 rfl rfl, ⟨by decide, by decide, by decide +kernel⟩, by decide, rfl⟩
theorem il_0_11 : ILk cn_0 11 ⟨"SteamNations$Room", "<init>", "()V"⟩ prog_8_method_1_code 1 0 := ⟨Or.inl (gm_2 14 rfl rfl), gm_1 94 rfl rfl, gm_1 4 rfl rfl, gm_1 95 rfl rfl, ⟨by decide, by decide, by decide +kernel⟩, by decide, rfl⟩
theorem il_0_20 : ILk cn_0 20 ⟨"SteamNations$Past", "<init>", "()V"⟩ prog_6_method_1_code 1 0 := ⟨Or.inr (by decide), gm_1 77 rfl rfl, gm_1 3 rfl rfl, gm_1 78 rfl rfl, ⟨by decide, by decide, by decide +kernel⟩, by decide, rfl⟩
theorem il_1_11 : ILk cn_1 11 ⟨"SteamNations$Room", "<init>", "()V"⟩ prog_8_method_1_code 1 0 := ⟨Or.inl (gm_1 181 rfl rfl), gm_1 94 rfl rfl, gm_1 4 rfl rfl, gm_1 95 rfl rfl, ⟨by decide, by decide, by decide +kernel⟩, by decide, rfl⟩
theorem il_7_11 : ILk cn_7 11 ⟨"SteamNations$Room", "<init>", "()V"⟩ prog_8_method_1_code 1 0 := ⟨Or.inl (gm_2 47 rfl rfl), gm_1 94 rfl rfl, gm_1 4 rfl rfl, gm_1 95 rfl rfl, ⟨by decide, by decide, by decide +kernel⟩, by decide, rfl⟩
theorem no_10_9 : NOk cn_10 9 1 7 := ⟨cn_1, ft_1, fy_1, rfl, in_1, fo_1, gm_1 29 rfl rfl, gm_1 175 rfl rfl, gm_1 8 rfl rfl, fun j hj E => (dv_1 j hj).trans (congrArg (fun z => vp_V z j) (show dfl 1 = (dfl 1).map (cv E) from rfl))⟩
theorem no_10_23 : NOk cn_10 23 5 11 := ⟨cn_5, ft_5, fy_5, rfl, in_5, fo_5, gm_1 31 rfl rfl, gm_1 32 rfl rfl, gm_1 2 rfl rfl, fun j hj E => (dv_5 j hj).trans (congrArg (fun z => vp_V z j) (show dfl 5 = (dfl 5).map (cv E) from rfl))⟩
theorem no_10_30 : NOk cn_10 30 4 3 := ⟨cn_4, ft_4, fy_4, rfl, in_4, fo_4, gm_1 74 rfl rfl, gm_1 75 rfl rfl, gm_1 3 rfl rfl, fun j hj E => (dv_4 j hj).trans (congrArg (fun z => vp_V z j) (show dfl 4 = (dfl 4).map (cv E) from rfl))⟩
theorem no_10_37 : NOk cn_10 37 6 5 := ⟨cn_6, ft_6, fy_6, rfl, in_6, fo_6, gm_1 91 rfl rfl, gm_1 92 rfl rfl, gm_1 4 rfl rfl, fun j hj E => (dv_6 j hj).trans (congrArg (fun z => vp_V z j) (show dfl 6 = (dfl 6).map (cv E) from rfl))⟩
theorem no_10_64 : NOk cn_10 64 9 4 := ⟨cn_9, ft_9, fy_9, rfl, in_9, fo_9, gm_1 137 rfl rfl, gm_1 138 rfl rfl, gm_1 6 rfl rfl, fun j hj E => (dv_9 j hj).trans (congrArg (fun z => vp_V z j) (show dfl 9 = (dfl 9).map (cv E) from rfl))⟩
theorem no_10_69 : NOk cn_10 69 2 2 := ⟨cn_2, ft_2, fy_2, rfl, in_2, fo_2, gm_1 160 rfl rfl, gm_1 161 rfl rfl, gm_1 7 rfl rfl, fun j hj E => (dv_2 j hj).trans (congrArg (fun z => vp_V z j) (show dfl 2 = (dfl 2).map (cv E) from rfl))⟩
theorem no_10_79 : NOk cn_10 79 8 3 := ⟨cn_8, ft_8, fy_8, rfl, in_8, fo_8, gm_1 213 rfl rfl, gm_1 214 rfl rfl, gm_1 9 rfl rfl, fun j hj E => (dv_8 j hj).trans (congrArg (fun z => vp_V z j) (show dfl 8 = (dfl 8).map (cv E) from rfl))⟩
theorem no_10_88 : NOk cn_10 88 3 3 := ⟨cn_3, ft_3, fy_3, rfl, in_3, fo_3, gm_1 229 rfl rfl, gm_1 230 rfl rfl, gm_1 10 rfl rfl, fun j hj E => (dv_3 j hj).trans (congrArg (fun z => vp_V z j) (show dfl 3 = (dfl 3).map (cv E) from rfl))⟩
theorem no_10_97 : NOk cn_10 97 0 7 := ⟨cn_0, ft_0, fy_0, rfl, in_0, fo_0, gm_2 7 rfl rfl, gm_2 8 rfl rfl, gm_1 11 rfl rfl, fun j hj E => (dv_0 j hj).trans (congrArg (fun z => vp_V z j) (show dfl 0 = (dfl 0).map (cv E) from rfl))⟩
theorem no_10_106 : NOk cn_10 106 7 12 := ⟨cn_7, ft_7, fy_7, rfl, in_7, fo_7, gm_2 40 rfl rfl, gm_2 41 rfl rfl, gm_1 12 rfl rfl, fun j hj E => (dv_7 j hj).trans (congrArg (fun z => vp_V z j) (show dfl 7 = (dfl 7).map (cv E) from rfl))⟩
theorem no_0_9 : NOk cn_0 9 6 5 := ⟨cn_6, ft_6, fy_6, rfl, in_6, fo_6, gm_2 13 rfl rfl, gm_1 92 rfl rfl, gm_1 4 rfl rfl, fun j hj E => (dv_6 j hj).trans (congrArg (fun z => vp_V z j) (show dfl 6 = (dfl 6).map (cv E) from rfl))⟩
theorem no_0_18 : NOk cn_0 18 4 3 := ⟨cn_4, ft_4, fy_4, rfl, in_4, fo_4, gm_2 15 rfl rfl, gm_1 75 rfl rfl, gm_1 3 rfl rfl, fun j hj E => (dv_4 j hj).trans (congrArg (fun z => vp_V z j) (show dfl 4 = (dfl 4).map (cv E) from rfl))⟩
theorem no_1_9 : NOk cn_1 9 6 5 := ⟨cn_6, ft_6, fy_6, rfl, in_6, fo_6, gm_1 180 rfl rfl, gm_1 92 rfl rfl, gm_1 4 rfl rfl, fun j hj E => (dv_6 j hj).trans (congrArg (fun z => vp_V z j) (show dfl 6 = (dfl 6).map (cv E) from rfl))⟩
theorem no_7_9 : NOk cn_7 9 6 5 := ⟨cn_6, ft_6, fy_6, rfl, in_6, fo_6, gm_2 46 rfl rfl, gm_1 92 rfl rfl, gm_1 4 rfl rfl, fun j hj E => (dv_6 j hj).trans (congrArg (fun z => vp_V z j) (show dfl 6 = (dfl 6).map (cv E) from rfl))⟩
