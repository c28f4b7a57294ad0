theorem g_in1 {w : Cond} (i : Nat) (h : tables_1_1[i]? = some w) (h2 : goodWord w = true) : w ∈ lw_good := List.mem_filter.mpr ⟨List.mem_append_right _ (List.mem_append_left _ (List.mem_of_getElem? h)), h2⟩
theorem g_in2 {w : Cond} (i : Nat) (h : tables_1_2[i]? = some w) (h2 : goodWord w = true) : w ∈ lw_good := List.mem_filter.mpr ⟨List.mem_append_right _ (List.mem_append_right _ (List.mem_append_left _ (List.mem_of_getElem? h))), h2⟩
theorem g_in3 {w : Cond} (i : Nat) (h : tables_1_3[i]? = some w) (h2 : goodWord w = true) : w ∈ lw_good := List.mem_filter.mpr ⟨List.mem_append_right _ (List.mem_append_right _ (List.mem_append_right _ (List.mem_append_left _ (List.mem_of_getElem? h)))), h2⟩
theorem g_in4 {w : Cond} (i : Nat) (h : tables_1_4[i]? = some w) (h2 : goodWord w = true) : w ∈ lw_good := List.mem_filter.mpr ⟨List.mem_append_right _ (List.mem_append_right _ (List.mem_append_right _ (List.mem_append_right _ (List.mem_append_left _ (List.mem_of_getElem? h))))), h2⟩
theorem g_in5 {w : Cond} (i : Nat) (h : tables_1_5[i]? = some w) (h2 : goodWord w = true) : w ∈ lw_good := List.mem_filter.mpr ⟨List.mem_append_right _ (List.mem_append_right _ (List.mem_append_right _ (List.mem_append_right _ (List.mem_append_right _ (List.mem_of_getElem? h))))), h2⟩
theorem g_in {w : Cond} (i : Nat) (h : lw_tbl[i]? = some w) (h2 : goodWord w = true) : w ∈ lw_good := List.mem_filter.mpr ⟨List.mem_of_getElem? h, h2⟩
theorem kfX0 : xCF 0 RX0 TX0 10 tyX0 := ⟨by decide, rfl, fun w hw => List.mem_filter.mpr (by revert w; decide +kernel), tyX0_ok, nmX0⟩
theorem kfX1 : xCF 1 RX1 TX1 14 tyX1 := ⟨by decide, rfl, fun w hw => List.mem_filter.mpr (by revert w; decide +kernel), tyX1_ok, nmX1⟩
theorem kfX2 : xCF 2 RX2 TX2 5 tyX2 := ⟨by decide, rfl, fun w hw => List.mem_filter.mpr (by revert w; decide +kernel), tyX2_ok, nmX2⟩
theorem kfX3 : xCF 3 RX3 TX3 2 tyX3 := ⟨by decide, rfl, fun w hw => List.mem_filter.mpr (by revert w; decide +kernel), tyX3_ok, nmX3⟩
theorem kfX4 : xCF 4 RX4 TX4 4 tyX4 := ⟨by decide, rfl, fun w hw => List.mem_filter.mpr (by revert w; decide +kernel), tyX4_ok, nmX4⟩
theorem kfX5 : xCF 5 RX5 TX5 13 tyX5 := ⟨by decide, rfl, fun w hw => List.mem_filter.mpr (by revert w; decide +kernel), tyX5_ok, nmX5⟩
theorem kfX6 : xCF 6 RX6 TX6 41 tyX6 := ⟨by decide, rfl, fun w hw => List.mem_filter.mpr (by revert w; decide +kernel), tyX6_ok, nmX6⟩
set_option maxRecDepth 20000 in
theorem fX2_9 : xFL RX2 9 RX2 TX2 5 0 := ⟨by decide, (g_in1 33 rfl rfl), rfl⟩
set_option maxRecDepth 20000 in
theorem fX2_15 : xFL RX2 15 RX2 TX2 5 1 := ⟨by decide, (g_in1 34 rfl rfl), rfl⟩
set_option maxRecDepth 20000 in
theorem fX2_18 : xFL RX2 18 RX2 TX2 5 2 := ⟨by decide, (g_in1 35 rfl rfl), rfl⟩
set_option maxRecDepth 20000 in
theorem fX2_21 : xFL RX2 21 RX2 TX2 5 3 := ⟨by decide, (g_in1 36 rfl rfl), rfl⟩
set_option maxRecDepth 20000 in
theorem fX2_24 : xFL RX2 24 RX2 TX2 5 4 := ⟨by decide, (g_in1 37 rfl rfl), rfl⟩
set_option maxRecDepth 20000 in
theorem fX0_40 : xFL RX0 40 RX0 TX0 10 0 := ⟨by decide, (g_in1 56 rfl rfl), rfl⟩
set_option maxRecDepth 20000 in
theorem fX0_9 : xFL RX0 9 RX0 TX0 10 1 := ⟨by decide, (g_in1 57 rfl rfl), rfl⟩
set_option maxRecDepth 20000 in
theorem fX0_15 : xFL RX0 15 RX0 TX0 10 2 := ⟨by decide, (g_in1 58 rfl rfl), rfl⟩
set_option maxRecDepth 20000 in
theorem fX0_18 : xFL RX0 18 RX0 TX0 10 3 := ⟨by decide, (g_in1 59 rfl rfl), rfl⟩
set_option maxRecDepth 20000 in
theorem fX0_21 : xFL RX0 21 RX0 TX0 10 4 := ⟨by decide, (g_in1 60 rfl rfl), rfl⟩
set_option maxRecDepth 20000 in
theorem fX0_24 : xFL RX0 24 RX0 TX0 10 5 := ⟨by decide, (g_in1 61 rfl rfl), rfl⟩
set_option maxRecDepth 20000 in
theorem fX0_27 : xFL RX0 27 RX0 TX0 10 6 := ⟨by decide, (g_in1 62 rfl rfl), rfl⟩
set_option maxRecDepth 20000 in
theorem fX0_30 : xFL RX0 30 RX0 TX0 10 7 := ⟨by decide, (g_in1 63 rfl rfl), rfl⟩
set_option maxRecDepth 20000 in
theorem fX0_34 : xFL RX0 34 RX0 TX0 10 8 := ⟨by decide, (g_in1 64 rfl rfl), rfl⟩
set_option maxRecDepth 20000 in
theorem fX0_37 : xFL RX0 37 RX0 TX0 10 9 := ⟨by decide, (g_in1 65 rfl rfl), rfl⟩
set_option maxRecDepth 20000 in
theorem fX4_22 : xFL RX4 22 RX4 TX4 4 0 := ⟨by decide, (g_in1 93 rfl rfl), rfl⟩
set_option maxRecDepth 20000 in
theorem fX4_9 : xFL RX4 9 RX4 TX4 4 1 := ⟨by decide, (g_in1 94 rfl rfl), rfl⟩
set_option maxRecDepth 20000 in
theorem fX4_15 : xFL RX4 15 RX4 TX4 4 2 := ⟨by decide, (g_in1 95 rfl rfl), rfl⟩
set_option maxRecDepth 20000 in
theorem fX4_18 : xFL RX4 18 RX4 TX4 4 3 := ⟨by decide, (g_in1 96 rfl rfl), rfl⟩
set_option maxRecDepth 20000 in
theorem fX1_47 : xFL RX1 47 RX1 TX1 14 0 := ⟨by decide, (g_in1 112 rfl rfl), rfl⟩
set_option maxRecDepth 20000 in
theorem fX1_51 : xFL RX1 51 RX1 TX1 14 1 := ⟨by decide, (g_in1 113 rfl rfl), rfl⟩
set_option maxRecDepth 20000 in
theorem fX1_55 : xFL RX1 55 RX1 TX1 14 2 := ⟨by decide, (g_in1 114 rfl rfl), rfl⟩
set_option maxRecDepth 20000 in
theorem fX1_9 : xFL RX1 9 RX1 TX1 14 3 := ⟨by decide, (g_in1 115 rfl rfl), rfl⟩
set_option maxRecDepth 20000 in
theorem fX1_15 : xFL RX1 15 RX1 TX1 14 4 := ⟨by decide, (g_in1 116 rfl rfl), rfl⟩
set_option maxRecDepth 20000 in
theorem fX1_18 : xFL RX1 18 RX1 TX1 14 5 := ⟨by decide, (g_in1 117 rfl rfl), rfl⟩
set_option maxRecDepth 20000 in
theorem fX1_21 : xFL RX1 21 RX1 TX1 14 6 := ⟨by decide, (g_in1 118 rfl rfl), rfl⟩
set_option maxRecDepth 20000 in
theorem fX1_25 : xFL RX1 25 RX1 TX1 14 7 := ⟨by decide, (g_in1 119 rfl rfl), rfl⟩
set_option maxRecDepth 20000 in
theorem fX1_28 : xFL RX1 28 RX1 TX1 14 8 := ⟨by decide, (g_in1 120 rfl rfl), rfl⟩
set_option maxRecDepth 20000 in
theorem fX1_31 : xFL RX1 31 RX1 TX1 14 9 := ⟨by decide, (g_in1 121 rfl rfl), rfl⟩
set_option maxRecDepth 20000 in
theorem fX1_35 : xFL RX1 35 RX1 TX1 14 10 := ⟨by decide, (g_in1 122 rfl rfl), rfl⟩
set_option maxRecDepth 20000 in
theorem fX1_38 : xFL RX1 38 RX1 TX1 14 11 := ⟨by decide, (g_in1 123 rfl rfl), rfl⟩
set_option maxRecDepth 20000 in
theorem fX1_41 : xFL RX1 41 RX1 TX1 14 12 := ⟨by decide, (g_in1 124 rfl rfl), rfl⟩
set_option maxRecDepth 20000 in
theorem fX1_44 : xFL RX1 44 RX1 TX1 14 13 := ⟨by decide, (g_in1 125 rfl rfl), rfl⟩
set_option maxRecDepth 20000 in
theorem fX3_9 : xFL RX3 9 RX3 TX3 2 0 := ⟨by decide, (g_in1 162 rfl rfl), rfl⟩
set_option maxRecDepth 20000 in
theorem fX3_15 : xFL RX3 15 RX3 TX3 2 1 := ⟨by decide, (g_in1 163 rfl rfl), rfl⟩
set_option maxRecDepth 20000 in
theorem fX5_12 : xFL RX5 12 RX5 TX5 13 0 := ⟨by decide, (g_in1 170 rfl rfl), rfl⟩
set_option maxRecDepth 20000 in
theorem fX5_16 : xFL RX5 16 RX5 TX5 13 1 := ⟨by decide, (g_in1 171 rfl rfl), rfl⟩
set_option maxRecDepth 20000 in
theorem fX5_24 : xFL RX5 24 RX5 TX5 13 2 := ⟨by decide, (g_in1 172 rfl rfl), rfl⟩
set_option maxRecDepth 20000 in
theorem fX5_33 : xFL RX5 33 RX5 TX5 13 3 := ⟨by decide, (g_in1 173 rfl rfl), rfl⟩
set_option maxRecDepth 20000 in
theorem fX5_42 : xFL RX5 42 RX5 TX5 13 4 := ⟨by decide, (g_in1 174 rfl rfl), rfl⟩
set_option maxRecDepth 20000 in
theorem fX5_49 : xFL RX5 49 RX5 TX5 13 5 := ⟨by decide, (g_in1 175 rfl rfl), rfl⟩
set_option maxRecDepth 20000 in
theorem fX5_53 : xFL RX5 53 RX5 TX5 13 6 := ⟨by decide, (g_in1 176 rfl rfl), rfl⟩
set_option maxRecDepth 20000 in
theorem fX5_57 : xFL RX5 57 RX5 TX5 13 7 := ⟨by decide, (g_in1 177 rfl rfl), rfl⟩
set_option maxRecDepth 20000 in
theorem fX5_60 : xFL RX5 60 RX5 TX5 13 8 := ⟨by decide, (g_in1 178 rfl rfl), rfl⟩
set_option maxRecDepth 20000 in
theorem fX5_63 : xFL RX5 63 RX5 TX5 13 9 := ⟨by decide, (g_in1 179 rfl rfl), rfl⟩
set_option maxRecDepth 20000 in
theorem fX5_66 : xFL RX5 66 RX5 TX5 13 10 := ⟨by decide, (g_in1 180 rfl rfl), rfl⟩
set_option maxRecDepth 20000 in
theorem fX5_69 : xFL RX5 69 RX5 TX5 13 11 := ⟨by decide, (g_in1 181 rfl rfl), rfl⟩
set_option maxRecDepth 20000 in
theorem fX5_72 : xFL RX5 72 RX5 TX5 13 12 := ⟨by decide, (g_in1 182 rfl rfl), rfl⟩
set_option maxRecDepth 20000 in
theorem fX6_7 : xFL RX6 7 RX6 TX6 41 0 := ⟨by decide, (g_in4 5 rfl rfl), rfl⟩
set_option maxRecDepth 20000 in
theorem fX6_13 : xFL RX6 13 RX6 TX6 41 1 := ⟨by decide, (g_in4 6 rfl rfl), rfl⟩
set_option maxRecDepth 20000 in
theorem fX6_17 : xFL RX6 17 RX6 TX6 41 2 := ⟨by decide, (g_in4 7 rfl rfl), rfl⟩
set_option maxRecDepth 20000 in
theorem fX6_20 : xFL RX6 20 RX6 TX6 41 3 := ⟨by decide, (g_in4 8 rfl rfl), rfl⟩
set_option maxRecDepth 20000 in
theorem fX6_23 : xFL RX6 23 RX6 TX6 41 4 := ⟨by decide, (g_in4 9 rfl rfl), rfl⟩
set_option maxRecDepth 20000 in
theorem fX6_116 : xFL RX6 116 RX6 TX6 41 5 := ⟨by decide, (g_in4 10 rfl rfl), rfl⟩
set_option maxRecDepth 20000 in
theorem fX6_26 : xFL RX6 26 RX6 TX6 41 6 := ⟨by decide, (g_in4 11 rfl rfl), rfl⟩
set_option maxRecDepth 20000 in
theorem fX6_125 : xFL RX6 125 RX6 TX6 41 7 := ⟨by decide, (g_in4 12 rfl rfl), rfl⟩
set_option maxRecDepth 20000 in
theorem fX6_128 : xFL RX6 128 RX6 TX6 41 8 := ⟨by decide, (g_in4 13 rfl rfl), rfl⟩
set_option maxRecDepth 20000 in
theorem fX6_30 : xFL RX6 30 RX6 TX6 41 9 := ⟨by decide, (g_in4 14 rfl rfl), rfl⟩
set_option maxRecDepth 20000 in
theorem fX6_33 : xFL RX6 33 RX6 TX6 41 10 := ⟨by decide, (g_in4 15 rfl rfl), rfl⟩
set_option maxRecDepth 20000 in
theorem fX6_135 : xFL RX6 135 RX6 TX6 41 11 := ⟨by decide, (g_in4 16 rfl rfl), rfl⟩
set_option maxRecDepth 20000 in
theorem fX6_36 : xFL RX6 36 RX6 TX6 41 12 := ⟨by decide, (g_in4 17 rfl rfl), rfl⟩
set_option maxRecDepth 20000 in
theorem fX6_39 : xFL RX6 39 RX6 TX6 41 13 := ⟨by decide, (g_in4 18 rfl rfl), rfl⟩
set_option maxRecDepth 20000 in
theorem fX6_42 : xFL RX6 42 RX6 TX6 41 14 := ⟨by decide, (g_in4 19 rfl rfl), rfl⟩
set_option maxRecDepth 20000 in
theorem fX6_45 : xFL RX6 45 RX6 TX6 41 15 := ⟨by decide, (g_in4 20 rfl rfl), rfl⟩
set_option maxRecDepth 20000 in
theorem fX6_138 : xFL RX6 138 RX6 TX6 41 16 := ⟨by decide, (g_in4 21 rfl rfl), rfl⟩
set_option maxRecDepth 20000 in
theorem fX6_48 : xFL RX6 48 RX6 TX6 41 17 := ⟨by decide, (g_in4 22 rfl rfl), rfl⟩
set_option maxRecDepth 20000 in
theorem fX6_51 : xFL RX6 51 RX6 TX6 41 18 := ⟨by decide, (g_in4 23 rfl rfl), rfl⟩
set_option maxRecDepth 20000 in
theorem fX6_54 : xFL RX6 54 RX6 TX6 41 19 := ⟨by decide, (g_in4 24 rfl rfl), rfl⟩
set_option maxRecDepth 20000 in
theorem fX6_149 : xFL RX6 149 RX6 TX6 41 20 := ⟨by decide, (g_in4 25 rfl rfl), rfl⟩
set_option maxRecDepth 20000 in
theorem fX6_57 : xFL RX6 57 RX6 TX6 41 21 := ⟨by decide, (g_in4 26 rfl rfl), rfl⟩
set_option maxRecDepth 20000 in
theorem fX6_60 : xFL RX6 60 RX6 TX6 41 22 := ⟨by decide, (g_in4 27 rfl rfl), rfl⟩
set_option maxRecDepth 20000 in
theorem fX6_64 : xFL RX6 64 RX6 TX6 41 23 := ⟨by decide, (g_in4 28 rfl rfl), rfl⟩
set_option maxRecDepth 20000 in
theorem fX6_67 : xFL RX6 67 RX6 TX6 41 24 := ⟨by decide, (g_in4 29 rfl rfl), rfl⟩
set_option maxRecDepth 20000 in
theorem fX6_70 : xFL RX6 70 RX6 TX6 41 25 := ⟨by decide, (g_in4 30 rfl rfl), rfl⟩
set_option maxRecDepth 20000 in
theorem fX6_73 : xFL RX6 73 RX6 TX6 41 26 := ⟨by decide, (g_in4 31 rfl rfl), rfl⟩
set_option maxRecDepth 20000 in
theorem fX6_76 : xFL RX6 76 RX6 TX6 41 27 := ⟨by decide, (g_in4 32 rfl rfl), rfl⟩
set_option maxRecDepth 20000 in
theorem fX6_79 : xFL RX6 79 RX6 TX6 41 28 := ⟨by decide, (g_in4 33 rfl rfl), rfl⟩
set_option maxRecDepth 20000 in
theorem fX6_82 : xFL RX6 82 RX6 TX6 41 29 := ⟨by decide, (g_in4 34 rfl rfl), rfl⟩
set_option maxRecDepth 20000 in
theorem fX6_158 : xFL RX6 158 RX6 TX6 41 30 := ⟨by decide, (g_in4 35 rfl rfl), rfl⟩
set_option maxRecDepth 20000 in
theorem fX6_85 : xFL RX6 85 RX6 TX6 41 31 := ⟨by decide, (g_in4 36 rfl rfl), rfl⟩
set_option maxRecDepth 20000 in
theorem fX6_88 : xFL RX6 88 RX6 TX6 41 32 := ⟨by decide, (g_in4 37 rfl rfl), rfl⟩
set_option maxRecDepth 20000 in
theorem fX6_91 : xFL RX6 91 RX6 TX6 41 33 := ⟨by decide, (g_in4 38 rfl rfl), rfl⟩
set_option maxRecDepth 20000 in
theorem fX6_94 : xFL RX6 94 RX6 TX6 41 34 := ⟨by decide, (g_in4 39 rfl rfl), rfl⟩
set_option maxRecDepth 20000 in
theorem fX6_97 : xFL RX6 97 RX6 TX6 41 35 := ⟨by decide, (g_in4 40 rfl rfl), rfl⟩
set_option maxRecDepth 20000 in
theorem fX6_100 : xFL RX6 100 RX6 TX6 41 36 := ⟨by decide, (g_in4 41 rfl rfl), rfl⟩
set_option maxRecDepth 20000 in
theorem fX6_161 : xFL RX6 161 RX6 TX6 41 37 := ⟨by decide, (g_in4 42 rfl rfl), rfl⟩
set_option maxRecDepth 20000 in
theorem fX6_202 : xFL RX6 202 RX6 TX6 41 38 := ⟨by decide, (g_in4 43 rfl rfl), rfl⟩
set_option maxRecDepth 20000 in
theorem fX6_104 : xFL RX6 104 RX6 TX6 41 39 := ⟨by decide, (g_in4 44 rfl rfl), rfl⟩
set_option maxRecDepth 20000 in
theorem fX6_225 : xFL RX6 225 RX6 TX6 41 40 := ⟨by decide, (g_in4 45 rfl rfl), rfl⟩
abbrev mX5_init : xM := (RX5, yX5_init, cX5_init, 1, none)
set_option maxRecDepth 20000 in
theorem kX5_init : xCA mX5_init 0 := ⟨(g_in1 20 rfl rfl), by decide, by decide, by decide +kernel, (g_in1 1 rfl rfl), by decide⟩
abbrev mX2_init : xM := (RX2, yX2_init, cX2_init, 1, none)
set_option maxRecDepth 20000 in
theorem kX2_init : xCA mX2_init 0 := ⟨(g_in1 28 rfl rfl), by decide, by decide, by decide +kernel, (g_in1 2 rfl rfl), by decide⟩
abbrev mJ7_fill_53178 : xM := (RJ7, yJ7_fill_53178, cJ7_fill_53178, 4, none)
set_option maxRecDepth 20000 in
theorem kJ7_fill_53178 : xCA mJ7_fill_53178 2 := ⟨(g_in1 32 rfl rfl), by decide, by decide, by decide +kernel, (g_in1 3 rfl rfl), by decide⟩
abbrev mX0_init : xM := (RX0, yX0_init, cX0_init, 2, none)
set_option maxRecDepth 20000 in
theorem kX0_init : xCA mX0_init 1 := ⟨(g_in1 54 rfl rfl), by decide, by decide, by decide +kernel, (g_in1 4 rfl rfl), by decide⟩
abbrev mX4_init : xM := (RX4, yX4_init, cX4_init, 2, none)
set_option maxRecDepth 20000 in
theorem kX4_init : xCA mX4_init 1 := ⟨(g_in1 91 rfl rfl), by decide, by decide, by decide +kernel, (g_in1 5 rfl rfl), by decide⟩
abbrev mX1_init : xM := (RX1, yX1_init, cX1_init, 4, none)
set_option maxRecDepth 20000 in
theorem kX1_init : xCA mX1_init 3 := ⟨(g_in1 110 rfl rfl), by decide, by decide, by decide +kernel, (g_in1 6 rfl rfl), by decide⟩
abbrev mX3_init : xM := (RX3, yX3_init, cX3_init, 1, none)
set_option maxRecDepth 20000 in
theorem kX3_init : xCA mX3_init 0 := ⟨(g_in1 160 rfl rfl), by decide, by decide, by decide +kernel, (g_in1 7 rfl rfl), by decide⟩
abbrev mX5_add : xM := (RX5, yX5_add, cX5_add, 7, (some .int))
set_option maxRecDepth 20000 in
theorem kX5_add : xCA mX5_add 4 := ⟨(g_in1 213 rfl rfl), by decide, by decide, by decide +kernel, (g_in1 1 rfl rfl), by decide⟩
abbrev mX5_isTarget : xM := (RX5, yX5_isTarget, cX5_isTarget, 1, (some .boolean))
set_option maxRecDepth 20000 in
theorem kX5_isTarget : xCA mX5_isTarget 1 := ⟨(g_in1 216 rfl rfl), by decide, by decide, by decide +kernel, (g_in1 1 rfl rfl), by decide⟩
abbrev mX5_within : xM := (RX5, yX5_within, cX5_within, 3, (some .boolean))
set_option maxRecDepth 20000 in
theorem kX5_within : xCA mX5_within 3 := ⟨(g_in1 219 rfl rfl), by decide, by decide, by decide +kernel, (g_in1 1 rfl rfl), by decide⟩
abbrev mX5_isWeight : xM := (RX5, yX5_isWeight, cX5_isWeight, 1, (some .boolean))
set_option maxRecDepth 20000 in
theorem kX5_isWeight : xCA mX5_isWeight 1 := ⟨(g_in1 222 rfl rfl), by decide, by decide, by decide +kernel, (g_in1 1 rfl rfl), by decide⟩
abbrev mX2_firstMeeting : xM := (RX2, yX2_firstMeeting, cX2_firstMeeting, 4, (some .int))
set_option maxRecDepth 20000 in
theorem kX2_firstMeeting : xCA mX2_firstMeeting 2 := ⟨(g_in1 226 rfl rfl), by decide, by decide, by decide +kernel, (g_in1 2 rfl rfl), by decide⟩
abbrev mX2_firstFree : xM := (RX2, yX2_firstFree, cX2_firstFree, 2, (some .int))
set_option maxRecDepth 20000 in
theorem kX2_firstFree : xCA mX2_firstFree 0 := ⟨(g_in1 230 rfl rfl), by decide, by decide, by decide +kernel, (g_in1 2 rfl rfl), by decide⟩
abbrev mX2_set : xM := (RX2, yX2_set, cX2_set, 6, none)
set_option maxRecDepth 20000 in
theorem kX2_set : xCA mX2_set 5 := ⟨(g_in1 234 rfl rfl), by decide, by decide, by decide +kernel, (g_in1 2 rfl rfl), by decide⟩
abbrev mX5_clash : xM := (RX5, yX5_clash, cX5_clash, 1, (some .int))
set_option maxRecDepth 20000 in
theorem kX5_clash : xCA mX5_clash 0 := ⟨(g_in1 238 rfl rfl), by decide, by decide, by decide +kernel, (g_in1 1 rfl rfl), by decide⟩
abbrev mX5_drop : xM := (RX5, yX5_drop, cX5_drop, 2, (some .int))
set_option maxRecDepth 20000 in
theorem kX5_drop : xCA mX5_drop 1 := ⟨(g_in2 2 rfl rfl), by decide, by decide, by decide +kernel, (g_in1 1 rfl rfl), by decide⟩
abbrev mX2_has : xM := (RX2, yX2_has, cX2_has, 2, (some .boolean))
set_option maxRecDepth 20000 in
theorem kX2_has : xCA mX2_has 1 := ⟨(g_in2 6 rfl rfl), by decide, by decide, by decide +kernel, (g_in1 2 rfl rfl), by decide⟩
abbrev mX2_free : xM := (RX2, yX2_free, cX2_free, 2, none)
set_option maxRecDepth 20000 in
theorem kX2_free : xCA mX2_free 1 := ⟨(g_in2 10 rfl rfl), by decide, by decide, by decide +kernel, (g_in1 2 rfl rfl), by decide⟩
abbrev mX2_held : xM := (RX2, yX2_held, cX2_held, 1, (some .int))
set_option maxRecDepth 20000 in
theorem kX2_held : xCA mX2_held 0 := ⟨(g_in2 15 rfl rfl), by decide, by decide, by decide +kernel, (g_in1 2 rfl rfl), by decide⟩
abbrev mX5_rest : xM := (RX5, yX5_rest, cX5_rest, 4, (some .int))
set_option maxRecDepth 20000 in
theorem kX5_rest : xCA mX5_rest 2 := ⟨(g_in2 19 rfl rfl), by decide, by decide, by decide +kernel, (g_in1 1 rfl rfl), by decide⟩
abbrev mX5_tables : xM := (RX5, yX5_tables, cX5_tables, 4, (some .int))
set_option maxRecDepth 20000 in
theorem kX5_tables : xCA mX5_tables 2 := ⟨(g_in2 23 rfl rfl), by decide, by decide, by decide +kernel, (g_in1 1 rfl rfl), by decide⟩
abbrev mX5_way : xM := (RX5, yX5_way, cX5_way, 3, (some .int))
set_option maxRecDepth 20000 in
theorem kX5_way : xCA mX5_way 1 := ⟨(g_in2 27 rfl rfl), by decide, by decide, by decide +kernel, (g_in1 1 rfl rfl), by decide⟩
abbrev mX5_told : xM := (RX5, yX5_told, cX5_told, 3, (some .int))
set_option maxRecDepth 20000 in
theorem kX5_told : xCA mX5_told 2 := ⟨(g_in2 31 rfl rfl), by decide, by decide, by decide +kernel, (g_in1 1 rfl rfl), by decide⟩
abbrev mX2_tell : xM := (RX2, yX2_tell, cX2_tell, 3, (some .int))
set_option maxRecDepth 20000 in
theorem kX2_tell : xCA mX2_tell 2 := ⟨(g_in2 35 rfl rfl), by decide, by decide, by decide +kernel, (g_in1 2 rfl rfl), by decide⟩
abbrev mX5_count : xM := (RX5, yX5_count, cX5_count, 2, (some .int))
set_option maxRecDepth 20000 in
theorem kX5_count : xCA mX5_count 1 := ⟨(g_in2 39 rfl rfl), by decide, by decide, by decide +kernel, (g_in1 1 rfl rfl), by decide⟩
abbrev mX5_workOut : xM := (RX5, yX5_workOut, cX5_workOut, 1, none)
set_option maxRecDepth 20000 in
theorem kX5_workOut : xCA mX5_workOut 0 := ⟨(g_in2 43 rfl rfl), by decide, by decide, by decide +kernel, (g_in1 1 rfl rfl), by decide⟩
abbrev mX2_gather : xM := (RX2, yX2_gather, cX2_gather, 5, none)
set_option maxRecDepth 20000 in
theorem kX2_gather : xCA mX2_gather 2 := ⟨(g_in2 47 rfl rfl), by decide, by decide, by decide +kernel, (g_in1 2 rfl rfl), by decide⟩
abbrev mX2_nextByLow : xM := (RX2, yX2_nextByLow, cX2_nextByLow, 7, (some .int))
set_option maxRecDepth 20000 in
theorem kX2_nextByLow : xCA mX2_nextByLow 1 := ⟨(g_in2 52 rfl rfl), by decide, by decide, by decide +kernel, (g_in1 2 rfl rfl), by decide⟩
abbrev mX2_target : xM := (RX2, yX2_target, cX2_target, 2, (some .int))
set_option maxRecDepth 20000 in
theorem kX2_target : xCA mX2_target 1 := ⟨(g_in2 57 rfl rfl), by decide, by decide, by decide +kernel, (g_in1 2 rfl rfl), by decide⟩
abbrev mX2_low : xM := (RX2, yX2_low, cX2_low, 2, (some .int))
set_option maxRecDepth 20000 in
theorem kX2_low : xCA mX2_low 1 := ⟨(g_in2 61 rfl rfl), by decide, by decide, by decide +kernel, (g_in1 2 rfl rfl), by decide⟩
abbrev mX2_high : xM := (RX2, yX2_high, cX2_high, 2, (some .int))
set_option maxRecDepth 20000 in
theorem kX2_high : xCA mX2_high 1 := ⟨(g_in2 65 rfl rfl), by decide, by decide, by decide +kernel, (g_in1 2 rfl rfl), by decide⟩
abbrev mX2_weight : xM := (RX2, yX2_weight, cX2_weight, 2, (some .int))
set_option maxRecDepth 20000 in
theorem kX2_weight : xCA mX2_weight 1 := ⟨(g_in2 69 rfl rfl), by decide, by decide, by decide +kernel, (g_in1 2 rfl rfl), by decide⟩
abbrev mX2_join : xM := (RX2, yX2_join, cX2_join, 6, none)
set_option maxRecDepth 20000 in
theorem kX2_join : xCA mX2_join 4 := ⟨(g_in2 73 rfl rfl), by decide, by decide, by decide +kernel, (g_in1 2 rfl rfl), by decide⟩
abbrev mX0_part : xM := (RX0, yX0_part, cX0_part, 5, none)
set_option maxRecDepth 20000 in
theorem kX0_part : xCA mX0_part 2 := ⟨(g_in2 78 rfl rfl), by decide, by decide, by decide +kernel, (g_in1 4 rfl rfl), by decide⟩
abbrev mX0_findFewest : xM := (RX0, yX0_findFewest, cX0_findFewest, 4, none)
set_option maxRecDepth 20000 in
theorem kX0_findFewest : xCA mX0_findFewest 0 := ⟨(g_in2 82 rfl rfl), by decide, by decide, by decide +kernel, (g_in1 4 rfl rfl), by decide⟩
abbrev mJ9_min_7cf53 : xM := (RJ9, yJ9_min_7cf53, cJ9_min_7cf53, 2, (some .int))
set_option maxRecDepth 20000 in
theorem kJ9_min_7cf53 : xCA mJ9_min_7cf53 2 := ⟨(g_in2 86 rfl rfl), by decide, by decide, by decide +kernel, (g_in1 9 rfl rfl), by decide⟩
abbrev mX0_kindOf : xM := (RX0, yX0_kindOf, cX0_kindOf, 5, (some .int))
set_option maxRecDepth 20000 in
theorem kX0_kindOf : xCA mX0_kindOf 2 := ⟨(g_in2 90 rfl rfl), by decide, by decide, by decide +kernel, (g_in1 4 rfl rfl), by decide⟩
abbrev mX2_unlikeTargets : xM := (RX2, yX2_unlikeTargets, cX2_unlikeTargets, 5, (some .int))
set_option maxRecDepth 20000 in
theorem kX2_unlikeTargets : xCA mX2_unlikeTargets 2 := ⟨(g_in2 97 rfl rfl), by decide, by decide, by decide +kernel, (g_in1 2 rfl rfl), by decide⟩
abbrev mJ6_bitCount_0f7a4 : xM := (RJ6, yJ6_bitCount_0f7a4, cJ6_bitCount_0f7a4, 1, (some .int))
set_option maxRecDepth 20000 in
theorem kJ6_bitCount_0f7a4 : xCA mJ6_bitCount_0f7a4 1 := ⟨(g_in2 100 rfl rfl), by decide, by decide, by decide +kernel, (g_in1 10 rfl rfl), by decide⟩
abbrev mX2_intsIn : xM := (RX2, yX2_intsIn, cX2_intsIn, 6, (some .long))
set_option maxRecDepth 20000 in
theorem kX2_intsIn : xCA mX2_intsIn 2 := ⟨(g_in2 107 rfl rfl), by decide, by decide, by decide +kernel, (g_in1 2 rfl rfl), by decide⟩
abbrev mX2_weightOf : xM := (RX2, yX2_weightOf, cX2_weightOf, 5, (some .int))
set_option maxRecDepth 20000 in
theorem kX2_weightOf : xCA mX2_weightOf 2 := ⟨(g_in2 112 rfl rfl), by decide, by decide, by decide +kernel, (g_in1 2 rfl rfl), by decide⟩
abbrev mX4_plan : xM := (RX4, yX4_plan, cX4_plan, 5, none)
set_option maxRecDepth 20000 in
theorem kX4_plan : xCA mX4_plan 1 := ⟨(g_in2 116 rfl rfl), by decide, by decide, by decide +kernel, (g_in1 5 rfl rfl), by decide⟩
abbrev mX0_held : xM := (RX0, yX0_held, cX0_held, 1, (some .int))
set_option maxRecDepth 20000 in
theorem kX0_held : xCA mX0_held 0 := ⟨(g_in2 120 rfl rfl), by decide, by decide, by decide +kernel, (g_in1 4 rfl rfl), by decide⟩
abbrev mX4_findCheapest : xM := (RX4, yX4_findCheapest, cX4_findCheapest, 8, none)
set_option maxRecDepth 20000 in
theorem kX4_findCheapest : xCA mX4_findCheapest 2 := ⟨(g_in2 125 rfl rfl), by decide, by decide, by decide +kernel, (g_in1 5 rfl rfl), by decide⟩
abbrev mX0_weight : xM := (RX0, yX0_weight, cX0_weight, 2, (some .int))
set_option maxRecDepth 20000 in
theorem kX0_weight : xCA mX0_weight 1 := ⟨(g_in2 130 rfl rfl), by decide, by decide, by decide +kernel, (g_in1 4 rfl rfl), by decide⟩
abbrev mX4_costOf : xM := (RX4, yX4_costOf, cX4_costOf, 4, (some .int))
set_option maxRecDepth 20000 in
theorem kX4_costOf : xCA mX4_costOf 2 := ⟨(g_in2 134 rfl rfl), by decide, by decide, by decide +kernel, (g_in1 5 rfl rfl), by decide⟩
abbrev mX4_place : xM := (RX4, yX4_place, cX4_place, 3, (some .int))
set_option maxRecDepth 20000 in
theorem kX4_place : xCA mX4_place 2 := ⟨(g_in2 137 rfl rfl), by decide, by decide, by decide +kernel, (g_in1 5 rfl rfl), by decide⟩
abbrev mX1_layOut : xM := (RX1, yX1_layOut, cX1_layOut, 2, none)
set_option maxRecDepth 20000 in
theorem kX1_layOut : xCA mX1_layOut 1 := ⟨(g_in2 141 rfl rfl), by decide, by decide, by decide +kernel, (g_in1 6 rfl rfl), by decide⟩
abbrev mX1_write : xM := (RX1, yX1_write, cX1_write, 6, (some .int))
set_option maxRecDepth 20000 in
theorem kX1_write : xCA mX1_write 4 := ⟨(g_in2 146 rfl rfl), by decide, by decide, by decide +kernel, (g_in1 6 rfl rfl), by decide⟩
abbrev mX1_layPart : xM := (RX1, yX1_layPart, cX1_layPart, 9, none)
set_option maxRecDepth 20000 in
theorem kX1_layPart : xCA mX1_layPart 5 := ⟨(g_in2 152 rfl rfl), by decide, by decide, by decide +kernel, (g_in1 6 rfl rfl), by decide⟩
abbrev mX1_layLeaf : xM := (RX1, yX1_layLeaf, cX1_layLeaf, 10, none)
set_option maxRecDepth 20000 in
theorem kX1_layLeaf : xCA mX1_layLeaf 3 := ⟨(g_in2 156 rfl rfl), by decide, by decide, by decide +kernel, (g_in1 6 rfl rfl), by decide⟩
abbrev mX0_kind : xM := (RX0, yX0_kind, cX0_kind, 2, (some .int))
set_option maxRecDepth 20000 in
theorem kX0_kind : xCA mX0_kind 1 := ⟨(g_in2 160 rfl rfl), by decide, by decide, by decide +kernel, (g_in1 4 rfl rfl), by decide⟩
abbrev mX0_bottom : xM := (RX0, yX0_bottom, cX0_bottom, 2, (some .int))
set_option maxRecDepth 20000 in
theorem kX0_bottom : xCA mX0_bottom 1 := ⟨(g_in2 164 rfl rfl), by decide, by decide, by decide +kernel, (g_in1 4 rfl rfl), by decide⟩
abbrev mX0_firstRun : xM := (RX0, yX0_firstRun, cX0_firstRun, 2, (some .int))
set_option maxRecDepth 20000 in
theorem kX0_firstRun : xCA mX0_firstRun 1 := ⟨(g_in2 168 rfl rfl), by decide, by decide, by decide +kernel, (g_in1 4 rfl rfl), by decide⟩
abbrev mX0_top : xM := (RX0, yX0_top, cX0_top, 2, (some .int))
set_option maxRecDepth 20000 in
theorem kX0_top : xCA mX0_top 1 := ⟨(g_in2 172 rfl rfl), by decide, by decide, by decide +kernel, (g_in1 4 rfl rfl), by decide⟩
abbrev mX0_lastRun : xM := (RX0, yX0_lastRun, cX0_lastRun, 2, (some .int))
set_option maxRecDepth 20000 in
theorem kX0_lastRun : xCA mX0_lastRun 1 := ⟨(g_in2 176 rfl rfl), by decide, by decide, by decide +kernel, (g_in1 4 rfl rfl), by decide⟩
abbrev mX1_layBits : xM := (RX1, yX1_layBits, cX1_layBits, 8, none)
set_option maxRecDepth 20000 in
theorem kX1_layBits : xCA mX1_layBits 2 := ⟨(g_in2 182 rfl rfl), by decide, by decide, by decide +kernel, (g_in1 6 rfl rfl), by decide⟩
abbrev mX2_rowOfBits : xM := (RX2, yX2_rowOfBits, cX2_rowOfBits, 13, (some .long))
set_option maxRecDepth 20000 in
theorem kX2_rowOfBits : xCA mX2_rowOfBits 3 := ⟨(g_in2 187 rfl rfl), by decide, by decide, by decide +kernel, (g_in1 2 rfl rfl), by decide⟩
abbrev mJ9_min_f86c9 : xM := (RJ9, yJ9_min_f86c9, cJ9_min_f86c9, 4, (some .long))
set_option maxRecDepth 20000 in
theorem kJ9_min_f86c9 : xCA mJ9_min_f86c9 2 := ⟨(g_in2 191 rfl rfl), by decide, by decide, by decide +kernel, (g_in1 9 rfl rfl), by decide⟩
abbrev mX1_layTable : xM := (RX1, yX1_layTable, cX1_layTable, 8, none)
set_option maxRecDepth 20000 in
theorem kX1_layTable : xCA mX1_layTable 3 := ⟨(g_in2 195 rfl rfl), by decide, by decide, by decide +kernel, (g_in1 6 rfl rfl), by decide⟩
abbrev mX1_has : xM := (RX1, yX1_has, cX1_has, 2, (some .boolean))
set_option maxRecDepth 20000 in
theorem kX1_has : xCA mX1_has 1 := ⟨(g_in2 200 rfl rfl), by decide, by decide, by decide +kernel, (g_in1 6 rfl rfl), by decide⟩
abbrev mX1_fill : xM := (RX1, yX1_fill, cX1_fill, 5, none)
set_option maxRecDepth 20000 in
theorem kX1_fill : xCA mX1_fill 3 := ⟨(g_in2 204 rfl rfl), by decide, by decide, by decide +kernel, (g_in1 6 rfl rfl), by decide⟩
abbrev mJ9_max_7cf53 : xM := (RJ9, yJ9_max_7cf53, cJ9_max_7cf53, 2, (some .int))
set_option maxRecDepth 20000 in
theorem kJ9_max_7cf53 : xCA mJ9_max_7cf53 2 := ⟨(g_in2 207 rfl rfl), by decide, by decide, by decide +kernel, (g_in1 9 rfl rfl), by decide⟩
abbrev mX1_aim : xM := (RX1, yX1_aim, cX1_aim, 3, none)
set_option maxRecDepth 20000 in
theorem kX1_aim : xCA mX1_aim 2 := ⟨(g_in2 213 rfl rfl), by decide, by decide, by decide +kernel, (g_in1 6 rfl rfl), by decide⟩
abbrev mX4_split : xM := (RX4, yX4_split, cX4_split, 4, (some .int))
set_option maxRecDepth 20000 in
theorem kX4_split : xCA mX4_split 2 := ⟨(g_in2 217 rfl rfl), by decide, by decide, by decide +kernel, (g_in1 5 rfl rfl), by decide⟩
abbrev mX1_length : xM := (RX1, yX1_length, cX1_length, 1, (some .int))
set_option maxRecDepth 20000 in
theorem kX1_length : xCA mX1_length 0 := ⟨(g_in2 223 rfl rfl), by decide, by decide, by decide +kernel, (g_in1 6 rfl rfl), by decide⟩
abbrev mX1_numbersInTables : xM := (RX1, yX1_numbersInTables, cX1_numbersInTables, 1, (some .int))
set_option maxRecDepth 20000 in
theorem kX1_numbersInTables : xCA mX1_numbersInTables 0 := ⟨(g_in2 227 rfl rfl), by decide, by decide, by decide +kernel, (g_in1 6 rfl rfl), by decide⟩
abbrev mX3_length : xM := (RX3, yX3_length, cX3_length, 1, (some .int))
set_option maxRecDepth 20000 in
theorem kX3_length : xCA mX3_length 0 := ⟨(g_in2 231 rfl rfl), by decide, by decide, by decide +kernel, (g_in1 7 rfl rfl), by decide⟩
abbrev mX5_mostSteps : xM := (RX5, yX5_mostSteps, cX5_mostSteps, 3, (some .int))
set_option maxRecDepth 20000 in
theorem kX5_mostSteps : xCA mX5_mostSteps 0 := ⟨(g_in2 235 rfl rfl), by decide, by decide, by decide +kernel, (g_in1 1 rfl rfl), by decide⟩
abbrev mX5_stepsOf : xM := (RX5, yX5_stepsOf, cX5_stepsOf, 2, (some .int))
set_option maxRecDepth 20000 in
theorem kX5_stepsOf : xCA mX5_stepsOf 1 := ⟨(g_in3 0 rfl rfl), by decide, by decide, by decide +kernel, (g_in1 1 rfl rfl), by decide⟩
abbrev mX1_follow : xM := (RX1, yX1_follow, cX1_follow, 3, none)
set_option maxRecDepth 20000 in
theorem kX1_follow : xCA mX1_follow 1 := ⟨(g_in3 4 rfl rfl), by decide, by decide, by decide +kernel, (g_in1 6 rfl rfl), by decide⟩
abbrev mX1_doLine : xM := (RX1, yX1_doLine, cX1_doLine, 3, (some .int))
set_option maxRecDepth 20000 in
theorem kX1_doLine : xCA mX1_doLine 2 := ⟨(g_in3 8 rfl rfl), by decide, by decide, by decide +kernel, (g_in1 6 rfl rfl), by decide⟩
abbrev mX1_endWith : xM := (RX1, yX1_endWith, cX1_endWith, 2, (some .int))
set_option maxRecDepth 20000 in
theorem kX1_endWith : xCA mX1_endWith 1 := ⟨(g_in3 12 rfl rfl), by decide, by decide, by decide +kernel, (g_in1 6 rfl rfl), by decide⟩
abbrev mX1_hasBit : xM := (RX1, yX1_hasBit, cX1_hasBit, 4, (some .boolean))
set_option maxRecDepth 20000 in
theorem kX1_hasBit : xCA mX1_hasBit 2 := ⟨(g_in3 16 rfl rfl), by decide, by decide, by decide +kernel, (g_in1 6 rfl rfl), by decide⟩
abbrev mX1_row : xM := (RX1, yX1_row, cX1_row, 2, (some .long))
set_option maxRecDepth 20000 in
theorem kX1_row : xCA mX1_row 1 := ⟨(g_in3 21 rfl rfl), by decide, by decide, by decide +kernel, (g_in1 6 rfl rfl), by decide⟩
abbrev mX1_number : xM := (RX1, yX1_number, cX1_number, 6, (some .int))
set_option maxRecDepth 20000 in
theorem kX1_number : xCA mX1_number 2 := ⟨(g_in3 25 rfl rfl), by decide, by decide, by decide +kernel, (g_in1 6 rfl rfl), by decide⟩
abbrev mX1_linesDone : xM := (RX1, yX1_linesDone, cX1_linesDone, 1, (some .int))
set_option maxRecDepth 20000 in
theorem kX1_linesDone : xCA mX1_linesDone 0 := ⟨(g_in3 30 rfl rfl), by decide, by decide, by decide +kernel, (g_in1 6 rfl rfl), by decide⟩
abbrev mX5_run : xM := (RX5, yX5_run, cX5_run, 3, (some .int))
set_option maxRecDepth 20000 in
theorem kX5_run : xCA mX5_run 2 := ⟨(g_in3 37 rfl rfl), by decide, by decide, by decide +kernel, (g_in1 1 rfl rfl), by decide⟩
abbrev mX5_cluster : xM := (RX5, yX5_cluster, cX5_cluster, 3, (some .int))
set_option maxRecDepth 20000 in
theorem kX5_cluster : xCA mX5_cluster 2 := ⟨(g_in3 41 rfl rfl), by decide, by decide, by decide +kernel, (g_in1 1 rfl rfl), by decide⟩
abbrev mX0_has : xM := (RX0, yX0_has, cX0_has, 2, (some .boolean))
set_option maxRecDepth 20000 in
theorem kX0_has : xCA mX0_has 1 := ⟨(g_in3 45 rfl rfl), by decide, by decide, by decide +kernel, (g_in1 4 rfl rfl), by decide⟩
abbrev mX0_runsOf : xM := (RX0, yX0_runsOf, cX0_runsOf, 2, (some .int))
set_option maxRecDepth 20000 in
theorem kX0_runsOf : xCA mX0_runsOf 1 := ⟨(g_in3 51 rfl rfl), by decide, by decide, by decide +kernel, (g_in1 4 rfl rfl), by decide⟩
abbrev mX4_questionsAbove : xM := (RX4, yX4_questionsAbove, cX4_questionsAbove, 6, (some .int))
set_option maxRecDepth 20000 in
theorem kX4_questionsAbove : xCA mX4_questionsAbove 1 := ⟨(g_in3 56 rfl rfl), by decide, by decide, by decide +kernel, (g_in1 5 rfl rfl), by decide⟩
abbrev mX5_cost : xM := (RX5, yX5_cost, cX5_cost, 3, (some .int))
set_option maxRecDepth 20000 in
theorem kX5_cost : xCA mX5_cost 0 := ⟨(g_in3 61 rfl rfl), by decide, by decide, by decide +kernel, (g_in1 1 rfl rfl), by decide⟩
abbrev mX5_line : xM := (RX5, yX5_line, cX5_line, 3, (some .int))
set_option maxRecDepth 20000 in
theorem kX5_line : xCA mX5_line 2 := ⟨(g_in3 65 rfl rfl), by decide, by decide, by decide +kernel, (g_in1 1 rfl rfl), by decide⟩
abbrev mX1_kind : xM := (RX1, yX1_kind, cX1_kind, 2, (some .int))
set_option maxRecDepth 20000 in
theorem kX1_kind : xCA mX1_kind 1 := ⟨(g_in3 70 rfl rfl), by decide, by decide, by decide +kernel, (g_in1 6 rfl rfl), by decide⟩
abbrev mX1_first : xM := (RX1, yX1_first, cX1_first, 2, (some .int))
set_option maxRecDepth 20000 in
theorem kX1_first : xCA mX1_first 1 := ⟨(g_in3 74 rfl rfl), by decide, by decide, by decide +kernel, (g_in1 6 rfl rfl), by decide⟩
abbrev mX1_second : xM := (RX1, yX1_second, cX1_second, 2, (some .int))
set_option maxRecDepth 20000 in
theorem kX1_second : xCA mX1_second 1 := ⟨(g_in3 78 rfl rfl), by decide, by decide, by decide +kernel, (g_in1 6 rfl rfl), by decide⟩
abbrev mX5_bits : xM := (RX5, yX5_bits, cX5_bits, 2, (some .long))
set_option maxRecDepth 20000 in
theorem kX5_bits : xCA mX5_bits 1 := ⟨(g_in3 82 rfl rfl), by decide, by decide, by decide +kernel, (g_in1 1 rfl rfl), by decide⟩
abbrev mX5_entry : xM := (RX5, yX5_entry, cX5_entry, 3, (some .int))
set_option maxRecDepth 20000 in
theorem kX5_entry : xCA mX5_entry 2 := ⟨(g_in3 88 rfl rfl), by decide, by decide, by decide +kernel, (g_in1 1 rfl rfl), by decide⟩
abbrev mX5_go : xM := (RX5, yX5_go, cX5_go, 2, (some .int))
set_option maxRecDepth 20000 in
theorem kX5_go : xCA mX5_go 1 := ⟨(g_in3 93 rfl rfl), by decide, by decide, by decide +kernel, (g_in1 1 rfl rfl), by decide⟩
abbrev mX1_target : xM := (RX1, yX1_target, cX1_target, 1, (some .int))
set_option maxRecDepth 20000 in
theorem kX1_target : xCA mX1_target 0 := ⟨(g_in3 97 rfl rfl), by decide, by decide, by decide +kernel, (g_in1 6 rfl rfl), by decide⟩
abbrev mX5_steps : xM := (RX5, yX5_steps, cX5_steps, 2, (some .int))
set_option maxRecDepth 20000 in
theorem kX5_steps : xCA mX5_steps 1 := ⟨(g_in3 101 rfl rfl), by decide, by decide, by decide +kernel, (g_in1 1 rfl rfl), by decide⟩
abbrev mX5_by : xM := (RX5, yX5_by, cX5_by, 3, (some .int))
set_option maxRecDepth 20000 in
theorem kX5_by : xCA mX5_by 1 := ⟨(g_in3 105 rfl rfl), by decide, by decide, by decide +kernel, (g_in1 1 rfl rfl), by decide⟩
abbrev mX5_spent : xM := (RX5, yX5_spent, cX5_spent, 5, (some .long))
set_option maxRecDepth 20000 in
theorem kX5_spent : xCA mX5_spent 0 := ⟨(g_in3 110 rfl rfl), by decide, by decide, by decide +kernel, (g_in1 1 rfl rfl), by decide⟩
abbrev mX5_leastInNoCase : xM := (RX5, yX5_leastInNoCase, cX5_leastInNoCase, 5, (some .long))
set_option maxRecDepth 20000 in
theorem kX5_leastInNoCase : xCA mX5_leastInNoCase 0 := ⟨(g_in3 115 rfl rfl), by decide, by decide, by decide +kernel, (g_in1 1 rfl rfl), by decide⟩
abbrev mX5_print : xM := (RX5, yX5_print, cX5_print, 1, (some .int))
set_option maxRecDepth 20000 in
theorem kX5_print : xCA mX5_print 0 := ⟨(g_in3 121 rfl rfl), by decide, by decide, by decide +kernel, (g_in1 1 rfl rfl), by decide⟩
abbrev mX3_clear : xM := (RX3, yX3_clear, cX3_clear, 1, none)
set_option maxRecDepth 20000 in
theorem kX3_clear : xCA mX3_clear 0 := ⟨(g_in3 125 rfl rfl), by decide, by decide, by decide +kernel, (g_in1 7 rfl rfl), by decide⟩
abbrev mX1_printTo : xM := (RX1, yX1_printTo, cX1_printTo, 3, none)
set_option maxRecDepth 20000 in
theorem kX1_printTo : xCA mX1_printTo 1 := ⟨(g_in3 129 rfl rfl), by decide, by decide, by decide +kernel, (g_in1 6 rfl rfl), by decide⟩
abbrev mX1_printLine : xM := (RX1, yX1_printLine, cX1_printLine, 6, none)
set_option maxRecDepth 20000 in
theorem kX1_printLine : xCA mX1_printLine 2 := ⟨(g_in3 133 rfl rfl), by decide, by decide, by decide +kernel, (g_in1 6 rfl rfl), by decide⟩
abbrev mX3_number : xM := (RX3, yX3_number, cX3_number, 8, none)
set_option maxRecDepth 20000 in
theorem kX3_number : xCA mX3_number 1 := ⟨(g_in3 138 rfl rfl), by decide, by decide, by decide +kernel, (g_in1 7 rfl rfl), by decide⟩
abbrev mX3_put : xM := (RX3, yX3_put, cX3_put, 2, none)
set_option maxRecDepth 20000 in
theorem kX3_put : xCA mX3_put 1 := ⟨(g_in3 142 rfl rfl), by decide, by decide, by decide +kernel, (g_in1 7 rfl rfl), by decide⟩
abbrev mJ7_copyOf_9075b : xM := (RJ7, yJ7_copyOf_9075b, cJ7_copyOf_9075b, 3, (some (.array .byte)))
set_option maxRecDepth 20000 in
theorem kJ7_copyOf_9075b : xCA mJ7_copyOf_9075b 2 := ⟨(g_in3 146 rfl rfl), by decide, by decide, by decide +kernel, (g_in1 3 rfl rfl), by decide⟩
abbrev mX1_wordOf : xM := (RX1, yX1_wordOf, cX1_wordOf, 1, (some (.object "java/lang/String")))
set_option maxRecDepth 20000 in
theorem kX1_wordOf : xCA mX1_wordOf 1 := ⟨(g_in3 162 rfl rfl), by decide, by decide, by decide +kernel, (g_in1 6 rfl rfl), by decide⟩
abbrev mX3_word : xM := (RX3, yX3_word, cX3_word, 3, none)
set_option maxRecDepth 20000 in
theorem kX3_word : xCA mX3_word 1 := ⟨(g_in3 172 rfl rfl), by decide, by decide, by decide +kernel, (g_in1 7 rfl rfl), by decide⟩
abbrev mJ0_length_8abf5 : xM := (RJ0, yJ0_length_8abf5, cJ0_length_8abf5, 1, (some .int))
set_option maxRecDepth 20000 in
theorem kJ0_length_8abf5 : xCA mJ0_length_8abf5 0 := ⟨(g_in3 176 rfl rfl), by decide, by decide, by decide +kernel, (g_in1 12 rfl rfl), by decide⟩
abbrev mJ0_coder_7d493 : xM := (RJ0, yJ0_coder_7d493, cJ0_coder_7d493, 1, (some .byte))
set_option maxRecDepth 20000 in
theorem kJ0_coder_7d493 : xCA mJ0_coder_7d493 0 := ⟨(g_in3 180 rfl rfl), by decide, by decide, by decide +kernel, (g_in1 12 rfl rfl), by decide⟩
abbrev mJ0_charAt_5068e : xM := (RJ0, yJ0_charAt_5068e, cJ0_charAt_5068e, 2, (some .char))
set_option maxRecDepth 20000 in
theorem kJ0_charAt_5068e : xCA mJ0_charAt_5068e 1 := ⟨(g_in3 186 rfl rfl), by decide, by decide, by decide +kernel, (g_in1 12 rfl rfl), by decide⟩
abbrev mJ0_isLatin1_aae02 : xM := (RJ0, yJ0_isLatin1_aae02, cJ0_isLatin1_aae02, 1, (some .boolean))
set_option maxRecDepth 20000 in
theorem kJ0_isLatin1_aae02 : xCA mJ0_isLatin1_aae02 0 := ⟨(g_in3 190 rfl rfl), by decide, by decide, by decide +kernel, (g_in1 12 rfl rfl), by decide⟩
abbrev mJ1_charAt_3b067 : xM := (RJ1, yJ1_charAt_3b067, cJ1_charAt_3b067, 2, (some .char))
set_option maxRecDepth 20000 in
theorem kJ1_charAt_3b067 : xCA mJ1_charAt_3b067 2 := ⟨(g_in3 193 rfl rfl), by decide, by decide, by decide +kernel, (g_in1 13 rfl rfl), by decide⟩
abbrev mJ0_checkIndex_df160 : xM := (RJ0, yJ0_checkIndex_df160, cJ0_checkIndex_df160, 2, none)
set_option maxRecDepth 20000 in
theorem kJ0_checkIndex_df160 : xCA mJ0_checkIndex_df160 2 := ⟨(g_in3 196 rfl rfl), by decide, by decide, by decide +kernel, (g_in1 12 rfl rfl), by decide⟩
abbrev mJ3_checkIndex_8e157 : xM := (RJ3, yJ3_checkIndex_8e157, cJ3_checkIndex_8e157, 3, (some .int))
set_option maxRecDepth 20000 in
theorem kJ3_checkIndex_8e157 : xCA mJ3_checkIndex_8e157 3 := ⟨(g_in3 201 rfl rfl), by decide, by decide, by decide +kernel, (g_in1 14 rfl rfl), by decide⟩
abbrev mJ2_charAt_3b067 : xM := (RJ2, yJ2_charAt_3b067, cJ2_charAt_3b067, 2, (some .char))
set_option maxRecDepth 20000 in
theorem kJ2_charAt_3b067 : xCA mJ2_charAt_3b067 2 := ⟨(g_in3 204 rfl rfl), by decide, by decide, by decide +kernel, (g_in1 15 rfl rfl), by decide⟩
abbrev mJ2_checkIndex_2214a : xM := (RJ2, yJ2_checkIndex_2214a, cJ2_checkIndex_2214a, 2, none)
set_option maxRecDepth 20000 in
theorem kJ2_checkIndex_2214a : xCA mJ2_checkIndex_2214a 2 := ⟨(g_in3 207 rfl rfl), by decide, by decide, by decide +kernel, (g_in1 15 rfl rfl), by decide⟩
abbrev mJ2_length_9d52b : xM := (RJ2, yJ2_length_9d52b, cJ2_length_9d52b, 1, (some .int))
set_option maxRecDepth 20000 in
theorem kJ2_length_9d52b : xCA mJ2_length_9d52b 1 := ⟨(g_in3 210 rfl rfl), by decide, by decide, by decide +kernel, (g_in1 15 rfl rfl), by decide⟩
abbrev mJ2_getChar_3b067 : xM := (RJ2, yJ2_getChar_3b067, cJ2_getChar_3b067, 2, (some .char))
set_option maxRecDepth 20000 in
theorem kJ2_getChar_3b067 : xCA mJ2_getChar_3b067 2 := ⟨(g_in3 214 rfl rfl), by decide, by decide, by decide +kernel, (g_in1 15 rfl rfl), by decide⟩
abbrev mX3_figures : xM := (RX3, yX3_figures, cX3_figures, 5, none)
set_option maxRecDepth 20000 in
theorem kX3_figures : xCA mX3_figures 1 := ⟨(g_in3 226 rfl rfl), by decide, by decide, by decide +kernel, (g_in1 7 rfl rfl), by decide⟩
abbrev mX5_out : xM := (RX5, yX5_out, cX5_out, 2, (some .int))
set_option maxRecDepth 20000 in
theorem kX5_out : xCA mX5_out 1 := ⟨(g_in3 233 rfl rfl), by decide, by decide, by decide +kernel, (g_in1 1 rfl rfl), by decide⟩
abbrev mX3_byteAt : xM := (RX3, yX3_byteAt, cX3_byteAt, 2, (some .int))
set_option maxRecDepth 20000 in
theorem kX3_byteAt : xCA mX3_byteAt 1 := ⟨(g_in3 237 rfl rfl), by decide, by decide, by decide +kernel, (g_in1 7 rfl rfl), by decide⟩
abbrev mX6_init : xM := (RX6, yX6_init, cX6_init, 1, none)
set_option maxRecDepth 20000 in
theorem kX6_init : xCA mX6_init 0 := ⟨(g_in4 2 rfl rfl), by decide, by decide, by decide +kernel, (g_in1 8 rfl rfl), by decide⟩
abbrev mX6_add : xM := (RX6, yX6_add, cX6_add, 6, (some .int))
set_option maxRecDepth 20000 in
theorem kX6_add : xCA mX6_add 4 := ⟨(g_in4 133 rfl rfl), by decide, by decide, by decide +kernel, (g_in1 8 rfl rfl), by decide⟩
abbrev mX6_in : xM := (RX6, yX6_in, cX6_in, 6, (some .boolean))
set_option maxRecDepth 20000 in
theorem kX6_in : xCA mX6_in 3 := ⟨(g_in4 137 rfl rfl), by decide, by decide, by decide +kernel, (g_in1 8 rfl rfl), by decide⟩
abbrev mX6_clash : xM := (RX6, yX6_clash, cX6_clash, 1, (some .int))
set_option maxRecDepth 20000 in
theorem kX6_clash : xCA mX6_clash 0 := ⟨(g_in4 142 rfl rfl), by decide, by decide, by decide +kernel, (g_in1 8 rfl rfl), by decide⟩
abbrev mX6_drop : xM := (RX6, yX6_drop, cX6_drop, 2, (some .int))
set_option maxRecDepth 20000 in
theorem kX6_drop : xCA mX6_drop 1 := ⟨(g_in4 146 rfl rfl), by decide, by decide, by decide +kernel, (g_in1 8 rfl rfl), by decide⟩
abbrev mX6_noCase : xM := (RX6, yX6_noCase, cX6_noCase, 2, (some .boolean))
set_option maxRecDepth 20000 in
theorem kX6_noCase : xCA mX6_noCase 1 := ⟨(g_in4 150 rfl rfl), by decide, by decide, by decide +kernel, (g_in1 8 rfl rfl), by decide⟩
abbrev mX6_rest : xM := (RX6, yX6_rest, cX6_rest, 4, (some .int))
set_option maxRecDepth 20000 in
theorem kX6_rest : xCA mX6_rest 2 := ⟨(g_in4 155 rfl rfl), by decide, by decide, by decide +kernel, (g_in1 8 rfl rfl), by decide⟩
abbrev mX6_tables : xM := (RX6, yX6_tables, cX6_tables, 4, (some .int))
set_option maxRecDepth 20000 in
theorem kX6_tables : xCA mX6_tables 2 := ⟨(g_in4 159 rfl rfl), by decide, by decide, by decide +kernel, (g_in1 8 rfl rfl), by decide⟩
abbrev mX6_way : xM := (RX6, yX6_way, cX6_way, 3, (some .int))
set_option maxRecDepth 20000 in
theorem kX6_way : xCA mX6_way 1 := ⟨(g_in4 165 rfl rfl), by decide, by decide, by decide +kernel, (g_in1 8 rfl rfl), by decide⟩
abbrev mX6_told : xM := (RX6, yX6_told, cX6_told, 3, (some .int))
set_option maxRecDepth 20000 in
theorem kX6_told : xCA mX6_told 2 := ⟨(g_in4 169 rfl rfl), by decide, by decide, by decide +kernel, (g_in1 8 rfl rfl), by decide⟩
abbrev mX6_go : xM := (RX6, yX6_go, cX6_go, 2, (some .int))
set_option maxRecDepth 20000 in
theorem kX6_go : xCA mX6_go 1 := ⟨(g_in4 173 rfl rfl), by decide, by decide, by decide +kernel, (g_in1 8 rfl rfl), by decide⟩
abbrev mX6_make : xM := (RX6, yX6_make, cX6_make, 9, none)
set_option maxRecDepth 20000 in
theorem kX6_make : xCA mX6_make 0 := ⟨(g_in4 177 rfl rfl), by decide, by decide, by decide +kernel, (g_in1 8 rfl rfl), by decide⟩
abbrev mX6_makeRuns : xM := (RX6, yX6_makeRuns, cX6_makeRuns, 7, none)
set_option maxRecDepth 20000 in
theorem kX6_makeRuns : xCA mX6_makeRuns 0 := ⟨(g_in4 181 rfl rfl), by decide, by decide, by decide +kernel, (g_in1 8 rfl rfl), by decide⟩
abbrev mX6_makeClusters : xM := (RX6, yX6_makeClusters, cX6_makeClusters, 3, none)
set_option maxRecDepth 20000 in
theorem kX6_makeClusters : xCA mX6_makeClusters 0 := ⟨(g_in4 186 rfl rfl), by decide, by decide, by decide +kernel, (g_in1 8 rfl rfl), by decide⟩
abbrev mX6_kindOf : xM := (RX6, yX6_kindOf, cX6_kindOf, 11, (some .int))
set_option maxRecDepth 20000 in
theorem kX6_kindOf : xCA mX6_kindOf 2 := ⟨(g_in4 190 rfl rfl), by decide, by decide, by decide +kernel, (g_in1 8 rfl rfl), by decide⟩
abbrev mX6_makeTree : xM := (RX6, yX6_makeTree, cX6_makeTree, 11, none)
set_option maxRecDepth 20000 in
theorem kX6_makeTree : xCA mX6_makeTree 0 := ⟨(g_in4 195 rfl rfl), by decide, by decide, by decide +kernel, (g_in1 8 rfl rfl), by decide⟩
abbrev mX6_weightOf : xM := (RX6, yX6_weightOf, cX6_weightOf, 5, (some .long))
set_option maxRecDepth 20000 in
theorem kX6_weightOf : xCA mX6_weightOf 1 := ⟨(g_in4 199 rfl rfl), by decide, by decide, by decide +kernel, (g_in1 8 rfl rfl), by decide⟩
abbrev mX6_emit : xM := (RX6, yX6_emit, cX6_emit, 5, none)
set_option maxRecDepth 20000 in
theorem kX6_emit : xCA mX6_emit 4 := ⟨(g_in4 204 rfl rfl), by decide, by decide, by decide +kernel, (g_in1 8 rfl rfl), by decide⟩
abbrev mX6_part : xM := (RX6, yX6_part, cX6_part, 9, none)
set_option maxRecDepth 20000 in
theorem kX6_part : xCA mX6_part 6 := ⟨(g_in4 209 rfl rfl), by decide, by decide, by decide +kernel, (g_in1 8 rfl rfl), by decide⟩
abbrev mX6_leaf : xM := (RX6, yX6_leaf, cX6_leaf, 10, none)
set_option maxRecDepth 20000 in
theorem kX6_leaf : xCA mX6_leaf 3 := ⟨(g_in4 213 rfl rfl), by decide, by decide, by decide +kernel, (g_in1 8 rfl rfl), by decide⟩
abbrev mX6_bottom : xM := (RX6, yX6_bottom, cX6_bottom, 2, (some .int))
set_option maxRecDepth 20000 in
theorem kX6_bottom : xCA mX6_bottom 1 := ⟨(g_in4 217 rfl rfl), by decide, by decide, by decide +kernel, (g_in1 8 rfl rfl), by decide⟩
abbrev mX6_top : xM := (RX6, yX6_top, cX6_top, 2, (some .int))
set_option maxRecDepth 20000 in
theorem kX6_top : xCA mX6_top 1 := ⟨(g_in4 221 rfl rfl), by decide, by decide, by decide +kernel, (g_in1 8 rfl rfl), by decide⟩
abbrev mX6_ends : xM := (RX6, yX6_ends, cX6_ends, 7, (some .int))
set_option maxRecDepth 20000 in
theorem kX6_ends : xCA mX6_ends 3 := ⟨(g_in4 225 rfl rfl), by decide, by decide, by decide +kernel, (g_in1 8 rfl rfl), by decide⟩
abbrev mX6_layBits : xM := (RX6, yX6_layBits, cX6_layBits, 10, none)
set_option maxRecDepth 20000 in
theorem kX6_layBits : xCA mX6_layBits 3 := ⟨(g_in4 229 rfl rfl), by decide, by decide, by decide +kernel, (g_in1 8 rfl rfl), by decide⟩
abbrev mX6_runOn : xM := (RX6, yX6_runOn, cX6_runOn, 4, (some .int))
set_option maxRecDepth 20000 in
theorem kX6_runOn : xCA mX6_runOn 1 := ⟨(g_in4 233 rfl rfl), by decide, by decide, by decide +kernel, (g_in1 8 rfl rfl), by decide⟩
abbrev mX6_within : xM := (RX6, yX6_within, cX6_within, 5, (some .int))
set_option maxRecDepth 20000 in
theorem kX6_within : xCA mX6_within 2 := ⟨(g_in4 237 rfl rfl), by decide, by decide, by decide +kernel, (g_in1 8 rfl rfl), by decide⟩
abbrev mX6_steps : xM := (RX6, yX6_steps, cX6_steps, 2, (some .int))
set_option maxRecDepth 20000 in
theorem kX6_steps : xCA mX6_steps 1 := ⟨(g_in5 1 rfl rfl), by decide, by decide, by decide +kernel, (g_in1 8 rfl rfl), by decide⟩
abbrev mX6_stepsOf : xM := (RX6, yX6_stepsOf, cX6_stepsOf, 4, (some .int))
set_option maxRecDepth 20000 in
theorem kX6_stepsOf : xCA mX6_stepsOf 1 := ⟨(g_in5 5 rfl rfl), by decide, by decide, by decide +kernel, (g_in1 8 rfl rfl), by decide⟩
abbrev mX6_by : xM := (RX6, yX6_by, cX6_by, 3, (some .int))
set_option maxRecDepth 20000 in
theorem kX6_by : xCA mX6_by 1 := ⟨(g_in5 9 rfl rfl), by decide, by decide, by decide +kernel, (g_in1 8 rfl rfl), by decide⟩
abbrev mX6_caseOf : xM := (RX6, yX6_caseOf, cX6_caseOf, 5, (some .int))
set_option maxRecDepth 20000 in
theorem kX6_caseOf : xCA mX6_caseOf 1 := ⟨(g_in5 13 rfl rfl), by decide, by decide, by decide +kernel, (g_in1 8 rfl rfl), by decide⟩
abbrev mX6_spent : xM := (RX6, yX6_spent, cX6_spent, 6, (some .long))
set_option maxRecDepth 20000 in
theorem kX6_spent : xCA mX6_spent 0 := ⟨(g_in5 17 rfl rfl), by decide, by decide, by decide +kernel, (g_in1 8 rfl rfl), by decide⟩
abbrev mX6_count : xM := (RX6, yX6_count, cX6_count, 2, (some .int))
set_option maxRecDepth 20000 in
theorem kX6_count : xCA mX6_count 1 := ⟨(g_in5 21 rfl rfl), by decide, by decide, by decide +kernel, (g_in1 8 rfl rfl), by decide⟩
abbrev mX6_numbers : xM := (RX6, yX6_numbers, cX6_numbers, 3, (some .int))
set_option maxRecDepth 20000 in
theorem kX6_numbers : xCA mX6_numbers 0 := ⟨(g_in5 25 rfl rfl), by decide, by decide, by decide +kernel, (g_in1 8 rfl rfl), by decide⟩
abbrev mX6_mostSteps : xM := (RX6, yX6_mostSteps, cX6_mostSteps, 5, (some .int))
set_option maxRecDepth 20000 in
theorem kX6_mostSteps : xCA mX6_mostSteps 0 := ⟨(g_in5 29 rfl rfl), by decide, by decide, by decide +kernel, (g_in1 8 rfl rfl), by decide⟩
abbrev mX6_run : xM := (RX6, yX6_run, cX6_run, 3, (some .int))
set_option maxRecDepth 20000 in
theorem kX6_run : xCA mX6_run 2 := ⟨(g_in5 33 rfl rfl), by decide, by decide, by decide +kernel, (g_in1 8 rfl rfl), by decide⟩
abbrev mX6_cluster : xM := (RX6, yX6_cluster, cX6_cluster, 3, (some .int))
set_option maxRecDepth 20000 in
theorem kX6_cluster : xCA mX6_cluster 2 := ⟨(g_in5 37 rfl rfl), by decide, by decide, by decide +kernel, (g_in1 8 rfl rfl), by decide⟩
abbrev mX6_cost : xM := (RX6, yX6_cost, cX6_cost, 4, (some .int))
set_option maxRecDepth 20000 in
theorem kX6_cost : xCA mX6_cost 0 := ⟨(g_in5 41 rfl rfl), by decide, by decide, by decide +kernel, (g_in1 8 rfl rfl), by decide⟩
abbrev mX6_line : xM := (RX6, yX6_line, cX6_line, 3, (some .int))
set_option maxRecDepth 20000 in
theorem kX6_line : xCA mX6_line 2 := ⟨(g_in5 45 rfl rfl), by decide, by decide, by decide +kernel, (g_in1 8 rfl rfl), by decide⟩
abbrev mX6_noLine : xM := (RX6, yX6_noLine, cX6_noLine, 2, (some .boolean))
set_option maxRecDepth 20000 in
theorem kX6_noLine : xCA mX6_noLine 1 := ⟨(g_in5 49 rfl rfl), by decide, by decide, by decide +kernel, (g_in1 8 rfl rfl), by decide⟩
abbrev mX6_bits : xM := (RX6, yX6_bits, cX6_bits, 2, (some .long))
set_option maxRecDepth 20000 in
theorem kX6_bits : xCA mX6_bits 1 := ⟨(g_in5 53 rfl rfl), by decide, by decide, by decide +kernel, (g_in1 8 rfl rfl), by decide⟩
abbrev mX6_entry : xM := (RX6, yX6_entry, cX6_entry, 3, (some .int))
set_option maxRecDepth 20000 in
theorem kX6_entry : xCA mX6_entry 2 := ⟨(g_in5 58 rfl rfl), by decide, by decide, by decide +kernel, (g_in1 8 rfl rfl), by decide⟩
abbrev mX6_print : xM := (RX6, yX6_print, cX6_print, 2, (some .int))
set_option maxRecDepth 20000 in
theorem kX6_print : xCA mX6_print 0 := ⟨(g_in5 62 rfl rfl), by decide, by decide, by decide +kernel, (g_in1 8 rfl rfl), by decide⟩
abbrev mX6_printLine : xM := (RX6, yX6_printLine, cX6_printLine, 3, none)
set_option maxRecDepth 20000 in
theorem kX6_printLine : xCA mX6_printLine 1 := ⟨(g_in5 66 rfl rfl), by decide, by decide, by decide +kernel, (g_in1 8 rfl rfl), by decide⟩
abbrev mX6_plain : xM := (RX6, yX6_plain, cX6_plain, 5, none)
set_option maxRecDepth 20000 in
theorem kX6_plain : xCA mX6_plain 1 := ⟨(g_in5 70 rfl rfl), by decide, by decide, by decide +kernel, (g_in1 8 rfl rfl), by decide⟩
abbrev mX6_put : xM := (RX6, yX6_put, cX6_put, 2, none)
set_option maxRecDepth 20000 in
theorem kX6_put : xCA mX6_put 1 := ⟨(g_in5 77 rfl rfl), by decide, by decide, by decide +kernel, (g_in1 8 rfl rfl), by decide⟩
abbrev mX6_name : xM := (RX6, yX6_name, cX6_name, 6, none)
set_option maxRecDepth 20000 in
theorem kX6_name : xCA mX6_name 5 := ⟨(g_in5 81 rfl rfl), by decide, by decide, by decide +kernel, (g_in1 8 rfl rfl), by decide⟩
abbrev mX6_number : xM := (RX6, yX6_number, cX6_number, 3, none)
set_option maxRecDepth 20000 in
theorem kX6_number : xCA mX6_number 1 := ⟨(g_in5 85 rfl rfl), by decide, by decide, by decide +kernel, (g_in1 8 rfl rfl), by decide⟩
abbrev mX6_sixteen : xM := (RX6, yX6_sixteen, cX6_sixteen, 5, none)
set_option maxRecDepth 20000 in
theorem kX6_sixteen : xCA mX6_sixteen 1 := ⟨(g_in5 89 rfl rfl), by decide, by decide, by decide +kernel, (g_in1 8 rfl rfl), by decide⟩
abbrev mX6_out : xM := (RX6, yX6_out, cX6_out, 2, (some .int))
set_option maxRecDepth 20000 in
theorem kX6_out : xCA mX6_out 1 := ⟨(g_in5 93 rfl rfl), by decide, by decide, by decide +kernel, (g_in1 8 rfl rfl), by decide⟩
set_option maxRecDepth 20000 in
theorem iL_9 : xCX RL 9 mX5_init 0 := ⟨kX5_init, (g_in1 18 rfl rfl), (g_in1 19 rfl rfl), rfl, rfl⟩
set_option maxRecDepth 20000 in
theorem iX5_11 : xCX RX5 11 mX2_init 0 := ⟨kX2_init, (g_in1 26 rfl rfl), (g_in1 27 rfl rfl), rfl, rfl⟩
set_option maxRecDepth 20000 in
theorem sX2_28 : xCS RX2 28 mJ7_fill_53178 2 := ⟨kJ7_fill_53178, (g_in1 30 rfl rfl), (g_in1 31 rfl rfl)⟩
set_option maxRecDepth 20000 in
theorem iX5_21 : xCX RX5 21 mX0_init 1 := ⟨kX0_init, (g_in1 52 rfl rfl), (g_in1 53 rfl rfl), rfl, rfl⟩
set_option maxRecDepth 20000 in
theorem iX5_30 : xCX RX5 30 mX4_init 1 := ⟨kX4_init, (g_in1 89 rfl rfl), (g_in1 90 rfl rfl), rfl, rfl⟩
set_option maxRecDepth 20000 in
theorem iX5_39 : xCX RX5 39 mX1_init 3 := ⟨kX1_init, (g_in1 108 rfl rfl), (g_in1 109 rfl rfl), rfl, rfl⟩
set_option maxRecDepth 20000 in
theorem nX5_48 : xCY RX5 48 mX3_init 0 := ⟨kX3_init, ⟨rfl, rfl, rfl⟩, (g_in1 159 rfl rfl), rfl, rfl⟩
set_option maxRecDepth 20000 in
theorem vL_13 : xCV RL 13 mX5_add 4 := ⟨kX5_add, (g_in1 210 rfl rfl), (g_in1 211 rfl rfl), (g_in1 212 rfl rfl)⟩
set_option maxRecDepth 20000 in
theorem sX5_76 : xCS RX5 76 mX5_isTarget 1 := ⟨kX5_isTarget, (g_in1 214 rfl rfl), (g_in1 215 rfl rfl)⟩
set_option maxRecDepth 20000 in
theorem sX5_105 : xCS RX5 105 mX5_within 3 := ⟨kX5_within, (g_in1 217 rfl rfl), (g_in1 218 rfl rfl)⟩
set_option maxRecDepth 20000 in
theorem sX5_80 : xCS RX5 80 mX5_isWeight 1 := ⟨kX5_isWeight, (g_in1 220 rfl rfl), (g_in1 221 rfl rfl)⟩
set_option maxRecDepth 20000 in
theorem vX5_83 : xCV RX5 83 mX2_firstMeeting 2 := ⟨kX2_firstMeeting, (g_in1 223 rfl rfl), (g_in1 224 rfl rfl), (g_in1 225 rfl rfl)⟩
set_option maxRecDepth 20000 in
theorem vX5_87 : xCV RX5 87 mX2_firstFree 0 := ⟨kX2_firstFree, (g_in1 227 rfl rfl), (g_in1 228 rfl rfl), (g_in1 229 rfl rfl)⟩
set_option maxRecDepth 20000 in
theorem vX5_91 : xCV RX5 91 mX2_set 5 := ⟨kX2_set, (g_in1 231 rfl rfl), (g_in1 232 rfl rfl), (g_in1 233 rfl rfl)⟩
set_option maxRecDepth 20000 in
theorem vL_18 : xCV RL 18 mX5_clash 0 := ⟨kX5_clash, (g_in1 235 rfl rfl), (g_in1 236 rfl rfl), (g_in1 237 rfl rfl)⟩
set_option maxRecDepth 20000 in
theorem vL_23 : xCV RL 23 mX5_drop 1 := ⟨kX5_drop, (g_in1 239 rfl rfl), (g_in2 0 rfl rfl), (g_in2 1 rfl rfl)⟩
set_option maxRecDepth 20000 in
theorem vX5_95 : xCV RX5 95 mX2_has 1 := ⟨kX2_has, (g_in2 3 rfl rfl), (g_in2 4 rfl rfl), (g_in2 5 rfl rfl)⟩
set_option maxRecDepth 20000 in
theorem vX5_98 : xCV RX5 98 mX2_free 1 := ⟨kX2_free, (g_in2 7 rfl rfl), (g_in2 8 rfl rfl), (g_in2 9 rfl rfl)⟩
set_option maxRecDepth 20000 in
theorem vX2_34 : xCV RX2 34 mX2_has 1 := ⟨kX2_has, (g_in2 11 rfl rfl), (g_in2 4 rfl rfl), (g_in2 5 rfl rfl)⟩
set_option maxRecDepth 20000 in
theorem vX5_102 : xCV RX5 102 mX2_held 0 := ⟨kX2_held, (g_in2 12 rfl rfl), (g_in2 13 rfl rfl), (g_in2 14 rfl rfl)⟩
set_option maxRecDepth 20000 in
theorem vL_28 : xCV RL 28 mX5_rest 2 := ⟨kX5_rest, (g_in2 16 rfl rfl), (g_in2 17 rfl rfl), (g_in2 18 rfl rfl)⟩
set_option maxRecDepth 20000 in
theorem vL_33 : xCV RL 33 mX5_tables 2 := ⟨kX5_tables, (g_in2 20 rfl rfl), (g_in2 21 rfl rfl), (g_in2 22 rfl rfl)⟩
set_option maxRecDepth 20000 in
theorem vL_37 : xCV RL 37 mX5_way 1 := ⟨kX5_way, (g_in2 24 rfl rfl), (g_in2 25 rfl rfl), (g_in2 26 rfl rfl)⟩
set_option maxRecDepth 20000 in
theorem vL_41 : xCV RL 41 mX5_told 2 := ⟨kX5_told, (g_in2 28 rfl rfl), (g_in2 29 rfl rfl), (g_in2 30 rfl rfl)⟩
set_option maxRecDepth 20000 in
theorem vX5_109 : xCV RX5 109 mX2_tell 2 := ⟨kX2_tell, (g_in2 32 rfl rfl), (g_in2 33 rfl rfl), (g_in2 34 rfl rfl)⟩
set_option maxRecDepth 20000 in
theorem vL_45 : xCV RL 45 mX5_count 1 := ⟨kX5_count, (g_in2 36 rfl rfl), (g_in2 37 rfl rfl), (g_in2 38 rfl rfl)⟩
set_option maxRecDepth 20000 in
theorem vX5_112 : xCV RX5 112 mX5_workOut 0 := ⟨kX5_workOut, (g_in2 40 rfl rfl), (g_in2 42 rfl rfl), (g_in 0 (by decide +kernel) rfl)⟩
set_option maxRecDepth 20000 in
theorem vX5_199 : xCV RX5 199 mX2_gather 2 := ⟨kX2_gather, (g_in2 44 rfl rfl), (g_in2 45 rfl rfl), (g_in2 46 rfl rfl)⟩
set_option maxRecDepth 20000 in
theorem vX2_44 : xCV RX2 44 mX2_nextByLow 1 := ⟨kX2_nextByLow, (g_in2 49 rfl rfl), (g_in2 50 rfl rfl), (g_in2 51 rfl rfl)⟩
set_option maxRecDepth 20000 in
theorem vX2_48 : xCV RX2 48 mX2_target 1 := ⟨kX2_target, (g_in2 54 rfl rfl), (g_in2 55 rfl rfl), (g_in2 56 rfl rfl)⟩
set_option maxRecDepth 20000 in
theorem vX2_52 : xCV RX2 52 mX2_low 1 := ⟨kX2_low, (g_in2 58 rfl rfl), (g_in2 59 rfl rfl), (g_in2 60 rfl rfl)⟩
set_option maxRecDepth 20000 in
theorem vX2_55 : xCV RX2 55 mX2_high 1 := ⟨kX2_high, (g_in2 62 rfl rfl), (g_in2 63 rfl rfl), (g_in2 64 rfl rfl)⟩
set_option maxRecDepth 20000 in
theorem vX2_58 : xCV RX2 58 mX2_weight 1 := ⟨kX2_weight, (g_in2 66 rfl rfl), (g_in2 67 rfl rfl), (g_in2 68 rfl rfl)⟩
set_option maxRecDepth 20000 in
theorem vX2_61 : xCV RX2 61 mX2_join 4 := ⟨kX2_join, (g_in2 70 rfl rfl), (g_in2 72 rfl rfl), (g_in 1 (by decide +kernel) rfl)⟩
set_option maxRecDepth 20000 in
theorem vX2_65 : xCV RX2 65 mX2_set 5 := ⟨kX2_set, (g_in2 74 rfl rfl), (g_in1 232 rfl rfl), (g_in1 233 rfl rfl)⟩
set_option maxRecDepth 20000 in
theorem vX5_203 : xCV RX5 203 mX0_part 2 := ⟨kX0_part, (g_in2 75 rfl rfl), (g_in2 76 rfl rfl), (g_in2 77 rfl rfl)⟩
set_option maxRecDepth 20000 in
theorem vX0_59 : xCV RX0 59 mX0_findFewest 0 := ⟨kX0_findFewest, (g_in2 79 rfl rfl), (g_in2 81 rfl rfl), (g_in 2 (by decide +kernel) rfl)⟩
set_option maxRecDepth 20000 in
theorem vX0_62 : xCV RX0 62 mX2_held 0 := ⟨kX2_held, (g_in2 83 rfl rfl), (g_in2 13 rfl rfl), (g_in2 14 rfl rfl)⟩
set_option maxRecDepth 20000 in
theorem sX0_72 : xCS RX0 72 mJ9_min_7cf53 2 := ⟨kJ9_min_7cf53, (g_in2 84 rfl rfl), (g_in2 85 rfl rfl)⟩
set_option maxRecDepth 20000 in
theorem vX0_65 : xCV RX0 65 mX0_kindOf 2 := ⟨kX0_kindOf, (g_in2 87 rfl rfl), (g_in2 89 rfl rfl), (g_in 3 (by decide +kernel) rfl)⟩
set_option maxRecDepth 20000 in
theorem vX0_56 : xCV RX0 56 mX2_high 1 := ⟨kX2_high, (g_in2 91 rfl rfl), (g_in2 63 rfl rfl), (g_in2 64 rfl rfl)⟩
set_option maxRecDepth 20000 in
theorem vX0_51 : xCV RX0 51 mX2_low 1 := ⟨kX2_low, (g_in2 92 rfl rfl), (g_in2 59 rfl rfl), (g_in2 60 rfl rfl)⟩
set_option maxRecDepth 20000 in
theorem vX0_79 : xCV RX0 79 mX2_unlikeTargets 2 := ⟨kX2_unlikeTargets, (g_in2 94 rfl rfl), (g_in2 95 rfl rfl), (g_in2 96 rfl rfl)⟩
set_option maxRecDepth 20000 in
theorem sX2_69 : xCS RX2 69 mJ6_bitCount_0f7a4 1 := ⟨kJ6_bitCount_0f7a4, (g_in2 98 rfl rfl), (g_in2 99 rfl rfl)⟩
set_option maxRecDepth 20000 in
theorem vX0_82 : xCV RX0 82 mX2_intsIn 2 := ⟨kX2_intsIn, (g_in2 104 rfl rfl), (g_in2 105 rfl rfl), (g_in2 106 rfl rfl)⟩
set_option maxRecDepth 20000 in
theorem vX0_69 : xCV RX0 69 mX2_weightOf 2 := ⟨kX2_weightOf, (g_in2 109 rfl rfl), (g_in2 110 rfl rfl), (g_in2 111 rfl rfl)⟩
set_option maxRecDepth 20000 in
theorem vX5_207 : xCV RX5 207 mX4_plan 1 := ⟨kX4_plan, (g_in2 113 rfl rfl), (g_in2 114 rfl rfl), (g_in2 115 rfl rfl)⟩
set_option maxRecDepth 20000 in
theorem vX4_26 : xCV RX4 26 mX0_held 0 := ⟨kX0_held, (g_in2 117 rfl rfl), (g_in2 118 rfl rfl), (g_in2 119 rfl rfl)⟩
set_option maxRecDepth 20000 in
theorem sX4_32 : xCS RX4 32 mJ9_min_7cf53 2 := ⟨kJ9_min_7cf53, (g_in2 121 rfl rfl), (g_in2 85 rfl rfl)⟩
set_option maxRecDepth 20000 in
theorem vX4_38 : xCV RX4 38 mX4_findCheapest 2 := ⟨kX4_findCheapest, (g_in2 122 rfl rfl), (g_in2 124 rfl rfl), (g_in 4 (by decide +kernel) rfl)⟩
set_option maxRecDepth 20000 in
theorem vX4_51 : xCV RX4 51 mX0_weight 1 := ⟨kX0_weight, (g_in2 127 rfl rfl), (g_in2 128 rfl rfl), (g_in2 129 rfl rfl)⟩
set_option maxRecDepth 20000 in
theorem vX4_55 : xCV RX4 55 mX4_costOf 2 := ⟨kX4_costOf, (g_in2 131 rfl rfl), (g_in2 133 rfl rfl), (g_in 5 (by decide +kernel) rfl)⟩
set_option maxRecDepth 20000 in
theorem sX4_42 : xCS RX4 42 mX4_place 2 := ⟨kX4_place, (g_in2 135 rfl rfl), (g_in2 136 rfl rfl)⟩
set_option maxRecDepth 20000 in
theorem vX5_210 : xCV RX5 210 mX1_layOut 1 := ⟨kX1_layOut, (g_in2 138 rfl rfl), (g_in2 139 rfl rfl), (g_in2 140 rfl rfl)⟩
set_option maxRecDepth 20000 in
theorem vX1_65 : xCV RX1 65 mX0_held 0 := ⟨kX0_held, (g_in2 142 rfl rfl), (g_in2 118 rfl rfl), (g_in2 119 rfl rfl)⟩
set_option maxRecDepth 20000 in
theorem vX1_71 : xCV RX1 71 mX1_write 4 := ⟨kX1_write, (g_in2 143 rfl rfl), (g_in2 145 rfl rfl), (g_in 6 (by decide +kernel) rfl)⟩
set_option maxRecDepth 20000 in
theorem vX1_79 : xCV RX1 79 mX1_layPart 5 := ⟨kX1_layPart, (g_in2 149 rfl rfl), (g_in2 151 rfl rfl), (g_in 7 (by decide +kernel) rfl)⟩
set_option maxRecDepth 20000 in
theorem vX1_83 : xCV RX1 83 mX1_layLeaf 3 := ⟨kX1_layLeaf, (g_in2 153 rfl rfl), (g_in2 155 rfl rfl), (g_in 8 (by decide +kernel) rfl)⟩
set_option maxRecDepth 20000 in
theorem vX1_101 : xCV RX1 101 mX0_kind 1 := ⟨kX0_kind, (g_in2 157 rfl rfl), (g_in2 158 rfl rfl), (g_in2 159 rfl rfl)⟩
set_option maxRecDepth 20000 in
theorem vX1_93 : xCV RX1 93 mX0_bottom 1 := ⟨kX0_bottom, (g_in2 161 rfl rfl), (g_in2 162 rfl rfl), (g_in2 163 rfl rfl)⟩
set_option maxRecDepth 20000 in
theorem vX0_48 : xCV RX0 48 mX0_firstRun 1 := ⟨kX0_firstRun, (g_in2 165 rfl rfl), (g_in2 166 rfl rfl), (g_in2 167 rfl rfl)⟩
set_option maxRecDepth 20000 in
theorem vX1_104 : xCV RX1 104 mX0_top 1 := ⟨kX0_top, (g_in2 169 rfl rfl), (g_in2 170 rfl rfl), (g_in2 171 rfl rfl)⟩
set_option maxRecDepth 20000 in
theorem vX0_44 : xCV RX0 44 mX0_lastRun 1 := ⟨kX0_lastRun, (g_in2 173 rfl rfl), (g_in2 174 rfl rfl), (g_in2 175 rfl rfl)⟩
set_option maxRecDepth 20000 in
theorem vX1_107 : xCV RX1 107 mX0_firstRun 1 := ⟨kX0_firstRun, (g_in2 177 rfl rfl), (g_in2 166 rfl rfl), (g_in2 167 rfl rfl)⟩
set_option maxRecDepth 20000 in
theorem vX1_110 : xCV RX1 110 mX2_target 1 := ⟨kX2_target, (g_in2 178 rfl rfl), (g_in2 55 rfl rfl), (g_in2 56 rfl rfl)⟩
set_option maxRecDepth 20000 in
theorem vX1_114 : xCV RX1 114 mX1_layBits 2 := ⟨kX1_layBits, (g_in2 179 rfl rfl), (g_in2 181 rfl rfl), (g_in 9 (by decide +kernel) rfl)⟩
set_option maxRecDepth 20000 in
theorem vX1_120 : xCV RX1 120 mX0_lastRun 1 := ⟨kX0_lastRun, (g_in2 183 rfl rfl), (g_in2 174 rfl rfl), (g_in2 175 rfl rfl)⟩
set_option maxRecDepth 20000 in
theorem vX1_123 : xCV RX1 123 mX2_rowOfBits 3 := ⟨kX2_rowOfBits, (g_in2 184 rfl rfl), (g_in2 185 rfl rfl), (g_in2 186 rfl rfl)⟩
set_option maxRecDepth 20000 in
theorem sX2_76 : xCS RX2 76 mJ9_min_f86c9 2 := ⟨kJ9_min_f86c9, (g_in2 189 rfl rfl), (g_in2 190 rfl rfl)⟩
set_option maxRecDepth 20000 in
theorem vX1_117 : xCV RX1 117 mX1_layTable 3 := ⟨kX1_layTable, (g_in2 192 rfl rfl), (g_in2 194 rfl rfl), (g_in 10 (by decide +kernel) rfl)⟩
set_option maxRecDepth 20000 in
theorem sX1_127 : xCS RX1 127 mJ9_min_f86c9 2 := ⟨kJ9_min_f86c9, (g_in2 196 rfl rfl), (g_in2 190 rfl rfl)⟩
set_option maxRecDepth 20000 in
theorem vX1_59 : xCV RX1 59 mX1_has 1 := ⟨kX1_has, (g_in2 197 rfl rfl), (g_in2 198 rfl rfl), (g_in2 199 rfl rfl)⟩
set_option maxRecDepth 20000 in
theorem vX1_133 : xCV RX1 133 mX1_fill 3 := ⟨kX1_fill, (g_in2 201 rfl rfl), (g_in2 203 rfl rfl), (g_in 11 (by decide +kernel) rfl)⟩
set_option maxRecDepth 20000 in
theorem sX1_142 : xCS RX1 142 mJ9_max_7cf53 2 := ⟨kJ9_max_7cf53, (g_in2 205 rfl rfl), (g_in2 206 rfl rfl)⟩
set_option maxRecDepth 20000 in
theorem vX1_136 : xCV RX1 136 mX2_low 1 := ⟨kX2_low, (g_in2 208 rfl rfl), (g_in2 59 rfl rfl), (g_in2 60 rfl rfl)⟩
set_option maxRecDepth 20000 in
theorem vX1_139 : xCV RX1 139 mX2_high 1 := ⟨kX2_high, (g_in2 209 rfl rfl), (g_in2 63 rfl rfl), (g_in2 64 rfl rfl)⟩
set_option maxRecDepth 20000 in
theorem vX1_97 : xCV RX1 97 mX1_aim 2 := ⟨kX1_aim, (g_in2 210 rfl rfl), (g_in2 212 rfl rfl), (g_in 12 (by decide +kernel) rfl)⟩
set_option maxRecDepth 20000 in
theorem vX1_87 : xCV RX1 87 mX4_split 2 := ⟨kX4_split, (g_in2 214 rfl rfl), (g_in2 215 rfl rfl), (g_in2 216 rfl rfl)⟩
set_option maxRecDepth 20000 in
theorem vX5_115 : xCV RX5 115 mX0_held 0 := ⟨kX0_held, (g_in2 218 rfl rfl), (g_in2 118 rfl rfl), (g_in2 119 rfl rfl)⟩
set_option maxRecDepth 20000 in
theorem sX5_116 : xCS RX5 116 mJ9_max_7cf53 2 := ⟨kJ9_max_7cf53, (g_in2 219 rfl rfl), (g_in2 206 rfl rfl)⟩
set_option maxRecDepth 20000 in
theorem vX5_121 : xCV RX5 121 mX1_length 0 := ⟨kX1_length, (g_in2 220 rfl rfl), (g_in2 221 rfl rfl), (g_in2 222 rfl rfl)⟩
set_option maxRecDepth 20000 in
theorem vX5_124 : xCV RX5 124 mX1_numbersInTables 0 := ⟨kX1_numbersInTables, (g_in2 224 rfl rfl), (g_in2 225 rfl rfl), (g_in2 226 rfl rfl)⟩
set_option maxRecDepth 20000 in
theorem vX5_127 : xCV RX5 127 mX3_length 0 := ⟨kX3_length, (g_in2 228 rfl rfl), (g_in2 229 rfl rfl), (g_in2 230 rfl rfl)⟩
set_option maxRecDepth 20000 in
theorem vX5_128 : xCV RX5 128 mX5_mostSteps 0 := ⟨kX5_mostSteps, (g_in2 232 rfl rfl), (g_in2 234 rfl rfl), (g_in 13 (by decide +kernel) rfl)⟩
set_option maxRecDepth 20000 in
theorem vX5_172 : xCV RX5 172 mX5_stepsOf 1 := ⟨kX5_stepsOf, (g_in2 237 rfl rfl), (g_in2 239 rfl rfl), (g_in 14 (by decide +kernel) rfl)⟩
set_option maxRecDepth 20000 in
theorem vX5_166 : xCV RX5 166 mX1_follow 1 := ⟨kX1_follow, (g_in3 1 rfl rfl), (g_in3 2 rfl rfl), (g_in3 3 rfl rfl)⟩
set_option maxRecDepth 20000 in
theorem vX1_145 : xCV RX1 145 mX1_doLine 2 := ⟨kX1_doLine, (g_in3 5 rfl rfl), (g_in3 7 rfl rfl), (g_in 15 (by decide +kernel) rfl)⟩
set_option maxRecDepth 20000 in
theorem vX1_148 : xCV RX1 148 mX1_endWith 1 := ⟨kX1_endWith, (g_in3 9 rfl rfl), (g_in3 11 rfl rfl), (g_in 16 (by decide +kernel) rfl)⟩
set_option maxRecDepth 20000 in
theorem vX1_151 : xCV RX1 151 mX1_hasBit 2 := ⟨kX1_hasBit, (g_in3 13 rfl rfl), (g_in3 15 rfl rfl), (g_in 17 (by decide +kernel) rfl)⟩
set_option maxRecDepth 20000 in
theorem vX1_161 : xCV RX1 161 mX1_row 1 := ⟨kX1_row, (g_in3 18 rfl rfl), (g_in3 19 rfl rfl), (g_in3 20 rfl rfl)⟩
set_option maxRecDepth 20000 in
theorem vX1_155 : xCV RX1 155 mX1_number 2 := ⟨kX1_number, (g_in3 22 rfl rfl), (g_in3 23 rfl rfl), (g_in3 24 rfl rfl)⟩
set_option maxRecDepth 20000 in
theorem vX5_213 : xCV RX5 213 mX1_linesDone 0 := ⟨kX1_linesDone, (g_in3 27 rfl rfl), (g_in3 28 rfl rfl), (g_in3 29 rfl rfl)⟩
set_option maxRecDepth 20000 in
theorem vX5_178 : xCV RX5 178 mX2_low 1 := ⟨kX2_low, (g_in3 31 rfl rfl), (g_in2 59 rfl rfl), (g_in2 60 rfl rfl)⟩
set_option maxRecDepth 20000 in
theorem vX5_217 : xCV RX5 217 mX2_high 1 := ⟨kX2_high, (g_in3 32 rfl rfl), (g_in2 63 rfl rfl), (g_in2 64 rfl rfl)⟩
set_option maxRecDepth 20000 in
theorem vL_49 : xCV RL 49 mX5_run 2 := ⟨kX5_run, (g_in3 34 rfl rfl), (g_in3 35 rfl rfl), (g_in3 36 rfl rfl)⟩
set_option maxRecDepth 20000 in
theorem vL_53 : xCV RL 53 mX5_cluster 2 := ⟨kX5_cluster, (g_in3 38 rfl rfl), (g_in3 39 rfl rfl), (g_in3 40 rfl rfl)⟩
set_option maxRecDepth 20000 in
theorem vX5_131 : xCV RX5 131 mX0_has 1 := ⟨kX0_has, (g_in3 42 rfl rfl), (g_in3 43 rfl rfl), (g_in3 44 rfl rfl)⟩
set_option maxRecDepth 20000 in
theorem vX5_132 : xCV RX5 132 mX0_kind 1 := ⟨kX0_kind, (g_in3 46 rfl rfl), (g_in2 158 rfl rfl), (g_in2 159 rfl rfl)⟩
set_option maxRecDepth 20000 in
theorem vX5_136 : xCV RX5 136 mX0_firstRun 1 := ⟨kX0_firstRun, (g_in3 47 rfl rfl), (g_in2 166 rfl rfl), (g_in2 167 rfl rfl)⟩
set_option maxRecDepth 20000 in
theorem vX5_139 : xCV RX5 139 mX0_runsOf 1 := ⟨kX0_runsOf, (g_in3 48 rfl rfl), (g_in3 49 rfl rfl), (g_in3 50 rfl rfl)⟩
set_option maxRecDepth 20000 in
theorem vX5_142 : xCV RX5 142 mX0_weight 1 := ⟨kX0_weight, (g_in3 52 rfl rfl), (g_in2 128 rfl rfl), (g_in2 129 rfl rfl)⟩
set_option maxRecDepth 20000 in
theorem vX5_145 : xCV RX5 145 mX4_questionsAbove 1 := ⟨kX4_questionsAbove, (g_in3 53 rfl rfl), (g_in3 54 rfl rfl), (g_in3 55 rfl rfl)⟩
set_option maxRecDepth 20000 in
theorem vX4_45 : xCV RX4 45 mX4_split 2 := ⟨kX4_split, (g_in3 57 rfl rfl), (g_in2 215 rfl rfl), (g_in2 216 rfl rfl)⟩
set_option maxRecDepth 20000 in
theorem vL_57 : xCV RL 57 mX5_cost 0 := ⟨kX5_cost, (g_in3 58 rfl rfl), (g_in3 59 rfl rfl), (g_in3 60 rfl rfl)⟩
set_option maxRecDepth 20000 in
theorem vL_61 : xCV RL 61 mX5_line 2 := ⟨kX5_line, (g_in3 62 rfl rfl), (g_in3 63 rfl rfl), (g_in3 64 rfl rfl)⟩
set_option maxRecDepth 20000 in
theorem vX5_148 : xCV RX5 148 mX1_has 1 := ⟨kX1_has, (g_in3 66 rfl rfl), (g_in2 198 rfl rfl), (g_in2 199 rfl rfl)⟩
set_option maxRecDepth 20000 in
theorem vX5_149 : xCV RX5 149 mX1_kind 1 := ⟨kX1_kind, (g_in3 67 rfl rfl), (g_in3 68 rfl rfl), (g_in3 69 rfl rfl)⟩
set_option maxRecDepth 20000 in
theorem vX5_150 : xCV RX5 150 mX1_first 1 := ⟨kX1_first, (g_in3 71 rfl rfl), (g_in3 72 rfl rfl), (g_in3 73 rfl rfl)⟩
set_option maxRecDepth 20000 in
theorem vX5_153 : xCV RX5 153 mX1_second 1 := ⟨kX1_second, (g_in3 75 rfl rfl), (g_in3 76 rfl rfl), (g_in3 77 rfl rfl)⟩
set_option maxRecDepth 20000 in
theorem vL_65 : xCV RL 65 mX5_bits 1 := ⟨kX5_bits, (g_in3 79 rfl rfl), (g_in3 80 rfl rfl), (g_in3 81 rfl rfl)⟩
set_option maxRecDepth 20000 in
theorem vX5_156 : xCV RX5 156 mX1_row 1 := ⟨kX1_row, (g_in3 83 rfl rfl), (g_in3 19 rfl rfl), (g_in3 20 rfl rfl)⟩
set_option maxRecDepth 20000 in
theorem vL_70 : xCV RL 70 mX5_entry 2 := ⟨kX5_entry, (g_in3 85 rfl rfl), (g_in3 86 rfl rfl), (g_in3 87 rfl rfl)⟩
set_option maxRecDepth 20000 in
theorem vX5_162 : xCV RX5 162 mX1_number 2 := ⟨kX1_number, (g_in3 89 rfl rfl), (g_in3 23 rfl rfl), (g_in3 24 rfl rfl)⟩
set_option maxRecDepth 20000 in
theorem vL_74 : xCV RL 74 mX5_go 1 := ⟨kX5_go, (g_in3 90 rfl rfl), (g_in3 91 rfl rfl), (g_in3 92 rfl rfl)⟩
set_option maxRecDepth 20000 in
theorem vX5_169 : xCV RX5 169 mX1_target 0 := ⟨kX1_target, (g_in3 94 rfl rfl), (g_in3 95 rfl rfl), (g_in3 96 rfl rfl)⟩
set_option maxRecDepth 20000 in
theorem vL_78 : xCV RL 78 mX5_steps 1 := ⟨kX5_steps, (g_in3 98 rfl rfl), (g_in3 99 rfl rfl), (g_in3 100 rfl rfl)⟩
set_option maxRecDepth 20000 in
theorem vL_82 : xCV RL 82 mX5_by 1 := ⟨kX5_by, (g_in3 102 rfl rfl), (g_in3 103 rfl rfl), (g_in3 104 rfl rfl)⟩
set_option maxRecDepth 20000 in
theorem vX5_175 : xCV RX5 175 mX2_target 1 := ⟨kX2_target, (g_in3 106 rfl rfl), (g_in2 55 rfl rfl), (g_in2 56 rfl rfl)⟩
set_option maxRecDepth 20000 in
theorem vL_86 : xCV RL 86 mX5_spent 0 := ⟨kX5_spent, (g_in3 107 rfl rfl), (g_in3 108 rfl rfl), (g_in3 109 rfl rfl)⟩
set_option maxRecDepth 20000 in
theorem vX5_177 : xCV RX5 177 mX2_weight 1 := ⟨kX2_weight, (g_in3 111 rfl rfl), (g_in2 67 rfl rfl), (g_in2 68 rfl rfl)⟩
set_option maxRecDepth 20000 in
theorem vX5_181 : xCV RX5 181 mX5_leastInNoCase 0 := ⟨kX5_leastInNoCase, (g_in3 112 rfl rfl), (g_in3 114 rfl rfl), (g_in 18 (by decide +kernel) rfl)⟩
set_option maxRecDepth 20000 in
theorem vL_91 : xCV RL 91 mX5_print 0 := ⟨kX5_print, (g_in3 118 rfl rfl), (g_in3 119 rfl rfl), (g_in3 120 rfl rfl)⟩
set_option maxRecDepth 20000 in
theorem vX5_189 : xCV RX5 189 mX3_clear 0 := ⟨kX3_clear, (g_in3 122 rfl rfl), (g_in3 123 rfl rfl), (g_in3 124 rfl rfl)⟩
set_option maxRecDepth 20000 in
theorem vX5_192 : xCV RX5 192 mX1_printTo 1 := ⟨kX1_printTo, (g_in3 126 rfl rfl), (g_in3 127 rfl rfl), (g_in3 128 rfl rfl)⟩
set_option maxRecDepth 20000 in
theorem vX1_165 : xCV RX1 165 mX1_printLine 2 := ⟨kX1_printLine, (g_in3 130 rfl rfl), (g_in3 132 rfl rfl), (g_in 19 (by decide +kernel) rfl)⟩
set_option maxRecDepth 20000 in
theorem vX1_169 : xCV RX1 169 mX1_kind 1 := ⟨kX1_kind, (g_in3 134 rfl rfl), (g_in3 68 rfl rfl), (g_in3 69 rfl rfl)⟩
set_option maxRecDepth 20000 in
theorem vX1_170 : xCV RX1 170 mX3_number 1 := ⟨kX3_number, (g_in3 135 rfl rfl), (g_in3 136 rfl rfl), (g_in3 137 rfl rfl)⟩
set_option maxRecDepth 20000 in
theorem vX3_28 : xCV RX3 28 mX3_put 1 := ⟨kX3_put, (g_in3 139 rfl rfl), (g_in3 141 rfl rfl), (g_in 20 (by decide +kernel) rfl)⟩
set_option maxRecDepth 20000 in
theorem sX3_39 : xCS RX3 39 mJ7_copyOf_9075b 2 := ⟨kJ7_copyOf_9075b, (g_in3 144 rfl rfl), (g_in3 145 rfl rfl)⟩
set_option maxRecDepth 20000 in
theorem sJ7_304 : xCS RJ7 304 mJ9_min_7cf53 2 := ⟨kJ9_min_7cf53, (g_in3 154 rfl rfl), (g_in2 85 rfl rfl)⟩
set_option maxRecDepth 20000 in
theorem sX1_175 : xCS RX1 175 mX1_wordOf 1 := ⟨kX1_wordOf, (g_in3 160 rfl rfl), (g_in3 161 rfl rfl)⟩
set_option maxRecDepth 20000 in
theorem vX1_179 : xCV RX1 179 mX3_word 1 := ⟨kX3_word, (g_in3 169 rfl rfl), (g_in3 170 rfl rfl), (g_in3 171 rfl rfl)⟩
set_option maxRecDepth 20000 in
theorem vX3_19 : xCV RX3 19 mJ0_length_8abf5 0 := ⟨kJ0_length_8abf5, (g_in3 173 rfl rfl), (g_in3 174 rfl rfl), (g_in3 175 rfl rfl)⟩
set_option maxRecDepth 20000 in
theorem vJ0_335 : xCV RJ0 335 mJ0_coder_7d493 0 := ⟨kJ0_coder_7d493, (g_in3 177 rfl rfl), (g_in3 178 rfl rfl), (g_in3 179 rfl rfl)⟩
set_option maxRecDepth 20000 in
theorem vX3_24 : xCV RX3 24 mJ0_charAt_5068e 1 := ⟨kJ0_charAt_5068e, (g_in3 183 rfl rfl), (g_in3 184 rfl rfl), (g_in3 185 rfl rfl)⟩
set_option maxRecDepth 20000 in
theorem vJ0_492 : xCV RJ0 492 mJ0_isLatin1_aae02 0 := ⟨kJ0_isLatin1_aae02, (g_in3 187 rfl rfl), (g_in3 188 rfl rfl), (g_in3 189 rfl rfl)⟩
set_option maxRecDepth 20000 in
theorem sJ0_495 : xCS RJ0 495 mJ1_charAt_3b067 2 := ⟨kJ1_charAt_3b067, (g_in3 191 rfl rfl), (g_in3 192 rfl rfl)⟩
set_option maxRecDepth 20000 in
theorem sJ1_9 : xCS RJ1 9 mJ0_checkIndex_df160 2 := ⟨kJ0_checkIndex_df160, (g_in3 194 rfl rfl), (g_in3 195 rfl rfl)⟩
set_option maxRecDepth 20000 in
theorem sJ0_1059 : xCS RJ0 1059 mJ3_checkIndex_8e157 3 := ⟨kJ3_checkIndex_8e157, (g_in3 199 rfl rfl), (g_in3 200 rfl rfl)⟩
set_option maxRecDepth 20000 in
theorem sJ0_498 : xCS RJ0 498 mJ2_charAt_3b067 2 := ⟨kJ2_charAt_3b067, (g_in3 202 rfl rfl), (g_in3 203 rfl rfl)⟩
set_option maxRecDepth 20000 in
theorem sJ2_67 : xCS RJ2 67 mJ2_checkIndex_2214a 2 := ⟨kJ2_checkIndex_2214a, (g_in3 205 rfl rfl), (g_in3 206 rfl rfl)⟩
set_option maxRecDepth 20000 in
theorem sJ2_48 : xCS RJ2 48 mJ2_length_9d52b 1 := ⟨kJ2_length_9d52b, (g_in3 208 rfl rfl), (g_in3 209 rfl rfl)⟩
set_option maxRecDepth 20000 in
theorem sJ2_414 : xCS RJ2 414 mJ0_checkIndex_df160 2 := ⟨kJ0_checkIndex_df160, (g_in3 211 rfl rfl), (g_in3 195 rfl rfl)⟩
set_option maxRecDepth 20000 in
theorem sJ2_71 : xCS RJ2 71 mJ2_getChar_3b067 2 := ⟨kJ2_getChar_3b067, (g_in3 212 rfl rfl), (g_in3 213 rfl rfl)⟩
set_option maxRecDepth 20000 in
theorem vX1_183 : xCV RX1 183 mX1_first 1 := ⟨kX1_first, (g_in3 221 rfl rfl), (g_in3 72 rfl rfl), (g_in3 73 rfl rfl)⟩
set_option maxRecDepth 20000 in
theorem vX1_188 : xCV RX1 188 mX3_figures 1 := ⟨kX3_figures, (g_in3 223 rfl rfl), (g_in3 224 rfl rfl), (g_in3 225 rfl rfl)⟩
set_option maxRecDepth 20000 in
theorem vX1_192 : xCV RX1 192 mX1_second 1 := ⟨kX1_second, (g_in3 228 rfl rfl), (g_in3 76 rfl rfl), (g_in3 77 rfl rfl)⟩
set_option maxRecDepth 20000 in
theorem vL_95 : xCV RL 95 mX5_out 1 := ⟨kX5_out, (g_in3 230 rfl rfl), (g_in3 231 rfl rfl), (g_in3 232 rfl rfl)⟩
set_option maxRecDepth 20000 in
theorem vX5_196 : xCV RX5 196 mX3_byteAt 1 := ⟨kX3_byteAt, (g_in3 234 rfl rfl), (g_in3 235 rfl rfl), (g_in3 236 rfl rfl)⟩
set_option maxRecDepth 20000 in
theorem iL_12 : xCX RL 12 mX6_init 0 := ⟨kX6_init, (g_in4 0 rfl rfl), (g_in4 1 rfl rfl), rfl, rfl⟩
set_option maxRecDepth 20000 in
theorem vL_17 : xCV RL 17 mX6_add 4 := ⟨kX6_add, (g_in4 130 rfl rfl), (g_in4 131 rfl rfl), (g_in4 132 rfl rfl)⟩
set_option maxRecDepth 20000 in
theorem sX6_110 : xCS RX6 110 mX6_in 3 := ⟨kX6_in, (g_in4 135 rfl rfl), (g_in4 136 rfl rfl)⟩
set_option maxRecDepth 20000 in
theorem vL_22 : xCV RL 22 mX6_clash 0 := ⟨kX6_clash, (g_in4 139 rfl rfl), (g_in4 140 rfl rfl), (g_in4 141 rfl rfl)⟩
set_option maxRecDepth 20000 in
theorem vL_27 : xCV RL 27 mX6_drop 1 := ⟨kX6_drop, (g_in4 143 rfl rfl), (g_in4 144 rfl rfl), (g_in4 145 rfl rfl)⟩
set_option maxRecDepth 20000 in
theorem vX6_121 : xCV RX6 121 mX6_noCase 1 := ⟨kX6_noCase, (g_in4 147 rfl rfl), (g_in4 149 rfl rfl), (g_in 21 (by decide +kernel) rfl)⟩
set_option maxRecDepth 20000 in
theorem vL_32 : xCV RL 32 mX6_rest 2 := ⟨kX6_rest, (g_in4 152 rfl rfl), (g_in4 153 rfl rfl), (g_in4 154 rfl rfl)⟩
set_option maxRecDepth 20000 in
theorem vL_36 : xCV RL 36 mX6_tables 2 := ⟨kX6_tables, (g_in4 156 rfl rfl), (g_in4 157 rfl rfl), (g_in4 158 rfl rfl)⟩
set_option maxRecDepth 20000 in
theorem vL_40 : xCV RL 40 mX6_way 1 := ⟨kX6_way, (g_in4 162 rfl rfl), (g_in4 163 rfl rfl), (g_in4 164 rfl rfl)⟩
set_option maxRecDepth 20000 in
theorem vL_44 : xCV RL 44 mX6_told 2 := ⟨kX6_told, (g_in4 166 rfl rfl), (g_in4 167 rfl rfl), (g_in4 168 rfl rfl)⟩
set_option maxRecDepth 20000 in
theorem vL_77 : xCV RL 77 mX6_go 1 := ⟨kX6_go, (g_in4 170 rfl rfl), (g_in4 171 rfl rfl), (g_in4 172 rfl rfl)⟩
set_option maxRecDepth 20000 in
theorem vX6_215 : xCV RX6 215 mX6_make 0 := ⟨kX6_make, (g_in4 174 rfl rfl), (g_in4 176 rfl rfl), (g_in 22 (by decide +kernel) rfl)⟩
set_option maxRecDepth 20000 in
theorem vX6_183 : xCV RX6 183 mX6_makeRuns 0 := ⟨kX6_makeRuns, (g_in4 178 rfl rfl), (g_in4 180 rfl rfl), (g_in 23 (by decide +kernel) rfl)⟩
set_option maxRecDepth 20000 in
theorem vX6_186 : xCV RX6 186 mX6_makeClusters 0 := ⟨kX6_makeClusters, (g_in4 183 rfl rfl), (g_in4 185 rfl rfl), (g_in 24 (by decide +kernel) rfl)⟩
set_option maxRecDepth 20000 in
theorem vX6_145 : xCV RX6 145 mX6_kindOf 2 := ⟨kX6_kindOf, (g_in4 187 rfl rfl), (g_in4 189 rfl rfl), (g_in 25 (by decide +kernel) rfl)⟩
set_option maxRecDepth 20000 in
theorem vX6_189 : xCV RX6 189 mX6_makeTree 0 := ⟨kX6_makeTree, (g_in4 192 rfl rfl), (g_in4 194 rfl rfl), (g_in 26 (by decide +kernel) rfl)⟩
set_option maxRecDepth 20000 in
theorem vX6_152 : xCV RX6 152 mX6_weightOf 1 := ⟨kX6_weightOf, (g_in4 196 rfl rfl), (g_in4 198 rfl rfl), (g_in 27 (by decide +kernel) rfl)⟩
set_option maxRecDepth 20000 in
theorem vX6_168 : xCV RX6 168 mX6_emit 4 := ⟨kX6_emit, (g_in4 201 rfl rfl), (g_in4 203 rfl rfl), (g_in 28 (by decide +kernel) rfl)⟩
set_option maxRecDepth 20000 in
theorem vX6_194 : xCV RX6 194 mX6_part 6 := ⟨kX6_part, (g_in4 206 rfl rfl), (g_in4 208 rfl rfl), (g_in 29 (by decide +kernel) rfl)⟩
set_option maxRecDepth 20000 in
theorem vX6_198 : xCV RX6 198 mX6_leaf 3 := ⟨kX6_leaf, (g_in4 210 rfl rfl), (g_in4 212 rfl rfl), (g_in 30 (by decide +kernel) rfl)⟩
set_option maxRecDepth 20000 in
theorem vX6_164 : xCV RX6 164 mX6_bottom 1 := ⟨kX6_bottom, (g_in4 214 rfl rfl), (g_in4 216 rfl rfl), (g_in 31 (by decide +kernel) rfl)⟩
set_option maxRecDepth 20000 in
theorem vX6_172 : xCV RX6 172 mX6_top 1 := ⟨kX6_top, (g_in4 218 rfl rfl), (g_in4 220 rfl rfl), (g_in 32 (by decide +kernel) rfl)⟩
set_option maxRecDepth 20000 in
theorem vX6_175 : xCV RX6 175 mX6_ends 3 := ⟨kX6_ends, (g_in4 222 rfl rfl), (g_in4 224 rfl rfl), (g_in 33 (by decide +kernel) rfl)⟩
set_option maxRecDepth 20000 in
theorem vX6_179 : xCV RX6 179 mX6_layBits 3 := ⟨kX6_layBits, (g_in4 226 rfl rfl), (g_in4 228 rfl rfl), (g_in 34 (by decide +kernel) rfl)⟩
set_option maxRecDepth 20000 in
theorem vX6_208 : xCV RX6 208 mX6_runOn 1 := ⟨kX6_runOn, (g_in4 230 rfl rfl), (g_in4 232 rfl rfl), (g_in 35 (by decide +kernel) rfl)⟩
set_option maxRecDepth 20000 in
theorem vX6_205 : xCV RX6 205 mX6_within 2 := ⟨kX6_within, (g_in4 234 rfl rfl), (g_in4 236 rfl rfl), (g_in 36 (by decide +kernel) rfl)⟩
set_option maxRecDepth 20000 in
theorem vL_81 : xCV RL 81 mX6_steps 1 := ⟨kX6_steps, (g_in4 238 rfl rfl), (g_in4 239 rfl rfl), (g_in5 0 rfl rfl)⟩
set_option maxRecDepth 20000 in
theorem vX6_211 : xCV RX6 211 mX6_stepsOf 1 := ⟨kX6_stepsOf, (g_in5 2 rfl rfl), (g_in5 4 rfl rfl), (g_in 37 (by decide +kernel) rfl)⟩
set_option maxRecDepth 20000 in
theorem vL_85 : xCV RL 85 mX6_by 1 := ⟨kX6_by, (g_in5 6 rfl rfl), (g_in5 7 rfl rfl), (g_in5 8 rfl rfl)⟩
set_option maxRecDepth 20000 in
theorem vX6_218 : xCV RX6 218 mX6_caseOf 1 := ⟨kX6_caseOf, (g_in5 10 rfl rfl), (g_in5 12 rfl rfl), (g_in 38 (by decide +kernel) rfl)⟩
set_option maxRecDepth 20000 in
theorem vL_90 : xCV RL 90 mX6_spent 0 := ⟨kX6_spent, (g_in5 14 rfl rfl), (g_in5 15 rfl rfl), (g_in5 16 rfl rfl)⟩
set_option maxRecDepth 20000 in
theorem vL_48 : xCV RL 48 mX6_count 1 := ⟨kX6_count, (g_in5 18 rfl rfl), (g_in5 19 rfl rfl), (g_in5 20 rfl rfl)⟩
set_option maxRecDepth 20000 in
theorem vX6_221 : xCV RX6 221 mX6_numbers 0 := ⟨kX6_numbers, (g_in5 22 rfl rfl), (g_in5 24 rfl rfl), (g_in 39 (by decide +kernel) rfl)⟩
set_option maxRecDepth 20000 in
theorem vX6_228 : xCV RX6 228 mX6_mostSteps 0 := ⟨kX6_mostSteps, (g_in5 26 rfl rfl), (g_in5 28 rfl rfl), (g_in 40 (by decide +kernel) rfl)⟩
set_option maxRecDepth 20000 in
theorem vL_52 : xCV RL 52 mX6_run 2 := ⟨kX6_run, (g_in5 30 rfl rfl), (g_in5 31 rfl rfl), (g_in5 32 rfl rfl)⟩
set_option maxRecDepth 20000 in
theorem vL_56 : xCV RL 56 mX6_cluster 2 := ⟨kX6_cluster, (g_in5 34 rfl rfl), (g_in5 35 rfl rfl), (g_in5 36 rfl rfl)⟩
set_option maxRecDepth 20000 in
theorem vL_60 : xCV RL 60 mX6_cost 0 := ⟨kX6_cost, (g_in5 38 rfl rfl), (g_in5 39 rfl rfl), (g_in5 40 rfl rfl)⟩
set_option maxRecDepth 20000 in
theorem vL_64 : xCV RL 64 mX6_line 2 := ⟨kX6_line, (g_in5 42 rfl rfl), (g_in5 43 rfl rfl), (g_in5 44 rfl rfl)⟩
set_option maxRecDepth 20000 in
theorem vX6_231 : xCV RX6 231 mX6_noLine 1 := ⟨kX6_noLine, (g_in5 46 rfl rfl), (g_in5 48 rfl rfl), (g_in 41 (by decide +kernel) rfl)⟩
set_option maxRecDepth 20000 in
theorem vL_69 : xCV RL 69 mX6_bits 1 := ⟨kX6_bits, (g_in5 50 rfl rfl), (g_in5 51 rfl rfl), (g_in5 52 rfl rfl)⟩
set_option maxRecDepth 20000 in
theorem vL_73 : xCV RL 73 mX6_entry 2 := ⟨kX6_entry, (g_in5 55 rfl rfl), (g_in5 56 rfl rfl), (g_in5 57 rfl rfl)⟩
set_option maxRecDepth 20000 in
theorem vL_94 : xCV RL 94 mX6_print 0 := ⟨kX6_print, (g_in5 59 rfl rfl), (g_in5 60 rfl rfl), (g_in5 61 rfl rfl)⟩
set_option maxRecDepth 20000 in
theorem vX6_260 : xCV RX6 260 mX6_printLine 1 := ⟨kX6_printLine, (g_in5 63 rfl rfl), (g_in5 65 rfl rfl), (g_in 42 (by decide +kernel) rfl)⟩
set_option maxRecDepth 20000 in
theorem vX6_240 : xCV RX6 240 mX6_plain 1 := ⟨kX6_plain, (g_in5 67 rfl rfl), (g_in5 69 rfl rfl), (g_in 43 (by decide +kernel) rfl)⟩
set_option maxRecDepth 20000 in
theorem vX6_236 : xCV RX6 236 mX6_put 1 := ⟨kX6_put, (g_in5 74 rfl rfl), (g_in5 76 rfl rfl), (g_in 44 (by decide +kernel) rfl)⟩
set_option maxRecDepth 20000 in
theorem vX6_250 : xCV RX6 250 mX6_name 5 := ⟨kX6_name, (g_in5 78 rfl rfl), (g_in5 80 rfl rfl), (g_in 45 (by decide +kernel) rfl)⟩
set_option maxRecDepth 20000 in
theorem vX6_254 : xCV RX6 254 mX6_number 1 := ⟨kX6_number, (g_in5 82 rfl rfl), (g_in5 84 rfl rfl), (g_in 46 (by decide +kernel) rfl)⟩
set_option maxRecDepth 20000 in
theorem vX6_257 : xCV RX6 257 mX6_sixteen 1 := ⟨kX6_sixteen, (g_in5 86 rfl rfl), (g_in5 88 rfl rfl), (g_in 47 (by decide +kernel) rfl)⟩
set_option maxRecDepth 20000 in
theorem vL_98 : xCV RL 98 mX6_out 1 := ⟨kX6_out, (g_in5 90 rfl rfl), (g_in5 91 rfl rfl), (g_in5 92 rfl rfl)⟩
set_option maxRecDepth 20000 in
theorem clL_7 : Cond.classLink RL 7 RX5 ∈ lw_good ∧ Cond.instantiable RX5 13 ∈ lw_good ∧ Cond.initialized RX5 ∈ lw_good := ⟨(g_in1 16 rfl rfl), (g_in1 17 rfl rfl), (g_in1 1 rfl rfl)⟩
set_option maxRecDepth 20000 in
theorem clX5_9 : Cond.classLink RX5 9 RX2 ∈ lw_good ∧ Cond.instantiable RX2 5 ∈ lw_good ∧ Cond.initialized RX2 ∈ lw_good := ⟨(g_in1 24 rfl rfl), (g_in1 25 rfl rfl), (g_in1 2 rfl rfl)⟩
set_option maxRecDepth 20000 in
theorem ac_int : Cond.arrayClass .int ∈ lw_good := (g_in1 49 rfl rfl)
set_option maxRecDepth 20000 in
theorem clX5_19 : Cond.classLink RX5 19 RX0 ∈ lw_good ∧ Cond.instantiable RX0 10 ∈ lw_good ∧ Cond.initialized RX0 ∈ lw_good := ⟨(g_in1 50 rfl rfl), (g_in1 51 rfl rfl), (g_in1 4 rfl rfl)⟩
set_option maxRecDepth 20000 in
theorem clX5_28 : Cond.classLink RX5 28 RX4 ∈ lw_good ∧ Cond.instantiable RX4 4 ∈ lw_good ∧ Cond.initialized RX4 ∈ lw_good := ⟨(g_in1 87 rfl rfl), (g_in1 88 rfl rfl), (g_in1 5 rfl rfl)⟩
set_option maxRecDepth 20000 in
theorem clX5_37 : Cond.classLink RX5 37 RX1 ∈ lw_good ∧ Cond.instantiable RX1 14 ∈ lw_good ∧ Cond.initialized RX1 ∈ lw_good := ⟨(g_in1 106 rfl rfl), (g_in1 107 rfl rfl), (g_in1 6 rfl rfl)⟩
set_option maxRecDepth 20000 in
theorem ac_long : Cond.arrayClass .long ∈ lw_good := (g_in1 155 rfl rfl)
set_option maxRecDepth 20000 in
theorem clX5_46 : Cond.classLink RX5 46 RX3 ∈ lw_good ∧ Cond.instantiable RX3 2 ∈ lw_good ∧ Cond.initialized RX3 ∈ lw_good := ⟨(g_in1 156 rfl rfl), (g_in1 157 rfl rfl), (g_in1 7 rfl rfl)⟩
set_option maxRecDepth 20000 in
theorem ac_byte : Cond.arrayClass .byte ∈ lw_good := (g_in1 169 rfl rfl)
set_option maxRecDepth 20000 in
theorem cX2_42 : Cond.constantLong RX2 42 (-9223372036854775808) ∈ lw_good := (g_in2 48 rfl rfl)
set_option maxRecDepth 20000 in
theorem cX2_40 : Cond.constantLong RX2 40 (9223372036854775807) ∈ lw_good := (g_in2 53 rfl rfl)
set_option maxRecDepth 20000 in
theorem cX0_77 : Cond.constantLong RX0 77 (64) ∈ lw_good := (g_in2 93 rfl rfl)
set_option maxRecDepth 20000 in
theorem cJ6_265 : Cond.constant RJ6 265 (1431655765) ∈ lw_good := (g_in2 101 rfl rfl)
set_option maxRecDepth 20000 in
theorem cJ6_266 : Cond.constant RJ6 266 (858993459) ∈ lw_good := (g_in2 102 rfl rfl)
set_option maxRecDepth 20000 in
theorem cJ6_267 : Cond.constant RJ6 267 (252645135) ∈ lw_good := (g_in2 103 rfl rfl)
set_option maxRecDepth 20000 in
theorem cX0_86 : Cond.constantLong RX0 86 (100) ∈ lw_good := (g_in2 108 rfl rfl)
set_option maxRecDepth 20000 in
theorem cX4_50 : Cond.constant RX4 50 (2147483647) ∈ lw_good := (g_in2 126 rfl rfl)
set_option maxRecDepth 20000 in
theorem cX1_77 : Cond.constant RX1 77 (-2147483648) ∈ lw_good := (g_in2 147 rfl rfl)
set_option maxRecDepth 20000 in
theorem cX1_78 : Cond.constant RX1 78 (2147483647) ∈ lw_good := (g_in2 148 rfl rfl)
set_option maxRecDepth 20000 in
theorem cX2_74 : Cond.constantLong RX2 74 (63) ∈ lw_good := (g_in2 188 rfl rfl)
set_option maxRecDepth 20000 in
theorem cX5_216 : Cond.constant RX5 216 (-2147483648) ∈ lw_good := (g_in2 236 rfl rfl)
set_option maxRecDepth 20000 in
theorem cX1_159 : Cond.constantLong RX1 159 (64) ∈ lw_good := (g_in3 17 rfl rfl)
set_option maxRecDepth 20000 in
theorem cX1_63 : Cond.constantLong RX1 63 (3072) ∈ lw_good := (g_in3 26 rfl rfl)
set_option maxRecDepth 20000 in
theorem cX5_220 : Cond.constant RX5 220 (2147483647) ∈ lw_good := (g_in3 33 rfl rfl)
set_option maxRecDepth 20000 in
theorem cX5_160 : Cond.constantLong RX5 160 (-101) ∈ lw_good := (g_in3 84 rfl rfl)
set_option maxRecDepth 20000 in
theorem cX5_221 : Cond.constantLong RX5 221 (-2147483648) ∈ lw_good := (g_in3 116 rfl rfl)
set_option maxRecDepth 20000 in
theorem cX5_187 : Cond.constantLong RX5 187 (2147483647) ∈ lw_good := (g_in3 117 rfl rfl)
set_option maxRecDepth 20000 in
theorem cX3_38 : Cond.constant RX3 38 (65536) ∈ lw_good := (g_in3 143 rfl rfl)
set_option maxRecDepth 20000 in
theorem cX3_32 : Cond.constantLong RX3 32 (10) ∈ lw_good := (g_in3 158 rfl rfl)
set_option maxRecDepth 20000 in
theorem cX3_34 : Cond.constantLong RX3 34 (48) ∈ lw_good := (g_in3 159 rfl rfl)
set_option maxRecDepth 20000 in
theorem cX3_36 : Cond.constantLong RX3 36 (15) ∈ lw_good := (g_in3 227 rfl rfl)
set_option maxRecDepth 20000 in
theorem clL_10 : Cond.classLink RL 10 RX6 ∈ lw_good ∧ Cond.instantiable RX6 41 ∈ lw_good ∧ Cond.initialized RX6 ∈ lw_good := ⟨(g_in3 238 rfl rfl), (g_in3 239 rfl rfl), (g_in1 8 rfl rfl)⟩
set_option maxRecDepth 20000 in
theorem cX6_103 : Cond.constant RX6 103 (40000) ∈ lw_good := (g_in4 4 rfl rfl)
set_option maxRecDepth 20000 in
theorem ac_boolean : Cond.arrayClass .boolean ∈ lw_good := (g_in4 129 rfl rfl)
set_option maxRecDepth 20000 in
theorem cX6_108 : Cond.constantLong RX6 108 (15) ∈ lw_good := (g_in4 134 rfl rfl)
set_option maxRecDepth 20000 in
theorem cX6_114 : Cond.constantLong RX6 114 (1000) ∈ lw_good := (g_in4 138 rfl rfl)
set_option maxRecDepth 20000 in
theorem cX6_119 : Cond.constantLong RX6 119 (23) ∈ lw_good := (g_in4 151 rfl rfl)
set_option maxRecDepth 20000 in
theorem cX6_131 : Cond.constantLong RX6 131 (100) ∈ lw_good := (g_in4 160 rfl rfl)
set_option maxRecDepth 20000 in
theorem cX6_133 : Cond.constantLong RX6 133 (256) ∈ lw_good := (g_in4 161 rfl rfl)
set_option maxRecDepth 20000 in
theorem cX6_141 : Cond.constantLong RX6 141 (-2147483648) ∈ lw_good := (g_in4 182 rfl rfl)
set_option maxRecDepth 20000 in
theorem cX6_143 : Cond.constantLong RX6 143 (64) ∈ lw_good := (g_in4 191 rfl rfl)
set_option maxRecDepth 20000 in
theorem cX6_156 : Cond.constantLong RX6 156 (-1) ∈ lw_good := (g_in4 200 rfl rfl)
set_option maxRecDepth 20000 in
theorem cX6_192 : Cond.constantLong RX6 192 (2147483647) ∈ lw_good := (g_in4 205 rfl rfl)
set_option maxRecDepth 20000 in
theorem cX6_234 : Cond.constantLong RX6 234 (-101) ∈ lw_good := (g_in5 54 rfl rfl)
set_option maxRecDepth 20000 in
theorem cX6_244 : Cond.constantLong RX6 244 (9) ∈ lw_good := (g_in5 71 rfl rfl)
set_option maxRecDepth 20000 in
theorem cX6_246 : Cond.constantLong RX6 246 (10) ∈ lw_good := (g_in5 72 rfl rfl)
set_option maxRecDepth 20000 in
theorem cX6_248 : Cond.constantLong RX6 248 (48) ∈ lw_good := (g_in5 73 rfl rfl)
set_option maxRecDepth 20000 in
theorem oinX5 : Cond.methodLink RX5 3 Lib.objectInit ∈ lw_good ∧ Cond.instanceMethod Lib.objectInit ∈ lw_good ∧ Cond.code Lib.objectInit ⟨#[0xb1]⟩ 1 none ∈ lw_good := ⟨(g_in1 21 rfl rfl), (g_in1 22 rfl rfl), (g_in1 23 rfl rfl)⟩
set_option maxRecDepth 20000 in
theorem oinX2 : Cond.methodLink RX2 3 Lib.objectInit ∈ lw_good ∧ Cond.instanceMethod Lib.objectInit ∈ lw_good ∧ Cond.code Lib.objectInit ⟨#[0xb1]⟩ 1 none ∈ lw_good := ⟨(g_in1 29 rfl rfl), (g_in1 22 rfl rfl), (g_in1 23 rfl rfl)⟩
set_option maxRecDepth 20000 in
theorem oinX0 : Cond.methodLink RX0 3 Lib.objectInit ∈ lw_good ∧ Cond.instanceMethod Lib.objectInit ∈ lw_good ∧ Cond.code Lib.objectInit ⟨#[0xb1]⟩ 1 none ∈ lw_good := ⟨(g_in1 55 rfl rfl), (g_in1 22 rfl rfl), (g_in1 23 rfl rfl)⟩
set_option maxRecDepth 20000 in
theorem oinX4 : Cond.methodLink RX4 3 Lib.objectInit ∈ lw_good ∧ Cond.instanceMethod Lib.objectInit ∈ lw_good ∧ Cond.code Lib.objectInit ⟨#[0xb1]⟩ 1 none ∈ lw_good := ⟨(g_in1 92 rfl rfl), (g_in1 22 rfl rfl), (g_in1 23 rfl rfl)⟩
set_option maxRecDepth 20000 in
theorem oinX1 : Cond.methodLink RX1 3 Lib.objectInit ∈ lw_good ∧ Cond.instanceMethod Lib.objectInit ∈ lw_good ∧ Cond.code Lib.objectInit ⟨#[0xb1]⟩ 1 none ∈ lw_good := ⟨(g_in1 111 rfl rfl), (g_in1 22 rfl rfl), (g_in1 23 rfl rfl)⟩
set_option maxRecDepth 20000 in
theorem oinX3 : Cond.methodLink RX3 3 Lib.objectInit ∈ lw_good ∧ Cond.instanceMethod Lib.objectInit ∈ lw_good ∧ Cond.code Lib.objectInit ⟨#[0xb1]⟩ 1 none ∈ lw_good := ⟨(g_in1 161 rfl rfl), (g_in1 22 rfl rfl), (g_in1 23 rfl rfl)⟩
set_option maxRecDepth 20000 in
theorem oinX6 : Cond.methodLink RX6 1 Lib.objectInit ∈ lw_good ∧ Cond.instanceMethod Lib.objectInit ∈ lw_good ∧ Cond.code Lib.objectInit ⟨#[0xb1]⟩ 1 none ∈ lw_good := ⟨(g_in4 3 rfl rfl), (g_in1 22 rfl rfl), (g_in1 23 rfl rfl)⟩
