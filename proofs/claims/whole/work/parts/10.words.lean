/-! ===== the words that the walks use, by their places in lw_tbl ===== -/
theorem in_X0 : ∀ w ∈ wsX00, w ∈ GW := by decide +kernel
theorem in_X1 : ∀ w ∈ wsX10, w ∈ GW := by decide +kernel
theorem in_X2 : ∀ w ∈ wsX20, w ∈ GW := by decide +kernel
theorem in_X3 : ∀ w ∈ wsX30, w ∈ GW := by decide +kernel
theorem in_X4 : ∀ w ∈ wsX40, w ∈ GW := by decide +kernel
theorem in_X5 : ∀ w ∈ wsX50, w ∈ GW := by decide +kernel
theorem in_X6 : ∀ w ∈ wsX60, w ∈ GW := by decide +kernel
theorem in_X7 : ∀ w ∈ wsX70, w ∈ GW := by decide +kernel
theorem in_X8 : ∀ w ∈ wsX80, w ∈ GW := by decide +kernel
set_option maxRecDepth 20000 in
theorem fl_X3_9 : Cond.fieldLink RX3 9 (TX3 0).1 (TX3 0).2.1 (TX3 0).2.2.1 ∈ GW := gw_in 63 (by rfl) rfl
set_option maxRecDepth 20000 in
theorem fl_X3_13 : Cond.fieldLink RX3 13 (TX3 1).1 (TX3 1).2.1 (TX3 1).2.2.1 ∈ GW := gw_in 64 (by rfl) rfl
set_option maxRecDepth 20000 in
theorem fl_X5_9 : Cond.fieldLink RX5 9 (TX5 0).1 (TX5 0).2.1 (TX5 0).2.2.1 ∈ GW := gw_in 77 (by rfl) rfl
set_option maxRecDepth 20000 in
theorem fl_X7_181 : Cond.fieldLinkNest RX7 181 (TX5 0).1 (TX5 0).2.1 (TX5 0).2.2.1 RX7 ∈ NW := nw_in 78 (by rfl) rfl
set_option maxRecDepth 20000 in
theorem fl_X5_13 : Cond.fieldLink RX5 13 (TX5 1).1 (TX5 1).2.1 (TX5 1).2.2.1 ∈ GW := gw_in 79 (by rfl) rfl
set_option maxRecDepth 20000 in
theorem fl_X7_73 : Cond.fieldLinkNest RX7 73 (TX5 1).1 (TX5 1).2.1 (TX5 1).2.2.1 RX7 ∈ NW := nw_in 80 (by rfl) rfl
set_option maxRecDepth 20000 in
theorem fl_X4_9 : Cond.fieldLink RX4 9 (TX4 0).1 (TX4 0).2.1 (TX4 0).2.2.1 ∈ GW := gw_in 92 (by rfl) rfl
set_option maxRecDepth 20000 in
theorem fl_X0_46 : Cond.fieldLinkNest RX0 46 (TX4 0).1 (TX4 0).2.1 (TX4 0).2.2.1 RX7 ∈ NW := nw_in 93 (by rfl) rfl
set_option maxRecDepth 20000 in
theorem fl_X2_60 : Cond.fieldLinkNest RX2 60 (TX4 0).1 (TX4 0).2.1 (TX4 0).2.2.1 RX7 ∈ NW := nw_in 94 (by rfl) rfl
set_option maxRecDepth 20000 in
theorem fl_X4_15 : Cond.fieldLink RX4 15 (TX4 1).1 (TX4 1).2.1 (TX4 1).2.2.1 ∈ GW := gw_in 95 (by rfl) rfl
set_option maxRecDepth 20000 in
theorem fl_X0_41 : Cond.fieldLinkNest RX0 41 (TX4 1).1 (TX4 1).2.1 (TX4 1).2.2.1 RX7 ∈ NW := nw_in 96 (by rfl) rfl
set_option maxRecDepth 20000 in
theorem fl_X2_55 : Cond.fieldLinkNest RX2 55 (TX4 1).1 (TX4 1).2.1 (TX4 1).2.2.1 RX7 ∈ NW := nw_in 97 (by rfl) rfl
set_option maxRecDepth 20000 in
theorem fl_X7_127 : Cond.fieldLinkNest RX7 127 (TX4 1).1 (TX4 1).2.1 (TX4 1).2.2.1 RX7 ∈ NW := nw_in 98 (by rfl) rfl
set_option maxRecDepth 20000 in
theorem fl_X2_9 : Cond.fieldLink RX2 9 (TX2 0).1 (TX2 0).2.1 (TX2 0).2.2.1 ∈ GW := gw_in 112 (by rfl) rfl
set_option maxRecDepth 20000 in
theorem fl_X2_17 : Cond.fieldLink RX2 17 (TX2 1).1 (TX2 1).2.1 (TX2 1).2.2.1 ∈ GW := gw_in 113 (by rfl) rfl
set_option maxRecDepth 20000 in
theorem fl_X0_32 : Cond.fieldLinkNest RX0 32 (TX2 1).1 (TX2 1).2.1 (TX2 1).2.2.1 RX7 ∈ NW := nw_in 114 (by rfl) rfl
set_option maxRecDepth 20000 in
theorem fl_X2_20 : Cond.fieldLink RX2 20 (TX2 2).1 (TX2 2).2.1 (TX2 2).2.2.1 ∈ GW := gw_in 115 (by rfl) rfl
set_option maxRecDepth 20000 in
theorem fl_X2_24 : Cond.fieldLink RX2 24 (TX2 3).1 (TX2 3).2.1 (TX2 3).2.2.1 ∈ GW := gw_in 116 (by rfl) rfl
set_option maxRecDepth 20000 in
theorem fl_X2_28 : Cond.fieldLink RX2 28 (TX2 4).1 (TX2 4).2.1 (TX2 4).2.2.1 ∈ GW := gw_in 117 (by rfl) rfl
set_option maxRecDepth 20000 in
theorem fl_X0_29 : Cond.fieldLinkNest RX0 29 (TX2 4).1 (TX2 4).2.1 (TX2 4).2.2.1 RX7 ∈ NW := nw_in 118 (by rfl) rfl
set_option maxRecDepth 20000 in
theorem fl_X2_32 : Cond.fieldLink RX2 32 (TX2 5).1 (TX2 5).2.1 (TX2 5).2.2.1 ∈ GW := gw_in 119 (by rfl) rfl
set_option maxRecDepth 20000 in
theorem fl_X0_26 : Cond.fieldLinkNest RX0 26 (TX2 5).1 (TX2 5).2.1 (TX2 5).2.2.1 RX7 ∈ NW := nw_in 120 (by rfl) rfl
set_option maxRecDepth 20000 in
theorem fl_X2_35 : Cond.fieldLink RX2 35 (TX2 6).1 (TX2 6).2.1 (TX2 6).2.2.1 ∈ GW := gw_in 121 (by rfl) rfl
set_option maxRecDepth 20000 in
theorem fl_X7_155 : Cond.fieldLinkNest RX7 155 (TX2 6).1 (TX2 6).2.1 (TX2 6).2.2.1 RX7 ∈ NW := nw_in 122 (by rfl) rfl
set_option maxRecDepth 20000 in
theorem fl_X6_9 : Cond.fieldLink RX6 9 (TX6 0).1 (TX6 0).2.1 (TX6 0).2.2.1 ∈ GW := gw_in 148 (by rfl) rfl
set_option maxRecDepth 20000 in
theorem fl_X6_15 : Cond.fieldLink RX6 15 (TX6 1).1 (TX6 1).2.1 (TX6 1).2.2.1 ∈ GW := gw_in 149 (by rfl) rfl
set_option maxRecDepth 20000 in
theorem fl_X6_19 : Cond.fieldLink RX6 19 (TX6 2).1 (TX6 2).2.1 (TX6 2).2.2.1 ∈ GW := gw_in 150 (by rfl) rfl
set_option maxRecDepth 20000 in
theorem fl_X0_11 : Cond.fieldLink RX0 11 (TX0 0).1 (TX0 0).2.1 (TX0 0).2.2.1 ∈ GW := gw_in 165 (by rfl) rfl
set_option maxRecDepth 20000 in
theorem fl_X0_16 : Cond.fieldLink RX0 16 (TX0 1).1 (TX0 1).2.1 (TX0 1).2.2.1 ∈ GW := gw_in 166 (by rfl) rfl
set_option maxRecDepth 20000 in
theorem fl_X7_98 : Cond.fieldLinkNest RX7 98 (TX0 1).1 (TX0 1).2.1 (TX0 1).2.2.1 RX7 ∈ NW := nw_in 167 (by rfl) rfl
set_option maxRecDepth 20000 in
theorem fl_X0_20 : Cond.fieldLink RX0 20 (TX0 2).1 (TX0 2).2.1 (TX0 2).2.2.1 ∈ GW := gw_in 168 (by rfl) rfl
set_option maxRecDepth 20000 in
theorem fl_X7_107 : Cond.fieldLinkNest RX7 107 (TX0 2).1 (TX0 2).2.1 (TX0 2).2.2.1 RX7 ∈ NW := nw_in 169 (by rfl) rfl
set_option maxRecDepth 20000 in
theorem fl_X0_23 : Cond.fieldLink RX0 23 (TX0 3).1 (TX0 3).2.1 (TX0 3).2.2.1 ∈ GW := gw_in 170 (by rfl) rfl
set_option maxRecDepth 20000 in
theorem fl_X7_113 : Cond.fieldLinkNest RX7 113 (TX0 3).1 (TX0 3).2.1 (TX0 3).2.2.1 RX7 ∈ NW := nw_in 171 (by rfl) rfl
set_option maxRecDepth 20000 in
theorem fl_X1_14 : Cond.fieldLink RX1 14 (TX1 0).1 (TX1 0).2.1 (TX1 0).2.2.1 ∈ GW := gw_in 189 (by rfl) rfl
set_option maxRecDepth 20000 in
theorem fl_X7_152 : Cond.fieldLinkNest RX7 152 (TX1 0).1 (TX1 0).2.1 (TX1 0).2.2.1 RX7 ∈ NW := nw_in 190 (by rfl) rfl
set_option maxRecDepth 20000 in
theorem fl_X1_20 : Cond.fieldLink RX1 20 (TX1 1).1 (TX1 1).2.1 (TX1 1).2.2.1 ∈ GW := gw_in 191 (by rfl) rfl
set_option maxRecDepth 20000 in
theorem fl_X7_147 : Cond.fieldLinkNest RX7 147 (TX1 1).1 (TX1 1).2.1 (TX1 1).2.2.1 RX7 ∈ NW := nw_in 192 (by rfl) rfl
set_option maxRecDepth 20000 in
theorem fl_X1_24 : Cond.fieldLink RX1 24 (TX1 2).1 (TX1 2).2.1 (TX1 2).2.2.1 ∈ GW := gw_in 193 (by rfl) rfl
set_option maxRecDepth 20000 in
theorem fl_X7_148 : Cond.fieldLinkNest RX7 148 (TX1 2).1 (TX1 2).2.1 (TX1 2).2.2.1 RX7 ∈ NW := nw_in 194 (by rfl) rfl
set_option maxRecDepth 20000 in
theorem fl_X1_27 : Cond.fieldLink RX1 27 (TX1 3).1 (TX1 3).2.1 (TX1 3).2.2.1 ∈ GW := gw_in 195 (by rfl) rfl
set_option maxRecDepth 20000 in
theorem fl_X7_191 : Cond.fieldLinkNest RX7 191 (TX1 3).1 (TX1 3).2.1 (TX1 3).2.2.1 RX7 ∈ NW := nw_in 196 (by rfl) rfl
set_option maxRecDepth 20000 in
theorem fl_X1_30 : Cond.fieldLink RX1 30 (TX1 4).1 (TX1 4).2.1 (TX1 4).2.2.1 ∈ GW := gw_in 197 (by rfl) rfl
set_option maxRecDepth 20000 in
theorem fl_X7_167 : Cond.fieldLinkNest RX7 167 (TX1 4).1 (TX1 4).2.1 (TX1 4).2.2.1 RX7 ∈ NW := nw_in 198 (by rfl) rfl
set_option maxRecDepth 20000 in
theorem fl_X7_12 : Cond.fieldLink RX7 12 (TX7 0).1 (TX7 0).2.1 (TX7 0).2.2.1 ∈ GW := gw_in 210 (by rfl) rfl
set_option maxRecDepth 20000 in
theorem fl_X7_19 : Cond.fieldLink RX7 19 (TX7 1).1 (TX7 1).2.1 (TX7 1).2.2.1 ∈ GW := gw_in 211 (by rfl) rfl
set_option maxRecDepth 20000 in
theorem fl_X7_26 : Cond.fieldLink RX7 26 (TX7 2).1 (TX7 2).2.1 (TX7 2).2.2.1 ∈ GW := gw_in 212 (by rfl) rfl
set_option maxRecDepth 20000 in
theorem fl_X7_35 : Cond.fieldLink RX7 35 (TX7 3).1 (TX7 3).2.1 (TX7 3).2.2.1 ∈ GW := gw_in 213 (by rfl) rfl
set_option maxRecDepth 20000 in
theorem fl_X7_44 : Cond.fieldLink RX7 44 (TX7 4).1 (TX7 4).2.1 (TX7 4).2.2.1 ∈ GW := gw_in 214 (by rfl) rfl
set_option maxRecDepth 20000 in
theorem fl_X7_51 : Cond.fieldLink RX7 51 (TX7 5).1 (TX7 5).2.1 (TX7 5).2.2.1 ∈ GW := gw_in 215 (by rfl) rfl
set_option maxRecDepth 20000 in
theorem fl_X7_58 : Cond.fieldLink RX7 58 (TX7 6).1 (TX7 6).2.1 (TX7 6).2.2.1 ∈ GW := gw_in 216 (by rfl) rfl
set_option maxRecDepth 20000 in
theorem fs_X4_41 : Cond.fieldLink RX4 41 RX4 "BELOW" "[I" ∈ GW := gw_in 424 (by rfl) rfl
set_option maxRecDepth 20000 in
theorem fs_X4_44 : Cond.fieldLink RX4 44 RX4 "SIZES" "[I" ∈ GW := gw_in 426 (by rfl) rfl
set_option maxRecDepth 20000 in
theorem fl_X8_42 : Cond.fieldLink RX8 42 (TX8 0).1 (TX8 0).2.1 (TX8 0).2.2.1 ∈ GW := gw_in 639 (by rfl) rfl
set_option maxRecDepth 20000 in
theorem fl_X8_7 : Cond.fieldLink RX8 7 (TX8 1).1 (TX8 1).2.1 (TX8 1).2.2.1 ∈ GW := gw_in 640 (by rfl) rfl
set_option maxRecDepth 20000 in
theorem fl_X8_46 : Cond.fieldLink RX8 46 (TX8 2).1 (TX8 2).2.1 (TX8 2).2.2.1 ∈ GW := gw_in 641 (by rfl) rfl
set_option maxRecDepth 20000 in
theorem fl_X8_13 : Cond.fieldLink RX8 13 (TX8 3).1 (TX8 3).2.1 (TX8 3).2.2.1 ∈ GW := gw_in 642 (by rfl) rfl
set_option maxRecDepth 20000 in
theorem fl_X8_116 : Cond.fieldLink RX8 116 (TX8 4).1 (TX8 4).2.1 (TX8 4).2.2.1 ∈ GW := gw_in 643 (by rfl) rfl
set_option maxRecDepth 20000 in
theorem fl_X8_119 : Cond.fieldLink RX8 119 (TX8 5).1 (TX8 5).2.1 (TX8 5).2.2.1 ∈ GW := gw_in 644 (by rfl) rfl
set_option maxRecDepth 20000 in
theorem fl_X8_17 : Cond.fieldLink RX8 17 (TX8 6).1 (TX8 6).2.1 (TX8 6).2.2.1 ∈ GW := gw_in 645 (by rfl) rfl
set_option maxRecDepth 20000 in
theorem fl_X8_129 : Cond.fieldLink RX8 129 (TX8 7).1 (TX8 7).2.1 (TX8 7).2.2.1 ∈ GW := gw_in 646 (by rfl) rfl
set_option maxRecDepth 20000 in
theorem fl_X8_132 : Cond.fieldLink RX8 132 (TX8 8).1 (TX8 8).2.1 (TX8 8).2.2.1 ∈ GW := gw_in 647 (by rfl) rfl
set_option maxRecDepth 20000 in
theorem fl_X8_20 : Cond.fieldLink RX8 20 (TX8 9).1 (TX8 9).2.1 (TX8 9).2.2.1 ∈ GW := gw_in 648 (by rfl) rfl
set_option maxRecDepth 20000 in
theorem fl_X8_135 : Cond.fieldLink RX8 135 (TX8 10).1 (TX8 10).2.1 (TX8 10).2.2.1 ∈ GW := gw_in 649 (by rfl) rfl
set_option maxRecDepth 20000 in
theorem fl_X8_138 : Cond.fieldLink RX8 138 (TX8 11).1 (TX8 11).2.1 (TX8 11).2.2.1 ∈ GW := gw_in 650 (by rfl) rfl
set_option maxRecDepth 20000 in
theorem fl_X8_23 : Cond.fieldLink RX8 23 (TX8 12).1 (TX8 12).2.1 (TX8 12).2.2.1 ∈ GW := gw_in 651 (by rfl) rfl
set_option maxRecDepth 20000 in
theorem fl_X8_26 : Cond.fieldLink RX8 26 (TX8 13).1 (TX8 13).2.1 (TX8 13).2.2.1 ∈ GW := gw_in 652 (by rfl) rfl
set_option maxRecDepth 20000 in
theorem fl_X8_74 : Cond.fieldLink RX8 74 (TX8 14).1 (TX8 14).2.1 (TX8 14).2.2.1 ∈ GW := gw_in 653 (by rfl) rfl
set_option maxRecDepth 20000 in
theorem fl_X8_29 : Cond.fieldLink RX8 29 (TX8 15).1 (TX8 15).2.1 (TX8 15).2.2.1 ∈ GW := gw_in 654 (by rfl) rfl
set_option maxRecDepth 20000 in
theorem fl_X8_32 : Cond.fieldLink RX8 32 (TX8 16).1 (TX8 16).2.1 (TX8 16).2.2.1 ∈ GW := gw_in 655 (by rfl) rfl
set_option maxRecDepth 20000 in
theorem fl_X8_84 : Cond.fieldLink RX8 84 (TX8 17).1 (TX8 17).2.1 (TX8 17).2.2.1 ∈ GW := gw_in 656 (by rfl) rfl
set_option maxRecDepth 20000 in
theorem fl_X8_35 : Cond.fieldLink RX8 35 (TX8 18).1 (TX8 18).2.1 (TX8 18).2.2.1 ∈ GW := gw_in 657 (by rfl) rfl
set_option maxRecDepth 20000 in
theorem cw_X7_init : Cond.code yX7_init cX7_init 1 none ∈ GW := gw_in 53 (by rfl) rfl
set_option maxRecDepth 20000 in
theorem gl_L_68 : Cond.methodLink RL 68 yX7_init ∈ GW := gw_in 51 (by rfl) rfl
set_option maxRecDepth 20000 in
theorem gi_L_68 : Cond.instanceMethod yX7_init ∈ GW := gw_in 52 (by rfl) rfl
set_option maxRecDepth 20000 in
theorem cw_X3_init : Cond.code yX3_init cX3_init 3 none ∈ GW := gw_in 61 (by rfl) rfl
set_option maxRecDepth 20000 in
theorem gl_X7_11 : Cond.methodLink RX7 11 yX3_init ∈ GW := gw_in 59 (by rfl) rfl
set_option maxRecDepth 20000 in
theorem gi_X7_11 : Cond.instanceMethod yX3_init ∈ GW := gw_in 60 (by rfl) rfl
set_option maxRecDepth 20000 in
theorem cw_X5_init : Cond.code yX5_init cX5_init 1 none ∈ GW := gw_in 75 (by rfl) rfl
set_option maxRecDepth 20000 in
theorem gl_X7_18 : Cond.methodLink RX7 18 yX5_init ∈ GW := gw_in 73 (by rfl) rfl
set_option maxRecDepth 20000 in
theorem gi_X7_18 : Cond.instanceMethod yX5_init ∈ GW := gw_in 74 (by rfl) rfl
set_option maxRecDepth 20000 in
theorem cw_X4_init : Cond.code yX4_init cX4_init 1 none ∈ GW := gw_in 90 (by rfl) rfl
set_option maxRecDepth 20000 in
theorem gl_X7_25 : Cond.methodLink RX7 25 yX4_init ∈ GW := gw_in 88 (by rfl) rfl
set_option maxRecDepth 20000 in
theorem gi_X7_25 : Cond.instanceMethod yX4_init ∈ GW := gw_in 89 (by rfl) rfl
set_option maxRecDepth 20000 in
theorem cw_X2_init : Cond.code yX2_init cX2_init 2 none ∈ GW := gw_in 108 (by rfl) rfl
set_option maxRecDepth 20000 in
theorem gl_X7_32 : Cond.methodLink RX7 32 yX2_init ∈ GW := gw_in 106 (by rfl) rfl
set_option maxRecDepth 20000 in
theorem gi_X7_32 : Cond.instanceMethod yX2_init ∈ GW := gw_in 107 (by rfl) rfl
set_option maxRecDepth 20000 in
theorem cw_X6_init : Cond.code yX6_init cX6_init 3 none ∈ GW := gw_in 143 (by rfl) rfl
set_option maxRecDepth 20000 in
theorem gl_X7_41 : Cond.methodLink RX7 41 yX6_init ∈ GW := gw_in 141 (by rfl) rfl
set_option maxRecDepth 20000 in
theorem gi_X7_41 : Cond.instanceMethod yX6_init ∈ GW := gw_in 142 (by rfl) rfl
set_option maxRecDepth 20000 in
theorem cw_J7_fill_53178 : Cond.code yJ7_fill_53178 cJ7_fill_53178 4 none ∈ GW := gw_in 147 (by rfl) rfl
set_option maxRecDepth 20000 in
theorem gm_X6_23 : GoodIn GW (va_wsS RX6 23 yJ7_fill_53178 (gws yJ7_fill_53178 cJ7_fill_53178 4 none)) := good_S (gw_in 145 (by rfl) rfl) (gw_in 146 (by rfl) rfl) (gw_in 36 (by rfl) rfl) cw_J7_fill_53178
set_option maxRecDepth 20000 in
theorem cw_X0_init : Cond.code yX0_init cX0_init 1 none ∈ GW := gw_in 162 (by rfl) rfl
set_option maxRecDepth 20000 in
theorem gl_X7_50 : Cond.methodLink RX7 50 yX0_init ∈ GW := gw_in 160 (by rfl) rfl
set_option maxRecDepth 20000 in
theorem gi_X7_50 : Cond.instanceMethod yX0_init ∈ GW := gw_in 161 (by rfl) rfl
set_option maxRecDepth 20000 in
theorem cw_X1_init : Cond.code yX1_init cX1_init 2 none ∈ GW := gw_in 185 (by rfl) rfl
set_option maxRecDepth 20000 in
theorem gl_X7_57 : Cond.methodLink RX7 57 yX1_init ∈ GW := gw_in 183 (by rfl) rfl
set_option maxRecDepth 20000 in
theorem gi_X7_57 : Cond.instanceMethod yX1_init ∈ GW := gw_in 184 (by rfl) rfl
set_option maxRecDepth 20000 in
theorem gl_X1_11 : Cond.methodLink RX1 11 yX2_init ∈ GW := gw_in 188 (by rfl) rfl
set_option maxRecDepth 20000 in
theorem gi_X1_11 : Cond.instanceMethod yX2_init ∈ GW := gw_in 107 (by rfl) rfl
set_option maxRecDepth 20000 in
theorem cw_X7_product : Cond.code yX7_product cX7_product 3 (some .int) ∈ GW := gw_in 235 (by rfl) rfl
set_option maxRecDepth 20000 in
theorem gm_L_124 : GoodIn GW (wsV RL 124 RX7 yX7_product (gws yX7_product cX7_product 3 (some .int))) := good_V (gw_in 232 (by rfl) rfl) (gw_in 233 (by rfl) rfl) (gw_in 234 (by rfl) rfl) (gw_in 30 (by rfl) rfl) cw_X7_product
set_option maxRecDepth 20000 in
theorem cw_X3_times : Cond.code yX3_times cX3_times 3 (some .int) ∈ GW := gw_in 239 (by rfl) rfl
set_option maxRecDepth 20000 in
theorem gm_X7_164 : GoodIn GW (wsV RX7 164 RX3 yX3_times (gws yX3_times cX3_times 3 (some .int))) := good_V (gw_in 236 (by rfl) rfl) (gw_in 237 (by rfl) rfl) (gw_in 238 (by rfl) rfl) (gw_in 31 (by rfl) rfl) cw_X3_times
-- with a table: L_feed
set_option maxRecDepth 20000 in
theorem cw_X7_feed : Cond.code yX7_feed cX7_feed 6 (some .int) ∈ GW := gw_in 247 (by rfl) rfl
set_option maxRecDepth 20000 in
theorem gm_L_7 : GoodIn GW (wsV RL 7 RX7 yX7_feed (gws yX7_feed cX7_feed 6 (some .int))) := good_V (gw_in 244 (by rfl) rfl) (gw_in 245 (by rfl) rfl) (gw_in 246 (by rfl) rfl) (gw_in 30 (by rfl) rfl) cw_X7_feed
set_option maxRecDepth 20000 in
theorem cw_X5_hasRoom : Cond.code yX5_hasRoom cX5_hasRoom 2 (some .boolean) ∈ GW := gw_in 251 (by rfl) rfl
set_option maxRecDepth 20000 in
theorem gm_X7_62 : GoodIn GW (wsV RX7 62 RX5 yX5_hasRoom (gws yX5_hasRoom cX5_hasRoom 2 (some .boolean))) := good_V (gw_in 248 (by rfl) rfl) (gw_in 249 (by rfl) rfl) (gw_in 250 (by rfl) rfl) (gw_in 32 (by rfl) rfl) cw_X5_hasRoom
set_option maxRecDepth 20000 in
theorem cw_X5_append : Cond.code yX5_append cX5_append 3 none ∈ GW := gw_in 319 (by rfl) rfl
set_option maxRecDepth 20000 in
theorem gm_X7_69 : GoodIn GW (wsV RX7 69 RX5 yX5_append (gws yX5_append cX5_append 3 none)) := good_V (gw_in 316 (by rfl) rfl) (gw_in 317 (by rfl) rfl) (gw_in 318 (by rfl) rfl) (gw_in 32 (by rfl) rfl) cw_X5_append
-- with a table: L_end
set_option maxRecDepth 20000 in
theorem cw_X7_end : Cond.code yX7_end cX7_end 2 none ∈ GW := gw_in 327 (by rfl) rfl
set_option maxRecDepth 20000 in
theorem gm_L_15 : GoodIn GW (wsV RL 15 RX7 yX7_end (gws yX7_end cX7_end 2 none)) := good_V (gw_in 324 (by rfl) rfl) (gw_in 325 (by rfl) rfl) (gw_in 326 (by rfl) rfl) (gw_in 30 (by rfl) rfl) cw_X7_end
-- with a table: L_turn
set_option maxRecDepth 20000 in
theorem cw_X7_turn : Cond.code yX7_turn cX7_turn 2 (some .int) ∈ GW := gw_in 349 (by rfl) rfl
set_option maxRecDepth 20000 in
theorem gm_L_21 : GoodIn GW (wsV RL 21 RX7 yX7_turn (gws yX7_turn cX7_turn 2 (some .int))) := good_V (gw_in 346 (by rfl) rfl) (gw_in 347 (by rfl) rfl) (gw_in 348 (by rfl) rfl) (gw_in 30 (by rfl) rfl) cw_X7_turn
set_option maxRecDepth 20000 in
theorem cw_X7_isSymbolCount : Cond.code yX7_isSymbolCount cX7_isSymbolCount 1 (some .boolean) ∈ GW := gw_in 352 (by rfl) rfl
set_option maxRecDepth 20000 in
theorem gm_X7_80 : GoodIn GW (va_wsS RX7 80 yX7_isSymbolCount (gws yX7_isSymbolCount cX7_isSymbolCount 1 (some .boolean))) := good_S (gw_in 350 (by rfl) rfl) (gw_in 351 (by rfl) rfl) (gw_in 30 (by rfl) rfl) cw_X7_isSymbolCount
set_option maxRecDepth 20000 in
theorem cw_X6_of : Cond.code yX6_of cX6_of 3 (some .int) ∈ GW := gw_in 356 (by rfl) rfl
set_option maxRecDepth 20000 in
theorem gm_X7_83 : GoodIn GW (wsV RX7 83 RX6 yX6_of (gws yX6_of cX6_of 3 (some .int))) := good_V (gw_in 353 (by rfl) rfl) (gw_in 354 (by rfl) rfl) (gw_in 355 (by rfl) rfl) (gw_in 35 (by rfl) rfl) cw_X6_of
set_option maxRecDepth 20000 in
theorem cw_X6_fillsRank : Cond.code yX6_fillsRank cX6_fillsRank 4 (some .boolean) ∈ GW := gw_in 360 (by rfl) rfl
set_option maxRecDepth 20000 in
theorem gm_X6_29 : GoodIn GW (wsV RX6 29 RX6 yX6_fillsRank (gws yX6_fillsRank cX6_fillsRank 4 (some .boolean))) := good_V (gw_in 357 (by rfl) rfl) (gw_in 359 (by rfl) rfl) (gw_in 1 (by rfl) rfl) (gw_in 35 (by rfl) rfl) cw_X6_fillsRank
set_option maxRecDepth 20000 in
theorem cw_X2_start : Cond.code yX2_start cX2_start 4 none ∈ GW := gw_in 364 (by rfl) rfl
set_option maxRecDepth 20000 in
theorem gm_X6_33 : GoodIn GW (wsV RX6 33 RX2 yX2_start (gws yX2_start cX2_start 4 none)) := good_V (gw_in 361 (by rfl) rfl) (gw_in 362 (by rfl) rfl) (gw_in 363 (by rfl) rfl) (gw_in 34 (by rfl) rfl) cw_X2_start
set_option maxRecDepth 20000 in
theorem cw_X2_setSumLine : Cond.code yX2_setSumLine cX2_setSumLine 5 none ∈ GW := gw_in 368 (by rfl) rfl
set_option maxRecDepth 20000 in
theorem gm_X2_38 : GoodIn GW (wsV RX2 38 RX2 yX2_setSumLine (gws yX2_setSumLine cX2_setSumLine 5 none)) := good_V (gw_in 365 (by rfl) rfl) (gw_in 367 (by rfl) rfl) (gw_in 2 (by rfl) rfl) (gw_in 34 (by rfl) rfl) cw_X2_setSumLine
set_option maxRecDepth 20000 in
theorem gm_X2_49 : GoodIn GW (va_wsS RX2 49 yJ7_fill_53178 (gws yJ7_fill_53178 cJ7_fill_53178 4 none)) := good_S (gw_in 369 (by rfl) rfl) (gw_in 146 (by rfl) rfl) (gw_in 36 (by rfl) rfl) cw_J7_fill_53178
set_option maxRecDepth 20000 in
theorem cw_X2_learn : Cond.code yX2_learn cX2_learn 2 (some .int) ∈ GW := gw_in 373 (by rfl) rfl
set_option maxRecDepth 20000 in
theorem gm_X2_42 : GoodIn GW (wsV RX2 42 RX2 yX2_learn (gws yX2_learn cX2_learn 2 (some .int))) := good_V (gw_in 370 (by rfl) rfl) (gw_in 371 (by rfl) rfl) (gw_in 372 (by rfl) rfl) (gw_in 34 (by rfl) rfl) cw_X2_learn
set_option maxRecDepth 20000 in
theorem cw_X2_reduceLine : Cond.code yX2_reduceLine cX2_reduceLine 3 none ∈ GW := gw_in 377 (by rfl) rfl
set_option maxRecDepth 20000 in
theorem gm_X2_63 : GoodIn GW (wsV RX2 63 RX2 yX2_reduceLine (gws yX2_reduceLine cX2_reduceLine 3 none)) := good_V (gw_in 374 (by rfl) rfl) (gw_in 376 (by rfl) rfl) (gw_in 3 (by rfl) rfl) (gw_in 34 (by rfl) rfl) cw_X2_reduceLine
set_option maxRecDepth 20000 in
theorem cw_X3_addTimes : Cond.code yX3_addTimes cX3_addTimes 8 none ∈ GW := gw_in 381 (by rfl) rfl
set_option maxRecDepth 20000 in
theorem gm_X2_87 : GoodIn GW (wsV RX2 87 RX3 yX3_addTimes (gws yX3_addTimes cX3_addTimes 8 none)) := good_V (gw_in 378 (by rfl) rfl) (gw_in 379 (by rfl) rfl) (gw_in 380 (by rfl) rfl) (gw_in 31 (by rfl) rfl) cw_X3_addTimes
set_option maxRecDepth 20000 in
theorem cw_X2_lineLead : Cond.code yX2_lineLead cX2_lineLead 2 (some .int) ∈ GW := gw_in 385 (by rfl) rfl
set_option maxRecDepth 20000 in
theorem gm_X2_66 : GoodIn GW (wsV RX2 66 RX2 yX2_lineLead (gws yX2_lineLead cX2_lineLead 2 (some .int))) := good_V (gw_in 382 (by rfl) rfl) (gw_in 384 (by rfl) rfl) (gw_in 4 (by rfl) rfl) (gw_in 34 (by rfl) rfl) cw_X2_lineLead
set_option maxRecDepth 20000 in
theorem cw_X2_hasValueLeft : Cond.code yX2_hasValueLeft cX2_hasValueLeft 2 (some .boolean) ∈ GW := gw_in 389 (by rfl) rfl
set_option maxRecDepth 20000 in
theorem gm_X2_69 : GoodIn GW (wsV RX2 69 RX2 yX2_hasValueLeft (gws yX2_hasValueLeft cX2_hasValueLeft 2 (some .boolean))) := good_V (gw_in 386 (by rfl) rfl) (gw_in 388 (by rfl) rfl) (gw_in 5 (by rfl) rfl) (gw_in 34 (by rfl) rfl) cw_X2_hasValueLeft
set_option maxRecDepth 20000 in
theorem cw_X2_keepLine : Cond.code yX2_keepLine cX2_keepLine 6 none ∈ GW := gw_in 393 (by rfl) rfl
set_option maxRecDepth 20000 in
theorem gm_X2_73 : GoodIn GW (wsV RX2 73 RX2 yX2_keepLine (gws yX2_keepLine cX2_keepLine 6 none)) := good_V (gw_in 390 (by rfl) rfl) (gw_in 392 (by rfl) rfl) (gw_in 6 (by rfl) rfl) (gw_in 34 (by rfl) rfl) cw_X2_keepLine
set_option maxRecDepth 20000 in
theorem cw_X3_inverse : Cond.code yX3_inverse cX3_inverse 2 (some .int) ∈ GW := gw_in 397 (by rfl) rfl
set_option maxRecDepth 20000 in
theorem gm_X2_91 : GoodIn GW (wsV RX2 91 RX3 yX3_inverse (gws yX3_inverse cX3_inverse 2 (some .int))) := good_V (gw_in 394 (by rfl) rfl) (gw_in 395 (by rfl) rfl) (gw_in 396 (by rfl) rfl) (gw_in 31 (by rfl) rfl) cw_X3_inverse
set_option maxRecDepth 20000 in
theorem gm_X2_94 : GoodIn GW (wsV RX2 94 RX3 yX3_times (gws yX3_times cX3_times 3 (some .int))) := good_V (gw_in 398 (by rfl) rfl) (gw_in 237 (by rfl) rfl) (gw_in 238 (by rfl) rfl) (gw_in 31 (by rfl) rfl) cw_X3_times
set_option maxRecDepth 20000 in
theorem cw_X2_setPowerLine : Cond.code yX2_setPowerLine cX2_setPowerLine 4 none ∈ GW := gw_in 402 (by rfl) rfl
set_option maxRecDepth 20000 in
theorem gm_X2_46 : GoodIn GW (wsV RX2 46 RX2 yX2_setPowerLine (gws yX2_setPowerLine cX2_setPowerLine 4 none)) := good_V (gw_in 399 (by rfl) rfl) (gw_in 401 (by rfl) rfl) (gw_in 7 (by rfl) rfl) (gw_in 34 (by rfl) rfl) cw_X2_setPowerLine
set_option maxRecDepth 20000 in
theorem cw_X3_powerOfTwo : Cond.code yX3_powerOfTwo cX3_powerOfTwo 2 (some .int) ∈ GW := gw_in 406 (by rfl) rfl
set_option maxRecDepth 20000 in
theorem gm_X2_81 : GoodIn GW (wsV RX2 81 RX3 yX3_powerOfTwo (gws yX3_powerOfTwo cX3_powerOfTwo 2 (some .int))) := good_V (gw_in 403 (by rfl) rfl) (gw_in 404 (by rfl) rfl) (gw_in 405 (by rfl) rfl) (gw_in 31 (by rfl) rfl) cw_X3_powerOfTwo
set_option maxRecDepth 20000 in
theorem cw_X4_find : Cond.code yX4_find cX4_find 12 none ∈ GW := gw_in 410 (by rfl) rfl
set_option maxRecDepth 20000 in
theorem gm_X6_39 : GoodIn GW (wsV RX6 39 RX4 yX4_find (gws yX4_find cX4_find 12 none)) := good_V (gw_in 407 (by rfl) rfl) (gw_in 408 (by rfl) rfl) (gw_in 409 (by rfl) rfl) (gw_in 33 (by rfl) rfl) cw_X4_find
set_option maxRecDepth 20000 in
theorem cw_X4_chance : Cond.code yX4_chance cX4_chance 4 (some .int) ∈ GW := gw_in 414 (by rfl) rfl
set_option maxRecDepth 20000 in
theorem gm_X4_21 : GoodIn GW (va_wsS RX4 21 yX4_chance (gws yX4_chance cX4_chance 4 (some .int))) := good_S (gw_in 412 (by rfl) rfl) (gw_in 413 (by rfl) rfl) (gw_in 33 (by rfl) rfl) cw_X4_chance
set_option maxRecDepth 20000 in
theorem cw_X4_mix : Cond.code yX4_mix cX4_mix 5 (some .long) ∈ GW := gw_in 417 (by rfl) rfl
set_option maxRecDepth 20000 in
theorem gm_X4_47 : GoodIn GW (va_wsS RX4 47 yX4_mix (gws yX4_mix cX4_mix 5 (some .long))) := good_S (gw_in 415 (by rfl) rfl) (gw_in 416 (by rfl) rfl) (gw_in 33 (by rfl) rfl) cw_X4_mix
set_option maxRecDepth 20000 in
theorem cw_X4_sizeFor : Cond.code yX4_sizeFor cX4_sizeFor 2 (some .int) ∈ GW := gw_in 423 (by rfl) rfl
set_option maxRecDepth 20000 in
theorem gm_X4_25 : GoodIn GW (va_wsS RX4 25 yX4_sizeFor (gws yX4_sizeFor cX4_sizeFor 2 (some .int))) := good_S (gw_in 421 (by rfl) rfl) (gw_in 422 (by rfl) rfl) (gw_in 33 (by rfl) rfl) cw_X4_sizeFor
set_option maxRecDepth 20000 in
theorem cw_J9_min_7cf53 : Cond.code yJ9_min_7cf53 cJ9_min_7cf53 2 (some .int) ∈ GW := gw_in 430 (by rfl) rfl
set_option maxRecDepth 20000 in
theorem gm_X4_29 : GoodIn GW (va_wsS RX4 29 yJ9_min_7cf53 (gws yJ9_min_7cf53 cJ9_min_7cf53 2 (some .int))) := good_S (gw_in 428 (by rfl) rfl) (gw_in 429 (by rfl) rfl) (gw_in 45 (by rfl) rfl) cw_J9_min_7cf53
set_option maxRecDepth 20000 in
theorem cw_X4_leastPrimeFrom : Cond.code yX4_leastPrimeFrom cX4_leastPrimeFrom 2 (some .int) ∈ GW := gw_in 433 (by rfl) rfl
set_option maxRecDepth 20000 in
theorem gm_X4_35 : GoodIn GW (va_wsS RX4 35 yX4_leastPrimeFrom (gws yX4_leastPrimeFrom cX4_leastPrimeFrom 2 (some .int))) := good_S (gw_in 431 (by rfl) rfl) (gw_in 432 (by rfl) rfl) (gw_in 33 (by rfl) rfl) cw_X4_leastPrimeFrom
set_option maxRecDepth 20000 in
theorem cw_X4_isPrime : Cond.code yX4_isPrime cX4_isPrime 2 (some .boolean) ∈ GW := gw_in 436 (by rfl) rfl
set_option maxRecDepth 20000 in
theorem gm_X4_57 : GoodIn GW (va_wsS RX4 57 yX4_isPrime (gws yX4_isPrime cX4_isPrime 2 (some .boolean))) := good_S (gw_in 434 (by rfl) rfl) (gw_in 435 (by rfl) rfl) (gw_in 33 (by rfl) rfl) cw_X4_isPrime
set_option maxRecDepth 20000 in
theorem cw_X2_setLine : Cond.code yX2_setLine cX2_setLine 3 none ∈ GW := gw_in 440 (by rfl) rfl
set_option maxRecDepth 20000 in
theorem gm_X6_45 : GoodIn GW (wsV RX6 45 RX2 yX2_setLine (gws yX2_setLine cX2_setLine 3 none)) := good_V (gw_in 437 (by rfl) rfl) (gw_in 438 (by rfl) rfl) (gw_in 439 (by rfl) rfl) (gw_in 34 (by rfl) rfl) cw_X2_setLine
set_option maxRecDepth 20000 in
theorem gm_X6_49 : GoodIn GW (wsV RX6 49 RX2 yX2_learn (gws yX2_learn cX2_learn 2 (some .int))) := good_V (gw_in 441 (by rfl) rfl) (gw_in 371 (by rfl) rfl) (gw_in 372 (by rfl) rfl) (gw_in 34 (by rfl) rfl) cw_X2_learn
-- with a table: L_block
set_option maxRecDepth 20000 in
theorem cw_X7_block : Cond.code yX7_block cX7_block 4 none ∈ GW := gw_in 448 (by rfl) rfl
set_option maxRecDepth 20000 in
theorem gm_L_25 : GoodIn GW (wsV RL 25 RX7 yX7_block (gws yX7_block cX7_block 4 none)) := good_V (gw_in 445 (by rfl) rfl) (gw_in 446 (by rfl) rfl) (gw_in 447 (by rfl) rfl) (gw_in 30 (by rfl) rfl) cw_X7_block
set_option maxRecDepth 20000 in
theorem cw_X7_isByteCount : Cond.code yX7_isByteCount cX7_isByteCount 1 (some .boolean) ∈ GW := gw_in 451 (by rfl) rfl
set_option maxRecDepth 20000 in
theorem gm_X7_87 : GoodIn GW (va_wsS RX7 87 yX7_isByteCount (gws yX7_isByteCount cX7_isByteCount 1 (some .boolean))) := good_S (gw_in 449 (by rfl) rfl) (gw_in 450 (by rfl) rfl) (gw_in 30 (by rfl) rfl) cw_X7_isByteCount
set_option maxRecDepth 20000 in
theorem cw_X7_solveTape : Cond.code yX7_solveTape cX7_solveTape 6 none ∈ GW := gw_in 455 (by rfl) rfl
set_option maxRecDepth 20000 in
theorem gm_X7_90 : GoodIn GW (wsV RX7 90 RX7 yX7_solveTape (gws yX7_solveTape cX7_solveTape 6 none)) := good_V (gw_in 452 (by rfl) rfl) (gw_in 454 (by rfl) rfl) (gw_in 8 (by rfl) rfl) (gw_in 30 (by rfl) rfl) cw_X7_solveTape
set_option maxRecDepth 20000 in
theorem gm_X7_173 : GoodIn GW (wsV RX7 173 RX2 yX2_start (gws yX2_start cX2_start 4 none)) := good_V (gw_in 456 (by rfl) rfl) (gw_in 362 (by rfl) rfl) (gw_in 363 (by rfl) rfl) (gw_in 34 (by rfl) rfl) cw_X2_start
set_option maxRecDepth 20000 in
theorem gm_X7_116 : GoodIn GW (wsV RX7 116 RX4 yX4_find (gws yX4_find cX4_find 12 none)) := good_V (gw_in 457 (by rfl) rfl) (gw_in 408 (by rfl) rfl) (gw_in 409 (by rfl) rfl) (gw_in 33 (by rfl) rfl) cw_X4_find
set_option maxRecDepth 20000 in
theorem gm_X7_177 : GoodIn GW (wsV RX7 177 RX2 yX2_setLine (gws yX2_setLine cX2_setLine 3 none)) := good_V (gw_in 458 (by rfl) rfl) (gw_in 438 (by rfl) rfl) (gw_in 439 (by rfl) rfl) (gw_in 34 (by rfl) rfl) cw_X2_setLine
set_option maxRecDepth 20000 in
theorem cw_X2_setValue : Cond.code yX2_setValue cX2_setValue 3 none ∈ GW := gw_in 462 (by rfl) rfl
set_option maxRecDepth 20000 in
theorem gm_X7_185 : GoodIn GW (wsV RX7 185 RX2 yX2_setValue (gws yX2_setValue cX2_setValue 3 none)) := good_V (gw_in 459 (by rfl) rfl) (gw_in 460 (by rfl) rfl) (gw_in 461 (by rfl) rfl) (gw_in 34 (by rfl) rfl) cw_X2_setValue
set_option maxRecDepth 20000 in
theorem gm_X7_188 : GoodIn GW (wsV RX7 188 RX2 yX2_learn (gws yX2_learn cX2_learn 2 (some .int))) := good_V (gw_in 463 (by rfl) rfl) (gw_in 371 (by rfl) rfl) (gw_in 372 (by rfl) rfl) (gw_in 34 (by rfl) rfl) cw_X2_learn
set_option maxRecDepth 20000 in
theorem cw_X0_load : Cond.code yX0_load cX0_load 5 none ∈ GW := gw_in 467 (by rfl) rfl
set_option maxRecDepth 20000 in
theorem gm_X7_94 : GoodIn GW (wsV RX7 94 RX0 yX0_load (gws yX0_load cX0_load 5 none)) := good_V (gw_in 464 (by rfl) rfl) (gw_in 465 (by rfl) rfl) (gw_in 466 (by rfl) rfl) (gw_in 37 (by rfl) rfl) cw_X0_load
-- with a table: L_byteAt
set_option maxRecDepth 20000 in
theorem cw_X7_byteAt : Cond.code yX7_byteAt cX7_byteAt 3 (some .int) ∈ GW := gw_in 479 (by rfl) rfl
set_option maxRecDepth 20000 in
theorem gm_L_29 : GoodIn GW (wsV RL 29 RX7 yX7_byteAt (gws yX7_byteAt cX7_byteAt 3 (some .int))) := good_V (gw_in 476 (by rfl) rfl) (gw_in 477 (by rfl) rfl) (gw_in 478 (by rfl) rfl) (gw_in 30 (by rfl) rfl) cw_X7_byteAt
set_option maxRecDepth 20000 in
theorem cw_X7_isPacket : Cond.code yX7_isPacket cX7_isPacket 1 (some .boolean) ∈ GW := gw_in 497 (by rfl) rfl
set_option maxRecDepth 20000 in
theorem gm_X7_104 : GoodIn GW (va_wsS RX7 104 yX7_isPacket (gws yX7_isPacket cX7_isPacket 1 (some .boolean))) := good_S (gw_in 495 (by rfl) rfl) (gw_in 496 (by rfl) rfl) (gw_in 30 (by rfl) rfl) cw_X7_isPacket
set_option maxRecDepth 20000 in
theorem cw_X0_valueOf : Cond.code yX0_valueOf cX0_valueOf 5 (some .int) ∈ GW := gw_in 517 (by rfl) rfl
set_option maxRecDepth 20000 in
theorem gm_X7_119 : GoodIn GW (wsV RX7 119 RX0 yX0_valueOf (gws yX0_valueOf cX0_valueOf 5 (some .int))) := good_V (gw_in 514 (by rfl) rfl) (gw_in 515 (by rfl) rfl) (gw_in 516 (by rfl) rfl) (gw_in 37 (by rfl) rfl) cw_X0_valueOf
-- with a table: L_row
set_option maxRecDepth 20000 in
theorem cw_X7_row : Cond.code yX7_row cX7_row 4 (some .int) ∈ GW := gw_in 524 (by rfl) rfl
set_option maxRecDepth 20000 in
theorem gm_L_37 : GoodIn GW (wsV RL 37 RX7 yX7_row (gws yX7_row cX7_row 4 (some .int))) := good_V (gw_in 521 (by rfl) rfl) (gw_in 522 (by rfl) rfl) (gw_in 523 (by rfl) rfl) (gw_in 30 (by rfl) rfl) cw_X7_row
set_option maxRecDepth 20000 in
theorem cw_X4_greatest : Cond.code yX4_greatest cX4_greatest 3 (some .int) ∈ GW := gw_in 528 (by rfl) rfl
set_option maxRecDepth 20000 in
theorem gm_X7_123 : GoodIn GW (wsV RX7 123 RX4 yX4_greatest (gws yX4_greatest cX4_greatest 3 (some .int))) := good_V (gw_in 525 (by rfl) rfl) (gw_in 526 (by rfl) rfl) (gw_in 527 (by rfl) rfl) (gw_in 33 (by rfl) rfl) cw_X4_greatest
set_option maxRecDepth 20000 in
theorem cw_J9_max_7cf53 : Cond.code yJ9_max_7cf53 cJ9_max_7cf53 2 (some .int) ∈ GW := gw_in 531 (by rfl) rfl
set_option maxRecDepth 20000 in
theorem gm_X4_38 : GoodIn GW (va_wsS RX4 38 yJ9_max_7cf53 (gws yJ9_max_7cf53 cJ9_max_7cf53 2 (some .int))) := good_S (gw_in 529 (by rfl) rfl) (gw_in 530 (by rfl) rfl) (gw_in 45 (by rfl) rfl) cw_J9_max_7cf53
-- with a table: L_open
set_option maxRecDepth 20000 in
theorem cw_X7_open : Cond.code yX7_open cX7_open 3 none ∈ GW := gw_in 538 (by rfl) rfl
set_option maxRecDepth 20000 in
theorem gm_L_41 : GoodIn GW (wsV RL 41 RX7 yX7_open (gws yX7_open cX7_open 3 none)) := good_V (gw_in 535 (by rfl) rfl) (gw_in 536 (by rfl) rfl) (gw_in 537 (by rfl) rfl) (gw_in 30 (by rfl) rfl) cw_X7_open
set_option maxRecDepth 20000 in
theorem cw_X1_begin : Cond.code yX1_begin cX1_begin 4 none ∈ GW := gw_in 542 (by rfl) rfl
set_option maxRecDepth 20000 in
theorem gm_X7_130 : GoodIn GW (wsV RX7 130 RX1 yX1_begin (gws yX1_begin cX1_begin 4 none)) := good_V (gw_in 539 (by rfl) rfl) (gw_in 540 (by rfl) rfl) (gw_in 541 (by rfl) rfl) (gw_in 38 (by rfl) rfl) cw_X1_begin
set_option maxRecDepth 20000 in
theorem gm_X1_33 : GoodIn GW (wsV RX1 33 RX2 yX2_start (gws yX2_start cX2_start 4 none)) := good_V (gw_in 543 (by rfl) rfl) (gw_in 362 (by rfl) rfl) (gw_in 363 (by rfl) rfl) (gw_in 34 (by rfl) rfl) cw_X2_start
-- with a table: L_take
set_option maxRecDepth 20000 in
theorem cw_X7_take : Cond.code yX7_take cX7_take 3 (some .boolean) ∈ GW := gw_in 550 (by rfl) rfl
set_option maxRecDepth 20000 in
theorem gm_L_44 : GoodIn GW (wsV RL 44 RX7 yX7_take (gws yX7_take cX7_take 3 (some .boolean))) := good_V (gw_in 547 (by rfl) rfl) (gw_in 548 (by rfl) rfl) (gw_in 549 (by rfl) rfl) (gw_in 30 (by rfl) rfl) cw_X7_take
set_option maxRecDepth 20000 in
theorem cw_X7_blockFitsCatcher : Cond.code yX7_blockFitsCatcher cX7_blockFitsCatcher 1 (some .boolean) ∈ GW := gw_in 554 (by rfl) rfl
set_option maxRecDepth 20000 in
theorem gm_X7_133 : GoodIn GW (wsV RX7 133 RX7 yX7_blockFitsCatcher (gws yX7_blockFitsCatcher cX7_blockFitsCatcher 1 (some .boolean))) := good_V (gw_in 551 (by rfl) rfl) (gw_in 553 (by rfl) rfl) (gw_in 9 (by rfl) rfl) (gw_in 30 (by rfl) rfl) cw_X7_blockFitsCatcher
set_option maxRecDepth 20000 in
theorem cw_X7_catchFromBlock : Cond.code yX7_catchFromBlock cX7_catchFromBlock 3 (some .int) ∈ GW := gw_in 558 (by rfl) rfl
set_option maxRecDepth 20000 in
theorem gm_X7_137 : GoodIn GW (wsV RX7 137 RX7 yX7_catchFromBlock (gws yX7_catchFromBlock cX7_catchFromBlock 3 (some .int))) := good_V (gw_in 555 (by rfl) rfl) (gw_in 557 (by rfl) rfl) (gw_in 10 (by rfl) rfl) (gw_in 30 (by rfl) rfl) cw_X7_catchFromBlock
set_option maxRecDepth 20000 in
theorem cw_X1_catchLine : Cond.code yX1_catchLine cX1_catchLine 2 (some .int) ∈ GW := gw_in 562 (by rfl) rfl
set_option maxRecDepth 20000 in
theorem gm_X7_192 : GoodIn GW (wsV RX7 192 RX1 yX1_catchLine (gws yX1_catchLine cX1_catchLine 2 (some .int))) := good_V (gw_in 559 (by rfl) rfl) (gw_in 560 (by rfl) rfl) (gw_in 561 (by rfl) rfl) (gw_in 38 (by rfl) rfl) cw_X1_catchLine
set_option maxRecDepth 20000 in
theorem gm_X1_37 : GoodIn GW (wsV RX1 37 RX2 yX2_learn (gws yX2_learn cX2_learn 2 (some .int))) := good_V (gw_in 563 (by rfl) rfl) (gw_in 371 (by rfl) rfl) (gw_in 372 (by rfl) rfl) (gw_in 34 (by rfl) rfl) cw_X2_learn
-- with a table: L_takeAll
set_option maxRecDepth 20000 in
theorem cw_X7_takeAll : Cond.code yX7_takeAll cX7_takeAll 8 (some .int) ∈ GW := gw_in 570 (by rfl) rfl
set_option maxRecDepth 20000 in
theorem gm_L_48 : GoodIn GW (wsV RL 48 RX7 yX7_takeAll (gws yX7_takeAll cX7_takeAll 8 (some .int))) := good_V (gw_in 567 (by rfl) rfl) (gw_in 568 (by rfl) rfl) (gw_in 569 (by rfl) rfl) (gw_in 30 (by rfl) rfl) cw_X7_takeAll
set_option maxRecDepth 20000 in
theorem cw_J9_floorMod_7cf53 : Cond.code yJ9_floorMod_7cf53 cJ9_floorMod_7cf53 3 (some .int) ∈ GW := gw_in 573 (by rfl) rfl
set_option maxRecDepth 20000 in
theorem gm_X7_141 : GoodIn GW (va_wsS RX7 141 yJ9_floorMod_7cf53 (gws yJ9_floorMod_7cf53 cJ9_floorMod_7cf53 3 (some .int))) := good_S (gw_in 571 (by rfl) rfl) (gw_in 572 (by rfl) rfl) (gw_in 45 (by rfl) rfl) cw_J9_floorMod_7cf53
-- with a table: L_give
set_option maxRecDepth 20000 in
theorem cw_X7_give : Cond.code yX7_give cX7_give 3 (some .boolean) ∈ GW := gw_in 580 (by rfl) rfl
set_option maxRecDepth 20000 in
theorem gm_L_52 : GoodIn GW (wsV RL 52 RX7 yX7_give (gws yX7_give cX7_give 3 (some .boolean))) := good_V (gw_in 577 (by rfl) rfl) (gw_in 578 (by rfl) rfl) (gw_in 579 (by rfl) rfl) (gw_in 30 (by rfl) rfl) cw_X7_give
set_option maxRecDepth 20000 in
theorem cw_X7_catchFromTape : Cond.code yX7_catchFromTape cX7_catchFromTape 3 (some .int) ∈ GW := gw_in 584 (by rfl) rfl
set_option maxRecDepth 20000 in
theorem gm_X7_149 : GoodIn GW (wsV RX7 149 RX7 yX7_catchFromTape (gws yX7_catchFromTape cX7_catchFromTape 3 (some .int))) := good_V (gw_in 581 (by rfl) rfl) (gw_in 583 (by rfl) rfl) (gw_in 11 (by rfl) rfl) (gw_in 30 (by rfl) rfl) cw_X7_catchFromTape
-- with a table: L_rank
set_option maxRecDepth 20000 in
theorem cw_X7_rank : Cond.code yX7_rank cX7_rank 1 (some .int) ∈ GW := gw_in 591 (by rfl) rfl
set_option maxRecDepth 20000 in
theorem gm_L_55 : GoodIn GW (wsV RL 55 RX7 yX7_rank (gws yX7_rank cX7_rank 1 (some .int))) := good_V (gw_in 588 (by rfl) rfl) (gw_in 589 (by rfl) rfl) (gw_in 590 (by rfl) rfl) (gw_in 30 (by rfl) rfl) cw_X7_rank
-- with a table: L_follows
set_option maxRecDepth 20000 in
theorem cw_X7_follows : Cond.code yX7_follows cX7_follows 2 (some .boolean) ∈ GW := gw_in 598 (by rfl) rfl
set_option maxRecDepth 20000 in
theorem gm_L_59 : GoodIn GW (wsV RL 59 RX7 yX7_follows (gws yX7_follows cX7_follows 2 (some .boolean))) := good_V (gw_in 595 (by rfl) rfl) (gw_in 596 (by rfl) rfl) (gw_in 597 (by rfl) rfl) (gw_in 30 (by rfl) rfl) cw_X7_follows
set_option maxRecDepth 20000 in
theorem cw_X7_catcherDerives : Cond.code yX7_catcherDerives cX7_catcherDerives 2 (some .boolean) ∈ GW := gw_in 602 (by rfl) rfl
set_option maxRecDepth 20000 in
theorem gm_X7_158 : GoodIn GW (wsV RX7 158 RX7 yX7_catcherDerives (gws yX7_catcherDerives cX7_catcherDerives 2 (some .boolean))) := good_V (gw_in 599 (by rfl) rfl) (gw_in 601 (by rfl) rfl) (gw_in 12 (by rfl) rfl) (gw_in 30 (by rfl) rfl) cw_X7_catcherDerives
set_option maxRecDepth 20000 in
theorem cw_X2_derive : Cond.code yX2_derive cX2_derive 2 (some .boolean) ∈ GW := gw_in 606 (by rfl) rfl
set_option maxRecDepth 20000 in
theorem gm_X7_195 : GoodIn GW (wsV RX7 195 RX2 yX2_derive (gws yX2_derive cX2_derive 2 (some .boolean))) := good_V (gw_in 603 (by rfl) rfl) (gw_in 604 (by rfl) rfl) (gw_in 605 (by rfl) rfl) (gw_in 34 (by rfl) rfl) cw_X2_derive
set_option maxRecDepth 20000 in
theorem gm_X2_77 : GoodIn GW (wsV RX2 77 RX2 yX2_setLine (gws yX2_setLine cX2_setLine 3 none)) := good_V (gw_in 607 (by rfl) rfl) (gw_in 438 (by rfl) rfl) (gw_in 439 (by rfl) rfl) (gw_in 34 (by rfl) rfl) cw_X2_setLine
-- with a table: L_known
set_option maxRecDepth 20000 in
theorem cw_X7_known : Cond.code yX7_known cX7_known 3 (some .int) ∈ GW := gw_in 614 (by rfl) rfl
set_option maxRecDepth 20000 in
theorem gm_L_62 : GoodIn GW (wsV RL 62 RX7 yX7_known (gws yX7_known cX7_known 3 (some .int))) := good_V (gw_in 611 (by rfl) rfl) (gw_in 612 (by rfl) rfl) (gw_in 613 (by rfl) rfl) (gw_in 30 (by rfl) rfl) cw_X7_known
set_option maxRecDepth 20000 in
theorem cw_X2_derivedValue : Cond.code yX2_derivedValue cX2_derivedValue 2 (some .int) ∈ GW := gw_in 618 (by rfl) rfl
set_option maxRecDepth 20000 in
theorem gm_X7_161 : GoodIn GW (wsV RX7 161 RX2 yX2_derivedValue (gws yX2_derivedValue cX2_derivedValue 2 (some .int))) := good_V (gw_in 615 (by rfl) rfl) (gw_in 616 (by rfl) rfl) (gw_in 617 (by rfl) rfl) (gw_in 34 (by rfl) rfl) cw_X2_derivedValue
-- with a table: L_count
set_option maxRecDepth 20000 in
theorem cw_X7_count : Cond.code yX7_count cX7_count 2 (some .int) ∈ GW := gw_in 625 (by rfl) rfl
set_option maxRecDepth 20000 in
theorem gm_L_65 : GoodIn GW (wsV RL 65 RX7 yX7_count (gws yX7_count cX7_count 2 (some .int))) := good_V (gw_in 622 (by rfl) rfl) (gw_in 623 (by rfl) rfl) (gw_in 624 (by rfl) rfl) (gw_in 30 (by rfl) rfl) cw_X7_count
set_option maxRecDepth 20000 in
theorem cw_X7_symbolsThatFollow : Cond.code yX7_symbolsThatFollow cX7_symbolsThatFollow 3 (some .int) ∈ GW := gw_in 629 (by rfl) rfl
set_option maxRecDepth 20000 in
theorem gm_X7_170 : GoodIn GW (wsV RX7 170 RX7 yX7_symbolsThatFollow (gws yX7_symbolsThatFollow cX7_symbolsThatFollow 3 (some .int))) := good_V (gw_in 626 (by rfl) rfl) (gw_in 628 (by rfl) rfl) (gw_in 13 (by rfl) rfl) (gw_in 30 (by rfl) rfl) cw_X7_symbolsThatFollow
set_option maxRecDepth 20000 in
theorem cw_X8_init : Cond.code yX8_init cX8_init 3 none ∈ GW := gw_in 634 (by rfl) rfl
set_option maxRecDepth 20000 in
theorem gl_L_71 : Cond.methodLink RL 71 yX8_init ∈ GW := gw_in 632 (by rfl) rfl
set_option maxRecDepth 20000 in
theorem gi_L_71 : Cond.instanceMethod yX8_init ∈ GW := gw_in 633 (by rfl) rfl
set_option maxRecDepth 20000 in
theorem cw_X8_times : Cond.code yX8_times cX8_times 5 (some .int) ∈ GW := gw_in 638 (by rfl) rfl
set_option maxRecDepth 20000 in
theorem gm_X8_38 : GoodIn GW (va_wsS RX8 38 yX8_times (gws yX8_times cX8_times 5 (some .int))) := good_S (gw_in 636 (by rfl) rfl) (gw_in 637 (by rfl) rfl) (gw_in 39 (by rfl) rfl) cw_X8_times
set_option maxRecDepth 20000 in
theorem cw_X8_thrown : Cond.code yX8_thrown cX8_thrown 1 (some .int) ∈ GW := gw_in 701 (by rfl) rfl
set_option maxRecDepth 20000 in
theorem gm_L_78 : GoodIn GW (wsV RL 78 RX8 yX8_thrown (gws yX8_thrown cX8_thrown 1 (some .int))) := good_V (gw_in 698 (by rfl) rfl) (gw_in 699 (by rfl) rfl) (gw_in 700 (by rfl) rfl) (gw_in 39 (by rfl) rfl) cw_X8_thrown
set_option maxRecDepth 20000 in
theorem cw_X8_feed : Cond.code yX8_feed cX8_feed 8 (some .int) ∈ GW := gw_in 705 (by rfl) rfl
set_option maxRecDepth 20000 in
theorem gm_L_77 : GoodIn GW (wsV RL 77 RX8 yX8_feed (gws yX8_feed cX8_feed 8 (some .int))) := good_V (gw_in 702 (by rfl) rfl) (gw_in 703 (by rfl) rfl) (gw_in 704 (by rfl) rfl) (gw_in 39 (by rfl) rfl) cw_X8_feed
set_option maxRecDepth 20000 in
theorem cw_X8_end : Cond.code yX8_end cX8_end 2 none ∈ GW := gw_in 709 (by rfl) rfl
set_option maxRecDepth 20000 in
theorem gm_L_84 : GoodIn GW (wsV RL 84 RX8 yX8_end (gws yX8_end cX8_end 2 none)) := good_V (gw_in 706 (by rfl) rfl) (gw_in 707 (by rfl) rfl) (gw_in 708 (by rfl) rfl) (gw_in 39 (by rfl) rfl) cw_X8_end
set_option maxRecDepth 20000 in
theorem cw_X8_turn : Cond.code yX8_turn cX8_turn 2 (some .int) ∈ GW := gw_in 713 (by rfl) rfl
set_option maxRecDepth 20000 in
theorem gm_L_88 : GoodIn GW (wsV RL 88 RX8 yX8_turn (gws yX8_turn cX8_turn 2 (some .int))) := good_V (gw_in 710 (by rfl) rfl) (gw_in 711 (by rfl) rfl) (gw_in 712 (by rfl) rfl) (gw_in 39 (by rfl) rfl) cw_X8_turn
set_option maxRecDepth 20000 in
theorem cw_X8_isK : Cond.code yX8_isK cX8_isK 1 (some .boolean) ∈ GW := gw_in 716 (by rfl) rfl
set_option maxRecDepth 20000 in
theorem gm_X8_107 : GoodIn GW (va_wsS RX8 107 yX8_isK (gws yX8_isK cX8_isK 1 (some .boolean))) := good_S (gw_in 714 (by rfl) rfl) (gw_in 715 (by rfl) rfl) (gw_in 39 (by rfl) rfl) cw_X8_isK
set_option maxRecDepth 20000 in
theorem cw_X8_turnOf : Cond.code yX8_turnOf cX8_turnOf 3 (some .int) ∈ GW := gw_in 720 (by rfl) rfl
set_option maxRecDepth 20000 in
theorem gm_X8_110 : GoodIn GW (wsV RX8 110 RX8 yX8_turnOf (gws yX8_turnOf cX8_turnOf 3 (some .int))) := good_V (gw_in 717 (by rfl) rfl) (gw_in 719 (by rfl) rfl) (gw_in 14 (by rfl) rfl) (gw_in 39 (by rfl) rfl) cw_X8_turnOf
set_option maxRecDepth 20000 in
theorem cw_X8_isFull : Cond.code yX8_isFull cX8_isFull 4 (some .boolean) ∈ GW := gw_in 724 (by rfl) rfl
set_option maxRecDepth 20000 in
theorem gm_X8_103 : GoodIn GW (wsV RX8 103 RX8 yX8_isFull (gws yX8_isFull cX8_isFull 4 (some .boolean))) := good_V (gw_in 721 (by rfl) rfl) (gw_in 723 (by rfl) rfl) (gw_in 15 (by rfl) rfl) (gw_in 39 (by rfl) rfl) cw_X8_isFull
set_option maxRecDepth 20000 in
theorem cw_X8_start : Cond.code yX8_start cX8_start 3 none ∈ GW := gw_in 728 (by rfl) rfl
set_option maxRecDepth 20000 in
theorem gm_X8_95 : GoodIn GW (wsV RX8 95 RX8 yX8_start (gws yX8_start cX8_start 3 none)) := good_V (gw_in 725 (by rfl) rfl) (gw_in 727 (by rfl) rfl) (gw_in 16 (by rfl) rfl) (gw_in 39 (by rfl) rfl) cw_X8_start
set_option maxRecDepth 20000 in
theorem cw_X8_fixed : Cond.code yX8_fixed cX8_fixed 5 none ∈ GW := gw_in 732 (by rfl) rfl
set_option maxRecDepth 20000 in
theorem gm_X8_88 : GoodIn GW (wsV RX8 88 RX8 yX8_fixed (gws yX8_fixed cX8_fixed 5 none)) := good_V (gw_in 729 (by rfl) rfl) (gw_in 731 (by rfl) rfl) (gw_in 17 (by rfl) rfl) (gw_in 39 (by rfl) rfl) cw_X8_fixed
set_option maxRecDepth 20000 in
theorem cw_X8_blank : Cond.code yX8_blank cX8_blank 2 none ∈ GW := gw_in 736 (by rfl) rfl
set_option maxRecDepth 20000 in
theorem gm_X8_55 : GoodIn GW (wsV RX8 55 RX8 yX8_blank (gws yX8_blank cX8_blank 2 none)) := good_V (gw_in 733 (by rfl) rfl) (gw_in 735 (by rfl) rfl) (gw_in 18 (by rfl) rfl) (gw_in 39 (by rfl) rfl) cw_X8_blank
set_option maxRecDepth 20000 in
theorem cw_X8_power : Cond.code yX8_power cX8_power 2 (some .int) ∈ GW := gw_in 740 (by rfl) rfl
set_option maxRecDepth 20000 in
theorem gm_X8_58 : GoodIn GW (wsV RX8 58 RX8 yX8_power (gws yX8_power cX8_power 2 (some .int))) := good_V (gw_in 737 (by rfl) rfl) (gw_in 739 (by rfl) rfl) (gw_in 19 (by rfl) rfl) (gw_in 39 (by rfl) rfl) cw_X8_power
set_option maxRecDepth 20000 in
theorem cw_X8_isAdded : Cond.code yX8_isAdded cX8_isAdded 7 (some .boolean) ∈ GW := gw_in 744 (by rfl) rfl
set_option maxRecDepth 20000 in
theorem gm_X8_92 : GoodIn GW (wsV RX8 92 RX8 yX8_isAdded (gws yX8_isAdded cX8_isAdded 7 (some .boolean))) := good_V (gw_in 741 (by rfl) rfl) (gw_in 743 (by rfl) rfl) (gw_in 20 (by rfl) rfl) (gw_in 39 (by rfl) rfl) cw_X8_isAdded
set_option maxRecDepth 20000 in
theorem cw_X8_isReduced : Cond.code yX8_isReduced cX8_isReduced 5 (some .boolean) ∈ GW := gw_in 748 (by rfl) rfl
set_option maxRecDepth 20000 in
theorem gm_X8_77 : GoodIn GW (wsV RX8 77 RX8 yX8_isReduced (gws yX8_isReduced cX8_isReduced 5 (some .boolean))) := good_V (gw_in 745 (by rfl) rfl) (gw_in 747 (by rfl) rfl) (gw_in 21 (by rfl) rfl) (gw_in 39 (by rfl) rfl) cw_X8_isReduced
set_option maxRecDepth 20000 in
theorem cw_X8_inverse : Cond.code yX8_inverse cX8_inverse 2 (some .int) ∈ GW := gw_in 751 (by rfl) rfl
set_option maxRecDepth 20000 in
theorem gm_X8_81 : GoodIn GW (va_wsS RX8 81 yX8_inverse (gws yX8_inverse cX8_inverse 2 (some .int))) := good_S (gw_in 749 (by rfl) rfl) (gw_in 750 (by rfl) rfl) (gw_in 39 (by rfl) rfl) cw_X8_inverse
set_option maxRecDepth 20000 in
theorem cw_X8_packet : Cond.code yX8_packet cX8_packet 12 (some .int) ∈ GW := gw_in 755 (by rfl) rfl
set_option maxRecDepth 20000 in
theorem gm_X8_99 : GoodIn GW (wsV RX8 99 RX8 yX8_packet (gws yX8_packet cX8_packet 12 (some .int))) := good_V (gw_in 752 (by rfl) rfl) (gw_in 754 (by rfl) rfl) (gw_in 22 (by rfl) rfl) (gw_in 39 (by rfl) rfl) cw_X8_packet
set_option maxRecDepth 20000 in
theorem cw_X8_chance : Cond.code yX8_chance cX8_chance 6 (some .int) ∈ GW := gw_in 759 (by rfl) rfl
set_option maxRecDepth 20000 in
theorem gm_X8_64 : GoodIn GW (va_wsS RX8 64 yX8_chance (gws yX8_chance cX8_chance 6 (some .int))) := good_S (gw_in 757 (by rfl) rfl) (gw_in 758 (by rfl) rfl) (gw_in 39 (by rfl) rfl) cw_X8_chance
set_option maxRecDepth 20000 in
theorem cw_X8_degree : Cond.code yX8_degree cX8_degree 1 (some .int) ∈ GW := gw_in 765 (by rfl) rfl
set_option maxRecDepth 20000 in
theorem gm_X8_68 : GoodIn GW (va_wsS RX8 68 yX8_degree (gws yX8_degree cX8_degree 1 (some .int))) := good_S (gw_in 763 (by rfl) rfl) (gw_in 764 (by rfl) rfl) (gw_in 39 (by rfl) rfl) cw_X8_degree
set_option maxRecDepth 20000 in
theorem cw_X8_prime : Cond.code yX8_prime cX8_prime 4 (some .int) ∈ GW := gw_in 768 (by rfl) rfl
set_option maxRecDepth 20000 in
theorem gm_X8_71 : GoodIn GW (va_wsS RX8 71 yX8_prime (gws yX8_prime cX8_prime 4 (some .int))) := good_S (gw_in 766 (by rfl) rfl) (gw_in 767 (by rfl) rfl) (gw_in 39 (by rfl) rfl) cw_X8_prime
set_option maxRecDepth 20000 in
theorem cw_X8_block : Cond.code yX8_block cX8_block 7 none ∈ GW := gw_in 772 (by rfl) rfl
set_option maxRecDepth 20000 in
theorem gm_L_92 : GoodIn GW (wsV RL 92 RX8 yX8_block (gws yX8_block cX8_block 7 none)) := good_V (gw_in 769 (by rfl) rfl) (gw_in 770 (by rfl) rfl) (gw_in 771 (by rfl) rfl) (gw_in 39 (by rfl) rfl) cw_X8_block
set_option maxRecDepth 20000 in
theorem cw_X8_isT : Cond.code yX8_isT cX8_isT 1 (some .boolean) ∈ GW := gw_in 775 (by rfl) rfl
set_option maxRecDepth 20000 in
theorem gm_X8_113 : GoodIn GW (va_wsS RX8 113 yX8_isT (gws yX8_isT cX8_isT 1 (some .boolean))) := good_S (gw_in 773 (by rfl) rfl) (gw_in 774 (by rfl) rfl) (gw_in 39 (by rfl) rfl) cw_X8_isT
set_option maxRecDepth 20000 in
theorem cw_X8_byteAt : Cond.code yX8_byteAt cX8_byteAt 3 (some .int) ∈ GW := gw_in 779 (by rfl) rfl
set_option maxRecDepth 20000 in
theorem gm_L_96 : GoodIn GW (wsV RL 96 RX8 yX8_byteAt (gws yX8_byteAt cX8_byteAt 3 (some .int))) := good_V (gw_in 776 (by rfl) rfl) (gw_in 777 (by rfl) rfl) (gw_in 778 (by rfl) rfl) (gw_in 39 (by rfl) rfl) cw_X8_byteAt
set_option maxRecDepth 20000 in
theorem cw_X8_isPacket : Cond.code yX8_isPacket cX8_isPacket 1 (some .boolean) ∈ GW := gw_in 782 (by rfl) rfl
set_option maxRecDepth 20000 in
theorem gm_X8_123 : GoodIn GW (va_wsS RX8 123 yX8_isPacket (gws yX8_isPacket cX8_isPacket 1 (some .boolean))) := good_S (gw_in 780 (by rfl) rfl) (gw_in 781 (by rfl) rfl) (gw_in 39 (by rfl) rfl) cw_X8_isPacket
set_option maxRecDepth 20000 in
theorem cw_X8_summed : Cond.code yX8_summed cX8_summed 4 (some .int) ∈ GW := gw_in 787 (by rfl) rfl
set_option maxRecDepth 20000 in
theorem gm_X8_126 : GoodIn GW (wsV RX8 126 RX8 yX8_summed (gws yX8_summed cX8_summed 4 (some .int))) := good_V (gw_in 784 (by rfl) rfl) (gw_in 786 (by rfl) rfl) (gw_in 23 (by rfl) rfl) (gw_in 39 (by rfl) rfl) cw_X8_summed
set_option maxRecDepth 20000 in
theorem cw_X8_row : Cond.code yX8_row cX8_row 6 (some .int) ∈ GW := gw_in 791 (by rfl) rfl
set_option maxRecDepth 20000 in
theorem gm_L_100 : GoodIn GW (wsV RL 100 RX8 yX8_row (gws yX8_row cX8_row 6 (some .int))) := good_V (gw_in 788 (by rfl) rfl) (gw_in 789 (by rfl) rfl) (gw_in 790 (by rfl) rfl) (gw_in 39 (by rfl) rfl) cw_X8_row
set_option maxRecDepth 20000 in
theorem cw_X8_open : Cond.code yX8_open cX8_open 3 none ∈ GW := gw_in 795 (by rfl) rfl
set_option maxRecDepth 20000 in
theorem gm_L_103 : GoodIn GW (wsV RL 103 RX8 yX8_open (gws yX8_open cX8_open 3 none)) := good_V (gw_in 792 (by rfl) rfl) (gw_in 793 (by rfl) rfl) (gw_in 794 (by rfl) rfl) (gw_in 39 (by rfl) rfl) cw_X8_open
set_option maxRecDepth 20000 in
theorem cw_X8_take : Cond.code yX8_take cX8_take 3 (some .boolean) ∈ GW := gw_in 799 (by rfl) rfl
set_option maxRecDepth 20000 in
theorem gm_L_106 : GoodIn GW (wsV RL 106 RX8 yX8_take (gws yX8_take cX8_take 3 (some .boolean))) := good_V (gw_in 796 (by rfl) rfl) (gw_in 797 (by rfl) rfl) (gw_in 798 (by rfl) rfl) (gw_in 39 (by rfl) rfl) cw_X8_take
set_option maxRecDepth 20000 in
theorem cw_X8_isSame : Cond.code yX8_isSame cX8_isSame 1 (some .boolean) ∈ GW := gw_in 803 (by rfl) rfl
set_option maxRecDepth 20000 in
theorem gm_X8_147 : GoodIn GW (wsV RX8 147 RX8 yX8_isSame (gws yX8_isSame cX8_isSame 1 (some .boolean))) := good_V (gw_in 800 (by rfl) rfl) (gw_in 802 (by rfl) rfl) (gw_in 24 (by rfl) rfl) (gw_in 39 (by rfl) rfl) cw_X8_isSame
set_option maxRecDepth 20000 in
theorem cw_X8_taken : Cond.code yX8_taken cX8_taken 3 (some .int) ∈ GW := gw_in 807 (by rfl) rfl
set_option maxRecDepth 20000 in
theorem gm_X8_151 : GoodIn GW (wsV RX8 151 RX8 yX8_taken (gws yX8_taken cX8_taken 3 (some .int))) := good_V (gw_in 804 (by rfl) rfl) (gw_in 806 (by rfl) rfl) (gw_in 25 (by rfl) rfl) (gw_in 39 (by rfl) rfl) cw_X8_taken
set_option maxRecDepth 20000 in
theorem cw_X8_comes : Cond.code yX8_comes cX8_comes 3 (some .int) ∈ GW := gw_in 811 (by rfl) rfl
set_option maxRecDepth 20000 in
theorem gm_X8_144 : GoodIn GW (wsV RX8 144 RX8 yX8_comes (gws yX8_comes cX8_comes 3 (some .int))) := good_V (gw_in 808 (by rfl) rfl) (gw_in 810 (by rfl) rfl) (gw_in 26 (by rfl) rfl) (gw_in 39 (by rfl) rfl) cw_X8_comes
set_option maxRecDepth 20000 in
theorem cw_X8_gather : Cond.code yX8_gather cX8_gather 3 none ∈ GW := gw_in 815 (by rfl) rfl
set_option maxRecDepth 20000 in
theorem gm_X8_141 : GoodIn GW (wsV RX8 141 RX8 yX8_gather (gws yX8_gather cX8_gather 3 none)) := good_V (gw_in 812 (by rfl) rfl) (gw_in 814 (by rfl) rfl) (gw_in 27 (by rfl) rfl) (gw_in 39 (by rfl) rfl) cw_X8_gather
set_option maxRecDepth 20000 in
theorem cw_X8_takeAll : Cond.code yX8_takeAll cX8_takeAll 8 (some .int) ∈ GW := gw_in 819 (by rfl) rfl
set_option maxRecDepth 20000 in
theorem gm_L_110 : GoodIn GW (wsV RL 110 RX8 yX8_takeAll (gws yX8_takeAll cX8_takeAll 8 (some .int))) := good_V (gw_in 816 (by rfl) rfl) (gw_in 817 (by rfl) rfl) (gw_in 818 (by rfl) rfl) (gw_in 39 (by rfl) rfl) cw_X8_takeAll
set_option maxRecDepth 20000 in
theorem cw_X8_give : Cond.code yX8_give cX8_give 3 (some .boolean) ∈ GW := gw_in 824 (by rfl) rfl
set_option maxRecDepth 20000 in
theorem gm_L_113 : GoodIn GW (wsV RL 113 RX8 yX8_give (gws yX8_give cX8_give 3 (some .boolean))) := good_V (gw_in 821 (by rfl) rfl) (gw_in 822 (by rfl) rfl) (gw_in 823 (by rfl) rfl) (gw_in 39 (by rfl) rfl) cw_X8_give
set_option maxRecDepth 20000 in
theorem cw_X8_rank : Cond.code yX8_rank cX8_rank 1 (some .int) ∈ GW := gw_in 828 (by rfl) rfl
set_option maxRecDepth 20000 in
theorem gm_L_117 : GoodIn GW (wsV RL 117 RX8 yX8_rank (gws yX8_rank cX8_rank 1 (some .int))) := good_V (gw_in 825 (by rfl) rfl) (gw_in 826 (by rfl) rfl) (gw_in 827 (by rfl) rfl) (gw_in 39 (by rfl) rfl) cw_X8_rank
set_option maxRecDepth 20000 in
theorem cw_X8_follows : Cond.code yX8_follows cX8_follows 2 (some .boolean) ∈ GW := gw_in 832 (by rfl) rfl
set_option maxRecDepth 20000 in
theorem gm_L_120 : GoodIn GW (wsV RL 120 RX8 yX8_follows (gws yX8_follows cX8_follows 2 (some .boolean))) := good_V (gw_in 829 (by rfl) rfl) (gw_in 830 (by rfl) rfl) (gw_in 831 (by rfl) rfl) (gw_in 39 (by rfl) rfl) cw_X8_follows
set_option maxRecDepth 20000 in
theorem cw_X8_isKnown : Cond.code yX8_isKnown cX8_isKnown 2 (some .boolean) ∈ GW := gw_in 836 (by rfl) rfl
set_option maxRecDepth 20000 in
theorem gm_X8_155 : GoodIn GW (wsV RX8 155 RX8 yX8_isKnown (gws yX8_isKnown cX8_isKnown 2 (some .boolean))) := good_V (gw_in 833 (by rfl) rfl) (gw_in 835 (by rfl) rfl) (gw_in 28 (by rfl) rfl) (gw_in 39 (by rfl) rfl) cw_X8_isKnown
set_option maxRecDepth 20000 in
theorem cw_X8_known : Cond.code yX8_known cX8_known 3 (some .int) ∈ GW := gw_in 840 (by rfl) rfl
set_option maxRecDepth 20000 in
theorem gm_L_123 : GoodIn GW (wsV RL 123 RX8 yX8_known (gws yX8_known cX8_known 3 (some .int))) := good_V (gw_in 837 (by rfl) rfl) (gw_in 838 (by rfl) rfl) (gw_in 839 (by rfl) rfl) (gw_in 39 (by rfl) rfl) cw_X8_known
set_option maxRecDepth 20000 in
theorem cw_X8_product : Cond.code yX8_product cX8_product 3 (some .int) ∈ GW := gw_in 844 (by rfl) rfl
set_option maxRecDepth 20000 in
theorem gm_L_127 : GoodIn GW (wsV RL 127 RX8 yX8_product (gws yX8_product cX8_product 3 (some .int))) := good_V (gw_in 841 (by rfl) rfl) (gw_in 842 (by rfl) rfl) (gw_in 843 (by rfl) rfl) (gw_in 39 (by rfl) rfl) cw_X8_product
set_option maxRecDepth 20000 in
theorem cw_X8_count : Cond.code yX8_count cX8_count 4 (some .int) ∈ GW := gw_in 848 (by rfl) rfl
set_option maxRecDepth 20000 in
theorem gm_L_130 : GoodIn GW (wsV RL 130 RX8 yX8_count (gws yX8_count cX8_count 4 (some .int))) := good_V (gw_in 845 (by rfl) rfl) (gw_in 846 (by rfl) rfl) (gw_in 847 (by rfl) rfl) (gw_in 39 (by rfl) rfl) cw_X8_count
theorem cd_J7_fill_53178 : yJ7_fill_53178.cls = RJ7 ∧ yJ7_fill_53178.cls ≠ "java/lang/invoke/MethodHandle" ∧ yJ7_fill_53178.cls ≠ "java/lang/invoke/VarHandle" ∧ (parseMethodDescriptor yJ7_fill_53178.desc).map (fun d => d.parameters.length) = some 2 := by decide +kernel
theorem cd_J9_floorMod_7cf53 : yJ9_floorMod_7cf53.cls = RJ9 ∧ yJ9_floorMod_7cf53.cls ≠ "java/lang/invoke/MethodHandle" ∧ yJ9_floorMod_7cf53.cls ≠ "java/lang/invoke/VarHandle" ∧ (parseMethodDescriptor yJ9_floorMod_7cf53.desc).map (fun d => d.parameters.length) = some 2 := by decide +kernel
theorem cd_J9_max_7cf53 : yJ9_max_7cf53.cls = RJ9 ∧ yJ9_max_7cf53.cls ≠ "java/lang/invoke/MethodHandle" ∧ yJ9_max_7cf53.cls ≠ "java/lang/invoke/VarHandle" ∧ (parseMethodDescriptor yJ9_max_7cf53.desc).map (fun d => d.parameters.length) = some 2 := by decide +kernel
theorem cd_J9_min_7cf53 : yJ9_min_7cf53.cls = RJ9 ∧ yJ9_min_7cf53.cls ≠ "java/lang/invoke/MethodHandle" ∧ yJ9_min_7cf53.cls ≠ "java/lang/invoke/VarHandle" ∧ (parseMethodDescriptor yJ9_min_7cf53.desc).map (fun d => d.parameters.length) = some 2 := by decide +kernel
theorem cd_L_block : yL_block.cls = RL ∧ yL_block.cls ≠ "java/lang/invoke/MethodHandle" ∧ yL_block.cls ≠ "java/lang/invoke/VarHandle" ∧ (parseMethodDescriptor yL_block.desc).map (fun d => d.parameters.length) = some 3 := by decide +kernel
theorem cd_L_byteAt : yL_byteAt.cls = RL ∧ yL_byteAt.cls ≠ "java/lang/invoke/MethodHandle" ∧ yL_byteAt.cls ≠ "java/lang/invoke/VarHandle" ∧ (parseMethodDescriptor yL_byteAt.desc).map (fun d => d.parameters.length) = some 4 := by decide +kernel
theorem cd_L_count : yL_count.cls = RL ∧ yL_count.cls ≠ "java/lang/invoke/MethodHandle" ∧ yL_count.cls ≠ "java/lang/invoke/VarHandle" ∧ (parseMethodDescriptor yL_count.desc).map (fun d => d.parameters.length) = some 3 := by decide +kernel
theorem cd_L_end : yL_end.cls = RL ∧ yL_end.cls ≠ "java/lang/invoke/MethodHandle" ∧ yL_end.cls ≠ "java/lang/invoke/VarHandle" ∧ (parseMethodDescriptor yL_end.desc).map (fun d => d.parameters.length) = some 2 := by decide +kernel
theorem cd_L_feed : yL_feed.cls = RL ∧ yL_feed.cls ≠ "java/lang/invoke/MethodHandle" ∧ yL_feed.cls ≠ "java/lang/invoke/VarHandle" ∧ (parseMethodDescriptor yL_feed.desc).map (fun d => d.parameters.length) = some 7 := by decide +kernel
theorem cd_L_follows : yL_follows.cls = RL ∧ yL_follows.cls ≠ "java/lang/invoke/MethodHandle" ∧ yL_follows.cls ≠ "java/lang/invoke/VarHandle" ∧ (parseMethodDescriptor yL_follows.desc).map (fun d => d.parameters.length) = some 3 := by decide +kernel
theorem cd_L_give : yL_give.cls = RL ∧ yL_give.cls ≠ "java/lang/invoke/MethodHandle" ∧ yL_give.cls ≠ "java/lang/invoke/VarHandle" ∧ (parseMethodDescriptor yL_give.desc).map (fun d => d.parameters.length) = some 3 := by decide +kernel
theorem cd_L_known : yL_known.cls = RL ∧ yL_known.cls ≠ "java/lang/invoke/MethodHandle" ∧ yL_known.cls ≠ "java/lang/invoke/VarHandle" ∧ (parseMethodDescriptor yL_known.desc).map (fun d => d.parameters.length) = some 4 := by decide +kernel
theorem cd_L_open : yL_open.cls = RL ∧ yL_open.cls ≠ "java/lang/invoke/MethodHandle" ∧ yL_open.cls ≠ "java/lang/invoke/VarHandle" ∧ (parseMethodDescriptor yL_open.desc).map (fun d => d.parameters.length) = some 3 := by decide +kernel
theorem cd_L_rank : yL_rank.cls = RL ∧ yL_rank.cls ≠ "java/lang/invoke/MethodHandle" ∧ yL_rank.cls ≠ "java/lang/invoke/VarHandle" ∧ (parseMethodDescriptor yL_rank.desc).map (fun d => d.parameters.length) = some 2 := by decide +kernel
theorem cd_L_row : yL_row.cls = RL ∧ yL_row.cls ≠ "java/lang/invoke/MethodHandle" ∧ yL_row.cls ≠ "java/lang/invoke/VarHandle" ∧ (parseMethodDescriptor yL_row.desc).map (fun d => d.parameters.length) = some 5 := by decide +kernel
theorem cd_L_take : yL_take.cls = RL ∧ yL_take.cls ≠ "java/lang/invoke/MethodHandle" ∧ yL_take.cls ≠ "java/lang/invoke/VarHandle" ∧ (parseMethodDescriptor yL_take.desc).map (fun d => d.parameters.length) = some 3 := by decide +kernel
theorem cd_L_takeAll : yL_takeAll.cls = RL ∧ yL_takeAll.cls ≠ "java/lang/invoke/MethodHandle" ∧ yL_takeAll.cls ≠ "java/lang/invoke/VarHandle" ∧ (parseMethodDescriptor yL_takeAll.desc).map (fun d => d.parameters.length) = some 5 := by decide +kernel
theorem cd_L_turn : yL_turn.cls = RL ∧ yL_turn.cls ≠ "java/lang/invoke/MethodHandle" ∧ yL_turn.cls ≠ "java/lang/invoke/VarHandle" ∧ (parseMethodDescriptor yL_turn.desc).map (fun d => d.parameters.length) = some 3 := by decide +kernel
theorem cd_X0_init : yX0_init.cls = RX0 ∧ yX0_init.cls ≠ "java/lang/invoke/MethodHandle" ∧ yX0_init.cls ≠ "java/lang/invoke/VarHandle" ∧ (parseMethodDescriptor yX0_init.desc).map (fun d => d.parameters.length) = some 0 := by decide +kernel
theorem cd_X0_load : yX0_load.cls = RX0 ∧ yX0_load.cls ≠ "java/lang/invoke/MethodHandle" ∧ yX0_load.cls ≠ "java/lang/invoke/VarHandle" ∧ (parseMethodDescriptor yX0_load.desc).map (fun d => d.parameters.length) = some 3 := by decide +kernel
theorem cd_X0_valueOf : yX0_valueOf.cls = RX0 ∧ yX0_valueOf.cls ≠ "java/lang/invoke/MethodHandle" ∧ yX0_valueOf.cls ≠ "java/lang/invoke/VarHandle" ∧ (parseMethodDescriptor yX0_valueOf.desc).map (fun d => d.parameters.length) = some 2 := by decide +kernel
theorem cd_X1_begin : yX1_begin.cls = RX1 ∧ yX1_begin.cls ≠ "java/lang/invoke/MethodHandle" ∧ yX1_begin.cls ≠ "java/lang/invoke/VarHandle" ∧ (parseMethodDescriptor yX1_begin.desc).map (fun d => d.parameters.length) = some 3 := by decide +kernel
theorem cd_X1_catchLine : yX1_catchLine.cls = RX1 ∧ yX1_catchLine.cls ≠ "java/lang/invoke/MethodHandle" ∧ yX1_catchLine.cls ≠ "java/lang/invoke/VarHandle" ∧ (parseMethodDescriptor yX1_catchLine.desc).map (fun d => d.parameters.length) = some 0 := by decide +kernel
theorem cd_X1_init : yX1_init.cls = RX1 ∧ yX1_init.cls ≠ "java/lang/invoke/MethodHandle" ∧ yX1_init.cls ≠ "java/lang/invoke/VarHandle" ∧ (parseMethodDescriptor yX1_init.desc).map (fun d => d.parameters.length) = some 1 := by decide +kernel
theorem cd_X2_derive : yX2_derive.cls = RX2 ∧ yX2_derive.cls ≠ "java/lang/invoke/MethodHandle" ∧ yX2_derive.cls ≠ "java/lang/invoke/VarHandle" ∧ (parseMethodDescriptor yX2_derive.desc).map (fun d => d.parameters.length) = some 1 := by decide +kernel
theorem cd_X2_derivedValue : yX2_derivedValue.cls = RX2 ∧ yX2_derivedValue.cls ≠ "java/lang/invoke/MethodHandle" ∧ yX2_derivedValue.cls ≠ "java/lang/invoke/VarHandle" ∧ (parseMethodDescriptor yX2_derivedValue.desc).map (fun d => d.parameters.length) = some 1 := by decide +kernel
theorem cd_X2_hasValueLeft : yX2_hasValueLeft.cls = RX2 ∧ yX2_hasValueLeft.cls ≠ "java/lang/invoke/MethodHandle" ∧ yX2_hasValueLeft.cls ≠ "java/lang/invoke/VarHandle" ∧ (parseMethodDescriptor yX2_hasValueLeft.desc).map (fun d => d.parameters.length) = some 0 := by decide +kernel
theorem cd_X2_init : yX2_init.cls = RX2 ∧ yX2_init.cls ≠ "java/lang/invoke/MethodHandle" ∧ yX2_init.cls ≠ "java/lang/invoke/VarHandle" ∧ (parseMethodDescriptor yX2_init.desc).map (fun d => d.parameters.length) = some 1 := by decide +kernel
theorem cd_X2_keepLine : yX2_keepLine.cls = RX2 ∧ yX2_keepLine.cls ≠ "java/lang/invoke/MethodHandle" ∧ yX2_keepLine.cls ≠ "java/lang/invoke/VarHandle" ∧ (parseMethodDescriptor yX2_keepLine.desc).map (fun d => d.parameters.length) = some 1 := by decide +kernel
theorem cd_X2_learn : yX2_learn.cls = RX2 ∧ yX2_learn.cls ≠ "java/lang/invoke/MethodHandle" ∧ yX2_learn.cls ≠ "java/lang/invoke/VarHandle" ∧ (parseMethodDescriptor yX2_learn.desc).map (fun d => d.parameters.length) = some 0 := by decide +kernel
theorem cd_X2_lineLead : yX2_lineLead.cls = RX2 ∧ yX2_lineLead.cls ≠ "java/lang/invoke/MethodHandle" ∧ yX2_lineLead.cls ≠ "java/lang/invoke/VarHandle" ∧ (parseMethodDescriptor yX2_lineLead.desc).map (fun d => d.parameters.length) = some 0 := by decide +kernel
theorem cd_X2_reduceLine : yX2_reduceLine.cls = RX2 ∧ yX2_reduceLine.cls ≠ "java/lang/invoke/MethodHandle" ∧ yX2_reduceLine.cls ≠ "java/lang/invoke/VarHandle" ∧ (parseMethodDescriptor yX2_reduceLine.desc).map (fun d => d.parameters.length) = some 0 := by decide +kernel
theorem cd_X2_setLine : yX2_setLine.cls = RX2 ∧ yX2_setLine.cls ≠ "java/lang/invoke/MethodHandle" ∧ yX2_setLine.cls ≠ "java/lang/invoke/VarHandle" ∧ (parseMethodDescriptor yX2_setLine.desc).map (fun d => d.parameters.length) = some 1 := by decide +kernel
theorem cd_X2_setPowerLine : yX2_setPowerLine.cls = RX2 ∧ yX2_setPowerLine.cls ≠ "java/lang/invoke/MethodHandle" ∧ yX2_setPowerLine.cls ≠ "java/lang/invoke/VarHandle" ∧ (parseMethodDescriptor yX2_setPowerLine.desc).map (fun d => d.parameters.length) = some 2 := by decide +kernel
theorem cd_X2_setSumLine : yX2_setSumLine.cls = RX2 ∧ yX2_setSumLine.cls ≠ "java/lang/invoke/MethodHandle" ∧ yX2_setSumLine.cls ≠ "java/lang/invoke/VarHandle" ∧ (parseMethodDescriptor yX2_setSumLine.desc).map (fun d => d.parameters.length) = some 2 := by decide +kernel
theorem cd_X2_setValue : yX2_setValue.cls = RX2 ∧ yX2_setValue.cls ≠ "java/lang/invoke/MethodHandle" ∧ yX2_setValue.cls ≠ "java/lang/invoke/VarHandle" ∧ (parseMethodDescriptor yX2_setValue.desc).map (fun d => d.parameters.length) = some 2 := by decide +kernel
theorem cd_X2_start : yX2_start.cls = RX2 ∧ yX2_start.cls ≠ "java/lang/invoke/MethodHandle" ∧ yX2_start.cls ≠ "java/lang/invoke/VarHandle" ∧ (parseMethodDescriptor yX2_start.desc).map (fun d => d.parameters.length) = some 2 := by decide +kernel
theorem cd_X3_addTimes : yX3_addTimes.cls = RX3 ∧ yX3_addTimes.cls ≠ "java/lang/invoke/MethodHandle" ∧ yX3_addTimes.cls ≠ "java/lang/invoke/VarHandle" ∧ (parseMethodDescriptor yX3_addTimes.desc).map (fun d => d.parameters.length) = some 4 := by decide +kernel
theorem cd_X3_init : yX3_init.cls = RX3 ∧ yX3_init.cls ≠ "java/lang/invoke/MethodHandle" ∧ yX3_init.cls ≠ "java/lang/invoke/VarHandle" ∧ (parseMethodDescriptor yX3_init.desc).map (fun d => d.parameters.length) = some 0 := by decide +kernel
theorem cd_X3_inverse : yX3_inverse.cls = RX3 ∧ yX3_inverse.cls ≠ "java/lang/invoke/MethodHandle" ∧ yX3_inverse.cls ≠ "java/lang/invoke/VarHandle" ∧ (parseMethodDescriptor yX3_inverse.desc).map (fun d => d.parameters.length) = some 1 := by decide +kernel
theorem cd_X3_powerOfTwo : yX3_powerOfTwo.cls = RX3 ∧ yX3_powerOfTwo.cls ≠ "java/lang/invoke/MethodHandle" ∧ yX3_powerOfTwo.cls ≠ "java/lang/invoke/VarHandle" ∧ (parseMethodDescriptor yX3_powerOfTwo.desc).map (fun d => d.parameters.length) = some 1 := by decide +kernel
theorem cd_X3_times : yX3_times.cls = RX3 ∧ yX3_times.cls ≠ "java/lang/invoke/MethodHandle" ∧ yX3_times.cls ≠ "java/lang/invoke/VarHandle" ∧ (parseMethodDescriptor yX3_times.desc).map (fun d => d.parameters.length) = some 2 := by decide +kernel
theorem cd_X4_chance : yX4_chance.cls = RX4 ∧ yX4_chance.cls ≠ "java/lang/invoke/MethodHandle" ∧ yX4_chance.cls ≠ "java/lang/invoke/VarHandle" ∧ (parseMethodDescriptor yX4_chance.desc).map (fun d => d.parameters.length) = some 3 := by decide +kernel
theorem cd_X4_find : yX4_find.cls = RX4 ∧ yX4_find.cls ≠ "java/lang/invoke/MethodHandle" ∧ yX4_find.cls ≠ "java/lang/invoke/VarHandle" ∧ (parseMethodDescriptor yX4_find.desc).map (fun d => d.parameters.length) = some 3 := by decide +kernel
theorem cd_X4_greatest : yX4_greatest.cls = RX4 ∧ yX4_greatest.cls ≠ "java/lang/invoke/MethodHandle" ∧ yX4_greatest.cls ≠ "java/lang/invoke/VarHandle" ∧ (parseMethodDescriptor yX4_greatest.desc).map (fun d => d.parameters.length) = some 0 := by decide +kernel
theorem cd_X4_init : yX4_init.cls = RX4 ∧ yX4_init.cls ≠ "java/lang/invoke/MethodHandle" ∧ yX4_init.cls ≠ "java/lang/invoke/VarHandle" ∧ (parseMethodDescriptor yX4_init.desc).map (fun d => d.parameters.length) = some 0 := by decide +kernel
theorem cd_X4_isPrime : yX4_isPrime.cls = RX4 ∧ yX4_isPrime.cls ≠ "java/lang/invoke/MethodHandle" ∧ yX4_isPrime.cls ≠ "java/lang/invoke/VarHandle" ∧ (parseMethodDescriptor yX4_isPrime.desc).map (fun d => d.parameters.length) = some 1 := by decide +kernel
theorem cd_X4_leastPrimeFrom : yX4_leastPrimeFrom.cls = RX4 ∧ yX4_leastPrimeFrom.cls ≠ "java/lang/invoke/MethodHandle" ∧ yX4_leastPrimeFrom.cls ≠ "java/lang/invoke/VarHandle" ∧ (parseMethodDescriptor yX4_leastPrimeFrom.desc).map (fun d => d.parameters.length) = some 1 := by decide +kernel
theorem cd_X4_mix : yX4_mix.cls = RX4 ∧ yX4_mix.cls ≠ "java/lang/invoke/MethodHandle" ∧ yX4_mix.cls ≠ "java/lang/invoke/VarHandle" ∧ (parseMethodDescriptor yX4_mix.desc).map (fun d => d.parameters.length) = some 2 := by decide +kernel
theorem cd_X4_sizeFor : yX4_sizeFor.cls = RX4 ∧ yX4_sizeFor.cls ≠ "java/lang/invoke/MethodHandle" ∧ yX4_sizeFor.cls ≠ "java/lang/invoke/VarHandle" ∧ (parseMethodDescriptor yX4_sizeFor.desc).map (fun d => d.parameters.length) = some 1 := by decide +kernel
theorem cd_X5_append : yX5_append.cls = RX5 ∧ yX5_append.cls ≠ "java/lang/invoke/MethodHandle" ∧ yX5_append.cls ≠ "java/lang/invoke/VarHandle" ∧ (parseMethodDescriptor yX5_append.desc).map (fun d => d.parameters.length) = some 1 := by decide +kernel
theorem cd_X5_hasRoom : yX5_hasRoom.cls = RX5 ∧ yX5_hasRoom.cls ≠ "java/lang/invoke/MethodHandle" ∧ yX5_hasRoom.cls ≠ "java/lang/invoke/VarHandle" ∧ (parseMethodDescriptor yX5_hasRoom.desc).map (fun d => d.parameters.length) = some 1 := by decide +kernel
theorem cd_X5_init : yX5_init.cls = RX5 ∧ yX5_init.cls ≠ "java/lang/invoke/MethodHandle" ∧ yX5_init.cls ≠ "java/lang/invoke/VarHandle" ∧ (parseMethodDescriptor yX5_init.desc).map (fun d => d.parameters.length) = some 0 := by decide +kernel
theorem cd_X6_fillsRank : yX6_fillsRank.cls = RX6 ∧ yX6_fillsRank.cls ≠ "java/lang/invoke/MethodHandle" ∧ yX6_fillsRank.cls ≠ "java/lang/invoke/VarHandle" ∧ (parseMethodDescriptor yX6_fillsRank.desc).map (fun d => d.parameters.length) = some 2 := by decide +kernel
theorem cd_X6_init : yX6_init.cls = RX6 ∧ yX6_init.cls ≠ "java/lang/invoke/MethodHandle" ∧ yX6_init.cls ≠ "java/lang/invoke/VarHandle" ∧ (parseMethodDescriptor yX6_init.desc).map (fun d => d.parameters.length) = some 2 := by decide +kernel
theorem cd_X6_of : yX6_of.cls = RX6 ∧ yX6_of.cls ≠ "java/lang/invoke/MethodHandle" ∧ yX6_of.cls ≠ "java/lang/invoke/VarHandle" ∧ (parseMethodDescriptor yX6_of.desc).map (fun d => d.parameters.length) = some 1 := by decide +kernel
theorem cd_X7_block : yX7_block.cls = RX7 ∧ yX7_block.cls ≠ "java/lang/invoke/MethodHandle" ∧ yX7_block.cls ≠ "java/lang/invoke/VarHandle" ∧ (parseMethodDescriptor yX7_block.desc).map (fun d => d.parameters.length) = some 2 := by decide +kernel
theorem cd_X7_blockFitsCatcher : yX7_blockFitsCatcher.cls = RX7 ∧ yX7_blockFitsCatcher.cls ≠ "java/lang/invoke/MethodHandle" ∧ yX7_blockFitsCatcher.cls ≠ "java/lang/invoke/VarHandle" ∧ (parseMethodDescriptor yX7_blockFitsCatcher.desc).map (fun d => d.parameters.length) = some 0 := by decide +kernel
theorem cd_X7_byteAt : yX7_byteAt.cls = RX7 ∧ yX7_byteAt.cls ≠ "java/lang/invoke/MethodHandle" ∧ yX7_byteAt.cls ≠ "java/lang/invoke/VarHandle" ∧ (parseMethodDescriptor yX7_byteAt.desc).map (fun d => d.parameters.length) = some 2 := by decide +kernel
theorem cd_X7_catchFromBlock : yX7_catchFromBlock.cls = RX7 ∧ yX7_catchFromBlock.cls ≠ "java/lang/invoke/MethodHandle" ∧ yX7_catchFromBlock.cls ≠ "java/lang/invoke/VarHandle" ∧ (parseMethodDescriptor yX7_catchFromBlock.desc).map (fun d => d.parameters.length) = some 1 := by decide +kernel
theorem cd_X7_catchFromTape : yX7_catchFromTape.cls = RX7 ∧ yX7_catchFromTape.cls ≠ "java/lang/invoke/MethodHandle" ∧ yX7_catchFromTape.cls ≠ "java/lang/invoke/VarHandle" ∧ (parseMethodDescriptor yX7_catchFromTape.desc).map (fun d => d.parameters.length) = some 1 := by decide +kernel
theorem cd_X7_catcherDerives : yX7_catcherDerives.cls = RX7 ∧ yX7_catcherDerives.cls ≠ "java/lang/invoke/MethodHandle" ∧ yX7_catcherDerives.cls ≠ "java/lang/invoke/VarHandle" ∧ (parseMethodDescriptor yX7_catcherDerives.desc).map (fun d => d.parameters.length) = some 1 := by decide +kernel
theorem cd_X7_count : yX7_count.cls = RX7 ∧ yX7_count.cls ≠ "java/lang/invoke/MethodHandle" ∧ yX7_count.cls ≠ "java/lang/invoke/VarHandle" ∧ (parseMethodDescriptor yX7_count.desc).map (fun d => d.parameters.length) = some 1 := by decide +kernel
theorem cd_X7_end : yX7_end.cls = RX7 ∧ yX7_end.cls ≠ "java/lang/invoke/MethodHandle" ∧ yX7_end.cls ≠ "java/lang/invoke/VarHandle" ∧ (parseMethodDescriptor yX7_end.desc).map (fun d => d.parameters.length) = some 1 := by decide +kernel
theorem cd_X7_feed : yX7_feed.cls = RX7 ∧ yX7_feed.cls ≠ "java/lang/invoke/MethodHandle" ∧ yX7_feed.cls ≠ "java/lang/invoke/VarHandle" ∧ (parseMethodDescriptor yX7_feed.desc).map (fun d => d.parameters.length) = some 5 := by decide +kernel
theorem cd_X7_follows : yX7_follows.cls = RX7 ∧ yX7_follows.cls ≠ "java/lang/invoke/MethodHandle" ∧ yX7_follows.cls ≠ "java/lang/invoke/VarHandle" ∧ (parseMethodDescriptor yX7_follows.desc).map (fun d => d.parameters.length) = some 1 := by decide +kernel
theorem cd_X7_give : yX7_give.cls = RX7 ∧ yX7_give.cls ≠ "java/lang/invoke/MethodHandle" ∧ yX7_give.cls ≠ "java/lang/invoke/VarHandle" ∧ (parseMethodDescriptor yX7_give.desc).map (fun d => d.parameters.length) = some 1 := by decide +kernel
theorem cd_X7_init : yX7_init.cls = RX7 ∧ yX7_init.cls ≠ "java/lang/invoke/MethodHandle" ∧ yX7_init.cls ≠ "java/lang/invoke/VarHandle" ∧ (parseMethodDescriptor yX7_init.desc).map (fun d => d.parameters.length) = some 0 := by decide +kernel
theorem cd_X7_isByteCount : yX7_isByteCount.cls = RX7 ∧ yX7_isByteCount.cls ≠ "java/lang/invoke/MethodHandle" ∧ yX7_isByteCount.cls ≠ "java/lang/invoke/VarHandle" ∧ (parseMethodDescriptor yX7_isByteCount.desc).map (fun d => d.parameters.length) = some 1 := by decide +kernel
theorem cd_X7_isPacket : yX7_isPacket.cls = RX7 ∧ yX7_isPacket.cls ≠ "java/lang/invoke/MethodHandle" ∧ yX7_isPacket.cls ≠ "java/lang/invoke/VarHandle" ∧ (parseMethodDescriptor yX7_isPacket.desc).map (fun d => d.parameters.length) = some 1 := by decide +kernel
theorem cd_X7_isSymbolCount : yX7_isSymbolCount.cls = RX7 ∧ yX7_isSymbolCount.cls ≠ "java/lang/invoke/MethodHandle" ∧ yX7_isSymbolCount.cls ≠ "java/lang/invoke/VarHandle" ∧ (parseMethodDescriptor yX7_isSymbolCount.desc).map (fun d => d.parameters.length) = some 1 := by decide +kernel
theorem cd_X7_known : yX7_known.cls = RX7 ∧ yX7_known.cls ≠ "java/lang/invoke/MethodHandle" ∧ yX7_known.cls ≠ "java/lang/invoke/VarHandle" ∧ (parseMethodDescriptor yX7_known.desc).map (fun d => d.parameters.length) = some 2 := by decide +kernel
theorem cd_X7_open : yX7_open.cls = RX7 ∧ yX7_open.cls ≠ "java/lang/invoke/MethodHandle" ∧ yX7_open.cls ≠ "java/lang/invoke/VarHandle" ∧ (parseMethodDescriptor yX7_open.desc).map (fun d => d.parameters.length) = some 2 := by decide +kernel
theorem cd_X7_product : yX7_product.cls = RX7 ∧ yX7_product.cls ≠ "java/lang/invoke/MethodHandle" ∧ yX7_product.cls ≠ "java/lang/invoke/VarHandle" ∧ (parseMethodDescriptor yX7_product.desc).map (fun d => d.parameters.length) = some 2 := by decide +kernel
theorem cd_X7_rank : yX7_rank.cls = RX7 ∧ yX7_rank.cls ≠ "java/lang/invoke/MethodHandle" ∧ yX7_rank.cls ≠ "java/lang/invoke/VarHandle" ∧ (parseMethodDescriptor yX7_rank.desc).map (fun d => d.parameters.length) = some 0 := by decide +kernel
theorem cd_X7_row : yX7_row.cls = RX7 ∧ yX7_row.cls ≠ "java/lang/invoke/MethodHandle" ∧ yX7_row.cls ≠ "java/lang/invoke/VarHandle" ∧ (parseMethodDescriptor yX7_row.desc).map (fun d => d.parameters.length) = some 3 := by decide +kernel
theorem cd_X7_solveTape : yX7_solveTape.cls = RX7 ∧ yX7_solveTape.cls ≠ "java/lang/invoke/MethodHandle" ∧ yX7_solveTape.cls ≠ "java/lang/invoke/VarHandle" ∧ (parseMethodDescriptor yX7_solveTape.desc).map (fun d => d.parameters.length) = some 3 := by decide +kernel
theorem cd_X7_symbolsThatFollow : yX7_symbolsThatFollow.cls = RX7 ∧ yX7_symbolsThatFollow.cls ≠ "java/lang/invoke/MethodHandle" ∧ yX7_symbolsThatFollow.cls ≠ "java/lang/invoke/VarHandle" ∧ (parseMethodDescriptor yX7_symbolsThatFollow.desc).map (fun d => d.parameters.length) = some 0 := by decide +kernel
theorem cd_X7_take : yX7_take.cls = RX7 ∧ yX7_take.cls ≠ "java/lang/invoke/MethodHandle" ∧ yX7_take.cls ≠ "java/lang/invoke/VarHandle" ∧ (parseMethodDescriptor yX7_take.desc).map (fun d => d.parameters.length) = some 1 := by decide +kernel
theorem cd_X7_takeAll : yX7_takeAll.cls = RX7 ∧ yX7_takeAll.cls ≠ "java/lang/invoke/MethodHandle" ∧ yX7_takeAll.cls ≠ "java/lang/invoke/VarHandle" ∧ (parseMethodDescriptor yX7_takeAll.desc).map (fun d => d.parameters.length) = some 3 := by decide +kernel
theorem cd_X7_turn : yX7_turn.cls = RX7 ∧ yX7_turn.cls ≠ "java/lang/invoke/MethodHandle" ∧ yX7_turn.cls ≠ "java/lang/invoke/VarHandle" ∧ (parseMethodDescriptor yX7_turn.desc).map (fun d => d.parameters.length) = some 1 := by decide +kernel
theorem cd_X8_blank : yX8_blank.cls = RX8 ∧ yX8_blank.cls ≠ "java/lang/invoke/MethodHandle" ∧ yX8_blank.cls ≠ "java/lang/invoke/VarHandle" ∧ (parseMethodDescriptor yX8_blank.desc).map (fun d => d.parameters.length) = some 0 := by decide +kernel
theorem cd_X8_block : yX8_block.cls = RX8 ∧ yX8_block.cls ≠ "java/lang/invoke/MethodHandle" ∧ yX8_block.cls ≠ "java/lang/invoke/VarHandle" ∧ (parseMethodDescriptor yX8_block.desc).map (fun d => d.parameters.length) = some 2 := by decide +kernel
theorem cd_X8_byteAt : yX8_byteAt.cls = RX8 ∧ yX8_byteAt.cls ≠ "java/lang/invoke/MethodHandle" ∧ yX8_byteAt.cls ≠ "java/lang/invoke/VarHandle" ∧ (parseMethodDescriptor yX8_byteAt.desc).map (fun d => d.parameters.length) = some 2 := by decide +kernel
theorem cd_X8_chance : yX8_chance.cls = RX8 ∧ yX8_chance.cls ≠ "java/lang/invoke/MethodHandle" ∧ yX8_chance.cls ≠ "java/lang/invoke/VarHandle" ∧ (parseMethodDescriptor yX8_chance.desc).map (fun d => d.parameters.length) = some 3 := by decide +kernel
theorem cd_X8_comes : yX8_comes.cls = RX8 ∧ yX8_comes.cls ≠ "java/lang/invoke/MethodHandle" ∧ yX8_comes.cls ≠ "java/lang/invoke/VarHandle" ∧ (parseMethodDescriptor yX8_comes.desc).map (fun d => d.parameters.length) = some 1 := by decide +kernel
theorem cd_X8_count : yX8_count.cls = RX8 ∧ yX8_count.cls ≠ "java/lang/invoke/MethodHandle" ∧ yX8_count.cls ≠ "java/lang/invoke/VarHandle" ∧ (parseMethodDescriptor yX8_count.desc).map (fun d => d.parameters.length) = some 1 := by decide +kernel
theorem cd_X8_degree : yX8_degree.cls = RX8 ∧ yX8_degree.cls ≠ "java/lang/invoke/MethodHandle" ∧ yX8_degree.cls ≠ "java/lang/invoke/VarHandle" ∧ (parseMethodDescriptor yX8_degree.desc).map (fun d => d.parameters.length) = some 1 := by decide +kernel
theorem cd_X8_end : yX8_end.cls = RX8 ∧ yX8_end.cls ≠ "java/lang/invoke/MethodHandle" ∧ yX8_end.cls ≠ "java/lang/invoke/VarHandle" ∧ (parseMethodDescriptor yX8_end.desc).map (fun d => d.parameters.length) = some 1 := by decide +kernel
theorem cd_X8_feed : yX8_feed.cls = RX8 ∧ yX8_feed.cls ≠ "java/lang/invoke/MethodHandle" ∧ yX8_feed.cls ≠ "java/lang/invoke/VarHandle" ∧ (parseMethodDescriptor yX8_feed.desc).map (fun d => d.parameters.length) = some 5 := by decide +kernel
theorem cd_X8_fixed : yX8_fixed.cls = RX8 ∧ yX8_fixed.cls ≠ "java/lang/invoke/MethodHandle" ∧ yX8_fixed.cls ≠ "java/lang/invoke/VarHandle" ∧ (parseMethodDescriptor yX8_fixed.desc).map (fun d => d.parameters.length) = some 2 := by decide +kernel
theorem cd_X8_follows : yX8_follows.cls = RX8 ∧ yX8_follows.cls ≠ "java/lang/invoke/MethodHandle" ∧ yX8_follows.cls ≠ "java/lang/invoke/VarHandle" ∧ (parseMethodDescriptor yX8_follows.desc).map (fun d => d.parameters.length) = some 1 := by decide +kernel
theorem cd_X8_gather : yX8_gather.cls = RX8 ∧ yX8_gather.cls ≠ "java/lang/invoke/MethodHandle" ∧ yX8_gather.cls ≠ "java/lang/invoke/VarHandle" ∧ (parseMethodDescriptor yX8_gather.desc).map (fun d => d.parameters.length) = some 0 := by decide +kernel
theorem cd_X8_give : yX8_give.cls = RX8 ∧ yX8_give.cls ≠ "java/lang/invoke/MethodHandle" ∧ yX8_give.cls ≠ "java/lang/invoke/VarHandle" ∧ (parseMethodDescriptor yX8_give.desc).map (fun d => d.parameters.length) = some 1 := by decide +kernel
theorem cd_X8_init : yX8_init.cls = RX8 ∧ yX8_init.cls ≠ "java/lang/invoke/MethodHandle" ∧ yX8_init.cls ≠ "java/lang/invoke/VarHandle" ∧ (parseMethodDescriptor yX8_init.desc).map (fun d => d.parameters.length) = some 0 := by decide +kernel
theorem cd_X8_inverse : yX8_inverse.cls = RX8 ∧ yX8_inverse.cls ≠ "java/lang/invoke/MethodHandle" ∧ yX8_inverse.cls ≠ "java/lang/invoke/VarHandle" ∧ (parseMethodDescriptor yX8_inverse.desc).map (fun d => d.parameters.length) = some 1 := by decide +kernel
theorem cd_X8_isAdded : yX8_isAdded.cls = RX8 ∧ yX8_isAdded.cls ≠ "java/lang/invoke/MethodHandle" ∧ yX8_isAdded.cls ≠ "java/lang/invoke/VarHandle" ∧ (parseMethodDescriptor yX8_isAdded.desc).map (fun d => d.parameters.length) = some 1 := by decide +kernel
theorem cd_X8_isFull : yX8_isFull.cls = RX8 ∧ yX8_isFull.cls ≠ "java/lang/invoke/MethodHandle" ∧ yX8_isFull.cls ≠ "java/lang/invoke/VarHandle" ∧ (parseMethodDescriptor yX8_isFull.desc).map (fun d => d.parameters.length) = some 2 := by decide +kernel
theorem cd_X8_isK : yX8_isK.cls = RX8 ∧ yX8_isK.cls ≠ "java/lang/invoke/MethodHandle" ∧ yX8_isK.cls ≠ "java/lang/invoke/VarHandle" ∧ (parseMethodDescriptor yX8_isK.desc).map (fun d => d.parameters.length) = some 1 := by decide +kernel
theorem cd_X8_isKnown : yX8_isKnown.cls = RX8 ∧ yX8_isKnown.cls ≠ "java/lang/invoke/MethodHandle" ∧ yX8_isKnown.cls ≠ "java/lang/invoke/VarHandle" ∧ (parseMethodDescriptor yX8_isKnown.desc).map (fun d => d.parameters.length) = some 1 := by decide +kernel
theorem cd_X8_isPacket : yX8_isPacket.cls = RX8 ∧ yX8_isPacket.cls ≠ "java/lang/invoke/MethodHandle" ∧ yX8_isPacket.cls ≠ "java/lang/invoke/VarHandle" ∧ (parseMethodDescriptor yX8_isPacket.desc).map (fun d => d.parameters.length) = some 1 := by decide +kernel
theorem cd_X8_isReduced : yX8_isReduced.cls = RX8 ∧ yX8_isReduced.cls ≠ "java/lang/invoke/MethodHandle" ∧ yX8_isReduced.cls ≠ "java/lang/invoke/VarHandle" ∧ (parseMethodDescriptor yX8_isReduced.desc).map (fun d => d.parameters.length) = some 1 := by decide +kernel
theorem cd_X8_isSame : yX8_isSame.cls = RX8 ∧ yX8_isSame.cls ≠ "java/lang/invoke/MethodHandle" ∧ yX8_isSame.cls ≠ "java/lang/invoke/VarHandle" ∧ (parseMethodDescriptor yX8_isSame.desc).map (fun d => d.parameters.length) = some 0 := by decide +kernel
theorem cd_X8_isT : yX8_isT.cls = RX8 ∧ yX8_isT.cls ≠ "java/lang/invoke/MethodHandle" ∧ yX8_isT.cls ≠ "java/lang/invoke/VarHandle" ∧ (parseMethodDescriptor yX8_isT.desc).map (fun d => d.parameters.length) = some 1 := by decide +kernel
theorem cd_X8_known : yX8_known.cls = RX8 ∧ yX8_known.cls ≠ "java/lang/invoke/MethodHandle" ∧ yX8_known.cls ≠ "java/lang/invoke/VarHandle" ∧ (parseMethodDescriptor yX8_known.desc).map (fun d => d.parameters.length) = some 2 := by decide +kernel
theorem cd_X8_open : yX8_open.cls = RX8 ∧ yX8_open.cls ≠ "java/lang/invoke/MethodHandle" ∧ yX8_open.cls ≠ "java/lang/invoke/VarHandle" ∧ (parseMethodDescriptor yX8_open.desc).map (fun d => d.parameters.length) = some 2 := by decide +kernel
theorem cd_X8_packet : yX8_packet.cls = RX8 ∧ yX8_packet.cls ≠ "java/lang/invoke/MethodHandle" ∧ yX8_packet.cls ≠ "java/lang/invoke/VarHandle" ∧ (parseMethodDescriptor yX8_packet.desc).map (fun d => d.parameters.length) = some 3 := by decide +kernel
theorem cd_X8_power : yX8_power.cls = RX8 ∧ yX8_power.cls ≠ "java/lang/invoke/MethodHandle" ∧ yX8_power.cls ≠ "java/lang/invoke/VarHandle" ∧ (parseMethodDescriptor yX8_power.desc).map (fun d => d.parameters.length) = some 1 := by decide +kernel
theorem cd_X8_prime : yX8_prime.cls = RX8 ∧ yX8_prime.cls ≠ "java/lang/invoke/MethodHandle" ∧ yX8_prime.cls ≠ "java/lang/invoke/VarHandle" ∧ (parseMethodDescriptor yX8_prime.desc).map (fun d => d.parameters.length) = some 1 := by decide +kernel
theorem cd_X8_product : yX8_product.cls = RX8 ∧ yX8_product.cls ≠ "java/lang/invoke/MethodHandle" ∧ yX8_product.cls ≠ "java/lang/invoke/VarHandle" ∧ (parseMethodDescriptor yX8_product.desc).map (fun d => d.parameters.length) = some 2 := by decide +kernel
theorem cd_X8_rank : yX8_rank.cls = RX8 ∧ yX8_rank.cls ≠ "java/lang/invoke/MethodHandle" ∧ yX8_rank.cls ≠ "java/lang/invoke/VarHandle" ∧ (parseMethodDescriptor yX8_rank.desc).map (fun d => d.parameters.length) = some 0 := by decide +kernel
theorem cd_X8_row : yX8_row.cls = RX8 ∧ yX8_row.cls ≠ "java/lang/invoke/MethodHandle" ∧ yX8_row.cls ≠ "java/lang/invoke/VarHandle" ∧ (parseMethodDescriptor yX8_row.desc).map (fun d => d.parameters.length) = some 3 := by decide +kernel
theorem cd_X8_start : yX8_start.cls = RX8 ∧ yX8_start.cls ≠ "java/lang/invoke/MethodHandle" ∧ yX8_start.cls ≠ "java/lang/invoke/VarHandle" ∧ (parseMethodDescriptor yX8_start.desc).map (fun d => d.parameters.length) = some 1 := by decide +kernel
theorem cd_X8_summed : yX8_summed.cls = RX8 ∧ yX8_summed.cls ≠ "java/lang/invoke/MethodHandle" ∧ yX8_summed.cls ≠ "java/lang/invoke/VarHandle" ∧ (parseMethodDescriptor yX8_summed.desc).map (fun d => d.parameters.length) = some 1 := by decide +kernel
theorem cd_X8_take : yX8_take.cls = RX8 ∧ yX8_take.cls ≠ "java/lang/invoke/MethodHandle" ∧ yX8_take.cls ≠ "java/lang/invoke/VarHandle" ∧ (parseMethodDescriptor yX8_take.desc).map (fun d => d.parameters.length) = some 1 := by decide +kernel
theorem cd_X8_takeAll : yX8_takeAll.cls = RX8 ∧ yX8_takeAll.cls ≠ "java/lang/invoke/MethodHandle" ∧ yX8_takeAll.cls ≠ "java/lang/invoke/VarHandle" ∧ (parseMethodDescriptor yX8_takeAll.desc).map (fun d => d.parameters.length) = some 3 := by decide +kernel
theorem cd_X8_taken : yX8_taken.cls = RX8 ∧ yX8_taken.cls ≠ "java/lang/invoke/MethodHandle" ∧ yX8_taken.cls ≠ "java/lang/invoke/VarHandle" ∧ (parseMethodDescriptor yX8_taken.desc).map (fun d => d.parameters.length) = some 1 := by decide +kernel
theorem cd_X8_thrown : yX8_thrown.cls = RX8 ∧ yX8_thrown.cls ≠ "java/lang/invoke/MethodHandle" ∧ yX8_thrown.cls ≠ "java/lang/invoke/VarHandle" ∧ (parseMethodDescriptor yX8_thrown.desc).map (fun d => d.parameters.length) = some 0 := by decide +kernel
theorem cd_X8_times : yX8_times.cls = RX8 ∧ yX8_times.cls ≠ "java/lang/invoke/MethodHandle" ∧ yX8_times.cls ≠ "java/lang/invoke/VarHandle" ∧ (parseMethodDescriptor yX8_times.desc).map (fun d => d.parameters.length) = some 2 := by decide +kernel
theorem cd_X8_turn : yX8_turn.cls = RX8 ∧ yX8_turn.cls ≠ "java/lang/invoke/MethodHandle" ∧ yX8_turn.cls ≠ "java/lang/invoke/VarHandle" ∧ (parseMethodDescriptor yX8_turn.desc).map (fun d => d.parameters.length) = some 1 := by decide +kernel
theorem cd_X8_turnOf : yX8_turnOf.cls = RX8 ∧ yX8_turnOf.cls ≠ "java/lang/invoke/MethodHandle" ∧ yX8_turnOf.cls ≠ "java/lang/invoke/VarHandle" ∧ (parseMethodDescriptor yX8_turnOf.desc).map (fun d => d.parameters.length) = some 1 := by decide +kernel
set_option maxRecDepth 20000 in
theorem wi_X0 : Cond.initialized RX0 ∈ GW := gw_in 37 (by rfl) rfl
set_option maxRecDepth 20000 in
theorem wi_X1 : Cond.initialized RX1 ∈ GW := gw_in 38 (by rfl) rfl
set_option maxRecDepth 20000 in
theorem wi_X2 : Cond.initialized RX2 ∈ GW := gw_in 34 (by rfl) rfl
set_option maxRecDepth 20000 in
theorem wi_X3 : Cond.initialized RX3 ∈ GW := gw_in 31 (by rfl) rfl
set_option maxRecDepth 20000 in
theorem wi_X4 : Cond.initialized RX4 ∈ GW := gw_in 33 (by rfl) rfl
set_option maxRecDepth 20000 in
theorem wi_X5 : Cond.initialized RX5 ∈ GW := gw_in 32 (by rfl) rfl
set_option maxRecDepth 20000 in
theorem wi_X6 : Cond.initialized RX6 ∈ GW := gw_in 35 (by rfl) rfl
set_option maxRecDepth 20000 in
theorem wi_X7 : Cond.initialized RX7 ∈ GW := gw_in 30 (by rfl) rfl
set_option maxRecDepth 20000 in
theorem wi_X8 : Cond.initialized RX8 ∈ GW := gw_in 39 (by rfl) rfl
set_option maxRecDepth 20000 in
theorem wi_J9 : Cond.initialized RJ9 ∈ GW := gw_in 45 (by rfl) rfl
set_option maxRecDepth 20000 in
theorem wi_J10 : Cond.initialized RJ10 ∈ GW := gw_in 46 (by rfl) rfl
set_option maxRecDepth 20000 in
theorem wi_J7 : Cond.initialized RJ7 ∈ GW := gw_in 36 (by rfl) rfl
set_option maxRecDepth 20000 in
theorem wi_L : Cond.initialized RL ∈ GW := gw_in 29 (by rfl) rfl
set_option maxRecDepth 20000 in
theorem kc_X7_140 : Cond.constant RX7 140 (65536) ∈ GW := gw_in 498 (by rfl) rfl
set_option maxRecDepth 20000 in
theorem kc_X4_19 : Cond.constantLong RX4 19 (65536) ∈ GW := gw_in 411 (by rfl) rfl
set_option maxRecDepth 20000 in
theorem kc_X4_51 : Cond.constantLong RX4 51 (-7046029254386353131) ∈ GW := gw_in 418 (by rfl) rfl
set_option maxRecDepth 20000 in
theorem kc_X4_53 : Cond.constantLong RX4 53 (-4658895280553007687) ∈ GW := gw_in 419 (by rfl) rfl
set_option maxRecDepth 20000 in
theorem kc_X4_55 : Cond.constantLong RX4 55 (-7723592293110705685) ∈ GW := gw_in 420 (by rfl) rfl
set_option maxRecDepth 20000 in
theorem kc_X8_49 : Cond.constantLong RX8 49 (-7046029254386353131) ∈ GW := gw_in 760 (by rfl) rfl
set_option maxRecDepth 20000 in
theorem kc_X8_51 : Cond.constantLong RX8 51 (-4658895280553007687) ∈ GW := gw_in 761 (by rfl) rfl
set_option maxRecDepth 20000 in
theorem kc_X8_53 : Cond.constantLong RX8 53 (-7723592293110705685) ∈ GW := gw_in 762 (by rfl) rfl
set_option maxRecDepth 20000 in
theorem kc_X8_62 : Cond.constantLong RX8 62 (65536) ∈ GW := gw_in 756 (by rfl) rfl
set_option maxRecDepth 20000 in
theorem kc_X8_122 : Cond.constant RX8 122 (65536) ∈ GW := gw_in 783 (by rfl) rfl
set_option maxRecDepth 20000 in
theorem kc_X8_154 : Cond.constant RX8 154 (65535) ∈ GW := gw_in 820 (by rfl) rfl
set_option maxRecDepth 20000 in
theorem kl_X7_9 : Cond.classLink RX7 9 RX3 ∈ GW := gw_in 57 (by rfl) rfl
set_option maxRecDepth 20000 in
theorem kl_X7_16 : Cond.classLink RX7 16 RX5 ∈ GW := gw_in 71 (by rfl) rfl
set_option maxRecDepth 20000 in
theorem kl_X7_23 : Cond.classLink RX7 23 RX4 ∈ GW := gw_in 86 (by rfl) rfl
set_option maxRecDepth 20000 in
theorem kl_X7_30 : Cond.classLink RX7 30 RX2 ∈ GW := gw_in 104 (by rfl) rfl
set_option maxRecDepth 20000 in
theorem kl_X7_39 : Cond.classLink RX7 39 RX6 ∈ GW := gw_in 139 (by rfl) rfl
set_option maxRecDepth 20000 in
theorem kl_X7_48 : Cond.classLink RX7 48 RX0 ∈ GW := gw_in 158 (by rfl) rfl
set_option maxRecDepth 20000 in
theorem kl_X7_55 : Cond.classLink RX7 55 RX1 ∈ GW := gw_in 181 (by rfl) rfl
set_option maxRecDepth 20000 in
theorem kl_X7_66 : Cond.classLink RX7 66 "java/lang/UnsupportedOperationException" ∈ GW := gw_in 252 (by rfl) rfl
set_option maxRecDepth 20000 in
theorem kl_X7_77 : Cond.classLink RX7 77 "java/lang/IllegalArgumentException" ∈ GW := gw_in 328 (by rfl) rfl
set_option maxRecDepth 20000 in
theorem kl_X7_101 : Cond.classLink RX7 101 "java/lang/IllegalStateException" ∈ GW := gw_in 480 (by rfl) rfl
set_option maxRecDepth 20000 in
theorem kl_X7_110 : Cond.classLink RX7 110 "java/lang/IndexOutOfBoundsException" ∈ GW := gw_in 499 (by rfl) rfl
set_option maxRecDepth 20000 in
theorem kl_X0_9 : Cond.classLink RX0 9 "[[I" ∈ GW := gw_in 164 (by rfl) rfl
set_option maxRecDepth 20000 in
theorem kl_X1_9 : Cond.classLink RX1 9 RX2 ∈ GW := gw_in 187 (by rfl) rfl
set_option maxRecDepth 20000 in
theorem kl_X2_15 : Cond.classLink RX2 15 "[[I" ∈ GW := gw_in 110 (by rfl) rfl
set_option maxRecDepth 20000 in
theorem kl_L_8 : Cond.classLink RL 8 RX7 ∈ GW := gw_in 49 (by rfl) rfl
set_option maxRecDepth 20000 in
theorem kl_L_13 : Cond.classLink RL 13 "java/lang/UnsupportedOperationException" ∈ GW := gw_in 243 (by rfl) rfl
set_option maxRecDepth 20000 in
theorem kl_L_19 : Cond.classLink RL 19 "java/lang/IllegalArgumentException" ∈ GW := gw_in 323 (by rfl) rfl
set_option maxRecDepth 20000 in
theorem kl_L_33 : Cond.classLink RL 33 "java/lang/IllegalStateException" ∈ GW := gw_in 474 (by rfl) rfl
set_option maxRecDepth 20000 in
theorem kl_L_35 : Cond.classLink RL 35 "java/lang/IndexOutOfBoundsException" ∈ GW := gw_in 475 (by rfl) rfl
set_option maxRecDepth 20000 in
theorem kl_L_69 : Cond.classLink RL 69 RX8 ∈ GW := gw_in 630 (by rfl) rfl
set_option maxRecDepth 20000 in
theorem ki_X7 : Cond.instantiable RX7 7 ∈ GW := gw_in 50 (by rfl) rfl
set_option maxRecDepth 20000 in
theorem ki_X3 : Cond.instantiable RX3 2 ∈ GW := gw_in 58 (by rfl) rfl
set_option maxRecDepth 20000 in
theorem ki_X5 : Cond.instantiable RX5 2 ∈ GW := gw_in 72 (by rfl) rfl
set_option maxRecDepth 20000 in
theorem ki_X4 : Cond.instantiable RX4 2 ∈ GW := gw_in 87 (by rfl) rfl
set_option maxRecDepth 20000 in
theorem ki_X2 : Cond.instantiable RX2 7 ∈ GW := gw_in 105 (by rfl) rfl
set_option maxRecDepth 20000 in
theorem ki_X6 : Cond.instantiable RX6 3 ∈ GW := gw_in 140 (by rfl) rfl
set_option maxRecDepth 20000 in
theorem ki_X0 : Cond.instantiable RX0 4 ∈ GW := gw_in 159 (by rfl) rfl
set_option maxRecDepth 20000 in
theorem ki_X1 : Cond.instantiable RX1 5 ∈ GW := gw_in 182 (by rfl) rfl
set_option maxRecDepth 20000 in
theorem ki_X8 : Cond.instantiable RX8 19 ∈ GW := gw_in 631 (by rfl) rfl
