/-! link words by their places -/
theorem fl_X11_10 : kLink RX11 10 11 0 ∈ gwl := gw_inT (i := 112) (by decide +kernel) (by decide +kernel)
theorem fl_X11_16 : kLink RX11 16 11 1 ∈ gwl := gw_inT (i := 113) (by decide +kernel) (by decide +kernel)
theorem fl_X11_19 : kLink RX11 19 11 2 ∈ gwl := gw_inT (i := 114) (by decide +kernel) (by decide +kernel)
theorem fl_X11_26 : kLink RX11 26 11 3 ∈ gwl := gw_inT (i := 115) (by decide +kernel) (by decide +kernel)
theorem fl_X11_33 : kLink RX11 33 11 4 ∈ gwl := gw_inT (i := 116) (by decide +kernel) (by decide +kernel)
theorem fl_X11_37 : kLink RX11 37 11 5 ∈ gwl := gw_inT (i := 117) (by decide +kernel) (by decide +kernel)
theorem fl_X11_62 : kLink RX11 62 1 0 ∈ gwl := gw_inT (i := 67) (by decide +kernel) (by decide +kernel)
theorem fl_X11_112 : kLink RX11 112 4 1 ∈ gwl := gw_inT (i := 43) (by decide +kernel) (by decide +kernel)
theorem fl_X11_115 : kLink RX11 115 4 0 ∈ gwl := gw_inT (i := 40) (by decide +kernel) (by decide +kernel)
theorem fl_X11_119 : kLink RX11 119 4 2 ∈ gwl := gw_inT (i := 45) (by decide +kernel) (by decide +kernel)
theorem fl_X11_123 : kLink RX11 123 9 3 ∈ gwl := gw_inT (i := 440) (by decide +kernel) (by decide +kernel)
theorem fl_X11_142 : kLink RX11 142 9 9 ∈ gwl := gw_inT (i := 457) (by decide +kernel) (by decide +kernel)
theorem fl_X11_151 : kLink RX11 151 9 4 ∈ gwl := gw_inT (i := 443) (by decide +kernel) (by decide +kernel)
theorem fl_X11_173 : kLink RX11 173 9 5 ∈ gwl := gw_inT (i := 447) (by decide +kernel) (by decide +kernel)
theorem fl_X11_176 : kLink RX11 176 9 6 ∈ gwl := gw_inT (i := 450) (by decide +kernel) (by decide +kernel)
theorem fl_X11_190 : kLink RX11 190 9 7 ∈ gwl := gw_inT (i := 452) (by decide +kernel) (by decide +kernel)
theorem fl_X11_193 : kLink RX11 193 9 8 ∈ gwl := gw_inT (i := 455) (by decide +kernel) (by decide +kernel)
theorem fl_X11_211 : kLink RX11 211 3 2 ∈ gwl := gw_inT (i := 318) (by decide +kernel) (by decide +kernel)
theorem fl_X11_237 : kLink RX11 237 3 1 ∈ gwl := gw_inT (i := 315) (by decide +kernel) (by decide +kernel)
theorem fl_X11_240 : kLink RX11 240 9 10 ∈ gwl := gw_inT (i := 459) (by decide +kernel) (by decide +kernel)
theorem fl_X11_244 : kLink RX11 244 0 5 ∈ gwl := gw_inT (i := 341) (by decide +kernel) (by decide +kernel)
theorem fl_X11_249 : kLink RX11 249 0 6 ∈ gwl := gw_inT (i := 343) (by decide +kernel) (by decide +kernel)
theorem fl_X11_257 : kLink RX11 257 0 4 ∈ gwl := gw_inT (i := 338) (by decide +kernel) (by decide +kernel)
theorem fl_X11_304 : kLink RX11 304 9 11 ∈ gwl := gw_inT (i := 461) (by decide +kernel) (by decide +kernel)
theorem fl_X11_312 : kLink RX11 312 10 0 ∈ gwl := gw_inT (i := 366) (by decide +kernel) (by decide +kernel)
theorem fl_X11_315 : kLink RX11 315 10 1 ∈ gwl := gw_inT (i := 368) (by decide +kernel) (by decide +kernel)
theorem fl_X11_318 : kLink RX11 318 10 5 ∈ gwl := gw_inT (i := 374) (by decide +kernel) (by decide +kernel)
theorem fl_X11_330 : kLink RX11 330 10 6 ∈ gwl := gw_inT (i := 376) (by decide +kernel) (by decide +kernel)
theorem fl_X11_333 : kLink RX11 333 10 7 ∈ gwl := gw_inT (i := 378) (by decide +kernel) (by decide +kernel)
theorem fl_X11_336 : kLink RX11 336 10 8 ∈ gwl := gw_inT (i := 380) (by decide +kernel) (by decide +kernel)
theorem fl_X11_339 : kLink RX11 339 10 9 ∈ gwl := gw_inT (i := 382) (by decide +kernel) (by decide +kernel)
theorem fl_X11_342 : kLink RX11 342 10 10 ∈ gwl := gw_inT (i := 384) (by decide +kernel) (by decide +kernel)
theorem fl_X11_345 : kLink RX11 345 10 4 ∈ gwl := gw_inT (i := 372) (by decide +kernel) (by decide +kernel)
theorem fl_X0_15 : kLink RX0 15 0 4 ∈ gwl := gw_inT (i := 337) (by decide +kernel) (by decide +kernel)
theorem fl_X0_19 : kLink RX0 19 0 5 ∈ gwl := gw_inT (i := 339) (by decide +kernel) (by decide +kernel)
theorem fl_X0_22 : kLink RX0 22 0 6 ∈ gwl := gw_inT (i := 342) (by decide +kernel) (by decide +kernel)
theorem fl_X0_25 : kLink RX0 25 0 0 ∈ gwl := gw_inT (i := 332) (by decide +kernel) (by decide +kernel)
theorem fl_X0_28 : kLink RX0 28 0 1 ∈ gwl := gw_inT (i := 333) (by decide +kernel) (by decide +kernel)
theorem fl_X0_31 : kLink RX0 31 0 2 ∈ gwl := gw_inT (i := 334) (by decide +kernel) (by decide +kernel)
theorem fl_X0_34 : kLink RX0 34 0 3 ∈ gwl := gw_inT (i := 335) (by decide +kernel) (by decide +kernel)
theorem fl_X1_9 : kLink RX1 9 1 7 ∈ gwl := gw_inT (i := 74) (by decide +kernel) (by decide +kernel)
theorem fl_X1_15 : kLink RX1 15 1 0 ∈ gwl := gw_inT (i := 66) (by decide +kernel) (by decide +kernel)
theorem fl_X1_19 : kLink RX1 19 1 1 ∈ gwl := gw_inT (i := 68) (by decide +kernel) (by decide +kernel)
theorem fl_X1_22 : kLink RX1 22 1 2 ∈ gwl := gw_inT (i := 69) (by decide +kernel) (by decide +kernel)
theorem fl_X1_25 : kLink RX1 25 1 3 ∈ gwl := gw_inT (i := 70) (by decide +kernel) (by decide +kernel)
theorem fl_X1_28 : kLink RX1 28 1 5 ∈ gwl := gw_inT (i := 72) (by decide +kernel) (by decide +kernel)
theorem fl_X1_37 : kLink RX1 37 9 0 ∈ gwl := gw_inT (i := 434) (by decide +kernel) (by decide +kernel)
theorem fl_X1_42 : kLink RX1 42 9 8 ∈ gwl := gw_inT (i := 454) (by decide +kernel) (by decide +kernel)
theorem fl_X1_46 : kLink RX1 46 1 4 ∈ gwl := gw_inT (i := 71) (by decide +kernel) (by decide +kernel)
theorem fl_X1_49 : kLink RX1 49 1 6 ∈ gwl := gw_inT (i := 73) (by decide +kernel) (by decide +kernel)
theorem fl_X1_71 : kLink RX1 71 9 3 ∈ gwl := gw_inT (i := 439) (by decide +kernel) (by decide +kernel)
theorem fl_X1_81 : kLink RX1 81 9 4 ∈ gwl := gw_inT (i := 442) (by decide +kernel) (by decide +kernel)
theorem fl_X1_101 : kLink RX1 101 9 5 ∈ gwl := gw_inT (i := 446) (by decide +kernel) (by decide +kernel)
theorem fl_X1_107 : kLink RX1 107 9 6 ∈ gwl := gw_inT (i := 449) (by decide +kernel) (by decide +kernel)
theorem fl_X2_9 : kLink RX2 9 2 2 ∈ gwl := gw_inT (i := 418) (by decide +kernel) (by decide +kernel)
theorem fl_X2_15 : kLink RX2 15 2 3 ∈ gwl := gw_inT (i := 419) (by decide +kernel) (by decide +kernel)
theorem fl_X2_18 : kLink RX2 18 2 4 ∈ gwl := gw_inT (i := 420) (by decide +kernel) (by decide +kernel)
theorem fl_X2_21 : kLink RX2 21 2 0 ∈ gwl := gw_inT (i := 415) (by decide +kernel) (by decide +kernel)
theorem fl_X2_25 : kLink RX2 25 2 1 ∈ gwl := gw_inT (i := 417) (by decide +kernel) (by decide +kernel)
theorem fl_X3_9 : kLink RX3 9 3 0 ∈ gwl := gw_inT (i := 313) (by decide +kernel) (by decide +kernel)
theorem fl_X3_15 : kLink RX3 15 3 1 ∈ gwl := gw_inT (i := 314) (by decide +kernel) (by decide +kernel)
theorem fl_X3_19 : kLink RX3 19 3 2 ∈ gwl := gw_inT (i := 316) (by decide +kernel) (by decide +kernel)
theorem fl_X4_9 : kLink RX4 9 4 0 ∈ gwl := gw_inT (i := 38) (by decide +kernel) (by decide +kernel)
theorem fl_X4_15 : kLink RX4 15 9 0 ∈ gwl := gw_inT (i := 433) (by decide +kernel) (by decide +kernel)
theorem fl_X4_21 : kLink RX4 21 4 1 ∈ gwl := gw_inT (i := 41) (by decide +kernel) (by decide +kernel)
theorem fl_X4_37 : kLink RX4 37 4 2 ∈ gwl := gw_inT (i := 44) (by decide +kernel) (by decide +kernel)
theorem fl_X4_45 : kLink RX4 45 4 3 ∈ gwl := gw_inT (i := 46) (by decide +kernel) (by decide +kernel)
theorem fl_X5_9 : kLink RX5 9 5 0 ∈ gwl := gw_inT (i := 99) (by decide +kernel) (by decide +kernel)
theorem fl_X5_15 : kLink RX5 15 5 1 ∈ gwl := gw_inT (i := 100) (by decide +kernel) (by decide +kernel)
theorem fl_X5_18 : kLink RX5 18 5 2 ∈ gwl := gw_inT (i := 101) (by decide +kernel) (by decide +kernel)
theorem fl_X5_21 : kLink RX5 21 5 3 ∈ gwl := gw_inT (i := 102) (by decide +kernel) (by decide +kernel)
theorem fl_X5_52 : kLink RX5 52 9 5 ∈ gwl := gw_inT (i := 445) (by decide +kernel) (by decide +kernel)
theorem fl_X6_9 : kLink RX6 9 6 1 ∈ gwl := gw_inT (i := 279) (by decide +kernel) (by decide +kernel)
theorem fl_X6_15 : kLink RX6 15 6 2 ∈ gwl := gw_inT (i := 280) (by decide +kernel) (by decide +kernel)
theorem fl_X6_18 : kLink RX6 18 6 3 ∈ gwl := gw_inT (i := 281) (by decide +kernel) (by decide +kernel)
theorem fl_X6_21 : kLink RX6 21 6 4 ∈ gwl := gw_inT (i := 282) (by decide +kernel) (by decide +kernel)
theorem fl_X6_24 : kLink RX6 24 6 0 ∈ gwl := gw_inT (i := 278) (by decide +kernel) (by decide +kernel)
theorem fl_X7_9 : kLink RX7 9 7 0 ∈ gwl := gw_inT (i := 300) (by decide +kernel) (by decide +kernel)
theorem fl_X7_15 : kLink RX7 15 7 1 ∈ gwl := gw_inT (i := 301) (by decide +kernel) (by decide +kernel)
theorem fl_X8_11 : kLink RX8 11 8 0 ∈ gwl := gw_inT (i := 56) (by decide +kernel) (by decide +kernel)
theorem fl_X8_26 : kLink RX8 26 4 0 ∈ gwl := gw_inT (i := 39) (by decide +kernel) (by decide +kernel)
theorem fl_X8_38 : kLink RX8 38 4 1 ∈ gwl := gw_inT (i := 42) (by decide +kernel) (by decide +kernel)
theorem fl_X8_42 : kLink RX8 42 9 0 ∈ gwl := gw_inT (i := 435) (by decide +kernel) (by decide +kernel)
theorem fl_X9_12 : kLink RX9 12 9 3 ∈ gwl := gw_inT (i := 438) (by decide +kernel) (by decide +kernel)
theorem fl_X9_21 : kLink RX9 21 9 4 ∈ gwl := gw_inT (i := 441) (by decide +kernel) (by decide +kernel)
theorem fl_X9_28 : kLink RX9 28 9 9 ∈ gwl := gw_inT (i := 456) (by decide +kernel) (by decide +kernel)
theorem fl_X9_35 : kLink RX9 35 9 10 ∈ gwl := gw_inT (i := 458) (by decide +kernel) (by decide +kernel)
theorem fl_X9_42 : kLink RX9 42 9 11 ∈ gwl := gw_inT (i := 460) (by decide +kernel) (by decide +kernel)
theorem fl_X9_48 : kLink RX9 48 9 12 ∈ gwl := gw_inT (i := 462) (by decide +kernel) (by decide +kernel)
theorem fl_X9_53 : kLink RX9 53 9 0 ∈ gwl := gw_inT (i := 432) (by decide +kernel) (by decide +kernel)
theorem fl_X9_57 : kLink RX9 57 9 1 ∈ gwl := gw_inT (i := 436) (by decide +kernel) (by decide +kernel)
theorem fl_X9_60 : kLink RX9 60 9 2 ∈ gwl := gw_inT (i := 437) (by decide +kernel) (by decide +kernel)
theorem fl_X9_71 : kLink RX9 71 9 7 ∈ gwl := gw_inT (i := 451) (by decide +kernel) (by decide +kernel)
theorem fl_X9_74 : kLink RX9 74 9 8 ∈ gwl := gw_inT (i := 453) (by decide +kernel) (by decide +kernel)
theorem fl_X9_93 : kLink RX9 93 9 5 ∈ gwl := gw_inT (i := 444) (by decide +kernel) (by decide +kernel)
theorem fl_X9_96 : kLink RX9 96 9 6 ∈ gwl := gw_inT (i := 448) (by decide +kernel) (by decide +kernel)
theorem fl_X9_120 : kLink RX9 120 2 0 ∈ gwl := gw_inT (i := 416) (by decide +kernel) (by decide +kernel)
theorem fl_X9_123 : kLink RX9 123 3 2 ∈ gwl := gw_inT (i := 317) (by decide +kernel) (by decide +kernel)
theorem fl_X9_156 : kLink RX9 156 0 5 ∈ gwl := gw_inT (i := 340) (by decide +kernel) (by decide +kernel)
theorem fl_X9_166 : kLink RX9 166 0 3 ∈ gwl := gw_inT (i := 336) (by decide +kernel) (by decide +kernel)
theorem fl_X10_9 : kLink RX10 9 10 0 ∈ gwl := gw_inT (i := 365) (by decide +kernel) (by decide +kernel)
theorem fl_X10_15 : kLink RX10 15 10 1 ∈ gwl := gw_inT (i := 367) (by decide +kernel) (by decide +kernel)
theorem fl_X10_18 : kLink RX10 18 10 2 ∈ gwl := gw_inT (i := 369) (by decide +kernel) (by decide +kernel)
theorem fl_X10_21 : kLink RX10 21 10 3 ∈ gwl := gw_inT (i := 370) (by decide +kernel) (by decide +kernel)
theorem fl_X10_24 : kLink RX10 24 10 4 ∈ gwl := gw_inT (i := 371) (by decide +kernel) (by decide +kernel)
theorem fl_X10_27 : kLink RX10 27 10 5 ∈ gwl := gw_inT (i := 373) (by decide +kernel) (by decide +kernel)
theorem fl_X10_30 : kLink RX10 30 10 6 ∈ gwl := gw_inT (i := 375) (by decide +kernel) (by decide +kernel)
theorem fl_X10_40 : kLink RX10 40 10 7 ∈ gwl := gw_inT (i := 377) (by decide +kernel) (by decide +kernel)
theorem fl_X10_43 : kLink RX10 43 10 8 ∈ gwl := gw_inT (i := 379) (by decide +kernel) (by decide +kernel)
theorem fl_X10_46 : kLink RX10 46 10 9 ∈ gwl := gw_inT (i := 381) (by decide +kernel) (by decide +kernel)
theorem fl_X10_49 : kLink RX10 49 10 10 ∈ gwl := gw_inT (i := 383) (by decide +kernel) (by decide +kernel)
theorem fl_X12_8 : kLink RX12 8 12 0 ∈ gwl := gw_inT (i := 1004) (by decide +kernel) (by decide +kernel)
theorem fl_X12_14 : kLink RX12 14 12 1 ∈ gwl := gw_inT (i := 1005) (by decide +kernel) (by decide +kernel)
theorem fl_X12_17 : kLink RX12 17 12 2 ∈ gwl := gw_inT (i := 1006) (by decide +kernel) (by decide +kernel)
theorem fl_X12_21 : kLink RX12 21 12 3 ∈ gwl := gw_inT (i := 1007) (by decide +kernel) (by decide +kernel)
theorem fl_X12_24 : kLink RX12 24 12 5 ∈ gwl := gw_inT (i := 1009) (by decide +kernel) (by decide +kernel)
theorem fl_X12_27 : kLink RX12 27 12 6 ∈ gwl := gw_inT (i := 1010) (by decide +kernel) (by decide +kernel)
theorem fl_X12_30 : kLink RX12 30 12 12 ∈ gwl := gw_inT (i := 1016) (by decide +kernel) (by decide +kernel)
theorem fl_X12_33 : kLink RX12 33 12 13 ∈ gwl := gw_inT (i := 1017) (by decide +kernel) (by decide +kernel)
theorem fl_X12_37 : kLink RX12 37 12 14 ∈ gwl := gw_inT (i := 1018) (by decide +kernel) (by decide +kernel)
theorem fl_X12_40 : kLink RX12 40 12 15 ∈ gwl := gw_inT (i := 1019) (by decide +kernel) (by decide +kernel)
theorem fl_X12_76 : kLink RX12 76 12 8 ∈ gwl := gw_inT (i := 1012) (by decide +kernel) (by decide +kernel)
theorem fl_X12_80 : kLink RX12 80 12 9 ∈ gwl := gw_inT (i := 1013) (by decide +kernel) (by decide +kernel)
theorem fl_X12_83 : kLink RX12 83 12 10 ∈ gwl := gw_inT (i := 1014) (by decide +kernel) (by decide +kernel)
theorem fl_X12_86 : kLink RX12 86 12 11 ∈ gwl := gw_inT (i := 1015) (by decide +kernel) (by decide +kernel)
theorem fl_X12_149 : kLink RX12 149 12 7 ∈ gwl := gw_inT (i := 1011) (by decide +kernel) (by decide +kernel)
theorem fl_X12_167 : kLink RX12 167 12 16 ∈ gwl := gw_inT (i := 1020) (by decide +kernel) (by decide +kernel)
theorem fl_X12_171 : kLink RX12 171 12 17 ∈ gwl := gw_inT (i := 1021) (by decide +kernel) (by decide +kernel)
theorem fl_X12_175 : kLink RX12 175 12 18 ∈ gwl := gw_inT (i := 1022) (by decide +kernel) (by decide +kernel)
theorem fl_X12_213 : kLink RX12 213 12 19 ∈ gwl := gw_inT (i := 1023) (by decide +kernel) (by decide +kernel)
theorem fl_X12_216 : kLink RX12 216 12 20 ∈ gwl := gw_inT (i := 1024) (by decide +kernel) (by decide +kernel)
theorem fl_X12_219 : kLink RX12 219 12 21 ∈ gwl := gw_inT (i := 1025) (by decide +kernel) (by decide +kernel)
theorem fl_X12_222 : kLink RX12 222 12 22 ∈ gwl := gw_inT (i := 1026) (by decide +kernel) (by decide +kernel)
theorem fl_X12_225 : kLink RX12 225 12 23 ∈ gwl := gw_inT (i := 1027) (by decide +kernel) (by decide +kernel)
theorem fl_X12_232 : kLink RX12 232 12 24 ∈ gwl := gw_inT (i := 1028) (by decide +kernel) (by decide +kernel)
theorem fl_X12_265 : kLink RX12 265 12 4 ∈ gwl := gw_inT (i := 1008) (by decide +kernel) (by decide +kernel)
theorem ml_X11_1 : Cond.methodLink RX11 1 objectInit ∈ gwl := gw_inT (i := 22) (by decide +kernel) (by decide +kernel)
theorem ml_X11_9 : Cond.methodLink RX11 9 yX8_init ∈ gwl := gw_inT (i := 27) (by decide +kernel) (by decide +kernel)
theorem ml_X11_42 : Cond.methodLink RX11 42 yX11_within ∈ gwl := gw_inT (i := 136) (by decide +kernel) (by decide +kernel)
theorem ml_X11_46 : Cond.methodLink RX11 46 yX11_refuse ∈ gwl := gw_inT (i := 139) (by decide +kernel) (by decide +kernel)
theorem ml_X11_50 : Cond.methodLink RX11 50 yX1_become ∈ gwl := gw_inT (i := 146) (by decide +kernel) (by decide +kernel)
theorem ml_X11_54 : Cond.methodLink RX11 54 yX8_find ∈ gwl := gw_inT (i := 154) (by decide +kernel) (by decide +kernel)
theorem ml_X11_58 : Cond.methodLink RX11 58 yX11_refuseAt ∈ gwl := gw_inT (i := 174) (by decide +kernel) (by decide +kernel)
theorem ml_X11_66 : Cond.methodLink RX11 66 yX9_seatOf ∈ gwl := gw_inT (i := 179) (by decide +kernel) (by decide +kernel)
theorem ml_X11_71 : Cond.methodLink RX11 71 yX1_begin ∈ gwl := gw_inT (i := 188) (by decide +kernel) (by decide +kernel)
theorem ml_X11_75 : Cond.methodLink RX11 75 yX1_ask ∈ gwl := gw_inT (i := 193) (by decide +kernel) (by decide +kernel)
theorem ml_X11_86 : Cond.methodLink RX11 86 yX8_placeAt ∈ gwl := gw_inT (i := 250) (by decide +kernel) (by decide +kernel)
theorem ml_X11_90 : Cond.methodLink RX11 90 yX11_isFactor ∈ gwl := gw_inT (i := 251) (by decide +kernel) (by decide +kernel)
theorem ml_X11_94 : Cond.methodLink RX11 94 yX4_putSwitch ∈ gwl := gw_inT (i := 254) (by decide +kernel) (by decide +kernel)
theorem ml_X11_100 : Cond.methodLink RX11 100 yX4_putNote ∈ gwl := gw_inT (i := 537) (by decide +kernel) (by decide +kernel)
theorem ml_X11_104 : Cond.methodLink RX11 104 yX4_clear ∈ gwl := gw_inT (i := 545) (by decide +kernel) (by decide +kernel)
theorem ml_X11_108 : Cond.methodLink RX11 108 yX4_content ∈ gwl := gw_inT (i := 550) (by decide +kernel) (by decide +kernel)
theorem ml_X11_127 : Cond.methodLink RX11 127 yX6_add ∈ gwl := gw_inT (i := 562) (by decide +kernel) (by decide +kernel)
theorem ml_X11_133 : Cond.methodLink RX11 133 yX11_answer ∈ gwl := gw_inT (i := 566) (by decide +kernel) (by decide +kernel)
theorem ml_X11_136 : Cond.methodLink RX11 136 yX6_dropLast ∈ gwl := gw_inT (i := 574) (by decide +kernel) (by decide +kernel)
theorem ml_X11_139 : Cond.methodLink RX11 139 yX11_isSharedWay ∈ gwl := gw_inT (i := 582) (by decide +kernel) (by decide +kernel)
theorem ml_X11_146 : Cond.methodLink RX11 146 yX3_isStoodOn ∈ gwl := gw_inT (i := 585) (by decide +kernel) (by decide +kernel)
theorem ml_X11_155 : Cond.methodLink RX11 155 yX7_fits ∈ gwl := gw_inT (i := 589) (by decide +kernel) (by decide +kernel)
theorem ml_X11_161 : Cond.methodLink RX11 161 yX7_sizeOf ∈ gwl := gw_inT (i := 598) (by decide +kernel) (by decide +kernel)
theorem ml_X11_164 : Cond.methodLink RX11 164 yX7_put ∈ gwl := gw_inT (i := 603) (by decide +kernel) (by decide +kernel)
theorem ml_X11_167 : Cond.methodLink RX11 167 yX7_firstOf ∈ gwl := gw_inT (i := 611) (by decide +kernel) (by decide +kernel)
theorem ml_X11_170 : Cond.methodLink RX11 170 yX11_hangFault ∈ gwl := gw_inT (i := 619) (by decide +kernel) (by decide +kernel)
theorem ml_X11_179 : Cond.methodLink RX11 179 yX9_hangOn ∈ gwl := gw_inT (i := 626) (by decide +kernel) (by decide +kernel)
theorem ml_X11_183 : Cond.methodLink RX11 183 yX5_findIn ∈ gwl := gw_inT (i := 627) (by decide +kernel) (by decide +kernel)
theorem ml_X11_187 : Cond.methodLink RX11 187 yX11_hasBit ∈ gwl := gw_inT (i := 660) (by decide +kernel) (by decide +kernel)
theorem ml_X11_196 : Cond.methodLink RX11 196 yX5_memberAt ∈ gwl := gw_inT (i := 665) (by decide +kernel) (by decide +kernel)
theorem ml_X11_199 : Cond.methodLink RX11 199 yX3_layRow ∈ gwl := gw_inT (i := 673) (by decide +kernel) (by decide +kernel)
theorem ml_X11_202 : Cond.methodLink RX11 202 yX3_dropRow ∈ gwl := gw_inT (i := 685) (by decide +kernel) (by decide +kernel)
theorem ml_X11_205 : Cond.methodLink RX11 205 yX3_hasRow ∈ gwl := gw_inT (i := 697) (by decide +kernel) (by decide +kernel)
theorem ml_X11_208 : Cond.methodLink RX11 208 yX3_hasStep ∈ gwl := gw_inT (i := 698) (by decide +kernel) (by decide +kernel)
theorem ml_X11_214 : Cond.methodLink RX11 214 yX3_stepAt ∈ gwl := gw_inT (i := 702) (by decide +kernel) (by decide +kernel)
theorem ml_X11_217 : Cond.methodLink RX11 217 yX3_setStep ∈ gwl := gw_inT (i := 707) (by decide +kernel) (by decide +kernel)
theorem ml_X11_220 : Cond.methodLink RX11 220 yX11_refuseAtEither ∈ gwl := gw_inT (i := 715) (by decide +kernel) (by decide +kernel)
theorem ml_X11_224 : Cond.methodLink RX11 224 yX3_hasSteps ∈ gwl := gw_inT (i := 719) (by decide +kernel) (by decide +kernel)
theorem ml_X11_227 : Cond.methodLink RX11 227 yX3_copySteps ∈ gwl := gw_inT (i := 724) (by decide +kernel) (by decide +kernel)
theorem ml_X11_231 : Cond.methodLink RX11 231 yX9_growFault ∈ gwl := gw_inT (i := 736) (by decide +kernel) (by decide +kernel)
theorem ml_X11_234 : Cond.methodLink RX11 234 yX9_standOn ∈ gwl := gw_inT (i := 788) (by decide +kernel) (by decide +kernel)
theorem ml_X11_253 : Cond.methodLink RX11 253 yX0_set ∈ gwl := gw_inT (i := 806) (by decide +kernel) (by decide +kernel)
theorem ml_X11_260 : Cond.methodLink RX11 260 yX11_isCountedAt ∈ gwl := gw_inT (i := 815) (by decide +kernel) (by decide +kernel)
theorem ml_X11_263 : Cond.methodLink RX11 263 yX9_rowOf ∈ gwl := gw_inT (i := 818) (by decide +kernel) (by decide +kernel)
theorem ml_X11_267 : Cond.methodLink RX11 267 yX2_tell ∈ gwl := gw_inT (i := 819) (by decide +kernel) (by decide +kernel)
theorem ml_X11_272 : Cond.methodLink RX11 272 yX9_goBackIfSpent ∈ gwl := gw_inT (i := 825) (by decide +kernel) (by decide +kernel)
theorem ml_X11_275 : Cond.methodLink RX11 275 yX2_isTold ∈ gwl := gw_inT (i := 838) (by decide +kernel) (by decide +kernel)
theorem ml_X11_278 : Cond.methodLink RX11 278 yX2_callsAt ∈ gwl := gw_inT (i := 839) (by decide +kernel) (by decide +kernel)
theorem ml_X11_281 : Cond.methodLink RX11 281 yX2_tellGoods ∈ gwl := gw_inT (i := 840) (by decide +kernel) (by decide +kernel)
theorem ml_X11_284 : Cond.methodLink RX11 284 yX9_beginRow ∈ gwl := gw_inT (i := 848) (by decide +kernel) (by decide +kernel)
theorem ml_X11_288 : Cond.methodLink RX11 288 yX2_faultsAt ∈ gwl := gw_inT (i := 856) (by decide +kernel) (by decide +kernel)
theorem ml_X11_291 : Cond.methodLink RX11 291 yX2_goodsAt ∈ gwl := gw_inT (i := 857) (by decide +kernel) (by decide +kernel)
theorem ml_X11_294 : Cond.methodLink RX11 294 yX0_windowStart ∈ gwl := gw_inT (i := 865) (by decide +kernel) (by decide +kernel)
theorem ml_X11_297 : Cond.methodLink RX11 297 yX2_areTold ∈ gwl := gw_inT (i := 866) (by decide +kernel) (by decide +kernel)
theorem ml_X11_300 : Cond.methodLink RX11 300 yX0_faultsLeft ∈ gwl := gw_inT (i := 867) (by decide +kernel) (by decide +kernel)
theorem ml_X11_308 : Cond.methodLink RX11 308 yX10_begin ∈ gwl := gw_inT (i := 875) (by decide +kernel) (by decide +kernel)
theorem ml_X11_321 : Cond.methodLink RX11 321 yX2_callsBeside ∈ gwl := gw_inT (i := 880) (by decide +kernel) (by decide +kernel)
theorem ml_X11_324 : Cond.methodLink RX11 324 yX2_goodsBeside ∈ gwl := gw_inT (i := 884) (by decide +kernel) (by decide +kernel)
theorem ml_X11_327 : Cond.methodLink RX11 327 yX10_judge ∈ gwl := gw_inT (i := 889) (by decide +kernel) (by decide +kernel)
theorem ml_X11_348 : Cond.methodLink RX11 348 yX11_crowdFault ∈ gwl := gw_inT (i := 926) (by decide +kernel) (by decide +kernel)
theorem ml_X11_351 : Cond.methodLink RX11 351 yX7_wouldMove ∈ gwl := gw_inT (i := 937) (by decide +kernel) (by decide +kernel)
theorem ml_X11_354 : Cond.methodLink RX11 354 yX8_takeFrom ∈ gwl := gw_inT (i := 945) (by decide +kernel) (by decide +kernel)
theorem ml_X11_357 : Cond.methodLink RX11 357 yX8_switchCount ∈ gwl := gw_inT (i := 985) (by decide +kernel) (by decide +kernel)
theorem ml_X11_360 : Cond.methodLink RX11 360 yX11_isRefusal ∈ gwl := gw_inT (i := 143) (by decide +kernel) (by decide +kernel)
theorem ml_X11_363 : Cond.methodLink RX11 363 yX8_faultAt ∈ gwl := gw_inT (i := 178) (by decide +kernel) (by decide +kernel)
theorem ml_X11_366 : Cond.methodLink RX11 366 yX11_firstFault ∈ gwl := gw_inT (i := 623) (by decide +kernel) (by decide +kernel)
theorem ml_X0_3 : Cond.methodLink RX0 3 objectInit ∈ gwl := gw_inT (i := 331) (by decide +kernel) (by decide +kernel)
theorem ml_X0_9 : Cond.methodLink RX0 9 yX0_set ∈ gwl := gw_inT (i := 517) (by decide +kernel) (by decide +kernel)
theorem ml_X0_38 : Cond.methodLink RX0 38 yJ9_max_7cf53 ∈ gwl := gw_inT (i := 756) (by decide +kernel) (by decide +kernel)
theorem ml_X0_44 : Cond.methodLink RX0 44 yX0_windowStart ∈ gwl := gw_inT (i := 752) (by decide +kernel) (by decide +kernel)
theorem ml_X0_48 : Cond.methodLink RX0 48 yX2_areTold ∈ gwl := gw_inT (i := 759) (by decide +kernel) (by decide +kernel)
theorem ml_X0_54 : Cond.methodLink RX0 54 yX2_callsIn ∈ gwl := gw_inT (i := 767) (by decide +kernel) (by decide +kernel)
theorem ml_X0_58 : Cond.methodLink RX0 58 yX2_faultsIn ∈ gwl := gw_inT (i := 775) (by decide +kernel) (by decide +kernel)
theorem ml_X1_3 : Cond.methodLink RX1 3 objectInit ∈ gwl := gw_inT (i := 65) (by decide +kernel) (by decide +kernel)
theorem ml_X1_31 : Cond.methodLink RX1 31 yX8_switchAt ∈ gwl := gw_inT (i := 192) (by decide +kernel) (by decide +kernel)
theorem ml_X1_56 : Cond.methodLink RX1 56 yX1_whyAt ∈ gwl := gw_inT (i := 202) (by decide +kernel) (by decide +kernel)
theorem ml_X1_60 : Cond.methodLink RX1 60 yX1_wayBy ∈ gwl := gw_inT (i := 228) (by decide +kernel) (by decide +kernel)
theorem ml_X1_64 : Cond.methodLink RX1 64 yX1_stopOf ∈ gwl := gw_inT (i := 206) (by decide +kernel) (by decide +kernel)
theorem ml_X1_67 : Cond.methodLink RX1 67 yX1_hangHolds ∈ gwl := gw_inT (i := 215) (by decide +kernel) (by decide +kernel)
theorem ml_X1_75 : Cond.methodLink RX1 75 yX6_firstFor ∈ gwl := gw_inT (i := 220) (by decide +kernel) (by decide +kernel)
theorem ml_X1_85 : Cond.methodLink RX1 85 yX9_seatOf ∈ gwl := gw_inT (i := 232) (by decide +kernel) (by decide +kernel)
theorem ml_X1_89 : Cond.methodLink RX1 89 yX7_wayOfSeat ∈ gwl := gw_inT (i := 233) (by decide +kernel) (by decide +kernel)
theorem ml_X1_94 : Cond.methodLink RX1 94 yX6_wayOfRule ∈ gwl := gw_inT (i := 237) (by decide +kernel) (by decide +kernel)
theorem ml_X1_97 : Cond.methodLink RX1 97 yX9_isStopOf ∈ gwl := gw_inT (i := 210) (by decide +kernel) (by decide +kernel)
theorem ml_X1_104 : Cond.methodLink RX1 104 yX1_wayAt ∈ gwl := gw_inT (i := 219) (by decide +kernel) (by decide +kernel)
theorem ml_X2_3 : Cond.methodLink RX2 3 objectInit ∈ gwl := gw_inT (i := 414) (by decide +kernel) (by decide +kernel)
theorem ml_X2_29 : Cond.methodLink RX2 29 arraycopyName ∈ gwl := gw_inT (i := 984) (by decide +kernel) (by decide +kernel)
theorem ml_X2_35 : Cond.methodLink RX2 35 yX2_isTold ∈ gwl := gw_inT (i := 763) (by decide +kernel) (by decide +kernel)
theorem ml_X2_43 : Cond.methodLink RX2 43 yJ9_max_7cf53 ∈ gwl := gw_inT (i := 824) (by decide +kernel) (by decide +kernel)
theorem ml_X2_49 : Cond.methodLink RX2 49 yX2_callsAt ∈ gwl := gw_inT (i := 771) (by decide +kernel) (by decide +kernel)
theorem ml_X2_53 : Cond.methodLink RX2 53 yX2_faultsAt ∈ gwl := gw_inT (i := 779) (by decide +kernel) (by decide +kernel)
theorem ml_X2_56 : Cond.methodLink RX2 56 yX2_goodsAt ∈ gwl := gw_inT (i := 888) (by decide +kernel) (by decide +kernel)
theorem ml_X3_3 : Cond.methodLink RX3 3 objectInit ∈ gwl := gw_inT (i := 312) (by decide +kernel) (by decide +kernel)
theorem ml_X3_22 : Cond.methodLink RX3 22 arraycopyName ∈ gwl := gw_inT (i := 729) (by decide +kernel) (by decide +kernel)
theorem ml_X3_28 : Cond.methodLink RX3 28 yJ7_fill_53178 ∈ gwl := gw_inT (i := 677) (by decide +kernel) (by decide +kernel)
theorem ml_X3_34 : Cond.methodLink RX3 34 yJ9_min_7cf53 ∈ gwl := gw_inT (i := 678) (by decide +kernel) (by decide +kernel)
theorem ml_X3_40 : Cond.methodLink RX3 40 yX3_hasRow ∈ gwl := gw_inT (i := 689) (by decide +kernel) (by decide +kernel)
theorem ml_X3_48 : Cond.methodLink RX3 48 yX3_hasStep ∈ gwl := gw_inT (i := 706) (by decide +kernel) (by decide +kernel)
theorem ml_X3_52 : Cond.methodLink RX3 52 yX3_hasSteps ∈ gwl := gw_inT (i := 728) (by decide +kernel) (by decide +kernel)
theorem ml_X4_3 : Cond.methodLink RX4 3 objectInit ∈ gwl := gw_inT (i := 37) (by decide +kernel) (by decide +kernel)
theorem ml_X4_25 : Cond.methodLink RX4 25 yX4_clear ∈ gwl := gw_inT (i := 258) (by decide +kernel) (by decide +kernel)
theorem ml_X4_29 : Cond.methodLink RX4 29 yX4_spareSwitch ∈ gwl := gw_inT (i := 262) (by decide +kernel) (by decide +kernel)
theorem ml_X4_33 : Cond.methodLink RX4 33 yX9_begin ∈ gwl := gw_inT (i := 490) (by decide +kernel) (by decide +kernel)
theorem ml_X4_41 : Cond.methodLink RX4 41 yX9_takeFrom ∈ gwl := gw_inT (i := 953) (by decide +kernel) (by decide +kernel)
theorem ml_X4_48 : Cond.methodLink RX4 48 yX9_init ∈ gwl := gw_inT (i := 268) (by decide +kernel) (by decide +kernel)
theorem ml_X5_3 : Cond.methodLink RX5 3 objectInit ∈ gwl := gw_inT (i := 98) (by decide +kernel) (by decide +kernel)
theorem ml_X5_25 : Cond.methodLink RX5 25 yX5_gatherAsks ∈ gwl := gw_inT (i := 631) (by decide +kernel) (by decide +kernel)
theorem ml_X5_29 : Cond.methodLink RX5 29 yX5_measureTo ∈ gwl := gw_inT (i := 643) (by decide +kernel) (by decide +kernel)
theorem ml_X5_33 : Cond.methodLink RX5 33 yX5_nearest ∈ gwl := gw_inT (i := 647) (by decide +kernel) (by decide +kernel)
theorem ml_X5_37 : Cond.methodLink RX5 37 yX5_keepFrom ∈ gwl := gw_inT (i := 652) (by decide +kernel) (by decide +kernel)
theorem ml_X5_40 : Cond.methodLink RX5 40 yJ7_fill_53178 ∈ gwl := gw_inT (i := 635) (by decide +kernel) (by decide +kernel)
theorem ml_X5_46 : Cond.methodLink RX5 46 yX8_switchAt ∈ gwl := gw_inT (i := 636) (by decide +kernel) (by decide +kernel)
theorem ml_X5_61 : Cond.methodLink RX5 61 yX5_gatherStopped ∈ gwl := gw_inT (i := 638) (by decide +kernel) (by decide +kernel)
theorem ml_X5_65 : Cond.methodLink RX5 65 yX9_isStopOf ∈ gwl := gw_inT (i := 642) (by decide +kernel) (by decide +kernel)
theorem ml_X6_3 : Cond.methodLink RX6 3 objectInit ∈ gwl := gw_inT (i := 277) (by decide +kernel) (by decide +kernel)
theorem ml_X6_28 : Cond.methodLink RX6 28 arraycopyName ∈ gwl := gw_inT (i := 961) (by decide +kernel) (by decide +kernel)
theorem ml_X6_34 : Cond.methodLink RX6 34 yX1_markOf ∈ gwl := gw_inT (i := 224) (by decide +kernel) (by decide +kernel)
theorem ml_X7_3 : Cond.methodLink RX7 3 objectInit ∈ gwl := gw_inT (i := 299) (by decide +kernel) (by decide +kernel)
theorem ml_X7_18 : Cond.methodLink RX7 18 yJ7_fill_53178 ∈ gwl := gw_inT (i := 502) (by decide +kernel) (by decide +kernel)
theorem ml_X7_24 : Cond.methodLink RX7 24 arraycopyName ∈ gwl := gw_inT (i := 966) (by decide +kernel) (by decide +kernel)
theorem ml_X7_38 : Cond.methodLink RX7 38 yX7_goesOver ∈ gwl := gw_inT (i := 594) (by decide +kernel) (by decide +kernel)
theorem ml_X8_3 : Cond.methodLink RX8 3 objectInit ∈ gwl := gw_inT (i := 30) (by decide +kernel) (by decide +kernel)
theorem ml_X8_22 : Cond.methodLink RX8 22 yX8_placeAt ∈ gwl := gw_inT (i := 162) (by decide +kernel) (by decide +kernel)
theorem ml_X8_30 : Cond.methodLink RX8 30 yX8_faultAt ∈ gwl := gw_inT (i := 158) (by decide +kernel) (by decide +kernel)
theorem ml_X8_34 : Cond.methodLink RX8 34 yX8_switchAt ∈ gwl := gw_inT (i := 170) (by decide +kernel) (by decide +kernel)
theorem ml_X8_51 : Cond.methodLink RX8 51 yX4_takeFrom ∈ gwl := gw_inT (i := 949) (by decide +kernel) (by decide +kernel)
theorem ml_X9_3 : Cond.methodLink RX9 3 objectInit ∈ gwl := gw_inT (i := 271) (by decide +kernel) (by decide +kernel)
theorem ml_X9_63 : Cond.methodLink RX9 63 yX6_begin ∈ gwl := gw_inT (i := 494) (by decide +kernel) (by decide +kernel)
theorem ml_X9_66 : Cond.methodLink RX9 66 yX7_begin ∈ gwl := gw_inT (i := 498) (by decide +kernel) (by decide +kernel)
theorem ml_X9_67 : Cond.methodLink RX9 67 yX9_hangOn ∈ gwl := gw_inT (i := 505) (by decide +kernel) (by decide +kernel)
theorem ml_X9_78 : Cond.methodLink RX9 78 yX3_begin ∈ gwl := gw_inT (i := 509) (by decide +kernel) (by decide +kernel)
theorem ml_X9_79 : Cond.methodLink RX9 79 yX0_begin ∈ gwl := gw_inT (i := 513) (by decide +kernel) (by decide +kernel)
theorem ml_X9_80 : Cond.methodLink RX9 80 yX10_begin ∈ gwl := gw_inT (i := 521) (by decide +kernel) (by decide +kernel)
theorem ml_X9_83 : Cond.methodLink RX9 83 yX2_begin ∈ gwl := gw_inT (i := 529) (by decide +kernel) (by decide +kernel)
theorem ml_X9_86 : Cond.methodLink RX9 86 yX6_takeFrom ∈ gwl := gw_inT (i := 957) (by decide +kernel) (by decide +kernel)
theorem ml_X9_90 : Cond.methodLink RX9 90 yX7_takeFrom ∈ gwl := gw_inT (i := 962) (by decide +kernel) (by decide +kernel)
theorem ml_X9_99 : Cond.methodLink RX9 99 yX3_takeFrom ∈ gwl := gw_inT (i := 967) (by decide +kernel) (by decide +kernel)
theorem ml_X9_102 : Cond.methodLink RX9 102 yX0_takeFrom ∈ gwl := gw_inT (i := 971) (by decide +kernel) (by decide +kernel)
theorem ml_X9_105 : Cond.methodLink RX9 105 yX10_takeFrom ∈ gwl := gw_inT (i := 975) (by decide +kernel) (by decide +kernel)
theorem ml_X9_108 : Cond.methodLink RX9 108 yX2_takeFrom ∈ gwl := gw_inT (i := 980) (by decide +kernel) (by decide +kernel)
theorem ml_X9_126 : Cond.methodLink RX9 126 yX7_firstOf ∈ gwl := gw_inT (i := 786) (by decide +kernel) (by decide +kernel)
theorem ml_X9_130 : Cond.methodLink RX9 130 yX3_stepAt ∈ gwl := gw_inT (i := 784) (by decide +kernel) (by decide +kernel)
theorem ml_X9_133 : Cond.methodLink RX9 133 yX7_put ∈ gwl := gw_inT (i := 792) (by decide +kernel) (by decide +kernel)
theorem ml_X9_137 : Cond.methodLink RX9 137 yX3_hasRow ∈ gwl := gw_inT (i := 740) (by decide +kernel) (by decide +kernel)
theorem ml_X9_141 : Cond.methodLink RX9 141 yX3_hasStep ∈ gwl := gw_inT (i := 741) (by decide +kernel) (by decide +kernel)
theorem ml_X9_145 : Cond.methodLink RX9 145 yX3_isStoodOn ∈ gwl := gw_inT (i := 742) (by decide +kernel) (by decide +kernel)
theorem ml_X9_148 : Cond.methodLink RX9 148 yX9_rowOf ∈ gwl := gw_inT (i := 743) (by decide +kernel) (by decide +kernel)
theorem ml_X9_152 : Cond.methodLink RX9 152 yX0_faultOf ∈ gwl := gw_inT (i := 748) (by decide +kernel) (by decide +kernel)
theorem ml_X9_159 : Cond.methodLink RX9 159 yX7_sizeOf ∈ gwl := gw_inT (i := 785) (by decide +kernel) (by decide +kernel)
theorem ml_X9_162 : Cond.methodLink RX9 162 yX7_fits ∈ gwl := gw_inT (i := 787) (by decide +kernel) (by decide +kernel)
theorem ml_X9_169 : Cond.methodLink RX9 169 yX9_standOn ∈ gwl := gw_inT (i := 829) (by decide +kernel) (by decide +kernel)
theorem ml_X9_173 : Cond.methodLink RX9 173 yX0_noteSpent ∈ gwl := gw_inT (i := 830) (by decide +kernel) (by decide +kernel)
theorem ml_X10_3 : Cond.methodLink RX10 3 objectInit ∈ gwl := gw_inT (i := 364) (by decide +kernel) (by decide +kernel)
theorem ml_X10_33 : Cond.methodLink RX10 33 yX10_setLook ∈ gwl := gw_inT (i := 525) (by decide +kernel) (by decide +kernel)
theorem ml_X10_37 : Cond.methodLink RX10 37 yX10_begin ∈ gwl := gw_inT (i := 979) (by decide +kernel) (by decide +kernel)
theorem ml_X10_52 : Cond.methodLink RX10 52 yX10_choose ∈ gwl := gw_inT (i := 893) (by decide +kernel) (by decide +kernel)
theorem ml_X10_56 : Cond.methodLink RX10 56 yX10_dealsAsFarApart ∈ gwl := gw_inT (i := 896) (by decide +kernel) (by decide +kernel)
theorem ml_X10_60 : Cond.methodLink RX10 60 yX10_inMillionths ∈ gwl := gw_inT (i := 905) (by decide +kernel) (by decide +kernel)
theorem ml_X10_64 : Cond.methodLink RX10 64 yX10_isRare ∈ gwl := gw_inT (i := 909) (by decide +kernel) (by decide +kernel)
theorem ml_X10_68 : Cond.methodLink RX10 68 yX10_better ∈ gwl := gw_inT (i := 914) (by decide +kernel) (by decide +kernel)
theorem ml_X10_72 : Cond.methodLink RX10 72 yJ9_abs_0f7a4 ∈ gwl := gw_inT (i := 900) (by decide +kernel) (by decide +kernel)
theorem ml_X10_78 : Cond.methodLink RX10 78 yJ9_max_7cf53 ∈ gwl := gw_inT (i := 903) (by decide +kernel) (by decide +kernel)
theorem ml_X10_82 : Cond.methodLink RX10 82 yJ9_min_7cf53 ∈ gwl := gw_inT (i := 904) (by decide +kernel) (by decide +kernel)
theorem ml_L_9 : Cond.methodLink RL 9 yX11_init ∈ gwl := gw_inT (i := 19) (by decide +kernel) (by decide +kernel)
theorem ml_L_12 : Cond.methodLink RL 12 yX12_init ∈ gwl := gw_inT (i := 999) (by decide +kernel) (by decide +kernel)
theorem ml_L_13 : Cond.methodLink RL 13 yX11_caller ∈ gwl := gw_inT (i := 131) (by decide +kernel) (by decide +kernel)
theorem ml_L_17 : Cond.methodLink RL 17 yX12_caller ∈ gwl := gw_inT (i := 1082) (by decide +kernel) (by decide +kernel)
theorem ml_L_18 : Cond.methodLink RL 18 yX11_seat ∈ gwl := gw_inT (i := 150) (by decide +kernel) (by decide +kernel)
theorem ml_L_22 : Cond.methodLink RL 22 yX12_seat ∈ gwl := gw_inT (i := 1097) (by decide +kernel) (by decide +kernel)
theorem ml_L_23 : Cond.methodLink RL 23 yX11_way ∈ gwl := gw_inT (i := 184) (by decide +kernel) (by decide +kernel)
theorem ml_L_26 : Cond.methodLink RL 26 yX12_way ∈ gwl := gw_inT (i := 1129) (by decide +kernel) (by decide +kernel)
theorem ml_L_27 : Cond.methodLink RL 27 yX11_why ∈ gwl := gw_inT (i := 241) (by decide +kernel) (by decide +kernel)
theorem ml_L_30 : Cond.methodLink RL 30 yX12_why_ ∈ gwl := gw_inT (i := 1169) (by decide +kernel) (by decide +kernel)
theorem ml_L_31 : Cond.methodLink RL 31 yX11_make ∈ gwl := gw_inT (i := 246) (by decide +kernel) (by decide +kernel)
theorem ml_L_34 : Cond.methodLink RL 34 yX12_make ∈ gwl := gw_inT (i := 1173) (by decide +kernel) (by decide +kernel)
theorem ml_L_37 : Cond.methodLink RL 37 yX11_note ∈ gwl := gw_inT (i := 533) (by decide +kernel) (by decide +kernel)
theorem ml_L_41 : Cond.methodLink RL 41 yX12_note ∈ gwl := gw_inT (i := 1187) (by decide +kernel) (by decide +kernel)
theorem ml_L_42 : Cond.methodLink RL 42 yX11_empty ∈ gwl := gw_inT (i := 541) (by decide +kernel) (by decide +kernel)
theorem ml_L_45 : Cond.methodLink RL 45 yX12_empty ∈ gwl := gw_inT (i := 1191) (by decide +kernel) (by decide +kernel)
theorem ml_L_46 : Cond.methodLink RL 46 yX11_holds ∈ gwl := gw_inT (i := 546) (by decide +kernel) (by decide +kernel)
theorem ml_L_49 : Cond.methodLink RL 49 yX12_holds ∈ gwl := gw_inT (i := 1195) (by decide +kernel) (by decide +kernel)
theorem ml_L_50 : Cond.methodLink RL 50 yX11_read ∈ gwl := gw_inT (i := 554) (by decide +kernel) (by decide +kernel)
theorem ml_L_54 : Cond.methodLink RL 54 yX12_read ∈ gwl := gw_inT (i := 1199) (by decide +kernel) (by decide +kernel)
theorem ml_L_55 : Cond.methodLink RL 55 yX11_rule ∈ gwl := gw_inT (i := 558) (by decide +kernel) (by decide +kernel)
theorem ml_L_59 : Cond.methodLink RL 59 yX12_rule ∈ gwl := gw_inT (i := 1203) (by decide +kernel) (by decide +kernel)
theorem ml_L_60 : Cond.methodLink RL 60 yX11_unrule ∈ gwl := gw_inT (i := 570) (by decide +kernel) (by decide +kernel)
theorem ml_L_63 : Cond.methodLink RL 63 yX12_unrule ∈ gwl := gw_inT (i := 1208) (by decide +kernel) (by decide +kernel)
theorem ml_L_64 : Cond.methodLink RL 64 yX11_share ∈ gwl := gw_inT (i := 578) (by decide +kernel) (by decide +kernel)
theorem ml_L_67 : Cond.methodLink RL 67 yX12_share ∈ gwl := gw_inT (i := 1212) (by decide +kernel) (by decide +kernel)
theorem ml_L_68 : Cond.methodLink RL 68 yX11_shares ∈ gwl := gw_inT (i := 607) (by decide +kernel) (by decide +kernel)
theorem ml_L_72 : Cond.methodLink RL 72 yX12_shares ∈ gwl := gw_inT (i := 1220) (by decide +kernel) (by decide +kernel)
theorem ml_L_73 : Cond.methodLink RL 73 yX11_hang ∈ gwl := gw_inT (i := 615) (by decide +kernel) (by decide +kernel)
theorem ml_L_76 : Cond.methodLink RL 76 yX12_hang ∈ gwl := gw_inT (i := 1224) (by decide +kernel) (by decide +kernel)
theorem ml_L_77 : Cond.methodLink RL 77 yX11_stop ∈ gwl := gw_inT (i := 656) (by decide +kernel) (by decide +kernel)
theorem ml_L_81 : Cond.methodLink RL 81 yX12_stop ∈ gwl := gw_inT (i := 1244) (by decide +kernel) (by decide +kernel)
theorem ml_L_82 : Cond.methodLink RL 82 yX11_ring ∈ gwl := gw_inT (i := 661) (by decide +kernel) (by decide +kernel)
theorem ml_L_85 : Cond.methodLink RL 85 yX12_ring ∈ gwl := gw_inT (i := 1249) (by decide +kernel) (by decide +kernel)
theorem ml_L_86 : Cond.methodLink RL 86 yX11_row ∈ gwl := gw_inT (i := 669) (by decide +kernel) (by decide +kernel)
theorem ml_L_90 : Cond.methodLink RL 90 yX12_row ∈ gwl := gw_inT (i := 1253) (by decide +kernel) (by decide +kernel)
theorem ml_L_91 : Cond.methodLink RL 91 yX11_tear ∈ gwl := gw_inT (i := 681) (by decide +kernel) (by decide +kernel)
theorem ml_L_94 : Cond.methodLink RL 94 yX12_tear ∈ gwl := gw_inT (i := 1258) (by decide +kernel) (by decide +kernel)
theorem ml_L_95 : Cond.methodLink RL 95 yX11_step ∈ gwl := gw_inT (i := 693) (by decide +kernel) (by decide +kernel)
theorem ml_L_98 : Cond.methodLink RL 98 yX12_step ∈ gwl := gw_inT (i := 1262) (by decide +kernel) (by decide +kernel)
theorem ml_L_99 : Cond.methodLink RL 99 yX11_copy ∈ gwl := gw_inT (i := 711) (by decide +kernel) (by decide +kernel)
theorem ml_L_102 : Cond.methodLink RL 102 yX12_copy ∈ gwl := gw_inT (i := 1266) (by decide +kernel) (by decide +kernel)
theorem ml_L_103 : Cond.methodLink RL 103 yX11_grow ∈ gwl := gw_inT (i := 732) (by decide +kernel) (by decide +kernel)
theorem ml_L_106 : Cond.methodLink RL 106 yX12_grow ∈ gwl := gw_inT (i := 1274) (by decide +kernel) (by decide +kernel)
theorem ml_L_107 : Cond.methodLink RL 107 yX11_back ∈ gwl := gw_inT (i := 793) (by decide +kernel) (by decide +kernel)
theorem ml_L_110 : Cond.methodLink RL 110 yX12_back ∈ gwl := gw_inT (i := 1296) (by decide +kernel) (by decide +kernel)
theorem ml_L_111 : Cond.methodLink RL 111 yX11_stands ∈ gwl := gw_inT (i := 797) (by decide +kernel) (by decide +kernel)
theorem ml_L_114 : Cond.methodLink RL 114 yX12_stands ∈ gwl := gw_inT (i := 1304) (by decide +kernel) (by decide +kernel)
theorem ml_L_115 : Cond.methodLink RL 115 yX11_budget ∈ gwl := gw_inT (i := 801) (by decide +kernel) (by decide +kernel)
theorem ml_L_119 : Cond.methodLink RL 119 yX12_budget ∈ gwl := gw_inT (i := 1309) (by decide +kernel) (by decide +kernel)
theorem ml_L_120 : Cond.methodLink RL 120 yX11_waits ∈ gwl := gw_inT (i := 807) (by decide +kernel) (by decide +kernel)
theorem ml_L_123 : Cond.methodLink RL 123 yX12_waits ∈ gwl := gw_inT (i := 1315) (by decide +kernel) (by decide +kernel)
theorem ml_L_124 : Cond.methodLink RL 124 yX11_count ∈ gwl := gw_inT (i := 811) (by decide +kernel) (by decide +kernel)
theorem ml_L_127 : Cond.methodLink RL 127 yX12_count ∈ gwl := gw_inT (i := 1320) (by decide +kernel) (by decide +kernel)
theorem ml_L_128 : Cond.methodLink RL 128 yX11_goods ∈ gwl := gw_inT (i := 834) (by decide +kernel) (by decide +kernel)
theorem ml_L_131 : Cond.methodLink RL 131 yX12_goods ∈ gwl := gw_inT (i := 1331) (by decide +kernel) (by decide +kernel)
theorem ml_L_132 : Cond.methodLink RL 132 yX11_counts ∈ gwl := gw_inT (i := 844) (by decide +kernel) (by decide +kernel)
theorem ml_L_135 : Cond.methodLink RL 135 yX12_counts ∈ gwl := gw_inT (i := 1335) (by decide +kernel) (by decide +kernel)
theorem ml_L_136 : Cond.methodLink RL 136 yX11_told ∈ gwl := gw_inT (i := 852) (by decide +kernel) (by decide +kernel)
theorem ml_L_139 : Cond.methodLink RL 139 yX12_told ∈ gwl := gw_inT (i := 1339) (by decide +kernel) (by decide +kernel)
theorem ml_L_140 : Cond.methodLink RL 140 yX11_left ∈ gwl := gw_inT (i := 861) (by decide +kernel) (by decide +kernel)
theorem ml_L_143 : Cond.methodLink RL 143 yX12_left ∈ gwl := gw_inT (i := 1343) (by decide +kernel) (by decide +kernel)
theorem ml_L_144 : Cond.methodLink RL 144 yX11_trial ∈ gwl := gw_inT (i := 871) (by decide +kernel) (by decide +kernel)
theorem ml_L_147 : Cond.methodLink RL 147 yX12_trial ∈ gwl := gw_inT (i := 1347) (by decide +kernel) (by decide +kernel)
theorem ml_L_148 : Cond.methodLink RL 148 yX11_look ∈ gwl := gw_inT (i := 876) (by decide +kernel) (by decide +kernel)
theorem ml_L_151 : Cond.methodLink RL 151 yX12_look ∈ gwl := gw_inT (i := 1352) (by decide +kernel) (by decide +kernel)
theorem ml_L_152 : Cond.methodLink RL 152 yX11_trialTold ∈ gwl := gw_inT (i := 918) (by decide +kernel) (by decide +kernel)
theorem ml_L_155 : Cond.methodLink RL 155 yX12_trialTold ∈ gwl := gw_inT (i := 1377) (by decide +kernel) (by decide +kernel)
theorem ml_L_156 : Cond.methodLink RL 156 yX11_among ∈ gwl := gw_inT (i := 922) (by decide +kernel) (by decide +kernel)
theorem ml_L_159 : Cond.methodLink RL 159 yX12_among ∈ gwl := gw_inT (i := 1382) (by decide +kernel) (by decide +kernel)
theorem ml_L_160 : Cond.methodLink RL 160 yX11_both ∈ gwl := gw_inT (i := 929) (by decide +kernel) (by decide +kernel)
theorem ml_L_163 : Cond.methodLink RL 163 yX12_both ∈ gwl := gw_inT (i := 1395) (by decide +kernel) (by decide +kernel)
theorem ml_L_164 : Cond.methodLink RL 164 yX11_moves ∈ gwl := gw_inT (i := 933) (by decide +kernel) (by decide +kernel)
theorem ml_L_167 : Cond.methodLink RL 167 yX12_moves ∈ gwl := gw_inT (i := 1399) (by decide +kernel) (by decide +kernel)
theorem ml_L_168 : Cond.methodLink RL 168 yX11_image ∈ gwl := gw_inT (i := 941) (by decide +kernel) (by decide +kernel)
theorem ml_L_172 : Cond.methodLink RL 172 yX12_image ∈ gwl := gw_inT (i := 1403) (by decide +kernel) (by decide +kernel)
theorem ml_L_173 : Cond.methodLink RL 173 yX11_restore ∈ gwl := gw_inT (i := 989) (by decide +kernel) (by decide +kernel)
theorem ml_L_176 : Cond.methodLink RL 176 yX12_restore ∈ gwl := gw_inT (i := 1411) (by decide +kernel) (by decide +kernel)
theorem ml_L_177 : Cond.methodLink RL 177 yX11_status ∈ gwl := gw_inT (i := 993) (by decide +kernel) (by decide +kernel)
theorem ml_L_180 : Cond.methodLink RL 180 yX12_status ∈ gwl := gw_inT (i := 1415) (by decide +kernel) (by decide +kernel)
theorem ml_X12_1 : Cond.methodLink RX12 1 objectInit ∈ gwl := gw_inT (i := 1002) (by decide +kernel) (by decide +kernel)
theorem ml_X12_43 : Cond.methodLink RX12 43 yX12_of ∈ gwl := gw_inT (i := 1108) (by decide +kernel) (by decide +kernel)
theorem ml_X12_47 : Cond.methodLink RX12 47 yX12_isPlace ∈ gwl := gw_inT (i := 1105) (by decide +kernel) (by decide +kernel)
theorem ml_X12_51 : Cond.methodLink RX12 51 yX12_isSwitch ∈ gwl := gw_inT (i := 1112) (by decide +kernel) (by decide +kernel)
theorem ml_X12_54 : Cond.methodLink RX12 54 yX12_isStepped ∈ gwl := gw_inT (i := 1116) (by decide +kernel) (by decide +kernel)
theorem ml_X12_57 : Cond.methodLink RX12 57 yX12_hangs ∈ gwl := gw_inT (i := 1120) (by decide +kernel) (by decide +kernel)
theorem ml_X12_62 : Cond.methodLink RX12 62 yX12_isIn ∈ gwl := gw_inT (i := 1087) (by decide +kernel) (by decide +kernel)
theorem ml_X12_72 : Cond.methodLink RX12 72 yX12_no ∈ gwl := gw_inT (i := 1093) (by decide +kernel) (by decide +kernel)
theorem ml_X12_91 : Cond.methodLink RX12 91 yX12_seatOf ∈ gwl := gw_inT (i := 1124) (by decide +kernel) (by decide +kernel)
theorem ml_X12_94 : Cond.methodLink RX12 94 yX12_ruleOf ∈ gwl := gw_inT (i := 1161) (by decide +kernel) (by decide +kernel)
theorem ml_X12_97 : Cond.methodLink RX12 97 yX12_wayOfSeat ∈ gwl := gw_inT (i := 1165) (by decide +kernel) (by decide +kernel)
theorem ml_X12_100 : Cond.methodLink RX12 100 yX12_hangsOn ∈ gwl := gw_inT (i := 1141) (by decide +kernel) (by decide +kernel)
theorem ml_X12_103 : Cond.methodLink RX12 103 yX12_stops ∈ gwl := gw_inT (i := 1145) (by decide +kernel) (by decide +kernel)
theorem ml_X12_107 : Cond.methodLink RX12 107 yX12_isReady ∈ gwl := gw_inT (i := 1137) (by decide +kernel) (by decide +kernel)
theorem ml_X12_110 : Cond.methodLink RX12 110 yX12_stoppedBy ∈ gwl := gw_inT (i := 1149) (by decide +kernel) (by decide +kernel)
theorem ml_X12_113 : Cond.methodLink RX12 113 yX12_isOther ∈ gwl := gw_inT (i := 1153) (by decide +kernel) (by decide +kernel)
theorem ml_X12_116 : Cond.methodLink RX12 116 yX12_ownWay ∈ gwl := gw_inT (i := 1157) (by decide +kernel) (by decide +kernel)
theorem ml_X12_119 : Cond.methodLink RX12 119 yX12_why ∈ gwl := gw_inT (i := 1101) (by decide +kernel) (by decide +kernel)
theorem ml_X12_122 : Cond.methodLink RX12 122 yX12_findWays ∈ gwl := gw_inT (i := 1133) (by decide +kernel) (by decide +kernel)
theorem ml_X12_125 : Cond.methodLink RX12 125 yX12_to ∈ gwl := gw_inT (i := 1183) (by decide +kernel) (by decide +kernel)
theorem ml_X12_133 : Cond.methodLink RX12 133 yX12_clears ∈ gwl := gw_inT (i := 1179) (by decide +kernel) (by decide +kernel)
theorem ml_X12_139 : Cond.methodLink RX12 139 yX12_goesOver ∈ gwl := gw_inT (i := 1216) (by decide +kernel) (by decide +kernel)
theorem ml_X12_143 : Cond.methodLink RX12 143 yX12_asks ∈ gwl := gw_inT (i := 1236) (by decide +kernel) (by decide +kernel)
theorem ml_X12_146 : Cond.methodLink RX12 146 yX12_findFar ∈ gwl := gw_inT (i := 1232) (by decide +kernel) (by decide +kernel)
theorem ml_X12_152 : Cond.methodLink RX12 152 yX12_nextOn ∈ gwl := gw_inT (i := 1240) (by decide +kernel) (by decide +kernel)
theorem ml_X12_155 : Cond.methodLink RX12 155 yX12_isRing ∈ gwl := gw_inT (i := 1228) (by decide +kernel) (by decide +kernel)
theorem ml_X12_163 : Cond.methodLink RX12 163 yX12_whyTwo ∈ gwl := gw_inT (i := 1270) (by decide +kernel) (by decide +kernel)
theorem ml_X12_178 : Cond.methodLink RX12 178 yX12_minuteAt ∈ gwl := gw_inT (i := 1289) (by decide +kernel) (by decide +kernel)
theorem ml_X12_181 : Cond.methodLink RX12 181 yX12_window ∈ gwl := gw_inT (i := 1285) (by decide +kernel) (by decide +kernel)
theorem ml_X12_185 : Cond.methodLink RX12 185 yX12_isSpent ∈ gwl := gw_inT (i := 1292) (by decide +kernel) (by decide +kernel)
theorem ml_X12_188 : Cond.methodLink RX12 188 yX12_isMinute ∈ gwl := gw_inT (i := 1278) (by decide +kernel) (by decide +kernel)
theorem ml_X12_191 : Cond.methodLink RX12 191 yX12_whyNoGrowth ∈ gwl := gw_inT (i := 1281) (by decide +kernel) (by decide +kernel)
theorem ml_X12_194 : Cond.methodLink RX12 194 yX12_goesTo ∈ gwl := gw_inT (i := 1300) (by decide +kernel) (by decide +kernel)
theorem ml_X12_205 : Cond.methodLink RX12 205 yX12_isWay ∈ gwl := gw_inT (i := 1328) (by decide +kernel) (by decide +kernel)
theorem ml_X12_208 : Cond.methodLink RX12 208 yX12_whyCounts ∈ gwl := gw_inT (i := 1324) (by decide +kernel) (by decide +kernel)
theorem ml_X12_228 : Cond.methodLink RX12 228 yX12_chosen ∈ gwl := gw_inT (i := 1364) (by decide +kernel) (by decide +kernel)
theorem ml_X12_240 : Cond.methodLink RX12 240 yX12_sums ∈ gwl := gw_inT (i := 1356) (by decide +kernel) (by decide +kernel)
theorem ml_X12_243 : Cond.methodLink RX12 243 yX12_chances ∈ gwl := gw_inT (i := 1360) (by decide +kernel) (by decide +kernel)
theorem ml_X12_246 : Cond.methodLink RX12 246 yX12_millionths ∈ gwl := gw_inT (i := 1367) (by decide +kernel) (by decide +kernel)
theorem ml_X12_250 : Cond.methodLink RX12 250 yX12_isAbove ∈ gwl := gw_inT (i := 1373) (by decide +kernel) (by decide +kernel)
theorem ml_X12_259 : Cond.methodLink RX12 259 yX12_isNumber ∈ gwl := gw_inT (i := 1386) (by decide +kernel) (by decide +kernel)
theorem ml_X12_262 : Cond.methodLink RX12 262 yX12_whyAmong ∈ gwl := gw_inT (i := 1390) (by decide +kernel) (by decide +kernel)
theorem ml_X12_268 : Cond.methodLink RX12 268 yX12_switches ∈ gwl := gw_inT (i := 1407) (by decide +kernel) (by decide +kernel)
theorem mn_X11_25 : Cond.methodLinkNest RX11 25 yX1_init "LadderDesk" ∈ nwl := List.mem_filter.mpr ⟨List.mem_of_getElem? (i := 62) (by decide +kernel), rfl⟩
theorem mn_X11_32 : Cond.methodLinkNest RX11 32 yX5_init "LadderDesk" ∈ nwl := List.mem_filter.mpr ⟨List.mem_of_getElem? (i := 95) (by decide +kernel), rfl⟩
theorem mn_X11_79 : Cond.methodLinkNest RX11 79 yX1_wayAt "LadderDesk" ∈ nwl := List.mem_filter.mpr ⟨List.mem_of_getElem? (i := 197) (by decide +kernel), rfl⟩
theorem mn_X11_83 : Cond.methodLinkNest RX11 83 yX1_whyAt "LadderDesk" ∈ nwl := List.mem_filter.mpr ⟨List.mem_of_getElem? (i := 245) (by decide +kernel), rfl⟩
theorem mn_X1_52 : Cond.methodLinkNest RX1 52 yX11_hasBit "LadderDesk" ∈ nwl := List.mem_filter.mpr ⟨List.mem_of_getElem? (i := 201) (by decide +kernel), rfl⟩
theorem mn_X2_39 : Cond.methodLinkNest RX2 39 yX11_within "LadderDesk" ∈ nwl := List.mem_filter.mpr ⟨List.mem_of_getElem? (i := 823) (by decide +kernel), rfl⟩
theorem mn_X3_44 : Cond.methodLinkNest RX3 44 yX11_within "LadderDesk" ∈ nwl := List.mem_filter.mpr ⟨List.mem_of_getElem? (i := 723) (by decide +kernel), rfl⟩
theorem mn_X5_57 : Cond.methodLinkNest RX5 57 yX11_within "LadderDesk" ∈ nwl := List.mem_filter.mpr ⟨List.mem_of_getElem? (i := 637) (by decide +kernel), rfl⟩
theorem mn_X5_69 : Cond.methodLinkNest RX5 69 yX11_hasBit "LadderDesk" ∈ nwl := List.mem_filter.mpr ⟨List.mem_of_getElem? (i := 651) (by decide +kernel), rfl⟩
theorem mn_X7_30 : Cond.methodLinkNest RX7 30 yX11_isSharedWay "LadderDesk" ∈ nwl := List.mem_filter.mpr ⟨List.mem_of_getElem? (i := 602) (by decide +kernel), rfl⟩
theorem mn_X7_34 : Cond.methodLinkNest RX7 34 yX11_within "LadderDesk" ∈ nwl := List.mem_filter.mpr ⟨List.mem_of_getElem? (i := 593) (by decide +kernel), rfl⟩
theorem mn_X8_17 : Cond.methodLinkNest RX8 17 yX4_init "LadderDesk" ∈ nwl := List.mem_filter.mpr ⟨List.mem_of_getElem? (i := 34) (by decide +kernel), rfl⟩
theorem mn_X8_18 : Cond.methodLinkNest RX8 18 yX11_within "LadderDesk" ∈ nwl := List.mem_filter.mpr ⟨List.mem_of_getElem? (i := 166) (by decide +kernel), rfl⟩
theorem mn_X8_48 : Cond.methodLinkNest RX8 48 yX11_hasBit "LadderDesk" ∈ nwl := List.mem_filter.mpr ⟨List.mem_of_getElem? (i := 167) (by decide +kernel), rfl⟩
theorem mn_X9_11 : Cond.methodLinkNest RX9 11 yX6_init "LadderDesk" ∈ nwl := List.mem_filter.mpr ⟨List.mem_of_getElem? (i := 274) (by decide +kernel), rfl⟩
theorem mn_X9_20 : Cond.methodLinkNest RX9 20 yX7_init "LadderDesk" ∈ nwl := List.mem_filter.mpr ⟨List.mem_of_getElem? (i := 296) (by decide +kernel), rfl⟩
theorem mn_X9_27 : Cond.methodLinkNest RX9 27 yX3_init "LadderDesk" ∈ nwl := List.mem_filter.mpr ⟨List.mem_of_getElem? (i := 309) (by decide +kernel), rfl⟩
theorem mn_X9_34 : Cond.methodLinkNest RX9 34 yX0_init "LadderDesk" ∈ nwl := List.mem_filter.mpr ⟨List.mem_of_getElem? (i := 328) (by decide +kernel), rfl⟩
theorem mn_X9_41 : Cond.methodLinkNest RX9 41 yX10_init "LadderDesk" ∈ nwl := List.mem_filter.mpr ⟨List.mem_of_getElem? (i := 361) (by decide +kernel), rfl⟩
theorem mn_X9_52 : Cond.methodLinkNest RX9 52 yX2_init "LadderDesk" ∈ nwl := List.mem_filter.mpr ⟨List.mem_of_getElem? (i := 411) (by decide +kernel), rfl⟩
theorem mn_X9_113 : Cond.methodLinkNest RX9 113 yX11_hasBit "LadderDesk" ∈ nwl := List.mem_filter.mpr ⟨List.mem_of_getElem? (i := 214) (by decide +kernel), rfl⟩
theorem mn_X9_117 : Cond.methodLinkNest RX9 117 yX11_within "LadderDesk" ∈ nwl := List.mem_filter.mpr ⟨List.mem_of_getElem? (i := 747) (by decide +kernel), rfl⟩
theorem kc_X11_41 : Cond.constant RX11 41 (999999) ∈ gwl := gw_inT (i := 135) (by decide +kernel) (by decide +kernel)
theorem kc_X11_252 : Cond.constant RX11 252 (1000000) ∈ gwl := gw_inT (i := 805) (by decide +kernel) (by decide +kernel)
theorem kc_X0_61 : Cond.constantLong RX0 61 (10000) ∈ gwl := gw_inT (i := 783) (by decide +kernel) (by decide +kernel)
theorem kc_X9_111 : Cond.constantLong RX9 111 (10000) ∈ gwl := gw_inT (i := 183) (by decide +kernel) (by decide +kernel)
theorem kc_X10_85 : Cond.constantLong RX10 85 (10000) ∈ gwl := gw_inT (i := 913) (by decide +kernel) (by decide +kernel)
theorem kc_X10_87 : Cond.constantLong RX10 87 (10) ∈ gwl := gw_inT (i := 908) (by decide +kernel) (by decide +kernel)
theorem kc_L_35 : Cond.constantLong RL 35 (4294967295) ∈ gwl := gw_inT (i := 1421) (by decide +kernel) (by decide +kernel)
theorem kc_X12_7 : Cond.constant RX12 7 (63040) ∈ gwl := gw_inT (i := 1003) (by decide +kernel) (by decide +kernel)
theorem kc_X12_60 : Cond.constantLong RX12 60 (999999) ∈ gwl := gw_inT (i := 1086) (by decide +kernel) (by decide +kernel)
theorem kc_X12_66 : Cond.constantLong RX12 66 (15) ∈ gwl := gw_inT (i := 1090) (by decide +kernel) (by decide +kernel)
theorem kc_X12_68 : Cond.constantLong RX12 68 (4000) ∈ gwl := gw_inT (i := 1091) (by decide +kernel) (by decide +kernel)
theorem kc_X12_70 : Cond.constantLong RX12 70 (7) ∈ gwl := gw_inT (i := 1092) (by decide +kernel) (by decide +kernel)
theorem kc_X12_89 : Cond.constantLong RX12 89 (10000) ∈ gwl := gw_inT (i := 1128) (by decide +kernel) (by decide +kernel)
theorem kc_X12_129 : Cond.constantLong RX12 129 (4) ∈ gwl := gw_inT (i := 1177) (by decide +kernel) (by decide +kernel)
theorem kc_X12_131 : Cond.constantLong RX12 131 (9999) ∈ gwl := gw_inT (i := 1178) (by decide +kernel) (by decide +kernel)
theorem kc_X12_137 : Cond.constantLong RX12 137 (2) ∈ gwl := gw_inT (i := 1207) (by decide +kernel) (by decide +kernel)
theorem kc_X12_159 : Cond.constantLong RX12 159 (65535) ∈ gwl := gw_inT (i := 1248) (by decide +kernel) (by decide +kernel)
theorem kc_X12_161 : Cond.constantLong RX12 161 (20) ∈ gwl := gw_inT (i := 1257) (by decide +kernel) (by decide +kernel)
theorem kc_X12_197 : Cond.constantLong RX12 197 (3) ∈ gwl := gw_inT (i := 1308) (by decide +kernel) (by decide +kernel)
theorem kc_X12_199 : Cond.constantLong RX12 199 (60) ∈ gwl := gw_inT (i := 1313) (by decide +kernel) (by decide +kernel)
theorem kc_X12_201 : Cond.constantLong RX12 201 (1000000) ∈ gwl := gw_inT (i := 1314) (by decide +kernel) (by decide +kernel)
theorem kc_X12_203 : Cond.constantLong RX12 203 (100) ∈ gwl := gw_inT (i := 1319) (by decide +kernel) (by decide +kernel)
theorem kc_X12_211 : Cond.constantLong RX12 211 (5000) ∈ gwl := gw_inT (i := 1351) (by decide +kernel) (by decide +kernel)
theorem kc_X12_235 : Cond.constantLong RX12 235 (1000000000) ∈ gwl := gw_inT (i := 1376) (by decide +kernel) (by decide +kernel)
theorem kc_X12_237 : Cond.constant RX12 237 (1000000) ∈ gwl := gw_inT (i := 1371) (by decide +kernel) (by decide +kernel)
theorem kc_X12_238 : Cond.constantLong RX12 238 (10) ∈ gwl := gw_inT (i := 1372) (by decide +kernel) (by decide +kernel)
theorem kc_X12_254 : Cond.constantLong RX12 254 (6) ∈ gwl := gw_inT (i := 1381) (by decide +kernel) (by decide +kernel)
theorem kc_X12_256 : Cond.constantLong RX12 256 (2000) ∈ gwl := gw_inT (i := 1394) (by decide +kernel) (by decide +kernel)
theorem kc_X12_258 : Cond.constant RX12 258 (999999) ∈ gwl := gw_inT (i := 1389) (by decide +kernel) (by decide +kernel)
theorem kc_X12_271 : Cond.constantLong RX12 271 (-13) ∈ gwl := gw_inT (i := 1419) (by decide +kernel) (by decide +kernel)
theorem kc_X12_273 : Cond.constantLong RX12 273 (-2) ∈ gwl := gw_inT (i := 1420) (by decide +kernel) (by decide +kernel)
theorem kl_X11_7 : Cond.classLink RX11 7 RX8 ∈ gwl := gw_inT (i := 25) (by decide +kernel) (by decide +kernel)
theorem kl_X11_23 : Cond.classLink RX11 23 RX1 ∈ gwl := gw_inT (i := 60) (by decide +kernel) (by decide +kernel)
theorem kl_X11_30 : Cond.classLink RX11 30 RX5 ∈ gwl := gw_inT (i := 93) (by decide +kernel) (by decide +kernel)
theorem kl_X4_16 : Cond.classLink RX4 16 RX9 ∈ gwl := gw_inT (i := 266) (by decide +kernel) (by decide +kernel)
theorem kl_X8_9 : Cond.classLink RX8 9 RX4 ∈ gwl := gw_inT (i := 31) (by decide +kernel) (by decide +kernel)
theorem kl_X9_9 : Cond.classLink RX9 9 RX6 ∈ gwl := gw_inT (i := 272) (by decide +kernel) (by decide +kernel)
theorem kl_X9_18 : Cond.classLink RX9 18 RX7 ∈ gwl := gw_inT (i := 294) (by decide +kernel) (by decide +kernel)
theorem kl_X9_25 : Cond.classLink RX9 25 RX3 ∈ gwl := gw_inT (i := 307) (by decide +kernel) (by decide +kernel)
theorem kl_X9_32 : Cond.classLink RX9 32 RX0 ∈ gwl := gw_inT (i := 326) (by decide +kernel) (by decide +kernel)
theorem kl_X9_39 : Cond.classLink RX9 39 RX10 ∈ gwl := gw_inT (i := 359) (by decide +kernel) (by decide +kernel)
theorem kl_X9_46 : Cond.classLink RX9 46 RX2 ∈ gwl := gw_inT (i := 408) (by decide +kernel) (by decide +kernel)
theorem kl_L_7 : Cond.classLink RL 7 RX11 ∈ gwl := gw_inT (i := 17) (by decide +kernel) (by decide +kernel)
theorem kl_L_10 : Cond.classLink RL 10 RX12 ∈ gwl := gw_inT (i := 997) (by decide +kernel) (by decide +kernel)
theorem ki_X11 : Cond.instantiable RX11 6 ∈ gwl ∧ Cond.initialized RX11 ∈ gwl := ⟨gw_inT (i := 18) (by decide +kernel) (by decide +kernel), gw_inT (i := 1) (by decide +kernel) (by decide +kernel)⟩
theorem ki_X0 : Cond.instantiable RX0 7 ∈ gwl ∧ Cond.initialized RX0 ∈ gwl := ⟨gw_inT (i := 327) (by decide +kernel) (by decide +kernel), gw_inT (i := 11) (by decide +kernel) (by decide +kernel)⟩
theorem ki_X1 : Cond.instantiable RX1 8 ∈ gwl ∧ Cond.initialized RX1 ∈ gwl := ⟨gw_inT (i := 61) (by decide +kernel) (by decide +kernel), gw_inT (i := 4) (by decide +kernel) (by decide +kernel)⟩
theorem ki_X2 : Cond.instantiable RX2 5 ∈ gwl ∧ Cond.initialized RX2 ∈ gwl := ⟨gw_inT (i := 410) (by decide +kernel) (by decide +kernel), gw_inT (i := 13) (by decide +kernel) (by decide +kernel)⟩
theorem ki_X3 : Cond.instantiable RX3 3 ∈ gwl ∧ Cond.initialized RX3 ∈ gwl := ⟨gw_inT (i := 308) (by decide +kernel) (by decide +kernel), gw_inT (i := 10) (by decide +kernel) (by decide +kernel)⟩
theorem ki_X4 : Cond.instantiable RX4 4 ∈ gwl ∧ Cond.initialized RX4 ∈ gwl := ⟨gw_inT (i := 33) (by decide +kernel) (by decide +kernel), gw_inT (i := 3) (by decide +kernel) (by decide +kernel)⟩
theorem ki_X5 : Cond.instantiable RX5 4 ∈ gwl ∧ Cond.initialized RX5 ∈ gwl := ⟨gw_inT (i := 94) (by decide +kernel) (by decide +kernel), gw_inT (i := 5) (by decide +kernel) (by decide +kernel)⟩
theorem ki_X6 : Cond.instantiable RX6 5 ∈ gwl ∧ Cond.initialized RX6 ∈ gwl := ⟨gw_inT (i := 273) (by decide +kernel) (by decide +kernel), gw_inT (i := 8) (by decide +kernel) (by decide +kernel)⟩
theorem ki_X7 : Cond.instantiable RX7 2 ∈ gwl ∧ Cond.initialized RX7 ∈ gwl := ⟨gw_inT (i := 295) (by decide +kernel) (by decide +kernel), gw_inT (i := 9) (by decide +kernel) (by decide +kernel)⟩
theorem ki_X8 : Cond.instantiable RX8 1 ∈ gwl ∧ Cond.initialized RX8 ∈ gwl := ⟨gw_inT (i := 26) (by decide +kernel) (by decide +kernel), gw_inT (i := 2) (by decide +kernel) (by decide +kernel)⟩
theorem ki_X9 : Cond.instantiable RX9 13 ∈ gwl ∧ Cond.initialized RX9 ∈ gwl := ⟨gw_inT (i := 267) (by decide +kernel) (by decide +kernel), gw_inT (i := 7) (by decide +kernel) (by decide +kernel)⟩
theorem ki_X10 : Cond.instantiable RX10 11 ∈ gwl ∧ Cond.initialized RX10 ∈ gwl := ⟨gw_inT (i := 360) (by decide +kernel) (by decide +kernel), gw_inT (i := 12) (by decide +kernel) (by decide +kernel)⟩
theorem ki_X12 : Cond.instantiable RX12 25 ∈ gwl ∧ Cond.initialized RX12 ∈ gwl := ⟨gw_inT (i := 998) (by decide +kernel) (by decide +kernel), gw_inT (i := 6) (by decide +kernel) (by decide +kernel)⟩
theorem kb_J7_fill_53178 : kB yJ7_fill_53178 cJ7_fill_53178 4 none 2 := ⟨gw_inT (i := 14) (by decide +kernel) (by decide +kernel), gw_inT (i := 504) (by decide +kernel) (by decide +kernel), by decide +kernel, by decide⟩
theorem ks_J7_fill_53178 : Cond.static yJ7_fill_53178 ∈ gwl := gw_inT (i := 503) (by decide +kernel) (by decide +kernel)
theorem kb_J9_abs_0f7a4 : kB yJ9_abs_0f7a4 cJ9_abs_0f7a4 1 (some .int) 1 := ⟨gw_inT (i := 15) (by decide +kernel) (by decide +kernel), gw_inT (i := 902) (by decide +kernel) (by decide +kernel), by decide +kernel, by decide⟩
theorem ks_J9_abs_0f7a4 : Cond.static yJ9_abs_0f7a4 ∈ gwl := gw_inT (i := 901) (by decide +kernel) (by decide +kernel)
theorem kb_J9_max_7cf53 : kB yJ9_max_7cf53 cJ9_max_7cf53 2 (some .int) 2 := ⟨gw_inT (i := 15) (by decide +kernel) (by decide +kernel), gw_inT (i := 758) (by decide +kernel) (by decide +kernel), by decide +kernel, by decide⟩
theorem ks_J9_max_7cf53 : Cond.static yJ9_max_7cf53 ∈ gwl := gw_inT (i := 757) (by decide +kernel) (by decide +kernel)
theorem kb_J9_min_7cf53 : kB yJ9_min_7cf53 cJ9_min_7cf53 2 (some .int) 2 := ⟨gw_inT (i := 15) (by decide +kernel) (by decide +kernel), gw_inT (i := 680) (by decide +kernel) (by decide +kernel), by decide +kernel, by decide⟩
theorem ks_J9_min_7cf53 : Cond.static yJ9_min_7cf53 ∈ gwl := gw_inT (i := 679) (by decide +kernel) (by decide +kernel)
theorem kb_X0_begin : kB yX0_begin cX0_begin 1 none 0 := ⟨gw_inT (i := 11) (by decide +kernel) (by decide +kernel), gw_inT (i := 516) (by decide +kernel) (by decide +kernel), by decide +kernel, by decide⟩
theorem kv_X0_begin : kV yX0_begin := ⟨gw_inT (i := 514) (by decide +kernel) (by decide +kernel), gw_inT (i := 515) (by decide +kernel) (by decide +kernel)⟩
theorem kb_X0_faultOf : kB yX0_faultOf cX0_faultOf 8 (some .int) 2 := ⟨gw_inT (i := 11) (by decide +kernel) (by decide +kernel), gw_inT (i := 751) (by decide +kernel) (by decide +kernel), by decide +kernel, by decide⟩
theorem kv_X0_faultOf : kV yX0_faultOf := ⟨gw_inT (i := 749) (by decide +kernel) (by decide +kernel), gw_inT (i := 750) (by decide +kernel) (by decide +kernel)⟩
theorem kb_X0_faultsLeft : kB yX0_faultsLeft cX0_faultsLeft 6 (some .int) 2 := ⟨gw_inT (i := 11) (by decide +kernel) (by decide +kernel), gw_inT (i := 870) (by decide +kernel) (by decide +kernel), by decide +kernel, by decide⟩
theorem kv_X0_faultsLeft : kV yX0_faultsLeft := ⟨gw_inT (i := 868) (by decide +kernel) (by decide +kernel), gw_inT (i := 869) (by decide +kernel) (by decide +kernel)⟩
theorem kb_X0_init : kB yX0_init cX0_init 1 none 0 := ⟨gw_inT (i := 11) (by decide +kernel) (by decide +kernel), gw_inT (i := 330) (by decide +kernel) (by decide +kernel), by decide +kernel, by decide⟩
theorem kv_X0_init : yX0_init.name = "<init>" ∧ Cond.instanceMethod yX0_init ∈ gwl := ⟨rfl, gw_inT (i := 329) (by decide +kernel) (by decide +kernel)⟩
theorem kb_X0_noteSpent : kB yX0_noteSpent cX0_noteSpent 2 none 1 := ⟨gw_inT (i := 11) (by decide +kernel) (by decide +kernel), gw_inT (i := 833) (by decide +kernel) (by decide +kernel), by decide +kernel, by decide⟩
theorem kv_X0_noteSpent : kV yX0_noteSpent := ⟨gw_inT (i := 831) (by decide +kernel) (by decide +kernel), gw_inT (i := 832) (by decide +kernel) (by decide +kernel)⟩
theorem kb_X0_set : kB yX0_set cX0_set 5 none 4 := ⟨gw_inT (i := 11) (by decide +kernel) (by decide +kernel), gw_inT (i := 520) (by decide +kernel) (by decide +kernel), by decide +kernel, by decide⟩
theorem kv_X0_set : kV yX0_set := ⟨gw_inT (i := 518) (by decide +kernel) (by decide +kernel), gw_inT (i := 519) (by decide +kernel) (by decide +kernel)⟩
theorem kb_X0_takeFrom : kB yX0_takeFrom cX0_takeFrom 2 none 1 := ⟨gw_inT (i := 11) (by decide +kernel) (by decide +kernel), gw_inT (i := 974) (by decide +kernel) (by decide +kernel), by decide +kernel, by decide⟩
theorem kv_X0_takeFrom : kV yX0_takeFrom := ⟨gw_inT (i := 972) (by decide +kernel) (by decide +kernel), gw_inT (i := 973) (by decide +kernel) (by decide +kernel)⟩
theorem kb_X0_windowStart : kB yX0_windowStart cX0_windowStart 2 (some .int) 1 := ⟨gw_inT (i := 11) (by decide +kernel) (by decide +kernel), gw_inT (i := 755) (by decide +kernel) (by decide +kernel), by decide +kernel, by decide⟩
theorem kv_X0_windowStart : kV yX0_windowStart := ⟨gw_inT (i := 753) (by decide +kernel) (by decide +kernel), gw_inT (i := 754) (by decide +kernel) (by decide +kernel)⟩
theorem kb_X10_begin : kB yX10_begin cX10_begin 5 none 4 := ⟨gw_inT (i := 12) (by decide +kernel) (by decide +kernel), gw_inT (i := 524) (by decide +kernel) (by decide +kernel), by decide +kernel, by decide⟩
theorem kv_X10_begin : kV yX10_begin := ⟨gw_inT (i := 522) (by decide +kernel) (by decide +kernel), gw_inT (i := 523) (by decide +kernel) (by decide +kernel)⟩
theorem kb_X10_better : kB yX10_better cX10_better 2 (some .int) 0 := ⟨gw_inT (i := 12) (by decide +kernel) (by decide +kernel), gw_inT (i := 917) (by decide +kernel) (by decide +kernel), by decide +kernel, by decide⟩
theorem kv_X10_better : kV yX10_better := ⟨gw_inT (i := 916) (by decide +kernel) (by decide +kernel), gw_in (i := 20) (by decide +kernel) (by decide +kernel)⟩
theorem kb_X10_choose : kB yX10_choose cX10_choose 5 (some .long) 2 := ⟨gw_inT (i := 12) (by decide +kernel) (by decide +kernel), gw_inT (i := 895) (by decide +kernel) (by decide +kernel), by decide +kernel, by decide⟩
theorem ks_X10_choose : Cond.static yX10_choose ∈ gwl := gw_inT (i := 894) (by decide +kernel) (by decide +kernel)
theorem kb_X10_dealsAsFarApart : kB yX10_dealsAsFarApart cX10_dealsAsFarApart 6 (some .long) 0 := ⟨gw_inT (i := 12) (by decide +kernel) (by decide +kernel), gw_inT (i := 899) (by decide +kernel) (by decide +kernel), by decide +kernel, by decide⟩
theorem kv_X10_dealsAsFarApart : kV yX10_dealsAsFarApart := ⟨gw_inT (i := 898) (by decide +kernel) (by decide +kernel), gw_in (i := 18) (by decide +kernel) (by decide +kernel)⟩
theorem kb_X10_inMillionths : kB yX10_inMillionths cX10_inMillionths 9 (some .int) 2 := ⟨gw_inT (i := 12) (by decide +kernel) (by decide +kernel), gw_inT (i := 907) (by decide +kernel) (by decide +kernel), by decide +kernel, by decide⟩
theorem ks_X10_inMillionths : Cond.static yX10_inMillionths ∈ gwl := gw_inT (i := 906) (by decide +kernel) (by decide +kernel)
theorem kb_X10_init : kB yX10_init cX10_init 1 none 0 := ⟨gw_inT (i := 12) (by decide +kernel) (by decide +kernel), gw_inT (i := 363) (by decide +kernel) (by decide +kernel), by decide +kernel, by decide⟩
theorem kv_X10_init : yX10_init.name = "<init>" ∧ Cond.instanceMethod yX10_init ∈ gwl := ⟨rfl, gw_inT (i := 362) (by decide +kernel) (by decide +kernel)⟩
theorem kb_X10_isRare : kB yX10_isRare cX10_isRare 7 (some .boolean) 2 := ⟨gw_inT (i := 12) (by decide +kernel) (by decide +kernel), gw_inT (i := 912) (by decide +kernel) (by decide +kernel), by decide +kernel, by decide⟩
theorem kv_X10_isRare : kV yX10_isRare := ⟨gw_inT (i := 911) (by decide +kernel) (by decide +kernel), gw_in (i := 19) (by decide +kernel) (by decide +kernel)⟩
theorem kb_X10_judge : kB yX10_judge cX10_judge 9 (some .int) 4 := ⟨gw_inT (i := 12) (by decide +kernel) (by decide +kernel), gw_inT (i := 892) (by decide +kernel) (by decide +kernel), by decide +kernel, by decide⟩
theorem kv_X10_judge : kV yX10_judge := ⟨gw_inT (i := 890) (by decide +kernel) (by decide +kernel), gw_inT (i := 891) (by decide +kernel) (by decide +kernel)⟩
theorem kb_X10_setLook : kB yX10_setLook cX10_setLook 5 none 4 := ⟨gw_inT (i := 12) (by decide +kernel) (by decide +kernel), gw_inT (i := 528) (by decide +kernel) (by decide +kernel), by decide +kernel, by decide⟩
theorem kv_X10_setLook : kV yX10_setLook := ⟨gw_inT (i := 527) (by decide +kernel) (by decide +kernel), gw_in (i := 8) (by decide +kernel) (by decide +kernel)⟩
theorem kb_X10_takeFrom : kB yX10_takeFrom cX10_takeFrom 2 none 1 := ⟨gw_inT (i := 12) (by decide +kernel) (by decide +kernel), gw_inT (i := 978) (by decide +kernel) (by decide +kernel), by decide +kernel, by decide⟩
theorem kv_X10_takeFrom : kV yX10_takeFrom := ⟨gw_inT (i := 976) (by decide +kernel) (by decide +kernel), gw_inT (i := 977) (by decide +kernel) (by decide +kernel)⟩
theorem kb_X11_among : kB yX11_among cX11_among 8 (some .int) 4 := ⟨gw_inT (i := 1) (by decide +kernel) (by decide +kernel), gw_inT (i := 925) (by decide +kernel) (by decide +kernel), by decide +kernel, by decide⟩
theorem kv_X11_among : kV yX11_among := ⟨gw_inT (i := 923) (by decide +kernel) (by decide +kernel), gw_inT (i := 924) (by decide +kernel) (by decide +kernel)⟩
theorem kb_X11_answer : kB yX11_answer cX11_answer 2 (some .int) 1 := ⟨gw_inT (i := 1) (by decide +kernel) (by decide +kernel), gw_inT (i := 569) (by decide +kernel) (by decide +kernel), by decide +kernel, by decide⟩
theorem kv_X11_answer : kV yX11_answer := ⟨gw_inT (i := 568) (by decide +kernel) (by decide +kernel), gw_in (i := 9) (by decide +kernel) (by decide +kernel)⟩
theorem kb_X11_back : kB yX11_back cX11_back 3 (some .int) 1 := ⟨gw_inT (i := 1) (by decide +kernel) (by decide +kernel), gw_inT (i := 796) (by decide +kernel) (by decide +kernel), by decide +kernel, by decide⟩
theorem kv_X11_back : kV yX11_back := ⟨gw_inT (i := 794) (by decide +kernel) (by decide +kernel), gw_inT (i := 795) (by decide +kernel) (by decide +kernel)⟩
theorem kb_X11_both : kB yX11_both cX11_both 8 (some .int) 4 := ⟨gw_inT (i := 1) (by decide +kernel) (by decide +kernel), gw_inT (i := 932) (by decide +kernel) (by decide +kernel), by decide +kernel, by decide⟩
theorem kv_X11_both : kV yX11_both := ⟨gw_inT (i := 930) (by decide +kernel) (by decide +kernel), gw_inT (i := 931) (by decide +kernel) (by decide +kernel)⟩
theorem kb_X11_budget : kB yX11_budget cX11_budget 7 (some .int) 5 := ⟨gw_inT (i := 1) (by decide +kernel) (by decide +kernel), gw_inT (i := 804) (by decide +kernel) (by decide +kernel), by decide +kernel, by decide⟩
theorem kv_X11_budget : kV yX11_budget := ⟨gw_inT (i := 802) (by decide +kernel) (by decide +kernel), gw_inT (i := 803) (by decide +kernel) (by decide +kernel)⟩
theorem kb_X11_caller : kB yX11_caller cX11_caller 5 (some .int) 4 := ⟨gw_inT (i := 1) (by decide +kernel) (by decide +kernel), gw_inT (i := 134) (by decide +kernel) (by decide +kernel), by decide +kernel, by decide⟩
theorem kv_X11_caller : kV yX11_caller := ⟨gw_inT (i := 132) (by decide +kernel) (by decide +kernel), gw_inT (i := 133) (by decide +kernel) (by decide +kernel)⟩
theorem kb_X11_copy : kB yX11_copy cX11_copy 8 (some .int) 5 := ⟨gw_inT (i := 1) (by decide +kernel) (by decide +kernel), gw_inT (i := 714) (by decide +kernel) (by decide +kernel), by decide +kernel, by decide⟩
theorem kv_X11_copy : kV yX11_copy := ⟨gw_inT (i := 712) (by decide +kernel) (by decide +kernel), gw_inT (i := 713) (by decide +kernel) (by decide +kernel)⟩
theorem kb_X11_count : kB yX11_count cX11_count 8 (some .int) 5 := ⟨gw_inT (i := 1) (by decide +kernel) (by decide +kernel), gw_inT (i := 814) (by decide +kernel) (by decide +kernel), by decide +kernel, by decide⟩
theorem kv_X11_count : kV yX11_count := ⟨gw_inT (i := 812) (by decide +kernel) (by decide +kernel), gw_inT (i := 813) (by decide +kernel) (by decide +kernel)⟩
theorem kb_X11_counts : kB yX11_counts cX11_counts 6 (some .int) 3 := ⟨gw_inT (i := 1) (by decide +kernel) (by decide +kernel), gw_inT (i := 847) (by decide +kernel) (by decide +kernel), by decide +kernel, by decide⟩
theorem kv_X11_counts : kV yX11_counts := ⟨gw_inT (i := 845) (by decide +kernel) (by decide +kernel), gw_inT (i := 846) (by decide +kernel) (by decide +kernel)⟩
theorem kb_X11_crowdFault : kB yX11_crowdFault cX11_crowdFault 3 (some .int) 2 := ⟨gw_inT (i := 1) (by decide +kernel) (by decide +kernel), gw_inT (i := 928) (by decide +kernel) (by decide +kernel), by decide +kernel, by decide⟩
theorem ks_X11_crowdFault : Cond.static yX11_crowdFault ∈ gwl := gw_inT (i := 927) (by decide +kernel) (by decide +kernel)
theorem kb_X11_empty : kB yX11_empty cX11_empty 3 (some .int) 1 := ⟨gw_inT (i := 1) (by decide +kernel) (by decide +kernel), gw_inT (i := 544) (by decide +kernel) (by decide +kernel), by decide +kernel, by decide⟩
theorem kv_X11_empty : kV yX11_empty := ⟨gw_inT (i := 542) (by decide +kernel) (by decide +kernel), gw_inT (i := 543) (by decide +kernel) (by decide +kernel)⟩
theorem kb_X11_firstFault : kB yX11_firstFault cX11_firstFault 2 (some .int) 2 := ⟨gw_inT (i := 1) (by decide +kernel) (by decide +kernel), gw_inT (i := 625) (by decide +kernel) (by decide +kernel), by decide +kernel, by decide⟩
theorem ks_X11_firstFault : Cond.static yX11_firstFault ∈ gwl := gw_inT (i := 624) (by decide +kernel) (by decide +kernel)
theorem kb_X11_goods : kB yX11_goods cX11_goods 7 (some .int) 4 := ⟨gw_inT (i := 1) (by decide +kernel) (by decide +kernel), gw_inT (i := 837) (by decide +kernel) (by decide +kernel), by decide +kernel, by decide⟩
theorem kv_X11_goods : kV yX11_goods := ⟨gw_inT (i := 835) (by decide +kernel) (by decide +kernel), gw_inT (i := 836) (by decide +kernel) (by decide +kernel)⟩
theorem kb_X11_grow : kB yX11_grow cX11_grow 5 (some .int) 2 := ⟨gw_inT (i := 1) (by decide +kernel) (by decide +kernel), gw_inT (i := 735) (by decide +kernel) (by decide +kernel), by decide +kernel, by decide⟩
theorem kv_X11_grow : kV yX11_grow := ⟨gw_inT (i := 733) (by decide +kernel) (by decide +kernel), gw_inT (i := 734) (by decide +kernel) (by decide +kernel)⟩
theorem kb_X11_hang : kB yX11_hang cX11_hang 9 (some .int) 3 := ⟨gw_inT (i := 1) (by decide +kernel) (by decide +kernel), gw_inT (i := 618) (by decide +kernel) (by decide +kernel), by decide +kernel, by decide⟩
theorem kv_X11_hang : kV yX11_hang := ⟨gw_inT (i := 616) (by decide +kernel) (by decide +kernel), gw_inT (i := 617) (by decide +kernel) (by decide +kernel)⟩
theorem kb_X11_hangFault : kB yX11_hangFault cX11_hangFault 5 (some .int) 2 := ⟨gw_inT (i := 1) (by decide +kernel) (by decide +kernel), gw_inT (i := 622) (by decide +kernel) (by decide +kernel), by decide +kernel, by decide⟩
theorem kv_X11_hangFault : kV yX11_hangFault := ⟨gw_inT (i := 621) (by decide +kernel) (by decide +kernel), gw_in (i := 11) (by decide +kernel) (by decide +kernel)⟩
theorem kb_X11_hasBit : kB yX11_hasBit cX11_hasBit 2 (some .boolean) 2 := ⟨gw_inT (i := 1) (by decide +kernel) (by decide +kernel), gw_inT (i := 169) (by decide +kernel) (by decide +kernel), by decide +kernel, by decide⟩
theorem ks_X11_hasBit : Cond.static yX11_hasBit ∈ gwl := gw_inT (i := 168) (by decide +kernel) (by decide +kernel)
theorem kb_X11_holds : kB yX11_holds cX11_holds 3 (some .int) 1 := ⟨gw_inT (i := 1) (by decide +kernel) (by decide +kernel), gw_inT (i := 549) (by decide +kernel) (by decide +kernel), by decide +kernel, by decide⟩
theorem kv_X11_holds : kV yX11_holds := ⟨gw_inT (i := 547) (by decide +kernel) (by decide +kernel), gw_inT (i := 548) (by decide +kernel) (by decide +kernel)⟩
theorem kb_X11_image : kB yX11_image cX11_image 1 (some .int) 0 := ⟨gw_inT (i := 1) (by decide +kernel) (by decide +kernel), gw_inT (i := 944) (by decide +kernel) (by decide +kernel), by decide +kernel, by decide⟩
theorem kv_X11_image : kV yX11_image := ⟨gw_inT (i := 942) (by decide +kernel) (by decide +kernel), gw_inT (i := 943) (by decide +kernel) (by decide +kernel)⟩
theorem kb_X11_init : kB yX11_init cX11_init 1 none 0 := ⟨gw_inT (i := 1) (by decide +kernel) (by decide +kernel), gw_inT (i := 21) (by decide +kernel) (by decide +kernel), by decide +kernel, by decide⟩
theorem kv_X11_init : yX11_init.name = "<init>" ∧ Cond.instanceMethod yX11_init ∈ gwl := ⟨rfl, gw_inT (i := 20) (by decide +kernel) (by decide +kernel)⟩
theorem kb_X11_isCountedAt : kB yX11_isCountedAt cX11_isCountedAt 2 (some .boolean) 2 := ⟨gw_inT (i := 1) (by decide +kernel) (by decide +kernel), gw_inT (i := 817) (by decide +kernel) (by decide +kernel), by decide +kernel, by decide⟩
theorem ks_X11_isCountedAt : Cond.static yX11_isCountedAt ∈ gwl := gw_inT (i := 816) (by decide +kernel) (by decide +kernel)
theorem kb_X11_isFactor : kB yX11_isFactor cX11_isFactor 1 (some .boolean) 1 := ⟨gw_inT (i := 1) (by decide +kernel) (by decide +kernel), gw_inT (i := 253) (by decide +kernel) (by decide +kernel), by decide +kernel, by decide⟩
theorem ks_X11_isFactor : Cond.static yX11_isFactor ∈ gwl := gw_inT (i := 252) (by decide +kernel) (by decide +kernel)
theorem kb_X11_isRefusal : kB yX11_isRefusal cX11_isRefusal 1 (some .boolean) 1 := ⟨gw_inT (i := 1) (by decide +kernel) (by decide +kernel), gw_inT (i := 145) (by decide +kernel) (by decide +kernel), by decide +kernel, by decide⟩
theorem ks_X11_isRefusal : Cond.static yX11_isRefusal ∈ gwl := gw_inT (i := 144) (by decide +kernel) (by decide +kernel)
theorem kb_X11_isSharedWay : kB yX11_isSharedWay cX11_isSharedWay 1 (some .boolean) 1 := ⟨gw_inT (i := 1) (by decide +kernel) (by decide +kernel), gw_inT (i := 584) (by decide +kernel) (by decide +kernel), by decide +kernel, by decide⟩
theorem ks_X11_isSharedWay : Cond.static yX11_isSharedWay ∈ gwl := gw_inT (i := 583) (by decide +kernel) (by decide +kernel)
theorem kb_X11_left : kB yX11_left cX11_left 5 (some .int) 2 := ⟨gw_inT (i := 1) (by decide +kernel) (by decide +kernel), gw_inT (i := 864) (by decide +kernel) (by decide +kernel), by decide +kernel, by decide⟩
theorem kv_X11_left : kV yX11_left := ⟨gw_inT (i := 862) (by decide +kernel) (by decide +kernel), gw_inT (i := 863) (by decide +kernel) (by decide +kernel)⟩
theorem kb_X11_look : kB yX11_look cX11_look 8 (some .int) 2 := ⟨gw_inT (i := 1) (by decide +kernel) (by decide +kernel), gw_inT (i := 879) (by decide +kernel) (by decide +kernel), by decide +kernel, by decide⟩
theorem kv_X11_look : kV yX11_look := ⟨gw_inT (i := 877) (by decide +kernel) (by decide +kernel), gw_inT (i := 878) (by decide +kernel) (by decide +kernel)⟩
theorem kb_X11_make : kB yX11_make cX11_make 6 (some .int) 4 := ⟨gw_inT (i := 1) (by decide +kernel) (by decide +kernel), gw_inT (i := 249) (by decide +kernel) (by decide +kernel), by decide +kernel, by decide⟩
theorem kv_X11_make : kV yX11_make := ⟨gw_inT (i := 247) (by decide +kernel) (by decide +kernel), gw_inT (i := 248) (by decide +kernel) (by decide +kernel)⟩
theorem kb_X11_moves : kB yX11_moves cX11_moves 10 (some .int) 4 := ⟨gw_inT (i := 1) (by decide +kernel) (by decide +kernel), gw_inT (i := 936) (by decide +kernel) (by decide +kernel), by decide +kernel, by decide⟩
theorem kv_X11_moves : kV yX11_moves := ⟨gw_inT (i := 934) (by decide +kernel) (by decide +kernel), gw_inT (i := 935) (by decide +kernel) (by decide +kernel)⟩
theorem kb_X11_note : kB yX11_note cX11_note 5 (some .int) 2 := ⟨gw_inT (i := 1) (by decide +kernel) (by decide +kernel), gw_inT (i := 536) (by decide +kernel) (by decide +kernel), by decide +kernel, by decide⟩
theorem kv_X11_note : kV yX11_note := ⟨gw_inT (i := 534) (by decide +kernel) (by decide +kernel), gw_inT (i := 535) (by decide +kernel) (by decide +kernel)⟩
theorem kb_X11_read : kB yX11_read cX11_read 3 (some .long) 1 := ⟨gw_inT (i := 1) (by decide +kernel) (by decide +kernel), gw_inT (i := 557) (by decide +kernel) (by decide +kernel), by decide +kernel, by decide⟩
theorem kv_X11_read : kV yX11_read := ⟨gw_inT (i := 555) (by decide +kernel) (by decide +kernel), gw_inT (i := 556) (by decide +kernel) (by decide +kernel)⟩
theorem kb_X11_refuse : kB yX11_refuse cX11_refuse 2 (some .int) 1 := ⟨gw_inT (i := 1) (by decide +kernel) (by decide +kernel), gw_inT (i := 142) (by decide +kernel) (by decide +kernel), by decide +kernel, by decide⟩
theorem kv_X11_refuse : kV yX11_refuse := ⟨gw_inT (i := 141) (by decide +kernel) (by decide +kernel), gw_in (i := 0) (by decide +kernel) (by decide +kernel)⟩
theorem kb_X11_refuseAt : kB yX11_refuseAt cX11_refuseAt 3 (some .int) 2 := ⟨gw_inT (i := 1) (by decide +kernel) (by decide +kernel), gw_inT (i := 177) (by decide +kernel) (by decide +kernel), by decide +kernel, by decide⟩
theorem kv_X11_refuseAt : kV yX11_refuseAt := ⟨gw_inT (i := 176) (by decide +kernel) (by decide +kernel), gw_in (i := 1) (by decide +kernel) (by decide +kernel)⟩
theorem kb_X11_refuseAtEither : kB yX11_refuseAtEither cX11_refuseAtEither 4 (some .int) 3 := ⟨gw_inT (i := 1) (by decide +kernel) (by decide +kernel), gw_inT (i := 718) (by decide +kernel) (by decide +kernel), by decide +kernel, by decide⟩
theorem kv_X11_refuseAtEither : kV yX11_refuseAtEither := ⟨gw_inT (i := 717) (by decide +kernel) (by decide +kernel), gw_in (i := 17) (by decide +kernel) (by decide +kernel)⟩
theorem kb_X11_restore : kB yX11_restore cX11_restore 1 (some .int) 0 := ⟨gw_inT (i := 1) (by decide +kernel) (by decide +kernel), gw_inT (i := 992) (by decide +kernel) (by decide +kernel), by decide +kernel, by decide⟩
theorem kv_X11_restore : kV yX11_restore := ⟨gw_inT (i := 990) (by decide +kernel) (by decide +kernel), gw_inT (i := 991) (by decide +kernel) (by decide +kernel)⟩
theorem kb_X11_ring : kB yX11_ring cX11_ring 2 (some .int) 1 := ⟨gw_inT (i := 1) (by decide +kernel) (by decide +kernel), gw_inT (i := 664) (by decide +kernel) (by decide +kernel), by decide +kernel, by decide⟩
theorem kv_X11_ring : kV yX11_ring := ⟨gw_inT (i := 662) (by decide +kernel) (by decide +kernel), gw_inT (i := 663) (by decide +kernel) (by decide +kernel)⟩
theorem kb_X11_row : kB yX11_row cX11_row 4 (some .int) 2 := ⟨gw_inT (i := 1) (by decide +kernel) (by decide +kernel), gw_inT (i := 672) (by decide +kernel) (by decide +kernel), by decide +kernel, by decide⟩
theorem kv_X11_row : kV yX11_row := ⟨gw_inT (i := 670) (by decide +kernel) (by decide +kernel), gw_inT (i := 671) (by decide +kernel) (by decide +kernel)⟩
theorem kb_X11_rule : kB yX11_rule cX11_rule 7 (some .int) 5 := ⟨gw_inT (i := 1) (by decide +kernel) (by decide +kernel), gw_inT (i := 561) (by decide +kernel) (by decide +kernel), by decide +kernel, by decide⟩
theorem kv_X11_rule : kV yX11_rule := ⟨gw_inT (i := 559) (by decide +kernel) (by decide +kernel), gw_inT (i := 560) (by decide +kernel) (by decide +kernel)⟩
theorem kb_X11_seat : kB yX11_seat cX11_seat 3 (some .int) 1 := ⟨gw_inT (i := 1) (by decide +kernel) (by decide +kernel), gw_inT (i := 153) (by decide +kernel) (by decide +kernel), by decide +kernel, by decide⟩
theorem kv_X11_seat : kV yX11_seat := ⟨gw_inT (i := 151) (by decide +kernel) (by decide +kernel), gw_inT (i := 152) (by decide +kernel) (by decide +kernel)⟩
theorem kb_X11_share : kB yX11_share cX11_share 8 (some .int) 4 := ⟨gw_inT (i := 1) (by decide +kernel) (by decide +kernel), gw_inT (i := 581) (by decide +kernel) (by decide +kernel), by decide +kernel, by decide⟩
theorem kv_X11_share : kV yX11_share := ⟨gw_inT (i := 579) (by decide +kernel) (by decide +kernel), gw_inT (i := 580) (by decide +kernel) (by decide +kernel)⟩
theorem kb_X11_shares : kB yX11_shares cX11_shares 5 (some .int) 3 := ⟨gw_inT (i := 1) (by decide +kernel) (by decide +kernel), gw_inT (i := 610) (by decide +kernel) (by decide +kernel), by decide +kernel, by decide⟩
theorem kv_X11_shares : kV yX11_shares := ⟨gw_inT (i := 608) (by decide +kernel) (by decide +kernel), gw_inT (i := 609) (by decide +kernel) (by decide +kernel)⟩
theorem kb_X11_stands : kB yX11_stands cX11_stands 4 (some .int) 2 := ⟨gw_inT (i := 1) (by decide +kernel) (by decide +kernel), gw_inT (i := 800) (by decide +kernel) (by decide +kernel), by decide +kernel, by decide⟩
theorem kv_X11_stands : kV yX11_stands := ⟨gw_inT (i := 798) (by decide +kernel) (by decide +kernel), gw_inT (i := 799) (by decide +kernel) (by decide +kernel)⟩
theorem kb_X11_status : kB yX11_status cX11_status 2 (some .int) 1 := ⟨gw_inT (i := 1) (by decide +kernel) (by decide +kernel), gw_inT (i := 996) (by decide +kernel) (by decide +kernel), by decide +kernel, by decide⟩
theorem kv_X11_status : kV yX11_status := ⟨gw_inT (i := 994) (by decide +kernel) (by decide +kernel), gw_inT (i := 995) (by decide +kernel) (by decide +kernel)⟩
theorem kb_X11_step : kB yX11_step cX11_step 6 (some .int) 3 := ⟨gw_inT (i := 1) (by decide +kernel) (by decide +kernel), gw_inT (i := 696) (by decide +kernel) (by decide +kernel), by decide +kernel, by decide⟩
theorem kv_X11_step : kV yX11_step := ⟨gw_inT (i := 694) (by decide +kernel) (by decide +kernel), gw_inT (i := 695) (by decide +kernel) (by decide +kernel)⟩
theorem kb_X11_stop : kB yX11_stop cX11_stop 7 (some .int) 3 := ⟨gw_inT (i := 1) (by decide +kernel) (by decide +kernel), gw_inT (i := 659) (by decide +kernel) (by decide +kernel), by decide +kernel, by decide⟩
theorem kv_X11_stop : kV yX11_stop := ⟨gw_inT (i := 657) (by decide +kernel) (by decide +kernel), gw_inT (i := 658) (by decide +kernel) (by decide +kernel)⟩
theorem kb_X11_tear : kB yX11_tear cX11_tear 3 (some .int) 1 := ⟨gw_inT (i := 1) (by decide +kernel) (by decide +kernel), gw_inT (i := 684) (by decide +kernel) (by decide +kernel), by decide +kernel, by decide⟩
theorem kv_X11_tear : kV yX11_tear := ⟨gw_inT (i := 682) (by decide +kernel) (by decide +kernel), gw_inT (i := 683) (by decide +kernel) (by decide +kernel)⟩
theorem kb_X11_told : kB yX11_told cX11_told 7 (some .int) 4 := ⟨gw_inT (i := 1) (by decide +kernel) (by decide +kernel), gw_inT (i := 855) (by decide +kernel) (by decide +kernel), by decide +kernel, by decide⟩
theorem kv_X11_told : kV yX11_told := ⟨gw_inT (i := 853) (by decide +kernel) (by decide +kernel), gw_inT (i := 854) (by decide +kernel) (by decide +kernel)⟩
theorem kb_X11_trial : kB yX11_trial cX11_trial 7 (some .int) 5 := ⟨gw_inT (i := 1) (by decide +kernel) (by decide +kernel), gw_inT (i := 874) (by decide +kernel) (by decide +kernel), by decide +kernel, by decide⟩
theorem kv_X11_trial : kV yX11_trial := ⟨gw_inT (i := 872) (by decide +kernel) (by decide +kernel), gw_inT (i := 873) (by decide +kernel) (by decide +kernel)⟩
theorem kb_X11_trialTold : kB yX11_trialTold cX11_trialTold 4 (some .int) 2 := ⟨gw_inT (i := 1) (by decide +kernel) (by decide +kernel), gw_inT (i := 921) (by decide +kernel) (by decide +kernel), by decide +kernel, by decide⟩
theorem kv_X11_trialTold : kV yX11_trialTold := ⟨gw_inT (i := 919) (by decide +kernel) (by decide +kernel), gw_inT (i := 920) (by decide +kernel) (by decide +kernel)⟩
theorem kb_X11_unrule : kB yX11_unrule cX11_unrule 3 (some .int) 1 := ⟨gw_inT (i := 1) (by decide +kernel) (by decide +kernel), gw_inT (i := 573) (by decide +kernel) (by decide +kernel), by decide +kernel, by decide⟩
theorem kv_X11_unrule : kV yX11_unrule := ⟨gw_inT (i := 571) (by decide +kernel) (by decide +kernel), gw_inT (i := 572) (by decide +kernel) (by decide +kernel)⟩
theorem kb_X11_waits : kB yX11_waits cX11_waits 5 (some .int) 2 := ⟨gw_inT (i := 1) (by decide +kernel) (by decide +kernel), gw_inT (i := 810) (by decide +kernel) (by decide +kernel), by decide +kernel, by decide⟩
theorem kv_X11_waits : kV yX11_waits := ⟨gw_inT (i := 808) (by decide +kernel) (by decide +kernel), gw_inT (i := 809) (by decide +kernel) (by decide +kernel)⟩
theorem kb_X11_way : kB yX11_way cX11_way 2 (some .int) 1 := ⟨gw_inT (i := 1) (by decide +kernel) (by decide +kernel), gw_inT (i := 187) (by decide +kernel) (by decide +kernel), by decide +kernel, by decide⟩
theorem kv_X11_way : kV yX11_way := ⟨gw_inT (i := 185) (by decide +kernel) (by decide +kernel), gw_inT (i := 186) (by decide +kernel) (by decide +kernel)⟩
theorem kb_X11_why : kB yX11_why cX11_why 2 (some .int) 1 := ⟨gw_inT (i := 1) (by decide +kernel) (by decide +kernel), gw_inT (i := 244) (by decide +kernel) (by decide +kernel), by decide +kernel, by decide⟩
theorem kv_X11_why : kV yX11_why := ⟨gw_inT (i := 242) (by decide +kernel) (by decide +kernel), gw_inT (i := 243) (by decide +kernel) (by decide +kernel)⟩
theorem kb_X11_within : kB yX11_within cX11_within 2 (some .boolean) 2 := ⟨gw_inT (i := 1) (by decide +kernel) (by decide +kernel), gw_inT (i := 138) (by decide +kernel) (by decide +kernel), by decide +kernel, by decide⟩
theorem ks_X11_within : Cond.static yX11_within ∈ gwl := gw_inT (i := 137) (by decide +kernel) (by decide +kernel)
theorem kb_X12_among : kB yX12_among cX12_among 8 (some .int) 4 := ⟨gw_inT (i := 6) (by decide +kernel) (by decide +kernel), gw_inT (i := 1385) (by decide +kernel) (by decide +kernel), by decide +kernel, by decide⟩
theorem kv_X12_among : kV yX12_among := ⟨gw_inT (i := 1383) (by decide +kernel) (by decide +kernel), gw_inT (i := 1384) (by decide +kernel) (by decide +kernel)⟩
theorem kb_X12_asks : kB yX12_asks cX12_asks 5 (some .boolean) 2 := ⟨gw_inT (i := 6) (by decide +kernel) (by decide +kernel), gw_inT (i := 1239) (by decide +kernel) (by decide +kernel), by decide +kernel, by decide⟩
theorem kv_X12_asks : kV yX12_asks := ⟨gw_inT (i := 1238) (by decide +kernel) (by decide +kernel), gw_in (i := 42) (by decide +kernel) (by decide +kernel)⟩
theorem kb_X12_back : kB yX12_back cX12_back 3 (some .int) 1 := ⟨gw_inT (i := 6) (by decide +kernel) (by decide +kernel), gw_inT (i := 1299) (by decide +kernel) (by decide +kernel), by decide +kernel, by decide⟩
theorem kv_X12_back : kV yX12_back := ⟨gw_inT (i := 1297) (by decide +kernel) (by decide +kernel), gw_inT (i := 1298) (by decide +kernel) (by decide +kernel)⟩
theorem kb_X12_both : kB yX12_both cX12_both 8 (some .int) 4 := ⟨gw_inT (i := 6) (by decide +kernel) (by decide +kernel), gw_inT (i := 1398) (by decide +kernel) (by decide +kernel), by decide +kernel, by decide⟩
theorem kv_X12_both : kV yX12_both := ⟨gw_inT (i := 1396) (by decide +kernel) (by decide +kernel), gw_inT (i := 1397) (by decide +kernel) (by decide +kernel)⟩
theorem kb_X12_budget : kB yX12_budget cX12_budget 7 (some .int) 5 := ⟨gw_inT (i := 6) (by decide +kernel) (by decide +kernel), gw_inT (i := 1312) (by decide +kernel) (by decide +kernel), by decide +kernel, by decide⟩
theorem kv_X12_budget : kV yX12_budget := ⟨gw_inT (i := 1310) (by decide +kernel) (by decide +kernel), gw_inT (i := 1311) (by decide +kernel) (by decide +kernel)⟩
theorem kb_X12_caller : kB yX12_caller cX12_caller 5 (some .int) 4 := ⟨gw_inT (i := 6) (by decide +kernel) (by decide +kernel), gw_inT (i := 1085) (by decide +kernel) (by decide +kernel), by decide +kernel, by decide⟩
theorem kv_X12_caller : kV yX12_caller := ⟨gw_inT (i := 1083) (by decide +kernel) (by decide +kernel), gw_inT (i := 1084) (by decide +kernel) (by decide +kernel)⟩
theorem kb_X12_chances : kB yX12_chances cX12_chances 6 none 0 := ⟨gw_inT (i := 6) (by decide +kernel) (by decide +kernel), gw_inT (i := 1363) (by decide +kernel) (by decide +kernel), by decide +kernel, by decide⟩
theorem kv_X12_chances : kV yX12_chances := ⟨gw_inT (i := 1362) (by decide +kernel) (by decide +kernel), gw_in (i := 51) (by decide +kernel) (by decide +kernel)⟩
theorem kb_X12_chosen : kB yX12_chosen cX12_chosen 5 (some .long) 2 := ⟨gw_inT (i := 6) (by decide +kernel) (by decide +kernel), gw_inT (i := 1366) (by decide +kernel) (by decide +kernel), by decide +kernel, by decide⟩
theorem ks_X12_chosen : Cond.static yX12_chosen ∈ gwl := gw_inT (i := 1365) (by decide +kernel) (by decide +kernel)
theorem kb_X12_clears : kB yX12_clears cX12_clears 3 none 1 := ⟨gw_inT (i := 6) (by decide +kernel) (by decide +kernel), gw_inT (i := 1182) (by decide +kernel) (by decide +kernel), by decide +kernel, by decide⟩
theorem kv_X12_clears : kV yX12_clears := ⟨gw_inT (i := 1181) (by decide +kernel) (by decide +kernel), gw_in (i := 37) (by decide +kernel) (by decide +kernel)⟩
theorem kb_X12_copy : kB yX12_copy cX12_copy 8 (some .int) 5 := ⟨gw_inT (i := 6) (by decide +kernel) (by decide +kernel), gw_inT (i := 1269) (by decide +kernel) (by decide +kernel), by decide +kernel, by decide⟩
theorem kv_X12_copy : kV yX12_copy := ⟨gw_inT (i := 1267) (by decide +kernel) (by decide +kernel), gw_inT (i := 1268) (by decide +kernel) (by decide +kernel)⟩
theorem kb_X12_count : kB yX12_count cX12_count 9 (some .int) 5 := ⟨gw_inT (i := 6) (by decide +kernel) (by decide +kernel), gw_inT (i := 1323) (by decide +kernel) (by decide +kernel), by decide +kernel, by decide⟩
theorem kv_X12_count : kV yX12_count := ⟨gw_inT (i := 1321) (by decide +kernel) (by decide +kernel), gw_inT (i := 1322) (by decide +kernel) (by decide +kernel)⟩
theorem kb_X12_counts : kB yX12_counts cX12_counts 7 (some .int) 3 := ⟨gw_inT (i := 6) (by decide +kernel) (by decide +kernel), gw_inT (i := 1338) (by decide +kernel) (by decide +kernel), by decide +kernel, by decide⟩
theorem kv_X12_counts : kV yX12_counts := ⟨gw_inT (i := 1336) (by decide +kernel) (by decide +kernel), gw_inT (i := 1337) (by decide +kernel) (by decide +kernel)⟩
theorem kb_X12_empty : kB yX12_empty cX12_empty 3 (some .int) 1 := ⟨gw_inT (i := 6) (by decide +kernel) (by decide +kernel), gw_inT (i := 1194) (by decide +kernel) (by decide +kernel), by decide +kernel, by decide⟩
theorem kv_X12_empty : kV yX12_empty := ⟨gw_inT (i := 1192) (by decide +kernel) (by decide +kernel), gw_inT (i := 1193) (by decide +kernel) (by decide +kernel)⟩
theorem kb_X12_findFar : kB yX12_findFar cX12_findFar 5 none 1 := ⟨gw_inT (i := 6) (by decide +kernel) (by decide +kernel), gw_inT (i := 1235) (by decide +kernel) (by decide +kernel), by decide +kernel, by decide⟩
theorem kv_X12_findFar : kV yX12_findFar := ⟨gw_inT (i := 1234) (by decide +kernel) (by decide +kernel), gw_in (i := 41) (by decide +kernel) (by decide +kernel)⟩
theorem kb_X12_findWays : kB yX12_findWays cX12_findWays 3 none 0 := ⟨gw_inT (i := 6) (by decide +kernel) (by decide +kernel), gw_inT (i := 1136) (by decide +kernel) (by decide +kernel), by decide +kernel, by decide⟩
theorem kv_X12_findWays : kV yX12_findWays := ⟨gw_inT (i := 1135) (by decide +kernel) (by decide +kernel), gw_in (i := 28) (by decide +kernel) (by decide +kernel)⟩
theorem kb_X12_goesOver : kB yX12_goesOver cX12_goesOver 7 (some .boolean) 4 := ⟨gw_inT (i := 6) (by decide +kernel) (by decide +kernel), gw_inT (i := 1219) (by decide +kernel) (by decide +kernel), by decide +kernel, by decide⟩
theorem kv_X12_goesOver : kV yX12_goesOver := ⟨gw_inT (i := 1218) (by decide +kernel) (by decide +kernel), gw_in (i := 39) (by decide +kernel) (by decide +kernel)⟩
theorem kb_X12_goesTo : kB yX12_goesTo cX12_goesTo 3 none 2 := ⟨gw_inT (i := 6) (by decide +kernel) (by decide +kernel), gw_inT (i := 1303) (by decide +kernel) (by decide +kernel), by decide +kernel, by decide⟩
theorem kv_X12_goesTo : kV yX12_goesTo := ⟨gw_inT (i := 1302) (by decide +kernel) (by decide +kernel), gw_in (i := 48) (by decide +kernel) (by decide +kernel)⟩
theorem kb_X12_goods : kB yX12_goods cX12_goods 7 (some .int) 4 := ⟨gw_inT (i := 6) (by decide +kernel) (by decide +kernel), gw_inT (i := 1334) (by decide +kernel) (by decide +kernel), by decide +kernel, by decide⟩
theorem kv_X12_goods : kV yX12_goods := ⟨gw_inT (i := 1332) (by decide +kernel) (by decide +kernel), gw_inT (i := 1333) (by decide +kernel) (by decide +kernel)⟩
theorem kb_X12_grow : kB yX12_grow cX12_grow 4 (some .int) 2 := ⟨gw_inT (i := 6) (by decide +kernel) (by decide +kernel), gw_inT (i := 1277) (by decide +kernel) (by decide +kernel), by decide +kernel, by decide⟩
theorem kv_X12_grow : kV yX12_grow := ⟨gw_inT (i := 1275) (by decide +kernel) (by decide +kernel), gw_inT (i := 1276) (by decide +kernel) (by decide +kernel)⟩
theorem kb_X12_hang : kB yX12_hang cX12_hang 5 (some .int) 3 := ⟨gw_inT (i := 6) (by decide +kernel) (by decide +kernel), gw_inT (i := 1227) (by decide +kernel) (by decide +kernel), by decide +kernel, by decide⟩
theorem kv_X12_hang : kV yX12_hang := ⟨gw_inT (i := 1225) (by decide +kernel) (by decide +kernel), gw_inT (i := 1226) (by decide +kernel) (by decide +kernel)⟩
theorem kb_X12_hangs : kB yX12_hangs cX12_hangs 2 (some .boolean) 1 := ⟨gw_inT (i := 6) (by decide +kernel) (by decide +kernel), gw_inT (i := 1123) (by decide +kernel) (by decide +kernel), by decide +kernel, by decide⟩
theorem kv_X12_hangs : kV yX12_hangs := ⟨gw_inT (i := 1122) (by decide +kernel) (by decide +kernel), gw_in (i := 26) (by decide +kernel) (by decide +kernel)⟩
theorem kb_X12_hangsOn : kB yX12_hangsOn cX12_hangsOn 3 (some .int) 1 := ⟨gw_inT (i := 6) (by decide +kernel) (by decide +kernel), gw_inT (i := 1144) (by decide +kernel) (by decide +kernel), by decide +kernel, by decide⟩
theorem kv_X12_hangsOn : kV yX12_hangsOn := ⟨gw_inT (i := 1143) (by decide +kernel) (by decide +kernel), gw_in (i := 30) (by decide +kernel) (by decide +kernel)⟩
theorem kb_X12_holds : kB yX12_holds cX12_holds 2 (some .int) 1 := ⟨gw_inT (i := 6) (by decide +kernel) (by decide +kernel), gw_inT (i := 1198) (by decide +kernel) (by decide +kernel), by decide +kernel, by decide⟩
theorem kv_X12_holds : kV yX12_holds := ⟨gw_inT (i := 1196) (by decide +kernel) (by decide +kernel), gw_inT (i := 1197) (by decide +kernel) (by decide +kernel)⟩
theorem kb_X12_image : kB yX12_image cX12_image 2 (some .int) 0 := ⟨gw_inT (i := 6) (by decide +kernel) (by decide +kernel), gw_inT (i := 1406) (by decide +kernel) (by decide +kernel), by decide +kernel, by decide⟩
theorem kv_X12_image : kV yX12_image := ⟨gw_inT (i := 1404) (by decide +kernel) (by decide +kernel), gw_inT (i := 1405) (by decide +kernel) (by decide +kernel)⟩
theorem kb_X12_init : kB yX12_init cX12_init 1 none 0 := ⟨gw_inT (i := 6) (by decide +kernel) (by decide +kernel), gw_inT (i := 1001) (by decide +kernel) (by decide +kernel), by decide +kernel, by decide⟩
theorem kv_X12_init : yX12_init.name = "<init>" ∧ Cond.instanceMethod yX12_init ∈ gwl := ⟨rfl, gw_inT (i := 1000) (by decide +kernel) (by decide +kernel)⟩
theorem kb_X12_isAbove : kB yX12_isAbove cX12_isAbove 16 (some .boolean) 4 := ⟨gw_inT (i := 6) (by decide +kernel) (by decide +kernel), gw_inT (i := 1375) (by decide +kernel) (by decide +kernel), by decide +kernel, by decide⟩
theorem ks_X12_isAbove : Cond.static yX12_isAbove ∈ gwl := gw_inT (i := 1374) (by decide +kernel) (by decide +kernel)
theorem kb_X12_isIn : kB yX12_isIn cX12_isIn 6 (some .boolean) 3 := ⟨gw_inT (i := 6) (by decide +kernel) (by decide +kernel), gw_inT (i := 1089) (by decide +kernel) (by decide +kernel), by decide +kernel, by decide⟩
theorem ks_X12_isIn : Cond.static yX12_isIn ∈ gwl := gw_inT (i := 1088) (by decide +kernel) (by decide +kernel)
theorem kb_X12_isMinute : kB yX12_isMinute cX12_isMinute 1 (some .boolean) 1 := ⟨gw_inT (i := 6) (by decide +kernel) (by decide +kernel), gw_inT (i := 1280) (by decide +kernel) (by decide +kernel), by decide +kernel, by decide⟩
theorem ks_X12_isMinute : Cond.static yX12_isMinute ∈ gwl := gw_inT (i := 1279) (by decide +kernel) (by decide +kernel)
theorem kb_X12_isNumber : kB yX12_isNumber cX12_isNumber 1 (some .boolean) 1 := ⟨gw_inT (i := 6) (by decide +kernel) (by decide +kernel), gw_inT (i := 1388) (by decide +kernel) (by decide +kernel), by decide +kernel, by decide⟩
theorem ks_X12_isNumber : Cond.static yX12_isNumber ∈ gwl := gw_inT (i := 1387) (by decide +kernel) (by decide +kernel)
theorem kb_X12_isOther : kB yX12_isOther cX12_isOther 3 (some .boolean) 1 := ⟨gw_inT (i := 6) (by decide +kernel) (by decide +kernel), gw_inT (i := 1156) (by decide +kernel) (by decide +kernel), by decide +kernel, by decide⟩
theorem kv_X12_isOther : kV yX12_isOther := ⟨gw_inT (i := 1155) (by decide +kernel) (by decide +kernel), gw_in (i := 33) (by decide +kernel) (by decide +kernel)⟩
theorem kb_X12_isPlace : kB yX12_isPlace cX12_isPlace 1 (some .boolean) 1 := ⟨gw_inT (i := 6) (by decide +kernel) (by decide +kernel), gw_inT (i := 1107) (by decide +kernel) (by decide +kernel), by decide +kernel, by decide⟩
theorem ks_X12_isPlace : Cond.static yX12_isPlace ∈ gwl := gw_inT (i := 1106) (by decide +kernel) (by decide +kernel)
theorem kb_X12_isReady : kB yX12_isReady cX12_isReady 6 (some .boolean) 1 := ⟨gw_inT (i := 6) (by decide +kernel) (by decide +kernel), gw_inT (i := 1140) (by decide +kernel) (by decide +kernel), by decide +kernel, by decide⟩
theorem kv_X12_isReady : kV yX12_isReady := ⟨gw_inT (i := 1139) (by decide +kernel) (by decide +kernel), gw_in (i := 29) (by decide +kernel) (by decide +kernel)⟩
theorem kb_X12_isRing : kB yX12_isRing cX12_isRing 4 (some .boolean) 0 := ⟨gw_inT (i := 6) (by decide +kernel) (by decide +kernel), gw_inT (i := 1231) (by decide +kernel) (by decide +kernel), by decide +kernel, by decide⟩
theorem kv_X12_isRing : kV yX12_isRing := ⟨gw_inT (i := 1230) (by decide +kernel) (by decide +kernel), gw_in (i := 40) (by decide +kernel) (by decide +kernel)⟩
theorem kb_X12_isSpent : kB yX12_isSpent cX12_isSpent 3 (some .boolean) 2 := ⟨gw_inT (i := 6) (by decide +kernel) (by decide +kernel), gw_inT (i := 1295) (by decide +kernel) (by decide +kernel), by decide +kernel, by decide⟩
theorem kv_X12_isSpent : kV yX12_isSpent := ⟨gw_inT (i := 1294) (by decide +kernel) (by decide +kernel), gw_in (i := 47) (by decide +kernel) (by decide +kernel)⟩
theorem kb_X12_isStepped : kB yX12_isStepped cX12_isStepped 2 (some .boolean) 1 := ⟨gw_inT (i := 6) (by decide +kernel) (by decide +kernel), gw_inT (i := 1119) (by decide +kernel) (by decide +kernel), by decide +kernel, by decide⟩
theorem kv_X12_isStepped : kV yX12_isStepped := ⟨gw_inT (i := 1118) (by decide +kernel) (by decide +kernel), gw_in (i := 25) (by decide +kernel) (by decide +kernel)⟩
theorem kb_X12_isSwitch : kB yX12_isSwitch cX12_isSwitch 2 (some .boolean) 1 := ⟨gw_inT (i := 6) (by decide +kernel) (by decide +kernel), gw_inT (i := 1115) (by decide +kernel) (by decide +kernel), by decide +kernel, by decide⟩
theorem kv_X12_isSwitch : kV yX12_isSwitch := ⟨gw_inT (i := 1114) (by decide +kernel) (by decide +kernel), gw_in (i := 24) (by decide +kernel) (by decide +kernel)⟩
theorem kb_X12_isWay : kB yX12_isWay cX12_isWay 1 (some .boolean) 1 := ⟨gw_inT (i := 6) (by decide +kernel) (by decide +kernel), gw_inT (i := 1330) (by decide +kernel) (by decide +kernel), by decide +kernel, by decide⟩
theorem ks_X12_isWay : Cond.static yX12_isWay ∈ gwl := gw_inT (i := 1329) (by decide +kernel) (by decide +kernel)
theorem kb_X12_left : kB yX12_left cX12_left 4 (some .int) 2 := ⟨gw_inT (i := 6) (by decide +kernel) (by decide +kernel), gw_inT (i := 1346) (by decide +kernel) (by decide +kernel), by decide +kernel, by decide⟩
theorem kv_X12_left : kV yX12_left := ⟨gw_inT (i := 1344) (by decide +kernel) (by decide +kernel), gw_inT (i := 1345) (by decide +kernel) (by decide +kernel)⟩
theorem kb_X12_look : kB yX12_look cX12_look 7 (some .int) 2 := ⟨gw_inT (i := 6) (by decide +kernel) (by decide +kernel), gw_inT (i := 1355) (by decide +kernel) (by decide +kernel), by decide +kernel, by decide⟩
theorem kv_X12_look : kV yX12_look := ⟨gw_inT (i := 1353) (by decide +kernel) (by decide +kernel), gw_inT (i := 1354) (by decide +kernel) (by decide +kernel)⟩
theorem kb_X12_make : kB yX12_make cX12_make 5 (some .int) 4 := ⟨gw_inT (i := 6) (by decide +kernel) (by decide +kernel), gw_inT (i := 1176) (by decide +kernel) (by decide +kernel), by decide +kernel, by decide⟩
theorem kv_X12_make : kV yX12_make := ⟨gw_inT (i := 1174) (by decide +kernel) (by decide +kernel), gw_inT (i := 1175) (by decide +kernel) (by decide +kernel)⟩
theorem kb_X12_millionths : kB yX12_millionths cX12_millionths 5 (some .int) 0 := ⟨gw_inT (i := 6) (by decide +kernel) (by decide +kernel), gw_inT (i := 1370) (by decide +kernel) (by decide +kernel), by decide +kernel, by decide⟩
theorem kv_X12_millionths : kV yX12_millionths := ⟨gw_inT (i := 1369) (by decide +kernel) (by decide +kernel), gw_in (i := 52) (by decide +kernel) (by decide +kernel)⟩
theorem kb_X12_minuteAt : kB yX12_minuteAt cX12_minuteAt 2 (some .int) 2 := ⟨gw_inT (i := 6) (by decide +kernel) (by decide +kernel), gw_inT (i := 1291) (by decide +kernel) (by decide +kernel), by decide +kernel, by decide⟩
theorem ks_X12_minuteAt : Cond.static yX12_minuteAt ∈ gwl := gw_inT (i := 1290) (by decide +kernel) (by decide +kernel)
theorem kb_X12_moves : kB yX12_moves cX12_moves 10 (some .int) 4 := ⟨gw_inT (i := 6) (by decide +kernel) (by decide +kernel), gw_inT (i := 1402) (by decide +kernel) (by decide +kernel), by decide +kernel, by decide⟩
theorem kv_X12_moves : kV yX12_moves := ⟨gw_inT (i := 1400) (by decide +kernel) (by decide +kernel), gw_inT (i := 1401) (by decide +kernel) (by decide +kernel)⟩
theorem kb_X12_nextOn : kB yX12_nextOn cX12_nextOn 4 (some .int) 2 := ⟨gw_inT (i := 6) (by decide +kernel) (by decide +kernel), gw_inT (i := 1243) (by decide +kernel) (by decide +kernel), by decide +kernel, by decide⟩
theorem kv_X12_nextOn : kV yX12_nextOn := ⟨gw_inT (i := 1242) (by decide +kernel) (by decide +kernel), gw_in (i := 43) (by decide +kernel) (by decide +kernel)⟩
theorem kb_X12_no : kB yX12_no cX12_no 2 (some .int) 1 := ⟨gw_inT (i := 6) (by decide +kernel) (by decide +kernel), gw_inT (i := 1096) (by decide +kernel) (by decide +kernel), by decide +kernel, by decide⟩
theorem kv_X12_no : kV yX12_no := ⟨gw_inT (i := 1095) (by decide +kernel) (by decide +kernel), gw_in (i := 21) (by decide +kernel) (by decide +kernel)⟩
theorem kb_X12_note : kB yX12_note cX12_note 4 (some .int) 2 := ⟨gw_inT (i := 6) (by decide +kernel) (by decide +kernel), gw_inT (i := 1190) (by decide +kernel) (by decide +kernel), by decide +kernel, by decide⟩
theorem kv_X12_note : kV yX12_note := ⟨gw_inT (i := 1188) (by decide +kernel) (by decide +kernel), gw_inT (i := 1189) (by decide +kernel) (by decide +kernel)⟩
theorem kb_X12_of : kB yX12_of cX12_of 3 (some .int) 2 := ⟨gw_inT (i := 6) (by decide +kernel) (by decide +kernel), gw_inT (i := 1111) (by decide +kernel) (by decide +kernel), by decide +kernel, by decide⟩
theorem kv_X12_of : kV yX12_of := ⟨gw_inT (i := 1110) (by decide +kernel) (by decide +kernel), gw_in (i := 23) (by decide +kernel) (by decide +kernel)⟩
theorem kb_X12_ownWay : kB yX12_ownWay cX12_ownWay 3 (some .int) 1 := ⟨gw_inT (i := 6) (by decide +kernel) (by decide +kernel), gw_inT (i := 1160) (by decide +kernel) (by decide +kernel), by decide +kernel, by decide⟩
theorem kv_X12_ownWay : kV yX12_ownWay := ⟨gw_inT (i := 1159) (by decide +kernel) (by decide +kernel), gw_in (i := 34) (by decide +kernel) (by decide +kernel)⟩
theorem kb_X12_read : kB yX12_read cX12_read 4 (some .long) 1 := ⟨gw_inT (i := 6) (by decide +kernel) (by decide +kernel), gw_inT (i := 1202) (by decide +kernel) (by decide +kernel), by decide +kernel, by decide⟩
theorem kv_X12_read : kV yX12_read := ⟨gw_inT (i := 1200) (by decide +kernel) (by decide +kernel), gw_inT (i := 1201) (by decide +kernel) (by decide +kernel)⟩
theorem kb_X12_restore : kB yX12_restore cX12_restore 2 (some .int) 0 := ⟨gw_inT (i := 6) (by decide +kernel) (by decide +kernel), gw_inT (i := 1414) (by decide +kernel) (by decide +kernel), by decide +kernel, by decide⟩
theorem kv_X12_restore : kV yX12_restore := ⟨gw_inT (i := 1412) (by decide +kernel) (by decide +kernel), gw_inT (i := 1413) (by decide +kernel) (by decide +kernel)⟩
theorem kb_X12_ring : kB yX12_ring cX12_ring 2 (some .int) 1 := ⟨gw_inT (i := 6) (by decide +kernel) (by decide +kernel), gw_inT (i := 1252) (by decide +kernel) (by decide +kernel), by decide +kernel, by decide⟩
theorem kv_X12_ring : kV yX12_ring := ⟨gw_inT (i := 1250) (by decide +kernel) (by decide +kernel), gw_inT (i := 1251) (by decide +kernel) (by decide +kernel)⟩
theorem kb_X12_row : kB yX12_row cX12_row 5 (some .int) 2 := ⟨gw_inT (i := 6) (by decide +kernel) (by decide +kernel), gw_inT (i := 1256) (by decide +kernel) (by decide +kernel), by decide +kernel, by decide⟩
theorem kv_X12_row : kV yX12_row := ⟨gw_inT (i := 1254) (by decide +kernel) (by decide +kernel), gw_inT (i := 1255) (by decide +kernel) (by decide +kernel)⟩
theorem kb_X12_rule : kB yX12_rule cX12_rule 9 (some .int) 5 := ⟨gw_inT (i := 6) (by decide +kernel) (by decide +kernel), gw_inT (i := 1206) (by decide +kernel) (by decide +kernel), by decide +kernel, by decide⟩
theorem kv_X12_rule : kV yX12_rule := ⟨gw_inT (i := 1204) (by decide +kernel) (by decide +kernel), gw_inT (i := 1205) (by decide +kernel) (by decide +kernel)⟩
theorem kb_X12_ruleOf : kB yX12_ruleOf cX12_ruleOf 5 (some .int) 1 := ⟨gw_inT (i := 6) (by decide +kernel) (by decide +kernel), gw_inT (i := 1164) (by decide +kernel) (by decide +kernel), by decide +kernel, by decide⟩
theorem kv_X12_ruleOf : kV yX12_ruleOf := ⟨gw_inT (i := 1163) (by decide +kernel) (by decide +kernel), gw_in (i := 35) (by decide +kernel) (by decide +kernel)⟩
theorem kb_X12_seat : kB yX12_seat cX12_seat 3 (some .int) 1 := ⟨gw_inT (i := 6) (by decide +kernel) (by decide +kernel), gw_inT (i := 1100) (by decide +kernel) (by decide +kernel), by decide +kernel, by decide⟩
theorem kv_X12_seat : kV yX12_seat := ⟨gw_inT (i := 1098) (by decide +kernel) (by decide +kernel), gw_inT (i := 1099) (by decide +kernel) (by decide +kernel)⟩
theorem kb_X12_seatOf : kB yX12_seatOf cX12_seatOf 2 (some .int) 1 := ⟨gw_inT (i := 6) (by decide +kernel) (by decide +kernel), gw_inT (i := 1127) (by decide +kernel) (by decide +kernel), by decide +kernel, by decide⟩
theorem kv_X12_seatOf : kV yX12_seatOf := ⟨gw_inT (i := 1126) (by decide +kernel) (by decide +kernel), gw_in (i := 27) (by decide +kernel) (by decide +kernel)⟩
theorem kb_X12_share : kB yX12_share cX12_share 7 (some .int) 4 := ⟨gw_inT (i := 6) (by decide +kernel) (by decide +kernel), gw_inT (i := 1215) (by decide +kernel) (by decide +kernel), by decide +kernel, by decide⟩
theorem kv_X12_share : kV yX12_share := ⟨gw_inT (i := 1213) (by decide +kernel) (by decide +kernel), gw_inT (i := 1214) (by decide +kernel) (by decide +kernel)⟩
theorem kb_X12_shares : kB yX12_shares cX12_shares 5 (some .int) 3 := ⟨gw_inT (i := 6) (by decide +kernel) (by decide +kernel), gw_inT (i := 1223) (by decide +kernel) (by decide +kernel), by decide +kernel, by decide⟩
theorem kv_X12_shares : kV yX12_shares := ⟨gw_inT (i := 1221) (by decide +kernel) (by decide +kernel), gw_inT (i := 1222) (by decide +kernel) (by decide +kernel)⟩
theorem kb_X12_stands : kB yX12_stands cX12_stands 4 (some .int) 2 := ⟨gw_inT (i := 6) (by decide +kernel) (by decide +kernel), gw_inT (i := 1307) (by decide +kernel) (by decide +kernel), by decide +kernel, by decide⟩
theorem kv_X12_stands : kV yX12_stands := ⟨gw_inT (i := 1305) (by decide +kernel) (by decide +kernel), gw_inT (i := 1306) (by decide +kernel) (by decide +kernel)⟩
theorem kb_X12_status : kB yX12_status cX12_status 2 (some .int) 1 := ⟨gw_inT (i := 6) (by decide +kernel) (by decide +kernel), gw_inT (i := 1418) (by decide +kernel) (by decide +kernel), by decide +kernel, by decide⟩
theorem kv_X12_status : kV yX12_status := ⟨gw_inT (i := 1416) (by decide +kernel) (by decide +kernel), gw_inT (i := 1417) (by decide +kernel) (by decide +kernel)⟩
theorem kb_X12_step : kB yX12_step cX12_step 6 (some .int) 3 := ⟨gw_inT (i := 6) (by decide +kernel) (by decide +kernel), gw_inT (i := 1265) (by decide +kernel) (by decide +kernel), by decide +kernel, by decide⟩
theorem kv_X12_step : kV yX12_step := ⟨gw_inT (i := 1263) (by decide +kernel) (by decide +kernel), gw_inT (i := 1264) (by decide +kernel) (by decide +kernel)⟩
theorem kb_X12_stop : kB yX12_stop cX12_stop 6 (some .int) 3 := ⟨gw_inT (i := 6) (by decide +kernel) (by decide +kernel), gw_inT (i := 1247) (by decide +kernel) (by decide +kernel), by decide +kernel, by decide⟩
theorem kv_X12_stop : kV yX12_stop := ⟨gw_inT (i := 1245) (by decide +kernel) (by decide +kernel), gw_inT (i := 1246) (by decide +kernel) (by decide +kernel)⟩
theorem kb_X12_stoppedBy : kB yX12_stoppedBy cX12_stoppedBy 4 (some .int) 1 := ⟨gw_inT (i := 6) (by decide +kernel) (by decide +kernel), gw_inT (i := 1152) (by decide +kernel) (by decide +kernel), by decide +kernel, by decide⟩
theorem kv_X12_stoppedBy : kV yX12_stoppedBy := ⟨gw_inT (i := 1151) (by decide +kernel) (by decide +kernel), gw_in (i := 32) (by decide +kernel) (by decide +kernel)⟩
theorem kb_X12_stops : kB yX12_stops cX12_stops 3 (some .boolean) 2 := ⟨gw_inT (i := 6) (by decide +kernel) (by decide +kernel), gw_inT (i := 1148) (by decide +kernel) (by decide +kernel), by decide +kernel, by decide⟩
theorem kv_X12_stops : kV yX12_stops := ⟨gw_inT (i := 1147) (by decide +kernel) (by decide +kernel), gw_in (i := 31) (by decide +kernel) (by decide +kernel)⟩
theorem kb_X12_sums : kB yX12_sums cX12_sums 6 none 2 := ⟨gw_inT (i := 6) (by decide +kernel) (by decide +kernel), gw_inT (i := 1359) (by decide +kernel) (by decide +kernel), by decide +kernel, by decide⟩
theorem kv_X12_sums : kV yX12_sums := ⟨gw_inT (i := 1358) (by decide +kernel) (by decide +kernel), gw_in (i := 50) (by decide +kernel) (by decide +kernel)⟩
theorem kb_X12_switches : kB yX12_switches cX12_switches 3 (some .int) 0 := ⟨gw_inT (i := 6) (by decide +kernel) (by decide +kernel), gw_inT (i := 1410) (by decide +kernel) (by decide +kernel), by decide +kernel, by decide⟩
theorem kv_X12_switches : kV yX12_switches := ⟨gw_inT (i := 1409) (by decide +kernel) (by decide +kernel), gw_in (i := 54) (by decide +kernel) (by decide +kernel)⟩
theorem kb_X12_tear : kB yX12_tear cX12_tear 4 (some .int) 1 := ⟨gw_inT (i := 6) (by decide +kernel) (by decide +kernel), gw_inT (i := 1261) (by decide +kernel) (by decide +kernel), by decide +kernel, by decide⟩
theorem kv_X12_tear : kV yX12_tear := ⟨gw_inT (i := 1259) (by decide +kernel) (by decide +kernel), gw_inT (i := 1260) (by decide +kernel) (by decide +kernel)⟩
theorem kb_X12_to : kB yX12_to cX12_to 4 none 3 := ⟨gw_inT (i := 6) (by decide +kernel) (by decide +kernel), gw_inT (i := 1186) (by decide +kernel) (by decide +kernel), by decide +kernel, by decide⟩
theorem kv_X12_to : kV yX12_to := ⟨gw_inT (i := 1185) (by decide +kernel) (by decide +kernel), gw_in (i := 38) (by decide +kernel) (by decide +kernel)⟩
theorem kb_X12_told : kB yX12_told cX12_told 7 (some .int) 4 := ⟨gw_inT (i := 6) (by decide +kernel) (by decide +kernel), gw_inT (i := 1342) (by decide +kernel) (by decide +kernel), by decide +kernel, by decide⟩
theorem kv_X12_told : kV yX12_told := ⟨gw_inT (i := 1340) (by decide +kernel) (by decide +kernel), gw_inT (i := 1341) (by decide +kernel) (by decide +kernel)⟩
theorem kb_X12_trial : kB yX12_trial cX12_trial 8 (some .int) 5 := ⟨gw_inT (i := 6) (by decide +kernel) (by decide +kernel), gw_inT (i := 1350) (by decide +kernel) (by decide +kernel), by decide +kernel, by decide⟩
theorem kv_X12_trial : kV yX12_trial := ⟨gw_inT (i := 1348) (by decide +kernel) (by decide +kernel), gw_inT (i := 1349) (by decide +kernel) (by decide +kernel)⟩
theorem kb_X12_trialTold : kB yX12_trialTold cX12_trialTold 4 (some .int) 2 := ⟨gw_inT (i := 6) (by decide +kernel) (by decide +kernel), gw_inT (i := 1380) (by decide +kernel) (by decide +kernel), by decide +kernel, by decide⟩
theorem kv_X12_trialTold : kV yX12_trialTold := ⟨gw_inT (i := 1378) (by decide +kernel) (by decide +kernel), gw_inT (i := 1379) (by decide +kernel) (by decide +kernel)⟩
theorem kb_X12_unrule : kB yX12_unrule cX12_unrule 3 (some .int) 1 := ⟨gw_inT (i := 6) (by decide +kernel) (by decide +kernel), gw_inT (i := 1211) (by decide +kernel) (by decide +kernel), by decide +kernel, by decide⟩
theorem kv_X12_unrule : kV yX12_unrule := ⟨gw_inT (i := 1209) (by decide +kernel) (by decide +kernel), gw_inT (i := 1210) (by decide +kernel) (by decide +kernel)⟩
theorem kb_X12_waits : kB yX12_waits cX12_waits 5 (some .int) 2 := ⟨gw_inT (i := 6) (by decide +kernel) (by decide +kernel), gw_inT (i := 1318) (by decide +kernel) (by decide +kernel), by decide +kernel, by decide⟩
theorem kv_X12_waits : kV yX12_waits := ⟨gw_inT (i := 1316) (by decide +kernel) (by decide +kernel), gw_inT (i := 1317) (by decide +kernel) (by decide +kernel)⟩
theorem kb_X12_way : kB yX12_way cX12_way 3 (some .int) 1 := ⟨gw_inT (i := 6) (by decide +kernel) (by decide +kernel), gw_inT (i := 1132) (by decide +kernel) (by decide +kernel), by decide +kernel, by decide⟩
theorem kv_X12_way : kV yX12_way := ⟨gw_inT (i := 1130) (by decide +kernel) (by decide +kernel), gw_inT (i := 1131) (by decide +kernel) (by decide +kernel)⟩
theorem kb_X12_wayOfSeat : kB yX12_wayOfSeat cX12_wayOfSeat 4 (some .int) 1 := ⟨gw_inT (i := 6) (by decide +kernel) (by decide +kernel), gw_inT (i := 1168) (by decide +kernel) (by decide +kernel), by decide +kernel, by decide⟩
theorem kv_X12_wayOfSeat : kV yX12_wayOfSeat := ⟨gw_inT (i := 1167) (by decide +kernel) (by decide +kernel), gw_in (i := 36) (by decide +kernel) (by decide +kernel)⟩
theorem kb_X12_why : kB yX12_why cX12_why 4 (some .int) 2 := ⟨gw_inT (i := 6) (by decide +kernel) (by decide +kernel), gw_inT (i := 1104) (by decide +kernel) (by decide +kernel), by decide +kernel, by decide⟩
theorem kv_X12_why : kV yX12_why := ⟨gw_inT (i := 1103) (by decide +kernel) (by decide +kernel), gw_in (i := 22) (by decide +kernel) (by decide +kernel)⟩
theorem kb_X12_whyAmong : kB yX12_whyAmong cX12_whyAmong 3 (some .int) 2 := ⟨gw_inT (i := 6) (by decide +kernel) (by decide +kernel), gw_inT (i := 1393) (by decide +kernel) (by decide +kernel), by decide +kernel, by decide⟩
theorem kv_X12_whyAmong : kV yX12_whyAmong := ⟨gw_inT (i := 1392) (by decide +kernel) (by decide +kernel), gw_in (i := 53) (by decide +kernel) (by decide +kernel)⟩
theorem kb_X12_whyCounts : kB yX12_whyCounts cX12_whyCounts 5 (some .int) 3 := ⟨gw_inT (i := 6) (by decide +kernel) (by decide +kernel), gw_inT (i := 1327) (by decide +kernel) (by decide +kernel), by decide +kernel, by decide⟩
theorem kv_X12_whyCounts : kV yX12_whyCounts := ⟨gw_inT (i := 1326) (by decide +kernel) (by decide +kernel), gw_in (i := 49) (by decide +kernel) (by decide +kernel)⟩
theorem kb_X12_whyNoGrowth : kB yX12_whyNoGrowth cX12_whyNoGrowth 6 (some .int) 2 := ⟨gw_inT (i := 6) (by decide +kernel) (by decide +kernel), gw_inT (i := 1284) (by decide +kernel) (by decide +kernel), by decide +kernel, by decide⟩
theorem kv_X12_whyNoGrowth : kV yX12_whyNoGrowth := ⟨gw_inT (i := 1283) (by decide +kernel) (by decide +kernel), gw_in (i := 45) (by decide +kernel) (by decide +kernel)⟩
theorem kb_X12_whyTwo : kB yX12_whyTwo cX12_whyTwo 5 (some .int) 3 := ⟨gw_inT (i := 6) (by decide +kernel) (by decide +kernel), gw_inT (i := 1273) (by decide +kernel) (by decide +kernel), by decide +kernel, by decide⟩
theorem kv_X12_whyTwo : kV yX12_whyTwo := ⟨gw_inT (i := 1272) (by decide +kernel) (by decide +kernel), gw_in (i := 44) (by decide +kernel) (by decide +kernel)⟩
theorem kb_X12_why_ : kB yX12_why_ cX12_why_ 4 (some .int) 1 := ⟨gw_inT (i := 6) (by decide +kernel) (by decide +kernel), gw_inT (i := 1172) (by decide +kernel) (by decide +kernel), by decide +kernel, by decide⟩
theorem kv_X12_why_ : kV yX12_why_ := ⟨gw_inT (i := 1170) (by decide +kernel) (by decide +kernel), gw_inT (i := 1171) (by decide +kernel) (by decide +kernel)⟩
theorem kb_X12_window : kB yX12_window cX12_window 5 none 2 := ⟨gw_inT (i := 6) (by decide +kernel) (by decide +kernel), gw_inT (i := 1288) (by decide +kernel) (by decide +kernel), by decide +kernel, by decide⟩
theorem kv_X12_window : kV yX12_window := ⟨gw_inT (i := 1287) (by decide +kernel) (by decide +kernel), gw_in (i := 46) (by decide +kernel) (by decide +kernel)⟩
theorem kb_X1_ask : kB yX1_ask cX1_ask 2 none 1 := ⟨gw_inT (i := 4) (by decide +kernel) (by decide +kernel), gw_inT (i := 196) (by decide +kernel) (by decide +kernel), by decide +kernel, by decide⟩
theorem kv_X1_ask : kV yX1_ask := ⟨gw_inT (i := 194) (by decide +kernel) (by decide +kernel), gw_inT (i := 195) (by decide +kernel) (by decide +kernel)⟩
theorem kb_X1_become : kB yX1_become cX1_become 5 none 4 := ⟨gw_inT (i := 4) (by decide +kernel) (by decide +kernel), gw_inT (i := 149) (by decide +kernel) (by decide +kernel), by decide +kernel, by decide⟩
theorem kv_X1_become : kV yX1_become := ⟨gw_inT (i := 147) (by decide +kernel) (by decide +kernel), gw_inT (i := 148) (by decide +kernel) (by decide +kernel)⟩
theorem kb_X1_begin : kB yX1_begin cX1_begin 4 none 1 := ⟨gw_inT (i := 4) (by decide +kernel) (by decide +kernel), gw_inT (i := 191) (by decide +kernel) (by decide +kernel), by decide +kernel, by decide⟩
theorem kv_X1_begin : kV yX1_begin := ⟨gw_inT (i := 189) (by decide +kernel) (by decide +kernel), gw_inT (i := 190) (by decide +kernel) (by decide +kernel)⟩
theorem kb_X1_hangHolds : kB yX1_hangHolds cX1_hangHolds 4 (some .boolean) 3 := ⟨gw_inT (i := 4) (by decide +kernel) (by decide +kernel), gw_inT (i := 218) (by decide +kernel) (by decide +kernel), by decide +kernel, by decide⟩
theorem kv_X1_hangHolds : kV yX1_hangHolds := ⟨gw_inT (i := 217) (by decide +kernel) (by decide +kernel), gw_in (i := 5) (by decide +kernel) (by decide +kernel)⟩
theorem kb_X1_init : kB yX1_init cX1_init 1 none 0 := ⟨gw_inT (i := 4) (by decide +kernel) (by decide +kernel), gw_inT (i := 64) (by decide +kernel) (by decide +kernel), by decide +kernel, by decide⟩
theorem kv_X1_init : yX1_init.name = "<init>" ∧ Cond.instanceMethod yX1_init ∈ gwl := ⟨rfl, gw_inT (i := 63) (by decide +kernel) (by decide +kernel)⟩
theorem kb_X1_markOf : kB yX1_markOf cX1_markOf 2 (some .int) 1 := ⟨gw_inT (i := 4) (by decide +kernel) (by decide +kernel), gw_inT (i := 227) (by decide +kernel) (by decide +kernel), by decide +kernel, by decide⟩
theorem kv_X1_markOf : kV yX1_markOf := ⟨gw_inT (i := 225) (by decide +kernel) (by decide +kernel), gw_inT (i := 226) (by decide +kernel) (by decide +kernel)⟩
theorem kb_X1_stopOf : kB yX1_stopOf cX1_stopOf 6 (some .int) 3 := ⟨gw_inT (i := 4) (by decide +kernel) (by decide +kernel), gw_inT (i := 209) (by decide +kernel) (by decide +kernel), by decide +kernel, by decide⟩
theorem kv_X1_stopOf : kV yX1_stopOf := ⟨gw_inT (i := 208) (by decide +kernel) (by decide +kernel), gw_in (i := 4) (by decide +kernel) (by decide +kernel)⟩
theorem kb_X1_wayAt : kB yX1_wayAt cX1_wayAt 5 (some .int) 3 := ⟨gw_inT (i := 4) (by decide +kernel) (by decide +kernel), gw_inT (i := 200) (by decide +kernel) (by decide +kernel), by decide +kernel, by decide⟩
theorem kv_X1_wayAt : kV yX1_wayAt := ⟨gw_inT (i := 199) (by decide +kernel) (by decide +kernel), gw_in (i := 2) (by decide +kernel) (by decide +kernel)⟩
theorem kb_X1_wayBy : kB yX1_wayBy cX1_wayBy 3 (some .int) 2 := ⟨gw_inT (i := 4) (by decide +kernel) (by decide +kernel), gw_inT (i := 231) (by decide +kernel) (by decide +kernel), by decide +kernel, by decide⟩
theorem kv_X1_wayBy : kV yX1_wayBy := ⟨gw_inT (i := 230) (by decide +kernel) (by decide +kernel), gw_in (i := 6) (by decide +kernel) (by decide +kernel)⟩
theorem kb_X1_whyAt : kB yX1_whyAt cX1_whyAt 6 (some .int) 3 := ⟨gw_inT (i := 4) (by decide +kernel) (by decide +kernel), gw_inT (i := 205) (by decide +kernel) (by decide +kernel), by decide +kernel, by decide⟩
theorem kv_X1_whyAt : kV yX1_whyAt := ⟨gw_inT (i := 204) (by decide +kernel) (by decide +kernel), gw_in (i := 3) (by decide +kernel) (by decide +kernel)⟩
theorem kb_X2_areTold : kB yX2_areTold cX2_areTold 4 (some .boolean) 2 := ⟨gw_inT (i := 13) (by decide +kernel) (by decide +kernel), gw_inT (i := 762) (by decide +kernel) (by decide +kernel), by decide +kernel, by decide⟩
theorem kv_X2_areTold : kV yX2_areTold := ⟨gw_inT (i := 760) (by decide +kernel) (by decide +kernel), gw_inT (i := 761) (by decide +kernel) (by decide +kernel)⟩
theorem kb_X2_begin : kB yX2_begin cX2_begin 2 none 1 := ⟨gw_inT (i := 13) (by decide +kernel) (by decide +kernel), gw_inT (i := 532) (by decide +kernel) (by decide +kernel), by decide +kernel, by decide⟩
theorem kv_X2_begin : kV yX2_begin := ⟨gw_inT (i := 530) (by decide +kernel) (by decide +kernel), gw_inT (i := 531) (by decide +kernel) (by decide +kernel)⟩
theorem kb_X2_callsAt : kB yX2_callsAt cX2_callsAt 2 (some .int) 1 := ⟨gw_inT (i := 13) (by decide +kernel) (by decide +kernel), gw_inT (i := 774) (by decide +kernel) (by decide +kernel), by decide +kernel, by decide⟩
theorem kv_X2_callsAt : kV yX2_callsAt := ⟨gw_inT (i := 772) (by decide +kernel) (by decide +kernel), gw_inT (i := 773) (by decide +kernel) (by decide +kernel)⟩
theorem kb_X2_callsBeside : kB yX2_callsBeside cX2_callsBeside 5 (some .int) 2 := ⟨gw_inT (i := 13) (by decide +kernel) (by decide +kernel), gw_inT (i := 883) (by decide +kernel) (by decide +kernel), by decide +kernel, by decide⟩
theorem kv_X2_callsBeside : kV yX2_callsBeside := ⟨gw_inT (i := 881) (by decide +kernel) (by decide +kernel), gw_inT (i := 882) (by decide +kernel) (by decide +kernel)⟩
theorem kb_X2_callsIn : kB yX2_callsIn cX2_callsIn 6 (some .long) 2 := ⟨gw_inT (i := 13) (by decide +kernel) (by decide +kernel), gw_inT (i := 770) (by decide +kernel) (by decide +kernel), by decide +kernel, by decide⟩
theorem kv_X2_callsIn : kV yX2_callsIn := ⟨gw_inT (i := 768) (by decide +kernel) (by decide +kernel), gw_inT (i := 769) (by decide +kernel) (by decide +kernel)⟩
theorem kb_X2_faultsAt : kB yX2_faultsAt cX2_faultsAt 2 (some .int) 1 := ⟨gw_inT (i := 13) (by decide +kernel) (by decide +kernel), gw_inT (i := 782) (by decide +kernel) (by decide +kernel), by decide +kernel, by decide⟩
theorem kv_X2_faultsAt : kV yX2_faultsAt := ⟨gw_inT (i := 780) (by decide +kernel) (by decide +kernel), gw_inT (i := 781) (by decide +kernel) (by decide +kernel)⟩
theorem kb_X2_faultsIn : kB yX2_faultsIn cX2_faultsIn 6 (some .long) 2 := ⟨gw_inT (i := 13) (by decide +kernel) (by decide +kernel), gw_inT (i := 778) (by decide +kernel) (by decide +kernel), by decide +kernel, by decide⟩
theorem kv_X2_faultsIn : kV yX2_faultsIn := ⟨gw_inT (i := 776) (by decide +kernel) (by decide +kernel), gw_inT (i := 777) (by decide +kernel) (by decide +kernel)⟩
theorem kb_X2_goodsAt : kB yX2_goodsAt cX2_goodsAt 2 (some .int) 1 := ⟨gw_inT (i := 13) (by decide +kernel) (by decide +kernel), gw_inT (i := 860) (by decide +kernel) (by decide +kernel), by decide +kernel, by decide⟩
theorem kv_X2_goodsAt : kV yX2_goodsAt := ⟨gw_inT (i := 858) (by decide +kernel) (by decide +kernel), gw_inT (i := 859) (by decide +kernel) (by decide +kernel)⟩
theorem kb_X2_goodsBeside : kB yX2_goodsBeside cX2_goodsBeside 5 (some .int) 2 := ⟨gw_inT (i := 13) (by decide +kernel) (by decide +kernel), gw_inT (i := 887) (by decide +kernel) (by decide +kernel), by decide +kernel, by decide⟩
theorem kv_X2_goodsBeside : kV yX2_goodsBeside := ⟨gw_inT (i := 885) (by decide +kernel) (by decide +kernel), gw_inT (i := 886) (by decide +kernel) (by decide +kernel)⟩
theorem kb_X2_init : kB yX2_init cX2_init 1 none 0 := ⟨gw_inT (i := 13) (by decide +kernel) (by decide +kernel), gw_inT (i := 413) (by decide +kernel) (by decide +kernel), by decide +kernel, by decide⟩
theorem kv_X2_init : yX2_init.name = "<init>" ∧ Cond.instanceMethod yX2_init ∈ gwl := ⟨rfl, gw_inT (i := 412) (by decide +kernel) (by decide +kernel)⟩
theorem kb_X2_isTold : kB yX2_isTold cX2_isTold 2 (some .boolean) 1 := ⟨gw_inT (i := 13) (by decide +kernel) (by decide +kernel), gw_inT (i := 766) (by decide +kernel) (by decide +kernel), by decide +kernel, by decide⟩
theorem kv_X2_isTold : kV yX2_isTold := ⟨gw_inT (i := 764) (by decide +kernel) (by decide +kernel), gw_inT (i := 765) (by decide +kernel) (by decide +kernel)⟩
theorem kb_X2_takeFrom : kB yX2_takeFrom cX2_takeFrom 2 none 1 := ⟨gw_inT (i := 13) (by decide +kernel) (by decide +kernel), gw_inT (i := 983) (by decide +kernel) (by decide +kernel), by decide +kernel, by decide⟩
theorem kv_X2_takeFrom : kV yX2_takeFrom := ⟨gw_inT (i := 981) (by decide +kernel) (by decide +kernel), gw_inT (i := 982) (by decide +kernel) (by decide +kernel)⟩
theorem kb_X2_tell : kB yX2_tell cX2_tell 5 none 3 := ⟨gw_inT (i := 13) (by decide +kernel) (by decide +kernel), gw_inT (i := 822) (by decide +kernel) (by decide +kernel), by decide +kernel, by decide⟩
theorem kv_X2_tell : kV yX2_tell := ⟨gw_inT (i := 820) (by decide +kernel) (by decide +kernel), gw_inT (i := 821) (by decide +kernel) (by decide +kernel)⟩
theorem kb_X2_tellGoods : kB yX2_tellGoods cX2_tellGoods 3 none 2 := ⟨gw_inT (i := 13) (by decide +kernel) (by decide +kernel), gw_inT (i := 843) (by decide +kernel) (by decide +kernel), by decide +kernel, by decide⟩
theorem kv_X2_tellGoods : kV yX2_tellGoods := ⟨gw_inT (i := 841) (by decide +kernel) (by decide +kernel), gw_inT (i := 842) (by decide +kernel) (by decide +kernel)⟩
theorem kb_X3_begin : kB yX3_begin cX3_begin 1 none 0 := ⟨gw_inT (i := 10) (by decide +kernel) (by decide +kernel), gw_inT (i := 512) (by decide +kernel) (by decide +kernel), by decide +kernel, by decide⟩
theorem kv_X3_begin : kV yX3_begin := ⟨gw_inT (i := 510) (by decide +kernel) (by decide +kernel), gw_inT (i := 511) (by decide +kernel) (by decide +kernel)⟩
theorem kb_X3_copySteps : kB yX3_copySteps cX3_copySteps 5 none 4 := ⟨gw_inT (i := 10) (by decide +kernel) (by decide +kernel), gw_inT (i := 727) (by decide +kernel) (by decide +kernel), by decide +kernel, by decide⟩
theorem kv_X3_copySteps : kV yX3_copySteps := ⟨gw_inT (i := 725) (by decide +kernel) (by decide +kernel), gw_inT (i := 726) (by decide +kernel) (by decide +kernel)⟩
theorem kb_X3_dropRow : kB yX3_dropRow cX3_dropRow 2 (some .boolean) 0 := ⟨gw_inT (i := 10) (by decide +kernel) (by decide +kernel), gw_inT (i := 688) (by decide +kernel) (by decide +kernel), by decide +kernel, by decide⟩
theorem kv_X3_dropRow : kV yX3_dropRow := ⟨gw_inT (i := 686) (by decide +kernel) (by decide +kernel), gw_inT (i := 687) (by decide +kernel) (by decide +kernel)⟩
theorem kb_X3_hasRow : kB yX3_hasRow cX3_hasRow 1 (some .boolean) 0 := ⟨gw_inT (i := 10) (by decide +kernel) (by decide +kernel), gw_inT (i := 692) (by decide +kernel) (by decide +kernel), by decide +kernel, by decide⟩
theorem kv_X3_hasRow : kV yX3_hasRow := ⟨gw_inT (i := 690) (by decide +kernel) (by decide +kernel), gw_inT (i := 691) (by decide +kernel) (by decide +kernel)⟩
theorem kb_X3_hasStep : kB yX3_hasStep cX3_hasStep 2 (some .boolean) 1 := ⟨gw_inT (i := 10) (by decide +kernel) (by decide +kernel), gw_inT (i := 701) (by decide +kernel) (by decide +kernel), by decide +kernel, by decide⟩
theorem kv_X3_hasStep : kV yX3_hasStep := ⟨gw_inT (i := 699) (by decide +kernel) (by decide +kernel), gw_inT (i := 700) (by decide +kernel) (by decide +kernel)⟩
theorem kb_X3_hasSteps : kB yX3_hasSteps cX3_hasSteps 3 (some .boolean) 2 := ⟨gw_inT (i := 10) (by decide +kernel) (by decide +kernel), gw_inT (i := 722) (by decide +kernel) (by decide +kernel), by decide +kernel, by decide⟩
theorem kv_X3_hasSteps : kV yX3_hasSteps := ⟨gw_inT (i := 720) (by decide +kernel) (by decide +kernel), gw_inT (i := 721) (by decide +kernel) (by decide +kernel)⟩
theorem kb_X3_init : kB yX3_init cX3_init 1 none 0 := ⟨gw_inT (i := 10) (by decide +kernel) (by decide +kernel), gw_inT (i := 311) (by decide +kernel) (by decide +kernel), by decide +kernel, by decide⟩
theorem kv_X3_init : yX3_init.name = "<init>" ∧ Cond.instanceMethod yX3_init ∈ gwl := ⟨rfl, gw_inT (i := 310) (by decide +kernel) (by decide +kernel)⟩
theorem kb_X3_isStoodOn : kB yX3_isStoodOn cX3_isStoodOn 1 (some .boolean) 0 := ⟨gw_inT (i := 10) (by decide +kernel) (by decide +kernel), gw_inT (i := 588) (by decide +kernel) (by decide +kernel), by decide +kernel, by decide⟩
theorem kv_X3_isStoodOn : kV yX3_isStoodOn := ⟨gw_inT (i := 586) (by decide +kernel) (by decide +kernel), gw_inT (i := 587) (by decide +kernel) (by decide +kernel)⟩
theorem kb_X3_layRow : kB yX3_layRow cX3_layRow 2 none 1 := ⟨gw_inT (i := 10) (by decide +kernel) (by decide +kernel), gw_inT (i := 676) (by decide +kernel) (by decide +kernel), by decide +kernel, by decide⟩
theorem kv_X3_layRow : kV yX3_layRow := ⟨gw_inT (i := 674) (by decide +kernel) (by decide +kernel), gw_inT (i := 675) (by decide +kernel) (by decide +kernel)⟩
theorem kb_X3_setStep : kB yX3_setStep cX3_setStep 3 none 2 := ⟨gw_inT (i := 10) (by decide +kernel) (by decide +kernel), gw_inT (i := 710) (by decide +kernel) (by decide +kernel), by decide +kernel, by decide⟩
theorem kv_X3_setStep : kV yX3_setStep := ⟨gw_inT (i := 708) (by decide +kernel) (by decide +kernel), gw_inT (i := 709) (by decide +kernel) (by decide +kernel)⟩
theorem kb_X3_stepAt : kB yX3_stepAt cX3_stepAt 2 (some .int) 1 := ⟨gw_inT (i := 10) (by decide +kernel) (by decide +kernel), gw_inT (i := 705) (by decide +kernel) (by decide +kernel), by decide +kernel, by decide⟩
theorem kv_X3_stepAt : kV yX3_stepAt := ⟨gw_inT (i := 703) (by decide +kernel) (by decide +kernel), gw_inT (i := 704) (by decide +kernel) (by decide +kernel)⟩
theorem kb_X3_takeFrom : kB yX3_takeFrom cX3_takeFrom 2 none 1 := ⟨gw_inT (i := 10) (by decide +kernel) (by decide +kernel), gw_inT (i := 970) (by decide +kernel) (by decide +kernel), by decide +kernel, by decide⟩
theorem kv_X3_takeFrom : kV yX3_takeFrom := ⟨gw_inT (i := 968) (by decide +kernel) (by decide +kernel), gw_inT (i := 969) (by decide +kernel) (by decide +kernel)⟩
theorem kb_X4_clear : kB yX4_clear cX4_clear 2 (some .boolean) 0 := ⟨gw_inT (i := 3) (by decide +kernel) (by decide +kernel), gw_inT (i := 261) (by decide +kernel) (by decide +kernel), by decide +kernel, by decide⟩
theorem kv_X4_clear : kV yX4_clear := ⟨gw_inT (i := 259) (by decide +kernel) (by decide +kernel), gw_inT (i := 260) (by decide +kernel) (by decide +kernel)⟩
theorem kb_X4_content : kB yX4_content cX4_content 1 (some .int) 0 := ⟨gw_inT (i := 3) (by decide +kernel) (by decide +kernel), gw_inT (i := 553) (by decide +kernel) (by decide +kernel), by decide +kernel, by decide⟩
theorem kv_X4_content : kV yX4_content := ⟨gw_inT (i := 551) (by decide +kernel) (by decide +kernel), gw_inT (i := 552) (by decide +kernel) (by decide +kernel)⟩
theorem kb_X4_init : kB yX4_init cX4_init 1 none 0 := ⟨gw_inT (i := 3) (by decide +kernel) (by decide +kernel), gw_inT (i := 36) (by decide +kernel) (by decide +kernel), by decide +kernel, by decide⟩
theorem kv_X4_init : yX4_init.name = "<init>" ∧ Cond.instanceMethod yX4_init ∈ gwl := ⟨rfl, gw_inT (i := 35) (by decide +kernel) (by decide +kernel)⟩
theorem kb_X4_putNote : kB yX4_putNote cX4_putNote 3 none 1 := ⟨gw_inT (i := 3) (by decide +kernel) (by decide +kernel), gw_inT (i := 540) (by decide +kernel) (by decide +kernel), by decide +kernel, by decide⟩
theorem kv_X4_putNote : kV yX4_putNote := ⟨gw_inT (i := 538) (by decide +kernel) (by decide +kernel), gw_inT (i := 539) (by decide +kernel) (by decide +kernel)⟩
theorem kb_X4_putSwitch : kB yX4_putSwitch cX4_putSwitch 5 none 3 := ⟨gw_inT (i := 3) (by decide +kernel) (by decide +kernel), gw_inT (i := 257) (by decide +kernel) (by decide +kernel), by decide +kernel, by decide⟩
theorem kv_X4_putSwitch : kV yX4_putSwitch := ⟨gw_inT (i := 255) (by decide +kernel) (by decide +kernel), gw_inT (i := 256) (by decide +kernel) (by decide +kernel)⟩
theorem kb_X4_spareSwitch : kB yX4_spareSwitch cX4_spareSwitch 1 (some (.object RX9)) 0 := ⟨gw_inT (i := 3) (by decide +kernel) (by decide +kernel), gw_inT (i := 265) (by decide +kernel) (by decide +kernel), by decide +kernel, by decide⟩
theorem kv_X4_spareSwitch : kV yX4_spareSwitch := ⟨gw_inT (i := 264) (by decide +kernel) (by decide +kernel), gw_in (i := 7) (by decide +kernel) (by decide +kernel)⟩
theorem kb_X4_takeFrom : kB yX4_takeFrom cX4_takeFrom 3 none 1 := ⟨gw_inT (i := 3) (by decide +kernel) (by decide +kernel), gw_inT (i := 952) (by decide +kernel) (by decide +kernel), by decide +kernel, by decide⟩
theorem kv_X4_takeFrom : kV yX4_takeFrom := ⟨gw_inT (i := 950) (by decide +kernel) (by decide +kernel), gw_inT (i := 951) (by decide +kernel) (by decide +kernel)⟩
theorem kb_X5_findIn : kB yX5_findIn cX5_findIn 3 (some .boolean) 1 := ⟨gw_inT (i := 5) (by decide +kernel) (by decide +kernel), gw_inT (i := 630) (by decide +kernel) (by decide +kernel), by decide +kernel, by decide⟩
theorem kv_X5_findIn : kV yX5_findIn := ⟨gw_inT (i := 628) (by decide +kernel) (by decide +kernel), gw_inT (i := 629) (by decide +kernel) (by decide +kernel)⟩
theorem kb_X5_gatherAsks : kB yX5_gatherAsks cX5_gatherAsks 4 none 1 := ⟨gw_inT (i := 5) (by decide +kernel) (by decide +kernel), gw_inT (i := 634) (by decide +kernel) (by decide +kernel), by decide +kernel, by decide⟩
theorem kv_X5_gatherAsks : kV yX5_gatherAsks := ⟨gw_inT (i := 633) (by decide +kernel) (by decide +kernel), gw_in (i := 12) (by decide +kernel) (by decide +kernel)⟩
theorem kb_X5_gatherStopped : kB yX5_gatherStopped cX5_gatherStopped 3 none 1 := ⟨gw_inT (i := 5) (by decide +kernel) (by decide +kernel), gw_inT (i := 641) (by decide +kernel) (by decide +kernel), by decide +kernel, by decide⟩
theorem kv_X5_gatherStopped : kV yX5_gatherStopped := ⟨gw_inT (i := 640) (by decide +kernel) (by decide +kernel), gw_in (i := 13) (by decide +kernel) (by decide +kernel)⟩
theorem kb_X5_init : kB yX5_init cX5_init 1 none 0 := ⟨gw_inT (i := 5) (by decide +kernel) (by decide +kernel), gw_inT (i := 97) (by decide +kernel) (by decide +kernel), by decide +kernel, by decide⟩
theorem kv_X5_init : yX5_init.name = "<init>" ∧ Cond.instanceMethod yX5_init ∈ gwl := ⟨rfl, gw_inT (i := 96) (by decide +kernel) (by decide +kernel)⟩
theorem kb_X5_keepFrom : kB yX5_keepFrom cX5_keepFrom 4 none 1 := ⟨gw_inT (i := 5) (by decide +kernel) (by decide +kernel), gw_inT (i := 655) (by decide +kernel) (by decide +kernel), by decide +kernel, by decide⟩
theorem kv_X5_keepFrom : kV yX5_keepFrom := ⟨gw_inT (i := 654) (by decide +kernel) (by decide +kernel), gw_in (i := 16) (by decide +kernel) (by decide +kernel)⟩
theorem kb_X5_measureTo : kB yX5_measureTo cX5_measureTo 6 none 1 := ⟨gw_inT (i := 5) (by decide +kernel) (by decide +kernel), gw_inT (i := 646) (by decide +kernel) (by decide +kernel), by decide +kernel, by decide⟩
theorem kv_X5_measureTo : kV yX5_measureTo := ⟨gw_inT (i := 645) (by decide +kernel) (by decide +kernel), gw_in (i := 14) (by decide +kernel) (by decide +kernel)⟩
theorem kb_X5_memberAt : kB yX5_memberAt cX5_memberAt 2 (some .int) 1 := ⟨gw_inT (i := 5) (by decide +kernel) (by decide +kernel), gw_inT (i := 668) (by decide +kernel) (by decide +kernel), by decide +kernel, by decide⟩
theorem kv_X5_memberAt : kV yX5_memberAt := ⟨gw_inT (i := 666) (by decide +kernel) (by decide +kernel), gw_inT (i := 667) (by decide +kernel) (by decide +kernel)⟩
theorem kb_X5_nearest : kB yX5_nearest cX5_nearest 5 (some .int) 1 := ⟨gw_inT (i := 5) (by decide +kernel) (by decide +kernel), gw_inT (i := 650) (by decide +kernel) (by decide +kernel), by decide +kernel, by decide⟩
theorem kv_X5_nearest : kV yX5_nearest := ⟨gw_inT (i := 649) (by decide +kernel) (by decide +kernel), gw_in (i := 15) (by decide +kernel) (by decide +kernel)⟩
theorem kb_X6_add : kB yX6_add cX6_add 5 (some .int) 4 := ⟨gw_inT (i := 8) (by decide +kernel) (by decide +kernel), gw_inT (i := 565) (by decide +kernel) (by decide +kernel), by decide +kernel, by decide⟩
theorem kv_X6_add : kV yX6_add := ⟨gw_inT (i := 563) (by decide +kernel) (by decide +kernel), gw_inT (i := 564) (by decide +kernel) (by decide +kernel)⟩
theorem kb_X6_begin : kB yX6_begin cX6_begin 1 none 0 := ⟨gw_inT (i := 8) (by decide +kernel) (by decide +kernel), gw_inT (i := 497) (by decide +kernel) (by decide +kernel), by decide +kernel, by decide⟩
theorem kv_X6_begin : kV yX6_begin := ⟨gw_inT (i := 495) (by decide +kernel) (by decide +kernel), gw_inT (i := 496) (by decide +kernel) (by decide +kernel)⟩
theorem kb_X6_dropLast : kB yX6_dropLast cX6_dropLast 1 (some .int) 0 := ⟨gw_inT (i := 8) (by decide +kernel) (by decide +kernel), gw_inT (i := 577) (by decide +kernel) (by decide +kernel), by decide +kernel, by decide⟩
theorem kv_X6_dropLast : kV yX6_dropLast := ⟨gw_inT (i := 575) (by decide +kernel) (by decide +kernel), gw_inT (i := 576) (by decide +kernel) (by decide +kernel)⟩
theorem kb_X6_firstFor : kB yX6_firstFor cX6_firstFor 4 (some .int) 1 := ⟨gw_inT (i := 8) (by decide +kernel) (by decide +kernel), gw_inT (i := 223) (by decide +kernel) (by decide +kernel), by decide +kernel, by decide⟩
theorem kv_X6_firstFor : kV yX6_firstFor := ⟨gw_inT (i := 221) (by decide +kernel) (by decide +kernel), gw_inT (i := 222) (by decide +kernel) (by decide +kernel)⟩
theorem kb_X6_init : kB yX6_init cX6_init 1 none 0 := ⟨gw_inT (i := 8) (by decide +kernel) (by decide +kernel), gw_inT (i := 276) (by decide +kernel) (by decide +kernel), by decide +kernel, by decide⟩
theorem kv_X6_init : yX6_init.name = "<init>" ∧ Cond.instanceMethod yX6_init ∈ gwl := ⟨rfl, gw_inT (i := 275) (by decide +kernel) (by decide +kernel)⟩
theorem kb_X6_takeFrom : kB yX6_takeFrom cX6_takeFrom 2 none 1 := ⟨gw_inT (i := 8) (by decide +kernel) (by decide +kernel), gw_inT (i := 960) (by decide +kernel) (by decide +kernel), by decide +kernel, by decide⟩
theorem kv_X6_takeFrom : kV yX6_takeFrom := ⟨gw_inT (i := 958) (by decide +kernel) (by decide +kernel), gw_inT (i := 959) (by decide +kernel) (by decide +kernel)⟩
theorem kb_X6_wayOfRule : kB yX6_wayOfRule cX6_wayOfRule 2 (some .int) 1 := ⟨gw_inT (i := 8) (by decide +kernel) (by decide +kernel), gw_inT (i := 240) (by decide +kernel) (by decide +kernel), by decide +kernel, by decide⟩
theorem kv_X6_wayOfRule : kV yX6_wayOfRule := ⟨gw_inT (i := 238) (by decide +kernel) (by decide +kernel), gw_inT (i := 239) (by decide +kernel) (by decide +kernel)⟩
theorem kb_X7_begin : kB yX7_begin cX7_begin 1 none 0 := ⟨gw_inT (i := 9) (by decide +kernel) (by decide +kernel), gw_inT (i := 501) (by decide +kernel) (by decide +kernel), by decide +kernel, by decide⟩
theorem kv_X7_begin : kV yX7_begin := ⟨gw_inT (i := 499) (by decide +kernel) (by decide +kernel), gw_inT (i := 500) (by decide +kernel) (by decide +kernel)⟩
theorem kb_X7_firstOf : kB yX7_firstOf cX7_firstOf 2 (some .int) 1 := ⟨gw_inT (i := 9) (by decide +kernel) (by decide +kernel), gw_inT (i := 614) (by decide +kernel) (by decide +kernel), by decide +kernel, by decide⟩
theorem kv_X7_firstOf : kV yX7_firstOf := ⟨gw_inT (i := 612) (by decide +kernel) (by decide +kernel), gw_inT (i := 613) (by decide +kernel) (by decide +kernel)⟩
theorem kb_X7_fits : kB yX7_fits cX7_fits 5 (some .boolean) 3 := ⟨gw_inT (i := 9) (by decide +kernel) (by decide +kernel), gw_inT (i := 592) (by decide +kernel) (by decide +kernel), by decide +kernel, by decide⟩
theorem kv_X7_fits : kV yX7_fits := ⟨gw_inT (i := 590) (by decide +kernel) (by decide +kernel), gw_inT (i := 591) (by decide +kernel) (by decide +kernel)⟩
theorem kb_X7_goesOver : kB yX7_goesOver cX7_goesOver 4 (some .boolean) 3 := ⟨gw_inT (i := 9) (by decide +kernel) (by decide +kernel), gw_inT (i := 597) (by decide +kernel) (by decide +kernel), by decide +kernel, by decide⟩
theorem kv_X7_goesOver : kV yX7_goesOver := ⟨gw_inT (i := 596) (by decide +kernel) (by decide +kernel), gw_in (i := 10) (by decide +kernel) (by decide +kernel)⟩
theorem kb_X7_init : kB yX7_init cX7_init 1 none 0 := ⟨gw_inT (i := 9) (by decide +kernel) (by decide +kernel), gw_inT (i := 298) (by decide +kernel) (by decide +kernel), by decide +kernel, by decide⟩
theorem kv_X7_init : yX7_init.name = "<init>" ∧ Cond.instanceMethod yX7_init ∈ gwl := ⟨rfl, gw_inT (i := 297) (by decide +kernel) (by decide +kernel)⟩
theorem kb_X7_put : kB yX7_put cX7_put 4 none 3 := ⟨gw_inT (i := 9) (by decide +kernel) (by decide +kernel), gw_inT (i := 606) (by decide +kernel) (by decide +kernel), by decide +kernel, by decide⟩
theorem kv_X7_put : kV yX7_put := ⟨gw_inT (i := 604) (by decide +kernel) (by decide +kernel), gw_inT (i := 605) (by decide +kernel) (by decide +kernel)⟩
theorem kb_X7_sizeOf : kB yX7_sizeOf cX7_sizeOf 2 (some .int) 1 := ⟨gw_inT (i := 9) (by decide +kernel) (by decide +kernel), gw_inT (i := 601) (by decide +kernel) (by decide +kernel), by decide +kernel, by decide⟩
theorem kv_X7_sizeOf : kV yX7_sizeOf := ⟨gw_inT (i := 599) (by decide +kernel) (by decide +kernel), gw_inT (i := 600) (by decide +kernel) (by decide +kernel)⟩
theorem kb_X7_takeFrom : kB yX7_takeFrom cX7_takeFrom 2 none 1 := ⟨gw_inT (i := 9) (by decide +kernel) (by decide +kernel), gw_inT (i := 965) (by decide +kernel) (by decide +kernel), by decide +kernel, by decide⟩
theorem kv_X7_takeFrom : kV yX7_takeFrom := ⟨gw_inT (i := 963) (by decide +kernel) (by decide +kernel), gw_inT (i := 964) (by decide +kernel) (by decide +kernel)⟩
theorem kb_X7_wayOfSeat : kB yX7_wayOfSeat cX7_wayOfSeat 3 (some .int) 1 := ⟨gw_inT (i := 9) (by decide +kernel) (by decide +kernel), gw_inT (i := 236) (by decide +kernel) (by decide +kernel), by decide +kernel, by decide⟩
theorem kv_X7_wayOfSeat : kV yX7_wayOfSeat := ⟨gw_inT (i := 234) (by decide +kernel) (by decide +kernel), gw_inT (i := 235) (by decide +kernel) (by decide +kernel)⟩
theorem kb_X7_wouldMove : kB yX7_wouldMove cX7_wouldMove 6 (some .boolean) 2 := ⟨gw_inT (i := 9) (by decide +kernel) (by decide +kernel), gw_inT (i := 940) (by decide +kernel) (by decide +kernel), by decide +kernel, by decide⟩
theorem kv_X7_wouldMove : kV yX7_wouldMove := ⟨gw_inT (i := 938) (by decide +kernel) (by decide +kernel), gw_inT (i := 939) (by decide +kernel) (by decide +kernel)⟩
theorem kb_X8_faultAt : kB yX8_faultAt cX8_faultAt 4 (some .int) 2 := ⟨gw_inT (i := 2) (by decide +kernel) (by decide +kernel), gw_inT (i := 161) (by decide +kernel) (by decide +kernel), by decide +kernel, by decide⟩
theorem kv_X8_faultAt : kV yX8_faultAt := ⟨gw_inT (i := 159) (by decide +kernel) (by decide +kernel), gw_inT (i := 160) (by decide +kernel) (by decide +kernel)⟩
theorem kb_X8_find : kB yX8_find cX8_find 3 (some (.object RX9)) 2 := ⟨gw_inT (i := 2) (by decide +kernel) (by decide +kernel), gw_inT (i := 157) (by decide +kernel) (by decide +kernel), by decide +kernel, by decide⟩
theorem kv_X8_find : kV yX8_find := ⟨gw_inT (i := 155) (by decide +kernel) (by decide +kernel), gw_inT (i := 156) (by decide +kernel) (by decide +kernel)⟩
theorem kb_X8_init : kB yX8_init cX8_init 2 none 0 := ⟨gw_inT (i := 2) (by decide +kernel) (by decide +kernel), gw_inT (i := 29) (by decide +kernel) (by decide +kernel), by decide +kernel, by decide⟩
theorem kv_X8_init : yX8_init.name = "<init>" ∧ Cond.instanceMethod yX8_init ∈ gwl := ⟨rfl, gw_inT (i := 28) (by decide +kernel) (by decide +kernel)⟩
theorem kb_X8_placeAt : kB yX8_placeAt cX8_placeAt 2 (some (.object RX4)) 1 := ⟨gw_inT (i := 2) (by decide +kernel) (by decide +kernel), gw_inT (i := 165) (by decide +kernel) (by decide +kernel), by decide +kernel, by decide⟩
theorem kv_X8_placeAt : kV yX8_placeAt := ⟨gw_inT (i := 163) (by decide +kernel) (by decide +kernel), gw_inT (i := 164) (by decide +kernel) (by decide +kernel)⟩
theorem kb_X8_switchAt : kB yX8_switchAt cX8_switchAt 3 (some (.object RX9)) 1 := ⟨gw_inT (i := 2) (by decide +kernel) (by decide +kernel), gw_inT (i := 173) (by decide +kernel) (by decide +kernel), by decide +kernel, by decide⟩
theorem kv_X8_switchAt : kV yX8_switchAt := ⟨gw_inT (i := 171) (by decide +kernel) (by decide +kernel), gw_inT (i := 172) (by decide +kernel) (by decide +kernel)⟩
theorem kb_X8_switchCount : kB yX8_switchCount cX8_switchCount 3 (some .int) 0 := ⟨gw_inT (i := 2) (by decide +kernel) (by decide +kernel), gw_inT (i := 988) (by decide +kernel) (by decide +kernel), by decide +kernel, by decide⟩
theorem kv_X8_switchCount : kV yX8_switchCount := ⟨gw_inT (i := 986) (by decide +kernel) (by decide +kernel), gw_inT (i := 987) (by decide +kernel) (by decide +kernel)⟩
theorem kb_X8_takeFrom : kB yX8_takeFrom cX8_takeFrom 3 none 1 := ⟨gw_inT (i := 2) (by decide +kernel) (by decide +kernel), gw_inT (i := 948) (by decide +kernel) (by decide +kernel), by decide +kernel, by decide⟩
theorem kv_X8_takeFrom : kV yX8_takeFrom := ⟨gw_inT (i := 946) (by decide +kernel) (by decide +kernel), gw_inT (i := 947) (by decide +kernel) (by decide +kernel)⟩
theorem kb_X9_begin : kB yX9_begin cX9_begin 5 none 3 := ⟨gw_inT (i := 7) (by decide +kernel) (by decide +kernel), gw_inT (i := 493) (by decide +kernel) (by decide +kernel), by decide +kernel, by decide⟩
theorem kv_X9_begin : kV yX9_begin := ⟨gw_inT (i := 491) (by decide +kernel) (by decide +kernel), gw_inT (i := 492) (by decide +kernel) (by decide +kernel)⟩
theorem kb_X9_beginRow : kB yX9_beginRow cX9_beginRow 3 none 2 := ⟨gw_inT (i := 7) (by decide +kernel) (by decide +kernel), gw_inT (i := 851) (by decide +kernel) (by decide +kernel), by decide +kernel, by decide⟩
theorem kv_X9_beginRow : kV yX9_beginRow := ⟨gw_inT (i := 849) (by decide +kernel) (by decide +kernel), gw_inT (i := 850) (by decide +kernel) (by decide +kernel)⟩
theorem kb_X9_goBackIfSpent : kB yX9_goBackIfSpent cX9_goBackIfSpent 3 none 1 := ⟨gw_inT (i := 7) (by decide +kernel) (by decide +kernel), gw_inT (i := 828) (by decide +kernel) (by decide +kernel), by decide +kernel, by decide⟩
theorem kv_X9_goBackIfSpent : kV yX9_goBackIfSpent := ⟨gw_inT (i := 826) (by decide +kernel) (by decide +kernel), gw_inT (i := 827) (by decide +kernel) (by decide +kernel)⟩
theorem kb_X9_growFault : kB yX9_growFault cX9_growFault 6 (some .int) 1 := ⟨gw_inT (i := 7) (by decide +kernel) (by decide +kernel), gw_inT (i := 739) (by decide +kernel) (by decide +kernel), by decide +kernel, by decide⟩
theorem kv_X9_growFault : kV yX9_growFault := ⟨gw_inT (i := 737) (by decide +kernel) (by decide +kernel), gw_inT (i := 738) (by decide +kernel) (by decide +kernel)⟩
theorem kb_X9_hangOn : kB yX9_hangOn cX9_hangOn 3 none 2 := ⟨gw_inT (i := 7) (by decide +kernel) (by decide +kernel), gw_inT (i := 508) (by decide +kernel) (by decide +kernel), by decide +kernel, by decide⟩
theorem kv_X9_hangOn : kV yX9_hangOn := ⟨gw_inT (i := 506) (by decide +kernel) (by decide +kernel), gw_inT (i := 507) (by decide +kernel) (by decide +kernel)⟩
theorem kb_X9_init : kB yX9_init cX9_init 2 none 0 := ⟨gw_inT (i := 7) (by decide +kernel) (by decide +kernel), gw_inT (i := 270) (by decide +kernel) (by decide +kernel), by decide +kernel, by decide⟩
theorem kv_X9_init : yX9_init.name = "<init>" ∧ Cond.instanceMethod yX9_init ∈ gwl := ⟨rfl, gw_inT (i := 269) (by decide +kernel) (by decide +kernel)⟩
theorem kb_X9_isStopOf : kB yX9_isStopOf cX9_isStopOf 2 (some .boolean) 1 := ⟨gw_inT (i := 7) (by decide +kernel) (by decide +kernel), gw_inT (i := 213) (by decide +kernel) (by decide +kernel), by decide +kernel, by decide⟩
theorem kv_X9_isStopOf : kV yX9_isStopOf := ⟨gw_inT (i := 211) (by decide +kernel) (by decide +kernel), gw_inT (i := 212) (by decide +kernel) (by decide +kernel)⟩
theorem kb_X9_rowOf : kB yX9_rowOf cX9_rowOf 2 (some (.object RX2)) 1 := ⟨gw_inT (i := 7) (by decide +kernel) (by decide +kernel), gw_inT (i := 746) (by decide +kernel) (by decide +kernel), by decide +kernel, by decide⟩
theorem kv_X9_rowOf : kV yX9_rowOf := ⟨gw_inT (i := 744) (by decide +kernel) (by decide +kernel), gw_inT (i := 745) (by decide +kernel) (by decide +kernel)⟩
theorem kb_X9_seatOf : kB yX9_seatOf cX9_seatOf 2 (some .int) 1 := ⟨gw_inT (i := 7) (by decide +kernel) (by decide +kernel), gw_inT (i := 182) (by decide +kernel) (by decide +kernel), by decide +kernel, by decide⟩
theorem kv_X9_seatOf : kV yX9_seatOf := ⟨gw_inT (i := 180) (by decide +kernel) (by decide +kernel), gw_inT (i := 181) (by decide +kernel) (by decide +kernel)⟩
theorem kb_X9_standOn : kB yX9_standOn cX9_standOn 2 none 1 := ⟨gw_inT (i := 7) (by decide +kernel) (by decide +kernel), gw_inT (i := 791) (by decide +kernel) (by decide +kernel), by decide +kernel, by decide⟩
theorem kv_X9_standOn : kV yX9_standOn := ⟨gw_inT (i := 789) (by decide +kernel) (by decide +kernel), gw_inT (i := 790) (by decide +kernel) (by decide +kernel)⟩
theorem kb_X9_takeFrom : kB yX9_takeFrom cX9_takeFrom 3 none 1 := ⟨gw_inT (i := 7) (by decide +kernel) (by decide +kernel), gw_inT (i := 956) (by decide +kernel) (by decide +kernel), by decide +kernel, by decide⟩
theorem kv_X9_takeFrom : kV yX9_takeFrom := ⟨gw_inT (i := 954) (by decide +kernel) (by decide +kernel), gw_inT (i := 955) (by decide +kernel) (by decide +kernel)⟩
