theorem tb_good5 {ws : List Cond} (is : List Nat) (h : ws.map some = is.map (fun i => lw_tbl[i]?)) (hg : ws.all tb_good = true) (hg2 : ws.all goodWord = true) : GoodIn BIG ws := tb_goodIn (tb_sub ws is h hg) hg2
theorem fl_X10_10 : Cond.fieldLink N_X10 10 "CoalTurns" (T_X10 0).2.1 (T_X10 0).2.2.1 ∈ BIG := tb_in 357 (by decide +kernel) rfl
theorem fl_X10_16 : Cond.fieldLink N_X10 16 "CoalTurns" (T_X10 1).2.1 (T_X10 1).2.2.1 ∈ BIG := tb_in 358 (by decide +kernel) rfl
theorem fl_X10_19 : Cond.fieldLink N_X10 19 "CoalTurns" (T_X10 2).2.1 (T_X10 2).2.2.1 ∈ BIG := tb_in 359 (by decide +kernel) rfl
theorem fl_X10_25 : Cond.fieldLink N_X10 25 "CoalTurns" (T_X10 3).2.1 (T_X10 3).2.2.1 ∈ BIG := tb_in 360 (by decide +kernel) rfl
theorem fl_X10_29 : Cond.fieldLink N_X10 29 "CoalTurns" (T_X10 4).2.1 (T_X10 4).2.2.1 ∈ BIG := tb_in 361 (by decide +kernel) rfl
theorem fl_X10_35 : Cond.fieldLink N_X10 35 "CoalTurns" (T_X10 5).2.1 (T_X10 5).2.2.1 ∈ BIG := tb_in 362 (by decide +kernel) rfl
theorem fl_X10_39 : Cond.fieldLink N_X10 39 "CoalTurns" (T_X10 6).2.1 (T_X10 6).2.2.1 ∈ BIG := tb_in 363 (by decide +kernel) rfl
theorem fl_X10_45 : Cond.fieldLink N_X10 45 "CoalTurns" (T_X10 7).2.1 (T_X10 7).2.2.1 ∈ BIG := tb_in 364 (by decide +kernel) rfl
theorem fl_X10_52 : Cond.fieldLink N_X10 52 "CoalTurns" (T_X10 8).2.1 (T_X10 8).2.2.1 ∈ BIG := tb_in 365 (by decide +kernel) rfl
theorem fl_X10_59 : Cond.fieldLink N_X10 59 "CoalTurns" (T_X10 9).2.1 (T_X10 9).2.2.1 ∈ BIG := tb_in 366 (by decide +kernel) rfl
theorem fl_X10_63 : Cond.fieldLink N_X10 63 "CoalTurns" (T_X10 10).2.1 (T_X10 10).2.2.1 ∈ BIG := tb_in 367 (by decide +kernel) rfl
theorem fl_X10_67 : Cond.fieldLink N_X10 67 "CoalTurns" (T_X10 11).2.1 (T_X10 11).2.2.1 ∈ BIG := tb_in 368 (by decide +kernel) rfl
theorem fl_X10_71 : Cond.fieldLink N_X10 71 "CoalTurns" (T_X10 12).2.1 (T_X10 12).2.2.1 ∈ BIG := tb_in 369 (by decide +kernel) rfl
theorem fl_X10_82 : Cond.fieldLink N_X10 82 "CoalTurns$River" (T_X6 3).2.1 (T_X6 3).2.2.1 ∈ BIG := tb_in 195 (by decide +kernel) rfl
theorem fl_X10_85 : Cond.fieldLink N_X10 85 "CoalTurns$River" (T_X6 0).2.1 (T_X6 0).2.2.1 ∈ BIG := tb_in 188 (by decide +kernel) rfl
theorem fl_X10_98 : Cond.fieldLink N_X10 98 "CoalTurns$Ship" (T_X7 3).2.1 (T_X7 3).2.2.1 ∈ BIG := tb_in 89 (by decide +kernel) rfl
theorem fl_X10_101 : Cond.fieldLink N_X10 101 "CoalTurns$Ship" (T_X7 6).2.1 (T_X7 6).2.2.1 ∈ BIG := tb_in 97 (by decide +kernel) rfl
theorem fl_X10_104 : Cond.fieldLink N_X10 104 "CoalTurns$Ship" (T_X7 7).2.1 (T_X7 7).2.2.1 ∈ BIG := tb_in 102 (by decide +kernel) rfl
theorem fl_X10_111 : Cond.fieldLink N_X10 111 "CoalTurns$Ship" (T_X7 0).2.1 (T_X7 0).2.2.1 ∈ BIG := tb_in 83 (by decide +kernel) rfl
theorem fl_X10_127 : Cond.fieldLink N_X10 127 "CoalTurns$River" (T_X6 4).2.1 (T_X6 4).2.2.1 ∈ BIG := tb_in 197 (by decide +kernel) rfl
theorem fl_X10_130 : Cond.fieldLink N_X10 130 "CoalTurns$River" (T_X6 1).2.1 (T_X6 1).2.2.1 ∈ BIG := tb_in 190 (by decide +kernel) rfl
theorem fl_X10_139 : Cond.fieldLink N_X10 139 "CoalTurns$Buyer" (T_X0 2).2.1 (T_X0 2).2.2.1 ∈ BIG := tb_in 147 (by decide +kernel) rfl
theorem fl_X10_142 : Cond.fieldLink N_X10 142 "CoalTurns$Buyer" (T_X0 3).2.1 (T_X0 3).2.2.1 ∈ BIG := tb_in 151 (by decide +kernel) rfl
theorem fl_X10_148 : Cond.fieldLink N_X10 148 "CoalTurns$River" (T_X6 2).2.1 (T_X6 2).2.2.1 ∈ BIG := tb_in 192 (by decide +kernel) rfl
theorem fl_X10_152 : Cond.fieldLink N_X10 152 "CoalTurns$Ward" (T_X9 0).2.1 (T_X9 0).2.2.1 ∈ BIG := tb_in 167 (by decide +kernel) rfl
theorem fl_X10_158 : Cond.fieldLink N_X10 158 "CoalTurns$Ward" (T_X9 1).2.1 (T_X9 1).2.2.1 ∈ BIG := tb_in 169 (by decide +kernel) rfl
theorem fl_X10_161 : Cond.fieldLink N_X10 161 "CoalTurns$Tape" (T_X8 1).2.1 (T_X8 1).2.2.1 ∈ BIG := tb_in 348 (by decide +kernel) rfl
theorem fl_X10_168 : Cond.fieldLink N_X10 168 "CoalTurns$OrderBook" (T_X4 2).2.1 (T_X4 2).2.2.1 ∈ BIG := tb_in 332 (by decide +kernel) rfl
theorem fl_X10_169 : Cond.fieldLink N_X10 169 "CoalTurns$OrderBook" (T_X4 0).2.1 (T_X4 0).2.2.1 ∈ BIG := tb_in 329 (by decide +kernel) rfl
theorem fl_X10_177 : Cond.fieldLink N_X10 177 "CoalTurns$Order" (T_X3 6).2.1 (T_X3 6).2.2.1 ∈ BIG := tb_in 311 (by decide +kernel) rfl
theorem fl_X10_191 : Cond.fieldLink N_X10 191 "CoalTurns$River" (T_X6 5).2.1 (T_X6 5).2.2.1 ∈ BIG := tb_in 200 (by decide +kernel) rfl
theorem fl_X10_202 : Cond.fieldLink N_X10 202 "CoalTurns$Queue" (T_X5 2).2.1 (T_X5 2).2.2.1 ∈ BIG := tb_in 231 (by decide +kernel) rfl
theorem fl_X10_203 : Cond.fieldLink N_X10 203 "CoalTurns$Queue" (T_X5 0).2.1 (T_X5 0).2.2.1 ∈ BIG := tb_in 227 (by decide +kernel) rfl
theorem fl_X10_225 : Cond.fieldLink N_X10 225 "CoalTurns$DayBook" (T_X1 5).2.1 (T_X1 5).2.2.1 ∈ BIG := tb_in 256 (by decide +kernel) rfl
theorem fl_X10_242 : Cond.fieldLink N_X10 242 "CoalTurns$River" (T_X6 6).2.1 (T_X6 6).2.2.1 ∈ BIG := tb_in 203 (by decide +kernel) rfl
theorem fl_X10_245 : Cond.fieldLink N_X10 245 "CoalTurns$Ship" (T_X7 2).2.1 (T_X7 2).2.2.1 ∈ BIG := tb_in 87 (by decide +kernel) rfl
theorem fl_X10_261 : Cond.fieldLink N_X10 261 "CoalTurns$DayBook" (T_X1 4).2.1 (T_X1 4).2.2.1 ∈ BIG := tb_in 253 (by decide +kernel) rfl
theorem fl_X0_7 : Cond.fieldLink N_X0 7 "CoalTurns$Buyer" (T_X0 0).2.1 (T_X0 0).2.2.1 ∈ BIG := tb_in 143 (by decide +kernel) rfl
theorem fl_X0_13 : Cond.fieldLink N_X0 13 "CoalTurns$Buyer" (T_X0 1).2.1 (T_X0 1).2.2.1 ∈ BIG := tb_in 145 (by decide +kernel) rfl
theorem fl_X0_16 : Cond.fieldLink N_X0 16 "CoalTurns$Buyer" (T_X0 2).2.1 (T_X0 2).2.2.1 ∈ BIG := tb_in 146 (by decide +kernel) rfl
theorem fl_X0_19 : Cond.fieldLink N_X0 19 "CoalTurns$Buyer" (T_X0 3).2.1 (T_X0 3).2.2.1 ∈ BIG := tb_in 149 (by decide +kernel) rfl
theorem fl_X0_26 : Cond.fieldLink N_X0 26 "CoalTurns$Ship" (T_X7 1).2.1 (T_X7 1).2.2.1 ∈ BIG := tb_in 85 (by decide +kernel) rfl
theorem fl_X0_29 : Cond.fieldLink N_X0 29 "CoalTurns$Ship" (T_X7 3).2.1 (T_X7 3).2.2.1 ∈ BIG := tb_in 90 (by decide +kernel) rfl
theorem fl_X1_11 : Cond.fieldLink N_X1 11 "CoalTurns$DayBook" (T_X1 0).2.1 (T_X1 0).2.2.1 ∈ BIG := tb_in 245 (by decide +kernel) rfl
theorem fl_X1_15 : Cond.fieldLink N_X1 15 "CoalTurns$DayBook" (T_X1 1).2.1 (T_X1 1).2.2.1 ∈ BIG := tb_in 247 (by decide +kernel) rfl
theorem fl_X1_18 : Cond.fieldLink N_X1 18 "CoalTurns$DayBook" (T_X1 2).2.1 (T_X1 2).2.2.1 ∈ BIG := tb_in 248 (by decide +kernel) rfl
theorem fl_X1_21 : Cond.fieldLink N_X1 21 "CoalTurns$DayBook" (T_X1 3).2.1 (T_X1 3).2.2.1 ∈ BIG := tb_in 250 (by decide +kernel) rfl
theorem fl_X1_24 : Cond.fieldLink N_X1 24 "CoalTurns$DayBook" (T_X1 4).2.1 (T_X1 4).2.2.1 ∈ BIG := tb_in 251 (by decide +kernel) rfl
theorem fl_X1_28 : Cond.fieldLink N_X1 28 "CoalTurns$DayBook" (T_X1 5).2.1 (T_X1 5).2.2.1 ∈ BIG := tb_in 254 (by decide +kernel) rfl
theorem fl_X1_31 : Cond.fieldLink N_X1 31 "CoalTurns$DayBook" (T_X1 6).2.1 (T_X1 6).2.2.1 ∈ BIG := tb_in 257 (by decide +kernel) rfl
theorem fl_X2_9 : Cond.fieldLink N_X2 9 "CoalTurns$Lighters" (T_X2 0).2.1 (T_X2 0).2.2.1 ∈ BIG := tb_in 280 (by decide +kernel) rfl
theorem fl_X2_15 : Cond.fieldLink N_X2 15 "CoalTurns$Lighters" (T_X2 1).2.1 (T_X2 1).2.2.1 ∈ BIG := tb_in 281 (by decide +kernel) rfl
theorem fl_X2_32 : Cond.fieldLink N_X2 32 "CoalTurns$DayBook" (T_X1 4).2.1 (T_X1 4).2.2.1 ∈ BIG := tb_in 252 (by decide +kernel) rfl
theorem fl_X2_38 : Cond.fieldLink N_X2 38 "CoalTurns$DayBook" (T_X1 0).2.1 (T_X1 0).2.2.1 ∈ BIG := tb_in 246 (by decide +kernel) rfl
theorem fl_X2_41 : Cond.fieldLink N_X2 41 "CoalTurns$DayBook" (T_X1 2).2.1 (T_X1 2).2.2.1 ∈ BIG := tb_in 249 (by decide +kernel) rfl
theorem fl_X3_9 : Cond.fieldLink N_X3 9 "CoalTurns$Order" (T_X3 0).2.1 (T_X3 0).2.2.1 ∈ BIG := tb_in 300 (by decide +kernel) rfl
theorem fl_X3_15 : Cond.fieldLink N_X3 15 "CoalTurns$Order" (T_X3 1).2.1 (T_X3 1).2.2.1 ∈ BIG := tb_in 301 (by decide +kernel) rfl
theorem fl_X3_18 : Cond.fieldLink N_X3 18 "CoalTurns$Order" (T_X3 2).2.1 (T_X3 2).2.2.1 ∈ BIG := tb_in 302 (by decide +kernel) rfl
theorem fl_X3_22 : Cond.fieldLink N_X3 22 "CoalTurns$Order" (T_X3 3).2.1 (T_X3 3).2.2.1 ∈ BIG := tb_in 303 (by decide +kernel) rfl
theorem fl_X3_26 : Cond.fieldLink N_X3 26 "CoalTurns$Order" (T_X3 4).2.1 (T_X3 4).2.2.1 ∈ BIG := tb_in 305 (by decide +kernel) rfl
theorem fl_X3_29 : Cond.fieldLink N_X3 29 "CoalTurns$Order" (T_X3 5).2.1 (T_X3 5).2.2.1 ∈ BIG := tb_in 307 (by decide +kernel) rfl
theorem fl_X3_32 : Cond.fieldLink N_X3 32 "CoalTurns$Order" (T_X3 6).2.1 (T_X3 6).2.2.1 ∈ BIG := tb_in 309 (by decide +kernel) rfl
theorem fl_X3_35 : Cond.fieldLink N_X3 35 "CoalTurns$Ship" (T_X7 3).2.1 (T_X7 3).2.2.1 ∈ BIG := tb_in 91 (by decide +kernel) rfl
theorem fl_X3_40 : Cond.fieldLink N_X3 40 "CoalTurns$Ship" (T_X7 6).2.1 (T_X7 6).2.2.1 ∈ BIG := tb_in 98 (by decide +kernel) rfl
theorem fl_X3_43 : Cond.fieldLink N_X3 43 "CoalTurns$Ship" (T_X7 8).2.1 (T_X7 8).2.2.1 ∈ BIG := tb_in 104 (by decide +kernel) rfl
theorem fl_X4_11 : Cond.fieldLink N_X4 11 "CoalTurns$OrderBook" (T_X4 0).2.1 (T_X4 0).2.2.1 ∈ BIG := tb_in 328 (by decide +kernel) rfl
theorem fl_X4_18 : Cond.fieldLink N_X4 18 "CoalTurns$OrderBook" (T_X4 1).2.1 (T_X4 1).2.2.1 ∈ BIG := tb_in 330 (by decide +kernel) rfl
theorem fl_X4_22 : Cond.fieldLink N_X4 22 "CoalTurns$OrderBook" (T_X4 2).2.1 (T_X4 2).2.2.1 ∈ BIG := tb_in 331 (by decide +kernel) rfl
theorem fl_X4_30 : Cond.fieldLink N_X4 30 "CoalTurns$Order" (T_X3 6).2.1 (T_X3 6).2.2.1 ∈ BIG := tb_in 310 (by decide +kernel) rfl
theorem fl_X5_9 : Cond.fieldLink N_X5 9 "CoalTurns$Queue" (T_X5 0).2.1 (T_X5 0).2.2.1 ∈ BIG := tb_in 225 (by decide +kernel) rfl
theorem fl_X5_15 : Cond.fieldLink N_X5 15 "CoalTurns$Queue" (T_X5 1).2.1 (T_X5 1).2.2.1 ∈ BIG := tb_in 228 (by decide +kernel) rfl
theorem fl_X5_18 : Cond.fieldLink N_X5 18 "CoalTurns$Queue" (T_X5 2).2.1 (T_X5 2).2.2.1 ∈ BIG := tb_in 229 (by decide +kernel) rfl
theorem fl_X5_22 : Cond.fieldLink N_X5 22 "CoalTurns$River" (T_X6 3).2.1 (T_X6 3).2.2.1 ∈ BIG := tb_in 194 (by decide +kernel) rfl
theorem fl_X5_27 : Cond.fieldLink N_X5 27 "CoalTurns$River" (T_X6 0).2.1 (T_X6 0).2.2.1 ∈ BIG := tb_in 187 (by decide +kernel) rfl
theorem fl_X5_30 : Cond.fieldLink N_X5 30 "CoalTurns$Ship" (T_X7 0).2.1 (T_X7 0).2.2.1 ∈ BIG := tb_in 82 (by decide +kernel) rfl
theorem fl_X5_39 : Cond.fieldLink N_X5 39 "CoalTurns$River" (T_X6 5).2.1 (T_X6 5).2.2.1 ∈ BIG := tb_in 199 (by decide +kernel) rfl
theorem fl_X5_50 : Cond.fieldLink N_X5 50 "CoalTurns$River" (T_X6 6).2.1 (T_X6 6).2.2.1 ∈ BIG := tb_in 202 (by decide +kernel) rfl
theorem fl_X5_72 : Cond.fieldLink N_X5 72 "CoalTurns$Ship" (T_X7 7).2.1 (T_X7 7).2.2.1 ∈ BIG := tb_in 101 (by decide +kernel) rfl
theorem fl_X6_11 : Cond.fieldLink N_X6 11 "CoalTurns$River" (T_X6 0).2.1 (T_X6 0).2.2.1 ∈ BIG := tb_in 186 (by decide +kernel) rfl
theorem fl_X6_19 : Cond.fieldLink N_X6 19 "CoalTurns$River" (T_X6 1).2.1 (T_X6 1).2.2.1 ∈ BIG := tb_in 189 (by decide +kernel) rfl
theorem fl_X6_25 : Cond.fieldLink N_X6 25 "CoalTurns$River" (T_X6 2).2.1 (T_X6 2).2.2.1 ∈ BIG := tb_in 191 (by decide +kernel) rfl
theorem fl_X6_29 : Cond.fieldLink N_X6 29 "CoalTurns$River" (T_X6 3).2.1 (T_X6 3).2.2.1 ∈ BIG := tb_in 193 (by decide +kernel) rfl
theorem fl_X6_33 : Cond.fieldLink N_X6 33 "CoalTurns$River" (T_X6 4).2.1 (T_X6 4).2.2.1 ∈ BIG := tb_in 196 (by decide +kernel) rfl
theorem fl_X6_36 : Cond.fieldLink N_X6 36 "CoalTurns$River" (T_X6 5).2.1 (T_X6 5).2.2.1 ∈ BIG := tb_in 198 (by decide +kernel) rfl
theorem fl_X6_39 : Cond.fieldLink N_X6 39 "CoalTurns$River" (T_X6 6).2.1 (T_X6 6).2.2.1 ∈ BIG := tb_in 201 (by decide +kernel) rfl
theorem fl_X6_63 : Cond.fieldLink N_X6 63 "CoalTurns$Queue" (T_X5 2).2.1 (T_X5 2).2.2.1 ∈ BIG := tb_in 230 (by decide +kernel) rfl
theorem fl_X6_68 : Cond.fieldLink N_X6 68 "CoalTurns$Queue" (T_X5 0).2.1 (T_X5 0).2.2.1 ∈ BIG := tb_in 226 (by decide +kernel) rfl
theorem fl_X6_78 : Cond.fieldLink N_X6 78 "CoalTurns$DayBook" (T_X1 5).2.1 (T_X1 5).2.2.1 ∈ BIG := tb_in 255 (by decide +kernel) rfl
theorem fl_X6_83 : Cond.fieldLink N_X6 83 "CoalTurns$DayBook" (T_X1 6).2.1 (T_X1 6).2.2.1 ∈ BIG := tb_in 258 (by decide +kernel) rfl
theorem fl_X6_86 : Cond.fieldLink N_X6 86 "CoalTurns$Ship" (T_X7 6).2.1 (T_X7 6).2.2.1 ∈ BIG := tb_in 99 (by decide +kernel) rfl
theorem fl_X6_97 : Cond.fieldLink N_X6 97 "CoalTurns$Buyer" (T_X0 3).2.1 (T_X0 3).2.2.1 ∈ BIG := tb_in 150 (by decide +kernel) rfl
theorem fl_X6_104 : Cond.fieldLink N_X6 104 "CoalTurns$Buyer" (T_X0 2).2.1 (T_X0 2).2.2.1 ∈ BIG := tb_in 148 (by decide +kernel) rfl
theorem fl_X6_113 : Cond.fieldLink N_X6 113 "CoalTurns$Ship" (T_X7 3).2.1 (T_X7 3).2.2.1 ∈ BIG := tb_in 92 (by decide +kernel) rfl
theorem fl_X6_119 : Cond.fieldLink N_X6 119 "CoalTurns$Buyer" (T_X0 0).2.1 (T_X0 0).2.2.1 ∈ BIG := tb_in 144 (by decide +kernel) rfl
theorem fl_X6_133 : Cond.fieldLink N_X6 133 "CoalTurns$Ward" (T_X9 2).2.1 (T_X9 2).2.2.1 ∈ BIG := tb_in 171 (by decide +kernel) rfl
theorem fl_X6_136 : Cond.fieldLink N_X6 136 "CoalTurns$Ship" (T_X7 12).2.1 (T_X7 12).2.2.1 ∈ BIG := tb_in 110 (by decide +kernel) rfl
theorem fl_X6_139 : Cond.fieldLink N_X6 139 "CoalTurns$Ship" (T_X7 4).2.1 (T_X7 4).2.2.1 ∈ BIG := tb_in 94 (by decide +kernel) rfl
theorem fl_X6_142 : Cond.fieldLink N_X6 142 "CoalTurns$Ship" (T_X7 11).2.1 (T_X7 11).2.2.1 ∈ BIG := tb_in 108 (by decide +kernel) rfl
theorem fl_X7_9 : Cond.fieldLink N_X7 9 "CoalTurns$Ship" (T_X7 0).2.1 (T_X7 0).2.2.1 ∈ BIG := tb_in 81 (by decide +kernel) rfl
theorem fl_X7_15 : Cond.fieldLink N_X7 15 "CoalTurns$Ship" (T_X7 1).2.1 (T_X7 1).2.2.1 ∈ BIG := tb_in 84 (by decide +kernel) rfl
theorem fl_X7_18 : Cond.fieldLink N_X7 18 "CoalTurns$Ship" (T_X7 2).2.1 (T_X7 2).2.2.1 ∈ BIG := tb_in 86 (by decide +kernel) rfl
theorem fl_X7_21 : Cond.fieldLink N_X7 21 "CoalTurns$Ship" (T_X7 3).2.1 (T_X7 3).2.2.1 ∈ BIG := tb_in 88 (by decide +kernel) rfl
theorem fl_X7_24 : Cond.fieldLink N_X7 24 "CoalTurns$Ship" (T_X7 4).2.1 (T_X7 4).2.2.1 ∈ BIG := tb_in 93 (by decide +kernel) rfl
theorem fl_X7_27 : Cond.fieldLink N_X7 27 "CoalTurns$Ship" (T_X7 5).2.1 (T_X7 5).2.2.1 ∈ BIG := tb_in 95 (by decide +kernel) rfl
theorem fl_X7_30 : Cond.fieldLink N_X7 30 "CoalTurns$Ship" (T_X7 6).2.1 (T_X7 6).2.2.1 ∈ BIG := tb_in 96 (by decide +kernel) rfl
theorem fl_X7_33 : Cond.fieldLink N_X7 33 "CoalTurns$Ship" (T_X7 7).2.1 (T_X7 7).2.2.1 ∈ BIG := tb_in 100 (by decide +kernel) rfl
theorem fl_X7_36 : Cond.fieldLink N_X7 36 "CoalTurns$Ship" (T_X7 8).2.1 (T_X7 8).2.2.1 ∈ BIG := tb_in 103 (by decide +kernel) rfl
theorem fl_X7_39 : Cond.fieldLink N_X7 39 "CoalTurns$Ship" (T_X7 9).2.1 (T_X7 9).2.2.1 ∈ BIG := tb_in 105 (by decide +kernel) rfl
theorem fl_X7_42 : Cond.fieldLink N_X7 42 "CoalTurns$Ship" (T_X7 10).2.1 (T_X7 10).2.2.1 ∈ BIG := tb_in 106 (by decide +kernel) rfl
theorem fl_X7_45 : Cond.fieldLink N_X7 45 "CoalTurns$Ship" (T_X7 11).2.1 (T_X7 11).2.2.1 ∈ BIG := tb_in 107 (by decide +kernel) rfl
theorem fl_X7_48 : Cond.fieldLink N_X7 48 "CoalTurns$Ship" (T_X7 12).2.1 (T_X7 12).2.2.1 ∈ BIG := tb_in 109 (by decide +kernel) rfl
theorem fl_X8_9 : Cond.fieldLink N_X8 9 "CoalTurns$Tape" (T_X8 0).2.1 (T_X8 0).2.2.1 ∈ BIG := tb_in 346 (by decide +kernel) rfl
theorem fl_X8_15 : Cond.fieldLink N_X8 15 "CoalTurns$Tape" (T_X8 1).2.1 (T_X8 1).2.2.1 ∈ BIG := tb_in 347 (by decide +kernel) rfl
theorem fl_X8_19 : Cond.fieldLink N_X8 19 "CoalTurns$Tape" (T_X8 2).2.1 (T_X8 2).2.2.1 ∈ BIG := tb_in 349 (by decide +kernel) rfl
theorem fl_X8_22 : Cond.fieldLink N_X8 22 "CoalTurns$Order" (T_X3 3).2.1 (T_X3 3).2.2.1 ∈ BIG := tb_in 304 (by decide +kernel) rfl
theorem fl_X8_43 : Cond.fieldLink N_X8 43 "CoalTurns$Order" (T_X3 5).2.1 (T_X3 5).2.2.1 ∈ BIG := tb_in 308 (by decide +kernel) rfl
theorem fl_X8_61 : Cond.fieldLink N_X8 61 "CoalTurns$Order" (T_X3 4).2.1 (T_X3 4).2.2.1 ∈ BIG := tb_in 306 (by decide +kernel) rfl
theorem fl_X9_9 : Cond.fieldLink N_X9 9 "CoalTurns$Ward" (T_X9 0).2.1 (T_X9 0).2.2.1 ∈ BIG := tb_in 166 (by decide +kernel) rfl
theorem fl_X9_21 : Cond.fieldLink N_X9 21 "CoalTurns$Ward" (T_X9 1).2.1 (T_X9 1).2.2.1 ∈ BIG := tb_in 168 (by decide +kernel) rfl
theorem fl_X9_25 : Cond.fieldLink N_X9 25 "CoalTurns$Ward" (T_X9 2).2.1 (T_X9 2).2.2.1 ∈ BIG := tb_in 170 (by decide +kernel) rfl
theorem fl_X9_28 : Cond.fieldLink N_X9 28 "CoalTurns$Ward" (T_X9 3).2.1 (T_X9 3).2.2.1 ∈ BIG := tb_in 172 (by decide +kernel) rfl
theorem fl_X9_31 : Cond.fieldLink N_X9 31 "CoalTurns$Ward" (T_X9 4).2.1 (T_X9 4).2.2.1 ∈ BIG := tb_in 173 (by decide +kernel) rfl
theorem fl_X11_7 : Cond.fieldLink N_X11 7 "CoalTurnsModel" (T_X11 2).2.1 (T_X11 2).2.2.1 ∈ BIG := tb_in 823 (by decide +kernel) rfl
theorem fl_X11_13 : Cond.fieldLink N_X11 13 "CoalTurnsModel" (T_X11 3).2.1 (T_X11 3).2.2.1 ∈ BIG := tb_in 824 (by decide +kernel) rfl
theorem fl_X11_16 : Cond.fieldLink N_X11 16 "CoalTurnsModel" (T_X11 4).2.1 (T_X11 4).2.2.1 ∈ BIG := tb_in 825 (by decide +kernel) rfl
theorem fl_X11_19 : Cond.fieldLink N_X11 19 "CoalTurnsModel" (T_X11 5).2.1 (T_X11 5).2.2.1 ∈ BIG := tb_in 826 (by decide +kernel) rfl
theorem fl_X11_22 : Cond.fieldLink N_X11 22 "CoalTurnsModel" (T_X11 6).2.1 (T_X11 6).2.2.1 ∈ BIG := tb_in 827 (by decide +kernel) rfl
theorem fl_X11_25 : Cond.fieldLink N_X11 25 "CoalTurnsModel" (T_X11 7).2.1 (T_X11 7).2.2.1 ∈ BIG := tb_in 828 (by decide +kernel) rfl
theorem fl_X11_28 : Cond.fieldLink N_X11 28 "CoalTurnsModel" (T_X11 8).2.1 (T_X11 8).2.2.1 ∈ BIG := tb_in 829 (by decide +kernel) rfl
theorem fl_X11_31 : Cond.fieldLink N_X11 31 "CoalTurnsModel" (T_X11 9).2.1 (T_X11 9).2.2.1 ∈ BIG := tb_in 830 (by decide +kernel) rfl
theorem fl_X11_34 : Cond.fieldLink N_X11 34 "CoalTurnsModel" (T_X11 10).2.1 (T_X11 10).2.2.1 ∈ BIG := tb_in 831 (by decide +kernel) rfl
theorem fl_X11_37 : Cond.fieldLink N_X11 37 "CoalTurnsModel" (T_X11 11).2.1 (T_X11 11).2.2.1 ∈ BIG := tb_in 832 (by decide +kernel) rfl
theorem fl_X11_40 : Cond.fieldLink N_X11 40 "CoalTurnsModel" (T_X11 12).2.1 (T_X11 12).2.2.1 ∈ BIG := tb_in 833 (by decide +kernel) rfl
theorem fl_X11_43 : Cond.fieldLink N_X11 43 "CoalTurnsModel" (T_X11 13).2.1 (T_X11 13).2.2.1 ∈ BIG := tb_in 834 (by decide +kernel) rfl
theorem fl_X11_46 : Cond.fieldLink N_X11 46 "CoalTurnsModel" (T_X11 14).2.1 (T_X11 14).2.2.1 ∈ BIG := tb_in 835 (by decide +kernel) rfl
theorem fl_X11_49 : Cond.fieldLink N_X11 49 "CoalTurnsModel" (T_X11 16).2.1 (T_X11 16).2.2.1 ∈ BIG := tb_in 837 (by decide +kernel) rfl
theorem fl_X11_52 : Cond.fieldLink N_X11 52 "CoalTurnsModel" (T_X11 17).2.1 (T_X11 17).2.2.1 ∈ BIG := tb_in 838 (by decide +kernel) rfl
theorem fl_X11_55 : Cond.fieldLink N_X11 55 "CoalTurnsModel" (T_X11 18).2.1 (T_X11 18).2.2.1 ∈ BIG := tb_in 839 (by decide +kernel) rfl
theorem fl_X11_58 : Cond.fieldLink N_X11 58 "CoalTurnsModel" (T_X11 19).2.1 (T_X11 19).2.2.1 ∈ BIG := tb_in 840 (by decide +kernel) rfl
theorem fl_X11_61 : Cond.fieldLink N_X11 61 "CoalTurnsModel" (T_X11 20).2.1 (T_X11 20).2.2.1 ∈ BIG := tb_in 841 (by decide +kernel) rfl
theorem fl_X11_64 : Cond.fieldLink N_X11 64 "CoalTurnsModel" (T_X11 21).2.1 (T_X11 21).2.2.1 ∈ BIG := tb_in 842 (by decide +kernel) rfl
theorem fl_X11_67 : Cond.fieldLink N_X11 67 "CoalTurnsModel" (T_X11 22).2.1 (T_X11 22).2.2.1 ∈ BIG := tb_in 843 (by decide +kernel) rfl
theorem fl_X11_70 : Cond.fieldLink N_X11 70 "CoalTurnsModel" (T_X11 23).2.1 (T_X11 23).2.2.1 ∈ BIG := tb_in 844 (by decide +kernel) rfl
theorem fl_X11_73 : Cond.fieldLink N_X11 73 "CoalTurnsModel" (T_X11 24).2.1 (T_X11 24).2.2.1 ∈ BIG := tb_in 845 (by decide +kernel) rfl
theorem fl_X11_76 : Cond.fieldLink N_X11 76 "CoalTurnsModel" (T_X11 26).2.1 (T_X11 26).2.2.1 ∈ BIG := tb_in 847 (by decide +kernel) rfl
theorem fl_X11_80 : Cond.fieldLink N_X11 80 "CoalTurnsModel" (T_X11 28).2.1 (T_X11 28).2.2.1 ∈ BIG := tb_in 849 (by decide +kernel) rfl
theorem fl_X11_83 : Cond.fieldLink N_X11 83 "CoalTurnsModel" (T_X11 29).2.1 (T_X11 29).2.2.1 ∈ BIG := tb_in 850 (by decide +kernel) rfl
theorem fl_X11_86 : Cond.fieldLink N_X11 86 "CoalTurnsModel" (T_X11 30).2.1 (T_X11 30).2.2.1 ∈ BIG := tb_in 851 (by decide +kernel) rfl
theorem fl_X11_89 : Cond.fieldLink N_X11 89 "CoalTurnsModel" (T_X11 31).2.1 (T_X11 31).2.2.1 ∈ BIG := tb_in 852 (by decide +kernel) rfl
theorem fl_X11_92 : Cond.fieldLink N_X11 92 "CoalTurnsModel" (T_X11 32).2.1 (T_X11 32).2.2.1 ∈ BIG := tb_in 853 (by decide +kernel) rfl
theorem fl_X11_96 : Cond.fieldLink N_X11 96 "CoalTurnsModel" (T_X11 35).2.1 (T_X11 35).2.2.1 ∈ BIG := tb_in 856 (by decide +kernel) rfl
theorem fl_X11_99 : Cond.fieldLink N_X11 99 "CoalTurnsModel" (T_X11 36).2.1 (T_X11 36).2.2.1 ∈ BIG := tb_in 857 (by decide +kernel) rfl
theorem fl_X11_102 : Cond.fieldLink N_X11 102 "CoalTurnsModel" (T_X11 37).2.1 (T_X11 37).2.2.1 ∈ BIG := tb_in 858 (by decide +kernel) rfl
theorem fl_X11_105 : Cond.fieldLink N_X11 105 "CoalTurnsModel" (T_X11 38).2.1 (T_X11 38).2.2.1 ∈ BIG := tb_in 859 (by decide +kernel) rfl
theorem fl_X11_108 : Cond.fieldLink N_X11 108 "CoalTurnsModel" (T_X11 39).2.1 (T_X11 39).2.2.1 ∈ BIG := tb_in 860 (by decide +kernel) rfl
theorem fl_X11_112 : Cond.fieldLink N_X11 112 "CoalTurnsModel" (T_X11 40).2.1 (T_X11 40).2.2.1 ∈ BIG := tb_in 861 (by decide +kernel) rfl
theorem fl_X11_115 : Cond.fieldLink N_X11 115 "CoalTurnsModel" (T_X11 41).2.1 (T_X11 41).2.2.1 ∈ BIG := tb_in 862 (by decide +kernel) rfl
theorem fl_X11_118 : Cond.fieldLink N_X11 118 "CoalTurnsModel" (T_X11 45).2.1 (T_X11 45).2.2.1 ∈ BIG := tb_in 866 (by decide +kernel) rfl
theorem fl_X11_121 : Cond.fieldLink N_X11 121 "CoalTurnsModel" (T_X11 46).2.1 (T_X11 46).2.2.1 ∈ BIG := tb_in 867 (by decide +kernel) rfl
theorem fl_X11_124 : Cond.fieldLink N_X11 124 "CoalTurnsModel" (T_X11 47).2.1 (T_X11 47).2.2.1 ∈ BIG := tb_in 868 (by decide +kernel) rfl
theorem fl_X11_127 : Cond.fieldLink N_X11 127 "CoalTurnsModel" (T_X11 48).2.1 (T_X11 48).2.2.1 ∈ BIG := tb_in 869 (by decide +kernel) rfl
theorem fl_X11_130 : Cond.fieldLink N_X11 130 "CoalTurnsModel" (T_X11 49).2.1 (T_X11 49).2.2.1 ∈ BIG := tb_in 870 (by decide +kernel) rfl
theorem fl_X11_133 : Cond.fieldLink N_X11 133 "CoalTurnsModel" (T_X11 50).2.1 (T_X11 50).2.2.1 ∈ BIG := tb_in 871 (by decide +kernel) rfl
theorem fl_X11_136 : Cond.fieldLink N_X11 136 "CoalTurnsModel" (T_X11 51).2.1 (T_X11 51).2.2.1 ∈ BIG := tb_in 872 (by decide +kernel) rfl
theorem fl_X11_139 : Cond.fieldLink N_X11 139 "CoalTurnsModel" (T_X11 52).2.1 (T_X11 52).2.2.1 ∈ BIG := tb_in 873 (by decide +kernel) rfl
theorem fl_X11_142 : Cond.fieldLink N_X11 142 "CoalTurnsModel" (T_X11 60).2.1 (T_X11 60).2.2.1 ∈ BIG := tb_in 881 (by decide +kernel) rfl
theorem fl_X11_145 : Cond.fieldLink N_X11 145 "CoalTurnsModel" (T_X11 61).2.1 (T_X11 61).2.2.1 ∈ BIG := tb_in 882 (by decide +kernel) rfl
theorem fl_X11_148 : Cond.fieldLink N_X11 148 "CoalTurnsModel" (T_X11 62).2.1 (T_X11 62).2.2.1 ∈ BIG := tb_in 883 (by decide +kernel) rfl
theorem fl_X11_151 : Cond.fieldLink N_X11 151 "CoalTurnsModel" (T_X11 63).2.1 (T_X11 63).2.2.1 ∈ BIG := tb_in 884 (by decide +kernel) rfl
theorem fl_X11_154 : Cond.fieldLink N_X11 154 "CoalTurnsModel" (T_X11 64).2.1 (T_X11 64).2.2.1 ∈ BIG := tb_in 885 (by decide +kernel) rfl
theorem fl_X11_157 : Cond.fieldLink N_X11 157 "CoalTurnsModel" (T_X11 65).2.1 (T_X11 65).2.2.1 ∈ BIG := tb_in 886 (by decide +kernel) rfl
theorem fl_X11_160 : Cond.fieldLink N_X11 160 "CoalTurnsModel" (T_X11 66).2.1 (T_X11 66).2.2.1 ∈ BIG := tb_in 887 (by decide +kernel) rfl
theorem fl_X11_166 : Cond.fieldLink N_X11 166 "CoalTurnsModel" (T_X11 1).2.1 (T_X11 1).2.2.1 ∈ BIG := tb_in 822 (by decide +kernel) rfl
theorem fl_X11_173 : Cond.fieldLink N_X11 173 "CoalTurnsModel" (T_X11 15).2.1 (T_X11 15).2.2.1 ∈ BIG := tb_in 836 (by decide +kernel) rfl
theorem fl_X11_190 : Cond.fieldLink N_X11 190 "CoalTurnsModel" (T_X11 33).2.1 (T_X11 33).2.2.1 ∈ BIG := tb_in 854 (by decide +kernel) rfl
theorem fl_X11_193 : Cond.fieldLink N_X11 193 "CoalTurnsModel" (T_X11 42).2.1 (T_X11 42).2.2.1 ∈ BIG := tb_in 863 (by decide +kernel) rfl
theorem fl_X11_199 : Cond.fieldLink N_X11 199 "CoalTurnsModel" (T_X11 43).2.1 (T_X11 43).2.2.1 ∈ BIG := tb_in 864 (by decide +kernel) rfl
theorem fl_X11_214 : Cond.fieldLink N_X11 214 "CoalTurnsModel" (T_X11 34).2.1 (T_X11 34).2.2.1 ∈ BIG := tb_in 855 (by decide +kernel) rfl
theorem fl_X11_227 : Cond.fieldLink N_X11 227 "CoalTurnsModel" (T_X11 25).2.1 (T_X11 25).2.2.1 ∈ BIG := tb_in 846 (by decide +kernel) rfl
theorem fl_X11_233 : Cond.fieldLink N_X11 233 "CoalTurnsModel" (T_X11 44).2.1 (T_X11 44).2.2.1 ∈ BIG := tb_in 865 (by decide +kernel) rfl
theorem fl_X11_243 : Cond.fieldLink N_X11 243 "CoalTurnsModel" (T_X11 27).2.1 (T_X11 27).2.2.1 ∈ BIG := tb_in 848 (by decide +kernel) rfl
theorem fl_X11_246 : Cond.fieldLink N_X11 246 "CoalTurnsModel" (T_X11 58).2.1 (T_X11 58).2.2.1 ∈ BIG := tb_in 879 (by decide +kernel) rfl
theorem fl_X11_249 : Cond.fieldLink N_X11 249 "CoalTurnsModel" (T_X11 59).2.1 (T_X11 59).2.2.1 ∈ BIG := tb_in 880 (by decide +kernel) rfl
theorem fl_X11_265 : Cond.fieldLink N_X11 265 "CoalTurnsModel" (T_X11 57).2.1 (T_X11 57).2.2.1 ∈ BIG := tb_in 878 (by decide +kernel) rfl
theorem fl_X11_269 : Cond.fieldLink N_X11 269 "CoalTurnsModel" (T_X11 53).2.1 (T_X11 53).2.2.1 ∈ BIG := tb_in 874 (by decide +kernel) rfl
theorem fl_X11_272 : Cond.fieldLink N_X11 272 "CoalTurnsModel" (T_X11 54).2.1 (T_X11 54).2.2.1 ∈ BIG := tb_in 875 (by decide +kernel) rfl
theorem fl_X11_275 : Cond.fieldLink N_X11 275 "CoalTurnsModel" (T_X11 55).2.1 (T_X11 55).2.2.1 ∈ BIG := tb_in 876 (by decide +kernel) rfl
theorem fl_X11_278 : Cond.fieldLink N_X11 278 "CoalTurnsModel" (T_X11 56).2.1 (T_X11 56).2.2.1 ∈ BIG := tb_in 877 (by decide +kernel) rfl
set_option maxRecDepth 1000000 in
theorem gc_X10_74 : GoodIn BIG [.methodLink N_X10 74 m_X10_within, .static m_X10_within, .initialized N_X10, .code m_X10_within c_X10_within 3 (some .boolean)] := tb_good5 [401, 402, 37, 403] rfl (by decide +kernel) (by decide +kernel)
set_option maxRecDepth 1000000 in
theorem gc_X10_78 : GoodIn BIG [.methodLink N_X10 78 m_X10_isAsk, .static m_X10_isAsk, .initialized N_X10, .code m_X10_isAsk c_X10_isAsk 1 (some .boolean)] := tb_good5 [404, 405, 37, 406] rfl (by decide +kernel) (by decide +kernel)
set_option maxRecDepth 1000000 in
theorem gc_X10_89 : GoodIn BIG [.methodLink N_X10 89 m_X7_begin, .instanceMethod m_X7_begin, .selects N_X7 m_X7_begin m_X7_begin, .initialized N_X7, .code m_X7_begin c_X7_begin 7 none] := tb_good5 [407, 408, 409, 39, 410] rfl (by decide +kernel) (by decide +kernel)
set_option maxRecDepth 1000000 in
theorem gc_X10_95 : GoodIn BIG [.methodLink N_X10 95 m_X6_hasShip, .instanceMethod m_X6_hasShip, .selects N_X6 m_X6_hasShip m_X6_hasShip, .initialized N_X6, .code m_X6_hasShip c_X6_hasShip 2 (some .boolean)] := tb_good5 [415, 416, 417, 38, 418] rfl (by decide +kernel) (by decide +kernel)
set_option maxRecDepth 1000000 in
theorem gc_X10_107 : GoodIn BIG [.methodLink N_X10 107 m_X7_founder, .instanceMethod m_X7_founder, .selects N_X7 m_X7_founder m_X7_founder, .initialized N_X7, .code m_X7_founder c_X7_founder 3 (some .int)] := tb_good5 [424, 425, 426, 39, 427] rfl (by decide +kernel) (by decide +kernel)
set_option maxRecDepth 1000000 in
theorem gc_X10_114 : GoodIn BIG [.methodLink N_X10 114 m_X7_leave, .instanceMethod m_X7_leave, .selects N_X7 m_X7_leave m_X7_leave, .initialized N_X7, .code m_X7_leave c_X7_leave 2 (some .int)] := tb_good5 [436, 437, 438, 39, 439] rfl (by decide +kernel) (by decide +kernel)
set_option maxRecDepth 1000000 in
theorem gc_X10_118 : GoodIn BIG [.methodLink N_X10 118 m_X10_isWard, .static m_X10_isWard, .initialized N_X10, .code m_X10_isWard c_X10_isWard 1 (some .boolean)] := tb_good5 [444, 445, 37, 446] rfl (by decide +kernel) (by decide +kernel)
set_option maxRecDepth 1000000 in
theorem gc_X10_121 : GoodIn BIG [.methodLink N_X10 121 m_X10_isWant, .static m_X10_isWant, .initialized N_X10, .code m_X10_isWant c_X10_isWant 1 (some .boolean)] := tb_good5 [447, 448, 37, 449] rfl (by decide +kernel) (by decide +kernel)
set_option maxRecDepth 1000000 in
theorem gc_X10_124 : GoodIn BIG [.methodLink N_X10 124 m_X10_isBid, .static m_X10_isBid, .initialized N_X10, .code m_X10_isBid c_X10_isBid 1 (some .boolean)] := tb_good5 [450, 451, 37, 452] rfl (by decide +kernel) (by decide +kernel)
set_option maxRecDepth 1000000 in
theorem gc_X10_134 : GoodIn BIG [.methodLink N_X10 134 m_X0_begin, .instanceMethod m_X0_begin, .selects N_X0 m_X0_begin m_X0_begin, .initialized N_X0, .code m_X0_begin c_X0_begin 5 none] := tb_good5 [453, 454, 455, 40, 456] rfl (by decide +kernel) (by decide +kernel)
set_option maxRecDepth 1000000 in
theorem gc_X10_145 : GoodIn BIG [.methodLink N_X10 145 m_X10_isCold, .static m_X10_isCold, .initialized N_X10, .code m_X10_isCold c_X10_isCold 1 (some .boolean)] := tb_good5 [465, 466, 37, 467] rfl (by decide +kernel) (by decide +kernel)
set_option maxRecDepth 1000000 in
theorem gc_X10_164 : GoodIn BIG [.methodLink N_X10 164 m_X8_append, .instanceMethod m_X8_append, .selects N_X8 m_X8_append m_X8_append, .initialized N_X8, .code m_X8_append c_X8_append 2 none] := tb_good5 [476, 477, 478, 47, 479] rfl (by decide +kernel) (by decide +kernel)
set_option maxRecDepth 1000000 in
theorem gc_X10_173 : GoodIn BIG [.methodLink N_X10 173 m_X8_read, .instanceMethod m_X8_read, .selects N_X8 m_X8_read m_X8_read, .initialized N_X8, .code m_X8_read c_X8_read 3 (some .int)] := tb_good5 [484, 485, 486, 47, 487] rfl (by decide +kernel) (by decide +kernel)
set_option maxRecDepth 1000000 in
theorem gc_X10_182 : GoodIn BIG [.methodLink N_X10 182 m_X4_inForce, .instanceMethod m_X4_inForce, .selects N_X4 m_X4_inForce m_X4_inForce, .initialized N_X4, .code m_X4_inForce c_X4_inForce 5 (some .int)] := tb_good5 [582, 583, 584, 45, 585] rfl (by decide +kernel) (by decide +kernel)
set_option maxRecDepth 1000000 in
theorem gc_X10_185 : GoodIn BIG [.methodLink N_X10 185 m_X4_has, .instanceMethod m_X4_has, .selects N_X4 m_X4_has m_X4_has, .initialized N_X4, .code m_X4_has c_X4_has 2 (some .boolean)] := tb_good5 [590, 591, 592, 45, 593] rfl (by decide +kernel) (by decide +kernel)
set_option maxRecDepth 1000000 in
theorem gc_X10_188 : GoodIn BIG [.methodLink N_X10 188 m_X3_sellers, .instanceMethod m_X3_sellers, .selects N_X3 m_X3_sellers m_X3_sellers, .initialized N_X3, .code m_X3_sellers c_X3_sellers 4 (some .int)] := tb_good5 [595, 596, 597, 46, 598] rfl (by decide +kernel) (by decide +kernel)
set_option maxRecDepth 1000000 in
theorem gc_X10_194 : GoodIn BIG [.methodLink N_X10 194 m_X4_ruleOn, .instanceMethod m_X4_ruleOn, .selects N_X4 m_X4_ruleOn m_X4_ruleOn, .initialized N_X4, .code m_X4_ruleOn c_X4_ruleOn 3 (some (.object "CoalTurns$Order"))] := tb_good5 [603, 604, 605, 45, 606] rfl (by decide +kernel) (by decide +kernel)
set_option maxRecDepth 1000000 in
theorem gc_X10_198 : GoodIn BIG [.methodLink N_X10 198 m_X5_line, .instanceMethod m_X5_line, .selects N_X5 m_X5_line m_X5_line, .initialized N_X5, .code m_X5_line c_X5_line 5 none] := tb_good5 [608, 609, 610, 42, 611] rfl (by decide +kernel) (by decide +kernel)
set_option maxRecDepth 1000000 in
theorem gc_X10_205 : GoodIn BIG [.methodLink N_X10 205 m_X10_isWind, .static m_X10_isWind, .initialized N_X10, .code m_X10_isWind c_X10_isWind 1 (some .boolean)] := tb_good5 [637, 638, 37, 639] rfl (by decide +kernel) (by decide +kernel)
set_option maxRecDepth 1000000 in
theorem gc_X10_208 : GoodIn BIG [.methodLink N_X10 208 m_X1_open, .instanceMethod m_X1_open, .selects N_X1 m_X1_open m_X1_open, .initialized N_X1, .code m_X1_open c_X1_open 1 none] := tb_good5 [640, 641, 642, 43, 643] rfl (by decide +kernel) (by decide +kernel)
set_option maxRecDepth 1000000 in
theorem gc_X10_211 : GoodIn BIG [.methodLink N_X10 211 m_X6_sail, .instanceMethod m_X6_sail, .selects N_X6 m_X6_sail m_X6_sail, .initialized N_X6, .code m_X6_sail c_X6_sail 3 none] := tb_good5 [644, 645, 646, 38, 647] rfl (by decide +kernel) (by decide +kernel)
set_option maxRecDepth 1000000 in
theorem gc_X10_214 : GoodIn BIG [.methodLink N_X10 214 m_X6_copy, .instanceMethod m_X6_copy, .selects N_X6 m_X6_copy m_X6_copy, .initialized N_X6, .code m_X6_copy c_X6_copy 3 none] := tb_good5 [653, 654, 655, 38, 656] rfl (by decide +kernel) (by decide +kernel)
set_option maxRecDepth 1000000 in
theorem gc_X10_218 : GoodIn BIG [.methodLink N_X10 218 m_X6_trade, .instanceMethod m_X6_trade, .selects N_X6 m_X6_trade m_X6_trade, .initialized N_X6, .code m_X6_trade c_X6_trade 5 none] := tb_good5 [673, 674, 675, 38, 676] rfl (by decide +kernel) (by decide +kernel)
set_option maxRecDepth 1000000 in
theorem gc_X10_222 : GoodIn BIG [.methodLink N_X10 222 m_X6_endDay, .instanceMethod m_X6_endDay, .selects N_X6 m_X6_endDay m_X6_endDay, .initialized N_X6, .code m_X6_endDay c_X6_endDay 3 none] := tb_good5 [710, 711, 712, 38, 713] rfl (by decide +kernel) (by decide +kernel)
set_option maxRecDepth 1000000 in
theorem gc_X10_228 : GoodIn BIG [.methodLink N_X10 228 m_X7_fact, .instanceMethod m_X7_fact, .selects N_X7 m_X7_fact m_X7_fact, .initialized N_X7, .code m_X7_fact c_X7_fact 2 (some .int)] := tb_good5 [723, 724, 725, 39, 726] rfl (by decide +kernel) (by decide +kernel)
set_option maxRecDepth 1000000 in
theorem gc_X10_231 : GoodIn BIG [.methodLink N_X10 231 m_X1_fact, .instanceMethod m_X1_fact, .selects N_X1 m_X1_fact m_X1_fact, .initialized N_X1, .code m_X1_fact c_X1_fact 3 (some .int)] := tb_good5 [731, 732, 733, 43, 734] rfl (by decide +kernel) (by decide +kernel)
set_option maxRecDepth 1000000 in
theorem gc_X10_234 : GoodIn BIG [.methodLink N_X10 234 m_X2_hours, .instanceMethod m_X2_hours, .selects N_X2 m_X2_hours m_X2_hours, .initialized N_X2, .code m_X2_hours c_X2_hours 6 (some .int)] := tb_good5 [740, 741, 742, 44, 743] rfl (by decide +kernel) (by decide +kernel)
set_option maxRecDepth 1000000 in
theorem gc_X10_238 : GoodIn BIG [.methodLink N_X10 238 m_X5_putFirst, .instanceMethod m_X5_putFirst, .selects N_X5 m_X5_putFirst m_X5_putFirst, .initialized N_X5, .code m_X5_putFirst c_X5_putFirst 4 none] := tb_good5 [763, 764, 765, 42, 766] rfl (by decide +kernel) (by decide +kernel)
set_option maxRecDepth 1000000 in
theorem gc_X10_248 : GoodIn BIG [.methodLink N_X10 248 m_X9_fact, .instanceMethod m_X9_fact, .selects N_X9 m_X9_fact m_X9_fact, .initialized N_X9, .code m_X9_fact c_X9_fact 2 (some .int)] := tb_good5 [779, 780, 781, 41, 782] rfl (by decide +kernel) (by decide +kernel)
set_option maxRecDepth 1000000 in
theorem gc_X10_254 : GoodIn BIG [.methodLink N_X10 254 m_X10_tryDay, .instanceMethod m_X10_tryDay, .selects N_X10 m_X10_tryDay m_X10_tryDay, .initialized N_X10, .code m_X10_tryDay c_X10_tryDay 4 (some .int)] := tb_good5 [792, 794, 10, 37, 795] rfl (by decide +kernel) (by decide +kernel)
set_option maxRecDepth 1000000 in
theorem gc_X10_258 : GoodIn BIG [.methodLink N_X10 258 m_X6_lackedDays, .instanceMethod m_X6_lackedDays, .selects N_X6 m_X6_lackedDays m_X6_lackedDays, .initialized N_X6, .code m_X6_lackedDays c_X6_lackedDays 3 (some .int)] := tb_good5 [796, 797, 798, 38, 799] rfl (by decide +kernel) (by decide +kernel)
set_option maxRecDepth 1000000 in
theorem gc_X10_262 : GoodIn BIG [.methodLink N_X10 262 m_X6_duesOfAll, .instanceMethod m_X6_duesOfAll, .selects N_X6 m_X6_duesOfAll m_X6_duesOfAll, .initialized N_X6, .code m_X6_duesOfAll c_X6_duesOfAll 3 (some .int)] := tb_good5 [804, 805, 806, 38, 807] rfl (by decide +kernel) (by decide +kernel)
set_option maxRecDepth 1000000 in
theorem gc_X10_265 : GoodIn BIG [.methodLink N_X10 265 m_X6_takenFor, .instanceMethod m_X6_takenFor, .selects N_X6 m_X6_takenFor m_X6_takenFor, .initialized N_X6, .code m_X6_takenFor c_X6_takenFor 4 (some .int)] := tb_good5 [812, 813, 814, 38, 815] rfl (by decide +kernel) (by decide +kernel)
set_option maxRecDepth 1000000 in
theorem gc_X0_22 : GoodIn BIG [.methodLink N_X0 22 m_X0_begin, .instanceMethod m_X0_begin, .selects N_X0 m_X0_begin m_X0_begin, .initialized N_X0, .code m_X0_begin c_X0_begin 5 none] := tb_good5 [665, 454, 455, 40, 456] rfl (by decide +kernel) (by decide +kernel)
theorem gn_X1_34 : Cond.methodLinkNest N_X1 34 m_X10_within "CoalTurns" ∈ BIG := tb_in 735 (by decide +kernel) rfl
set_option maxRecDepth 1000000 in
theorem gc_X1_34 : GoodIn BIG [.static m_X10_within, .initialized N_X10, .code m_X10_within c_X10_within 3 (some .boolean)] := tb_good5 [402, 37, 403] rfl (by decide +kernel) (by decide +kernel)
set_option maxRecDepth 1000000 in
theorem gc_X2_18 : GoodIn BIG [.methodLink N_X2 18 m_X2_gather, .instanceMethod m_X2_gather, .selects N_X2 m_X2_gather m_X2_gather, .initialized N_X2, .code m_X2_gather c_X2_gather 5 (some .int)] := tb_good5 [744, 746, 9, 44, 747] rfl (by decide +kernel) (by decide +kernel)
set_option maxRecDepth 1000000 in
theorem gc_X2_28 : GoodIn BIG [.methodLink N_X2 28 m_X2_leastHours, .static m_X2_leastHours, .initialized N_X2, .code m_X2_leastHours c_X2_leastHours 8 (some .int)] := tb_good5 [751, 752, 44, 753] rfl (by decide +kernel) (by decide +kernel)
set_option maxRecDepth 1000000 in
theorem gc_X2_44 : GoodIn BIG [.methodLink N_X2 44 m_X2_longest, .static m_X2_longest, .initialized N_X2, .code m_X2_longest c_X2_longest 4 (some .int)] := tb_good5 [754, 755, 44, 756] rfl (by decide +kernel) (by decide +kernel)
theorem gn_X4_26 : Cond.methodLinkNest N_X4 26 m_X10_within "CoalTurns" ∈ BIG := tb_in 594 (by decide +kernel) rfl
set_option maxRecDepth 1000000 in
theorem gc_X4_26 : GoodIn BIG [.static m_X10_within, .initialized N_X10, .code m_X10_within c_X10_within 3 (some .boolean)] := tb_good5 [402, 37, 403] rfl (by decide +kernel) (by decide +kernel)
set_option maxRecDepth 1000000 in
theorem gc_X4_33 : GoodIn BIG [.methodLink N_X4 33 m_X4_inForce, .instanceMethod m_X4_inForce, .selects N_X4 m_X4_inForce m_X4_inForce, .initialized N_X4, .code m_X4_inForce c_X4_inForce 5 (some .int)] := tb_good5 [607, 583, 584, 45, 585] rfl (by decide +kernel) (by decide +kernel)
set_option maxRecDepth 1000000 in
theorem gc_X5_35 : GoodIn BIG [.methodLink N_X5 35 m_X7_isInPort, .instanceMethod m_X7_isInPort, .selects N_X7 m_X7_isInPort m_X7_isInPort, .initialized N_X7, .code m_X7_isInPort c_X7_isInPort 1 (some .boolean)] := tb_good5 [612, 613, 614, 39, 615] rfl (by decide +kernel) (by decide +kernel)
set_option maxRecDepth 1000000 in
theorem gc_X5_42 : GoodIn BIG [.methodLink N_X5 42 m_X5_rank, .static m_X5_rank, .initialized N_X5, .code m_X5_rank c_X5_rank 4 (some .int)] := tb_good5 [616, 617, 42, 618] rfl (by decide +kernel) (by decide +kernel)
set_option maxRecDepth 1000000 in
theorem gc_X5_46 : GoodIn BIG [.methodLink N_X5 46 m_X5_insert, .instanceMethod m_X5_insert, .selects N_X5 m_X5_insert m_X5_insert, .initialized N_X5, .code m_X5_insert c_X5_insert 4 none] := tb_good5 [624, 626, 5, 42, 627] rfl (by decide +kernel) (by decide +kernel)
set_option maxRecDepth 1000000 in
theorem gc_X5_53 : GoodIn BIG [.methodLink N_X5 53 m_X3_sellers, .instanceMethod m_X3_sellers, .selects N_X3 m_X3_sellers m_X3_sellers, .initialized N_X3, .code m_X3_sellers c_X3_sellers 4 (some .int)] := tb_good5 [628, 596, 597, 46, 598] rfl (by decide +kernel) (by decide +kernel)
set_option maxRecDepth 1000000 in
theorem gc_X5_68 : GoodIn BIG [.methodLink N_X5 68 m_X3_keyOf, .instanceMethod m_X3_keyOf, .selects N_X3 m_X3_keyOf m_X3_keyOf, .initialized N_X3, .code m_X3_keyOf c_X3_keyOf 4 (some .int)] := tb_good5 [619, 620, 621, 46, 622] rfl (by decide +kernel) (by decide +kernel)
set_option maxRecDepth 1000000 in
theorem gc_X6_45 : GoodIn BIG [.methodLink N_X6 45 m_X7_copy, .instanceMethod m_X7_copy, .selects N_X7 m_X7_copy m_X7_copy, .initialized N_X7, .code m_X7_copy c_X7_copy 2 none] := tb_good5 [657, 658, 659, 39, 660] rfl (by decide +kernel) (by decide +kernel)
set_option maxRecDepth 1000000 in
theorem gc_X6_49 : GoodIn BIG [.methodLink N_X6 49 m_X0_copy, .instanceMethod m_X0_copy, .selects N_X0 m_X0_copy m_X0_copy, .initialized N_X0, .code m_X0_copy c_X0_copy 2 none] := tb_good5 [661, 662, 663, 40, 664] rfl (by decide +kernel) (by decide +kernel)
set_option maxRecDepth 1000000 in
theorem gc_X6_52 : GoodIn BIG [.methodLink N_X6 52 m_X9_copy, .instanceMethod m_X9_copy, .selects N_X9 m_X9_copy m_X9_copy, .initialized N_X9, .code m_X9_copy c_X9_copy 2 none] := tb_good5 [666, 667, 668, 41, 669] rfl (by decide +kernel) (by decide +kernel)
theorem gn_X6_55 : Cond.methodLinkNest N_X6 55 m_X10_within "CoalTurns" ∈ BIG := tb_in 419 (by decide +kernel) rfl
set_option maxRecDepth 1000000 in
theorem gc_X6_55 : GoodIn BIG [.static m_X10_within, .initialized N_X10, .code m_X10_within c_X10_within 3 (some .boolean)] := tb_good5 [402, 37, 403] rfl (by decide +kernel) (by decide +kernel)
set_option maxRecDepth 1000000 in
theorem gc_X6_59 : GoodIn BIG [.methodLink N_X6 59 m_X7_sail, .instanceMethod m_X7_sail, .selects N_X7 m_X7_sail m_X7_sail, .initialized N_X7, .code m_X7_sail c_X7_sail 3 none] := tb_good5 [648, 649, 650, 39, 651] rfl (by decide +kernel) (by decide +kernel)
set_option maxRecDepth 1000000 in
theorem gc_X6_71 : GoodIn BIG [.methodLink N_X6 71 m_X6_sell, .instanceMethod m_X6_sell, .selects N_X6 m_X6_sell m_X6_sell, .initialized N_X6, .code m_X6_sell c_X6_sell 7 (some .boolean)] := tb_good5 [677, 679, 6, 38, 680] rfl (by decide +kernel) (by decide +kernel)
set_option maxRecDepth 1000000 in
theorem gc_X6_75 : GoodIn BIG [.methodLink N_X6 75 m_X7_miss, .instanceMethod m_X7_miss, .selects N_X7 m_X7_miss m_X7_miss, .initialized N_X7, .code m_X7_miss c_X7_miss 1 none] := tb_good5 [706, 707, 708, 39, 709] rfl (by decide +kernel) (by decide +kernel)
set_option maxRecDepth 1000000 in
theorem gc_X6_89 : GoodIn BIG [.methodLink N_X6 89 m_X6_bestBuyer, .instanceMethod m_X6_bestBuyer, .selects N_X6 m_X6_bestBuyer m_X6_bestBuyer, .initialized N_X6, .code m_X6_bestBuyer c_X6_bestBuyer 5 (some .int)] := tb_good5 [681, 683, 7, 38, 684] rfl (by decide +kernel) (by decide +kernel)
set_option maxRecDepth 1000000 in
theorem gc_X6_93 : GoodIn BIG [.methodLink N_X6 93 m_X6_strike, .instanceMethod m_X6_strike, .selects N_X6 m_X6_strike m_X6_strike, .initialized N_X6, .code m_X6_strike c_X6_strike 8 none] := tb_good5 [689, 691, 8, 38, 692] rfl (by decide +kernel) (by decide +kernel)
set_option maxRecDepth 1000000 in
theorem gc_X6_100 : GoodIn BIG [.methodLink N_X6 100 m_X0_takes, .instanceMethod m_X0_takes, .selects N_X0 m_X0_takes m_X0_takes, .initialized N_X0, .code m_X0_takes c_X0_takes 2 (some .boolean)] := tb_good5 [685, 686, 687, 40, 688] rfl (by decide +kernel) (by decide +kernel)
set_option maxRecDepth 1000000 in
theorem gc_X6_116 : GoodIn BIG [.methodLink N_X6 116 m_X7_deliver, .instanceMethod m_X7_deliver, .selects N_X7 m_X7_deliver m_X7_deliver, .initialized N_X7, .code m_X7_deliver c_X7_deliver 3 none] := tb_good5 [694, 695, 696, 39, 697] rfl (by decide +kernel) (by decide +kernel)
set_option maxRecDepth 1000000 in
theorem gc_X6_122 : GoodIn BIG [.methodLink N_X6 122 m_X9_receive, .instanceMethod m_X9_receive, .selects N_X9 m_X9_receive m_X9_receive, .initialized N_X9, .code m_X9_receive c_X9_receive 2 none] := tb_good5 [698, 699, 700, 41, 701] rfl (by decide +kernel) (by decide +kernel)
set_option maxRecDepth 1000000 in
theorem gc_X6_126 : GoodIn BIG [.methodLink N_X6 126 m_X1_enter, .instanceMethod m_X1_enter, .selects N_X1 m_X1_enter m_X1_enter, .initialized N_X1, .code m_X1_enter c_X1_enter 5 none] := tb_good5 [702, 703, 704, 43, 705] rfl (by decide +kernel) (by decide +kernel)
set_option maxRecDepth 1000000 in
theorem gc_X6_130 : GoodIn BIG [.methodLink N_X6 130 m_X9_heat, .instanceMethod m_X9_heat, .selects N_X9 m_X9_heat m_X9_heat, .initialized N_X9, .code m_X9_heat c_X9_heat 4 none] := tb_good5 [714, 715, 716, 41, 717] rfl (by decide +kernel) (by decide +kernel)
set_option maxRecDepth 1000000 in
theorem gc_X7_57 : GoodIn BIG [.methodLink N_X7 57 m_X7_duesFor, .instanceMethod m_X7_duesFor, .selects N_X7 m_X7_duesFor m_X7_duesFor, .initialized N_X7, .code m_X7_duesFor c_X7_duesFor 2 (some .int)] := tb_good5 [428, 429, 430, 39, 431] rfl (by decide +kernel) (by decide +kernel)
set_option maxRecDepth 1000000 in
theorem gc_X8_29 : GoodIn BIG [.methodLink N_X8 29 m_X8_word, .instanceMethod m_X8_word, .selects N_X8 m_X8_word m_X8_word, .initialized N_X8, .code m_X8_word c_X8_word 3 (some .boolean)] := tb_good5 [489, 491, 0, 47, 492] rfl (by decide +kernel) (by decide +kernel)
set_option maxRecDepth 1000000 in
theorem gc_X8_33 : GoodIn BIG [.methodLink N_X8 33 m_X8_key, .instanceMethod m_X8_key, .selects N_X8 m_X8_key m_X8_key, .initialized N_X8, .code m_X8_key c_X8_key 2 (some .boolean)] := tb_good5 [541, 543, 1, 47, 544] rfl (by decide +kernel) (by decide +kernel)
set_option maxRecDepth 1000000 in
theorem gc_X8_39 : GoodIn BIG [.methodLink N_X8 39 m_X8_parts, .instanceMethod m_X8_parts, .selects N_X8 m_X8_parts m_X8_parts, .initialized N_X8, .code m_X8_parts c_X8_parts 4 (some .boolean)] := tb_good5 [553, 555, 2, 47, 556] rfl (by decide +kernel) (by decide +kernel)
set_option maxRecDepth 1000000 in
theorem gc_X8_57 : GoodIn BIG [.methodLink N_X8 57 m_X8_number, .instanceMethod m_X8_number, .selects N_X8 m_X8_number m_X8_number, .initialized N_X8, .code m_X8_number c_X8_number 4 (some .int)] := tb_good5 [557, 559, 3, 47, 560] rfl (by decide +kernel) (by decide +kernel)
set_option maxRecDepth 1000000 in
theorem gc_X8_64 : GoodIn BIG [.methodLink N_X8 64 m_X8_part, .instanceMethod m_X8_part, .selects N_X8 m_X8_part m_X8_part, .initialized N_X8, .code m_X8_part c_X8_part 5 (some .boolean)] := tb_good5 [565, 567, 4, 47, 568] rfl (by decide +kernel) (by decide +kernel)
set_option maxRecDepth 1000000 in
theorem gc_X8_74 : GoodIn BIG [.methodLink N_X8 74 m_X3_addPart, .instanceMethod m_X3_addPart, .selects N_X3 m_X3_addPart m_X3_addPart, .initialized N_X3, .code m_X3_addPart c_X3_addPart 4 none] := tb_good5 [572, 573, 574, 46, 575] rfl (by decide +kernel) (by decide +kernel)
theorem gn_X8_90 : Cond.methodLinkNest N_X8 90 m_X10_within "CoalTurns" ∈ BIG := tb_in 561 (by decide +kernel) rfl
set_option maxRecDepth 1000000 in
theorem gc_X8_90 : GoodIn BIG [.static m_X10_within, .initialized N_X10, .code m_X10_within c_X10_within 3 (some .boolean)] := tb_good5 [402, 37, 403] rfl (by decide +kernel) (by decide +kernel)
set_option maxRecDepth 1000000 in
theorem gc_X11_169 : GoodIn BIG [.methodLink N_X11 169 m_X11_in, .static m_X11_in, .initialized N_X11, .code m_X11_in c_X11_in 3 (some .boolean)] := tb_good5 [1027, 1028, 48, 1029] rfl (by decide +kernel) (by decide +kernel)
set_option maxRecDepth 1000000 in
theorem gc_X11_176 : GoodIn BIG [.methodLink N_X11 176 m_X11_isShip, .instanceMethod m_X11_isShip, .selects N_X11 m_X11_isShip m_X11_isShip, .initialized N_X11, .code m_X11_isShip c_X11_isShip 2 (some .boolean)] := tb_good5 [1034, 1036, 11, 48, 1037] rfl (by decide +kernel) (by decide +kernel)
set_option maxRecDepth 1000000 in
theorem gc_X11_180 : GoodIn BIG [.methodLink N_X11 180 m_X11_rate, .instanceMethod m_X11_rate, .selects N_X11 m_X11_rate m_X11_rate, .initialized N_X11, .code m_X11_rate c_X11_rate 2 (some .int)] := tb_good5 [1042, 1044, 12, 48, 1045] rfl (by decide +kernel) (by decide +kernel)
set_option maxRecDepth 1000000 in
theorem gc_X11_184 : GoodIn BIG [.methodLink N_X11 184 m_X11_isWard, .static m_X11_isWard, .initialized N_X11, .code m_X11_isWard c_X11_isWard 1 (some .boolean)] := tb_good5 [1054, 1055, 48, 1056] rfl (by decide +kernel) (by decide +kernel)
set_option maxRecDepth 1000000 in
theorem gc_X11_187 : GoodIn BIG [.methodLink N_X11 187 m_X11_isBuyer, .instanceMethod m_X11_isBuyer, .selects N_X11 m_X11_isBuyer m_X11_isBuyer, .initialized N_X11, .code m_X11_isBuyer c_X11_isBuyer 2 (some .boolean)] := tb_good5 [1061, 1063, 13, 48, 1064] rfl (by decide +kernel) (by decide +kernel)
set_option maxRecDepth 1000000 in
theorem gc_X11_196 : GoodIn BIG [.methodLink N_X11 196 m_X11_has, .instanceMethod m_X11_has, .selects N_X11 m_X11_has m_X11_has, .initialized N_X11, .code m_X11_has c_X11_has 2 (some .boolean)] := tb_good5 [1089, 1091, 16, 48, 1092] rfl (by decide +kernel) (by decide +kernel)
set_option maxRecDepth 1000000 in
theorem gc_X11_202 : GoodIn BIG [.methodLink N_X11 202 m_X11_isDigit, .static m_X11_isDigit, .initialized N_X11, .code m_X11_isDigit c_X11_isDigit 1 (some .boolean)] := tb_good5 [1101, 1102, 48, 1103] rfl (by decide +kernel) (by decide +kernel)
set_option maxRecDepth 1000000 in
theorem gc_X11_205 : GoodIn BIG [.methodLink N_X11 205 m_X11_takes, .instanceMethod m_X11_takes, .selects N_X11 m_X11_takes m_X11_takes, .initialized N_X11, .code m_X11_takes c_X11_takes 2 (some .boolean)] := tb_good5 [1085, 1087, 15, 48, 1088] rfl (by decide +kernel) (by decide +kernel)
set_option maxRecDepth 1000000 in
theorem gc_X11_208 : GoodIn BIG [.methodLink N_X11 208 m_X11_takesKey, .instanceMethod m_X11_takesKey, .selects N_X11 m_X11_takesKey m_X11_takesKey, .initialized N_X11, .code m_X11_takesKey c_X11_takesKey 2 (some .boolean)] := tb_good5 [1093, 1095, 17, 48, 1096] rfl (by decide +kernel) (by decide +kernel)
set_option maxRecDepth 1000000 in
theorem gc_X11_211 : GoodIn BIG [.methodLink N_X11 211 m_X11_takesNumber, .instanceMethod m_X11_takesNumber, .selects N_X11 m_X11_takesNumber m_X11_takesNumber, .initialized N_X11, .code m_X11_takesNumber c_X11_takesNumber 3 (some .boolean)] := tb_good5 [1097, 1099, 18, 48, 1100] rfl (by decide +kernel) (by decide +kernel)
set_option maxRecDepth 1000000 in
theorem gc_X11_217 : GoodIn BIG [.methodLink N_X11 217 m_X11_reads, .instanceMethod m_X11_reads, .selects N_X11 m_X11_reads m_X11_reads, .initialized N_X11, .code m_X11_reads c_X11_reads 4 (some .boolean)] := tb_good5 [1081, 1083, 14, 48, 1084] rfl (by decide +kernel) (by decide +kernel)
set_option maxRecDepth 1000000 in
theorem gc_X11_220 : GoodIn BIG [.methodLink N_X11 220 m_X11_forceOn, .instanceMethod m_X11_forceOn, .selects N_X11 m_X11_forceOn m_X11_forceOn, .initialized N_X11, .code m_X11_forceOn c_X11_forceOn 4 (some .int)] := tb_good5 [1108, 1110, 19, 48, 1111] rfl (by decide +kernel) (by decide +kernel)
set_option maxRecDepth 1000000 in
theorem gc_X11_223 : GoodIn BIG [.methodLink N_X11 223 m_X11_manyBy, .instanceMethod m_X11_manyBy, .selects N_X11 m_X11_manyBy m_X11_manyBy, .initialized N_X11, .code m_X11_manyBy c_X11_manyBy 5 (some .int)] := tb_good5 [1116, 1118, 20, 48, 1119] rfl (by decide +kernel) (by decide +kernel)
set_option maxRecDepth 1000000 in
theorem gc_X11_230 : GoodIn BIG [.methodLink N_X11 230 m_X11_keyOf, .instanceMethod m_X11_keyOf, .selects N_X11 m_X11_keyOf m_X11_keyOf, .initialized N_X11, .code m_X11_keyOf c_X11_keyOf 3 (some .int)] := tb_good5 [1132, 1134, 23, 48, 1135] rfl (by decide +kernel) (by decide +kernel)
set_option maxRecDepth 1000000 in
theorem gc_X11_236 : GoodIn BIG [.methodLink N_X11 236 m_X11_isAhead, .instanceMethod m_X11_isAhead, .selects N_X11 m_X11_isAhead m_X11_isAhead, .initialized N_X11, .code m_X11_isAhead c_X11_isAhead 6 (some .boolean)] := tb_good5 [1128, 1130, 22, 48, 1131] rfl (by decide +kernel) (by decide +kernel)
set_option maxRecDepth 1000000 in
theorem gc_X11_239 : GoodIn BIG [.methodLink N_X11 239 m_X11_findTurns, .instanceMethod m_X11_findTurns, .selects N_X11 m_X11_findTurns m_X11_findTurns, .initialized N_X11, .code m_X11_findTurns c_X11_findTurns 4 none] := tb_good5 [1124, 1126, 21, 48, 1127] rfl (by decide +kernel) (by decide +kernel)
set_option maxRecDepth 1000000 in
theorem gc_X11_252 : GoodIn BIG [.methodLink N_X11 252 m_X11_next, .instanceMethod m_X11_next, .selects N_X11 m_X11_next m_X11_next, .initialized N_X11, .code m_X11_next c_X11_next 4 (some .int)] := tb_good5 [1160, 1162, 29, 48, 1163] rfl (by decide +kernel) (by decide +kernel)
set_option maxRecDepth 1000000 in
theorem gc_X11_255 : GoodIn BIG [.methodLink N_X11 255 m_X11_strike, .instanceMethod m_X11_strike, .selects N_X11 m_X11_strike m_X11_strike, .initialized N_X11, .code m_X11_strike c_X11_strike 5 none] := tb_good5 [1164, 1166, 30, 48, 1167] rfl (by decide +kernel) (by decide +kernel)
set_option maxRecDepth 1000000 in
theorem gc_X11_259 : GoodIn BIG [.methodLink N_X11 259 m_X11_note, .instanceMethod m_X11_note, .selects N_X11 m_X11_note m_X11_note, .initialized N_X11, .code m_X11_note c_X11_note 2 none] := tb_good5 [1152, 1154, 27, 48, 1155] rfl (by decide +kernel) (by decide +kernel)
set_option maxRecDepth 1000000 in
theorem gc_X11_262 : GoodIn BIG [.methodLink N_X11 262 m_X11_sell, .instanceMethod m_X11_sell, .selects N_X11 m_X11_sell m_X11_sell, .initialized N_X11, .code m_X11_sell c_X11_sell 4 none] := tb_good5 [1156, 1158, 28, 48, 1159] rfl (by decide +kernel) (by decide +kernel)
set_option maxRecDepth 1000000 in
theorem gc_X11_281 : GoodIn BIG [.methodLink N_X11 281 m_X11_arrive, .instanceMethod m_X11_arrive, .selects N_X11 m_X11_arrive m_X11_arrive, .initialized N_X11, .code m_X11_arrive c_X11_arrive 3 none] := tb_good5 [1144, 1146, 25, 48, 1147] rfl (by decide +kernel) (by decide +kernel)
set_option maxRecDepth 1000000 in
theorem gc_X11_284 : GoodIn BIG [.methodLink N_X11 284 m_X11_market, .instanceMethod m_X11_market, .selects N_X11 m_X11_market m_X11_market, .initialized N_X11, .code m_X11_market c_X11_market 4 none] := tb_good5 [1148, 1150, 26, 48, 1151] rfl (by decide +kernel) (by decide +kernel)
set_option maxRecDepth 1000000 in
theorem gc_X11_288 : GoodIn BIG [.methodLink N_X11 288 m_X11_go, .instanceMethod m_X11_go, .selects N_X11 m_X11_go m_X11_go, .initialized N_X11, .code m_X11_go c_X11_go 8 none] := tb_good5 [1140, 1142, 24, 48, 1143] rfl (by decide +kernel) (by decide +kernel)
set_option maxRecDepth 1000000 in
theorem gc_X11_292 : GoodIn BIG [.methodLink N_X11 292 m_X11_findHours, .instanceMethod m_X11_findHours, .selects N_X11 m_X11_findHours m_X11_findHours, .initialized N_X11, .code m_X11_findHours c_X11_findHours 6 (some .int)] := tb_good5 [1180, 1182, 31, 48, 1183] rfl (by decide +kernel) (by decide +kernel)
set_option maxRecDepth 1000000 in
theorem gc_X11_296 : GoodIn BIG [.methodLink N_X11 296 m_X11_sellThen, .instanceMethod m_X11_sellThen, .selects N_X11 m_X11_sellThen m_X11_sellThen, .initialized N_X11, .code m_X11_sellThen c_X11_sellThen 4 none] := tb_good5 [1188, 1190, 32, 48, 1191] rfl (by decide +kernel) (by decide +kernel)
set_option maxRecDepth 1000000 in
theorem gc_X11_299 : GoodIn BIG [.methodLink N_X11 299 m_X11_keep, .instanceMethod m_X11_keep, .selects N_X11 m_X11_keep m_X11_keep, .initialized N_X11, .code m_X11_keep c_X11_keep 2 none] := tb_good5 [1212, 1214, 33, 48, 1215] rfl (by decide +kernel) (by decide +kernel)
set_option maxRecDepth 1000000 in
theorem gc_X11_302 : GoodIn BIG [.methodLink N_X11 302 m_X11_allLacks, .instanceMethod m_X11_allLacks, .selects N_X11 m_X11_allLacks m_X11_allLacks, .initialized N_X11, .code m_X11_allLacks c_X11_allLacks 3 (some .int)] := tb_good5 [1216, 1218, 34, 48, 1219] rfl (by decide +kernel) (by decide +kernel)
set_option maxRecDepth 1000000 in
theorem gc_X11_305 : GoodIn BIG [.methodLink N_X11 305 m_X11_putBack, .instanceMethod m_X11_putBack, .selects N_X11 m_X11_putBack m_X11_putBack, .initialized N_X11, .code m_X11_putBack c_X11_putBack 2 none] := tb_good5 [1220, 1222, 35, 48, 1223] rfl (by decide +kernel) (by decide +kernel)
