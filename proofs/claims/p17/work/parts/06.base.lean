theorem FL_X10_10 : FL N_X10 10 10 0 := ⟨N_X10, T_X10, 13, rfl, by decide, uw_X10, by decide, fl_X10_10⟩
theorem FL_X10_16 : FL N_X10 16 10 1 := ⟨N_X10, T_X10, 13, rfl, by decide, uw_X10, by decide, fl_X10_16⟩
theorem FL_X10_19 : FL N_X10 19 10 2 := ⟨N_X10, T_X10, 13, rfl, by decide, uw_X10, by decide, fl_X10_19⟩
theorem FL_X10_25 : FL N_X10 25 10 3 := ⟨N_X10, T_X10, 13, rfl, by decide, uw_X10, by decide, fl_X10_25⟩
theorem FL_X10_29 : FL N_X10 29 10 4 := ⟨N_X10, T_X10, 13, rfl, by decide, uw_X10, by decide, fl_X10_29⟩
theorem FL_X10_35 : FL N_X10 35 10 5 := ⟨N_X10, T_X10, 13, rfl, by decide, uw_X10, by decide, fl_X10_35⟩
theorem FL_X10_39 : FL N_X10 39 10 6 := ⟨N_X10, T_X10, 13, rfl, by decide, uw_X10, by decide, fl_X10_39⟩
theorem FL_X10_45 : FL N_X10 45 10 7 := ⟨N_X10, T_X10, 13, rfl, by decide, uw_X10, by decide, fl_X10_45⟩
theorem FL_X10_52 : FL N_X10 52 10 8 := ⟨N_X10, T_X10, 13, rfl, by decide, uw_X10, by decide, fl_X10_52⟩
theorem FL_X10_59 : FL N_X10 59 10 9 := ⟨N_X10, T_X10, 13, rfl, by decide, uw_X10, by decide, fl_X10_59⟩
theorem FL_X10_63 : FL N_X10 63 10 10 := ⟨N_X10, T_X10, 13, rfl, by decide, uw_X10, by decide, fl_X10_63⟩
theorem FP_X10_63 : FP N_X10 63 10 10 .boolean := ⟨N_X10, T_X10, 13, y_X10, rfl, by decide, uw_X10, by decide, fl_X10_63, ty_X10, nm_X10, rfl, by decide +kernel⟩
theorem FL_X10_67 : FL N_X10 67 10 11 := ⟨N_X10, T_X10, 13, rfl, by decide, uw_X10, by decide, fl_X10_67⟩
theorem FP_X10_67 : FP N_X10 67 10 11 .int := ⟨N_X10, T_X10, 13, y_X10, rfl, by decide, uw_X10, by decide, fl_X10_67, ty_X10, nm_X10, rfl, by decide +kernel⟩
theorem FL_X10_71 : FL N_X10 71 10 12 := ⟨N_X10, T_X10, 13, rfl, by decide, uw_X10, by decide, fl_X10_71⟩
theorem FP_X10_71 : FP N_X10 71 10 12 .int := ⟨N_X10, T_X10, 13, y_X10, rfl, by decide, uw_X10, by decide, fl_X10_71, ty_X10, nm_X10, rfl, by decide +kernel⟩
theorem FL_X10_82 : FL N_X10 82 6 3 := ⟨N_X6, T_X6, 7, rfl, by decide, uw_X6, by decide, fl_X10_82⟩
theorem FP_X10_82 : FP N_X10 82 6 3 .int := ⟨N_X6, T_X6, 7, y_X6, rfl, by decide, uw_X6, by decide, fl_X10_82, ty_X6, nm_X6, rfl, by decide +kernel⟩
theorem FL_X10_85 : FL N_X10 85 6 0 := ⟨N_X6, T_X6, 7, rfl, by decide, uw_X6, by decide, fl_X10_85⟩
theorem FL_X10_98 : FL N_X10 98 7 3 := ⟨N_X7, T_X7, 13, rfl, by decide, uw_X7, by decide, fl_X10_98⟩
theorem FP_X10_98 : FP N_X10 98 7 3 .int := ⟨N_X7, T_X7, 13, y_X7, rfl, by decide, uw_X7, by decide, fl_X10_98, ty_X7, nm_X7, rfl, by decide +kernel⟩
theorem FL_X10_101 : FL N_X10 101 7 6 := ⟨N_X7, T_X7, 13, rfl, by decide, uw_X7, by decide, fl_X10_101⟩
theorem FP_X10_101 : FP N_X10 101 7 6 .int := ⟨N_X7, T_X7, 13, y_X7, rfl, by decide, uw_X7, by decide, fl_X10_101, ty_X7, nm_X7, rfl, by decide +kernel⟩
theorem FL_X10_104 : FL N_X10 104 7 7 := ⟨N_X7, T_X7, 13, rfl, by decide, uw_X7, by decide, fl_X10_104⟩
theorem FP_X10_104 : FP N_X10 104 7 7 .int := ⟨N_X7, T_X7, 13, y_X7, rfl, by decide, uw_X7, by decide, fl_X10_104, ty_X7, nm_X7, rfl, by decide +kernel⟩
theorem FL_X10_111 : FL N_X10 111 7 0 := ⟨N_X7, T_X7, 13, rfl, by decide, uw_X7, by decide, fl_X10_111⟩
theorem FP_X10_111 : FP N_X10 111 7 0 .int := ⟨N_X7, T_X7, 13, y_X7, rfl, by decide, uw_X7, by decide, fl_X10_111, ty_X7, nm_X7, rfl, by decide +kernel⟩
theorem FL_X10_127 : FL N_X10 127 6 4 := ⟨N_X6, T_X6, 7, rfl, by decide, uw_X6, by decide, fl_X10_127⟩
theorem FP_X10_127 : FP N_X10 127 6 4 .int := ⟨N_X6, T_X6, 7, y_X6, rfl, by decide, uw_X6, by decide, fl_X10_127, ty_X6, nm_X6, rfl, by decide +kernel⟩
theorem FL_X10_130 : FL N_X10 130 6 1 := ⟨N_X6, T_X6, 7, rfl, by decide, uw_X6, by decide, fl_X10_130⟩
theorem FL_X10_139 : FL N_X10 139 0 2 := ⟨N_X0, T_X0, 4, rfl, by decide, uw_X0, by decide, fl_X10_139⟩
theorem FP_X10_139 : FP N_X10 139 0 2 .int := ⟨N_X0, T_X0, 4, y_X0, rfl, by decide, uw_X0, by decide, fl_X10_139, ty_X0, nm_X0, rfl, by decide +kernel⟩
theorem FL_X10_142 : FL N_X10 142 0 3 := ⟨N_X0, T_X0, 4, rfl, by decide, uw_X0, by decide, fl_X10_142⟩
theorem FP_X10_142 : FP N_X10 142 0 3 .int := ⟨N_X0, T_X0, 4, y_X0, rfl, by decide, uw_X0, by decide, fl_X10_142, ty_X0, nm_X0, rfl, by decide +kernel⟩
theorem FL_X10_148 : FL N_X10 148 6 2 := ⟨N_X6, T_X6, 7, rfl, by decide, uw_X6, by decide, fl_X10_148⟩
theorem FL_X10_152 : FL N_X10 152 9 0 := ⟨N_X9, T_X9, 5, rfl, by decide, uw_X9, by decide, fl_X10_152⟩
theorem FL_X10_158 : FL N_X10 158 9 1 := ⟨N_X9, T_X9, 5, rfl, by decide, uw_X9, by decide, fl_X10_158⟩
theorem FP_X10_158 : FP N_X10 158 9 1 .int := ⟨N_X9, T_X9, 5, y_X9, rfl, by decide, uw_X9, by decide, fl_X10_158, ty_X9, nm_X9, rfl, by decide +kernel⟩
theorem FL_X10_161 : FL N_X10 161 8 1 := ⟨N_X8, T_X8, 3, rfl, by decide, uw_X8, by decide, fl_X10_161⟩
theorem FP_X10_161 : FP N_X10 161 8 1 .int := ⟨N_X8, T_X8, 3, y_X8, rfl, by decide, uw_X8, by decide, fl_X10_161, ty_X8, nm_X8, rfl, by decide +kernel⟩
theorem FL_X10_168 : FL N_X10 168 4 2 := ⟨N_X4, T_X4, 3, rfl, by decide, uw_X4, by decide, fl_X10_168⟩
theorem FP_X10_168 : FP N_X10 168 4 2 .int := ⟨N_X4, T_X4, 3, y_X4, rfl, by decide, uw_X4, by decide, fl_X10_168, ty_X4, nm_X4, rfl, by decide +kernel⟩
theorem FL_X10_169 : FL N_X10 169 4 0 := ⟨N_X4, T_X4, 3, rfl, by decide, uw_X4, by decide, fl_X10_169⟩
theorem FL_X10_177 : FL N_X10 177 3 6 := ⟨N_X3, T_X3, 7, rfl, by decide, uw_X3, by decide, fl_X10_177⟩
theorem FP_X10_177 : FP N_X10 177 3 6 .int := ⟨N_X3, T_X3, 7, y_X3, rfl, by decide, uw_X3, by decide, fl_X10_177, ty_X3, nm_X3, rfl, by decide +kernel⟩
theorem FL_X10_191 : FL N_X10 191 6 5 := ⟨N_X6, T_X6, 7, rfl, by decide, uw_X6, by decide, fl_X10_191⟩
theorem FP_X10_191 : FP N_X10 191 6 5 .int := ⟨N_X6, T_X6, 7, y_X6, rfl, by decide, uw_X6, by decide, fl_X10_191, ty_X6, nm_X6, rfl, by decide +kernel⟩
theorem FL_X10_202 : FL N_X10 202 5 2 := ⟨N_X5, T_X5, 3, rfl, by decide, uw_X5, by decide, fl_X10_202⟩
theorem FP_X10_202 : FP N_X10 202 5 2 .int := ⟨N_X5, T_X5, 3, y_X5, rfl, by decide, uw_X5, by decide, fl_X10_202, ty_X5, nm_X5, rfl, by decide +kernel⟩
theorem FL_X10_203 : FL N_X10 203 5 0 := ⟨N_X5, T_X5, 3, rfl, by decide, uw_X5, by decide, fl_X10_203⟩
theorem FL_X10_225 : FL N_X10 225 1 5 := ⟨N_X1, T_X1, 7, rfl, by decide, uw_X1, by decide, fl_X10_225⟩
theorem FP_X10_225 : FP N_X10 225 1 5 .int := ⟨N_X1, T_X1, 7, y_X1, rfl, by decide, uw_X1, by decide, fl_X10_225, ty_X1, nm_X1, rfl, by decide +kernel⟩
theorem FL_X10_242 : FL N_X10 242 6 6 := ⟨N_X6, T_X6, 7, rfl, by decide, uw_X6, by decide, fl_X10_242⟩
theorem FP_X10_242 : FP N_X10 242 6 6 .int := ⟨N_X6, T_X6, 7, y_X6, rfl, by decide, uw_X6, by decide, fl_X10_242, ty_X6, nm_X6, rfl, by decide +kernel⟩
theorem FL_X10_245 : FL N_X10 245 7 2 := ⟨N_X7, T_X7, 13, rfl, by decide, uw_X7, by decide, fl_X10_245⟩
theorem FP_X10_245 : FP N_X10 245 7 2 .int := ⟨N_X7, T_X7, 13, y_X7, rfl, by decide, uw_X7, by decide, fl_X10_245, ty_X7, nm_X7, rfl, by decide +kernel⟩
theorem FL_X10_261 : FL N_X10 261 1 4 := ⟨N_X1, T_X1, 7, rfl, by decide, uw_X1, by decide, fl_X10_261⟩
theorem FP_X10_261 : FP N_X10 261 1 4 .int := ⟨N_X1, T_X1, 7, y_X1, rfl, by decide, uw_X1, by decide, fl_X10_261, ty_X1, nm_X1, rfl, by decide +kernel⟩
theorem FL_X0_7 : FL N_X0 7 0 0 := ⟨N_X0, T_X0, 4, rfl, by decide, uw_X0, by decide, fl_X0_7⟩
theorem FP_X0_7 : FP N_X0 7 0 0 .int := ⟨N_X0, T_X0, 4, y_X0, rfl, by decide, uw_X0, by decide, fl_X0_7, ty_X0, nm_X0, rfl, by decide +kernel⟩
theorem FL_X0_13 : FL N_X0 13 0 1 := ⟨N_X0, T_X0, 4, rfl, by decide, uw_X0, by decide, fl_X0_13⟩
theorem FP_X0_13 : FP N_X0 13 0 1 .int := ⟨N_X0, T_X0, 4, y_X0, rfl, by decide, uw_X0, by decide, fl_X0_13, ty_X0, nm_X0, rfl, by decide +kernel⟩
theorem FL_X0_16 : FL N_X0 16 0 2 := ⟨N_X0, T_X0, 4, rfl, by decide, uw_X0, by decide, fl_X0_16⟩
theorem FP_X0_16 : FP N_X0 16 0 2 .int := ⟨N_X0, T_X0, 4, y_X0, rfl, by decide, uw_X0, by decide, fl_X0_16, ty_X0, nm_X0, rfl, by decide +kernel⟩
theorem FL_X0_19 : FL N_X0 19 0 3 := ⟨N_X0, T_X0, 4, rfl, by decide, uw_X0, by decide, fl_X0_19⟩
theorem FP_X0_19 : FP N_X0 19 0 3 .int := ⟨N_X0, T_X0, 4, y_X0, rfl, by decide, uw_X0, by decide, fl_X0_19, ty_X0, nm_X0, rfl, by decide +kernel⟩
theorem FL_X0_26 : FL N_X0 26 7 1 := ⟨N_X7, T_X7, 13, rfl, by decide, uw_X7, by decide, fl_X0_26⟩
theorem FP_X0_26 : FP N_X0 26 7 1 .int := ⟨N_X7, T_X7, 13, y_X7, rfl, by decide, uw_X7, by decide, fl_X0_26, ty_X7, nm_X7, rfl, by decide +kernel⟩
theorem FL_X0_29 : FL N_X0 29 7 3 := ⟨N_X7, T_X7, 13, rfl, by decide, uw_X7, by decide, fl_X0_29⟩
theorem FP_X0_29 : FP N_X0 29 7 3 .int := ⟨N_X7, T_X7, 13, y_X7, rfl, by decide, uw_X7, by decide, fl_X0_29, ty_X7, nm_X7, rfl, by decide +kernel⟩
theorem FL_X1_11 : FL N_X1 11 1 0 := ⟨N_X1, T_X1, 7, rfl, by decide, uw_X1, by decide, fl_X1_11⟩
theorem FL_X1_15 : FL N_X1 15 1 1 := ⟨N_X1, T_X1, 7, rfl, by decide, uw_X1, by decide, fl_X1_15⟩
theorem FL_X1_18 : FL N_X1 18 1 2 := ⟨N_X1, T_X1, 7, rfl, by decide, uw_X1, by decide, fl_X1_18⟩
theorem FL_X1_21 : FL N_X1 21 1 3 := ⟨N_X1, T_X1, 7, rfl, by decide, uw_X1, by decide, fl_X1_21⟩
theorem FL_X1_24 : FL N_X1 24 1 4 := ⟨N_X1, T_X1, 7, rfl, by decide, uw_X1, by decide, fl_X1_24⟩
theorem FP_X1_24 : FP N_X1 24 1 4 .int := ⟨N_X1, T_X1, 7, y_X1, rfl, by decide, uw_X1, by decide, fl_X1_24, ty_X1, nm_X1, rfl, by decide +kernel⟩
theorem FL_X1_28 : FL N_X1 28 1 5 := ⟨N_X1, T_X1, 7, rfl, by decide, uw_X1, by decide, fl_X1_28⟩
theorem FP_X1_28 : FP N_X1 28 1 5 .int := ⟨N_X1, T_X1, 7, y_X1, rfl, by decide, uw_X1, by decide, fl_X1_28, ty_X1, nm_X1, rfl, by decide +kernel⟩
theorem FL_X1_31 : FL N_X1 31 1 6 := ⟨N_X1, T_X1, 7, rfl, by decide, uw_X1, by decide, fl_X1_31⟩
theorem FP_X1_31 : FP N_X1 31 1 6 .int := ⟨N_X1, T_X1, 7, y_X1, rfl, by decide, uw_X1, by decide, fl_X1_31, ty_X1, nm_X1, rfl, by decide +kernel⟩
theorem FL_X2_9 : FL N_X2 9 2 0 := ⟨N_X2, T_X2, 2, rfl, by decide, uw_X2, by decide, fl_X2_9⟩
theorem FL_X2_15 : FL N_X2 15 2 1 := ⟨N_X2, T_X2, 2, rfl, by decide, uw_X2, by decide, fl_X2_15⟩
theorem FL_X2_32 : FL N_X2 32 1 4 := ⟨N_X1, T_X1, 7, rfl, by decide, uw_X1, by decide, fl_X2_32⟩
theorem FP_X2_32 : FP N_X2 32 1 4 .int := ⟨N_X1, T_X1, 7, y_X1, rfl, by decide, uw_X1, by decide, fl_X2_32, ty_X1, nm_X1, rfl, by decide +kernel⟩
theorem FL_X2_38 : FL N_X2 38 1 0 := ⟨N_X1, T_X1, 7, rfl, by decide, uw_X1, by decide, fl_X2_38⟩
theorem FL_X2_41 : FL N_X2 41 1 2 := ⟨N_X1, T_X1, 7, rfl, by decide, uw_X1, by decide, fl_X2_41⟩
theorem FL_X3_9 : FL N_X3 9 3 0 := ⟨N_X3, T_X3, 7, rfl, by decide, uw_X3, by decide, fl_X3_9⟩
theorem FL_X3_15 : FL N_X3 15 3 1 := ⟨N_X3, T_X3, 7, rfl, by decide, uw_X3, by decide, fl_X3_15⟩
theorem FL_X3_18 : FL N_X3 18 3 2 := ⟨N_X3, T_X3, 7, rfl, by decide, uw_X3, by decide, fl_X3_18⟩
theorem FL_X3_22 : FL N_X3 22 3 3 := ⟨N_X3, T_X3, 7, rfl, by decide, uw_X3, by decide, fl_X3_22⟩
theorem FP_X3_22 : FP N_X3 22 3 3 .int := ⟨N_X3, T_X3, 7, y_X3, rfl, by decide, uw_X3, by decide, fl_X3_22, ty_X3, nm_X3, rfl, by decide +kernel⟩
theorem FL_X3_26 : FL N_X3 26 3 4 := ⟨N_X3, T_X3, 7, rfl, by decide, uw_X3, by decide, fl_X3_26⟩
theorem FP_X3_26 : FP N_X3 26 3 4 .int := ⟨N_X3, T_X3, 7, y_X3, rfl, by decide, uw_X3, by decide, fl_X3_26, ty_X3, nm_X3, rfl, by decide +kernel⟩
theorem FL_X3_29 : FL N_X3 29 3 5 := ⟨N_X3, T_X3, 7, rfl, by decide, uw_X3, by decide, fl_X3_29⟩
theorem FP_X3_29 : FP N_X3 29 3 5 .int := ⟨N_X3, T_X3, 7, y_X3, rfl, by decide, uw_X3, by decide, fl_X3_29, ty_X3, nm_X3, rfl, by decide +kernel⟩
theorem FL_X3_32 : FL N_X3 32 3 6 := ⟨N_X3, T_X3, 7, rfl, by decide, uw_X3, by decide, fl_X3_32⟩
theorem FP_X3_32 : FP N_X3 32 3 6 .int := ⟨N_X3, T_X3, 7, y_X3, rfl, by decide, uw_X3, by decide, fl_X3_32, ty_X3, nm_X3, rfl, by decide +kernel⟩
theorem FL_X3_35 : FL N_X3 35 7 3 := ⟨N_X7, T_X7, 13, rfl, by decide, uw_X7, by decide, fl_X3_35⟩
theorem FP_X3_35 : FP N_X3 35 7 3 .int := ⟨N_X7, T_X7, 13, y_X7, rfl, by decide, uw_X7, by decide, fl_X3_35, ty_X7, nm_X7, rfl, by decide +kernel⟩
theorem FL_X3_40 : FL N_X3 40 7 6 := ⟨N_X7, T_X7, 13, rfl, by decide, uw_X7, by decide, fl_X3_40⟩
theorem FP_X3_40 : FP N_X3 40 7 6 .int := ⟨N_X7, T_X7, 13, y_X7, rfl, by decide, uw_X7, by decide, fl_X3_40, ty_X7, nm_X7, rfl, by decide +kernel⟩
theorem FL_X3_43 : FL N_X3 43 7 8 := ⟨N_X7, T_X7, 13, rfl, by decide, uw_X7, by decide, fl_X3_43⟩
theorem FP_X3_43 : FP N_X3 43 7 8 .int := ⟨N_X7, T_X7, 13, y_X7, rfl, by decide, uw_X7, by decide, fl_X3_43, ty_X7, nm_X7, rfl, by decide +kernel⟩
theorem FL_X4_11 : FL N_X4 11 4 0 := ⟨N_X4, T_X4, 3, rfl, by decide, uw_X4, by decide, fl_X4_11⟩
theorem FL_X4_18 : FL N_X4 18 4 1 := ⟨N_X4, T_X4, 3, rfl, by decide, uw_X4, by decide, fl_X4_18⟩
theorem FL_X4_22 : FL N_X4 22 4 2 := ⟨N_X4, T_X4, 3, rfl, by decide, uw_X4, by decide, fl_X4_22⟩
theorem FP_X4_22 : FP N_X4 22 4 2 .int := ⟨N_X4, T_X4, 3, y_X4, rfl, by decide, uw_X4, by decide, fl_X4_22, ty_X4, nm_X4, rfl, by decide +kernel⟩
theorem FL_X4_30 : FL N_X4 30 3 6 := ⟨N_X3, T_X3, 7, rfl, by decide, uw_X3, by decide, fl_X4_30⟩
theorem FP_X4_30 : FP N_X4 30 3 6 .int := ⟨N_X3, T_X3, 7, y_X3, rfl, by decide, uw_X3, by decide, fl_X4_30, ty_X3, nm_X3, rfl, by decide +kernel⟩
theorem FL_X5_9 : FL N_X5 9 5 0 := ⟨N_X5, T_X5, 3, rfl, by decide, uw_X5, by decide, fl_X5_9⟩
theorem FL_X5_15 : FL N_X5 15 5 1 := ⟨N_X5, T_X5, 3, rfl, by decide, uw_X5, by decide, fl_X5_15⟩
theorem FL_X5_18 : FL N_X5 18 5 2 := ⟨N_X5, T_X5, 3, rfl, by decide, uw_X5, by decide, fl_X5_18⟩
theorem FP_X5_18 : FP N_X5 18 5 2 .int := ⟨N_X5, T_X5, 3, y_X5, rfl, by decide, uw_X5, by decide, fl_X5_18, ty_X5, nm_X5, rfl, by decide +kernel⟩
theorem FL_X5_22 : FL N_X5 22 6 3 := ⟨N_X6, T_X6, 7, rfl, by decide, uw_X6, by decide, fl_X5_22⟩
theorem FP_X5_22 : FP N_X5 22 6 3 .int := ⟨N_X6, T_X6, 7, y_X6, rfl, by decide, uw_X6, by decide, fl_X5_22, ty_X6, nm_X6, rfl, by decide +kernel⟩
theorem FL_X5_27 : FL N_X5 27 6 0 := ⟨N_X6, T_X6, 7, rfl, by decide, uw_X6, by decide, fl_X5_27⟩
theorem FL_X5_30 : FL N_X5 30 7 0 := ⟨N_X7, T_X7, 13, rfl, by decide, uw_X7, by decide, fl_X5_30⟩
theorem FP_X5_30 : FP N_X5 30 7 0 .int := ⟨N_X7, T_X7, 13, y_X7, rfl, by decide, uw_X7, by decide, fl_X5_30, ty_X7, nm_X7, rfl, by decide +kernel⟩
theorem FL_X5_39 : FL N_X5 39 6 5 := ⟨N_X6, T_X6, 7, rfl, by decide, uw_X6, by decide, fl_X5_39⟩
theorem FP_X5_39 : FP N_X5 39 6 5 .int := ⟨N_X6, T_X6, 7, y_X6, rfl, by decide, uw_X6, by decide, fl_X5_39, ty_X6, nm_X6, rfl, by decide +kernel⟩
theorem FL_X5_50 : FL N_X5 50 6 6 := ⟨N_X6, T_X6, 7, rfl, by decide, uw_X6, by decide, fl_X5_50⟩
theorem FP_X5_50 : FP N_X5 50 6 6 .int := ⟨N_X6, T_X6, 7, y_X6, rfl, by decide, uw_X6, by decide, fl_X5_50, ty_X6, nm_X6, rfl, by decide +kernel⟩
theorem FL_X5_72 : FL N_X5 72 7 7 := ⟨N_X7, T_X7, 13, rfl, by decide, uw_X7, by decide, fl_X5_72⟩
theorem FP_X5_72 : FP N_X5 72 7 7 .int := ⟨N_X7, T_X7, 13, y_X7, rfl, by decide, uw_X7, by decide, fl_X5_72, ty_X7, nm_X7, rfl, by decide +kernel⟩
theorem FL_X6_11 : FL N_X6 11 6 0 := ⟨N_X6, T_X6, 7, rfl, by decide, uw_X6, by decide, fl_X6_11⟩
theorem FL_X6_19 : FL N_X6 19 6 1 := ⟨N_X6, T_X6, 7, rfl, by decide, uw_X6, by decide, fl_X6_19⟩
theorem FL_X6_25 : FL N_X6 25 6 2 := ⟨N_X6, T_X6, 7, rfl, by decide, uw_X6, by decide, fl_X6_25⟩
theorem FL_X6_29 : FL N_X6 29 6 3 := ⟨N_X6, T_X6, 7, rfl, by decide, uw_X6, by decide, fl_X6_29⟩
theorem FP_X6_29 : FP N_X6 29 6 3 .int := ⟨N_X6, T_X6, 7, y_X6, rfl, by decide, uw_X6, by decide, fl_X6_29, ty_X6, nm_X6, rfl, by decide +kernel⟩
theorem FL_X6_33 : FL N_X6 33 6 4 := ⟨N_X6, T_X6, 7, rfl, by decide, uw_X6, by decide, fl_X6_33⟩
theorem FP_X6_33 : FP N_X6 33 6 4 .int := ⟨N_X6, T_X6, 7, y_X6, rfl, by decide, uw_X6, by decide, fl_X6_33, ty_X6, nm_X6, rfl, by decide +kernel⟩
theorem FL_X6_36 : FL N_X6 36 6 5 := ⟨N_X6, T_X6, 7, rfl, by decide, uw_X6, by decide, fl_X6_36⟩
theorem FP_X6_36 : FP N_X6 36 6 5 .int := ⟨N_X6, T_X6, 7, y_X6, rfl, by decide, uw_X6, by decide, fl_X6_36, ty_X6, nm_X6, rfl, by decide +kernel⟩
theorem FL_X6_39 : FL N_X6 39 6 6 := ⟨N_X6, T_X6, 7, rfl, by decide, uw_X6, by decide, fl_X6_39⟩
theorem FP_X6_39 : FP N_X6 39 6 6 .int := ⟨N_X6, T_X6, 7, y_X6, rfl, by decide, uw_X6, by decide, fl_X6_39, ty_X6, nm_X6, rfl, by decide +kernel⟩
theorem FL_X6_63 : FL N_X6 63 5 2 := ⟨N_X5, T_X5, 3, rfl, by decide, uw_X5, by decide, fl_X6_63⟩
theorem FP_X6_63 : FP N_X6 63 5 2 .int := ⟨N_X5, T_X5, 3, y_X5, rfl, by decide, uw_X5, by decide, fl_X6_63, ty_X5, nm_X5, rfl, by decide +kernel⟩
theorem FL_X6_68 : FL N_X6 68 5 0 := ⟨N_X5, T_X5, 3, rfl, by decide, uw_X5, by decide, fl_X6_68⟩
theorem FL_X6_78 : FL N_X6 78 1 5 := ⟨N_X1, T_X1, 7, rfl, by decide, uw_X1, by decide, fl_X6_78⟩
theorem FP_X6_78 : FP N_X6 78 1 5 .int := ⟨N_X1, T_X1, 7, y_X1, rfl, by decide, uw_X1, by decide, fl_X6_78, ty_X1, nm_X1, rfl, by decide +kernel⟩
theorem FL_X6_83 : FL N_X6 83 1 6 := ⟨N_X1, T_X1, 7, rfl, by decide, uw_X1, by decide, fl_X6_83⟩
theorem FP_X6_83 : FP N_X6 83 1 6 .int := ⟨N_X1, T_X1, 7, y_X1, rfl, by decide, uw_X1, by decide, fl_X6_83, ty_X1, nm_X1, rfl, by decide +kernel⟩
theorem FL_X6_86 : FL N_X6 86 7 6 := ⟨N_X7, T_X7, 13, rfl, by decide, uw_X7, by decide, fl_X6_86⟩
theorem FP_X6_86 : FP N_X6 86 7 6 .int := ⟨N_X7, T_X7, 13, y_X7, rfl, by decide, uw_X7, by decide, fl_X6_86, ty_X7, nm_X7, rfl, by decide +kernel⟩
theorem FL_X6_97 : FL N_X6 97 0 3 := ⟨N_X0, T_X0, 4, rfl, by decide, uw_X0, by decide, fl_X6_97⟩
theorem FP_X6_97 : FP N_X6 97 0 3 .int := ⟨N_X0, T_X0, 4, y_X0, rfl, by decide, uw_X0, by decide, fl_X6_97, ty_X0, nm_X0, rfl, by decide +kernel⟩
theorem FL_X6_104 : FL N_X6 104 0 2 := ⟨N_X0, T_X0, 4, rfl, by decide, uw_X0, by decide, fl_X6_104⟩
theorem FP_X6_104 : FP N_X6 104 0 2 .int := ⟨N_X0, T_X0, 4, y_X0, rfl, by decide, uw_X0, by decide, fl_X6_104, ty_X0, nm_X0, rfl, by decide +kernel⟩
theorem FL_X6_113 : FL N_X6 113 7 3 := ⟨N_X7, T_X7, 13, rfl, by decide, uw_X7, by decide, fl_X6_113⟩
theorem FP_X6_113 : FP N_X6 113 7 3 .int := ⟨N_X7, T_X7, 13, y_X7, rfl, by decide, uw_X7, by decide, fl_X6_113, ty_X7, nm_X7, rfl, by decide +kernel⟩
theorem FL_X6_119 : FL N_X6 119 0 0 := ⟨N_X0, T_X0, 4, rfl, by decide, uw_X0, by decide, fl_X6_119⟩
theorem FP_X6_119 : FP N_X6 119 0 0 .int := ⟨N_X0, T_X0, 4, y_X0, rfl, by decide, uw_X0, by decide, fl_X6_119, ty_X0, nm_X0, rfl, by decide +kernel⟩
theorem FL_X6_133 : FL N_X6 133 9 2 := ⟨N_X9, T_X9, 5, rfl, by decide, uw_X9, by decide, fl_X6_133⟩
theorem FP_X6_133 : FP N_X6 133 9 2 .int := ⟨N_X9, T_X9, 5, y_X9, rfl, by decide, uw_X9, by decide, fl_X6_133, ty_X9, nm_X9, rfl, by decide +kernel⟩
theorem FL_X6_136 : FL N_X6 136 7 12 := ⟨N_X7, T_X7, 13, rfl, by decide, uw_X7, by decide, fl_X6_136⟩
theorem FP_X6_136 : FP N_X6 136 7 12 .int := ⟨N_X7, T_X7, 13, y_X7, rfl, by decide, uw_X7, by decide, fl_X6_136, ty_X7, nm_X7, rfl, by decide +kernel⟩
theorem FL_X6_139 : FL N_X6 139 7 4 := ⟨N_X7, T_X7, 13, rfl, by decide, uw_X7, by decide, fl_X6_139⟩
theorem FP_X6_139 : FP N_X6 139 7 4 .int := ⟨N_X7, T_X7, 13, y_X7, rfl, by decide, uw_X7, by decide, fl_X6_139, ty_X7, nm_X7, rfl, by decide +kernel⟩
theorem FL_X6_142 : FL N_X6 142 7 11 := ⟨N_X7, T_X7, 13, rfl, by decide, uw_X7, by decide, fl_X6_142⟩
theorem FP_X6_142 : FP N_X6 142 7 11 .int := ⟨N_X7, T_X7, 13, y_X7, rfl, by decide, uw_X7, by decide, fl_X6_142, ty_X7, nm_X7, rfl, by decide +kernel⟩
theorem FL_X7_9 : FL N_X7 9 7 0 := ⟨N_X7, T_X7, 13, rfl, by decide, uw_X7, by decide, fl_X7_9⟩
theorem FP_X7_9 : FP N_X7 9 7 0 .int := ⟨N_X7, T_X7, 13, y_X7, rfl, by decide, uw_X7, by decide, fl_X7_9, ty_X7, nm_X7, rfl, by decide +kernel⟩
theorem FL_X7_15 : FL N_X7 15 7 1 := ⟨N_X7, T_X7, 13, rfl, by decide, uw_X7, by decide, fl_X7_15⟩
theorem FP_X7_15 : FP N_X7 15 7 1 .int := ⟨N_X7, T_X7, 13, y_X7, rfl, by decide, uw_X7, by decide, fl_X7_15, ty_X7, nm_X7, rfl, by decide +kernel⟩
theorem FL_X7_18 : FL N_X7 18 7 2 := ⟨N_X7, T_X7, 13, rfl, by decide, uw_X7, by decide, fl_X7_18⟩
theorem FP_X7_18 : FP N_X7 18 7 2 .int := ⟨N_X7, T_X7, 13, y_X7, rfl, by decide, uw_X7, by decide, fl_X7_18, ty_X7, nm_X7, rfl, by decide +kernel⟩
theorem FL_X7_21 : FL N_X7 21 7 3 := ⟨N_X7, T_X7, 13, rfl, by decide, uw_X7, by decide, fl_X7_21⟩
theorem FP_X7_21 : FP N_X7 21 7 3 .int := ⟨N_X7, T_X7, 13, y_X7, rfl, by decide, uw_X7, by decide, fl_X7_21, ty_X7, nm_X7, rfl, by decide +kernel⟩
theorem FL_X7_24 : FL N_X7 24 7 4 := ⟨N_X7, T_X7, 13, rfl, by decide, uw_X7, by decide, fl_X7_24⟩
theorem FP_X7_24 : FP N_X7 24 7 4 .int := ⟨N_X7, T_X7, 13, y_X7, rfl, by decide, uw_X7, by decide, fl_X7_24, ty_X7, nm_X7, rfl, by decide +kernel⟩
theorem FL_X7_27 : FL N_X7 27 7 5 := ⟨N_X7, T_X7, 13, rfl, by decide, uw_X7, by decide, fl_X7_27⟩
theorem FP_X7_27 : FP N_X7 27 7 5 .int := ⟨N_X7, T_X7, 13, y_X7, rfl, by decide, uw_X7, by decide, fl_X7_27, ty_X7, nm_X7, rfl, by decide +kernel⟩
theorem FL_X7_30 : FL N_X7 30 7 6 := ⟨N_X7, T_X7, 13, rfl, by decide, uw_X7, by decide, fl_X7_30⟩
theorem FP_X7_30 : FP N_X7 30 7 6 .int := ⟨N_X7, T_X7, 13, y_X7, rfl, by decide, uw_X7, by decide, fl_X7_30, ty_X7, nm_X7, rfl, by decide +kernel⟩
theorem FL_X7_33 : FL N_X7 33 7 7 := ⟨N_X7, T_X7, 13, rfl, by decide, uw_X7, by decide, fl_X7_33⟩
theorem FP_X7_33 : FP N_X7 33 7 7 .int := ⟨N_X7, T_X7, 13, y_X7, rfl, by decide, uw_X7, by decide, fl_X7_33, ty_X7, nm_X7, rfl, by decide +kernel⟩
theorem FL_X7_36 : FL N_X7 36 7 8 := ⟨N_X7, T_X7, 13, rfl, by decide, uw_X7, by decide, fl_X7_36⟩
theorem FP_X7_36 : FP N_X7 36 7 8 .int := ⟨N_X7, T_X7, 13, y_X7, rfl, by decide, uw_X7, by decide, fl_X7_36, ty_X7, nm_X7, rfl, by decide +kernel⟩
theorem FL_X7_39 : FL N_X7 39 7 9 := ⟨N_X7, T_X7, 13, rfl, by decide, uw_X7, by decide, fl_X7_39⟩
theorem FP_X7_39 : FP N_X7 39 7 9 .int := ⟨N_X7, T_X7, 13, y_X7, rfl, by decide, uw_X7, by decide, fl_X7_39, ty_X7, nm_X7, rfl, by decide +kernel⟩
theorem FL_X7_42 : FL N_X7 42 7 10 := ⟨N_X7, T_X7, 13, rfl, by decide, uw_X7, by decide, fl_X7_42⟩
theorem FP_X7_42 : FP N_X7 42 7 10 .int := ⟨N_X7, T_X7, 13, y_X7, rfl, by decide, uw_X7, by decide, fl_X7_42, ty_X7, nm_X7, rfl, by decide +kernel⟩
theorem FL_X7_45 : FL N_X7 45 7 11 := ⟨N_X7, T_X7, 13, rfl, by decide, uw_X7, by decide, fl_X7_45⟩
theorem FP_X7_45 : FP N_X7 45 7 11 .int := ⟨N_X7, T_X7, 13, y_X7, rfl, by decide, uw_X7, by decide, fl_X7_45, ty_X7, nm_X7, rfl, by decide +kernel⟩
theorem FL_X7_48 : FL N_X7 48 7 12 := ⟨N_X7, T_X7, 13, rfl, by decide, uw_X7, by decide, fl_X7_48⟩
theorem FP_X7_48 : FP N_X7 48 7 12 .int := ⟨N_X7, T_X7, 13, y_X7, rfl, by decide, uw_X7, by decide, fl_X7_48, ty_X7, nm_X7, rfl, by decide +kernel⟩
theorem FL_X8_9 : FL N_X8 9 8 0 := ⟨N_X8, T_X8, 3, rfl, by decide, uw_X8, by decide, fl_X8_9⟩
theorem FL_X8_15 : FL N_X8 15 8 1 := ⟨N_X8, T_X8, 3, rfl, by decide, uw_X8, by decide, fl_X8_15⟩
theorem FP_X8_15 : FP N_X8 15 8 1 .int := ⟨N_X8, T_X8, 3, y_X8, rfl, by decide, uw_X8, by decide, fl_X8_15, ty_X8, nm_X8, rfl, by decide +kernel⟩
theorem FL_X8_19 : FL N_X8 19 8 2 := ⟨N_X8, T_X8, 3, rfl, by decide, uw_X8, by decide, fl_X8_19⟩
theorem FP_X8_19 : FP N_X8 19 8 2 .int := ⟨N_X8, T_X8, 3, y_X8, rfl, by decide, uw_X8, by decide, fl_X8_19, ty_X8, nm_X8, rfl, by decide +kernel⟩
theorem FL_X8_22 : FL N_X8 22 3 3 := ⟨N_X3, T_X3, 7, rfl, by decide, uw_X3, by decide, fl_X8_22⟩
theorem FP_X8_22 : FP N_X8 22 3 3 .int := ⟨N_X3, T_X3, 7, y_X3, rfl, by decide, uw_X3, by decide, fl_X8_22, ty_X3, nm_X3, rfl, by decide +kernel⟩
theorem FL_X8_43 : FL N_X8 43 3 5 := ⟨N_X3, T_X3, 7, rfl, by decide, uw_X3, by decide, fl_X8_43⟩
theorem FP_X8_43 : FP N_X8 43 3 5 .int := ⟨N_X3, T_X3, 7, y_X3, rfl, by decide, uw_X3, by decide, fl_X8_43, ty_X3, nm_X3, rfl, by decide +kernel⟩
theorem FL_X8_61 : FL N_X8 61 3 4 := ⟨N_X3, T_X3, 7, rfl, by decide, uw_X3, by decide, fl_X8_61⟩
theorem FP_X8_61 : FP N_X8 61 3 4 .int := ⟨N_X3, T_X3, 7, y_X3, rfl, by decide, uw_X3, by decide, fl_X8_61, ty_X3, nm_X3, rfl, by decide +kernel⟩
theorem FL_X9_9 : FL N_X9 9 9 0 := ⟨N_X9, T_X9, 5, rfl, by decide, uw_X9, by decide, fl_X9_9⟩
theorem FL_X9_21 : FL N_X9 21 9 1 := ⟨N_X9, T_X9, 5, rfl, by decide, uw_X9, by decide, fl_X9_21⟩
theorem FP_X9_21 : FP N_X9 21 9 1 .int := ⟨N_X9, T_X9, 5, y_X9, rfl, by decide, uw_X9, by decide, fl_X9_21, ty_X9, nm_X9, rfl, by decide +kernel⟩
theorem FL_X9_25 : FL N_X9 25 9 2 := ⟨N_X9, T_X9, 5, rfl, by decide, uw_X9, by decide, fl_X9_25⟩
theorem FP_X9_25 : FP N_X9 25 9 2 .int := ⟨N_X9, T_X9, 5, y_X9, rfl, by decide, uw_X9, by decide, fl_X9_25, ty_X9, nm_X9, rfl, by decide +kernel⟩
theorem FL_X9_28 : FL N_X9 28 9 3 := ⟨N_X9, T_X9, 5, rfl, by decide, uw_X9, by decide, fl_X9_28⟩
theorem FP_X9_28 : FP N_X9 28 9 3 .int := ⟨N_X9, T_X9, 5, y_X9, rfl, by decide, uw_X9, by decide, fl_X9_28, ty_X9, nm_X9, rfl, by decide +kernel⟩
theorem FL_X9_31 : FL N_X9 31 9 4 := ⟨N_X9, T_X9, 5, rfl, by decide, uw_X9, by decide, fl_X9_31⟩
theorem FP_X9_31 : FP N_X9 31 9 4 .int := ⟨N_X9, T_X9, 5, y_X9, rfl, by decide, uw_X9, by decide, fl_X9_31, ty_X9, nm_X9, rfl, by decide +kernel⟩
theorem FL_X11_7 : FL N_X11 7 11 2 := ⟨N_X11, T_X11, 67, rfl, by decide, uw_X11, by decide, fl_X11_7⟩
theorem FL_X11_13 : FL N_X11 13 11 3 := ⟨N_X11, T_X11, 67, rfl, by decide, uw_X11, by decide, fl_X11_13⟩
theorem FL_X11_16 : FL N_X11 16 11 4 := ⟨N_X11, T_X11, 67, rfl, by decide, uw_X11, by decide, fl_X11_16⟩
theorem FL_X11_19 : FL N_X11 19 11 5 := ⟨N_X11, T_X11, 67, rfl, by decide, uw_X11, by decide, fl_X11_19⟩
theorem FL_X11_22 : FL N_X11 22 11 6 := ⟨N_X11, T_X11, 67, rfl, by decide, uw_X11, by decide, fl_X11_22⟩
theorem FL_X11_25 : FL N_X11 25 11 7 := ⟨N_X11, T_X11, 67, rfl, by decide, uw_X11, by decide, fl_X11_25⟩
theorem FL_X11_28 : FL N_X11 28 11 8 := ⟨N_X11, T_X11, 67, rfl, by decide, uw_X11, by decide, fl_X11_28⟩
theorem FL_X11_31 : FL N_X11 31 11 9 := ⟨N_X11, T_X11, 67, rfl, by decide, uw_X11, by decide, fl_X11_31⟩
theorem FL_X11_34 : FL N_X11 34 11 10 := ⟨N_X11, T_X11, 67, rfl, by decide, uw_X11, by decide, fl_X11_34⟩
theorem FL_X11_37 : FL N_X11 37 11 11 := ⟨N_X11, T_X11, 67, rfl, by decide, uw_X11, by decide, fl_X11_37⟩
theorem FL_X11_40 : FL N_X11 40 11 12 := ⟨N_X11, T_X11, 67, rfl, by decide, uw_X11, by decide, fl_X11_40⟩
theorem FL_X11_43 : FL N_X11 43 11 13 := ⟨N_X11, T_X11, 67, rfl, by decide, uw_X11, by decide, fl_X11_43⟩
theorem FL_X11_46 : FL N_X11 46 11 14 := ⟨N_X11, T_X11, 67, rfl, by decide, uw_X11, by decide, fl_X11_46⟩
theorem FL_X11_49 : FL N_X11 49 11 16 := ⟨N_X11, T_X11, 67, rfl, by decide, uw_X11, by decide, fl_X11_49⟩
theorem FL_X11_52 : FL N_X11 52 11 17 := ⟨N_X11, T_X11, 67, rfl, by decide, uw_X11, by decide, fl_X11_52⟩
theorem FL_X11_55 : FL N_X11 55 11 18 := ⟨N_X11, T_X11, 67, rfl, by decide, uw_X11, by decide, fl_X11_55⟩
theorem FL_X11_58 : FL N_X11 58 11 19 := ⟨N_X11, T_X11, 67, rfl, by decide, uw_X11, by decide, fl_X11_58⟩
theorem FL_X11_61 : FL N_X11 61 11 20 := ⟨N_X11, T_X11, 67, rfl, by decide, uw_X11, by decide, fl_X11_61⟩
theorem FL_X11_64 : FL N_X11 64 11 21 := ⟨N_X11, T_X11, 67, rfl, by decide, uw_X11, by decide, fl_X11_64⟩
theorem FL_X11_67 : FL N_X11 67 11 22 := ⟨N_X11, T_X11, 67, rfl, by decide, uw_X11, by decide, fl_X11_67⟩
theorem FL_X11_70 : FL N_X11 70 11 23 := ⟨N_X11, T_X11, 67, rfl, by decide, uw_X11, by decide, fl_X11_70⟩
theorem FL_X11_73 : FL N_X11 73 11 24 := ⟨N_X11, T_X11, 67, rfl, by decide, uw_X11, by decide, fl_X11_73⟩
theorem FL_X11_76 : FL N_X11 76 11 26 := ⟨N_X11, T_X11, 67, rfl, by decide, uw_X11, by decide, fl_X11_76⟩
theorem FP_X11_76 : FP N_X11 76 11 26 .int := ⟨N_X11, T_X11, 67, y_X11, rfl, by decide, uw_X11, by decide, fl_X11_76, ty_X11, nm_X11, rfl, by decide +kernel⟩
theorem FL_X11_80 : FL N_X11 80 11 28 := ⟨N_X11, T_X11, 67, rfl, by decide, uw_X11, by decide, fl_X11_80⟩
theorem FL_X11_83 : FL N_X11 83 11 29 := ⟨N_X11, T_X11, 67, rfl, by decide, uw_X11, by decide, fl_X11_83⟩
theorem FL_X11_86 : FL N_X11 86 11 30 := ⟨N_X11, T_X11, 67, rfl, by decide, uw_X11, by decide, fl_X11_86⟩
theorem FL_X11_89 : FL N_X11 89 11 31 := ⟨N_X11, T_X11, 67, rfl, by decide, uw_X11, by decide, fl_X11_89⟩
theorem FL_X11_92 : FL N_X11 92 11 32 := ⟨N_X11, T_X11, 67, rfl, by decide, uw_X11, by decide, fl_X11_92⟩
theorem FL_X11_96 : FL N_X11 96 11 35 := ⟨N_X11, T_X11, 67, rfl, by decide, uw_X11, by decide, fl_X11_96⟩
theorem FL_X11_99 : FL N_X11 99 11 36 := ⟨N_X11, T_X11, 67, rfl, by decide, uw_X11, by decide, fl_X11_99⟩
theorem FL_X11_102 : FL N_X11 102 11 37 := ⟨N_X11, T_X11, 67, rfl, by decide, uw_X11, by decide, fl_X11_102⟩
theorem FL_X11_105 : FL N_X11 105 11 38 := ⟨N_X11, T_X11, 67, rfl, by decide, uw_X11, by decide, fl_X11_105⟩
theorem FL_X11_108 : FL N_X11 108 11 39 := ⟨N_X11, T_X11, 67, rfl, by decide, uw_X11, by decide, fl_X11_108⟩
theorem FL_X11_112 : FL N_X11 112 11 40 := ⟨N_X11, T_X11, 67, rfl, by decide, uw_X11, by decide, fl_X11_112⟩
theorem FL_X11_115 : FL N_X11 115 11 41 := ⟨N_X11, T_X11, 67, rfl, by decide, uw_X11, by decide, fl_X11_115⟩
theorem FL_X11_118 : FL N_X11 118 11 45 := ⟨N_X11, T_X11, 67, rfl, by decide, uw_X11, by decide, fl_X11_118⟩
theorem FL_X11_121 : FL N_X11 121 11 46 := ⟨N_X11, T_X11, 67, rfl, by decide, uw_X11, by decide, fl_X11_121⟩
theorem FL_X11_124 : FL N_X11 124 11 47 := ⟨N_X11, T_X11, 67, rfl, by decide, uw_X11, by decide, fl_X11_124⟩
theorem FL_X11_127 : FL N_X11 127 11 48 := ⟨N_X11, T_X11, 67, rfl, by decide, uw_X11, by decide, fl_X11_127⟩
theorem FL_X11_130 : FL N_X11 130 11 49 := ⟨N_X11, T_X11, 67, rfl, by decide, uw_X11, by decide, fl_X11_130⟩
theorem FL_X11_133 : FL N_X11 133 11 50 := ⟨N_X11, T_X11, 67, rfl, by decide, uw_X11, by decide, fl_X11_133⟩
theorem FL_X11_136 : FL N_X11 136 11 51 := ⟨N_X11, T_X11, 67, rfl, by decide, uw_X11, by decide, fl_X11_136⟩
theorem FL_X11_139 : FL N_X11 139 11 52 := ⟨N_X11, T_X11, 67, rfl, by decide, uw_X11, by decide, fl_X11_139⟩
theorem FL_X11_142 : FL N_X11 142 11 60 := ⟨N_X11, T_X11, 67, rfl, by decide, uw_X11, by decide, fl_X11_142⟩
theorem FL_X11_145 : FL N_X11 145 11 61 := ⟨N_X11, T_X11, 67, rfl, by decide, uw_X11, by decide, fl_X11_145⟩
theorem FL_X11_148 : FL N_X11 148 11 62 := ⟨N_X11, T_X11, 67, rfl, by decide, uw_X11, by decide, fl_X11_148⟩
theorem FL_X11_151 : FL N_X11 151 11 63 := ⟨N_X11, T_X11, 67, rfl, by decide, uw_X11, by decide, fl_X11_151⟩
theorem FL_X11_154 : FL N_X11 154 11 64 := ⟨N_X11, T_X11, 67, rfl, by decide, uw_X11, by decide, fl_X11_154⟩
theorem FL_X11_157 : FL N_X11 157 11 65 := ⟨N_X11, T_X11, 67, rfl, by decide, uw_X11, by decide, fl_X11_157⟩
theorem FP_X11_157 : FP N_X11 157 11 65 .int := ⟨N_X11, T_X11, 67, y_X11, rfl, by decide, uw_X11, by decide, fl_X11_157, ty_X11, nm_X11, rfl, by decide +kernel⟩
theorem FL_X11_160 : FL N_X11 160 11 66 := ⟨N_X11, T_X11, 67, rfl, by decide, uw_X11, by decide, fl_X11_160⟩
theorem FP_X11_160 : FP N_X11 160 11 66 .int := ⟨N_X11, T_X11, 67, y_X11, rfl, by decide, uw_X11, by decide, fl_X11_160, ty_X11, nm_X11, rfl, by decide +kernel⟩
theorem FL_X11_166 : FL N_X11 166 11 1 := ⟨N_X11, T_X11, 67, rfl, by decide, uw_X11, by decide, fl_X11_166⟩
theorem FP_X11_166 : FP N_X11 166 11 1 .int := ⟨N_X11, T_X11, 67, y_X11, rfl, by decide, uw_X11, by decide, fl_X11_166, ty_X11, nm_X11, rfl, by decide +kernel⟩
theorem FL_X11_173 : FL N_X11 173 11 15 := ⟨N_X11, T_X11, 67, rfl, by decide, uw_X11, by decide, fl_X11_173⟩
theorem FP_X11_173 : FP N_X11 173 11 15 .int := ⟨N_X11, T_X11, 67, y_X11, rfl, by decide, uw_X11, by decide, fl_X11_173, ty_X11, nm_X11, rfl, by decide +kernel⟩
theorem FL_X11_190 : FL N_X11 190 11 33 := ⟨N_X11, T_X11, 67, rfl, by decide, uw_X11, by decide, fl_X11_190⟩
theorem FP_X11_190 : FP N_X11 190 11 33 .int := ⟨N_X11, T_X11, 67, y_X11, rfl, by decide, uw_X11, by decide, fl_X11_190, ty_X11, nm_X11, rfl, by decide +kernel⟩
theorem FL_X11_193 : FL N_X11 193 11 42 := ⟨N_X11, T_X11, 67, rfl, by decide, uw_X11, by decide, fl_X11_193⟩
theorem FP_X11_193 : FP N_X11 193 11 42 .int := ⟨N_X11, T_X11, 67, y_X11, rfl, by decide, uw_X11, by decide, fl_X11_193, ty_X11, nm_X11, rfl, by decide +kernel⟩
theorem FL_X11_199 : FL N_X11 199 11 43 := ⟨N_X11, T_X11, 67, rfl, by decide, uw_X11, by decide, fl_X11_199⟩
theorem FP_X11_199 : FP N_X11 199 11 43 .int := ⟨N_X11, T_X11, 67, y_X11, rfl, by decide, uw_X11, by decide, fl_X11_199, ty_X11, nm_X11, rfl, by decide +kernel⟩
theorem FL_X11_214 : FL N_X11 214 11 34 := ⟨N_X11, T_X11, 67, rfl, by decide, uw_X11, by decide, fl_X11_214⟩
theorem FP_X11_214 : FP N_X11 214 11 34 .int := ⟨N_X11, T_X11, 67, y_X11, rfl, by decide, uw_X11, by decide, fl_X11_214, ty_X11, nm_X11, rfl, by decide +kernel⟩
theorem FL_X11_227 : FL N_X11 227 11 25 := ⟨N_X11, T_X11, 67, rfl, by decide, uw_X11, by decide, fl_X11_227⟩
theorem FP_X11_227 : FP N_X11 227 11 25 .int := ⟨N_X11, T_X11, 67, y_X11, rfl, by decide, uw_X11, by decide, fl_X11_227, ty_X11, nm_X11, rfl, by decide +kernel⟩
theorem FL_X11_233 : FL N_X11 233 11 44 := ⟨N_X11, T_X11, 67, rfl, by decide, uw_X11, by decide, fl_X11_233⟩
theorem FP_X11_233 : FP N_X11 233 11 44 .int := ⟨N_X11, T_X11, 67, y_X11, rfl, by decide, uw_X11, by decide, fl_X11_233, ty_X11, nm_X11, rfl, by decide +kernel⟩
theorem FL_X11_243 : FL N_X11 243 11 27 := ⟨N_X11, T_X11, 67, rfl, by decide, uw_X11, by decide, fl_X11_243⟩
theorem FP_X11_243 : FP N_X11 243 11 27 .int := ⟨N_X11, T_X11, 67, y_X11, rfl, by decide, uw_X11, by decide, fl_X11_243, ty_X11, nm_X11, rfl, by decide +kernel⟩
theorem FL_X11_246 : FL N_X11 246 11 58 := ⟨N_X11, T_X11, 67, rfl, by decide, uw_X11, by decide, fl_X11_246⟩
theorem FP_X11_246 : FP N_X11 246 11 58 .int := ⟨N_X11, T_X11, 67, y_X11, rfl, by decide, uw_X11, by decide, fl_X11_246, ty_X11, nm_X11, rfl, by decide +kernel⟩
theorem FL_X11_249 : FL N_X11 249 11 59 := ⟨N_X11, T_X11, 67, rfl, by decide, uw_X11, by decide, fl_X11_249⟩
theorem FP_X11_249 : FP N_X11 249 11 59 .int := ⟨N_X11, T_X11, 67, y_X11, rfl, by decide, uw_X11, by decide, fl_X11_249, ty_X11, nm_X11, rfl, by decide +kernel⟩
theorem FL_X11_265 : FL N_X11 265 11 57 := ⟨N_X11, T_X11, 67, rfl, by decide, uw_X11, by decide, fl_X11_265⟩
theorem FP_X11_265 : FP N_X11 265 11 57 .boolean := ⟨N_X11, T_X11, 67, y_X11, rfl, by decide, uw_X11, by decide, fl_X11_265, ty_X11, nm_X11, rfl, by decide +kernel⟩
theorem FL_X11_269 : FL N_X11 269 11 53 := ⟨N_X11, T_X11, 67, rfl, by decide, uw_X11, by decide, fl_X11_269⟩
theorem FP_X11_269 : FP N_X11 269 11 53 .int := ⟨N_X11, T_X11, 67, y_X11, rfl, by decide, uw_X11, by decide, fl_X11_269, ty_X11, nm_X11, rfl, by decide +kernel⟩
theorem FL_X11_272 : FL N_X11 272 11 54 := ⟨N_X11, T_X11, 67, rfl, by decide, uw_X11, by decide, fl_X11_272⟩
theorem FP_X11_272 : FP N_X11 272 11 54 .int := ⟨N_X11, T_X11, 67, y_X11, rfl, by decide, uw_X11, by decide, fl_X11_272, ty_X11, nm_X11, rfl, by decide +kernel⟩
theorem FL_X11_275 : FL N_X11 275 11 55 := ⟨N_X11, T_X11, 67, rfl, by decide, uw_X11, by decide, fl_X11_275⟩
theorem FP_X11_275 : FP N_X11 275 11 55 .int := ⟨N_X11, T_X11, 67, y_X11, rfl, by decide, uw_X11, by decide, fl_X11_275, ty_X11, nm_X11, rfl, by decide +kernel⟩
theorem FL_X11_278 : FL N_X11 278 11 56 := ⟨N_X11, T_X11, 67, rfl, by decide, uw_X11, by decide, fl_X11_278⟩
theorem FP_X11_278 : FP N_X11 278 11 56 .int := ⟨N_X11, T_X11, 67, y_X11, rfl, by decide, uw_X11, by decide, fl_X11_278, ty_X11, nm_X11, rfl, by decide +kernel⟩
def Rg (x : Int32) (a b : Int) : Prop := a ≤ x.toInt ∧ x.toInt ≤ b
theorem Rg.vp {x : Int32} {b : Int} {n : Nat} (h : Rg x 0 b) (hb : b < n) : vp_in x n := vp_in_iff.mpr ⟨h.1, by have := h.2; omega⟩
theorem Rg.nat {x : Int32} {b : Int} (h : Rg x 0 b) : (x.toNatClampNeg : Int) ≤ b := by
  have h1 := h.1
  have h2 := h.2
  have e : (x.toNatClampNeg : Int) = x.toInt := by
    show ((x.toInt.toNat : Nat) : Int) = x.toInt
    omega
  rw [e]
  exact h2
theorem Rg.clamp {x : Int32} {b : Int} (h : Rg x 0 b) : (x.toNatClampNeg : Int) = x.toInt := by
  have h1 := h.1
  show ((x.toInt.toNat : Nat) : Int) = x.toInt
  omega
theorem rg_any (x : Int32) : Rg x (-2147483648) 2147483647 := ⟨by have := Int32.le_toInt x; omega, by have := Int32.toInt_lt x; omega⟩
theorem rg_w {x : Int32} {a b c d : Int} (h : Rg x a b) (h1 : c ≤ a) (h2 : b ≤ d) : Rg x c d := ⟨Int.le_trans h1 h.1, Int.le_trans h.2 h2⟩
theorem i_bm {z : Int} (h1 : -2147483648 ≤ z) (h2 : z ≤ 2147483647) : z.bmod (2 ^ 32) = z := by
  rw [Int.bmod_def]
  have e : ((2 ^ 32 : Nat) : Int) = 4294967296 := by decide
  rw [e]
  split <;> omega
theorem i_add {a b : Int32} (h1 : -2147483648 ≤ a.toInt + b.toInt) (h2 : a.toInt + b.toInt ≤ 2147483647) : (a + b).toInt = a.toInt + b.toInt := by rw [Int32.toInt_add]; exact i_bm h1 h2
theorem i_sub {a b : Int32} (h1 : -2147483648 ≤ a.toInt - b.toInt) (h2 : a.toInt - b.toInt ≤ 2147483647) : (a - b).toInt = a.toInt - b.toInt := by rw [Int32.toInt_sub]; exact i_bm h1 h2
theorem i_mul {a b : Int32} (h1 : -2147483648 ≤ a.toInt * b.toInt) (h2 : a.toInt * b.toInt ≤ 2147483647) : (a * b).toInt = a.toInt * b.toInt := by rw [Int32.toInt_mul]; exact i_bm h1 h2
theorem i_lt {a b : Int32} (h : a < b) : a.toInt < b.toInt := Int32.lt_iff_toInt_lt.mp h
theorem i_le {a b : Int32} (h : a ≤ b) : a.toInt ≤ b.toInt := Int32.le_iff_toInt_le.mp h
theorem i_nlt {a b : Int32} (h : ¬ a < b) : b.toInt ≤ a.toInt := Int.not_lt.mp (fun q => h (Int32.lt_iff_toInt_lt.mpr q))
theorem i_nle {a b : Int32} (h : ¬ a ≤ b) : b.toInt < a.toInt := Int.not_le.mp (fun q => h (Int32.le_iff_toInt_le.mpr q))
theorem i_eq {a b : Int32} (h : a = b) : a.toInt = b.toInt := by rw [h]
theorem i_ne {a b : Int32} (h : ¬ a = b) : a.toInt ≠ b.toInt := fun q => h (Int32.toInt_inj.mp q)
theorem rg_add {x a b : Int32} {l1 h1 l2 h2 : Int} (e : x = a + b) (ra : Rg a l1 h1) (rb : Rg b l2 h2) (q1 : -2147483648 ≤ l1 + l2) (q2 : h1 + h2 ≤ 2147483647) : Rg x (l1 + l2) (h1 + h2) := by
  obtain ⟨a1, a2⟩ := ra
  obtain ⟨b1, b2⟩ := rb
  have := i_add (a := a) (b := b) (by omega) (by omega)
  subst e
  exact ⟨by omega, by omega⟩
theorem rg_sub {x a b : Int32} {l1 h1 l2 h2 : Int} (e : x = a - b) (ra : Rg a l1 h1) (rb : Rg b l2 h2) (q1 : -2147483648 ≤ l1 - h2) (q2 : h1 - l2 ≤ 2147483647) : Rg x (l1 - h2) (h1 - l2) := by
  obtain ⟨a1, a2⟩ := ra
  obtain ⟨b1, b2⟩ := rb
  have := i_sub (a := a) (b := b) (by omega) (by omega)
  subst e
  exact ⟨by omega, by omega⟩
theorem rg_mulc {x a b : Int32} {l h c : Int} (e : x = a * b) (ra : Rg a c c) (rb : Rg b l h) (hc : 0 ≤ c) (q1 : -2147483648 ≤ c * l) (q2 : c * h ≤ 2147483647) : Rg x (c * l) (c * h) := by
  obtain ⟨a1, a2⟩ := ra
  obtain ⟨b1, b2⟩ := rb
  have ea : a.toInt = c := by omega
  have m1 : c * l ≤ c * b.toInt := Int.mul_le_mul_of_nonneg_left b1 hc
  have m2 : c * b.toInt ≤ c * h := Int.mul_le_mul_of_nonneg_left b2 hc
  have := i_mul (a := a) (b := b) (by rw [ea]; omega) (by rw [ea]; omega)
  subst e
  rw [ea] at this
  exact ⟨by rw [this]; exact m1, by rw [this]; exact m2⟩
theorem rg_min {x a b : Int32} {l1 h1 l2 h2 : Int} (e : x = if b < a then b else a) (ra : Rg a l1 h1) (rb : Rg b l2 h2) : (l1 ≤ x.toInt ∨ l2 ≤ x.toInt) ∧ x.toInt ≤ h1 ∧ x.toInt ≤ h2 := by
  obtain ⟨a1, a2⟩ := ra
  obtain ⟨b1, b2⟩ := rb
  by_cases c : b < a
  · rw [if_pos c] at e
    have := i_lt c
    subst e
    exact ⟨Or.inr b1, by omega, by omega⟩
  · rw [if_neg c] at e
    have := i_nlt c
    subst e
    exact ⟨Or.inl a1, by omega, by omega⟩
def Inv (v : tV) : Prop := ∀ k j lo hi, RG k j = some (lo, hi) → Rg (v k j) lo hi
def Kp (P : Nat → Nat → Prop) (v w : tV) : Prop := ∀ a j, P a j → w a j = v a j
theorem Kp.rf (P : Nat → Nat → Prop) (v : tV) : Kp P v v := fun _ _ _ => rfl
theorem Kp.tr {P P2 : Nat → Nat → Prop} {u v w : tV} (h1 : Kp P u v) (h2 : Kp P2 v w) (hs : ∀ a j, P a j → P2 a j) : Kp P u w := fun a j h => (h2 a j (hs a j h)).trans (h1 a j h)
abbrev bnd {α β : Type} (a : α) (k : α → β) : β := k a
abbrev bnd2 {α β γ : Type} (p : α × β) (k : α → β → γ) : γ := k p.1 p.2
theorem bnd_use {α β : Type} {x e : α} {K : α → β} {R : β} (h : x = e) (hG : bnd e K = R) : K x = R := by subst h; exact hG
theorem bnd2_use {α β γ : Type} {r : α} {w : β} {q : α × β} {K : α → β → γ} {R : γ} (h : (r, w) = q) (hG : bnd2 q K = R) : K r w = R := by subst h; exact hG
theorem g_pos {c : Prop} {d : Decidable c} {α : Type} {a b r : α} (h : c) (e : @ite α c d a b = r) : a = r := by rw [if_pos h] at e; exact e
theorem g_neg {c : Prop} {d : Decidable c} {α : Type} {a b r : α} (h : ¬ c) (e : @ite α c d a b = r) : b = r := by rw [if_neg h] at e; exact e
theorem Inv.put0 {v : tV} (h : Inv v) {k j : Nat} (x : Int32) (hr : RG k j = none) : Inv (up2 v k j x) := by
  intro a b lo hi hab
  by_cases q : a = k ∧ b = j
  · obtain ⟨rfl, rfl⟩ := q
    rw [hr] at hab
    cases hab
  · rw [up2_n v x q]
    exact h a b lo hi hab
theorem Inv.putr {v : tV} (h : Inv v) {k j : Nat} {x : Int32} {a b : Int} (hr : RG k j = some (a, b)) (hx : Rg x a b) : Inv (up2 v k j x) := by
  intro a' b' lo hi hab
  by_cases q : a' = k ∧ b' = j
  · obtain ⟨rfl, rfl⟩ := q
    rw [hr] at hab
    cases hab
    rw [up2_s]
    exact hx
  · rw [up2_n v x q]
    exact h a' b' lo hi hab
theorem Kp.put {P : Nat → Nat → Prop} {u v : tV} (h : Kp P u v) {k j : Nat} (x : Int32) (hp : ¬ P k j) : Kp P u (up2 v k j x) := by
  intro a b hab
  by_cases q : a = k ∧ b = j
  · obtain ⟨rfl, rfl⟩ := q
    exact absurd hab hp
  · rw [up2_n v x q]
    exact h a b hab
-- the families
theorem KD_ship {k : Nat} (h1 : 100 ≤ k) (h2 : k < 160) : KD k = some (7, 0) := by
  unfold KD
  repeat (first | rw [if_pos (by omega)] | rw [if_neg (by omega)])
theorem SH_ship {k j : Nat} (h1 : 100 ≤ k) (h2 : k < 160) : SH k j = none := by
  unfold SH
  repeat (first | rw [if_pos (by omega)] | rw [if_neg (by omega)])
theorem RG_ship {k j : Nat} (h1 : 100 ≤ k) (h2 : k < 160) : RG k j = none := by
  unfold RG
  repeat (first | rw [if_pos (by omega)] | rw [if_neg (by omega)])
theorem KD_buyer {k : Nat} (h1 : 200 ≤ k) (h2 : k < 230) : KD k = some (0, 0) := by
  unfold KD
  repeat (first | rw [if_pos (by omega)] | rw [if_neg (by omega)])
theorem SH_buyer {k j : Nat} (h1 : 200 ≤ k) (h2 : k < 230) : SH k j = none := by
  unfold SH
  repeat (first | rw [if_pos (by omega)] | rw [if_neg (by omega)])
theorem RG_buyer0 {k : Nat} (h1 : 200 ≤ k) (h2 : k < 230) : RG k 0 = some (0, 5) := by
  unfold RG
  repeat (first | rw [if_pos (by omega)] | rw [if_neg (by omega)])
  rfl
theorem RG_buyer {k j : Nat} (h1 : 200 ≤ k) (h2 : k < 230) (h : j ≠ 0) : RG k j = none := by
  unfold RG
  repeat (first | rw [if_pos (by omega)] | rw [if_neg (by omega)])
  split <;> first | rfl | (exfalso; omega)
theorem KD_ward {k : Nat} (h1 : 300 ≤ k) (h2 : k < 318) : KD k = some (9, 0) := by
  unfold KD
  repeat (first | rw [if_pos (by omega)] | rw [if_neg (by omega)])
theorem SH_ward0 {k : Nat} (h1 : 300 ≤ k) (h2 : k < 318) : SH k 0 = some (k + 20) := by
  unfold SH
  repeat (first | rw [if_pos (by omega)] | rw [if_neg (by omega)])
  rfl
theorem SH_ward {k j : Nat} (h1 : 300 ≤ k) (h2 : k < 318) (h : j ≠ 0) : SH k j = none := by
  unfold SH
  repeat (first | rw [if_pos (by omega)] | rw [if_neg (by omega)])
  split <;> first | rfl | (exfalso; omega)
theorem RG_ward {k j : Nat} (h1 : 300 ≤ k) (h2 : k < 338) : RG k j = none := by
  unfold RG
  repeat (first | rw [if_pos (by omega)] | rw [if_neg (by omega)])
theorem KD_burns {k : Nat} (h1 : 320 ≤ k) (h2 : k < 338) : KD k = some (12, 5) := by
  unfold KD
  repeat (first | rw [if_pos (by omega)] | rw [if_neg (by omega)])
theorem SH_burns {k j : Nat} (h1 : 320 ≤ k) (h2 : k < 338) : SH k j = none := by
  unfold SH
  repeat (first | rw [if_pos (by omega)] | rw [if_neg (by omega)])
theorem KD_order {k : Nat} (h1 : 60 ≤ k) (h2 : k < 69) : KD k = some (3, 0) := by
  unfold KD
  repeat (first | rw [if_pos (by omega)] | rw [if_neg (by omega)])
theorem SH_order0 {k : Nat} (h1 : 60 ≤ k) (h2 : k < 69) : SH k 0 = some (k + 10) := by
  unfold SH
  repeat (first | rw [if_pos (by omega)] | rw [if_neg (by omega)])
  rfl
theorem SH_order1 {k : Nat} (h1 : 60 ≤ k) (h2 : k < 69) : SH k 1 = some (k + 20) := by
  unfold SH
  repeat (first | rw [if_pos (by omega)] | rw [if_neg (by omega)])
  rfl
theorem SH_order2 {k : Nat} (h1 : 60 ≤ k) (h2 : k < 69) : SH k 2 = some (k + 30) := by
  unfold SH
  repeat (first | rw [if_pos (by omega)] | rw [if_neg (by omega)])
  rfl
theorem SH_order {k j : Nat} (h1 : 60 ≤ k) (h2 : k < 69) (h : 3 ≤ j) : SH k j = none := by
  unfold SH
  repeat (first | rw [if_pos (by omega)] | rw [if_neg (by omega)])
  split <;> first | rfl | (exfalso; omega)
theorem RG_order3 {k : Nat} (h1 : 60 ≤ k) (h2 : k < 69) : RG k 3 = some (0, 3) := by
  unfold RG
  repeat (first | rw [if_pos (by omega)] | rw [if_neg (by omega)])
  rfl
theorem RG_order4 {k : Nat} (h1 : 60 ≤ k) (h2 : k < 69) : RG k 4 = some (0, 99) := by
  unfold RG
  repeat (first | rw [if_pos (by omega)] | rw [if_neg (by omega)])
  rfl
theorem RG_order {k j : Nat} (h1 : 60 ≤ k) (h2 : k < 69) (h : 5 ≤ j) : RG k j = none := by
  unfold RG
  repeat (first | rw [if_pos (by omega)] | rw [if_neg (by omega)])
  split <;> first | rfl | (exfalso; omega)
theorem KD_opart {k : Nat} (h : (70 ≤ k ∧ k < 79) ∨ (80 ≤ k ∧ k < 89)) : KD k = some (12, 3) := by
  unfold KD
  rcases h with ⟨h1, h2⟩ | ⟨h1, h2⟩ <;> repeat (first | rw [if_pos (by omega)] | rw [if_neg (by omega)])
theorem KD_obelow {k : Nat} (h1 : 90 ≤ k) (h2 : k < 99) : KD k = some (14, 3) := by
  unfold KD
  repeat (first | rw [if_pos (by omega)] | rw [if_neg (by omega)])
theorem SH_opart {k j : Nat} (h1 : 70 ≤ k) (h2 : k < 99) : SH k j = none := by
  unfold SH
  repeat (first | rw [if_pos (by omega)] | rw [if_neg (by omega)])
theorem RG_osell {k j : Nat} (h1 : 70 ≤ k) (h2 : k < 79) : RG k j = some (0, 99) := by
  unfold RG
  repeat (first | rw [if_pos (by omega)] | rw [if_neg (by omega)])
theorem RG_oprice {k j : Nat} (h1 : 80 ≤ k) (h2 : k < 99) : RG k j = none := by
  unfold RG
  repeat (first | rw [if_pos (by omega)] | rw [if_neg (by omega)])
section R6
variable {p : Program} {l : Launch} {e : Env} {R : Room} {s : State} {m : MethodId} {args : Array Value} {below : List Frame} {meth : Method} {c : Code} {H : Heap} {locs : List Loc} {cells slots : Nat} {Q : State → Prop}
variable {pc : Nat} {ls : Array Slot} {rest : List Value} {ad : Nat → Nat}
theorem r_nm {r : Nat} (kk : ∀ k, k = r → W p l e R s m args below meth c H locs cells slots Q (F0 m pc ls (.ref (ad k) :: rest))) : W p l e R s m args below meth c H locs cells slots Q (F0 m pc ls (.ref (ad r) :: rest)) := kk r rfl
end R6
