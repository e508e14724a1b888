theorem ini_L : Cond.initialized RL ∈ AW := mA1 0 rfl rfl
theorem ini_X8 : Cond.initialized RX8 ∈ AW := mA1 1 rfl rfl
theorem ini_X6 : Cond.initialized RX6 ∈ AW := mA1 2 rfl rfl
theorem ini_X3 : Cond.initialized RX3 ∈ AW := mA1 3 rfl rfl
theorem ini_X7 : Cond.initialized RX7 ∈ AW := mA1 4 rfl rfl
theorem ini_X5 : Cond.initialized RX5 ∈ AW := mA1 5 rfl rfl
theorem ini_X1 : Cond.initialized RX1 ∈ AW := mA1 6 rfl rfl
theorem ini_X4 : Cond.initialized RX4 ∈ AW := mA1 7 rfl rfl
theorem ini_X0 : Cond.initialized RX0 ∈ AW := mA1 8 rfl rfl
theorem ini_X2 : Cond.initialized RX2 ∈ AW := mA1 9 rfl rfl
theorem ini_X9 : Cond.initialized RX9 ∈ AW := mA1 10 rfl rfl
theorem ini_J6 : Cond.initialized RJ6 ∈ AW := mA1 11 rfl rfl
theorem ini_J9 : Cond.initialized RJ9 ∈ AW := mA1 12 rfl rfl
theorem ini_J10 : Cond.initialized RJ10 ∈ AW := mA1 13 rfl rfl
theorem cl_L_7 : Cond.classLink RL 7 RX8 ∈ AW := mA1 14 rfl rfl
theorem it_X8 : Cond.instantiable RX8 9 ∈ AW := mA1 15 rfl rfl
theorem ml_L_9 : Cond.methodLink RL 9 yX8_init ∈ AW := mA1 16 rfl rfl
theorem ml_X8_1 : Cond.methodLink RX8 1 ⟨"java/lang/Object", "<init>", "()V"⟩ ∈ AW := mA1 19 rfl rfl
theorem cl_X8_7 : Cond.classLink RX8 7 RX6 ∈ AW := mA1 22 rfl rfl
theorem it_X6 : Cond.instantiable RX6 7 ∈ AW := mA1 23 rfl rfl
theorem ml_X8_9 : Cond.methodLink RX8 9 yX6_init ∈ AW := mA1 24 rfl rfl
theorem ml_X6_3 : Cond.methodLink RX6 3 ⟨"java/lang/Object", "<init>", "()V"⟩ ∈ AW := mA1 27 rfl rfl
theorem fl_X6_9 : Cond.fieldLink RX6 9 "OathPermit$Town" "facts" "[I" ∈ AW := mA1 28 rfl rfl
theorem fl_X6_15 : Cond.fieldLink RX6 15 "OathPermit$Town" "asked" "[I" ∈ AW := mA1 29 rfl rfl
theorem fl_X6_18 : Cond.fieldLink RX6 18 "OathPermit$Town" "there" "I" ∈ AW := mA1 30 rfl rfl
theorem fl_X1_22 : Cond.fieldLink RX1 22 "OathPermit$Town" "there" "I" ∈ AW := mA1 31 rfl rfl
theorem fl_X0_25 : Cond.fieldLink RX0 25 "OathPermit$Town" "there" "I" ∈ AW := mA1 32 rfl rfl
theorem fl_X4_25 : Cond.fieldLink RX4 25 "OathPermit$Town" "there" "I" ∈ AW := mA1 33 rfl rfl
theorem fl_X8_184 : Cond.fieldLink RX8 184 "OathPermit$Town" "there" "I" ∈ AW := mA1 34 rfl rfl
theorem fl_X6_22 : Cond.fieldLink RX6 22 "OathPermit$Town" "limit" "I" ∈ AW := mA1 35 rfl rfl
theorem fl_X8_73 : Cond.fieldLink RX8 73 "OathPermit$Town" "limit" "I" ∈ AW := mA1 36 rfl rfl
theorem fl_X7_85 : Cond.fieldLink RX7 85 "OathPermit$Town" "limit" "I" ∈ AW := mA1 37 rfl rfl
theorem fl_X6_25 : Cond.fieldLink RX6 25 "OathPermit$Town" "ears" "I" ∈ AW := mA1 38 rfl rfl
theorem fl_X8_111 : Cond.fieldLink RX8 111 "OathPermit$Town" "ears" "I" ∈ AW := mA1 39 rfl rfl
theorem fl_X6_28 : Cond.fieldLink RX6 28 "OathPermit$Town" "sights" "I" ∈ AW := mA1 40 rfl rfl
theorem fl_X8_238 : Cond.fieldLink RX8 238 "OathPermit$Town" "sights" "I" ∈ AW := mA1 41 rfl rfl
theorem fl_X6_31 : Cond.fieldLink RX6 31 "OathPermit$Town" "heardBits" "I" ∈ AW := mA1 42 rfl rfl
theorem ac_int : Cond.arrayClass .int ∈ AW := mA1 58 rfl rfl
theorem cl_X8_16 : Cond.classLink RX8 16 RX3 ∈ AW := mA1 59 rfl rfl
theorem it_X3 : Cond.instantiable RX3 2 ∈ AW := mA1 60 rfl rfl
theorem ml_X8_18 : Cond.methodLink RX8 18 yX3_init ∈ AW := mA1 61 rfl rfl
theorem ml_X3_3 : Cond.methodLink RX3 3 ⟨"java/lang/Object", "<init>", "()V"⟩ ∈ AW := mA1 64 rfl rfl
theorem fl_X3_9 : Cond.fieldLink RX3 9 "OathPermit$Pad" "signs" "[I" ∈ AW := mA1 65 rfl rfl
theorem fl_X3_15 : Cond.fieldLink RX3 15 "OathPermit$Pad" "count" "I" ∈ AW := mA1 66 rfl rfl
theorem fl_X8_114 : Cond.fieldLink RX8 114 "OathPermit$Pad" "count" "I" ∈ AW := mA1 67 rfl rfl
theorem cl_X8_23 : Cond.classLink RX8 23 RX7 ∈ AW := mA1 73 rfl rfl
theorem it_X7 : Cond.instantiable RX7 8 ∈ AW := mA1 74 rfl rfl
theorem ml_X8_25 : Cond.methodLink RX8 25 yX7_init ∈ AW := mA1 75 rfl rfl
theorem ml_X7_3 : Cond.methodLink RX7 3 ⟨"java/lang/Object", "<init>", "()V"⟩ ∈ AW := mA1 78 rfl rfl
theorem cl_X7_9 : Cond.classLink RX7 9 RX6 ∈ AW := mA1 79 rfl rfl
theorem ml_X7_11 : Cond.methodLink RX7 11 yX6_init ∈ AW := mA1 80 rfl rfl
theorem fl_X7_12 : Cond.fieldLink RX7 12 "OathPermit$Trial" "town" "LOathPermit$Town;" ∈ AW := mA1 81 rfl rfl
theorem fl_X8_134 : Cond.fieldLink RX8 134 "OathPermit$Trial" "town" "LOathPermit$Town;" ∈ AW := mA1 82 rfl rfl
theorem fl_X7_18 : Cond.fieldLink RX7 18 "OathPermit$Trial" "acts" "I" ∈ AW := mA1 83 rfl rfl
theorem fl_X8_128 : Cond.fieldLink RX8 128 "OathPermit$Trial" "acts" "I" ∈ AW := mA1 84 rfl rfl
theorem fl_X7_22 : Cond.fieldLink RX7 22 "OathPermit$Trial" "reason" "I" ∈ AW := mA1 85 rfl rfl
theorem fl_X8_131 : Cond.fieldLink RX8 131 "OathPermit$Trial" "reason" "I" ∈ AW := mA1 86 rfl rfl
theorem fl_X7_25 : Cond.fieldLink RX7 25 "OathPermit$Trial" "slips" "I" ∈ AW := mA1 87 rfl rfl
theorem fl_X8_125 : Cond.fieldLink RX8 125 "OathPermit$Trial" "slips" "I" ∈ AW := mA1 88 rfl rfl
theorem fl_X7_28 : Cond.fieldLink RX7 28 "OathPermit$Trial" "paid" "I" ∈ AW := mA1 89 rfl rfl
theorem fl_X8_144 : Cond.fieldLink RX8 144 "OathPermit$Trial" "paid" "I" ∈ AW := mA1 90 rfl rfl
theorem fl_X7_31 : Cond.fieldLink RX7 31 "OathPermit$Trial" "firstSlip" "I" ∈ AW := mA1 91 rfl rfl
theorem fl_X8_135 : Cond.fieldLink RX8 135 "OathPermit$Trial" "firstSlip" "I" ∈ AW := mA1 92 rfl rfl
theorem fl_X7_34 : Cond.fieldLink RX7 34 "OathPermit$Trial" "firstWho" "I" ∈ AW := mA1 93 rfl rfl
theorem fl_X8_138 : Cond.fieldLink RX8 138 "OathPermit$Trial" "firstWho" "I" ∈ AW := mA1 94 rfl rfl
theorem fl_X7_37 : Cond.fieldLink RX7 37 "OathPermit$Trial" "firstHeard" "I" ∈ AW := mA1 95 rfl rfl
theorem fl_X8_141 : Cond.fieldLink RX8 141 "OathPermit$Trial" "firstHeard" "I" ∈ AW := mA1 96 rfl rfl
theorem cl_X8_34 : Cond.classLink RX8 34 RX5 ∈ AW := mA1 115 rfl rfl
theorem it_X5 : Cond.instantiable RX5 3 ∈ AW := mA1 116 rfl rfl
theorem ml_X8_36 : Cond.methodLink RX8 36 yX5_init ∈ AW := mA1 117 rfl rfl
theorem ml_X5_3 : Cond.methodLink RX5 3 ⟨"java/lang/Object", "<init>", "()V"⟩ ∈ AW := mA1 120 rfl rfl
theorem fl_X5_11 : Cond.fieldLink RX5 11 "OathPermit$Thrift" "table" "[I" ∈ AW := mA1 121 rfl rfl
theorem fl_X5_15 : Cond.fieldLink RX5 15 "OathPermit$Thrift" "mishaps" "[I" ∈ AW := mA1 122 rfl rfl
theorem fl_X5_18 : Cond.fieldLink RX5 18 "OathPermit$Thrift" "limit" "I" ∈ AW := mA1 123 rfl rfl
theorem cl_X8_41 : Cond.classLink RX8 41 RX1 ∈ AW := mA1 131 rfl rfl
theorem it_X1 : Cond.instantiable RX1 3 ∈ AW := mA1 132 rfl rfl
theorem ml_X8_43 : Cond.methodLink RX8 43 yX1_init ∈ AW := mA1 133 rfl rfl
theorem ml_X1_3 : Cond.methodLink RX1 3 ⟨"java/lang/Object", "<init>", "()V"⟩ ∈ AW := mA1 136 rfl rfl
theorem fl_X1_11 : Cond.fieldLink RX1 11 "OathPermit$Dealing" "alone" "[I" ∈ AW := mA1 137 rfl rfl
theorem fl_X1_15 : Cond.fieldLink RX1 15 "OathPermit$Dealing" "fewest" "[I" ∈ AW := mA1 138 rfl rfl
theorem fl_X1_18 : Cond.fieldLink RX1 18 "OathPermit$Dealing" "there" "I" ∈ AW := mA1 139 rfl rfl
theorem cl_X8_48 : Cond.classLink RX8 48 RX4 ∈ AW := mA1 147 rfl rfl
theorem it_X4 : Cond.instantiable RX4 4 ∈ AW := mA1 148 rfl rfl
theorem ml_X8_50 : Cond.methodLink RX8 50 yX4_init ∈ AW := mA1 149 rfl rfl
theorem ml_X4_3 : Cond.methodLink RX4 3 ⟨"java/lang/Object", "<init>", "()V"⟩ ∈ AW := mA1 152 rfl rfl
theorem fl_X4_11 : Cond.fieldLink RX4 11 "OathPermit$Seating" "ways" "[I" ∈ AW := mA1 153 rfl rfl
theorem fl_X4_15 : Cond.fieldLink RX4 15 "OathPermit$Seating" "tempers" "[I" ∈ AW := mA1 154 rfl rfl
theorem fl_X4_18 : Cond.fieldLink RX4 18 "OathPermit$Seating" "most" "I" ∈ AW := mA1 155 rfl rfl
theorem fl_X4_22 : Cond.fieldLink RX4 22 "OathPermit$Seating" "everybody" "I" ∈ AW := mA1 156 rfl rfl
theorem cl_X8_55 : Cond.classLink RX8 55 RX0 ∈ AW := mA1 166 rfl rfl
theorem it_X0 : Cond.instantiable RX0 4 ∈ AW := mA1 167 rfl rfl
theorem ml_X8_57 : Cond.methodLink RX8 57 yX0_init ∈ AW := mA1 168 rfl rfl
theorem ml_X0_3 : Cond.methodLink RX0 3 ⟨"java/lang/Object", "<init>", "()V"⟩ ∈ AW := mA1 171 rfl rfl
theorem fl_X0_11 : Cond.fieldLink RX0 11 "OathPermit$Covering" "most" "[I" ∈ AW := mA1 172 rfl rfl
theorem fl_X0_15 : Cond.fieldLink RX0 15 "OathPermit$Covering" "there" "I" ∈ AW := mA1 173 rfl rfl
theorem fl_X0_19 : Cond.fieldLink RX0 19 "OathPermit$Covering" "first" "I" ∈ AW := mA1 174 rfl rfl
theorem fl_X0_22 : Cond.fieldLink RX0 22 "OathPermit$Covering" "second" "I" ∈ AW := mA1 175 rfl rfl
theorem cl_X8_62 : Cond.classLink RX8 62 RX2 ∈ AW := mA1 185 rfl rfl
theorem it_X2 : Cond.instantiable RX2 5 ∈ AW := mA1 186 rfl rfl
theorem ml_X8_64 : Cond.methodLink RX8 64 yX2_init ∈ AW := mA1 187 rfl rfl
theorem ml_X2_3 : Cond.methodLink RX2 3 ⟨"java/lang/Object", "<init>", "()V"⟩ ∈ AW := mA1 190 rfl rfl
theorem fl_X2_9 : Cond.fieldLink RX2 9 "OathPermit$Odds" "parts" "[J" ∈ AW := mA1 191 rfl rfl
theorem fl_X2_15 : Cond.fieldLink RX2 15 "OathPermit$Odds" "next" "[J" ∈ AW := mA1 192 rfl rfl
theorem fl_X2_18 : Cond.fieldLink RX2 18 "OathPermit$Odds" "limit" "I" ∈ AW := mA1 193 rfl rfl
theorem fl_X2_22 : Cond.fieldLink RX2 22 "OathPermit$Odds" "whole" "J" ∈ AW := mA1 194 rfl rfl
theorem fl_X8_229 : Cond.fieldLink RX8 229 "OathPermit$Odds" "whole" "J" ∈ AW := mA1 195 rfl rfl
theorem fl_X2_26 : Cond.fieldLink RX2 26 "OathPermit$Odds" "slips" "J" ∈ AW := mA1 196 rfl rfl
theorem fl_X8_226 : Cond.fieldLink RX8 226 "OathPermit$Odds" "slips" "J" ∈ AW := mA1 197 rfl rfl
theorem ac_long : Cond.arrayClass .long ∈ AW := mA1 209 rfl rfl
theorem fl_X8_10 : Cond.fieldLink RX8 10 "OathPermit" "town" "LOathPermit$Town;" ∈ AW := mA1 210 rfl rfl
theorem fl_X8_19 : Cond.fieldLink RX8 19 "OathPermit" "pad" "LOathPermit$Pad;" ∈ AW := mA1 211 rfl rfl
theorem fl_X8_26 : Cond.fieldLink RX8 26 "OathPermit" "trial" "LOathPermit$Trial;" ∈ AW := mA1 212 rfl rfl
theorem fl_X8_30 : Cond.fieldLink RX8 30 "OathPermit" "images" "[LOathPermit$Town;" ∈ AW := mA1 213 rfl rfl
theorem fl_X8_37 : Cond.fieldLink RX8 37 "OathPermit" "thrift" "LOathPermit$Thrift;" ∈ AW := mA1 214 rfl rfl
theorem fl_X8_44 : Cond.fieldLink RX8 44 "OathPermit" "dealing" "LOathPermit$Dealing;" ∈ AW := mA1 215 rfl rfl
theorem fl_X8_51 : Cond.fieldLink RX8 51 "OathPermit" "seating" "LOathPermit$Seating;" ∈ AW := mA1 216 rfl rfl
theorem fl_X8_58 : Cond.fieldLink RX8 58 "OathPermit" "covering" "LOathPermit$Covering;" ∈ AW := mA1 217 rfl rfl
theorem fl_X8_65 : Cond.fieldLink RX8 65 "OathPermit" "odds" "LOathPermit$Odds;" ∈ AW := mA1 218 rfl rfl
theorem ml_L_13 : Cond.methodLink RL 13 yX8_one ∈ AW := mA1 238 rfl rfl
theorem ml_X8_69 : Cond.methodLink RX8 69 yX8_within ∈ AW := mA2 2 rfl rfl
theorem ml_X8_77 : Cond.methodLink RX8 77 yX6_settle ∈ AW := mA2 5 rfl rfl
theorem ml_X6_46 : Cond.methodLink RX6 46 yX6_put ∈ AW := mA2 9 rfl rfl
theorem ml_X8_81 : Cond.methodLink RX8 81 yX6_count ∈ AW := mA2 13 rfl rfl
theorem ml_X6_40 : Cond.methodLink RX6 40 yJ6_bitCount_0f7a4 ∈ AW := mA2 17 rfl rfl
theorem k_J6_265 : Cond.constant RJ6 265 (1431655765) ∈ AW := mA2 20 rfl rfl
theorem k_J6_266 : Cond.constant RJ6 266 (858993459) ∈ AW := mA2 21 rfl rfl
theorem k_J6_267 : Cond.constant RJ6 267 (252645135) ∈ AW := mA2 22 rfl rfl
theorem ml_L_18 : Cond.methodLink RL 18 yX8_leave ∈ AW := mA2 23 rfl rfl
theorem ml_X8_85 : Cond.methodLink RX8 85 yX6_has ∈ AW := mA2 27 rfl rfl
theorem ml_X8_89 : Cond.methodLink RX8 89 yX6_remove ∈ AW := mA2 31 rfl rfl
theorem ml_L_23 : Cond.methodLink RL 23 yX8_permit ∈ AW := mA2 35 rfl rfl
theorem ml_X8_93 : Cond.methodLink RX8 93 yX6_get ∈ AW := mA2 39 rfl rfl
theorem ml_X8_97 : Cond.methodLink RX8 97 yX6_put ∈ AW := mA2 43 rfl rfl
theorem ml_L_28 : Cond.methodLink RL 28 yX8_set ∈ AW := mA2 44 rfl rfl
theorem ml_X8_101 : Cond.methodLink RX8 101 yX8_setLimit ∈ AW := mA2 48 rfl rfl
theorem ml_X8_108 : Cond.methodLink RX8 108 yX6_highestTemper ∈ AW := mA2 52 rfl rfl
theorem ml_X6_50 : Cond.methodLink RX6 50 yX6_has ∈ AW := mA2 56 rfl rfl
theorem ml_X6_54 : Cond.methodLink RX6 54 yX6_get ∈ AW := mA2 57 rfl rfl
theorem ml_X6_58 : Cond.methodLink RX6 58 yJ9_max_7cf53 ∈ AW := mA2 58 rfl rfl
theorem ml_X8_105 : Cond.methodLink RX8 105 yX8_setEars ∈ AW := mA2 61 rfl rfl
theorem ml_L_32 : Cond.methodLink RL 32 yX8_say ∈ AW := mA2 65 rfl rfl
theorem ml_X8_116 : Cond.methodLink RX8 116 yX3_add ∈ AW := mA2 69 rfl rfl
theorem ml_L_36 : Cond.methodLink RL 36 yX8_wipe ∈ AW := mA2 74 rfl rfl
theorem ml_L_41 : Cond.methodLink RL 41 yX8_fault ∈ AW := mA2 78 rfl rfl
theorem ml_X8_119 : Cond.methodLink RX8 119 yX3_firstFault ∈ AW := mA2 82 rfl rfl
theorem ml_X3_23 : Cond.methodLink RX3 23 yX3_canStand ∈ AW := mA2 86 rfl rfl
theorem ml_X3_31 : Cond.methodLink RX3 31 yX3_at ∈ AW := mA2 90 rfl rfl
theorem ml_X3_34 : Cond.methodLink RX3 34 yX3_oneOf ∈ AW := mA2 94 rfl rfl
theorem ml_X3_37 : Cond.methodLink RX3 37 yX3_causeOf ∈ AW := mA2 97 rfl rfl
theorem ml_X3_27 : Cond.methodLink RX3 27 yX3_lengthAt ∈ AW := mA2 100 rfl rfl
theorem ml_L_45 : Cond.methodLink RL 45 yX8_judge ∈ AW := mA2 104 rfl rfl
theorem ml_X8_122 : Cond.methodLink RX8 122 yX8_playPad ∈ AW := mA2 108 rfl rfl
theorem ml_X8_154 : Cond.methodLink RX8 154 yX7_begin ∈ AW := mA2 112 rfl rfl
theorem ml_X7_40 : Cond.methodLink RX7 40 yX6_takeFrom ∈ AW := mA2 116 rfl rfl
theorem ml_X6_34 : Cond.methodLink RX6 34 ⟨"java/lang/System", "arraycopy", "(Ljava/lang/Object;ILjava/lang/Object;II)V"⟩ ∈ AW := mA2 120 rfl rfl
theorem ml_X8_157 : Cond.methodLink RX8 157 yX7_attempt ∈ AW := mA2 123 rfl rfl
theorem ml_X7_44 : Cond.methodLink RX7 44 yX3_at ∈ AW := mA2 127 rfl rfl
theorem ml_X7_50 : Cond.methodLink RX7 50 yX3_oneOf ∈ AW := mA2 128 rfl rfl
theorem ml_X7_53 : Cond.methodLink RX7 53 yX7_endHour ∈ AW := mA2 129 rfl rfl
theorem ml_X7_78 : Cond.methodLink RX7 78 yX6_get ∈ AW := mA2 133 rfl rfl
theorem ml_X7_105 : Cond.methodLink RX7 105 yJ9_max_7cf53 ∈ AW := mA2 134 rfl rfl
theorem ml_X7_81 : Cond.methodLink RX7 81 yX6_put ∈ AW := mA2 135 rfl rfl
theorem ml_X7_57 : Cond.methodLink RX7 57 yX7_swear ∈ AW := mA2 136 rfl rfl
theorem ml_X7_74 : Cond.methodLink RX7 74 yX6_has ∈ AW := mA2 140 rfl rfl
theorem ml_X7_61 : Cond.methodLink RX7 61 yX7_sell ∈ AW := mA2 141 rfl rfl
theorem ml_X7_65 : Cond.methodLink RX7 65 yX7_walk ∈ AW := mA2 145 rfl rfl
theorem ml_X7_68 : Cond.methodLink RX7 68 yX3_causeOf ∈ AW := mA2 149 rfl rfl
theorem ml_X7_71 : Cond.methodLink RX7 71 yX7_suffer ∈ AW := mA2 150 rfl rfl
theorem ml_X7_88 : Cond.methodLink RX7 88 yX7_slip ∈ AW := mA2 154 rfl rfl
theorem ml_X7_92 : Cond.methodLink RX7 92 yX6_hearers ∈ AW := mA2 158 rfl rfl
theorem ml_X6_63 : Cond.methodLink RX6 63 yJ9_abs_0f7a4 ∈ AW := mA2 162 rfl rfl
theorem ml_X7_95 : Cond.methodLink RX7 95 yJ6_bitCount_0f7a4 ∈ AW := mA2 165 rfl rfl
theorem ml_X7_100 : Cond.methodLink RX7 100 yJ9_min_7cf53 ∈ AW := mA2 166 rfl rfl
theorem ml_X8_161 : Cond.methodLink RX8 161 yX3_lengthAt ∈ AW := mA2 169 rfl rfl
theorem ml_X8_164 : Cond.methodLink RX8 164 yJ9_max_7cf53 ∈ AW := mA2 170 rfl rfl
theorem ml_L_49 : Cond.methodLink RL 49 yX8_behind ∈ AW := mA2 171 rfl rfl
theorem ml_L_53 : Cond.methodLink RL 53 yX8_slipped ∈ AW := mA2 175 rfl rfl
theorem ml_L_57 : Cond.methodLink RL 57 yX8_done ∈ AW := mA2 179 rfl rfl
theorem ml_X8_147 : Cond.methodLink RX8 147 yX6_takeFrom ∈ AW := mA2 183 rfl rfl
theorem ml_L_61 : Cond.methodLink RL 61 yX8_hears ∈ AW := mA2 184 rfl rfl
theorem ml_X8_151 : Cond.methodLink RX8 151 yX6_hearers ∈ AW := mA2 188 rfl rfl
theorem ml_L_65 : Cond.methodLink RL 65 yX8_spend ∈ AW := mA2 189 rfl rfl
theorem k_X8_169 : Cond.constant RX8 169 (999999) ∈ AW := mA2 193 rfl rfl
theorem ml_X8_170 : Cond.methodLink RX8 170 yX5_reckon ∈ AW := mA2 194 rfl rfl
theorem ml_X5_22 : Cond.methodLink RX5 22 yJ9_min_7cf53 ∈ AW := mA2 198 rfl rfl
theorem ml_X5_31 : Cond.methodLink RX5 31 yX5_reckonFrom ∈ AW := mA2 202 rfl rfl
theorem ml_X5_35 : Cond.methodLink RX5 35 yX5_afterMishap ∈ AW := mA2 206 rfl rfl
theorem ml_X5_51 : Cond.methodLink RX5 51 yX5_slips ∈ AW := mA2 210 rfl rfl
theorem ml_X5_38 : Cond.methodLink RX5 38 yX5_slipsLeft ∈ AW := mA2 214 rfl rfl
theorem ml_X5_42 : Cond.methodLink RX5 42 yX5_cheapest ∈ AW := mA2 218 rfl rfl
theorem ml_X5_45 : Cond.methodLink RX5 45 yX5_afterHour ∈ AW := mA2 222 rfl rfl
theorem ml_X5_55 : Cond.methodLink RX5 55 yJ9_max_7cf53 ∈ AW := mA2 225 rfl rfl
theorem ml_X5_48 : Cond.methodLink RX5 48 yX5_fewestStamps ∈ AW := mA2 226 rfl rfl
theorem ml_X8_174 : Cond.methodLink RX8 174 yX5_fewestSlips ∈ AW := mA2 231 rfl rfl
theorem ml_X8_177 : Cond.methodLink RX8 177 yX5_fewestStamps ∈ AW := mA2 235 rfl rfl
theorem ml_X8_181 : Cond.methodLink RX8 181 yX5_strengths ∈ AW := mA2 236 rfl rfl
theorem ml_L_70 : Cond.methodLink RL 70 yX8_deal ∈ AW := mA3 0 rfl rfl
theorem ml_X8_187 : Cond.methodLink RX8 187 yX1_reckon ∈ AW := mA3 4 rfl rfl
theorem ml_X1_25 : Cond.methodLink RX1 25 yX6_get ∈ AW := mA3 8 rfl rfl
theorem ml_X1_29 : Cond.methodLink RX1 29 yX5_fewestSlips ∈ AW := mA3 9 rfl rfl
theorem ml_X1_34 : Cond.methodLink RX1 34 yX1_leastOver ∈ AW := mA3 10 rfl rfl
theorem ml_X1_37 : Cond.methodLink RX1 37 yX1_mostFor ∈ AW := mA3 14 rfl rfl
theorem ml_X1_40 : Cond.methodLink RX1 40 yX1_withPart ∈ AW := mA3 18 rfl rfl
theorem ml_X1_53 : Cond.methodLink RX1 53 yX1_fewestFrom ∈ AW := mA3 23 rfl rfl
theorem ml_X1_44 : Cond.methodLink RX1 44 yJ9_min_7cf53 ∈ AW := mA3 27 rfl rfl
theorem ml_X8_190 : Cond.methodLink RX8 190 yX1_fewestFrom ∈ AW := mA3 28 rfl rfl
theorem ml_X8_193 : Cond.methodLink RX8 193 yX1_partOf ∈ AW := mA3 29 rfl rfl
theorem ml_L_75 : Cond.methodLink RL 75 yX8_seats ∈ AW := mA3 33 rfl rfl
theorem ml_X8_196 : Cond.methodLink RX8 196 yX4_reckon ∈ AW := mA3 37 rfl rfl
theorem ml_X4_30 : Cond.methodLink RX4 30 yX6_get ∈ AW := mA3 41 rfl rfl
theorem ml_X4_34 : Cond.methodLink RX4 34 yX4_waysOn ∈ AW := mA3 42 rfl rfl
theorem ml_X4_37 : Cond.methodLink RX4 37 yX4_waysBy ∈ AW := mA3 46 rfl rfl
theorem ml_X4_41 : Cond.methodLink RX4 41 yX4_canFollow ∈ AW := mA3 50 rfl rfl
theorem ml_X4_45 : Cond.methodLink RX4 45 yX4_ways ∈ AW := mA3 54 rfl rfl
theorem ml_X8_199 : Cond.methodLink RX8 199 yX4_rows ∈ AW := mA3 59 rfl rfl
theorem ml_X8_202 : Cond.methodLink RX8 202 yX4_firstRow ∈ AW := mA3 63 rfl rfl
theorem ml_X4_51 : Cond.methodLink RX4 51 yX4_rows ∈ AW := mA3 67 rfl rfl
theorem ml_L_79 : Cond.methodLink RL 79 yX8_cover ∈ AW := mA3 68 rfl rfl
theorem ml_X8_205 : Cond.methodLink RX8 205 yX0_reckon ∈ AW := mA3 72 rfl rfl
theorem ml_X0_28 : Cond.methodLink RX0 28 yX0_best ∈ AW := mA3 76 rfl rfl
theorem ml_X0_32 : Cond.methodLink RX0 32 yX0_mostFrom ∈ AW := mA3 80 rfl rfl
theorem ml_X0_35 : Cond.methodLink RX0 35 yX0_byFirst ∈ AW := mA3 85 rfl rfl
theorem ml_X0_38 : Cond.methodLink RX0 38 yJ9_max_7cf53 ∈ AW := mA3 90 rfl rfl
theorem ml_X0_44 : Cond.methodLink RX0 44 yX0_bySecond ∈ AW := mA3 91 rfl rfl
theorem ml_X8_208 : Cond.methodLink RX8 208 yX0_mostFrom ∈ AW := mA3 95 rfl rfl
theorem ml_X8_211 : Cond.methodLink RX8 211 yX0_holders ∈ AW := mA3 96 rfl rfl
theorem ml_L_83 : Cond.methodLink RL 83 yX8_risk ∈ AW := mA3 100 rfl rfl
theorem k_X8_214 : Cond.constantLong RX8 214 (-1000000000000000002) ∈ AW := mA3 104 rfl rfl
theorem ml_X8_216 : Cond.methodLink RX8 216 yX2_begin ∈ AW := mA3 105 rfl rfl
theorem ml_X2_29 : Cond.methodLink RX2 29 yJ9_min_7cf53 ∈ AW := mA3 109 rfl rfl
theorem ml_X8_218 : Cond.methodLink RX8 218 yX2_passHour ∈ AW := mA3 110 rfl rfl
theorem ml_X2_35 : Cond.methodLink RX2 35 yJ9_max_7cf53 ∈ AW := mA3 114 rfl rfl
theorem ml_X2_38 : Cond.methodLink RX2 38 ⟨"java/lang/System", "arraycopy", "(Ljava/lang/Object;ILjava/lang/Object;II)V"⟩ ∈ AW := mA3 115 rfl rfl
theorem k_X2_44 : Cond.constantLong RX2 44 (10) ∈ AW := mA3 116 rfl rfl
theorem ml_X8_222 : Cond.methodLink RX8 222 yX2_calm ∈ AW := mA3 117 rfl rfl
theorem ml_X8_232 : Cond.methodLink RX8 232 yX8_commonDivisor ∈ AW := mA3 121 rfl rfl
theorem ml_X8_236 : Cond.methodLink RX8 236 yJ9_max_f86c9 ∈ AW := mA3 124 rfl rfl
theorem ml_L_88 : Cond.methodLink RL 88 yX8_seen ∈ AW := mA3 127 rfl rfl
theorem ml_X8_241 : Cond.methodLink RX8 241 yX6_addSight ∈ AW := mA3 131 rfl rfl
theorem ml_L_93 : Cond.methodLink RL 93 yX8_forget ∈ AW := mA3 136 rfl rfl
theorem ml_L_97 : Cond.methodLink RL 97 yX8_who ∈ AW := mA3 140 rfl rfl
theorem ml_X8_245 : Cond.methodLink RX8 245 yX6_suspects ∈ AW := mA3 144 rfl rfl
theorem ml_X6_73 : Cond.methodLink RX6 73 yX6_allSightsFit ∈ AW := mA3 148 rfl rfl
theorem ml_X6_76 : Cond.methodLink RX6 76 yX6_saysHeard ∈ AW := mA3 152 rfl rfl
theorem ml_X6_66 : Cond.methodLink RX6 66 yX6_hearers ∈ AW := mA3 156 rfl rfl
theorem ml_L_101 : Cond.methodLink RL 101 yX8_ask ∈ AW := mA3 157 rfl rfl
theorem ml_X8_248 : Cond.methodLink RX8 248 yX6_mostLeft ∈ AW := mA3 161 rfl rfl
theorem ml_L_105 : Cond.methodLink RL 105 yX8_quarrel ∈ AW := mA3 165 rfl rfl
theorem ml_L_109 : Cond.methodLink RL 109 yX8_year ∈ AW := mA3 169 rfl rfl
theorem k_X8_251 : Cond.constant RX8 251 (65537) ∈ AW := mA3 173 rfl rfl
theorem ml_X8_252 : Cond.methodLink RX8 252 yX7_draw ∈ AW := mA3 174 rfl rfl
theorem ml_X8_255 : Cond.methodLink RX8 255 yX6_allTempers ∈ AW := mA3 178 rfl rfl
theorem ml_L_113 : Cond.methodLink RL 113 yX8_image ∈ AW := mA3 182 rfl rfl
theorem ml_L_117 : Cond.methodLink RL 117 yX8_restore ∈ AW := mA3 186 rfl rfl
theorem ml_L_121 : Cond.methodLink RL 121 yX8_told ∈ AW := mA3 190 rfl rfl
theorem ml_X8_258 : Cond.methodLink RX8 258 yX8_toldOfOne ∈ AW := mA3 194 rfl rfl
theorem cl_L_10 : Cond.classLink RL 10 RX9 ∈ AW := mA3 198 rfl rfl
theorem it_X9 : Cond.instantiable RX9 41 ∈ AW := mA3 199 rfl rfl
theorem ml_L_12 : Cond.methodLink RL 12 yX9_init ∈ AW := mA3 200 rfl rfl
theorem ml_X9_1 : Cond.methodLink RX9 1 ⟨"java/lang/Object", "<init>", "()V"⟩ ∈ AW := mA3 203 rfl rfl
theorem fl_X9_94 : Cond.fieldLink RX9 94 "OathPermitModel" "there" "I" ∈ AW := mA3 204 rfl rfl
theorem fl_X9_81 : Cond.fieldLink RX9 81 "OathPermitModel" "limit" "I" ∈ AW := mA3 205 rfl rfl
theorem fl_X9_85 : Cond.fieldLink RX9 85 "OathPermitModel" "ears" "I" ∈ AW := mA3 206 rfl rfl
theorem fl_X9_7 : Cond.fieldLink RX9 7 "OathPermitModel" "temper" "[I" ∈ AW := mA3 207 rfl rfl
theorem fl_X9_13 : Cond.fieldLink RX9 13 "OathPermitModel" "permits" "[I" ∈ AW := mA3 208 rfl rfl
theorem fl_X9_16 : Cond.fieldLink RX9 16 "OathPermitModel" "stamps" "[I" ∈ AW := mA3 209 rfl rfl
theorem fl_X9_19 : Cond.fieldLink RX9 19 "OathPermitModel" "purse" "[I" ∈ AW := mA3 210 rfl rfl
theorem fl_X9_22 : Cond.fieldLink RX9 22 "OathPermitModel" "yard" "[I" ∈ AW := mA3 211 rfl rfl
theorem fl_X9_25 : Cond.fieldLink RX9 25 "OathPermitModel" "cause" "[I" ∈ AW := mA3 212 rfl rfl
theorem fl_X9_28 : Cond.fieldLink RX9 28 "OathPermitModel" "sightOne" "[I" ∈ AW := mA3 213 rfl rfl
theorem fl_X9_31 : Cond.fieldLink RX9 31 "OathPermitModel" "sightHeard" "[I" ∈ AW := mA3 214 rfl rfl
theorem fl_X9_312 : Cond.fieldLink RX9 312 "OathPermitModel" "sights" "I" ∈ AW := mA3 215 rfl rfl
theorem fl_X9_34 : Cond.fieldLink RX9 34 "OathPermitModel" "pad" "[I" ∈ AW := mA3 216 rfl rfl
theorem fl_X9_123 : Cond.fieldLink RX9 123 "OathPermitModel" "padMany" "I" ∈ AW := mA3 217 rfl rfl
theorem fl_X9_37 : Cond.fieldLink RX9 37 "OathPermitModel" "act" "[I" ∈ AW := mA3 218 rfl rfl
theorem fl_X9_40 : Cond.fieldLink RX9 40 "OathPermitModel" "who" "[I" ∈ AW := mA3 219 rfl rfl
theorem fl_X9_43 : Cond.fieldLink RX9 43 "OathPermitModel" "other" "[I" ∈ AW := mA3 220 rfl rfl
theorem fl_X9_46 : Cond.fieldLink RX9 46 "OathPermitModel" "much" "[I" ∈ AW := mA3 221 rfl rfl
theorem fl_X9_130 : Cond.fieldLink RX9 130 "OathPermitModel" "acts" "I" ∈ AW := mA3 222 rfl rfl
theorem fl_X9_172 : Cond.fieldLink RX9 172 "OathPermitModel" "slipMany" "I" ∈ AW := mA3 223 rfl rfl
theorem fl_X9_178 : Cond.fieldLink RX9 178 "OathPermitModel" "firstSlip" "I" ∈ AW := mA3 224 rfl rfl
theorem fl_X9_181 : Cond.fieldLink RX9 181 "OathPermitModel" "firstWho" "I" ∈ AW := mA3 225 rfl rfl
theorem fl_X9_184 : Cond.fieldLink RX9 184 "OathPermitModel" "firstHeard" "I" ∈ AW := mA3 226 rfl rfl
theorem fl_X9_169 : Cond.fieldLink RX9 169 "OathPermitModel" "paid" "I" ∈ AW := mA3 227 rfl rfl
theorem fl_X9_175 : Cond.fieldLink RX9 175 "OathPermitModel" "actNow" "I" ∈ AW := mA3 228 rfl rfl
theorem fl_X9_49 : Cond.fieldLink RX9 49 "OathPermitModel" "had" "[I" ∈ AW := mA3 229 rfl rfl
theorem fl_X9_52 : Cond.fieldLink RX9 52 "OathPermitModel" "leaves" "[I" ∈ AW := mA3 230 rfl rfl
theorem fl_X9_201 : Cond.fieldLink RX9 201 "OathPermitModel" "badAct" "I" ∈ AW := mA3 231 rfl rfl
theorem fl_X9_204 : Cond.fieldLink RX9 204 "OathPermitModel" "badWhy" "I" ∈ AW := mA3 232 rfl rfl
theorem fl_X9_55 : Cond.fieldLink RX9 55 "OathPermitModel" "weight" "[I" ∈ AW := mA3 233 rfl rfl
theorem fl_X9_58 : Cond.fieldLink RX9 58 "OathPermitModel" "costs" "[I" ∈ AW := mA3 234 rfl rfl
theorem fl_X9_61 : Cond.fieldLink RX9 61 "OathPermitModel" "slipsFrom" "[I" ∈ AW := mA3 235 rfl rfl
theorem fl_X9_64 : Cond.fieldLink RX9 64 "OathPermitModel" "waysOn" "[I" ∈ AW := mA3 236 rfl rfl
theorem fl_X9_282 : Cond.fieldLink RX9 282 "OathPermitModel" "coverDigits" "I" ∈ AW := mA3 237 rfl rfl
theorem fl_X9_67 : Cond.fieldLink RX9 67 "OathPermitModel" "parts" "[J" ∈ AW := mA3 238 rfl rfl
theorem fl_X9_71 : Cond.fieldLink RX9 71 "OathPermitModel" "partsThen" "[J" ∈ AW := mA3 239 rfl rfl
theorem fl_X9_291 : Cond.fieldLink RX9 291 "OathPermitModel" "meanParts" "J" ∈ AW := mA4 0 rfl rfl
theorem fl_X9_74 : Cond.fieldLink RX9 74 "OathPermitModel" "kept" "[I" ∈ AW := mA4 1 rfl rfl
theorem fl_X9_77 : Cond.fieldLink RX9 77 "OathPermitModel" "isKept" "[Z" ∈ AW := mA4 2 rfl rfl
theorem fl_X9_341 : Cond.fieldLink RX9 341 "OathPermitModel" "keptAt" "I" ∈ AW := mA4 3 rfl rfl
theorem fl_X9_337 : Cond.fieldLink RX9 337 "OathPermitModel" "isWriting" "Z" ∈ AW := mA4 4 rfl rfl
theorem ac_boolean : Cond.arrayClass .boolean ∈ AW := mA4 88 rfl rfl
theorem ml_L_17 : Cond.methodLink RL 17 yX9_one ∈ AW := mA4 89 rfl rfl
theorem k_X9_88 : Cond.constantLong RX9 88 (5) ∈ AW := mA4 93 rfl rfl
theorem ml_X9_90 : Cond.methodLink RX9 90 yX9_in ∈ AW := mA4 94 rfl rfl
theorem k_X9_97 : Cond.constantLong RX9 97 (99) ∈ AW := mA4 97 rfl rfl
theorem k_X9_99 : Cond.constantLong RX9 99 (999) ∈ AW := mA4 98 rfl rfl
theorem k_X9_101 : Cond.constantLong RX9 101 (9) ∈ AW := mA4 99 rfl rfl
theorem ml_X9_103 : Cond.methodLink RX9 103 yX9_ones ∈ AW := mA4 100 rfl rfl
theorem ml_L_22 : Cond.methodLink RL 22 yX9_leave ∈ AW := mA4 103 rfl rfl
theorem ml_X9_107 : Cond.methodLink RX9 107 yX9_isOne ∈ AW := mA4 107 rfl rfl
theorem ml_L_27 : Cond.methodLink RL 27 yX9_permit ∈ AW := mA4 111 rfl rfl
theorem k_X9_111 : Cond.constantLong RX9 111 (15) ∈ AW := mA4 115 rfl rfl
theorem ml_L_31 : Cond.methodLink RL 31 yX9_set ∈ AW := mA4 116 rfl rfl
theorem k_X9_113 : Cond.constantLong RX9 113 (20) ∈ AW := mA4 120 rfl rfl
theorem ml_X9_115 : Cond.methodLink RX9 115 yX9_highest ∈ AW := mA4 121 rfl rfl
theorem ml_L_35 : Cond.methodLink RL 35 yX9_say ∈ AW := mA4 125 rfl rfl
theorem k_X9_119 : Cond.constantLong RX9 119 (33) ∈ AW := mA4 129 rfl rfl
theorem k_X9_121 : Cond.constantLong RX9 121 (126) ∈ AW := mA4 130 rfl rfl
theorem ml_L_40 : Cond.methodLink RL 40 yX9_wipe ∈ AW := mA4 131 rfl rfl
theorem ml_L_44 : Cond.methodLink RL 44 yX9_fault ∈ AW := mA4 135 rfl rfl
theorem ml_X9_151 : Cond.methodLink RX9 151 yX9_readOn ∈ AW := mA4 139 rfl rfl
theorem ml_X9_139 : Cond.methodLink RX9 139 yX9_begin ∈ AW := mA4 143 rfl rfl
theorem ml_X9_133 : Cond.methodLink RX9 133 yX9_isLetter ∈ AW := mA4 147 rfl rfl
theorem k_X9_126 : Cond.constantLong RX9 126 (65) ∈ AW := mA4 150 rfl rfl
theorem k_X9_128 : Cond.constantLong RX9 128 (70) ∈ AW := mA4 151 rfl rfl
theorem ml_X9_136 : Cond.methodLink RX9 136 yX9_close ∈ AW := mA4 152 rfl rfl
theorem ml_X9_142 : Cond.methodLink RX9 142 yX9_deed ∈ AW := mA4 156 rfl rfl
theorem k_X9_145 : Cond.constantLong RX9 145 (48) ∈ AW := mA4 160 rfl rfl
theorem k_X9_147 : Cond.constantLong RX9 147 (49) ∈ AW := mA4 161 rfl rfl
theorem k_X9_149 : Cond.constantLong RX9 149 (57) ∈ AW := mA4 162 rfl rfl
theorem ml_L_48 : Cond.methodLink RL 48 yX9_judge ∈ AW := mA4 163 rfl rfl
theorem k_X9_228 : Cond.constantLong RX9 228 (2) ∈ AW := mA4 167 rfl rfl
theorem ml_X9_230 : Cond.methodLink RX9 230 yX9_refusal ∈ AW := mA4 168 rfl rfl
theorem ml_X9_215 : Cond.methodLink RX9 215 yX9_fault ∈ AW := mA4 172 rfl rfl
theorem ml_X9_218 : Cond.methodLink RX9 218 yX9_store ∈ AW := mA4 173 rfl rfl
theorem ml_X9_222 : Cond.methodLink RX9 222 yX9_goHours ∈ AW := mA4 177 rfl rfl
theorem ml_X9_198 : Cond.methodLink RX9 198 yX9_beginCount ∈ AW := mA4 181 rfl rfl
theorem ml_X9_207 : Cond.methodLink RX9 207 yX9_whyNot ∈ AW := mA4 185 rfl rfl
theorem ml_X9_155 : Cond.methodLink RX9 155 yX9_whyNotSwear ∈ AW := mA4 189 rfl rfl
theorem ml_X9_158 : Cond.methodLink RX9 158 yX9_whyNotSell ∈ AW := mA4 193 rfl rfl
theorem ml_X9_211 : Cond.methodLink RX9 211 yX9_happen ∈ AW := mA4 197 rfl rfl
theorem ml_X9_191 : Cond.methodLink RX9 191 yX9_befall ∈ AW := mA4 201 rfl rfl
theorem ml_X9_187 : Cond.methodLink RX9 187 yX9_slip ∈ AW := mA4 205 rfl rfl
theorem ml_X9_166 : Cond.methodLink RX9 166 yX9_heardBy ∈ AW := mA4 209 rfl rfl
theorem ml_X9_162 : Cond.methodLink RX9 162 yX9_isNear ∈ AW := mA4 213 rfl rfl
theorem ml_X9_195 : Cond.methodLink RX9 195 yX9_endHour ∈ AW := mA4 217 rfl rfl
theorem ml_X9_225 : Cond.methodLink RX9 225 yX9_lay ∈ AW := mA4 221 rfl rfl
theorem ml_L_52 : Cond.methodLink RL 52 yX9_behind ∈ AW := mA4 225 rfl rfl
theorem k_X9_233 : Cond.constantLong RX9 233 (4) ∈ AW := mA4 229 rfl rfl
theorem ml_L_56 : Cond.methodLink RL 56 yX9_slipped ∈ AW := mA4 230 rfl rfl
theorem k_X9_235 : Cond.constantLong RX9 235 (3) ∈ AW := mA4 234 rfl rfl
theorem ml_L_60 : Cond.methodLink RL 60 yX9_done ∈ AW := mA4 235 rfl rfl
theorem ml_L_64 : Cond.methodLink RL 64 yX9_hears ∈ AW := mA4 239 rfl rfl
theorem ml_L_69 : Cond.methodLink RL 69 yX9_spend ∈ AW := mA5 3 rfl rfl
theorem k_X9_253 : Cond.constantLong RX9 253 (999999) ∈ AW := mA5 7 rfl rfl
theorem ml_X9_255 : Cond.methodLink RX9 255 yX9_findCosts ∈ AW := mA5 8 rfl rfl
theorem ml_X9_247 : Cond.methodLink RX9 247 yX9_layWeights ∈ AW := mA5 12 rfl rfl
theorem ml_X9_241 : Cond.methodLink RX9 241 yX9_at ∈ AW := mA5 16 rfl rfl
theorem ml_X9_250 : Cond.methodLink RX9 250 yX9_leastCost ∈ AW := mA5 19 rfl rfl
theorem k_X9_240 : Cond.constant RX9 240 (100000) ∈ AW := mA5 23 rfl rfl
theorem ml_X9_244 : Cond.methodLink RX9 244 yX9_costBy ∈ AW := mA5 24 rfl rfl
theorem ml_X9_237 : Cond.methodLink RX9 237 yX9_slipsIn ∈ AW := mA5 28 rfl rfl
theorem ml_X9_258 : Cond.methodLink RX9 258 yX9_strengths ∈ AW := mA5 32 rfl rfl
theorem ml_L_74 : Cond.methodLink RL 74 yX9_deal ∈ AW := mA5 36 rfl rfl
theorem ml_X9_267 : Cond.methodLink RX9 267 yX9_findDeals ∈ AW := mA5 40 rfl rfl
theorem ml_X9_264 : Cond.methodLink RX9 264 yX9_fewestSlips ∈ AW := mA5 44 rfl rfl
theorem ml_X9_261 : Cond.methodLink RX9 261 yX9_slipsBy ∈ AW := mA5 48 rfl rfl
theorem ml_L_78 : Cond.methodLink RL 78 yX9_seats ∈ AW := mA5 52 rfl rfl
theorem k_X9_274 : Cond.constantLong RX9 274 (40) ∈ AW := mA5 56 rfl rfl
theorem ml_X9_276 : Cond.methodLink RX9 276 yX9_waysFrom ∈ AW := mA5 57 rfl rfl
theorem ml_X9_270 : Cond.methodLink RX9 270 yX9_maySit ∈ AW := mA5 61 rfl rfl
theorem ml_X9_279 : Cond.methodLink RX9 279 yX9_firstSeats ∈ AW := mA5 65 rfl rfl
theorem ml_L_82 : Cond.methodLink RL 82 yX9_cover ∈ AW := mA5 69 rfl rfl
theorem k_X9_285 : Cond.constantLong RX9 285 (6) ∈ AW := mA5 73 rfl rfl
theorem ml_X9_287 : Cond.methodLink RX9 287 yX9_covered ∈ AW := mA5 74 rfl rfl
theorem ml_L_87 : Cond.methodLink RL 87 yX9_risk ∈ AW := mA5 78 rfl rfl
theorem k_X9_300 : Cond.constantLong RX9 300 (8) ∈ AW := mA5 82 rfl rfl
theorem k_X9_295 : Cond.constantLong RX9 295 (10) ∈ AW := mA5 83 rfl rfl
theorem k_X9_302 : Cond.constantLong RX9 302 (-1000000000000000002) ∈ AW := mA5 84 rfl rfl
theorem ml_X9_304 : Cond.methodLink RX9 304 yX9_riskHour ∈ AW := mA5 85 rfl rfl
theorem ml_X9_297 : Cond.methodLink RX9 297 yX9_behindHour ∈ AW := mA5 89 rfl rfl
theorem ml_X9_308 : Cond.methodLink RX9 308 yX9_lowest ∈ AW := mA5 92 rfl rfl
theorem ml_L_92 : Cond.methodLink RL 92 yX9_seen ∈ AW := mA5 95 rfl rfl
theorem ml_L_96 : Cond.methodLink RL 96 yX9_forget ∈ AW := mA5 99 rfl rfl
theorem ml_L_100 : Cond.methodLink RL 100 yX9_who ∈ AW := mA5 103 rfl rfl
theorem ml_X9_318 : Cond.methodLink RX9 318 yX9_fits ∈ AW := mA5 107 rfl rfl
theorem ml_X9_315 : Cond.methodLink RX9 315 yX9_wouldHear ∈ AW := mA5 111 rfl rfl
theorem ml_L_104 : Cond.methodLink RL 104 yX9_ask ∈ AW := mA5 115 rfl rfl
theorem ml_X9_321 : Cond.methodLink RX9 321 yX9_who ∈ AW := mA5 119 rfl rfl
theorem ml_X9_323 : Cond.methodLink RX9 323 yX9_mostLeft ∈ AW := mA5 120 rfl rfl
theorem ml_L_108 : Cond.methodLink RL 108 yX9_quarrel ∈ AW := mA5 124 rfl rfl
theorem ml_L_112 : Cond.methodLink RL 112 yX9_year ∈ AW := mA5 128 rfl rfl
theorem k_X9_326 : Cond.constantLong RX9 326 (9999) ∈ AW := mA5 132 rfl rfl
theorem k_X9_328 : Cond.constantLong RX9 328 (75) ∈ AW := mA5 133 rfl rfl
theorem k_X9_330 : Cond.constantLong RX9 330 (74) ∈ AW := mA5 134 rfl rfl
theorem k_X9_332 : Cond.constantLong RX9 332 (65537) ∈ AW := mA5 135 rfl rfl
theorem ml_X9_334 : Cond.methodLink RX9 334 yX9_actBy ∈ AW := mA5 136 rfl rfl
theorem ml_L_116 : Cond.methodLink RL 116 yX9_image ∈ AW := mA5 139 rfl rfl
theorem ml_X9_347 : Cond.methodLink RX9 347 yX9_passAll ∈ AW := mA5 143 rfl rfl
theorem ml_X9_344 : Cond.methodLink RX9 344 yX9_pass ∈ AW := mA5 147 rfl rfl
theorem ml_L_120 : Cond.methodLink RL 120 yX9_restore ∈ AW := mA5 151 rfl rfl
theorem ml_L_124 : Cond.methodLink RL 124 yX9_told ∈ AW := mA5 155 rfl rfl
theorem k_X9_350 : Cond.constantLong RX9 350 (69) ∈ AW := mA5 159 rfl rfl
theorem ml_X9_352 : Cond.methodLink RX9 352 yX9_toldOf ∈ AW := mA5 160 rfl rfl
theorem mem_places {ws : List Cond} {is : List Nat} (h : is.map (fun i => lw_tbl[i]?) = ws.map some) : ∀ w ∈ ws, w ∈ lw_tbl := by
  intro w hw
  obtain ⟨k, hk⟩ := List.getElem?_of_mem hw
  have h1 : (is.map (fun i => lw_tbl[i]?))[k]? = some (some w) := by rw [h, List.getElem?_map, hk]; rfl
  rw [List.getElem?_map] at h1
  cases hi : is[k]? with
  | none => rw [hi] at h1; cases h1
  | some i => rw [hi] at h1; exact List.mem_of_getElem? (Option.some.inj h1)
theorem all_mem {ws : List Cond} {is : List Nat} (h : is.map (fun i => lw_tbl[i]?) = ws.map some) (hg : ws.all goodWord = true) : ∀ w ∈ ws, w ∈ AW := by
  intro w hw
  obtain ⟨k, hk⟩ := List.getElem?_of_mem hw
  have h1 : (is.map (fun i => lw_tbl[i]?))[k]? = some (some w) := by rw [h, List.getElem?_map, hk]; rfl
  rw [List.getElem?_map] at h1
  cases hi : is[k]? with
  | none => rw [hi] at h1; cases h1
  | some i => rw [hi] at h1; exact mAW i (Option.some.inj h1) (List.all_eq_true.mp hg w hw)
theorem mn_X3_19 : Cond.methodLinkNest RX3 19 yX8_within "OathPermit" ∈ NWL := List.mem_of_getElem? (i := 0) rfl
theorem mn_X5_28 : Cond.methodLinkNest RX5 28 yX8_digitOf "OathPermit" ∈ NWL := List.mem_of_getElem? (i := 1) rfl
theorem mn_X5_58 : Cond.methodLinkNest RX5 58 yX8_within "OathPermit" ∈ NWL := List.mem_of_getElem? (i := 2) rfl
theorem mn_X1_49 : Cond.methodLinkNest RX1 49 yX8_within "OathPermit" ∈ NWL := List.mem_of_getElem? (i := 3) rfl
theorem mn_X4_47 : Cond.methodLinkNest RX4 47 yX8_within "OathPermit" ∈ NWL := List.mem_of_getElem? (i := 4) rfl
theorem mn_X0_50 : Cond.methodLinkNest RX0 50 yX8_within "OathPermit" ∈ NWL := List.mem_of_getElem? (i := 5) rfl
theorem mn_X0_47 : Cond.methodLinkNest RX0 47 yX8_digitOf "OathPermit" ∈ NWL := List.mem_of_getElem? (i := 6) rfl
theorem mn_X6_69 : Cond.methodLinkNest RX6 69 yX8_within "OathPermit" ∈ NWL := List.mem_of_getElem? (i := 7) rfl
theorem NWL_tbl : ∀ w ∈ NWL, w ∈ lw_tbl := mem_places (is := [381, 507, 538, 570, 606, 632, 637, 683]) (by decide +kernel)
theorem la_X0 : ∀ w ∈ u_ws RX0 TX0 4, w ∈ AW := all_mem (is := [244, 246, 248, 250]) (by decide +kernel) (by decide +kernel)
theorem la_X1 : ∀ w ∈ u_ws RX1 TX1 3, w ∈ AW := all_mem (is := [208, 210, 212]) (by decide +kernel) (by decide +kernel)
theorem la_X2 : ∀ w ∈ u_ws RX2 TX2 5, w ∈ AW := all_mem (is := [266, 268, 270, 272, 274]) (by decide +kernel) (by decide +kernel)
theorem la_X3 : ∀ w ∈ u_ws RX3 TX3 2, w ∈ AW := all_mem (is := [136, 138]) (by decide +kernel) (by decide +kernel)
theorem la_X4 : ∀ w ∈ u_ws RX4 TX4 4, w ∈ AW := all_mem (is := [225, 227, 229, 231]) (by decide +kernel) (by decide +kernel)
theorem la_X5 : ∀ w ∈ u_ws RX5 TX5 3, w ∈ AW := all_mem (is := [192, 194, 196]) (by decide +kernel) (by decide +kernel)
theorem la_X6 : ∀ w ∈ u_ws RX6 TX6 7, w ∈ AW := all_mem (is := [111, 113, 115, 117, 119, 121, 123]) (by decide +kernel) (by decide +kernel)
theorem la_X7 : ∀ w ∈ u_ws RX7 TX7 8, w ∈ AW := all_mem (is := [165, 167, 169, 171, 173, 175, 177, 179]) (by decide +kernel) (by decide +kernel)
theorem la_X8 : ∀ w ∈ u_ws RX8 TX8 9, w ∈ AW := all_mem (is := [287, 289, 291, 293, 295, 297, 299, 301, 303]) (by decide +kernel) (by decide +kernel)
theorem la_X9 : ∀ w ∈ u_ws RX9 TX9 41, w ∈ AW := all_mem (is := [793, 795, 797, 799, 801, 803, 805, 807, 809, 811, 813, 815, 817, 819, 821, 823, 825, 827, 829, 831, 833, 835, 837, 839, 841, 843, 845, 847, 849, 851, 853, 855, 857, 859, 861, 863, 865, 867, 869, 871, 873]) (by decide +kernel) (by decide +kernel)
theorem co_X0_init : Cond.code yX0_init cX0_init 1 none ∈ AW := mA1 170 rfl rfl
theorem im_X0_init : Cond.instanceMethod yX0_init ∈ AW := mA1 169 rfl rfl
theorem mv_X0_reckon : VF yX0_reckon cX0_reckon 7 none 3 := ⟨mA3 75 rfl rfl, mA3 73 rfl rfl, mA3 74 rfl rfl, mA1 8 rfl rfl, ⟨by decide +kernel, by decide +kernel, by decide +kernel⟩⟩
theorem mv_X0_best : VF yX0_best cX0_best 5 (some .int) 3 := ⟨mA3 79 rfl rfl, mA3 78 rfl rfl, mA0 22 rfl rfl, mA1 8 rfl rfl, ⟨by decide +kernel, by decide +kernel, by decide +kernel⟩⟩
theorem mv_X0_byFirst : VF yX0_byFirst cX0_byFirst 4 (some .int) 3 := ⟨mA3 88 rfl rfl, mA3 87 rfl rfl, mA0 23 rfl rfl, mA1 8 rfl rfl, ⟨by decide +kernel, by decide +kernel, by decide +kernel⟩⟩
theorem mv_X0_bySecond : VF yX0_bySecond cX0_bySecond 4 (some .int) 3 := ⟨mA3 94 rfl rfl, mA3 93 rfl rfl, mA0 24 rfl rfl, mA1 8 rfl rfl, ⟨by decide +kernel, by decide +kernel, by decide +kernel⟩⟩
theorem mv_X0_mostFrom : VF yX0_mostFrom cX0_mostFrom 4 (some .int) 3 := ⟨mA3 83 rfl rfl, mA3 81 rfl rfl, mA3 82 rfl rfl, mA1 8 rfl rfl, ⟨by decide +kernel, by decide +kernel, by decide +kernel⟩⟩
theorem mv_X0_holders : VF yX0_holders cX0_holders 9 (some .int) 2 := ⟨mA3 99 rfl rfl, mA3 97 rfl rfl, mA3 98 rfl rfl, mA1 8 rfl rfl, ⟨by decide +kernel, by decide +kernel, by decide +kernel⟩⟩
theorem co_X1_init : Cond.code yX1_init cX1_init 1 none ∈ AW := mA1 135 rfl rfl
theorem im_X1_init : Cond.instanceMethod yX1_init ∈ AW := mA1 134 rfl rfl
theorem mv_X1_reckon : VF yX1_reckon cX1_reckon 5 none 2 := ⟨mA3 7 rfl rfl, mA3 5 rfl rfl, mA3 6 rfl rfl, mA1 6 rfl rfl, ⟨by decide +kernel, by decide +kernel, by decide +kernel⟩⟩
theorem mv_X1_leastOver : VF yX1_leastOver cX1_leastOver 5 (some .int) 2 := ⟨mA3 13 rfl rfl, mA3 12 rfl rfl, mA0 15 rfl rfl, mA1 6 rfl rfl, ⟨by decide +kernel, by decide +kernel, by decide +kernel⟩⟩
theorem mv_X1_mostFor : VF yX1_mostFor cX1_mostFor 3 (some .int) 2 := ⟨mA3 17 rfl rfl, mA3 16 rfl rfl, mA0 16 rfl rfl, mA1 6 rfl rfl, ⟨by decide +kernel, by decide +kernel, by decide +kernel⟩⟩
theorem mv_X1_withPart : VF yX1_withPart cX1_withPart 6 (some .int) 3 := ⟨mA3 21 rfl rfl, mA3 20 rfl rfl, mA0 17 rfl rfl, mA1 6 rfl rfl, ⟨by decide +kernel, by decide +kernel, by decide +kernel⟩⟩
theorem mv_X1_fewestFrom : VF yX1_fewestFrom cX1_fewestFrom 4 (some .int) 2 := ⟨mA3 26 rfl rfl, mA3 24 rfl rfl, mA3 25 rfl rfl, mA1 6 rfl rfl, ⟨by decide +kernel, by decide +kernel, by decide +kernel⟩⟩
theorem mv_X1_partOf : VF yX1_partOf cX1_partOf 6 (some .int) 2 := ⟨mA3 32 rfl rfl, mA3 30 rfl rfl, mA3 31 rfl rfl, mA1 6 rfl rfl, ⟨by decide +kernel, by decide +kernel, by decide +kernel⟩⟩
theorem co_X2_init : Cond.code yX2_init cX2_init 1 none ∈ AW := mA1 189 rfl rfl
theorem im_X2_init : Cond.instanceMethod yX2_init ∈ AW := mA1 188 rfl rfl
theorem mv_X2_begin : VF yX2_begin cX2_begin 4 none 2 := ⟨mA3 108 rfl rfl, mA3 106 rfl rfl, mA3 107 rfl rfl, mA1 9 rfl rfl, ⟨by decide +kernel, by decide +kernel, by decide +kernel⟩⟩
theorem mv_X2_passHour : VF yX2_passHour cX2_passHour 10 none 3 := ⟨mA3 113 rfl rfl, mA3 111 rfl rfl, mA3 112 rfl rfl, mA1 9 rfl rfl, ⟨by decide +kernel, by decide +kernel, by decide +kernel⟩⟩
theorem mv_X2_calm : VF yX2_calm cX2_calm 4 (some .long) 0 := ⟨mA3 120 rfl rfl, mA3 118 rfl rfl, mA3 119 rfl rfl, mA1 9 rfl rfl, ⟨by decide +kernel, by decide +kernel, by decide +kernel⟩⟩
theorem co_X3_init : Cond.code yX3_init cX3_init 1 none ∈ AW := mA1 63 rfl rfl
theorem im_X3_init : Cond.instanceMethod yX3_init ∈ AW := mA1 62 rfl rfl
theorem mv_X3_add : VF yX3_add cX3_add 2 none 1 := ⟨mA2 72 rfl rfl, mA2 70 rfl rfl, mA2 71 rfl rfl, mA1 3 rfl rfl, ⟨by decide +kernel, by decide +kernel, by decide +kernel⟩⟩
theorem mv_X3_at : VF yX3_at cX3_at 2 (some .int) 1 := ⟨mA2 93 rfl rfl, mA2 91 rfl rfl, mA2 92 rfl rfl, mA1 3 rfl rfl, ⟨by decide +kernel, by decide +kernel, by decide +kernel⟩⟩
theorem mv_X3_firstFault : VF yX3_firstFault cX3_firstFault 3 (some .int) 0 := ⟨mA2 85 rfl rfl, mA2 83 rfl rfl, mA2 84 rfl rfl, mA1 3 rfl rfl, ⟨by decide +kernel, by decide +kernel, by decide +kernel⟩⟩
theorem mv_X3_lengthAt : VF yX3_lengthAt cX3_lengthAt 2 (some .int) 1 := ⟨mA2 103 rfl rfl, mA2 101 rfl rfl, mA2 102 rfl rfl, mA1 3 rfl rfl, ⟨by decide +kernel, by decide +kernel, by decide +kernel⟩⟩
theorem mv_X3_canStand : VF yX3_canStand cX3_canStand 4 (some .boolean) 2 := ⟨mA2 89 rfl rfl, mA2 88 rfl rfl, mA0 2 rfl rfl, mA1 3 rfl rfl, ⟨by decide +kernel, by decide +kernel, by decide +kernel⟩⟩
theorem mv_X3_oneOf : SF yX3_oneOf cX3_oneOf 1 (some .int) 1 := ⟨mA2 96 rfl rfl, mA2 95 rfl rfl, mA1 3 rfl rfl, ⟨by decide +kernel, by decide +kernel, by decide +kernel⟩⟩
theorem mv_X3_causeOf : SF yX3_causeOf cX3_causeOf 1 (some .int) 1 := ⟨mA2 99 rfl rfl, mA2 98 rfl rfl, mA1 3 rfl rfl, ⟨by decide +kernel, by decide +kernel, by decide +kernel⟩⟩
theorem co_X4_init : Cond.code yX4_init cX4_init 1 none ∈ AW := mA1 151 rfl rfl
theorem im_X4_init : Cond.instanceMethod yX4_init ∈ AW := mA1 150 rfl rfl
theorem mv_X4_reckon : VF yX4_reckon cX4_reckon 6 none 2 := ⟨mA3 40 rfl rfl, mA3 38 rfl rfl, mA3 39 rfl rfl, mA1 7 rfl rfl, ⟨by decide +kernel, by decide +kernel, by decide +kernel⟩⟩
theorem mv_X4_waysOn : VF yX4_waysOn cX4_waysOn 5 (some .int) 2 := ⟨mA3 45 rfl rfl, mA3 44 rfl rfl, mA0 18 rfl rfl, mA1 7 rfl rfl, ⟨by decide +kernel, by decide +kernel, by decide +kernel⟩⟩
theorem mv_X4_waysBy : VF yX4_waysBy cX4_waysBy 5 (some .int) 3 := ⟨mA3 49 rfl rfl, mA3 48 rfl rfl, mA0 19 rfl rfl, mA1 7 rfl rfl, ⟨by decide +kernel, by decide +kernel, by decide +kernel⟩⟩
theorem mv_X4_ways : VF yX4_ways cX4_ways 3 (some .int) 2 := ⟨mA3 57 rfl rfl, mA3 56 rfl rfl, mA0 21 rfl rfl, mA1 7 rfl rfl, ⟨by decide +kernel, by decide +kernel, by decide +kernel⟩⟩
theorem mv_X4_canFollow : VF yX4_canFollow cX4_canFollow 3 (some .boolean) 2 := ⟨mA3 53 rfl rfl, mA3 52 rfl rfl, mA0 20 rfl rfl, mA1 7 rfl rfl, ⟨by decide +kernel, by decide +kernel, by decide +kernel⟩⟩
theorem mv_X4_rows : VF yX4_rows cX4_rows 1 (some .int) 0 := ⟨mA3 62 rfl rfl, mA3 60 rfl rfl, mA3 61 rfl rfl, mA1 7 rfl rfl, ⟨by decide +kernel, by decide +kernel, by decide +kernel⟩⟩
theorem mv_X4_firstRow : VF yX4_firstRow cX4_firstRow 6 (some .int) 0 := ⟨mA3 66 rfl rfl, mA3 64 rfl rfl, mA3 65 rfl rfl, mA1 7 rfl rfl, ⟨by decide +kernel, by decide +kernel, by decide +kernel⟩⟩
theorem co_X5_init : Cond.code yX5_init cX5_init 1 none ∈ AW := mA1 119 rfl rfl
theorem im_X5_init : Cond.instanceMethod yX5_init ∈ AW := mA1 118 rfl rfl
theorem mv_X5_reckon : VF yX5_reckon cX5_reckon 5 none 2 := ⟨mA2 197 rfl rfl, mA2 195 rfl rfl, mA2 196 rfl rfl, mA1 5 rfl rfl, ⟨by decide +kernel, by decide +kernel, by decide +kernel⟩⟩
theorem mv_X5_reckonFrom : VF yX5_reckonFrom cX5_reckonFrom 6 none 2 := ⟨mA2 205 rfl rfl, mA2 204 rfl rfl, mA0 10 rfl rfl, mA1 5 rfl rfl, ⟨by decide +kernel, by decide +kernel, by decide +kernel⟩⟩
theorem mv_X5_cheapest : VF yX5_cheapest cX5_cheapest 8 (some .int) 3 := ⟨mA2 221 rfl rfl, mA2 220 rfl rfl, mA0 14 rfl rfl, mA1 5 rfl rfl, ⟨by decide +kernel, by decide +kernel, by decide +kernel⟩⟩
theorem mv_X5_afterMishap : VF yX5_afterMishap cX5_afterMishap 3 (some .int) 2 := ⟨mA2 209 rfl rfl, mA2 208 rfl rfl, mA0 11 rfl rfl, mA1 5 rfl rfl, ⟨by decide +kernel, by decide +kernel, by decide +kernel⟩⟩
theorem mv_X5_slipsLeft : VF yX5_slipsLeft cX5_slipsLeft 4 (some .int) 3 := ⟨mA2 217 rfl rfl, mA2 216 rfl rfl, mA0 13 rfl rfl, mA1 5 rfl rfl, ⟨by decide +kernel, by decide +kernel, by decide +kernel⟩⟩
theorem mv_X5_slips : VF yX5_slips cX5_slips 3 (some .boolean) 2 := ⟨mA2 213 rfl rfl, mA2 212 rfl rfl, mA0 12 rfl rfl, mA1 5 rfl rfl, ⟨by decide +kernel, by decide +kernel, by decide +kernel⟩⟩
theorem mv_X5_afterHour : SF yX5_afterHour cX5_afterHour 2 (some .int) 2 := ⟨mA2 224 rfl rfl, mA2 223 rfl rfl, mA1 5 rfl rfl, ⟨by decide +kernel, by decide +kernel, by decide +kernel⟩⟩
theorem mv_X5_fewestStamps : VF yX5_fewestStamps cX5_fewestStamps 4 (some .int) 3 := ⟨mA2 229 rfl rfl, mA2 227 rfl rfl, mA2 228 rfl rfl, mA1 5 rfl rfl, ⟨by decide +kernel, by decide +kernel, by decide +kernel⟩⟩
theorem mv_X5_fewestSlips : VF yX5_fewestSlips cX5_fewestSlips 4 (some .int) 2 := ⟨mA2 234 rfl rfl, mA2 232 rfl rfl, mA2 233 rfl rfl, mA1 5 rfl rfl, ⟨by decide +kernel, by decide +kernel, by decide +kernel⟩⟩
theorem mv_X5_strengths : VF yX5_strengths cX5_strengths 10 (some .int) 2 := ⟨mA2 239 rfl rfl, mA2 237 rfl rfl, mA2 238 rfl rfl, mA1 5 rfl rfl, ⟨by decide +kernel, by decide +kernel, by decide +kernel⟩⟩
theorem co_X6_init : Cond.code yX6_init cX6_init 1 none ∈ AW := mA1 26 rfl rfl
theorem im_X6_init : Cond.instanceMethod yX6_init ∈ AW := mA1 25 rfl rfl
theorem mv_X6_takeFrom : VF yX6_takeFrom cX6_takeFrom 2 none 1 := ⟨mA2 119 rfl rfl, mA2 117 rfl rfl, mA2 118 rfl rfl, mA1 2 rfl rfl, ⟨by decide +kernel, by decide +kernel, by decide +kernel⟩⟩
theorem mv_X6_has : VF yX6_has cX6_has 2 (some .boolean) 1 := ⟨mA2 30 rfl rfl, mA2 28 rfl rfl, mA2 29 rfl rfl, mA1 2 rfl rfl, ⟨by decide +kernel, by decide +kernel, by decide +kernel⟩⟩
theorem mv_X6_count : VF yX6_count cX6_count 1 (some .int) 0 := ⟨mA2 16 rfl rfl, mA2 14 rfl rfl, mA2 15 rfl rfl, mA1 2 rfl rfl, ⟨by decide +kernel, by decide +kernel, by decide +kernel⟩⟩
theorem mv_X6_get : VF yX6_get cX6_get 3 (some .int) 2 := ⟨mA2 42 rfl rfl, mA2 40 rfl rfl, mA2 41 rfl rfl, mA1 2 rfl rfl, ⟨by decide +kernel, by decide +kernel, by decide +kernel⟩⟩
theorem mv_X6_put : VF yX6_put cX6_put 4 none 3 := ⟨mA2 12 rfl rfl, mA2 10 rfl rfl, mA2 11 rfl rfl, mA1 2 rfl rfl, ⟨by decide +kernel, by decide +kernel, by decide +kernel⟩⟩
theorem mv_X6_settle : VF yX6_settle cX6_settle 6 none 5 := ⟨mA2 8 rfl rfl, mA2 6 rfl rfl, mA2 7 rfl rfl, mA1 2 rfl rfl, ⟨by decide +kernel, by decide +kernel, by decide +kernel⟩⟩
theorem mv_X6_remove : VF yX6_remove cX6_remove 2 none 1 := ⟨mA2 34 rfl rfl, mA2 32 rfl rfl, mA2 33 rfl rfl, mA1 2 rfl rfl, ⟨by decide +kernel, by decide +kernel, by decide +kernel⟩⟩
theorem mv_X6_highestTemper : VF yX6_highestTemper cX6_highestTemper 3 (some .int) 0 := ⟨mA2 55 rfl rfl, mA2 53 rfl rfl, mA2 54 rfl rfl, mA1 2 rfl rfl, ⟨by decide +kernel, by decide +kernel, by decide +kernel⟩⟩
theorem mv_X6_allTempers : VF yX6_allTempers cX6_allTempers 3 (some .int) 0 := ⟨mA3 181 rfl rfl, mA3 179 rfl rfl, mA3 180 rfl rfl, mA1 2 rfl rfl, ⟨by decide +kernel, by decide +kernel, by decide +kernel⟩⟩
theorem mv_X6_hearers : VF yX6_hearers cX6_hearers 5 (some .int) 1 := ⟨mA2 161 rfl rfl, mA2 159 rfl rfl, mA2 160 rfl rfl, mA1 2 rfl rfl, ⟨by decide +kernel, by decide +kernel, by decide +kernel⟩⟩
theorem mv_X6_saysHeard : VF yX6_saysHeard cX6_saysHeard 3 (some .boolean) 2 := ⟨mA3 155 rfl rfl, mA3 154 rfl rfl, mA0 26 rfl rfl, mA1 2 rfl rfl, ⟨by decide +kernel, by decide +kernel, by decide +kernel⟩⟩
theorem mv_X6_addSight : VF yX6_addSight cX6_addSight 4 none 2 := ⟨mA3 134 rfl rfl, mA3 132 rfl rfl, mA3 133 rfl rfl, mA1 2 rfl rfl, ⟨by decide +kernel, by decide +kernel, by decide +kernel⟩⟩
theorem mv_X6_suspects : VF yX6_suspects cX6_suspects 3 (some .int) 0 := ⟨mA3 147 rfl rfl, mA3 145 rfl rfl, mA3 146 rfl rfl, mA1 2 rfl rfl, ⟨by decide +kernel, by decide +kernel, by decide +kernel⟩⟩
theorem mv_X6_allSightsFit : VF yX6_allSightsFit cX6_allSightsFit 4 (some .boolean) 1 := ⟨mA3 151 rfl rfl, mA3 150 rfl rfl, mA0 25 rfl rfl, mA1 2 rfl rfl, ⟨by decide +kernel, by decide +kernel, by decide +kernel⟩⟩
theorem mv_X6_mostLeft : VF yX6_mostLeft cX6_mostLeft 5 (some .int) 2 := ⟨mA3 164 rfl rfl, mA3 162 rfl rfl, mA3 163 rfl rfl, mA1 2 rfl rfl, ⟨by decide +kernel, by decide +kernel, by decide +kernel⟩⟩
theorem co_X7_init : Cond.code yX7_init cX7_init 1 none ∈ AW := mA1 77 rfl rfl
theorem im_X7_init : Cond.instanceMethod yX7_init ∈ AW := mA1 76 rfl rfl
theorem mv_X7_begin : VF yX7_begin cX7_begin 2 none 1 := ⟨mA2 115 rfl rfl, mA2 113 rfl rfl, mA2 114 rfl rfl, mA1 4 rfl rfl, ⟨by decide +kernel, by decide +kernel, by decide +kernel⟩⟩
theorem mv_X7_attempt : VF yX7_attempt cX7_attempt 6 none 2 := ⟨mA2 126 rfl rfl, mA2 124 rfl rfl, mA2 125 rfl rfl, mA1 4 rfl rfl, ⟨by decide +kernel, by decide +kernel, by decide +kernel⟩⟩
theorem mv_X7_draw : VF yX7_draw cX7_draw 4 none 1 := ⟨mA3 177 rfl rfl, mA3 175 rfl rfl, mA3 176 rfl rfl, mA1 4 rfl rfl, ⟨by decide +kernel, by decide +kernel, by decide +kernel⟩⟩
theorem mv_X7_suffer : VF yX7_suffer cX7_suffer 5 (some .int) 3 := ⟨mA2 153 rfl rfl, mA2 152 rfl rfl, mA0 8 rfl rfl, mA1 4 rfl rfl, ⟨by decide +kernel, by decide +kernel, by decide +kernel⟩⟩
theorem mv_X7_slip : VF yX7_slip cX7_slip 5 none 1 := ⟨mA2 157 rfl rfl, mA2 156 rfl rfl, mA0 9 rfl rfl, mA1 4 rfl rfl, ⟨by decide +kernel, by decide +kernel, by decide +kernel⟩⟩
theorem mv_X7_swear : VF yX7_swear cX7_swear 6 (some .int) 2 := ⟨mA2 139 rfl rfl, mA2 138 rfl rfl, mA0 5 rfl rfl, mA1 4 rfl rfl, ⟨by decide +kernel, by decide +kernel, by decide +kernel⟩⟩
theorem mv_X7_sell : VF yX7_sell cX7_sell 8 (some .int) 3 := ⟨mA2 144 rfl rfl, mA2 143 rfl rfl, mA0 6 rfl rfl, mA1 4 rfl rfl, ⟨by decide +kernel, by decide +kernel, by decide +kernel⟩⟩
theorem mv_X7_walk : VF yX7_walk cX7_walk 3 (some .int) 2 := ⟨mA2 148 rfl rfl, mA2 147 rfl rfl, mA0 7 rfl rfl, mA1 4 rfl rfl, ⟨by decide +kernel, by decide +kernel, by decide +kernel⟩⟩
theorem mv_X7_endHour : VF yX7_endHour cX7_endHour 2 (some .int) 0 := ⟨mA2 132 rfl rfl, mA2 131 rfl rfl, mA0 4 rfl rfl, mA1 4 rfl rfl, ⟨by decide +kernel, by decide +kernel, by decide +kernel⟩⟩
theorem co_X8_init : Cond.code yX8_init cX8_init 1 none ∈ AW := mA1 18 rfl rfl
theorem im_X8_init : Cond.instanceMethod yX8_init ∈ AW := mA1 17 rfl rfl
theorem mv_X8_one : VF yX8_one cX8_one 6 (some .int) 5 := ⟨mA2 1 rfl rfl, mA1 239 rfl rfl, mA2 0 rfl rfl, mA1 1 rfl rfl, ⟨by decide +kernel, by decide +kernel, by decide +kernel⟩⟩
theorem mv_X8_leave : VF yX8_leave cX8_leave 2 (some .int) 1 := ⟨mA2 26 rfl rfl, mA2 24 rfl rfl, mA2 25 rfl rfl, mA1 1 rfl rfl, ⟨by decide +kernel, by decide +kernel, by decide +kernel⟩⟩
theorem mv_X8_permit : VF yX8_permit cX8_permit 4 (some .int) 2 := ⟨mA2 38 rfl rfl, mA2 36 rfl rfl, mA2 37 rfl rfl, mA1 1 rfl rfl, ⟨by decide +kernel, by decide +kernel, by decide +kernel⟩⟩
theorem mv_X8_set : VF yX8_set cX8_set 3 (some .int) 2 := ⟨mA2 47 rfl rfl, mA2 45 rfl rfl, mA2 46 rfl rfl, mA1 1 rfl rfl, ⟨by decide +kernel, by decide +kernel, by decide +kernel⟩⟩
theorem mv_X8_setLimit : VF yX8_setLimit cX8_setLimit 3 (some .int) 1 := ⟨mA2 51 rfl rfl, mA2 50 rfl rfl, mA0 0 rfl rfl, mA1 1 rfl rfl, ⟨by decide +kernel, by decide +kernel, by decide +kernel⟩⟩
theorem mv_X8_setEars : VF yX8_setEars cX8_setEars 3 (some .int) 1 := ⟨mA2 64 rfl rfl, mA2 63 rfl rfl, mA0 1 rfl rfl, mA1 1 rfl rfl, ⟨by decide +kernel, by decide +kernel, by decide +kernel⟩⟩
theorem mv_X8_say : VF yX8_say cX8_say 2 (some .int) 1 := ⟨mA2 68 rfl rfl, mA2 66 rfl rfl, mA2 67 rfl rfl, mA1 1 rfl rfl, ⟨by decide +kernel, by decide +kernel, by decide +kernel⟩⟩
theorem mv_X8_wipe : VF yX8_wipe cX8_wipe 2 (some .int) 0 := ⟨mA2 77 rfl rfl, mA2 75 rfl rfl, mA2 76 rfl rfl, mA1 1 rfl rfl, ⟨by decide +kernel, by decide +kernel, by decide +kernel⟩⟩
theorem mv_X8_fault : VF yX8_fault cX8_fault 1 (some .int) 0 := ⟨mA2 81 rfl rfl, mA2 79 rfl rfl, mA2 80 rfl rfl, mA1 1 rfl rfl, ⟨by decide +kernel, by decide +kernel, by decide +kernel⟩⟩
theorem mv_X8_judge : VF yX8_judge cX8_judge 3 (some .int) 1 := ⟨mA2 107 rfl rfl, mA2 105 rfl rfl, mA2 106 rfl rfl, mA1 1 rfl rfl, ⟨by decide +kernel, by decide +kernel, by decide +kernel⟩⟩
theorem mv_X8_behind : VF yX8_behind cX8_behind 4 (some .int) 2 := ⟨mA2 174 rfl rfl, mA2 172 rfl rfl, mA2 173 rfl rfl, mA1 1 rfl rfl, ⟨by decide +kernel, by decide +kernel, by decide +kernel⟩⟩
theorem mv_X8_slipped : VF yX8_slipped cX8_slipped 3 (some .int) 1 := ⟨mA2 178 rfl rfl, mA2 176 rfl rfl, mA2 177 rfl rfl, mA1 1 rfl rfl, ⟨by decide +kernel, by decide +kernel, by decide +kernel⟩⟩
theorem mv_X8_done : VF yX8_done cX8_done 2 (some .int) 0 := ⟨mA2 182 rfl rfl, mA2 180 rfl rfl, mA2 181 rfl rfl, mA1 1 rfl rfl, ⟨by decide +kernel, by decide +kernel, by decide +kernel⟩⟩
theorem mv_X8_hears : VF yX8_hears cX8_hears 2 (some .int) 1 := ⟨mA2 187 rfl rfl, mA2 185 rfl rfl, mA2 186 rfl rfl, mA1 1 rfl rfl, ⟨by decide +kernel, by decide +kernel, by decide +kernel⟩⟩
theorem mv_X8_playPad : VF yX8_playPad cX8_playPad 2 (some .int) 0 := ⟨mA2 111 rfl rfl, mA2 110 rfl rfl, mA0 3 rfl rfl, mA1 1 rfl rfl, ⟨by decide +kernel, by decide +kernel, by decide +kernel⟩⟩
theorem mv_X8_spend : VF yX8_spend cX8_spend 6 (some .int) 4 := ⟨mA2 192 rfl rfl, mA2 190 rfl rfl, mA2 191 rfl rfl, mA1 1 rfl rfl, ⟨by decide +kernel, by decide +kernel, by decide +kernel⟩⟩
theorem mv_X8_deal : VF yX8_deal cX8_deal 4 (some .int) 3 := ⟨mA3 3 rfl rfl, mA3 1 rfl rfl, mA3 2 rfl rfl, mA1 1 rfl rfl, ⟨by decide +kernel, by decide +kernel, by decide +kernel⟩⟩
theorem mv_X8_seats : VF yX8_seats cX8_seats 3 (some .int) 2 := ⟨mA3 36 rfl rfl, mA3 34 rfl rfl, mA3 35 rfl rfl, mA1 1 rfl rfl, ⟨by decide +kernel, by decide +kernel, by decide +kernel⟩⟩
theorem mv_X8_cover : VF yX8_cover cX8_cover 6 (some .int) 5 := ⟨mA3 71 rfl rfl, mA3 69 rfl rfl, mA3 70 rfl rfl, mA1 1 rfl rfl, ⟨by decide +kernel, by decide +kernel, by decide +kernel⟩⟩
theorem mv_X8_risk : VF yX8_risk cX8_risk 9 (some .long) 6 := ⟨mA3 103 rfl rfl, mA3 101 rfl rfl, mA3 102 rfl rfl, mA1 1 rfl rfl, ⟨by decide +kernel, by decide +kernel, by decide +kernel⟩⟩
theorem mv_X8_commonDivisor : SF yX8_commonDivisor cX8_commonDivisor 11 (some .long) 2 := ⟨mA3 123 rfl rfl, mA3 122 rfl rfl, mA1 1 rfl rfl, ⟨by decide +kernel, by decide +kernel, by decide +kernel⟩⟩
theorem mv_X8_seen : VF yX8_seen cX8_seen 3 (some .int) 2 := ⟨mA3 130 rfl rfl, mA3 128 rfl rfl, mA3 129 rfl rfl, mA1 1 rfl rfl, ⟨by decide +kernel, by decide +kernel, by decide +kernel⟩⟩
theorem mv_X8_forget : VF yX8_forget cX8_forget 2 (some .int) 0 := ⟨mA3 139 rfl rfl, mA3 137 rfl rfl, mA3 138 rfl rfl, mA1 1 rfl rfl, ⟨by decide +kernel, by decide +kernel, by decide +kernel⟩⟩
theorem mv_X8_who : VF yX8_who cX8_who 1 (some .int) 0 := ⟨mA3 143 rfl rfl, mA3 141 rfl rfl, mA3 142 rfl rfl, mA1 1 rfl rfl, ⟨by decide +kernel, by decide +kernel, by decide +kernel⟩⟩
theorem mv_X8_ask : VF yX8_ask cX8_ask 7 (some .int) 1 := ⟨mA3 160 rfl rfl, mA3 158 rfl rfl, mA3 159 rfl rfl, mA1 1 rfl rfl, ⟨by decide +kernel, by decide +kernel, by decide +kernel⟩⟩
theorem mv_X8_quarrel : VF yX8_quarrel cX8_quarrel 5 (some .int) 3 := ⟨mA3 168 rfl rfl, mA3 166 rfl rfl, mA3 167 rfl rfl, mA1 1 rfl rfl, ⟨by decide +kernel, by decide +kernel, by decide +kernel⟩⟩
theorem mv_X8_year : VF yX8_year cX8_year 6 (some .int) 3 := ⟨mA3 172 rfl rfl, mA3 170 rfl rfl, mA3 171 rfl rfl, mA1 1 rfl rfl, ⟨by decide +kernel, by decide +kernel, by decide +kernel⟩⟩
theorem mv_X8_image : VF yX8_image cX8_image 2 (some .int) 1 := ⟨mA3 185 rfl rfl, mA3 183 rfl rfl, mA3 184 rfl rfl, mA1 1 rfl rfl, ⟨by decide +kernel, by decide +kernel, by decide +kernel⟩⟩
theorem mv_X8_restore : VF yX8_restore cX8_restore 2 (some .int) 1 := ⟨mA3 189 rfl rfl, mA3 187 rfl rfl, mA3 188 rfl rfl, mA1 1 rfl rfl, ⟨by decide +kernel, by decide +kernel, by decide +kernel⟩⟩
theorem mv_X8_told : VF yX8_told cX8_told 2 (some .int) 1 := ⟨mA3 193 rfl rfl, mA3 191 rfl rfl, mA3 192 rfl rfl, mA1 1 rfl rfl, ⟨by decide +kernel, by decide +kernel, by decide +kernel⟩⟩
theorem mv_X8_toldOfOne : VF yX8_toldOfOne cX8_toldOfOne 4 (some .int) 1 := ⟨mA3 197 rfl rfl, mA3 196 rfl rfl, mA0 27 rfl rfl, mA1 1 rfl rfl, ⟨by decide +kernel, by decide +kernel, by decide +kernel⟩⟩
theorem mv_X8_within : SF yX8_within cX8_within 3 (some .boolean) 3 := ⟨mA2 4 rfl rfl, mA2 3 rfl rfl, mA1 1 rfl rfl, ⟨by decide +kernel, by decide +kernel, by decide +kernel⟩⟩
theorem mv_X8_digitOf : SF yX8_digitOf cX8_digitOf 4 (some .int) 2 := ⟨mA2 201 rfl rfl, mA2 200 rfl rfl, mA1 1 rfl rfl, ⟨by decide +kernel, by decide +kernel, by decide +kernel⟩⟩
theorem co_X9_init : Cond.code yX9_init cX9_init 1 none ∈ AW := mA3 202 rfl rfl
theorem im_X9_init : Cond.instanceMethod yX9_init ∈ AW := mA3 201 rfl rfl
theorem mv_X9_in : SF yX9_in cX9_in 6 (some .boolean) 3 := ⟨mA4 96 rfl rfl, mA4 95 rfl rfl, mA1 10 rfl rfl, ⟨by decide +kernel, by decide +kernel, by decide +kernel⟩⟩
theorem mv_X9_ones : SF yX9_ones cX9_ones 3 (some .int) 1 := ⟨mA4 102 rfl rfl, mA4 101 rfl rfl, mA1 10 rfl rfl, ⟨by decide +kernel, by decide +kernel, by decide +kernel⟩⟩
theorem mv_X9_isOne : VF yX9_isOne cX9_isOne 2 (some .boolean) 1 := ⟨mA4 110 rfl rfl, mA4 109 rfl rfl, mA0 28 rfl rfl, mA1 10 rfl rfl, ⟨by decide +kernel, by decide +kernel, by decide +kernel⟩⟩
theorem mv_X9_one : VF yX9_one cX9_one 6 (some .int) 5 := ⟨mA4 92 rfl rfl, mA4 90 rfl rfl, mA4 91 rfl rfl, mA1 10 rfl rfl, ⟨by decide +kernel, by decide +kernel, by decide +kernel⟩⟩
theorem mv_X9_leave : VF yX9_leave cX9_leave 2 (some .int) 1 := ⟨mA4 106 rfl rfl, mA4 104 rfl rfl, mA4 105 rfl rfl, mA1 10 rfl rfl, ⟨by decide +kernel, by decide +kernel, by decide +kernel⟩⟩
theorem mv_X9_permit : VF yX9_permit cX9_permit 4 (some .int) 2 := ⟨mA4 114 rfl rfl, mA4 112 rfl rfl, mA4 113 rfl rfl, mA1 10 rfl rfl, ⟨by decide +kernel, by decide +kernel, by decide +kernel⟩⟩
theorem mv_X9_highest : VF yX9_highest cX9_highest 3 (some .int) 0 := ⟨mA4 124 rfl rfl, mA4 123 rfl rfl, mA0 29 rfl rfl, mA1 10 rfl rfl, ⟨by decide +kernel, by decide +kernel, by decide +kernel⟩⟩
theorem mv_X9_set : VF yX9_set cX9_set 4 (some .int) 2 := ⟨mA4 119 rfl rfl, mA4 117 rfl rfl, mA4 118 rfl rfl, mA1 10 rfl rfl, ⟨by decide +kernel, by decide +kernel, by decide +kernel⟩⟩
theorem mv_X9_say : VF yX9_say cX9_say 2 (some .int) 1 := ⟨mA4 128 rfl rfl, mA4 126 rfl rfl, mA4 127 rfl rfl, mA1 10 rfl rfl, ⟨by decide +kernel, by decide +kernel, by decide +kernel⟩⟩
theorem mv_X9_wipe : VF yX9_wipe cX9_wipe 2 (some .int) 0 := ⟨mA4 134 rfl rfl, mA4 132 rfl rfl, mA4 133 rfl rfl, mA1 10 rfl rfl, ⟨by decide +kernel, by decide +kernel, by decide +kernel⟩⟩
theorem mv_X9_isLetter : SF yX9_isLetter cX9_isLetter 1 (some .boolean) 1 := ⟨mA4 149 rfl rfl, mA4 148 rfl rfl, mA1 10 rfl rfl, ⟨by decide +kernel, by decide +kernel, by decide +kernel⟩⟩
theorem mv_X9_close : VF yX9_close cX9_close 1 (some .int) 0 := ⟨mA4 155 rfl rfl, mA4 154 rfl rfl, mA0 32 rfl rfl, mA1 10 rfl rfl, ⟨by decide +kernel, by decide +kernel, by decide +kernel⟩⟩
theorem mv_X9_begin : VF yX9_begin cX9_begin 2 (some .int) 1 := ⟨mA4 146 rfl rfl, mA4 145 rfl rfl, mA0 31 rfl rfl, mA1 10 rfl rfl, ⟨by decide +kernel, by decide +kernel, by decide +kernel⟩⟩
theorem mv_X9_deed : VF yX9_deed cX9_deed 3 (some .int) 1 := ⟨mA4 159 rfl rfl, mA4 158 rfl rfl, mA0 33 rfl rfl, mA1 10 rfl rfl, ⟨by decide +kernel, by decide +kernel, by decide +kernel⟩⟩
theorem mv_X9_readOn : VF yX9_readOn cX9_readOn 4 (some .int) 2 := ⟨mA4 142 rfl rfl, mA4 141 rfl rfl, mA0 30 rfl rfl, mA1 10 rfl rfl, ⟨by decide +kernel, by decide +kernel, by decide +kernel⟩⟩
theorem mv_X9_fault : VF yX9_fault cX9_fault 3 (some .int) 0 := ⟨mA4 138 rfl rfl, mA4 136 rfl rfl, mA4 137 rfl rfl, mA1 10 rfl rfl, ⟨by decide +kernel, by decide +kernel, by decide +kernel⟩⟩
theorem mv_X9_whyNotSell : VF yX9_whyNotSell cX9_whyNotSell 4 (some .int) 3 := ⟨mA4 196 rfl rfl, mA4 195 rfl rfl, mA0 40 rfl rfl, mA1 10 rfl rfl, ⟨by decide +kernel, by decide +kernel, by decide +kernel⟩⟩
theorem mv_X9_whyNotSwear : VF yX9_whyNotSwear cX9_whyNotSwear 3 (some .int) 2 := ⟨mA4 192 rfl rfl, mA4 191 rfl rfl, mA0 39 rfl rfl, mA1 10 rfl rfl, ⟨by decide +kernel, by decide +kernel, by decide +kernel⟩⟩
theorem mv_X9_whyNot : VF yX9_whyNot cX9_whyNot 5 (some .int) 4 := ⟨mA4 188 rfl rfl, mA4 187 rfl rfl, mA0 38 rfl rfl, mA1 10 rfl rfl, ⟨by decide +kernel, by decide +kernel, by decide +kernel⟩⟩
theorem mv_X9_isNear : VF yX9_isNear cX9_isNear 4 (some .boolean) 2 := ⟨mA4 216 rfl rfl, mA4 215 rfl rfl, mA0 45 rfl rfl, mA1 10 rfl rfl, ⟨by decide +kernel, by decide +kernel, by decide +kernel⟩⟩
theorem mv_X9_heardBy : VF yX9_heardBy cX9_heardBy 4 (some .int) 1 := ⟨mA4 212 rfl rfl, mA4 211 rfl rfl, mA0 44 rfl rfl, mA1 10 rfl rfl, ⟨by decide +kernel, by decide +kernel, by decide +kernel⟩⟩
theorem mv_X9_slip : VF yX9_slip cX9_slip 5 none 1 := ⟨mA4 208 rfl rfl, mA4 207 rfl rfl, mA0 43 rfl rfl, mA1 10 rfl rfl, ⟨by decide +kernel, by decide +kernel, by decide +kernel⟩⟩
theorem mv_X9_befall : VF yX9_befall cX9_befall 4 none 3 := ⟨mA4 204 rfl rfl, mA4 203 rfl rfl, mA0 42 rfl rfl, mA1 10 rfl rfl, ⟨by decide +kernel, by decide +kernel, by decide +kernel⟩⟩
theorem mv_X9_endHour : VF yX9_endHour cX9_endHour 2 none 0 := ⟨mA4 220 rfl rfl, mA4 219 rfl rfl, mA0 46 rfl rfl, mA1 10 rfl rfl, ⟨by decide +kernel, by decide +kernel, by decide +kernel⟩⟩
theorem mv_X9_happen : VF yX9_happen cX9_happen 5 none 4 := ⟨mA4 200 rfl rfl, mA4 199 rfl rfl, mA0 41 rfl rfl, mA1 10 rfl rfl, ⟨by decide +kernel, by decide +kernel, by decide +kernel⟩⟩
theorem mv_X9_store : VF yX9_store cX9_store 3 none 1 := ⟨mA4 176 rfl rfl, mA4 175 rfl rfl, mA0 35 rfl rfl, mA1 10 rfl rfl, ⟨by decide +kernel, by decide +kernel, by decide +kernel⟩⟩
theorem mv_X9_lay : VF yX9_lay cX9_lay 3 none 1 := ⟨mA4 224 rfl rfl, mA4 223 rfl rfl, mA0 47 rfl rfl, mA1 10 rfl rfl, ⟨by decide +kernel, by decide +kernel, by decide +kernel⟩⟩
theorem mv_X9_beginCount : VF yX9_beginCount cX9_beginCount 1 none 0 := ⟨mA4 184 rfl rfl, mA4 183 rfl rfl, mA0 37 rfl rfl, mA1 10 rfl rfl, ⟨by decide +kernel, by decide +kernel, by decide +kernel⟩⟩
theorem mv_X9_goHours : VF yX9_goHours cX9_goHours 3 none 0 := ⟨mA4 180 rfl rfl, mA4 179 rfl rfl, mA0 36 rfl rfl, mA1 10 rfl rfl, ⟨by decide +kernel, by decide +kernel, by decide +kernel⟩⟩
theorem mv_X9_refusal : VF yX9_refusal cX9_refusal 1 (some .int) 0 := ⟨mA4 171 rfl rfl, mA4 170 rfl rfl, mA0 34 rfl rfl, mA1 10 rfl rfl, ⟨by decide +kernel, by decide +kernel, by decide +kernel⟩⟩
theorem mv_X9_judge : VF yX9_judge cX9_judge 3 (some .int) 1 := ⟨mA4 166 rfl rfl, mA4 164 rfl rfl, mA4 165 rfl rfl, mA1 10 rfl rfl, ⟨by decide +kernel, by decide +kernel, by decide +kernel⟩⟩
theorem mv_X9_behind : VF yX9_behind cX9_behind 4 (some .int) 2 := ⟨mA4 228 rfl rfl, mA4 226 rfl rfl, mA4 227 rfl rfl, mA1 10 rfl rfl, ⟨by decide +kernel, by decide +kernel, by decide +kernel⟩⟩
theorem mv_X9_slipped : VF yX9_slipped cX9_slipped 3 (some .int) 1 := ⟨mA4 233 rfl rfl, mA4 231 rfl rfl, mA4 232 rfl rfl, mA1 10 rfl rfl, ⟨by decide +kernel, by decide +kernel, by decide +kernel⟩⟩
theorem mv_X9_done : VF yX9_done cX9_done 2 (some .int) 0 := ⟨mA4 238 rfl rfl, mA4 236 rfl rfl, mA4 237 rfl rfl, mA1 10 rfl rfl, ⟨by decide +kernel, by decide +kernel, by decide +kernel⟩⟩
theorem mv_X9_hears : VF yX9_hears cX9_hears 2 (some .int) 1 := ⟨mA5 2 rfl rfl, mA5 0 rfl rfl, mA5 1 rfl rfl, mA1 10 rfl rfl, ⟨by decide +kernel, by decide +kernel, by decide +kernel⟩⟩
theorem mv_X9_at : SF yX9_at cX9_at 3 (some .int) 3 := ⟨mA5 18 rfl rfl, mA5 17 rfl rfl, mA1 10 rfl rfl, ⟨by decide +kernel, by decide +kernel, by decide +kernel⟩⟩
theorem mv_X9_layWeights : VF yX9_layWeights cX9_layWeights 4 none 1 := ⟨mA5 15 rfl rfl, mA5 14 rfl rfl, mA0 49 rfl rfl, mA1 10 rfl rfl, ⟨by decide +kernel, by decide +kernel, by decide +kernel⟩⟩
theorem mv_X9_slipsIn : VF yX9_slipsIn cX9_slipsIn 3 (some .boolean) 2 := ⟨mA5 31 rfl rfl, mA5 30 rfl rfl, mA0 52 rfl rfl, mA1 10 rfl rfl, ⟨by decide +kernel, by decide +kernel, by decide +kernel⟩⟩
theorem mv_X9_costBy : VF yX9_costBy cX9_costBy 8 (some .int) 4 := ⟨mA5 27 rfl rfl, mA5 26 rfl rfl, mA0 51 rfl rfl, mA1 10 rfl rfl, ⟨by decide +kernel, by decide +kernel, by decide +kernel⟩⟩
theorem mv_X9_leastCost : VF yX9_leastCost cX9_leastCost 7 (some .int) 3 := ⟨mA5 22 rfl rfl, mA5 21 rfl rfl, mA0 50 rfl rfl, mA1 10 rfl rfl, ⟨by decide +kernel, by decide +kernel, by decide +kernel⟩⟩
theorem mv_X9_findCosts : VF yX9_findCosts cX9_findCosts 5 none 1 := ⟨mA5 11 rfl rfl, mA5 10 rfl rfl, mA0 48 rfl rfl, mA1 10 rfl rfl, ⟨by decide +kernel, by decide +kernel, by decide +kernel⟩⟩
theorem mv_X9_strengths : VF yX9_strengths cX9_strengths 9 (some .int) 2 := ⟨mA5 35 rfl rfl, mA5 34 rfl rfl, mA0 53 rfl rfl, mA1 10 rfl rfl, ⟨by decide +kernel, by decide +kernel, by decide +kernel⟩⟩
theorem mv_X9_spend : VF yX9_spend cX9_spend 6 (some .int) 4 := ⟨mA5 6 rfl rfl, mA5 4 rfl rfl, mA5 5 rfl rfl, mA1 10 rfl rfl, ⟨by decide +kernel, by decide +kernel, by decide +kernel⟩⟩
theorem mv_X9_slipsBy : VF yX9_slipsBy cX9_slipsBy 4 (some .int) 3 := ⟨mA5 51 rfl rfl, mA5 50 rfl rfl, mA0 56 rfl rfl, mA1 10 rfl rfl, ⟨by decide +kernel, by decide +kernel, by decide +kernel⟩⟩
theorem mv_X9_fewestSlips : VF yX9_fewestSlips cX9_fewestSlips 6 (some .int) 2 := ⟨mA5 47 rfl rfl, mA5 46 rfl rfl, mA0 55 rfl rfl, mA1 10 rfl rfl, ⟨by decide +kernel, by decide +kernel, by decide +kernel⟩⟩
theorem mv_X9_findDeals : VF yX9_findDeals cX9_findDeals 4 none 1 := ⟨mA5 43 rfl rfl, mA5 42 rfl rfl, mA0 54 rfl rfl, mA1 10 rfl rfl, ⟨by decide +kernel, by decide +kernel, by decide +kernel⟩⟩
theorem mv_X9_deal : VF yX9_deal cX9_deal 7 (some .int) 3 := ⟨mA5 39 rfl rfl, mA5 37 rfl rfl, mA5 38 rfl rfl, mA1 10 rfl rfl, ⟨by decide +kernel, by decide +kernel, by decide +kernel⟩⟩
theorem mv_X9_maySit : VF yX9_maySit cX9_maySit 4 (some .boolean) 3 := ⟨mA5 64 rfl rfl, mA5 63 rfl rfl, mA0 58 rfl rfl, mA1 10 rfl rfl, ⟨by decide +kernel, by decide +kernel, by decide +kernel⟩⟩
theorem mv_X9_waysFrom : VF yX9_waysFrom cX9_waysFrom 7 (some .int) 3 := ⟨mA5 60 rfl rfl, mA5 59 rfl rfl, mA0 57 rfl rfl, mA1 10 rfl rfl, ⟨by decide +kernel, by decide +kernel, by decide +kernel⟩⟩
theorem mv_X9_firstSeats : VF yX9_firstSeats cX9_firstSeats 8 (some .int) 1 := ⟨mA5 68 rfl rfl, mA5 67 rfl rfl, mA0 59 rfl rfl, mA1 10 rfl rfl, ⟨by decide +kernel, by decide +kernel, by decide +kernel⟩⟩
theorem mv_X9_seats : VF yX9_seats cX9_seats 6 (some .int) 2 := ⟨mA5 55 rfl rfl, mA5 53 rfl rfl, mA5 54 rfl rfl, mA1 10 rfl rfl, ⟨by decide +kernel, by decide +kernel, by decide +kernel⟩⟩
theorem mv_X9_covered : VF yX9_covered cX9_covered 15 (some .int) 5 := ⟨mA5 77 rfl rfl, mA5 76 rfl rfl, mA0 60 rfl rfl, mA1 10 rfl rfl, ⟨by decide +kernel, by decide +kernel, by decide +kernel⟩⟩
theorem mv_X9_cover : VF yX9_cover cX9_cover 10 (some .int) 5 := ⟨mA5 72 rfl rfl, mA5 70 rfl rfl, mA5 71 rfl rfl, mA1 10 rfl rfl, ⟨by decide +kernel, by decide +kernel, by decide +kernel⟩⟩
theorem mv_X9_lowest : SF yX9_lowest cX9_lowest 11 (some .long) 3 := ⟨mA5 94 rfl rfl, mA5 93 rfl rfl, mA1 10 rfl rfl, ⟨by decide +kernel, by decide +kernel, by decide +kernel⟩⟩
theorem mv_X9_behindHour : SF yX9_behindHour cX9_behindHour 1 (some .int) 1 := ⟨mA5 91 rfl rfl, mA5 90 rfl rfl, mA1 10 rfl rfl, ⟨by decide +kernel, by decide +kernel, by decide +kernel⟩⟩
theorem mv_X9_riskHour : VF yX9_riskHour cX9_riskHour 6 none 3 := ⟨mA5 88 rfl rfl, mA5 87 rfl rfl, mA0 61 rfl rfl, mA1 10 rfl rfl, ⟨by decide +kernel, by decide +kernel, by decide +kernel⟩⟩
theorem mv_X9_risk : VF yX9_risk cX9_risk 13 (some .long) 6 := ⟨mA5 81 rfl rfl, mA5 79 rfl rfl, mA5 80 rfl rfl, mA1 10 rfl rfl, ⟨by decide +kernel, by decide +kernel, by decide +kernel⟩⟩
theorem mv_X9_seen : VF yX9_seen cX9_seen 3 (some .int) 2 := ⟨mA5 98 rfl rfl, mA5 96 rfl rfl, mA5 97 rfl rfl, mA1 10 rfl rfl, ⟨by decide +kernel, by decide +kernel, by decide +kernel⟩⟩
theorem mv_X9_forget : VF yX9_forget cX9_forget 2 (some .int) 0 := ⟨mA5 102 rfl rfl, mA5 100 rfl rfl, mA5 101 rfl rfl, mA1 10 rfl rfl, ⟨by decide +kernel, by decide +kernel, by decide +kernel⟩⟩
theorem mv_X9_wouldHear : VF yX9_wouldHear cX9_wouldHear 3 (some .boolean) 2 := ⟨mA5 114 rfl rfl, mA5 113 rfl rfl, mA0 63 rfl rfl, mA1 10 rfl rfl, ⟨by decide +kernel, by decide +kernel, by decide +kernel⟩⟩
theorem mv_X9_fits : VF yX9_fits cX9_fits 5 (some .boolean) 1 := ⟨mA5 110 rfl rfl, mA5 109 rfl rfl, mA0 62 rfl rfl, mA1 10 rfl rfl, ⟨by decide +kernel, by decide +kernel, by decide +kernel⟩⟩
theorem mv_X9_who : VF yX9_who cX9_who 3 (some .int) 0 := ⟨mA5 106 rfl rfl, mA5 104 rfl rfl, mA5 105 rfl rfl, mA1 10 rfl rfl, ⟨by decide +kernel, by decide +kernel, by decide +kernel⟩⟩
theorem mv_X9_mostLeft : VF yX9_mostLeft cX9_mostLeft 5 (some .int) 2 := ⟨mA5 123 rfl rfl, mA5 122 rfl rfl, mA0 64 rfl rfl, mA1 10 rfl rfl, ⟨by decide +kernel, by decide +kernel, by decide +kernel⟩⟩
theorem mv_X9_ask : VF yX9_ask cX9_ask 5 (some .int) 1 := ⟨mA5 118 rfl rfl, mA5 116 rfl rfl, mA5 117 rfl rfl, mA1 10 rfl rfl, ⟨by decide +kernel, by decide +kernel, by decide +kernel⟩⟩
theorem mv_X9_quarrel : VF yX9_quarrel cX9_quarrel 5 (some .int) 3 := ⟨mA5 127 rfl rfl, mA5 125 rfl rfl, mA5 126 rfl rfl, mA1 10 rfl rfl, ⟨by decide +kernel, by decide +kernel, by decide +kernel⟩⟩
theorem mv_X9_actBy : SF yX9_actBy cX9_actBy 1 (some .int) 1 := ⟨mA5 138 rfl rfl, mA5 137 rfl rfl, mA1 10 rfl rfl, ⟨by decide +kernel, by decide +kernel, by decide +kernel⟩⟩
theorem mv_X9_year : VF yX9_year cX9_year 10 (some .int) 3 := ⟨mA5 131 rfl rfl, mA5 129 rfl rfl, mA5 130 rfl rfl, mA1 10 rfl rfl, ⟨by decide +kernel, by decide +kernel, by decide +kernel⟩⟩
theorem mv_X9_pass : VF yX9_pass cX9_pass 3 (some .int) 1 := ⟨mA5 150 rfl rfl, mA5 149 rfl rfl, mA0 66 rfl rfl, mA1 10 rfl rfl, ⟨by decide +kernel, by decide +kernel, by decide +kernel⟩⟩
theorem mv_X9_passAll : VF yX9_passAll cX9_passAll 2 none 0 := ⟨mA5 146 rfl rfl, mA5 145 rfl rfl, mA0 65 rfl rfl, mA1 10 rfl rfl, ⟨by decide +kernel, by decide +kernel, by decide +kernel⟩⟩
theorem mv_X9_image : VF yX9_image cX9_image 2 (some .int) 1 := ⟨mA5 142 rfl rfl, mA5 140 rfl rfl, mA5 141 rfl rfl, mA1 10 rfl rfl, ⟨by decide +kernel, by decide +kernel, by decide +kernel⟩⟩
theorem mv_X9_restore : VF yX9_restore cX9_restore 2 (some .int) 1 := ⟨mA5 154 rfl rfl, mA5 152 rfl rfl, mA5 153 rfl rfl, mA1 10 rfl rfl, ⟨by decide +kernel, by decide +kernel, by decide +kernel⟩⟩
theorem mv_X9_toldOf : VF yX9_toldOf cX9_toldOf 3 (some .int) 2 := ⟨mA5 163 rfl rfl, mA5 162 rfl rfl, mA0 67 rfl rfl, mA1 10 rfl rfl, ⟨by decide +kernel, by decide +kernel, by decide +kernel⟩⟩
theorem mv_X9_told : VF yX9_told cX9_told 2 (some .int) 1 := ⟨mA5 158 rfl rfl, mA5 156 rfl rfl, mA5 157 rfl rfl, mA1 10 rfl rfl, ⟨by decide +kernel, by decide +kernel, by decide +kernel⟩⟩
theorem mv_J6_bitCount_0f7a4 : SF yJ6_bitCount_0f7a4 cJ6_bitCount_0f7a4 1 (some .int) 1 := ⟨mA2 19 rfl rfl, mA2 18 rfl rfl, mA1 11 rfl rfl, ⟨by decide +kernel, by decide +kernel, by decide +kernel⟩⟩
theorem mv_J9_abs_0f7a4 : SF yJ9_abs_0f7a4 cJ9_abs_0f7a4 1 (some .int) 1 := ⟨mA2 164 rfl rfl, mA2 163 rfl rfl, mA1 12 rfl rfl, ⟨by decide +kernel, by decide +kernel, by decide +kernel⟩⟩
theorem mv_J9_max_7cf53 : SF yJ9_max_7cf53 cJ9_max_7cf53 2 (some .int) 2 := ⟨mA2 60 rfl rfl, mA2 59 rfl rfl, mA1 12 rfl rfl, ⟨by decide +kernel, by decide +kernel, by decide +kernel⟩⟩
theorem mv_J9_max_f86c9 : SF yJ9_max_f86c9 cJ9_max_f86c9 4 (some .long) 2 := ⟨mA3 126 rfl rfl, mA3 125 rfl rfl, mA1 12 rfl rfl, ⟨by decide +kernel, by decide +kernel, by decide +kernel⟩⟩
theorem mv_J9_min_7cf53 : SF yJ9_min_7cf53 cJ9_min_7cf53 2 (some .int) 2 := ⟨mA2 168 rfl rfl, mA2 167 rfl rfl, mA1 12 rfl rfl, ⟨by decide +kernel, by decide +kernel, by decide +kernel⟩⟩
theorem ao_tbl : Cond.arrayOver (Jvm.ClassFile.FieldType.object "OathPermit$Town") ∈ lw_tbl := List.mem_append_right _ (List.mem_append_left _ (List.mem_of_getElem? (i := 114) rfl))
theorem mth_abs : Cond.static Lib.Math.abs.name ∈ AW ∧ Cond.initialized "java/lang/Math" ∈ AW ∧ Cond.code Lib.Math.abs.name Lib.Math.abs.code 1 (some .int) ∈ AW := ⟨mA2 163 rfl rfl, mA1 12 rfl rfl, mA2 164 rfl rfl⟩
theorem mth_max : Cond.static Lib.Math.max.name ∈ AW ∧ Cond.initialized "java/lang/Math" ∈ AW ∧ Cond.code Lib.Math.max.name Lib.Math.max.code 2 (some .int) ∈ AW := ⟨mA2 59 rfl rfl, mA1 12 rfl rfl, mA2 60 rfl rfl⟩
theorem mth_min : Cond.static Lib.Math.min.name ∈ AW ∧ Cond.initialized "java/lang/Math" ∈ AW ∧ Cond.code Lib.Math.min.name Lib.Math.min.code 2 (some .int) ∈ AW := ⟨mA2 167 rfl rfl, mA1 12 rfl rfl, mA2 168 rfl rfl⟩
theorem mth_maxl : Cond.static Lib.MathLoose.max_long.x ∈ AW ∧ Cond.initialized "java/lang/Math" ∈ AW ∧ Cond.code Lib.MathLoose.max_long.x Lib.MathLoose.max_long.code 4 (some .long) ∈ AW := ⟨mA3 125 rfl rfl, mA1 12 rfl rfl, mA3 126 rfl rfl⟩
theorem sys_copy : Cond.native arraycopyName ∈ AW ∧ Cond.static arraycopyName ∈ AW ∧ Cond.initialized "java/lang/System" ∈ AW := ⟨mA2 122 rfl rfl, mA2 121 rfl rfl, mA1 13 rfl rfl⟩
theorem obj_im : Cond.instanceMethod Lib.objectInit ∈ AW := mA1 20 rfl rfl
theorem obj_co : Cond.code Lib.objectInit ⟨#[0xb1]⟩ 1 none ∈ AW := mA1 21 rfl rfl
theorem ki_m1 : Int32.ofInt (-1) = (-1 : Int32) := by decide
theorem ki_0 : Int32.ofInt (0) = (0 : Int32) := by decide
theorem ki_1 : Int32.ofInt (1) = (1 : Int32) := by decide
theorem ki_2 : Int32.ofInt (2) = (2 : Int32) := by decide
theorem ki_3 : Int32.ofInt (3) = (3 : Int32) := by decide
theorem ki_4 : Int32.ofInt (4) = (4 : Int32) := by decide
theorem ki_5 : Int32.ofInt (5) = (5 : Int32) := by decide
theorem kb_m6 : (Int8.ofInt (-6)).toInt32 = (-6 : Int32) := by decide
theorem kb_m5 : (Int8.ofInt (-5)).toInt32 = (-5 : Int32) := by decide
theorem kb_m4 : (Int8.ofInt (-4)).toInt32 = (-4 : Int32) := by decide
theorem kb_m3 : (Int8.ofInt (-3)).toInt32 = (-3 : Int32) := by decide
theorem kb_m2 : (Int8.ofInt (-2)).toInt32 = (-2 : Int32) := by decide
theorem kb_6 : (Int8.ofInt (6)).toInt32 = (6 : Int32) := by decide
theorem kb_7 : (Int8.ofInt (7)).toInt32 = (7 : Int32) := by decide
theorem kb_8 : (Int8.ofInt (8)).toInt32 = (8 : Int32) := by decide
theorem kb_9 : (Int8.ofInt (9)).toInt32 = (9 : Int32) := by decide
theorem kb_10 : (Int8.ofInt (10)).toInt32 = (10 : Int32) := by decide
theorem kb_12 : (Int8.ofInt (12)).toInt32 = (12 : Int32) := by decide
theorem kb_15 : (Int8.ofInt (15)).toInt32 = (15 : Int32) := by decide
theorem kb_16 : (Int8.ofInt (16)).toInt32 = (16 : Int32) := by decide
theorem kb_18 : (Int8.ofInt (18)).toInt32 = (18 : Int32) := by decide
theorem kb_20 : (Int8.ofInt (20)).toInt32 = (20 : Int32) := by decide
theorem kb_21 : (Int8.ofInt (21)).toInt32 = (21 : Int32) := by decide
theorem kb_24 : (Int8.ofInt (24)).toInt32 = (24 : Int32) := by decide
theorem kb_30 : (Int8.ofInt (30)).toInt32 = (30 : Int32) := by decide
theorem kb_31 : (Int8.ofInt (31)).toInt32 = (31 : Int32) := by decide
theorem kb_33 : (Int8.ofInt (33)).toInt32 = (33 : Int32) := by decide
theorem kb_36 : (Int8.ofInt (36)).toInt32 = (36 : Int32) := by decide
theorem kb_40 : (Int8.ofInt (40)).toInt32 = (40 : Int32) := by decide
theorem kb_46 : (Int8.ofInt (46)).toInt32 = (46 : Int32) := by decide
theorem kb_48 : (Int8.ofInt (48)).toInt32 = (48 : Int32) := by decide
theorem kb_49 : (Int8.ofInt (49)).toInt32 = (49 : Int32) := by decide
theorem kb_57 : (Int8.ofInt (57)).toInt32 = (57 : Int32) := by decide
theorem kb_59 : (Int8.ofInt (59)).toInt32 = (59 : Int32) := by decide
theorem kb_60 : (Int8.ofInt (60)).toInt32 = (60 : Int32) := by decide
theorem kb_62 : (Int8.ofInt (62)).toInt32 = (62 : Int32) := by decide
theorem kb_63 : (Int8.ofInt (63)).toInt32 = (63 : Int32) := by decide
theorem kb_64 : (Int8.ofInt (64)).toInt32 = (64 : Int32) := by decide
theorem kb_65 : (Int8.ofInt (65)).toInt32 = (65 : Int32) := by decide
theorem kb_70 : (Int8.ofInt (70)).toInt32 = (70 : Int32) := by decide
theorem kb_74 : (Int8.ofInt (74)).toInt32 = (74 : Int32) := by decide
theorem kb_75 : (Int8.ofInt (75)).toInt32 = (75 : Int32) := by decide
theorem kb_99 : (Int8.ofInt (99)).toInt32 = (99 : Int32) := by decide
theorem kb_100 : (Int8.ofInt (100)).toInt32 = (100 : Int32) := by decide
theorem kb_104 : (Int8.ofInt (104)).toInt32 = (104 : Int32) := by decide
theorem kb_107 : (Int8.ofInt (107)).toInt32 = (107 : Int32) := by decide
theorem kb_114 : (Int8.ofInt (114)).toInt32 = (114 : Int32) := by decide
theorem kb_116 : (Int8.ofInt (116)).toInt32 = (116 : Int32) := by decide
theorem kb_120 : (Int8.ofInt (120)).toInt32 = (120 : Int32) := by decide
theorem kb_126 : (Int8.ofInt (126)).toInt32 = (126 : Int32) := by decide
theorem ks_147 : (Int16.ofInt (147)).toInt32 = (147 : Int32) := by decide
theorem ks_192 : (Int16.ofInt (192)).toInt32 = (192 : Int32) := by decide
theorem ks_343 : (Int16.ofInt (343)).toInt32 = (343 : Int32) := by decide
theorem ks_384 : (Int16.ofInt (384)).toInt32 = (384 : Int32) := by decide
theorem ks_441 : (Int16.ofInt (441)).toInt32 = (441 : Int32) := by decide
theorem ks_448 : (Int16.ofInt (448)).toInt32 = (448 : Int32) := by decide
theorem ks_729 : (Int16.ofInt (729)).toInt32 = (729 : Int32) := by decide
theorem ks_999 : (Int16.ofInt (999)).toInt32 = (999 : Int32) := by decide
theorem ks_1000 : (Int16.ofInt (1000)).toInt32 = (1000 : Int32) := by decide
theorem ks_1029 : (Int16.ofInt (1029)).toInt32 = (1029 : Int32) := by decide
theorem ks_3087 : (Int16.ofInt (3087)).toInt32 = (3087 : Int32) := by decide
theorem ks_9999 : (Int16.ofInt (9999)).toInt32 = (9999 : Int32) := by decide
theorem kl_0 : Int64.ofNat ((0 : Fin 2) : Nat) = (0 : Int64) := by decide
theorem kl_1 : Int64.ofNat ((1 : Fin 2) : Nat) = (1 : Int64) := by decide
theorem ii_1 (x : Int32) : x + Int32.ofInt 1 = x + 1 := by rw [show Int32.ofInt 1 = (1 : Int32) by decide]
theorem ii_m1 (x : Int32) : x + Int32.ofInt (-1) = x - 1 := by rw [show Int32.ofInt (-1) = (-1 : Int32) by decide, Int32.sub_eq_add_neg]
theorem ii_7 (x : Int32) : x + Int32.ofInt 7 = x + 7 := by rw [show Int32.ofInt 7 = (7 : Int32) by decide]
