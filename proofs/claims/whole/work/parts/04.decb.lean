theorem dX11_init_0 : decode cX11_init 0 = .ok (.aload_n 0, 1) := by decide +kernel
theorem dX11_init_1 : decode cX11_init 1 = .ok (.invokespecial 1, 3) := by decide +kernel
theorem dX11_init_4 : decode cX11_init 4 = .ok (.aload_n 0, 1) := by decide +kernel
theorem dX11_init_5 : decode cX11_init 5 = .ok (.new 7, 3) := by decide +kernel
theorem dX11_init_8 : decode cX11_init 8 = .ok (.dup, 1) := by decide +kernel
theorem dX11_init_9 : decode cX11_init 9 = .ok (.invokespecial 9, 3) := by decide +kernel
theorem dX11_init_12 : decode cX11_init 12 = .ok (.putfield 10, 3) := by decide +kernel
theorem dX11_init_15 : decode cX11_init 15 = .ok (.aload_n 0, 1) := by decide +kernel
theorem dX11_init_16 : decode cX11_init 16 = .ok (.new 7, 3) := by decide +kernel
theorem dX11_init_19 : decode cX11_init 19 = .ok (.dup, 1) := by decide +kernel
theorem dX11_init_20 : decode cX11_init 20 = .ok (.invokespecial 9, 3) := by decide +kernel
theorem dX11_init_23 : decode cX11_init 23 = .ok (.putfield 16, 3) := by decide +kernel
theorem dX11_init_26 : decode cX11_init 26 = .ok (.aload_n 0, 1) := by decide +kernel
theorem dX11_init_27 : decode cX11_init 27 = .ok (.new 19, 3) := by decide +kernel
theorem dX11_init_30 : decode cX11_init 30 = .ok (.dup, 1) := by decide +kernel
theorem dX11_init_31 : decode cX11_init 31 = .ok (.invokespecial 21, 3) := by decide +kernel
theorem dX11_init_34 : decode cX11_init 34 = .ok (.putfield 22, 3) := by decide +kernel
theorem dX11_init_37 : decode cX11_init 37 = .ok (.aload_n 0, 1) := by decide +kernel
theorem dX11_init_38 : decode cX11_init 38 = .ok (.new 26, 3) := by decide +kernel
theorem dX11_init_41 : decode cX11_init 41 = .ok (.dup, 1) := by decide +kernel
theorem dX11_init_42 : decode cX11_init 42 = .ok (.invokespecial 28, 3) := by decide +kernel
theorem dX11_init_45 : decode cX11_init 45 = .ok (.putfield 29, 3) := by decide +kernel
theorem dX11_init_48 : decode cX11_init 48 = .ok (.aload_n 0, 1) := by decide +kernel
theorem dX11_init_49 : decode cX11_init 49 = .ok (.new 33, 3) := by decide +kernel
theorem dX11_init_52 : decode cX11_init 52 = .ok (.dup, 1) := by decide +kernel
theorem dX11_init_53 : decode cX11_init 53 = .ok (.invokespecial 35, 3) := by decide +kernel
theorem dX11_init_56 : decode cX11_init 56 = .ok (.putfield 36, 3) := by decide +kernel
theorem dX11_init_59 : decode cX11_init 59 = .ok (.aload_n 0, 1) := by decide +kernel
theorem dX11_init_60 : decode cX11_init 60 = .ok (.new 40, 3) := by decide +kernel
theorem dX11_init_63 : decode cX11_init 63 = .ok (.dup, 1) := by decide +kernel
theorem dX11_init_64 : decode cX11_init 64 = .ok (.invokespecial 42, 3) := by decide +kernel
theorem dX11_init_67 : decode cX11_init 67 = .ok (.putfield 43, 3) := by decide +kernel
theorem dX11_init_70 : decode cX11_init 70 = .ok (.aload_n 0, 1) := by decide +kernel
theorem dX11_init_71 : decode cX11_init 71 = .ok (.bipush 6, 2) := by decide +kernel
theorem dX11_init_73 : decode cX11_init 73 = .ok (.anewarray 47, 3) := by decide +kernel
theorem dX11_init_76 : decode cX11_init 76 = .ok (.putfield 49, 3) := by decide +kernel
theorem dX11_init_79 : decode cX11_init 79 = .ok (.aload_n 0, 1) := by decide +kernel
theorem dX11_init_80 : decode cX11_init 80 = .ok (.iconst 2, 1) := by decide +kernel
theorem dX11_init_81 : decode cX11_init 81 = .ok (.bipush 14, 2) := by decide +kernel
theorem dX11_init_83 : decode cX11_init 83 = .ok (.multianewarray 53 2, 4) := by decide +kernel
theorem dX11_init_87 : decode cX11_init 87 = .ok (.putfield 55, 3) := by decide +kernel
theorem dX11_init_90 : decode cX11_init 90 = .ok (.aload_n 0, 1) := by decide +kernel
theorem dX11_init_91 : decode cX11_init 91 = .ok (.iconst 2, 1) := by decide +kernel
theorem dX11_init_92 : decode cX11_init 92 = .ok (.newarray .boolean, 2) := by decide +kernel
theorem dX11_init_94 : decode cX11_init 94 = .ok (.putfield 58, 3) := by decide +kernel
theorem dX11_init_97 : decode cX11_init 97 = .ok (.aload_n 0, 1) := by decide +kernel
theorem dX11_init_98 : decode cX11_init 98 = .ok (.bipush 6, 2) := by decide +kernel
theorem dX11_init_100 : decode cX11_init 100 = .ok (.newarray .int, 2) := by decide +kernel
theorem dX11_init_102 : decode cX11_init 102 = .ok (.putfield 62, 3) := by decide +kernel
theorem dX11_init_105 : decode cX11_init 105 = .ok (.aload_n 0, 1) := by decide +kernel
theorem dX11_init_106 : decode cX11_init 106 = .ok (.bipush 6, 2) := by decide +kernel
theorem dX11_init_108 : decode cX11_init 108 = .ok (.newarray .int, 2) := by decide +kernel
theorem dX11_init_110 : decode cX11_init 110 = .ok (.putfield 66, 3) := by decide +kernel
theorem dX11_init_113 : decode cX11_init 113 = .ok (.aload_n 0, 1) := by decide +kernel
theorem dX11_init_114 : decode cX11_init 114 = .ok (.bipush 6, 2) := by decide +kernel
theorem dX11_init_116 : decode cX11_init 116 = .ok (.newarray .int, 2) := by decide +kernel
theorem dX11_init_118 : decode cX11_init 118 = .ok (.putfield 69, 3) := by decide +kernel
theorem dX11_init_121 : decode cX11_init 121 = .ok (.aload_n 0, 1) := by decide +kernel
theorem dX11_init_122 : decode cX11_init 122 = .ok (.bipush 6, 2) := by decide +kernel
theorem dX11_init_124 : decode cX11_init 124 = .ok (.newarray .int, 2) := by decide +kernel
theorem dX11_init_126 : decode cX11_init 126 = .ok (.putfield 72, 3) := by decide +kernel
theorem dX11_init_129 : decode cX11_init 129 = .ok (.aload_n 0, 1) := by decide +kernel
theorem dX11_init_130 : decode cX11_init 130 = .ok (.iconst 0, 1) := by decide +kernel
theorem dX11_init_131 : decode cX11_init 131 = .ok (.putfield 75, 3) := by decide +kernel
theorem dX11_init_134 : decode cX11_init 134 = .ok (.aload_n 0, 1) := by decide +kernel
theorem dX11_init_135 : decode cX11_init 135 = .ok (.lconst 0, 1) := by decide +kernel
theorem dX11_init_136 : decode cX11_init 136 = .ok (.putfield 79, 3) := by decide +kernel
theorem dX11_init_139 : decode cX11_init 139 = .ok (.aload_n 0, 1) := by decide +kernel
theorem dX11_init_140 : decode cX11_init 140 = .ok (.getfield 49, 3) := by decide +kernel
theorem dX11_init_143 : decode cX11_init 143 = .ok (.iconst 0, 1) := by decide +kernel
theorem dX11_init_144 : decode cX11_init 144 = .ok (.new 47, 3) := by decide +kernel
theorem dX11_init_147 : decode cX11_init 147 = .ok (.dup, 1) := by decide +kernel
theorem dX11_init_148 : decode cX11_init 148 = .ok (.invokespecial 83, 3) := by decide +kernel
theorem dX11_init_151 : decode cX11_init 151 = .ok (.aastore, 1) := by decide +kernel
theorem dX11_init_152 : decode cX11_init 152 = .ok (.aload_n 0, 1) := by decide +kernel
theorem dX11_init_153 : decode cX11_init 153 = .ok (.getfield 49, 3) := by decide +kernel
theorem dX11_init_156 : decode cX11_init 156 = .ok (.iconst 1, 1) := by decide +kernel
theorem dX11_init_157 : decode cX11_init 157 = .ok (.new 84, 3) := by decide +kernel
theorem dX11_init_160 : decode cX11_init 160 = .ok (.dup, 1) := by decide +kernel
theorem dX11_init_161 : decode cX11_init 161 = .ok (.invokespecial 86, 3) := by decide +kernel
theorem dX11_init_164 : decode cX11_init 164 = .ok (.aastore, 1) := by decide +kernel
theorem dX11_init_165 : decode cX11_init 165 = .ok (.aload_n 0, 1) := by decide +kernel
theorem dX11_init_166 : decode cX11_init 166 = .ok (.getfield 49, 3) := by decide +kernel
theorem dX11_init_169 : decode cX11_init 169 = .ok (.iconst 2, 1) := by decide +kernel
theorem dX11_init_170 : decode cX11_init 170 = .ok (.new 87, 3) := by decide +kernel
theorem dX11_init_173 : decode cX11_init 173 = .ok (.dup, 1) := by decide +kernel
theorem dX11_init_174 : decode cX11_init 174 = .ok (.invokespecial 89, 3) := by decide +kernel
theorem dX11_init_177 : decode cX11_init 177 = .ok (.aastore, 1) := by decide +kernel
theorem dX11_init_178 : decode cX11_init 178 = .ok (.aload_n 0, 1) := by decide +kernel
theorem dX11_init_179 : decode cX11_init 179 = .ok (.getfield 49, 3) := by decide +kernel
theorem dX11_init_182 : decode cX11_init 182 = .ok (.iconst 3, 1) := by decide +kernel
theorem dX11_init_183 : decode cX11_init 183 = .ok (.new 90, 3) := by decide +kernel
theorem dX11_init_186 : decode cX11_init 186 = .ok (.dup, 1) := by decide +kernel
theorem dX11_init_187 : decode cX11_init 187 = .ok (.invokespecial 92, 3) := by decide +kernel
theorem dX11_init_190 : decode cX11_init 190 = .ok (.aastore, 1) := by decide +kernel
theorem dX11_init_191 : decode cX11_init 191 = .ok (.aload_n 0, 1) := by decide +kernel
theorem dX11_init_192 : decode cX11_init 192 = .ok (.getfield 49, 3) := by decide +kernel
theorem dX11_init_195 : decode cX11_init 195 = .ok (.iconst 4, 1) := by decide +kernel
theorem dX11_init_196 : decode cX11_init 196 = .ok (.new 93, 3) := by decide +kernel
theorem dX11_init_199 : decode cX11_init 199 = .ok (.dup, 1) := by decide +kernel
theorem dX11_init_200 : decode cX11_init 200 = .ok (.invokespecial 95, 3) := by decide +kernel
theorem dX11_init_203 : decode cX11_init 203 = .ok (.aastore, 1) := by decide +kernel
theorem dX11_init_204 : decode cX11_init 204 = .ok (.aload_n 0, 1) := by decide +kernel
theorem dX11_init_205 : decode cX11_init 205 = .ok (.getfield 49, 3) := by decide +kernel
theorem dX11_init_208 : decode cX11_init 208 = .ok (.iconst 5, 1) := by decide +kernel
theorem dX11_init_209 : decode cX11_init 209 = .ok (.new 96, 3) := by decide +kernel
theorem dX11_init_212 : decode cX11_init 212 = .ok (.dup, 1) := by decide +kernel
theorem dX11_init_213 : decode cX11_init 213 = .ok (.invokespecial 98, 3) := by decide +kernel
theorem dX11_init_216 : decode cX11_init 216 = .ok (.aastore, 1) := by decide +kernel
theorem dX11_init_217 : decode cX11_init 217 = .ok (.return_, 1) := by decide +kernel
theorem dX11_type_0 : decode cX11_type 0 = .ok (.iload_n 1, 1) := by decide +kernel
theorem dX11_type_1 : decode cX11_type 1 = .ok (.ifCond .lt 10, 3) := by decide +kernel
theorem dX11_type_4 : decode cX11_type 4 = .ok (.iload_n 1, 1) := by decide +kernel
theorem dX11_type_5 : decode cX11_type 5 = .ok (.sipush 255, 3) := by decide +kernel
theorem dX11_type_8 : decode cX11_type 8 = .ok (.if_icmp .le 5, 3) := by decide +kernel
theorem dX11_type_11 : decode cX11_type 11 = .ok (.iconst (-1), 1) := by decide +kernel
theorem dX11_type_12 : decode cX11_type 12 = .ok (.ireturn, 1) := by decide +kernel
theorem dX11_type_13 : decode cX11_type 13 = .ok (.aload_n 0, 1) := by decide +kernel
theorem dX11_type_14 : decode cX11_type 14 = .ok (.getfield 22, 3) := by decide +kernel
theorem dX11_type_17 : decode cX11_type 17 = .ok (.iload_n 1, 1) := by decide +kernel
theorem dX11_type_18 : decode cX11_type 18 = .ok (.invokevirtual 99, 3) := by decide +kernel
theorem dX11_type_21 : decode cX11_type 21 = .ok (.ifCond .eq 13, 3) := by decide +kernel
theorem dX11_type_24 : decode cX11_type 24 = .ok (.aload_n 0, 1) := by decide +kernel
theorem dX11_type_25 : decode cX11_type 25 = .ok (.getfield 22, 3) := by decide +kernel
theorem dX11_type_28 : decode cX11_type 28 = .ok (.getfield 103, 3) := by decide +kernel
theorem dX11_type_31 : decode cX11_type 31 = .ok (.goto 5, 3) := by decide +kernel
theorem dX11_type_34 : decode cX11_type 34 = .ok (.bipush (-3), 2) := by decide +kernel
theorem dX11_type_36 : decode cX11_type 36 = .ok (.ireturn, 1) := by decide +kernel
theorem dX11_clear_0 : decode cX11_clear 0 = .ok (.aload_n 0, 1) := by decide +kernel
theorem dX11_clear_1 : decode cX11_clear 1 = .ok (.getfield 22, 3) := by decide +kernel
theorem dX11_clear_4 : decode cX11_clear 4 = .ok (.getfield 103, 3) := by decide +kernel
theorem dX11_clear_7 : decode cX11_clear 7 = .ok (.istore_n 1, 1) := by decide +kernel
theorem dX11_clear_8 : decode cX11_clear 8 = .ok (.aload_n 0, 1) := by decide +kernel
theorem dX11_clear_9 : decode cX11_clear 9 = .ok (.getfield 22, 3) := by decide +kernel
theorem dX11_clear_12 : decode cX11_clear 12 = .ok (.iconst 0, 1) := by decide +kernel
theorem dX11_clear_13 : decode cX11_clear 13 = .ok (.putfield 103, 3) := by decide +kernel
theorem dX11_clear_16 : decode cX11_clear 16 = .ok (.iload_n 1, 1) := by decide +kernel
theorem dX11_clear_17 : decode cX11_clear 17 = .ok (.ireturn, 1) := by decide +kernel
theorem dX11_room_0 : decode cX11_room 0 = .ok (.aload_n 0, 1) := by decide +kernel
theorem dX11_room_1 : decode cX11_room 1 = .ok (.getfield 22, 3) := by decide +kernel
theorem dX11_room_4 : decode cX11_room 4 = .ok (.aload_n 0, 1) := by decide +kernel
theorem dX11_room_5 : decode cX11_room 5 = .ok (.getfield 16, 3) := by decide +kernel
theorem dX11_room_8 : decode cX11_room 8 = .ok (.invokevirtual 106, 3) := by decide +kernel
theorem dX11_room_11 : decode cX11_room 11 = .ok (.istore_n 1, 1) := by decide +kernel
theorem dX11_room_12 : decode cX11_room 12 = .ok (.iload_n 1, 1) := by decide +kernel
theorem dX11_room_13 : decode cX11_room 13 = .ok (.ifCond .ge 14, 3) := by decide +kernel
theorem dX11_room_16 : decode cX11_room 16 = .ok (.bipush (-10), 2) := by decide +kernel
theorem dX11_room_18 : decode cX11_room 18 = .ok (.aload_n 0, 1) := by decide +kernel
theorem dX11_room_19 : decode cX11_room 19 = .ok (.getfield 22, 3) := by decide +kernel
theorem dX11_room_22 : decode cX11_room 22 = .ok (.getfield 110, 3) := by decide +kernel
theorem dX11_room_25 : decode cX11_room 25 = .ok (.isub, 1) := by decide +kernel
theorem dX11_room_26 : decode cX11_room 26 = .ok (.ireturn, 1) := by decide +kernel
theorem dX11_room_27 : decode cX11_room 27 = .ok (.aload_n 0, 1) := by decide +kernel
theorem dX11_room_28 : decode cX11_room 28 = .ok (.getfield 10, 3) := by decide +kernel
theorem dX11_room_31 : decode cX11_room 31 = .ok (.aload_n 0, 1) := by decide +kernel
theorem dX11_room_32 : decode cX11_room 32 = .ok (.getfield 16, 3) := by decide +kernel
theorem dX11_room_35 : decode cX11_room 35 = .ok (.invokevirtual 113, 3) := by decide +kernel
theorem dX11_room_38 : decode cX11_room 38 = .ok (.aload_n 0, 1) := by decide +kernel
theorem dX11_room_39 : decode cX11_room 39 = .ok (.getfield 29, 3) := by decide +kernel
theorem dX11_room_42 : decode cX11_room 42 = .ok (.aload_n 0, 1) := by decide +kernel
theorem dX11_room_43 : decode cX11_room 43 = .ok (.getfield 10, 3) := by decide +kernel
theorem dX11_room_46 : decode cX11_room 46 = .ok (.invokevirtual 117, 3) := by decide +kernel
theorem dX11_room_49 : decode cX11_room 49 = .ok (.aload_n 0, 1) := by decide +kernel
theorem dX11_room_50 : decode cX11_room 50 = .ok (.getfield 36, 3) := by decide +kernel
theorem dX11_room_53 : decode cX11_room 53 = .ok (.iconst 0, 1) := by decide +kernel
theorem dX11_room_54 : decode cX11_room 54 = .ok (.putfield 120, 3) := by decide +kernel
theorem dX11_room_57 : decode cX11_room 57 = .ok (.aload_n 0, 1) := by decide +kernel
theorem dX11_room_58 : decode cX11_room 58 = .ok (.iconst 0, 1) := by decide +kernel
theorem dX11_room_59 : decode cX11_room 59 = .ok (.putfield 75, 3) := by decide +kernel
theorem dX11_room_62 : decode cX11_room 62 = .ok (.iconst 0, 1) := by decide +kernel
theorem dX11_room_63 : decode cX11_room 63 = .ok (.istore_n 2, 1) := by decide +kernel
theorem dX11_room_64 : decode cX11_room 64 = .ok (.iload_n 2, 1) := by decide +kernel
theorem dX11_room_65 : decode cX11_room 65 = .ok (.iconst 2, 1) := by decide +kernel
theorem dX11_room_66 : decode cX11_room 66 = .ok (.if_icmp .ge 16, 3) := by decide +kernel
theorem dX11_room_69 : decode cX11_room 69 = .ok (.aload_n 0, 1) := by decide +kernel
theorem dX11_room_70 : decode cX11_room 70 = .ok (.getfield 58, 3) := by decide +kernel
theorem dX11_room_73 : decode cX11_room 73 = .ok (.iload_n 2, 1) := by decide +kernel
theorem dX11_room_74 : decode cX11_room 74 = .ok (.iconst 0, 1) := by decide +kernel
theorem dX11_room_75 : decode cX11_room 75 = .ok (.bastore, 1) := by decide +kernel
theorem dX11_room_76 : decode cX11_room 76 = .ok (.iinc 2 1, 3) := by decide +kernel
theorem dX11_room_79 : decode cX11_room 79 = .ok (.goto (-15), 3) := by decide +kernel
theorem dX11_room_82 : decode cX11_room 82 = .ok (.aload_n 0, 1) := by decide +kernel
theorem dX11_room_83 : decode cX11_room 83 = .ok (.getfield 22, 3) := by decide +kernel
theorem dX11_room_86 : decode cX11_room 86 = .ok (.iconst 0, 1) := by decide +kernel
theorem dX11_room_87 : decode cX11_room 87 = .ok (.putfield 103, 3) := by decide +kernel
theorem dX11_room_90 : decode cX11_room 90 = .ok (.iload_n 1, 1) := by decide +kernel
theorem dX11_room_91 : decode cX11_room 91 = .ok (.ireturn, 1) := by decide +kernel
theorem dX11_phone_0 : decode cX11_phone 0 = .ok (.aload_n 0, 1) := by decide +kernel
theorem dX11_phone_1 : decode cX11_phone 1 = .ok (.iload_n 1, 1) := by decide +kernel
theorem dX11_phone_2 : decode cX11_phone 2 = .ok (.invokevirtual 123, 3) := by decide +kernel
theorem dX11_phone_5 : decode cX11_phone 5 = .ok (.ifCond .ne 5, 3) := by decide +kernel
theorem dX11_phone_8 : decode cX11_phone 8 = .ok (.iconst (-1), 1) := by decide +kernel
theorem dX11_phone_9 : decode cX11_phone 9 = .ok (.ireturn, 1) := by decide +kernel
theorem dX11_phone_10 : decode cX11_phone 10 = .ok (.iload_n 2, 1) := by decide +kernel
theorem dX11_phone_11 : decode cX11_phone 11 = .ok (.tableswitch 90 0 4 #[33, 43, 53, 63, 73], 33) := by decide +kernel
theorem dX11_phone_44 : decode cX11_phone 44 = .ok (.aload_n 0, 1) := by decide +kernel
theorem dX11_phone_45 : decode cX11_phone 45 = .ok (.getfield 29, 3) := by decide +kernel
theorem dX11_phone_48 : decode cX11_phone 48 = .ok (.getfield 126, 3) := by decide +kernel
theorem dX11_phone_51 : decode cX11_phone 51 = .ok (.iload_n 1, 1) := by decide +kernel
theorem dX11_phone_52 : decode cX11_phone 52 = .ok (.iaload, 1) := by decide +kernel
theorem dX11_phone_53 : decode cX11_phone 53 = .ok (.ireturn, 1) := by decide +kernel
theorem dX11_phone_54 : decode cX11_phone 54 = .ok (.aload_n 0, 1) := by decide +kernel
theorem dX11_phone_55 : decode cX11_phone 55 = .ok (.getfield 10, 3) := by decide +kernel
theorem dX11_phone_58 : decode cX11_phone 58 = .ok (.getfield 129, 3) := by decide +kernel
theorem dX11_phone_61 : decode cX11_phone 61 = .ok (.iload_n 1, 1) := by decide +kernel
theorem dX11_phone_62 : decode cX11_phone 62 = .ok (.iaload, 1) := by decide +kernel
theorem dX11_phone_63 : decode cX11_phone 63 = .ok (.ireturn, 1) := by decide +kernel
theorem dX11_phone_64 : decode cX11_phone 64 = .ok (.aload_n 0, 1) := by decide +kernel
theorem dX11_phone_65 : decode cX11_phone 65 = .ok (.getfield 10, 3) := by decide +kernel
theorem dX11_phone_68 : decode cX11_phone 68 = .ok (.getfield 132, 3) := by decide +kernel
theorem dX11_phone_71 : decode cX11_phone 71 = .ok (.iload_n 1, 1) := by decide +kernel
theorem dX11_phone_72 : decode cX11_phone 72 = .ok (.iaload, 1) := by decide +kernel
theorem dX11_phone_73 : decode cX11_phone 73 = .ok (.ireturn, 1) := by decide +kernel
theorem dX11_phone_74 : decode cX11_phone 74 = .ok (.aload_n 0, 1) := by decide +kernel
theorem dX11_phone_75 : decode cX11_phone 75 = .ok (.getfield 29, 3) := by decide +kernel
theorem dX11_phone_78 : decode cX11_phone 78 = .ok (.getfield 135, 3) := by decide +kernel
theorem dX11_phone_81 : decode cX11_phone 81 = .ok (.iload_n 1, 1) := by decide +kernel
theorem dX11_phone_82 : decode cX11_phone 82 = .ok (.iaload, 1) := by decide +kernel
theorem dX11_phone_83 : decode cX11_phone 83 = .ok (.ireturn, 1) := by decide +kernel
theorem dX11_phone_84 : decode cX11_phone 84 = .ok (.aload_n 0, 1) := by decide +kernel
theorem dX11_phone_85 : decode cX11_phone 85 = .ok (.getfield 29, 3) := by decide +kernel
theorem dX11_phone_88 : decode cX11_phone 88 = .ok (.iload_n 1, 1) := by decide +kernel
theorem dX11_phone_89 : decode cX11_phone 89 = .ok (.invokevirtual 138, 3) := by decide +kernel
theorem dX11_phone_92 : decode cX11_phone 92 = .ok (.ifCond .eq 7, 3) := by decide +kernel
theorem dX11_phone_95 : decode cX11_phone 95 = .ok (.iconst 1, 1) := by decide +kernel
theorem dX11_phone_96 : decode cX11_phone 96 = .ok (.goto 4, 3) := by decide +kernel
theorem dX11_phone_99 : decode cX11_phone 99 = .ok (.iconst 0, 1) := by decide +kernel
theorem dX11_phone_100 : decode cX11_phone 100 = .ok (.ireturn, 1) := by decide +kernel
theorem dX11_phone_101 : decode cX11_phone 101 = .ok (.iconst (-1), 1) := by decide +kernel
theorem dX11_phone_102 : decode cX11_phone 102 = .ok (.ireturn, 1) := by decide +kernel
theorem dX11_call_0 : decode cX11_call 0 = .ok (.iload_n 1, 1) := by decide +kernel
theorem dX11_call_1 : decode cX11_call 1 = .ok (.iconst 0, 1) := by decide +kernel
theorem dX11_call_2 : decode cX11_call 2 = .ok (.aload_n 0, 1) := by decide +kernel
theorem dX11_call_3 : decode cX11_call 3 = .ok (.getfield 10, 3) := by decide +kernel
theorem dX11_call_6 : decode cX11_call 6 = .ok (.getfield 141, 3) := by decide +kernel
theorem dX11_call_9 : decode cX11_call 9 = .ok (.iconst 1, 1) := by decide +kernel
theorem dX11_call_10 : decode cX11_call 10 = .ok (.isub, 1) := by decide +kernel
theorem dX11_call_11 : decode cX11_call 11 = .ok (.invokestatic 144, 3) := by decide +kernel
theorem dX11_call_14 : decode cX11_call 14 = .ok (.ifCond .ne 5, 3) := by decide +kernel
theorem dX11_call_17 : decode cX11_call 17 = .ok (.iconst (-1), 1) := by decide +kernel
theorem dX11_call_18 : decode cX11_call 18 = .ok (.ireturn, 1) := by decide +kernel
theorem dX11_call_19 : decode cX11_call 19 = .ok (.iload_n 2, 1) := by decide +kernel
theorem dX11_call_20 : decode cX11_call 20 = .ok (.tableswitch 58 0 2 #[28, 38, 48], 28) := by decide +kernel
theorem dX11_call_48 : decode cX11_call 48 = .ok (.aload_n 0, 1) := by decide +kernel
theorem dX11_call_49 : decode cX11_call 49 = .ok (.getfield 10, 3) := by decide +kernel
theorem dX11_call_52 : decode cX11_call 52 = .ok (.getfield 148, 3) := by decide +kernel
theorem dX11_call_55 : decode cX11_call 55 = .ok (.iload_n 1, 1) := by decide +kernel
theorem dX11_call_56 : decode cX11_call 56 = .ok (.iaload, 1) := by decide +kernel
theorem dX11_call_57 : decode cX11_call 57 = .ok (.ireturn, 1) := by decide +kernel
theorem dX11_call_58 : decode cX11_call 58 = .ok (.aload_n 0, 1) := by decide +kernel
theorem dX11_call_59 : decode cX11_call 59 = .ok (.getfield 10, 3) := by decide +kernel
theorem dX11_call_62 : decode cX11_call 62 = .ok (.getfield 151, 3) := by decide +kernel
theorem dX11_call_65 : decode cX11_call 65 = .ok (.iload_n 1, 1) := by decide +kernel
theorem dX11_call_66 : decode cX11_call 66 = .ok (.iaload, 1) := by decide +kernel
theorem dX11_call_67 : decode cX11_call 67 = .ok (.ireturn, 1) := by decide +kernel
theorem dX11_call_68 : decode cX11_call 68 = .ok (.aload_n 0, 1) := by decide +kernel
theorem dX11_call_69 : decode cX11_call 69 = .ok (.getfield 10, 3) := by decide +kernel
theorem dX11_call_72 : decode cX11_call 72 = .ok (.getfield 154, 3) := by decide +kernel
theorem dX11_call_75 : decode cX11_call 75 = .ok (.iload_n 1, 1) := by decide +kernel
theorem dX11_call_76 : decode cX11_call 76 = .ok (.iaload, 1) := by decide +kernel
theorem dX11_call_77 : decode cX11_call 77 = .ok (.ireturn, 1) := by decide +kernel
theorem dX11_call_78 : decode cX11_call 78 = .ok (.iconst (-1), 1) := by decide +kernel
theorem dX11_call_79 : decode cX11_call 79 = .ok (.ireturn, 1) := by decide +kernel
theorem dX11_dark_0 : decode cX11_dark 0 = .ok (.iload_n 1, 1) := by decide +kernel
theorem dX11_dark_1 : decode cX11_dark 1 = .ok (.iconst 0, 1) := by decide +kernel
theorem dX11_dark_2 : decode cX11_dark 2 = .ok (.sipush 160, 3) := by decide +kernel
theorem dX11_dark_5 : decode cX11_dark 5 = .ok (.invokestatic 144, 3) := by decide +kernel
theorem dX11_dark_8 : decode cX11_dark 8 = .ok (.ifCond .ne 5, 3) := by decide +kernel
theorem dX11_dark_11 : decode cX11_dark 11 = .ok (.iconst (-1), 1) := by decide +kernel
theorem dX11_dark_12 : decode cX11_dark 12 = .ok (.ireturn, 1) := by decide +kernel
theorem dX11_dark_13 : decode cX11_dark 13 = .ok (.aload_n 0, 1) := by decide +kernel
theorem dX11_dark_14 : decode cX11_dark 14 = .ok (.getfield 10, 3) := by decide +kernel
theorem dX11_dark_17 : decode cX11_dark 17 = .ok (.iload_n 1, 1) := by decide +kernel
theorem dX11_dark_18 : decode cX11_dark 18 = .ok (.invokevirtual 157, 3) := by decide +kernel
theorem dX11_dark_21 : decode cX11_dark 21 = .ok (.ifCond .eq 7, 3) := by decide +kernel
theorem dX11_dark_24 : decode cX11_dark 24 = .ok (.iconst 1, 1) := by decide +kernel
theorem dX11_dark_25 : decode cX11_dark 25 = .ok (.goto 4, 3) := by decide +kernel
theorem dX11_dark_28 : decode cX11_dark 28 = .ok (.iconst 0, 1) := by decide +kernel
theorem dX11_dark_29 : decode cX11_dark 29 = .ok (.ireturn, 1) := by decide +kernel
theorem dX11_puts_0 : decode cX11_puts 0 = .ok (.aload_n 0, 1) := by decide +kernel
theorem dX11_puts_1 : decode cX11_puts 1 = .ok (.getfield 10, 3) := by decide +kernel
theorem dX11_puts_4 : decode cX11_puts 4 = .ok (.iload_n 1, 1) := by decide +kernel
theorem dX11_puts_5 : decode cX11_puts 5 = .ok (.invokevirtual 160, 3) := by decide +kernel
theorem dX11_puts_8 : decode cX11_puts 8 = .ok (.ifCond .ne 5, 3) := by decide +kernel
theorem dX11_puts_11 : decode cX11_puts 11 = .ok (.iconst (-1), 1) := by decide +kernel
theorem dX11_puts_12 : decode cX11_puts 12 = .ok (.ireturn, 1) := by decide +kernel
theorem dX11_puts_13 : decode cX11_puts 13 = .ok (.aload_n 0, 1) := by decide +kernel
theorem dX11_puts_14 : decode cX11_puts 14 = .ok (.getfield 36, 3) := by decide +kernel
theorem dX11_puts_17 : decode cX11_puts 17 = .ok (.aload_n 0, 1) := by decide +kernel
theorem dX11_puts_18 : decode cX11_puts 18 = .ok (.getfield 29, 3) := by decide +kernel
theorem dX11_puts_21 : decode cX11_puts 21 = .ok (.invokevirtual 163, 3) := by decide +kernel
theorem dX11_puts_24 : decode cX11_puts 24 = .ok (.iload_n 1, 1) := by decide +kernel
theorem dX11_puts_25 : decode cX11_puts 25 = .ok (.aload_n 0, 1) := by decide +kernel
theorem dX11_puts_26 : decode cX11_puts 26 = .ok (.getfield 29, 3) := by decide +kernel
theorem dX11_puts_29 : decode cX11_puts 29 = .ok (.getfield 167, 3) := by decide +kernel
theorem dX11_puts_32 : decode cX11_puts 32 = .ok (.if_icmp .eq 24, 3) := by decide +kernel
theorem dX11_puts_35 : decode cX11_puts 35 = .ok (.aload_n 0, 1) := by decide +kernel
theorem dX11_puts_36 : decode cX11_puts 36 = .ok (.getfield 29, 3) := by decide +kernel
theorem dX11_puts_39 : decode cX11_puts 39 = .ok (.iload_n 1, 1) := by decide +kernel
theorem dX11_puts_40 : decode cX11_puts 40 = .ok (.putfield 167, 3) := by decide +kernel
theorem dX11_puts_43 : decode cX11_puts 43 = .ok (.aload_n 0, 1) := by decide +kernel
theorem dX11_puts_44 : decode cX11_puts 44 = .ok (.getfield 29, 3) := by decide +kernel
theorem dX11_puts_47 : decode cX11_puts 47 = .ok (.dup, 1) := by decide +kernel
theorem dX11_puts_48 : decode cX11_puts 48 = .ok (.getfield 170, 3) := by decide +kernel
theorem dX11_puts_51 : decode cX11_puts 51 = .ok (.iconst 1, 1) := by decide +kernel
theorem dX11_puts_52 : decode cX11_puts 52 = .ok (.iadd, 1) := by decide +kernel
theorem dX11_puts_53 : decode cX11_puts 53 = .ok (.putfield 170, 3) := by decide +kernel
theorem dX11_puts_56 : decode cX11_puts 56 = .ok (.aload_n 0, 1) := by decide +kernel
theorem dX11_puts_57 : decode cX11_puts 57 = .ok (.getfield 29, 3) := by decide +kernel
theorem dX11_puts_60 : decode cX11_puts 60 = .ok (.getfield 170, 3) := by decide +kernel
theorem dX11_puts_63 : decode cX11_puts 63 = .ok (.ireturn, 1) := by decide +kernel
theorem dX11_turn_0 : decode cX11_turn 0 = .ok (.aload_n 0, 1) := by decide +kernel
theorem dX11_turn_1 : decode cX11_turn 1 = .ok (.getfield 29, 3) := by decide +kernel
theorem dX11_turn_4 : decode cX11_turn 4 = .ok (.getfield 173, 3) := by decide +kernel
theorem dX11_turn_7 : decode cX11_turn 7 = .ok (.bipush 99, 2) := by decide +kernel
theorem dX11_turn_9 : decode cX11_turn 9 = .ok (.if_icmp .lt 6, 3) := by decide +kernel
theorem dX11_turn_12 : decode cX11_turn 12 = .ok (.bipush (-2), 2) := by decide +kernel
theorem dX11_turn_14 : decode cX11_turn 14 = .ok (.ireturn, 1) := by decide +kernel
theorem dX11_turn_15 : decode cX11_turn 15 = .ok (.aload_n 0, 1) := by decide +kernel
theorem dX11_turn_16 : decode cX11_turn 16 = .ok (.getfield 36, 3) := by decide +kernel
theorem dX11_turn_19 : decode cX11_turn 19 = .ok (.aload_n 0, 1) := by decide +kernel
theorem dX11_turn_20 : decode cX11_turn 20 = .ok (.getfield 29, 3) := by decide +kernel
theorem dX11_turn_23 : decode cX11_turn 23 = .ok (.invokevirtual 163, 3) := by decide +kernel
theorem dX11_turn_26 : decode cX11_turn 26 = .ok (.aload_n 0, 1) := by decide +kernel
theorem dX11_turn_27 : decode cX11_turn 27 = .ok (.getfield 29, 3) := by decide +kernel
theorem dX11_turn_30 : decode cX11_turn 30 = .ok (.aload_n 0, 1) := by decide +kernel
theorem dX11_turn_31 : decode cX11_turn 31 = .ok (.getfield 10, 3) := by decide +kernel
theorem dX11_turn_34 : decode cX11_turn 34 = .ok (.invokevirtual 176, 3) := by decide +kernel
theorem dX11_turn_37 : decode cX11_turn 37 = .ok (.aload_n 0, 1) := by decide +kernel
theorem dX11_turn_38 : decode cX11_turn 38 = .ok (.getfield 29, 3) := by decide +kernel
theorem dX11_turn_41 : decode cX11_turn 41 = .ok (.aload_n 0, 1) := by decide +kernel
theorem dX11_turn_42 : decode cX11_turn 42 = .ok (.getfield 10, 3) := by decide +kernel
theorem dX11_turn_45 : decode cX11_turn 45 = .ok (.getfield 179, 3) := by decide +kernel
theorem dX11_turn_48 : decode cX11_turn 48 = .ok (.invokevirtual 182, 3) := by decide +kernel
theorem dX11_turn_51 : decode cX11_turn 51 = .ok (.invokestatic 186, 3) := by decide +kernel
theorem dX11_turn_54 : decode cX11_turn 54 = .ok (.ireturn, 1) := by decide +kernel
theorem dX11_lends_0 : decode cX11_lends 0 = .ok (.aload_n 0, 1) := by decide +kernel
theorem dX11_lends_1 : decode cX11_lends 1 = .ok (.iload_n 1, 1) := by decide +kernel
theorem dX11_lends_2 : decode cX11_lends 2 = .ok (.invokevirtual 123, 3) := by decide +kernel
theorem dX11_lends_5 : decode cX11_lends 5 = .ok (.ifCond .eq 13, 3) := by decide +kernel
theorem dX11_lends_8 : decode cX11_lends 8 = .ok (.iload_n 2, 1) := by decide +kernel
theorem dX11_lends_9 : decode cX11_lends 9 = .ok (.iconst 1, 1) := by decide +kernel
theorem dX11_lends_10 : decode cX11_lends 10 = .ok (.bipush 50, 2) := by decide +kernel
theorem dX11_lends_12 : decode cX11_lends 12 = .ok (.invokestatic 144, 3) := by decide +kernel
theorem dX11_lends_15 : decode cX11_lends 15 = .ok (.ifCond .ne 5, 3) := by decide +kernel
theorem dX11_lends_18 : decode cX11_lends 18 = .ok (.iconst (-1), 1) := by decide +kernel
theorem dX11_lends_19 : decode cX11_lends 19 = .ok (.ireturn, 1) := by decide +kernel
theorem dX11_lends_20 : decode cX11_lends 20 = .ok (.aload_n 0, 1) := by decide +kernel
theorem dX11_lends_21 : decode cX11_lends 21 = .ok (.getfield 29, 3) := by decide +kernel
theorem dX11_lends_24 : decode cX11_lends 24 = .ok (.getfield 126, 3) := by decide +kernel
theorem dX11_lends_27 : decode cX11_lends 27 = .ok (.iload_n 1, 1) := by decide +kernel
theorem dX11_lends_28 : decode cX11_lends 28 = .ok (.iaload, 1) := by decide +kernel
theorem dX11_lends_29 : decode cX11_lends 29 = .ok (.iload_n 2, 1) := by decide +kernel
theorem dX11_lends_30 : decode cX11_lends 30 = .ok (.if_icmp .ge 6, 3) := by decide +kernel
theorem dX11_lends_33 : decode cX11_lends 33 = .ok (.bipush (-2), 2) := by decide +kernel
theorem dX11_lends_35 : decode cX11_lends 35 = .ok (.ireturn, 1) := by decide +kernel
theorem dX11_lends_36 : decode cX11_lends 36 = .ok (.aload_n 0, 1) := by decide +kernel
theorem dX11_lends_37 : decode cX11_lends 37 = .ok (.getfield 36, 3) := by decide +kernel
theorem dX11_lends_40 : decode cX11_lends 40 = .ok (.aload_n 0, 1) := by decide +kernel
theorem dX11_lends_41 : decode cX11_lends 41 = .ok (.getfield 29, 3) := by decide +kernel
theorem dX11_lends_44 : decode cX11_lends 44 = .ok (.invokevirtual 163, 3) := by decide +kernel
theorem dX11_lends_47 : decode cX11_lends 47 = .ok (.aload_n 0, 1) := by decide +kernel
theorem dX11_lends_48 : decode cX11_lends 48 = .ok (.getfield 29, 3) := by decide +kernel
theorem dX11_lends_51 : decode cX11_lends 51 = .ok (.getfield 126, 3) := by decide +kernel
theorem dX11_lends_54 : decode cX11_lends 54 = .ok (.iload_n 1, 1) := by decide +kernel
theorem dX11_lends_55 : decode cX11_lends 55 = .ok (.dup2, 1) := by decide +kernel
theorem dX11_lends_56 : decode cX11_lends 56 = .ok (.iaload, 1) := by decide +kernel
theorem dX11_lends_57 : decode cX11_lends 57 = .ok (.iload_n 2, 1) := by decide +kernel
theorem dX11_lends_58 : decode cX11_lends 58 = .ok (.isub, 1) := by decide +kernel
theorem dX11_lends_59 : decode cX11_lends 59 = .ok (.iastore, 1) := by decide +kernel
theorem dX11_lends_60 : decode cX11_lends 60 = .ok (.aload_n 0, 1) := by decide +kernel
theorem dX11_lends_61 : decode cX11_lends 61 = .ok (.getfield 29, 3) := by decide +kernel
theorem dX11_lends_64 : decode cX11_lends 64 = .ok (.getfield 126, 3) := by decide +kernel
theorem dX11_lends_67 : decode cX11_lends 67 = .ok (.iload_n 1, 1) := by decide +kernel
theorem dX11_lends_68 : decode cX11_lends 68 = .ok (.iaload, 1) := by decide +kernel
theorem dX11_lends_69 : decode cX11_lends 69 = .ok (.ireturn, 1) := by decide +kernel
theorem dX11_undo_0 : decode cX11_undo 0 = .ok (.aload_n 0, 1) := by decide +kernel
theorem dX11_undo_1 : decode cX11_undo 1 = .ok (.getfield 36, 3) := by decide +kernel
theorem dX11_undo_4 : decode cX11_undo 4 = .ok (.getfield 120, 3) := by decide +kernel
theorem dX11_undo_7 : decode cX11_undo 7 = .ok (.ifCond .ne 6, 3) := by decide +kernel
theorem dX11_undo_10 : decode cX11_undo 10 = .ok (.bipush (-2), 2) := by decide +kernel
theorem dX11_undo_12 : decode cX11_undo 12 = .ok (.ireturn, 1) := by decide +kernel
theorem dX11_undo_13 : decode cX11_undo 13 = .ok (.aload_n 0, 1) := by decide +kernel
theorem dX11_undo_14 : decode cX11_undo 14 = .ok (.getfield 36, 3) := by decide +kernel
theorem dX11_undo_17 : decode cX11_undo 17 = .ok (.aload_n 0, 1) := by decide +kernel
theorem dX11_undo_18 : decode cX11_undo 18 = .ok (.getfield 29, 3) := by decide +kernel
theorem dX11_undo_21 : decode cX11_undo 21 = .ok (.invokevirtual 191, 3) := by decide +kernel
theorem dX11_undo_24 : decode cX11_undo 24 = .ok (.aload_n 0, 1) := by decide +kernel
theorem dX11_undo_25 : decode cX11_undo 25 = .ok (.getfield 36, 3) := by decide +kernel
theorem dX11_undo_28 : decode cX11_undo 28 = .ok (.getfield 120, 3) := by decide +kernel
theorem dX11_undo_31 : decode cX11_undo 31 = .ok (.ireturn, 1) := by decide +kernel
theorem dX11_now_0 : decode cX11_now 0 = .ok (.iload_n 1, 1) := by decide +kernel
theorem dX11_now_1 : decode cX11_now 1 = .ok (.tableswitch 132 0 7 #[47, 55, 63, 78, 86, 94, 109, 124], 47) := by decide +kernel
theorem dX11_now_48 : decode cX11_now 48 = .ok (.aload_n 0, 1) := by decide +kernel
theorem dX11_now_49 : decode cX11_now 49 = .ok (.getfield 29, 3) := by decide +kernel
theorem dX11_now_52 : decode cX11_now 52 = .ok (.getfield 173, 3) := by decide +kernel
theorem dX11_now_55 : decode cX11_now 55 = .ok (.ireturn, 1) := by decide +kernel
theorem dX11_now_56 : decode cX11_now 56 = .ok (.aload_n 0, 1) := by decide +kernel
theorem dX11_now_57 : decode cX11_now 57 = .ok (.getfield 29, 3) := by decide +kernel
theorem dX11_now_60 : decode cX11_now 60 = .ok (.getfield 167, 3) := by decide +kernel
theorem dX11_now_63 : decode cX11_now 63 = .ok (.ireturn, 1) := by decide +kernel
theorem dX11_now_64 : decode cX11_now 64 = .ok (.aload_n 0, 1) := by decide +kernel
theorem dX11_now_65 : decode cX11_now 65 = .ok (.getfield 29, 3) := by decide +kernel
theorem dX11_now_68 : decode cX11_now 68 = .ok (.aload_n 0, 1) := by decide +kernel
theorem dX11_now_69 : decode cX11_now 69 = .ok (.getfield 10, 3) := by decide +kernel
theorem dX11_now_72 : decode cX11_now 72 = .ok (.getfield 179, 3) := by decide +kernel
theorem dX11_now_75 : decode cX11_now 75 = .ok (.invokevirtual 182, 3) := by decide +kernel
theorem dX11_now_78 : decode cX11_now 78 = .ok (.ireturn, 1) := by decide +kernel
theorem dX11_now_79 : decode cX11_now 79 = .ok (.aload_n 0, 1) := by decide +kernel
theorem dX11_now_80 : decode cX11_now 80 = .ok (.getfield 29, 3) := by decide +kernel
theorem dX11_now_83 : decode cX11_now 83 = .ok (.getfield 194, 3) := by decide +kernel
theorem dX11_now_86 : decode cX11_now 86 = .ok (.ireturn, 1) := by decide +kernel
theorem dX11_now_87 : decode cX11_now 87 = .ok (.aload_n 0, 1) := by decide +kernel
theorem dX11_now_88 : decode cX11_now 88 = .ok (.getfield 29, 3) := by decide +kernel
theorem dX11_now_91 : decode cX11_now 91 = .ok (.getfield 170, 3) := by decide +kernel
theorem dX11_now_94 : decode cX11_now 94 = .ok (.ireturn, 1) := by decide +kernel
theorem dX11_now_95 : decode cX11_now 95 = .ok (.aload_n 0, 1) := by decide +kernel
theorem dX11_now_96 : decode cX11_now 96 = .ok (.getfield 29, 3) := by decide +kernel
theorem dX11_now_99 : decode cX11_now 99 = .ok (.aload_n 0, 1) := by decide +kernel
theorem dX11_now_100 : decode cX11_now 100 = .ok (.getfield 10, 3) := by decide +kernel
theorem dX11_now_103 : decode cX11_now 103 = .ok (.getfield 179, 3) := by decide +kernel
theorem dX11_now_106 : decode cX11_now 106 = .ok (.invokevirtual 197, 3) := by decide +kernel
theorem dX11_now_109 : decode cX11_now 109 = .ok (.ireturn, 1) := by decide +kernel
theorem dX11_now_110 : decode cX11_now 110 = .ok (.aload_n 0, 1) := by decide +kernel
theorem dX11_now_111 : decode cX11_now 111 = .ok (.getfield 29, 3) := by decide +kernel
theorem dX11_now_114 : decode cX11_now 114 = .ok (.aload_n 0, 1) := by decide +kernel
theorem dX11_now_115 : decode cX11_now 115 = .ok (.getfield 10, 3) := by decide +kernel
theorem dX11_now_118 : decode cX11_now 118 = .ok (.getfield 179, 3) := by decide +kernel
theorem dX11_now_121 : decode cX11_now 121 = .ok (.invokevirtual 200, 3) := by decide +kernel
theorem dX11_now_124 : decode cX11_now 124 = .ok (.ireturn, 1) := by decide +kernel
theorem dX11_now_125 : decode cX11_now 125 = .ok (.aload_n 0, 1) := by decide +kernel
theorem dX11_now_126 : decode cX11_now 126 = .ok (.getfield 36, 3) := by decide +kernel
theorem dX11_now_129 : decode cX11_now 129 = .ok (.getfield 120, 3) := by decide +kernel
theorem dX11_now_132 : decode cX11_now 132 = .ok (.ireturn, 1) := by decide +kernel
theorem dX11_now_133 : decode cX11_now 133 = .ok (.iconst (-1), 1) := by decide +kernel
theorem dX11_now_134 : decode cX11_now 134 = .ok (.ireturn, 1) := by decide +kernel
theorem dX11_plan_0 : decode cX11_plan 0 = .ok (.iload_n 1, 1) := by decide +kernel
theorem dX11_plan_1 : decode cX11_plan 1 = .ok (.iconst 0, 1) := by decide +kernel
theorem dX11_plan_2 : decode cX11_plan 2 = .ok (.iconst 4, 1) := by decide +kernel
theorem dX11_plan_3 : decode cX11_plan 3 = .ok (.invokestatic 144, 3) := by decide +kernel
theorem dX11_plan_6 : decode cX11_plan 6 = .ok (.ifCond .eq 13, 3) := by decide +kernel
theorem dX11_plan_9 : decode cX11_plan 9 = .ok (.iload_n 2, 1) := by decide +kernel
theorem dX11_plan_10 : decode cX11_plan 10 = .ok (.iconst 0, 1) := by decide +kernel
theorem dX11_plan_11 : decode cX11_plan 11 = .ok (.bipush 6, 2) := by decide +kernel
theorem dX11_plan_13 : decode cX11_plan 13 = .ok (.invokestatic 144, 3) := by decide +kernel
theorem dX11_plan_16 : decode cX11_plan 16 = .ok (.ifCond .ne 5, 3) := by decide +kernel
theorem dX11_plan_19 : decode cX11_plan 19 = .ok (.iconst (-1), 1) := by decide +kernel
theorem dX11_plan_20 : decode cX11_plan 20 = .ok (.ireturn, 1) := by decide +kernel
theorem dX11_plan_21 : decode cX11_plan 21 = .ok (.iload_n 2, 1) := by decide +kernel
theorem dX11_plan_22 : decode cX11_plan 22 = .ok (.iconst 4, 1) := by decide +kernel
theorem dX11_plan_23 : decode cX11_plan 23 = .ok (.if_icmp .ge 11, 3) := by decide +kernel
theorem dX11_plan_26 : decode cX11_plan 26 = .ok (.iload_n 2, 1) := by decide +kernel
theorem dX11_plan_27 : decode cX11_plan 27 = .ok (.iload_n 1, 1) := by decide +kernel
theorem dX11_plan_28 : decode cX11_plan 28 = .ok (.if_icmp .lt 6, 3) := by decide +kernel
theorem dX11_plan_31 : decode cX11_plan 31 = .ok (.bipush (-5), 2) := by decide +kernel
theorem dX11_plan_33 : decode cX11_plan 33 = .ok (.ireturn, 1) := by decide +kernel
theorem dX11_plan_34 : decode cX11_plan 34 = .ok (.aload_n 0, 1) := by decide +kernel
theorem dX11_plan_35 : decode cX11_plan 35 = .ok (.getfield 43, 3) := by decide +kernel
theorem dX11_plan_38 : decode cX11_plan 38 = .ok (.aload_n 0, 1) := by decide +kernel
theorem dX11_plan_39 : decode cX11_plan 39 = .ok (.getfield 10, 3) := by decide +kernel
theorem dX11_plan_42 : decode cX11_plan 42 = .ok (.aload_n 0, 1) := by decide +kernel
theorem dX11_plan_43 : decode cX11_plan 43 = .ok (.getfield 29, 3) := by decide +kernel
theorem dX11_plan_46 : decode cX11_plan 46 = .ok (.iload_n 1, 1) := by decide +kernel
theorem dX11_plan_47 : decode cX11_plan 47 = .ok (.invokevirtual 203, 3) := by decide +kernel
theorem dX11_plan_50 : decode cX11_plan 50 = .ok (.iload_n 2, 1) := by decide +kernel
theorem dX11_plan_51 : decode cX11_plan 51 = .ok (.tableswitch 49 4 6 #[25, 33, 41], 25) := by decide +kernel
theorem dX11_plan_76 : decode cX11_plan 76 = .ok (.aload_n 0, 1) := by decide +kernel
theorem dX11_plan_77 : decode cX11_plan 77 = .ok (.getfield 43, 3) := by decide +kernel
theorem dX11_plan_80 : decode cX11_plan 80 = .ok (.invokevirtual 207, 3) := by decide +kernel
theorem dX11_plan_83 : decode cX11_plan 83 = .ok (.ireturn, 1) := by decide +kernel
theorem dX11_plan_84 : decode cX11_plan 84 = .ok (.aload_n 0, 1) := by decide +kernel
theorem dX11_plan_85 : decode cX11_plan 85 = .ok (.getfield 43, 3) := by decide +kernel
theorem dX11_plan_88 : decode cX11_plan 88 = .ok (.invokevirtual 210, 3) := by decide +kernel
theorem dX11_plan_91 : decode cX11_plan 91 = .ok (.ireturn, 1) := by decide +kernel
theorem dX11_plan_92 : decode cX11_plan 92 = .ok (.aload_n 0, 1) := by decide +kernel
theorem dX11_plan_93 : decode cX11_plan 93 = .ok (.getfield 43, 3) := by decide +kernel
theorem dX11_plan_96 : decode cX11_plan 96 = .ok (.invokevirtual 212, 3) := by decide +kernel
theorem dX11_plan_99 : decode cX11_plan 99 = .ok (.ireturn, 1) := by decide +kernel
theorem dX11_plan_100 : decode cX11_plan 100 = .ok (.aload_n 0, 1) := by decide +kernel
theorem dX11_plan_101 : decode cX11_plan 101 = .ok (.getfield 43, 3) := by decide +kernel
theorem dX11_plan_104 : decode cX11_plan 104 = .ok (.getfield 214, 3) := by decide +kernel
theorem dX11_plan_107 : decode cX11_plan 107 = .ok (.iload_n 2, 1) := by decide +kernel
theorem dX11_plan_108 : decode cX11_plan 108 = .ok (.iaload, 1) := by decide +kernel
theorem dX11_plan_109 : decode cX11_plan 109 = .ok (.ireturn, 1) := by decide +kernel
theorem dX11_fullBy_0 : decode cX11_fullBy 0 = .ok (.aload_n 0, 1) := by decide +kernel
theorem dX11_fullBy_1 : decode cX11_fullBy 1 = .ok (.iload_n 1, 1) := by decide +kernel
theorem dX11_fullBy_2 : decode cX11_fullBy 2 = .ok (.invokevirtual 123, 3) := by decide +kernel
theorem dX11_fullBy_5 : decode cX11_fullBy 5 = .ok (.ifCond .eq 13, 3) := by decide +kernel
theorem dX11_fullBy_8 : decode cX11_fullBy 8 = .ok (.iload_n 2, 1) := by decide +kernel
theorem dX11_fullBy_9 : decode cX11_fullBy 9 = .ok (.iconst 0, 1) := by decide +kernel
theorem dX11_fullBy_10 : decode cX11_fullBy 10 = .ok (.bipush 100, 2) := by decide +kernel
theorem dX11_fullBy_12 : decode cX11_fullBy 12 = .ok (.invokestatic 144, 3) := by decide +kernel
theorem dX11_fullBy_15 : decode cX11_fullBy 15 = .ok (.ifCond .ne 5, 3) := by decide +kernel
theorem dX11_fullBy_18 : decode cX11_fullBy 18 = .ok (.iconst (-1), 1) := by decide +kernel
theorem dX11_fullBy_19 : decode cX11_fullBy 19 = .ok (.ireturn, 1) := by decide +kernel
theorem dX11_fullBy_20 : decode cX11_fullBy 20 = .ok (.aload_n 0, 1) := by decide +kernel
theorem dX11_fullBy_21 : decode cX11_fullBy 21 = .ok (.getfield 29, 3) := by decide +kernel
theorem dX11_fullBy_24 : decode cX11_fullBy 24 = .ok (.getfield 126, 3) := by decide +kernel
theorem dX11_fullBy_27 : decode cX11_fullBy 27 = .ok (.iload_n 1, 1) := by decide +kernel
theorem dX11_fullBy_28 : decode cX11_fullBy 28 = .ok (.iaload, 1) := by decide +kernel
theorem dX11_fullBy_29 : decode cX11_fullBy 29 = .ok (.istore_n 3, 1) := by decide +kernel
theorem dX11_fullBy_30 : decode cX11_fullBy 30 = .ok (.iconst 0, 1) := by decide +kernel
theorem dX11_fullBy_31 : decode cX11_fullBy 31 = .ok (.istore 4, 2) := by decide +kernel
theorem dX11_fullBy_33 : decode cX11_fullBy 33 = .ok (.iload 4, 2) := by decide +kernel
theorem dX11_fullBy_35 : decode cX11_fullBy 35 = .ok (.bipush 60, 2) := by decide +kernel
theorem dX11_fullBy_37 : decode cX11_fullBy 37 = .ok (.if_icmp .gt 38, 3) := by decide +kernel
theorem dX11_fullBy_40 : decode cX11_fullBy 40 = .ok (.iload_n 3, 1) := by decide +kernel
theorem dX11_fullBy_41 : decode cX11_fullBy 41 = .ok (.iload_n 2, 1) := by decide +kernel
theorem dX11_fullBy_42 : decode cX11_fullBy 42 = .ok (.if_icmp .lt 6, 3) := by decide +kernel
theorem dX11_fullBy_45 : decode cX11_fullBy 45 = .ok (.iload 4, 2) := by decide +kernel
theorem dX11_fullBy_47 : decode cX11_fullBy 47 = .ok (.ireturn, 1) := by decide +kernel
theorem dX11_fullBy_48 : decode cX11_fullBy 48 = .ok (.aload_n 0, 1) := by decide +kernel
theorem dX11_fullBy_49 : decode cX11_fullBy 49 = .ok (.getfield 10, 3) := by decide +kernel
theorem dX11_fullBy_52 : decode cX11_fullBy 52 = .ok (.aload_n 0, 1) := by decide +kernel
theorem dX11_fullBy_53 : decode cX11_fullBy 53 = .ok (.getfield 29, 3) := by decide +kernel
theorem dX11_fullBy_56 : decode cX11_fullBy 56 = .ok (.getfield 173, 3) := by decide +kernel
theorem dX11_fullBy_59 : decode cX11_fullBy 59 = .ok (.iload 4, 2) := by decide +kernel
theorem dX11_fullBy_61 : decode cX11_fullBy 61 = .ok (.iadd, 1) := by decide +kernel
theorem dX11_fullBy_62 : decode cX11_fullBy 62 = .ok (.iload_n 1, 1) := by decide +kernel
theorem dX11_fullBy_63 : decode cX11_fullBy 63 = .ok (.iload_n 3, 1) := by decide +kernel
theorem dX11_fullBy_64 : decode cX11_fullBy 64 = .ok (.iconst 1, 1) := by decide +kernel
theorem dX11_fullBy_65 : decode cX11_fullBy 65 = .ok (.invokevirtual 217, 3) := by decide +kernel
theorem dX11_fullBy_68 : decode cX11_fullBy 68 = .ok (.istore_n 3, 1) := by decide +kernel
theorem dX11_fullBy_69 : decode cX11_fullBy 69 = .ok (.iinc 4 1, 3) := by decide +kernel
theorem dX11_fullBy_72 : decode cX11_fullBy 72 = .ok (.goto (-39), 3) := by decide +kernel
theorem dX11_fullBy_75 : decode cX11_fullBy 75 = .ok (.bipush (-9), 2) := by decide +kernel
theorem dX11_fullBy_77 : decode cX11_fullBy 77 = .ok (.ireturn, 1) := by decide +kernel
theorem dX11_latest_0 : decode cX11_latest 0 = .ok (.aload_n 0, 1) := by decide +kernel
theorem dX11_latest_1 : decode cX11_latest 1 = .ok (.iload_n 1, 1) := by decide +kernel
theorem dX11_latest_2 : decode cX11_latest 2 = .ok (.invokevirtual 123, 3) := by decide +kernel
theorem dX11_latest_5 : decode cX11_latest 5 = .ok (.ifCond .eq 19, 3) := by decide +kernel
theorem dX11_latest_8 : decode cX11_latest 8 = .ok (.iload_n 2, 1) := by decide +kernel
theorem dX11_latest_9 : decode cX11_latest 9 = .ok (.aload_n 0, 1) := by decide +kernel
theorem dX11_latest_10 : decode cX11_latest 10 = .ok (.getfield 29, 3) := by decide +kernel
theorem dX11_latest_13 : decode cX11_latest 13 = .ok (.getfield 173, 3) := by decide +kernel
theorem dX11_latest_16 : decode cX11_latest 16 = .ok (.bipush 60, 2) := by decide +kernel
theorem dX11_latest_18 : decode cX11_latest 18 = .ok (.invokestatic 144, 3) := by decide +kernel
theorem dX11_latest_21 : decode cX11_latest 21 = .ok (.ifCond .ne 5, 3) := by decide +kernel
theorem dX11_latest_24 : decode cX11_latest 24 = .ok (.iconst (-1), 1) := by decide +kernel
theorem dX11_latest_25 : decode cX11_latest 25 = .ok (.ireturn, 1) := by decide +kernel
theorem dX11_latest_26 : decode cX11_latest 26 = .ok (.iload_n 2, 1) := by decide +kernel
theorem dX11_latest_27 : decode cX11_latest 27 = .ok (.iconst 1, 1) := by decide +kernel
theorem dX11_latest_28 : decode cX11_latest 28 = .ok (.iadd, 1) := by decide +kernel
theorem dX11_latest_29 : decode cX11_latest 29 = .ok (.istore_n 3, 1) := by decide +kernel
theorem dX11_latest_30 : decode cX11_latest 30 = .ok (.iload_n 3, 1) := by decide +kernel
theorem dX11_latest_31 : decode cX11_latest 31 = .ok (.aload_n 0, 1) := by decide +kernel
theorem dX11_latest_32 : decode cX11_latest 32 = .ok (.getfield 29, 3) := by decide +kernel
theorem dX11_latest_35 : decode cX11_latest 35 = .ok (.getfield 173, 3) := by decide +kernel
theorem dX11_latest_38 : decode cX11_latest 38 = .ok (.if_icmp .lt 21, 3) := by decide +kernel
theorem dX11_latest_41 : decode cX11_latest 41 = .ok (.aload_n 0, 1) := by decide +kernel
theorem dX11_latest_42 : decode cX11_latest 42 = .ok (.iload_n 1, 1) := by decide +kernel
theorem dX11_latest_43 : decode cX11_latest 43 = .ok (.iload_n 3, 1) := by decide +kernel
theorem dX11_latest_44 : decode cX11_latest 44 = .ok (.iload_n 2, 1) := by decide +kernel
theorem dX11_latest_45 : decode cX11_latest 45 = .ok (.invokevirtual 221, 3) := by decide +kernel
theorem dX11_latest_48 : decode cX11_latest 48 = .ok (.ifCond .eq 5, 3) := by decide +kernel
theorem dX11_latest_51 : decode cX11_latest 51 = .ok (.iload_n 3, 1) := by decide +kernel
theorem dX11_latest_52 : decode cX11_latest 52 = .ok (.ireturn, 1) := by decide +kernel
theorem dX11_latest_53 : decode cX11_latest 53 = .ok (.iinc 3 (-1), 3) := by decide +kernel
theorem dX11_latest_56 : decode cX11_latest 56 = .ok (.goto (-26), 3) := by decide +kernel
theorem dX11_latest_59 : decode cX11_latest 59 = .ok (.bipush (-9), 2) := by decide +kernel
theorem dX11_latest_61 : decode cX11_latest 61 = .ok (.ireturn, 1) := by decide +kernel
theorem dX11_holdsOut_0 : decode cX11_holdsOut 0 = .ok (.aload_n 0, 1) := by decide +kernel
theorem dX11_holdsOut_1 : decode cX11_holdsOut 1 = .ok (.getfield 29, 3) := by decide +kernel
theorem dX11_holdsOut_4 : decode cX11_holdsOut 4 = .ok (.getfield 126, 3) := by decide +kernel
theorem dX11_holdsOut_7 : decode cX11_holdsOut 7 = .ok (.iload_n 1, 1) := by decide +kernel
theorem dX11_holdsOut_8 : decode cX11_holdsOut 8 = .ok (.iaload, 1) := by decide +kernel
theorem dX11_holdsOut_9 : decode cX11_holdsOut 9 = .ok (.istore 4, 2) := by decide +kernel
theorem dX11_holdsOut_11 : decode cX11_holdsOut 11 = .ok (.aload_n 0, 1) := by decide +kernel
theorem dX11_holdsOut_12 : decode cX11_holdsOut 12 = .ok (.getfield 29, 3) := by decide +kernel
theorem dX11_holdsOut_15 : decode cX11_holdsOut 15 = .ok (.getfield 173, 3) := by decide +kernel
theorem dX11_holdsOut_18 : decode cX11_holdsOut 18 = .ok (.istore 5, 2) := by decide +kernel
theorem dX11_holdsOut_20 : decode cX11_holdsOut 20 = .ok (.iload 5, 2) := by decide +kernel
theorem dX11_holdsOut_22 : decode cX11_holdsOut 22 = .ok (.iload_n 3, 1) := by decide +kernel
theorem dX11_holdsOut_23 : decode cX11_holdsOut 23 = .ok (.if_icmp .gt 51, 3) := by decide +kernel
theorem dX11_holdsOut_26 : decode cX11_holdsOut 26 = .ok (.aload_n 0, 1) := by decide +kernel
theorem dX11_holdsOut_27 : decode cX11_holdsOut 27 = .ok (.getfield 10, 3) := by decide +kernel
theorem dX11_holdsOut_30 : decode cX11_holdsOut 30 = .ok (.iload 5, 2) := by decide +kernel
theorem dX11_holdsOut_32 : decode cX11_holdsOut 32 = .ok (.iload_n 1, 1) := by decide +kernel
theorem dX11_holdsOut_33 : decode cX11_holdsOut 33 = .ok (.iload 4, 2) := by decide +kernel
theorem dX11_holdsOut_35 : decode cX11_holdsOut 35 = .ok (.invokevirtual 224, 3) := by decide +kernel
theorem dX11_holdsOut_38 : decode cX11_holdsOut 38 = .ok (.ifCond .le 5, 3) := by decide +kernel
theorem dX11_holdsOut_41 : decode cX11_holdsOut 41 = .ok (.iconst 0, 1) := by decide +kernel
theorem dX11_holdsOut_42 : decode cX11_holdsOut 42 = .ok (.ireturn, 1) := by decide +kernel
theorem dX11_holdsOut_43 : decode cX11_holdsOut 43 = .ok (.aload_n 0, 1) := by decide +kernel
theorem dX11_holdsOut_44 : decode cX11_holdsOut 44 = .ok (.getfield 10, 3) := by decide +kernel
theorem dX11_holdsOut_47 : decode cX11_holdsOut 47 = .ok (.iload 5, 2) := by decide +kernel
theorem dX11_holdsOut_49 : decode cX11_holdsOut 49 = .ok (.iload_n 1, 1) := by decide +kernel
theorem dX11_holdsOut_50 : decode cX11_holdsOut 50 = .ok (.iload 4, 2) := by decide +kernel
theorem dX11_holdsOut_52 : decode cX11_holdsOut 52 = .ok (.iload 5, 2) := by decide +kernel
theorem dX11_holdsOut_54 : decode cX11_holdsOut 54 = .ok (.iload_n 2, 1) := by decide +kernel
theorem dX11_holdsOut_55 : decode cX11_holdsOut 55 = .ok (.if_icmp .lt 7, 3) := by decide +kernel
theorem dX11_holdsOut_58 : decode cX11_holdsOut 58 = .ok (.iconst 1, 1) := by decide +kernel
theorem dX11_holdsOut_59 : decode cX11_holdsOut 59 = .ok (.goto 4, 3) := by decide +kernel
theorem dX11_holdsOut_62 : decode cX11_holdsOut 62 = .ok (.iconst 0, 1) := by decide +kernel
theorem dX11_holdsOut_63 : decode cX11_holdsOut 63 = .ok (.invokevirtual 217, 3) := by decide +kernel
theorem dX11_holdsOut_66 : decode cX11_holdsOut 66 = .ok (.istore 4, 2) := by decide +kernel
theorem dX11_holdsOut_68 : decode cX11_holdsOut 68 = .ok (.iinc 5 1, 3) := by decide +kernel
theorem dX11_holdsOut_71 : decode cX11_holdsOut 71 = .ok (.goto (-51), 3) := by decide +kernel
theorem dX11_holdsOut_74 : decode cX11_holdsOut 74 = .ok (.iconst 1, 1) := by decide +kernel
theorem dX11_holdsOut_75 : decode cX11_holdsOut 75 = .ok (.ireturn, 1) := by decide +kernel
theorem dX11_says_0 : decode cX11_says 0 = .ok (.aload_n 0, 1) := by decide +kernel
theorem dX11_says_1 : decode cX11_says 1 = .ok (.iload_n 1, 1) := by decide +kernel
theorem dX11_says_2 : decode cX11_says 2 = .ok (.invokevirtual 123, 3) := by decide +kernel
theorem dX11_says_5 : decode cX11_says 5 = .ok (.ifCond .eq 34, 3) := by decide +kernel
theorem dX11_says_8 : decode cX11_says 8 = .ok (.iload_n 2, 1) := by decide +kernel
theorem dX11_says_9 : decode cX11_says 9 = .ok (.iconst 0, 1) := by decide +kernel
theorem dX11_says_10 : decode cX11_says 10 = .ok (.bipush 100, 2) := by decide +kernel
theorem dX11_says_12 : decode cX11_says 12 = .ok (.invokestatic 144, 3) := by decide +kernel
theorem dX11_says_15 : decode cX11_says 15 = .ok (.ifCond .eq 24, 3) := by decide +kernel
theorem dX11_says_18 : decode cX11_says 18 = .ok (.iload_n 3, 1) := by decide +kernel
theorem dX11_says_19 : decode cX11_says 19 = .ok (.iconst 1, 1) := by decide +kernel
theorem dX11_says_20 : decode cX11_says 20 = .ok (.bipush 20, 2) := by decide +kernel
theorem dX11_says_22 : decode cX11_says 22 = .ok (.invokestatic 144, 3) := by decide +kernel
theorem dX11_says_25 : decode cX11_says 25 = .ok (.ifCond .eq 14, 3) := by decide +kernel
theorem dX11_says_28 : decode cX11_says 28 = .ok (.iload 4, 2) := by decide +kernel
theorem dX11_says_30 : decode cX11_says 30 = .ok (.iconst 0, 1) := by decide +kernel
theorem dX11_says_31 : decode cX11_says 31 = .ok (.bipush 100, 2) := by decide +kernel
theorem dX11_says_33 : decode cX11_says 33 = .ok (.invokestatic 144, 3) := by decide +kernel
theorem dX11_says_36 : decode cX11_says 36 = .ok (.ifCond .ne 5, 3) := by decide +kernel
theorem dX11_says_39 : decode cX11_says 39 = .ok (.iconst (-1), 1) := by decide +kernel
theorem dX11_says_40 : decode cX11_says 40 = .ok (.ireturn, 1) := by decide +kernel
theorem dX11_says_41 : decode cX11_says 41 = .ok (.aload_n 0, 1) := by decide +kernel
theorem dX11_says_42 : decode cX11_says 42 = .ok (.getfield 75, 3) := by decide +kernel
theorem dX11_says_45 : decode cX11_says 45 = .ok (.bipush 6, 2) := by decide +kernel
theorem dX11_says_47 : decode cX11_says 47 = .ok (.if_icmp .lt 6, 3) := by decide +kernel
theorem dX11_says_50 : decode cX11_says 50 = .ok (.bipush (-3), 2) := by decide +kernel
theorem dX11_says_52 : decode cX11_says 52 = .ok (.ireturn, 1) := by decide +kernel
theorem dX11_says_53 : decode cX11_says 53 = .ok (.aload_n 0, 1) := by decide +kernel
theorem dX11_says_54 : decode cX11_says 54 = .ok (.getfield 62, 3) := by decide +kernel
theorem dX11_says_57 : decode cX11_says 57 = .ok (.aload_n 0, 1) := by decide +kernel
theorem dX11_says_58 : decode cX11_says 58 = .ok (.getfield 75, 3) := by decide +kernel
theorem dX11_says_61 : decode cX11_says 61 = .ok (.iload_n 1, 1) := by decide +kernel
theorem dX11_says_62 : decode cX11_says 62 = .ok (.iastore, 1) := by decide +kernel
theorem dX11_says_63 : decode cX11_says 63 = .ok (.aload_n 0, 1) := by decide +kernel
theorem dX11_says_64 : decode cX11_says 64 = .ok (.getfield 66, 3) := by decide +kernel
theorem dX11_says_67 : decode cX11_says 67 = .ok (.aload_n 0, 1) := by decide +kernel
theorem dX11_says_68 : decode cX11_says 68 = .ok (.getfield 75, 3) := by decide +kernel
theorem dX11_says_71 : decode cX11_says 71 = .ok (.iload_n 2, 1) := by decide +kernel
theorem dX11_says_72 : decode cX11_says 72 = .ok (.iastore, 1) := by decide +kernel
theorem dX11_says_73 : decode cX11_says 73 = .ok (.aload_n 0, 1) := by decide +kernel
theorem dX11_says_74 : decode cX11_says 74 = .ok (.getfield 69, 3) := by decide +kernel
theorem dX11_says_77 : decode cX11_says 77 = .ok (.aload_n 0, 1) := by decide +kernel
theorem dX11_says_78 : decode cX11_says 78 = .ok (.getfield 75, 3) := by decide +kernel
theorem dX11_says_81 : decode cX11_says 81 = .ok (.iload_n 3, 1) := by decide +kernel
theorem dX11_says_82 : decode cX11_says 82 = .ok (.iastore, 1) := by decide +kernel
theorem dX11_says_83 : decode cX11_says 83 = .ok (.aload_n 0, 1) := by decide +kernel
theorem dX11_says_84 : decode cX11_says 84 = .ok (.getfield 72, 3) := by decide +kernel
theorem dX11_says_87 : decode cX11_says 87 = .ok (.aload_n 0, 1) := by decide +kernel
theorem dX11_says_88 : decode cX11_says 88 = .ok (.getfield 75, 3) := by decide +kernel
theorem dX11_says_91 : decode cX11_says 91 = .ok (.iload 4, 2) := by decide +kernel
theorem dX11_says_93 : decode cX11_says 93 = .ok (.iastore, 1) := by decide +kernel
theorem dX11_says_94 : decode cX11_says 94 = .ok (.aload_n 0, 1) := by decide +kernel
theorem dX11_says_95 : decode cX11_says 95 = .ok (.dup, 1) := by decide +kernel
theorem dX11_says_96 : decode cX11_says 96 = .ok (.getfield 75, 3) := by decide +kernel
theorem dX11_says_99 : decode cX11_says 99 = .ok (.iconst 1, 1) := by decide +kernel
theorem dX11_says_100 : decode cX11_says 100 = .ok (.iadd, 1) := by decide +kernel
theorem dX11_says_101 : decode cX11_says 101 = .ok (.putfield 75, 3) := by decide +kernel
theorem dX11_says_104 : decode cX11_says 104 = .ok (.aload_n 0, 1) := by decide +kernel
theorem dX11_says_105 : decode cX11_says 105 = .ok (.getfield 75, 3) := by decide +kernel
theorem dX11_says_108 : decode cX11_says 108 = .ok (.ireturn, 1) := by decide +kernel
theorem dX11_forget_0 : decode cX11_forget 0 = .ok (.aload_n 0, 1) := by decide +kernel
theorem dX11_forget_1 : decode cX11_forget 1 = .ok (.getfield 75, 3) := by decide +kernel
theorem dX11_forget_4 : decode cX11_forget 4 = .ok (.istore_n 1, 1) := by decide +kernel
theorem dX11_forget_5 : decode cX11_forget 5 = .ok (.aload_n 0, 1) := by decide +kernel
theorem dX11_forget_6 : decode cX11_forget 6 = .ok (.iconst 0, 1) := by decide +kernel
theorem dX11_forget_7 : decode cX11_forget 7 = .ok (.putfield 75, 3) := by decide +kernel
theorem dX11_forget_10 : decode cX11_forget 10 = .ok (.iload_n 1, 1) := by decide +kernel
theorem dX11_forget_11 : decode cX11_forget 11 = .ok (.ireturn, 1) := by decide +kernel
theorem dX11_could_0 : decode cX11_could 0 = .ok (.iload_n 1, 1) := by decide +kernel
theorem dX11_could_1 : decode cX11_could 1 = .ok (.iconst 0, 1) := by decide +kernel
theorem dX11_could_2 : decode cX11_could 2 = .ok (.aload_n 0, 1) := by decide +kernel
theorem dX11_could_3 : decode cX11_could 3 = .ok (.getfield 75, 3) := by decide +kernel
theorem dX11_could_6 : decode cX11_could 6 = .ok (.iconst 1, 1) := by decide +kernel
theorem dX11_could_7 : decode cX11_could 7 = .ok (.isub, 1) := by decide +kernel
theorem dX11_could_8 : decode cX11_could 8 = .ok (.invokestatic 144, 3) := by decide +kernel
theorem dX11_could_11 : decode cX11_could 11 = .ok (.ifCond .eq 12, 3) := by decide +kernel
theorem dX11_could_14 : decode cX11_could 14 = .ok (.iload_n 2, 1) := by decide +kernel
theorem dX11_could_15 : decode cX11_could 15 = .ok (.iconst 0, 1) := by decide +kernel
theorem dX11_could_16 : decode cX11_could 16 = .ok (.iconst 2, 1) := by decide +kernel
theorem dX11_could_17 : decode cX11_could 17 = .ok (.invokestatic 144, 3) := by decide +kernel
theorem dX11_could_20 : decode cX11_could 20 = .ok (.ifCond .ne 5, 3) := by decide +kernel
theorem dX11_could_23 : decode cX11_could 23 = .ok (.iconst (-1), 1) := by decide +kernel
theorem dX11_could_24 : decode cX11_could 24 = .ok (.ireturn, 1) := by decide +kernel
theorem dX11_could_25 : decode cX11_could 25 = .ok (.iconst 0, 1) := by decide +kernel
theorem dX11_could_26 : decode cX11_could 26 = .ok (.istore_n 3, 1) := by decide +kernel
theorem dX11_could_27 : decode cX11_could 27 = .ok (.bipush (-9), 2) := by decide +kernel
theorem dX11_could_29 : decode cX11_could 29 = .ok (.istore 4, 2) := by decide +kernel
theorem dX11_could_31 : decode cX11_could 31 = .ok (.bipush (-9), 2) := by decide +kernel
theorem dX11_could_33 : decode cX11_could 33 = .ok (.istore 5, 2) := by decide +kernel
theorem dX11_could_35 : decode cX11_could 35 = .ok (.iconst 0, 1) := by decide +kernel
theorem dX11_could_36 : decode cX11_could 36 = .ok (.istore 6, 2) := by decide +kernel
theorem dX11_could_38 : decode cX11_could 38 = .ok (.iload 6, 2) := by decide +kernel
theorem dX11_could_40 : decode cX11_could 40 = .ok (.bipush 100, 2) := by decide +kernel
theorem dX11_could_42 : decode cX11_could 42 = .ok (.if_icmp .gt 40, 3) := by decide +kernel
theorem dX11_could_45 : decode cX11_could 45 = .ok (.aload_n 0, 1) := by decide +kernel
theorem dX11_could_46 : decode cX11_could 46 = .ok (.iload_n 1, 1) := by decide +kernel
theorem dX11_could_47 : decode cX11_could 47 = .ok (.iload 6, 2) := by decide +kernel
theorem dX11_could_49 : decode cX11_could 49 = .ok (.invokevirtual 228, 3) := by decide +kernel
theorem dX11_could_52 : decode cX11_could 52 = .ok (.ifCond .eq 24, 3) := by decide +kernel
theorem dX11_could_55 : decode cX11_could 55 = .ok (.iinc 3 1, 3) := by decide +kernel
theorem dX11_could_58 : decode cX11_could 58 = .ok (.iload_n 3, 1) := by decide +kernel
theorem dX11_could_59 : decode cX11_could 59 = .ok (.iconst 1, 1) := by decide +kernel
theorem dX11_could_60 : decode cX11_could 60 = .ok (.if_icmp .ne 8, 3) := by decide +kernel
theorem dX11_could_63 : decode cX11_could 63 = .ok (.iload 6, 2) := by decide +kernel
theorem dX11_could_65 : decode cX11_could 65 = .ok (.goto 5, 3) := by decide +kernel
theorem dX11_could_68 : decode cX11_could 68 = .ok (.iload 4, 2) := by decide +kernel
theorem dX11_could_70 : decode cX11_could 70 = .ok (.istore 4, 2) := by decide +kernel
theorem dX11_could_72 : decode cX11_could 72 = .ok (.iload 6, 2) := by decide +kernel
theorem dX11_could_74 : decode cX11_could 74 = .ok (.istore 5, 2) := by decide +kernel
theorem dX11_could_76 : decode cX11_could 76 = .ok (.iinc 6 1, 3) := by decide +kernel
theorem dX11_could_79 : decode cX11_could 79 = .ok (.goto (-41), 3) := by decide +kernel
theorem dX11_could_82 : decode cX11_could 82 = .ok (.iload_n 2, 1) := by decide +kernel
theorem dX11_could_83 : decode cX11_could 83 = .ok (.ifCond .ne 7, 3) := by decide +kernel
theorem dX11_could_86 : decode cX11_could 86 = .ok (.iload_n 3, 1) := by decide +kernel
theorem dX11_could_87 : decode cX11_could 87 = .ok (.goto 15, 3) := by decide +kernel
theorem dX11_could_90 : decode cX11_could 90 = .ok (.iload_n 2, 1) := by decide +kernel
theorem dX11_could_91 : decode cX11_could 91 = .ok (.iconst 1, 1) := by decide +kernel
theorem dX11_could_92 : decode cX11_could 92 = .ok (.if_icmp .ne 8, 3) := by decide +kernel
theorem dX11_could_95 : decode cX11_could 95 = .ok (.iload 4, 2) := by decide +kernel
theorem dX11_could_97 : decode cX11_could 97 = .ok (.goto 5, 3) := by decide +kernel
theorem dX11_could_100 : decode cX11_could 100 = .ok (.iload 5, 2) := by decide +kernel
theorem dX11_could_102 : decode cX11_could 102 = .ok (.ireturn, 1) := by decide +kernel
theorem dX11_liars_0 : decode cX11_liars 0 = .ok (.iconst 0, 1) := by decide +kernel
theorem dX11_liars_1 : decode cX11_liars 1 = .ok (.istore_n 1, 1) := by decide +kernel
theorem dX11_liars_2 : decode cX11_liars 2 = .ok (.iconst 0, 1) := by decide +kernel
theorem dX11_liars_3 : decode cX11_liars 3 = .ok (.istore_n 2, 1) := by decide +kernel
theorem dX11_liars_4 : decode cX11_liars 4 = .ok (.iload_n 2, 1) := by decide +kernel
theorem dX11_liars_5 : decode cX11_liars 5 = .ok (.aload_n 0, 1) := by decide +kernel
theorem dX11_liars_6 : decode cX11_liars 6 = .ok (.getfield 75, 3) := by decide +kernel
theorem dX11_liars_9 : decode cX11_liars 9 = .ok (.if_icmp .ge 29, 3) := by decide +kernel
theorem dX11_liars_12 : decode cX11_liars 12 = .ok (.aload_n 0, 1) := by decide +kernel
theorem dX11_liars_13 : decode cX11_liars 13 = .ok (.iload_n 2, 1) := by decide +kernel
theorem dX11_liars_14 : decode cX11_liars 14 = .ok (.aload_n 0, 1) := by decide +kernel
theorem dX11_liars_15 : decode cX11_liars 15 = .ok (.getfield 66, 3) := by decide +kernel
theorem dX11_liars_18 : decode cX11_liars 18 = .ok (.iload_n 2, 1) := by decide +kernel
theorem dX11_liars_19 : decode cX11_liars 19 = .ok (.iaload, 1) := by decide +kernel
theorem dX11_liars_20 : decode cX11_liars 20 = .ok (.invokevirtual 228, 3) := by decide +kernel
theorem dX11_liars_23 : decode cX11_liars 23 = .ok (.ifCond .ne 9, 3) := by decide +kernel
theorem dX11_liars_26 : decode cX11_liars 26 = .ok (.iload_n 1, 1) := by decide +kernel
theorem dX11_liars_27 : decode cX11_liars 27 = .ok (.iconst 1, 1) := by decide +kernel
theorem dX11_liars_28 : decode cX11_liars 28 = .ok (.iload_n 2, 1) := by decide +kernel
theorem dX11_liars_29 : decode cX11_liars 29 = .ok (.ishl, 1) := by decide +kernel
theorem dX11_liars_30 : decode cX11_liars 30 = .ok (.ior, 1) := by decide +kernel
theorem dX11_liars_31 : decode cX11_liars 31 = .ok (.istore_n 1, 1) := by decide +kernel
theorem dX11_liars_32 : decode cX11_liars 32 = .ok (.iinc 2 1, 3) := by decide +kernel
theorem dX11_liars_35 : decode cX11_liars 35 = .ok (.goto (-31), 3) := by decide +kernel
theorem dX11_liars_38 : decode cX11_liars 38 = .ok (.iload_n 1, 1) := by decide +kernel
theorem dX11_liars_39 : decode cX11_liars 39 = .ok (.ireturn, 1) := by decide +kernel
theorem dX11_leadsToWhatWasSeen_0 : decode cX11_leadsToWhatWasSeen 0 = .ok (.iload_n 2, 1) := by decide +kernel
theorem dX11_leadsToWhatWasSeen_1 : decode cX11_leadsToWhatWasSeen 1 = .ok (.istore_n 3, 1) := by decide +kernel
theorem dX11_leadsToWhatWasSeen_2 : decode cX11_leadsToWhatWasSeen 2 = .ok (.iconst 0, 1) := by decide +kernel
theorem dX11_leadsToWhatWasSeen_3 : decode cX11_leadsToWhatWasSeen 3 = .ok (.istore 4, 2) := by decide +kernel
theorem dX11_leadsToWhatWasSeen_5 : decode cX11_leadsToWhatWasSeen 5 = .ok (.iload 4, 2) := by decide +kernel
theorem dX11_leadsToWhatWasSeen_7 : decode cX11_leadsToWhatWasSeen 7 = .ok (.aload_n 0, 1) := by decide +kernel
theorem dX11_leadsToWhatWasSeen_8 : decode cX11_leadsToWhatWasSeen 8 = .ok (.getfield 69, 3) := by decide +kernel
theorem dX11_leadsToWhatWasSeen_11 : decode cX11_leadsToWhatWasSeen 11 = .ok (.iload_n 1, 1) := by decide +kernel
theorem dX11_leadsToWhatWasSeen_12 : decode cX11_leadsToWhatWasSeen 12 = .ok (.iaload, 1) := by decide +kernel
theorem dX11_leadsToWhatWasSeen_13 : decode cX11_leadsToWhatWasSeen 13 = .ok (.if_icmp .ge 24, 3) := by decide +kernel
theorem dX11_leadsToWhatWasSeen_16 : decode cX11_leadsToWhatWasSeen 16 = .ok (.aload_n 0, 1) := by decide +kernel
theorem dX11_leadsToWhatWasSeen_17 : decode cX11_leadsToWhatWasSeen 17 = .ok (.getfield 10, 3) := by decide +kernel
theorem dX11_leadsToWhatWasSeen_20 : decode cX11_leadsToWhatWasSeen 20 = .ok (.aload_n 0, 1) := by decide +kernel
theorem dX11_leadsToWhatWasSeen_21 : decode cX11_leadsToWhatWasSeen 21 = .ok (.getfield 62, 3) := by decide +kernel
theorem dX11_leadsToWhatWasSeen_24 : decode cX11_leadsToWhatWasSeen 24 = .ok (.iload_n 1, 1) := by decide +kernel
theorem dX11_leadsToWhatWasSeen_25 : decode cX11_leadsToWhatWasSeen 25 = .ok (.iaload, 1) := by decide +kernel
theorem dX11_leadsToWhatWasSeen_26 : decode cX11_leadsToWhatWasSeen 26 = .ok (.iload_n 3, 1) := by decide +kernel
theorem dX11_leadsToWhatWasSeen_27 : decode cX11_leadsToWhatWasSeen 27 = .ok (.invokevirtual 232, 3) := by decide +kernel
theorem dX11_leadsToWhatWasSeen_30 : decode cX11_leadsToWhatWasSeen 30 = .ok (.istore_n 3, 1) := by decide +kernel
theorem dX11_leadsToWhatWasSeen_31 : decode cX11_leadsToWhatWasSeen 31 = .ok (.iinc 4 1, 3) := by decide +kernel
theorem dX11_leadsToWhatWasSeen_34 : decode cX11_leadsToWhatWasSeen 34 = .ok (.goto (-29), 3) := by decide +kernel
theorem dX11_leadsToWhatWasSeen_37 : decode cX11_leadsToWhatWasSeen 37 = .ok (.iload_n 3, 1) := by decide +kernel
theorem dX11_leadsToWhatWasSeen_38 : decode cX11_leadsToWhatWasSeen 38 = .ok (.aload_n 0, 1) := by decide +kernel
theorem dX11_leadsToWhatWasSeen_39 : decode cX11_leadsToWhatWasSeen 39 = .ok (.getfield 72, 3) := by decide +kernel
theorem dX11_leadsToWhatWasSeen_42 : decode cX11_leadsToWhatWasSeen 42 = .ok (.iload_n 1, 1) := by decide +kernel
theorem dX11_leadsToWhatWasSeen_43 : decode cX11_leadsToWhatWasSeen 43 = .ok (.iaload, 1) := by decide +kernel
theorem dX11_leadsToWhatWasSeen_44 : decode cX11_leadsToWhatWasSeen 44 = .ok (.if_icmp .ne 7, 3) := by decide +kernel
theorem dX11_leadsToWhatWasSeen_47 : decode cX11_leadsToWhatWasSeen 47 = .ok (.iconst 1, 1) := by decide +kernel
theorem dX11_leadsToWhatWasSeen_48 : decode cX11_leadsToWhatWasSeen 48 = .ok (.goto 4, 3) := by decide +kernel
theorem dX11_leadsToWhatWasSeen_51 : decode cX11_leadsToWhatWasSeen 51 = .ok (.iconst 0, 1) := by decide +kernel
theorem dX11_leadsToWhatWasSeen_52 : decode cX11_leadsToWhatWasSeen 52 = .ok (.ireturn, 1) := by decide +kernel
theorem dX11_odds_0 : decode cX11_odds 0 = .ok (.aload_n 0, 1) := by decide +kernel
theorem dX11_odds_1 : decode cX11_odds 1 = .ok (.iload_n 1, 1) := by decide +kernel
theorem dX11_odds_2 : decode cX11_odds 2 = .ok (.invokevirtual 123, 3) := by decide +kernel
theorem dX11_odds_5 : decode cX11_odds 5 = .ok (.ifCond .eq 44, 3) := by decide +kernel
theorem dX11_odds_8 : decode cX11_odds 8 = .ok (.iload_n 2, 1) := by decide +kernel
theorem dX11_odds_9 : decode cX11_odds 9 = .ok (.iconst 0, 1) := by decide +kernel
theorem dX11_odds_10 : decode cX11_odds 10 = .ok (.bipush 100, 2) := by decide +kernel
theorem dX11_odds_12 : decode cX11_odds 12 = .ok (.invokestatic 144, 3) := by decide +kernel
theorem dX11_odds_15 : decode cX11_odds 15 = .ok (.ifCond .eq 34, 3) := by decide +kernel
theorem dX11_odds_18 : decode cX11_odds 18 = .ok (.iload_n 3, 1) := by decide +kernel
theorem dX11_odds_19 : decode cX11_odds 19 = .ok (.iconst 0, 1) := by decide +kernel
theorem dX11_odds_20 : decode cX11_odds 20 = .ok (.bipush 10, 2) := by decide +kernel
theorem dX11_odds_22 : decode cX11_odds 22 = .ok (.invokestatic 144, 3) := by decide +kernel
theorem dX11_odds_25 : decode cX11_odds 25 = .ok (.ifCond .eq 24, 3) := by decide +kernel
theorem dX11_odds_28 : decode cX11_odds 28 = .ok (.iload 4, 2) := by decide +kernel
theorem dX11_odds_30 : decode cX11_odds 30 = .ok (.iconst 0, 1) := by decide +kernel
theorem dX11_odds_31 : decode cX11_odds 31 = .ok (.bipush 9, 2) := by decide +kernel
theorem dX11_odds_33 : decode cX11_odds 33 = .ok (.invokestatic 144, 3) := by decide +kernel
theorem dX11_odds_36 : decode cX11_odds 36 = .ok (.ifCond .eq 13, 3) := by decide +kernel
theorem dX11_odds_39 : decode cX11_odds 39 = .ok (.iload 5, 2) := by decide +kernel
theorem dX11_odds_41 : decode cX11_odds 41 = .ok (.iconst 0, 1) := by decide +kernel
theorem dX11_odds_42 : decode cX11_odds 42 = .ok (.iconst 1, 1) := by decide +kernel
theorem dX11_odds_43 : decode cX11_odds 43 = .ok (.invokestatic 144, 3) := by decide +kernel
theorem dX11_odds_46 : decode cX11_odds 46 = .ok (.ifCond .ne 7, 3) := by decide +kernel
theorem dX11_odds_49 : decode cX11_odds 49 = .ok (.ldc2_w 236, 3) := by decide +kernel
theorem dX11_odds_52 : decode cX11_odds 52 = .ok (.lreturn, 1) := by decide +kernel
theorem dX11_odds_53 : decode cX11_odds 53 = .ok (.aload_n 0, 1) := by decide +kernel
theorem dX11_odds_54 : decode cX11_odds 54 = .ok (.iload_n 1, 1) := by decide +kernel
theorem dX11_odds_55 : decode cX11_odds 55 = .ok (.iload_n 2, 1) := by decide +kernel
theorem dX11_odds_56 : decode cX11_odds 56 = .ok (.iload_n 3, 1) := by decide +kernel
theorem dX11_odds_57 : decode cX11_odds 57 = .ok (.aload_n 0, 1) := by decide +kernel
theorem dX11_odds_58 : decode cX11_odds 58 = .ok (.getfield 29, 3) := by decide +kernel
theorem dX11_odds_61 : decode cX11_odds 61 = .ok (.getfield 126, 3) := by decide +kernel
theorem dX11_odds_64 : decode cX11_odds 64 = .ok (.iload_n 1, 1) := by decide +kernel
theorem dX11_odds_65 : decode cX11_odds 65 = .ok (.iaload, 1) := by decide +kernel
theorem dX11_odds_66 : decode cX11_odds 66 = .ok (.iload 4, 2) := by decide +kernel
theorem dX11_odds_68 : decode cX11_odds 68 = .ok (.invokevirtual 238, 3) := by decide +kernel
theorem dX11_odds_71 : decode cX11_odds 71 = .ok (.lstore 6, 2) := by decide +kernel
theorem dX11_odds_73 : decode cX11_odds 73 = .ok (.lconst 1, 1) := by decide +kernel
theorem dX11_odds_74 : decode cX11_odds 74 = .ok (.lstore 8, 2) := by decide +kernel
theorem dX11_odds_76 : decode cX11_odds 76 = .ok (.iconst 0, 1) := by decide +kernel
theorem dX11_odds_77 : decode cX11_odds 77 = .ok (.istore 10, 2) := by decide +kernel
theorem dX11_odds_79 : decode cX11_odds 79 = .ok (.iload 10, 2) := by decide +kernel
theorem dX11_odds_81 : decode cX11_odds 81 = .ok (.iload 4, 2) := by decide +kernel
theorem dX11_odds_83 : decode cX11_odds 83 = .ok (.if_icmp .ge 17, 3) := by decide +kernel
theorem dX11_odds_86 : decode cX11_odds 86 = .ok (.lload 8, 2) := by decide +kernel
theorem dX11_odds_88 : decode cX11_odds 88 = .ok (.ldc2_w 242, 3) := by decide +kernel
theorem dX11_odds_91 : decode cX11_odds 91 = .ok (.lmul, 1) := by decide +kernel
theorem dX11_odds_92 : decode cX11_odds 92 = .ok (.lstore 8, 2) := by decide +kernel
theorem dX11_odds_94 : decode cX11_odds 94 = .ok (.iinc 10 1, 3) := by decide +kernel
theorem dX11_odds_97 : decode cX11_odds 97 = .ok (.goto (-18), 3) := by decide +kernel
theorem dX11_odds_100 : decode cX11_odds 100 = .ok (.lload 6, 2) := by decide +kernel
theorem dX11_odds_102 : decode cX11_odds 102 = .ok (.lload 8, 2) := by decide +kernel
theorem dX11_odds_104 : decode cX11_odds 104 = .ok (.invokestatic 244, 3) := by decide +kernel
theorem dX11_odds_107 : decode cX11_odds 107 = .ok (.lstore 10, 2) := by decide +kernel
theorem dX11_odds_109 : decode cX11_odds 109 = .ok (.lload 10, 2) := by decide +kernel
theorem dX11_odds_111 : decode cX11_odds 111 = .ok (.lconst 0, 1) := by decide +kernel
theorem dX11_odds_112 : decode cX11_odds 112 = .ok (.lcmp, 1) := by decide +kernel
theorem dX11_odds_113 : decode cX11_odds 113 = .ok (.ifCond .ne 7, 3) := by decide +kernel
theorem dX11_odds_116 : decode cX11_odds 116 = .ok (.ldc2_w 236, 3) := by decide +kernel
theorem dX11_odds_119 : decode cX11_odds 119 = .ok (.lreturn, 1) := by decide +kernel
theorem dX11_odds_120 : decode cX11_odds 120 = .ok (.iload 5, 2) := by decide +kernel
theorem dX11_odds_122 : decode cX11_odds 122 = .ok (.ifCond .ne 8, 3) := by decide +kernel
theorem dX11_odds_125 : decode cX11_odds 125 = .ok (.lload 6, 2) := by decide +kernel
theorem dX11_odds_127 : decode cX11_odds 127 = .ok (.goto 5, 3) := by decide +kernel
theorem dX11_odds_130 : decode cX11_odds 130 = .ok (.lload 8, 2) := by decide +kernel
theorem dX11_odds_132 : decode cX11_odds 132 = .ok (.lload 10, 2) := by decide +kernel
theorem dX11_odds_134 : decode cX11_odds 134 = .ok (.ldiv, 1) := by decide +kernel
theorem dX11_odds_135 : decode cX11_odds 135 = .ok (.lreturn, 1) := by decide +kernel
theorem dX11_waysOfTen_0 : decode cX11_waysOfTen 0 = .ok (.iload 5, 2) := by decide +kernel
theorem dX11_waysOfTen_2 : decode cX11_waysOfTen 2 = .ok (.ifCond .gt 15, 3) := by decide +kernel
theorem dX11_waysOfTen_5 : decode cX11_waysOfTen 5 = .ok (.iload 4, 2) := by decide +kernel
theorem dX11_waysOfTen_7 : decode cX11_waysOfTen 7 = .ok (.iload_n 2, 1) := by decide +kernel
theorem dX11_waysOfTen_8 : decode cX11_waysOfTen 8 = .ok (.if_icmp .lt 7, 3) := by decide +kernel
theorem dX11_waysOfTen_11 : decode cX11_waysOfTen 11 = .ok (.lconst 1, 1) := by decide +kernel
theorem dX11_waysOfTen_12 : decode cX11_waysOfTen 12 = .ok (.goto 4, 3) := by decide +kernel
theorem dX11_waysOfTen_15 : decode cX11_waysOfTen 15 = .ok (.lconst 0, 1) := by decide +kernel
theorem dX11_waysOfTen_16 : decode cX11_waysOfTen 16 = .ok (.lreturn, 1) := by decide +kernel
theorem dX11_waysOfTen_17 : decode cX11_waysOfTen 17 = .ok (.iload_n 3, 1) := by decide +kernel
theorem dX11_waysOfTen_18 : decode cX11_waysOfTen 18 = .ok (.i2l, 1) := by decide +kernel
theorem dX11_waysOfTen_19 : decode cX11_waysOfTen 19 = .ok (.aload_n 0, 1) := by decide +kernel
theorem dX11_waysOfTen_20 : decode cX11_waysOfTen 20 = .ok (.iload_n 1, 1) := by decide +kernel
theorem dX11_waysOfTen_21 : decode cX11_waysOfTen 21 = .ok (.iload_n 2, 1) := by decide +kernel
theorem dX11_waysOfTen_22 : decode cX11_waysOfTen 22 = .ok (.iload_n 3, 1) := by decide +kernel
theorem dX11_waysOfTen_23 : decode cX11_waysOfTen 23 = .ok (.aload_n 0, 1) := by decide +kernel
theorem dX11_waysOfTen_24 : decode cX11_waysOfTen 24 = .ok (.getfield 10, 3) := by decide +kernel
theorem dX11_waysOfTen_27 : decode cX11_waysOfTen 27 = .ok (.iload_n 1, 1) := by decide +kernel
theorem dX11_waysOfTen_28 : decode cX11_waysOfTen 28 = .ok (.iload 4, 2) := by decide +kernel
theorem dX11_waysOfTen_30 : decode cX11_waysOfTen 30 = .ok (.invokevirtual 248, 3) := by decide +kernel
theorem dX11_waysOfTen_33 : decode cX11_waysOfTen 33 = .ok (.iload 5, 2) := by decide +kernel
theorem dX11_waysOfTen_35 : decode cX11_waysOfTen 35 = .ok (.iconst 1, 1) := by decide +kernel
theorem dX11_waysOfTen_36 : decode cX11_waysOfTen 36 = .ok (.isub, 1) := by decide +kernel
theorem dX11_waysOfTen_37 : decode cX11_waysOfTen 37 = .ok (.invokevirtual 238, 3) := by decide +kernel
theorem dX11_waysOfTen_40 : decode cX11_waysOfTen 40 = .ok (.lmul, 1) := by decide +kernel
theorem dX11_waysOfTen_41 : decode cX11_waysOfTen 41 = .ok (.bipush 10, 2) := by decide +kernel
theorem dX11_waysOfTen_43 : decode cX11_waysOfTen 43 = .ok (.iload_n 3, 1) := by decide +kernel
theorem dX11_waysOfTen_44 : decode cX11_waysOfTen 44 = .ok (.isub, 1) := by decide +kernel
theorem dX11_waysOfTen_45 : decode cX11_waysOfTen 45 = .ok (.i2l, 1) := by decide +kernel
theorem dX11_waysOfTen_46 : decode cX11_waysOfTen 46 = .ok (.aload_n 0, 1) := by decide +kernel
theorem dX11_waysOfTen_47 : decode cX11_waysOfTen 47 = .ok (.iload_n 1, 1) := by decide +kernel
theorem dX11_waysOfTen_48 : decode cX11_waysOfTen 48 = .ok (.iload_n 2, 1) := by decide +kernel
theorem dX11_waysOfTen_49 : decode cX11_waysOfTen 49 = .ok (.iload_n 3, 1) := by decide +kernel
theorem dX11_waysOfTen_50 : decode cX11_waysOfTen 50 = .ok (.aload_n 0, 1) := by decide +kernel
theorem dX11_waysOfTen_51 : decode cX11_waysOfTen 51 = .ok (.getfield 10, 3) := by decide +kernel
theorem dX11_waysOfTen_54 : decode cX11_waysOfTen 54 = .ok (.iload_n 1, 1) := by decide +kernel
theorem dX11_waysOfTen_55 : decode cX11_waysOfTen 55 = .ok (.iload 4, 2) := by decide +kernel
theorem dX11_waysOfTen_57 : decode cX11_waysOfTen 57 = .ok (.invokevirtual 232, 3) := by decide +kernel
theorem dX11_waysOfTen_60 : decode cX11_waysOfTen 60 = .ok (.iload 5, 2) := by decide +kernel
theorem dX11_waysOfTen_62 : decode cX11_waysOfTen 62 = .ok (.iconst 1, 1) := by decide +kernel
theorem dX11_waysOfTen_63 : decode cX11_waysOfTen 63 = .ok (.isub, 1) := by decide +kernel
theorem dX11_waysOfTen_64 : decode cX11_waysOfTen 64 = .ok (.invokevirtual 238, 3) := by decide +kernel
theorem dX11_waysOfTen_67 : decode cX11_waysOfTen 67 = .ok (.lmul, 1) := by decide +kernel
theorem dX11_waysOfTen_68 : decode cX11_waysOfTen 68 = .ok (.ladd, 1) := by decide +kernel
theorem dX11_waysOfTen_69 : decode cX11_waysOfTen 69 = .ok (.lreturn, 1) := by decide +kernel
theorem dX11_greatestDivisor_0 : decode cX11_greatestDivisor 0 = .ok (.lload_n 2, 1) := by decide +kernel
theorem dX11_greatestDivisor_1 : decode cX11_greatestDivisor 1 = .ok (.lstore 4, 2) := by decide +kernel
theorem dX11_greatestDivisor_3 : decode cX11_greatestDivisor 3 = .ok (.lload_n 0, 1) := by decide +kernel
theorem dX11_greatestDivisor_4 : decode cX11_greatestDivisor 4 = .ok (.lstore 6, 2) := by decide +kernel
theorem dX11_greatestDivisor_6 : decode cX11_greatestDivisor 6 = .ok (.iconst 0, 1) := by decide +kernel
theorem dX11_greatestDivisor_7 : decode cX11_greatestDivisor 7 = .ok (.istore 8, 2) := by decide +kernel
theorem dX11_greatestDivisor_9 : decode cX11_greatestDivisor 9 = .ok (.iload 8, 2) := by decide +kernel
theorem dX11_greatestDivisor_11 : decode cX11_greatestDivisor 11 = .ok (.bipush 100, 2) := by decide +kernel
theorem dX11_greatestDivisor_13 : decode cX11_greatestDivisor 13 = .ok (.if_icmp .ge 31, 3) := by decide +kernel
theorem dX11_greatestDivisor_16 : decode cX11_greatestDivisor 16 = .ok (.lload 6, 2) := by decide +kernel
theorem dX11_greatestDivisor_18 : decode cX11_greatestDivisor 18 = .ok (.lconst 0, 1) := by decide +kernel
theorem dX11_greatestDivisor_19 : decode cX11_greatestDivisor 19 = .ok (.lcmp, 1) := by decide +kernel
theorem dX11_greatestDivisor_20 : decode cX11_greatestDivisor 20 = .ok (.ifCond .eq 24, 3) := by decide +kernel
theorem dX11_greatestDivisor_23 : decode cX11_greatestDivisor 23 = .ok (.lload 4, 2) := by decide +kernel
theorem dX11_greatestDivisor_25 : decode cX11_greatestDivisor 25 = .ok (.lload 6, 2) := by decide +kernel
theorem dX11_greatestDivisor_27 : decode cX11_greatestDivisor 27 = .ok (.lrem, 1) := by decide +kernel
theorem dX11_greatestDivisor_28 : decode cX11_greatestDivisor 28 = .ok (.lstore 9, 2) := by decide +kernel
theorem dX11_greatestDivisor_30 : decode cX11_greatestDivisor 30 = .ok (.lload 6, 2) := by decide +kernel
theorem dX11_greatestDivisor_32 : decode cX11_greatestDivisor 32 = .ok (.lstore 4, 2) := by decide +kernel
theorem dX11_greatestDivisor_34 : decode cX11_greatestDivisor 34 = .ok (.lload 9, 2) := by decide +kernel
theorem dX11_greatestDivisor_36 : decode cX11_greatestDivisor 36 = .ok (.lstore 6, 2) := by decide +kernel
theorem dX11_greatestDivisor_38 : decode cX11_greatestDivisor 38 = .ok (.iinc 8 1, 3) := by decide +kernel
theorem dX11_greatestDivisor_41 : decode cX11_greatestDivisor 41 = .ok (.goto (-32), 3) := by decide +kernel
theorem dX11_greatestDivisor_44 : decode cX11_greatestDivisor 44 = .ok (.lload 4, 2) := by decide +kernel
theorem dX11_greatestDivisor_46 : decode cX11_greatestDivisor 46 = .ok (.lreturn, 1) := by decide +kernel
theorem dX11_rate_0 : decode cX11_rate 0 = .ok (.iload_n 1, 1) := by decide +kernel
theorem dX11_rate_1 : decode cX11_rate 1 = .ok (.iconst 0, 1) := by decide +kernel
theorem dX11_rate_2 : decode cX11_rate 2 = .ok (.iconst 5, 1) := by decide +kernel
theorem dX11_rate_3 : decode cX11_rate 3 = .ok (.invokestatic 144, 3) := by decide +kernel
theorem dX11_rate_6 : decode cX11_rate 6 = .ok (.ifCond .eq 11, 3) := by decide +kernel
theorem dX11_rate_9 : decode cX11_rate 9 = .ok (.aload_n 0, 1) := by decide +kernel
theorem dX11_rate_10 : decode cX11_rate 10 = .ok (.iload_n 2, 1) := by decide +kernel
theorem dX11_rate_11 : decode cX11_rate 11 = .ok (.invokevirtual 123, 3) := by decide +kernel
theorem dX11_rate_14 : decode cX11_rate 14 = .ok (.ifCond .ne 6, 3) := by decide +kernel
theorem dX11_rate_17 : decode cX11_rate 17 = .ok (.ldc 251, 2) := by decide +kernel
theorem dX11_rate_19 : decode cX11_rate 19 = .ok (.ireturn, 1) := by decide +kernel
theorem dX11_rate_20 : decode cX11_rate 20 = .ok (.aload_n 0, 1) := by decide +kernel
theorem dX11_rate_21 : decode cX11_rate 21 = .ok (.getfield 49, 3) := by decide +kernel
theorem dX11_rate_24 : decode cX11_rate 24 = .ok (.iload_n 1, 1) := by decide +kernel
theorem dX11_rate_25 : decode cX11_rate 25 = .ok (.aaload, 1) := by decide +kernel
theorem dX11_rate_26 : decode cX11_rate 26 = .ok (.astore_n 3, 1) := by decide +kernel
theorem dX11_rate_27 : decode cX11_rate 27 = .ok (.aload_n 3, 1) := by decide +kernel
theorem dX11_rate_28 : decode cX11_rate 28 = .ok (.ifnonnull 8, 3) := by decide +kernel
theorem dX11_rate_31 : decode cX11_rate 31 = .ok (.ldc 251, 2) := by decide +kernel
theorem dX11_rate_33 : decode cX11_rate 33 = .ok (.goto 9, 3) := by decide +kernel
theorem dX11_rate_36 : decode cX11_rate 36 = .ok (.aload_n 3, 1) := by decide +kernel
theorem dX11_rate_37 : decode cX11_rate 37 = .ok (.aload_n 0, 1) := by decide +kernel
theorem dX11_rate_38 : decode cX11_rate 38 = .ok (.iload_n 2, 1) := by decide +kernel
theorem dX11_rate_39 : decode cX11_rate 39 = .ok (.invokevirtual 252, 3) := by decide +kernel
theorem dX11_rate_42 : decode cX11_rate 42 = .ok (.ireturn, 1) := by decide +kernel
theorem dX11_keep_0 : decode cX11_keep 0 = .ok (.iload_n 1, 1) := by decide +kernel
theorem dX11_keep_1 : decode cX11_keep 1 = .ok (.iconst 0, 1) := by decide +kernel
theorem dX11_keep_2 : decode cX11_keep 2 = .ok (.iconst 1, 1) := by decide +kernel
theorem dX11_keep_3 : decode cX11_keep 3 = .ok (.invokestatic 144, 3) := by decide +kernel
theorem dX11_keep_6 : decode cX11_keep 6 = .ok (.ifCond .ne 5, 3) := by decide +kernel
theorem dX11_keep_9 : decode cX11_keep 9 = .ok (.iconst (-1), 1) := by decide +kernel
theorem dX11_keep_10 : decode cX11_keep 10 = .ok (.ireturn, 1) := by decide +kernel
theorem dX11_keep_11 : decode cX11_keep 11 = .ok (.aload_n 0, 1) := by decide +kernel
theorem dX11_keep_12 : decode cX11_keep 12 = .ok (.getfield 29, 3) := by decide +kernel
theorem dX11_keep_15 : decode cX11_keep 15 = .ok (.aload_n 0, 1) := by decide +kernel
theorem dX11_keep_16 : decode cX11_keep 16 = .ok (.getfield 55, 3) := by decide +kernel
theorem dX11_keep_19 : decode cX11_keep 19 = .ok (.iload_n 1, 1) := by decide +kernel
theorem dX11_keep_20 : decode cX11_keep 20 = .ok (.aaload, 1) := by decide +kernel
theorem dX11_keep_21 : decode cX11_keep 21 = .ok (.invokevirtual 256, 3) := by decide +kernel
theorem dX11_keep_24 : decode cX11_keep 24 = .ok (.aload_n 0, 1) := by decide +kernel
theorem dX11_keep_25 : decode cX11_keep 25 = .ok (.getfield 58, 3) := by decide +kernel
theorem dX11_keep_28 : decode cX11_keep 28 = .ok (.iload_n 1, 1) := by decide +kernel
theorem dX11_keep_29 : decode cX11_keep 29 = .ok (.iconst 1, 1) := by decide +kernel
theorem dX11_keep_30 : decode cX11_keep 30 = .ok (.bastore, 1) := by decide +kernel
theorem dX11_keep_31 : decode cX11_keep 31 = .ok (.aload_n 0, 1) := by decide +kernel
theorem dX11_keep_32 : decode cX11_keep 32 = .ok (.getfield 29, 3) := by decide +kernel
theorem dX11_keep_35 : decode cX11_keep 35 = .ok (.getfield 173, 3) := by decide +kernel
theorem dX11_keep_38 : decode cX11_keep 38 = .ok (.ireturn, 1) := by decide +kernel
theorem dX11_back_0 : decode cX11_back 0 = .ok (.iload_n 1, 1) := by decide +kernel
theorem dX11_back_1 : decode cX11_back 1 = .ok (.iconst 0, 1) := by decide +kernel
theorem dX11_back_2 : decode cX11_back 2 = .ok (.iconst 1, 1) := by decide +kernel
theorem dX11_back_3 : decode cX11_back 3 = .ok (.invokestatic 144, 3) := by decide +kernel
theorem dX11_back_6 : decode cX11_back 6 = .ok (.ifCond .ne 5, 3) := by decide +kernel
theorem dX11_back_9 : decode cX11_back 9 = .ok (.iconst (-1), 1) := by decide +kernel
theorem dX11_back_10 : decode cX11_back 10 = .ok (.ireturn, 1) := by decide +kernel
theorem dX11_back_11 : decode cX11_back 11 = .ok (.aload_n 0, 1) := by decide +kernel
theorem dX11_back_12 : decode cX11_back 12 = .ok (.getfield 58, 3) := by decide +kernel
theorem dX11_back_15 : decode cX11_back 15 = .ok (.iload_n 1, 1) := by decide +kernel
theorem dX11_back_16 : decode cX11_back 16 = .ok (.baload, 1) := by decide +kernel
theorem dX11_back_17 : decode cX11_back 17 = .ok (.ifCond .ne 6, 3) := by decide +kernel
theorem dX11_back_20 : decode cX11_back 20 = .ok (.bipush (-2), 2) := by decide +kernel
theorem dX11_back_22 : decode cX11_back 22 = .ok (.ireturn, 1) := by decide +kernel
theorem dX11_back_23 : decode cX11_back 23 = .ok (.aload_n 0, 1) := by decide +kernel
theorem dX11_back_24 : decode cX11_back 24 = .ok (.getfield 29, 3) := by decide +kernel
theorem dX11_back_27 : decode cX11_back 27 = .ok (.aload_n 0, 1) := by decide +kernel
theorem dX11_back_28 : decode cX11_back 28 = .ok (.getfield 55, 3) := by decide +kernel
theorem dX11_back_31 : decode cX11_back 31 = .ok (.iload_n 1, 1) := by decide +kernel
theorem dX11_back_32 : decode cX11_back 32 = .ok (.aaload, 1) := by decide +kernel
theorem dX11_back_33 : decode cX11_back 33 = .ok (.invokevirtual 260, 3) := by decide +kernel
theorem dX11_back_36 : decode cX11_back 36 = .ok (.aload_n 0, 1) := by decide +kernel
theorem dX11_back_37 : decode cX11_back 37 = .ok (.getfield 36, 3) := by decide +kernel
theorem dX11_back_40 : decode cX11_back 40 = .ok (.iconst 0, 1) := by decide +kernel
theorem dX11_back_41 : decode cX11_back 41 = .ok (.putfield 120, 3) := by decide +kernel
theorem dX11_back_44 : decode cX11_back 44 = .ok (.aload_n 0, 1) := by decide +kernel
theorem dX11_back_45 : decode cX11_back 45 = .ok (.getfield 29, 3) := by decide +kernel
theorem dX11_back_48 : decode cX11_back 48 = .ok (.getfield 173, 3) := by decide +kernel
theorem dX11_back_51 : decode cX11_back 51 = .ok (.ireturn, 1) := by decide +kernel
theorem dX11_count_0 : decode cX11_count 0 = .ok (.iload_n 1, 1) := by decide +kernel
theorem dX11_count_1 : decode cX11_count 1 = .ok (.tableswitch 84 0 5 #[39, 47, 55, 63, 71, 76], 39) := by decide +kernel
theorem dX11_count_40 : decode cX11_count 40 = .ok (.aload_n 0, 1) := by decide +kernel
theorem dX11_count_41 : decode cX11_count 41 = .ok (.getfield 10, 3) := by decide +kernel
theorem dX11_count_44 : decode cX11_count 44 = .ok (.getfield 179, 3) := by decide +kernel
theorem dX11_count_47 : decode cX11_count 47 = .ok (.ireturn, 1) := by decide +kernel
theorem dX11_count_48 : decode cX11_count 48 = .ok (.aload_n 0, 1) := by decide +kernel
theorem dX11_count_49 : decode cX11_count 49 = .ok (.getfield 10, 3) := by decide +kernel
theorem dX11_count_52 : decode cX11_count 52 = .ok (.getfield 263, 3) := by decide +kernel
theorem dX11_count_55 : decode cX11_count 55 = .ok (.ireturn, 1) := by decide +kernel
theorem dX11_count_56 : decode cX11_count 56 = .ok (.aload_n 0, 1) := by decide +kernel
theorem dX11_count_57 : decode cX11_count 57 = .ok (.getfield 10, 3) := by decide +kernel
theorem dX11_count_60 : decode cX11_count 60 = .ok (.getfield 141, 3) := by decide +kernel
theorem dX11_count_63 : decode cX11_count 63 = .ok (.ireturn, 1) := by decide +kernel
theorem dX11_count_64 : decode cX11_count 64 = .ok (.aload_n 0, 1) := by decide +kernel
theorem dX11_count_65 : decode cX11_count 65 = .ok (.getfield 10, 3) := by decide +kernel
theorem dX11_count_68 : decode cX11_count 68 = .ok (.getfield 266, 3) := by decide +kernel
theorem dX11_count_71 : decode cX11_count 71 = .ok (.ireturn, 1) := by decide +kernel
theorem dX11_count_72 : decode cX11_count 72 = .ok (.aload_n 0, 1) := by decide +kernel
theorem dX11_count_73 : decode cX11_count 73 = .ok (.getfield 75, 3) := by decide +kernel
theorem dX11_count_76 : decode cX11_count 76 = .ok (.ireturn, 1) := by decide +kernel
theorem dX11_count_77 : decode cX11_count 77 = .ok (.aload_n 0, 1) := by decide +kernel
theorem dX11_count_78 : decode cX11_count 78 = .ok (.getfield 22, 3) := by decide +kernel
theorem dX11_count_81 : decode cX11_count 81 = .ok (.getfield 103, 3) := by decide +kernel
theorem dX11_count_84 : decode cX11_count 84 = .ok (.ireturn, 1) := by decide +kernel
theorem dX11_count_85 : decode cX11_count 85 = .ok (.iconst (-1), 1) := by decide +kernel
theorem dX11_count_86 : decode cX11_count 86 = .ok (.ireturn, 1) := by decide +kernel
theorem dX11_trace_0 : decode cX11_trace 0 = .ok (.aload_n 0, 1) := by decide +kernel
theorem dX11_trace_1 : decode cX11_trace 1 = .ok (.getfield 79, 3) := by decide +kernel
theorem dX11_trace_4 : decode cX11_trace 4 = .ok (.lreturn, 1) := by decide +kernel
theorem dX11_isPhone_0 : decode cX11_isPhone 0 = .ok (.iload_n 1, 1) := by decide +kernel
theorem dX11_isPhone_1 : decode cX11_isPhone 1 = .ok (.iconst 0, 1) := by decide +kernel
theorem dX11_isPhone_2 : decode cX11_isPhone 2 = .ok (.aload_n 0, 1) := by decide +kernel
theorem dX11_isPhone_3 : decode cX11_isPhone 3 = .ok (.getfield 10, 3) := by decide +kernel
theorem dX11_isPhone_6 : decode cX11_isPhone 6 = .ok (.getfield 179, 3) := by decide +kernel
theorem dX11_isPhone_9 : decode cX11_isPhone 9 = .ok (.iconst 1, 1) := by decide +kernel
theorem dX11_isPhone_10 : decode cX11_isPhone 10 = .ok (.isub, 1) := by decide +kernel
theorem dX11_isPhone_11 : decode cX11_isPhone 11 = .ok (.invokestatic 144, 3) := by decide +kernel
theorem dX11_isPhone_14 : decode cX11_isPhone 14 = .ok (.ireturn, 1) := by decide +kernel
theorem dX11_isWithin_0 : decode cX11_isWithin 0 = .ok (.iload_n 0, 1) := by decide +kernel
theorem dX11_isWithin_1 : decode cX11_isWithin 1 = .ok (.iload_n 1, 1) := by decide +kernel
theorem dX11_isWithin_2 : decode cX11_isWithin 2 = .ok (.if_icmp .lt 12, 3) := by decide +kernel
theorem dX11_isWithin_5 : decode cX11_isWithin 5 = .ok (.iload_n 0, 1) := by decide +kernel
theorem dX11_isWithin_6 : decode cX11_isWithin 6 = .ok (.iload_n 2, 1) := by decide +kernel
theorem dX11_isWithin_7 : decode cX11_isWithin 7 = .ok (.if_icmp .gt 7, 3) := by decide +kernel
theorem dX11_isWithin_10 : decode cX11_isWithin 10 = .ok (.iconst 1, 1) := by decide +kernel
theorem dX11_isWithin_11 : decode cX11_isWithin 11 = .ok (.goto 4, 3) := by decide +kernel
theorem dX11_isWithin_14 : decode cX11_isWithin 14 = .ok (.iconst 0, 1) := by decide +kernel
theorem dX11_isWithin_15 : decode cX11_isWithin 15 = .ok (.ireturn, 1) := by decide +kernel
