theorem dX9_init_0 : decode cX9_init 0 = .ok (.aload_n 0, 1) := by decide +kernel
theorem dX9_init_1 : decode cX9_init 1 = .ok (.invokespecial 1, 3) := by decide +kernel
theorem dX9_init_4 : decode cX9_init 4 = .ok (.aload_n 0, 1) := by decide +kernel
theorem dX9_init_5 : decode cX9_init 5 = .ok (.new 7, 3) := by decide +kernel
theorem dX9_init_8 : decode cX9_init 8 = .ok (.dup, 1) := by decide +kernel
theorem dX9_init_9 : decode cX9_init 9 = .ok (.invokespecial 9, 3) := by decide +kernel
theorem dX9_init_12 : decode cX9_init 12 = .ok (.putfield 10, 3) := by decide +kernel
theorem dX9_init_15 : decode cX9_init 15 = .ok (.return_, 1) := by decide +kernel
theorem dX9_with_0 : decode cX9_with 0 = .ok (.aconst_null, 1) := by decide +kernel
theorem dX9_with_1 : decode cX9_with 1 = .ok (.astore_n 2, 1) := by decide +kernel
theorem dX9_with_2 : decode cX9_with 2 = .ok (.aload_n 0, 1) := by decide +kernel
theorem dX9_with_3 : decode cX9_with 3 = .ok (.getfield 10, 3) := by decide +kernel
theorem dX9_with_6 : decode cX9_with 6 = .ok (.invokeinterface 16 1, 5) := by decide +kernel
theorem dX9_with_11 : decode cX9_with 11 = .ok (.astore_n 3, 1) := by decide +kernel
theorem dX9_with_12 : decode cX9_with 12 = .ok (.aload_n 3, 1) := by decide +kernel
theorem dX9_with_13 : decode cX9_with 13 = .ok (.invokeinterface 22 1, 5) := by decide +kernel
theorem dX9_with_18 : decode cX9_with 18 = .ok (.ifCond .eq 33, 3) := by decide +kernel
theorem dX9_with_21 : decode cX9_with 21 = .ok (.aload_n 3, 1) := by decide +kernel
theorem dX9_with_22 : decode cX9_with 22 = .ok (.invokeinterface 28 1, 5) := by decide +kernel
theorem dX9_with_27 : decode cX9_with 27 = .ok (.checkcast 32, 3) := by decide +kernel
theorem dX9_with_30 : decode cX9_with 30 = .ok (.astore 4, 2) := by decide +kernel
theorem dX9_with_32 : decode cX9_with 32 = .ok (.aload 4, 2) := by decide +kernel
theorem dX9_with_34 : decode cX9_with 34 = .ok (.getfield 34, 3) := by decide +kernel
theorem dX9_with_37 : decode cX9_with 37 = .ok (.iload_n 1, 1) := by decide +kernel
theorem dX9_with_38 : decode cX9_with 38 = .ok (.if_icmp .ne 8, 3) := by decide +kernel
theorem dX9_with_41 : decode cX9_with 41 = .ok (.aload 4, 2) := by decide +kernel
theorem dX9_with_43 : decode cX9_with 43 = .ok (.goto 4, 3) := by decide +kernel
theorem dX9_with_46 : decode cX9_with 46 = .ok (.aload_n 2, 1) := by decide +kernel
theorem dX9_with_47 : decode cX9_with 47 = .ok (.astore_n 2, 1) := by decide +kernel
theorem dX9_with_48 : decode cX9_with 48 = .ok (.goto (-36), 3) := by decide +kernel
theorem dX9_with_51 : decode cX9_with 51 = .ok (.aload_n 2, 1) := by decide +kernel
theorem dX9_with_52 : decode cX9_with 52 = .ok (.areturn, 1) := by decide +kernel
theorem dX10_init_0 : decode cX10_init 0 = .ok (.aload_n 0, 1) := by decide +kernel
theorem dX10_init_1 : decode cX10_init 1 = .ok (.invokespecial 1, 3) := by decide +kernel
theorem dX10_init_4 : decode cX10_init 4 = .ok (.aload_n 0, 1) := by decide +kernel
theorem dX10_init_5 : decode cX10_init 5 = .ok (.new 7, 3) := by decide +kernel
theorem dX10_init_8 : decode cX10_init 8 = .ok (.dup, 1) := by decide +kernel
theorem dX10_init_9 : decode cX10_init 9 = .ok (.invokespecial 9, 3) := by decide +kernel
theorem dX10_init_12 : decode cX10_init 12 = .ok (.putfield 10, 3) := by decide +kernel
theorem dX10_init_15 : decode cX10_init 15 = .ok (.aload_n 0, 1) := by decide +kernel
theorem dX10_init_16 : decode cX10_init 16 = .ok (.new 7, 3) := by decide +kernel
theorem dX10_init_19 : decode cX10_init 19 = .ok (.dup, 1) := by decide +kernel
theorem dX10_init_20 : decode cX10_init 20 = .ok (.invokespecial 9, 3) := by decide +kernel
theorem dX10_init_23 : decode cX10_init 23 = .ok (.putfield 16, 3) := by decide +kernel
theorem dX10_init_26 : decode cX10_init 26 = .ok (.return_, 1) := by decide +kernel
theorem dX11_init_0 : decode cX11_init 0 = .ok (.aload_n 0, 1) := by decide +kernel
theorem dX11_init_1 : decode cX11_init 1 = .ok (.invokespecial 3, 3) := by decide +kernel
theorem dX11_init_4 : decode cX11_init 4 = .ok (.aload_n 0, 1) := by decide +kernel
theorem dX11_init_5 : decode cX11_init 5 = .ok (.bipush 45, 2) := by decide +kernel
theorem dX11_init_7 : decode cX11_init 7 = .ok (.putfield 9, 3) := by decide +kernel
theorem dX11_init_10 : decode cX11_init 10 = .ok (.aload_n 0, 1) := by decide +kernel
theorem dX11_init_11 : decode cX11_init 11 = .ok (.iconst (-1), 1) := by decide +kernel
theorem dX11_init_12 : decode cX11_init 12 = .ok (.putfield 15, 3) := by decide +kernel
theorem dX11_init_15 : decode cX11_init 15 = .ok (.return_, 1) := by decide +kernel
theorem dX11_copy_0 : decode cX11_copy 0 = .ok (.new 10, 3) := by decide +kernel
theorem dX11_copy_3 : decode cX11_copy 3 = .ok (.dup, 1) := by decide +kernel
theorem dX11_copy_4 : decode cX11_copy 4 = .ok (.invokespecial 19, 3) := by decide +kernel
theorem dX11_copy_7 : decode cX11_copy 7 = .ok (.astore_n 1, 1) := by decide +kernel
theorem dX11_copy_8 : decode cX11_copy 8 = .ok (.aload_n 1, 1) := by decide +kernel
theorem dX11_copy_9 : decode cX11_copy 9 = .ok (.aload_n 0, 1) := by decide +kernel
theorem dX11_copy_10 : decode cX11_copy 10 = .ok (.getfield 20, 3) := by decide +kernel
theorem dX11_copy_13 : decode cX11_copy 13 = .ok (.putfield 20, 3) := by decide +kernel
theorem dX11_copy_16 : decode cX11_copy 16 = .ok (.aload_n 1, 1) := by decide +kernel
theorem dX11_copy_17 : decode cX11_copy 17 = .ok (.aload_n 0, 1) := by decide +kernel
theorem dX11_copy_18 : decode cX11_copy 18 = .ok (.getfield 23, 3) := by decide +kernel
theorem dX11_copy_21 : decode cX11_copy 21 = .ok (.putfield 23, 3) := by decide +kernel
theorem dX11_copy_24 : decode cX11_copy 24 = .ok (.aload_n 1, 1) := by decide +kernel
theorem dX11_copy_25 : decode cX11_copy 25 = .ok (.aload_n 0, 1) := by decide +kernel
theorem dX11_copy_26 : decode cX11_copy 26 = .ok (.getfield 26, 3) := by decide +kernel
theorem dX11_copy_29 : decode cX11_copy 29 = .ok (.putfield 26, 3) := by decide +kernel
theorem dX11_copy_32 : decode cX11_copy 32 = .ok (.aload_n 1, 1) := by decide +kernel
theorem dX11_copy_33 : decode cX11_copy 33 = .ok (.aload_n 0, 1) := by decide +kernel
theorem dX11_copy_34 : decode cX11_copy 34 = .ok (.getfield 29, 3) := by decide +kernel
theorem dX11_copy_37 : decode cX11_copy 37 = .ok (.putfield 29, 3) := by decide +kernel
theorem dX11_copy_40 : decode cX11_copy 40 = .ok (.aload_n 1, 1) := by decide +kernel
theorem dX11_copy_41 : decode cX11_copy 41 = .ok (.aload_n 0, 1) := by decide +kernel
theorem dX11_copy_42 : decode cX11_copy 42 = .ok (.getfield 9, 3) := by decide +kernel
theorem dX11_copy_45 : decode cX11_copy 45 = .ok (.putfield 9, 3) := by decide +kernel
theorem dX11_copy_48 : decode cX11_copy 48 = .ok (.aload_n 1, 1) := by decide +kernel
theorem dX11_copy_49 : decode cX11_copy 49 = .ok (.aload_n 0, 1) := by decide +kernel
theorem dX11_copy_50 : decode cX11_copy 50 = .ok (.getfield 32, 3) := by decide +kernel
theorem dX11_copy_53 : decode cX11_copy 53 = .ok (.putfield 32, 3) := by decide +kernel
theorem dX11_copy_56 : decode cX11_copy 56 = .ok (.aload_n 1, 1) := by decide +kernel
theorem dX11_copy_57 : decode cX11_copy 57 = .ok (.aload_n 0, 1) := by decide +kernel
theorem dX11_copy_58 : decode cX11_copy 58 = .ok (.getfield 15, 3) := by decide +kernel
theorem dX11_copy_61 : decode cX11_copy 61 = .ok (.putfield 15, 3) := by decide +kernel
theorem dX11_copy_64 : decode cX11_copy 64 = .ok (.aload_n 1, 1) := by decide +kernel
theorem dX11_copy_65 : decode cX11_copy 65 = .ok (.areturn, 1) := by decide +kernel
theorem dX12_init_0 : decode cX12_init 0 = .ok (.aload_n 0, 1) := by decide +kernel
theorem dX12_init_1 : decode cX12_init 1 = .ok (.invokespecial 3, 3) := by decide +kernel
theorem dX12_init_4 : decode cX12_init 4 = .ok (.aload_n 0, 1) := by decide +kernel
theorem dX12_init_5 : decode cX12_init 5 = .ok (.bipush 10, 2) := by decide +kernel
theorem dX12_init_7 : decode cX12_init 7 = .ok (.newarray .int, 2) := by decide +kernel
theorem dX12_init_9 : decode cX12_init 9 = .ok (.putfield 9, 3) := by decide +kernel
theorem dX12_init_12 : decode cX12_init 12 = .ok (.aload_n 0, 1) := by decide +kernel
theorem dX12_init_13 : decode cX12_init 13 = .ok (.bipush 10, 2) := by decide +kernel
theorem dX12_init_15 : decode cX12_init 15 = .ok (.iconst 3, 1) := by decide +kernel
theorem dX12_init_16 : decode cX12_init 16 = .ok (.multianewarray 15 2, 4) := by decide +kernel
theorem dX12_init_20 : decode cX12_init 20 = .ok (.putfield 17, 3) := by decide +kernel
theorem dX12_init_23 : decode cX12_init 23 = .ok (.aload_n 0, 1) := by decide +kernel
theorem dX12_init_24 : decode cX12_init 24 = .ok (.bipush 10, 2) := by decide +kernel
theorem dX12_init_26 : decode cX12_init 26 = .ok (.iconst 3, 1) := by decide +kernel
theorem dX12_init_27 : decode cX12_init 27 = .ok (.multianewarray 15 2, 4) := by decide +kernel
theorem dX12_init_31 : decode cX12_init 31 = .ok (.putfield 20, 3) := by decide +kernel
theorem dX12_init_34 : decode cX12_init 34 = .ok (.aload_n 0, 1) := by decide +kernel
theorem dX12_init_35 : decode cX12_init 35 = .ok (.iconst 2, 1) := by decide +kernel
theorem dX12_init_36 : decode cX12_init 36 = .ok (.putfield 23, 3) := by decide +kernel
theorem dX12_init_39 : decode cX12_init 39 = .ok (.aload_n 0, 1) := by decide +kernel
theorem dX12_init_40 : decode cX12_init 40 = .ok (.bipush 12, 2) := by decide +kernel
theorem dX12_init_42 : decode cX12_init 42 = .ok (.newarray .int, 2) := by decide +kernel
theorem dX12_init_44 : decode cX12_init 44 = .ok (.putfield 27, 3) := by decide +kernel
theorem dX12_init_47 : decode cX12_init 47 = .ok (.aload_n 0, 1) := by decide +kernel
theorem dX12_init_48 : decode cX12_init 48 = .ok (.new 30, 3) := by decide +kernel
theorem dX12_init_51 : decode cX12_init 51 = .ok (.dup, 1) := by decide +kernel
theorem dX12_init_52 : decode cX12_init 52 = .ok (.invokespecial 32, 3) := by decide +kernel
theorem dX12_init_55 : decode cX12_init 55 = .ok (.putfield 33, 3) := by decide +kernel
theorem dX12_init_58 : decode cX12_init 58 = .ok (.aload_n 0, 1) := by decide +kernel
theorem dX12_init_59 : decode cX12_init 59 = .ok (.new 30, 3) := by decide +kernel
theorem dX12_init_62 : decode cX12_init 62 = .ok (.dup, 1) := by decide +kernel
theorem dX12_init_63 : decode cX12_init 63 = .ok (.invokespecial 32, 3) := by decide +kernel
theorem dX12_init_66 : decode cX12_init 66 = .ok (.putfield 37, 3) := by decide +kernel
theorem dX12_init_69 : decode cX12_init 69 = .ok (.aload_n 0, 1) := by decide +kernel
theorem dX12_init_70 : decode cX12_init 70 = .ok (.new 30, 3) := by decide +kernel
theorem dX12_init_73 : decode cX12_init 73 = .ok (.dup, 1) := by decide +kernel
theorem dX12_init_74 : decode cX12_init 74 = .ok (.invokespecial 32, 3) := by decide +kernel
theorem dX12_init_77 : decode cX12_init 77 = .ok (.putfield 40, 3) := by decide +kernel
theorem dX12_init_80 : decode cX12_init 80 = .ok (.return_, 1) := by decide +kernel
theorem dX12_copy_0 : decode cX12_copy 0 = .ok (.new 10, 3) := by decide +kernel
theorem dX12_copy_3 : decode cX12_copy 3 = .ok (.dup, 1) := by decide +kernel
theorem dX12_copy_4 : decode cX12_copy 4 = .ok (.invokespecial 43, 3) := by decide +kernel
theorem dX12_copy_7 : decode cX12_copy 7 = .ok (.astore_n 1, 1) := by decide +kernel
theorem dX12_copy_8 : decode cX12_copy 8 = .ok (.iconst 0, 1) := by decide +kernel
theorem dX12_copy_9 : decode cX12_copy 9 = .ok (.istore_n 2, 1) := by decide +kernel
theorem dX12_copy_10 : decode cX12_copy 10 = .ok (.iload_n 2, 1) := by decide +kernel
theorem dX12_copy_11 : decode cX12_copy 11 = .ok (.bipush 10, 2) := by decide +kernel
theorem dX12_copy_13 : decode cX12_copy 13 = .ok (.if_icmp .ge 57, 3) := by decide +kernel
theorem dX12_copy_16 : decode cX12_copy 16 = .ok (.aload_n 1, 1) := by decide +kernel
theorem dX12_copy_17 : decode cX12_copy 17 = .ok (.getfield 9, 3) := by decide +kernel
theorem dX12_copy_20 : decode cX12_copy 20 = .ok (.iload_n 2, 1) := by decide +kernel
theorem dX12_copy_21 : decode cX12_copy 21 = .ok (.aload_n 0, 1) := by decide +kernel
theorem dX12_copy_22 : decode cX12_copy 22 = .ok (.getfield 9, 3) := by decide +kernel
theorem dX12_copy_25 : decode cX12_copy 25 = .ok (.iload_n 2, 1) := by decide +kernel
theorem dX12_copy_26 : decode cX12_copy 26 = .ok (.iaload, 1) := by decide +kernel
theorem dX12_copy_27 : decode cX12_copy 27 = .ok (.iastore, 1) := by decide +kernel
theorem dX12_copy_28 : decode cX12_copy 28 = .ok (.aload_n 0, 1) := by decide +kernel
theorem dX12_copy_29 : decode cX12_copy 29 = .ok (.getfield 17, 3) := by decide +kernel
theorem dX12_copy_32 : decode cX12_copy 32 = .ok (.iload_n 2, 1) := by decide +kernel
theorem dX12_copy_33 : decode cX12_copy 33 = .ok (.aaload, 1) := by decide +kernel
theorem dX12_copy_34 : decode cX12_copy 34 = .ok (.iconst 0, 1) := by decide +kernel
theorem dX12_copy_35 : decode cX12_copy 35 = .ok (.aload_n 1, 1) := by decide +kernel
theorem dX12_copy_36 : decode cX12_copy 36 = .ok (.getfield 17, 3) := by decide +kernel
theorem dX12_copy_39 : decode cX12_copy 39 = .ok (.iload_n 2, 1) := by decide +kernel
theorem dX12_copy_40 : decode cX12_copy 40 = .ok (.aaload, 1) := by decide +kernel
theorem dX12_copy_41 : decode cX12_copy 41 = .ok (.iconst 0, 1) := by decide +kernel
theorem dX12_copy_42 : decode cX12_copy 42 = .ok (.iconst 3, 1) := by decide +kernel
theorem dX12_copy_43 : decode cX12_copy 43 = .ok (.invokestatic 44, 3) := by decide +kernel
theorem dX12_copy_46 : decode cX12_copy 46 = .ok (.aload_n 0, 1) := by decide +kernel
theorem dX12_copy_47 : decode cX12_copy 47 = .ok (.getfield 20, 3) := by decide +kernel
theorem dX12_copy_50 : decode cX12_copy 50 = .ok (.iload_n 2, 1) := by decide +kernel
theorem dX12_copy_51 : decode cX12_copy 51 = .ok (.aaload, 1) := by decide +kernel
theorem dX12_copy_52 : decode cX12_copy 52 = .ok (.iconst 0, 1) := by decide +kernel
theorem dX12_copy_53 : decode cX12_copy 53 = .ok (.aload_n 1, 1) := by decide +kernel
theorem dX12_copy_54 : decode cX12_copy 54 = .ok (.getfield 20, 3) := by decide +kernel
theorem dX12_copy_57 : decode cX12_copy 57 = .ok (.iload_n 2, 1) := by decide +kernel
theorem dX12_copy_58 : decode cX12_copy 58 = .ok (.aaload, 1) := by decide +kernel
theorem dX12_copy_59 : decode cX12_copy 59 = .ok (.iconst 0, 1) := by decide +kernel
theorem dX12_copy_60 : decode cX12_copy 60 = .ok (.iconst 3, 1) := by decide +kernel
theorem dX12_copy_61 : decode cX12_copy 61 = .ok (.invokestatic 44, 3) := by decide +kernel
theorem dX12_copy_64 : decode cX12_copy 64 = .ok (.iinc 2 1, 3) := by decide +kernel
theorem dX12_copy_67 : decode cX12_copy 67 = .ok (.goto (-57), 3) := by decide +kernel
theorem dX12_copy_70 : decode cX12_copy 70 = .ok (.aload_n 1, 1) := by decide +kernel
theorem dX12_copy_71 : decode cX12_copy 71 = .ok (.aload_n 0, 1) := by decide +kernel
theorem dX12_copy_72 : decode cX12_copy 72 = .ok (.getfield 23, 3) := by decide +kernel
theorem dX12_copy_75 : decode cX12_copy 75 = .ok (.putfield 23, 3) := by decide +kernel
theorem dX12_copy_78 : decode cX12_copy 78 = .ok (.aload_n 1, 1) := by decide +kernel
theorem dX12_copy_79 : decode cX12_copy 79 = .ok (.aload_n 0, 1) := by decide +kernel
theorem dX12_copy_80 : decode cX12_copy 80 = .ok (.getfield 50, 3) := by decide +kernel
theorem dX12_copy_83 : decode cX12_copy 83 = .ok (.putfield 50, 3) := by decide +kernel
theorem dX12_copy_86 : decode cX12_copy 86 = .ok (.aload_n 0, 1) := by decide +kernel
theorem dX12_copy_87 : decode cX12_copy 87 = .ok (.getfield 27, 3) := by decide +kernel
theorem dX12_copy_90 : decode cX12_copy 90 = .ok (.iconst 0, 1) := by decide +kernel
theorem dX12_copy_91 : decode cX12_copy 91 = .ok (.aload_n 1, 1) := by decide +kernel
theorem dX12_copy_92 : decode cX12_copy 92 = .ok (.getfield 27, 3) := by decide +kernel
theorem dX12_copy_95 : decode cX12_copy 95 = .ok (.iconst 0, 1) := by decide +kernel
theorem dX12_copy_96 : decode cX12_copy 96 = .ok (.bipush 12, 2) := by decide +kernel
theorem dX12_copy_98 : decode cX12_copy 98 = .ok (.invokestatic 44, 3) := by decide +kernel
theorem dX12_copy_101 : decode cX12_copy 101 = .ok (.aload_n 1, 1) := by decide +kernel
theorem dX12_copy_102 : decode cX12_copy 102 = .ok (.aload_n 0, 1) := by decide +kernel
theorem dX12_copy_103 : decode cX12_copy 103 = .ok (.getfield 53, 3) := by decide +kernel
theorem dX12_copy_106 : decode cX12_copy 106 = .ok (.putfield 53, 3) := by decide +kernel
theorem dX12_copy_109 : decode cX12_copy 109 = .ok (.aload_n 1, 1) := by decide +kernel
theorem dX12_copy_110 : decode cX12_copy 110 = .ok (.aload_n 0, 1) := by decide +kernel
theorem dX12_copy_111 : decode cX12_copy 111 = .ok (.getfield 56, 3) := by decide +kernel
theorem dX12_copy_114 : decode cX12_copy 114 = .ok (.putfield 56, 3) := by decide +kernel
theorem dX12_copy_117 : decode cX12_copy 117 = .ok (.aload_n 0, 1) := by decide +kernel
theorem dX12_copy_118 : decode cX12_copy 118 = .ok (.getfield 33, 3) := by decide +kernel
theorem dX12_copy_121 : decode cX12_copy 121 = .ok (.invokeinterface 59 1, 5) := by decide +kernel
theorem dX12_copy_126 : decode cX12_copy 126 = .ok (.astore_n 2, 1) := by decide +kernel
theorem dX12_copy_127 : decode cX12_copy 127 = .ok (.aload_n 2, 1) := by decide +kernel
theorem dX12_copy_128 : decode cX12_copy 128 = .ok (.invokeinterface 65 1, 5) := by decide +kernel
theorem dX12_copy_133 : decode cX12_copy 133 = .ok (.ifCond .eq 30, 3) := by decide +kernel
theorem dX12_copy_136 : decode cX12_copy 136 = .ok (.aload_n 2, 1) := by decide +kernel
theorem dX12_copy_137 : decode cX12_copy 137 = .ok (.invokeinterface 71 1, 5) := by decide +kernel
theorem dX12_copy_142 : decode cX12_copy 142 = .ok (.checkcast 75, 3) := by decide +kernel
theorem dX12_copy_145 : decode cX12_copy 145 = .ok (.astore_n 3, 1) := by decide +kernel
theorem dX12_copy_146 : decode cX12_copy 146 = .ok (.aload_n 1, 1) := by decide +kernel
theorem dX12_copy_147 : decode cX12_copy 147 = .ok (.getfield 33, 3) := by decide +kernel
theorem dX12_copy_150 : decode cX12_copy 150 = .ok (.aload_n 3, 1) := by decide +kernel
theorem dX12_copy_151 : decode cX12_copy 151 = .ok (.invokevirtual 77, 3) := by decide +kernel
theorem dX12_copy_154 : decode cX12_copy 154 = .ok (.invokeinterface 81 2, 5) := by decide +kernel
theorem dX12_copy_159 : decode cX12_copy 159 = .ok (.pop, 1) := by decide +kernel
theorem dX12_copy_160 : decode cX12_copy 160 = .ok (.goto (-33), 3) := by decide +kernel
theorem dX12_copy_163 : decode cX12_copy 163 = .ok (.aload_n 0, 1) := by decide +kernel
theorem dX12_copy_164 : decode cX12_copy 164 = .ok (.getfield 37, 3) := by decide +kernel
theorem dX12_copy_167 : decode cX12_copy 167 = .ok (.invokeinterface 59 1, 5) := by decide +kernel
theorem dX12_copy_172 : decode cX12_copy 172 = .ok (.astore_n 2, 1) := by decide +kernel
theorem dX12_copy_173 : decode cX12_copy 173 = .ok (.aload_n 2, 1) := by decide +kernel
theorem dX12_copy_174 : decode cX12_copy 174 = .ok (.invokeinterface 65 1, 5) := by decide +kernel
theorem dX12_copy_179 : decode cX12_copy 179 = .ok (.ifCond .eq 33, 3) := by decide +kernel
theorem dX12_copy_182 : decode cX12_copy 182 = .ok (.aload_n 2, 1) := by decide +kernel
theorem dX12_copy_183 : decode cX12_copy 183 = .ok (.invokeinterface 71 1, 5) := by decide +kernel
theorem dX12_copy_188 : decode cX12_copy 188 = .ok (.checkcast 85, 3) := by decide +kernel
theorem dX12_copy_191 : decode cX12_copy 191 = .ok (.astore_n 3, 1) := by decide +kernel
theorem dX12_copy_192 : decode cX12_copy 192 = .ok (.aload_n 1, 1) := by decide +kernel
theorem dX12_copy_193 : decode cX12_copy 193 = .ok (.getfield 37, 3) := by decide +kernel
theorem dX12_copy_196 : decode cX12_copy 196 = .ok (.aload_n 3, 1) := by decide +kernel
theorem dX12_copy_197 : decode cX12_copy 197 = .ok (.invokevirtual 86, 3) := by decide +kernel
theorem dX12_copy_200 : decode cX12_copy 200 = .ok (.checkcast 85, 3) := by decide +kernel
theorem dX12_copy_203 : decode cX12_copy 203 = .ok (.invokeinterface 81 2, 5) := by decide +kernel
theorem dX12_copy_208 : decode cX12_copy 208 = .ok (.pop, 1) := by decide +kernel
theorem dX12_copy_209 : decode cX12_copy 209 = .ok (.goto (-36), 3) := by decide +kernel
theorem dX12_copy_212 : decode cX12_copy 212 = .ok (.aload_n 1, 1) := by decide +kernel
theorem dX12_copy_213 : decode cX12_copy 213 = .ok (.getfield 40, 3) := by decide +kernel
theorem dX12_copy_216 : decode cX12_copy 216 = .ok (.aload_n 0, 1) := by decide +kernel
theorem dX12_copy_217 : decode cX12_copy 217 = .ok (.getfield 40, 3) := by decide +kernel
theorem dX12_copy_220 : decode cX12_copy 220 = .ok (.invokeinterface 89 2, 5) := by decide +kernel
theorem dX12_copy_225 : decode cX12_copy 225 = .ok (.pop, 1) := by decide +kernel
theorem dX12_copy_226 : decode cX12_copy 226 = .ok (.aload_n 1, 1) := by decide +kernel
theorem dX12_copy_227 : decode cX12_copy 227 = .ok (.aload_n 0, 1) := by decide +kernel
theorem dX12_copy_228 : decode cX12_copy 228 = .ok (.getfield 93, 3) := by decide +kernel
theorem dX12_copy_231 : decode cX12_copy 231 = .ok (.putfield 93, 3) := by decide +kernel
theorem dX12_copy_234 : decode cX12_copy 234 = .ok (.aload_n 1, 1) := by decide +kernel
theorem dX12_copy_235 : decode cX12_copy 235 = .ok (.areturn, 1) := by decide +kernel
theorem dX12_weight_0 : decode cX12_weight 0 = .ok (.iconst 0, 1) := by decide +kernel
theorem dX12_weight_1 : decode cX12_weight 1 = .ok (.istore_n 2, 1) := by decide +kernel
theorem dX12_weight_2 : decode cX12_weight 2 = .ok (.iconst 0, 1) := by decide +kernel
theorem dX12_weight_3 : decode cX12_weight 3 = .ok (.istore_n 3, 1) := by decide +kernel
theorem dX12_weight_4 : decode cX12_weight 4 = .ok (.iload_n 3, 1) := by decide +kernel
theorem dX12_weight_5 : decode cX12_weight 5 = .ok (.iconst 3, 1) := by decide +kernel
theorem dX12_weight_6 : decode cX12_weight 6 = .ok (.if_icmp .ge 29, 3) := by decide +kernel
theorem dX12_weight_9 : decode cX12_weight 9 = .ok (.iload_n 2, 1) := by decide +kernel
theorem dX12_weight_10 : decode cX12_weight 10 = .ok (.aload_n 0, 1) := by decide +kernel
theorem dX12_weight_11 : decode cX12_weight 11 = .ok (.getfield 17, 3) := by decide +kernel
theorem dX12_weight_14 : decode cX12_weight 14 = .ok (.iload_n 1, 1) := by decide +kernel
theorem dX12_weight_15 : decode cX12_weight 15 = .ok (.aaload, 1) := by decide +kernel
theorem dX12_weight_16 : decode cX12_weight 16 = .ok (.iload_n 3, 1) := by decide +kernel
theorem dX12_weight_17 : decode cX12_weight 17 = .ok (.iaload, 1) := by decide +kernel
theorem dX12_weight_18 : decode cX12_weight 18 = .ok (.aload_n 0, 1) := by decide +kernel
theorem dX12_weight_19 : decode cX12_weight 19 = .ok (.getfield 20, 3) := by decide +kernel
theorem dX12_weight_22 : decode cX12_weight 22 = .ok (.iload_n 1, 1) := by decide +kernel
theorem dX12_weight_23 : decode cX12_weight 23 = .ok (.aaload, 1) := by decide +kernel
theorem dX12_weight_24 : decode cX12_weight 24 = .ok (.iload_n 3, 1) := by decide +kernel
theorem dX12_weight_25 : decode cX12_weight 25 = .ok (.iaload, 1) := by decide +kernel
theorem dX12_weight_26 : decode cX12_weight 26 = .ok (.iadd, 1) := by decide +kernel
theorem dX12_weight_27 : decode cX12_weight 27 = .ok (.iadd, 1) := by decide +kernel
theorem dX12_weight_28 : decode cX12_weight 28 = .ok (.istore_n 2, 1) := by decide +kernel
theorem dX12_weight_29 : decode cX12_weight 29 = .ok (.iinc 3 1, 3) := by decide +kernel
theorem dX12_weight_32 : decode cX12_weight 32 = .ok (.goto (-28), 3) := by decide +kernel
theorem dX12_weight_35 : decode cX12_weight 35 = .ok (.iload_n 2, 1) := by decide +kernel
theorem dX12_weight_36 : decode cX12_weight 36 = .ok (.ireturn, 1) := by decide +kernel
theorem dX12_wind_0 : decode cX12_wind 0 = .ok (.aload_n 0, 1) := by decide +kernel
theorem dX12_wind_1 : decode cX12_wind 1 = .ok (.getfield 27, 3) := by decide +kernel
theorem dX12_wind_4 : decode cX12_wind 4 = .ok (.iload_n 1, 1) := by decide +kernel
theorem dX12_wind_5 : decode cX12_wind 5 = .ok (.iaload, 1) := by decide +kernel
theorem dX12_wind_6 : decode cX12_wind 6 = .ok (.iload_n 1, 1) := by decide +kernel
theorem dX12_wind_7 : decode cX12_wind 7 = .ok (.invokestatic 96, 3) := by decide +kernel
theorem dX12_wind_10 : decode cX12_wind 10 = .ok (.idiv, 1) := by decide +kernel
theorem dX12_wind_11 : decode cX12_wind 11 = .ok (.ireturn, 1) := by decide +kernel
theorem dX12_shear_0 : decode cX12_shear 0 = .ok (.aload_n 0, 1) := by decide +kernel
theorem dX12_shear_1 : decode cX12_shear 1 = .ok (.iconst 0, 1) := by decide +kernel
theorem dX12_shear_2 : decode cX12_shear 2 = .ok (.iload_n 1, 1) := by decide +kernel
theorem dX12_shear_3 : decode cX12_shear 3 = .ok (.iconst 1, 1) := by decide +kernel
theorem dX12_shear_4 : decode cX12_shear 4 = .ok (.isub, 1) := by decide +kernel
theorem dX12_shear_5 : decode cX12_shear 5 = .ok (.invokestatic 100, 3) := by decide +kernel
theorem dX12_shear_8 : decode cX12_shear 8 = .ok (.invokevirtual 106, 3) := by decide +kernel
theorem dX12_shear_11 : decode cX12_shear 11 = .ok (.aload_n 0, 1) := by decide +kernel
theorem dX12_shear_12 : decode cX12_shear 12 = .ok (.bipush 11, 2) := by decide +kernel
theorem dX12_shear_14 : decode cX12_shear 14 = .ok (.iload_n 1, 1) := by decide +kernel
theorem dX12_shear_15 : decode cX12_shear 15 = .ok (.iconst 1, 1) := by decide +kernel
theorem dX12_shear_16 : decode cX12_shear 16 = .ok (.iadd, 1) := by decide +kernel
theorem dX12_shear_17 : decode cX12_shear 17 = .ok (.invokestatic 109, 3) := by decide +kernel
theorem dX12_shear_20 : decode cX12_shear 20 = .ok (.invokevirtual 106, 3) := by decide +kernel
theorem dX12_shear_23 : decode cX12_shear 23 = .ok (.isub, 1) := by decide +kernel
theorem dX12_shear_24 : decode cX12_shear 24 = .ok (.invokestatic 112, 3) := by decide +kernel
theorem dX12_shear_27 : decode cX12_shear 27 = .ok (.ireturn, 1) := by decide +kernel
theorem dX12_notes_0 : decode cX12_notes 0 = .ok (.aload_n 0, 1) := by decide +kernel
theorem dX12_notes_1 : decode cX12_notes 1 = .ok (.getfield 40, 3) := by decide +kernel
theorem dX12_notes_4 : decode cX12_notes 4 = .ok (.invokeinterface 115 1, 5) := by decide +kernel
theorem dX12_notes_9 : decode cX12_notes 9 = .ok (.bipush 60, 2) := by decide +kernel
theorem dX12_notes_11 : decode cX12_notes 11 = .ok (.if_icmp .ge 24, 3) := by decide +kernel
theorem dX12_notes_14 : decode cX12_notes 14 = .ok (.aload_n 0, 1) := by decide +kernel
theorem dX12_notes_15 : decode cX12_notes 15 = .ok (.getfield 40, 3) := by decide +kernel
theorem dX12_notes_18 : decode cX12_notes 18 = .ok (.iconst 2, 1) := by decide +kernel
theorem dX12_notes_19 : decode cX12_notes 19 = .ok (.newarray .int, 2) := by decide +kernel
theorem dX12_notes_21 : decode cX12_notes 21 = .ok (.dup, 1) := by decide +kernel
theorem dX12_notes_22 : decode cX12_notes 22 = .ok (.iconst 0, 1) := by decide +kernel
theorem dX12_notes_23 : decode cX12_notes 23 = .ok (.iload_n 1, 1) := by decide +kernel
theorem dX12_notes_24 : decode cX12_notes 24 = .ok (.iastore, 1) := by decide +kernel
theorem dX12_notes_25 : decode cX12_notes 25 = .ok (.dup, 1) := by decide +kernel
theorem dX12_notes_26 : decode cX12_notes 26 = .ok (.iconst 1, 1) := by decide +kernel
theorem dX12_notes_27 : decode cX12_notes 27 = .ok (.iload_n 2, 1) := by decide +kernel
theorem dX12_notes_28 : decode cX12_notes 28 = .ok (.iastore, 1) := by decide +kernel
theorem dX12_notes_29 : decode cX12_notes 29 = .ok (.invokeinterface 81 2, 5) := by decide +kernel
theorem dX12_notes_34 : decode cX12_notes 34 = .ok (.pop, 1) := by decide +kernel
theorem dX12_notes_35 : decode cX12_notes 35 = .ok (.return_, 1) := by decide +kernel
theorem dX12_column_0 : decode cX12_column 0 = .ok (.aload_n 0, 1) := by decide +kernel
theorem dX12_column_1 : decode cX12_column 1 = .ok (.getfield 9, 3) := by decide +kernel
theorem dX12_column_4 : decode cX12_column 4 = .ok (.bipush 9, 2) := by decide +kernel
theorem dX12_column_6 : decode cX12_column 6 = .ok (.dup2, 1) := by decide +kernel
theorem dX12_column_7 : decode cX12_column 7 = .ok (.iaload, 1) := by decide +kernel
theorem dX12_column_8 : decode cX12_column 8 = .ok (.aload_n 0, 1) := by decide +kernel
theorem dX12_column_9 : decode cX12_column 9 = .ok (.getfield 23, 3) := by decide +kernel
theorem dX12_column_12 : decode cX12_column 12 = .ok (.iadd, 1) := by decide +kernel
theorem dX12_column_13 : decode cX12_column 13 = .ok (.iastore, 1) := by decide +kernel
theorem dX12_column_14 : decode cX12_column 14 = .ok (.iconst 0, 1) := by decide +kernel
theorem dX12_column_15 : decode cX12_column 15 = .ok (.istore_n 1, 1) := by decide +kernel
theorem dX12_column_16 : decode cX12_column 16 = .ok (.iload_n 1, 1) := by decide +kernel
theorem dX12_column_17 : decode cX12_column 17 = .ok (.bipush 10, 2) := by decide +kernel
theorem dX12_column_19 : decode cX12_column 19 = .ok (.if_icmp .ge 103, 3) := by decide +kernel
theorem dX12_column_22 : decode cX12_column 22 = .ok (.iconst 0, 1) := by decide +kernel
theorem dX12_column_23 : decode cX12_column 23 = .ok (.istore_n 2, 1) := by decide +kernel
theorem dX12_column_24 : decode cX12_column 24 = .ok (.iload_n 2, 1) := by decide +kernel
theorem dX12_column_25 : decode cX12_column 25 = .ok (.iconst 3, 1) := by decide +kernel
theorem dX12_column_26 : decode cX12_column 26 = .ok (.if_icmp .ge 90, 3) := by decide +kernel
theorem dX12_column_29 : decode cX12_column 29 = .ok (.iconst 0, 1) := by decide +kernel
theorem dX12_column_30 : decode cX12_column 30 = .ok (.iload_n 2, 1) := by decide +kernel
theorem dX12_column_31 : decode cX12_column 31 = .ok (.invokestatic 119, 3) := by decide +kernel
theorem dX12_column_34 : decode cX12_column 34 = .ok (.aload_n 0, 1) := by decide +kernel
theorem dX12_column_35 : decode cX12_column 35 = .ok (.getfield 9, 3) := by decide +kernel
theorem dX12_column_38 : decode cX12_column 38 = .ok (.iload_n 1, 1) := by decide +kernel
theorem dX12_column_39 : decode cX12_column 39 = .ok (.iaload, 1) := by decide +kernel
theorem dX12_column_40 : decode cX12_column 40 = .ok (.bipush 120, 2) := by decide +kernel
theorem dX12_column_42 : decode cX12_column 42 = .ok (.isub, 1) := by decide +kernel
theorem dX12_column_43 : decode cX12_column 43 = .ok (.bipush 60, 2) := by decide +kernel
theorem dX12_column_45 : decode cX12_column 45 = .ok (.iload_n 2, 1) := by decide +kernel
theorem dX12_column_46 : decode cX12_column 46 = .ok (.imul, 1) := by decide +kernel
theorem dX12_column_47 : decode cX12_column 47 = .ok (.isub, 1) := by decide +kernel
theorem dX12_column_48 : decode cX12_column 48 = .ok (.imul, 1) := by decide +kernel
theorem dX12_column_49 : decode cX12_column 49 = .ok (.invokestatic 100, 3) := by decide +kernel
theorem dX12_column_52 : decode cX12_column 52 = .ok (.aload_n 0, 1) := by decide +kernel
theorem dX12_column_53 : decode cX12_column 53 = .ok (.getfield 17, 3) := by decide +kernel
theorem dX12_column_56 : decode cX12_column 56 = .ok (.iload_n 1, 1) := by decide +kernel
theorem dX12_column_57 : decode cX12_column 57 = .ok (.aaload, 1) := by decide +kernel
theorem dX12_column_58 : decode cX12_column 58 = .ok (.iload_n 2, 1) := by decide +kernel
theorem dX12_column_59 : decode cX12_column 59 = .ok (.iaload, 1) := by decide +kernel
theorem dX12_column_60 : decode cX12_column 60 = .ok (.isub, 1) := by decide +kernel
theorem dX12_column_61 : decode cX12_column 61 = .ok (.istore_n 3, 1) := by decide +kernel
theorem dX12_column_62 : decode cX12_column 62 = .ok (.iload_n 3, 1) := by decide +kernel
theorem dX12_column_63 : decode cX12_column 63 = .ok (.ifCond .ge 7, 3) := by decide +kernel
theorem dX12_column_66 : decode cX12_column 66 = .ok (.iload_n 3, 1) := by decide +kernel
theorem dX12_column_67 : decode cX12_column 67 = .ok (.goto 15, 3) := by decide +kernel
theorem dX12_column_70 : decode cX12_column 70 = .ok (.iload_n 3, 1) := by decide +kernel
theorem dX12_column_71 : decode cX12_column 71 = .ok (.aload_n 0, 1) := by decide +kernel
theorem dX12_column_72 : decode cX12_column 72 = .ok (.getfield 20, 3) := by decide +kernel
theorem dX12_column_75 : decode cX12_column 75 = .ok (.iload_n 1, 1) := by decide +kernel
theorem dX12_column_76 : decode cX12_column 76 = .ok (.aaload, 1) := by decide +kernel
theorem dX12_column_77 : decode cX12_column 77 = .ok (.iload_n 2, 1) := by decide +kernel
theorem dX12_column_78 : decode cX12_column 78 = .ok (.iaload, 1) := by decide +kernel
theorem dX12_column_79 : decode cX12_column 79 = .ok (.invokestatic 109, 3) := by decide +kernel
theorem dX12_column_82 : decode cX12_column 82 = .ok (.istore 4, 2) := by decide +kernel
theorem dX12_column_84 : decode cX12_column 84 = .ok (.aload_n 0, 1) := by decide +kernel
theorem dX12_column_85 : decode cX12_column 85 = .ok (.getfield 17, 3) := by decide +kernel
theorem dX12_column_88 : decode cX12_column 88 = .ok (.iload_n 1, 1) := by decide +kernel
theorem dX12_column_89 : decode cX12_column 89 = .ok (.aaload, 1) := by decide +kernel
theorem dX12_column_90 : decode cX12_column 90 = .ok (.iload_n 2, 1) := by decide +kernel
theorem dX12_column_91 : decode cX12_column 91 = .ok (.dup2, 1) := by decide +kernel
theorem dX12_column_92 : decode cX12_column 92 = .ok (.iaload, 1) := by decide +kernel
theorem dX12_column_93 : decode cX12_column 93 = .ok (.iload 4, 2) := by decide +kernel
theorem dX12_column_95 : decode cX12_column 95 = .ok (.iadd, 1) := by decide +kernel
theorem dX12_column_96 : decode cX12_column 96 = .ok (.iastore, 1) := by decide +kernel
theorem dX12_column_97 : decode cX12_column 97 = .ok (.aload_n 0, 1) := by decide +kernel
theorem dX12_column_98 : decode cX12_column 98 = .ok (.getfield 20, 3) := by decide +kernel
theorem dX12_column_101 : decode cX12_column 101 = .ok (.iload_n 1, 1) := by decide +kernel
theorem dX12_column_102 : decode cX12_column 102 = .ok (.aaload, 1) := by decide +kernel
theorem dX12_column_103 : decode cX12_column 103 = .ok (.iload_n 2, 1) := by decide +kernel
theorem dX12_column_104 : decode cX12_column 104 = .ok (.dup2, 1) := by decide +kernel
theorem dX12_column_105 : decode cX12_column 105 = .ok (.iaload, 1) := by decide +kernel
theorem dX12_column_106 : decode cX12_column 106 = .ok (.iload 4, 2) := by decide +kernel
theorem dX12_column_108 : decode cX12_column 108 = .ok (.isub, 1) := by decide +kernel
theorem dX12_column_109 : decode cX12_column 109 = .ok (.iastore, 1) := by decide +kernel
theorem dX12_column_110 : decode cX12_column 110 = .ok (.iinc 2 1, 3) := by decide +kernel
theorem dX12_column_113 : decode cX12_column 113 = .ok (.goto (-89), 3) := by decide +kernel
theorem dX12_column_116 : decode cX12_column 116 = .ok (.iinc 1 1, 3) := by decide +kernel
theorem dX12_column_119 : decode cX12_column 119 = .ok (.goto (-103), 3) := by decide +kernel
theorem dX12_column_122 : decode cX12_column 122 = .ok (.bipush 8, 2) := by decide +kernel
theorem dX12_column_124 : decode cX12_column 124 = .ok (.istore_n 1, 1) := by decide +kernel
theorem dX12_column_125 : decode cX12_column 125 = .ok (.iload_n 1, 1) := by decide +kernel
theorem dX12_column_126 : decode cX12_column 126 = .ok (.ifCond .lt 61, 3) := by decide +kernel
theorem dX12_column_129 : decode cX12_column 129 = .ok (.iconst 0, 1) := by decide +kernel
theorem dX12_column_130 : decode cX12_column 130 = .ok (.istore_n 2, 1) := by decide +kernel
theorem dX12_column_131 : decode cX12_column 131 = .ok (.iload_n 2, 1) := by decide +kernel
theorem dX12_column_132 : decode cX12_column 132 = .ok (.iconst 3, 1) := by decide +kernel
theorem dX12_column_133 : decode cX12_column 133 = .ok (.if_icmp .ge 48, 3) := by decide +kernel
theorem dX12_column_136 : decode cX12_column 136 = .ok (.aload_n 0, 1) := by decide +kernel
theorem dX12_column_137 : decode cX12_column 137 = .ok (.getfield 20, 3) := by decide +kernel
theorem dX12_column_140 : decode cX12_column 140 = .ok (.iload_n 1, 1) := by decide +kernel
theorem dX12_column_141 : decode cX12_column 141 = .ok (.aaload, 1) := by decide +kernel
theorem dX12_column_142 : decode cX12_column 142 = .ok (.iload_n 2, 1) := by decide +kernel
theorem dX12_column_143 : decode cX12_column 143 = .ok (.iaload, 1) := by decide +kernel
theorem dX12_column_144 : decode cX12_column 144 = .ok (.iconst 1, 1) := by decide +kernel
theorem dX12_column_145 : decode cX12_column 145 = .ok (.iadd, 1) := by decide +kernel
theorem dX12_column_146 : decode cX12_column 146 = .ok (.iconst 2, 1) := by decide +kernel
theorem dX12_column_147 : decode cX12_column 147 = .ok (.idiv, 1) := by decide +kernel
theorem dX12_column_148 : decode cX12_column 148 = .ok (.istore_n 3, 1) := by decide +kernel
theorem dX12_column_149 : decode cX12_column 149 = .ok (.aload_n 0, 1) := by decide +kernel
theorem dX12_column_150 : decode cX12_column 150 = .ok (.getfield 20, 3) := by decide +kernel
theorem dX12_column_153 : decode cX12_column 153 = .ok (.iload_n 1, 1) := by decide +kernel
theorem dX12_column_154 : decode cX12_column 154 = .ok (.aaload, 1) := by decide +kernel
theorem dX12_column_155 : decode cX12_column 155 = .ok (.iload_n 2, 1) := by decide +kernel
theorem dX12_column_156 : decode cX12_column 156 = .ok (.dup2, 1) := by decide +kernel
theorem dX12_column_157 : decode cX12_column 157 = .ok (.iaload, 1) := by decide +kernel
theorem dX12_column_158 : decode cX12_column 158 = .ok (.iload_n 3, 1) := by decide +kernel
theorem dX12_column_159 : decode cX12_column 159 = .ok (.isub, 1) := by decide +kernel
theorem dX12_column_160 : decode cX12_column 160 = .ok (.iastore, 1) := by decide +kernel
theorem dX12_column_161 : decode cX12_column 161 = .ok (.aload_n 0, 1) := by decide +kernel
theorem dX12_column_162 : decode cX12_column 162 = .ok (.getfield 20, 3) := by decide +kernel
theorem dX12_column_165 : decode cX12_column 165 = .ok (.iload_n 1, 1) := by decide +kernel
theorem dX12_column_166 : decode cX12_column 166 = .ok (.iconst 1, 1) := by decide +kernel
theorem dX12_column_167 : decode cX12_column 167 = .ok (.iadd, 1) := by decide +kernel
theorem dX12_column_168 : decode cX12_column 168 = .ok (.aaload, 1) := by decide +kernel
theorem dX12_column_169 : decode cX12_column 169 = .ok (.iload_n 2, 1) := by decide +kernel
theorem dX12_column_170 : decode cX12_column 170 = .ok (.dup2, 1) := by decide +kernel
theorem dX12_column_171 : decode cX12_column 171 = .ok (.iaload, 1) := by decide +kernel
theorem dX12_column_172 : decode cX12_column 172 = .ok (.iload_n 3, 1) := by decide +kernel
theorem dX12_column_173 : decode cX12_column 173 = .ok (.iadd, 1) := by decide +kernel
theorem dX12_column_174 : decode cX12_column 174 = .ok (.iastore, 1) := by decide +kernel
theorem dX12_column_175 : decode cX12_column 175 = .ok (.iinc 2 1, 3) := by decide +kernel
theorem dX12_column_178 : decode cX12_column 178 = .ok (.goto (-47), 3) := by decide +kernel
theorem dX12_column_181 : decode cX12_column 181 = .ok (.iinc 1 (-1), 3) := by decide +kernel
theorem dX12_column_184 : decode cX12_column 184 = .ok (.goto (-59), 3) := by decide +kernel
theorem dX12_column_187 : decode cX12_column 187 = .ok (.bipush 8, 2) := by decide +kernel
theorem dX12_column_189 : decode cX12_column 189 = .ok (.istore_n 1, 1) := by decide +kernel
theorem dX12_column_190 : decode cX12_column 190 = .ok (.iload_n 1, 1) := by decide +kernel
theorem dX12_column_191 : decode cX12_column 191 = .ok (.ifCond .lt 146, 3) := by decide +kernel
theorem dX12_column_194 : decode cX12_column 194 = .ok (.aload_n 0, 1) := by decide +kernel
theorem dX12_column_195 : decode cX12_column 195 = .ok (.getfield 9, 3) := by decide +kernel
theorem dX12_column_198 : decode cX12_column 198 = .ok (.iload_n 1, 1) := by decide +kernel
theorem dX12_column_199 : decode cX12_column 199 = .ok (.iconst 1, 1) := by decide +kernel
theorem dX12_column_200 : decode cX12_column 200 = .ok (.iadd, 1) := by decide +kernel
theorem dX12_column_201 : decode cX12_column 201 = .ok (.iaload, 1) := by decide +kernel
theorem dX12_column_202 : decode cX12_column 202 = .ok (.aload_n 0, 1) := by decide +kernel
theorem dX12_column_203 : decode cX12_column 203 = .ok (.getfield 9, 3) := by decide +kernel
theorem dX12_column_206 : decode cX12_column 206 = .ok (.iload_n 1, 1) := by decide +kernel
theorem dX12_column_207 : decode cX12_column 207 = .ok (.iaload, 1) := by decide +kernel
theorem dX12_column_208 : decode cX12_column 208 = .ok (.isub, 1) := by decide +kernel
theorem dX12_column_209 : decode cX12_column 209 = .ok (.bipush 25, 2) := by decide +kernel
theorem dX12_column_211 : decode cX12_column 211 = .ok (.isub, 1) := by decide +kernel
theorem dX12_column_212 : decode cX12_column 212 = .ok (.istore_n 2, 1) := by decide +kernel
theorem dX12_column_213 : decode cX12_column 213 = .ok (.iload_n 2, 1) := by decide +kernel
theorem dX12_column_214 : decode cX12_column 214 = .ok (.ifCond .le 117, 3) := by decide +kernel
theorem dX12_column_217 : decode cX12_column 217 = .ok (.iload_n 2, 1) := by decide +kernel
theorem dX12_column_218 : decode cX12_column 218 = .ok (.aload_n 0, 1) := by decide +kernel
theorem dX12_column_219 : decode cX12_column 219 = .ok (.iload_n 1, 1) := by decide +kernel
theorem dX12_column_220 : decode cX12_column 220 = .ok (.iconst 1, 1) := by decide +kernel
theorem dX12_column_221 : decode cX12_column 221 = .ok (.iadd, 1) := by decide +kernel
theorem dX12_column_222 : decode cX12_column 222 = .ok (.invokevirtual 122, 3) := by decide +kernel
theorem dX12_column_225 : decode cX12_column 225 = .ok (.sipush 1000, 3) := by decide +kernel
theorem dX12_column_228 : decode cX12_column 228 = .ok (.idiv, 1) := by decide +kernel
theorem dX12_column_229 : decode cX12_column 229 = .ok (.aload_n 0, 1) := by decide +kernel
theorem dX12_column_230 : decode cX12_column 230 = .ok (.iload_n 1, 1) := by decide +kernel
theorem dX12_column_231 : decode cX12_column 231 = .ok (.invokevirtual 122, 3) := by decide +kernel
theorem dX12_column_234 : decode cX12_column 234 = .ok (.sipush 1000, 3) := by decide +kernel
theorem dX12_column_237 : decode cX12_column 237 = .ok (.idiv, 1) := by decide +kernel
theorem dX12_column_238 : decode cX12_column 238 = .ok (.isub, 1) := by decide +kernel
theorem dX12_column_239 : decode cX12_column 239 = .ok (.if_icmp .le 92, 3) := by decide +kernel
theorem dX12_column_242 : decode cX12_column 242 = .ok (.iload_n 2, 1) := by decide +kernel
theorem dX12_column_243 : decode cX12_column 243 = .ok (.iconst 1, 1) := by decide +kernel
theorem dX12_column_244 : decode cX12_column 244 = .ok (.iadd, 1) := by decide +kernel
theorem dX12_column_245 : decode cX12_column 245 = .ok (.iconst 2, 1) := by decide +kernel
theorem dX12_column_246 : decode cX12_column 246 = .ok (.idiv, 1) := by decide +kernel
theorem dX12_column_247 : decode cX12_column 247 = .ok (.istore_n 3, 1) := by decide +kernel
theorem dX12_column_248 : decode cX12_column 248 = .ok (.aload_n 0, 1) := by decide +kernel
theorem dX12_column_249 : decode cX12_column 249 = .ok (.getfield 9, 3) := by decide +kernel
theorem dX12_column_252 : decode cX12_column 252 = .ok (.iload_n 1, 1) := by decide +kernel
theorem dX12_column_253 : decode cX12_column 253 = .ok (.iconst 1, 1) := by decide +kernel
theorem dX12_column_254 : decode cX12_column 254 = .ok (.iadd, 1) := by decide +kernel
theorem dX12_column_255 : decode cX12_column 255 = .ok (.dup2, 1) := by decide +kernel
theorem dX12_column_256 : decode cX12_column 256 = .ok (.iaload, 1) := by decide +kernel
theorem dX12_column_257 : decode cX12_column 257 = .ok (.iload_n 3, 1) := by decide +kernel
theorem dX12_column_258 : decode cX12_column 258 = .ok (.isub, 1) := by decide +kernel
theorem dX12_column_259 : decode cX12_column 259 = .ok (.iastore, 1) := by decide +kernel
theorem dX12_column_260 : decode cX12_column 260 = .ok (.aload_n 0, 1) := by decide +kernel
theorem dX12_column_261 : decode cX12_column 261 = .ok (.getfield 9, 3) := by decide +kernel
theorem dX12_column_264 : decode cX12_column 264 = .ok (.iload_n 1, 1) := by decide +kernel
theorem dX12_column_265 : decode cX12_column 265 = .ok (.dup2, 1) := by decide +kernel
theorem dX12_column_266 : decode cX12_column 266 = .ok (.iaload, 1) := by decide +kernel
theorem dX12_column_267 : decode cX12_column 267 = .ok (.iload_n 3, 1) := by decide +kernel
theorem dX12_column_268 : decode cX12_column 268 = .ok (.iadd, 1) := by decide +kernel
theorem dX12_column_269 : decode cX12_column 269 = .ok (.iastore, 1) := by decide +kernel
theorem dX12_column_270 : decode cX12_column 270 = .ok (.iconst 0, 1) := by decide +kernel
theorem dX12_column_271 : decode cX12_column 271 = .ok (.istore 4, 2) := by decide +kernel
theorem dX12_column_273 : decode cX12_column 273 = .ok (.iload 4, 2) := by decide +kernel
theorem dX12_column_275 : decode cX12_column 275 = .ok (.iconst 3, 1) := by decide +kernel
theorem dX12_column_276 : decode cX12_column 276 = .ok (.if_icmp .ge 55, 3) := by decide +kernel
theorem dX12_column_279 : decode cX12_column 279 = .ok (.aload_n 0, 1) := by decide +kernel
theorem dX12_column_280 : decode cX12_column 280 = .ok (.getfield 17, 3) := by decide +kernel
theorem dX12_column_283 : decode cX12_column 283 = .ok (.iload_n 1, 1) := by decide +kernel
theorem dX12_column_284 : decode cX12_column 284 = .ok (.iconst 1, 1) := by decide +kernel
theorem dX12_column_285 : decode cX12_column 285 = .ok (.iadd, 1) := by decide +kernel
theorem dX12_column_286 : decode cX12_column 286 = .ok (.aaload, 1) := by decide +kernel
theorem dX12_column_287 : decode cX12_column 287 = .ok (.iload 4, 2) := by decide +kernel
theorem dX12_column_289 : decode cX12_column 289 = .ok (.iaload, 1) := by decide +kernel
theorem dX12_column_290 : decode cX12_column 290 = .ok (.bipush 10, 2) := by decide +kernel
theorem dX12_column_292 : decode cX12_column 292 = .ok (.idiv, 1) := by decide +kernel
theorem dX12_column_293 : decode cX12_column 293 = .ok (.istore 5, 2) := by decide +kernel
theorem dX12_column_295 : decode cX12_column 295 = .ok (.aload_n 0, 1) := by decide +kernel
theorem dX12_column_296 : decode cX12_column 296 = .ok (.getfield 17, 3) := by decide +kernel
theorem dX12_column_299 : decode cX12_column 299 = .ok (.iload_n 1, 1) := by decide +kernel
theorem dX12_column_300 : decode cX12_column 300 = .ok (.iconst 1, 1) := by decide +kernel
theorem dX12_column_301 : decode cX12_column 301 = .ok (.iadd, 1) := by decide +kernel
theorem dX12_column_302 : decode cX12_column 302 = .ok (.aaload, 1) := by decide +kernel
theorem dX12_column_303 : decode cX12_column 303 = .ok (.iload 4, 2) := by decide +kernel
theorem dX12_column_305 : decode cX12_column 305 = .ok (.dup2, 1) := by decide +kernel
theorem dX12_column_306 : decode cX12_column 306 = .ok (.iaload, 1) := by decide +kernel
theorem dX12_column_307 : decode cX12_column 307 = .ok (.iload 5, 2) := by decide +kernel
theorem dX12_column_309 : decode cX12_column 309 = .ok (.isub, 1) := by decide +kernel
theorem dX12_column_310 : decode cX12_column 310 = .ok (.iastore, 1) := by decide +kernel
theorem dX12_column_311 : decode cX12_column 311 = .ok (.aload_n 0, 1) := by decide +kernel
theorem dX12_column_312 : decode cX12_column 312 = .ok (.getfield 17, 3) := by decide +kernel
theorem dX12_column_315 : decode cX12_column 315 = .ok (.iload_n 1, 1) := by decide +kernel
theorem dX12_column_316 : decode cX12_column 316 = .ok (.aaload, 1) := by decide +kernel
theorem dX12_column_317 : decode cX12_column 317 = .ok (.iload 4, 2) := by decide +kernel
theorem dX12_column_319 : decode cX12_column 319 = .ok (.dup2, 1) := by decide +kernel
theorem dX12_column_320 : decode cX12_column 320 = .ok (.iaload, 1) := by decide +kernel
theorem dX12_column_321 : decode cX12_column 321 = .ok (.iload 5, 2) := by decide +kernel
theorem dX12_column_323 : decode cX12_column 323 = .ok (.iadd, 1) := by decide +kernel
theorem dX12_column_324 : decode cX12_column 324 = .ok (.iastore, 1) := by decide +kernel
theorem dX12_column_325 : decode cX12_column 325 = .ok (.iinc 4 1, 3) := by decide +kernel
theorem dX12_column_328 : decode cX12_column 328 = .ok (.goto (-55), 3) := by decide +kernel
theorem dX12_column_331 : decode cX12_column 331 = .ok (.iinc 1 (-1), 3) := by decide +kernel
theorem dX12_column_334 : decode cX12_column 334 = .ok (.goto (-144), 3) := by decide +kernel
theorem dX12_column_337 : decode cX12_column 337 = .ok (.aload_n 0, 1) := by decide +kernel
theorem dX12_column_338 : decode cX12_column 338 = .ok (.getfield 9, 3) := by decide +kernel
theorem dX12_column_341 : decode cX12_column 341 = .ok (.iconst 0, 1) := by decide +kernel
theorem dX12_column_342 : decode cX12_column 342 = .ok (.iaload, 1) := by decide +kernel
theorem dX12_column_343 : decode cX12_column 343 = .ok (.bipush 100, 2) := by decide +kernel
theorem dX12_column_345 : decode cX12_column 345 = .ok (.idiv, 1) := by decide +kernel
theorem dX12_column_346 : decode cX12_column 346 = .ok (.istore_n 1, 1) := by decide +kernel
theorem dX12_column_347 : decode cX12_column 347 = .ok (.aload_n 0, 1) := by decide +kernel
theorem dX12_column_348 : decode cX12_column 348 = .ok (.getfield 9, 3) := by decide +kernel
theorem dX12_column_351 : decode cX12_column 351 = .ok (.iconst 0, 1) := by decide +kernel
theorem dX12_column_352 : decode cX12_column 352 = .ok (.dup2, 1) := by decide +kernel
theorem dX12_column_353 : decode cX12_column 353 = .ok (.iaload, 1) := by decide +kernel
theorem dX12_column_354 : decode cX12_column 354 = .ok (.iload_n 1, 1) := by decide +kernel
theorem dX12_column_355 : decode cX12_column 355 = .ok (.isub, 1) := by decide +kernel
theorem dX12_column_356 : decode cX12_column 356 = .ok (.iastore, 1) := by decide +kernel
theorem dX12_column_357 : decode cX12_column 357 = .ok (.aload_n 0, 1) := by decide +kernel
theorem dX12_column_358 : decode cX12_column 358 = .ok (.dup, 1) := by decide +kernel
theorem dX12_column_359 : decode cX12_column 359 = .ok (.getfield 50, 3) := by decide +kernel
theorem dX12_column_362 : decode cX12_column 362 = .ok (.iload_n 1, 1) := by decide +kernel
theorem dX12_column_363 : decode cX12_column 363 = .ok (.iadd, 1) := by decide +kernel
theorem dX12_column_364 : decode cX12_column 364 = .ok (.putfield 50, 3) := by decide +kernel
theorem dX12_column_367 : decode cX12_column 367 = .ok (.return_, 1) := by decide +kernel
theorem dX12_drags_0 : decode cX12_drags 0 = .ok (.iconst 0, 1) := by decide +kernel
theorem dX12_drags_1 : decode cX12_drags 1 = .ok (.istore_n 1, 1) := by decide +kernel
theorem dX12_drags_2 : decode cX12_drags 2 = .ok (.iload_n 1, 1) := by decide +kernel
theorem dX12_drags_3 : decode cX12_drags 3 = .ok (.bipush 12, 2) := by decide +kernel
theorem dX12_drags_5 : decode cX12_drags 5 = .ok (.if_icmp .ge 48, 3) := by decide +kernel
theorem dX12_drags_8 : decode cX12_drags 8 = .ok (.aload_n 0, 1) := by decide +kernel
theorem dX12_drags_9 : decode cX12_drags 9 = .ok (.getfield 53, 3) := by decide +kernel
theorem dX12_drags_12 : decode cX12_drags 12 = .ok (.ifCond .le 41, 3) := by decide +kernel
theorem dX12_drags_15 : decode cX12_drags 15 = .ok (.aload_n 0, 1) := by decide +kernel
theorem dX12_drags_16 : decode cX12_drags 16 = .ok (.getfield 27, 3) := by decide +kernel
theorem dX12_drags_19 : decode cX12_drags 19 = .ok (.iload_n 1, 1) := by decide +kernel
theorem dX12_drags_20 : decode cX12_drags 20 = .ok (.iaload, 1) := by decide +kernel
theorem dX12_drags_21 : decode cX12_drags 21 = .ok (.aload_n 0, 1) := by decide +kernel
theorem dX12_drags_22 : decode cX12_drags 22 = .ok (.getfield 53, 3) := by decide +kernel
theorem dX12_drags_25 : decode cX12_drags 25 = .ok (.idiv, 1) := by decide +kernel
theorem dX12_drags_26 : decode cX12_drags 26 = .ok (.istore_n 2, 1) := by decide +kernel
theorem dX12_drags_27 : decode cX12_drags 27 = .ok (.aload_n 0, 1) := by decide +kernel
theorem dX12_drags_28 : decode cX12_drags 28 = .ok (.getfield 27, 3) := by decide +kernel
theorem dX12_drags_31 : decode cX12_drags 31 = .ok (.iload_n 1, 1) := by decide +kernel
theorem dX12_drags_32 : decode cX12_drags 32 = .ok (.dup2, 1) := by decide +kernel
theorem dX12_drags_33 : decode cX12_drags 33 = .ok (.iaload, 1) := by decide +kernel
theorem dX12_drags_34 : decode cX12_drags 34 = .ok (.iload_n 2, 1) := by decide +kernel
theorem dX12_drags_35 : decode cX12_drags 35 = .ok (.isub, 1) := by decide +kernel
theorem dX12_drags_36 : decode cX12_drags 36 = .ok (.iastore, 1) := by decide +kernel
theorem dX12_drags_37 : decode cX12_drags 37 = .ok (.aload_n 0, 1) := by decide +kernel
theorem dX12_drags_38 : decode cX12_drags 38 = .ok (.dup, 1) := by decide +kernel
theorem dX12_drags_39 : decode cX12_drags 39 = .ok (.getfield 56, 3) := by decide +kernel
theorem dX12_drags_42 : decode cX12_drags 42 = .ok (.iload_n 2, 1) := by decide +kernel
theorem dX12_drags_43 : decode cX12_drags 43 = .ok (.iadd, 1) := by decide +kernel
theorem dX12_drags_44 : decode cX12_drags 44 = .ok (.putfield 56, 3) := by decide +kernel
theorem dX12_drags_47 : decode cX12_drags 47 = .ok (.iinc 1 1, 3) := by decide +kernel
theorem dX12_drags_50 : decode cX12_drags 50 = .ok (.goto (-48), 3) := by decide +kernel
theorem dX12_drags_53 : decode cX12_drags 53 = .ok (.return_, 1) := by decide +kernel
theorem dX12_wins_0 : decode cX12_wins 0 = .ok (.aload_n 1, 1) := by decide +kernel
theorem dX12_wins_1 : decode cX12_wins 1 = .ok (.getfield 125, 3) := by decide +kernel
theorem dX12_wins_4 : decode cX12_wins 4 = .ok (.aload_n 2, 1) := by decide +kernel
theorem dX12_wins_5 : decode cX12_wins 5 = .ok (.getfield 125, 3) := by decide +kernel
theorem dX12_wins_8 : decode cX12_wins 8 = .ok (.if_icmp .gt 25, 3) := by decide +kernel
theorem dX12_wins_11 : decode cX12_wins 11 = .ok (.aload_n 1, 1) := by decide +kernel
theorem dX12_wins_12 : decode cX12_wins 12 = .ok (.getfield 125, 3) := by decide +kernel
theorem dX12_wins_15 : decode cX12_wins 15 = .ok (.aload_n 2, 1) := by decide +kernel
theorem dX12_wins_16 : decode cX12_wins 16 = .ok (.getfield 125, 3) := by decide +kernel
theorem dX12_wins_19 : decode cX12_wins 19 = .ok (.if_icmp .ne 18, 3) := by decide +kernel
theorem dX12_wins_22 : decode cX12_wins 22 = .ok (.aload_n 1, 1) := by decide +kernel
theorem dX12_wins_23 : decode cX12_wins 23 = .ok (.getfield 127, 3) := by decide +kernel
theorem dX12_wins_26 : decode cX12_wins 26 = .ok (.aload_n 2, 1) := by decide +kernel
theorem dX12_wins_27 : decode cX12_wins 27 = .ok (.getfield 127, 3) := by decide +kernel
theorem dX12_wins_30 : decode cX12_wins 30 = .ok (.if_icmp .lt 7, 3) := by decide +kernel
theorem dX12_wins_33 : decode cX12_wins 33 = .ok (.iconst 1, 1) := by decide +kernel
theorem dX12_wins_34 : decode cX12_wins 34 = .ok (.goto 4, 3) := by decide +kernel
theorem dX12_wins_37 : decode cX12_wins 37 = .ok (.iconst 0, 1) := by decide +kernel
theorem dX12_wins_38 : decode cX12_wins 38 = .ok (.ireturn, 1) := by decide +kernel
theorem dX12_meet_0 : decode cX12_meet 0 = .ok (.aload_n 0, 1) := by decide +kernel
theorem dX12_meet_1 : decode cX12_meet 1 = .ok (.getfield 33, 3) := by decide +kernel
theorem dX12_meet_4 : decode cX12_meet 4 = .ok (.iload_n 1, 1) := by decide +kernel
theorem dX12_meet_5 : decode cX12_meet 5 = .ok (.invokeinterface 130 2, 5) := by decide +kernel
theorem dX12_meet_10 : decode cX12_meet 10 = .ok (.checkcast 75, 3) := by decide +kernel
theorem dX12_meet_13 : decode cX12_meet 13 = .ok (.astore_n 3, 1) := by decide +kernel
theorem dX12_meet_14 : decode cX12_meet 14 = .ok (.aload_n 0, 1) := by decide +kernel
theorem dX12_meet_15 : decode cX12_meet 15 = .ok (.getfield 33, 3) := by decide +kernel
theorem dX12_meet_18 : decode cX12_meet 18 = .ok (.iload_n 2, 1) := by decide +kernel
theorem dX12_meet_19 : decode cX12_meet 19 = .ok (.invokeinterface 130 2, 5) := by decide +kernel
theorem dX12_meet_24 : decode cX12_meet 24 = .ok (.checkcast 75, 3) := by decide +kernel
theorem dX12_meet_27 : decode cX12_meet 27 = .ok (.astore 4, 2) := by decide +kernel
theorem dX12_meet_29 : decode cX12_meet 29 = .ok (.aload_n 3, 1) := by decide +kernel
theorem dX12_meet_30 : decode cX12_meet 30 = .ok (.getfield 134, 3) := by decide +kernel
theorem dX12_meet_33 : decode cX12_meet 33 = .ok (.aload 4, 2) := by decide +kernel
theorem dX12_meet_35 : decode cX12_meet 35 = .ok (.getfield 134, 3) := by decide +kernel
theorem dX12_meet_38 : decode cX12_meet 38 = .ok (.isub, 1) := by decide +kernel
theorem dX12_meet_39 : decode cX12_meet 39 = .ok (.sipush 3600, 3) := by decide +kernel
theorem dX12_meet_42 : decode cX12_meet 42 = .ok (.invokestatic 137, 3) := by decide +kernel
theorem dX12_meet_45 : decode cX12_meet 45 = .ok (.istore 5, 2) := by decide +kernel
theorem dX12_meet_47 : decode cX12_meet 47 = .ok (.aload_n 3, 1) := by decide +kernel
theorem dX12_meet_48 : decode cX12_meet 48 = .ok (.getfield 140, 3) := by decide +kernel
theorem dX12_meet_51 : decode cX12_meet 51 = .ok (.ifCond .ne 49, 3) := by decide +kernel
theorem dX12_meet_54 : decode cX12_meet 54 = .ok (.aload 4, 2) := by decide +kernel
theorem dX12_meet_56 : decode cX12_meet 56 = .ok (.getfield 140, 3) := by decide +kernel
theorem dX12_meet_59 : decode cX12_meet 59 = .ok (.ifCond .ne 41, 3) := by decide +kernel
theorem dX12_meet_62 : decode cX12_meet 62 = .ok (.aload_n 3, 1) := by decide +kernel
theorem dX12_meet_63 : decode cX12_meet 63 = .ok (.getfield 144, 3) := by decide +kernel
theorem dX12_meet_66 : decode cX12_meet 66 = .ok (.aload 4, 2) := by decide +kernel
theorem dX12_meet_68 : decode cX12_meet 68 = .ok (.getfield 144, 3) := by decide +kernel
theorem dX12_meet_71 : decode cX12_meet 71 = .ok (.if_icmp .ne 29, 3) := by decide +kernel
theorem dX12_meet_74 : decode cX12_meet 74 = .ok (.iload 5, 2) := by decide +kernel
theorem dX12_meet_76 : decode cX12_meet 76 = .ok (.sipush 3600, 3) := by decide +kernel
theorem dX12_meet_79 : decode cX12_meet 79 = .ok (.iload 5, 2) := by decide +kernel
theorem dX12_meet_81 : decode cX12_meet 81 = .ok (.isub, 1) := by decide +kernel
theorem dX12_meet_82 : decode cX12_meet 82 = .ok (.invokestatic 109, 3) := by decide +kernel
theorem dX12_meet_85 : decode cX12_meet 85 = .ok (.aload_n 3, 1) := by decide +kernel
theorem dX12_meet_86 : decode cX12_meet 86 = .ok (.getfield 125, 3) := by decide +kernel
theorem dX12_meet_89 : decode cX12_meet 89 = .ok (.aload 4, 2) := by decide +kernel
theorem dX12_meet_91 : decode cX12_meet 91 = .ok (.getfield 125, 3) := by decide +kernel
theorem dX12_meet_94 : decode cX12_meet 94 = .ok (.iadd, 1) := by decide +kernel
theorem dX12_meet_95 : decode cX12_meet 95 = .ok (.iconst 2, 1) := by decide +kernel
theorem dX12_meet_96 : decode cX12_meet 96 = .ok (.idiv, 1) := by decide +kernel
theorem dX12_meet_97 : decode cX12_meet 97 = .ok (.if_icmp .lt 4, 3) := by decide +kernel
theorem dX12_meet_100 : decode cX12_meet 100 = .ok (.return_, 1) := by decide +kernel
theorem dX12_meet_101 : decode cX12_meet 101 = .ok (.aload_n 0, 1) := by decide +kernel
theorem dX12_meet_102 : decode cX12_meet 102 = .ok (.aload_n 3, 1) := by decide +kernel
theorem dX12_meet_103 : decode cX12_meet 103 = .ok (.aload 4, 2) := by decide +kernel
theorem dX12_meet_105 : decode cX12_meet 105 = .ok (.invokevirtual 147, 3) := by decide +kernel
theorem dX12_meet_108 : decode cX12_meet 108 = .ok (.ifCond .eq 7, 3) := by decide +kernel
theorem dX12_meet_111 : decode cX12_meet 111 = .ok (.aload_n 3, 1) := by decide +kernel
theorem dX12_meet_112 : decode cX12_meet 112 = .ok (.goto 5, 3) := by decide +kernel
theorem dX12_meet_115 : decode cX12_meet 115 = .ok (.aload 4, 2) := by decide +kernel
theorem dX12_meet_117 : decode cX12_meet 117 = .ok (.astore 6, 2) := by decide +kernel
theorem dX12_meet_119 : decode cX12_meet 119 = .ok (.aload 6, 2) := by decide +kernel
theorem dX12_meet_121 : decode cX12_meet 121 = .ok (.aload_n 3, 1) := by decide +kernel
theorem dX12_meet_122 : decode cX12_meet 122 = .ok (.if_acmp .ne 8, 3) := by decide +kernel
theorem dX12_meet_125 : decode cX12_meet 125 = .ok (.aload 4, 2) := by decide +kernel
theorem dX12_meet_127 : decode cX12_meet 127 = .ok (.goto 4, 3) := by decide +kernel
theorem dX12_meet_130 : decode cX12_meet 130 = .ok (.aload_n 3, 1) := by decide +kernel
theorem dX12_meet_131 : decode cX12_meet 131 = .ok (.astore 7, 2) := by decide +kernel
theorem dX12_meet_133 : decode cX12_meet 133 = .ok (.aload_n 3, 1) := by decide +kernel
theorem dX12_meet_134 : decode cX12_meet 134 = .ok (.getfield 125, 3) := by decide +kernel
theorem dX12_meet_137 : decode cX12_meet 137 = .ok (.aload_n 3, 1) := by decide +kernel
theorem dX12_meet_138 : decode cX12_meet 138 = .ok (.getfield 125, 3) := by decide +kernel
theorem dX12_meet_141 : decode cX12_meet 141 = .ok (.imul, 1) := by decide +kernel
theorem dX12_meet_142 : decode cX12_meet 142 = .ok (.aload 4, 2) := by decide +kernel
theorem dX12_meet_144 : decode cX12_meet 144 = .ok (.getfield 125, 3) := by decide +kernel
theorem dX12_meet_147 : decode cX12_meet 147 = .ok (.aload 4, 2) := by decide +kernel
theorem dX12_meet_149 : decode cX12_meet 149 = .ok (.getfield 125, 3) := by decide +kernel
theorem dX12_meet_152 : decode cX12_meet 152 = .ok (.imul, 1) := by decide +kernel
theorem dX12_meet_153 : decode cX12_meet 153 = .ok (.iadd, 1) := by decide +kernel
theorem dX12_meet_154 : decode cX12_meet 154 = .ok (.istore 8, 2) := by decide +kernel
theorem dX12_meet_156 : decode cX12_meet 156 = .ok (.iconst 0, 1) := by decide +kernel
theorem dX12_meet_157 : decode cX12_meet 157 = .ok (.istore 9, 2) := by decide +kernel
theorem dX12_meet_159 : decode cX12_meet 159 = .ok (.iload 9, 2) := by decide +kernel
theorem dX12_meet_161 : decode cX12_meet 161 = .ok (.iconst 1, 1) := by decide +kernel
theorem dX12_meet_162 : decode cX12_meet 162 = .ok (.iadd, 1) := by decide +kernel
theorem dX12_meet_163 : decode cX12_meet 163 = .ok (.iload 9, 2) := by decide +kernel
theorem dX12_meet_165 : decode cX12_meet 165 = .ok (.iconst 1, 1) := by decide +kernel
theorem dX12_meet_166 : decode cX12_meet 166 = .ok (.iadd, 1) := by decide +kernel
theorem dX12_meet_167 : decode cX12_meet 167 = .ok (.imul, 1) := by decide +kernel
theorem dX12_meet_168 : decode cX12_meet 168 = .ok (.iload 8, 2) := by decide +kernel
theorem dX12_meet_170 : decode cX12_meet 170 = .ok (.if_icmp .gt 9, 3) := by decide +kernel
theorem dX12_meet_173 : decode cX12_meet 173 = .ok (.iinc 9 1, 3) := by decide +kernel
theorem dX12_meet_176 : decode cX12_meet 176 = .ok (.goto (-17), 3) := by decide +kernel
theorem dX12_meet_179 : decode cX12_meet 179 = .ok (.aload 6, 2) := by decide +kernel
theorem dX12_meet_181 : decode cX12_meet 181 = .ok (.sipush 400, 3) := by decide +kernel
theorem dX12_meet_184 : decode cX12_meet 184 = .ok (.iload 9, 2) := by decide +kernel
theorem dX12_meet_186 : decode cX12_meet 186 = .ok (.invokestatic 109, 3) := by decide +kernel
theorem dX12_meet_189 : decode cX12_meet 189 = .ok (.putfield 125, 3) := by decide +kernel
theorem dX12_meet_192 : decode cX12_meet 192 = .ok (.aload 6, 2) := by decide +kernel
theorem dX12_meet_194 : decode cX12_meet 194 = .ok (.aload 6, 2) := by decide +kernel
theorem dX12_meet_196 : decode cX12_meet 196 = .ok (.getfield 151, 3) := by decide +kernel
theorem dX12_meet_199 : decode cX12_meet 199 = .ok (.bipush 45, 2) := by decide +kernel
theorem dX12_meet_201 : decode cX12_meet 201 = .ok (.if_icmp .ne 11, 3) := by decide +kernel
theorem dX12_meet_204 : decode cX12_meet 204 = .ok (.aload 7, 2) := by decide +kernel
theorem dX12_meet_206 : decode cX12_meet 206 = .ok (.getfield 151, 3) := by decide +kernel
theorem dX12_meet_209 : decode cX12_meet 209 = .ok (.goto 8, 3) := by decide +kernel
theorem dX12_meet_212 : decode cX12_meet 212 = .ok (.aload 6, 2) := by decide +kernel
theorem dX12_meet_214 : decode cX12_meet 214 = .ok (.getfield 151, 3) := by decide +kernel
theorem dX12_meet_217 : decode cX12_meet 217 = .ok (.putfield 151, 3) := by decide +kernel
theorem dX12_meet_220 : decode cX12_meet 220 = .ok (.aload 7, 2) := by decide +kernel
theorem dX12_meet_222 : decode cX12_meet 222 = .ok (.iconst 1, 1) := by decide +kernel
theorem dX12_meet_223 : decode cX12_meet 223 = .ok (.putfield 140, 3) := by decide +kernel
theorem dX12_meet_226 : decode cX12_meet 226 = .ok (.aload 7, 2) := by decide +kernel
theorem dX12_meet_228 : decode cX12_meet 228 = .ok (.bipush 45, 2) := by decide +kernel
theorem dX12_meet_230 : decode cX12_meet 230 = .ok (.putfield 151, 3) := by decide +kernel
theorem dX12_meet_233 : decode cX12_meet 233 = .ok (.aload 7, 2) := by decide +kernel
theorem dX12_meet_235 : decode cX12_meet 235 = .ok (.aload 6, 2) := by decide +kernel
theorem dX12_meet_237 : decode cX12_meet 237 = .ok (.aload_n 3, 1) := by decide +kernel
theorem dX12_meet_238 : decode cX12_meet 238 = .ok (.if_acmp .ne 7, 3) := by decide +kernel
theorem dX12_meet_241 : decode cX12_meet 241 = .ok (.iload_n 1, 1) := by decide +kernel
theorem dX12_meet_242 : decode cX12_meet 242 = .ok (.goto 4, 3) := by decide +kernel
theorem dX12_meet_245 : decode cX12_meet 245 = .ok (.iload_n 2, 1) := by decide +kernel
theorem dX12_meet_246 : decode cX12_meet 246 = .ok (.putfield 155, 3) := by decide +kernel
theorem dX12_meet_249 : decode cX12_meet 249 = .ok (.aload_n 0, 1) := by decide +kernel
theorem dX12_meet_250 : decode cX12_meet 250 = .ok (.bipush 109, 2) := by decide +kernel
theorem dX12_meet_252 : decode cX12_meet 252 = .ok (.aload 7, 2) := by decide +kernel
theorem dX12_meet_254 : decode cX12_meet 254 = .ok (.getfield 155, 3) := by decide +kernel
theorem dX12_meet_257 : decode cX12_meet 257 = .ok (.invokevirtual 158, 3) := by decide +kernel
theorem dX12_meet_260 : decode cX12_meet 260 = .ok (.return_, 1) := by decide +kernel
theorem dX12_storms_0 : decode cX12_storms 0 = .ok (.aload_n 0, 1) := by decide +kernel
theorem dX12_storms_1 : decode cX12_storms 1 = .ok (.getfield 33, 3) := by decide +kernel
theorem dX12_storms_4 : decode cX12_storms 4 = .ok (.invokeinterface 59 1, 5) := by decide +kernel
theorem dX12_storms_9 : decode cX12_storms 9 = .ok (.astore_n 1, 1) := by decide +kernel
theorem dX12_storms_10 : decode cX12_storms 10 = .ok (.aload_n 1, 1) := by decide +kernel
theorem dX12_storms_11 : decode cX12_storms 11 = .ok (.invokeinterface 65 1, 5) := by decide +kernel
theorem dX12_storms_16 : decode cX12_storms 16 = .ok (.ifCond .eq 56, 3) := by decide +kernel
theorem dX12_storms_19 : decode cX12_storms 19 = .ok (.aload_n 1, 1) := by decide +kernel
theorem dX12_storms_20 : decode cX12_storms 20 = .ok (.invokeinterface 71 1, 5) := by decide +kernel
theorem dX12_storms_25 : decode cX12_storms 25 = .ok (.checkcast 75, 3) := by decide +kernel
theorem dX12_storms_28 : decode cX12_storms 28 = .ok (.astore_n 2, 1) := by decide +kernel
theorem dX12_storms_29 : decode cX12_storms 29 = .ok (.aload_n 2, 1) := by decide +kernel
theorem dX12_storms_30 : decode cX12_storms 30 = .ok (.getfield 140, 3) := by decide +kernel
theorem dX12_storms_33 : decode cX12_storms 33 = .ok (.ifCond .ne 36, 3) := by decide +kernel
theorem dX12_storms_36 : decode cX12_storms 36 = .ok (.aload_n 2, 1) := by decide +kernel
theorem dX12_storms_37 : decode cX12_storms 37 = .ok (.aload_n 2, 1) := by decide +kernel
theorem dX12_storms_38 : decode cX12_storms 38 = .ok (.getfield 134, 3) := by decide +kernel
theorem dX12_storms_41 : decode cX12_storms 41 = .ok (.aload_n 0, 1) := by decide +kernel
theorem dX12_storms_42 : decode cX12_storms 42 = .ok (.aload_n 2, 1) := by decide +kernel
theorem dX12_storms_43 : decode cX12_storms 43 = .ok (.getfield 144, 3) := by decide +kernel
theorem dX12_storms_46 : decode cX12_storms 46 = .ok (.invokevirtual 106, 3) := by decide +kernel
theorem dX12_storms_49 : decode cX12_storms 49 = .ok (.iadd, 1) := by decide +kernel
theorem dX12_storms_50 : decode cX12_storms 50 = .ok (.sipush 3600, 3) := by decide +kernel
theorem dX12_storms_53 : decode cX12_storms 53 = .ok (.invokestatic 137, 3) := by decide +kernel
theorem dX12_storms_56 : decode cX12_storms 56 = .ok (.putfield 134, 3) := by decide +kernel
theorem dX12_storms_59 : decode cX12_storms 59 = .ok (.aload_n 2, 1) := by decide +kernel
theorem dX12_storms_60 : decode cX12_storms 60 = .ok (.dup, 1) := by decide +kernel
theorem dX12_storms_61 : decode cX12_storms 61 = .ok (.getfield 127, 3) := by decide +kernel
theorem dX12_storms_64 : decode cX12_storms 64 = .ok (.iconst 1, 1) := by decide +kernel
theorem dX12_storms_65 : decode cX12_storms 65 = .ok (.iadd, 1) := by decide +kernel
theorem dX12_storms_66 : decode cX12_storms 66 = .ok (.putfield 127, 3) := by decide +kernel
theorem dX12_storms_69 : decode cX12_storms 69 = .ok (.goto (-59), 3) := by decide +kernel
theorem dX12_storms_72 : decode cX12_storms 72 = .ok (.iconst 0, 1) := by decide +kernel
theorem dX12_storms_73 : decode cX12_storms 73 = .ok (.istore_n 1, 1) := by decide +kernel
theorem dX12_storms_74 : decode cX12_storms 74 = .ok (.iload_n 1, 1) := by decide +kernel
theorem dX12_storms_75 : decode cX12_storms 75 = .ok (.aload_n 0, 1) := by decide +kernel
theorem dX12_storms_76 : decode cX12_storms 76 = .ok (.getfield 33, 3) := by decide +kernel
theorem dX12_storms_79 : decode cX12_storms 79 = .ok (.invokeinterface 115 1, 5) := by decide +kernel
theorem dX12_storms_84 : decode cX12_storms 84 = .ok (.if_icmp .ge 38, 3) := by decide +kernel
theorem dX12_storms_87 : decode cX12_storms 87 = .ok (.iload_n 1, 1) := by decide +kernel
theorem dX12_storms_88 : decode cX12_storms 88 = .ok (.iconst 1, 1) := by decide +kernel
theorem dX12_storms_89 : decode cX12_storms 89 = .ok (.iadd, 1) := by decide +kernel
theorem dX12_storms_90 : decode cX12_storms 90 = .ok (.istore_n 2, 1) := by decide +kernel
theorem dX12_storms_91 : decode cX12_storms 91 = .ok (.iload_n 2, 1) := by decide +kernel
theorem dX12_storms_92 : decode cX12_storms 92 = .ok (.aload_n 0, 1) := by decide +kernel
theorem dX12_storms_93 : decode cX12_storms 93 = .ok (.getfield 33, 3) := by decide +kernel
theorem dX12_storms_96 : decode cX12_storms 96 = .ok (.invokeinterface 115 1, 5) := by decide +kernel
theorem dX12_storms_101 : decode cX12_storms 101 = .ok (.if_icmp .ge 15, 3) := by decide +kernel
theorem dX12_storms_104 : decode cX12_storms 104 = .ok (.aload_n 0, 1) := by decide +kernel
theorem dX12_storms_105 : decode cX12_storms 105 = .ok (.iload_n 1, 1) := by decide +kernel
theorem dX12_storms_106 : decode cX12_storms 106 = .ok (.iload_n 2, 1) := by decide +kernel
theorem dX12_storms_107 : decode cX12_storms 107 = .ok (.invokevirtual 161, 3) := by decide +kernel
theorem dX12_storms_110 : decode cX12_storms 110 = .ok (.iinc 2 1, 3) := by decide +kernel
theorem dX12_storms_113 : decode cX12_storms 113 = .ok (.goto (-22), 3) := by decide +kernel
theorem dX12_storms_116 : decode cX12_storms 116 = .ok (.iinc 1 1, 3) := by decide +kernel
theorem dX12_storms_119 : decode cX12_storms 119 = .ok (.goto (-45), 3) := by decide +kernel
theorem dX12_storms_122 : decode cX12_storms 122 = .ok (.iconst 0, 1) := by decide +kernel
theorem dX12_storms_123 : decode cX12_storms 123 = .ok (.istore_n 1, 1) := by decide +kernel
theorem dX12_storms_124 : decode cX12_storms 124 = .ok (.iload_n 1, 1) := by decide +kernel
theorem dX12_storms_125 : decode cX12_storms 125 = .ok (.aload_n 0, 1) := by decide +kernel
theorem dX12_storms_126 : decode cX12_storms 126 = .ok (.getfield 33, 3) := by decide +kernel
theorem dX12_storms_129 : decode cX12_storms 129 = .ok (.invokeinterface 115 1, 5) := by decide +kernel
theorem dX12_storms_134 : decode cX12_storms 134 = .ok (.if_icmp .ge 90, 3) := by decide +kernel
theorem dX12_storms_137 : decode cX12_storms 137 = .ok (.aload_n 0, 1) := by decide +kernel
theorem dX12_storms_138 : decode cX12_storms 138 = .ok (.getfield 33, 3) := by decide +kernel
theorem dX12_storms_141 : decode cX12_storms 141 = .ok (.iload_n 1, 1) := by decide +kernel
theorem dX12_storms_142 : decode cX12_storms 142 = .ok (.invokeinterface 130 2, 5) := by decide +kernel
theorem dX12_storms_147 : decode cX12_storms 147 = .ok (.checkcast 75, 3) := by decide +kernel
theorem dX12_storms_150 : decode cX12_storms 150 = .ok (.astore_n 2, 1) := by decide +kernel
theorem dX12_storms_151 : decode cX12_storms 151 = .ok (.aload_n 2, 1) := by decide +kernel
theorem dX12_storms_152 : decode cX12_storms 152 = .ok (.getfield 140, 3) := by decide +kernel
theorem dX12_storms_155 : decode cX12_storms 155 = .ok (.ifCond .ne 63, 3) := by decide +kernel
theorem dX12_storms_158 : decode cX12_storms 158 = .ok (.aload_n 0, 1) := by decide +kernel
theorem dX12_storms_159 : decode cX12_storms 159 = .ok (.aload_n 2, 1) := by decide +kernel
theorem dX12_storms_160 : decode cX12_storms 160 = .ok (.getfield 144, 3) := by decide +kernel
theorem dX12_storms_163 : decode cX12_storms 163 = .ok (.invokevirtual 165, 3) := by decide +kernel
theorem dX12_storms_166 : decode cX12_storms 166 = .ok (.bipush 100, 2) := by decide +kernel
theorem dX12_storms_168 : decode cX12_storms 168 = .ok (.if_icmp .le 50, 3) := by decide +kernel
theorem dX12_storms_171 : decode cX12_storms 171 = .ok (.aload_n 2, 1) := by decide +kernel
theorem dX12_storms_172 : decode cX12_storms 172 = .ok (.dup, 1) := by decide +kernel
theorem dX12_storms_173 : decode cX12_storms 173 = .ok (.getfield 125, 3) := by decide +kernel
theorem dX12_storms_176 : decode cX12_storms 176 = .ok (.iconst 1, 1) := by decide +kernel
theorem dX12_storms_177 : decode cX12_storms 177 = .ok (.aload_n 2, 1) := by decide +kernel
theorem dX12_storms_178 : decode cX12_storms 178 = .ok (.getfield 125, 3) := by decide +kernel
theorem dX12_storms_181 : decode cX12_storms 181 = .ok (.bipush 10, 2) := by decide +kernel
theorem dX12_storms_183 : decode cX12_storms 183 = .ok (.idiv, 1) := by decide +kernel
theorem dX12_storms_184 : decode cX12_storms 184 = .ok (.invokestatic 100, 3) := by decide +kernel
theorem dX12_storms_187 : decode cX12_storms 187 = .ok (.isub, 1) := by decide +kernel
theorem dX12_storms_188 : decode cX12_storms 188 = .ok (.putfield 125, 3) := by decide +kernel
theorem dX12_storms_191 : decode cX12_storms 191 = .ok (.aload_n 2, 1) := by decide +kernel
theorem dX12_storms_192 : decode cX12_storms 192 = .ok (.getfield 125, 3) := by decide +kernel
theorem dX12_storms_195 : decode cX12_storms 195 = .ok (.bipush 10, 2) := by decide +kernel
theorem dX12_storms_197 : decode cX12_storms 197 = .ok (.if_icmp .ge 21, 3) := by decide +kernel
theorem dX12_storms_200 : decode cX12_storms 200 = .ok (.aload_n 2, 1) := by decide +kernel
theorem dX12_storms_201 : decode cX12_storms 201 = .ok (.iconst 1, 1) := by decide +kernel
theorem dX12_storms_202 : decode cX12_storms 202 = .ok (.putfield 140, 3) := by decide +kernel
theorem dX12_storms_205 : decode cX12_storms 205 = .ok (.aload_n 2, 1) := by decide +kernel
theorem dX12_storms_206 : decode cX12_storms 206 = .ok (.bipush 45, 2) := by decide +kernel
theorem dX12_storms_208 : decode cX12_storms 208 = .ok (.putfield 151, 3) := by decide +kernel
theorem dX12_storms_211 : decode cX12_storms 211 = .ok (.aload_n 0, 1) := by decide +kernel
theorem dX12_storms_212 : decode cX12_storms 212 = .ok (.bipush 100, 2) := by decide +kernel
theorem dX12_storms_214 : decode cX12_storms 214 = .ok (.iload_n 1, 1) := by decide +kernel
theorem dX12_storms_215 : decode cX12_storms 215 = .ok (.invokevirtual 158, 3) := by decide +kernel
theorem dX12_storms_218 : decode cX12_storms 218 = .ok (.iinc 1 1, 3) := by decide +kernel
theorem dX12_storms_221 : decode cX12_storms 221 = .ok (.goto (-97), 3) := by decide +kernel
theorem dX12_storms_224 : decode cX12_storms 224 = .ok (.aload_n 0, 1) := by decide +kernel
theorem dX12_storms_225 : decode cX12_storms 225 = .ok (.getfield 33, 3) := by decide +kernel
theorem dX12_storms_228 : decode cX12_storms 228 = .ok (.invokeinterface 115 1, 5) := by decide +kernel
theorem dX12_storms_233 : decode cX12_storms 233 = .ok (.istore_n 1, 1) := by decide +kernel
theorem dX12_storms_234 : decode cX12_storms 234 = .ok (.iconst 0, 1) := by decide +kernel
theorem dX12_storms_235 : decode cX12_storms 235 = .ok (.istore_n 2, 1) := by decide +kernel
theorem dX12_storms_236 : decode cX12_storms 236 = .ok (.iload_n 2, 1) := by decide +kernel
theorem dX12_storms_237 : decode cX12_storms 237 = .ok (.iload_n 1, 1) := by decide +kernel
theorem dX12_storms_238 : decode cX12_storms 238 = .ok (.if_icmp .ge 146, 3) := by decide +kernel
theorem dX12_storms_241 : decode cX12_storms 241 = .ok (.aload_n 0, 1) := by decide +kernel
theorem dX12_storms_242 : decode cX12_storms 242 = .ok (.getfield 33, 3) := by decide +kernel
theorem dX12_storms_245 : decode cX12_storms 245 = .ok (.iload_n 2, 1) := by decide +kernel
theorem dX12_storms_246 : decode cX12_storms 246 = .ok (.invokeinterface 130 2, 5) := by decide +kernel
theorem dX12_storms_251 : decode cX12_storms 251 = .ok (.checkcast 75, 3) := by decide +kernel
theorem dX12_storms_254 : decode cX12_storms 254 = .ok (.astore_n 3, 1) := by decide +kernel
theorem dX12_storms_255 : decode cX12_storms 255 = .ok (.aload_n 3, 1) := by decide +kernel
theorem dX12_storms_256 : decode cX12_storms 256 = .ok (.getfield 140, 3) := by decide +kernel
theorem dX12_storms_259 : decode cX12_storms 259 = .ok (.ifCond .ne 119, 3) := by decide +kernel
theorem dX12_storms_262 : decode cX12_storms 262 = .ok (.aload_n 3, 1) := by decide +kernel
theorem dX12_storms_263 : decode cX12_storms 263 = .ok (.getfield 125, 3) := by decide +kernel
theorem dX12_storms_266 : decode cX12_storms 266 = .ok (.sipush 300, 3) := by decide +kernel
theorem dX12_storms_269 : decode cX12_storms 269 = .ok (.if_icmp .le 109, 3) := by decide +kernel
theorem dX12_storms_272 : decode cX12_storms 272 = .ok (.aload_n 0, 1) := by decide +kernel
theorem dX12_storms_273 : decode cX12_storms 273 = .ok (.getfield 33, 3) := by decide +kernel
theorem dX12_storms_276 : decode cX12_storms 276 = .ok (.invokeinterface 115 1, 5) := by decide +kernel
theorem dX12_storms_281 : decode cX12_storms 281 = .ok (.bipush 12, 2) := by decide +kernel
theorem dX12_storms_283 : decode cX12_storms 283 = .ok (.if_icmp .ge 95, 3) := by decide +kernel
theorem dX12_storms_286 : decode cX12_storms 286 = .ok (.new 75, 3) := by decide +kernel
theorem dX12_storms_289 : decode cX12_storms 289 = .ok (.dup, 1) := by decide +kernel
theorem dX12_storms_290 : decode cX12_storms 290 = .ok (.invokespecial 168, 3) := by decide +kernel
theorem dX12_storms_293 : decode cX12_storms 293 = .ok (.astore 4, 2) := by decide +kernel
theorem dX12_storms_295 : decode cX12_storms 295 = .ok (.aload 4, 2) := by decide +kernel
theorem dX12_storms_297 : decode cX12_storms 297 = .ok (.aload_n 3, 1) := by decide +kernel
theorem dX12_storms_298 : decode cX12_storms 298 = .ok (.getfield 144, 3) := by decide +kernel
theorem dX12_storms_301 : decode cX12_storms 301 = .ok (.putfield 144, 3) := by decide +kernel
theorem dX12_storms_304 : decode cX12_storms 304 = .ok (.aload 4, 2) := by decide +kernel
theorem dX12_storms_306 : decode cX12_storms 306 = .ok (.aload_n 3, 1) := by decide +kernel
theorem dX12_storms_307 : decode cX12_storms 307 = .ok (.getfield 134, 3) := by decide +kernel
theorem dX12_storms_310 : decode cX12_storms 310 = .ok (.aload_n 3, 1) := by decide +kernel
theorem dX12_storms_311 : decode cX12_storms 311 = .ok (.getfield 125, 3) := by decide +kernel
theorem dX12_storms_314 : decode cX12_storms 314 = .ok (.iadd, 1) := by decide +kernel
theorem dX12_storms_315 : decode cX12_storms 315 = .ok (.sipush 3600, 3) := by decide +kernel
theorem dX12_storms_318 : decode cX12_storms 318 = .ok (.invokestatic 137, 3) := by decide +kernel
theorem dX12_storms_321 : decode cX12_storms 321 = .ok (.putfield 134, 3) := by decide +kernel
theorem dX12_storms_324 : decode cX12_storms 324 = .ok (.aload 4, 2) := by decide +kernel
theorem dX12_storms_326 : decode cX12_storms 326 = .ok (.aload_n 3, 1) := by decide +kernel
theorem dX12_storms_327 : decode cX12_storms 327 = .ok (.getfield 125, 3) := by decide +kernel
theorem dX12_storms_330 : decode cX12_storms 330 = .ok (.iconst 3, 1) := by decide +kernel
theorem dX12_storms_331 : decode cX12_storms 331 = .ok (.idiv, 1) := by decide +kernel
theorem dX12_storms_332 : decode cX12_storms 332 = .ok (.putfield 125, 3) := by decide +kernel
theorem dX12_storms_335 : decode cX12_storms 335 = .ok (.aload_n 3, 1) := by decide +kernel
theorem dX12_storms_336 : decode cX12_storms 336 = .ok (.dup, 1) := by decide +kernel
theorem dX12_storms_337 : decode cX12_storms 337 = .ok (.getfield 125, 3) := by decide +kernel
theorem dX12_storms_340 : decode cX12_storms 340 = .ok (.aload 4, 2) := by decide +kernel
theorem dX12_storms_342 : decode cX12_storms 342 = .ok (.getfield 125, 3) := by decide +kernel
theorem dX12_storms_345 : decode cX12_storms 345 = .ok (.isub, 1) := by decide +kernel
theorem dX12_storms_346 : decode cX12_storms 346 = .ok (.putfield 125, 3) := by decide +kernel
theorem dX12_storms_349 : decode cX12_storms 349 = .ok (.aload_n 0, 1) := by decide +kernel
theorem dX12_storms_350 : decode cX12_storms 350 = .ok (.getfield 33, 3) := by decide +kernel
theorem dX12_storms_353 : decode cX12_storms 353 = .ok (.aload 4, 2) := by decide +kernel
theorem dX12_storms_355 : decode cX12_storms 355 = .ok (.invokeinterface 81 2, 5) := by decide +kernel
theorem dX12_storms_360 : decode cX12_storms 360 = .ok (.pop, 1) := by decide +kernel
theorem dX12_storms_361 : decode cX12_storms 361 = .ok (.aload_n 0, 1) := by decide +kernel
theorem dX12_storms_362 : decode cX12_storms 362 = .ok (.bipush 115, 2) := by decide +kernel
theorem dX12_storms_364 : decode cX12_storms 364 = .ok (.aload_n 0, 1) := by decide +kernel
theorem dX12_storms_365 : decode cX12_storms 365 = .ok (.getfield 33, 3) := by decide +kernel
theorem dX12_storms_368 : decode cX12_storms 368 = .ok (.invokeinterface 115 1, 5) := by decide +kernel
theorem dX12_storms_373 : decode cX12_storms 373 = .ok (.iconst 1, 1) := by decide +kernel
theorem dX12_storms_374 : decode cX12_storms 374 = .ok (.isub, 1) := by decide +kernel
theorem dX12_storms_375 : decode cX12_storms 375 = .ok (.invokevirtual 158, 3) := by decide +kernel
theorem dX12_storms_378 : decode cX12_storms 378 = .ok (.iinc 2 1, 3) := by decide +kernel
theorem dX12_storms_381 : decode cX12_storms 381 = .ok (.goto (-145), 3) := by decide +kernel
theorem dX12_storms_384 : decode cX12_storms 384 = .ok (.return_, 1) := by decide +kernel
theorem dX12_lasts_0 : decode cX12_lasts 0 = .ok (.aload_n 0, 1) := by decide +kernel
theorem dX12_lasts_1 : decode cX12_lasts 1 = .ok (.invokevirtual 169, 3) := by decide +kernel
theorem dX12_lasts_4 : decode cX12_lasts 4 = .ok (.aload_n 0, 1) := by decide +kernel
theorem dX12_lasts_5 : decode cX12_lasts 5 = .ok (.invokevirtual 172, 3) := by decide +kernel
theorem dX12_lasts_8 : decode cX12_lasts 8 = .ok (.aload_n 0, 1) := by decide +kernel
theorem dX12_lasts_9 : decode cX12_lasts 9 = .ok (.invokevirtual 175, 3) := by decide +kernel
theorem dX12_lasts_12 : decode cX12_lasts 12 = .ok (.aload_n 0, 1) := by decide +kernel
theorem dX12_lasts_13 : decode cX12_lasts 13 = .ok (.getfield 37, 3) := by decide +kernel
theorem dX12_lasts_16 : decode cX12_lasts 16 = .ok (.invokeinterface 59 1, 5) := by decide +kernel
theorem dX12_lasts_21 : decode cX12_lasts 21 = .ok (.astore_n 1, 1) := by decide +kernel
theorem dX12_lasts_22 : decode cX12_lasts 22 = .ok (.aload_n 1, 1) := by decide +kernel
theorem dX12_lasts_23 : decode cX12_lasts 23 = .ok (.invokeinterface 65 1, 5) := by decide +kernel
theorem dX12_lasts_28 : decode cX12_lasts 28 = .ok (.ifCond .eq 34, 3) := by decide +kernel
theorem dX12_lasts_31 : decode cX12_lasts 31 = .ok (.aload_n 1, 1) := by decide +kernel
theorem dX12_lasts_32 : decode cX12_lasts 32 = .ok (.invokeinterface 71 1, 5) := by decide +kernel
theorem dX12_lasts_37 : decode cX12_lasts 37 = .ok (.checkcast 85, 3) := by decide +kernel
theorem dX12_lasts_40 : decode cX12_lasts 40 = .ok (.astore_n 2, 1) := by decide +kernel
theorem dX12_lasts_41 : decode cX12_lasts 41 = .ok (.aload_n 2, 1) := by decide +kernel
theorem dX12_lasts_42 : decode cX12_lasts 42 = .ok (.iconst 2, 1) := by decide +kernel
theorem dX12_lasts_43 : decode cX12_lasts 43 = .ok (.dup2, 1) := by decide +kernel
theorem dX12_lasts_44 : decode cX12_lasts 44 = .ok (.iaload, 1) := by decide +kernel
theorem dX12_lasts_45 : decode cX12_lasts 45 = .ok (.iconst 1, 1) := by decide +kernel
theorem dX12_lasts_46 : decode cX12_lasts 46 = .ok (.aload_n 0, 1) := by decide +kernel
theorem dX12_lasts_47 : decode cX12_lasts 47 = .ok (.aload_n 2, 1) := by decide +kernel
theorem dX12_lasts_48 : decode cX12_lasts 48 = .ok (.iconst 0, 1) := by decide +kernel
theorem dX12_lasts_49 : decode cX12_lasts 49 = .ok (.iaload, 1) := by decide +kernel
theorem dX12_lasts_50 : decode cX12_lasts 50 = .ok (.invokevirtual 165, 3) := by decide +kernel
theorem dX12_lasts_53 : decode cX12_lasts 53 = .ok (.bipush 20, 2) := by decide +kernel
theorem dX12_lasts_55 : decode cX12_lasts 55 = .ok (.idiv, 1) := by decide +kernel
theorem dX12_lasts_56 : decode cX12_lasts 56 = .ok (.iadd, 1) := by decide +kernel
theorem dX12_lasts_57 : decode cX12_lasts 57 = .ok (.iadd, 1) := by decide +kernel
theorem dX12_lasts_58 : decode cX12_lasts 58 = .ok (.iastore, 1) := by decide +kernel
theorem dX12_lasts_59 : decode cX12_lasts 59 = .ok (.goto (-37), 3) := by decide +kernel
theorem dX12_lasts_62 : decode cX12_lasts 62 = .ok (.aload_n 0, 1) := by decide +kernel
theorem dX12_lasts_63 : decode cX12_lasts 63 = .ok (.dup, 1) := by decide +kernel
theorem dX12_lasts_64 : decode cX12_lasts 64 = .ok (.getfield 93, 3) := by decide +kernel
theorem dX12_lasts_67 : decode cX12_lasts 67 = .ok (.iconst 1, 1) := by decide +kernel
theorem dX12_lasts_68 : decode cX12_lasts 68 = .ok (.iadd, 1) := by decide +kernel
theorem dX12_lasts_69 : decode cX12_lasts 69 = .ok (.putfield 93, 3) := by decide +kernel
theorem dX12_lasts_72 : decode cX12_lasts 72 = .ok (.return_, 1) := by decide +kernel
theorem dX12_sum_0 : decode cX12_sum 0 = .ok (.ldc2_w 177, 3) := by decide +kernel
theorem dX12_sum_3 : decode cX12_sum 3 = .ok (.lstore_n 1, 1) := by decide +kernel
theorem dX12_sum_4 : decode cX12_sum 4 = .ok (.iconst 0, 1) := by decide +kernel
theorem dX12_sum_5 : decode cX12_sum 5 = .ok (.istore_n 3, 1) := by decide +kernel
theorem dX12_sum_6 : decode cX12_sum 6 = .ok (.iload_n 3, 1) := by decide +kernel
theorem dX12_sum_7 : decode cX12_sum 7 = .ok (.bipush 10, 2) := by decide +kernel
theorem dX12_sum_9 : decode cX12_sum 9 = .ok (.if_icmp .ge 36, 3) := by decide +kernel
theorem dX12_sum_12 : decode cX12_sum 12 = .ok (.ldc2_w 179, 3) := by decide +kernel
theorem dX12_sum_15 : decode cX12_sum 15 = .ok (.lload_n 1, 1) := by decide +kernel
theorem dX12_sum_16 : decode cX12_sum 16 = .ok (.lmul, 1) := by decide +kernel
theorem dX12_sum_17 : decode cX12_sum 17 = .ok (.aload_n 0, 1) := by decide +kernel
theorem dX12_sum_18 : decode cX12_sum 18 = .ok (.getfield 9, 3) := by decide +kernel
theorem dX12_sum_21 : decode cX12_sum 21 = .ok (.iload_n 3, 1) := by decide +kernel
theorem dX12_sum_22 : decode cX12_sum 22 = .ok (.iaload, 1) := by decide +kernel
theorem dX12_sum_23 : decode cX12_sum 23 = .ok (.i2l, 1) := by decide +kernel
theorem dX12_sum_24 : decode cX12_sum 24 = .ok (.ladd, 1) := by decide +kernel
theorem dX12_sum_25 : decode cX12_sum 25 = .ok (.lstore_n 1, 1) := by decide +kernel
theorem dX12_sum_26 : decode cX12_sum 26 = .ok (.ldc2_w 179, 3) := by decide +kernel
theorem dX12_sum_29 : decode cX12_sum 29 = .ok (.lload_n 1, 1) := by decide +kernel
theorem dX12_sum_30 : decode cX12_sum 30 = .ok (.lmul, 1) := by decide +kernel
theorem dX12_sum_31 : decode cX12_sum 31 = .ok (.aload_n 0, 1) := by decide +kernel
theorem dX12_sum_32 : decode cX12_sum 32 = .ok (.iload_n 3, 1) := by decide +kernel
theorem dX12_sum_33 : decode cX12_sum 33 = .ok (.invokevirtual 122, 3) := by decide +kernel
theorem dX12_sum_36 : decode cX12_sum 36 = .ok (.i2l, 1) := by decide +kernel
theorem dX12_sum_37 : decode cX12_sum 37 = .ok (.ladd, 1) := by decide +kernel
theorem dX12_sum_38 : decode cX12_sum 38 = .ok (.lstore_n 1, 1) := by decide +kernel
theorem dX12_sum_39 : decode cX12_sum 39 = .ok (.iinc 3 1, 3) := by decide +kernel
theorem dX12_sum_42 : decode cX12_sum 42 = .ok (.goto (-36), 3) := by decide +kernel
theorem dX12_sum_45 : decode cX12_sum 45 = .ok (.aload_n 0, 1) := by decide +kernel
theorem dX12_sum_46 : decode cX12_sum 46 = .ok (.getfield 27, 3) := by decide +kernel
theorem dX12_sum_49 : decode cX12_sum 49 = .ok (.astore_n 3, 1) := by decide +kernel
theorem dX12_sum_50 : decode cX12_sum 50 = .ok (.aload_n 3, 1) := by decide +kernel
theorem dX12_sum_51 : decode cX12_sum 51 = .ok (.arraylength, 1) := by decide +kernel
theorem dX12_sum_52 : decode cX12_sum 52 = .ok (.istore 4, 2) := by decide +kernel
theorem dX12_sum_54 : decode cX12_sum 54 = .ok (.iconst 0, 1) := by decide +kernel
theorem dX12_sum_55 : decode cX12_sum 55 = .ok (.istore 5, 2) := by decide +kernel
theorem dX12_sum_57 : decode cX12_sum 57 = .ok (.iload 5, 2) := by decide +kernel
theorem dX12_sum_59 : decode cX12_sum 59 = .ok (.iload 4, 2) := by decide +kernel
theorem dX12_sum_61 : decode cX12_sum 61 = .ok (.if_icmp .ge 25, 3) := by decide +kernel
theorem dX12_sum_64 : decode cX12_sum 64 = .ok (.aload_n 3, 1) := by decide +kernel
theorem dX12_sum_65 : decode cX12_sum 65 = .ok (.iload 5, 2) := by decide +kernel
theorem dX12_sum_67 : decode cX12_sum 67 = .ok (.iaload, 1) := by decide +kernel
theorem dX12_sum_68 : decode cX12_sum 68 = .ok (.istore 6, 2) := by decide +kernel
theorem dX12_sum_70 : decode cX12_sum 70 = .ok (.ldc2_w 179, 3) := by decide +kernel
theorem dX12_sum_73 : decode cX12_sum 73 = .ok (.lload_n 1, 1) := by decide +kernel
theorem dX12_sum_74 : decode cX12_sum 74 = .ok (.lmul, 1) := by decide +kernel
theorem dX12_sum_75 : decode cX12_sum 75 = .ok (.iload 6, 2) := by decide +kernel
theorem dX12_sum_77 : decode cX12_sum 77 = .ok (.i2l, 1) := by decide +kernel
theorem dX12_sum_78 : decode cX12_sum 78 = .ok (.ladd, 1) := by decide +kernel
theorem dX12_sum_79 : decode cX12_sum 79 = .ok (.lstore_n 1, 1) := by decide +kernel
theorem dX12_sum_80 : decode cX12_sum 80 = .ok (.iinc 5 1, 3) := by decide +kernel
theorem dX12_sum_83 : decode cX12_sum 83 = .ok (.goto (-26), 3) := by decide +kernel
theorem dX12_sum_86 : decode cX12_sum 86 = .ok (.aload_n 0, 1) := by decide +kernel
theorem dX12_sum_87 : decode cX12_sum 87 = .ok (.getfield 33, 3) := by decide +kernel
theorem dX12_sum_90 : decode cX12_sum 90 = .ok (.invokeinterface 59 1, 5) := by decide +kernel
theorem dX12_sum_95 : decode cX12_sum 95 = .ok (.astore_n 3, 1) := by decide +kernel
theorem dX12_sum_96 : decode cX12_sum 96 = .ok (.aload_n 3, 1) := by decide +kernel
theorem dX12_sum_97 : decode cX12_sum 97 = .ok (.invokeinterface 65 1, 5) := by decide +kernel
theorem dX12_sum_102 : decode cX12_sum 102 = .ok (.ifCond .eq 55, 3) := by decide +kernel
theorem dX12_sum_105 : decode cX12_sum 105 = .ok (.aload_n 3, 1) := by decide +kernel
theorem dX12_sum_106 : decode cX12_sum 106 = .ok (.invokeinterface 71 1, 5) := by decide +kernel
theorem dX12_sum_111 : decode cX12_sum 111 = .ok (.checkcast 75, 3) := by decide +kernel
theorem dX12_sum_114 : decode cX12_sum 114 = .ok (.astore 4, 2) := by decide +kernel
theorem dX12_sum_116 : decode cX12_sum 116 = .ok (.ldc2_w 179, 3) := by decide +kernel
theorem dX12_sum_119 : decode cX12_sum 119 = .ok (.lload_n 1, 1) := by decide +kernel
theorem dX12_sum_120 : decode cX12_sum 120 = .ok (.lmul, 1) := by decide +kernel
theorem dX12_sum_121 : decode cX12_sum 121 = .ok (.aload 4, 2) := by decide +kernel
theorem dX12_sum_123 : decode cX12_sum 123 = .ok (.getfield 140, 3) := by decide +kernel
theorem dX12_sum_126 : decode cX12_sum 126 = .ok (.ifCond .eq 7, 3) := by decide +kernel
theorem dX12_sum_129 : decode cX12_sum 129 = .ok (.iconst 0, 1) := by decide +kernel
theorem dX12_sum_130 : decode cX12_sum 130 = .ok (.goto 8, 3) := by decide +kernel
theorem dX12_sum_133 : decode cX12_sum 133 = .ok (.aload 4, 2) := by decide +kernel
theorem dX12_sum_135 : decode cX12_sum 135 = .ok (.getfield 125, 3) := by decide +kernel
theorem dX12_sum_138 : decode cX12_sum 138 = .ok (.i2l, 1) := by decide +kernel
theorem dX12_sum_139 : decode cX12_sum 139 = .ok (.ladd, 1) := by decide +kernel
theorem dX12_sum_140 : decode cX12_sum 140 = .ok (.lstore_n 1, 1) := by decide +kernel
theorem dX12_sum_141 : decode cX12_sum 141 = .ok (.ldc2_w 179, 3) := by decide +kernel
theorem dX12_sum_144 : decode cX12_sum 144 = .ok (.lload_n 1, 1) := by decide +kernel
theorem dX12_sum_145 : decode cX12_sum 145 = .ok (.lmul, 1) := by decide +kernel
theorem dX12_sum_146 : decode cX12_sum 146 = .ok (.aload 4, 2) := by decide +kernel
theorem dX12_sum_148 : decode cX12_sum 148 = .ok (.getfield 134, 3) := by decide +kernel
theorem dX12_sum_151 : decode cX12_sum 151 = .ok (.i2l, 1) := by decide +kernel
theorem dX12_sum_152 : decode cX12_sum 152 = .ok (.ladd, 1) := by decide +kernel
theorem dX12_sum_153 : decode cX12_sum 153 = .ok (.lstore_n 1, 1) := by decide +kernel
theorem dX12_sum_154 : decode cX12_sum 154 = .ok (.goto (-58), 3) := by decide +kernel
theorem dX12_sum_157 : decode cX12_sum 157 = .ok (.ldc2_w 179, 3) := by decide +kernel
theorem dX12_sum_160 : decode cX12_sum 160 = .ok (.lload_n 1, 1) := by decide +kernel
theorem dX12_sum_161 : decode cX12_sum 161 = .ok (.lmul, 1) := by decide +kernel
theorem dX12_sum_162 : decode cX12_sum 162 = .ok (.aload_n 0, 1) := by decide +kernel
theorem dX12_sum_163 : decode cX12_sum 163 = .ok (.getfield 93, 3) := by decide +kernel
theorem dX12_sum_166 : decode cX12_sum 166 = .ok (.i2l, 1) := by decide +kernel
theorem dX12_sum_167 : decode cX12_sum 167 = .ok (.ladd, 1) := by decide +kernel
theorem dX12_sum_168 : decode cX12_sum 168 = .ok (.lreturn, 1) := by decide +kernel
theorem dX13_thrown_0 : decode cX13_thrown 0 = .ok (.aload_n 0, 1) := by decide +kernel
theorem dX13_thrown_1 : decode cX13_thrown 1 = .ok (.getfield 1, 3) := by decide +kernel
theorem dX13_thrown_4 : decode cX13_thrown 4 = .ok (.ireturn, 1) := by decide +kernel
theorem dX13_in_0 : decode cX13_in 0 = .ok (.lload_n 0, 1) := by decide +kernel
theorem dX13_in_1 : decode cX13_in 1 = .ok (.lload_n 2, 1) := by decide +kernel
theorem dX13_in_2 : decode cX13_in 2 = .ok (.lcmp, 1) := by decide +kernel
theorem dX13_in_3 : decode cX13_in 3 = .ok (.ifCond .lt 14, 3) := by decide +kernel
theorem dX13_in_6 : decode cX13_in 6 = .ok (.lload_n 0, 1) := by decide +kernel
theorem dX13_in_7 : decode cX13_in 7 = .ok (.lload 4, 2) := by decide +kernel
theorem dX13_in_9 : decode cX13_in 9 = .ok (.lcmp, 1) := by decide +kernel
theorem dX13_in_10 : decode cX13_in 10 = .ok (.ifCond .gt 7, 3) := by decide +kernel
theorem dX13_in_13 : decode cX13_in 13 = .ok (.iconst 1, 1) := by decide +kernel
theorem dX13_in_14 : decode cX13_in 14 = .ok (.goto 4, 3) := by decide +kernel
theorem dX13_in_17 : decode cX13_in 17 = .ok (.iconst 0, 1) := by decide +kernel
theorem dX13_in_18 : decode cX13_in 18 = .ok (.ireturn, 1) := by decide +kernel
theorem dX13_isOf_0 : decode cX13_isOf 0 = .ok (.iload_n 1, 1) := by decide +kernel
theorem dX13_isOf_1 : decode cX13_isOf 1 = .ok (.i2l, 1) := by decide +kernel
theorem dX13_isOf_2 : decode cX13_isOf 2 = .ok (.lconst 0, 1) := by decide +kernel
theorem dX13_isOf_3 : decode cX13_isOf 3 = .ok (.aload_n 0, 1) := by decide +kernel
theorem dX13_isOf_4 : decode cX13_isOf 4 = .ok (.invokeinterface 7 1, 5) := by decide +kernel
theorem dX13_isOf_9 : decode cX13_isOf 9 = .ok (.iconst 1, 1) := by decide +kernel
theorem dX13_isOf_10 : decode cX13_isOf 10 = .ok (.isub, 1) := by decide +kernel
theorem dX13_isOf_11 : decode cX13_isOf 11 = .ok (.i2l, 1) := by decide +kernel
theorem dX13_isOf_12 : decode cX13_isOf 12 = .ok (.invokestatic 13, 3) := by decide +kernel
theorem dX13_isOf_15 : decode cX13_isOf 15 = .ok (.ireturn, 1) := by decide +kernel
theorem dX13_fails_0 : decode cX13_fails 0 = .ok (.aload_n 0, 1) := by decide +kernel
theorem dX13_fails_1 : decode cX13_fails 1 = .ok (.getfield 1, 3) := by decide +kernel
theorem dX13_fails_4 : decode cX13_fails 4 = .ok (.ifCond .ne 12, 3) := by decide +kernel
theorem dX13_fails_7 : decode cX13_fails 7 = .ok (.iload_n 1, 1) := by decide +kernel
theorem dX13_fails_8 : decode cX13_fails 8 = .ok (.ifCond .eq 8, 3) := by decide +kernel
theorem dX13_fails_11 : decode cX13_fails 11 = .ok (.aload_n 0, 1) := by decide +kernel
theorem dX13_fails_12 : decode cX13_fails 12 = .ok (.iload_n 2, 1) := by decide +kernel
theorem dX13_fails_13 : decode cX13_fails 13 = .ok (.putfield 1, 3) := by decide +kernel
theorem dX13_fails_16 : decode cX13_fails 16 = .ok (.aload_n 0, 1) := by decide +kernel
theorem dX13_fails_17 : decode cX13_fails 17 = .ok (.getfield 1, 3) := by decide +kernel
theorem dX13_fails_20 : decode cX13_fails 20 = .ok (.ifCond .le 7, 3) := by decide +kernel
theorem dX13_fails_23 : decode cX13_fails 23 = .ok (.iconst 1, 1) := by decide +kernel
theorem dX13_fails_24 : decode cX13_fails 24 = .ok (.goto 4, 3) := by decide +kernel
theorem dX13_fails_27 : decode cX13_fails 27 = .ok (.iconst 0, 1) := by decide +kernel
theorem dX13_fails_28 : decode cX13_fails 28 = .ok (.ireturn, 1) := by decide +kernel
theorem dX13_begins_0 : decode cX13_begins 0 = .ok (.aload_n 0, 1) := by decide +kernel
theorem dX13_begins_1 : decode cX13_begins 1 = .ok (.iconst 0, 1) := by decide +kernel
theorem dX13_begins_2 : decode cX13_begins 2 = .ok (.putfield 1, 3) := by decide +kernel
theorem dX13_begins_5 : decode cX13_begins 5 = .ok (.return_, 1) := by decide +kernel
theorem dX13_holdsEach_0 : decode cX13_holdsEach 0 = .ok (.iload_n 0, 1) := by decide +kernel
theorem dX13_holdsEach_1 : decode cX13_holdsEach 1 = .ok (.ifCond .ne 8, 3) := by decide +kernel
theorem dX13_holdsEach_4 : decode cX13_holdsEach 4 = .ok (.bipush 40, 2) := by decide +kernel
theorem dX13_holdsEach_6 : decode cX13_holdsEach 6 = .ok (.goto 15, 3) := by decide +kernel
theorem dX13_holdsEach_9 : decode cX13_holdsEach 9 = .ok (.iload_n 0, 1) := by decide +kernel
theorem dX13_holdsEach_10 : decode cX13_holdsEach 10 = .ok (.iconst 1, 1) := by decide +kernel
theorem dX13_holdsEach_11 : decode cX13_holdsEach 11 = .ok (.if_icmp .ne 8, 3) := by decide +kernel
theorem dX13_holdsEach_14 : decode cX13_holdsEach 14 = .ok (.bipush 60, 2) := by decide +kernel
theorem dX13_holdsEach_16 : decode cX13_holdsEach 16 = .ok (.goto 5, 3) := by decide +kernel
theorem dX13_holdsEach_19 : decode cX13_holdsEach 19 = .ok (.bipush 90, 2) := by decide +kernel
theorem dX13_holdsEach_21 : decode cX13_holdsEach 21 = .ok (.ireturn, 1) := by decide +kernel
theorem dX13_width_0 : decode cX13_width 0 = .ok (.ldc 17, 2) := by decide +kernel
theorem dX13_width_2 : decode cX13_width 2 = .ok (.iload_n 0, 1) := by decide +kernel
theorem dX13_width_3 : decode cX13_width 3 = .ok (.bipush 6, 2) := by decide +kernel
theorem dX13_width_5 : decode cX13_width 5 = .ok (.if_icmp .ge 7, 3) := by decide +kernel
theorem dX13_width_8 : decode cX13_width 8 = .ok (.iload_n 0, 1) := by decide +kernel
theorem dX13_width_9 : decode cX13_width 9 = .ok (.goto 7, 3) := by decide +kernel
theorem dX13_width_12 : decode cX13_width 12 = .ok (.bipush 11, 2) := by decide +kernel
theorem dX13_width_14 : decode cX13_width 14 = .ok (.iload_n 0, 1) := by decide +kernel
theorem dX13_width_15 : decode cX13_width 15 = .ok (.isub, 1) := by decide +kernel
theorem dX13_width_16 : decode cX13_width 16 = .ok (.invokevirtual 19, 3) := by decide +kernel
theorem dX13_width_19 : decode cX13_width 19 = .ok (.bipush 48, 2) := by decide +kernel
theorem dX13_width_21 : decode cX13_width 21 = .ok (.isub, 1) := by decide +kernel
theorem dX13_width_22 : decode cX13_width 22 = .ok (.iload_n 0, 1) := by decide +kernel
theorem dX13_width_23 : decode cX13_width 23 = .ok (.iconst 5, 1) := by decide +kernel
theorem dX13_width_24 : decode cX13_width 24 = .ok (.if_icmp .eq 9, 3) := by decide +kernel
theorem dX13_width_27 : decode cX13_width 27 = .ok (.iload_n 0, 1) := by decide +kernel
theorem dX13_width_28 : decode cX13_width 28 = .ok (.bipush 6, 2) := by decide +kernel
theorem dX13_width_30 : decode cX13_width 30 = .ok (.if_icmp .ne 7, 3) := by decide +kernel
theorem dX13_width_33 : decode cX13_width 33 = .ok (.iconst 1, 1) := by decide +kernel
theorem dX13_width_34 : decode cX13_width 34 = .ok (.goto 4, 3) := by decide +kernel
theorem dX13_width_37 : decode cX13_width 37 = .ok (.iconst 0, 1) := by decide +kernel
theorem dX13_width_38 : decode cX13_width 38 = .ok (.iadd, 1) := by decide +kernel
theorem dX13_width_39 : decode cX13_width 39 = .ok (.ireturn, 1) := by decide +kernel
theorem dX13_init_0 : decode cX13_init 0 = .ok (.aload_n 0, 1) := by decide +kernel
theorem dX13_init_1 : decode cX13_init 1 = .ok (.invokespecial 25, 3) := by decide +kernel
theorem dX13_init_4 : decode cX13_init 4 = .ok (.aload_n 0, 1) := by decide +kernel
theorem dX13_init_5 : decode cX13_init 5 = .ok (.new 31, 3) := by decide +kernel
theorem dX13_init_8 : decode cX13_init 8 = .ok (.dup, 1) := by decide +kernel
theorem dX13_init_9 : decode cX13_init 9 = .ok (.invokespecial 33, 3) := by decide +kernel
theorem dX13_init_12 : decode cX13_init 12 = .ok (.putfield 34, 3) := by decide +kernel
theorem dX13_init_15 : decode cX13_init 15 = .ok (.aload_n 0, 1) := by decide +kernel
theorem dX13_init_16 : decode cX13_init 16 = .ok (.new 38, 3) := by decide +kernel
theorem dX13_init_19 : decode cX13_init 19 = .ok (.dup, 1) := by decide +kernel
theorem dX13_init_20 : decode cX13_init 20 = .ok (.invokespecial 40, 3) := by decide +kernel
theorem dX13_init_23 : decode cX13_init 23 = .ok (.putfield 41, 3) := by decide +kernel
theorem dX13_init_26 : decode cX13_init 26 = .ok (.aload_n 0, 1) := by decide +kernel
theorem dX13_init_27 : decode cX13_init 27 = .ok (.new 38, 3) := by decide +kernel
theorem dX13_init_30 : decode cX13_init 30 = .ok (.dup, 1) := by decide +kernel
theorem dX13_init_31 : decode cX13_init 31 = .ok (.invokespecial 40, 3) := by decide +kernel
theorem dX13_init_34 : decode cX13_init 34 = .ok (.putfield 45, 3) := by decide +kernel
theorem dX13_init_37 : decode cX13_init 37 = .ok (.aload_n 0, 1) := by decide +kernel
theorem dX13_init_38 : decode cX13_init 38 = .ok (.new 38, 3) := by decide +kernel
theorem dX13_init_41 : decode cX13_init 41 = .ok (.dup, 1) := by decide +kernel
theorem dX13_init_42 : decode cX13_init 42 = .ok (.invokespecial 40, 3) := by decide +kernel
theorem dX13_init_45 : decode cX13_init 45 = .ok (.putfield 48, 3) := by decide +kernel
theorem dX13_init_48 : decode cX13_init 48 = .ok (.iconst 0, 1) := by decide +kernel
theorem dX13_init_49 : decode cX13_init 49 = .ok (.istore_n 1, 1) := by decide +kernel
theorem dX13_init_50 : decode cX13_init 50 = .ok (.iload_n 1, 1) := by decide +kernel
theorem dX13_init_51 : decode cX13_init 51 = .ok (.bipush 10, 2) := by decide +kernel
theorem dX13_init_53 : decode cX13_init 53 = .ok (.if_icmp .ge 25, 3) := by decide +kernel
theorem dX13_init_56 : decode cX13_init 56 = .ok (.aload_n 0, 1) := by decide +kernel
theorem dX13_init_57 : decode cX13_init 57 = .ok (.getfield 34, 3) := by decide +kernel
theorem dX13_init_60 : decode cX13_init 60 = .ok (.getfield 51, 3) := by decide +kernel
theorem dX13_init_63 : decode cX13_init 63 = .ok (.iload_n 1, 1) := by decide +kernel
theorem dX13_init_64 : decode cX13_init 64 = .ok (.bipush 100, 2) := by decide +kernel
theorem dX13_init_66 : decode cX13_init 66 = .ok (.bipush 20, 2) := by decide +kernel
theorem dX13_init_68 : decode cX13_init 68 = .ok (.iload_n 1, 1) := by decide +kernel
theorem dX13_init_69 : decode cX13_init 69 = .ok (.imul, 1) := by decide +kernel
theorem dX13_init_70 : decode cX13_init 70 = .ok (.iadd, 1) := by decide +kernel
theorem dX13_init_71 : decode cX13_init 71 = .ok (.iastore, 1) := by decide +kernel
theorem dX13_init_72 : decode cX13_init 72 = .ok (.iinc 1 1, 3) := by decide +kernel
theorem dX13_init_75 : decode cX13_init 75 = .ok (.goto (-25), 3) := by decide +kernel
theorem dX13_init_78 : decode cX13_init 78 = .ok (.return_, 1) := by decide +kernel
theorem dX13_noLevel_0 : decode cX13_noLevel 0 = .ok (.aload_n 0, 1) := by decide +kernel
theorem dX13_noLevel_1 : decode cX13_noLevel 1 = .ok (.iload_n 1, 1) := by decide +kernel
theorem dX13_noLevel_2 : decode cX13_noLevel 2 = .ok (.i2l, 1) := by decide +kernel
theorem dX13_noLevel_3 : decode cX13_noLevel 3 = .ok (.lconst 0, 1) := by decide +kernel
theorem dX13_noLevel_4 : decode cX13_noLevel 4 = .ok (.ldc2_w 55, 3) := by decide +kernel
theorem dX13_noLevel_7 : decode cX13_noLevel 7 = .ok (.invokestatic 13, 3) := by decide +kernel
theorem dX13_noLevel_10 : decode cX13_noLevel 10 = .ok (.ifCond .ne 7, 3) := by decide +kernel
theorem dX13_noLevel_13 : decode cX13_noLevel 13 = .ok (.iconst 1, 1) := by decide +kernel
theorem dX13_noLevel_14 : decode cX13_noLevel 14 = .ok (.goto 4, 3) := by decide +kernel
theorem dX13_noLevel_17 : decode cX13_noLevel 17 = .ok (.iconst 0, 1) := by decide +kernel
theorem dX13_noLevel_18 : decode cX13_noLevel 18 = .ok (.iconst 1, 1) := by decide +kernel
theorem dX13_noLevel_19 : decode cX13_noLevel 19 = .ok (.invokevirtual 57, 3) := by decide +kernel
theorem dX13_noLevel_22 : decode cX13_noLevel 22 = .ok (.ireturn, 1) := by decide +kernel
theorem dX13_setTemperature_0 : decode cX13_setTemperature 0 = .ok (.aload_n 0, 1) := by decide +kernel
theorem dX13_setTemperature_1 : decode cX13_setTemperature 1 = .ok (.invokevirtual 61, 3) := by decide +kernel
theorem dX13_setTemperature_4 : decode cX13_setTemperature 4 = .ok (.aload_n 0, 1) := by decide +kernel
theorem dX13_setTemperature_5 : decode cX13_setTemperature 5 = .ok (.iload_n 1, 1) := by decide +kernel
theorem dX13_setTemperature_6 : decode cX13_setTemperature 6 = .ok (.invokevirtual 64, 3) := by decide +kernel
theorem dX13_setTemperature_9 : decode cX13_setTemperature 9 = .ok (.ifCond .ne 30, 3) := by decide +kernel
theorem dX13_setTemperature_12 : decode cX13_setTemperature 12 = .ok (.aload_n 0, 1) := by decide +kernel
theorem dX13_setTemperature_13 : decode cX13_setTemperature 13 = .ok (.iload_n 2, 1) := by decide +kernel
theorem dX13_setTemperature_14 : decode cX13_setTemperature 14 = .ok (.i2l, 1) := by decide +kernel
theorem dX13_setTemperature_15 : decode cX13_setTemperature 15 = .ok (.ldc2_w 68, 3) := by decide +kernel
theorem dX13_setTemperature_18 : decode cX13_setTemperature 18 = .ok (.ldc2_w 70, 3) := by decide +kernel
theorem dX13_setTemperature_21 : decode cX13_setTemperature 21 = .ok (.invokestatic 13, 3) := by decide +kernel
theorem dX13_setTemperature_24 : decode cX13_setTemperature 24 = .ok (.ifCond .ne 7, 3) := by decide +kernel
theorem dX13_setTemperature_27 : decode cX13_setTemperature 27 = .ok (.iconst 1, 1) := by decide +kernel
theorem dX13_setTemperature_28 : decode cX13_setTemperature 28 = .ok (.goto 4, 3) := by decide +kernel
theorem dX13_setTemperature_31 : decode cX13_setTemperature 31 = .ok (.iconst 0, 1) := by decide +kernel
theorem dX13_setTemperature_32 : decode cX13_setTemperature 32 = .ok (.iconst 2, 1) := by decide +kernel
theorem dX13_setTemperature_33 : decode cX13_setTemperature 33 = .ok (.invokevirtual 57, 3) := by decide +kernel
theorem dX13_setTemperature_36 : decode cX13_setTemperature 36 = .ok (.ifCond .eq 5, 3) := by decide +kernel
theorem dX13_setTemperature_39 : decode cX13_setTemperature 39 = .ok (.iconst (-1), 1) := by decide +kernel
theorem dX13_setTemperature_40 : decode cX13_setTemperature 40 = .ok (.ireturn, 1) := by decide +kernel
theorem dX13_setTemperature_41 : decode cX13_setTemperature 41 = .ok (.aload_n 0, 1) := by decide +kernel
theorem dX13_setTemperature_42 : decode cX13_setTemperature 42 = .ok (.getfield 34, 3) := by decide +kernel
theorem dX13_setTemperature_45 : decode cX13_setTemperature 45 = .ok (.getfield 51, 3) := by decide +kernel
theorem dX13_setTemperature_48 : decode cX13_setTemperature 48 = .ok (.iload_n 1, 1) := by decide +kernel
theorem dX13_setTemperature_49 : decode cX13_setTemperature 49 = .ok (.iaload, 1) := by decide +kernel
theorem dX13_setTemperature_50 : decode cX13_setTemperature 50 = .ok (.istore_n 3, 1) := by decide +kernel
theorem dX13_setTemperature_51 : decode cX13_setTemperature 51 = .ok (.aload_n 0, 1) := by decide +kernel
theorem dX13_setTemperature_52 : decode cX13_setTemperature 52 = .ok (.getfield 34, 3) := by decide +kernel
theorem dX13_setTemperature_55 : decode cX13_setTemperature 55 = .ok (.getfield 51, 3) := by decide +kernel
theorem dX13_setTemperature_58 : decode cX13_setTemperature 58 = .ok (.iload_n 1, 1) := by decide +kernel
theorem dX13_setTemperature_59 : decode cX13_setTemperature 59 = .ok (.iload_n 2, 1) := by decide +kernel
theorem dX13_setTemperature_60 : decode cX13_setTemperature 60 = .ok (.iastore, 1) := by decide +kernel
theorem dX13_setTemperature_61 : decode cX13_setTemperature 61 = .ok (.iload_n 3, 1) := by decide +kernel
theorem dX13_setTemperature_62 : decode cX13_setTemperature 62 = .ok (.ireturn, 1) := by decide +kernel
theorem dX13_getTemperature_0 : decode cX13_getTemperature 0 = .ok (.aload_n 0, 1) := by decide +kernel
theorem dX13_getTemperature_1 : decode cX13_getTemperature 1 = .ok (.invokevirtual 61, 3) := by decide +kernel
theorem dX13_getTemperature_4 : decode cX13_getTemperature 4 = .ok (.aload_n 0, 1) := by decide +kernel
theorem dX13_getTemperature_5 : decode cX13_getTemperature 5 = .ok (.iload_n 1, 1) := by decide +kernel
theorem dX13_getTemperature_6 : decode cX13_getTemperature 6 = .ok (.invokevirtual 64, 3) := by decide +kernel
theorem dX13_getTemperature_9 : decode cX13_getTemperature 9 = .ok (.ifCond .eq 7, 3) := by decide +kernel
theorem dX13_getTemperature_12 : decode cX13_getTemperature 12 = .ok (.iconst (-1), 1) := by decide +kernel
theorem dX13_getTemperature_13 : decode cX13_getTemperature 13 = .ok (.goto 12, 3) := by decide +kernel
theorem dX13_getTemperature_16 : decode cX13_getTemperature 16 = .ok (.aload_n 0, 1) := by decide +kernel
theorem dX13_getTemperature_17 : decode cX13_getTemperature 17 = .ok (.getfield 34, 3) := by decide +kernel
theorem dX13_getTemperature_20 : decode cX13_getTemperature 20 = .ok (.getfield 51, 3) := by decide +kernel
theorem dX13_getTemperature_23 : decode cX13_getTemperature 23 = .ok (.iload_n 1, 1) := by decide +kernel
theorem dX13_getTemperature_24 : decode cX13_getTemperature 24 = .ok (.iaload, 1) := by decide +kernel
theorem dX13_getTemperature_25 : decode cX13_getTemperature 25 = .ok (.ireturn, 1) := by decide +kernel
theorem dX13_noVapour_0 : decode cX13_noVapour 0 = .ok (.aload_n 0, 1) := by decide +kernel
theorem dX13_noVapour_1 : decode cX13_noVapour 1 = .ok (.iload_n 1, 1) := by decide +kernel
theorem dX13_noVapour_2 : decode cX13_noVapour 2 = .ok (.i2l, 1) := by decide +kernel
theorem dX13_noVapour_3 : decode cX13_noVapour 3 = .ok (.lconst 0, 1) := by decide +kernel
theorem dX13_noVapour_4 : decode cX13_noVapour 4 = .ok (.ldc2_w 55, 3) := by decide +kernel
theorem dX13_noVapour_7 : decode cX13_noVapour 7 = .ok (.invokestatic 13, 3) := by decide +kernel
theorem dX13_noVapour_10 : decode cX13_noVapour 10 = .ok (.ifCond .eq 15, 3) := by decide +kernel
theorem dX13_noVapour_13 : decode cX13_noVapour 13 = .ok (.iload_n 2, 1) := by decide +kernel
theorem dX13_noVapour_14 : decode cX13_noVapour 14 = .ok (.i2l, 1) := by decide +kernel
theorem dX13_noVapour_15 : decode cX13_noVapour 15 = .ok (.lconst 0, 1) := by decide +kernel
theorem dX13_noVapour_16 : decode cX13_noVapour 16 = .ok (.ldc2_w 72, 3) := by decide +kernel
theorem dX13_noVapour_19 : decode cX13_noVapour 19 = .ok (.invokestatic 13, 3) := by decide +kernel
theorem dX13_noVapour_22 : decode cX13_noVapour 22 = .ok (.ifCond .ne 7, 3) := by decide +kernel
theorem dX13_noVapour_25 : decode cX13_noVapour 25 = .ok (.iconst 1, 1) := by decide +kernel
theorem dX13_noVapour_26 : decode cX13_noVapour 26 = .ok (.goto 4, 3) := by decide +kernel
theorem dX13_noVapour_29 : decode cX13_noVapour 29 = .ok (.iconst 0, 1) := by decide +kernel
theorem dX13_noVapour_30 : decode cX13_noVapour 30 = .ok (.iconst 1, 1) := by decide +kernel
theorem dX13_noVapour_31 : decode cX13_noVapour 31 = .ok (.invokevirtual 57, 3) := by decide +kernel
theorem dX13_noVapour_34 : decode cX13_noVapour 34 = .ok (.ireturn, 1) := by decide +kernel
theorem dX13_setVapour_0 : decode cX13_setVapour 0 = .ok (.aload_n 0, 1) := by decide +kernel
theorem dX13_setVapour_1 : decode cX13_setVapour 1 = .ok (.invokevirtual 61, 3) := by decide +kernel
theorem dX13_setVapour_4 : decode cX13_setVapour 4 = .ok (.aload_n 0, 1) := by decide +kernel
theorem dX13_setVapour_5 : decode cX13_setVapour 5 = .ok (.iload_n 1, 1) := by decide +kernel
theorem dX13_setVapour_6 : decode cX13_setVapour 6 = .ok (.iload_n 2, 1) := by decide +kernel
theorem dX13_setVapour_7 : decode cX13_setVapour 7 = .ok (.invokevirtual 74, 3) := by decide +kernel
theorem dX13_setVapour_10 : decode cX13_setVapour 10 = .ok (.ifCond .ne 28, 3) := by decide +kernel
theorem dX13_setVapour_13 : decode cX13_setVapour 13 = .ok (.aload_n 0, 1) := by decide +kernel
theorem dX13_setVapour_14 : decode cX13_setVapour 14 = .ok (.iload_n 3, 1) := by decide +kernel
theorem dX13_setVapour_15 : decode cX13_setVapour 15 = .ok (.i2l, 1) := by decide +kernel
theorem dX13_setVapour_16 : decode cX13_setVapour 16 = .ok (.lconst 0, 1) := by decide +kernel
theorem dX13_setVapour_17 : decode cX13_setVapour 17 = .ok (.ldc2_w 78, 3) := by decide +kernel
theorem dX13_setVapour_20 : decode cX13_setVapour 20 = .ok (.invokestatic 13, 3) := by decide +kernel
theorem dX13_setVapour_23 : decode cX13_setVapour 23 = .ok (.ifCond .ne 7, 3) := by decide +kernel
theorem dX13_setVapour_26 : decode cX13_setVapour 26 = .ok (.iconst 1, 1) := by decide +kernel
theorem dX13_setVapour_27 : decode cX13_setVapour 27 = .ok (.goto 4, 3) := by decide +kernel
theorem dX13_setVapour_30 : decode cX13_setVapour 30 = .ok (.iconst 0, 1) := by decide +kernel
theorem dX13_setVapour_31 : decode cX13_setVapour 31 = .ok (.iconst 2, 1) := by decide +kernel
theorem dX13_setVapour_32 : decode cX13_setVapour 32 = .ok (.invokevirtual 57, 3) := by decide +kernel
theorem dX13_setVapour_35 : decode cX13_setVapour 35 = .ok (.ifCond .eq 5, 3) := by decide +kernel
theorem dX13_setVapour_38 : decode cX13_setVapour 38 = .ok (.iconst (-1), 1) := by decide +kernel
theorem dX13_setVapour_39 : decode cX13_setVapour 39 = .ok (.ireturn, 1) := by decide +kernel
theorem dX13_setVapour_40 : decode cX13_setVapour 40 = .ok (.aload_n 0, 1) := by decide +kernel
theorem dX13_setVapour_41 : decode cX13_setVapour 41 = .ok (.getfield 34, 3) := by decide +kernel
theorem dX13_setVapour_44 : decode cX13_setVapour 44 = .ok (.getfield 80, 3) := by decide +kernel
theorem dX13_setVapour_47 : decode cX13_setVapour 47 = .ok (.iload_n 1, 1) := by decide +kernel
theorem dX13_setVapour_48 : decode cX13_setVapour 48 = .ok (.aaload, 1) := by decide +kernel
theorem dX13_setVapour_49 : decode cX13_setVapour 49 = .ok (.iload_n 2, 1) := by decide +kernel
theorem dX13_setVapour_50 : decode cX13_setVapour 50 = .ok (.iaload, 1) := by decide +kernel
theorem dX13_setVapour_51 : decode cX13_setVapour 51 = .ok (.istore 4, 2) := by decide +kernel
theorem dX13_setVapour_53 : decode cX13_setVapour 53 = .ok (.aload_n 0, 1) := by decide +kernel
theorem dX13_setVapour_54 : decode cX13_setVapour 54 = .ok (.getfield 34, 3) := by decide +kernel
theorem dX13_setVapour_57 : decode cX13_setVapour 57 = .ok (.getfield 80, 3) := by decide +kernel
theorem dX13_setVapour_60 : decode cX13_setVapour 60 = .ok (.iload_n 1, 1) := by decide +kernel
theorem dX13_setVapour_61 : decode cX13_setVapour 61 = .ok (.aaload, 1) := by decide +kernel
theorem dX13_setVapour_62 : decode cX13_setVapour 62 = .ok (.iload_n 2, 1) := by decide +kernel
theorem dX13_setVapour_63 : decode cX13_setVapour 63 = .ok (.iload_n 3, 1) := by decide +kernel
theorem dX13_setVapour_64 : decode cX13_setVapour 64 = .ok (.iastore, 1) := by decide +kernel
theorem dX13_setVapour_65 : decode cX13_setVapour 65 = .ok (.iload 4, 2) := by decide +kernel
theorem dX13_setVapour_67 : decode cX13_setVapour 67 = .ok (.ireturn, 1) := by decide +kernel
theorem dX13_getVapour_0 : decode cX13_getVapour 0 = .ok (.aload_n 0, 1) := by decide +kernel
theorem dX13_getVapour_1 : decode cX13_getVapour 1 = .ok (.invokevirtual 61, 3) := by decide +kernel
theorem dX13_getVapour_4 : decode cX13_getVapour 4 = .ok (.aload_n 0, 1) := by decide +kernel
theorem dX13_getVapour_5 : decode cX13_getVapour 5 = .ok (.iload_n 1, 1) := by decide +kernel
theorem dX13_getVapour_6 : decode cX13_getVapour 6 = .ok (.iload_n 2, 1) := by decide +kernel
theorem dX13_getVapour_7 : decode cX13_getVapour 7 = .ok (.invokevirtual 74, 3) := by decide +kernel
theorem dX13_getVapour_10 : decode cX13_getVapour 10 = .ok (.ifCond .eq 7, 3) := by decide +kernel
theorem dX13_getVapour_13 : decode cX13_getVapour 13 = .ok (.iconst (-1), 1) := by decide +kernel
theorem dX13_getVapour_14 : decode cX13_getVapour 14 = .ok (.goto 14, 3) := by decide +kernel
theorem dX13_getVapour_17 : decode cX13_getVapour 17 = .ok (.aload_n 0, 1) := by decide +kernel
theorem dX13_getVapour_18 : decode cX13_getVapour 18 = .ok (.getfield 34, 3) := by decide +kernel
theorem dX13_getVapour_21 : decode cX13_getVapour 21 = .ok (.getfield 80, 3) := by decide +kernel
theorem dX13_getVapour_24 : decode cX13_getVapour 24 = .ok (.iload_n 1, 1) := by decide +kernel
theorem dX13_getVapour_25 : decode cX13_getVapour 25 = .ok (.aaload, 1) := by decide +kernel
theorem dX13_getVapour_26 : decode cX13_getVapour 26 = .ok (.iload_n 2, 1) := by decide +kernel
theorem dX13_getVapour_27 : decode cX13_getVapour 27 = .ok (.iaload, 1) := by decide +kernel
theorem dX13_getVapour_28 : decode cX13_getVapour 28 = .ok (.ireturn, 1) := by decide +kernel
theorem dX13_getIce_0 : decode cX13_getIce 0 = .ok (.aload_n 0, 1) := by decide +kernel
theorem dX13_getIce_1 : decode cX13_getIce 1 = .ok (.invokevirtual 61, 3) := by decide +kernel
theorem dX13_getIce_4 : decode cX13_getIce 4 = .ok (.aload_n 0, 1) := by decide +kernel
theorem dX13_getIce_5 : decode cX13_getIce 5 = .ok (.iload_n 1, 1) := by decide +kernel
theorem dX13_getIce_6 : decode cX13_getIce 6 = .ok (.iload_n 2, 1) := by decide +kernel
theorem dX13_getIce_7 : decode cX13_getIce 7 = .ok (.invokevirtual 74, 3) := by decide +kernel
theorem dX13_getIce_10 : decode cX13_getIce 10 = .ok (.ifCond .eq 7, 3) := by decide +kernel
theorem dX13_getIce_13 : decode cX13_getIce 13 = .ok (.iconst (-1), 1) := by decide +kernel
theorem dX13_getIce_14 : decode cX13_getIce 14 = .ok (.goto 14, 3) := by decide +kernel
theorem dX13_getIce_17 : decode cX13_getIce 17 = .ok (.aload_n 0, 1) := by decide +kernel
theorem dX13_getIce_18 : decode cX13_getIce 18 = .ok (.getfield 34, 3) := by decide +kernel
theorem dX13_getIce_21 : decode cX13_getIce 21 = .ok (.getfield 84, 3) := by decide +kernel
theorem dX13_getIce_24 : decode cX13_getIce 24 = .ok (.iload_n 1, 1) := by decide +kernel
theorem dX13_getIce_25 : decode cX13_getIce 25 = .ok (.aaload, 1) := by decide +kernel
theorem dX13_getIce_26 : decode cX13_getIce 26 = .ok (.iload_n 2, 1) := by decide +kernel
theorem dX13_getIce_27 : decode cX13_getIce 27 = .ok (.iaload, 1) := by decide +kernel
theorem dX13_getIce_28 : decode cX13_getIce 28 = .ok (.ireturn, 1) := by decide +kernel
theorem dX13_deck_0 : decode cX13_deck 0 = .ok (.aload_n 0, 1) := by decide +kernel
theorem dX13_deck_1 : decode cX13_deck 1 = .ok (.invokevirtual 61, 3) := by decide +kernel
theorem dX13_deck_4 : decode cX13_deck 4 = .ok (.aload_n 0, 1) := by decide +kernel
theorem dX13_deck_5 : decode cX13_deck 5 = .ok (.iload_n 1, 1) := by decide +kernel
theorem dX13_deck_6 : decode cX13_deck 6 = .ok (.i2l, 1) := by decide +kernel
theorem dX13_deck_7 : decode cX13_deck 7 = .ok (.lconst 0, 1) := by decide +kernel
theorem dX13_deck_8 : decode cX13_deck 8 = .ok (.ldc2_w 72, 3) := by decide +kernel
theorem dX13_deck_11 : decode cX13_deck 11 = .ok (.invokestatic 13, 3) := by decide +kernel
theorem dX13_deck_14 : decode cX13_deck 14 = .ok (.ifCond .ne 7, 3) := by decide +kernel
theorem dX13_deck_17 : decode cX13_deck 17 = .ok (.iconst 1, 1) := by decide +kernel
theorem dX13_deck_18 : decode cX13_deck 18 = .ok (.goto 4, 3) := by decide +kernel
theorem dX13_deck_21 : decode cX13_deck 21 = .ok (.iconst 0, 1) := by decide +kernel
theorem dX13_deck_22 : decode cX13_deck 22 = .ok (.iconst 1, 1) := by decide +kernel
theorem dX13_deck_23 : decode cX13_deck 23 = .ok (.invokevirtual 57, 3) := by decide +kernel
theorem dX13_deck_26 : decode cX13_deck 26 = .ok (.ifCond .eq 5, 3) := by decide +kernel
theorem dX13_deck_29 : decode cX13_deck 29 = .ok (.iconst (-1), 1) := by decide +kernel
theorem dX13_deck_30 : decode cX13_deck 30 = .ok (.ireturn, 1) := by decide +kernel
theorem dX13_deck_31 : decode cX13_deck 31 = .ok (.iconst (-1), 1) := by decide +kernel
theorem dX13_deck_32 : decode cX13_deck 32 = .ok (.istore_n 2, 1) := by decide +kernel
theorem dX13_deck_33 : decode cX13_deck 33 = .ok (.iconst 0, 1) := by decide +kernel
theorem dX13_deck_34 : decode cX13_deck 34 = .ok (.istore_n 3, 1) := by decide +kernel
theorem dX13_deck_35 : decode cX13_deck 35 = .ok (.iconst 0, 1) := by decide +kernel
theorem dX13_deck_36 : decode cX13_deck 36 = .ok (.istore 4, 2) := by decide +kernel
theorem dX13_deck_38 : decode cX13_deck 38 = .ok (.iload 4, 2) := by decide +kernel
theorem dX13_deck_40 : decode cX13_deck 40 = .ok (.bipush 10, 2) := by decide +kernel
theorem dX13_deck_42 : decode cX13_deck 42 = .ok (.if_icmp .ge 49, 3) := by decide +kernel
theorem dX13_deck_45 : decode cX13_deck 45 = .ok (.aload_n 0, 1) := by decide +kernel
theorem dX13_deck_46 : decode cX13_deck 46 = .ok (.getfield 34, 3) := by decide +kernel
theorem dX13_deck_49 : decode cX13_deck 49 = .ok (.getfield 84, 3) := by decide +kernel
theorem dX13_deck_52 : decode cX13_deck 52 = .ok (.iload 4, 2) := by decide +kernel
theorem dX13_deck_54 : decode cX13_deck 54 = .ok (.aaload, 1) := by decide +kernel
theorem dX13_deck_55 : decode cX13_deck 55 = .ok (.iload_n 1, 1) := by decide +kernel
theorem dX13_deck_56 : decode cX13_deck 56 = .ok (.iaload, 1) := by decide +kernel
theorem dX13_deck_57 : decode cX13_deck 57 = .ok (.iload_n 3, 1) := by decide +kernel
theorem dX13_deck_58 : decode cX13_deck 58 = .ok (.if_icmp .le 8, 3) := by decide +kernel
theorem dX13_deck_61 : decode cX13_deck 61 = .ok (.iload 4, 2) := by decide +kernel
theorem dX13_deck_63 : decode cX13_deck 63 = .ok (.goto 4, 3) := by decide +kernel
theorem dX13_deck_66 : decode cX13_deck 66 = .ok (.iload_n 2, 1) := by decide +kernel
theorem dX13_deck_67 : decode cX13_deck 67 = .ok (.istore_n 2, 1) := by decide +kernel
theorem dX13_deck_68 : decode cX13_deck 68 = .ok (.iload_n 3, 1) := by decide +kernel
theorem dX13_deck_69 : decode cX13_deck 69 = .ok (.aload_n 0, 1) := by decide +kernel
theorem dX13_deck_70 : decode cX13_deck 70 = .ok (.getfield 34, 3) := by decide +kernel
theorem dX13_deck_73 : decode cX13_deck 73 = .ok (.getfield 84, 3) := by decide +kernel
theorem dX13_deck_76 : decode cX13_deck 76 = .ok (.iload 4, 2) := by decide +kernel
theorem dX13_deck_78 : decode cX13_deck 78 = .ok (.aaload, 1) := by decide +kernel
theorem dX13_deck_79 : decode cX13_deck 79 = .ok (.iload_n 1, 1) := by decide +kernel
theorem dX13_deck_80 : decode cX13_deck 80 = .ok (.iaload, 1) := by decide +kernel
theorem dX13_deck_81 : decode cX13_deck 81 = .ok (.invokestatic 87, 3) := by decide +kernel
theorem dX13_deck_84 : decode cX13_deck 84 = .ok (.istore_n 3, 1) := by decide +kernel
theorem dX13_deck_85 : decode cX13_deck 85 = .ok (.iinc 4 1, 3) := by decide +kernel
theorem dX13_deck_88 : decode cX13_deck 88 = .ok (.goto (-50), 3) := by decide +kernel
theorem dX13_deck_91 : decode cX13_deck 91 = .ok (.aload_n 0, 1) := by decide +kernel
theorem dX13_deck_92 : decode cX13_deck 92 = .ok (.iload_n 2, 1) := by decide +kernel
theorem dX13_deck_93 : decode cX13_deck 93 = .ok (.iconst (-1), 1) := by decide +kernel
theorem dX13_deck_94 : decode cX13_deck 94 = .ok (.if_icmp .ne 7, 3) := by decide +kernel
theorem dX13_deck_97 : decode cX13_deck 97 = .ok (.iconst 1, 1) := by decide +kernel
theorem dX13_deck_98 : decode cX13_deck 98 = .ok (.goto 4, 3) := by decide +kernel
theorem dX13_deck_101 : decode cX13_deck 101 = .ok (.iconst 0, 1) := by decide +kernel
theorem dX13_deck_102 : decode cX13_deck 102 = .ok (.iconst 2, 1) := by decide +kernel
theorem dX13_deck_103 : decode cX13_deck 103 = .ok (.invokevirtual 57, 3) := by decide +kernel
theorem dX13_deck_106 : decode cX13_deck 106 = .ok (.ifCond .eq 7, 3) := by decide +kernel
theorem dX13_deck_109 : decode cX13_deck 109 = .ok (.iconst (-1), 1) := by decide +kernel
theorem dX13_deck_110 : decode cX13_deck 110 = .ok (.goto 4, 3) := by decide +kernel
theorem dX13_deck_113 : decode cX13_deck 113 = .ok (.iload_n 2, 1) := by decide +kernel
theorem dX13_deck_114 : decode cX13_deck 114 = .ok (.ireturn, 1) := by decide +kernel
theorem dX13_setCore_0 : decode cX13_setCore 0 = .ok (.aload_n 0, 1) := by decide +kernel
theorem dX13_setCore_1 : decode cX13_setCore 1 = .ok (.invokevirtual 61, 3) := by decide +kernel
theorem dX13_setCore_4 : decode cX13_setCore 4 = .ok (.aload_n 0, 1) := by decide +kernel
theorem dX13_setCore_5 : decode cX13_setCore 5 = .ok (.iload_n 1, 1) := by decide +kernel
theorem dX13_setCore_6 : decode cX13_setCore 6 = .ok (.i2l, 1) := by decide +kernel
theorem dX13_setCore_7 : decode cX13_setCore 7 = .ok (.lconst 0, 1) := by decide +kernel
theorem dX13_setCore_8 : decode cX13_setCore 8 = .ok (.ldc2_w 55, 3) := by decide +kernel
theorem dX13_setCore_11 : decode cX13_setCore 11 = .ok (.invokestatic 13, 3) := by decide +kernel
theorem dX13_setCore_14 : decode cX13_setCore 14 = .ok (.ifCond .ne 7, 3) := by decide +kernel
theorem dX13_setCore_17 : decode cX13_setCore 17 = .ok (.iconst 1, 1) := by decide +kernel
theorem dX13_setCore_18 : decode cX13_setCore 18 = .ok (.goto 4, 3) := by decide +kernel
theorem dX13_setCore_21 : decode cX13_setCore 21 = .ok (.iconst 0, 1) := by decide +kernel
theorem dX13_setCore_22 : decode cX13_setCore 22 = .ok (.iconst 1, 1) := by decide +kernel
theorem dX13_setCore_23 : decode cX13_setCore 23 = .ok (.invokevirtual 57, 3) := by decide +kernel
theorem dX13_setCore_26 : decode cX13_setCore 26 = .ok (.ifCond .eq 5, 3) := by decide +kernel
theorem dX13_setCore_29 : decode cX13_setCore 29 = .ok (.iconst (-1), 1) := by decide +kernel
theorem dX13_setCore_30 : decode cX13_setCore 30 = .ok (.ireturn, 1) := by decide +kernel
theorem dX13_setCore_31 : decode cX13_setCore 31 = .ok (.aload_n 0, 1) := by decide +kernel
theorem dX13_setCore_32 : decode cX13_setCore 32 = .ok (.getfield 34, 3) := by decide +kernel
theorem dX13_setCore_35 : decode cX13_setCore 35 = .ok (.getfield 93, 3) := by decide +kernel
theorem dX13_setCore_38 : decode cX13_setCore 38 = .ok (.istore_n 2, 1) := by decide +kernel
theorem dX13_setCore_39 : decode cX13_setCore 39 = .ok (.aload_n 0, 1) := by decide +kernel
theorem dX13_setCore_40 : decode cX13_setCore 40 = .ok (.getfield 34, 3) := by decide +kernel
theorem dX13_setCore_43 : decode cX13_setCore 43 = .ok (.iload_n 1, 1) := by decide +kernel
theorem dX13_setCore_44 : decode cX13_setCore 44 = .ok (.putfield 93, 3) := by decide +kernel
theorem dX13_setCore_47 : decode cX13_setCore 47 = .ok (.iload_n 2, 1) := by decide +kernel
theorem dX13_setCore_48 : decode cX13_setCore 48 = .ok (.ireturn, 1) := by decide +kernel
theorem dX13_getRadiated_0 : decode cX13_getRadiated 0 = .ok (.aload_n 0, 1) := by decide +kernel
theorem dX13_getRadiated_1 : decode cX13_getRadiated 1 = .ok (.invokevirtual 61, 3) := by decide +kernel
theorem dX13_getRadiated_4 : decode cX13_getRadiated 4 = .ok (.aload_n 0, 1) := by decide +kernel
theorem dX13_getRadiated_5 : decode cX13_getRadiated 5 = .ok (.getfield 34, 3) := by decide +kernel
theorem dX13_getRadiated_8 : decode cX13_getRadiated 8 = .ok (.getfield 96, 3) := by decide +kernel
theorem dX13_getRadiated_11 : decode cX13_getRadiated 11 = .ok (.ireturn, 1) := by decide +kernel
theorem dX13_pressure_0 : decode cX13_pressure 0 = .ok (.aload_n 0, 1) := by decide +kernel
theorem dX13_pressure_1 : decode cX13_pressure 1 = .ok (.invokevirtual 61, 3) := by decide +kernel
theorem dX13_pressure_4 : decode cX13_pressure 4 = .ok (.aload_n 0, 1) := by decide +kernel
theorem dX13_pressure_5 : decode cX13_pressure 5 = .ok (.iload_n 1, 1) := by decide +kernel
theorem dX13_pressure_6 : decode cX13_pressure 6 = .ok (.invokevirtual 64, 3) := by decide +kernel
theorem dX13_pressure_9 : decode cX13_pressure 9 = .ok (.ifCond .eq 5, 3) := by decide +kernel
theorem dX13_pressure_12 : decode cX13_pressure 12 = .ok (.fconst 0, 1) := by decide +kernel
theorem dX13_pressure_13 : decode cX13_pressure 13 = .ok (.freturn, 1) := by decide +kernel
theorem dX13_pressure_14 : decode cX13_pressure 14 = .ok (.ldc 99, 2) := by decide +kernel
theorem dX13_pressure_16 : decode cX13_pressure 16 = .ok (.fstore_n 2, 1) := by decide +kernel
theorem dX13_pressure_17 : decode cX13_pressure 17 = .ok (.iconst 0, 1) := by decide +kernel
theorem dX13_pressure_18 : decode cX13_pressure 18 = .ok (.istore_n 3, 1) := by decide +kernel
theorem dX13_pressure_19 : decode cX13_pressure 19 = .ok (.iload_n 3, 1) := by decide +kernel
theorem dX13_pressure_20 : decode cX13_pressure 20 = .ok (.iload_n 1, 1) := by decide +kernel
theorem dX13_pressure_21 : decode cX13_pressure 21 = .ok (.if_icmp .ge 13, 3) := by decide +kernel
theorem dX13_pressure_24 : decode cX13_pressure 24 = .ok (.fload_n 2, 1) := by decide +kernel
theorem dX13_pressure_25 : decode cX13_pressure 25 = .ok (.fconst 2, 1) := by decide +kernel
theorem dX13_pressure_26 : decode cX13_pressure 26 = .ok (.fmul, 1) := by decide +kernel
theorem dX13_pressure_27 : decode cX13_pressure 27 = .ok (.fstore_n 2, 1) := by decide +kernel
theorem dX13_pressure_28 : decode cX13_pressure 28 = .ok (.iinc 3 1, 3) := by decide +kernel
theorem dX13_pressure_31 : decode cX13_pressure 31 = .ok (.goto (-12), 3) := by decide +kernel
theorem dX13_pressure_34 : decode cX13_pressure 34 = .ok (.fload_n 2, 1) := by decide +kernel
theorem dX13_pressure_35 : decode cX13_pressure 35 = .ok (.freturn, 1) := by decide +kernel
theorem dX13_noBelt_0 : decode cX13_noBelt 0 = .ok (.aload_n 0, 1) := by decide +kernel
theorem dX13_noBelt_1 : decode cX13_noBelt 1 = .ok (.iload_n 1, 1) := by decide +kernel
theorem dX13_noBelt_2 : decode cX13_noBelt 2 = .ok (.i2l, 1) := by decide +kernel
theorem dX13_noBelt_3 : decode cX13_noBelt 3 = .ok (.lconst 0, 1) := by decide +kernel
theorem dX13_noBelt_4 : decode cX13_noBelt 4 = .ok (.ldc2_w 100, 3) := by decide +kernel
theorem dX13_noBelt_7 : decode cX13_noBelt 7 = .ok (.invokestatic 13, 3) := by decide +kernel
theorem dX13_noBelt_10 : decode cX13_noBelt 10 = .ok (.ifCond .ne 7, 3) := by decide +kernel
theorem dX13_noBelt_13 : decode cX13_noBelt 13 = .ok (.iconst 1, 1) := by decide +kernel
theorem dX13_noBelt_14 : decode cX13_noBelt 14 = .ok (.goto 4, 3) := by decide +kernel
theorem dX13_noBelt_17 : decode cX13_noBelt 17 = .ok (.iconst 0, 1) := by decide +kernel
theorem dX13_noBelt_18 : decode cX13_noBelt 18 = .ok (.iconst 1, 1) := by decide +kernel
theorem dX13_noBelt_19 : decode cX13_noBelt 19 = .ok (.invokevirtual 57, 3) := by decide +kernel
theorem dX13_noBelt_22 : decode cX13_noBelt 22 = .ok (.ireturn, 1) := by decide +kernel
theorem dX13_setTurning_0 : decode cX13_setTurning 0 = .ok (.aload_n 0, 1) := by decide +kernel
theorem dX13_setTurning_1 : decode cX13_setTurning 1 = .ok (.invokevirtual 61, 3) := by decide +kernel
theorem dX13_setTurning_4 : decode cX13_setTurning 4 = .ok (.aload_n 0, 1) := by decide +kernel
theorem dX13_setTurning_5 : decode cX13_setTurning 5 = .ok (.iload_n 1, 1) := by decide +kernel
theorem dX13_setTurning_6 : decode cX13_setTurning 6 = .ok (.invokevirtual 102, 3) := by decide +kernel
theorem dX13_setTurning_9 : decode cX13_setTurning 9 = .ok (.ifCond .ne 30, 3) := by decide +kernel
theorem dX13_setTurning_12 : decode cX13_setTurning 12 = .ok (.aload_n 0, 1) := by decide +kernel
theorem dX13_setTurning_13 : decode cX13_setTurning 13 = .ok (.iload_n 2, 1) := by decide +kernel
theorem dX13_setTurning_14 : decode cX13_setTurning 14 = .ok (.i2l, 1) := by decide +kernel
theorem dX13_setTurning_15 : decode cX13_setTurning 15 = .ok (.ldc2_w 105, 3) := by decide +kernel
theorem dX13_setTurning_18 : decode cX13_setTurning 18 = .ok (.ldc2_w 107, 3) := by decide +kernel
theorem dX13_setTurning_21 : decode cX13_setTurning 21 = .ok (.invokestatic 13, 3) := by decide +kernel
theorem dX13_setTurning_24 : decode cX13_setTurning 24 = .ok (.ifCond .ne 7, 3) := by decide +kernel
theorem dX13_setTurning_27 : decode cX13_setTurning 27 = .ok (.iconst 1, 1) := by decide +kernel
theorem dX13_setTurning_28 : decode cX13_setTurning 28 = .ok (.goto 4, 3) := by decide +kernel
theorem dX13_setTurning_31 : decode cX13_setTurning 31 = .ok (.iconst 0, 1) := by decide +kernel
theorem dX13_setTurning_32 : decode cX13_setTurning 32 = .ok (.iconst 2, 1) := by decide +kernel
theorem dX13_setTurning_33 : decode cX13_setTurning 33 = .ok (.invokevirtual 57, 3) := by decide +kernel
theorem dX13_setTurning_36 : decode cX13_setTurning 36 = .ok (.ifCond .eq 5, 3) := by decide +kernel
theorem dX13_setTurning_39 : decode cX13_setTurning 39 = .ok (.iconst (-1), 1) := by decide +kernel
theorem dX13_setTurning_40 : decode cX13_setTurning 40 = .ok (.ireturn, 1) := by decide +kernel
theorem dX13_setTurning_41 : decode cX13_setTurning 41 = .ok (.aload_n 0, 1) := by decide +kernel
theorem dX13_setTurning_42 : decode cX13_setTurning 42 = .ok (.getfield 34, 3) := by decide +kernel
theorem dX13_setTurning_45 : decode cX13_setTurning 45 = .ok (.getfield 109, 3) := by decide +kernel
theorem dX13_setTurning_48 : decode cX13_setTurning 48 = .ok (.iload_n 1, 1) := by decide +kernel
theorem dX13_setTurning_49 : decode cX13_setTurning 49 = .ok (.iaload, 1) := by decide +kernel
theorem dX13_setTurning_50 : decode cX13_setTurning 50 = .ok (.istore_n 3, 1) := by decide +kernel
theorem dX13_setTurning_51 : decode cX13_setTurning 51 = .ok (.aload_n 0, 1) := by decide +kernel
theorem dX13_setTurning_52 : decode cX13_setTurning 52 = .ok (.getfield 34, 3) := by decide +kernel
theorem dX13_setTurning_55 : decode cX13_setTurning 55 = .ok (.getfield 109, 3) := by decide +kernel
theorem dX13_setTurning_58 : decode cX13_setTurning 58 = .ok (.iload_n 1, 1) := by decide +kernel
theorem dX13_setTurning_59 : decode cX13_setTurning 59 = .ok (.iload_n 2, 1) := by decide +kernel
theorem dX13_setTurning_60 : decode cX13_setTurning 60 = .ok (.iastore, 1) := by decide +kernel
theorem dX13_setTurning_61 : decode cX13_setTurning 61 = .ok (.iload_n 3, 1) := by decide +kernel
theorem dX13_setTurning_62 : decode cX13_setTurning 62 = .ok (.ireturn, 1) := by decide +kernel
theorem dX13_getTurning_0 : decode cX13_getTurning 0 = .ok (.aload_n 0, 1) := by decide +kernel
theorem dX13_getTurning_1 : decode cX13_getTurning 1 = .ok (.invokevirtual 61, 3) := by decide +kernel
theorem dX13_getTurning_4 : decode cX13_getTurning 4 = .ok (.aload_n 0, 1) := by decide +kernel
theorem dX13_getTurning_5 : decode cX13_getTurning 5 = .ok (.iload_n 1, 1) := by decide +kernel
theorem dX13_getTurning_6 : decode cX13_getTurning 6 = .ok (.invokevirtual 102, 3) := by decide +kernel
theorem dX13_getTurning_9 : decode cX13_getTurning 9 = .ok (.ifCond .eq 7, 3) := by decide +kernel
theorem dX13_getTurning_12 : decode cX13_getTurning 12 = .ok (.iconst (-1), 1) := by decide +kernel
theorem dX13_getTurning_13 : decode cX13_getTurning 13 = .ok (.goto 12, 3) := by decide +kernel
theorem dX13_getTurning_16 : decode cX13_getTurning 16 = .ok (.aload_n 0, 1) := by decide +kernel
theorem dX13_getTurning_17 : decode cX13_getTurning 17 = .ok (.getfield 34, 3) := by decide +kernel
theorem dX13_getTurning_20 : decode cX13_getTurning 20 = .ok (.getfield 109, 3) := by decide +kernel
theorem dX13_getTurning_23 : decode cX13_getTurning 23 = .ok (.iload_n 1, 1) := by decide +kernel
theorem dX13_getTurning_24 : decode cX13_getTurning 24 = .ok (.iaload, 1) := by decide +kernel
theorem dX13_getTurning_25 : decode cX13_getTurning 25 = .ok (.ireturn, 1) := by decide +kernel
theorem dX13_getWind_0 : decode cX13_getWind 0 = .ok (.aload_n 0, 1) := by decide +kernel
theorem dX13_getWind_1 : decode cX13_getWind 1 = .ok (.invokevirtual 61, 3) := by decide +kernel
theorem dX13_getWind_4 : decode cX13_getWind 4 = .ok (.aload_n 0, 1) := by decide +kernel
theorem dX13_getWind_5 : decode cX13_getWind 5 = .ok (.iload_n 1, 1) := by decide +kernel
theorem dX13_getWind_6 : decode cX13_getWind 6 = .ok (.invokevirtual 102, 3) := by decide +kernel
theorem dX13_getWind_9 : decode cX13_getWind 9 = .ok (.ifCond .eq 7, 3) := by decide +kernel
theorem dX13_getWind_12 : decode cX13_getWind 12 = .ok (.iconst (-1), 1) := by decide +kernel
theorem dX13_getWind_13 : decode cX13_getWind 13 = .ok (.goto 11, 3) := by decide +kernel
theorem dX13_getWind_16 : decode cX13_getWind 16 = .ok (.aload_n 0, 1) := by decide +kernel
theorem dX13_getWind_17 : decode cX13_getWind 17 = .ok (.getfield 34, 3) := by decide +kernel
theorem dX13_getWind_20 : decode cX13_getWind 20 = .ok (.iload_n 1, 1) := by decide +kernel
theorem dX13_getWind_21 : decode cX13_getWind 21 = .ok (.invokevirtual 112, 3) := by decide +kernel
theorem dX13_getWind_24 : decode cX13_getWind 24 = .ok (.ireturn, 1) := by decide +kernel
theorem dX13_getShear_0 : decode cX13_getShear 0 = .ok (.aload_n 0, 1) := by decide +kernel
theorem dX13_getShear_1 : decode cX13_getShear 1 = .ok (.invokevirtual 61, 3) := by decide +kernel
theorem dX13_getShear_4 : decode cX13_getShear 4 = .ok (.aload_n 0, 1) := by decide +kernel
theorem dX13_getShear_5 : decode cX13_getShear 5 = .ok (.iload_n 1, 1) := by decide +kernel
theorem dX13_getShear_6 : decode cX13_getShear 6 = .ok (.invokevirtual 102, 3) := by decide +kernel
theorem dX13_getShear_9 : decode cX13_getShear 9 = .ok (.ifCond .eq 7, 3) := by decide +kernel
theorem dX13_getShear_12 : decode cX13_getShear 12 = .ok (.iconst (-1), 1) := by decide +kernel
theorem dX13_getShear_13 : decode cX13_getShear 13 = .ok (.goto 11, 3) := by decide +kernel
theorem dX13_getShear_16 : decode cX13_getShear 16 = .ok (.aload_n 0, 1) := by decide +kernel
theorem dX13_getShear_17 : decode cX13_getShear 17 = .ok (.getfield 34, 3) := by decide +kernel
theorem dX13_getShear_20 : decode cX13_getShear 20 = .ok (.iload_n 1, 1) := by decide +kernel
theorem dX13_getShear_21 : decode cX13_getShear 21 = .ok (.invokevirtual 116, 3) := by decide +kernel
theorem dX13_getShear_24 : decode cX13_getShear 24 = .ok (.ireturn, 1) := by decide +kernel
theorem dX13_stir_0 : decode cX13_stir 0 = .ok (.aload_n 0, 1) := by decide +kernel
theorem dX13_stir_1 : decode cX13_stir 1 = .ok (.invokevirtual 61, 3) := by decide +kernel
theorem dX13_stir_4 : decode cX13_stir 4 = .ok (.aload_n 0, 1) := by decide +kernel
theorem dX13_stir_5 : decode cX13_stir 5 = .ok (.iload_n 1, 1) := by decide +kernel
theorem dX13_stir_6 : decode cX13_stir 6 = .ok (.i2l, 1) := by decide +kernel
theorem dX13_stir_7 : decode cX13_stir 7 = .ok (.lconst 0, 1) := by decide +kernel
theorem dX13_stir_8 : decode cX13_stir 8 = .ok (.ldc2_w 100, 3) := by decide +kernel
theorem dX13_stir_11 : decode cX13_stir 11 = .ok (.invokestatic 13, 3) := by decide +kernel
theorem dX13_stir_14 : decode cX13_stir 14 = .ok (.ifCond .eq 15, 3) := by decide +kernel
theorem dX13_stir_17 : decode cX13_stir 17 = .ok (.iload_n 2, 1) := by decide +kernel
theorem dX13_stir_18 : decode cX13_stir 18 = .ok (.i2l, 1) := by decide +kernel
theorem dX13_stir_19 : decode cX13_stir 19 = .ok (.lconst 0, 1) := by decide +kernel
theorem dX13_stir_20 : decode cX13_stir 20 = .ok (.ldc2_w 100, 3) := by decide +kernel
theorem dX13_stir_23 : decode cX13_stir 23 = .ok (.invokestatic 13, 3) := by decide +kernel
theorem dX13_stir_26 : decode cX13_stir 26 = .ok (.ifCond .ne 7, 3) := by decide +kernel
theorem dX13_stir_29 : decode cX13_stir 29 = .ok (.iconst 1, 1) := by decide +kernel
theorem dX13_stir_30 : decode cX13_stir 30 = .ok (.goto 4, 3) := by decide +kernel
theorem dX13_stir_33 : decode cX13_stir 33 = .ok (.iconst 0, 1) := by decide +kernel
theorem dX13_stir_34 : decode cX13_stir 34 = .ok (.iconst 1, 1) := by decide +kernel
theorem dX13_stir_35 : decode cX13_stir 35 = .ok (.invokevirtual 57, 3) := by decide +kernel
theorem dX13_stir_38 : decode cX13_stir 38 = .ok (.ifCond .ne 38, 3) := by decide +kernel
theorem dX13_stir_41 : decode cX13_stir 41 = .ok (.aload_n 0, 1) := by decide +kernel
theorem dX13_stir_42 : decode cX13_stir 42 = .ok (.iload_n 1, 1) := by decide +kernel
theorem dX13_stir_43 : decode cX13_stir 43 = .ok (.iload_n 2, 1) := by decide +kernel
theorem dX13_stir_44 : decode cX13_stir 44 = .ok (.isub, 1) := by decide +kernel
theorem dX13_stir_45 : decode cX13_stir 45 = .ok (.invokestatic 119, 3) := by decide +kernel
theorem dX13_stir_48 : decode cX13_stir 48 = .ok (.iconst 1, 1) := by decide +kernel
theorem dX13_stir_49 : decode cX13_stir 49 = .ok (.if_icmp .ne 15, 3) := by decide +kernel
theorem dX13_stir_52 : decode cX13_stir 52 = .ok (.iload_n 3, 1) := by decide +kernel
theorem dX13_stir_53 : decode cX13_stir 53 = .ok (.i2l, 1) := by decide +kernel
theorem dX13_stir_54 : decode cX13_stir 54 = .ok (.lconst 1, 1) := by decide +kernel
theorem dX13_stir_55 : decode cX13_stir 55 = .ok (.ldc2_w 107, 3) := by decide +kernel
theorem dX13_stir_58 : decode cX13_stir 58 = .ok (.invokestatic 13, 3) := by decide +kernel
theorem dX13_stir_61 : decode cX13_stir 61 = .ok (.ifCond .ne 7, 3) := by decide +kernel
theorem dX13_stir_64 : decode cX13_stir 64 = .ok (.iconst 1, 1) := by decide +kernel
theorem dX13_stir_65 : decode cX13_stir 65 = .ok (.goto 4, 3) := by decide +kernel
theorem dX13_stir_68 : decode cX13_stir 68 = .ok (.iconst 0, 1) := by decide +kernel
theorem dX13_stir_69 : decode cX13_stir 69 = .ok (.iconst 2, 1) := by decide +kernel
theorem dX13_stir_70 : decode cX13_stir 70 = .ok (.invokevirtual 57, 3) := by decide +kernel
theorem dX13_stir_73 : decode cX13_stir 73 = .ok (.ifCond .eq 5, 3) := by decide +kernel
theorem dX13_stir_76 : decode cX13_stir 76 = .ok (.iconst (-1), 1) := by decide +kernel
theorem dX13_stir_77 : decode cX13_stir 77 = .ok (.ireturn, 1) := by decide +kernel
theorem dX13_stir_78 : decode cX13_stir 78 = .ok (.aload_n 0, 1) := by decide +kernel
theorem dX13_stir_79 : decode cX13_stir 79 = .ok (.getfield 34, 3) := by decide +kernel
theorem dX13_stir_82 : decode cX13_stir 82 = .ok (.getfield 109, 3) := by decide +kernel
theorem dX13_stir_85 : decode cX13_stir 85 = .ok (.iload_n 1, 1) := by decide +kernel
theorem dX13_stir_86 : decode cX13_stir 86 = .ok (.dup2, 1) := by decide +kernel
theorem dX13_stir_87 : decode cX13_stir 87 = .ok (.iaload, 1) := by decide +kernel
theorem dX13_stir_88 : decode cX13_stir 88 = .ok (.iload_n 3, 1) := by decide +kernel
theorem dX13_stir_89 : decode cX13_stir 89 = .ok (.isub, 1) := by decide +kernel
theorem dX13_stir_90 : decode cX13_stir 90 = .ok (.iastore, 1) := by decide +kernel
theorem dX13_stir_91 : decode cX13_stir 91 = .ok (.aload_n 0, 1) := by decide +kernel
theorem dX13_stir_92 : decode cX13_stir 92 = .ok (.getfield 34, 3) := by decide +kernel
theorem dX13_stir_95 : decode cX13_stir 95 = .ok (.getfield 109, 3) := by decide +kernel
theorem dX13_stir_98 : decode cX13_stir 98 = .ok (.iload_n 2, 1) := by decide +kernel
theorem dX13_stir_99 : decode cX13_stir 99 = .ok (.dup2, 1) := by decide +kernel
theorem dX13_stir_100 : decode cX13_stir 100 = .ok (.iaload, 1) := by decide +kernel
theorem dX13_stir_101 : decode cX13_stir 101 = .ok (.iload_n 3, 1) := by decide +kernel
theorem dX13_stir_102 : decode cX13_stir 102 = .ok (.iadd, 1) := by decide +kernel
theorem dX13_stir_103 : decode cX13_stir 103 = .ok (.iastore, 1) := by decide +kernel
theorem dX13_stir_104 : decode cX13_stir 104 = .ok (.aload_n 0, 1) := by decide +kernel
theorem dX13_stir_105 : decode cX13_stir 105 = .ok (.getfield 34, 3) := by decide +kernel
theorem dX13_stir_108 : decode cX13_stir 108 = .ok (.getfield 109, 3) := by decide +kernel
theorem dX13_stir_111 : decode cX13_stir 111 = .ok (.iload_n 2, 1) := by decide +kernel
theorem dX13_stir_112 : decode cX13_stir 112 = .ok (.iaload, 1) := by decide +kernel
theorem dX13_stir_113 : decode cX13_stir 113 = .ok (.ireturn, 1) := by decide +kernel
theorem dX13_setDrag_0 : decode cX13_setDrag 0 = .ok (.aload_n 0, 1) := by decide +kernel
theorem dX13_setDrag_1 : decode cX13_setDrag 1 = .ok (.invokevirtual 61, 3) := by decide +kernel
theorem dX13_setDrag_4 : decode cX13_setDrag 4 = .ok (.aload_n 0, 1) := by decide +kernel
theorem dX13_setDrag_5 : decode cX13_setDrag 5 = .ok (.iload_n 1, 1) := by decide +kernel
theorem dX13_setDrag_6 : decode cX13_setDrag 6 = .ok (.i2l, 1) := by decide +kernel
theorem dX13_setDrag_7 : decode cX13_setDrag 7 = .ok (.lconst 0, 1) := by decide +kernel
theorem dX13_setDrag_8 : decode cX13_setDrag 8 = .ok (.ldc2_w 68, 3) := by decide +kernel
theorem dX13_setDrag_11 : decode cX13_setDrag 11 = .ok (.invokestatic 13, 3) := by decide +kernel
theorem dX13_setDrag_14 : decode cX13_setDrag 14 = .ok (.ifCond .ne 7, 3) := by decide +kernel
theorem dX13_setDrag_17 : decode cX13_setDrag 17 = .ok (.iconst 1, 1) := by decide +kernel
theorem dX13_setDrag_18 : decode cX13_setDrag 18 = .ok (.goto 4, 3) := by decide +kernel
theorem dX13_setDrag_21 : decode cX13_setDrag 21 = .ok (.iconst 0, 1) := by decide +kernel
theorem dX13_setDrag_22 : decode cX13_setDrag 22 = .ok (.iconst 1, 1) := by decide +kernel
theorem dX13_setDrag_23 : decode cX13_setDrag 23 = .ok (.invokevirtual 57, 3) := by decide +kernel
theorem dX13_setDrag_26 : decode cX13_setDrag 26 = .ok (.ifCond .eq 5, 3) := by decide +kernel
theorem dX13_setDrag_29 : decode cX13_setDrag 29 = .ok (.iconst (-1), 1) := by decide +kernel
theorem dX13_setDrag_30 : decode cX13_setDrag 30 = .ok (.ireturn, 1) := by decide +kernel
theorem dX13_setDrag_31 : decode cX13_setDrag 31 = .ok (.aload_n 0, 1) := by decide +kernel
theorem dX13_setDrag_32 : decode cX13_setDrag 32 = .ok (.getfield 34, 3) := by decide +kernel
theorem dX13_setDrag_35 : decode cX13_setDrag 35 = .ok (.getfield 122, 3) := by decide +kernel
theorem dX13_setDrag_38 : decode cX13_setDrag 38 = .ok (.istore_n 2, 1) := by decide +kernel
theorem dX13_setDrag_39 : decode cX13_setDrag 39 = .ok (.aload_n 0, 1) := by decide +kernel
theorem dX13_setDrag_40 : decode cX13_setDrag 40 = .ok (.getfield 34, 3) := by decide +kernel
theorem dX13_setDrag_43 : decode cX13_setDrag 43 = .ok (.iload_n 1, 1) := by decide +kernel
theorem dX13_setDrag_44 : decode cX13_setDrag 44 = .ok (.putfield 122, 3) := by decide +kernel
theorem dX13_setDrag_47 : decode cX13_setDrag 47 = .ok (.iload_n 2, 1) := by decide +kernel
theorem dX13_setDrag_48 : decode cX13_setDrag 48 = .ok (.ireturn, 1) := by decide +kernel
theorem dX13_getDeep_0 : decode cX13_getDeep 0 = .ok (.aload_n 0, 1) := by decide +kernel
theorem dX13_getDeep_1 : decode cX13_getDeep 1 = .ok (.invokevirtual 61, 3) := by decide +kernel
theorem dX13_getDeep_4 : decode cX13_getDeep 4 = .ok (.aload_n 0, 1) := by decide +kernel
theorem dX13_getDeep_5 : decode cX13_getDeep 5 = .ok (.getfield 34, 3) := by decide +kernel
theorem dX13_getDeep_8 : decode cX13_getDeep 8 = .ok (.getfield 125, 3) := by decide +kernel
theorem dX13_getDeep_11 : decode cX13_getDeep 11 = .ok (.ireturn, 1) := by decide +kernel
theorem dX13_adds_0 : decode cX13_adds 0 = .ok (.new 128, 3) := by decide +kernel
theorem dX13_adds_3 : decode cX13_adds 3 = .ok (.dup, 1) := by decide +kernel
theorem dX13_adds_4 : decode cX13_adds 4 = .ok (.invokespecial 130, 3) := by decide +kernel
theorem dX13_adds_7 : decode cX13_adds 7 = .ok (.astore 4, 2) := by decide +kernel
theorem dX13_adds_9 : decode cX13_adds 9 = .ok (.aload 4, 2) := by decide +kernel
theorem dX13_adds_11 : decode cX13_adds 11 = .ok (.iload_n 1, 1) := by decide +kernel
theorem dX13_adds_12 : decode cX13_adds 12 = .ok (.putfield 131, 3) := by decide +kernel
theorem dX13_adds_15 : decode cX13_adds 15 = .ok (.aload 4, 2) := by decide +kernel
theorem dX13_adds_17 : decode cX13_adds 17 = .ok (.iload_n 2, 1) := by decide +kernel
theorem dX13_adds_18 : decode cX13_adds 18 = .ok (.putfield 134, 3) := by decide +kernel
theorem dX13_adds_21 : decode cX13_adds 21 = .ok (.aload 4, 2) := by decide +kernel
theorem dX13_adds_23 : decode cX13_adds 23 = .ok (.iload_n 3, 1) := by decide +kernel
theorem dX13_adds_24 : decode cX13_adds 24 = .ok (.putfield 137, 3) := by decide +kernel
theorem dX13_adds_27 : decode cX13_adds 27 = .ok (.aload_n 0, 1) := by decide +kernel
theorem dX13_adds_28 : decode cX13_adds 28 = .ok (.getfield 34, 3) := by decide +kernel
theorem dX13_adds_31 : decode cX13_adds 31 = .ok (.getfield 139, 3) := by decide +kernel
theorem dX13_adds_34 : decode cX13_adds 34 = .ok (.aload 4, 2) := by decide +kernel
theorem dX13_adds_36 : decode cX13_adds 36 = .ok (.invokeinterface 142 2, 5) := by decide +kernel
theorem dX13_adds_41 : decode cX13_adds 41 = .ok (.pop, 1) := by decide +kernel
theorem dX13_adds_42 : decode cX13_adds 42 = .ok (.aload_n 0, 1) := by decide +kernel
theorem dX13_adds_43 : decode cX13_adds 43 = .ok (.getfield 34, 3) := by decide +kernel
theorem dX13_adds_46 : decode cX13_adds 46 = .ok (.getfield 139, 3) := by decide +kernel
theorem dX13_adds_49 : decode cX13_adds 49 = .ok (.invokeinterface 7 1, 5) := by decide +kernel
theorem dX13_adds_54 : decode cX13_adds 54 = .ok (.iconst 1, 1) := by decide +kernel
theorem dX13_adds_55 : decode cX13_adds 55 = .ok (.isub, 1) := by decide +kernel
theorem dX13_adds_56 : decode cX13_adds 56 = .ok (.ireturn, 1) := by decide +kernel
theorem dX13_isPlace_0 : decode cX13_isPlace 0 = .ok (.iload_n 0, 1) := by decide +kernel
theorem dX13_isPlace_1 : decode cX13_isPlace 1 = .ok (.i2l, 1) := by decide +kernel
theorem dX13_isPlace_2 : decode cX13_isPlace 2 = .ok (.lconst 0, 1) := by decide +kernel
theorem dX13_isPlace_3 : decode cX13_isPlace 3 = .ok (.ldc2_w 146, 3) := by decide +kernel
theorem dX13_isPlace_6 : decode cX13_isPlace 6 = .ok (.invokestatic 13, 3) := by decide +kernel
theorem dX13_isPlace_9 : decode cX13_isPlace 9 = .ok (.ireturn, 1) := by decide +kernel
theorem dX13_addStorm_0 : decode cX13_addStorm 0 = .ok (.aload_n 0, 1) := by decide +kernel
theorem dX13_addStorm_1 : decode cX13_addStorm 1 = .ok (.invokevirtual 61, 3) := by decide +kernel
theorem dX13_addStorm_4 : decode cX13_addStorm 4 = .ok (.aload_n 0, 1) := by decide +kernel
theorem dX13_addStorm_5 : decode cX13_addStorm 5 = .ok (.iload_n 1, 1) := by decide +kernel
theorem dX13_addStorm_6 : decode cX13_addStorm 6 = .ok (.invokevirtual 102, 3) := by decide +kernel
theorem dX13_addStorm_9 : decode cX13_addStorm 9 = .ok (.ifCond .ne 67, 3) := by decide +kernel
theorem dX13_addStorm_12 : decode cX13_addStorm 12 = .ok (.aload_n 0, 1) := by decide +kernel
theorem dX13_addStorm_13 : decode cX13_addStorm 13 = .ok (.iload_n 2, 1) := by decide +kernel
theorem dX13_addStorm_14 : decode cX13_addStorm 14 = .ok (.invokestatic 148, 3) := by decide +kernel
theorem dX13_addStorm_17 : decode cX13_addStorm 17 = .ok (.ifCond .eq 17, 3) := by decide +kernel
theorem dX13_addStorm_20 : decode cX13_addStorm 20 = .ok (.iload_n 3, 1) := by decide +kernel
theorem dX13_addStorm_21 : decode cX13_addStorm 21 = .ok (.i2l, 1) := by decide +kernel
theorem dX13_addStorm_22 : decode cX13_addStorm 22 = .ok (.ldc2_w 151, 3) := by decide +kernel
theorem dX13_addStorm_25 : decode cX13_addStorm 25 = .ok (.ldc2_w 153, 3) := by decide +kernel
theorem dX13_addStorm_28 : decode cX13_addStorm 28 = .ok (.invokestatic 13, 3) := by decide +kernel
theorem dX13_addStorm_31 : decode cX13_addStorm 31 = .ok (.ifCond .ne 7, 3) := by decide +kernel
theorem dX13_addStorm_34 : decode cX13_addStorm 34 = .ok (.iconst 1, 1) := by decide +kernel
theorem dX13_addStorm_35 : decode cX13_addStorm 35 = .ok (.goto 4, 3) := by decide +kernel
theorem dX13_addStorm_38 : decode cX13_addStorm 38 = .ok (.iconst 0, 1) := by decide +kernel
theorem dX13_addStorm_39 : decode cX13_addStorm 39 = .ok (.iconst 2, 1) := by decide +kernel
theorem dX13_addStorm_40 : decode cX13_addStorm 40 = .ok (.invokevirtual 57, 3) := by decide +kernel
theorem dX13_addStorm_43 : decode cX13_addStorm 43 = .ok (.ifCond .ne 33, 3) := by decide +kernel
theorem dX13_addStorm_46 : decode cX13_addStorm 46 = .ok (.aload_n 0, 1) := by decide +kernel
theorem dX13_addStorm_47 : decode cX13_addStorm 47 = .ok (.aload_n 0, 1) := by decide +kernel
theorem dX13_addStorm_48 : decode cX13_addStorm 48 = .ok (.getfield 34, 3) := by decide +kernel
theorem dX13_addStorm_51 : decode cX13_addStorm 51 = .ok (.getfield 139, 3) := by decide +kernel
theorem dX13_addStorm_54 : decode cX13_addStorm 54 = .ok (.invokeinterface 7 1, 5) := by decide +kernel
theorem dX13_addStorm_59 : decode cX13_addStorm 59 = .ok (.bipush 12, 2) := by decide +kernel
theorem dX13_addStorm_61 : decode cX13_addStorm 61 = .ok (.if_icmp .ne 7, 3) := by decide +kernel
theorem dX13_addStorm_64 : decode cX13_addStorm 64 = .ok (.iconst 1, 1) := by decide +kernel
theorem dX13_addStorm_65 : decode cX13_addStorm 65 = .ok (.goto 4, 3) := by decide +kernel
theorem dX13_addStorm_68 : decode cX13_addStorm 68 = .ok (.iconst 0, 1) := by decide +kernel
theorem dX13_addStorm_69 : decode cX13_addStorm 69 = .ok (.iconst 3, 1) := by decide +kernel
theorem dX13_addStorm_70 : decode cX13_addStorm 70 = .ok (.invokevirtual 57, 3) := by decide +kernel
theorem dX13_addStorm_73 : decode cX13_addStorm 73 = .ok (.ifCond .eq 5, 3) := by decide +kernel
theorem dX13_addStorm_76 : decode cX13_addStorm 76 = .ok (.iconst (-1), 1) := by decide +kernel
theorem dX13_addStorm_77 : decode cX13_addStorm 77 = .ok (.ireturn, 1) := by decide +kernel
theorem dX13_addStorm_78 : decode cX13_addStorm 78 = .ok (.aload_n 0, 1) := by decide +kernel
theorem dX13_addStorm_79 : decode cX13_addStorm 79 = .ok (.iload_n 1, 1) := by decide +kernel
theorem dX13_addStorm_80 : decode cX13_addStorm 80 = .ok (.iload_n 2, 1) := by decide +kernel
theorem dX13_addStorm_81 : decode cX13_addStorm 81 = .ok (.iload_n 3, 1) := by decide +kernel
theorem dX13_addStorm_82 : decode cX13_addStorm 82 = .ok (.invokevirtual 155, 3) := by decide +kernel
theorem dX13_addStorm_85 : decode cX13_addStorm 85 = .ok (.ireturn, 1) := by decide +kernel
theorem dX13_noStorm_0 : decode cX13_noStorm 0 = .ok (.aload_n 0, 1) := by decide +kernel
theorem dX13_noStorm_1 : decode cX13_noStorm 1 = .ok (.aload_n 0, 1) := by decide +kernel
theorem dX13_noStorm_2 : decode cX13_noStorm 2 = .ok (.getfield 34, 3) := by decide +kernel
theorem dX13_noStorm_5 : decode cX13_noStorm 5 = .ok (.getfield 139, 3) := by decide +kernel
theorem dX13_noStorm_8 : decode cX13_noStorm 8 = .ok (.iload_n 1, 1) := by decide +kernel
theorem dX13_noStorm_9 : decode cX13_noStorm 9 = .ok (.invokestatic 159, 3) := by decide +kernel
theorem dX13_noStorm_12 : decode cX13_noStorm 12 = .ok (.ifCond .ne 7, 3) := by decide +kernel
theorem dX13_noStorm_15 : decode cX13_noStorm 15 = .ok (.iconst 1, 1) := by decide +kernel
theorem dX13_noStorm_16 : decode cX13_noStorm 16 = .ok (.goto 4, 3) := by decide +kernel
theorem dX13_noStorm_19 : decode cX13_noStorm 19 = .ok (.iconst 0, 1) := by decide +kernel
theorem dX13_noStorm_20 : decode cX13_noStorm 20 = .ok (.iconst 1, 1) := by decide +kernel
theorem dX13_noStorm_21 : decode cX13_noStorm 21 = .ok (.invokevirtual 57, 3) := by decide +kernel
theorem dX13_noStorm_24 : decode cX13_noStorm 24 = .ok (.ireturn, 1) := by decide +kernel
theorem dX13_named_0 : decode cX13_named 0 = .ok (.iconst (-1), 1) := by decide +kernel
theorem dX13_named_1 : decode cX13_named 1 = .ok (.istore_n 2, 1) := by decide +kernel
theorem dX13_named_2 : decode cX13_named 2 = .ok (.iconst 0, 1) := by decide +kernel
theorem dX13_named_3 : decode cX13_named 3 = .ok (.istore_n 3, 1) := by decide +kernel
theorem dX13_named_4 : decode cX13_named 4 = .ok (.iload_n 3, 1) := by decide +kernel
theorem dX13_named_5 : decode cX13_named 5 = .ok (.aload_n 0, 1) := by decide +kernel
theorem dX13_named_6 : decode cX13_named 6 = .ok (.getfield 34, 3) := by decide +kernel
theorem dX13_named_9 : decode cX13_named 9 = .ok (.getfield 139, 3) := by decide +kernel
theorem dX13_named_12 : decode cX13_named 12 = .ok (.invokeinterface 7 1, 5) := by decide +kernel
theorem dX13_named_17 : decode cX13_named 17 = .ok (.if_icmp .ge 60, 3) := by decide +kernel
theorem dX13_named_20 : decode cX13_named 20 = .ok (.aload_n 0, 1) := by decide +kernel
theorem dX13_named_21 : decode cX13_named 21 = .ok (.getfield 34, 3) := by decide +kernel
theorem dX13_named_24 : decode cX13_named 24 = .ok (.getfield 139, 3) := by decide +kernel
theorem dX13_named_27 : decode cX13_named 27 = .ok (.iload_n 3, 1) := by decide +kernel
theorem dX13_named_28 : decode cX13_named 28 = .ok (.invokeinterface 163 2, 5) := by decide +kernel
theorem dX13_named_33 : decode cX13_named 33 = .ok (.checkcast 128, 3) := by decide +kernel
theorem dX13_named_36 : decode cX13_named 36 = .ok (.getfield 167, 3) := by decide +kernel
theorem dX13_named_39 : decode cX13_named 39 = .ok (.ifCond .ne 30, 3) := by decide +kernel
theorem dX13_named_42 : decode cX13_named 42 = .ok (.aload_n 0, 1) := by decide +kernel
theorem dX13_named_43 : decode cX13_named 43 = .ok (.getfield 34, 3) := by decide +kernel
theorem dX13_named_46 : decode cX13_named 46 = .ok (.getfield 139, 3) := by decide +kernel
theorem dX13_named_49 : decode cX13_named 49 = .ok (.iload_n 3, 1) := by decide +kernel
theorem dX13_named_50 : decode cX13_named 50 = .ok (.invokeinterface 163 2, 5) := by decide +kernel
theorem dX13_named_55 : decode cX13_named 55 = .ok (.checkcast 128, 3) := by decide +kernel
theorem dX13_named_58 : decode cX13_named 58 = .ok (.getfield 171, 3) := by decide +kernel
theorem dX13_named_61 : decode cX13_named 61 = .ok (.iload_n 1, 1) := by decide +kernel
theorem dX13_named_62 : decode cX13_named 62 = .ok (.if_icmp .ne 7, 3) := by decide +kernel
theorem dX13_named_65 : decode cX13_named 65 = .ok (.iload_n 3, 1) := by decide +kernel
theorem dX13_named_66 : decode cX13_named 66 = .ok (.goto 4, 3) := by decide +kernel
theorem dX13_named_69 : decode cX13_named 69 = .ok (.iload_n 2, 1) := by decide +kernel
theorem dX13_named_70 : decode cX13_named 70 = .ok (.istore_n 2, 1) := by decide +kernel
theorem dX13_named_71 : decode cX13_named 71 = .ok (.iinc 3 1, 3) := by decide +kernel
theorem dX13_named_74 : decode cX13_named 74 = .ok (.goto (-70), 3) := by decide +kernel
theorem dX13_named_77 : decode cX13_named 77 = .ok (.iload_n 2, 1) := by decide +kernel
theorem dX13_named_78 : decode cX13_named 78 = .ok (.ireturn, 1) := by decide +kernel
theorem dX13_nameStorm_0 : decode cX13_nameStorm 0 = .ok (.aload_n 0, 1) := by decide +kernel
theorem dX13_nameStorm_1 : decode cX13_nameStorm 1 = .ok (.invokevirtual 61, 3) := by decide +kernel
theorem dX13_nameStorm_4 : decode cX13_nameStorm 4 = .ok (.aload_n 0, 1) := by decide +kernel
theorem dX13_nameStorm_5 : decode cX13_nameStorm 5 = .ok (.iload_n 1, 1) := by decide +kernel
theorem dX13_nameStorm_6 : decode cX13_nameStorm 6 = .ok (.invokevirtual 175, 3) := by decide +kernel
theorem dX13_nameStorm_9 : decode cX13_nameStorm 9 = .ok (.ifCond .ne 83, 3) := by decide +kernel
theorem dX13_nameStorm_12 : decode cX13_nameStorm 12 = .ok (.aload_n 0, 1) := by decide +kernel
theorem dX13_nameStorm_13 : decode cX13_nameStorm 13 = .ok (.iload_n 2, 1) := by decide +kernel
theorem dX13_nameStorm_14 : decode cX13_nameStorm 14 = .ok (.i2l, 1) := by decide +kernel
theorem dX13_nameStorm_15 : decode cX13_nameStorm 15 = .ok (.ldc2_w 178, 3) := by decide +kernel
theorem dX13_nameStorm_18 : decode cX13_nameStorm 18 = .ok (.ldc2_w 180, 3) := by decide +kernel
theorem dX13_nameStorm_21 : decode cX13_nameStorm 21 = .ok (.invokestatic 13, 3) := by decide +kernel
theorem dX13_nameStorm_24 : decode cX13_nameStorm 24 = .ok (.ifCond .ne 7, 3) := by decide +kernel
theorem dX13_nameStorm_27 : decode cX13_nameStorm 27 = .ok (.iconst 1, 1) := by decide +kernel
theorem dX13_nameStorm_28 : decode cX13_nameStorm 28 = .ok (.goto 4, 3) := by decide +kernel
theorem dX13_nameStorm_31 : decode cX13_nameStorm 31 = .ok (.iconst 0, 1) := by decide +kernel
theorem dX13_nameStorm_32 : decode cX13_nameStorm 32 = .ok (.iconst 2, 1) := by decide +kernel
theorem dX13_nameStorm_33 : decode cX13_nameStorm 33 = .ok (.invokevirtual 57, 3) := by decide +kernel
theorem dX13_nameStorm_36 : decode cX13_nameStorm 36 = .ok (.ifCond .ne 56, 3) := by decide +kernel
theorem dX13_nameStorm_39 : decode cX13_nameStorm 39 = .ok (.aload_n 0, 1) := by decide +kernel
theorem dX13_nameStorm_40 : decode cX13_nameStorm 40 = .ok (.aload_n 0, 1) := by decide +kernel
theorem dX13_nameStorm_41 : decode cX13_nameStorm 41 = .ok (.getfield 34, 3) := by decide +kernel
theorem dX13_nameStorm_44 : decode cX13_nameStorm 44 = .ok (.getfield 139, 3) := by decide +kernel
theorem dX13_nameStorm_47 : decode cX13_nameStorm 47 = .ok (.iload_n 1, 1) := by decide +kernel
theorem dX13_nameStorm_48 : decode cX13_nameStorm 48 = .ok (.invokeinterface 163 2, 5) := by decide +kernel
theorem dX13_nameStorm_53 : decode cX13_nameStorm 53 = .ok (.checkcast 128, 3) := by decide +kernel
theorem dX13_nameStorm_56 : decode cX13_nameStorm 56 = .ok (.getfield 167, 3) := by decide +kernel
theorem dX13_nameStorm_59 : decode cX13_nameStorm 59 = .ok (.ifCond .ne 21, 3) := by decide +kernel
theorem dX13_nameStorm_62 : decode cX13_nameStorm 62 = .ok (.aload_n 0, 1) := by decide +kernel
theorem dX13_nameStorm_63 : decode cX13_nameStorm 63 = .ok (.iload_n 2, 1) := by decide +kernel
theorem dX13_nameStorm_64 : decode cX13_nameStorm 64 = .ok (.invokevirtual 182, 3) := by decide +kernel
theorem dX13_nameStorm_67 : decode cX13_nameStorm 67 = .ok (.iconst (-1), 1) := by decide +kernel
theorem dX13_nameStorm_68 : decode cX13_nameStorm 68 = .ok (.if_icmp .eq 16, 3) := by decide +kernel
theorem dX13_nameStorm_71 : decode cX13_nameStorm 71 = .ok (.aload_n 0, 1) := by decide +kernel
theorem dX13_nameStorm_72 : decode cX13_nameStorm 72 = .ok (.iload_n 2, 1) := by decide +kernel
theorem dX13_nameStorm_73 : decode cX13_nameStorm 73 = .ok (.invokevirtual 182, 3) := by decide +kernel
theorem dX13_nameStorm_76 : decode cX13_nameStorm 76 = .ok (.iload_n 1, 1) := by decide +kernel
theorem dX13_nameStorm_77 : decode cX13_nameStorm 77 = .ok (.if_icmp .eq 7, 3) := by decide +kernel
theorem dX13_nameStorm_80 : decode cX13_nameStorm 80 = .ok (.iconst 1, 1) := by decide +kernel
theorem dX13_nameStorm_81 : decode cX13_nameStorm 81 = .ok (.goto 4, 3) := by decide +kernel
theorem dX13_nameStorm_84 : decode cX13_nameStorm 84 = .ok (.iconst 0, 1) := by decide +kernel
theorem dX13_nameStorm_85 : decode cX13_nameStorm 85 = .ok (.iconst 3, 1) := by decide +kernel
theorem dX13_nameStorm_86 : decode cX13_nameStorm 86 = .ok (.invokevirtual 57, 3) := by decide +kernel
theorem dX13_nameStorm_89 : decode cX13_nameStorm 89 = .ok (.ifCond .eq 6, 3) := by decide +kernel
theorem dX13_nameStorm_92 : decode cX13_nameStorm 92 = .ok (.bipush 32, 2) := by decide +kernel
theorem dX13_nameStorm_94 : decode cX13_nameStorm 94 = .ok (.ireturn, 1) := by decide +kernel
theorem dX13_nameStorm_95 : decode cX13_nameStorm 95 = .ok (.aload_n 0, 1) := by decide +kernel
theorem dX13_nameStorm_96 : decode cX13_nameStorm 96 = .ok (.getfield 34, 3) := by decide +kernel
theorem dX13_nameStorm_99 : decode cX13_nameStorm 99 = .ok (.getfield 139, 3) := by decide +kernel
theorem dX13_nameStorm_102 : decode cX13_nameStorm 102 = .ok (.iload_n 1, 1) := by decide +kernel
theorem dX13_nameStorm_103 : decode cX13_nameStorm 103 = .ok (.invokeinterface 163 2, 5) := by decide +kernel
theorem dX13_nameStorm_108 : decode cX13_nameStorm 108 = .ok (.checkcast 128, 3) := by decide +kernel
theorem dX13_nameStorm_111 : decode cX13_nameStorm 111 = .ok (.getfield 171, 3) := by decide +kernel
theorem dX13_nameStorm_114 : decode cX13_nameStorm 114 = .ok (.istore_n 3, 1) := by decide +kernel
theorem dX13_nameStorm_115 : decode cX13_nameStorm 115 = .ok (.aload_n 0, 1) := by decide +kernel
theorem dX13_nameStorm_116 : decode cX13_nameStorm 116 = .ok (.getfield 34, 3) := by decide +kernel
theorem dX13_nameStorm_119 : decode cX13_nameStorm 119 = .ok (.getfield 139, 3) := by decide +kernel
theorem dX13_nameStorm_122 : decode cX13_nameStorm 122 = .ok (.iload_n 1, 1) := by decide +kernel
theorem dX13_nameStorm_123 : decode cX13_nameStorm 123 = .ok (.invokeinterface 163 2, 5) := by decide +kernel
theorem dX13_nameStorm_128 : decode cX13_nameStorm 128 = .ok (.checkcast 128, 3) := by decide +kernel
theorem dX13_nameStorm_131 : decode cX13_nameStorm 131 = .ok (.iload_n 2, 1) := by decide +kernel
theorem dX13_nameStorm_132 : decode cX13_nameStorm 132 = .ok (.putfield 171, 3) := by decide +kernel
theorem dX13_nameStorm_135 : decode cX13_nameStorm 135 = .ok (.iload_n 3, 1) := by decide +kernel
theorem dX13_nameStorm_136 : decode cX13_nameStorm 136 = .ok (.ireturn, 1) := by decide +kernel
theorem dX13_findName_0 : decode cX13_findName 0 = .ok (.aload_n 0, 1) := by decide +kernel
theorem dX13_findName_1 : decode cX13_findName 1 = .ok (.invokevirtual 61, 3) := by decide +kernel
theorem dX13_findName_4 : decode cX13_findName 4 = .ok (.aload_n 0, 1) := by decide +kernel
theorem dX13_findName_5 : decode cX13_findName 5 = .ok (.iload_n 1, 1) := by decide +kernel
theorem dX13_findName_6 : decode cX13_findName 6 = .ok (.i2l, 1) := by decide +kernel
theorem dX13_findName_7 : decode cX13_findName 7 = .ok (.ldc2_w 178, 3) := by decide +kernel
theorem dX13_findName_10 : decode cX13_findName 10 = .ok (.ldc2_w 180, 3) := by decide +kernel
theorem dX13_findName_13 : decode cX13_findName 13 = .ok (.invokestatic 13, 3) := by decide +kernel
theorem dX13_findName_16 : decode cX13_findName 16 = .ok (.ifCond .ne 7, 3) := by decide +kernel
theorem dX13_findName_19 : decode cX13_findName 19 = .ok (.iconst 1, 1) := by decide +kernel
theorem dX13_findName_20 : decode cX13_findName 20 = .ok (.goto 4, 3) := by decide +kernel
theorem dX13_findName_23 : decode cX13_findName 23 = .ok (.iconst 0, 1) := by decide +kernel
theorem dX13_findName_24 : decode cX13_findName 24 = .ok (.iconst 1, 1) := by decide +kernel
theorem dX13_findName_25 : decode cX13_findName 25 = .ok (.invokevirtual 57, 3) := by decide +kernel
theorem dX13_findName_28 : decode cX13_findName 28 = .ok (.ifCond .ne 25, 3) := by decide +kernel
theorem dX13_findName_31 : decode cX13_findName 31 = .ok (.aload_n 0, 1) := by decide +kernel
theorem dX13_findName_32 : decode cX13_findName 32 = .ok (.aload_n 0, 1) := by decide +kernel
theorem dX13_findName_33 : decode cX13_findName 33 = .ok (.iload_n 1, 1) := by decide +kernel
theorem dX13_findName_34 : decode cX13_findName 34 = .ok (.invokevirtual 182, 3) := by decide +kernel
theorem dX13_findName_37 : decode cX13_findName 37 = .ok (.iconst (-1), 1) := by decide +kernel
theorem dX13_findName_38 : decode cX13_findName 38 = .ok (.if_icmp .ne 7, 3) := by decide +kernel
theorem dX13_findName_41 : decode cX13_findName 41 = .ok (.iconst 1, 1) := by decide +kernel
theorem dX13_findName_42 : decode cX13_findName 42 = .ok (.goto 4, 3) := by decide +kernel
theorem dX13_findName_45 : decode cX13_findName 45 = .ok (.iconst 0, 1) := by decide +kernel
theorem dX13_findName_46 : decode cX13_findName 46 = .ok (.iconst 2, 1) := by decide +kernel
theorem dX13_findName_47 : decode cX13_findName 47 = .ok (.invokevirtual 57, 3) := by decide +kernel
theorem dX13_findName_50 : decode cX13_findName 50 = .ok (.ifCond .eq 7, 3) := by decide +kernel
theorem dX13_findName_53 : decode cX13_findName 53 = .ok (.iconst (-1), 1) := by decide +kernel
theorem dX13_findName_54 : decode cX13_findName 54 = .ok (.goto 8, 3) := by decide +kernel
theorem dX13_findName_57 : decode cX13_findName 57 = .ok (.aload_n 0, 1) := by decide +kernel
theorem dX13_findName_58 : decode cX13_findName 58 = .ok (.iload_n 1, 1) := by decide +kernel
theorem dX13_findName_59 : decode cX13_findName 59 = .ok (.invokevirtual 182, 3) := by decide +kernel
theorem dX13_findName_62 : decode cX13_findName 62 = .ok (.ireturn, 1) := by decide +kernel
theorem dX13_isGone_0 : decode cX13_isGone 0 = .ok (.aload_n 0, 1) := by decide +kernel
theorem dX13_isGone_1 : decode cX13_isGone 1 = .ok (.iload_n 1, 1) := by decide +kernel
theorem dX13_isGone_2 : decode cX13_isGone 2 = .ok (.invokevirtual 175, 3) := by decide +kernel
theorem dX13_isGone_5 : decode cX13_isGone 5 = .ok (.ifCond .ne 30, 3) := by decide +kernel
theorem dX13_isGone_8 : decode cX13_isGone 8 = .ok (.aload_n 0, 1) := by decide +kernel
theorem dX13_isGone_9 : decode cX13_isGone 9 = .ok (.aload_n 0, 1) := by decide +kernel
theorem dX13_isGone_10 : decode cX13_isGone 10 = .ok (.getfield 34, 3) := by decide +kernel
theorem dX13_isGone_13 : decode cX13_isGone 13 = .ok (.getfield 139, 3) := by decide +kernel
theorem dX13_isGone_16 : decode cX13_isGone 16 = .ok (.iload_n 1, 1) := by decide +kernel
theorem dX13_isGone_17 : decode cX13_isGone 17 = .ok (.invokeinterface 163 2, 5) := by decide +kernel
theorem dX13_isGone_22 : decode cX13_isGone 22 = .ok (.checkcast 128, 3) := by decide +kernel
theorem dX13_isGone_25 : decode cX13_isGone 25 = .ok (.getfield 167, 3) := by decide +kernel
theorem dX13_isGone_28 : decode cX13_isGone 28 = .ok (.iconst 2, 1) := by decide +kernel
theorem dX13_isGone_29 : decode cX13_isGone 29 = .ok (.invokevirtual 57, 3) := by decide +kernel
theorem dX13_isGone_32 : decode cX13_isGone 32 = .ok (.ifCond .eq 7, 3) := by decide +kernel
theorem dX13_isGone_35 : decode cX13_isGone 35 = .ok (.iconst 1, 1) := by decide +kernel
theorem dX13_isGone_36 : decode cX13_isGone 36 = .ok (.goto 4, 3) := by decide +kernel
theorem dX13_isGone_39 : decode cX13_isGone 39 = .ok (.iconst 0, 1) := by decide +kernel
theorem dX13_isGone_40 : decode cX13_isGone 40 = .ok (.ireturn, 1) := by decide +kernel
theorem dX13_getLongitude_0 : decode cX13_getLongitude 0 = .ok (.aload_n 0, 1) := by decide +kernel
theorem dX13_getLongitude_1 : decode cX13_getLongitude 1 = .ok (.invokevirtual 61, 3) := by decide +kernel
theorem dX13_getLongitude_4 : decode cX13_getLongitude 4 = .ok (.aload_n 0, 1) := by decide +kernel
theorem dX13_getLongitude_5 : decode cX13_getLongitude 5 = .ok (.iload_n 1, 1) := by decide +kernel
theorem dX13_getLongitude_6 : decode cX13_getLongitude 6 = .ok (.invokevirtual 186, 3) := by decide +kernel
theorem dX13_getLongitude_9 : decode cX13_getLongitude 9 = .ok (.ifCond .eq 7, 3) := by decide +kernel
theorem dX13_getLongitude_12 : decode cX13_getLongitude 12 = .ok (.iconst (-1), 1) := by decide +kernel
theorem dX13_getLongitude_13 : decode cX13_getLongitude 13 = .ok (.goto 22, 3) := by decide +kernel
theorem dX13_getLongitude_16 : decode cX13_getLongitude 16 = .ok (.aload_n 0, 1) := by decide +kernel
theorem dX13_getLongitude_17 : decode cX13_getLongitude 17 = .ok (.getfield 34, 3) := by decide +kernel
theorem dX13_getLongitude_20 : decode cX13_getLongitude 20 = .ok (.getfield 139, 3) := by decide +kernel
theorem dX13_getLongitude_23 : decode cX13_getLongitude 23 = .ok (.iload_n 1, 1) := by decide +kernel
theorem dX13_getLongitude_24 : decode cX13_getLongitude 24 = .ok (.invokeinterface 163 2, 5) := by decide +kernel
theorem dX13_getLongitude_29 : decode cX13_getLongitude 29 = .ok (.checkcast 128, 3) := by decide +kernel
theorem dX13_getLongitude_32 : decode cX13_getLongitude 32 = .ok (.getfield 134, 3) := by decide +kernel
theorem dX13_getLongitude_35 : decode cX13_getLongitude 35 = .ok (.ireturn, 1) := by decide +kernel
theorem dX13_getSize_0 : decode cX13_getSize 0 = .ok (.aload_n 0, 1) := by decide +kernel
theorem dX13_getSize_1 : decode cX13_getSize 1 = .ok (.invokevirtual 61, 3) := by decide +kernel
theorem dX13_getSize_4 : decode cX13_getSize 4 = .ok (.aload_n 0, 1) := by decide +kernel
theorem dX13_getSize_5 : decode cX13_getSize 5 = .ok (.iload_n 1, 1) := by decide +kernel
theorem dX13_getSize_6 : decode cX13_getSize 6 = .ok (.invokevirtual 186, 3) := by decide +kernel
theorem dX13_getSize_9 : decode cX13_getSize 9 = .ok (.ifCond .eq 7, 3) := by decide +kernel
theorem dX13_getSize_12 : decode cX13_getSize 12 = .ok (.iconst (-1), 1) := by decide +kernel
theorem dX13_getSize_13 : decode cX13_getSize 13 = .ok (.goto 22, 3) := by decide +kernel
theorem dX13_getSize_16 : decode cX13_getSize 16 = .ok (.aload_n 0, 1) := by decide +kernel
theorem dX13_getSize_17 : decode cX13_getSize 17 = .ok (.getfield 34, 3) := by decide +kernel
theorem dX13_getSize_20 : decode cX13_getSize 20 = .ok (.getfield 139, 3) := by decide +kernel
theorem dX13_getSize_23 : decode cX13_getSize 23 = .ok (.iload_n 1, 1) := by decide +kernel
theorem dX13_getSize_24 : decode cX13_getSize 24 = .ok (.invokeinterface 163 2, 5) := by decide +kernel
theorem dX13_getSize_29 : decode cX13_getSize 29 = .ok (.checkcast 128, 3) := by decide +kernel
theorem dX13_getSize_32 : decode cX13_getSize 32 = .ok (.getfield 137, 3) := by decide +kernel
theorem dX13_getSize_35 : decode cX13_getSize 35 = .ok (.ireturn, 1) := by decide +kernel
theorem dX13_getAge_0 : decode cX13_getAge 0 = .ok (.aload_n 0, 1) := by decide +kernel
theorem dX13_getAge_1 : decode cX13_getAge 1 = .ok (.invokevirtual 61, 3) := by decide +kernel
theorem dX13_getAge_4 : decode cX13_getAge 4 = .ok (.aload_n 0, 1) := by decide +kernel
theorem dX13_getAge_5 : decode cX13_getAge 5 = .ok (.iload_n 1, 1) := by decide +kernel
theorem dX13_getAge_6 : decode cX13_getAge 6 = .ok (.invokevirtual 175, 3) := by decide +kernel
theorem dX13_getAge_9 : decode cX13_getAge 9 = .ok (.ifCond .eq 7, 3) := by decide +kernel
theorem dX13_getAge_12 : decode cX13_getAge 12 = .ok (.iconst (-1), 1) := by decide +kernel
theorem dX13_getAge_13 : decode cX13_getAge 13 = .ok (.goto 22, 3) := by decide +kernel
theorem dX13_getAge_16 : decode cX13_getAge 16 = .ok (.aload_n 0, 1) := by decide +kernel
theorem dX13_getAge_17 : decode cX13_getAge 17 = .ok (.getfield 34, 3) := by decide +kernel
theorem dX13_getAge_20 : decode cX13_getAge 20 = .ok (.getfield 139, 3) := by decide +kernel
theorem dX13_getAge_23 : decode cX13_getAge 23 = .ok (.iload_n 1, 1) := by decide +kernel
theorem dX13_getAge_24 : decode cX13_getAge 24 = .ok (.invokeinterface 163 2, 5) := by decide +kernel
theorem dX13_getAge_29 : decode cX13_getAge 29 = .ok (.checkcast 128, 3) := by decide +kernel
theorem dX13_getAge_32 : decode cX13_getAge 32 = .ok (.getfield 189, 3) := by decide +kernel
theorem dX13_getAge_35 : decode cX13_getAge 35 = .ok (.ireturn, 1) := by decide +kernel
theorem dX13_isThere_0 : decode cX13_isThere 0 = .ok (.aload_n 0, 1) := by decide +kernel
theorem dX13_isThere_1 : decode cX13_isThere 1 = .ok (.invokevirtual 61, 3) := by decide +kernel
theorem dX13_isThere_4 : decode cX13_isThere 4 = .ok (.aload_n 0, 1) := by decide +kernel
theorem dX13_isThere_5 : decode cX13_isThere 5 = .ok (.iload_n 1, 1) := by decide +kernel
theorem dX13_isThere_6 : decode cX13_isThere 6 = .ok (.invokevirtual 175, 3) := by decide +kernel
theorem dX13_isThere_9 : decode cX13_isThere 9 = .ok (.ifCond .ne 29, 3) := by decide +kernel
theorem dX13_isThere_12 : decode cX13_isThere 12 = .ok (.aload_n 0, 1) := by decide +kernel
theorem dX13_isThere_13 : decode cX13_isThere 13 = .ok (.getfield 34, 3) := by decide +kernel
theorem dX13_isThere_16 : decode cX13_isThere 16 = .ok (.getfield 139, 3) := by decide +kernel
theorem dX13_isThere_19 : decode cX13_isThere 19 = .ok (.iload_n 1, 1) := by decide +kernel
theorem dX13_isThere_20 : decode cX13_isThere 20 = .ok (.invokeinterface 163 2, 5) := by decide +kernel
theorem dX13_isThere_25 : decode cX13_isThere 25 = .ok (.checkcast 128, 3) := by decide +kernel
theorem dX13_isThere_28 : decode cX13_isThere 28 = .ok (.getfield 167, 3) := by decide +kernel
theorem dX13_isThere_31 : decode cX13_isThere 31 = .ok (.ifCond .ne 7, 3) := by decide +kernel
theorem dX13_isThere_34 : decode cX13_isThere 34 = .ok (.iconst 1, 1) := by decide +kernel
theorem dX13_isThere_35 : decode cX13_isThere 35 = .ok (.goto 4, 3) := by decide +kernel
theorem dX13_isThere_38 : decode cX13_isThere 38 = .ok (.iconst 0, 1) := by decide +kernel
theorem dX13_isThere_39 : decode cX13_isThere 39 = .ok (.ireturn, 1) := by decide +kernel
theorem dX13_livesIn_0 : decode cX13_livesIn 0 = .ok (.aload_n 0, 1) := by decide +kernel
theorem dX13_livesIn_1 : decode cX13_livesIn 1 = .ok (.invokevirtual 61, 3) := by decide +kernel
theorem dX13_livesIn_4 : decode cX13_livesIn 4 = .ok (.aload_n 0, 1) := by decide +kernel
theorem dX13_livesIn_5 : decode cX13_livesIn 5 = .ok (.iload_n 1, 1) := by decide +kernel
theorem dX13_livesIn_6 : decode cX13_livesIn 6 = .ok (.invokevirtual 175, 3) := by decide +kernel
theorem dX13_livesIn_9 : decode cX13_livesIn 9 = .ok (.ifCond .eq 5, 3) := by decide +kernel
theorem dX13_livesIn_12 : decode cX13_livesIn 12 = .ok (.iconst (-1), 1) := by decide +kernel
theorem dX13_livesIn_13 : decode cX13_livesIn 13 = .ok (.ireturn, 1) := by decide +kernel
theorem dX13_livesIn_14 : decode cX13_livesIn 14 = .ok (.iload_n 1, 1) := by decide +kernel
theorem dX13_livesIn_15 : decode cX13_livesIn 15 = .ok (.istore_n 2, 1) := by decide +kernel
theorem dX13_livesIn_16 : decode cX13_livesIn 16 = .ok (.iload_n 2, 1) := by decide +kernel
theorem dX13_livesIn_17 : decode cX13_livesIn 17 = .ok (.iconst (-1), 1) := by decide +kernel
theorem dX13_livesIn_18 : decode cX13_livesIn 18 = .ok (.if_icmp .eq 48, 3) := by decide +kernel
theorem dX13_livesIn_21 : decode cX13_livesIn 21 = .ok (.aload_n 0, 1) := by decide +kernel
theorem dX13_livesIn_22 : decode cX13_livesIn 22 = .ok (.getfield 34, 3) := by decide +kernel
theorem dX13_livesIn_25 : decode cX13_livesIn 25 = .ok (.getfield 139, 3) := by decide +kernel
theorem dX13_livesIn_28 : decode cX13_livesIn 28 = .ok (.iload_n 2, 1) := by decide +kernel
theorem dX13_livesIn_29 : decode cX13_livesIn 29 = .ok (.invokeinterface 163 2, 5) := by decide +kernel
theorem dX13_livesIn_34 : decode cX13_livesIn 34 = .ok (.checkcast 128, 3) := by decide +kernel
theorem dX13_livesIn_37 : decode cX13_livesIn 37 = .ok (.getfield 167, 3) := by decide +kernel
theorem dX13_livesIn_40 : decode cX13_livesIn 40 = .ok (.ifCond .eq 26, 3) := by decide +kernel
theorem dX13_livesIn_43 : decode cX13_livesIn 43 = .ok (.aload_n 0, 1) := by decide +kernel
theorem dX13_livesIn_44 : decode cX13_livesIn 44 = .ok (.getfield 34, 3) := by decide +kernel
theorem dX13_livesIn_47 : decode cX13_livesIn 47 = .ok (.getfield 139, 3) := by decide +kernel
theorem dX13_livesIn_50 : decode cX13_livesIn 50 = .ok (.iload_n 2, 1) := by decide +kernel
theorem dX13_livesIn_51 : decode cX13_livesIn 51 = .ok (.invokeinterface 163 2, 5) := by decide +kernel
theorem dX13_livesIn_56 : decode cX13_livesIn 56 = .ok (.checkcast 128, 3) := by decide +kernel
theorem dX13_livesIn_59 : decode cX13_livesIn 59 = .ok (.getfield 192, 3) := by decide +kernel
theorem dX13_livesIn_62 : decode cX13_livesIn 62 = .ok (.istore_n 2, 1) := by decide +kernel
theorem dX13_livesIn_63 : decode cX13_livesIn 63 = .ok (.goto (-47), 3) := by decide +kernel
theorem dX13_livesIn_66 : decode cX13_livesIn 66 = .ok (.aload_n 0, 1) := by decide +kernel
theorem dX13_livesIn_67 : decode cX13_livesIn 67 = .ok (.iload_n 2, 1) := by decide +kernel
theorem dX13_livesIn_68 : decode cX13_livesIn 68 = .ok (.iconst (-1), 1) := by decide +kernel
theorem dX13_livesIn_69 : decode cX13_livesIn 69 = .ok (.if_icmp .ne 7, 3) := by decide +kernel
theorem dX13_livesIn_72 : decode cX13_livesIn 72 = .ok (.iconst 1, 1) := by decide +kernel
theorem dX13_livesIn_73 : decode cX13_livesIn 73 = .ok (.goto 4, 3) := by decide +kernel
theorem dX13_livesIn_76 : decode cX13_livesIn 76 = .ok (.iconst 0, 1) := by decide +kernel
theorem dX13_livesIn_77 : decode cX13_livesIn 77 = .ok (.iconst 2, 1) := by decide +kernel
theorem dX13_livesIn_78 : decode cX13_livesIn 78 = .ok (.invokevirtual 57, 3) := by decide +kernel
theorem dX13_livesIn_81 : decode cX13_livesIn 81 = .ok (.ifCond .eq 7, 3) := by decide +kernel
theorem dX13_livesIn_84 : decode cX13_livesIn 84 = .ok (.iconst (-1), 1) := by decide +kernel
theorem dX13_livesIn_85 : decode cX13_livesIn 85 = .ok (.goto 4, 3) := by decide +kernel
theorem dX13_livesIn_88 : decode cX13_livesIn 88 = .ok (.iload_n 2, 1) := by decide +kernel
theorem dX13_livesIn_89 : decode cX13_livesIn 89 = .ok (.ireturn, 1) := by decide +kernel
theorem dX13_burst_0 : decode cX13_burst 0 = .ok (.aload_n 0, 1) := by decide +kernel
theorem dX13_burst_1 : decode cX13_burst 1 = .ok (.invokevirtual 61, 3) := by decide +kernel
theorem dX13_burst_4 : decode cX13_burst 4 = .ok (.aload_n 0, 1) := by decide +kernel
theorem dX13_burst_5 : decode cX13_burst 5 = .ok (.getfield 34, 3) := by decide +kernel
theorem dX13_burst_8 : decode cX13_burst 8 = .ok (.getfield 51, 3) := by decide +kernel
theorem dX13_burst_11 : decode cX13_burst 11 = .ok (.bipush 9, 2) := by decide +kernel
theorem dX13_burst_13 : decode cX13_burst 13 = .ok (.iaload, 1) := by decide +kernel
theorem dX13_burst_14 : decode cX13_burst 14 = .ok (.aload_n 0, 1) := by decide +kernel
theorem dX13_burst_15 : decode cX13_burst 15 = .ok (.getfield 34, 3) := by decide +kernel
theorem dX13_burst_18 : decode cX13_burst 18 = .ok (.getfield 51, 3) := by decide +kernel
theorem dX13_burst_21 : decode cX13_burst 21 = .ok (.iconst 0, 1) := by decide +kernel
theorem dX13_burst_22 : decode cX13_burst 22 = .ok (.iaload, 1) := by decide +kernel
theorem dX13_burst_23 : decode cX13_burst 23 = .ok (.isub, 1) := by decide +kernel
theorem dX13_burst_24 : decode cX13_burst 24 = .ok (.sipush 200, 3) := by decide +kernel
theorem dX13_burst_27 : decode cX13_burst 27 = .ok (.if_icmp .lt 7, 3) := by decide +kernel
theorem dX13_burst_30 : decode cX13_burst 30 = .ok (.iconst 1, 1) := by decide +kernel
theorem dX13_burst_31 : decode cX13_burst 31 = .ok (.goto 4, 3) := by decide +kernel
theorem dX13_burst_34 : decode cX13_burst 34 = .ok (.iconst 0, 1) := by decide +kernel
theorem dX13_burst_35 : decode cX13_burst 35 = .ok (.istore_n 3, 1) := by decide +kernel
theorem dX13_burst_36 : decode cX13_burst 36 = .ok (.aload_n 0, 1) := by decide +kernel
theorem dX13_burst_37 : decode cX13_burst 37 = .ok (.iload_n 1, 1) := by decide +kernel
theorem dX13_burst_38 : decode cX13_burst 38 = .ok (.invokevirtual 102, 3) := by decide +kernel
theorem dX13_burst_41 : decode cX13_burst 41 = .ok (.ifCond .ne 70, 3) := by decide +kernel
theorem dX13_burst_44 : decode cX13_burst 44 = .ok (.aload_n 0, 1) := by decide +kernel
theorem dX13_burst_45 : decode cX13_burst 45 = .ok (.iload_n 2, 1) := by decide +kernel
theorem dX13_burst_46 : decode cX13_burst 46 = .ok (.invokestatic 148, 3) := by decide +kernel
theorem dX13_burst_49 : decode cX13_burst 49 = .ok (.ifCond .ne 7, 3) := by decide +kernel
theorem dX13_burst_52 : decode cX13_burst 52 = .ok (.iconst 1, 1) := by decide +kernel
theorem dX13_burst_53 : decode cX13_burst 53 = .ok (.goto 4, 3) := by decide +kernel
theorem dX13_burst_56 : decode cX13_burst 56 = .ok (.iconst 0, 1) := by decide +kernel
theorem dX13_burst_57 : decode cX13_burst 57 = .ok (.iconst 2, 1) := by decide +kernel
theorem dX13_burst_58 : decode cX13_burst 58 = .ok (.invokevirtual 57, 3) := by decide +kernel
theorem dX13_burst_61 : decode cX13_burst 61 = .ok (.ifCond .ne 50, 3) := by decide +kernel
theorem dX13_burst_64 : decode cX13_burst 64 = .ok (.aload_n 0, 1) := by decide +kernel
theorem dX13_burst_65 : decode cX13_burst 65 = .ok (.iload_n 3, 1) := by decide +kernel
theorem dX13_burst_66 : decode cX13_burst 66 = .ok (.ifCond .ne 7, 3) := by decide +kernel
theorem dX13_burst_69 : decode cX13_burst 69 = .ok (.iconst 1, 1) := by decide +kernel
theorem dX13_burst_70 : decode cX13_burst 70 = .ok (.goto 4, 3) := by decide +kernel
theorem dX13_burst_73 : decode cX13_burst 73 = .ok (.iconst 0, 1) := by decide +kernel
theorem dX13_burst_74 : decode cX13_burst 74 = .ok (.iconst 3, 1) := by decide +kernel
theorem dX13_burst_75 : decode cX13_burst 75 = .ok (.invokevirtual 57, 3) := by decide +kernel
theorem dX13_burst_78 : decode cX13_burst 78 = .ok (.ifCond .ne 33, 3) := by decide +kernel
theorem dX13_burst_81 : decode cX13_burst 81 = .ok (.aload_n 0, 1) := by decide +kernel
theorem dX13_burst_82 : decode cX13_burst 82 = .ok (.aload_n 0, 1) := by decide +kernel
theorem dX13_burst_83 : decode cX13_burst 83 = .ok (.getfield 34, 3) := by decide +kernel
theorem dX13_burst_86 : decode cX13_burst 86 = .ok (.getfield 139, 3) := by decide +kernel
theorem dX13_burst_89 : decode cX13_burst 89 = .ok (.invokeinterface 7 1, 5) := by decide +kernel
theorem dX13_burst_94 : decode cX13_burst 94 = .ok (.bipush 12, 2) := by decide +kernel
theorem dX13_burst_96 : decode cX13_burst 96 = .ok (.if_icmp .ne 7, 3) := by decide +kernel
theorem dX13_burst_99 : decode cX13_burst 99 = .ok (.iconst 1, 1) := by decide +kernel
theorem dX13_burst_100 : decode cX13_burst 100 = .ok (.goto 4, 3) := by decide +kernel
theorem dX13_burst_103 : decode cX13_burst 103 = .ok (.iconst 0, 1) := by decide +kernel
theorem dX13_burst_104 : decode cX13_burst 104 = .ok (.iconst 4, 1) := by decide +kernel
theorem dX13_burst_105 : decode cX13_burst 105 = .ok (.invokevirtual 57, 3) := by decide +kernel
theorem dX13_burst_108 : decode cX13_burst 108 = .ok (.ifCond .eq 5, 3) := by decide +kernel
theorem dX13_burst_111 : decode cX13_burst 111 = .ok (.iconst (-1), 1) := by decide +kernel
theorem dX13_burst_112 : decode cX13_burst 112 = .ok (.ireturn, 1) := by decide +kernel
theorem dX13_burst_113 : decode cX13_burst 113 = .ok (.iconst 0, 1) := by decide +kernel
theorem dX13_burst_114 : decode cX13_burst 114 = .ok (.istore 4, 2) := by decide +kernel
theorem dX13_burst_116 : decode cX13_burst 116 = .ok (.iload 4, 2) := by decide +kernel
theorem dX13_burst_118 : decode cX13_burst 118 = .ok (.iconst 3, 1) := by decide +kernel
theorem dX13_burst_119 : decode cX13_burst 119 = .ok (.if_icmp .ge 61, 3) := by decide +kernel
theorem dX13_burst_122 : decode cX13_burst 122 = .ok (.aload_n 0, 1) := by decide +kernel
theorem dX13_burst_123 : decode cX13_burst 123 = .ok (.getfield 34, 3) := by decide +kernel
theorem dX13_burst_126 : decode cX13_burst 126 = .ok (.getfield 80, 3) := by decide +kernel
theorem dX13_burst_129 : decode cX13_burst 129 = .ok (.bipush 9, 2) := by decide +kernel
theorem dX13_burst_131 : decode cX13_burst 131 = .ok (.aaload, 1) := by decide +kernel
theorem dX13_burst_132 : decode cX13_burst 132 = .ok (.iload 4, 2) := by decide +kernel
theorem dX13_burst_134 : decode cX13_burst 134 = .ok (.iaload, 1) := by decide +kernel
theorem dX13_burst_135 : decode cX13_burst 135 = .ok (.iconst 2, 1) := by decide +kernel
theorem dX13_burst_136 : decode cX13_burst 136 = .ok (.idiv, 1) := by decide +kernel
theorem dX13_burst_137 : decode cX13_burst 137 = .ok (.istore 5, 2) := by decide +kernel
theorem dX13_burst_139 : decode cX13_burst 139 = .ok (.aload_n 0, 1) := by decide +kernel
theorem dX13_burst_140 : decode cX13_burst 140 = .ok (.getfield 34, 3) := by decide +kernel
theorem dX13_burst_143 : decode cX13_burst 143 = .ok (.getfield 80, 3) := by decide +kernel
theorem dX13_burst_146 : decode cX13_burst 146 = .ok (.bipush 9, 2) := by decide +kernel
theorem dX13_burst_148 : decode cX13_burst 148 = .ok (.aaload, 1) := by decide +kernel
theorem dX13_burst_149 : decode cX13_burst 149 = .ok (.iload 4, 2) := by decide +kernel
theorem dX13_burst_151 : decode cX13_burst 151 = .ok (.dup2, 1) := by decide +kernel
theorem dX13_burst_152 : decode cX13_burst 152 = .ok (.iaload, 1) := by decide +kernel
theorem dX13_burst_153 : decode cX13_burst 153 = .ok (.iload 5, 2) := by decide +kernel
theorem dX13_burst_155 : decode cX13_burst 155 = .ok (.isub, 1) := by decide +kernel
theorem dX13_burst_156 : decode cX13_burst 156 = .ok (.iastore, 1) := by decide +kernel
theorem dX13_burst_157 : decode cX13_burst 157 = .ok (.aload_n 0, 1) := by decide +kernel
theorem dX13_burst_158 : decode cX13_burst 158 = .ok (.getfield 34, 3) := by decide +kernel
theorem dX13_burst_161 : decode cX13_burst 161 = .ok (.getfield 80, 3) := by decide +kernel
theorem dX13_burst_164 : decode cX13_burst 164 = .ok (.iconst 3, 1) := by decide +kernel
theorem dX13_burst_165 : decode cX13_burst 165 = .ok (.aaload, 1) := by decide +kernel
theorem dX13_burst_166 : decode cX13_burst 166 = .ok (.iload 4, 2) := by decide +kernel
theorem dX13_burst_168 : decode cX13_burst 168 = .ok (.dup2, 1) := by decide +kernel
theorem dX13_burst_169 : decode cX13_burst 169 = .ok (.iaload, 1) := by decide +kernel
theorem dX13_burst_170 : decode cX13_burst 170 = .ok (.iload 5, 2) := by decide +kernel
theorem dX13_burst_172 : decode cX13_burst 172 = .ok (.iadd, 1) := by decide +kernel
theorem dX13_burst_173 : decode cX13_burst 173 = .ok (.iastore, 1) := by decide +kernel
theorem dX13_burst_174 : decode cX13_burst 174 = .ok (.iinc 4 1, 3) := by decide +kernel
theorem dX13_burst_177 : decode cX13_burst 177 = .ok (.goto (-61), 3) := by decide +kernel
theorem dX13_burst_180 : decode cX13_burst 180 = .ok (.aload_n 0, 1) := by decide +kernel
theorem dX13_burst_181 : decode cX13_burst 181 = .ok (.iload_n 1, 1) := by decide +kernel
theorem dX13_burst_182 : decode cX13_burst 182 = .ok (.iload_n 2, 1) := by decide +kernel
theorem dX13_burst_183 : decode cX13_burst 183 = .ok (.bipush 60, 2) := by decide +kernel
theorem dX13_burst_185 : decode cX13_burst 185 = .ok (.invokevirtual 155, 3) := by decide +kernel
theorem dX13_burst_188 : decode cX13_burst 188 = .ok (.istore 4, 2) := by decide +kernel
theorem dX13_burst_190 : decode cX13_burst 190 = .ok (.aload_n 0, 1) := by decide +kernel
theorem dX13_burst_191 : decode cX13_burst 191 = .ok (.getfield 34, 3) := by decide +kernel
theorem dX13_burst_194 : decode cX13_burst 194 = .ok (.bipush 112, 2) := by decide +kernel
theorem dX13_burst_196 : decode cX13_burst 196 = .ok (.iload 4, 2) := by decide +kernel
theorem dX13_burst_198 : decode cX13_burst 198 = .ok (.invokevirtual 195, 3) := by decide +kernel
theorem dX13_burst_201 : decode cX13_burst 201 = .ok (.iload 4, 2) := by decide +kernel
theorem dX13_burst_203 : decode cX13_burst 203 = .ok (.ireturn, 1) := by decide +kernel
theorem dX13_strike_0 : decode cX13_strike 0 = .ok (.aload_n 0, 1) := by decide +kernel
theorem dX13_strike_1 : decode cX13_strike 1 = .ok (.invokevirtual 61, 3) := by decide +kernel
theorem dX13_strike_4 : decode cX13_strike 4 = .ok (.aload_n 0, 1) := by decide +kernel
theorem dX13_strike_5 : decode cX13_strike 5 = .ok (.iload_n 1, 1) := by decide +kernel
theorem dX13_strike_6 : decode cX13_strike 6 = .ok (.invokevirtual 102, 3) := by decide +kernel
theorem dX13_strike_9 : decode cX13_strike 9 = .ok (.ifCond .ne 65, 3) := by decide +kernel
theorem dX13_strike_12 : decode cX13_strike 12 = .ok (.aload_n 0, 1) := by decide +kernel
theorem dX13_strike_13 : decode cX13_strike 13 = .ok (.iload_n 2, 1) := by decide +kernel
theorem dX13_strike_14 : decode cX13_strike 14 = .ok (.invokestatic 148, 3) := by decide +kernel
theorem dX13_strike_17 : decode cX13_strike 17 = .ok (.ifCond .eq 15, 3) := by decide +kernel
theorem dX13_strike_20 : decode cX13_strike 20 = .ok (.iload_n 3, 1) := by decide +kernel
theorem dX13_strike_21 : decode cX13_strike 21 = .ok (.i2l, 1) := by decide +kernel
theorem dX13_strike_22 : decode cX13_strike 22 = .ok (.lconst 1, 1) := by decide +kernel
theorem dX13_strike_23 : decode cX13_strike 23 = .ok (.ldc2_w 199, 3) := by decide +kernel
theorem dX13_strike_26 : decode cX13_strike 26 = .ok (.invokestatic 13, 3) := by decide +kernel
theorem dX13_strike_29 : decode cX13_strike 29 = .ok (.ifCond .ne 7, 3) := by decide +kernel
theorem dX13_strike_32 : decode cX13_strike 32 = .ok (.iconst 1, 1) := by decide +kernel
theorem dX13_strike_33 : decode cX13_strike 33 = .ok (.goto 4, 3) := by decide +kernel
theorem dX13_strike_36 : decode cX13_strike 36 = .ok (.iconst 0, 1) := by decide +kernel
theorem dX13_strike_37 : decode cX13_strike 37 = .ok (.iconst 2, 1) := by decide +kernel
theorem dX13_strike_38 : decode cX13_strike 38 = .ok (.invokevirtual 57, 3) := by decide +kernel
theorem dX13_strike_41 : decode cX13_strike 41 = .ok (.ifCond .ne 33, 3) := by decide +kernel
theorem dX13_strike_44 : decode cX13_strike 44 = .ok (.aload_n 0, 1) := by decide +kernel
theorem dX13_strike_45 : decode cX13_strike 45 = .ok (.aload_n 0, 1) := by decide +kernel
theorem dX13_strike_46 : decode cX13_strike 46 = .ok (.getfield 34, 3) := by decide +kernel
theorem dX13_strike_49 : decode cX13_strike 49 = .ok (.getfield 201, 3) := by decide +kernel
theorem dX13_strike_52 : decode cX13_strike 52 = .ok (.invokeinterface 7 1, 5) := by decide +kernel
theorem dX13_strike_57 : decode cX13_strike 57 = .ok (.bipush 8, 2) := by decide +kernel
theorem dX13_strike_59 : decode cX13_strike 59 = .ok (.if_icmp .ne 7, 3) := by decide +kernel
theorem dX13_strike_62 : decode cX13_strike 62 = .ok (.iconst 1, 1) := by decide +kernel
theorem dX13_strike_63 : decode cX13_strike 63 = .ok (.goto 4, 3) := by decide +kernel
theorem dX13_strike_66 : decode cX13_strike 66 = .ok (.iconst 0, 1) := by decide +kernel
theorem dX13_strike_67 : decode cX13_strike 67 = .ok (.iconst 3, 1) := by decide +kernel
theorem dX13_strike_68 : decode cX13_strike 68 = .ok (.invokevirtual 57, 3) := by decide +kernel
theorem dX13_strike_71 : decode cX13_strike 71 = .ok (.ifCond .eq 5, 3) := by decide +kernel
theorem dX13_strike_74 : decode cX13_strike 74 = .ok (.iconst (-1), 1) := by decide +kernel
theorem dX13_strike_75 : decode cX13_strike 75 = .ok (.ireturn, 1) := by decide +kernel
theorem dX13_strike_76 : decode cX13_strike 76 = .ok (.aload_n 0, 1) := by decide +kernel
theorem dX13_strike_77 : decode cX13_strike 77 = .ok (.getfield 34, 3) := by decide +kernel
theorem dX13_strike_80 : decode cX13_strike 80 = .ok (.getfield 201, 3) := by decide +kernel
theorem dX13_strike_83 : decode cX13_strike 83 = .ok (.iconst 3, 1) := by decide +kernel
theorem dX13_strike_84 : decode cX13_strike 84 = .ok (.newarray .int, 2) := by decide +kernel
theorem dX13_strike_86 : decode cX13_strike 86 = .ok (.dup, 1) := by decide +kernel
theorem dX13_strike_87 : decode cX13_strike 87 = .ok (.iconst 0, 1) := by decide +kernel
theorem dX13_strike_88 : decode cX13_strike 88 = .ok (.iload_n 1, 1) := by decide +kernel
theorem dX13_strike_89 : decode cX13_strike 89 = .ok (.iastore, 1) := by decide +kernel
theorem dX13_strike_90 : decode cX13_strike 90 = .ok (.dup, 1) := by decide +kernel
theorem dX13_strike_91 : decode cX13_strike 91 = .ok (.iconst 1, 1) := by decide +kernel
theorem dX13_strike_92 : decode cX13_strike 92 = .ok (.iload_n 3, 1) := by decide +kernel
theorem dX13_strike_93 : decode cX13_strike 93 = .ok (.iastore, 1) := by decide +kernel
theorem dX13_strike_94 : decode cX13_strike 94 = .ok (.dup, 1) := by decide +kernel
theorem dX13_strike_95 : decode cX13_strike 95 = .ok (.iconst 2, 1) := by decide +kernel
theorem dX13_strike_96 : decode cX13_strike 96 = .ok (.iload_n 3, 1) := by decide +kernel
theorem dX13_strike_97 : decode cX13_strike 97 = .ok (.iastore, 1) := by decide +kernel
theorem dX13_strike_98 : decode cX13_strike 98 = .ok (.invokeinterface 142 2, 5) := by decide +kernel
theorem dX13_strike_103 : decode cX13_strike 103 = .ok (.pop, 1) := by decide +kernel
theorem dX13_strike_104 : decode cX13_strike 104 = .ok (.aload_n 0, 1) := by decide +kernel
theorem dX13_strike_105 : decode cX13_strike 105 = .ok (.getfield 34, 3) := by decide +kernel
theorem dX13_strike_108 : decode cX13_strike 108 = .ok (.bipush 107, 2) := by decide +kernel
theorem dX13_strike_110 : decode cX13_strike 110 = .ok (.aload_n 0, 1) := by decide +kernel
theorem dX13_strike_111 : decode cX13_strike 111 = .ok (.getfield 34, 3) := by decide +kernel
theorem dX13_strike_114 : decode cX13_strike 114 = .ok (.getfield 201, 3) := by decide +kernel
theorem dX13_strike_117 : decode cX13_strike 117 = .ok (.invokeinterface 7 1, 5) := by decide +kernel
theorem dX13_strike_122 : decode cX13_strike 122 = .ok (.iconst 1, 1) := by decide +kernel
theorem dX13_strike_123 : decode cX13_strike 123 = .ok (.isub, 1) := by decide +kernel
theorem dX13_strike_124 : decode cX13_strike 124 = .ok (.invokevirtual 195, 3) := by decide +kernel
theorem dX13_strike_127 : decode cX13_strike 127 = .ok (.aload_n 0, 1) := by decide +kernel
theorem dX13_strike_128 : decode cX13_strike 128 = .ok (.getfield 34, 3) := by decide +kernel
theorem dX13_strike_131 : decode cX13_strike 131 = .ok (.getfield 201, 3) := by decide +kernel
theorem dX13_strike_134 : decode cX13_strike 134 = .ok (.invokeinterface 7 1, 5) := by decide +kernel
theorem dX13_strike_139 : decode cX13_strike 139 = .ok (.iconst 1, 1) := by decide +kernel
theorem dX13_strike_140 : decode cX13_strike 140 = .ok (.isub, 1) := by decide +kernel
theorem dX13_strike_141 : decode cX13_strike 141 = .ok (.ireturn, 1) := by decide +kernel
theorem dX13_noScar_0 : decode cX13_noScar 0 = .ok (.aload_n 0, 1) := by decide +kernel
theorem dX13_noScar_1 : decode cX13_noScar 1 = .ok (.aload_n 0, 1) := by decide +kernel
theorem dX13_noScar_2 : decode cX13_noScar 2 = .ok (.getfield 34, 3) := by decide +kernel
theorem dX13_noScar_5 : decode cX13_noScar 5 = .ok (.getfield 201, 3) := by decide +kernel
theorem dX13_noScar_8 : decode cX13_noScar 8 = .ok (.iload_n 1, 1) := by decide +kernel
theorem dX13_noScar_9 : decode cX13_noScar 9 = .ok (.invokestatic 159, 3) := by decide +kernel
theorem dX13_noScar_12 : decode cX13_noScar 12 = .ok (.ifCond .ne 7, 3) := by decide +kernel
theorem dX13_noScar_15 : decode cX13_noScar 15 = .ok (.iconst 1, 1) := by decide +kernel
theorem dX13_noScar_16 : decode cX13_noScar 16 = .ok (.goto 4, 3) := by decide +kernel
theorem dX13_noScar_19 : decode cX13_noScar 19 = .ok (.iconst 0, 1) := by decide +kernel
theorem dX13_noScar_20 : decode cX13_noScar 20 = .ok (.iconst 1, 1) := by decide +kernel
theorem dX13_noScar_21 : decode cX13_noScar 21 = .ok (.invokevirtual 57, 3) := by decide +kernel
theorem dX13_noScar_24 : decode cX13_noScar 24 = .ok (.ireturn, 1) := by decide +kernel
theorem dX13_getWidth_0 : decode cX13_getWidth 0 = .ok (.aload_n 0, 1) := by decide +kernel
theorem dX13_getWidth_1 : decode cX13_getWidth 1 = .ok (.invokevirtual 61, 3) := by decide +kernel
theorem dX13_getWidth_4 : decode cX13_getWidth 4 = .ok (.aload_n 0, 1) := by decide +kernel
theorem dX13_getWidth_5 : decode cX13_getWidth 5 = .ok (.iload_n 1, 1) := by decide +kernel
theorem dX13_getWidth_6 : decode cX13_getWidth 6 = .ok (.invokevirtual 204, 3) := by decide +kernel
theorem dX13_getWidth_9 : decode cX13_getWidth 9 = .ok (.ifCond .eq 7, 3) := by decide +kernel
theorem dX13_getWidth_12 : decode cX13_getWidth 12 = .ok (.iconst (-1), 1) := by decide +kernel
theorem dX13_getWidth_13 : decode cX13_getWidth 13 = .ok (.goto 21, 3) := by decide +kernel
theorem dX13_getWidth_16 : decode cX13_getWidth 16 = .ok (.aload_n 0, 1) := by decide +kernel
theorem dX13_getWidth_17 : decode cX13_getWidth 17 = .ok (.getfield 34, 3) := by decide +kernel
theorem dX13_getWidth_20 : decode cX13_getWidth 20 = .ok (.getfield 201, 3) := by decide +kernel
theorem dX13_getWidth_23 : decode cX13_getWidth 23 = .ok (.iload_n 1, 1) := by decide +kernel
theorem dX13_getWidth_24 : decode cX13_getWidth 24 = .ok (.invokeinterface 163 2, 5) := by decide +kernel
theorem dX13_getWidth_29 : decode cX13_getWidth 29 = .ok (.checkcast 207, 3) := by decide +kernel
theorem dX13_getWidth_32 : decode cX13_getWidth 32 = .ok (.iconst 2, 1) := by decide +kernel
theorem dX13_getWidth_33 : decode cX13_getWidth 33 = .ok (.iaload, 1) := by decide +kernel
theorem dX13_getWidth_34 : decode cX13_getWidth 34 = .ok (.ireturn, 1) := by decide +kernel
theorem dX13_scarTurns_0 : decode cX13_scarTurns 0 = .ok (.aload_n 0, 1) := by decide +kernel
theorem dX13_scarTurns_1 : decode cX13_scarTurns 1 = .ok (.invokevirtual 61, 3) := by decide +kernel
theorem dX13_scarTurns_4 : decode cX13_scarTurns 4 = .ok (.aload_n 0, 1) := by decide +kernel
theorem dX13_scarTurns_5 : decode cX13_scarTurns 5 = .ok (.iload_n 1, 1) := by decide +kernel
theorem dX13_scarTurns_6 : decode cX13_scarTurns 6 = .ok (.invokevirtual 204, 3) := by decide +kernel
theorem dX13_scarTurns_9 : decode cX13_scarTurns 9 = .ok (.ifCond .eq 5, 3) := by decide +kernel
theorem dX13_scarTurns_12 : decode cX13_scarTurns 12 = .ok (.iconst (-1), 1) := by decide +kernel
theorem dX13_scarTurns_13 : decode cX13_scarTurns 13 = .ok (.ireturn, 1) := by decide +kernel
theorem dX13_scarTurns_14 : decode cX13_scarTurns 14 = .ok (.aload_n 0, 1) := by decide +kernel
theorem dX13_scarTurns_15 : decode cX13_scarTurns 15 = .ok (.getfield 34, 3) := by decide +kernel
theorem dX13_scarTurns_18 : decode cX13_scarTurns 18 = .ok (.getfield 201, 3) := by decide +kernel
theorem dX13_scarTurns_21 : decode cX13_scarTurns 21 = .ok (.iload_n 1, 1) := by decide +kernel
theorem dX13_scarTurns_22 : decode cX13_scarTurns 22 = .ok (.invokeinterface 163 2, 5) := by decide +kernel
theorem dX13_scarTurns_27 : decode cX13_scarTurns 27 = .ok (.checkcast 207, 3) := by decide +kernel
theorem dX13_scarTurns_30 : decode cX13_scarTurns 30 = .ok (.astore_n 2, 1) := by decide +kernel
theorem dX13_scarTurns_31 : decode cX13_scarTurns 31 = .ok (.aload_n 2, 1) := by decide +kernel
theorem dX13_scarTurns_32 : decode cX13_scarTurns 32 = .ok (.iconst 2, 1) := by decide +kernel
theorem dX13_scarTurns_33 : decode cX13_scarTurns 33 = .ok (.iaload, 1) := by decide +kernel
theorem dX13_scarTurns_34 : decode cX13_scarTurns 34 = .ok (.aload_n 2, 1) := by decide +kernel
theorem dX13_scarTurns_35 : decode cX13_scarTurns 35 = .ok (.iconst 1, 1) := by decide +kernel
theorem dX13_scarTurns_36 : decode cX13_scarTurns 36 = .ok (.iaload, 1) := by decide +kernel
theorem dX13_scarTurns_37 : decode cX13_scarTurns 37 = .ok (.isub, 1) := by decide +kernel
theorem dX13_scarTurns_38 : decode cX13_scarTurns 38 = .ok (.iconst 1, 1) := by decide +kernel
theorem dX13_scarTurns_39 : decode cX13_scarTurns 39 = .ok (.aload_n 0, 1) := by decide +kernel
theorem dX13_scarTurns_40 : decode cX13_scarTurns 40 = .ok (.getfield 34, 3) := by decide +kernel
theorem dX13_scarTurns_43 : decode cX13_scarTurns 43 = .ok (.aload_n 2, 1) := by decide +kernel
theorem dX13_scarTurns_44 : decode cX13_scarTurns 44 = .ok (.iconst 0, 1) := by decide +kernel
theorem dX13_scarTurns_45 : decode cX13_scarTurns 45 = .ok (.iaload, 1) := by decide +kernel
theorem dX13_scarTurns_46 : decode cX13_scarTurns 46 = .ok (.invokevirtual 116, 3) := by decide +kernel
theorem dX13_scarTurns_49 : decode cX13_scarTurns 49 = .ok (.bipush 20, 2) := by decide +kernel
theorem dX13_scarTurns_51 : decode cX13_scarTurns 51 = .ok (.idiv, 1) := by decide +kernel
theorem dX13_scarTurns_52 : decode cX13_scarTurns 52 = .ok (.iadd, 1) := by decide +kernel
theorem dX13_scarTurns_53 : decode cX13_scarTurns 53 = .ok (.idiv, 1) := by decide +kernel
theorem dX13_scarTurns_54 : decode cX13_scarTurns 54 = .ok (.ireturn, 1) := by decide +kernel
theorem dX13_turn_0 : decode cX13_turn 0 = .ok (.aload_n 0, 1) := by decide +kernel
theorem dX13_turn_1 : decode cX13_turn 1 = .ok (.invokevirtual 61, 3) := by decide +kernel
theorem dX13_turn_4 : decode cX13_turn 4 = .ok (.aload_n 0, 1) := by decide +kernel
theorem dX13_turn_5 : decode cX13_turn 5 = .ok (.iload_n 1, 1) := by decide +kernel
theorem dX13_turn_6 : decode cX13_turn 6 = .ok (.i2l, 1) := by decide +kernel
theorem dX13_turn_7 : decode cX13_turn 7 = .ok (.lconst 1, 1) := by decide +kernel
theorem dX13_turn_8 : decode cX13_turn 8 = .ok (.ldc2_w 208, 3) := by decide +kernel
theorem dX13_turn_11 : decode cX13_turn 11 = .ok (.invokestatic 13, 3) := by decide +kernel
theorem dX13_turn_14 : decode cX13_turn 14 = .ok (.ifCond .ne 7, 3) := by decide +kernel
theorem dX13_turn_17 : decode cX13_turn 17 = .ok (.iconst 1, 1) := by decide +kernel
theorem dX13_turn_18 : decode cX13_turn 18 = .ok (.goto 4, 3) := by decide +kernel
theorem dX13_turn_21 : decode cX13_turn 21 = .ok (.iconst 0, 1) := by decide +kernel
theorem dX13_turn_22 : decode cX13_turn 22 = .ok (.iconst 1, 1) := by decide +kernel
theorem dX13_turn_23 : decode cX13_turn 23 = .ok (.invokevirtual 57, 3) := by decide +kernel
theorem dX13_turn_26 : decode cX13_turn 26 = .ok (.ifCond .eq 5, 3) := by decide +kernel
theorem dX13_turn_29 : decode cX13_turn 29 = .ok (.iconst (-1), 1) := by decide +kernel
theorem dX13_turn_30 : decode cX13_turn 30 = .ok (.ireturn, 1) := by decide +kernel
theorem dX13_turn_31 : decode cX13_turn 31 = .ok (.iconst 0, 1) := by decide +kernel
theorem dX13_turn_32 : decode cX13_turn 32 = .ok (.istore_n 2, 1) := by decide +kernel
theorem dX13_turn_33 : decode cX13_turn 33 = .ok (.iload_n 2, 1) := by decide +kernel
theorem dX13_turn_34 : decode cX13_turn 34 = .ok (.iload_n 1, 1) := by decide +kernel
theorem dX13_turn_35 : decode cX13_turn 35 = .ok (.if_icmp .ge 16, 3) := by decide +kernel
theorem dX13_turn_38 : decode cX13_turn 38 = .ok (.aload_n 0, 1) := by decide +kernel
theorem dX13_turn_39 : decode cX13_turn 39 = .ok (.getfield 34, 3) := by decide +kernel
theorem dX13_turn_42 : decode cX13_turn 42 = .ok (.invokevirtual 210, 3) := by decide +kernel
theorem dX13_turn_45 : decode cX13_turn 45 = .ok (.iinc 2 1, 3) := by decide +kernel
theorem dX13_turn_48 : decode cX13_turn 48 = .ok (.goto (-15), 3) := by decide +kernel
theorem dX13_turn_51 : decode cX13_turn 51 = .ok (.aload_n 0, 1) := by decide +kernel
theorem dX13_turn_52 : decode cX13_turn 52 = .ok (.getfield 34, 3) := by decide +kernel
theorem dX13_turn_55 : decode cX13_turn 55 = .ok (.getfield 213, 3) := by decide +kernel
theorem dX13_turn_58 : decode cX13_turn 58 = .ok (.ireturn, 1) := by decide +kernel
theorem dX13_dropProbe_0 : decode cX13_dropProbe 0 = .ok (.aload_n 0, 1) := by decide +kernel
theorem dX13_dropProbe_1 : decode cX13_dropProbe 1 = .ok (.invokevirtual 61, 3) := by decide +kernel
theorem dX13_dropProbe_4 : decode cX13_dropProbe 4 = .ok (.aload_n 0, 1) := by decide +kernel
theorem dX13_dropProbe_5 : decode cX13_dropProbe 5 = .ok (.iload_n 1, 1) := by decide +kernel
theorem dX13_dropProbe_6 : decode cX13_dropProbe 6 = .ok (.i2l, 1) := by decide +kernel
theorem dX13_dropProbe_7 : decode cX13_dropProbe 7 = .ok (.lconst 1, 1) := by decide +kernel
theorem dX13_dropProbe_8 : decode cX13_dropProbe 8 = .ok (.ldc2_w 55, 3) := by decide +kernel
theorem dX13_dropProbe_11 : decode cX13_dropProbe 11 = .ok (.invokestatic 13, 3) := by decide +kernel
theorem dX13_dropProbe_14 : decode cX13_dropProbe 14 = .ok (.ifCond .eq 27, 3) := by decide +kernel
theorem dX13_dropProbe_17 : decode cX13_dropProbe 17 = .ok (.iload_n 2, 1) := by decide +kernel
theorem dX13_dropProbe_18 : decode cX13_dropProbe 18 = .ok (.i2l, 1) := by decide +kernel
theorem dX13_dropProbe_19 : decode cX13_dropProbe 19 = .ok (.lconst 1, 1) := by decide +kernel
theorem dX13_dropProbe_20 : decode cX13_dropProbe 20 = .ok (.ldc2_w 216, 3) := by decide +kernel
theorem dX13_dropProbe_23 : decode cX13_dropProbe 23 = .ok (.invokestatic 13, 3) := by decide +kernel
theorem dX13_dropProbe_26 : decode cX13_dropProbe 26 = .ok (.ifCond .eq 15, 3) := by decide +kernel
theorem dX13_dropProbe_29 : decode cX13_dropProbe 29 = .ok (.iload_n 3, 1) := by decide +kernel
theorem dX13_dropProbe_30 : decode cX13_dropProbe 30 = .ok (.i2l, 1) := by decide +kernel
theorem dX13_dropProbe_31 : decode cX13_dropProbe 31 = .ok (.lconst 1, 1) := by decide +kernel
theorem dX13_dropProbe_32 : decode cX13_dropProbe 32 = .ok (.ldc2_w 218, 3) := by decide +kernel
theorem dX13_dropProbe_35 : decode cX13_dropProbe 35 = .ok (.invokestatic 13, 3) := by decide +kernel
theorem dX13_dropProbe_38 : decode cX13_dropProbe 38 = .ok (.ifCond .ne 7, 3) := by decide +kernel
theorem dX13_dropProbe_41 : decode cX13_dropProbe 41 = .ok (.iconst 1, 1) := by decide +kernel
theorem dX13_dropProbe_42 : decode cX13_dropProbe 42 = .ok (.goto 4, 3) := by decide +kernel
theorem dX13_dropProbe_45 : decode cX13_dropProbe 45 = .ok (.iconst 0, 1) := by decide +kernel
theorem dX13_dropProbe_46 : decode cX13_dropProbe 46 = .ok (.iconst 1, 1) := by decide +kernel
theorem dX13_dropProbe_47 : decode cX13_dropProbe 47 = .ok (.invokevirtual 57, 3) := by decide +kernel
theorem dX13_dropProbe_50 : decode cX13_dropProbe 50 = .ok (.ifCond .ne 29, 3) := by decide +kernel
theorem dX13_dropProbe_53 : decode cX13_dropProbe 53 = .ok (.aload_n 0, 1) := by decide +kernel
theorem dX13_dropProbe_54 : decode cX13_dropProbe 54 = .ok (.aload_n 0, 1) := by decide +kernel
theorem dX13_dropProbe_55 : decode cX13_dropProbe 55 = .ok (.getfield 45, 3) := by decide +kernel
theorem dX13_dropProbe_58 : decode cX13_dropProbe 58 = .ok (.invokeinterface 7 1, 5) := by decide +kernel
theorem dX13_dropProbe_63 : decode cX13_dropProbe 63 = .ok (.iconst 4, 1) := by decide +kernel
theorem dX13_dropProbe_64 : decode cX13_dropProbe 64 = .ok (.if_icmp .ne 7, 3) := by decide +kernel
theorem dX13_dropProbe_67 : decode cX13_dropProbe 67 = .ok (.iconst 1, 1) := by decide +kernel
theorem dX13_dropProbe_68 : decode cX13_dropProbe 68 = .ok (.goto 4, 3) := by decide +kernel
theorem dX13_dropProbe_71 : decode cX13_dropProbe 71 = .ok (.iconst 0, 1) := by decide +kernel
theorem dX13_dropProbe_72 : decode cX13_dropProbe 72 = .ok (.iconst 2, 1) := by decide +kernel
theorem dX13_dropProbe_73 : decode cX13_dropProbe 73 = .ok (.invokevirtual 57, 3) := by decide +kernel
theorem dX13_dropProbe_76 : decode cX13_dropProbe 76 = .ok (.ifCond .eq 5, 3) := by decide +kernel
theorem dX13_dropProbe_79 : decode cX13_dropProbe 79 = .ok (.iconst (-1), 1) := by decide +kernel
theorem dX13_dropProbe_80 : decode cX13_dropProbe 80 = .ok (.ireturn, 1) := by decide +kernel
theorem dX13_dropProbe_81 : decode cX13_dropProbe 81 = .ok (.new 220, 3) := by decide +kernel
theorem dX13_dropProbe_84 : decode cX13_dropProbe 84 = .ok (.dup, 1) := by decide +kernel
theorem dX13_dropProbe_85 : decode cX13_dropProbe 85 = .ok (.invokespecial 222, 3) := by decide +kernel
theorem dX13_dropProbe_88 : decode cX13_dropProbe 88 = .ok (.astore 5, 2) := by decide +kernel
theorem dX13_dropProbe_90 : decode cX13_dropProbe 90 = .ok (.aload 5, 2) := by decide +kernel
theorem dX13_dropProbe_92 : decode cX13_dropProbe 92 = .ok (.iload_n 1, 1) := by decide +kernel
theorem dX13_dropProbe_93 : decode cX13_dropProbe 93 = .ok (.putfield 223, 3) := by decide +kernel
theorem dX13_dropProbe_96 : decode cX13_dropProbe 96 = .ok (.aload 5, 2) := by decide +kernel
theorem dX13_dropProbe_98 : decode cX13_dropProbe 98 = .ok (.iload_n 2, 1) := by decide +kernel
theorem dX13_dropProbe_99 : decode cX13_dropProbe 99 = .ok (.putfield 226, 3) := by decide +kernel
theorem dX13_dropProbe_102 : decode cX13_dropProbe 102 = .ok (.aload 5, 2) := by decide +kernel
theorem dX13_dropProbe_104 : decode cX13_dropProbe 104 = .ok (.iload_n 3, 1) := by decide +kernel
theorem dX13_dropProbe_105 : decode cX13_dropProbe 105 = .ok (.putfield 229, 3) := by decide +kernel
theorem dX13_dropProbe_108 : decode cX13_dropProbe 108 = .ok (.aload 5, 2) := by decide +kernel
theorem dX13_dropProbe_110 : decode cX13_dropProbe 110 = .ok (.iload 4, 2) := by decide +kernel
theorem dX13_dropProbe_112 : decode cX13_dropProbe 112 = .ok (.putfield 232, 3) := by decide +kernel
theorem dX13_dropProbe_115 : decode cX13_dropProbe 115 = .ok (.aload_n 0, 1) := by decide +kernel
theorem dX13_dropProbe_116 : decode cX13_dropProbe 116 = .ok (.getfield 45, 3) := by decide +kernel
theorem dX13_dropProbe_119 : decode cX13_dropProbe 119 = .ok (.aload 5, 2) := by decide +kernel
theorem dX13_dropProbe_121 : decode cX13_dropProbe 121 = .ok (.invokeinterface 142 2, 5) := by decide +kernel
theorem dX13_dropProbe_126 : decode cX13_dropProbe 126 = .ok (.pop, 1) := by decide +kernel
theorem dX13_dropProbe_127 : decode cX13_dropProbe 127 = .ok (.aload_n 0, 1) := by decide +kernel
theorem dX13_dropProbe_128 : decode cX13_dropProbe 128 = .ok (.getfield 45, 3) := by decide +kernel
theorem dX13_dropProbe_131 : decode cX13_dropProbe 131 = .ok (.invokeinterface 7 1, 5) := by decide +kernel
theorem dX13_dropProbe_136 : decode cX13_dropProbe 136 = .ok (.iconst 1, 1) := by decide +kernel
theorem dX13_dropProbe_137 : decode cX13_dropProbe 137 = .ok (.isub, 1) := by decide +kernel
theorem dX13_dropProbe_138 : decode cX13_dropProbe 138 = .ok (.ireturn, 1) := by decide +kernel
theorem dX13_noProbe_0 : decode cX13_noProbe 0 = .ok (.aload_n 0, 1) := by decide +kernel
theorem dX13_noProbe_1 : decode cX13_noProbe 1 = .ok (.aload_n 0, 1) := by decide +kernel
theorem dX13_noProbe_2 : decode cX13_noProbe 2 = .ok (.getfield 45, 3) := by decide +kernel
theorem dX13_noProbe_5 : decode cX13_noProbe 5 = .ok (.iload_n 1, 1) := by decide +kernel
theorem dX13_noProbe_6 : decode cX13_noProbe 6 = .ok (.invokestatic 159, 3) := by decide +kernel
theorem dX13_noProbe_9 : decode cX13_noProbe 9 = .ok (.ifCond .ne 7, 3) := by decide +kernel
theorem dX13_noProbe_12 : decode cX13_noProbe 12 = .ok (.iconst 1, 1) := by decide +kernel
theorem dX13_noProbe_13 : decode cX13_noProbe 13 = .ok (.goto 4, 3) := by decide +kernel
theorem dX13_noProbe_16 : decode cX13_noProbe 16 = .ok (.iconst 0, 1) := by decide +kernel
theorem dX13_noProbe_17 : decode cX13_noProbe 17 = .ok (.iconst 1, 1) := by decide +kernel
theorem dX13_noProbe_18 : decode cX13_noProbe 18 = .ok (.invokevirtual 57, 3) := by decide +kernel
theorem dX13_noProbe_21 : decode cX13_noProbe 21 = .ok (.ireturn, 1) := by decide +kernel
theorem dX13_tick_0 : decode cX13_tick 0 = .ok (.aload_n 0, 1) := by decide +kernel
theorem dX13_tick_1 : decode cX13_tick 1 = .ok (.invokevirtual 61, 3) := by decide +kernel
theorem dX13_tick_4 : decode cX13_tick 4 = .ok (.aload_n 0, 1) := by decide +kernel
theorem dX13_tick_5 : decode cX13_tick 5 = .ok (.iload_n 1, 1) := by decide +kernel
theorem dX13_tick_6 : decode cX13_tick 6 = .ok (.invokevirtual 235, 3) := by decide +kernel
theorem dX13_tick_9 : decode cX13_tick 9 = .ok (.ifCond .ne 27, 3) := by decide +kernel
theorem dX13_tick_12 : decode cX13_tick 12 = .ok (.aload_n 0, 1) := by decide +kernel
theorem dX13_tick_13 : decode cX13_tick 13 = .ok (.aload_n 0, 1) := by decide +kernel
theorem dX13_tick_14 : decode cX13_tick 14 = .ok (.getfield 45, 3) := by decide +kernel
theorem dX13_tick_17 : decode cX13_tick 17 = .ok (.iload_n 1, 1) := by decide +kernel
theorem dX13_tick_18 : decode cX13_tick 18 = .ok (.invokeinterface 163 2, 5) := by decide +kernel
theorem dX13_tick_23 : decode cX13_tick 23 = .ok (.checkcast 220, 3) := by decide +kernel
theorem dX13_tick_26 : decode cX13_tick 26 = .ok (.getfield 238, 3) := by decide +kernel
theorem dX13_tick_29 : decode cX13_tick 29 = .ok (.iconst 2, 1) := by decide +kernel
theorem dX13_tick_30 : decode cX13_tick 30 = .ok (.invokevirtual 57, 3) := by decide +kernel
theorem dX13_tick_33 : decode cX13_tick 33 = .ok (.ifCond .eq 5, 3) := by decide +kernel
theorem dX13_tick_36 : decode cX13_tick 36 = .ok (.iconst (-1), 1) := by decide +kernel
theorem dX13_tick_37 : decode cX13_tick 37 = .ok (.ireturn, 1) := by decide +kernel
theorem dX13_tick_38 : decode cX13_tick 38 = .ok (.aload_n 0, 1) := by decide +kernel
theorem dX13_tick_39 : decode cX13_tick 39 = .ok (.getfield 45, 3) := by decide +kernel
theorem dX13_tick_42 : decode cX13_tick 42 = .ok (.iload_n 1, 1) := by decide +kernel
theorem dX13_tick_43 : decode cX13_tick 43 = .ok (.invokeinterface 163 2, 5) := by decide +kernel
theorem dX13_tick_48 : decode cX13_tick 48 = .ok (.checkcast 220, 3) := by decide +kernel
theorem dX13_tick_51 : decode cX13_tick 51 = .ok (.astore_n 2, 1) := by decide +kernel
theorem dX13_tick_52 : decode cX13_tick 52 = .ok (.aload_n 2, 1) := by decide +kernel
theorem dX13_tick_53 : decode cX13_tick 53 = .ok (.dup, 1) := by decide +kernel
theorem dX13_tick_54 : decode cX13_tick 54 = .ok (.getfield 241, 3) := by decide +kernel
theorem dX13_tick_57 : decode cX13_tick 57 = .ok (.iconst 1, 1) := by decide +kernel
theorem dX13_tick_58 : decode cX13_tick 58 = .ok (.iadd, 1) := by decide +kernel
theorem dX13_tick_59 : decode cX13_tick 59 = .ok (.putfield 241, 3) := by decide +kernel
theorem dX13_tick_62 : decode cX13_tick 62 = .ok (.iconst 0, 1) := by decide +kernel
theorem dX13_tick_63 : decode cX13_tick 63 = .ok (.istore_n 3, 1) := by decide +kernel
theorem dX13_tick_64 : decode cX13_tick 64 = .ok (.aload_n 0, 1) := by decide +kernel
theorem dX13_tick_65 : decode cX13_tick 65 = .ok (.getfield 34, 3) := by decide +kernel
theorem dX13_tick_68 : decode cX13_tick 68 = .ok (.getfield 84, 3) := by decide +kernel
theorem dX13_tick_71 : decode cX13_tick 71 = .ok (.aload_n 2, 1) := by decide +kernel
theorem dX13_tick_72 : decode cX13_tick 72 = .ok (.getfield 244, 3) := by decide +kernel
theorem dX13_tick_75 : decode cX13_tick 75 = .ok (.aaload, 1) := by decide +kernel
theorem dX13_tick_76 : decode cX13_tick 76 = .ok (.astore 4, 2) := by decide +kernel
theorem dX13_tick_78 : decode cX13_tick 78 = .ok (.aload 4, 2) := by decide +kernel
theorem dX13_tick_80 : decode cX13_tick 80 = .ok (.arraylength, 1) := by decide +kernel
theorem dX13_tick_81 : decode cX13_tick 81 = .ok (.istore 5, 2) := by decide +kernel
theorem dX13_tick_83 : decode cX13_tick 83 = .ok (.iconst 0, 1) := by decide +kernel
theorem dX13_tick_84 : decode cX13_tick 84 = .ok (.istore 6, 2) := by decide +kernel
theorem dX13_tick_86 : decode cX13_tick 86 = .ok (.iload 6, 2) := by decide +kernel
theorem dX13_tick_88 : decode cX13_tick 88 = .ok (.iload 5, 2) := by decide +kernel
theorem dX13_tick_90 : decode cX13_tick 90 = .ok (.if_icmp .ge 21, 3) := by decide +kernel
theorem dX13_tick_93 : decode cX13_tick 93 = .ok (.aload 4, 2) := by decide +kernel
theorem dX13_tick_95 : decode cX13_tick 95 = .ok (.iload 6, 2) := by decide +kernel
theorem dX13_tick_97 : decode cX13_tick 97 = .ok (.iaload, 1) := by decide +kernel
theorem dX13_tick_98 : decode cX13_tick 98 = .ok (.istore 7, 2) := by decide +kernel
theorem dX13_tick_100 : decode cX13_tick 100 = .ok (.iload_n 3, 1) := by decide +kernel
theorem dX13_tick_101 : decode cX13_tick 101 = .ok (.iload 7, 2) := by decide +kernel
theorem dX13_tick_103 : decode cX13_tick 103 = .ok (.iadd, 1) := by decide +kernel
theorem dX13_tick_104 : decode cX13_tick 104 = .ok (.istore_n 3, 1) := by decide +kernel
theorem dX13_tick_105 : decode cX13_tick 105 = .ok (.iinc 6 1, 3) := by decide +kernel
theorem dX13_tick_108 : decode cX13_tick 108 = .ok (.goto (-22), 3) := by decide +kernel
theorem dX13_tick_111 : decode cX13_tick 111 = .ok (.aload_n 0, 1) := by decide +kernel
theorem dX13_tick_112 : decode cX13_tick 112 = .ok (.getfield 34, 3) := by decide +kernel
theorem dX13_tick_115 : decode cX13_tick 115 = .ok (.getfield 51, 3) := by decide +kernel
theorem dX13_tick_118 : decode cX13_tick 118 = .ok (.aload_n 2, 1) := by decide +kernel
theorem dX13_tick_119 : decode cX13_tick 119 = .ok (.getfield 244, 3) := by decide +kernel
theorem dX13_tick_122 : decode cX13_tick 122 = .ok (.iaload, 1) := by decide +kernel
theorem dX13_tick_123 : decode cX13_tick 123 = .ok (.istore 4, 2) := by decide +kernel
theorem dX13_tick_125 : decode cX13_tick 125 = .ok (.aload_n 2, 1) := by decide +kernel
theorem dX13_tick_126 : decode cX13_tick 126 = .ok (.getfield 247, 3) := by decide +kernel
theorem dX13_tick_129 : decode cX13_tick 129 = .ok (.iconst 3, 1) := by decide +kernel
theorem dX13_tick_130 : decode cX13_tick 130 = .ok (.newarray .int, 2) := by decide +kernel
theorem dX13_tick_132 : decode cX13_tick 132 = .ok (.dup, 1) := by decide +kernel
theorem dX13_tick_133 : decode cX13_tick 133 = .ok (.iconst 0, 1) := by decide +kernel
theorem dX13_tick_134 : decode cX13_tick 134 = .ok (.aload_n 2, 1) := by decide +kernel
theorem dX13_tick_135 : decode cX13_tick 135 = .ok (.getfield 244, 3) := by decide +kernel
theorem dX13_tick_138 : decode cX13_tick 138 = .ok (.iastore, 1) := by decide +kernel
theorem dX13_tick_139 : decode cX13_tick 139 = .ok (.dup, 1) := by decide +kernel
theorem dX13_tick_140 : decode cX13_tick 140 = .ok (.iconst 1, 1) := by decide +kernel
theorem dX13_tick_141 : decode cX13_tick 141 = .ok (.iload 4, 2) := by decide +kernel
theorem dX13_tick_143 : decode cX13_tick 143 = .ok (.iastore, 1) := by decide +kernel
theorem dX13_tick_144 : decode cX13_tick 144 = .ok (.dup, 1) := by decide +kernel
theorem dX13_tick_145 : decode cX13_tick 145 = .ok (.iconst 2, 1) := by decide +kernel
theorem dX13_tick_146 : decode cX13_tick 146 = .ok (.iload_n 3, 1) := by decide +kernel
theorem dX13_tick_147 : decode cX13_tick 147 = .ok (.iastore, 1) := by decide +kernel
theorem dX13_tick_148 : decode cX13_tick 148 = .ok (.invokeinterface 142 2, 5) := by decide +kernel
theorem dX13_tick_153 : decode cX13_tick 153 = .ok (.pop, 1) := by decide +kernel
theorem dX13_tick_154 : decode cX13_tick 154 = .ok (.aload_n 2, 1) := by decide +kernel
theorem dX13_tick_155 : decode cX13_tick 155 = .ok (.getfield 247, 3) := by decide +kernel
theorem dX13_tick_158 : decode cX13_tick 158 = .ok (.invokeinterface 7 1, 5) := by decide +kernel
theorem dX13_tick_163 : decode cX13_tick 163 = .ok (.bipush 6, 2) := by decide +kernel
theorem dX13_tick_165 : decode cX13_tick 165 = .ok (.if_icmp .le 24, 3) := by decide +kernel
theorem dX13_tick_168 : decode cX13_tick 168 = .ok (.aload_n 2, 1) := by decide +kernel
theorem dX13_tick_169 : decode cX13_tick 169 = .ok (.getfield 247, 3) := by decide +kernel
theorem dX13_tick_172 : decode cX13_tick 172 = .ok (.iconst 0, 1) := by decide +kernel
theorem dX13_tick_173 : decode cX13_tick 173 = .ok (.invokeinterface 250 2, 5) := by decide +kernel
theorem dX13_tick_178 : decode cX13_tick 178 = .ok (.pop, 1) := by decide +kernel
theorem dX13_tick_179 : decode cX13_tick 179 = .ok (.aload_n 2, 1) := by decide +kernel
theorem dX13_tick_180 : decode cX13_tick 180 = .ok (.dup, 1) := by decide +kernel
theorem dX13_tick_181 : decode cX13_tick 181 = .ok (.getfield 253, 3) := by decide +kernel
theorem dX13_tick_184 : decode cX13_tick 184 = .ok (.iconst 1, 1) := by decide +kernel
theorem dX13_tick_185 : decode cX13_tick 185 = .ok (.iadd, 1) := by decide +kernel
theorem dX13_tick_186 : decode cX13_tick 186 = .ok (.putfield 253, 3) := by decide +kernel
theorem dX13_tick_189 : decode cX13_tick 189 = .ok (.iconst 0, 1) := by decide +kernel
theorem dX13_tick_190 : decode cX13_tick 190 = .ok (.istore 5, 2) := by decide +kernel
theorem dX13_tick_192 : decode cX13_tick 192 = .ok (.iload 5, 2) := by decide +kernel
theorem dX13_tick_194 : decode cX13_tick 194 = .ok (.aload_n 2, 1) := by decide +kernel
theorem dX13_tick_195 : decode cX13_tick 195 = .ok (.getfield 229, 3) := by decide +kernel
theorem dX13_tick_198 : decode cX13_tick 198 = .ok (.if_icmp .ge 76, 3) := by decide +kernel
theorem dX13_tick_201 : decode cX13_tick 201 = .ok (.aload_n 2, 1) := by decide +kernel
theorem dX13_tick_202 : decode cX13_tick 202 = .ok (.getfield 241, 3) := by decide +kernel
theorem dX13_tick_205 : decode cX13_tick 205 = .ok (.aload_n 2, 1) := by decide +kernel
theorem dX13_tick_206 : decode cX13_tick 206 = .ok (.getfield 226, 3) := by decide +kernel
theorem dX13_tick_209 : decode cX13_tick 209 = .ok (.if_icmp .gt 65, 3) := by decide +kernel
theorem dX13_tick_212 : decode cX13_tick 212 = .ok (.aload_n 2, 1) := by decide +kernel
theorem dX13_tick_213 : decode cX13_tick 213 = .ok (.getfield 247, 3) := by decide +kernel
theorem dX13_tick_216 : decode cX13_tick 216 = .ok (.invokeinterface 256 1, 5) := by decide +kernel
theorem dX13_tick_221 : decode cX13_tick 221 = .ok (.ifCond .ne 53, 3) := by decide +kernel
theorem dX13_tick_224 : decode cX13_tick 224 = .ok (.aload_n 2, 1) := by decide +kernel
theorem dX13_tick_225 : decode cX13_tick 225 = .ok (.getfield 260, 3) := by decide +kernel
theorem dX13_tick_228 : decode cX13_tick 228 = .ok (.aload_n 2, 1) := by decide +kernel
theorem dX13_tick_229 : decode cX13_tick 229 = .ok (.getfield 247, 3) := by decide +kernel
theorem dX13_tick_232 : decode cX13_tick 232 = .ok (.aload_n 2, 1) := by decide +kernel
theorem dX13_tick_233 : decode cX13_tick 233 = .ok (.getfield 232, 3) := by decide +kernel
theorem dX13_tick_236 : decode cX13_tick 236 = .ok (.ifCond .eq 7, 3) := by decide +kernel
theorem dX13_tick_239 : decode cX13_tick 239 = .ok (.iconst 0, 1) := by decide +kernel
theorem dX13_tick_240 : decode cX13_tick 240 = .ok (.goto 14, 3) := by decide +kernel
theorem dX13_tick_243 : decode cX13_tick 243 = .ok (.aload_n 2, 1) := by decide +kernel
theorem dX13_tick_244 : decode cX13_tick 244 = .ok (.getfield 247, 3) := by decide +kernel
theorem dX13_tick_247 : decode cX13_tick 247 = .ok (.invokeinterface 7 1, 5) := by decide +kernel
theorem dX13_tick_252 : decode cX13_tick 252 = .ok (.iconst 1, 1) := by decide +kernel
theorem dX13_tick_253 : decode cX13_tick 253 = .ok (.isub, 1) := by decide +kernel
theorem dX13_tick_254 : decode cX13_tick 254 = .ok (.invokeinterface 250 2, 5) := by decide +kernel
theorem dX13_tick_259 : decode cX13_tick 259 = .ok (.checkcast 207, 3) := by decide +kernel
theorem dX13_tick_262 : decode cX13_tick 262 = .ok (.invokeinterface 142 2, 5) := by decide +kernel
theorem dX13_tick_267 : decode cX13_tick 267 = .ok (.pop, 1) := by decide +kernel
theorem dX13_tick_268 : decode cX13_tick 268 = .ok (.iinc 5 1, 3) := by decide +kernel
theorem dX13_tick_271 : decode cX13_tick 271 = .ok (.goto (-79), 3) := by decide +kernel
theorem dX13_tick_274 : decode cX13_tick 274 = .ok (.aload_n 2, 1) := by decide +kernel
theorem dX13_tick_275 : decode cX13_tick 275 = .ok (.aload_n 2, 1) := by decide +kernel
theorem dX13_tick_276 : decode cX13_tick 276 = .ok (.getfield 244, 3) := by decide +kernel
theorem dX13_tick_279 : decode cX13_tick 279 = .ok (.bipush 9, 2) := by decide +kernel
theorem dX13_tick_281 : decode cX13_tick 281 = .ok (.if_icmp .eq 11, 3) := by decide +kernel
theorem dX13_tick_284 : decode cX13_tick 284 = .ok (.iload 4, 2) := by decide +kernel
theorem dX13_tick_286 : decode cX13_tick 286 = .ok (.sipush 600, 3) := by decide +kernel
theorem dX13_tick_289 : decode cX13_tick 289 = .ok (.if_icmp .le 7, 3) := by decide +kernel
theorem dX13_tick_292 : decode cX13_tick 292 = .ok (.iconst 1, 1) := by decide +kernel
theorem dX13_tick_293 : decode cX13_tick 293 = .ok (.goto 4, 3) := by decide +kernel
theorem dX13_tick_296 : decode cX13_tick 296 = .ok (.iconst 0, 1) := by decide +kernel
theorem dX13_tick_297 : decode cX13_tick 297 = .ok (.putfield 238, 3) := by decide +kernel
theorem dX13_tick_300 : decode cX13_tick 300 = .ok (.aload_n 2, 1) := by decide +kernel
theorem dX13_tick_301 : decode cX13_tick 301 = .ok (.dup, 1) := by decide +kernel
theorem dX13_tick_302 : decode cX13_tick 302 = .ok (.getfield 244, 3) := by decide +kernel
theorem dX13_tick_305 : decode cX13_tick 305 = .ok (.aload_n 2, 1) := by decide +kernel
theorem dX13_tick_306 : decode cX13_tick 306 = .ok (.getfield 238, 3) := by decide +kernel
theorem dX13_tick_309 : decode cX13_tick 309 = .ok (.ifCond .ne 27, 3) := by decide +kernel
theorem dX13_tick_312 : decode cX13_tick 312 = .ok (.aload_n 2, 1) := by decide +kernel
theorem dX13_tick_313 : decode cX13_tick 313 = .ok (.getfield 244, 3) := by decide +kernel
theorem dX13_tick_316 : decode cX13_tick 316 = .ok (.aload_n 2, 1) := by decide +kernel
theorem dX13_tick_317 : decode cX13_tick 317 = .ok (.getfield 223, 3) := by decide +kernel
theorem dX13_tick_320 : decode cX13_tick 320 = .ok (.if_icmp .ge 12, 3) := by decide +kernel
theorem dX13_tick_323 : decode cX13_tick 323 = .ok (.aload_n 2, 1) := by decide +kernel
theorem dX13_tick_324 : decode cX13_tick 324 = .ok (.getfield 241, 3) := by decide +kernel
theorem dX13_tick_327 : decode cX13_tick 327 = .ok (.iconst 2, 1) := by decide +kernel
theorem dX13_tick_328 : decode cX13_tick 328 = .ok (.irem, 1) := by decide +kernel
theorem dX13_tick_329 : decode cX13_tick 329 = .ok (.ifCond .ne 7, 3) := by decide +kernel
theorem dX13_tick_332 : decode cX13_tick 332 = .ok (.iconst 1, 1) := by decide +kernel
theorem dX13_tick_333 : decode cX13_tick 333 = .ok (.goto 4, 3) := by decide +kernel
theorem dX13_tick_336 : decode cX13_tick 336 = .ok (.iconst 0, 1) := by decide +kernel
theorem dX13_tick_337 : decode cX13_tick 337 = .ok (.iadd, 1) := by decide +kernel
theorem dX13_tick_338 : decode cX13_tick 338 = .ok (.putfield 244, 3) := by decide +kernel
theorem dX13_tick_341 : decode cX13_tick 341 = .ok (.aload_n 2, 1) := by decide +kernel
theorem dX13_tick_342 : decode cX13_tick 342 = .ok (.getfield 238, 3) := by decide +kernel
theorem dX13_tick_345 : decode cX13_tick 345 = .ok (.ifCond .eq 7, 3) := by decide +kernel
theorem dX13_tick_348 : decode cX13_tick 348 = .ok (.iconst (-1), 1) := by decide +kernel
theorem dX13_tick_349 : decode cX13_tick 349 = .ok (.goto 7, 3) := by decide +kernel
theorem dX13_tick_352 : decode cX13_tick 352 = .ok (.aload_n 2, 1) := by decide +kernel
theorem dX13_tick_353 : decode cX13_tick 353 = .ok (.getfield 244, 3) := by decide +kernel
theorem dX13_tick_356 : decode cX13_tick 356 = .ok (.ireturn, 1) := by decide +kernel
theorem dX13_sent_0 : decode cX13_sent 0 = .ok (.aload_n 0, 1) := by decide +kernel
theorem dX13_sent_1 : decode cX13_sent 1 = .ok (.invokevirtual 61, 3) := by decide +kernel
theorem dX13_sent_4 : decode cX13_sent 4 = .ok (.aload_n 0, 1) := by decide +kernel
theorem dX13_sent_5 : decode cX13_sent 5 = .ok (.iload_n 1, 1) := by decide +kernel
theorem dX13_sent_6 : decode cX13_sent 6 = .ok (.invokevirtual 235, 3) := by decide +kernel
theorem dX13_sent_9 : decode cX13_sent 9 = .ok (.ifCond .eq 7, 3) := by decide +kernel
theorem dX13_sent_12 : decode cX13_sent 12 = .ok (.iconst (-1), 1) := by decide +kernel
theorem dX13_sent_13 : decode cX13_sent 13 = .ok (.goto 24, 3) := by decide +kernel
theorem dX13_sent_16 : decode cX13_sent 16 = .ok (.aload_n 0, 1) := by decide +kernel
theorem dX13_sent_17 : decode cX13_sent 17 = .ok (.getfield 45, 3) := by decide +kernel
theorem dX13_sent_20 : decode cX13_sent 20 = .ok (.iload_n 1, 1) := by decide +kernel
theorem dX13_sent_21 : decode cX13_sent 21 = .ok (.invokeinterface 163 2, 5) := by decide +kernel
theorem dX13_sent_26 : decode cX13_sent 26 = .ok (.checkcast 220, 3) := by decide +kernel
theorem dX13_sent_29 : decode cX13_sent 29 = .ok (.getfield 260, 3) := by decide +kernel
theorem dX13_sent_32 : decode cX13_sent 32 = .ok (.invokeinterface 7 1, 5) := by decide +kernel
theorem dX13_sent_37 : decode cX13_sent 37 = .ok (.ireturn, 1) := by decide +kernel
theorem dX13_sentAt_0 : decode cX13_sentAt 0 = .ok (.aload_n 0, 1) := by decide +kernel
theorem dX13_sentAt_1 : decode cX13_sentAt 1 = .ok (.invokevirtual 61, 3) := by decide +kernel
theorem dX13_sentAt_4 : decode cX13_sentAt 4 = .ok (.aload_n 0, 1) := by decide +kernel
theorem dX13_sentAt_5 : decode cX13_sentAt 5 = .ok (.iload_n 1, 1) := by decide +kernel
theorem dX13_sentAt_6 : decode cX13_sentAt 6 = .ok (.invokevirtual 235, 3) := by decide +kernel
theorem dX13_sentAt_9 : decode cX13_sentAt 9 = .ok (.ifCond .ne 62, 3) := by decide +kernel
theorem dX13_sentAt_12 : decode cX13_sentAt 12 = .ok (.aload_n 0, 1) := by decide +kernel
theorem dX13_sentAt_13 : decode cX13_sentAt 13 = .ok (.ldc_w 263, 3) := by decide +kernel
theorem dX13_sentAt_16 : decode cX13_sentAt 16 = .ok (.iload_n 3, 1) := by decide +kernel
theorem dX13_sentAt_17 : decode cX13_sentAt 17 = .ok (.invokevirtual 265, 3) := by decide +kernel
theorem dX13_sentAt_20 : decode cX13_sentAt 20 = .ok (.ifCond .ge 7, 3) := by decide +kernel
theorem dX13_sentAt_23 : decode cX13_sentAt 23 = .ok (.iconst 1, 1) := by decide +kernel
theorem dX13_sentAt_24 : decode cX13_sentAt 24 = .ok (.goto 4, 3) := by decide +kernel
theorem dX13_sentAt_27 : decode cX13_sentAt 27 = .ok (.iconst 0, 1) := by decide +kernel
theorem dX13_sentAt_28 : decode cX13_sentAt 28 = .ok (.iconst 2, 1) := by decide +kernel
theorem dX13_sentAt_29 : decode cX13_sentAt 29 = .ok (.invokevirtual 57, 3) := by decide +kernel
theorem dX13_sentAt_32 : decode cX13_sentAt 32 = .ok (.ifCond .ne 39, 3) := by decide +kernel
theorem dX13_sentAt_35 : decode cX13_sentAt 35 = .ok (.aload_n 0, 1) := by decide +kernel
theorem dX13_sentAt_36 : decode cX13_sentAt 36 = .ok (.aload_n 0, 1) := by decide +kernel
theorem dX13_sentAt_37 : decode cX13_sentAt 37 = .ok (.getfield 45, 3) := by decide +kernel
theorem dX13_sentAt_40 : decode cX13_sentAt 40 = .ok (.iload_n 1, 1) := by decide +kernel
theorem dX13_sentAt_41 : decode cX13_sentAt 41 = .ok (.invokeinterface 163 2, 5) := by decide +kernel
theorem dX13_sentAt_46 : decode cX13_sentAt 46 = .ok (.checkcast 220, 3) := by decide +kernel
theorem dX13_sentAt_49 : decode cX13_sentAt 49 = .ok (.getfield 260, 3) := by decide +kernel
theorem dX13_sentAt_52 : decode cX13_sentAt 52 = .ok (.iload_n 2, 1) := by decide +kernel
theorem dX13_sentAt_53 : decode cX13_sentAt 53 = .ok (.invokestatic 159, 3) := by decide +kernel
theorem dX13_sentAt_56 : decode cX13_sentAt 56 = .ok (.ifCond .ne 7, 3) := by decide +kernel
theorem dX13_sentAt_59 : decode cX13_sentAt 59 = .ok (.iconst 1, 1) := by decide +kernel
theorem dX13_sentAt_60 : decode cX13_sentAt 60 = .ok (.goto 4, 3) := by decide +kernel
theorem dX13_sentAt_63 : decode cX13_sentAt 63 = .ok (.iconst 0, 1) := by decide +kernel
theorem dX13_sentAt_64 : decode cX13_sentAt 64 = .ok (.iconst 3, 1) := by decide +kernel
theorem dX13_sentAt_65 : decode cX13_sentAt 65 = .ok (.invokevirtual 57, 3) := by decide +kernel
theorem dX13_sentAt_68 : decode cX13_sentAt 68 = .ok (.ifCond .eq 5, 3) := by decide +kernel
theorem dX13_sentAt_71 : decode cX13_sentAt 71 = .ok (.iconst (-1), 1) := by decide +kernel
theorem dX13_sentAt_72 : decode cX13_sentAt 72 = .ok (.ireturn, 1) := by decide +kernel
theorem dX13_sentAt_73 : decode cX13_sentAt 73 = .ok (.aload_n 0, 1) := by decide +kernel
theorem dX13_sentAt_74 : decode cX13_sentAt 74 = .ok (.getfield 45, 3) := by decide +kernel
theorem dX13_sentAt_77 : decode cX13_sentAt 77 = .ok (.iload_n 1, 1) := by decide +kernel
theorem dX13_sentAt_78 : decode cX13_sentAt 78 = .ok (.invokeinterface 163 2, 5) := by decide +kernel
theorem dX13_sentAt_83 : decode cX13_sentAt 83 = .ok (.checkcast 220, 3) := by decide +kernel
theorem dX13_sentAt_86 : decode cX13_sentAt 86 = .ok (.getfield 260, 3) := by decide +kernel
theorem dX13_sentAt_89 : decode cX13_sentAt 89 = .ok (.iload_n 2, 1) := by decide +kernel
theorem dX13_sentAt_90 : decode cX13_sentAt 90 = .ok (.invokeinterface 163 2, 5) := by decide +kernel
theorem dX13_sentAt_95 : decode cX13_sentAt 95 = .ok (.checkcast 207, 3) := by decide +kernel
theorem dX13_sentAt_98 : decode cX13_sentAt 98 = .ok (.ldc_w 263, 3) := by decide +kernel
theorem dX13_sentAt_101 : decode cX13_sentAt 101 = .ok (.iload_n 3, 1) := by decide +kernel
theorem dX13_sentAt_102 : decode cX13_sentAt 102 = .ok (.invokevirtual 265, 3) := by decide +kernel
theorem dX13_sentAt_105 : decode cX13_sentAt 105 = .ok (.iaload, 1) := by decide +kernel
theorem dX13_sentAt_106 : decode cX13_sentAt 106 = .ok (.ireturn, 1) := by decide +kernel
theorem dX13_lost_0 : decode cX13_lost 0 = .ok (.aload_n 0, 1) := by decide +kernel
theorem dX13_lost_1 : decode cX13_lost 1 = .ok (.invokevirtual 61, 3) := by decide +kernel
theorem dX13_lost_4 : decode cX13_lost 4 = .ok (.aload_n 0, 1) := by decide +kernel
theorem dX13_lost_5 : decode cX13_lost 5 = .ok (.iload_n 1, 1) := by decide +kernel
theorem dX13_lost_6 : decode cX13_lost 6 = .ok (.invokevirtual 235, 3) := by decide +kernel
theorem dX13_lost_9 : decode cX13_lost 9 = .ok (.ifCond .eq 7, 3) := by decide +kernel
theorem dX13_lost_12 : decode cX13_lost 12 = .ok (.iconst (-1), 1) := by decide +kernel
theorem dX13_lost_13 : decode cX13_lost 13 = .ok (.goto 19, 3) := by decide +kernel
theorem dX13_lost_16 : decode cX13_lost 16 = .ok (.aload_n 0, 1) := by decide +kernel
theorem dX13_lost_17 : decode cX13_lost 17 = .ok (.getfield 45, 3) := by decide +kernel
theorem dX13_lost_20 : decode cX13_lost 20 = .ok (.iload_n 1, 1) := by decide +kernel
theorem dX13_lost_21 : decode cX13_lost 21 = .ok (.invokeinterface 163 2, 5) := by decide +kernel
theorem dX13_lost_26 : decode cX13_lost 26 = .ok (.checkcast 220, 3) := by decide +kernel
theorem dX13_lost_29 : decode cX13_lost 29 = .ok (.getfield 253, 3) := by decide +kernel
theorem dX13_lost_32 : decode cX13_lost 32 = .ok (.ireturn, 1) := by decide +kernel
theorem dX13_frame_0 : decode cX13_frame 0 = .ok (.aload_n 0, 1) := by decide +kernel
theorem dX13_frame_1 : decode cX13_frame 1 = .ok (.invokevirtual 61, 3) := by decide +kernel
theorem dX13_frame_4 : decode cX13_frame 4 = .ok (.aload_n 0, 1) := by decide +kernel
theorem dX13_frame_5 : decode cX13_frame 5 = .ok (.iload_n 1, 1) := by decide +kernel
theorem dX13_frame_6 : decode cX13_frame 6 = .ok (.invokestatic 148, 3) := by decide +kernel
theorem dX13_frame_9 : decode cX13_frame 9 = .ok (.ifCond .ne 7, 3) := by decide +kernel
theorem dX13_frame_12 : decode cX13_frame 12 = .ok (.iconst 1, 1) := by decide +kernel
theorem dX13_frame_13 : decode cX13_frame 13 = .ok (.goto 4, 3) := by decide +kernel
theorem dX13_frame_16 : decode cX13_frame 16 = .ok (.iconst 0, 1) := by decide +kernel
theorem dX13_frame_17 : decode cX13_frame 17 = .ok (.iconst 1, 1) := by decide +kernel
theorem dX13_frame_18 : decode cX13_frame 18 = .ok (.invokevirtual 57, 3) := by decide +kernel
theorem dX13_frame_21 : decode cX13_frame 21 = .ok (.ifCond .ne 30, 3) := by decide +kernel
theorem dX13_frame_24 : decode cX13_frame 24 = .ok (.aload_n 0, 1) := by decide +kernel
theorem dX13_frame_25 : decode cX13_frame 25 = .ok (.aload_n 0, 1) := by decide +kernel
theorem dX13_frame_26 : decode cX13_frame 26 = .ok (.getfield 48, 3) := by decide +kernel
theorem dX13_frame_29 : decode cX13_frame 29 = .ok (.invokeinterface 7 1, 5) := by decide +kernel
theorem dX13_frame_34 : decode cX13_frame 34 = .ok (.bipush 6, 2) := by decide +kernel
theorem dX13_frame_36 : decode cX13_frame 36 = .ok (.if_icmp .ne 7, 3) := by decide +kernel
theorem dX13_frame_39 : decode cX13_frame 39 = .ok (.iconst 1, 1) := by decide +kernel
theorem dX13_frame_40 : decode cX13_frame 40 = .ok (.goto 4, 3) := by decide +kernel
theorem dX13_frame_43 : decode cX13_frame 43 = .ok (.iconst 0, 1) := by decide +kernel
theorem dX13_frame_44 : decode cX13_frame 44 = .ok (.iconst 2, 1) := by decide +kernel
theorem dX13_frame_45 : decode cX13_frame 45 = .ok (.invokevirtual 57, 3) := by decide +kernel
theorem dX13_frame_48 : decode cX13_frame 48 = .ok (.ifCond .eq 5, 3) := by decide +kernel
theorem dX13_frame_51 : decode cX13_frame 51 = .ok (.iconst (-1), 1) := by decide +kernel
theorem dX13_frame_52 : decode cX13_frame 52 = .ok (.ireturn, 1) := by decide +kernel
theorem dX13_frame_53 : decode cX13_frame 53 = .ok (.new 268, 3) := by decide +kernel
theorem dX13_frame_56 : decode cX13_frame 56 = .ok (.dup, 1) := by decide +kernel
theorem dX13_frame_57 : decode cX13_frame 57 = .ok (.invokespecial 270, 3) := by decide +kernel
theorem dX13_frame_60 : decode cX13_frame 60 = .ok (.astore_n 2, 1) := by decide +kernel
theorem dX13_frame_61 : decode cX13_frame 61 = .ok (.aload_n 2, 1) := by decide +kernel
theorem dX13_frame_62 : decode cX13_frame 62 = .ok (.aload_n 0, 1) := by decide +kernel
theorem dX13_frame_63 : decode cX13_frame 63 = .ok (.getfield 34, 3) := by decide +kernel
theorem dX13_frame_66 : decode cX13_frame 66 = .ok (.getfield 213, 3) := by decide +kernel
theorem dX13_frame_69 : decode cX13_frame 69 = .ok (.putfield 271, 3) := by decide +kernel
theorem dX13_frame_72 : decode cX13_frame 72 = .ok (.aload_n 0, 1) := by decide +kernel
theorem dX13_frame_73 : decode cX13_frame 73 = .ok (.getfield 34, 3) := by decide +kernel
theorem dX13_frame_76 : decode cX13_frame 76 = .ok (.getfield 139, 3) := by decide +kernel
theorem dX13_frame_79 : decode cX13_frame 79 = .ok (.invokeinterface 272 1, 5) := by decide +kernel
theorem dX13_frame_84 : decode cX13_frame 84 = .ok (.astore_n 3, 1) := by decide +kernel
theorem dX13_frame_85 : decode cX13_frame 85 = .ok (.aload_n 3, 1) := by decide +kernel
theorem dX13_frame_86 : decode cX13_frame 86 = .ok (.invokeinterface 276 1, 5) := by decide +kernel
theorem dX13_frame_91 : decode cX13_frame 91 = .ok (.ifCond .eq 72, 3) := by decide +kernel
theorem dX13_frame_94 : decode cX13_frame 94 = .ok (.aload_n 3, 1) := by decide +kernel
theorem dX13_frame_95 : decode cX13_frame 95 = .ok (.invokeinterface 281 1, 5) := by decide +kernel
theorem dX13_frame_100 : decode cX13_frame 100 = .ok (.checkcast 128, 3) := by decide +kernel
theorem dX13_frame_103 : decode cX13_frame 103 = .ok (.astore 4, 2) := by decide +kernel
theorem dX13_frame_105 : decode cX13_frame 105 = .ok (.aload 4, 2) := by decide +kernel
theorem dX13_frame_107 : decode cX13_frame 107 = .ok (.getfield 134, 3) := by decide +kernel
theorem dX13_frame_110 : decode cX13_frame 110 = .ok (.iload_n 1, 1) := by decide +kernel
theorem dX13_frame_111 : decode cX13_frame 111 = .ok (.isub, 1) := by decide +kernel
theorem dX13_frame_112 : decode cX13_frame 112 = .ok (.sipush 3600, 3) := by decide +kernel
theorem dX13_frame_115 : decode cX13_frame 115 = .ok (.invokestatic 285, 3) := by decide +kernel
theorem dX13_frame_118 : decode cX13_frame 118 = .ok (.istore 5, 2) := by decide +kernel
theorem dX13_frame_120 : decode cX13_frame 120 = .ok (.aload 4, 2) := by decide +kernel
theorem dX13_frame_122 : decode cX13_frame 122 = .ok (.getfield 167, 3) := by decide +kernel
theorem dX13_frame_125 : decode cX13_frame 125 = .ok (.ifCond .ne 35, 3) := by decide +kernel
theorem dX13_frame_128 : decode cX13_frame 128 = .ok (.iload 5, 2) := by decide +kernel
theorem dX13_frame_130 : decode cX13_frame 130 = .ok (.sipush 3600, 3) := by decide +kernel
theorem dX13_frame_133 : decode cX13_frame 133 = .ok (.iload 5, 2) := by decide +kernel
theorem dX13_frame_135 : decode cX13_frame 135 = .ok (.isub, 1) := by decide +kernel
theorem dX13_frame_136 : decode cX13_frame 136 = .ok (.invokestatic 288, 3) := by decide +kernel
theorem dX13_frame_139 : decode cX13_frame 139 = .ok (.sipush 900, 3) := by decide +kernel
theorem dX13_frame_142 : decode cX13_frame 142 = .ok (.if_icmp .gt 18, 3) := by decide +kernel
theorem dX13_frame_145 : decode cX13_frame 145 = .ok (.aload_n 2, 1) := by decide +kernel
theorem dX13_frame_146 : decode cX13_frame 146 = .ok (.getfield 291, 3) := by decide +kernel
theorem dX13_frame_149 : decode cX13_frame 149 = .ok (.aload 4, 2) := by decide +kernel
theorem dX13_frame_151 : decode cX13_frame 151 = .ok (.invokevirtual 294, 3) := by decide +kernel
theorem dX13_frame_154 : decode cX13_frame 154 = .ok (.invokeinterface 142 2, 5) := by decide +kernel
theorem dX13_frame_159 : decode cX13_frame 159 = .ok (.pop, 1) := by decide +kernel
theorem dX13_frame_160 : decode cX13_frame 160 = .ok (.goto (-75), 3) := by decide +kernel
theorem dX13_frame_163 : decode cX13_frame 163 = .ok (.aload_n 0, 1) := by decide +kernel
theorem dX13_frame_164 : decode cX13_frame 164 = .ok (.getfield 48, 3) := by decide +kernel
theorem dX13_frame_167 : decode cX13_frame 167 = .ok (.aload_n 2, 1) := by decide +kernel
theorem dX13_frame_168 : decode cX13_frame 168 = .ok (.invokeinterface 142 2, 5) := by decide +kernel
theorem dX13_frame_173 : decode cX13_frame 173 = .ok (.pop, 1) := by decide +kernel
theorem dX13_frame_174 : decode cX13_frame 174 = .ok (.aload_n 0, 1) := by decide +kernel
theorem dX13_frame_175 : decode cX13_frame 175 = .ok (.getfield 48, 3) := by decide +kernel
theorem dX13_frame_178 : decode cX13_frame 178 = .ok (.invokeinterface 7 1, 5) := by decide +kernel
theorem dX13_frame_183 : decode cX13_frame 183 = .ok (.iconst 1, 1) := by decide +kernel
theorem dX13_frame_184 : decode cX13_frame 184 = .ok (.isub, 1) := by decide +kernel
theorem dX13_frame_185 : decode cX13_frame 185 = .ok (.ireturn, 1) := by decide +kernel
theorem dX13_noFrame_0 : decode cX13_noFrame 0 = .ok (.aload_n 0, 1) := by decide +kernel
theorem dX13_noFrame_1 : decode cX13_noFrame 1 = .ok (.aload_n 0, 1) := by decide +kernel
theorem dX13_noFrame_2 : decode cX13_noFrame 2 = .ok (.getfield 48, 3) := by decide +kernel
theorem dX13_noFrame_5 : decode cX13_noFrame 5 = .ok (.iload_n 1, 1) := by decide +kernel
theorem dX13_noFrame_6 : decode cX13_noFrame 6 = .ok (.invokestatic 159, 3) := by decide +kernel
theorem dX13_noFrame_9 : decode cX13_noFrame 9 = .ok (.ifCond .ne 7, 3) := by decide +kernel
theorem dX13_noFrame_12 : decode cX13_noFrame 12 = .ok (.iconst 1, 1) := by decide +kernel
theorem dX13_noFrame_13 : decode cX13_noFrame 13 = .ok (.goto 4, 3) := by decide +kernel
theorem dX13_noFrame_16 : decode cX13_noFrame 16 = .ok (.iconst 0, 1) := by decide +kernel
theorem dX13_noFrame_17 : decode cX13_noFrame 17 = .ok (.iconst 1, 1) := by decide +kernel
theorem dX13_noFrame_18 : decode cX13_noFrame 18 = .ok (.invokevirtual 57, 3) := by decide +kernel
theorem dX13_noFrame_21 : decode cX13_noFrame 21 = .ok (.ireturn, 1) := by decide +kernel
theorem dX13_countSeen_0 : decode cX13_countSeen 0 = .ok (.aload_n 0, 1) := by decide +kernel
theorem dX13_countSeen_1 : decode cX13_countSeen 1 = .ok (.invokevirtual 61, 3) := by decide +kernel
theorem dX13_countSeen_4 : decode cX13_countSeen 4 = .ok (.aload_n 0, 1) := by decide +kernel
theorem dX13_countSeen_5 : decode cX13_countSeen 5 = .ok (.iload_n 1, 1) := by decide +kernel
theorem dX13_countSeen_6 : decode cX13_countSeen 6 = .ok (.invokevirtual 298, 3) := by decide +kernel
theorem dX13_countSeen_9 : decode cX13_countSeen 9 = .ok (.ifCond .eq 7, 3) := by decide +kernel
theorem dX13_countSeen_12 : decode cX13_countSeen 12 = .ok (.iconst (-1), 1) := by decide +kernel
theorem dX13_countSeen_13 : decode cX13_countSeen 13 = .ok (.goto 24, 3) := by decide +kernel
theorem dX13_countSeen_16 : decode cX13_countSeen 16 = .ok (.aload_n 0, 1) := by decide +kernel
theorem dX13_countSeen_17 : decode cX13_countSeen 17 = .ok (.getfield 48, 3) := by decide +kernel
theorem dX13_countSeen_20 : decode cX13_countSeen 20 = .ok (.iload_n 1, 1) := by decide +kernel
theorem dX13_countSeen_21 : decode cX13_countSeen 21 = .ok (.invokeinterface 163 2, 5) := by decide +kernel
theorem dX13_countSeen_26 : decode cX13_countSeen 26 = .ok (.checkcast 268, 3) := by decide +kernel
theorem dX13_countSeen_29 : decode cX13_countSeen 29 = .ok (.getfield 291, 3) := by decide +kernel
theorem dX13_countSeen_32 : decode cX13_countSeen 32 = .ok (.invokeinterface 7 1, 5) := by decide +kernel
theorem dX13_countSeen_37 : decode cX13_countSeen 37 = .ok (.ireturn, 1) := by decide +kernel
theorem dX13_placeIn_0 : decode cX13_placeIn 0 = .ok (.aload_n 0, 1) := by decide +kernel
theorem dX13_placeIn_1 : decode cX13_placeIn 1 = .ok (.invokevirtual 61, 3) := by decide +kernel
theorem dX13_placeIn_4 : decode cX13_placeIn 4 = .ok (.aload_n 0, 1) := by decide +kernel
theorem dX13_placeIn_5 : decode cX13_placeIn 5 = .ok (.iload_n 1, 1) := by decide +kernel
theorem dX13_placeIn_6 : decode cX13_placeIn 6 = .ok (.invokevirtual 298, 3) := by decide +kernel
theorem dX13_placeIn_9 : decode cX13_placeIn 9 = .ok (.ifCond .ne 63, 3) := by decide +kernel
theorem dX13_placeIn_12 : decode cX13_placeIn 12 = .ok (.aload_n 0, 1) := by decide +kernel
theorem dX13_placeIn_13 : decode cX13_placeIn 13 = .ok (.iload_n 2, 1) := by decide +kernel
theorem dX13_placeIn_14 : decode cX13_placeIn 14 = .ok (.i2l, 1) := by decide +kernel
theorem dX13_placeIn_15 : decode cX13_placeIn 15 = .ok (.ldc2_w 178, 3) := by decide +kernel
theorem dX13_placeIn_18 : decode cX13_placeIn 18 = .ok (.ldc2_w 180, 3) := by decide +kernel
theorem dX13_placeIn_21 : decode cX13_placeIn 21 = .ok (.invokestatic 13, 3) := by decide +kernel
theorem dX13_placeIn_24 : decode cX13_placeIn 24 = .ok (.ifCond .ne 7, 3) := by decide +kernel
theorem dX13_placeIn_27 : decode cX13_placeIn 27 = .ok (.iconst 1, 1) := by decide +kernel
theorem dX13_placeIn_28 : decode cX13_placeIn 28 = .ok (.goto 4, 3) := by decide +kernel
theorem dX13_placeIn_31 : decode cX13_placeIn 31 = .ok (.iconst 0, 1) := by decide +kernel
theorem dX13_placeIn_32 : decode cX13_placeIn 32 = .ok (.iconst 2, 1) := by decide +kernel
theorem dX13_placeIn_33 : decode cX13_placeIn 33 = .ok (.invokevirtual 57, 3) := by decide +kernel
theorem dX13_placeIn_36 : decode cX13_placeIn 36 = .ok (.ifCond .ne 36, 3) := by decide +kernel
theorem dX13_placeIn_39 : decode cX13_placeIn 39 = .ok (.aload_n 0, 1) := by decide +kernel
theorem dX13_placeIn_40 : decode cX13_placeIn 40 = .ok (.aload_n 0, 1) := by decide +kernel
theorem dX13_placeIn_41 : decode cX13_placeIn 41 = .ok (.getfield 48, 3) := by decide +kernel
theorem dX13_placeIn_44 : decode cX13_placeIn 44 = .ok (.iload_n 1, 1) := by decide +kernel
theorem dX13_placeIn_45 : decode cX13_placeIn 45 = .ok (.invokeinterface 163 2, 5) := by decide +kernel
theorem dX13_placeIn_50 : decode cX13_placeIn 50 = .ok (.checkcast 268, 3) := by decide +kernel
theorem dX13_placeIn_53 : decode cX13_placeIn 53 = .ok (.iload_n 2, 1) := by decide +kernel
theorem dX13_placeIn_54 : decode cX13_placeIn 54 = .ok (.invokevirtual 301, 3) := by decide +kernel
theorem dX13_placeIn_57 : decode cX13_placeIn 57 = .ok (.ifnonnull 7, 3) := by decide +kernel
theorem dX13_placeIn_60 : decode cX13_placeIn 60 = .ok (.iconst 1, 1) := by decide +kernel
theorem dX13_placeIn_61 : decode cX13_placeIn 61 = .ok (.goto 4, 3) := by decide +kernel
theorem dX13_placeIn_64 : decode cX13_placeIn 64 = .ok (.iconst 0, 1) := by decide +kernel
theorem dX13_placeIn_65 : decode cX13_placeIn 65 = .ok (.iconst 3, 1) := by decide +kernel
theorem dX13_placeIn_66 : decode cX13_placeIn 66 = .ok (.invokevirtual 57, 3) := by decide +kernel
theorem dX13_placeIn_69 : decode cX13_placeIn 69 = .ok (.ifCond .eq 5, 3) := by decide +kernel
theorem dX13_placeIn_72 : decode cX13_placeIn 72 = .ok (.iconst (-1), 1) := by decide +kernel
theorem dX13_placeIn_73 : decode cX13_placeIn 73 = .ok (.ireturn, 1) := by decide +kernel
theorem dX13_placeIn_74 : decode cX13_placeIn 74 = .ok (.aload_n 0, 1) := by decide +kernel
theorem dX13_placeIn_75 : decode cX13_placeIn 75 = .ok (.getfield 48, 3) := by decide +kernel
theorem dX13_placeIn_78 : decode cX13_placeIn 78 = .ok (.iload_n 1, 1) := by decide +kernel
theorem dX13_placeIn_79 : decode cX13_placeIn 79 = .ok (.invokeinterface 163 2, 5) := by decide +kernel
theorem dX13_placeIn_84 : decode cX13_placeIn 84 = .ok (.checkcast 268, 3) := by decide +kernel
theorem dX13_placeIn_87 : decode cX13_placeIn 87 = .ok (.iload_n 2, 1) := by decide +kernel
theorem dX13_placeIn_88 : decode cX13_placeIn 88 = .ok (.invokevirtual 301, 3) := by decide +kernel
theorem dX13_placeIn_91 : decode cX13_placeIn 91 = .ok (.getfield 134, 3) := by decide +kernel
theorem dX13_placeIn_94 : decode cX13_placeIn 94 = .ok (.ireturn, 1) := by decide +kernel
theorem dX13_drift_0 : decode cX13_drift 0 = .ok (.aload_n 0, 1) := by decide +kernel
theorem dX13_drift_1 : decode cX13_drift 1 = .ok (.invokevirtual 61, 3) := by decide +kernel
theorem dX13_drift_4 : decode cX13_drift 4 = .ok (.aload_n 0, 1) := by decide +kernel
theorem dX13_drift_5 : decode cX13_drift 5 = .ok (.aload_n 0, 1) := by decide +kernel
theorem dX13_drift_6 : decode cX13_drift 6 = .ok (.getfield 48, 3) := by decide +kernel
theorem dX13_drift_9 : decode cX13_drift 9 = .ok (.iload_n 2, 1) := by decide +kernel
theorem dX13_drift_10 : decode cX13_drift 10 = .ok (.invokestatic 159, 3) := by decide +kernel
theorem dX13_drift_13 : decode cX13_drift 13 = .ok (.ifCond .eq 14, 3) := by decide +kernel
theorem dX13_drift_16 : decode cX13_drift 16 = .ok (.aload_n 0, 1) := by decide +kernel
theorem dX13_drift_17 : decode cX13_drift 17 = .ok (.getfield 48, 3) := by decide +kernel
theorem dX13_drift_20 : decode cX13_drift 20 = .ok (.iload_n 3, 1) := by decide +kernel
theorem dX13_drift_21 : decode cX13_drift 21 = .ok (.invokestatic 159, 3) := by decide +kernel
theorem dX13_drift_24 : decode cX13_drift 24 = .ok (.ifCond .ne 7, 3) := by decide +kernel
theorem dX13_drift_27 : decode cX13_drift 27 = .ok (.iconst 1, 1) := by decide +kernel
theorem dX13_drift_28 : decode cX13_drift 28 = .ok (.goto 4, 3) := by decide +kernel
theorem dX13_drift_31 : decode cX13_drift 31 = .ok (.iconst 0, 1) := by decide +kernel
theorem dX13_drift_32 : decode cX13_drift 32 = .ok (.iconst 1, 1) := by decide +kernel
theorem dX13_drift_33 : decode cX13_drift 33 = .ok (.invokevirtual 57, 3) := by decide +kernel
theorem dX13_drift_36 : decode cX13_drift 36 = .ok (.ifCond .ne 30, 3) := by decide +kernel
theorem dX13_drift_39 : decode cX13_drift 39 = .ok (.aload_n 0, 1) := by decide +kernel
theorem dX13_drift_40 : decode cX13_drift 40 = .ok (.iload_n 1, 1) := by decide +kernel
theorem dX13_drift_41 : decode cX13_drift 41 = .ok (.i2l, 1) := by decide +kernel
theorem dX13_drift_42 : decode cX13_drift 42 = .ok (.ldc2_w 178, 3) := by decide +kernel
theorem dX13_drift_45 : decode cX13_drift 45 = .ok (.ldc2_w 180, 3) := by decide +kernel
theorem dX13_drift_48 : decode cX13_drift 48 = .ok (.invokestatic 13, 3) := by decide +kernel
theorem dX13_drift_51 : decode cX13_drift 51 = .ok (.ifCond .ne 7, 3) := by decide +kernel
theorem dX13_drift_54 : decode cX13_drift 54 = .ok (.iconst 1, 1) := by decide +kernel
theorem dX13_drift_55 : decode cX13_drift 55 = .ok (.goto 4, 3) := by decide +kernel
theorem dX13_drift_58 : decode cX13_drift 58 = .ok (.iconst 0, 1) := by decide +kernel
theorem dX13_drift_59 : decode cX13_drift 59 = .ok (.iconst 2, 1) := by decide +kernel
theorem dX13_drift_60 : decode cX13_drift 60 = .ok (.invokevirtual 57, 3) := by decide +kernel
theorem dX13_drift_63 : decode cX13_drift 63 = .ok (.ifCond .eq 5, 3) := by decide +kernel
theorem dX13_drift_66 : decode cX13_drift 66 = .ok (.fconst 0, 1) := by decide +kernel
theorem dX13_drift_67 : decode cX13_drift 67 = .ok (.freturn, 1) := by decide +kernel
theorem dX13_drift_68 : decode cX13_drift 68 = .ok (.aload_n 0, 1) := by decide +kernel
theorem dX13_drift_69 : decode cX13_drift 69 = .ok (.getfield 48, 3) := by decide +kernel
theorem dX13_drift_72 : decode cX13_drift 72 = .ok (.iload_n 2, 1) := by decide +kernel
theorem dX13_drift_73 : decode cX13_drift 73 = .ok (.invokeinterface 163 2, 5) := by decide +kernel
theorem dX13_drift_78 : decode cX13_drift 78 = .ok (.checkcast 268, 3) := by decide +kernel
theorem dX13_drift_81 : decode cX13_drift 81 = .ok (.getfield 271, 3) := by decide +kernel
theorem dX13_drift_84 : decode cX13_drift 84 = .ok (.aload_n 0, 1) := by decide +kernel
theorem dX13_drift_85 : decode cX13_drift 85 = .ok (.getfield 48, 3) := by decide +kernel
theorem dX13_drift_88 : decode cX13_drift 88 = .ok (.iload_n 3, 1) := by decide +kernel
theorem dX13_drift_89 : decode cX13_drift 89 = .ok (.invokeinterface 163 2, 5) := by decide +kernel
theorem dX13_drift_94 : decode cX13_drift 94 = .ok (.checkcast 268, 3) := by decide +kernel
theorem dX13_drift_97 : decode cX13_drift 97 = .ok (.getfield 271, 3) := by decide +kernel
theorem dX13_drift_100 : decode cX13_drift 100 = .ok (.if_icmp .gt 19, 3) := by decide +kernel
theorem dX13_drift_103 : decode cX13_drift 103 = .ok (.aload_n 0, 1) := by decide +kernel
theorem dX13_drift_104 : decode cX13_drift 104 = .ok (.getfield 48, 3) := by decide +kernel
theorem dX13_drift_107 : decode cX13_drift 107 = .ok (.iload_n 2, 1) := by decide +kernel
theorem dX13_drift_108 : decode cX13_drift 108 = .ok (.invokeinterface 163 2, 5) := by decide +kernel
theorem dX13_drift_113 : decode cX13_drift 113 = .ok (.checkcast 268, 3) := by decide +kernel
theorem dX13_drift_116 : decode cX13_drift 116 = .ok (.goto 16, 3) := by decide +kernel
theorem dX13_drift_119 : decode cX13_drift 119 = .ok (.aload_n 0, 1) := by decide +kernel
theorem dX13_drift_120 : decode cX13_drift 120 = .ok (.getfield 48, 3) := by decide +kernel
theorem dX13_drift_123 : decode cX13_drift 123 = .ok (.iload_n 3, 1) := by decide +kernel
theorem dX13_drift_124 : decode cX13_drift 124 = .ok (.invokeinterface 163 2, 5) := by decide +kernel
theorem dX13_drift_129 : decode cX13_drift 129 = .ok (.checkcast 268, 3) := by decide +kernel
theorem dX13_drift_132 : decode cX13_drift 132 = .ok (.astore 4, 2) := by decide +kernel
theorem dX13_drift_134 : decode cX13_drift 134 = .ok (.aload 4, 2) := by decide +kernel
theorem dX13_drift_136 : decode cX13_drift 136 = .ok (.aload_n 0, 1) := by decide +kernel
theorem dX13_drift_137 : decode cX13_drift 137 = .ok (.getfield 48, 3) := by decide +kernel
theorem dX13_drift_140 : decode cX13_drift 140 = .ok (.iload_n 2, 1) := by decide +kernel
theorem dX13_drift_141 : decode cX13_drift 141 = .ok (.invokeinterface 163 2, 5) := by decide +kernel
theorem dX13_drift_146 : decode cX13_drift 146 = .ok (.if_acmp .ne 19, 3) := by decide +kernel
theorem dX13_drift_149 : decode cX13_drift 149 = .ok (.aload_n 0, 1) := by decide +kernel
theorem dX13_drift_150 : decode cX13_drift 150 = .ok (.getfield 48, 3) := by decide +kernel
theorem dX13_drift_153 : decode cX13_drift 153 = .ok (.iload_n 3, 1) := by decide +kernel
theorem dX13_drift_154 : decode cX13_drift 154 = .ok (.invokeinterface 163 2, 5) := by decide +kernel
theorem dX13_drift_159 : decode cX13_drift 159 = .ok (.checkcast 268, 3) := by decide +kernel
theorem dX13_drift_162 : decode cX13_drift 162 = .ok (.goto 16, 3) := by decide +kernel
theorem dX13_drift_165 : decode cX13_drift 165 = .ok (.aload_n 0, 1) := by decide +kernel
theorem dX13_drift_166 : decode cX13_drift 166 = .ok (.getfield 48, 3) := by decide +kernel
theorem dX13_drift_169 : decode cX13_drift 169 = .ok (.iload_n 2, 1) := by decide +kernel
theorem dX13_drift_170 : decode cX13_drift 170 = .ok (.invokeinterface 163 2, 5) := by decide +kernel
theorem dX13_drift_175 : decode cX13_drift 175 = .ok (.checkcast 268, 3) := by decide +kernel
theorem dX13_drift_178 : decode cX13_drift 178 = .ok (.astore 5, 2) := by decide +kernel
theorem dX13_drift_180 : decode cX13_drift 180 = .ok (.aload_n 0, 1) := by decide +kernel
theorem dX13_drift_181 : decode cX13_drift 181 = .ok (.aload 4, 2) := by decide +kernel
theorem dX13_drift_183 : decode cX13_drift 183 = .ok (.iload_n 1, 1) := by decide +kernel
theorem dX13_drift_184 : decode cX13_drift 184 = .ok (.invokevirtual 301, 3) := by decide +kernel
theorem dX13_drift_187 : decode cX13_drift 187 = .ok (.ifnull 25, 3) := by decide +kernel
theorem dX13_drift_190 : decode cX13_drift 190 = .ok (.aload 5, 2) := by decide +kernel
theorem dX13_drift_192 : decode cX13_drift 192 = .ok (.iload_n 1, 1) := by decide +kernel
theorem dX13_drift_193 : decode cX13_drift 193 = .ok (.invokevirtual 301, 3) := by decide +kernel
theorem dX13_drift_196 : decode cX13_drift 196 = .ok (.ifnull 16, 3) := by decide +kernel
theorem dX13_drift_199 : decode cX13_drift 199 = .ok (.aload 4, 2) := by decide +kernel
theorem dX13_drift_201 : decode cX13_drift 201 = .ok (.getfield 271, 3) := by decide +kernel
theorem dX13_drift_204 : decode cX13_drift 204 = .ok (.aload 5, 2) := by decide +kernel
theorem dX13_drift_206 : decode cX13_drift 206 = .ok (.getfield 271, 3) := by decide +kernel
theorem dX13_drift_209 : decode cX13_drift 209 = .ok (.if_icmp .ne 7, 3) := by decide +kernel
theorem dX13_drift_212 : decode cX13_drift 212 = .ok (.iconst 1, 1) := by decide +kernel
theorem dX13_drift_213 : decode cX13_drift 213 = .ok (.goto 4, 3) := by decide +kernel
theorem dX13_drift_216 : decode cX13_drift 216 = .ok (.iconst 0, 1) := by decide +kernel
theorem dX13_drift_217 : decode cX13_drift 217 = .ok (.iconst 3, 1) := by decide +kernel
theorem dX13_drift_218 : decode cX13_drift 218 = .ok (.invokevirtual 57, 3) := by decide +kernel
theorem dX13_drift_221 : decode cX13_drift 221 = .ok (.ifCond .eq 5, 3) := by decide +kernel
theorem dX13_drift_224 : decode cX13_drift 224 = .ok (.fconst 0, 1) := by decide +kernel
theorem dX13_drift_225 : decode cX13_drift 225 = .ok (.freturn, 1) := by decide +kernel
theorem dX13_drift_226 : decode cX13_drift 226 = .ok (.aload 5, 2) := by decide +kernel
theorem dX13_drift_228 : decode cX13_drift 228 = .ok (.iload_n 1, 1) := by decide +kernel
theorem dX13_drift_229 : decode cX13_drift 229 = .ok (.invokevirtual 301, 3) := by decide +kernel
theorem dX13_drift_232 : decode cX13_drift 232 = .ok (.getfield 134, 3) := by decide +kernel
theorem dX13_drift_235 : decode cX13_drift 235 = .ok (.aload 4, 2) := by decide +kernel
theorem dX13_drift_237 : decode cX13_drift 237 = .ok (.iload_n 1, 1) := by decide +kernel
theorem dX13_drift_238 : decode cX13_drift 238 = .ok (.invokevirtual 301, 3) := by decide +kernel
theorem dX13_drift_241 : decode cX13_drift 241 = .ok (.getfield 134, 3) := by decide +kernel
theorem dX13_drift_244 : decode cX13_drift 244 = .ok (.isub, 1) := by decide +kernel
theorem dX13_drift_245 : decode cX13_drift 245 = .ok (.sipush 1800, 3) := by decide +kernel
theorem dX13_drift_248 : decode cX13_drift 248 = .ok (.iadd, 1) := by decide +kernel
theorem dX13_drift_249 : decode cX13_drift 249 = .ok (.sipush 3600, 3) := by decide +kernel
theorem dX13_drift_252 : decode cX13_drift 252 = .ok (.invokestatic 285, 3) := by decide +kernel
theorem dX13_drift_255 : decode cX13_drift 255 = .ok (.sipush 1800, 3) := by decide +kernel
theorem dX13_drift_258 : decode cX13_drift 258 = .ok (.isub, 1) := by decide +kernel
theorem dX13_drift_259 : decode cX13_drift 259 = .ok (.istore 6, 2) := by decide +kernel
theorem dX13_drift_261 : decode cX13_drift 261 = .ok (.iload 6, 2) := by decide +kernel
theorem dX13_drift_263 : decode cX13_drift 263 = .ok (.i2f, 1) := by decide +kernel
theorem dX13_drift_264 : decode cX13_drift 264 = .ok (.aload 5, 2) := by decide +kernel
theorem dX13_drift_266 : decode cX13_drift 266 = .ok (.getfield 271, 3) := by decide +kernel
theorem dX13_drift_269 : decode cX13_drift 269 = .ok (.aload 4, 2) := by decide +kernel
theorem dX13_drift_271 : decode cX13_drift 271 = .ok (.getfield 271, 3) := by decide +kernel
theorem dX13_drift_274 : decode cX13_drift 274 = .ok (.isub, 1) := by decide +kernel
theorem dX13_drift_275 : decode cX13_drift 275 = .ok (.i2f, 1) := by decide +kernel
theorem dX13_drift_276 : decode cX13_drift 276 = .ok (.fdiv, 1) := by decide +kernel
theorem dX13_drift_277 : decode cX13_drift 277 = .ok (.freturn, 1) := by decide +kernel
theorem dX13_save_0 : decode cX13_save 0 = .ok (.aload_n 0, 1) := by decide +kernel
theorem dX13_save_1 : decode cX13_save 1 = .ok (.invokevirtual 61, 3) := by decide +kernel
theorem dX13_save_4 : decode cX13_save 4 = .ok (.aload_n 0, 1) := by decide +kernel
theorem dX13_save_5 : decode cX13_save 5 = .ok (.aload_n 0, 1) := by decide +kernel
theorem dX13_save_6 : decode cX13_save 6 = .ok (.getfield 41, 3) := by decide +kernel
theorem dX13_save_9 : decode cX13_save 9 = .ok (.invokeinterface 7 1, 5) := by decide +kernel
theorem dX13_save_14 : decode cX13_save 14 = .ok (.iconst 3, 1) := by decide +kernel
theorem dX13_save_15 : decode cX13_save 15 = .ok (.if_icmp .ne 7, 3) := by decide +kernel
theorem dX13_save_18 : decode cX13_save 18 = .ok (.iconst 1, 1) := by decide +kernel
theorem dX13_save_19 : decode cX13_save 19 = .ok (.goto 4, 3) := by decide +kernel
theorem dX13_save_22 : decode cX13_save 22 = .ok (.iconst 0, 1) := by decide +kernel
theorem dX13_save_23 : decode cX13_save 23 = .ok (.iconst 1, 1) := by decide +kernel
theorem dX13_save_24 : decode cX13_save 24 = .ok (.invokevirtual 57, 3) := by decide +kernel
theorem dX13_save_27 : decode cX13_save 27 = .ok (.ifCond .eq 5, 3) := by decide +kernel
theorem dX13_save_30 : decode cX13_save 30 = .ok (.iconst (-1), 1) := by decide +kernel
theorem dX13_save_31 : decode cX13_save 31 = .ok (.ireturn, 1) := by decide +kernel
theorem dX13_save_32 : decode cX13_save 32 = .ok (.aload_n 0, 1) := by decide +kernel
theorem dX13_save_33 : decode cX13_save 33 = .ok (.getfield 41, 3) := by decide +kernel
theorem dX13_save_36 : decode cX13_save 36 = .ok (.aload_n 0, 1) := by decide +kernel
theorem dX13_save_37 : decode cX13_save 37 = .ok (.getfield 34, 3) := by decide +kernel
theorem dX13_save_40 : decode cX13_save 40 = .ok (.invokevirtual 305, 3) := by decide +kernel
theorem dX13_save_43 : decode cX13_save 43 = .ok (.invokeinterface 142 2, 5) := by decide +kernel
theorem dX13_save_48 : decode cX13_save 48 = .ok (.pop, 1) := by decide +kernel
theorem dX13_save_49 : decode cX13_save 49 = .ok (.aload_n 0, 1) := by decide +kernel
theorem dX13_save_50 : decode cX13_save 50 = .ok (.getfield 41, 3) := by decide +kernel
theorem dX13_save_53 : decode cX13_save 53 = .ok (.invokeinterface 7 1, 5) := by decide +kernel
theorem dX13_save_58 : decode cX13_save 58 = .ok (.iconst 1, 1) := by decide +kernel
theorem dX13_save_59 : decode cX13_save 59 = .ok (.isub, 1) := by decide +kernel
theorem dX13_save_60 : decode cX13_save 60 = .ok (.ireturn, 1) := by decide +kernel
theorem dX13_load_0 : decode cX13_load 0 = .ok (.aload_n 0, 1) := by decide +kernel
theorem dX13_load_1 : decode cX13_load 1 = .ok (.invokevirtual 61, 3) := by decide +kernel
theorem dX13_load_4 : decode cX13_load 4 = .ok (.aload_n 0, 1) := by decide +kernel
theorem dX13_load_5 : decode cX13_load 5 = .ok (.aload_n 0, 1) := by decide +kernel
theorem dX13_load_6 : decode cX13_load 6 = .ok (.getfield 41, 3) := by decide +kernel
theorem dX13_load_9 : decode cX13_load 9 = .ok (.iload_n 1, 1) := by decide +kernel
theorem dX13_load_10 : decode cX13_load 10 = .ok (.invokestatic 159, 3) := by decide +kernel
theorem dX13_load_13 : decode cX13_load 13 = .ok (.ifCond .ne 7, 3) := by decide +kernel
theorem dX13_load_16 : decode cX13_load 16 = .ok (.iconst 1, 1) := by decide +kernel
theorem dX13_load_17 : decode cX13_load 17 = .ok (.goto 4, 3) := by decide +kernel
theorem dX13_load_20 : decode cX13_load 20 = .ok (.iconst 0, 1) := by decide +kernel
theorem dX13_load_21 : decode cX13_load 21 = .ok (.iconst 1, 1) := by decide +kernel
theorem dX13_load_22 : decode cX13_load 22 = .ok (.invokevirtual 57, 3) := by decide +kernel
theorem dX13_load_25 : decode cX13_load 25 = .ok (.ifCond .eq 7, 3) := by decide +kernel
theorem dX13_load_28 : decode cX13_load 28 = .ok (.ldc2_w 308, 3) := by decide +kernel
theorem dX13_load_31 : decode cX13_load 31 = .ok (.lreturn, 1) := by decide +kernel
theorem dX13_load_32 : decode cX13_load 32 = .ok (.aload_n 0, 1) := by decide +kernel
theorem dX13_load_33 : decode cX13_load 33 = .ok (.aload_n 0, 1) := by decide +kernel
theorem dX13_load_34 : decode cX13_load 34 = .ok (.getfield 41, 3) := by decide +kernel
theorem dX13_load_37 : decode cX13_load 37 = .ok (.iload_n 1, 1) := by decide +kernel
theorem dX13_load_38 : decode cX13_load 38 = .ok (.invokeinterface 163 2, 5) := by decide +kernel
theorem dX13_load_43 : decode cX13_load 43 = .ok (.checkcast 31, 3) := by decide +kernel
theorem dX13_load_46 : decode cX13_load 46 = .ok (.invokevirtual 305, 3) := by decide +kernel
theorem dX13_load_49 : decode cX13_load 49 = .ok (.putfield 34, 3) := by decide +kernel
theorem dX13_load_52 : decode cX13_load 52 = .ok (.aload_n 0, 1) := by decide +kernel
theorem dX13_load_53 : decode cX13_load 53 = .ok (.getfield 34, 3) := by decide +kernel
theorem dX13_load_56 : decode cX13_load 56 = .ok (.invokevirtual 310, 3) := by decide +kernel
theorem dX13_load_59 : decode cX13_load 59 = .ok (.lreturn, 1) := by decide +kernel
theorem dX13_happenings_0 : decode cX13_happenings 0 = .ok (.aload_n 0, 1) := by decide +kernel
theorem dX13_happenings_1 : decode cX13_happenings 1 = .ok (.invokevirtual 61, 3) := by decide +kernel
theorem dX13_happenings_4 : decode cX13_happenings 4 = .ok (.aload_n 0, 1) := by decide +kernel
theorem dX13_happenings_5 : decode cX13_happenings 5 = .ok (.getfield 34, 3) := by decide +kernel
theorem dX13_happenings_8 : decode cX13_happenings 8 = .ok (.getfield 314, 3) := by decide +kernel
theorem dX13_happenings_11 : decode cX13_happenings 11 = .ok (.invokeinterface 7 1, 5) := by decide +kernel
theorem dX13_happenings_16 : decode cX13_happenings 16 = .ok (.ireturn, 1) := by decide +kernel
theorem dX13_happening_0 : decode cX13_happening 0 = .ok (.aload_n 0, 1) := by decide +kernel
theorem dX13_happening_1 : decode cX13_happening 1 = .ok (.invokevirtual 61, 3) := by decide +kernel
theorem dX13_happening_4 : decode cX13_happening 4 = .ok (.aload_n 0, 1) := by decide +kernel
theorem dX13_happening_5 : decode cX13_happening 5 = .ok (.aload_n 0, 1) := by decide +kernel
theorem dX13_happening_6 : decode cX13_happening 6 = .ok (.getfield 34, 3) := by decide +kernel
theorem dX13_happening_9 : decode cX13_happening 9 = .ok (.getfield 314, 3) := by decide +kernel
theorem dX13_happening_12 : decode cX13_happening 12 = .ok (.iload_n 1, 1) := by decide +kernel
theorem dX13_happening_13 : decode cX13_happening 13 = .ok (.invokestatic 159, 3) := by decide +kernel
theorem dX13_happening_16 : decode cX13_happening 16 = .ok (.ifCond .ne 7, 3) := by decide +kernel
theorem dX13_happening_19 : decode cX13_happening 19 = .ok (.iconst 1, 1) := by decide +kernel
theorem dX13_happening_20 : decode cX13_happening 20 = .ok (.goto 4, 3) := by decide +kernel
theorem dX13_happening_23 : decode cX13_happening 23 = .ok (.iconst 0, 1) := by decide +kernel
theorem dX13_happening_24 : decode cX13_happening 24 = .ok (.iconst 1, 1) := by decide +kernel
theorem dX13_happening_25 : decode cX13_happening 25 = .ok (.invokevirtual 57, 3) := by decide +kernel
theorem dX13_happening_28 : decode cX13_happening 28 = .ok (.ifCond .eq 8, 3) := by decide +kernel
theorem dX13_happening_31 : decode cX13_happening 31 = .ok (.bipush 32, 2) := by decide +kernel
theorem dX13_happening_33 : decode cX13_happening 33 = .ok (.goto 22, 3) := by decide +kernel
theorem dX13_happening_36 : decode cX13_happening 36 = .ok (.aload_n 0, 1) := by decide +kernel
theorem dX13_happening_37 : decode cX13_happening 37 = .ok (.getfield 34, 3) := by decide +kernel
theorem dX13_happening_40 : decode cX13_happening 40 = .ok (.getfield 314, 3) := by decide +kernel
theorem dX13_happening_43 : decode cX13_happening 43 = .ok (.iload_n 1, 1) := by decide +kernel
theorem dX13_happening_44 : decode cX13_happening 44 = .ok (.invokeinterface 163 2, 5) := by decide +kernel
theorem dX13_happening_49 : decode cX13_happening 49 = .ok (.checkcast 207, 3) := by decide +kernel
theorem dX13_happening_52 : decode cX13_happening 52 = .ok (.iconst 0, 1) := by decide +kernel
theorem dX13_happening_53 : decode cX13_happening 53 = .ok (.iaload, 1) := by decide +kernel
theorem dX13_happening_54 : decode cX13_happening 54 = .ok (.i2c, 1) := by decide +kernel
theorem dX13_happening_55 : decode cX13_happening 55 = .ok (.ireturn, 1) := by decide +kernel
theorem dX13_happenedTo_0 : decode cX13_happenedTo 0 = .ok (.aload_n 0, 1) := by decide +kernel
theorem dX13_happenedTo_1 : decode cX13_happenedTo 1 = .ok (.invokevirtual 61, 3) := by decide +kernel
theorem dX13_happenedTo_4 : decode cX13_happenedTo 4 = .ok (.aload_n 0, 1) := by decide +kernel
theorem dX13_happenedTo_5 : decode cX13_happenedTo 5 = .ok (.aload_n 0, 1) := by decide +kernel
theorem dX13_happenedTo_6 : decode cX13_happenedTo 6 = .ok (.getfield 34, 3) := by decide +kernel
theorem dX13_happenedTo_9 : decode cX13_happenedTo 9 = .ok (.getfield 314, 3) := by decide +kernel
theorem dX13_happenedTo_12 : decode cX13_happenedTo 12 = .ok (.iload_n 1, 1) := by decide +kernel
theorem dX13_happenedTo_13 : decode cX13_happenedTo 13 = .ok (.invokestatic 159, 3) := by decide +kernel
theorem dX13_happenedTo_16 : decode cX13_happenedTo 16 = .ok (.ifCond .ne 7, 3) := by decide +kernel
theorem dX13_happenedTo_19 : decode cX13_happenedTo 19 = .ok (.iconst 1, 1) := by decide +kernel
theorem dX13_happenedTo_20 : decode cX13_happenedTo 20 = .ok (.goto 4, 3) := by decide +kernel
theorem dX13_happenedTo_23 : decode cX13_happenedTo 23 = .ok (.iconst 0, 1) := by decide +kernel
theorem dX13_happenedTo_24 : decode cX13_happenedTo 24 = .ok (.iconst 1, 1) := by decide +kernel
theorem dX13_happenedTo_25 : decode cX13_happenedTo 25 = .ok (.invokevirtual 57, 3) := by decide +kernel
theorem dX13_happenedTo_28 : decode cX13_happenedTo 28 = .ok (.ifCond .eq 7, 3) := by decide +kernel
theorem dX13_happenedTo_31 : decode cX13_happenedTo 31 = .ok (.iconst (-1), 1) := by decide +kernel
theorem dX13_happenedTo_32 : decode cX13_happenedTo 32 = .ok (.goto 21, 3) := by decide +kernel
theorem dX13_happenedTo_35 : decode cX13_happenedTo 35 = .ok (.aload_n 0, 1) := by decide +kernel
theorem dX13_happenedTo_36 : decode cX13_happenedTo 36 = .ok (.getfield 34, 3) := by decide +kernel
theorem dX13_happenedTo_39 : decode cX13_happenedTo 39 = .ok (.getfield 314, 3) := by decide +kernel
theorem dX13_happenedTo_42 : decode cX13_happenedTo 42 = .ok (.iload_n 1, 1) := by decide +kernel
theorem dX13_happenedTo_43 : decode cX13_happenedTo 43 = .ok (.invokeinterface 163 2, 5) := by decide +kernel
theorem dX13_happenedTo_48 : decode cX13_happenedTo 48 = .ok (.checkcast 207, 3) := by decide +kernel
theorem dX13_happenedTo_51 : decode cX13_happenedTo 51 = .ok (.iconst 1, 1) := by decide +kernel
theorem dX13_happenedTo_52 : decode cX13_happenedTo 52 = .ok (.iaload, 1) := by decide +kernel
theorem dX13_happenedTo_53 : decode cX13_happenedTo 53 = .ok (.ireturn, 1) := by decide +kernel
theorem dX13_checksum_0 : decode cX13_checksum 0 = .ok (.aload_n 0, 1) := by decide +kernel
theorem dX13_checksum_1 : decode cX13_checksum 1 = .ok (.invokevirtual 61, 3) := by decide +kernel
theorem dX13_checksum_4 : decode cX13_checksum 4 = .ok (.aload_n 0, 1) := by decide +kernel
theorem dX13_checksum_5 : decode cX13_checksum 5 = .ok (.getfield 34, 3) := by decide +kernel
theorem dX13_checksum_8 : decode cX13_checksum 8 = .ok (.invokevirtual 310, 3) := by decide +kernel
theorem dX13_checksum_11 : decode cX13_checksum 11 = .ok (.lreturn, 1) := by decide +kernel
theorem dX13_thereShare_0 : decode cX13_thereShare 0 = .ok (.aload_n 0, 1) := by decide +kernel
theorem dX13_thereShare_1 : decode cX13_thereShare 1 = .ok (.invokevirtual 61, 3) := by decide +kernel
theorem dX13_thereShare_4 : decode cX13_thereShare 4 = .ok (.iconst 0, 1) := by decide +kernel
theorem dX13_thereShare_5 : decode cX13_thereShare 5 = .ok (.istore_n 1, 1) := by decide +kernel
theorem dX13_thereShare_6 : decode cX13_thereShare 6 = .ok (.aload_n 0, 1) := by decide +kernel
theorem dX13_thereShare_7 : decode cX13_thereShare 7 = .ok (.getfield 34, 3) := by decide +kernel
theorem dX13_thereShare_10 : decode cX13_thereShare 10 = .ok (.getfield 139, 3) := by decide +kernel
theorem dX13_thereShare_13 : decode cX13_thereShare 13 = .ok (.invokeinterface 272 1, 5) := by decide +kernel
theorem dX13_thereShare_18 : decode cX13_thereShare 18 = .ok (.astore_n 2, 1) := by decide +kernel
theorem dX13_thereShare_19 : decode cX13_thereShare 19 = .ok (.aload_n 2, 1) := by decide +kernel
theorem dX13_thereShare_20 : decode cX13_thereShare 20 = .ok (.invokeinterface 276 1, 5) := by decide +kernel
theorem dX13_thereShare_25 : decode cX13_thereShare 25 = .ok (.ifCond .eq 31, 3) := by decide +kernel
theorem dX13_thereShare_28 : decode cX13_thereShare 28 = .ok (.aload_n 2, 1) := by decide +kernel
theorem dX13_thereShare_29 : decode cX13_thereShare 29 = .ok (.invokeinterface 281 1, 5) := by decide +kernel
theorem dX13_thereShare_34 : decode cX13_thereShare 34 = .ok (.checkcast 128, 3) := by decide +kernel
theorem dX13_thereShare_37 : decode cX13_thereShare 37 = .ok (.astore_n 3, 1) := by decide +kernel
theorem dX13_thereShare_38 : decode cX13_thereShare 38 = .ok (.iload_n 1, 1) := by decide +kernel
theorem dX13_thereShare_39 : decode cX13_thereShare 39 = .ok (.aload_n 3, 1) := by decide +kernel
theorem dX13_thereShare_40 : decode cX13_thereShare 40 = .ok (.getfield 167, 3) := by decide +kernel
theorem dX13_thereShare_43 : decode cX13_thereShare 43 = .ok (.ifCond .eq 7, 3) := by decide +kernel
theorem dX13_thereShare_46 : decode cX13_thereShare 46 = .ok (.iconst 0, 1) := by decide +kernel
theorem dX13_thereShare_47 : decode cX13_thereShare 47 = .ok (.goto 4, 3) := by decide +kernel
theorem dX13_thereShare_50 : decode cX13_thereShare 50 = .ok (.iconst 1, 1) := by decide +kernel
theorem dX13_thereShare_51 : decode cX13_thereShare 51 = .ok (.iadd, 1) := by decide +kernel
theorem dX13_thereShare_52 : decode cX13_thereShare 52 = .ok (.istore_n 1, 1) := by decide +kernel
theorem dX13_thereShare_53 : decode cX13_thereShare 53 = .ok (.goto (-34), 3) := by decide +kernel
theorem dX13_thereShare_56 : decode cX13_thereShare 56 = .ok (.aload_n 0, 1) := by decide +kernel
theorem dX13_thereShare_57 : decode cX13_thereShare 57 = .ok (.aload_n 0, 1) := by decide +kernel
theorem dX13_thereShare_58 : decode cX13_thereShare 58 = .ok (.getfield 34, 3) := by decide +kernel
theorem dX13_thereShare_61 : decode cX13_thereShare 61 = .ok (.getfield 139, 3) := by decide +kernel
theorem dX13_thereShare_64 : decode cX13_thereShare 64 = .ok (.invokeinterface 256 1, 5) := by decide +kernel
theorem dX13_thereShare_69 : decode cX13_thereShare 69 = .ok (.iconst 1, 1) := by decide +kernel
theorem dX13_thereShare_70 : decode cX13_thereShare 70 = .ok (.invokevirtual 57, 3) := by decide +kernel
theorem dX13_thereShare_73 : decode cX13_thereShare 73 = .ok (.ifCond .eq 7, 3) := by decide +kernel
theorem dX13_thereShare_76 : decode cX13_thereShare 76 = .ok (.fconst 0, 1) := by decide +kernel
theorem dX13_thereShare_77 : decode cX13_thereShare 77 = .ok (.goto 19, 3) := by decide +kernel
theorem dX13_thereShare_80 : decode cX13_thereShare 80 = .ok (.iload_n 1, 1) := by decide +kernel
theorem dX13_thereShare_81 : decode cX13_thereShare 81 = .ok (.i2f, 1) := by decide +kernel
theorem dX13_thereShare_82 : decode cX13_thereShare 82 = .ok (.aload_n 0, 1) := by decide +kernel
theorem dX13_thereShare_83 : decode cX13_thereShare 83 = .ok (.getfield 34, 3) := by decide +kernel
theorem dX13_thereShare_86 : decode cX13_thereShare 86 = .ok (.getfield 139, 3) := by decide +kernel
theorem dX13_thereShare_89 : decode cX13_thereShare 89 = .ok (.invokeinterface 7 1, 5) := by decide +kernel
theorem dX13_thereShare_94 : decode cX13_thereShare 94 = .ok (.i2f, 1) := by decide +kernel
theorem dX13_thereShare_95 : decode cX13_thereShare 95 = .ok (.fdiv, 1) := by decide +kernel
theorem dX13_thereShare_96 : decode cX13_thereShare 96 = .ok (.freturn, 1) := by decide +kernel
theorem dX13_meanWind_0 : decode cX13_meanWind 0 = .ok (.aload_n 0, 1) := by decide +kernel
theorem dX13_meanWind_1 : decode cX13_meanWind 1 = .ok (.invokevirtual 61, 3) := by decide +kernel
theorem dX13_meanWind_4 : decode cX13_meanWind 4 = .ok (.iconst 0, 1) := by decide +kernel
theorem dX13_meanWind_5 : decode cX13_meanWind 5 = .ok (.istore_n 1, 1) := by decide +kernel
theorem dX13_meanWind_6 : decode cX13_meanWind 6 = .ok (.iconst 0, 1) := by decide +kernel
theorem dX13_meanWind_7 : decode cX13_meanWind 7 = .ok (.istore_n 2, 1) := by decide +kernel
theorem dX13_meanWind_8 : decode cX13_meanWind 8 = .ok (.iload_n 2, 1) := by decide +kernel
theorem dX13_meanWind_9 : decode cX13_meanWind 9 = .ok (.bipush 12, 2) := by decide +kernel
theorem dX13_meanWind_11 : decode cX13_meanWind 11 = .ok (.if_icmp .ge 20, 3) := by decide +kernel
theorem dX13_meanWind_14 : decode cX13_meanWind 14 = .ok (.iload_n 1, 1) := by decide +kernel
theorem dX13_meanWind_15 : decode cX13_meanWind 15 = .ok (.aload_n 0, 1) := by decide +kernel
theorem dX13_meanWind_16 : decode cX13_meanWind 16 = .ok (.getfield 34, 3) := by decide +kernel
theorem dX13_meanWind_19 : decode cX13_meanWind 19 = .ok (.iload_n 2, 1) := by decide +kernel
theorem dX13_meanWind_20 : decode cX13_meanWind 20 = .ok (.invokevirtual 112, 3) := by decide +kernel
theorem dX13_meanWind_23 : decode cX13_meanWind 23 = .ok (.iadd, 1) := by decide +kernel
theorem dX13_meanWind_24 : decode cX13_meanWind 24 = .ok (.istore_n 1, 1) := by decide +kernel
theorem dX13_meanWind_25 : decode cX13_meanWind 25 = .ok (.iinc 2 1, 3) := by decide +kernel
theorem dX13_meanWind_28 : decode cX13_meanWind 28 = .ok (.goto (-20), 3) := by decide +kernel
theorem dX13_meanWind_31 : decode cX13_meanWind 31 = .ok (.iload_n 1, 1) := by decide +kernel
theorem dX13_meanWind_32 : decode cX13_meanWind 32 = .ok (.i2d, 1) := by decide +kernel
theorem dX13_meanWind_33 : decode cX13_meanWind 33 = .ok (.ldc2_w 316, 3) := by decide +kernel
theorem dX13_meanWind_36 : decode cX13_meanWind 36 = .ok (.ddiv, 1) := by decide +kernel
theorem dX13_meanWind_37 : decode cX13_meanWind 37 = .ok (.dreturn, 1) := by decide +kernel
theorem dX13_isSound_0 : decode cX13_isSound 0 = .ok (.aload_n 0, 1) := by decide +kernel
theorem dX13_isSound_1 : decode cX13_isSound 1 = .ok (.invokevirtual 61, 3) := by decide +kernel
theorem dX13_isSound_4 : decode cX13_isSound 4 = .ok (.iconst 1, 1) := by decide +kernel
theorem dX13_isSound_5 : decode cX13_isSound 5 = .ok (.ireturn, 1) := by decide +kernel
theorem dJx00060_init_a7421_0 : decode cJx00060_init_a7421 0 = .ok (.aload_n 0, 1) := by decide +kernel
theorem dJx00060_init_a7421_1 : decode cJx00060_init_a7421 1 = .ok (.aload_n 1, 1) := by decide +kernel
theorem dJx00060_init_a7421_2 : decode cJx00060_init_a7421 2 = .ok (.invokespecial 7, 3) := by decide +kernel
theorem dJx00060_init_a7421_5 : decode cJx00060_init_a7421 5 = .ok (.return_, 1) := by decide +kernel
theorem dJ11_isValidCodePoint_9a6ad_0 : decode cJ11_isValidCodePoint_9a6ad 0 = .ok (.iload_n 0, 1) := by decide +kernel
theorem dJ11_isValidCodePoint_9a6ad_1 : decode cJ11_isValidCodePoint_9a6ad 1 = .ok (.bipush 16, 2) := by decide +kernel
theorem dJ11_isValidCodePoint_9a6ad_3 : decode cJ11_isValidCodePoint_9a6ad 3 = .ok (.iushr, 1) := by decide +kernel
theorem dJ11_isValidCodePoint_9a6ad_4 : decode cJ11_isValidCodePoint_9a6ad 4 = .ok (.istore_n 1, 1) := by decide +kernel
theorem dJ11_isValidCodePoint_9a6ad_5 : decode cJ11_isValidCodePoint_9a6ad 5 = .ok (.iload_n 1, 1) := by decide +kernel
theorem dJ11_isValidCodePoint_9a6ad_6 : decode cJ11_isValidCodePoint_9a6ad 6 = .ok (.bipush 17, 2) := by decide +kernel
theorem dJ11_isValidCodePoint_9a6ad_8 : decode cJ11_isValidCodePoint_9a6ad 8 = .ok (.if_icmp .ge 7, 3) := by decide +kernel
theorem dJ11_isValidCodePoint_9a6ad_11 : decode cJ11_isValidCodePoint_9a6ad 11 = .ok (.iconst 1, 1) := by decide +kernel
theorem dJ11_isValidCodePoint_9a6ad_12 : decode cJ11_isValidCodePoint_9a6ad 12 = .ok (.goto 4, 3) := by decide +kernel
theorem dJ11_isValidCodePoint_9a6ad_15 : decode cJ11_isValidCodePoint_9a6ad 15 = .ok (.iconst 0, 1) := by decide +kernel
theorem dJ11_isValidCodePoint_9a6ad_16 : decode cJ11_isValidCodePoint_9a6ad 16 = .ok (.ireturn, 1) := by decide +kernel
theorem dJ11_highSurrogate_5068e_0 : decode cJ11_highSurrogate_5068e 0 = .ok (.iload_n 0, 1) := by decide +kernel
theorem dJ11_highSurrogate_5068e_1 : decode cJ11_highSurrogate_5068e 1 = .ok (.bipush 10, 2) := by decide +kernel
theorem dJ11_highSurrogate_5068e_3 : decode cJ11_highSurrogate_5068e 3 = .ok (.iushr, 1) := by decide +kernel
theorem dJ11_highSurrogate_5068e_4 : decode cJ11_highSurrogate_5068e 4 = .ok (.ldc 110, 2) := by decide +kernel
theorem dJ11_highSurrogate_5068e_6 : decode cJ11_highSurrogate_5068e 6 = .ok (.iadd, 1) := by decide +kernel
theorem dJ11_highSurrogate_5068e_7 : decode cJ11_highSurrogate_5068e 7 = .ok (.i2c, 1) := by decide +kernel
theorem dJ11_highSurrogate_5068e_8 : decode cJ11_highSurrogate_5068e 8 = .ok (.ireturn, 1) := by decide +kernel
theorem dJ11_lowSurrogate_5068e_0 : decode cJ11_lowSurrogate_5068e 0 = .ok (.iload_n 0, 1) := by decide +kernel
theorem dJ11_lowSurrogate_5068e_1 : decode cJ11_lowSurrogate_5068e 1 = .ok (.sipush 1023, 3) := by decide +kernel
theorem dJ11_lowSurrogate_5068e_4 : decode cJ11_lowSurrogate_5068e 4 = .ok (.iand, 1) := by decide +kernel
theorem dJ11_lowSurrogate_5068e_5 : decode cJ11_lowSurrogate_5068e 5 = .ok (.ldc 76, 2) := by decide +kernel
theorem dJ11_lowSurrogate_5068e_7 : decode cJ11_lowSurrogate_5068e 7 = .ok (.iadd, 1) := by decide +kernel
theorem dJ11_lowSurrogate_5068e_8 : decode cJ11_lowSurrogate_5068e 8 = .ok (.i2c, 1) := by decide +kernel
theorem dJ11_lowSurrogate_5068e_9 : decode cJ11_lowSurrogate_5068e 9 = .ok (.ireturn, 1) := by decide +kernel
theorem dJ0_length_8abf5_0 : decode cJ0_length_8abf5 0 = .ok (.aload_n 0, 1) := by decide +kernel
theorem dJ0_length_8abf5_1 : decode cJ0_length_8abf5 1 = .ok (.getfield 9, 3) := by decide +kernel
theorem dJ0_length_8abf5_4 : decode cJ0_length_8abf5 4 = .ok (.arraylength, 1) := by decide +kernel
theorem dJ0_length_8abf5_5 : decode cJ0_length_8abf5 5 = .ok (.aload_n 0, 1) := by decide +kernel
theorem dJ0_length_8abf5_6 : decode cJ0_length_8abf5 6 = .ok (.invokevirtual 335, 3) := by decide +kernel
theorem dJ0_length_8abf5_9 : decode cJ0_length_8abf5 9 = .ok (.ishr, 1) := by decide +kernel
theorem dJ0_length_8abf5_10 : decode cJ0_length_8abf5 10 = .ok (.ireturn, 1) := by decide +kernel
theorem dJ0_charAt_5068e_0 : decode cJ0_charAt_5068e 0 = .ok (.aload_n 0, 1) := by decide +kernel
theorem dJ0_charAt_5068e_1 : decode cJ0_charAt_5068e 1 = .ok (.invokevirtual 492, 3) := by decide +kernel
theorem dJ0_charAt_5068e_4 : decode cJ0_charAt_5068e 4 = .ok (.ifCond .eq 12, 3) := by decide +kernel
theorem dJ0_charAt_5068e_7 : decode cJ0_charAt_5068e 7 = .ok (.aload_n 0, 1) := by decide +kernel
theorem dJ0_charAt_5068e_8 : decode cJ0_charAt_5068e 8 = .ok (.getfield 9, 3) := by decide +kernel
theorem dJ0_charAt_5068e_11 : decode cJ0_charAt_5068e 11 = .ok (.iload_n 1, 1) := by decide +kernel
theorem dJ0_charAt_5068e_12 : decode cJ0_charAt_5068e 12 = .ok (.invokestatic 495, 3) := by decide +kernel
theorem dJ0_charAt_5068e_15 : decode cJ0_charAt_5068e 15 = .ok (.ireturn, 1) := by decide +kernel
theorem dJ0_charAt_5068e_16 : decode cJ0_charAt_5068e 16 = .ok (.aload_n 0, 1) := by decide +kernel
theorem dJ0_charAt_5068e_17 : decode cJ0_charAt_5068e 17 = .ok (.getfield 9, 3) := by decide +kernel
theorem dJ0_charAt_5068e_20 : decode cJ0_charAt_5068e 20 = .ok (.iload_n 1, 1) := by decide +kernel
theorem dJ0_charAt_5068e_21 : decode cJ0_charAt_5068e 21 = .ok (.invokestatic 498, 3) := by decide +kernel
theorem dJ0_charAt_5068e_24 : decode cJ0_charAt_5068e 24 = .ok (.ireturn, 1) := by decide +kernel
theorem dJ0_indexOf_0f7a4_0 : decode cJ0_indexOf_0f7a4 0 = .ok (.aload_n 0, 1) := by decide +kernel
theorem dJ0_indexOf_0f7a4_1 : decode cJ0_indexOf_0f7a4 1 = .ok (.iload_n 1, 1) := by decide +kernel
theorem dJ0_indexOf_0f7a4_2 : decode cJ0_indexOf_0f7a4 2 = .ok (.iconst 0, 1) := by decide +kernel
theorem dJ0_indexOf_0f7a4_3 : decode cJ0_indexOf_0f7a4 3 = .ok (.invokevirtual 633, 3) := by decide +kernel
theorem dJ0_indexOf_0f7a4_6 : decode cJ0_indexOf_0f7a4 6 = .ok (.ireturn, 1) := by decide +kernel
theorem dJ0_indexOf_7cf53_0 : decode cJ0_indexOf_7cf53 0 = .ok (.aload_n 0, 1) := by decide +kernel
theorem dJ0_indexOf_7cf53_1 : decode cJ0_indexOf_7cf53 1 = .ok (.invokevirtual 492, 3) := by decide +kernel
theorem dJ0_indexOf_7cf53_4 : decode cJ0_indexOf_7cf53 4 = .ok (.ifCond .eq 19, 3) := by decide +kernel
theorem dJ0_indexOf_7cf53_7 : decode cJ0_indexOf_7cf53 7 = .ok (.aload_n 0, 1) := by decide +kernel
theorem dJ0_indexOf_7cf53_8 : decode cJ0_indexOf_7cf53 8 = .ok (.getfield 9, 3) := by decide +kernel
theorem dJ0_indexOf_7cf53_11 : decode cJ0_indexOf_7cf53 11 = .ok (.iload_n 1, 1) := by decide +kernel
theorem dJ0_indexOf_7cf53_12 : decode cJ0_indexOf_7cf53 12 = .ok (.iload_n 2, 1) := by decide +kernel
theorem dJ0_indexOf_7cf53_13 : decode cJ0_indexOf_7cf53 13 = .ok (.aload_n 0, 1) := by decide +kernel
theorem dJ0_indexOf_7cf53_14 : decode cJ0_indexOf_7cf53 14 = .ok (.invokevirtual 505, 3) := by decide +kernel
theorem dJ0_indexOf_7cf53_17 : decode cJ0_indexOf_7cf53 17 = .ok (.invokestatic 637, 3) := by decide +kernel
theorem dJ0_indexOf_7cf53_20 : decode cJ0_indexOf_7cf53 20 = .ok (.goto 16, 3) := by decide +kernel
theorem dJ0_indexOf_7cf53_23 : decode cJ0_indexOf_7cf53 23 = .ok (.aload_n 0, 1) := by decide +kernel
theorem dJ0_indexOf_7cf53_24 : decode cJ0_indexOf_7cf53 24 = .ok (.getfield 9, 3) := by decide +kernel
theorem dJ0_indexOf_7cf53_27 : decode cJ0_indexOf_7cf53 27 = .ok (.iload_n 1, 1) := by decide +kernel
theorem dJ0_indexOf_7cf53_28 : decode cJ0_indexOf_7cf53 28 = .ok (.iload_n 2, 1) := by decide +kernel
theorem dJ0_indexOf_7cf53_29 : decode cJ0_indexOf_7cf53 29 = .ok (.aload_n 0, 1) := by decide +kernel
theorem dJ0_indexOf_7cf53_30 : decode cJ0_indexOf_7cf53 30 = .ok (.invokevirtual 505, 3) := by decide +kernel
theorem dJ0_indexOf_7cf53_33 : decode cJ0_indexOf_7cf53 33 = .ok (.invokestatic 640, 3) := by decide +kernel
theorem dJ0_indexOf_7cf53_36 : decode cJ0_indexOf_7cf53 36 = .ok (.ireturn, 1) := by decide +kernel
theorem dJ0_coder_7d493_0 : decode cJ0_coder_7d493 0 = .ok (.getstatic 38, 3) := by decide +kernel
theorem dJ0_coder_7d493_3 : decode cJ0_coder_7d493 3 = .ok (.ifCond .eq 10, 3) := by decide +kernel
theorem dJ0_coder_7d493_6 : decode cJ0_coder_7d493 6 = .ok (.aload_n 0, 1) := by decide +kernel
theorem dJ0_coder_7d493_7 : decode cJ0_coder_7d493 7 = .ok (.getfield 15, 3) := by decide +kernel
theorem dJ0_coder_7d493_10 : decode cJ0_coder_7d493 10 = .ok (.goto 4, 3) := by decide +kernel
theorem dJ0_coder_7d493_13 : decode cJ0_coder_7d493 13 = .ok (.iconst 1, 1) := by decide +kernel
theorem dJ0_coder_7d493_14 : decode cJ0_coder_7d493 14 = .ok (.ireturn, 1) := by decide +kernel
theorem dJ0_isLatin1_aae02_0 : decode cJ0_isLatin1_aae02 0 = .ok (.getstatic 38, 3) := by decide +kernel
theorem dJ0_isLatin1_aae02_3 : decode cJ0_isLatin1_aae02 3 = .ok (.ifCond .eq 14, 3) := by decide +kernel
theorem dJ0_isLatin1_aae02_6 : decode cJ0_isLatin1_aae02 6 = .ok (.aload_n 0, 1) := by decide +kernel
theorem dJ0_isLatin1_aae02_7 : decode cJ0_isLatin1_aae02 7 = .ok (.getfield 15, 3) := by decide +kernel
theorem dJ0_isLatin1_aae02_10 : decode cJ0_isLatin1_aae02 10 = .ok (.ifCond .ne 7, 3) := by decide +kernel
theorem dJ0_isLatin1_aae02_13 : decode cJ0_isLatin1_aae02 13 = .ok (.iconst 1, 1) := by decide +kernel
theorem dJ0_isLatin1_aae02_14 : decode cJ0_isLatin1_aae02 14 = .ok (.goto 4, 3) := by decide +kernel
theorem dJ0_isLatin1_aae02_17 : decode cJ0_isLatin1_aae02 17 = .ok (.iconst 0, 1) := by decide +kernel
theorem dJ0_isLatin1_aae02_18 : decode cJ0_isLatin1_aae02 18 = .ok (.ireturn, 1) := by decide +kernel
theorem dJ0_checkIndex_df160_0 : decode cJ0_checkIndex_df160 0 = .ok (.iload_n 0, 1) := by decide +kernel
theorem dJ0_checkIndex_df160_1 : decode cJ0_checkIndex_df160 1 = .ok (.iload_n 1, 1) := by decide +kernel
theorem dJ0_checkIndex_df160_2 : decode cJ0_checkIndex_df160 2 = .ok (.getstatic 1053, 3) := by decide +kernel
theorem dJ0_checkIndex_df160_5 : decode cJ0_checkIndex_df160 5 = .ok (.invokestatic 1059, 3) := by decide +kernel
theorem dJ0_checkIndex_df160_8 : decode cJ0_checkIndex_df160 8 = .ok (.pop, 1) := by decide +kernel
theorem dJ0_checkIndex_df160_9 : decode cJ0_checkIndex_df160 9 = .ok (.return_, 1) := by decide +kernel
theorem dJ0_checkBoundsBeginEnd_23922_0 : decode cJ0_checkBoundsBeginEnd_23922 0 = .ok (.iload_n 0, 1) := by decide +kernel
theorem dJ0_checkBoundsBeginEnd_23922_1 : decode cJ0_checkBoundsBeginEnd_23922 1 = .ok (.iload_n 1, 1) := by decide +kernel
theorem dJ0_checkBoundsBeginEnd_23922_2 : decode cJ0_checkBoundsBeginEnd_23922 2 = .ok (.iload_n 2, 1) := by decide +kernel
theorem dJ0_checkBoundsBeginEnd_23922_3 : decode cJ0_checkBoundsBeginEnd_23922 3 = .ok (.getstatic 1053, 3) := by decide +kernel
theorem dJ0_checkBoundsBeginEnd_23922_6 : decode cJ0_checkBoundsBeginEnd_23922 6 = .ok (.invokestatic 1062, 3) := by decide +kernel
theorem dJ0_checkBoundsBeginEnd_23922_9 : decode cJ0_checkBoundsBeginEnd_23922 9 = .ok (.pop, 1) := by decide +kernel
theorem dJ0_checkBoundsBeginEnd_23922_10 : decode cJ0_checkBoundsBeginEnd_23922 10 = .ok (.return_, 1) := by decide +kernel
theorem dJ1_charAt_3b067_0 : decode cJ1_charAt_3b067 0 = .ok (.iload_n 1, 1) := by decide +kernel
theorem dJ1_charAt_3b067_1 : decode cJ1_charAt_3b067 1 = .ok (.aload_n 0, 1) := by decide +kernel
theorem dJ1_charAt_3b067_2 : decode cJ1_charAt_3b067 2 = .ok (.arraylength, 1) := by decide +kernel
theorem dJ1_charAt_3b067_3 : decode cJ1_charAt_3b067 3 = .ok (.invokestatic 9, 3) := by decide +kernel
theorem dJ1_charAt_3b067_6 : decode cJ1_charAt_3b067 6 = .ok (.aload_n 0, 1) := by decide +kernel
theorem dJ1_charAt_3b067_7 : decode cJ1_charAt_3b067 7 = .ok (.iload_n 1, 1) := by decide +kernel
theorem dJ1_charAt_3b067_8 : decode cJ1_charAt_3b067 8 = .ok (.baload, 1) := by decide +kernel
theorem dJ1_charAt_3b067_9 : decode cJ1_charAt_3b067 9 = .ok (.sipush 255, 3) := by decide +kernel
theorem dJ1_charAt_3b067_12 : decode cJ1_charAt_3b067 12 = .ok (.iand, 1) := by decide +kernel
theorem dJ1_charAt_3b067_13 : decode cJ1_charAt_3b067 13 = .ok (.i2c, 1) := by decide +kernel
theorem dJ1_charAt_3b067_14 : decode cJ1_charAt_3b067 14 = .ok (.ireturn, 1) := by decide +kernel
theorem dJ1_canEncode_9a6ad_0 : decode cJ1_canEncode_9a6ad 0 = .ok (.iload_n 0, 1) := by decide +kernel
theorem dJ1_canEncode_9a6ad_1 : decode cJ1_canEncode_9a6ad 1 = .ok (.ifCond .lt 14, 3) := by decide +kernel
theorem dJ1_canEncode_9a6ad_4 : decode cJ1_canEncode_9a6ad 4 = .ok (.iload_n 0, 1) := by decide +kernel
theorem dJ1_canEncode_9a6ad_5 : decode cJ1_canEncode_9a6ad 5 = .ok (.sipush 255, 3) := by decide +kernel
theorem dJ1_canEncode_9a6ad_8 : decode cJ1_canEncode_9a6ad 8 = .ok (.if_icmp .gt 7, 3) := by decide +kernel
theorem dJ1_canEncode_9a6ad_11 : decode cJ1_canEncode_9a6ad 11 = .ok (.iconst 1, 1) := by decide +kernel
theorem dJ1_canEncode_9a6ad_12 : decode cJ1_canEncode_9a6ad 12 = .ok (.goto 4, 3) := by decide +kernel
theorem dJ1_canEncode_9a6ad_15 : decode cJ1_canEncode_9a6ad 15 = .ok (.iconst 0, 1) := by decide +kernel
theorem dJ1_canEncode_9a6ad_16 : decode cJ1_canEncode_9a6ad 16 = .ok (.ireturn, 1) := by decide +kernel
theorem dJ1_indexOf_4cfef_0 : decode cJ1_indexOf_4cfef 0 = .ok (.iload_n 1, 1) := by decide +kernel
theorem dJ1_indexOf_4cfef_1 : decode cJ1_indexOf_4cfef 1 = .ok (.invokestatic 88, 3) := by decide +kernel
theorem dJ1_indexOf_4cfef_4 : decode cJ1_indexOf_4cfef 4 = .ok (.ifCond .ne 5, 3) := by decide +kernel
theorem dJ1_indexOf_4cfef_7 : decode cJ1_indexOf_4cfef 7 = .ok (.iconst (-1), 1) := by decide +kernel
theorem dJ1_indexOf_4cfef_8 : decode cJ1_indexOf_4cfef 8 = .ok (.ireturn, 1) := by decide +kernel
theorem dJ1_indexOf_4cfef_9 : decode cJ1_indexOf_4cfef 9 = .ok (.iload_n 2, 1) := by decide +kernel
theorem dJ1_indexOf_4cfef_10 : decode cJ1_indexOf_4cfef 10 = .ok (.iconst 0, 1) := by decide +kernel
theorem dJ1_indexOf_4cfef_11 : decode cJ1_indexOf_4cfef 11 = .ok (.invokestatic 92, 3) := by decide +kernel
theorem dJ1_indexOf_4cfef_14 : decode cJ1_indexOf_4cfef 14 = .ok (.istore_n 2, 1) := by decide +kernel
theorem dJ1_indexOf_4cfef_15 : decode cJ1_indexOf_4cfef 15 = .ok (.iload_n 3, 1) := by decide +kernel
theorem dJ1_indexOf_4cfef_16 : decode cJ1_indexOf_4cfef 16 = .ok (.aload_n 0, 1) := by decide +kernel
theorem dJ1_indexOf_4cfef_17 : decode cJ1_indexOf_4cfef 17 = .ok (.arraylength, 1) := by decide +kernel
theorem dJ1_indexOf_4cfef_18 : decode cJ1_indexOf_4cfef 18 = .ok (.invokestatic 38, 3) := by decide +kernel
theorem dJ1_indexOf_4cfef_21 : decode cJ1_indexOf_4cfef 21 = .ok (.istore_n 3, 1) := by decide +kernel
theorem dJ1_indexOf_4cfef_22 : decode cJ1_indexOf_4cfef 22 = .ok (.iload_n 2, 1) := by decide +kernel
theorem dJ1_indexOf_4cfef_23 : decode cJ1_indexOf_4cfef 23 = .ok (.iload_n 3, 1) := by decide +kernel
theorem dJ1_indexOf_4cfef_24 : decode cJ1_indexOf_4cfef 24 = .ok (.if_icmp .lt 5, 3) := by decide +kernel
theorem dJ1_indexOf_4cfef_27 : decode cJ1_indexOf_4cfef 27 = .ok (.iconst (-1), 1) := by decide +kernel
theorem dJ1_indexOf_4cfef_28 : decode cJ1_indexOf_4cfef 28 = .ok (.ireturn, 1) := by decide +kernel
theorem dJ1_indexOf_4cfef_29 : decode cJ1_indexOf_4cfef 29 = .ok (.aload_n 0, 1) := by decide +kernel
theorem dJ1_indexOf_4cfef_30 : decode cJ1_indexOf_4cfef 30 = .ok (.iload_n 1, 1) := by decide +kernel
theorem dJ1_indexOf_4cfef_31 : decode cJ1_indexOf_4cfef 31 = .ok (.iload_n 2, 1) := by decide +kernel
theorem dJ1_indexOf_4cfef_32 : decode cJ1_indexOf_4cfef 32 = .ok (.iload_n 3, 1) := by decide +kernel
theorem dJ1_indexOf_4cfef_33 : decode cJ1_indexOf_4cfef 33 = .ok (.invokestatic 95, 3) := by decide +kernel
theorem dJ1_indexOf_4cfef_36 : decode cJ1_indexOf_4cfef 36 = .ok (.ireturn, 1) := by decide +kernel
theorem dJ1_indexOfChar_4cfef_0 : decode cJ1_indexOfChar_4cfef 0 = .ok (.iload_n 1, 1) := by decide +kernel
theorem dJ1_indexOfChar_4cfef_1 : decode cJ1_indexOfChar_4cfef 1 = .ok (.i2b, 1) := by decide +kernel
theorem dJ1_indexOfChar_4cfef_2 : decode cJ1_indexOfChar_4cfef 2 = .ok (.istore 4, 2) := by decide +kernel
theorem dJ1_indexOfChar_4cfef_4 : decode cJ1_indexOfChar_4cfef 4 = .ok (.iload_n 2, 1) := by decide +kernel
theorem dJ1_indexOfChar_4cfef_5 : decode cJ1_indexOfChar_4cfef 5 = .ok (.istore 5, 2) := by decide +kernel
theorem dJ1_indexOfChar_4cfef_7 : decode cJ1_indexOfChar_4cfef 7 = .ok (.iload 5, 2) := by decide +kernel
theorem dJ1_indexOfChar_4cfef_9 : decode cJ1_indexOfChar_4cfef 9 = .ok (.iload_n 3, 1) := by decide +kernel
theorem dJ1_indexOfChar_4cfef_10 : decode cJ1_indexOfChar_4cfef 10 = .ok (.if_icmp .ge 21, 3) := by decide +kernel
theorem dJ1_indexOfChar_4cfef_13 : decode cJ1_indexOfChar_4cfef 13 = .ok (.aload_n 0, 1) := by decide +kernel
theorem dJ1_indexOfChar_4cfef_14 : decode cJ1_indexOfChar_4cfef 14 = .ok (.iload 5, 2) := by decide +kernel
theorem dJ1_indexOfChar_4cfef_16 : decode cJ1_indexOfChar_4cfef 16 = .ok (.baload, 1) := by decide +kernel
theorem dJ1_indexOfChar_4cfef_17 : decode cJ1_indexOfChar_4cfef 17 = .ok (.iload 4, 2) := by decide +kernel
theorem dJ1_indexOfChar_4cfef_19 : decode cJ1_indexOfChar_4cfef 19 = .ok (.if_icmp .ne 6, 3) := by decide +kernel
theorem dJ1_indexOfChar_4cfef_22 : decode cJ1_indexOfChar_4cfef 22 = .ok (.iload 5, 2) := by decide +kernel
theorem dJ1_indexOfChar_4cfef_24 : decode cJ1_indexOfChar_4cfef 24 = .ok (.ireturn, 1) := by decide +kernel
theorem dJ1_indexOfChar_4cfef_25 : decode cJ1_indexOfChar_4cfef 25 = .ok (.iinc 5 1, 3) := by decide +kernel
theorem dJ1_indexOfChar_4cfef_28 : decode cJ1_indexOfChar_4cfef 28 = .ok (.goto (-21), 3) := by decide +kernel
theorem dJ1_indexOfChar_4cfef_31 : decode cJ1_indexOfChar_4cfef 31 = .ok (.iconst (-1), 1) := by decide +kernel
theorem dJ1_indexOfChar_4cfef_32 : decode cJ1_indexOfChar_4cfef 32 = .ok (.ireturn, 1) := by decide +kernel
theorem dJ2_getChar_3b067_0 : decode cJ2_getChar_3b067 0 = .ok (.getstatic 44, 3) := by decide +kernel
theorem dJ2_getChar_3b067_3 : decode cJ2_getChar_3b067 3 = .ok (.ifCond .ne 25, 3) := by decide +kernel
theorem dJ2_getChar_3b067_6 : decode cJ2_getChar_3b067 6 = .ok (.iload_n 1, 1) := by decide +kernel
theorem dJ2_getChar_3b067_7 : decode cJ2_getChar_3b067 7 = .ok (.ifCond .lt 11, 3) := by decide +kernel
theorem dJ2_getChar_3b067_10 : decode cJ2_getChar_3b067 10 = .ok (.iload_n 1, 1) := by decide +kernel
theorem dJ2_getChar_3b067_11 : decode cJ2_getChar_3b067 11 = .ok (.aload_n 0, 1) := by decide +kernel
theorem dJ2_getChar_3b067_12 : decode cJ2_getChar_3b067 12 = .ok (.invokestatic 48, 3) := by decide +kernel
theorem dJ2_getChar_3b067_15 : decode cJ2_getChar_3b067 15 = .ok (.if_icmp .lt 13, 3) := by decide +kernel
theorem dJ2_getChar_3b067_18 : decode cJ2_getChar_3b067 18 = .ok (.new 52, 3) := by decide +kernel
theorem dJ2_getChar_3b067_21 : decode cJ2_getChar_3b067 21 = .ok (.dup, 1) := by decide +kernel
theorem dJ2_getChar_3b067_22 : decode cJ2_getChar_3b067 22 = .ok (.ldc 54, 2) := by decide +kernel
theorem dJ2_getChar_3b067_24 : decode cJ2_getChar_3b067 24 = .ok (.invokespecial 56, 3) := by decide +kernel
theorem dJ2_getChar_3b067_27 : decode cJ2_getChar_3b067 27 = .ok (.athrow, 1) := by decide +kernel
theorem dJ2_getChar_3b067_28 : decode cJ2_getChar_3b067 28 = .ok (.iload_n 1, 1) := by decide +kernel
theorem dJ2_getChar_3b067_29 : decode cJ2_getChar_3b067 29 = .ok (.iconst 1, 1) := by decide +kernel
theorem dJ2_getChar_3b067_30 : decode cJ2_getChar_3b067 30 = .ok (.ishl, 1) := by decide +kernel
theorem dJ2_getChar_3b067_31 : decode cJ2_getChar_3b067 31 = .ok (.istore_n 1, 1) := by decide +kernel
theorem dJ2_getChar_3b067_32 : decode cJ2_getChar_3b067 32 = .ok (.aload_n 0, 1) := by decide +kernel
theorem dJ2_getChar_3b067_33 : decode cJ2_getChar_3b067 33 = .ok (.iload_n 1, 1) := by decide +kernel
theorem dJ2_getChar_3b067_34 : decode cJ2_getChar_3b067 34 = .ok (.iinc 1 1, 3) := by decide +kernel
theorem dJ2_getChar_3b067_37 : decode cJ2_getChar_3b067 37 = .ok (.baload, 1) := by decide +kernel
theorem dJ2_getChar_3b067_38 : decode cJ2_getChar_3b067 38 = .ok (.sipush 255, 3) := by decide +kernel
theorem dJ2_getChar_3b067_41 : decode cJ2_getChar_3b067 41 = .ok (.iand, 1) := by decide +kernel
theorem dJ2_getChar_3b067_42 : decode cJ2_getChar_3b067 42 = .ok (.getstatic 59, 3) := by decide +kernel
theorem dJ2_getChar_3b067_45 : decode cJ2_getChar_3b067 45 = .ok (.ishl, 1) := by decide +kernel
theorem dJ2_getChar_3b067_46 : decode cJ2_getChar_3b067 46 = .ok (.aload_n 0, 1) := by decide +kernel
theorem dJ2_getChar_3b067_47 : decode cJ2_getChar_3b067 47 = .ok (.iload_n 1, 1) := by decide +kernel
theorem dJ2_getChar_3b067_48 : decode cJ2_getChar_3b067 48 = .ok (.baload, 1) := by decide +kernel
theorem dJ2_getChar_3b067_49 : decode cJ2_getChar_3b067 49 = .ok (.sipush 255, 3) := by decide +kernel
theorem dJ2_getChar_3b067_52 : decode cJ2_getChar_3b067 52 = .ok (.iand, 1) := by decide +kernel
theorem dJ2_getChar_3b067_53 : decode cJ2_getChar_3b067 53 = .ok (.getstatic 63, 3) := by decide +kernel
theorem dJ2_getChar_3b067_56 : decode cJ2_getChar_3b067 56 = .ok (.ishl, 1) := by decide +kernel
theorem dJ2_getChar_3b067_57 : decode cJ2_getChar_3b067 57 = .ok (.ior, 1) := by decide +kernel
theorem dJ2_getChar_3b067_58 : decode cJ2_getChar_3b067 58 = .ok (.i2c, 1) := by decide +kernel
theorem dJ2_getChar_3b067_59 : decode cJ2_getChar_3b067 59 = .ok (.ireturn, 1) := by decide +kernel
theorem dJ2_length_9d52b_0 : decode cJ2_length_9d52b 0 = .ok (.aload_n 0, 1) := by decide +kernel
theorem dJ2_length_9d52b_1 : decode cJ2_length_9d52b 1 = .ok (.arraylength, 1) := by decide +kernel
theorem dJ2_length_9d52b_2 : decode cJ2_length_9d52b 2 = .ok (.iconst 1, 1) := by decide +kernel
theorem dJ2_length_9d52b_3 : decode cJ2_length_9d52b 3 = .ok (.ishr, 1) := by decide +kernel
theorem dJ2_length_9d52b_4 : decode cJ2_length_9d52b 4 = .ok (.ireturn, 1) := by decide +kernel
theorem dJ2_indexOf_4cfef_0 : decode cJ2_indexOf_4cfef 0 = .ok (.iload_n 2, 1) := by decide +kernel
theorem dJ2_indexOf_4cfef_1 : decode cJ2_indexOf_4cfef 1 = .ok (.iconst 0, 1) := by decide +kernel
theorem dJ2_indexOf_4cfef_2 : decode cJ2_indexOf_4cfef 2 = .ok (.invokestatic 224, 3) := by decide +kernel
theorem dJ2_indexOf_4cfef_5 : decode cJ2_indexOf_4cfef 5 = .ok (.istore_n 2, 1) := by decide +kernel
theorem dJ2_indexOf_4cfef_6 : decode cJ2_indexOf_4cfef 6 = .ok (.iload_n 3, 1) := by decide +kernel
theorem dJ2_indexOf_4cfef_7 : decode cJ2_indexOf_4cfef 7 = .ok (.aload_n 0, 1) := by decide +kernel
theorem dJ2_indexOf_4cfef_8 : decode cJ2_indexOf_4cfef 8 = .ok (.arraylength, 1) := by decide +kernel
theorem dJ2_indexOf_4cfef_9 : decode cJ2_indexOf_4cfef 9 = .ok (.iconst 1, 1) := by decide +kernel
theorem dJ2_indexOf_4cfef_10 : decode cJ2_indexOf_4cfef 10 = .ok (.ishr, 1) := by decide +kernel
theorem dJ2_indexOf_4cfef_11 : decode cJ2_indexOf_4cfef 11 = .ok (.invokestatic 183, 3) := by decide +kernel
theorem dJ2_indexOf_4cfef_14 : decode cJ2_indexOf_4cfef 14 = .ok (.istore_n 3, 1) := by decide +kernel
theorem dJ2_indexOf_4cfef_15 : decode cJ2_indexOf_4cfef 15 = .ok (.iload_n 2, 1) := by decide +kernel
theorem dJ2_indexOf_4cfef_16 : decode cJ2_indexOf_4cfef 16 = .ok (.iload_n 3, 1) := by decide +kernel
theorem dJ2_indexOf_4cfef_17 : decode cJ2_indexOf_4cfef 17 = .ok (.if_icmp .lt 5, 3) := by decide +kernel
theorem dJ2_indexOf_4cfef_20 : decode cJ2_indexOf_4cfef 20 = .ok (.iconst (-1), 1) := by decide +kernel
theorem dJ2_indexOf_4cfef_21 : decode cJ2_indexOf_4cfef 21 = .ok (.ireturn, 1) := by decide +kernel
theorem dJ2_indexOf_4cfef_22 : decode cJ2_indexOf_4cfef 22 = .ok (.iload_n 1, 1) := by decide +kernel
theorem dJ2_indexOf_4cfef_23 : decode cJ2_indexOf_4cfef 23 = .ok (.ldc 227, 2) := by decide +kernel
theorem dJ2_indexOf_4cfef_25 : decode cJ2_indexOf_4cfef 25 = .ok (.if_icmp .ge 11, 3) := by decide +kernel
theorem dJ2_indexOf_4cfef_28 : decode cJ2_indexOf_4cfef 28 = .ok (.aload_n 0, 1) := by decide +kernel
theorem dJ2_indexOf_4cfef_29 : decode cJ2_indexOf_4cfef 29 = .ok (.iload_n 1, 1) := by decide +kernel
theorem dJ2_indexOf_4cfef_30 : decode cJ2_indexOf_4cfef 30 = .ok (.iload_n 2, 1) := by decide +kernel
theorem dJ2_indexOf_4cfef_31 : decode cJ2_indexOf_4cfef 31 = .ok (.iload_n 3, 1) := by decide +kernel
theorem dJ2_indexOf_4cfef_32 : decode cJ2_indexOf_4cfef 32 = .ok (.invokestatic 228, 3) := by decide +kernel
theorem dJ2_indexOf_4cfef_35 : decode cJ2_indexOf_4cfef 35 = .ok (.ireturn, 1) := by decide +kernel
theorem dJ2_indexOf_4cfef_36 : decode cJ2_indexOf_4cfef 36 = .ok (.aload_n 0, 1) := by decide +kernel
theorem dJ2_indexOf_4cfef_37 : decode cJ2_indexOf_4cfef 37 = .ok (.iload_n 1, 1) := by decide +kernel
theorem dJ2_indexOf_4cfef_38 : decode cJ2_indexOf_4cfef 38 = .ok (.iload_n 2, 1) := by decide +kernel
theorem dJ2_indexOf_4cfef_39 : decode cJ2_indexOf_4cfef 39 = .ok (.iload_n 3, 1) := by decide +kernel
theorem dJ2_indexOf_4cfef_40 : decode cJ2_indexOf_4cfef 40 = .ok (.invokestatic 232, 3) := by decide +kernel
theorem dJ2_indexOf_4cfef_43 : decode cJ2_indexOf_4cfef 43 = .ok (.ireturn, 1) := by decide +kernel
theorem dJ2_indexOfChar_4cfef_0 : decode cJ2_indexOfChar_4cfef 0 = .ok (.iload_n 2, 1) := by decide +kernel
theorem dJ2_indexOfChar_4cfef_1 : decode cJ2_indexOfChar_4cfef 1 = .ok (.iload_n 3, 1) := by decide +kernel
theorem dJ2_indexOfChar_4cfef_2 : decode cJ2_indexOfChar_4cfef 2 = .ok (.aload_n 0, 1) := by decide +kernel
theorem dJ2_indexOfChar_4cfef_3 : decode cJ2_indexOfChar_4cfef 3 = .ok (.invokestatic 96, 3) := by decide +kernel
theorem dJ2_indexOfChar_4cfef_6 : decode cJ2_indexOfChar_4cfef 6 = .ok (.aload_n 0, 1) := by decide +kernel
theorem dJ2_indexOfChar_4cfef_7 : decode cJ2_indexOfChar_4cfef 7 = .ok (.iload_n 1, 1) := by decide +kernel
theorem dJ2_indexOfChar_4cfef_8 : decode cJ2_indexOfChar_4cfef 8 = .ok (.iload_n 2, 1) := by decide +kernel
theorem dJ2_indexOfChar_4cfef_9 : decode cJ2_indexOfChar_4cfef 9 = .ok (.iload_n 3, 1) := by decide +kernel
theorem dJ2_indexOfChar_4cfef_10 : decode cJ2_indexOfChar_4cfef 10 = .ok (.invokestatic 244, 3) := by decide +kernel
theorem dJ2_indexOfChar_4cfef_13 : decode cJ2_indexOfChar_4cfef 13 = .ok (.ireturn, 1) := by decide +kernel
theorem dJ2_indexOfCharUnsafe_4cfef_0 : decode cJ2_indexOfCharUnsafe_4cfef 0 = .ok (.iload_n 2, 1) := by decide +kernel
theorem dJ2_indexOfCharUnsafe_4cfef_1 : decode cJ2_indexOfCharUnsafe_4cfef 1 = .ok (.istore 4, 2) := by decide +kernel
theorem dJ2_indexOfCharUnsafe_4cfef_3 : decode cJ2_indexOfCharUnsafe_4cfef 3 = .ok (.iload 4, 2) := by decide +kernel
theorem dJ2_indexOfCharUnsafe_4cfef_5 : decode cJ2_indexOfCharUnsafe_4cfef 5 = .ok (.iload_n 3, 1) := by decide +kernel
theorem dJ2_indexOfCharUnsafe_4cfef_6 : decode cJ2_indexOfCharUnsafe_4cfef 6 = .ok (.if_icmp .ge 22, 3) := by decide +kernel
theorem dJ2_indexOfCharUnsafe_4cfef_9 : decode cJ2_indexOfCharUnsafe_4cfef 9 = .ok (.aload_n 0, 1) := by decide +kernel
theorem dJ2_indexOfCharUnsafe_4cfef_10 : decode cJ2_indexOfCharUnsafe_4cfef 10 = .ok (.iload 4, 2) := by decide +kernel
theorem dJ2_indexOfCharUnsafe_4cfef_12 : decode cJ2_indexOfCharUnsafe_4cfef 12 = .ok (.invokestatic 71, 3) := by decide +kernel
theorem dJ2_indexOfCharUnsafe_4cfef_15 : decode cJ2_indexOfCharUnsafe_4cfef 15 = .ok (.iload_n 1, 1) := by decide +kernel
theorem dJ2_indexOfCharUnsafe_4cfef_16 : decode cJ2_indexOfCharUnsafe_4cfef 16 = .ok (.if_icmp .ne 6, 3) := by decide +kernel
theorem dJ2_indexOfCharUnsafe_4cfef_19 : decode cJ2_indexOfCharUnsafe_4cfef 19 = .ok (.iload 4, 2) := by decide +kernel
theorem dJ2_indexOfCharUnsafe_4cfef_21 : decode cJ2_indexOfCharUnsafe_4cfef 21 = .ok (.ireturn, 1) := by decide +kernel
theorem dJ2_indexOfCharUnsafe_4cfef_22 : decode cJ2_indexOfCharUnsafe_4cfef 22 = .ok (.iinc 4 1, 3) := by decide +kernel
theorem dJ2_indexOfCharUnsafe_4cfef_25 : decode cJ2_indexOfCharUnsafe_4cfef 25 = .ok (.goto (-22), 3) := by decide +kernel
theorem dJ2_indexOfCharUnsafe_4cfef_28 : decode cJ2_indexOfCharUnsafe_4cfef 28 = .ok (.iconst (-1), 1) := by decide +kernel
theorem dJ2_indexOfCharUnsafe_4cfef_29 : decode cJ2_indexOfCharUnsafe_4cfef 29 = .ok (.ireturn, 1) := by decide +kernel
theorem dJ2_indexOfSupplementary_4cfef_0 : decode cJ2_indexOfSupplementary_4cfef 0 = .ok (.iload_n 1, 1) := by decide +kernel
theorem dJ2_indexOfSupplementary_4cfef_1 : decode cJ2_indexOfSupplementary_4cfef 1 = .ok (.invokestatic 164, 3) := by decide +kernel
theorem dJ2_indexOfSupplementary_4cfef_4 : decode cJ2_indexOfSupplementary_4cfef 4 = .ok (.ifCond .eq 65, 3) := by decide +kernel
theorem dJ2_indexOfSupplementary_4cfef_7 : decode cJ2_indexOfSupplementary_4cfef 7 = .ok (.iload_n 1, 1) := by decide +kernel
theorem dJ2_indexOfSupplementary_4cfef_8 : decode cJ2_indexOfSupplementary_4cfef 8 = .ok (.invokestatic 157, 3) := by decide +kernel
theorem dJ2_indexOfSupplementary_4cfef_11 : decode cJ2_indexOfSupplementary_4cfef 11 = .ok (.istore 4, 2) := by decide +kernel
theorem dJ2_indexOfSupplementary_4cfef_13 : decode cJ2_indexOfSupplementary_4cfef 13 = .ok (.iload_n 1, 1) := by decide +kernel
theorem dJ2_indexOfSupplementary_4cfef_14 : decode cJ2_indexOfSupplementary_4cfef 14 = .ok (.invokestatic 161, 3) := by decide +kernel
theorem dJ2_indexOfSupplementary_4cfef_17 : decode cJ2_indexOfSupplementary_4cfef 17 = .ok (.istore 5, 2) := by decide +kernel
theorem dJ2_indexOfSupplementary_4cfef_19 : decode cJ2_indexOfSupplementary_4cfef 19 = .ok (.iload_n 2, 1) := by decide +kernel
theorem dJ2_indexOfSupplementary_4cfef_20 : decode cJ2_indexOfSupplementary_4cfef 20 = .ok (.iload_n 3, 1) := by decide +kernel
theorem dJ2_indexOfSupplementary_4cfef_21 : decode cJ2_indexOfSupplementary_4cfef 21 = .ok (.aload_n 0, 1) := by decide +kernel
theorem dJ2_indexOfSupplementary_4cfef_22 : decode cJ2_indexOfSupplementary_4cfef 22 = .ok (.invokestatic 96, 3) := by decide +kernel
theorem dJ2_indexOfSupplementary_4cfef_25 : decode cJ2_indexOfSupplementary_4cfef 25 = .ok (.iload_n 2, 1) := by decide +kernel
theorem dJ2_indexOfSupplementary_4cfef_26 : decode cJ2_indexOfSupplementary_4cfef 26 = .ok (.istore 6, 2) := by decide +kernel
theorem dJ2_indexOfSupplementary_4cfef_28 : decode cJ2_indexOfSupplementary_4cfef 28 = .ok (.iload 6, 2) := by decide +kernel
theorem dJ2_indexOfSupplementary_4cfef_30 : decode cJ2_indexOfSupplementary_4cfef 30 = .ok (.iload_n 3, 1) := by decide +kernel
theorem dJ2_indexOfSupplementary_4cfef_31 : decode cJ2_indexOfSupplementary_4cfef 31 = .ok (.iconst 1, 1) := by decide +kernel
theorem dJ2_indexOfSupplementary_4cfef_32 : decode cJ2_indexOfSupplementary_4cfef 32 = .ok (.isub, 1) := by decide +kernel
theorem dJ2_indexOfSupplementary_4cfef_33 : decode cJ2_indexOfSupplementary_4cfef 33 = .ok (.if_icmp .ge 36, 3) := by decide +kernel
theorem dJ2_indexOfSupplementary_4cfef_36 : decode cJ2_indexOfSupplementary_4cfef 36 = .ok (.aload_n 0, 1) := by decide +kernel
theorem dJ2_indexOfSupplementary_4cfef_37 : decode cJ2_indexOfSupplementary_4cfef 37 = .ok (.iload 6, 2) := by decide +kernel
theorem dJ2_indexOfSupplementary_4cfef_39 : decode cJ2_indexOfSupplementary_4cfef 39 = .ok (.invokestatic 71, 3) := by decide +kernel
theorem dJ2_indexOfSupplementary_4cfef_42 : decode cJ2_indexOfSupplementary_4cfef 42 = .ok (.iload 4, 2) := by decide +kernel
theorem dJ2_indexOfSupplementary_4cfef_44 : decode cJ2_indexOfSupplementary_4cfef 44 = .ok (.if_icmp .ne 19, 3) := by decide +kernel
theorem dJ2_indexOfSupplementary_4cfef_47 : decode cJ2_indexOfSupplementary_4cfef 47 = .ok (.aload_n 0, 1) := by decide +kernel
theorem dJ2_indexOfSupplementary_4cfef_48 : decode cJ2_indexOfSupplementary_4cfef 48 = .ok (.iload 6, 2) := by decide +kernel
theorem dJ2_indexOfSupplementary_4cfef_50 : decode cJ2_indexOfSupplementary_4cfef 50 = .ok (.iconst 1, 1) := by decide +kernel
theorem dJ2_indexOfSupplementary_4cfef_51 : decode cJ2_indexOfSupplementary_4cfef 51 = .ok (.iadd, 1) := by decide +kernel
theorem dJ2_indexOfSupplementary_4cfef_52 : decode cJ2_indexOfSupplementary_4cfef 52 = .ok (.invokestatic 71, 3) := by decide +kernel
theorem dJ2_indexOfSupplementary_4cfef_55 : decode cJ2_indexOfSupplementary_4cfef 55 = .ok (.iload 5, 2) := by decide +kernel
theorem dJ2_indexOfSupplementary_4cfef_57 : decode cJ2_indexOfSupplementary_4cfef 57 = .ok (.if_icmp .ne 6, 3) := by decide +kernel
theorem dJ2_indexOfSupplementary_4cfef_60 : decode cJ2_indexOfSupplementary_4cfef 60 = .ok (.iload 6, 2) := by decide +kernel
theorem dJ2_indexOfSupplementary_4cfef_62 : decode cJ2_indexOfSupplementary_4cfef 62 = .ok (.ireturn, 1) := by decide +kernel
theorem dJ2_indexOfSupplementary_4cfef_63 : decode cJ2_indexOfSupplementary_4cfef 63 = .ok (.iinc 6 1, 3) := by decide +kernel
theorem dJ2_indexOfSupplementary_4cfef_66 : decode cJ2_indexOfSupplementary_4cfef 66 = .ok (.goto (-38), 3) := by decide +kernel
theorem dJ2_indexOfSupplementary_4cfef_69 : decode cJ2_indexOfSupplementary_4cfef 69 = .ok (.iconst (-1), 1) := by decide +kernel
theorem dJ2_indexOfSupplementary_4cfef_70 : decode cJ2_indexOfSupplementary_4cfef 70 = .ok (.ireturn, 1) := by decide +kernel
theorem dJ2_charAt_3b067_0 : decode cJ2_charAt_3b067 0 = .ok (.iload_n 1, 1) := by decide +kernel
theorem dJ2_charAt_3b067_1 : decode cJ2_charAt_3b067 1 = .ok (.aload_n 0, 1) := by decide +kernel
theorem dJ2_charAt_3b067_2 : decode cJ2_charAt_3b067 2 = .ok (.invokestatic 67, 3) := by decide +kernel
theorem dJ2_charAt_3b067_5 : decode cJ2_charAt_3b067 5 = .ok (.aload_n 0, 1) := by decide +kernel
theorem dJ2_charAt_3b067_6 : decode cJ2_charAt_3b067 6 = .ok (.iload_n 1, 1) := by decide +kernel
theorem dJ2_charAt_3b067_7 : decode cJ2_charAt_3b067 7 = .ok (.invokestatic 71, 3) := by decide +kernel
theorem dJ2_charAt_3b067_10 : decode cJ2_charAt_3b067 10 = .ok (.ireturn, 1) := by decide +kernel
theorem dJ2_checkIndex_2214a_0 : decode cJ2_checkIndex_2214a 0 = .ok (.iload_n 0, 1) := by decide +kernel
theorem dJ2_checkIndex_2214a_1 : decode cJ2_checkIndex_2214a 1 = .ok (.aload_n 1, 1) := by decide +kernel
theorem dJ2_checkIndex_2214a_2 : decode cJ2_checkIndex_2214a 2 = .ok (.invokestatic 48, 3) := by decide +kernel
theorem dJ2_checkIndex_2214a_5 : decode cJ2_checkIndex_2214a 5 = .ok (.invokestatic 414, 3) := by decide +kernel
theorem dJ2_checkIndex_2214a_8 : decode cJ2_checkIndex_2214a 8 = .ok (.return_, 1) := by decide +kernel
theorem dJ2_checkBoundsBeginEnd_d044e_0 : decode cJ2_checkBoundsBeginEnd_d044e 0 = .ok (.iload_n 0, 1) := by decide +kernel
theorem dJ2_checkBoundsBeginEnd_d044e_1 : decode cJ2_checkBoundsBeginEnd_d044e 1 = .ok (.iload_n 1, 1) := by decide +kernel
theorem dJ2_checkBoundsBeginEnd_d044e_2 : decode cJ2_checkBoundsBeginEnd_d044e 2 = .ok (.aload_n 2, 1) := by decide +kernel
theorem dJ2_checkBoundsBeginEnd_d044e_3 : decode cJ2_checkBoundsBeginEnd_d044e 3 = .ok (.invokestatic 48, 3) := by decide +kernel
theorem dJ2_checkBoundsBeginEnd_d044e_6 : decode cJ2_checkBoundsBeginEnd_d044e 6 = .ok (.invokestatic 241, 3) := by decide +kernel
theorem dJ2_checkBoundsBeginEnd_d044e_9 : decode cJ2_checkBoundsBeginEnd_d044e 9 = .ok (.return_, 1) := by decide +kernel
theorem dJxa1e45_init_da8c8_0 : decode cJxa1e45_init_da8c8 0 = .ok (.aload_n 0, 1) := by decide +kernel
theorem dJxa1e45_init_da8c8_1 : decode cJxa1e45_init_da8c8 1 = .ok (.invokespecial 1, 3) := by decide +kernel
theorem dJxa1e45_init_da8c8_4 : decode cJxa1e45_init_da8c8 4 = .ok (.return_, 1) := by decide +kernel
theorem dJxc12de_init_da8c8_0 : decode cJxc12de_init_da8c8 0 = .ok (.aload_n 0, 1) := by decide +kernel
theorem dJxc12de_init_da8c8_1 : decode cJxc12de_init_da8c8 1 = .ok (.invokespecial 1, 3) := by decide +kernel
theorem dJxc12de_init_da8c8_4 : decode cJxc12de_init_da8c8 4 = .ok (.aload_n 0, 1) := by decide +kernel
theorem dJxc12de_init_da8c8_5 : decode cJxc12de_init_da8c8 5 = .ok (.iconst 0, 1) := by decide +kernel
theorem dJxc12de_init_da8c8_6 : decode cJxc12de_init_da8c8 6 = .ok (.putfield 7, 3) := by decide +kernel
theorem dJxc12de_init_da8c8_9 : decode cJxc12de_init_da8c8 9 = .ok (.return_, 1) := by decide +kernel
theorem dJx35411_init_45d68_0 : decode cJx35411_init_45d68 0 = .ok (.aload_n 0, 1) := by decide +kernel
theorem dJx35411_init_45d68_1 : decode cJx35411_init_45d68 1 = .ok (.aload_n 1, 1) := by decide +kernel
theorem dJx35411_init_45d68_2 : decode cJx35411_init_45d68 2 = .ok (.putfield 1, 3) := by decide +kernel
theorem dJx35411_init_45d68_5 : decode cJx35411_init_45d68 5 = .ok (.aload_n 0, 1) := by decide +kernel
theorem dJx35411_init_45d68_6 : decode cJx35411_init_45d68 6 = .ok (.invokespecial 7, 3) := by decide +kernel
theorem dJx35411_init_45d68_9 : decode cJx35411_init_45d68 9 = .ok (.aload_n 0, 1) := by decide +kernel
theorem dJx35411_init_45d68_10 : decode cJx35411_init_45d68 10 = .ok (.iconst (-1), 1) := by decide +kernel
theorem dJx35411_init_45d68_11 : decode cJx35411_init_45d68 11 = .ok (.putfield 13, 3) := by decide +kernel
theorem dJx35411_init_45d68_14 : decode cJx35411_init_45d68 14 = .ok (.aload_n 0, 1) := by decide +kernel
theorem dJx35411_init_45d68_15 : decode cJx35411_init_45d68 15 = .ok (.aload_n 0, 1) := by decide +kernel
theorem dJx35411_init_45d68_16 : decode cJx35411_init_45d68 16 = .ok (.getfield 1, 3) := by decide +kernel
theorem dJx35411_init_45d68_19 : decode cJx35411_init_45d68 19 = .ok (.getfield 17, 3) := by decide +kernel
theorem dJx35411_init_45d68_22 : decode cJx35411_init_45d68 22 = .ok (.putfield 22, 3) := by decide +kernel
theorem dJx35411_init_45d68_25 : decode cJx35411_init_45d68 25 = .ok (.return_, 1) := by decide +kernel
theorem dJx35411_hasNext_aae02_0 : decode cJx35411_hasNext_aae02 0 = .ok (.aload_n 0, 1) := by decide +kernel
theorem dJx35411_hasNext_aae02_1 : decode cJx35411_hasNext_aae02 1 = .ok (.getfield 25, 3) := by decide +kernel
theorem dJx35411_hasNext_aae02_4 : decode cJx35411_hasNext_aae02 4 = .ok (.aload_n 0, 1) := by decide +kernel
theorem dJx35411_hasNext_aae02_5 : decode cJx35411_hasNext_aae02 5 = .ok (.getfield 1, 3) := by decide +kernel
theorem dJx35411_hasNext_aae02_8 : decode cJx35411_hasNext_aae02 8 = .ok (.getfield 28, 3) := by decide +kernel
theorem dJx35411_hasNext_aae02_11 : decode cJx35411_hasNext_aae02 11 = .ok (.if_icmp .eq 7, 3) := by decide +kernel
theorem dJx35411_hasNext_aae02_14 : decode cJx35411_hasNext_aae02 14 = .ok (.iconst 1, 1) := by decide +kernel
theorem dJx35411_hasNext_aae02_15 : decode cJx35411_hasNext_aae02 15 = .ok (.goto 4, 3) := by decide +kernel
theorem dJx35411_hasNext_aae02_18 : decode cJx35411_hasNext_aae02 18 = .ok (.iconst 0, 1) := by decide +kernel
theorem dJx35411_hasNext_aae02_19 : decode cJx35411_hasNext_aae02 19 = .ok (.ireturn, 1) := by decide +kernel
theorem dJx35411_next_0502b_0 : decode cJx35411_next_0502b 0 = .ok (.aload_n 0, 1) := by decide +kernel
theorem dJx35411_next_0502b_1 : decode cJx35411_next_0502b 1 = .ok (.invokevirtual 31, 3) := by decide +kernel
theorem dJx35411_next_0502b_4 : decode cJx35411_next_0502b 4 = .ok (.aload_n 0, 1) := by decide +kernel
theorem dJx35411_next_0502b_5 : decode cJx35411_next_0502b 5 = .ok (.getfield 25, 3) := by decide +kernel
theorem dJx35411_next_0502b_8 : decode cJx35411_next_0502b 8 = .ok (.istore_n 1, 1) := by decide +kernel
theorem dJx35411_next_0502b_9 : decode cJx35411_next_0502b 9 = .ok (.iload_n 1, 1) := by decide +kernel
theorem dJx35411_next_0502b_10 : decode cJx35411_next_0502b 10 = .ok (.aload_n 0, 1) := by decide +kernel
theorem dJx35411_next_0502b_11 : decode cJx35411_next_0502b 11 = .ok (.getfield 1, 3) := by decide +kernel
theorem dJx35411_next_0502b_14 : decode cJx35411_next_0502b 14 = .ok (.getfield 28, 3) := by decide +kernel
theorem dJx35411_next_0502b_17 : decode cJx35411_next_0502b 17 = .ok (.if_icmp .lt 11, 3) := by decide +kernel
theorem dJx35411_next_0502b_20 : decode cJx35411_next_0502b 20 = .ok (.new 34, 3) := by decide +kernel
theorem dJx35411_next_0502b_23 : decode cJx35411_next_0502b 23 = .ok (.dup, 1) := by decide +kernel
theorem dJx35411_next_0502b_24 : decode cJx35411_next_0502b 24 = .ok (.invokespecial 36, 3) := by decide +kernel
theorem dJx35411_next_0502b_27 : decode cJx35411_next_0502b 27 = .ok (.athrow, 1) := by decide +kernel
theorem dJx35411_next_0502b_28 : decode cJx35411_next_0502b 28 = .ok (.aload_n 0, 1) := by decide +kernel
theorem dJx35411_next_0502b_29 : decode cJx35411_next_0502b 29 = .ok (.getfield 1, 3) := by decide +kernel
theorem dJx35411_next_0502b_32 : decode cJx35411_next_0502b 32 = .ok (.getfield 37, 3) := by decide +kernel
theorem dJx35411_next_0502b_35 : decode cJx35411_next_0502b 35 = .ok (.astore_n 2, 1) := by decide +kernel
theorem dJx35411_next_0502b_36 : decode cJx35411_next_0502b 36 = .ok (.iload_n 1, 1) := by decide +kernel
theorem dJx35411_next_0502b_37 : decode cJx35411_next_0502b 37 = .ok (.aload_n 2, 1) := by decide +kernel
theorem dJx35411_next_0502b_38 : decode cJx35411_next_0502b 38 = .ok (.arraylength, 1) := by decide +kernel
theorem dJx35411_next_0502b_39 : decode cJx35411_next_0502b 39 = .ok (.if_icmp .lt 11, 3) := by decide +kernel
theorem dJx35411_next_0502b_42 : decode cJx35411_next_0502b 42 = .ok (.new 41, 3) := by decide +kernel
theorem dJx35411_next_0502b_45 : decode cJx35411_next_0502b 45 = .ok (.dup, 1) := by decide +kernel
theorem dJx35411_next_0502b_46 : decode cJx35411_next_0502b 46 = .ok (.invokespecial 43, 3) := by decide +kernel
theorem dJx35411_next_0502b_49 : decode cJx35411_next_0502b 49 = .ok (.athrow, 1) := by decide +kernel
theorem dJx35411_next_0502b_50 : decode cJx35411_next_0502b 50 = .ok (.aload_n 0, 1) := by decide +kernel
theorem dJx35411_next_0502b_51 : decode cJx35411_next_0502b 51 = .ok (.iload_n 1, 1) := by decide +kernel
theorem dJx35411_next_0502b_52 : decode cJx35411_next_0502b 52 = .ok (.iconst 1, 1) := by decide +kernel
theorem dJx35411_next_0502b_53 : decode cJx35411_next_0502b 53 = .ok (.iadd, 1) := by decide +kernel
theorem dJx35411_next_0502b_54 : decode cJx35411_next_0502b 54 = .ok (.putfield 25, 3) := by decide +kernel
theorem dJx35411_next_0502b_57 : decode cJx35411_next_0502b 57 = .ok (.aload_n 2, 1) := by decide +kernel
theorem dJx35411_next_0502b_58 : decode cJx35411_next_0502b 58 = .ok (.aload_n 0, 1) := by decide +kernel
theorem dJx35411_next_0502b_59 : decode cJx35411_next_0502b 59 = .ok (.iload_n 1, 1) := by decide +kernel
theorem dJx35411_next_0502b_60 : decode cJx35411_next_0502b 60 = .ok (.dup_x1, 1) := by decide +kernel
theorem dJx35411_next_0502b_61 : decode cJx35411_next_0502b 61 = .ok (.putfield 13, 3) := by decide +kernel
theorem dJx35411_next_0502b_64 : decode cJx35411_next_0502b 64 = .ok (.aaload, 1) := by decide +kernel
theorem dJx35411_next_0502b_65 : decode cJx35411_next_0502b 65 = .ok (.areturn, 1) := by decide +kernel
theorem dJx35411_checkForComodification_da8c8_0 : decode cJx35411_checkForComodification_da8c8 0 = .ok (.aload_n 0, 1) := by decide +kernel
theorem dJx35411_checkForComodification_da8c8_1 : decode cJx35411_checkForComodification_da8c8 1 = .ok (.getfield 1, 3) := by decide +kernel
theorem dJx35411_checkForComodification_da8c8_4 : decode cJx35411_checkForComodification_da8c8 4 = .ok (.getfield 17, 3) := by decide +kernel
theorem dJx35411_checkForComodification_da8c8_7 : decode cJx35411_checkForComodification_da8c8 7 = .ok (.aload_n 0, 1) := by decide +kernel
theorem dJx35411_checkForComodification_da8c8_8 : decode cJx35411_checkForComodification_da8c8 8 = .ok (.getfield 22, 3) := by decide +kernel
theorem dJx35411_checkForComodification_da8c8_11 : decode cJx35411_checkForComodification_da8c8 11 = .ok (.if_icmp .eq 11, 3) := by decide +kernel
theorem dJx35411_checkForComodification_da8c8_14 : decode cJx35411_checkForComodification_da8c8 14 = .ok (.new 41, 3) := by decide +kernel
theorem dJx35411_checkForComodification_da8c8_17 : decode cJx35411_checkForComodification_da8c8 17 = .ok (.dup, 1) := by decide +kernel
theorem dJx35411_checkForComodification_da8c8_18 : decode cJx35411_checkForComodification_da8c8 18 = .ok (.invokespecial 43, 3) := by decide +kernel
theorem dJx35411_checkForComodification_da8c8_21 : decode cJx35411_checkForComodification_da8c8 21 = .ok (.athrow, 1) := by decide +kernel
theorem dJx35411_checkForComodification_da8c8_22 : decode cJx35411_checkForComodification_da8c8 22 = .ok (.return_, 1) := by decide +kernel
theorem dJx4a65c_init_da8c8_0 : decode cJx4a65c_init_da8c8 0 = .ok (.aload_n 0, 1) := by decide +kernel
theorem dJx4a65c_init_da8c8_1 : decode cJx4a65c_init_da8c8 1 = .ok (.invokespecial 1, 3) := by decide +kernel
theorem dJx4a65c_init_da8c8_4 : decode cJx4a65c_init_da8c8 4 = .ok (.aload_n 0, 1) := by decide +kernel
theorem dJx4a65c_init_da8c8_5 : decode cJx4a65c_init_da8c8 5 = .ok (.getstatic 39, 3) := by decide +kernel
theorem dJx4a65c_init_da8c8_8 : decode cJx4a65c_init_da8c8 8 = .ok (.putfield 9, 3) := by decide +kernel
theorem dJx4a65c_init_da8c8_11 : decode cJx4a65c_init_da8c8 11 = .ok (.return_, 1) := by decide +kernel
theorem dJx4a65c_grow_92f84_0 : decode cJx4a65c_grow_92f84 0 = .ok (.aload_n 0, 1) := by decide +kernel
theorem dJx4a65c_grow_92f84_1 : decode cJx4a65c_grow_92f84 1 = .ok (.getfield 9, 3) := by decide +kernel
theorem dJx4a65c_grow_92f84_4 : decode cJx4a65c_grow_92f84 4 = .ok (.arraylength, 1) := by decide +kernel
theorem dJx4a65c_grow_92f84_5 : decode cJx4a65c_grow_92f84 5 = .ok (.istore_n 2, 1) := by decide +kernel
theorem dJx4a65c_grow_92f84_6 : decode cJx4a65c_grow_92f84 6 = .ok (.iload_n 2, 1) := by decide +kernel
theorem dJx4a65c_grow_92f84_7 : decode cJx4a65c_grow_92f84 7 = .ok (.ifCond .gt 13, 3) := by decide +kernel
theorem dJx4a65c_grow_92f84_10 : decode cJx4a65c_grow_92f84 10 = .ok (.aload_n 0, 1) := by decide +kernel
theorem dJx4a65c_grow_92f84_11 : decode cJx4a65c_grow_92f84 11 = .ok (.getfield 9, 3) := by decide +kernel
theorem dJx4a65c_grow_92f84_14 : decode cJx4a65c_grow_92f84 14 = .ok (.getstatic 39, 3) := by decide +kernel
theorem dJx4a65c_grow_92f84_17 : decode cJx4a65c_grow_92f84 17 = .ok (.if_acmp .eq 28, 3) := by decide +kernel
theorem dJx4a65c_grow_92f84_20 : decode cJx4a65c_grow_92f84 20 = .ok (.iload_n 2, 1) := by decide +kernel
theorem dJx4a65c_grow_92f84_21 : decode cJx4a65c_grow_92f84 21 = .ok (.iload_n 1, 1) := by decide +kernel
theorem dJx4a65c_grow_92f84_22 : decode cJx4a65c_grow_92f84 22 = .ok (.iload_n 2, 1) := by decide +kernel
theorem dJx4a65c_grow_92f84_23 : decode cJx4a65c_grow_92f84 23 = .ok (.isub, 1) := by decide +kernel
theorem dJx4a65c_grow_92f84_24 : decode cJx4a65c_grow_92f84 24 = .ok (.iload_n 2, 1) := by decide +kernel
theorem dJx4a65c_grow_92f84_25 : decode cJx4a65c_grow_92f84 25 = .ok (.iconst 1, 1) := by decide +kernel
theorem dJx4a65c_grow_92f84_26 : decode cJx4a65c_grow_92f84 26 = .ok (.ishr, 1) := by decide +kernel
theorem dJx4a65c_grow_92f84_27 : decode cJx4a65c_grow_92f84 27 = .ok (.invokestatic 73, 3) := by decide +kernel
theorem dJx4a65c_grow_92f84_30 : decode cJx4a65c_grow_92f84 30 = .ok (.istore_n 3, 1) := by decide +kernel
theorem dJx4a65c_grow_92f84_31 : decode cJx4a65c_grow_92f84 31 = .ok (.aload_n 0, 1) := by decide +kernel
theorem dJx4a65c_grow_92f84_32 : decode cJx4a65c_grow_92f84 32 = .ok (.aload_n 0, 1) := by decide +kernel
theorem dJx4a65c_grow_92f84_33 : decode cJx4a65c_grow_92f84 33 = .ok (.getfield 9, 3) := by decide +kernel
theorem dJx4a65c_grow_92f84_36 : decode cJx4a65c_grow_92f84 36 = .ok (.iload_n 3, 1) := by decide +kernel
theorem dJx4a65c_grow_92f84_37 : decode cJx4a65c_grow_92f84 37 = .ok (.invokestatic 66, 3) := by decide +kernel
theorem dJx4a65c_grow_92f84_40 : decode cJx4a65c_grow_92f84 40 = .ok (.dup_x1, 1) := by decide +kernel
theorem dJx4a65c_grow_92f84_41 : decode cJx4a65c_grow_92f84 41 = .ok (.putfield 9, 3) := by decide +kernel
theorem dJx4a65c_grow_92f84_44 : decode cJx4a65c_grow_92f84 44 = .ok (.areturn, 1) := by decide +kernel
theorem dJx4a65c_grow_92f84_45 : decode cJx4a65c_grow_92f84 45 = .ok (.aload_n 0, 1) := by decide +kernel
theorem dJx4a65c_grow_92f84_46 : decode cJx4a65c_grow_92f84 46 = .ok (.bipush 10, 2) := by decide +kernel
theorem dJx4a65c_grow_92f84_48 : decode cJx4a65c_grow_92f84 48 = .ok (.iload_n 1, 1) := by decide +kernel
theorem dJx4a65c_grow_92f84_49 : decode cJx4a65c_grow_92f84 49 = .ok (.invokestatic 79, 3) := by decide +kernel
theorem dJx4a65c_grow_92f84_52 : decode cJx4a65c_grow_92f84 52 = .ok (.anewarray 7, 3) := by decide +kernel
theorem dJx4a65c_grow_92f84_55 : decode cJx4a65c_grow_92f84 55 = .ok (.dup_x1, 1) := by decide +kernel
theorem dJx4a65c_grow_92f84_56 : decode cJx4a65c_grow_92f84 56 = .ok (.putfield 9, 3) := by decide +kernel
theorem dJx4a65c_grow_92f84_59 : decode cJx4a65c_grow_92f84 59 = .ok (.areturn, 1) := by decide +kernel
theorem dJx4a65c_grow_d5877_0 : decode cJx4a65c_grow_d5877 0 = .ok (.aload_n 0, 1) := by decide +kernel
theorem dJx4a65c_grow_d5877_1 : decode cJx4a65c_grow_d5877 1 = .ok (.aload_n 0, 1) := by decide +kernel
theorem dJx4a65c_grow_d5877_2 : decode cJx4a65c_grow_d5877 2 = .ok (.getfield 48, 3) := by decide +kernel
theorem dJx4a65c_grow_d5877_5 : decode cJx4a65c_grow_d5877 5 = .ok (.iconst 1, 1) := by decide +kernel
theorem dJx4a65c_grow_d5877_6 : decode cJx4a65c_grow_d5877 6 = .ok (.iadd, 1) := by decide +kernel
theorem dJx4a65c_grow_d5877_7 : decode cJx4a65c_grow_d5877 7 = .ok (.invokevirtual 69, 3) := by decide +kernel
theorem dJx4a65c_grow_d5877_10 : decode cJx4a65c_grow_d5877 10 = .ok (.areturn, 1) := by decide +kernel
theorem dJx4a65c_size_8abf5_0 : decode cJx4a65c_size_8abf5 0 = .ok (.aload_n 0, 1) := by decide +kernel
theorem dJx4a65c_size_8abf5_1 : decode cJx4a65c_size_8abf5 1 = .ok (.getfield 48, 3) := by decide +kernel
theorem dJx4a65c_size_8abf5_4 : decode cJx4a65c_size_8abf5 4 = .ok (.ireturn, 1) := by decide +kernel
theorem dJx4a65c_isEmpty_aae02_0 : decode cJx4a65c_isEmpty_aae02 0 = .ok (.aload_n 0, 1) := by decide +kernel
theorem dJx4a65c_isEmpty_aae02_1 : decode cJx4a65c_isEmpty_aae02 1 = .ok (.getfield 48, 3) := by decide +kernel
theorem dJx4a65c_isEmpty_aae02_4 : decode cJx4a65c_isEmpty_aae02 4 = .ok (.ifCond .ne 7, 3) := by decide +kernel
theorem dJx4a65c_isEmpty_aae02_7 : decode cJx4a65c_isEmpty_aae02 7 = .ok (.iconst 1, 1) := by decide +kernel
theorem dJx4a65c_isEmpty_aae02_8 : decode cJx4a65c_isEmpty_aae02 8 = .ok (.goto 4, 3) := by decide +kernel
theorem dJx4a65c_isEmpty_aae02_11 : decode cJx4a65c_isEmpty_aae02 11 = .ok (.iconst 0, 1) := by decide +kernel
theorem dJx4a65c_isEmpty_aae02_12 : decode cJx4a65c_isEmpty_aae02 12 = .ok (.ireturn, 1) := by decide +kernel
theorem dJx4a65c_toArray_d5877_0 : decode cJx4a65c_toArray_d5877 0 = .ok (.aload_n 0, 1) := by decide +kernel
theorem dJx4a65c_toArray_d5877_1 : decode cJx4a65c_toArray_d5877 1 = .ok (.getfield 9, 3) := by decide +kernel
theorem dJx4a65c_toArray_d5877_4 : decode cJx4a65c_toArray_d5877 4 = .ok (.aload_n 0, 1) := by decide +kernel
theorem dJx4a65c_toArray_d5877_5 : decode cJx4a65c_toArray_d5877 5 = .ok (.getfield 48, 3) := by decide +kernel
theorem dJx4a65c_toArray_d5877_8 : decode cJx4a65c_toArray_d5877 8 = .ok (.invokestatic 66, 3) := by decide +kernel
theorem dJx4a65c_toArray_d5877_11 : decode cJx4a65c_toArray_d5877 11 = .ok (.areturn, 1) := by decide +kernel
theorem dJx4a65c_elementData_915e3_0 : decode cJx4a65c_elementData_915e3 0 = .ok (.aload_n 0, 1) := by decide +kernel
theorem dJx4a65c_elementData_915e3_1 : decode cJx4a65c_elementData_915e3 1 = .ok (.getfield 9, 3) := by decide +kernel
theorem dJx4a65c_elementData_915e3_4 : decode cJx4a65c_elementData_915e3 4 = .ok (.iload_n 1, 1) := by decide +kernel
theorem dJx4a65c_elementData_915e3_5 : decode cJx4a65c_elementData_915e3 5 = .ok (.aaload, 1) := by decide +kernel
theorem dJx4a65c_elementData_915e3_6 : decode cJx4a65c_elementData_915e3 6 = .ok (.areturn, 1) := by decide +kernel
theorem dJx4a65c_get_915e3_0 : decode cJx4a65c_get_915e3 0 = .ok (.iload_n 1, 1) := by decide +kernel
theorem dJx4a65c_get_915e3_1 : decode cJx4a65c_get_915e3 1 = .ok (.aload_n 0, 1) := by decide +kernel
theorem dJx4a65c_get_915e3_2 : decode cJx4a65c_get_915e3 2 = .ok (.getfield 48, 3) := by decide +kernel
theorem dJx4a65c_get_915e3_5 : decode cJx4a65c_get_915e3 5 = .ok (.invokestatic 118, 3) := by decide +kernel
theorem dJx4a65c_get_915e3_8 : decode cJx4a65c_get_915e3 8 = .ok (.pop, 1) := by decide +kernel
theorem dJx4a65c_get_915e3_9 : decode cJx4a65c_get_915e3 9 = .ok (.aload_n 0, 1) := by decide +kernel
theorem dJx4a65c_get_915e3_10 : decode cJx4a65c_get_915e3 10 = .ok (.iload_n 1, 1) := by decide +kernel
theorem dJx4a65c_get_915e3_11 : decode cJx4a65c_get_915e3 11 = .ok (.invokevirtual 123, 3) := by decide +kernel
theorem dJx4a65c_get_915e3_14 : decode cJx4a65c_get_915e3 14 = .ok (.areturn, 1) := by decide +kernel
theorem dJx4a65c_add_72be8_0 : decode cJx4a65c_add_72be8 0 = .ok (.iload_n 3, 1) := by decide +kernel
theorem dJx4a65c_add_72be8_1 : decode cJx4a65c_add_72be8 1 = .ok (.aload_n 2, 1) := by decide +kernel
theorem dJx4a65c_add_72be8_2 : decode cJx4a65c_add_72be8 2 = .ok (.arraylength, 1) := by decide +kernel
theorem dJx4a65c_add_72be8_3 : decode cJx4a65c_add_72be8 3 = .ok (.if_icmp .ne 8, 3) := by decide +kernel
theorem dJx4a65c_add_72be8_6 : decode cJx4a65c_add_72be8 6 = .ok (.aload_n 0, 1) := by decide +kernel
theorem dJx4a65c_add_72be8_7 : decode cJx4a65c_add_72be8 7 = .ok (.invokevirtual 129, 3) := by decide +kernel
theorem dJx4a65c_add_72be8_10 : decode cJx4a65c_add_72be8 10 = .ok (.astore_n 2, 1) := by decide +kernel
theorem dJx4a65c_add_72be8_11 : decode cJx4a65c_add_72be8 11 = .ok (.aload_n 2, 1) := by decide +kernel
theorem dJx4a65c_add_72be8_12 : decode cJx4a65c_add_72be8 12 = .ok (.iload_n 3, 1) := by decide +kernel
theorem dJx4a65c_add_72be8_13 : decode cJx4a65c_add_72be8 13 = .ok (.aload_n 1, 1) := by decide +kernel
theorem dJx4a65c_add_72be8_14 : decode cJx4a65c_add_72be8 14 = .ok (.aastore, 1) := by decide +kernel
theorem dJx4a65c_add_72be8_15 : decode cJx4a65c_add_72be8 15 = .ok (.aload_n 0, 1) := by decide +kernel
theorem dJx4a65c_add_72be8_16 : decode cJx4a65c_add_72be8 16 = .ok (.iload_n 3, 1) := by decide +kernel
theorem dJx4a65c_add_72be8_17 : decode cJx4a65c_add_72be8 17 = .ok (.iconst 1, 1) := by decide +kernel
theorem dJx4a65c_add_72be8_18 : decode cJx4a65c_add_72be8 18 = .ok (.iadd, 1) := by decide +kernel
theorem dJx4a65c_add_72be8_19 : decode cJx4a65c_add_72be8 19 = .ok (.putfield 48, 3) := by decide +kernel
theorem dJx4a65c_add_72be8_22 : decode cJx4a65c_add_72be8 22 = .ok (.return_, 1) := by decide +kernel
theorem dJx4a65c_add_9ea2d_0 : decode cJx4a65c_add_9ea2d 0 = .ok (.aload_n 0, 1) := by decide +kernel
theorem dJx4a65c_add_9ea2d_1 : decode cJx4a65c_add_9ea2d 1 = .ok (.dup, 1) := by decide +kernel
theorem dJx4a65c_add_9ea2d_2 : decode cJx4a65c_add_9ea2d 2 = .ok (.getfield 63, 3) := by decide +kernel
theorem dJx4a65c_add_9ea2d_5 : decode cJx4a65c_add_9ea2d 5 = .ok (.iconst 1, 1) := by decide +kernel
theorem dJx4a65c_add_9ea2d_6 : decode cJx4a65c_add_9ea2d 6 = .ok (.iadd, 1) := by decide +kernel
theorem dJx4a65c_add_9ea2d_7 : decode cJx4a65c_add_9ea2d 7 = .ok (.putfield 63, 3) := by decide +kernel
theorem dJx4a65c_add_9ea2d_10 : decode cJx4a65c_add_9ea2d 10 = .ok (.aload_n 0, 1) := by decide +kernel
theorem dJx4a65c_add_9ea2d_11 : decode cJx4a65c_add_9ea2d 11 = .ok (.aload_n 1, 1) := by decide +kernel
theorem dJx4a65c_add_9ea2d_12 : decode cJx4a65c_add_9ea2d 12 = .ok (.aload_n 0, 1) := by decide +kernel
theorem dJx4a65c_add_9ea2d_13 : decode cJx4a65c_add_9ea2d 13 = .ok (.getfield 9, 3) := by decide +kernel
theorem dJx4a65c_add_9ea2d_16 : decode cJx4a65c_add_9ea2d 16 = .ok (.aload_n 0, 1) := by decide +kernel
theorem dJx4a65c_add_9ea2d_17 : decode cJx4a65c_add_9ea2d 17 = .ok (.getfield 48, 3) := by decide +kernel
theorem dJx4a65c_add_9ea2d_20 : decode cJx4a65c_add_9ea2d 20 = .ok (.invokevirtual 131, 3) := by decide +kernel
theorem dJx4a65c_add_9ea2d_23 : decode cJx4a65c_add_9ea2d 23 = .ok (.iconst 1, 1) := by decide +kernel
theorem dJx4a65c_add_9ea2d_24 : decode cJx4a65c_add_9ea2d 24 = .ok (.ireturn, 1) := by decide +kernel
theorem dJx4a65c_remove_915e3_0 : decode cJx4a65c_remove_915e3 0 = .ok (.iload_n 1, 1) := by decide +kernel
theorem dJx4a65c_remove_915e3_1 : decode cJx4a65c_remove_915e3 1 = .ok (.aload_n 0, 1) := by decide +kernel
theorem dJx4a65c_remove_915e3_2 : decode cJx4a65c_remove_915e3 2 = .ok (.getfield 48, 3) := by decide +kernel
theorem dJx4a65c_remove_915e3_5 : decode cJx4a65c_remove_915e3 5 = .ok (.invokestatic 118, 3) := by decide +kernel
theorem dJx4a65c_remove_915e3_8 : decode cJx4a65c_remove_915e3 8 = .ok (.pop, 1) := by decide +kernel
theorem dJx4a65c_remove_915e3_9 : decode cJx4a65c_remove_915e3 9 = .ok (.aload_n 0, 1) := by decide +kernel
theorem dJx4a65c_remove_915e3_10 : decode cJx4a65c_remove_915e3 10 = .ok (.getfield 9, 3) := by decide +kernel
theorem dJx4a65c_remove_915e3_13 : decode cJx4a65c_remove_915e3 13 = .ok (.astore_n 2, 1) := by decide +kernel
theorem dJx4a65c_remove_915e3_14 : decode cJx4a65c_remove_915e3 14 = .ok (.aload_n 2, 1) := by decide +kernel
theorem dJx4a65c_remove_915e3_15 : decode cJx4a65c_remove_915e3 15 = .ok (.iload_n 1, 1) := by decide +kernel
theorem dJx4a65c_remove_915e3_16 : decode cJx4a65c_remove_915e3 16 = .ok (.aaload, 1) := by decide +kernel
theorem dJx4a65c_remove_915e3_17 : decode cJx4a65c_remove_915e3 17 = .ok (.astore_n 3, 1) := by decide +kernel
theorem dJx4a65c_remove_915e3_18 : decode cJx4a65c_remove_915e3 18 = .ok (.aload_n 0, 1) := by decide +kernel
theorem dJx4a65c_remove_915e3_19 : decode cJx4a65c_remove_915e3 19 = .ok (.aload_n 2, 1) := by decide +kernel
theorem dJx4a65c_remove_915e3_20 : decode cJx4a65c_remove_915e3 20 = .ok (.iload_n 1, 1) := by decide +kernel
theorem dJx4a65c_remove_915e3_21 : decode cJx4a65c_remove_915e3 21 = .ok (.invokevirtual 144, 3) := by decide +kernel
theorem dJx4a65c_remove_915e3_24 : decode cJx4a65c_remove_915e3 24 = .ok (.aload_n 3, 1) := by decide +kernel
theorem dJx4a65c_remove_915e3_25 : decode cJx4a65c_remove_915e3 25 = .ok (.areturn, 1) := by decide +kernel
theorem dJx4a65c_fastRemove_b59b0_0 : decode cJx4a65c_fastRemove_b59b0 0 = .ok (.aload_n 0, 1) := by decide +kernel
theorem dJx4a65c_fastRemove_b59b0_1 : decode cJx4a65c_fastRemove_b59b0 1 = .ok (.dup, 1) := by decide +kernel
theorem dJx4a65c_fastRemove_b59b0_2 : decode cJx4a65c_fastRemove_b59b0 2 = .ok (.getfield 63, 3) := by decide +kernel
theorem dJx4a65c_fastRemove_b59b0_5 : decode cJx4a65c_fastRemove_b59b0 5 = .ok (.iconst 1, 1) := by decide +kernel
theorem dJx4a65c_fastRemove_b59b0_6 : decode cJx4a65c_fastRemove_b59b0 6 = .ok (.iadd, 1) := by decide +kernel
theorem dJx4a65c_fastRemove_b59b0_7 : decode cJx4a65c_fastRemove_b59b0 7 = .ok (.putfield 63, 3) := by decide +kernel
theorem dJx4a65c_fastRemove_b59b0_10 : decode cJx4a65c_fastRemove_b59b0 10 = .ok (.aload_n 0, 1) := by decide +kernel
theorem dJx4a65c_fastRemove_b59b0_11 : decode cJx4a65c_fastRemove_b59b0 11 = .ok (.getfield 48, 3) := by decide +kernel
theorem dJx4a65c_fastRemove_b59b0_14 : decode cJx4a65c_fastRemove_b59b0 14 = .ok (.iconst 1, 1) := by decide +kernel
theorem dJx4a65c_fastRemove_b59b0_15 : decode cJx4a65c_fastRemove_b59b0 15 = .ok (.isub, 1) := by decide +kernel
theorem dJx4a65c_fastRemove_b59b0_16 : decode cJx4a65c_fastRemove_b59b0 16 = .ok (.dup, 1) := by decide +kernel
theorem dJx4a65c_fastRemove_b59b0_17 : decode cJx4a65c_fastRemove_b59b0 17 = .ok (.istore_n 3, 1) := by decide +kernel
theorem dJx4a65c_fastRemove_b59b0_18 : decode cJx4a65c_fastRemove_b59b0 18 = .ok (.iload_n 2, 1) := by decide +kernel
theorem dJx4a65c_fastRemove_b59b0_19 : decode cJx4a65c_fastRemove_b59b0 19 = .ok (.if_icmp .le 15, 3) := by decide +kernel
theorem dJx4a65c_fastRemove_b59b0_22 : decode cJx4a65c_fastRemove_b59b0 22 = .ok (.aload_n 1, 1) := by decide +kernel
theorem dJx4a65c_fastRemove_b59b0_23 : decode cJx4a65c_fastRemove_b59b0 23 = .ok (.iload_n 2, 1) := by decide +kernel
theorem dJx4a65c_fastRemove_b59b0_24 : decode cJx4a65c_fastRemove_b59b0 24 = .ok (.iconst 1, 1) := by decide +kernel
theorem dJx4a65c_fastRemove_b59b0_25 : decode cJx4a65c_fastRemove_b59b0 25 = .ok (.iadd, 1) := by decide +kernel
theorem dJx4a65c_fastRemove_b59b0_26 : decode cJx4a65c_fastRemove_b59b0 26 = .ok (.aload_n 1, 1) := by decide +kernel
theorem dJx4a65c_fastRemove_b59b0_27 : decode cJx4a65c_fastRemove_b59b0 27 = .ok (.iload_n 2, 1) := by decide +kernel
theorem dJx4a65c_fastRemove_b59b0_28 : decode cJx4a65c_fastRemove_b59b0 28 = .ok (.iload_n 3, 1) := by decide +kernel
theorem dJx4a65c_fastRemove_b59b0_29 : decode cJx4a65c_fastRemove_b59b0 29 = .ok (.iload_n 2, 1) := by decide +kernel
theorem dJx4a65c_fastRemove_b59b0_30 : decode cJx4a65c_fastRemove_b59b0 30 = .ok (.isub, 1) := by decide +kernel
theorem dJx4a65c_fastRemove_b59b0_31 : decode cJx4a65c_fastRemove_b59b0 31 = .ok (.invokestatic 112, 3) := by decide +kernel
theorem dJx4a65c_fastRemove_b59b0_34 : decode cJx4a65c_fastRemove_b59b0 34 = .ok (.aload_n 1, 1) := by decide +kernel
theorem dJx4a65c_fastRemove_b59b0_35 : decode cJx4a65c_fastRemove_b59b0 35 = .ok (.aload_n 0, 1) := by decide +kernel
theorem dJx4a65c_fastRemove_b59b0_36 : decode cJx4a65c_fastRemove_b59b0 36 = .ok (.iload_n 3, 1) := by decide +kernel
theorem dJx4a65c_fastRemove_b59b0_37 : decode cJx4a65c_fastRemove_b59b0 37 = .ok (.dup_x1, 1) := by decide +kernel
theorem dJx4a65c_fastRemove_b59b0_38 : decode cJx4a65c_fastRemove_b59b0 38 = .ok (.putfield 48, 3) := by decide +kernel
theorem dJx4a65c_fastRemove_b59b0_41 : decode cJx4a65c_fastRemove_b59b0 41 = .ok (.aconst_null, 1) := by decide +kernel
theorem dJx4a65c_fastRemove_b59b0_42 : decode cJx4a65c_fastRemove_b59b0 42 = .ok (.aastore, 1) := by decide +kernel
theorem dJx4a65c_fastRemove_b59b0_43 : decode cJx4a65c_fastRemove_b59b0 43 = .ok (.return_, 1) := by decide +kernel
theorem dJx4a65c_addAll_f0b43_0 : decode cJx4a65c_addAll_f0b43 0 = .ok (.aload_n 1, 1) := by decide +kernel
theorem dJx4a65c_addAll_f0b43_1 : decode cJx4a65c_addAll_f0b43 1 = .ok (.invokeinterface 42 1, 5) := by decide +kernel
theorem dJx4a65c_addAll_f0b43_6 : decode cJx4a65c_addAll_f0b43 6 = .ok (.astore_n 2, 1) := by decide +kernel
theorem dJx4a65c_addAll_f0b43_7 : decode cJx4a65c_addAll_f0b43 7 = .ok (.aload_n 0, 1) := by decide +kernel
theorem dJx4a65c_addAll_f0b43_8 : decode cJx4a65c_addAll_f0b43 8 = .ok (.dup, 1) := by decide +kernel
theorem dJx4a65c_addAll_f0b43_9 : decode cJx4a65c_addAll_f0b43 9 = .ok (.getfield 63, 3) := by decide +kernel
theorem dJx4a65c_addAll_f0b43_12 : decode cJx4a65c_addAll_f0b43 12 = .ok (.iconst 1, 1) := by decide +kernel
theorem dJx4a65c_addAll_f0b43_13 : decode cJx4a65c_addAll_f0b43 13 = .ok (.iadd, 1) := by decide +kernel
theorem dJx4a65c_addAll_f0b43_14 : decode cJx4a65c_addAll_f0b43 14 = .ok (.putfield 63, 3) := by decide +kernel
theorem dJx4a65c_addAll_f0b43_17 : decode cJx4a65c_addAll_f0b43 17 = .ok (.aload_n 2, 1) := by decide +kernel
theorem dJx4a65c_addAll_f0b43_18 : decode cJx4a65c_addAll_f0b43 18 = .ok (.arraylength, 1) := by decide +kernel
theorem dJx4a65c_addAll_f0b43_19 : decode cJx4a65c_addAll_f0b43 19 = .ok (.istore_n 3, 1) := by decide +kernel
theorem dJx4a65c_addAll_f0b43_20 : decode cJx4a65c_addAll_f0b43 20 = .ok (.iload_n 3, 1) := by decide +kernel
theorem dJx4a65c_addAll_f0b43_21 : decode cJx4a65c_addAll_f0b43 21 = .ok (.ifCond .ne 5, 3) := by decide +kernel
theorem dJx4a65c_addAll_f0b43_24 : decode cJx4a65c_addAll_f0b43 24 = .ok (.iconst 0, 1) := by decide +kernel
theorem dJx4a65c_addAll_f0b43_25 : decode cJx4a65c_addAll_f0b43 25 = .ok (.ireturn, 1) := by decide +kernel
theorem dJx4a65c_addAll_f0b43_26 : decode cJx4a65c_addAll_f0b43 26 = .ok (.iload_n 3, 1) := by decide +kernel
theorem dJx4a65c_addAll_f0b43_27 : decode cJx4a65c_addAll_f0b43 27 = .ok (.aload_n 0, 1) := by decide +kernel
theorem dJx4a65c_addAll_f0b43_28 : decode cJx4a65c_addAll_f0b43 28 = .ok (.getfield 9, 3) := by decide +kernel
theorem dJx4a65c_addAll_f0b43_31 : decode cJx4a65c_addAll_f0b43 31 = .ok (.dup, 1) := by decide +kernel
theorem dJx4a65c_addAll_f0b43_32 : decode cJx4a65c_addAll_f0b43 32 = .ok (.astore 4, 2) := by decide +kernel
theorem dJx4a65c_addAll_f0b43_34 : decode cJx4a65c_addAll_f0b43 34 = .ok (.arraylength, 1) := by decide +kernel
theorem dJx4a65c_addAll_f0b43_35 : decode cJx4a65c_addAll_f0b43 35 = .ok (.aload_n 0, 1) := by decide +kernel
theorem dJx4a65c_addAll_f0b43_36 : decode cJx4a65c_addAll_f0b43 36 = .ok (.getfield 48, 3) := by decide +kernel
theorem dJx4a65c_addAll_f0b43_39 : decode cJx4a65c_addAll_f0b43 39 = .ok (.dup, 1) := by decide +kernel
theorem dJx4a65c_addAll_f0b43_40 : decode cJx4a65c_addAll_f0b43 40 = .ok (.istore 5, 2) := by decide +kernel
theorem dJx4a65c_addAll_f0b43_42 : decode cJx4a65c_addAll_f0b43 42 = .ok (.isub, 1) := by decide +kernel
theorem dJx4a65c_addAll_f0b43_43 : decode cJx4a65c_addAll_f0b43 43 = .ok (.if_icmp .le 13, 3) := by decide +kernel
theorem dJx4a65c_addAll_f0b43_46 : decode cJx4a65c_addAll_f0b43 46 = .ok (.aload_n 0, 1) := by decide +kernel
theorem dJx4a65c_addAll_f0b43_47 : decode cJx4a65c_addAll_f0b43 47 = .ok (.iload 5, 2) := by decide +kernel
theorem dJx4a65c_addAll_f0b43_49 : decode cJx4a65c_addAll_f0b43 49 = .ok (.iload_n 3, 1) := by decide +kernel
theorem dJx4a65c_addAll_f0b43_50 : decode cJx4a65c_addAll_f0b43 50 = .ok (.iadd, 1) := by decide +kernel
theorem dJx4a65c_addAll_f0b43_51 : decode cJx4a65c_addAll_f0b43 51 = .ok (.invokevirtual 69, 3) := by decide +kernel
theorem dJx4a65c_addAll_f0b43_54 : decode cJx4a65c_addAll_f0b43 54 = .ok (.astore 4, 2) := by decide +kernel
theorem dJx4a65c_addAll_f0b43_56 : decode cJx4a65c_addAll_f0b43 56 = .ok (.aload_n 2, 1) := by decide +kernel
theorem dJx4a65c_addAll_f0b43_57 : decode cJx4a65c_addAll_f0b43 57 = .ok (.iconst 0, 1) := by decide +kernel
theorem dJx4a65c_addAll_f0b43_58 : decode cJx4a65c_addAll_f0b43 58 = .ok (.aload 4, 2) := by decide +kernel
theorem dJx4a65c_addAll_f0b43_60 : decode cJx4a65c_addAll_f0b43 60 = .ok (.iload 5, 2) := by decide +kernel
theorem dJx4a65c_addAll_f0b43_62 : decode cJx4a65c_addAll_f0b43 62 = .ok (.iload_n 3, 1) := by decide +kernel
theorem dJx4a65c_addAll_f0b43_63 : decode cJx4a65c_addAll_f0b43 63 = .ok (.invokestatic 112, 3) := by decide +kernel
theorem dJx4a65c_addAll_f0b43_66 : decode cJx4a65c_addAll_f0b43 66 = .ok (.aload_n 0, 1) := by decide +kernel
theorem dJx4a65c_addAll_f0b43_67 : decode cJx4a65c_addAll_f0b43 67 = .ok (.iload 5, 2) := by decide +kernel
theorem dJx4a65c_addAll_f0b43_69 : decode cJx4a65c_addAll_f0b43 69 = .ok (.iload_n 3, 1) := by decide +kernel
theorem dJx4a65c_addAll_f0b43_70 : decode cJx4a65c_addAll_f0b43 70 = .ok (.iadd, 1) := by decide +kernel
theorem dJx4a65c_addAll_f0b43_71 : decode cJx4a65c_addAll_f0b43 71 = .ok (.putfield 48, 3) := by decide +kernel
theorem dJx4a65c_addAll_f0b43_74 : decode cJx4a65c_addAll_f0b43 74 = .ok (.iconst 1, 1) := by decide +kernel
theorem dJx4a65c_addAll_f0b43_75 : decode cJx4a65c_addAll_f0b43 75 = .ok (.ireturn, 1) := by decide +kernel
theorem dJx4a65c_iterator_32c93_0 : decode cJx4a65c_iterator_32c93 0 = .ok (.new 267, 3) := by decide +kernel
theorem dJx4a65c_iterator_32c93_3 : decode cJx4a65c_iterator_32c93 3 = .ok (.dup, 1) := by decide +kernel
theorem dJx4a65c_iterator_32c93_4 : decode cJx4a65c_iterator_32c93 4 = .ok (.aload_n 0, 1) := by decide +kernel
theorem dJx4a65c_iterator_32c93_5 : decode cJx4a65c_iterator_32c93 5 = .ok (.invokespecial 269, 3) := by decide +kernel
theorem dJx4a65c_iterator_32c93_8 : decode cJx4a65c_iterator_32c93 8 = .ok (.areturn, 1) := by decide +kernel
theorem dJ7_copyOf_1904c_0 : decode cJ7_copyOf_1904c 0 = .ok (.aload_n 0, 1) := by decide +kernel
theorem dJ7_copyOf_1904c_1 : decode cJ7_copyOf_1904c 1 = .ok (.iload_n 1, 1) := by decide +kernel
theorem dJ7_copyOf_1904c_2 : decode cJ7_copyOf_1904c 2 = .ok (.aload_n 0, 1) := by decide +kernel
theorem dJ7_copyOf_1904c_3 : decode cJ7_copyOf_1904c 3 = .ok (.invokevirtual 86, 3) := by decide +kernel
theorem dJ7_copyOf_1904c_6 : decode cJ7_copyOf_1904c 6 = .ok (.invokestatic 300, 3) := by decide +kernel
theorem dJ7_copyOf_1904c_9 : decode cJ7_copyOf_1904c 9 = .ok (.areturn, 1) := by decide +kernel
theorem dJ7_copyOf_6403c_0 : decode cJ7_copyOf_6403c 0 = .ok (.aload_n 2, 1) := by decide +kernel
theorem dJ7_copyOf_6403c_1 : decode cJ7_copyOf_6403c 1 = .ok (.ldc 110, 2) := by decide +kernel
theorem dJ7_copyOf_6403c_3 : decode cJ7_copyOf_6403c 3 = .ok (.if_acmp .ne 10, 3) := by decide +kernel
theorem dJ7_copyOf_6403c_6 : decode cJ7_copyOf_6403c 6 = .ok (.iload_n 1, 1) := by decide +kernel
theorem dJ7_copyOf_6403c_7 : decode cJ7_copyOf_6403c 7 = .ok (.anewarray 2, 3) := by decide +kernel
theorem dJ7_copyOf_6403c_10 : decode cJ7_copyOf_6403c 10 = .ok (.goto 14, 3) := by decide +kernel
theorem dJ7_copyOf_6403c_13 : decode cJ7_copyOf_6403c 13 = .ok (.aload_n 2, 1) := by decide +kernel
theorem dJ7_copyOf_6403c_14 : decode cJ7_copyOf_6403c 14 = .ok (.invokevirtual 90, 3) := by decide +kernel
theorem dJ7_copyOf_6403c_17 : decode cJ7_copyOf_6403c 17 = .ok (.iload_n 1, 1) := by decide +kernel
theorem dJ7_copyOf_6403c_18 : decode cJ7_copyOf_6403c 18 = .ok (.invokestatic 95, 3) := by decide +kernel
theorem dJ7_copyOf_6403c_21 : decode cJ7_copyOf_6403c 21 = .ok (.checkcast 110, 3) := by decide +kernel
theorem dJ7_copyOf_6403c_24 : decode cJ7_copyOf_6403c 24 = .ok (.astore_n 3, 1) := by decide +kernel
theorem dJ7_copyOf_6403c_25 : decode cJ7_copyOf_6403c 25 = .ok (.aload_n 0, 1) := by decide +kernel
theorem dJ7_copyOf_6403c_26 : decode cJ7_copyOf_6403c 26 = .ok (.iconst 0, 1) := by decide +kernel
theorem dJ7_copyOf_6403c_27 : decode cJ7_copyOf_6403c 27 = .ok (.aload_n 3, 1) := by decide +kernel
theorem dJ7_copyOf_6403c_28 : decode cJ7_copyOf_6403c 28 = .ok (.iconst 0, 1) := by decide +kernel
theorem dJ7_copyOf_6403c_29 : decode cJ7_copyOf_6403c 29 = .ok (.aload_n 0, 1) := by decide +kernel
theorem dJ7_copyOf_6403c_30 : decode cJ7_copyOf_6403c 30 = .ok (.arraylength, 1) := by decide +kernel
theorem dJ7_copyOf_6403c_31 : decode cJ7_copyOf_6403c 31 = .ok (.iload_n 1, 1) := by decide +kernel
theorem dJ7_copyOf_6403c_32 : decode cJ7_copyOf_6403c 32 = .ok (.invokestatic 304, 3) := by decide +kernel
theorem dJ7_copyOf_6403c_35 : decode cJ7_copyOf_6403c 35 = .ok (.invokestatic 150, 3) := by decide +kernel
theorem dJ7_copyOf_6403c_38 : decode cJ7_copyOf_6403c 38 = .ok (.aload_n 3, 1) := by decide +kernel
theorem dJ7_copyOf_6403c_39 : decode cJ7_copyOf_6403c 39 = .ok (.areturn, 1) := by decide +kernel
theorem dJ15_checkIndex_7cf53_0 : decode cJ15_checkIndex_7cf53 0 = .ok (.iload_n 0, 1) := by decide +kernel
theorem dJ15_checkIndex_7cf53_1 : decode cJ15_checkIndex_7cf53 1 = .ok (.iload_n 1, 1) := by decide +kernel
theorem dJ15_checkIndex_7cf53_2 : decode cJ15_checkIndex_7cf53 2 = .ok (.aconst_null, 1) := by decide +kernel
theorem dJ15_checkIndex_7cf53_3 : decode cJ15_checkIndex_7cf53 3 = .ok (.invokestatic 105, 3) := by decide +kernel
theorem dJ15_checkIndex_7cf53_6 : decode cJ15_checkIndex_7cf53 6 = .ok (.ireturn, 1) := by decide +kernel
theorem dJ8_newLength_cabcc_0 : decode cJ8_newLength_cabcc 0 = .ok (.iload_n 0, 1) := by decide +kernel
theorem dJ8_newLength_cabcc_1 : decode cJ8_newLength_cabcc 1 = .ok (.iload_n 1, 1) := by decide +kernel
theorem dJ8_newLength_cabcc_2 : decode cJ8_newLength_cabcc 2 = .ok (.iload_n 2, 1) := by decide +kernel
theorem dJ8_newLength_cabcc_3 : decode cJ8_newLength_cabcc 3 = .ok (.invokestatic 194, 3) := by decide +kernel
theorem dJ8_newLength_cabcc_6 : decode cJ8_newLength_cabcc 6 = .ok (.iadd, 1) := by decide +kernel
theorem dJ8_newLength_cabcc_7 : decode cJ8_newLength_cabcc 7 = .ok (.istore_n 3, 1) := by decide +kernel
theorem dJ8_newLength_cabcc_8 : decode cJ8_newLength_cabcc 8 = .ok (.iconst 0, 1) := by decide +kernel
theorem dJ8_newLength_cabcc_9 : decode cJ8_newLength_cabcc 9 = .ok (.iload_n 3, 1) := by decide +kernel
theorem dJ8_newLength_cabcc_10 : decode cJ8_newLength_cabcc 10 = .ok (.if_icmp .ge 11, 3) := by decide +kernel
theorem dJ8_newLength_cabcc_13 : decode cJ8_newLength_cabcc 13 = .ok (.iload_n 3, 1) := by decide +kernel
theorem dJ8_newLength_cabcc_14 : decode cJ8_newLength_cabcc 14 = .ok (.ldc 200, 2) := by decide +kernel
theorem dJ8_newLength_cabcc_16 : decode cJ8_newLength_cabcc 16 = .ok (.if_icmp .gt 5, 3) := by decide +kernel
theorem dJ8_newLength_cabcc_19 : decode cJ8_newLength_cabcc 19 = .ok (.iload_n 3, 1) := by decide +kernel
theorem dJ8_newLength_cabcc_20 : decode cJ8_newLength_cabcc 20 = .ok (.ireturn, 1) := by decide +kernel
theorem dJ8_newLength_cabcc_21 : decode cJ8_newLength_cabcc 21 = .ok (.iload_n 0, 1) := by decide +kernel
theorem dJ8_newLength_cabcc_22 : decode cJ8_newLength_cabcc 22 = .ok (.iload_n 1, 1) := by decide +kernel
theorem dJ8_newLength_cabcc_23 : decode cJ8_newLength_cabcc 23 = .ok (.invokestatic 201, 3) := by decide +kernel
theorem dJ8_newLength_cabcc_26 : decode cJ8_newLength_cabcc 26 = .ok (.ireturn, 1) := by decide +kernel
theorem dJ8_hugeLength_7cf53_0 : decode cJ8_hugeLength_7cf53 0 = .ok (.iload_n 0, 1) := by decide +kernel
theorem dJ8_hugeLength_7cf53_1 : decode cJ8_hugeLength_7cf53 1 = .ok (.iload_n 1, 1) := by decide +kernel
theorem dJ8_hugeLength_7cf53_2 : decode cJ8_hugeLength_7cf53 2 = .ok (.iadd, 1) := by decide +kernel
theorem dJ8_hugeLength_7cf53_3 : decode cJ8_hugeLength_7cf53 3 = .ok (.istore_n 2, 1) := by decide +kernel
theorem dJ8_hugeLength_7cf53_4 : decode cJ8_hugeLength_7cf53 4 = .ok (.iload_n 2, 1) := by decide +kernel
theorem dJ8_hugeLength_7cf53_5 : decode cJ8_hugeLength_7cf53 5 = .ok (.ifCond .ge 44, 3) := by decide +kernel
theorem dJ8_hugeLength_7cf53_8 : decode cJ8_hugeLength_7cf53 8 = .ok (.new 204, 3) := by decide +kernel
theorem dJ8_hugeLength_7cf53_11 : decode cJ8_hugeLength_7cf53 11 = .ok (.dup, 1) := by decide +kernel
theorem dJ8_hugeLength_7cf53_12 : decode cJ8_hugeLength_7cf53 12 = .ok (.new 89, 3) := by decide +kernel
theorem dJ8_hugeLength_7cf53_15 : decode cJ8_hugeLength_7cf53 15 = .ok (.dup, 1) := by decide +kernel
theorem dJ8_hugeLength_7cf53_16 : decode cJ8_hugeLength_7cf53 16 = .ok (.invokespecial 91, 3) := by decide +kernel
theorem dJ8_hugeLength_7cf53_19 : decode cJ8_hugeLength_7cf53 19 = .ok (.ldc 206, 2) := by decide +kernel
theorem dJ8_hugeLength_7cf53_21 : decode cJ8_hugeLength_7cf53 21 = .ok (.invokevirtual 94, 3) := by decide +kernel
theorem dJ8_hugeLength_7cf53_24 : decode cJ8_hugeLength_7cf53 24 = .ok (.iload_n 0, 1) := by decide +kernel
theorem dJ8_hugeLength_7cf53_25 : decode cJ8_hugeLength_7cf53 25 = .ok (.invokevirtual 98, 3) := by decide +kernel
theorem dJ8_hugeLength_7cf53_28 : decode cJ8_hugeLength_7cf53 28 = .ok (.ldc 208, 2) := by decide +kernel
theorem dJ8_hugeLength_7cf53_30 : decode cJ8_hugeLength_7cf53 30 = .ok (.invokevirtual 94, 3) := by decide +kernel
theorem dJ8_hugeLength_7cf53_33 : decode cJ8_hugeLength_7cf53 33 = .ok (.iload_n 1, 1) := by decide +kernel
theorem dJ8_hugeLength_7cf53_34 : decode cJ8_hugeLength_7cf53 34 = .ok (.invokevirtual 98, 3) := by decide +kernel
theorem dJ8_hugeLength_7cf53_37 : decode cJ8_hugeLength_7cf53 37 = .ok (.ldc 210, 2) := by decide +kernel
theorem dJ8_hugeLength_7cf53_39 : decode cJ8_hugeLength_7cf53 39 = .ok (.invokevirtual 94, 3) := by decide +kernel
theorem dJ8_hugeLength_7cf53_42 : decode cJ8_hugeLength_7cf53 42 = .ok (.invokevirtual 101, 3) := by decide +kernel
theorem dJ8_hugeLength_7cf53_45 : decode cJ8_hugeLength_7cf53 45 = .ok (.invokespecial 212, 3) := by decide +kernel
theorem dJ8_hugeLength_7cf53_48 : decode cJ8_hugeLength_7cf53 48 = .ok (.athrow, 1) := by decide +kernel
theorem dJ8_hugeLength_7cf53_49 : decode cJ8_hugeLength_7cf53 49 = .ok (.iload_n 2, 1) := by decide +kernel
theorem dJ8_hugeLength_7cf53_50 : decode cJ8_hugeLength_7cf53 50 = .ok (.ldc 200, 2) := by decide +kernel
theorem dJ8_hugeLength_7cf53_52 : decode cJ8_hugeLength_7cf53 52 = .ok (.if_icmp .gt 6, 3) := by decide +kernel
theorem dJ8_hugeLength_7cf53_55 : decode cJ8_hugeLength_7cf53 55 = .ok (.ldc 200, 2) := by decide +kernel
theorem dJ8_hugeLength_7cf53_57 : decode cJ8_hugeLength_7cf53 57 = .ok (.ireturn, 1) := by decide +kernel
theorem dJ8_hugeLength_7cf53_58 : decode cJ8_hugeLength_7cf53 58 = .ok (.iload_n 2, 1) := by decide +kernel
theorem dJ8_hugeLength_7cf53_59 : decode cJ8_hugeLength_7cf53 59 = .ok (.ireturn, 1) := by decide +kernel
theorem dJ3_checkIndex_8e157_0 : decode cJ3_checkIndex_8e157 0 = .ok (.iload_n 0, 1) := by decide +kernel
theorem dJ3_checkIndex_8e157_1 : decode cJ3_checkIndex_8e157 1 = .ok (.ifCond .lt 8, 3) := by decide +kernel
theorem dJ3_checkIndex_8e157_4 : decode cJ3_checkIndex_8e157 4 = .ok (.iload_n 0, 1) := by decide +kernel
theorem dJ3_checkIndex_8e157_5 : decode cJ3_checkIndex_8e157 5 = .ok (.iload_n 1, 1) := by decide +kernel
theorem dJ3_checkIndex_8e157_6 : decode cJ3_checkIndex_8e157 6 = .ok (.if_icmp .lt 10, 3) := by decide +kernel
theorem dJ3_checkIndex_8e157_9 : decode cJ3_checkIndex_8e157 9 = .ok (.aload_n 2, 1) := by decide +kernel
theorem dJ3_checkIndex_8e157_10 : decode cJ3_checkIndex_8e157 10 = .ok (.iload_n 0, 1) := by decide +kernel
theorem dJ3_checkIndex_8e157_11 : decode cJ3_checkIndex_8e157 11 = .ok (.iload_n 1, 1) := by decide +kernel
theorem dJ3_checkIndex_8e157_12 : decode cJ3_checkIndex_8e157 12 = .ok (.invokestatic 95, 3) := by decide +kernel
theorem dJ3_checkIndex_8e157_15 : decode cJ3_checkIndex_8e157 15 = .ok (.athrow, 1) := by decide +kernel
theorem dJ3_checkIndex_8e157_16 : decode cJ3_checkIndex_8e157 16 = .ok (.iload_n 0, 1) := by decide +kernel
theorem dJ3_checkIndex_8e157_17 : decode cJ3_checkIndex_8e157 17 = .ok (.ireturn, 1) := by decide +kernel
theorem dJ3_checkFromToIndex_8c36e_0 : decode cJ3_checkFromToIndex_8c36e 0 = .ok (.iload_n 0, 1) := by decide +kernel
theorem dJ3_checkFromToIndex_8c36e_1 : decode cJ3_checkFromToIndex_8c36e 1 = .ok (.ifCond .lt 13, 3) := by decide +kernel
theorem dJ3_checkFromToIndex_8c36e_4 : decode cJ3_checkFromToIndex_8c36e 4 = .ok (.iload_n 0, 1) := by decide +kernel
theorem dJ3_checkFromToIndex_8c36e_5 : decode cJ3_checkFromToIndex_8c36e 5 = .ok (.iload_n 1, 1) := by decide +kernel
theorem dJ3_checkFromToIndex_8c36e_6 : decode cJ3_checkFromToIndex_8c36e 6 = .ok (.if_icmp .gt 8, 3) := by decide +kernel
theorem dJ3_checkFromToIndex_8c36e_9 : decode cJ3_checkFromToIndex_8c36e 9 = .ok (.iload_n 1, 1) := by decide +kernel
theorem dJ3_checkFromToIndex_8c36e_10 : decode cJ3_checkFromToIndex_8c36e 10 = .ok (.iload_n 2, 1) := by decide +kernel
theorem dJ3_checkFromToIndex_8c36e_11 : decode cJ3_checkFromToIndex_8c36e 11 = .ok (.if_icmp .le 11, 3) := by decide +kernel
theorem dJ3_checkFromToIndex_8c36e_14 : decode cJ3_checkFromToIndex_8c36e 14 = .ok (.aload_n 3, 1) := by decide +kernel
theorem dJ3_checkFromToIndex_8c36e_15 : decode cJ3_checkFromToIndex_8c36e 15 = .ok (.iload_n 0, 1) := by decide +kernel
theorem dJ3_checkFromToIndex_8c36e_16 : decode cJ3_checkFromToIndex_8c36e 16 = .ok (.iload_n 1, 1) := by decide +kernel
theorem dJ3_checkFromToIndex_8c36e_17 : decode cJ3_checkFromToIndex_8c36e 17 = .ok (.iload_n 2, 1) := by decide +kernel
theorem dJ3_checkFromToIndex_8c36e_18 : decode cJ3_checkFromToIndex_8c36e 18 = .ok (.invokestatic 99, 3) := by decide +kernel
theorem dJ3_checkFromToIndex_8c36e_21 : decode cJ3_checkFromToIndex_8c36e 21 = .ok (.athrow, 1) := by decide +kernel
theorem dJ3_checkFromToIndex_8c36e_22 : decode cJ3_checkFromToIndex_8c36e 22 = .ok (.iload_n 0, 1) := by decide +kernel
theorem dJ3_checkFromToIndex_8c36e_23 : decode cJ3_checkFromToIndex_8c36e 23 = .ok (.ireturn, 1) := by decide +kernel
