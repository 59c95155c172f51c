theorem dX0_init_0 : decode cX0_init 0 = .ok (.aload_n 0, 1) := by decide +kernel
theorem dX0_init_1 : decode cX0_init 1 = .ok (.invokespecial 3, 3) := by decide +kernel
theorem dX0_init_4 : decode cX0_init 4 = .ok (.aload_n 0, 1) := by decide +kernel
theorem dX0_init_5 : decode cX0_init 5 = .ok (.bipush 12, 2) := by decide +kernel
theorem dX0_init_7 : decode cX0_init 7 = .ok (.newarray .int, 2) := by decide +kernel
theorem dX0_init_9 : decode cX0_init 9 = .ok (.putfield 9, 3) := by decide +kernel
theorem dX0_init_12 : decode cX0_init 12 = .ok (.return_, 1) := by decide +kernel
theorem dX0_tellTurning_0 : decode cX0_tellTurning 0 = .ok (.aload_n 0, 1) := by decide +kernel
theorem dX0_tellTurning_1 : decode cX0_tellTurning 1 = .ok (.getfield 9, 3) := by decide +kernel
theorem dX0_tellTurning_4 : decode cX0_tellTurning 4 = .ok (.iload_n 1, 1) := by decide +kernel
theorem dX0_tellTurning_5 : decode cX0_tellTurning 5 = .ok (.iaload, 1) := by decide +kernel
theorem dX0_tellTurning_6 : decode cX0_tellTurning 6 = .ok (.istore_n 3, 1) := by decide +kernel
theorem dX0_tellTurning_7 : decode cX0_tellTurning 7 = .ok (.aload_n 0, 1) := by decide +kernel
theorem dX0_tellTurning_8 : decode cX0_tellTurning 8 = .ok (.getfield 9, 3) := by decide +kernel
theorem dX0_tellTurning_11 : decode cX0_tellTurning 11 = .ok (.iload_n 1, 1) := by decide +kernel
theorem dX0_tellTurning_12 : decode cX0_tellTurning 12 = .ok (.iload_n 2, 1) := by decide +kernel
theorem dX0_tellTurning_13 : decode cX0_tellTurning 13 = .ok (.iastore, 1) := by decide +kernel
theorem dX0_tellTurning_14 : decode cX0_tellTurning 14 = .ok (.aload_n 0, 1) := by decide +kernel
theorem dX0_tellTurning_15 : decode cX0_tellTurning 15 = .ok (.dup, 1) := by decide +kernel
theorem dX0_tellTurning_16 : decode cX0_tellTurning 16 = .ok (.getfield 15, 3) := by decide +kernel
theorem dX0_tellTurning_19 : decode cX0_tellTurning 19 = .ok (.iload_n 2, 1) := by decide +kernel
theorem dX0_tellTurning_20 : decode cX0_tellTurning 20 = .ok (.iload_n 3, 1) := by decide +kernel
theorem dX0_tellTurning_21 : decode cX0_tellTurning 21 = .ok (.isub, 1) := by decide +kernel
theorem dX0_tellTurning_22 : decode cX0_tellTurning 22 = .ok (.iadd, 1) := by decide +kernel
theorem dX0_tellTurning_23 : decode cX0_tellTurning 23 = .ok (.putfield 15, 3) := by decide +kernel
theorem dX0_tellTurning_26 : decode cX0_tellTurning 26 = .ok (.iload_n 3, 1) := by decide +kernel
theorem dX0_tellTurning_27 : decode cX0_tellTurning 27 = .ok (.ireturn, 1) := by decide +kernel
theorem dX0_windOf_0 : decode cX0_windOf 0 = .ok (.iload_n 1, 1) := by decide +kernel
theorem dX0_windOf_1 : decode cX0_windOf 1 = .ok (.ifCond .lt 17, 3) := by decide +kernel
theorem dX0_windOf_4 : decode cX0_windOf 4 = .ok (.iload_n 1, 1) := by decide +kernel
theorem dX0_windOf_5 : decode cX0_windOf 5 = .ok (.bipush 12, 2) := by decide +kernel
theorem dX0_windOf_7 : decode cX0_windOf 7 = .ok (.if_icmp .ge 11, 3) := by decide +kernel
theorem dX0_windOf_10 : decode cX0_windOf 10 = .ok (.getstatic 19, 3) := by decide +kernel
theorem dX0_windOf_13 : decode cX0_windOf 13 = .ok (.iload_n 1, 1) := by decide +kernel
theorem dX0_windOf_14 : decode cX0_windOf 14 = .ok (.iaload, 1) := by decide +kernel
theorem dX0_windOf_15 : decode cX0_windOf 15 = .ok (.goto 4, 3) := by decide +kernel
theorem dX0_windOf_18 : decode cX0_windOf 18 = .ok (.iconst 0, 1) := by decide +kernel
theorem dX0_windOf_19 : decode cX0_windOf 19 = .ok (.istore_n 2, 1) := by decide +kernel
theorem dX0_windOf_20 : decode cX0_windOf 20 = .ok (.iload_n 2, 1) := by decide +kernel
theorem dX0_windOf_21 : decode cX0_windOf 21 = .ok (.iconst 1, 1) := by decide +kernel
theorem dX0_windOf_22 : decode cX0_windOf 22 = .ok (.if_icmp .ge 7, 3) := by decide +kernel
theorem dX0_windOf_25 : decode cX0_windOf 25 = .ok (.iconst 0, 1) := by decide +kernel
theorem dX0_windOf_26 : decode cX0_windOf 26 = .ok (.goto 11, 3) := by decide +kernel
theorem dX0_windOf_29 : decode cX0_windOf 29 = .ok (.aload_n 0, 1) := by decide +kernel
theorem dX0_windOf_30 : decode cX0_windOf 30 = .ok (.getfield 9, 3) := by decide +kernel
theorem dX0_windOf_33 : decode cX0_windOf 33 = .ok (.iload_n 1, 1) := by decide +kernel
theorem dX0_windOf_34 : decode cX0_windOf 34 = .ok (.iaload, 1) := by decide +kernel
theorem dX0_windOf_35 : decode cX0_windOf 35 = .ok (.iload_n 2, 1) := by decide +kernel
theorem dX0_windOf_36 : decode cX0_windOf 36 = .ok (.idiv, 1) := by decide +kernel
theorem dX0_windOf_37 : decode cX0_windOf 37 = .ok (.ireturn, 1) := by decide +kernel
theorem dX0_shearOf_0 : decode cX0_shearOf 0 = .ok (.iload_n 1, 1) := by decide +kernel
theorem dX0_shearOf_1 : decode cX0_shearOf 1 = .ok (.iconst 1, 1) := by decide +kernel
theorem dX0_shearOf_2 : decode cX0_shearOf 2 = .ok (.isub, 1) := by decide +kernel
theorem dX0_shearOf_3 : decode cX0_shearOf 3 = .ok (.iconst 0, 1) := by decide +kernel
theorem dX0_shearOf_4 : decode cX0_shearOf 4 = .ok (.invokestatic 22, 3) := by decide +kernel
theorem dX0_shearOf_7 : decode cX0_shearOf 7 = .ok (.istore_n 2, 1) := by decide +kernel
theorem dX0_shearOf_8 : decode cX0_shearOf 8 = .ok (.iload_n 1, 1) := by decide +kernel
theorem dX0_shearOf_9 : decode cX0_shearOf 9 = .ok (.iconst 1, 1) := by decide +kernel
theorem dX0_shearOf_10 : decode cX0_shearOf 10 = .ok (.iadd, 1) := by decide +kernel
theorem dX0_shearOf_11 : decode cX0_shearOf 11 = .ok (.bipush 11, 2) := by decide +kernel
theorem dX0_shearOf_13 : decode cX0_shearOf 13 = .ok (.invokestatic 28, 3) := by decide +kernel
theorem dX0_shearOf_16 : decode cX0_shearOf 16 = .ok (.istore_n 3, 1) := by decide +kernel
theorem dX0_shearOf_17 : decode cX0_shearOf 17 = .ok (.aload_n 0, 1) := by decide +kernel
theorem dX0_shearOf_18 : decode cX0_shearOf 18 = .ok (.iload_n 2, 1) := by decide +kernel
theorem dX0_shearOf_19 : decode cX0_shearOf 19 = .ok (.invokevirtual 31, 3) := by decide +kernel
theorem dX0_shearOf_22 : decode cX0_shearOf 22 = .ok (.aload_n 0, 1) := by decide +kernel
theorem dX0_shearOf_23 : decode cX0_shearOf 23 = .ok (.iload_n 3, 1) := by decide +kernel
theorem dX0_shearOf_24 : decode cX0_shearOf 24 = .ok (.invokevirtual 31, 3) := by decide +kernel
theorem dX0_shearOf_27 : decode cX0_shearOf 27 = .ok (.isub, 1) := by decide +kernel
theorem dX0_shearOf_28 : decode cX0_shearOf 28 = .ok (.invokestatic 35, 3) := by decide +kernel
theorem dX0_shearOf_31 : decode cX0_shearOf 31 = .ok (.ireturn, 1) := by decide +kernel
theorem dX0_dragDown_0 : decode cX0_dragDown 0 = .ok (.aload_n 0, 1) := by decide +kernel
theorem dX0_dragDown_1 : decode cX0_dragDown 1 = .ok (.getfield 38, 3) := by decide +kernel
theorem dX0_dragDown_4 : decode cX0_dragDown 4 = .ok (.iconst 1, 1) := by decide +kernel
theorem dX0_dragDown_5 : decode cX0_dragDown 5 = .ok (.if_icmp .ge 4, 3) := by decide +kernel
theorem dX0_dragDown_8 : decode cX0_dragDown 8 = .ok (.return_, 1) := by decide +kernel
theorem dX0_dragDown_9 : decode cX0_dragDown 9 = .ok (.iconst 0, 1) := by decide +kernel
theorem dX0_dragDown_10 : decode cX0_dragDown 10 = .ok (.istore_n 1, 1) := by decide +kernel
theorem dX0_dragDown_11 : decode cX0_dragDown 11 = .ok (.iload_n 1, 1) := by decide +kernel
theorem dX0_dragDown_12 : decode cX0_dragDown 12 = .ok (.bipush 12, 2) := by decide +kernel
theorem dX0_dragDown_14 : decode cX0_dragDown 14 = .ok (.if_icmp .ge 41, 3) := by decide +kernel
theorem dX0_dragDown_17 : decode cX0_dragDown 17 = .ok (.aload_n 0, 1) := by decide +kernel
theorem dX0_dragDown_18 : decode cX0_dragDown 18 = .ok (.getfield 9, 3) := by decide +kernel
theorem dX0_dragDown_21 : decode cX0_dragDown 21 = .ok (.iload_n 1, 1) := by decide +kernel
theorem dX0_dragDown_22 : decode cX0_dragDown 22 = .ok (.iaload, 1) := by decide +kernel
theorem dX0_dragDown_23 : decode cX0_dragDown 23 = .ok (.aload_n 0, 1) := by decide +kernel
theorem dX0_dragDown_24 : decode cX0_dragDown 24 = .ok (.getfield 38, 3) := by decide +kernel
theorem dX0_dragDown_27 : decode cX0_dragDown 27 = .ok (.idiv, 1) := by decide +kernel
theorem dX0_dragDown_28 : decode cX0_dragDown 28 = .ok (.istore_n 2, 1) := by decide +kernel
theorem dX0_dragDown_29 : decode cX0_dragDown 29 = .ok (.aload_n 0, 1) := by decide +kernel
theorem dX0_dragDown_30 : decode cX0_dragDown 30 = .ok (.getfield 9, 3) := by decide +kernel
theorem dX0_dragDown_33 : decode cX0_dragDown 33 = .ok (.iload_n 1, 1) := by decide +kernel
theorem dX0_dragDown_34 : decode cX0_dragDown 34 = .ok (.dup2, 1) := by decide +kernel
theorem dX0_dragDown_35 : decode cX0_dragDown 35 = .ok (.iaload, 1) := by decide +kernel
theorem dX0_dragDown_36 : decode cX0_dragDown 36 = .ok (.iload_n 2, 1) := by decide +kernel
theorem dX0_dragDown_37 : decode cX0_dragDown 37 = .ok (.isub, 1) := by decide +kernel
theorem dX0_dragDown_38 : decode cX0_dragDown 38 = .ok (.iastore, 1) := by decide +kernel
theorem dX0_dragDown_39 : decode cX0_dragDown 39 = .ok (.aload_n 0, 1) := by decide +kernel
theorem dX0_dragDown_40 : decode cX0_dragDown 40 = .ok (.dup, 1) := by decide +kernel
theorem dX0_dragDown_41 : decode cX0_dragDown 41 = .ok (.getfield 41, 3) := by decide +kernel
theorem dX0_dragDown_44 : decode cX0_dragDown 44 = .ok (.iload_n 2, 1) := by decide +kernel
theorem dX0_dragDown_45 : decode cX0_dragDown 45 = .ok (.iadd, 1) := by decide +kernel
theorem dX0_dragDown_46 : decode cX0_dragDown 46 = .ok (.putfield 41, 3) := by decide +kernel
theorem dX0_dragDown_49 : decode cX0_dragDown 49 = .ok (.iinc 1 1, 3) := by decide +kernel
theorem dX0_dragDown_52 : decode cX0_dragDown 52 = .ok (.goto (-41), 3) := by decide +kernel
theorem dX0_dragDown_55 : decode cX0_dragDown 55 = .ok (.return_, 1) := by decide +kernel
theorem dX0_isBalanced_0 : decode cX0_isBalanced 0 = .ok (.aload_n 0, 1) := by decide +kernel
theorem dX0_isBalanced_1 : decode cX0_isBalanced 1 = .ok (.getfield 41, 3) := by decide +kernel
theorem dX0_isBalanced_4 : decode cX0_isBalanced 4 = .ok (.istore_n 1, 1) := by decide +kernel
theorem dX0_isBalanced_5 : decode cX0_isBalanced 5 = .ok (.iconst 0, 1) := by decide +kernel
theorem dX0_isBalanced_6 : decode cX0_isBalanced 6 = .ok (.istore_n 2, 1) := by decide +kernel
theorem dX0_isBalanced_7 : decode cX0_isBalanced 7 = .ok (.iload_n 2, 1) := by decide +kernel
theorem dX0_isBalanced_8 : decode cX0_isBalanced 8 = .ok (.bipush 12, 2) := by decide +kernel
theorem dX0_isBalanced_10 : decode cX0_isBalanced 10 = .ok (.if_icmp .ge 18, 3) := by decide +kernel
theorem dX0_isBalanced_13 : decode cX0_isBalanced 13 = .ok (.iload_n 1, 1) := by decide +kernel
theorem dX0_isBalanced_14 : decode cX0_isBalanced 14 = .ok (.aload_n 0, 1) := by decide +kernel
theorem dX0_isBalanced_15 : decode cX0_isBalanced 15 = .ok (.getfield 9, 3) := by decide +kernel
theorem dX0_isBalanced_18 : decode cX0_isBalanced 18 = .ok (.iload_n 2, 1) := by decide +kernel
theorem dX0_isBalanced_19 : decode cX0_isBalanced 19 = .ok (.iaload, 1) := by decide +kernel
theorem dX0_isBalanced_20 : decode cX0_isBalanced 20 = .ok (.iadd, 1) := by decide +kernel
theorem dX0_isBalanced_21 : decode cX0_isBalanced 21 = .ok (.istore_n 1, 1) := by decide +kernel
theorem dX0_isBalanced_22 : decode cX0_isBalanced 22 = .ok (.iinc 2 1, 3) := by decide +kernel
theorem dX0_isBalanced_25 : decode cX0_isBalanced 25 = .ok (.goto (-18), 3) := by decide +kernel
theorem dX0_isBalanced_28 : decode cX0_isBalanced 28 = .ok (.iload_n 1, 1) := by decide +kernel
theorem dX0_isBalanced_29 : decode cX0_isBalanced 29 = .ok (.aload_n 0, 1) := by decide +kernel
theorem dX0_isBalanced_30 : decode cX0_isBalanced 30 = .ok (.getfield 15, 3) := by decide +kernel
theorem dX0_isBalanced_33 : decode cX0_isBalanced 33 = .ok (.if_icmp .ne 7, 3) := by decide +kernel
theorem dX0_isBalanced_36 : decode cX0_isBalanced 36 = .ok (.iconst 1, 1) := by decide +kernel
theorem dX0_isBalanced_37 : decode cX0_isBalanced 37 = .ok (.goto 4, 3) := by decide +kernel
theorem dX0_isBalanced_40 : decode cX0_isBalanced 40 = .ok (.iconst 0, 1) := by decide +kernel
theorem dX0_isBalanced_41 : decode cX0_isBalanced 41 = .ok (.ireturn, 1) := by decide +kernel
theorem dX0_addTo_0 : decode cX0_addTo 0 = .ok (.lload_n 1, 1) := by decide +kernel
theorem dX0_addTo_1 : decode cX0_addTo 1 = .ok (.lstore_n 3, 1) := by decide +kernel
theorem dX0_addTo_2 : decode cX0_addTo 2 = .ok (.iconst 0, 1) := by decide +kernel
theorem dX0_addTo_3 : decode cX0_addTo 3 = .ok (.istore 5, 2) := by decide +kernel
theorem dX0_addTo_5 : decode cX0_addTo 5 = .ok (.iload 5, 2) := by decide +kernel
theorem dX0_addTo_7 : decode cX0_addTo 7 = .ok (.bipush 12, 2) := by decide +kernel
theorem dX0_addTo_9 : decode cX0_addTo 9 = .ok (.if_icmp .ge 24, 3) := by decide +kernel
theorem dX0_addTo_12 : decode cX0_addTo 12 = .ok (.ldc2_w 44, 3) := by decide +kernel
theorem dX0_addTo_15 : decode cX0_addTo 15 = .ok (.lload_n 3, 1) := by decide +kernel
theorem dX0_addTo_16 : decode cX0_addTo 16 = .ok (.lmul, 1) := by decide +kernel
theorem dX0_addTo_17 : decode cX0_addTo 17 = .ok (.aload_n 0, 1) := by decide +kernel
theorem dX0_addTo_18 : decode cX0_addTo 18 = .ok (.getfield 9, 3) := by decide +kernel
theorem dX0_addTo_21 : decode cX0_addTo 21 = .ok (.iload 5, 2) := by decide +kernel
theorem dX0_addTo_23 : decode cX0_addTo 23 = .ok (.iaload, 1) := by decide +kernel
theorem dX0_addTo_24 : decode cX0_addTo 24 = .ok (.i2l, 1) := by decide +kernel
theorem dX0_addTo_25 : decode cX0_addTo 25 = .ok (.ladd, 1) := by decide +kernel
theorem dX0_addTo_26 : decode cX0_addTo 26 = .ok (.lstore_n 3, 1) := by decide +kernel
theorem dX0_addTo_27 : decode cX0_addTo 27 = .ok (.iinc 5 1, 3) := by decide +kernel
theorem dX0_addTo_30 : decode cX0_addTo 30 = .ok (.goto (-25), 3) := by decide +kernel
theorem dX0_addTo_33 : decode cX0_addTo 33 = .ok (.lload_n 3, 1) := by decide +kernel
theorem dX0_addTo_34 : decode cX0_addTo 34 = .ok (.lreturn, 1) := by decide +kernel
theorem dX0_copyFrom_0 : decode cX0_copyFrom 0 = .ok (.iconst 0, 1) := by decide +kernel
theorem dX0_copyFrom_1 : decode cX0_copyFrom 1 = .ok (.istore_n 2, 1) := by decide +kernel
theorem dX0_copyFrom_2 : decode cX0_copyFrom 2 = .ok (.iload_n 2, 1) := by decide +kernel
theorem dX0_copyFrom_3 : decode cX0_copyFrom 3 = .ok (.bipush 12, 2) := by decide +kernel
theorem dX0_copyFrom_5 : decode cX0_copyFrom 5 = .ok (.if_icmp .ge 21, 3) := by decide +kernel
theorem dX0_copyFrom_8 : decode cX0_copyFrom 8 = .ok (.aload_n 0, 1) := by decide +kernel
theorem dX0_copyFrom_9 : decode cX0_copyFrom 9 = .ok (.getfield 9, 3) := by decide +kernel
theorem dX0_copyFrom_12 : decode cX0_copyFrom 12 = .ok (.iload_n 2, 1) := by decide +kernel
theorem dX0_copyFrom_13 : decode cX0_copyFrom 13 = .ok (.aload_n 1, 1) := by decide +kernel
theorem dX0_copyFrom_14 : decode cX0_copyFrom 14 = .ok (.getfield 9, 3) := by decide +kernel
theorem dX0_copyFrom_17 : decode cX0_copyFrom 17 = .ok (.iload_n 2, 1) := by decide +kernel
theorem dX0_copyFrom_18 : decode cX0_copyFrom 18 = .ok (.iaload, 1) := by decide +kernel
theorem dX0_copyFrom_19 : decode cX0_copyFrom 19 = .ok (.iastore, 1) := by decide +kernel
theorem dX0_copyFrom_20 : decode cX0_copyFrom 20 = .ok (.iinc 2 1, 3) := by decide +kernel
theorem dX0_copyFrom_23 : decode cX0_copyFrom 23 = .ok (.goto (-21), 3) := by decide +kernel
theorem dX0_copyFrom_26 : decode cX0_copyFrom 26 = .ok (.aload_n 0, 1) := by decide +kernel
theorem dX0_copyFrom_27 : decode cX0_copyFrom 27 = .ok (.aload_n 1, 1) := by decide +kernel
theorem dX0_copyFrom_28 : decode cX0_copyFrom 28 = .ok (.getfield 38, 3) := by decide +kernel
theorem dX0_copyFrom_31 : decode cX0_copyFrom 31 = .ok (.putfield 38, 3) := by decide +kernel
theorem dX0_copyFrom_34 : decode cX0_copyFrom 34 = .ok (.aload_n 0, 1) := by decide +kernel
theorem dX0_copyFrom_35 : decode cX0_copyFrom 35 = .ok (.aload_n 1, 1) := by decide +kernel
theorem dX0_copyFrom_36 : decode cX0_copyFrom 36 = .ok (.getfield 41, 3) := by decide +kernel
theorem dX0_copyFrom_39 : decode cX0_copyFrom 39 = .ok (.putfield 41, 3) := by decide +kernel
theorem dX0_copyFrom_42 : decode cX0_copyFrom 42 = .ok (.aload_n 0, 1) := by decide +kernel
theorem dX0_copyFrom_43 : decode cX0_copyFrom 43 = .ok (.aload_n 1, 1) := by decide +kernel
theorem dX0_copyFrom_44 : decode cX0_copyFrom 44 = .ok (.getfield 15, 3) := by decide +kernel
theorem dX0_copyFrom_47 : decode cX0_copyFrom 47 = .ok (.putfield 15, 3) := by decide +kernel
theorem dX0_copyFrom_50 : decode cX0_copyFrom 50 = .ok (.return_, 1) := by decide +kernel
theorem dX1_init_0 : decode cX1_init 0 = .ok (.aload_n 0, 1) := by decide +kernel
theorem dX1_init_1 : decode cX1_init 1 = .ok (.invokespecial 3, 3) := by decide +kernel
theorem dX1_init_4 : decode cX1_init 4 = .ok (.aload_n 0, 1) := by decide +kernel
theorem dX1_init_5 : decode cX1_init 5 = .ok (.bipush 10, 2) := by decide +kernel
theorem dX1_init_7 : decode cX1_init 7 = .ok (.newarray .int, 2) := by decide +kernel
theorem dX1_init_9 : decode cX1_init 9 = .ok (.putfield 9, 3) := by decide +kernel
theorem dX1_init_12 : decode cX1_init 12 = .ok (.aload_n 0, 1) := by decide +kernel
theorem dX1_init_13 : decode cX1_init 13 = .ok (.bipush 10, 2) := by decide +kernel
theorem dX1_init_15 : decode cX1_init 15 = .ok (.iconst 3, 1) := by decide +kernel
theorem dX1_init_16 : decode cX1_init 16 = .ok (.multianewarray 15 2, 4) := by decide +kernel
theorem dX1_init_20 : decode cX1_init 20 = .ok (.putfield 17, 3) := by decide +kernel
theorem dX1_init_23 : decode cX1_init 23 = .ok (.aload_n 0, 1) := by decide +kernel
theorem dX1_init_24 : decode cX1_init 24 = .ok (.bipush 10, 2) := by decide +kernel
theorem dX1_init_26 : decode cX1_init 26 = .ok (.iconst 3, 1) := by decide +kernel
theorem dX1_init_27 : decode cX1_init 27 = .ok (.multianewarray 15 2, 4) := by decide +kernel
theorem dX1_init_31 : decode cX1_init 31 = .ok (.putfield 20, 3) := by decide +kernel
theorem dX1_init_34 : decode cX1_init 34 = .ok (.aload_n 0, 1) := by decide +kernel
theorem dX1_init_35 : decode cX1_init 35 = .ok (.iconst 2, 1) := by decide +kernel
theorem dX1_init_36 : decode cX1_init 36 = .ok (.putfield 23, 3) := by decide +kernel
theorem dX1_init_39 : decode cX1_init 39 = .ok (.iconst 0, 1) := by decide +kernel
theorem dX1_init_40 : decode cX1_init 40 = .ok (.istore_n 1, 1) := by decide +kernel
theorem dX1_init_41 : decode cX1_init 41 = .ok (.iload_n 1, 1) := by decide +kernel
theorem dX1_init_42 : decode cX1_init 42 = .ok (.bipush 10, 2) := by decide +kernel
theorem dX1_init_44 : decode cX1_init 44 = .ok (.if_icmp .ge 37, 3) := by decide +kernel
theorem dX1_init_47 : decode cX1_init 47 = .ok (.aload_n 0, 1) := by decide +kernel
theorem dX1_init_48 : decode cX1_init 48 = .ok (.getfield 9, 3) := by decide +kernel
theorem dX1_init_51 : decode cX1_init 51 = .ok (.iload_n 1, 1) := by decide +kernel
theorem dX1_init_52 : decode cX1_init 52 = .ok (.bipush 100, 2) := by decide +kernel
theorem dX1_init_54 : decode cX1_init 54 = .ok (.bipush 20, 2) := by decide +kernel
theorem dX1_init_56 : decode cX1_init 56 = .ok (.iload_n 1, 1) := by decide +kernel
theorem dX1_init_57 : decode cX1_init 57 = .ok (.imul, 1) := by decide +kernel
theorem dX1_init_58 : decode cX1_init 58 = .ok (.iadd, 1) := by decide +kernel
theorem dX1_init_59 : decode cX1_init 59 = .ok (.iastore, 1) := by decide +kernel
theorem dX1_init_60 : decode cX1_init 60 = .ok (.aload_n 0, 1) := by decide +kernel
theorem dX1_init_61 : decode cX1_init 61 = .ok (.dup, 1) := by decide +kernel
theorem dX1_init_62 : decode cX1_init 62 = .ok (.getfield 27, 3) := by decide +kernel
theorem dX1_init_65 : decode cX1_init 65 = .ok (.aload_n 0, 1) := by decide +kernel
theorem dX1_init_66 : decode cX1_init 66 = .ok (.getfield 9, 3) := by decide +kernel
theorem dX1_init_69 : decode cX1_init 69 = .ok (.iload_n 1, 1) := by decide +kernel
theorem dX1_init_70 : decode cX1_init 70 = .ok (.iaload, 1) := by decide +kernel
theorem dX1_init_71 : decode cX1_init 71 = .ok (.iadd, 1) := by decide +kernel
theorem dX1_init_72 : decode cX1_init 72 = .ok (.putfield 27, 3) := by decide +kernel
theorem dX1_init_75 : decode cX1_init 75 = .ok (.iinc 1 1, 3) := by decide +kernel
theorem dX1_init_78 : decode cX1_init 78 = .ok (.goto (-37), 3) := by decide +kernel
theorem dX1_init_81 : decode cX1_init 81 = .ok (.return_, 1) := by decide +kernel
theorem dX1_tellTemperature_0 : decode cX1_tellTemperature 0 = .ok (.aload_n 0, 1) := by decide +kernel
theorem dX1_tellTemperature_1 : decode cX1_tellTemperature 1 = .ok (.getfield 9, 3) := by decide +kernel
theorem dX1_tellTemperature_4 : decode cX1_tellTemperature 4 = .ok (.iload_n 1, 1) := by decide +kernel
theorem dX1_tellTemperature_5 : decode cX1_tellTemperature 5 = .ok (.iaload, 1) := by decide +kernel
theorem dX1_tellTemperature_6 : decode cX1_tellTemperature 6 = .ok (.istore_n 3, 1) := by decide +kernel
theorem dX1_tellTemperature_7 : decode cX1_tellTemperature 7 = .ok (.aload_n 0, 1) := by decide +kernel
theorem dX1_tellTemperature_8 : decode cX1_tellTemperature 8 = .ok (.getfield 9, 3) := by decide +kernel
theorem dX1_tellTemperature_11 : decode cX1_tellTemperature 11 = .ok (.iload_n 1, 1) := by decide +kernel
theorem dX1_tellTemperature_12 : decode cX1_tellTemperature 12 = .ok (.iload_n 2, 1) := by decide +kernel
theorem dX1_tellTemperature_13 : decode cX1_tellTemperature 13 = .ok (.iastore, 1) := by decide +kernel
theorem dX1_tellTemperature_14 : decode cX1_tellTemperature 14 = .ok (.aload_n 0, 1) := by decide +kernel
theorem dX1_tellTemperature_15 : decode cX1_tellTemperature 15 = .ok (.dup, 1) := by decide +kernel
theorem dX1_tellTemperature_16 : decode cX1_tellTemperature 16 = .ok (.getfield 27, 3) := by decide +kernel
theorem dX1_tellTemperature_19 : decode cX1_tellTemperature 19 = .ok (.iload_n 2, 1) := by decide +kernel
theorem dX1_tellTemperature_20 : decode cX1_tellTemperature 20 = .ok (.iload_n 3, 1) := by decide +kernel
theorem dX1_tellTemperature_21 : decode cX1_tellTemperature 21 = .ok (.isub, 1) := by decide +kernel
theorem dX1_tellTemperature_22 : decode cX1_tellTemperature 22 = .ok (.iadd, 1) := by decide +kernel
theorem dX1_tellTemperature_23 : decode cX1_tellTemperature 23 = .ok (.putfield 27, 3) := by decide +kernel
theorem dX1_tellTemperature_26 : decode cX1_tellTemperature 26 = .ok (.iload_n 3, 1) := by decide +kernel
theorem dX1_tellTemperature_27 : decode cX1_tellTemperature 27 = .ok (.ireturn, 1) := by decide +kernel
theorem dX1_tellVapour_0 : decode cX1_tellVapour 0 = .ok (.aload_n 0, 1) := by decide +kernel
theorem dX1_tellVapour_1 : decode cX1_tellVapour 1 = .ok (.getfield 17, 3) := by decide +kernel
theorem dX1_tellVapour_4 : decode cX1_tellVapour 4 = .ok (.iload_n 1, 1) := by decide +kernel
theorem dX1_tellVapour_5 : decode cX1_tellVapour 5 = .ok (.aaload, 1) := by decide +kernel
theorem dX1_tellVapour_6 : decode cX1_tellVapour 6 = .ok (.iload_n 2, 1) := by decide +kernel
theorem dX1_tellVapour_7 : decode cX1_tellVapour 7 = .ok (.iaload, 1) := by decide +kernel
theorem dX1_tellVapour_8 : decode cX1_tellVapour 8 = .ok (.istore 4, 2) := by decide +kernel
theorem dX1_tellVapour_10 : decode cX1_tellVapour 10 = .ok (.aload_n 0, 1) := by decide +kernel
theorem dX1_tellVapour_11 : decode cX1_tellVapour 11 = .ok (.getfield 17, 3) := by decide +kernel
theorem dX1_tellVapour_14 : decode cX1_tellVapour 14 = .ok (.iload_n 1, 1) := by decide +kernel
theorem dX1_tellVapour_15 : decode cX1_tellVapour 15 = .ok (.aaload, 1) := by decide +kernel
theorem dX1_tellVapour_16 : decode cX1_tellVapour 16 = .ok (.iload_n 2, 1) := by decide +kernel
theorem dX1_tellVapour_17 : decode cX1_tellVapour 17 = .ok (.iload_n 3, 1) := by decide +kernel
theorem dX1_tellVapour_18 : decode cX1_tellVapour 18 = .ok (.iastore, 1) := by decide +kernel
theorem dX1_tellVapour_19 : decode cX1_tellVapour 19 = .ok (.aload_n 0, 1) := by decide +kernel
theorem dX1_tellVapour_20 : decode cX1_tellVapour 20 = .ok (.dup, 1) := by decide +kernel
theorem dX1_tellVapour_21 : decode cX1_tellVapour 21 = .ok (.getfield 30, 3) := by decide +kernel
theorem dX1_tellVapour_24 : decode cX1_tellVapour 24 = .ok (.iload_n 3, 1) := by decide +kernel
theorem dX1_tellVapour_25 : decode cX1_tellVapour 25 = .ok (.iload 4, 2) := by decide +kernel
theorem dX1_tellVapour_27 : decode cX1_tellVapour 27 = .ok (.isub, 1) := by decide +kernel
theorem dX1_tellVapour_28 : decode cX1_tellVapour 28 = .ok (.iadd, 1) := by decide +kernel
theorem dX1_tellVapour_29 : decode cX1_tellVapour 29 = .ok (.putfield 30, 3) := by decide +kernel
theorem dX1_tellVapour_32 : decode cX1_tellVapour 32 = .ok (.iload 4, 2) := by decide +kernel
theorem dX1_tellVapour_34 : decode cX1_tellVapour 34 = .ok (.ireturn, 1) := by decide +kernel
theorem dX1_iciestLevel_0 : decode cX1_iciestLevel 0 = .ok (.iconst (-1), 1) := by decide +kernel
theorem dX1_iciestLevel_1 : decode cX1_iciestLevel 1 = .ok (.istore_n 2, 1) := by decide +kernel
theorem dX1_iciestLevel_2 : decode cX1_iciestLevel 2 = .ok (.iconst 0, 1) := by decide +kernel
theorem dX1_iciestLevel_3 : decode cX1_iciestLevel 3 = .ok (.istore_n 3, 1) := by decide +kernel
theorem dX1_iciestLevel_4 : decode cX1_iciestLevel 4 = .ok (.iconst 0, 1) := by decide +kernel
theorem dX1_iciestLevel_5 : decode cX1_iciestLevel 5 = .ok (.istore 4, 2) := by decide +kernel
theorem dX1_iciestLevel_7 : decode cX1_iciestLevel 7 = .ok (.iload 4, 2) := by decide +kernel
theorem dX1_iciestLevel_9 : decode cX1_iciestLevel 9 = .ok (.bipush 10, 2) := by decide +kernel
theorem dX1_iciestLevel_11 : decode cX1_iciestLevel 11 = .ok (.if_icmp .ge 35, 3) := by decide +kernel
theorem dX1_iciestLevel_14 : decode cX1_iciestLevel 14 = .ok (.aload_n 0, 1) := by decide +kernel
theorem dX1_iciestLevel_15 : decode cX1_iciestLevel 15 = .ok (.getfield 20, 3) := by decide +kernel
theorem dX1_iciestLevel_18 : decode cX1_iciestLevel 18 = .ok (.iload 4, 2) := by decide +kernel
theorem dX1_iciestLevel_20 : decode cX1_iciestLevel 20 = .ok (.aaload, 1) := by decide +kernel
theorem dX1_iciestLevel_21 : decode cX1_iciestLevel 21 = .ok (.iload_n 1, 1) := by decide +kernel
theorem dX1_iciestLevel_22 : decode cX1_iciestLevel 22 = .ok (.iaload, 1) := by decide +kernel
theorem dX1_iciestLevel_23 : decode cX1_iciestLevel 23 = .ok (.iload_n 3, 1) := by decide +kernel
theorem dX1_iciestLevel_24 : decode cX1_iciestLevel 24 = .ok (.if_icmp .le 16, 3) := by decide +kernel
theorem dX1_iciestLevel_27 : decode cX1_iciestLevel 27 = .ok (.aload_n 0, 1) := by decide +kernel
theorem dX1_iciestLevel_28 : decode cX1_iciestLevel 28 = .ok (.getfield 20, 3) := by decide +kernel
theorem dX1_iciestLevel_31 : decode cX1_iciestLevel 31 = .ok (.iload 4, 2) := by decide +kernel
theorem dX1_iciestLevel_33 : decode cX1_iciestLevel 33 = .ok (.aaload, 1) := by decide +kernel
theorem dX1_iciestLevel_34 : decode cX1_iciestLevel 34 = .ok (.iload_n 1, 1) := by decide +kernel
theorem dX1_iciestLevel_35 : decode cX1_iciestLevel 35 = .ok (.iaload, 1) := by decide +kernel
theorem dX1_iciestLevel_36 : decode cX1_iciestLevel 36 = .ok (.istore_n 3, 1) := by decide +kernel
theorem dX1_iciestLevel_37 : decode cX1_iciestLevel 37 = .ok (.iload 4, 2) := by decide +kernel
theorem dX1_iciestLevel_39 : decode cX1_iciestLevel 39 = .ok (.istore_n 2, 1) := by decide +kernel
theorem dX1_iciestLevel_40 : decode cX1_iciestLevel 40 = .ok (.iinc 4 1, 3) := by decide +kernel
theorem dX1_iciestLevel_43 : decode cX1_iciestLevel 43 = .ok (.goto (-36), 3) := by decide +kernel
theorem dX1_iciestLevel_46 : decode cX1_iciestLevel 46 = .ok (.iload_n 2, 1) := by decide +kernel
theorem dX1_iciestLevel_47 : decode cX1_iciestLevel 47 = .ok (.ireturn, 1) := by decide +kernel
theorem dX1_goOn_0 : decode cX1_goOn 0 = .ok (.aload_n 0, 1) := by decide +kernel
theorem dX1_goOn_1 : decode cX1_goOn 1 = .ok (.getfield 9, 3) := by decide +kernel
theorem dX1_goOn_4 : decode cX1_goOn 4 = .ok (.bipush 9, 2) := by decide +kernel
theorem dX1_goOn_6 : decode cX1_goOn 6 = .ok (.dup2, 1) := by decide +kernel
theorem dX1_goOn_7 : decode cX1_goOn 7 = .ok (.iaload, 1) := by decide +kernel
theorem dX1_goOn_8 : decode cX1_goOn 8 = .ok (.aload_n 0, 1) := by decide +kernel
theorem dX1_goOn_9 : decode cX1_goOn 9 = .ok (.getfield 23, 3) := by decide +kernel
theorem dX1_goOn_12 : decode cX1_goOn 12 = .ok (.iadd, 1) := by decide +kernel
theorem dX1_goOn_13 : decode cX1_goOn 13 = .ok (.iastore, 1) := by decide +kernel
theorem dX1_goOn_14 : decode cX1_goOn 14 = .ok (.aload_n 0, 1) := by decide +kernel
theorem dX1_goOn_15 : decode cX1_goOn 15 = .ok (.dup, 1) := by decide +kernel
theorem dX1_goOn_16 : decode cX1_goOn 16 = .ok (.getfield 33, 3) := by decide +kernel
theorem dX1_goOn_19 : decode cX1_goOn 19 = .ok (.aload_n 0, 1) := by decide +kernel
theorem dX1_goOn_20 : decode cX1_goOn 20 = .ok (.getfield 23, 3) := by decide +kernel
theorem dX1_goOn_23 : decode cX1_goOn 23 = .ok (.iadd, 1) := by decide +kernel
theorem dX1_goOn_24 : decode cX1_goOn 24 = .ok (.putfield 33, 3) := by decide +kernel
theorem dX1_goOn_27 : decode cX1_goOn 27 = .ok (.iconst 0, 1) := by decide +kernel
theorem dX1_goOn_28 : decode cX1_goOn 28 = .ok (.istore_n 1, 1) := by decide +kernel
theorem dX1_goOn_29 : decode cX1_goOn 29 = .ok (.iload_n 1, 1) := by decide +kernel
theorem dX1_goOn_30 : decode cX1_goOn 30 = .ok (.bipush 10, 2) := by decide +kernel
theorem dX1_goOn_32 : decode cX1_goOn 32 = .ok (.if_icmp .ge 14, 3) := by decide +kernel
theorem dX1_goOn_35 : decode cX1_goOn 35 = .ok (.aload_n 0, 1) := by decide +kernel
theorem dX1_goOn_36 : decode cX1_goOn 36 = .ok (.iload_n 1, 1) := by decide +kernel
theorem dX1_goOn_37 : decode cX1_goOn 37 = .ok (.invokevirtual 36, 3) := by decide +kernel
theorem dX1_goOn_40 : decode cX1_goOn 40 = .ok (.iinc 1 1, 3) := by decide +kernel
theorem dX1_goOn_43 : decode cX1_goOn 43 = .ok (.goto (-14), 3) := by decide +kernel
theorem dX1_goOn_46 : decode cX1_goOn 46 = .ok (.bipush 8, 2) := by decide +kernel
theorem dX1_goOn_48 : decode cX1_goOn 48 = .ok (.istore_n 1, 1) := by decide +kernel
theorem dX1_goOn_49 : decode cX1_goOn 49 = .ok (.iload_n 1, 1) := by decide +kernel
theorem dX1_goOn_50 : decode cX1_goOn 50 = .ok (.ifCond .lt 14, 3) := by decide +kernel
theorem dX1_goOn_53 : decode cX1_goOn 53 = .ok (.aload_n 0, 1) := by decide +kernel
theorem dX1_goOn_54 : decode cX1_goOn 54 = .ok (.iload_n 1, 1) := by decide +kernel
theorem dX1_goOn_55 : decode cX1_goOn 55 = .ok (.invokevirtual 40, 3) := by decide +kernel
theorem dX1_goOn_58 : decode cX1_goOn 58 = .ok (.iinc 1 (-1), 3) := by decide +kernel
theorem dX1_goOn_61 : decode cX1_goOn 61 = .ok (.goto (-12), 3) := by decide +kernel
theorem dX1_goOn_64 : decode cX1_goOn 64 = .ok (.bipush 8, 2) := by decide +kernel
theorem dX1_goOn_66 : decode cX1_goOn 66 = .ok (.istore_n 1, 1) := by decide +kernel
theorem dX1_goOn_67 : decode cX1_goOn 67 = .ok (.iload_n 1, 1) := by decide +kernel
theorem dX1_goOn_68 : decode cX1_goOn 68 = .ok (.ifCond .lt 14, 3) := by decide +kernel
theorem dX1_goOn_71 : decode cX1_goOn 71 = .ok (.aload_n 0, 1) := by decide +kernel
theorem dX1_goOn_72 : decode cX1_goOn 72 = .ok (.iload_n 1, 1) := by decide +kernel
theorem dX1_goOn_73 : decode cX1_goOn 73 = .ok (.invokevirtual 43, 3) := by decide +kernel
theorem dX1_goOn_76 : decode cX1_goOn 76 = .ok (.iinc 1 (-1), 3) := by decide +kernel
theorem dX1_goOn_79 : decode cX1_goOn 79 = .ok (.goto (-12), 3) := by decide +kernel
theorem dX1_goOn_82 : decode cX1_goOn 82 = .ok (.aload_n 0, 1) := by decide +kernel
theorem dX1_goOn_83 : decode cX1_goOn 83 = .ok (.getfield 9, 3) := by decide +kernel
theorem dX1_goOn_86 : decode cX1_goOn 86 = .ok (.iconst 0, 1) := by decide +kernel
theorem dX1_goOn_87 : decode cX1_goOn 87 = .ok (.iaload, 1) := by decide +kernel
theorem dX1_goOn_88 : decode cX1_goOn 88 = .ok (.bipush 100, 2) := by decide +kernel
theorem dX1_goOn_90 : decode cX1_goOn 90 = .ok (.idiv, 1) := by decide +kernel
theorem dX1_goOn_91 : decode cX1_goOn 91 = .ok (.istore_n 1, 1) := by decide +kernel
theorem dX1_goOn_92 : decode cX1_goOn 92 = .ok (.aload_n 0, 1) := by decide +kernel
theorem dX1_goOn_93 : decode cX1_goOn 93 = .ok (.getfield 9, 3) := by decide +kernel
theorem dX1_goOn_96 : decode cX1_goOn 96 = .ok (.iconst 0, 1) := by decide +kernel
theorem dX1_goOn_97 : decode cX1_goOn 97 = .ok (.dup2, 1) := by decide +kernel
theorem dX1_goOn_98 : decode cX1_goOn 98 = .ok (.iaload, 1) := by decide +kernel
theorem dX1_goOn_99 : decode cX1_goOn 99 = .ok (.iload_n 1, 1) := by decide +kernel
theorem dX1_goOn_100 : decode cX1_goOn 100 = .ok (.isub, 1) := by decide +kernel
theorem dX1_goOn_101 : decode cX1_goOn 101 = .ok (.iastore, 1) := by decide +kernel
theorem dX1_goOn_102 : decode cX1_goOn 102 = .ok (.aload_n 0, 1) := by decide +kernel
theorem dX1_goOn_103 : decode cX1_goOn 103 = .ok (.dup, 1) := by decide +kernel
theorem dX1_goOn_104 : decode cX1_goOn 104 = .ok (.getfield 46, 3) := by decide +kernel
theorem dX1_goOn_107 : decode cX1_goOn 107 = .ok (.iload_n 1, 1) := by decide +kernel
theorem dX1_goOn_108 : decode cX1_goOn 108 = .ok (.iadd, 1) := by decide +kernel
theorem dX1_goOn_109 : decode cX1_goOn 109 = .ok (.putfield 46, 3) := by decide +kernel
theorem dX1_goOn_112 : decode cX1_goOn 112 = .ok (.return_, 1) := by decide +kernel
theorem dX1_freezeOrThaw_0 : decode cX1_freezeOrThaw 0 = .ok (.iconst 0, 1) := by decide +kernel
theorem dX1_freezeOrThaw_1 : decode cX1_freezeOrThaw 1 = .ok (.istore_n 2, 1) := by decide +kernel
theorem dX1_freezeOrThaw_2 : decode cX1_freezeOrThaw 2 = .ok (.iload_n 2, 1) := by decide +kernel
theorem dX1_freezeOrThaw_3 : decode cX1_freezeOrThaw 3 = .ok (.iconst 3, 1) := by decide +kernel
theorem dX1_freezeOrThaw_4 : decode cX1_freezeOrThaw 4 = .ok (.if_icmp .ge 96, 3) := by decide +kernel
theorem dX1_freezeOrThaw_7 : decode cX1_freezeOrThaw 7 = .ok (.iconst 0, 1) := by decide +kernel
theorem dX1_freezeOrThaw_8 : decode cX1_freezeOrThaw 8 = .ok (.aload_n 0, 1) := by decide +kernel
theorem dX1_freezeOrThaw_9 : decode cX1_freezeOrThaw 9 = .ok (.getfield 9, 3) := by decide +kernel
theorem dX1_freezeOrThaw_12 : decode cX1_freezeOrThaw 12 = .ok (.iload_n 1, 1) := by decide +kernel
theorem dX1_freezeOrThaw_13 : decode cX1_freezeOrThaw 13 = .ok (.iaload, 1) := by decide +kernel
theorem dX1_freezeOrThaw_14 : decode cX1_freezeOrThaw 14 = .ok (.getstatic 49, 3) := by decide +kernel
theorem dX1_freezeOrThaw_17 : decode cX1_freezeOrThaw 17 = .ok (.iload_n 2, 1) := by decide +kernel
theorem dX1_freezeOrThaw_18 : decode cX1_freezeOrThaw 18 = .ok (.iaload, 1) := by decide +kernel
theorem dX1_freezeOrThaw_19 : decode cX1_freezeOrThaw 19 = .ok (.isub, 1) := by decide +kernel
theorem dX1_freezeOrThaw_20 : decode cX1_freezeOrThaw 20 = .ok (.invokestatic 52, 3) := by decide +kernel
theorem dX1_freezeOrThaw_23 : decode cX1_freezeOrThaw 23 = .ok (.istore_n 3, 1) := by decide +kernel
theorem dX1_freezeOrThaw_24 : decode cX1_freezeOrThaw 24 = .ok (.getstatic 58, 3) := by decide +kernel
theorem dX1_freezeOrThaw_27 : decode cX1_freezeOrThaw 27 = .ok (.iload_n 2, 1) := by decide +kernel
theorem dX1_freezeOrThaw_28 : decode cX1_freezeOrThaw 28 = .ok (.iaload, 1) := by decide +kernel
theorem dX1_freezeOrThaw_29 : decode cX1_freezeOrThaw 29 = .ok (.iload_n 3, 1) := by decide +kernel
theorem dX1_freezeOrThaw_30 : decode cX1_freezeOrThaw 30 = .ok (.imul, 1) := by decide +kernel
theorem dX1_freezeOrThaw_31 : decode cX1_freezeOrThaw 31 = .ok (.istore 4, 2) := by decide +kernel
theorem dX1_freezeOrThaw_33 : decode cX1_freezeOrThaw 33 = .ok (.aload_n 0, 1) := by decide +kernel
theorem dX1_freezeOrThaw_34 : decode cX1_freezeOrThaw 34 = .ok (.getfield 17, 3) := by decide +kernel
theorem dX1_freezeOrThaw_37 : decode cX1_freezeOrThaw 37 = .ok (.iload_n 1, 1) := by decide +kernel
theorem dX1_freezeOrThaw_38 : decode cX1_freezeOrThaw 38 = .ok (.aaload, 1) := by decide +kernel
theorem dX1_freezeOrThaw_39 : decode cX1_freezeOrThaw 39 = .ok (.iload_n 2, 1) := by decide +kernel
theorem dX1_freezeOrThaw_40 : decode cX1_freezeOrThaw 40 = .ok (.iaload, 1) := by decide +kernel
theorem dX1_freezeOrThaw_41 : decode cX1_freezeOrThaw 41 = .ok (.iload 4, 2) := by decide +kernel
theorem dX1_freezeOrThaw_43 : decode cX1_freezeOrThaw 43 = .ok (.isub, 1) := by decide +kernel
theorem dX1_freezeOrThaw_44 : decode cX1_freezeOrThaw 44 = .ok (.istore 5, 2) := by decide +kernel
theorem dX1_freezeOrThaw_46 : decode cX1_freezeOrThaw 46 = .ok (.iload 5, 2) := by decide +kernel
theorem dX1_freezeOrThaw_48 : decode cX1_freezeOrThaw 48 = .ok (.ifCond .ge 20, 3) := by decide +kernel
theorem dX1_freezeOrThaw_51 : decode cX1_freezeOrThaw 51 = .ok (.iload 5, 2) := by decide +kernel
theorem dX1_freezeOrThaw_53 : decode cX1_freezeOrThaw 53 = .ok (.ineg, 1) := by decide +kernel
theorem dX1_freezeOrThaw_54 : decode cX1_freezeOrThaw 54 = .ok (.aload_n 0, 1) := by decide +kernel
theorem dX1_freezeOrThaw_55 : decode cX1_freezeOrThaw 55 = .ok (.getfield 20, 3) := by decide +kernel
theorem dX1_freezeOrThaw_58 : decode cX1_freezeOrThaw 58 = .ok (.iload_n 1, 1) := by decide +kernel
theorem dX1_freezeOrThaw_59 : decode cX1_freezeOrThaw 59 = .ok (.aaload, 1) := by decide +kernel
theorem dX1_freezeOrThaw_60 : decode cX1_freezeOrThaw 60 = .ok (.iload_n 2, 1) := by decide +kernel
theorem dX1_freezeOrThaw_61 : decode cX1_freezeOrThaw 61 = .ok (.iaload, 1) := by decide +kernel
theorem dX1_freezeOrThaw_62 : decode cX1_freezeOrThaw 62 = .ok (.invokestatic 61, 3) := by decide +kernel
theorem dX1_freezeOrThaw_65 : decode cX1_freezeOrThaw 65 = .ok (.ineg, 1) := by decide +kernel
theorem dX1_freezeOrThaw_66 : decode cX1_freezeOrThaw 66 = .ok (.istore 5, 2) := by decide +kernel
theorem dX1_freezeOrThaw_68 : decode cX1_freezeOrThaw 68 = .ok (.aload_n 0, 1) := by decide +kernel
theorem dX1_freezeOrThaw_69 : decode cX1_freezeOrThaw 69 = .ok (.getfield 17, 3) := by decide +kernel
theorem dX1_freezeOrThaw_72 : decode cX1_freezeOrThaw 72 = .ok (.iload_n 1, 1) := by decide +kernel
theorem dX1_freezeOrThaw_73 : decode cX1_freezeOrThaw 73 = .ok (.aaload, 1) := by decide +kernel
theorem dX1_freezeOrThaw_74 : decode cX1_freezeOrThaw 74 = .ok (.iload_n 2, 1) := by decide +kernel
theorem dX1_freezeOrThaw_75 : decode cX1_freezeOrThaw 75 = .ok (.dup2, 1) := by decide +kernel
theorem dX1_freezeOrThaw_76 : decode cX1_freezeOrThaw 76 = .ok (.iaload, 1) := by decide +kernel
theorem dX1_freezeOrThaw_77 : decode cX1_freezeOrThaw 77 = .ok (.iload 5, 2) := by decide +kernel
theorem dX1_freezeOrThaw_79 : decode cX1_freezeOrThaw 79 = .ok (.isub, 1) := by decide +kernel
theorem dX1_freezeOrThaw_80 : decode cX1_freezeOrThaw 80 = .ok (.iastore, 1) := by decide +kernel
theorem dX1_freezeOrThaw_81 : decode cX1_freezeOrThaw 81 = .ok (.aload_n 0, 1) := by decide +kernel
theorem dX1_freezeOrThaw_82 : decode cX1_freezeOrThaw 82 = .ok (.getfield 20, 3) := by decide +kernel
theorem dX1_freezeOrThaw_85 : decode cX1_freezeOrThaw 85 = .ok (.iload_n 1, 1) := by decide +kernel
theorem dX1_freezeOrThaw_86 : decode cX1_freezeOrThaw 86 = .ok (.aaload, 1) := by decide +kernel
theorem dX1_freezeOrThaw_87 : decode cX1_freezeOrThaw 87 = .ok (.iload_n 2, 1) := by decide +kernel
theorem dX1_freezeOrThaw_88 : decode cX1_freezeOrThaw 88 = .ok (.dup2, 1) := by decide +kernel
theorem dX1_freezeOrThaw_89 : decode cX1_freezeOrThaw 89 = .ok (.iaload, 1) := by decide +kernel
theorem dX1_freezeOrThaw_90 : decode cX1_freezeOrThaw 90 = .ok (.iload 5, 2) := by decide +kernel
theorem dX1_freezeOrThaw_92 : decode cX1_freezeOrThaw 92 = .ok (.iadd, 1) := by decide +kernel
theorem dX1_freezeOrThaw_93 : decode cX1_freezeOrThaw 93 = .ok (.iastore, 1) := by decide +kernel
theorem dX1_freezeOrThaw_94 : decode cX1_freezeOrThaw 94 = .ok (.iinc 2 1, 3) := by decide +kernel
theorem dX1_freezeOrThaw_97 : decode cX1_freezeOrThaw 97 = .ok (.goto (-95), 3) := by decide +kernel
theorem dX1_freezeOrThaw_100 : decode cX1_freezeOrThaw 100 = .ok (.return_, 1) := by decide +kernel
theorem dX1_dropIce_0 : decode cX1_dropIce 0 = .ok (.iconst 0, 1) := by decide +kernel
theorem dX1_dropIce_1 : decode cX1_dropIce 1 = .ok (.istore_n 2, 1) := by decide +kernel
theorem dX1_dropIce_2 : decode cX1_dropIce 2 = .ok (.iload_n 2, 1) := by decide +kernel
theorem dX1_dropIce_3 : decode cX1_dropIce 3 = .ok (.iconst 3, 1) := by decide +kernel
theorem dX1_dropIce_4 : decode cX1_dropIce 4 = .ok (.if_icmp .ge 48, 3) := by decide +kernel
theorem dX1_dropIce_7 : decode cX1_dropIce 7 = .ok (.aload_n 0, 1) := by decide +kernel
theorem dX1_dropIce_8 : decode cX1_dropIce 8 = .ok (.getfield 20, 3) := by decide +kernel
theorem dX1_dropIce_11 : decode cX1_dropIce 11 = .ok (.iload_n 1, 1) := by decide +kernel
theorem dX1_dropIce_12 : decode cX1_dropIce 12 = .ok (.aaload, 1) := by decide +kernel
theorem dX1_dropIce_13 : decode cX1_dropIce 13 = .ok (.iload_n 2, 1) := by decide +kernel
theorem dX1_dropIce_14 : decode cX1_dropIce 14 = .ok (.iaload, 1) := by decide +kernel
theorem dX1_dropIce_15 : decode cX1_dropIce 15 = .ok (.iconst 1, 1) := by decide +kernel
theorem dX1_dropIce_16 : decode cX1_dropIce 16 = .ok (.iadd, 1) := by decide +kernel
theorem dX1_dropIce_17 : decode cX1_dropIce 17 = .ok (.iconst 2, 1) := by decide +kernel
theorem dX1_dropIce_18 : decode cX1_dropIce 18 = .ok (.idiv, 1) := by decide +kernel
theorem dX1_dropIce_19 : decode cX1_dropIce 19 = .ok (.istore_n 3, 1) := by decide +kernel
theorem dX1_dropIce_20 : decode cX1_dropIce 20 = .ok (.aload_n 0, 1) := by decide +kernel
theorem dX1_dropIce_21 : decode cX1_dropIce 21 = .ok (.getfield 20, 3) := by decide +kernel
theorem dX1_dropIce_24 : decode cX1_dropIce 24 = .ok (.iload_n 1, 1) := by decide +kernel
theorem dX1_dropIce_25 : decode cX1_dropIce 25 = .ok (.aaload, 1) := by decide +kernel
theorem dX1_dropIce_26 : decode cX1_dropIce 26 = .ok (.iload_n 2, 1) := by decide +kernel
theorem dX1_dropIce_27 : decode cX1_dropIce 27 = .ok (.dup2, 1) := by decide +kernel
theorem dX1_dropIce_28 : decode cX1_dropIce 28 = .ok (.iaload, 1) := by decide +kernel
theorem dX1_dropIce_29 : decode cX1_dropIce 29 = .ok (.iload_n 3, 1) := by decide +kernel
theorem dX1_dropIce_30 : decode cX1_dropIce 30 = .ok (.isub, 1) := by decide +kernel
theorem dX1_dropIce_31 : decode cX1_dropIce 31 = .ok (.iastore, 1) := by decide +kernel
theorem dX1_dropIce_32 : decode cX1_dropIce 32 = .ok (.aload_n 0, 1) := by decide +kernel
theorem dX1_dropIce_33 : decode cX1_dropIce 33 = .ok (.getfield 20, 3) := by decide +kernel
theorem dX1_dropIce_36 : decode cX1_dropIce 36 = .ok (.iload_n 1, 1) := by decide +kernel
theorem dX1_dropIce_37 : decode cX1_dropIce 37 = .ok (.iconst 1, 1) := by decide +kernel
theorem dX1_dropIce_38 : decode cX1_dropIce 38 = .ok (.iadd, 1) := by decide +kernel
theorem dX1_dropIce_39 : decode cX1_dropIce 39 = .ok (.aaload, 1) := by decide +kernel
theorem dX1_dropIce_40 : decode cX1_dropIce 40 = .ok (.iload_n 2, 1) := by decide +kernel
theorem dX1_dropIce_41 : decode cX1_dropIce 41 = .ok (.dup2, 1) := by decide +kernel
theorem dX1_dropIce_42 : decode cX1_dropIce 42 = .ok (.iaload, 1) := by decide +kernel
theorem dX1_dropIce_43 : decode cX1_dropIce 43 = .ok (.iload_n 3, 1) := by decide +kernel
theorem dX1_dropIce_44 : decode cX1_dropIce 44 = .ok (.iadd, 1) := by decide +kernel
theorem dX1_dropIce_45 : decode cX1_dropIce 45 = .ok (.iastore, 1) := by decide +kernel
theorem dX1_dropIce_46 : decode cX1_dropIce 46 = .ok (.iinc 2 1, 3) := by decide +kernel
theorem dX1_dropIce_49 : decode cX1_dropIce 49 = .ok (.goto (-47), 3) := by decide +kernel
theorem dX1_dropIce_52 : decode cX1_dropIce 52 = .ok (.return_, 1) := by decide +kernel
theorem dX1_riseInto_0 : decode cX1_riseInto 0 = .ok (.iload_n 1, 1) := by decide +kernel
theorem dX1_riseInto_1 : decode cX1_riseInto 1 = .ok (.iconst 1, 1) := by decide +kernel
theorem dX1_riseInto_2 : decode cX1_riseInto 2 = .ok (.iadd, 1) := by decide +kernel
theorem dX1_riseInto_3 : decode cX1_riseInto 3 = .ok (.istore_n 2, 1) := by decide +kernel
theorem dX1_riseInto_4 : decode cX1_riseInto 4 = .ok (.aload_n 0, 1) := by decide +kernel
theorem dX1_riseInto_5 : decode cX1_riseInto 5 = .ok (.getfield 9, 3) := by decide +kernel
theorem dX1_riseInto_8 : decode cX1_riseInto 8 = .ok (.iload_n 2, 1) := by decide +kernel
theorem dX1_riseInto_9 : decode cX1_riseInto 9 = .ok (.iaload, 1) := by decide +kernel
theorem dX1_riseInto_10 : decode cX1_riseInto 10 = .ok (.aload_n 0, 1) := by decide +kernel
theorem dX1_riseInto_11 : decode cX1_riseInto 11 = .ok (.getfield 9, 3) := by decide +kernel
theorem dX1_riseInto_14 : decode cX1_riseInto 14 = .ok (.iload_n 1, 1) := by decide +kernel
theorem dX1_riseInto_15 : decode cX1_riseInto 15 = .ok (.iaload, 1) := by decide +kernel
theorem dX1_riseInto_16 : decode cX1_riseInto 16 = .ok (.isub, 1) := by decide +kernel
theorem dX1_riseInto_17 : decode cX1_riseInto 17 = .ok (.bipush 25, 2) := by decide +kernel
theorem dX1_riseInto_19 : decode cX1_riseInto 19 = .ok (.isub, 1) := by decide +kernel
theorem dX1_riseInto_20 : decode cX1_riseInto 20 = .ok (.istore_n 3, 1) := by decide +kernel
theorem dX1_riseInto_21 : decode cX1_riseInto 21 = .ok (.iload_n 3, 1) := by decide +kernel
theorem dX1_riseInto_22 : decode cX1_riseInto 22 = .ok (.ifCond .le 18, 3) := by decide +kernel
theorem dX1_riseInto_25 : decode cX1_riseInto 25 = .ok (.iload_n 3, 1) := by decide +kernel
theorem dX1_riseInto_26 : decode cX1_riseInto 26 = .ok (.aload_n 0, 1) := by decide +kernel
theorem dX1_riseInto_27 : decode cX1_riseInto 27 = .ok (.iload_n 2, 1) := by decide +kernel
theorem dX1_riseInto_28 : decode cX1_riseInto 28 = .ok (.invokevirtual 64, 3) := by decide +kernel
theorem dX1_riseInto_31 : decode cX1_riseInto 31 = .ok (.aload_n 0, 1) := by decide +kernel
theorem dX1_riseInto_32 : decode cX1_riseInto 32 = .ok (.iload_n 1, 1) := by decide +kernel
theorem dX1_riseInto_33 : decode cX1_riseInto 33 = .ok (.invokevirtual 64, 3) := by decide +kernel
theorem dX1_riseInto_36 : decode cX1_riseInto 36 = .ok (.isub, 1) := by decide +kernel
theorem dX1_riseInto_37 : decode cX1_riseInto 37 = .ok (.if_icmp .gt 4, 3) := by decide +kernel
theorem dX1_riseInto_40 : decode cX1_riseInto 40 = .ok (.return_, 1) := by decide +kernel
theorem dX1_riseInto_41 : decode cX1_riseInto 41 = .ok (.iload_n 3, 1) := by decide +kernel
theorem dX1_riseInto_42 : decode cX1_riseInto 42 = .ok (.iconst 1, 1) := by decide +kernel
theorem dX1_riseInto_43 : decode cX1_riseInto 43 = .ok (.iadd, 1) := by decide +kernel
theorem dX1_riseInto_44 : decode cX1_riseInto 44 = .ok (.iconst 2, 1) := by decide +kernel
theorem dX1_riseInto_45 : decode cX1_riseInto 45 = .ok (.idiv, 1) := by decide +kernel
theorem dX1_riseInto_46 : decode cX1_riseInto 46 = .ok (.istore 4, 2) := by decide +kernel
theorem dX1_riseInto_48 : decode cX1_riseInto 48 = .ok (.aload_n 0, 1) := by decide +kernel
theorem dX1_riseInto_49 : decode cX1_riseInto 49 = .ok (.getfield 9, 3) := by decide +kernel
theorem dX1_riseInto_52 : decode cX1_riseInto 52 = .ok (.iload_n 2, 1) := by decide +kernel
theorem dX1_riseInto_53 : decode cX1_riseInto 53 = .ok (.dup2, 1) := by decide +kernel
theorem dX1_riseInto_54 : decode cX1_riseInto 54 = .ok (.iaload, 1) := by decide +kernel
theorem dX1_riseInto_55 : decode cX1_riseInto 55 = .ok (.iload 4, 2) := by decide +kernel
theorem dX1_riseInto_57 : decode cX1_riseInto 57 = .ok (.isub, 1) := by decide +kernel
theorem dX1_riseInto_58 : decode cX1_riseInto 58 = .ok (.iastore, 1) := by decide +kernel
theorem dX1_riseInto_59 : decode cX1_riseInto 59 = .ok (.aload_n 0, 1) := by decide +kernel
theorem dX1_riseInto_60 : decode cX1_riseInto 60 = .ok (.getfield 9, 3) := by decide +kernel
theorem dX1_riseInto_63 : decode cX1_riseInto 63 = .ok (.iload_n 1, 1) := by decide +kernel
theorem dX1_riseInto_64 : decode cX1_riseInto 64 = .ok (.dup2, 1) := by decide +kernel
theorem dX1_riseInto_65 : decode cX1_riseInto 65 = .ok (.iaload, 1) := by decide +kernel
theorem dX1_riseInto_66 : decode cX1_riseInto 66 = .ok (.iload 4, 2) := by decide +kernel
theorem dX1_riseInto_68 : decode cX1_riseInto 68 = .ok (.iadd, 1) := by decide +kernel
theorem dX1_riseInto_69 : decode cX1_riseInto 69 = .ok (.iastore, 1) := by decide +kernel
theorem dX1_riseInto_70 : decode cX1_riseInto 70 = .ok (.iconst 0, 1) := by decide +kernel
theorem dX1_riseInto_71 : decode cX1_riseInto 71 = .ok (.istore 5, 2) := by decide +kernel
theorem dX1_riseInto_73 : decode cX1_riseInto 73 = .ok (.iload 5, 2) := by decide +kernel
theorem dX1_riseInto_75 : decode cX1_riseInto 75 = .ok (.iconst 3, 1) := by decide +kernel
theorem dX1_riseInto_76 : decode cX1_riseInto 76 = .ok (.if_icmp .ge 51, 3) := by decide +kernel
theorem dX1_riseInto_79 : decode cX1_riseInto 79 = .ok (.aload_n 0, 1) := by decide +kernel
theorem dX1_riseInto_80 : decode cX1_riseInto 80 = .ok (.getfield 17, 3) := by decide +kernel
theorem dX1_riseInto_83 : decode cX1_riseInto 83 = .ok (.iload_n 2, 1) := by decide +kernel
theorem dX1_riseInto_84 : decode cX1_riseInto 84 = .ok (.aaload, 1) := by decide +kernel
theorem dX1_riseInto_85 : decode cX1_riseInto 85 = .ok (.iload 5, 2) := by decide +kernel
theorem dX1_riseInto_87 : decode cX1_riseInto 87 = .ok (.iaload, 1) := by decide +kernel
theorem dX1_riseInto_88 : decode cX1_riseInto 88 = .ok (.bipush 10, 2) := by decide +kernel
theorem dX1_riseInto_90 : decode cX1_riseInto 90 = .ok (.idiv, 1) := by decide +kernel
theorem dX1_riseInto_91 : decode cX1_riseInto 91 = .ok (.istore 6, 2) := by decide +kernel
theorem dX1_riseInto_93 : decode cX1_riseInto 93 = .ok (.aload_n 0, 1) := by decide +kernel
theorem dX1_riseInto_94 : decode cX1_riseInto 94 = .ok (.getfield 17, 3) := by decide +kernel
theorem dX1_riseInto_97 : decode cX1_riseInto 97 = .ok (.iload_n 2, 1) := by decide +kernel
theorem dX1_riseInto_98 : decode cX1_riseInto 98 = .ok (.aaload, 1) := by decide +kernel
theorem dX1_riseInto_99 : decode cX1_riseInto 99 = .ok (.iload 5, 2) := by decide +kernel
theorem dX1_riseInto_101 : decode cX1_riseInto 101 = .ok (.dup2, 1) := by decide +kernel
theorem dX1_riseInto_102 : decode cX1_riseInto 102 = .ok (.iaload, 1) := by decide +kernel
theorem dX1_riseInto_103 : decode cX1_riseInto 103 = .ok (.iload 6, 2) := by decide +kernel
theorem dX1_riseInto_105 : decode cX1_riseInto 105 = .ok (.isub, 1) := by decide +kernel
theorem dX1_riseInto_106 : decode cX1_riseInto 106 = .ok (.iastore, 1) := by decide +kernel
theorem dX1_riseInto_107 : decode cX1_riseInto 107 = .ok (.aload_n 0, 1) := by decide +kernel
theorem dX1_riseInto_108 : decode cX1_riseInto 108 = .ok (.getfield 17, 3) := by decide +kernel
theorem dX1_riseInto_111 : decode cX1_riseInto 111 = .ok (.iload_n 1, 1) := by decide +kernel
theorem dX1_riseInto_112 : decode cX1_riseInto 112 = .ok (.aaload, 1) := by decide +kernel
theorem dX1_riseInto_113 : decode cX1_riseInto 113 = .ok (.iload 5, 2) := by decide +kernel
theorem dX1_riseInto_115 : decode cX1_riseInto 115 = .ok (.dup2, 1) := by decide +kernel
theorem dX1_riseInto_116 : decode cX1_riseInto 116 = .ok (.iaload, 1) := by decide +kernel
theorem dX1_riseInto_117 : decode cX1_riseInto 117 = .ok (.iload 6, 2) := by decide +kernel
theorem dX1_riseInto_119 : decode cX1_riseInto 119 = .ok (.iadd, 1) := by decide +kernel
theorem dX1_riseInto_120 : decode cX1_riseInto 120 = .ok (.iastore, 1) := by decide +kernel
theorem dX1_riseInto_121 : decode cX1_riseInto 121 = .ok (.iinc 5 1, 3) := by decide +kernel
theorem dX1_riseInto_124 : decode cX1_riseInto 124 = .ok (.goto (-51), 3) := by decide +kernel
theorem dX1_riseInto_127 : decode cX1_riseInto 127 = .ok (.return_, 1) := by decide +kernel
theorem dX1_weightOf_0 : decode cX1_weightOf 0 = .ok (.aload_n 0, 1) := by decide +kernel
theorem dX1_weightOf_1 : decode cX1_weightOf 1 = .ok (.iload_n 1, 1) := by decide +kernel
theorem dX1_weightOf_2 : decode cX1_weightOf 2 = .ok (.invokevirtual 68, 3) := by decide +kernel
theorem dX1_weightOf_5 : decode cX1_weightOf 5 = .ok (.sipush 1000, 3) := by decide +kernel
theorem dX1_weightOf_8 : decode cX1_weightOf 8 = .ok (.idiv, 1) := by decide +kernel
theorem dX1_weightOf_9 : decode cX1_weightOf 9 = .ok (.ireturn, 1) := by decide +kernel
theorem dX1_amountIn_0 : decode cX1_amountIn 0 = .ok (.aload_n 0, 1) := by decide +kernel
theorem dX1_amountIn_1 : decode cX1_amountIn 1 = .ok (.iload_n 1, 1) := by decide +kernel
theorem dX1_amountIn_2 : decode cX1_amountIn 2 = .ok (.invokevirtual 71, 3) := by decide +kernel
theorem dX1_amountIn_5 : decode cX1_amountIn 5 = .ok (.istore_n 2, 1) := by decide +kernel
theorem dX1_amountIn_6 : decode cX1_amountIn 6 = .ok (.iconst 0, 1) := by decide +kernel
theorem dX1_amountIn_7 : decode cX1_amountIn 7 = .ok (.istore_n 3, 1) := by decide +kernel
theorem dX1_amountIn_8 : decode cX1_amountIn 8 = .ok (.iload_n 3, 1) := by decide +kernel
theorem dX1_amountIn_9 : decode cX1_amountIn 9 = .ok (.iconst 3, 1) := by decide +kernel
theorem dX1_amountIn_10 : decode cX1_amountIn 10 = .ok (.if_icmp .ge 20, 3) := by decide +kernel
theorem dX1_amountIn_13 : decode cX1_amountIn 13 = .ok (.iload_n 2, 1) := by decide +kernel
theorem dX1_amountIn_14 : decode cX1_amountIn 14 = .ok (.aload_n 0, 1) := by decide +kernel
theorem dX1_amountIn_15 : decode cX1_amountIn 15 = .ok (.getfield 17, 3) := by decide +kernel
theorem dX1_amountIn_18 : decode cX1_amountIn 18 = .ok (.iload_n 1, 1) := by decide +kernel
theorem dX1_amountIn_19 : decode cX1_amountIn 19 = .ok (.aaload, 1) := by decide +kernel
theorem dX1_amountIn_20 : decode cX1_amountIn 20 = .ok (.iload_n 3, 1) := by decide +kernel
theorem dX1_amountIn_21 : decode cX1_amountIn 21 = .ok (.iaload, 1) := by decide +kernel
theorem dX1_amountIn_22 : decode cX1_amountIn 22 = .ok (.iadd, 1) := by decide +kernel
theorem dX1_amountIn_23 : decode cX1_amountIn 23 = .ok (.istore_n 2, 1) := by decide +kernel
theorem dX1_amountIn_24 : decode cX1_amountIn 24 = .ok (.iinc 3 1, 3) := by decide +kernel
theorem dX1_amountIn_27 : decode cX1_amountIn 27 = .ok (.goto (-19), 3) := by decide +kernel
theorem dX1_amountIn_30 : decode cX1_amountIn 30 = .ok (.iload_n 2, 1) := by decide +kernel
theorem dX1_amountIn_31 : decode cX1_amountIn 31 = .ok (.ireturn, 1) := by decide +kernel
theorem dX1_iceIn_0 : decode cX1_iceIn 0 = .ok (.iconst 0, 1) := by decide +kernel
theorem dX1_iceIn_1 : decode cX1_iceIn 1 = .ok (.istore_n 2, 1) := by decide +kernel
theorem dX1_iceIn_2 : decode cX1_iceIn 2 = .ok (.iconst 0, 1) := by decide +kernel
theorem dX1_iceIn_3 : decode cX1_iceIn 3 = .ok (.istore_n 3, 1) := by decide +kernel
theorem dX1_iceIn_4 : decode cX1_iceIn 4 = .ok (.iload_n 3, 1) := by decide +kernel
theorem dX1_iceIn_5 : decode cX1_iceIn 5 = .ok (.iconst 3, 1) := by decide +kernel
theorem dX1_iceIn_6 : decode cX1_iceIn 6 = .ok (.if_icmp .ge 20, 3) := by decide +kernel
theorem dX1_iceIn_9 : decode cX1_iceIn 9 = .ok (.iload_n 2, 1) := by decide +kernel
theorem dX1_iceIn_10 : decode cX1_iceIn 10 = .ok (.aload_n 0, 1) := by decide +kernel
theorem dX1_iceIn_11 : decode cX1_iceIn 11 = .ok (.getfield 20, 3) := by decide +kernel
theorem dX1_iceIn_14 : decode cX1_iceIn 14 = .ok (.iload_n 1, 1) := by decide +kernel
theorem dX1_iceIn_15 : decode cX1_iceIn 15 = .ok (.aaload, 1) := by decide +kernel
theorem dX1_iceIn_16 : decode cX1_iceIn 16 = .ok (.iload_n 3, 1) := by decide +kernel
theorem dX1_iceIn_17 : decode cX1_iceIn 17 = .ok (.iaload, 1) := by decide +kernel
theorem dX1_iceIn_18 : decode cX1_iceIn 18 = .ok (.iadd, 1) := by decide +kernel
theorem dX1_iceIn_19 : decode cX1_iceIn 19 = .ok (.istore_n 2, 1) := by decide +kernel
theorem dX1_iceIn_20 : decode cX1_iceIn 20 = .ok (.iinc 3 1, 3) := by decide +kernel
theorem dX1_iceIn_23 : decode cX1_iceIn 23 = .ok (.goto (-19), 3) := by decide +kernel
theorem dX1_iceIn_26 : decode cX1_iceIn 26 = .ok (.iload_n 2, 1) := by decide +kernel
theorem dX1_iceIn_27 : decode cX1_iceIn 27 = .ok (.ireturn, 1) := by decide +kernel
theorem dX1_isWarmForPlume_0 : decode cX1_isWarmForPlume 0 = .ok (.aload_n 0, 1) := by decide +kernel
theorem dX1_isWarmForPlume_1 : decode cX1_isWarmForPlume 1 = .ok (.getfield 9, 3) := by decide +kernel
theorem dX1_isWarmForPlume_4 : decode cX1_isWarmForPlume 4 = .ok (.bipush 9, 2) := by decide +kernel
theorem dX1_isWarmForPlume_6 : decode cX1_isWarmForPlume 6 = .ok (.iaload, 1) := by decide +kernel
theorem dX1_isWarmForPlume_7 : decode cX1_isWarmForPlume 7 = .ok (.aload_n 0, 1) := by decide +kernel
theorem dX1_isWarmForPlume_8 : decode cX1_isWarmForPlume 8 = .ok (.getfield 9, 3) := by decide +kernel
theorem dX1_isWarmForPlume_11 : decode cX1_isWarmForPlume 11 = .ok (.iconst 0, 1) := by decide +kernel
theorem dX1_isWarmForPlume_12 : decode cX1_isWarmForPlume 12 = .ok (.iaload, 1) := by decide +kernel
theorem dX1_isWarmForPlume_13 : decode cX1_isWarmForPlume 13 = .ok (.isub, 1) := by decide +kernel
theorem dX1_isWarmForPlume_14 : decode cX1_isWarmForPlume 14 = .ok (.sipush 200, 3) := by decide +kernel
theorem dX1_isWarmForPlume_17 : decode cX1_isWarmForPlume 17 = .ok (.if_icmp .lt 7, 3) := by decide +kernel
theorem dX1_isWarmForPlume_20 : decode cX1_isWarmForPlume 20 = .ok (.iconst 1, 1) := by decide +kernel
theorem dX1_isWarmForPlume_21 : decode cX1_isWarmForPlume 21 = .ok (.goto 4, 3) := by decide +kernel
theorem dX1_isWarmForPlume_24 : decode cX1_isWarmForPlume 24 = .ok (.iconst 0, 1) := by decide +kernel
theorem dX1_isWarmForPlume_25 : decode cX1_isWarmForPlume 25 = .ok (.ireturn, 1) := by decide +kernel
theorem dX1_liftPlume_0 : decode cX1_liftPlume 0 = .ok (.iconst 0, 1) := by decide +kernel
theorem dX1_liftPlume_1 : decode cX1_liftPlume 1 = .ok (.istore_n 1, 1) := by decide +kernel
theorem dX1_liftPlume_2 : decode cX1_liftPlume 2 = .ok (.iload_n 1, 1) := by decide +kernel
theorem dX1_liftPlume_3 : decode cX1_liftPlume 3 = .ok (.iconst 3, 1) := by decide +kernel
theorem dX1_liftPlume_4 : decode cX1_liftPlume 4 = .ok (.if_icmp .ge 46, 3) := by decide +kernel
theorem dX1_liftPlume_7 : decode cX1_liftPlume 7 = .ok (.aload_n 0, 1) := by decide +kernel
theorem dX1_liftPlume_8 : decode cX1_liftPlume 8 = .ok (.getfield 17, 3) := by decide +kernel
theorem dX1_liftPlume_11 : decode cX1_liftPlume 11 = .ok (.bipush 9, 2) := by decide +kernel
theorem dX1_liftPlume_13 : decode cX1_liftPlume 13 = .ok (.aaload, 1) := by decide +kernel
theorem dX1_liftPlume_14 : decode cX1_liftPlume 14 = .ok (.iload_n 1, 1) := by decide +kernel
theorem dX1_liftPlume_15 : decode cX1_liftPlume 15 = .ok (.iaload, 1) := by decide +kernel
theorem dX1_liftPlume_16 : decode cX1_liftPlume 16 = .ok (.iconst 2, 1) := by decide +kernel
theorem dX1_liftPlume_17 : decode cX1_liftPlume 17 = .ok (.idiv, 1) := by decide +kernel
theorem dX1_liftPlume_18 : decode cX1_liftPlume 18 = .ok (.istore_n 2, 1) := by decide +kernel
theorem dX1_liftPlume_19 : decode cX1_liftPlume 19 = .ok (.aload_n 0, 1) := by decide +kernel
theorem dX1_liftPlume_20 : decode cX1_liftPlume 20 = .ok (.getfield 17, 3) := by decide +kernel
theorem dX1_liftPlume_23 : decode cX1_liftPlume 23 = .ok (.bipush 9, 2) := by decide +kernel
theorem dX1_liftPlume_25 : decode cX1_liftPlume 25 = .ok (.aaload, 1) := by decide +kernel
theorem dX1_liftPlume_26 : decode cX1_liftPlume 26 = .ok (.iload_n 1, 1) := by decide +kernel
theorem dX1_liftPlume_27 : decode cX1_liftPlume 27 = .ok (.dup2, 1) := by decide +kernel
theorem dX1_liftPlume_28 : decode cX1_liftPlume 28 = .ok (.iaload, 1) := by decide +kernel
theorem dX1_liftPlume_29 : decode cX1_liftPlume 29 = .ok (.iload_n 2, 1) := by decide +kernel
theorem dX1_liftPlume_30 : decode cX1_liftPlume 30 = .ok (.isub, 1) := by decide +kernel
theorem dX1_liftPlume_31 : decode cX1_liftPlume 31 = .ok (.iastore, 1) := by decide +kernel
theorem dX1_liftPlume_32 : decode cX1_liftPlume 32 = .ok (.aload_n 0, 1) := by decide +kernel
theorem dX1_liftPlume_33 : decode cX1_liftPlume 33 = .ok (.getfield 17, 3) := by decide +kernel
theorem dX1_liftPlume_36 : decode cX1_liftPlume 36 = .ok (.iconst 3, 1) := by decide +kernel
theorem dX1_liftPlume_37 : decode cX1_liftPlume 37 = .ok (.aaload, 1) := by decide +kernel
theorem dX1_liftPlume_38 : decode cX1_liftPlume 38 = .ok (.iload_n 1, 1) := by decide +kernel
theorem dX1_liftPlume_39 : decode cX1_liftPlume 39 = .ok (.dup2, 1) := by decide +kernel
theorem dX1_liftPlume_40 : decode cX1_liftPlume 40 = .ok (.iaload, 1) := by decide +kernel
theorem dX1_liftPlume_41 : decode cX1_liftPlume 41 = .ok (.iload_n 2, 1) := by decide +kernel
theorem dX1_liftPlume_42 : decode cX1_liftPlume 42 = .ok (.iadd, 1) := by decide +kernel
theorem dX1_liftPlume_43 : decode cX1_liftPlume 43 = .ok (.iastore, 1) := by decide +kernel
theorem dX1_liftPlume_44 : decode cX1_liftPlume 44 = .ok (.iinc 1 1, 3) := by decide +kernel
theorem dX1_liftPlume_47 : decode cX1_liftPlume 47 = .ok (.goto (-45), 3) := by decide +kernel
theorem dX1_liftPlume_50 : decode cX1_liftPlume 50 = .ok (.return_, 1) := by decide +kernel
theorem dX1_isBalanced_0 : decode cX1_isBalanced 0 = .ok (.iconst 0, 1) := by decide +kernel
theorem dX1_isBalanced_1 : decode cX1_isBalanced 1 = .ok (.istore_n 1, 1) := by decide +kernel
theorem dX1_isBalanced_2 : decode cX1_isBalanced 2 = .ok (.iconst 0, 1) := by decide +kernel
theorem dX1_isBalanced_3 : decode cX1_isBalanced 3 = .ok (.istore_n 2, 1) := by decide +kernel
theorem dX1_isBalanced_4 : decode cX1_isBalanced 4 = .ok (.iconst 0, 1) := by decide +kernel
theorem dX1_isBalanced_5 : decode cX1_isBalanced 5 = .ok (.istore_n 3, 1) := by decide +kernel
theorem dX1_isBalanced_6 : decode cX1_isBalanced 6 = .ok (.iload_n 3, 1) := by decide +kernel
theorem dX1_isBalanced_7 : decode cX1_isBalanced 7 = .ok (.bipush 10, 2) := by decide +kernel
theorem dX1_isBalanced_9 : decode cX1_isBalanced 9 = .ok (.if_icmp .ge 26, 3) := by decide +kernel
theorem dX1_isBalanced_12 : decode cX1_isBalanced 12 = .ok (.iload_n 1, 1) := by decide +kernel
theorem dX1_isBalanced_13 : decode cX1_isBalanced 13 = .ok (.aload_n 0, 1) := by decide +kernel
theorem dX1_isBalanced_14 : decode cX1_isBalanced 14 = .ok (.getfield 9, 3) := by decide +kernel
theorem dX1_isBalanced_17 : decode cX1_isBalanced 17 = .ok (.iload_n 3, 1) := by decide +kernel
theorem dX1_isBalanced_18 : decode cX1_isBalanced 18 = .ok (.iaload, 1) := by decide +kernel
theorem dX1_isBalanced_19 : decode cX1_isBalanced 19 = .ok (.iadd, 1) := by decide +kernel
theorem dX1_isBalanced_20 : decode cX1_isBalanced 20 = .ok (.istore_n 1, 1) := by decide +kernel
theorem dX1_isBalanced_21 : decode cX1_isBalanced 21 = .ok (.iload_n 2, 1) := by decide +kernel
theorem dX1_isBalanced_22 : decode cX1_isBalanced 22 = .ok (.aload_n 0, 1) := by decide +kernel
theorem dX1_isBalanced_23 : decode cX1_isBalanced 23 = .ok (.iload_n 3, 1) := by decide +kernel
theorem dX1_isBalanced_24 : decode cX1_isBalanced 24 = .ok (.invokevirtual 68, 3) := by decide +kernel
theorem dX1_isBalanced_27 : decode cX1_isBalanced 27 = .ok (.iadd, 1) := by decide +kernel
theorem dX1_isBalanced_28 : decode cX1_isBalanced 28 = .ok (.istore_n 2, 1) := by decide +kernel
theorem dX1_isBalanced_29 : decode cX1_isBalanced 29 = .ok (.iinc 3 1, 3) := by decide +kernel
theorem dX1_isBalanced_32 : decode cX1_isBalanced 32 = .ok (.goto (-26), 3) := by decide +kernel
theorem dX1_isBalanced_35 : decode cX1_isBalanced 35 = .ok (.iload_n 1, 1) := by decide +kernel
theorem dX1_isBalanced_36 : decode cX1_isBalanced 36 = .ok (.aload_n 0, 1) := by decide +kernel
theorem dX1_isBalanced_37 : decode cX1_isBalanced 37 = .ok (.getfield 27, 3) := by decide +kernel
theorem dX1_isBalanced_40 : decode cX1_isBalanced 40 = .ok (.aload_n 0, 1) := by decide +kernel
theorem dX1_isBalanced_41 : decode cX1_isBalanced 41 = .ok (.getfield 46, 3) := by decide +kernel
theorem dX1_isBalanced_44 : decode cX1_isBalanced 44 = .ok (.isub, 1) := by decide +kernel
theorem dX1_isBalanced_45 : decode cX1_isBalanced 45 = .ok (.aload_n 0, 1) := by decide +kernel
theorem dX1_isBalanced_46 : decode cX1_isBalanced 46 = .ok (.getfield 33, 3) := by decide +kernel
theorem dX1_isBalanced_49 : decode cX1_isBalanced 49 = .ok (.iadd, 1) := by decide +kernel
theorem dX1_isBalanced_50 : decode cX1_isBalanced 50 = .ok (.if_icmp .ne 15, 3) := by decide +kernel
theorem dX1_isBalanced_53 : decode cX1_isBalanced 53 = .ok (.iload_n 2, 1) := by decide +kernel
theorem dX1_isBalanced_54 : decode cX1_isBalanced 54 = .ok (.aload_n 0, 1) := by decide +kernel
theorem dX1_isBalanced_55 : decode cX1_isBalanced 55 = .ok (.getfield 30, 3) := by decide +kernel
theorem dX1_isBalanced_58 : decode cX1_isBalanced 58 = .ok (.if_icmp .ne 7, 3) := by decide +kernel
theorem dX1_isBalanced_61 : decode cX1_isBalanced 61 = .ok (.iconst 1, 1) := by decide +kernel
theorem dX1_isBalanced_62 : decode cX1_isBalanced 62 = .ok (.goto 4, 3) := by decide +kernel
theorem dX1_isBalanced_65 : decode cX1_isBalanced 65 = .ok (.iconst 0, 1) := by decide +kernel
theorem dX1_isBalanced_66 : decode cX1_isBalanced 66 = .ok (.ireturn, 1) := by decide +kernel
theorem dX1_addTo_0 : decode cX1_addTo 0 = .ok (.lload_n 1, 1) := by decide +kernel
theorem dX1_addTo_1 : decode cX1_addTo 1 = .ok (.lstore_n 3, 1) := by decide +kernel
theorem dX1_addTo_2 : decode cX1_addTo 2 = .ok (.iconst 0, 1) := by decide +kernel
theorem dX1_addTo_3 : decode cX1_addTo 3 = .ok (.istore 5, 2) := by decide +kernel
theorem dX1_addTo_5 : decode cX1_addTo 5 = .ok (.iload 5, 2) := by decide +kernel
theorem dX1_addTo_7 : decode cX1_addTo 7 = .ok (.bipush 10, 2) := by decide +kernel
theorem dX1_addTo_9 : decode cX1_addTo 9 = .ok (.if_icmp .ge 38, 3) := by decide +kernel
theorem dX1_addTo_12 : decode cX1_addTo 12 = .ok (.ldc2_w 74, 3) := by decide +kernel
theorem dX1_addTo_15 : decode cX1_addTo 15 = .ok (.lload_n 3, 1) := by decide +kernel
theorem dX1_addTo_16 : decode cX1_addTo 16 = .ok (.lmul, 1) := by decide +kernel
theorem dX1_addTo_17 : decode cX1_addTo 17 = .ok (.aload_n 0, 1) := by decide +kernel
theorem dX1_addTo_18 : decode cX1_addTo 18 = .ok (.getfield 9, 3) := by decide +kernel
theorem dX1_addTo_21 : decode cX1_addTo 21 = .ok (.iload 5, 2) := by decide +kernel
theorem dX1_addTo_23 : decode cX1_addTo 23 = .ok (.iaload, 1) := by decide +kernel
theorem dX1_addTo_24 : decode cX1_addTo 24 = .ok (.i2l, 1) := by decide +kernel
theorem dX1_addTo_25 : decode cX1_addTo 25 = .ok (.ladd, 1) := by decide +kernel
theorem dX1_addTo_26 : decode cX1_addTo 26 = .ok (.lstore_n 3, 1) := by decide +kernel
theorem dX1_addTo_27 : decode cX1_addTo 27 = .ok (.ldc2_w 74, 3) := by decide +kernel
theorem dX1_addTo_30 : decode cX1_addTo 30 = .ok (.lload_n 3, 1) := by decide +kernel
theorem dX1_addTo_31 : decode cX1_addTo 31 = .ok (.lmul, 1) := by decide +kernel
theorem dX1_addTo_32 : decode cX1_addTo 32 = .ok (.aload_n 0, 1) := by decide +kernel
theorem dX1_addTo_33 : decode cX1_addTo 33 = .ok (.iload 5, 2) := by decide +kernel
theorem dX1_addTo_35 : decode cX1_addTo 35 = .ok (.invokevirtual 68, 3) := by decide +kernel
theorem dX1_addTo_38 : decode cX1_addTo 38 = .ok (.i2l, 1) := by decide +kernel
theorem dX1_addTo_39 : decode cX1_addTo 39 = .ok (.ladd, 1) := by decide +kernel
theorem dX1_addTo_40 : decode cX1_addTo 40 = .ok (.lstore_n 3, 1) := by decide +kernel
theorem dX1_addTo_41 : decode cX1_addTo 41 = .ok (.iinc 5 1, 3) := by decide +kernel
theorem dX1_addTo_44 : decode cX1_addTo 44 = .ok (.goto (-39), 3) := by decide +kernel
theorem dX1_addTo_47 : decode cX1_addTo 47 = .ok (.lload_n 3, 1) := by decide +kernel
theorem dX1_addTo_48 : decode cX1_addTo 48 = .ok (.lreturn, 1) := by decide +kernel
theorem dX1_copyFrom_0 : decode cX1_copyFrom 0 = .ok (.iconst 0, 1) := by decide +kernel
theorem dX1_copyFrom_1 : decode cX1_copyFrom 1 = .ok (.istore_n 2, 1) := by decide +kernel
theorem dX1_copyFrom_2 : decode cX1_copyFrom 2 = .ok (.iload_n 2, 1) := by decide +kernel
theorem dX1_copyFrom_3 : decode cX1_copyFrom 3 = .ok (.bipush 10, 2) := by decide +kernel
theorem dX1_copyFrom_5 : decode cX1_copyFrom 5 = .ok (.if_icmp .ge 66, 3) := by decide +kernel
theorem dX1_copyFrom_8 : decode cX1_copyFrom 8 = .ok (.aload_n 0, 1) := by decide +kernel
theorem dX1_copyFrom_9 : decode cX1_copyFrom 9 = .ok (.getfield 9, 3) := by decide +kernel
theorem dX1_copyFrom_12 : decode cX1_copyFrom 12 = .ok (.iload_n 2, 1) := by decide +kernel
theorem dX1_copyFrom_13 : decode cX1_copyFrom 13 = .ok (.aload_n 1, 1) := by decide +kernel
theorem dX1_copyFrom_14 : decode cX1_copyFrom 14 = .ok (.getfield 9, 3) := by decide +kernel
theorem dX1_copyFrom_17 : decode cX1_copyFrom 17 = .ok (.iload_n 2, 1) := by decide +kernel
theorem dX1_copyFrom_18 : decode cX1_copyFrom 18 = .ok (.iaload, 1) := by decide +kernel
theorem dX1_copyFrom_19 : decode cX1_copyFrom 19 = .ok (.iastore, 1) := by decide +kernel
theorem dX1_copyFrom_20 : decode cX1_copyFrom 20 = .ok (.iconst 0, 1) := by decide +kernel
theorem dX1_copyFrom_21 : decode cX1_copyFrom 21 = .ok (.istore_n 3, 1) := by decide +kernel
theorem dX1_copyFrom_22 : decode cX1_copyFrom 22 = .ok (.iload_n 3, 1) := by decide +kernel
theorem dX1_copyFrom_23 : decode cX1_copyFrom 23 = .ok (.iconst 3, 1) := by decide +kernel
theorem dX1_copyFrom_24 : decode cX1_copyFrom 24 = .ok (.if_icmp .ge 41, 3) := by decide +kernel
theorem dX1_copyFrom_27 : decode cX1_copyFrom 27 = .ok (.aload_n 0, 1) := by decide +kernel
theorem dX1_copyFrom_28 : decode cX1_copyFrom 28 = .ok (.getfield 17, 3) := by decide +kernel
theorem dX1_copyFrom_31 : decode cX1_copyFrom 31 = .ok (.iload_n 2, 1) := by decide +kernel
theorem dX1_copyFrom_32 : decode cX1_copyFrom 32 = .ok (.aaload, 1) := by decide +kernel
theorem dX1_copyFrom_33 : decode cX1_copyFrom 33 = .ok (.iload_n 3, 1) := by decide +kernel
theorem dX1_copyFrom_34 : decode cX1_copyFrom 34 = .ok (.aload_n 1, 1) := by decide +kernel
theorem dX1_copyFrom_35 : decode cX1_copyFrom 35 = .ok (.getfield 17, 3) := by decide +kernel
theorem dX1_copyFrom_38 : decode cX1_copyFrom 38 = .ok (.iload_n 2, 1) := by decide +kernel
theorem dX1_copyFrom_39 : decode cX1_copyFrom 39 = .ok (.aaload, 1) := by decide +kernel
theorem dX1_copyFrom_40 : decode cX1_copyFrom 40 = .ok (.iload_n 3, 1) := by decide +kernel
theorem dX1_copyFrom_41 : decode cX1_copyFrom 41 = .ok (.iaload, 1) := by decide +kernel
theorem dX1_copyFrom_42 : decode cX1_copyFrom 42 = .ok (.iastore, 1) := by decide +kernel
theorem dX1_copyFrom_43 : decode cX1_copyFrom 43 = .ok (.aload_n 0, 1) := by decide +kernel
theorem dX1_copyFrom_44 : decode cX1_copyFrom 44 = .ok (.getfield 20, 3) := by decide +kernel
theorem dX1_copyFrom_47 : decode cX1_copyFrom 47 = .ok (.iload_n 2, 1) := by decide +kernel
theorem dX1_copyFrom_48 : decode cX1_copyFrom 48 = .ok (.aaload, 1) := by decide +kernel
theorem dX1_copyFrom_49 : decode cX1_copyFrom 49 = .ok (.iload_n 3, 1) := by decide +kernel
theorem dX1_copyFrom_50 : decode cX1_copyFrom 50 = .ok (.aload_n 1, 1) := by decide +kernel
theorem dX1_copyFrom_51 : decode cX1_copyFrom 51 = .ok (.getfield 20, 3) := by decide +kernel
theorem dX1_copyFrom_54 : decode cX1_copyFrom 54 = .ok (.iload_n 2, 1) := by decide +kernel
theorem dX1_copyFrom_55 : decode cX1_copyFrom 55 = .ok (.aaload, 1) := by decide +kernel
theorem dX1_copyFrom_56 : decode cX1_copyFrom 56 = .ok (.iload_n 3, 1) := by decide +kernel
theorem dX1_copyFrom_57 : decode cX1_copyFrom 57 = .ok (.iaload, 1) := by decide +kernel
theorem dX1_copyFrom_58 : decode cX1_copyFrom 58 = .ok (.iastore, 1) := by decide +kernel
theorem dX1_copyFrom_59 : decode cX1_copyFrom 59 = .ok (.iinc 3 1, 3) := by decide +kernel
theorem dX1_copyFrom_62 : decode cX1_copyFrom 62 = .ok (.goto (-40), 3) := by decide +kernel
theorem dX1_copyFrom_65 : decode cX1_copyFrom 65 = .ok (.iinc 2 1, 3) := by decide +kernel
theorem dX1_copyFrom_68 : decode cX1_copyFrom 68 = .ok (.goto (-66), 3) := by decide +kernel
theorem dX1_copyFrom_71 : decode cX1_copyFrom 71 = .ok (.aload_n 0, 1) := by decide +kernel
theorem dX1_copyFrom_72 : decode cX1_copyFrom 72 = .ok (.aload_n 1, 1) := by decide +kernel
theorem dX1_copyFrom_73 : decode cX1_copyFrom 73 = .ok (.getfield 23, 3) := by decide +kernel
theorem dX1_copyFrom_76 : decode cX1_copyFrom 76 = .ok (.putfield 23, 3) := by decide +kernel
theorem dX1_copyFrom_79 : decode cX1_copyFrom 79 = .ok (.aload_n 0, 1) := by decide +kernel
theorem dX1_copyFrom_80 : decode cX1_copyFrom 80 = .ok (.aload_n 1, 1) := by decide +kernel
theorem dX1_copyFrom_81 : decode cX1_copyFrom 81 = .ok (.getfield 46, 3) := by decide +kernel
theorem dX1_copyFrom_84 : decode cX1_copyFrom 84 = .ok (.putfield 46, 3) := by decide +kernel
theorem dX1_copyFrom_87 : decode cX1_copyFrom 87 = .ok (.aload_n 0, 1) := by decide +kernel
theorem dX1_copyFrom_88 : decode cX1_copyFrom 88 = .ok (.aload_n 1, 1) := by decide +kernel
theorem dX1_copyFrom_89 : decode cX1_copyFrom 89 = .ok (.getfield 27, 3) := by decide +kernel
theorem dX1_copyFrom_92 : decode cX1_copyFrom 92 = .ok (.putfield 27, 3) := by decide +kernel
theorem dX1_copyFrom_95 : decode cX1_copyFrom 95 = .ok (.aload_n 0, 1) := by decide +kernel
theorem dX1_copyFrom_96 : decode cX1_copyFrom 96 = .ok (.aload_n 1, 1) := by decide +kernel
theorem dX1_copyFrom_97 : decode cX1_copyFrom 97 = .ok (.getfield 33, 3) := by decide +kernel
theorem dX1_copyFrom_100 : decode cX1_copyFrom 100 = .ok (.putfield 33, 3) := by decide +kernel
theorem dX1_copyFrom_103 : decode cX1_copyFrom 103 = .ok (.aload_n 0, 1) := by decide +kernel
theorem dX1_copyFrom_104 : decode cX1_copyFrom 104 = .ok (.aload_n 1, 1) := by decide +kernel
theorem dX1_copyFrom_105 : decode cX1_copyFrom 105 = .ok (.getfield 30, 3) := by decide +kernel
theorem dX1_copyFrom_108 : decode cX1_copyFrom 108 = .ok (.putfield 30, 3) := by decide +kernel
theorem dX1_copyFrom_111 : decode cX1_copyFrom 111 = .ok (.return_, 1) := by decide +kernel
theorem dX2_init_0 : decode cX2_init 0 = .ok (.aload_n 0, 1) := by decide +kernel
theorem dX2_init_1 : decode cX2_init 1 = .ok (.invokespecial 3, 3) := by decide +kernel
theorem dX2_init_4 : decode cX2_init 4 = .ok (.aload_n 0, 1) := by decide +kernel
theorem dX2_init_5 : decode cX2_init 5 = .ok (.bipush 12, 2) := by decide +kernel
theorem dX2_init_7 : decode cX2_init 7 = .ok (.newarray .char, 2) := by decide +kernel
theorem dX2_init_9 : decode cX2_init 9 = .ok (.putfield 9, 3) := by decide +kernel
theorem dX2_init_12 : decode cX2_init 12 = .ok (.aload_n 0, 1) := by decide +kernel
theorem dX2_init_13 : decode cX2_init 13 = .ok (.bipush 12, 2) := by decide +kernel
theorem dX2_init_15 : decode cX2_init 15 = .ok (.newarray .int, 2) := by decide +kernel
theorem dX2_init_17 : decode cX2_init 17 = .ok (.putfield 15, 3) := by decide +kernel
theorem dX2_init_20 : decode cX2_init 20 = .ok (.aload_n 0, 1) := by decide +kernel
theorem dX2_init_21 : decode cX2_init 21 = .ok (.iload_n 1, 1) := by decide +kernel
theorem dX2_init_22 : decode cX2_init 22 = .ok (.putfield 19, 3) := by decide +kernel
theorem dX2_init_25 : decode cX2_init 25 = .ok (.return_, 1) := by decide +kernel
theorem dX2_see_0 : decode cX2_see 0 = .ok (.iconst 0, 1) := by decide +kernel
theorem dX2_see_1 : decode cX2_see 1 = .ok (.istore_n 3, 1) := by decide +kernel
theorem dX2_see_2 : decode cX2_see 2 = .ok (.iload_n 3, 1) := by decide +kernel
theorem dX2_see_3 : decode cX2_see 3 = .ok (.aload_n 1, 1) := by decide +kernel
theorem dX2_see_4 : decode cX2_see 4 = .ok (.getfield 23, 3) := by decide +kernel
theorem dX2_see_7 : decode cX2_see 7 = .ok (.if_icmp .ge 101, 3) := by decide +kernel
theorem dX2_see_10 : decode cX2_see 10 = .ok (.iload_n 3, 1) := by decide +kernel
theorem dX2_see_11 : decode cX2_see 11 = .ok (.bipush 12, 2) := by decide +kernel
theorem dX2_see_13 : decode cX2_see 13 = .ok (.if_icmp .ge 95, 3) := by decide +kernel
theorem dX2_see_16 : decode cX2_see 16 = .ok (.aload_n 1, 1) := by decide +kernel
theorem dX2_see_17 : decode cX2_see 17 = .ok (.getfield 28, 3) := by decide +kernel
theorem dX2_see_20 : decode cX2_see 20 = .ok (.iload_n 3, 1) := by decide +kernel
theorem dX2_see_21 : decode cX2_see 21 = .ok (.iaload, 1) := by decide +kernel
theorem dX2_see_22 : decode cX2_see 22 = .ok (.istore 4, 2) := by decide +kernel
theorem dX2_see_24 : decode cX2_see 24 = .ok (.aload_n 1, 1) := by decide +kernel
theorem dX2_see_25 : decode cX2_see 25 = .ok (.getfield 31, 3) := by decide +kernel
theorem dX2_see_28 : decode cX2_see 28 = .ok (.iload_n 3, 1) := by decide +kernel
theorem dX2_see_29 : decode cX2_see 29 = .ok (.baload, 1) := by decide +kernel
theorem dX2_see_30 : decode cX2_see 30 = .ok (.ifCond .eq 19, 3) := by decide +kernel
theorem dX2_see_33 : decode cX2_see 33 = .ok (.iload 4, 2) := by decide +kernel
theorem dX2_see_35 : decode cX2_see 35 = .ok (.iload_n 2, 1) := by decide +kernel
theorem dX2_see_36 : decode cX2_see 36 = .ok (.invokestatic 35, 3) := by decide +kernel
theorem dX2_see_39 : decode cX2_see 39 = .ok (.sipush 900, 3) := by decide +kernel
theorem dX2_see_42 : decode cX2_see 42 = .ok (.if_icmp .gt 7, 3) := by decide +kernel
theorem dX2_see_45 : decode cX2_see 45 = .ok (.iconst 1, 1) := by decide +kernel
theorem dX2_see_46 : decode cX2_see 46 = .ok (.goto 4, 3) := by decide +kernel
theorem dX2_see_49 : decode cX2_see 49 = .ok (.iconst 0, 1) := by decide +kernel
theorem dX2_see_50 : decode cX2_see 50 = .ok (.istore 5, 2) := by decide +kernel
theorem dX2_see_52 : decode cX2_see 52 = .ok (.iload 5, 2) := by decide +kernel
theorem dX2_see_54 : decode cX2_see 54 = .ok (.ifCond .eq 48, 3) := by decide +kernel
theorem dX2_see_57 : decode cX2_see 57 = .ok (.aload_n 0, 1) := by decide +kernel
theorem dX2_see_58 : decode cX2_see 58 = .ok (.getfield 39, 3) := by decide +kernel
theorem dX2_see_61 : decode cX2_see 61 = .ok (.bipush 12, 2) := by decide +kernel
theorem dX2_see_63 : decode cX2_see 63 = .ok (.if_icmp .ge 39, 3) := by decide +kernel
theorem dX2_see_66 : decode cX2_see 66 = .ok (.aload_n 0, 1) := by decide +kernel
theorem dX2_see_67 : decode cX2_see 67 = .ok (.getfield 9, 3) := by decide +kernel
theorem dX2_see_70 : decode cX2_see 70 = .ok (.aload_n 0, 1) := by decide +kernel
theorem dX2_see_71 : decode cX2_see 71 = .ok (.getfield 39, 3) := by decide +kernel
theorem dX2_see_74 : decode cX2_see 74 = .ok (.aload_n 1, 1) := by decide +kernel
theorem dX2_see_75 : decode cX2_see 75 = .ok (.getfield 40, 3) := by decide +kernel
theorem dX2_see_78 : decode cX2_see 78 = .ok (.iload_n 3, 1) := by decide +kernel
theorem dX2_see_79 : decode cX2_see 79 = .ok (.caload, 1) := by decide +kernel
theorem dX2_see_80 : decode cX2_see 80 = .ok (.castore, 1) := by decide +kernel
theorem dX2_see_81 : decode cX2_see 81 = .ok (.aload_n 0, 1) := by decide +kernel
theorem dX2_see_82 : decode cX2_see 82 = .ok (.getfield 15, 3) := by decide +kernel
theorem dX2_see_85 : decode cX2_see 85 = .ok (.aload_n 0, 1) := by decide +kernel
theorem dX2_see_86 : decode cX2_see 86 = .ok (.getfield 39, 3) := by decide +kernel
theorem dX2_see_89 : decode cX2_see 89 = .ok (.iload 4, 2) := by decide +kernel
theorem dX2_see_91 : decode cX2_see 91 = .ok (.iastore, 1) := by decide +kernel
theorem dX2_see_92 : decode cX2_see 92 = .ok (.aload_n 0, 1) := by decide +kernel
theorem dX2_see_93 : decode cX2_see 93 = .ok (.dup, 1) := by decide +kernel
theorem dX2_see_94 : decode cX2_see 94 = .ok (.getfield 39, 3) := by decide +kernel
theorem dX2_see_97 : decode cX2_see 97 = .ok (.iconst 1, 1) := by decide +kernel
theorem dX2_see_98 : decode cX2_see 98 = .ok (.iadd, 1) := by decide +kernel
theorem dX2_see_99 : decode cX2_see 99 = .ok (.putfield 39, 3) := by decide +kernel
theorem dX2_see_102 : decode cX2_see 102 = .ok (.iinc 3 1, 3) := by decide +kernel
theorem dX2_see_105 : decode cX2_see 105 = .ok (.goto (-103), 3) := by decide +kernel
theorem dX2_see_108 : decode cX2_see 108 = .ok (.return_, 1) := by decide +kernel
theorem dX2_placeOf_0 : decode cX2_placeOf 0 = .ok (.iconst 0, 1) := by decide +kernel
theorem dX2_placeOf_1 : decode cX2_placeOf 1 = .ok (.istore_n 2, 1) := by decide +kernel
theorem dX2_placeOf_2 : decode cX2_placeOf 2 = .ok (.iload_n 2, 1) := by decide +kernel
theorem dX2_placeOf_3 : decode cX2_placeOf 3 = .ok (.aload_n 0, 1) := by decide +kernel
theorem dX2_placeOf_4 : decode cX2_placeOf 4 = .ok (.getfield 39, 3) := by decide +kernel
theorem dX2_placeOf_7 : decode cX2_placeOf 7 = .ok (.if_icmp .ge 32, 3) := by decide +kernel
theorem dX2_placeOf_10 : decode cX2_placeOf 10 = .ok (.iload_n 2, 1) := by decide +kernel
theorem dX2_placeOf_11 : decode cX2_placeOf 11 = .ok (.bipush 12, 2) := by decide +kernel
theorem dX2_placeOf_13 : decode cX2_placeOf 13 = .ok (.if_icmp .ge 26, 3) := by decide +kernel
theorem dX2_placeOf_16 : decode cX2_placeOf 16 = .ok (.aload_n 0, 1) := by decide +kernel
theorem dX2_placeOf_17 : decode cX2_placeOf 17 = .ok (.getfield 9, 3) := by decide +kernel
theorem dX2_placeOf_20 : decode cX2_placeOf 20 = .ok (.iload_n 2, 1) := by decide +kernel
theorem dX2_placeOf_21 : decode cX2_placeOf 21 = .ok (.caload, 1) := by decide +kernel
theorem dX2_placeOf_22 : decode cX2_placeOf 22 = .ok (.iload_n 1, 1) := by decide +kernel
theorem dX2_placeOf_23 : decode cX2_placeOf 23 = .ok (.if_icmp .ne 10, 3) := by decide +kernel
theorem dX2_placeOf_26 : decode cX2_placeOf 26 = .ok (.aload_n 0, 1) := by decide +kernel
theorem dX2_placeOf_27 : decode cX2_placeOf 27 = .ok (.getfield 15, 3) := by decide +kernel
theorem dX2_placeOf_30 : decode cX2_placeOf 30 = .ok (.iload_n 2, 1) := by decide +kernel
theorem dX2_placeOf_31 : decode cX2_placeOf 31 = .ok (.iaload, 1) := by decide +kernel
theorem dX2_placeOf_32 : decode cX2_placeOf 32 = .ok (.ireturn, 1) := by decide +kernel
theorem dX2_placeOf_33 : decode cX2_placeOf 33 = .ok (.iinc 2 1, 3) := by decide +kernel
theorem dX2_placeOf_36 : decode cX2_placeOf 36 = .ok (.goto (-34), 3) := by decide +kernel
theorem dX2_placeOf_39 : decode cX2_placeOf 39 = .ok (.iconst (-1), 1) := by decide +kernel
theorem dX2_placeOf_40 : decode cX2_placeOf 40 = .ok (.ireturn, 1) := by decide +kernel
theorem dX3_init_0 : decode cX3_init 0 = .ok (.aload_n 0, 1) := by decide +kernel
theorem dX3_init_1 : decode cX3_init 1 = .ok (.invokespecial 3, 3) := by decide +kernel
theorem dX3_init_4 : decode cX3_init 4 = .ok (.aload_n 0, 1) := by decide +kernel
theorem dX3_init_5 : decode cX3_init 5 = .ok (.bipush 60, 2) := by decide +kernel
theorem dX3_init_7 : decode cX3_init 7 = .ok (.newarray .char, 2) := by decide +kernel
theorem dX3_init_9 : decode cX3_init 9 = .ok (.putfield 9, 3) := by decide +kernel
theorem dX3_init_12 : decode cX3_init 12 = .ok (.aload_n 0, 1) := by decide +kernel
theorem dX3_init_13 : decode cX3_init 13 = .ok (.bipush 60, 2) := by decide +kernel
theorem dX3_init_15 : decode cX3_init 15 = .ok (.newarray .int, 2) := by decide +kernel
theorem dX3_init_17 : decode cX3_init 17 = .ok (.putfield 15, 3) := by decide +kernel
theorem dX3_init_20 : decode cX3_init 20 = .ok (.return_, 1) := by decide +kernel
theorem dX3_write_0 : decode cX3_write 0 = .ok (.aload_n 0, 1) := by decide +kernel
theorem dX3_write_1 : decode cX3_write 1 = .ok (.getfield 19, 3) := by decide +kernel
theorem dX3_write_4 : decode cX3_write 4 = .ok (.ifCond .lt 12, 3) := by decide +kernel
theorem dX3_write_7 : decode cX3_write 7 = .ok (.aload_n 0, 1) := by decide +kernel
theorem dX3_write_8 : decode cX3_write 8 = .ok (.getfield 19, 3) := by decide +kernel
theorem dX3_write_11 : decode cX3_write 11 = .ok (.bipush 60, 2) := by decide +kernel
theorem dX3_write_13 : decode cX3_write 13 = .ok (.if_icmp .lt 4, 3) := by decide +kernel
theorem dX3_write_16 : decode cX3_write 16 = .ok (.return_, 1) := by decide +kernel
theorem dX3_write_17 : decode cX3_write 17 = .ok (.aload_n 0, 1) := by decide +kernel
theorem dX3_write_18 : decode cX3_write 18 = .ok (.getfield 9, 3) := by decide +kernel
theorem dX3_write_21 : decode cX3_write 21 = .ok (.aload_n 0, 1) := by decide +kernel
theorem dX3_write_22 : decode cX3_write 22 = .ok (.getfield 19, 3) := by decide +kernel
theorem dX3_write_25 : decode cX3_write 25 = .ok (.iload_n 1, 1) := by decide +kernel
theorem dX3_write_26 : decode cX3_write 26 = .ok (.castore, 1) := by decide +kernel
theorem dX3_write_27 : decode cX3_write 27 = .ok (.aload_n 0, 1) := by decide +kernel
theorem dX3_write_28 : decode cX3_write 28 = .ok (.getfield 15, 3) := by decide +kernel
theorem dX3_write_31 : decode cX3_write 31 = .ok (.aload_n 0, 1) := by decide +kernel
theorem dX3_write_32 : decode cX3_write 32 = .ok (.getfield 19, 3) := by decide +kernel
theorem dX3_write_35 : decode cX3_write 35 = .ok (.iload_n 2, 1) := by decide +kernel
theorem dX3_write_36 : decode cX3_write 36 = .ok (.iastore, 1) := by decide +kernel
theorem dX3_write_37 : decode cX3_write 37 = .ok (.aload_n 0, 1) := by decide +kernel
theorem dX3_write_38 : decode cX3_write 38 = .ok (.dup, 1) := by decide +kernel
theorem dX3_write_39 : decode cX3_write 39 = .ok (.getfield 19, 3) := by decide +kernel
theorem dX3_write_42 : decode cX3_write 42 = .ok (.iconst 1, 1) := by decide +kernel
theorem dX3_write_43 : decode cX3_write 43 = .ok (.iadd, 1) := by decide +kernel
theorem dX3_write_44 : decode cX3_write 44 = .ok (.putfield 19, 3) := by decide +kernel
theorem dX3_write_47 : decode cX3_write 47 = .ok (.return_, 1) := by decide +kernel
theorem dX3_copyFrom_0 : decode cX3_copyFrom 0 = .ok (.aload_n 0, 1) := by decide +kernel
theorem dX3_copyFrom_1 : decode cX3_copyFrom 1 = .ok (.aload_n 1, 1) := by decide +kernel
theorem dX3_copyFrom_2 : decode cX3_copyFrom 2 = .ok (.getfield 19, 3) := by decide +kernel
theorem dX3_copyFrom_5 : decode cX3_copyFrom 5 = .ok (.putfield 19, 3) := by decide +kernel
theorem dX3_copyFrom_8 : decode cX3_copyFrom 8 = .ok (.iconst 0, 1) := by decide +kernel
theorem dX3_copyFrom_9 : decode cX3_copyFrom 9 = .ok (.istore_n 2, 1) := by decide +kernel
theorem dX3_copyFrom_10 : decode cX3_copyFrom 10 = .ok (.iload_n 2, 1) := by decide +kernel
theorem dX3_copyFrom_11 : decode cX3_copyFrom 11 = .ok (.bipush 60, 2) := by decide +kernel
theorem dX3_copyFrom_13 : decode cX3_copyFrom 13 = .ok (.if_icmp .ge 33, 3) := by decide +kernel
theorem dX3_copyFrom_16 : decode cX3_copyFrom 16 = .ok (.aload_n 0, 1) := by decide +kernel
theorem dX3_copyFrom_17 : decode cX3_copyFrom 17 = .ok (.getfield 9, 3) := by decide +kernel
theorem dX3_copyFrom_20 : decode cX3_copyFrom 20 = .ok (.iload_n 2, 1) := by decide +kernel
theorem dX3_copyFrom_21 : decode cX3_copyFrom 21 = .ok (.aload_n 1, 1) := by decide +kernel
theorem dX3_copyFrom_22 : decode cX3_copyFrom 22 = .ok (.getfield 9, 3) := by decide +kernel
theorem dX3_copyFrom_25 : decode cX3_copyFrom 25 = .ok (.iload_n 2, 1) := by decide +kernel
theorem dX3_copyFrom_26 : decode cX3_copyFrom 26 = .ok (.caload, 1) := by decide +kernel
theorem dX3_copyFrom_27 : decode cX3_copyFrom 27 = .ok (.castore, 1) := by decide +kernel
theorem dX3_copyFrom_28 : decode cX3_copyFrom 28 = .ok (.aload_n 0, 1) := by decide +kernel
theorem dX3_copyFrom_29 : decode cX3_copyFrom 29 = .ok (.getfield 15, 3) := by decide +kernel
theorem dX3_copyFrom_32 : decode cX3_copyFrom 32 = .ok (.iload_n 2, 1) := by decide +kernel
theorem dX3_copyFrom_33 : decode cX3_copyFrom 33 = .ok (.aload_n 1, 1) := by decide +kernel
theorem dX3_copyFrom_34 : decode cX3_copyFrom 34 = .ok (.getfield 15, 3) := by decide +kernel
theorem dX3_copyFrom_37 : decode cX3_copyFrom 37 = .ok (.iload_n 2, 1) := by decide +kernel
theorem dX3_copyFrom_38 : decode cX3_copyFrom 38 = .ok (.iaload, 1) := by decide +kernel
theorem dX3_copyFrom_39 : decode cX3_copyFrom 39 = .ok (.iastore, 1) := by decide +kernel
theorem dX3_copyFrom_40 : decode cX3_copyFrom 40 = .ok (.iinc 2 1, 3) := by decide +kernel
theorem dX3_copyFrom_43 : decode cX3_copyFrom 43 = .ok (.goto (-33), 3) := by decide +kernel
theorem dX3_copyFrom_46 : decode cX3_copyFrom 46 = .ok (.return_, 1) := by decide +kernel
theorem dX4_init_0 : decode cX4_init 0 = .ok (.aload_n 0, 1) := by decide +kernel
theorem dX4_init_1 : decode cX4_init 1 = .ok (.invokespecial 3, 3) := by decide +kernel
theorem dX4_init_4 : decode cX4_init 4 = .ok (.aload_n 0, 1) := by decide +kernel
theorem dX4_init_5 : decode cX4_init 5 = .ok (.bipush 19, 2) := by decide +kernel
theorem dX4_init_7 : decode cX4_init 7 = .ok (.newarray .int, 2) := by decide +kernel
theorem dX4_init_9 : decode cX4_init 9 = .ok (.putfield 11, 3) := by decide +kernel
theorem dX4_init_12 : decode cX4_init 12 = .ok (.aload_n 0, 1) := by decide +kernel
theorem dX4_init_13 : decode cX4_init 13 = .ok (.bipush 19, 2) := by decide +kernel
theorem dX4_init_15 : decode cX4_init 15 = .ok (.newarray .int, 2) := by decide +kernel
theorem dX4_init_17 : decode cX4_init 17 = .ok (.putfield 15, 3) := by decide +kernel
theorem dX4_init_20 : decode cX4_init 20 = .ok (.aload_n 0, 1) := by decide +kernel
theorem dX4_init_21 : decode cX4_init 21 = .ok (.bipush 19, 2) := by decide +kernel
theorem dX4_init_23 : decode cX4_init 23 = .ok (.newarray .int, 2) := by decide +kernel
theorem dX4_init_25 : decode cX4_init 25 = .ok (.putfield 18, 3) := by decide +kernel
theorem dX4_init_28 : decode cX4_init 28 = .ok (.aload_n 0, 1) := by decide +kernel
theorem dX4_init_29 : decode cX4_init 29 = .ok (.bipush 6, 2) := by decide +kernel
theorem dX4_init_31 : decode cX4_init 31 = .ok (.newarray .int, 2) := by decide +kernel
theorem dX4_init_33 : decode cX4_init 33 = .ok (.putfield 21, 3) := by decide +kernel
theorem dX4_init_36 : decode cX4_init 36 = .ok (.aload_n 0, 1) := by decide +kernel
theorem dX4_init_37 : decode cX4_init 37 = .ok (.bipush 19, 2) := by decide +kernel
theorem dX4_init_39 : decode cX4_init 39 = .ok (.newarray .int, 2) := by decide +kernel
theorem dX4_init_41 : decode cX4_init 41 = .ok (.putfield 24, 3) := by decide +kernel
theorem dX4_init_44 : decode cX4_init 44 = .ok (.aload_n 0, 1) := by decide +kernel
theorem dX4_init_45 : decode cX4_init 45 = .ok (.iload_n 1, 1) := by decide +kernel
theorem dX4_init_46 : decode cX4_init 46 = .ok (.putfield 27, 3) := by decide +kernel
theorem dX4_init_49 : decode cX4_init 49 = .ok (.aload_n 0, 1) := by decide +kernel
theorem dX4_init_50 : decode cX4_init 50 = .ok (.iload_n 2, 1) := by decide +kernel
theorem dX4_init_51 : decode cX4_init 51 = .ok (.putfield 31, 3) := by decide +kernel
theorem dX4_init_54 : decode cX4_init 54 = .ok (.aload_n 0, 1) := by decide +kernel
theorem dX4_init_55 : decode cX4_init 55 = .ok (.iload_n 3, 1) := by decide +kernel
theorem dX4_init_56 : decode cX4_init 56 = .ok (.putfield 34, 3) := by decide +kernel
theorem dX4_init_59 : decode cX4_init 59 = .ok (.aload_n 0, 1) := by decide +kernel
theorem dX4_init_60 : decode cX4_init 60 = .ok (.iload 4, 2) := by decide +kernel
theorem dX4_init_62 : decode cX4_init 62 = .ok (.putfield 37, 3) := by decide +kernel
theorem dX4_init_65 : decode cX4_init 65 = .ok (.return_, 1) := by decide +kernel
theorem dX4_goOn_0 : decode cX4_goOn 0 = .ok (.aload_n 0, 1) := by decide +kernel
theorem dX4_goOn_1 : decode cX4_goOn 1 = .ok (.getfield 41, 3) := by decide +kernel
theorem dX4_goOn_4 : decode cX4_goOn 4 = .ok (.ifCond .lt 28, 3) := by decide +kernel
theorem dX4_goOn_7 : decode cX4_goOn 7 = .ok (.aload_n 0, 1) := by decide +kernel
theorem dX4_goOn_8 : decode cX4_goOn 8 = .ok (.getfield 41, 3) := by decide +kernel
theorem dX4_goOn_11 : decode cX4_goOn 11 = .ok (.bipush 19, 2) := by decide +kernel
theorem dX4_goOn_13 : decode cX4_goOn 13 = .ok (.if_icmp .ge 19, 3) := by decide +kernel
theorem dX4_goOn_16 : decode cX4_goOn 16 = .ok (.aload_n 0, 1) := by decide +kernel
theorem dX4_goOn_17 : decode cX4_goOn 17 = .ok (.getfield 44, 3) := by decide +kernel
theorem dX4_goOn_20 : decode cX4_goOn 20 = .ok (.ifCond .lt 12, 3) := by decide +kernel
theorem dX4_goOn_23 : decode cX4_goOn 23 = .ok (.aload_n 0, 1) := by decide +kernel
theorem dX4_goOn_24 : decode cX4_goOn 24 = .ok (.getfield 44, 3) := by decide +kernel
theorem dX4_goOn_27 : decode cX4_goOn 27 = .ok (.bipush 10, 2) := by decide +kernel
theorem dX4_goOn_29 : decode cX4_goOn 29 = .ok (.if_icmp .lt 9, 3) := by decide +kernel
theorem dX4_goOn_32 : decode cX4_goOn 32 = .ok (.aload_n 0, 1) := by decide +kernel
theorem dX4_goOn_33 : decode cX4_goOn 33 = .ok (.iconst 1, 1) := by decide +kernel
theorem dX4_goOn_34 : decode cX4_goOn 34 = .ok (.putfield 47, 3) := by decide +kernel
theorem dX4_goOn_37 : decode cX4_goOn 37 = .ok (.return_, 1) := by decide +kernel
theorem dX4_goOn_38 : decode cX4_goOn 38 = .ok (.aload_n 0, 1) := by decide +kernel
theorem dX4_goOn_39 : decode cX4_goOn 39 = .ok (.getfield 11, 3) := by decide +kernel
theorem dX4_goOn_42 : decode cX4_goOn 42 = .ok (.aload_n 0, 1) := by decide +kernel
theorem dX4_goOn_43 : decode cX4_goOn 43 = .ok (.getfield 41, 3) := by decide +kernel
theorem dX4_goOn_46 : decode cX4_goOn 46 = .ok (.aload_n 0, 1) := by decide +kernel
theorem dX4_goOn_47 : decode cX4_goOn 47 = .ok (.getfield 44, 3) := by decide +kernel
theorem dX4_goOn_50 : decode cX4_goOn 50 = .ok (.iastore, 1) := by decide +kernel
theorem dX4_goOn_51 : decode cX4_goOn 51 = .ok (.aload_n 0, 1) := by decide +kernel
theorem dX4_goOn_52 : decode cX4_goOn 52 = .ok (.getfield 15, 3) := by decide +kernel
theorem dX4_goOn_55 : decode cX4_goOn 55 = .ok (.aload_n 0, 1) := by decide +kernel
theorem dX4_goOn_56 : decode cX4_goOn 56 = .ok (.getfield 41, 3) := by decide +kernel
theorem dX4_goOn_59 : decode cX4_goOn 59 = .ok (.aload_n 1, 1) := by decide +kernel
theorem dX4_goOn_60 : decode cX4_goOn 60 = .ok (.getfield 50, 3) := by decide +kernel
theorem dX4_goOn_63 : decode cX4_goOn 63 = .ok (.aload_n 0, 1) := by decide +kernel
theorem dX4_goOn_64 : decode cX4_goOn 64 = .ok (.getfield 44, 3) := by decide +kernel
theorem dX4_goOn_67 : decode cX4_goOn 67 = .ok (.iaload, 1) := by decide +kernel
theorem dX4_goOn_68 : decode cX4_goOn 68 = .ok (.iastore, 1) := by decide +kernel
theorem dX4_goOn_69 : decode cX4_goOn 69 = .ok (.aload_n 0, 1) := by decide +kernel
theorem dX4_goOn_70 : decode cX4_goOn 70 = .ok (.getfield 18, 3) := by decide +kernel
theorem dX4_goOn_73 : decode cX4_goOn 73 = .ok (.aload_n 0, 1) := by decide +kernel
theorem dX4_goOn_74 : decode cX4_goOn 74 = .ok (.getfield 41, 3) := by decide +kernel
theorem dX4_goOn_77 : decode cX4_goOn 77 = .ok (.aload_n 1, 1) := by decide +kernel
theorem dX4_goOn_78 : decode cX4_goOn 78 = .ok (.aload_n 0, 1) := by decide +kernel
theorem dX4_goOn_79 : decode cX4_goOn 79 = .ok (.getfield 44, 3) := by decide +kernel
theorem dX4_goOn_82 : decode cX4_goOn 82 = .ok (.invokevirtual 53, 3) := by decide +kernel
theorem dX4_goOn_85 : decode cX4_goOn 85 = .ok (.iastore, 1) := by decide +kernel
theorem dX4_goOn_86 : decode cX4_goOn 86 = .ok (.aload_n 0, 1) := by decide +kernel
theorem dX4_goOn_87 : decode cX4_goOn 87 = .ok (.aload_n 0, 1) := by decide +kernel
theorem dX4_goOn_88 : decode cX4_goOn 88 = .ok (.getfield 41, 3) := by decide +kernel
theorem dX4_goOn_91 : decode cX4_goOn 91 = .ok (.invokevirtual 57, 3) := by decide +kernel
theorem dX4_goOn_94 : decode cX4_goOn 94 = .ok (.aload_n 0, 1) := by decide +kernel
theorem dX4_goOn_95 : decode cX4_goOn 95 = .ok (.dup, 1) := by decide +kernel
theorem dX4_goOn_96 : decode cX4_goOn 96 = .ok (.getfield 41, 3) := by decide +kernel
theorem dX4_goOn_99 : decode cX4_goOn 99 = .ok (.iconst 1, 1) := by decide +kernel
theorem dX4_goOn_100 : decode cX4_goOn 100 = .ok (.iadd, 1) := by decide +kernel
theorem dX4_goOn_101 : decode cX4_goOn 101 = .ok (.putfield 41, 3) := by decide +kernel
theorem dX4_goOn_104 : decode cX4_goOn 104 = .ok (.aload_n 0, 1) := by decide +kernel
theorem dX4_goOn_105 : decode cX4_goOn 105 = .ok (.getfield 41, 3) := by decide +kernel
theorem dX4_goOn_108 : decode cX4_goOn 108 = .ok (.aload_n 0, 1) := by decide +kernel
theorem dX4_goOn_109 : decode cX4_goOn 109 = .ok (.getfield 31, 3) := by decide +kernel
theorem dX4_goOn_112 : decode cX4_goOn 112 = .ok (.if_icmp .gt 7, 3) := by decide +kernel
theorem dX4_goOn_115 : decode cX4_goOn 115 = .ok (.aload_n 0, 1) := by decide +kernel
theorem dX4_goOn_116 : decode cX4_goOn 116 = .ok (.invokevirtual 61, 3) := by decide +kernel
theorem dX4_goOn_119 : decode cX4_goOn 119 = .ok (.aload_n 0, 1) := by decide +kernel
theorem dX4_goOn_120 : decode cX4_goOn 120 = .ok (.aload_n 1, 1) := by decide +kernel
theorem dX4_goOn_121 : decode cX4_goOn 121 = .ok (.getfield 50, 3) := by decide +kernel
theorem dX4_goOn_124 : decode cX4_goOn 124 = .ok (.aload_n 0, 1) := by decide +kernel
theorem dX4_goOn_125 : decode cX4_goOn 125 = .ok (.getfield 44, 3) := by decide +kernel
theorem dX4_goOn_128 : decode cX4_goOn 128 = .ok (.iaload, 1) := by decide +kernel
theorem dX4_goOn_129 : decode cX4_goOn 129 = .ok (.invokevirtual 64, 3) := by decide +kernel
theorem dX4_goOn_132 : decode cX4_goOn 132 = .ok (.return_, 1) := by decide +kernel
theorem dX4_keep_0 : decode cX4_keep 0 = .ok (.aload_n 0, 1) := by decide +kernel
theorem dX4_keep_1 : decode cX4_keep 1 = .ok (.getfield 67, 3) := by decide +kernel
theorem dX4_keep_4 : decode cX4_keep 4 = .ok (.bipush 6, 2) := by decide +kernel
theorem dX4_keep_6 : decode cX4_keep 6 = .ok (.if_icmp .lt 19, 3) := by decide +kernel
theorem dX4_keep_9 : decode cX4_keep 9 = .ok (.aload_n 0, 1) := by decide +kernel
theorem dX4_keep_10 : decode cX4_keep 10 = .ok (.iconst 0, 1) := by decide +kernel
theorem dX4_keep_11 : decode cX4_keep 11 = .ok (.invokevirtual 70, 3) := by decide +kernel
theorem dX4_keep_14 : decode cX4_keep 14 = .ok (.pop, 1) := by decide +kernel
theorem dX4_keep_15 : decode cX4_keep 15 = .ok (.aload_n 0, 1) := by decide +kernel
theorem dX4_keep_16 : decode cX4_keep 16 = .ok (.dup, 1) := by decide +kernel
theorem dX4_keep_17 : decode cX4_keep 17 = .ok (.getfield 73, 3) := by decide +kernel
theorem dX4_keep_20 : decode cX4_keep 20 = .ok (.iconst 1, 1) := by decide +kernel
theorem dX4_keep_21 : decode cX4_keep 21 = .ok (.iadd, 1) := by decide +kernel
theorem dX4_keep_22 : decode cX4_keep 22 = .ok (.putfield 73, 3) := by decide +kernel
theorem dX4_keep_25 : decode cX4_keep 25 = .ok (.aload_n 0, 1) := by decide +kernel
theorem dX4_keep_26 : decode cX4_keep 26 = .ok (.getfield 67, 3) := by decide +kernel
theorem dX4_keep_29 : decode cX4_keep 29 = .ok (.ifCond .lt 32, 3) := by decide +kernel
theorem dX4_keep_32 : decode cX4_keep 32 = .ok (.aload_n 0, 1) := by decide +kernel
theorem dX4_keep_33 : decode cX4_keep 33 = .ok (.getfield 67, 3) := by decide +kernel
theorem dX4_keep_36 : decode cX4_keep 36 = .ok (.bipush 6, 2) := by decide +kernel
theorem dX4_keep_38 : decode cX4_keep 38 = .ok (.if_icmp .ge 23, 3) := by decide +kernel
theorem dX4_keep_41 : decode cX4_keep 41 = .ok (.aload_n 0, 1) := by decide +kernel
theorem dX4_keep_42 : decode cX4_keep 42 = .ok (.getfield 21, 3) := by decide +kernel
theorem dX4_keep_45 : decode cX4_keep 45 = .ok (.aload_n 0, 1) := by decide +kernel
theorem dX4_keep_46 : decode cX4_keep 46 = .ok (.getfield 67, 3) := by decide +kernel
theorem dX4_keep_49 : decode cX4_keep 49 = .ok (.iload_n 1, 1) := by decide +kernel
theorem dX4_keep_50 : decode cX4_keep 50 = .ok (.iastore, 1) := by decide +kernel
theorem dX4_keep_51 : decode cX4_keep 51 = .ok (.aload_n 0, 1) := by decide +kernel
theorem dX4_keep_52 : decode cX4_keep 52 = .ok (.dup, 1) := by decide +kernel
theorem dX4_keep_53 : decode cX4_keep 53 = .ok (.getfield 67, 3) := by decide +kernel
theorem dX4_keep_56 : decode cX4_keep 56 = .ok (.iconst 1, 1) := by decide +kernel
theorem dX4_keep_57 : decode cX4_keep 57 = .ok (.iadd, 1) := by decide +kernel
theorem dX4_keep_58 : decode cX4_keep 58 = .ok (.putfield 67, 3) := by decide +kernel
theorem dX4_keep_61 : decode cX4_keep 61 = .ok (.return_, 1) := by decide +kernel
theorem dX4_transmit_0 : decode cX4_transmit 0 = .ok (.iconst 0, 1) := by decide +kernel
theorem dX4_transmit_1 : decode cX4_transmit 1 = .ok (.istore_n 1, 1) := by decide +kernel
theorem dX4_transmit_2 : decode cX4_transmit 2 = .ok (.iload_n 1, 1) := by decide +kernel
theorem dX4_transmit_3 : decode cX4_transmit 3 = .ok (.aload_n 0, 1) := by decide +kernel
theorem dX4_transmit_4 : decode cX4_transmit 4 = .ok (.getfield 34, 3) := by decide +kernel
theorem dX4_transmit_7 : decode cX4_transmit 7 = .ok (.if_icmp .ge 74, 3) := by decide +kernel
theorem dX4_transmit_10 : decode cX4_transmit 10 = .ok (.aload_n 0, 1) := by decide +kernel
theorem dX4_transmit_11 : decode cX4_transmit 11 = .ok (.getfield 67, 3) := by decide +kernel
theorem dX4_transmit_14 : decode cX4_transmit 14 = .ok (.ifCond .le 67, 3) := by decide +kernel
theorem dX4_transmit_17 : decode cX4_transmit 17 = .ok (.aload_n 0, 1) := by decide +kernel
theorem dX4_transmit_18 : decode cX4_transmit 18 = .ok (.aload_n 0, 1) := by decide +kernel
theorem dX4_transmit_19 : decode cX4_transmit 19 = .ok (.getfield 37, 3) := by decide +kernel
theorem dX4_transmit_22 : decode cX4_transmit 22 = .ok (.ifCond .eq 7, 3) := by decide +kernel
theorem dX4_transmit_25 : decode cX4_transmit 25 = .ok (.iconst 0, 1) := by decide +kernel
theorem dX4_transmit_26 : decode cX4_transmit 26 = .ok (.goto 9, 3) := by decide +kernel
theorem dX4_transmit_29 : decode cX4_transmit 29 = .ok (.aload_n 0, 1) := by decide +kernel
theorem dX4_transmit_30 : decode cX4_transmit 30 = .ok (.getfield 67, 3) := by decide +kernel
theorem dX4_transmit_33 : decode cX4_transmit 33 = .ok (.iconst 1, 1) := by decide +kernel
theorem dX4_transmit_34 : decode cX4_transmit 34 = .ok (.isub, 1) := by decide +kernel
theorem dX4_transmit_35 : decode cX4_transmit 35 = .ok (.invokevirtual 70, 3) := by decide +kernel
theorem dX4_transmit_38 : decode cX4_transmit 38 = .ok (.istore_n 2, 1) := by decide +kernel
theorem dX4_transmit_39 : decode cX4_transmit 39 = .ok (.aload_n 0, 1) := by decide +kernel
theorem dX4_transmit_40 : decode cX4_transmit 40 = .ok (.getfield 76, 3) := by decide +kernel
theorem dX4_transmit_43 : decode cX4_transmit 43 = .ok (.ifCond .lt 32, 3) := by decide +kernel
theorem dX4_transmit_46 : decode cX4_transmit 46 = .ok (.aload_n 0, 1) := by decide +kernel
theorem dX4_transmit_47 : decode cX4_transmit 47 = .ok (.getfield 76, 3) := by decide +kernel
theorem dX4_transmit_50 : decode cX4_transmit 50 = .ok (.bipush 19, 2) := by decide +kernel
theorem dX4_transmit_52 : decode cX4_transmit 52 = .ok (.if_icmp .ge 23, 3) := by decide +kernel
theorem dX4_transmit_55 : decode cX4_transmit 55 = .ok (.aload_n 0, 1) := by decide +kernel
theorem dX4_transmit_56 : decode cX4_transmit 56 = .ok (.getfield 24, 3) := by decide +kernel
theorem dX4_transmit_59 : decode cX4_transmit 59 = .ok (.aload_n 0, 1) := by decide +kernel
theorem dX4_transmit_60 : decode cX4_transmit 60 = .ok (.getfield 76, 3) := by decide +kernel
theorem dX4_transmit_63 : decode cX4_transmit 63 = .ok (.iload_n 2, 1) := by decide +kernel
theorem dX4_transmit_64 : decode cX4_transmit 64 = .ok (.iastore, 1) := by decide +kernel
theorem dX4_transmit_65 : decode cX4_transmit 65 = .ok (.aload_n 0, 1) := by decide +kernel
theorem dX4_transmit_66 : decode cX4_transmit 66 = .ok (.dup, 1) := by decide +kernel
theorem dX4_transmit_67 : decode cX4_transmit 67 = .ok (.getfield 76, 3) := by decide +kernel
theorem dX4_transmit_70 : decode cX4_transmit 70 = .ok (.iconst 1, 1) := by decide +kernel
theorem dX4_transmit_71 : decode cX4_transmit 71 = .ok (.iadd, 1) := by decide +kernel
theorem dX4_transmit_72 : decode cX4_transmit 72 = .ok (.putfield 76, 3) := by decide +kernel
theorem dX4_transmit_75 : decode cX4_transmit 75 = .ok (.iinc 1 1, 3) := by decide +kernel
theorem dX4_transmit_78 : decode cX4_transmit 78 = .ok (.goto (-76), 3) := by decide +kernel
theorem dX4_transmit_81 : decode cX4_transmit 81 = .ok (.return_, 1) := by decide +kernel
theorem dX4_takeKept_0 : decode cX4_takeKept 0 = .ok (.iload_n 1, 1) := by decide +kernel
theorem dX4_takeKept_1 : decode cX4_takeKept 1 = .ok (.ifCond .lt 18, 3) := by decide +kernel
theorem dX4_takeKept_4 : decode cX4_takeKept 4 = .ok (.iload_n 1, 1) := by decide +kernel
theorem dX4_takeKept_5 : decode cX4_takeKept 5 = .ok (.bipush 6, 2) := by decide +kernel
theorem dX4_takeKept_7 : decode cX4_takeKept 7 = .ok (.if_icmp .ge 12, 3) := by decide +kernel
theorem dX4_takeKept_10 : decode cX4_takeKept 10 = .ok (.aload_n 0, 1) := by decide +kernel
theorem dX4_takeKept_11 : decode cX4_takeKept 11 = .ok (.getfield 67, 3) := by decide +kernel
theorem dX4_takeKept_14 : decode cX4_takeKept 14 = .ok (.bipush 6, 2) := by decide +kernel
theorem dX4_takeKept_16 : decode cX4_takeKept 16 = .ok (.if_icmp .le 5, 3) := by decide +kernel
theorem dX4_takeKept_19 : decode cX4_takeKept 19 = .ok (.iconst (-1), 1) := by decide +kernel
theorem dX4_takeKept_20 : decode cX4_takeKept 20 = .ok (.ireturn, 1) := by decide +kernel
theorem dX4_takeKept_21 : decode cX4_takeKept 21 = .ok (.aload_n 0, 1) := by decide +kernel
theorem dX4_takeKept_22 : decode cX4_takeKept 22 = .ok (.getfield 21, 3) := by decide +kernel
theorem dX4_takeKept_25 : decode cX4_takeKept 25 = .ok (.iload_n 1, 1) := by decide +kernel
theorem dX4_takeKept_26 : decode cX4_takeKept 26 = .ok (.iaload, 1) := by decide +kernel
theorem dX4_takeKept_27 : decode cX4_takeKept 27 = .ok (.istore_n 2, 1) := by decide +kernel
theorem dX4_takeKept_28 : decode cX4_takeKept 28 = .ok (.iload_n 1, 1) := by decide +kernel
theorem dX4_takeKept_29 : decode cX4_takeKept 29 = .ok (.iconst 1, 1) := by decide +kernel
theorem dX4_takeKept_30 : decode cX4_takeKept 30 = .ok (.iadd, 1) := by decide +kernel
theorem dX4_takeKept_31 : decode cX4_takeKept 31 = .ok (.istore_n 3, 1) := by decide +kernel
theorem dX4_takeKept_32 : decode cX4_takeKept 32 = .ok (.iload_n 3, 1) := by decide +kernel
theorem dX4_takeKept_33 : decode cX4_takeKept 33 = .ok (.aload_n 0, 1) := by decide +kernel
theorem dX4_takeKept_34 : decode cX4_takeKept 34 = .ok (.getfield 67, 3) := by decide +kernel
theorem dX4_takeKept_37 : decode cX4_takeKept 37 = .ok (.if_icmp .ge 29, 3) := by decide +kernel
theorem dX4_takeKept_40 : decode cX4_takeKept 40 = .ok (.iload_n 3, 1) := by decide +kernel
theorem dX4_takeKept_41 : decode cX4_takeKept 41 = .ok (.bipush 6, 2) := by decide +kernel
theorem dX4_takeKept_43 : decode cX4_takeKept 43 = .ok (.if_icmp .ge 23, 3) := by decide +kernel
theorem dX4_takeKept_46 : decode cX4_takeKept 46 = .ok (.aload_n 0, 1) := by decide +kernel
theorem dX4_takeKept_47 : decode cX4_takeKept 47 = .ok (.getfield 21, 3) := by decide +kernel
theorem dX4_takeKept_50 : decode cX4_takeKept 50 = .ok (.iload_n 3, 1) := by decide +kernel
theorem dX4_takeKept_51 : decode cX4_takeKept 51 = .ok (.iconst 1, 1) := by decide +kernel
theorem dX4_takeKept_52 : decode cX4_takeKept 52 = .ok (.isub, 1) := by decide +kernel
theorem dX4_takeKept_53 : decode cX4_takeKept 53 = .ok (.aload_n 0, 1) := by decide +kernel
theorem dX4_takeKept_54 : decode cX4_takeKept 54 = .ok (.getfield 21, 3) := by decide +kernel
theorem dX4_takeKept_57 : decode cX4_takeKept 57 = .ok (.iload_n 3, 1) := by decide +kernel
theorem dX4_takeKept_58 : decode cX4_takeKept 58 = .ok (.iaload, 1) := by decide +kernel
theorem dX4_takeKept_59 : decode cX4_takeKept 59 = .ok (.iastore, 1) := by decide +kernel
theorem dX4_takeKept_60 : decode cX4_takeKept 60 = .ok (.iinc 3 1, 3) := by decide +kernel
theorem dX4_takeKept_63 : decode cX4_takeKept 63 = .ok (.goto (-31), 3) := by decide +kernel
theorem dX4_takeKept_66 : decode cX4_takeKept 66 = .ok (.aload_n 0, 1) := by decide +kernel
theorem dX4_takeKept_67 : decode cX4_takeKept 67 = .ok (.dup, 1) := by decide +kernel
theorem dX4_takeKept_68 : decode cX4_takeKept 68 = .ok (.getfield 67, 3) := by decide +kernel
theorem dX4_takeKept_71 : decode cX4_takeKept 71 = .ok (.iconst 1, 1) := by decide +kernel
theorem dX4_takeKept_72 : decode cX4_takeKept 72 = .ok (.isub, 1) := by decide +kernel
theorem dX4_takeKept_73 : decode cX4_takeKept 73 = .ok (.putfield 67, 3) := by decide +kernel
theorem dX4_takeKept_76 : decode cX4_takeKept 76 = .ok (.iload_n 2, 1) := by decide +kernel
theorem dX4_takeKept_77 : decode cX4_takeKept 77 = .ok (.ireturn, 1) := by decide +kernel
theorem dX4_fall_0 : decode cX4_fall 0 = .ok (.aload_n 0, 1) := by decide +kernel
theorem dX4_fall_1 : decode cX4_fall 1 = .ok (.getfield 44, 3) := by decide +kernel
theorem dX4_fall_4 : decode cX4_fall 4 = .ok (.bipush 9, 2) := by decide +kernel
theorem dX4_fall_6 : decode cX4_fall 6 = .ok (.if_icmp .ge 10, 3) := by decide +kernel
theorem dX4_fall_9 : decode cX4_fall 9 = .ok (.iload_n 1, 1) := by decide +kernel
theorem dX4_fall_10 : decode cX4_fall 10 = .ok (.sipush 600, 3) := by decide +kernel
theorem dX4_fall_13 : decode cX4_fall 13 = .ok (.if_icmp .le 11, 3) := by decide +kernel
theorem dX4_fall_16 : decode cX4_fall 16 = .ok (.aload_n 0, 1) := by decide +kernel
theorem dX4_fall_17 : decode cX4_fall 17 = .ok (.iconst 1, 1) := by decide +kernel
theorem dX4_fall_18 : decode cX4_fall 18 = .ok (.putfield 47, 3) := by decide +kernel
theorem dX4_fall_21 : decode cX4_fall 21 = .ok (.goto 33, 3) := by decide +kernel
theorem dX4_fall_24 : decode cX4_fall 24 = .ok (.aload_n 0, 1) := by decide +kernel
theorem dX4_fall_25 : decode cX4_fall 25 = .ok (.getfield 44, 3) := by decide +kernel
theorem dX4_fall_28 : decode cX4_fall 28 = .ok (.aload_n 0, 1) := by decide +kernel
theorem dX4_fall_29 : decode cX4_fall 29 = .ok (.getfield 27, 3) := by decide +kernel
theorem dX4_fall_32 : decode cX4_fall 32 = .ok (.if_icmp .ge 12, 3) := by decide +kernel
theorem dX4_fall_35 : decode cX4_fall 35 = .ok (.aload_n 0, 1) := by decide +kernel
theorem dX4_fall_36 : decode cX4_fall 36 = .ok (.getfield 41, 3) := by decide +kernel
theorem dX4_fall_39 : decode cX4_fall 39 = .ok (.iconst 2, 1) := by decide +kernel
theorem dX4_fall_40 : decode cX4_fall 40 = .ok (.irem, 1) := by decide +kernel
theorem dX4_fall_41 : decode cX4_fall 41 = .ok (.ifCond .ne 13, 3) := by decide +kernel
theorem dX4_fall_44 : decode cX4_fall 44 = .ok (.aload_n 0, 1) := by decide +kernel
theorem dX4_fall_45 : decode cX4_fall 45 = .ok (.dup, 1) := by decide +kernel
theorem dX4_fall_46 : decode cX4_fall 46 = .ok (.getfield 44, 3) := by decide +kernel
theorem dX4_fall_49 : decode cX4_fall 49 = .ok (.iconst 1, 1) := by decide +kernel
theorem dX4_fall_50 : decode cX4_fall 50 = .ok (.iadd, 1) := by decide +kernel
theorem dX4_fall_51 : decode cX4_fall 51 = .ok (.putfield 44, 3) := by decide +kernel
theorem dX4_fall_54 : decode cX4_fall 54 = .ok (.return_, 1) := by decide +kernel
theorem dX5_init_0 : decode cX5_init 0 = .ok (.aload_n 0, 1) := by decide +kernel
theorem dX5_init_1 : decode cX5_init 1 = .ok (.invokespecial 3, 3) := by decide +kernel
theorem dX5_init_4 : decode cX5_init 4 = .ok (.aload_n 0, 1) := by decide +kernel
theorem dX5_init_5 : decode cX5_init 5 = .ok (.bipush 8, 2) := by decide +kernel
theorem dX5_init_7 : decode cX5_init 7 = .ok (.newarray .int, 2) := by decide +kernel
theorem dX5_init_9 : decode cX5_init 9 = .ok (.putfield 9, 3) := by decide +kernel
theorem dX5_init_12 : decode cX5_init 12 = .ok (.aload_n 0, 1) := by decide +kernel
theorem dX5_init_13 : decode cX5_init 13 = .ok (.bipush 8, 2) := by decide +kernel
theorem dX5_init_15 : decode cX5_init 15 = .ok (.newarray .int, 2) := by decide +kernel
theorem dX5_init_17 : decode cX5_init 17 = .ok (.putfield 15, 3) := by decide +kernel
theorem dX5_init_20 : decode cX5_init 20 = .ok (.aload_n 0, 1) := by decide +kernel
theorem dX5_init_21 : decode cX5_init 21 = .ok (.bipush 8, 2) := by decide +kernel
theorem dX5_init_23 : decode cX5_init 23 = .ok (.newarray .int, 2) := by decide +kernel
theorem dX5_init_25 : decode cX5_init 25 = .ok (.putfield 18, 3) := by decide +kernel
theorem dX5_init_28 : decode cX5_init 28 = .ok (.return_, 1) := by decide +kernel
theorem dX5_begin_0 : decode cX5_begin 0 = .ok (.aload_n 0, 1) := by decide +kernel
theorem dX5_begin_1 : decode cX5_begin 1 = .ok (.getfield 21, 3) := by decide +kernel
theorem dX5_begin_4 : decode cX5_begin 4 = .ok (.istore_n 3, 1) := by decide +kernel
theorem dX5_begin_5 : decode cX5_begin 5 = .ok (.iload_n 3, 1) := by decide +kernel
theorem dX5_begin_6 : decode cX5_begin 6 = .ok (.ifCond .lt 9, 3) := by decide +kernel
theorem dX5_begin_9 : decode cX5_begin 9 = .ok (.iload_n 3, 1) := by decide +kernel
theorem dX5_begin_10 : decode cX5_begin 10 = .ok (.bipush 8, 2) := by decide +kernel
theorem dX5_begin_12 : decode cX5_begin 12 = .ok (.if_icmp .lt 5, 3) := by decide +kernel
theorem dX5_begin_15 : decode cX5_begin 15 = .ok (.iconst (-1), 1) := by decide +kernel
theorem dX5_begin_16 : decode cX5_begin 16 = .ok (.ireturn, 1) := by decide +kernel
theorem dX5_begin_17 : decode cX5_begin 17 = .ok (.aload_n 0, 1) := by decide +kernel
theorem dX5_begin_18 : decode cX5_begin 18 = .ok (.getfield 9, 3) := by decide +kernel
theorem dX5_begin_21 : decode cX5_begin 21 = .ok (.iload_n 3, 1) := by decide +kernel
theorem dX5_begin_22 : decode cX5_begin 22 = .ok (.iload_n 1, 1) := by decide +kernel
theorem dX5_begin_23 : decode cX5_begin 23 = .ok (.iastore, 1) := by decide +kernel
theorem dX5_begin_24 : decode cX5_begin 24 = .ok (.aload_n 0, 1) := by decide +kernel
theorem dX5_begin_25 : decode cX5_begin 25 = .ok (.getfield 15, 3) := by decide +kernel
theorem dX5_begin_28 : decode cX5_begin 28 = .ok (.iload_n 3, 1) := by decide +kernel
theorem dX5_begin_29 : decode cX5_begin 29 = .ok (.iload_n 2, 1) := by decide +kernel
theorem dX5_begin_30 : decode cX5_begin 30 = .ok (.iastore, 1) := by decide +kernel
theorem dX5_begin_31 : decode cX5_begin 31 = .ok (.aload_n 0, 1) := by decide +kernel
theorem dX5_begin_32 : decode cX5_begin 32 = .ok (.getfield 18, 3) := by decide +kernel
theorem dX5_begin_35 : decode cX5_begin 35 = .ok (.iload_n 3, 1) := by decide +kernel
theorem dX5_begin_36 : decode cX5_begin 36 = .ok (.iload_n 2, 1) := by decide +kernel
theorem dX5_begin_37 : decode cX5_begin 37 = .ok (.iastore, 1) := by decide +kernel
theorem dX5_begin_38 : decode cX5_begin 38 = .ok (.aload_n 0, 1) := by decide +kernel
theorem dX5_begin_39 : decode cX5_begin 39 = .ok (.dup, 1) := by decide +kernel
theorem dX5_begin_40 : decode cX5_begin 40 = .ok (.getfield 21, 3) := by decide +kernel
theorem dX5_begin_43 : decode cX5_begin 43 = .ok (.iconst 1, 1) := by decide +kernel
theorem dX5_begin_44 : decode cX5_begin 44 = .ok (.iadd, 1) := by decide +kernel
theorem dX5_begin_45 : decode cX5_begin 45 = .ok (.putfield 21, 3) := by decide +kernel
theorem dX5_begin_48 : decode cX5_begin 48 = .ok (.iload_n 3, 1) := by decide +kernel
theorem dX5_begin_49 : decode cX5_begin 49 = .ok (.ireturn, 1) := by decide +kernel
theorem dX5_widen_0 : decode cX5_widen 0 = .ok (.iconst 0, 1) := by decide +kernel
theorem dX5_widen_1 : decode cX5_widen 1 = .ok (.istore_n 2, 1) := by decide +kernel
theorem dX5_widen_2 : decode cX5_widen 2 = .ok (.iload_n 2, 1) := by decide +kernel
theorem dX5_widen_3 : decode cX5_widen 3 = .ok (.aload_n 0, 1) := by decide +kernel
theorem dX5_widen_4 : decode cX5_widen 4 = .ok (.getfield 21, 3) := by decide +kernel
theorem dX5_widen_7 : decode cX5_widen 7 = .ok (.if_icmp .ge 34, 3) := by decide +kernel
theorem dX5_widen_10 : decode cX5_widen 10 = .ok (.iload_n 2, 1) := by decide +kernel
theorem dX5_widen_11 : decode cX5_widen 11 = .ok (.bipush 8, 2) := by decide +kernel
theorem dX5_widen_13 : decode cX5_widen 13 = .ok (.if_icmp .ge 28, 3) := by decide +kernel
theorem dX5_widen_16 : decode cX5_widen 16 = .ok (.aload_n 0, 1) := by decide +kernel
theorem dX5_widen_17 : decode cX5_widen 17 = .ok (.getfield 15, 3) := by decide +kernel
theorem dX5_widen_20 : decode cX5_widen 20 = .ok (.iload_n 2, 1) := by decide +kernel
theorem dX5_widen_21 : decode cX5_widen 21 = .ok (.dup2, 1) := by decide +kernel
theorem dX5_widen_22 : decode cX5_widen 22 = .ok (.iaload, 1) := by decide +kernel
theorem dX5_widen_23 : decode cX5_widen 23 = .ok (.aload_n 0, 1) := by decide +kernel
theorem dX5_widen_24 : decode cX5_widen 24 = .ok (.getfield 9, 3) := by decide +kernel
theorem dX5_widen_27 : decode cX5_widen 27 = .ok (.iload_n 2, 1) := by decide +kernel
theorem dX5_widen_28 : decode cX5_widen 28 = .ok (.iaload, 1) := by decide +kernel
theorem dX5_widen_29 : decode cX5_widen 29 = .ok (.aload_n 1, 1) := by decide +kernel
theorem dX5_widen_30 : decode cX5_widen 30 = .ok (.invokestatic 25, 3) := by decide +kernel
theorem dX5_widen_33 : decode cX5_widen 33 = .ok (.iadd, 1) := by decide +kernel
theorem dX5_widen_34 : decode cX5_widen 34 = .ok (.iastore, 1) := by decide +kernel
theorem dX5_widen_35 : decode cX5_widen 35 = .ok (.iinc 2 1, 3) := by decide +kernel
theorem dX5_widen_38 : decode cX5_widen 38 = .ok (.goto (-36), 3) := by decide +kernel
theorem dX5_widen_41 : decode cX5_widen 41 = .ok (.return_, 1) := by decide +kernel
theorem dX5_turnsByWidth_0 : decode cX5_turnsByWidth 0 = .ok (.aload_n 0, 1) := by decide +kernel
theorem dX5_turnsByWidth_1 : decode cX5_turnsByWidth 1 = .ok (.getfield 9, 3) := by decide +kernel
theorem dX5_turnsByWidth_4 : decode cX5_turnsByWidth 4 = .ok (.iload_n 1, 1) := by decide +kernel
theorem dX5_turnsByWidth_5 : decode cX5_turnsByWidth 5 = .ok (.iaload, 1) := by decide +kernel
theorem dX5_turnsByWidth_6 : decode cX5_turnsByWidth 6 = .ok (.aload_n 2, 1) := by decide +kernel
theorem dX5_turnsByWidth_7 : decode cX5_turnsByWidth 7 = .ok (.invokestatic 25, 3) := by decide +kernel
theorem dX5_turnsByWidth_10 : decode cX5_turnsByWidth 10 = .ok (.istore_n 3, 1) := by decide +kernel
theorem dX5_turnsByWidth_11 : decode cX5_turnsByWidth 11 = .ok (.iload_n 3, 1) := by decide +kernel
theorem dX5_turnsByWidth_12 : decode cX5_turnsByWidth 12 = .ok (.iconst 1, 1) := by decide +kernel
theorem dX5_turnsByWidth_13 : decode cX5_turnsByWidth 13 = .ok (.if_icmp .ge 7, 3) := by decide +kernel
theorem dX5_turnsByWidth_16 : decode cX5_turnsByWidth 16 = .ok (.iconst 0, 1) := by decide +kernel
theorem dX5_turnsByWidth_17 : decode cX5_turnsByWidth 17 = .ok (.goto 18, 3) := by decide +kernel
theorem dX5_turnsByWidth_20 : decode cX5_turnsByWidth 20 = .ok (.aload_n 0, 1) := by decide +kernel
theorem dX5_turnsByWidth_21 : decode cX5_turnsByWidth 21 = .ok (.getfield 15, 3) := by decide +kernel
theorem dX5_turnsByWidth_24 : decode cX5_turnsByWidth 24 = .ok (.iload_n 1, 1) := by decide +kernel
theorem dX5_turnsByWidth_25 : decode cX5_turnsByWidth 25 = .ok (.iaload, 1) := by decide +kernel
theorem dX5_turnsByWidth_26 : decode cX5_turnsByWidth 26 = .ok (.aload_n 0, 1) := by decide +kernel
theorem dX5_turnsByWidth_27 : decode cX5_turnsByWidth 27 = .ok (.getfield 18, 3) := by decide +kernel
theorem dX5_turnsByWidth_30 : decode cX5_turnsByWidth 30 = .ok (.iload_n 1, 1) := by decide +kernel
theorem dX5_turnsByWidth_31 : decode cX5_turnsByWidth 31 = .ok (.iaload, 1) := by decide +kernel
theorem dX5_turnsByWidth_32 : decode cX5_turnsByWidth 32 = .ok (.isub, 1) := by decide +kernel
theorem dX5_turnsByWidth_33 : decode cX5_turnsByWidth 33 = .ok (.iload_n 3, 1) := by decide +kernel
theorem dX5_turnsByWidth_34 : decode cX5_turnsByWidth 34 = .ok (.idiv, 1) := by decide +kernel
theorem dX5_turnsByWidth_35 : decode cX5_turnsByWidth 35 = .ok (.ireturn, 1) := by decide +kernel
theorem dX5_growth_0 : decode cX5_growth 0 = .ok (.iconst 1, 1) := by decide +kernel
theorem dX5_growth_1 : decode cX5_growth 1 = .ok (.aload_n 1, 1) := by decide +kernel
theorem dX5_growth_2 : decode cX5_growth 2 = .ok (.iload_n 0, 1) := by decide +kernel
theorem dX5_growth_3 : decode cX5_growth 3 = .ok (.invokevirtual 29, 3) := by decide +kernel
theorem dX5_growth_6 : decode cX5_growth 6 = .ok (.bipush 20, 2) := by decide +kernel
theorem dX5_growth_8 : decode cX5_growth 8 = .ok (.idiv, 1) := by decide +kernel
theorem dX5_growth_9 : decode cX5_growth 9 = .ok (.iadd, 1) := by decide +kernel
theorem dX5_growth_10 : decode cX5_growth 10 = .ok (.ireturn, 1) := by decide +kernel
theorem dX5_copyFrom_0 : decode cX5_copyFrom 0 = .ok (.aload_n 0, 1) := by decide +kernel
theorem dX5_copyFrom_1 : decode cX5_copyFrom 1 = .ok (.aload_n 1, 1) := by decide +kernel
theorem dX5_copyFrom_2 : decode cX5_copyFrom 2 = .ok (.getfield 21, 3) := by decide +kernel
theorem dX5_copyFrom_5 : decode cX5_copyFrom 5 = .ok (.putfield 21, 3) := by decide +kernel
theorem dX5_copyFrom_8 : decode cX5_copyFrom 8 = .ok (.iconst 0, 1) := by decide +kernel
theorem dX5_copyFrom_9 : decode cX5_copyFrom 9 = .ok (.istore_n 2, 1) := by decide +kernel
theorem dX5_copyFrom_10 : decode cX5_copyFrom 10 = .ok (.iload_n 2, 1) := by decide +kernel
theorem dX5_copyFrom_11 : decode cX5_copyFrom 11 = .ok (.bipush 8, 2) := by decide +kernel
theorem dX5_copyFrom_13 : decode cX5_copyFrom 13 = .ok (.if_icmp .ge 45, 3) := by decide +kernel
theorem dX5_copyFrom_16 : decode cX5_copyFrom 16 = .ok (.aload_n 0, 1) := by decide +kernel
theorem dX5_copyFrom_17 : decode cX5_copyFrom 17 = .ok (.getfield 9, 3) := by decide +kernel
theorem dX5_copyFrom_20 : decode cX5_copyFrom 20 = .ok (.iload_n 2, 1) := by decide +kernel
theorem dX5_copyFrom_21 : decode cX5_copyFrom 21 = .ok (.aload_n 1, 1) := by decide +kernel
theorem dX5_copyFrom_22 : decode cX5_copyFrom 22 = .ok (.getfield 9, 3) := by decide +kernel
theorem dX5_copyFrom_25 : decode cX5_copyFrom 25 = .ok (.iload_n 2, 1) := by decide +kernel
theorem dX5_copyFrom_26 : decode cX5_copyFrom 26 = .ok (.iaload, 1) := by decide +kernel
theorem dX5_copyFrom_27 : decode cX5_copyFrom 27 = .ok (.iastore, 1) := by decide +kernel
theorem dX5_copyFrom_28 : decode cX5_copyFrom 28 = .ok (.aload_n 0, 1) := by decide +kernel
theorem dX5_copyFrom_29 : decode cX5_copyFrom 29 = .ok (.getfield 15, 3) := by decide +kernel
theorem dX5_copyFrom_32 : decode cX5_copyFrom 32 = .ok (.iload_n 2, 1) := by decide +kernel
theorem dX5_copyFrom_33 : decode cX5_copyFrom 33 = .ok (.aload_n 1, 1) := by decide +kernel
theorem dX5_copyFrom_34 : decode cX5_copyFrom 34 = .ok (.getfield 15, 3) := by decide +kernel
theorem dX5_copyFrom_37 : decode cX5_copyFrom 37 = .ok (.iload_n 2, 1) := by decide +kernel
theorem dX5_copyFrom_38 : decode cX5_copyFrom 38 = .ok (.iaload, 1) := by decide +kernel
theorem dX5_copyFrom_39 : decode cX5_copyFrom 39 = .ok (.iastore, 1) := by decide +kernel
theorem dX5_copyFrom_40 : decode cX5_copyFrom 40 = .ok (.aload_n 0, 1) := by decide +kernel
theorem dX5_copyFrom_41 : decode cX5_copyFrom 41 = .ok (.getfield 18, 3) := by decide +kernel
theorem dX5_copyFrom_44 : decode cX5_copyFrom 44 = .ok (.iload_n 2, 1) := by decide +kernel
theorem dX5_copyFrom_45 : decode cX5_copyFrom 45 = .ok (.aload_n 1, 1) := by decide +kernel
theorem dX5_copyFrom_46 : decode cX5_copyFrom 46 = .ok (.getfield 18, 3) := by decide +kernel
theorem dX5_copyFrom_49 : decode cX5_copyFrom 49 = .ok (.iload_n 2, 1) := by decide +kernel
theorem dX5_copyFrom_50 : decode cX5_copyFrom 50 = .ok (.iaload, 1) := by decide +kernel
theorem dX5_copyFrom_51 : decode cX5_copyFrom 51 = .ok (.iastore, 1) := by decide +kernel
theorem dX5_copyFrom_52 : decode cX5_copyFrom 52 = .ok (.iinc 2 1, 3) := by decide +kernel
theorem dX5_copyFrom_55 : decode cX5_copyFrom 55 = .ok (.goto (-45), 3) := by decide +kernel
theorem dX5_copyFrom_58 : decode cX5_copyFrom 58 = .ok (.return_, 1) := by decide +kernel
theorem dX6_init_0 : decode cX6_init 0 = .ok (.aload_n 0, 1) := by decide +kernel
theorem dX6_init_1 : decode cX6_init 1 = .ok (.invokespecial 3, 3) := by decide +kernel
theorem dX6_init_4 : decode cX6_init 4 = .ok (.aload_n 0, 1) := by decide +kernel
theorem dX6_init_5 : decode cX6_init 5 = .ok (.bipush 12, 2) := by decide +kernel
theorem dX6_init_7 : decode cX6_init 7 = .ok (.newarray .int, 2) := by decide +kernel
theorem dX6_init_9 : decode cX6_init 9 = .ok (.putfield 9, 3) := by decide +kernel
theorem dX6_init_12 : decode cX6_init 12 = .ok (.aload_n 0, 1) := by decide +kernel
theorem dX6_init_13 : decode cX6_init 13 = .ok (.bipush 12, 2) := by decide +kernel
theorem dX6_init_15 : decode cX6_init 15 = .ok (.newarray .int, 2) := by decide +kernel
theorem dX6_init_17 : decode cX6_init 17 = .ok (.putfield 15, 3) := by decide +kernel
theorem dX6_init_20 : decode cX6_init 20 = .ok (.aload_n 0, 1) := by decide +kernel
theorem dX6_init_21 : decode cX6_init 21 = .ok (.bipush 12, 2) := by decide +kernel
theorem dX6_init_23 : decode cX6_init 23 = .ok (.newarray .int, 2) := by decide +kernel
theorem dX6_init_25 : decode cX6_init 25 = .ok (.putfield 18, 3) := by decide +kernel
theorem dX6_init_28 : decode cX6_init 28 = .ok (.aload_n 0, 1) := by decide +kernel
theorem dX6_init_29 : decode cX6_init 29 = .ok (.bipush 12, 2) := by decide +kernel
theorem dX6_init_31 : decode cX6_init 31 = .ok (.newarray .int, 2) := by decide +kernel
theorem dX6_init_33 : decode cX6_init 33 = .ok (.putfield 21, 3) := by decide +kernel
theorem dX6_init_36 : decode cX6_init 36 = .ok (.aload_n 0, 1) := by decide +kernel
theorem dX6_init_37 : decode cX6_init 37 = .ok (.bipush 12, 2) := by decide +kernel
theorem dX6_init_39 : decode cX6_init 39 = .ok (.newarray .char, 2) := by decide +kernel
theorem dX6_init_41 : decode cX6_init 41 = .ok (.putfield 24, 3) := by decide +kernel
theorem dX6_init_44 : decode cX6_init 44 = .ok (.aload_n 0, 1) := by decide +kernel
theorem dX6_init_45 : decode cX6_init 45 = .ok (.bipush 12, 2) := by decide +kernel
theorem dX6_init_47 : decode cX6_init 47 = .ok (.newarray .boolean, 2) := by decide +kernel
theorem dX6_init_49 : decode cX6_init 49 = .ok (.putfield 28, 3) := by decide +kernel
theorem dX6_init_52 : decode cX6_init 52 = .ok (.aload_n 0, 1) := by decide +kernel
theorem dX6_init_53 : decode cX6_init 53 = .ok (.bipush 12, 2) := by decide +kernel
theorem dX6_init_55 : decode cX6_init 55 = .ok (.newarray .int, 2) := by decide +kernel
theorem dX6_init_57 : decode cX6_init 57 = .ok (.putfield 32, 3) := by decide +kernel
theorem dX6_init_60 : decode cX6_init 60 = .ok (.return_, 1) := by decide +kernel
theorem dX6_begin_0 : decode cX6_begin 0 = .ok (.aload_n 0, 1) := by decide +kernel
theorem dX6_begin_1 : decode cX6_begin 1 = .ok (.getfield 35, 3) := by decide +kernel
theorem dX6_begin_4 : decode cX6_begin 4 = .ok (.istore 4, 2) := by decide +kernel
theorem dX6_begin_6 : decode cX6_begin 6 = .ok (.iload 4, 2) := by decide +kernel
theorem dX6_begin_8 : decode cX6_begin 8 = .ok (.ifCond .lt 10, 3) := by decide +kernel
theorem dX6_begin_11 : decode cX6_begin 11 = .ok (.iload 4, 2) := by decide +kernel
theorem dX6_begin_13 : decode cX6_begin 13 = .ok (.bipush 12, 2) := by decide +kernel
theorem dX6_begin_15 : decode cX6_begin 15 = .ok (.if_icmp .lt 5, 3) := by decide +kernel
theorem dX6_begin_18 : decode cX6_begin 18 = .ok (.iconst (-1), 1) := by decide +kernel
theorem dX6_begin_19 : decode cX6_begin 19 = .ok (.ireturn, 1) := by decide +kernel
theorem dX6_begin_20 : decode cX6_begin 20 = .ok (.aload_n 0, 1) := by decide +kernel
theorem dX6_begin_21 : decode cX6_begin 21 = .ok (.getfield 9, 3) := by decide +kernel
theorem dX6_begin_24 : decode cX6_begin 24 = .ok (.iload 4, 2) := by decide +kernel
theorem dX6_begin_26 : decode cX6_begin 26 = .ok (.iload_n 1, 1) := by decide +kernel
theorem dX6_begin_27 : decode cX6_begin 27 = .ok (.iastore, 1) := by decide +kernel
theorem dX6_begin_28 : decode cX6_begin 28 = .ok (.aload_n 0, 1) := by decide +kernel
theorem dX6_begin_29 : decode cX6_begin 29 = .ok (.getfield 15, 3) := by decide +kernel
theorem dX6_begin_32 : decode cX6_begin 32 = .ok (.iload 4, 2) := by decide +kernel
theorem dX6_begin_34 : decode cX6_begin 34 = .ok (.iload_n 2, 1) := by decide +kernel
theorem dX6_begin_35 : decode cX6_begin 35 = .ok (.iastore, 1) := by decide +kernel
theorem dX6_begin_36 : decode cX6_begin 36 = .ok (.aload_n 0, 1) := by decide +kernel
theorem dX6_begin_37 : decode cX6_begin 37 = .ok (.getfield 18, 3) := by decide +kernel
theorem dX6_begin_40 : decode cX6_begin 40 = .ok (.iload 4, 2) := by decide +kernel
theorem dX6_begin_42 : decode cX6_begin 42 = .ok (.iload_n 3, 1) := by decide +kernel
theorem dX6_begin_43 : decode cX6_begin 43 = .ok (.iastore, 1) := by decide +kernel
theorem dX6_begin_44 : decode cX6_begin 44 = .ok (.aload_n 0, 1) := by decide +kernel
theorem dX6_begin_45 : decode cX6_begin 45 = .ok (.getfield 21, 3) := by decide +kernel
theorem dX6_begin_48 : decode cX6_begin 48 = .ok (.iload 4, 2) := by decide +kernel
theorem dX6_begin_50 : decode cX6_begin 50 = .ok (.iconst 0, 1) := by decide +kernel
theorem dX6_begin_51 : decode cX6_begin 51 = .ok (.iastore, 1) := by decide +kernel
theorem dX6_begin_52 : decode cX6_begin 52 = .ok (.aload_n 0, 1) := by decide +kernel
theorem dX6_begin_53 : decode cX6_begin 53 = .ok (.getfield 24, 3) := by decide +kernel
theorem dX6_begin_56 : decode cX6_begin 56 = .ok (.iload 4, 2) := by decide +kernel
theorem dX6_begin_58 : decode cX6_begin 58 = .ok (.bipush 45, 2) := by decide +kernel
theorem dX6_begin_60 : decode cX6_begin 60 = .ok (.castore, 1) := by decide +kernel
theorem dX6_begin_61 : decode cX6_begin 61 = .ok (.aload_n 0, 1) := by decide +kernel
theorem dX6_begin_62 : decode cX6_begin 62 = .ok (.getfield 28, 3) := by decide +kernel
theorem dX6_begin_65 : decode cX6_begin 65 = .ok (.iload 4, 2) := by decide +kernel
theorem dX6_begin_67 : decode cX6_begin 67 = .ok (.iconst 1, 1) := by decide +kernel
theorem dX6_begin_68 : decode cX6_begin 68 = .ok (.bastore, 1) := by decide +kernel
theorem dX6_begin_69 : decode cX6_begin 69 = .ok (.aload_n 0, 1) := by decide +kernel
theorem dX6_begin_70 : decode cX6_begin 70 = .ok (.getfield 32, 3) := by decide +kernel
theorem dX6_begin_73 : decode cX6_begin 73 = .ok (.iload 4, 2) := by decide +kernel
theorem dX6_begin_75 : decode cX6_begin 75 = .ok (.iconst (-1), 1) := by decide +kernel
theorem dX6_begin_76 : decode cX6_begin 76 = .ok (.iastore, 1) := by decide +kernel
theorem dX6_begin_77 : decode cX6_begin 77 = .ok (.aload_n 0, 1) := by decide +kernel
theorem dX6_begin_78 : decode cX6_begin 78 = .ok (.dup, 1) := by decide +kernel
theorem dX6_begin_79 : decode cX6_begin 79 = .ok (.getfield 35, 3) := by decide +kernel
theorem dX6_begin_82 : decode cX6_begin 82 = .ok (.iconst 1, 1) := by decide +kernel
theorem dX6_begin_83 : decode cX6_begin 83 = .ok (.iadd, 1) := by decide +kernel
theorem dX6_begin_84 : decode cX6_begin 84 = .ok (.putfield 35, 3) := by decide +kernel
theorem dX6_begin_87 : decode cX6_begin 87 = .ok (.iload 4, 2) := by decide +kernel
theorem dX6_begin_89 : decode cX6_begin 89 = .ok (.ireturn, 1) := by decide +kernel
theorem dX6_bearerOf_0 : decode cX6_bearerOf 0 = .ok (.iconst 0, 1) := by decide +kernel
theorem dX6_bearerOf_1 : decode cX6_bearerOf 1 = .ok (.istore_n 2, 1) := by decide +kernel
theorem dX6_bearerOf_2 : decode cX6_bearerOf 2 = .ok (.iload_n 2, 1) := by decide +kernel
theorem dX6_bearerOf_3 : decode cX6_bearerOf 3 = .ok (.aload_n 0, 1) := by decide +kernel
theorem dX6_bearerOf_4 : decode cX6_bearerOf 4 = .ok (.getfield 35, 3) := by decide +kernel
theorem dX6_bearerOf_7 : decode cX6_bearerOf 7 = .ok (.if_icmp .ge 36, 3) := by decide +kernel
theorem dX6_bearerOf_10 : decode cX6_bearerOf 10 = .ok (.iload_n 2, 1) := by decide +kernel
theorem dX6_bearerOf_11 : decode cX6_bearerOf 11 = .ok (.bipush 12, 2) := by decide +kernel
theorem dX6_bearerOf_13 : decode cX6_bearerOf 13 = .ok (.if_icmp .ge 30, 3) := by decide +kernel
theorem dX6_bearerOf_16 : decode cX6_bearerOf 16 = .ok (.aload_n 0, 1) := by decide +kernel
theorem dX6_bearerOf_17 : decode cX6_bearerOf 17 = .ok (.getfield 28, 3) := by decide +kernel
theorem dX6_bearerOf_20 : decode cX6_bearerOf 20 = .ok (.iload_n 2, 1) := by decide +kernel
theorem dX6_bearerOf_21 : decode cX6_bearerOf 21 = .ok (.baload, 1) := by decide +kernel
theorem dX6_bearerOf_22 : decode cX6_bearerOf 22 = .ok (.ifCond .eq 15, 3) := by decide +kernel
theorem dX6_bearerOf_25 : decode cX6_bearerOf 25 = .ok (.aload_n 0, 1) := by decide +kernel
theorem dX6_bearerOf_26 : decode cX6_bearerOf 26 = .ok (.getfield 24, 3) := by decide +kernel
theorem dX6_bearerOf_29 : decode cX6_bearerOf 29 = .ok (.iload_n 2, 1) := by decide +kernel
theorem dX6_bearerOf_30 : decode cX6_bearerOf 30 = .ok (.caload, 1) := by decide +kernel
theorem dX6_bearerOf_31 : decode cX6_bearerOf 31 = .ok (.iload_n 1, 1) := by decide +kernel
theorem dX6_bearerOf_32 : decode cX6_bearerOf 32 = .ok (.if_icmp .ne 5, 3) := by decide +kernel
theorem dX6_bearerOf_35 : decode cX6_bearerOf 35 = .ok (.iload_n 2, 1) := by decide +kernel
theorem dX6_bearerOf_36 : decode cX6_bearerOf 36 = .ok (.ireturn, 1) := by decide +kernel
theorem dX6_bearerOf_37 : decode cX6_bearerOf 37 = .ok (.iinc 2 1, 3) := by decide +kernel
theorem dX6_bearerOf_40 : decode cX6_bearerOf 40 = .ok (.goto (-38), 3) := by decide +kernel
theorem dX6_bearerOf_43 : decode cX6_bearerOf 43 = .ok (.iconst (-1), 1) := by decide +kernel
theorem dX6_bearerOf_44 : decode cX6_bearerOf 44 = .ok (.ireturn, 1) := by decide +kernel
theorem dX6_heirOf_0 : decode cX6_heirOf 0 = .ok (.iload_n 1, 1) := by decide +kernel
theorem dX6_heirOf_1 : decode cX6_heirOf 1 = .ok (.istore_n 2, 1) := by decide +kernel
theorem dX6_heirOf_2 : decode cX6_heirOf 2 = .ok (.iconst 0, 1) := by decide +kernel
theorem dX6_heirOf_3 : decode cX6_heirOf 3 = .ok (.istore_n 3, 1) := by decide +kernel
theorem dX6_heirOf_4 : decode cX6_heirOf 4 = .ok (.iload_n 3, 1) := by decide +kernel
theorem dX6_heirOf_5 : decode cX6_heirOf 5 = .ok (.bipush 12, 2) := by decide +kernel
theorem dX6_heirOf_7 : decode cX6_heirOf 7 = .ok (.if_icmp .ge 39, 3) := by decide +kernel
theorem dX6_heirOf_10 : decode cX6_heirOf 10 = .ok (.iload_n 2, 1) := by decide +kernel
theorem dX6_heirOf_11 : decode cX6_heirOf 11 = .ok (.ifCond .lt 9, 3) := by decide +kernel
theorem dX6_heirOf_14 : decode cX6_heirOf 14 = .ok (.iload_n 2, 1) := by decide +kernel
theorem dX6_heirOf_15 : decode cX6_heirOf 15 = .ok (.bipush 12, 2) := by decide +kernel
theorem dX6_heirOf_17 : decode cX6_heirOf 17 = .ok (.if_icmp .lt 5, 3) := by decide +kernel
theorem dX6_heirOf_20 : decode cX6_heirOf 20 = .ok (.iconst (-1), 1) := by decide +kernel
theorem dX6_heirOf_21 : decode cX6_heirOf 21 = .ok (.ireturn, 1) := by decide +kernel
theorem dX6_heirOf_22 : decode cX6_heirOf 22 = .ok (.aload_n 0, 1) := by decide +kernel
theorem dX6_heirOf_23 : decode cX6_heirOf 23 = .ok (.getfield 28, 3) := by decide +kernel
theorem dX6_heirOf_26 : decode cX6_heirOf 26 = .ok (.iload_n 2, 1) := by decide +kernel
theorem dX6_heirOf_27 : decode cX6_heirOf 27 = .ok (.baload, 1) := by decide +kernel
theorem dX6_heirOf_28 : decode cX6_heirOf 28 = .ok (.ifCond .eq 5, 3) := by decide +kernel
theorem dX6_heirOf_31 : decode cX6_heirOf 31 = .ok (.iload_n 2, 1) := by decide +kernel
theorem dX6_heirOf_32 : decode cX6_heirOf 32 = .ok (.ireturn, 1) := by decide +kernel
theorem dX6_heirOf_33 : decode cX6_heirOf 33 = .ok (.aload_n 0, 1) := by decide +kernel
theorem dX6_heirOf_34 : decode cX6_heirOf 34 = .ok (.getfield 32, 3) := by decide +kernel
theorem dX6_heirOf_37 : decode cX6_heirOf 37 = .ok (.iload_n 2, 1) := by decide +kernel
theorem dX6_heirOf_38 : decode cX6_heirOf 38 = .ok (.iaload, 1) := by decide +kernel
theorem dX6_heirOf_39 : decode cX6_heirOf 39 = .ok (.istore_n 2, 1) := by decide +kernel
theorem dX6_heirOf_40 : decode cX6_heirOf 40 = .ok (.iinc 3 1, 3) := by decide +kernel
theorem dX6_heirOf_43 : decode cX6_heirOf 43 = .ok (.goto (-39), 3) := by decide +kernel
theorem dX6_heirOf_46 : decode cX6_heirOf 46 = .ok (.iconst (-1), 1) := by decide +kernel
theorem dX6_heirOf_47 : decode cX6_heirOf 47 = .ok (.ireturn, 1) := by decide +kernel
theorem dX6_countThere_0 : decode cX6_countThere 0 = .ok (.iconst 0, 1) := by decide +kernel
theorem dX6_countThere_1 : decode cX6_countThere 1 = .ok (.istore_n 1, 1) := by decide +kernel
theorem dX6_countThere_2 : decode cX6_countThere 2 = .ok (.iconst 0, 1) := by decide +kernel
theorem dX6_countThere_3 : decode cX6_countThere 3 = .ok (.istore_n 2, 1) := by decide +kernel
theorem dX6_countThere_4 : decode cX6_countThere 4 = .ok (.iload_n 2, 1) := by decide +kernel
theorem dX6_countThere_5 : decode cX6_countThere 5 = .ok (.aload_n 0, 1) := by decide +kernel
theorem dX6_countThere_6 : decode cX6_countThere 6 = .ok (.getfield 35, 3) := by decide +kernel
theorem dX6_countThere_9 : decode cX6_countThere 9 = .ok (.if_icmp .ge 32, 3) := by decide +kernel
theorem dX6_countThere_12 : decode cX6_countThere 12 = .ok (.iload_n 2, 1) := by decide +kernel
theorem dX6_countThere_13 : decode cX6_countThere 13 = .ok (.bipush 12, 2) := by decide +kernel
theorem dX6_countThere_15 : decode cX6_countThere 15 = .ok (.if_icmp .ge 26, 3) := by decide +kernel
theorem dX6_countThere_18 : decode cX6_countThere 18 = .ok (.iload_n 1, 1) := by decide +kernel
theorem dX6_countThere_19 : decode cX6_countThere 19 = .ok (.aload_n 0, 1) := by decide +kernel
theorem dX6_countThere_20 : decode cX6_countThere 20 = .ok (.getfield 28, 3) := by decide +kernel
theorem dX6_countThere_23 : decode cX6_countThere 23 = .ok (.iload_n 2, 1) := by decide +kernel
theorem dX6_countThere_24 : decode cX6_countThere 24 = .ok (.baload, 1) := by decide +kernel
theorem dX6_countThere_25 : decode cX6_countThere 25 = .ok (.ifCond .eq 7, 3) := by decide +kernel
theorem dX6_countThere_28 : decode cX6_countThere 28 = .ok (.iconst 1, 1) := by decide +kernel
theorem dX6_countThere_29 : decode cX6_countThere 29 = .ok (.goto 4, 3) := by decide +kernel
theorem dX6_countThere_32 : decode cX6_countThere 32 = .ok (.iconst 0, 1) := by decide +kernel
theorem dX6_countThere_33 : decode cX6_countThere 33 = .ok (.iadd, 1) := by decide +kernel
theorem dX6_countThere_34 : decode cX6_countThere 34 = .ok (.istore_n 1, 1) := by decide +kernel
theorem dX6_countThere_35 : decode cX6_countThere 35 = .ok (.iinc 2 1, 3) := by decide +kernel
theorem dX6_countThere_38 : decode cX6_countThere 38 = .ok (.goto (-34), 3) := by decide +kernel
theorem dX6_countThere_41 : decode cX6_countThere 41 = .ok (.iload_n 1, 1) := by decide +kernel
theorem dX6_countThere_42 : decode cX6_countThere 42 = .ok (.ireturn, 1) := by decide +kernel
theorem dX6_goOn_0 : decode cX6_goOn 0 = .ok (.aload_n 0, 1) := by decide +kernel
theorem dX6_goOn_1 : decode cX6_goOn 1 = .ok (.aload_n 1, 1) := by decide +kernel
theorem dX6_goOn_2 : decode cX6_goOn 2 = .ok (.invokevirtual 39, 3) := by decide +kernel
theorem dX6_goOn_5 : decode cX6_goOn 5 = .ok (.aload_n 0, 1) := by decide +kernel
theorem dX6_goOn_6 : decode cX6_goOn 6 = .ok (.aload_n 2, 1) := by decide +kernel
theorem dX6_goOn_7 : decode cX6_goOn 7 = .ok (.invokevirtual 43, 3) := by decide +kernel
theorem dX6_goOn_10 : decode cX6_goOn 10 = .ok (.aload_n 0, 1) := by decide +kernel
theorem dX6_goOn_11 : decode cX6_goOn 11 = .ok (.aload_n 1, 1) := by decide +kernel
theorem dX6_goOn_12 : decode cX6_goOn 12 = .ok (.aload_n 2, 1) := by decide +kernel
theorem dX6_goOn_13 : decode cX6_goOn 13 = .ok (.invokevirtual 47, 3) := by decide +kernel
theorem dX6_goOn_16 : decode cX6_goOn 16 = .ok (.aload_n 0, 1) := by decide +kernel
theorem dX6_goOn_17 : decode cX6_goOn 17 = .ok (.aload_n 2, 1) := by decide +kernel
theorem dX6_goOn_18 : decode cX6_goOn 18 = .ok (.invokevirtual 51, 3) := by decide +kernel
theorem dX6_goOn_21 : decode cX6_goOn 21 = .ok (.return_, 1) := by decide +kernel
theorem dX6_blow_0 : decode cX6_blow 0 = .ok (.iconst 0, 1) := by decide +kernel
theorem dX6_blow_1 : decode cX6_blow 1 = .ok (.istore_n 2, 1) := by decide +kernel
theorem dX6_blow_2 : decode cX6_blow 2 = .ok (.iload_n 2, 1) := by decide +kernel
theorem dX6_blow_3 : decode cX6_blow 3 = .ok (.aload_n 0, 1) := by decide +kernel
theorem dX6_blow_4 : decode cX6_blow 4 = .ok (.getfield 35, 3) := by decide +kernel
theorem dX6_blow_7 : decode cX6_blow 7 = .ok (.if_icmp .ge 65, 3) := by decide +kernel
theorem dX6_blow_10 : decode cX6_blow 10 = .ok (.iload_n 2, 1) := by decide +kernel
theorem dX6_blow_11 : decode cX6_blow 11 = .ok (.bipush 12, 2) := by decide +kernel
theorem dX6_blow_13 : decode cX6_blow 13 = .ok (.if_icmp .ge 59, 3) := by decide +kernel
theorem dX6_blow_16 : decode cX6_blow 16 = .ok (.aload_n 0, 1) := by decide +kernel
theorem dX6_blow_17 : decode cX6_blow 17 = .ok (.getfield 28, 3) := by decide +kernel
theorem dX6_blow_20 : decode cX6_blow 20 = .ok (.iload_n 2, 1) := by decide +kernel
theorem dX6_blow_21 : decode cX6_blow 21 = .ok (.baload, 1) := by decide +kernel
theorem dX6_blow_22 : decode cX6_blow 22 = .ok (.ifCond .eq 44, 3) := by decide +kernel
theorem dX6_blow_25 : decode cX6_blow 25 = .ok (.aload_n 0, 1) := by decide +kernel
theorem dX6_blow_26 : decode cX6_blow 26 = .ok (.getfield 15, 3) := by decide +kernel
theorem dX6_blow_29 : decode cX6_blow 29 = .ok (.iload_n 2, 1) := by decide +kernel
theorem dX6_blow_30 : decode cX6_blow 30 = .ok (.iaload, 1) := by decide +kernel
theorem dX6_blow_31 : decode cX6_blow 31 = .ok (.aload_n 1, 1) := by decide +kernel
theorem dX6_blow_32 : decode cX6_blow 32 = .ok (.aload_n 0, 1) := by decide +kernel
theorem dX6_blow_33 : decode cX6_blow 33 = .ok (.getfield 9, 3) := by decide +kernel
theorem dX6_blow_36 : decode cX6_blow 36 = .ok (.iload_n 2, 1) := by decide +kernel
theorem dX6_blow_37 : decode cX6_blow 37 = .ok (.iaload, 1) := by decide +kernel
theorem dX6_blow_38 : decode cX6_blow 38 = .ok (.invokevirtual 54, 3) := by decide +kernel
theorem dX6_blow_41 : decode cX6_blow 41 = .ok (.iadd, 1) := by decide +kernel
theorem dX6_blow_42 : decode cX6_blow 42 = .ok (.istore_n 3, 1) := by decide +kernel
theorem dX6_blow_43 : decode cX6_blow 43 = .ok (.aload_n 0, 1) := by decide +kernel
theorem dX6_blow_44 : decode cX6_blow 44 = .ok (.getfield 15, 3) := by decide +kernel
theorem dX6_blow_47 : decode cX6_blow 47 = .ok (.iload_n 2, 1) := by decide +kernel
theorem dX6_blow_48 : decode cX6_blow 48 = .ok (.iload_n 3, 1) := by decide +kernel
theorem dX6_blow_49 : decode cX6_blow 49 = .ok (.sipush 3600, 3) := by decide +kernel
theorem dX6_blow_52 : decode cX6_blow 52 = .ok (.invokestatic 60, 3) := by decide +kernel
theorem dX6_blow_55 : decode cX6_blow 55 = .ok (.iastore, 1) := by decide +kernel
theorem dX6_blow_56 : decode cX6_blow 56 = .ok (.aload_n 0, 1) := by decide +kernel
theorem dX6_blow_57 : decode cX6_blow 57 = .ok (.getfield 21, 3) := by decide +kernel
theorem dX6_blow_60 : decode cX6_blow 60 = .ok (.iload_n 2, 1) := by decide +kernel
theorem dX6_blow_61 : decode cX6_blow 61 = .ok (.dup2, 1) := by decide +kernel
theorem dX6_blow_62 : decode cX6_blow 62 = .ok (.iaload, 1) := by decide +kernel
theorem dX6_blow_63 : decode cX6_blow 63 = .ok (.iconst 1, 1) := by decide +kernel
theorem dX6_blow_64 : decode cX6_blow 64 = .ok (.iadd, 1) := by decide +kernel
theorem dX6_blow_65 : decode cX6_blow 65 = .ok (.iastore, 1) := by decide +kernel
theorem dX6_blow_66 : decode cX6_blow 66 = .ok (.iinc 2 1, 3) := by decide +kernel
theorem dX6_blow_69 : decode cX6_blow 69 = .ok (.goto (-67), 3) := by decide +kernel
theorem dX6_blow_72 : decode cX6_blow 72 = .ok (.return_, 1) := by decide +kernel
theorem dX6_meet_0 : decode cX6_meet 0 = .ok (.iconst 0, 1) := by decide +kernel
theorem dX6_meet_1 : decode cX6_meet 1 = .ok (.istore_n 2, 1) := by decide +kernel
theorem dX6_meet_2 : decode cX6_meet 2 = .ok (.iload_n 2, 1) := by decide +kernel
theorem dX6_meet_3 : decode cX6_meet 3 = .ok (.aload_n 0, 1) := by decide +kernel
theorem dX6_meet_4 : decode cX6_meet 4 = .ok (.getfield 35, 3) := by decide +kernel
theorem dX6_meet_7 : decode cX6_meet 7 = .ok (.if_icmp .ge 55, 3) := by decide +kernel
theorem dX6_meet_10 : decode cX6_meet 10 = .ok (.iload_n 2, 1) := by decide +kernel
theorem dX6_meet_11 : decode cX6_meet 11 = .ok (.bipush 12, 2) := by decide +kernel
theorem dX6_meet_13 : decode cX6_meet 13 = .ok (.if_icmp .ge 49, 3) := by decide +kernel
theorem dX6_meet_16 : decode cX6_meet 16 = .ok (.iload_n 2, 1) := by decide +kernel
theorem dX6_meet_17 : decode cX6_meet 17 = .ok (.iconst 1, 1) := by decide +kernel
theorem dX6_meet_18 : decode cX6_meet 18 = .ok (.iadd, 1) := by decide +kernel
theorem dX6_meet_19 : decode cX6_meet 19 = .ok (.istore_n 3, 1) := by decide +kernel
theorem dX6_meet_20 : decode cX6_meet 20 = .ok (.iload_n 3, 1) := by decide +kernel
theorem dX6_meet_21 : decode cX6_meet 21 = .ok (.aload_n 0, 1) := by decide +kernel
theorem dX6_meet_22 : decode cX6_meet 22 = .ok (.getfield 35, 3) := by decide +kernel
theorem dX6_meet_25 : decode cX6_meet 25 = .ok (.if_icmp .ge 31, 3) := by decide +kernel
theorem dX6_meet_28 : decode cX6_meet 28 = .ok (.iload_n 3, 1) := by decide +kernel
theorem dX6_meet_29 : decode cX6_meet 29 = .ok (.bipush 12, 2) := by decide +kernel
theorem dX6_meet_31 : decode cX6_meet 31 = .ok (.if_icmp .ge 25, 3) := by decide +kernel
theorem dX6_meet_34 : decode cX6_meet 34 = .ok (.aload_n 0, 1) := by decide +kernel
theorem dX6_meet_35 : decode cX6_meet 35 = .ok (.iload_n 2, 1) := by decide +kernel
theorem dX6_meet_36 : decode cX6_meet 36 = .ok (.iload_n 3, 1) := by decide +kernel
theorem dX6_meet_37 : decode cX6_meet 37 = .ok (.invokevirtual 66, 3) := by decide +kernel
theorem dX6_meet_40 : decode cX6_meet 40 = .ok (.ifCond .eq 10, 3) := by decide +kernel
theorem dX6_meet_43 : decode cX6_meet 43 = .ok (.aload_n 0, 1) := by decide +kernel
theorem dX6_meet_44 : decode cX6_meet 44 = .ok (.iload_n 2, 1) := by decide +kernel
theorem dX6_meet_45 : decode cX6_meet 45 = .ok (.iload_n 3, 1) := by decide +kernel
theorem dX6_meet_46 : decode cX6_meet 46 = .ok (.aload_n 1, 1) := by decide +kernel
theorem dX6_meet_47 : decode cX6_meet 47 = .ok (.invokevirtual 70, 3) := by decide +kernel
theorem dX6_meet_50 : decode cX6_meet 50 = .ok (.iinc 3 1, 3) := by decide +kernel
theorem dX6_meet_53 : decode cX6_meet 53 = .ok (.goto (-33), 3) := by decide +kernel
theorem dX6_meet_56 : decode cX6_meet 56 = .ok (.iinc 2 1, 3) := by decide +kernel
theorem dX6_meet_59 : decode cX6_meet 59 = .ok (.goto (-57), 3) := by decide +kernel
theorem dX6_meet_62 : decode cX6_meet 62 = .ok (.return_, 1) := by decide +kernel
theorem dX6_doMeet_0 : decode cX6_doMeet 0 = .ok (.aload_n 0, 1) := by decide +kernel
theorem dX6_doMeet_1 : decode cX6_doMeet 1 = .ok (.getfield 28, 3) := by decide +kernel
theorem dX6_doMeet_4 : decode cX6_doMeet 4 = .ok (.iload_n 1, 1) := by decide +kernel
theorem dX6_doMeet_5 : decode cX6_doMeet 5 = .ok (.baload, 1) := by decide +kernel
theorem dX6_doMeet_6 : decode cX6_doMeet 6 = .ok (.ifCond .eq 64, 3) := by decide +kernel
theorem dX6_doMeet_9 : decode cX6_doMeet 9 = .ok (.aload_n 0, 1) := by decide +kernel
theorem dX6_doMeet_10 : decode cX6_doMeet 10 = .ok (.getfield 28, 3) := by decide +kernel
theorem dX6_doMeet_13 : decode cX6_doMeet 13 = .ok (.iload_n 2, 1) := by decide +kernel
theorem dX6_doMeet_14 : decode cX6_doMeet 14 = .ok (.baload, 1) := by decide +kernel
theorem dX6_doMeet_15 : decode cX6_doMeet 15 = .ok (.ifCond .eq 55, 3) := by decide +kernel
theorem dX6_doMeet_18 : decode cX6_doMeet 18 = .ok (.aload_n 0, 1) := by decide +kernel
theorem dX6_doMeet_19 : decode cX6_doMeet 19 = .ok (.getfield 9, 3) := by decide +kernel
theorem dX6_doMeet_22 : decode cX6_doMeet 22 = .ok (.iload_n 1, 1) := by decide +kernel
theorem dX6_doMeet_23 : decode cX6_doMeet 23 = .ok (.iaload, 1) := by decide +kernel
theorem dX6_doMeet_24 : decode cX6_doMeet 24 = .ok (.aload_n 0, 1) := by decide +kernel
theorem dX6_doMeet_25 : decode cX6_doMeet 25 = .ok (.getfield 9, 3) := by decide +kernel
theorem dX6_doMeet_28 : decode cX6_doMeet 28 = .ok (.iload_n 2, 1) := by decide +kernel
theorem dX6_doMeet_29 : decode cX6_doMeet 29 = .ok (.iaload, 1) := by decide +kernel
theorem dX6_doMeet_30 : decode cX6_doMeet 30 = .ok (.if_icmp .ne 40, 3) := by decide +kernel
theorem dX6_doMeet_33 : decode cX6_doMeet 33 = .ok (.aload_n 0, 1) := by decide +kernel
theorem dX6_doMeet_34 : decode cX6_doMeet 34 = .ok (.getfield 15, 3) := by decide +kernel
theorem dX6_doMeet_37 : decode cX6_doMeet 37 = .ok (.iload_n 1, 1) := by decide +kernel
theorem dX6_doMeet_38 : decode cX6_doMeet 38 = .ok (.iaload, 1) := by decide +kernel
theorem dX6_doMeet_39 : decode cX6_doMeet 39 = .ok (.aload_n 0, 1) := by decide +kernel
theorem dX6_doMeet_40 : decode cX6_doMeet 40 = .ok (.getfield 15, 3) := by decide +kernel
theorem dX6_doMeet_43 : decode cX6_doMeet 43 = .ok (.iload_n 2, 1) := by decide +kernel
theorem dX6_doMeet_44 : decode cX6_doMeet 44 = .ok (.iaload, 1) := by decide +kernel
theorem dX6_doMeet_45 : decode cX6_doMeet 45 = .ok (.invokestatic 74, 3) := by decide +kernel
theorem dX6_doMeet_48 : decode cX6_doMeet 48 = .ok (.aload_n 0, 1) := by decide +kernel
theorem dX6_doMeet_49 : decode cX6_doMeet 49 = .ok (.getfield 18, 3) := by decide +kernel
theorem dX6_doMeet_52 : decode cX6_doMeet 52 = .ok (.iload_n 1, 1) := by decide +kernel
theorem dX6_doMeet_53 : decode cX6_doMeet 53 = .ok (.iaload, 1) := by decide +kernel
theorem dX6_doMeet_54 : decode cX6_doMeet 54 = .ok (.aload_n 0, 1) := by decide +kernel
theorem dX6_doMeet_55 : decode cX6_doMeet 55 = .ok (.getfield 18, 3) := by decide +kernel
theorem dX6_doMeet_58 : decode cX6_doMeet 58 = .ok (.iload_n 2, 1) := by decide +kernel
theorem dX6_doMeet_59 : decode cX6_doMeet 59 = .ok (.iaload, 1) := by decide +kernel
theorem dX6_doMeet_60 : decode cX6_doMeet 60 = .ok (.iadd, 1) := by decide +kernel
theorem dX6_doMeet_61 : decode cX6_doMeet 61 = .ok (.iconst 2, 1) := by decide +kernel
theorem dX6_doMeet_62 : decode cX6_doMeet 62 = .ok (.idiv, 1) := by decide +kernel
theorem dX6_doMeet_63 : decode cX6_doMeet 63 = .ok (.if_icmp .ge 7, 3) := by decide +kernel
theorem dX6_doMeet_66 : decode cX6_doMeet 66 = .ok (.iconst 1, 1) := by decide +kernel
theorem dX6_doMeet_67 : decode cX6_doMeet 67 = .ok (.goto 4, 3) := by decide +kernel
theorem dX6_doMeet_70 : decode cX6_doMeet 70 = .ok (.iconst 0, 1) := by decide +kernel
theorem dX6_doMeet_71 : decode cX6_doMeet 71 = .ok (.ireturn, 1) := by decide +kernel
theorem dX6_merge_0 : decode cX6_merge 0 = .ok (.aload_n 0, 1) := by decide +kernel
theorem dX6_merge_1 : decode cX6_merge 1 = .ok (.iload_n 2, 1) := by decide +kernel
theorem dX6_merge_2 : decode cX6_merge 2 = .ok (.iload_n 1, 1) := by decide +kernel
theorem dX6_merge_3 : decode cX6_merge 3 = .ok (.invokevirtual 77, 3) := by decide +kernel
theorem dX6_merge_6 : decode cX6_merge 6 = .ok (.ifCond .eq 7, 3) := by decide +kernel
theorem dX6_merge_9 : decode cX6_merge 9 = .ok (.iload_n 2, 1) := by decide +kernel
theorem dX6_merge_10 : decode cX6_merge 10 = .ok (.goto 4, 3) := by decide +kernel
theorem dX6_merge_13 : decode cX6_merge 13 = .ok (.iload_n 1, 1) := by decide +kernel
theorem dX6_merge_14 : decode cX6_merge 14 = .ok (.istore 4, 2) := by decide +kernel
theorem dX6_merge_16 : decode cX6_merge 16 = .ok (.iload 4, 2) := by decide +kernel
theorem dX6_merge_18 : decode cX6_merge 18 = .ok (.iload_n 1, 1) := by decide +kernel
theorem dX6_merge_19 : decode cX6_merge 19 = .ok (.if_icmp .ne 7, 3) := by decide +kernel
theorem dX6_merge_22 : decode cX6_merge 22 = .ok (.iload_n 2, 1) := by decide +kernel
theorem dX6_merge_23 : decode cX6_merge 23 = .ok (.goto 4, 3) := by decide +kernel
theorem dX6_merge_26 : decode cX6_merge 26 = .ok (.iload_n 1, 1) := by decide +kernel
theorem dX6_merge_27 : decode cX6_merge 27 = .ok (.istore 5, 2) := by decide +kernel
theorem dX6_merge_29 : decode cX6_merge 29 = .ok (.aload_n 0, 1) := by decide +kernel
theorem dX6_merge_30 : decode cX6_merge 30 = .ok (.getfield 18, 3) := by decide +kernel
theorem dX6_merge_33 : decode cX6_merge 33 = .ok (.iload 4, 2) := by decide +kernel
theorem dX6_merge_35 : decode cX6_merge 35 = .ok (.aload_n 0, 1) := by decide +kernel
theorem dX6_merge_36 : decode cX6_merge 36 = .ok (.getfield 18, 3) := by decide +kernel
theorem dX6_merge_39 : decode cX6_merge 39 = .ok (.iload 4, 2) := by decide +kernel
theorem dX6_merge_41 : decode cX6_merge 41 = .ok (.iaload, 1) := by decide +kernel
theorem dX6_merge_42 : decode cX6_merge 42 = .ok (.aload_n 0, 1) := by decide +kernel
theorem dX6_merge_43 : decode cX6_merge 43 = .ok (.getfield 18, 3) := by decide +kernel
theorem dX6_merge_46 : decode cX6_merge 46 = .ok (.iload 5, 2) := by decide +kernel
theorem dX6_merge_48 : decode cX6_merge 48 = .ok (.iaload, 1) := by decide +kernel
theorem dX6_merge_49 : decode cX6_merge 49 = .ok (.invokestatic 80, 3) := by decide +kernel
theorem dX6_merge_52 : decode cX6_merge 52 = .ok (.iastore, 1) := by decide +kernel
theorem dX6_merge_53 : decode cX6_merge 53 = .ok (.aload_n 0, 1) := by decide +kernel
theorem dX6_merge_54 : decode cX6_merge 54 = .ok (.getfield 24, 3) := by decide +kernel
theorem dX6_merge_57 : decode cX6_merge 57 = .ok (.iload 4, 2) := by decide +kernel
theorem dX6_merge_59 : decode cX6_merge 59 = .ok (.caload, 1) := by decide +kernel
theorem dX6_merge_60 : decode cX6_merge 60 = .ok (.bipush 45, 2) := by decide +kernel
theorem dX6_merge_62 : decode cX6_merge 62 = .ok (.if_icmp .ne 17, 3) := by decide +kernel
theorem dX6_merge_65 : decode cX6_merge 65 = .ok (.aload_n 0, 1) := by decide +kernel
theorem dX6_merge_66 : decode cX6_merge 66 = .ok (.getfield 24, 3) := by decide +kernel
theorem dX6_merge_69 : decode cX6_merge 69 = .ok (.iload 4, 2) := by decide +kernel
theorem dX6_merge_71 : decode cX6_merge 71 = .ok (.aload_n 0, 1) := by decide +kernel
theorem dX6_merge_72 : decode cX6_merge 72 = .ok (.getfield 24, 3) := by decide +kernel
theorem dX6_merge_75 : decode cX6_merge 75 = .ok (.iload 5, 2) := by decide +kernel
theorem dX6_merge_77 : decode cX6_merge 77 = .ok (.caload, 1) := by decide +kernel
theorem dX6_merge_78 : decode cX6_merge 78 = .ok (.castore, 1) := by decide +kernel
theorem dX6_merge_79 : decode cX6_merge 79 = .ok (.aload_n 0, 1) := by decide +kernel
theorem dX6_merge_80 : decode cX6_merge 80 = .ok (.getfield 28, 3) := by decide +kernel
theorem dX6_merge_83 : decode cX6_merge 83 = .ok (.iload 5, 2) := by decide +kernel
theorem dX6_merge_85 : decode cX6_merge 85 = .ok (.iconst 0, 1) := by decide +kernel
theorem dX6_merge_86 : decode cX6_merge 86 = .ok (.bastore, 1) := by decide +kernel
theorem dX6_merge_87 : decode cX6_merge 87 = .ok (.aload_n 0, 1) := by decide +kernel
theorem dX6_merge_88 : decode cX6_merge 88 = .ok (.getfield 32, 3) := by decide +kernel
theorem dX6_merge_91 : decode cX6_merge 91 = .ok (.iload 5, 2) := by decide +kernel
theorem dX6_merge_93 : decode cX6_merge 93 = .ok (.iload 4, 2) := by decide +kernel
theorem dX6_merge_95 : decode cX6_merge 95 = .ok (.iastore, 1) := by decide +kernel
theorem dX6_merge_96 : decode cX6_merge 96 = .ok (.aload_n 3, 1) := by decide +kernel
theorem dX6_merge_97 : decode cX6_merge 97 = .ok (.bipush 109, 2) := by decide +kernel
theorem dX6_merge_99 : decode cX6_merge 99 = .ok (.iload 4, 2) := by decide +kernel
theorem dX6_merge_101 : decode cX6_merge 101 = .ok (.invokevirtual 83, 3) := by decide +kernel
theorem dX6_merge_104 : decode cX6_merge 104 = .ok (.return_, 1) := by decide +kernel
theorem dX6_isGreater_0 : decode cX6_isGreater 0 = .ok (.aload_n 0, 1) := by decide +kernel
theorem dX6_isGreater_1 : decode cX6_isGreater 1 = .ok (.getfield 18, 3) := by decide +kernel
theorem dX6_isGreater_4 : decode cX6_isGreater 4 = .ok (.iload_n 1, 1) := by decide +kernel
theorem dX6_isGreater_5 : decode cX6_isGreater 5 = .ok (.iaload, 1) := by decide +kernel
theorem dX6_isGreater_6 : decode cX6_isGreater 6 = .ok (.aload_n 0, 1) := by decide +kernel
theorem dX6_isGreater_7 : decode cX6_isGreater 7 = .ok (.getfield 18, 3) := by decide +kernel
theorem dX6_isGreater_10 : decode cX6_isGreater 10 = .ok (.iload_n 2, 1) := by decide +kernel
theorem dX6_isGreater_11 : decode cX6_isGreater 11 = .ok (.iaload, 1) := by decide +kernel
theorem dX6_isGreater_12 : decode cX6_isGreater 12 = .ok (.if_icmp .eq 24, 3) := by decide +kernel
theorem dX6_isGreater_15 : decode cX6_isGreater 15 = .ok (.aload_n 0, 1) := by decide +kernel
theorem dX6_isGreater_16 : decode cX6_isGreater 16 = .ok (.getfield 18, 3) := by decide +kernel
theorem dX6_isGreater_19 : decode cX6_isGreater 19 = .ok (.iload_n 1, 1) := by decide +kernel
theorem dX6_isGreater_20 : decode cX6_isGreater 20 = .ok (.iaload, 1) := by decide +kernel
theorem dX6_isGreater_21 : decode cX6_isGreater 21 = .ok (.aload_n 0, 1) := by decide +kernel
theorem dX6_isGreater_22 : decode cX6_isGreater 22 = .ok (.getfield 18, 3) := by decide +kernel
theorem dX6_isGreater_25 : decode cX6_isGreater 25 = .ok (.iload_n 2, 1) := by decide +kernel
theorem dX6_isGreater_26 : decode cX6_isGreater 26 = .ok (.iaload, 1) := by decide +kernel
theorem dX6_isGreater_27 : decode cX6_isGreater 27 = .ok (.if_icmp .le 7, 3) := by decide +kernel
theorem dX6_isGreater_30 : decode cX6_isGreater 30 = .ok (.iconst 1, 1) := by decide +kernel
theorem dX6_isGreater_31 : decode cX6_isGreater 31 = .ok (.goto 4, 3) := by decide +kernel
theorem dX6_isGreater_34 : decode cX6_isGreater 34 = .ok (.iconst 0, 1) := by decide +kernel
theorem dX6_isGreater_35 : decode cX6_isGreater 35 = .ok (.ireturn, 1) := by decide +kernel
theorem dX6_isGreater_36 : decode cX6_isGreater 36 = .ok (.aload_n 0, 1) := by decide +kernel
theorem dX6_isGreater_37 : decode cX6_isGreater 37 = .ok (.getfield 21, 3) := by decide +kernel
theorem dX6_isGreater_40 : decode cX6_isGreater 40 = .ok (.iload_n 1, 1) := by decide +kernel
theorem dX6_isGreater_41 : decode cX6_isGreater 41 = .ok (.iaload, 1) := by decide +kernel
theorem dX6_isGreater_42 : decode cX6_isGreater 42 = .ok (.aload_n 0, 1) := by decide +kernel
theorem dX6_isGreater_43 : decode cX6_isGreater 43 = .ok (.getfield 21, 3) := by decide +kernel
theorem dX6_isGreater_46 : decode cX6_isGreater 46 = .ok (.iload_n 2, 1) := by decide +kernel
theorem dX6_isGreater_47 : decode cX6_isGreater 47 = .ok (.iaload, 1) := by decide +kernel
theorem dX6_isGreater_48 : decode cX6_isGreater 48 = .ok (.if_icmp .le 7, 3) := by decide +kernel
theorem dX6_isGreater_51 : decode cX6_isGreater 51 = .ok (.iconst 1, 1) := by decide +kernel
theorem dX6_isGreater_52 : decode cX6_isGreater 52 = .ok (.goto 4, 3) := by decide +kernel
theorem dX6_isGreater_55 : decode cX6_isGreater 55 = .ok (.iconst 0, 1) := by decide +kernel
theorem dX6_isGreater_56 : decode cX6_isGreater 56 = .ok (.ireturn, 1) := by decide +kernel
theorem dX6_mergedSize_0 : decode cX6_mergedSize 0 = .ok (.iload_n 0, 1) := by decide +kernel
theorem dX6_mergedSize_1 : decode cX6_mergedSize 1 = .ok (.iload_n 0, 1) := by decide +kernel
theorem dX6_mergedSize_2 : decode cX6_mergedSize 2 = .ok (.imul, 1) := by decide +kernel
theorem dX6_mergedSize_3 : decode cX6_mergedSize 3 = .ok (.iload_n 1, 1) := by decide +kernel
theorem dX6_mergedSize_4 : decode cX6_mergedSize 4 = .ok (.iload_n 1, 1) := by decide +kernel
theorem dX6_mergedSize_5 : decode cX6_mergedSize 5 = .ok (.imul, 1) := by decide +kernel
theorem dX6_mergedSize_6 : decode cX6_mergedSize 6 = .ok (.iadd, 1) := by decide +kernel
theorem dX6_mergedSize_7 : decode cX6_mergedSize 7 = .ok (.istore_n 2, 1) := by decide +kernel
theorem dX6_mergedSize_8 : decode cX6_mergedSize 8 = .ok (.iload_n 0, 1) := by decide +kernel
theorem dX6_mergedSize_9 : decode cX6_mergedSize 9 = .ok (.istore_n 3, 1) := by decide +kernel
theorem dX6_mergedSize_10 : decode cX6_mergedSize 10 = .ok (.iload_n 3, 1) := by decide +kernel
theorem dX6_mergedSize_11 : decode cX6_mergedSize 11 = .ok (.sipush 400, 3) := by decide +kernel
theorem dX6_mergedSize_14 : decode cX6_mergedSize 14 = .ok (.if_icmp .ge 20, 3) := by decide +kernel
theorem dX6_mergedSize_17 : decode cX6_mergedSize 17 = .ok (.iload_n 3, 1) := by decide +kernel
theorem dX6_mergedSize_18 : decode cX6_mergedSize 18 = .ok (.iconst 1, 1) := by decide +kernel
theorem dX6_mergedSize_19 : decode cX6_mergedSize 19 = .ok (.iadd, 1) := by decide +kernel
theorem dX6_mergedSize_20 : decode cX6_mergedSize 20 = .ok (.iload_n 3, 1) := by decide +kernel
theorem dX6_mergedSize_21 : decode cX6_mergedSize 21 = .ok (.iconst 1, 1) := by decide +kernel
theorem dX6_mergedSize_22 : decode cX6_mergedSize 22 = .ok (.iadd, 1) := by decide +kernel
theorem dX6_mergedSize_23 : decode cX6_mergedSize 23 = .ok (.imul, 1) := by decide +kernel
theorem dX6_mergedSize_24 : decode cX6_mergedSize 24 = .ok (.iload_n 2, 1) := by decide +kernel
theorem dX6_mergedSize_25 : decode cX6_mergedSize 25 = .ok (.if_icmp .gt 9, 3) := by decide +kernel
theorem dX6_mergedSize_28 : decode cX6_mergedSize 28 = .ok (.iinc 3 1, 3) := by decide +kernel
theorem dX6_mergedSize_31 : decode cX6_mergedSize 31 = .ok (.goto (-21), 3) := by decide +kernel
theorem dX6_mergedSize_34 : decode cX6_mergedSize 34 = .ok (.iload_n 3, 1) := by decide +kernel
theorem dX6_mergedSize_35 : decode cX6_mergedSize 35 = .ok (.ireturn, 1) := by decide +kernel
theorem dX6_tear_0 : decode cX6_tear 0 = .ok (.iconst 0, 1) := by decide +kernel
theorem dX6_tear_1 : decode cX6_tear 1 = .ok (.istore_n 3, 1) := by decide +kernel
theorem dX6_tear_2 : decode cX6_tear 2 = .ok (.iload_n 3, 1) := by decide +kernel
theorem dX6_tear_3 : decode cX6_tear 3 = .ok (.aload_n 0, 1) := by decide +kernel
theorem dX6_tear_4 : decode cX6_tear 4 = .ok (.getfield 35, 3) := by decide +kernel
theorem dX6_tear_7 : decode cX6_tear 7 = .ok (.if_icmp .ge 86, 3) := by decide +kernel
theorem dX6_tear_10 : decode cX6_tear 10 = .ok (.iload_n 3, 1) := by decide +kernel
theorem dX6_tear_11 : decode cX6_tear 11 = .ok (.bipush 12, 2) := by decide +kernel
theorem dX6_tear_13 : decode cX6_tear 13 = .ok (.if_icmp .ge 80, 3) := by decide +kernel
theorem dX6_tear_16 : decode cX6_tear 16 = .ok (.aload_n 0, 1) := by decide +kernel
theorem dX6_tear_17 : decode cX6_tear 17 = .ok (.getfield 28, 3) := by decide +kernel
theorem dX6_tear_20 : decode cX6_tear 20 = .ok (.iload_n 3, 1) := by decide +kernel
theorem dX6_tear_21 : decode cX6_tear 21 = .ok (.baload, 1) := by decide +kernel
theorem dX6_tear_22 : decode cX6_tear 22 = .ok (.ifCond .eq 65, 3) := by decide +kernel
theorem dX6_tear_25 : decode cX6_tear 25 = .ok (.aload_n 1, 1) := by decide +kernel
theorem dX6_tear_26 : decode cX6_tear 26 = .ok (.aload_n 0, 1) := by decide +kernel
theorem dX6_tear_27 : decode cX6_tear 27 = .ok (.getfield 9, 3) := by decide +kernel
theorem dX6_tear_30 : decode cX6_tear 30 = .ok (.iload_n 3, 1) := by decide +kernel
theorem dX6_tear_31 : decode cX6_tear 31 = .ok (.iaload, 1) := by decide +kernel
theorem dX6_tear_32 : decode cX6_tear 32 = .ok (.invokevirtual 89, 3) := by decide +kernel
theorem dX6_tear_35 : decode cX6_tear 35 = .ok (.bipush 100, 2) := by decide +kernel
theorem dX6_tear_37 : decode cX6_tear 37 = .ok (.if_icmp .le 50, 3) := by decide +kernel
theorem dX6_tear_40 : decode cX6_tear 40 = .ok (.aload_n 0, 1) := by decide +kernel
theorem dX6_tear_41 : decode cX6_tear 41 = .ok (.getfield 18, 3) := by decide +kernel
theorem dX6_tear_44 : decode cX6_tear 44 = .ok (.iload_n 3, 1) := by decide +kernel
theorem dX6_tear_45 : decode cX6_tear 45 = .ok (.dup2, 1) := by decide +kernel
theorem dX6_tear_46 : decode cX6_tear 46 = .ok (.iaload, 1) := by decide +kernel
theorem dX6_tear_47 : decode cX6_tear 47 = .ok (.iconst 1, 1) := by decide +kernel
theorem dX6_tear_48 : decode cX6_tear 48 = .ok (.aload_n 0, 1) := by decide +kernel
theorem dX6_tear_49 : decode cX6_tear 49 = .ok (.getfield 18, 3) := by decide +kernel
theorem dX6_tear_52 : decode cX6_tear 52 = .ok (.iload_n 3, 1) := by decide +kernel
theorem dX6_tear_53 : decode cX6_tear 53 = .ok (.iaload, 1) := by decide +kernel
theorem dX6_tear_54 : decode cX6_tear 54 = .ok (.bipush 10, 2) := by decide +kernel
theorem dX6_tear_56 : decode cX6_tear 56 = .ok (.idiv, 1) := by decide +kernel
theorem dX6_tear_57 : decode cX6_tear 57 = .ok (.invokestatic 92, 3) := by decide +kernel
theorem dX6_tear_60 : decode cX6_tear 60 = .ok (.isub, 1) := by decide +kernel
theorem dX6_tear_61 : decode cX6_tear 61 = .ok (.iastore, 1) := by decide +kernel
theorem dX6_tear_62 : decode cX6_tear 62 = .ok (.aload_n 0, 1) := by decide +kernel
theorem dX6_tear_63 : decode cX6_tear 63 = .ok (.getfield 18, 3) := by decide +kernel
theorem dX6_tear_66 : decode cX6_tear 66 = .ok (.iload_n 3, 1) := by decide +kernel
theorem dX6_tear_67 : decode cX6_tear 67 = .ok (.iaload, 1) := by decide +kernel
theorem dX6_tear_68 : decode cX6_tear 68 = .ok (.bipush 10, 2) := by decide +kernel
theorem dX6_tear_70 : decode cX6_tear 70 = .ok (.if_icmp .ge 17, 3) := by decide +kernel
theorem dX6_tear_73 : decode cX6_tear 73 = .ok (.aload_n 0, 1) := by decide +kernel
theorem dX6_tear_74 : decode cX6_tear 74 = .ok (.getfield 28, 3) := by decide +kernel
theorem dX6_tear_77 : decode cX6_tear 77 = .ok (.iload_n 3, 1) := by decide +kernel
theorem dX6_tear_78 : decode cX6_tear 78 = .ok (.iconst 0, 1) := by decide +kernel
theorem dX6_tear_79 : decode cX6_tear 79 = .ok (.bastore, 1) := by decide +kernel
theorem dX6_tear_80 : decode cX6_tear 80 = .ok (.aload_n 2, 1) := by decide +kernel
theorem dX6_tear_81 : decode cX6_tear 81 = .ok (.bipush 100, 2) := by decide +kernel
theorem dX6_tear_83 : decode cX6_tear 83 = .ok (.iload_n 3, 1) := by decide +kernel
theorem dX6_tear_84 : decode cX6_tear 84 = .ok (.invokevirtual 83, 3) := by decide +kernel
theorem dX6_tear_87 : decode cX6_tear 87 = .ok (.iinc 3 1, 3) := by decide +kernel
theorem dX6_tear_90 : decode cX6_tear 90 = .ok (.goto (-88), 3) := by decide +kernel
theorem dX6_tear_93 : decode cX6_tear 93 = .ok (.return_, 1) := by decide +kernel
theorem dX6_split_0 : decode cX6_split 0 = .ok (.iconst 0, 1) := by decide +kernel
theorem dX6_split_1 : decode cX6_split 1 = .ok (.istore_n 2, 1) := by decide +kernel
theorem dX6_split_2 : decode cX6_split 2 = .ok (.iload_n 2, 1) := by decide +kernel
theorem dX6_split_3 : decode cX6_split 3 = .ok (.aload_n 0, 1) := by decide +kernel
theorem dX6_split_4 : decode cX6_split 4 = .ok (.getfield 35, 3) := by decide +kernel
theorem dX6_split_7 : decode cX6_split 7 = .ok (.if_icmp .ge 103, 3) := by decide +kernel
theorem dX6_split_10 : decode cX6_split 10 = .ok (.iload_n 2, 1) := by decide +kernel
theorem dX6_split_11 : decode cX6_split 11 = .ok (.bipush 12, 2) := by decide +kernel
theorem dX6_split_13 : decode cX6_split 13 = .ok (.if_icmp .ge 97, 3) := by decide +kernel
theorem dX6_split_16 : decode cX6_split 16 = .ok (.aload_n 0, 1) := by decide +kernel
theorem dX6_split_17 : decode cX6_split 17 = .ok (.getfield 18, 3) := by decide +kernel
theorem dX6_split_20 : decode cX6_split 20 = .ok (.iload_n 2, 1) := by decide +kernel
theorem dX6_split_21 : decode cX6_split 21 = .ok (.iaload, 1) := by decide +kernel
theorem dX6_split_22 : decode cX6_split 22 = .ok (.istore_n 3, 1) := by decide +kernel
theorem dX6_split_23 : decode cX6_split 23 = .ok (.aload_n 0, 1) := by decide +kernel
theorem dX6_split_24 : decode cX6_split 24 = .ok (.getfield 28, 3) := by decide +kernel
theorem dX6_split_27 : decode cX6_split 27 = .ok (.iload_n 2, 1) := by decide +kernel
theorem dX6_split_28 : decode cX6_split 28 = .ok (.baload, 1) := by decide +kernel
theorem dX6_split_29 : decode cX6_split 29 = .ok (.ifCond .eq 75, 3) := by decide +kernel
theorem dX6_split_32 : decode cX6_split 32 = .ok (.iload_n 3, 1) := by decide +kernel
theorem dX6_split_33 : decode cX6_split 33 = .ok (.sipush 300, 3) := by decide +kernel
theorem dX6_split_36 : decode cX6_split 36 = .ok (.if_icmp .le 68, 3) := by decide +kernel
theorem dX6_split_39 : decode cX6_split 39 = .ok (.aload_n 0, 1) := by decide +kernel
theorem dX6_split_40 : decode cX6_split 40 = .ok (.getfield 35, 3) := by decide +kernel
theorem dX6_split_43 : decode cX6_split 43 = .ok (.bipush 12, 2) := by decide +kernel
theorem dX6_split_45 : decode cX6_split 45 = .ok (.if_icmp .ge 59, 3) := by decide +kernel
theorem dX6_split_48 : decode cX6_split 48 = .ok (.iload_n 3, 1) := by decide +kernel
theorem dX6_split_49 : decode cX6_split 49 = .ok (.iconst 3, 1) := by decide +kernel
theorem dX6_split_50 : decode cX6_split 50 = .ok (.idiv, 1) := by decide +kernel
theorem dX6_split_51 : decode cX6_split 51 = .ok (.istore 4, 2) := by decide +kernel
theorem dX6_split_53 : decode cX6_split 53 = .ok (.aload_n 0, 1) := by decide +kernel
theorem dX6_split_54 : decode cX6_split 54 = .ok (.getfield 15, 3) := by decide +kernel
theorem dX6_split_57 : decode cX6_split 57 = .ok (.iload_n 2, 1) := by decide +kernel
theorem dX6_split_58 : decode cX6_split 58 = .ok (.iaload, 1) := by decide +kernel
theorem dX6_split_59 : decode cX6_split 59 = .ok (.iload_n 3, 1) := by decide +kernel
theorem dX6_split_60 : decode cX6_split 60 = .ok (.iadd, 1) := by decide +kernel
theorem dX6_split_61 : decode cX6_split 61 = .ok (.sipush 3600, 3) := by decide +kernel
theorem dX6_split_64 : decode cX6_split 64 = .ok (.invokestatic 60, 3) := by decide +kernel
theorem dX6_split_67 : decode cX6_split 67 = .ok (.istore 5, 2) := by decide +kernel
theorem dX6_split_69 : decode cX6_split 69 = .ok (.aload_n 0, 1) := by decide +kernel
theorem dX6_split_70 : decode cX6_split 70 = .ok (.aload_n 0, 1) := by decide +kernel
theorem dX6_split_71 : decode cX6_split 71 = .ok (.getfield 9, 3) := by decide +kernel
theorem dX6_split_74 : decode cX6_split 74 = .ok (.iload_n 2, 1) := by decide +kernel
theorem dX6_split_75 : decode cX6_split 75 = .ok (.iaload, 1) := by decide +kernel
theorem dX6_split_76 : decode cX6_split 76 = .ok (.iload 5, 2) := by decide +kernel
theorem dX6_split_78 : decode cX6_split 78 = .ok (.iload 4, 2) := by decide +kernel
theorem dX6_split_80 : decode cX6_split 80 = .ok (.invokevirtual 95, 3) := by decide +kernel
theorem dX6_split_83 : decode cX6_split 83 = .ok (.istore 6, 2) := by decide +kernel
theorem dX6_split_85 : decode cX6_split 85 = .ok (.aload_n 0, 1) := by decide +kernel
theorem dX6_split_86 : decode cX6_split 86 = .ok (.getfield 18, 3) := by decide +kernel
theorem dX6_split_89 : decode cX6_split 89 = .ok (.iload_n 2, 1) := by decide +kernel
theorem dX6_split_90 : decode cX6_split 90 = .ok (.dup2, 1) := by decide +kernel
theorem dX6_split_91 : decode cX6_split 91 = .ok (.iaload, 1) := by decide +kernel
theorem dX6_split_92 : decode cX6_split 92 = .ok (.iload 4, 2) := by decide +kernel
theorem dX6_split_94 : decode cX6_split 94 = .ok (.isub, 1) := by decide +kernel
theorem dX6_split_95 : decode cX6_split 95 = .ok (.iastore, 1) := by decide +kernel
theorem dX6_split_96 : decode cX6_split 96 = .ok (.aload_n 1, 1) := by decide +kernel
theorem dX6_split_97 : decode cX6_split 97 = .ok (.bipush 115, 2) := by decide +kernel
theorem dX6_split_99 : decode cX6_split 99 = .ok (.iload 6, 2) := by decide +kernel
theorem dX6_split_101 : decode cX6_split 101 = .ok (.invokevirtual 83, 3) := by decide +kernel
theorem dX6_split_104 : decode cX6_split 104 = .ok (.iinc 2 1, 3) := by decide +kernel
theorem dX6_split_107 : decode cX6_split 107 = .ok (.goto (-105), 3) := by decide +kernel
theorem dX6_split_110 : decode cX6_split 110 = .ok (.return_, 1) := by decide +kernel
theorem dX6_areNamesSingle_0 : decode cX6_areNamesSingle 0 = .ok (.iconst 0, 1) := by decide +kernel
theorem dX6_areNamesSingle_1 : decode cX6_areNamesSingle 1 = .ok (.istore_n 1, 1) := by decide +kernel
theorem dX6_areNamesSingle_2 : decode cX6_areNamesSingle 2 = .ok (.iload_n 1, 1) := by decide +kernel
theorem dX6_areNamesSingle_3 : decode cX6_areNamesSingle 3 = .ok (.aload_n 0, 1) := by decide +kernel
theorem dX6_areNamesSingle_4 : decode cX6_areNamesSingle 4 = .ok (.getfield 35, 3) := by decide +kernel
theorem dX6_areNamesSingle_7 : decode cX6_areNamesSingle 7 = .ok (.if_icmp .ge 61, 3) := by decide +kernel
theorem dX6_areNamesSingle_10 : decode cX6_areNamesSingle 10 = .ok (.iload_n 1, 1) := by decide +kernel
theorem dX6_areNamesSingle_11 : decode cX6_areNamesSingle 11 = .ok (.bipush 12, 2) := by decide +kernel
theorem dX6_areNamesSingle_13 : decode cX6_areNamesSingle 13 = .ok (.if_icmp .ge 55, 3) := by decide +kernel
theorem dX6_areNamesSingle_16 : decode cX6_areNamesSingle 16 = .ok (.aload_n 0, 1) := by decide +kernel
theorem dX6_areNamesSingle_17 : decode cX6_areNamesSingle 17 = .ok (.getfield 28, 3) := by decide +kernel
theorem dX6_areNamesSingle_20 : decode cX6_areNamesSingle 20 = .ok (.iload_n 1, 1) := by decide +kernel
theorem dX6_areNamesSingle_21 : decode cX6_areNamesSingle 21 = .ok (.baload, 1) := by decide +kernel
theorem dX6_areNamesSingle_22 : decode cX6_areNamesSingle 22 = .ok (.ifCond .eq 18, 3) := by decide +kernel
theorem dX6_areNamesSingle_25 : decode cX6_areNamesSingle 25 = .ok (.aload_n 0, 1) := by decide +kernel
theorem dX6_areNamesSingle_26 : decode cX6_areNamesSingle 26 = .ok (.getfield 24, 3) := by decide +kernel
theorem dX6_areNamesSingle_29 : decode cX6_areNamesSingle 29 = .ok (.iload_n 1, 1) := by decide +kernel
theorem dX6_areNamesSingle_30 : decode cX6_areNamesSingle 30 = .ok (.caload, 1) := by decide +kernel
theorem dX6_areNamesSingle_31 : decode cX6_areNamesSingle 31 = .ok (.bipush 45, 2) := by decide +kernel
theorem dX6_areNamesSingle_33 : decode cX6_areNamesSingle 33 = .ok (.if_icmp .eq 7, 3) := by decide +kernel
theorem dX6_areNamesSingle_36 : decode cX6_areNamesSingle 36 = .ok (.iconst 1, 1) := by decide +kernel
theorem dX6_areNamesSingle_37 : decode cX6_areNamesSingle 37 = .ok (.goto 4, 3) := by decide +kernel
theorem dX6_areNamesSingle_40 : decode cX6_areNamesSingle 40 = .ok (.iconst 0, 1) := by decide +kernel
theorem dX6_areNamesSingle_41 : decode cX6_areNamesSingle 41 = .ok (.istore_n 2, 1) := by decide +kernel
theorem dX6_areNamesSingle_42 : decode cX6_areNamesSingle 42 = .ok (.iload_n 2, 1) := by decide +kernel
theorem dX6_areNamesSingle_43 : decode cX6_areNamesSingle 43 = .ok (.ifCond .eq 19, 3) := by decide +kernel
theorem dX6_areNamesSingle_46 : decode cX6_areNamesSingle 46 = .ok (.aload_n 0, 1) := by decide +kernel
theorem dX6_areNamesSingle_47 : decode cX6_areNamesSingle 47 = .ok (.aload_n 0, 1) := by decide +kernel
theorem dX6_areNamesSingle_48 : decode cX6_areNamesSingle 48 = .ok (.getfield 24, 3) := by decide +kernel
theorem dX6_areNamesSingle_51 : decode cX6_areNamesSingle 51 = .ok (.iload_n 1, 1) := by decide +kernel
theorem dX6_areNamesSingle_52 : decode cX6_areNamesSingle 52 = .ok (.caload, 1) := by decide +kernel
theorem dX6_areNamesSingle_53 : decode cX6_areNamesSingle 53 = .ok (.invokevirtual 99, 3) := by decide +kernel
theorem dX6_areNamesSingle_56 : decode cX6_areNamesSingle 56 = .ok (.iload_n 1, 1) := by decide +kernel
theorem dX6_areNamesSingle_57 : decode cX6_areNamesSingle 57 = .ok (.if_icmp .eq 5, 3) := by decide +kernel
theorem dX6_areNamesSingle_60 : decode cX6_areNamesSingle 60 = .ok (.iconst 0, 1) := by decide +kernel
theorem dX6_areNamesSingle_61 : decode cX6_areNamesSingle 61 = .ok (.ireturn, 1) := by decide +kernel
theorem dX6_areNamesSingle_62 : decode cX6_areNamesSingle 62 = .ok (.iinc 1 1, 3) := by decide +kernel
theorem dX6_areNamesSingle_65 : decode cX6_areNamesSingle 65 = .ok (.goto (-63), 3) := by decide +kernel
theorem dX6_areNamesSingle_68 : decode cX6_areNamesSingle 68 = .ok (.iconst 1, 1) := by decide +kernel
theorem dX6_areNamesSingle_69 : decode cX6_areNamesSingle 69 = .ok (.ireturn, 1) := by decide +kernel
theorem dX6_areSizesRight_0 : decode cX6_areSizesRight 0 = .ok (.iconst 0, 1) := by decide +kernel
theorem dX6_areSizesRight_1 : decode cX6_areSizesRight 1 = .ok (.istore_n 1, 1) := by decide +kernel
theorem dX6_areSizesRight_2 : decode cX6_areSizesRight 2 = .ok (.iload_n 1, 1) := by decide +kernel
theorem dX6_areSizesRight_3 : decode cX6_areSizesRight 3 = .ok (.aload_n 0, 1) := by decide +kernel
theorem dX6_areSizesRight_4 : decode cX6_areSizesRight 4 = .ok (.getfield 35, 3) := by decide +kernel
theorem dX6_areSizesRight_7 : decode cX6_areSizesRight 7 = .ok (.if_icmp .ge 59, 3) := by decide +kernel
theorem dX6_areSizesRight_10 : decode cX6_areSizesRight 10 = .ok (.iload_n 1, 1) := by decide +kernel
theorem dX6_areSizesRight_11 : decode cX6_areSizesRight 11 = .ok (.bipush 12, 2) := by decide +kernel
theorem dX6_areSizesRight_13 : decode cX6_areSizesRight 13 = .ok (.if_icmp .ge 53, 3) := by decide +kernel
theorem dX6_areSizesRight_16 : decode cX6_areSizesRight 16 = .ok (.aload_n 0, 1) := by decide +kernel
theorem dX6_areSizesRight_17 : decode cX6_areSizesRight 17 = .ok (.getfield 18, 3) := by decide +kernel
theorem dX6_areSizesRight_20 : decode cX6_areSizesRight 20 = .ok (.iload_n 1, 1) := by decide +kernel
theorem dX6_areSizesRight_21 : decode cX6_areSizesRight 21 = .ok (.iaload, 1) := by decide +kernel
theorem dX6_areSizesRight_22 : decode cX6_areSizesRight 22 = .ok (.bipush 10, 2) := by decide +kernel
theorem dX6_areSizesRight_24 : decode cX6_areSizesRight 24 = .ok (.if_icmp .lt 19, 3) := by decide +kernel
theorem dX6_areSizesRight_27 : decode cX6_areSizesRight 27 = .ok (.aload_n 0, 1) := by decide +kernel
theorem dX6_areSizesRight_28 : decode cX6_areSizesRight 28 = .ok (.getfield 18, 3) := by decide +kernel
theorem dX6_areSizesRight_31 : decode cX6_areSizesRight 31 = .ok (.iload_n 1, 1) := by decide +kernel
theorem dX6_areSizesRight_32 : decode cX6_areSizesRight 32 = .ok (.iaload, 1) := by decide +kernel
theorem dX6_areSizesRight_33 : decode cX6_areSizesRight 33 = .ok (.sipush 400, 3) := by decide +kernel
theorem dX6_areSizesRight_36 : decode cX6_areSizesRight 36 = .ok (.if_icmp .gt 7, 3) := by decide +kernel
theorem dX6_areSizesRight_39 : decode cX6_areSizesRight 39 = .ok (.iconst 1, 1) := by decide +kernel
theorem dX6_areSizesRight_40 : decode cX6_areSizesRight 40 = .ok (.goto 4, 3) := by decide +kernel
theorem dX6_areSizesRight_43 : decode cX6_areSizesRight 43 = .ok (.iconst 0, 1) := by decide +kernel
theorem dX6_areSizesRight_44 : decode cX6_areSizesRight 44 = .ok (.istore_n 2, 1) := by decide +kernel
theorem dX6_areSizesRight_45 : decode cX6_areSizesRight 45 = .ok (.aload_n 0, 1) := by decide +kernel
theorem dX6_areSizesRight_46 : decode cX6_areSizesRight 46 = .ok (.getfield 28, 3) := by decide +kernel
theorem dX6_areSizesRight_49 : decode cX6_areSizesRight 49 = .ok (.iload_n 1, 1) := by decide +kernel
theorem dX6_areSizesRight_50 : decode cX6_areSizesRight 50 = .ok (.baload, 1) := by decide +kernel
theorem dX6_areSizesRight_51 : decode cX6_areSizesRight 51 = .ok (.ifCond .eq 9, 3) := by decide +kernel
theorem dX6_areSizesRight_54 : decode cX6_areSizesRight 54 = .ok (.iload_n 2, 1) := by decide +kernel
theorem dX6_areSizesRight_55 : decode cX6_areSizesRight 55 = .ok (.ifCond .ne 5, 3) := by decide +kernel
theorem dX6_areSizesRight_58 : decode cX6_areSizesRight 58 = .ok (.iconst 0, 1) := by decide +kernel
theorem dX6_areSizesRight_59 : decode cX6_areSizesRight 59 = .ok (.ireturn, 1) := by decide +kernel
theorem dX6_areSizesRight_60 : decode cX6_areSizesRight 60 = .ok (.iinc 1 1, 3) := by decide +kernel
theorem dX6_areSizesRight_63 : decode cX6_areSizesRight 63 = .ok (.goto (-61), 3) := by decide +kernel
theorem dX6_areSizesRight_66 : decode cX6_areSizesRight 66 = .ok (.iconst 1, 1) := by decide +kernel
theorem dX6_areSizesRight_67 : decode cX6_areSizesRight 67 = .ok (.ireturn, 1) := by decide +kernel
theorem dX6_addTo_0 : decode cX6_addTo 0 = .ok (.lload_n 1, 1) := by decide +kernel
theorem dX6_addTo_1 : decode cX6_addTo 1 = .ok (.lstore_n 3, 1) := by decide +kernel
theorem dX6_addTo_2 : decode cX6_addTo 2 = .ok (.iconst 0, 1) := by decide +kernel
theorem dX6_addTo_3 : decode cX6_addTo 3 = .ok (.istore 5, 2) := by decide +kernel
theorem dX6_addTo_5 : decode cX6_addTo 5 = .ok (.iload 5, 2) := by decide +kernel
theorem dX6_addTo_7 : decode cX6_addTo 7 = .ok (.aload_n 0, 1) := by decide +kernel
theorem dX6_addTo_8 : decode cX6_addTo 8 = .ok (.getfield 35, 3) := by decide +kernel
theorem dX6_addTo_11 : decode cX6_addTo 11 = .ok (.if_icmp .ge 60, 3) := by decide +kernel
theorem dX6_addTo_14 : decode cX6_addTo 14 = .ok (.iload 5, 2) := by decide +kernel
theorem dX6_addTo_16 : decode cX6_addTo 16 = .ok (.bipush 12, 2) := by decide +kernel
theorem dX6_addTo_18 : decode cX6_addTo 18 = .ok (.if_icmp .ge 53, 3) := by decide +kernel
theorem dX6_addTo_21 : decode cX6_addTo 21 = .ok (.ldc2_w 103, 3) := by decide +kernel
theorem dX6_addTo_24 : decode cX6_addTo 24 = .ok (.lload_n 3, 1) := by decide +kernel
theorem dX6_addTo_25 : decode cX6_addTo 25 = .ok (.lmul, 1) := by decide +kernel
theorem dX6_addTo_26 : decode cX6_addTo 26 = .ok (.aload_n 0, 1) := by decide +kernel
theorem dX6_addTo_27 : decode cX6_addTo 27 = .ok (.getfield 28, 3) := by decide +kernel
theorem dX6_addTo_30 : decode cX6_addTo 30 = .ok (.iload 5, 2) := by decide +kernel
theorem dX6_addTo_32 : decode cX6_addTo 32 = .ok (.baload, 1) := by decide +kernel
theorem dX6_addTo_33 : decode cX6_addTo 33 = .ok (.ifCond .eq 13, 3) := by decide +kernel
theorem dX6_addTo_36 : decode cX6_addTo 36 = .ok (.aload_n 0, 1) := by decide +kernel
theorem dX6_addTo_37 : decode cX6_addTo 37 = .ok (.getfield 18, 3) := by decide +kernel
theorem dX6_addTo_40 : decode cX6_addTo 40 = .ok (.iload 5, 2) := by decide +kernel
theorem dX6_addTo_42 : decode cX6_addTo 42 = .ok (.iaload, 1) := by decide +kernel
theorem dX6_addTo_43 : decode cX6_addTo 43 = .ok (.goto 4, 3) := by decide +kernel
theorem dX6_addTo_46 : decode cX6_addTo 46 = .ok (.iconst 0, 1) := by decide +kernel
theorem dX6_addTo_47 : decode cX6_addTo 47 = .ok (.i2l, 1) := by decide +kernel
theorem dX6_addTo_48 : decode cX6_addTo 48 = .ok (.ladd, 1) := by decide +kernel
theorem dX6_addTo_49 : decode cX6_addTo 49 = .ok (.lstore_n 3, 1) := by decide +kernel
theorem dX6_addTo_50 : decode cX6_addTo 50 = .ok (.ldc2_w 103, 3) := by decide +kernel
theorem dX6_addTo_53 : decode cX6_addTo 53 = .ok (.lload_n 3, 1) := by decide +kernel
theorem dX6_addTo_54 : decode cX6_addTo 54 = .ok (.lmul, 1) := by decide +kernel
theorem dX6_addTo_55 : decode cX6_addTo 55 = .ok (.aload_n 0, 1) := by decide +kernel
theorem dX6_addTo_56 : decode cX6_addTo 56 = .ok (.getfield 15, 3) := by decide +kernel
theorem dX6_addTo_59 : decode cX6_addTo 59 = .ok (.iload 5, 2) := by decide +kernel
theorem dX6_addTo_61 : decode cX6_addTo 61 = .ok (.iaload, 1) := by decide +kernel
theorem dX6_addTo_62 : decode cX6_addTo 62 = .ok (.i2l, 1) := by decide +kernel
theorem dX6_addTo_63 : decode cX6_addTo 63 = .ok (.ladd, 1) := by decide +kernel
theorem dX6_addTo_64 : decode cX6_addTo 64 = .ok (.lstore_n 3, 1) := by decide +kernel
theorem dX6_addTo_65 : decode cX6_addTo 65 = .ok (.iinc 5 1, 3) := by decide +kernel
theorem dX6_addTo_68 : decode cX6_addTo 68 = .ok (.goto (-63), 3) := by decide +kernel
theorem dX6_addTo_71 : decode cX6_addTo 71 = .ok (.lload_n 3, 1) := by decide +kernel
theorem dX6_addTo_72 : decode cX6_addTo 72 = .ok (.lreturn, 1) := by decide +kernel
theorem dX6_copyFrom_0 : decode cX6_copyFrom 0 = .ok (.aload_n 0, 1) := by decide +kernel
theorem dX6_copyFrom_1 : decode cX6_copyFrom 1 = .ok (.aload_n 1, 1) := by decide +kernel
theorem dX6_copyFrom_2 : decode cX6_copyFrom 2 = .ok (.getfield 35, 3) := by decide +kernel
theorem dX6_copyFrom_5 : decode cX6_copyFrom 5 = .ok (.putfield 35, 3) := by decide +kernel
theorem dX6_copyFrom_8 : decode cX6_copyFrom 8 = .ok (.iconst 0, 1) := by decide +kernel
theorem dX6_copyFrom_9 : decode cX6_copyFrom 9 = .ok (.istore_n 2, 1) := by decide +kernel
theorem dX6_copyFrom_10 : decode cX6_copyFrom 10 = .ok (.iload_n 2, 1) := by decide +kernel
theorem dX6_copyFrom_11 : decode cX6_copyFrom 11 = .ok (.bipush 12, 2) := by decide +kernel
theorem dX6_copyFrom_13 : decode cX6_copyFrom 13 = .ok (.if_icmp .ge 93, 3) := by decide +kernel
theorem dX6_copyFrom_16 : decode cX6_copyFrom 16 = .ok (.aload_n 0, 1) := by decide +kernel
theorem dX6_copyFrom_17 : decode cX6_copyFrom 17 = .ok (.getfield 9, 3) := by decide +kernel
theorem dX6_copyFrom_20 : decode cX6_copyFrom 20 = .ok (.iload_n 2, 1) := by decide +kernel
theorem dX6_copyFrom_21 : decode cX6_copyFrom 21 = .ok (.aload_n 1, 1) := by decide +kernel
theorem dX6_copyFrom_22 : decode cX6_copyFrom 22 = .ok (.getfield 9, 3) := by decide +kernel
theorem dX6_copyFrom_25 : decode cX6_copyFrom 25 = .ok (.iload_n 2, 1) := by decide +kernel
theorem dX6_copyFrom_26 : decode cX6_copyFrom 26 = .ok (.iaload, 1) := by decide +kernel
theorem dX6_copyFrom_27 : decode cX6_copyFrom 27 = .ok (.iastore, 1) := by decide +kernel
theorem dX6_copyFrom_28 : decode cX6_copyFrom 28 = .ok (.aload_n 0, 1) := by decide +kernel
theorem dX6_copyFrom_29 : decode cX6_copyFrom 29 = .ok (.getfield 15, 3) := by decide +kernel
theorem dX6_copyFrom_32 : decode cX6_copyFrom 32 = .ok (.iload_n 2, 1) := by decide +kernel
theorem dX6_copyFrom_33 : decode cX6_copyFrom 33 = .ok (.aload_n 1, 1) := by decide +kernel
theorem dX6_copyFrom_34 : decode cX6_copyFrom 34 = .ok (.getfield 15, 3) := by decide +kernel
theorem dX6_copyFrom_37 : decode cX6_copyFrom 37 = .ok (.iload_n 2, 1) := by decide +kernel
theorem dX6_copyFrom_38 : decode cX6_copyFrom 38 = .ok (.iaload, 1) := by decide +kernel
theorem dX6_copyFrom_39 : decode cX6_copyFrom 39 = .ok (.iastore, 1) := by decide +kernel
theorem dX6_copyFrom_40 : decode cX6_copyFrom 40 = .ok (.aload_n 0, 1) := by decide +kernel
theorem dX6_copyFrom_41 : decode cX6_copyFrom 41 = .ok (.getfield 18, 3) := by decide +kernel
theorem dX6_copyFrom_44 : decode cX6_copyFrom 44 = .ok (.iload_n 2, 1) := by decide +kernel
theorem dX6_copyFrom_45 : decode cX6_copyFrom 45 = .ok (.aload_n 1, 1) := by decide +kernel
theorem dX6_copyFrom_46 : decode cX6_copyFrom 46 = .ok (.getfield 18, 3) := by decide +kernel
theorem dX6_copyFrom_49 : decode cX6_copyFrom 49 = .ok (.iload_n 2, 1) := by decide +kernel
theorem dX6_copyFrom_50 : decode cX6_copyFrom 50 = .ok (.iaload, 1) := by decide +kernel
theorem dX6_copyFrom_51 : decode cX6_copyFrom 51 = .ok (.iastore, 1) := by decide +kernel
theorem dX6_copyFrom_52 : decode cX6_copyFrom 52 = .ok (.aload_n 0, 1) := by decide +kernel
theorem dX6_copyFrom_53 : decode cX6_copyFrom 53 = .ok (.getfield 21, 3) := by decide +kernel
theorem dX6_copyFrom_56 : decode cX6_copyFrom 56 = .ok (.iload_n 2, 1) := by decide +kernel
theorem dX6_copyFrom_57 : decode cX6_copyFrom 57 = .ok (.aload_n 1, 1) := by decide +kernel
theorem dX6_copyFrom_58 : decode cX6_copyFrom 58 = .ok (.getfield 21, 3) := by decide +kernel
theorem dX6_copyFrom_61 : decode cX6_copyFrom 61 = .ok (.iload_n 2, 1) := by decide +kernel
theorem dX6_copyFrom_62 : decode cX6_copyFrom 62 = .ok (.iaload, 1) := by decide +kernel
theorem dX6_copyFrom_63 : decode cX6_copyFrom 63 = .ok (.iastore, 1) := by decide +kernel
theorem dX6_copyFrom_64 : decode cX6_copyFrom 64 = .ok (.aload_n 0, 1) := by decide +kernel
theorem dX6_copyFrom_65 : decode cX6_copyFrom 65 = .ok (.getfield 24, 3) := by decide +kernel
theorem dX6_copyFrom_68 : decode cX6_copyFrom 68 = .ok (.iload_n 2, 1) := by decide +kernel
theorem dX6_copyFrom_69 : decode cX6_copyFrom 69 = .ok (.aload_n 1, 1) := by decide +kernel
theorem dX6_copyFrom_70 : decode cX6_copyFrom 70 = .ok (.getfield 24, 3) := by decide +kernel
theorem dX6_copyFrom_73 : decode cX6_copyFrom 73 = .ok (.iload_n 2, 1) := by decide +kernel
theorem dX6_copyFrom_74 : decode cX6_copyFrom 74 = .ok (.caload, 1) := by decide +kernel
theorem dX6_copyFrom_75 : decode cX6_copyFrom 75 = .ok (.castore, 1) := by decide +kernel
theorem dX6_copyFrom_76 : decode cX6_copyFrom 76 = .ok (.aload_n 0, 1) := by decide +kernel
theorem dX6_copyFrom_77 : decode cX6_copyFrom 77 = .ok (.getfield 28, 3) := by decide +kernel
theorem dX6_copyFrom_80 : decode cX6_copyFrom 80 = .ok (.iload_n 2, 1) := by decide +kernel
theorem dX6_copyFrom_81 : decode cX6_copyFrom 81 = .ok (.aload_n 1, 1) := by decide +kernel
theorem dX6_copyFrom_82 : decode cX6_copyFrom 82 = .ok (.getfield 28, 3) := by decide +kernel
theorem dX6_copyFrom_85 : decode cX6_copyFrom 85 = .ok (.iload_n 2, 1) := by decide +kernel
theorem dX6_copyFrom_86 : decode cX6_copyFrom 86 = .ok (.baload, 1) := by decide +kernel
theorem dX6_copyFrom_87 : decode cX6_copyFrom 87 = .ok (.bastore, 1) := by decide +kernel
theorem dX6_copyFrom_88 : decode cX6_copyFrom 88 = .ok (.aload_n 0, 1) := by decide +kernel
theorem dX6_copyFrom_89 : decode cX6_copyFrom 89 = .ok (.getfield 32, 3) := by decide +kernel
theorem dX6_copyFrom_92 : decode cX6_copyFrom 92 = .ok (.iload_n 2, 1) := by decide +kernel
theorem dX6_copyFrom_93 : decode cX6_copyFrom 93 = .ok (.aload_n 1, 1) := by decide +kernel
theorem dX6_copyFrom_94 : decode cX6_copyFrom 94 = .ok (.getfield 32, 3) := by decide +kernel
theorem dX6_copyFrom_97 : decode cX6_copyFrom 97 = .ok (.iload_n 2, 1) := by decide +kernel
theorem dX6_copyFrom_98 : decode cX6_copyFrom 98 = .ok (.iaload, 1) := by decide +kernel
theorem dX6_copyFrom_99 : decode cX6_copyFrom 99 = .ok (.iastore, 1) := by decide +kernel
theorem dX6_copyFrom_100 : decode cX6_copyFrom 100 = .ok (.iinc 2 1, 3) := by decide +kernel
theorem dX6_copyFrom_103 : decode cX6_copyFrom 103 = .ok (.goto (-93), 3) := by decide +kernel
theorem dX6_copyFrom_106 : decode cX6_copyFrom 106 = .ok (.return_, 1) := by decide +kernel
theorem dX7_init_0 : decode cX7_init 0 = .ok (.aload_n 0, 1) := by decide +kernel
theorem dX7_init_1 : decode cX7_init 1 = .ok (.invokespecial 1, 3) := by decide +kernel
theorem dX7_init_4 : decode cX7_init 4 = .ok (.aload_n 0, 1) := by decide +kernel
theorem dX7_init_5 : decode cX7_init 5 = .ok (.new 7, 3) := by decide +kernel
theorem dX7_init_8 : decode cX7_init 8 = .ok (.dup, 1) := by decide +kernel
theorem dX7_init_9 : decode cX7_init 9 = .ok (.invokespecial 9, 3) := by decide +kernel
theorem dX7_init_12 : decode cX7_init 12 = .ok (.putfield 10, 3) := by decide +kernel
theorem dX7_init_15 : decode cX7_init 15 = .ok (.aload_n 0, 1) := by decide +kernel
theorem dX7_init_16 : decode cX7_init 16 = .ok (.new 16, 3) := by decide +kernel
theorem dX7_init_19 : decode cX7_init 19 = .ok (.dup, 1) := by decide +kernel
theorem dX7_init_20 : decode cX7_init 20 = .ok (.invokespecial 18, 3) := by decide +kernel
theorem dX7_init_23 : decode cX7_init 23 = .ok (.putfield 19, 3) := by decide +kernel
theorem dX7_init_26 : decode cX7_init 26 = .ok (.aload_n 0, 1) := by decide +kernel
theorem dX7_init_27 : decode cX7_init 27 = .ok (.new 23, 3) := by decide +kernel
theorem dX7_init_30 : decode cX7_init 30 = .ok (.dup, 1) := by decide +kernel
theorem dX7_init_31 : decode cX7_init 31 = .ok (.invokespecial 25, 3) := by decide +kernel
theorem dX7_init_34 : decode cX7_init 34 = .ok (.putfield 26, 3) := by decide +kernel
theorem dX7_init_37 : decode cX7_init 37 = .ok (.aload_n 0, 1) := by decide +kernel
theorem dX7_init_38 : decode cX7_init 38 = .ok (.new 30, 3) := by decide +kernel
theorem dX7_init_41 : decode cX7_init 41 = .ok (.dup, 1) := by decide +kernel
theorem dX7_init_42 : decode cX7_init 42 = .ok (.invokespecial 32, 3) := by decide +kernel
theorem dX7_init_45 : decode cX7_init 45 = .ok (.putfield 33, 3) := by decide +kernel
theorem dX7_init_48 : decode cX7_init 48 = .ok (.aload_n 0, 1) := by decide +kernel
theorem dX7_init_49 : decode cX7_init 49 = .ok (.new 37, 3) := by decide +kernel
theorem dX7_init_52 : decode cX7_init 52 = .ok (.dup, 1) := by decide +kernel
theorem dX7_init_53 : decode cX7_init 53 = .ok (.invokespecial 39, 3) := by decide +kernel
theorem dX7_init_56 : decode cX7_init 56 = .ok (.putfield 40, 3) := by decide +kernel
theorem dX7_init_59 : decode cX7_init 59 = .ok (.return_, 1) := by decide +kernel
theorem dX7_goOn_0 : decode cX7_goOn 0 = .ok (.aload_n 0, 1) := by decide +kernel
theorem dX7_goOn_1 : decode cX7_goOn 1 = .ok (.getfield 10, 3) := by decide +kernel
theorem dX7_goOn_4 : decode cX7_goOn 4 = .ok (.invokevirtual 44, 3) := by decide +kernel
theorem dX7_goOn_7 : decode cX7_goOn 7 = .ok (.aload_n 0, 1) := by decide +kernel
theorem dX7_goOn_8 : decode cX7_goOn 8 = .ok (.getfield 19, 3) := by decide +kernel
theorem dX7_goOn_11 : decode cX7_goOn 11 = .ok (.invokevirtual 47, 3) := by decide +kernel
theorem dX7_goOn_14 : decode cX7_goOn 14 = .ok (.aload_n 0, 1) := by decide +kernel
theorem dX7_goOn_15 : decode cX7_goOn 15 = .ok (.getfield 26, 3) := by decide +kernel
theorem dX7_goOn_18 : decode cX7_goOn 18 = .ok (.aload_n 0, 1) := by decide +kernel
theorem dX7_goOn_19 : decode cX7_goOn 19 = .ok (.getfield 19, 3) := by decide +kernel
theorem dX7_goOn_22 : decode cX7_goOn 22 = .ok (.aload_n 0, 1) := by decide +kernel
theorem dX7_goOn_23 : decode cX7_goOn 23 = .ok (.getfield 40, 3) := by decide +kernel
theorem dX7_goOn_26 : decode cX7_goOn 26 = .ok (.invokevirtual 50, 3) := by decide +kernel
theorem dX7_goOn_29 : decode cX7_goOn 29 = .ok (.aload_n 0, 1) := by decide +kernel
theorem dX7_goOn_30 : decode cX7_goOn 30 = .ok (.getfield 33, 3) := by decide +kernel
theorem dX7_goOn_33 : decode cX7_goOn 33 = .ok (.aload_n 0, 1) := by decide +kernel
theorem dX7_goOn_34 : decode cX7_goOn 34 = .ok (.getfield 19, 3) := by decide +kernel
theorem dX7_goOn_37 : decode cX7_goOn 37 = .ok (.invokevirtual 53, 3) := by decide +kernel
theorem dX7_goOn_40 : decode cX7_goOn 40 = .ok (.aload_n 0, 1) := by decide +kernel
theorem dX7_goOn_41 : decode cX7_goOn 41 = .ok (.dup, 1) := by decide +kernel
theorem dX7_goOn_42 : decode cX7_goOn 42 = .ok (.getfield 57, 3) := by decide +kernel
theorem dX7_goOn_45 : decode cX7_goOn 45 = .ok (.iconst 1, 1) := by decide +kernel
theorem dX7_goOn_46 : decode cX7_goOn 46 = .ok (.iadd, 1) := by decide +kernel
theorem dX7_goOn_47 : decode cX7_goOn 47 = .ok (.putfield 57, 3) := by decide +kernel
theorem dX7_goOn_50 : decode cX7_goOn 50 = .ok (.return_, 1) := by decide +kernel
theorem dX7_sumUp_0 : decode cX7_sumUp 0 = .ok (.aload_n 0, 1) := by decide +kernel
theorem dX7_sumUp_1 : decode cX7_sumUp 1 = .ok (.getfield 10, 3) := by decide +kernel
theorem dX7_sumUp_4 : decode cX7_sumUp 4 = .ok (.ldc2_w 61, 3) := by decide +kernel
theorem dX7_sumUp_7 : decode cX7_sumUp 7 = .ok (.invokevirtual 63, 3) := by decide +kernel
theorem dX7_sumUp_10 : decode cX7_sumUp 10 = .ok (.lstore_n 1, 1) := by decide +kernel
theorem dX7_sumUp_11 : decode cX7_sumUp 11 = .ok (.aload_n 0, 1) := by decide +kernel
theorem dX7_sumUp_12 : decode cX7_sumUp 12 = .ok (.getfield 19, 3) := by decide +kernel
theorem dX7_sumUp_15 : decode cX7_sumUp 15 = .ok (.lload_n 1, 1) := by decide +kernel
theorem dX7_sumUp_16 : decode cX7_sumUp 16 = .ok (.invokevirtual 67, 3) := by decide +kernel
theorem dX7_sumUp_19 : decode cX7_sumUp 19 = .ok (.lstore_n 1, 1) := by decide +kernel
theorem dX7_sumUp_20 : decode cX7_sumUp 20 = .ok (.aload_n 0, 1) := by decide +kernel
theorem dX7_sumUp_21 : decode cX7_sumUp 21 = .ok (.getfield 26, 3) := by decide +kernel
theorem dX7_sumUp_24 : decode cX7_sumUp 24 = .ok (.lload_n 1, 1) := by decide +kernel
theorem dX7_sumUp_25 : decode cX7_sumUp 25 = .ok (.invokevirtual 68, 3) := by decide +kernel
theorem dX7_sumUp_28 : decode cX7_sumUp 28 = .ok (.lstore_n 1, 1) := by decide +kernel
theorem dX7_sumUp_29 : decode cX7_sumUp 29 = .ok (.ldc2_w 69, 3) := by decide +kernel
theorem dX7_sumUp_32 : decode cX7_sumUp 32 = .ok (.lload_n 1, 1) := by decide +kernel
theorem dX7_sumUp_33 : decode cX7_sumUp 33 = .ok (.lmul, 1) := by decide +kernel
theorem dX7_sumUp_34 : decode cX7_sumUp 34 = .ok (.aload_n 0, 1) := by decide +kernel
theorem dX7_sumUp_35 : decode cX7_sumUp 35 = .ok (.getfield 57, 3) := by decide +kernel
theorem dX7_sumUp_38 : decode cX7_sumUp 38 = .ok (.i2l, 1) := by decide +kernel
theorem dX7_sumUp_39 : decode cX7_sumUp 39 = .ok (.ladd, 1) := by decide +kernel
theorem dX7_sumUp_40 : decode cX7_sumUp 40 = .ok (.lreturn, 1) := by decide +kernel
theorem dX7_copyFrom_0 : decode cX7_copyFrom 0 = .ok (.aload_n 0, 1) := by decide +kernel
theorem dX7_copyFrom_1 : decode cX7_copyFrom 1 = .ok (.getfield 10, 3) := by decide +kernel
theorem dX7_copyFrom_4 : decode cX7_copyFrom 4 = .ok (.aload_n 1, 1) := by decide +kernel
theorem dX7_copyFrom_5 : decode cX7_copyFrom 5 = .ok (.getfield 10, 3) := by decide +kernel
theorem dX7_copyFrom_8 : decode cX7_copyFrom 8 = .ok (.invokevirtual 71, 3) := by decide +kernel
theorem dX7_copyFrom_11 : decode cX7_copyFrom 11 = .ok (.aload_n 0, 1) := by decide +kernel
theorem dX7_copyFrom_12 : decode cX7_copyFrom 12 = .ok (.getfield 19, 3) := by decide +kernel
theorem dX7_copyFrom_15 : decode cX7_copyFrom 15 = .ok (.aload_n 1, 1) := by decide +kernel
theorem dX7_copyFrom_16 : decode cX7_copyFrom 16 = .ok (.getfield 19, 3) := by decide +kernel
theorem dX7_copyFrom_19 : decode cX7_copyFrom 19 = .ok (.invokevirtual 75, 3) := by decide +kernel
theorem dX7_copyFrom_22 : decode cX7_copyFrom 22 = .ok (.aload_n 0, 1) := by decide +kernel
theorem dX7_copyFrom_23 : decode cX7_copyFrom 23 = .ok (.getfield 26, 3) := by decide +kernel
theorem dX7_copyFrom_26 : decode cX7_copyFrom 26 = .ok (.aload_n 1, 1) := by decide +kernel
theorem dX7_copyFrom_27 : decode cX7_copyFrom 27 = .ok (.getfield 26, 3) := by decide +kernel
theorem dX7_copyFrom_30 : decode cX7_copyFrom 30 = .ok (.invokevirtual 77, 3) := by decide +kernel
theorem dX7_copyFrom_33 : decode cX7_copyFrom 33 = .ok (.aload_n 0, 1) := by decide +kernel
theorem dX7_copyFrom_34 : decode cX7_copyFrom 34 = .ok (.getfield 33, 3) := by decide +kernel
theorem dX7_copyFrom_37 : decode cX7_copyFrom 37 = .ok (.aload_n 1, 1) := by decide +kernel
theorem dX7_copyFrom_38 : decode cX7_copyFrom 38 = .ok (.getfield 33, 3) := by decide +kernel
theorem dX7_copyFrom_41 : decode cX7_copyFrom 41 = .ok (.invokevirtual 80, 3) := by decide +kernel
theorem dX7_copyFrom_44 : decode cX7_copyFrom 44 = .ok (.aload_n 0, 1) := by decide +kernel
theorem dX7_copyFrom_45 : decode cX7_copyFrom 45 = .ok (.getfield 40, 3) := by decide +kernel
theorem dX7_copyFrom_48 : decode cX7_copyFrom 48 = .ok (.aload_n 1, 1) := by decide +kernel
theorem dX7_copyFrom_49 : decode cX7_copyFrom 49 = .ok (.getfield 40, 3) := by decide +kernel
theorem dX7_copyFrom_52 : decode cX7_copyFrom 52 = .ok (.invokevirtual 83, 3) := by decide +kernel
theorem dX7_copyFrom_55 : decode cX7_copyFrom 55 = .ok (.aload_n 0, 1) := by decide +kernel
theorem dX7_copyFrom_56 : decode cX7_copyFrom 56 = .ok (.aload_n 1, 1) := by decide +kernel
theorem dX7_copyFrom_57 : decode cX7_copyFrom 57 = .ok (.getfield 57, 3) := by decide +kernel
theorem dX7_copyFrom_60 : decode cX7_copyFrom 60 = .ok (.putfield 57, 3) := by decide +kernel
theorem dX7_copyFrom_63 : decode cX7_copyFrom 63 = .ok (.return_, 1) := by decide +kernel
theorem dX8_init_0 : decode cX8_init 0 = .ok (.aload_n 0, 1) := by decide +kernel
theorem dX8_init_1 : decode cX8_init 1 = .ok (.invokespecial 3, 3) := by decide +kernel
theorem dX8_init_4 : decode cX8_init 4 = .ok (.aload_n 0, 1) := by decide +kernel
theorem dX8_init_5 : decode cX8_init 5 = .ok (.new 9, 3) := by decide +kernel
theorem dX8_init_8 : decode cX8_init 8 = .ok (.dup, 1) := by decide +kernel
theorem dX8_init_9 : decode cX8_init 9 = .ok (.invokespecial 11, 3) := by decide +kernel
theorem dX8_init_12 : decode cX8_init 12 = .ok (.putfield 12, 3) := by decide +kernel
theorem dX8_init_15 : decode cX8_init 15 = .ok (.aload_n 0, 1) := by decide +kernel
theorem dX8_init_16 : decode cX8_init 16 = .ok (.iconst 3, 1) := by decide +kernel
theorem dX8_init_17 : decode cX8_init 17 = .ok (.anewarray 9, 3) := by decide +kernel
theorem dX8_init_20 : decode cX8_init 20 = .ok (.putfield 16, 3) := by decide +kernel
theorem dX8_init_23 : decode cX8_init 23 = .ok (.aload_n 0, 1) := by decide +kernel
theorem dX8_init_24 : decode cX8_init 24 = .ok (.iconst 3, 1) := by decide +kernel
theorem dX8_init_25 : decode cX8_init 25 = .ok (.newarray .long, 2) := by decide +kernel
theorem dX8_init_27 : decode cX8_init 27 = .ok (.putfield 20, 3) := by decide +kernel
theorem dX8_init_30 : decode cX8_init 30 = .ok (.aload_n 0, 1) := by decide +kernel
theorem dX8_init_31 : decode cX8_init 31 = .ok (.iconst 4, 1) := by decide +kernel
theorem dX8_init_32 : decode cX8_init 32 = .ok (.anewarray 24, 3) := by decide +kernel
theorem dX8_init_35 : decode cX8_init 35 = .ok (.putfield 26, 3) := by decide +kernel
theorem dX8_init_38 : decode cX8_init 38 = .ok (.aload_n 0, 1) := by decide +kernel
theorem dX8_init_39 : decode cX8_init 39 = .ok (.bipush 6, 2) := by decide +kernel
theorem dX8_init_41 : decode cX8_init 41 = .ok (.anewarray 30, 3) := by decide +kernel
theorem dX8_init_44 : decode cX8_init 44 = .ok (.putfield 32, 3) := by decide +kernel
theorem dX8_init_47 : decode cX8_init 47 = .ok (.return_, 1) := by decide +kernel
theorem dX8_setTemperature_0 : decode cX8_setTemperature 0 = .ok (.iload_n 1, 1) := by decide +kernel
theorem dX8_setTemperature_1 : decode cX8_setTemperature 1 = .ok (.bipush 10, 2) := by decide +kernel
theorem dX8_setTemperature_3 : decode cX8_setTemperature 3 = .ok (.invokestatic 36, 3) := by decide +kernel
theorem dX8_setTemperature_6 : decode cX8_setTemperature 6 = .ok (.iload_n 2, 1) := by decide +kernel
theorem dX8_setTemperature_7 : decode cX8_setTemperature 7 = .ok (.bipush 50, 2) := by decide +kernel
theorem dX8_setTemperature_9 : decode cX8_setTemperature 9 = .ok (.sipush 999, 3) := by decide +kernel
theorem dX8_setTemperature_12 : decode cX8_setTemperature 12 = .ok (.invokestatic 40, 3) := by decide +kernel
theorem dX8_setTemperature_15 : decode cX8_setTemperature 15 = .ok (.aload_n 0, 1) := by decide +kernel
theorem dX8_setTemperature_16 : decode cX8_setTemperature 16 = .ok (.getfield 12, 3) := by decide +kernel
theorem dX8_setTemperature_19 : decode cX8_setTemperature 19 = .ok (.getfield 44, 3) := by decide +kernel
theorem dX8_setTemperature_22 : decode cX8_setTemperature 22 = .ok (.iload_n 1, 1) := by decide +kernel
theorem dX8_setTemperature_23 : decode cX8_setTemperature 23 = .ok (.iload_n 2, 1) := by decide +kernel
theorem dX8_setTemperature_24 : decode cX8_setTemperature 24 = .ok (.invokevirtual 48, 3) := by decide +kernel
theorem dX8_setTemperature_27 : decode cX8_setTemperature 27 = .ok (.ireturn, 1) := by decide +kernel
theorem dX8_getTemperature_0 : decode cX8_getTemperature 0 = .ok (.iload_n 1, 1) := by decide +kernel
theorem dX8_getTemperature_1 : decode cX8_getTemperature 1 = .ok (.bipush 10, 2) := by decide +kernel
theorem dX8_getTemperature_3 : decode cX8_getTemperature 3 = .ok (.invokestatic 36, 3) := by decide +kernel
theorem dX8_getTemperature_6 : decode cX8_getTemperature 6 = .ok (.aload_n 0, 1) := by decide +kernel
theorem dX8_getTemperature_7 : decode cX8_getTemperature 7 = .ok (.getfield 12, 3) := by decide +kernel
theorem dX8_getTemperature_10 : decode cX8_getTemperature 10 = .ok (.getfield 44, 3) := by decide +kernel
theorem dX8_getTemperature_13 : decode cX8_getTemperature 13 = .ok (.getfield 54, 3) := by decide +kernel
theorem dX8_getTemperature_16 : decode cX8_getTemperature 16 = .ok (.iload_n 1, 1) := by decide +kernel
theorem dX8_getTemperature_17 : decode cX8_getTemperature 17 = .ok (.iaload, 1) := by decide +kernel
theorem dX8_getTemperature_18 : decode cX8_getTemperature 18 = .ok (.ireturn, 1) := by decide +kernel
theorem dX8_setVapour_0 : decode cX8_setVapour 0 = .ok (.iload_n 1, 1) := by decide +kernel
theorem dX8_setVapour_1 : decode cX8_setVapour 1 = .ok (.bipush 10, 2) := by decide +kernel
theorem dX8_setVapour_3 : decode cX8_setVapour 3 = .ok (.invokestatic 36, 3) := by decide +kernel
theorem dX8_setVapour_6 : decode cX8_setVapour 6 = .ok (.iload_n 2, 1) := by decide +kernel
theorem dX8_setVapour_7 : decode cX8_setVapour 7 = .ok (.iconst 3, 1) := by decide +kernel
theorem dX8_setVapour_8 : decode cX8_setVapour 8 = .ok (.invokestatic 36, 3) := by decide +kernel
theorem dX8_setVapour_11 : decode cX8_setVapour 11 = .ok (.iload_n 3, 1) := by decide +kernel
theorem dX8_setVapour_12 : decode cX8_setVapour 12 = .ok (.iconst 0, 1) := by decide +kernel
theorem dX8_setVapour_13 : decode cX8_setVapour 13 = .ok (.sipush 20000, 3) := by decide +kernel
theorem dX8_setVapour_16 : decode cX8_setVapour 16 = .ok (.invokestatic 40, 3) := by decide +kernel
theorem dX8_setVapour_19 : decode cX8_setVapour 19 = .ok (.aload_n 0, 1) := by decide +kernel
theorem dX8_setVapour_20 : decode cX8_setVapour 20 = .ok (.getfield 12, 3) := by decide +kernel
theorem dX8_setVapour_23 : decode cX8_setVapour 23 = .ok (.getfield 44, 3) := by decide +kernel
theorem dX8_setVapour_26 : decode cX8_setVapour 26 = .ok (.iload_n 1, 1) := by decide +kernel
theorem dX8_setVapour_27 : decode cX8_setVapour 27 = .ok (.iload_n 2, 1) := by decide +kernel
theorem dX8_setVapour_28 : decode cX8_setVapour 28 = .ok (.iload_n 3, 1) := by decide +kernel
theorem dX8_setVapour_29 : decode cX8_setVapour 29 = .ok (.invokevirtual 58, 3) := by decide +kernel
theorem dX8_setVapour_32 : decode cX8_setVapour 32 = .ok (.ireturn, 1) := by decide +kernel
theorem dX8_getVapour_0 : decode cX8_getVapour 0 = .ok (.iload_n 1, 1) := by decide +kernel
theorem dX8_getVapour_1 : decode cX8_getVapour 1 = .ok (.bipush 10, 2) := by decide +kernel
theorem dX8_getVapour_3 : decode cX8_getVapour 3 = .ok (.invokestatic 36, 3) := by decide +kernel
theorem dX8_getVapour_6 : decode cX8_getVapour 6 = .ok (.iload_n 2, 1) := by decide +kernel
theorem dX8_getVapour_7 : decode cX8_getVapour 7 = .ok (.iconst 3, 1) := by decide +kernel
theorem dX8_getVapour_8 : decode cX8_getVapour 8 = .ok (.invokestatic 36, 3) := by decide +kernel
theorem dX8_getVapour_11 : decode cX8_getVapour 11 = .ok (.aload_n 0, 1) := by decide +kernel
theorem dX8_getVapour_12 : decode cX8_getVapour 12 = .ok (.getfield 12, 3) := by decide +kernel
theorem dX8_getVapour_15 : decode cX8_getVapour 15 = .ok (.getfield 44, 3) := by decide +kernel
theorem dX8_getVapour_18 : decode cX8_getVapour 18 = .ok (.getfield 62, 3) := by decide +kernel
theorem dX8_getVapour_21 : decode cX8_getVapour 21 = .ok (.iload_n 1, 1) := by decide +kernel
theorem dX8_getVapour_22 : decode cX8_getVapour 22 = .ok (.aaload, 1) := by decide +kernel
theorem dX8_getVapour_23 : decode cX8_getVapour 23 = .ok (.iload_n 2, 1) := by decide +kernel
theorem dX8_getVapour_24 : decode cX8_getVapour 24 = .ok (.iaload, 1) := by decide +kernel
theorem dX8_getVapour_25 : decode cX8_getVapour 25 = .ok (.ireturn, 1) := by decide +kernel
theorem dX8_getIce_0 : decode cX8_getIce 0 = .ok (.iload_n 1, 1) := by decide +kernel
theorem dX8_getIce_1 : decode cX8_getIce 1 = .ok (.bipush 10, 2) := by decide +kernel
theorem dX8_getIce_3 : decode cX8_getIce 3 = .ok (.invokestatic 36, 3) := by decide +kernel
theorem dX8_getIce_6 : decode cX8_getIce 6 = .ok (.iload_n 2, 1) := by decide +kernel
theorem dX8_getIce_7 : decode cX8_getIce 7 = .ok (.iconst 3, 1) := by decide +kernel
theorem dX8_getIce_8 : decode cX8_getIce 8 = .ok (.invokestatic 36, 3) := by decide +kernel
theorem dX8_getIce_11 : decode cX8_getIce 11 = .ok (.aload_n 0, 1) := by decide +kernel
theorem dX8_getIce_12 : decode cX8_getIce 12 = .ok (.getfield 12, 3) := by decide +kernel
theorem dX8_getIce_15 : decode cX8_getIce 15 = .ok (.getfield 44, 3) := by decide +kernel
theorem dX8_getIce_18 : decode cX8_getIce 18 = .ok (.getfield 66, 3) := by decide +kernel
theorem dX8_getIce_21 : decode cX8_getIce 21 = .ok (.iload_n 1, 1) := by decide +kernel
theorem dX8_getIce_22 : decode cX8_getIce 22 = .ok (.aaload, 1) := by decide +kernel
theorem dX8_getIce_23 : decode cX8_getIce 23 = .ok (.iload_n 2, 1) := by decide +kernel
theorem dX8_getIce_24 : decode cX8_getIce 24 = .ok (.iaload, 1) := by decide +kernel
theorem dX8_getIce_25 : decode cX8_getIce 25 = .ok (.ireturn, 1) := by decide +kernel
theorem dX8_deck_0 : decode cX8_deck 0 = .ok (.iload_n 1, 1) := by decide +kernel
theorem dX8_deck_1 : decode cX8_deck 1 = .ok (.iconst 3, 1) := by decide +kernel
theorem dX8_deck_2 : decode cX8_deck 2 = .ok (.invokestatic 36, 3) := by decide +kernel
theorem dX8_deck_5 : decode cX8_deck 5 = .ok (.aload_n 0, 1) := by decide +kernel
theorem dX8_deck_6 : decode cX8_deck 6 = .ok (.getfield 12, 3) := by decide +kernel
theorem dX8_deck_9 : decode cX8_deck 9 = .ok (.getfield 44, 3) := by decide +kernel
theorem dX8_deck_12 : decode cX8_deck 12 = .ok (.iload_n 1, 1) := by decide +kernel
theorem dX8_deck_13 : decode cX8_deck 13 = .ok (.invokevirtual 69, 3) := by decide +kernel
theorem dX8_deck_16 : decode cX8_deck 16 = .ok (.istore_n 2, 1) := by decide +kernel
theorem dX8_deck_17 : decode cX8_deck 17 = .ok (.iload_n 2, 1) := by decide +kernel
theorem dX8_deck_18 : decode cX8_deck 18 = .ok (.ifCond .ge 13, 3) := by decide +kernel
theorem dX8_deck_21 : decode cX8_deck 21 = .ok (.new 73, 3) := by decide +kernel
theorem dX8_deck_24 : decode cX8_deck 24 = .ok (.dup, 1) := by decide +kernel
theorem dX8_deck_25 : decode cX8_deck 25 = .ok (.ldc 75, 2) := by decide +kernel
theorem dX8_deck_27 : decode cX8_deck 27 = .ok (.invokespecial 77, 3) := by decide +kernel
theorem dX8_deck_30 : decode cX8_deck 30 = .ok (.athrow, 1) := by decide +kernel
theorem dX8_deck_31 : decode cX8_deck 31 = .ok (.iload_n 2, 1) := by decide +kernel
theorem dX8_deck_32 : decode cX8_deck 32 = .ok (.ireturn, 1) := by decide +kernel
theorem dX8_setCore_0 : decode cX8_setCore 0 = .ok (.iload_n 1, 1) := by decide +kernel
theorem dX8_setCore_1 : decode cX8_setCore 1 = .ok (.iconst 0, 1) := by decide +kernel
theorem dX8_setCore_2 : decode cX8_setCore 2 = .ok (.bipush 9, 2) := by decide +kernel
theorem dX8_setCore_4 : decode cX8_setCore 4 = .ok (.invokestatic 40, 3) := by decide +kernel
theorem dX8_setCore_7 : decode cX8_setCore 7 = .ok (.aload_n 0, 1) := by decide +kernel
theorem dX8_setCore_8 : decode cX8_setCore 8 = .ok (.getfield 12, 3) := by decide +kernel
theorem dX8_setCore_11 : decode cX8_setCore 11 = .ok (.getfield 44, 3) := by decide +kernel
theorem dX8_setCore_14 : decode cX8_setCore 14 = .ok (.getfield 80, 3) := by decide +kernel
theorem dX8_setCore_17 : decode cX8_setCore 17 = .ok (.istore_n 2, 1) := by decide +kernel
theorem dX8_setCore_18 : decode cX8_setCore 18 = .ok (.aload_n 0, 1) := by decide +kernel
theorem dX8_setCore_19 : decode cX8_setCore 19 = .ok (.getfield 12, 3) := by decide +kernel
theorem dX8_setCore_22 : decode cX8_setCore 22 = .ok (.getfield 44, 3) := by decide +kernel
theorem dX8_setCore_25 : decode cX8_setCore 25 = .ok (.iload_n 1, 1) := by decide +kernel
theorem dX8_setCore_26 : decode cX8_setCore 26 = .ok (.putfield 80, 3) := by decide +kernel
theorem dX8_setCore_29 : decode cX8_setCore 29 = .ok (.iload_n 2, 1) := by decide +kernel
theorem dX8_setCore_30 : decode cX8_setCore 30 = .ok (.ireturn, 1) := by decide +kernel
theorem dX8_getRadiated_0 : decode cX8_getRadiated 0 = .ok (.aload_n 0, 1) := by decide +kernel
theorem dX8_getRadiated_1 : decode cX8_getRadiated 1 = .ok (.getfield 12, 3) := by decide +kernel
theorem dX8_getRadiated_4 : decode cX8_getRadiated 4 = .ok (.getfield 44, 3) := by decide +kernel
theorem dX8_getRadiated_7 : decode cX8_getRadiated 7 = .ok (.getfield 84, 3) := by decide +kernel
theorem dX8_getRadiated_10 : decode cX8_getRadiated 10 = .ok (.ireturn, 1) := by decide +kernel
theorem dX8_pressure_0 : decode cX8_pressure 0 = .ok (.iload_n 1, 1) := by decide +kernel
theorem dX8_pressure_1 : decode cX8_pressure 1 = .ok (.bipush 10, 2) := by decide +kernel
theorem dX8_pressure_3 : decode cX8_pressure 3 = .ok (.invokestatic 36, 3) := by decide +kernel
theorem dX8_pressure_6 : decode cX8_pressure 6 = .ok (.ldc 87, 2) := by decide +kernel
theorem dX8_pressure_8 : decode cX8_pressure 8 = .ok (.fstore_n 2, 1) := by decide +kernel
theorem dX8_pressure_9 : decode cX8_pressure 9 = .ok (.iconst 0, 1) := by decide +kernel
theorem dX8_pressure_10 : decode cX8_pressure 10 = .ok (.istore_n 3, 1) := by decide +kernel
theorem dX8_pressure_11 : decode cX8_pressure 11 = .ok (.iload_n 3, 1) := by decide +kernel
theorem dX8_pressure_12 : decode cX8_pressure 12 = .ok (.iload_n 1, 1) := by decide +kernel
theorem dX8_pressure_13 : decode cX8_pressure 13 = .ok (.if_icmp .ge 13, 3) := by decide +kernel
theorem dX8_pressure_16 : decode cX8_pressure 16 = .ok (.fload_n 2, 1) := by decide +kernel
theorem dX8_pressure_17 : decode cX8_pressure 17 = .ok (.fconst 2, 1) := by decide +kernel
theorem dX8_pressure_18 : decode cX8_pressure 18 = .ok (.fmul, 1) := by decide +kernel
theorem dX8_pressure_19 : decode cX8_pressure 19 = .ok (.fstore_n 2, 1) := by decide +kernel
theorem dX8_pressure_20 : decode cX8_pressure 20 = .ok (.iinc 3 1, 3) := by decide +kernel
theorem dX8_pressure_23 : decode cX8_pressure 23 = .ok (.goto (-12), 3) := by decide +kernel
theorem dX8_pressure_26 : decode cX8_pressure 26 = .ok (.fload_n 2, 1) := by decide +kernel
theorem dX8_pressure_27 : decode cX8_pressure 27 = .ok (.freturn, 1) := by decide +kernel
theorem dX8_setTurning_0 : decode cX8_setTurning 0 = .ok (.iload_n 1, 1) := by decide +kernel
theorem dX8_setTurning_1 : decode cX8_setTurning 1 = .ok (.bipush 12, 2) := by decide +kernel
theorem dX8_setTurning_3 : decode cX8_setTurning 3 = .ok (.invokestatic 36, 3) := by decide +kernel
theorem dX8_setTurning_6 : decode cX8_setTurning 6 = .ok (.iload_n 2, 1) := by decide +kernel
theorem dX8_setTurning_7 : decode cX8_setTurning 7 = .ok (.sipush (-3000), 3) := by decide +kernel
theorem dX8_setTurning_10 : decode cX8_setTurning 10 = .ok (.sipush 3000, 3) := by decide +kernel
theorem dX8_setTurning_13 : decode cX8_setTurning 13 = .ok (.invokestatic 40, 3) := by decide +kernel
theorem dX8_setTurning_16 : decode cX8_setTurning 16 = .ok (.aload_n 0, 1) := by decide +kernel
theorem dX8_setTurning_17 : decode cX8_setTurning 17 = .ok (.getfield 12, 3) := by decide +kernel
theorem dX8_setTurning_20 : decode cX8_setTurning 20 = .ok (.getfield 88, 3) := by decide +kernel
theorem dX8_setTurning_23 : decode cX8_setTurning 23 = .ok (.iload_n 1, 1) := by decide +kernel
theorem dX8_setTurning_24 : decode cX8_setTurning 24 = .ok (.iload_n 2, 1) := by decide +kernel
theorem dX8_setTurning_25 : decode cX8_setTurning 25 = .ok (.invokevirtual 92, 3) := by decide +kernel
theorem dX8_setTurning_28 : decode cX8_setTurning 28 = .ok (.ireturn, 1) := by decide +kernel
theorem dX8_getTurning_0 : decode cX8_getTurning 0 = .ok (.iload_n 1, 1) := by decide +kernel
theorem dX8_getTurning_1 : decode cX8_getTurning 1 = .ok (.bipush 12, 2) := by decide +kernel
theorem dX8_getTurning_3 : decode cX8_getTurning 3 = .ok (.invokestatic 36, 3) := by decide +kernel
theorem dX8_getTurning_6 : decode cX8_getTurning 6 = .ok (.aload_n 0, 1) := by decide +kernel
theorem dX8_getTurning_7 : decode cX8_getTurning 7 = .ok (.getfield 12, 3) := by decide +kernel
theorem dX8_getTurning_10 : decode cX8_getTurning 10 = .ok (.getfield 88, 3) := by decide +kernel
theorem dX8_getTurning_13 : decode cX8_getTurning 13 = .ok (.getfield 97, 3) := by decide +kernel
theorem dX8_getTurning_16 : decode cX8_getTurning 16 = .ok (.iload_n 1, 1) := by decide +kernel
theorem dX8_getTurning_17 : decode cX8_getTurning 17 = .ok (.iaload, 1) := by decide +kernel
theorem dX8_getTurning_18 : decode cX8_getTurning 18 = .ok (.ireturn, 1) := by decide +kernel
theorem dX8_getWind_0 : decode cX8_getWind 0 = .ok (.iload_n 1, 1) := by decide +kernel
theorem dX8_getWind_1 : decode cX8_getWind 1 = .ok (.bipush 12, 2) := by decide +kernel
theorem dX8_getWind_3 : decode cX8_getWind 3 = .ok (.invokestatic 36, 3) := by decide +kernel
theorem dX8_getWind_6 : decode cX8_getWind 6 = .ok (.aload_n 0, 1) := by decide +kernel
theorem dX8_getWind_7 : decode cX8_getWind 7 = .ok (.getfield 12, 3) := by decide +kernel
theorem dX8_getWind_10 : decode cX8_getWind 10 = .ok (.getfield 88, 3) := by decide +kernel
theorem dX8_getWind_13 : decode cX8_getWind 13 = .ok (.iload_n 1, 1) := by decide +kernel
theorem dX8_getWind_14 : decode cX8_getWind 14 = .ok (.invokevirtual 100, 3) := by decide +kernel
theorem dX8_getWind_17 : decode cX8_getWind 17 = .ok (.ireturn, 1) := by decide +kernel
theorem dX8_getShear_0 : decode cX8_getShear 0 = .ok (.iload_n 1, 1) := by decide +kernel
theorem dX8_getShear_1 : decode cX8_getShear 1 = .ok (.bipush 12, 2) := by decide +kernel
theorem dX8_getShear_3 : decode cX8_getShear 3 = .ok (.invokestatic 36, 3) := by decide +kernel
theorem dX8_getShear_6 : decode cX8_getShear 6 = .ok (.aload_n 0, 1) := by decide +kernel
theorem dX8_getShear_7 : decode cX8_getShear 7 = .ok (.getfield 12, 3) := by decide +kernel
theorem dX8_getShear_10 : decode cX8_getShear 10 = .ok (.getfield 88, 3) := by decide +kernel
theorem dX8_getShear_13 : decode cX8_getShear 13 = .ok (.iload_n 1, 1) := by decide +kernel
theorem dX8_getShear_14 : decode cX8_getShear 14 = .ok (.invokevirtual 103, 3) := by decide +kernel
theorem dX8_getShear_17 : decode cX8_getShear 17 = .ok (.ireturn, 1) := by decide +kernel
theorem dX8_stir_0 : decode cX8_stir 0 = .ok (.iload_n 1, 1) := by decide +kernel
theorem dX8_stir_1 : decode cX8_stir 1 = .ok (.bipush 12, 2) := by decide +kernel
theorem dX8_stir_3 : decode cX8_stir 3 = .ok (.invokestatic 36, 3) := by decide +kernel
theorem dX8_stir_6 : decode cX8_stir 6 = .ok (.iload_n 2, 1) := by decide +kernel
theorem dX8_stir_7 : decode cX8_stir 7 = .ok (.bipush 12, 2) := by decide +kernel
theorem dX8_stir_9 : decode cX8_stir 9 = .ok (.invokestatic 36, 3) := by decide +kernel
theorem dX8_stir_12 : decode cX8_stir 12 = .ok (.iload_n 1, 1) := by decide +kernel
theorem dX8_stir_13 : decode cX8_stir 13 = .ok (.iload_n 2, 1) := by decide +kernel
theorem dX8_stir_14 : decode cX8_stir 14 = .ok (.isub, 1) := by decide +kernel
theorem dX8_stir_15 : decode cX8_stir 15 = .ok (.invokestatic 106, 3) := by decide +kernel
theorem dX8_stir_18 : decode cX8_stir 18 = .ok (.iconst 1, 1) := by decide +kernel
theorem dX8_stir_19 : decode cX8_stir 19 = .ok (.if_icmp .eq 13, 3) := by decide +kernel
theorem dX8_stir_22 : decode cX8_stir 22 = .ok (.new 111, 3) := by decide +kernel
theorem dX8_stir_25 : decode cX8_stir 25 = .ok (.dup, 1) := by decide +kernel
theorem dX8_stir_26 : decode cX8_stir 26 = .ok (.ldc 113, 2) := by decide +kernel
theorem dX8_stir_28 : decode cX8_stir 28 = .ok (.invokespecial 115, 3) := by decide +kernel
theorem dX8_stir_31 : decode cX8_stir 31 = .ok (.athrow, 1) := by decide +kernel
theorem dX8_stir_32 : decode cX8_stir 32 = .ok (.iload_n 3, 1) := by decide +kernel
theorem dX8_stir_33 : decode cX8_stir 33 = .ok (.iconst 1, 1) := by decide +kernel
theorem dX8_stir_34 : decode cX8_stir 34 = .ok (.sipush 3000, 3) := by decide +kernel
theorem dX8_stir_37 : decode cX8_stir 37 = .ok (.invokestatic 40, 3) := by decide +kernel
theorem dX8_stir_40 : decode cX8_stir 40 = .ok (.aload_n 0, 1) := by decide +kernel
theorem dX8_stir_41 : decode cX8_stir 41 = .ok (.getfield 12, 3) := by decide +kernel
theorem dX8_stir_44 : decode cX8_stir 44 = .ok (.getfield 88, 3) := by decide +kernel
theorem dX8_stir_47 : decode cX8_stir 47 = .ok (.getfield 97, 3) := by decide +kernel
theorem dX8_stir_50 : decode cX8_stir 50 = .ok (.iload_n 1, 1) := by decide +kernel
theorem dX8_stir_51 : decode cX8_stir 51 = .ok (.dup2, 1) := by decide +kernel
theorem dX8_stir_52 : decode cX8_stir 52 = .ok (.iaload, 1) := by decide +kernel
theorem dX8_stir_53 : decode cX8_stir 53 = .ok (.iload_n 3, 1) := by decide +kernel
theorem dX8_stir_54 : decode cX8_stir 54 = .ok (.isub, 1) := by decide +kernel
theorem dX8_stir_55 : decode cX8_stir 55 = .ok (.iastore, 1) := by decide +kernel
theorem dX8_stir_56 : decode cX8_stir 56 = .ok (.aload_n 0, 1) := by decide +kernel
theorem dX8_stir_57 : decode cX8_stir 57 = .ok (.getfield 12, 3) := by decide +kernel
theorem dX8_stir_60 : decode cX8_stir 60 = .ok (.getfield 88, 3) := by decide +kernel
theorem dX8_stir_63 : decode cX8_stir 63 = .ok (.getfield 97, 3) := by decide +kernel
theorem dX8_stir_66 : decode cX8_stir 66 = .ok (.iload_n 2, 1) := by decide +kernel
theorem dX8_stir_67 : decode cX8_stir 67 = .ok (.dup2, 1) := by decide +kernel
theorem dX8_stir_68 : decode cX8_stir 68 = .ok (.iaload, 1) := by decide +kernel
theorem dX8_stir_69 : decode cX8_stir 69 = .ok (.iload_n 3, 1) := by decide +kernel
theorem dX8_stir_70 : decode cX8_stir 70 = .ok (.iadd, 1) := by decide +kernel
theorem dX8_stir_71 : decode cX8_stir 71 = .ok (.iastore, 1) := by decide +kernel
theorem dX8_stir_72 : decode cX8_stir 72 = .ok (.aload_n 0, 1) := by decide +kernel
theorem dX8_stir_73 : decode cX8_stir 73 = .ok (.getfield 12, 3) := by decide +kernel
theorem dX8_stir_76 : decode cX8_stir 76 = .ok (.getfield 88, 3) := by decide +kernel
theorem dX8_stir_79 : decode cX8_stir 79 = .ok (.getfield 97, 3) := by decide +kernel
theorem dX8_stir_82 : decode cX8_stir 82 = .ok (.iload_n 2, 1) := by decide +kernel
theorem dX8_stir_83 : decode cX8_stir 83 = .ok (.iaload, 1) := by decide +kernel
theorem dX8_stir_84 : decode cX8_stir 84 = .ok (.ireturn, 1) := by decide +kernel
theorem dX8_setDrag_0 : decode cX8_setDrag 0 = .ok (.iload_n 1, 1) := by decide +kernel
theorem dX8_setDrag_1 : decode cX8_setDrag 1 = .ok (.iconst 0, 1) := by decide +kernel
theorem dX8_setDrag_2 : decode cX8_setDrag 2 = .ok (.bipush 50, 2) := by decide +kernel
theorem dX8_setDrag_4 : decode cX8_setDrag 4 = .ok (.invokestatic 40, 3) := by decide +kernel
theorem dX8_setDrag_7 : decode cX8_setDrag 7 = .ok (.aload_n 0, 1) := by decide +kernel
theorem dX8_setDrag_8 : decode cX8_setDrag 8 = .ok (.getfield 12, 3) := by decide +kernel
theorem dX8_setDrag_11 : decode cX8_setDrag 11 = .ok (.getfield 88, 3) := by decide +kernel
theorem dX8_setDrag_14 : decode cX8_setDrag 14 = .ok (.getfield 116, 3) := by decide +kernel
theorem dX8_setDrag_17 : decode cX8_setDrag 17 = .ok (.istore_n 2, 1) := by decide +kernel
theorem dX8_setDrag_18 : decode cX8_setDrag 18 = .ok (.aload_n 0, 1) := by decide +kernel
theorem dX8_setDrag_19 : decode cX8_setDrag 19 = .ok (.getfield 12, 3) := by decide +kernel
theorem dX8_setDrag_22 : decode cX8_setDrag 22 = .ok (.getfield 88, 3) := by decide +kernel
theorem dX8_setDrag_25 : decode cX8_setDrag 25 = .ok (.iload_n 1, 1) := by decide +kernel
theorem dX8_setDrag_26 : decode cX8_setDrag 26 = .ok (.putfield 116, 3) := by decide +kernel
theorem dX8_setDrag_29 : decode cX8_setDrag 29 = .ok (.iload_n 2, 1) := by decide +kernel
theorem dX8_setDrag_30 : decode cX8_setDrag 30 = .ok (.ireturn, 1) := by decide +kernel
theorem dX8_getDeep_0 : decode cX8_getDeep 0 = .ok (.aload_n 0, 1) := by decide +kernel
theorem dX8_getDeep_1 : decode cX8_getDeep 1 = .ok (.getfield 12, 3) := by decide +kernel
theorem dX8_getDeep_4 : decode cX8_getDeep 4 = .ok (.getfield 88, 3) := by decide +kernel
theorem dX8_getDeep_7 : decode cX8_getDeep 7 = .ok (.getfield 119, 3) := by decide +kernel
theorem dX8_getDeep_10 : decode cX8_getDeep 10 = .ok (.ireturn, 1) := by decide +kernel
theorem dX8_addStorm_0 : decode cX8_addStorm 0 = .ok (.iload_n 1, 1) := by decide +kernel
theorem dX8_addStorm_1 : decode cX8_addStorm 1 = .ok (.bipush 12, 2) := by decide +kernel
theorem dX8_addStorm_3 : decode cX8_addStorm 3 = .ok (.invokestatic 36, 3) := by decide +kernel
theorem dX8_addStorm_6 : decode cX8_addStorm 6 = .ok (.iload_n 2, 1) := by decide +kernel
theorem dX8_addStorm_7 : decode cX8_addStorm 7 = .ok (.invokestatic 122, 3) := by decide +kernel
theorem dX8_addStorm_10 : decode cX8_addStorm 10 = .ok (.iload_n 3, 1) := by decide +kernel
theorem dX8_addStorm_11 : decode cX8_addStorm 11 = .ok (.bipush 10, 2) := by decide +kernel
theorem dX8_addStorm_13 : decode cX8_addStorm 13 = .ok (.sipush 400, 3) := by decide +kernel
theorem dX8_addStorm_16 : decode cX8_addStorm 16 = .ok (.invokestatic 40, 3) := by decide +kernel
theorem dX8_addStorm_19 : decode cX8_addStorm 19 = .ok (.aload_n 0, 1) := by decide +kernel
theorem dX8_addStorm_20 : decode cX8_addStorm 20 = .ok (.getfield 12, 3) := by decide +kernel
theorem dX8_addStorm_23 : decode cX8_addStorm 23 = .ok (.getfield 126, 3) := by decide +kernel
theorem dX8_addStorm_26 : decode cX8_addStorm 26 = .ok (.getfield 130, 3) := by decide +kernel
theorem dX8_addStorm_29 : decode cX8_addStorm 29 = .ok (.bipush 12, 2) := by decide +kernel
theorem dX8_addStorm_31 : decode cX8_addStorm 31 = .ok (.invokestatic 135, 3) := by decide +kernel
theorem dX8_addStorm_34 : decode cX8_addStorm 34 = .ok (.aload_n 0, 1) := by decide +kernel
theorem dX8_addStorm_35 : decode cX8_addStorm 35 = .ok (.getfield 12, 3) := by decide +kernel
theorem dX8_addStorm_38 : decode cX8_addStorm 38 = .ok (.getfield 126, 3) := by decide +kernel
theorem dX8_addStorm_41 : decode cX8_addStorm 41 = .ok (.iload_n 1, 1) := by decide +kernel
theorem dX8_addStorm_42 : decode cX8_addStorm 42 = .ok (.iload_n 2, 1) := by decide +kernel
theorem dX8_addStorm_43 : decode cX8_addStorm 43 = .ok (.iload_n 3, 1) := by decide +kernel
theorem dX8_addStorm_44 : decode cX8_addStorm 44 = .ok (.invokevirtual 138, 3) := by decide +kernel
theorem dX8_addStorm_47 : decode cX8_addStorm 47 = .ok (.ireturn, 1) := by decide +kernel
theorem dX8_nameStorm_0 : decode cX8_nameStorm 0 = .ok (.aload_n 0, 1) := by decide +kernel
theorem dX8_nameStorm_1 : decode cX8_nameStorm 1 = .ok (.iload_n 1, 1) := by decide +kernel
theorem dX8_nameStorm_2 : decode cX8_nameStorm 2 = .ok (.invokevirtual 141, 3) := by decide +kernel
theorem dX8_nameStorm_5 : decode cX8_nameStorm 5 = .ok (.iload_n 2, 1) := by decide +kernel
theorem dX8_nameStorm_6 : decode cX8_nameStorm 6 = .ok (.invokestatic 144, 3) := by decide +kernel
theorem dX8_nameStorm_9 : decode cX8_nameStorm 9 = .ok (.aload_n 0, 1) := by decide +kernel
theorem dX8_nameStorm_10 : decode cX8_nameStorm 10 = .ok (.getfield 12, 3) := by decide +kernel
theorem dX8_nameStorm_13 : decode cX8_nameStorm 13 = .ok (.getfield 126, 3) := by decide +kernel
theorem dX8_nameStorm_16 : decode cX8_nameStorm 16 = .ok (.iload_n 2, 1) := by decide +kernel
theorem dX8_nameStorm_17 : decode cX8_nameStorm 17 = .ok (.invokevirtual 148, 3) := by decide +kernel
theorem dX8_nameStorm_20 : decode cX8_nameStorm 20 = .ok (.istore_n 3, 1) := by decide +kernel
theorem dX8_nameStorm_21 : decode cX8_nameStorm 21 = .ok (.aload_n 0, 1) := by decide +kernel
theorem dX8_nameStorm_22 : decode cX8_nameStorm 22 = .ok (.getfield 12, 3) := by decide +kernel
theorem dX8_nameStorm_25 : decode cX8_nameStorm 25 = .ok (.getfield 126, 3) := by decide +kernel
theorem dX8_nameStorm_28 : decode cX8_nameStorm 28 = .ok (.getfield 152, 3) := by decide +kernel
theorem dX8_nameStorm_31 : decode cX8_nameStorm 31 = .ok (.iload_n 1, 1) := by decide +kernel
theorem dX8_nameStorm_32 : decode cX8_nameStorm 32 = .ok (.baload, 1) := by decide +kernel
theorem dX8_nameStorm_33 : decode cX8_nameStorm 33 = .ok (.ifCond .eq 12, 3) := by decide +kernel
theorem dX8_nameStorm_36 : decode cX8_nameStorm 36 = .ok (.iload_n 3, 1) := by decide +kernel
theorem dX8_nameStorm_37 : decode cX8_nameStorm 37 = .ok (.ifCond .lt 18, 3) := by decide +kernel
theorem dX8_nameStorm_40 : decode cX8_nameStorm 40 = .ok (.iload_n 3, 1) := by decide +kernel
theorem dX8_nameStorm_41 : decode cX8_nameStorm 41 = .ok (.iload_n 1, 1) := by decide +kernel
theorem dX8_nameStorm_42 : decode cX8_nameStorm 42 = .ok (.if_icmp .eq 13, 3) := by decide +kernel
theorem dX8_nameStorm_45 : decode cX8_nameStorm 45 = .ok (.new 156, 3) := by decide +kernel
theorem dX8_nameStorm_48 : decode cX8_nameStorm 48 = .ok (.dup, 1) := by decide +kernel
theorem dX8_nameStorm_49 : decode cX8_nameStorm 49 = .ok (.ldc 158, 2) := by decide +kernel
theorem dX8_nameStorm_51 : decode cX8_nameStorm 51 = .ok (.invokespecial 160, 3) := by decide +kernel
theorem dX8_nameStorm_54 : decode cX8_nameStorm 54 = .ok (.athrow, 1) := by decide +kernel
theorem dX8_nameStorm_55 : decode cX8_nameStorm 55 = .ok (.aload_n 0, 1) := by decide +kernel
theorem dX8_nameStorm_56 : decode cX8_nameStorm 56 = .ok (.getfield 12, 3) := by decide +kernel
theorem dX8_nameStorm_59 : decode cX8_nameStorm 59 = .ok (.getfield 126, 3) := by decide +kernel
theorem dX8_nameStorm_62 : decode cX8_nameStorm 62 = .ok (.getfield 161, 3) := by decide +kernel
theorem dX8_nameStorm_65 : decode cX8_nameStorm 65 = .ok (.iload_n 1, 1) := by decide +kernel
theorem dX8_nameStorm_66 : decode cX8_nameStorm 66 = .ok (.caload, 1) := by decide +kernel
theorem dX8_nameStorm_67 : decode cX8_nameStorm 67 = .ok (.istore 4, 2) := by decide +kernel
theorem dX8_nameStorm_69 : decode cX8_nameStorm 69 = .ok (.aload_n 0, 1) := by decide +kernel
theorem dX8_nameStorm_70 : decode cX8_nameStorm 70 = .ok (.getfield 12, 3) := by decide +kernel
theorem dX8_nameStorm_73 : decode cX8_nameStorm 73 = .ok (.getfield 126, 3) := by decide +kernel
theorem dX8_nameStorm_76 : decode cX8_nameStorm 76 = .ok (.getfield 161, 3) := by decide +kernel
theorem dX8_nameStorm_79 : decode cX8_nameStorm 79 = .ok (.iload_n 1, 1) := by decide +kernel
theorem dX8_nameStorm_80 : decode cX8_nameStorm 80 = .ok (.iload_n 2, 1) := by decide +kernel
theorem dX8_nameStorm_81 : decode cX8_nameStorm 81 = .ok (.castore, 1) := by decide +kernel
theorem dX8_nameStorm_82 : decode cX8_nameStorm 82 = .ok (.iload 4, 2) := by decide +kernel
theorem dX8_nameStorm_84 : decode cX8_nameStorm 84 = .ok (.ireturn, 1) := by decide +kernel
theorem dX8_findName_0 : decode cX8_findName 0 = .ok (.iload_n 1, 1) := by decide +kernel
theorem dX8_findName_1 : decode cX8_findName 1 = .ok (.invokestatic 144, 3) := by decide +kernel
theorem dX8_findName_4 : decode cX8_findName 4 = .ok (.aload_n 0, 1) := by decide +kernel
theorem dX8_findName_5 : decode cX8_findName 5 = .ok (.getfield 12, 3) := by decide +kernel
theorem dX8_findName_8 : decode cX8_findName 8 = .ok (.getfield 126, 3) := by decide +kernel
theorem dX8_findName_11 : decode cX8_findName 11 = .ok (.iload_n 1, 1) := by decide +kernel
theorem dX8_findName_12 : decode cX8_findName 12 = .ok (.invokevirtual 148, 3) := by decide +kernel
theorem dX8_findName_15 : decode cX8_findName 15 = .ok (.istore_n 2, 1) := by decide +kernel
theorem dX8_findName_16 : decode cX8_findName 16 = .ok (.iload_n 2, 1) := by decide +kernel
theorem dX8_findName_17 : decode cX8_findName 17 = .ok (.ifCond .ge 13, 3) := by decide +kernel
theorem dX8_findName_20 : decode cX8_findName 20 = .ok (.new 73, 3) := by decide +kernel
theorem dX8_findName_23 : decode cX8_findName 23 = .ok (.dup, 1) := by decide +kernel
theorem dX8_findName_24 : decode cX8_findName 24 = .ok (.ldc 165, 2) := by decide +kernel
theorem dX8_findName_26 : decode cX8_findName 26 = .ok (.invokespecial 77, 3) := by decide +kernel
theorem dX8_findName_29 : decode cX8_findName 29 = .ok (.athrow, 1) := by decide +kernel
theorem dX8_findName_30 : decode cX8_findName 30 = .ok (.iload_n 2, 1) := by decide +kernel
theorem dX8_findName_31 : decode cX8_findName 31 = .ok (.ireturn, 1) := by decide +kernel
theorem dX8_getLongitude_0 : decode cX8_getLongitude 0 = .ok (.aload_n 0, 1) := by decide +kernel
theorem dX8_getLongitude_1 : decode cX8_getLongitude 1 = .ok (.iload_n 1, 1) := by decide +kernel
theorem dX8_getLongitude_2 : decode cX8_getLongitude 2 = .ok (.invokevirtual 141, 3) := by decide +kernel
theorem dX8_getLongitude_5 : decode cX8_getLongitude 5 = .ok (.aload_n 0, 1) := by decide +kernel
theorem dX8_getLongitude_6 : decode cX8_getLongitude 6 = .ok (.iload_n 1, 1) := by decide +kernel
theorem dX8_getLongitude_7 : decode cX8_getLongitude 7 = .ok (.invokevirtual 167, 3) := by decide +kernel
theorem dX8_getLongitude_10 : decode cX8_getLongitude 10 = .ok (.aload_n 0, 1) := by decide +kernel
theorem dX8_getLongitude_11 : decode cX8_getLongitude 11 = .ok (.getfield 12, 3) := by decide +kernel
theorem dX8_getLongitude_14 : decode cX8_getLongitude 14 = .ok (.getfield 126, 3) := by decide +kernel
theorem dX8_getLongitude_17 : decode cX8_getLongitude 17 = .ok (.getfield 170, 3) := by decide +kernel
theorem dX8_getLongitude_20 : decode cX8_getLongitude 20 = .ok (.iload_n 1, 1) := by decide +kernel
theorem dX8_getLongitude_21 : decode cX8_getLongitude 21 = .ok (.iaload, 1) := by decide +kernel
theorem dX8_getLongitude_22 : decode cX8_getLongitude 22 = .ok (.ireturn, 1) := by decide +kernel
theorem dX8_getSize_0 : decode cX8_getSize 0 = .ok (.aload_n 0, 1) := by decide +kernel
theorem dX8_getSize_1 : decode cX8_getSize 1 = .ok (.iload_n 1, 1) := by decide +kernel
theorem dX8_getSize_2 : decode cX8_getSize 2 = .ok (.invokevirtual 141, 3) := by decide +kernel
theorem dX8_getSize_5 : decode cX8_getSize 5 = .ok (.aload_n 0, 1) := by decide +kernel
theorem dX8_getSize_6 : decode cX8_getSize 6 = .ok (.iload_n 1, 1) := by decide +kernel
theorem dX8_getSize_7 : decode cX8_getSize 7 = .ok (.invokevirtual 167, 3) := by decide +kernel
theorem dX8_getSize_10 : decode cX8_getSize 10 = .ok (.aload_n 0, 1) := by decide +kernel
theorem dX8_getSize_11 : decode cX8_getSize 11 = .ok (.getfield 12, 3) := by decide +kernel
theorem dX8_getSize_14 : decode cX8_getSize 14 = .ok (.getfield 126, 3) := by decide +kernel
theorem dX8_getSize_17 : decode cX8_getSize 17 = .ok (.getfield 173, 3) := by decide +kernel
theorem dX8_getSize_20 : decode cX8_getSize 20 = .ok (.iload_n 1, 1) := by decide +kernel
theorem dX8_getSize_21 : decode cX8_getSize 21 = .ok (.iaload, 1) := by decide +kernel
theorem dX8_getSize_22 : decode cX8_getSize 22 = .ok (.ireturn, 1) := by decide +kernel
theorem dX8_getAge_0 : decode cX8_getAge 0 = .ok (.aload_n 0, 1) := by decide +kernel
theorem dX8_getAge_1 : decode cX8_getAge 1 = .ok (.iload_n 1, 1) := by decide +kernel
theorem dX8_getAge_2 : decode cX8_getAge 2 = .ok (.invokevirtual 141, 3) := by decide +kernel
theorem dX8_getAge_5 : decode cX8_getAge 5 = .ok (.aload_n 0, 1) := by decide +kernel
theorem dX8_getAge_6 : decode cX8_getAge 6 = .ok (.getfield 12, 3) := by decide +kernel
theorem dX8_getAge_9 : decode cX8_getAge 9 = .ok (.getfield 126, 3) := by decide +kernel
theorem dX8_getAge_12 : decode cX8_getAge 12 = .ok (.getfield 176, 3) := by decide +kernel
theorem dX8_getAge_15 : decode cX8_getAge 15 = .ok (.iload_n 1, 1) := by decide +kernel
theorem dX8_getAge_16 : decode cX8_getAge 16 = .ok (.iaload, 1) := by decide +kernel
theorem dX8_getAge_17 : decode cX8_getAge 17 = .ok (.ireturn, 1) := by decide +kernel
theorem dX8_isThere_0 : decode cX8_isThere 0 = .ok (.aload_n 0, 1) := by decide +kernel
theorem dX8_isThere_1 : decode cX8_isThere 1 = .ok (.iload_n 1, 1) := by decide +kernel
theorem dX8_isThere_2 : decode cX8_isThere 2 = .ok (.invokevirtual 141, 3) := by decide +kernel
theorem dX8_isThere_5 : decode cX8_isThere 5 = .ok (.aload_n 0, 1) := by decide +kernel
theorem dX8_isThere_6 : decode cX8_isThere 6 = .ok (.getfield 12, 3) := by decide +kernel
theorem dX8_isThere_9 : decode cX8_isThere 9 = .ok (.getfield 126, 3) := by decide +kernel
theorem dX8_isThere_12 : decode cX8_isThere 12 = .ok (.getfield 152, 3) := by decide +kernel
theorem dX8_isThere_15 : decode cX8_isThere 15 = .ok (.iload_n 1, 1) := by decide +kernel
theorem dX8_isThere_16 : decode cX8_isThere 16 = .ok (.baload, 1) := by decide +kernel
theorem dX8_isThere_17 : decode cX8_isThere 17 = .ok (.ireturn, 1) := by decide +kernel
theorem dX8_livesIn_0 : decode cX8_livesIn 0 = .ok (.aload_n 0, 1) := by decide +kernel
theorem dX8_livesIn_1 : decode cX8_livesIn 1 = .ok (.iload_n 1, 1) := by decide +kernel
theorem dX8_livesIn_2 : decode cX8_livesIn 2 = .ok (.invokevirtual 141, 3) := by decide +kernel
theorem dX8_livesIn_5 : decode cX8_livesIn 5 = .ok (.aload_n 0, 1) := by decide +kernel
theorem dX8_livesIn_6 : decode cX8_livesIn 6 = .ok (.getfield 12, 3) := by decide +kernel
theorem dX8_livesIn_9 : decode cX8_livesIn 9 = .ok (.getfield 126, 3) := by decide +kernel
theorem dX8_livesIn_12 : decode cX8_livesIn 12 = .ok (.iload_n 1, 1) := by decide +kernel
theorem dX8_livesIn_13 : decode cX8_livesIn 13 = .ok (.invokevirtual 179, 3) := by decide +kernel
theorem dX8_livesIn_16 : decode cX8_livesIn 16 = .ok (.istore_n 2, 1) := by decide +kernel
theorem dX8_livesIn_17 : decode cX8_livesIn 17 = .ok (.iload_n 2, 1) := by decide +kernel
theorem dX8_livesIn_18 : decode cX8_livesIn 18 = .ok (.ifCond .ge 13, 3) := by decide +kernel
theorem dX8_livesIn_21 : decode cX8_livesIn 21 = .ok (.new 73, 3) := by decide +kernel
theorem dX8_livesIn_24 : decode cX8_livesIn 24 = .ok (.dup, 1) := by decide +kernel
theorem dX8_livesIn_25 : decode cX8_livesIn 25 = .ok (.ldc 182, 2) := by decide +kernel
theorem dX8_livesIn_27 : decode cX8_livesIn 27 = .ok (.invokespecial 77, 3) := by decide +kernel
theorem dX8_livesIn_30 : decode cX8_livesIn 30 = .ok (.athrow, 1) := by decide +kernel
theorem dX8_livesIn_31 : decode cX8_livesIn 31 = .ok (.iload_n 2, 1) := by decide +kernel
theorem dX8_livesIn_32 : decode cX8_livesIn 32 = .ok (.ireturn, 1) := by decide +kernel
theorem dX8_burst_0 : decode cX8_burst 0 = .ok (.iload_n 1, 1) := by decide +kernel
theorem dX8_burst_1 : decode cX8_burst 1 = .ok (.bipush 12, 2) := by decide +kernel
theorem dX8_burst_3 : decode cX8_burst 3 = .ok (.invokestatic 36, 3) := by decide +kernel
theorem dX8_burst_6 : decode cX8_burst 6 = .ok (.iload_n 2, 1) := by decide +kernel
theorem dX8_burst_7 : decode cX8_burst 7 = .ok (.invokestatic 122, 3) := by decide +kernel
theorem dX8_burst_10 : decode cX8_burst 10 = .ok (.aload_n 0, 1) := by decide +kernel
theorem dX8_burst_11 : decode cX8_burst 11 = .ok (.getfield 12, 3) := by decide +kernel
theorem dX8_burst_14 : decode cX8_burst 14 = .ok (.getfield 44, 3) := by decide +kernel
theorem dX8_burst_17 : decode cX8_burst 17 = .ok (.invokevirtual 184, 3) := by decide +kernel
theorem dX8_burst_20 : decode cX8_burst 20 = .ok (.ifCond .ne 13, 3) := by decide +kernel
theorem dX8_burst_23 : decode cX8_burst 23 = .ok (.new 156, 3) := by decide +kernel
theorem dX8_burst_26 : decode cX8_burst 26 = .ok (.dup, 1) := by decide +kernel
theorem dX8_burst_27 : decode cX8_burst 27 = .ok (.ldc 188, 2) := by decide +kernel
theorem dX8_burst_29 : decode cX8_burst 29 = .ok (.invokespecial 160, 3) := by decide +kernel
theorem dX8_burst_32 : decode cX8_burst 32 = .ok (.athrow, 1) := by decide +kernel
theorem dX8_burst_33 : decode cX8_burst 33 = .ok (.aload_n 0, 1) := by decide +kernel
theorem dX8_burst_34 : decode cX8_burst 34 = .ok (.getfield 12, 3) := by decide +kernel
theorem dX8_burst_37 : decode cX8_burst 37 = .ok (.getfield 126, 3) := by decide +kernel
theorem dX8_burst_40 : decode cX8_burst 40 = .ok (.getfield 130, 3) := by decide +kernel
theorem dX8_burst_43 : decode cX8_burst 43 = .ok (.bipush 12, 2) := by decide +kernel
theorem dX8_burst_45 : decode cX8_burst 45 = .ok (.invokestatic 135, 3) := by decide +kernel
theorem dX8_burst_48 : decode cX8_burst 48 = .ok (.aload_n 0, 1) := by decide +kernel
theorem dX8_burst_49 : decode cX8_burst 49 = .ok (.getfield 12, 3) := by decide +kernel
theorem dX8_burst_52 : decode cX8_burst 52 = .ok (.getfield 44, 3) := by decide +kernel
theorem dX8_burst_55 : decode cX8_burst 55 = .ok (.invokevirtual 190, 3) := by decide +kernel
theorem dX8_burst_58 : decode cX8_burst 58 = .ok (.aload_n 0, 1) := by decide +kernel
theorem dX8_burst_59 : decode cX8_burst 59 = .ok (.getfield 12, 3) := by decide +kernel
theorem dX8_burst_62 : decode cX8_burst 62 = .ok (.getfield 126, 3) := by decide +kernel
theorem dX8_burst_65 : decode cX8_burst 65 = .ok (.iload_n 1, 1) := by decide +kernel
theorem dX8_burst_66 : decode cX8_burst 66 = .ok (.iload_n 2, 1) := by decide +kernel
theorem dX8_burst_67 : decode cX8_burst 67 = .ok (.bipush 60, 2) := by decide +kernel
theorem dX8_burst_69 : decode cX8_burst 69 = .ok (.invokevirtual 138, 3) := by decide +kernel
theorem dX8_burst_72 : decode cX8_burst 72 = .ok (.istore_n 3, 1) := by decide +kernel
theorem dX8_burst_73 : decode cX8_burst 73 = .ok (.aload_n 0, 1) := by decide +kernel
theorem dX8_burst_74 : decode cX8_burst 74 = .ok (.getfield 12, 3) := by decide +kernel
theorem dX8_burst_77 : decode cX8_burst 77 = .ok (.getfield 193, 3) := by decide +kernel
theorem dX8_burst_80 : decode cX8_burst 80 = .ok (.bipush 112, 2) := by decide +kernel
theorem dX8_burst_82 : decode cX8_burst 82 = .ok (.iload_n 3, 1) := by decide +kernel
theorem dX8_burst_83 : decode cX8_burst 83 = .ok (.invokevirtual 197, 3) := by decide +kernel
theorem dX8_burst_86 : decode cX8_burst 86 = .ok (.iload_n 3, 1) := by decide +kernel
theorem dX8_burst_87 : decode cX8_burst 87 = .ok (.ireturn, 1) := by decide +kernel
theorem dX8_strike_0 : decode cX8_strike 0 = .ok (.iload_n 1, 1) := by decide +kernel
theorem dX8_strike_1 : decode cX8_strike 1 = .ok (.bipush 12, 2) := by decide +kernel
theorem dX8_strike_3 : decode cX8_strike 3 = .ok (.invokestatic 36, 3) := by decide +kernel
theorem dX8_strike_6 : decode cX8_strike 6 = .ok (.iload_n 2, 1) := by decide +kernel
theorem dX8_strike_7 : decode cX8_strike 7 = .ok (.invokestatic 122, 3) := by decide +kernel
theorem dX8_strike_10 : decode cX8_strike 10 = .ok (.iload_n 3, 1) := by decide +kernel
theorem dX8_strike_11 : decode cX8_strike 11 = .ok (.iconst 1, 1) := by decide +kernel
theorem dX8_strike_12 : decode cX8_strike 12 = .ok (.bipush 100, 2) := by decide +kernel
theorem dX8_strike_14 : decode cX8_strike 14 = .ok (.invokestatic 40, 3) := by decide +kernel
theorem dX8_strike_17 : decode cX8_strike 17 = .ok (.aload_n 0, 1) := by decide +kernel
theorem dX8_strike_18 : decode cX8_strike 18 = .ok (.getfield 12, 3) := by decide +kernel
theorem dX8_strike_21 : decode cX8_strike 21 = .ok (.getfield 203, 3) := by decide +kernel
theorem dX8_strike_24 : decode cX8_strike 24 = .ok (.getfield 207, 3) := by decide +kernel
theorem dX8_strike_27 : decode cX8_strike 27 = .ok (.bipush 8, 2) := by decide +kernel
theorem dX8_strike_29 : decode cX8_strike 29 = .ok (.invokestatic 135, 3) := by decide +kernel
theorem dX8_strike_32 : decode cX8_strike 32 = .ok (.aload_n 0, 1) := by decide +kernel
theorem dX8_strike_33 : decode cX8_strike 33 = .ok (.getfield 12, 3) := by decide +kernel
theorem dX8_strike_36 : decode cX8_strike 36 = .ok (.getfield 203, 3) := by decide +kernel
theorem dX8_strike_39 : decode cX8_strike 39 = .ok (.iload_n 1, 1) := by decide +kernel
theorem dX8_strike_40 : decode cX8_strike 40 = .ok (.iload_n 3, 1) := by decide +kernel
theorem dX8_strike_41 : decode cX8_strike 41 = .ok (.invokevirtual 210, 3) := by decide +kernel
theorem dX8_strike_44 : decode cX8_strike 44 = .ok (.istore 4, 2) := by decide +kernel
theorem dX8_strike_46 : decode cX8_strike 46 = .ok (.aload_n 0, 1) := by decide +kernel
theorem dX8_strike_47 : decode cX8_strike 47 = .ok (.getfield 12, 3) := by decide +kernel
theorem dX8_strike_50 : decode cX8_strike 50 = .ok (.getfield 193, 3) := by decide +kernel
theorem dX8_strike_53 : decode cX8_strike 53 = .ok (.bipush 107, 2) := by decide +kernel
theorem dX8_strike_55 : decode cX8_strike 55 = .ok (.iload 4, 2) := by decide +kernel
theorem dX8_strike_57 : decode cX8_strike 57 = .ok (.invokevirtual 197, 3) := by decide +kernel
theorem dX8_strike_60 : decode cX8_strike 60 = .ok (.iload 4, 2) := by decide +kernel
theorem dX8_strike_62 : decode cX8_strike 62 = .ok (.ireturn, 1) := by decide +kernel
theorem dX8_getWidth_0 : decode cX8_getWidth 0 = .ok (.iload_n 1, 1) := by decide +kernel
theorem dX8_getWidth_1 : decode cX8_getWidth 1 = .ok (.aload_n 0, 1) := by decide +kernel
theorem dX8_getWidth_2 : decode cX8_getWidth 2 = .ok (.getfield 12, 3) := by decide +kernel
theorem dX8_getWidth_5 : decode cX8_getWidth 5 = .ok (.getfield 203, 3) := by decide +kernel
theorem dX8_getWidth_8 : decode cX8_getWidth 8 = .ok (.getfield 207, 3) := by decide +kernel
theorem dX8_getWidth_11 : decode cX8_getWidth 11 = .ok (.bipush 8, 2) := by decide +kernel
theorem dX8_getWidth_13 : decode cX8_getWidth 13 = .ok (.invokestatic 212, 3) := by decide +kernel
theorem dX8_getWidth_16 : decode cX8_getWidth 16 = .ok (.invokestatic 36, 3) := by decide +kernel
theorem dX8_getWidth_19 : decode cX8_getWidth 19 = .ok (.aload_n 0, 1) := by decide +kernel
theorem dX8_getWidth_20 : decode cX8_getWidth 20 = .ok (.getfield 12, 3) := by decide +kernel
theorem dX8_getWidth_23 : decode cX8_getWidth 23 = .ok (.getfield 203, 3) := by decide +kernel
theorem dX8_getWidth_26 : decode cX8_getWidth 26 = .ok (.getfield 215, 3) := by decide +kernel
theorem dX8_getWidth_29 : decode cX8_getWidth 29 = .ok (.iload_n 1, 1) := by decide +kernel
theorem dX8_getWidth_30 : decode cX8_getWidth 30 = .ok (.iaload, 1) := by decide +kernel
theorem dX8_getWidth_31 : decode cX8_getWidth 31 = .ok (.ireturn, 1) := by decide +kernel
theorem dX8_scarTurns_0 : decode cX8_scarTurns 0 = .ok (.iload_n 1, 1) := by decide +kernel
theorem dX8_scarTurns_1 : decode cX8_scarTurns 1 = .ok (.aload_n 0, 1) := by decide +kernel
theorem dX8_scarTurns_2 : decode cX8_scarTurns 2 = .ok (.getfield 12, 3) := by decide +kernel
theorem dX8_scarTurns_5 : decode cX8_scarTurns 5 = .ok (.getfield 203, 3) := by decide +kernel
theorem dX8_scarTurns_8 : decode cX8_scarTurns 8 = .ok (.getfield 207, 3) := by decide +kernel
theorem dX8_scarTurns_11 : decode cX8_scarTurns 11 = .ok (.bipush 8, 2) := by decide +kernel
theorem dX8_scarTurns_13 : decode cX8_scarTurns 13 = .ok (.invokestatic 212, 3) := by decide +kernel
theorem dX8_scarTurns_16 : decode cX8_scarTurns 16 = .ok (.invokestatic 36, 3) := by decide +kernel
theorem dX8_scarTurns_19 : decode cX8_scarTurns 19 = .ok (.aload_n 0, 1) := by decide +kernel
theorem dX8_scarTurns_20 : decode cX8_scarTurns 20 = .ok (.getfield 12, 3) := by decide +kernel
theorem dX8_scarTurns_23 : decode cX8_scarTurns 23 = .ok (.getfield 203, 3) := by decide +kernel
theorem dX8_scarTurns_26 : decode cX8_scarTurns 26 = .ok (.iload_n 1, 1) := by decide +kernel
theorem dX8_scarTurns_27 : decode cX8_scarTurns 27 = .ok (.aload_n 0, 1) := by decide +kernel
theorem dX8_scarTurns_28 : decode cX8_scarTurns 28 = .ok (.getfield 12, 3) := by decide +kernel
theorem dX8_scarTurns_31 : decode cX8_scarTurns 31 = .ok (.getfield 88, 3) := by decide +kernel
theorem dX8_scarTurns_34 : decode cX8_scarTurns 34 = .ok (.invokevirtual 218, 3) := by decide +kernel
theorem dX8_scarTurns_37 : decode cX8_scarTurns 37 = .ok (.ireturn, 1) := by decide +kernel
theorem dX8_turn_0 : decode cX8_turn 0 = .ok (.iload_n 1, 1) := by decide +kernel
theorem dX8_turn_1 : decode cX8_turn 1 = .ok (.iconst 1, 1) := by decide +kernel
theorem dX8_turn_2 : decode cX8_turn 2 = .ok (.sipush 200, 3) := by decide +kernel
theorem dX8_turn_5 : decode cX8_turn 5 = .ok (.invokestatic 40, 3) := by decide +kernel
theorem dX8_turn_8 : decode cX8_turn 8 = .ok (.iconst 0, 1) := by decide +kernel
theorem dX8_turn_9 : decode cX8_turn 9 = .ok (.istore_n 2, 1) := by decide +kernel
theorem dX8_turn_10 : decode cX8_turn 10 = .ok (.iload_n 2, 1) := by decide +kernel
theorem dX8_turn_11 : decode cX8_turn 11 = .ok (.iload_n 1, 1) := by decide +kernel
theorem dX8_turn_12 : decode cX8_turn 12 = .ok (.if_icmp .ge 16, 3) := by decide +kernel
theorem dX8_turn_15 : decode cX8_turn 15 = .ok (.aload_n 0, 1) := by decide +kernel
theorem dX8_turn_16 : decode cX8_turn 16 = .ok (.getfield 12, 3) := by decide +kernel
theorem dX8_turn_19 : decode cX8_turn 19 = .ok (.invokevirtual 222, 3) := by decide +kernel
theorem dX8_turn_22 : decode cX8_turn 22 = .ok (.iinc 2 1, 3) := by decide +kernel
theorem dX8_turn_25 : decode cX8_turn 25 = .ok (.goto (-15), 3) := by decide +kernel
theorem dX8_turn_28 : decode cX8_turn 28 = .ok (.aload_n 0, 1) := by decide +kernel
theorem dX8_turn_29 : decode cX8_turn 29 = .ok (.getfield 12, 3) := by decide +kernel
theorem dX8_turn_32 : decode cX8_turn 32 = .ok (.getfield 225, 3) := by decide +kernel
theorem dX8_turn_35 : decode cX8_turn 35 = .ok (.ireturn, 1) := by decide +kernel
theorem dX8_dropProbe_0 : decode cX8_dropProbe 0 = .ok (.iload_n 1, 1) := by decide +kernel
theorem dX8_dropProbe_1 : decode cX8_dropProbe 1 = .ok (.iconst 1, 1) := by decide +kernel
theorem dX8_dropProbe_2 : decode cX8_dropProbe 2 = .ok (.bipush 9, 2) := by decide +kernel
theorem dX8_dropProbe_4 : decode cX8_dropProbe 4 = .ok (.invokestatic 40, 3) := by decide +kernel
theorem dX8_dropProbe_7 : decode cX8_dropProbe 7 = .ok (.iload_n 2, 1) := by decide +kernel
theorem dX8_dropProbe_8 : decode cX8_dropProbe 8 = .ok (.iconst 1, 1) := by decide +kernel
theorem dX8_dropProbe_9 : decode cX8_dropProbe 9 = .ok (.bipush 60, 2) := by decide +kernel
theorem dX8_dropProbe_11 : decode cX8_dropProbe 11 = .ok (.invokestatic 40, 3) := by decide +kernel
theorem dX8_dropProbe_14 : decode cX8_dropProbe 14 = .ok (.iload_n 3, 1) := by decide +kernel
theorem dX8_dropProbe_15 : decode cX8_dropProbe 15 = .ok (.iconst 1, 1) := by decide +kernel
theorem dX8_dropProbe_16 : decode cX8_dropProbe 16 = .ok (.iconst 3, 1) := by decide +kernel
theorem dX8_dropProbe_17 : decode cX8_dropProbe 17 = .ok (.invokestatic 40, 3) := by decide +kernel
theorem dX8_dropProbe_20 : decode cX8_dropProbe 20 = .ok (.aload_n 0, 1) := by decide +kernel
theorem dX8_dropProbe_21 : decode cX8_dropProbe 21 = .ok (.getfield 228, 3) := by decide +kernel
theorem dX8_dropProbe_24 : decode cX8_dropProbe 24 = .ok (.iconst 4, 1) := by decide +kernel
theorem dX8_dropProbe_25 : decode cX8_dropProbe 25 = .ok (.invokestatic 135, 3) := by decide +kernel
theorem dX8_dropProbe_28 : decode cX8_dropProbe 28 = .ok (.aload_n 0, 1) := by decide +kernel
theorem dX8_dropProbe_29 : decode cX8_dropProbe 29 = .ok (.getfield 228, 3) := by decide +kernel
theorem dX8_dropProbe_32 : decode cX8_dropProbe 32 = .ok (.istore 5, 2) := by decide +kernel
theorem dX8_dropProbe_34 : decode cX8_dropProbe 34 = .ok (.aload_n 0, 1) := by decide +kernel
theorem dX8_dropProbe_35 : decode cX8_dropProbe 35 = .ok (.getfield 26, 3) := by decide +kernel
theorem dX8_dropProbe_38 : decode cX8_dropProbe 38 = .ok (.iload 5, 2) := by decide +kernel
theorem dX8_dropProbe_40 : decode cX8_dropProbe 40 = .ok (.new 24, 3) := by decide +kernel
theorem dX8_dropProbe_43 : decode cX8_dropProbe 43 = .ok (.dup, 1) := by decide +kernel
theorem dX8_dropProbe_44 : decode cX8_dropProbe 44 = .ok (.iload_n 1, 1) := by decide +kernel
theorem dX8_dropProbe_45 : decode cX8_dropProbe 45 = .ok (.iload_n 2, 1) := by decide +kernel
theorem dX8_dropProbe_46 : decode cX8_dropProbe 46 = .ok (.iload_n 3, 1) := by decide +kernel
theorem dX8_dropProbe_47 : decode cX8_dropProbe 47 = .ok (.iload 4, 2) := by decide +kernel
theorem dX8_dropProbe_49 : decode cX8_dropProbe 49 = .ok (.invokespecial 231, 3) := by decide +kernel
theorem dX8_dropProbe_52 : decode cX8_dropProbe 52 = .ok (.aastore, 1) := by decide +kernel
theorem dX8_dropProbe_53 : decode cX8_dropProbe 53 = .ok (.aload_n 0, 1) := by decide +kernel
theorem dX8_dropProbe_54 : decode cX8_dropProbe 54 = .ok (.dup, 1) := by decide +kernel
theorem dX8_dropProbe_55 : decode cX8_dropProbe 55 = .ok (.getfield 228, 3) := by decide +kernel
theorem dX8_dropProbe_58 : decode cX8_dropProbe 58 = .ok (.iconst 1, 1) := by decide +kernel
theorem dX8_dropProbe_59 : decode cX8_dropProbe 59 = .ok (.iadd, 1) := by decide +kernel
theorem dX8_dropProbe_60 : decode cX8_dropProbe 60 = .ok (.putfield 228, 3) := by decide +kernel
theorem dX8_dropProbe_63 : decode cX8_dropProbe 63 = .ok (.iload 5, 2) := by decide +kernel
theorem dX8_dropProbe_65 : decode cX8_dropProbe 65 = .ok (.ireturn, 1) := by decide +kernel
theorem dX8_tick_0 : decode cX8_tick 0 = .ok (.aload_n 0, 1) := by decide +kernel
theorem dX8_tick_1 : decode cX8_tick 1 = .ok (.iload_n 1, 1) := by decide +kernel
theorem dX8_tick_2 : decode cX8_tick 2 = .ok (.invokevirtual 234, 3) := by decide +kernel
theorem dX8_tick_5 : decode cX8_tick 5 = .ok (.astore_n 2, 1) := by decide +kernel
theorem dX8_tick_6 : decode cX8_tick 6 = .ok (.aload_n 2, 1) := by decide +kernel
theorem dX8_tick_7 : decode cX8_tick 7 = .ok (.getfield 238, 3) := by decide +kernel
theorem dX8_tick_10 : decode cX8_tick 10 = .ok (.ifCond .eq 13, 3) := by decide +kernel
theorem dX8_tick_13 : decode cX8_tick 13 = .ok (.new 156, 3) := by decide +kernel
theorem dX8_tick_16 : decode cX8_tick 16 = .ok (.dup, 1) := by decide +kernel
theorem dX8_tick_17 : decode cX8_tick 17 = .ok (.ldc 242, 2) := by decide +kernel
theorem dX8_tick_19 : decode cX8_tick 19 = .ok (.invokespecial 160, 3) := by decide +kernel
theorem dX8_tick_22 : decode cX8_tick 22 = .ok (.athrow, 1) := by decide +kernel
theorem dX8_tick_23 : decode cX8_tick 23 = .ok (.aload_n 2, 1) := by decide +kernel
theorem dX8_tick_24 : decode cX8_tick 24 = .ok (.aload_n 0, 1) := by decide +kernel
theorem dX8_tick_25 : decode cX8_tick 25 = .ok (.getfield 12, 3) := by decide +kernel
theorem dX8_tick_28 : decode cX8_tick 28 = .ok (.getfield 44, 3) := by decide +kernel
theorem dX8_tick_31 : decode cX8_tick 31 = .ok (.invokevirtual 244, 3) := by decide +kernel
theorem dX8_tick_34 : decode cX8_tick 34 = .ok (.aload_n 2, 1) := by decide +kernel
theorem dX8_tick_35 : decode cX8_tick 35 = .ok (.getfield 238, 3) := by decide +kernel
theorem dX8_tick_38 : decode cX8_tick 38 = .ok (.ifCond .eq 7, 3) := by decide +kernel
theorem dX8_tick_41 : decode cX8_tick 41 = .ok (.iconst (-1), 1) := by decide +kernel
theorem dX8_tick_42 : decode cX8_tick 42 = .ok (.goto 7, 3) := by decide +kernel
theorem dX8_tick_45 : decode cX8_tick 45 = .ok (.aload_n 2, 1) := by decide +kernel
theorem dX8_tick_46 : decode cX8_tick 46 = .ok (.getfield 247, 3) := by decide +kernel
theorem dX8_tick_49 : decode cX8_tick 49 = .ok (.ireturn, 1) := by decide +kernel
theorem dX8_sent_0 : decode cX8_sent 0 = .ok (.aload_n 0, 1) := by decide +kernel
theorem dX8_sent_1 : decode cX8_sent 1 = .ok (.iload_n 1, 1) := by decide +kernel
theorem dX8_sent_2 : decode cX8_sent 2 = .ok (.invokevirtual 234, 3) := by decide +kernel
theorem dX8_sent_5 : decode cX8_sent 5 = .ok (.getfield 250, 3) := by decide +kernel
theorem dX8_sent_8 : decode cX8_sent 8 = .ok (.ireturn, 1) := by decide +kernel
theorem dX8_sentAt_0 : decode cX8_sentAt 0 = .ok (.aload_n 0, 1) := by decide +kernel
theorem dX8_sentAt_1 : decode cX8_sentAt 1 = .ok (.iload_n 1, 1) := by decide +kernel
theorem dX8_sentAt_2 : decode cX8_sentAt 2 = .ok (.invokevirtual 234, 3) := by decide +kernel
theorem dX8_sentAt_5 : decode cX8_sentAt 5 = .ok (.astore 4, 2) := by decide +kernel
theorem dX8_sentAt_7 : decode cX8_sentAt 7 = .ok (.iload_n 3, 1) := by decide +kernel
theorem dX8_sentAt_8 : decode cX8_sentAt 8 = .ok (.bipush 108, 2) := by decide +kernel
theorem dX8_sentAt_10 : decode cX8_sentAt 10 = .ok (.if_icmp .eq 25, 3) := by decide +kernel
theorem dX8_sentAt_13 : decode cX8_sentAt 13 = .ok (.iload_n 3, 1) := by decide +kernel
theorem dX8_sentAt_14 : decode cX8_sentAt 14 = .ok (.bipush 116, 2) := by decide +kernel
theorem dX8_sentAt_16 : decode cX8_sentAt 16 = .ok (.if_icmp .eq 19, 3) := by decide +kernel
theorem dX8_sentAt_19 : decode cX8_sentAt 19 = .ok (.iload_n 3, 1) := by decide +kernel
theorem dX8_sentAt_20 : decode cX8_sentAt 20 = .ok (.bipush 105, 2) := by decide +kernel
theorem dX8_sentAt_22 : decode cX8_sentAt 22 = .ok (.if_icmp .eq 13, 3) := by decide +kernel
theorem dX8_sentAt_25 : decode cX8_sentAt 25 = .ok (.new 111, 3) := by decide +kernel
theorem dX8_sentAt_28 : decode cX8_sentAt 28 = .ok (.dup, 1) := by decide +kernel
theorem dX8_sentAt_29 : decode cX8_sentAt 29 = .ok (.ldc 253, 2) := by decide +kernel
theorem dX8_sentAt_31 : decode cX8_sentAt 31 = .ok (.invokespecial 115, 3) := by decide +kernel
theorem dX8_sentAt_34 : decode cX8_sentAt 34 = .ok (.athrow, 1) := by decide +kernel
theorem dX8_sentAt_35 : decode cX8_sentAt 35 = .ok (.iload_n 2, 1) := by decide +kernel
theorem dX8_sentAt_36 : decode cX8_sentAt 36 = .ok (.ifCond .lt 18, 3) := by decide +kernel
theorem dX8_sentAt_39 : decode cX8_sentAt 39 = .ok (.iload_n 2, 1) := by decide +kernel
theorem dX8_sentAt_40 : decode cX8_sentAt 40 = .ok (.aload 4, 2) := by decide +kernel
theorem dX8_sentAt_42 : decode cX8_sentAt 42 = .ok (.getfield 250, 3) := by decide +kernel
theorem dX8_sentAt_45 : decode cX8_sentAt 45 = .ok (.if_icmp .ge 9, 3) := by decide +kernel
theorem dX8_sentAt_48 : decode cX8_sentAt 48 = .ok (.iload_n 2, 1) := by decide +kernel
theorem dX8_sentAt_49 : decode cX8_sentAt 49 = .ok (.bipush 19, 2) := by decide +kernel
theorem dX8_sentAt_51 : decode cX8_sentAt 51 = .ok (.if_icmp .lt 13, 3) := by decide +kernel
theorem dX8_sentAt_54 : decode cX8_sentAt 54 = .ok (.new 73, 3) := by decide +kernel
theorem dX8_sentAt_57 : decode cX8_sentAt 57 = .ok (.dup, 1) := by decide +kernel
theorem dX8_sentAt_58 : decode cX8_sentAt 58 = .ok (.ldc 255, 2) := by decide +kernel
theorem dX8_sentAt_60 : decode cX8_sentAt 60 = .ok (.invokespecial 77, 3) := by decide +kernel
theorem dX8_sentAt_63 : decode cX8_sentAt 63 = .ok (.athrow, 1) := by decide +kernel
theorem dX8_sentAt_64 : decode cX8_sentAt 64 = .ok (.aload 4, 2) := by decide +kernel
theorem dX8_sentAt_66 : decode cX8_sentAt 66 = .ok (.getfield 257, 3) := by decide +kernel
theorem dX8_sentAt_69 : decode cX8_sentAt 69 = .ok (.iload_n 2, 1) := by decide +kernel
theorem dX8_sentAt_70 : decode cX8_sentAt 70 = .ok (.iaload, 1) := by decide +kernel
theorem dX8_sentAt_71 : decode cX8_sentAt 71 = .ok (.istore 5, 2) := by decide +kernel
theorem dX8_sentAt_73 : decode cX8_sentAt 73 = .ok (.iload 5, 2) := by decide +kernel
theorem dX8_sentAt_75 : decode cX8_sentAt 75 = .ok (.ifCond .lt 10, 3) := by decide +kernel
theorem dX8_sentAt_78 : decode cX8_sentAt 78 = .ok (.iload 5, 2) := by decide +kernel
theorem dX8_sentAt_80 : decode cX8_sentAt 80 = .ok (.bipush 19, 2) := by decide +kernel
theorem dX8_sentAt_82 : decode cX8_sentAt 82 = .ok (.if_icmp .lt 13, 3) := by decide +kernel
theorem dX8_sentAt_85 : decode cX8_sentAt 85 = .ok (.new 73, 3) := by decide +kernel
theorem dX8_sentAt_88 : decode cX8_sentAt 88 = .ok (.dup, 1) := by decide +kernel
theorem dX8_sentAt_89 : decode cX8_sentAt 89 = .ok (.ldc 255, 2) := by decide +kernel
theorem dX8_sentAt_91 : decode cX8_sentAt 91 = .ok (.invokespecial 77, 3) := by decide +kernel
theorem dX8_sentAt_94 : decode cX8_sentAt 94 = .ok (.athrow, 1) := by decide +kernel
theorem dX8_sentAt_95 : decode cX8_sentAt 95 = .ok (.iload_n 3, 1) := by decide +kernel
theorem dX8_sentAt_96 : decode cX8_sentAt 96 = .ok (.bipush 108, 2) := by decide +kernel
theorem dX8_sentAt_98 : decode cX8_sentAt 98 = .ok (.if_icmp .ne 12, 3) := by decide +kernel
theorem dX8_sentAt_101 : decode cX8_sentAt 101 = .ok (.aload 4, 2) := by decide +kernel
theorem dX8_sentAt_103 : decode cX8_sentAt 103 = .ok (.getfield 260, 3) := by decide +kernel
theorem dX8_sentAt_106 : decode cX8_sentAt 106 = .ok (.iload 5, 2) := by decide +kernel
theorem dX8_sentAt_108 : decode cX8_sentAt 108 = .ok (.iaload, 1) := by decide +kernel
theorem dX8_sentAt_109 : decode cX8_sentAt 109 = .ok (.ireturn, 1) := by decide +kernel
theorem dX8_sentAt_110 : decode cX8_sentAt 110 = .ok (.iload_n 3, 1) := by decide +kernel
theorem dX8_sentAt_111 : decode cX8_sentAt 111 = .ok (.bipush 116, 2) := by decide +kernel
theorem dX8_sentAt_113 : decode cX8_sentAt 113 = .ok (.if_icmp .ne 14, 3) := by decide +kernel
theorem dX8_sentAt_116 : decode cX8_sentAt 116 = .ok (.aload 4, 2) := by decide +kernel
theorem dX8_sentAt_118 : decode cX8_sentAt 118 = .ok (.getfield 263, 3) := by decide +kernel
theorem dX8_sentAt_121 : decode cX8_sentAt 121 = .ok (.iload 5, 2) := by decide +kernel
theorem dX8_sentAt_123 : decode cX8_sentAt 123 = .ok (.iaload, 1) := by decide +kernel
theorem dX8_sentAt_124 : decode cX8_sentAt 124 = .ok (.goto 11, 3) := by decide +kernel
theorem dX8_sentAt_127 : decode cX8_sentAt 127 = .ok (.aload 4, 2) := by decide +kernel
theorem dX8_sentAt_129 : decode cX8_sentAt 129 = .ok (.getfield 264, 3) := by decide +kernel
theorem dX8_sentAt_132 : decode cX8_sentAt 132 = .ok (.iload 5, 2) := by decide +kernel
theorem dX8_sentAt_134 : decode cX8_sentAt 134 = .ok (.iaload, 1) := by decide +kernel
theorem dX8_sentAt_135 : decode cX8_sentAt 135 = .ok (.ireturn, 1) := by decide +kernel
theorem dX8_lost_0 : decode cX8_lost 0 = .ok (.aload_n 0, 1) := by decide +kernel
theorem dX8_lost_1 : decode cX8_lost 1 = .ok (.iload_n 1, 1) := by decide +kernel
theorem dX8_lost_2 : decode cX8_lost 2 = .ok (.invokevirtual 234, 3) := by decide +kernel
theorem dX8_lost_5 : decode cX8_lost 5 = .ok (.getfield 266, 3) := by decide +kernel
theorem dX8_lost_8 : decode cX8_lost 8 = .ok (.ireturn, 1) := by decide +kernel
theorem dX8_frame_0 : decode cX8_frame 0 = .ok (.iload_n 1, 1) := by decide +kernel
theorem dX8_frame_1 : decode cX8_frame 1 = .ok (.invokestatic 122, 3) := by decide +kernel
theorem dX8_frame_4 : decode cX8_frame 4 = .ok (.aload_n 0, 1) := by decide +kernel
theorem dX8_frame_5 : decode cX8_frame 5 = .ok (.getfield 269, 3) := by decide +kernel
theorem dX8_frame_8 : decode cX8_frame 8 = .ok (.bipush 6, 2) := by decide +kernel
theorem dX8_frame_10 : decode cX8_frame 10 = .ok (.invokestatic 135, 3) := by decide +kernel
theorem dX8_frame_13 : decode cX8_frame 13 = .ok (.aload_n 0, 1) := by decide +kernel
theorem dX8_frame_14 : decode cX8_frame 14 = .ok (.getfield 269, 3) := by decide +kernel
theorem dX8_frame_17 : decode cX8_frame 17 = .ok (.istore_n 2, 1) := by decide +kernel
theorem dX8_frame_18 : decode cX8_frame 18 = .ok (.new 30, 3) := by decide +kernel
theorem dX8_frame_21 : decode cX8_frame 21 = .ok (.dup, 1) := by decide +kernel
theorem dX8_frame_22 : decode cX8_frame 22 = .ok (.aload_n 0, 1) := by decide +kernel
theorem dX8_frame_23 : decode cX8_frame 23 = .ok (.getfield 12, 3) := by decide +kernel
theorem dX8_frame_26 : decode cX8_frame 26 = .ok (.getfield 225, 3) := by decide +kernel
theorem dX8_frame_29 : decode cX8_frame 29 = .ok (.invokespecial 272, 3) := by decide +kernel
theorem dX8_frame_32 : decode cX8_frame 32 = .ok (.astore_n 3, 1) := by decide +kernel
theorem dX8_frame_33 : decode cX8_frame 33 = .ok (.aload_n 3, 1) := by decide +kernel
theorem dX8_frame_34 : decode cX8_frame 34 = .ok (.aload_n 0, 1) := by decide +kernel
theorem dX8_frame_35 : decode cX8_frame 35 = .ok (.getfield 12, 3) := by decide +kernel
theorem dX8_frame_38 : decode cX8_frame 38 = .ok (.getfield 126, 3) := by decide +kernel
theorem dX8_frame_41 : decode cX8_frame 41 = .ok (.iload_n 1, 1) := by decide +kernel
theorem dX8_frame_42 : decode cX8_frame 42 = .ok (.invokevirtual 274, 3) := by decide +kernel
theorem dX8_frame_45 : decode cX8_frame 45 = .ok (.aload_n 0, 1) := by decide +kernel
theorem dX8_frame_46 : decode cX8_frame 46 = .ok (.getfield 32, 3) := by decide +kernel
theorem dX8_frame_49 : decode cX8_frame 49 = .ok (.iload_n 2, 1) := by decide +kernel
theorem dX8_frame_50 : decode cX8_frame 50 = .ok (.aload_n 3, 1) := by decide +kernel
theorem dX8_frame_51 : decode cX8_frame 51 = .ok (.aastore, 1) := by decide +kernel
theorem dX8_frame_52 : decode cX8_frame 52 = .ok (.aload_n 0, 1) := by decide +kernel
theorem dX8_frame_53 : decode cX8_frame 53 = .ok (.dup, 1) := by decide +kernel
theorem dX8_frame_54 : decode cX8_frame 54 = .ok (.getfield 269, 3) := by decide +kernel
theorem dX8_frame_57 : decode cX8_frame 57 = .ok (.iconst 1, 1) := by decide +kernel
theorem dX8_frame_58 : decode cX8_frame 58 = .ok (.iadd, 1) := by decide +kernel
theorem dX8_frame_59 : decode cX8_frame 59 = .ok (.putfield 269, 3) := by decide +kernel
theorem dX8_frame_62 : decode cX8_frame 62 = .ok (.iload_n 2, 1) := by decide +kernel
theorem dX8_frame_63 : decode cX8_frame 63 = .ok (.ireturn, 1) := by decide +kernel
theorem dX8_countSeen_0 : decode cX8_countSeen 0 = .ok (.aload_n 0, 1) := by decide +kernel
theorem dX8_countSeen_1 : decode cX8_countSeen 1 = .ok (.iload_n 1, 1) := by decide +kernel
theorem dX8_countSeen_2 : decode cX8_countSeen 2 = .ok (.invokevirtual 278, 3) := by decide +kernel
theorem dX8_countSeen_5 : decode cX8_countSeen 5 = .ok (.getfield 282, 3) := by decide +kernel
theorem dX8_countSeen_8 : decode cX8_countSeen 8 = .ok (.ireturn, 1) := by decide +kernel
theorem dX8_placeIn_0 : decode cX8_placeIn 0 = .ok (.aload_n 0, 1) := by decide +kernel
theorem dX8_placeIn_1 : decode cX8_placeIn 1 = .ok (.iload_n 1, 1) := by decide +kernel
theorem dX8_placeIn_2 : decode cX8_placeIn 2 = .ok (.invokevirtual 278, 3) := by decide +kernel
theorem dX8_placeIn_5 : decode cX8_placeIn 5 = .ok (.astore_n 3, 1) := by decide +kernel
theorem dX8_placeIn_6 : decode cX8_placeIn 6 = .ok (.iload_n 2, 1) := by decide +kernel
theorem dX8_placeIn_7 : decode cX8_placeIn 7 = .ok (.invokestatic 144, 3) := by decide +kernel
theorem dX8_placeIn_10 : decode cX8_placeIn 10 = .ok (.aload_n 3, 1) := by decide +kernel
theorem dX8_placeIn_11 : decode cX8_placeIn 11 = .ok (.iload_n 2, 1) := by decide +kernel
theorem dX8_placeIn_12 : decode cX8_placeIn 12 = .ok (.invokevirtual 283, 3) := by decide +kernel
theorem dX8_placeIn_15 : decode cX8_placeIn 15 = .ok (.istore 4, 2) := by decide +kernel
theorem dX8_placeIn_17 : decode cX8_placeIn 17 = .ok (.iload 4, 2) := by decide +kernel
theorem dX8_placeIn_19 : decode cX8_placeIn 19 = .ok (.ifCond .ge 14, 3) := by decide +kernel
theorem dX8_placeIn_22 : decode cX8_placeIn 22 = .ok (.new 73, 3) := by decide +kernel
theorem dX8_placeIn_25 : decode cX8_placeIn 25 = .ok (.dup, 1) := by decide +kernel
theorem dX8_placeIn_26 : decode cX8_placeIn 26 = .ok (.ldc_w 286, 3) := by decide +kernel
theorem dX8_placeIn_29 : decode cX8_placeIn 29 = .ok (.invokespecial 77, 3) := by decide +kernel
theorem dX8_placeIn_32 : decode cX8_placeIn 32 = .ok (.athrow, 1) := by decide +kernel
theorem dX8_placeIn_33 : decode cX8_placeIn 33 = .ok (.iload 4, 2) := by decide +kernel
theorem dX8_placeIn_35 : decode cX8_placeIn 35 = .ok (.ireturn, 1) := by decide +kernel
theorem dX8_drift_0 : decode cX8_drift 0 = .ok (.aload_n 0, 1) := by decide +kernel
theorem dX8_drift_1 : decode cX8_drift 1 = .ok (.iload_n 2, 1) := by decide +kernel
theorem dX8_drift_2 : decode cX8_drift 2 = .ok (.invokevirtual 278, 3) := by decide +kernel
theorem dX8_drift_5 : decode cX8_drift 5 = .ok (.astore 4, 2) := by decide +kernel
theorem dX8_drift_7 : decode cX8_drift 7 = .ok (.aload_n 0, 1) := by decide +kernel
theorem dX8_drift_8 : decode cX8_drift 8 = .ok (.iload_n 3, 1) := by decide +kernel
theorem dX8_drift_9 : decode cX8_drift 9 = .ok (.invokevirtual 278, 3) := by decide +kernel
theorem dX8_drift_12 : decode cX8_drift 12 = .ok (.astore 5, 2) := by decide +kernel
theorem dX8_drift_14 : decode cX8_drift 14 = .ok (.iload_n 1, 1) := by decide +kernel
theorem dX8_drift_15 : decode cX8_drift 15 = .ok (.invokestatic 144, 3) := by decide +kernel
theorem dX8_drift_18 : decode cX8_drift 18 = .ok (.aload 4, 2) := by decide +kernel
theorem dX8_drift_20 : decode cX8_drift 20 = .ok (.getfield 288, 3) := by decide +kernel
theorem dX8_drift_23 : decode cX8_drift 23 = .ok (.aload 5, 2) := by decide +kernel
theorem dX8_drift_25 : decode cX8_drift 25 = .ok (.getfield 288, 3) := by decide +kernel
theorem dX8_drift_28 : decode cX8_drift 28 = .ok (.if_icmp .gt 8, 3) := by decide +kernel
theorem dX8_drift_31 : decode cX8_drift 31 = .ok (.aload 4, 2) := by decide +kernel
theorem dX8_drift_33 : decode cX8_drift 33 = .ok (.goto 5, 3) := by decide +kernel
theorem dX8_drift_36 : decode cX8_drift 36 = .ok (.aload 5, 2) := by decide +kernel
theorem dX8_drift_38 : decode cX8_drift 38 = .ok (.astore 6, 2) := by decide +kernel
theorem dX8_drift_40 : decode cX8_drift 40 = .ok (.aload 4, 2) := by decide +kernel
theorem dX8_drift_42 : decode cX8_drift 42 = .ok (.getfield 288, 3) := by decide +kernel
theorem dX8_drift_45 : decode cX8_drift 45 = .ok (.aload 5, 2) := by decide +kernel
theorem dX8_drift_47 : decode cX8_drift 47 = .ok (.getfield 288, 3) := by decide +kernel
theorem dX8_drift_50 : decode cX8_drift 50 = .ok (.if_icmp .gt 8, 3) := by decide +kernel
theorem dX8_drift_53 : decode cX8_drift 53 = .ok (.aload 5, 2) := by decide +kernel
theorem dX8_drift_55 : decode cX8_drift 55 = .ok (.goto 5, 3) := by decide +kernel
theorem dX8_drift_58 : decode cX8_drift 58 = .ok (.aload 4, 2) := by decide +kernel
theorem dX8_drift_60 : decode cX8_drift 60 = .ok (.astore 7, 2) := by decide +kernel
theorem dX8_drift_62 : decode cX8_drift 62 = .ok (.aload 6, 2) := by decide +kernel
theorem dX8_drift_64 : decode cX8_drift 64 = .ok (.iload_n 1, 1) := by decide +kernel
theorem dX8_drift_65 : decode cX8_drift 65 = .ok (.invokevirtual 283, 3) := by decide +kernel
theorem dX8_drift_68 : decode cX8_drift 68 = .ok (.istore 8, 2) := by decide +kernel
theorem dX8_drift_70 : decode cX8_drift 70 = .ok (.aload 7, 2) := by decide +kernel
theorem dX8_drift_72 : decode cX8_drift 72 = .ok (.iload_n 1, 1) := by decide +kernel
theorem dX8_drift_73 : decode cX8_drift 73 = .ok (.invokevirtual 283, 3) := by decide +kernel
theorem dX8_drift_76 : decode cX8_drift 76 = .ok (.istore 9, 2) := by decide +kernel
theorem dX8_drift_78 : decode cX8_drift 78 = .ok (.aload 7, 2) := by decide +kernel
theorem dX8_drift_80 : decode cX8_drift 80 = .ok (.getfield 288, 3) := by decide +kernel
theorem dX8_drift_83 : decode cX8_drift 83 = .ok (.aload 6, 2) := by decide +kernel
theorem dX8_drift_85 : decode cX8_drift 85 = .ok (.getfield 288, 3) := by decide +kernel
theorem dX8_drift_88 : decode cX8_drift 88 = .ok (.isub, 1) := by decide +kernel
theorem dX8_drift_89 : decode cX8_drift 89 = .ok (.istore 10, 2) := by decide +kernel
theorem dX8_drift_91 : decode cX8_drift 91 = .ok (.iload 8, 2) := by decide +kernel
theorem dX8_drift_93 : decode cX8_drift 93 = .ok (.ifCond .lt 14, 3) := by decide +kernel
theorem dX8_drift_96 : decode cX8_drift 96 = .ok (.iload 9, 2) := by decide +kernel
theorem dX8_drift_98 : decode cX8_drift 98 = .ok (.ifCond .lt 9, 3) := by decide +kernel
theorem dX8_drift_101 : decode cX8_drift 101 = .ok (.iload 10, 2) := by decide +kernel
theorem dX8_drift_103 : decode cX8_drift 103 = .ok (.iconst 1, 1) := by decide +kernel
theorem dX8_drift_104 : decode cX8_drift 104 = .ok (.if_icmp .ge 14, 3) := by decide +kernel
theorem dX8_drift_107 : decode cX8_drift 107 = .ok (.new 73, 3) := by decide +kernel
theorem dX8_drift_110 : decode cX8_drift 110 = .ok (.dup, 1) := by decide +kernel
theorem dX8_drift_111 : decode cX8_drift 111 = .ok (.ldc_w 291, 3) := by decide +kernel
theorem dX8_drift_114 : decode cX8_drift 114 = .ok (.invokespecial 77, 3) := by decide +kernel
theorem dX8_drift_117 : decode cX8_drift 117 = .ok (.athrow, 1) := by decide +kernel
theorem dX8_drift_118 : decode cX8_drift 118 = .ok (.iload 9, 2) := by decide +kernel
theorem dX8_drift_120 : decode cX8_drift 120 = .ok (.iload 8, 2) := by decide +kernel
theorem dX8_drift_122 : decode cX8_drift 122 = .ok (.isub, 1) := by decide +kernel
theorem dX8_drift_123 : decode cX8_drift 123 = .ok (.sipush 1800, 3) := by decide +kernel
theorem dX8_drift_126 : decode cX8_drift 126 = .ok (.iadd, 1) := by decide +kernel
theorem dX8_drift_127 : decode cX8_drift 127 = .ok (.sipush 3600, 3) := by decide +kernel
theorem dX8_drift_130 : decode cX8_drift 130 = .ok (.invokestatic 293, 3) := by decide +kernel
theorem dX8_drift_133 : decode cX8_drift 133 = .ok (.sipush 1800, 3) := by decide +kernel
theorem dX8_drift_136 : decode cX8_drift 136 = .ok (.isub, 1) := by decide +kernel
theorem dX8_drift_137 : decode cX8_drift 137 = .ok (.istore 11, 2) := by decide +kernel
theorem dX8_drift_139 : decode cX8_drift 139 = .ok (.iload 11, 2) := by decide +kernel
theorem dX8_drift_141 : decode cX8_drift 141 = .ok (.i2f, 1) := by decide +kernel
theorem dX8_drift_142 : decode cX8_drift 142 = .ok (.iload 10, 2) := by decide +kernel
theorem dX8_drift_144 : decode cX8_drift 144 = .ok (.i2f, 1) := by decide +kernel
theorem dX8_drift_145 : decode cX8_drift 145 = .ok (.fdiv, 1) := by decide +kernel
theorem dX8_drift_146 : decode cX8_drift 146 = .ok (.freturn, 1) := by decide +kernel
theorem dX8_save_0 : decode cX8_save 0 = .ok (.aload_n 0, 1) := by decide +kernel
theorem dX8_save_1 : decode cX8_save 1 = .ok (.getfield 296, 3) := by decide +kernel
theorem dX8_save_4 : decode cX8_save 4 = .ok (.iconst 3, 1) := by decide +kernel
theorem dX8_save_5 : decode cX8_save 5 = .ok (.invokestatic 135, 3) := by decide +kernel
theorem dX8_save_8 : decode cX8_save 8 = .ok (.aload_n 0, 1) := by decide +kernel
theorem dX8_save_9 : decode cX8_save 9 = .ok (.getfield 296, 3) := by decide +kernel
theorem dX8_save_12 : decode cX8_save 12 = .ok (.istore_n 1, 1) := by decide +kernel
theorem dX8_save_13 : decode cX8_save 13 = .ok (.new 9, 3) := by decide +kernel
theorem dX8_save_16 : decode cX8_save 16 = .ok (.dup, 1) := by decide +kernel
theorem dX8_save_17 : decode cX8_save 17 = .ok (.invokespecial 11, 3) := by decide +kernel
theorem dX8_save_20 : decode cX8_save 20 = .ok (.astore_n 2, 1) := by decide +kernel
theorem dX8_save_21 : decode cX8_save 21 = .ok (.aload_n 2, 1) := by decide +kernel
theorem dX8_save_22 : decode cX8_save 22 = .ok (.aload_n 0, 1) := by decide +kernel
theorem dX8_save_23 : decode cX8_save 23 = .ok (.getfield 12, 3) := by decide +kernel
theorem dX8_save_26 : decode cX8_save 26 = .ok (.invokevirtual 299, 3) := by decide +kernel
theorem dX8_save_29 : decode cX8_save 29 = .ok (.aload_n 0, 1) := by decide +kernel
theorem dX8_save_30 : decode cX8_save 30 = .ok (.getfield 16, 3) := by decide +kernel
theorem dX8_save_33 : decode cX8_save 33 = .ok (.iload_n 1, 1) := by decide +kernel
theorem dX8_save_34 : decode cX8_save 34 = .ok (.aload_n 2, 1) := by decide +kernel
theorem dX8_save_35 : decode cX8_save 35 = .ok (.aastore, 1) := by decide +kernel
theorem dX8_save_36 : decode cX8_save 36 = .ok (.aload_n 0, 1) := by decide +kernel
theorem dX8_save_37 : decode cX8_save 37 = .ok (.getfield 20, 3) := by decide +kernel
theorem dX8_save_40 : decode cX8_save 40 = .ok (.iload_n 1, 1) := by decide +kernel
theorem dX8_save_41 : decode cX8_save 41 = .ok (.aload_n 0, 1) := by decide +kernel
theorem dX8_save_42 : decode cX8_save 42 = .ok (.getfield 12, 3) := by decide +kernel
theorem dX8_save_45 : decode cX8_save 45 = .ok (.invokevirtual 303, 3) := by decide +kernel
theorem dX8_save_48 : decode cX8_save 48 = .ok (.lastore, 1) := by decide +kernel
theorem dX8_save_49 : decode cX8_save 49 = .ok (.aload_n 0, 1) := by decide +kernel
theorem dX8_save_50 : decode cX8_save 50 = .ok (.dup, 1) := by decide +kernel
theorem dX8_save_51 : decode cX8_save 51 = .ok (.getfield 296, 3) := by decide +kernel
theorem dX8_save_54 : decode cX8_save 54 = .ok (.iconst 1, 1) := by decide +kernel
theorem dX8_save_55 : decode cX8_save 55 = .ok (.iadd, 1) := by decide +kernel
theorem dX8_save_56 : decode cX8_save 56 = .ok (.putfield 296, 3) := by decide +kernel
theorem dX8_save_59 : decode cX8_save 59 = .ok (.iload_n 1, 1) := by decide +kernel
theorem dX8_save_60 : decode cX8_save 60 = .ok (.ireturn, 1) := by decide +kernel
theorem dX8_load_0 : decode cX8_load 0 = .ok (.iload_n 1, 1) := by decide +kernel
theorem dX8_load_1 : decode cX8_load 1 = .ok (.aload_n 0, 1) := by decide +kernel
theorem dX8_load_2 : decode cX8_load 2 = .ok (.getfield 296, 3) := by decide +kernel
theorem dX8_load_5 : decode cX8_load 5 = .ok (.iconst 3, 1) := by decide +kernel
theorem dX8_load_6 : decode cX8_load 6 = .ok (.invokestatic 212, 3) := by decide +kernel
theorem dX8_load_9 : decode cX8_load 9 = .ok (.invokestatic 36, 3) := by decide +kernel
theorem dX8_load_12 : decode cX8_load 12 = .ok (.aload_n 0, 1) := by decide +kernel
theorem dX8_load_13 : decode cX8_load 13 = .ok (.getfield 16, 3) := by decide +kernel
theorem dX8_load_16 : decode cX8_load 16 = .ok (.iload_n 1, 1) := by decide +kernel
theorem dX8_load_17 : decode cX8_load 17 = .ok (.aaload, 1) := by decide +kernel
theorem dX8_load_18 : decode cX8_load 18 = .ok (.astore_n 2, 1) := by decide +kernel
theorem dX8_load_19 : decode cX8_load 19 = .ok (.aload_n 2, 1) := by decide +kernel
theorem dX8_load_20 : decode cX8_load 20 = .ok (.ifnonnull 14, 3) := by decide +kernel
theorem dX8_load_23 : decode cX8_load 23 = .ok (.new 307, 3) := by decide +kernel
theorem dX8_load_26 : decode cX8_load 26 = .ok (.dup, 1) := by decide +kernel
theorem dX8_load_27 : decode cX8_load 27 = .ok (.ldc_w 309, 3) := by decide +kernel
theorem dX8_load_30 : decode cX8_load 30 = .ok (.invokespecial 311, 3) := by decide +kernel
theorem dX8_load_33 : decode cX8_load 33 = .ok (.athrow, 1) := by decide +kernel
theorem dX8_load_34 : decode cX8_load 34 = .ok (.aload_n 0, 1) := by decide +kernel
theorem dX8_load_35 : decode cX8_load 35 = .ok (.getfield 12, 3) := by decide +kernel
theorem dX8_load_38 : decode cX8_load 38 = .ok (.aload_n 2, 1) := by decide +kernel
theorem dX8_load_39 : decode cX8_load 39 = .ok (.invokevirtual 299, 3) := by decide +kernel
theorem dX8_load_42 : decode cX8_load 42 = .ok (.aload_n 0, 1) := by decide +kernel
theorem dX8_load_43 : decode cX8_load 43 = .ok (.getfield 12, 3) := by decide +kernel
theorem dX8_load_46 : decode cX8_load 46 = .ok (.invokevirtual 303, 3) := by decide +kernel
theorem dX8_load_49 : decode cX8_load 49 = .ok (.lreturn, 1) := by decide +kernel
theorem dX8_happenings_0 : decode cX8_happenings 0 = .ok (.aload_n 0, 1) := by decide +kernel
theorem dX8_happenings_1 : decode cX8_happenings 1 = .ok (.getfield 12, 3) := by decide +kernel
theorem dX8_happenings_4 : decode cX8_happenings 4 = .ok (.getfield 193, 3) := by decide +kernel
theorem dX8_happenings_7 : decode cX8_happenings 7 = .ok (.getfield 312, 3) := by decide +kernel
theorem dX8_happenings_10 : decode cX8_happenings 10 = .ok (.ireturn, 1) := by decide +kernel
theorem dX8_happening_0 : decode cX8_happening 0 = .ok (.aload_n 0, 1) := by decide +kernel
theorem dX8_happening_1 : decode cX8_happening 1 = .ok (.iload_n 1, 1) := by decide +kernel
theorem dX8_happening_2 : decode cX8_happening 2 = .ok (.invokevirtual 313, 3) := by decide +kernel
theorem dX8_happening_5 : decode cX8_happening 5 = .ok (.aload_n 0, 1) := by decide +kernel
theorem dX8_happening_6 : decode cX8_happening 6 = .ok (.getfield 12, 3) := by decide +kernel
theorem dX8_happening_9 : decode cX8_happening 9 = .ok (.getfield 193, 3) := by decide +kernel
theorem dX8_happening_12 : decode cX8_happening 12 = .ok (.getfield 316, 3) := by decide +kernel
theorem dX8_happening_15 : decode cX8_happening 15 = .ok (.iload_n 1, 1) := by decide +kernel
theorem dX8_happening_16 : decode cX8_happening 16 = .ok (.caload, 1) := by decide +kernel
theorem dX8_happening_17 : decode cX8_happening 17 = .ok (.ireturn, 1) := by decide +kernel
theorem dX8_happenedTo_0 : decode cX8_happenedTo 0 = .ok (.aload_n 0, 1) := by decide +kernel
theorem dX8_happenedTo_1 : decode cX8_happenedTo 1 = .ok (.iload_n 1, 1) := by decide +kernel
theorem dX8_happenedTo_2 : decode cX8_happenedTo 2 = .ok (.invokevirtual 313, 3) := by decide +kernel
theorem dX8_happenedTo_5 : decode cX8_happenedTo 5 = .ok (.aload_n 0, 1) := by decide +kernel
theorem dX8_happenedTo_6 : decode cX8_happenedTo 6 = .ok (.getfield 12, 3) := by decide +kernel
theorem dX8_happenedTo_9 : decode cX8_happenedTo 9 = .ok (.getfield 193, 3) := by decide +kernel
theorem dX8_happenedTo_12 : decode cX8_happenedTo 12 = .ok (.getfield 319, 3) := by decide +kernel
theorem dX8_happenedTo_15 : decode cX8_happenedTo 15 = .ok (.iload_n 1, 1) := by decide +kernel
theorem dX8_happenedTo_16 : decode cX8_happenedTo 16 = .ok (.iaload, 1) := by decide +kernel
theorem dX8_happenedTo_17 : decode cX8_happenedTo 17 = .ok (.ireturn, 1) := by decide +kernel
theorem dX8_checksum_0 : decode cX8_checksum 0 = .ok (.aload_n 0, 1) := by decide +kernel
theorem dX8_checksum_1 : decode cX8_checksum 1 = .ok (.getfield 12, 3) := by decide +kernel
theorem dX8_checksum_4 : decode cX8_checksum 4 = .ok (.invokevirtual 303, 3) := by decide +kernel
theorem dX8_checksum_7 : decode cX8_checksum 7 = .ok (.lreturn, 1) := by decide +kernel
theorem dX8_thereShare_0 : decode cX8_thereShare 0 = .ok (.aload_n 0, 1) := by decide +kernel
theorem dX8_thereShare_1 : decode cX8_thereShare 1 = .ok (.getfield 12, 3) := by decide +kernel
theorem dX8_thereShare_4 : decode cX8_thereShare 4 = .ok (.getfield 126, 3) := by decide +kernel
theorem dX8_thereShare_7 : decode cX8_thereShare 7 = .ok (.getfield 130, 3) := by decide +kernel
theorem dX8_thereShare_10 : decode cX8_thereShare 10 = .ok (.istore_n 1, 1) := by decide +kernel
theorem dX8_thereShare_11 : decode cX8_thereShare 11 = .ok (.iload_n 1, 1) := by decide +kernel
theorem dX8_thereShare_12 : decode cX8_thereShare 12 = .ok (.iconst 1, 1) := by decide +kernel
theorem dX8_thereShare_13 : decode cX8_thereShare 13 = .ok (.if_icmp .ge 14, 3) := by decide +kernel
theorem dX8_thereShare_16 : decode cX8_thereShare 16 = .ok (.new 322, 3) := by decide +kernel
theorem dX8_thereShare_19 : decode cX8_thereShare 19 = .ok (.dup, 1) := by decide +kernel
theorem dX8_thereShare_20 : decode cX8_thereShare 20 = .ok (.ldc_w 324, 3) := by decide +kernel
theorem dX8_thereShare_23 : decode cX8_thereShare 23 = .ok (.invokespecial 326, 3) := by decide +kernel
theorem dX8_thereShare_26 : decode cX8_thereShare 26 = .ok (.athrow, 1) := by decide +kernel
theorem dX8_thereShare_27 : decode cX8_thereShare 27 = .ok (.aload_n 0, 1) := by decide +kernel
theorem dX8_thereShare_28 : decode cX8_thereShare 28 = .ok (.getfield 12, 3) := by decide +kernel
theorem dX8_thereShare_31 : decode cX8_thereShare 31 = .ok (.getfield 126, 3) := by decide +kernel
theorem dX8_thereShare_34 : decode cX8_thereShare 34 = .ok (.invokevirtual 327, 3) := by decide +kernel
theorem dX8_thereShare_37 : decode cX8_thereShare 37 = .ok (.i2f, 1) := by decide +kernel
theorem dX8_thereShare_38 : decode cX8_thereShare 38 = .ok (.iload_n 1, 1) := by decide +kernel
theorem dX8_thereShare_39 : decode cX8_thereShare 39 = .ok (.i2f, 1) := by decide +kernel
theorem dX8_thereShare_40 : decode cX8_thereShare 40 = .ok (.fdiv, 1) := by decide +kernel
theorem dX8_thereShare_41 : decode cX8_thereShare 41 = .ok (.freturn, 1) := by decide +kernel
theorem dX8_meanWind_0 : decode cX8_meanWind 0 = .ok (.iconst 0, 1) := by decide +kernel
theorem dX8_meanWind_1 : decode cX8_meanWind 1 = .ok (.istore_n 1, 1) := by decide +kernel
theorem dX8_meanWind_2 : decode cX8_meanWind 2 = .ok (.iconst 0, 1) := by decide +kernel
theorem dX8_meanWind_3 : decode cX8_meanWind 3 = .ok (.istore_n 2, 1) := by decide +kernel
theorem dX8_meanWind_4 : decode cX8_meanWind 4 = .ok (.iload_n 2, 1) := by decide +kernel
theorem dX8_meanWind_5 : decode cX8_meanWind 5 = .ok (.bipush 12, 2) := by decide +kernel
theorem dX8_meanWind_7 : decode cX8_meanWind 7 = .ok (.if_icmp .ge 23, 3) := by decide +kernel
theorem dX8_meanWind_10 : decode cX8_meanWind 10 = .ok (.iload_n 1, 1) := by decide +kernel
theorem dX8_meanWind_11 : decode cX8_meanWind 11 = .ok (.aload_n 0, 1) := by decide +kernel
theorem dX8_meanWind_12 : decode cX8_meanWind 12 = .ok (.getfield 12, 3) := by decide +kernel
theorem dX8_meanWind_15 : decode cX8_meanWind 15 = .ok (.getfield 88, 3) := by decide +kernel
theorem dX8_meanWind_18 : decode cX8_meanWind 18 = .ok (.iload_n 2, 1) := by decide +kernel
theorem dX8_meanWind_19 : decode cX8_meanWind 19 = .ok (.invokevirtual 100, 3) := by decide +kernel
theorem dX8_meanWind_22 : decode cX8_meanWind 22 = .ok (.iadd, 1) := by decide +kernel
theorem dX8_meanWind_23 : decode cX8_meanWind 23 = .ok (.istore_n 1, 1) := by decide +kernel
theorem dX8_meanWind_24 : decode cX8_meanWind 24 = .ok (.iinc 2 1, 3) := by decide +kernel
theorem dX8_meanWind_27 : decode cX8_meanWind 27 = .ok (.goto (-23), 3) := by decide +kernel
theorem dX8_meanWind_30 : decode cX8_meanWind 30 = .ok (.iload_n 1, 1) := by decide +kernel
theorem dX8_meanWind_31 : decode cX8_meanWind 31 = .ok (.i2d, 1) := by decide +kernel
theorem dX8_meanWind_32 : decode cX8_meanWind 32 = .ok (.ldc2_w 331, 3) := by decide +kernel
theorem dX8_meanWind_35 : decode cX8_meanWind 35 = .ok (.ddiv, 1) := by decide +kernel
theorem dX8_meanWind_36 : decode cX8_meanWind 36 = .ok (.dreturn, 1) := by decide +kernel
theorem dX8_isSound_0 : decode cX8_isSound 0 = .ok (.aload_n 0, 1) := by decide +kernel
theorem dX8_isSound_1 : decode cX8_isSound 1 = .ok (.getfield 12, 3) := by decide +kernel
theorem dX8_isSound_4 : decode cX8_isSound 4 = .ok (.getfield 44, 3) := by decide +kernel
theorem dX8_isSound_7 : decode cX8_isSound 7 = .ok (.invokevirtual 333, 3) := by decide +kernel
theorem dX8_isSound_10 : decode cX8_isSound 10 = .ok (.ifCond .eq 53, 3) := by decide +kernel
theorem dX8_isSound_13 : decode cX8_isSound 13 = .ok (.aload_n 0, 1) := by decide +kernel
theorem dX8_isSound_14 : decode cX8_isSound 14 = .ok (.getfield 12, 3) := by decide +kernel
theorem dX8_isSound_17 : decode cX8_isSound 17 = .ok (.getfield 88, 3) := by decide +kernel
theorem dX8_isSound_20 : decode cX8_isSound 20 = .ok (.invokevirtual 336, 3) := by decide +kernel
theorem dX8_isSound_23 : decode cX8_isSound 23 = .ok (.ifCond .eq 40, 3) := by decide +kernel
theorem dX8_isSound_26 : decode cX8_isSound 26 = .ok (.aload_n 0, 1) := by decide +kernel
theorem dX8_isSound_27 : decode cX8_isSound 27 = .ok (.getfield 12, 3) := by decide +kernel
theorem dX8_isSound_30 : decode cX8_isSound 30 = .ok (.getfield 126, 3) := by decide +kernel
theorem dX8_isSound_33 : decode cX8_isSound 33 = .ok (.invokevirtual 337, 3) := by decide +kernel
theorem dX8_isSound_36 : decode cX8_isSound 36 = .ok (.ifCond .eq 27, 3) := by decide +kernel
theorem dX8_isSound_39 : decode cX8_isSound 39 = .ok (.aload_n 0, 1) := by decide +kernel
theorem dX8_isSound_40 : decode cX8_isSound 40 = .ok (.getfield 12, 3) := by decide +kernel
theorem dX8_isSound_43 : decode cX8_isSound 43 = .ok (.getfield 126, 3) := by decide +kernel
theorem dX8_isSound_46 : decode cX8_isSound 46 = .ok (.invokevirtual 340, 3) := by decide +kernel
theorem dX8_isSound_49 : decode cX8_isSound 49 = .ok (.ifCond .eq 14, 3) := by decide +kernel
theorem dX8_isSound_52 : decode cX8_isSound 52 = .ok (.aload_n 0, 1) := by decide +kernel
theorem dX8_isSound_53 : decode cX8_isSound 53 = .ok (.invokevirtual 343, 3) := by decide +kernel
theorem dX8_isSound_56 : decode cX8_isSound 56 = .ok (.ifCond .eq 7, 3) := by decide +kernel
theorem dX8_isSound_59 : decode cX8_isSound 59 = .ok (.iconst 1, 1) := by decide +kernel
theorem dX8_isSound_60 : decode cX8_isSound 60 = .ok (.goto 4, 3) := by decide +kernel
theorem dX8_isSound_63 : decode cX8_isSound 63 = .ok (.iconst 0, 1) := by decide +kernel
theorem dX8_isSound_64 : decode cX8_isSound 64 = .ok (.ireturn, 1) := by decide +kernel
theorem dX8_areSavesTrue_0 : decode cX8_areSavesTrue 0 = .ok (.iconst 0, 1) := by decide +kernel
theorem dX8_areSavesTrue_1 : decode cX8_areSavesTrue 1 = .ok (.istore_n 1, 1) := by decide +kernel
theorem dX8_areSavesTrue_2 : decode cX8_areSavesTrue 2 = .ok (.iload_n 1, 1) := by decide +kernel
theorem dX8_areSavesTrue_3 : decode cX8_areSavesTrue 3 = .ok (.aload_n 0, 1) := by decide +kernel
theorem dX8_areSavesTrue_4 : decode cX8_areSavesTrue 4 = .ok (.getfield 296, 3) := by decide +kernel
theorem dX8_areSavesTrue_7 : decode cX8_areSavesTrue 7 = .ok (.if_icmp .ge 41, 3) := by decide +kernel
theorem dX8_areSavesTrue_10 : decode cX8_areSavesTrue 10 = .ok (.iload_n 1, 1) := by decide +kernel
theorem dX8_areSavesTrue_11 : decode cX8_areSavesTrue 11 = .ok (.iconst 3, 1) := by decide +kernel
theorem dX8_areSavesTrue_12 : decode cX8_areSavesTrue 12 = .ok (.if_icmp .ge 36, 3) := by decide +kernel
theorem dX8_areSavesTrue_15 : decode cX8_areSavesTrue 15 = .ok (.aload_n 0, 1) := by decide +kernel
theorem dX8_areSavesTrue_16 : decode cX8_areSavesTrue 16 = .ok (.getfield 16, 3) := by decide +kernel
theorem dX8_areSavesTrue_19 : decode cX8_areSavesTrue 19 = .ok (.iload_n 1, 1) := by decide +kernel
theorem dX8_areSavesTrue_20 : decode cX8_areSavesTrue 20 = .ok (.aaload, 1) := by decide +kernel
theorem dX8_areSavesTrue_21 : decode cX8_areSavesTrue 21 = .ok (.astore_n 2, 1) := by decide +kernel
theorem dX8_areSavesTrue_22 : decode cX8_areSavesTrue 22 = .ok (.aload_n 2, 1) := by decide +kernel
theorem dX8_areSavesTrue_23 : decode cX8_areSavesTrue 23 = .ok (.ifnull 17, 3) := by decide +kernel
theorem dX8_areSavesTrue_26 : decode cX8_areSavesTrue 26 = .ok (.aload_n 2, 1) := by decide +kernel
theorem dX8_areSavesTrue_27 : decode cX8_areSavesTrue 27 = .ok (.invokevirtual 303, 3) := by decide +kernel
theorem dX8_areSavesTrue_30 : decode cX8_areSavesTrue 30 = .ok (.aload_n 0, 1) := by decide +kernel
theorem dX8_areSavesTrue_31 : decode cX8_areSavesTrue 31 = .ok (.getfield 20, 3) := by decide +kernel
theorem dX8_areSavesTrue_34 : decode cX8_areSavesTrue 34 = .ok (.iload_n 1, 1) := by decide +kernel
theorem dX8_areSavesTrue_35 : decode cX8_areSavesTrue 35 = .ok (.laload, 1) := by decide +kernel
theorem dX8_areSavesTrue_36 : decode cX8_areSavesTrue 36 = .ok (.lcmp, 1) := by decide +kernel
theorem dX8_areSavesTrue_37 : decode cX8_areSavesTrue 37 = .ok (.ifCond .eq 5, 3) := by decide +kernel
theorem dX8_areSavesTrue_40 : decode cX8_areSavesTrue 40 = .ok (.iconst 0, 1) := by decide +kernel
theorem dX8_areSavesTrue_41 : decode cX8_areSavesTrue 41 = .ok (.ireturn, 1) := by decide +kernel
theorem dX8_areSavesTrue_42 : decode cX8_areSavesTrue 42 = .ok (.iinc 1 1, 3) := by decide +kernel
theorem dX8_areSavesTrue_45 : decode cX8_areSavesTrue 45 = .ok (.goto (-43), 3) := by decide +kernel
theorem dX8_areSavesTrue_48 : decode cX8_areSavesTrue 48 = .ok (.aload_n 0, 1) := by decide +kernel
theorem dX8_areSavesTrue_49 : decode cX8_areSavesTrue 49 = .ok (.getfield 346, 3) := by decide +kernel
theorem dX8_areSavesTrue_52 : decode cX8_areSavesTrue 52 = .ok (.ifnonnull 14, 3) := by decide +kernel
theorem dX8_areSavesTrue_55 : decode cX8_areSavesTrue 55 = .ok (.aload_n 0, 1) := by decide +kernel
theorem dX8_areSavesTrue_56 : decode cX8_areSavesTrue 56 = .ok (.new 9, 3) := by decide +kernel
theorem dX8_areSavesTrue_59 : decode cX8_areSavesTrue 59 = .ok (.dup, 1) := by decide +kernel
theorem dX8_areSavesTrue_60 : decode cX8_areSavesTrue 60 = .ok (.invokespecial 11, 3) := by decide +kernel
theorem dX8_areSavesTrue_63 : decode cX8_areSavesTrue 63 = .ok (.putfield 346, 3) := by decide +kernel
theorem dX8_areSavesTrue_66 : decode cX8_areSavesTrue 66 = .ok (.aload_n 0, 1) := by decide +kernel
theorem dX8_areSavesTrue_67 : decode cX8_areSavesTrue 67 = .ok (.getfield 346, 3) := by decide +kernel
theorem dX8_areSavesTrue_70 : decode cX8_areSavesTrue 70 = .ok (.aload_n 0, 1) := by decide +kernel
theorem dX8_areSavesTrue_71 : decode cX8_areSavesTrue 71 = .ok (.getfield 12, 3) := by decide +kernel
theorem dX8_areSavesTrue_74 : decode cX8_areSavesTrue 74 = .ok (.invokevirtual 299, 3) := by decide +kernel
theorem dX8_areSavesTrue_77 : decode cX8_areSavesTrue 77 = .ok (.aload_n 0, 1) := by decide +kernel
theorem dX8_areSavesTrue_78 : decode cX8_areSavesTrue 78 = .ok (.getfield 346, 3) := by decide +kernel
theorem dX8_areSavesTrue_81 : decode cX8_areSavesTrue 81 = .ok (.invokevirtual 303, 3) := by decide +kernel
theorem dX8_areSavesTrue_84 : decode cX8_areSavesTrue 84 = .ok (.aload_n 0, 1) := by decide +kernel
theorem dX8_areSavesTrue_85 : decode cX8_areSavesTrue 85 = .ok (.getfield 12, 3) := by decide +kernel
theorem dX8_areSavesTrue_88 : decode cX8_areSavesTrue 88 = .ok (.invokevirtual 303, 3) := by decide +kernel
theorem dX8_areSavesTrue_91 : decode cX8_areSavesTrue 91 = .ok (.lcmp, 1) := by decide +kernel
theorem dX8_areSavesTrue_92 : decode cX8_areSavesTrue 92 = .ok (.ifCond .ne 7, 3) := by decide +kernel
theorem dX8_areSavesTrue_95 : decode cX8_areSavesTrue 95 = .ok (.iconst 1, 1) := by decide +kernel
theorem dX8_areSavesTrue_96 : decode cX8_areSavesTrue 96 = .ok (.goto 4, 3) := by decide +kernel
theorem dX8_areSavesTrue_99 : decode cX8_areSavesTrue 99 = .ok (.iconst 0, 1) := by decide +kernel
theorem dX8_areSavesTrue_100 : decode cX8_areSavesTrue 100 = .ok (.ireturn, 1) := by decide +kernel
theorem dX8_probeAt_0 : decode cX8_probeAt 0 = .ok (.iload_n 1, 1) := by decide +kernel
theorem dX8_probeAt_1 : decode cX8_probeAt 1 = .ok (.aload_n 0, 1) := by decide +kernel
theorem dX8_probeAt_2 : decode cX8_probeAt 2 = .ok (.getfield 228, 3) := by decide +kernel
theorem dX8_probeAt_5 : decode cX8_probeAt 5 = .ok (.iconst 4, 1) := by decide +kernel
theorem dX8_probeAt_6 : decode cX8_probeAt 6 = .ok (.invokestatic 212, 3) := by decide +kernel
theorem dX8_probeAt_9 : decode cX8_probeAt 9 = .ok (.invokestatic 36, 3) := by decide +kernel
theorem dX8_probeAt_12 : decode cX8_probeAt 12 = .ok (.aload_n 0, 1) := by decide +kernel
theorem dX8_probeAt_13 : decode cX8_probeAt 13 = .ok (.getfield 26, 3) := by decide +kernel
theorem dX8_probeAt_16 : decode cX8_probeAt 16 = .ok (.iload_n 1, 1) := by decide +kernel
theorem dX8_probeAt_17 : decode cX8_probeAt 17 = .ok (.aaload, 1) := by decide +kernel
theorem dX8_probeAt_18 : decode cX8_probeAt 18 = .ok (.astore_n 2, 1) := by decide +kernel
theorem dX8_probeAt_19 : decode cX8_probeAt 19 = .ok (.aload_n 2, 1) := by decide +kernel
theorem dX8_probeAt_20 : decode cX8_probeAt 20 = .ok (.ifnonnull 14, 3) := by decide +kernel
theorem dX8_probeAt_23 : decode cX8_probeAt 23 = .ok (.new 307, 3) := by decide +kernel
theorem dX8_probeAt_26 : decode cX8_probeAt 26 = .ok (.dup, 1) := by decide +kernel
theorem dX8_probeAt_27 : decode cX8_probeAt 27 = .ok (.ldc_w 349, 3) := by decide +kernel
theorem dX8_probeAt_30 : decode cX8_probeAt 30 = .ok (.invokespecial 311, 3) := by decide +kernel
theorem dX8_probeAt_33 : decode cX8_probeAt 33 = .ok (.athrow, 1) := by decide +kernel
theorem dX8_probeAt_34 : decode cX8_probeAt 34 = .ok (.aload_n 2, 1) := by decide +kernel
theorem dX8_probeAt_35 : decode cX8_probeAt 35 = .ok (.areturn, 1) := by decide +kernel
theorem dX8_frameAt_0 : decode cX8_frameAt 0 = .ok (.iload_n 1, 1) := by decide +kernel
theorem dX8_frameAt_1 : decode cX8_frameAt 1 = .ok (.aload_n 0, 1) := by decide +kernel
theorem dX8_frameAt_2 : decode cX8_frameAt 2 = .ok (.getfield 269, 3) := by decide +kernel
theorem dX8_frameAt_5 : decode cX8_frameAt 5 = .ok (.bipush 6, 2) := by decide +kernel
theorem dX8_frameAt_7 : decode cX8_frameAt 7 = .ok (.invokestatic 212, 3) := by decide +kernel
theorem dX8_frameAt_10 : decode cX8_frameAt 10 = .ok (.invokestatic 36, 3) := by decide +kernel
theorem dX8_frameAt_13 : decode cX8_frameAt 13 = .ok (.aload_n 0, 1) := by decide +kernel
theorem dX8_frameAt_14 : decode cX8_frameAt 14 = .ok (.getfield 32, 3) := by decide +kernel
theorem dX8_frameAt_17 : decode cX8_frameAt 17 = .ok (.iload_n 1, 1) := by decide +kernel
theorem dX8_frameAt_18 : decode cX8_frameAt 18 = .ok (.aaload, 1) := by decide +kernel
theorem dX8_frameAt_19 : decode cX8_frameAt 19 = .ok (.astore_n 2, 1) := by decide +kernel
theorem dX8_frameAt_20 : decode cX8_frameAt 20 = .ok (.aload_n 2, 1) := by decide +kernel
theorem dX8_frameAt_21 : decode cX8_frameAt 21 = .ok (.ifnonnull 14, 3) := by decide +kernel
theorem dX8_frameAt_24 : decode cX8_frameAt 24 = .ok (.new 307, 3) := by decide +kernel
theorem dX8_frameAt_27 : decode cX8_frameAt 27 = .ok (.dup, 1) := by decide +kernel
theorem dX8_frameAt_28 : decode cX8_frameAt 28 = .ok (.ldc_w 351, 3) := by decide +kernel
theorem dX8_frameAt_31 : decode cX8_frameAt 31 = .ok (.invokespecial 311, 3) := by decide +kernel
theorem dX8_frameAt_34 : decode cX8_frameAt 34 = .ok (.athrow, 1) := by decide +kernel
theorem dX8_frameAt_35 : decode cX8_frameAt 35 = .ok (.aload_n 2, 1) := by decide +kernel
theorem dX8_frameAt_36 : decode cX8_frameAt 36 = .ok (.areturn, 1) := by decide +kernel
theorem dX8_checkStorm_0 : decode cX8_checkStorm 0 = .ok (.iload_n 1, 1) := by decide +kernel
theorem dX8_checkStorm_1 : decode cX8_checkStorm 1 = .ok (.aload_n 0, 1) := by decide +kernel
theorem dX8_checkStorm_2 : decode cX8_checkStorm 2 = .ok (.getfield 12, 3) := by decide +kernel
theorem dX8_checkStorm_5 : decode cX8_checkStorm 5 = .ok (.getfield 126, 3) := by decide +kernel
theorem dX8_checkStorm_8 : decode cX8_checkStorm 8 = .ok (.getfield 130, 3) := by decide +kernel
theorem dX8_checkStorm_11 : decode cX8_checkStorm 11 = .ok (.bipush 12, 2) := by decide +kernel
theorem dX8_checkStorm_13 : decode cX8_checkStorm 13 = .ok (.invokestatic 212, 3) := by decide +kernel
theorem dX8_checkStorm_16 : decode cX8_checkStorm 16 = .ok (.invokestatic 36, 3) := by decide +kernel
theorem dX8_checkStorm_19 : decode cX8_checkStorm 19 = .ok (.return_, 1) := by decide +kernel
theorem dX8_checkIsThere_0 : decode cX8_checkIsThere 0 = .ok (.aload_n 0, 1) := by decide +kernel
theorem dX8_checkIsThere_1 : decode cX8_checkIsThere 1 = .ok (.getfield 12, 3) := by decide +kernel
theorem dX8_checkIsThere_4 : decode cX8_checkIsThere 4 = .ok (.getfield 126, 3) := by decide +kernel
theorem dX8_checkIsThere_7 : decode cX8_checkIsThere 7 = .ok (.getfield 152, 3) := by decide +kernel
theorem dX8_checkIsThere_10 : decode cX8_checkIsThere 10 = .ok (.iload_n 1, 1) := by decide +kernel
theorem dX8_checkIsThere_11 : decode cX8_checkIsThere 11 = .ok (.baload, 1) := by decide +kernel
theorem dX8_checkIsThere_12 : decode cX8_checkIsThere 12 = .ok (.ifCond .ne 14, 3) := by decide +kernel
theorem dX8_checkIsThere_15 : decode cX8_checkIsThere 15 = .ok (.new 73, 3) := by decide +kernel
theorem dX8_checkIsThere_18 : decode cX8_checkIsThere 18 = .ok (.dup, 1) := by decide +kernel
theorem dX8_checkIsThere_19 : decode cX8_checkIsThere 19 = .ok (.ldc_w 353, 3) := by decide +kernel
theorem dX8_checkIsThere_22 : decode cX8_checkIsThere 22 = .ok (.invokespecial 77, 3) := by decide +kernel
theorem dX8_checkIsThere_25 : decode cX8_checkIsThere 25 = .ok (.athrow, 1) := by decide +kernel
theorem dX8_checkIsThere_26 : decode cX8_checkIsThere 26 = .ok (.return_, 1) := by decide +kernel
theorem dX8_checkNote_0 : decode cX8_checkNote 0 = .ok (.iload_n 1, 1) := by decide +kernel
theorem dX8_checkNote_1 : decode cX8_checkNote 1 = .ok (.ifCond .lt 23, 3) := by decide +kernel
theorem dX8_checkNote_4 : decode cX8_checkNote 4 = .ok (.iload_n 1, 1) := by decide +kernel
theorem dX8_checkNote_5 : decode cX8_checkNote 5 = .ok (.aload_n 0, 1) := by decide +kernel
theorem dX8_checkNote_6 : decode cX8_checkNote 6 = .ok (.getfield 12, 3) := by decide +kernel
theorem dX8_checkNote_9 : decode cX8_checkNote 9 = .ok (.getfield 193, 3) := by decide +kernel
theorem dX8_checkNote_12 : decode cX8_checkNote 12 = .ok (.getfield 312, 3) := by decide +kernel
theorem dX8_checkNote_15 : decode cX8_checkNote 15 = .ok (.if_icmp .ge 9, 3) := by decide +kernel
theorem dX8_checkNote_18 : decode cX8_checkNote 18 = .ok (.iload_n 1, 1) := by decide +kernel
theorem dX8_checkNote_19 : decode cX8_checkNote 19 = .ok (.bipush 60, 2) := by decide +kernel
theorem dX8_checkNote_21 : decode cX8_checkNote 21 = .ok (.if_icmp .lt 14, 3) := by decide +kernel
theorem dX8_checkNote_24 : decode cX8_checkNote 24 = .ok (.new 73, 3) := by decide +kernel
theorem dX8_checkNote_27 : decode cX8_checkNote 27 = .ok (.dup, 1) := by decide +kernel
theorem dX8_checkNote_28 : decode cX8_checkNote 28 = .ok (.ldc_w 355, 3) := by decide +kernel
theorem dX8_checkNote_31 : decode cX8_checkNote 31 = .ok (.invokespecial 77, 3) := by decide +kernel
theorem dX8_checkNote_34 : decode cX8_checkNote 34 = .ok (.athrow, 1) := by decide +kernel
theorem dX8_checkNote_35 : decode cX8_checkNote 35 = .ok (.return_, 1) := by decide +kernel
theorem dX8_checkIndex_0 : decode cX8_checkIndex 0 = .ok (.iload_n 0, 1) := by decide +kernel
theorem dX8_checkIndex_1 : decode cX8_checkIndex 1 = .ok (.ifCond .lt 8, 3) := by decide +kernel
theorem dX8_checkIndex_4 : decode cX8_checkIndex 4 = .ok (.iload_n 0, 1) := by decide +kernel
theorem dX8_checkIndex_5 : decode cX8_checkIndex 5 = .ok (.iload_n 1, 1) := by decide +kernel
theorem dX8_checkIndex_6 : decode cX8_checkIndex 6 = .ok (.if_icmp .lt 14, 3) := by decide +kernel
theorem dX8_checkIndex_9 : decode cX8_checkIndex 9 = .ok (.new 307, 3) := by decide +kernel
theorem dX8_checkIndex_12 : decode cX8_checkIndex 12 = .ok (.dup, 1) := by decide +kernel
theorem dX8_checkIndex_13 : decode cX8_checkIndex 13 = .ok (.ldc_w 357, 3) := by decide +kernel
theorem dX8_checkIndex_16 : decode cX8_checkIndex 16 = .ok (.invokespecial 311, 3) := by decide +kernel
theorem dX8_checkIndex_19 : decode cX8_checkIndex 19 = .ok (.athrow, 1) := by decide +kernel
theorem dX8_checkIndex_20 : decode cX8_checkIndex 20 = .ok (.return_, 1) := by decide +kernel
theorem dX8_checkRange_0 : decode cX8_checkRange 0 = .ok (.iload_n 0, 1) := by decide +kernel
theorem dX8_checkRange_1 : decode cX8_checkRange 1 = .ok (.iload_n 1, 1) := by decide +kernel
theorem dX8_checkRange_2 : decode cX8_checkRange 2 = .ok (.if_icmp .lt 8, 3) := by decide +kernel
theorem dX8_checkRange_5 : decode cX8_checkRange 5 = .ok (.iload_n 0, 1) := by decide +kernel
theorem dX8_checkRange_6 : decode cX8_checkRange 6 = .ok (.iload_n 2, 1) := by decide +kernel
theorem dX8_checkRange_7 : decode cX8_checkRange 7 = .ok (.if_icmp .le 14, 3) := by decide +kernel
theorem dX8_checkRange_10 : decode cX8_checkRange 10 = .ok (.new 111, 3) := by decide +kernel
theorem dX8_checkRange_13 : decode cX8_checkRange 13 = .ok (.dup, 1) := by decide +kernel
theorem dX8_checkRange_14 : decode cX8_checkRange 14 = .ok (.ldc_w 359, 3) := by decide +kernel
theorem dX8_checkRange_17 : decode cX8_checkRange 17 = .ok (.invokespecial 115, 3) := by decide +kernel
theorem dX8_checkRange_20 : decode cX8_checkRange 20 = .ok (.athrow, 1) := by decide +kernel
theorem dX8_checkRange_21 : decode cX8_checkRange 21 = .ok (.return_, 1) := by decide +kernel
theorem dX8_checkLongitude_0 : decode cX8_checkLongitude 0 = .ok (.iload_n 0, 1) := by decide +kernel
theorem dX8_checkLongitude_1 : decode cX8_checkLongitude 1 = .ok (.iconst 0, 1) := by decide +kernel
theorem dX8_checkLongitude_2 : decode cX8_checkLongitude 2 = .ok (.sipush 3599, 3) := by decide +kernel
theorem dX8_checkLongitude_5 : decode cX8_checkLongitude 5 = .ok (.invokestatic 40, 3) := by decide +kernel
theorem dX8_checkLongitude_8 : decode cX8_checkLongitude 8 = .ok (.return_, 1) := by decide +kernel
theorem dX8_checkName_0 : decode cX8_checkName 0 = .ok (.iload_n 0, 1) := by decide +kernel
theorem dX8_checkName_1 : decode cX8_checkName 1 = .ok (.bipush 65, 2) := by decide +kernel
theorem dX8_checkName_3 : decode cX8_checkName 3 = .ok (.if_icmp .lt 9, 3) := by decide +kernel
theorem dX8_checkName_6 : decode cX8_checkName 6 = .ok (.iload_n 0, 1) := by decide +kernel
theorem dX8_checkName_7 : decode cX8_checkName 7 = .ok (.bipush 90, 2) := by decide +kernel
theorem dX8_checkName_9 : decode cX8_checkName 9 = .ok (.if_icmp .le 14, 3) := by decide +kernel
theorem dX8_checkName_12 : decode cX8_checkName 12 = .ok (.new 111, 3) := by decide +kernel
theorem dX8_checkName_15 : decode cX8_checkName 15 = .ok (.dup, 1) := by decide +kernel
theorem dX8_checkName_16 : decode cX8_checkName 16 = .ok (.ldc_w 361, 3) := by decide +kernel
theorem dX8_checkName_19 : decode cX8_checkName 19 = .ok (.invokespecial 115, 3) := by decide +kernel
theorem dX8_checkName_22 : decode cX8_checkName 22 = .ok (.athrow, 1) := by decide +kernel
theorem dX8_checkName_23 : decode cX8_checkName 23 = .ok (.return_, 1) := by decide +kernel
theorem dX8_checkRoom_0 : decode cX8_checkRoom 0 = .ok (.iload_n 0, 1) := by decide +kernel
theorem dX8_checkRoom_1 : decode cX8_checkRoom 1 = .ok (.iload_n 1, 1) := by decide +kernel
theorem dX8_checkRoom_2 : decode cX8_checkRoom 2 = .ok (.if_icmp .lt 14, 3) := by decide +kernel
theorem dX8_checkRoom_5 : decode cX8_checkRoom 5 = .ok (.new 363, 3) := by decide +kernel
theorem dX8_checkRoom_8 : decode cX8_checkRoom 8 = .ok (.dup, 1) := by decide +kernel
theorem dX8_checkRoom_9 : decode cX8_checkRoom 9 = .ok (.ldc_w 365, 3) := by decide +kernel
theorem dX8_checkRoom_12 : decode cX8_checkRoom 12 = .ok (.invokespecial 367, 3) := by decide +kernel
theorem dX8_checkRoom_15 : decode cX8_checkRoom 15 = .ok (.athrow, 1) := by decide +kernel
theorem dX8_checkRoom_16 : decode cX8_checkRoom 16 = .ok (.return_, 1) := by decide +kernel
theorem dX8_distance_0 : decode cX8_distance 0 = .ok (.iload_n 0, 1) := by decide +kernel
theorem dX8_distance_1 : decode cX8_distance 1 = .ok (.iload_n 1, 1) := by decide +kernel
theorem dX8_distance_2 : decode cX8_distance 2 = .ok (.isub, 1) := by decide +kernel
theorem dX8_distance_3 : decode cX8_distance 3 = .ok (.invokestatic 106, 3) := by decide +kernel
theorem dX8_distance_6 : decode cX8_distance 6 = .ok (.istore_n 2, 1) := by decide +kernel
theorem dX8_distance_7 : decode cX8_distance 7 = .ok (.iload_n 2, 1) := by decide +kernel
theorem dX8_distance_8 : decode cX8_distance 8 = .ok (.sipush 3600, 3) := by decide +kernel
theorem dX8_distance_11 : decode cX8_distance 11 = .ok (.iload_n 2, 1) := by decide +kernel
theorem dX8_distance_12 : decode cX8_distance 12 = .ok (.isub, 1) := by decide +kernel
theorem dX8_distance_13 : decode cX8_distance 13 = .ok (.invokestatic 212, 3) := by decide +kernel
theorem dX8_distance_16 : decode cX8_distance 16 = .ok (.ireturn, 1) := by decide +kernel
