theorem dL_setTemperature_0 : decode cL_setTemperature 0 = .ok (.aload_n 3, 1) := by decide +kernel
theorem dL_setTemperature_1 : decode cL_setTemperature 1 = .ok (.iconst 0, 1) := by decide +kernel
theorem dL_setTemperature_2 : decode cL_setTemperature 2 = .ok (.aload_n 0, 1) := by decide +kernel
theorem dL_setTemperature_3 : decode cL_setTemperature 3 = .ok (.iload_n 1, 1) := by decide +kernel
theorem dL_setTemperature_4 : decode cL_setTemperature 4 = .ok (.iload_n 2, 1) := by decide +kernel
theorem dL_setTemperature_5 : decode cL_setTemperature 5 = .ok (.invokevirtual 7, 3) := by decide +kernel
theorem dL_setTemperature_8 : decode cL_setTemperature 8 = .ok (.i2l, 1) := by decide +kernel
theorem dL_setTemperature_9 : decode cL_setTemperature 9 = .ok (.lastore, 1) := by decide +kernel
theorem dL_setTemperature_10 : decode cL_setTemperature 10 = .ok (.goto 11, 3) := by decide +kernel
theorem dL_setTemperature_13 : decode cL_setTemperature 13 = .ok (.astore 4, 2) := by decide +kernel
theorem dL_setTemperature_15 : decode cL_setTemperature 15 = .ok (.iconst 1, 1) := by decide +kernel
theorem dL_setTemperature_16 : decode cL_setTemperature 16 = .ok (.ireturn, 1) := by decide +kernel
theorem dL_setTemperature_17 : decode cL_setTemperature 17 = .ok (.astore 4, 2) := by decide +kernel
theorem dL_setTemperature_19 : decode cL_setTemperature 19 = .ok (.iconst 2, 1) := by decide +kernel
theorem dL_setTemperature_20 : decode cL_setTemperature 20 = .ok (.ireturn, 1) := by decide +kernel
theorem dL_setTemperature_21 : decode cL_setTemperature 21 = .ok (.iconst 0, 1) := by decide +kernel
theorem dL_setTemperature_22 : decode cL_setTemperature 22 = .ok (.ireturn, 1) := by decide +kernel
theorem dL_getTemperature_0 : decode cL_getTemperature 0 = .ok (.aload_n 2, 1) := by decide +kernel
theorem dL_getTemperature_1 : decode cL_getTemperature 1 = .ok (.iconst 0, 1) := by decide +kernel
theorem dL_getTemperature_2 : decode cL_getTemperature 2 = .ok (.aload_n 0, 1) := by decide +kernel
theorem dL_getTemperature_3 : decode cL_getTemperature 3 = .ok (.iload_n 1, 1) := by decide +kernel
theorem dL_getTemperature_4 : decode cL_getTemperature 4 = .ok (.invokevirtual 17, 3) := by decide +kernel
theorem dL_getTemperature_7 : decode cL_getTemperature 7 = .ok (.i2l, 1) := by decide +kernel
theorem dL_getTemperature_8 : decode cL_getTemperature 8 = .ok (.lastore, 1) := by decide +kernel
theorem dL_getTemperature_9 : decode cL_getTemperature 9 = .ok (.goto 6, 3) := by decide +kernel
theorem dL_getTemperature_12 : decode cL_getTemperature 12 = .ok (.astore_n 3, 1) := by decide +kernel
theorem dL_getTemperature_13 : decode cL_getTemperature 13 = .ok (.iconst 1, 1) := by decide +kernel
theorem dL_getTemperature_14 : decode cL_getTemperature 14 = .ok (.ireturn, 1) := by decide +kernel
theorem dL_getTemperature_15 : decode cL_getTemperature 15 = .ok (.iconst 0, 1) := by decide +kernel
theorem dL_getTemperature_16 : decode cL_getTemperature 16 = .ok (.ireturn, 1) := by decide +kernel
theorem dL_setVapour_0 : decode cL_setVapour 0 = .ok (.aload 4, 2) := by decide +kernel
theorem dL_setVapour_2 : decode cL_setVapour 2 = .ok (.iconst 0, 1) := by decide +kernel
theorem dL_setVapour_3 : decode cL_setVapour 3 = .ok (.aload_n 0, 1) := by decide +kernel
theorem dL_setVapour_4 : decode cL_setVapour 4 = .ok (.iload_n 1, 1) := by decide +kernel
theorem dL_setVapour_5 : decode cL_setVapour 5 = .ok (.iload_n 2, 1) := by decide +kernel
theorem dL_setVapour_6 : decode cL_setVapour 6 = .ok (.iload_n 3, 1) := by decide +kernel
theorem dL_setVapour_7 : decode cL_setVapour 7 = .ok (.invokevirtual 21, 3) := by decide +kernel
theorem dL_setVapour_10 : decode cL_setVapour 10 = .ok (.i2l, 1) := by decide +kernel
theorem dL_setVapour_11 : decode cL_setVapour 11 = .ok (.lastore, 1) := by decide +kernel
theorem dL_setVapour_12 : decode cL_setVapour 12 = .ok (.goto 11, 3) := by decide +kernel
theorem dL_setVapour_15 : decode cL_setVapour 15 = .ok (.astore 5, 2) := by decide +kernel
theorem dL_setVapour_17 : decode cL_setVapour 17 = .ok (.iconst 1, 1) := by decide +kernel
theorem dL_setVapour_18 : decode cL_setVapour 18 = .ok (.ireturn, 1) := by decide +kernel
theorem dL_setVapour_19 : decode cL_setVapour 19 = .ok (.astore 5, 2) := by decide +kernel
theorem dL_setVapour_21 : decode cL_setVapour 21 = .ok (.iconst 2, 1) := by decide +kernel
theorem dL_setVapour_22 : decode cL_setVapour 22 = .ok (.ireturn, 1) := by decide +kernel
theorem dL_setVapour_23 : decode cL_setVapour 23 = .ok (.iconst 0, 1) := by decide +kernel
theorem dL_setVapour_24 : decode cL_setVapour 24 = .ok (.ireturn, 1) := by decide +kernel
theorem dL_getVapour_0 : decode cL_getVapour 0 = .ok (.aload_n 3, 1) := by decide +kernel
theorem dL_getVapour_1 : decode cL_getVapour 1 = .ok (.iconst 0, 1) := by decide +kernel
theorem dL_getVapour_2 : decode cL_getVapour 2 = .ok (.aload_n 0, 1) := by decide +kernel
theorem dL_getVapour_3 : decode cL_getVapour 3 = .ok (.iload_n 1, 1) := by decide +kernel
theorem dL_getVapour_4 : decode cL_getVapour 4 = .ok (.iload_n 2, 1) := by decide +kernel
theorem dL_getVapour_5 : decode cL_getVapour 5 = .ok (.invokevirtual 25, 3) := by decide +kernel
theorem dL_getVapour_8 : decode cL_getVapour 8 = .ok (.i2l, 1) := by decide +kernel
theorem dL_getVapour_9 : decode cL_getVapour 9 = .ok (.lastore, 1) := by decide +kernel
theorem dL_getVapour_10 : decode cL_getVapour 10 = .ok (.goto 7, 3) := by decide +kernel
theorem dL_getVapour_13 : decode cL_getVapour 13 = .ok (.astore 4, 2) := by decide +kernel
theorem dL_getVapour_15 : decode cL_getVapour 15 = .ok (.iconst 1, 1) := by decide +kernel
theorem dL_getVapour_16 : decode cL_getVapour 16 = .ok (.ireturn, 1) := by decide +kernel
theorem dL_getVapour_17 : decode cL_getVapour 17 = .ok (.iconst 0, 1) := by decide +kernel
theorem dL_getVapour_18 : decode cL_getVapour 18 = .ok (.ireturn, 1) := by decide +kernel
theorem dL_getIce_0 : decode cL_getIce 0 = .ok (.aload_n 3, 1) := by decide +kernel
theorem dL_getIce_1 : decode cL_getIce 1 = .ok (.iconst 0, 1) := by decide +kernel
theorem dL_getIce_2 : decode cL_getIce 2 = .ok (.aload_n 0, 1) := by decide +kernel
theorem dL_getIce_3 : decode cL_getIce 3 = .ok (.iload_n 1, 1) := by decide +kernel
theorem dL_getIce_4 : decode cL_getIce 4 = .ok (.iload_n 2, 1) := by decide +kernel
theorem dL_getIce_5 : decode cL_getIce 5 = .ok (.invokevirtual 28, 3) := by decide +kernel
theorem dL_getIce_8 : decode cL_getIce 8 = .ok (.i2l, 1) := by decide +kernel
theorem dL_getIce_9 : decode cL_getIce 9 = .ok (.lastore, 1) := by decide +kernel
theorem dL_getIce_10 : decode cL_getIce 10 = .ok (.goto 7, 3) := by decide +kernel
theorem dL_getIce_13 : decode cL_getIce 13 = .ok (.astore 4, 2) := by decide +kernel
theorem dL_getIce_15 : decode cL_getIce 15 = .ok (.iconst 1, 1) := by decide +kernel
theorem dL_getIce_16 : decode cL_getIce 16 = .ok (.ireturn, 1) := by decide +kernel
theorem dL_getIce_17 : decode cL_getIce 17 = .ok (.iconst 0, 1) := by decide +kernel
theorem dL_getIce_18 : decode cL_getIce 18 = .ok (.ireturn, 1) := by decide +kernel
theorem dL_deck_0 : decode cL_deck 0 = .ok (.aload_n 2, 1) := by decide +kernel
theorem dL_deck_1 : decode cL_deck 1 = .ok (.iconst 0, 1) := by decide +kernel
theorem dL_deck_2 : decode cL_deck 2 = .ok (.aload_n 0, 1) := by decide +kernel
theorem dL_deck_3 : decode cL_deck 3 = .ok (.iload_n 1, 1) := by decide +kernel
theorem dL_deck_4 : decode cL_deck 4 = .ok (.invokevirtual 31, 3) := by decide +kernel
theorem dL_deck_7 : decode cL_deck 7 = .ok (.i2l, 1) := by decide +kernel
theorem dL_deck_8 : decode cL_deck 8 = .ok (.lastore, 1) := by decide +kernel
theorem dL_deck_9 : decode cL_deck 9 = .ok (.goto 9, 3) := by decide +kernel
theorem dL_deck_12 : decode cL_deck 12 = .ok (.astore_n 3, 1) := by decide +kernel
theorem dL_deck_13 : decode cL_deck 13 = .ok (.iconst 1, 1) := by decide +kernel
theorem dL_deck_14 : decode cL_deck 14 = .ok (.ireturn, 1) := by decide +kernel
theorem dL_deck_15 : decode cL_deck 15 = .ok (.astore_n 3, 1) := by decide +kernel
theorem dL_deck_16 : decode cL_deck 16 = .ok (.iconst 2, 1) := by decide +kernel
theorem dL_deck_17 : decode cL_deck 17 = .ok (.ireturn, 1) := by decide +kernel
theorem dL_deck_18 : decode cL_deck 18 = .ok (.iconst 0, 1) := by decide +kernel
theorem dL_deck_19 : decode cL_deck 19 = .ok (.ireturn, 1) := by decide +kernel
theorem dL_setCore_0 : decode cL_setCore 0 = .ok (.aload_n 2, 1) := by decide +kernel
theorem dL_setCore_1 : decode cL_setCore 1 = .ok (.iconst 0, 1) := by decide +kernel
theorem dL_setCore_2 : decode cL_setCore 2 = .ok (.aload_n 0, 1) := by decide +kernel
theorem dL_setCore_3 : decode cL_setCore 3 = .ok (.iload_n 1, 1) := by decide +kernel
theorem dL_setCore_4 : decode cL_setCore 4 = .ok (.invokevirtual 36, 3) := by decide +kernel
theorem dL_setCore_7 : decode cL_setCore 7 = .ok (.i2l, 1) := by decide +kernel
theorem dL_setCore_8 : decode cL_setCore 8 = .ok (.lastore, 1) := by decide +kernel
theorem dL_setCore_9 : decode cL_setCore 9 = .ok (.goto 6, 3) := by decide +kernel
theorem dL_setCore_12 : decode cL_setCore 12 = .ok (.astore_n 3, 1) := by decide +kernel
theorem dL_setCore_13 : decode cL_setCore 13 = .ok (.iconst 1, 1) := by decide +kernel
theorem dL_setCore_14 : decode cL_setCore 14 = .ok (.ireturn, 1) := by decide +kernel
theorem dL_setCore_15 : decode cL_setCore 15 = .ok (.iconst 0, 1) := by decide +kernel
theorem dL_setCore_16 : decode cL_setCore 16 = .ok (.ireturn, 1) := by decide +kernel
theorem dL_pressure_0 : decode cL_pressure 0 = .ok (.aload_n 2, 1) := by decide +kernel
theorem dL_pressure_1 : decode cL_pressure 1 = .ok (.iconst 0, 1) := by decide +kernel
theorem dL_pressure_2 : decode cL_pressure 2 = .ok (.aload_n 0, 1) := by decide +kernel
theorem dL_pressure_3 : decode cL_pressure 3 = .ok (.iload_n 1, 1) := by decide +kernel
theorem dL_pressure_4 : decode cL_pressure 4 = .ok (.invokevirtual 39, 3) := by decide +kernel
theorem dL_pressure_7 : decode cL_pressure 7 = .ok (.f2d, 1) := by decide +kernel
theorem dL_pressure_8 : decode cL_pressure 8 = .ok (.dastore, 1) := by decide +kernel
theorem dL_pressure_9 : decode cL_pressure 9 = .ok (.goto 6, 3) := by decide +kernel
theorem dL_pressure_12 : decode cL_pressure 12 = .ok (.astore_n 3, 1) := by decide +kernel
theorem dL_pressure_13 : decode cL_pressure 13 = .ok (.iconst 1, 1) := by decide +kernel
theorem dL_pressure_14 : decode cL_pressure 14 = .ok (.ireturn, 1) := by decide +kernel
theorem dL_pressure_15 : decode cL_pressure 15 = .ok (.iconst 0, 1) := by decide +kernel
theorem dL_pressure_16 : decode cL_pressure 16 = .ok (.ireturn, 1) := by decide +kernel
theorem dL_setTurning_0 : decode cL_setTurning 0 = .ok (.aload_n 3, 1) := by decide +kernel
theorem dL_setTurning_1 : decode cL_setTurning 1 = .ok (.iconst 0, 1) := by decide +kernel
theorem dL_setTurning_2 : decode cL_setTurning 2 = .ok (.aload_n 0, 1) := by decide +kernel
theorem dL_setTurning_3 : decode cL_setTurning 3 = .ok (.iload_n 1, 1) := by decide +kernel
theorem dL_setTurning_4 : decode cL_setTurning 4 = .ok (.iload_n 2, 1) := by decide +kernel
theorem dL_setTurning_5 : decode cL_setTurning 5 = .ok (.invokevirtual 43, 3) := by decide +kernel
theorem dL_setTurning_8 : decode cL_setTurning 8 = .ok (.i2l, 1) := by decide +kernel
theorem dL_setTurning_9 : decode cL_setTurning 9 = .ok (.lastore, 1) := by decide +kernel
theorem dL_setTurning_10 : decode cL_setTurning 10 = .ok (.goto 11, 3) := by decide +kernel
theorem dL_setTurning_13 : decode cL_setTurning 13 = .ok (.astore 4, 2) := by decide +kernel
theorem dL_setTurning_15 : decode cL_setTurning 15 = .ok (.iconst 1, 1) := by decide +kernel
theorem dL_setTurning_16 : decode cL_setTurning 16 = .ok (.ireturn, 1) := by decide +kernel
theorem dL_setTurning_17 : decode cL_setTurning 17 = .ok (.astore 4, 2) := by decide +kernel
theorem dL_setTurning_19 : decode cL_setTurning 19 = .ok (.iconst 2, 1) := by decide +kernel
theorem dL_setTurning_20 : decode cL_setTurning 20 = .ok (.ireturn, 1) := by decide +kernel
theorem dL_setTurning_21 : decode cL_setTurning 21 = .ok (.iconst 0, 1) := by decide +kernel
theorem dL_setTurning_22 : decode cL_setTurning 22 = .ok (.ireturn, 1) := by decide +kernel
theorem dL_getTurning_0 : decode cL_getTurning 0 = .ok (.aload_n 2, 1) := by decide +kernel
theorem dL_getTurning_1 : decode cL_getTurning 1 = .ok (.iconst 0, 1) := by decide +kernel
theorem dL_getTurning_2 : decode cL_getTurning 2 = .ok (.aload_n 0, 1) := by decide +kernel
theorem dL_getTurning_3 : decode cL_getTurning 3 = .ok (.iload_n 1, 1) := by decide +kernel
theorem dL_getTurning_4 : decode cL_getTurning 4 = .ok (.invokevirtual 46, 3) := by decide +kernel
theorem dL_getTurning_7 : decode cL_getTurning 7 = .ok (.i2l, 1) := by decide +kernel
theorem dL_getTurning_8 : decode cL_getTurning 8 = .ok (.lastore, 1) := by decide +kernel
theorem dL_getTurning_9 : decode cL_getTurning 9 = .ok (.goto 6, 3) := by decide +kernel
theorem dL_getTurning_12 : decode cL_getTurning 12 = .ok (.astore_n 3, 1) := by decide +kernel
theorem dL_getTurning_13 : decode cL_getTurning 13 = .ok (.iconst 1, 1) := by decide +kernel
theorem dL_getTurning_14 : decode cL_getTurning 14 = .ok (.ireturn, 1) := by decide +kernel
theorem dL_getTurning_15 : decode cL_getTurning 15 = .ok (.iconst 0, 1) := by decide +kernel
theorem dL_getTurning_16 : decode cL_getTurning 16 = .ok (.ireturn, 1) := by decide +kernel
theorem dL_getWind_0 : decode cL_getWind 0 = .ok (.aload_n 2, 1) := by decide +kernel
theorem dL_getWind_1 : decode cL_getWind 1 = .ok (.iconst 0, 1) := by decide +kernel
theorem dL_getWind_2 : decode cL_getWind 2 = .ok (.aload_n 0, 1) := by decide +kernel
theorem dL_getWind_3 : decode cL_getWind 3 = .ok (.iload_n 1, 1) := by decide +kernel
theorem dL_getWind_4 : decode cL_getWind 4 = .ok (.invokevirtual 49, 3) := by decide +kernel
theorem dL_getWind_7 : decode cL_getWind 7 = .ok (.i2l, 1) := by decide +kernel
theorem dL_getWind_8 : decode cL_getWind 8 = .ok (.lastore, 1) := by decide +kernel
theorem dL_getWind_9 : decode cL_getWind 9 = .ok (.goto 6, 3) := by decide +kernel
theorem dL_getWind_12 : decode cL_getWind 12 = .ok (.astore_n 3, 1) := by decide +kernel
theorem dL_getWind_13 : decode cL_getWind 13 = .ok (.iconst 1, 1) := by decide +kernel
theorem dL_getWind_14 : decode cL_getWind 14 = .ok (.ireturn, 1) := by decide +kernel
theorem dL_getWind_15 : decode cL_getWind 15 = .ok (.iconst 0, 1) := by decide +kernel
theorem dL_getWind_16 : decode cL_getWind 16 = .ok (.ireturn, 1) := by decide +kernel
theorem dL_getShear_0 : decode cL_getShear 0 = .ok (.aload_n 2, 1) := by decide +kernel
theorem dL_getShear_1 : decode cL_getShear 1 = .ok (.iconst 0, 1) := by decide +kernel
theorem dL_getShear_2 : decode cL_getShear 2 = .ok (.aload_n 0, 1) := by decide +kernel
theorem dL_getShear_3 : decode cL_getShear 3 = .ok (.iload_n 1, 1) := by decide +kernel
theorem dL_getShear_4 : decode cL_getShear 4 = .ok (.invokevirtual 52, 3) := by decide +kernel
theorem dL_getShear_7 : decode cL_getShear 7 = .ok (.i2l, 1) := by decide +kernel
theorem dL_getShear_8 : decode cL_getShear 8 = .ok (.lastore, 1) := by decide +kernel
theorem dL_getShear_9 : decode cL_getShear 9 = .ok (.goto 6, 3) := by decide +kernel
theorem dL_getShear_12 : decode cL_getShear 12 = .ok (.astore_n 3, 1) := by decide +kernel
theorem dL_getShear_13 : decode cL_getShear 13 = .ok (.iconst 1, 1) := by decide +kernel
theorem dL_getShear_14 : decode cL_getShear 14 = .ok (.ireturn, 1) := by decide +kernel
theorem dL_getShear_15 : decode cL_getShear 15 = .ok (.iconst 0, 1) := by decide +kernel
theorem dL_getShear_16 : decode cL_getShear 16 = .ok (.ireturn, 1) := by decide +kernel
theorem dL_stir_0 : decode cL_stir 0 = .ok (.aload 4, 2) := by decide +kernel
theorem dL_stir_2 : decode cL_stir 2 = .ok (.iconst 0, 1) := by decide +kernel
theorem dL_stir_3 : decode cL_stir 3 = .ok (.aload_n 0, 1) := by decide +kernel
theorem dL_stir_4 : decode cL_stir 4 = .ok (.iload_n 1, 1) := by decide +kernel
theorem dL_stir_5 : decode cL_stir 5 = .ok (.iload_n 2, 1) := by decide +kernel
theorem dL_stir_6 : decode cL_stir 6 = .ok (.iload_n 3, 1) := by decide +kernel
theorem dL_stir_7 : decode cL_stir 7 = .ok (.invokevirtual 55, 3) := by decide +kernel
theorem dL_stir_10 : decode cL_stir 10 = .ok (.i2l, 1) := by decide +kernel
theorem dL_stir_11 : decode cL_stir 11 = .ok (.lastore, 1) := by decide +kernel
theorem dL_stir_12 : decode cL_stir 12 = .ok (.goto 11, 3) := by decide +kernel
theorem dL_stir_15 : decode cL_stir 15 = .ok (.astore 5, 2) := by decide +kernel
theorem dL_stir_17 : decode cL_stir 17 = .ok (.iconst 1, 1) := by decide +kernel
theorem dL_stir_18 : decode cL_stir 18 = .ok (.ireturn, 1) := by decide +kernel
theorem dL_stir_19 : decode cL_stir 19 = .ok (.astore 5, 2) := by decide +kernel
theorem dL_stir_21 : decode cL_stir 21 = .ok (.iconst 2, 1) := by decide +kernel
theorem dL_stir_22 : decode cL_stir 22 = .ok (.ireturn, 1) := by decide +kernel
theorem dL_stir_23 : decode cL_stir 23 = .ok (.iconst 0, 1) := by decide +kernel
theorem dL_stir_24 : decode cL_stir 24 = .ok (.ireturn, 1) := by decide +kernel
theorem dL_setDrag_0 : decode cL_setDrag 0 = .ok (.aload_n 2, 1) := by decide +kernel
theorem dL_setDrag_1 : decode cL_setDrag 1 = .ok (.iconst 0, 1) := by decide +kernel
theorem dL_setDrag_2 : decode cL_setDrag 2 = .ok (.aload_n 0, 1) := by decide +kernel
theorem dL_setDrag_3 : decode cL_setDrag 3 = .ok (.iload_n 1, 1) := by decide +kernel
theorem dL_setDrag_4 : decode cL_setDrag 4 = .ok (.invokevirtual 58, 3) := by decide +kernel
theorem dL_setDrag_7 : decode cL_setDrag 7 = .ok (.i2l, 1) := by decide +kernel
theorem dL_setDrag_8 : decode cL_setDrag 8 = .ok (.lastore, 1) := by decide +kernel
theorem dL_setDrag_9 : decode cL_setDrag 9 = .ok (.goto 6, 3) := by decide +kernel
theorem dL_setDrag_12 : decode cL_setDrag 12 = .ok (.astore_n 3, 1) := by decide +kernel
theorem dL_setDrag_13 : decode cL_setDrag 13 = .ok (.iconst 1, 1) := by decide +kernel
theorem dL_setDrag_14 : decode cL_setDrag 14 = .ok (.ireturn, 1) := by decide +kernel
theorem dL_setDrag_15 : decode cL_setDrag 15 = .ok (.iconst 0, 1) := by decide +kernel
theorem dL_setDrag_16 : decode cL_setDrag 16 = .ok (.ireturn, 1) := by decide +kernel
theorem dL_addStorm_0 : decode cL_addStorm 0 = .ok (.aload 4, 2) := by decide +kernel
theorem dL_addStorm_2 : decode cL_addStorm 2 = .ok (.iconst 0, 1) := by decide +kernel
theorem dL_addStorm_3 : decode cL_addStorm 3 = .ok (.aload_n 0, 1) := by decide +kernel
theorem dL_addStorm_4 : decode cL_addStorm 4 = .ok (.iload_n 1, 1) := by decide +kernel
theorem dL_addStorm_5 : decode cL_addStorm 5 = .ok (.iload_n 2, 1) := by decide +kernel
theorem dL_addStorm_6 : decode cL_addStorm 6 = .ok (.iload_n 3, 1) := by decide +kernel
theorem dL_addStorm_7 : decode cL_addStorm 7 = .ok (.invokevirtual 61, 3) := by decide +kernel
theorem dL_addStorm_10 : decode cL_addStorm 10 = .ok (.i2l, 1) := by decide +kernel
theorem dL_addStorm_11 : decode cL_addStorm 11 = .ok (.lastore, 1) := by decide +kernel
theorem dL_addStorm_12 : decode cL_addStorm 12 = .ok (.goto 15, 3) := by decide +kernel
theorem dL_addStorm_15 : decode cL_addStorm 15 = .ok (.astore 5, 2) := by decide +kernel
theorem dL_addStorm_17 : decode cL_addStorm 17 = .ok (.iconst 1, 1) := by decide +kernel
theorem dL_addStorm_18 : decode cL_addStorm 18 = .ok (.ireturn, 1) := by decide +kernel
theorem dL_addStorm_19 : decode cL_addStorm 19 = .ok (.astore 5, 2) := by decide +kernel
theorem dL_addStorm_21 : decode cL_addStorm 21 = .ok (.iconst 2, 1) := by decide +kernel
theorem dL_addStorm_22 : decode cL_addStorm 22 = .ok (.ireturn, 1) := by decide +kernel
theorem dL_addStorm_23 : decode cL_addStorm 23 = .ok (.astore 5, 2) := by decide +kernel
theorem dL_addStorm_25 : decode cL_addStorm 25 = .ok (.iconst 3, 1) := by decide +kernel
theorem dL_addStorm_26 : decode cL_addStorm 26 = .ok (.ireturn, 1) := by decide +kernel
theorem dL_addStorm_27 : decode cL_addStorm 27 = .ok (.iconst 0, 1) := by decide +kernel
theorem dL_addStorm_28 : decode cL_addStorm 28 = .ok (.ireturn, 1) := by decide +kernel
theorem dL_nameStorm_0 : decode cL_nameStorm 0 = .ok (.aload_n 3, 1) := by decide +kernel
theorem dL_nameStorm_1 : decode cL_nameStorm 1 = .ok (.iconst 0, 1) := by decide +kernel
theorem dL_nameStorm_2 : decode cL_nameStorm 2 = .ok (.aload_n 0, 1) := by decide +kernel
theorem dL_nameStorm_3 : decode cL_nameStorm 3 = .ok (.iload_n 1, 1) := by decide +kernel
theorem dL_nameStorm_4 : decode cL_nameStorm 4 = .ok (.iload_n 2, 1) := by decide +kernel
theorem dL_nameStorm_5 : decode cL_nameStorm 5 = .ok (.invokevirtual 66, 3) := by decide +kernel
theorem dL_nameStorm_8 : decode cL_nameStorm 8 = .ok (.i2l, 1) := by decide +kernel
theorem dL_nameStorm_9 : decode cL_nameStorm 9 = .ok (.lastore, 1) := by decide +kernel
theorem dL_nameStorm_10 : decode cL_nameStorm 10 = .ok (.goto 15, 3) := by decide +kernel
theorem dL_nameStorm_13 : decode cL_nameStorm 13 = .ok (.astore 4, 2) := by decide +kernel
theorem dL_nameStorm_15 : decode cL_nameStorm 15 = .ok (.iconst 1, 1) := by decide +kernel
theorem dL_nameStorm_16 : decode cL_nameStorm 16 = .ok (.ireturn, 1) := by decide +kernel
theorem dL_nameStorm_17 : decode cL_nameStorm 17 = .ok (.astore 4, 2) := by decide +kernel
theorem dL_nameStorm_19 : decode cL_nameStorm 19 = .ok (.iconst 2, 1) := by decide +kernel
theorem dL_nameStorm_20 : decode cL_nameStorm 20 = .ok (.ireturn, 1) := by decide +kernel
theorem dL_nameStorm_21 : decode cL_nameStorm 21 = .ok (.astore 4, 2) := by decide +kernel
theorem dL_nameStorm_23 : decode cL_nameStorm 23 = .ok (.iconst 3, 1) := by decide +kernel
theorem dL_nameStorm_24 : decode cL_nameStorm 24 = .ok (.ireturn, 1) := by decide +kernel
theorem dL_nameStorm_25 : decode cL_nameStorm 25 = .ok (.iconst 0, 1) := by decide +kernel
theorem dL_nameStorm_26 : decode cL_nameStorm 26 = .ok (.ireturn, 1) := by decide +kernel
theorem dL_findName_0 : decode cL_findName 0 = .ok (.aload_n 2, 1) := by decide +kernel
theorem dL_findName_1 : decode cL_findName 1 = .ok (.iconst 0, 1) := by decide +kernel
theorem dL_findName_2 : decode cL_findName 2 = .ok (.aload_n 0, 1) := by decide +kernel
theorem dL_findName_3 : decode cL_findName 3 = .ok (.iload_n 1, 1) := by decide +kernel
theorem dL_findName_4 : decode cL_findName 4 = .ok (.invokevirtual 72, 3) := by decide +kernel
theorem dL_findName_7 : decode cL_findName 7 = .ok (.i2l, 1) := by decide +kernel
theorem dL_findName_8 : decode cL_findName 8 = .ok (.lastore, 1) := by decide +kernel
theorem dL_findName_9 : decode cL_findName 9 = .ok (.goto 9, 3) := by decide +kernel
theorem dL_findName_12 : decode cL_findName 12 = .ok (.astore_n 3, 1) := by decide +kernel
theorem dL_findName_13 : decode cL_findName 13 = .ok (.iconst 1, 1) := by decide +kernel
theorem dL_findName_14 : decode cL_findName 14 = .ok (.ireturn, 1) := by decide +kernel
theorem dL_findName_15 : decode cL_findName 15 = .ok (.astore_n 3, 1) := by decide +kernel
theorem dL_findName_16 : decode cL_findName 16 = .ok (.iconst 2, 1) := by decide +kernel
theorem dL_findName_17 : decode cL_findName 17 = .ok (.ireturn, 1) := by decide +kernel
theorem dL_findName_18 : decode cL_findName 18 = .ok (.iconst 0, 1) := by decide +kernel
theorem dL_findName_19 : decode cL_findName 19 = .ok (.ireturn, 1) := by decide +kernel
theorem dL_getLongitude_0 : decode cL_getLongitude 0 = .ok (.aload_n 2, 1) := by decide +kernel
theorem dL_getLongitude_1 : decode cL_getLongitude 1 = .ok (.iconst 0, 1) := by decide +kernel
theorem dL_getLongitude_2 : decode cL_getLongitude 2 = .ok (.aload_n 0, 1) := by decide +kernel
theorem dL_getLongitude_3 : decode cL_getLongitude 3 = .ok (.iload_n 1, 1) := by decide +kernel
theorem dL_getLongitude_4 : decode cL_getLongitude 4 = .ok (.invokevirtual 76, 3) := by decide +kernel
theorem dL_getLongitude_7 : decode cL_getLongitude 7 = .ok (.i2l, 1) := by decide +kernel
theorem dL_getLongitude_8 : decode cL_getLongitude 8 = .ok (.lastore, 1) := by decide +kernel
theorem dL_getLongitude_9 : decode cL_getLongitude 9 = .ok (.goto 9, 3) := by decide +kernel
theorem dL_getLongitude_12 : decode cL_getLongitude 12 = .ok (.astore_n 3, 1) := by decide +kernel
theorem dL_getLongitude_13 : decode cL_getLongitude 13 = .ok (.iconst 1, 1) := by decide +kernel
theorem dL_getLongitude_14 : decode cL_getLongitude 14 = .ok (.ireturn, 1) := by decide +kernel
theorem dL_getLongitude_15 : decode cL_getLongitude 15 = .ok (.astore_n 3, 1) := by decide +kernel
theorem dL_getLongitude_16 : decode cL_getLongitude 16 = .ok (.iconst 2, 1) := by decide +kernel
theorem dL_getLongitude_17 : decode cL_getLongitude 17 = .ok (.ireturn, 1) := by decide +kernel
theorem dL_getLongitude_18 : decode cL_getLongitude 18 = .ok (.iconst 0, 1) := by decide +kernel
theorem dL_getLongitude_19 : decode cL_getLongitude 19 = .ok (.ireturn, 1) := by decide +kernel
theorem dL_getSize_0 : decode cL_getSize 0 = .ok (.aload_n 2, 1) := by decide +kernel
theorem dL_getSize_1 : decode cL_getSize 1 = .ok (.iconst 0, 1) := by decide +kernel
theorem dL_getSize_2 : decode cL_getSize 2 = .ok (.aload_n 0, 1) := by decide +kernel
theorem dL_getSize_3 : decode cL_getSize 3 = .ok (.iload_n 1, 1) := by decide +kernel
theorem dL_getSize_4 : decode cL_getSize 4 = .ok (.invokevirtual 79, 3) := by decide +kernel
theorem dL_getSize_7 : decode cL_getSize 7 = .ok (.i2l, 1) := by decide +kernel
theorem dL_getSize_8 : decode cL_getSize 8 = .ok (.lastore, 1) := by decide +kernel
theorem dL_getSize_9 : decode cL_getSize 9 = .ok (.goto 9, 3) := by decide +kernel
theorem dL_getSize_12 : decode cL_getSize 12 = .ok (.astore_n 3, 1) := by decide +kernel
theorem dL_getSize_13 : decode cL_getSize 13 = .ok (.iconst 1, 1) := by decide +kernel
theorem dL_getSize_14 : decode cL_getSize 14 = .ok (.ireturn, 1) := by decide +kernel
theorem dL_getSize_15 : decode cL_getSize 15 = .ok (.astore_n 3, 1) := by decide +kernel
theorem dL_getSize_16 : decode cL_getSize 16 = .ok (.iconst 2, 1) := by decide +kernel
theorem dL_getSize_17 : decode cL_getSize 17 = .ok (.ireturn, 1) := by decide +kernel
theorem dL_getSize_18 : decode cL_getSize 18 = .ok (.iconst 0, 1) := by decide +kernel
theorem dL_getSize_19 : decode cL_getSize 19 = .ok (.ireturn, 1) := by decide +kernel
theorem dL_getAge_0 : decode cL_getAge 0 = .ok (.aload_n 2, 1) := by decide +kernel
theorem dL_getAge_1 : decode cL_getAge 1 = .ok (.iconst 0, 1) := by decide +kernel
theorem dL_getAge_2 : decode cL_getAge 2 = .ok (.aload_n 0, 1) := by decide +kernel
theorem dL_getAge_3 : decode cL_getAge 3 = .ok (.iload_n 1, 1) := by decide +kernel
theorem dL_getAge_4 : decode cL_getAge 4 = .ok (.invokevirtual 82, 3) := by decide +kernel
theorem dL_getAge_7 : decode cL_getAge 7 = .ok (.i2l, 1) := by decide +kernel
theorem dL_getAge_8 : decode cL_getAge 8 = .ok (.lastore, 1) := by decide +kernel
theorem dL_getAge_9 : decode cL_getAge 9 = .ok (.goto 6, 3) := by decide +kernel
theorem dL_getAge_12 : decode cL_getAge 12 = .ok (.astore_n 3, 1) := by decide +kernel
theorem dL_getAge_13 : decode cL_getAge 13 = .ok (.iconst 1, 1) := by decide +kernel
theorem dL_getAge_14 : decode cL_getAge 14 = .ok (.ireturn, 1) := by decide +kernel
theorem dL_getAge_15 : decode cL_getAge 15 = .ok (.iconst 0, 1) := by decide +kernel
theorem dL_getAge_16 : decode cL_getAge 16 = .ok (.ireturn, 1) := by decide +kernel
theorem dL_isThere_0 : decode cL_isThere 0 = .ok (.aload_n 2, 1) := by decide +kernel
theorem dL_isThere_1 : decode cL_isThere 1 = .ok (.iconst 0, 1) := by decide +kernel
theorem dL_isThere_2 : decode cL_isThere 2 = .ok (.aload_n 0, 1) := by decide +kernel
theorem dL_isThere_3 : decode cL_isThere 3 = .ok (.iload_n 1, 1) := by decide +kernel
theorem dL_isThere_4 : decode cL_isThere 4 = .ok (.invokevirtual 85, 3) := by decide +kernel
theorem dL_isThere_7 : decode cL_isThere 7 = .ok (.ifCond .eq 7, 3) := by decide +kernel
theorem dL_isThere_10 : decode cL_isThere 10 = .ok (.lconst 1, 1) := by decide +kernel
theorem dL_isThere_11 : decode cL_isThere 11 = .ok (.goto 4, 3) := by decide +kernel
theorem dL_isThere_14 : decode cL_isThere 14 = .ok (.lconst 0, 1) := by decide +kernel
theorem dL_isThere_15 : decode cL_isThere 15 = .ok (.lastore, 1) := by decide +kernel
theorem dL_isThere_16 : decode cL_isThere 16 = .ok (.goto 6, 3) := by decide +kernel
theorem dL_isThere_19 : decode cL_isThere 19 = .ok (.astore_n 3, 1) := by decide +kernel
theorem dL_isThere_20 : decode cL_isThere 20 = .ok (.iconst 1, 1) := by decide +kernel
theorem dL_isThere_21 : decode cL_isThere 21 = .ok (.ireturn, 1) := by decide +kernel
theorem dL_isThere_22 : decode cL_isThere 22 = .ok (.iconst 0, 1) := by decide +kernel
theorem dL_isThere_23 : decode cL_isThere 23 = .ok (.ireturn, 1) := by decide +kernel
theorem dL_livesIn_0 : decode cL_livesIn 0 = .ok (.aload_n 2, 1) := by decide +kernel
theorem dL_livesIn_1 : decode cL_livesIn 1 = .ok (.iconst 0, 1) := by decide +kernel
theorem dL_livesIn_2 : decode cL_livesIn 2 = .ok (.aload_n 0, 1) := by decide +kernel
theorem dL_livesIn_3 : decode cL_livesIn 3 = .ok (.iload_n 1, 1) := by decide +kernel
theorem dL_livesIn_4 : decode cL_livesIn 4 = .ok (.invokevirtual 89, 3) := by decide +kernel
theorem dL_livesIn_7 : decode cL_livesIn 7 = .ok (.i2l, 1) := by decide +kernel
theorem dL_livesIn_8 : decode cL_livesIn 8 = .ok (.lastore, 1) := by decide +kernel
theorem dL_livesIn_9 : decode cL_livesIn 9 = .ok (.goto 9, 3) := by decide +kernel
theorem dL_livesIn_12 : decode cL_livesIn 12 = .ok (.astore_n 3, 1) := by decide +kernel
theorem dL_livesIn_13 : decode cL_livesIn 13 = .ok (.iconst 1, 1) := by decide +kernel
theorem dL_livesIn_14 : decode cL_livesIn 14 = .ok (.ireturn, 1) := by decide +kernel
theorem dL_livesIn_15 : decode cL_livesIn 15 = .ok (.astore_n 3, 1) := by decide +kernel
theorem dL_livesIn_16 : decode cL_livesIn 16 = .ok (.iconst 2, 1) := by decide +kernel
theorem dL_livesIn_17 : decode cL_livesIn 17 = .ok (.ireturn, 1) := by decide +kernel
theorem dL_livesIn_18 : decode cL_livesIn 18 = .ok (.iconst 0, 1) := by decide +kernel
theorem dL_livesIn_19 : decode cL_livesIn 19 = .ok (.ireturn, 1) := by decide +kernel
theorem dL_burst_0 : decode cL_burst 0 = .ok (.aload_n 3, 1) := by decide +kernel
theorem dL_burst_1 : decode cL_burst 1 = .ok (.iconst 0, 1) := by decide +kernel
theorem dL_burst_2 : decode cL_burst 2 = .ok (.aload_n 0, 1) := by decide +kernel
theorem dL_burst_3 : decode cL_burst 3 = .ok (.iload_n 1, 1) := by decide +kernel
theorem dL_burst_4 : decode cL_burst 4 = .ok (.iload_n 2, 1) := by decide +kernel
theorem dL_burst_5 : decode cL_burst 5 = .ok (.invokevirtual 92, 3) := by decide +kernel
theorem dL_burst_8 : decode cL_burst 8 = .ok (.i2l, 1) := by decide +kernel
theorem dL_burst_9 : decode cL_burst 9 = .ok (.lastore, 1) := by decide +kernel
theorem dL_burst_10 : decode cL_burst 10 = .ok (.goto 19, 3) := by decide +kernel
theorem dL_burst_13 : decode cL_burst 13 = .ok (.astore 4, 2) := by decide +kernel
theorem dL_burst_15 : decode cL_burst 15 = .ok (.iconst 1, 1) := by decide +kernel
theorem dL_burst_16 : decode cL_burst 16 = .ok (.ireturn, 1) := by decide +kernel
theorem dL_burst_17 : decode cL_burst 17 = .ok (.astore 4, 2) := by decide +kernel
theorem dL_burst_19 : decode cL_burst 19 = .ok (.iconst 2, 1) := by decide +kernel
theorem dL_burst_20 : decode cL_burst 20 = .ok (.ireturn, 1) := by decide +kernel
theorem dL_burst_21 : decode cL_burst 21 = .ok (.astore 4, 2) := by decide +kernel
theorem dL_burst_23 : decode cL_burst 23 = .ok (.iconst 3, 1) := by decide +kernel
theorem dL_burst_24 : decode cL_burst 24 = .ok (.ireturn, 1) := by decide +kernel
theorem dL_burst_25 : decode cL_burst 25 = .ok (.astore 4, 2) := by decide +kernel
theorem dL_burst_27 : decode cL_burst 27 = .ok (.iconst 4, 1) := by decide +kernel
theorem dL_burst_28 : decode cL_burst 28 = .ok (.ireturn, 1) := by decide +kernel
theorem dL_burst_29 : decode cL_burst 29 = .ok (.iconst 0, 1) := by decide +kernel
theorem dL_burst_30 : decode cL_burst 30 = .ok (.ireturn, 1) := by decide +kernel
theorem dL_strike_0 : decode cL_strike 0 = .ok (.aload 4, 2) := by decide +kernel
theorem dL_strike_2 : decode cL_strike 2 = .ok (.iconst 0, 1) := by decide +kernel
theorem dL_strike_3 : decode cL_strike 3 = .ok (.aload_n 0, 1) := by decide +kernel
theorem dL_strike_4 : decode cL_strike 4 = .ok (.iload_n 1, 1) := by decide +kernel
theorem dL_strike_5 : decode cL_strike 5 = .ok (.iload_n 2, 1) := by decide +kernel
theorem dL_strike_6 : decode cL_strike 6 = .ok (.iload_n 3, 1) := by decide +kernel
theorem dL_strike_7 : decode cL_strike 7 = .ok (.invokevirtual 95, 3) := by decide +kernel
theorem dL_strike_10 : decode cL_strike 10 = .ok (.i2l, 1) := by decide +kernel
theorem dL_strike_11 : decode cL_strike 11 = .ok (.lastore, 1) := by decide +kernel
theorem dL_strike_12 : decode cL_strike 12 = .ok (.goto 15, 3) := by decide +kernel
theorem dL_strike_15 : decode cL_strike 15 = .ok (.astore 5, 2) := by decide +kernel
theorem dL_strike_17 : decode cL_strike 17 = .ok (.iconst 1, 1) := by decide +kernel
theorem dL_strike_18 : decode cL_strike 18 = .ok (.ireturn, 1) := by decide +kernel
theorem dL_strike_19 : decode cL_strike 19 = .ok (.astore 5, 2) := by decide +kernel
theorem dL_strike_21 : decode cL_strike 21 = .ok (.iconst 2, 1) := by decide +kernel
theorem dL_strike_22 : decode cL_strike 22 = .ok (.ireturn, 1) := by decide +kernel
theorem dL_strike_23 : decode cL_strike 23 = .ok (.astore 5, 2) := by decide +kernel
theorem dL_strike_25 : decode cL_strike 25 = .ok (.iconst 3, 1) := by decide +kernel
theorem dL_strike_26 : decode cL_strike 26 = .ok (.ireturn, 1) := by decide +kernel
theorem dL_strike_27 : decode cL_strike 27 = .ok (.iconst 0, 1) := by decide +kernel
theorem dL_strike_28 : decode cL_strike 28 = .ok (.ireturn, 1) := by decide +kernel
theorem dL_getWidth_0 : decode cL_getWidth 0 = .ok (.aload_n 2, 1) := by decide +kernel
theorem dL_getWidth_1 : decode cL_getWidth 1 = .ok (.iconst 0, 1) := by decide +kernel
theorem dL_getWidth_2 : decode cL_getWidth 2 = .ok (.aload_n 0, 1) := by decide +kernel
theorem dL_getWidth_3 : decode cL_getWidth 3 = .ok (.iload_n 1, 1) := by decide +kernel
theorem dL_getWidth_4 : decode cL_getWidth 4 = .ok (.invokevirtual 98, 3) := by decide +kernel
theorem dL_getWidth_7 : decode cL_getWidth 7 = .ok (.i2l, 1) := by decide +kernel
theorem dL_getWidth_8 : decode cL_getWidth 8 = .ok (.lastore, 1) := by decide +kernel
theorem dL_getWidth_9 : decode cL_getWidth 9 = .ok (.goto 6, 3) := by decide +kernel
theorem dL_getWidth_12 : decode cL_getWidth 12 = .ok (.astore_n 3, 1) := by decide +kernel
theorem dL_getWidth_13 : decode cL_getWidth 13 = .ok (.iconst 1, 1) := by decide +kernel
theorem dL_getWidth_14 : decode cL_getWidth 14 = .ok (.ireturn, 1) := by decide +kernel
theorem dL_getWidth_15 : decode cL_getWidth 15 = .ok (.iconst 0, 1) := by decide +kernel
theorem dL_getWidth_16 : decode cL_getWidth 16 = .ok (.ireturn, 1) := by decide +kernel
theorem dL_scarTurns_0 : decode cL_scarTurns 0 = .ok (.aload_n 2, 1) := by decide +kernel
theorem dL_scarTurns_1 : decode cL_scarTurns 1 = .ok (.iconst 0, 1) := by decide +kernel
theorem dL_scarTurns_2 : decode cL_scarTurns 2 = .ok (.aload_n 0, 1) := by decide +kernel
theorem dL_scarTurns_3 : decode cL_scarTurns 3 = .ok (.iload_n 1, 1) := by decide +kernel
theorem dL_scarTurns_4 : decode cL_scarTurns 4 = .ok (.invokevirtual 101, 3) := by decide +kernel
theorem dL_scarTurns_7 : decode cL_scarTurns 7 = .ok (.i2l, 1) := by decide +kernel
theorem dL_scarTurns_8 : decode cL_scarTurns 8 = .ok (.lastore, 1) := by decide +kernel
theorem dL_scarTurns_9 : decode cL_scarTurns 9 = .ok (.goto 6, 3) := by decide +kernel
theorem dL_scarTurns_12 : decode cL_scarTurns 12 = .ok (.astore_n 3, 1) := by decide +kernel
theorem dL_scarTurns_13 : decode cL_scarTurns 13 = .ok (.iconst 1, 1) := by decide +kernel
theorem dL_scarTurns_14 : decode cL_scarTurns 14 = .ok (.ireturn, 1) := by decide +kernel
theorem dL_scarTurns_15 : decode cL_scarTurns 15 = .ok (.iconst 0, 1) := by decide +kernel
theorem dL_scarTurns_16 : decode cL_scarTurns 16 = .ok (.ireturn, 1) := by decide +kernel
theorem dL_turn_0 : decode cL_turn 0 = .ok (.aload_n 2, 1) := by decide +kernel
theorem dL_turn_1 : decode cL_turn 1 = .ok (.iconst 0, 1) := by decide +kernel
theorem dL_turn_2 : decode cL_turn 2 = .ok (.aload_n 0, 1) := by decide +kernel
theorem dL_turn_3 : decode cL_turn 3 = .ok (.iload_n 1, 1) := by decide +kernel
theorem dL_turn_4 : decode cL_turn 4 = .ok (.invokevirtual 104, 3) := by decide +kernel
theorem dL_turn_7 : decode cL_turn 7 = .ok (.i2l, 1) := by decide +kernel
theorem dL_turn_8 : decode cL_turn 8 = .ok (.lastore, 1) := by decide +kernel
theorem dL_turn_9 : decode cL_turn 9 = .ok (.goto 6, 3) := by decide +kernel
theorem dL_turn_12 : decode cL_turn 12 = .ok (.astore_n 3, 1) := by decide +kernel
theorem dL_turn_13 : decode cL_turn 13 = .ok (.iconst 1, 1) := by decide +kernel
theorem dL_turn_14 : decode cL_turn 14 = .ok (.ireturn, 1) := by decide +kernel
theorem dL_turn_15 : decode cL_turn 15 = .ok (.iconst 0, 1) := by decide +kernel
theorem dL_turn_16 : decode cL_turn 16 = .ok (.ireturn, 1) := by decide +kernel
theorem dL_dropProbe_0 : decode cL_dropProbe 0 = .ok (.aload 5, 2) := by decide +kernel
theorem dL_dropProbe_2 : decode cL_dropProbe 2 = .ok (.iconst 0, 1) := by decide +kernel
theorem dL_dropProbe_3 : decode cL_dropProbe 3 = .ok (.aload_n 0, 1) := by decide +kernel
theorem dL_dropProbe_4 : decode cL_dropProbe 4 = .ok (.iload_n 1, 1) := by decide +kernel
theorem dL_dropProbe_5 : decode cL_dropProbe 5 = .ok (.iload_n 2, 1) := by decide +kernel
theorem dL_dropProbe_6 : decode cL_dropProbe 6 = .ok (.iload_n 3, 1) := by decide +kernel
theorem dL_dropProbe_7 : decode cL_dropProbe 7 = .ok (.iload 4, 2) := by decide +kernel
theorem dL_dropProbe_9 : decode cL_dropProbe 9 = .ok (.invokevirtual 107, 3) := by decide +kernel
theorem dL_dropProbe_12 : decode cL_dropProbe 12 = .ok (.i2l, 1) := by decide +kernel
theorem dL_dropProbe_13 : decode cL_dropProbe 13 = .ok (.lastore, 1) := by decide +kernel
theorem dL_dropProbe_14 : decode cL_dropProbe 14 = .ok (.goto 11, 3) := by decide +kernel
theorem dL_dropProbe_17 : decode cL_dropProbe 17 = .ok (.astore 6, 2) := by decide +kernel
theorem dL_dropProbe_19 : decode cL_dropProbe 19 = .ok (.iconst 1, 1) := by decide +kernel
theorem dL_dropProbe_20 : decode cL_dropProbe 20 = .ok (.ireturn, 1) := by decide +kernel
theorem dL_dropProbe_21 : decode cL_dropProbe 21 = .ok (.astore 6, 2) := by decide +kernel
theorem dL_dropProbe_23 : decode cL_dropProbe 23 = .ok (.iconst 2, 1) := by decide +kernel
theorem dL_dropProbe_24 : decode cL_dropProbe 24 = .ok (.ireturn, 1) := by decide +kernel
theorem dL_dropProbe_25 : decode cL_dropProbe 25 = .ok (.iconst 0, 1) := by decide +kernel
theorem dL_dropProbe_26 : decode cL_dropProbe 26 = .ok (.ireturn, 1) := by decide +kernel
theorem dL_tick_0 : decode cL_tick 0 = .ok (.aload_n 2, 1) := by decide +kernel
theorem dL_tick_1 : decode cL_tick 1 = .ok (.iconst 0, 1) := by decide +kernel
theorem dL_tick_2 : decode cL_tick 2 = .ok (.aload_n 0, 1) := by decide +kernel
theorem dL_tick_3 : decode cL_tick 3 = .ok (.iload_n 1, 1) := by decide +kernel
theorem dL_tick_4 : decode cL_tick 4 = .ok (.invokevirtual 111, 3) := by decide +kernel
theorem dL_tick_7 : decode cL_tick 7 = .ok (.i2l, 1) := by decide +kernel
theorem dL_tick_8 : decode cL_tick 8 = .ok (.lastore, 1) := by decide +kernel
theorem dL_tick_9 : decode cL_tick 9 = .ok (.goto 9, 3) := by decide +kernel
theorem dL_tick_12 : decode cL_tick 12 = .ok (.astore_n 3, 1) := by decide +kernel
theorem dL_tick_13 : decode cL_tick 13 = .ok (.iconst 1, 1) := by decide +kernel
theorem dL_tick_14 : decode cL_tick 14 = .ok (.ireturn, 1) := by decide +kernel
theorem dL_tick_15 : decode cL_tick 15 = .ok (.astore_n 3, 1) := by decide +kernel
theorem dL_tick_16 : decode cL_tick 16 = .ok (.iconst 2, 1) := by decide +kernel
theorem dL_tick_17 : decode cL_tick 17 = .ok (.ireturn, 1) := by decide +kernel
theorem dL_tick_18 : decode cL_tick 18 = .ok (.iconst 0, 1) := by decide +kernel
theorem dL_tick_19 : decode cL_tick 19 = .ok (.ireturn, 1) := by decide +kernel
theorem dL_sent_0 : decode cL_sent 0 = .ok (.aload_n 2, 1) := by decide +kernel
theorem dL_sent_1 : decode cL_sent 1 = .ok (.iconst 0, 1) := by decide +kernel
theorem dL_sent_2 : decode cL_sent 2 = .ok (.aload_n 0, 1) := by decide +kernel
theorem dL_sent_3 : decode cL_sent 3 = .ok (.iload_n 1, 1) := by decide +kernel
theorem dL_sent_4 : decode cL_sent 4 = .ok (.invokevirtual 114, 3) := by decide +kernel
theorem dL_sent_7 : decode cL_sent 7 = .ok (.i2l, 1) := by decide +kernel
theorem dL_sent_8 : decode cL_sent 8 = .ok (.lastore, 1) := by decide +kernel
theorem dL_sent_9 : decode cL_sent 9 = .ok (.goto 6, 3) := by decide +kernel
theorem dL_sent_12 : decode cL_sent 12 = .ok (.astore_n 3, 1) := by decide +kernel
theorem dL_sent_13 : decode cL_sent 13 = .ok (.iconst 1, 1) := by decide +kernel
theorem dL_sent_14 : decode cL_sent 14 = .ok (.ireturn, 1) := by decide +kernel
theorem dL_sent_15 : decode cL_sent 15 = .ok (.iconst 0, 1) := by decide +kernel
theorem dL_sent_16 : decode cL_sent 16 = .ok (.ireturn, 1) := by decide +kernel
theorem dL_sentAt_0 : decode cL_sentAt 0 = .ok (.aload 4, 2) := by decide +kernel
theorem dL_sentAt_2 : decode cL_sentAt 2 = .ok (.iconst 0, 1) := by decide +kernel
theorem dL_sentAt_3 : decode cL_sentAt 3 = .ok (.aload_n 0, 1) := by decide +kernel
theorem dL_sentAt_4 : decode cL_sentAt 4 = .ok (.iload_n 1, 1) := by decide +kernel
theorem dL_sentAt_5 : decode cL_sentAt 5 = .ok (.iload_n 2, 1) := by decide +kernel
theorem dL_sentAt_6 : decode cL_sentAt 6 = .ok (.iload_n 3, 1) := by decide +kernel
theorem dL_sentAt_7 : decode cL_sentAt 7 = .ok (.invokevirtual 117, 3) := by decide +kernel
theorem dL_sentAt_10 : decode cL_sentAt 10 = .ok (.i2l, 1) := by decide +kernel
theorem dL_sentAt_11 : decode cL_sentAt 11 = .ok (.lastore, 1) := by decide +kernel
theorem dL_sentAt_12 : decode cL_sentAt 12 = .ok (.goto 15, 3) := by decide +kernel
theorem dL_sentAt_15 : decode cL_sentAt 15 = .ok (.astore 5, 2) := by decide +kernel
theorem dL_sentAt_17 : decode cL_sentAt 17 = .ok (.iconst 1, 1) := by decide +kernel
theorem dL_sentAt_18 : decode cL_sentAt 18 = .ok (.ireturn, 1) := by decide +kernel
theorem dL_sentAt_19 : decode cL_sentAt 19 = .ok (.astore 5, 2) := by decide +kernel
theorem dL_sentAt_21 : decode cL_sentAt 21 = .ok (.iconst 2, 1) := by decide +kernel
theorem dL_sentAt_22 : decode cL_sentAt 22 = .ok (.ireturn, 1) := by decide +kernel
theorem dL_sentAt_23 : decode cL_sentAt 23 = .ok (.astore 5, 2) := by decide +kernel
theorem dL_sentAt_25 : decode cL_sentAt 25 = .ok (.iconst 3, 1) := by decide +kernel
theorem dL_sentAt_26 : decode cL_sentAt 26 = .ok (.ireturn, 1) := by decide +kernel
theorem dL_sentAt_27 : decode cL_sentAt 27 = .ok (.iconst 0, 1) := by decide +kernel
theorem dL_sentAt_28 : decode cL_sentAt 28 = .ok (.ireturn, 1) := by decide +kernel
theorem dL_lost_0 : decode cL_lost 0 = .ok (.aload_n 2, 1) := by decide +kernel
theorem dL_lost_1 : decode cL_lost 1 = .ok (.iconst 0, 1) := by decide +kernel
theorem dL_lost_2 : decode cL_lost 2 = .ok (.aload_n 0, 1) := by decide +kernel
theorem dL_lost_3 : decode cL_lost 3 = .ok (.iload_n 1, 1) := by decide +kernel
theorem dL_lost_4 : decode cL_lost 4 = .ok (.invokevirtual 121, 3) := by decide +kernel
theorem dL_lost_7 : decode cL_lost 7 = .ok (.i2l, 1) := by decide +kernel
theorem dL_lost_8 : decode cL_lost 8 = .ok (.lastore, 1) := by decide +kernel
theorem dL_lost_9 : decode cL_lost 9 = .ok (.goto 6, 3) := by decide +kernel
theorem dL_lost_12 : decode cL_lost 12 = .ok (.astore_n 3, 1) := by decide +kernel
theorem dL_lost_13 : decode cL_lost 13 = .ok (.iconst 1, 1) := by decide +kernel
theorem dL_lost_14 : decode cL_lost 14 = .ok (.ireturn, 1) := by decide +kernel
theorem dL_lost_15 : decode cL_lost 15 = .ok (.iconst 0, 1) := by decide +kernel
theorem dL_lost_16 : decode cL_lost 16 = .ok (.ireturn, 1) := by decide +kernel
theorem dL_frame_0 : decode cL_frame 0 = .ok (.aload_n 2, 1) := by decide +kernel
theorem dL_frame_1 : decode cL_frame 1 = .ok (.iconst 0, 1) := by decide +kernel
theorem dL_frame_2 : decode cL_frame 2 = .ok (.aload_n 0, 1) := by decide +kernel
theorem dL_frame_3 : decode cL_frame 3 = .ok (.iload_n 1, 1) := by decide +kernel
theorem dL_frame_4 : decode cL_frame 4 = .ok (.invokevirtual 124, 3) := by decide +kernel
theorem dL_frame_7 : decode cL_frame 7 = .ok (.i2l, 1) := by decide +kernel
theorem dL_frame_8 : decode cL_frame 8 = .ok (.lastore, 1) := by decide +kernel
theorem dL_frame_9 : decode cL_frame 9 = .ok (.goto 9, 3) := by decide +kernel
theorem dL_frame_12 : decode cL_frame 12 = .ok (.astore_n 3, 1) := by decide +kernel
theorem dL_frame_13 : decode cL_frame 13 = .ok (.iconst 1, 1) := by decide +kernel
theorem dL_frame_14 : decode cL_frame 14 = .ok (.ireturn, 1) := by decide +kernel
theorem dL_frame_15 : decode cL_frame 15 = .ok (.astore_n 3, 1) := by decide +kernel
theorem dL_frame_16 : decode cL_frame 16 = .ok (.iconst 2, 1) := by decide +kernel
theorem dL_frame_17 : decode cL_frame 17 = .ok (.ireturn, 1) := by decide +kernel
theorem dL_frame_18 : decode cL_frame 18 = .ok (.iconst 0, 1) := by decide +kernel
theorem dL_frame_19 : decode cL_frame 19 = .ok (.ireturn, 1) := by decide +kernel
theorem dL_countSeen_0 : decode cL_countSeen 0 = .ok (.aload_n 2, 1) := by decide +kernel
theorem dL_countSeen_1 : decode cL_countSeen 1 = .ok (.iconst 0, 1) := by decide +kernel
theorem dL_countSeen_2 : decode cL_countSeen 2 = .ok (.aload_n 0, 1) := by decide +kernel
theorem dL_countSeen_3 : decode cL_countSeen 3 = .ok (.iload_n 1, 1) := by decide +kernel
theorem dL_countSeen_4 : decode cL_countSeen 4 = .ok (.invokevirtual 127, 3) := by decide +kernel
theorem dL_countSeen_7 : decode cL_countSeen 7 = .ok (.i2l, 1) := by decide +kernel
theorem dL_countSeen_8 : decode cL_countSeen 8 = .ok (.lastore, 1) := by decide +kernel
theorem dL_countSeen_9 : decode cL_countSeen 9 = .ok (.goto 6, 3) := by decide +kernel
theorem dL_countSeen_12 : decode cL_countSeen 12 = .ok (.astore_n 3, 1) := by decide +kernel
theorem dL_countSeen_13 : decode cL_countSeen 13 = .ok (.iconst 1, 1) := by decide +kernel
theorem dL_countSeen_14 : decode cL_countSeen 14 = .ok (.ireturn, 1) := by decide +kernel
theorem dL_countSeen_15 : decode cL_countSeen 15 = .ok (.iconst 0, 1) := by decide +kernel
theorem dL_countSeen_16 : decode cL_countSeen 16 = .ok (.ireturn, 1) := by decide +kernel
theorem dL_placeIn_0 : decode cL_placeIn 0 = .ok (.aload_n 3, 1) := by decide +kernel
theorem dL_placeIn_1 : decode cL_placeIn 1 = .ok (.iconst 0, 1) := by decide +kernel
theorem dL_placeIn_2 : decode cL_placeIn 2 = .ok (.aload_n 0, 1) := by decide +kernel
theorem dL_placeIn_3 : decode cL_placeIn 3 = .ok (.iload_n 1, 1) := by decide +kernel
theorem dL_placeIn_4 : decode cL_placeIn 4 = .ok (.iload_n 2, 1) := by decide +kernel
theorem dL_placeIn_5 : decode cL_placeIn 5 = .ok (.invokevirtual 130, 3) := by decide +kernel
theorem dL_placeIn_8 : decode cL_placeIn 8 = .ok (.i2l, 1) := by decide +kernel
theorem dL_placeIn_9 : decode cL_placeIn 9 = .ok (.lastore, 1) := by decide +kernel
theorem dL_placeIn_10 : decode cL_placeIn 10 = .ok (.goto 15, 3) := by decide +kernel
theorem dL_placeIn_13 : decode cL_placeIn 13 = .ok (.astore 4, 2) := by decide +kernel
theorem dL_placeIn_15 : decode cL_placeIn 15 = .ok (.iconst 1, 1) := by decide +kernel
theorem dL_placeIn_16 : decode cL_placeIn 16 = .ok (.ireturn, 1) := by decide +kernel
theorem dL_placeIn_17 : decode cL_placeIn 17 = .ok (.astore 4, 2) := by decide +kernel
theorem dL_placeIn_19 : decode cL_placeIn 19 = .ok (.iconst 2, 1) := by decide +kernel
theorem dL_placeIn_20 : decode cL_placeIn 20 = .ok (.ireturn, 1) := by decide +kernel
theorem dL_placeIn_21 : decode cL_placeIn 21 = .ok (.astore 4, 2) := by decide +kernel
theorem dL_placeIn_23 : decode cL_placeIn 23 = .ok (.iconst 3, 1) := by decide +kernel
theorem dL_placeIn_24 : decode cL_placeIn 24 = .ok (.ireturn, 1) := by decide +kernel
theorem dL_placeIn_25 : decode cL_placeIn 25 = .ok (.iconst 0, 1) := by decide +kernel
theorem dL_placeIn_26 : decode cL_placeIn 26 = .ok (.ireturn, 1) := by decide +kernel
theorem dL_drift_0 : decode cL_drift 0 = .ok (.aload 4, 2) := by decide +kernel
theorem dL_drift_2 : decode cL_drift 2 = .ok (.iconst 0, 1) := by decide +kernel
theorem dL_drift_3 : decode cL_drift 3 = .ok (.aload_n 0, 1) := by decide +kernel
theorem dL_drift_4 : decode cL_drift 4 = .ok (.iload_n 1, 1) := by decide +kernel
theorem dL_drift_5 : decode cL_drift 5 = .ok (.iload_n 2, 1) := by decide +kernel
theorem dL_drift_6 : decode cL_drift 6 = .ok (.iload_n 3, 1) := by decide +kernel
theorem dL_drift_7 : decode cL_drift 7 = .ok (.invokevirtual 134, 3) := by decide +kernel
theorem dL_drift_10 : decode cL_drift 10 = .ok (.f2d, 1) := by decide +kernel
theorem dL_drift_11 : decode cL_drift 11 = .ok (.dastore, 1) := by decide +kernel
theorem dL_drift_12 : decode cL_drift 12 = .ok (.goto 15, 3) := by decide +kernel
theorem dL_drift_15 : decode cL_drift 15 = .ok (.astore 5, 2) := by decide +kernel
theorem dL_drift_17 : decode cL_drift 17 = .ok (.iconst 1, 1) := by decide +kernel
theorem dL_drift_18 : decode cL_drift 18 = .ok (.ireturn, 1) := by decide +kernel
theorem dL_drift_19 : decode cL_drift 19 = .ok (.astore 5, 2) := by decide +kernel
theorem dL_drift_21 : decode cL_drift 21 = .ok (.iconst 2, 1) := by decide +kernel
theorem dL_drift_22 : decode cL_drift 22 = .ok (.ireturn, 1) := by decide +kernel
theorem dL_drift_23 : decode cL_drift 23 = .ok (.astore 5, 2) := by decide +kernel
theorem dL_drift_25 : decode cL_drift 25 = .ok (.iconst 3, 1) := by decide +kernel
theorem dL_drift_26 : decode cL_drift 26 = .ok (.ireturn, 1) := by decide +kernel
theorem dL_drift_27 : decode cL_drift 27 = .ok (.iconst 0, 1) := by decide +kernel
theorem dL_drift_28 : decode cL_drift 28 = .ok (.ireturn, 1) := by decide +kernel
theorem dL_save_0 : decode cL_save 0 = .ok (.aload_n 1, 1) := by decide +kernel
theorem dL_save_1 : decode cL_save 1 = .ok (.iconst 0, 1) := by decide +kernel
theorem dL_save_2 : decode cL_save 2 = .ok (.aload_n 0, 1) := by decide +kernel
theorem dL_save_3 : decode cL_save 3 = .ok (.invokevirtual 138, 3) := by decide +kernel
theorem dL_save_6 : decode cL_save 6 = .ok (.i2l, 1) := by decide +kernel
theorem dL_save_7 : decode cL_save 7 = .ok (.lastore, 1) := by decide +kernel
theorem dL_save_8 : decode cL_save 8 = .ok (.goto 6, 3) := by decide +kernel
theorem dL_save_11 : decode cL_save 11 = .ok (.astore_n 2, 1) := by decide +kernel
theorem dL_save_12 : decode cL_save 12 = .ok (.iconst 1, 1) := by decide +kernel
theorem dL_save_13 : decode cL_save 13 = .ok (.ireturn, 1) := by decide +kernel
theorem dL_save_14 : decode cL_save 14 = .ok (.iconst 0, 1) := by decide +kernel
theorem dL_save_15 : decode cL_save 15 = .ok (.ireturn, 1) := by decide +kernel
theorem dL_load_0 : decode cL_load 0 = .ok (.aload_n 2, 1) := by decide +kernel
theorem dL_load_1 : decode cL_load 1 = .ok (.iconst 0, 1) := by decide +kernel
theorem dL_load_2 : decode cL_load 2 = .ok (.aload_n 0, 1) := by decide +kernel
theorem dL_load_3 : decode cL_load 3 = .ok (.iload_n 1, 1) := by decide +kernel
theorem dL_load_4 : decode cL_load 4 = .ok (.invokevirtual 142, 3) := by decide +kernel
theorem dL_load_7 : decode cL_load 7 = .ok (.lastore, 1) := by decide +kernel
theorem dL_load_8 : decode cL_load 8 = .ok (.goto 6, 3) := by decide +kernel
theorem dL_load_11 : decode cL_load 11 = .ok (.astore_n 3, 1) := by decide +kernel
theorem dL_load_12 : decode cL_load 12 = .ok (.iconst 1, 1) := by decide +kernel
theorem dL_load_13 : decode cL_load 13 = .ok (.ireturn, 1) := by decide +kernel
theorem dL_load_14 : decode cL_load 14 = .ok (.iconst 0, 1) := by decide +kernel
theorem dL_load_15 : decode cL_load 15 = .ok (.ireturn, 1) := by decide +kernel
theorem dL_happening_0 : decode cL_happening 0 = .ok (.aload_n 2, 1) := by decide +kernel
theorem dL_happening_1 : decode cL_happening 1 = .ok (.iconst 0, 1) := by decide +kernel
theorem dL_happening_2 : decode cL_happening 2 = .ok (.aload_n 0, 1) := by decide +kernel
theorem dL_happening_3 : decode cL_happening 3 = .ok (.iload_n 1, 1) := by decide +kernel
theorem dL_happening_4 : decode cL_happening 4 = .ok (.invokevirtual 146, 3) := by decide +kernel
theorem dL_happening_7 : decode cL_happening 7 = .ok (.i2l, 1) := by decide +kernel
theorem dL_happening_8 : decode cL_happening 8 = .ok (.lastore, 1) := by decide +kernel
theorem dL_happening_9 : decode cL_happening 9 = .ok (.goto 6, 3) := by decide +kernel
theorem dL_happening_12 : decode cL_happening 12 = .ok (.astore_n 3, 1) := by decide +kernel
theorem dL_happening_13 : decode cL_happening 13 = .ok (.iconst 1, 1) := by decide +kernel
theorem dL_happening_14 : decode cL_happening 14 = .ok (.ireturn, 1) := by decide +kernel
theorem dL_happening_15 : decode cL_happening 15 = .ok (.iconst 0, 1) := by decide +kernel
theorem dL_happening_16 : decode cL_happening 16 = .ok (.ireturn, 1) := by decide +kernel
theorem dL_happenedTo_0 : decode cL_happenedTo 0 = .ok (.aload_n 2, 1) := by decide +kernel
theorem dL_happenedTo_1 : decode cL_happenedTo 1 = .ok (.iconst 0, 1) := by decide +kernel
theorem dL_happenedTo_2 : decode cL_happenedTo 2 = .ok (.aload_n 0, 1) := by decide +kernel
theorem dL_happenedTo_3 : decode cL_happenedTo 3 = .ok (.iload_n 1, 1) := by decide +kernel
theorem dL_happenedTo_4 : decode cL_happenedTo 4 = .ok (.invokevirtual 150, 3) := by decide +kernel
theorem dL_happenedTo_7 : decode cL_happenedTo 7 = .ok (.i2l, 1) := by decide +kernel
theorem dL_happenedTo_8 : decode cL_happenedTo 8 = .ok (.lastore, 1) := by decide +kernel
theorem dL_happenedTo_9 : decode cL_happenedTo 9 = .ok (.goto 6, 3) := by decide +kernel
theorem dL_happenedTo_12 : decode cL_happenedTo 12 = .ok (.astore_n 3, 1) := by decide +kernel
theorem dL_happenedTo_13 : decode cL_happenedTo 13 = .ok (.iconst 1, 1) := by decide +kernel
theorem dL_happenedTo_14 : decode cL_happenedTo 14 = .ok (.ireturn, 1) := by decide +kernel
theorem dL_happenedTo_15 : decode cL_happenedTo 15 = .ok (.iconst 0, 1) := by decide +kernel
theorem dL_happenedTo_16 : decode cL_happenedTo 16 = .ok (.ireturn, 1) := by decide +kernel
theorem dL_thereShare_0 : decode cL_thereShare 0 = .ok (.aload_n 1, 1) := by decide +kernel
theorem dL_thereShare_1 : decode cL_thereShare 1 = .ok (.iconst 0, 1) := by decide +kernel
theorem dL_thereShare_2 : decode cL_thereShare 2 = .ok (.aload_n 0, 1) := by decide +kernel
theorem dL_thereShare_3 : decode cL_thereShare 3 = .ok (.invokevirtual 153, 3) := by decide +kernel
theorem dL_thereShare_6 : decode cL_thereShare 6 = .ok (.f2d, 1) := by decide +kernel
theorem dL_thereShare_7 : decode cL_thereShare 7 = .ok (.dastore, 1) := by decide +kernel
theorem dL_thereShare_8 : decode cL_thereShare 8 = .ok (.goto 6, 3) := by decide +kernel
theorem dL_thereShare_11 : decode cL_thereShare 11 = .ok (.astore_n 2, 1) := by decide +kernel
theorem dL_thereShare_12 : decode cL_thereShare 12 = .ok (.iconst 1, 1) := by decide +kernel
theorem dL_thereShare_13 : decode cL_thereShare 13 = .ok (.ireturn, 1) := by decide +kernel
theorem dL_thereShare_14 : decode cL_thereShare 14 = .ok (.iconst 0, 1) := by decide +kernel
theorem dL_thereShare_15 : decode cL_thereShare 15 = .ok (.ireturn, 1) := by decide +kernel
