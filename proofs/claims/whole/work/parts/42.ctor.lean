/-! the constructors, from a new memory -/
theorem oEv.re {X : oX} {d : Nat} {J : oJ} {pc : Nat} {L : List (Option Value)} {S S2 : List Value} {K K2 K' : oK} {M M2 M' : oM} {r : Option Value} (hK : K2 = K) (hM : M2 = M) (hS : S2 = S) (k : oEv X d J pc L S2 K2 M2 r K' M') : oEv X d J pc L S K M r K' M' := by
  subst hK; subst hM; subst hS
  exact k
theorem d_X8_init_0 : decode J_X8_init.2.1 0 = .ok (.aload_n 0, 1) := by decide +kernel
theorem d_X8_init_1 : decode J_X8_init.2.1 1 = .ok (.invokespecial 3, 3) := by decide +kernel
theorem d_X8_init_4 : decode J_X8_init.2.1 4 = .ok (.aload_n 0, 1) := by decide +kernel
theorem d_X8_init_5 : decode J_X8_init.2.1 5 = .ok (.bipush 21, 2) := by decide +kernel
theorem d_X8_init_7 : decode J_X8_init.2.1 7 = .ok (.newarray .int, 2) := by decide +kernel
theorem d_X8_init_9 : decode J_X8_init.2.1 9 = .ok (.putfield 9, 3) := by decide +kernel
theorem d_X8_init_12 : decode J_X8_init.2.1 12 = .ok (.aload_n 0, 1) := by decide +kernel
theorem d_X8_init_13 : decode J_X8_init.2.1 13 = .ok (.bipush 40, 2) := by decide +kernel
theorem d_X8_init_15 : decode J_X8_init.2.1 15 = .ok (.newarray .int, 2) := by decide +kernel
theorem d_X8_init_17 : decode J_X8_init.2.1 17 = .ok (.putfield 15, 3) := by decide +kernel
theorem d_X8_init_20 : decode J_X8_init.2.1 20 = .ok (.aload_n 0, 1) := by decide +kernel
theorem d_X8_init_21 : decode J_X8_init.2.1 21 = .ok (.bipush 40, 2) := by decide +kernel
theorem d_X8_init_23 : decode J_X8_init.2.1 23 = .ok (.newarray .int, 2) := by decide +kernel
theorem d_X8_init_25 : decode J_X8_init.2.1 25 = .ok (.putfield 18, 3) := by decide +kernel
theorem d_X8_init_28 : decode J_X8_init.2.1 28 = .ok (.aload_n 0, 1) := by decide +kernel
theorem d_X8_init_29 : decode J_X8_init.2.1 29 = .ok (.bipush 40, 2) := by decide +kernel
theorem d_X8_init_31 : decode J_X8_init.2.1 31 = .ok (.newarray .int, 2) := by decide +kernel
theorem d_X8_init_33 : decode J_X8_init.2.1 33 = .ok (.putfield 21, 3) := by decide +kernel
theorem d_X8_init_36 : decode J_X8_init.2.1 36 = .ok (.iconst 0, 1) := by decide +kernel
theorem d_X8_init_37 : decode J_X8_init.2.1 37 = .ok (.istore_n 1, 1) := by decide +kernel
theorem d_X8_init_38 : decode J_X8_init.2.1 38 = .ok (.iload_n 1, 1) := by decide +kernel
theorem d_X8_init_39 : decode J_X8_init.2.1 39 = .ok (.iconst 3, 1) := by decide +kernel
theorem d_X8_init_40 : decode J_X8_init.2.1 40 = .ok (.if_icmp .ge 30, 3) := by decide +kernel
theorem d_X8_init_43 : decode J_X8_init.2.1 43 = .ok (.aload_n 0, 1) := by decide +kernel
theorem d_X8_init_44 : decode J_X8_init.2.1 44 = .ok (.getfield 9, 3) := by decide +kernel
theorem d_X8_init_47 : decode J_X8_init.2.1 47 = .ok (.iconst 0, 1) := by decide +kernel
theorem d_X8_init_48 : decode J_X8_init.2.1 48 = .ok (.iload_n 1, 1) := by decide +kernel
theorem d_X8_init_49 : decode J_X8_init.2.1 49 = .ok (.iadd, 1) := by decide +kernel
theorem d_X8_init_50 : decode J_X8_init.2.1 50 = .ok (.sipush 20000, 3) := by decide +kernel
theorem d_X8_init_53 : decode J_X8_init.2.1 53 = .ok (.iastore, 1) := by decide +kernel
theorem d_X8_init_54 : decode J_X8_init.2.1 54 = .ok (.aload_n 0, 1) := by decide +kernel
theorem d_X8_init_55 : decode J_X8_init.2.1 55 = .ok (.getfield 9, 3) := by decide +kernel
theorem d_X8_init_58 : decode J_X8_init.2.1 58 = .ok (.iconst 3, 1) := by decide +kernel
theorem d_X8_init_59 : decode J_X8_init.2.1 59 = .ok (.iload_n 1, 1) := by decide +kernel
theorem d_X8_init_60 : decode J_X8_init.2.1 60 = .ok (.iadd, 1) := by decide +kernel
theorem d_X8_init_61 : decode J_X8_init.2.1 61 = .ok (.bipush 30, 2) := by decide +kernel
theorem d_X8_init_63 : decode J_X8_init.2.1 63 = .ok (.iastore, 1) := by decide +kernel
theorem d_X8_init_64 : decode J_X8_init.2.1 64 = .ok (.iinc 1 1, 3) := by decide +kernel
theorem d_X8_init_67 : decode J_X8_init.2.1 67 = .ok (.goto (-29), 3) := by decide +kernel
theorem d_X8_init_70 : decode J_X8_init.2.1 70 = .ok (.return_, 1) := by decide +kernel
theorem d_X4_init_0 : decode J_X4_init.2.1 0 = .ok (.aload_n 0, 1) := by decide +kernel
theorem d_X4_init_1 : decode J_X4_init.2.1 1 = .ok (.invokespecial 3, 3) := by decide +kernel
theorem d_X4_init_4 : decode J_X4_init.2.1 4 = .ok (.aload_n 0, 1) := by decide +kernel
theorem d_X4_init_5 : decode J_X4_init.2.1 5 = .ok (.bipush 20, 2) := by decide +kernel
theorem d_X4_init_7 : decode J_X4_init.2.1 7 = .ok (.newarray .int, 2) := by decide +kernel
theorem d_X4_init_9 : decode J_X4_init.2.1 9 = .ok (.putfield 9, 3) := by decide +kernel
theorem d_X4_init_12 : decode J_X4_init.2.1 12 = .ok (.aload_n 0, 1) := by decide +kernel
theorem d_X4_init_13 : decode J_X4_init.2.1 13 = .ok (.bipush 20, 2) := by decide +kernel
theorem d_X4_init_15 : decode J_X4_init.2.1 15 = .ok (.newarray .int, 2) := by decide +kernel
theorem d_X4_init_17 : decode J_X4_init.2.1 17 = .ok (.putfield 15, 3) := by decide +kernel
theorem d_X4_init_20 : decode J_X4_init.2.1 20 = .ok (.aload_n 0, 1) := by decide +kernel
theorem d_X4_init_21 : decode J_X4_init.2.1 21 = .ok (.bipush 20, 2) := by decide +kernel
theorem d_X4_init_23 : decode J_X4_init.2.1 23 = .ok (.newarray .int, 2) := by decide +kernel
theorem d_X4_init_25 : decode J_X4_init.2.1 25 = .ok (.putfield 18, 3) := by decide +kernel
theorem d_X4_init_28 : decode J_X4_init.2.1 28 = .ok (.aload_n 0, 1) := by decide +kernel
theorem d_X4_init_29 : decode J_X4_init.2.1 29 = .ok (.bipush 12, 2) := by decide +kernel
theorem d_X4_init_31 : decode J_X4_init.2.1 31 = .ok (.newarray .int, 2) := by decide +kernel
theorem d_X4_init_33 : decode J_X4_init.2.1 33 = .ok (.putfield 21, 3) := by decide +kernel
theorem d_X4_init_36 : decode J_X4_init.2.1 36 = .ok (.aload_n 0, 1) := by decide +kernel
theorem d_X4_init_37 : decode J_X4_init.2.1 37 = .ok (.aload_n 1, 1) := by decide +kernel
theorem d_X4_init_38 : decode J_X4_init.2.1 38 = .ok (.putfield 24, 3) := by decide +kernel
theorem d_X4_init_41 : decode J_X4_init.2.1 41 = .ok (.return_, 1) := by decide +kernel
theorem d_X3_init_0 : decode J_X3_init.2.1 0 = .ok (.aload_n 0, 1) := by decide +kernel
theorem d_X3_init_1 : decode J_X3_init.2.1 1 = .ok (.invokespecial 3, 3) := by decide +kernel
theorem d_X3_init_4 : decode J_X3_init.2.1 4 = .ok (.aload_n 0, 1) := by decide +kernel
theorem d_X3_init_5 : decode J_X3_init.2.1 5 = .ok (.bipush 6, 2) := by decide +kernel
theorem d_X3_init_7 : decode J_X3_init.2.1 7 = .ok (.newarray .int, 2) := by decide +kernel
theorem d_X3_init_9 : decode J_X3_init.2.1 9 = .ok (.putfield 9, 3) := by decide +kernel
theorem d_X3_init_12 : decode J_X3_init.2.1 12 = .ok (.aload_n 0, 1) := by decide +kernel
theorem d_X3_init_13 : decode J_X3_init.2.1 13 = .ok (.bipush 6, 2) := by decide +kernel
theorem d_X3_init_15 : decode J_X3_init.2.1 15 = .ok (.newarray .int, 2) := by decide +kernel
theorem d_X3_init_17 : decode J_X3_init.2.1 17 = .ok (.putfield 15, 3) := by decide +kernel
theorem d_X3_init_20 : decode J_X3_init.2.1 20 = .ok (.aload_n 0, 1) := by decide +kernel
theorem d_X3_init_21 : decode J_X3_init.2.1 21 = .ok (.bipush 6, 2) := by decide +kernel
theorem d_X3_init_23 : decode J_X3_init.2.1 23 = .ok (.newarray .boolean, 2) := by decide +kernel
theorem d_X3_init_25 : decode J_X3_init.2.1 25 = .ok (.putfield 18, 3) := by decide +kernel
theorem d_X3_init_28 : decode J_X3_init.2.1 28 = .ok (.aload_n 0, 1) := by decide +kernel
theorem d_X3_init_29 : decode J_X3_init.2.1 29 = .ok (.bipush 117, 2) := by decide +kernel
theorem d_X3_init_31 : decode J_X3_init.2.1 31 = .ok (.newarray .int, 2) := by decide +kernel
theorem d_X3_init_33 : decode J_X3_init.2.1 33 = .ok (.putfield 22, 3) := by decide +kernel
theorem d_X3_init_36 : decode J_X3_init.2.1 36 = .ok (.aload_n 0, 1) := by decide +kernel
theorem d_X3_init_37 : decode J_X3_init.2.1 37 = .ok (.bipush 9, 2) := by decide +kernel
theorem d_X3_init_39 : decode J_X3_init.2.1 39 = .ok (.newarray .int, 2) := by decide +kernel
theorem d_X3_init_41 : decode J_X3_init.2.1 41 = .ok (.putfield 25, 3) := by decide +kernel
theorem d_X3_init_44 : decode J_X3_init.2.1 44 = .ok (.aload_n 0, 1) := by decide +kernel
theorem d_X3_init_45 : decode J_X3_init.2.1 45 = .ok (.aload_n 1, 1) := by decide +kernel
theorem d_X3_init_46 : decode J_X3_init.2.1 46 = .ok (.putfield 28, 3) := by decide +kernel
theorem d_X3_init_49 : decode J_X3_init.2.1 49 = .ok (.return_, 1) := by decide +kernel
theorem d_X10_init_0 : decode J_X10_init.2.1 0 = .ok (.aload_n 0, 1) := by decide +kernel
theorem d_X10_init_1 : decode J_X10_init.2.1 1 = .ok (.invokespecial 3, 3) := by decide +kernel
theorem d_X10_init_4 : decode J_X10_init.2.1 4 = .ok (.aload_n 0, 1) := by decide +kernel
theorem d_X10_init_5 : decode J_X10_init.2.1 5 = .ok (.bipush 120, 2) := by decide +kernel
theorem d_X10_init_7 : decode J_X10_init.2.1 7 = .ok (.newarray .byte, 2) := by decide +kernel
theorem d_X10_init_9 : decode J_X10_init.2.1 9 = .ok (.putfield 11, 3) := by decide +kernel
theorem d_X10_init_12 : decode J_X10_init.2.1 12 = .ok (.aload_n 0, 1) := by decide +kernel
theorem d_X10_init_13 : decode J_X10_init.2.1 13 = .ok (.bipush 13, 2) := by decide +kernel
theorem d_X10_init_15 : decode J_X10_init.2.1 15 = .ok (.newarray .int, 2) := by decide +kernel
theorem d_X10_init_17 : decode J_X10_init.2.1 17 = .ok (.putfield 17, 3) := by decide +kernel
theorem d_X10_init_20 : decode J_X10_init.2.1 20 = .ok (.return_, 1) := by decide +kernel
theorem d_X2_init_0 : decode J_X2_init.2.1 0 = .ok (.aload_n 0, 1) := by decide +kernel
theorem d_X2_init_1 : decode J_X2_init.2.1 1 = .ok (.invokespecial 3, 3) := by decide +kernel
theorem d_X2_init_4 : decode J_X2_init.2.1 4 = .ok (.aload_n 0, 1) := by decide +kernel
theorem d_X2_init_5 : decode J_X2_init.2.1 5 = .ok (.bipush 25, 2) := by decide +kernel
theorem d_X2_init_7 : decode J_X2_init.2.1 7 = .ok (.newarray .int, 2) := by decide +kernel
theorem d_X2_init_9 : decode J_X2_init.2.1 9 = .ok (.putfield 11, 3) := by decide +kernel
theorem d_X2_init_12 : decode J_X2_init.2.1 12 = .ok (.aload_n 0, 1) := by decide +kernel
theorem d_X2_init_13 : decode J_X2_init.2.1 13 = .ok (.bipush 25, 2) := by decide +kernel
theorem d_X2_init_15 : decode J_X2_init.2.1 15 = .ok (.newarray .int, 2) := by decide +kernel
theorem d_X2_init_17 : decode J_X2_init.2.1 17 = .ok (.putfield 15, 3) := by decide +kernel
theorem d_X2_init_20 : decode J_X2_init.2.1 20 = .ok (.aload_n 0, 1) := by decide +kernel
theorem d_X2_init_21 : decode J_X2_init.2.1 21 = .ok (.bipush 25, 2) := by decide +kernel
theorem d_X2_init_23 : decode J_X2_init.2.1 23 = .ok (.newarray .int, 2) := by decide +kernel
theorem d_X2_init_25 : decode J_X2_init.2.1 25 = .ok (.putfield 18, 3) := by decide +kernel
theorem d_X2_init_28 : decode J_X2_init.2.1 28 = .ok (.aload_n 0, 1) := by decide +kernel
theorem d_X2_init_29 : decode J_X2_init.2.1 29 = .ok (.bipush 25, 2) := by decide +kernel
theorem d_X2_init_31 : decode J_X2_init.2.1 31 = .ok (.newarray .int, 2) := by decide +kernel
theorem d_X2_init_33 : decode J_X2_init.2.1 33 = .ok (.putfield 21, 3) := by decide +kernel
theorem d_X2_init_36 : decode J_X2_init.2.1 36 = .ok (.aload_n 0, 1) := by decide +kernel
theorem d_X2_init_37 : decode J_X2_init.2.1 37 = .ok (.bipush 25, 2) := by decide +kernel
theorem d_X2_init_39 : decode J_X2_init.2.1 39 = .ok (.newarray .int, 2) := by decide +kernel
theorem d_X2_init_41 : decode J_X2_init.2.1 41 = .ok (.putfield 24, 3) := by decide +kernel
theorem d_X2_init_44 : decode J_X2_init.2.1 44 = .ok (.aload_n 0, 1) := by decide +kernel
theorem d_X2_init_45 : decode J_X2_init.2.1 45 = .ok (.bipush 25, 2) := by decide +kernel
theorem d_X2_init_47 : decode J_X2_init.2.1 47 = .ok (.newarray .int, 2) := by decide +kernel
theorem d_X2_init_49 : decode J_X2_init.2.1 49 = .ok (.putfield 27, 3) := by decide +kernel
theorem d_X2_init_52 : decode J_X2_init.2.1 52 = .ok (.aload_n 0, 1) := by decide +kernel
theorem d_X2_init_53 : decode J_X2_init.2.1 53 = .ok (.aload_n 1, 1) := by decide +kernel
theorem d_X2_init_54 : decode J_X2_init.2.1 54 = .ok (.putfield 30, 3) := by decide +kernel
theorem d_X2_init_57 : decode J_X2_init.2.1 57 = .ok (.aload_n 0, 1) := by decide +kernel
theorem d_X2_init_58 : decode J_X2_init.2.1 58 = .ok (.aload_n 2, 1) := by decide +kernel
theorem d_X2_init_59 : decode J_X2_init.2.1 59 = .ok (.putfield 34, 3) := by decide +kernel
theorem d_X2_init_62 : decode J_X2_init.2.1 62 = .ok (.return_, 1) := by decide +kernel
theorem d_X7_init_0 : decode J_X7_init.2.1 0 = .ok (.aload_n 0, 1) := by decide +kernel
theorem d_X7_init_1 : decode J_X7_init.2.1 1 = .ok (.invokespecial 3, 3) := by decide +kernel
theorem d_X7_init_4 : decode J_X7_init.2.1 4 = .ok (.aload_n 0, 1) := by decide +kernel
theorem d_X7_init_5 : decode J_X7_init.2.1 5 = .ok (.bipush 6, 2) := by decide +kernel
theorem d_X7_init_7 : decode J_X7_init.2.1 7 = .ok (.newarray .int, 2) := by decide +kernel
theorem d_X7_init_9 : decode J_X7_init.2.1 9 = .ok (.putfield 11, 3) := by decide +kernel
theorem d_X7_init_12 : decode J_X7_init.2.1 12 = .ok (.aload_n 0, 1) := by decide +kernel
theorem d_X7_init_13 : decode J_X7_init.2.1 13 = .ok (.bipush 6, 2) := by decide +kernel
theorem d_X7_init_15 : decode J_X7_init.2.1 15 = .ok (.newarray .int, 2) := by decide +kernel
theorem d_X7_init_17 : decode J_X7_init.2.1 17 = .ok (.putfield 15, 3) := by decide +kernel
theorem d_X7_init_20 : decode J_X7_init.2.1 20 = .ok (.aload_n 0, 1) := by decide +kernel
theorem d_X7_init_21 : decode J_X7_init.2.1 21 = .ok (.bipush 7, 2) := by decide +kernel
theorem d_X7_init_23 : decode J_X7_init.2.1 23 = .ok (.newarray .boolean, 2) := by decide +kernel
theorem d_X7_init_25 : decode J_X7_init.2.1 25 = .ok (.putfield 18, 3) := by decide +kernel
theorem d_X7_init_28 : decode J_X7_init.2.1 28 = .ok (.aload_n 0, 1) := by decide +kernel
theorem d_X7_init_29 : decode J_X7_init.2.1 29 = .ok (.iconst 4, 1) := by decide +kernel
theorem d_X7_init_30 : decode J_X7_init.2.1 30 = .ok (.newarray .int, 2) := by decide +kernel
theorem d_X7_init_32 : decode J_X7_init.2.1 32 = .ok (.putfield 22, 3) := by decide +kernel
theorem d_X7_init_35 : decode J_X7_init.2.1 35 = .ok (.aload_n 0, 1) := by decide +kernel
theorem d_X7_init_36 : decode J_X7_init.2.1 36 = .ok (.iconst 4, 1) := by decide +kernel
theorem d_X7_init_37 : decode J_X7_init.2.1 37 = .ok (.newarray .int, 2) := by decide +kernel
theorem d_X7_init_39 : decode J_X7_init.2.1 39 = .ok (.putfield 25, 3) := by decide +kernel
theorem d_X7_init_42 : decode J_X7_init.2.1 42 = .ok (.aload_n 0, 1) := by decide +kernel
theorem d_X7_init_43 : decode J_X7_init.2.1 43 = .ok (.bipush 36, 2) := by decide +kernel
theorem d_X7_init_45 : decode J_X7_init.2.1 45 = .ok (.newarray .int, 2) := by decide +kernel
theorem d_X7_init_47 : decode J_X7_init.2.1 47 = .ok (.putfield 28, 3) := by decide +kernel
theorem d_X7_init_50 : decode J_X7_init.2.1 50 = .ok (.aload_n 0, 1) := by decide +kernel
theorem d_X7_init_51 : decode J_X7_init.2.1 51 = .ok (.bipush 7, 2) := by decide +kernel
theorem d_X7_init_53 : decode J_X7_init.2.1 53 = .ok (.newarray .int, 2) := by decide +kernel
theorem d_X7_init_55 : decode J_X7_init.2.1 55 = .ok (.putfield 31, 3) := by decide +kernel
theorem d_X7_init_58 : decode J_X7_init.2.1 58 = .ok (.aload_n 0, 1) := by decide +kernel
theorem d_X7_init_59 : decode J_X7_init.2.1 59 = .ok (.iconst 3, 1) := by decide +kernel
theorem d_X7_init_60 : decode J_X7_init.2.1 60 = .ok (.newarray .int, 2) := by decide +kernel
theorem d_X7_init_62 : decode J_X7_init.2.1 62 = .ok (.putfield 34, 3) := by decide +kernel
theorem d_X7_init_65 : decode J_X7_init.2.1 65 = .ok (.aload_n 0, 1) := by decide +kernel
theorem d_X7_init_66 : decode J_X7_init.2.1 66 = .ok (.aload_n 1, 1) := by decide +kernel
theorem d_X7_init_67 : decode J_X7_init.2.1 67 = .ok (.putfield 37, 3) := by decide +kernel
theorem d_X7_init_70 : decode J_X7_init.2.1 70 = .ok (.aload_n 0, 1) := by decide +kernel
theorem d_X7_init_71 : decode J_X7_init.2.1 71 = .ok (.aload_n 2, 1) := by decide +kernel
theorem d_X7_init_72 : decode J_X7_init.2.1 72 = .ok (.putfield 41, 3) := by decide +kernel
theorem d_X7_init_75 : decode J_X7_init.2.1 75 = .ok (.return_, 1) := by decide +kernel
theorem d_X5_init_0 : decode J_X5_init.2.1 0 = .ok (.aload_n 0, 1) := by decide +kernel
theorem d_X5_init_1 : decode J_X5_init.2.1 1 = .ok (.invokespecial 3, 3) := by decide +kernel
theorem d_X5_init_4 : decode J_X5_init.2.1 4 = .ok (.aload_n 0, 1) := by decide +kernel
theorem d_X5_init_5 : decode J_X5_init.2.1 5 = .ok (.bipush 8, 2) := by decide +kernel
theorem d_X5_init_7 : decode J_X5_init.2.1 7 = .ok (.newarray .int, 2) := by decide +kernel
theorem d_X5_init_9 : decode J_X5_init.2.1 9 = .ok (.putfield 11, 3) := by decide +kernel
theorem d_X5_init_12 : decode J_X5_init.2.1 12 = .ok (.aload_n 0, 1) := by decide +kernel
theorem d_X5_init_13 : decode J_X5_init.2.1 13 = .ok (.iconst 4, 1) := by decide +kernel
theorem d_X5_init_14 : decode J_X5_init.2.1 14 = .ok (.newarray .int, 2) := by decide +kernel
theorem d_X5_init_16 : decode J_X5_init.2.1 16 = .ok (.putfield 15, 3) := by decide +kernel
theorem d_X5_init_19 : decode J_X5_init.2.1 19 = .ok (.return_, 1) := by decide +kernel
theorem d_X1_init_0 : decode J_X1_init.2.1 0 = .ok (.aload_n 0, 1) := by decide +kernel
theorem d_X1_init_1 : decode J_X1_init.2.1 1 = .ok (.invokespecial 3, 3) := by decide +kernel
theorem d_X1_init_4 : decode J_X1_init.2.1 4 = .ok (.aload_n 0, 1) := by decide +kernel
theorem d_X1_init_5 : decode J_X1_init.2.1 5 = .ok (.bipush 9, 2) := by decide +kernel
theorem d_X1_init_7 : decode J_X1_init.2.1 7 = .ok (.newarray .int, 2) := by decide +kernel
theorem d_X1_init_9 : decode J_X1_init.2.1 9 = .ok (.putfield 11, 3) := by decide +kernel
theorem d_X1_init_12 : decode J_X1_init.2.1 12 = .ok (.aload_n 0, 1) := by decide +kernel
theorem d_X1_init_13 : decode J_X1_init.2.1 13 = .ok (.bipush 9, 2) := by decide +kernel
theorem d_X1_init_15 : decode J_X1_init.2.1 15 = .ok (.newarray .int, 2) := by decide +kernel
theorem d_X1_init_17 : decode J_X1_init.2.1 17 = .ok (.putfield 15, 3) := by decide +kernel
theorem d_X1_init_20 : decode J_X1_init.2.1 20 = .ok (.aload_n 0, 1) := by decide +kernel
theorem d_X1_init_21 : decode J_X1_init.2.1 21 = .ok (.bipush 9, 2) := by decide +kernel
theorem d_X1_init_23 : decode J_X1_init.2.1 23 = .ok (.newarray .int, 2) := by decide +kernel
theorem d_X1_init_25 : decode J_X1_init.2.1 25 = .ok (.putfield 18, 3) := by decide +kernel
theorem d_X1_init_28 : decode J_X1_init.2.1 28 = .ok (.return_, 1) := by decide +kernel
theorem d_X0_init_0 : decode J_X0_init.2.1 0 = .ok (.aload_n 0, 1) := by decide +kernel
theorem d_X0_init_1 : decode J_X0_init.2.1 1 = .ok (.invokespecial 3, 3) := by decide +kernel
theorem d_X0_init_4 : decode J_X0_init.2.1 4 = .ok (.aload_n 0, 1) := by decide +kernel
theorem d_X0_init_5 : decode J_X0_init.2.1 5 = .ok (.bipush 24, 2) := by decide +kernel
theorem d_X0_init_7 : decode J_X0_init.2.1 7 = .ok (.newarray .int, 2) := by decide +kernel
theorem d_X0_init_9 : decode J_X0_init.2.1 9 = .ok (.putfield 11, 3) := by decide +kernel
theorem d_X0_init_12 : decode J_X0_init.2.1 12 = .ok (.return_, 1) := by decide +kernel
theorem d_X9_init_0 : decode J_X9_init.2.1 0 = .ok (.aload_n 0, 1) := by decide +kernel
theorem d_X9_init_1 : decode J_X9_init.2.1 1 = .ok (.invokespecial 3, 3) := by decide +kernel
theorem d_X9_init_4 : decode J_X9_init.2.1 4 = .ok (.aload_n 0, 1) := by decide +kernel
theorem d_X9_init_5 : decode J_X9_init.2.1 5 = .ok (.bipush 60, 2) := by decide +kernel
theorem d_X9_init_7 : decode J_X9_init.2.1 7 = .ok (.newarray .long, 2) := by decide +kernel
theorem d_X9_init_9 : decode J_X9_init.2.1 9 = .ok (.putfield 9, 3) := by decide +kernel
theorem d_X9_init_12 : decode J_X9_init.2.1 12 = .ok (.return_, 1) := by decide +kernel
theorem d_X11_init_0 : decode J_X11_init.2.1 0 = .ok (.aload_n 0, 1) := by decide +kernel
theorem d_X11_init_1 : decode J_X11_init.2.1 1 = .ok (.invokespecial 1, 3) := by decide +kernel
theorem d_X11_init_4 : decode J_X11_init.2.1 4 = .ok (.aload_n 0, 1) := by decide +kernel
theorem d_X11_init_5 : decode J_X11_init.2.1 5 = .ok (.new 7, 3) := by decide +kernel
theorem d_X11_init_8 : decode J_X11_init.2.1 8 = .ok (.dup, 1) := by decide +kernel
theorem d_X11_init_9 : decode J_X11_init.2.1 9 = .ok (.invokespecial 9, 3) := by decide +kernel
theorem d_X11_init_12 : decode J_X11_init.2.1 12 = .ok (.putfield 10, 3) := by decide +kernel
theorem d_X11_init_15 : decode J_X11_init.2.1 15 = .ok (.aload_n 0, 1) := by decide +kernel
theorem d_X11_init_16 : decode J_X11_init.2.1 16 = .ok (.new 16, 3) := by decide +kernel
theorem d_X11_init_19 : decode J_X11_init.2.1 19 = .ok (.dup, 1) := by decide +kernel
theorem d_X11_init_20 : decode J_X11_init.2.1 20 = .ok (.aload_n 0, 1) := by decide +kernel
theorem d_X11_init_21 : decode J_X11_init.2.1 21 = .ok (.getfield 10, 3) := by decide +kernel
theorem d_X11_init_24 : decode J_X11_init.2.1 24 = .ok (.invokespecial 18, 3) := by decide +kernel
theorem d_X11_init_27 : decode J_X11_init.2.1 27 = .ok (.putfield 21, 3) := by decide +kernel
theorem d_X11_init_30 : decode J_X11_init.2.1 30 = .ok (.aload_n 0, 1) := by decide +kernel
theorem d_X11_init_31 : decode J_X11_init.2.1 31 = .ok (.new 25, 3) := by decide +kernel
theorem d_X11_init_34 : decode J_X11_init.2.1 34 = .ok (.dup, 1) := by decide +kernel
theorem d_X11_init_35 : decode J_X11_init.2.1 35 = .ok (.aload_n 0, 1) := by decide +kernel
theorem d_X11_init_36 : decode J_X11_init.2.1 36 = .ok (.getfield 10, 3) := by decide +kernel
theorem d_X11_init_39 : decode J_X11_init.2.1 39 = .ok (.invokespecial 27, 3) := by decide +kernel
theorem d_X11_init_42 : decode J_X11_init.2.1 42 = .ok (.putfield 28, 3) := by decide +kernel
theorem d_X11_init_45 : decode J_X11_init.2.1 45 = .ok (.aload_n 0, 1) := by decide +kernel
theorem d_X11_init_46 : decode J_X11_init.2.1 46 = .ok (.new 32, 3) := by decide +kernel
theorem d_X11_init_49 : decode J_X11_init.2.1 49 = .ok (.dup, 1) := by decide +kernel
theorem d_X11_init_50 : decode J_X11_init.2.1 50 = .ok (.invokespecial 34, 3) := by decide +kernel
theorem d_X11_init_53 : decode J_X11_init.2.1 53 = .ok (.putfield 35, 3) := by decide +kernel
theorem d_X11_init_56 : decode J_X11_init.2.1 56 = .ok (.aload_n 0, 1) := by decide +kernel
theorem d_X11_init_57 : decode J_X11_init.2.1 57 = .ok (.bipush 20, 2) := by decide +kernel
theorem d_X11_init_59 : decode J_X11_init.2.1 59 = .ok (.anewarray 39, 3) := by decide +kernel
theorem d_X11_init_62 : decode J_X11_init.2.1 62 = .ok (.putfield 41, 3) := by decide +kernel
theorem d_X11_init_65 : decode J_X11_init.2.1 65 = .ok (.aload_n 0, 1) := by decide +kernel
theorem d_X11_init_66 : decode J_X11_init.2.1 66 = .ok (.new 45, 3) := by decide +kernel
theorem d_X11_init_69 : decode J_X11_init.2.1 69 = .ok (.dup, 1) := by decide +kernel
theorem d_X11_init_70 : decode J_X11_init.2.1 70 = .ok (.aload_n 0, 1) := by decide +kernel
theorem d_X11_init_71 : decode J_X11_init.2.1 71 = .ok (.getfield 21, 3) := by decide +kernel
theorem d_X11_init_74 : decode J_X11_init.2.1 74 = .ok (.aload_n 0, 1) := by decide +kernel
theorem d_X11_init_75 : decode J_X11_init.2.1 75 = .ok (.getfield 28, 3) := by decide +kernel
theorem d_X11_init_78 : decode J_X11_init.2.1 78 = .ok (.invokespecial 47, 3) := by decide +kernel
theorem d_X11_init_81 : decode J_X11_init.2.1 81 = .ok (.putfield 50, 3) := by decide +kernel
theorem d_X11_init_84 : decode J_X11_init.2.1 84 = .ok (.aload_n 0, 1) := by decide +kernel
theorem d_X11_init_85 : decode J_X11_init.2.1 85 = .ok (.new 54, 3) := by decide +kernel
theorem d_X11_init_88 : decode J_X11_init.2.1 88 = .ok (.dup, 1) := by decide +kernel
theorem d_X11_init_89 : decode J_X11_init.2.1 89 = .ok (.aload_n 0, 1) := by decide +kernel
theorem d_X11_init_90 : decode J_X11_init.2.1 90 = .ok (.getfield 21, 3) := by decide +kernel
theorem d_X11_init_93 : decode J_X11_init.2.1 93 = .ok (.aload_n 0, 1) := by decide +kernel
theorem d_X11_init_94 : decode J_X11_init.2.1 94 = .ok (.getfield 28, 3) := by decide +kernel
theorem d_X11_init_97 : decode J_X11_init.2.1 97 = .ok (.invokespecial 56, 3) := by decide +kernel
theorem d_X11_init_100 : decode J_X11_init.2.1 100 = .ok (.putfield 57, 3) := by decide +kernel
theorem d_X11_init_103 : decode J_X11_init.2.1 103 = .ok (.aload_n 0, 1) := by decide +kernel
theorem d_X11_init_104 : decode J_X11_init.2.1 104 = .ok (.new 61, 3) := by decide +kernel
theorem d_X11_init_107 : decode J_X11_init.2.1 107 = .ok (.dup, 1) := by decide +kernel
theorem d_X11_init_108 : decode J_X11_init.2.1 108 = .ok (.invokespecial 63, 3) := by decide +kernel
theorem d_X11_init_111 : decode J_X11_init.2.1 111 = .ok (.putfield 64, 3) := by decide +kernel
theorem d_X11_init_114 : decode J_X11_init.2.1 114 = .ok (.aload_n 0, 1) := by decide +kernel
theorem d_X11_init_115 : decode J_X11_init.2.1 115 = .ok (.new 68, 3) := by decide +kernel
theorem d_X11_init_118 : decode J_X11_init.2.1 118 = .ok (.dup, 1) := by decide +kernel
theorem d_X11_init_119 : decode J_X11_init.2.1 119 = .ok (.invokespecial 70, 3) := by decide +kernel
theorem d_X11_init_122 : decode J_X11_init.2.1 122 = .ok (.putfield 71, 3) := by decide +kernel
theorem d_X11_init_125 : decode J_X11_init.2.1 125 = .ok (.aload_n 0, 1) := by decide +kernel
theorem d_X11_init_126 : decode J_X11_init.2.1 126 = .ok (.new 75, 3) := by decide +kernel
theorem d_X11_init_129 : decode J_X11_init.2.1 129 = .ok (.dup, 1) := by decide +kernel
theorem d_X11_init_130 : decode J_X11_init.2.1 130 = .ok (.invokespecial 77, 3) := by decide +kernel
theorem d_X11_init_133 : decode J_X11_init.2.1 133 = .ok (.putfield 78, 3) := by decide +kernel
theorem d_X11_init_136 : decode J_X11_init.2.1 136 = .ok (.aload_n 0, 1) := by decide +kernel
theorem d_X11_init_137 : decode J_X11_init.2.1 137 = .ok (.bipush 6, 2) := by decide +kernel
theorem d_X11_init_139 : decode J_X11_init.2.1 139 = .ok (.anewarray 82, 3) := by decide +kernel
theorem d_X11_init_142 : decode J_X11_init.2.1 142 = .ok (.putfield 84, 3) := by decide +kernel
theorem d_X11_init_145 : decode J_X11_init.2.1 145 = .ok (.iconst 0, 1) := by decide +kernel
theorem d_X11_init_146 : decode J_X11_init.2.1 146 = .ok (.istore_n 1, 1) := by decide +kernel
theorem d_X11_init_147 : decode J_X11_init.2.1 147 = .ok (.iload_n 1, 1) := by decide +kernel
theorem d_X11_init_148 : decode J_X11_init.2.1 148 = .ok (.aload_n 0, 1) := by decide +kernel
theorem d_X11_init_149 : decode J_X11_init.2.1 149 = .ok (.getfield 84, 3) := by decide +kernel
theorem d_X11_init_152 : decode J_X11_init.2.1 152 = .ok (.arraylength, 1) := by decide +kernel
theorem d_X11_init_153 : decode J_X11_init.2.1 153 = .ok (.if_icmp .ge 22, 3) := by decide +kernel
theorem d_X11_init_156 : decode J_X11_init.2.1 156 = .ok (.aload_n 0, 1) := by decide +kernel
theorem d_X11_init_157 : decode J_X11_init.2.1 157 = .ok (.getfield 84, 3) := by decide +kernel
theorem d_X11_init_160 : decode J_X11_init.2.1 160 = .ok (.iload_n 1, 1) := by decide +kernel
theorem d_X11_init_161 : decode J_X11_init.2.1 161 = .ok (.new 82, 3) := by decide +kernel
theorem d_X11_init_164 : decode J_X11_init.2.1 164 = .ok (.dup, 1) := by decide +kernel
theorem d_X11_init_165 : decode J_X11_init.2.1 165 = .ok (.invokespecial 88, 3) := by decide +kernel
theorem d_X11_init_168 : decode J_X11_init.2.1 168 = .ok (.aastore, 1) := by decide +kernel
theorem d_X11_init_169 : decode J_X11_init.2.1 169 = .ok (.iinc 1 1, 3) := by decide +kernel
theorem d_X11_init_172 : decode J_X11_init.2.1 172 = .ok (.goto (-25), 3) := by decide +kernel
theorem d_X11_init_175 : decode J_X11_init.2.1 175 = .ok (.return_, 1) := by decide +kernel
theorem d_X12_init_0 : decode J_X12_init.2.1 0 = .ok (.aload_n 0, 1) := by decide +kernel
theorem d_X12_init_1 : decode J_X12_init.2.1 1 = .ok (.invokespecial 1, 3) := by decide +kernel
theorem d_X12_init_4 : decode J_X12_init.2.1 4 = .ok (.aload_n 0, 1) := by decide +kernel
theorem d_X12_init_5 : decode J_X12_init.2.1 5 = .ok (.bipush 21, 2) := by decide +kernel
theorem d_X12_init_7 : decode J_X12_init.2.1 7 = .ok (.newarray .int, 2) := by decide +kernel
theorem d_X12_init_9 : decode J_X12_init.2.1 9 = .ok (.putfield 7, 3) := by decide +kernel
theorem d_X12_init_12 : decode J_X12_init.2.1 12 = .ok (.aload_n 0, 1) := by decide +kernel
theorem d_X12_init_13 : decode J_X12_init.2.1 13 = .ok (.bipush 40, 2) := by decide +kernel
theorem d_X12_init_15 : decode J_X12_init.2.1 15 = .ok (.newarray .int, 2) := by decide +kernel
theorem d_X12_init_17 : decode J_X12_init.2.1 17 = .ok (.putfield 13, 3) := by decide +kernel
theorem d_X12_init_20 : decode J_X12_init.2.1 20 = .ok (.aload_n 0, 1) := by decide +kernel
theorem d_X12_init_21 : decode J_X12_init.2.1 21 = .ok (.bipush 40, 2) := by decide +kernel
theorem d_X12_init_23 : decode J_X12_init.2.1 23 = .ok (.newarray .int, 2) := by decide +kernel
theorem d_X12_init_25 : decode J_X12_init.2.1 25 = .ok (.putfield 16, 3) := by decide +kernel
theorem d_X12_init_28 : decode J_X12_init.2.1 28 = .ok (.aload_n 0, 1) := by decide +kernel
theorem d_X12_init_29 : decode J_X12_init.2.1 29 = .ok (.bipush 40, 2) := by decide +kernel
theorem d_X12_init_31 : decode J_X12_init.2.1 31 = .ok (.newarray .int, 2) := by decide +kernel
theorem d_X12_init_33 : decode J_X12_init.2.1 33 = .ok (.putfield 19, 3) := by decide +kernel
theorem d_X12_init_36 : decode J_X12_init.2.1 36 = .ok (.aload_n 0, 1) := by decide +kernel
theorem d_X12_init_37 : decode J_X12_init.2.1 37 = .ok (.bipush 20, 2) := by decide +kernel
theorem d_X12_init_39 : decode J_X12_init.2.1 39 = .ok (.newarray .int, 2) := by decide +kernel
theorem d_X12_init_41 : decode J_X12_init.2.1 41 = .ok (.putfield 22, 3) := by decide +kernel
theorem d_X12_init_44 : decode J_X12_init.2.1 44 = .ok (.aload_n 0, 1) := by decide +kernel
theorem d_X12_init_45 : decode J_X12_init.2.1 45 = .ok (.bipush 20, 2) := by decide +kernel
theorem d_X12_init_47 : decode J_X12_init.2.1 47 = .ok (.newarray .int, 2) := by decide +kernel
theorem d_X12_init_49 : decode J_X12_init.2.1 49 = .ok (.putfield 25, 3) := by decide +kernel
theorem d_X12_init_52 : decode J_X12_init.2.1 52 = .ok (.aload_n 0, 1) := by decide +kernel
theorem d_X12_init_53 : decode J_X12_init.2.1 53 = .ok (.bipush 20, 2) := by decide +kernel
theorem d_X12_init_55 : decode J_X12_init.2.1 55 = .ok (.newarray .int, 2) := by decide +kernel
theorem d_X12_init_57 : decode J_X12_init.2.1 57 = .ok (.putfield 28, 3) := by decide +kernel
theorem d_X12_init_60 : decode J_X12_init.2.1 60 = .ok (.aload_n 0, 1) := by decide +kernel
theorem d_X12_init_61 : decode J_X12_init.2.1 61 = .ok (.bipush 6, 2) := by decide +kernel
theorem d_X12_init_63 : decode J_X12_init.2.1 63 = .ok (.newarray .int, 2) := by decide +kernel
theorem d_X12_init_65 : decode J_X12_init.2.1 65 = .ok (.putfield 31, 3) := by decide +kernel
theorem d_X12_init_68 : decode J_X12_init.2.1 68 = .ok (.aload_n 0, 1) := by decide +kernel
theorem d_X12_init_69 : decode J_X12_init.2.1 69 = .ok (.bipush 6, 2) := by decide +kernel
theorem d_X12_init_71 : decode J_X12_init.2.1 71 = .ok (.newarray .int, 2) := by decide +kernel
theorem d_X12_init_73 : decode J_X12_init.2.1 73 = .ok (.putfield 34, 3) := by decide +kernel
theorem d_X12_init_76 : decode J_X12_init.2.1 76 = .ok (.aload_n 0, 1) := by decide +kernel
theorem d_X12_init_77 : decode J_X12_init.2.1 77 = .ok (.bipush 120, 2) := by decide +kernel
theorem d_X12_init_79 : decode J_X12_init.2.1 79 = .ok (.newarray .int, 2) := by decide +kernel
theorem d_X12_init_81 : decode J_X12_init.2.1 81 = .ok (.putfield 37, 3) := by decide +kernel
theorem d_X12_init_84 : decode J_X12_init.2.1 84 = .ok (.aload_n 0, 1) := by decide +kernel
theorem d_X12_init_85 : decode J_X12_init.2.1 85 = .ok (.bipush 9, 2) := by decide +kernel
theorem d_X12_init_87 : decode J_X12_init.2.1 87 = .ok (.newarray .int, 2) := by decide +kernel
theorem d_X12_init_89 : decode J_X12_init.2.1 89 = .ok (.putfield 40, 3) := by decide +kernel
theorem d_X12_init_92 : decode J_X12_init.2.1 92 = .ok (.aload_n 0, 1) := by decide +kernel
theorem d_X12_init_93 : decode J_X12_init.2.1 93 = .ok (.bipush 117, 2) := by decide +kernel
theorem d_X12_init_95 : decode J_X12_init.2.1 95 = .ok (.newarray .int, 2) := by decide +kernel
theorem d_X12_init_97 : decode J_X12_init.2.1 97 = .ok (.putfield 43, 3) := by decide +kernel
theorem d_X12_init_100 : decode J_X12_init.2.1 100 = .ok (.aload_n 0, 1) := by decide +kernel
theorem d_X12_init_101 : decode J_X12_init.2.1 101 = .ok (.bipush 13, 2) := by decide +kernel
theorem d_X12_init_103 : decode J_X12_init.2.1 103 = .ok (.newarray .int, 2) := by decide +kernel
theorem d_X12_init_105 : decode J_X12_init.2.1 105 = .ok (.putfield 46, 3) := by decide +kernel
theorem d_X12_init_108 : decode J_X12_init.2.1 108 = .ok (.aload_n 0, 1) := by decide +kernel
theorem d_X12_init_109 : decode J_X12_init.2.1 109 = .ok (.bipush 20, 2) := by decide +kernel
theorem d_X12_init_111 : decode J_X12_init.2.1 111 = .ok (.newarray .int, 2) := by decide +kernel
theorem d_X12_init_113 : decode J_X12_init.2.1 113 = .ok (.putfield 49, 3) := by decide +kernel
theorem d_X12_init_116 : decode J_X12_init.2.1 116 = .ok (.aload_n 0, 1) := by decide +kernel
theorem d_X12_init_117 : decode J_X12_init.2.1 117 = .ok (.bipush 20, 2) := by decide +kernel
theorem d_X12_init_119 : decode J_X12_init.2.1 119 = .ok (.newarray .int, 2) := by decide +kernel
theorem d_X12_init_121 : decode J_X12_init.2.1 121 = .ok (.putfield 52, 3) := by decide +kernel
theorem d_X12_init_124 : decode J_X12_init.2.1 124 = .ok (.aload_n 0, 1) := by decide +kernel
theorem d_X12_init_125 : decode J_X12_init.2.1 125 = .ok (.bipush 20, 2) := by decide +kernel
theorem d_X12_init_127 : decode J_X12_init.2.1 127 = .ok (.newarray .int, 2) := by decide +kernel
theorem d_X12_init_129 : decode J_X12_init.2.1 129 = .ok (.putfield 55, 3) := by decide +kernel
theorem d_X12_init_132 : decode J_X12_init.2.1 132 = .ok (.aload_n 0, 1) := by decide +kernel
theorem d_X12_init_133 : decode J_X12_init.2.1 133 = .ok (.bipush 20, 2) := by decide +kernel
theorem d_X12_init_135 : decode J_X12_init.2.1 135 = .ok (.newarray .int, 2) := by decide +kernel
theorem d_X12_init_137 : decode J_X12_init.2.1 137 = .ok (.putfield 58, 3) := by decide +kernel
theorem d_X12_init_140 : decode J_X12_init.2.1 140 = .ok (.aload_n 0, 1) := by decide +kernel
theorem d_X12_init_141 : decode J_X12_init.2.1 141 = .ok (.sipush 480, 3) := by decide +kernel
theorem d_X12_init_144 : decode J_X12_init.2.1 144 = .ok (.newarray .int, 2) := by decide +kernel
theorem d_X12_init_146 : decode J_X12_init.2.1 146 = .ok (.putfield 61, 3) := by decide +kernel
theorem d_X12_init_149 : decode J_X12_init.2.1 149 = .ok (.aload_n 0, 1) := by decide +kernel
theorem d_X12_init_150 : decode J_X12_init.2.1 150 = .ok (.sipush 480, 3) := by decide +kernel
theorem d_X12_init_153 : decode J_X12_init.2.1 153 = .ok (.newarray .int, 2) := by decide +kernel
theorem d_X12_init_155 : decode J_X12_init.2.1 155 = .ok (.putfield 64, 3) := by decide +kernel
theorem d_X12_init_158 : decode J_X12_init.2.1 158 = .ok (.aload_n 0, 1) := by decide +kernel
theorem d_X12_init_159 : decode J_X12_init.2.1 159 = .ok (.sipush 480, 3) := by decide +kernel
theorem d_X12_init_162 : decode J_X12_init.2.1 162 = .ok (.newarray .int, 2) := by decide +kernel
theorem d_X12_init_164 : decode J_X12_init.2.1 164 = .ok (.putfield 67, 3) := by decide +kernel
theorem d_X12_init_167 : decode J_X12_init.2.1 167 = .ok (.aload_n 0, 1) := by decide +kernel
theorem d_X12_init_168 : decode J_X12_init.2.1 168 = .ok (.bipush 6, 2) := by decide +kernel
theorem d_X12_init_170 : decode J_X12_init.2.1 170 = .ok (.newarray .boolean, 2) := by decide +kernel
theorem d_X12_init_172 : decode J_X12_init.2.1 172 = .ok (.putfield 70, 3) := by decide +kernel
theorem d_X12_init_175 : decode J_X12_init.2.1 175 = .ok (.aload_n 0, 1) := by decide +kernel
theorem d_X12_init_176 : decode J_X12_init.2.1 176 = .ok (.bipush 25, 2) := by decide +kernel
theorem d_X12_init_178 : decode J_X12_init.2.1 178 = .ok (.newarray .int, 2) := by decide +kernel
theorem d_X12_init_180 : decode J_X12_init.2.1 180 = .ok (.putfield 74, 3) := by decide +kernel
theorem d_X12_init_183 : decode J_X12_init.2.1 183 = .ok (.aload_n 0, 1) := by decide +kernel
theorem d_X12_init_184 : decode J_X12_init.2.1 184 = .ok (.bipush 25, 2) := by decide +kernel
theorem d_X12_init_186 : decode J_X12_init.2.1 186 = .ok (.newarray .int, 2) := by decide +kernel
theorem d_X12_init_188 : decode J_X12_init.2.1 188 = .ok (.putfield 77, 3) := by decide +kernel
theorem d_X12_init_191 : decode J_X12_init.2.1 191 = .ok (.aload_n 0, 1) := by decide +kernel
theorem d_X12_init_192 : decode J_X12_init.2.1 192 = .ok (.bipush 25, 2) := by decide +kernel
theorem d_X12_init_194 : decode J_X12_init.2.1 194 = .ok (.newarray .int, 2) := by decide +kernel
theorem d_X12_init_196 : decode J_X12_init.2.1 196 = .ok (.putfield 80, 3) := by decide +kernel
theorem d_X12_init_199 : decode J_X12_init.2.1 199 = .ok (.aload_n 0, 1) := by decide +kernel
theorem d_X12_init_200 : decode J_X12_init.2.1 200 = .ok (.bipush 25, 2) := by decide +kernel
theorem d_X12_init_202 : decode J_X12_init.2.1 202 = .ok (.newarray .int, 2) := by decide +kernel
theorem d_X12_init_204 : decode J_X12_init.2.1 204 = .ok (.putfield 83, 3) := by decide +kernel
theorem d_X12_init_207 : decode J_X12_init.2.1 207 = .ok (.aload_n 0, 1) := by decide +kernel
theorem d_X12_init_208 : decode J_X12_init.2.1 208 = .ok (.bipush 25, 2) := by decide +kernel
theorem d_X12_init_210 : decode J_X12_init.2.1 210 = .ok (.newarray .int, 2) := by decide +kernel
theorem d_X12_init_212 : decode J_X12_init.2.1 212 = .ok (.putfield 86, 3) := by decide +kernel
theorem d_X12_init_215 : decode J_X12_init.2.1 215 = .ok (.aload_n 0, 1) := by decide +kernel
theorem d_X12_init_216 : decode J_X12_init.2.1 216 = .ok (.bipush 25, 2) := by decide +kernel
theorem d_X12_init_218 : decode J_X12_init.2.1 218 = .ok (.newarray .int, 2) := by decide +kernel
theorem d_X12_init_220 : decode J_X12_init.2.1 220 = .ok (.putfield 89, 3) := by decide +kernel
theorem d_X12_init_223 : decode J_X12_init.2.1 223 = .ok (.aload_n 0, 1) := by decide +kernel
theorem d_X12_init_224 : decode J_X12_init.2.1 224 = .ok (.bipush 6, 2) := by decide +kernel
theorem d_X12_init_226 : decode J_X12_init.2.1 226 = .ok (.newarray .int, 2) := by decide +kernel
theorem d_X12_init_228 : decode J_X12_init.2.1 228 = .ok (.putfield 92, 3) := by decide +kernel
theorem d_X12_init_231 : decode J_X12_init.2.1 231 = .ok (.aload_n 0, 1) := by decide +kernel
theorem d_X12_init_232 : decode J_X12_init.2.1 232 = .ok (.bipush 7, 2) := by decide +kernel
theorem d_X12_init_234 : decode J_X12_init.2.1 234 = .ok (.newarray .int, 2) := by decide +kernel
theorem d_X12_init_236 : decode J_X12_init.2.1 236 = .ok (.putfield 95, 3) := by decide +kernel
theorem d_X12_init_239 : decode J_X12_init.2.1 239 = .ok (.aload_n 0, 1) := by decide +kernel
theorem d_X12_init_240 : decode J_X12_init.2.1 240 = .ok (.iconst 4, 1) := by decide +kernel
theorem d_X12_init_241 : decode J_X12_init.2.1 241 = .ok (.newarray .int, 2) := by decide +kernel
theorem d_X12_init_243 : decode J_X12_init.2.1 243 = .ok (.putfield 98, 3) := by decide +kernel
theorem d_X12_init_246 : decode J_X12_init.2.1 246 = .ok (.aload_n 0, 1) := by decide +kernel
theorem d_X12_init_247 : decode J_X12_init.2.1 247 = .ok (.iconst 4, 1) := by decide +kernel
theorem d_X12_init_248 : decode J_X12_init.2.1 248 = .ok (.newarray .int, 2) := by decide +kernel
theorem d_X12_init_250 : decode J_X12_init.2.1 250 = .ok (.putfield 101, 3) := by decide +kernel
theorem d_X12_init_253 : decode J_X12_init.2.1 253 = .ok (.aload_n 0, 1) := by decide +kernel
theorem d_X12_init_254 : decode J_X12_init.2.1 254 = .ok (.bipush 8, 2) := by decide +kernel
theorem d_X12_init_256 : decode J_X12_init.2.1 256 = .ok (.newarray .int, 2) := by decide +kernel
theorem d_X12_init_258 : decode J_X12_init.2.1 258 = .ok (.putfield 104, 3) := by decide +kernel
theorem d_X12_init_261 : decode J_X12_init.2.1 261 = .ok (.aload_n 0, 1) := by decide +kernel
theorem d_X12_init_262 : decode J_X12_init.2.1 262 = .ok (.iconst 4, 1) := by decide +kernel
theorem d_X12_init_263 : decode J_X12_init.2.1 263 = .ok (.newarray .int, 2) := by decide +kernel
theorem d_X12_init_265 : decode J_X12_init.2.1 265 = .ok (.putfield 107, 3) := by decide +kernel
theorem d_X12_init_268 : decode J_X12_init.2.1 268 = .ok (.aload_n 0, 1) := by decide +kernel
theorem d_X12_init_269 : decode J_X12_init.2.1 269 = .ok (.bipush 12, 2) := by decide +kernel
theorem d_X12_init_271 : decode J_X12_init.2.1 271 = .ok (.newarray .int, 2) := by decide +kernel
theorem d_X12_init_273 : decode J_X12_init.2.1 273 = .ok (.putfield 110, 3) := by decide +kernel
theorem d_X12_init_276 : decode J_X12_init.2.1 276 = .ok (.aload_n 0, 1) := by decide +kernel
theorem d_X12_init_277 : decode J_X12_init.2.1 277 = .ok (.bipush 9, 2) := by decide +kernel
theorem d_X12_init_279 : decode J_X12_init.2.1 279 = .ok (.newarray .int, 2) := by decide +kernel
theorem d_X12_init_281 : decode J_X12_init.2.1 281 = .ok (.putfield 113, 3) := by decide +kernel
theorem d_X12_init_284 : decode J_X12_init.2.1 284 = .ok (.aload_n 0, 1) := by decide +kernel
theorem d_X12_init_285 : decode J_X12_init.2.1 285 = .ok (.bipush 9, 2) := by decide +kernel
theorem d_X12_init_287 : decode J_X12_init.2.1 287 = .ok (.newarray .int, 2) := by decide +kernel
theorem d_X12_init_289 : decode J_X12_init.2.1 289 = .ok (.putfield 116, 3) := by decide +kernel
theorem d_X12_init_292 : decode J_X12_init.2.1 292 = .ok (.aload_n 0, 1) := by decide +kernel
theorem d_X12_init_293 : decode J_X12_init.2.1 293 = .ok (.bipush 24, 2) := by decide +kernel
theorem d_X12_init_295 : decode J_X12_init.2.1 295 = .ok (.newarray .int, 2) := by decide +kernel
theorem d_X12_init_297 : decode J_X12_init.2.1 297 = .ok (.putfield 119, 3) := by decide +kernel
theorem d_X12_init_300 : decode J_X12_init.2.1 300 = .ok (.aload_n 0, 1) := by decide +kernel
theorem d_X12_init_301 : decode J_X12_init.2.1 301 = .ok (.bipush 6, 2) := by decide +kernel
theorem d_X12_init_303 : decode J_X12_init.2.1 303 = .ok (.newarray .int, 2) := by decide +kernel
theorem d_X12_init_305 : decode J_X12_init.2.1 305 = .ok (.putfield 122, 3) := by decide +kernel
theorem d_X12_init_308 : decode J_X12_init.2.1 308 = .ok (.aload_n 0, 1) := by decide +kernel
theorem d_X12_init_309 : decode J_X12_init.2.1 309 = .ok (.bipush 6, 2) := by decide +kernel
theorem d_X12_init_311 : decode J_X12_init.2.1 311 = .ok (.newarray .int, 2) := by decide +kernel
theorem d_X12_init_313 : decode J_X12_init.2.1 313 = .ok (.putfield 125, 3) := by decide +kernel
theorem d_X12_init_316 : decode J_X12_init.2.1 316 = .ok (.aload_n 0, 1) := by decide +kernel
theorem d_X12_init_317 : decode J_X12_init.2.1 317 = .ok (.sipush 360, 3) := by decide +kernel
theorem d_X12_init_320 : decode J_X12_init.2.1 320 = .ok (.newarray .long, 2) := by decide +kernel
theorem d_X12_init_322 : decode J_X12_init.2.1 322 = .ok (.putfield 128, 3) := by decide +kernel
theorem d_X12_init_325 : decode J_X12_init.2.1 325 = .ok (.aload_n 0, 1) := by decide +kernel
theorem d_X12_init_326 : decode J_X12_init.2.1 326 = .ok (.bipush 60, 2) := by decide +kernel
theorem d_X12_init_328 : decode J_X12_init.2.1 328 = .ok (.newarray .long, 2) := by decide +kernel
theorem d_X12_init_330 : decode J_X12_init.2.1 330 = .ok (.putfield 132, 3) := by decide +kernel
theorem d_X12_init_333 : decode J_X12_init.2.1 333 = .ok (.iconst 0, 1) := by decide +kernel
theorem d_X12_init_334 : decode J_X12_init.2.1 334 = .ok (.istore_n 1, 1) := by decide +kernel
theorem d_X12_init_335 : decode J_X12_init.2.1 335 = .ok (.iload_n 1, 1) := by decide +kernel
theorem d_X12_init_336 : decode J_X12_init.2.1 336 = .ok (.bipush 6, 2) := by decide +kernel
theorem d_X12_init_338 : decode J_X12_init.2.1 338 = .ok (.if_icmp .ge 16, 3) := by decide +kernel
theorem d_X12_init_341 : decode J_X12_init.2.1 341 = .ok (.aload_n 0, 1) := by decide +kernel
theorem d_X12_init_342 : decode J_X12_init.2.1 342 = .ok (.getfield 122, 3) := by decide +kernel
theorem d_X12_init_345 : decode J_X12_init.2.1 345 = .ok (.iload_n 1, 1) := by decide +kernel
theorem d_X12_init_346 : decode J_X12_init.2.1 346 = .ok (.iconst (-1), 1) := by decide +kernel
theorem d_X12_init_347 : decode J_X12_init.2.1 347 = .ok (.iastore, 1) := by decide +kernel
theorem d_X12_init_348 : decode J_X12_init.2.1 348 = .ok (.iinc 1 1, 3) := by decide +kernel
theorem d_X12_init_351 : decode J_X12_init.2.1 351 = .ok (.goto (-16), 3) := by decide +kernel
theorem d_X12_init_354 : decode J_X12_init.2.1 354 = .ok (.iconst 0, 1) := by decide +kernel
theorem d_X12_init_355 : decode J_X12_init.2.1 355 = .ok (.istore_n 1, 1) := by decide +kernel
theorem d_X12_init_356 : decode J_X12_init.2.1 356 = .ok (.iload_n 1, 1) := by decide +kernel
theorem d_X12_init_357 : decode J_X12_init.2.1 357 = .ok (.iconst 3, 1) := by decide +kernel
theorem d_X12_init_358 : decode J_X12_init.2.1 358 = .ok (.if_icmp .ge 32, 3) := by decide +kernel
theorem d_X12_init_361 : decode J_X12_init.2.1 361 = .ok (.aload_n 0, 1) := by decide +kernel
theorem d_X12_init_362 : decode J_X12_init.2.1 362 = .ok (.getfield 7, 3) := by decide +kernel
theorem d_X12_init_365 : decode J_X12_init.2.1 365 = .ok (.bipush 12, 2) := by decide +kernel
theorem d_X12_init_367 : decode J_X12_init.2.1 367 = .ok (.iload_n 1, 1) := by decide +kernel
theorem d_X12_init_368 : decode J_X12_init.2.1 368 = .ok (.iadd, 1) := by decide +kernel
theorem d_X12_init_369 : decode J_X12_init.2.1 369 = .ok (.sipush 20000, 3) := by decide +kernel
theorem d_X12_init_372 : decode J_X12_init.2.1 372 = .ok (.iastore, 1) := by decide +kernel
theorem d_X12_init_373 : decode J_X12_init.2.1 373 = .ok (.aload_n 0, 1) := by decide +kernel
theorem d_X12_init_374 : decode J_X12_init.2.1 374 = .ok (.getfield 7, 3) := by decide +kernel
theorem d_X12_init_377 : decode J_X12_init.2.1 377 = .ok (.bipush 15, 2) := by decide +kernel
theorem d_X12_init_379 : decode J_X12_init.2.1 379 = .ok (.iload_n 1, 1) := by decide +kernel
theorem d_X12_init_380 : decode J_X12_init.2.1 380 = .ok (.iadd, 1) := by decide +kernel
theorem d_X12_init_381 : decode J_X12_init.2.1 381 = .ok (.bipush 30, 2) := by decide +kernel
theorem d_X12_init_383 : decode J_X12_init.2.1 383 = .ok (.iastore, 1) := by decide +kernel
theorem d_X12_init_384 : decode J_X12_init.2.1 384 = .ok (.iinc 1 1, 3) := by decide +kernel
theorem d_X12_init_387 : decode J_X12_init.2.1 387 = .ok (.goto (-31), 3) := by decide +kernel
theorem d_X12_init_390 : decode J_X12_init.2.1 390 = .ok (.return_, 1) := by decide +kernel
def ck0 : oK := (0, 0, fun _ => (0, 0), fun _ _ => none)
def cm0 : oM := (fun _ _ => 0, fun _ _ => 0)
def ck1 : oK := oNewK ck0 17 12
def cm1 : oM := oNewM ck0 cm0
def ck2 : oK := oNewK ck1 14 6
def cm2 : oM := oNewM ck1 cm1
def ck3 : oK := oNewK ck2 0 21
def cm3 : oM := oNewM ck2 cm2
def ck4 : oK := oUpR ck3 1 0 (some 2)
def ck5 : oK := oNewK ck4 0 40
def cm4 : oM := oNewM ck4 cm3
def ck6 : oK := oUpR ck5 1 1 (some 3)
def ck7 : oK := oNewK ck6 0 40
def cm5 : oM := oNewM ck6 cm4
def ck8 : oK := oUpR ck7 1 2 (some 4)
def ck9 : oK := oNewK ck8 0 40
def cm6 : oM := oNewM ck8 cm5
def ck10 : oK := oUpR ck9 1 3 (some 5)
def cm7 : oM := oUp cm6 2 0 20000
def cm8 : oM := oUp cm7 2 3 30
def cm9 : oM := oUp cm8 2 1 20000
def cm10 : oM := oUp cm9 2 4 30
def cm11 : oM := oUp cm10 2 2 20000
def cm12 : oM := oUp cm11 2 5 30
def ck11 : oK := oUpR ck10 0 0 (some 1)
def ck12 : oK := oNewK ck11 10 7
def cm13 : oM := oNewM ck11 cm12
def ck13 : oK := oNewK ck12 0 20
def cm14 : oM := oNewM ck12 cm13
def ck14 : oK := oUpR ck13 6 1 (some 7)
def ck15 : oK := oNewK ck14 0 20
def cm15 : oM := oNewM ck14 cm14
def ck16 : oK := oUpR ck15 6 2 (some 8)
def ck17 : oK := oNewK ck16 0 20
def cm16 : oM := oNewM ck16 cm15
def ck18 : oK := oUpR ck17 6 3 (some 9)
def ck19 : oK := oNewK ck18 0 12
def cm17 : oM := oNewM ck18 cm16
def ck20 : oK := oUpR ck19 6 4 (some 10)
def ck21 : oK := oUpR ck20 6 0 (some 1)
def ck22 : oK := oUpR ck21 0 1 (some 6)
def ck23 : oK := oNewK ck22 9 7
def cm18 : oM := oNewM ck22 cm17
def ck24 : oK := oNewK ck23 0 6
def cm19 : oM := oNewM ck23 cm18
def ck25 : oK := oUpR ck24 11 1 (some 12)
def ck26 : oK := oNewK ck25 0 6
def cm20 : oM := oNewM ck25 cm19
def ck27 : oK := oUpR ck26 11 2 (some 13)
def ck28 : oK := oNewK ck27 2 6
def cm21 : oM := oNewM ck27 cm20
def ck29 : oK := oUpR ck28 11 3 (some 14)
def ck30 : oK := oNewK ck29 0 117
def cm22 : oM := oNewM ck29 cm21
def ck31 : oK := oUpR ck30 11 4 (some 15)
def ck32 : oK := oNewK ck31 0 9
def cm23 : oM := oNewM ck31 cm22
def ck33 : oK := oUpR ck32 11 5 (some 16)
def ck34 : oK := oUpR ck33 11 0 (some 1)
def ck35 : oK := oUpR ck34 0 2 (some 11)
def ck36 : oK := oNewK ck35 16 4
def cm24 : oM := oNewM ck35 cm23
def ck37 : oK := oNewK ck36 1 120
def cm25 : oM := oNewM ck36 cm24
def ck38 : oK := oUpR ck37 17 0 (some 18)
def ck39 : oK := oNewK ck38 0 13
def cm26 : oM := oNewM ck38 cm25
def ck40 : oK := oUpR ck39 17 1 (some 19)
def ck41 : oK := oUpR ck40 0 3 (some 17)
def ck42 : oK := oNewK ck41 4 20
def cm27 : oM := oNewM ck41 cm26
def ck43 : oK := oUpR ck42 0 4 (some 20)
def ck44 : oK := oNewK ck43 8 9
def cm28 : oM := oNewM ck43 cm27
def ck45 : oK := oNewK ck44 0 25
def cm29 : oM := oNewM ck44 cm28
def ck46 : oK := oUpR ck45 21 2 (some 22)
def ck47 : oK := oNewK ck46 0 25
def cm30 : oM := oNewM ck46 cm29
def ck48 : oK := oUpR ck47 21 3 (some 23)
def ck49 : oK := oNewK ck48 0 25
def cm31 : oM := oNewM ck48 cm30
def ck50 : oK := oUpR ck49 21 4 (some 24)
def ck51 : oK := oNewK ck50 0 25
def cm32 : oM := oNewM ck50 cm31
def ck52 : oK := oUpR ck51 21 5 (some 25)
def ck53 : oK := oNewK ck52 0 25
def cm33 : oM := oNewM ck52 cm32
def ck54 : oK := oUpR ck53 21 6 (some 26)
def ck55 : oK := oNewK ck54 0 25
def cm34 : oM := oNewM ck54 cm33
def ck56 : oK := oUpR ck55 21 7 (some 27)
def ck57 : oK := oUpR ck56 21 0 (some 6)
def ck58 : oK := oUpR ck57 21 1 (some 11)
def ck59 : oK := oUpR ck58 0 5 (some 21)
def ck60 : oK := oNewK ck59 13 16
def cm35 : oM := oNewM ck59 cm34
def ck61 : oK := oNewK ck60 0 6
def cm36 : oM := oNewM ck60 cm35
def ck62 : oK := oUpR ck61 28 2 (some 29)
def ck63 : oK := oNewK ck62 0 6
def cm37 : oM := oNewM ck62 cm36
def ck64 : oK := oUpR ck63 28 3 (some 30)
def ck65 : oK := oNewK ck64 2 7
def cm38 : oM := oNewM ck64 cm37
def ck66 : oK := oUpR ck65 28 4 (some 31)
def ck67 : oK := oNewK ck66 0 4
def cm39 : oM := oNewM ck66 cm38
def ck68 : oK := oUpR ck67 28 5 (some 32)
def ck69 : oK := oNewK ck68 0 4
def cm40 : oM := oNewM ck68 cm39
def ck70 : oK := oUpR ck69 28 6 (some 33)
def ck71 : oK := oNewK ck70 0 36
def cm41 : oM := oNewM ck70 cm40
def ck72 : oK := oUpR ck71 28 7 (some 34)
def ck73 : oK := oNewK ck72 0 7
def cm42 : oM := oNewM ck72 cm41
def ck74 : oK := oUpR ck73 28 8 (some 35)
def ck75 : oK := oNewK ck74 0 3
def cm43 : oM := oNewM ck74 cm42
def ck76 : oK := oUpR ck75 28 9 (some 36)
def ck77 : oK := oUpR ck76 28 0 (some 6)
def ck78 : oK := oUpR ck77 28 1 (some 11)
def ck79 : oK := oUpR ck78 0 6 (some 28)
def ck80 : oK := oNewK ck79 11 5
def cm44 : oM := oNewM ck79 cm43
def ck81 : oK := oNewK ck80 0 8
def cm45 : oM := oNewM ck80 cm44
def ck82 : oK := oUpR ck81 37 0 (some 38)
def ck83 : oK := oNewK ck82 0 4
def cm46 : oM := oNewM ck82 cm45
def ck84 : oK := oUpR ck83 37 1 (some 39)
def ck85 : oK := oUpR ck84 0 7 (some 37)
def ck86 : oK := oNewK ck85 7 7
def cm47 : oM := oNewM ck85 cm46
def ck87 : oK := oNewK ck86 0 9
def cm48 : oM := oNewM ck86 cm47
def ck88 : oK := oUpR ck87 40 0 (some 41)
def ck89 : oK := oNewK ck88 0 9
def cm49 : oM := oNewM ck88 cm48
def ck90 : oK := oUpR ck89 40 1 (some 42)
def ck91 : oK := oNewK ck90 0 9
def cm50 : oM := oNewM ck90 cm49
def ck92 : oK := oUpR ck91 40 2 (some 43)
def ck93 : oK := oUpR ck92 0 8 (some 40)
def ck94 : oK := oNewK ck93 6 5
def cm51 : oM := oNewM ck93 cm50
def ck95 : oK := oNewK ck94 0 24
def cm52 : oM := oNewM ck94 cm51
def ck96 : oK := oUpR ck95 44 0 (some 45)
def ck97 : oK := oUpR ck96 0 9 (some 44)
def ck98 : oK := oNewK ck97 5 6
def cm53 : oM := oNewM ck97 cm52
def ck99 : oK := oUpR ck98 0 10 (some 46)
def ck100 : oK := oNewK ck99 15 5
def cm54 : oM := oNewM ck99 cm53
def ck101 : oK := oNewK ck100 3 60
def cm55 : oM := oNewM ck100 cm54
def ck102 : oK := oUpR ck101 47 0 (some 48)
def ck103 : oK := oUpR ck102 46 0 (some 47)
def ck104 : oK := oNewK ck103 15 5
def cm56 : oM := oNewM ck103 cm55
def ck105 : oK := oNewK ck104 3 60
def cm57 : oM := oNewM ck104 cm56
def ck106 : oK := oUpR ck105 49 0 (some 50)
def ck107 : oK := oUpR ck106 46 1 (some 49)
def ck108 : oK := oNewK ck107 15 5
def cm58 : oM := oNewM ck107 cm57
def ck109 : oK := oNewK ck108 3 60
def cm59 : oM := oNewM ck108 cm58
def ck110 : oK := oUpR ck109 51 0 (some 52)
def ck111 : oK := oUpR ck110 46 2 (some 51)
def ck112 : oK := oNewK ck111 15 5
def cm60 : oM := oNewM ck111 cm59
def ck113 : oK := oNewK ck112 3 60
def cm61 : oM := oNewM ck112 cm60
def ck114 : oK := oUpR ck113 53 0 (some 54)
def ck115 : oK := oUpR ck114 46 3 (some 53)
def ck116 : oK := oNewK ck115 15 5
def cm62 : oM := oNewM ck115 cm61
def ck117 : oK := oNewK ck116 3 60
def cm63 : oM := oNewM ck116 cm62
def ck118 : oK := oUpR ck117 55 0 (some 56)
def ck119 : oK := oUpR ck118 46 4 (some 55)
def ck120 : oK := oNewK ck119 15 5
def cm64 : oM := oNewM ck119 cm63
def ck121 : oK := oNewK ck120 3 60
def cm65 : oM := oNewM ck120 cm64
def ck122 : oK := oUpR ck121 57 0 (some 58)
def ck123 : oK := oUpR ck122 46 5 (some 57)
def ck124 : oK := oNewK ck123 18 66
def cm66 : oM := oNewM ck123 cm65
def ck125 : oK := oNewK ck124 0 21
def cm67 : oM := oNewM ck124 cm66
def ck126 : oK := oUpR ck125 59 0 (some 60)
def ck127 : oK := oNewK ck126 0 40
def cm68 : oM := oNewM ck126 cm67
def ck128 : oK := oUpR ck127 59 1 (some 61)
def ck129 : oK := oNewK ck128 0 40
def cm69 : oM := oNewM ck128 cm68
def ck130 : oK := oUpR ck129 59 2 (some 62)
def ck131 : oK := oNewK ck130 0 40
def cm70 : oM := oNewM ck130 cm69
def ck132 : oK := oUpR ck131 59 3 (some 63)
def ck133 : oK := oNewK ck132 0 20
def cm71 : oM := oNewM ck132 cm70
def ck134 : oK := oUpR ck133 59 8 (some 64)
def ck135 : oK := oNewK ck134 0 20
def cm72 : oM := oNewM ck134 cm71
def ck136 : oK := oUpR ck135 59 9 (some 65)
def ck137 : oK := oNewK ck136 0 20
def cm73 : oM := oNewM ck136 cm72
def ck138 : oK := oUpR ck137 59 10 (some 66)
def ck139 : oK := oNewK ck138 0 6
def cm74 : oM := oNewM ck138 cm73
def ck140 : oK := oUpR ck139 59 12 (some 67)
def ck141 : oK := oNewK ck140 0 6
def cm75 : oM := oNewM ck140 cm74
def ck142 : oK := oUpR ck141 59 13 (some 68)
def ck143 : oK := oNewK ck142 0 120
def cm76 : oM := oNewM ck142 cm75
def ck144 : oK := oUpR ck143 59 14 (some 69)
def ck145 : oK := oNewK ck144 0 9
def cm77 : oM := oNewM ck144 cm76
def ck146 : oK := oUpR ck145 59 16 (some 70)
def ck147 : oK := oNewK ck146 0 117
def cm78 : oM := oNewM ck146 cm77
def ck148 : oK := oUpR ck147 59 17 (some 71)
def ck149 : oK := oNewK ck148 0 13
def cm79 : oM := oNewM ck148 cm78
def ck150 : oK := oUpR ck149 59 18 (some 72)
def ck151 : oK := oNewK ck150 0 20
def cm80 : oM := oNewM ck150 cm79
def ck152 : oK := oUpR ck151 59 21 (some 73)
def ck153 : oK := oNewK ck152 0 20
def cm81 : oM := oNewM ck152 cm80
def ck154 : oK := oUpR ck153 59 22 (some 74)
def ck155 : oK := oNewK ck154 0 20
def cm82 : oM := oNewM ck154 cm81
def ck156 : oK := oUpR ck155 59 23 (some 75)
def ck157 : oK := oNewK ck156 0 20
def cm83 : oM := oNewM ck156 cm82
def ck158 : oK := oUpR ck157 59 24 (some 76)
def ck159 : oK := oNewK ck158 0 480
def cm84 : oM := oNewM ck158 cm83
def ck160 : oK := oUpR ck159 59 25 (some 77)
def ck161 : oK := oNewK ck160 0 480
def cm85 : oM := oNewM ck160 cm84
def ck162 : oK := oUpR ck161 59 26 (some 78)
def ck163 : oK := oNewK ck162 0 480
def cm86 : oM := oNewM ck162 cm85
def ck164 : oK := oUpR ck163 59 27 (some 79)
def ck165 : oK := oNewK ck164 2 6
def cm87 : oM := oNewM ck164 cm86
def ck166 : oK := oUpR ck165 59 28 (some 80)
def ck167 : oK := oNewK ck166 0 25
def cm88 : oM := oNewM ck166 cm87
def ck168 : oK := oUpR ck167 59 32 (some 81)
def ck169 : oK := oNewK ck168 0 25
def cm89 : oM := oNewM ck168 cm88
def ck170 : oK := oUpR ck169 59 33 (some 82)
def ck171 : oK := oNewK ck170 0 25
def cm90 : oM := oNewM ck170 cm89
def ck172 : oK := oUpR ck171 59 34 (some 83)
def ck173 : oK := oNewK ck172 0 25
def cm91 : oM := oNewM ck172 cm90
def ck174 : oK := oUpR ck173 59 35 (some 84)
def ck175 : oK := oNewK ck174 0 25
def cm92 : oM := oNewM ck174 cm91
def ck176 : oK := oUpR ck175 59 36 (some 85)
def ck177 : oK := oNewK ck176 0 25
def cm93 : oM := oNewM ck176 cm92
def ck178 : oK := oUpR ck177 59 37 (some 86)
def ck179 : oK := oNewK ck178 0 6
def cm94 : oM := oNewM ck178 cm93
def ck180 : oK := oUpR ck179 59 40 (some 87)
def ck181 : oK := oNewK ck180 0 7
def cm95 : oM := oNewM ck180 cm94
def ck182 : oK := oUpR ck181 59 41 (some 88)
def ck183 : oK := oNewK ck182 0 4
def cm96 : oM := oNewM ck182 cm95
def ck184 : oK := oUpR ck183 59 42 (some 89)
def ck185 : oK := oNewK ck184 0 4
def cm97 : oM := oNewM ck184 cm96
def ck186 : oK := oUpR ck185 59 43 (some 90)
def ck187 : oK := oNewK ck186 0 8
def cm98 : oM := oNewM ck186 cm97
def ck188 : oK := oUpR ck187 59 50 (some 91)
def ck189 : oK := oNewK ck188 0 4
def cm99 : oM := oNewM ck188 cm98
def ck190 : oK := oUpR ck189 59 51 (some 92)
def ck191 : oK := oNewK ck190 0 12
def cm100 : oM := oNewM ck190 cm99
def ck192 : oK := oUpR ck191 59 54 (some 93)
def ck193 : oK := oNewK ck192 0 9
def cm101 : oM := oNewM ck192 cm100
def ck194 : oK := oUpR ck193 59 56 (some 94)
def ck195 : oK := oNewK ck194 0 9
def cm102 : oM := oNewM ck194 cm101
def ck196 : oK := oUpR ck195 59 57 (some 95)
def ck197 : oK := oNewK ck196 0 24
def cm103 : oM := oNewM ck196 cm102
def ck198 : oK := oUpR ck197 59 58 (some 96)
def ck199 : oK := oNewK ck198 0 6
def cm104 : oM := oNewM ck198 cm103
def ck200 : oK := oUpR ck199 59 62 (some 97)
def ck201 : oK := oNewK ck200 0 6
def cm105 : oM := oNewM ck200 cm104
def ck202 : oK := oUpR ck201 59 63 (some 98)
def ck203 : oK := oNewK ck202 3 360
def cm106 : oM := oNewM ck202 cm105
def ck204 : oK := oUpR ck203 59 64 (some 99)
def ck205 : oK := oNewK ck204 3 60
def cm107 : oM := oNewM ck204 cm106
def ck206 : oK := oUpR ck205 59 65 (some 100)
def cm108 : oM := oUp cm107 97 0 (-1)
def cm109 : oM := oUp cm108 97 1 (-1)
def cm110 : oM := oUp cm109 97 2 (-1)
def cm111 : oM := oUp cm110 97 3 (-1)
def cm112 : oM := oUp cm111 97 4 (-1)
def cm113 : oM := oUp cm112 97 5 (-1)
def cm114 : oM := oUp cm113 60 12 20000
def cm115 : oM := oUp cm114 60 15 30
def cm116 : oM := oUp cm115 60 13 20000
def cm117 : oM := oUp cm116 60 16 30
def cm118 : oM := oUp cm117 60 14 20000
def cm119 : oM := oUp cm118 60 17 30
set_option maxRecDepth 20000 in
theorem ct_1 {X : oX} : oMet X 1 J_X8_init [.ref 1] ck2 cm2 none ck10 cm12 := by
  refine oMet_of (L := [some (.ref 1), none]) jJ_X8_init.1 rfl (Nat.le_of_ble_eq_true rfl) rfl (Nat.le_of_ble_eq_true rfl) (Nat.le_of_ble_eq_true rfl) ?_
  refine oe_aload_n (pc := 0) d_X8_init_0 rfl ?_
  refine oe_obj (pc := 1) d_X8_init_1 mo_X8_3 (by decide) (Nat.le_of_ble_eq_true rfl) ?_
  refine oe_aload_n (pc := 4) d_X8_init_4 rfl ?_
  refine oe_bipush (pc := 5) (v := 21) d_X8_init_5 rfl ?_
  refine oe_newaI (pc := 7) (N := 21) d_X8_init_7 (by decide) rfl (Nat.le_of_ble_eq_true rfl) (Nat.le_of_ble_eq_true rfl) (Nat.le_of_ble_eq_true rfl) (Nat.le_of_ble_eq_true rfl) ?_
  refine oEv.re (K2 := ck3) (M2 := cm3) (S2 := [.ref 2, .ref 1]) rfl rfl rfl ?_
  refine oe_putrf (pc := 9) (x := some 2) d_X8_init_9 fl_X8_9 ock8 (k := 0) (Nat.le_of_ble_eq_true rfl) (by decide) rfl ⟨rfl, fun _ => ⟨rfl, rfl⟩⟩ rfl rfl rfl (Nat.le_of_ble_eq_true rfl) rfl ?_
  refine oEv.re (K2 := ck4) (M2 := cm3) (S2 := []) rfl rfl rfl ?_
  refine oe_aload_n (pc := 12) d_X8_init_12 rfl ?_
  refine oe_bipush (pc := 13) (v := 40) d_X8_init_13 rfl ?_
  refine oe_newaI (pc := 15) (N := 40) d_X8_init_15 (by decide) rfl (Nat.le_of_ble_eq_true rfl) (Nat.le_of_ble_eq_true rfl) (Nat.le_of_ble_eq_true rfl) (Nat.le_of_ble_eq_true rfl) ?_
  refine oEv.re (K2 := ck5) (M2 := cm4) (S2 := [.ref 3, .ref 1]) rfl rfl rfl ?_
  refine oe_putrf (pc := 17) (x := some 3) d_X8_init_17 fl_X8_15 ock8 (k := 1) (Nat.le_of_ble_eq_true rfl) (by decide) rfl ⟨rfl, fun _ => ⟨rfl, rfl⟩⟩ rfl rfl rfl (Nat.le_of_ble_eq_true rfl) rfl ?_
  refine oEv.re (K2 := ck6) (M2 := cm4) (S2 := []) rfl rfl rfl ?_
  refine oe_aload_n (pc := 20) d_X8_init_20 rfl ?_
  refine oe_bipush (pc := 21) (v := 40) d_X8_init_21 rfl ?_
  refine oe_newaI (pc := 23) (N := 40) d_X8_init_23 (by decide) rfl (Nat.le_of_ble_eq_true rfl) (Nat.le_of_ble_eq_true rfl) (Nat.le_of_ble_eq_true rfl) (Nat.le_of_ble_eq_true rfl) ?_
  refine oEv.re (K2 := ck7) (M2 := cm5) (S2 := [.ref 4, .ref 1]) rfl rfl rfl ?_
  refine oe_putrf (pc := 25) (x := some 4) d_X8_init_25 fl_X8_18 ock8 (k := 2) (Nat.le_of_ble_eq_true rfl) (by decide) rfl ⟨rfl, fun _ => ⟨rfl, rfl⟩⟩ rfl rfl rfl (Nat.le_of_ble_eq_true rfl) rfl ?_
  refine oEv.re (K2 := ck8) (M2 := cm5) (S2 := []) rfl rfl rfl ?_
  refine oe_aload_n (pc := 28) d_X8_init_28 rfl ?_
  refine oe_bipush (pc := 29) (v := 40) d_X8_init_29 rfl ?_
  refine oe_newaI (pc := 31) (N := 40) d_X8_init_31 (by decide) rfl (Nat.le_of_ble_eq_true rfl) (Nat.le_of_ble_eq_true rfl) (Nat.le_of_ble_eq_true rfl) (Nat.le_of_ble_eq_true rfl) ?_
  refine oEv.re (K2 := ck9) (M2 := cm6) (S2 := [.ref 5, .ref 1]) rfl rfl rfl ?_
  refine oe_putrf (pc := 33) (x := some 5) d_X8_init_33 fl_X8_21 ock8 (k := 3) (Nat.le_of_ble_eq_true rfl) (by decide) rfl ⟨rfl, fun _ => ⟨rfl, rfl⟩⟩ rfl rfl rfl (Nat.le_of_ble_eq_true rfl) rfl ?_
  refine oEv.re (K2 := ck10) (M2 := cm6) (S2 := []) rfl rfl rfl ?_
  refine oe_iconst (pc := 36) (v := 0) d_X8_init_36 rfl ?_
  refine oe_istore_n (pc := 37) (L2 := [some (.ref 1), some (.int 0)]) d_X8_init_37 rfl rfl (Nat.le_of_ble_eq_true rfl) rfl ?_
  refine oe_iload_n (pc := 38) d_X8_init_38 rfl ?_
  refine oe_iconst (pc := 39) (v := 3) d_X8_init_39 rfl ?_
  refine oe_icmp_ge (pc := 40) (tgt := 70) d_X8_init_40 (by decide) (fun c => absurd c (by decide)) (fun _ => ?_)
  refine oe_aload_n (pc := 43) d_X8_init_43 rfl ?_
  refine oe_getr (pc := 44) d_X8_init_44 fl_X8_9 ock8 (k := 0) (b := 2) (Nat.le_of_ble_eq_true rfl) (by decide) (Nat.le_of_ble_eq_true rfl) rfl rfl ?_
  refine oe_iconst (pc := 47) (v := 0) d_X8_init_47 rfl ?_
  refine oe_iload_n (pc := 48) d_X8_init_48 rfl ?_
  refine oe_iadd (pc := 49) d_X8_init_49 ?_
  refine oEv.re (K2 := ck10) (M2 := cm6) (S2 := [.int 0, .ref 2]) rfl rfl rfl ?_
  refine oe_sipush (pc := 50) (v := 20000) d_X8_init_50 rfl ?_
  refine oe_iast (pc := 53) (n := 21) d_X8_init_53 (Nat.le_of_ble_eq_true rfl) rfl (by unfold vp_in; decide) ?_
  refine oEv.re (K2 := ck10) (M2 := cm7) (S2 := []) rfl rfl rfl ?_
  refine oe_aload_n (pc := 54) d_X8_init_54 rfl ?_
  refine oe_getr (pc := 55) d_X8_init_55 fl_X8_9 ock8 (k := 0) (b := 2) (Nat.le_of_ble_eq_true rfl) (by decide) (Nat.le_of_ble_eq_true rfl) rfl rfl ?_
  refine oe_iconst (pc := 58) (v := 3) d_X8_init_58 rfl ?_
  refine oe_iload_n (pc := 59) d_X8_init_59 rfl ?_
  refine oe_iadd (pc := 60) d_X8_init_60 ?_
  refine oEv.re (K2 := ck10) (M2 := cm7) (S2 := [.int 3, .ref 2]) rfl rfl rfl ?_
  refine oe_bipush (pc := 61) (v := 30) d_X8_init_61 rfl ?_
  refine oe_iast (pc := 63) (n := 21) d_X8_init_63 (Nat.le_of_ble_eq_true rfl) rfl (by unfold vp_in; decide) ?_
  refine oEv.re (K2 := ck10) (M2 := cm8) (S2 := []) rfl rfl rfl ?_
  refine oe_iinc (pc := 64) (v := 1) (L2 := [some (.ref 1), some (.int 1)]) d_X8_init_64 rfl rfl rfl (Nat.le_of_ble_eq_true rfl) rfl ?_
  refine oe_goto (pc := 67) (tgt := 38) d_X8_init_67 (by decide) ?_
  refine oe_iload_n (pc := 38) d_X8_init_38 rfl ?_
  refine oe_iconst (pc := 39) (v := 3) d_X8_init_39 rfl ?_
  refine oe_icmp_ge (pc := 40) (tgt := 70) d_X8_init_40 (by decide) (fun c => absurd c (by decide)) (fun _ => ?_)
  refine oe_aload_n (pc := 43) d_X8_init_43 rfl ?_
  refine oe_getr (pc := 44) d_X8_init_44 fl_X8_9 ock8 (k := 0) (b := 2) (Nat.le_of_ble_eq_true rfl) (by decide) (Nat.le_of_ble_eq_true rfl) rfl rfl ?_
  refine oe_iconst (pc := 47) (v := 0) d_X8_init_47 rfl ?_
  refine oe_iload_n (pc := 48) d_X8_init_48 rfl ?_
  refine oe_iadd (pc := 49) d_X8_init_49 ?_
  refine oEv.re (K2 := ck10) (M2 := cm8) (S2 := [.int 1, .ref 2]) rfl rfl rfl ?_
  refine oe_sipush (pc := 50) (v := 20000) d_X8_init_50 rfl ?_
  refine oe_iast (pc := 53) (n := 21) d_X8_init_53 (Nat.le_of_ble_eq_true rfl) rfl (by unfold vp_in; decide) ?_
  refine oEv.re (K2 := ck10) (M2 := cm9) (S2 := []) rfl rfl rfl ?_
  refine oe_aload_n (pc := 54) d_X8_init_54 rfl ?_
  refine oe_getr (pc := 55) d_X8_init_55 fl_X8_9 ock8 (k := 0) (b := 2) (Nat.le_of_ble_eq_true rfl) (by decide) (Nat.le_of_ble_eq_true rfl) rfl rfl ?_
  refine oe_iconst (pc := 58) (v := 3) d_X8_init_58 rfl ?_
  refine oe_iload_n (pc := 59) d_X8_init_59 rfl ?_
  refine oe_iadd (pc := 60) d_X8_init_60 ?_
  refine oEv.re (K2 := ck10) (M2 := cm9) (S2 := [.int 4, .ref 2]) rfl rfl rfl ?_
  refine oe_bipush (pc := 61) (v := 30) d_X8_init_61 rfl ?_
  refine oe_iast (pc := 63) (n := 21) d_X8_init_63 (Nat.le_of_ble_eq_true rfl) rfl (by unfold vp_in; decide) ?_
  refine oEv.re (K2 := ck10) (M2 := cm10) (S2 := []) rfl rfl rfl ?_
  refine oe_iinc (pc := 64) (v := 2) (L2 := [some (.ref 1), some (.int 2)]) d_X8_init_64 rfl rfl rfl (Nat.le_of_ble_eq_true rfl) rfl ?_
  refine oe_goto (pc := 67) (tgt := 38) d_X8_init_67 (by decide) ?_
  refine oe_iload_n (pc := 38) d_X8_init_38 rfl ?_
  refine oe_iconst (pc := 39) (v := 3) d_X8_init_39 rfl ?_
  refine oe_icmp_ge (pc := 40) (tgt := 70) d_X8_init_40 (by decide) (fun c => absurd c (by decide)) (fun _ => ?_)
  refine oe_aload_n (pc := 43) d_X8_init_43 rfl ?_
  refine oe_getr (pc := 44) d_X8_init_44 fl_X8_9 ock8 (k := 0) (b := 2) (Nat.le_of_ble_eq_true rfl) (by decide) (Nat.le_of_ble_eq_true rfl) rfl rfl ?_
  refine oe_iconst (pc := 47) (v := 0) d_X8_init_47 rfl ?_
  refine oe_iload_n (pc := 48) d_X8_init_48 rfl ?_
  refine oe_iadd (pc := 49) d_X8_init_49 ?_
  refine oEv.re (K2 := ck10) (M2 := cm10) (S2 := [.int 2, .ref 2]) rfl rfl rfl ?_
  refine oe_sipush (pc := 50) (v := 20000) d_X8_init_50 rfl ?_
  refine oe_iast (pc := 53) (n := 21) d_X8_init_53 (Nat.le_of_ble_eq_true rfl) rfl (by unfold vp_in; decide) ?_
  refine oEv.re (K2 := ck10) (M2 := cm11) (S2 := []) rfl rfl rfl ?_
  refine oe_aload_n (pc := 54) d_X8_init_54 rfl ?_
  refine oe_getr (pc := 55) d_X8_init_55 fl_X8_9 ock8 (k := 0) (b := 2) (Nat.le_of_ble_eq_true rfl) (by decide) (Nat.le_of_ble_eq_true rfl) rfl rfl ?_
  refine oe_iconst (pc := 58) (v := 3) d_X8_init_58 rfl ?_
  refine oe_iload_n (pc := 59) d_X8_init_59 rfl ?_
  refine oe_iadd (pc := 60) d_X8_init_60 ?_
  refine oEv.re (K2 := ck10) (M2 := cm11) (S2 := [.int 5, .ref 2]) rfl rfl rfl ?_
  refine oe_bipush (pc := 61) (v := 30) d_X8_init_61 rfl ?_
  refine oe_iast (pc := 63) (n := 21) d_X8_init_63 (Nat.le_of_ble_eq_true rfl) rfl (by unfold vp_in; decide) ?_
  refine oEv.re (K2 := ck10) (M2 := cm12) (S2 := []) rfl rfl rfl ?_
  refine oe_iinc (pc := 64) (v := 3) (L2 := [some (.ref 1), some (.int 3)]) d_X8_init_64 rfl rfl rfl (Nat.le_of_ble_eq_true rfl) rfl ?_
  refine oe_goto (pc := 67) (tgt := 38) d_X8_init_67 (by decide) ?_
  refine oe_iload_n (pc := 38) d_X8_init_38 rfl ?_
  refine oe_iconst (pc := 39) (v := 3) d_X8_init_39 rfl ?_
  refine oe_icmp_ge (pc := 40) (tgt := 70) d_X8_init_40 (by decide) (fun _ => ?_) (fun c => absurd (by decide) c)
  exact oe_vret (pc := 70) d_X8_init_70 rfl
set_option maxRecDepth 20000 in
theorem ct_2 {X : oX} : oMet X 1 J_X4_init [.ref 6, .ref 1] ck12 cm13 none ck21 cm17 := by
  refine oMet_of (L := [some (.ref 6), some (.ref 1)]) jJ_X4_init.1 rfl (Nat.le_of_ble_eq_true rfl) rfl (Nat.le_of_ble_eq_true rfl) (Nat.le_of_ble_eq_true rfl) ?_
  refine oe_aload_n (pc := 0) d_X4_init_0 rfl ?_
  refine oe_obj (pc := 1) d_X4_init_1 mo_X4_3 (by decide) (Nat.le_of_ble_eq_true rfl) ?_
  refine oe_aload_n (pc := 4) d_X4_init_4 rfl ?_
  refine oe_bipush (pc := 5) (v := 20) d_X4_init_5 rfl ?_
  refine oe_newaI (pc := 7) (N := 20) d_X4_init_7 (by decide) rfl (Nat.le_of_ble_eq_true rfl) (Nat.le_of_ble_eq_true rfl) (Nat.le_of_ble_eq_true rfl) (Nat.le_of_ble_eq_true rfl) ?_
  refine oEv.re (K2 := ck13) (M2 := cm14) (S2 := [.ref 7, .ref 6]) rfl rfl rfl ?_
  refine oe_putrf (pc := 9) (x := some 7) d_X4_init_9 fl_X4_9 ock4 (k := 1) (Nat.le_of_ble_eq_true rfl) (by decide) rfl ⟨rfl, fun _ => ⟨rfl, rfl⟩⟩ rfl rfl rfl (Nat.le_of_ble_eq_true rfl) rfl ?_
  refine oEv.re (K2 := ck14) (M2 := cm14) (S2 := []) rfl rfl rfl ?_
  refine oe_aload_n (pc := 12) d_X4_init_12 rfl ?_
  refine oe_bipush (pc := 13) (v := 20) d_X4_init_13 rfl ?_
  refine oe_newaI (pc := 15) (N := 20) d_X4_init_15 (by decide) rfl (Nat.le_of_ble_eq_true rfl) (Nat.le_of_ble_eq_true rfl) (Nat.le_of_ble_eq_true rfl) (Nat.le_of_ble_eq_true rfl) ?_
  refine oEv.re (K2 := ck15) (M2 := cm15) (S2 := [.ref 8, .ref 6]) rfl rfl rfl ?_
  refine oe_putrf (pc := 17) (x := some 8) d_X4_init_17 fl_X4_15 ock4 (k := 2) (Nat.le_of_ble_eq_true rfl) (by decide) rfl ⟨rfl, fun _ => ⟨rfl, rfl⟩⟩ rfl rfl rfl (Nat.le_of_ble_eq_true rfl) rfl ?_
  refine oEv.re (K2 := ck16) (M2 := cm15) (S2 := []) rfl rfl rfl ?_
  refine oe_aload_n (pc := 20) d_X4_init_20 rfl ?_
  refine oe_bipush (pc := 21) (v := 20) d_X4_init_21 rfl ?_
  refine oe_newaI (pc := 23) (N := 20) d_X4_init_23 (by decide) rfl (Nat.le_of_ble_eq_true rfl) (Nat.le_of_ble_eq_true rfl) (Nat.le_of_ble_eq_true rfl) (Nat.le_of_ble_eq_true rfl) ?_
  refine oEv.re (K2 := ck17) (M2 := cm16) (S2 := [.ref 9, .ref 6]) rfl rfl rfl ?_
  refine oe_putrf (pc := 25) (x := some 9) d_X4_init_25 fl_X4_18 ock4 (k := 3) (Nat.le_of_ble_eq_true rfl) (by decide) rfl ⟨rfl, fun _ => ⟨rfl, rfl⟩⟩ rfl rfl rfl (Nat.le_of_ble_eq_true rfl) rfl ?_
  refine oEv.re (K2 := ck18) (M2 := cm16) (S2 := []) rfl rfl rfl ?_
  refine oe_aload_n (pc := 28) d_X4_init_28 rfl ?_
  refine oe_bipush (pc := 29) (v := 12) d_X4_init_29 rfl ?_
  refine oe_newaI (pc := 31) (N := 12) d_X4_init_31 (by decide) rfl (Nat.le_of_ble_eq_true rfl) (Nat.le_of_ble_eq_true rfl) (Nat.le_of_ble_eq_true rfl) (Nat.le_of_ble_eq_true rfl) ?_
  refine oEv.re (K2 := ck19) (M2 := cm17) (S2 := [.ref 10, .ref 6]) rfl rfl rfl ?_
  refine oe_putrf (pc := 33) (x := some 10) d_X4_init_33 fl_X4_21 ock4 (k := 4) (Nat.le_of_ble_eq_true rfl) (by decide) rfl ⟨rfl, fun _ => ⟨rfl, rfl⟩⟩ rfl rfl rfl (Nat.le_of_ble_eq_true rfl) rfl ?_
  refine oEv.re (K2 := ck20) (M2 := cm17) (S2 := []) rfl rfl rfl ?_
  refine oe_aload_n (pc := 36) d_X4_init_36 rfl ?_
  refine oe_aload_n (pc := 37) d_X4_init_37 rfl ?_
  refine oe_putrf (pc := 38) (x := some 1) d_X4_init_38 fl_X4_24 ock4 (k := 0) (Nat.le_of_ble_eq_true rfl) (by decide) rfl ⟨rfl, fun _ => ⟨rfl, rfl⟩⟩ rfl rfl rfl (Nat.le_of_ble_eq_true rfl) rfl ?_
  refine oEv.re (K2 := ck21) (M2 := cm17) (S2 := []) rfl rfl rfl ?_
  exact oe_vret (pc := 41) d_X4_init_41 rfl
set_option maxRecDepth 20000 in
theorem ct_3 {X : oX} : oMet X 1 J_X3_init [.ref 11, .ref 1] ck23 cm18 none ck34 cm23 := by
  refine oMet_of (L := [some (.ref 11), some (.ref 1)]) jJ_X3_init.1 rfl (Nat.le_of_ble_eq_true rfl) rfl (Nat.le_of_ble_eq_true rfl) (Nat.le_of_ble_eq_true rfl) ?_
  refine oe_aload_n (pc := 0) d_X3_init_0 rfl ?_
  refine oe_obj (pc := 1) d_X3_init_1 mo_X3_3 (by decide) (Nat.le_of_ble_eq_true rfl) ?_
  refine oe_aload_n (pc := 4) d_X3_init_4 rfl ?_
  refine oe_bipush (pc := 5) (v := 6) d_X3_init_5 rfl ?_
  refine oe_newaI (pc := 7) (N := 6) d_X3_init_7 (by decide) rfl (Nat.le_of_ble_eq_true rfl) (Nat.le_of_ble_eq_true rfl) (Nat.le_of_ble_eq_true rfl) (Nat.le_of_ble_eq_true rfl) ?_
  refine oEv.re (K2 := ck24) (M2 := cm19) (S2 := [.ref 12, .ref 11]) rfl rfl rfl ?_
  refine oe_putrf (pc := 9) (x := some 12) d_X3_init_9 fl_X3_9 ock3 (k := 1) (Nat.le_of_ble_eq_true rfl) (by decide) rfl ⟨rfl, fun _ => ⟨rfl, rfl⟩⟩ rfl rfl rfl (Nat.le_of_ble_eq_true rfl) rfl ?_
  refine oEv.re (K2 := ck25) (M2 := cm19) (S2 := []) rfl rfl rfl ?_
  refine oe_aload_n (pc := 12) d_X3_init_12 rfl ?_
  refine oe_bipush (pc := 13) (v := 6) d_X3_init_13 rfl ?_
  refine oe_newaI (pc := 15) (N := 6) d_X3_init_15 (by decide) rfl (Nat.le_of_ble_eq_true rfl) (Nat.le_of_ble_eq_true rfl) (Nat.le_of_ble_eq_true rfl) (Nat.le_of_ble_eq_true rfl) ?_
  refine oEv.re (K2 := ck26) (M2 := cm20) (S2 := [.ref 13, .ref 11]) rfl rfl rfl ?_
  refine oe_putrf (pc := 17) (x := some 13) d_X3_init_17 fl_X3_15 ock3 (k := 2) (Nat.le_of_ble_eq_true rfl) (by decide) rfl ⟨rfl, fun _ => ⟨rfl, rfl⟩⟩ rfl rfl rfl (Nat.le_of_ble_eq_true rfl) rfl ?_
  refine oEv.re (K2 := ck27) (M2 := cm20) (S2 := []) rfl rfl rfl ?_
  refine oe_aload_n (pc := 20) d_X3_init_20 rfl ?_
  refine oe_bipush (pc := 21) (v := 6) d_X3_init_21 rfl ?_
  refine oe_newaZ (pc := 23) (N := 6) d_X3_init_23 (by decide) rfl (Nat.le_of_ble_eq_true rfl) (Nat.le_of_ble_eq_true rfl) (Nat.le_of_ble_eq_true rfl) (Nat.le_of_ble_eq_true rfl) ?_
  refine oEv.re (K2 := ck28) (M2 := cm21) (S2 := [.ref 14, .ref 11]) rfl rfl rfl ?_
  refine oe_putrf (pc := 25) (x := some 14) d_X3_init_25 fl_X3_18 ock3 (k := 3) (Nat.le_of_ble_eq_true rfl) (by decide) rfl ⟨rfl, fun _ => ⟨rfl, rfl⟩⟩ rfl rfl rfl (Nat.le_of_ble_eq_true rfl) rfl ?_
  refine oEv.re (K2 := ck29) (M2 := cm21) (S2 := []) rfl rfl rfl ?_
  refine oe_aload_n (pc := 28) d_X3_init_28 rfl ?_
  refine oe_bipush (pc := 29) (v := 117) d_X3_init_29 rfl ?_
  refine oe_newaI (pc := 31) (N := 117) d_X3_init_31 (by decide) rfl (Nat.le_of_ble_eq_true rfl) (Nat.le_of_ble_eq_true rfl) (Nat.le_of_ble_eq_true rfl) (Nat.le_of_ble_eq_true rfl) ?_
  refine oEv.re (K2 := ck30) (M2 := cm22) (S2 := [.ref 15, .ref 11]) rfl rfl rfl ?_
  refine oe_putrf (pc := 33) (x := some 15) d_X3_init_33 fl_X3_22 ock3 (k := 4) (Nat.le_of_ble_eq_true rfl) (by decide) rfl ⟨rfl, fun _ => ⟨rfl, rfl⟩⟩ rfl rfl rfl (Nat.le_of_ble_eq_true rfl) rfl ?_
  refine oEv.re (K2 := ck31) (M2 := cm22) (S2 := []) rfl rfl rfl ?_
  refine oe_aload_n (pc := 36) d_X3_init_36 rfl ?_
  refine oe_bipush (pc := 37) (v := 9) d_X3_init_37 rfl ?_
  refine oe_newaI (pc := 39) (N := 9) d_X3_init_39 (by decide) rfl (Nat.le_of_ble_eq_true rfl) (Nat.le_of_ble_eq_true rfl) (Nat.le_of_ble_eq_true rfl) (Nat.le_of_ble_eq_true rfl) ?_
  refine oEv.re (K2 := ck32) (M2 := cm23) (S2 := [.ref 16, .ref 11]) rfl rfl rfl ?_
  refine oe_putrf (pc := 41) (x := some 16) d_X3_init_41 fl_X3_25 ock3 (k := 5) (Nat.le_of_ble_eq_true rfl) (by decide) rfl ⟨rfl, fun _ => ⟨rfl, rfl⟩⟩ rfl rfl rfl (Nat.le_of_ble_eq_true rfl) rfl ?_
  refine oEv.re (K2 := ck33) (M2 := cm23) (S2 := []) rfl rfl rfl ?_
  refine oe_aload_n (pc := 44) d_X3_init_44 rfl ?_
  refine oe_aload_n (pc := 45) d_X3_init_45 rfl ?_
  refine oe_putrf (pc := 46) (x := some 1) d_X3_init_46 fl_X3_28 ock3 (k := 0) (Nat.le_of_ble_eq_true rfl) (by decide) rfl ⟨rfl, fun _ => ⟨rfl, rfl⟩⟩ rfl rfl rfl (Nat.le_of_ble_eq_true rfl) rfl ?_
  refine oEv.re (K2 := ck34) (M2 := cm23) (S2 := []) rfl rfl rfl ?_
  exact oe_vret (pc := 49) d_X3_init_49 rfl
set_option maxRecDepth 20000 in
theorem ct_4 {X : oX} : oMet X 1 J_X10_init [.ref 17] ck36 cm24 none ck40 cm26 := by
  refine oMet_of (L := [some (.ref 17)]) jJ_X10_init.1 rfl (Nat.le_of_ble_eq_true rfl) rfl (Nat.le_of_ble_eq_true rfl) (Nat.le_of_ble_eq_true rfl) ?_
  refine oe_aload_n (pc := 0) d_X10_init_0 rfl ?_
  refine oe_obj (pc := 1) d_X10_init_1 mo_X10_3 (by decide) (Nat.le_of_ble_eq_true rfl) ?_
  refine oe_aload_n (pc := 4) d_X10_init_4 rfl ?_
  refine oe_bipush (pc := 5) (v := 120) d_X10_init_5 rfl ?_
  refine oe_newaB (pc := 7) (N := 120) d_X10_init_7 (by decide) rfl (Nat.le_of_ble_eq_true rfl) (Nat.le_of_ble_eq_true rfl) (Nat.le_of_ble_eq_true rfl) (Nat.le_of_ble_eq_true rfl) ?_
  refine oEv.re (K2 := ck37) (M2 := cm25) (S2 := [.ref 18, .ref 17]) rfl rfl rfl ?_
  refine oe_putrf (pc := 9) (x := some 18) d_X10_init_9 fl_X10_11 ock10 (k := 0) (Nat.le_of_ble_eq_true rfl) (by decide) rfl ⟨rfl, fun _ => ⟨rfl, rfl⟩⟩ rfl rfl rfl (Nat.le_of_ble_eq_true rfl) rfl ?_
  refine oEv.re (K2 := ck38) (M2 := cm25) (S2 := []) rfl rfl rfl ?_
  refine oe_aload_n (pc := 12) d_X10_init_12 rfl ?_
  refine oe_bipush (pc := 13) (v := 13) d_X10_init_13 rfl ?_
  refine oe_newaI (pc := 15) (N := 13) d_X10_init_15 (by decide) rfl (Nat.le_of_ble_eq_true rfl) (Nat.le_of_ble_eq_true rfl) (Nat.le_of_ble_eq_true rfl) (Nat.le_of_ble_eq_true rfl) ?_
  refine oEv.re (K2 := ck39) (M2 := cm26) (S2 := [.ref 19, .ref 17]) rfl rfl rfl ?_
  refine oe_putrf (pc := 17) (x := some 19) d_X10_init_17 fl_X10_17 ock10 (k := 1) (Nat.le_of_ble_eq_true rfl) (by decide) rfl ⟨rfl, fun _ => ⟨rfl, rfl⟩⟩ rfl rfl rfl (Nat.le_of_ble_eq_true rfl) rfl ?_
  refine oEv.re (K2 := ck40) (M2 := cm26) (S2 := []) rfl rfl rfl ?_
  exact oe_vret (pc := 20) d_X10_init_20 rfl
set_option maxRecDepth 20000 in
theorem ct_5 {X : oX} : oMet X 1 J_X2_init [.ref 21, .ref 6, .ref 11] ck44 cm28 none ck58 cm34 := by
  refine oMet_of (L := [some (.ref 21), some (.ref 6), some (.ref 11)]) jJ_X2_init.1 rfl (Nat.le_of_ble_eq_true rfl) rfl (Nat.le_of_ble_eq_true rfl) (Nat.le_of_ble_eq_true rfl) ?_
  refine oe_aload_n (pc := 0) d_X2_init_0 rfl ?_
  refine oe_obj (pc := 1) d_X2_init_1 mo_X2_3 (by decide) (Nat.le_of_ble_eq_true rfl) ?_
  refine oe_aload_n (pc := 4) d_X2_init_4 rfl ?_
  refine oe_bipush (pc := 5) (v := 25) d_X2_init_5 rfl ?_
  refine oe_newaI (pc := 7) (N := 25) d_X2_init_7 (by decide) rfl (Nat.le_of_ble_eq_true rfl) (Nat.le_of_ble_eq_true rfl) (Nat.le_of_ble_eq_true rfl) (Nat.le_of_ble_eq_true rfl) ?_
  refine oEv.re (K2 := ck45) (M2 := cm29) (S2 := [.ref 22, .ref 21]) rfl rfl rfl ?_
  refine oe_putrf (pc := 9) (x := some 22) d_X2_init_9 fl_X2_11 ock2 (k := 2) (Nat.le_of_ble_eq_true rfl) (by decide) rfl ⟨rfl, fun _ => ⟨rfl, rfl⟩⟩ rfl rfl rfl (Nat.le_of_ble_eq_true rfl) rfl ?_
  refine oEv.re (K2 := ck46) (M2 := cm29) (S2 := []) rfl rfl rfl ?_
  refine oe_aload_n (pc := 12) d_X2_init_12 rfl ?_
  refine oe_bipush (pc := 13) (v := 25) d_X2_init_13 rfl ?_
  refine oe_newaI (pc := 15) (N := 25) d_X2_init_15 (by decide) rfl (Nat.le_of_ble_eq_true rfl) (Nat.le_of_ble_eq_true rfl) (Nat.le_of_ble_eq_true rfl) (Nat.le_of_ble_eq_true rfl) ?_
  refine oEv.re (K2 := ck47) (M2 := cm30) (S2 := [.ref 23, .ref 21]) rfl rfl rfl ?_
  refine oe_putrf (pc := 17) (x := some 23) d_X2_init_17 fl_X2_15 ock2 (k := 3) (Nat.le_of_ble_eq_true rfl) (by decide) rfl ⟨rfl, fun _ => ⟨rfl, rfl⟩⟩ rfl rfl rfl (Nat.le_of_ble_eq_true rfl) rfl ?_
  refine oEv.re (K2 := ck48) (M2 := cm30) (S2 := []) rfl rfl rfl ?_
  refine oe_aload_n (pc := 20) d_X2_init_20 rfl ?_
  refine oe_bipush (pc := 21) (v := 25) d_X2_init_21 rfl ?_
  refine oe_newaI (pc := 23) (N := 25) d_X2_init_23 (by decide) rfl (Nat.le_of_ble_eq_true rfl) (Nat.le_of_ble_eq_true rfl) (Nat.le_of_ble_eq_true rfl) (Nat.le_of_ble_eq_true rfl) ?_
  refine oEv.re (K2 := ck49) (M2 := cm31) (S2 := [.ref 24, .ref 21]) rfl rfl rfl ?_
  refine oe_putrf (pc := 25) (x := some 24) d_X2_init_25 fl_X2_18 ock2 (k := 4) (Nat.le_of_ble_eq_true rfl) (by decide) rfl ⟨rfl, fun _ => ⟨rfl, rfl⟩⟩ rfl rfl rfl (Nat.le_of_ble_eq_true rfl) rfl ?_
  refine oEv.re (K2 := ck50) (M2 := cm31) (S2 := []) rfl rfl rfl ?_
  refine oe_aload_n (pc := 28) d_X2_init_28 rfl ?_
  refine oe_bipush (pc := 29) (v := 25) d_X2_init_29 rfl ?_
  refine oe_newaI (pc := 31) (N := 25) d_X2_init_31 (by decide) rfl (Nat.le_of_ble_eq_true rfl) (Nat.le_of_ble_eq_true rfl) (Nat.le_of_ble_eq_true rfl) (Nat.le_of_ble_eq_true rfl) ?_
  refine oEv.re (K2 := ck51) (M2 := cm32) (S2 := [.ref 25, .ref 21]) rfl rfl rfl ?_
  refine oe_putrf (pc := 33) (x := some 25) d_X2_init_33 fl_X2_21 ock2 (k := 5) (Nat.le_of_ble_eq_true rfl) (by decide) rfl ⟨rfl, fun _ => ⟨rfl, rfl⟩⟩ rfl rfl rfl (Nat.le_of_ble_eq_true rfl) rfl ?_
  refine oEv.re (K2 := ck52) (M2 := cm32) (S2 := []) rfl rfl rfl ?_
  refine oe_aload_n (pc := 36) d_X2_init_36 rfl ?_
  refine oe_bipush (pc := 37) (v := 25) d_X2_init_37 rfl ?_
  refine oe_newaI (pc := 39) (N := 25) d_X2_init_39 (by decide) rfl (Nat.le_of_ble_eq_true rfl) (Nat.le_of_ble_eq_true rfl) (Nat.le_of_ble_eq_true rfl) (Nat.le_of_ble_eq_true rfl) ?_
  refine oEv.re (K2 := ck53) (M2 := cm33) (S2 := [.ref 26, .ref 21]) rfl rfl rfl ?_
  refine oe_putrf (pc := 41) (x := some 26) d_X2_init_41 fl_X2_24 ock2 (k := 6) (Nat.le_of_ble_eq_true rfl) (by decide) rfl ⟨rfl, fun _ => ⟨rfl, rfl⟩⟩ rfl rfl rfl (Nat.le_of_ble_eq_true rfl) rfl ?_
  refine oEv.re (K2 := ck54) (M2 := cm33) (S2 := []) rfl rfl rfl ?_
  refine oe_aload_n (pc := 44) d_X2_init_44 rfl ?_
  refine oe_bipush (pc := 45) (v := 25) d_X2_init_45 rfl ?_
  refine oe_newaI (pc := 47) (N := 25) d_X2_init_47 (by decide) rfl (Nat.le_of_ble_eq_true rfl) (Nat.le_of_ble_eq_true rfl) (Nat.le_of_ble_eq_true rfl) (Nat.le_of_ble_eq_true rfl) ?_
  refine oEv.re (K2 := ck55) (M2 := cm34) (S2 := [.ref 27, .ref 21]) rfl rfl rfl ?_
  refine oe_putrf (pc := 49) (x := some 27) d_X2_init_49 fl_X2_27 ock2 (k := 7) (Nat.le_of_ble_eq_true rfl) (by decide) rfl ⟨rfl, fun _ => ⟨rfl, rfl⟩⟩ rfl rfl rfl (Nat.le_of_ble_eq_true rfl) rfl ?_
  refine oEv.re (K2 := ck56) (M2 := cm34) (S2 := []) rfl rfl rfl ?_
  refine oe_aload_n (pc := 52) d_X2_init_52 rfl ?_
  refine oe_aload_n (pc := 53) d_X2_init_53 rfl ?_
  refine oe_putrf (pc := 54) (x := some 6) d_X2_init_54 fl_X2_30 ock2 (k := 0) (Nat.le_of_ble_eq_true rfl) (by decide) rfl ⟨rfl, fun _ => ⟨rfl, rfl⟩⟩ rfl rfl rfl (Nat.le_of_ble_eq_true rfl) rfl ?_
  refine oEv.re (K2 := ck57) (M2 := cm34) (S2 := []) rfl rfl rfl ?_
  refine oe_aload_n (pc := 57) d_X2_init_57 rfl ?_
  refine oe_aload_n (pc := 58) d_X2_init_58 rfl ?_
  refine oe_putrf (pc := 59) (x := some 11) d_X2_init_59 fl_X2_34 ock2 (k := 1) (Nat.le_of_ble_eq_true rfl) (by decide) rfl ⟨rfl, fun _ => ⟨rfl, rfl⟩⟩ rfl rfl rfl (Nat.le_of_ble_eq_true rfl) rfl ?_
  refine oEv.re (K2 := ck58) (M2 := cm34) (S2 := []) rfl rfl rfl ?_
  exact oe_vret (pc := 62) d_X2_init_62 rfl
set_option maxRecDepth 20000 in
theorem ct_6 {X : oX} : oMet X 1 J_X7_init [.ref 28, .ref 6, .ref 11] ck60 cm35 none ck78 cm43 := by
  refine oMet_of (L := [some (.ref 28), some (.ref 6), some (.ref 11)]) jJ_X7_init.1 rfl (Nat.le_of_ble_eq_true rfl) rfl (Nat.le_of_ble_eq_true rfl) (Nat.le_of_ble_eq_true rfl) ?_
  refine oe_aload_n (pc := 0) d_X7_init_0 rfl ?_
  refine oe_obj (pc := 1) d_X7_init_1 mo_X7_3 (by decide) (Nat.le_of_ble_eq_true rfl) ?_
  refine oe_aload_n (pc := 4) d_X7_init_4 rfl ?_
  refine oe_bipush (pc := 5) (v := 6) d_X7_init_5 rfl ?_
  refine oe_newaI (pc := 7) (N := 6) d_X7_init_7 (by decide) rfl (Nat.le_of_ble_eq_true rfl) (Nat.le_of_ble_eq_true rfl) (Nat.le_of_ble_eq_true rfl) (Nat.le_of_ble_eq_true rfl) ?_
  refine oEv.re (K2 := ck61) (M2 := cm36) (S2 := [.ref 29, .ref 28]) rfl rfl rfl ?_
  refine oe_putrf (pc := 9) (x := some 29) d_X7_init_9 fl_X7_11 ock7 (k := 2) (Nat.le_of_ble_eq_true rfl) (by decide) rfl ⟨rfl, fun _ => ⟨rfl, rfl⟩⟩ rfl rfl rfl (Nat.le_of_ble_eq_true rfl) rfl ?_
  refine oEv.re (K2 := ck62) (M2 := cm36) (S2 := []) rfl rfl rfl ?_
  refine oe_aload_n (pc := 12) d_X7_init_12 rfl ?_
  refine oe_bipush (pc := 13) (v := 6) d_X7_init_13 rfl ?_
  refine oe_newaI (pc := 15) (N := 6) d_X7_init_15 (by decide) rfl (Nat.le_of_ble_eq_true rfl) (Nat.le_of_ble_eq_true rfl) (Nat.le_of_ble_eq_true rfl) (Nat.le_of_ble_eq_true rfl) ?_
  refine oEv.re (K2 := ck63) (M2 := cm37) (S2 := [.ref 30, .ref 28]) rfl rfl rfl ?_
  refine oe_putrf (pc := 17) (x := some 30) d_X7_init_17 fl_X7_15 ock7 (k := 3) (Nat.le_of_ble_eq_true rfl) (by decide) rfl ⟨rfl, fun _ => ⟨rfl, rfl⟩⟩ rfl rfl rfl (Nat.le_of_ble_eq_true rfl) rfl ?_
  refine oEv.re (K2 := ck64) (M2 := cm37) (S2 := []) rfl rfl rfl ?_
  refine oe_aload_n (pc := 20) d_X7_init_20 rfl ?_
  refine oe_bipush (pc := 21) (v := 7) d_X7_init_21 rfl ?_
  refine oe_newaZ (pc := 23) (N := 7) d_X7_init_23 (by decide) rfl (Nat.le_of_ble_eq_true rfl) (Nat.le_of_ble_eq_true rfl) (Nat.le_of_ble_eq_true rfl) (Nat.le_of_ble_eq_true rfl) ?_
  refine oEv.re (K2 := ck65) (M2 := cm38) (S2 := [.ref 31, .ref 28]) rfl rfl rfl ?_
  refine oe_putrf (pc := 25) (x := some 31) d_X7_init_25 fl_X7_18 ock7 (k := 4) (Nat.le_of_ble_eq_true rfl) (by decide) rfl ⟨rfl, fun _ => ⟨rfl, rfl⟩⟩ rfl rfl rfl (Nat.le_of_ble_eq_true rfl) rfl ?_
  refine oEv.re (K2 := ck66) (M2 := cm38) (S2 := []) rfl rfl rfl ?_
  refine oe_aload_n (pc := 28) d_X7_init_28 rfl ?_
  refine oe_iconst (pc := 29) (v := 4) d_X7_init_29 rfl ?_
  refine oe_newaI (pc := 30) (N := 4) d_X7_init_30 (by decide) rfl (Nat.le_of_ble_eq_true rfl) (Nat.le_of_ble_eq_true rfl) (Nat.le_of_ble_eq_true rfl) (Nat.le_of_ble_eq_true rfl) ?_
  refine oEv.re (K2 := ck67) (M2 := cm39) (S2 := [.ref 32, .ref 28]) rfl rfl rfl ?_
  refine oe_putrf (pc := 32) (x := some 32) d_X7_init_32 fl_X7_22 ock7 (k := 5) (Nat.le_of_ble_eq_true rfl) (by decide) rfl ⟨rfl, fun _ => ⟨rfl, rfl⟩⟩ rfl rfl rfl (Nat.le_of_ble_eq_true rfl) rfl ?_
  refine oEv.re (K2 := ck68) (M2 := cm39) (S2 := []) rfl rfl rfl ?_
  refine oe_aload_n (pc := 35) d_X7_init_35 rfl ?_
  refine oe_iconst (pc := 36) (v := 4) d_X7_init_36 rfl ?_
  refine oe_newaI (pc := 37) (N := 4) d_X7_init_37 (by decide) rfl (Nat.le_of_ble_eq_true rfl) (Nat.le_of_ble_eq_true rfl) (Nat.le_of_ble_eq_true rfl) (Nat.le_of_ble_eq_true rfl) ?_
  refine oEv.re (K2 := ck69) (M2 := cm40) (S2 := [.ref 33, .ref 28]) rfl rfl rfl ?_
  refine oe_putrf (pc := 39) (x := some 33) d_X7_init_39 fl_X7_25 ock7 (k := 6) (Nat.le_of_ble_eq_true rfl) (by decide) rfl ⟨rfl, fun _ => ⟨rfl, rfl⟩⟩ rfl rfl rfl (Nat.le_of_ble_eq_true rfl) rfl ?_
  refine oEv.re (K2 := ck70) (M2 := cm40) (S2 := []) rfl rfl rfl ?_
  refine oe_aload_n (pc := 42) d_X7_init_42 rfl ?_
  refine oe_bipush (pc := 43) (v := 36) d_X7_init_43 rfl ?_
  refine oe_newaI (pc := 45) (N := 36) d_X7_init_45 (by decide) rfl (Nat.le_of_ble_eq_true rfl) (Nat.le_of_ble_eq_true rfl) (Nat.le_of_ble_eq_true rfl) (Nat.le_of_ble_eq_true rfl) ?_
  refine oEv.re (K2 := ck71) (M2 := cm41) (S2 := [.ref 34, .ref 28]) rfl rfl rfl ?_
  refine oe_putrf (pc := 47) (x := some 34) d_X7_init_47 fl_X7_28 ock7 (k := 7) (Nat.le_of_ble_eq_true rfl) (by decide) rfl ⟨rfl, fun _ => ⟨rfl, rfl⟩⟩ rfl rfl rfl (Nat.le_of_ble_eq_true rfl) rfl ?_
  refine oEv.re (K2 := ck72) (M2 := cm41) (S2 := []) rfl rfl rfl ?_
  refine oe_aload_n (pc := 50) d_X7_init_50 rfl ?_
  refine oe_bipush (pc := 51) (v := 7) d_X7_init_51 rfl ?_
  refine oe_newaI (pc := 53) (N := 7) d_X7_init_53 (by decide) rfl (Nat.le_of_ble_eq_true rfl) (Nat.le_of_ble_eq_true rfl) (Nat.le_of_ble_eq_true rfl) (Nat.le_of_ble_eq_true rfl) ?_
  refine oEv.re (K2 := ck73) (M2 := cm42) (S2 := [.ref 35, .ref 28]) rfl rfl rfl ?_
  refine oe_putrf (pc := 55) (x := some 35) d_X7_init_55 fl_X7_31 ock7 (k := 8) (Nat.le_of_ble_eq_true rfl) (by decide) rfl ⟨rfl, fun _ => ⟨rfl, rfl⟩⟩ rfl rfl rfl (Nat.le_of_ble_eq_true rfl) rfl ?_
  refine oEv.re (K2 := ck74) (M2 := cm42) (S2 := []) rfl rfl rfl ?_
  refine oe_aload_n (pc := 58) d_X7_init_58 rfl ?_
  refine oe_iconst (pc := 59) (v := 3) d_X7_init_59 rfl ?_
  refine oe_newaI (pc := 60) (N := 3) d_X7_init_60 (by decide) rfl (Nat.le_of_ble_eq_true rfl) (Nat.le_of_ble_eq_true rfl) (Nat.le_of_ble_eq_true rfl) (Nat.le_of_ble_eq_true rfl) ?_
  refine oEv.re (K2 := ck75) (M2 := cm43) (S2 := [.ref 36, .ref 28]) rfl rfl rfl ?_
  refine oe_putrf (pc := 62) (x := some 36) d_X7_init_62 fl_X7_34 ock7 (k := 9) (Nat.le_of_ble_eq_true rfl) (by decide) rfl ⟨rfl, fun _ => ⟨rfl, rfl⟩⟩ rfl rfl rfl (Nat.le_of_ble_eq_true rfl) rfl ?_
  refine oEv.re (K2 := ck76) (M2 := cm43) (S2 := []) rfl rfl rfl ?_
  refine oe_aload_n (pc := 65) d_X7_init_65 rfl ?_
  refine oe_aload_n (pc := 66) d_X7_init_66 rfl ?_
  refine oe_putrf (pc := 67) (x := some 6) d_X7_init_67 fl_X7_37 ock7 (k := 0) (Nat.le_of_ble_eq_true rfl) (by decide) rfl ⟨rfl, fun _ => ⟨rfl, rfl⟩⟩ rfl rfl rfl (Nat.le_of_ble_eq_true rfl) rfl ?_
  refine oEv.re (K2 := ck77) (M2 := cm43) (S2 := []) rfl rfl rfl ?_
  refine oe_aload_n (pc := 70) d_X7_init_70 rfl ?_
  refine oe_aload_n (pc := 71) d_X7_init_71 rfl ?_
  refine oe_putrf (pc := 72) (x := some 11) d_X7_init_72 fl_X7_41 ock7 (k := 1) (Nat.le_of_ble_eq_true rfl) (by decide) rfl ⟨rfl, fun _ => ⟨rfl, rfl⟩⟩ rfl rfl rfl (Nat.le_of_ble_eq_true rfl) rfl ?_
  refine oEv.re (K2 := ck78) (M2 := cm43) (S2 := []) rfl rfl rfl ?_
  exact oe_vret (pc := 75) d_X7_init_75 rfl
set_option maxRecDepth 20000 in
theorem ct_7 {X : oX} : oMet X 1 J_X5_init [.ref 37] ck80 cm44 none ck84 cm46 := by
  refine oMet_of (L := [some (.ref 37)]) jJ_X5_init.1 rfl (Nat.le_of_ble_eq_true rfl) rfl (Nat.le_of_ble_eq_true rfl) (Nat.le_of_ble_eq_true rfl) ?_
  refine oe_aload_n (pc := 0) d_X5_init_0 rfl ?_
  refine oe_obj (pc := 1) d_X5_init_1 mo_X5_3 (by decide) (Nat.le_of_ble_eq_true rfl) ?_
  refine oe_aload_n (pc := 4) d_X5_init_4 rfl ?_
  refine oe_bipush (pc := 5) (v := 8) d_X5_init_5 rfl ?_
  refine oe_newaI (pc := 7) (N := 8) d_X5_init_7 (by decide) rfl (Nat.le_of_ble_eq_true rfl) (Nat.le_of_ble_eq_true rfl) (Nat.le_of_ble_eq_true rfl) (Nat.le_of_ble_eq_true rfl) ?_
  refine oEv.re (K2 := ck81) (M2 := cm45) (S2 := [.ref 38, .ref 37]) rfl rfl rfl ?_
  refine oe_putrf (pc := 9) (x := some 38) d_X5_init_9 fl_X5_11 ock5 (k := 0) (Nat.le_of_ble_eq_true rfl) (by decide) rfl ⟨rfl, fun _ => ⟨rfl, rfl⟩⟩ rfl rfl rfl (Nat.le_of_ble_eq_true rfl) rfl ?_
  refine oEv.re (K2 := ck82) (M2 := cm45) (S2 := []) rfl rfl rfl ?_
  refine oe_aload_n (pc := 12) d_X5_init_12 rfl ?_
  refine oe_iconst (pc := 13) (v := 4) d_X5_init_13 rfl ?_
  refine oe_newaI (pc := 14) (N := 4) d_X5_init_14 (by decide) rfl (Nat.le_of_ble_eq_true rfl) (Nat.le_of_ble_eq_true rfl) (Nat.le_of_ble_eq_true rfl) (Nat.le_of_ble_eq_true rfl) ?_
  refine oEv.re (K2 := ck83) (M2 := cm46) (S2 := [.ref 39, .ref 37]) rfl rfl rfl ?_
  refine oe_putrf (pc := 16) (x := some 39) d_X5_init_16 fl_X5_15 ock5 (k := 1) (Nat.le_of_ble_eq_true rfl) (by decide) rfl ⟨rfl, fun _ => ⟨rfl, rfl⟩⟩ rfl rfl rfl (Nat.le_of_ble_eq_true rfl) rfl ?_
  refine oEv.re (K2 := ck84) (M2 := cm46) (S2 := []) rfl rfl rfl ?_
  exact oe_vret (pc := 19) d_X5_init_19 rfl
set_option maxRecDepth 20000 in
theorem ct_8 {X : oX} : oMet X 1 J_X1_init [.ref 40] ck86 cm47 none ck92 cm50 := by
  refine oMet_of (L := [some (.ref 40)]) jJ_X1_init.1 rfl (Nat.le_of_ble_eq_true rfl) rfl (Nat.le_of_ble_eq_true rfl) (Nat.le_of_ble_eq_true rfl) ?_
  refine oe_aload_n (pc := 0) d_X1_init_0 rfl ?_
  refine oe_obj (pc := 1) d_X1_init_1 mo_X1_3 (by decide) (Nat.le_of_ble_eq_true rfl) ?_
  refine oe_aload_n (pc := 4) d_X1_init_4 rfl ?_
  refine oe_bipush (pc := 5) (v := 9) d_X1_init_5 rfl ?_
  refine oe_newaI (pc := 7) (N := 9) d_X1_init_7 (by decide) rfl (Nat.le_of_ble_eq_true rfl) (Nat.le_of_ble_eq_true rfl) (Nat.le_of_ble_eq_true rfl) (Nat.le_of_ble_eq_true rfl) ?_
  refine oEv.re (K2 := ck87) (M2 := cm48) (S2 := [.ref 41, .ref 40]) rfl rfl rfl ?_
  refine oe_putrf (pc := 9) (x := some 41) d_X1_init_9 fl_X1_11 ock1 (k := 0) (Nat.le_of_ble_eq_true rfl) (by decide) rfl ⟨rfl, fun _ => ⟨rfl, rfl⟩⟩ rfl rfl rfl (Nat.le_of_ble_eq_true rfl) rfl ?_
  refine oEv.re (K2 := ck88) (M2 := cm48) (S2 := []) rfl rfl rfl ?_
  refine oe_aload_n (pc := 12) d_X1_init_12 rfl ?_
  refine oe_bipush (pc := 13) (v := 9) d_X1_init_13 rfl ?_
  refine oe_newaI (pc := 15) (N := 9) d_X1_init_15 (by decide) rfl (Nat.le_of_ble_eq_true rfl) (Nat.le_of_ble_eq_true rfl) (Nat.le_of_ble_eq_true rfl) (Nat.le_of_ble_eq_true rfl) ?_
  refine oEv.re (K2 := ck89) (M2 := cm49) (S2 := [.ref 42, .ref 40]) rfl rfl rfl ?_
  refine oe_putrf (pc := 17) (x := some 42) d_X1_init_17 fl_X1_15 ock1 (k := 1) (Nat.le_of_ble_eq_true rfl) (by decide) rfl ⟨rfl, fun _ => ⟨rfl, rfl⟩⟩ rfl rfl rfl (Nat.le_of_ble_eq_true rfl) rfl ?_
  refine oEv.re (K2 := ck90) (M2 := cm49) (S2 := []) rfl rfl rfl ?_
  refine oe_aload_n (pc := 20) d_X1_init_20 rfl ?_
  refine oe_bipush (pc := 21) (v := 9) d_X1_init_21 rfl ?_
  refine oe_newaI (pc := 23) (N := 9) d_X1_init_23 (by decide) rfl (Nat.le_of_ble_eq_true rfl) (Nat.le_of_ble_eq_true rfl) (Nat.le_of_ble_eq_true rfl) (Nat.le_of_ble_eq_true rfl) ?_
  refine oEv.re (K2 := ck91) (M2 := cm50) (S2 := [.ref 43, .ref 40]) rfl rfl rfl ?_
  refine oe_putrf (pc := 25) (x := some 43) d_X1_init_25 fl_X1_18 ock1 (k := 2) (Nat.le_of_ble_eq_true rfl) (by decide) rfl ⟨rfl, fun _ => ⟨rfl, rfl⟩⟩ rfl rfl rfl (Nat.le_of_ble_eq_true rfl) rfl ?_
  refine oEv.re (K2 := ck92) (M2 := cm50) (S2 := []) rfl rfl rfl ?_
  exact oe_vret (pc := 28) d_X1_init_28 rfl
set_option maxRecDepth 20000 in
theorem ct_9 {X : oX} : oMet X 1 J_X0_init [.ref 44] ck94 cm51 none ck96 cm52 := by
  refine oMet_of (L := [some (.ref 44)]) jJ_X0_init.1 rfl (Nat.le_of_ble_eq_true rfl) rfl (Nat.le_of_ble_eq_true rfl) (Nat.le_of_ble_eq_true rfl) ?_
  refine oe_aload_n (pc := 0) d_X0_init_0 rfl ?_
  refine oe_obj (pc := 1) d_X0_init_1 mo_X0_3 (by decide) (Nat.le_of_ble_eq_true rfl) ?_
  refine oe_aload_n (pc := 4) d_X0_init_4 rfl ?_
  refine oe_bipush (pc := 5) (v := 24) d_X0_init_5 rfl ?_
  refine oe_newaI (pc := 7) (N := 24) d_X0_init_7 (by decide) rfl (Nat.le_of_ble_eq_true rfl) (Nat.le_of_ble_eq_true rfl) (Nat.le_of_ble_eq_true rfl) (Nat.le_of_ble_eq_true rfl) ?_
  refine oEv.re (K2 := ck95) (M2 := cm52) (S2 := [.ref 45, .ref 44]) rfl rfl rfl ?_
  refine oe_putrf (pc := 9) (x := some 45) d_X0_init_9 fl_X0_11 ock0 (k := 0) (Nat.le_of_ble_eq_true rfl) (by decide) rfl ⟨rfl, fun _ => ⟨rfl, rfl⟩⟩ rfl rfl rfl (Nat.le_of_ble_eq_true rfl) rfl ?_
  refine oEv.re (K2 := ck96) (M2 := cm52) (S2 := []) rfl rfl rfl ?_
  exact oe_vret (pc := 12) d_X0_init_12 rfl
set_option maxRecDepth 20000 in
theorem ct_10 {X : oX} : oMet X 1 J_X9_init [.ref 47] ck100 cm54 none ck102 cm55 := by
  refine oMet_of (L := [some (.ref 47)]) jJ_X9_init.1 rfl (Nat.le_of_ble_eq_true rfl) rfl (Nat.le_of_ble_eq_true rfl) (Nat.le_of_ble_eq_true rfl) ?_
  refine oe_aload_n (pc := 0) d_X9_init_0 rfl ?_
  refine oe_obj (pc := 1) d_X9_init_1 mo_X9_3 (by decide) (Nat.le_of_ble_eq_true rfl) ?_
  refine oe_aload_n (pc := 4) d_X9_init_4 rfl ?_
  refine oe_bipush (pc := 5) (v := 60) d_X9_init_5 rfl ?_
  refine oe_newaL (pc := 7) (N := 60) d_X9_init_7 (by decide) rfl (Nat.le_of_ble_eq_true rfl) (Nat.le_of_ble_eq_true rfl) (Nat.le_of_ble_eq_true rfl) (Nat.le_of_ble_eq_true rfl) ?_
  refine oEv.re (K2 := ck101) (M2 := cm55) (S2 := [.ref 48, .ref 47]) rfl rfl rfl ?_
  refine oe_putrf (pc := 9) (x := some 48) d_X9_init_9 fl_X9_9 ock9 (k := 0) (Nat.le_of_ble_eq_true rfl) (by decide) rfl ⟨rfl, fun _ => ⟨rfl, rfl⟩⟩ rfl rfl rfl (Nat.le_of_ble_eq_true rfl) rfl ?_
  refine oEv.re (K2 := ck102) (M2 := cm55) (S2 := []) rfl rfl rfl ?_
  exact oe_vret (pc := 12) d_X9_init_12 rfl
set_option maxRecDepth 20000 in
theorem ct_11 {X : oX} : oMet X 1 J_X9_init [.ref 49] ck104 cm56 none ck106 cm57 := by
  refine oMet_of (L := [some (.ref 49)]) jJ_X9_init.1 rfl (Nat.le_of_ble_eq_true rfl) rfl (Nat.le_of_ble_eq_true rfl) (Nat.le_of_ble_eq_true rfl) ?_
  refine oe_aload_n (pc := 0) d_X9_init_0 rfl ?_
  refine oe_obj (pc := 1) d_X9_init_1 mo_X9_3 (by decide) (Nat.le_of_ble_eq_true rfl) ?_
  refine oe_aload_n (pc := 4) d_X9_init_4 rfl ?_
  refine oe_bipush (pc := 5) (v := 60) d_X9_init_5 rfl ?_
  refine oe_newaL (pc := 7) (N := 60) d_X9_init_7 (by decide) rfl (Nat.le_of_ble_eq_true rfl) (Nat.le_of_ble_eq_true rfl) (Nat.le_of_ble_eq_true rfl) (Nat.le_of_ble_eq_true rfl) ?_
  refine oEv.re (K2 := ck105) (M2 := cm57) (S2 := [.ref 50, .ref 49]) rfl rfl rfl ?_
  refine oe_putrf (pc := 9) (x := some 50) d_X9_init_9 fl_X9_9 ock9 (k := 0) (Nat.le_of_ble_eq_true rfl) (by decide) rfl ⟨rfl, fun _ => ⟨rfl, rfl⟩⟩ rfl rfl rfl (Nat.le_of_ble_eq_true rfl) rfl ?_
  refine oEv.re (K2 := ck106) (M2 := cm57) (S2 := []) rfl rfl rfl ?_
  exact oe_vret (pc := 12) d_X9_init_12 rfl
set_option maxRecDepth 20000 in
theorem ct_12 {X : oX} : oMet X 1 J_X9_init [.ref 51] ck108 cm58 none ck110 cm59 := by
  refine oMet_of (L := [some (.ref 51)]) jJ_X9_init.1 rfl (Nat.le_of_ble_eq_true rfl) rfl (Nat.le_of_ble_eq_true rfl) (Nat.le_of_ble_eq_true rfl) ?_
  refine oe_aload_n (pc := 0) d_X9_init_0 rfl ?_
  refine oe_obj (pc := 1) d_X9_init_1 mo_X9_3 (by decide) (Nat.le_of_ble_eq_true rfl) ?_
  refine oe_aload_n (pc := 4) d_X9_init_4 rfl ?_
  refine oe_bipush (pc := 5) (v := 60) d_X9_init_5 rfl ?_
  refine oe_newaL (pc := 7) (N := 60) d_X9_init_7 (by decide) rfl (Nat.le_of_ble_eq_true rfl) (Nat.le_of_ble_eq_true rfl) (Nat.le_of_ble_eq_true rfl) (Nat.le_of_ble_eq_true rfl) ?_
  refine oEv.re (K2 := ck109) (M2 := cm59) (S2 := [.ref 52, .ref 51]) rfl rfl rfl ?_
  refine oe_putrf (pc := 9) (x := some 52) d_X9_init_9 fl_X9_9 ock9 (k := 0) (Nat.le_of_ble_eq_true rfl) (by decide) rfl ⟨rfl, fun _ => ⟨rfl, rfl⟩⟩ rfl rfl rfl (Nat.le_of_ble_eq_true rfl) rfl ?_
  refine oEv.re (K2 := ck110) (M2 := cm59) (S2 := []) rfl rfl rfl ?_
  exact oe_vret (pc := 12) d_X9_init_12 rfl
set_option maxRecDepth 20000 in
theorem ct_13 {X : oX} : oMet X 1 J_X9_init [.ref 53] ck112 cm60 none ck114 cm61 := by
  refine oMet_of (L := [some (.ref 53)]) jJ_X9_init.1 rfl (Nat.le_of_ble_eq_true rfl) rfl (Nat.le_of_ble_eq_true rfl) (Nat.le_of_ble_eq_true rfl) ?_
  refine oe_aload_n (pc := 0) d_X9_init_0 rfl ?_
  refine oe_obj (pc := 1) d_X9_init_1 mo_X9_3 (by decide) (Nat.le_of_ble_eq_true rfl) ?_
  refine oe_aload_n (pc := 4) d_X9_init_4 rfl ?_
  refine oe_bipush (pc := 5) (v := 60) d_X9_init_5 rfl ?_
  refine oe_newaL (pc := 7) (N := 60) d_X9_init_7 (by decide) rfl (Nat.le_of_ble_eq_true rfl) (Nat.le_of_ble_eq_true rfl) (Nat.le_of_ble_eq_true rfl) (Nat.le_of_ble_eq_true rfl) ?_
  refine oEv.re (K2 := ck113) (M2 := cm61) (S2 := [.ref 54, .ref 53]) rfl rfl rfl ?_
  refine oe_putrf (pc := 9) (x := some 54) d_X9_init_9 fl_X9_9 ock9 (k := 0) (Nat.le_of_ble_eq_true rfl) (by decide) rfl ⟨rfl, fun _ => ⟨rfl, rfl⟩⟩ rfl rfl rfl (Nat.le_of_ble_eq_true rfl) rfl ?_
  refine oEv.re (K2 := ck114) (M2 := cm61) (S2 := []) rfl rfl rfl ?_
  exact oe_vret (pc := 12) d_X9_init_12 rfl
set_option maxRecDepth 20000 in
theorem ct_14 {X : oX} : oMet X 1 J_X9_init [.ref 55] ck116 cm62 none ck118 cm63 := by
  refine oMet_of (L := [some (.ref 55)]) jJ_X9_init.1 rfl (Nat.le_of_ble_eq_true rfl) rfl (Nat.le_of_ble_eq_true rfl) (Nat.le_of_ble_eq_true rfl) ?_
  refine oe_aload_n (pc := 0) d_X9_init_0 rfl ?_
  refine oe_obj (pc := 1) d_X9_init_1 mo_X9_3 (by decide) (Nat.le_of_ble_eq_true rfl) ?_
  refine oe_aload_n (pc := 4) d_X9_init_4 rfl ?_
  refine oe_bipush (pc := 5) (v := 60) d_X9_init_5 rfl ?_
  refine oe_newaL (pc := 7) (N := 60) d_X9_init_7 (by decide) rfl (Nat.le_of_ble_eq_true rfl) (Nat.le_of_ble_eq_true rfl) (Nat.le_of_ble_eq_true rfl) (Nat.le_of_ble_eq_true rfl) ?_
  refine oEv.re (K2 := ck117) (M2 := cm63) (S2 := [.ref 56, .ref 55]) rfl rfl rfl ?_
  refine oe_putrf (pc := 9) (x := some 56) d_X9_init_9 fl_X9_9 ock9 (k := 0) (Nat.le_of_ble_eq_true rfl) (by decide) rfl ⟨rfl, fun _ => ⟨rfl, rfl⟩⟩ rfl rfl rfl (Nat.le_of_ble_eq_true rfl) rfl ?_
  refine oEv.re (K2 := ck118) (M2 := cm63) (S2 := []) rfl rfl rfl ?_
  exact oe_vret (pc := 12) d_X9_init_12 rfl
set_option maxRecDepth 20000 in
theorem ct_15 {X : oX} : oMet X 1 J_X9_init [.ref 57] ck120 cm64 none ck122 cm65 := by
  refine oMet_of (L := [some (.ref 57)]) jJ_X9_init.1 rfl (Nat.le_of_ble_eq_true rfl) rfl (Nat.le_of_ble_eq_true rfl) (Nat.le_of_ble_eq_true rfl) ?_
  refine oe_aload_n (pc := 0) d_X9_init_0 rfl ?_
  refine oe_obj (pc := 1) d_X9_init_1 mo_X9_3 (by decide) (Nat.le_of_ble_eq_true rfl) ?_
  refine oe_aload_n (pc := 4) d_X9_init_4 rfl ?_
  refine oe_bipush (pc := 5) (v := 60) d_X9_init_5 rfl ?_
  refine oe_newaL (pc := 7) (N := 60) d_X9_init_7 (by decide) rfl (Nat.le_of_ble_eq_true rfl) (Nat.le_of_ble_eq_true rfl) (Nat.le_of_ble_eq_true rfl) (Nat.le_of_ble_eq_true rfl) ?_
  refine oEv.re (K2 := ck121) (M2 := cm65) (S2 := [.ref 58, .ref 57]) rfl rfl rfl ?_
  refine oe_putrf (pc := 9) (x := some 58) d_X9_init_9 fl_X9_9 ock9 (k := 0) (Nat.le_of_ble_eq_true rfl) (by decide) rfl ⟨rfl, fun _ => ⟨rfl, rfl⟩⟩ rfl rfl rfl (Nat.le_of_ble_eq_true rfl) rfl ?_
  refine oEv.re (K2 := ck122) (M2 := cm65) (S2 := []) rfl rfl rfl ?_
  exact oe_vret (pc := 12) d_X9_init_12 rfl
set_option maxRecDepth 20000 in
theorem ct_16 {X : oX} : oMet X 2 J_X11_init [.ref 0] ck1 cm1 none ck123 cm65 := by
  refine oMet_of (L := [some (.ref 0), none]) jJ_X11_init.1 rfl (Nat.le_of_ble_eq_true rfl) rfl (Nat.le_of_ble_eq_true rfl) (Nat.le_of_ble_eq_true rfl) ?_
  refine oe_aload_n (pc := 0) d_X11_init_0 rfl ?_
  refine oe_obj (pc := 1) d_X11_init_1 mo_X11_1 (by decide) (Nat.le_of_ble_eq_true rfl) ?_
  refine oe_aload_n (pc := 4) d_X11_init_4 rfl ?_
  refine oe_new (pc := 5) (ci := 8) d_X11_init_5 cl_X11_7 ock8 oins8 oini8 (by decide) (Nat.le_of_ble_eq_true rfl) (Nat.le_of_ble_eq_true rfl) (Nat.le_of_ble_eq_true rfl) ?_
  refine oEv.re (K2 := ck2) (M2 := cm2) (S2 := [.ref 1, .ref 0]) rfl rfl rfl ?_
  refine oe_dup (pc := 8) d_X11_init_8 rfl ?_
  refine oe_callI (pc := 9) d_X11_init_9 ct_1 (by decide) ml_X11_9 jJ_X8_init rfl rfl (Nat.le_of_ble_eq_true rfl) ⟨(Nat.le_of_ble_eq_true rfl), (Nat.le_of_ble_eq_true rfl)⟩ ⟨(Nat.le_of_ble_eq_true rfl), (Nat.le_of_ble_eq_true rfl)⟩ ?_
  refine oe_putrf (pc := 12) (x := some 1) d_X11_init_12 fl_X11_10 ock11 (k := 0) (Nat.le_of_ble_eq_true rfl) (by decide) rfl ⟨rfl, fun _ => ⟨rfl, rfl⟩⟩ rfl rfl rfl (Nat.le_of_ble_eq_true rfl) rfl ?_
  refine oEv.re (K2 := ck11) (M2 := cm12) (S2 := []) rfl rfl rfl ?_
  refine oe_aload_n (pc := 15) d_X11_init_15 rfl ?_
  refine oe_new (pc := 16) (ci := 4) d_X11_init_16 cl_X11_16 ock4 oins4 oini4 (by decide) (Nat.le_of_ble_eq_true rfl) (Nat.le_of_ble_eq_true rfl) (Nat.le_of_ble_eq_true rfl) ?_
  refine oEv.re (K2 := ck12) (M2 := cm13) (S2 := [.ref 6, .ref 0]) rfl rfl rfl ?_
  refine oe_dup (pc := 19) d_X11_init_19 rfl ?_
  refine oe_aload_n (pc := 20) d_X11_init_20 rfl ?_
  refine oe_getr (pc := 21) d_X11_init_21 fl_X11_10 ock11 (k := 0) (b := 1) (Nat.le_of_ble_eq_true rfl) (by decide) (Nat.le_of_ble_eq_true rfl) rfl rfl ?_
  refine oe_callI (pc := 24) d_X11_init_24 ct_2 (by decide) ml_X11_18 jJ_X4_init rfl rfl (Nat.le_of_ble_eq_true rfl) ⟨(Nat.le_of_ble_eq_true rfl), (Nat.le_of_ble_eq_true rfl)⟩ ⟨(Nat.le_of_ble_eq_true rfl), (Nat.le_of_ble_eq_true rfl)⟩ ?_
  refine oe_putrf (pc := 27) (x := some 6) d_X11_init_27 fl_X11_21 ock11 (k := 1) (Nat.le_of_ble_eq_true rfl) (by decide) rfl ⟨rfl, fun _ => ⟨rfl, rfl⟩⟩ rfl rfl rfl (Nat.le_of_ble_eq_true rfl) rfl ?_
  refine oEv.re (K2 := ck22) (M2 := cm17) (S2 := []) rfl rfl rfl ?_
  refine oe_aload_n (pc := 30) d_X11_init_30 rfl ?_
  refine oe_new (pc := 31) (ci := 3) d_X11_init_31 cl_X11_25 ock3 oins3 oini3 (by decide) (Nat.le_of_ble_eq_true rfl) (Nat.le_of_ble_eq_true rfl) (Nat.le_of_ble_eq_true rfl) ?_
  refine oEv.re (K2 := ck23) (M2 := cm18) (S2 := [.ref 11, .ref 0]) rfl rfl rfl ?_
  refine oe_dup (pc := 34) d_X11_init_34 rfl ?_
  refine oe_aload_n (pc := 35) d_X11_init_35 rfl ?_
  refine oe_getr (pc := 36) d_X11_init_36 fl_X11_10 ock11 (k := 0) (b := 1) (Nat.le_of_ble_eq_true rfl) (by decide) (Nat.le_of_ble_eq_true rfl) rfl rfl ?_
  refine oe_callI (pc := 39) d_X11_init_39 ct_3 (by decide) ml_X11_27 jJ_X3_init rfl rfl (Nat.le_of_ble_eq_true rfl) ⟨(Nat.le_of_ble_eq_true rfl), (Nat.le_of_ble_eq_true rfl)⟩ ⟨(Nat.le_of_ble_eq_true rfl), (Nat.le_of_ble_eq_true rfl)⟩ ?_
  refine oe_putrf (pc := 42) (x := some 11) d_X11_init_42 fl_X11_28 ock11 (k := 2) (Nat.le_of_ble_eq_true rfl) (by decide) rfl ⟨rfl, fun _ => ⟨rfl, rfl⟩⟩ rfl rfl rfl (Nat.le_of_ble_eq_true rfl) rfl ?_
  refine oEv.re (K2 := ck35) (M2 := cm23) (S2 := []) rfl rfl rfl ?_
  refine oe_aload_n (pc := 45) d_X11_init_45 rfl ?_
  refine oe_new (pc := 46) (ci := 10) d_X11_init_46 cl_X11_32 ock10 oins10 oini10 (by decide) (Nat.le_of_ble_eq_true rfl) (Nat.le_of_ble_eq_true rfl) (Nat.le_of_ble_eq_true rfl) ?_
  refine oEv.re (K2 := ck36) (M2 := cm24) (S2 := [.ref 17, .ref 0]) rfl rfl rfl ?_
  refine oe_dup (pc := 49) d_X11_init_49 rfl ?_
  refine oe_callN (pc := 50) d_X11_init_50 ct_4 (by decide) (fun U h => h.1) jJ_X10_init rfl rfl (Nat.le_of_ble_eq_true rfl) ⟨(Nat.le_of_ble_eq_true rfl), (Nat.le_of_ble_eq_true rfl)⟩ ⟨(Nat.le_of_ble_eq_true rfl), (Nat.le_of_ble_eq_true rfl)⟩ ?_
  refine oe_putrf (pc := 53) (x := some 17) d_X11_init_53 fl_X11_35 ock11 (k := 3) (Nat.le_of_ble_eq_true rfl) (by decide) rfl ⟨rfl, fun _ => ⟨rfl, rfl⟩⟩ rfl rfl rfl (Nat.le_of_ble_eq_true rfl) rfl ?_
  refine oEv.re (K2 := ck41) (M2 := cm26) (S2 := []) rfl rfl rfl ?_
  refine oe_aload_n (pc := 56) d_X11_init_56 rfl ?_
  refine oe_bipush (pc := 57) (v := 20) d_X11_init_57 rfl ?_
  refine oe_anew4 (pc := 59) (N := 20) d_X11_init_59 cl_X11_39 (by decide) rfl (Nat.le_of_ble_eq_true rfl) (Nat.le_of_ble_eq_true rfl) (Nat.le_of_ble_eq_true rfl) (Nat.le_of_ble_eq_true rfl) ?_
  refine oEv.re (K2 := ck42) (M2 := cm27) (S2 := [.ref 20, .ref 0]) rfl rfl rfl ?_
  refine oe_putrf (pc := 62) (x := some 20) d_X11_init_62 fl_X11_41 ock11 (k := 4) (Nat.le_of_ble_eq_true rfl) (by decide) rfl ⟨rfl, fun _ => ⟨rfl, rfl⟩⟩ rfl rfl rfl (Nat.le_of_ble_eq_true rfl) rfl ?_
  refine oEv.re (K2 := ck43) (M2 := cm27) (S2 := []) rfl rfl rfl ?_
  refine oe_aload_n (pc := 65) d_X11_init_65 rfl ?_
  refine oe_new (pc := 66) (ci := 2) d_X11_init_66 cl_X11_45 ock2 oins2 oini2 (by decide) (Nat.le_of_ble_eq_true rfl) (Nat.le_of_ble_eq_true rfl) (Nat.le_of_ble_eq_true rfl) ?_
  refine oEv.re (K2 := ck44) (M2 := cm28) (S2 := [.ref 21, .ref 0]) rfl rfl rfl ?_
  refine oe_dup (pc := 69) d_X11_init_69 rfl ?_
  refine oe_aload_n (pc := 70) d_X11_init_70 rfl ?_
  refine oe_getr (pc := 71) d_X11_init_71 fl_X11_21 ock11 (k := 1) (b := 6) (Nat.le_of_ble_eq_true rfl) (by decide) (Nat.le_of_ble_eq_true rfl) rfl rfl ?_
  refine oe_aload_n (pc := 74) d_X11_init_74 rfl ?_
  refine oe_getr (pc := 75) d_X11_init_75 fl_X11_28 ock11 (k := 2) (b := 11) (Nat.le_of_ble_eq_true rfl) (by decide) (Nat.le_of_ble_eq_true rfl) rfl rfl ?_
  refine oe_callI (pc := 78) d_X11_init_78 ct_5 (by decide) ml_X11_47 jJ_X2_init rfl rfl (Nat.le_of_ble_eq_true rfl) ⟨(Nat.le_of_ble_eq_true rfl), (Nat.le_of_ble_eq_true rfl)⟩ ⟨(Nat.le_of_ble_eq_true rfl), (Nat.le_of_ble_eq_true rfl)⟩ ?_
  refine oe_putrf (pc := 81) (x := some 21) d_X11_init_81 fl_X11_50 ock11 (k := 5) (Nat.le_of_ble_eq_true rfl) (by decide) rfl ⟨rfl, fun _ => ⟨rfl, rfl⟩⟩ rfl rfl rfl (Nat.le_of_ble_eq_true rfl) rfl ?_
  refine oEv.re (K2 := ck59) (M2 := cm34) (S2 := []) rfl rfl rfl ?_
  refine oe_aload_n (pc := 84) d_X11_init_84 rfl ?_
  refine oe_new (pc := 85) (ci := 7) d_X11_init_85 cl_X11_54 ock7 oins7 oini7 (by decide) (Nat.le_of_ble_eq_true rfl) (Nat.le_of_ble_eq_true rfl) (Nat.le_of_ble_eq_true rfl) ?_
  refine oEv.re (K2 := ck60) (M2 := cm35) (S2 := [.ref 28, .ref 0]) rfl rfl rfl ?_
  refine oe_dup (pc := 88) d_X11_init_88 rfl ?_
  refine oe_aload_n (pc := 89) d_X11_init_89 rfl ?_
  refine oe_getr (pc := 90) d_X11_init_90 fl_X11_21 ock11 (k := 1) (b := 6) (Nat.le_of_ble_eq_true rfl) (by decide) (Nat.le_of_ble_eq_true rfl) rfl rfl ?_
  refine oe_aload_n (pc := 93) d_X11_init_93 rfl ?_
  refine oe_getr (pc := 94) d_X11_init_94 fl_X11_28 ock11 (k := 2) (b := 11) (Nat.le_of_ble_eq_true rfl) (by decide) (Nat.le_of_ble_eq_true rfl) rfl rfl ?_
  refine oe_callI (pc := 97) d_X11_init_97 ct_6 (by decide) ml_X11_56 jJ_X7_init rfl rfl (Nat.le_of_ble_eq_true rfl) ⟨(Nat.le_of_ble_eq_true rfl), (Nat.le_of_ble_eq_true rfl)⟩ ⟨(Nat.le_of_ble_eq_true rfl), (Nat.le_of_ble_eq_true rfl)⟩ ?_
  refine oe_putrf (pc := 100) (x := some 28) d_X11_init_100 fl_X11_57 ock11 (k := 6) (Nat.le_of_ble_eq_true rfl) (by decide) rfl ⟨rfl, fun _ => ⟨rfl, rfl⟩⟩ rfl rfl rfl (Nat.le_of_ble_eq_true rfl) rfl ?_
  refine oEv.re (K2 := ck79) (M2 := cm43) (S2 := []) rfl rfl rfl ?_
  refine oe_aload_n (pc := 103) d_X11_init_103 rfl ?_
  refine oe_new (pc := 104) (ci := 5) d_X11_init_104 cl_X11_61 ock5 oins5 oini5 (by decide) (Nat.le_of_ble_eq_true rfl) (Nat.le_of_ble_eq_true rfl) (Nat.le_of_ble_eq_true rfl) ?_
  refine oEv.re (K2 := ck80) (M2 := cm44) (S2 := [.ref 37, .ref 0]) rfl rfl rfl ?_
  refine oe_dup (pc := 107) d_X11_init_107 rfl ?_
  refine oe_callN (pc := 108) d_X11_init_108 ct_7 (by decide) (fun U h => h.2.1) jJ_X5_init rfl rfl (Nat.le_of_ble_eq_true rfl) ⟨(Nat.le_of_ble_eq_true rfl), (Nat.le_of_ble_eq_true rfl)⟩ ⟨(Nat.le_of_ble_eq_true rfl), (Nat.le_of_ble_eq_true rfl)⟩ ?_
  refine oe_putrf (pc := 111) (x := some 37) d_X11_init_111 fl_X11_64 ock11 (k := 7) (Nat.le_of_ble_eq_true rfl) (by decide) rfl ⟨rfl, fun _ => ⟨rfl, rfl⟩⟩ rfl rfl rfl (Nat.le_of_ble_eq_true rfl) rfl ?_
  refine oEv.re (K2 := ck85) (M2 := cm46) (S2 := []) rfl rfl rfl ?_
  refine oe_aload_n (pc := 114) d_X11_init_114 rfl ?_
  refine oe_new (pc := 115) (ci := 1) d_X11_init_115 cl_X11_68 ock1 oins1 oini1 (by decide) (Nat.le_of_ble_eq_true rfl) (Nat.le_of_ble_eq_true rfl) (Nat.le_of_ble_eq_true rfl) ?_
  refine oEv.re (K2 := ck86) (M2 := cm47) (S2 := [.ref 40, .ref 0]) rfl rfl rfl ?_
  refine oe_dup (pc := 118) d_X11_init_118 rfl ?_
  refine oe_callN (pc := 119) d_X11_init_119 ct_8 (by decide) (fun U h => h.2.2.1) jJ_X1_init rfl rfl (Nat.le_of_ble_eq_true rfl) ⟨(Nat.le_of_ble_eq_true rfl), (Nat.le_of_ble_eq_true rfl)⟩ ⟨(Nat.le_of_ble_eq_true rfl), (Nat.le_of_ble_eq_true rfl)⟩ ?_
  refine oe_putrf (pc := 122) (x := some 40) d_X11_init_122 fl_X11_71 ock11 (k := 8) (Nat.le_of_ble_eq_true rfl) (by decide) rfl ⟨rfl, fun _ => ⟨rfl, rfl⟩⟩ rfl rfl rfl (Nat.le_of_ble_eq_true rfl) rfl ?_
  refine oEv.re (K2 := ck93) (M2 := cm50) (S2 := []) rfl rfl rfl ?_
  refine oe_aload_n (pc := 125) d_X11_init_125 rfl ?_
  refine oe_new (pc := 126) (ci := 0) d_X11_init_126 cl_X11_75 ock0 oins0 oini0 (by decide) (Nat.le_of_ble_eq_true rfl) (Nat.le_of_ble_eq_true rfl) (Nat.le_of_ble_eq_true rfl) ?_
  refine oEv.re (K2 := ck94) (M2 := cm51) (S2 := [.ref 44, .ref 0]) rfl rfl rfl ?_
  refine oe_dup (pc := 129) d_X11_init_129 rfl ?_
  refine oe_callN (pc := 130) d_X11_init_130 ct_9 (by decide) (fun U h => h.2.2.2.1) jJ_X0_init rfl rfl (Nat.le_of_ble_eq_true rfl) ⟨(Nat.le_of_ble_eq_true rfl), (Nat.le_of_ble_eq_true rfl)⟩ ⟨(Nat.le_of_ble_eq_true rfl), (Nat.le_of_ble_eq_true rfl)⟩ ?_
  refine oe_putrf (pc := 133) (x := some 44) d_X11_init_133 fl_X11_78 ock11 (k := 9) (Nat.le_of_ble_eq_true rfl) (by decide) rfl ⟨rfl, fun _ => ⟨rfl, rfl⟩⟩ rfl rfl rfl (Nat.le_of_ble_eq_true rfl) rfl ?_
  refine oEv.re (K2 := ck97) (M2 := cm52) (S2 := []) rfl rfl rfl ?_
  refine oe_aload_n (pc := 136) d_X11_init_136 rfl ?_
  refine oe_bipush (pc := 137) (v := 6) d_X11_init_137 rfl ?_
  refine oe_anew5 (pc := 139) (N := 6) d_X11_init_139 cl_X11_82 (by decide) rfl (Nat.le_of_ble_eq_true rfl) (Nat.le_of_ble_eq_true rfl) (Nat.le_of_ble_eq_true rfl) (Nat.le_of_ble_eq_true rfl) ?_
  refine oEv.re (K2 := ck98) (M2 := cm53) (S2 := [.ref 46, .ref 0]) rfl rfl rfl ?_
  refine oe_putrf (pc := 142) (x := some 46) d_X11_init_142 fl_X11_84 ock11 (k := 10) (Nat.le_of_ble_eq_true rfl) (by decide) rfl ⟨rfl, fun _ => ⟨rfl, rfl⟩⟩ rfl rfl rfl (Nat.le_of_ble_eq_true rfl) rfl ?_
  refine oEv.re (K2 := ck99) (M2 := cm53) (S2 := []) rfl rfl rfl ?_
  refine oe_iconst (pc := 145) (v := 0) d_X11_init_145 rfl ?_
  refine oe_istore_n (pc := 146) (L2 := [some (.ref 0), some (.int 0)]) d_X11_init_146 rfl rfl (Nat.le_of_ble_eq_true rfl) rfl ?_
  refine oe_iload_n (pc := 147) d_X11_init_147 rfl ?_
  refine oe_aload_n (pc := 148) d_X11_init_148 rfl ?_
  refine oe_getr (pc := 149) d_X11_init_149 fl_X11_84 ock11 (k := 10) (b := 46) (Nat.le_of_ble_eq_true rfl) (by decide) (Nat.le_of_ble_eq_true rfl) rfl rfl ?_
  refine oe_alen5 (pc := 152) (n := 6) d_X11_init_152 (Nat.le_of_ble_eq_true rfl) rfl ?_
  refine oEv.re (K2 := ck99) (M2 := cm53) (S2 := [.int 6, .int 0]) rfl rfl rfl ?_
  refine oe_icmp_ge (pc := 153) (tgt := 175) d_X11_init_153 (by decide) (fun c => absurd c (by decide)) (fun _ => ?_)
  refine oe_aload_n (pc := 156) d_X11_init_156 rfl ?_
  refine oe_getr (pc := 157) d_X11_init_157 fl_X11_84 ock11 (k := 10) (b := 46) (Nat.le_of_ble_eq_true rfl) (by decide) (Nat.le_of_ble_eq_true rfl) rfl rfl ?_
  refine oe_iload_n (pc := 160) d_X11_init_160 rfl ?_
  refine oe_new (pc := 161) (ci := 9) d_X11_init_161 cl_X11_82 ock9 oins9 oini9 (by decide) (Nat.le_of_ble_eq_true rfl) (Nat.le_of_ble_eq_true rfl) (Nat.le_of_ble_eq_true rfl) ?_
  refine oEv.re (K2 := ck100) (M2 := cm54) (S2 := [.ref 47, .int 0, .ref 46]) rfl rfl rfl ?_
  refine oe_dup (pc := 164) d_X11_init_164 rfl ?_
  refine oe_callN (pc := 165) d_X11_init_165 ct_10 (by decide) (fun U h => h.2.2.2.2.1) jJ_X9_init rfl rfl (Nat.le_of_ble_eq_true rfl) ⟨(Nat.le_of_ble_eq_true rfl), (Nat.le_of_ble_eq_true rfl)⟩ ⟨(Nat.le_of_ble_eq_true rfl), (Nat.le_of_ble_eq_true rfl)⟩ ?_
  refine oe_aast5 (pc := 168) (n := 6) d_X11_init_168 (Nat.le_of_ble_eq_true rfl) rfl (by unfold vp_in; decide) (Nat.le_of_ble_eq_true rfl) rfl ?_
  refine oEv.re (K2 := ck103) (M2 := cm55) (S2 := []) rfl rfl rfl ?_
  refine oe_iinc (pc := 169) (v := 1) (L2 := [some (.ref 0), some (.int 1)]) d_X11_init_169 rfl rfl rfl (Nat.le_of_ble_eq_true rfl) rfl ?_
  refine oe_goto (pc := 172) (tgt := 147) d_X11_init_172 (by decide) ?_
  refine oe_iload_n (pc := 147) d_X11_init_147 rfl ?_
  refine oe_aload_n (pc := 148) d_X11_init_148 rfl ?_
  refine oe_getr (pc := 149) d_X11_init_149 fl_X11_84 ock11 (k := 10) (b := 46) (Nat.le_of_ble_eq_true rfl) (by decide) (Nat.le_of_ble_eq_true rfl) rfl rfl ?_
  refine oe_alen5 (pc := 152) (n := 6) d_X11_init_152 (Nat.le_of_ble_eq_true rfl) rfl ?_
  refine oEv.re (K2 := ck103) (M2 := cm55) (S2 := [.int 6, .int 1]) rfl rfl rfl ?_
  refine oe_icmp_ge (pc := 153) (tgt := 175) d_X11_init_153 (by decide) (fun c => absurd c (by decide)) (fun _ => ?_)
  refine oe_aload_n (pc := 156) d_X11_init_156 rfl ?_
  refine oe_getr (pc := 157) d_X11_init_157 fl_X11_84 ock11 (k := 10) (b := 46) (Nat.le_of_ble_eq_true rfl) (by decide) (Nat.le_of_ble_eq_true rfl) rfl rfl ?_
  refine oe_iload_n (pc := 160) d_X11_init_160 rfl ?_
  refine oe_new (pc := 161) (ci := 9) d_X11_init_161 cl_X11_82 ock9 oins9 oini9 (by decide) (Nat.le_of_ble_eq_true rfl) (Nat.le_of_ble_eq_true rfl) (Nat.le_of_ble_eq_true rfl) ?_
  refine oEv.re (K2 := ck104) (M2 := cm56) (S2 := [.ref 49, .int 1, .ref 46]) rfl rfl rfl ?_
  refine oe_dup (pc := 164) d_X11_init_164 rfl ?_
  refine oe_callN (pc := 165) d_X11_init_165 ct_11 (by decide) (fun U h => h.2.2.2.2.1) jJ_X9_init rfl rfl (Nat.le_of_ble_eq_true rfl) ⟨(Nat.le_of_ble_eq_true rfl), (Nat.le_of_ble_eq_true rfl)⟩ ⟨(Nat.le_of_ble_eq_true rfl), (Nat.le_of_ble_eq_true rfl)⟩ ?_
  refine oe_aast5 (pc := 168) (n := 6) d_X11_init_168 (Nat.le_of_ble_eq_true rfl) rfl (by unfold vp_in; decide) (Nat.le_of_ble_eq_true rfl) rfl ?_
  refine oEv.re (K2 := ck107) (M2 := cm57) (S2 := []) rfl rfl rfl ?_
  refine oe_iinc (pc := 169) (v := 2) (L2 := [some (.ref 0), some (.int 2)]) d_X11_init_169 rfl rfl rfl (Nat.le_of_ble_eq_true rfl) rfl ?_
  refine oe_goto (pc := 172) (tgt := 147) d_X11_init_172 (by decide) ?_
  refine oe_iload_n (pc := 147) d_X11_init_147 rfl ?_
  refine oe_aload_n (pc := 148) d_X11_init_148 rfl ?_
  refine oe_getr (pc := 149) d_X11_init_149 fl_X11_84 ock11 (k := 10) (b := 46) (Nat.le_of_ble_eq_true rfl) (by decide) (Nat.le_of_ble_eq_true rfl) rfl rfl ?_
  refine oe_alen5 (pc := 152) (n := 6) d_X11_init_152 (Nat.le_of_ble_eq_true rfl) rfl ?_
  refine oEv.re (K2 := ck107) (M2 := cm57) (S2 := [.int 6, .int 2]) rfl rfl rfl ?_
  refine oe_icmp_ge (pc := 153) (tgt := 175) d_X11_init_153 (by decide) (fun c => absurd c (by decide)) (fun _ => ?_)
  refine oe_aload_n (pc := 156) d_X11_init_156 rfl ?_
  refine oe_getr (pc := 157) d_X11_init_157 fl_X11_84 ock11 (k := 10) (b := 46) (Nat.le_of_ble_eq_true rfl) (by decide) (Nat.le_of_ble_eq_true rfl) rfl rfl ?_
  refine oe_iload_n (pc := 160) d_X11_init_160 rfl ?_
  refine oe_new (pc := 161) (ci := 9) d_X11_init_161 cl_X11_82 ock9 oins9 oini9 (by decide) (Nat.le_of_ble_eq_true rfl) (Nat.le_of_ble_eq_true rfl) (Nat.le_of_ble_eq_true rfl) ?_
  refine oEv.re (K2 := ck108) (M2 := cm58) (S2 := [.ref 51, .int 2, .ref 46]) rfl rfl rfl ?_
  refine oe_dup (pc := 164) d_X11_init_164 rfl ?_
  refine oe_callN (pc := 165) d_X11_init_165 ct_12 (by decide) (fun U h => h.2.2.2.2.1) jJ_X9_init rfl rfl (Nat.le_of_ble_eq_true rfl) ⟨(Nat.le_of_ble_eq_true rfl), (Nat.le_of_ble_eq_true rfl)⟩ ⟨(Nat.le_of_ble_eq_true rfl), (Nat.le_of_ble_eq_true rfl)⟩ ?_
  refine oe_aast5 (pc := 168) (n := 6) d_X11_init_168 (Nat.le_of_ble_eq_true rfl) rfl (by unfold vp_in; decide) (Nat.le_of_ble_eq_true rfl) rfl ?_
  refine oEv.re (K2 := ck111) (M2 := cm59) (S2 := []) rfl rfl rfl ?_
  refine oe_iinc (pc := 169) (v := 3) (L2 := [some (.ref 0), some (.int 3)]) d_X11_init_169 rfl rfl rfl (Nat.le_of_ble_eq_true rfl) rfl ?_
  refine oe_goto (pc := 172) (tgt := 147) d_X11_init_172 (by decide) ?_
  refine oe_iload_n (pc := 147) d_X11_init_147 rfl ?_
  refine oe_aload_n (pc := 148) d_X11_init_148 rfl ?_
  refine oe_getr (pc := 149) d_X11_init_149 fl_X11_84 ock11 (k := 10) (b := 46) (Nat.le_of_ble_eq_true rfl) (by decide) (Nat.le_of_ble_eq_true rfl) rfl rfl ?_
  refine oe_alen5 (pc := 152) (n := 6) d_X11_init_152 (Nat.le_of_ble_eq_true rfl) rfl ?_
  refine oEv.re (K2 := ck111) (M2 := cm59) (S2 := [.int 6, .int 3]) rfl rfl rfl ?_
  refine oe_icmp_ge (pc := 153) (tgt := 175) d_X11_init_153 (by decide) (fun c => absurd c (by decide)) (fun _ => ?_)
  refine oe_aload_n (pc := 156) d_X11_init_156 rfl ?_
  refine oe_getr (pc := 157) d_X11_init_157 fl_X11_84 ock11 (k := 10) (b := 46) (Nat.le_of_ble_eq_true rfl) (by decide) (Nat.le_of_ble_eq_true rfl) rfl rfl ?_
  refine oe_iload_n (pc := 160) d_X11_init_160 rfl ?_
  refine oe_new (pc := 161) (ci := 9) d_X11_init_161 cl_X11_82 ock9 oins9 oini9 (by decide) (Nat.le_of_ble_eq_true rfl) (Nat.le_of_ble_eq_true rfl) (Nat.le_of_ble_eq_true rfl) ?_
  refine oEv.re (K2 := ck112) (M2 := cm60) (S2 := [.ref 53, .int 3, .ref 46]) rfl rfl rfl ?_
  refine oe_dup (pc := 164) d_X11_init_164 rfl ?_
  refine oe_callN (pc := 165) d_X11_init_165 ct_13 (by decide) (fun U h => h.2.2.2.2.1) jJ_X9_init rfl rfl (Nat.le_of_ble_eq_true rfl) ⟨(Nat.le_of_ble_eq_true rfl), (Nat.le_of_ble_eq_true rfl)⟩ ⟨(Nat.le_of_ble_eq_true rfl), (Nat.le_of_ble_eq_true rfl)⟩ ?_
  refine oe_aast5 (pc := 168) (n := 6) d_X11_init_168 (Nat.le_of_ble_eq_true rfl) rfl (by unfold vp_in; decide) (Nat.le_of_ble_eq_true rfl) rfl ?_
  refine oEv.re (K2 := ck115) (M2 := cm61) (S2 := []) rfl rfl rfl ?_
  refine oe_iinc (pc := 169) (v := 4) (L2 := [some (.ref 0), some (.int 4)]) d_X11_init_169 rfl rfl rfl (Nat.le_of_ble_eq_true rfl) rfl ?_
  refine oe_goto (pc := 172) (tgt := 147) d_X11_init_172 (by decide) ?_
  refine oe_iload_n (pc := 147) d_X11_init_147 rfl ?_
  refine oe_aload_n (pc := 148) d_X11_init_148 rfl ?_
  refine oe_getr (pc := 149) d_X11_init_149 fl_X11_84 ock11 (k := 10) (b := 46) (Nat.le_of_ble_eq_true rfl) (by decide) (Nat.le_of_ble_eq_true rfl) rfl rfl ?_
  refine oe_alen5 (pc := 152) (n := 6) d_X11_init_152 (Nat.le_of_ble_eq_true rfl) rfl ?_
  refine oEv.re (K2 := ck115) (M2 := cm61) (S2 := [.int 6, .int 4]) rfl rfl rfl ?_
  refine oe_icmp_ge (pc := 153) (tgt := 175) d_X11_init_153 (by decide) (fun c => absurd c (by decide)) (fun _ => ?_)
  refine oe_aload_n (pc := 156) d_X11_init_156 rfl ?_
  refine oe_getr (pc := 157) d_X11_init_157 fl_X11_84 ock11 (k := 10) (b := 46) (Nat.le_of_ble_eq_true rfl) (by decide) (Nat.le_of_ble_eq_true rfl) rfl rfl ?_
  refine oe_iload_n (pc := 160) d_X11_init_160 rfl ?_
  refine oe_new (pc := 161) (ci := 9) d_X11_init_161 cl_X11_82 ock9 oins9 oini9 (by decide) (Nat.le_of_ble_eq_true rfl) (Nat.le_of_ble_eq_true rfl) (Nat.le_of_ble_eq_true rfl) ?_
  refine oEv.re (K2 := ck116) (M2 := cm62) (S2 := [.ref 55, .int 4, .ref 46]) rfl rfl rfl ?_
  refine oe_dup (pc := 164) d_X11_init_164 rfl ?_
  refine oe_callN (pc := 165) d_X11_init_165 ct_14 (by decide) (fun U h => h.2.2.2.2.1) jJ_X9_init rfl rfl (Nat.le_of_ble_eq_true rfl) ⟨(Nat.le_of_ble_eq_true rfl), (Nat.le_of_ble_eq_true rfl)⟩ ⟨(Nat.le_of_ble_eq_true rfl), (Nat.le_of_ble_eq_true rfl)⟩ ?_
  refine oe_aast5 (pc := 168) (n := 6) d_X11_init_168 (Nat.le_of_ble_eq_true rfl) rfl (by unfold vp_in; decide) (Nat.le_of_ble_eq_true rfl) rfl ?_
  refine oEv.re (K2 := ck119) (M2 := cm63) (S2 := []) rfl rfl rfl ?_
  refine oe_iinc (pc := 169) (v := 5) (L2 := [some (.ref 0), some (.int 5)]) d_X11_init_169 rfl rfl rfl (Nat.le_of_ble_eq_true rfl) rfl ?_
  refine oe_goto (pc := 172) (tgt := 147) d_X11_init_172 (by decide) ?_
  refine oe_iload_n (pc := 147) d_X11_init_147 rfl ?_
  refine oe_aload_n (pc := 148) d_X11_init_148 rfl ?_
  refine oe_getr (pc := 149) d_X11_init_149 fl_X11_84 ock11 (k := 10) (b := 46) (Nat.le_of_ble_eq_true rfl) (by decide) (Nat.le_of_ble_eq_true rfl) rfl rfl ?_
  refine oe_alen5 (pc := 152) (n := 6) d_X11_init_152 (Nat.le_of_ble_eq_true rfl) rfl ?_
  refine oEv.re (K2 := ck119) (M2 := cm63) (S2 := [.int 6, .int 5]) rfl rfl rfl ?_
  refine oe_icmp_ge (pc := 153) (tgt := 175) d_X11_init_153 (by decide) (fun c => absurd c (by decide)) (fun _ => ?_)
  refine oe_aload_n (pc := 156) d_X11_init_156 rfl ?_
  refine oe_getr (pc := 157) d_X11_init_157 fl_X11_84 ock11 (k := 10) (b := 46) (Nat.le_of_ble_eq_true rfl) (by decide) (Nat.le_of_ble_eq_true rfl) rfl rfl ?_
  refine oe_iload_n (pc := 160) d_X11_init_160 rfl ?_
  refine oe_new (pc := 161) (ci := 9) d_X11_init_161 cl_X11_82 ock9 oins9 oini9 (by decide) (Nat.le_of_ble_eq_true rfl) (Nat.le_of_ble_eq_true rfl) (Nat.le_of_ble_eq_true rfl) ?_
  refine oEv.re (K2 := ck120) (M2 := cm64) (S2 := [.ref 57, .int 5, .ref 46]) rfl rfl rfl ?_
  refine oe_dup (pc := 164) d_X11_init_164 rfl ?_
  refine oe_callN (pc := 165) d_X11_init_165 ct_15 (by decide) (fun U h => h.2.2.2.2.1) jJ_X9_init rfl rfl (Nat.le_of_ble_eq_true rfl) ⟨(Nat.le_of_ble_eq_true rfl), (Nat.le_of_ble_eq_true rfl)⟩ ⟨(Nat.le_of_ble_eq_true rfl), (Nat.le_of_ble_eq_true rfl)⟩ ?_
  refine oe_aast5 (pc := 168) (n := 6) d_X11_init_168 (Nat.le_of_ble_eq_true rfl) rfl (by unfold vp_in; decide) (Nat.le_of_ble_eq_true rfl) rfl ?_
  refine oEv.re (K2 := ck123) (M2 := cm65) (S2 := []) rfl rfl rfl ?_
  refine oe_iinc (pc := 169) (v := 6) (L2 := [some (.ref 0), some (.int 6)]) d_X11_init_169 rfl rfl rfl (Nat.le_of_ble_eq_true rfl) rfl ?_
  refine oe_goto (pc := 172) (tgt := 147) d_X11_init_172 (by decide) ?_
  refine oe_iload_n (pc := 147) d_X11_init_147 rfl ?_
  refine oe_aload_n (pc := 148) d_X11_init_148 rfl ?_
  refine oe_getr (pc := 149) d_X11_init_149 fl_X11_84 ock11 (k := 10) (b := 46) (Nat.le_of_ble_eq_true rfl) (by decide) (Nat.le_of_ble_eq_true rfl) rfl rfl ?_
  refine oe_alen5 (pc := 152) (n := 6) d_X11_init_152 (Nat.le_of_ble_eq_true rfl) rfl ?_
  refine oEv.re (K2 := ck123) (M2 := cm65) (S2 := [.int 6, .int 6]) rfl rfl rfl ?_
  refine oe_icmp_ge (pc := 153) (tgt := 175) d_X11_init_153 (by decide) (fun _ => ?_) (fun c => absurd (by decide) c)
  exact oe_vret (pc := 175) d_X11_init_175 rfl
