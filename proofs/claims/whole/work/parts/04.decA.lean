theorem dX0_init_0 : decode cX0_init 0 = .ok (.aload_n 0, 1) := by decide +kernel
theorem dX0_init_1 : decode cX0_init 1 = .ok (.invokespecial 3, 3) := by decide +kernel
theorem dX0_init_4 : decode cX0_init 4 = .ok (.aload_n 0, 1) := by decide +kernel
theorem dX0_init_5 : decode cX0_init 5 = .ok (.bipush 12, 2) := by decide +kernel
theorem dX0_init_7 : decode cX0_init 7 = .ok (.anewarray 9, 3) := by decide +kernel
theorem dX0_init_10 : decode cX0_init 10 = .ok (.putfield 11, 3) := by decide +kernel
theorem dX0_init_13 : decode cX0_init 13 = .ok (.aload_n 0, 1) := by decide +kernel
theorem dX0_init_14 : decode cX0_init 14 = .ok (.bipush 8, 2) := by decide +kernel
theorem dX0_init_16 : decode cX0_init 16 = .ok (.anewarray 17, 3) := by decide +kernel
theorem dX0_init_19 : decode cX0_init 19 = .ok (.putfield 19, 3) := by decide +kernel
theorem dX0_init_22 : decode cX0_init 22 = .ok (.iconst 0, 1) := by decide +kernel
theorem dX0_init_23 : decode cX0_init 23 = .ok (.istore_n 1, 1) := by decide +kernel
theorem dX0_init_24 : decode cX0_init 24 = .ok (.iload_n 1, 1) := by decide +kernel
theorem dX0_init_25 : decode cX0_init 25 = .ok (.aload_n 0, 1) := by decide +kernel
theorem dX0_init_26 : decode cX0_init 26 = .ok (.getfield 19, 3) := by decide +kernel
theorem dX0_init_29 : decode cX0_init 29 = .ok (.arraylength, 1) := by decide +kernel
theorem dX0_init_30 : decode cX0_init 30 = .ok (.if_icmp .ge 22, 3) := by decide +kernel
theorem dX0_init_33 : decode cX0_init 33 = .ok (.aload_n 0, 1) := by decide +kernel
theorem dX0_init_34 : decode cX0_init 34 = .ok (.getfield 19, 3) := by decide +kernel
theorem dX0_init_37 : decode cX0_init 37 = .ok (.iload_n 1, 1) := by decide +kernel
theorem dX0_init_38 : decode cX0_init 38 = .ok (.new 17, 3) := by decide +kernel
theorem dX0_init_41 : decode cX0_init 41 = .ok (.dup, 1) := by decide +kernel
theorem dX0_init_42 : decode cX0_init 42 = .ok (.invokespecial 23, 3) := by decide +kernel
theorem dX0_init_45 : decode cX0_init 45 = .ok (.aastore, 1) := by decide +kernel
theorem dX0_init_46 : decode cX0_init 46 = .ok (.iinc 1 1, 3) := by decide +kernel
theorem dX0_init_49 : decode cX0_init 49 = .ok (.goto (-25), 3) := by decide +kernel
theorem dX0_init_52 : decode cX0_init 52 = .ok (.aload_n 0, 1) := by decide +kernel
theorem dX0_init_53 : decode cX0_init 53 = .ok (.new 24, 3) := by decide +kernel
theorem dX0_init_56 : decode cX0_init 56 = .ok (.dup, 1) := by decide +kernel
theorem dX0_init_57 : decode cX0_init 57 = .ok (.bipush 30, 2) := by decide +kernel
theorem dX0_init_59 : decode cX0_init 59 = .ok (.iconst 3, 1) := by decide +kernel
theorem dX0_init_60 : decode cX0_init 60 = .ok (.invokespecial 26, 3) := by decide +kernel
theorem dX0_init_63 : decode cX0_init 63 = .ok (.putfield 29, 3) := by decide +kernel
theorem dX0_init_66 : decode cX0_init 66 = .ok (.aload_n 0, 1) := by decide +kernel
theorem dX0_init_67 : decode cX0_init 67 = .ok (.new 33, 3) := by decide +kernel
theorem dX0_init_70 : decode cX0_init 70 = .ok (.dup, 1) := by decide +kernel
theorem dX0_init_71 : decode cX0_init 71 = .ok (.invokespecial 35, 3) := by decide +kernel
theorem dX0_init_74 : decode cX0_init 74 = .ok (.putfield 36, 3) := by decide +kernel
theorem dX0_init_77 : decode cX0_init 77 = .ok (.return_, 1) := by decide +kernel
theorem dX0_copyFrom_0 : decode cX0_copyFrom 0 = .ok (.aload_n 0, 1) := by decide +kernel
theorem dX0_copyFrom_1 : decode cX0_copyFrom 1 = .ok (.aload_n 1, 1) := by decide +kernel
theorem dX0_copyFrom_2 : decode cX0_copyFrom 2 = .ok (.getfield 40, 3) := by decide +kernel
theorem dX0_copyFrom_5 : decode cX0_copyFrom 5 = .ok (.putfield 40, 3) := by decide +kernel
theorem dX0_copyFrom_8 : decode cX0_copyFrom 8 = .ok (.aload_n 0, 1) := by decide +kernel
theorem dX0_copyFrom_9 : decode cX0_copyFrom 9 = .ok (.aload_n 1, 1) := by decide +kernel
theorem dX0_copyFrom_10 : decode cX0_copyFrom 10 = .ok (.getfield 44, 3) := by decide +kernel
theorem dX0_copyFrom_13 : decode cX0_copyFrom 13 = .ok (.putfield 44, 3) := by decide +kernel
theorem dX0_copyFrom_16 : decode cX0_copyFrom 16 = .ok (.iconst 0, 1) := by decide +kernel
theorem dX0_copyFrom_17 : decode cX0_copyFrom 17 = .ok (.istore_n 2, 1) := by decide +kernel
theorem dX0_copyFrom_18 : decode cX0_copyFrom 18 = .ok (.iload_n 2, 1) := by decide +kernel
theorem dX0_copyFrom_19 : decode cX0_copyFrom 19 = .ok (.aload_n 0, 1) := by decide +kernel
theorem dX0_copyFrom_20 : decode cX0_copyFrom 20 = .ok (.getfield 11, 3) := by decide +kernel
theorem dX0_copyFrom_23 : decode cX0_copyFrom 23 = .ok (.arraylength, 1) := by decide +kernel
theorem dX0_copyFrom_24 : decode cX0_copyFrom 24 = .ok (.if_icmp .ge 20, 3) := by decide +kernel
theorem dX0_copyFrom_27 : decode cX0_copyFrom 27 = .ok (.aload_n 0, 1) := by decide +kernel
theorem dX0_copyFrom_28 : decode cX0_copyFrom 28 = .ok (.getfield 11, 3) := by decide +kernel
theorem dX0_copyFrom_31 : decode cX0_copyFrom 31 = .ok (.iload_n 2, 1) := by decide +kernel
theorem dX0_copyFrom_32 : decode cX0_copyFrom 32 = .ok (.aload_n 1, 1) := by decide +kernel
theorem dX0_copyFrom_33 : decode cX0_copyFrom 33 = .ok (.iload_n 2, 1) := by decide +kernel
theorem dX0_copyFrom_34 : decode cX0_copyFrom 34 = .ok (.invokevirtual 47, 3) := by decide +kernel
theorem dX0_copyFrom_37 : decode cX0_copyFrom 37 = .ok (.aastore, 1) := by decide +kernel
theorem dX0_copyFrom_38 : decode cX0_copyFrom 38 = .ok (.iinc 2 1, 3) := by decide +kernel
theorem dX0_copyFrom_41 : decode cX0_copyFrom 41 = .ok (.goto (-23), 3) := by decide +kernel
theorem dX0_copyFrom_44 : decode cX0_copyFrom 44 = .ok (.aload_n 0, 1) := by decide +kernel
theorem dX0_copyFrom_45 : decode cX0_copyFrom 45 = .ok (.aload_n 1, 1) := by decide +kernel
theorem dX0_copyFrom_46 : decode cX0_copyFrom 46 = .ok (.getfield 51, 3) := by decide +kernel
theorem dX0_copyFrom_49 : decode cX0_copyFrom 49 = .ok (.putfield 51, 3) := by decide +kernel
theorem dX0_copyFrom_52 : decode cX0_copyFrom 52 = .ok (.iconst 0, 1) := by decide +kernel
theorem dX0_copyFrom_53 : decode cX0_copyFrom 53 = .ok (.istore_n 2, 1) := by decide +kernel
theorem dX0_copyFrom_54 : decode cX0_copyFrom 54 = .ok (.iload_n 2, 1) := by decide +kernel
theorem dX0_copyFrom_55 : decode cX0_copyFrom 55 = .ok (.aload_n 0, 1) := by decide +kernel
theorem dX0_copyFrom_56 : decode cX0_copyFrom 56 = .ok (.getfield 51, 3) := by decide +kernel
theorem dX0_copyFrom_59 : decode cX0_copyFrom 59 = .ok (.if_icmp .ge 37, 3) := by decide +kernel
theorem dX0_copyFrom_62 : decode cX0_copyFrom 62 = .ok (.aload_n 0, 1) := by decide +kernel
theorem dX0_copyFrom_63 : decode cX0_copyFrom 63 = .ok (.iload_n 2, 1) := by decide +kernel
theorem dX0_copyFrom_64 : decode cX0_copyFrom 64 = .ok (.invokevirtual 54, 3) := by decide +kernel
theorem dX0_copyFrom_67 : decode cX0_copyFrom 67 = .ok (.astore_n 3, 1) := by decide +kernel
theorem dX0_copyFrom_68 : decode cX0_copyFrom 68 = .ok (.aload_n 1, 1) := by decide +kernel
theorem dX0_copyFrom_69 : decode cX0_copyFrom 69 = .ok (.iload_n 2, 1) := by decide +kernel
theorem dX0_copyFrom_70 : decode cX0_copyFrom 70 = .ok (.invokevirtual 54, 3) := by decide +kernel
theorem dX0_copyFrom_73 : decode cX0_copyFrom 73 = .ok (.astore 4, 2) := by decide +kernel
theorem dX0_copyFrom_75 : decode cX0_copyFrom 75 = .ok (.aload_n 3, 1) := by decide +kernel
theorem dX0_copyFrom_76 : decode cX0_copyFrom 76 = .ok (.ifnull 14, 3) := by decide +kernel
theorem dX0_copyFrom_79 : decode cX0_copyFrom 79 = .ok (.aload 4, 2) := by decide +kernel
theorem dX0_copyFrom_81 : decode cX0_copyFrom 81 = .ok (.ifnull 9, 3) := by decide +kernel
theorem dX0_copyFrom_84 : decode cX0_copyFrom 84 = .ok (.aload_n 3, 1) := by decide +kernel
theorem dX0_copyFrom_85 : decode cX0_copyFrom 85 = .ok (.aload 4, 2) := by decide +kernel
theorem dX0_copyFrom_87 : decode cX0_copyFrom 87 = .ok (.invokevirtual 58, 3) := by decide +kernel
theorem dX0_copyFrom_90 : decode cX0_copyFrom 90 = .ok (.iinc 2 1, 3) := by decide +kernel
theorem dX0_copyFrom_93 : decode cX0_copyFrom 93 = .ok (.goto (-39), 3) := by decide +kernel
theorem dX0_copyFrom_96 : decode cX0_copyFrom 96 = .ok (.aload_n 0, 1) := by decide +kernel
theorem dX0_copyFrom_97 : decode cX0_copyFrom 97 = .ok (.getfield 29, 3) := by decide +kernel
theorem dX0_copyFrom_100 : decode cX0_copyFrom 100 = .ok (.aload_n 1, 1) := by decide +kernel
theorem dX0_copyFrom_101 : decode cX0_copyFrom 101 = .ok (.getfield 29, 3) := by decide +kernel
theorem dX0_copyFrom_104 : decode cX0_copyFrom 104 = .ok (.invokevirtual 62, 3) := by decide +kernel
theorem dX0_copyFrom_107 : decode cX0_copyFrom 107 = .ok (.return_, 1) := by decide +kernel
theorem dX0_stationAt_0 : decode cX0_stationAt 0 = .ok (.iload_n 1, 1) := by decide +kernel
theorem dX0_stationAt_1 : decode cX0_stationAt 1 = .ok (.ifCond .lt 24, 3) := by decide +kernel
theorem dX0_stationAt_4 : decode cX0_stationAt 4 = .ok (.iload_n 1, 1) := by decide +kernel
theorem dX0_stationAt_5 : decode cX0_stationAt 5 = .ok (.aload_n 0, 1) := by decide +kernel
theorem dX0_stationAt_6 : decode cX0_stationAt 6 = .ok (.getfield 44, 3) := by decide +kernel
theorem dX0_stationAt_9 : decode cX0_stationAt 9 = .ok (.if_icmp .ge 16, 3) := by decide +kernel
theorem dX0_stationAt_12 : decode cX0_stationAt 12 = .ok (.iload_n 1, 1) := by decide +kernel
theorem dX0_stationAt_13 : decode cX0_stationAt 13 = .ok (.aload_n 0, 1) := by decide +kernel
theorem dX0_stationAt_14 : decode cX0_stationAt 14 = .ok (.getfield 11, 3) := by decide +kernel
theorem dX0_stationAt_17 : decode cX0_stationAt 17 = .ok (.arraylength, 1) := by decide +kernel
theorem dX0_stationAt_18 : decode cX0_stationAt 18 = .ok (.if_icmp .ge 7, 3) := by decide +kernel
theorem dX0_stationAt_21 : decode cX0_stationAt 21 = .ok (.iconst 1, 1) := by decide +kernel
theorem dX0_stationAt_22 : decode cX0_stationAt 22 = .ok (.goto 4, 3) := by decide +kernel
theorem dX0_stationAt_25 : decode cX0_stationAt 25 = .ok (.iconst 0, 1) := by decide +kernel
theorem dX0_stationAt_26 : decode cX0_stationAt 26 = .ok (.istore_n 2, 1) := by decide +kernel
theorem dX0_stationAt_27 : decode cX0_stationAt 27 = .ok (.iload_n 2, 1) := by decide +kernel
theorem dX0_stationAt_28 : decode cX0_stationAt 28 = .ok (.ifCond .eq 12, 3) := by decide +kernel
theorem dX0_stationAt_31 : decode cX0_stationAt 31 = .ok (.aload_n 0, 1) := by decide +kernel
theorem dX0_stationAt_32 : decode cX0_stationAt 32 = .ok (.getfield 11, 3) := by decide +kernel
theorem dX0_stationAt_35 : decode cX0_stationAt 35 = .ok (.iload_n 1, 1) := by decide +kernel
theorem dX0_stationAt_36 : decode cX0_stationAt 36 = .ok (.aaload, 1) := by decide +kernel
theorem dX0_stationAt_37 : decode cX0_stationAt 37 = .ok (.goto 4, 3) := by decide +kernel
theorem dX0_stationAt_40 : decode cX0_stationAt 40 = .ok (.aconst_null, 1) := by decide +kernel
theorem dX0_stationAt_41 : decode cX0_stationAt 41 = .ok (.areturn, 1) := by decide +kernel
theorem dX0_memberAt_0 : decode cX0_memberAt 0 = .ok (.iload_n 1, 1) := by decide +kernel
theorem dX0_memberAt_1 : decode cX0_memberAt 1 = .ok (.ifCond .lt 24, 3) := by decide +kernel
theorem dX0_memberAt_4 : decode cX0_memberAt 4 = .ok (.iload_n 1, 1) := by decide +kernel
theorem dX0_memberAt_5 : decode cX0_memberAt 5 = .ok (.aload_n 0, 1) := by decide +kernel
theorem dX0_memberAt_6 : decode cX0_memberAt 6 = .ok (.getfield 51, 3) := by decide +kernel
theorem dX0_memberAt_9 : decode cX0_memberAt 9 = .ok (.if_icmp .ge 16, 3) := by decide +kernel
theorem dX0_memberAt_12 : decode cX0_memberAt 12 = .ok (.iload_n 1, 1) := by decide +kernel
theorem dX0_memberAt_13 : decode cX0_memberAt 13 = .ok (.aload_n 0, 1) := by decide +kernel
theorem dX0_memberAt_14 : decode cX0_memberAt 14 = .ok (.getfield 19, 3) := by decide +kernel
theorem dX0_memberAt_17 : decode cX0_memberAt 17 = .ok (.arraylength, 1) := by decide +kernel
theorem dX0_memberAt_18 : decode cX0_memberAt 18 = .ok (.if_icmp .ge 7, 3) := by decide +kernel
theorem dX0_memberAt_21 : decode cX0_memberAt 21 = .ok (.iconst 1, 1) := by decide +kernel
theorem dX0_memberAt_22 : decode cX0_memberAt 22 = .ok (.goto 4, 3) := by decide +kernel
theorem dX0_memberAt_25 : decode cX0_memberAt 25 = .ok (.iconst 0, 1) := by decide +kernel
theorem dX0_memberAt_26 : decode cX0_memberAt 26 = .ok (.istore_n 2, 1) := by decide +kernel
theorem dX0_memberAt_27 : decode cX0_memberAt 27 = .ok (.iload_n 2, 1) := by decide +kernel
theorem dX0_memberAt_28 : decode cX0_memberAt 28 = .ok (.ifCond .eq 12, 3) := by decide +kernel
theorem dX0_memberAt_31 : decode cX0_memberAt 31 = .ok (.aload_n 0, 1) := by decide +kernel
theorem dX0_memberAt_32 : decode cX0_memberAt 32 = .ok (.getfield 19, 3) := by decide +kernel
theorem dX0_memberAt_35 : decode cX0_memberAt 35 = .ok (.iload_n 1, 1) := by decide +kernel
theorem dX0_memberAt_36 : decode cX0_memberAt 36 = .ok (.aaload, 1) := by decide +kernel
theorem dX0_memberAt_37 : decode cX0_memberAt 37 = .ok (.goto 4, 3) := by decide +kernel
theorem dX0_memberAt_40 : decode cX0_memberAt 40 = .ok (.aconst_null, 1) := by decide +kernel
theorem dX0_memberAt_41 : decode cX0_memberAt 41 = .ok (.areturn, 1) := by decide +kernel
theorem dX0_found_0 : decode cX0_found 0 = .ok (.aload_n 0, 1) := by decide +kernel
theorem dX0_found_1 : decode cX0_found 1 = .ok (.getfield 44, 3) := by decide +kernel
theorem dX0_found_4 : decode cX0_found 4 = .ok (.istore_n 2, 1) := by decide +kernel
theorem dX0_found_5 : decode cX0_found 5 = .ok (.iload_n 2, 1) := by decide +kernel
theorem dX0_found_6 : decode cX0_found 6 = .ok (.ifCond .lt 29, 3) := by decide +kernel
theorem dX0_found_9 : decode cX0_found 9 = .ok (.iload_n 2, 1) := by decide +kernel
theorem dX0_found_10 : decode cX0_found 10 = .ok (.aload_n 0, 1) := by decide +kernel
theorem dX0_found_11 : decode cX0_found 11 = .ok (.getfield 11, 3) := by decide +kernel
theorem dX0_found_14 : decode cX0_found 14 = .ok (.arraylength, 1) := by decide +kernel
theorem dX0_found_15 : decode cX0_found 15 = .ok (.if_icmp .ge 20, 3) := by decide +kernel
theorem dX0_found_18 : decode cX0_found 18 = .ok (.aload_n 0, 1) := by decide +kernel
theorem dX0_found_19 : decode cX0_found 19 = .ok (.getfield 11, 3) := by decide +kernel
theorem dX0_found_22 : decode cX0_found 22 = .ok (.iload_n 2, 1) := by decide +kernel
theorem dX0_found_23 : decode cX0_found 23 = .ok (.aload_n 1, 1) := by decide +kernel
theorem dX0_found_24 : decode cX0_found 24 = .ok (.aastore, 1) := by decide +kernel
theorem dX0_found_25 : decode cX0_found 25 = .ok (.aload_n 0, 1) := by decide +kernel
theorem dX0_found_26 : decode cX0_found 26 = .ok (.dup, 1) := by decide +kernel
theorem dX0_found_27 : decode cX0_found 27 = .ok (.getfield 44, 3) := by decide +kernel
theorem dX0_found_30 : decode cX0_found 30 = .ok (.iconst 1, 1) := by decide +kernel
theorem dX0_found_31 : decode cX0_found 31 = .ok (.iadd, 1) := by decide +kernel
theorem dX0_found_32 : decode cX0_found 32 = .ok (.putfield 44, 3) := by decide +kernel
theorem dX0_found_35 : decode cX0_found 35 = .ok (.iload_n 2, 1) := by decide +kernel
theorem dX0_found_36 : decode cX0_found 36 = .ok (.ireturn, 1) := by decide +kernel
theorem dX0_admit_0 : decode cX0_admit 0 = .ok (.aload_n 0, 1) := by decide +kernel
theorem dX0_admit_1 : decode cX0_admit 1 = .ok (.getfield 51, 3) := by decide +kernel
theorem dX0_admit_4 : decode cX0_admit 4 = .ok (.istore_n 3, 1) := by decide +kernel
theorem dX0_admit_5 : decode cX0_admit 5 = .ok (.aload_n 0, 1) := by decide +kernel
theorem dX0_admit_6 : decode cX0_admit 6 = .ok (.dup, 1) := by decide +kernel
theorem dX0_admit_7 : decode cX0_admit 7 = .ok (.getfield 51, 3) := by decide +kernel
theorem dX0_admit_10 : decode cX0_admit 10 = .ok (.iconst 1, 1) := by decide +kernel
theorem dX0_admit_11 : decode cX0_admit 11 = .ok (.iadd, 1) := by decide +kernel
theorem dX0_admit_12 : decode cX0_admit 12 = .ok (.putfield 51, 3) := by decide +kernel
theorem dX0_admit_15 : decode cX0_admit 15 = .ok (.aload_n 0, 1) := by decide +kernel
theorem dX0_admit_16 : decode cX0_admit 16 = .ok (.iload_n 3, 1) := by decide +kernel
theorem dX0_admit_17 : decode cX0_admit 17 = .ok (.invokevirtual 54, 3) := by decide +kernel
theorem dX0_admit_20 : decode cX0_admit 20 = .ok (.astore 4, 2) := by decide +kernel
theorem dX0_admit_22 : decode cX0_admit 22 = .ok (.aload 4, 2) := by decide +kernel
theorem dX0_admit_24 : decode cX0_admit 24 = .ok (.ifnull 10, 3) := by decide +kernel
theorem dX0_admit_27 : decode cX0_admit 27 = .ok (.aload 4, 2) := by decide +kernel
theorem dX0_admit_29 : decode cX0_admit 29 = .ok (.iload_n 1, 1) := by decide +kernel
theorem dX0_admit_30 : decode cX0_admit 30 = .ok (.iload_n 2, 1) := by decide +kernel
theorem dX0_admit_31 : decode cX0_admit 31 = .ok (.invokevirtual 65, 3) := by decide +kernel
theorem dX0_admit_34 : decode cX0_admit 34 = .ok (.iload_n 3, 1) := by decide +kernel
theorem dX0_admit_35 : decode cX0_admit 35 = .ok (.ireturn, 1) := by decide +kernel
theorem dX0_hearingOf_0 : decode cX0_hearingOf 0 = .ok (.aload_n 0, 1) := by decide +kernel
theorem dX0_hearingOf_1 : decode cX0_hearingOf 1 = .ok (.getfield 36, 3) := by decide +kernel
theorem dX0_hearingOf_4 : decode cX0_hearingOf 4 = .ok (.invokevirtual 68, 3) := by decide +kernel
theorem dX0_hearingOf_7 : decode cX0_hearingOf 7 = .ok (.iconst 0, 1) := by decide +kernel
theorem dX0_hearingOf_8 : decode cX0_hearingOf 8 = .ok (.istore_n 3, 1) := by decide +kernel
theorem dX0_hearingOf_9 : decode cX0_hearingOf 9 = .ok (.iload_n 3, 1) := by decide +kernel
theorem dX0_hearingOf_10 : decode cX0_hearingOf 10 = .ok (.aload_n 0, 1) := by decide +kernel
theorem dX0_hearingOf_11 : decode cX0_hearingOf 11 = .ok (.getfield 44, 3) := by decide +kernel
theorem dX0_hearingOf_14 : decode cX0_hearingOf 14 = .ok (.if_icmp .ge 45, 3) := by decide +kernel
theorem dX0_hearingOf_17 : decode cX0_hearingOf 17 = .ok (.aload_n 0, 1) := by decide +kernel
theorem dX0_hearingOf_18 : decode cX0_hearingOf 18 = .ok (.iload_n 3, 1) := by decide +kernel
theorem dX0_hearingOf_19 : decode cX0_hearingOf 19 = .ok (.invokevirtual 47, 3) := by decide +kernel
theorem dX0_hearingOf_22 : decode cX0_hearingOf 22 = .ok (.astore 4, 2) := by decide +kernel
theorem dX0_hearingOf_24 : decode cX0_hearingOf 24 = .ok (.aload 4, 2) := by decide +kernel
theorem dX0_hearingOf_26 : decode cX0_hearingOf 26 = .ok (.ifnull 27, 3) := by decide +kernel
theorem dX0_hearingOf_29 : decode cX0_hearingOf 29 = .ok (.aload 4, 2) := by decide +kernel
theorem dX0_hearingOf_31 : decode cX0_hearingOf 31 = .ok (.iload_n 2, 1) := by decide +kernel
theorem dX0_hearingOf_32 : decode cX0_hearingOf 32 = .ok (.invokevirtual 71, 3) := by decide +kernel
theorem dX0_hearingOf_35 : decode cX0_hearingOf 35 = .ok (.ifCond .eq 18, 3) := by decide +kernel
theorem dX0_hearingOf_38 : decode cX0_hearingOf 38 = .ok (.aload_n 0, 1) := by decide +kernel
theorem dX0_hearingOf_39 : decode cX0_hearingOf 39 = .ok (.getfield 36, 3) := by decide +kernel
theorem dX0_hearingOf_42 : decode cX0_hearingOf 42 = .ok (.iload_n 3, 1) := by decide +kernel
theorem dX0_hearingOf_43 : decode cX0_hearingOf 43 = .ok (.aload_n 1, 1) := by decide +kernel
theorem dX0_hearingOf_44 : decode cX0_hearingOf 44 = .ok (.aload 4, 2) := by decide +kernel
theorem dX0_hearingOf_46 : decode cX0_hearingOf 46 = .ok (.iload_n 2, 1) := by decide +kernel
theorem dX0_hearingOf_47 : decode cX0_hearingOf 47 = .ok (.invokevirtual 75, 3) := by decide +kernel
theorem dX0_hearingOf_50 : decode cX0_hearingOf 50 = .ok (.invokevirtual 81, 3) := by decide +kernel
theorem dX0_hearingOf_53 : decode cX0_hearingOf 53 = .ok (.iinc 3 1, 3) := by decide +kernel
theorem dX0_hearingOf_56 : decode cX0_hearingOf 56 = .ok (.goto (-47), 3) := by decide +kernel
theorem dX0_hearingOf_59 : decode cX0_hearingOf 59 = .ok (.aload_n 0, 1) := by decide +kernel
theorem dX0_hearingOf_60 : decode cX0_hearingOf 60 = .ok (.getfield 36, 3) := by decide +kernel
theorem dX0_hearingOf_63 : decode cX0_hearingOf 63 = .ok (.areturn, 1) := by decide +kernel
theorem dX0_bestDial_0 : decode cX0_bestDial 0 = .ok (.iconst (-1), 1) := by decide +kernel
theorem dX0_bestDial_1 : decode cX0_bestDial 1 = .ok (.istore_n 3, 1) := by decide +kernel
theorem dX0_bestDial_2 : decode cX0_bestDial 2 = .ok (.iconst 0, 1) := by decide +kernel
theorem dX0_bestDial_3 : decode cX0_bestDial 3 = .ok (.istore 4, 2) := by decide +kernel
theorem dX0_bestDial_5 : decode cX0_bestDial 5 = .ok (.iconst 0, 1) := by decide +kernel
theorem dX0_bestDial_6 : decode cX0_bestDial 6 = .ok (.istore 5, 2) := by decide +kernel
theorem dX0_bestDial_8 : decode cX0_bestDial 8 = .ok (.iload 5, 2) := by decide +kernel
theorem dX0_bestDial_10 : decode cX0_bestDial 10 = .ok (.bipush 100, 2) := by decide +kernel
theorem dX0_bestDial_12 : decode cX0_bestDial 12 = .ok (.if_icmp .gt 59, 3) := by decide +kernel
theorem dX0_bestDial_15 : decode cX0_bestDial 15 = .ok (.aload_n 1, 1) := by decide +kernel
theorem dX0_bestDial_16 : decode cX0_bestDial 16 = .ok (.aload_n 1, 1) := by decide +kernel
theorem dX0_bestDial_17 : decode cX0_bestDial 17 = .ok (.getfield 84, 3) := by decide +kernel
theorem dX0_bestDial_20 : decode cX0_bestDial 20 = .ok (.iload 5, 2) := by decide +kernel
theorem dX0_bestDial_22 : decode cX0_bestDial 22 = .ok (.invokevirtual 87, 3) := by decide +kernel
theorem dX0_bestDial_25 : decode cX0_bestDial 25 = .ok (.aload_n 0, 1) := by decide +kernel
theorem dX0_bestDial_26 : decode cX0_bestDial 26 = .ok (.aload_n 1, 1) := by decide +kernel
theorem dX0_bestDial_27 : decode cX0_bestDial 27 = .ok (.aload_n 0, 1) := by decide +kernel
theorem dX0_bestDial_28 : decode cX0_bestDial 28 = .ok (.getfield 40, 3) := by decide +kernel
theorem dX0_bestDial_31 : decode cX0_bestDial 31 = .ok (.invokevirtual 90, 3) := by decide +kernel
theorem dX0_bestDial_34 : decode cX0_bestDial 34 = .ok (.astore 6, 2) := by decide +kernel
theorem dX0_bestDial_36 : decode cX0_bestDial 36 = .ok (.aload 6, 2) := by decide +kernel
theorem dX0_bestDial_38 : decode cX0_bestDial 38 = .ok (.invokevirtual 94, 3) := by decide +kernel
theorem dX0_bestDial_41 : decode cX0_bestDial 41 = .ok (.iload_n 2, 1) := by decide +kernel
theorem dX0_bestDial_42 : decode cX0_bestDial 42 = .ok (.if_icmp .ne 23, 3) := by decide +kernel
theorem dX0_bestDial_45 : decode cX0_bestDial 45 = .ok (.aload 6, 2) := by decide +kernel
theorem dX0_bestDial_47 : decode cX0_bestDial 47 = .ok (.getfield 98, 3) := by decide +kernel
theorem dX0_bestDial_50 : decode cX0_bestDial 50 = .ok (.iload 4, 2) := by decide +kernel
theorem dX0_bestDial_52 : decode cX0_bestDial 52 = .ok (.if_icmp .le 13, 3) := by decide +kernel
theorem dX0_bestDial_55 : decode cX0_bestDial 55 = .ok (.aload 6, 2) := by decide +kernel
theorem dX0_bestDial_57 : decode cX0_bestDial 57 = .ok (.getfield 98, 3) := by decide +kernel
theorem dX0_bestDial_60 : decode cX0_bestDial 60 = .ok (.istore 4, 2) := by decide +kernel
theorem dX0_bestDial_62 : decode cX0_bestDial 62 = .ok (.iload 5, 2) := by decide +kernel
theorem dX0_bestDial_64 : decode cX0_bestDial 64 = .ok (.istore_n 3, 1) := by decide +kernel
theorem dX0_bestDial_65 : decode cX0_bestDial 65 = .ok (.iinc 5 1, 3) := by decide +kernel
theorem dX0_bestDial_68 : decode cX0_bestDial 68 = .ok (.goto (-60), 3) := by decide +kernel
theorem dX0_bestDial_71 : decode cX0_bestDial 71 = .ok (.iload_n 3, 1) := by decide +kernel
theorem dX0_bestDial_72 : decode cX0_bestDial 72 = .ok (.ireturn, 1) := by decide +kernel
theorem dX0_keepsApart_0 : decode cX0_keepsApart 0 = .ok (.iconst 0, 1) := by decide +kernel
theorem dX0_keepsApart_1 : decode cX0_keepsApart 1 = .ok (.istore 5, 2) := by decide +kernel
theorem dX0_keepsApart_3 : decode cX0_keepsApart 3 = .ok (.iconst 0, 1) := by decide +kernel
theorem dX0_keepsApart_4 : decode cX0_keepsApart 4 = .ok (.istore 6, 2) := by decide +kernel
theorem dX0_keepsApart_6 : decode cX0_keepsApart 6 = .ok (.iconst 0, 1) := by decide +kernel
theorem dX0_keepsApart_7 : decode cX0_keepsApart 7 = .ok (.istore 7, 2) := by decide +kernel
theorem dX0_keepsApart_9 : decode cX0_keepsApart 9 = .ok (.iload 7, 2) := by decide +kernel
theorem dX0_keepsApart_11 : decode cX0_keepsApart 11 = .ok (.bipush 100, 2) := by decide +kernel
theorem dX0_keepsApart_13 : decode cX0_keepsApart 13 = .ok (.if_icmp .gt 112, 3) := by decide +kernel
theorem dX0_keepsApart_16 : decode cX0_keepsApart 16 = .ok (.iload 5, 2) := by decide +kernel
theorem dX0_keepsApart_18 : decode cX0_keepsApart 18 = .ok (.ifCond .eq 8, 3) := by decide +kernel
theorem dX0_keepsApart_21 : decode cX0_keepsApart 21 = .ok (.iload 6, 2) := by decide +kernel
theorem dX0_keepsApart_23 : decode cX0_keepsApart 23 = .ok (.ifCond .ne 102, 3) := by decide +kernel
theorem dX0_keepsApart_26 : decode cX0_keepsApart 26 = .ok (.aload_n 1, 1) := by decide +kernel
theorem dX0_keepsApart_27 : decode cX0_keepsApart 27 = .ok (.iload_n 2, 1) := by decide +kernel
theorem dX0_keepsApart_28 : decode cX0_keepsApart 28 = .ok (.iload 7, 2) := by decide +kernel
theorem dX0_keepsApart_30 : decode cX0_keepsApart 30 = .ok (.invokevirtual 87, 3) := by decide +kernel
theorem dX0_keepsApart_33 : decode cX0_keepsApart 33 = .ok (.aload_n 0, 1) := by decide +kernel
theorem dX0_keepsApart_34 : decode cX0_keepsApart 34 = .ok (.getfield 36, 3) := by decide +kernel
theorem dX0_keepsApart_37 : decode cX0_keepsApart 37 = .ok (.invokevirtual 68, 3) := by decide +kernel
theorem dX0_keepsApart_40 : decode cX0_keepsApart 40 = .ok (.aload_n 0, 1) := by decide +kernel
theorem dX0_keepsApart_41 : decode cX0_keepsApart 41 = .ok (.getfield 36, 3) := by decide +kernel
theorem dX0_keepsApart_44 : decode cX0_keepsApart 44 = .ok (.iconst 0, 1) := by decide +kernel
theorem dX0_keepsApart_45 : decode cX0_keepsApart 45 = .ok (.aload_n 1, 1) := by decide +kernel
theorem dX0_keepsApart_46 : decode cX0_keepsApart 46 = .ok (.aload_n 3, 1) := by decide +kernel
theorem dX0_keepsApart_47 : decode cX0_keepsApart 47 = .ok (.aload_n 0, 1) := by decide +kernel
theorem dX0_keepsApart_48 : decode cX0_keepsApart 48 = .ok (.getfield 40, 3) := by decide +kernel
theorem dX0_keepsApart_51 : decode cX0_keepsApart 51 = .ok (.invokevirtual 75, 3) := by decide +kernel
theorem dX0_keepsApart_54 : decode cX0_keepsApart 54 = .ok (.invokevirtual 81, 3) := by decide +kernel
theorem dX0_keepsApart_57 : decode cX0_keepsApart 57 = .ok (.aload_n 0, 1) := by decide +kernel
theorem dX0_keepsApart_58 : decode cX0_keepsApart 58 = .ok (.getfield 36, 3) := by decide +kernel
theorem dX0_keepsApart_61 : decode cX0_keepsApart 61 = .ok (.iconst 1, 1) := by decide +kernel
theorem dX0_keepsApart_62 : decode cX0_keepsApart 62 = .ok (.aload_n 1, 1) := by decide +kernel
theorem dX0_keepsApart_63 : decode cX0_keepsApart 63 = .ok (.aload 4, 2) := by decide +kernel
theorem dX0_keepsApart_65 : decode cX0_keepsApart 65 = .ok (.aload_n 0, 1) := by decide +kernel
theorem dX0_keepsApart_66 : decode cX0_keepsApart 66 = .ok (.getfield 40, 3) := by decide +kernel
theorem dX0_keepsApart_69 : decode cX0_keepsApart 69 = .ok (.invokevirtual 75, 3) := by decide +kernel
theorem dX0_keepsApart_72 : decode cX0_keepsApart 72 = .ok (.invokevirtual 81, 3) := by decide +kernel
theorem dX0_keepsApart_75 : decode cX0_keepsApart 75 = .ok (.aload_n 0, 1) := by decide +kernel
theorem dX0_keepsApart_76 : decode cX0_keepsApart 76 = .ok (.getfield 36, 3) := by decide +kernel
theorem dX0_keepsApart_79 : decode cX0_keepsApart 79 = .ok (.invokevirtual 94, 3) := by decide +kernel
theorem dX0_keepsApart_82 : decode cX0_keepsApart 82 = .ok (.istore 8, 2) := by decide +kernel
theorem dX0_keepsApart_84 : decode cX0_keepsApart 84 = .ok (.iload 5, 2) := by decide +kernel
theorem dX0_keepsApart_86 : decode cX0_keepsApart 86 = .ok (.ifCond .ne 8, 3) := by decide +kernel
theorem dX0_keepsApart_89 : decode cX0_keepsApart 89 = .ok (.iload 8, 2) := by decide +kernel
theorem dX0_keepsApart_91 : decode cX0_keepsApart 91 = .ok (.ifCond .ne 7, 3) := by decide +kernel
theorem dX0_keepsApart_94 : decode cX0_keepsApart 94 = .ok (.iconst 1, 1) := by decide +kernel
theorem dX0_keepsApart_95 : decode cX0_keepsApart 95 = .ok (.goto 4, 3) := by decide +kernel
theorem dX0_keepsApart_98 : decode cX0_keepsApart 98 = .ok (.iconst 0, 1) := by decide +kernel
theorem dX0_keepsApart_99 : decode cX0_keepsApart 99 = .ok (.istore 5, 2) := by decide +kernel
theorem dX0_keepsApart_101 : decode cX0_keepsApart 101 = .ok (.iload 6, 2) := by decide +kernel
theorem dX0_keepsApart_103 : decode cX0_keepsApart 103 = .ok (.ifCond .ne 9, 3) := by decide +kernel
theorem dX0_keepsApart_106 : decode cX0_keepsApart 106 = .ok (.iload 8, 2) := by decide +kernel
theorem dX0_keepsApart_108 : decode cX0_keepsApart 108 = .ok (.iconst 1, 1) := by decide +kernel
theorem dX0_keepsApart_109 : decode cX0_keepsApart 109 = .ok (.if_icmp .ne 7, 3) := by decide +kernel
theorem dX0_keepsApart_112 : decode cX0_keepsApart 112 = .ok (.iconst 1, 1) := by decide +kernel
theorem dX0_keepsApart_113 : decode cX0_keepsApart 113 = .ok (.goto 4, 3) := by decide +kernel
theorem dX0_keepsApart_116 : decode cX0_keepsApart 116 = .ok (.iconst 0, 1) := by decide +kernel
theorem dX0_keepsApart_117 : decode cX0_keepsApart 117 = .ok (.istore 6, 2) := by decide +kernel
theorem dX0_keepsApart_119 : decode cX0_keepsApart 119 = .ok (.iinc 7 1, 3) := by decide +kernel
theorem dX0_keepsApart_122 : decode cX0_keepsApart 122 = .ok (.goto (-113), 3) := by decide +kernel
theorem dX0_keepsApart_125 : decode cX0_keepsApart 125 = .ok (.iload 5, 2) := by decide +kernel
theorem dX0_keepsApart_127 : decode cX0_keepsApart 127 = .ok (.ifCond .eq 12, 3) := by decide +kernel
theorem dX0_keepsApart_130 : decode cX0_keepsApart 130 = .ok (.iload 6, 2) := by decide +kernel
theorem dX0_keepsApart_132 : decode cX0_keepsApart 132 = .ok (.ifCond .eq 7, 3) := by decide +kernel
theorem dX0_keepsApart_135 : decode cX0_keepsApart 135 = .ok (.iconst 1, 1) := by decide +kernel
theorem dX0_keepsApart_136 : decode cX0_keepsApart 136 = .ok (.goto 4, 3) := by decide +kernel
theorem dX0_keepsApart_139 : decode cX0_keepsApart 139 = .ok (.iconst 0, 1) := by decide +kernel
theorem dX0_keepsApart_140 : decode cX0_keepsApart 140 = .ok (.ireturn, 1) := by decide +kernel
theorem dX0_passHours_0 : decode cX0_passHours 0 = .ok (.iconst 0, 1) := by decide +kernel
theorem dX0_passHours_1 : decode cX0_passHours 1 = .ok (.istore_n 2, 1) := by decide +kernel
theorem dX0_passHours_2 : decode cX0_passHours 2 = .ok (.iconst 0, 1) := by decide +kernel
theorem dX0_passHours_3 : decode cX0_passHours 3 = .ok (.istore_n 3, 1) := by decide +kernel
theorem dX0_passHours_4 : decode cX0_passHours 4 = .ok (.iload_n 3, 1) := by decide +kernel
theorem dX0_passHours_5 : decode cX0_passHours 5 = .ok (.iload_n 1, 1) := by decide +kernel
theorem dX0_passHours_6 : decode cX0_passHours 6 = .ok (.if_icmp .ge 34, 3) := by decide +kernel
theorem dX0_passHours_9 : decode cX0_passHours 9 = .ok (.iload_n 2, 1) := by decide +kernel
theorem dX0_passHours_10 : decode cX0_passHours 10 = .ok (.aload_n 0, 1) := by decide +kernel
theorem dX0_passHours_11 : decode cX0_passHours 11 = .ok (.invokevirtual 101, 3) := by decide +kernel
theorem dX0_passHours_14 : decode cX0_passHours 14 = .ok (.iadd, 1) := by decide +kernel
theorem dX0_passHours_15 : decode cX0_passHours 15 = .ok (.istore_n 2, 1) := by decide +kernel
theorem dX0_passHours_16 : decode cX0_passHours 16 = .ok (.aload_n 0, 1) := by decide +kernel
theorem dX0_passHours_17 : decode cX0_passHours 17 = .ok (.invokevirtual 104, 3) := by decide +kernel
theorem dX0_passHours_20 : decode cX0_passHours 20 = .ok (.aload_n 0, 1) := by decide +kernel
theorem dX0_passHours_21 : decode cX0_passHours 21 = .ok (.invokevirtual 107, 3) := by decide +kernel
theorem dX0_passHours_24 : decode cX0_passHours 24 = .ok (.aload_n 0, 1) := by decide +kernel
theorem dX0_passHours_25 : decode cX0_passHours 25 = .ok (.dup, 1) := by decide +kernel
theorem dX0_passHours_26 : decode cX0_passHours 26 = .ok (.getfield 40, 3) := by decide +kernel
theorem dX0_passHours_29 : decode cX0_passHours 29 = .ok (.iconst 1, 1) := by decide +kernel
theorem dX0_passHours_30 : decode cX0_passHours 30 = .ok (.iadd, 1) := by decide +kernel
theorem dX0_passHours_31 : decode cX0_passHours 31 = .ok (.putfield 40, 3) := by decide +kernel
theorem dX0_passHours_34 : decode cX0_passHours 34 = .ok (.iinc 3 1, 3) := by decide +kernel
theorem dX0_passHours_37 : decode cX0_passHours 37 = .ok (.goto (-33), 3) := by decide +kernel
theorem dX0_passHours_40 : decode cX0_passHours 40 = .ok (.iload_n 2, 1) := by decide +kernel
theorem dX0_passHours_41 : decode cX0_passHours 41 = .ok (.ireturn, 1) := by decide +kernel
theorem dX0_writeLines_0 : decode cX0_writeLines 0 = .ok (.iconst 0, 1) := by decide +kernel
theorem dX0_writeLines_1 : decode cX0_writeLines 1 = .ok (.istore_n 1, 1) := by decide +kernel
theorem dX0_writeLines_2 : decode cX0_writeLines 2 = .ok (.iconst 0, 1) := by decide +kernel
theorem dX0_writeLines_3 : decode cX0_writeLines 3 = .ok (.istore_n 2, 1) := by decide +kernel
theorem dX0_writeLines_4 : decode cX0_writeLines 4 = .ok (.iload_n 2, 1) := by decide +kernel
theorem dX0_writeLines_5 : decode cX0_writeLines 5 = .ok (.aload_n 0, 1) := by decide +kernel
theorem dX0_writeLines_6 : decode cX0_writeLines 6 = .ok (.getfield 51, 3) := by decide +kernel
theorem dX0_writeLines_9 : decode cX0_writeLines 9 = .ok (.if_icmp .ge 47, 3) := by decide +kernel
theorem dX0_writeLines_12 : decode cX0_writeLines 12 = .ok (.aload_n 0, 1) := by decide +kernel
theorem dX0_writeLines_13 : decode cX0_writeLines 13 = .ok (.iload_n 2, 1) := by decide +kernel
theorem dX0_writeLines_14 : decode cX0_writeLines 14 = .ok (.invokevirtual 54, 3) := by decide +kernel
theorem dX0_writeLines_17 : decode cX0_writeLines 17 = .ok (.astore_n 3, 1) := by decide +kernel
theorem dX0_writeLines_18 : decode cX0_writeLines 18 = .ok (.aload_n 3, 1) := by decide +kernel
theorem dX0_writeLines_19 : decode cX0_writeLines 19 = .ok (.ifnull 31, 3) := by decide +kernel
theorem dX0_writeLines_22 : decode cX0_writeLines 22 = .ok (.aload_n 3, 1) := by decide +kernel
theorem dX0_writeLines_23 : decode cX0_writeLines 23 = .ok (.getfield 110, 3) := by decide +kernel
theorem dX0_writeLines_26 : decode cX0_writeLines 26 = .ok (.ifCond .eq 24, 3) := by decide +kernel
theorem dX0_writeLines_29 : decode cX0_writeLines 29 = .ok (.aload_n 3, 1) := by decide +kernel
theorem dX0_writeLines_30 : decode cX0_writeLines 30 = .ok (.getfield 114, 3) := by decide +kernel
theorem dX0_writeLines_33 : decode cX0_writeLines 33 = .ok (.invokevirtual 117, 3) := by decide +kernel
theorem dX0_writeLines_36 : decode cX0_writeLines 36 = .ok (.ifCond .ne 14, 3) := by decide +kernel
theorem dX0_writeLines_39 : decode cX0_writeLines 39 = .ok (.aload_n 0, 1) := by decide +kernel
theorem dX0_writeLines_40 : decode cX0_writeLines 40 = .ok (.aload_n 3, 1) := by decide +kernel
theorem dX0_writeLines_41 : decode cX0_writeLines 41 = .ok (.invokevirtual 121, 3) := by decide +kernel
theorem dX0_writeLines_44 : decode cX0_writeLines 44 = .ok (.ifCond .eq 6, 3) := by decide +kernel
theorem dX0_writeLines_47 : decode cX0_writeLines 47 = .ok (.iinc 1 1, 3) := by decide +kernel
theorem dX0_writeLines_50 : decode cX0_writeLines 50 = .ok (.iinc 2 1, 3) := by decide +kernel
theorem dX0_writeLines_53 : decode cX0_writeLines 53 = .ok (.goto (-49), 3) := by decide +kernel
theorem dX0_writeLines_56 : decode cX0_writeLines 56 = .ok (.iload_n 1, 1) := by decide +kernel
theorem dX0_writeLines_57 : decode cX0_writeLines 57 = .ok (.ireturn, 1) := by decide +kernel
theorem dX0_writeLine_0 : decode cX0_writeLine 0 = .ok (.aload_n 0, 1) := by decide +kernel
theorem dX0_writeLine_1 : decode cX0_writeLine 1 = .ok (.aload_n 1, 1) := by decide +kernel
theorem dX0_writeLine_2 : decode cX0_writeLine 2 = .ok (.getfield 125, 3) := by decide +kernel
theorem dX0_writeLine_5 : decode cX0_writeLine 5 = .ok (.aload_n 0, 1) := by decide +kernel
theorem dX0_writeLine_6 : decode cX0_writeLine 6 = .ok (.getfield 40, 3) := by decide +kernel
theorem dX0_writeLine_9 : decode cX0_writeLine 9 = .ok (.invokevirtual 90, 3) := by decide +kernel
theorem dX0_writeLine_12 : decode cX0_writeLine 12 = .ok (.astore_n 2, 1) := by decide +kernel
theorem dX0_writeLine_13 : decode cX0_writeLine 13 = .ok (.aload_n 2, 1) := by decide +kernel
theorem dX0_writeLine_14 : decode cX0_writeLine 14 = .ok (.invokevirtual 94, 3) := by decide +kernel
theorem dX0_writeLine_17 : decode cX0_writeLine 17 = .ok (.istore_n 3, 1) := by decide +kernel
theorem dX0_writeLine_18 : decode cX0_writeLine 18 = .ok (.iload_n 3, 1) := by decide +kernel
theorem dX0_writeLine_19 : decode cX0_writeLine 19 = .ok (.ifCond .lt 18, 3) := by decide +kernel
theorem dX0_writeLine_22 : decode cX0_writeLine 22 = .ok (.aload_n 1, 1) := by decide +kernel
theorem dX0_writeLine_23 : decode cX0_writeLine 23 = .ok (.iload_n 3, 1) := by decide +kernel
theorem dX0_writeLine_24 : decode cX0_writeLine 24 = .ok (.aload_n 0, 1) := by decide +kernel
theorem dX0_writeLine_25 : decode cX0_writeLine 25 = .ok (.getfield 40, 3) := by decide +kernel
theorem dX0_writeLine_28 : decode cX0_writeLine 28 = .ok (.bipush 24, 2) := by decide +kernel
theorem dX0_writeLine_30 : decode cX0_writeLine 30 = .ok (.idiv, 1) := by decide +kernel
theorem dX0_writeLine_31 : decode cX0_writeLine 31 = .ok (.invokevirtual 129, 3) := by decide +kernel
theorem dX0_writeLine_34 : decode cX0_writeLine 34 = .ok (.ifCond .eq 5, 3) := by decide +kernel
theorem dX0_writeLine_37 : decode cX0_writeLine 37 = .ok (.iconst 0, 1) := by decide +kernel
theorem dX0_writeLine_38 : decode cX0_writeLine 38 = .ok (.ireturn, 1) := by decide +kernel
theorem dX0_writeLine_39 : decode cX0_writeLine 39 = .ok (.aload_n 1, 1) := by decide +kernel
theorem dX0_writeLine_40 : decode cX0_writeLine 40 = .ok (.aload_n 0, 1) := by decide +kernel
theorem dX0_writeLine_41 : decode cX0_writeLine 41 = .ok (.getfield 40, 3) := by decide +kernel
theorem dX0_writeLine_44 : decode cX0_writeLine 44 = .ok (.iload_n 3, 1) := by decide +kernel
theorem dX0_writeLine_45 : decode cX0_writeLine 45 = .ok (.aload_n 2, 1) := by decide +kernel
theorem dX0_writeLine_46 : decode cX0_writeLine 46 = .ok (.getfield 98, 3) := by decide +kernel
theorem dX0_writeLine_49 : decode cX0_writeLine 49 = .ok (.invokevirtual 133, 3) := by decide +kernel
theorem dX0_writeLine_52 : decode cX0_writeLine 52 = .ok (.iconst 1, 1) := by decide +kernel
theorem dX0_writeLine_53 : decode cX0_writeLine 53 = .ok (.ireturn, 1) := by decide +kernel
theorem dX0_wearCrystals_0 : decode cX0_wearCrystals 0 = .ok (.aload_n 0, 1) := by decide +kernel
theorem dX0_wearCrystals_1 : decode cX0_wearCrystals 1 = .ok (.getfield 40, 3) := by decide +kernel
theorem dX0_wearCrystals_4 : decode cX0_wearCrystals 4 = .ok (.bipush 6, 2) := by decide +kernel
theorem dX0_wearCrystals_6 : decode cX0_wearCrystals 6 = .ok (.irem, 1) := by decide +kernel
theorem dX0_wearCrystals_7 : decode cX0_wearCrystals 7 = .ok (.ifCond .eq 4, 3) := by decide +kernel
theorem dX0_wearCrystals_10 : decode cX0_wearCrystals 10 = .ok (.return_, 1) := by decide +kernel
theorem dX0_wearCrystals_11 : decode cX0_wearCrystals 11 = .ok (.iconst 0, 1) := by decide +kernel
theorem dX0_wearCrystals_12 : decode cX0_wearCrystals 12 = .ok (.istore_n 1, 1) := by decide +kernel
theorem dX0_wearCrystals_13 : decode cX0_wearCrystals 13 = .ok (.iload_n 1, 1) := by decide +kernel
theorem dX0_wearCrystals_14 : decode cX0_wearCrystals 14 = .ok (.aload_n 0, 1) := by decide +kernel
theorem dX0_wearCrystals_15 : decode cX0_wearCrystals 15 = .ok (.getfield 51, 3) := by decide +kernel
theorem dX0_wearCrystals_18 : decode cX0_wearCrystals 18 = .ok (.if_icmp .ge 23, 3) := by decide +kernel
theorem dX0_wearCrystals_21 : decode cX0_wearCrystals 21 = .ok (.aload_n 0, 1) := by decide +kernel
theorem dX0_wearCrystals_22 : decode cX0_wearCrystals 22 = .ok (.iload_n 1, 1) := by decide +kernel
theorem dX0_wearCrystals_23 : decode cX0_wearCrystals 23 = .ok (.invokevirtual 54, 3) := by decide +kernel
theorem dX0_wearCrystals_26 : decode cX0_wearCrystals 26 = .ok (.astore_n 2, 1) := by decide +kernel
theorem dX0_wearCrystals_27 : decode cX0_wearCrystals 27 = .ok (.aload_n 2, 1) := by decide +kernel
theorem dX0_wearCrystals_28 : decode cX0_wearCrystals 28 = .ok (.ifnull 7, 3) := by decide +kernel
theorem dX0_wearCrystals_31 : decode cX0_wearCrystals 31 = .ok (.aload_n 2, 1) := by decide +kernel
theorem dX0_wearCrystals_32 : decode cX0_wearCrystals 32 = .ok (.invokevirtual 137, 3) := by decide +kernel
theorem dX0_wearCrystals_35 : decode cX0_wearCrystals 35 = .ok (.iinc 1 1, 3) := by decide +kernel
theorem dX0_wearCrystals_38 : decode cX0_wearCrystals 38 = .ok (.goto (-25), 3) := by decide +kernel
theorem dX0_wearCrystals_41 : decode cX0_wearCrystals 41 = .ok (.return_, 1) := by decide +kernel
theorem dX0_answerLetters_0 : decode cX0_answerLetters 0 = .ok (.iconst 0, 1) := by decide +kernel
theorem dX0_answerLetters_1 : decode cX0_answerLetters 1 = .ok (.istore_n 1, 1) := by decide +kernel
theorem dX0_answerLetters_2 : decode cX0_answerLetters 2 = .ok (.iconst 0, 1) := by decide +kernel
theorem dX0_answerLetters_3 : decode cX0_answerLetters 3 = .ok (.istore_n 2, 1) := by decide +kernel
theorem dX0_answerLetters_4 : decode cX0_answerLetters 4 = .ok (.iload_n 2, 1) := by decide +kernel
theorem dX0_answerLetters_5 : decode cX0_answerLetters 5 = .ok (.aload_n 0, 1) := by decide +kernel
theorem dX0_answerLetters_6 : decode cX0_answerLetters 6 = .ok (.getfield 29, 3) := by decide +kernel
theorem dX0_answerLetters_9 : decode cX0_answerLetters 9 = .ok (.getfield 140, 3) := by decide +kernel
theorem dX0_answerLetters_12 : decode cX0_answerLetters 12 = .ok (.if_icmp .ge 62, 3) := by decide +kernel
theorem dX0_answerLetters_15 : decode cX0_answerLetters 15 = .ok (.aload_n 0, 1) := by decide +kernel
theorem dX0_answerLetters_16 : decode cX0_answerLetters 16 = .ok (.getfield 29, 3) := by decide +kernel
theorem dX0_answerLetters_19 : decode cX0_answerLetters 19 = .ok (.iload_n 2, 1) := by decide +kernel
theorem dX0_answerLetters_20 : decode cX0_answerLetters 20 = .ok (.iconst 2, 1) := by decide +kernel
theorem dX0_answerLetters_21 : decode cX0_answerLetters 21 = .ok (.invokevirtual 143, 3) := by decide +kernel
theorem dX0_answerLetters_24 : decode cX0_answerLetters 24 = .ok (.aload_n 0, 1) := by decide +kernel
theorem dX0_answerLetters_25 : decode cX0_answerLetters 25 = .ok (.getfield 40, 3) := by decide +kernel
theorem dX0_answerLetters_28 : decode cX0_answerLetters 28 = .ok (.if_icmp .le 18, 3) := by decide +kernel
theorem dX0_answerLetters_31 : decode cX0_answerLetters 31 = .ok (.aload_n 0, 1) := by decide +kernel
theorem dX0_answerLetters_32 : decode cX0_answerLetters 32 = .ok (.getfield 29, 3) := by decide +kernel
theorem dX0_answerLetters_35 : decode cX0_answerLetters 35 = .ok (.iload_n 2, 1) := by decide +kernel
theorem dX0_answerLetters_36 : decode cX0_answerLetters 36 = .ok (.iload_n 1, 1) := by decide +kernel
theorem dX0_answerLetters_37 : decode cX0_answerLetters 37 = .ok (.invokevirtual 147, 3) := by decide +kernel
theorem dX0_answerLetters_40 : decode cX0_answerLetters 40 = .ok (.iinc 1 1, 3) := by decide +kernel
theorem dX0_answerLetters_43 : decode cX0_answerLetters 43 = .ok (.goto 25, 3) := by decide +kernel
theorem dX0_answerLetters_46 : decode cX0_answerLetters 46 = .ok (.aload_n 0, 1) := by decide +kernel
theorem dX0_answerLetters_47 : decode cX0_answerLetters 47 = .ok (.aload_n 0, 1) := by decide +kernel
theorem dX0_answerLetters_48 : decode cX0_answerLetters 48 = .ok (.getfield 29, 3) := by decide +kernel
theorem dX0_answerLetters_51 : decode cX0_answerLetters 51 = .ok (.iload_n 2, 1) := by decide +kernel
theorem dX0_answerLetters_52 : decode cX0_answerLetters 52 = .ok (.iconst 0, 1) := by decide +kernel
theorem dX0_answerLetters_53 : decode cX0_answerLetters 53 = .ok (.invokevirtual 143, 3) := by decide +kernel
theorem dX0_answerLetters_56 : decode cX0_answerLetters 56 = .ok (.aload_n 0, 1) := by decide +kernel
theorem dX0_answerLetters_57 : decode cX0_answerLetters 57 = .ok (.getfield 29, 3) := by decide +kernel
theorem dX0_answerLetters_60 : decode cX0_answerLetters 60 = .ok (.iload_n 2, 1) := by decide +kernel
theorem dX0_answerLetters_61 : decode cX0_answerLetters 61 = .ok (.iconst 1, 1) := by decide +kernel
theorem dX0_answerLetters_62 : decode cX0_answerLetters 62 = .ok (.invokevirtual 143, 3) := by decide +kernel
theorem dX0_answerLetters_65 : decode cX0_answerLetters 65 = .ok (.invokevirtual 150, 3) := by decide +kernel
theorem dX0_answerLetters_68 : decode cX0_answerLetters 68 = .ok (.iinc 2 1, 3) := by decide +kernel
theorem dX0_answerLetters_71 : decode cX0_answerLetters 71 = .ok (.goto (-67), 3) := by decide +kernel
theorem dX0_answerLetters_74 : decode cX0_answerLetters 74 = .ok (.aload_n 0, 1) := by decide +kernel
theorem dX0_answerLetters_75 : decode cX0_answerLetters 75 = .ok (.getfield 29, 3) := by decide +kernel
theorem dX0_answerLetters_78 : decode cX0_answerLetters 78 = .ok (.iload_n 1, 1) := by decide +kernel
theorem dX0_answerLetters_79 : decode cX0_answerLetters 79 = .ok (.putfield 140, 3) := by decide +kernel
theorem dX0_answerLetters_82 : decode cX0_answerLetters 82 = .ok (.return_, 1) := by decide +kernel
theorem dX0_answer_0 : decode cX0_answer 0 = .ok (.aload_n 0, 1) := by decide +kernel
theorem dX0_answer_1 : decode cX0_answer 1 = .ok (.iload_n 1, 1) := by decide +kernel
theorem dX0_answer_2 : decode cX0_answer 2 = .ok (.invokevirtual 54, 3) := by decide +kernel
theorem dX0_answer_5 : decode cX0_answer 5 = .ok (.astore_n 3, 1) := by decide +kernel
theorem dX0_answer_6 : decode cX0_answer 6 = .ok (.aload_n 3, 1) := by decide +kernel
theorem dX0_answer_7 : decode cX0_answer 7 = .ok (.ifnull 8, 3) := by decide +kernel
theorem dX0_answer_10 : decode cX0_answer 10 = .ok (.aload_n 3, 1) := by decide +kernel
theorem dX0_answer_11 : decode cX0_answer 11 = .ok (.iload_n 2, 1) := by decide +kernel
theorem dX0_answer_12 : decode cX0_answer 12 = .ok (.invokevirtual 153, 3) := by decide +kernel
theorem dX0_answer_15 : decode cX0_answer 15 = .ok (.return_, 1) := by decide +kernel
theorem dX0_hasLetterOf_0 : decode cX0_hasLetterOf 0 = .ok (.iconst 0, 1) := by decide +kernel
theorem dX0_hasLetterOf_1 : decode cX0_hasLetterOf 1 = .ok (.istore_n 3, 1) := by decide +kernel
theorem dX0_hasLetterOf_2 : decode cX0_hasLetterOf 2 = .ok (.iload_n 3, 1) := by decide +kernel
theorem dX0_hasLetterOf_3 : decode cX0_hasLetterOf 3 = .ok (.aload_n 0, 1) := by decide +kernel
theorem dX0_hasLetterOf_4 : decode cX0_hasLetterOf 4 = .ok (.getfield 29, 3) := by decide +kernel
theorem dX0_hasLetterOf_7 : decode cX0_hasLetterOf 7 = .ok (.getfield 140, 3) := by decide +kernel
theorem dX0_hasLetterOf_10 : decode cX0_hasLetterOf 10 = .ok (.if_icmp .ge 37, 3) := by decide +kernel
theorem dX0_hasLetterOf_13 : decode cX0_hasLetterOf 13 = .ok (.aload_n 0, 1) := by decide +kernel
theorem dX0_hasLetterOf_14 : decode cX0_hasLetterOf 14 = .ok (.getfield 29, 3) := by decide +kernel
theorem dX0_hasLetterOf_17 : decode cX0_hasLetterOf 17 = .ok (.iload_n 3, 1) := by decide +kernel
theorem dX0_hasLetterOf_18 : decode cX0_hasLetterOf 18 = .ok (.iconst 0, 1) := by decide +kernel
theorem dX0_hasLetterOf_19 : decode cX0_hasLetterOf 19 = .ok (.invokevirtual 143, 3) := by decide +kernel
theorem dX0_hasLetterOf_22 : decode cX0_hasLetterOf 22 = .ok (.iload_n 1, 1) := by decide +kernel
theorem dX0_hasLetterOf_23 : decode cX0_hasLetterOf 23 = .ok (.if_icmp .ne 18, 3) := by decide +kernel
theorem dX0_hasLetterOf_26 : decode cX0_hasLetterOf 26 = .ok (.aload_n 0, 1) := by decide +kernel
theorem dX0_hasLetterOf_27 : decode cX0_hasLetterOf 27 = .ok (.getfield 29, 3) := by decide +kernel
theorem dX0_hasLetterOf_30 : decode cX0_hasLetterOf 30 = .ok (.iload_n 3, 1) := by decide +kernel
theorem dX0_hasLetterOf_31 : decode cX0_hasLetterOf 31 = .ok (.iconst 1, 1) := by decide +kernel
theorem dX0_hasLetterOf_32 : decode cX0_hasLetterOf 32 = .ok (.invokevirtual 143, 3) := by decide +kernel
theorem dX0_hasLetterOf_35 : decode cX0_hasLetterOf 35 = .ok (.iload_n 2, 1) := by decide +kernel
theorem dX0_hasLetterOf_36 : decode cX0_hasLetterOf 36 = .ok (.if_icmp .ne 5, 3) := by decide +kernel
theorem dX0_hasLetterOf_39 : decode cX0_hasLetterOf 39 = .ok (.iconst 1, 1) := by decide +kernel
theorem dX0_hasLetterOf_40 : decode cX0_hasLetterOf 40 = .ok (.ireturn, 1) := by decide +kernel
theorem dX0_hasLetterOf_41 : decode cX0_hasLetterOf 41 = .ok (.iinc 3 1, 3) := by decide +kernel
theorem dX0_hasLetterOf_44 : decode cX0_hasLetterOf 44 = .ok (.goto (-42), 3) := by decide +kernel
theorem dX0_hasLetterOf_47 : decode cX0_hasLetterOf 47 = .ok (.iconst 0, 1) := by decide +kernel
theorem dX0_hasLetterOf_48 : decode cX0_hasLetterOf 48 = .ok (.ireturn, 1) := by decide +kernel
theorem dX0_send_0 : decode cX0_send 0 = .ok (.aload_n 0, 1) := by decide +kernel
theorem dX0_send_1 : decode cX0_send 1 = .ok (.iload_n 1, 1) := by decide +kernel
theorem dX0_send_2 : decode cX0_send 2 = .ok (.invokevirtual 54, 3) := by decide +kernel
theorem dX0_send_5 : decode cX0_send 5 = .ok (.astore_n 3, 1) := by decide +kernel
theorem dX0_send_6 : decode cX0_send 6 = .ok (.aload_n 3, 1) := by decide +kernel
theorem dX0_send_7 : decode cX0_send 7 = .ok (.ifnonnull 7, 3) := by decide +kernel
theorem dX0_send_10 : decode cX0_send 10 = .ok (.aconst_null, 1) := by decide +kernel
theorem dX0_send_11 : decode cX0_send 11 = .ok (.goto 16, 3) := by decide +kernel
theorem dX0_send_14 : decode cX0_send 14 = .ok (.aload_n 0, 1) := by decide +kernel
theorem dX0_send_15 : decode cX0_send 15 = .ok (.aload_n 3, 1) := by decide +kernel
theorem dX0_send_16 : decode cX0_send 16 = .ok (.getfield 114, 3) := by decide +kernel
theorem dX0_send_19 : decode cX0_send 19 = .ok (.iload_n 2, 1) := by decide +kernel
theorem dX0_send_20 : decode cX0_send 20 = .ok (.iconst 1, 1) := by decide +kernel
theorem dX0_send_21 : decode cX0_send 21 = .ok (.invokevirtual 143, 3) := by decide +kernel
theorem dX0_send_24 : decode cX0_send 24 = .ok (.invokevirtual 47, 3) := by decide +kernel
theorem dX0_send_27 : decode cX0_send 27 = .ok (.astore 4, 2) := by decide +kernel
theorem dX0_send_29 : decode cX0_send 29 = .ok (.aload 4, 2) := by decide +kernel
theorem dX0_send_31 : decode cX0_send 31 = .ok (.ifnonnull 10, 3) := by decide +kernel
theorem dX0_send_34 : decode cX0_send 34 = .ok (.aload_n 0, 1) := by decide +kernel
theorem dX0_send_35 : decode cX0_send 35 = .ok (.getfield 40, 3) := by decide +kernel
theorem dX0_send_38 : decode cX0_send 38 = .ok (.goto 16, 3) := by decide +kernel
theorem dX0_send_41 : decode cX0_send 41 = .ok (.aload_n 0, 1) := by decide +kernel
theorem dX0_send_42 : decode cX0_send 42 = .ok (.getfield 40, 3) := by decide +kernel
theorem dX0_send_45 : decode cX0_send 45 = .ok (.aload 4, 2) := by decide +kernel
theorem dX0_send_47 : decode cX0_send 47 = .ok (.invokevirtual 157, 3) := by decide +kernel
theorem dX0_send_50 : decode cX0_send 50 = .ok (.bipush 24, 2) := by decide +kernel
theorem dX0_send_52 : decode cX0_send 52 = .ok (.imul, 1) := by decide +kernel
theorem dX0_send_53 : decode cX0_send 53 = .ok (.iadd, 1) := by decide +kernel
theorem dX0_send_54 : decode cX0_send 54 = .ok (.istore 5, 2) := by decide +kernel
theorem dX0_send_56 : decode cX0_send 56 = .ok (.aload_n 0, 1) := by decide +kernel
theorem dX0_send_57 : decode cX0_send 57 = .ok (.getfield 29, 3) := by decide +kernel
theorem dX0_send_60 : decode cX0_send 60 = .ok (.getfield 140, 3) := by decide +kernel
theorem dX0_send_63 : decode cX0_send 63 = .ok (.istore 6, 2) := by decide +kernel
theorem dX0_send_65 : decode cX0_send 65 = .ok (.aload_n 0, 1) := by decide +kernel
theorem dX0_send_66 : decode cX0_send 66 = .ok (.getfield 29, 3) := by decide +kernel
theorem dX0_send_69 : decode cX0_send 69 = .ok (.iload 6, 2) := by decide +kernel
theorem dX0_send_71 : decode cX0_send 71 = .ok (.iconst 0, 1) := by decide +kernel
theorem dX0_send_72 : decode cX0_send 72 = .ok (.iload_n 1, 1) := by decide +kernel
theorem dX0_send_73 : decode cX0_send 73 = .ok (.invokevirtual 160, 3) := by decide +kernel
theorem dX0_send_76 : decode cX0_send 76 = .ok (.aload_n 0, 1) := by decide +kernel
theorem dX0_send_77 : decode cX0_send 77 = .ok (.getfield 29, 3) := by decide +kernel
theorem dX0_send_80 : decode cX0_send 80 = .ok (.iload 6, 2) := by decide +kernel
theorem dX0_send_82 : decode cX0_send 82 = .ok (.iconst 1, 1) := by decide +kernel
theorem dX0_send_83 : decode cX0_send 83 = .ok (.iload_n 2, 1) := by decide +kernel
theorem dX0_send_84 : decode cX0_send 84 = .ok (.invokevirtual 160, 3) := by decide +kernel
theorem dX0_send_87 : decode cX0_send 87 = .ok (.aload_n 0, 1) := by decide +kernel
theorem dX0_send_88 : decode cX0_send 88 = .ok (.getfield 29, 3) := by decide +kernel
theorem dX0_send_91 : decode cX0_send 91 = .ok (.iload 6, 2) := by decide +kernel
theorem dX0_send_93 : decode cX0_send 93 = .ok (.iconst 2, 1) := by decide +kernel
theorem dX0_send_94 : decode cX0_send 94 = .ok (.iload 5, 2) := by decide +kernel
theorem dX0_send_96 : decode cX0_send 96 = .ok (.invokevirtual 160, 3) := by decide +kernel
theorem dX0_send_99 : decode cX0_send 99 = .ok (.aload_n 0, 1) := by decide +kernel
theorem dX0_send_100 : decode cX0_send 100 = .ok (.getfield 29, 3) := by decide +kernel
theorem dX0_send_103 : decode cX0_send 103 = .ok (.dup, 1) := by decide +kernel
theorem dX0_send_104 : decode cX0_send 104 = .ok (.getfield 140, 3) := by decide +kernel
theorem dX0_send_107 : decode cX0_send 107 = .ok (.iconst 1, 1) := by decide +kernel
theorem dX0_send_108 : decode cX0_send 108 = .ok (.iadd, 1) := by decide +kernel
theorem dX0_send_109 : decode cX0_send 109 = .ok (.putfield 140, 3) := by decide +kernel
theorem dX0_send_112 : decode cX0_send 112 = .ok (.iload 5, 2) := by decide +kernel
theorem dX0_send_114 : decode cX0_send 114 = .ok (.ireturn, 1) := by decide +kernel
theorem dX0_scoreOf_0 : decode cX0_scoreOf 0 = .ok (.aload_n 1, 1) := by decide +kernel
theorem dX0_scoreOf_1 : decode cX0_scoreOf 1 = .ok (.invokevirtual 163, 3) := by decide +kernel
theorem dX0_scoreOf_4 : decode cX0_scoreOf 4 = .ok (.istore_n 2, 1) := by decide +kernel
theorem dX0_scoreOf_5 : decode cX0_scoreOf 5 = .ok (.iconst 0, 1) := by decide +kernel
theorem dX0_scoreOf_6 : decode cX0_scoreOf 6 = .ok (.istore_n 3, 1) := by decide +kernel
theorem dX0_scoreOf_7 : decode cX0_scoreOf 7 = .ok (.iconst 0, 1) := by decide +kernel
theorem dX0_scoreOf_8 : decode cX0_scoreOf 8 = .ok (.istore 4, 2) := by decide +kernel
theorem dX0_scoreOf_10 : decode cX0_scoreOf 10 = .ok (.iload 4, 2) := by decide +kernel
theorem dX0_scoreOf_12 : decode cX0_scoreOf 12 = .ok (.aload_n 0, 1) := by decide +kernel
theorem dX0_scoreOf_13 : decode cX0_scoreOf 13 = .ok (.getfield 44, 3) := by decide +kernel
theorem dX0_scoreOf_16 : decode cX0_scoreOf 16 = .ok (.if_icmp .ge 39, 3) := by decide +kernel
theorem dX0_scoreOf_19 : decode cX0_scoreOf 19 = .ok (.aload_n 0, 1) := by decide +kernel
theorem dX0_scoreOf_20 : decode cX0_scoreOf 20 = .ok (.iload 4, 2) := by decide +kernel
theorem dX0_scoreOf_22 : decode cX0_scoreOf 22 = .ok (.invokevirtual 47, 3) := by decide +kernel
theorem dX0_scoreOf_25 : decode cX0_scoreOf 25 = .ok (.astore 5, 2) := by decide +kernel
theorem dX0_scoreOf_27 : decode cX0_scoreOf 27 = .ok (.aload 5, 2) := by decide +kernel
theorem dX0_scoreOf_29 : decode cX0_scoreOf 29 = .ok (.ifnull 20, 3) := by decide +kernel
theorem dX0_scoreOf_32 : decode cX0_scoreOf 32 = .ok (.iload_n 2, 1) := by decide +kernel
theorem dX0_scoreOf_33 : decode cX0_scoreOf 33 = .ok (.iconst 1, 1) := by decide +kernel
theorem dX0_scoreOf_34 : decode cX0_scoreOf 34 = .ok (.iload 4, 2) := by decide +kernel
theorem dX0_scoreOf_36 : decode cX0_scoreOf 36 = .ok (.ishl, 1) := by decide +kernel
theorem dX0_scoreOf_37 : decode cX0_scoreOf 37 = .ok (.iand, 1) := by decide +kernel
theorem dX0_scoreOf_38 : decode cX0_scoreOf 38 = .ok (.ifCond .eq 11, 3) := by decide +kernel
theorem dX0_scoreOf_41 : decode cX0_scoreOf 41 = .ok (.iload_n 3, 1) := by decide +kernel
theorem dX0_scoreOf_42 : decode cX0_scoreOf 42 = .ok (.aload 5, 2) := by decide +kernel
theorem dX0_scoreOf_44 : decode cX0_scoreOf 44 = .ok (.getfield 166, 3) := by decide +kernel
theorem dX0_scoreOf_47 : decode cX0_scoreOf 47 = .ok (.iadd, 1) := by decide +kernel
theorem dX0_scoreOf_48 : decode cX0_scoreOf 48 = .ok (.istore_n 3, 1) := by decide +kernel
theorem dX0_scoreOf_49 : decode cX0_scoreOf 49 = .ok (.iinc 4 1, 3) := by decide +kernel
theorem dX0_scoreOf_52 : decode cX0_scoreOf 52 = .ok (.goto (-42), 3) := by decide +kernel
theorem dX0_scoreOf_55 : decode cX0_scoreOf 55 = .ok (.iload_n 3, 1) := by decide +kernel
theorem dX0_scoreOf_56 : decode cX0_scoreOf 56 = .ok (.ireturn, 1) := by decide +kernel
theorem dX0_memberAtPlace_0 : decode cX0_memberAtPlace 0 = .ok (.iconst 0, 1) := by decide +kernel
theorem dX0_memberAtPlace_1 : decode cX0_memberAtPlace 1 = .ok (.istore_n 2, 1) := by decide +kernel
theorem dX0_memberAtPlace_2 : decode cX0_memberAtPlace 2 = .ok (.iload_n 2, 1) := by decide +kernel
theorem dX0_memberAtPlace_3 : decode cX0_memberAtPlace 3 = .ok (.aload_n 0, 1) := by decide +kernel
theorem dX0_memberAtPlace_4 : decode cX0_memberAtPlace 4 = .ok (.getfield 51, 3) := by decide +kernel
theorem dX0_memberAtPlace_7 : decode cX0_memberAtPlace 7 = .ok (.if_icmp .ge 20, 3) := by decide +kernel
theorem dX0_memberAtPlace_10 : decode cX0_memberAtPlace 10 = .ok (.aload_n 0, 1) := by decide +kernel
theorem dX0_memberAtPlace_11 : decode cX0_memberAtPlace 11 = .ok (.iload_n 2, 1) := by decide +kernel
theorem dX0_memberAtPlace_12 : decode cX0_memberAtPlace 12 = .ok (.invokevirtual 169, 3) := by decide +kernel
theorem dX0_memberAtPlace_15 : decode cX0_memberAtPlace 15 = .ok (.iload_n 1, 1) := by decide +kernel
theorem dX0_memberAtPlace_16 : decode cX0_memberAtPlace 16 = .ok (.if_icmp .ne 5, 3) := by decide +kernel
theorem dX0_memberAtPlace_19 : decode cX0_memberAtPlace 19 = .ok (.iload_n 2, 1) := by decide +kernel
theorem dX0_memberAtPlace_20 : decode cX0_memberAtPlace 20 = .ok (.ireturn, 1) := by decide +kernel
theorem dX0_memberAtPlace_21 : decode cX0_memberAtPlace 21 = .ok (.iinc 2 1, 3) := by decide +kernel
theorem dX0_memberAtPlace_24 : decode cX0_memberAtPlace 24 = .ok (.goto (-22), 3) := by decide +kernel
theorem dX0_memberAtPlace_27 : decode cX0_memberAtPlace 27 = .ok (.iconst (-1), 1) := by decide +kernel
theorem dX0_memberAtPlace_28 : decode cX0_memberAtPlace 28 = .ok (.ireturn, 1) := by decide +kernel
theorem dX0_leadersOf_0 : decode cX0_leadersOf 0 = .ok (.iconst 0, 1) := by decide +kernel
theorem dX0_leadersOf_1 : decode cX0_leadersOf 1 = .ok (.istore_n 2, 1) := by decide +kernel
theorem dX0_leadersOf_2 : decode cX0_leadersOf 2 = .ok (.iconst 0, 1) := by decide +kernel
theorem dX0_leadersOf_3 : decode cX0_leadersOf 3 = .ok (.istore_n 3, 1) := by decide +kernel
theorem dX0_leadersOf_4 : decode cX0_leadersOf 4 = .ok (.iload_n 3, 1) := by decide +kernel
theorem dX0_leadersOf_5 : decode cX0_leadersOf 5 = .ok (.aload_n 0, 1) := by decide +kernel
theorem dX0_leadersOf_6 : decode cX0_leadersOf 6 = .ok (.getfield 51, 3) := by decide +kernel
theorem dX0_leadersOf_9 : decode cX0_leadersOf 9 = .ok (.if_icmp .ge 26, 3) := by decide +kernel
theorem dX0_leadersOf_12 : decode cX0_leadersOf 12 = .ok (.iload_n 3, 1) := by decide +kernel
theorem dX0_leadersOf_13 : decode cX0_leadersOf 13 = .ok (.iload_n 1, 1) := by decide +kernel
theorem dX0_leadersOf_14 : decode cX0_leadersOf 14 = .ok (.if_icmp .eq 15, 3) := by decide +kernel
theorem dX0_leadersOf_17 : decode cX0_leadersOf 17 = .ok (.aload_n 0, 1) := by decide +kernel
theorem dX0_leadersOf_18 : decode cX0_leadersOf 18 = .ok (.iload_n 3, 1) := by decide +kernel
theorem dX0_leadersOf_19 : decode cX0_leadersOf 19 = .ok (.iload_n 1, 1) := by decide +kernel
theorem dX0_leadersOf_20 : decode cX0_leadersOf 20 = .ok (.invokevirtual 173, 3) := by decide +kernel
theorem dX0_leadersOf_23 : decode cX0_leadersOf 23 = .ok (.ifCond .eq 6, 3) := by decide +kernel
theorem dX0_leadersOf_26 : decode cX0_leadersOf 26 = .ok (.iinc 2 1, 3) := by decide +kernel
theorem dX0_leadersOf_29 : decode cX0_leadersOf 29 = .ok (.iinc 3 1, 3) := by decide +kernel
theorem dX0_leadersOf_32 : decode cX0_leadersOf 32 = .ok (.goto (-28), 3) := by decide +kernel
theorem dX0_leadersOf_35 : decode cX0_leadersOf 35 = .ok (.iload_n 2, 1) := by decide +kernel
theorem dX0_leadersOf_36 : decode cX0_leadersOf 36 = .ok (.ireturn, 1) := by decide +kernel
theorem dX0_leads_0 : decode cX0_leads 0 = .ok (.aload_n 0, 1) := by decide +kernel
theorem dX0_leads_1 : decode cX0_leads 1 = .ok (.iload_n 1, 1) := by decide +kernel
theorem dX0_leads_2 : decode cX0_leads 2 = .ok (.invokevirtual 54, 3) := by decide +kernel
theorem dX0_leads_5 : decode cX0_leads 5 = .ok (.astore_n 3, 1) := by decide +kernel
theorem dX0_leads_6 : decode cX0_leads 6 = .ok (.aload_n 0, 1) := by decide +kernel
theorem dX0_leads_7 : decode cX0_leads 7 = .ok (.iload_n 2, 1) := by decide +kernel
theorem dX0_leads_8 : decode cX0_leads 8 = .ok (.invokevirtual 54, 3) := by decide +kernel
theorem dX0_leads_11 : decode cX0_leads 11 = .ok (.astore 4, 2) := by decide +kernel
theorem dX0_leads_13 : decode cX0_leads 13 = .ok (.aload_n 3, 1) := by decide +kernel
theorem dX0_leads_14 : decode cX0_leads 14 = .ok (.ifnull 8, 3) := by decide +kernel
theorem dX0_leads_17 : decode cX0_leads 17 = .ok (.aload 4, 2) := by decide +kernel
theorem dX0_leads_19 : decode cX0_leads 19 = .ok (.ifnonnull 5, 3) := by decide +kernel
theorem dX0_leads_22 : decode cX0_leads 22 = .ok (.iconst 0, 1) := by decide +kernel
theorem dX0_leads_23 : decode cX0_leads 23 = .ok (.ireturn, 1) := by decide +kernel
theorem dX0_leads_24 : decode cX0_leads 24 = .ok (.aload_n 0, 1) := by decide +kernel
theorem dX0_leads_25 : decode cX0_leads 25 = .ok (.aload_n 3, 1) := by decide +kernel
theorem dX0_leads_26 : decode cX0_leads 26 = .ok (.invokevirtual 176, 3) := by decide +kernel
theorem dX0_leads_29 : decode cX0_leads 29 = .ok (.aload_n 0, 1) := by decide +kernel
theorem dX0_leads_30 : decode cX0_leads 30 = .ok (.aload 4, 2) := by decide +kernel
theorem dX0_leads_32 : decode cX0_leads 32 = .ok (.invokevirtual 176, 3) := by decide +kernel
theorem dX0_leads_35 : decode cX0_leads 35 = .ok (.invokestatic 180, 3) := by decide +kernel
theorem dX0_leads_38 : decode cX0_leads 38 = .ok (.istore 5, 2) := by decide +kernel
theorem dX0_leads_40 : decode cX0_leads 40 = .ok (.iload 5, 2) := by decide +kernel
theorem dX0_leads_42 : decode cX0_leads 42 = .ok (.ifCond .eq 14, 3) := by decide +kernel
theorem dX0_leads_45 : decode cX0_leads 45 = .ok (.iload 5, 2) := by decide +kernel
theorem dX0_leads_47 : decode cX0_leads 47 = .ok (.ifCond .le 7, 3) := by decide +kernel
theorem dX0_leads_50 : decode cX0_leads 50 = .ok (.iconst 1, 1) := by decide +kernel
theorem dX0_leads_51 : decode cX0_leads 51 = .ok (.goto 4, 3) := by decide +kernel
theorem dX0_leads_54 : decode cX0_leads 54 = .ok (.iconst 0, 1) := by decide +kernel
theorem dX0_leads_55 : decode cX0_leads 55 = .ok (.ireturn, 1) := by decide +kernel
theorem dX0_leads_56 : decode cX0_leads 56 = .ok (.aload_n 3, 1) := by decide +kernel
theorem dX0_leads_57 : decode cX0_leads 57 = .ok (.getfield 114, 3) := by decide +kernel
theorem dX0_leads_60 : decode cX0_leads 60 = .ok (.getfield 140, 3) := by decide +kernel
theorem dX0_leads_63 : decode cX0_leads 63 = .ok (.aload 4, 2) := by decide +kernel
theorem dX0_leads_65 : decode cX0_leads 65 = .ok (.getfield 114, 3) := by decide +kernel
theorem dX0_leads_68 : decode cX0_leads 68 = .ok (.getfield 140, 3) := by decide +kernel
theorem dX0_leads_71 : decode cX0_leads 71 = .ok (.invokestatic 180, 3) := by decide +kernel
theorem dX0_leads_74 : decode cX0_leads 74 = .ok (.istore 6, 2) := by decide +kernel
theorem dX0_leads_76 : decode cX0_leads 76 = .ok (.iload 6, 2) := by decide +kernel
theorem dX0_leads_78 : decode cX0_leads 78 = .ok (.ifCond .eq 16, 3) := by decide +kernel
theorem dX0_leads_81 : decode cX0_leads 81 = .ok (.iload 6, 2) := by decide +kernel
theorem dX0_leads_83 : decode cX0_leads 83 = .ok (.ifCond .le 7, 3) := by decide +kernel
theorem dX0_leads_86 : decode cX0_leads 86 = .ok (.iconst 1, 1) := by decide +kernel
theorem dX0_leads_87 : decode cX0_leads 87 = .ok (.goto 17, 3) := by decide +kernel
theorem dX0_leads_90 : decode cX0_leads 90 = .ok (.iconst 0, 1) := by decide +kernel
theorem dX0_leads_91 : decode cX0_leads 91 = .ok (.goto 13, 3) := by decide +kernel
theorem dX0_leads_94 : decode cX0_leads 94 = .ok (.iload_n 1, 1) := by decide +kernel
theorem dX0_leads_95 : decode cX0_leads 95 = .ok (.iload_n 2, 1) := by decide +kernel
theorem dX0_leads_96 : decode cX0_leads 96 = .ok (.if_icmp .ge 7, 3) := by decide +kernel
theorem dX0_leads_99 : decode cX0_leads 99 = .ok (.iconst 1, 1) := by decide +kernel
theorem dX0_leads_100 : decode cX0_leads 100 = .ok (.goto 4, 3) := by decide +kernel
theorem dX0_leads_103 : decode cX0_leads 103 = .ok (.iconst 0, 1) := by decide +kernel
theorem dX0_leads_104 : decode cX0_leads 104 = .ok (.ireturn, 1) := by decide +kernel
theorem dX0_tellStation_0 : decode cX0_tellStation 0 = .ok (.aload_n 0, 1) := by decide +kernel
theorem dX0_tellStation_1 : decode cX0_tellStation 1 = .ok (.iload_n 1, 1) := by decide +kernel
theorem dX0_tellStation_2 : decode cX0_tellStation 2 = .ok (.invokevirtual 47, 3) := by decide +kernel
theorem dX0_tellStation_5 : decode cX0_tellStation 5 = .ok (.astore_n 3, 1) := by decide +kernel
theorem dX0_tellStation_6 : decode cX0_tellStation 6 = .ok (.aload_n 3, 1) := by decide +kernel
theorem dX0_tellStation_7 : decode cX0_tellStation 7 = .ok (.ifnonnull 5, 3) := by decide +kernel
theorem dX0_tellStation_10 : decode cX0_tellStation 10 = .ok (.iconst 0, 1) := by decide +kernel
theorem dX0_tellStation_11 : decode cX0_tellStation 11 = .ok (.ireturn, 1) := by decide +kernel
theorem dX0_tellStation_12 : decode cX0_tellStation 12 = .ok (.iload_n 2, 1) := by decide +kernel
theorem dX0_tellStation_13 : decode cX0_tellStation 13 = .ok (.tableswitch 76 0 4 #[35, 40, 45, 50, 67], 35) := by decide +kernel
theorem dX0_tellStation_48 : decode cX0_tellStation 48 = .ok (.aload_n 3, 1) := by decide +kernel
theorem dX0_tellStation_49 : decode cX0_tellStation 49 = .ok (.getfield 185, 3) := by decide +kernel
theorem dX0_tellStation_52 : decode cX0_tellStation 52 = .ok (.ireturn, 1) := by decide +kernel
theorem dX0_tellStation_53 : decode cX0_tellStation 53 = .ok (.aload_n 3, 1) := by decide +kernel
theorem dX0_tellStation_54 : decode cX0_tellStation 54 = .ok (.getfield 188, 3) := by decide +kernel
theorem dX0_tellStation_57 : decode cX0_tellStation 57 = .ok (.ireturn, 1) := by decide +kernel
theorem dX0_tellStation_58 : decode cX0_tellStation 58 = .ok (.aload_n 3, 1) := by decide +kernel
theorem dX0_tellStation_59 : decode cX0_tellStation 59 = .ok (.getfield 166, 3) := by decide +kernel
theorem dX0_tellStation_62 : decode cX0_tellStation 62 = .ok (.ireturn, 1) := by decide +kernel
theorem dX0_tellStation_63 : decode cX0_tellStation 63 = .ok (.aload_n 3, 1) := by decide +kernel
theorem dX0_tellStation_64 : decode cX0_tellStation 64 = .ok (.aload_n 0, 1) := by decide +kernel
theorem dX0_tellStation_65 : decode cX0_tellStation 65 = .ok (.getfield 40, 3) := by decide +kernel
theorem dX0_tellStation_68 : decode cX0_tellStation 68 = .ok (.invokevirtual 71, 3) := by decide +kernel
theorem dX0_tellStation_71 : decode cX0_tellStation 71 = .ok (.ifCond .eq 7, 3) := by decide +kernel
theorem dX0_tellStation_74 : decode cX0_tellStation 74 = .ok (.iconst 1, 1) := by decide +kernel
theorem dX0_tellStation_75 : decode cX0_tellStation 75 = .ok (.goto 4, 3) := by decide +kernel
theorem dX0_tellStation_78 : decode cX0_tellStation 78 = .ok (.iconst 0, 1) := by decide +kernel
theorem dX0_tellStation_79 : decode cX0_tellStation 79 = .ok (.ireturn, 1) := by decide +kernel
theorem dX0_tellStation_80 : decode cX0_tellStation 80 = .ok (.aload_n 3, 1) := by decide +kernel
theorem dX0_tellStation_81 : decode cX0_tellStation 81 = .ok (.aload_n 0, 1) := by decide +kernel
theorem dX0_tellStation_82 : decode cX0_tellStation 82 = .ok (.getfield 40, 3) := by decide +kernel
theorem dX0_tellStation_85 : decode cX0_tellStation 85 = .ok (.invokevirtual 191, 3) := by decide +kernel
theorem dX0_tellStation_88 : decode cX0_tellStation 88 = .ok (.ireturn, 1) := by decide +kernel
theorem dX0_tellStation_89 : decode cX0_tellStation 89 = .ok (.aload_n 0, 1) := by decide +kernel
theorem dX0_tellStation_90 : decode cX0_tellStation 90 = .ok (.iload_n 1, 1) := by decide +kernel
theorem dX0_tellStation_91 : decode cX0_tellStation 91 = .ok (.invokevirtual 194, 3) := by decide +kernel
theorem dX0_tellStation_94 : decode cX0_tellStation 94 = .ok (.ireturn, 1) := by decide +kernel
theorem dX0_membersWithCardOf_0 : decode cX0_membersWithCardOf 0 = .ok (.iconst 0, 1) := by decide +kernel
theorem dX0_membersWithCardOf_1 : decode cX0_membersWithCardOf 1 = .ok (.istore_n 2, 1) := by decide +kernel
theorem dX0_membersWithCardOf_2 : decode cX0_membersWithCardOf 2 = .ok (.iconst 0, 1) := by decide +kernel
theorem dX0_membersWithCardOf_3 : decode cX0_membersWithCardOf 3 = .ok (.istore_n 3, 1) := by decide +kernel
theorem dX0_membersWithCardOf_4 : decode cX0_membersWithCardOf 4 = .ok (.iload_n 3, 1) := by decide +kernel
theorem dX0_membersWithCardOf_5 : decode cX0_membersWithCardOf 5 = .ok (.aload_n 0, 1) := by decide +kernel
theorem dX0_membersWithCardOf_6 : decode cX0_membersWithCardOf 6 = .ok (.getfield 51, 3) := by decide +kernel
theorem dX0_membersWithCardOf_9 : decode cX0_membersWithCardOf 9 = .ok (.if_icmp .ge 36, 3) := by decide +kernel
theorem dX0_membersWithCardOf_12 : decode cX0_membersWithCardOf 12 = .ok (.aload_n 0, 1) := by decide +kernel
theorem dX0_membersWithCardOf_13 : decode cX0_membersWithCardOf 13 = .ok (.iload_n 3, 1) := by decide +kernel
theorem dX0_membersWithCardOf_14 : decode cX0_membersWithCardOf 14 = .ok (.invokevirtual 54, 3) := by decide +kernel
theorem dX0_membersWithCardOf_17 : decode cX0_membersWithCardOf 17 = .ok (.astore 4, 2) := by decide +kernel
theorem dX0_membersWithCardOf_19 : decode cX0_membersWithCardOf 19 = .ok (.aload 4, 2) := by decide +kernel
theorem dX0_membersWithCardOf_21 : decode cX0_membersWithCardOf 21 = .ok (.ifnull 18, 3) := by decide +kernel
theorem dX0_membersWithCardOf_24 : decode cX0_membersWithCardOf 24 = .ok (.aload 4, 2) := by decide +kernel
theorem dX0_membersWithCardOf_26 : decode cX0_membersWithCardOf 26 = .ok (.invokevirtual 163, 3) := by decide +kernel
theorem dX0_membersWithCardOf_29 : decode cX0_membersWithCardOf 29 = .ok (.iconst 1, 1) := by decide +kernel
theorem dX0_membersWithCardOf_30 : decode cX0_membersWithCardOf 30 = .ok (.iload_n 1, 1) := by decide +kernel
theorem dX0_membersWithCardOf_31 : decode cX0_membersWithCardOf 31 = .ok (.ishl, 1) := by decide +kernel
theorem dX0_membersWithCardOf_32 : decode cX0_membersWithCardOf 32 = .ok (.iand, 1) := by decide +kernel
theorem dX0_membersWithCardOf_33 : decode cX0_membersWithCardOf 33 = .ok (.ifCond .eq 6, 3) := by decide +kernel
theorem dX0_membersWithCardOf_36 : decode cX0_membersWithCardOf 36 = .ok (.iinc 2 1, 3) := by decide +kernel
theorem dX0_membersWithCardOf_39 : decode cX0_membersWithCardOf 39 = .ok (.iinc 3 1, 3) := by decide +kernel
theorem dX0_membersWithCardOf_42 : decode cX0_membersWithCardOf 42 = .ok (.goto (-38), 3) := by decide +kernel
theorem dX0_membersWithCardOf_45 : decode cX0_membersWithCardOf 45 = .ok (.iload_n 2, 1) := by decide +kernel
theorem dX0_membersWithCardOf_46 : decode cX0_membersWithCardOf 46 = .ok (.ireturn, 1) := by decide +kernel
theorem dX0_tellMember_0 : decode cX0_tellMember 0 = .ok (.aload_n 0, 1) := by decide +kernel
theorem dX0_tellMember_1 : decode cX0_tellMember 1 = .ok (.iload_n 1, 1) := by decide +kernel
theorem dX0_tellMember_2 : decode cX0_tellMember 2 = .ok (.invokevirtual 54, 3) := by decide +kernel
theorem dX0_tellMember_5 : decode cX0_tellMember 5 = .ok (.astore_n 3, 1) := by decide +kernel
theorem dX0_tellMember_6 : decode cX0_tellMember 6 = .ok (.aload_n 3, 1) := by decide +kernel
theorem dX0_tellMember_7 : decode cX0_tellMember 7 = .ok (.ifnonnull 5, 3) := by decide +kernel
theorem dX0_tellMember_10 : decode cX0_tellMember 10 = .ok (.iconst 0, 1) := by decide +kernel
theorem dX0_tellMember_11 : decode cX0_tellMember 11 = .ok (.ireturn, 1) := by decide +kernel
theorem dX0_tellMember_12 : decode cX0_tellMember 12 = .ok (.iload_n 2, 1) := by decide +kernel
theorem dX0_tellMember_13 : decode cX0_tellMember 13 = .ok (.tableswitch 128 0 8 #[51, 59, 67, 75, 83, 96, 104, 112, 120], 51) := by decide +kernel
theorem dX0_tellMember_64 : decode cX0_tellMember 64 = .ok (.aload_n 3, 1) := by decide +kernel
theorem dX0_tellMember_65 : decode cX0_tellMember 65 = .ok (.getfield 125, 3) := by decide +kernel
theorem dX0_tellMember_68 : decode cX0_tellMember 68 = .ok (.getfield 84, 3) := by decide +kernel
theorem dX0_tellMember_71 : decode cX0_tellMember 71 = .ok (.ireturn, 1) := by decide +kernel
theorem dX0_tellMember_72 : decode cX0_tellMember 72 = .ok (.aload_n 3, 1) := by decide +kernel
theorem dX0_tellMember_73 : decode cX0_tellMember 73 = .ok (.getfield 125, 3) := by decide +kernel
theorem dX0_tellMember_76 : decode cX0_tellMember 76 = .ok (.getfield 197, 3) := by decide +kernel
theorem dX0_tellMember_79 : decode cX0_tellMember 79 = .ok (.ireturn, 1) := by decide +kernel
theorem dX0_tellMember_80 : decode cX0_tellMember 80 = .ok (.aload_n 3, 1) := by decide +kernel
theorem dX0_tellMember_81 : decode cX0_tellMember 81 = .ok (.getfield 125, 3) := by decide +kernel
theorem dX0_tellMember_84 : decode cX0_tellMember 84 = .ok (.getfield 200, 3) := by decide +kernel
theorem dX0_tellMember_87 : decode cX0_tellMember 87 = .ok (.ireturn, 1) := by decide +kernel
theorem dX0_tellMember_88 : decode cX0_tellMember 88 = .ok (.aload_n 3, 1) := by decide +kernel
theorem dX0_tellMember_89 : decode cX0_tellMember 89 = .ok (.getfield 125, 3) := by decide +kernel
theorem dX0_tellMember_92 : decode cX0_tellMember 92 = .ok (.getfield 203, 3) := by decide +kernel
theorem dX0_tellMember_95 : decode cX0_tellMember 95 = .ok (.ireturn, 1) := by decide +kernel
theorem dX0_tellMember_96 : decode cX0_tellMember 96 = .ok (.aload_n 3, 1) := by decide +kernel
theorem dX0_tellMember_97 : decode cX0_tellMember 97 = .ok (.getfield 110, 3) := by decide +kernel
theorem dX0_tellMember_100 : decode cX0_tellMember 100 = .ok (.ifCond .eq 7, 3) := by decide +kernel
theorem dX0_tellMember_103 : decode cX0_tellMember 103 = .ok (.iconst 1, 1) := by decide +kernel
theorem dX0_tellMember_104 : decode cX0_tellMember 104 = .ok (.goto 4, 3) := by decide +kernel
theorem dX0_tellMember_107 : decode cX0_tellMember 107 = .ok (.iconst 0, 1) := by decide +kernel
theorem dX0_tellMember_108 : decode cX0_tellMember 108 = .ok (.ireturn, 1) := by decide +kernel
theorem dX0_tellMember_109 : decode cX0_tellMember 109 = .ok (.aload_n 3, 1) := by decide +kernel
theorem dX0_tellMember_110 : decode cX0_tellMember 110 = .ok (.getfield 125, 3) := by decide +kernel
theorem dX0_tellMember_113 : decode cX0_tellMember 113 = .ok (.getfield 206, 3) := by decide +kernel
theorem dX0_tellMember_116 : decode cX0_tellMember 116 = .ok (.ireturn, 1) := by decide +kernel
theorem dX0_tellMember_117 : decode cX0_tellMember 117 = .ok (.aload_n 3, 1) := by decide +kernel
theorem dX0_tellMember_118 : decode cX0_tellMember 118 = .ok (.getfield 125, 3) := by decide +kernel
theorem dX0_tellMember_121 : decode cX0_tellMember 121 = .ok (.getfield 209, 3) := by decide +kernel
theorem dX0_tellMember_124 : decode cX0_tellMember 124 = .ok (.ireturn, 1) := by decide +kernel
theorem dX0_tellMember_125 : decode cX0_tellMember 125 = .ok (.aload_n 3, 1) := by decide +kernel
theorem dX0_tellMember_126 : decode cX0_tellMember 126 = .ok (.getfield 114, 3) := by decide +kernel
theorem dX0_tellMember_129 : decode cX0_tellMember 129 = .ok (.getfield 140, 3) := by decide +kernel
theorem dX0_tellMember_132 : decode cX0_tellMember 132 = .ok (.ireturn, 1) := by decide +kernel
theorem dX0_tellMember_133 : decode cX0_tellMember 133 = .ok (.aload_n 3, 1) := by decide +kernel
theorem dX0_tellMember_134 : decode cX0_tellMember 134 = .ok (.invokevirtual 163, 3) := by decide +kernel
theorem dX0_tellMember_137 : decode cX0_tellMember 137 = .ok (.invokestatic 212, 3) := by decide +kernel
theorem dX0_tellMember_140 : decode cX0_tellMember 140 = .ok (.ireturn, 1) := by decide +kernel
theorem dX0_tellMember_141 : decode cX0_tellMember 141 = .ok (.aload_n 0, 1) := by decide +kernel
theorem dX0_tellMember_142 : decode cX0_tellMember 142 = .ok (.aload_n 3, 1) := by decide +kernel
theorem dX0_tellMember_143 : decode cX0_tellMember 143 = .ok (.invokevirtual 176, 3) := by decide +kernel
theorem dX0_tellMember_146 : decode cX0_tellMember 146 = .ok (.ireturn, 1) := by decide +kernel
theorem dX0_tellCount_0 : decode cX0_tellCount 0 = .ok (.iload_n 1, 1) := by decide +kernel
theorem dX0_tellCount_1 : decode cX0_tellCount 1 = .ok (.tableswitch 78 0 6 #[43, 48, 53, 58, 63, 68, 73], 43) := by decide +kernel
theorem dX0_tellCount_44 : decode cX0_tellCount 44 = .ok (.aload_n 0, 1) := by decide +kernel
theorem dX0_tellCount_45 : decode cX0_tellCount 45 = .ok (.getfield 40, 3) := by decide +kernel
theorem dX0_tellCount_48 : decode cX0_tellCount 48 = .ok (.ireturn, 1) := by decide +kernel
theorem dX0_tellCount_49 : decode cX0_tellCount 49 = .ok (.aload_n 0, 1) := by decide +kernel
theorem dX0_tellCount_50 : decode cX0_tellCount 50 = .ok (.getfield 44, 3) := by decide +kernel
theorem dX0_tellCount_53 : decode cX0_tellCount 53 = .ok (.ireturn, 1) := by decide +kernel
theorem dX0_tellCount_54 : decode cX0_tellCount 54 = .ok (.aload_n 0, 1) := by decide +kernel
theorem dX0_tellCount_55 : decode cX0_tellCount 55 = .ok (.invokevirtual 215, 3) := by decide +kernel
theorem dX0_tellCount_58 : decode cX0_tellCount 58 = .ok (.ireturn, 1) := by decide +kernel
theorem dX0_tellCount_59 : decode cX0_tellCount 59 = .ok (.aload_n 0, 1) := by decide +kernel
theorem dX0_tellCount_60 : decode cX0_tellCount 60 = .ok (.getfield 51, 3) := by decide +kernel
theorem dX0_tellCount_63 : decode cX0_tellCount 63 = .ok (.ireturn, 1) := by decide +kernel
theorem dX0_tellCount_64 : decode cX0_tellCount 64 = .ok (.aload_n 0, 1) := by decide +kernel
theorem dX0_tellCount_65 : decode cX0_tellCount 65 = .ok (.invokevirtual 218, 3) := by decide +kernel
theorem dX0_tellCount_68 : decode cX0_tellCount 68 = .ok (.ireturn, 1) := by decide +kernel
theorem dX0_tellCount_69 : decode cX0_tellCount 69 = .ok (.aload_n 0, 1) := by decide +kernel
theorem dX0_tellCount_70 : decode cX0_tellCount 70 = .ok (.invokevirtual 221, 3) := by decide +kernel
theorem dX0_tellCount_73 : decode cX0_tellCount 73 = .ok (.ireturn, 1) := by decide +kernel
theorem dX0_tellCount_74 : decode cX0_tellCount 74 = .ok (.aload_n 0, 1) := by decide +kernel
theorem dX0_tellCount_75 : decode cX0_tellCount 75 = .ok (.invokevirtual 224, 3) := by decide +kernel
theorem dX0_tellCount_78 : decode cX0_tellCount 78 = .ok (.ireturn, 1) := by decide +kernel
theorem dX0_tellCount_79 : decode cX0_tellCount 79 = .ok (.aload_n 0, 1) := by decide +kernel
theorem dX0_tellCount_80 : decode cX0_tellCount 80 = .ok (.getfield 29, 3) := by decide +kernel
theorem dX0_tellCount_83 : decode cX0_tellCount 83 = .ok (.getfield 140, 3) := by decide +kernel
theorem dX0_tellCount_86 : decode cX0_tellCount 86 = .ok (.ireturn, 1) := by decide +kernel
theorem dX0_stationsOnAir_0 : decode cX0_stationsOnAir 0 = .ok (.iconst 0, 1) := by decide +kernel
theorem dX0_stationsOnAir_1 : decode cX0_stationsOnAir 1 = .ok (.istore_n 1, 1) := by decide +kernel
theorem dX0_stationsOnAir_2 : decode cX0_stationsOnAir 2 = .ok (.iconst 0, 1) := by decide +kernel
theorem dX0_stationsOnAir_3 : decode cX0_stationsOnAir 3 = .ok (.istore_n 2, 1) := by decide +kernel
theorem dX0_stationsOnAir_4 : decode cX0_stationsOnAir 4 = .ok (.iload_n 2, 1) := by decide +kernel
theorem dX0_stationsOnAir_5 : decode cX0_stationsOnAir 5 = .ok (.aload_n 0, 1) := by decide +kernel
theorem dX0_stationsOnAir_6 : decode cX0_stationsOnAir 6 = .ok (.getfield 44, 3) := by decide +kernel
theorem dX0_stationsOnAir_9 : decode cX0_stationsOnAir 9 = .ok (.if_icmp .ge 33, 3) := by decide +kernel
theorem dX0_stationsOnAir_12 : decode cX0_stationsOnAir 12 = .ok (.aload_n 0, 1) := by decide +kernel
theorem dX0_stationsOnAir_13 : decode cX0_stationsOnAir 13 = .ok (.iload_n 2, 1) := by decide +kernel
theorem dX0_stationsOnAir_14 : decode cX0_stationsOnAir 14 = .ok (.invokevirtual 47, 3) := by decide +kernel
theorem dX0_stationsOnAir_17 : decode cX0_stationsOnAir 17 = .ok (.astore_n 3, 1) := by decide +kernel
theorem dX0_stationsOnAir_18 : decode cX0_stationsOnAir 18 = .ok (.aload_n 3, 1) := by decide +kernel
theorem dX0_stationsOnAir_19 : decode cX0_stationsOnAir 19 = .ok (.ifnull 17, 3) := by decide +kernel
theorem dX0_stationsOnAir_22 : decode cX0_stationsOnAir 22 = .ok (.aload_n 3, 1) := by decide +kernel
theorem dX0_stationsOnAir_23 : decode cX0_stationsOnAir 23 = .ok (.aload_n 0, 1) := by decide +kernel
theorem dX0_stationsOnAir_24 : decode cX0_stationsOnAir 24 = .ok (.getfield 40, 3) := by decide +kernel
theorem dX0_stationsOnAir_27 : decode cX0_stationsOnAir 27 = .ok (.invokevirtual 71, 3) := by decide +kernel
theorem dX0_stationsOnAir_30 : decode cX0_stationsOnAir 30 = .ok (.ifCond .eq 6, 3) := by decide +kernel
theorem dX0_stationsOnAir_33 : decode cX0_stationsOnAir 33 = .ok (.iinc 1 1, 3) := by decide +kernel
theorem dX0_stationsOnAir_36 : decode cX0_stationsOnAir 36 = .ok (.iinc 2 1, 3) := by decide +kernel
theorem dX0_stationsOnAir_39 : decode cX0_stationsOnAir 39 = .ok (.goto (-35), 3) := by decide +kernel
theorem dX0_stationsOnAir_42 : decode cX0_stationsOnAir 42 = .ok (.iload_n 1, 1) := by decide +kernel
theorem dX0_stationsOnAir_43 : decode cX0_stationsOnAir 43 = .ok (.ireturn, 1) := by decide +kernel
theorem dX0_listeners_0 : decode cX0_listeners 0 = .ok (.iconst 0, 1) := by decide +kernel
theorem dX0_listeners_1 : decode cX0_listeners 1 = .ok (.istore_n 1, 1) := by decide +kernel
theorem dX0_listeners_2 : decode cX0_listeners 2 = .ok (.iconst 0, 1) := by decide +kernel
theorem dX0_listeners_3 : decode cX0_listeners 3 = .ok (.istore_n 2, 1) := by decide +kernel
theorem dX0_listeners_4 : decode cX0_listeners 4 = .ok (.iload_n 2, 1) := by decide +kernel
theorem dX0_listeners_5 : decode cX0_listeners 5 = .ok (.aload_n 0, 1) := by decide +kernel
theorem dX0_listeners_6 : decode cX0_listeners 6 = .ok (.getfield 51, 3) := by decide +kernel
theorem dX0_listeners_9 : decode cX0_listeners 9 = .ok (.if_icmp .ge 29, 3) := by decide +kernel
theorem dX0_listeners_12 : decode cX0_listeners 12 = .ok (.aload_n 0, 1) := by decide +kernel
theorem dX0_listeners_13 : decode cX0_listeners 13 = .ok (.iload_n 2, 1) := by decide +kernel
theorem dX0_listeners_14 : decode cX0_listeners 14 = .ok (.invokevirtual 54, 3) := by decide +kernel
theorem dX0_listeners_17 : decode cX0_listeners 17 = .ok (.astore_n 3, 1) := by decide +kernel
theorem dX0_listeners_18 : decode cX0_listeners 18 = .ok (.aload_n 3, 1) := by decide +kernel
theorem dX0_listeners_19 : decode cX0_listeners 19 = .ok (.ifnull 13, 3) := by decide +kernel
theorem dX0_listeners_22 : decode cX0_listeners 22 = .ok (.aload_n 3, 1) := by decide +kernel
theorem dX0_listeners_23 : decode cX0_listeners 23 = .ok (.getfield 110, 3) := by decide +kernel
theorem dX0_listeners_26 : decode cX0_listeners 26 = .ok (.ifCond .eq 6, 3) := by decide +kernel
theorem dX0_listeners_29 : decode cX0_listeners 29 = .ok (.iinc 1 1, 3) := by decide +kernel
theorem dX0_listeners_32 : decode cX0_listeners 32 = .ok (.iinc 2 1, 3) := by decide +kernel
theorem dX0_listeners_35 : decode cX0_listeners 35 = .ok (.goto (-31), 3) := by decide +kernel
theorem dX0_listeners_38 : decode cX0_listeners 38 = .ok (.iload_n 1, 1) := by decide +kernel
theorem dX0_listeners_39 : decode cX0_listeners 39 = .ok (.ireturn, 1) := by decide +kernel
theorem dX0_allLines_0 : decode cX0_allLines 0 = .ok (.iconst 0, 1) := by decide +kernel
theorem dX0_allLines_1 : decode cX0_allLines 1 = .ok (.istore_n 1, 1) := by decide +kernel
theorem dX0_allLines_2 : decode cX0_allLines 2 = .ok (.iconst 0, 1) := by decide +kernel
theorem dX0_allLines_3 : decode cX0_allLines 3 = .ok (.istore_n 2, 1) := by decide +kernel
theorem dX0_allLines_4 : decode cX0_allLines 4 = .ok (.iload_n 2, 1) := by decide +kernel
theorem dX0_allLines_5 : decode cX0_allLines 5 = .ok (.aload_n 0, 1) := by decide +kernel
theorem dX0_allLines_6 : decode cX0_allLines 6 = .ok (.getfield 51, 3) := by decide +kernel
theorem dX0_allLines_9 : decode cX0_allLines 9 = .ok (.if_icmp .ge 33, 3) := by decide +kernel
theorem dX0_allLines_12 : decode cX0_allLines 12 = .ok (.aload_n 0, 1) := by decide +kernel
theorem dX0_allLines_13 : decode cX0_allLines 13 = .ok (.iload_n 2, 1) := by decide +kernel
theorem dX0_allLines_14 : decode cX0_allLines 14 = .ok (.invokevirtual 54, 3) := by decide +kernel
theorem dX0_allLines_17 : decode cX0_allLines 17 = .ok (.astore_n 3, 1) := by decide +kernel
theorem dX0_allLines_18 : decode cX0_allLines 18 = .ok (.iload_n 1, 1) := by decide +kernel
theorem dX0_allLines_19 : decode cX0_allLines 19 = .ok (.aload_n 3, 1) := by decide +kernel
theorem dX0_allLines_20 : decode cX0_allLines 20 = .ok (.ifnonnull 7, 3) := by decide +kernel
theorem dX0_allLines_23 : decode cX0_allLines 23 = .ok (.iconst 0, 1) := by decide +kernel
theorem dX0_allLines_24 : decode cX0_allLines 24 = .ok (.goto 10, 3) := by decide +kernel
theorem dX0_allLines_27 : decode cX0_allLines 27 = .ok (.aload_n 3, 1) := by decide +kernel
theorem dX0_allLines_28 : decode cX0_allLines 28 = .ok (.getfield 114, 3) := by decide +kernel
theorem dX0_allLines_31 : decode cX0_allLines 31 = .ok (.getfield 140, 3) := by decide +kernel
theorem dX0_allLines_34 : decode cX0_allLines 34 = .ok (.iadd, 1) := by decide +kernel
theorem dX0_allLines_35 : decode cX0_allLines 35 = .ok (.istore_n 1, 1) := by decide +kernel
theorem dX0_allLines_36 : decode cX0_allLines 36 = .ok (.iinc 2 1, 3) := by decide +kernel
theorem dX0_allLines_39 : decode cX0_allLines 39 = .ok (.goto (-35), 3) := by decide +kernel
theorem dX0_allLines_42 : decode cX0_allLines 42 = .ok (.iload_n 1, 1) := by decide +kernel
theorem dX0_allLines_43 : decode cX0_allLines 43 = .ok (.ireturn, 1) := by decide +kernel
theorem dX0_confirmedLines_0 : decode cX0_confirmedLines 0 = .ok (.aload_n 0, 1) := by decide +kernel
theorem dX0_confirmedLines_1 : decode cX0_confirmedLines 1 = .ok (.iconst 3, 1) := by decide +kernel
theorem dX0_confirmedLines_2 : decode cX0_confirmedLines 2 = .ok (.invokevirtual 227, 3) := by decide +kernel
theorem dX0_confirmedLines_5 : decode cX0_confirmedLines 5 = .ok (.ireturn, 1) := by decide +kernel
theorem dX0_allStrengths_0 : decode cX0_allStrengths 0 = .ok (.aload_n 0, 1) := by decide +kernel
theorem dX0_allStrengths_1 : decode cX0_allStrengths 1 = .ok (.iconst 2, 1) := by decide +kernel
theorem dX0_allStrengths_2 : decode cX0_allStrengths 2 = .ok (.invokevirtual 227, 3) := by decide +kernel
theorem dX0_allStrengths_5 : decode cX0_allStrengths 5 = .ok (.ireturn, 1) := by decide +kernel
theorem dX0_sumOfLogs_0 : decode cX0_sumOfLogs 0 = .ok (.iconst 0, 1) := by decide +kernel
theorem dX0_sumOfLogs_1 : decode cX0_sumOfLogs 1 = .ok (.istore_n 2, 1) := by decide +kernel
theorem dX0_sumOfLogs_2 : decode cX0_sumOfLogs 2 = .ok (.iconst 0, 1) := by decide +kernel
theorem dX0_sumOfLogs_3 : decode cX0_sumOfLogs 3 = .ok (.istore_n 3, 1) := by decide +kernel
theorem dX0_sumOfLogs_4 : decode cX0_sumOfLogs 4 = .ok (.iload_n 3, 1) := by decide +kernel
theorem dX0_sumOfLogs_5 : decode cX0_sumOfLogs 5 = .ok (.aload_n 0, 1) := by decide +kernel
theorem dX0_sumOfLogs_6 : decode cX0_sumOfLogs 6 = .ok (.getfield 51, 3) := by decide +kernel
theorem dX0_sumOfLogs_9 : decode cX0_sumOfLogs 9 = .ok (.if_icmp .ge 37, 3) := by decide +kernel
theorem dX0_sumOfLogs_12 : decode cX0_sumOfLogs 12 = .ok (.aload_n 0, 1) := by decide +kernel
theorem dX0_sumOfLogs_13 : decode cX0_sumOfLogs 13 = .ok (.iload_n 3, 1) := by decide +kernel
theorem dX0_sumOfLogs_14 : decode cX0_sumOfLogs 14 = .ok (.invokevirtual 54, 3) := by decide +kernel
theorem dX0_sumOfLogs_17 : decode cX0_sumOfLogs 17 = .ok (.astore 4, 2) := by decide +kernel
theorem dX0_sumOfLogs_19 : decode cX0_sumOfLogs 19 = .ok (.iload_n 2, 1) := by decide +kernel
theorem dX0_sumOfLogs_20 : decode cX0_sumOfLogs 20 = .ok (.aload 4, 2) := by decide +kernel
theorem dX0_sumOfLogs_22 : decode cX0_sumOfLogs 22 = .ok (.ifnonnull 7, 3) := by decide +kernel
theorem dX0_sumOfLogs_25 : decode cX0_sumOfLogs 25 = .ok (.iconst 0, 1) := by decide +kernel
theorem dX0_sumOfLogs_26 : decode cX0_sumOfLogs 26 = .ok (.goto 12, 3) := by decide +kernel
theorem dX0_sumOfLogs_29 : decode cX0_sumOfLogs 29 = .ok (.aload 4, 2) := by decide +kernel
theorem dX0_sumOfLogs_31 : decode cX0_sumOfLogs 31 = .ok (.getfield 114, 3) := by decide +kernel
theorem dX0_sumOfLogs_34 : decode cX0_sumOfLogs 34 = .ok (.iload_n 1, 1) := by decide +kernel
theorem dX0_sumOfLogs_35 : decode cX0_sumOfLogs 35 = .ok (.invokevirtual 230, 3) := by decide +kernel
theorem dX0_sumOfLogs_38 : decode cX0_sumOfLogs 38 = .ok (.iadd, 1) := by decide +kernel
theorem dX0_sumOfLogs_39 : decode cX0_sumOfLogs 39 = .ok (.istore_n 2, 1) := by decide +kernel
theorem dX0_sumOfLogs_40 : decode cX0_sumOfLogs 40 = .ok (.iinc 3 1, 3) := by decide +kernel
theorem dX0_sumOfLogs_43 : decode cX0_sumOfLogs 43 = .ok (.goto (-39), 3) := by decide +kernel
theorem dX0_sumOfLogs_46 : decode cX0_sumOfLogs 46 = .ok (.iload_n 2, 1) := by decide +kernel
theorem dX0_sumOfLogs_47 : decode cX0_sumOfLogs 47 = .ok (.ireturn, 1) := by decide +kernel
theorem dX0_checksum_0 : decode cX0_checksum 0 = .ok (.ldc2_w 233, 3) := by decide +kernel
theorem dX0_checksum_3 : decode cX0_checksum 3 = .ok (.lstore_n 1, 1) := by decide +kernel
theorem dX0_checksum_4 : decode cX0_checksum 4 = .ok (.iconst 0, 1) := by decide +kernel
theorem dX0_checksum_5 : decode cX0_checksum 5 = .ok (.istore_n 3, 1) := by decide +kernel
theorem dX0_checksum_6 : decode cX0_checksum 6 = .ok (.iload_n 3, 1) := by decide +kernel
theorem dX0_checksum_7 : decode cX0_checksum 7 = .ok (.bipush 8, 2) := by decide +kernel
theorem dX0_checksum_9 : decode cX0_checksum 9 = .ok (.if_icmp .ge 22, 3) := by decide +kernel
theorem dX0_checksum_12 : decode cX0_checksum 12 = .ok (.lload_n 1, 1) := by decide +kernel
theorem dX0_checksum_13 : decode cX0_checksum 13 = .ok (.ldc2_w 235, 3) := by decide +kernel
theorem dX0_checksum_16 : decode cX0_checksum 16 = .ok (.lmul, 1) := by decide +kernel
theorem dX0_checksum_17 : decode cX0_checksum 17 = .ok (.aload_n 0, 1) := by decide +kernel
theorem dX0_checksum_18 : decode cX0_checksum 18 = .ok (.iload_n 3, 1) := by decide +kernel
theorem dX0_checksum_19 : decode cX0_checksum 19 = .ok (.invokevirtual 237, 3) := by decide +kernel
theorem dX0_checksum_22 : decode cX0_checksum 22 = .ok (.i2l, 1) := by decide +kernel
theorem dX0_checksum_23 : decode cX0_checksum 23 = .ok (.ladd, 1) := by decide +kernel
theorem dX0_checksum_24 : decode cX0_checksum 24 = .ok (.lstore_n 1, 1) := by decide +kernel
theorem dX0_checksum_25 : decode cX0_checksum 25 = .ok (.iinc 3 1, 3) := by decide +kernel
theorem dX0_checksum_28 : decode cX0_checksum 28 = .ok (.goto (-22), 3) := by decide +kernel
theorem dX0_checksum_31 : decode cX0_checksum 31 = .ok (.iconst 0, 1) := by decide +kernel
theorem dX0_checksum_32 : decode cX0_checksum 32 = .ok (.istore_n 3, 1) := by decide +kernel
theorem dX0_checksum_33 : decode cX0_checksum 33 = .ok (.iload_n 3, 1) := by decide +kernel
theorem dX0_checksum_34 : decode cX0_checksum 34 = .ok (.aload_n 0, 1) := by decide +kernel
theorem dX0_checksum_35 : decode cX0_checksum 35 = .ok (.getfield 44, 3) := by decide +kernel
theorem dX0_checksum_38 : decode cX0_checksum 38 = .ok (.if_icmp .ge 40, 3) := by decide +kernel
theorem dX0_checksum_41 : decode cX0_checksum 41 = .ok (.iconst 0, 1) := by decide +kernel
theorem dX0_checksum_42 : decode cX0_checksum 42 = .ok (.istore 4, 2) := by decide +kernel
theorem dX0_checksum_44 : decode cX0_checksum 44 = .ok (.iload 4, 2) := by decide +kernel
theorem dX0_checksum_46 : decode cX0_checksum 46 = .ok (.bipush 6, 2) := by decide +kernel
theorem dX0_checksum_48 : decode cX0_checksum 48 = .ok (.if_icmp .ge 24, 3) := by decide +kernel
theorem dX0_checksum_51 : decode cX0_checksum 51 = .ok (.lload_n 1, 1) := by decide +kernel
theorem dX0_checksum_52 : decode cX0_checksum 52 = .ok (.ldc2_w 235, 3) := by decide +kernel
theorem dX0_checksum_55 : decode cX0_checksum 55 = .ok (.lmul, 1) := by decide +kernel
theorem dX0_checksum_56 : decode cX0_checksum 56 = .ok (.aload_n 0, 1) := by decide +kernel
theorem dX0_checksum_57 : decode cX0_checksum 57 = .ok (.iload_n 3, 1) := by decide +kernel
theorem dX0_checksum_58 : decode cX0_checksum 58 = .ok (.iload 4, 2) := by decide +kernel
theorem dX0_checksum_60 : decode cX0_checksum 60 = .ok (.invokevirtual 240, 3) := by decide +kernel
theorem dX0_checksum_63 : decode cX0_checksum 63 = .ok (.i2l, 1) := by decide +kernel
theorem dX0_checksum_64 : decode cX0_checksum 64 = .ok (.ladd, 1) := by decide +kernel
theorem dX0_checksum_65 : decode cX0_checksum 65 = .ok (.lstore_n 1, 1) := by decide +kernel
theorem dX0_checksum_66 : decode cX0_checksum 66 = .ok (.iinc 4 1, 3) := by decide +kernel
theorem dX0_checksum_69 : decode cX0_checksum 69 = .ok (.goto (-25), 3) := by decide +kernel
theorem dX0_checksum_72 : decode cX0_checksum 72 = .ok (.iinc 3 1, 3) := by decide +kernel
theorem dX0_checksum_75 : decode cX0_checksum 75 = .ok (.goto (-42), 3) := by decide +kernel
theorem dX0_checksum_78 : decode cX0_checksum 78 = .ok (.iconst 0, 1) := by decide +kernel
theorem dX0_checksum_79 : decode cX0_checksum 79 = .ok (.istore_n 3, 1) := by decide +kernel
theorem dX0_checksum_80 : decode cX0_checksum 80 = .ok (.iload_n 3, 1) := by decide +kernel
theorem dX0_checksum_81 : decode cX0_checksum 81 = .ok (.aload_n 0, 1) := by decide +kernel
theorem dX0_checksum_82 : decode cX0_checksum 82 = .ok (.getfield 51, 3) := by decide +kernel
theorem dX0_checksum_85 : decode cX0_checksum 85 = .ok (.if_icmp .ge 16, 3) := by decide +kernel
theorem dX0_checksum_88 : decode cX0_checksum 88 = .ok (.aload_n 0, 1) := by decide +kernel
theorem dX0_checksum_89 : decode cX0_checksum 89 = .ok (.lload_n 1, 1) := by decide +kernel
theorem dX0_checksum_90 : decode cX0_checksum 90 = .ok (.iload_n 3, 1) := by decide +kernel
theorem dX0_checksum_91 : decode cX0_checksum 91 = .ok (.invokevirtual 243, 3) := by decide +kernel
theorem dX0_checksum_94 : decode cX0_checksum 94 = .ok (.lstore_n 1, 1) := by decide +kernel
theorem dX0_checksum_95 : decode cX0_checksum 95 = .ok (.iinc 3 1, 3) := by decide +kernel
theorem dX0_checksum_98 : decode cX0_checksum 98 = .ok (.goto (-18), 3) := by decide +kernel
theorem dX0_checksum_101 : decode cX0_checksum 101 = .ok (.lload_n 1, 1) := by decide +kernel
theorem dX0_checksum_102 : decode cX0_checksum 102 = .ok (.aload_n 0, 1) := by decide +kernel
theorem dX0_checksum_103 : decode cX0_checksum 103 = .ok (.getfield 29, 3) := by decide +kernel
theorem dX0_checksum_106 : decode cX0_checksum 106 = .ok (.invokestatic 247, 3) := by decide +kernel
theorem dX0_checksum_109 : decode cX0_checksum 109 = .ok (.lreturn, 1) := by decide +kernel
theorem dX0_withMember_0 : decode cX0_withMember 0 = .ok (.lload_n 1, 1) := by decide +kernel
theorem dX0_withMember_1 : decode cX0_withMember 1 = .ok (.lstore 4, 2) := by decide +kernel
theorem dX0_withMember_3 : decode cX0_withMember 3 = .ok (.iconst 0, 1) := by decide +kernel
theorem dX0_withMember_4 : decode cX0_withMember 4 = .ok (.istore 6, 2) := by decide +kernel
theorem dX0_withMember_6 : decode cX0_withMember 6 = .ok (.iload 6, 2) := by decide +kernel
theorem dX0_withMember_8 : decode cX0_withMember 8 = .ok (.bipush 10, 2) := by decide +kernel
theorem dX0_withMember_10 : decode cX0_withMember 10 = .ok (.if_icmp .ge 26, 3) := by decide +kernel
theorem dX0_withMember_13 : decode cX0_withMember 13 = .ok (.lload 4, 2) := by decide +kernel
theorem dX0_withMember_15 : decode cX0_withMember 15 = .ok (.ldc2_w 235, 3) := by decide +kernel
theorem dX0_withMember_18 : decode cX0_withMember 18 = .ok (.lmul, 1) := by decide +kernel
theorem dX0_withMember_19 : decode cX0_withMember 19 = .ok (.aload_n 0, 1) := by decide +kernel
theorem dX0_withMember_20 : decode cX0_withMember 20 = .ok (.iload_n 3, 1) := by decide +kernel
theorem dX0_withMember_21 : decode cX0_withMember 21 = .ok (.iload 6, 2) := by decide +kernel
theorem dX0_withMember_23 : decode cX0_withMember 23 = .ok (.invokevirtual 251, 3) := by decide +kernel
theorem dX0_withMember_26 : decode cX0_withMember 26 = .ok (.i2l, 1) := by decide +kernel
theorem dX0_withMember_27 : decode cX0_withMember 27 = .ok (.ladd, 1) := by decide +kernel
theorem dX0_withMember_28 : decode cX0_withMember 28 = .ok (.lstore 4, 2) := by decide +kernel
theorem dX0_withMember_30 : decode cX0_withMember 30 = .ok (.iinc 6 1, 3) := by decide +kernel
theorem dX0_withMember_33 : decode cX0_withMember 33 = .ok (.goto (-27), 3) := by decide +kernel
theorem dX0_withMember_36 : decode cX0_withMember 36 = .ok (.aload_n 0, 1) := by decide +kernel
theorem dX0_withMember_37 : decode cX0_withMember 37 = .ok (.iload_n 3, 1) := by decide +kernel
theorem dX0_withMember_38 : decode cX0_withMember 38 = .ok (.invokevirtual 54, 3) := by decide +kernel
theorem dX0_withMember_41 : decode cX0_withMember 41 = .ok (.astore 6, 2) := by decide +kernel
theorem dX0_withMember_43 : decode cX0_withMember 43 = .ok (.aload 6, 2) := by decide +kernel
theorem dX0_withMember_45 : decode cX0_withMember 45 = .ok (.ifnonnull 8, 3) := by decide +kernel
theorem dX0_withMember_48 : decode cX0_withMember 48 = .ok (.lload 4, 2) := by decide +kernel
theorem dX0_withMember_50 : decode cX0_withMember 50 = .ok (.goto 13, 3) := by decide +kernel
theorem dX0_withMember_53 : decode cX0_withMember 53 = .ok (.lload 4, 2) := by decide +kernel
theorem dX0_withMember_55 : decode cX0_withMember 55 = .ok (.aload 6, 2) := by decide +kernel
theorem dX0_withMember_57 : decode cX0_withMember 57 = .ok (.getfield 114, 3) := by decide +kernel
theorem dX0_withMember_60 : decode cX0_withMember 60 = .ok (.invokestatic 247, 3) := by decide +kernel
theorem dX0_withMember_63 : decode cX0_withMember 63 = .ok (.lreturn, 1) := by decide +kernel
theorem dX0_withRows_0 : decode cX0_withRows 0 = .ok (.lload_n 0, 1) := by decide +kernel
theorem dX0_withRows_1 : decode cX0_withRows 1 = .ok (.lstore_n 3, 1) := by decide +kernel
theorem dX0_withRows_2 : decode cX0_withRows 2 = .ok (.iconst 0, 1) := by decide +kernel
theorem dX0_withRows_3 : decode cX0_withRows 3 = .ok (.istore 5, 2) := by decide +kernel
theorem dX0_withRows_5 : decode cX0_withRows 5 = .ok (.iload 5, 2) := by decide +kernel
theorem dX0_withRows_7 : decode cX0_withRows 7 = .ok (.aload_n 2, 1) := by decide +kernel
theorem dX0_withRows_8 : decode cX0_withRows 8 = .ok (.getfield 140, 3) := by decide +kernel
theorem dX0_withRows_11 : decode cX0_withRows 11 = .ok (.if_icmp .ge 43, 3) := by decide +kernel
theorem dX0_withRows_14 : decode cX0_withRows 14 = .ok (.iconst 0, 1) := by decide +kernel
theorem dX0_withRows_15 : decode cX0_withRows 15 = .ok (.istore 6, 2) := by decide +kernel
theorem dX0_withRows_17 : decode cX0_withRows 17 = .ok (.iload 6, 2) := by decide +kernel
theorem dX0_withRows_19 : decode cX0_withRows 19 = .ok (.aload_n 2, 1) := by decide +kernel
theorem dX0_withRows_20 : decode cX0_withRows 20 = .ok (.getfield 254, 3) := by decide +kernel
theorem dX0_withRows_23 : decode cX0_withRows 23 = .ok (.if_icmp .ge 25, 3) := by decide +kernel
theorem dX0_withRows_26 : decode cX0_withRows 26 = .ok (.lload_n 3, 1) := by decide +kernel
theorem dX0_withRows_27 : decode cX0_withRows 27 = .ok (.ldc2_w 235, 3) := by decide +kernel
theorem dX0_withRows_30 : decode cX0_withRows 30 = .ok (.lmul, 1) := by decide +kernel
theorem dX0_withRows_31 : decode cX0_withRows 31 = .ok (.aload_n 2, 1) := by decide +kernel
theorem dX0_withRows_32 : decode cX0_withRows 32 = .ok (.iload 5, 2) := by decide +kernel
theorem dX0_withRows_34 : decode cX0_withRows 34 = .ok (.iload 6, 2) := by decide +kernel
theorem dX0_withRows_36 : decode cX0_withRows 36 = .ok (.invokevirtual 143, 3) := by decide +kernel
theorem dX0_withRows_39 : decode cX0_withRows 39 = .ok (.i2l, 1) := by decide +kernel
theorem dX0_withRows_40 : decode cX0_withRows 40 = .ok (.ladd, 1) := by decide +kernel
theorem dX0_withRows_41 : decode cX0_withRows 41 = .ok (.lstore_n 3, 1) := by decide +kernel
theorem dX0_withRows_42 : decode cX0_withRows 42 = .ok (.iinc 6 1, 3) := by decide +kernel
theorem dX0_withRows_45 : decode cX0_withRows 45 = .ok (.goto (-28), 3) := by decide +kernel
theorem dX0_withRows_48 : decode cX0_withRows 48 = .ok (.iinc 5 1, 3) := by decide +kernel
theorem dX0_withRows_51 : decode cX0_withRows 51 = .ok (.goto (-46), 3) := by decide +kernel
theorem dX0_withRows_54 : decode cX0_withRows 54 = .ok (.lload_n 3, 1) := by decide +kernel
theorem dX0_withRows_55 : decode cX0_withRows 55 = .ok (.lreturn, 1) := by decide +kernel
theorem dX1_init_0 : decode cX1_init 0 = .ok (.aload_n 0, 1) := by decide +kernel
theorem dX1_init_1 : decode cX1_init 1 = .ok (.invokespecial 1, 3) := by decide +kernel
theorem dX1_init_4 : decode cX1_init 4 = .ok (.return_, 1) := by decide +kernel
theorem dX1_tune_0 : decode cX1_tune 0 = .ok (.aload_n 0, 1) := by decide +kernel
theorem dX1_tune_1 : decode cX1_tune 1 = .ok (.iload_n 1, 1) := by decide +kernel
theorem dX1_tune_2 : decode cX1_tune 2 = .ok (.putfield 7, 3) := by decide +kernel
theorem dX1_tune_5 : decode cX1_tune 5 = .ok (.aload_n 0, 1) := by decide +kernel
theorem dX1_tune_6 : decode cX1_tune 6 = .ok (.iload_n 2, 1) := by decide +kernel
theorem dX1_tune_7 : decode cX1_tune 7 = .ok (.putfield 13, 3) := by decide +kernel
theorem dX1_tune_10 : decode cX1_tune 10 = .ok (.aload_n 0, 1) := by decide +kernel
theorem dX1_tune_11 : decode cX1_tune 11 = .ok (.ldc 16, 2) := by decide +kernel
theorem dX1_tune_13 : decode cX1_tune 13 = .ok (.iload_n 1, 1) := by decide +kernel
theorem dX1_tune_14 : decode cX1_tune 14 = .ok (.iload_n 2, 1) := by decide +kernel
theorem dX1_tune_15 : decode cX1_tune 15 = .ok (.iadd, 1) := by decide +kernel
theorem dX1_tune_16 : decode cX1_tune 16 = .ok (.invokestatic 17, 3) := by decide +kernel
theorem dX1_tune_19 : decode cX1_tune 19 = .ok (.putfield 23, 3) := by decide +kernel
theorem dX1_tune_22 : decode cX1_tune 22 = .ok (.aload_n 0, 1) := by decide +kernel
theorem dX1_tune_23 : decode cX1_tune 23 = .ok (.bipush 10, 2) := by decide +kernel
theorem dX1_tune_25 : decode cX1_tune 25 = .ok (.bipush 80, 2) := by decide +kernel
theorem dX1_tune_27 : decode cX1_tune 27 = .ok (.iload_n 1, 1) := by decide +kernel
theorem dX1_tune_28 : decode cX1_tune 28 = .ok (.iconst 3, 1) := by decide +kernel
theorem dX1_tune_29 : decode cX1_tune 29 = .ok (.idiv, 1) := by decide +kernel
theorem dX1_tune_30 : decode cX1_tune 30 = .ok (.isub, 1) := by decide +kernel
theorem dX1_tune_31 : decode cX1_tune 31 = .ok (.invokestatic 26, 3) := by decide +kernel
theorem dX1_tune_34 : decode cX1_tune 34 = .ok (.putfield 31, 3) := by decide +kernel
theorem dX1_tune_37 : decode cX1_tune 37 = .ok (.return_, 1) := by decide +kernel
theorem dX1_copyFrom_0 : decode cX1_copyFrom 0 = .ok (.aload_n 0, 1) := by decide +kernel
theorem dX1_copyFrom_1 : decode cX1_copyFrom 1 = .ok (.aload_n 1, 1) := by decide +kernel
theorem dX1_copyFrom_2 : decode cX1_copyFrom 2 = .ok (.getfield 7, 3) := by decide +kernel
theorem dX1_copyFrom_5 : decode cX1_copyFrom 5 = .ok (.putfield 7, 3) := by decide +kernel
theorem dX1_copyFrom_8 : decode cX1_copyFrom 8 = .ok (.aload_n 0, 1) := by decide +kernel
theorem dX1_copyFrom_9 : decode cX1_copyFrom 9 = .ok (.aload_n 1, 1) := by decide +kernel
theorem dX1_copyFrom_10 : decode cX1_copyFrom 10 = .ok (.getfield 13, 3) := by decide +kernel
theorem dX1_copyFrom_13 : decode cX1_copyFrom 13 = .ok (.putfield 13, 3) := by decide +kernel
theorem dX1_copyFrom_16 : decode cX1_copyFrom 16 = .ok (.aload_n 0, 1) := by decide +kernel
theorem dX1_copyFrom_17 : decode cX1_copyFrom 17 = .ok (.aload_n 1, 1) := by decide +kernel
theorem dX1_copyFrom_18 : decode cX1_copyFrom 18 = .ok (.getfield 34, 3) := by decide +kernel
theorem dX1_copyFrom_21 : decode cX1_copyFrom 21 = .ok (.putfield 34, 3) := by decide +kernel
theorem dX1_copyFrom_24 : decode cX1_copyFrom 24 = .ok (.aload_n 0, 1) := by decide +kernel
theorem dX1_copyFrom_25 : decode cX1_copyFrom 25 = .ok (.aload_n 1, 1) := by decide +kernel
theorem dX1_copyFrom_26 : decode cX1_copyFrom 26 = .ok (.getfield 37, 3) := by decide +kernel
theorem dX1_copyFrom_29 : decode cX1_copyFrom 29 = .ok (.putfield 37, 3) := by decide +kernel
theorem dX1_copyFrom_32 : decode cX1_copyFrom 32 = .ok (.aload_n 0, 1) := by decide +kernel
theorem dX1_copyFrom_33 : decode cX1_copyFrom 33 = .ok (.aload_n 1, 1) := by decide +kernel
theorem dX1_copyFrom_34 : decode cX1_copyFrom 34 = .ok (.getfield 23, 3) := by decide +kernel
theorem dX1_copyFrom_37 : decode cX1_copyFrom 37 = .ok (.putfield 23, 3) := by decide +kernel
theorem dX1_copyFrom_40 : decode cX1_copyFrom 40 = .ok (.aload_n 0, 1) := by decide +kernel
theorem dX1_copyFrom_41 : decode cX1_copyFrom 41 = .ok (.aload_n 1, 1) := by decide +kernel
theorem dX1_copyFrom_42 : decode cX1_copyFrom 42 = .ok (.getfield 31, 3) := by decide +kernel
theorem dX1_copyFrom_45 : decode cX1_copyFrom 45 = .ok (.putfield 31, 3) := by decide +kernel
theorem dX1_copyFrom_48 : decode cX1_copyFrom 48 = .ok (.return_, 1) := by decide +kernel
theorem dX1_strengthOf_0 : decode cX1_strengthOf 0 = .ok (.aload_n 0, 1) := by decide +kernel
theorem dX1_strengthOf_1 : decode cX1_strengthOf 1 = .ok (.getfield 31, 3) := by decide +kernel
theorem dX1_strengthOf_4 : decode cX1_strengthOf 4 = .ok (.aload_n 1, 1) := by decide +kernel
theorem dX1_strengthOf_5 : decode cX1_strengthOf 5 = .ok (.getfield 40, 3) := by decide +kernel
theorem dX1_strengthOf_8 : decode cX1_strengthOf 8 = .ok (.aload_n 0, 1) := by decide +kernel
theorem dX1_strengthOf_9 : decode cX1_strengthOf 9 = .ok (.getfield 23, 3) := by decide +kernel
theorem dX1_strengthOf_12 : decode cX1_strengthOf 12 = .ok (.invokestatic 45, 3) := by decide +kernel
theorem dX1_strengthOf_15 : decode cX1_strengthOf 15 = .ok (.isub, 1) := by decide +kernel
theorem dX1_strengthOf_16 : decode cX1_strengthOf 16 = .ok (.istore_n 3, 1) := by decide +kernel
theorem dX1_strengthOf_17 : decode cX1_strengthOf 17 = .ok (.iload_n 3, 1) := by decide +kernel
theorem dX1_strengthOf_18 : decode cX1_strengthOf 18 = .ok (.ifCond .gt 5, 3) := by decide +kernel
theorem dX1_strengthOf_21 : decode cX1_strengthOf 21 = .ok (.iconst 0, 1) := by decide +kernel
theorem dX1_strengthOf_22 : decode cX1_strengthOf 22 = .ok (.ireturn, 1) := by decide +kernel
theorem dX1_strengthOf_23 : decode cX1_strengthOf 23 = .ok (.aload_n 1, 1) := by decide +kernel
theorem dX1_strengthOf_24 : decode cX1_strengthOf 24 = .ok (.getfield 48, 3) := by decide +kernel
theorem dX1_strengthOf_27 : decode cX1_strengthOf 27 = .ok (.aload_n 1, 1) := by decide +kernel
theorem dX1_strengthOf_28 : decode cX1_strengthOf 28 = .ok (.iload_n 2, 1) := by decide +kernel
theorem dX1_strengthOf_29 : decode cX1_strengthOf 29 = .ok (.invokevirtual 51, 3) := by decide +kernel
theorem dX1_strengthOf_32 : decode cX1_strengthOf 32 = .ok (.imul, 1) := by decide +kernel
theorem dX1_strengthOf_33 : decode cX1_strengthOf 33 = .ok (.aload_n 0, 1) := by decide +kernel
theorem dX1_strengthOf_34 : decode cX1_strengthOf 34 = .ok (.getfield 34, 3) := by decide +kernel
theorem dX1_strengthOf_37 : decode cX1_strengthOf 37 = .ok (.imul, 1) := by decide +kernel
theorem dX1_strengthOf_38 : decode cX1_strengthOf 38 = .ok (.bipush 10, 2) := by decide +kernel
theorem dX1_strengthOf_40 : decode cX1_strengthOf 40 = .ok (.aload_n 1, 1) := by decide +kernel
theorem dX1_strengthOf_41 : decode cX1_strengthOf 41 = .ok (.getfield 55, 3) := by decide +kernel
theorem dX1_strengthOf_44 : decode cX1_strengthOf 44 = .ok (.imul, 1) := by decide +kernel
theorem dX1_strengthOf_45 : decode cX1_strengthOf 45 = .ok (.invokestatic 17, 3) := by decide +kernel
theorem dX1_strengthOf_48 : decode cX1_strengthOf 48 = .ok (.istore 4, 2) := by decide +kernel
theorem dX1_strengthOf_50 : decode cX1_strengthOf 50 = .ok (.iload 4, 2) := by decide +kernel
theorem dX1_strengthOf_52 : decode cX1_strengthOf 52 = .ok (.iload_n 3, 1) := by decide +kernel
theorem dX1_strengthOf_53 : decode cX1_strengthOf 53 = .ok (.imul, 1) := by decide +kernel
theorem dX1_strengthOf_54 : decode cX1_strengthOf 54 = .ok (.aload_n 0, 1) := by decide +kernel
theorem dX1_strengthOf_55 : decode cX1_strengthOf 55 = .ok (.getfield 31, 3) := by decide +kernel
theorem dX1_strengthOf_58 : decode cX1_strengthOf 58 = .ok (.invokestatic 17, 3) := by decide +kernel
theorem dX1_strengthOf_61 : decode cX1_strengthOf 61 = .ok (.iconst 1, 1) := by decide +kernel
theorem dX1_strengthOf_62 : decode cX1_strengthOf 62 = .ok (.aload_n 0, 1) := by decide +kernel
theorem dX1_strengthOf_63 : decode cX1_strengthOf 63 = .ok (.getfield 37, 3) := by decide +kernel
theorem dX1_strengthOf_66 : decode cX1_strengthOf 66 = .ok (.iadd, 1) := by decide +kernel
theorem dX1_strengthOf_67 : decode cX1_strengthOf 67 = .ok (.imul, 1) := by decide +kernel
theorem dX1_strengthOf_68 : decode cX1_strengthOf 68 = .ok (.bipush 10, 2) := by decide +kernel
theorem dX1_strengthOf_70 : decode cX1_strengthOf 70 = .ok (.idiv, 1) := by decide +kernel
theorem dX1_strengthOf_71 : decode cX1_strengthOf 71 = .ok (.ireturn, 1) := by decide +kernel
theorem dX2_init_0 : decode cX2_init 0 = .ok (.aload_n 0, 1) := by decide +kernel
theorem dX2_init_1 : decode cX2_init 1 = .ok (.invokespecial 3, 3) := by decide +kernel
theorem dX2_init_4 : decode cX2_init 4 = .ok (.return_, 1) := by decide +kernel
theorem dX2_clear_0 : decode cX2_clear 0 = .ok (.aload_n 0, 1) := by decide +kernel
theorem dX2_clear_1 : decode cX2_clear 1 = .ok (.iconst 0, 1) := by decide +kernel
theorem dX2_clear_2 : decode cX2_clear 2 = .ok (.putfield 9, 3) := by decide +kernel
theorem dX2_clear_5 : decode cX2_clear 5 = .ok (.aload_n 0, 1) := by decide +kernel
theorem dX2_clear_6 : decode cX2_clear 6 = .ok (.iconst (-1), 1) := by decide +kernel
theorem dX2_clear_7 : decode cX2_clear 7 = .ok (.putfield 15, 3) := by decide +kernel
theorem dX2_clear_10 : decode cX2_clear 10 = .ok (.aload_n 0, 1) := by decide +kernel
theorem dX2_clear_11 : decode cX2_clear 11 = .ok (.iconst 0, 1) := by decide +kernel
theorem dX2_clear_12 : decode cX2_clear 12 = .ok (.putfield 18, 3) := by decide +kernel
theorem dX2_clear_15 : decode cX2_clear 15 = .ok (.aload_n 0, 1) := by decide +kernel
theorem dX2_clear_16 : decode cX2_clear 16 = .ok (.iconst 0, 1) := by decide +kernel
theorem dX2_clear_17 : decode cX2_clear 17 = .ok (.putfield 21, 3) := by decide +kernel
theorem dX2_clear_20 : decode cX2_clear 20 = .ok (.return_, 1) := by decide +kernel
theorem dX2_offer_0 : decode cX2_offer 0 = .ok (.iload_n 2, 1) := by decide +kernel
theorem dX2_offer_1 : decode cX2_offer 1 = .ok (.ifCond .gt 4, 3) := by decide +kernel
theorem dX2_offer_4 : decode cX2_offer 4 = .ok (.return_, 1) := by decide +kernel
theorem dX2_offer_5 : decode cX2_offer 5 = .ok (.aload_n 0, 1) := by decide +kernel
theorem dX2_offer_6 : decode cX2_offer 6 = .ok (.dup, 1) := by decide +kernel
theorem dX2_offer_7 : decode cX2_offer 7 = .ok (.getfield 9, 3) := by decide +kernel
theorem dX2_offer_10 : decode cX2_offer 10 = .ok (.iconst 1, 1) := by decide +kernel
theorem dX2_offer_11 : decode cX2_offer 11 = .ok (.iadd, 1) := by decide +kernel
theorem dX2_offer_12 : decode cX2_offer 12 = .ok (.putfield 9, 3) := by decide +kernel
theorem dX2_offer_15 : decode cX2_offer 15 = .ok (.iload_n 2, 1) := by decide +kernel
theorem dX2_offer_16 : decode cX2_offer 16 = .ok (.aload_n 0, 1) := by decide +kernel
theorem dX2_offer_17 : decode cX2_offer 17 = .ok (.getfield 18, 3) := by decide +kernel
theorem dX2_offer_20 : decode cX2_offer 20 = .ok (.if_icmp .le 24, 3) := by decide +kernel
theorem dX2_offer_23 : decode cX2_offer 23 = .ok (.aload_n 0, 1) := by decide +kernel
theorem dX2_offer_24 : decode cX2_offer 24 = .ok (.aload_n 0, 1) := by decide +kernel
theorem dX2_offer_25 : decode cX2_offer 25 = .ok (.getfield 18, 3) := by decide +kernel
theorem dX2_offer_28 : decode cX2_offer 28 = .ok (.putfield 21, 3) := by decide +kernel
theorem dX2_offer_31 : decode cX2_offer 31 = .ok (.aload_n 0, 1) := by decide +kernel
theorem dX2_offer_32 : decode cX2_offer 32 = .ok (.iload_n 2, 1) := by decide +kernel
theorem dX2_offer_33 : decode cX2_offer 33 = .ok (.putfield 18, 3) := by decide +kernel
theorem dX2_offer_36 : decode cX2_offer 36 = .ok (.aload_n 0, 1) := by decide +kernel
theorem dX2_offer_37 : decode cX2_offer 37 = .ok (.iload_n 1, 1) := by decide +kernel
theorem dX2_offer_38 : decode cX2_offer 38 = .ok (.putfield 15, 3) := by decide +kernel
theorem dX2_offer_41 : decode cX2_offer 41 = .ok (.goto 16, 3) := by decide +kernel
theorem dX2_offer_44 : decode cX2_offer 44 = .ok (.iload_n 2, 1) := by decide +kernel
theorem dX2_offer_45 : decode cX2_offer 45 = .ok (.aload_n 0, 1) := by decide +kernel
theorem dX2_offer_46 : decode cX2_offer 46 = .ok (.getfield 21, 3) := by decide +kernel
theorem dX2_offer_49 : decode cX2_offer 49 = .ok (.if_icmp .le 8, 3) := by decide +kernel
theorem dX2_offer_52 : decode cX2_offer 52 = .ok (.aload_n 0, 1) := by decide +kernel
theorem dX2_offer_53 : decode cX2_offer 53 = .ok (.iload_n 2, 1) := by decide +kernel
theorem dX2_offer_54 : decode cX2_offer 54 = .ok (.putfield 21, 3) := by decide +kernel
theorem dX2_offer_57 : decode cX2_offer 57 = .ok (.return_, 1) := by decide +kernel
theorem dX2_verdict_0 : decode cX2_verdict 0 = .ok (.aload_n 0, 1) := by decide +kernel
theorem dX2_verdict_1 : decode cX2_verdict 1 = .ok (.getfield 18, 3) := by decide +kernel
theorem dX2_verdict_4 : decode cX2_verdict 4 = .ok (.iconst 5, 1) := by decide +kernel
theorem dX2_verdict_5 : decode cX2_verdict 5 = .ok (.if_icmp .lt 21, 3) := by decide +kernel
theorem dX2_verdict_8 : decode cX2_verdict 8 = .ok (.iconst 2, 1) := by decide +kernel
theorem dX2_verdict_9 : decode cX2_verdict 9 = .ok (.aload_n 0, 1) := by decide +kernel
theorem dX2_verdict_10 : decode cX2_verdict 10 = .ok (.getfield 21, 3) := by decide +kernel
theorem dX2_verdict_13 : decode cX2_verdict 13 = .ok (.imul, 1) := by decide +kernel
theorem dX2_verdict_14 : decode cX2_verdict 14 = .ok (.aload_n 0, 1) := by decide +kernel
theorem dX2_verdict_15 : decode cX2_verdict 15 = .ok (.getfield 18, 3) := by decide +kernel
theorem dX2_verdict_18 : decode cX2_verdict 18 = .ok (.if_icmp .gt 8, 3) := by decide +kernel
theorem dX2_verdict_21 : decode cX2_verdict 21 = .ok (.aload_n 0, 1) := by decide +kernel
theorem dX2_verdict_22 : decode cX2_verdict 22 = .ok (.getfield 15, 3) := by decide +kernel
theorem dX2_verdict_25 : decode cX2_verdict 25 = .ok (.ireturn, 1) := by decide +kernel
theorem dX2_verdict_26 : decode cX2_verdict 26 = .ok (.aload_n 0, 1) := by decide +kernel
theorem dX2_verdict_27 : decode cX2_verdict 27 = .ok (.getfield 9, 3) := by decide +kernel
theorem dX2_verdict_30 : decode cX2_verdict 30 = .ok (.iconst 2, 1) := by decide +kernel
theorem dX2_verdict_31 : decode cX2_verdict 31 = .ok (.if_icmp .lt 8, 3) := by decide +kernel
theorem dX2_verdict_34 : decode cX2_verdict 34 = .ok (.bipush (-2), 2) := by decide +kernel
theorem dX2_verdict_36 : decode cX2_verdict 36 = .ok (.goto 4, 3) := by decide +kernel
theorem dX2_verdict_39 : decode cX2_verdict 39 = .ok (.iconst (-1), 1) := by decide +kernel
theorem dX2_verdict_40 : decode cX2_verdict 40 = .ok (.ireturn, 1) := by decide +kernel
theorem dX3_init_0 : decode cX3_init 0 = .ok (.aload_n 0, 1) := by decide +kernel
theorem dX3_init_1 : decode cX3_init 1 = .ok (.invokespecial 3, 3) := by decide +kernel
theorem dX3_init_4 : decode cX3_init 4 = .ok (.aload_n 0, 1) := by decide +kernel
theorem dX3_init_5 : decode cX3_init 5 = .ok (.new 9, 3) := by decide +kernel
theorem dX3_init_8 : decode cX3_init 8 = .ok (.dup, 1) := by decide +kernel
theorem dX3_init_9 : decode cX3_init 9 = .ok (.invokespecial 11, 3) := by decide +kernel
theorem dX3_init_12 : decode cX3_init 12 = .ok (.putfield 12, 3) := by decide +kernel
theorem dX3_init_15 : decode cX3_init 15 = .ok (.aload_n 0, 1) := by decide +kernel
theorem dX3_init_16 : decode cX3_init 16 = .ok (.new 18, 3) := by decide +kernel
theorem dX3_init_19 : decode cX3_init 19 = .ok (.dup, 1) := by decide +kernel
theorem dX3_init_20 : decode cX3_init 20 = .ok (.bipush 40, 2) := by decide +kernel
theorem dX3_init_22 : decode cX3_init 22 = .ok (.iconst 4, 1) := by decide +kernel
theorem dX3_init_23 : decode cX3_init 23 = .ok (.invokespecial 20, 3) := by decide +kernel
theorem dX3_init_26 : decode cX3_init 26 = .ok (.putfield 23, 3) := by decide +kernel
theorem dX3_init_29 : decode cX3_init 29 = .ok (.return_, 1) := by decide +kernel
theorem dX3_begin_0 : decode cX3_begin 0 = .ok (.aload_n 0, 1) := by decide +kernel
theorem dX3_begin_1 : decode cX3_begin 1 = .ok (.getfield 12, 3) := by decide +kernel
theorem dX3_begin_4 : decode cX3_begin 4 = .ok (.iload_n 1, 1) := by decide +kernel
theorem dX3_begin_5 : decode cX3_begin 5 = .ok (.iconst 0, 1) := by decide +kernel
theorem dX3_begin_6 : decode cX3_begin 6 = .ok (.invokevirtual 27, 3) := by decide +kernel
theorem dX3_begin_9 : decode cX3_begin 9 = .ok (.aload_n 0, 1) := by decide +kernel
theorem dX3_begin_10 : decode cX3_begin 10 = .ok (.getfield 12, 3) := by decide +kernel
theorem dX3_begin_13 : decode cX3_begin 13 = .ok (.iload_n 2, 1) := by decide +kernel
theorem dX3_begin_14 : decode cX3_begin 14 = .ok (.putfield 30, 3) := by decide +kernel
theorem dX3_begin_17 : decode cX3_begin 17 = .ok (.aload_n 0, 1) := by decide +kernel
theorem dX3_begin_18 : decode cX3_begin 18 = .ok (.getfield 12, 3) := by decide +kernel
theorem dX3_begin_21 : decode cX3_begin 21 = .ok (.bipush 9, 2) := by decide +kernel
theorem dX3_begin_23 : decode cX3_begin 23 = .ok (.putfield 34, 3) := by decide +kernel
theorem dX3_begin_26 : decode cX3_begin 26 = .ok (.aload_n 0, 1) := by decide +kernel
theorem dX3_begin_27 : decode cX3_begin 27 = .ok (.iconst 1, 1) := by decide +kernel
theorem dX3_begin_28 : decode cX3_begin 28 = .ok (.putfield 37, 3) := by decide +kernel
theorem dX3_begin_31 : decode cX3_begin 31 = .ok (.aload_n 0, 1) := by decide +kernel
theorem dX3_begin_32 : decode cX3_begin 32 = .ok (.getfield 23, 3) := by decide +kernel
theorem dX3_begin_35 : decode cX3_begin 35 = .ok (.iconst 0, 1) := by decide +kernel
theorem dX3_begin_36 : decode cX3_begin 36 = .ok (.putfield 41, 3) := by decide +kernel
theorem dX3_begin_39 : decode cX3_begin 39 = .ok (.return_, 1) := by decide +kernel
theorem dX3_copyFrom_0 : decode cX3_copyFrom 0 = .ok (.aload_n 0, 1) := by decide +kernel
theorem dX3_copyFrom_1 : decode cX3_copyFrom 1 = .ok (.getfield 12, 3) := by decide +kernel
theorem dX3_copyFrom_4 : decode cX3_copyFrom 4 = .ok (.aload_n 1, 1) := by decide +kernel
theorem dX3_copyFrom_5 : decode cX3_copyFrom 5 = .ok (.getfield 12, 3) := by decide +kernel
theorem dX3_copyFrom_8 : decode cX3_copyFrom 8 = .ok (.invokevirtual 44, 3) := by decide +kernel
theorem dX3_copyFrom_11 : decode cX3_copyFrom 11 = .ok (.aload_n 0, 1) := by decide +kernel
theorem dX3_copyFrom_12 : decode cX3_copyFrom 12 = .ok (.getfield 23, 3) := by decide +kernel
theorem dX3_copyFrom_15 : decode cX3_copyFrom 15 = .ok (.aload_n 1, 1) := by decide +kernel
theorem dX3_copyFrom_16 : decode cX3_copyFrom 16 = .ok (.getfield 23, 3) := by decide +kernel
theorem dX3_copyFrom_19 : decode cX3_copyFrom 19 = .ok (.invokevirtual 48, 3) := by decide +kernel
theorem dX3_copyFrom_22 : decode cX3_copyFrom 22 = .ok (.aload_n 0, 1) := by decide +kernel
theorem dX3_copyFrom_23 : decode cX3_copyFrom 23 = .ok (.aload_n 1, 1) := by decide +kernel
theorem dX3_copyFrom_24 : decode cX3_copyFrom 24 = .ok (.getfield 37, 3) := by decide +kernel
theorem dX3_copyFrom_27 : decode cX3_copyFrom 27 = .ok (.putfield 37, 3) := by decide +kernel
theorem dX3_copyFrom_30 : decode cX3_copyFrom 30 = .ok (.return_, 1) := by decide +kernel
theorem dX3_hasLineOf_0 : decode cX3_hasLineOf 0 = .ok (.iconst 0, 1) := by decide +kernel
theorem dX3_hasLineOf_1 : decode cX3_hasLineOf 1 = .ok (.istore_n 3, 1) := by decide +kernel
theorem dX3_hasLineOf_2 : decode cX3_hasLineOf 2 = .ok (.iload_n 3, 1) := by decide +kernel
theorem dX3_hasLineOf_3 : decode cX3_hasLineOf 3 = .ok (.aload_n 0, 1) := by decide +kernel
theorem dX3_hasLineOf_4 : decode cX3_hasLineOf 4 = .ok (.getfield 23, 3) := by decide +kernel
theorem dX3_hasLineOf_7 : decode cX3_hasLineOf 7 = .ok (.getfield 41, 3) := by decide +kernel
theorem dX3_hasLineOf_10 : decode cX3_hasLineOf 10 = .ok (.if_icmp .ge 40, 3) := by decide +kernel
theorem dX3_hasLineOf_13 : decode cX3_hasLineOf 13 = .ok (.aload_n 0, 1) := by decide +kernel
theorem dX3_hasLineOf_14 : decode cX3_hasLineOf 14 = .ok (.getfield 23, 3) := by decide +kernel
theorem dX3_hasLineOf_17 : decode cX3_hasLineOf 17 = .ok (.iload_n 3, 1) := by decide +kernel
theorem dX3_hasLineOf_18 : decode cX3_hasLineOf 18 = .ok (.iconst 1, 1) := by decide +kernel
theorem dX3_hasLineOf_19 : decode cX3_hasLineOf 19 = .ok (.invokevirtual 51, 3) := by decide +kernel
theorem dX3_hasLineOf_22 : decode cX3_hasLineOf 22 = .ok (.iload_n 1, 1) := by decide +kernel
theorem dX3_hasLineOf_23 : decode cX3_hasLineOf 23 = .ok (.if_icmp .ne 21, 3) := by decide +kernel
theorem dX3_hasLineOf_26 : decode cX3_hasLineOf 26 = .ok (.aload_n 0, 1) := by decide +kernel
theorem dX3_hasLineOf_27 : decode cX3_hasLineOf 27 = .ok (.getfield 23, 3) := by decide +kernel
theorem dX3_hasLineOf_30 : decode cX3_hasLineOf 30 = .ok (.iload_n 3, 1) := by decide +kernel
theorem dX3_hasLineOf_31 : decode cX3_hasLineOf 31 = .ok (.iconst 0, 1) := by decide +kernel
theorem dX3_hasLineOf_32 : decode cX3_hasLineOf 32 = .ok (.invokevirtual 51, 3) := by decide +kernel
theorem dX3_hasLineOf_35 : decode cX3_hasLineOf 35 = .ok (.bipush 24, 2) := by decide +kernel
theorem dX3_hasLineOf_37 : decode cX3_hasLineOf 37 = .ok (.idiv, 1) := by decide +kernel
theorem dX3_hasLineOf_38 : decode cX3_hasLineOf 38 = .ok (.iload_n 2, 1) := by decide +kernel
theorem dX3_hasLineOf_39 : decode cX3_hasLineOf 39 = .ok (.if_icmp .ne 5, 3) := by decide +kernel
theorem dX3_hasLineOf_42 : decode cX3_hasLineOf 42 = .ok (.iconst 1, 1) := by decide +kernel
theorem dX3_hasLineOf_43 : decode cX3_hasLineOf 43 = .ok (.ireturn, 1) := by decide +kernel
theorem dX3_hasLineOf_44 : decode cX3_hasLineOf 44 = .ok (.iinc 3 1, 3) := by decide +kernel
theorem dX3_hasLineOf_47 : decode cX3_hasLineOf 47 = .ok (.goto (-45), 3) := by decide +kernel
theorem dX3_hasLineOf_50 : decode cX3_hasLineOf 50 = .ok (.iconst 0, 1) := by decide +kernel
theorem dX3_hasLineOf_51 : decode cX3_hasLineOf 51 = .ok (.ireturn, 1) := by decide +kernel
theorem dX3_cards_0 : decode cX3_cards 0 = .ok (.iconst 0, 1) := by decide +kernel
theorem dX3_cards_1 : decode cX3_cards 1 = .ok (.istore_n 1, 1) := by decide +kernel
theorem dX3_cards_2 : decode cX3_cards 2 = .ok (.iconst 0, 1) := by decide +kernel
theorem dX3_cards_3 : decode cX3_cards 3 = .ok (.istore_n 2, 1) := by decide +kernel
theorem dX3_cards_4 : decode cX3_cards 4 = .ok (.iload_n 2, 1) := by decide +kernel
theorem dX3_cards_5 : decode cX3_cards 5 = .ok (.aload_n 0, 1) := by decide +kernel
theorem dX3_cards_6 : decode cX3_cards 6 = .ok (.getfield 23, 3) := by decide +kernel
theorem dX3_cards_9 : decode cX3_cards 9 = .ok (.getfield 41, 3) := by decide +kernel
theorem dX3_cards_12 : decode cX3_cards 12 = .ok (.if_icmp .ge 36, 3) := by decide +kernel
theorem dX3_cards_15 : decode cX3_cards 15 = .ok (.aload_n 0, 1) := by decide +kernel
theorem dX3_cards_16 : decode cX3_cards 16 = .ok (.getfield 23, 3) := by decide +kernel
theorem dX3_cards_19 : decode cX3_cards 19 = .ok (.iload_n 2, 1) := by decide +kernel
theorem dX3_cards_20 : decode cX3_cards 20 = .ok (.iconst 3, 1) := by decide +kernel
theorem dX3_cards_21 : decode cX3_cards 21 = .ok (.invokevirtual 51, 3) := by decide +kernel
theorem dX3_cards_24 : decode cX3_cards 24 = .ok (.iconst 1, 1) := by decide +kernel
theorem dX3_cards_25 : decode cX3_cards 25 = .ok (.if_icmp .ne 17, 3) := by decide +kernel
theorem dX3_cards_28 : decode cX3_cards 28 = .ok (.iload_n 1, 1) := by decide +kernel
theorem dX3_cards_29 : decode cX3_cards 29 = .ok (.iconst 1, 1) := by decide +kernel
theorem dX3_cards_30 : decode cX3_cards 30 = .ok (.aload_n 0, 1) := by decide +kernel
theorem dX3_cards_31 : decode cX3_cards 31 = .ok (.getfield 23, 3) := by decide +kernel
theorem dX3_cards_34 : decode cX3_cards 34 = .ok (.iload_n 2, 1) := by decide +kernel
theorem dX3_cards_35 : decode cX3_cards 35 = .ok (.iconst 1, 1) := by decide +kernel
theorem dX3_cards_36 : decode cX3_cards 36 = .ok (.invokevirtual 51, 3) := by decide +kernel
theorem dX3_cards_39 : decode cX3_cards 39 = .ok (.ishl, 1) := by decide +kernel
theorem dX3_cards_40 : decode cX3_cards 40 = .ok (.ior, 1) := by decide +kernel
theorem dX3_cards_41 : decode cX3_cards 41 = .ok (.istore_n 1, 1) := by decide +kernel
theorem dX3_cards_42 : decode cX3_cards 42 = .ok (.iinc 2 1, 3) := by decide +kernel
theorem dX3_cards_45 : decode cX3_cards 45 = .ok (.goto (-41), 3) := by decide +kernel
theorem dX3_cards_48 : decode cX3_cards 48 = .ok (.iload_n 1, 1) := by decide +kernel
theorem dX3_cards_49 : decode cX3_cards 49 = .ok (.ireturn, 1) := by decide +kernel
theorem dX3_addLine_0 : decode cX3_addLine 0 = .ok (.aload_n 0, 1) := by decide +kernel
theorem dX3_addLine_1 : decode cX3_addLine 1 = .ok (.getfield 23, 3) := by decide +kernel
theorem dX3_addLine_4 : decode cX3_addLine 4 = .ok (.getfield 41, 3) := by decide +kernel
theorem dX3_addLine_7 : decode cX3_addLine 7 = .ok (.istore 4, 2) := by decide +kernel
theorem dX3_addLine_9 : decode cX3_addLine 9 = .ok (.aload_n 0, 1) := by decide +kernel
theorem dX3_addLine_10 : decode cX3_addLine 10 = .ok (.getfield 23, 3) := by decide +kernel
theorem dX3_addLine_13 : decode cX3_addLine 13 = .ok (.iload 4, 2) := by decide +kernel
theorem dX3_addLine_15 : decode cX3_addLine 15 = .ok (.iconst 0, 1) := by decide +kernel
theorem dX3_addLine_16 : decode cX3_addLine 16 = .ok (.iload_n 1, 1) := by decide +kernel
theorem dX3_addLine_17 : decode cX3_addLine 17 = .ok (.invokevirtual 55, 3) := by decide +kernel
theorem dX3_addLine_20 : decode cX3_addLine 20 = .ok (.aload_n 0, 1) := by decide +kernel
theorem dX3_addLine_21 : decode cX3_addLine 21 = .ok (.getfield 23, 3) := by decide +kernel
theorem dX3_addLine_24 : decode cX3_addLine 24 = .ok (.iload 4, 2) := by decide +kernel
theorem dX3_addLine_26 : decode cX3_addLine 26 = .ok (.iconst 1, 1) := by decide +kernel
theorem dX3_addLine_27 : decode cX3_addLine 27 = .ok (.iload_n 2, 1) := by decide +kernel
theorem dX3_addLine_28 : decode cX3_addLine 28 = .ok (.invokevirtual 55, 3) := by decide +kernel
theorem dX3_addLine_31 : decode cX3_addLine 31 = .ok (.aload_n 0, 1) := by decide +kernel
theorem dX3_addLine_32 : decode cX3_addLine 32 = .ok (.getfield 23, 3) := by decide +kernel
theorem dX3_addLine_35 : decode cX3_addLine 35 = .ok (.iload 4, 2) := by decide +kernel
theorem dX3_addLine_37 : decode cX3_addLine 37 = .ok (.iconst 2, 1) := by decide +kernel
theorem dX3_addLine_38 : decode cX3_addLine 38 = .ok (.iload_n 3, 1) := by decide +kernel
theorem dX3_addLine_39 : decode cX3_addLine 39 = .ok (.invokevirtual 55, 3) := by decide +kernel
theorem dX3_addLine_42 : decode cX3_addLine 42 = .ok (.aload_n 0, 1) := by decide +kernel
theorem dX3_addLine_43 : decode cX3_addLine 43 = .ok (.getfield 23, 3) := by decide +kernel
theorem dX3_addLine_46 : decode cX3_addLine 46 = .ok (.iload 4, 2) := by decide +kernel
theorem dX3_addLine_48 : decode cX3_addLine 48 = .ok (.iconst 3, 1) := by decide +kernel
theorem dX3_addLine_49 : decode cX3_addLine 49 = .ok (.iconst 0, 1) := by decide +kernel
theorem dX3_addLine_50 : decode cX3_addLine 50 = .ok (.invokevirtual 55, 3) := by decide +kernel
theorem dX3_addLine_53 : decode cX3_addLine 53 = .ok (.aload_n 0, 1) := by decide +kernel
theorem dX3_addLine_54 : decode cX3_addLine 54 = .ok (.getfield 23, 3) := by decide +kernel
theorem dX3_addLine_57 : decode cX3_addLine 57 = .ok (.dup, 1) := by decide +kernel
theorem dX3_addLine_58 : decode cX3_addLine 58 = .ok (.getfield 41, 3) := by decide +kernel
theorem dX3_addLine_61 : decode cX3_addLine 61 = .ok (.iconst 1, 1) := by decide +kernel
theorem dX3_addLine_62 : decode cX3_addLine 62 = .ok (.iadd, 1) := by decide +kernel
theorem dX3_addLine_63 : decode cX3_addLine 63 = .ok (.putfield 41, 3) := by decide +kernel
theorem dX3_addLine_66 : decode cX3_addLine 66 = .ok (.return_, 1) := by decide +kernel
theorem dX3_takeAnswer_0 : decode cX3_takeAnswer 0 = .ok (.aload_n 0, 1) := by decide +kernel
theorem dX3_takeAnswer_1 : decode cX3_takeAnswer 1 = .ok (.getfield 23, 3) := by decide +kernel
theorem dX3_takeAnswer_4 : decode cX3_takeAnswer 4 = .ok (.iload_n 1, 1) := by decide +kernel
theorem dX3_takeAnswer_5 : decode cX3_takeAnswer 5 = .ok (.iconst 2, 1) := by decide +kernel
theorem dX3_takeAnswer_6 : decode cX3_takeAnswer 6 = .ok (.invokevirtual 51, 3) := by decide +kernel
theorem dX3_takeAnswer_9 : decode cX3_takeAnswer 9 = .ok (.bipush 8, 2) := by decide +kernel
theorem dX3_takeAnswer_11 : decode cX3_takeAnswer 11 = .ok (.if_icmp .lt 13, 3) := by decide +kernel
theorem dX3_takeAnswer_14 : decode cX3_takeAnswer 14 = .ok (.aload_n 0, 1) := by decide +kernel
theorem dX3_takeAnswer_15 : decode cX3_takeAnswer 15 = .ok (.getfield 23, 3) := by decide +kernel
theorem dX3_takeAnswer_18 : decode cX3_takeAnswer 18 = .ok (.iload_n 1, 1) := by decide +kernel
theorem dX3_takeAnswer_19 : decode cX3_takeAnswer 19 = .ok (.iconst 3, 1) := by decide +kernel
theorem dX3_takeAnswer_20 : decode cX3_takeAnswer 20 = .ok (.iconst 1, 1) := by decide +kernel
theorem dX3_takeAnswer_21 : decode cX3_takeAnswer 21 = .ok (.invokevirtual 55, 3) := by decide +kernel
theorem dX3_takeAnswer_24 : decode cX3_takeAnswer 24 = .ok (.return_, 1) := by decide +kernel
theorem dX3_wearCrystal_0 : decode cX3_wearCrystal 0 = .ok (.aload_n 0, 1) := by decide +kernel
theorem dX3_wearCrystal_1 : decode cX3_wearCrystal 1 = .ok (.getfield 37, 3) := by decide +kernel
theorem dX3_wearCrystal_4 : decode cX3_wearCrystal 4 = .ok (.ifCond .eq 26, 3) := by decide +kernel
theorem dX3_wearCrystal_7 : decode cX3_wearCrystal 7 = .ok (.aload_n 0, 1) := by decide +kernel
theorem dX3_wearCrystal_8 : decode cX3_wearCrystal 8 = .ok (.getfield 12, 3) := by decide +kernel
theorem dX3_wearCrystal_11 : decode cX3_wearCrystal 11 = .ok (.getfield 34, 3) := by decide +kernel
theorem dX3_wearCrystal_14 : decode cX3_wearCrystal 14 = .ok (.ifCond .le 16, 3) := by decide +kernel
theorem dX3_wearCrystal_17 : decode cX3_wearCrystal 17 = .ok (.aload_n 0, 1) := by decide +kernel
theorem dX3_wearCrystal_18 : decode cX3_wearCrystal 18 = .ok (.getfield 12, 3) := by decide +kernel
theorem dX3_wearCrystal_21 : decode cX3_wearCrystal 21 = .ok (.dup, 1) := by decide +kernel
theorem dX3_wearCrystal_22 : decode cX3_wearCrystal 22 = .ok (.getfield 34, 3) := by decide +kernel
theorem dX3_wearCrystal_25 : decode cX3_wearCrystal 25 = .ok (.iconst 1, 1) := by decide +kernel
theorem dX3_wearCrystal_26 : decode cX3_wearCrystal 26 = .ok (.isub, 1) := by decide +kernel
theorem dX3_wearCrystal_27 : decode cX3_wearCrystal 27 = .ok (.putfield 34, 3) := by decide +kernel
theorem dX3_wearCrystal_30 : decode cX3_wearCrystal 30 = .ok (.return_, 1) := by decide +kernel
theorem dX4_init_0 : decode cX4_init 0 = .ok (.aload_n 0, 1) := by decide +kernel
theorem dX4_init_1 : decode cX4_init 1 = .ok (.invokespecial 3, 3) := by decide +kernel
theorem dX4_init_4 : decode cX4_init 4 = .ok (.aload_n 0, 1) := by decide +kernel
theorem dX4_init_5 : decode cX4_init 5 = .ok (.iload_n 1, 1) := by decide +kernel
theorem dX4_init_6 : decode cX4_init 6 = .ok (.putfield 9, 3) := by decide +kernel
theorem dX4_init_9 : decode cX4_init 9 = .ok (.aload_n 0, 1) := by decide +kernel
theorem dX4_init_10 : decode cX4_init 10 = .ok (.iload_n 2, 1) := by decide +kernel
theorem dX4_init_11 : decode cX4_init 11 = .ok (.putfield 15, 3) := by decide +kernel
theorem dX4_init_14 : decode cX4_init 14 = .ok (.aload_n 0, 1) := by decide +kernel
theorem dX4_init_15 : decode cX4_init 15 = .ok (.iload_n 3, 1) := by decide +kernel
theorem dX4_init_16 : decode cX4_init 16 = .ok (.putfield 18, 3) := by decide +kernel
theorem dX4_init_19 : decode cX4_init 19 = .ok (.aload_n 0, 1) := by decide +kernel
theorem dX4_init_20 : decode cX4_init 20 = .ok (.iload 4, 2) := by decide +kernel
theorem dX4_init_22 : decode cX4_init 22 = .ok (.putfield 21, 3) := by decide +kernel
theorem dX4_init_25 : decode cX4_init 25 = .ok (.aload_n 0, 1) := by decide +kernel
theorem dX4_init_26 : decode cX4_init 26 = .ok (.iload 5, 2) := by decide +kernel
theorem dX4_init_28 : decode cX4_init 28 = .ok (.putfield 24, 3) := by decide +kernel
theorem dX4_init_31 : decode cX4_init 31 = .ok (.aload_n 0, 1) := by decide +kernel
theorem dX4_init_32 : decode cX4_init 32 = .ok (.iload 6, 2) := by decide +kernel
theorem dX4_init_34 : decode cX4_init 34 = .ok (.putfield 27, 3) := by decide +kernel
theorem dX4_init_37 : decode cX4_init 37 = .ok (.return_, 1) := by decide +kernel
theorem dX4_isOnAir_0 : decode cX4_isOnAir 0 = .ok (.iload_n 1, 1) := by decide +kernel
theorem dX4_isOnAir_1 : decode cX4_isOnAir 1 = .ok (.bipush 24, 2) := by decide +kernel
theorem dX4_isOnAir_3 : decode cX4_isOnAir 3 = .ok (.irem, 1) := by decide +kernel
theorem dX4_isOnAir_4 : decode cX4_isOnAir 4 = .ok (.aload_n 0, 1) := by decide +kernel
theorem dX4_isOnAir_5 : decode cX4_isOnAir 5 = .ok (.getfield 21, 3) := by decide +kernel
theorem dX4_isOnAir_8 : decode cX4_isOnAir 8 = .ok (.isub, 1) := by decide +kernel
theorem dX4_isOnAir_9 : decode cX4_isOnAir 9 = .ok (.bipush 24, 2) := by decide +kernel
theorem dX4_isOnAir_11 : decode cX4_isOnAir 11 = .ok (.iadd, 1) := by decide +kernel
theorem dX4_isOnAir_12 : decode cX4_isOnAir 12 = .ok (.bipush 24, 2) := by decide +kernel
theorem dX4_isOnAir_14 : decode cX4_isOnAir 14 = .ok (.irem, 1) := by decide +kernel
theorem dX4_isOnAir_15 : decode cX4_isOnAir 15 = .ok (.istore_n 2, 1) := by decide +kernel
theorem dX4_isOnAir_16 : decode cX4_isOnAir 16 = .ok (.iload_n 2, 1) := by decide +kernel
theorem dX4_isOnAir_17 : decode cX4_isOnAir 17 = .ok (.aload_n 0, 1) := by decide +kernel
theorem dX4_isOnAir_18 : decode cX4_isOnAir 18 = .ok (.getfield 24, 3) := by decide +kernel
theorem dX4_isOnAir_21 : decode cX4_isOnAir 21 = .ok (.if_icmp .ge 7, 3) := by decide +kernel
theorem dX4_isOnAir_24 : decode cX4_isOnAir 24 = .ok (.iconst 1, 1) := by decide +kernel
theorem dX4_isOnAir_25 : decode cX4_isOnAir 25 = .ok (.goto 4, 3) := by decide +kernel
theorem dX4_isOnAir_28 : decode cX4_isOnAir 28 = .ok (.iconst 0, 1) := by decide +kernel
theorem dX4_isOnAir_29 : decode cX4_isOnAir 29 = .ok (.ireturn, 1) := by decide +kernel
theorem dX4_fading_0 : decode cX4_fading 0 = .ok (.iload_n 1, 1) := by decide +kernel
theorem dX4_fading_1 : decode cX4_fading 1 = .ok (.aload_n 0, 1) := by decide +kernel
theorem dX4_fading_2 : decode cX4_fading 2 = .ok (.getfield 27, 3) := by decide +kernel
theorem dX4_fading_5 : decode cX4_fading 5 = .ok (.iadd, 1) := by decide +kernel
theorem dX4_fading_6 : decode cX4_fading 6 = .ok (.bipush 12, 2) := by decide +kernel
theorem dX4_fading_8 : decode cX4_fading 8 = .ok (.irem, 1) := by decide +kernel
theorem dX4_fading_9 : decode cX4_fading 9 = .ok (.bipush 6, 2) := by decide +kernel
theorem dX4_fading_11 : decode cX4_fading 11 = .ok (.isub, 1) := by decide +kernel
theorem dX4_fading_12 : decode cX4_fading 12 = .ok (.istore_n 2, 1) := by decide +kernel
theorem dX4_fading_13 : decode cX4_fading 13 = .ok (.iconst 4, 1) := by decide +kernel
theorem dX4_fading_14 : decode cX4_fading 14 = .ok (.iload_n 2, 1) := by decide +kernel
theorem dX4_fading_15 : decode cX4_fading 15 = .ok (.ifCond .ge 8, 3) := by decide +kernel
theorem dX4_fading_18 : decode cX4_fading 18 = .ok (.iload_n 2, 1) := by decide +kernel
theorem dX4_fading_19 : decode cX4_fading 19 = .ok (.ineg, 1) := by decide +kernel
theorem dX4_fading_20 : decode cX4_fading 20 = .ok (.goto 4, 3) := by decide +kernel
theorem dX4_fading_23 : decode cX4_fading 23 = .ok (.iload_n 2, 1) := by decide +kernel
theorem dX4_fading_24 : decode cX4_fading 24 = .ok (.iadd, 1) := by decide +kernel
theorem dX4_fading_25 : decode cX4_fading 25 = .ok (.ireturn, 1) := by decide +kernel
theorem dX4_daysOfMail_0 : decode cX4_daysOfMail 0 = .ok (.aload_n 0, 1) := by decide +kernel
theorem dX4_daysOfMail_1 : decode cX4_daysOfMail 1 = .ok (.getfield 18, 3) := by decide +kernel
theorem dX4_daysOfMail_4 : decode cX4_daysOfMail 4 = .ok (.bipush 10, 2) := by decide +kernel
theorem dX4_daysOfMail_6 : decode cX4_daysOfMail 6 = .ok (.idiv, 1) := by decide +kernel
theorem dX4_daysOfMail_7 : decode cX4_daysOfMail 7 = .ok (.iconst 2, 1) := by decide +kernel
theorem dX4_daysOfMail_8 : decode cX4_daysOfMail 8 = .ok (.iadd, 1) := by decide +kernel
theorem dX4_daysOfMail_9 : decode cX4_daysOfMail 9 = .ok (.ireturn, 1) := by decide +kernel
theorem dX5_init_0 : decode cX5_init 0 = .ok (.aload_n 0, 1) := by decide +kernel
theorem dX5_init_1 : decode cX5_init 1 = .ok (.invokespecial 1, 3) := by decide +kernel
theorem dX5_init_4 : decode cX5_init 4 = .ok (.aload_n 0, 1) := by decide +kernel
theorem dX5_init_5 : decode cX5_init 5 = .ok (.iload_n 2, 1) := by decide +kernel
theorem dX5_init_6 : decode cX5_init 6 = .ok (.putfield 7, 3) := by decide +kernel
theorem dX5_init_9 : decode cX5_init 9 = .ok (.aload_n 0, 1) := by decide +kernel
theorem dX5_init_10 : decode cX5_init 10 = .ok (.iconst 0, 1) := by decide +kernel
theorem dX5_init_11 : decode cX5_init 11 = .ok (.iload_n 1, 1) := by decide +kernel
theorem dX5_init_12 : decode cX5_init 12 = .ok (.iload_n 2, 1) := by decide +kernel
theorem dX5_init_13 : decode cX5_init 13 = .ok (.imul, 1) := by decide +kernel
theorem dX5_init_14 : decode cX5_init 14 = .ok (.invokestatic 13, 3) := by decide +kernel
theorem dX5_init_17 : decode cX5_init 17 = .ok (.newarray .int, 2) := by decide +kernel
theorem dX5_init_19 : decode cX5_init 19 = .ok (.putfield 19, 3) := by decide +kernel
theorem dX5_init_22 : decode cX5_init 22 = .ok (.return_, 1) := by decide +kernel
theorem dX5_isFull_0 : decode cX5_isFull 0 = .ok (.aload_n 0, 1) := by decide +kernel
theorem dX5_isFull_1 : decode cX5_isFull 1 = .ok (.getfield 23, 3) := by decide +kernel
theorem dX5_isFull_4 : decode cX5_isFull 4 = .ok (.iconst 1, 1) := by decide +kernel
theorem dX5_isFull_5 : decode cX5_isFull 5 = .ok (.iadd, 1) := by decide +kernel
theorem dX5_isFull_6 : decode cX5_isFull 6 = .ok (.aload_n 0, 1) := by decide +kernel
theorem dX5_isFull_7 : decode cX5_isFull 7 = .ok (.getfield 7, 3) := by decide +kernel
theorem dX5_isFull_10 : decode cX5_isFull 10 = .ok (.imul, 1) := by decide +kernel
theorem dX5_isFull_11 : decode cX5_isFull 11 = .ok (.aload_n 0, 1) := by decide +kernel
theorem dX5_isFull_12 : decode cX5_isFull 12 = .ok (.getfield 19, 3) := by decide +kernel
theorem dX5_isFull_15 : decode cX5_isFull 15 = .ok (.arraylength, 1) := by decide +kernel
theorem dX5_isFull_16 : decode cX5_isFull 16 = .ok (.if_icmp .le 7, 3) := by decide +kernel
theorem dX5_isFull_19 : decode cX5_isFull 19 = .ok (.iconst 1, 1) := by decide +kernel
theorem dX5_isFull_20 : decode cX5_isFull 20 = .ok (.goto 4, 3) := by decide +kernel
theorem dX5_isFull_23 : decode cX5_isFull 23 = .ok (.iconst 0, 1) := by decide +kernel
theorem dX5_isFull_24 : decode cX5_isFull 24 = .ok (.ireturn, 1) := by decide +kernel
theorem dX5_at_0 : decode cX5_at 0 = .ok (.iload_n 1, 1) := by decide +kernel
theorem dX5_at_1 : decode cX5_at 1 = .ok (.aload_n 0, 1) := by decide +kernel
theorem dX5_at_2 : decode cX5_at 2 = .ok (.getfield 7, 3) := by decide +kernel
theorem dX5_at_5 : decode cX5_at 5 = .ok (.imul, 1) := by decide +kernel
theorem dX5_at_6 : decode cX5_at 6 = .ok (.iload_n 2, 1) := by decide +kernel
theorem dX5_at_7 : decode cX5_at 7 = .ok (.iadd, 1) := by decide +kernel
theorem dX5_at_8 : decode cX5_at 8 = .ok (.istore_n 3, 1) := by decide +kernel
theorem dX5_at_9 : decode cX5_at 9 = .ok (.iload_n 3, 1) := by decide +kernel
theorem dX5_at_10 : decode cX5_at 10 = .ok (.ifCond .lt 21, 3) := by decide +kernel
theorem dX5_at_13 : decode cX5_at 13 = .ok (.iload_n 3, 1) := by decide +kernel
theorem dX5_at_14 : decode cX5_at 14 = .ok (.aload_n 0, 1) := by decide +kernel
theorem dX5_at_15 : decode cX5_at 15 = .ok (.getfield 19, 3) := by decide +kernel
theorem dX5_at_18 : decode cX5_at 18 = .ok (.arraylength, 1) := by decide +kernel
theorem dX5_at_19 : decode cX5_at 19 = .ok (.if_icmp .ge 12, 3) := by decide +kernel
theorem dX5_at_22 : decode cX5_at 22 = .ok (.aload_n 0, 1) := by decide +kernel
theorem dX5_at_23 : decode cX5_at 23 = .ok (.getfield 19, 3) := by decide +kernel
theorem dX5_at_26 : decode cX5_at 26 = .ok (.iload_n 3, 1) := by decide +kernel
theorem dX5_at_27 : decode cX5_at 27 = .ok (.iaload, 1) := by decide +kernel
theorem dX5_at_28 : decode cX5_at 28 = .ok (.goto 4, 3) := by decide +kernel
theorem dX5_at_31 : decode cX5_at 31 = .ok (.iconst 0, 1) := by decide +kernel
theorem dX5_at_32 : decode cX5_at 32 = .ok (.ireturn, 1) := by decide +kernel
theorem dX5_put_0 : decode cX5_put 0 = .ok (.iload_n 1, 1) := by decide +kernel
theorem dX5_put_1 : decode cX5_put 1 = .ok (.aload_n 0, 1) := by decide +kernel
theorem dX5_put_2 : decode cX5_put 2 = .ok (.getfield 7, 3) := by decide +kernel
theorem dX5_put_5 : decode cX5_put 5 = .ok (.imul, 1) := by decide +kernel
theorem dX5_put_6 : decode cX5_put 6 = .ok (.iload_n 2, 1) := by decide +kernel
theorem dX5_put_7 : decode cX5_put 7 = .ok (.iadd, 1) := by decide +kernel
theorem dX5_put_8 : decode cX5_put 8 = .ok (.istore 4, 2) := by decide +kernel
theorem dX5_put_10 : decode cX5_put 10 = .ok (.iload 4, 2) := by decide +kernel
theorem dX5_put_12 : decode cX5_put 12 = .ok (.ifCond .lt 21, 3) := by decide +kernel
theorem dX5_put_15 : decode cX5_put 15 = .ok (.iload 4, 2) := by decide +kernel
theorem dX5_put_17 : decode cX5_put 17 = .ok (.aload_n 0, 1) := by decide +kernel
theorem dX5_put_18 : decode cX5_put 18 = .ok (.getfield 19, 3) := by decide +kernel
theorem dX5_put_21 : decode cX5_put 21 = .ok (.arraylength, 1) := by decide +kernel
theorem dX5_put_22 : decode cX5_put 22 = .ok (.if_icmp .ge 11, 3) := by decide +kernel
theorem dX5_put_25 : decode cX5_put 25 = .ok (.aload_n 0, 1) := by decide +kernel
theorem dX5_put_26 : decode cX5_put 26 = .ok (.getfield 19, 3) := by decide +kernel
theorem dX5_put_29 : decode cX5_put 29 = .ok (.iload 4, 2) := by decide +kernel
theorem dX5_put_31 : decode cX5_put 31 = .ok (.iload_n 3, 1) := by decide +kernel
theorem dX5_put_32 : decode cX5_put 32 = .ok (.iastore, 1) := by decide +kernel
theorem dX5_put_33 : decode cX5_put 33 = .ok (.return_, 1) := by decide +kernel
theorem dX5_copyRow_0 : decode cX5_copyRow 0 = .ok (.iconst 0, 1) := by decide +kernel
theorem dX5_copyRow_1 : decode cX5_copyRow 1 = .ok (.istore_n 3, 1) := by decide +kernel
theorem dX5_copyRow_2 : decode cX5_copyRow 2 = .ok (.iload_n 3, 1) := by decide +kernel
theorem dX5_copyRow_3 : decode cX5_copyRow 3 = .ok (.aload_n 0, 1) := by decide +kernel
theorem dX5_copyRow_4 : decode cX5_copyRow 4 = .ok (.getfield 7, 3) := by decide +kernel
theorem dX5_copyRow_7 : decode cX5_copyRow 7 = .ok (.if_icmp .ge 21, 3) := by decide +kernel
theorem dX5_copyRow_10 : decode cX5_copyRow 10 = .ok (.aload_n 0, 1) := by decide +kernel
theorem dX5_copyRow_11 : decode cX5_copyRow 11 = .ok (.iload_n 2, 1) := by decide +kernel
theorem dX5_copyRow_12 : decode cX5_copyRow 12 = .ok (.iload_n 3, 1) := by decide +kernel
theorem dX5_copyRow_13 : decode cX5_copyRow 13 = .ok (.aload_n 0, 1) := by decide +kernel
theorem dX5_copyRow_14 : decode cX5_copyRow 14 = .ok (.iload_n 1, 1) := by decide +kernel
theorem dX5_copyRow_15 : decode cX5_copyRow 15 = .ok (.iload_n 3, 1) := by decide +kernel
theorem dX5_copyRow_16 : decode cX5_copyRow 16 = .ok (.invokevirtual 26, 3) := by decide +kernel
theorem dX5_copyRow_19 : decode cX5_copyRow 19 = .ok (.invokevirtual 29, 3) := by decide +kernel
theorem dX5_copyRow_22 : decode cX5_copyRow 22 = .ok (.iinc 3 1, 3) := by decide +kernel
theorem dX5_copyRow_25 : decode cX5_copyRow 25 = .ok (.goto (-23), 3) := by decide +kernel
theorem dX5_copyRow_28 : decode cX5_copyRow 28 = .ok (.return_, 1) := by decide +kernel
theorem dX5_copyFrom_0 : decode cX5_copyFrom 0 = .ok (.aload_n 0, 1) := by decide +kernel
theorem dX5_copyFrom_1 : decode cX5_copyFrom 1 = .ok (.aload_n 1, 1) := by decide +kernel
theorem dX5_copyFrom_2 : decode cX5_copyFrom 2 = .ok (.getfield 23, 3) := by decide +kernel
theorem dX5_copyFrom_5 : decode cX5_copyFrom 5 = .ok (.putfield 23, 3) := by decide +kernel
theorem dX5_copyFrom_8 : decode cX5_copyFrom 8 = .ok (.iconst 0, 1) := by decide +kernel
theorem dX5_copyFrom_9 : decode cX5_copyFrom 9 = .ok (.istore_n 2, 1) := by decide +kernel
theorem dX5_copyFrom_10 : decode cX5_copyFrom 10 = .ok (.iload_n 2, 1) := by decide +kernel
theorem dX5_copyFrom_11 : decode cX5_copyFrom 11 = .ok (.aload_n 0, 1) := by decide +kernel
theorem dX5_copyFrom_12 : decode cX5_copyFrom 12 = .ok (.getfield 19, 3) := by decide +kernel
theorem dX5_copyFrom_15 : decode cX5_copyFrom 15 = .ok (.arraylength, 1) := by decide +kernel
theorem dX5_copyFrom_16 : decode cX5_copyFrom 16 = .ok (.if_icmp .ge 30, 3) := by decide +kernel
theorem dX5_copyFrom_19 : decode cX5_copyFrom 19 = .ok (.iload_n 2, 1) := by decide +kernel
theorem dX5_copyFrom_20 : decode cX5_copyFrom 20 = .ok (.aload_n 1, 1) := by decide +kernel
theorem dX5_copyFrom_21 : decode cX5_copyFrom 21 = .ok (.getfield 19, 3) := by decide +kernel
theorem dX5_copyFrom_24 : decode cX5_copyFrom 24 = .ok (.arraylength, 1) := by decide +kernel
theorem dX5_copyFrom_25 : decode cX5_copyFrom 25 = .ok (.if_icmp .ge 21, 3) := by decide +kernel
theorem dX5_copyFrom_28 : decode cX5_copyFrom 28 = .ok (.aload_n 0, 1) := by decide +kernel
theorem dX5_copyFrom_29 : decode cX5_copyFrom 29 = .ok (.getfield 19, 3) := by decide +kernel
theorem dX5_copyFrom_32 : decode cX5_copyFrom 32 = .ok (.iload_n 2, 1) := by decide +kernel
theorem dX5_copyFrom_33 : decode cX5_copyFrom 33 = .ok (.aload_n 1, 1) := by decide +kernel
theorem dX5_copyFrom_34 : decode cX5_copyFrom 34 = .ok (.getfield 19, 3) := by decide +kernel
theorem dX5_copyFrom_37 : decode cX5_copyFrom 37 = .ok (.iload_n 2, 1) := by decide +kernel
theorem dX5_copyFrom_38 : decode cX5_copyFrom 38 = .ok (.iaload, 1) := by decide +kernel
theorem dX5_copyFrom_39 : decode cX5_copyFrom 39 = .ok (.iastore, 1) := by decide +kernel
theorem dX5_copyFrom_40 : decode cX5_copyFrom 40 = .ok (.iinc 2 1, 3) := by decide +kernel
theorem dX5_copyFrom_43 : decode cX5_copyFrom 43 = .ok (.goto (-33), 3) := by decide +kernel
theorem dX5_copyFrom_46 : decode cX5_copyFrom 46 = .ok (.return_, 1) := by decide +kernel
theorem dX5_sum_0 : decode cX5_sum 0 = .ok (.iconst 0, 1) := by decide +kernel
theorem dX5_sum_1 : decode cX5_sum 1 = .ok (.istore_n 2, 1) := by decide +kernel
theorem dX5_sum_2 : decode cX5_sum 2 = .ok (.iconst 0, 1) := by decide +kernel
theorem dX5_sum_3 : decode cX5_sum 3 = .ok (.istore_n 3, 1) := by decide +kernel
theorem dX5_sum_4 : decode cX5_sum 4 = .ok (.iload_n 3, 1) := by decide +kernel
theorem dX5_sum_5 : decode cX5_sum 5 = .ok (.aload_n 0, 1) := by decide +kernel
theorem dX5_sum_6 : decode cX5_sum 6 = .ok (.getfield 23, 3) := by decide +kernel
theorem dX5_sum_9 : decode cX5_sum 9 = .ok (.if_icmp .ge 18, 3) := by decide +kernel
theorem dX5_sum_12 : decode cX5_sum 12 = .ok (.iload_n 2, 1) := by decide +kernel
theorem dX5_sum_13 : decode cX5_sum 13 = .ok (.aload_n 0, 1) := by decide +kernel
theorem dX5_sum_14 : decode cX5_sum 14 = .ok (.iload_n 3, 1) := by decide +kernel
theorem dX5_sum_15 : decode cX5_sum 15 = .ok (.iload_n 1, 1) := by decide +kernel
theorem dX5_sum_16 : decode cX5_sum 16 = .ok (.invokevirtual 26, 3) := by decide +kernel
theorem dX5_sum_19 : decode cX5_sum 19 = .ok (.iadd, 1) := by decide +kernel
theorem dX5_sum_20 : decode cX5_sum 20 = .ok (.istore_n 2, 1) := by decide +kernel
theorem dX5_sum_21 : decode cX5_sum 21 = .ok (.iinc 3 1, 3) := by decide +kernel
theorem dX5_sum_24 : decode cX5_sum 24 = .ok (.goto (-20), 3) := by decide +kernel
theorem dX5_sum_27 : decode cX5_sum 27 = .ok (.iload_n 2, 1) := by decide +kernel
theorem dX5_sum_28 : decode cX5_sum 28 = .ok (.ireturn, 1) := by decide +kernel
theorem dX6_init_0 : decode cX6_init 0 = .ok (.aload_n 0, 1) := by decide +kernel
theorem dX6_init_1 : decode cX6_init 1 = .ok (.invokespecial 1, 3) := by decide +kernel
theorem dX6_init_4 : decode cX6_init 4 = .ok (.aload_n 0, 1) := by decide +kernel
theorem dX6_init_5 : decode cX6_init 5 = .ok (.new 7, 3) := by decide +kernel
theorem dX6_init_8 : decode cX6_init 8 = .ok (.dup, 1) := by decide +kernel
theorem dX6_init_9 : decode cX6_init 9 = .ok (.invokespecial 9, 3) := by decide +kernel
theorem dX6_init_12 : decode cX6_init 12 = .ok (.putfield 10, 3) := by decide +kernel
theorem dX6_init_15 : decode cX6_init 15 = .ok (.aload_n 0, 1) := by decide +kernel
theorem dX6_init_16 : decode cX6_init 16 = .ok (.new 7, 3) := by decide +kernel
theorem dX6_init_19 : decode cX6_init 19 = .ok (.dup, 1) := by decide +kernel
theorem dX6_init_20 : decode cX6_init 20 = .ok (.invokespecial 9, 3) := by decide +kernel
theorem dX6_init_23 : decode cX6_init 23 = .ok (.putfield 16, 3) := by decide +kernel
theorem dX6_init_26 : decode cX6_init 26 = .ok (.aload_n 0, 1) := by decide +kernel
theorem dX6_init_27 : decode cX6_init 27 = .ok (.new 19, 3) := by decide +kernel
theorem dX6_init_30 : decode cX6_init 30 = .ok (.dup, 1) := by decide +kernel
theorem dX6_init_31 : decode cX6_init 31 = .ok (.invokespecial 21, 3) := by decide +kernel
theorem dX6_init_34 : decode cX6_init 34 = .ok (.putfield 22, 3) := by decide +kernel
theorem dX6_init_37 : decode cX6_init 37 = .ok (.return_, 1) := by decide +kernel
theorem dX6_addStation_0 : decode cX6_addStation 0 = .ok (.iload_n 1, 1) := by decide +kernel
theorem dX6_addStation_1 : decode cX6_addStation 1 = .ok (.sipush 300, 3) := by decide +kernel
theorem dX6_addStation_4 : decode cX6_addStation 4 = .ok (.sipush 3000, 3) := by decide +kernel
theorem dX6_addStation_7 : decode cX6_addStation 7 = .ok (.invokestatic 26, 3) := by decide +kernel
theorem dX6_addStation_10 : decode cX6_addStation 10 = .ok (.ifCond .eq 23, 3) := by decide +kernel
theorem dX6_addStation_13 : decode cX6_addStation 13 = .ok (.iload_n 2, 1) := by decide +kernel
theorem dX6_addStation_14 : decode cX6_addStation 14 = .ok (.iconst 1, 1) := by decide +kernel
theorem dX6_addStation_15 : decode cX6_addStation 15 = .ok (.bipush 100, 2) := by decide +kernel
theorem dX6_addStation_17 : decode cX6_addStation 17 = .ok (.invokestatic 26, 3) := by decide +kernel
theorem dX6_addStation_20 : decode cX6_addStation 20 = .ok (.ifCond .eq 13, 3) := by decide +kernel
theorem dX6_addStation_23 : decode cX6_addStation 23 = .ok (.iload_n 3, 1) := by decide +kernel
theorem dX6_addStation_24 : decode cX6_addStation 24 = .ok (.iconst 1, 1) := by decide +kernel
theorem dX6_addStation_25 : decode cX6_addStation 25 = .ok (.bipush 50, 2) := by decide +kernel
theorem dX6_addStation_27 : decode cX6_addStation 27 = .ok (.invokestatic 26, 3) := by decide +kernel
theorem dX6_addStation_30 : decode cX6_addStation 30 = .ok (.ifCond .ne 13, 3) := by decide +kernel
theorem dX6_addStation_33 : decode cX6_addStation 33 = .ok (.new 30, 3) := by decide +kernel
theorem dX6_addStation_36 : decode cX6_addStation 36 = .ok (.dup, 1) := by decide +kernel
theorem dX6_addStation_37 : decode cX6_addStation 37 = .ok (.ldc 32, 2) := by decide +kernel
theorem dX6_addStation_39 : decode cX6_addStation 39 = .ok (.invokespecial 34, 3) := by decide +kernel
theorem dX6_addStation_42 : decode cX6_addStation 42 = .ok (.athrow, 1) := by decide +kernel
theorem dX6_addStation_43 : decode cX6_addStation 43 = .ok (.iload 4, 2) := by decide +kernel
theorem dX6_addStation_45 : decode cX6_addStation 45 = .ok (.iconst 0, 1) := by decide +kernel
theorem dX6_addStation_46 : decode cX6_addStation 46 = .ok (.bipush 23, 2) := by decide +kernel
theorem dX6_addStation_48 : decode cX6_addStation 48 = .ok (.invokestatic 26, 3) := by decide +kernel
theorem dX6_addStation_51 : decode cX6_addStation 51 = .ok (.ifCond .eq 25, 3) := by decide +kernel
theorem dX6_addStation_54 : decode cX6_addStation 54 = .ok (.iload 5, 2) := by decide +kernel
theorem dX6_addStation_56 : decode cX6_addStation 56 = .ok (.iconst 1, 1) := by decide +kernel
theorem dX6_addStation_57 : decode cX6_addStation 57 = .ok (.bipush 24, 2) := by decide +kernel
theorem dX6_addStation_59 : decode cX6_addStation 59 = .ok (.invokestatic 26, 3) := by decide +kernel
theorem dX6_addStation_62 : decode cX6_addStation 62 = .ok (.ifCond .eq 14, 3) := by decide +kernel
theorem dX6_addStation_65 : decode cX6_addStation 65 = .ok (.iload 6, 2) := by decide +kernel
theorem dX6_addStation_67 : decode cX6_addStation 67 = .ok (.iconst 0, 1) := by decide +kernel
theorem dX6_addStation_68 : decode cX6_addStation 68 = .ok (.bipush 11, 2) := by decide +kernel
theorem dX6_addStation_70 : decode cX6_addStation 70 = .ok (.invokestatic 26, 3) := by decide +kernel
theorem dX6_addStation_73 : decode cX6_addStation 73 = .ok (.ifCond .ne 13, 3) := by decide +kernel
theorem dX6_addStation_76 : decode cX6_addStation 76 = .ok (.new 30, 3) := by decide +kernel
theorem dX6_addStation_79 : decode cX6_addStation 79 = .ok (.dup, 1) := by decide +kernel
theorem dX6_addStation_80 : decode cX6_addStation 80 = .ok (.ldc 37, 2) := by decide +kernel
theorem dX6_addStation_82 : decode cX6_addStation 82 = .ok (.invokespecial 34, 3) := by decide +kernel
theorem dX6_addStation_85 : decode cX6_addStation 85 = .ok (.athrow, 1) := by decide +kernel
theorem dX6_addStation_86 : decode cX6_addStation 86 = .ok (.aload_n 0, 1) := by decide +kernel
theorem dX6_addStation_87 : decode cX6_addStation 87 = .ok (.getfield 10, 3) := by decide +kernel
theorem dX6_addStation_90 : decode cX6_addStation 90 = .ok (.getfield 39, 3) := by decide +kernel
theorem dX6_addStation_93 : decode cX6_addStation 93 = .ok (.bipush 12, 2) := by decide +kernel
theorem dX6_addStation_95 : decode cX6_addStation 95 = .ok (.if_icmp .lt 13, 3) := by decide +kernel
theorem dX6_addStation_98 : decode cX6_addStation 98 = .ok (.new 43, 3) := by decide +kernel
theorem dX6_addStation_101 : decode cX6_addStation 101 = .ok (.dup, 1) := by decide +kernel
theorem dX6_addStation_102 : decode cX6_addStation 102 = .ok (.ldc 45, 2) := by decide +kernel
theorem dX6_addStation_104 : decode cX6_addStation 104 = .ok (.invokespecial 47, 3) := by decide +kernel
theorem dX6_addStation_107 : decode cX6_addStation 107 = .ok (.athrow, 1) := by decide +kernel
theorem dX6_addStation_108 : decode cX6_addStation 108 = .ok (.aload_n 0, 1) := by decide +kernel
theorem dX6_addStation_109 : decode cX6_addStation 109 = .ok (.getfield 10, 3) := by decide +kernel
theorem dX6_addStation_112 : decode cX6_addStation 112 = .ok (.new 48, 3) := by decide +kernel
theorem dX6_addStation_115 : decode cX6_addStation 115 = .ok (.dup, 1) := by decide +kernel
theorem dX6_addStation_116 : decode cX6_addStation 116 = .ok (.iload_n 1, 1) := by decide +kernel
theorem dX6_addStation_117 : decode cX6_addStation 117 = .ok (.iload_n 2, 1) := by decide +kernel
theorem dX6_addStation_118 : decode cX6_addStation 118 = .ok (.iload_n 3, 1) := by decide +kernel
theorem dX6_addStation_119 : decode cX6_addStation 119 = .ok (.iload 4, 2) := by decide +kernel
theorem dX6_addStation_121 : decode cX6_addStation 121 = .ok (.iload 5, 2) := by decide +kernel
theorem dX6_addStation_123 : decode cX6_addStation 123 = .ok (.iload 6, 2) := by decide +kernel
theorem dX6_addStation_125 : decode cX6_addStation 125 = .ok (.invokespecial 50, 3) := by decide +kernel
theorem dX6_addStation_128 : decode cX6_addStation 128 = .ok (.invokevirtual 53, 3) := by decide +kernel
theorem dX6_addStation_131 : decode cX6_addStation 131 = .ok (.ireturn, 1) := by decide +kernel
theorem dX6_join_0 : decode cX6_join 0 = .ok (.iload_n 1, 1) := by decide +kernel
theorem dX6_join_1 : decode cX6_join 1 = .ok (.bipush 20, 2) := by decide +kernel
theorem dX6_join_3 : decode cX6_join 3 = .ok (.sipush 200, 3) := by decide +kernel
theorem dX6_join_6 : decode cX6_join 6 = .ok (.invokestatic 26, 3) := by decide +kernel
theorem dX6_join_9 : decode cX6_join 9 = .ok (.ifCond .eq 13, 3) := by decide +kernel
theorem dX6_join_12 : decode cX6_join 12 = .ok (.iload_n 2, 1) := by decide +kernel
theorem dX6_join_13 : decode cX6_join 13 = .ok (.iconst 1, 1) := by decide +kernel
theorem dX6_join_14 : decode cX6_join 14 = .ok (.bipush 60, 2) := by decide +kernel
theorem dX6_join_16 : decode cX6_join 16 = .ok (.invokestatic 26, 3) := by decide +kernel
theorem dX6_join_19 : decode cX6_join 19 = .ok (.ifCond .ne 13, 3) := by decide +kernel
theorem dX6_join_22 : decode cX6_join 22 = .ok (.new 30, 3) := by decide +kernel
theorem dX6_join_25 : decode cX6_join 25 = .ok (.dup, 1) := by decide +kernel
theorem dX6_join_26 : decode cX6_join 26 = .ok (.ldc 57, 2) := by decide +kernel
theorem dX6_join_28 : decode cX6_join 28 = .ok (.invokespecial 34, 3) := by decide +kernel
theorem dX6_join_31 : decode cX6_join 31 = .ok (.athrow, 1) := by decide +kernel
theorem dX6_join_32 : decode cX6_join 32 = .ok (.aload_n 0, 1) := by decide +kernel
theorem dX6_join_33 : decode cX6_join 33 = .ok (.getfield 10, 3) := by decide +kernel
theorem dX6_join_36 : decode cX6_join 36 = .ok (.getfield 59, 3) := by decide +kernel
theorem dX6_join_39 : decode cX6_join 39 = .ok (.bipush 8, 2) := by decide +kernel
theorem dX6_join_41 : decode cX6_join 41 = .ok (.if_icmp .lt 13, 3) := by decide +kernel
theorem dX6_join_44 : decode cX6_join 44 = .ok (.new 43, 3) := by decide +kernel
theorem dX6_join_47 : decode cX6_join 47 = .ok (.dup, 1) := by decide +kernel
theorem dX6_join_48 : decode cX6_join 48 = .ok (.ldc 62, 2) := by decide +kernel
theorem dX6_join_50 : decode cX6_join 50 = .ok (.invokespecial 47, 3) := by decide +kernel
theorem dX6_join_53 : decode cX6_join 53 = .ok (.athrow, 1) := by decide +kernel
theorem dX6_join_54 : decode cX6_join 54 = .ok (.aload_n 0, 1) := by decide +kernel
theorem dX6_join_55 : decode cX6_join 55 = .ok (.getfield 10, 3) := by decide +kernel
theorem dX6_join_58 : decode cX6_join 58 = .ok (.iload_n 1, 1) := by decide +kernel
theorem dX6_join_59 : decode cX6_join 59 = .ok (.iload_n 2, 1) := by decide +kernel
theorem dX6_join_60 : decode cX6_join 60 = .ok (.invokevirtual 64, 3) := by decide +kernel
theorem dX6_join_63 : decode cX6_join 63 = .ok (.ireturn, 1) := by decide +kernel
theorem dX6_turn_0 : decode cX6_turn 0 = .ok (.aload_n 0, 1) := by decide +kernel
theorem dX6_turn_1 : decode cX6_turn 1 = .ok (.iload_n 1, 1) := by decide +kernel
theorem dX6_turn_2 : decode cX6_turn 2 = .ok (.invokevirtual 68, 3) := by decide +kernel
theorem dX6_turn_5 : decode cX6_turn 5 = .ok (.astore_n 3, 1) := by decide +kernel
theorem dX6_turn_6 : decode cX6_turn 6 = .ok (.iload_n 2, 1) := by decide +kernel
theorem dX6_turn_7 : decode cX6_turn 7 = .ok (.iconst 0, 1) := by decide +kernel
theorem dX6_turn_8 : decode cX6_turn 8 = .ok (.bipush 100, 2) := by decide +kernel
theorem dX6_turn_10 : decode cX6_turn 10 = .ok (.invokestatic 26, 3) := by decide +kernel
theorem dX6_turn_13 : decode cX6_turn 13 = .ok (.ifCond .ne 13, 3) := by decide +kernel
theorem dX6_turn_16 : decode cX6_turn 16 = .ok (.new 30, 3) := by decide +kernel
theorem dX6_turn_19 : decode cX6_turn 19 = .ok (.dup, 1) := by decide +kernel
theorem dX6_turn_20 : decode cX6_turn 20 = .ok (.ldc 72, 2) := by decide +kernel
theorem dX6_turn_22 : decode cX6_turn 22 = .ok (.invokespecial 34, 3) := by decide +kernel
theorem dX6_turn_25 : decode cX6_turn 25 = .ok (.athrow, 1) := by decide +kernel
theorem dX6_turn_26 : decode cX6_turn 26 = .ok (.aload_n 3, 1) := by decide +kernel
theorem dX6_turn_27 : decode cX6_turn 27 = .ok (.getfield 74, 3) := by decide +kernel
theorem dX6_turn_30 : decode cX6_turn 30 = .ok (.istore 4, 2) := by decide +kernel
theorem dX6_turn_32 : decode cX6_turn 32 = .ok (.aload_n 3, 1) := by decide +kernel
theorem dX6_turn_33 : decode cX6_turn 33 = .ok (.aload_n 3, 1) := by decide +kernel
theorem dX6_turn_34 : decode cX6_turn 34 = .ok (.getfield 77, 3) := by decide +kernel
theorem dX6_turn_37 : decode cX6_turn 37 = .ok (.iload_n 2, 1) := by decide +kernel
theorem dX6_turn_38 : decode cX6_turn 38 = .ok (.invokevirtual 80, 3) := by decide +kernel
theorem dX6_turn_41 : decode cX6_turn 41 = .ok (.iload 4, 2) := by decide +kernel
theorem dX6_turn_43 : decode cX6_turn 43 = .ok (.ireturn, 1) := by decide +kernel
theorem dX6_wind_0 : decode cX6_wind 0 = .ok (.aload_n 0, 1) := by decide +kernel
theorem dX6_wind_1 : decode cX6_wind 1 = .ok (.iload_n 1, 1) := by decide +kernel
theorem dX6_wind_2 : decode cX6_wind 2 = .ok (.invokevirtual 68, 3) := by decide +kernel
theorem dX6_wind_5 : decode cX6_wind 5 = .ok (.astore_n 3, 1) := by decide +kernel
theorem dX6_wind_6 : decode cX6_wind 6 = .ok (.iload_n 2, 1) := by decide +kernel
theorem dX6_wind_7 : decode cX6_wind 7 = .ok (.bipush 20, 2) := by decide +kernel
theorem dX6_wind_9 : decode cX6_wind 9 = .ok (.sipush 200, 3) := by decide +kernel
theorem dX6_wind_12 : decode cX6_wind 12 = .ok (.invokestatic 26, 3) := by decide +kernel
theorem dX6_wind_15 : decode cX6_wind 15 = .ok (.ifCond .ne 13, 3) := by decide +kernel
theorem dX6_wind_18 : decode cX6_wind 18 = .ok (.new 30, 3) := by decide +kernel
theorem dX6_wind_21 : decode cX6_wind 21 = .ok (.dup, 1) := by decide +kernel
theorem dX6_wind_22 : decode cX6_wind 22 = .ok (.ldc 84, 2) := by decide +kernel
theorem dX6_wind_24 : decode cX6_wind 24 = .ok (.invokespecial 34, 3) := by decide +kernel
theorem dX6_wind_27 : decode cX6_wind 27 = .ok (.athrow, 1) := by decide +kernel
theorem dX6_wind_28 : decode cX6_wind 28 = .ok (.aload_n 3, 1) := by decide +kernel
theorem dX6_wind_29 : decode cX6_wind 29 = .ok (.getfield 77, 3) := by decide +kernel
theorem dX6_wind_32 : decode cX6_wind 32 = .ok (.istore 4, 2) := by decide +kernel
theorem dX6_wind_34 : decode cX6_wind 34 = .ok (.aload_n 3, 1) := by decide +kernel
theorem dX6_wind_35 : decode cX6_wind 35 = .ok (.iload_n 2, 1) := by decide +kernel
theorem dX6_wind_36 : decode cX6_wind 36 = .ok (.aload_n 3, 1) := by decide +kernel
theorem dX6_wind_37 : decode cX6_wind 37 = .ok (.getfield 74, 3) := by decide +kernel
theorem dX6_wind_40 : decode cX6_wind 40 = .ok (.invokevirtual 80, 3) := by decide +kernel
theorem dX6_wind_43 : decode cX6_wind 43 = .ok (.iload 4, 2) := by decide +kernel
theorem dX6_wind_45 : decode cX6_wind 45 = .ok (.ireturn, 1) := by decide +kernel
theorem dX6_listen_0 : decode cX6_listen 0 = .ok (.aload_n 0, 1) := by decide +kernel
theorem dX6_listen_1 : decode cX6_listen 1 = .ok (.iload_n 1, 1) := by decide +kernel
theorem dX6_listen_2 : decode cX6_listen 2 = .ok (.invokevirtual 86, 3) := by decide +kernel
theorem dX6_listen_5 : decode cX6_listen 5 = .ok (.astore_n 3, 1) := by decide +kernel
theorem dX6_listen_6 : decode cX6_listen 6 = .ok (.aload_n 3, 1) := by decide +kernel
theorem dX6_listen_7 : decode cX6_listen 7 = .ok (.getfield 90, 3) := by decide +kernel
theorem dX6_listen_10 : decode cX6_listen 10 = .ok (.istore 4, 2) := by decide +kernel
theorem dX6_listen_12 : decode cX6_listen 12 = .ok (.aload_n 3, 1) := by decide +kernel
theorem dX6_listen_13 : decode cX6_listen 13 = .ok (.iload_n 2, 1) := by decide +kernel
theorem dX6_listen_14 : decode cX6_listen 14 = .ok (.putfield 90, 3) := by decide +kernel
theorem dX6_listen_17 : decode cX6_listen 17 = .ok (.iload 4, 2) := by decide +kernel
theorem dX6_listen_19 : decode cX6_listen 19 = .ok (.ireturn, 1) := by decide +kernel
theorem dX6_renew_0 : decode cX6_renew 0 = .ok (.aload_n 0, 1) := by decide +kernel
theorem dX6_renew_1 : decode cX6_renew 1 = .ok (.iload_n 1, 1) := by decide +kernel
theorem dX6_renew_2 : decode cX6_renew 2 = .ok (.invokevirtual 68, 3) := by decide +kernel
theorem dX6_renew_5 : decode cX6_renew 5 = .ok (.astore_n 2, 1) := by decide +kernel
theorem dX6_renew_6 : decode cX6_renew 6 = .ok (.aload_n 2, 1) := by decide +kernel
theorem dX6_renew_7 : decode cX6_renew 7 = .ok (.getfield 96, 3) := by decide +kernel
theorem dX6_renew_10 : decode cX6_renew 10 = .ok (.istore_n 3, 1) := by decide +kernel
theorem dX6_renew_11 : decode cX6_renew 11 = .ok (.aload_n 2, 1) := by decide +kernel
theorem dX6_renew_12 : decode cX6_renew 12 = .ok (.bipush 9, 2) := by decide +kernel
theorem dX6_renew_14 : decode cX6_renew 14 = .ok (.putfield 96, 3) := by decide +kernel
theorem dX6_renew_17 : decode cX6_renew 17 = .ok (.iload_n 3, 1) := by decide +kernel
theorem dX6_renew_18 : decode cX6_renew 18 = .ok (.ireturn, 1) := by decide +kernel
theorem dX6_station_0 : decode cX6_station 0 = .ok (.aload_n 0, 1) := by decide +kernel
theorem dX6_station_1 : decode cX6_station 1 = .ok (.iload_n 1, 1) := by decide +kernel
theorem dX6_station_2 : decode cX6_station 2 = .ok (.invokevirtual 99, 3) := by decide +kernel
theorem dX6_station_5 : decode cX6_station 5 = .ok (.pop, 1) := by decide +kernel
theorem dX6_station_6 : decode cX6_station 6 = .ok (.iload_n 2, 1) := by decide +kernel
theorem dX6_station_7 : decode cX6_station 7 = .ok (.bipush 6, 2) := by decide +kernel
theorem dX6_station_9 : decode cX6_station 9 = .ok (.invokestatic 103, 3) := by decide +kernel
theorem dX6_station_12 : decode cX6_station 12 = .ok (.aload_n 0, 1) := by decide +kernel
theorem dX6_station_13 : decode cX6_station 13 = .ok (.getfield 10, 3) := by decide +kernel
theorem dX6_station_16 : decode cX6_station 16 = .ok (.iload_n 1, 1) := by decide +kernel
theorem dX6_station_17 : decode cX6_station 17 = .ok (.iload_n 2, 1) := by decide +kernel
theorem dX6_station_18 : decode cX6_station 18 = .ok (.invokevirtual 106, 3) := by decide +kernel
theorem dX6_station_21 : decode cX6_station 21 = .ok (.ireturn, 1) := by decide +kernel
theorem dX6_member_0 : decode cX6_member 0 = .ok (.aload_n 0, 1) := by decide +kernel
theorem dX6_member_1 : decode cX6_member 1 = .ok (.iload_n 1, 1) := by decide +kernel
theorem dX6_member_2 : decode cX6_member 2 = .ok (.invokevirtual 86, 3) := by decide +kernel
theorem dX6_member_5 : decode cX6_member 5 = .ok (.pop, 1) := by decide +kernel
theorem dX6_member_6 : decode cX6_member 6 = .ok (.iload_n 2, 1) := by decide +kernel
theorem dX6_member_7 : decode cX6_member 7 = .ok (.bipush 10, 2) := by decide +kernel
theorem dX6_member_9 : decode cX6_member 9 = .ok (.invokestatic 103, 3) := by decide +kernel
theorem dX6_member_12 : decode cX6_member 12 = .ok (.aload_n 0, 1) := by decide +kernel
theorem dX6_member_13 : decode cX6_member 13 = .ok (.getfield 10, 3) := by decide +kernel
theorem dX6_member_16 : decode cX6_member 16 = .ok (.iload_n 1, 1) := by decide +kernel
theorem dX6_member_17 : decode cX6_member 17 = .ok (.iload_n 2, 1) := by decide +kernel
theorem dX6_member_18 : decode cX6_member 18 = .ok (.invokevirtual 109, 3) := by decide +kernel
theorem dX6_member_21 : decode cX6_member 21 = .ok (.ireturn, 1) := by decide +kernel
theorem dX6_strength_0 : decode cX6_strength 0 = .ok (.aload_n 0, 1) := by decide +kernel
theorem dX6_strength_1 : decode cX6_strength 1 = .ok (.iload_n 1, 1) := by decide +kernel
theorem dX6_strength_2 : decode cX6_strength 2 = .ok (.invokevirtual 68, 3) := by decide +kernel
theorem dX6_strength_5 : decode cX6_strength 5 = .ok (.astore_n 3, 1) := by decide +kernel
theorem dX6_strength_6 : decode cX6_strength 6 = .ok (.aload_n 0, 1) := by decide +kernel
theorem dX6_strength_7 : decode cX6_strength 7 = .ok (.iload_n 2, 1) := by decide +kernel
theorem dX6_strength_8 : decode cX6_strength 8 = .ok (.invokevirtual 99, 3) := by decide +kernel
theorem dX6_strength_11 : decode cX6_strength 11 = .ok (.astore 4, 2) := by decide +kernel
theorem dX6_strength_13 : decode cX6_strength 13 = .ok (.aload 4, 2) := by decide +kernel
theorem dX6_strength_15 : decode cX6_strength 15 = .ok (.aload_n 0, 1) := by decide +kernel
theorem dX6_strength_16 : decode cX6_strength 16 = .ok (.getfield 10, 3) := by decide +kernel
theorem dX6_strength_19 : decode cX6_strength 19 = .ok (.getfield 112, 3) := by decide +kernel
theorem dX6_strength_22 : decode cX6_strength 22 = .ok (.invokevirtual 115, 3) := by decide +kernel
theorem dX6_strength_25 : decode cX6_strength 25 = .ok (.ifCond .eq 19, 3) := by decide +kernel
theorem dX6_strength_28 : decode cX6_strength 28 = .ok (.aload_n 3, 1) := by decide +kernel
theorem dX6_strength_29 : decode cX6_strength 29 = .ok (.aload 4, 2) := by decide +kernel
theorem dX6_strength_31 : decode cX6_strength 31 = .ok (.aload_n 0, 1) := by decide +kernel
theorem dX6_strength_32 : decode cX6_strength 32 = .ok (.getfield 10, 3) := by decide +kernel
theorem dX6_strength_35 : decode cX6_strength 35 = .ok (.getfield 112, 3) := by decide +kernel
theorem dX6_strength_38 : decode cX6_strength 38 = .ok (.invokevirtual 119, 3) := by decide +kernel
theorem dX6_strength_41 : decode cX6_strength 41 = .ok (.goto 4, 3) := by decide +kernel
theorem dX6_strength_44 : decode cX6_strength 44 = .ok (.iconst 0, 1) := by decide +kernel
theorem dX6_strength_45 : decode cX6_strength 45 = .ok (.ireturn, 1) := by decide +kernel
theorem dX6_hears_0 : decode cX6_hears 0 = .ok (.aload_n 0, 1) := by decide +kernel
theorem dX6_hears_1 : decode cX6_hears 1 = .ok (.getfield 10, 3) := by decide +kernel
theorem dX6_hears_4 : decode cX6_hears 4 = .ok (.aload_n 0, 1) := by decide +kernel
theorem dX6_hears_5 : decode cX6_hears 5 = .ok (.iload_n 1, 1) := by decide +kernel
theorem dX6_hears_6 : decode cX6_hears 6 = .ok (.invokevirtual 68, 3) := by decide +kernel
theorem dX6_hears_9 : decode cX6_hears 9 = .ok (.aload_n 0, 1) := by decide +kernel
theorem dX6_hears_10 : decode cX6_hears 10 = .ok (.getfield 10, 3) := by decide +kernel
theorem dX6_hears_13 : decode cX6_hears 13 = .ok (.getfield 112, 3) := by decide +kernel
theorem dX6_hears_16 : decode cX6_hears 16 = .ok (.invokevirtual 123, 3) := by decide +kernel
theorem dX6_hears_19 : decode cX6_hears 19 = .ok (.invokevirtual 127, 3) := by decide +kernel
theorem dX6_hears_22 : decode cX6_hears 22 = .ok (.ireturn, 1) := by decide +kernel
theorem dX6_log_0 : decode cX6_log 0 = .ok (.aload_n 0, 1) := by decide +kernel
theorem dX6_log_1 : decode cX6_log 1 = .ok (.iload_n 1, 1) := by decide +kernel
theorem dX6_log_2 : decode cX6_log 2 = .ok (.iload_n 2, 1) := by decide +kernel
theorem dX6_log_3 : decode cX6_log 3 = .ok (.invokevirtual 133, 3) := by decide +kernel
theorem dX6_log_6 : decode cX6_log 6 = .ok (.astore 4, 2) := by decide +kernel
theorem dX6_log_8 : decode cX6_log 8 = .ok (.iload_n 3, 1) := by decide +kernel
theorem dX6_log_9 : decode cX6_log 9 = .ok (.iconst 4, 1) := by decide +kernel
theorem dX6_log_10 : decode cX6_log 10 = .ok (.invokestatic 103, 3) := by decide +kernel
theorem dX6_log_13 : decode cX6_log 13 = .ok (.aload 4, 2) := by decide +kernel
theorem dX6_log_15 : decode cX6_log 15 = .ok (.iload_n 2, 1) := by decide +kernel
theorem dX6_log_16 : decode cX6_log 16 = .ok (.iload_n 3, 1) := by decide +kernel
theorem dX6_log_17 : decode cX6_log 17 = .ok (.invokevirtual 137, 3) := by decide +kernel
theorem dX6_log_20 : decode cX6_log 20 = .ok (.ireturn, 1) := by decide +kernel
theorem dX6_write_0 : decode cX6_write 0 = .ok (.aload_n 0, 1) := by decide +kernel
theorem dX6_write_1 : decode cX6_write 1 = .ok (.iload_n 1, 1) := by decide +kernel
theorem dX6_write_2 : decode cX6_write 2 = .ok (.iload_n 2, 1) := by decide +kernel
theorem dX6_write_3 : decode cX6_write 3 = .ok (.invokevirtual 133, 3) := by decide +kernel
theorem dX6_write_6 : decode cX6_write 6 = .ok (.astore_n 3, 1) := by decide +kernel
theorem dX6_write_7 : decode cX6_write 7 = .ok (.aload_n 3, 1) := by decide +kernel
theorem dX6_write_8 : decode cX6_write 8 = .ok (.iload_n 2, 1) := by decide +kernel
theorem dX6_write_9 : decode cX6_write 9 = .ok (.iconst 3, 1) := by decide +kernel
theorem dX6_write_10 : decode cX6_write 10 = .ok (.invokevirtual 137, 3) := by decide +kernel
theorem dX6_write_13 : decode cX6_write 13 = .ok (.iconst 1, 1) := by decide +kernel
theorem dX6_write_14 : decode cX6_write 14 = .ok (.if_icmp .ne 13, 3) := by decide +kernel
theorem dX6_write_17 : decode cX6_write 17 = .ok (.new 43, 3) := by decide +kernel
theorem dX6_write_20 : decode cX6_write 20 = .ok (.dup, 1) := by decide +kernel
theorem dX6_write_21 : decode cX6_write 21 = .ok (.ldc 142, 2) := by decide +kernel
theorem dX6_write_23 : decode cX6_write 23 = .ok (.invokespecial 47, 3) := by decide +kernel
theorem dX6_write_26 : decode cX6_write 26 = .ok (.athrow, 1) := by decide +kernel
theorem dX6_write_27 : decode cX6_write 27 = .ok (.aload_n 0, 1) := by decide +kernel
theorem dX6_write_28 : decode cX6_write 28 = .ok (.getfield 10, 3) := by decide +kernel
theorem dX6_write_31 : decode cX6_write 31 = .ok (.iload_n 1, 1) := by decide +kernel
theorem dX6_write_32 : decode cX6_write 32 = .ok (.iload_n 2, 1) := by decide +kernel
theorem dX6_write_33 : decode cX6_write 33 = .ok (.invokevirtual 144, 3) := by decide +kernel
theorem dX6_write_36 : decode cX6_write 36 = .ok (.ifCond .eq 13, 3) := by decide +kernel
theorem dX6_write_39 : decode cX6_write 39 = .ok (.new 43, 3) := by decide +kernel
theorem dX6_write_42 : decode cX6_write 42 = .ok (.dup, 1) := by decide +kernel
theorem dX6_write_43 : decode cX6_write 43 = .ok (.ldc 148, 2) := by decide +kernel
theorem dX6_write_45 : decode cX6_write 45 = .ok (.invokespecial 47, 3) := by decide +kernel
theorem dX6_write_48 : decode cX6_write 48 = .ok (.athrow, 1) := by decide +kernel
theorem dX6_write_49 : decode cX6_write 49 = .ok (.aload_n 0, 1) := by decide +kernel
theorem dX6_write_50 : decode cX6_write 50 = .ok (.getfield 10, 3) := by decide +kernel
theorem dX6_write_53 : decode cX6_write 53 = .ok (.getfield 150, 3) := by decide +kernel
theorem dX6_write_56 : decode cX6_write 56 = .ok (.invokevirtual 154, 3) := by decide +kernel
theorem dX6_write_59 : decode cX6_write 59 = .ok (.ifCond .eq 13, 3) := by decide +kernel
theorem dX6_write_62 : decode cX6_write 62 = .ok (.new 43, 3) := by decide +kernel
theorem dX6_write_65 : decode cX6_write 65 = .ok (.dup, 1) := by decide +kernel
theorem dX6_write_66 : decode cX6_write 66 = .ok (.ldc 158, 2) := by decide +kernel
theorem dX6_write_68 : decode cX6_write 68 = .ok (.invokespecial 47, 3) := by decide +kernel
theorem dX6_write_71 : decode cX6_write 71 = .ok (.athrow, 1) := by decide +kernel
theorem dX6_write_72 : decode cX6_write 72 = .ok (.aload_n 0, 1) := by decide +kernel
theorem dX6_write_73 : decode cX6_write 73 = .ok (.getfield 10, 3) := by decide +kernel
theorem dX6_write_76 : decode cX6_write 76 = .ok (.iload_n 1, 1) := by decide +kernel
theorem dX6_write_77 : decode cX6_write 77 = .ok (.iload_n 2, 1) := by decide +kernel
theorem dX6_write_78 : decode cX6_write 78 = .ok (.invokevirtual 160, 3) := by decide +kernel
theorem dX6_write_81 : decode cX6_write 81 = .ok (.ireturn, 1) := by decide +kernel
theorem dX6_pass_0 : decode cX6_pass 0 = .ok (.iload_n 1, 1) := by decide +kernel
theorem dX6_pass_1 : decode cX6_pass 1 = .ok (.iconst 1, 1) := by decide +kernel
theorem dX6_pass_2 : decode cX6_pass 2 = .ok (.sipush 240, 3) := by decide +kernel
theorem dX6_pass_5 : decode cX6_pass 5 = .ok (.invokestatic 26, 3) := by decide +kernel
theorem dX6_pass_8 : decode cX6_pass 8 = .ok (.ifCond .ne 13, 3) := by decide +kernel
theorem dX6_pass_11 : decode cX6_pass 11 = .ok (.new 30, 3) := by decide +kernel
theorem dX6_pass_14 : decode cX6_pass 14 = .ok (.dup, 1) := by decide +kernel
theorem dX6_pass_15 : decode cX6_pass 15 = .ok (.ldc 163, 2) := by decide +kernel
theorem dX6_pass_17 : decode cX6_pass 17 = .ok (.invokespecial 34, 3) := by decide +kernel
theorem dX6_pass_20 : decode cX6_pass 20 = .ok (.athrow, 1) := by decide +kernel
theorem dX6_pass_21 : decode cX6_pass 21 = .ok (.aload_n 0, 1) := by decide +kernel
theorem dX6_pass_22 : decode cX6_pass 22 = .ok (.getfield 10, 3) := by decide +kernel
theorem dX6_pass_25 : decode cX6_pass 25 = .ok (.iload_n 1, 1) := by decide +kernel
theorem dX6_pass_26 : decode cX6_pass 26 = .ok (.invokevirtual 165, 3) := by decide +kernel
theorem dX6_pass_29 : decode cX6_pass 29 = .ok (.ireturn, 1) := by decide +kernel
theorem dX6_count_0 : decode cX6_count 0 = .ok (.iload_n 1, 1) := by decide +kernel
theorem dX6_count_1 : decode cX6_count 1 = .ok (.bipush 8, 2) := by decide +kernel
theorem dX6_count_3 : decode cX6_count 3 = .ok (.invokestatic 103, 3) := by decide +kernel
theorem dX6_count_6 : decode cX6_count 6 = .ok (.aload_n 0, 1) := by decide +kernel
theorem dX6_count_7 : decode cX6_count 7 = .ok (.getfield 10, 3) := by decide +kernel
theorem dX6_count_10 : decode cX6_count 10 = .ok (.iload_n 1, 1) := by decide +kernel
theorem dX6_count_11 : decode cX6_count 11 = .ok (.invokevirtual 169, 3) := by decide +kernel
theorem dX6_count_14 : decode cX6_count 14 = .ok (.ireturn, 1) := by decide +kernel
theorem dX6_rank_0 : decode cX6_rank 0 = .ok (.iload_n 1, 1) := by decide +kernel
theorem dX6_rank_1 : decode cX6_rank 1 = .ok (.aload_n 0, 1) := by decide +kernel
theorem dX6_rank_2 : decode cX6_rank 2 = .ok (.getfield 10, 3) := by decide +kernel
theorem dX6_rank_5 : decode cX6_rank 5 = .ok (.getfield 59, 3) := by decide +kernel
theorem dX6_rank_8 : decode cX6_rank 8 = .ok (.invokestatic 103, 3) := by decide +kernel
theorem dX6_rank_11 : decode cX6_rank 11 = .ok (.aload_n 0, 1) := by decide +kernel
theorem dX6_rank_12 : decode cX6_rank 12 = .ok (.getfield 10, 3) := by decide +kernel
theorem dX6_rank_15 : decode cX6_rank 15 = .ok (.iload_n 1, 1) := by decide +kernel
theorem dX6_rank_16 : decode cX6_rank 16 = .ok (.invokevirtual 172, 3) := by decide +kernel
theorem dX6_rank_19 : decode cX6_rank 19 = .ok (.ireturn, 1) := by decide +kernel
theorem dX6_dial_0 : decode cX6_dial 0 = .ok (.aload_n 0, 1) := by decide +kernel
theorem dX6_dial_1 : decode cX6_dial 1 = .ok (.iload_n 1, 1) := by decide +kernel
theorem dX6_dial_2 : decode cX6_dial 2 = .ok (.invokevirtual 68, 3) := by decide +kernel
theorem dX6_dial_5 : decode cX6_dial 5 = .ok (.astore_n 3, 1) := by decide +kernel
theorem dX6_dial_6 : decode cX6_dial 6 = .ok (.aload_n 0, 1) := by decide +kernel
theorem dX6_dial_7 : decode cX6_dial 7 = .ok (.iload_n 2, 1) := by decide +kernel
theorem dX6_dial_8 : decode cX6_dial 8 = .ok (.invokevirtual 99, 3) := by decide +kernel
theorem dX6_dial_11 : decode cX6_dial 11 = .ok (.pop, 1) := by decide +kernel
theorem dX6_dial_12 : decode cX6_dial 12 = .ok (.aload_n 0, 1) := by decide +kernel
theorem dX6_dial_13 : decode cX6_dial 13 = .ok (.getfield 22, 3) := by decide +kernel
theorem dX6_dial_16 : decode cX6_dial 16 = .ok (.aload_n 3, 1) := by decide +kernel
theorem dX6_dial_17 : decode cX6_dial 17 = .ok (.invokevirtual 175, 3) := by decide +kernel
theorem dX6_dial_20 : decode cX6_dial 20 = .ok (.aload_n 0, 1) := by decide +kernel
theorem dX6_dial_21 : decode cX6_dial 21 = .ok (.getfield 10, 3) := by decide +kernel
theorem dX6_dial_24 : decode cX6_dial 24 = .ok (.aload_n 0, 1) := by decide +kernel
theorem dX6_dial_25 : decode cX6_dial 25 = .ok (.getfield 22, 3) := by decide +kernel
theorem dX6_dial_28 : decode cX6_dial 28 = .ok (.iload_n 2, 1) := by decide +kernel
theorem dX6_dial_29 : decode cX6_dial 29 = .ok (.invokevirtual 179, 3) := by decide +kernel
theorem dX6_dial_32 : decode cX6_dial 32 = .ok (.ireturn, 1) := by decide +kernel
theorem dX6_next_0 : decode cX6_next 0 = .ok (.aload_n 0, 1) := by decide +kernel
theorem dX6_next_1 : decode cX6_next 1 = .ok (.iload_n 1, 1) := by decide +kernel
theorem dX6_next_2 : decode cX6_next 2 = .ok (.invokevirtual 68, 3) := by decide +kernel
theorem dX6_next_5 : decode cX6_next 5 = .ok (.astore_n 3, 1) := by decide +kernel
theorem dX6_next_6 : decode cX6_next 6 = .ok (.aload_n 0, 1) := by decide +kernel
theorem dX6_next_7 : decode cX6_next 7 = .ok (.iload_n 2, 1) := by decide +kernel
theorem dX6_next_8 : decode cX6_next 8 = .ok (.invokevirtual 99, 3) := by decide +kernel
theorem dX6_next_11 : decode cX6_next 11 = .ok (.pop, 1) := by decide +kernel
theorem dX6_next_12 : decode cX6_next 12 = .ok (.iconst 0, 1) := by decide +kernel
theorem dX6_next_13 : decode cX6_next 13 = .ok (.istore 4, 2) := by decide +kernel
theorem dX6_next_15 : decode cX6_next 15 = .ok (.iload 4, 2) := by decide +kernel
theorem dX6_next_17 : decode cX6_next 17 = .ok (.bipush 96, 2) := by decide +kernel
theorem dX6_next_19 : decode cX6_next 19 = .ok (.if_icmp .gt 37, 3) := by decide +kernel
theorem dX6_next_22 : decode cX6_next 22 = .ok (.aload_n 0, 1) := by decide +kernel
theorem dX6_next_23 : decode cX6_next 23 = .ok (.getfield 10, 3) := by decide +kernel
theorem dX6_next_26 : decode cX6_next 26 = .ok (.aload_n 3, 1) := by decide +kernel
theorem dX6_next_27 : decode cX6_next 27 = .ok (.aload_n 0, 1) := by decide +kernel
theorem dX6_next_28 : decode cX6_next 28 = .ok (.getfield 10, 3) := by decide +kernel
theorem dX6_next_31 : decode cX6_next 31 = .ok (.getfield 112, 3) := by decide +kernel
theorem dX6_next_34 : decode cX6_next 34 = .ok (.iload 4, 2) := by decide +kernel
theorem dX6_next_36 : decode cX6_next 36 = .ok (.iadd, 1) := by decide +kernel
theorem dX6_next_37 : decode cX6_next 37 = .ok (.invokevirtual 123, 3) := by decide +kernel
theorem dX6_next_40 : decode cX6_next 40 = .ok (.invokevirtual 127, 3) := by decide +kernel
theorem dX6_next_43 : decode cX6_next 43 = .ok (.iload_n 2, 1) := by decide +kernel
theorem dX6_next_44 : decode cX6_next 44 = .ok (.if_icmp .ne 6, 3) := by decide +kernel
theorem dX6_next_47 : decode cX6_next 47 = .ok (.iload 4, 2) := by decide +kernel
theorem dX6_next_49 : decode cX6_next 49 = .ok (.ireturn, 1) := by decide +kernel
theorem dX6_next_50 : decode cX6_next 50 = .ok (.iinc 4 1, 3) := by decide +kernel
theorem dX6_next_53 : decode cX6_next 53 = .ok (.goto (-38), 3) := by decide +kernel
theorem dX6_next_56 : decode cX6_next 56 = .ok (.iconst (-1), 1) := by decide +kernel
theorem dX6_next_57 : decode cX6_next 57 = .ok (.ireturn, 1) := by decide +kernel
theorem dX6_apart_0 : decode cX6_apart 0 = .ok (.aload_n 0, 1) := by decide +kernel
theorem dX6_apart_1 : decode cX6_apart 1 = .ok (.iload_n 1, 1) := by decide +kernel
theorem dX6_apart_2 : decode cX6_apart 2 = .ok (.invokevirtual 68, 3) := by decide +kernel
theorem dX6_apart_5 : decode cX6_apart 5 = .ok (.astore 4, 2) := by decide +kernel
theorem dX6_apart_7 : decode cX6_apart 7 = .ok (.aload_n 0, 1) := by decide +kernel
theorem dX6_apart_8 : decode cX6_apart 8 = .ok (.iload_n 2, 1) := by decide +kernel
theorem dX6_apart_9 : decode cX6_apart 9 = .ok (.invokevirtual 99, 3) := by decide +kernel
theorem dX6_apart_12 : decode cX6_apart 12 = .ok (.astore 5, 2) := by decide +kernel
theorem dX6_apart_14 : decode cX6_apart 14 = .ok (.aload_n 0, 1) := by decide +kernel
theorem dX6_apart_15 : decode cX6_apart 15 = .ok (.iload_n 3, 1) := by decide +kernel
theorem dX6_apart_16 : decode cX6_apart 16 = .ok (.invokevirtual 99, 3) := by decide +kernel
theorem dX6_apart_19 : decode cX6_apart 19 = .ok (.astore 6, 2) := by decide +kernel
theorem dX6_apart_21 : decode cX6_apart 21 = .ok (.iload_n 2, 1) := by decide +kernel
theorem dX6_apart_22 : decode cX6_apart 22 = .ok (.iload_n 3, 1) := by decide +kernel
theorem dX6_apart_23 : decode cX6_apart 23 = .ok (.if_icmp .ne 13, 3) := by decide +kernel
theorem dX6_apart_26 : decode cX6_apart 26 = .ok (.new 30, 3) := by decide +kernel
theorem dX6_apart_29 : decode cX6_apart 29 = .ok (.dup, 1) := by decide +kernel
theorem dX6_apart_30 : decode cX6_apart 30 = .ok (.ldc 183, 2) := by decide +kernel
theorem dX6_apart_32 : decode cX6_apart 32 = .ok (.invokespecial 34, 3) := by decide +kernel
theorem dX6_apart_35 : decode cX6_apart 35 = .ok (.athrow, 1) := by decide +kernel
theorem dX6_apart_36 : decode cX6_apart 36 = .ok (.aload_n 0, 1) := by decide +kernel
theorem dX6_apart_37 : decode cX6_apart 37 = .ok (.getfield 22, 3) := by decide +kernel
theorem dX6_apart_40 : decode cX6_apart 40 = .ok (.aload 4, 2) := by decide +kernel
theorem dX6_apart_42 : decode cX6_apart 42 = .ok (.invokevirtual 175, 3) := by decide +kernel
theorem dX6_apart_45 : decode cX6_apart 45 = .ok (.bipush 20, 2) := by decide +kernel
theorem dX6_apart_47 : decode cX6_apart 47 = .ok (.istore 7, 2) := by decide +kernel
theorem dX6_apart_49 : decode cX6_apart 49 = .ok (.iload 7, 2) := by decide +kernel
theorem dX6_apart_51 : decode cX6_apart 51 = .ok (.sipush 200, 3) := by decide +kernel
theorem dX6_apart_54 : decode cX6_apart 54 = .ok (.if_icmp .gt 32, 3) := by decide +kernel
theorem dX6_apart_57 : decode cX6_apart 57 = .ok (.aload_n 0, 1) := by decide +kernel
theorem dX6_apart_58 : decode cX6_apart 58 = .ok (.getfield 10, 3) := by decide +kernel
theorem dX6_apart_61 : decode cX6_apart 61 = .ok (.aload_n 0, 1) := by decide +kernel
theorem dX6_apart_62 : decode cX6_apart 62 = .ok (.getfield 22, 3) := by decide +kernel
theorem dX6_apart_65 : decode cX6_apart 65 = .ok (.iload 7, 2) := by decide +kernel
theorem dX6_apart_67 : decode cX6_apart 67 = .ok (.aload 5, 2) := by decide +kernel
theorem dX6_apart_69 : decode cX6_apart 69 = .ok (.aload 6, 2) := by decide +kernel
theorem dX6_apart_71 : decode cX6_apart 71 = .ok (.invokevirtual 185, 3) := by decide +kernel
theorem dX6_apart_74 : decode cX6_apart 74 = .ok (.ifCond .eq 6, 3) := by decide +kernel
theorem dX6_apart_77 : decode cX6_apart 77 = .ok (.iload 7, 2) := by decide +kernel
theorem dX6_apart_79 : decode cX6_apart 79 = .ok (.ireturn, 1) := by decide +kernel
theorem dX6_apart_80 : decode cX6_apart 80 = .ok (.iinc 7 1, 3) := by decide +kernel
theorem dX6_apart_83 : decode cX6_apart 83 = .ok (.goto (-34), 3) := by decide +kernel
theorem dX6_apart_86 : decode cX6_apart 86 = .ok (.iconst (-1), 1) := by decide +kernel
theorem dX6_apart_87 : decode cX6_apart 87 = .ok (.ireturn, 1) := by decide +kernel
theorem dX6_foresee_0 : decode cX6_foresee 0 = .ok (.iload_n 1, 1) := by decide +kernel
theorem dX6_foresee_1 : decode cX6_foresee 1 = .ok (.iconst 1, 1) := by decide +kernel
theorem dX6_foresee_2 : decode cX6_foresee 2 = .ok (.sipush 240, 3) := by decide +kernel
theorem dX6_foresee_5 : decode cX6_foresee 5 = .ok (.invokestatic 26, 3) := by decide +kernel
theorem dX6_foresee_8 : decode cX6_foresee 8 = .ok (.ifCond .ne 13, 3) := by decide +kernel
theorem dX6_foresee_11 : decode cX6_foresee 11 = .ok (.new 30, 3) := by decide +kernel
theorem dX6_foresee_14 : decode cX6_foresee 14 = .ok (.dup, 1) := by decide +kernel
theorem dX6_foresee_15 : decode cX6_foresee 15 = .ok (.ldc 163, 2) := by decide +kernel
theorem dX6_foresee_17 : decode cX6_foresee 17 = .ok (.invokespecial 34, 3) := by decide +kernel
theorem dX6_foresee_20 : decode cX6_foresee 20 = .ok (.athrow, 1) := by decide +kernel
theorem dX6_foresee_21 : decode cX6_foresee 21 = .ok (.iload_n 2, 1) := by decide +kernel
theorem dX6_foresee_22 : decode cX6_foresee 22 = .ok (.iconst 2, 1) := by decide +kernel
theorem dX6_foresee_23 : decode cX6_foresee 23 = .ok (.invokestatic 103, 3) := by decide +kernel
theorem dX6_foresee_26 : decode cX6_foresee 26 = .ok (.aload_n 0, 1) := by decide +kernel
theorem dX6_foresee_27 : decode cX6_foresee 27 = .ok (.getfield 16, 3) := by decide +kernel
theorem dX6_foresee_30 : decode cX6_foresee 30 = .ok (.aload_n 0, 1) := by decide +kernel
theorem dX6_foresee_31 : decode cX6_foresee 31 = .ok (.getfield 10, 3) := by decide +kernel
theorem dX6_foresee_34 : decode cX6_foresee 34 = .ok (.invokevirtual 189, 3) := by decide +kernel
theorem dX6_foresee_37 : decode cX6_foresee 37 = .ok (.aload_n 0, 1) := by decide +kernel
theorem dX6_foresee_38 : decode cX6_foresee 38 = .ok (.getfield 16, 3) := by decide +kernel
theorem dX6_foresee_41 : decode cX6_foresee 41 = .ok (.iload_n 1, 1) := by decide +kernel
theorem dX6_foresee_42 : decode cX6_foresee 42 = .ok (.invokevirtual 165, 3) := by decide +kernel
theorem dX6_foresee_45 : decode cX6_foresee 45 = .ok (.istore_n 3, 1) := by decide +kernel
theorem dX6_foresee_46 : decode cX6_foresee 46 = .ok (.iload_n 2, 1) := by decide +kernel
theorem dX6_foresee_47 : decode cX6_foresee 47 = .ok (.ifCond .ne 7, 3) := by decide +kernel
theorem dX6_foresee_50 : decode cX6_foresee 50 = .ok (.iload_n 3, 1) := by decide +kernel
theorem dX6_foresee_51 : decode cX6_foresee 51 = .ok (.goto 18, 3) := by decide +kernel
theorem dX6_foresee_54 : decode cX6_foresee 54 = .ok (.aload_n 0, 1) := by decide +kernel
theorem dX6_foresee_55 : decode cX6_foresee 55 = .ok (.getfield 16, 3) := by decide +kernel
theorem dX6_foresee_58 : decode cX6_foresee 58 = .ok (.invokevirtual 192, 3) := by decide +kernel
theorem dX6_foresee_61 : decode cX6_foresee 61 = .ok (.aload_n 0, 1) := by decide +kernel
theorem dX6_foresee_62 : decode cX6_foresee 62 = .ok (.getfield 10, 3) := by decide +kernel
theorem dX6_foresee_65 : decode cX6_foresee 65 = .ok (.invokevirtual 192, 3) := by decide +kernel
theorem dX6_foresee_68 : decode cX6_foresee 68 = .ok (.isub, 1) := by decide +kernel
theorem dX6_foresee_69 : decode cX6_foresee 69 = .ok (.ireturn, 1) := by decide +kernel
theorem dX6_mean_0 : decode cX6_mean 0 = .ok (.aload_n 0, 1) := by decide +kernel
theorem dX6_mean_1 : decode cX6_mean 1 = .ok (.getfield 10, 3) := by decide +kernel
theorem dX6_mean_4 : decode cX6_mean 4 = .ok (.invokevirtual 195, 3) := by decide +kernel
theorem dX6_mean_7 : decode cX6_mean 7 = .ok (.istore_n 1, 1) := by decide +kernel
theorem dX6_mean_8 : decode cX6_mean 8 = .ok (.iload_n 1, 1) := by decide +kernel
theorem dX6_mean_9 : decode cX6_mean 9 = .ok (.ifCond .le 17, 3) := by decide +kernel
theorem dX6_mean_12 : decode cX6_mean 12 = .ok (.aload_n 0, 1) := by decide +kernel
theorem dX6_mean_13 : decode cX6_mean 13 = .ok (.getfield 10, 3) := by decide +kernel
theorem dX6_mean_16 : decode cX6_mean 16 = .ok (.invokevirtual 198, 3) := by decide +kernel
theorem dX6_mean_19 : decode cX6_mean 19 = .ok (.i2d, 1) := by decide +kernel
theorem dX6_mean_20 : decode cX6_mean 20 = .ok (.iload_n 1, 1) := by decide +kernel
theorem dX6_mean_21 : decode cX6_mean 21 = .ok (.i2d, 1) := by decide +kernel
theorem dX6_mean_22 : decode cX6_mean 22 = .ok (.ddiv, 1) := by decide +kernel
theorem dX6_mean_23 : decode cX6_mean 23 = .ok (.goto 4, 3) := by decide +kernel
theorem dX6_mean_26 : decode cX6_mean 26 = .ok (.dconst 0, 1) := by decide +kernel
theorem dX6_mean_27 : decode cX6_mean 27 = .ok (.dreturn, 1) := by decide +kernel
theorem dX6_digest_0 : decode cX6_digest 0 = .ok (.aload_n 0, 1) := by decide +kernel
theorem dX6_digest_1 : decode cX6_digest 1 = .ok (.getfield 10, 3) := by decide +kernel
theorem dX6_digest_4 : decode cX6_digest 4 = .ok (.invokevirtual 201, 3) := by decide +kernel
theorem dX6_digest_7 : decode cX6_digest 7 = .ok (.lreturn, 1) := by decide +kernel
theorem dX6_isWithin_0 : decode cX6_isWithin 0 = .ok (.iload_n 0, 1) := by decide +kernel
theorem dX6_isWithin_1 : decode cX6_isWithin 1 = .ok (.iload_n 1, 1) := by decide +kernel
theorem dX6_isWithin_2 : decode cX6_isWithin 2 = .ok (.if_icmp .lt 12, 3) := by decide +kernel
theorem dX6_isWithin_5 : decode cX6_isWithin 5 = .ok (.iload_n 0, 1) := by decide +kernel
theorem dX6_isWithin_6 : decode cX6_isWithin 6 = .ok (.iload_n 2, 1) := by decide +kernel
theorem dX6_isWithin_7 : decode cX6_isWithin 7 = .ok (.if_icmp .gt 7, 3) := by decide +kernel
theorem dX6_isWithin_10 : decode cX6_isWithin 10 = .ok (.iconst 1, 1) := by decide +kernel
theorem dX6_isWithin_11 : decode cX6_isWithin 11 = .ok (.goto 4, 3) := by decide +kernel
theorem dX6_isWithin_14 : decode cX6_isWithin 14 = .ok (.iconst 0, 1) := by decide +kernel
theorem dX6_isWithin_15 : decode cX6_isWithin 15 = .ok (.ireturn, 1) := by decide +kernel
theorem dX6_refuseUnlessWithin_0 : decode cX6_refuseUnlessWithin 0 = .ok (.iload_n 0, 1) := by decide +kernel
theorem dX6_refuseUnlessWithin_1 : decode cX6_refuseUnlessWithin 1 = .ok (.ifCond .lt 8, 3) := by decide +kernel
theorem dX6_refuseUnlessWithin_4 : decode cX6_refuseUnlessWithin 4 = .ok (.iload_n 0, 1) := by decide +kernel
theorem dX6_refuseUnlessWithin_5 : decode cX6_refuseUnlessWithin 5 = .ok (.iload_n 1, 1) := by decide +kernel
theorem dX6_refuseUnlessWithin_6 : decode cX6_refuseUnlessWithin 6 = .ok (.if_icmp .lt 13, 3) := by decide +kernel
theorem dX6_refuseUnlessWithin_9 : decode cX6_refuseUnlessWithin 9 = .ok (.new 205, 3) := by decide +kernel
theorem dX6_refuseUnlessWithin_12 : decode cX6_refuseUnlessWithin 12 = .ok (.dup, 1) := by decide +kernel
theorem dX6_refuseUnlessWithin_13 : decode cX6_refuseUnlessWithin 13 = .ok (.ldc 207, 2) := by decide +kernel
theorem dX6_refuseUnlessWithin_15 : decode cX6_refuseUnlessWithin 15 = .ok (.invokespecial 209, 3) := by decide +kernel
theorem dX6_refuseUnlessWithin_18 : decode cX6_refuseUnlessWithin 18 = .ok (.athrow, 1) := by decide +kernel
theorem dX6_refuseUnlessWithin_19 : decode cX6_refuseUnlessWithin 19 = .ok (.return_, 1) := by decide +kernel
theorem dX6_stationOf_0 : decode cX6_stationOf 0 = .ok (.aload_n 0, 1) := by decide +kernel
theorem dX6_stationOf_1 : decode cX6_stationOf 1 = .ok (.getfield 10, 3) := by decide +kernel
theorem dX6_stationOf_4 : decode cX6_stationOf 4 = .ok (.iload_n 1, 1) := by decide +kernel
theorem dX6_stationOf_5 : decode cX6_stationOf 5 = .ok (.invokevirtual 210, 3) := by decide +kernel
theorem dX6_stationOf_8 : decode cX6_stationOf 8 = .ok (.astore_n 2, 1) := by decide +kernel
theorem dX6_stationOf_9 : decode cX6_stationOf 9 = .ok (.aload_n 2, 1) := by decide +kernel
theorem dX6_stationOf_10 : decode cX6_stationOf 10 = .ok (.ifnonnull 13, 3) := by decide +kernel
theorem dX6_stationOf_13 : decode cX6_stationOf 13 = .ok (.new 205, 3) := by decide +kernel
theorem dX6_stationOf_16 : decode cX6_stationOf 16 = .ok (.dup, 1) := by decide +kernel
theorem dX6_stationOf_17 : decode cX6_stationOf 17 = .ok (.ldc 213, 2) := by decide +kernel
theorem dX6_stationOf_19 : decode cX6_stationOf 19 = .ok (.invokespecial 209, 3) := by decide +kernel
theorem dX6_stationOf_22 : decode cX6_stationOf 22 = .ok (.athrow, 1) := by decide +kernel
theorem dX6_stationOf_23 : decode cX6_stationOf 23 = .ok (.aload_n 2, 1) := by decide +kernel
theorem dX6_stationOf_24 : decode cX6_stationOf 24 = .ok (.areturn, 1) := by decide +kernel
theorem dX6_memberOf_0 : decode cX6_memberOf 0 = .ok (.aload_n 0, 1) := by decide +kernel
theorem dX6_memberOf_1 : decode cX6_memberOf 1 = .ok (.getfield 10, 3) := by decide +kernel
theorem dX6_memberOf_4 : decode cX6_memberOf 4 = .ok (.iload_n 1, 1) := by decide +kernel
theorem dX6_memberOf_5 : decode cX6_memberOf 5 = .ok (.invokevirtual 215, 3) := by decide +kernel
theorem dX6_memberOf_8 : decode cX6_memberOf 8 = .ok (.astore_n 2, 1) := by decide +kernel
theorem dX6_memberOf_9 : decode cX6_memberOf 9 = .ok (.aload_n 2, 1) := by decide +kernel
theorem dX6_memberOf_10 : decode cX6_memberOf 10 = .ok (.ifnonnull 13, 3) := by decide +kernel
theorem dX6_memberOf_13 : decode cX6_memberOf 13 = .ok (.new 205, 3) := by decide +kernel
theorem dX6_memberOf_16 : decode cX6_memberOf 16 = .ok (.dup, 1) := by decide +kernel
theorem dX6_memberOf_17 : decode cX6_memberOf 17 = .ok (.ldc 218, 2) := by decide +kernel
theorem dX6_memberOf_19 : decode cX6_memberOf 19 = .ok (.invokespecial 209, 3) := by decide +kernel
theorem dX6_memberOf_22 : decode cX6_memberOf 22 = .ok (.athrow, 1) := by decide +kernel
theorem dX6_memberOf_23 : decode cX6_memberOf 23 = .ok (.aload_n 2, 1) := by decide +kernel
theorem dX6_memberOf_24 : decode cX6_memberOf 24 = .ok (.areturn, 1) := by decide +kernel
theorem dX6_setOf_0 : decode cX6_setOf 0 = .ok (.aload_n 0, 1) := by decide +kernel
theorem dX6_setOf_1 : decode cX6_setOf 1 = .ok (.iload_n 1, 1) := by decide +kernel
theorem dX6_setOf_2 : decode cX6_setOf 2 = .ok (.invokevirtual 86, 3) := by decide +kernel
theorem dX6_setOf_5 : decode cX6_setOf 5 = .ok (.getfield 220, 3) := by decide +kernel
theorem dX6_setOf_8 : decode cX6_setOf 8 = .ok (.areturn, 1) := by decide +kernel
theorem dX6_logOf_0 : decode cX6_logOf 0 = .ok (.aload_n 0, 1) := by decide +kernel
theorem dX6_logOf_1 : decode cX6_logOf 1 = .ok (.iload_n 1, 1) := by decide +kernel
theorem dX6_logOf_2 : decode cX6_logOf 2 = .ok (.invokevirtual 86, 3) := by decide +kernel
theorem dX6_logOf_5 : decode cX6_logOf 5 = .ok (.getfield 223, 3) := by decide +kernel
theorem dX6_logOf_8 : decode cX6_logOf 8 = .ok (.astore_n 3, 1) := by decide +kernel
theorem dX6_logOf_9 : decode cX6_logOf 9 = .ok (.iload_n 2, 1) := by decide +kernel
theorem dX6_logOf_10 : decode cX6_logOf 10 = .ok (.aload_n 3, 1) := by decide +kernel
theorem dX6_logOf_11 : decode cX6_logOf 11 = .ok (.getfield 226, 3) := by decide +kernel
theorem dX6_logOf_14 : decode cX6_logOf 14 = .ok (.invokestatic 103, 3) := by decide +kernel
theorem dX6_logOf_17 : decode cX6_logOf 17 = .ok (.aload_n 3, 1) := by decide +kernel
theorem dX6_logOf_18 : decode cX6_logOf 18 = .ok (.areturn, 1) := by decide +kernel
theorem dX6_quotient_0 : decode cX6_quotient 0 = .ok (.iload_n 1, 1) := by decide +kernel
theorem dX6_quotient_1 : decode cX6_quotient 1 = .ok (.ifCond .ne 7, 3) := by decide +kernel
theorem dX6_quotient_4 : decode cX6_quotient 4 = .ok (.iconst 0, 1) := by decide +kernel
theorem dX6_quotient_5 : decode cX6_quotient 5 = .ok (.goto 6, 3) := by decide +kernel
theorem dX6_quotient_8 : decode cX6_quotient 8 = .ok (.iload_n 0, 1) := by decide +kernel
theorem dX6_quotient_9 : decode cX6_quotient 9 = .ok (.iload_n 1, 1) := by decide +kernel
theorem dX6_quotient_10 : decode cX6_quotient 10 = .ok (.idiv, 1) := by decide +kernel
theorem dX6_quotient_11 : decode cX6_quotient 11 = .ok (.ireturn, 1) := by decide +kernel
theorem dX6_distance_0 : decode cX6_distance 0 = .ok (.iload_n 0, 1) := by decide +kernel
theorem dX6_distance_1 : decode cX6_distance 1 = .ok (.iload_n 1, 1) := by decide +kernel
theorem dX6_distance_2 : decode cX6_distance 2 = .ok (.if_icmp .ge 9, 3) := by decide +kernel
theorem dX6_distance_5 : decode cX6_distance 5 = .ok (.iload_n 1, 1) := by decide +kernel
theorem dX6_distance_6 : decode cX6_distance 6 = .ok (.iload_n 0, 1) := by decide +kernel
theorem dX6_distance_7 : decode cX6_distance 7 = .ok (.isub, 1) := by decide +kernel
theorem dX6_distance_8 : decode cX6_distance 8 = .ok (.goto 6, 3) := by decide +kernel
theorem dX6_distance_11 : decode cX6_distance 11 = .ok (.iload_n 0, 1) := by decide +kernel
theorem dX6_distance_12 : decode cX6_distance 12 = .ok (.iload_n 1, 1) := by decide +kernel
theorem dX6_distance_13 : decode cX6_distance 13 = .ok (.isub, 1) := by decide +kernel
theorem dX6_distance_14 : decode cX6_distance 14 = .ok (.ireturn, 1) := by decide +kernel
theorem dX7_init_0 : decode cX7_init 0 = .ok (.aload_n 0, 1) := by decide +kernel
theorem dX7_init_1 : decode cX7_init 1 = .ok (.aload_n 1, 1) := by decide +kernel
theorem dX7_init_2 : decode cX7_init 2 = .ok (.putfield 3, 3) := by decide +kernel
theorem dX7_init_5 : decode cX7_init 5 = .ok (.aload_n 0, 1) := by decide +kernel
theorem dX7_init_6 : decode cX7_init 6 = .ok (.invokespecial 9, 3) := by decide +kernel
theorem dX7_init_9 : decode cX7_init 9 = .ok (.aload_n 0, 1) := by decide +kernel
theorem dX7_init_10 : decode cX7_init 10 = .ok (.bipush 8, 2) := by decide +kernel
theorem dX7_init_12 : decode cX7_init 12 = .ok (.newarray .int, 2) := by decide +kernel
theorem dX7_init_14 : decode cX7_init 14 = .ok (.putfield 15, 3) := by decide +kernel
theorem dX7_init_17 : decode cX7_init 17 = .ok (.aload_n 0, 1) := by decide +kernel
theorem dX7_init_18 : decode cX7_init 18 = .ok (.bipush 8, 2) := by decide +kernel
theorem dX7_init_20 : decode cX7_init 20 = .ok (.newarray .int, 2) := by decide +kernel
theorem dX7_init_22 : decode cX7_init 22 = .ok (.putfield 19, 3) := by decide +kernel
theorem dX7_init_25 : decode cX7_init 25 = .ok (.aload_n 0, 1) := by decide +kernel
theorem dX7_init_26 : decode cX7_init 26 = .ok (.sipush 1280, 3) := by decide +kernel
theorem dX7_init_29 : decode cX7_init 29 = .ok (.newarray .int, 2) := by decide +kernel
theorem dX7_init_31 : decode cX7_init 31 = .ok (.putfield 22, 3) := by decide +kernel
theorem dX7_init_34 : decode cX7_init 34 = .ok (.aload_n 0, 1) := by decide +kernel
theorem dX7_init_35 : decode cX7_init 35 = .ok (.bipush 60, 2) := by decide +kernel
theorem dX7_init_37 : decode cX7_init 37 = .ok (.newarray .int, 2) := by decide +kernel
theorem dX7_init_39 : decode cX7_init 39 = .ok (.putfield 25, 3) := by decide +kernel
theorem dX7_init_42 : decode cX7_init 42 = .ok (.return_, 1) := by decide +kernel
theorem dX7_copy_0 : decode cX7_copy 0 = .ok (.aload_n 1, 1) := by decide +kernel
theorem dX7_copy_1 : decode cX7_copy 1 = .ok (.iconst 0, 1) := by decide +kernel
theorem dX7_copy_2 : decode cX7_copy 2 = .ok (.aload_n 2, 1) := by decide +kernel
theorem dX7_copy_3 : decode cX7_copy 3 = .ok (.iconst 0, 1) := by decide +kernel
theorem dX7_copy_4 : decode cX7_copy 4 = .ok (.aload_n 1, 1) := by decide +kernel
theorem dX7_copy_5 : decode cX7_copy 5 = .ok (.arraylength, 1) := by decide +kernel
theorem dX7_copy_6 : decode cX7_copy 6 = .ok (.invokestatic 28, 3) := by decide +kernel
theorem dX7_copy_9 : decode cX7_copy 9 = .ok (.return_, 1) := by decide +kernel
theorem dX7_become_0 : decode cX7_become 0 = .ok (.aload_n 0, 1) := by decide +kernel
theorem dX7_become_1 : decode cX7_become 1 = .ok (.aload_n 1, 1) := by decide +kernel
theorem dX7_become_2 : decode cX7_become 2 = .ok (.getfield 34, 3) := by decide +kernel
theorem dX7_become_5 : decode cX7_become 5 = .ok (.putfield 34, 3) := by decide +kernel
theorem dX7_become_8 : decode cX7_become 8 = .ok (.aload_n 0, 1) := by decide +kernel
theorem dX7_become_9 : decode cX7_become 9 = .ok (.aload_n 1, 1) := by decide +kernel
theorem dX7_become_10 : decode cX7_become 10 = .ok (.getfield 38, 3) := by decide +kernel
theorem dX7_become_13 : decode cX7_become 13 = .ok (.putfield 38, 3) := by decide +kernel
theorem dX7_become_16 : decode cX7_become 16 = .ok (.aload_n 0, 1) := by decide +kernel
theorem dX7_become_17 : decode cX7_become 17 = .ok (.aload_n 1, 1) := by decide +kernel
theorem dX7_become_18 : decode cX7_become 18 = .ok (.getfield 41, 3) := by decide +kernel
theorem dX7_become_21 : decode cX7_become 21 = .ok (.putfield 41, 3) := by decide +kernel
theorem dX7_become_24 : decode cX7_become 24 = .ok (.aload_n 0, 1) := by decide +kernel
theorem dX7_become_25 : decode cX7_become 25 = .ok (.aload_n 1, 1) := by decide +kernel
theorem dX7_become_26 : decode cX7_become 26 = .ok (.getfield 44, 3) := by decide +kernel
theorem dX7_become_29 : decode cX7_become 29 = .ok (.putfield 44, 3) := by decide +kernel
theorem dX7_become_32 : decode cX7_become 32 = .ok (.aload_n 0, 1) := by decide +kernel
theorem dX7_become_33 : decode cX7_become 33 = .ok (.aload_n 1, 1) := by decide +kernel
theorem dX7_become_34 : decode cX7_become 34 = .ok (.getfield 15, 3) := by decide +kernel
theorem dX7_become_37 : decode cX7_become 37 = .ok (.aload_n 0, 1) := by decide +kernel
theorem dX7_become_38 : decode cX7_become 38 = .ok (.getfield 15, 3) := by decide +kernel
theorem dX7_become_41 : decode cX7_become 41 = .ok (.invokevirtual 47, 3) := by decide +kernel
theorem dX7_become_44 : decode cX7_become 44 = .ok (.aload_n 0, 1) := by decide +kernel
theorem dX7_become_45 : decode cX7_become 45 = .ok (.aload_n 1, 1) := by decide +kernel
theorem dX7_become_46 : decode cX7_become 46 = .ok (.getfield 19, 3) := by decide +kernel
theorem dX7_become_49 : decode cX7_become 49 = .ok (.aload_n 0, 1) := by decide +kernel
theorem dX7_become_50 : decode cX7_become 50 = .ok (.getfield 19, 3) := by decide +kernel
theorem dX7_become_53 : decode cX7_become 53 = .ok (.invokevirtual 47, 3) := by decide +kernel
theorem dX7_become_56 : decode cX7_become 56 = .ok (.aload_n 0, 1) := by decide +kernel
theorem dX7_become_57 : decode cX7_become 57 = .ok (.aload_n 1, 1) := by decide +kernel
theorem dX7_become_58 : decode cX7_become 58 = .ok (.getfield 22, 3) := by decide +kernel
theorem dX7_become_61 : decode cX7_become 61 = .ok (.aload_n 0, 1) := by decide +kernel
theorem dX7_become_62 : decode cX7_become 62 = .ok (.getfield 22, 3) := by decide +kernel
theorem dX7_become_65 : decode cX7_become 65 = .ok (.invokevirtual 47, 3) := by decide +kernel
theorem dX7_become_68 : decode cX7_become 68 = .ok (.aload_n 0, 1) := by decide +kernel
theorem dX7_become_69 : decode cX7_become 69 = .ok (.aload_n 1, 1) := by decide +kernel
theorem dX7_become_70 : decode cX7_become 70 = .ok (.getfield 25, 3) := by decide +kernel
theorem dX7_become_73 : decode cX7_become 73 = .ok (.aload_n 0, 1) := by decide +kernel
theorem dX7_become_74 : decode cX7_become 74 = .ok (.getfield 25, 3) := by decide +kernel
theorem dX7_become_77 : decode cX7_become 77 = .ok (.invokevirtual 47, 3) := by decide +kernel
theorem dX7_become_80 : decode cX7_become 80 = .ok (.return_, 1) := by decide +kernel
theorem dX7_isInDay_0 : decode cX7_isInDay 0 = .ok (.iconst 0, 1) := by decide +kernel
theorem dX7_isInDay_1 : decode cX7_isInDay 1 = .ok (.istore_n 3, 1) := by decide +kernel
theorem dX7_isInDay_2 : decode cX7_isInDay 2 = .ok (.iload_n 3, 1) := by decide +kernel
theorem dX7_isInDay_3 : decode cX7_isInDay 3 = .ok (.aload_n 0, 1) := by decide +kernel
theorem dX7_isInDay_4 : decode cX7_isInDay 4 = .ok (.getfield 19, 3) := by decide +kernel
theorem dX7_isInDay_7 : decode cX7_isInDay 7 = .ok (.iload_n 1, 1) := by decide +kernel
theorem dX7_isInDay_8 : decode cX7_isInDay 8 = .ok (.iaload, 1) := by decide +kernel
theorem dX7_isInDay_9 : decode cX7_isInDay 9 = .ok (.if_icmp .ge 54, 3) := by decide +kernel
theorem dX7_isInDay_12 : decode cX7_isInDay 12 = .ok (.iconst 4, 1) := by decide +kernel
theorem dX7_isInDay_13 : decode cX7_isInDay 13 = .ok (.bipush 40, 2) := by decide +kernel
theorem dX7_isInDay_15 : decode cX7_isInDay 15 = .ok (.iload_n 1, 1) := by decide +kernel
theorem dX7_isInDay_16 : decode cX7_isInDay 16 = .ok (.imul, 1) := by decide +kernel
theorem dX7_isInDay_17 : decode cX7_isInDay 17 = .ok (.iload_n 3, 1) := by decide +kernel
theorem dX7_isInDay_18 : decode cX7_isInDay 18 = .ok (.iadd, 1) := by decide +kernel
theorem dX7_isInDay_19 : decode cX7_isInDay 19 = .ok (.imul, 1) := by decide +kernel
theorem dX7_isInDay_20 : decode cX7_isInDay 20 = .ok (.istore 4, 2) := by decide +kernel
theorem dX7_isInDay_22 : decode cX7_isInDay 22 = .ok (.aload_n 0, 1) := by decide +kernel
theorem dX7_isInDay_23 : decode cX7_isInDay 23 = .ok (.getfield 22, 3) := by decide +kernel
theorem dX7_isInDay_26 : decode cX7_isInDay 26 = .ok (.iload 4, 2) := by decide +kernel
theorem dX7_isInDay_28 : decode cX7_isInDay 28 = .ok (.iconst 1, 1) := by decide +kernel
theorem dX7_isInDay_29 : decode cX7_isInDay 29 = .ok (.iadd, 1) := by decide +kernel
theorem dX7_isInDay_30 : decode cX7_isInDay 30 = .ok (.iaload, 1) := by decide +kernel
theorem dX7_isInDay_31 : decode cX7_isInDay 31 = .ok (.iload_n 2, 1) := by decide +kernel
theorem dX7_isInDay_32 : decode cX7_isInDay 32 = .ok (.if_icmp .ne 25, 3) := by decide +kernel
theorem dX7_isInDay_35 : decode cX7_isInDay 35 = .ok (.aload_n 0, 1) := by decide +kernel
theorem dX7_isInDay_36 : decode cX7_isInDay 36 = .ok (.getfield 22, 3) := by decide +kernel
theorem dX7_isInDay_39 : decode cX7_isInDay 39 = .ok (.iload 4, 2) := by decide +kernel
theorem dX7_isInDay_41 : decode cX7_isInDay 41 = .ok (.iaload, 1) := by decide +kernel
theorem dX7_isInDay_42 : decode cX7_isInDay 42 = .ok (.bipush 24, 2) := by decide +kernel
theorem dX7_isInDay_44 : decode cX7_isInDay 44 = .ok (.idiv, 1) := by decide +kernel
theorem dX7_isInDay_45 : decode cX7_isInDay 45 = .ok (.aload_n 0, 1) := by decide +kernel
theorem dX7_isInDay_46 : decode cX7_isInDay 46 = .ok (.getfield 34, 3) := by decide +kernel
theorem dX7_isInDay_49 : decode cX7_isInDay 49 = .ok (.bipush 24, 2) := by decide +kernel
theorem dX7_isInDay_51 : decode cX7_isInDay 51 = .ok (.idiv, 1) := by decide +kernel
theorem dX7_isInDay_52 : decode cX7_isInDay 52 = .ok (.if_icmp .ne 5, 3) := by decide +kernel
theorem dX7_isInDay_55 : decode cX7_isInDay 55 = .ok (.iconst 1, 1) := by decide +kernel
theorem dX7_isInDay_56 : decode cX7_isInDay 56 = .ok (.ireturn, 1) := by decide +kernel
theorem dX7_isInDay_57 : decode cX7_isInDay 57 = .ok (.iinc 3 1, 3) := by decide +kernel
theorem dX7_isInDay_60 : decode cX7_isInDay 60 = .ok (.goto (-58), 3) := by decide +kernel
theorem dX7_isInDay_63 : decode cX7_isInDay 63 = .ok (.iconst 0, 1) := by decide +kernel
theorem dX7_isInDay_64 : decode cX7_isInDay 64 = .ok (.ireturn, 1) := by decide +kernel
theorem dX7_hear_0 : decode cX7_hear 0 = .ok (.aload_n 0, 1) := by decide +kernel
theorem dX7_hear_1 : decode cX7_hear 1 = .ok (.getfield 3, 3) := by decide +kernel
theorem dX7_hear_4 : decode cX7_hear 4 = .ok (.aload_n 0, 1) := by decide +kernel
theorem dX7_hear_5 : decode cX7_hear 5 = .ok (.getfield 34, 3) := by decide +kernel
theorem dX7_hear_8 : decode cX7_hear 8 = .ok (.invokevirtual 51, 3) := by decide +kernel
theorem dX7_hear_11 : decode cX7_hear 11 = .ok (.istore_n 1, 1) := by decide +kernel
theorem dX7_hear_12 : decode cX7_hear 12 = .ok (.iconst 0, 1) := by decide +kernel
theorem dX7_hear_13 : decode cX7_hear 13 = .ok (.istore_n 2, 1) := by decide +kernel
theorem dX7_hear_14 : decode cX7_hear 14 = .ok (.iload_n 2, 1) := by decide +kernel
theorem dX7_hear_15 : decode cX7_hear 15 = .ok (.aload_n 0, 1) := by decide +kernel
theorem dX7_hear_16 : decode cX7_hear 16 = .ok (.getfield 3, 3) := by decide +kernel
theorem dX7_hear_19 : decode cX7_hear 19 = .ok (.getfield 55, 3) := by decide +kernel
theorem dX7_hear_22 : decode cX7_hear 22 = .ok (.if_icmp .ge 201, 3) := by decide +kernel
theorem dX7_hear_25 : decode cX7_hear 25 = .ok (.aload_n 0, 1) := by decide +kernel
theorem dX7_hear_26 : decode cX7_hear 26 = .ok (.getfield 3, 3) := by decide +kernel
theorem dX7_hear_29 : decode cX7_hear 29 = .ok (.getfield 58, 3) := by decide +kernel
theorem dX7_hear_32 : decode cX7_hear 32 = .ok (.iload_n 2, 1) := by decide +kernel
theorem dX7_hear_33 : decode cX7_hear 33 = .ok (.iaload, 1) := by decide +kernel
theorem dX7_hear_34 : decode cX7_hear 34 = .ok (.ifCond .eq 183, 3) := by decide +kernel
theorem dX7_hear_37 : decode cX7_hear 37 = .ok (.aload_n 0, 1) := by decide +kernel
theorem dX7_hear_38 : decode cX7_hear 38 = .ok (.getfield 19, 3) := by decide +kernel
theorem dX7_hear_41 : decode cX7_hear 41 = .ok (.iload_n 2, 1) := by decide +kernel
theorem dX7_hear_42 : decode cX7_hear 42 = .ok (.iaload, 1) := by decide +kernel
theorem dX7_hear_43 : decode cX7_hear 43 = .ok (.bipush 40, 2) := by decide +kernel
theorem dX7_hear_45 : decode cX7_hear 45 = .ok (.if_icmp .ne 6, 3) := by decide +kernel
theorem dX7_hear_48 : decode cX7_hear 48 = .ok (.goto 169, 3) := by decide +kernel
theorem dX7_hear_51 : decode cX7_hear 51 = .ok (.aload_n 0, 1) := by decide +kernel
