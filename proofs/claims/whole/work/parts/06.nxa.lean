theorem dX0_init_0 : decode cX0_init 0 = .ok (.aload_n 0, 1) := by decide +kernel
theorem dX0_init_1 : decode cX0_init 1 = .ok (.invokespecial 3, 3) := by decide +kernel
theorem dX0_init_4 : decode cX0_init 4 = .ok (.aload_n 0, 1) := by decide +kernel
theorem dX0_init_5 : decode cX0_init 5 = .ok (.new 9, 3) := by decide +kernel
theorem dX0_init_8 : decode cX0_init 8 = .ok (.dup, 1) := by decide +kernel
theorem dX0_init_9 : decode cX0_init 9 = .ok (.invokespecial 11, 3) := by decide +kernel
theorem dX0_init_12 : decode cX0_init 12 = .ok (.putfield 12, 3) := by decide +kernel
theorem dX0_init_15 : decode cX0_init 15 = .ok (.aload_n 0, 1) := by decide +kernel
theorem dX0_init_16 : decode cX0_init 16 = .ok (.bipush 8, 2) := by decide +kernel
theorem dX0_init_18 : decode cX0_init 18 = .ok (.newarray .int, 2) := by decide +kernel
theorem dX0_init_20 : decode cX0_init 20 = .ok (.putfield 18, 3) := by decide +kernel
theorem dX0_init_23 : decode cX0_init 23 = .ok (.aload_n 0, 1) := by decide +kernel
theorem dX0_init_24 : decode cX0_init 24 = .ok (.bipush 8, 2) := by decide +kernel
theorem dX0_init_26 : decode cX0_init 26 = .ok (.newarray .long, 2) := by decide +kernel
theorem dX0_init_28 : decode cX0_init 28 = .ok (.putfield 22, 3) := by decide +kernel
theorem dX0_init_31 : decode cX0_init 31 = .ok (.aload_n 0, 1) := by decide +kernel
theorem dX0_init_32 : decode cX0_init 32 = .ok (.bipush 8, 2) := by decide +kernel
theorem dX0_init_34 : decode cX0_init 34 = .ok (.newarray .int, 2) := by decide +kernel
theorem dX0_init_36 : decode cX0_init 36 = .ok (.putfield 26, 3) := by decide +kernel
theorem dX0_init_39 : decode cX0_init 39 = .ok (.aload_n 0, 1) := by decide +kernel
theorem dX0_init_40 : decode cX0_init 40 = .ok (.bipush 8, 2) := by decide +kernel
theorem dX0_init_42 : decode cX0_init 42 = .ok (.newarray .long, 2) := by decide +kernel
theorem dX0_init_44 : decode cX0_init 44 = .ok (.putfield 29, 3) := by decide +kernel
theorem dX0_init_47 : decode cX0_init 47 = .ok (.aload_n 0, 1) := by decide +kernel
theorem dX0_init_48 : decode cX0_init 48 = .ok (.bipush 8, 2) := by decide +kernel
theorem dX0_init_50 : decode cX0_init 50 = .ok (.newarray .long, 2) := by decide +kernel
theorem dX0_init_52 : decode cX0_init 52 = .ok (.putfield 32, 3) := by decide +kernel
theorem dX0_init_55 : decode cX0_init 55 = .ok (.aload_n 0, 1) := by decide +kernel
theorem dX0_init_56 : decode cX0_init 56 = .ok (.new 35, 3) := by decide +kernel
theorem dX0_init_59 : decode cX0_init 59 = .ok (.dup, 1) := by decide +kernel
theorem dX0_init_60 : decode cX0_init 60 = .ok (.invokespecial 37, 3) := by decide +kernel
theorem dX0_init_63 : decode cX0_init 63 = .ok (.putfield 38, 3) := by decide +kernel
theorem dX0_init_66 : decode cX0_init 66 = .ok (.return_, 1) := by decide +kernel
theorem dX0_read_0 : decode cX0_read 0 = .ok (.aload_n 0, 1) := by decide +kernel
theorem dX0_read_1 : decode cX0_read 1 = .ok (.getfield 12, 3) := by decide +kernel
theorem dX0_read_4 : decode cX0_read 4 = .ok (.iconst 0, 1) := by decide +kernel
theorem dX0_read_5 : decode cX0_read 5 = .ok (.putfield 42, 3) := by decide +kernel
theorem dX0_read_8 : decode cX0_read 8 = .ok (.aload_n 0, 1) := by decide +kernel
theorem dX0_read_9 : decode cX0_read 9 = .ok (.iconst 0, 1) := by decide +kernel
theorem dX0_read_10 : decode cX0_read 10 = .ok (.putfield 46, 3) := by decide +kernel
theorem dX0_read_13 : decode cX0_read 13 = .ok (.aload_n 0, 1) := by decide +kernel
theorem dX0_read_14 : decode cX0_read 14 = .ok (.iconst 0, 1) := by decide +kernel
theorem dX0_read_15 : decode cX0_read 15 = .ok (.putfield 49, 3) := by decide +kernel
theorem dX0_read_18 : decode cX0_read 18 = .ok (.aload_n 1, 1) := by decide +kernel
theorem dX0_read_19 : decode cX0_read 19 = .ok (.bipush 48, 2) := by decide +kernel
theorem dX0_read_21 : decode cX0_read 21 = .ok (.invokevirtual 53, 3) := by decide +kernel
theorem dX0_read_24 : decode cX0_read 24 = .ok (.aload_n 0, 1) := by decide +kernel
theorem dX0_read_25 : decode cX0_read 25 = .ok (.aload_n 1, 1) := by decide +kernel
theorem dX0_read_26 : decode cX0_read 26 = .ok (.invokevirtual 59, 3) := by decide +kernel
theorem dX0_read_29 : decode cX0_read 29 = .ok (.putfield 63, 3) := by decide +kernel
theorem dX0_read_32 : decode cX0_read 32 = .ok (.aload_n 0, 1) := by decide +kernel
theorem dX0_read_33 : decode cX0_read 33 = .ok (.getfield 63, 3) := by decide +kernel
theorem dX0_read_36 : decode cX0_read 36 = .ok (.ifCond .ne 78, 3) := by decide +kernel
theorem dX0_read_39 : decode cX0_read 39 = .ok (.aload_n 1, 1) := by decide +kernel
theorem dX0_read_40 : decode cX0_read 40 = .ok (.sipush 160, 3) := by decide +kernel
theorem dX0_read_43 : decode cX0_read 43 = .ok (.invokevirtual 53, 3) := by decide +kernel
theorem dX0_read_46 : decode cX0_read 46 = .ok (.aload_n 1, 1) := by decide +kernel
theorem dX0_read_47 : decode cX0_read 47 = .ok (.bipush 48, 2) := by decide +kernel
theorem dX0_read_49 : decode cX0_read 49 = .ok (.invokevirtual 53, 3) := by decide +kernel
theorem dX0_read_52 : decode cX0_read 52 = .ok (.aload_n 0, 1) := by decide +kernel
theorem dX0_read_53 : decode cX0_read 53 = .ok (.aload_n 1, 1) := by decide +kernel
theorem dX0_read_54 : decode cX0_read 54 = .ok (.invokevirtual 66, 3) := by decide +kernel
theorem dX0_read_57 : decode cX0_read 57 = .ok (.iconst 0, 1) := by decide +kernel
theorem dX0_read_58 : decode cX0_read 58 = .ok (.istore_n 2, 1) := by decide +kernel
theorem dX0_read_59 : decode cX0_read 59 = .ok (.iload_n 2, 1) := by decide +kernel
theorem dX0_read_60 : decode cX0_read 60 = .ok (.bipush 8, 2) := by decide +kernel
theorem dX0_read_62 : decode cX0_read 62 = .ok (.if_icmp .ge 26, 3) := by decide +kernel
theorem dX0_read_65 : decode cX0_read 65 = .ok (.iload_n 2, 1) := by decide +kernel
theorem dX0_read_66 : decode cX0_read 66 = .ok (.ifCond .eq 10, 3) := by decide +kernel
theorem dX0_read_69 : decode cX0_read 69 = .ok (.aload_n 1, 1) := by decide +kernel
theorem dX0_read_70 : decode cX0_read 70 = .ok (.invokevirtual 70, 3) := by decide +kernel
theorem dX0_read_73 : decode cX0_read 73 = .ok (.ifCond .eq 15, 3) := by decide +kernel
theorem dX0_read_76 : decode cX0_read 76 = .ok (.aload_n 0, 1) := by decide +kernel
theorem dX0_read_77 : decode cX0_read 77 = .ok (.aload_n 1, 1) := by decide +kernel
theorem dX0_read_78 : decode cX0_read 78 = .ok (.iload_n 2, 1) := by decide +kernel
theorem dX0_read_79 : decode cX0_read 79 = .ok (.invokevirtual 74, 3) := by decide +kernel
theorem dX0_read_82 : decode cX0_read 82 = .ok (.iinc 2 1, 3) := by decide +kernel
theorem dX0_read_85 : decode cX0_read 85 = .ok (.goto (-26), 3) := by decide +kernel
theorem dX0_read_88 : decode cX0_read 88 = .ok (.aload_n 0, 1) := by decide +kernel
theorem dX0_read_89 : decode cX0_read 89 = .ok (.aload_n 1, 1) := by decide +kernel
theorem dX0_read_90 : decode cX0_read 90 = .ok (.invokevirtual 78, 3) := by decide +kernel
theorem dX0_read_93 : decode cX0_read 93 = .ok (.aload_n 0, 1) := by decide +kernel
theorem dX0_read_94 : decode cX0_read 94 = .ok (.aload_n 1, 1) := by decide +kernel
theorem dX0_read_95 : decode cX0_read 95 = .ok (.invokevirtual 81, 3) := by decide +kernel
theorem dX0_read_98 : decode cX0_read 98 = .ok (.putfield 85, 3) := by decide +kernel
theorem dX0_read_101 : decode cX0_read 101 = .ok (.aload_n 0, 1) := by decide +kernel
theorem dX0_read_102 : decode cX0_read 102 = .ok (.aload_n 1, 1) := by decide +kernel
theorem dX0_read_103 : decode cX0_read 103 = .ok (.invokevirtual 89, 3) := by decide +kernel
theorem dX0_read_106 : decode cX0_read 106 = .ok (.aload_n 1, 1) := by decide +kernel
theorem dX0_read_107 : decode cX0_read 107 = .ok (.invokevirtual 92, 3) := by decide +kernel
theorem dX0_read_110 : decode cX0_read 110 = .ok (.aload_n 1, 1) := by decide +kernel
theorem dX0_read_111 : decode cX0_read 111 = .ok (.invokevirtual 92, 3) := by decide +kernel
theorem dX0_read_114 : decode cX0_read 114 = .ok (.aload_n 1, 1) := by decide +kernel
theorem dX0_read_115 : decode cX0_read 115 = .ok (.invokevirtual 92, 3) := by decide +kernel
theorem dX0_read_118 : decode cX0_read 118 = .ok (.aload_n 1, 1) := by decide +kernel
theorem dX0_read_119 : decode cX0_read 119 = .ok (.invokevirtual 95, 3) := by decide +kernel
theorem dX0_read_122 : decode cX0_read 122 = .ok (.return_, 1) := by decide +kernel
theorem dX0_readBodyTop_0 : decode cX0_readBodyTop 0 = .ok (.aload_n 0, 1) := by decide +kernel
theorem dX0_readBodyTop_1 : decode cX0_readBodyTop 1 = .ok (.aload_n 1, 1) := by decide +kernel
theorem dX0_readBodyTop_2 : decode cX0_readBodyTop 2 = .ok (.getfield 98, 3) := by decide +kernel
theorem dX0_readBodyTop_5 : decode cX0_readBodyTop 5 = .ok (.putfield 101, 3) := by decide +kernel
theorem dX0_readBodyTop_8 : decode cX0_readBodyTop 8 = .ok (.aload_n 1, 1) := by decide +kernel
theorem dX0_readBodyTop_9 : decode cX0_readBodyTop 9 = .ok (.bipush 48, 2) := by decide +kernel
theorem dX0_readBodyTop_11 : decode cX0_readBodyTop 11 = .ok (.invokevirtual 53, 3) := by decide +kernel
theorem dX0_readBodyTop_14 : decode cX0_readBodyTop 14 = .ok (.aload_n 0, 1) := by decide +kernel
theorem dX0_readBodyTop_15 : decode cX0_readBodyTop 15 = .ok (.aload_n 1, 1) := by decide +kernel
theorem dX0_readBodyTop_16 : decode cX0_readBodyTop 16 = .ok (.invokevirtual 104, 3) := by decide +kernel
theorem dX0_readBodyTop_19 : decode cX0_readBodyTop 19 = .ok (.aload_n 1, 1) := by decide +kernel
theorem dX0_readBodyTop_20 : decode cX0_readBodyTop 20 = .ok (.invokevirtual 107, 3) := by decide +kernel
theorem dX0_readBodyTop_23 : decode cX0_readBodyTop 23 = .ok (.pop2, 1) := by decide +kernel
theorem dX0_readBodyTop_24 : decode cX0_readBodyTop 24 = .ok (.aload_n 1, 1) := by decide +kernel
theorem dX0_readBodyTop_25 : decode cX0_readBodyTop 25 = .ok (.bipush 48, 2) := by decide +kernel
theorem dX0_readBodyTop_27 : decode cX0_readBodyTop 27 = .ok (.invokevirtual 53, 3) := by decide +kernel
theorem dX0_readBodyTop_30 : decode cX0_readBodyTop 30 = .ok (.return_, 1) := by decide +kernel
theorem dX0_readBodyRest_0 : decode cX0_readBodyRest 0 = .ok (.aload_n 1, 1) := by decide +kernel
theorem dX0_readBodyRest_1 : decode cX0_readBodyRest 1 = .ok (.invokevirtual 92, 3) := by decide +kernel
theorem dX0_readBodyRest_4 : decode cX0_readBodyRest 4 = .ok (.aload_n 1, 1) := by decide +kernel
theorem dX0_readBodyRest_5 : decode cX0_readBodyRest 5 = .ok (.invokevirtual 70, 3) := by decide +kernel
theorem dX0_readBodyRest_8 : decode cX0_readBodyRest 8 = .ok (.ifCond .eq 33, 3) := by decide +kernel
theorem dX0_readBodyRest_11 : decode cX0_readBodyRest 11 = .ok (.aload_n 1, 1) := by decide +kernel
theorem dX0_readBodyRest_12 : decode cX0_readBodyRest 12 = .ok (.sipush 163, 3) := by decide +kernel
theorem dX0_readBodyRest_15 : decode cX0_readBodyRest 15 = .ok (.invokevirtual 53, 3) := by decide +kernel
theorem dX0_readBodyRest_18 : decode cX0_readBodyRest 18 = .ok (.aload_n 0, 1) := by decide +kernel
theorem dX0_readBodyRest_19 : decode cX0_readBodyRest 19 = .ok (.aload_n 1, 1) := by decide +kernel
theorem dX0_readBodyRest_20 : decode cX0_readBodyRest 20 = .ok (.iconst 1, 1) := by decide +kernel
theorem dX0_readBodyRest_21 : decode cX0_readBodyRest 21 = .ok (.bipush 16, 2) := by decide +kernel
theorem dX0_readBodyRest_23 : decode cX0_readBodyRest 23 = .ok (.invokevirtual 110, 3) := by decide +kernel
theorem dX0_readBodyRest_26 : decode cX0_readBodyRest 26 = .ok (.putfield 114, 3) := by decide +kernel
theorem dX0_readBodyRest_29 : decode cX0_readBodyRest 29 = .ok (.aload_n 0, 1) := by decide +kernel
theorem dX0_readBodyRest_30 : decode cX0_readBodyRest 30 = .ok (.aload_n 1, 1) := by decide +kernel
theorem dX0_readBodyRest_31 : decode cX0_readBodyRest 31 = .ok (.getfield 117, 3) := by decide +kernel
theorem dX0_readBodyRest_34 : decode cX0_readBodyRest 34 = .ok (.putfield 46, 3) := by decide +kernel
theorem dX0_readBodyRest_37 : decode cX0_readBodyRest 37 = .ok (.aload_n 1, 1) := by decide +kernel
theorem dX0_readBodyRest_38 : decode cX0_readBodyRest 38 = .ok (.invokevirtual 92, 3) := by decide +kernel
theorem dX0_readBodyRest_41 : decode cX0_readBodyRest 41 = .ok (.aload_n 1, 1) := by decide +kernel
theorem dX0_readBodyRest_42 : decode cX0_readBodyRest 42 = .ok (.invokevirtual 92, 3) := by decide +kernel
theorem dX0_readBodyRest_45 : decode cX0_readBodyRest 45 = .ok (.aload_n 0, 1) := by decide +kernel
theorem dX0_readBodyRest_46 : decode cX0_readBodyRest 46 = .ok (.aload_n 1, 1) := by decide +kernel
theorem dX0_readBodyRest_47 : decode cX0_readBodyRest 47 = .ok (.getfield 98, 3) := by decide +kernel
theorem dX0_readBodyRest_50 : decode cX0_readBodyRest 50 = .ok (.putfield 120, 3) := by decide +kernel
theorem dX0_readBodyRest_53 : decode cX0_readBodyRest 53 = .ok (.return_, 1) := by decide +kernel
theorem dX0_readCert_0 : decode cX0_readCert 0 = .ok (.aload_n 0, 1) := by decide +kernel
theorem dX0_readCert_1 : decode cX0_readCert 1 = .ok (.aload_n 1, 1) := by decide +kernel
theorem dX0_readCert_2 : decode cX0_readCert 2 = .ok (.invokevirtual 70, 3) := by decide +kernel
theorem dX0_readCert_5 : decode cX0_readCert 5 = .ok (.putfield 49, 3) := by decide +kernel
theorem dX0_readCert_8 : decode cX0_readCert 8 = .ok (.aload_n 0, 1) := by decide +kernel
theorem dX0_readCert_9 : decode cX0_readCert 9 = .ok (.getfield 49, 3) := by decide +kernel
theorem dX0_readCert_12 : decode cX0_readCert 12 = .ok (.ifCond .eq 22, 3) := by decide +kernel
theorem dX0_readCert_15 : decode cX0_readCert 15 = .ok (.aload_n 1, 1) := by decide +kernel
theorem dX0_readCert_16 : decode cX0_readCert 16 = .ok (.sipush 160, 3) := by decide +kernel
theorem dX0_readCert_19 : decode cX0_readCert 19 = .ok (.invokevirtual 53, 3) := by decide +kernel
theorem dX0_readCert_22 : decode cX0_readCert 22 = .ok (.aload_n 0, 1) := by decide +kernel
theorem dX0_readCert_23 : decode cX0_readCert 23 = .ok (.getfield 38, 3) := by decide +kernel
theorem dX0_readCert_26 : decode cX0_readCert 26 = .ok (.aload_n 1, 1) := by decide +kernel
theorem dX0_readCert_27 : decode cX0_readCert 27 = .ok (.invokevirtual 123, 3) := by decide +kernel
theorem dX0_readCert_30 : decode cX0_readCert 30 = .ok (.aload_n 1, 1) := by decide +kernel
theorem dX0_readCert_31 : decode cX0_readCert 31 = .ok (.invokevirtual 92, 3) := by decide +kernel
theorem dX0_readCert_34 : decode cX0_readCert 34 = .ok (.return_, 1) := by decide +kernel
theorem dX0_readTeller_0 : decode cX0_readTeller 0 = .ok (.aload_n 0, 1) := by decide +kernel
theorem dX0_readTeller_1 : decode cX0_readTeller 1 = .ok (.aload_n 1, 1) := by decide +kernel
theorem dX0_readTeller_2 : decode cX0_readTeller 2 = .ok (.invokevirtual 126, 3) := by decide +kernel
theorem dX0_readTeller_5 : decode cX0_readTeller 5 = .ok (.sipush 162, 3) := by decide +kernel
theorem dX0_readTeller_8 : decode cX0_readTeller 8 = .ok (.if_icmp .eq 7, 3) := by decide +kernel
theorem dX0_readTeller_11 : decode cX0_readTeller 11 = .ok (.iconst 1, 1) := by decide +kernel
theorem dX0_readTeller_12 : decode cX0_readTeller 12 = .ok (.goto 4, 3) := by decide +kernel
theorem dX0_readTeller_15 : decode cX0_readTeller 15 = .ok (.iconst 0, 1) := by decide +kernel
theorem dX0_readTeller_16 : decode cX0_readTeller 16 = .ok (.putfield 129, 3) := by decide +kernel
theorem dX0_readTeller_19 : decode cX0_readTeller 19 = .ok (.aload_n 0, 1) := by decide +kernel
theorem dX0_readTeller_20 : decode cX0_readTeller 20 = .ok (.getfield 129, 3) := by decide +kernel
theorem dX0_readTeller_23 : decode cX0_readTeller 23 = .ok (.ifCond .eq 32, 3) := by decide +kernel
theorem dX0_readTeller_26 : decode cX0_readTeller 26 = .ok (.aload_n 1, 1) := by decide +kernel
theorem dX0_readTeller_27 : decode cX0_readTeller 27 = .ok (.sipush 161, 3) := by decide +kernel
theorem dX0_readTeller_30 : decode cX0_readTeller 30 = .ok (.invokevirtual 53, 3) := by decide +kernel
theorem dX0_readTeller_33 : decode cX0_readTeller 33 = .ok (.aload_n 0, 1) := by decide +kernel
theorem dX0_readTeller_34 : decode cX0_readTeller 34 = .ok (.aload_n 1, 1) := by decide +kernel
theorem dX0_readTeller_35 : decode cX0_readTeller 35 = .ok (.iconst 1, 1) := by decide +kernel
theorem dX0_readTeller_36 : decode cX0_readTeller 36 = .ok (.bipush 16, 2) := by decide +kernel
theorem dX0_readTeller_38 : decode cX0_readTeller 38 = .ok (.invokevirtual 110, 3) := by decide +kernel
theorem dX0_readTeller_41 : decode cX0_readTeller 41 = .ok (.putfield 132, 3) := by decide +kernel
theorem dX0_readTeller_44 : decode cX0_readTeller 44 = .ok (.aload_n 0, 1) := by decide +kernel
theorem dX0_readTeller_45 : decode cX0_readTeller 45 = .ok (.aload_n 1, 1) := by decide +kernel
theorem dX0_readTeller_46 : decode cX0_readTeller 46 = .ok (.getfield 117, 3) := by decide +kernel
theorem dX0_readTeller_49 : decode cX0_readTeller 49 = .ok (.putfield 135, 3) := by decide +kernel
theorem dX0_readTeller_52 : decode cX0_readTeller 52 = .ok (.goto 18, 3) := by decide +kernel
theorem dX0_readTeller_55 : decode cX0_readTeller 55 = .ok (.aload_n 1, 1) := by decide +kernel
theorem dX0_readTeller_56 : decode cX0_readTeller 56 = .ok (.sipush 162, 3) := by decide +kernel
theorem dX0_readTeller_59 : decode cX0_readTeller 59 = .ok (.invokevirtual 53, 3) := by decide +kernel
theorem dX0_readTeller_62 : decode cX0_readTeller 62 = .ok (.aload_n 0, 1) := by decide +kernel
theorem dX0_readTeller_63 : decode cX0_readTeller 63 = .ok (.aload_n 1, 1) := by decide +kernel
theorem dX0_readTeller_64 : decode cX0_readTeller 64 = .ok (.invokevirtual 138, 3) := by decide +kernel
theorem dX0_readTeller_67 : decode cX0_readTeller 67 = .ok (.putfield 141, 3) := by decide +kernel
theorem dX0_readTeller_70 : decode cX0_readTeller 70 = .ok (.aload_n 1, 1) := by decide +kernel
theorem dX0_readTeller_71 : decode cX0_readTeller 71 = .ok (.invokevirtual 92, 3) := by decide +kernel
theorem dX0_readTeller_74 : decode cX0_readTeller 74 = .ok (.return_, 1) := by decide +kernel
theorem dX0_readSingle_0 : decode cX0_readSingle 0 = .ok (.iload_n 2, 1) := by decide +kernel
theorem dX0_readSingle_1 : decode cX0_readSingle 1 = .ok (.ifCond .lt 9, 3) := by decide +kernel
theorem dX0_readSingle_4 : decode cX0_readSingle 4 = .ok (.iload_n 2, 1) := by decide +kernel
theorem dX0_readSingle_5 : decode cX0_readSingle 5 = .ok (.bipush 8, 2) := by decide +kernel
theorem dX0_readSingle_7 : decode cX0_readSingle 7 = .ok (.if_icmp .lt 4, 3) := by decide +kernel
theorem dX0_readSingle_10 : decode cX0_readSingle 10 = .ok (.return_, 1) := by decide +kernel
theorem dX0_readSingle_11 : decode cX0_readSingle 11 = .ok (.aload_n 1, 1) := by decide +kernel
theorem dX0_readSingle_12 : decode cX0_readSingle 12 = .ok (.bipush 48, 2) := by decide +kernel
theorem dX0_readSingle_14 : decode cX0_readSingle 14 = .ok (.invokevirtual 53, 3) := by decide +kernel
theorem dX0_readSingle_17 : decode cX0_readSingle 17 = .ok (.aload_n 0, 1) := by decide +kernel
theorem dX0_readSingle_18 : decode cX0_readSingle 18 = .ok (.getfield 12, 3) := by decide +kernel
theorem dX0_readSingle_21 : decode cX0_readSingle 21 = .ok (.aload_n 1, 1) := by decide +kernel
theorem dX0_readSingle_22 : decode cX0_readSingle 22 = .ok (.invokevirtual 144, 3) := by decide +kernel
theorem dX0_readSingle_25 : decode cX0_readSingle 25 = .ok (.aload_n 0, 1) := by decide +kernel
theorem dX0_readSingle_26 : decode cX0_readSingle 26 = .ok (.aload_n 1, 1) := by decide +kernel
theorem dX0_readSingle_27 : decode cX0_readSingle 27 = .ok (.iload_n 2, 1) := by decide +kernel
theorem dX0_readSingle_28 : decode cX0_readSingle 28 = .ok (.invokevirtual 145, 3) := by decide +kernel
theorem dX0_readSingle_31 : decode cX0_readSingle 31 = .ok (.aload_n 0, 1) := by decide +kernel
theorem dX0_readSingle_32 : decode cX0_readSingle 32 = .ok (.getfield 29, 3) := by decide +kernel
theorem dX0_readSingle_35 : decode cX0_readSingle 35 = .ok (.iload_n 2, 1) := by decide +kernel
theorem dX0_readSingle_36 : decode cX0_readSingle 36 = .ok (.aload_n 1, 1) := by decide +kernel
theorem dX0_readSingle_37 : decode cX0_readSingle 37 = .ok (.invokevirtual 107, 3) := by decide +kernel
theorem dX0_readSingle_40 : decode cX0_readSingle 40 = .ok (.lastore, 1) := by decide +kernel
theorem dX0_readSingle_41 : decode cX0_readSingle 41 = .ok (.aload_n 0, 1) := by decide +kernel
theorem dX0_readSingle_42 : decode cX0_readSingle 42 = .ok (.getfield 32, 3) := by decide +kernel
theorem dX0_readSingle_45 : decode cX0_readSingle 45 = .ok (.iload_n 2, 1) := by decide +kernel
theorem dX0_readSingle_46 : decode cX0_readSingle 46 = .ok (.ldc2_w 148, 3) := by decide +kernel
theorem dX0_readSingle_49 : decode cX0_readSingle 49 = .ok (.lastore, 1) := by decide +kernel
theorem dX0_readSingle_50 : decode cX0_readSingle 50 = .ok (.aload_n 1, 1) := by decide +kernel
theorem dX0_readSingle_51 : decode cX0_readSingle 51 = .ok (.invokevirtual 70, 3) := by decide +kernel
theorem dX0_readSingle_54 : decode cX0_readSingle 54 = .ok (.ifCond .eq 24, 3) := by decide +kernel
theorem dX0_readSingle_57 : decode cX0_readSingle 57 = .ok (.aload_n 1, 1) := by decide +kernel
theorem dX0_readSingle_58 : decode cX0_readSingle 58 = .ok (.sipush 160, 3) := by decide +kernel
theorem dX0_readSingle_61 : decode cX0_readSingle 61 = .ok (.invokevirtual 53, 3) := by decide +kernel
theorem dX0_readSingle_64 : decode cX0_readSingle 64 = .ok (.aload_n 0, 1) := by decide +kernel
theorem dX0_readSingle_65 : decode cX0_readSingle 65 = .ok (.getfield 32, 3) := by decide +kernel
theorem dX0_readSingle_68 : decode cX0_readSingle 68 = .ok (.iload_n 2, 1) := by decide +kernel
theorem dX0_readSingle_69 : decode cX0_readSingle 69 = .ok (.aload_n 1, 1) := by decide +kernel
theorem dX0_readSingle_70 : decode cX0_readSingle 70 = .ok (.invokevirtual 107, 3) := by decide +kernel
theorem dX0_readSingle_73 : decode cX0_readSingle 73 = .ok (.lastore, 1) := by decide +kernel
theorem dX0_readSingle_74 : decode cX0_readSingle 74 = .ok (.aload_n 1, 1) := by decide +kernel
theorem dX0_readSingle_75 : decode cX0_readSingle 75 = .ok (.invokevirtual 92, 3) := by decide +kernel
theorem dX0_readSingle_78 : decode cX0_readSingle 78 = .ok (.aload_n 1, 1) := by decide +kernel
theorem dX0_readSingle_79 : decode cX0_readSingle 79 = .ok (.invokevirtual 92, 3) := by decide +kernel
theorem dX0_readSingle_82 : decode cX0_readSingle 82 = .ok (.return_, 1) := by decide +kernel
theorem dX0_readState_0 : decode cX0_readState 0 = .ok (.iload_n 2, 1) := by decide +kernel
theorem dX0_readState_1 : decode cX0_readState 1 = .ok (.ifCond .lt 9, 3) := by decide +kernel
theorem dX0_readState_4 : decode cX0_readState 4 = .ok (.iload_n 2, 1) := by decide +kernel
theorem dX0_readState_5 : decode cX0_readState 5 = .ok (.bipush 8, 2) := by decide +kernel
theorem dX0_readState_7 : decode cX0_readState 7 = .ok (.if_icmp .lt 4, 3) := by decide +kernel
theorem dX0_readState_10 : decode cX0_readState 10 = .ok (.return_, 1) := by decide +kernel
theorem dX0_readState_11 : decode cX0_readState 11 = .ok (.aload_n 1, 1) := by decide +kernel
theorem dX0_readState_12 : decode cX0_readState 12 = .ok (.invokevirtual 126, 3) := by decide +kernel
theorem dX0_readState_15 : decode cX0_readState 15 = .ok (.istore_n 3, 1) := by decide +kernel
theorem dX0_readState_16 : decode cX0_readState 16 = .ok (.aload_n 0, 1) := by decide +kernel
theorem dX0_readState_17 : decode cX0_readState 17 = .ok (.getfield 22, 3) := by decide +kernel
theorem dX0_readState_20 : decode cX0_readState 20 = .ok (.iload_n 2, 1) := by decide +kernel
theorem dX0_readState_21 : decode cX0_readState 21 = .ok (.ldc2_w 148, 3) := by decide +kernel
theorem dX0_readState_24 : decode cX0_readState 24 = .ok (.lastore, 1) := by decide +kernel
theorem dX0_readState_25 : decode cX0_readState 25 = .ok (.aload_n 0, 1) := by decide +kernel
theorem dX0_readState_26 : decode cX0_readState 26 = .ok (.getfield 26, 3) := by decide +kernel
theorem dX0_readState_29 : decode cX0_readState 29 = .ok (.iload_n 2, 1) := by decide +kernel
theorem dX0_readState_30 : decode cX0_readState 30 = .ok (.iconst (-1), 1) := by decide +kernel
theorem dX0_readState_31 : decode cX0_readState 31 = .ok (.iastore, 1) := by decide +kernel
theorem dX0_readState_32 : decode cX0_readState 32 = .ok (.iload_n 3, 1) := by decide +kernel
theorem dX0_readState_33 : decode cX0_readState 33 = .ok (.sipush 161, 3) := by decide +kernel
theorem dX0_readState_36 : decode cX0_readState 36 = .ok (.if_icmp .ne 42, 3) := by decide +kernel
theorem dX0_readState_39 : decode cX0_readState 39 = .ok (.aload_n 0, 1) := by decide +kernel
theorem dX0_readState_40 : decode cX0_readState 40 = .ok (.getfield 18, 3) := by decide +kernel
theorem dX0_readState_43 : decode cX0_readState 43 = .ok (.iload_n 2, 1) := by decide +kernel
theorem dX0_readState_44 : decode cX0_readState 44 = .ok (.iconst 2, 1) := by decide +kernel
theorem dX0_readState_45 : decode cX0_readState 45 = .ok (.iastore, 1) := by decide +kernel
theorem dX0_readState_46 : decode cX0_readState 46 = .ok (.aload_n 1, 1) := by decide +kernel
theorem dX0_readState_47 : decode cX0_readState 47 = .ok (.iload_n 3, 1) := by decide +kernel
theorem dX0_readState_48 : decode cX0_readState 48 = .ok (.invokevirtual 53, 3) := by decide +kernel
theorem dX0_readState_51 : decode cX0_readState 51 = .ok (.aload_n 0, 1) := by decide +kernel
theorem dX0_readState_52 : decode cX0_readState 52 = .ok (.getfield 22, 3) := by decide +kernel
theorem dX0_readState_55 : decode cX0_readState 55 = .ok (.iload_n 2, 1) := by decide +kernel
theorem dX0_readState_56 : decode cX0_readState 56 = .ok (.aload_n 1, 1) := by decide +kernel
theorem dX0_readState_57 : decode cX0_readState 57 = .ok (.invokevirtual 107, 3) := by decide +kernel
theorem dX0_readState_60 : decode cX0_readState 60 = .ok (.lastore, 1) := by decide +kernel
theorem dX0_readState_61 : decode cX0_readState 61 = .ok (.aload_n 0, 1) := by decide +kernel
theorem dX0_readState_62 : decode cX0_readState 62 = .ok (.getfield 26, 3) := by decide +kernel
theorem dX0_readState_65 : decode cX0_readState 65 = .ok (.iload_n 2, 1) := by decide +kernel
theorem dX0_readState_66 : decode cX0_readState 66 = .ok (.aload_n 1, 1) := by decide +kernel
theorem dX0_readState_67 : decode cX0_readState 67 = .ok (.invokevirtual 59, 3) := by decide +kernel
theorem dX0_readState_70 : decode cX0_readState 70 = .ok (.iastore, 1) := by decide +kernel
theorem dX0_readState_71 : decode cX0_readState 71 = .ok (.aload_n 1, 1) := by decide +kernel
theorem dX0_readState_72 : decode cX0_readState 72 = .ok (.invokevirtual 92, 3) := by decide +kernel
theorem dX0_readState_75 : decode cX0_readState 75 = .ok (.goto 45, 3) := by decide +kernel
theorem dX0_readState_78 : decode cX0_readState 78 = .ok (.iload_n 3, 1) := by decide +kernel
theorem dX0_readState_79 : decode cX0_readState 79 = .ok (.sipush 130, 3) := by decide +kernel
theorem dX0_readState_82 : decode cX0_readState 82 = .ok (.if_icmp .ne 21, 3) := by decide +kernel
theorem dX0_readState_85 : decode cX0_readState 85 = .ok (.aload_n 0, 1) := by decide +kernel
theorem dX0_readState_86 : decode cX0_readState 86 = .ok (.getfield 18, 3) := by decide +kernel
theorem dX0_readState_89 : decode cX0_readState 89 = .ok (.iload_n 2, 1) := by decide +kernel
theorem dX0_readState_90 : decode cX0_readState 90 = .ok (.iconst 3, 1) := by decide +kernel
theorem dX0_readState_91 : decode cX0_readState 91 = .ok (.iastore, 1) := by decide +kernel
theorem dX0_readState_92 : decode cX0_readState 92 = .ok (.aload_n 1, 1) := by decide +kernel
theorem dX0_readState_93 : decode cX0_readState 93 = .ok (.iload_n 3, 1) := by decide +kernel
theorem dX0_readState_94 : decode cX0_readState 94 = .ok (.iconst 0, 1) := by decide +kernel
theorem dX0_readState_95 : decode cX0_readState 95 = .ok (.iconst 0, 1) := by decide +kernel
theorem dX0_readState_96 : decode cX0_readState 96 = .ok (.invokevirtual 150, 3) := by decide +kernel
theorem dX0_readState_99 : decode cX0_readState 99 = .ok (.pop, 1) := by decide +kernel
theorem dX0_readState_100 : decode cX0_readState 100 = .ok (.goto 20, 3) := by decide +kernel
theorem dX0_readState_103 : decode cX0_readState 103 = .ok (.aload_n 0, 1) := by decide +kernel
theorem dX0_readState_104 : decode cX0_readState 104 = .ok (.getfield 18, 3) := by decide +kernel
theorem dX0_readState_107 : decode cX0_readState 107 = .ok (.iload_n 2, 1) := by decide +kernel
theorem dX0_readState_108 : decode cX0_readState 108 = .ok (.iconst 1, 1) := by decide +kernel
theorem dX0_readState_109 : decode cX0_readState 109 = .ok (.iastore, 1) := by decide +kernel
theorem dX0_readState_110 : decode cX0_readState 110 = .ok (.aload_n 1, 1) := by decide +kernel
theorem dX0_readState_111 : decode cX0_readState 111 = .ok (.sipush 128, 3) := by decide +kernel
theorem dX0_readState_114 : decode cX0_readState 114 = .ok (.iconst 0, 1) := by decide +kernel
theorem dX0_readState_115 : decode cX0_readState 115 = .ok (.iconst 0, 1) := by decide +kernel
theorem dX0_readState_116 : decode cX0_readState 116 = .ok (.invokevirtual 150, 3) := by decide +kernel
theorem dX0_readState_119 : decode cX0_readState 119 = .ok (.pop, 1) := by decide +kernel
theorem dX0_readState_120 : decode cX0_readState 120 = .ok (.return_, 1) := by decide +kernel
theorem dX0_isToldBy_0 : decode cX0_isToldBy 0 = .ok (.aload_n 0, 1) := by decide +kernel
theorem dX0_isToldBy_1 : decode cX0_isToldBy 1 = .ok (.getfield 129, 3) := by decide +kernel
theorem dX0_isToldBy_4 : decode cX0_isToldBy 4 = .ok (.ifCond .eq 19, 3) := by decide +kernel
theorem dX0_isToldBy_7 : decode cX0_isToldBy 7 = .ok (.aload_n 2, 1) := by decide +kernel
theorem dX0_isToldBy_8 : decode cX0_isToldBy 8 = .ok (.aload_n 1, 1) := by decide +kernel
theorem dX0_isToldBy_9 : decode cX0_isToldBy 9 = .ok (.aload_n 0, 1) := by decide +kernel
theorem dX0_isToldBy_10 : decode cX0_isToldBy 10 = .ok (.getfield 132, 3) := by decide +kernel
theorem dX0_isToldBy_13 : decode cX0_isToldBy 13 = .ok (.aload_n 0, 1) := by decide +kernel
theorem dX0_isToldBy_14 : decode cX0_isToldBy 14 = .ok (.getfield 135, 3) := by decide +kernel
theorem dX0_isToldBy_17 : decode cX0_isToldBy 17 = .ok (.invokevirtual 154, 3) := by decide +kernel
theorem dX0_isToldBy_20 : decode cX0_isToldBy 20 = .ok (.goto 17, 3) := by decide +kernel
theorem dX0_isToldBy_23 : decode cX0_isToldBy 23 = .ok (.aload_n 0, 1) := by decide +kernel
theorem dX0_isToldBy_24 : decode cX0_isToldBy 24 = .ok (.getfield 141, 3) := by decide +kernel
theorem dX0_isToldBy_27 : decode cX0_isToldBy 27 = .ok (.lload_n 3, 1) := by decide +kernel
theorem dX0_isToldBy_28 : decode cX0_isToldBy 28 = .ok (.lcmp, 1) := by decide +kernel
theorem dX0_isToldBy_29 : decode cX0_isToldBy 29 = .ok (.ifCond .ne 7, 3) := by decide +kernel
theorem dX0_isToldBy_32 : decode cX0_isToldBy 32 = .ok (.iconst 1, 1) := by decide +kernel
theorem dX0_isToldBy_33 : decode cX0_isToldBy 33 = .ok (.goto 4, 3) := by decide +kernel
theorem dX0_isToldBy_36 : decode cX0_isToldBy 36 = .ok (.iconst 0, 1) := by decide +kernel
theorem dX0_isToldBy_37 : decode cX0_isToldBy 37 = .ok (.ireturn, 1) := by decide +kernel
theorem dX0_isToldByCert_0 : decode cX0_isToldByCert 0 = .ok (.aload_n 0, 1) := by decide +kernel
theorem dX0_isToldByCert_1 : decode cX0_isToldByCert 1 = .ok (.getfield 129, 3) := by decide +kernel
theorem dX0_isToldByCert_4 : decode cX0_isToldByCert 4 = .ok (.ifCond .ne 27, 3) := by decide +kernel
theorem dX0_isToldByCert_7 : decode cX0_isToldByCert 7 = .ok (.aload_n 0, 1) := by decide +kernel
theorem dX0_isToldByCert_8 : decode cX0_isToldByCert 8 = .ok (.getfield 141, 3) := by decide +kernel
theorem dX0_isToldByCert_11 : decode cX0_isToldByCert 11 = .ok (.aload_n 0, 1) := by decide +kernel
theorem dX0_isToldByCert_12 : decode cX0_isToldByCert 12 = .ok (.getfield 38, 3) := by decide +kernel
theorem dX0_isToldByCert_15 : decode cX0_isToldByCert 15 = .ok (.getfield 160, 3) := by decide +kernel
theorem dX0_isToldByCert_18 : decode cX0_isToldByCert 18 = .ok (.invokestatic 163, 3) := by decide +kernel
theorem dX0_isToldByCert_21 : decode cX0_isToldByCert 21 = .ok (.lcmp, 1) := by decide +kernel
theorem dX0_isToldByCert_22 : decode cX0_isToldByCert 22 = .ok (.ifCond .ne 7, 3) := by decide +kernel
theorem dX0_isToldByCert_25 : decode cX0_isToldByCert 25 = .ok (.iconst 1, 1) := by decide +kernel
theorem dX0_isToldByCert_26 : decode cX0_isToldByCert 26 = .ok (.goto 4, 3) := by decide +kernel
theorem dX0_isToldByCert_29 : decode cX0_isToldByCert 29 = .ok (.iconst 0, 1) := by decide +kernel
theorem dX0_isToldByCert_30 : decode cX0_isToldByCert 30 = .ok (.ireturn, 1) := by decide +kernel
theorem dX0_isToldByCert_31 : decode cX0_isToldByCert 31 = .ok (.aload_n 0, 1) := by decide +kernel
theorem dX0_isToldByCert_32 : decode cX0_isToldByCert 32 = .ok (.getfield 135, 3) := by decide +kernel
theorem dX0_isToldByCert_35 : decode cX0_isToldByCert 35 = .ok (.aload_n 0, 1) := by decide +kernel
theorem dX0_isToldByCert_36 : decode cX0_isToldByCert 36 = .ok (.getfield 38, 3) := by decide +kernel
theorem dX0_isToldByCert_39 : decode cX0_isToldByCert 39 = .ok (.getfield 169, 3) := by decide +kernel
theorem dX0_isToldByCert_42 : decode cX0_isToldByCert 42 = .ok (.if_icmp .ne 7, 3) := by decide +kernel
theorem dX0_isToldByCert_45 : decode cX0_isToldByCert 45 = .ok (.iconst 1, 1) := by decide +kernel
theorem dX0_isToldByCert_46 : decode cX0_isToldByCert 46 = .ok (.goto 4, 3) := by decide +kernel
theorem dX0_isToldByCert_49 : decode cX0_isToldByCert 49 = .ok (.iconst 0, 1) := by decide +kernel
theorem dX0_isToldByCert_50 : decode cX0_isToldByCert 50 = .ok (.istore_n 2, 1) := by decide +kernel
theorem dX0_isToldByCert_51 : decode cX0_isToldByCert 51 = .ok (.iconst 0, 1) := by decide +kernel
theorem dX0_isToldByCert_52 : decode cX0_isToldByCert 52 = .ok (.istore_n 3, 1) := by decide +kernel
theorem dX0_isToldByCert_53 : decode cX0_isToldByCert 53 = .ok (.iload_n 2, 1) := by decide +kernel
theorem dX0_isToldByCert_54 : decode cX0_isToldByCert 54 = .ok (.ifCond .eq 49, 3) := by decide +kernel
theorem dX0_isToldByCert_57 : decode cX0_isToldByCert 57 = .ok (.iload_n 3, 1) := by decide +kernel
theorem dX0_isToldByCert_58 : decode cX0_isToldByCert 58 = .ok (.aload_n 0, 1) := by decide +kernel
theorem dX0_isToldByCert_59 : decode cX0_isToldByCert 59 = .ok (.getfield 135, 3) := by decide +kernel
theorem dX0_isToldByCert_62 : decode cX0_isToldByCert 62 = .ok (.if_icmp .ge 41, 3) := by decide +kernel
theorem dX0_isToldByCert_65 : decode cX0_isToldByCert 65 = .ok (.aload_n 1, 1) := by decide +kernel
theorem dX0_isToldByCert_66 : decode cX0_isToldByCert 66 = .ok (.aload_n 0, 1) := by decide +kernel
theorem dX0_isToldByCert_67 : decode cX0_isToldByCert 67 = .ok (.getfield 132, 3) := by decide +kernel
theorem dX0_isToldByCert_70 : decode cX0_isToldByCert 70 = .ok (.iload_n 3, 1) := by decide +kernel
theorem dX0_isToldByCert_71 : decode cX0_isToldByCert 71 = .ok (.iadd, 1) := by decide +kernel
theorem dX0_isToldByCert_72 : decode cX0_isToldByCert 72 = .ok (.invokevirtual 172, 3) := by decide +kernel
theorem dX0_isToldByCert_75 : decode cX0_isToldByCert 75 = .ok (.aload_n 1, 1) := by decide +kernel
theorem dX0_isToldByCert_76 : decode cX0_isToldByCert 76 = .ok (.aload_n 0, 1) := by decide +kernel
theorem dX0_isToldByCert_77 : decode cX0_isToldByCert 77 = .ok (.getfield 38, 3) := by decide +kernel
theorem dX0_isToldByCert_80 : decode cX0_isToldByCert 80 = .ok (.getfield 176, 3) := by decide +kernel
theorem dX0_isToldByCert_83 : decode cX0_isToldByCert 83 = .ok (.iload_n 3, 1) := by decide +kernel
theorem dX0_isToldByCert_84 : decode cX0_isToldByCert 84 = .ok (.iadd, 1) := by decide +kernel
theorem dX0_isToldByCert_85 : decode cX0_isToldByCert 85 = .ok (.invokevirtual 172, 3) := by decide +kernel
theorem dX0_isToldByCert_88 : decode cX0_isToldByCert 88 = .ok (.if_icmp .ne 7, 3) := by decide +kernel
theorem dX0_isToldByCert_91 : decode cX0_isToldByCert 91 = .ok (.iconst 1, 1) := by decide +kernel
theorem dX0_isToldByCert_92 : decode cX0_isToldByCert 92 = .ok (.goto 4, 3) := by decide +kernel
theorem dX0_isToldByCert_95 : decode cX0_isToldByCert 95 = .ok (.iconst 0, 1) := by decide +kernel
theorem dX0_isToldByCert_96 : decode cX0_isToldByCert 96 = .ok (.istore_n 2, 1) := by decide +kernel
theorem dX0_isToldByCert_97 : decode cX0_isToldByCert 97 = .ok (.iinc 3 1, 3) := by decide +kernel
theorem dX0_isToldByCert_100 : decode cX0_isToldByCert 100 = .ok (.goto (-47), 3) := by decide +kernel
theorem dX0_isToldByCert_103 : decode cX0_isToldByCert 103 = .ok (.iload_n 2, 1) := by decide +kernel
theorem dX0_isToldByCert_104 : decode cX0_isToldByCert 104 = .ok (.ireturn, 1) := by decide +kernel
theorem dX0_verdictOnSingle_0 : decode cX0_verdictOnSingle 0 = .ok (.iload_n 1, 1) := by decide +kernel
theorem dX0_verdictOnSingle_1 : decode cX0_verdictOnSingle 1 = .ok (.ifCond .lt 14, 3) := by decide +kernel
theorem dX0_verdictOnSingle_4 : decode cX0_verdictOnSingle 4 = .ok (.iload_n 1, 1) := by decide +kernel
theorem dX0_verdictOnSingle_5 : decode cX0_verdictOnSingle 5 = .ok (.aload_n 0, 1) := by decide +kernel
theorem dX0_verdictOnSingle_6 : decode cX0_verdictOnSingle 6 = .ok (.getfield 12, 3) := by decide +kernel
theorem dX0_verdictOnSingle_9 : decode cX0_verdictOnSingle 9 = .ok (.getfield 42, 3) := by decide +kernel
theorem dX0_verdictOnSingle_12 : decode cX0_verdictOnSingle 12 = .ok (.if_icmp .lt 6, 3) := by decide +kernel
theorem dX0_verdictOnSingle_15 : decode cX0_verdictOnSingle 15 = .ok (.bipush 30, 2) := by decide +kernel
theorem dX0_verdictOnSingle_17 : decode cX0_verdictOnSingle 17 = .ok (.ireturn, 1) := by decide +kernel
theorem dX0_verdictOnSingle_18 : decode cX0_verdictOnSingle 18 = .ok (.aload_n 0, 1) := by decide +kernel
theorem dX0_verdictOnSingle_19 : decode cX0_verdictOnSingle 19 = .ok (.getfield 29, 3) := by decide +kernel
theorem dX0_verdictOnSingle_22 : decode cX0_verdictOnSingle 22 = .ok (.iload_n 1, 1) := by decide +kernel
theorem dX0_verdictOnSingle_23 : decode cX0_verdictOnSingle 23 = .ok (.laload, 1) := by decide +kernel
theorem dX0_verdictOnSingle_24 : decode cX0_verdictOnSingle 24 = .ok (.lload_n 2, 1) := by decide +kernel
theorem dX0_verdictOnSingle_25 : decode cX0_verdictOnSingle 25 = .ok (.iload 4, 2) := by decide +kernel
theorem dX0_verdictOnSingle_27 : decode cX0_verdictOnSingle 27 = .ok (.i2l, 1) := by decide +kernel
theorem dX0_verdictOnSingle_28 : decode cX0_verdictOnSingle 28 = .ok (.ladd, 1) := by decide +kernel
theorem dX0_verdictOnSingle_29 : decode cX0_verdictOnSingle 29 = .ok (.lcmp, 1) := by decide +kernel
theorem dX0_verdictOnSingle_30 : decode cX0_verdictOnSingle 30 = .ok (.ifCond .le 6, 3) := by decide +kernel
theorem dX0_verdictOnSingle_33 : decode cX0_verdictOnSingle 33 = .ok (.bipush 31, 2) := by decide +kernel
theorem dX0_verdictOnSingle_35 : decode cX0_verdictOnSingle 35 = .ok (.ireturn, 1) := by decide +kernel
theorem dX0_verdictOnSingle_36 : decode cX0_verdictOnSingle 36 = .ok (.aload_n 0, 1) := by decide +kernel
theorem dX0_verdictOnSingle_37 : decode cX0_verdictOnSingle 37 = .ok (.getfield 32, 3) := by decide +kernel
theorem dX0_verdictOnSingle_40 : decode cX0_verdictOnSingle 40 = .ok (.iload_n 1, 1) := by decide +kernel
theorem dX0_verdictOnSingle_41 : decode cX0_verdictOnSingle 41 = .ok (.laload, 1) := by decide +kernel
theorem dX0_verdictOnSingle_42 : decode cX0_verdictOnSingle 42 = .ok (.ldc2_w 148, 3) := by decide +kernel
theorem dX0_verdictOnSingle_45 : decode cX0_verdictOnSingle 45 = .ok (.lcmp, 1) := by decide +kernel
theorem dX0_verdictOnSingle_46 : decode cX0_verdictOnSingle 46 = .ok (.ifCond .ne 30, 3) := by decide +kernel
theorem dX0_verdictOnSingle_49 : decode cX0_verdictOnSingle 49 = .ok (.aload_n 0, 1) := by decide +kernel
theorem dX0_verdictOnSingle_50 : decode cX0_verdictOnSingle 50 = .ok (.getfield 29, 3) := by decide +kernel
theorem dX0_verdictOnSingle_53 : decode cX0_verdictOnSingle 53 = .ok (.iload_n 1, 1) := by decide +kernel
theorem dX0_verdictOnSingle_54 : decode cX0_verdictOnSingle 54 = .ok (.laload, 1) := by decide +kernel
theorem dX0_verdictOnSingle_55 : decode cX0_verdictOnSingle 55 = .ok (.lload_n 2, 1) := by decide +kernel
theorem dX0_verdictOnSingle_56 : decode cX0_verdictOnSingle 56 = .ok (.iload 5, 2) := by decide +kernel
theorem dX0_verdictOnSingle_58 : decode cX0_verdictOnSingle 58 = .ok (.i2l, 1) := by decide +kernel
theorem dX0_verdictOnSingle_59 : decode cX0_verdictOnSingle 59 = .ok (.lsub, 1) := by decide +kernel
theorem dX0_verdictOnSingle_60 : decode cX0_verdictOnSingle 60 = .ok (.lcmp, 1) := by decide +kernel
theorem dX0_verdictOnSingle_61 : decode cX0_verdictOnSingle 61 = .ok (.ifCond .ge 8, 3) := by decide +kernel
theorem dX0_verdictOnSingle_64 : decode cX0_verdictOnSingle 64 = .ok (.bipush 33, 2) := by decide +kernel
theorem dX0_verdictOnSingle_66 : decode cX0_verdictOnSingle 66 = .ok (.goto 9, 3) := by decide +kernel
theorem dX0_verdictOnSingle_69 : decode cX0_verdictOnSingle 69 = .ok (.aload_n 0, 1) := by decide +kernel
theorem dX0_verdictOnSingle_70 : decode cX0_verdictOnSingle 70 = .ok (.getfield 18, 3) := by decide +kernel
theorem dX0_verdictOnSingle_73 : decode cX0_verdictOnSingle 73 = .ok (.iload_n 1, 1) := by decide +kernel
theorem dX0_verdictOnSingle_74 : decode cX0_verdictOnSingle 74 = .ok (.iaload, 1) := by decide +kernel
theorem dX0_verdictOnSingle_75 : decode cX0_verdictOnSingle 75 = .ok (.ireturn, 1) := by decide +kernel
theorem dX0_verdictOnSingle_76 : decode cX0_verdictOnSingle 76 = .ok (.aload_n 0, 1) := by decide +kernel
theorem dX0_verdictOnSingle_77 : decode cX0_verdictOnSingle 77 = .ok (.getfield 32, 3) := by decide +kernel
theorem dX0_verdictOnSingle_80 : decode cX0_verdictOnSingle 80 = .ok (.iload_n 1, 1) := by decide +kernel
theorem dX0_verdictOnSingle_81 : decode cX0_verdictOnSingle 81 = .ok (.laload, 1) := by decide +kernel
theorem dX0_verdictOnSingle_82 : decode cX0_verdictOnSingle 82 = .ok (.lload_n 2, 1) := by decide +kernel
theorem dX0_verdictOnSingle_83 : decode cX0_verdictOnSingle 83 = .ok (.iload 4, 2) := by decide +kernel
theorem dX0_verdictOnSingle_85 : decode cX0_verdictOnSingle 85 = .ok (.i2l, 1) := by decide +kernel
theorem dX0_verdictOnSingle_86 : decode cX0_verdictOnSingle 86 = .ok (.lsub, 1) := by decide +kernel
theorem dX0_verdictOnSingle_87 : decode cX0_verdictOnSingle 87 = .ok (.lcmp, 1) := by decide +kernel
theorem dX0_verdictOnSingle_88 : decode cX0_verdictOnSingle 88 = .ok (.ifCond .lt 19, 3) := by decide +kernel
theorem dX0_verdictOnSingle_91 : decode cX0_verdictOnSingle 91 = .ok (.aload_n 0, 1) := by decide +kernel
theorem dX0_verdictOnSingle_92 : decode cX0_verdictOnSingle 92 = .ok (.getfield 32, 3) := by decide +kernel
theorem dX0_verdictOnSingle_95 : decode cX0_verdictOnSingle 95 = .ok (.iload_n 1, 1) := by decide +kernel
theorem dX0_verdictOnSingle_96 : decode cX0_verdictOnSingle 96 = .ok (.laload, 1) := by decide +kernel
theorem dX0_verdictOnSingle_97 : decode cX0_verdictOnSingle 97 = .ok (.aload_n 0, 1) := by decide +kernel
theorem dX0_verdictOnSingle_98 : decode cX0_verdictOnSingle 98 = .ok (.getfield 29, 3) := by decide +kernel
theorem dX0_verdictOnSingle_101 : decode cX0_verdictOnSingle 101 = .ok (.iload_n 1, 1) := by decide +kernel
theorem dX0_verdictOnSingle_102 : decode cX0_verdictOnSingle 102 = .ok (.laload, 1) := by decide +kernel
theorem dX0_verdictOnSingle_103 : decode cX0_verdictOnSingle 103 = .ok (.lcmp, 1) := by decide +kernel
theorem dX0_verdictOnSingle_104 : decode cX0_verdictOnSingle 104 = .ok (.ifCond .ge 8, 3) := by decide +kernel
theorem dX0_verdictOnSingle_107 : decode cX0_verdictOnSingle 107 = .ok (.bipush 32, 2) := by decide +kernel
theorem dX0_verdictOnSingle_109 : decode cX0_verdictOnSingle 109 = .ok (.goto 9, 3) := by decide +kernel
theorem dX0_verdictOnSingle_112 : decode cX0_verdictOnSingle 112 = .ok (.aload_n 0, 1) := by decide +kernel
theorem dX0_verdictOnSingle_113 : decode cX0_verdictOnSingle 113 = .ok (.getfield 18, 3) := by decide +kernel
theorem dX0_verdictOnSingle_116 : decode cX0_verdictOnSingle 116 = .ok (.iload_n 1, 1) := by decide +kernel
theorem dX0_verdictOnSingle_117 : decode cX0_verdictOnSingle 117 = .ok (.iaload, 1) := by decide +kernel
theorem dX0_verdictOnSingle_118 : decode cX0_verdictOnSingle 118 = .ok (.ireturn, 1) := by decide +kernel
theorem dX1_init_0 : decode cX1_init 0 = .ok (.aload_n 0, 1) := by decide +kernel
theorem dX1_init_1 : decode cX1_init 1 = .ok (.invokespecial 3, 3) := by decide +kernel
theorem dX1_init_4 : decode cX1_init 4 = .ok (.aload_n 0, 1) := by decide +kernel
theorem dX1_init_5 : decode cX1_init 5 = .ok (.new 9, 3) := by decide +kernel
theorem dX1_init_8 : decode cX1_init 8 = .ok (.dup, 1) := by decide +kernel
theorem dX1_init_9 : decode cX1_init 9 = .ok (.invokespecial 11, 3) := by decide +kernel
theorem dX1_init_12 : decode cX1_init 12 = .ok (.putfield 12, 3) := by decide +kernel
theorem dX1_init_15 : decode cX1_init 15 = .ok (.return_, 1) := by decide +kernel
theorem dX1_read_0 : decode cX1_read 0 = .ok (.aload_n 0, 1) := by decide +kernel
theorem dX1_read_1 : decode cX1_read 1 = .ok (.getfield 12, 3) := by decide +kernel
theorem dX1_read_4 : decode cX1_read 4 = .ok (.iconst 0, 1) := by decide +kernel
theorem dX1_read_5 : decode cX1_read 5 = .ok (.putfield 18, 3) := by decide +kernel
theorem dX1_read_8 : decode cX1_read 8 = .ok (.aload_n 0, 1) := by decide +kernel
theorem dX1_read_9 : decode cX1_read 9 = .ok (.iconst 0, 1) := by decide +kernel
theorem dX1_read_10 : decode cX1_read 10 = .ok (.putfield 22, 3) := by decide +kernel
theorem dX1_read_13 : decode cX1_read 13 = .ok (.aload_n 1, 1) := by decide +kernel
theorem dX1_read_14 : decode cX1_read 14 = .ok (.bipush 48, 2) := by decide +kernel
theorem dX1_read_16 : decode cX1_read 16 = .ok (.invokevirtual 25, 3) := by decide +kernel
theorem dX1_read_19 : decode cX1_read 19 = .ok (.aload_n 1, 1) := by decide +kernel
theorem dX1_read_20 : decode cX1_read 20 = .ok (.bipush 48, 2) := by decide +kernel
theorem dX1_read_22 : decode cX1_read 22 = .ok (.invokevirtual 25, 3) := by decide +kernel
theorem dX1_read_25 : decode cX1_read 25 = .ok (.iconst 0, 1) := by decide +kernel
theorem dX1_read_26 : decode cX1_read 26 = .ok (.istore_n 2, 1) := by decide +kernel
theorem dX1_read_27 : decode cX1_read 27 = .ok (.iload_n 2, 1) := by decide +kernel
theorem dX1_read_28 : decode cX1_read 28 = .ok (.bipush 8, 2) := by decide +kernel
theorem dX1_read_30 : decode cX1_read 30 = .ok (.if_icmp .ge 28, 3) := by decide +kernel
theorem dX1_read_33 : decode cX1_read 33 = .ok (.iload_n 2, 1) := by decide +kernel
theorem dX1_read_34 : decode cX1_read 34 = .ok (.ifCond .eq 10, 3) := by decide +kernel
theorem dX1_read_37 : decode cX1_read 37 = .ok (.aload_n 1, 1) := by decide +kernel
theorem dX1_read_38 : decode cX1_read 38 = .ok (.invokevirtual 31, 3) := by decide +kernel
theorem dX1_read_41 : decode cX1_read 41 = .ok (.ifCond .eq 17, 3) := by decide +kernel
theorem dX1_read_44 : decode cX1_read 44 = .ok (.aload_n 0, 1) := by decide +kernel
theorem dX1_read_45 : decode cX1_read 45 = .ok (.getfield 12, 3) := by decide +kernel
theorem dX1_read_48 : decode cX1_read 48 = .ok (.aload_n 1, 1) := by decide +kernel
theorem dX1_read_49 : decode cX1_read 49 = .ok (.invokevirtual 35, 3) := by decide +kernel
theorem dX1_read_52 : decode cX1_read 52 = .ok (.iinc 2 1, 3) := by decide +kernel
theorem dX1_read_55 : decode cX1_read 55 = .ok (.goto (-28), 3) := by decide +kernel
theorem dX1_read_58 : decode cX1_read 58 = .ok (.aload_n 1, 1) := by decide +kernel
theorem dX1_read_59 : decode cX1_read 59 = .ok (.invokevirtual 39, 3) := by decide +kernel
theorem dX1_read_62 : decode cX1_read 62 = .ok (.aload_n 1, 1) := by decide +kernel
theorem dX1_read_63 : decode cX1_read 63 = .ok (.invokevirtual 31, 3) := by decide +kernel
theorem dX1_read_66 : decode cX1_read 66 = .ok (.ifCond .eq 33, 3) := by decide +kernel
theorem dX1_read_69 : decode cX1_read 69 = .ok (.aload_n 1, 1) := by decide +kernel
theorem dX1_read_70 : decode cX1_read 70 = .ok (.sipush 162, 3) := by decide +kernel
theorem dX1_read_73 : decode cX1_read 73 = .ok (.invokevirtual 25, 3) := by decide +kernel
theorem dX1_read_76 : decode cX1_read 76 = .ok (.aload_n 0, 1) := by decide +kernel
theorem dX1_read_77 : decode cX1_read 77 = .ok (.aload_n 1, 1) := by decide +kernel
theorem dX1_read_78 : decode cX1_read 78 = .ok (.iconst 1, 1) := by decide +kernel
theorem dX1_read_79 : decode cX1_read 79 = .ok (.bipush 16, 2) := by decide +kernel
theorem dX1_read_81 : decode cX1_read 81 = .ok (.invokevirtual 42, 3) := by decide +kernel
theorem dX1_read_84 : decode cX1_read 84 = .ok (.putfield 46, 3) := by decide +kernel
theorem dX1_read_87 : decode cX1_read 87 = .ok (.aload_n 0, 1) := by decide +kernel
theorem dX1_read_88 : decode cX1_read 88 = .ok (.aload_n 1, 1) := by decide +kernel
theorem dX1_read_89 : decode cX1_read 89 = .ok (.getfield 49, 3) := by decide +kernel
theorem dX1_read_92 : decode cX1_read 92 = .ok (.putfield 22, 3) := by decide +kernel
theorem dX1_read_95 : decode cX1_read 95 = .ok (.aload_n 1, 1) := by decide +kernel
theorem dX1_read_96 : decode cX1_read 96 = .ok (.invokevirtual 39, 3) := by decide +kernel
theorem dX1_read_99 : decode cX1_read 99 = .ok (.aload_n 1, 1) := by decide +kernel
theorem dX1_read_100 : decode cX1_read 100 = .ok (.invokevirtual 39, 3) := by decide +kernel
theorem dX1_read_103 : decode cX1_read 103 = .ok (.aload_n 1, 1) := by decide +kernel
theorem dX1_read_104 : decode cX1_read 104 = .ok (.invokevirtual 52, 3) := by decide +kernel
theorem dX1_read_107 : decode cX1_read 107 = .ok (.return_, 1) := by decide +kernel
theorem dX2_init_0 : decode cX2_init 0 = .ok (.aload_n 0, 1) := by decide +kernel
theorem dX2_init_1 : decode cX2_init 1 = .ok (.invokespecial 3, 3) := by decide +kernel
theorem dX2_init_4 : decode cX2_init 4 = .ok (.aload_n 0, 1) := by decide +kernel
theorem dX2_init_5 : decode cX2_init 5 = .ok (.new 9, 3) := by decide +kernel
theorem dX2_init_8 : decode cX2_init 8 = .ok (.dup, 1) := by decide +kernel
theorem dX2_init_9 : decode cX2_init 9 = .ok (.bipush 16, 2) := by decide +kernel
theorem dX2_init_11 : decode cX2_init 11 = .ok (.invokespecial 11, 3) := by decide +kernel
theorem dX2_init_14 : decode cX2_init 14 = .ok (.putfield 14, 3) := by decide +kernel
theorem dX2_init_17 : decode cX2_init 17 = .ok (.aload_n 0, 1) := by decide +kernel
theorem dX2_init_18 : decode cX2_init 18 = .ok (.bipush 32, 2) := by decide +kernel
theorem dX2_init_20 : decode cX2_init 20 = .ok (.newarray .int, 2) := by decide +kernel
theorem dX2_init_22 : decode cX2_init 22 = .ok (.putfield 20, 3) := by decide +kernel
theorem dX2_init_25 : decode cX2_init 25 = .ok (.aload_n 0, 1) := by decide +kernel
theorem dX2_init_26 : decode cX2_init 26 = .ok (.bipush 32, 2) := by decide +kernel
theorem dX2_init_28 : decode cX2_init 28 = .ok (.newarray .long, 2) := by decide +kernel
theorem dX2_init_30 : decode cX2_init 30 = .ok (.putfield 24, 3) := by decide +kernel
theorem dX2_init_33 : decode cX2_init 33 = .ok (.aload_n 0, 1) := by decide +kernel
theorem dX2_init_34 : decode cX2_init 34 = .ok (.bipush 32, 2) := by decide +kernel
theorem dX2_init_36 : decode cX2_init 36 = .ok (.newarray .int, 2) := by decide +kernel
theorem dX2_init_38 : decode cX2_init 38 = .ok (.putfield 28, 3) := by decide +kernel
theorem dX2_init_41 : decode cX2_init 41 = .ok (.return_, 1) := by decide +kernel
theorem dX2_begin_0 : decode cX2_begin 0 = .ok (.aload_n 0, 1) := by decide +kernel
theorem dX2_begin_1 : decode cX2_begin 1 = .ok (.getfield 14, 3) := by decide +kernel
theorem dX2_begin_4 : decode cX2_begin 4 = .ok (.aload_n 1, 1) := by decide +kernel
theorem dX2_begin_5 : decode cX2_begin 5 = .ok (.invokevirtual 31, 3) := by decide +kernel
theorem dX2_begin_8 : decode cX2_begin 8 = .ok (.aload_n 0, 1) := by decide +kernel
theorem dX2_begin_9 : decode cX2_begin 9 = .ok (.iload_n 2, 1) := by decide +kernel
theorem dX2_begin_10 : decode cX2_begin 10 = .ok (.putfield 35, 3) := by decide +kernel
theorem dX2_begin_13 : decode cX2_begin 13 = .ok (.aload_n 0, 1) := by decide +kernel
theorem dX2_begin_14 : decode cX2_begin 14 = .ok (.iload_n 2, 1) := by decide +kernel
theorem dX2_begin_15 : decode cX2_begin 15 = .ok (.invokestatic 39, 3) := by decide +kernel
theorem dX2_begin_18 : decode cX2_begin 18 = .ok (.putfield 45, 3) := by decide +kernel
theorem dX2_begin_21 : decode cX2_begin 21 = .ok (.aload_n 0, 1) := by decide +kernel
theorem dX2_begin_22 : decode cX2_begin 22 = .ok (.aload_n 0, 1) := by decide +kernel
theorem dX2_begin_23 : decode cX2_begin 23 = .ok (.getfield 14, 3) := by decide +kernel
theorem dX2_begin_26 : decode cX2_begin 26 = .ok (.iconst 0, 1) := by decide +kernel
theorem dX2_begin_27 : decode cX2_begin 27 = .ok (.aload_n 0, 1) := by decide +kernel
theorem dX2_begin_28 : decode cX2_begin 28 = .ok (.getfield 14, 3) := by decide +kernel
theorem dX2_begin_31 : decode cX2_begin 31 = .ok (.getfield 47, 3) := by decide +kernel
theorem dX2_begin_34 : decode cX2_begin 34 = .ok (.invokevirtual 50, 3) := by decide +kernel
theorem dX2_begin_37 : decode cX2_begin 37 = .ok (.putfield 54, 3) := by decide +kernel
theorem dX2_begin_40 : decode cX2_begin 40 = .ok (.aload_n 0, 1) := by decide +kernel
theorem dX2_begin_41 : decode cX2_begin 41 = .ok (.aload_n 0, 1) := by decide +kernel
theorem dX2_begin_42 : decode cX2_begin 42 = .ok (.getfield 45, 3) := by decide +kernel
theorem dX2_begin_45 : decode cX2_begin 45 = .ok (.i2l, 1) := by decide +kernel
theorem dX2_begin_46 : decode cX2_begin 46 = .ok (.invokestatic 58, 3) := by decide +kernel
theorem dX2_begin_49 : decode cX2_begin 49 = .ok (.putfield 62, 3) := by decide +kernel
theorem dX2_begin_52 : decode cX2_begin 52 = .ok (.return_, 1) := by decide +kernel
theorem dX2_hasRoomFor_0 : decode cX2_hasRoomFor 0 = .ok (.aload_n 0, 1) := by decide +kernel
theorem dX2_hasRoomFor_1 : decode cX2_hasRoomFor 1 = .ok (.getfield 65, 3) := by decide +kernel
theorem dX2_hasRoomFor_4 : decode cX2_hasRoomFor 4 = .ok (.bipush 32, 2) := by decide +kernel
theorem dX2_hasRoomFor_6 : decode cX2_hasRoomFor 6 = .ok (.if_icmp .lt 12, 3) := by decide +kernel
theorem dX2_hasRoomFor_9 : decode cX2_hasRoomFor 9 = .ok (.aload_n 0, 1) := by decide +kernel
theorem dX2_hasRoomFor_10 : decode cX2_hasRoomFor 10 = .ok (.iload_n 1, 1) := by decide +kernel
theorem dX2_hasRoomFor_11 : decode cX2_hasRoomFor 11 = .ok (.invokevirtual 68, 3) := by decide +kernel
theorem dX2_hasRoomFor_14 : decode cX2_hasRoomFor 14 = .ok (.iconst (-1), 1) := by decide +kernel
theorem dX2_hasRoomFor_15 : decode cX2_hasRoomFor 15 = .ok (.if_icmp .eq 7, 3) := by decide +kernel
theorem dX2_hasRoomFor_18 : decode cX2_hasRoomFor 18 = .ok (.iconst 1, 1) := by decide +kernel
theorem dX2_hasRoomFor_19 : decode cX2_hasRoomFor 19 = .ok (.goto 4, 3) := by decide +kernel
theorem dX2_hasRoomFor_22 : decode cX2_hasRoomFor 22 = .ok (.iconst 0, 1) := by decide +kernel
theorem dX2_hasRoomFor_23 : decode cX2_hasRoomFor 23 = .ok (.ireturn, 1) := by decide +kernel
theorem dX2_enlist_0 : decode cX2_enlist 0 = .ok (.aload_n 0, 1) := by decide +kernel
theorem dX2_enlist_1 : decode cX2_enlist 1 = .ok (.getfield 65, 3) := by decide +kernel
theorem dX2_enlist_4 : decode cX2_enlist 4 = .ok (.bipush 32, 2) := by decide +kernel
theorem dX2_enlist_6 : decode cX2_enlist 6 = .ok (.if_icmp .ge 44, 3) := by decide +kernel
theorem dX2_enlist_9 : decode cX2_enlist 9 = .ok (.aload_n 0, 1) := by decide +kernel
theorem dX2_enlist_10 : decode cX2_enlist 10 = .ok (.iload_n 1, 1) := by decide +kernel
theorem dX2_enlist_11 : decode cX2_enlist 11 = .ok (.invokevirtual 68, 3) := by decide +kernel
theorem dX2_enlist_14 : decode cX2_enlist 14 = .ok (.iconst (-1), 1) := by decide +kernel
theorem dX2_enlist_15 : decode cX2_enlist 15 = .ok (.if_icmp .ne 35, 3) := by decide +kernel
theorem dX2_enlist_18 : decode cX2_enlist 18 = .ok (.aload_n 0, 1) := by decide +kernel
theorem dX2_enlist_19 : decode cX2_enlist 19 = .ok (.getfield 20, 3) := by decide +kernel
theorem dX2_enlist_22 : decode cX2_enlist 22 = .ok (.aload_n 0, 1) := by decide +kernel
theorem dX2_enlist_23 : decode cX2_enlist 23 = .ok (.getfield 65, 3) := by decide +kernel
theorem dX2_enlist_26 : decode cX2_enlist 26 = .ok (.iload_n 1, 1) := by decide +kernel
theorem dX2_enlist_27 : decode cX2_enlist 27 = .ok (.iastore, 1) := by decide +kernel
theorem dX2_enlist_28 : decode cX2_enlist 28 = .ok (.aload_n 0, 1) := by decide +kernel
theorem dX2_enlist_29 : decode cX2_enlist 29 = .ok (.getfield 24, 3) := by decide +kernel
theorem dX2_enlist_32 : decode cX2_enlist 32 = .ok (.aload_n 0, 1) := by decide +kernel
theorem dX2_enlist_33 : decode cX2_enlist 33 = .ok (.getfield 65, 3) := by decide +kernel
theorem dX2_enlist_36 : decode cX2_enlist 36 = .ok (.ldc2_w 71, 3) := by decide +kernel
theorem dX2_enlist_39 : decode cX2_enlist 39 = .ok (.lastore, 1) := by decide +kernel
theorem dX2_enlist_40 : decode cX2_enlist 40 = .ok (.aload_n 0, 1) := by decide +kernel
theorem dX2_enlist_41 : decode cX2_enlist 41 = .ok (.dup, 1) := by decide +kernel
theorem dX2_enlist_42 : decode cX2_enlist 42 = .ok (.getfield 65, 3) := by decide +kernel
theorem dX2_enlist_45 : decode cX2_enlist 45 = .ok (.iconst 1, 1) := by decide +kernel
theorem dX2_enlist_46 : decode cX2_enlist 46 = .ok (.iadd, 1) := by decide +kernel
theorem dX2_enlist_47 : decode cX2_enlist 47 = .ok (.putfield 65, 3) := by decide +kernel
theorem dX2_enlist_50 : decode cX2_enlist 50 = .ok (.return_, 1) := by decide +kernel
theorem dX2_placeOf_0 : decode cX2_placeOf 0 = .ok (.iconst 0, 1) := by decide +kernel
theorem dX2_placeOf_1 : decode cX2_placeOf 1 = .ok (.istore_n 2, 1) := by decide +kernel
theorem dX2_placeOf_2 : decode cX2_placeOf 2 = .ok (.iload_n 2, 1) := by decide +kernel
theorem dX2_placeOf_3 : decode cX2_placeOf 3 = .ok (.aload_n 0, 1) := by decide +kernel
theorem dX2_placeOf_4 : decode cX2_placeOf 4 = .ok (.getfield 65, 3) := by decide +kernel
theorem dX2_placeOf_7 : decode cX2_placeOf 7 = .ok (.if_icmp .ge 21, 3) := by decide +kernel
theorem dX2_placeOf_10 : decode cX2_placeOf 10 = .ok (.aload_n 0, 1) := by decide +kernel
theorem dX2_placeOf_11 : decode cX2_placeOf 11 = .ok (.getfield 20, 3) := by decide +kernel
theorem dX2_placeOf_14 : decode cX2_placeOf 14 = .ok (.iload_n 2, 1) := by decide +kernel
theorem dX2_placeOf_15 : decode cX2_placeOf 15 = .ok (.iaload, 1) := by decide +kernel
theorem dX2_placeOf_16 : decode cX2_placeOf 16 = .ok (.iload_n 1, 1) := by decide +kernel
theorem dX2_placeOf_17 : decode cX2_placeOf 17 = .ok (.if_icmp .ne 5, 3) := by decide +kernel
theorem dX2_placeOf_20 : decode cX2_placeOf 20 = .ok (.iload_n 2, 1) := by decide +kernel
theorem dX2_placeOf_21 : decode cX2_placeOf 21 = .ok (.ireturn, 1) := by decide +kernel
theorem dX2_placeOf_22 : decode cX2_placeOf 22 = .ok (.iinc 2 1, 3) := by decide +kernel
theorem dX2_placeOf_25 : decode cX2_placeOf 25 = .ok (.goto (-23), 3) := by decide +kernel
theorem dX2_placeOf_28 : decode cX2_placeOf 28 = .ok (.iconst (-1), 1) := by decide +kernel
theorem dX2_placeOf_29 : decode cX2_placeOf 29 = .ok (.ireturn, 1) := by decide +kernel
theorem dX2_isTakenBack_0 : decode cX2_isTakenBack 0 = .ok (.iload_n 1, 1) := by decide +kernel
theorem dX2_isTakenBack_1 : decode cX2_isTakenBack 1 = .ok (.ifCond .lt 39, 3) := by decide +kernel
theorem dX2_isTakenBack_4 : decode cX2_isTakenBack 4 = .ok (.iload_n 1, 1) := by decide +kernel
theorem dX2_isTakenBack_5 : decode cX2_isTakenBack 5 = .ok (.aload_n 0, 1) := by decide +kernel
theorem dX2_isTakenBack_6 : decode cX2_isTakenBack 6 = .ok (.getfield 65, 3) := by decide +kernel
theorem dX2_isTakenBack_9 : decode cX2_isTakenBack 9 = .ok (.if_icmp .ge 31, 3) := by decide +kernel
theorem dX2_isTakenBack_12 : decode cX2_isTakenBack 12 = .ok (.aload_n 0, 1) := by decide +kernel
theorem dX2_isTakenBack_13 : decode cX2_isTakenBack 13 = .ok (.getfield 24, 3) := by decide +kernel
theorem dX2_isTakenBack_16 : decode cX2_isTakenBack 16 = .ok (.iload_n 1, 1) := by decide +kernel
theorem dX2_isTakenBack_17 : decode cX2_isTakenBack 17 = .ok (.laload, 1) := by decide +kernel
theorem dX2_isTakenBack_18 : decode cX2_isTakenBack 18 = .ok (.ldc2_w 71, 3) := by decide +kernel
theorem dX2_isTakenBack_21 : decode cX2_isTakenBack 21 = .ok (.lcmp, 1) := by decide +kernel
theorem dX2_isTakenBack_22 : decode cX2_isTakenBack 22 = .ok (.ifCond .eq 18, 3) := by decide +kernel
theorem dX2_isTakenBack_25 : decode cX2_isTakenBack 25 = .ok (.aload_n 0, 1) := by decide +kernel
theorem dX2_isTakenBack_26 : decode cX2_isTakenBack 26 = .ok (.getfield 24, 3) := by decide +kernel
theorem dX2_isTakenBack_29 : decode cX2_isTakenBack 29 = .ok (.iload_n 1, 1) := by decide +kernel
theorem dX2_isTakenBack_30 : decode cX2_isTakenBack 30 = .ok (.laload, 1) := by decide +kernel
theorem dX2_isTakenBack_31 : decode cX2_isTakenBack 31 = .ok (.lload_n 2, 1) := by decide +kernel
theorem dX2_isTakenBack_32 : decode cX2_isTakenBack 32 = .ok (.lcmp, 1) := by decide +kernel
theorem dX2_isTakenBack_33 : decode cX2_isTakenBack 33 = .ok (.ifCond .gt 7, 3) := by decide +kernel
theorem dX2_isTakenBack_36 : decode cX2_isTakenBack 36 = .ok (.iconst 1, 1) := by decide +kernel
theorem dX2_isTakenBack_37 : decode cX2_isTakenBack 37 = .ok (.goto 4, 3) := by decide +kernel
theorem dX2_isTakenBack_40 : decode cX2_isTakenBack 40 = .ok (.iconst 0, 1) := by decide +kernel
theorem dX2_isTakenBack_41 : decode cX2_isTakenBack 41 = .ok (.ireturn, 1) := by decide +kernel
theorem dX3_init_0 : decode cX3_init 0 = .ok (.aload_n 0, 1) := by decide +kernel
theorem dX3_init_1 : decode cX3_init 1 = .ok (.invokespecial 3, 3) := by decide +kernel
theorem dX3_init_4 : decode cX3_init 4 = .ok (.aload_n 0, 1) := by decide +kernel
theorem dX3_init_5 : decode cX3_init 5 = .ok (.iload_n 1, 1) := by decide +kernel
theorem dX3_init_6 : decode cX3_init 6 = .ok (.iconst 0, 1) := by decide +kernel
theorem dX3_init_7 : decode cX3_init 7 = .ok (.invokestatic 9, 3) := by decide +kernel
theorem dX3_init_10 : decode cX3_init 10 = .ok (.newarray .byte, 2) := by decide +kernel
theorem dX3_init_12 : decode cX3_init 12 = .ok (.putfield 15, 3) := by decide +kernel
theorem dX3_init_15 : decode cX3_init 15 = .ok (.return_, 1) := by decide +kernel
theorem dX3_clear_0 : decode cX3_clear 0 = .ok (.aload_n 0, 1) := by decide +kernel
theorem dX3_clear_1 : decode cX3_clear 1 = .ok (.iconst 0, 1) := by decide +kernel
theorem dX3_clear_2 : decode cX3_clear 2 = .ok (.putfield 21, 3) := by decide +kernel
theorem dX3_clear_5 : decode cX3_clear 5 = .ok (.return_, 1) := by decide +kernel
theorem dX3_byteAt_0 : decode cX3_byteAt 0 = .ok (.iload_n 1, 1) := by decide +kernel
theorem dX3_byteAt_1 : decode cX3_byteAt 1 = .ok (.ifCond .lt 24, 3) := by decide +kernel
theorem dX3_byteAt_4 : decode cX3_byteAt 4 = .ok (.iload_n 1, 1) := by decide +kernel
theorem dX3_byteAt_5 : decode cX3_byteAt 5 = .ok (.aload_n 0, 1) := by decide +kernel
theorem dX3_byteAt_6 : decode cX3_byteAt 6 = .ok (.getfield 21, 3) := by decide +kernel
theorem dX3_byteAt_9 : decode cX3_byteAt 9 = .ok (.if_icmp .ge 16, 3) := by decide +kernel
theorem dX3_byteAt_12 : decode cX3_byteAt 12 = .ok (.aload_n 0, 1) := by decide +kernel
theorem dX3_byteAt_13 : decode cX3_byteAt 13 = .ok (.getfield 15, 3) := by decide +kernel
theorem dX3_byteAt_16 : decode cX3_byteAt 16 = .ok (.iload_n 1, 1) := by decide +kernel
theorem dX3_byteAt_17 : decode cX3_byteAt 17 = .ok (.baload, 1) := by decide +kernel
theorem dX3_byteAt_18 : decode cX3_byteAt 18 = .ok (.sipush 255, 3) := by decide +kernel
theorem dX3_byteAt_21 : decode cX3_byteAt 21 = .ok (.iand, 1) := by decide +kernel
theorem dX3_byteAt_22 : decode cX3_byteAt 22 = .ok (.goto 4, 3) := by decide +kernel
theorem dX3_byteAt_25 : decode cX3_byteAt 25 = .ok (.iconst (-1), 1) := by decide +kernel
theorem dX3_byteAt_26 : decode cX3_byteAt 26 = .ok (.ireturn, 1) := by decide +kernel
theorem dX3_add_0 : decode cX3_add 0 = .ok (.aload_n 0, 1) := by decide +kernel
theorem dX3_add_1 : decode cX3_add 1 = .ok (.getfield 21, 3) := by decide +kernel
theorem dX3_add_4 : decode cX3_add 4 = .ok (.aload_n 0, 1) := by decide +kernel
theorem dX3_add_5 : decode cX3_add 5 = .ok (.getfield 15, 3) := by decide +kernel
theorem dX3_add_8 : decode cX3_add 8 = .ok (.arraylength, 1) := by decide +kernel
theorem dX3_add_9 : decode cX3_add 9 = .ok (.if_icmp .ge 24, 3) := by decide +kernel
theorem dX3_add_12 : decode cX3_add 12 = .ok (.aload_n 0, 1) := by decide +kernel
theorem dX3_add_13 : decode cX3_add 13 = .ok (.getfield 15, 3) := by decide +kernel
theorem dX3_add_16 : decode cX3_add 16 = .ok (.aload_n 0, 1) := by decide +kernel
theorem dX3_add_17 : decode cX3_add 17 = .ok (.getfield 21, 3) := by decide +kernel
theorem dX3_add_20 : decode cX3_add 20 = .ok (.iload_n 1, 1) := by decide +kernel
theorem dX3_add_21 : decode cX3_add 21 = .ok (.i2b, 1) := by decide +kernel
theorem dX3_add_22 : decode cX3_add 22 = .ok (.bastore, 1) := by decide +kernel
theorem dX3_add_23 : decode cX3_add 23 = .ok (.aload_n 0, 1) := by decide +kernel
theorem dX3_add_24 : decode cX3_add 24 = .ok (.dup, 1) := by decide +kernel
theorem dX3_add_25 : decode cX3_add 25 = .ok (.getfield 21, 3) := by decide +kernel
theorem dX3_add_28 : decode cX3_add 28 = .ok (.iconst 1, 1) := by decide +kernel
theorem dX3_add_29 : decode cX3_add 29 = .ok (.iadd, 1) := by decide +kernel
theorem dX3_add_30 : decode cX3_add 30 = .ok (.putfield 21, 3) := by decide +kernel
theorem dX3_add_33 : decode cX3_add 33 = .ok (.return_, 1) := by decide +kernel
theorem dX3_addAll_0 : decode cX3_addAll 0 = .ok (.iconst 0, 1) := by decide +kernel
theorem dX3_addAll_1 : decode cX3_addAll 1 = .ok (.istore 4, 2) := by decide +kernel
theorem dX3_addAll_3 : decode cX3_addAll 3 = .ok (.iload 4, 2) := by decide +kernel
theorem dX3_addAll_5 : decode cX3_addAll 5 = .ok (.iload_n 3, 1) := by decide +kernel
theorem dX3_addAll_6 : decode cX3_addAll 6 = .ok (.if_icmp .ge 21, 3) := by decide +kernel
theorem dX3_addAll_9 : decode cX3_addAll 9 = .ok (.aload_n 0, 1) := by decide +kernel
theorem dX3_addAll_10 : decode cX3_addAll 10 = .ok (.aload_n 1, 1) := by decide +kernel
theorem dX3_addAll_11 : decode cX3_addAll 11 = .ok (.iload_n 2, 1) := by decide +kernel
theorem dX3_addAll_12 : decode cX3_addAll 12 = .ok (.iload 4, 2) := by decide +kernel
theorem dX3_addAll_14 : decode cX3_addAll 14 = .ok (.iadd, 1) := by decide +kernel
theorem dX3_addAll_15 : decode cX3_addAll 15 = .ok (.invokevirtual 25, 3) := by decide +kernel
theorem dX3_addAll_18 : decode cX3_addAll 18 = .ok (.invokevirtual 29, 3) := by decide +kernel
theorem dX3_addAll_21 : decode cX3_addAll 21 = .ok (.iinc 4 1, 3) := by decide +kernel
theorem dX3_addAll_24 : decode cX3_addAll 24 = .ok (.goto (-21), 3) := by decide +kernel
theorem dX3_addAll_27 : decode cX3_addAll 27 = .ok (.return_, 1) := by decide +kernel
theorem dX3_copyOf_0 : decode cX3_copyOf 0 = .ok (.aload_n 0, 1) := by decide +kernel
theorem dX3_copyOf_1 : decode cX3_copyOf 1 = .ok (.invokevirtual 33, 3) := by decide +kernel
theorem dX3_copyOf_4 : decode cX3_copyOf 4 = .ok (.aload_n 0, 1) := by decide +kernel
theorem dX3_copyOf_5 : decode cX3_copyOf 5 = .ok (.aload_n 1, 1) := by decide +kernel
theorem dX3_copyOf_6 : decode cX3_copyOf 6 = .ok (.iconst 0, 1) := by decide +kernel
theorem dX3_copyOf_7 : decode cX3_copyOf 7 = .ok (.aload_n 1, 1) := by decide +kernel
theorem dX3_copyOf_8 : decode cX3_copyOf 8 = .ok (.getfield 21, 3) := by decide +kernel
theorem dX3_copyOf_11 : decode cX3_copyOf 11 = .ok (.invokevirtual 36, 3) := by decide +kernel
theorem dX3_copyOf_14 : decode cX3_copyOf 14 = .ok (.return_, 1) := by decide +kernel
theorem dX3_addLowestFirst_0 : decode cX3_addLowestFirst 0 = .ok (.iconst 0, 1) := by decide +kernel
theorem dX3_addLowestFirst_1 : decode cX3_addLowestFirst 1 = .ok (.istore 4, 2) := by decide +kernel
theorem dX3_addLowestFirst_3 : decode cX3_addLowestFirst 3 = .ok (.iload 4, 2) := by decide +kernel
theorem dX3_addLowestFirst_5 : decode cX3_addLowestFirst 5 = .ok (.iload_n 3, 1) := by decide +kernel
theorem dX3_addLowestFirst_6 : decode cX3_addLowestFirst 6 = .ok (.if_icmp .ge 21, 3) := by decide +kernel
theorem dX3_addLowestFirst_9 : decode cX3_addLowestFirst 9 = .ok (.aload_n 0, 1) := by decide +kernel
theorem dX3_addLowestFirst_10 : decode cX3_addLowestFirst 10 = .ok (.lload_n 1, 1) := by decide +kernel
theorem dX3_addLowestFirst_11 : decode cX3_addLowestFirst 11 = .ok (.bipush 8, 2) := by decide +kernel
theorem dX3_addLowestFirst_13 : decode cX3_addLowestFirst 13 = .ok (.iload 4, 2) := by decide +kernel
theorem dX3_addLowestFirst_15 : decode cX3_addLowestFirst 15 = .ok (.imul, 1) := by decide +kernel
theorem dX3_addLowestFirst_16 : decode cX3_addLowestFirst 16 = .ok (.lushr, 1) := by decide +kernel
theorem dX3_addLowestFirst_17 : decode cX3_addLowestFirst 17 = .ok (.l2i, 1) := by decide +kernel
theorem dX3_addLowestFirst_18 : decode cX3_addLowestFirst 18 = .ok (.invokevirtual 29, 3) := by decide +kernel
theorem dX3_addLowestFirst_21 : decode cX3_addLowestFirst 21 = .ok (.iinc 4 1, 3) := by decide +kernel
theorem dX3_addLowestFirst_24 : decode cX3_addLowestFirst 24 = .ok (.goto (-21), 3) := by decide +kernel
theorem dX3_addLowestFirst_27 : decode cX3_addLowestFirst 27 = .ok (.return_, 1) := by decide +kernel
theorem dX3_addHighestFirst_0 : decode cX3_addHighestFirst 0 = .ok (.iload_n 3, 1) := by decide +kernel
theorem dX3_addHighestFirst_1 : decode cX3_addHighestFirst 1 = .ok (.iconst 1, 1) := by decide +kernel
theorem dX3_addHighestFirst_2 : decode cX3_addHighestFirst 2 = .ok (.isub, 1) := by decide +kernel
theorem dX3_addHighestFirst_3 : decode cX3_addHighestFirst 3 = .ok (.istore 4, 2) := by decide +kernel
theorem dX3_addHighestFirst_5 : decode cX3_addHighestFirst 5 = .ok (.iload 4, 2) := by decide +kernel
theorem dX3_addHighestFirst_7 : decode cX3_addHighestFirst 7 = .ok (.ifCond .lt 21, 3) := by decide +kernel
theorem dX3_addHighestFirst_10 : decode cX3_addHighestFirst 10 = .ok (.aload_n 0, 1) := by decide +kernel
theorem dX3_addHighestFirst_11 : decode cX3_addHighestFirst 11 = .ok (.lload_n 1, 1) := by decide +kernel
theorem dX3_addHighestFirst_12 : decode cX3_addHighestFirst 12 = .ok (.bipush 8, 2) := by decide +kernel
theorem dX3_addHighestFirst_14 : decode cX3_addHighestFirst 14 = .ok (.iload 4, 2) := by decide +kernel
theorem dX3_addHighestFirst_16 : decode cX3_addHighestFirst 16 = .ok (.imul, 1) := by decide +kernel
theorem dX3_addHighestFirst_17 : decode cX3_addHighestFirst 17 = .ok (.lushr, 1) := by decide +kernel
theorem dX3_addHighestFirst_18 : decode cX3_addHighestFirst 18 = .ok (.l2i, 1) := by decide +kernel
theorem dX3_addHighestFirst_19 : decode cX3_addHighestFirst 19 = .ok (.invokevirtual 29, 3) := by decide +kernel
theorem dX3_addHighestFirst_22 : decode cX3_addHighestFirst 22 = .ok (.iinc 4 (-1), 3) := by decide +kernel
theorem dX3_addHighestFirst_25 : decode cX3_addHighestFirst 25 = .ok (.goto (-20), 3) := by decide +kernel
theorem dX3_addHighestFirst_28 : decode cX3_addHighestFirst 28 = .ok (.return_, 1) := by decide +kernel
theorem dX3_isSame_0 : decode cX3_isSame 0 = .ok (.iload_n 3, 1) := by decide +kernel
theorem dX3_isSame_1 : decode cX3_isSame 1 = .ok (.aload_n 0, 1) := by decide +kernel
theorem dX3_isSame_2 : decode cX3_isSame 2 = .ok (.getfield 21, 3) := by decide +kernel
theorem dX3_isSame_5 : decode cX3_isSame 5 = .ok (.if_icmp .eq 5, 3) := by decide +kernel
theorem dX3_isSame_8 : decode cX3_isSame 8 = .ok (.iconst 0, 1) := by decide +kernel
theorem dX3_isSame_9 : decode cX3_isSame 9 = .ok (.ireturn, 1) := by decide +kernel
theorem dX3_isSame_10 : decode cX3_isSame 10 = .ok (.iconst 0, 1) := by decide +kernel
theorem dX3_isSame_11 : decode cX3_isSame 11 = .ok (.istore 4, 2) := by decide +kernel
theorem dX3_isSame_13 : decode cX3_isSame 13 = .ok (.iload 4, 2) := by decide +kernel
theorem dX3_isSame_15 : decode cX3_isSame 15 = .ok (.aload_n 0, 1) := by decide +kernel
theorem dX3_isSame_16 : decode cX3_isSame 16 = .ok (.getfield 21, 3) := by decide +kernel
theorem dX3_isSame_19 : decode cX3_isSame 19 = .ok (.if_icmp .ge 28, 3) := by decide +kernel
theorem dX3_isSame_22 : decode cX3_isSame 22 = .ok (.aload_n 0, 1) := by decide +kernel
theorem dX3_isSame_23 : decode cX3_isSame 23 = .ok (.iload 4, 2) := by decide +kernel
theorem dX3_isSame_25 : decode cX3_isSame 25 = .ok (.invokevirtual 25, 3) := by decide +kernel
theorem dX3_isSame_28 : decode cX3_isSame 28 = .ok (.aload_n 1, 1) := by decide +kernel
theorem dX3_isSame_29 : decode cX3_isSame 29 = .ok (.iload_n 2, 1) := by decide +kernel
theorem dX3_isSame_30 : decode cX3_isSame 30 = .ok (.iload 4, 2) := by decide +kernel
theorem dX3_isSame_32 : decode cX3_isSame 32 = .ok (.iadd, 1) := by decide +kernel
theorem dX3_isSame_33 : decode cX3_isSame 33 = .ok (.invokevirtual 25, 3) := by decide +kernel
theorem dX3_isSame_36 : decode cX3_isSame 36 = .ok (.if_icmp .eq 5, 3) := by decide +kernel
theorem dX3_isSame_39 : decode cX3_isSame 39 = .ok (.iconst 0, 1) := by decide +kernel
theorem dX3_isSame_40 : decode cX3_isSame 40 = .ok (.ireturn, 1) := by decide +kernel
theorem dX3_isSame_41 : decode cX3_isSame 41 = .ok (.iinc 4 1, 3) := by decide +kernel
theorem dX3_isSame_44 : decode cX3_isSame 44 = .ok (.goto (-31), 3) := by decide +kernel
theorem dX3_isSame_47 : decode cX3_isSame 47 = .ok (.iconst 1, 1) := by decide +kernel
theorem dX3_isSame_48 : decode cX3_isSame 48 = .ok (.ireturn, 1) := by decide +kernel
theorem dX3_digest_0 : decode cX3_digest 0 = .ok (.ldc2_w 42, 3) := by decide +kernel
theorem dX3_digest_3 : decode cX3_digest 3 = .ok (.lstore_n 3, 1) := by decide +kernel
theorem dX3_digest_4 : decode cX3_digest 4 = .ok (.iload_n 1, 1) := by decide +kernel
theorem dX3_digest_5 : decode cX3_digest 5 = .ok (.istore 5, 2) := by decide +kernel
theorem dX3_digest_7 : decode cX3_digest 7 = .ok (.iload 5, 2) := by decide +kernel
theorem dX3_digest_9 : decode cX3_digest 9 = .ok (.iload_n 2, 1) := by decide +kernel
theorem dX3_digest_10 : decode cX3_digest 10 = .ok (.if_icmp .ge 20, 3) := by decide +kernel
theorem dX3_digest_13 : decode cX3_digest 13 = .ok (.lload_n 3, 1) := by decide +kernel
theorem dX3_digest_14 : decode cX3_digest 14 = .ok (.aload_n 0, 1) := by decide +kernel
theorem dX3_digest_15 : decode cX3_digest 15 = .ok (.iload 5, 2) := by decide +kernel
theorem dX3_digest_17 : decode cX3_digest 17 = .ok (.invokevirtual 25, 3) := by decide +kernel
theorem dX3_digest_20 : decode cX3_digest 20 = .ok (.invokestatic 44, 3) := by decide +kernel
theorem dX3_digest_23 : decode cX3_digest 23 = .ok (.lstore_n 3, 1) := by decide +kernel
theorem dX3_digest_24 : decode cX3_digest 24 = .ok (.iinc 5 1, 3) := by decide +kernel
theorem dX3_digest_27 : decode cX3_digest 27 = .ok (.goto (-20), 3) := by decide +kernel
theorem dX3_digest_30 : decode cX3_digest 30 = .ok (.lload_n 3, 1) := by decide +kernel
theorem dX3_digest_31 : decode cX3_digest 31 = .ok (.invokestatic 48, 3) := by decide +kernel
theorem dX3_digest_34 : decode cX3_digest 34 = .ok (.lreturn, 1) := by decide +kernel
theorem dX3_open_0 : decode cX3_open 0 = .ok (.aload_n 0, 1) := by decide +kernel
theorem dX3_open_1 : decode cX3_open 1 = .ok (.getfield 21, 3) := by decide +kernel
theorem dX3_open_4 : decode cX3_open 4 = .ok (.istore_n 2, 1) := by decide +kernel
theorem dX3_open_5 : decode cX3_open 5 = .ok (.aload_n 0, 1) := by decide +kernel
theorem dX3_open_6 : decode cX3_open 6 = .ok (.iload_n 1, 1) := by decide +kernel
theorem dX3_open_7 : decode cX3_open 7 = .ok (.invokevirtual 29, 3) := by decide +kernel
theorem dX3_open_10 : decode cX3_open 10 = .ok (.iload_n 2, 1) := by decide +kernel
theorem dX3_open_11 : decode cX3_open 11 = .ok (.ireturn, 1) := by decide +kernel
theorem dX3_close_0 : decode cX3_close 0 = .ok (.aload_n 0, 1) := by decide +kernel
theorem dX3_close_1 : decode cX3_close 1 = .ok (.getfield 21, 3) := by decide +kernel
theorem dX3_close_4 : decode cX3_close 4 = .ok (.iload_n 1, 1) := by decide +kernel
theorem dX3_close_5 : decode cX3_close 5 = .ok (.isub, 1) := by decide +kernel
theorem dX3_close_6 : decode cX3_close 6 = .ok (.iconst 1, 1) := by decide +kernel
theorem dX3_close_7 : decode cX3_close 7 = .ok (.isub, 1) := by decide +kernel
theorem dX3_close_8 : decode cX3_close 8 = .ok (.istore_n 2, 1) := by decide +kernel
theorem dX3_close_9 : decode cX3_close 9 = .ok (.iload_n 2, 1) := by decide +kernel
theorem dX3_close_10 : decode cX3_close 10 = .ok (.sipush 128, 3) := by decide +kernel
theorem dX3_close_13 : decode cX3_close 13 = .ok (.if_icmp .ge 7, 3) := by decide +kernel
theorem dX3_close_16 : decode cX3_close 16 = .ok (.iconst 1, 1) := by decide +kernel
theorem dX3_close_17 : decode cX3_close 17 = .ok (.goto 15, 3) := by decide +kernel
theorem dX3_close_20 : decode cX3_close 20 = .ok (.iload_n 2, 1) := by decide +kernel
theorem dX3_close_21 : decode cX3_close 21 = .ok (.sipush 256, 3) := by decide +kernel
theorem dX3_close_24 : decode cX3_close 24 = .ok (.if_icmp .ge 7, 3) := by decide +kernel
theorem dX3_close_27 : decode cX3_close 27 = .ok (.iconst 2, 1) := by decide +kernel
theorem dX3_close_28 : decode cX3_close 28 = .ok (.goto 4, 3) := by decide +kernel
theorem dX3_close_31 : decode cX3_close 31 = .ok (.iconst 3, 1) := by decide +kernel
theorem dX3_close_32 : decode cX3_close 32 = .ok (.istore_n 3, 1) := by decide +kernel
theorem dX3_close_33 : decode cX3_close 33 = .ok (.iload_n 1, 1) := by decide +kernel
theorem dX3_close_34 : decode cX3_close 34 = .ok (.ifCond .lt 21, 3) := by decide +kernel
theorem dX3_close_37 : decode cX3_close 37 = .ok (.iload_n 2, 1) := by decide +kernel
theorem dX3_close_38 : decode cX3_close 38 = .ok (.ifCond .lt 17, 3) := by decide +kernel
theorem dX3_close_41 : decode cX3_close 41 = .ok (.aload_n 0, 1) := by decide +kernel
theorem dX3_close_42 : decode cX3_close 42 = .ok (.getfield 21, 3) := by decide +kernel
theorem dX3_close_45 : decode cX3_close 45 = .ok (.iload_n 3, 1) := by decide +kernel
theorem dX3_close_46 : decode cX3_close 46 = .ok (.iadd, 1) := by decide +kernel
theorem dX3_close_47 : decode cX3_close 47 = .ok (.aload_n 0, 1) := by decide +kernel
theorem dX3_close_48 : decode cX3_close 48 = .ok (.getfield 15, 3) := by decide +kernel
theorem dX3_close_51 : decode cX3_close 51 = .ok (.arraylength, 1) := by decide +kernel
theorem dX3_close_52 : decode cX3_close 52 = .ok (.if_icmp .le 4, 3) := by decide +kernel
theorem dX3_close_55 : decode cX3_close 55 = .ok (.return_, 1) := by decide +kernel
theorem dX3_close_56 : decode cX3_close 56 = .ok (.aload_n 0, 1) := by decide +kernel
theorem dX3_close_57 : decode cX3_close 57 = .ok (.getfield 21, 3) := by decide +kernel
theorem dX3_close_60 : decode cX3_close 60 = .ok (.iconst 1, 1) := by decide +kernel
theorem dX3_close_61 : decode cX3_close 61 = .ok (.isub, 1) := by decide +kernel
theorem dX3_close_62 : decode cX3_close 62 = .ok (.istore 4, 2) := by decide +kernel
theorem dX3_close_64 : decode cX3_close 64 = .ok (.iload 4, 2) := by decide +kernel
theorem dX3_close_66 : decode cX3_close 66 = .ok (.iload_n 1, 1) := by decide +kernel
theorem dX3_close_67 : decode cX3_close 67 = .ok (.if_icmp .le 25, 3) := by decide +kernel
theorem dX3_close_70 : decode cX3_close 70 = .ok (.aload_n 0, 1) := by decide +kernel
theorem dX3_close_71 : decode cX3_close 71 = .ok (.getfield 15, 3) := by decide +kernel
theorem dX3_close_74 : decode cX3_close 74 = .ok (.iload 4, 2) := by decide +kernel
theorem dX3_close_76 : decode cX3_close 76 = .ok (.iload_n 3, 1) := by decide +kernel
theorem dX3_close_77 : decode cX3_close 77 = .ok (.iadd, 1) := by decide +kernel
theorem dX3_close_78 : decode cX3_close 78 = .ok (.aload_n 0, 1) := by decide +kernel
theorem dX3_close_79 : decode cX3_close 79 = .ok (.getfield 15, 3) := by decide +kernel
theorem dX3_close_82 : decode cX3_close 82 = .ok (.iload 4, 2) := by decide +kernel
theorem dX3_close_84 : decode cX3_close 84 = .ok (.baload, 1) := by decide +kernel
theorem dX3_close_85 : decode cX3_close 85 = .ok (.bastore, 1) := by decide +kernel
theorem dX3_close_86 : decode cX3_close 86 = .ok (.iinc 4 (-1), 3) := by decide +kernel
theorem dX3_close_89 : decode cX3_close 89 = .ok (.goto (-25), 3) := by decide +kernel
theorem dX3_close_92 : decode cX3_close 92 = .ok (.aload_n 0, 1) := by decide +kernel
theorem dX3_close_93 : decode cX3_close 93 = .ok (.dup, 1) := by decide +kernel
theorem dX3_close_94 : decode cX3_close 94 = .ok (.getfield 21, 3) := by decide +kernel
theorem dX3_close_97 : decode cX3_close 97 = .ok (.iload_n 3, 1) := by decide +kernel
theorem dX3_close_98 : decode cX3_close 98 = .ok (.iadd, 1) := by decide +kernel
theorem dX3_close_99 : decode cX3_close 99 = .ok (.putfield 21, 3) := by decide +kernel
theorem dX3_close_102 : decode cX3_close 102 = .ok (.iload_n 3, 1) := by decide +kernel
theorem dX3_close_103 : decode cX3_close 103 = .ok (.iconst 1, 1) := by decide +kernel
theorem dX3_close_104 : decode cX3_close 104 = .ok (.if_icmp .le 16, 3) := by decide +kernel
theorem dX3_close_107 : decode cX3_close 107 = .ok (.aload_n 0, 1) := by decide +kernel
theorem dX3_close_108 : decode cX3_close 108 = .ok (.getfield 15, 3) := by decide +kernel
theorem dX3_close_111 : decode cX3_close 111 = .ok (.iload_n 1, 1) := by decide +kernel
theorem dX3_close_112 : decode cX3_close 112 = .ok (.iconst 1, 1) := by decide +kernel
theorem dX3_close_113 : decode cX3_close 113 = .ok (.iadd, 1) := by decide +kernel
theorem dX3_close_114 : decode cX3_close 114 = .ok (.bipush 127, 2) := by decide +kernel
theorem dX3_close_116 : decode cX3_close 116 = .ok (.iload_n 3, 1) := by decide +kernel
theorem dX3_close_117 : decode cX3_close 117 = .ok (.iadd, 1) := by decide +kernel
theorem dX3_close_118 : decode cX3_close 118 = .ok (.i2b, 1) := by decide +kernel
theorem dX3_close_119 : decode cX3_close 119 = .ok (.bastore, 1) := by decide +kernel
theorem dX3_close_120 : decode cX3_close 120 = .ok (.iload_n 3, 1) := by decide +kernel
theorem dX3_close_121 : decode cX3_close 121 = .ok (.iconst 2, 1) := by decide +kernel
theorem dX3_close_122 : decode cX3_close 122 = .ok (.if_icmp .le 16, 3) := by decide +kernel
theorem dX3_close_125 : decode cX3_close 125 = .ok (.aload_n 0, 1) := by decide +kernel
theorem dX3_close_126 : decode cX3_close 126 = .ok (.getfield 15, 3) := by decide +kernel
theorem dX3_close_129 : decode cX3_close 129 = .ok (.iload_n 1, 1) := by decide +kernel
theorem dX3_close_130 : decode cX3_close 130 = .ok (.iconst 2, 1) := by decide +kernel
theorem dX3_close_131 : decode cX3_close 131 = .ok (.iadd, 1) := by decide +kernel
theorem dX3_close_132 : decode cX3_close 132 = .ok (.iload_n 2, 1) := by decide +kernel
theorem dX3_close_133 : decode cX3_close 133 = .ok (.bipush 8, 2) := by decide +kernel
theorem dX3_close_135 : decode cX3_close 135 = .ok (.ishr, 1) := by decide +kernel
theorem dX3_close_136 : decode cX3_close 136 = .ok (.i2b, 1) := by decide +kernel
theorem dX3_close_137 : decode cX3_close 137 = .ok (.bastore, 1) := by decide +kernel
theorem dX3_close_138 : decode cX3_close 138 = .ok (.aload_n 0, 1) := by decide +kernel
theorem dX3_close_139 : decode cX3_close 139 = .ok (.getfield 15, 3) := by decide +kernel
theorem dX3_close_142 : decode cX3_close 142 = .ok (.iload_n 1, 1) := by decide +kernel
theorem dX3_close_143 : decode cX3_close 143 = .ok (.iload_n 3, 1) := by decide +kernel
theorem dX3_close_144 : decode cX3_close 144 = .ok (.iadd, 1) := by decide +kernel
theorem dX3_close_145 : decode cX3_close 145 = .ok (.iload_n 2, 1) := by decide +kernel
theorem dX3_close_146 : decode cX3_close 146 = .ok (.i2b, 1) := by decide +kernel
theorem dX3_close_147 : decode cX3_close 147 = .ok (.bastore, 1) := by decide +kernel
theorem dX3_close_148 : decode cX3_close 148 = .ok (.return_, 1) := by decide +kernel
theorem dX3_addInteger_0 : decode cX3_addInteger 0 = .ok (.iconst 1, 1) := by decide +kernel
theorem dX3_addInteger_1 : decode cX3_addInteger 1 = .ok (.istore_n 3, 1) := by decide +kernel
theorem dX3_addInteger_2 : decode cX3_addInteger 2 = .ok (.iload_n 3, 1) := by decide +kernel
theorem dX3_addInteger_3 : decode cX3_addInteger 3 = .ok (.bipush 8, 2) := by decide +kernel
theorem dX3_addInteger_5 : decode cX3_addInteger 5 = .ok (.if_icmp .ge 22, 3) := by decide +kernel
theorem dX3_addInteger_8 : decode cX3_addInteger 8 = .ok (.lload_n 1, 1) := by decide +kernel
theorem dX3_addInteger_9 : decode cX3_addInteger 9 = .ok (.bipush 8, 2) := by decide +kernel
theorem dX3_addInteger_11 : decode cX3_addInteger 11 = .ok (.iload_n 3, 1) := by decide +kernel
theorem dX3_addInteger_12 : decode cX3_addInteger 12 = .ok (.imul, 1) := by decide +kernel
theorem dX3_addInteger_13 : decode cX3_addInteger 13 = .ok (.iconst 1, 1) := by decide +kernel
theorem dX3_addInteger_14 : decode cX3_addInteger 14 = .ok (.isub, 1) := by decide +kernel
theorem dX3_addInteger_15 : decode cX3_addInteger 15 = .ok (.lshr, 1) := by decide +kernel
theorem dX3_addInteger_16 : decode cX3_addInteger 16 = .ok (.lconst 0, 1) := by decide +kernel
theorem dX3_addInteger_17 : decode cX3_addInteger 17 = .ok (.lcmp, 1) := by decide +kernel
theorem dX3_addInteger_18 : decode cX3_addInteger 18 = .ok (.ifCond .eq 9, 3) := by decide +kernel
theorem dX3_addInteger_21 : decode cX3_addInteger 21 = .ok (.iinc 3 1, 3) := by decide +kernel
theorem dX3_addInteger_24 : decode cX3_addInteger 24 = .ok (.goto (-22), 3) := by decide +kernel
theorem dX3_addInteger_27 : decode cX3_addInteger 27 = .ok (.aload_n 0, 1) := by decide +kernel
theorem dX3_addInteger_28 : decode cX3_addInteger 28 = .ok (.iconst 2, 1) := by decide +kernel
theorem dX3_addInteger_29 : decode cX3_addInteger 29 = .ok (.invokevirtual 52, 3) := by decide +kernel
theorem dX3_addInteger_32 : decode cX3_addInteger 32 = .ok (.istore 4, 2) := by decide +kernel
theorem dX3_addInteger_34 : decode cX3_addInteger 34 = .ok (.aload_n 0, 1) := by decide +kernel
theorem dX3_addInteger_35 : decode cX3_addInteger 35 = .ok (.lload_n 1, 1) := by decide +kernel
theorem dX3_addInteger_36 : decode cX3_addInteger 36 = .ok (.iload_n 3, 1) := by decide +kernel
theorem dX3_addInteger_37 : decode cX3_addInteger 37 = .ok (.invokevirtual 55, 3) := by decide +kernel
theorem dX3_addInteger_40 : decode cX3_addInteger 40 = .ok (.aload_n 0, 1) := by decide +kernel
theorem dX3_addInteger_41 : decode cX3_addInteger 41 = .ok (.iload 4, 2) := by decide +kernel
theorem dX3_addInteger_43 : decode cX3_addInteger 43 = .ok (.invokevirtual 59, 3) := by decide +kernel
theorem dX3_addInteger_46 : decode cX3_addInteger 46 = .ok (.return_, 1) := by decide +kernel
theorem dX3_addBytes_0 : decode cX3_addBytes 0 = .ok (.aload_n 0, 1) := by decide +kernel
theorem dX3_addBytes_1 : decode cX3_addBytes 1 = .ok (.iconst 4, 1) := by decide +kernel
theorem dX3_addBytes_2 : decode cX3_addBytes 2 = .ok (.invokevirtual 52, 3) := by decide +kernel
theorem dX3_addBytes_5 : decode cX3_addBytes 5 = .ok (.istore 4, 2) := by decide +kernel
theorem dX3_addBytes_7 : decode cX3_addBytes 7 = .ok (.aload_n 0, 1) := by decide +kernel
theorem dX3_addBytes_8 : decode cX3_addBytes 8 = .ok (.aload_n 1, 1) := by decide +kernel
theorem dX3_addBytes_9 : decode cX3_addBytes 9 = .ok (.iload_n 2, 1) := by decide +kernel
theorem dX3_addBytes_10 : decode cX3_addBytes 10 = .ok (.iload_n 3, 1) := by decide +kernel
theorem dX3_addBytes_11 : decode cX3_addBytes 11 = .ok (.invokevirtual 36, 3) := by decide +kernel
theorem dX3_addBytes_14 : decode cX3_addBytes 14 = .ok (.aload_n 0, 1) := by decide +kernel
theorem dX3_addBytes_15 : decode cX3_addBytes 15 = .ok (.iload 4, 2) := by decide +kernel
theorem dX3_addBytes_17 : decode cX3_addBytes 17 = .ok (.invokevirtual 59, 3) := by decide +kernel
theorem dX3_addBytes_20 : decode cX3_addBytes 20 = .ok (.return_, 1) := by decide +kernel
theorem dX3_addTaggedBytes_0 : decode cX3_addTaggedBytes 0 = .ok (.aload_n 0, 1) := by decide +kernel
theorem dX3_addTaggedBytes_1 : decode cX3_addTaggedBytes 1 = .ok (.sipush 160, 3) := by decide +kernel
theorem dX3_addTaggedBytes_4 : decode cX3_addTaggedBytes 4 = .ok (.iload_n 1, 1) := by decide +kernel
theorem dX3_addTaggedBytes_5 : decode cX3_addTaggedBytes 5 = .ok (.iadd, 1) := by decide +kernel
theorem dX3_addTaggedBytes_6 : decode cX3_addTaggedBytes 6 = .ok (.invokevirtual 52, 3) := by decide +kernel
theorem dX3_addTaggedBytes_9 : decode cX3_addTaggedBytes 9 = .ok (.istore 5, 2) := by decide +kernel
theorem dX3_addTaggedBytes_11 : decode cX3_addTaggedBytes 11 = .ok (.aload_n 0, 1) := by decide +kernel
theorem dX3_addTaggedBytes_12 : decode cX3_addTaggedBytes 12 = .ok (.aload_n 2, 1) := by decide +kernel
theorem dX3_addTaggedBytes_13 : decode cX3_addTaggedBytes 13 = .ok (.iload_n 3, 1) := by decide +kernel
theorem dX3_addTaggedBytes_14 : decode cX3_addTaggedBytes 14 = .ok (.iload 4, 2) := by decide +kernel
theorem dX3_addTaggedBytes_16 : decode cX3_addTaggedBytes 16 = .ok (.invokevirtual 62, 3) := by decide +kernel
theorem dX3_addTaggedBytes_19 : decode cX3_addTaggedBytes 19 = .ok (.aload_n 0, 1) := by decide +kernel
theorem dX3_addTaggedBytes_20 : decode cX3_addTaggedBytes 20 = .ok (.iload 5, 2) := by decide +kernel
theorem dX3_addTaggedBytes_22 : decode cX3_addTaggedBytes 22 = .ok (.invokevirtual 59, 3) := by decide +kernel
theorem dX3_addTaggedBytes_25 : decode cX3_addTaggedBytes 25 = .ok (.return_, 1) := by decide +kernel
theorem dX3_addHash_0 : decode cX3_addHash 0 = .ok (.aload_n 0, 1) := by decide +kernel
theorem dX3_addHash_1 : decode cX3_addHash 1 = .ok (.iconst 4, 1) := by decide +kernel
theorem dX3_addHash_2 : decode cX3_addHash 2 = .ok (.invokevirtual 52, 3) := by decide +kernel
theorem dX3_addHash_5 : decode cX3_addHash 5 = .ok (.istore_n 3, 1) := by decide +kernel
theorem dX3_addHash_6 : decode cX3_addHash 6 = .ok (.aload_n 0, 1) := by decide +kernel
theorem dX3_addHash_7 : decode cX3_addHash 7 = .ok (.lload_n 1, 1) := by decide +kernel
theorem dX3_addHash_8 : decode cX3_addHash 8 = .ok (.bipush 8, 2) := by decide +kernel
theorem dX3_addHash_10 : decode cX3_addHash 10 = .ok (.invokevirtual 55, 3) := by decide +kernel
theorem dX3_addHash_13 : decode cX3_addHash 13 = .ok (.aload_n 0, 1) := by decide +kernel
theorem dX3_addHash_14 : decode cX3_addHash 14 = .ok (.iload_n 3, 1) := by decide +kernel
theorem dX3_addHash_15 : decode cX3_addHash 15 = .ok (.invokevirtual 59, 3) := by decide +kernel
theorem dX3_addHash_18 : decode cX3_addHash 18 = .ok (.return_, 1) := by decide +kernel
theorem dX3_addCode_0 : decode cX3_addCode 0 = .ok (.aload_n 0, 1) := by decide +kernel
theorem dX3_addCode_1 : decode cX3_addCode 1 = .ok (.bipush 10, 2) := by decide +kernel
theorem dX3_addCode_3 : decode cX3_addCode 3 = .ok (.invokevirtual 52, 3) := by decide +kernel
theorem dX3_addCode_6 : decode cX3_addCode 6 = .ok (.istore_n 2, 1) := by decide +kernel
theorem dX3_addCode_7 : decode cX3_addCode 7 = .ok (.aload_n 0, 1) := by decide +kernel
theorem dX3_addCode_8 : decode cX3_addCode 8 = .ok (.iload_n 1, 1) := by decide +kernel
theorem dX3_addCode_9 : decode cX3_addCode 9 = .ok (.invokevirtual 29, 3) := by decide +kernel
theorem dX3_addCode_12 : decode cX3_addCode 12 = .ok (.aload_n 0, 1) := by decide +kernel
theorem dX3_addCode_13 : decode cX3_addCode 13 = .ok (.iload_n 2, 1) := by decide +kernel
theorem dX3_addCode_14 : decode cX3_addCode 14 = .ok (.invokevirtual 59, 3) := by decide +kernel
theorem dX3_addCode_17 : decode cX3_addCode 17 = .ok (.return_, 1) := by decide +kernel
theorem dX3_addTime_0 : decode cX3_addTime 0 = .ok (.lload_n 1, 1) := by decide +kernel
theorem dX3_addTime_1 : decode cX3_addTime 1 = .ok (.invokestatic 65, 3) := by decide +kernel
theorem dX3_addTime_4 : decode cX3_addTime 4 = .ok (.lstore_n 3, 1) := by decide +kernel
theorem dX3_addTime_5 : decode cX3_addTime 5 = .ok (.aload_n 0, 1) := by decide +kernel
theorem dX3_addTime_6 : decode cX3_addTime 6 = .ok (.bipush 24, 2) := by decide +kernel
theorem dX3_addTime_8 : decode cX3_addTime 8 = .ok (.invokevirtual 52, 3) := by decide +kernel
theorem dX3_addTime_11 : decode cX3_addTime 11 = .ok (.istore 5, 2) := by decide +kernel
theorem dX3_addTime_13 : decode cX3_addTime 13 = .ok (.iconst 0, 1) := by decide +kernel
theorem dX3_addTime_14 : decode cX3_addTime 14 = .ok (.istore 6, 2) := by decide +kernel
theorem dX3_addTime_16 : decode cX3_addTime 16 = .ok (.iload 6, 2) := by decide +kernel
theorem dX3_addTime_18 : decode cX3_addTime 18 = .ok (.bipush 15, 2) := by decide +kernel
theorem dX3_addTime_20 : decode cX3_addTime 20 = .ok (.if_icmp .ge 19, 3) := by decide +kernel
theorem dX3_addTime_23 : decode cX3_addTime 23 = .ok (.aload_n 0, 1) := by decide +kernel
theorem dX3_addTime_24 : decode cX3_addTime 24 = .ok (.lload_n 3, 1) := by decide +kernel
theorem dX3_addTime_25 : decode cX3_addTime 25 = .ok (.iload 6, 2) := by decide +kernel
theorem dX3_addTime_27 : decode cX3_addTime 27 = .ok (.invokestatic 70, 3) := by decide +kernel
theorem dX3_addTime_30 : decode cX3_addTime 30 = .ok (.invokevirtual 29, 3) := by decide +kernel
theorem dX3_addTime_33 : decode cX3_addTime 33 = .ok (.iinc 6 1, 3) := by decide +kernel
theorem dX3_addTime_36 : decode cX3_addTime 36 = .ok (.goto (-20), 3) := by decide +kernel
theorem dX3_addTime_39 : decode cX3_addTime 39 = .ok (.aload_n 0, 1) := by decide +kernel
theorem dX3_addTime_40 : decode cX3_addTime 40 = .ok (.iload 5, 2) := by decide +kernel
theorem dX3_addTime_42 : decode cX3_addTime 42 = .ok (.invokevirtual 59, 3) := by decide +kernel
theorem dX3_addTime_45 : decode cX3_addTime 45 = .ok (.return_, 1) := by decide +kernel
theorem dX3_addSignature_0 : decode cX3_addSignature 0 = .ok (.aload_n 0, 1) := by decide +kernel
theorem dX3_addSignature_1 : decode cX3_addSignature 1 = .ok (.iconst 3, 1) := by decide +kernel
theorem dX3_addSignature_2 : decode cX3_addSignature 2 = .ok (.invokevirtual 52, 3) := by decide +kernel
theorem dX3_addSignature_5 : decode cX3_addSignature 5 = .ok (.istore_n 3, 1) := by decide +kernel
theorem dX3_addSignature_6 : decode cX3_addSignature 6 = .ok (.aload_n 0, 1) := by decide +kernel
theorem dX3_addSignature_7 : decode cX3_addSignature 7 = .ok (.iconst 0, 1) := by decide +kernel
theorem dX3_addSignature_8 : decode cX3_addSignature 8 = .ok (.invokevirtual 29, 3) := by decide +kernel
theorem dX3_addSignature_11 : decode cX3_addSignature 11 = .ok (.aload_n 0, 1) := by decide +kernel
theorem dX3_addSignature_12 : decode cX3_addSignature 12 = .ok (.lload_n 1, 1) := by decide +kernel
theorem dX3_addSignature_13 : decode cX3_addSignature 13 = .ok (.bipush 8, 2) := by decide +kernel
theorem dX3_addSignature_15 : decode cX3_addSignature 15 = .ok (.invokevirtual 55, 3) := by decide +kernel
theorem dX3_addSignature_18 : decode cX3_addSignature 18 = .ok (.aload_n 0, 1) := by decide +kernel
theorem dX3_addSignature_19 : decode cX3_addSignature 19 = .ok (.iload_n 3, 1) := by decide +kernel
theorem dX3_addSignature_20 : decode cX3_addSignature 20 = .ok (.invokevirtual 59, 3) := by decide +kernel
theorem dX3_addSignature_23 : decode cX3_addSignature 23 = .ok (.return_, 1) := by decide +kernel
theorem dX3_addId_0 : decode cX3_addId 0 = .ok (.iload_n 2, 1) := by decide +kernel
theorem dX3_addId_1 : decode cX3_addId 1 = .ok (.ifCond .lt 11, 3) := by decide +kernel
theorem dX3_addId_4 : decode cX3_addId 4 = .ok (.iload_n 2, 1) := by decide +kernel
theorem dX3_addId_5 : decode cX3_addId 5 = .ok (.aload_n 1, 1) := by decide +kernel
theorem dX3_addId_6 : decode cX3_addId 6 = .ok (.getfield 74, 3) := by decide +kernel
theorem dX3_addId_9 : decode cX3_addId 9 = .ok (.if_icmp .lt 4, 3) := by decide +kernel
theorem dX3_addId_12 : decode cX3_addId 12 = .ok (.return_, 1) := by decide +kernel
theorem dX3_addId_13 : decode cX3_addId 13 = .ok (.aload_n 0, 1) := by decide +kernel
theorem dX3_addId_14 : decode cX3_addId 14 = .ok (.bipush 48, 2) := by decide +kernel
theorem dX3_addId_16 : decode cX3_addId 16 = .ok (.invokevirtual 52, 3) := by decide +kernel
theorem dX3_addId_19 : decode cX3_addId 19 = .ok (.istore_n 3, 1) := by decide +kernel
theorem dX3_addId_20 : decode cX3_addId 20 = .ok (.aload_n 0, 1) := by decide +kernel
theorem dX3_addId_21 : decode cX3_addId 21 = .ok (.aload_n 1, 1) := by decide +kernel
theorem dX3_addId_22 : decode cX3_addId 22 = .ok (.getfield 79, 3) := by decide +kernel
theorem dX3_addId_25 : decode cX3_addId 25 = .ok (.iload_n 2, 1) := by decide +kernel
theorem dX3_addId_26 : decode cX3_addId 26 = .ok (.laload, 1) := by decide +kernel
theorem dX3_addId_27 : decode cX3_addId 27 = .ok (.invokevirtual 83, 3) := by decide +kernel
theorem dX3_addId_30 : decode cX3_addId 30 = .ok (.aload_n 0, 1) := by decide +kernel
theorem dX3_addId_31 : decode cX3_addId 31 = .ok (.aload_n 1, 1) := by decide +kernel
theorem dX3_addId_32 : decode cX3_addId 32 = .ok (.getfield 87, 3) := by decide +kernel
theorem dX3_addId_35 : decode cX3_addId 35 = .ok (.iload_n 2, 1) := by decide +kernel
theorem dX3_addId_36 : decode cX3_addId 36 = .ok (.laload, 1) := by decide +kernel
theorem dX3_addId_37 : decode cX3_addId 37 = .ok (.invokevirtual 83, 3) := by decide +kernel
theorem dX3_addId_40 : decode cX3_addId 40 = .ok (.aload_n 0, 1) := by decide +kernel
theorem dX3_addId_41 : decode cX3_addId 41 = .ok (.aload_n 1, 1) := by decide +kernel
theorem dX3_addId_42 : decode cX3_addId 42 = .ok (.getfield 90, 3) := by decide +kernel
theorem dX3_addId_45 : decode cX3_addId 45 = .ok (.iload_n 2, 1) := by decide +kernel
theorem dX3_addId_46 : decode cX3_addId 46 = .ok (.iaload, 1) := by decide +kernel
theorem dX3_addId_47 : decode cX3_addId 47 = .ok (.i2l, 1) := by decide +kernel
theorem dX3_addId_48 : decode cX3_addId 48 = .ok (.invokevirtual 94, 3) := by decide +kernel
theorem dX3_addId_51 : decode cX3_addId 51 = .ok (.aload_n 0, 1) := by decide +kernel
theorem dX3_addId_52 : decode cX3_addId 52 = .ok (.iload_n 3, 1) := by decide +kernel
theorem dX3_addId_53 : decode cX3_addId 53 = .ok (.invokevirtual 59, 3) := by decide +kernel
theorem dX3_addId_56 : decode cX3_addId 56 = .ok (.return_, 1) := by decide +kernel
theorem dX4_init_0 : decode cX4_init 0 = .ok (.aload_n 0, 1) := by decide +kernel
theorem dX4_init_1 : decode cX4_init 1 = .ok (.invokespecial 3, 3) := by decide +kernel
theorem dX4_init_4 : decode cX4_init 4 = .ok (.return_, 1) := by decide +kernel
theorem dX4_read_0 : decode cX4_read 0 = .ok (.aload_n 1, 1) := by decide +kernel
theorem dX4_read_1 : decode cX4_read 1 = .ok (.bipush 48, 2) := by decide +kernel
theorem dX4_read_3 : decode cX4_read 3 = .ok (.invokevirtual 9, 3) := by decide +kernel
theorem dX4_read_6 : decode cX4_read 6 = .ok (.aload_n 0, 1) := by decide +kernel
theorem dX4_read_7 : decode cX4_read 7 = .ok (.aload_n 1, 1) := by decide +kernel
theorem dX4_read_8 : decode cX4_read 8 = .ok (.getfield 15, 3) := by decide +kernel
theorem dX4_read_11 : decode cX4_read 11 = .ok (.putfield 19, 3) := by decide +kernel
theorem dX4_read_14 : decode cX4_read 14 = .ok (.aload_n 1, 1) := by decide +kernel
theorem dX4_read_15 : decode cX4_read 15 = .ok (.bipush 48, 2) := by decide +kernel
theorem dX4_read_17 : decode cX4_read 17 = .ok (.invokevirtual 9, 3) := by decide +kernel
theorem dX4_read_20 : decode cX4_read 20 = .ok (.aload_n 0, 1) := by decide +kernel
theorem dX4_read_21 : decode cX4_read 21 = .ok (.aload_n 1, 1) := by decide +kernel
theorem dX4_read_22 : decode cX4_read 22 = .ok (.lconst 0, 1) := by decide +kernel
theorem dX4_read_23 : decode cX4_read 23 = .ok (.ldc2_w 24, 3) := by decide +kernel
theorem dX4_read_26 : decode cX4_read 26 = .ok (.invokevirtual 26, 3) := by decide +kernel
theorem dX4_read_29 : decode cX4_read 29 = .ok (.l2i, 1) := by decide +kernel
theorem dX4_read_30 : decode cX4_read 30 = .ok (.putfield 30, 3) := by decide +kernel
theorem dX4_read_33 : decode cX4_read 33 = .ok (.aload_n 0, 1) := by decide +kernel
theorem dX4_read_34 : decode cX4_read 34 = .ok (.aload_n 1, 1) := by decide +kernel
theorem dX4_read_35 : decode cX4_read 35 = .ok (.iconst 1, 1) := by decide +kernel
theorem dX4_read_36 : decode cX4_read 36 = .ok (.bipush 16, 2) := by decide +kernel
theorem dX4_read_38 : decode cX4_read 38 = .ok (.invokevirtual 33, 3) := by decide +kernel
theorem dX4_read_41 : decode cX4_read 41 = .ok (.putfield 37, 3) := by decide +kernel
theorem dX4_read_44 : decode cX4_read 44 = .ok (.aload_n 0, 1) := by decide +kernel
theorem dX4_read_45 : decode cX4_read 45 = .ok (.aload_n 1, 1) := by decide +kernel
theorem dX4_read_46 : decode cX4_read 46 = .ok (.getfield 40, 3) := by decide +kernel
theorem dX4_read_49 : decode cX4_read 49 = .ok (.putfield 43, 3) := by decide +kernel
theorem dX4_read_52 : decode cX4_read 52 = .ok (.aload_n 0, 1) := by decide +kernel
theorem dX4_read_53 : decode cX4_read 53 = .ok (.aload_n 1, 1) := by decide +kernel
theorem dX4_read_54 : decode cX4_read 54 = .ok (.iconst 1, 1) := by decide +kernel
theorem dX4_read_55 : decode cX4_read 55 = .ok (.bipush 16, 2) := by decide +kernel
theorem dX4_read_57 : decode cX4_read 57 = .ok (.invokevirtual 33, 3) := by decide +kernel
theorem dX4_read_60 : decode cX4_read 60 = .ok (.putfield 46, 3) := by decide +kernel
theorem dX4_read_63 : decode cX4_read 63 = .ok (.aload_n 0, 1) := by decide +kernel
theorem dX4_read_64 : decode cX4_read 64 = .ok (.aload_n 1, 1) := by decide +kernel
theorem dX4_read_65 : decode cX4_read 65 = .ok (.getfield 40, 3) := by decide +kernel
theorem dX4_read_68 : decode cX4_read 68 = .ok (.putfield 49, 3) := by decide +kernel
theorem dX4_read_71 : decode cX4_read 71 = .ok (.aload_n 0, 1) := by decide +kernel
theorem dX4_read_72 : decode cX4_read 72 = .ok (.aload_n 1, 1) := by decide +kernel
theorem dX4_read_73 : decode cX4_read 73 = .ok (.invokevirtual 52, 3) := by decide +kernel
theorem dX4_read_76 : decode cX4_read 76 = .ok (.putfield 56, 3) := by decide +kernel
theorem dX4_read_79 : decode cX4_read 79 = .ok (.aload_n 0, 1) := by decide +kernel
theorem dX4_read_80 : decode cX4_read 80 = .ok (.aload_n 1, 1) := by decide +kernel
theorem dX4_read_81 : decode cX4_read 81 = .ok (.invokevirtual 52, 3) := by decide +kernel
theorem dX4_read_84 : decode cX4_read 84 = .ok (.putfield 60, 3) := by decide +kernel
theorem dX4_read_87 : decode cX4_read 87 = .ok (.aload_n 0, 1) := by decide +kernel
theorem dX4_read_88 : decode cX4_read 88 = .ok (.aload_n 1, 1) := by decide +kernel
theorem dX4_read_89 : decode cX4_read 89 = .ok (.ldc2_w 63, 3) := by decide +kernel
theorem dX4_read_92 : decode cX4_read 92 = .ok (.ldc2_w 67, 3) := by decide +kernel
theorem dX4_read_95 : decode cX4_read 95 = .ok (.invokevirtual 26, 3) := by decide +kernel
theorem dX4_read_98 : decode cX4_read 98 = .ok (.putfield 69, 3) := by decide +kernel
theorem dX4_read_101 : decode cX4_read 101 = .ok (.aload_n 0, 1) := by decide +kernel
theorem dX4_read_102 : decode cX4_read 102 = .ok (.aload_n 1, 1) := by decide +kernel
theorem dX4_read_103 : decode cX4_read 103 = .ok (.lconst 0, 1) := by decide +kernel
theorem dX4_read_104 : decode cX4_read 104 = .ok (.ldc2_w 72, 3) := by decide +kernel
theorem dX4_read_107 : decode cX4_read 107 = .ok (.invokevirtual 26, 3) := by decide +kernel
theorem dX4_read_110 : decode cX4_read 110 = .ok (.l2i, 1) := by decide +kernel
theorem dX4_read_111 : decode cX4_read 111 = .ok (.putfield 74, 3) := by decide +kernel
theorem dX4_read_114 : decode cX4_read 114 = .ok (.aload_n 1, 1) := by decide +kernel
theorem dX4_read_115 : decode cX4_read 115 = .ok (.invokevirtual 77, 3) := by decide +kernel
theorem dX4_read_118 : decode cX4_read 118 = .ok (.aload_n 0, 1) := by decide +kernel
theorem dX4_read_119 : decode cX4_read 119 = .ok (.aload_n 1, 1) := by decide +kernel
theorem dX4_read_120 : decode cX4_read 120 = .ok (.getfield 15, 3) := by decide +kernel
theorem dX4_read_123 : decode cX4_read 123 = .ok (.putfield 80, 3) := by decide +kernel
theorem dX4_read_126 : decode cX4_read 126 = .ok (.aload_n 0, 1) := by decide +kernel
theorem dX4_read_127 : decode cX4_read 127 = .ok (.aload_n 1, 1) := by decide +kernel
theorem dX4_read_128 : decode cX4_read 128 = .ok (.invokevirtual 83, 3) := by decide +kernel
theorem dX4_read_131 : decode cX4_read 131 = .ok (.putfield 86, 3) := by decide +kernel
theorem dX4_read_134 : decode cX4_read 134 = .ok (.aload_n 1, 1) := by decide +kernel
theorem dX4_read_135 : decode cX4_read 135 = .ok (.invokevirtual 77, 3) := by decide +kernel
theorem dX4_read_138 : decode cX4_read 138 = .ok (.return_, 1) := by decide +kernel
theorem dX5_init_0 : decode cX5_init 0 = .ok (.aload_n 0, 1) := by decide +kernel
theorem dX5_init_1 : decode cX5_init 1 = .ok (.invokespecial 3, 3) := by decide +kernel
theorem dX5_init_4 : decode cX5_init 4 = .ok (.aload_n 0, 1) := by decide +kernel
theorem dX5_init_5 : decode cX5_init 5 = .ok (.iconst (-1), 1) := by decide +kernel
theorem dX5_init_6 : decode cX5_init 6 = .ok (.putfield 9, 3) := by decide +kernel
theorem dX5_init_9 : decode cX5_init 9 = .ok (.aload_n 0, 1) := by decide +kernel
theorem dX5_init_10 : decode cX5_init 10 = .ok (.iconst (-1), 1) := by decide +kernel
theorem dX5_init_11 : decode cX5_init 11 = .ok (.putfield 15, 3) := by decide +kernel
theorem dX5_init_14 : decode cX5_init 14 = .ok (.aload_n 0, 1) := by decide +kernel
theorem dX5_init_15 : decode cX5_init 15 = .ok (.iconst (-1), 1) := by decide +kernel
theorem dX5_init_16 : decode cX5_init 16 = .ok (.putfield 18, 3) := by decide +kernel
theorem dX5_init_19 : decode cX5_init 19 = .ok (.aload_n 0, 1) := by decide +kernel
theorem dX5_init_20 : decode cX5_init 20 = .ok (.ldc2_w 21, 3) := by decide +kernel
theorem dX5_init_23 : decode cX5_init 23 = .ok (.putfield 23, 3) := by decide +kernel
theorem dX5_init_26 : decode cX5_init 26 = .ok (.aload_n 0, 1) := by decide +kernel
theorem dX5_init_27 : decode cX5_init 27 = .ok (.iconst (-1), 1) := by decide +kernel
theorem dX5_init_28 : decode cX5_init 28 = .ok (.putfield 27, 3) := by decide +kernel
theorem dX5_init_31 : decode cX5_init 31 = .ok (.aload_n 0, 1) := by decide +kernel
theorem dX5_init_32 : decode cX5_init 32 = .ok (.ldc2_w 21, 3) := by decide +kernel
theorem dX5_init_35 : decode cX5_init 35 = .ok (.putfield 30, 3) := by decide +kernel
theorem dX5_init_38 : decode cX5_init 38 = .ok (.aload_n 0, 1) := by decide +kernel
theorem dX5_init_39 : decode cX5_init 39 = .ok (.ldc2_w 21, 3) := by decide +kernel
theorem dX5_init_42 : decode cX5_init 42 = .ok (.putfield 33, 3) := by decide +kernel
theorem dX5_init_45 : decode cX5_init 45 = .ok (.return_, 1) := by decide +kernel
theorem dX5_begin_0 : decode cX5_begin 0 = .ok (.aload_n 0, 1) := by decide +kernel
theorem dX5_begin_1 : decode cX5_begin 1 = .ok (.iload_n 1, 1) := by decide +kernel
theorem dX5_begin_2 : decode cX5_begin 2 = .ok (.putfield 9, 3) := by decide +kernel
theorem dX5_begin_5 : decode cX5_begin 5 = .ok (.aload_n 0, 1) := by decide +kernel
theorem dX5_begin_6 : decode cX5_begin 6 = .ok (.iload_n 2, 1) := by decide +kernel
theorem dX5_begin_7 : decode cX5_begin 7 = .ok (.putfield 15, 3) := by decide +kernel
theorem dX5_begin_10 : decode cX5_begin 10 = .ok (.return_, 1) := by decide +kernel
theorem dX5_takeSingle_0 : decode cX5_takeSingle 0 = .ok (.iload_n 2, 1) := by decide +kernel
theorem dX5_takeSingle_1 : decode cX5_takeSingle 1 = .ok (.ifCond .lt 14, 3) := by decide +kernel
theorem dX5_takeSingle_4 : decode cX5_takeSingle 4 = .ok (.iload_n 2, 1) := by decide +kernel
theorem dX5_takeSingle_5 : decode cX5_takeSingle 5 = .ok (.aload_n 1, 1) := by decide +kernel
theorem dX5_takeSingle_6 : decode cX5_takeSingle 6 = .ok (.getfield 36, 3) := by decide +kernel
theorem dX5_takeSingle_9 : decode cX5_takeSingle 9 = .ok (.getfield 42, 3) := by decide +kernel
theorem dX5_takeSingle_12 : decode cX5_takeSingle 12 = .ok (.if_icmp .lt 4, 3) := by decide +kernel
theorem dX5_takeSingle_15 : decode cX5_takeSingle 15 = .ok (.return_, 1) := by decide +kernel
theorem dX5_takeSingle_16 : decode cX5_takeSingle 16 = .ok (.aload_n 0, 1) := by decide +kernel
theorem dX5_takeSingle_17 : decode cX5_takeSingle 17 = .ok (.aload_n 1, 1) := by decide +kernel
theorem dX5_takeSingle_18 : decode cX5_takeSingle 18 = .ok (.getfield 47, 3) := by decide +kernel
theorem dX5_takeSingle_21 : decode cX5_takeSingle 21 = .ok (.iload_n 2, 1) := by decide +kernel
theorem dX5_takeSingle_22 : decode cX5_takeSingle 22 = .ok (.iaload, 1) := by decide +kernel
theorem dX5_takeSingle_23 : decode cX5_takeSingle 23 = .ok (.putfield 18, 3) := by decide +kernel
theorem dX5_takeSingle_26 : decode cX5_takeSingle 26 = .ok (.aload_n 0, 1) := by decide +kernel
theorem dX5_takeSingle_27 : decode cX5_takeSingle 27 = .ok (.aload_n 1, 1) := by decide +kernel
theorem dX5_takeSingle_28 : decode cX5_takeSingle 28 = .ok (.getfield 51, 3) := by decide +kernel
theorem dX5_takeSingle_31 : decode cX5_takeSingle 31 = .ok (.iload_n 2, 1) := by decide +kernel
theorem dX5_takeSingle_32 : decode cX5_takeSingle 32 = .ok (.laload, 1) := by decide +kernel
theorem dX5_takeSingle_33 : decode cX5_takeSingle 33 = .ok (.putfield 23, 3) := by decide +kernel
theorem dX5_takeSingle_36 : decode cX5_takeSingle 36 = .ok (.aload_n 0, 1) := by decide +kernel
theorem dX5_takeSingle_37 : decode cX5_takeSingle 37 = .ok (.aload_n 1, 1) := by decide +kernel
theorem dX5_takeSingle_38 : decode cX5_takeSingle 38 = .ok (.getfield 54, 3) := by decide +kernel
theorem dX5_takeSingle_41 : decode cX5_takeSingle 41 = .ok (.iload_n 2, 1) := by decide +kernel
theorem dX5_takeSingle_42 : decode cX5_takeSingle 42 = .ok (.iaload, 1) := by decide +kernel
theorem dX5_takeSingle_43 : decode cX5_takeSingle 43 = .ok (.putfield 27, 3) := by decide +kernel
theorem dX5_takeSingle_46 : decode cX5_takeSingle 46 = .ok (.aload_n 0, 1) := by decide +kernel
theorem dX5_takeSingle_47 : decode cX5_takeSingle 47 = .ok (.aload_n 1, 1) := by decide +kernel
theorem dX5_takeSingle_48 : decode cX5_takeSingle 48 = .ok (.getfield 57, 3) := by decide +kernel
theorem dX5_takeSingle_51 : decode cX5_takeSingle 51 = .ok (.iload_n 2, 1) := by decide +kernel
theorem dX5_takeSingle_52 : decode cX5_takeSingle 52 = .ok (.laload, 1) := by decide +kernel
theorem dX5_takeSingle_53 : decode cX5_takeSingle 53 = .ok (.putfield 30, 3) := by decide +kernel
theorem dX5_takeSingle_56 : decode cX5_takeSingle 56 = .ok (.aload_n 0, 1) := by decide +kernel
theorem dX5_takeSingle_57 : decode cX5_takeSingle 57 = .ok (.aload_n 1, 1) := by decide +kernel
theorem dX5_takeSingle_58 : decode cX5_takeSingle 58 = .ok (.getfield 59, 3) := by decide +kernel
theorem dX5_takeSingle_61 : decode cX5_takeSingle 61 = .ok (.iload_n 2, 1) := by decide +kernel
theorem dX5_takeSingle_62 : decode cX5_takeSingle 62 = .ok (.laload, 1) := by decide +kernel
theorem dX5_takeSingle_63 : decode cX5_takeSingle 63 = .ok (.ldc2_w 21, 3) := by decide +kernel
theorem dX5_takeSingle_66 : decode cX5_takeSingle 66 = .ok (.lcmp, 1) := by decide +kernel
theorem dX5_takeSingle_67 : decode cX5_takeSingle 67 = .ok (.ifCond .ne 15, 3) := by decide +kernel
theorem dX5_takeSingle_70 : decode cX5_takeSingle 70 = .ok (.aload_n 1, 1) := by decide +kernel
theorem dX5_takeSingle_71 : decode cX5_takeSingle 71 = .ok (.getfield 57, 3) := by decide +kernel
theorem dX5_takeSingle_74 : decode cX5_takeSingle 74 = .ok (.iload_n 2, 1) := by decide +kernel
theorem dX5_takeSingle_75 : decode cX5_takeSingle 75 = .ok (.laload, 1) := by decide +kernel
theorem dX5_takeSingle_76 : decode cX5_takeSingle 76 = .ok (.iload_n 3, 1) := by decide +kernel
theorem dX5_takeSingle_77 : decode cX5_takeSingle 77 = .ok (.i2l, 1) := by decide +kernel
theorem dX5_takeSingle_78 : decode cX5_takeSingle 78 = .ok (.ladd, 1) := by decide +kernel
theorem dX5_takeSingle_79 : decode cX5_takeSingle 79 = .ok (.goto 9, 3) := by decide +kernel
theorem dX5_takeSingle_82 : decode cX5_takeSingle 82 = .ok (.aload_n 1, 1) := by decide +kernel
theorem dX5_takeSingle_83 : decode cX5_takeSingle 83 = .ok (.getfield 59, 3) := by decide +kernel
theorem dX5_takeSingle_86 : decode cX5_takeSingle 86 = .ok (.iload_n 2, 1) := by decide +kernel
theorem dX5_takeSingle_87 : decode cX5_takeSingle 87 = .ok (.laload, 1) := by decide +kernel
theorem dX5_takeSingle_88 : decode cX5_takeSingle 88 = .ok (.putfield 33, 3) := by decide +kernel
theorem dX5_takeSingle_91 : decode cX5_takeSingle 91 = .ok (.return_, 1) := by decide +kernel
theorem dX5_copyOf_0 : decode cX5_copyOf 0 = .ok (.aload_n 0, 1) := by decide +kernel
theorem dX5_copyOf_1 : decode cX5_copyOf 1 = .ok (.aload_n 1, 1) := by decide +kernel
theorem dX5_copyOf_2 : decode cX5_copyOf 2 = .ok (.getfield 9, 3) := by decide +kernel
theorem dX5_copyOf_5 : decode cX5_copyOf 5 = .ok (.putfield 9, 3) := by decide +kernel
theorem dX5_copyOf_8 : decode cX5_copyOf 8 = .ok (.aload_n 0, 1) := by decide +kernel
theorem dX5_copyOf_9 : decode cX5_copyOf 9 = .ok (.aload_n 1, 1) := by decide +kernel
theorem dX5_copyOf_10 : decode cX5_copyOf 10 = .ok (.getfield 15, 3) := by decide +kernel
theorem dX5_copyOf_13 : decode cX5_copyOf 13 = .ok (.putfield 15, 3) := by decide +kernel
theorem dX5_copyOf_16 : decode cX5_copyOf 16 = .ok (.aload_n 0, 1) := by decide +kernel
theorem dX5_copyOf_17 : decode cX5_copyOf 17 = .ok (.aload_n 1, 1) := by decide +kernel
theorem dX5_copyOf_18 : decode cX5_copyOf 18 = .ok (.getfield 18, 3) := by decide +kernel
theorem dX5_copyOf_21 : decode cX5_copyOf 21 = .ok (.putfield 18, 3) := by decide +kernel
theorem dX5_copyOf_24 : decode cX5_copyOf 24 = .ok (.aload_n 0, 1) := by decide +kernel
theorem dX5_copyOf_25 : decode cX5_copyOf 25 = .ok (.aload_n 1, 1) := by decide +kernel
theorem dX5_copyOf_26 : decode cX5_copyOf 26 = .ok (.getfield 23, 3) := by decide +kernel
theorem dX5_copyOf_29 : decode cX5_copyOf 29 = .ok (.putfield 23, 3) := by decide +kernel
theorem dX5_copyOf_32 : decode cX5_copyOf 32 = .ok (.aload_n 0, 1) := by decide +kernel
theorem dX5_copyOf_33 : decode cX5_copyOf 33 = .ok (.aload_n 1, 1) := by decide +kernel
theorem dX5_copyOf_34 : decode cX5_copyOf 34 = .ok (.getfield 27, 3) := by decide +kernel
theorem dX5_copyOf_37 : decode cX5_copyOf 37 = .ok (.putfield 27, 3) := by decide +kernel
theorem dX5_copyOf_40 : decode cX5_copyOf 40 = .ok (.aload_n 0, 1) := by decide +kernel
theorem dX5_copyOf_41 : decode cX5_copyOf 41 = .ok (.aload_n 1, 1) := by decide +kernel
theorem dX5_copyOf_42 : decode cX5_copyOf 42 = .ok (.getfield 30, 3) := by decide +kernel
theorem dX5_copyOf_45 : decode cX5_copyOf 45 = .ok (.putfield 30, 3) := by decide +kernel
theorem dX5_copyOf_48 : decode cX5_copyOf 48 = .ok (.aload_n 0, 1) := by decide +kernel
theorem dX5_copyOf_49 : decode cX5_copyOf 49 = .ok (.aload_n 1, 1) := by decide +kernel
theorem dX5_copyOf_50 : decode cX5_copyOf 50 = .ok (.getfield 33, 3) := by decide +kernel
theorem dX5_copyOf_53 : decode cX5_copyOf 53 = .ok (.putfield 33, 3) := by decide +kernel
theorem dX5_copyOf_56 : decode cX5_copyOf 56 = .ok (.return_, 1) := by decide +kernel
theorem dX6_init_0 : decode cX6_init 0 = .ok (.aload_n 0, 1) := by decide +kernel
theorem dX6_init_1 : decode cX6_init 1 = .ok (.invokespecial 3, 3) := by decide +kernel
theorem dX6_init_4 : decode cX6_init 4 = .ok (.aload_n 0, 1) := by decide +kernel
theorem dX6_init_5 : decode cX6_init 5 = .ok (.bipush 8, 2) := by decide +kernel
theorem dX6_init_7 : decode cX6_init 7 = .ok (.newarray .long, 2) := by decide +kernel
theorem dX6_init_9 : decode cX6_init 9 = .ok (.putfield 9, 3) := by decide +kernel
theorem dX6_init_12 : decode cX6_init 12 = .ok (.aload_n 0, 1) := by decide +kernel
theorem dX6_init_13 : decode cX6_init 13 = .ok (.bipush 8, 2) := by decide +kernel
theorem dX6_init_15 : decode cX6_init 15 = .ok (.newarray .long, 2) := by decide +kernel
theorem dX6_init_17 : decode cX6_init 17 = .ok (.putfield 15, 3) := by decide +kernel
theorem dX6_init_20 : decode cX6_init 20 = .ok (.aload_n 0, 1) := by decide +kernel
theorem dX6_init_21 : decode cX6_init 21 = .ok (.bipush 8, 2) := by decide +kernel
theorem dX6_init_23 : decode cX6_init 23 = .ok (.newarray .int, 2) := by decide +kernel
theorem dX6_init_25 : decode cX6_init 25 = .ok (.putfield 18, 3) := by decide +kernel
theorem dX6_init_28 : decode cX6_init 28 = .ok (.return_, 1) := by decide +kernel
theorem dX6_add_0 : decode cX6_add 0 = .ok (.aload_n 0, 1) := by decide +kernel
theorem dX6_add_1 : decode cX6_add 1 = .ok (.getfield 22, 3) := by decide +kernel
theorem dX6_add_4 : decode cX6_add 4 = .ok (.bipush 8, 2) := by decide +kernel
theorem dX6_add_6 : decode cX6_add 6 = .ok (.if_icmp .ge 44, 3) := by decide +kernel
theorem dX6_add_9 : decode cX6_add 9 = .ok (.aload_n 0, 1) := by decide +kernel
theorem dX6_add_10 : decode cX6_add 10 = .ok (.getfield 9, 3) := by decide +kernel
theorem dX6_add_13 : decode cX6_add 13 = .ok (.aload_n 0, 1) := by decide +kernel
theorem dX6_add_14 : decode cX6_add 14 = .ok (.getfield 22, 3) := by decide +kernel
theorem dX6_add_17 : decode cX6_add 17 = .ok (.lload_n 1, 1) := by decide +kernel
theorem dX6_add_18 : decode cX6_add 18 = .ok (.lastore, 1) := by decide +kernel
theorem dX6_add_19 : decode cX6_add 19 = .ok (.aload_n 0, 1) := by decide +kernel
theorem dX6_add_20 : decode cX6_add 20 = .ok (.getfield 15, 3) := by decide +kernel
theorem dX6_add_23 : decode cX6_add 23 = .ok (.aload_n 0, 1) := by decide +kernel
theorem dX6_add_24 : decode cX6_add 24 = .ok (.getfield 22, 3) := by decide +kernel
theorem dX6_add_27 : decode cX6_add 27 = .ok (.lload_n 3, 1) := by decide +kernel
theorem dX6_add_28 : decode cX6_add 28 = .ok (.lastore, 1) := by decide +kernel
theorem dX6_add_29 : decode cX6_add 29 = .ok (.aload_n 0, 1) := by decide +kernel
theorem dX6_add_30 : decode cX6_add 30 = .ok (.getfield 18, 3) := by decide +kernel
theorem dX6_add_33 : decode cX6_add 33 = .ok (.aload_n 0, 1) := by decide +kernel
theorem dX6_add_34 : decode cX6_add 34 = .ok (.getfield 22, 3) := by decide +kernel
theorem dX6_add_37 : decode cX6_add 37 = .ok (.iload 5, 2) := by decide +kernel
theorem dX6_add_39 : decode cX6_add 39 = .ok (.iastore, 1) := by decide +kernel
theorem dX6_add_40 : decode cX6_add 40 = .ok (.aload_n 0, 1) := by decide +kernel
theorem dX6_add_41 : decode cX6_add 41 = .ok (.dup, 1) := by decide +kernel
theorem dX6_add_42 : decode cX6_add 42 = .ok (.getfield 22, 3) := by decide +kernel
theorem dX6_add_45 : decode cX6_add 45 = .ok (.iconst 1, 1) := by decide +kernel
theorem dX6_add_46 : decode cX6_add 46 = .ok (.iadd, 1) := by decide +kernel
theorem dX6_add_47 : decode cX6_add 47 = .ok (.putfield 22, 3) := by decide +kernel
theorem dX6_add_50 : decode cX6_add 50 = .ok (.return_, 1) := by decide +kernel
theorem dX6_read_0 : decode cX6_read 0 = .ok (.aload_n 1, 1) := by decide +kernel
theorem dX6_read_1 : decode cX6_read 1 = .ok (.bipush 48, 2) := by decide +kernel
theorem dX6_read_3 : decode cX6_read 3 = .ok (.invokevirtual 26, 3) := by decide +kernel
theorem dX6_read_6 : decode cX6_read 6 = .ok (.aload_n 1, 1) := by decide +kernel
theorem dX6_read_7 : decode cX6_read 7 = .ok (.invokevirtual 32, 3) := by decide +kernel
theorem dX6_read_10 : decode cX6_read 10 = .ok (.lstore_n 2, 1) := by decide +kernel
theorem dX6_read_11 : decode cX6_read 11 = .ok (.aload_n 1, 1) := by decide +kernel
theorem dX6_read_12 : decode cX6_read 12 = .ok (.invokevirtual 32, 3) := by decide +kernel
theorem dX6_read_15 : decode cX6_read 15 = .ok (.lstore 4, 2) := by decide +kernel
theorem dX6_read_17 : decode cX6_read 17 = .ok (.aload_n 1, 1) := by decide +kernel
theorem dX6_read_18 : decode cX6_read 18 = .ok (.lconst 0, 1) := by decide +kernel
theorem dX6_read_19 : decode cX6_read 19 = .ok (.ldc2_w 36, 3) := by decide +kernel
theorem dX6_read_22 : decode cX6_read 22 = .ok (.invokevirtual 38, 3) := by decide +kernel
theorem dX6_read_25 : decode cX6_read 25 = .ok (.l2i, 1) := by decide +kernel
theorem dX6_read_26 : decode cX6_read 26 = .ok (.istore 6, 2) := by decide +kernel
theorem dX6_read_28 : decode cX6_read 28 = .ok (.aload_n 1, 1) := by decide +kernel
theorem dX6_read_29 : decode cX6_read 29 = .ok (.invokevirtual 42, 3) := by decide +kernel
theorem dX6_read_32 : decode cX6_read 32 = .ok (.aload_n 0, 1) := by decide +kernel
theorem dX6_read_33 : decode cX6_read 33 = .ok (.lload_n 2, 1) := by decide +kernel
theorem dX6_read_34 : decode cX6_read 34 = .ok (.lload 4, 2) := by decide +kernel
theorem dX6_read_36 : decode cX6_read 36 = .ok (.iload 6, 2) := by decide +kernel
theorem dX6_read_38 : decode cX6_read 38 = .ok (.invokevirtual 45, 3) := by decide +kernel
theorem dX6_read_41 : decode cX6_read 41 = .ok (.return_, 1) := by decide +kernel
theorem dX6_isOf_0 : decode cX6_isOf 0 = .ok (.iload_n 1, 1) := by decide +kernel
theorem dX6_isOf_1 : decode cX6_isOf 1 = .ok (.ifCond .lt 38, 3) := by decide +kernel
theorem dX6_isOf_4 : decode cX6_isOf 4 = .ok (.iload_n 1, 1) := by decide +kernel
theorem dX6_isOf_5 : decode cX6_isOf 5 = .ok (.aload_n 0, 1) := by decide +kernel
theorem dX6_isOf_6 : decode cX6_isOf 6 = .ok (.getfield 22, 3) := by decide +kernel
theorem dX6_isOf_9 : decode cX6_isOf 9 = .ok (.if_icmp .ge 30, 3) := by decide +kernel
theorem dX6_isOf_12 : decode cX6_isOf 12 = .ok (.aload_n 0, 1) := by decide +kernel
theorem dX6_isOf_13 : decode cX6_isOf 13 = .ok (.getfield 9, 3) := by decide +kernel
theorem dX6_isOf_16 : decode cX6_isOf 16 = .ok (.iload_n 1, 1) := by decide +kernel
theorem dX6_isOf_17 : decode cX6_isOf 17 = .ok (.laload, 1) := by decide +kernel
theorem dX6_isOf_18 : decode cX6_isOf 18 = .ok (.lload_n 2, 1) := by decide +kernel
theorem dX6_isOf_19 : decode cX6_isOf 19 = .ok (.lcmp, 1) := by decide +kernel
theorem dX6_isOf_20 : decode cX6_isOf 20 = .ok (.ifCond .ne 19, 3) := by decide +kernel
theorem dX6_isOf_23 : decode cX6_isOf 23 = .ok (.aload_n 0, 1) := by decide +kernel
theorem dX6_isOf_24 : decode cX6_isOf 24 = .ok (.getfield 15, 3) := by decide +kernel
theorem dX6_isOf_27 : decode cX6_isOf 27 = .ok (.iload_n 1, 1) := by decide +kernel
theorem dX6_isOf_28 : decode cX6_isOf 28 = .ok (.laload, 1) := by decide +kernel
theorem dX6_isOf_29 : decode cX6_isOf 29 = .ok (.lload 4, 2) := by decide +kernel
theorem dX6_isOf_31 : decode cX6_isOf 31 = .ok (.lcmp, 1) := by decide +kernel
theorem dX6_isOf_32 : decode cX6_isOf 32 = .ok (.ifCond .ne 7, 3) := by decide +kernel
theorem dX6_isOf_35 : decode cX6_isOf 35 = .ok (.iconst 1, 1) := by decide +kernel
theorem dX6_isOf_36 : decode cX6_isOf 36 = .ok (.goto 4, 3) := by decide +kernel
theorem dX6_isOf_39 : decode cX6_isOf 39 = .ok (.iconst 0, 1) := by decide +kernel
theorem dX6_isOf_40 : decode cX6_isOf 40 = .ok (.ireturn, 1) := by decide +kernel
theorem dX6_placeOf_0 : decode cX6_placeOf 0 = .ok (.iconst 0, 1) := by decide +kernel
theorem dX6_placeOf_1 : decode cX6_placeOf 1 = .ok (.istore 6, 2) := by decide +kernel
theorem dX6_placeOf_3 : decode cX6_placeOf 3 = .ok (.iload 6, 2) := by decide +kernel
theorem dX6_placeOf_5 : decode cX6_placeOf 5 = .ok (.aload_n 0, 1) := by decide +kernel
theorem dX6_placeOf_6 : decode cX6_placeOf 6 = .ok (.getfield 22, 3) := by decide +kernel
theorem dX6_placeOf_9 : decode cX6_placeOf 9 = .ok (.if_icmp .ge 35, 3) := by decide +kernel
theorem dX6_placeOf_12 : decode cX6_placeOf 12 = .ok (.aload_n 0, 1) := by decide +kernel
theorem dX6_placeOf_13 : decode cX6_placeOf 13 = .ok (.iload 6, 2) := by decide +kernel
theorem dX6_placeOf_15 : decode cX6_placeOf 15 = .ok (.lload_n 1, 1) := by decide +kernel
theorem dX6_placeOf_16 : decode cX6_placeOf 16 = .ok (.lload_n 3, 1) := by decide +kernel
theorem dX6_placeOf_17 : decode cX6_placeOf 17 = .ok (.invokevirtual 49, 3) := by decide +kernel
theorem dX6_placeOf_20 : decode cX6_placeOf 20 = .ok (.ifCond .eq 18, 3) := by decide +kernel
theorem dX6_placeOf_23 : decode cX6_placeOf 23 = .ok (.aload_n 0, 1) := by decide +kernel
theorem dX6_placeOf_24 : decode cX6_placeOf 24 = .ok (.getfield 18, 3) := by decide +kernel
theorem dX6_placeOf_27 : decode cX6_placeOf 27 = .ok (.iload 6, 2) := by decide +kernel
theorem dX6_placeOf_29 : decode cX6_placeOf 29 = .ok (.iaload, 1) := by decide +kernel
theorem dX6_placeOf_30 : decode cX6_placeOf 30 = .ok (.iload 5, 2) := by decide +kernel
theorem dX6_placeOf_32 : decode cX6_placeOf 32 = .ok (.if_icmp .ne 6, 3) := by decide +kernel
theorem dX6_placeOf_35 : decode cX6_placeOf 35 = .ok (.iload 6, 2) := by decide +kernel
theorem dX6_placeOf_37 : decode cX6_placeOf 37 = .ok (.ireturn, 1) := by decide +kernel
theorem dX6_placeOf_38 : decode cX6_placeOf 38 = .ok (.iinc 6 1, 3) := by decide +kernel
theorem dX6_placeOf_41 : decode cX6_placeOf 41 = .ok (.goto (-38), 3) := by decide +kernel
theorem dX6_placeOf_44 : decode cX6_placeOf 44 = .ok (.iconst (-1), 1) := by decide +kernel
theorem dX6_placeOf_45 : decode cX6_placeOf 45 = .ok (.ireturn, 1) := by decide +kernel
theorem dX7_isSecret_0 : decode cX7_isSecret 0 = .ok (.iload_n 0, 1) := by decide +kernel
theorem dX7_isSecret_1 : decode cX7_isSecret 1 = .ok (.iconst 1, 1) := by decide +kernel
theorem dX7_isSecret_2 : decode cX7_isSecret 2 = .ok (.if_icmp .lt 16, 3) := by decide +kernel
theorem dX7_isSecret_5 : decode cX7_isSecret 5 = .ok (.iload_n 0, 1) := by decide +kernel
theorem dX7_isSecret_6 : decode cX7_isSecret 6 = .ok (.i2l, 1) := by decide +kernel
theorem dX7_isSecret_7 : decode cX7_isSecret 7 = .ok (.ldc2_w 9, 3) := by decide +kernel
theorem dX7_isSecret_10 : decode cX7_isSecret 10 = .ok (.lcmp, 1) := by decide +kernel
theorem dX7_isSecret_11 : decode cX7_isSecret 11 = .ok (.ifCond .ge 7, 3) := by decide +kernel
theorem dX7_isSecret_14 : decode cX7_isSecret 14 = .ok (.iconst 1, 1) := by decide +kernel
theorem dX7_isSecret_15 : decode cX7_isSecret 15 = .ok (.goto 4, 3) := by decide +kernel
theorem dX7_isSecret_18 : decode cX7_isSecret 18 = .ok (.iconst 0, 1) := by decide +kernel
theorem dX7_isSecret_19 : decode cX7_isSecret 19 = .ok (.ireturn, 1) := by decide +kernel
theorem dX7_publicKey_0 : decode cX7_publicKey 0 = .ok (.ldc2_w 11, 3) := by decide +kernel
theorem dX7_publicKey_3 : decode cX7_publicKey 3 = .ok (.iload_n 0, 1) := by decide +kernel
theorem dX7_publicKey_4 : decode cX7_publicKey 4 = .ok (.i2l, 1) := by decide +kernel
theorem dX7_publicKey_5 : decode cX7_publicKey 5 = .ok (.invokestatic 13, 3) := by decide +kernel
theorem dX7_publicKey_8 : decode cX7_publicKey 8 = .ok (.l2i, 1) := by decide +kernel
theorem dX7_publicKey_9 : decode cX7_publicKey 9 = .ok (.ireturn, 1) := by decide +kernel
theorem dX7_hashStep_0 : decode cX7_hashStep 0 = .ok (.lload_n 0, 1) := by decide +kernel
theorem dX7_hashStep_1 : decode cX7_hashStep 1 = .ok (.iload_n 2, 1) := by decide +kernel
theorem dX7_hashStep_2 : decode cX7_hashStep 2 = .ok (.sipush 255, 3) := by decide +kernel
theorem dX7_hashStep_5 : decode cX7_hashStep 5 = .ok (.iand, 1) := by decide +kernel
theorem dX7_hashStep_6 : decode cX7_hashStep 6 = .ok (.i2l, 1) := by decide +kernel
theorem dX7_hashStep_7 : decode cX7_hashStep 7 = .ok (.lxor, 1) := by decide +kernel
theorem dX7_hashStep_8 : decode cX7_hashStep 8 = .ok (.ldc2_w 17, 3) := by decide +kernel
theorem dX7_hashStep_11 : decode cX7_hashStep 11 = .ok (.lmul, 1) := by decide +kernel
theorem dX7_hashStep_12 : decode cX7_hashStep 12 = .ok (.lstore_n 3, 1) := by decide +kernel
theorem dX7_hashStep_13 : decode cX7_hashStep 13 = .ok (.lload_n 3, 1) := by decide +kernel
theorem dX7_hashStep_14 : decode cX7_hashStep 14 = .ok (.lload_n 3, 1) := by decide +kernel
theorem dX7_hashStep_15 : decode cX7_hashStep 15 = .ok (.bipush 29, 2) := by decide +kernel
theorem dX7_hashStep_17 : decode cX7_hashStep 17 = .ok (.lushr, 1) := by decide +kernel
theorem dX7_hashStep_18 : decode cX7_hashStep 18 = .ok (.lxor, 1) := by decide +kernel
theorem dX7_hashStep_19 : decode cX7_hashStep 19 = .ok (.lreturn, 1) := by decide +kernel
theorem dX7_hashEnd_0 : decode cX7_hashEnd 0 = .ok (.lload_n 0, 1) := by decide +kernel
theorem dX7_hashEnd_1 : decode cX7_hashEnd 1 = .ok (.ldc2_w 19, 3) := by decide +kernel
theorem dX7_hashEnd_4 : decode cX7_hashEnd 4 = .ok (.lmul, 1) := by decide +kernel
theorem dX7_hashEnd_5 : decode cX7_hashEnd 5 = .ok (.lstore_n 2, 1) := by decide +kernel
theorem dX7_hashEnd_6 : decode cX7_hashEnd 6 = .ok (.lload_n 2, 1) := by decide +kernel
theorem dX7_hashEnd_7 : decode cX7_hashEnd 7 = .ok (.lload_n 2, 1) := by decide +kernel
theorem dX7_hashEnd_8 : decode cX7_hashEnd 8 = .ok (.bipush 32, 2) := by decide +kernel
theorem dX7_hashEnd_10 : decode cX7_hashEnd 10 = .ok (.lushr, 1) := by decide +kernel
theorem dX7_hashEnd_11 : decode cX7_hashEnd 11 = .ok (.lxor, 1) := by decide +kernel
theorem dX7_hashEnd_12 : decode cX7_hashEnd 12 = .ok (.lreturn, 1) := by decide +kernel
theorem dX7_hashLong_0 : decode cX7_hashLong 0 = .ok (.lload_n 0, 1) := by decide +kernel
theorem dX7_hashLong_1 : decode cX7_hashLong 1 = .ok (.lstore 4, 2) := by decide +kernel
theorem dX7_hashLong_3 : decode cX7_hashLong 3 = .ok (.bipush 56, 2) := by decide +kernel
theorem dX7_hashLong_5 : decode cX7_hashLong 5 = .ok (.istore 6, 2) := by decide +kernel
theorem dX7_hashLong_7 : decode cX7_hashLong 7 = .ok (.iload 6, 2) := by decide +kernel
theorem dX7_hashLong_9 : decode cX7_hashLong 9 = .ok (.ifCond .lt 21, 3) := by decide +kernel
theorem dX7_hashLong_12 : decode cX7_hashLong 12 = .ok (.lload 4, 2) := by decide +kernel
theorem dX7_hashLong_14 : decode cX7_hashLong 14 = .ok (.lload_n 2, 1) := by decide +kernel
theorem dX7_hashLong_15 : decode cX7_hashLong 15 = .ok (.iload 6, 2) := by decide +kernel
theorem dX7_hashLong_17 : decode cX7_hashLong 17 = .ok (.lushr, 1) := by decide +kernel
theorem dX7_hashLong_18 : decode cX7_hashLong 18 = .ok (.l2i, 1) := by decide +kernel
theorem dX7_hashLong_19 : decode cX7_hashLong 19 = .ok (.invokestatic 21, 3) := by decide +kernel
theorem dX7_hashLong_22 : decode cX7_hashLong 22 = .ok (.lstore 4, 2) := by decide +kernel
theorem dX7_hashLong_24 : decode cX7_hashLong 24 = .ok (.iinc 6 (-8), 3) := by decide +kernel
theorem dX7_hashLong_27 : decode cX7_hashLong 27 = .ok (.goto (-20), 3) := by decide +kernel
theorem dX7_hashLong_30 : decode cX7_hashLong 30 = .ok (.lload 4, 2) := by decide +kernel
theorem dX7_hashLong_32 : decode cX7_hashLong 32 = .ok (.lreturn, 1) := by decide +kernel
theorem dX7_hashOf_0 : decode cX7_hashOf 0 = .ok (.ldc2_w 25, 3) := by decide +kernel
theorem dX7_hashOf_3 : decode cX7_hashOf 3 = .ok (.lload_n 0, 1) := by decide +kernel
theorem dX7_hashOf_4 : decode cX7_hashOf 4 = .ok (.invokestatic 27, 3) := by decide +kernel
theorem dX7_hashOf_7 : decode cX7_hashOf 7 = .ok (.invokestatic 30, 3) := by decide +kernel
theorem dX7_hashOf_10 : decode cX7_hashOf 10 = .ok (.lreturn, 1) := by decide +kernel
theorem dX7_hashOfBoth_0 : decode cX7_hashOfBoth 0 = .ok (.ldc2_w 25, 3) := by decide +kernel
theorem dX7_hashOfBoth_3 : decode cX7_hashOfBoth 3 = .ok (.lload_n 0, 1) := by decide +kernel
theorem dX7_hashOfBoth_4 : decode cX7_hashOfBoth 4 = .ok (.invokestatic 27, 3) := by decide +kernel
theorem dX7_hashOfBoth_7 : decode cX7_hashOfBoth 7 = .ok (.lload_n 2, 1) := by decide +kernel
theorem dX7_hashOfBoth_8 : decode cX7_hashOfBoth 8 = .ok (.invokestatic 27, 3) := by decide +kernel
theorem dX7_hashOfBoth_11 : decode cX7_hashOfBoth 11 = .ok (.invokestatic 30, 3) := by decide +kernel
theorem dX7_hashOfBoth_14 : decode cX7_hashOfBoth 14 = .ok (.lreturn, 1) := by decide +kernel
theorem dX7_remainder_0 : decode cX7_remainder 0 = .ok (.lload_n 2, 1) := by decide +kernel
theorem dX7_remainder_1 : decode cX7_remainder 1 = .ok (.lconst 0, 1) := by decide +kernel
theorem dX7_remainder_2 : decode cX7_remainder 2 = .ok (.lcmp, 1) := by decide +kernel
theorem dX7_remainder_3 : decode cX7_remainder 3 = .ok (.ifCond .gt 5, 3) := by decide +kernel
theorem dX7_remainder_6 : decode cX7_remainder 6 = .ok (.lconst 0, 1) := by decide +kernel
theorem dX7_remainder_7 : decode cX7_remainder 7 = .ok (.lreturn, 1) := by decide +kernel
theorem dX7_remainder_8 : decode cX7_remainder 8 = .ok (.lload_n 0, 1) := by decide +kernel
theorem dX7_remainder_9 : decode cX7_remainder 9 = .ok (.iconst 1, 1) := by decide +kernel
theorem dX7_remainder_10 : decode cX7_remainder 10 = .ok (.lushr, 1) := by decide +kernel
theorem dX7_remainder_11 : decode cX7_remainder 11 = .ok (.lload_n 2, 1) := by decide +kernel
theorem dX7_remainder_12 : decode cX7_remainder 12 = .ok (.lrem, 1) := by decide +kernel
theorem dX7_remainder_13 : decode cX7_remainder 13 = .ok (.ldc2_w 34, 3) := by decide +kernel
theorem dX7_remainder_16 : decode cX7_remainder 16 = .ok (.lmul, 1) := by decide +kernel
theorem dX7_remainder_17 : decode cX7_remainder 17 = .ok (.lload_n 0, 1) := by decide +kernel
theorem dX7_remainder_18 : decode cX7_remainder 18 = .ok (.lconst 1, 1) := by decide +kernel
theorem dX7_remainder_19 : decode cX7_remainder 19 = .ok (.land, 1) := by decide +kernel
theorem dX7_remainder_20 : decode cX7_remainder 20 = .ok (.ladd, 1) := by decide +kernel
theorem dX7_remainder_21 : decode cX7_remainder 21 = .ok (.lload_n 2, 1) := by decide +kernel
theorem dX7_remainder_22 : decode cX7_remainder 22 = .ok (.lrem, 1) := by decide +kernel
theorem dX7_remainder_23 : decode cX7_remainder 23 = .ok (.lreturn, 1) := by decide +kernel
theorem dX7_power_0 : decode cX7_power 0 = .ok (.lconst 1, 1) := by decide +kernel
theorem dX7_power_1 : decode cX7_power 1 = .ok (.lstore 4, 2) := by decide +kernel
theorem dX7_power_3 : decode cX7_power 3 = .ok (.lload_n 0, 1) := by decide +kernel
theorem dX7_power_4 : decode cX7_power 4 = .ok (.ldc2_w 36, 3) := by decide +kernel
theorem dX7_power_7 : decode cX7_power 7 = .ok (.lrem, 1) := by decide +kernel
theorem dX7_power_8 : decode cX7_power 8 = .ok (.lstore 6, 2) := by decide +kernel
theorem dX7_power_10 : decode cX7_power 10 = .ok (.iconst 0, 1) := by decide +kernel
theorem dX7_power_11 : decode cX7_power 11 = .ok (.istore 8, 2) := by decide +kernel
theorem dX7_power_13 : decode cX7_power 13 = .ok (.iload 8, 2) := by decide +kernel
theorem dX7_power_15 : decode cX7_power 15 = .ok (.bipush 31, 2) := by decide +kernel
theorem dX7_power_17 : decode cX7_power 17 = .ok (.if_icmp .ge 42, 3) := by decide +kernel
theorem dX7_power_20 : decode cX7_power 20 = .ok (.lload_n 2, 1) := by decide +kernel
theorem dX7_power_21 : decode cX7_power 21 = .ok (.iload 8, 2) := by decide +kernel
theorem dX7_power_23 : decode cX7_power 23 = .ok (.lushr, 1) := by decide +kernel
theorem dX7_power_24 : decode cX7_power 24 = .ok (.lconst 1, 1) := by decide +kernel
theorem dX7_power_25 : decode cX7_power 25 = .ok (.land, 1) := by decide +kernel
theorem dX7_power_26 : decode cX7_power 26 = .ok (.lconst 1, 1) := by decide +kernel
theorem dX7_power_27 : decode cX7_power 27 = .ok (.lcmp, 1) := by decide +kernel
theorem dX7_power_28 : decode cX7_power 28 = .ok (.ifCond .ne 14, 3) := by decide +kernel
theorem dX7_power_31 : decode cX7_power 31 = .ok (.lload 4, 2) := by decide +kernel
theorem dX7_power_33 : decode cX7_power 33 = .ok (.lload 6, 2) := by decide +kernel
theorem dX7_power_35 : decode cX7_power 35 = .ok (.lmul, 1) := by decide +kernel
theorem dX7_power_36 : decode cX7_power 36 = .ok (.ldc2_w 36, 3) := by decide +kernel
theorem dX7_power_39 : decode cX7_power 39 = .ok (.lrem, 1) := by decide +kernel
theorem dX7_power_40 : decode cX7_power 40 = .ok (.lstore 4, 2) := by decide +kernel
theorem dX7_power_42 : decode cX7_power 42 = .ok (.lload 6, 2) := by decide +kernel
theorem dX7_power_44 : decode cX7_power 44 = .ok (.lload 6, 2) := by decide +kernel
theorem dX7_power_46 : decode cX7_power 46 = .ok (.lmul, 1) := by decide +kernel
theorem dX7_power_47 : decode cX7_power 47 = .ok (.ldc2_w 36, 3) := by decide +kernel
theorem dX7_power_50 : decode cX7_power 50 = .ok (.lrem, 1) := by decide +kernel
theorem dX7_power_51 : decode cX7_power 51 = .ok (.lstore 6, 2) := by decide +kernel
theorem dX7_power_53 : decode cX7_power 53 = .ok (.iinc 8 1, 3) := by decide +kernel
theorem dX7_power_56 : decode cX7_power 56 = .ok (.goto (-43), 3) := by decide +kernel
theorem dX7_power_59 : decode cX7_power 59 = .ok (.lload 4, 2) := by decide +kernel
theorem dX7_power_61 : decode cX7_power 61 = .ok (.lreturn, 1) := by decide +kernel
theorem dX7_signature_0 : decode cX7_signature 0 = .ok (.lconst 1, 1) := by decide +kernel
theorem dX7_signature_1 : decode cX7_signature 1 = .ok (.iload_n 0, 1) := by decide +kernel
theorem dX7_signature_2 : decode cX7_signature 2 = .ok (.i2l, 1) := by decide +kernel
theorem dX7_signature_3 : decode cX7_signature 3 = .ok (.lload_n 1, 1) := by decide +kernel
theorem dX7_signature_4 : decode cX7_signature 4 = .ok (.invokestatic 38, 3) := by decide +kernel
theorem dX7_signature_7 : decode cX7_signature 7 = .ok (.ldc2_w 41, 3) := by decide +kernel
theorem dX7_signature_10 : decode cX7_signature 10 = .ok (.invokestatic 43, 3) := by decide +kernel
theorem dX7_signature_13 : decode cX7_signature 13 = .ok (.ladd, 1) := by decide +kernel
theorem dX7_signature_14 : decode cX7_signature 14 = .ok (.lstore_n 3, 1) := by decide +kernel
theorem dX7_signature_15 : decode cX7_signature 15 = .ok (.ldc2_w 11, 3) := by decide +kernel
theorem dX7_signature_18 : decode cX7_signature 18 = .ok (.lload_n 3, 1) := by decide +kernel
theorem dX7_signature_19 : decode cX7_signature 19 = .ok (.invokestatic 13, 3) := by decide +kernel
theorem dX7_signature_22 : decode cX7_signature 22 = .ok (.lload_n 1, 1) := by decide +kernel
theorem dX7_signature_23 : decode cX7_signature 23 = .ok (.invokestatic 38, 3) := by decide +kernel
theorem dX7_signature_26 : decode cX7_signature 26 = .ok (.ldc2_w 9, 3) := by decide +kernel
theorem dX7_signature_29 : decode cX7_signature 29 = .ok (.invokestatic 43, 3) := by decide +kernel
theorem dX7_signature_32 : decode cX7_signature 32 = .ok (.lstore 5, 2) := by decide +kernel
theorem dX7_signature_34 : decode cX7_signature 34 = .ok (.lload_n 3, 1) := by decide +kernel
theorem dX7_signature_35 : decode cX7_signature 35 = .ok (.lload 5, 2) := by decide +kernel
theorem dX7_signature_37 : decode cX7_signature 37 = .ok (.iload_n 0, 1) := by decide +kernel
theorem dX7_signature_38 : decode cX7_signature 38 = .ok (.i2l, 1) := by decide +kernel
theorem dX7_signature_39 : decode cX7_signature 39 = .ok (.lmul, 1) := by decide +kernel
theorem dX7_signature_40 : decode cX7_signature 40 = .ok (.ladd, 1) := by decide +kernel
theorem dX7_signature_41 : decode cX7_signature 41 = .ok (.ldc2_w 9, 3) := by decide +kernel
theorem dX7_signature_44 : decode cX7_signature 44 = .ok (.lrem, 1) := by decide +kernel
theorem dX7_signature_45 : decode cX7_signature 45 = .ok (.lstore 7, 2) := by decide +kernel
theorem dX7_signature_47 : decode cX7_signature 47 = .ok (.lload 5, 2) := by decide +kernel
theorem dX7_signature_49 : decode cX7_signature 49 = .ok (.bipush 32, 2) := by decide +kernel
theorem dX7_signature_51 : decode cX7_signature 51 = .ok (.lshl, 1) := by decide +kernel
theorem dX7_signature_52 : decode cX7_signature 52 = .ok (.lload 7, 2) := by decide +kernel
theorem dX7_signature_54 : decode cX7_signature 54 = .ok (.lor, 1) := by decide +kernel
theorem dX7_signature_55 : decode cX7_signature 55 = .ok (.lreturn, 1) := by decide +kernel
theorem dX7_isRight_0 : decode cX7_isRight 0 = .ok (.lload_n 0, 1) := by decide +kernel
theorem dX7_isRight_1 : decode cX7_isRight 1 = .ok (.bipush 32, 2) := by decide +kernel
theorem dX7_isRight_3 : decode cX7_isRight 3 = .ok (.lushr, 1) := by decide +kernel
theorem dX7_isRight_4 : decode cX7_isRight 4 = .ok (.lstore 6, 2) := by decide +kernel
theorem dX7_isRight_6 : decode cX7_isRight 6 = .ok (.lload_n 0, 1) := by decide +kernel
theorem dX7_isRight_7 : decode cX7_isRight 7 = .ok (.ldc2_w 46, 3) := by decide +kernel
theorem dX7_isRight_10 : decode cX7_isRight 10 = .ok (.land, 1) := by decide +kernel
theorem dX7_isRight_11 : decode cX7_isRight 11 = .ok (.lstore 8, 2) := by decide +kernel
theorem dX7_isRight_13 : decode cX7_isRight 13 = .ok (.lload 6, 2) := by decide +kernel
theorem dX7_isRight_15 : decode cX7_isRight 15 = .ok (.ldc2_w 9, 3) := by decide +kernel
theorem dX7_isRight_18 : decode cX7_isRight 18 = .ok (.lcmp, 1) := by decide +kernel
theorem dX7_isRight_19 : decode cX7_isRight 19 = .ok (.ifCond .ge 12, 3) := by decide +kernel
theorem dX7_isRight_22 : decode cX7_isRight 22 = .ok (.lload 8, 2) := by decide +kernel
theorem dX7_isRight_24 : decode cX7_isRight 24 = .ok (.ldc2_w 9, 3) := by decide +kernel
theorem dX7_isRight_27 : decode cX7_isRight 27 = .ok (.lcmp, 1) := by decide +kernel
theorem dX7_isRight_28 : decode cX7_isRight 28 = .ok (.ifCond .lt 5, 3) := by decide +kernel
theorem dX7_isRight_31 : decode cX7_isRight 31 = .ok (.iconst 0, 1) := by decide +kernel
theorem dX7_isRight_32 : decode cX7_isRight 32 = .ok (.ireturn, 1) := by decide +kernel
theorem dX7_isRight_33 : decode cX7_isRight 33 = .ok (.ldc2_w 11, 3) := by decide +kernel
theorem dX7_isRight_36 : decode cX7_isRight 36 = .ok (.lload 8, 2) := by decide +kernel
theorem dX7_isRight_38 : decode cX7_isRight 38 = .ok (.invokestatic 13, 3) := by decide +kernel
theorem dX7_isRight_41 : decode cX7_isRight 41 = .ok (.lload_n 2, 1) := by decide +kernel
theorem dX7_isRight_42 : decode cX7_isRight 42 = .ok (.ldc2_w 9, 3) := by decide +kernel
theorem dX7_isRight_45 : decode cX7_isRight 45 = .ok (.lload 6, 2) := by decide +kernel
theorem dX7_isRight_47 : decode cX7_isRight 47 = .ok (.lsub, 1) := by decide +kernel
theorem dX7_isRight_48 : decode cX7_isRight 48 = .ok (.invokestatic 13, 3) := by decide +kernel
theorem dX7_isRight_51 : decode cX7_isRight 51 = .ok (.lmul, 1) := by decide +kernel
theorem dX7_isRight_52 : decode cX7_isRight 52 = .ok (.ldc2_w 36, 3) := by decide +kernel
theorem dX7_isRight_55 : decode cX7_isRight 55 = .ok (.lrem, 1) := by decide +kernel
theorem dX7_isRight_56 : decode cX7_isRight 56 = .ok (.lstore 10, 2) := by decide +kernel
theorem dX7_isRight_58 : decode cX7_isRight 58 = .ok (.lload 6, 2) := by decide +kernel
theorem dX7_isRight_60 : decode cX7_isRight 60 = .ok (.lload 10, 2) := by decide +kernel
theorem dX7_isRight_62 : decode cX7_isRight 62 = .ok (.lload 4, 2) := by decide +kernel
theorem dX7_isRight_64 : decode cX7_isRight 64 = .ok (.invokestatic 38, 3) := by decide +kernel
theorem dX7_isRight_67 : decode cX7_isRight 67 = .ok (.ldc2_w 9, 3) := by decide +kernel
theorem dX7_isRight_70 : decode cX7_isRight 70 = .ok (.invokestatic 43, 3) := by decide +kernel
theorem dX7_isRight_73 : decode cX7_isRight 73 = .ok (.lcmp, 1) := by decide +kernel
theorem dX7_isRight_74 : decode cX7_isRight 74 = .ok (.ifCond .ne 7, 3) := by decide +kernel
theorem dX7_isRight_77 : decode cX7_isRight 77 = .ok (.iconst 1, 1) := by decide +kernel
theorem dX7_isRight_78 : decode cX7_isRight 78 = .ok (.goto 4, 3) := by decide +kernel
theorem dX7_isRight_81 : decode cX7_isRight 81 = .ok (.iconst 0, 1) := by decide +kernel
theorem dX7_isRight_82 : decode cX7_isRight 82 = .ok (.ireturn, 1) := by decide +kernel
theorem dX8_init_0 : decode cX8_init 0 = .ok (.aload_n 0, 1) := by decide +kernel
theorem dX8_init_1 : decode cX8_init 1 = .ok (.invokespecial 3, 3) := by decide +kernel
theorem dX8_init_4 : decode cX8_init 4 = .ok (.aload_n 0, 1) := by decide +kernel
theorem dX8_init_5 : decode cX8_init 5 = .ok (.bipush 12, 2) := by decide +kernel
theorem dX8_init_7 : decode cX8_init 7 = .ok (.newarray .int, 2) := by decide +kernel
theorem dX8_init_9 : decode cX8_init 9 = .ok (.putfield 11, 3) := by decide +kernel
theorem dX8_init_12 : decode cX8_init 12 = .ok (.aload_n 0, 1) := by decide +kernel
theorem dX8_init_13 : decode cX8_init 13 = .ok (.iconst 0, 1) := by decide +kernel
theorem dX8_init_14 : decode cX8_init 14 = .ok (.newarray .byte, 2) := by decide +kernel
theorem dX8_init_16 : decode cX8_init 16 = .ok (.putfield 15, 3) := by decide +kernel
theorem dX8_init_19 : decode cX8_init 19 = .ok (.return_, 1) := by decide +kernel
theorem dX8_begin_0 : decode cX8_begin 0 = .ok (.aload_n 0, 1) := by decide +kernel
theorem dX8_begin_1 : decode cX8_begin 1 = .ok (.aload_n 1, 1) := by decide +kernel
theorem dX8_begin_2 : decode cX8_begin 2 = .ok (.getfield 19, 3) := by decide +kernel
theorem dX8_begin_5 : decode cX8_begin 5 = .ok (.putfield 15, 3) := by decide +kernel
theorem dX8_begin_8 : decode cX8_begin 8 = .ok (.aload_n 0, 1) := by decide +kernel
theorem dX8_begin_9 : decode cX8_begin 9 = .ok (.iconst 0, 1) := by decide +kernel
theorem dX8_begin_10 : decode cX8_begin 10 = .ok (.putfield 22, 3) := by decide +kernel
theorem dX8_begin_13 : decode cX8_begin 13 = .ok (.aload_n 0, 1) := by decide +kernel
theorem dX8_begin_14 : decode cX8_begin 14 = .ok (.aload_n 1, 1) := by decide +kernel
theorem dX8_begin_15 : decode cX8_begin 15 = .ok (.getfield 26, 3) := by decide +kernel
theorem dX8_begin_18 : decode cX8_begin 18 = .ok (.aload_n 0, 1) := by decide +kernel
theorem dX8_begin_19 : decode cX8_begin 19 = .ok (.getfield 15, 3) := by decide +kernel
theorem dX8_begin_22 : decode cX8_begin 22 = .ok (.arraylength, 1) := by decide +kernel
theorem dX8_begin_23 : decode cX8_begin 23 = .ok (.invokestatic 29, 3) := by decide +kernel
theorem dX8_begin_26 : decode cX8_begin 26 = .ok (.putfield 35, 3) := by decide +kernel
theorem dX8_begin_29 : decode cX8_begin 29 = .ok (.aload_n 0, 1) := by decide +kernel
theorem dX8_begin_30 : decode cX8_begin 30 = .ok (.iconst 0, 1) := by decide +kernel
theorem dX8_begin_31 : decode cX8_begin 31 = .ok (.putfield 38, 3) := by decide +kernel
theorem dX8_begin_34 : decode cX8_begin 34 = .ok (.aload_n 0, 1) := by decide +kernel
theorem dX8_begin_35 : decode cX8_begin 35 = .ok (.iconst 0, 1) := by decide +kernel
theorem dX8_begin_36 : decode cX8_begin 36 = .ok (.putfield 41, 3) := by decide +kernel
theorem dX8_begin_39 : decode cX8_begin 39 = .ok (.aload_n 0, 1) := by decide +kernel
theorem dX8_begin_40 : decode cX8_begin 40 = .ok (.iconst 0, 1) := by decide +kernel
theorem dX8_begin_41 : decode cX8_begin 41 = .ok (.putfield 44, 3) := by decide +kernel
theorem dX8_begin_44 : decode cX8_begin 44 = .ok (.aload_n 0, 1) := by decide +kernel
theorem dX8_begin_45 : decode cX8_begin 45 = .ok (.iconst (-1), 1) := by decide +kernel
theorem dX8_begin_46 : decode cX8_begin 46 = .ok (.putfield 47, 3) := by decide +kernel
theorem dX8_begin_49 : decode cX8_begin 49 = .ok (.aload_n 0, 1) := by decide +kernel
theorem dX8_begin_50 : decode cX8_begin 50 = .ok (.iconst 0, 1) := by decide +kernel
theorem dX8_begin_51 : decode cX8_begin 51 = .ok (.putfield 50, 3) := by decide +kernel
theorem dX8_begin_54 : decode cX8_begin 54 = .ok (.return_, 1) := by decide +kernel
theorem dX8_hasMore_0 : decode cX8_hasMore 0 = .ok (.aload_n 0, 1) := by decide +kernel
theorem dX8_hasMore_1 : decode cX8_hasMore 1 = .ok (.getfield 47, 3) := by decide +kernel
theorem dX8_hasMore_4 : decode cX8_hasMore 4 = .ok (.iconst (-1), 1) := by decide +kernel
theorem dX8_hasMore_5 : decode cX8_hasMore 5 = .ok (.if_icmp .ne 18, 3) := by decide +kernel
theorem dX8_hasMore_8 : decode cX8_hasMore 8 = .ok (.aload_n 0, 1) := by decide +kernel
theorem dX8_hasMore_9 : decode cX8_hasMore 9 = .ok (.getfield 38, 3) := by decide +kernel
theorem dX8_hasMore_12 : decode cX8_hasMore 12 = .ok (.aload_n 0, 1) := by decide +kernel
theorem dX8_hasMore_13 : decode cX8_hasMore 13 = .ok (.getfield 35, 3) := by decide +kernel
theorem dX8_hasMore_16 : decode cX8_hasMore 16 = .ok (.if_icmp .ge 7, 3) := by decide +kernel
theorem dX8_hasMore_19 : decode cX8_hasMore 19 = .ok (.iconst 1, 1) := by decide +kernel
theorem dX8_hasMore_20 : decode cX8_hasMore 20 = .ok (.goto 4, 3) := by decide +kernel
theorem dX8_hasMore_23 : decode cX8_hasMore 23 = .ok (.iconst 0, 1) := by decide +kernel
theorem dX8_hasMore_24 : decode cX8_hasMore 24 = .ok (.ireturn, 1) := by decide +kernel
theorem dX8_sortAhead_0 : decode cX8_sortAhead 0 = .ok (.aload_n 0, 1) := by decide +kernel
theorem dX8_sortAhead_1 : decode cX8_sortAhead 1 = .ok (.getfield 47, 3) := by decide +kernel
theorem dX8_sortAhead_4 : decode cX8_sortAhead 4 = .ok (.iconst (-1), 1) := by decide +kernel
theorem dX8_sortAhead_5 : decode cX8_sortAhead 5 = .ok (.if_icmp .ne 30, 3) := by decide +kernel
theorem dX8_sortAhead_8 : decode cX8_sortAhead 8 = .ok (.aload_n 0, 1) := by decide +kernel
theorem dX8_sortAhead_9 : decode cX8_sortAhead 9 = .ok (.getfield 38, 3) := by decide +kernel
theorem dX8_sortAhead_12 : decode cX8_sortAhead 12 = .ok (.aload_n 0, 1) := by decide +kernel
theorem dX8_sortAhead_13 : decode cX8_sortAhead 13 = .ok (.getfield 35, 3) := by decide +kernel
theorem dX8_sortAhead_16 : decode cX8_sortAhead 16 = .ok (.if_icmp .ge 19, 3) := by decide +kernel
theorem dX8_sortAhead_19 : decode cX8_sortAhead 19 = .ok (.aload_n 0, 1) := by decide +kernel
theorem dX8_sortAhead_20 : decode cX8_sortAhead 20 = .ok (.getfield 15, 3) := by decide +kernel
theorem dX8_sortAhead_23 : decode cX8_sortAhead 23 = .ok (.aload_n 0, 1) := by decide +kernel
theorem dX8_sortAhead_24 : decode cX8_sortAhead 24 = .ok (.getfield 38, 3) := by decide +kernel
theorem dX8_sortAhead_27 : decode cX8_sortAhead 27 = .ok (.baload, 1) := by decide +kernel
theorem dX8_sortAhead_28 : decode cX8_sortAhead 28 = .ok (.sipush 255, 3) := by decide +kernel
theorem dX8_sortAhead_31 : decode cX8_sortAhead 31 = .ok (.iand, 1) := by decide +kernel
theorem dX8_sortAhead_32 : decode cX8_sortAhead 32 = .ok (.goto 4, 3) := by decide +kernel
theorem dX8_sortAhead_35 : decode cX8_sortAhead 35 = .ok (.iconst (-1), 1) := by decide +kernel
theorem dX8_sortAhead_36 : decode cX8_sortAhead 36 = .ok (.ireturn, 1) := by decide +kernel
theorem dX8_enter_0 : decode cX8_enter 0 = .ok (.aload_n 0, 1) := by decide +kernel
theorem dX8_enter_1 : decode cX8_enter 1 = .ok (.aload_n 0, 1) := by decide +kernel
theorem dX8_enter_2 : decode cX8_enter 2 = .ok (.getfield 38, 3) := by decide +kernel
theorem dX8_enter_5 : decode cX8_enter 5 = .ok (.putfield 41, 3) := by decide +kernel
theorem dX8_enter_8 : decode cX8_enter 8 = .ok (.aload_n 0, 1) := by decide +kernel
theorem dX8_enter_9 : decode cX8_enter 9 = .ok (.invokevirtual 53, 3) := by decide +kernel
theorem dX8_enter_12 : decode cX8_enter 12 = .ok (.iload_n 1, 1) := by decide +kernel
theorem dX8_enter_13 : decode cX8_enter 13 = .ok (.if_icmp .ne 26, 3) := by decide +kernel
theorem dX8_enter_16 : decode cX8_enter 16 = .ok (.aload_n 0, 1) := by decide +kernel
theorem dX8_enter_17 : decode cX8_enter 17 = .ok (.invokevirtual 57, 3) := by decide +kernel
theorem dX8_enter_20 : decode cX8_enter 20 = .ok (.ifCond .eq 19, 3) := by decide +kernel
theorem dX8_enter_23 : decode cX8_enter 23 = .ok (.aload_n 0, 1) := by decide +kernel
theorem dX8_enter_24 : decode cX8_enter 24 = .ok (.getfield 44, 3) := by decide +kernel
theorem dX8_enter_27 : decode cX8_enter 27 = .ok (.iload_n 2, 1) := by decide +kernel
theorem dX8_enter_28 : decode cX8_enter 28 = .ok (.if_icmp .lt 11, 3) := by decide +kernel
theorem dX8_enter_31 : decode cX8_enter 31 = .ok (.aload_n 0, 1) := by decide +kernel
theorem dX8_enter_32 : decode cX8_enter 32 = .ok (.getfield 44, 3) := by decide +kernel
theorem dX8_enter_35 : decode cX8_enter 35 = .ok (.iload_n 3, 1) := by decide +kernel
theorem dX8_enter_36 : decode cX8_enter 36 = .ok (.if_icmp .le 9, 3) := by decide +kernel
theorem dX8_enter_39 : decode cX8_enter 39 = .ok (.aload_n 0, 1) := by decide +kernel
theorem dX8_enter_40 : decode cX8_enter 40 = .ok (.invokevirtual 61, 3) := by decide +kernel
theorem dX8_enter_43 : decode cX8_enter 43 = .ok (.iconst 0, 1) := by decide +kernel
theorem dX8_enter_44 : decode cX8_enter 44 = .ok (.ireturn, 1) := by decide +kernel
theorem dX8_enter_45 : decode cX8_enter 45 = .ok (.aload_n 0, 1) := by decide +kernel
theorem dX8_enter_46 : decode cX8_enter 46 = .ok (.dup, 1) := by decide +kernel
theorem dX8_enter_47 : decode cX8_enter 47 = .ok (.getfield 50, 3) := by decide +kernel
theorem dX8_enter_50 : decode cX8_enter 50 = .ok (.iconst 1, 1) := by decide +kernel
theorem dX8_enter_51 : decode cX8_enter 51 = .ok (.iadd, 1) := by decide +kernel
theorem dX8_enter_52 : decode cX8_enter 52 = .ok (.putfield 50, 3) := by decide +kernel
theorem dX8_enter_55 : decode cX8_enter 55 = .ok (.iconst 1, 1) := by decide +kernel
theorem dX8_enter_56 : decode cX8_enter 56 = .ok (.ireturn, 1) := by decide +kernel
theorem dX8_fail_0 : decode cX8_fail 0 = .ok (.aload_n 0, 1) := by decide +kernel
theorem dX8_fail_1 : decode cX8_fail 1 = .ok (.getfield 47, 3) := by decide +kernel
theorem dX8_fail_4 : decode cX8_fail 4 = .ok (.iconst (-1), 1) := by decide +kernel
theorem dX8_fail_5 : decode cX8_fail 5 = .ok (.if_icmp .ne 11, 3) := by decide +kernel
theorem dX8_fail_8 : decode cX8_fail 8 = .ok (.aload_n 0, 1) := by decide +kernel
theorem dX8_fail_9 : decode cX8_fail 9 = .ok (.aload_n 0, 1) := by decide +kernel
theorem dX8_fail_10 : decode cX8_fail 10 = .ok (.getfield 41, 3) := by decide +kernel
theorem dX8_fail_13 : decode cX8_fail 13 = .ok (.putfield 47, 3) := by decide +kernel
theorem dX8_fail_16 : decode cX8_fail 16 = .ok (.aload_n 0, 1) := by decide +kernel
theorem dX8_fail_17 : decode cX8_fail 17 = .ok (.iconst 0, 1) := by decide +kernel
theorem dX8_fail_18 : decode cX8_fail 18 = .ok (.putfield 44, 3) := by decide +kernel
theorem dX8_fail_21 : decode cX8_fail 21 = .ok (.return_, 1) := by decide +kernel
theorem dX8_passLength_0 : decode cX8_passLength 0 = .ok (.aload_n 0, 1) := by decide +kernel
theorem dX8_passLength_1 : decode cX8_passLength 1 = .ok (.getfield 38, 3) := by decide +kernel
theorem dX8_passLength_4 : decode cX8_passLength 4 = .ok (.iconst 2, 1) := by decide +kernel
theorem dX8_passLength_5 : decode cX8_passLength 5 = .ok (.iadd, 1) := by decide +kernel
theorem dX8_passLength_6 : decode cX8_passLength 6 = .ok (.istore_n 1, 1) := by decide +kernel
theorem dX8_passLength_7 : decode cX8_passLength 7 = .ok (.iload_n 1, 1) := by decide +kernel
theorem dX8_passLength_8 : decode cX8_passLength 8 = .ok (.aload_n 0, 1) := by decide +kernel
theorem dX8_passLength_9 : decode cX8_passLength 9 = .ok (.getfield 35, 3) := by decide +kernel
theorem dX8_passLength_12 : decode cX8_passLength 12 = .ok (.if_icmp .le 5, 3) := by decide +kernel
theorem dX8_passLength_15 : decode cX8_passLength 15 = .ok (.iconst 0, 1) := by decide +kernel
theorem dX8_passLength_16 : decode cX8_passLength 16 = .ok (.ireturn, 1) := by decide +kernel
theorem dX8_passLength_17 : decode cX8_passLength 17 = .ok (.aload_n 0, 1) := by decide +kernel
theorem dX8_passLength_18 : decode cX8_passLength 18 = .ok (.getfield 15, 3) := by decide +kernel
theorem dX8_passLength_21 : decode cX8_passLength 21 = .ok (.aload_n 0, 1) := by decide +kernel
theorem dX8_passLength_22 : decode cX8_passLength 22 = .ok (.getfield 38, 3) := by decide +kernel
theorem dX8_passLength_25 : decode cX8_passLength 25 = .ok (.iconst 1, 1) := by decide +kernel
theorem dX8_passLength_26 : decode cX8_passLength 26 = .ok (.iadd, 1) := by decide +kernel
theorem dX8_passLength_27 : decode cX8_passLength 27 = .ok (.baload, 1) := by decide +kernel
theorem dX8_passLength_28 : decode cX8_passLength 28 = .ok (.sipush 255, 3) := by decide +kernel
theorem dX8_passLength_31 : decode cX8_passLength 31 = .ok (.iand, 1) := by decide +kernel
theorem dX8_passLength_32 : decode cX8_passLength 32 = .ok (.istore_n 2, 1) := by decide +kernel
theorem dX8_passLength_33 : decode cX8_passLength 33 = .ok (.iload_n 2, 1) := by decide +kernel
theorem dX8_passLength_34 : decode cX8_passLength 34 = .ok (.sipush 128, 3) := by decide +kernel
theorem dX8_passLength_37 : decode cX8_passLength 37 = .ok (.if_icmp .ge 7, 3) := by decide +kernel
theorem dX8_passLength_40 : decode cX8_passLength 40 = .ok (.iconst 0, 1) := by decide +kernel
theorem dX8_passLength_41 : decode cX8_passLength 41 = .ok (.goto 8, 3) := by decide +kernel
theorem dX8_passLength_44 : decode cX8_passLength 44 = .ok (.iload_n 2, 1) := by decide +kernel
theorem dX8_passLength_45 : decode cX8_passLength 45 = .ok (.sipush 128, 3) := by decide +kernel
theorem dX8_passLength_48 : decode cX8_passLength 48 = .ok (.isub, 1) := by decide +kernel
theorem dX8_passLength_49 : decode cX8_passLength 49 = .ok (.istore_n 3, 1) := by decide +kernel
theorem dX8_passLength_50 : decode cX8_passLength 50 = .ok (.iload_n 2, 1) := by decide +kernel
theorem dX8_passLength_51 : decode cX8_passLength 51 = .ok (.sipush 128, 3) := by decide +kernel
theorem dX8_passLength_54 : decode cX8_passLength 54 = .ok (.if_icmp .eq 18, 3) := by decide +kernel
theorem dX8_passLength_57 : decode cX8_passLength 57 = .ok (.iload_n 3, 1) := by decide +kernel
theorem dX8_passLength_58 : decode cX8_passLength 58 = .ok (.iconst 2, 1) := by decide +kernel
theorem dX8_passLength_59 : decode cX8_passLength 59 = .ok (.if_icmp .gt 13, 3) := by decide +kernel
theorem dX8_passLength_62 : decode cX8_passLength 62 = .ok (.iload_n 1, 1) := by decide +kernel
theorem dX8_passLength_63 : decode cX8_passLength 63 = .ok (.iload_n 3, 1) := by decide +kernel
theorem dX8_passLength_64 : decode cX8_passLength 64 = .ok (.iadd, 1) := by decide +kernel
theorem dX8_passLength_65 : decode cX8_passLength 65 = .ok (.aload_n 0, 1) := by decide +kernel
theorem dX8_passLength_66 : decode cX8_passLength 66 = .ok (.getfield 35, 3) := by decide +kernel
theorem dX8_passLength_69 : decode cX8_passLength 69 = .ok (.if_icmp .le 5, 3) := by decide +kernel
theorem dX8_passLength_72 : decode cX8_passLength 72 = .ok (.iconst 0, 1) := by decide +kernel
theorem dX8_passLength_73 : decode cX8_passLength 73 = .ok (.ireturn, 1) := by decide +kernel
theorem dX8_passLength_74 : decode cX8_passLength 74 = .ok (.iload_n 2, 1) := by decide +kernel
theorem dX8_passLength_75 : decode cX8_passLength 75 = .ok (.istore 4, 2) := by decide +kernel
theorem dX8_passLength_77 : decode cX8_passLength 77 = .ok (.iload_n 3, 1) := by decide +kernel
theorem dX8_passLength_78 : decode cX8_passLength 78 = .ok (.iconst 1, 1) := by decide +kernel
theorem dX8_passLength_79 : decode cX8_passLength 79 = .ok (.if_icmp .ne 18, 3) := by decide +kernel
theorem dX8_passLength_82 : decode cX8_passLength 82 = .ok (.aload_n 0, 1) := by decide +kernel
theorem dX8_passLength_83 : decode cX8_passLength 83 = .ok (.getfield 15, 3) := by decide +kernel
theorem dX8_passLength_86 : decode cX8_passLength 86 = .ok (.iload_n 1, 1) := by decide +kernel
theorem dX8_passLength_87 : decode cX8_passLength 87 = .ok (.baload, 1) := by decide +kernel
theorem dX8_passLength_88 : decode cX8_passLength 88 = .ok (.sipush 255, 3) := by decide +kernel
theorem dX8_passLength_91 : decode cX8_passLength 91 = .ok (.iand, 1) := by decide +kernel
theorem dX8_passLength_92 : decode cX8_passLength 92 = .ok (.istore 4, 2) := by decide +kernel
theorem dX8_passLength_94 : decode cX8_passLength 94 = .ok (.goto 37, 3) := by decide +kernel
theorem dX8_passLength_97 : decode cX8_passLength 97 = .ok (.iload_n 3, 1) := by decide +kernel
theorem dX8_passLength_98 : decode cX8_passLength 98 = .ok (.iconst 2, 1) := by decide +kernel
theorem dX8_passLength_99 : decode cX8_passLength 99 = .ok (.if_icmp .ne 32, 3) := by decide +kernel
theorem dX8_passLength_102 : decode cX8_passLength 102 = .ok (.aload_n 0, 1) := by decide +kernel
theorem dX8_passLength_103 : decode cX8_passLength 103 = .ok (.getfield 15, 3) := by decide +kernel
theorem dX8_passLength_106 : decode cX8_passLength 106 = .ok (.iload_n 1, 1) := by decide +kernel
theorem dX8_passLength_107 : decode cX8_passLength 107 = .ok (.baload, 1) := by decide +kernel
theorem dX8_passLength_108 : decode cX8_passLength 108 = .ok (.sipush 255, 3) := by decide +kernel
theorem dX8_passLength_111 : decode cX8_passLength 111 = .ok (.iand, 1) := by decide +kernel
theorem dX8_passLength_112 : decode cX8_passLength 112 = .ok (.sipush 256, 3) := by decide +kernel
theorem dX8_passLength_115 : decode cX8_passLength 115 = .ok (.imul, 1) := by decide +kernel
theorem dX8_passLength_116 : decode cX8_passLength 116 = .ok (.aload_n 0, 1) := by decide +kernel
theorem dX8_passLength_117 : decode cX8_passLength 117 = .ok (.getfield 15, 3) := by decide +kernel
theorem dX8_passLength_120 : decode cX8_passLength 120 = .ok (.iload_n 1, 1) := by decide +kernel
theorem dX8_passLength_121 : decode cX8_passLength 121 = .ok (.iconst 1, 1) := by decide +kernel
theorem dX8_passLength_122 : decode cX8_passLength 122 = .ok (.iadd, 1) := by decide +kernel
theorem dX8_passLength_123 : decode cX8_passLength 123 = .ok (.baload, 1) := by decide +kernel
theorem dX8_passLength_124 : decode cX8_passLength 124 = .ok (.sipush 255, 3) := by decide +kernel
theorem dX8_passLength_127 : decode cX8_passLength 127 = .ok (.iand, 1) := by decide +kernel
theorem dX8_passLength_128 : decode cX8_passLength 128 = .ok (.iadd, 1) := by decide +kernel
theorem dX8_passLength_129 : decode cX8_passLength 129 = .ok (.istore 4, 2) := by decide +kernel
theorem dX8_passLength_131 : decode cX8_passLength 131 = .ok (.iload_n 3, 1) := by decide +kernel
theorem dX8_passLength_132 : decode cX8_passLength 132 = .ok (.ifCond .ne 7, 3) := by decide +kernel
theorem dX8_passLength_135 : decode cX8_passLength 135 = .ok (.iconst 0, 1) := by decide +kernel
theorem dX8_passLength_136 : decode cX8_passLength 136 = .ok (.goto 17, 3) := by decide +kernel
theorem dX8_passLength_139 : decode cX8_passLength 139 = .ok (.iload_n 3, 1) := by decide +kernel
theorem dX8_passLength_140 : decode cX8_passLength 140 = .ok (.iconst 1, 1) := by decide +kernel
theorem dX8_passLength_141 : decode cX8_passLength 141 = .ok (.if_icmp .ne 9, 3) := by decide +kernel
theorem dX8_passLength_144 : decode cX8_passLength 144 = .ok (.sipush 128, 3) := by decide +kernel
theorem dX8_passLength_147 : decode cX8_passLength 147 = .ok (.goto 6, 3) := by decide +kernel
theorem dX8_passLength_150 : decode cX8_passLength 150 = .ok (.sipush 256, 3) := by decide +kernel
theorem dX8_passLength_153 : decode cX8_passLength 153 = .ok (.istore 5, 2) := by decide +kernel
theorem dX8_passLength_155 : decode cX8_passLength 155 = .ok (.iload 4, 2) := by decide +kernel
theorem dX8_passLength_157 : decode cX8_passLength 157 = .ok (.iload 5, 2) := by decide +kernel
theorem dX8_passLength_159 : decode cX8_passLength 159 = .ok (.if_icmp .lt 16, 3) := by decide +kernel
theorem dX8_passLength_162 : decode cX8_passLength 162 = .ok (.iload_n 1, 1) := by decide +kernel
theorem dX8_passLength_163 : decode cX8_passLength 163 = .ok (.iload_n 3, 1) := by decide +kernel
theorem dX8_passLength_164 : decode cX8_passLength 164 = .ok (.iadd, 1) := by decide +kernel
theorem dX8_passLength_165 : decode cX8_passLength 165 = .ok (.iload 4, 2) := by decide +kernel
theorem dX8_passLength_167 : decode cX8_passLength 167 = .ok (.iadd, 1) := by decide +kernel
theorem dX8_passLength_168 : decode cX8_passLength 168 = .ok (.aload_n 0, 1) := by decide +kernel
theorem dX8_passLength_169 : decode cX8_passLength 169 = .ok (.getfield 35, 3) := by decide +kernel
theorem dX8_passLength_172 : decode cX8_passLength 172 = .ok (.if_icmp .le 5, 3) := by decide +kernel
theorem dX8_passLength_175 : decode cX8_passLength 175 = .ok (.iconst 0, 1) := by decide +kernel
theorem dX8_passLength_176 : decode cX8_passLength 176 = .ok (.ireturn, 1) := by decide +kernel
theorem dX8_passLength_177 : decode cX8_passLength 177 = .ok (.aload_n 0, 1) := by decide +kernel
theorem dX8_passLength_178 : decode cX8_passLength 178 = .ok (.iload_n 1, 1) := by decide +kernel
theorem dX8_passLength_179 : decode cX8_passLength 179 = .ok (.iload_n 3, 1) := by decide +kernel
theorem dX8_passLength_180 : decode cX8_passLength 180 = .ok (.iadd, 1) := by decide +kernel
theorem dX8_passLength_181 : decode cX8_passLength 181 = .ok (.putfield 38, 3) := by decide +kernel
theorem dX8_passLength_184 : decode cX8_passLength 184 = .ok (.aload_n 0, 1) := by decide +kernel
theorem dX8_passLength_185 : decode cX8_passLength 185 = .ok (.iload 4, 2) := by decide +kernel
theorem dX8_passLength_187 : decode cX8_passLength 187 = .ok (.putfield 44, 3) := by decide +kernel
theorem dX8_passLength_190 : decode cX8_passLength 190 = .ok (.iconst 1, 1) := by decide +kernel
theorem dX8_passLength_191 : decode cX8_passLength 191 = .ok (.ireturn, 1) := by decide +kernel
theorem dX8_open_0 : decode cX8_open 0 = .ok (.aload_n 0, 1) := by decide +kernel
theorem dX8_open_1 : decode cX8_open 1 = .ok (.iload_n 1, 1) := by decide +kernel
theorem dX8_open_2 : decode cX8_open 2 = .ok (.iconst 0, 1) := by decide +kernel
theorem dX8_open_3 : decode cX8_open 3 = .ok (.sipush 1500, 3) := by decide +kernel
theorem dX8_open_6 : decode cX8_open 6 = .ok (.invokevirtual 64, 3) := by decide +kernel
theorem dX8_open_9 : decode cX8_open 9 = .ok (.ifCond .ne 4, 3) := by decide +kernel
theorem dX8_open_12 : decode cX8_open 12 = .ok (.return_, 1) := by decide +kernel
theorem dX8_open_13 : decode cX8_open 13 = .ok (.aload_n 0, 1) := by decide +kernel
theorem dX8_open_14 : decode cX8_open 14 = .ok (.getfield 22, 3) := by decide +kernel
theorem dX8_open_17 : decode cX8_open 17 = .ok (.bipush 12, 2) := by decide +kernel
theorem dX8_open_19 : decode cX8_open 19 = .ok (.if_icmp .lt 8, 3) := by decide +kernel
theorem dX8_open_22 : decode cX8_open 22 = .ok (.aload_n 0, 1) := by decide +kernel
theorem dX8_open_23 : decode cX8_open 23 = .ok (.invokevirtual 61, 3) := by decide +kernel
theorem dX8_open_26 : decode cX8_open 26 = .ok (.return_, 1) := by decide +kernel
theorem dX8_open_27 : decode cX8_open 27 = .ok (.aload_n 0, 1) := by decide +kernel
theorem dX8_open_28 : decode cX8_open 28 = .ok (.getfield 11, 3) := by decide +kernel
theorem dX8_open_31 : decode cX8_open 31 = .ok (.aload_n 0, 1) := by decide +kernel
theorem dX8_open_32 : decode cX8_open 32 = .ok (.getfield 22, 3) := by decide +kernel
theorem dX8_open_35 : decode cX8_open 35 = .ok (.aload_n 0, 1) := by decide +kernel
theorem dX8_open_36 : decode cX8_open 36 = .ok (.getfield 35, 3) := by decide +kernel
theorem dX8_open_39 : decode cX8_open 39 = .ok (.iastore, 1) := by decide +kernel
theorem dX8_open_40 : decode cX8_open 40 = .ok (.aload_n 0, 1) := by decide +kernel
theorem dX8_open_41 : decode cX8_open 41 = .ok (.dup, 1) := by decide +kernel
theorem dX8_open_42 : decode cX8_open 42 = .ok (.getfield 22, 3) := by decide +kernel
theorem dX8_open_45 : decode cX8_open 45 = .ok (.iconst 1, 1) := by decide +kernel
theorem dX8_open_46 : decode cX8_open 46 = .ok (.iadd, 1) := by decide +kernel
theorem dX8_open_47 : decode cX8_open 47 = .ok (.putfield 22, 3) := by decide +kernel
theorem dX8_open_50 : decode cX8_open 50 = .ok (.aload_n 0, 1) := by decide +kernel
theorem dX8_open_51 : decode cX8_open 51 = .ok (.aload_n 0, 1) := by decide +kernel
theorem dX8_open_52 : decode cX8_open 52 = .ok (.getfield 38, 3) := by decide +kernel
theorem dX8_open_55 : decode cX8_open 55 = .ok (.aload_n 0, 1) := by decide +kernel
theorem dX8_open_56 : decode cX8_open 56 = .ok (.getfield 44, 3) := by decide +kernel
theorem dX8_open_59 : decode cX8_open 59 = .ok (.iadd, 1) := by decide +kernel
theorem dX8_open_60 : decode cX8_open 60 = .ok (.putfield 35, 3) := by decide +kernel
theorem dX8_open_63 : decode cX8_open 63 = .ok (.return_, 1) := by decide +kernel
theorem dX8_close_0 : decode cX8_close 0 = .ok (.aload_n 0, 1) := by decide +kernel
theorem dX8_close_1 : decode cX8_close 1 = .ok (.invokevirtual 68, 3) := by decide +kernel
theorem dX8_close_4 : decode cX8_close 4 = .ok (.aload_n 0, 1) := by decide +kernel
theorem dX8_close_5 : decode cX8_close 5 = .ok (.getfield 47, 3) := by decide +kernel
theorem dX8_close_8 : decode cX8_close 8 = .ok (.iconst (-1), 1) := by decide +kernel
theorem dX8_close_9 : decode cX8_close 9 = .ok (.if_icmp .ne 33, 3) := by decide +kernel
theorem dX8_close_12 : decode cX8_close 12 = .ok (.aload_n 0, 1) := by decide +kernel
theorem dX8_close_13 : decode cX8_close 13 = .ok (.getfield 22, 3) := by decide +kernel
theorem dX8_close_16 : decode cX8_close 16 = .ok (.ifCond .le 26, 3) := by decide +kernel
theorem dX8_close_19 : decode cX8_close 19 = .ok (.aload_n 0, 1) := by decide +kernel
theorem dX8_close_20 : decode cX8_close 20 = .ok (.dup, 1) := by decide +kernel
theorem dX8_close_21 : decode cX8_close 21 = .ok (.getfield 22, 3) := by decide +kernel
theorem dX8_close_24 : decode cX8_close 24 = .ok (.iconst 1, 1) := by decide +kernel
theorem dX8_close_25 : decode cX8_close 25 = .ok (.isub, 1) := by decide +kernel
theorem dX8_close_26 : decode cX8_close 26 = .ok (.putfield 22, 3) := by decide +kernel
theorem dX8_close_29 : decode cX8_close 29 = .ok (.aload_n 0, 1) := by decide +kernel
theorem dX8_close_30 : decode cX8_close 30 = .ok (.aload_n 0, 1) := by decide +kernel
theorem dX8_close_31 : decode cX8_close 31 = .ok (.getfield 11, 3) := by decide +kernel
theorem dX8_close_34 : decode cX8_close 34 = .ok (.aload_n 0, 1) := by decide +kernel
theorem dX8_close_35 : decode cX8_close 35 = .ok (.getfield 22, 3) := by decide +kernel
theorem dX8_close_38 : decode cX8_close 38 = .ok (.iaload, 1) := by decide +kernel
theorem dX8_close_39 : decode cX8_close 39 = .ok (.putfield 35, 3) := by decide +kernel
theorem dX8_close_42 : decode cX8_close 42 = .ok (.return_, 1) := by decide +kernel
theorem dX8_endText_0 : decode cX8_endText 0 = .ok (.aload_n 0, 1) := by decide +kernel
theorem dX8_endText_1 : decode cX8_endText 1 = .ok (.invokevirtual 71, 3) := by decide +kernel
theorem dX8_endText_4 : decode cX8_endText 4 = .ok (.ifCond .eq 15, 3) := by decide +kernel
theorem dX8_endText_7 : decode cX8_endText 7 = .ok (.aload_n 0, 1) := by decide +kernel
theorem dX8_endText_8 : decode cX8_endText 8 = .ok (.aload_n 0, 1) := by decide +kernel
theorem dX8_endText_9 : decode cX8_endText 9 = .ok (.getfield 38, 3) := by decide +kernel
theorem dX8_endText_12 : decode cX8_endText 12 = .ok (.putfield 41, 3) := by decide +kernel
theorem dX8_endText_15 : decode cX8_endText 15 = .ok (.aload_n 0, 1) := by decide +kernel
theorem dX8_endText_16 : decode cX8_endText 16 = .ok (.invokevirtual 61, 3) := by decide +kernel
theorem dX8_endText_19 : decode cX8_endText 19 = .ok (.return_, 1) := by decide +kernel
theorem dX8_readBytes_0 : decode cX8_readBytes 0 = .ok (.aload_n 0, 1) := by decide +kernel
theorem dX8_readBytes_1 : decode cX8_readBytes 1 = .ok (.iconst 4, 1) := by decide +kernel
theorem dX8_readBytes_2 : decode cX8_readBytes 2 = .ok (.iload_n 1, 1) := by decide +kernel
theorem dX8_readBytes_3 : decode cX8_readBytes 3 = .ok (.iload_n 2, 1) := by decide +kernel
theorem dX8_readBytes_4 : decode cX8_readBytes 4 = .ok (.invokevirtual 64, 3) := by decide +kernel
theorem dX8_readBytes_7 : decode cX8_readBytes 7 = .ok (.pop, 1) := by decide +kernel
theorem dX8_readBytes_8 : decode cX8_readBytes 8 = .ok (.aload_n 0, 1) := by decide +kernel
theorem dX8_readBytes_9 : decode cX8_readBytes 9 = .ok (.getfield 38, 3) := by decide +kernel
theorem dX8_readBytes_12 : decode cX8_readBytes 12 = .ok (.istore_n 3, 1) := by decide +kernel
theorem dX8_readBytes_13 : decode cX8_readBytes 13 = .ok (.aload_n 0, 1) := by decide +kernel
theorem dX8_readBytes_14 : decode cX8_readBytes 14 = .ok (.dup, 1) := by decide +kernel
theorem dX8_readBytes_15 : decode cX8_readBytes 15 = .ok (.getfield 38, 3) := by decide +kernel
theorem dX8_readBytes_18 : decode cX8_readBytes 18 = .ok (.aload_n 0, 1) := by decide +kernel
theorem dX8_readBytes_19 : decode cX8_readBytes 19 = .ok (.getfield 44, 3) := by decide +kernel
theorem dX8_readBytes_22 : decode cX8_readBytes 22 = .ok (.iadd, 1) := by decide +kernel
theorem dX8_readBytes_23 : decode cX8_readBytes 23 = .ok (.putfield 38, 3) := by decide +kernel
theorem dX8_readBytes_26 : decode cX8_readBytes 26 = .ok (.iload_n 3, 1) := by decide +kernel
theorem dX8_readBytes_27 : decode cX8_readBytes 27 = .ok (.ireturn, 1) := by decide +kernel
theorem dX8_readHash_0 : decode cX8_readHash 0 = .ok (.aload_n 0, 1) := by decide +kernel
theorem dX8_readHash_1 : decode cX8_readHash 1 = .ok (.iconst 4, 1) := by decide +kernel
theorem dX8_readHash_2 : decode cX8_readHash 2 = .ok (.bipush 8, 2) := by decide +kernel
theorem dX8_readHash_4 : decode cX8_readHash 4 = .ok (.bipush 8, 2) := by decide +kernel
theorem dX8_readHash_6 : decode cX8_readHash 6 = .ok (.invokevirtual 64, 3) := by decide +kernel
theorem dX8_readHash_9 : decode cX8_readHash 9 = .ok (.ifCond .ne 5, 3) := by decide +kernel
theorem dX8_readHash_12 : decode cX8_readHash 12 = .ok (.lconst 0, 1) := by decide +kernel
theorem dX8_readHash_13 : decode cX8_readHash 13 = .ok (.lreturn, 1) := by decide +kernel
theorem dX8_readHash_14 : decode cX8_readHash 14 = .ok (.aload_n 0, 1) := by decide +kernel
theorem dX8_readHash_15 : decode cX8_readHash 15 = .ok (.invokevirtual 74, 3) := by decide +kernel
theorem dX8_readHash_18 : decode cX8_readHash 18 = .ok (.lreturn, 1) := by decide +kernel
theorem dX8_readInteger_0 : decode cX8_readInteger 0 = .ok (.aload_n 0, 1) := by decide +kernel
theorem dX8_readInteger_1 : decode cX8_readInteger 1 = .ok (.iconst 2, 1) := by decide +kernel
theorem dX8_readInteger_2 : decode cX8_readInteger 2 = .ok (.iconst 1, 1) := by decide +kernel
theorem dX8_readInteger_3 : decode cX8_readInteger 3 = .ok (.bipush 8, 2) := by decide +kernel
theorem dX8_readInteger_5 : decode cX8_readInteger 5 = .ok (.invokevirtual 64, 3) := by decide +kernel
theorem dX8_readInteger_8 : decode cX8_readInteger 8 = .ok (.ifCond .ne 5, 3) := by decide +kernel
theorem dX8_readInteger_11 : decode cX8_readInteger 11 = .ok (.lconst 0, 1) := by decide +kernel
theorem dX8_readInteger_12 : decode cX8_readInteger 12 = .ok (.lreturn, 1) := by decide +kernel
theorem dX8_readInteger_13 : decode cX8_readInteger 13 = .ok (.aload_n 0, 1) := by decide +kernel
theorem dX8_readInteger_14 : decode cX8_readInteger 14 = .ok (.getfield 15, 3) := by decide +kernel
theorem dX8_readInteger_17 : decode cX8_readInteger 17 = .ok (.aload_n 0, 1) := by decide +kernel
theorem dX8_readInteger_18 : decode cX8_readInteger 18 = .ok (.getfield 38, 3) := by decide +kernel
theorem dX8_readInteger_21 : decode cX8_readInteger 21 = .ok (.baload, 1) := by decide +kernel
theorem dX8_readInteger_22 : decode cX8_readInteger 22 = .ok (.ifCond .lt 41, 3) := by decide +kernel
theorem dX8_readInteger_25 : decode cX8_readInteger 25 = .ok (.aload_n 0, 1) := by decide +kernel
theorem dX8_readInteger_26 : decode cX8_readInteger 26 = .ok (.getfield 44, 3) := by decide +kernel
theorem dX8_readInteger_29 : decode cX8_readInteger 29 = .ok (.iconst 1, 1) := by decide +kernel
theorem dX8_readInteger_30 : decode cX8_readInteger 30 = .ok (.if_icmp .eq 29, 3) := by decide +kernel
theorem dX8_readInteger_33 : decode cX8_readInteger 33 = .ok (.aload_n 0, 1) := by decide +kernel
theorem dX8_readInteger_34 : decode cX8_readInteger 34 = .ok (.getfield 15, 3) := by decide +kernel
theorem dX8_readInteger_37 : decode cX8_readInteger 37 = .ok (.aload_n 0, 1) := by decide +kernel
theorem dX8_readInteger_38 : decode cX8_readInteger 38 = .ok (.getfield 38, 3) := by decide +kernel
theorem dX8_readInteger_41 : decode cX8_readInteger 41 = .ok (.baload, 1) := by decide +kernel
theorem dX8_readInteger_42 : decode cX8_readInteger 42 = .ok (.ifCond .ne 17, 3) := by decide +kernel
theorem dX8_readInteger_45 : decode cX8_readInteger 45 = .ok (.aload_n 0, 1) := by decide +kernel
theorem dX8_readInteger_46 : decode cX8_readInteger 46 = .ok (.getfield 15, 3) := by decide +kernel
theorem dX8_readInteger_49 : decode cX8_readInteger 49 = .ok (.aload_n 0, 1) := by decide +kernel
theorem dX8_readInteger_50 : decode cX8_readInteger 50 = .ok (.getfield 38, 3) := by decide +kernel
theorem dX8_readInteger_53 : decode cX8_readInteger 53 = .ok (.iconst 1, 1) := by decide +kernel
theorem dX8_readInteger_54 : decode cX8_readInteger 54 = .ok (.iadd, 1) := by decide +kernel
theorem dX8_readInteger_55 : decode cX8_readInteger 55 = .ok (.baload, 1) := by decide +kernel
theorem dX8_readInteger_56 : decode cX8_readInteger 56 = .ok (.ifCond .ge 7, 3) := by decide +kernel
theorem dX8_readInteger_59 : decode cX8_readInteger 59 = .ok (.iconst 1, 1) := by decide +kernel
theorem dX8_readInteger_60 : decode cX8_readInteger 60 = .ok (.goto 4, 3) := by decide +kernel
theorem dX8_readInteger_63 : decode cX8_readInteger 63 = .ok (.iconst 0, 1) := by decide +kernel
theorem dX8_readInteger_64 : decode cX8_readInteger 64 = .ok (.istore 5, 2) := by decide +kernel
theorem dX8_readInteger_66 : decode cX8_readInteger 66 = .ok (.aload_n 0, 1) := by decide +kernel
theorem dX8_readInteger_67 : decode cX8_readInteger 67 = .ok (.invokevirtual 74, 3) := by decide +kernel
theorem dX8_readInteger_70 : decode cX8_readInteger 70 = .ok (.lstore 6, 2) := by decide +kernel
theorem dX8_readInteger_72 : decode cX8_readInteger 72 = .ok (.iload 5, 2) := by decide +kernel
theorem dX8_readInteger_74 : decode cX8_readInteger 74 = .ok (.ifCond .eq 17, 3) := by decide +kernel
theorem dX8_readInteger_77 : decode cX8_readInteger 77 = .ok (.lload 6, 2) := by decide +kernel
theorem dX8_readInteger_79 : decode cX8_readInteger 79 = .ok (.lload_n 1, 1) := by decide +kernel
theorem dX8_readInteger_80 : decode cX8_readInteger 80 = .ok (.lcmp, 1) := by decide +kernel
theorem dX8_readInteger_81 : decode cX8_readInteger 81 = .ok (.ifCond .lt 10, 3) := by decide +kernel
theorem dX8_readInteger_84 : decode cX8_readInteger 84 = .ok (.lload 6, 2) := by decide +kernel
theorem dX8_readInteger_86 : decode cX8_readInteger 86 = .ok (.lload_n 3, 1) := by decide +kernel
theorem dX8_readInteger_87 : decode cX8_readInteger 87 = .ok (.lcmp, 1) := by decide +kernel
theorem dX8_readInteger_88 : decode cX8_readInteger 88 = .ok (.ifCond .le 7, 3) := by decide +kernel
theorem dX8_readInteger_91 : decode cX8_readInteger 91 = .ok (.aload_n 0, 1) := by decide +kernel
theorem dX8_readInteger_92 : decode cX8_readInteger 92 = .ok (.invokevirtual 61, 3) := by decide +kernel
theorem dX8_readInteger_95 : decode cX8_readInteger 95 = .ok (.lload 6, 2) := by decide +kernel
theorem dX8_readInteger_97 : decode cX8_readInteger 97 = .ok (.lreturn, 1) := by decide +kernel
theorem dX8_readCode_0 : decode cX8_readCode 0 = .ok (.aload_n 0, 1) := by decide +kernel
theorem dX8_readCode_1 : decode cX8_readCode 1 = .ok (.bipush 10, 2) := by decide +kernel
theorem dX8_readCode_3 : decode cX8_readCode 3 = .ok (.iconst 1, 1) := by decide +kernel
theorem dX8_readCode_4 : decode cX8_readCode 4 = .ok (.iconst 1, 1) := by decide +kernel
theorem dX8_readCode_5 : decode cX8_readCode 5 = .ok (.invokevirtual 64, 3) := by decide +kernel
theorem dX8_readCode_8 : decode cX8_readCode 8 = .ok (.ifCond .ne 5, 3) := by decide +kernel
theorem dX8_readCode_11 : decode cX8_readCode 11 = .ok (.iconst 0, 1) := by decide +kernel
theorem dX8_readCode_12 : decode cX8_readCode 12 = .ok (.ireturn, 1) := by decide +kernel
theorem dX8_readCode_13 : decode cX8_readCode 13 = .ok (.aload_n 0, 1) := by decide +kernel
theorem dX8_readCode_14 : decode cX8_readCode 14 = .ok (.invokevirtual 74, 3) := by decide +kernel
theorem dX8_readCode_17 : decode cX8_readCode 17 = .ok (.l2i, 1) := by decide +kernel
theorem dX8_readCode_18 : decode cX8_readCode 18 = .ok (.istore_n 1, 1) := by decide +kernel
theorem dX8_readCode_19 : decode cX8_readCode 19 = .ok (.iload_n 1, 1) := by decide +kernel
theorem dX8_readCode_20 : decode cX8_readCode 20 = .ok (.bipush 10, 2) := by decide +kernel
theorem dX8_readCode_22 : decode cX8_readCode 22 = .ok (.if_icmp .le 7, 3) := by decide +kernel
theorem dX8_readCode_25 : decode cX8_readCode 25 = .ok (.aload_n 0, 1) := by decide +kernel
theorem dX8_readCode_26 : decode cX8_readCode 26 = .ok (.invokevirtual 61, 3) := by decide +kernel
theorem dX8_readCode_29 : decode cX8_readCode 29 = .ok (.iload_n 1, 1) := by decide +kernel
theorem dX8_readCode_30 : decode cX8_readCode 30 = .ok (.ireturn, 1) := by decide +kernel
theorem dX8_readSignature_0 : decode cX8_readSignature 0 = .ok (.aload_n 0, 1) := by decide +kernel
theorem dX8_readSignature_1 : decode cX8_readSignature 1 = .ok (.iconst 3, 1) := by decide +kernel
theorem dX8_readSignature_2 : decode cX8_readSignature 2 = .ok (.bipush 9, 2) := by decide +kernel
theorem dX8_readSignature_4 : decode cX8_readSignature 4 = .ok (.bipush 9, 2) := by decide +kernel
theorem dX8_readSignature_6 : decode cX8_readSignature 6 = .ok (.invokevirtual 64, 3) := by decide +kernel
theorem dX8_readSignature_9 : decode cX8_readSignature 9 = .ok (.ifCond .ne 5, 3) := by decide +kernel
theorem dX8_readSignature_12 : decode cX8_readSignature 12 = .ok (.lconst 0, 1) := by decide +kernel
theorem dX8_readSignature_13 : decode cX8_readSignature 13 = .ok (.lreturn, 1) := by decide +kernel
theorem dX8_readSignature_14 : decode cX8_readSignature 14 = .ok (.aload_n 0, 1) := by decide +kernel
theorem dX8_readSignature_15 : decode cX8_readSignature 15 = .ok (.getfield 15, 3) := by decide +kernel
theorem dX8_readSignature_18 : decode cX8_readSignature 18 = .ok (.aload_n 0, 1) := by decide +kernel
theorem dX8_readSignature_19 : decode cX8_readSignature 19 = .ok (.getfield 38, 3) := by decide +kernel
theorem dX8_readSignature_22 : decode cX8_readSignature 22 = .ok (.baload, 1) := by decide +kernel
theorem dX8_readSignature_23 : decode cX8_readSignature 23 = .ok (.ifCond .eq 7, 3) := by decide +kernel
theorem dX8_readSignature_26 : decode cX8_readSignature 26 = .ok (.aload_n 0, 1) := by decide +kernel
theorem dX8_readSignature_27 : decode cX8_readSignature 27 = .ok (.invokevirtual 61, 3) := by decide +kernel
theorem dX8_readSignature_30 : decode cX8_readSignature 30 = .ok (.aload_n 0, 1) := by decide +kernel
theorem dX8_readSignature_31 : decode cX8_readSignature 31 = .ok (.invokevirtual 74, 3) := by decide +kernel
theorem dX8_readSignature_34 : decode cX8_readSignature 34 = .ok (.lreturn, 1) := by decide +kernel
theorem dX8_readTime_0 : decode cX8_readTime 0 = .ok (.aload_n 0, 1) := by decide +kernel
theorem dX8_readTime_1 : decode cX8_readTime 1 = .ok (.bipush 24, 2) := by decide +kernel
theorem dX8_readTime_3 : decode cX8_readTime 3 = .ok (.bipush 15, 2) := by decide +kernel
theorem dX8_readTime_5 : decode cX8_readTime 5 = .ok (.bipush 15, 2) := by decide +kernel
theorem dX8_readTime_7 : decode cX8_readTime 7 = .ok (.invokevirtual 64, 3) := by decide +kernel
theorem dX8_readTime_10 : decode cX8_readTime 10 = .ok (.ifCond .ne 5, 3) := by decide +kernel
theorem dX8_readTime_13 : decode cX8_readTime 13 = .ok (.lconst 0, 1) := by decide +kernel
theorem dX8_readTime_14 : decode cX8_readTime 14 = .ok (.lreturn, 1) := by decide +kernel
theorem dX8_readTime_15 : decode cX8_readTime 15 = .ok (.lconst 0, 1) := by decide +kernel
theorem dX8_readTime_16 : decode cX8_readTime 16 = .ok (.lstore_n 1, 1) := by decide +kernel
theorem dX8_readTime_17 : decode cX8_readTime 17 = .ok (.aload_n 0, 1) := by decide +kernel
theorem dX8_readTime_18 : decode cX8_readTime 18 = .ok (.getfield 15, 3) := by decide +kernel
theorem dX8_readTime_21 : decode cX8_readTime 21 = .ok (.aload_n 0, 1) := by decide +kernel
theorem dX8_readTime_22 : decode cX8_readTime 22 = .ok (.getfield 38, 3) := by decide +kernel
theorem dX8_readTime_25 : decode cX8_readTime 25 = .ok (.bipush 15, 2) := by decide +kernel
theorem dX8_readTime_27 : decode cX8_readTime 27 = .ok (.iadd, 1) := by decide +kernel
theorem dX8_readTime_28 : decode cX8_readTime 28 = .ok (.iconst 1, 1) := by decide +kernel
theorem dX8_readTime_29 : decode cX8_readTime 29 = .ok (.isub, 1) := by decide +kernel
theorem dX8_readTime_30 : decode cX8_readTime 30 = .ok (.baload, 1) := by decide +kernel
theorem dX8_readTime_31 : decode cX8_readTime 31 = .ok (.bipush 90, 2) := by decide +kernel
theorem dX8_readTime_33 : decode cX8_readTime 33 = .ok (.if_icmp .ne 7, 3) := by decide +kernel
theorem dX8_readTime_36 : decode cX8_readTime 36 = .ok (.iconst 1, 1) := by decide +kernel
theorem dX8_readTime_37 : decode cX8_readTime 37 = .ok (.goto 4, 3) := by decide +kernel
theorem dX8_readTime_40 : decode cX8_readTime 40 = .ok (.iconst 0, 1) := by decide +kernel
theorem dX8_readTime_41 : decode cX8_readTime 41 = .ok (.istore_n 3, 1) := by decide +kernel
theorem dX8_readTime_42 : decode cX8_readTime 42 = .ok (.iconst 0, 1) := by decide +kernel
theorem dX8_readTime_43 : decode cX8_readTime 43 = .ok (.istore 4, 2) := by decide +kernel
theorem dX8_readTime_45 : decode cX8_readTime 45 = .ok (.iload 4, 2) := by decide +kernel
theorem dX8_readTime_47 : decode cX8_readTime 47 = .ok (.bipush 14, 2) := by decide +kernel
theorem dX8_readTime_49 : decode cX8_readTime 49 = .ok (.if_icmp .ge 58, 3) := by decide +kernel
theorem dX8_readTime_52 : decode cX8_readTime 52 = .ok (.aload_n 0, 1) := by decide +kernel
theorem dX8_readTime_53 : decode cX8_readTime 53 = .ok (.getfield 15, 3) := by decide +kernel
theorem dX8_readTime_56 : decode cX8_readTime 56 = .ok (.aload_n 0, 1) := by decide +kernel
theorem dX8_readTime_57 : decode cX8_readTime 57 = .ok (.getfield 38, 3) := by decide +kernel
theorem dX8_readTime_60 : decode cX8_readTime 60 = .ok (.iload 4, 2) := by decide +kernel
theorem dX8_readTime_62 : decode cX8_readTime 62 = .ok (.iadd, 1) := by decide +kernel
theorem dX8_readTime_63 : decode cX8_readTime 63 = .ok (.baload, 1) := by decide +kernel
theorem dX8_readTime_64 : decode cX8_readTime 64 = .ok (.bipush 48, 2) := by decide +kernel
theorem dX8_readTime_66 : decode cX8_readTime 66 = .ok (.isub, 1) := by decide +kernel
theorem dX8_readTime_67 : decode cX8_readTime 67 = .ok (.istore 5, 2) := by decide +kernel
theorem dX8_readTime_69 : decode cX8_readTime 69 = .ok (.iload_n 3, 1) := by decide +kernel
theorem dX8_readTime_70 : decode cX8_readTime 70 = .ok (.ifCond .eq 19, 3) := by decide +kernel
theorem dX8_readTime_73 : decode cX8_readTime 73 = .ok (.iload 5, 2) := by decide +kernel
theorem dX8_readTime_75 : decode cX8_readTime 75 = .ok (.ifCond .lt 14, 3) := by decide +kernel
theorem dX8_readTime_78 : decode cX8_readTime 78 = .ok (.iload 5, 2) := by decide +kernel
theorem dX8_readTime_80 : decode cX8_readTime 80 = .ok (.bipush 9, 2) := by decide +kernel
theorem dX8_readTime_82 : decode cX8_readTime 82 = .ok (.if_icmp .gt 7, 3) := by decide +kernel
theorem dX8_readTime_85 : decode cX8_readTime 85 = .ok (.iconst 1, 1) := by decide +kernel
theorem dX8_readTime_86 : decode cX8_readTime 86 = .ok (.goto 4, 3) := by decide +kernel
theorem dX8_readTime_89 : decode cX8_readTime 89 = .ok (.iconst 0, 1) := by decide +kernel
theorem dX8_readTime_90 : decode cX8_readTime 90 = .ok (.istore_n 3, 1) := by decide +kernel
theorem dX8_readTime_91 : decode cX8_readTime 91 = .ok (.lload_n 1, 1) := by decide +kernel
theorem dX8_readTime_92 : decode cX8_readTime 92 = .ok (.ldc2_w 80, 3) := by decide +kernel
theorem dX8_readTime_95 : decode cX8_readTime 95 = .ok (.lmul, 1) := by decide +kernel
theorem dX8_readTime_96 : decode cX8_readTime 96 = .ok (.iload 5, 2) := by decide +kernel
theorem dX8_readTime_98 : decode cX8_readTime 98 = .ok (.i2l, 1) := by decide +kernel
theorem dX8_readTime_99 : decode cX8_readTime 99 = .ok (.ladd, 1) := by decide +kernel
theorem dX8_readTime_100 : decode cX8_readTime 100 = .ok (.lstore_n 1, 1) := by decide +kernel
theorem dX8_readTime_101 : decode cX8_readTime 101 = .ok (.iinc 4 1, 3) := by decide +kernel
theorem dX8_readTime_104 : decode cX8_readTime 104 = .ok (.goto (-59), 3) := by decide +kernel
theorem dX8_readTime_107 : decode cX8_readTime 107 = .ok (.aload_n 0, 1) := by decide +kernel
theorem dX8_readTime_108 : decode cX8_readTime 108 = .ok (.dup, 1) := by decide +kernel
theorem dX8_readTime_109 : decode cX8_readTime 109 = .ok (.getfield 38, 3) := by decide +kernel
theorem dX8_readTime_112 : decode cX8_readTime 112 = .ok (.aload_n 0, 1) := by decide +kernel
theorem dX8_readTime_113 : decode cX8_readTime 113 = .ok (.getfield 44, 3) := by decide +kernel
theorem dX8_readTime_116 : decode cX8_readTime 116 = .ok (.iadd, 1) := by decide +kernel
theorem dX8_readTime_117 : decode cX8_readTime 117 = .ok (.putfield 38, 3) := by decide +kernel
theorem dX8_readTime_120 : decode cX8_readTime 120 = .ok (.iload_n 3, 1) := by decide +kernel
theorem dX8_readTime_121 : decode cX8_readTime 121 = .ok (.ifCond .eq 10, 3) := by decide +kernel
theorem dX8_readTime_124 : decode cX8_readTime 124 = .ok (.lload_n 1, 1) := by decide +kernel
theorem dX8_readTime_125 : decode cX8_readTime 125 = .ok (.invokestatic 82, 3) := by decide +kernel
theorem dX8_readTime_128 : decode cX8_readTime 128 = .ok (.goto 6, 3) := by decide +kernel
theorem dX8_readTime_131 : decode cX8_readTime 131 = .ok (.ldc2_w 86, 3) := by decide +kernel
theorem dX8_readTime_134 : decode cX8_readTime 134 = .ok (.lstore 4, 2) := by decide +kernel
theorem dX8_readTime_136 : decode cX8_readTime 136 = .ok (.lload 4, 2) := by decide +kernel
theorem dX8_readTime_138 : decode cX8_readTime 138 = .ok (.ldc2_w 86, 3) := by decide +kernel
theorem dX8_readTime_141 : decode cX8_readTime 141 = .ok (.lcmp, 1) := by decide +kernel
theorem dX8_readTime_142 : decode cX8_readTime 142 = .ok (.ifCond .ne 7, 3) := by decide +kernel
theorem dX8_readTime_145 : decode cX8_readTime 145 = .ok (.aload_n 0, 1) := by decide +kernel
theorem dX8_readTime_146 : decode cX8_readTime 146 = .ok (.invokevirtual 61, 3) := by decide +kernel
theorem dX8_readTime_149 : decode cX8_readTime 149 = .ok (.lload 4, 2) := by decide +kernel
theorem dX8_readTime_151 : decode cX8_readTime 151 = .ok (.lreturn, 1) := by decide +kernel
theorem dX8_number_0 : decode cX8_number 0 = .ok (.lconst 0, 1) := by decide +kernel
theorem dX8_number_1 : decode cX8_number 1 = .ok (.lstore_n 1, 1) := by decide +kernel
theorem dX8_number_2 : decode cX8_number 2 = .ok (.iconst 0, 1) := by decide +kernel
theorem dX8_number_3 : decode cX8_number 3 = .ok (.istore_n 3, 1) := by decide +kernel
theorem dX8_number_4 : decode cX8_number 4 = .ok (.iload_n 3, 1) := by decide +kernel
theorem dX8_number_5 : decode cX8_number 5 = .ok (.aload_n 0, 1) := by decide +kernel
theorem dX8_number_6 : decode cX8_number 6 = .ok (.getfield 44, 3) := by decide +kernel
theorem dX8_number_9 : decode cX8_number 9 = .ok (.if_icmp .ge 31, 3) := by decide +kernel
theorem dX8_number_12 : decode cX8_number 12 = .ok (.lload_n 1, 1) := by decide +kernel
theorem dX8_number_13 : decode cX8_number 13 = .ok (.bipush 8, 2) := by decide +kernel
theorem dX8_number_15 : decode cX8_number 15 = .ok (.lshl, 1) := by decide +kernel
theorem dX8_number_16 : decode cX8_number 16 = .ok (.aload_n 0, 1) := by decide +kernel
theorem dX8_number_17 : decode cX8_number 17 = .ok (.getfield 15, 3) := by decide +kernel
theorem dX8_number_20 : decode cX8_number 20 = .ok (.aload_n 0, 1) := by decide +kernel
theorem dX8_number_21 : decode cX8_number 21 = .ok (.getfield 38, 3) := by decide +kernel
theorem dX8_number_24 : decode cX8_number 24 = .ok (.iload_n 3, 1) := by decide +kernel
theorem dX8_number_25 : decode cX8_number 25 = .ok (.iadd, 1) := by decide +kernel
theorem dX8_number_26 : decode cX8_number 26 = .ok (.baload, 1) := by decide +kernel
theorem dX8_number_27 : decode cX8_number 27 = .ok (.sipush 255, 3) := by decide +kernel
theorem dX8_number_30 : decode cX8_number 30 = .ok (.iand, 1) := by decide +kernel
theorem dX8_number_31 : decode cX8_number 31 = .ok (.i2l, 1) := by decide +kernel
theorem dX8_number_32 : decode cX8_number 32 = .ok (.lor, 1) := by decide +kernel
theorem dX8_number_33 : decode cX8_number 33 = .ok (.lstore_n 1, 1) := by decide +kernel
theorem dX8_number_34 : decode cX8_number 34 = .ok (.iinc 3 1, 3) := by decide +kernel
theorem dX8_number_37 : decode cX8_number 37 = .ok (.goto (-33), 3) := by decide +kernel
theorem dX8_number_40 : decode cX8_number 40 = .ok (.aload_n 0, 1) := by decide +kernel
theorem dX8_number_41 : decode cX8_number 41 = .ok (.dup, 1) := by decide +kernel
theorem dX8_number_42 : decode cX8_number 42 = .ok (.getfield 38, 3) := by decide +kernel
theorem dX8_number_45 : decode cX8_number 45 = .ok (.aload_n 0, 1) := by decide +kernel
theorem dX8_number_46 : decode cX8_number 46 = .ok (.getfield 44, 3) := by decide +kernel
theorem dX8_number_49 : decode cX8_number 49 = .ok (.iadd, 1) := by decide +kernel
theorem dX8_number_50 : decode cX8_number 50 = .ok (.putfield 38, 3) := by decide +kernel
theorem dX8_number_53 : decode cX8_number 53 = .ok (.lload_n 1, 1) := by decide +kernel
theorem dX8_number_54 : decode cX8_number 54 = .ok (.lreturn, 1) := by decide +kernel
theorem dX9_init_0 : decode cX9_init 0 = .ok (.aload_n 0, 1) := by decide +kernel
theorem dX9_init_1 : decode cX9_init 1 = .ok (.invokespecial 3, 3) := by decide +kernel
theorem dX9_init_4 : decode cX9_init 4 = .ok (.aload_n 0, 1) := by decide +kernel
theorem dX9_init_5 : decode cX9_init 5 = .ok (.new 9, 3) := by decide +kernel
theorem dX9_init_8 : decode cX9_init 8 = .ok (.dup, 1) := by decide +kernel
theorem dX9_init_9 : decode cX9_init 9 = .ok (.sipush 128, 3) := by decide +kernel
theorem dX9_init_12 : decode cX9_init 12 = .ok (.invokespecial 11, 3) := by decide +kernel
theorem dX9_init_15 : decode cX9_init 15 = .ok (.putfield 14, 3) := by decide +kernel
theorem dX9_init_18 : decode cX9_init 18 = .ok (.return_, 1) := by decide +kernel
theorem dX9_begin_0 : decode cX9_begin 0 = .ok (.aload_n 0, 1) := by decide +kernel
theorem dX9_begin_1 : decode cX9_begin 1 = .ok (.iload_n 1, 1) := by decide +kernel
theorem dX9_begin_2 : decode cX9_begin 2 = .ok (.putfield 20, 3) := by decide +kernel
theorem dX9_begin_5 : decode cX9_begin 5 = .ok (.aload_n 0, 1) := by decide +kernel
theorem dX9_begin_6 : decode cX9_begin 6 = .ok (.iload_n 2, 1) := by decide +kernel
theorem dX9_begin_7 : decode cX9_begin 7 = .ok (.putfield 24, 3) := by decide +kernel
theorem dX9_begin_10 : decode cX9_begin 10 = .ok (.aload_n 0, 1) := by decide +kernel
theorem dX9_begin_11 : decode cX9_begin 11 = .ok (.iload_n 2, 1) := by decide +kernel
theorem dX9_begin_12 : decode cX9_begin 12 = .ok (.invokestatic 27, 3) := by decide +kernel
theorem dX9_begin_15 : decode cX9_begin 15 = .ok (.putfield 33, 3) := by decide +kernel
theorem dX9_begin_18 : decode cX9_begin 18 = .ok (.aload_n 0, 1) := by decide +kernel
theorem dX9_begin_19 : decode cX9_begin 19 = .ok (.aload_n 0, 1) := by decide +kernel
theorem dX9_begin_20 : decode cX9_begin 20 = .ok (.getfield 33, 3) := by decide +kernel
theorem dX9_begin_23 : decode cX9_begin 23 = .ok (.i2l, 1) := by decide +kernel
theorem dX9_begin_24 : decode cX9_begin 24 = .ok (.invokestatic 35, 3) := by decide +kernel
theorem dX9_begin_27 : decode cX9_begin 27 = .ok (.putfield 39, 3) := by decide +kernel
theorem dX9_begin_30 : decode cX9_begin 30 = .ok (.return_, 1) := by decide +kernel
theorem dX9_writeCert_0 : decode cX9_writeCert 0 = .ok (.aload_n 0, 1) := by decide +kernel
theorem dX9_writeCert_1 : decode cX9_writeCert 1 = .ok (.getfield 14, 3) := by decide +kernel
theorem dX9_writeCert_4 : decode cX9_writeCert 4 = .ok (.invokevirtual 43, 3) := by decide +kernel
theorem dX9_writeCert_7 : decode cX9_writeCert 7 = .ok (.aload_n 0, 1) := by decide +kernel
theorem dX9_writeCert_8 : decode cX9_writeCert 8 = .ok (.getfield 14, 3) := by decide +kernel
theorem dX9_writeCert_11 : decode cX9_writeCert 11 = .ok (.bipush 48, 2) := by decide +kernel
theorem dX9_writeCert_13 : decode cX9_writeCert 13 = .ok (.invokevirtual 46, 3) := by decide +kernel
theorem dX9_writeCert_16 : decode cX9_writeCert 16 = .ok (.istore 9, 2) := by decide +kernel
theorem dX9_writeCert_18 : decode cX9_writeCert 18 = .ok (.aload_n 0, 1) := by decide +kernel
theorem dX9_writeCert_19 : decode cX9_writeCert 19 = .ok (.getfield 14, 3) := by decide +kernel
theorem dX9_writeCert_22 : decode cX9_writeCert 22 = .ok (.bipush 48, 2) := by decide +kernel
theorem dX9_writeCert_24 : decode cX9_writeCert 24 = .ok (.invokevirtual 46, 3) := by decide +kernel
theorem dX9_writeCert_27 : decode cX9_writeCert 27 = .ok (.istore 10, 2) := by decide +kernel
theorem dX9_writeCert_29 : decode cX9_writeCert 29 = .ok (.aload_n 0, 1) := by decide +kernel
theorem dX9_writeCert_30 : decode cX9_writeCert 30 = .ok (.getfield 14, 3) := by decide +kernel
theorem dX9_writeCert_33 : decode cX9_writeCert 33 = .ok (.iload_n 3, 1) := by decide +kernel
theorem dX9_writeCert_34 : decode cX9_writeCert 34 = .ok (.i2l, 1) := by decide +kernel
theorem dX9_writeCert_35 : decode cX9_writeCert 35 = .ok (.invokevirtual 49, 3) := by decide +kernel
theorem dX9_writeCert_38 : decode cX9_writeCert 38 = .ok (.aload_n 0, 1) := by decide +kernel
theorem dX9_writeCert_39 : decode cX9_writeCert 39 = .ok (.getfield 14, 3) := by decide +kernel
theorem dX9_writeCert_42 : decode cX9_writeCert 42 = .ok (.aload_n 1, 1) := by decide +kernel
theorem dX9_writeCert_43 : decode cX9_writeCert 43 = .ok (.getfield 53, 3) := by decide +kernel
theorem dX9_writeCert_46 : decode cX9_writeCert 46 = .ok (.iconst 0, 1) := by decide +kernel
theorem dX9_writeCert_47 : decode cX9_writeCert 47 = .ok (.aload_n 1, 1) := by decide +kernel
theorem dX9_writeCert_48 : decode cX9_writeCert 48 = .ok (.getfield 53, 3) := by decide +kernel
theorem dX9_writeCert_51 : decode cX9_writeCert 51 = .ok (.getfield 58, 3) := by decide +kernel
theorem dX9_writeCert_54 : decode cX9_writeCert 54 = .ok (.invokevirtual 61, 3) := by decide +kernel
theorem dX9_writeCert_57 : decode cX9_writeCert 57 = .ok (.aload_n 0, 1) := by decide +kernel
theorem dX9_writeCert_58 : decode cX9_writeCert 58 = .ok (.getfield 14, 3) := by decide +kernel
theorem dX9_writeCert_61 : decode cX9_writeCert 61 = .ok (.aload_n 2, 1) := by decide +kernel
theorem dX9_writeCert_62 : decode cX9_writeCert 62 = .ok (.iconst 0, 1) := by decide +kernel
theorem dX9_writeCert_63 : decode cX9_writeCert 63 = .ok (.aload_n 2, 1) := by decide +kernel
theorem dX9_writeCert_64 : decode cX9_writeCert 64 = .ok (.getfield 58, 3) := by decide +kernel
theorem dX9_writeCert_67 : decode cX9_writeCert 67 = .ok (.invokevirtual 61, 3) := by decide +kernel
theorem dX9_writeCert_70 : decode cX9_writeCert 70 = .ok (.aload_n 0, 1) := by decide +kernel
theorem dX9_writeCert_71 : decode cX9_writeCert 71 = .ok (.getfield 14, 3) := by decide +kernel
theorem dX9_writeCert_74 : decode cX9_writeCert 74 = .ok (.lload 4, 2) := by decide +kernel
theorem dX9_writeCert_76 : decode cX9_writeCert 76 = .ok (.invokevirtual 65, 3) := by decide +kernel
theorem dX9_writeCert_79 : decode cX9_writeCert 79 = .ok (.aload_n 0, 1) := by decide +kernel
theorem dX9_writeCert_80 : decode cX9_writeCert 80 = .ok (.getfield 14, 3) := by decide +kernel
theorem dX9_writeCert_83 : decode cX9_writeCert 83 = .ok (.lload 6, 2) := by decide +kernel
theorem dX9_writeCert_85 : decode cX9_writeCert 85 = .ok (.invokevirtual 65, 3) := by decide +kernel
theorem dX9_writeCert_88 : decode cX9_writeCert 88 = .ok (.aload_n 0, 1) := by decide +kernel
theorem dX9_writeCert_89 : decode cX9_writeCert 89 = .ok (.getfield 14, 3) := by decide +kernel
theorem dX9_writeCert_92 : decode cX9_writeCert 92 = .ok (.aload_n 0, 1) := by decide +kernel
theorem dX9_writeCert_93 : decode cX9_writeCert 93 = .ok (.getfield 33, 3) := by decide +kernel
theorem dX9_writeCert_96 : decode cX9_writeCert 96 = .ok (.i2l, 1) := by decide +kernel
theorem dX9_writeCert_97 : decode cX9_writeCert 97 = .ok (.invokevirtual 49, 3) := by decide +kernel
theorem dX9_writeCert_100 : decode cX9_writeCert 100 = .ok (.aload_n 0, 1) := by decide +kernel
theorem dX9_writeCert_101 : decode cX9_writeCert 101 = .ok (.getfield 14, 3) := by decide +kernel
theorem dX9_writeCert_104 : decode cX9_writeCert 104 = .ok (.iload 8, 2) := by decide +kernel
theorem dX9_writeCert_106 : decode cX9_writeCert 106 = .ok (.i2l, 1) := by decide +kernel
theorem dX9_writeCert_107 : decode cX9_writeCert 107 = .ok (.invokevirtual 49, 3) := by decide +kernel
theorem dX9_writeCert_110 : decode cX9_writeCert 110 = .ok (.aload_n 0, 1) := by decide +kernel
theorem dX9_writeCert_111 : decode cX9_writeCert 111 = .ok (.getfield 14, 3) := by decide +kernel
theorem dX9_writeCert_114 : decode cX9_writeCert 114 = .ok (.iload 10, 2) := by decide +kernel
theorem dX9_writeCert_116 : decode cX9_writeCert 116 = .ok (.invokevirtual 68, 3) := by decide +kernel
theorem dX9_writeCert_119 : decode cX9_writeCert 119 = .ok (.aload_n 0, 1) := by decide +kernel
theorem dX9_writeCert_120 : decode cX9_writeCert 120 = .ok (.getfield 14, 3) := by decide +kernel
theorem dX9_writeCert_123 : decode cX9_writeCert 123 = .ok (.aload_n 1, 1) := by decide +kernel
theorem dX9_writeCert_124 : decode cX9_writeCert 124 = .ok (.getfield 71, 3) := by decide +kernel
theorem dX9_writeCert_127 : decode cX9_writeCert 127 = .ok (.aload_n 0, 1) := by decide +kernel
theorem dX9_writeCert_128 : decode cX9_writeCert 128 = .ok (.getfield 14, 3) := by decide +kernel
theorem dX9_writeCert_131 : decode cX9_writeCert 131 = .ok (.iload 10, 2) := by decide +kernel
theorem dX9_writeCert_133 : decode cX9_writeCert 133 = .ok (.aload_n 0, 1) := by decide +kernel
theorem dX9_writeCert_134 : decode cX9_writeCert 134 = .ok (.getfield 14, 3) := by decide +kernel
theorem dX9_writeCert_137 : decode cX9_writeCert 137 = .ok (.getfield 58, 3) := by decide +kernel
theorem dX9_writeCert_140 : decode cX9_writeCert 140 = .ok (.invokevirtual 72, 3) := by decide +kernel
theorem dX9_writeCert_143 : decode cX9_writeCert 143 = .ok (.invokestatic 76, 3) := by decide +kernel
theorem dX9_writeCert_146 : decode cX9_writeCert 146 = .ok (.invokevirtual 80, 3) := by decide +kernel
theorem dX9_writeCert_149 : decode cX9_writeCert 149 = .ok (.aload_n 0, 1) := by decide +kernel
theorem dX9_writeCert_150 : decode cX9_writeCert 150 = .ok (.getfield 14, 3) := by decide +kernel
theorem dX9_writeCert_153 : decode cX9_writeCert 153 = .ok (.iload 9, 2) := by decide +kernel
theorem dX9_writeCert_155 : decode cX9_writeCert 155 = .ok (.invokevirtual 68, 3) := by decide +kernel
theorem dX9_writeCert_158 : decode cX9_writeCert 158 = .ok (.return_, 1) := by decide +kernel
theorem dX10_fits_0 : decode cX10_fits 0 = .ok (.lload_n 0, 1) := by decide +kernel
theorem dX10_fits_1 : decode cX10_fits 1 = .ok (.lconst 0, 1) := by decide +kernel
theorem dX10_fits_2 : decode cX10_fits 2 = .ok (.lcmp, 1) := by decide +kernel
theorem dX10_fits_3 : decode cX10_fits 3 = .ok (.ifCond .lt 15, 3) := by decide +kernel
theorem dX10_fits_6 : decode cX10_fits 6 = .ok (.lload_n 0, 1) := by decide +kernel
theorem dX10_fits_7 : decode cX10_fits 7 = .ok (.ldc2_w 11, 3) := by decide +kernel
theorem dX10_fits_10 : decode cX10_fits 10 = .ok (.lcmp, 1) := by decide +kernel
theorem dX10_fits_11 : decode cX10_fits 11 = .ok (.ifCond .gt 7, 3) := by decide +kernel
theorem dX10_fits_14 : decode cX10_fits 14 = .ok (.iconst 1, 1) := by decide +kernel
theorem dX10_fits_15 : decode cX10_fits 15 = .ok (.goto 4, 3) := by decide +kernel
theorem dX10_fits_18 : decode cX10_fits 18 = .ok (.iconst 0, 1) := by decide +kernel
theorem dX10_fits_19 : decode cX10_fits 19 = .ok (.ireturn, 1) := by decide +kernel
theorem dX10_stamp_0 : decode cX10_stamp 0 = .ok (.lload_n 0, 1) := by decide +kernel
theorem dX10_stamp_1 : decode cX10_stamp 1 = .ok (.ldc2_w 13, 3) := by decide +kernel
theorem dX10_stamp_4 : decode cX10_stamp 4 = .ok (.ldiv, 1) := by decide +kernel
theorem dX10_stamp_5 : decode cX10_stamp 5 = .ok (.lstore_n 2, 1) := by decide +kernel
theorem dX10_stamp_6 : decode cX10_stamp 6 = .ok (.lload_n 2, 1) := by decide +kernel
theorem dX10_stamp_7 : decode cX10_stamp 7 = .ok (.ldc2_w 15, 3) := by decide +kernel
theorem dX10_stamp_10 : decode cX10_stamp 10 = .ok (.lrem, 1) := by decide +kernel
theorem dX10_stamp_11 : decode cX10_stamp 11 = .ok (.lstore 4, 2) := by decide +kernel
theorem dX10_stamp_13 : decode cX10_stamp 13 = .ok (.lload 4, 2) := by decide +kernel
theorem dX10_stamp_15 : decode cX10_stamp 15 = .ok (.ldc2_w 17, 3) := by decide +kernel
theorem dX10_stamp_18 : decode cX10_stamp 18 = .ok (.lcmp, 1) := by decide +kernel
theorem dX10_stamp_19 : decode cX10_stamp 19 = .ok (.ifCond .ge 7, 3) := by decide +kernel
theorem dX10_stamp_22 : decode cX10_stamp 22 = .ok (.lconst 0, 1) := by decide +kernel
theorem dX10_stamp_23 : decode cX10_stamp 23 = .ok (.goto 11, 3) := by decide +kernel
theorem dX10_stamp_26 : decode cX10_stamp 26 = .ok (.lload 4, 2) := by decide +kernel
theorem dX10_stamp_28 : decode cX10_stamp 28 = .ok (.lconst 1, 1) := by decide +kernel
theorem dX10_stamp_29 : decode cX10_stamp 29 = .ok (.lsub, 1) := by decide +kernel
theorem dX10_stamp_30 : decode cX10_stamp 30 = .ok (.ldc2_w 19, 3) := by decide +kernel
theorem dX10_stamp_33 : decode cX10_stamp 33 = .ok (.ldiv, 1) := by decide +kernel
theorem dX10_stamp_34 : decode cX10_stamp 34 = .ok (.lstore 6, 2) := by decide +kernel
theorem dX10_stamp_36 : decode cX10_stamp 36 = .ok (.lload 6, 2) := by decide +kernel
theorem dX10_stamp_38 : decode cX10_stamp 38 = .ok (.lconst 0, 1) := by decide +kernel
theorem dX10_stamp_39 : decode cX10_stamp 39 = .ok (.lcmp, 1) := by decide +kernel
theorem dX10_stamp_40 : decode cX10_stamp 40 = .ok (.ifCond .ne 8, 3) := by decide +kernel
theorem dX10_stamp_43 : decode cX10_stamp 43 = .ok (.lload 4, 2) := by decide +kernel
theorem dX10_stamp_45 : decode cX10_stamp 45 = .ok (.goto 11, 3) := by decide +kernel
theorem dX10_stamp_48 : decode cX10_stamp 48 = .ok (.lload 4, 2) := by decide +kernel
theorem dX10_stamp_50 : decode cX10_stamp 50 = .ok (.lconst 1, 1) := by decide +kernel
theorem dX10_stamp_51 : decode cX10_stamp 51 = .ok (.lsub, 1) := by decide +kernel
theorem dX10_stamp_52 : decode cX10_stamp 52 = .ok (.ldc2_w 19, 3) := by decide +kernel
theorem dX10_stamp_55 : decode cX10_stamp 55 = .ok (.lrem, 1) := by decide +kernel
theorem dX10_stamp_56 : decode cX10_stamp 56 = .ok (.lstore 8, 2) := by decide +kernel
theorem dX10_stamp_58 : decode cX10_stamp 58 = .ok (.iconst 0, 1) := by decide +kernel
theorem dX10_stamp_59 : decode cX10_stamp 59 = .ok (.istore 10, 2) := by decide +kernel
theorem dX10_stamp_61 : decode cX10_stamp 61 = .ok (.iconst 0, 1) := by decide +kernel
theorem dX10_stamp_62 : decode cX10_stamp 62 = .ok (.istore 11, 2) := by decide +kernel
theorem dX10_stamp_64 : decode cX10_stamp 64 = .ok (.iload 11, 2) := by decide +kernel
theorem dX10_stamp_66 : decode cX10_stamp 66 = .ok (.bipush 11, 2) := by decide +kernel
theorem dX10_stamp_68 : decode cX10_stamp 68 = .ok (.if_icmp .ge 63, 3) := by decide +kernel
theorem dX10_stamp_71 : decode cX10_stamp 71 = .ok (.getstatic 21, 3) := by decide +kernel
theorem dX10_stamp_74 : decode cX10_stamp 74 = .ok (.iload 11, 2) := by decide +kernel
theorem dX10_stamp_76 : decode cX10_stamp 76 = .ok (.iaload, 1) := by decide +kernel
theorem dX10_stamp_77 : decode cX10_stamp 77 = .ok (.iload 11, 2) := by decide +kernel
theorem dX10_stamp_79 : decode cX10_stamp 79 = .ok (.iconst 1, 1) := by decide +kernel
theorem dX10_stamp_80 : decode cX10_stamp 80 = .ok (.if_icmp .ne 14, 3) := by decide +kernel
theorem dX10_stamp_83 : decode cX10_stamp 83 = .ok (.lload 6, 2) := by decide +kernel
theorem dX10_stamp_85 : decode cX10_stamp 85 = .ok (.lconst 0, 1) := by decide +kernel
theorem dX10_stamp_86 : decode cX10_stamp 86 = .ok (.lcmp, 1) := by decide +kernel
theorem dX10_stamp_87 : decode cX10_stamp 87 = .ok (.ifCond .ne 7, 3) := by decide +kernel
theorem dX10_stamp_90 : decode cX10_stamp 90 = .ok (.iconst 1, 1) := by decide +kernel
theorem dX10_stamp_91 : decode cX10_stamp 91 = .ok (.goto 4, 3) := by decide +kernel
theorem dX10_stamp_94 : decode cX10_stamp 94 = .ok (.iconst 0, 1) := by decide +kernel
theorem dX10_stamp_95 : decode cX10_stamp 95 = .ok (.iadd, 1) := by decide +kernel
theorem dX10_stamp_96 : decode cX10_stamp 96 = .ok (.istore 12, 2) := by decide +kernel
theorem dX10_stamp_98 : decode cX10_stamp 98 = .ok (.iload 10, 2) := by decide +kernel
theorem dX10_stamp_100 : decode cX10_stamp 100 = .ok (.iload 11, 2) := by decide +kernel
theorem dX10_stamp_102 : decode cX10_stamp 102 = .ok (.if_icmp .ne 23, 3) := by decide +kernel
theorem dX10_stamp_105 : decode cX10_stamp 105 = .ok (.lload 8, 2) := by decide +kernel
theorem dX10_stamp_107 : decode cX10_stamp 107 = .ok (.iload 12, 2) := by decide +kernel
theorem dX10_stamp_109 : decode cX10_stamp 109 = .ok (.i2l, 1) := by decide +kernel
theorem dX10_stamp_110 : decode cX10_stamp 110 = .ok (.lcmp, 1) := by decide +kernel
theorem dX10_stamp_111 : decode cX10_stamp 111 = .ok (.ifCond .lt 14, 3) := by decide +kernel
theorem dX10_stamp_114 : decode cX10_stamp 114 = .ok (.lload 8, 2) := by decide +kernel
theorem dX10_stamp_116 : decode cX10_stamp 116 = .ok (.iload 12, 2) := by decide +kernel
theorem dX10_stamp_118 : decode cX10_stamp 118 = .ok (.i2l, 1) := by decide +kernel
theorem dX10_stamp_119 : decode cX10_stamp 119 = .ok (.lsub, 1) := by decide +kernel
theorem dX10_stamp_120 : decode cX10_stamp 120 = .ok (.lstore 8, 2) := by decide +kernel
theorem dX10_stamp_122 : decode cX10_stamp 122 = .ok (.iinc 10 1, 3) := by decide +kernel
theorem dX10_stamp_125 : decode cX10_stamp 125 = .ok (.iinc 11 1, 3) := by decide +kernel
theorem dX10_stamp_128 : decode cX10_stamp 128 = .ok (.goto (-64), 3) := by decide +kernel
theorem dX10_stamp_131 : decode cX10_stamp 131 = .ok (.ldc2_w 25, 3) := by decide +kernel
theorem dX10_stamp_134 : decode cX10_stamp 134 = .ok (.lload_n 2, 1) := by decide +kernel
theorem dX10_stamp_135 : decode cX10_stamp 135 = .ok (.ldc2_w 15, 3) := by decide +kernel
theorem dX10_stamp_138 : decode cX10_stamp 138 = .ok (.ldiv, 1) := by decide +kernel
theorem dX10_stamp_139 : decode cX10_stamp 139 = .ok (.ldc2_w 27, 3) := by decide +kernel
theorem dX10_stamp_142 : decode cX10_stamp 142 = .ok (.lmul, 1) := by decide +kernel
theorem dX10_stamp_143 : decode cX10_stamp 143 = .ok (.ladd, 1) := by decide +kernel
theorem dX10_stamp_144 : decode cX10_stamp 144 = .ok (.lload 6, 2) := by decide +kernel
theorem dX10_stamp_146 : decode cX10_stamp 146 = .ok (.ladd, 1) := by decide +kernel
theorem dX10_stamp_147 : decode cX10_stamp 147 = .ok (.ldc2_w 29, 3) := by decide +kernel
theorem dX10_stamp_150 : decode cX10_stamp 150 = .ok (.lmul, 1) := by decide +kernel
theorem dX10_stamp_151 : decode cX10_stamp 151 = .ok (.iload 10, 2) := by decide +kernel
theorem dX10_stamp_153 : decode cX10_stamp 153 = .ok (.iconst 1, 1) := by decide +kernel
theorem dX10_stamp_154 : decode cX10_stamp 154 = .ok (.iadd, 1) := by decide +kernel
theorem dX10_stamp_155 : decode cX10_stamp 155 = .ok (.bipush 100, 2) := by decide +kernel
theorem dX10_stamp_157 : decode cX10_stamp 157 = .ok (.imul, 1) := by decide +kernel
theorem dX10_stamp_158 : decode cX10_stamp 158 = .ok (.i2l, 1) := by decide +kernel
theorem dX10_stamp_159 : decode cX10_stamp 159 = .ok (.ladd, 1) := by decide +kernel
theorem dX10_stamp_160 : decode cX10_stamp 160 = .ok (.lload 8, 2) := by decide +kernel
theorem dX10_stamp_162 : decode cX10_stamp 162 = .ok (.ladd, 1) := by decide +kernel
theorem dX10_stamp_163 : decode cX10_stamp 163 = .ok (.lconst 1, 1) := by decide +kernel
theorem dX10_stamp_164 : decode cX10_stamp 164 = .ok (.ladd, 1) := by decide +kernel
theorem dX10_stamp_165 : decode cX10_stamp 165 = .ok (.lstore 11, 2) := by decide +kernel
theorem dX10_stamp_167 : decode cX10_stamp 167 = .ok (.lload_n 0, 1) := by decide +kernel
theorem dX10_stamp_168 : decode cX10_stamp 168 = .ok (.ldc2_w 13, 3) := by decide +kernel
theorem dX10_stamp_171 : decode cX10_stamp 171 = .ok (.lrem, 1) := by decide +kernel
theorem dX10_stamp_172 : decode cX10_stamp 172 = .ok (.lstore 13, 2) := by decide +kernel
theorem dX10_stamp_174 : decode cX10_stamp 174 = .ok (.lload 11, 2) := by decide +kernel
theorem dX10_stamp_176 : decode cX10_stamp 176 = .ok (.ldc2_w 31, 3) := by decide +kernel
theorem dX10_stamp_179 : decode cX10_stamp 179 = .ok (.lmul, 1) := by decide +kernel
theorem dX10_stamp_180 : decode cX10_stamp 180 = .ok (.lload 13, 2) := by decide +kernel
theorem dX10_stamp_182 : decode cX10_stamp 182 = .ok (.ldc2_w 33, 3) := by decide +kernel
theorem dX10_stamp_185 : decode cX10_stamp 185 = .ok (.ldiv, 1) := by decide +kernel
theorem dX10_stamp_186 : decode cX10_stamp 186 = .ok (.ldc2_w 29, 3) := by decide +kernel
theorem dX10_stamp_189 : decode cX10_stamp 189 = .ok (.lmul, 1) := by decide +kernel
theorem dX10_stamp_190 : decode cX10_stamp 190 = .ok (.ladd, 1) := by decide +kernel
theorem dX10_stamp_191 : decode cX10_stamp 191 = .ok (.lload 13, 2) := by decide +kernel
theorem dX10_stamp_193 : decode cX10_stamp 193 = .ok (.ldc2_w 35, 3) := by decide +kernel
theorem dX10_stamp_196 : decode cX10_stamp 196 = .ok (.ldiv, 1) := by decide +kernel
theorem dX10_stamp_197 : decode cX10_stamp 197 = .ok (.ldc2_w 35, 3) := by decide +kernel
theorem dX10_stamp_200 : decode cX10_stamp 200 = .ok (.lrem, 1) := by decide +kernel
theorem dX10_stamp_201 : decode cX10_stamp 201 = .ok (.ldc2_w 37, 3) := by decide +kernel
theorem dX10_stamp_204 : decode cX10_stamp 204 = .ok (.lmul, 1) := by decide +kernel
theorem dX10_stamp_205 : decode cX10_stamp 205 = .ok (.ladd, 1) := by decide +kernel
theorem dX10_stamp_206 : decode cX10_stamp 206 = .ok (.lload 13, 2) := by decide +kernel
theorem dX10_stamp_208 : decode cX10_stamp 208 = .ok (.ldc2_w 35, 3) := by decide +kernel
theorem dX10_stamp_211 : decode cX10_stamp 211 = .ok (.lrem, 1) := by decide +kernel
theorem dX10_stamp_212 : decode cX10_stamp 212 = .ok (.ladd, 1) := by decide +kernel
theorem dX10_stamp_213 : decode cX10_stamp 213 = .ok (.lreturn, 1) := by decide +kernel
theorem dX10_character_0 : decode cX10_character 0 = .ok (.ldc2_w 39, 3) := by decide +kernel
theorem dX10_character_3 : decode cX10_character 3 = .ok (.lstore_n 3, 1) := by decide +kernel
theorem dX10_character_4 : decode cX10_character 4 = .ok (.iconst 0, 1) := by decide +kernel
theorem dX10_character_5 : decode cX10_character 5 = .ok (.istore 5, 2) := by decide +kernel
theorem dX10_character_7 : decode cX10_character 7 = .ok (.iload 5, 2) := by decide +kernel
theorem dX10_character_9 : decode cX10_character 9 = .ok (.iload_n 2, 1) := by decide +kernel
theorem dX10_character_10 : decode cX10_character 10 = .ok (.if_icmp .ge 22, 3) := by decide +kernel
theorem dX10_character_13 : decode cX10_character 13 = .ok (.iload 5, 2) := by decide +kernel
theorem dX10_character_15 : decode cX10_character 15 = .ok (.bipush 15, 2) := by decide +kernel
theorem dX10_character_17 : decode cX10_character 17 = .ok (.if_icmp .ge 15, 3) := by decide +kernel
theorem dX10_character_20 : decode cX10_character 20 = .ok (.lload_n 3, 1) := by decide +kernel
theorem dX10_character_21 : decode cX10_character 21 = .ok (.ldc2_w 41, 3) := by decide +kernel
theorem dX10_character_24 : decode cX10_character 24 = .ok (.ldiv, 1) := by decide +kernel
theorem dX10_character_25 : decode cX10_character 25 = .ok (.lstore_n 3, 1) := by decide +kernel
theorem dX10_character_26 : decode cX10_character 26 = .ok (.iinc 5 1, 3) := by decide +kernel
theorem dX10_character_29 : decode cX10_character 29 = .ok (.goto (-22), 3) := by decide +kernel
theorem dX10_character_32 : decode cX10_character 32 = .ok (.lload_n 3, 1) := by decide +kernel
theorem dX10_character_33 : decode cX10_character 33 = .ok (.lconst 0, 1) := by decide +kernel
theorem dX10_character_34 : decode cX10_character 34 = .ok (.lcmp, 1) := by decide +kernel
theorem dX10_character_35 : decode cX10_character 35 = .ok (.ifCond .ne 8, 3) := by decide +kernel
theorem dX10_character_38 : decode cX10_character 38 = .ok (.bipush 90, 2) := by decide +kernel
theorem dX10_character_40 : decode cX10_character 40 = .ok (.goto 15, 3) := by decide +kernel
theorem dX10_character_43 : decode cX10_character 43 = .ok (.ldc2_w 43, 3) := by decide +kernel
theorem dX10_character_46 : decode cX10_character 46 = .ok (.lload_n 0, 1) := by decide +kernel
theorem dX10_character_47 : decode cX10_character 47 = .ok (.lload_n 3, 1) := by decide +kernel
theorem dX10_character_48 : decode cX10_character 48 = .ok (.ldiv, 1) := by decide +kernel
theorem dX10_character_49 : decode cX10_character 49 = .ok (.ldc2_w 41, 3) := by decide +kernel
theorem dX10_character_52 : decode cX10_character 52 = .ok (.lrem, 1) := by decide +kernel
theorem dX10_character_53 : decode cX10_character 53 = .ok (.ladd, 1) := by decide +kernel
theorem dX10_character_54 : decode cX10_character 54 = .ok (.l2i, 1) := by decide +kernel
theorem dX10_character_55 : decode cX10_character 55 = .ok (.ireturn, 1) := by decide +kernel
theorem dX10_seconds_0 : decode cX10_seconds 0 = .ok (.lload_n 0, 1) := by decide +kernel
theorem dX10_seconds_1 : decode cX10_seconds 1 = .ok (.ldc2_w 45, 3) := by decide +kernel
theorem dX10_seconds_4 : decode cX10_seconds 4 = .ok (.ldiv, 1) := by decide +kernel
theorem dX10_seconds_5 : decode cX10_seconds 5 = .ok (.ldc2_w 25, 3) := by decide +kernel
theorem dX10_seconds_8 : decode cX10_seconds 8 = .ok (.lsub, 1) := by decide +kernel
theorem dX10_seconds_9 : decode cX10_seconds 9 = .ok (.lstore_n 2, 1) := by decide +kernel
theorem dX10_seconds_10 : decode cX10_seconds 10 = .ok (.lload_n 0, 1) := by decide +kernel
theorem dX10_seconds_11 : decode cX10_seconds 11 = .ok (.ldc2_w 47, 3) := by decide +kernel
theorem dX10_seconds_14 : decode cX10_seconds 14 = .ok (.ldiv, 1) := by decide +kernel
theorem dX10_seconds_15 : decode cX10_seconds 15 = .ok (.ldc2_w 37, 3) := by decide +kernel
theorem dX10_seconds_18 : decode cX10_seconds 18 = .ok (.lrem, 1) := by decide +kernel
theorem dX10_seconds_19 : decode cX10_seconds 19 = .ok (.l2i, 1) := by decide +kernel
theorem dX10_seconds_20 : decode cX10_seconds 20 = .ok (.iconst 1, 1) := by decide +kernel
theorem dX10_seconds_21 : decode cX10_seconds 21 = .ok (.isub, 1) := by decide +kernel
theorem dX10_seconds_22 : decode cX10_seconds 22 = .ok (.istore 4, 2) := by decide +kernel
theorem dX10_seconds_24 : decode cX10_seconds 24 = .ok (.lload_n 0, 1) := by decide +kernel
theorem dX10_seconds_25 : decode cX10_seconds 25 = .ok (.ldc2_w 31, 3) := by decide +kernel
theorem dX10_seconds_28 : decode cX10_seconds 28 = .ok (.ldiv, 1) := by decide +kernel
theorem dX10_seconds_29 : decode cX10_seconds 29 = .ok (.ldc2_w 37, 3) := by decide +kernel
theorem dX10_seconds_32 : decode cX10_seconds 32 = .ok (.lrem, 1) := by decide +kernel
theorem dX10_seconds_33 : decode cX10_seconds 33 = .ok (.lconst 1, 1) := by decide +kernel
theorem dX10_seconds_34 : decode cX10_seconds 34 = .ok (.lsub, 1) := by decide +kernel
theorem dX10_seconds_35 : decode cX10_seconds 35 = .ok (.lstore 5, 2) := by decide +kernel
theorem dX10_seconds_37 : decode cX10_seconds 37 = .ok (.lload_n 0, 1) := by decide +kernel
theorem dX10_seconds_38 : decode cX10_seconds 38 = .ok (.ldc2_w 29, 3) := by decide +kernel
theorem dX10_seconds_41 : decode cX10_seconds 41 = .ok (.ldiv, 1) := by decide +kernel
theorem dX10_seconds_42 : decode cX10_seconds 42 = .ok (.ldc2_w 37, 3) := by decide +kernel
theorem dX10_seconds_45 : decode cX10_seconds 45 = .ok (.lrem, 1) := by decide +kernel
theorem dX10_seconds_46 : decode cX10_seconds 46 = .ok (.lstore 7, 2) := by decide +kernel
theorem dX10_seconds_48 : decode cX10_seconds 48 = .ok (.lload_n 0, 1) := by decide +kernel
theorem dX10_seconds_49 : decode cX10_seconds 49 = .ok (.ldc2_w 37, 3) := by decide +kernel
theorem dX10_seconds_52 : decode cX10_seconds 52 = .ok (.ldiv, 1) := by decide +kernel
theorem dX10_seconds_53 : decode cX10_seconds 53 = .ok (.ldc2_w 37, 3) := by decide +kernel
theorem dX10_seconds_56 : decode cX10_seconds 56 = .ok (.lrem, 1) := by decide +kernel
theorem dX10_seconds_57 : decode cX10_seconds 57 = .ok (.lstore 9, 2) := by decide +kernel
theorem dX10_seconds_59 : decode cX10_seconds 59 = .ok (.lload_n 0, 1) := by decide +kernel
theorem dX10_seconds_60 : decode cX10_seconds 60 = .ok (.ldc2_w 37, 3) := by decide +kernel
theorem dX10_seconds_63 : decode cX10_seconds 63 = .ok (.lrem, 1) := by decide +kernel
theorem dX10_seconds_64 : decode cX10_seconds 64 = .ok (.lstore 11, 2) := by decide +kernel
theorem dX10_seconds_66 : decode cX10_seconds 66 = .ok (.lload_n 2, 1) := by decide +kernel
theorem dX10_seconds_67 : decode cX10_seconds 67 = .ok (.lconst 0, 1) := by decide +kernel
theorem dX10_seconds_68 : decode cX10_seconds 68 = .ok (.lcmp, 1) := by decide +kernel
theorem dX10_seconds_69 : decode cX10_seconds 69 = .ok (.ifCond .lt 25, 3) := by decide +kernel
theorem dX10_seconds_72 : decode cX10_seconds 72 = .ok (.lload_n 2, 1) := by decide +kernel
theorem dX10_seconds_73 : decode cX10_seconds 73 = .ok (.ldc2_w 49, 3) := by decide +kernel
theorem dX10_seconds_76 : decode cX10_seconds 76 = .ok (.lcmp, 1) := by decide +kernel
