theorem dX0_init_0 : decode cX0_init 0 = .ok (.aload_n 0, 1) := by decide +kernel
theorem dX0_init_1 : decode cX0_init 1 = .ok (.invokespecial 3, 3) := by decide +kernel
theorem dX0_init_4 : decode cX0_init 4 = .ok (.aload_n 0, 1) := by decide +kernel
theorem dX0_init_5 : decode cX0_init 5 = .ok (.iconst 2, 1) := by decide +kernel
theorem dX0_init_6 : decode cX0_init 6 = .ok (.anewarray 9, 3) := by decide +kernel
theorem dX0_init_9 : decode cX0_init 9 = .ok (.putfield 11, 3) := by decide +kernel
theorem dX0_init_12 : decode cX0_init 12 = .ok (.aload_n 0, 1) := by decide +kernel
theorem dX0_init_13 : decode cX0_init 13 = .ok (.iconst 4, 1) := by decide +kernel
theorem dX0_init_14 : decode cX0_init 14 = .ok (.newarray .int, 2) := by decide +kernel
theorem dX0_init_16 : decode cX0_init 16 = .ok (.putfield 17, 3) := by decide +kernel
theorem dX0_init_19 : decode cX0_init 19 = .ok (.aload_n 0, 1) := by decide +kernel
theorem dX0_init_20 : decode cX0_init 20 = .ok (.sipush 1000, 3) := by decide +kernel
theorem dX0_init_23 : decode cX0_init 23 = .ok (.newarray .byte, 2) := by decide +kernel
theorem dX0_init_25 : decode cX0_init 25 = .ok (.putfield 21, 3) := by decide +kernel
theorem dX0_init_28 : decode cX0_init 28 = .ok (.return_, 1) := by decide +kernel
theorem dX0_markTaken_0 : decode cX0_markTaken 0 = .ok (.aload_n 0, 1) := by decide +kernel
theorem dX0_markTaken_1 : decode cX0_markTaken 1 = .ok (.getfield 21, 3) := by decide +kernel
theorem dX0_markTaken_4 : decode cX0_markTaken 4 = .ok (.iconst 0, 1) := by decide +kernel
theorem dX0_markTaken_5 : decode cX0_markTaken 5 = .ok (.invokestatic 25, 3) := by decide +kernel
theorem dX0_markTaken_8 : decode cX0_markTaken 8 = .ok (.aload_n 0, 1) := by decide +kernel
theorem dX0_markTaken_9 : decode cX0_markTaken 9 = .ok (.iconst 0, 1) := by decide +kernel
theorem dX0_markTaken_10 : decode cX0_markTaken 10 = .ok (.putfield 31, 3) := by decide +kernel
theorem dX0_markTaken_13 : decode cX0_markTaken 13 = .ok (.aload_n 0, 1) := by decide +kernel
theorem dX0_markTaken_14 : decode cX0_markTaken 14 = .ok (.iconst 0, 1) := by decide +kernel
theorem dX0_markTaken_15 : decode cX0_markTaken 15 = .ok (.putfield 35, 3) := by decide +kernel
theorem dX0_markTaken_18 : decode cX0_markTaken 18 = .ok (.aload_n 0, 1) := by decide +kernel
theorem dX0_markTaken_19 : decode cX0_markTaken 19 = .ok (.aload_n 1, 1) := by decide +kernel
theorem dX0_markTaken_20 : decode cX0_markTaken 20 = .ok (.iconst 0, 1) := by decide +kernel
theorem dX0_markTaken_21 : decode cX0_markTaken 21 = .ok (.invokestatic 38, 3) := by decide +kernel
theorem dX0_markTaken_24 : decode cX0_markTaken 24 = .ok (.aload_n 0, 1) := by decide +kernel
theorem dX0_markTaken_25 : decode cX0_markTaken 25 = .ok (.aload_n 2, 1) := by decide +kernel
theorem dX0_markTaken_26 : decode cX0_markTaken 26 = .ok (.invokevirtual 42, 3) := by decide +kernel
theorem dX0_markTaken_29 : decode cX0_markTaken 29 = .ok (.iconst 0, 1) := by decide +kernel
theorem dX0_markTaken_30 : decode cX0_markTaken 30 = .ok (.istore_n 3, 1) := by decide +kernel
theorem dX0_markTaken_31 : decode cX0_markTaken 31 = .ok (.iload_n 3, 1) := by decide +kernel
theorem dX0_markTaken_32 : decode cX0_markTaken 32 = .ok (.aload_n 0, 1) := by decide +kernel
theorem dX0_markTaken_33 : decode cX0_markTaken 33 = .ok (.getfield 11, 3) := by decide +kernel
theorem dX0_markTaken_36 : decode cX0_markTaken 36 = .ok (.arraylength, 1) := by decide +kernel
theorem dX0_markTaken_37 : decode cX0_markTaken 37 = .ok (.if_icmp .ge 41, 3) := by decide +kernel
theorem dX0_markTaken_40 : decode cX0_markTaken 40 = .ok (.aload_n 0, 1) := by decide +kernel
theorem dX0_markTaken_41 : decode cX0_markTaken 41 = .ok (.getfield 11, 3) := by decide +kernel
theorem dX0_markTaken_44 : decode cX0_markTaken 44 = .ok (.iload_n 3, 1) := by decide +kernel
theorem dX0_markTaken_45 : decode cX0_markTaken 45 = .ok (.aaload, 1) := by decide +kernel
theorem dX0_markTaken_46 : decode cX0_markTaken 46 = .ok (.astore 4, 2) := by decide +kernel
theorem dX0_markTaken_48 : decode cX0_markTaken 48 = .ok (.aload 4, 2) := by decide +kernel
theorem dX0_markTaken_50 : decode cX0_markTaken 50 = .ok (.ifnull 22, 3) := by decide +kernel
theorem dX0_markTaken_53 : decode cX0_markTaken 53 = .ok (.aload_n 0, 1) := by decide +kernel
theorem dX0_markTaken_54 : decode cX0_markTaken 54 = .ok (.aload 4, 2) := by decide +kernel
theorem dX0_markTaken_56 : decode cX0_markTaken 56 = .ok (.getfield 46, 3) := by decide +kernel
theorem dX0_markTaken_59 : decode cX0_markTaken 59 = .ok (.iconst 0, 1) := by decide +kernel
theorem dX0_markTaken_60 : decode cX0_markTaken 60 = .ok (.invokestatic 38, 3) := by decide +kernel
theorem dX0_markTaken_63 : decode cX0_markTaken 63 = .ok (.aload_n 0, 1) := by decide +kernel
theorem dX0_markTaken_64 : decode cX0_markTaken 64 = .ok (.aload 4, 2) := by decide +kernel
theorem dX0_markTaken_66 : decode cX0_markTaken 66 = .ok (.getfield 50, 3) := by decide +kernel
theorem dX0_markTaken_69 : decode cX0_markTaken 69 = .ok (.invokevirtual 42, 3) := by decide +kernel
theorem dX0_markTaken_72 : decode cX0_markTaken 72 = .ok (.iinc 3 1, 3) := by decide +kernel
theorem dX0_markTaken_75 : decode cX0_markTaken 75 = .ok (.goto (-44), 3) := by decide +kernel
theorem dX0_markTaken_78 : decode cX0_markTaken 78 = .ok (.return_, 1) := by decide +kernel
theorem dX0_markPictures_0 : decode cX0_markPictures 0 = .ok (.iconst 0, 1) := by decide +kernel
theorem dX0_markPictures_1 : decode cX0_markPictures 1 = .ok (.istore_n 2, 1) := by decide +kernel
theorem dX0_markPictures_2 : decode cX0_markPictures 2 = .ok (.iload_n 2, 1) := by decide +kernel
theorem dX0_markPictures_3 : decode cX0_markPictures 3 = .ok (.aload_n 1, 1) := by decide +kernel
theorem dX0_markPictures_4 : decode cX0_markPictures 4 = .ok (.invokevirtual 54, 3) := by decide +kernel
theorem dX0_markPictures_7 : decode cX0_markPictures 7 = .ok (.if_icmp .ge 25, 3) := by decide +kernel
theorem dX0_markPictures_10 : decode cX0_markPictures 10 = .ok (.aload_n 0, 1) := by decide +kernel
theorem dX0_markPictures_11 : decode cX0_markPictures 11 = .ok (.aload_n 1, 1) := by decide +kernel
theorem dX0_markPictures_12 : decode cX0_markPictures 12 = .ok (.iload_n 2, 1) := by decide +kernel
theorem dX0_markPictures_13 : decode cX0_markPictures 13 = .ok (.invokevirtual 60, 3) := by decide +kernel
theorem dX0_markPictures_16 : decode cX0_markPictures 16 = .ok (.checkcast 64, 3) := by decide +kernel
theorem dX0_markPictures_19 : decode cX0_markPictures 19 = .ok (.getfield 66, 3) := by decide +kernel
theorem dX0_markPictures_22 : decode cX0_markPictures 22 = .ok (.iconst 0, 1) := by decide +kernel
theorem dX0_markPictures_23 : decode cX0_markPictures 23 = .ok (.invokestatic 38, 3) := by decide +kernel
theorem dX0_markPictures_26 : decode cX0_markPictures 26 = .ok (.iinc 2 1, 3) := by decide +kernel
theorem dX0_markPictures_29 : decode cX0_markPictures 29 = .ok (.goto (-27), 3) := by decide +kernel
theorem dX0_markPictures_32 : decode cX0_markPictures 32 = .ok (.return_, 1) := by decide +kernel
theorem dX0_markPages_0 : decode cX0_markPages 0 = .ok (.aload_n 1, 1) := by decide +kernel
theorem dX0_markPages_1 : decode cX0_markPages 1 = .ok (.getfield 67, 3) := by decide +kernel
theorem dX0_markPages_4 : decode cX0_markPages 4 = .ok (.ifCond .lt 46, 3) := by decide +kernel
theorem dX0_markPages_7 : decode cX0_markPages 7 = .ok (.aload_n 1, 1) := by decide +kernel
theorem dX0_markPages_8 : decode cX0_markPages 8 = .ok (.getfield 67, 3) := by decide +kernel
theorem dX0_markPages_11 : decode cX0_markPages 11 = .ok (.sipush 1000, 3) := by decide +kernel
theorem dX0_markPages_14 : decode cX0_markPages 14 = .ok (.if_icmp .ge 36, 3) := by decide +kernel
theorem dX0_markPages_17 : decode cX0_markPages 17 = .ok (.aload_n 0, 1) := by decide +kernel
theorem dX0_markPages_18 : decode cX0_markPages 18 = .ok (.getfield 21, 3) := by decide +kernel
theorem dX0_markPages_21 : decode cX0_markPages 21 = .ok (.aload_n 1, 1) := by decide +kernel
theorem dX0_markPages_22 : decode cX0_markPages 22 = .ok (.getfield 67, 3) := by decide +kernel
theorem dX0_markPages_25 : decode cX0_markPages 25 = .ok (.baload, 1) := by decide +kernel
theorem dX0_markPages_26 : decode cX0_markPages 26 = .ok (.ifCond .eq 4, 3) := by decide +kernel
theorem dX0_markPages_29 : decode cX0_markPages 29 = .ok (.return_, 1) := by decide +kernel
theorem dX0_markPages_30 : decode cX0_markPages 30 = .ok (.aload_n 0, 1) := by decide +kernel
theorem dX0_markPages_31 : decode cX0_markPages 31 = .ok (.getfield 21, 3) := by decide +kernel
theorem dX0_markPages_34 : decode cX0_markPages 34 = .ok (.aload_n 1, 1) := by decide +kernel
theorem dX0_markPages_35 : decode cX0_markPages 35 = .ok (.getfield 67, 3) := by decide +kernel
theorem dX0_markPages_38 : decode cX0_markPages 38 = .ok (.iconst 1, 1) := by decide +kernel
theorem dX0_markPages_39 : decode cX0_markPages 39 = .ok (.bastore, 1) := by decide +kernel
theorem dX0_markPages_40 : decode cX0_markPages 40 = .ok (.aload_n 0, 1) := by decide +kernel
theorem dX0_markPages_41 : decode cX0_markPages 41 = .ok (.dup, 1) := by decide +kernel
theorem dX0_markPages_42 : decode cX0_markPages 42 = .ok (.getfield 31, 3) := by decide +kernel
theorem dX0_markPages_45 : decode cX0_markPages 45 = .ok (.iconst 1, 1) := by decide +kernel
theorem dX0_markPages_46 : decode cX0_markPages 46 = .ok (.iadd, 1) := by decide +kernel
theorem dX0_markPages_47 : decode cX0_markPages 47 = .ok (.putfield 31, 3) := by decide +kernel
theorem dX0_markPages_50 : decode cX0_markPages 50 = .ok (.iconst 0, 1) := by decide +kernel
theorem dX0_markPages_51 : decode cX0_markPages 51 = .ok (.istore_n 3, 1) := by decide +kernel
theorem dX0_markPages_52 : decode cX0_markPages 52 = .ok (.iload_n 3, 1) := by decide +kernel
theorem dX0_markPages_53 : decode cX0_markPages 53 = .ok (.aload_n 1, 1) := by decide +kernel
theorem dX0_markPages_54 : decode cX0_markPages 54 = .ok (.getfield 72, 3) := by decide +kernel
theorem dX0_markPages_57 : decode cX0_markPages 57 = .ok (.invokevirtual 54, 3) := by decide +kernel
theorem dX0_markPages_60 : decode cX0_markPages 60 = .ok (.if_icmp .ge 33, 3) := by decide +kernel
theorem dX0_markPages_63 : decode cX0_markPages 63 = .ok (.iload_n 2, 1) := by decide +kernel
theorem dX0_markPages_64 : decode cX0_markPages 64 = .ok (.bipush 40, 2) := by decide +kernel
theorem dX0_markPages_66 : decode cX0_markPages 66 = .ok (.if_icmp .ge 27, 3) := by decide +kernel
theorem dX0_markPages_69 : decode cX0_markPages 69 = .ok (.aload_n 0, 1) := by decide +kernel
theorem dX0_markPages_70 : decode cX0_markPages 70 = .ok (.aload_n 1, 1) := by decide +kernel
theorem dX0_markPages_71 : decode cX0_markPages 71 = .ok (.getfield 72, 3) := by decide +kernel
theorem dX0_markPages_74 : decode cX0_markPages 74 = .ok (.iload_n 3, 1) := by decide +kernel
theorem dX0_markPages_75 : decode cX0_markPages 75 = .ok (.invokevirtual 60, 3) := by decide +kernel
theorem dX0_markPages_78 : decode cX0_markPages 78 = .ok (.checkcast 68, 3) := by decide +kernel
theorem dX0_markPages_81 : decode cX0_markPages 81 = .ok (.iload_n 2, 1) := by decide +kernel
theorem dX0_markPages_82 : decode cX0_markPages 82 = .ok (.iconst 1, 1) := by decide +kernel
theorem dX0_markPages_83 : decode cX0_markPages 83 = .ok (.iadd, 1) := by decide +kernel
theorem dX0_markPages_84 : decode cX0_markPages 84 = .ok (.invokestatic 38, 3) := by decide +kernel
theorem dX0_markPages_87 : decode cX0_markPages 87 = .ok (.iinc 3 1, 3) := by decide +kernel
theorem dX0_markPages_90 : decode cX0_markPages 90 = .ok (.goto (-38), 3) := by decide +kernel
theorem dX0_markPages_93 : decode cX0_markPages 93 = .ok (.return_, 1) := by decide +kernel
theorem dX0_writePages_0 : decode cX0_writePages 0 = .ok (.aload_n 1, 1) := by decide +kernel
theorem dX0_writePages_1 : decode cX0_writePages 1 = .ok (.getfield 67, 3) := by decide +kernel
theorem dX0_writePages_4 : decode cX0_writePages 4 = .ok (.iconst (-1), 1) := by decide +kernel
theorem dX0_writePages_5 : decode cX0_writePages 5 = .ok (.if_icmp .eq 5, 3) := by decide +kernel
theorem dX0_writePages_8 : decode cX0_writePages 8 = .ok (.iconst 1, 1) := by decide +kernel
theorem dX0_writePages_9 : decode cX0_writePages 9 = .ok (.ireturn, 1) := by decide +kernel
theorem dX0_writePages_10 : decode cX0_writePages 10 = .ok (.iconst 0, 1) := by decide +kernel
theorem dX0_writePages_11 : decode cX0_writePages 11 = .ok (.istore_n 3, 1) := by decide +kernel
theorem dX0_writePages_12 : decode cX0_writePages 12 = .ok (.iload_n 3, 1) := by decide +kernel
theorem dX0_writePages_13 : decode cX0_writePages 13 = .ok (.aload_n 1, 1) := by decide +kernel
theorem dX0_writePages_14 : decode cX0_writePages 14 = .ok (.getfield 72, 3) := by decide +kernel
theorem dX0_writePages_17 : decode cX0_writePages 17 = .ok (.invokevirtual 54, 3) := by decide +kernel
theorem dX0_writePages_20 : decode cX0_writePages 20 = .ok (.if_icmp .ge 38, 3) := by decide +kernel
theorem dX0_writePages_23 : decode cX0_writePages 23 = .ok (.iload_n 2, 1) := by decide +kernel
theorem dX0_writePages_24 : decode cX0_writePages 24 = .ok (.bipush 40, 2) := by decide +kernel
theorem dX0_writePages_26 : decode cX0_writePages 26 = .ok (.if_icmp .ge 32, 3) := by decide +kernel
theorem dX0_writePages_29 : decode cX0_writePages 29 = .ok (.aload_n 0, 1) := by decide +kernel
theorem dX0_writePages_30 : decode cX0_writePages 30 = .ok (.aload_n 1, 1) := by decide +kernel
theorem dX0_writePages_31 : decode cX0_writePages 31 = .ok (.getfield 72, 3) := by decide +kernel
theorem dX0_writePages_34 : decode cX0_writePages 34 = .ok (.iload_n 3, 1) := by decide +kernel
theorem dX0_writePages_35 : decode cX0_writePages 35 = .ok (.invokevirtual 60, 3) := by decide +kernel
theorem dX0_writePages_38 : decode cX0_writePages 38 = .ok (.checkcast 68, 3) := by decide +kernel
theorem dX0_writePages_41 : decode cX0_writePages 41 = .ok (.iload_n 2, 1) := by decide +kernel
theorem dX0_writePages_42 : decode cX0_writePages 42 = .ok (.iconst 1, 1) := by decide +kernel
theorem dX0_writePages_43 : decode cX0_writePages 43 = .ok (.iadd, 1) := by decide +kernel
theorem dX0_writePages_44 : decode cX0_writePages 44 = .ok (.invokestatic 75, 3) := by decide +kernel
theorem dX0_writePages_47 : decode cX0_writePages 47 = .ok (.ifCond .ne 5, 3) := by decide +kernel
theorem dX0_writePages_50 : decode cX0_writePages 50 = .ok (.iconst 0, 1) := by decide +kernel
theorem dX0_writePages_51 : decode cX0_writePages 51 = .ok (.ireturn, 1) := by decide +kernel
theorem dX0_writePages_52 : decode cX0_writePages 52 = .ok (.iinc 3 1, 3) := by decide +kernel
theorem dX0_writePages_55 : decode cX0_writePages 55 = .ok (.goto (-43), 3) := by decide +kernel
theorem dX0_writePages_58 : decode cX0_writePages 58 = .ok (.aload_n 0, 1) := by decide +kernel
theorem dX0_writePages_59 : decode cX0_writePages 59 = .ok (.aload_n 1, 1) := by decide +kernel
theorem dX0_writePages_60 : decode cX0_writePages 60 = .ok (.invokevirtual 79, 3) := by decide +kernel
theorem dX0_writePages_63 : decode cX0_writePages 63 = .ok (.ireturn, 1) := by decide +kernel
theorem dX0_writePage_0 : decode cX0_writePage 0 = .ok (.aload_n 0, 1) := by decide +kernel
theorem dX0_writePage_1 : decode cX0_writePage 1 = .ok (.getfield 17, 3) := by decide +kernel
theorem dX0_writePage_4 : decode cX0_writePage 4 = .ok (.aload_n 1, 1) := by decide +kernel
theorem dX0_writePage_5 : decode cX0_writePage 5 = .ok (.invokevirtual 83, 3) := by decide +kernel
theorem dX0_writePage_8 : decode cX0_writePage 8 = .ok (.ifCond .eq 7, 3) := by decide +kernel
theorem dX0_writePage_11 : decode cX0_writePage 11 = .ok (.iconst 0, 1) := by decide +kernel
theorem dX0_writePage_12 : decode cX0_writePage 12 = .ok (.goto 4, 3) := by decide +kernel
theorem dX0_writePage_15 : decode cX0_writePage 15 = .ok (.iconst 1, 1) := by decide +kernel
theorem dX0_writePage_16 : decode cX0_writePage 16 = .ok (.dup2, 1) := by decide +kernel
theorem dX0_writePage_17 : decode cX0_writePage 17 = .ok (.iaload, 1) := by decide +kernel
theorem dX0_writePage_18 : decode cX0_writePage 18 = .ok (.iconst 1, 1) := by decide +kernel
theorem dX0_writePage_19 : decode cX0_writePage 19 = .ok (.iadd, 1) := by decide +kernel
theorem dX0_writePage_20 : decode cX0_writePage 20 = .ok (.iastore, 1) := by decide +kernel
theorem dX0_writePage_21 : decode cX0_writePage 21 = .ok (.aload_n 0, 1) := by decide +kernel
theorem dX0_writePage_22 : decode cX0_writePage 22 = .ok (.invokevirtual 87, 3) := by decide +kernel
theorem dX0_writePage_25 : decode cX0_writePage 25 = .ok (.ifCond .eq 5, 3) := by decide +kernel
theorem dX0_writePage_28 : decode cX0_writePage 28 = .ok (.iconst 0, 1) := by decide +kernel
theorem dX0_writePage_29 : decode cX0_writePage 29 = .ok (.ireturn, 1) := by decide +kernel
theorem dX0_writePage_30 : decode cX0_writePage 30 = .ok (.aload_n 0, 1) := by decide +kernel
theorem dX0_writePage_31 : decode cX0_writePage 31 = .ok (.getfield 35, 3) := by decide +kernel
theorem dX0_writePage_34 : decode cX0_writePage 34 = .ok (.sipush 1000, 3) := by decide +kernel
theorem dX0_writePage_37 : decode cX0_writePage 37 = .ok (.if_icmp .ge 28, 3) := by decide +kernel
theorem dX0_writePage_40 : decode cX0_writePage 40 = .ok (.aload_n 0, 1) := by decide +kernel
theorem dX0_writePage_41 : decode cX0_writePage 41 = .ok (.getfield 21, 3) := by decide +kernel
theorem dX0_writePage_44 : decode cX0_writePage 44 = .ok (.aload_n 0, 1) := by decide +kernel
theorem dX0_writePage_45 : decode cX0_writePage 45 = .ok (.getfield 35, 3) := by decide +kernel
theorem dX0_writePage_48 : decode cX0_writePage 48 = .ok (.baload, 1) := by decide +kernel
theorem dX0_writePage_49 : decode cX0_writePage 49 = .ok (.ifCond .eq 16, 3) := by decide +kernel
theorem dX0_writePage_52 : decode cX0_writePage 52 = .ok (.aload_n 0, 1) := by decide +kernel
theorem dX0_writePage_53 : decode cX0_writePage 53 = .ok (.dup, 1) := by decide +kernel
theorem dX0_writePage_54 : decode cX0_writePage 54 = .ok (.getfield 35, 3) := by decide +kernel
theorem dX0_writePage_57 : decode cX0_writePage 57 = .ok (.iconst 1, 1) := by decide +kernel
theorem dX0_writePage_58 : decode cX0_writePage 58 = .ok (.iadd, 1) := by decide +kernel
theorem dX0_writePage_59 : decode cX0_writePage 59 = .ok (.putfield 35, 3) := by decide +kernel
theorem dX0_writePage_62 : decode cX0_writePage 62 = .ok (.goto (-32), 3) := by decide +kernel
theorem dX0_writePage_65 : decode cX0_writePage 65 = .ok (.aload_n 0, 1) := by decide +kernel
theorem dX0_writePage_66 : decode cX0_writePage 66 = .ok (.getfield 35, 3) := by decide +kernel
theorem dX0_writePage_69 : decode cX0_writePage 69 = .ok (.sipush 1000, 3) := by decide +kernel
theorem dX0_writePage_72 : decode cX0_writePage 72 = .ok (.if_icmp .ge 21, 3) := by decide +kernel
theorem dX0_writePage_75 : decode cX0_writePage 75 = .ok (.aload_n 1, 1) := by decide +kernel
theorem dX0_writePage_76 : decode cX0_writePage 76 = .ok (.aload_n 0, 1) := by decide +kernel
theorem dX0_writePage_77 : decode cX0_writePage 77 = .ok (.getfield 35, 3) := by decide +kernel
theorem dX0_writePage_80 : decode cX0_writePage 80 = .ok (.putfield 67, 3) := by decide +kernel
theorem dX0_writePage_83 : decode cX0_writePage 83 = .ok (.aload_n 0, 1) := by decide +kernel
theorem dX0_writePage_84 : decode cX0_writePage 84 = .ok (.getfield 21, 3) := by decide +kernel
theorem dX0_writePage_87 : decode cX0_writePage 87 = .ok (.aload_n 0, 1) := by decide +kernel
theorem dX0_writePage_88 : decode cX0_writePage 88 = .ok (.getfield 35, 3) := by decide +kernel
theorem dX0_writePage_91 : decode cX0_writePage 91 = .ok (.iconst 1, 1) := by decide +kernel
theorem dX0_writePage_92 : decode cX0_writePage 92 = .ok (.bastore, 1) := by decide +kernel
theorem dX0_writePage_93 : decode cX0_writePage 93 = .ok (.iconst 1, 1) := by decide +kernel
theorem dX0_writePage_94 : decode cX0_writePage 94 = .ok (.ireturn, 1) := by decide +kernel
theorem dX0_writeHead_0 : decode cX0_writeHead 0 = .ok (.aload_n 1, 1) := by decide +kernel
theorem dX0_writeHead_1 : decode cX0_writeHead 1 = .ok (.getfield 90, 3) := by decide +kernel
theorem dX0_writeHead_4 : decode cX0_writeHead 4 = .ok (.iconst 1, 1) := by decide +kernel
theorem dX0_writeHead_5 : decode cX0_writeHead 5 = .ok (.iand, 1) := by decide +kernel
theorem dX0_writeHead_6 : decode cX0_writeHead 6 = .ok (.istore_n 2, 1) := by decide +kernel
theorem dX0_writeHead_7 : decode cX0_writeHead 7 = .ok (.aload_n 0, 1) := by decide +kernel
theorem dX0_writeHead_8 : decode cX0_writeHead 8 = .ok (.getfield 17, 3) := by decide +kernel
theorem dX0_writeHead_11 : decode cX0_writeHead 11 = .ok (.iconst 2, 1) := by decide +kernel
theorem dX0_writeHead_12 : decode cX0_writeHead 12 = .ok (.dup2, 1) := by decide +kernel
theorem dX0_writeHead_13 : decode cX0_writeHead 13 = .ok (.iaload, 1) := by decide +kernel
theorem dX0_writeHead_14 : decode cX0_writeHead 14 = .ok (.iconst 1, 1) := by decide +kernel
theorem dX0_writeHead_15 : decode cX0_writeHead 15 = .ok (.iadd, 1) := by decide +kernel
theorem dX0_writeHead_16 : decode cX0_writeHead 16 = .ok (.iastore, 1) := by decide +kernel
theorem dX0_writeHead_17 : decode cX0_writeHead 17 = .ok (.aload_n 0, 1) := by decide +kernel
theorem dX0_writeHead_18 : decode cX0_writeHead 18 = .ok (.invokevirtual 87, 3) := by decide +kernel
theorem dX0_writeHead_21 : decode cX0_writeHead 21 = .ok (.istore_n 3, 1) := by decide +kernel
theorem dX0_writeHead_22 : decode cX0_writeHead 22 = .ok (.aload_n 0, 1) := by decide +kernel
theorem dX0_writeHead_23 : decode cX0_writeHead 23 = .ok (.getfield 11, 3) := by decide +kernel
theorem dX0_writeHead_26 : decode cX0_writeHead 26 = .ok (.iload_n 2, 1) := by decide +kernel
theorem dX0_writeHead_27 : decode cX0_writeHead 27 = .ok (.iload_n 3, 1) := by decide +kernel
theorem dX0_writeHead_28 : decode cX0_writeHead 28 = .ok (.ifCond .eq 7, 3) := by decide +kernel
theorem dX0_writeHead_31 : decode cX0_writeHead 31 = .ok (.aconst_null, 1) := by decide +kernel
theorem dX0_writeHead_32 : decode cX0_writeHead 32 = .ok (.goto 4, 3) := by decide +kernel
theorem dX0_writeHead_35 : decode cX0_writeHead 35 = .ok (.aload_n 1, 1) := by decide +kernel
theorem dX0_writeHead_36 : decode cX0_writeHead 36 = .ok (.aastore, 1) := by decide +kernel
theorem dX0_writeHead_37 : decode cX0_writeHead 37 = .ok (.iload_n 3, 1) := by decide +kernel
theorem dX0_writeHead_38 : decode cX0_writeHead 38 = .ok (.ifCond .ne 7, 3) := by decide +kernel
theorem dX0_writeHead_41 : decode cX0_writeHead 41 = .ok (.iconst 1, 1) := by decide +kernel
theorem dX0_writeHead_42 : decode cX0_writeHead 42 = .ok (.goto 4, 3) := by decide +kernel
theorem dX0_writeHead_45 : decode cX0_writeHead 45 = .ok (.iconst 0, 1) := by decide +kernel
theorem dX0_writeHead_46 : decode cX0_writeHead 46 = .ok (.ireturn, 1) := by decide +kernel
theorem dX0_fallComes_0 : decode cX0_fallComes 0 = .ok (.aload_n 0, 1) := by decide +kernel
theorem dX0_fallComes_1 : decode cX0_fallComes 1 = .ok (.getfield 93, 3) := by decide +kernel
theorem dX0_fallComes_4 : decode cX0_fallComes 4 = .ok (.ifCond .ne 5, 3) := by decide +kernel
theorem dX0_fallComes_7 : decode cX0_fallComes 7 = .ok (.iconst 0, 1) := by decide +kernel
theorem dX0_fallComes_8 : decode cX0_fallComes 8 = .ok (.ireturn, 1) := by decide +kernel
theorem dX0_fallComes_9 : decode cX0_fallComes 9 = .ok (.aload_n 0, 1) := by decide +kernel
theorem dX0_fallComes_10 : decode cX0_fallComes 10 = .ok (.dup, 1) := by decide +kernel
theorem dX0_fallComes_11 : decode cX0_fallComes 11 = .ok (.getfield 93, 3) := by decide +kernel
theorem dX0_fallComes_14 : decode cX0_fallComes 14 = .ok (.iconst 1, 1) := by decide +kernel
theorem dX0_fallComes_15 : decode cX0_fallComes 15 = .ok (.isub, 1) := by decide +kernel
theorem dX0_fallComes_16 : decode cX0_fallComes 16 = .ok (.putfield 93, 3) := by decide +kernel
theorem dX0_fallComes_19 : decode cX0_fallComes 19 = .ok (.aload_n 0, 1) := by decide +kernel
theorem dX0_fallComes_20 : decode cX0_fallComes 20 = .ok (.getfield 93, 3) := by decide +kernel
theorem dX0_fallComes_23 : decode cX0_fallComes 23 = .ok (.ifCond .le 5, 3) := by decide +kernel
theorem dX0_fallComes_26 : decode cX0_fallComes 26 = .ok (.iconst 0, 1) := by decide +kernel
theorem dX0_fallComes_27 : decode cX0_fallComes 27 = .ok (.ireturn, 1) := by decide +kernel
theorem dX0_fallComes_28 : decode cX0_fallComes 28 = .ok (.aload_n 0, 1) := by decide +kernel
theorem dX0_fallComes_29 : decode cX0_fallComes 29 = .ok (.getfield 17, 3) := by decide +kernel
theorem dX0_fallComes_32 : decode cX0_fallComes 32 = .ok (.iconst 3, 1) := by decide +kernel
theorem dX0_fallComes_33 : decode cX0_fallComes 33 = .ok (.dup2, 1) := by decide +kernel
theorem dX0_fallComes_34 : decode cX0_fallComes 34 = .ok (.iaload, 1) := by decide +kernel
theorem dX0_fallComes_35 : decode cX0_fallComes 35 = .ok (.iconst 1, 1) := by decide +kernel
theorem dX0_fallComes_36 : decode cX0_fallComes 36 = .ok (.iadd, 1) := by decide +kernel
theorem dX0_fallComes_37 : decode cX0_fallComes 37 = .ok (.iastore, 1) := by decide +kernel
theorem dX0_fallComes_38 : decode cX0_fallComes 38 = .ok (.iconst 1, 1) := by decide +kernel
theorem dX0_fallComes_39 : decode cX0_fallComes 39 = .ok (.ireturn, 1) := by decide +kernel
theorem dX0_latestHead_0 : decode cX0_latestHead 0 = .ok (.aload_n 0, 1) := by decide +kernel
theorem dX0_latestHead_1 : decode cX0_latestHead 1 = .ok (.getfield 11, 3) := by decide +kernel
theorem dX0_latestHead_4 : decode cX0_latestHead 4 = .ok (.iconst 0, 1) := by decide +kernel
theorem dX0_latestHead_5 : decode cX0_latestHead 5 = .ok (.aaload, 1) := by decide +kernel
theorem dX0_latestHead_6 : decode cX0_latestHead 6 = .ok (.astore_n 1, 1) := by decide +kernel
theorem dX0_latestHead_7 : decode cX0_latestHead 7 = .ok (.aload_n 0, 1) := by decide +kernel
theorem dX0_latestHead_8 : decode cX0_latestHead 8 = .ok (.getfield 11, 3) := by decide +kernel
theorem dX0_latestHead_11 : decode cX0_latestHead 11 = .ok (.iconst 1, 1) := by decide +kernel
theorem dX0_latestHead_12 : decode cX0_latestHead 12 = .ok (.aaload, 1) := by decide +kernel
theorem dX0_latestHead_13 : decode cX0_latestHead 13 = .ok (.astore_n 2, 1) := by decide +kernel
theorem dX0_latestHead_14 : decode cX0_latestHead 14 = .ok (.aload_n 1, 1) := by decide +kernel
theorem dX0_latestHead_15 : decode cX0_latestHead 15 = .ok (.ifnull 7, 3) := by decide +kernel
theorem dX0_latestHead_18 : decode cX0_latestHead 18 = .ok (.aload_n 2, 1) := by decide +kernel
theorem dX0_latestHead_19 : decode cX0_latestHead 19 = .ok (.ifnonnull 13, 3) := by decide +kernel
theorem dX0_latestHead_22 : decode cX0_latestHead 22 = .ok (.aload_n 1, 1) := by decide +kernel
theorem dX0_latestHead_23 : decode cX0_latestHead 23 = .ok (.ifnonnull 7, 3) := by decide +kernel
theorem dX0_latestHead_26 : decode cX0_latestHead 26 = .ok (.aload_n 2, 1) := by decide +kernel
theorem dX0_latestHead_27 : decode cX0_latestHead 27 = .ok (.goto 4, 3) := by decide +kernel
theorem dX0_latestHead_30 : decode cX0_latestHead 30 = .ok (.aload_n 1, 1) := by decide +kernel
theorem dX0_latestHead_31 : decode cX0_latestHead 31 = .ok (.areturn, 1) := by decide +kernel
theorem dX0_latestHead_32 : decode cX0_latestHead 32 = .ok (.aload_n 1, 1) := by decide +kernel
theorem dX0_latestHead_33 : decode cX0_latestHead 33 = .ok (.getfield 90, 3) := by decide +kernel
theorem dX0_latestHead_36 : decode cX0_latestHead 36 = .ok (.aload_n 2, 1) := by decide +kernel
theorem dX0_latestHead_37 : decode cX0_latestHead 37 = .ok (.getfield 90, 3) := by decide +kernel
theorem dX0_latestHead_40 : decode cX0_latestHead 40 = .ok (.if_icmp .le 7, 3) := by decide +kernel
theorem dX0_latestHead_43 : decode cX0_latestHead 43 = .ok (.aload_n 1, 1) := by decide +kernel
theorem dX0_latestHead_44 : decode cX0_latestHead 44 = .ok (.goto 4, 3) := by decide +kernel
theorem dX0_latestHead_47 : decode cX0_latestHead 47 = .ok (.aload_n 2, 1) := by decide +kernel
theorem dX0_latestHead_48 : decode cX0_latestHead 48 = .ok (.areturn, 1) := by decide +kernel
theorem dX0_greatestPicture_0 : decode cX0_greatestPicture 0 = .ok (.iconst 0, 1) := by decide +kernel
theorem dX0_greatestPicture_1 : decode cX0_greatestPicture 1 = .ok (.istore_n 1, 1) := by decide +kernel
theorem dX0_greatestPicture_2 : decode cX0_greatestPicture 2 = .ok (.iconst 0, 1) := by decide +kernel
theorem dX0_greatestPicture_3 : decode cX0_greatestPicture 3 = .ok (.istore_n 2, 1) := by decide +kernel
theorem dX0_greatestPicture_4 : decode cX0_greatestPicture 4 = .ok (.iload_n 2, 1) := by decide +kernel
theorem dX0_greatestPicture_5 : decode cX0_greatestPicture 5 = .ok (.aload_n 0, 1) := by decide +kernel
theorem dX0_greatestPicture_6 : decode cX0_greatestPicture 6 = .ok (.getfield 11, 3) := by decide +kernel
theorem dX0_greatestPicture_9 : decode cX0_greatestPicture 9 = .ok (.arraylength, 1) := by decide +kernel
theorem dX0_greatestPicture_10 : decode cX0_greatestPicture 10 = .ok (.if_icmp .ge 32, 3) := by decide +kernel
theorem dX0_greatestPicture_13 : decode cX0_greatestPicture 13 = .ok (.aload_n 0, 1) := by decide +kernel
theorem dX0_greatestPicture_14 : decode cX0_greatestPicture 14 = .ok (.getfield 11, 3) := by decide +kernel
theorem dX0_greatestPicture_17 : decode cX0_greatestPicture 17 = .ok (.iload_n 2, 1) := by decide +kernel
theorem dX0_greatestPicture_18 : decode cX0_greatestPicture 18 = .ok (.aaload, 1) := by decide +kernel
theorem dX0_greatestPicture_19 : decode cX0_greatestPicture 19 = .ok (.ifnull 17, 3) := by decide +kernel
theorem dX0_greatestPicture_22 : decode cX0_greatestPicture 22 = .ok (.iload_n 1, 1) := by decide +kernel
theorem dX0_greatestPicture_23 : decode cX0_greatestPicture 23 = .ok (.aload_n 0, 1) := by decide +kernel
theorem dX0_greatestPicture_24 : decode cX0_greatestPicture 24 = .ok (.getfield 11, 3) := by decide +kernel
theorem dX0_greatestPicture_27 : decode cX0_greatestPicture 27 = .ok (.iload_n 2, 1) := by decide +kernel
theorem dX0_greatestPicture_28 : decode cX0_greatestPicture 28 = .ok (.aaload, 1) := by decide +kernel
theorem dX0_greatestPicture_29 : decode cX0_greatestPicture 29 = .ok (.getfield 96, 3) := by decide +kernel
theorem dX0_greatestPicture_32 : decode cX0_greatestPicture 32 = .ok (.invokestatic 99, 3) := by decide +kernel
theorem dX0_greatestPicture_35 : decode cX0_greatestPicture 35 = .ok (.istore_n 1, 1) := by decide +kernel
theorem dX0_greatestPicture_36 : decode cX0_greatestPicture 36 = .ok (.iinc 2 1, 3) := by decide +kernel
theorem dX0_greatestPicture_39 : decode cX0_greatestPicture 39 = .ok (.goto (-35), 3) := by decide +kernel
theorem dX0_greatestPicture_42 : decode cX0_greatestPicture 42 = .ok (.iload_n 1, 1) := by decide +kernel
theorem dX0_greatestPicture_43 : decode cX0_greatestPicture 43 = .ok (.ireturn, 1) := by decide +kernel
theorem dX1_init_0 : decode cX1_init 0 = .ok (.aload_n 0, 1) := by decide +kernel
theorem dX1_init_1 : decode cX1_init 1 = .ok (.invokespecial 3, 3) := by decide +kernel
theorem dX1_init_4 : decode cX1_init 4 = .ok (.aload_n 0, 1) := by decide +kernel
theorem dX1_init_5 : decode cX1_init 5 = .ok (.new 9, 3) := by decide +kernel
theorem dX1_init_8 : decode cX1_init 8 = .ok (.dup, 1) := by decide +kernel
theorem dX1_init_9 : decode cX1_init 9 = .ok (.invokespecial 11, 3) := by decide +kernel
theorem dX1_init_12 : decode cX1_init 12 = .ok (.putfield 12, 3) := by decide +kernel
theorem dX1_init_15 : decode cX1_init 15 = .ok (.return_, 1) := by decide +kernel
theorem dX1_firstNotBelow_0 : decode cX1_firstNotBelow 0 = .ok (.iconst 0, 1) := by decide +kernel
theorem dX1_firstNotBelow_1 : decode cX1_firstNotBelow 1 = .ok (.istore_n 3, 1) := by decide +kernel
theorem dX1_firstNotBelow_2 : decode cX1_firstNotBelow 2 = .ok (.aload_n 0, 1) := by decide +kernel
theorem dX1_firstNotBelow_3 : decode cX1_firstNotBelow 3 = .ok (.getfield 12, 3) := by decide +kernel
theorem dX1_firstNotBelow_6 : decode cX1_firstNotBelow 6 = .ok (.invokevirtual 18, 3) := by decide +kernel
theorem dX1_firstNotBelow_9 : decode cX1_firstNotBelow 9 = .ok (.istore 4, 2) := by decide +kernel
theorem dX1_firstNotBelow_11 : decode cX1_firstNotBelow 11 = .ok (.iconst 0, 1) := by decide +kernel
theorem dX1_firstNotBelow_12 : decode cX1_firstNotBelow 12 = .ok (.istore 5, 2) := by decide +kernel
theorem dX1_firstNotBelow_14 : decode cX1_firstNotBelow 14 = .ok (.iload 5, 2) := by decide +kernel
theorem dX1_firstNotBelow_16 : decode cX1_firstNotBelow 16 = .ok (.bipush 32, 2) := by decide +kernel
theorem dX1_firstNotBelow_18 : decode cX1_firstNotBelow 18 = .ok (.if_icmp .ge 55, 3) := by decide +kernel
theorem dX1_firstNotBelow_21 : decode cX1_firstNotBelow 21 = .ok (.iload_n 3, 1) := by decide +kernel
theorem dX1_firstNotBelow_22 : decode cX1_firstNotBelow 22 = .ok (.iload 4, 2) := by decide +kernel
theorem dX1_firstNotBelow_24 : decode cX1_firstNotBelow 24 = .ok (.if_icmp .ge 49, 3) := by decide +kernel
theorem dX1_firstNotBelow_27 : decode cX1_firstNotBelow 27 = .ok (.iload_n 3, 1) := by decide +kernel
theorem dX1_firstNotBelow_28 : decode cX1_firstNotBelow 28 = .ok (.iload 4, 2) := by decide +kernel
theorem dX1_firstNotBelow_30 : decode cX1_firstNotBelow 30 = .ok (.iadd, 1) := by decide +kernel
theorem dX1_firstNotBelow_31 : decode cX1_firstNotBelow 31 = .ok (.iconst 2, 1) := by decide +kernel
theorem dX1_firstNotBelow_32 : decode cX1_firstNotBelow 32 = .ok (.idiv, 1) := by decide +kernel
theorem dX1_firstNotBelow_33 : decode cX1_firstNotBelow 33 = .ok (.istore 6, 2) := by decide +kernel
theorem dX1_firstNotBelow_35 : decode cX1_firstNotBelow 35 = .ok (.aload_n 0, 1) := by decide +kernel
theorem dX1_firstNotBelow_36 : decode cX1_firstNotBelow 36 = .ok (.getfield 12, 3) := by decide +kernel
theorem dX1_firstNotBelow_39 : decode cX1_firstNotBelow 39 = .ok (.iload 6, 2) := by decide +kernel
theorem dX1_firstNotBelow_41 : decode cX1_firstNotBelow 41 = .ok (.invokevirtual 22, 3) := by decide +kernel
theorem dX1_firstNotBelow_44 : decode cX1_firstNotBelow 44 = .ok (.checkcast 26, 3) := by decide +kernel
theorem dX1_firstNotBelow_47 : decode cX1_firstNotBelow 47 = .ok (.getfield 28, 3) := by decide +kernel
theorem dX1_firstNotBelow_50 : decode cX1_firstNotBelow 50 = .ok (.lload_n 1, 1) := by decide +kernel
theorem dX1_firstNotBelow_51 : decode cX1_firstNotBelow 51 = .ok (.lcmp, 1) := by decide +kernel
theorem dX1_firstNotBelow_52 : decode cX1_firstNotBelow 52 = .ok (.ifCond .ge 11, 3) := by decide +kernel
theorem dX1_firstNotBelow_55 : decode cX1_firstNotBelow 55 = .ok (.iload 6, 2) := by decide +kernel
theorem dX1_firstNotBelow_57 : decode cX1_firstNotBelow 57 = .ok (.iconst 1, 1) := by decide +kernel
theorem dX1_firstNotBelow_58 : decode cX1_firstNotBelow 58 = .ok (.iadd, 1) := by decide +kernel
theorem dX1_firstNotBelow_59 : decode cX1_firstNotBelow 59 = .ok (.istore_n 3, 1) := by decide +kernel
theorem dX1_firstNotBelow_60 : decode cX1_firstNotBelow 60 = .ok (.goto 7, 3) := by decide +kernel
theorem dX1_firstNotBelow_63 : decode cX1_firstNotBelow 63 = .ok (.iload 6, 2) := by decide +kernel
theorem dX1_firstNotBelow_65 : decode cX1_firstNotBelow 65 = .ok (.istore 4, 2) := by decide +kernel
theorem dX1_firstNotBelow_67 : decode cX1_firstNotBelow 67 = .ok (.iinc 5 1, 3) := by decide +kernel
theorem dX1_firstNotBelow_70 : decode cX1_firstNotBelow 70 = .ok (.goto (-56), 3) := by decide +kernel
theorem dX1_firstNotBelow_73 : decode cX1_firstNotBelow 73 = .ok (.iload_n 3, 1) := by decide +kernel
theorem dX1_firstNotBelow_74 : decode cX1_firstNotBelow 74 = .ok (.ireturn, 1) := by decide +kernel
theorem dX1_hasAt_0 : decode cX1_hasAt 0 = .ok (.iload_n 1, 1) := by decide +kernel
theorem dX1_hasAt_1 : decode cX1_hasAt 1 = .ok (.ifCond .lt 37, 3) := by decide +kernel
theorem dX1_hasAt_4 : decode cX1_hasAt 4 = .ok (.iload_n 1, 1) := by decide +kernel
theorem dX1_hasAt_5 : decode cX1_hasAt 5 = .ok (.aload_n 0, 1) := by decide +kernel
theorem dX1_hasAt_6 : decode cX1_hasAt 6 = .ok (.getfield 12, 3) := by decide +kernel
theorem dX1_hasAt_9 : decode cX1_hasAt 9 = .ok (.invokevirtual 18, 3) := by decide +kernel
theorem dX1_hasAt_12 : decode cX1_hasAt 12 = .ok (.if_icmp .ge 26, 3) := by decide +kernel
theorem dX1_hasAt_15 : decode cX1_hasAt 15 = .ok (.aload_n 0, 1) := by decide +kernel
theorem dX1_hasAt_16 : decode cX1_hasAt 16 = .ok (.getfield 12, 3) := by decide +kernel
theorem dX1_hasAt_19 : decode cX1_hasAt 19 = .ok (.iload_n 1, 1) := by decide +kernel
theorem dX1_hasAt_20 : decode cX1_hasAt 20 = .ok (.invokevirtual 22, 3) := by decide +kernel
theorem dX1_hasAt_23 : decode cX1_hasAt 23 = .ok (.checkcast 26, 3) := by decide +kernel
theorem dX1_hasAt_26 : decode cX1_hasAt 26 = .ok (.getfield 28, 3) := by decide +kernel
theorem dX1_hasAt_29 : decode cX1_hasAt 29 = .ok (.lload_n 2, 1) := by decide +kernel
theorem dX1_hasAt_30 : decode cX1_hasAt 30 = .ok (.lcmp, 1) := by decide +kernel
theorem dX1_hasAt_31 : decode cX1_hasAt 31 = .ok (.ifCond .ne 7, 3) := by decide +kernel
theorem dX1_hasAt_34 : decode cX1_hasAt 34 = .ok (.iconst 1, 1) := by decide +kernel
theorem dX1_hasAt_35 : decode cX1_hasAt 35 = .ok (.goto 4, 3) := by decide +kernel
theorem dX1_hasAt_38 : decode cX1_hasAt 38 = .ok (.iconst 0, 1) := by decide +kernel
theorem dX1_hasAt_39 : decode cX1_hasAt 39 = .ok (.ireturn, 1) := by decide +kernel
theorem dX1_rowOf_0 : decode cX1_rowOf 0 = .ok (.aload_n 0, 1) := by decide +kernel
theorem dX1_rowOf_1 : decode cX1_rowOf 1 = .ok (.lload_n 1, 1) := by decide +kernel
theorem dX1_rowOf_2 : decode cX1_rowOf 2 = .ok (.invokevirtual 32, 3) := by decide +kernel
theorem dX1_rowOf_5 : decode cX1_rowOf 5 = .ok (.istore_n 3, 1) := by decide +kernel
theorem dX1_rowOf_6 : decode cX1_rowOf 6 = .ok (.aload_n 0, 1) := by decide +kernel
theorem dX1_rowOf_7 : decode cX1_rowOf 7 = .ok (.iload_n 3, 1) := by decide +kernel
theorem dX1_rowOf_8 : decode cX1_rowOf 8 = .ok (.lload_n 1, 1) := by decide +kernel
theorem dX1_rowOf_9 : decode cX1_rowOf 9 = .ok (.invokevirtual 36, 3) := by decide +kernel
theorem dX1_rowOf_12 : decode cX1_rowOf 12 = .ok (.ifCond .eq 20, 3) := by decide +kernel
theorem dX1_rowOf_15 : decode cX1_rowOf 15 = .ok (.aload_n 0, 1) := by decide +kernel
theorem dX1_rowOf_16 : decode cX1_rowOf 16 = .ok (.getfield 12, 3) := by decide +kernel
theorem dX1_rowOf_19 : decode cX1_rowOf 19 = .ok (.iload_n 3, 1) := by decide +kernel
theorem dX1_rowOf_20 : decode cX1_rowOf 20 = .ok (.invokevirtual 22, 3) := by decide +kernel
theorem dX1_rowOf_23 : decode cX1_rowOf 23 = .ok (.checkcast 26, 3) := by decide +kernel
theorem dX1_rowOf_26 : decode cX1_rowOf 26 = .ok (.getfield 40, 3) := by decide +kernel
theorem dX1_rowOf_29 : decode cX1_rowOf 29 = .ok (.goto 4, 3) := by decide +kernel
theorem dX1_rowOf_32 : decode cX1_rowOf 32 = .ok (.aconst_null, 1) := by decide +kernel
theorem dX1_rowOf_33 : decode cX1_rowOf 33 = .ok (.areturn, 1) := by decide +kernel
theorem dX1_isChangedBy_0 : decode cX1_isChangedBy 0 = .ok (.aload_n 0, 1) := by decide +kernel
theorem dX1_isChangedBy_1 : decode cX1_isChangedBy 1 = .ok (.aload_n 1, 1) := by decide +kernel
theorem dX1_isChangedBy_2 : decode cX1_isChangedBy 2 = .ok (.getfield 44, 3) := by decide +kernel
theorem dX1_isChangedBy_5 : decode cX1_isChangedBy 5 = .ok (.invokevirtual 32, 3) := by decide +kernel
theorem dX1_isChangedBy_8 : decode cX1_isChangedBy 8 = .ok (.istore_n 2, 1) := by decide +kernel
theorem dX1_isChangedBy_9 : decode cX1_isChangedBy 9 = .ok (.iload_n 2, 1) := by decide +kernel
theorem dX1_isChangedBy_10 : decode cX1_isChangedBy 10 = .ok (.aload_n 0, 1) := by decide +kernel
theorem dX1_isChangedBy_11 : decode cX1_isChangedBy 11 = .ok (.getfield 12, 3) := by decide +kernel
theorem dX1_isChangedBy_14 : decode cX1_isChangedBy 14 = .ok (.invokevirtual 18, 3) := by decide +kernel
theorem dX1_isChangedBy_17 : decode cX1_isChangedBy 17 = .ok (.if_icmp .ge 43, 3) := by decide +kernel
theorem dX1_isChangedBy_20 : decode cX1_isChangedBy 20 = .ok (.aload_n 1, 1) := by decide +kernel
theorem dX1_isChangedBy_21 : decode cX1_isChangedBy 21 = .ok (.aload_n 0, 1) := by decide +kernel
theorem dX1_isChangedBy_22 : decode cX1_isChangedBy 22 = .ok (.getfield 12, 3) := by decide +kernel
theorem dX1_isChangedBy_25 : decode cX1_isChangedBy 25 = .ok (.iload_n 2, 1) := by decide +kernel
theorem dX1_isChangedBy_26 : decode cX1_isChangedBy 26 = .ok (.invokevirtual 22, 3) := by decide +kernel
theorem dX1_isChangedBy_29 : decode cX1_isChangedBy 29 = .ok (.checkcast 26, 3) := by decide +kernel
theorem dX1_isChangedBy_32 : decode cX1_isChangedBy 32 = .ok (.getfield 28, 3) := by decide +kernel
theorem dX1_isChangedBy_35 : decode cX1_isChangedBy 35 = .ok (.invokevirtual 47, 3) := by decide +kernel
theorem dX1_isChangedBy_38 : decode cX1_isChangedBy 38 = .ok (.ifCond .eq 22, 3) := by decide +kernel
theorem dX1_isChangedBy_41 : decode cX1_isChangedBy 41 = .ok (.aload_n 1, 1) := by decide +kernel
theorem dX1_isChangedBy_42 : decode cX1_isChangedBy 42 = .ok (.aload_n 0, 1) := by decide +kernel
theorem dX1_isChangedBy_43 : decode cX1_isChangedBy 43 = .ok (.getfield 12, 3) := by decide +kernel
theorem dX1_isChangedBy_46 : decode cX1_isChangedBy 46 = .ok (.iload_n 2, 1) := by decide +kernel
theorem dX1_isChangedBy_47 : decode cX1_isChangedBy 47 = .ok (.invokevirtual 22, 3) := by decide +kernel
theorem dX1_isChangedBy_50 : decode cX1_isChangedBy 50 = .ok (.checkcast 26, 3) := by decide +kernel
theorem dX1_isChangedBy_53 : decode cX1_isChangedBy 53 = .ok (.getfield 40, 3) := by decide +kernel
theorem dX1_isChangedBy_56 : decode cX1_isChangedBy 56 = .ok (.invokevirtual 51, 3) := by decide +kernel
theorem dX1_isChangedBy_59 : decode cX1_isChangedBy 59 = .ok (.ireturn, 1) := by decide +kernel
theorem dX1_isChangedBy_60 : decode cX1_isChangedBy 60 = .ok (.aload_n 1, 1) := by decide +kernel
theorem dX1_isChangedBy_61 : decode cX1_isChangedBy 61 = .ok (.aconst_null, 1) := by decide +kernel
theorem dX1_isChangedBy_62 : decode cX1_isChangedBy 62 = .ok (.invokevirtual 51, 3) := by decide +kernel
theorem dX1_isChangedBy_65 : decode cX1_isChangedBy 65 = .ok (.ireturn, 1) := by decide +kernel
theorem dX1_act_0 : decode cX1_act 0 = .ok (.aload_n 0, 1) := by decide +kernel
theorem dX1_act_1 : decode cX1_act 1 = .ok (.aload_n 1, 1) := by decide +kernel
theorem dX1_act_2 : decode cX1_act 2 = .ok (.getfield 44, 3) := by decide +kernel
theorem dX1_act_5 : decode cX1_act 5 = .ok (.invokevirtual 32, 3) := by decide +kernel
theorem dX1_act_8 : decode cX1_act 8 = .ok (.istore_n 2, 1) := by decide +kernel
theorem dX1_act_9 : decode cX1_act 9 = .ok (.aload_n 1, 1) := by decide +kernel
theorem dX1_act_10 : decode cX1_act 10 = .ok (.getfield 55, 3) := by decide +kernel
theorem dX1_act_13 : decode cX1_act 13 = .ok (.iconst 4, 1) := by decide +kernel
theorem dX1_act_14 : decode cX1_act 14 = .ok (.if_icmp .eq 11, 3) := by decide +kernel
theorem dX1_act_17 : decode cX1_act 17 = .ok (.aload_n 1, 1) := by decide +kernel
theorem dX1_act_18 : decode cX1_act 18 = .ok (.getfield 55, 3) := by decide +kernel
theorem dX1_act_21 : decode cX1_act 21 = .ok (.iconst 5, 1) := by decide +kernel
theorem dX1_act_22 : decode cX1_act 22 = .ok (.if_icmp .ne 13, 3) := by decide +kernel
theorem dX1_act_25 : decode cX1_act 25 = .ok (.aload_n 0, 1) := by decide +kernel
theorem dX1_act_26 : decode cX1_act 26 = .ok (.iload_n 2, 1) := by decide +kernel
theorem dX1_act_27 : decode cX1_act 27 = .ok (.aload_n 1, 1) := by decide +kernel
theorem dX1_act_28 : decode cX1_act 28 = .ok (.getfield 59, 3) := by decide +kernel
theorem dX1_act_31 : decode cX1_act 31 = .ok (.invokevirtual 62, 3) := by decide +kernel
theorem dX1_act_34 : decode cX1_act 34 = .ok (.ireturn, 1) := by decide +kernel
theorem dX1_act_35 : decode cX1_act 35 = .ok (.aload_n 0, 1) := by decide +kernel
theorem dX1_act_36 : decode cX1_act 36 = .ok (.iload_n 2, 1) := by decide +kernel
theorem dX1_act_37 : decode cX1_act 37 = .ok (.aload_n 1, 1) := by decide +kernel
theorem dX1_act_38 : decode cX1_act 38 = .ok (.getfield 44, 3) := by decide +kernel
theorem dX1_act_41 : decode cX1_act 41 = .ok (.invokevirtual 36, 3) := by decide +kernel
theorem dX1_act_44 : decode cX1_act 44 = .ok (.istore_n 3, 1) := by decide +kernel
theorem dX1_act_45 : decode cX1_act 45 = .ok (.iload_n 3, 1) := by decide +kernel
theorem dX1_act_46 : decode cX1_act 46 = .ok (.ifCond .eq 20, 3) := by decide +kernel
theorem dX1_act_49 : decode cX1_act 49 = .ok (.aload_n 0, 1) := by decide +kernel
theorem dX1_act_50 : decode cX1_act 50 = .ok (.getfield 12, 3) := by decide +kernel
theorem dX1_act_53 : decode cX1_act 53 = .ok (.iload_n 2, 1) := by decide +kernel
theorem dX1_act_54 : decode cX1_act 54 = .ok (.invokevirtual 22, 3) := by decide +kernel
theorem dX1_act_57 : decode cX1_act 57 = .ok (.checkcast 26, 3) := by decide +kernel
theorem dX1_act_60 : decode cX1_act 60 = .ok (.getfield 40, 3) := by decide +kernel
theorem dX1_act_63 : decode cX1_act 63 = .ok (.goto 4, 3) := by decide +kernel
theorem dX1_act_66 : decode cX1_act 66 = .ok (.aconst_null, 1) := by decide +kernel
theorem dX1_act_67 : decode cX1_act 67 = .ok (.astore 4, 2) := by decide +kernel
theorem dX1_act_69 : decode cX1_act 69 = .ok (.aload_n 1, 1) := by decide +kernel
theorem dX1_act_70 : decode cX1_act 70 = .ok (.aload 4, 2) := by decide +kernel
theorem dX1_act_72 : decode cX1_act 72 = .ok (.invokevirtual 51, 3) := by decide +kernel
theorem dX1_act_75 : decode cX1_act 75 = .ok (.ifCond .ne 5, 3) := by decide +kernel
theorem dX1_act_78 : decode cX1_act 78 = .ok (.iconst 0, 1) := by decide +kernel
theorem dX1_act_79 : decode cX1_act 79 = .ok (.ireturn, 1) := by decide +kernel
theorem dX1_act_80 : decode cX1_act 80 = .ok (.new 26, 3) := by decide +kernel
theorem dX1_act_83 : decode cX1_act 83 = .ok (.dup, 1) := by decide +kernel
theorem dX1_act_84 : decode cX1_act 84 = .ok (.aload_n 1, 1) := by decide +kernel
theorem dX1_act_85 : decode cX1_act 85 = .ok (.getfield 44, 3) := by decide +kernel
theorem dX1_act_88 : decode cX1_act 88 = .ok (.aload_n 1, 1) := by decide +kernel
theorem dX1_act_89 : decode cX1_act 89 = .ok (.aload 4, 2) := by decide +kernel
theorem dX1_act_91 : decode cX1_act 91 = .ok (.invokevirtual 66, 3) := by decide +kernel
theorem dX1_act_94 : decode cX1_act 94 = .ok (.invokespecial 70, 3) := by decide +kernel
theorem dX1_act_97 : decode cX1_act 97 = .ok (.astore 5, 2) := by decide +kernel
theorem dX1_act_99 : decode cX1_act 99 = .ok (.iload_n 3, 1) := by decide +kernel
theorem dX1_act_100 : decode cX1_act 100 = .ok (.ifCond .eq 17, 3) := by decide +kernel
theorem dX1_act_103 : decode cX1_act 103 = .ok (.aload_n 0, 1) := by decide +kernel
theorem dX1_act_104 : decode cX1_act 104 = .ok (.getfield 12, 3) := by decide +kernel
theorem dX1_act_107 : decode cX1_act 107 = .ok (.iload_n 2, 1) := by decide +kernel
theorem dX1_act_108 : decode cX1_act 108 = .ok (.aload 5, 2) := by decide +kernel
theorem dX1_act_110 : decode cX1_act 110 = .ok (.invokevirtual 73, 3) := by decide +kernel
theorem dX1_act_113 : decode cX1_act 113 = .ok (.pop, 1) := by decide +kernel
theorem dX1_act_114 : decode cX1_act 114 = .ok (.goto 13, 3) := by decide +kernel
theorem dX1_act_117 : decode cX1_act 117 = .ok (.aload_n 0, 1) := by decide +kernel
theorem dX1_act_118 : decode cX1_act 118 = .ok (.getfield 12, 3) := by decide +kernel
theorem dX1_act_121 : decode cX1_act 121 = .ok (.iload_n 2, 1) := by decide +kernel
theorem dX1_act_122 : decode cX1_act 122 = .ok (.aload 5, 2) := by decide +kernel
theorem dX1_act_124 : decode cX1_act 124 = .ok (.invokevirtual 77, 3) := by decide +kernel
theorem dX1_act_127 : decode cX1_act 127 = .ok (.iconst 1, 1) := by decide +kernel
theorem dX1_act_128 : decode cX1_act 128 = .ok (.ireturn, 1) := by decide +kernel
theorem dX1_removeFrom_0 : decode cX1_removeFrom 0 = .ok (.aload_n 0, 1) := by decide +kernel
theorem dX1_removeFrom_1 : decode cX1_removeFrom 1 = .ok (.getfield 12, 3) := by decide +kernel
theorem dX1_removeFrom_4 : decode cX1_removeFrom 4 = .ok (.invokevirtual 18, 3) := by decide +kernel
theorem dX1_removeFrom_7 : decode cX1_removeFrom 7 = .ok (.istore 4, 2) := by decide +kernel
theorem dX1_removeFrom_9 : decode cX1_removeFrom 9 = .ok (.iconst 0, 1) := by decide +kernel
theorem dX1_removeFrom_10 : decode cX1_removeFrom 10 = .ok (.istore 5, 2) := by decide +kernel
theorem dX1_removeFrom_12 : decode cX1_removeFrom 12 = .ok (.iload 5, 2) := by decide +kernel
theorem dX1_removeFrom_14 : decode cX1_removeFrom 14 = .ok (.iload 4, 2) := by decide +kernel
theorem dX1_removeFrom_16 : decode cX1_removeFrom 16 = .ok (.if_icmp .ge 48, 3) := by decide +kernel
theorem dX1_removeFrom_19 : decode cX1_removeFrom 19 = .ok (.iload_n 1, 1) := by decide +kernel
theorem dX1_removeFrom_20 : decode cX1_removeFrom 20 = .ok (.aload_n 0, 1) := by decide +kernel
theorem dX1_removeFrom_21 : decode cX1_removeFrom 21 = .ok (.getfield 12, 3) := by decide +kernel
theorem dX1_removeFrom_24 : decode cX1_removeFrom 24 = .ok (.invokevirtual 18, 3) := by decide +kernel
theorem dX1_removeFrom_27 : decode cX1_removeFrom 27 = .ok (.if_icmp .ge 37, 3) := by decide +kernel
theorem dX1_removeFrom_30 : decode cX1_removeFrom 30 = .ok (.aload_n 0, 1) := by decide +kernel
theorem dX1_removeFrom_31 : decode cX1_removeFrom 31 = .ok (.getfield 12, 3) := by decide +kernel
theorem dX1_removeFrom_34 : decode cX1_removeFrom 34 = .ok (.iload_n 1, 1) := by decide +kernel
theorem dX1_removeFrom_35 : decode cX1_removeFrom 35 = .ok (.invokevirtual 22, 3) := by decide +kernel
theorem dX1_removeFrom_38 : decode cX1_removeFrom 38 = .ok (.checkcast 26, 3) := by decide +kernel
theorem dX1_removeFrom_41 : decode cX1_removeFrom 41 = .ok (.getfield 28, 3) := by decide +kernel
theorem dX1_removeFrom_44 : decode cX1_removeFrom 44 = .ok (.lload_n 2, 1) := by decide +kernel
theorem dX1_removeFrom_45 : decode cX1_removeFrom 45 = .ok (.lcmp, 1) := by decide +kernel
theorem dX1_removeFrom_46 : decode cX1_removeFrom 46 = .ok (.ifCond .gt 18, 3) := by decide +kernel
theorem dX1_removeFrom_49 : decode cX1_removeFrom 49 = .ok (.aload_n 0, 1) := by decide +kernel
theorem dX1_removeFrom_50 : decode cX1_removeFrom 50 = .ok (.getfield 12, 3) := by decide +kernel
theorem dX1_removeFrom_53 : decode cX1_removeFrom 53 = .ok (.iload_n 1, 1) := by decide +kernel
theorem dX1_removeFrom_54 : decode cX1_removeFrom 54 = .ok (.invokevirtual 81, 3) := by decide +kernel
theorem dX1_removeFrom_57 : decode cX1_removeFrom 57 = .ok (.pop, 1) := by decide +kernel
theorem dX1_removeFrom_58 : decode cX1_removeFrom 58 = .ok (.iinc 5 1, 3) := by decide +kernel
theorem dX1_removeFrom_61 : decode cX1_removeFrom 61 = .ok (.goto (-49), 3) := by decide +kernel
theorem dX1_removeFrom_64 : decode cX1_removeFrom 64 = .ok (.iload 4, 2) := by decide +kernel
theorem dX1_removeFrom_66 : decode cX1_removeFrom 66 = .ok (.aload_n 0, 1) := by decide +kernel
theorem dX1_removeFrom_67 : decode cX1_removeFrom 67 = .ok (.getfield 12, 3) := by decide +kernel
theorem dX1_removeFrom_70 : decode cX1_removeFrom 70 = .ok (.invokevirtual 18, 3) := by decide +kernel
theorem dX1_removeFrom_73 : decode cX1_removeFrom 73 = .ok (.isub, 1) := by decide +kernel
theorem dX1_removeFrom_74 : decode cX1_removeFrom 74 = .ok (.ireturn, 1) := by decide +kernel
theorem dX2_init_0 : decode cX2_init 0 = .ok (.aload_n 0, 1) := by decide +kernel
theorem dX2_init_1 : decode cX2_init 1 = .ok (.invokespecial 1, 3) := by decide +kernel
theorem dX2_init_4 : decode cX2_init 4 = .ok (.aload_n 0, 1) := by decide +kernel
theorem dX2_init_5 : decode cX2_init 5 = .ok (.lload_n 1, 1) := by decide +kernel
theorem dX2_init_6 : decode cX2_init 6 = .ok (.putfield 7, 3) := by decide +kernel
theorem dX2_init_9 : decode cX2_init 9 = .ok (.aload_n 0, 1) := by decide +kernel
theorem dX2_init_10 : decode cX2_init 10 = .ok (.aload_n 3, 1) := by decide +kernel
theorem dX2_init_11 : decode cX2_init 11 = .ok (.putfield 13, 3) := by decide +kernel
theorem dX2_init_14 : decode cX2_init 14 = .ok (.return_, 1) := by decide +kernel
theorem dX3_init_0 : decode cX3_init 0 = .ok (.aload_n 0, 1) := by decide +kernel
theorem dX3_init_1 : decode cX3_init 1 = .ok (.invokespecial 1, 3) := by decide +kernel
theorem dX3_init_4 : decode cX3_init 4 = .ok (.aload_n 0, 1) := by decide +kernel
theorem dX3_init_5 : decode cX3_init 5 = .ok (.new 7, 3) := by decide +kernel
theorem dX3_init_8 : decode cX3_init 8 = .ok (.dup, 1) := by decide +kernel
theorem dX3_init_9 : decode cX3_init 9 = .ok (.invokespecial 9, 3) := by decide +kernel
theorem dX3_init_12 : decode cX3_init 12 = .ok (.putfield 10, 3) := by decide +kernel
theorem dX3_init_15 : decode cX3_init 15 = .ok (.aload_n 0, 1) := by decide +kernel
theorem dX3_init_16 : decode cX3_init 16 = .ok (.iload_n 1, 1) := by decide +kernel
theorem dX3_init_17 : decode cX3_init 17 = .ok (.putfield 16, 3) := by decide +kernel
theorem dX3_init_20 : decode cX3_init 20 = .ok (.aload_n 0, 1) := by decide +kernel
theorem dX3_init_21 : decode cX3_init 21 = .ok (.iload_n 2, 1) := by decide +kernel
theorem dX3_init_22 : decode cX3_init 22 = .ok (.putfield 20, 3) := by decide +kernel
theorem dX3_init_25 : decode cX3_init 25 = .ok (.aload_n 0, 1) := by decide +kernel
theorem dX3_init_26 : decode cX3_init 26 = .ok (.aload_n 3, 1) := by decide +kernel
theorem dX3_init_27 : decode cX3_init 27 = .ok (.putfield 23, 3) := by decide +kernel
theorem dX3_init_30 : decode cX3_init 30 = .ok (.aload_n 0, 1) := by decide +kernel
theorem dX3_init_31 : decode cX3_init 31 = .ok (.iload 4, 2) := by decide +kernel
theorem dX3_init_33 : decode cX3_init 33 = .ok (.putfield 27, 3) := by decide +kernel
theorem dX3_init_36 : decode cX3_init 36 = .ok (.return_, 1) := by decide +kernel
theorem dX4_init_0 : decode cX4_init 0 = .ok (.aload_n 0, 1) := by decide +kernel
theorem dX4_init_1 : decode cX4_init 1 = .ok (.invokespecial 3, 3) := by decide +kernel
theorem dX4_init_4 : decode cX4_init 4 = .ok (.aload_n 0, 1) := by decide +kernel
theorem dX4_init_5 : decode cX4_init 5 = .ok (.iload_n 1, 1) := by decide +kernel
theorem dX4_init_6 : decode cX4_init 6 = .ok (.putfield 9, 3) := by decide +kernel
theorem dX4_init_9 : decode cX4_init 9 = .ok (.aload_n 0, 1) := by decide +kernel
theorem dX4_init_10 : decode cX4_init 10 = .ok (.iload_n 2, 1) := by decide +kernel
theorem dX4_init_11 : decode cX4_init 11 = .ok (.putfield 15, 3) := by decide +kernel
theorem dX4_init_14 : decode cX4_init 14 = .ok (.aload_n 0, 1) := by decide +kernel
theorem dX4_init_15 : decode cX4_init 15 = .ok (.lload_n 3, 1) := by decide +kernel
theorem dX4_init_16 : decode cX4_init 16 = .ok (.putfield 18, 3) := by decide +kernel
theorem dX4_init_19 : decode cX4_init 19 = .ok (.aload_n 0, 1) := by decide +kernel
theorem dX4_init_20 : decode cX4_init 20 = .ok (.lload 5, 2) := by decide +kernel
theorem dX4_init_22 : decode cX4_init 22 = .ok (.putfield 22, 3) := by decide +kernel
theorem dX4_init_25 : decode cX4_init 25 = .ok (.aload_n 0, 1) := by decide +kernel
theorem dX4_init_26 : decode cX4_init 26 = .ok (.aload 7, 2) := by decide +kernel
theorem dX4_init_28 : decode cX4_init 28 = .ok (.putfield 25, 3) := by decide +kernel
theorem dX4_init_31 : decode cX4_init 31 = .ok (.aload_n 0, 1) := by decide +kernel
theorem dX4_init_32 : decode cX4_init 32 = .ok (.aload 8, 2) := by decide +kernel
theorem dX4_init_34 : decode cX4_init 34 = .ok (.putfield 29, 3) := by decide +kernel
theorem dX4_init_37 : decode cX4_init 37 = .ok (.return_, 1) := by decide +kernel
theorem dX4_meets_0 : decode cX4_meets 0 = .ok (.aload_n 0, 1) := by decide +kernel
theorem dX4_meets_1 : decode cX4_meets 1 = .ok (.getfield 18, 3) := by decide +kernel
theorem dX4_meets_4 : decode cX4_meets 4 = .ok (.lload_n 1, 1) := by decide +kernel
theorem dX4_meets_5 : decode cX4_meets 5 = .ok (.lcmp, 1) := by decide +kernel
theorem dX4_meets_6 : decode cX4_meets 6 = .ok (.ifCond .gt 16, 3) := by decide +kernel
theorem dX4_meets_9 : decode cX4_meets 9 = .ok (.lload_n 1, 1) := by decide +kernel
theorem dX4_meets_10 : decode cX4_meets 10 = .ok (.aload_n 0, 1) := by decide +kernel
theorem dX4_meets_11 : decode cX4_meets 11 = .ok (.getfield 22, 3) := by decide +kernel
theorem dX4_meets_14 : decode cX4_meets 14 = .ok (.lcmp, 1) := by decide +kernel
theorem dX4_meets_15 : decode cX4_meets 15 = .ok (.ifCond .gt 7, 3) := by decide +kernel
theorem dX4_meets_18 : decode cX4_meets 18 = .ok (.iconst 1, 1) := by decide +kernel
theorem dX4_meets_19 : decode cX4_meets 19 = .ok (.goto 4, 3) := by decide +kernel
theorem dX4_meets_22 : decode cX4_meets 22 = .ok (.iconst 0, 1) := by decide +kernel
theorem dX4_meets_23 : decode cX4_meets 23 = .ok (.ireturn, 1) := by decide +kernel
theorem dX4_changes_0 : decode cX4_changes 0 = .ok (.aload_n 0, 1) := by decide +kernel
theorem dX4_changes_1 : decode cX4_changes 1 = .ok (.getfield 9, 3) := by decide +kernel
theorem dX4_changes_4 : decode cX4_changes 4 = .ok (.iconst 1, 1) := by decide +kernel
theorem dX4_changes_5 : decode cX4_changes 5 = .ok (.if_icmp .eq 11, 3) := by decide +kernel
theorem dX4_changes_8 : decode cX4_changes 8 = .ok (.aload_n 0, 1) := by decide +kernel
theorem dX4_changes_9 : decode cX4_changes 9 = .ok (.getfield 9, 3) := by decide +kernel
theorem dX4_changes_12 : decode cX4_changes 12 = .ok (.iconst 2, 1) := by decide +kernel
theorem dX4_changes_13 : decode cX4_changes 13 = .ok (.if_icmp .ne 5, 3) := by decide +kernel
theorem dX4_changes_16 : decode cX4_changes 16 = .ok (.iconst 1, 1) := by decide +kernel
theorem dX4_changes_17 : decode cX4_changes 17 = .ok (.ireturn, 1) := by decide +kernel
theorem dX4_changes_18 : decode cX4_changes 18 = .ok (.aload_n 0, 1) := by decide +kernel
theorem dX4_changes_19 : decode cX4_changes 19 = .ok (.getfield 9, 3) := by decide +kernel
theorem dX4_changes_22 : decode cX4_changes 22 = .ok (.iconst 3, 1) := by decide +kernel
theorem dX4_changes_23 : decode cX4_changes 23 = .ok (.if_icmp .ne 7, 3) := by decide +kernel
theorem dX4_changes_26 : decode cX4_changes 26 = .ok (.aload_n 1, 1) := by decide +kernel
theorem dX4_changes_27 : decode cX4_changes 27 = .ok (.ifnonnull 13, 3) := by decide +kernel
theorem dX4_changes_30 : decode cX4_changes 30 = .ok (.aload_n 1, 1) := by decide +kernel
theorem dX4_changes_31 : decode cX4_changes 31 = .ok (.ifnull 7, 3) := by decide +kernel
theorem dX4_changes_34 : decode cX4_changes 34 = .ok (.iconst 1, 1) := by decide +kernel
theorem dX4_changes_35 : decode cX4_changes 35 = .ok (.goto 4, 3) := by decide +kernel
theorem dX4_changes_38 : decode cX4_changes 38 = .ok (.iconst 0, 1) := by decide +kernel
theorem dX4_changes_39 : decode cX4_changes 39 = .ok (.ireturn, 1) := by decide +kernel
theorem dX4_changes_40 : decode cX4_changes 40 = .ok (.aload_n 1, 1) := by decide +kernel
theorem dX4_changes_41 : decode cX4_changes 41 = .ok (.arraylength, 1) := by decide +kernel
theorem dX4_changes_42 : decode cX4_changes 42 = .ok (.aload_n 0, 1) := by decide +kernel
theorem dX4_changes_43 : decode cX4_changes 43 = .ok (.getfield 25, 3) := by decide +kernel
theorem dX4_changes_46 : decode cX4_changes 46 = .ok (.arraylength, 1) := by decide +kernel
theorem dX4_changes_47 : decode cX4_changes 47 = .ok (.if_icmp .ne 7, 3) := by decide +kernel
theorem dX4_changes_50 : decode cX4_changes 50 = .ok (.iconst 1, 1) := by decide +kernel
theorem dX4_changes_51 : decode cX4_changes 51 = .ok (.goto 4, 3) := by decide +kernel
theorem dX4_changes_54 : decode cX4_changes 54 = .ok (.iconst 0, 1) := by decide +kernel
theorem dX4_changes_55 : decode cX4_changes 55 = .ok (.istore_n 2, 1) := by decide +kernel
theorem dX4_changes_56 : decode cX4_changes 56 = .ok (.iconst 0, 1) := by decide +kernel
theorem dX4_changes_57 : decode cX4_changes 57 = .ok (.istore_n 3, 1) := by decide +kernel
theorem dX4_changes_58 : decode cX4_changes 58 = .ok (.iload_n 2, 1) := by decide +kernel
theorem dX4_changes_59 : decode cX4_changes 59 = .ok (.ifCond .eq 33, 3) := by decide +kernel
theorem dX4_changes_62 : decode cX4_changes 62 = .ok (.iload_n 3, 1) := by decide +kernel
theorem dX4_changes_63 : decode cX4_changes 63 = .ok (.aload_n 1, 1) := by decide +kernel
theorem dX4_changes_64 : decode cX4_changes 64 = .ok (.arraylength, 1) := by decide +kernel
theorem dX4_changes_65 : decode cX4_changes 65 = .ok (.if_icmp .ge 27, 3) := by decide +kernel
theorem dX4_changes_68 : decode cX4_changes 68 = .ok (.aload_n 1, 1) := by decide +kernel
theorem dX4_changes_69 : decode cX4_changes 69 = .ok (.iload_n 3, 1) := by decide +kernel
theorem dX4_changes_70 : decode cX4_changes 70 = .ok (.baload, 1) := by decide +kernel
theorem dX4_changes_71 : decode cX4_changes 71 = .ok (.aload_n 0, 1) := by decide +kernel
theorem dX4_changes_72 : decode cX4_changes 72 = .ok (.getfield 25, 3) := by decide +kernel
theorem dX4_changes_75 : decode cX4_changes 75 = .ok (.iload_n 3, 1) := by decide +kernel
theorem dX4_changes_76 : decode cX4_changes 76 = .ok (.baload, 1) := by decide +kernel
theorem dX4_changes_77 : decode cX4_changes 77 = .ok (.if_icmp .ne 7, 3) := by decide +kernel
theorem dX4_changes_80 : decode cX4_changes 80 = .ok (.iconst 1, 1) := by decide +kernel
theorem dX4_changes_81 : decode cX4_changes 81 = .ok (.goto 4, 3) := by decide +kernel
theorem dX4_changes_84 : decode cX4_changes 84 = .ok (.iconst 0, 1) := by decide +kernel
theorem dX4_changes_85 : decode cX4_changes 85 = .ok (.istore_n 2, 1) := by decide +kernel
theorem dX4_changes_86 : decode cX4_changes 86 = .ok (.iinc 3 1, 3) := by decide +kernel
theorem dX4_changes_89 : decode cX4_changes 89 = .ok (.goto (-31), 3) := by decide +kernel
theorem dX4_changes_92 : decode cX4_changes 92 = .ok (.iload_n 2, 1) := by decide +kernel
theorem dX4_changes_93 : decode cX4_changes 93 = .ok (.ireturn, 1) := by decide +kernel
theorem dX4_rowAfter_0 : decode cX4_rowAfter 0 = .ok (.aload_n 0, 1) := by decide +kernel
theorem dX4_rowAfter_1 : decode cX4_rowAfter 1 = .ok (.getfield 9, 3) := by decide +kernel
theorem dX4_rowAfter_4 : decode cX4_rowAfter 4 = .ok (.iconst 4, 1) := by decide +kernel
theorem dX4_rowAfter_5 : decode cX4_rowAfter 5 = .ok (.if_icmp .eq 11, 3) := by decide +kernel
theorem dX4_rowAfter_8 : decode cX4_rowAfter 8 = .ok (.aload_n 0, 1) := by decide +kernel
theorem dX4_rowAfter_9 : decode cX4_rowAfter 9 = .ok (.getfield 9, 3) := by decide +kernel
theorem dX4_rowAfter_12 : decode cX4_rowAfter 12 = .ok (.iconst 5, 1) := by decide +kernel
theorem dX4_rowAfter_13 : decode cX4_rowAfter 13 = .ok (.if_icmp .ne 5, 3) := by decide +kernel
theorem dX4_rowAfter_16 : decode cX4_rowAfter 16 = .ok (.aconst_null, 1) := by decide +kernel
theorem dX4_rowAfter_17 : decode cX4_rowAfter 17 = .ok (.areturn, 1) := by decide +kernel
theorem dX4_rowAfter_18 : decode cX4_rowAfter 18 = .ok (.aload_n 0, 1) := by decide +kernel
theorem dX4_rowAfter_19 : decode cX4_rowAfter 19 = .ok (.getfield 9, 3) := by decide +kernel
theorem dX4_rowAfter_22 : decode cX4_rowAfter 22 = .ok (.iconst 2, 1) := by decide +kernel
theorem dX4_rowAfter_23 : decode cX4_rowAfter 23 = .ok (.if_icmp .ne 7, 3) := by decide +kernel
theorem dX4_rowAfter_26 : decode cX4_rowAfter 26 = .ok (.aload_n 1, 1) := by decide +kernel
theorem dX4_rowAfter_27 : decode cX4_rowAfter 27 = .ok (.ifnonnull 8, 3) := by decide +kernel
theorem dX4_rowAfter_30 : decode cX4_rowAfter 30 = .ok (.aload_n 0, 1) := by decide +kernel
theorem dX4_rowAfter_31 : decode cX4_rowAfter 31 = .ok (.getfield 29, 3) := by decide +kernel
theorem dX4_rowAfter_34 : decode cX4_rowAfter 34 = .ok (.areturn, 1) := by decide +kernel
theorem dX4_rowAfter_35 : decode cX4_rowAfter 35 = .ok (.bipush 20, 2) := by decide +kernel
theorem dX4_rowAfter_37 : decode cX4_rowAfter 37 = .ok (.aload_n 1, 1) := by decide +kernel
theorem dX4_rowAfter_38 : decode cX4_rowAfter 38 = .ok (.arraylength, 1) := by decide +kernel
theorem dX4_rowAfter_39 : decode cX4_rowAfter 39 = .ok (.aload_n 0, 1) := by decide +kernel
theorem dX4_rowAfter_40 : decode cX4_rowAfter 40 = .ok (.getfield 29, 3) := by decide +kernel
theorem dX4_rowAfter_43 : decode cX4_rowAfter 43 = .ok (.arraylength, 1) := by decide +kernel
theorem dX4_rowAfter_44 : decode cX4_rowAfter 44 = .ok (.iadd, 1) := by decide +kernel
theorem dX4_rowAfter_45 : decode cX4_rowAfter 45 = .ok (.invokestatic 32, 3) := by decide +kernel
theorem dX4_rowAfter_48 : decode cX4_rowAfter 48 = .ok (.istore_n 2, 1) := by decide +kernel
theorem dX4_rowAfter_49 : decode cX4_rowAfter 49 = .ok (.aload_n 1, 1) := by decide +kernel
theorem dX4_rowAfter_50 : decode cX4_rowAfter 50 = .ok (.iload_n 2, 1) := by decide +kernel
theorem dX4_rowAfter_51 : decode cX4_rowAfter 51 = .ok (.invokestatic 38, 3) := by decide +kernel
theorem dX4_rowAfter_54 : decode cX4_rowAfter 54 = .ok (.astore_n 3, 1) := by decide +kernel
theorem dX4_rowAfter_55 : decode cX4_rowAfter 55 = .ok (.aload_n 1, 1) := by decide +kernel
theorem dX4_rowAfter_56 : decode cX4_rowAfter 56 = .ok (.arraylength, 1) := by decide +kernel
theorem dX4_rowAfter_57 : decode cX4_rowAfter 57 = .ok (.istore 4, 2) := by decide +kernel
theorem dX4_rowAfter_59 : decode cX4_rowAfter 59 = .ok (.iload 4, 2) := by decide +kernel
theorem dX4_rowAfter_61 : decode cX4_rowAfter 61 = .ok (.iload_n 2, 1) := by decide +kernel
theorem dX4_rowAfter_62 : decode cX4_rowAfter 62 = .ok (.if_icmp .ge 23, 3) := by decide +kernel
theorem dX4_rowAfter_65 : decode cX4_rowAfter 65 = .ok (.aload_n 3, 1) := by decide +kernel
theorem dX4_rowAfter_66 : decode cX4_rowAfter 66 = .ok (.iload 4, 2) := by decide +kernel
theorem dX4_rowAfter_68 : decode cX4_rowAfter 68 = .ok (.aload_n 0, 1) := by decide +kernel
theorem dX4_rowAfter_69 : decode cX4_rowAfter 69 = .ok (.getfield 29, 3) := by decide +kernel
theorem dX4_rowAfter_72 : decode cX4_rowAfter 72 = .ok (.iload 4, 2) := by decide +kernel
theorem dX4_rowAfter_74 : decode cX4_rowAfter 74 = .ok (.aload_n 1, 1) := by decide +kernel
theorem dX4_rowAfter_75 : decode cX4_rowAfter 75 = .ok (.arraylength, 1) := by decide +kernel
theorem dX4_rowAfter_76 : decode cX4_rowAfter 76 = .ok (.isub, 1) := by decide +kernel
theorem dX4_rowAfter_77 : decode cX4_rowAfter 77 = .ok (.baload, 1) := by decide +kernel
theorem dX4_rowAfter_78 : decode cX4_rowAfter 78 = .ok (.bastore, 1) := by decide +kernel
theorem dX4_rowAfter_79 : decode cX4_rowAfter 79 = .ok (.iinc 4 1, 3) := by decide +kernel
theorem dX4_rowAfter_82 : decode cX4_rowAfter 82 = .ok (.goto (-23), 3) := by decide +kernel
theorem dX4_rowAfter_85 : decode cX4_rowAfter 85 = .ok (.aload_n 3, 1) := by decide +kernel
theorem dX4_rowAfter_86 : decode cX4_rowAfter 86 = .ok (.areturn, 1) := by decide +kernel
theorem dX5_init_0 : decode cX5_init 0 = .ok (.aload_n 0, 1) := by decide +kernel
theorem dX5_init_1 : decode cX5_init 1 = .ok (.invokespecial 3, 3) := by decide +kernel
theorem dX5_init_4 : decode cX5_init 4 = .ok (.aload_n 0, 1) := by decide +kernel
theorem dX5_init_5 : decode cX5_init 5 = .ok (.new 9, 3) := by decide +kernel
theorem dX5_init_8 : decode cX5_init 8 = .ok (.dup, 1) := by decide +kernel
theorem dX5_init_9 : decode cX5_init 9 = .ok (.invokespecial 11, 3) := by decide +kernel
theorem dX5_init_12 : decode cX5_init 12 = .ok (.putfield 12, 3) := by decide +kernel
theorem dX5_init_15 : decode cX5_init 15 = .ok (.aload_n 0, 1) := by decide +kernel
theorem dX5_init_16 : decode cX5_init 16 = .ok (.new 9, 3) := by decide +kernel
theorem dX5_init_19 : decode cX5_init 19 = .ok (.dup, 1) := by decide +kernel
theorem dX5_init_20 : decode cX5_init 20 = .ok (.invokespecial 11, 3) := by decide +kernel
theorem dX5_init_23 : decode cX5_init 23 = .ok (.putfield 18, 3) := by decide +kernel
theorem dX5_init_26 : decode cX5_init 26 = .ok (.aload_n 0, 1) := by decide +kernel
theorem dX5_init_27 : decode cX5_init 27 = .ok (.iconst (-1), 1) := by decide +kernel
theorem dX5_init_28 : decode cX5_init 28 = .ok (.putfield 21, 3) := by decide +kernel
theorem dX5_init_31 : decode cX5_init 31 = .ok (.aload_n 0, 1) := by decide +kernel
theorem dX5_init_32 : decode cX5_init 32 = .ok (.lload_n 1, 1) := by decide +kernel
theorem dX5_init_33 : decode cX5_init 33 = .ok (.putfield 25, 3) := by decide +kernel
theorem dX5_init_36 : decode cX5_init 36 = .ok (.aload_n 0, 1) := by decide +kernel
theorem dX5_init_37 : decode cX5_init 37 = .ok (.aload_n 3, 1) := by decide +kernel
theorem dX5_init_38 : decode cX5_init 38 = .ok (.putfield 29, 3) := by decide +kernel
theorem dX5_init_41 : decode cX5_init 41 = .ok (.return_, 1) := by decide +kernel
theorem dX5_isLeaf_0 : decode cX5_isLeaf 0 = .ok (.aload_n 0, 1) := by decide +kernel
theorem dX5_isLeaf_1 : decode cX5_isLeaf 1 = .ok (.getfield 12, 3) := by decide +kernel
theorem dX5_isLeaf_4 : decode cX5_isLeaf 4 = .ok (.invokevirtual 33, 3) := by decide +kernel
theorem dX5_isLeaf_7 : decode cX5_isLeaf 7 = .ok (.ireturn, 1) := by decide +kernel
theorem dX5_width_0 : decode cX5_width 0 = .ok (.aload_n 0, 1) := by decide +kernel
theorem dX5_width_1 : decode cX5_width 1 = .ok (.getfield 29, 3) := by decide +kernel
theorem dX5_width_4 : decode cX5_width 4 = .ok (.getfield 37, 3) := by decide +kernel
theorem dX5_width_7 : decode cX5_width 7 = .ok (.invokevirtual 42, 3) := by decide +kernel
theorem dX5_width_10 : decode cX5_width 10 = .ok (.aload_n 0, 1) := by decide +kernel
theorem dX5_width_11 : decode cX5_width 11 = .ok (.getfield 12, 3) := by decide +kernel
theorem dX5_width_14 : decode cX5_width 14 = .ok (.invokevirtual 42, 3) := by decide +kernel
theorem dX5_width_17 : decode cX5_width 17 = .ok (.iadd, 1) := by decide +kernel
theorem dX5_width_18 : decode cX5_width 18 = .ok (.ireturn, 1) := by decide +kernel
theorem dX5_isTooBig_0 : decode cX5_isTooBig 0 = .ok (.aload_n 0, 1) := by decide +kernel
theorem dX5_isTooBig_1 : decode cX5_isTooBig 1 = .ok (.invokevirtual 46, 3) := by decide +kernel
theorem dX5_isTooBig_4 : decode cX5_isTooBig 4 = .ok (.aload_n 0, 1) := by decide +kernel
theorem dX5_isTooBig_5 : decode cX5_isTooBig 5 = .ok (.invokevirtual 49, 3) := by decide +kernel
theorem dX5_isTooBig_8 : decode cX5_isTooBig 8 = .ok (.ifCond .eq 8, 3) := by decide +kernel
theorem dX5_isTooBig_11 : decode cX5_isTooBig 11 = .ok (.bipush 6, 2) := by decide +kernel
theorem dX5_isTooBig_13 : decode cX5_isTooBig 13 = .ok (.goto 4, 3) := by decide +kernel
theorem dX5_isTooBig_16 : decode cX5_isTooBig 16 = .ok (.iconst 5, 1) := by decide +kernel
theorem dX5_isTooBig_17 : decode cX5_isTooBig 17 = .ok (.if_icmp .le 7, 3) := by decide +kernel
theorem dX5_isTooBig_20 : decode cX5_isTooBig 20 = .ok (.iconst 1, 1) := by decide +kernel
theorem dX5_isTooBig_21 : decode cX5_isTooBig 21 = .ok (.goto 4, 3) := by decide +kernel
theorem dX5_isTooBig_24 : decode cX5_isTooBig 24 = .ok (.iconst 0, 1) := by decide +kernel
theorem dX5_isTooBig_25 : decode cX5_isTooBig 25 = .ok (.ireturn, 1) := by decide +kernel
theorem dX5_opened_0 : decode cX5_opened 0 = .ok (.aload_n 0, 1) := by decide +kernel
theorem dX5_opened_1 : decode cX5_opened 1 = .ok (.getfield 21, 3) := by decide +kernel
theorem dX5_opened_4 : decode cX5_opened 4 = .ok (.iconst (-1), 1) := by decide +kernel
theorem dX5_opened_5 : decode cX5_opened 5 = .ok (.if_icmp .ne 5, 3) := by decide +kernel
theorem dX5_opened_8 : decode cX5_opened 8 = .ok (.aload_n 0, 1) := by decide +kernel
theorem dX5_opened_9 : decode cX5_opened 9 = .ok (.areturn, 1) := by decide +kernel
theorem dX5_opened_10 : decode cX5_opened 10 = .ok (.new 13, 3) := by decide +kernel
theorem dX5_opened_13 : decode cX5_opened 13 = .ok (.dup, 1) := by decide +kernel
theorem dX5_opened_14 : decode cX5_opened 14 = .ok (.aload_n 0, 1) := by decide +kernel
theorem dX5_opened_15 : decode cX5_opened 15 = .ok (.getfield 25, 3) := by decide +kernel
theorem dX5_opened_18 : decode cX5_opened 18 = .ok (.new 38, 3) := by decide +kernel
theorem dX5_opened_21 : decode cX5_opened 21 = .ok (.dup, 1) := by decide +kernel
theorem dX5_opened_22 : decode cX5_opened 22 = .ok (.invokespecial 52, 3) := by decide +kernel
theorem dX5_opened_25 : decode cX5_opened 25 = .ok (.invokespecial 53, 3) := by decide +kernel
theorem dX5_opened_28 : decode cX5_opened 28 = .ok (.astore_n 1, 1) := by decide +kernel
theorem dX5_opened_29 : decode cX5_opened 29 = .ok (.aload_n 0, 1) := by decide +kernel
theorem dX5_opened_30 : decode cX5_opened 30 = .ok (.aload_n 1, 1) := by decide +kernel
theorem dX5_opened_31 : decode cX5_opened 31 = .ok (.iconst 0, 1) := by decide +kernel
theorem dX5_opened_32 : decode cX5_opened 32 = .ok (.aload_n 0, 1) := by decide +kernel
theorem dX5_opened_33 : decode cX5_opened 33 = .ok (.invokevirtual 46, 3) := by decide +kernel
theorem dX5_opened_36 : decode cX5_opened 36 = .ok (.invokevirtual 56, 3) := by decide +kernel
theorem dX5_opened_39 : decode cX5_opened 39 = .ok (.iconst 0, 1) := by decide +kernel
theorem dX5_opened_40 : decode cX5_opened 40 = .ok (.istore_n 2, 1) := by decide +kernel
theorem dX5_opened_41 : decode cX5_opened 41 = .ok (.iload_n 2, 1) := by decide +kernel
theorem dX5_opened_42 : decode cX5_opened 42 = .ok (.aload_n 0, 1) := by decide +kernel
theorem dX5_opened_43 : decode cX5_opened 43 = .ok (.getfield 18, 3) := by decide +kernel
theorem dX5_opened_46 : decode cX5_opened 46 = .ok (.invokevirtual 42, 3) := by decide +kernel
theorem dX5_opened_49 : decode cX5_opened 49 = .ok (.if_icmp .ge 28, 3) := by decide +kernel
theorem dX5_opened_52 : decode cX5_opened 52 = .ok (.aload_n 1, 1) := by decide +kernel
theorem dX5_opened_53 : decode cX5_opened 53 = .ok (.getfield 18, 3) := by decide +kernel
theorem dX5_opened_56 : decode cX5_opened 56 = .ok (.aload_n 0, 1) := by decide +kernel
theorem dX5_opened_57 : decode cX5_opened 57 = .ok (.getfield 18, 3) := by decide +kernel
theorem dX5_opened_60 : decode cX5_opened 60 = .ok (.iload_n 2, 1) := by decide +kernel
theorem dX5_opened_61 : decode cX5_opened 61 = .ok (.invokevirtual 60, 3) := by decide +kernel
theorem dX5_opened_64 : decode cX5_opened 64 = .ok (.checkcast 64, 3) := by decide +kernel
theorem dX5_opened_67 : decode cX5_opened 67 = .ok (.invokevirtual 66, 3) := by decide +kernel
theorem dX5_opened_70 : decode cX5_opened 70 = .ok (.pop, 1) := by decide +kernel
theorem dX5_opened_71 : decode cX5_opened 71 = .ok (.iinc 2 1, 3) := by decide +kernel
theorem dX5_opened_74 : decode cX5_opened 74 = .ok (.goto (-33), 3) := by decide +kernel
theorem dX5_opened_77 : decode cX5_opened 77 = .ok (.aload_n 1, 1) := by decide +kernel
theorem dX5_opened_78 : decode cX5_opened 78 = .ok (.areturn, 1) := by decide +kernel
theorem dX5_copyInto_0 : decode cX5_copyInto 0 = .ok (.iload_n 2, 1) := by decide +kernel
theorem dX5_copyInto_1 : decode cX5_copyInto 1 = .ok (.istore 4, 2) := by decide +kernel
theorem dX5_copyInto_3 : decode cX5_copyInto 3 = .ok (.iload 4, 2) := by decide +kernel
theorem dX5_copyInto_5 : decode cX5_copyInto 5 = .ok (.iload_n 3, 1) := by decide +kernel
theorem dX5_copyInto_6 : decode cX5_copyInto 6 = .ok (.if_icmp .ge 50, 3) := by decide +kernel
theorem dX5_copyInto_9 : decode cX5_copyInto 9 = .ok (.iload 4, 2) := by decide +kernel
theorem dX5_copyInto_11 : decode cX5_copyInto 11 = .ok (.aload_n 0, 1) := by decide +kernel
theorem dX5_copyInto_12 : decode cX5_copyInto 12 = .ok (.getfield 29, 3) := by decide +kernel
theorem dX5_copyInto_15 : decode cX5_copyInto 15 = .ok (.getfield 37, 3) := by decide +kernel
theorem dX5_copyInto_18 : decode cX5_copyInto 18 = .ok (.invokevirtual 42, 3) := by decide +kernel
theorem dX5_copyInto_21 : decode cX5_copyInto 21 = .ok (.if_icmp .ge 35, 3) := by decide +kernel
theorem dX5_copyInto_24 : decode cX5_copyInto 24 = .ok (.aload_n 1, 1) := by decide +kernel
theorem dX5_copyInto_25 : decode cX5_copyInto 25 = .ok (.getfield 29, 3) := by decide +kernel
theorem dX5_copyInto_28 : decode cX5_copyInto 28 = .ok (.getfield 37, 3) := by decide +kernel
theorem dX5_copyInto_31 : decode cX5_copyInto 31 = .ok (.aload_n 0, 1) := by decide +kernel
theorem dX5_copyInto_32 : decode cX5_copyInto 32 = .ok (.getfield 29, 3) := by decide +kernel
theorem dX5_copyInto_35 : decode cX5_copyInto 35 = .ok (.getfield 37, 3) := by decide +kernel
theorem dX5_copyInto_38 : decode cX5_copyInto 38 = .ok (.iload 4, 2) := by decide +kernel
theorem dX5_copyInto_40 : decode cX5_copyInto 40 = .ok (.invokevirtual 60, 3) := by decide +kernel
theorem dX5_copyInto_43 : decode cX5_copyInto 43 = .ok (.checkcast 70, 3) := by decide +kernel
theorem dX5_copyInto_46 : decode cX5_copyInto 46 = .ok (.invokevirtual 66, 3) := by decide +kernel
theorem dX5_copyInto_49 : decode cX5_copyInto 49 = .ok (.pop, 1) := by decide +kernel
theorem dX5_copyInto_50 : decode cX5_copyInto 50 = .ok (.iinc 4 1, 3) := by decide +kernel
theorem dX5_copyInto_53 : decode cX5_copyInto 53 = .ok (.goto (-50), 3) := by decide +kernel
theorem dX5_copyInto_56 : decode cX5_copyInto 56 = .ok (.iload_n 2, 1) := by decide +kernel
theorem dX5_copyInto_57 : decode cX5_copyInto 57 = .ok (.istore 4, 2) := by decide +kernel
theorem dX5_copyInto_59 : decode cX5_copyInto 59 = .ok (.iload 4, 2) := by decide +kernel
theorem dX5_copyInto_61 : decode cX5_copyInto 61 = .ok (.iload_n 3, 1) := by decide +kernel
theorem dX5_copyInto_62 : decode cX5_copyInto 62 = .ok (.if_icmp .ge 41, 3) := by decide +kernel
theorem dX5_copyInto_65 : decode cX5_copyInto 65 = .ok (.iload 4, 2) := by decide +kernel
theorem dX5_copyInto_67 : decode cX5_copyInto 67 = .ok (.aload_n 0, 1) := by decide +kernel
theorem dX5_copyInto_68 : decode cX5_copyInto 68 = .ok (.getfield 12, 3) := by decide +kernel
theorem dX5_copyInto_71 : decode cX5_copyInto 71 = .ok (.invokevirtual 42, 3) := by decide +kernel
theorem dX5_copyInto_74 : decode cX5_copyInto 74 = .ok (.if_icmp .ge 29, 3) := by decide +kernel
theorem dX5_copyInto_77 : decode cX5_copyInto 77 = .ok (.aload_n 1, 1) := by decide +kernel
theorem dX5_copyInto_78 : decode cX5_copyInto 78 = .ok (.getfield 12, 3) := by decide +kernel
theorem dX5_copyInto_81 : decode cX5_copyInto 81 = .ok (.aload_n 0, 1) := by decide +kernel
theorem dX5_copyInto_82 : decode cX5_copyInto 82 = .ok (.getfield 12, 3) := by decide +kernel
theorem dX5_copyInto_85 : decode cX5_copyInto 85 = .ok (.iload 4, 2) := by decide +kernel
theorem dX5_copyInto_87 : decode cX5_copyInto 87 = .ok (.invokevirtual 60, 3) := by decide +kernel
theorem dX5_copyInto_90 : decode cX5_copyInto 90 = .ok (.checkcast 13, 3) := by decide +kernel
theorem dX5_copyInto_93 : decode cX5_copyInto 93 = .ok (.invokevirtual 66, 3) := by decide +kernel
theorem dX5_copyInto_96 : decode cX5_copyInto 96 = .ok (.pop, 1) := by decide +kernel
theorem dX5_copyInto_97 : decode cX5_copyInto 97 = .ok (.iinc 4 1, 3) := by decide +kernel
theorem dX5_copyInto_100 : decode cX5_copyInto 100 = .ok (.goto (-41), 3) := by decide +kernel
theorem dX5_copyInto_103 : decode cX5_copyInto 103 = .ok (.return_, 1) := by decide +kernel
theorem dX5_lastKeyOf_0 : decode cX5_lastKeyOf 0 = .ok (.iload_n 1, 1) := by decide +kernel
theorem dX5_lastKeyOf_1 : decode cX5_lastKeyOf 1 = .ok (.iconst 1, 1) := by decide +kernel
theorem dX5_lastKeyOf_2 : decode cX5_lastKeyOf 2 = .ok (.iadd, 1) := by decide +kernel
theorem dX5_lastKeyOf_3 : decode cX5_lastKeyOf 3 = .ok (.aload_n 0, 1) := by decide +kernel
theorem dX5_lastKeyOf_4 : decode cX5_lastKeyOf 4 = .ok (.getfield 12, 3) := by decide +kernel
theorem dX5_lastKeyOf_7 : decode cX5_lastKeyOf 7 = .ok (.invokevirtual 42, 3) := by decide +kernel
theorem dX5_lastKeyOf_10 : decode cX5_lastKeyOf 10 = .ok (.if_icmp .ge 24, 3) := by decide +kernel
theorem dX5_lastKeyOf_13 : decode cX5_lastKeyOf 13 = .ok (.aload_n 0, 1) := by decide +kernel
theorem dX5_lastKeyOf_14 : decode cX5_lastKeyOf 14 = .ok (.getfield 12, 3) := by decide +kernel
theorem dX5_lastKeyOf_17 : decode cX5_lastKeyOf 17 = .ok (.iload_n 1, 1) := by decide +kernel
theorem dX5_lastKeyOf_18 : decode cX5_lastKeyOf 18 = .ok (.iconst 1, 1) := by decide +kernel
theorem dX5_lastKeyOf_19 : decode cX5_lastKeyOf 19 = .ok (.iadd, 1) := by decide +kernel
theorem dX5_lastKeyOf_20 : decode cX5_lastKeyOf 20 = .ok (.invokevirtual 60, 3) := by decide +kernel
theorem dX5_lastKeyOf_23 : decode cX5_lastKeyOf 23 = .ok (.checkcast 13, 3) := by decide +kernel
theorem dX5_lastKeyOf_26 : decode cX5_lastKeyOf 26 = .ok (.getfield 25, 3) := by decide +kernel
theorem dX5_lastKeyOf_29 : decode cX5_lastKeyOf 29 = .ok (.lconst 1, 1) := by decide +kernel
theorem dX5_lastKeyOf_30 : decode cX5_lastKeyOf 30 = .ok (.lsub, 1) := by decide +kernel
theorem dX5_lastKeyOf_31 : decode cX5_lastKeyOf 31 = .ok (.goto 6, 3) := by decide +kernel
theorem dX5_lastKeyOf_34 : decode cX5_lastKeyOf 34 = .ok (.ldc2_w 72, 3) := by decide +kernel
theorem dX5_lastKeyOf_37 : decode cX5_lastKeyOf 37 = .ok (.lreturn, 1) := by decide +kernel
theorem dX5_kidFor_0 : decode cX5_kidFor 0 = .ok (.iconst 0, 1) := by decide +kernel
theorem dX5_kidFor_1 : decode cX5_kidFor 1 = .ok (.istore_n 3, 1) := by decide +kernel
theorem dX5_kidFor_2 : decode cX5_kidFor 2 = .ok (.iconst 1, 1) := by decide +kernel
theorem dX5_kidFor_3 : decode cX5_kidFor 3 = .ok (.istore 4, 2) := by decide +kernel
theorem dX5_kidFor_5 : decode cX5_kidFor 5 = .ok (.iload 4, 2) := by decide +kernel
theorem dX5_kidFor_7 : decode cX5_kidFor 7 = .ok (.aload_n 0, 1) := by decide +kernel
theorem dX5_kidFor_8 : decode cX5_kidFor 8 = .ok (.getfield 12, 3) := by decide +kernel
theorem dX5_kidFor_11 : decode cX5_kidFor 11 = .ok (.invokevirtual 42, 3) := by decide +kernel
theorem dX5_kidFor_14 : decode cX5_kidFor 14 = .ok (.if_icmp .ge 32, 3) := by decide +kernel
theorem dX5_kidFor_17 : decode cX5_kidFor 17 = .ok (.aload_n 0, 1) := by decide +kernel
theorem dX5_kidFor_18 : decode cX5_kidFor 18 = .ok (.getfield 12, 3) := by decide +kernel
theorem dX5_kidFor_21 : decode cX5_kidFor 21 = .ok (.iload 4, 2) := by decide +kernel
theorem dX5_kidFor_23 : decode cX5_kidFor 23 = .ok (.invokevirtual 60, 3) := by decide +kernel
theorem dX5_kidFor_26 : decode cX5_kidFor 26 = .ok (.checkcast 13, 3) := by decide +kernel
theorem dX5_kidFor_29 : decode cX5_kidFor 29 = .ok (.getfield 25, 3) := by decide +kernel
theorem dX5_kidFor_32 : decode cX5_kidFor 32 = .ok (.lload_n 1, 1) := by decide +kernel
theorem dX5_kidFor_33 : decode cX5_kidFor 33 = .ok (.lcmp, 1) := by decide +kernel
theorem dX5_kidFor_34 : decode cX5_kidFor 34 = .ok (.ifCond .gt 12, 3) := by decide +kernel
theorem dX5_kidFor_37 : decode cX5_kidFor 37 = .ok (.iload 4, 2) := by decide +kernel
theorem dX5_kidFor_39 : decode cX5_kidFor 39 = .ok (.istore_n 3, 1) := by decide +kernel
theorem dX5_kidFor_40 : decode cX5_kidFor 40 = .ok (.iinc 4 1, 3) := by decide +kernel
theorem dX5_kidFor_43 : decode cX5_kidFor 43 = .ok (.goto (-38), 3) := by decide +kernel
theorem dX5_kidFor_46 : decode cX5_kidFor 46 = .ok (.iload_n 3, 1) := by decide +kernel
theorem dX5_kidFor_47 : decode cX5_kidFor 47 = .ok (.ireturn, 1) := by decide +kernel
theorem dX5_isChangedBy_0 : decode cX5_isChangedBy 0 = .ok (.iconst 0, 1) := by decide +kernel
theorem dX5_isChangedBy_1 : decode cX5_isChangedBy 1 = .ok (.istore_n 2, 1) := by decide +kernel
theorem dX5_isChangedBy_2 : decode cX5_isChangedBy 2 = .ok (.iload_n 2, 1) := by decide +kernel
theorem dX5_isChangedBy_3 : decode cX5_isChangedBy 3 = .ok (.aload_n 1, 1) := by decide +kernel
theorem dX5_isChangedBy_4 : decode cX5_isChangedBy 4 = .ok (.invokevirtual 42, 3) := by decide +kernel
theorem dX5_isChangedBy_7 : decode cX5_isChangedBy 7 = .ok (.if_icmp .ge 36, 3) := by decide +kernel
theorem dX5_isChangedBy_10 : decode cX5_isChangedBy 10 = .ok (.aload_n 0, 1) := by decide +kernel
theorem dX5_isChangedBy_11 : decode cX5_isChangedBy 11 = .ok (.invokevirtual 49, 3) := by decide +kernel
theorem dX5_isChangedBy_14 : decode cX5_isChangedBy 14 = .ok (.ifCond .eq 21, 3) := by decide +kernel
theorem dX5_isChangedBy_17 : decode cX5_isChangedBy 17 = .ok (.aload_n 0, 1) := by decide +kernel
theorem dX5_isChangedBy_18 : decode cX5_isChangedBy 18 = .ok (.getfield 29, 3) := by decide +kernel
theorem dX5_isChangedBy_21 : decode cX5_isChangedBy 21 = .ok (.aload_n 1, 1) := by decide +kernel
theorem dX5_isChangedBy_22 : decode cX5_isChangedBy 22 = .ok (.iload_n 2, 1) := by decide +kernel
theorem dX5_isChangedBy_23 : decode cX5_isChangedBy 23 = .ok (.invokevirtual 60, 3) := by decide +kernel
theorem dX5_isChangedBy_26 : decode cX5_isChangedBy 26 = .ok (.checkcast 64, 3) := by decide +kernel
theorem dX5_isChangedBy_29 : decode cX5_isChangedBy 29 = .ok (.invokevirtual 74, 3) := by decide +kernel
theorem dX5_isChangedBy_32 : decode cX5_isChangedBy 32 = .ok (.ifCond .eq 5, 3) := by decide +kernel
theorem dX5_isChangedBy_35 : decode cX5_isChangedBy 35 = .ok (.iconst 1, 1) := by decide +kernel
theorem dX5_isChangedBy_36 : decode cX5_isChangedBy 36 = .ok (.ireturn, 1) := by decide +kernel
theorem dX5_isChangedBy_37 : decode cX5_isChangedBy 37 = .ok (.iinc 2 1, 3) := by decide +kernel
theorem dX5_isChangedBy_40 : decode cX5_isChangedBy 40 = .ok (.goto (-38), 3) := by decide +kernel
theorem dX5_isChangedBy_43 : decode cX5_isChangedBy 43 = .ok (.iconst 0, 1) := by decide +kernel
theorem dX5_isChangedBy_44 : decode cX5_isChangedBy 44 = .ok (.ireturn, 1) := by decide +kernel
theorem dX5_takeIn_0 : decode cX5_takeIn 0 = .ok (.iconst 0, 1) := by decide +kernel
theorem dX5_takeIn_1 : decode cX5_takeIn 1 = .ok (.istore_n 2, 1) := by decide +kernel
theorem dX5_takeIn_2 : decode cX5_takeIn 2 = .ok (.iload_n 2, 1) := by decide +kernel
theorem dX5_takeIn_3 : decode cX5_takeIn 3 = .ok (.aload_n 1, 1) := by decide +kernel
theorem dX5_takeIn_4 : decode cX5_takeIn 4 = .ok (.invokevirtual 42, 3) := by decide +kernel
theorem dX5_takeIn_7 : decode cX5_takeIn 7 = .ok (.if_icmp .ge 62, 3) := by decide +kernel
theorem dX5_takeIn_10 : decode cX5_takeIn 10 = .ok (.aload_n 1, 1) := by decide +kernel
theorem dX5_takeIn_11 : decode cX5_takeIn 11 = .ok (.iload_n 2, 1) := by decide +kernel
theorem dX5_takeIn_12 : decode cX5_takeIn 12 = .ok (.invokevirtual 60, 3) := by decide +kernel
theorem dX5_takeIn_15 : decode cX5_takeIn 15 = .ok (.checkcast 64, 3) := by decide +kernel
theorem dX5_takeIn_18 : decode cX5_takeIn 18 = .ok (.astore_n 3, 1) := by decide +kernel
theorem dX5_takeIn_19 : decode cX5_takeIn 19 = .ok (.aload_n 0, 1) := by decide +kernel
theorem dX5_takeIn_20 : decode cX5_takeIn 20 = .ok (.invokevirtual 49, 3) := by decide +kernel
theorem dX5_takeIn_23 : decode cX5_takeIn 23 = .ok (.ifCond .eq 15, 3) := by decide +kernel
theorem dX5_takeIn_26 : decode cX5_takeIn 26 = .ok (.aload_n 0, 1) := by decide +kernel
theorem dX5_takeIn_27 : decode cX5_takeIn 27 = .ok (.getfield 29, 3) := by decide +kernel
theorem dX5_takeIn_30 : decode cX5_takeIn 30 = .ok (.aload_n 3, 1) := by decide +kernel
theorem dX5_takeIn_31 : decode cX5_takeIn 31 = .ok (.invokevirtual 78, 3) := by decide +kernel
theorem dX5_takeIn_34 : decode cX5_takeIn 34 = .ok (.pop, 1) := by decide +kernel
theorem dX5_takeIn_35 : decode cX5_takeIn 35 = .ok (.goto 28, 3) := by decide +kernel
theorem dX5_takeIn_38 : decode cX5_takeIn 38 = .ok (.aload_n 3, 1) := by decide +kernel
theorem dX5_takeIn_39 : decode cX5_takeIn 39 = .ok (.getfield 82, 3) := by decide +kernel
theorem dX5_takeIn_42 : decode cX5_takeIn 42 = .ok (.iconst 5, 1) := by decide +kernel
theorem dX5_takeIn_43 : decode cX5_takeIn 43 = .ok (.if_icmp .ne 11, 3) := by decide +kernel
theorem dX5_takeIn_46 : decode cX5_takeIn 46 = .ok (.aload_n 0, 1) := by decide +kernel
theorem dX5_takeIn_47 : decode cX5_takeIn 47 = .ok (.aload_n 3, 1) := by decide +kernel
theorem dX5_takeIn_48 : decode cX5_takeIn 48 = .ok (.invokevirtual 85, 3) := by decide +kernel
theorem dX5_takeIn_51 : decode cX5_takeIn 51 = .ok (.goto 12, 3) := by decide +kernel
theorem dX5_takeIn_54 : decode cX5_takeIn 54 = .ok (.aload_n 0, 1) := by decide +kernel
theorem dX5_takeIn_55 : decode cX5_takeIn 55 = .ok (.getfield 18, 3) := by decide +kernel
theorem dX5_takeIn_58 : decode cX5_takeIn 58 = .ok (.aload_n 3, 1) := by decide +kernel
theorem dX5_takeIn_59 : decode cX5_takeIn 59 = .ok (.invokevirtual 66, 3) := by decide +kernel
theorem dX5_takeIn_62 : decode cX5_takeIn 62 = .ok (.pop, 1) := by decide +kernel
theorem dX5_takeIn_63 : decode cX5_takeIn 63 = .ok (.iinc 2 1, 3) := by decide +kernel
theorem dX5_takeIn_66 : decode cX5_takeIn 66 = .ok (.goto (-64), 3) := by decide +kernel
theorem dX5_takeIn_69 : decode cX5_takeIn 69 = .ok (.return_, 1) := by decide +kernel
theorem dX5_takeInParts_0 : decode cX5_takeInParts 0 = .ok (.iconst 0, 1) := by decide +kernel
theorem dX5_takeInParts_1 : decode cX5_takeInParts 1 = .ok (.istore_n 2, 1) := by decide +kernel
theorem dX5_takeInParts_2 : decode cX5_takeInParts 2 = .ok (.iload_n 2, 1) := by decide +kernel
theorem dX5_takeInParts_3 : decode cX5_takeInParts 3 = .ok (.aload_n 0, 1) := by decide +kernel
theorem dX5_takeInParts_4 : decode cX5_takeInParts 4 = .ok (.getfield 12, 3) := by decide +kernel
theorem dX5_takeInParts_7 : decode cX5_takeInParts 7 = .ok (.invokevirtual 42, 3) := by decide +kernel
theorem dX5_takeInParts_10 : decode cX5_takeInParts 10 = .ok (.if_icmp .ge 81, 3) := by decide +kernel
theorem dX5_takeInParts_13 : decode cX5_takeInParts 13 = .ok (.aload_n 1, 1) := by decide +kernel
theorem dX5_takeInParts_14 : decode cX5_takeInParts 14 = .ok (.getfield 89, 3) := by decide +kernel
theorem dX5_takeInParts_17 : decode cX5_takeInParts 17 = .ok (.aload_n 0, 1) := by decide +kernel
theorem dX5_takeInParts_18 : decode cX5_takeInParts 18 = .ok (.getfield 12, 3) := by decide +kernel
theorem dX5_takeInParts_21 : decode cX5_takeInParts 21 = .ok (.iload_n 2, 1) := by decide +kernel
theorem dX5_takeInParts_22 : decode cX5_takeInParts 22 = .ok (.invokevirtual 60, 3) := by decide +kernel
theorem dX5_takeInParts_25 : decode cX5_takeInParts 25 = .ok (.checkcast 13, 3) := by decide +kernel
theorem dX5_takeInParts_28 : decode cX5_takeInParts 28 = .ok (.getfield 25, 3) := by decide +kernel
theorem dX5_takeInParts_31 : decode cX5_takeInParts 31 = .ok (.invokestatic 92, 3) := by decide +kernel
theorem dX5_takeInParts_34 : decode cX5_takeInParts 34 = .ok (.lstore_n 3, 1) := by decide +kernel
theorem dX5_takeInParts_35 : decode cX5_takeInParts 35 = .ok (.aload_n 1, 1) := by decide +kernel
theorem dX5_takeInParts_36 : decode cX5_takeInParts 36 = .ok (.getfield 98, 3) := by decide +kernel
theorem dX5_takeInParts_39 : decode cX5_takeInParts 39 = .ok (.aload_n 0, 1) := by decide +kernel
theorem dX5_takeInParts_40 : decode cX5_takeInParts 40 = .ok (.iload_n 2, 1) := by decide +kernel
theorem dX5_takeInParts_41 : decode cX5_takeInParts 41 = .ok (.invokevirtual 101, 3) := by decide +kernel
theorem dX5_takeInParts_44 : decode cX5_takeInParts 44 = .ok (.invokestatic 105, 3) := by decide +kernel
theorem dX5_takeInParts_47 : decode cX5_takeInParts 47 = .ok (.lstore 5, 2) := by decide +kernel
theorem dX5_takeInParts_49 : decode cX5_takeInParts 49 = .ok (.lload_n 3, 1) := by decide +kernel
theorem dX5_takeInParts_50 : decode cX5_takeInParts 50 = .ok (.lload 5, 2) := by decide +kernel
theorem dX5_takeInParts_52 : decode cX5_takeInParts 52 = .ok (.lcmp, 1) := by decide +kernel
theorem dX5_takeInParts_53 : decode cX5_takeInParts 53 = .ok (.ifCond .gt 32, 3) := by decide +kernel
theorem dX5_takeInParts_56 : decode cX5_takeInParts 56 = .ok (.aload_n 0, 1) := by decide +kernel
theorem dX5_takeInParts_57 : decode cX5_takeInParts 57 = .ok (.getfield 18, 3) := by decide +kernel
theorem dX5_takeInParts_60 : decode cX5_takeInParts 60 = .ok (.new 64, 3) := by decide +kernel
theorem dX5_takeInParts_63 : decode cX5_takeInParts 63 = .ok (.dup, 1) := by decide +kernel
theorem dX5_takeInParts_64 : decode cX5_takeInParts 64 = .ok (.iconst 5, 1) := by decide +kernel
theorem dX5_takeInParts_65 : decode cX5_takeInParts 65 = .ok (.aload_n 1, 1) := by decide +kernel
theorem dX5_takeInParts_66 : decode cX5_takeInParts 66 = .ok (.getfield 108, 3) := by decide +kernel
theorem dX5_takeInParts_69 : decode cX5_takeInParts 69 = .ok (.lload_n 3, 1) := by decide +kernel
theorem dX5_takeInParts_70 : decode cX5_takeInParts 70 = .ok (.lload 5, 2) := by decide +kernel
theorem dX5_takeInParts_72 : decode cX5_takeInParts 72 = .ok (.getstatic 111, 3) := by decide +kernel
theorem dX5_takeInParts_75 : decode cX5_takeInParts 75 = .ok (.getstatic 111, 3) := by decide +kernel
theorem dX5_takeInParts_78 : decode cX5_takeInParts 78 = .ok (.invokespecial 115, 3) := by decide +kernel
theorem dX5_takeInParts_81 : decode cX5_takeInParts 81 = .ok (.invokevirtual 66, 3) := by decide +kernel
theorem dX5_takeInParts_84 : decode cX5_takeInParts 84 = .ok (.pop, 1) := by decide +kernel
theorem dX5_takeInParts_85 : decode cX5_takeInParts 85 = .ok (.iinc 2 1, 3) := by decide +kernel
theorem dX5_takeInParts_88 : decode cX5_takeInParts 88 = .ok (.goto (-86), 3) := by decide +kernel
theorem dX5_takeInParts_91 : decode cX5_takeInParts 91 = .ok (.return_, 1) := by decide +kernel
theorem dX5_fullestKid_0 : decode cX5_fullestKid 0 = .ok (.iconst 0, 1) := by decide +kernel
theorem dX5_fullestKid_1 : decode cX5_fullestKid 1 = .ok (.istore_n 1, 1) := by decide +kernel
theorem dX5_fullestKid_2 : decode cX5_fullestKid 2 = .ok (.iconst 0, 1) := by decide +kernel
theorem dX5_fullestKid_3 : decode cX5_fullestKid 3 = .ok (.istore_n 2, 1) := by decide +kernel
theorem dX5_fullestKid_4 : decode cX5_fullestKid 4 = .ok (.iconst 0, 1) := by decide +kernel
theorem dX5_fullestKid_5 : decode cX5_fullestKid 5 = .ok (.istore_n 3, 1) := by decide +kernel
theorem dX5_fullestKid_6 : decode cX5_fullestKid 6 = .ok (.iload_n 3, 1) := by decide +kernel
theorem dX5_fullestKid_7 : decode cX5_fullestKid 7 = .ok (.aload_n 0, 1) := by decide +kernel
theorem dX5_fullestKid_8 : decode cX5_fullestKid 8 = .ok (.getfield 12, 3) := by decide +kernel
theorem dX5_fullestKid_11 : decode cX5_fullestKid 11 = .ok (.invokevirtual 42, 3) := by decide +kernel
theorem dX5_fullestKid_14 : decode cX5_fullestKid 14 = .ok (.if_icmp .ge 45, 3) := by decide +kernel
theorem dX5_fullestKid_17 : decode cX5_fullestKid 17 = .ok (.aload_n 0, 1) := by decide +kernel
theorem dX5_fullestKid_18 : decode cX5_fullestKid 18 = .ok (.aload_n 0, 1) := by decide +kernel
theorem dX5_fullestKid_19 : decode cX5_fullestKid 19 = .ok (.getfield 12, 3) := by decide +kernel
theorem dX5_fullestKid_22 : decode cX5_fullestKid 22 = .ok (.iload_n 3, 1) := by decide +kernel
theorem dX5_fullestKid_23 : decode cX5_fullestKid 23 = .ok (.invokevirtual 60, 3) := by decide +kernel
theorem dX5_fullestKid_26 : decode cX5_fullestKid 26 = .ok (.checkcast 13, 3) := by decide +kernel
theorem dX5_fullestKid_29 : decode cX5_fullestKid 29 = .ok (.getfield 25, 3) := by decide +kernel
theorem dX5_fullestKid_32 : decode cX5_fullestKid 32 = .ok (.aload_n 0, 1) := by decide +kernel
theorem dX5_fullestKid_33 : decode cX5_fullestKid 33 = .ok (.iload_n 3, 1) := by decide +kernel
theorem dX5_fullestKid_34 : decode cX5_fullestKid 34 = .ok (.invokevirtual 101, 3) := by decide +kernel
theorem dX5_fullestKid_37 : decode cX5_fullestKid 37 = .ok (.invokevirtual 118, 3) := by decide +kernel
theorem dX5_fullestKid_40 : decode cX5_fullestKid 40 = .ok (.istore 4, 2) := by decide +kernel
theorem dX5_fullestKid_42 : decode cX5_fullestKid 42 = .ok (.iload 4, 2) := by decide +kernel
theorem dX5_fullestKid_44 : decode cX5_fullestKid 44 = .ok (.iload_n 2, 1) := by decide +kernel
theorem dX5_fullestKid_45 : decode cX5_fullestKid 45 = .ok (.if_icmp .le 8, 3) := by decide +kernel
theorem dX5_fullestKid_48 : decode cX5_fullestKid 48 = .ok (.iload 4, 2) := by decide +kernel
theorem dX5_fullestKid_50 : decode cX5_fullestKid 50 = .ok (.istore_n 2, 1) := by decide +kernel
theorem dX5_fullestKid_51 : decode cX5_fullestKid 51 = .ok (.iload_n 3, 1) := by decide +kernel
theorem dX5_fullestKid_52 : decode cX5_fullestKid 52 = .ok (.istore_n 1, 1) := by decide +kernel
theorem dX5_fullestKid_53 : decode cX5_fullestKid 53 = .ok (.iinc 3 1, 3) := by decide +kernel
theorem dX5_fullestKid_56 : decode cX5_fullestKid 56 = .ok (.goto (-50), 3) := by decide +kernel
theorem dX5_fullestKid_59 : decode cX5_fullestKid 59 = .ok (.iload_n 1, 1) := by decide +kernel
theorem dX5_fullestKid_60 : decode cX5_fullestKid 60 = .ok (.ireturn, 1) := by decide +kernel
theorem dX5_lettersFrom_0 : decode cX5_lettersFrom 0 = .ok (.iconst 0, 1) := by decide +kernel
theorem dX5_lettersFrom_1 : decode cX5_lettersFrom 1 = .ok (.istore 5, 2) := by decide +kernel
theorem dX5_lettersFrom_3 : decode cX5_lettersFrom 3 = .ok (.iconst 0, 1) := by decide +kernel
theorem dX5_lettersFrom_4 : decode cX5_lettersFrom 4 = .ok (.istore 6, 2) := by decide +kernel
theorem dX5_lettersFrom_6 : decode cX5_lettersFrom 6 = .ok (.iload 6, 2) := by decide +kernel
theorem dX5_lettersFrom_8 : decode cX5_lettersFrom 8 = .ok (.aload_n 0, 1) := by decide +kernel
theorem dX5_lettersFrom_9 : decode cX5_lettersFrom 9 = .ok (.getfield 18, 3) := by decide +kernel
theorem dX5_lettersFrom_12 : decode cX5_lettersFrom 12 = .ok (.invokevirtual 42, 3) := by decide +kernel
theorem dX5_lettersFrom_15 : decode cX5_lettersFrom 15 = .ok (.if_icmp .ge 43, 3) := by decide +kernel
theorem dX5_lettersFrom_18 : decode cX5_lettersFrom 18 = .ok (.aload_n 0, 1) := by decide +kernel
theorem dX5_lettersFrom_19 : decode cX5_lettersFrom 19 = .ok (.getfield 18, 3) := by decide +kernel
theorem dX5_lettersFrom_22 : decode cX5_lettersFrom 22 = .ok (.iload 6, 2) := by decide +kernel
theorem dX5_lettersFrom_24 : decode cX5_lettersFrom 24 = .ok (.invokevirtual 60, 3) := by decide +kernel
theorem dX5_lettersFrom_27 : decode cX5_lettersFrom 27 = .ok (.checkcast 64, 3) := by decide +kernel
theorem dX5_lettersFrom_30 : decode cX5_lettersFrom 30 = .ok (.getfield 89, 3) := by decide +kernel
theorem dX5_lettersFrom_33 : decode cX5_lettersFrom 33 = .ok (.lstore 7, 2) := by decide +kernel
theorem dX5_lettersFrom_35 : decode cX5_lettersFrom 35 = .ok (.lload_n 1, 1) := by decide +kernel
theorem dX5_lettersFrom_36 : decode cX5_lettersFrom 36 = .ok (.lload 7, 2) := by decide +kernel
theorem dX5_lettersFrom_38 : decode cX5_lettersFrom 38 = .ok (.lcmp, 1) := by decide +kernel
theorem dX5_lettersFrom_39 : decode cX5_lettersFrom 39 = .ok (.ifCond .gt 13, 3) := by decide +kernel
theorem dX5_lettersFrom_42 : decode cX5_lettersFrom 42 = .ok (.lload 7, 2) := by decide +kernel
theorem dX5_lettersFrom_44 : decode cX5_lettersFrom 44 = .ok (.lload_n 3, 1) := by decide +kernel
theorem dX5_lettersFrom_45 : decode cX5_lettersFrom 45 = .ok (.lcmp, 1) := by decide +kernel
theorem dX5_lettersFrom_46 : decode cX5_lettersFrom 46 = .ok (.ifCond .gt 6, 3) := by decide +kernel
theorem dX5_lettersFrom_49 : decode cX5_lettersFrom 49 = .ok (.iinc 5 1, 3) := by decide +kernel
theorem dX5_lettersFrom_52 : decode cX5_lettersFrom 52 = .ok (.iinc 6 1, 3) := by decide +kernel
theorem dX5_lettersFrom_55 : decode cX5_lettersFrom 55 = .ok (.goto (-49), 3) := by decide +kernel
theorem dX5_lettersFrom_58 : decode cX5_lettersFrom 58 = .ok (.iload 5, 2) := by decide +kernel
theorem dX5_lettersFrom_60 : decode cX5_lettersFrom 60 = .ok (.ireturn, 1) := by decide +kernel
theorem dX5_moveLetters_0 : decode cX5_moveLetters 0 = .ok (.new 9, 3) := by decide +kernel
theorem dX5_moveLetters_3 : decode cX5_moveLetters 3 = .ok (.dup, 1) := by decide +kernel
theorem dX5_moveLetters_4 : decode cX5_moveLetters 4 = .ok (.invokespecial 11, 3) := by decide +kernel
theorem dX5_moveLetters_7 : decode cX5_moveLetters 7 = .ok (.astore 6, 2) := by decide +kernel
theorem dX5_moveLetters_9 : decode cX5_moveLetters 9 = .ok (.iconst 0, 1) := by decide +kernel
theorem dX5_moveLetters_10 : decode cX5_moveLetters 10 = .ok (.istore 7, 2) := by decide +kernel
theorem dX5_moveLetters_12 : decode cX5_moveLetters 12 = .ok (.iload 7, 2) := by decide +kernel
theorem dX5_moveLetters_14 : decode cX5_moveLetters 14 = .ok (.aload_n 0, 1) := by decide +kernel
theorem dX5_moveLetters_15 : decode cX5_moveLetters 15 = .ok (.getfield 18, 3) := by decide +kernel
theorem dX5_moveLetters_18 : decode cX5_moveLetters 18 = .ok (.invokevirtual 42, 3) := by decide +kernel
theorem dX5_moveLetters_21 : decode cX5_moveLetters 21 = .ok (.if_icmp .ge 62, 3) := by decide +kernel
theorem dX5_moveLetters_24 : decode cX5_moveLetters 24 = .ok (.aload_n 0, 1) := by decide +kernel
theorem dX5_moveLetters_25 : decode cX5_moveLetters 25 = .ok (.getfield 18, 3) := by decide +kernel
theorem dX5_moveLetters_28 : decode cX5_moveLetters 28 = .ok (.iload 7, 2) := by decide +kernel
theorem dX5_moveLetters_30 : decode cX5_moveLetters 30 = .ok (.invokevirtual 60, 3) := by decide +kernel
theorem dX5_moveLetters_33 : decode cX5_moveLetters 33 = .ok (.checkcast 64, 3) := by decide +kernel
theorem dX5_moveLetters_36 : decode cX5_moveLetters 36 = .ok (.astore 8, 2) := by decide +kernel
theorem dX5_moveLetters_38 : decode cX5_moveLetters 38 = .ok (.lload_n 1, 1) := by decide +kernel
theorem dX5_moveLetters_39 : decode cX5_moveLetters 39 = .ok (.aload 8, 2) := by decide +kernel
theorem dX5_moveLetters_41 : decode cX5_moveLetters 41 = .ok (.getfield 89, 3) := by decide +kernel
theorem dX5_moveLetters_44 : decode cX5_moveLetters 44 = .ok (.lcmp, 1) := by decide +kernel
theorem dX5_moveLetters_45 : decode cX5_moveLetters 45 = .ok (.ifCond .gt 24, 3) := by decide +kernel
theorem dX5_moveLetters_48 : decode cX5_moveLetters 48 = .ok (.aload 8, 2) := by decide +kernel
theorem dX5_moveLetters_50 : decode cX5_moveLetters 50 = .ok (.getfield 89, 3) := by decide +kernel
theorem dX5_moveLetters_53 : decode cX5_moveLetters 53 = .ok (.lload_n 3, 1) := by decide +kernel
theorem dX5_moveLetters_54 : decode cX5_moveLetters 54 = .ok (.lcmp, 1) := by decide +kernel
theorem dX5_moveLetters_55 : decode cX5_moveLetters 55 = .ok (.ifCond .gt 14, 3) := by decide +kernel
theorem dX5_moveLetters_58 : decode cX5_moveLetters 58 = .ok (.aload 5, 2) := by decide +kernel
theorem dX5_moveLetters_60 : decode cX5_moveLetters 60 = .ok (.aload 8, 2) := by decide +kernel
theorem dX5_moveLetters_62 : decode cX5_moveLetters 62 = .ok (.invokevirtual 66, 3) := by decide +kernel
theorem dX5_moveLetters_65 : decode cX5_moveLetters 65 = .ok (.pop, 1) := by decide +kernel
theorem dX5_moveLetters_66 : decode cX5_moveLetters 66 = .ok (.goto 11, 3) := by decide +kernel
theorem dX5_moveLetters_69 : decode cX5_moveLetters 69 = .ok (.aload 6, 2) := by decide +kernel
theorem dX5_moveLetters_71 : decode cX5_moveLetters 71 = .ok (.aload 8, 2) := by decide +kernel
theorem dX5_moveLetters_73 : decode cX5_moveLetters 73 = .ok (.invokevirtual 66, 3) := by decide +kernel
theorem dX5_moveLetters_76 : decode cX5_moveLetters 76 = .ok (.pop, 1) := by decide +kernel
theorem dX5_moveLetters_77 : decode cX5_moveLetters 77 = .ok (.iinc 7 1, 3) := by decide +kernel
theorem dX5_moveLetters_80 : decode cX5_moveLetters 80 = .ok (.goto (-68), 3) := by decide +kernel
theorem dX5_moveLetters_83 : decode cX5_moveLetters 83 = .ok (.aload_n 0, 1) := by decide +kernel
theorem dX5_moveLetters_84 : decode cX5_moveLetters 84 = .ok (.getfield 18, 3) := by decide +kernel
theorem dX5_moveLetters_87 : decode cX5_moveLetters 87 = .ok (.invokevirtual 122, 3) := by decide +kernel
theorem dX5_moveLetters_90 : decode cX5_moveLetters 90 = .ok (.iconst 0, 1) := by decide +kernel
theorem dX5_moveLetters_91 : decode cX5_moveLetters 91 = .ok (.istore 7, 2) := by decide +kernel
theorem dX5_moveLetters_93 : decode cX5_moveLetters 93 = .ok (.iload 7, 2) := by decide +kernel
theorem dX5_moveLetters_95 : decode cX5_moveLetters 95 = .ok (.aload 6, 2) := by decide +kernel
theorem dX5_moveLetters_97 : decode cX5_moveLetters 97 = .ok (.invokevirtual 42, 3) := by decide +kernel
theorem dX5_moveLetters_100 : decode cX5_moveLetters 100 = .ok (.if_icmp .ge 27, 3) := by decide +kernel
theorem dX5_moveLetters_103 : decode cX5_moveLetters 103 = .ok (.aload_n 0, 1) := by decide +kernel
theorem dX5_moveLetters_104 : decode cX5_moveLetters 104 = .ok (.getfield 18, 3) := by decide +kernel
theorem dX5_moveLetters_107 : decode cX5_moveLetters 107 = .ok (.aload 6, 2) := by decide +kernel
theorem dX5_moveLetters_109 : decode cX5_moveLetters 109 = .ok (.iload 7, 2) := by decide +kernel
theorem dX5_moveLetters_111 : decode cX5_moveLetters 111 = .ok (.invokevirtual 60, 3) := by decide +kernel
theorem dX5_moveLetters_114 : decode cX5_moveLetters 114 = .ok (.checkcast 64, 3) := by decide +kernel
theorem dX5_moveLetters_117 : decode cX5_moveLetters 117 = .ok (.invokevirtual 66, 3) := by decide +kernel
theorem dX5_moveLetters_120 : decode cX5_moveLetters 120 = .ok (.pop, 1) := by decide +kernel
theorem dX5_moveLetters_121 : decode cX5_moveLetters 121 = .ok (.iinc 7 1, 3) := by decide +kernel
theorem dX5_moveLetters_124 : decode cX5_moveLetters 124 = .ok (.goto (-31), 3) := by decide +kernel
theorem dX5_moveLetters_127 : decode cX5_moveLetters 127 = .ok (.return_, 1) := by decide +kernel
theorem dX5_partKid_0 : decode cX5_partKid 0 = .ok (.iload_n 1, 1) := by decide +kernel
theorem dX5_partKid_1 : decode cX5_partKid 1 = .ok (.ifCond .lt 31, 3) := by decide +kernel
theorem dX5_partKid_4 : decode cX5_partKid 4 = .ok (.iload_n 1, 1) := by decide +kernel
theorem dX5_partKid_5 : decode cX5_partKid 5 = .ok (.aload_n 0, 1) := by decide +kernel
theorem dX5_partKid_6 : decode cX5_partKid 6 = .ok (.getfield 12, 3) := by decide +kernel
theorem dX5_partKid_9 : decode cX5_partKid 9 = .ok (.invokevirtual 42, 3) := by decide +kernel
theorem dX5_partKid_12 : decode cX5_partKid 12 = .ok (.if_icmp .ge 20, 3) := by decide +kernel
theorem dX5_partKid_15 : decode cX5_partKid 15 = .ok (.aload_n 0, 1) := by decide +kernel
theorem dX5_partKid_16 : decode cX5_partKid 16 = .ok (.getfield 12, 3) := by decide +kernel
theorem dX5_partKid_19 : decode cX5_partKid 19 = .ok (.iload_n 1, 1) := by decide +kernel
theorem dX5_partKid_20 : decode cX5_partKid 20 = .ok (.invokevirtual 60, 3) := by decide +kernel
theorem dX5_partKid_23 : decode cX5_partKid 23 = .ok (.checkcast 13, 3) := by decide +kernel
theorem dX5_partKid_26 : decode cX5_partKid 26 = .ok (.invokevirtual 125, 3) := by decide +kernel
theorem dX5_partKid_29 : decode cX5_partKid 29 = .ok (.ifCond .ne 4, 3) := by decide +kernel
theorem dX5_partKid_32 : decode cX5_partKid 32 = .ok (.return_, 1) := by decide +kernel
theorem dX5_partKid_33 : decode cX5_partKid 33 = .ok (.aload_n 0, 1) := by decide +kernel
theorem dX5_partKid_34 : decode cX5_partKid 34 = .ok (.getfield 12, 3) := by decide +kernel
theorem dX5_partKid_37 : decode cX5_partKid 37 = .ok (.iload_n 1, 1) := by decide +kernel
theorem dX5_partKid_38 : decode cX5_partKid 38 = .ok (.invokevirtual 60, 3) := by decide +kernel
theorem dX5_partKid_41 : decode cX5_partKid 41 = .ok (.checkcast 13, 3) := by decide +kernel
theorem dX5_partKid_44 : decode cX5_partKid 44 = .ok (.astore_n 2, 1) := by decide +kernel
theorem dX5_partKid_45 : decode cX5_partKid 45 = .ok (.aload_n 2, 1) := by decide +kernel
theorem dX5_partKid_46 : decode cX5_partKid 46 = .ok (.invokevirtual 49, 3) := by decide +kernel
theorem dX5_partKid_49 : decode cX5_partKid 49 = .ok (.ifCond .eq 8, 3) := by decide +kernel
theorem dX5_partKid_52 : decode cX5_partKid 52 = .ok (.bipush 6, 2) := by decide +kernel
theorem dX5_partKid_54 : decode cX5_partKid 54 = .ok (.goto 4, 3) := by decide +kernel
theorem dX5_partKid_57 : decode cX5_partKid 57 = .ok (.iconst 5, 1) := by decide +kernel
theorem dX5_partKid_58 : decode cX5_partKid 58 = .ok (.istore_n 3, 1) := by decide +kernel
theorem dX5_partKid_59 : decode cX5_partKid 59 = .ok (.aload_n 2, 1) := by decide +kernel
theorem dX5_partKid_60 : decode cX5_partKid 60 = .ok (.invokevirtual 46, 3) := by decide +kernel
theorem dX5_partKid_63 : decode cX5_partKid 63 = .ok (.istore 4, 2) := by decide +kernel
theorem dX5_partKid_65 : decode cX5_partKid 65 = .ok (.iload 4, 2) := by decide +kernel
theorem dX5_partKid_67 : decode cX5_partKid 67 = .ok (.iload_n 3, 1) := by decide +kernel
theorem dX5_partKid_68 : decode cX5_partKid 68 = .ok (.iadd, 1) := by decide +kernel
theorem dX5_partKid_69 : decode cX5_partKid 69 = .ok (.iconst 1, 1) := by decide +kernel
theorem dX5_partKid_70 : decode cX5_partKid 70 = .ok (.isub, 1) := by decide +kernel
theorem dX5_partKid_71 : decode cX5_partKid 71 = .ok (.iload_n 3, 1) := by decide +kernel
theorem dX5_partKid_72 : decode cX5_partKid 72 = .ok (.idiv, 1) := by decide +kernel
theorem dX5_partKid_73 : decode cX5_partKid 73 = .ok (.istore 5, 2) := by decide +kernel
theorem dX5_partKid_75 : decode cX5_partKid 75 = .ok (.aload_n 0, 1) := by decide +kernel
theorem dX5_partKid_76 : decode cX5_partKid 76 = .ok (.getfield 12, 3) := by decide +kernel
theorem dX5_partKid_79 : decode cX5_partKid 79 = .ok (.iload_n 1, 1) := by decide +kernel
theorem dX5_partKid_80 : decode cX5_partKid 80 = .ok (.invokevirtual 128, 3) := by decide +kernel
theorem dX5_partKid_83 : decode cX5_partKid 83 = .ok (.pop, 1) := by decide +kernel
theorem dX5_partKid_84 : decode cX5_partKid 84 = .ok (.iconst 0, 1) := by decide +kernel
theorem dX5_partKid_85 : decode cX5_partKid 85 = .ok (.istore 6, 2) := by decide +kernel
theorem dX5_partKid_87 : decode cX5_partKid 87 = .ok (.iconst 0, 1) := by decide +kernel
theorem dX5_partKid_88 : decode cX5_partKid 88 = .ok (.istore 7, 2) := by decide +kernel
theorem dX5_partKid_90 : decode cX5_partKid 90 = .ok (.iload 7, 2) := by decide +kernel
theorem dX5_partKid_92 : decode cX5_partKid 92 = .ok (.iload 5, 2) := by decide +kernel
theorem dX5_partKid_94 : decode cX5_partKid 94 = .ok (.if_icmp .ge 56, 3) := by decide +kernel
theorem dX5_partKid_97 : decode cX5_partKid 97 = .ok (.iload 6, 2) := by decide +kernel
theorem dX5_partKid_99 : decode cX5_partKid 99 = .ok (.iload 4, 2) := by decide +kernel
theorem dX5_partKid_101 : decode cX5_partKid 101 = .ok (.iload 6, 2) := by decide +kernel
theorem dX5_partKid_103 : decode cX5_partKid 103 = .ok (.isub, 1) := by decide +kernel
theorem dX5_partKid_104 : decode cX5_partKid 104 = .ok (.iload 5, 2) := by decide +kernel
theorem dX5_partKid_106 : decode cX5_partKid 106 = .ok (.iadd, 1) := by decide +kernel
theorem dX5_partKid_107 : decode cX5_partKid 107 = .ok (.iload 7, 2) := by decide +kernel
theorem dX5_partKid_109 : decode cX5_partKid 109 = .ok (.isub, 1) := by decide +kernel
theorem dX5_partKid_110 : decode cX5_partKid 110 = .ok (.iconst 1, 1) := by decide +kernel
theorem dX5_partKid_111 : decode cX5_partKid 111 = .ok (.isub, 1) := by decide +kernel
theorem dX5_partKid_112 : decode cX5_partKid 112 = .ok (.iload 5, 2) := by decide +kernel
theorem dX5_partKid_114 : decode cX5_partKid 114 = .ok (.iload 7, 2) := by decide +kernel
theorem dX5_partKid_116 : decode cX5_partKid 116 = .ok (.isub, 1) := by decide +kernel
theorem dX5_partKid_117 : decode cX5_partKid 117 = .ok (.idiv, 1) := by decide +kernel
theorem dX5_partKid_118 : decode cX5_partKid 118 = .ok (.iadd, 1) := by decide +kernel
theorem dX5_partKid_119 : decode cX5_partKid 119 = .ok (.istore 8, 2) := by decide +kernel
theorem dX5_partKid_121 : decode cX5_partKid 121 = .ok (.aload_n 0, 1) := by decide +kernel
theorem dX5_partKid_122 : decode cX5_partKid 122 = .ok (.getfield 12, 3) := by decide +kernel
theorem dX5_partKid_125 : decode cX5_partKid 125 = .ok (.iload_n 1, 1) := by decide +kernel
theorem dX5_partKid_126 : decode cX5_partKid 126 = .ok (.iload 7, 2) := by decide +kernel
theorem dX5_partKid_128 : decode cX5_partKid 128 = .ok (.iadd, 1) := by decide +kernel
theorem dX5_partKid_129 : decode cX5_partKid 129 = .ok (.aload_n 2, 1) := by decide +kernel
theorem dX5_partKid_130 : decode cX5_partKid 130 = .ok (.iload 6, 2) := by decide +kernel
theorem dX5_partKid_132 : decode cX5_partKid 132 = .ok (.iload 8, 2) := by decide +kernel
theorem dX5_partKid_134 : decode cX5_partKid 134 = .ok (.invokevirtual 131, 3) := by decide +kernel
theorem dX5_partKid_137 : decode cX5_partKid 137 = .ok (.invokevirtual 135, 3) := by decide +kernel
theorem dX5_partKid_140 : decode cX5_partKid 140 = .ok (.iload 8, 2) := by decide +kernel
theorem dX5_partKid_142 : decode cX5_partKid 142 = .ok (.istore 6, 2) := by decide +kernel
theorem dX5_partKid_144 : decode cX5_partKid 144 = .ok (.iinc 7 1, 3) := by decide +kernel
theorem dX5_partKid_147 : decode cX5_partKid 147 = .ok (.goto (-57), 3) := by decide +kernel
theorem dX5_partKid_150 : decode cX5_partKid 150 = .ok (.return_, 1) := by decide +kernel
theorem dX5_partOf_0 : decode cX5_partOf 0 = .ok (.aload_n 0, 1) := by decide +kernel
theorem dX5_partOf_1 : decode cX5_partOf 1 = .ok (.getfield 25, 3) := by decide +kernel
theorem dX5_partOf_4 : decode cX5_partOf 4 = .ok (.lstore_n 3, 1) := by decide +kernel
theorem dX5_partOf_5 : decode cX5_partOf 5 = .ok (.iload_n 1, 1) := by decide +kernel
theorem dX5_partOf_6 : decode cX5_partOf 6 = .ok (.ifCond .le 53, 3) := by decide +kernel
theorem dX5_partOf_9 : decode cX5_partOf 9 = .ok (.iload_n 1, 1) := by decide +kernel
theorem dX5_partOf_10 : decode cX5_partOf 10 = .ok (.aload_n 0, 1) := by decide +kernel
theorem dX5_partOf_11 : decode cX5_partOf 11 = .ok (.invokevirtual 46, 3) := by decide +kernel
theorem dX5_partOf_14 : decode cX5_partOf 14 = .ok (.if_icmp .ge 45, 3) := by decide +kernel
theorem dX5_partOf_17 : decode cX5_partOf 17 = .ok (.aload_n 0, 1) := by decide +kernel
theorem dX5_partOf_18 : decode cX5_partOf 18 = .ok (.invokevirtual 49, 3) := by decide +kernel
theorem dX5_partOf_21 : decode cX5_partOf 21 = .ok (.ifCond .eq 23, 3) := by decide +kernel
theorem dX5_partOf_24 : decode cX5_partOf 24 = .ok (.aload_n 0, 1) := by decide +kernel
theorem dX5_partOf_25 : decode cX5_partOf 25 = .ok (.getfield 29, 3) := by decide +kernel
theorem dX5_partOf_28 : decode cX5_partOf 28 = .ok (.getfield 37, 3) := by decide +kernel
theorem dX5_partOf_31 : decode cX5_partOf 31 = .ok (.iload_n 1, 1) := by decide +kernel
theorem dX5_partOf_32 : decode cX5_partOf 32 = .ok (.invokevirtual 60, 3) := by decide +kernel
theorem dX5_partOf_35 : decode cX5_partOf 35 = .ok (.checkcast 70, 3) := by decide +kernel
theorem dX5_partOf_38 : decode cX5_partOf 38 = .ok (.getfield 138, 3) := by decide +kernel
theorem dX5_partOf_41 : decode cX5_partOf 41 = .ok (.goto 17, 3) := by decide +kernel
theorem dX5_partOf_44 : decode cX5_partOf 44 = .ok (.aload_n 0, 1) := by decide +kernel
theorem dX5_partOf_45 : decode cX5_partOf 45 = .ok (.getfield 12, 3) := by decide +kernel
theorem dX5_partOf_48 : decode cX5_partOf 48 = .ok (.iload_n 1, 1) := by decide +kernel
theorem dX5_partOf_49 : decode cX5_partOf 49 = .ok (.invokevirtual 60, 3) := by decide +kernel
theorem dX5_partOf_52 : decode cX5_partOf 52 = .ok (.checkcast 13, 3) := by decide +kernel
theorem dX5_partOf_55 : decode cX5_partOf 55 = .ok (.getfield 25, 3) := by decide +kernel
theorem dX5_partOf_58 : decode cX5_partOf 58 = .ok (.lstore_n 3, 1) := by decide +kernel
theorem dX5_partOf_59 : decode cX5_partOf 59 = .ok (.new 13, 3) := by decide +kernel
theorem dX5_partOf_62 : decode cX5_partOf 62 = .ok (.dup, 1) := by decide +kernel
theorem dX5_partOf_63 : decode cX5_partOf 63 = .ok (.lload_n 3, 1) := by decide +kernel
theorem dX5_partOf_64 : decode cX5_partOf 64 = .ok (.new 38, 3) := by decide +kernel
theorem dX5_partOf_67 : decode cX5_partOf 67 = .ok (.dup, 1) := by decide +kernel
theorem dX5_partOf_68 : decode cX5_partOf 68 = .ok (.invokespecial 52, 3) := by decide +kernel
theorem dX5_partOf_71 : decode cX5_partOf 71 = .ok (.invokespecial 53, 3) := by decide +kernel
theorem dX5_partOf_74 : decode cX5_partOf 74 = .ok (.astore 5, 2) := by decide +kernel
theorem dX5_partOf_76 : decode cX5_partOf 76 = .ok (.aload_n 0, 1) := by decide +kernel
theorem dX5_partOf_77 : decode cX5_partOf 77 = .ok (.aload 5, 2) := by decide +kernel
theorem dX5_partOf_79 : decode cX5_partOf 79 = .ok (.iload_n 1, 1) := by decide +kernel
theorem dX5_partOf_80 : decode cX5_partOf 80 = .ok (.iload_n 2, 1) := by decide +kernel
theorem dX5_partOf_81 : decode cX5_partOf 81 = .ok (.invokevirtual 56, 3) := by decide +kernel
theorem dX5_partOf_84 : decode cX5_partOf 84 = .ok (.aload_n 0, 1) := by decide +kernel
theorem dX5_partOf_85 : decode cX5_partOf 85 = .ok (.lload_n 3, 1) := by decide +kernel
theorem dX5_partOf_86 : decode cX5_partOf 86 = .ok (.aload_n 0, 1) := by decide +kernel
theorem dX5_partOf_87 : decode cX5_partOf 87 = .ok (.iload_n 2, 1) := by decide +kernel
theorem dX5_partOf_88 : decode cX5_partOf 88 = .ok (.iconst 1, 1) := by decide +kernel
theorem dX5_partOf_89 : decode cX5_partOf 89 = .ok (.isub, 1) := by decide +kernel
theorem dX5_partOf_90 : decode cX5_partOf 90 = .ok (.invokevirtual 101, 3) := by decide +kernel
theorem dX5_partOf_93 : decode cX5_partOf 93 = .ok (.aload 5, 2) := by decide +kernel
theorem dX5_partOf_95 : decode cX5_partOf 95 = .ok (.getfield 18, 3) := by decide +kernel
theorem dX5_partOf_98 : decode cX5_partOf 98 = .ok (.invokevirtual 139, 3) := by decide +kernel
theorem dX5_partOf_101 : decode cX5_partOf 101 = .ok (.aload 5, 2) := by decide +kernel
theorem dX5_partOf_103 : decode cX5_partOf 103 = .ok (.areturn, 1) := by decide +kernel
theorem dX6_init_0 : decode cX6_init 0 = .ok (.aload_n 0, 1) := by decide +kernel
theorem dX6_init_1 : decode cX6_init 1 = .ok (.invokespecial 1, 3) := by decide +kernel
theorem dX6_init_4 : decode cX6_init 4 = .ok (.aload_n 0, 1) := by decide +kernel
theorem dX6_init_5 : decode cX6_init 5 = .ok (.iload_n 1, 1) := by decide +kernel
theorem dX6_init_6 : decode cX6_init 6 = .ok (.putfield 7, 3) := by decide +kernel
theorem dX6_init_9 : decode cX6_init 9 = .ok (.aload_n 0, 1) := by decide +kernel
theorem dX6_init_10 : decode cX6_init 10 = .ok (.aload_n 2, 1) := by decide +kernel
theorem dX6_init_11 : decode cX6_init 11 = .ok (.putfield 13, 3) := by decide +kernel
theorem dX6_init_14 : decode cX6_init 14 = .ok (.return_, 1) := by decide +kernel
theorem dX7_init_0 : decode cX7_init 0 = .ok (.aload_n 0, 1) := by decide +kernel
theorem dX7_init_1 : decode cX7_init 1 = .ok (.invokespecial 3, 3) := by decide +kernel
theorem dX7_init_4 : decode cX7_init 4 = .ok (.aload_n 0, 1) := by decide +kernel
theorem dX7_init_5 : decode cX7_init 5 = .ok (.bipush 40, 2) := by decide +kernel
theorem dX7_init_7 : decode cX7_init 7 = .ok (.newarray .byte, 2) := by decide +kernel
theorem dX7_init_9 : decode cX7_init 9 = .ok (.putfield 9, 3) := by decide +kernel
theorem dX7_init_12 : decode cX7_init 12 = .ok (.return_, 1) := by decide +kernel
theorem dX7_addBytes_0 : decode cX7_addBytes 0 = .ok (.iload_n 3, 1) := by decide +kernel
theorem dX7_addBytes_1 : decode cX7_addBytes 1 = .ok (.iconst 1, 1) := by decide +kernel
theorem dX7_addBytes_2 : decode cX7_addBytes 2 = .ok (.isub, 1) := by decide +kernel
theorem dX7_addBytes_3 : decode cX7_addBytes 3 = .ok (.istore 4, 2) := by decide +kernel
theorem dX7_addBytes_5 : decode cX7_addBytes 5 = .ok (.iload 4, 2) := by decide +kernel
theorem dX7_addBytes_7 : decode cX7_addBytes 7 = .ok (.ifCond .lt 46, 3) := by decide +kernel
theorem dX7_addBytes_10 : decode cX7_addBytes 10 = .ok (.aload_n 0, 1) := by decide +kernel
theorem dX7_addBytes_11 : decode cX7_addBytes 11 = .ok (.getfield 15, 3) := by decide +kernel
theorem dX7_addBytes_14 : decode cX7_addBytes 14 = .ok (.bipush 40, 2) := by decide +kernel
theorem dX7_addBytes_16 : decode cX7_addBytes 16 = .ok (.if_icmp .ge 37, 3) := by decide +kernel
theorem dX7_addBytes_19 : decode cX7_addBytes 19 = .ok (.aload_n 0, 1) := by decide +kernel
theorem dX7_addBytes_20 : decode cX7_addBytes 20 = .ok (.getfield 9, 3) := by decide +kernel
theorem dX7_addBytes_23 : decode cX7_addBytes 23 = .ok (.aload_n 0, 1) := by decide +kernel
theorem dX7_addBytes_24 : decode cX7_addBytes 24 = .ok (.getfield 15, 3) := by decide +kernel
theorem dX7_addBytes_27 : decode cX7_addBytes 27 = .ok (.lload_n 1, 1) := by decide +kernel
theorem dX7_addBytes_28 : decode cX7_addBytes 28 = .ok (.bipush 8, 2) := by decide +kernel
theorem dX7_addBytes_30 : decode cX7_addBytes 30 = .ok (.iload 4, 2) := by decide +kernel
theorem dX7_addBytes_32 : decode cX7_addBytes 32 = .ok (.imul, 1) := by decide +kernel
theorem dX7_addBytes_33 : decode cX7_addBytes 33 = .ok (.lushr, 1) := by decide +kernel
theorem dX7_addBytes_34 : decode cX7_addBytes 34 = .ok (.l2i, 1) := by decide +kernel
theorem dX7_addBytes_35 : decode cX7_addBytes 35 = .ok (.i2b, 1) := by decide +kernel
theorem dX7_addBytes_36 : decode cX7_addBytes 36 = .ok (.bastore, 1) := by decide +kernel
theorem dX7_addBytes_37 : decode cX7_addBytes 37 = .ok (.aload_n 0, 1) := by decide +kernel
theorem dX7_addBytes_38 : decode cX7_addBytes 38 = .ok (.dup, 1) := by decide +kernel
theorem dX7_addBytes_39 : decode cX7_addBytes 39 = .ok (.getfield 15, 3) := by decide +kernel
theorem dX7_addBytes_42 : decode cX7_addBytes 42 = .ok (.iconst 1, 1) := by decide +kernel
theorem dX7_addBytes_43 : decode cX7_addBytes 43 = .ok (.iadd, 1) := by decide +kernel
theorem dX7_addBytes_44 : decode cX7_addBytes 44 = .ok (.putfield 15, 3) := by decide +kernel
theorem dX7_addBytes_47 : decode cX7_addBytes 47 = .ok (.iinc 4 (-1), 3) := by decide +kernel
theorem dX7_addBytes_50 : decode cX7_addBytes 50 = .ok (.goto (-45), 3) := by decide +kernel
theorem dX7_addBytes_53 : decode cX7_addBytes 53 = .ok (.return_, 1) := by decide +kernel
theorem dX7_part_0 : decode cX7_part 0 = .ok (.iload_n 1, 1) := by decide +kernel
theorem dX7_part_1 : decode cX7_part 1 = .ok (.ifCond .lt 16, 3) := by decide +kernel
theorem dX7_part_4 : decode cX7_part 4 = .ok (.iload_n 1, 1) := by decide +kernel
theorem dX7_part_5 : decode cX7_part 5 = .ok (.iload_n 2, 1) := by decide +kernel
theorem dX7_part_6 : decode cX7_part 6 = .ok (.if_icmp .ge 11, 3) := by decide +kernel
theorem dX7_part_9 : decode cX7_part 9 = .ok (.iload_n 2, 1) := by decide +kernel
theorem dX7_part_10 : decode cX7_part 10 = .ok (.aload_n 0, 1) := by decide +kernel
theorem dX7_part_11 : decode cX7_part 11 = .ok (.getfield 15, 3) := by decide +kernel
theorem dX7_part_14 : decode cX7_part 14 = .ok (.if_icmp .le 7, 3) := by decide +kernel
theorem dX7_part_17 : decode cX7_part 17 = .ok (.getstatic 19, 3) := by decide +kernel
theorem dX7_part_20 : decode cX7_part 20 = .ok (.areturn, 1) := by decide +kernel
theorem dX7_part_21 : decode cX7_part 21 = .ok (.aload_n 0, 1) := by decide +kernel
theorem dX7_part_22 : decode cX7_part 22 = .ok (.getfield 9, 3) := by decide +kernel
theorem dX7_part_25 : decode cX7_part 25 = .ok (.iload_n 1, 1) := by decide +kernel
theorem dX7_part_26 : decode cX7_part 26 = .ok (.iload_n 2, 1) := by decide +kernel
theorem dX7_part_27 : decode cX7_part 27 = .ok (.invokestatic 22, 3) := by decide +kernel
theorem dX7_part_30 : decode cX7_part 30 = .ok (.areturn, 1) := by decide +kernel
theorem dX7_become_0 : decode cX7_become 0 = .ok (.aload_n 0, 1) := by decide +kernel
theorem dX7_become_1 : decode cX7_become 1 = .ok (.aload_n 1, 1) := by decide +kernel
theorem dX7_become_2 : decode cX7_become 2 = .ok (.arraylength, 1) := by decide +kernel
theorem dX7_become_3 : decode cX7_become 3 = .ok (.bipush 40, 2) := by decide +kernel
theorem dX7_become_5 : decode cX7_become 5 = .ok (.invokestatic 28, 3) := by decide +kernel
theorem dX7_become_8 : decode cX7_become 8 = .ok (.putfield 15, 3) := by decide +kernel
theorem dX7_become_11 : decode cX7_become 11 = .ok (.aload_n 1, 1) := by decide +kernel
theorem dX7_become_12 : decode cX7_become 12 = .ok (.iconst 0, 1) := by decide +kernel
theorem dX7_become_13 : decode cX7_become 13 = .ok (.aload_n 0, 1) := by decide +kernel
theorem dX7_become_14 : decode cX7_become 14 = .ok (.getfield 9, 3) := by decide +kernel
theorem dX7_become_17 : decode cX7_become 17 = .ok (.iconst 0, 1) := by decide +kernel
theorem dX7_become_18 : decode cX7_become 18 = .ok (.aload_n 0, 1) := by decide +kernel
theorem dX7_become_19 : decode cX7_become 19 = .ok (.getfield 15, 3) := by decide +kernel
theorem dX7_become_22 : decode cX7_become 22 = .ok (.invokestatic 34, 3) := by decide +kernel
theorem dX7_become_25 : decode cX7_become 25 = .ok (.return_, 1) := by decide +kernel
theorem dX8_init_0 : decode cX8_init 0 = .ok (.aload_n 0, 1) := by decide +kernel
theorem dX8_init_1 : decode cX8_init 1 = .ok (.invokespecial 3, 3) := by decide +kernel
theorem dX8_init_4 : decode cX8_init 4 = .ok (.return_, 1) := by decide +kernel
theorem dX8_sinkRoot_0 : decode cX8_sinkRoot 0 = .ok (.aload_n 0, 1) := by decide +kernel
theorem dX8_sinkRoot_1 : decode cX8_sinkRoot 1 = .ok (.getfield 9, 3) := by decide +kernel
theorem dX8_sinkRoot_4 : decode cX8_sinkRoot 4 = .ok (.getfield 15, 3) := by decide +kernel
theorem dX8_sinkRoot_7 : decode cX8_sinkRoot 7 = .ok (.invokevirtual 21, 3) := by decide +kernel
theorem dX8_sinkRoot_10 : decode cX8_sinkRoot 10 = .ok (.ifCond .eq 5, 3) := by decide +kernel
theorem dX8_sinkRoot_13 : decode cX8_sinkRoot 13 = .ok (.iconst 0, 1) := by decide +kernel
theorem dX8_sinkRoot_14 : decode cX8_sinkRoot 14 = .ok (.ireturn, 1) := by decide +kernel
theorem dX8_sinkRoot_15 : decode cX8_sinkRoot 15 = .ok (.aload_n 0, 1) := by decide +kernel
theorem dX8_sinkRoot_16 : decode cX8_sinkRoot 16 = .ok (.aload_n 0, 1) := by decide +kernel
theorem dX8_sinkRoot_17 : decode cX8_sinkRoot 17 = .ok (.getfield 9, 3) := by decide +kernel
theorem dX8_sinkRoot_20 : decode cX8_sinkRoot 20 = .ok (.invokevirtual 27, 3) := by decide +kernel
theorem dX8_sinkRoot_23 : decode cX8_sinkRoot 23 = .ok (.putfield 9, 3) := by decide +kernel
theorem dX8_sinkRoot_26 : decode cX8_sinkRoot 26 = .ok (.aload_n 0, 1) := by decide +kernel
theorem dX8_sinkRoot_27 : decode cX8_sinkRoot 27 = .ok (.getfield 9, 3) := by decide +kernel
theorem dX8_sinkRoot_30 : decode cX8_sinkRoot 30 = .ok (.iconst 0, 1) := by decide +kernel
theorem dX8_sinkRoot_31 : decode cX8_sinkRoot 31 = .ok (.invokestatic 31, 3) := by decide +kernel
theorem dX8_sinkRoot_34 : decode cX8_sinkRoot 34 = .ok (.istore_n 1, 1) := by decide +kernel
theorem dX8_sinkRoot_35 : decode cX8_sinkRoot 35 = .ok (.aload_n 0, 1) := by decide +kernel
theorem dX8_sinkRoot_36 : decode cX8_sinkRoot 36 = .ok (.invokevirtual 35, 3) := by decide +kernel
theorem dX8_sinkRoot_39 : decode cX8_sinkRoot 39 = .ok (.iload_n 1, 1) := by decide +kernel
theorem dX8_sinkRoot_40 : decode cX8_sinkRoot 40 = .ok (.ireturn, 1) := by decide +kernel
theorem dX8_give_0 : decode cX8_give 0 = .ok (.aload_n 0, 1) := by decide +kernel
theorem dX8_give_1 : decode cX8_give 1 = .ok (.aload_n 1, 1) := by decide +kernel
theorem dX8_give_2 : decode cX8_give 2 = .ok (.invokevirtual 38, 3) := by decide +kernel
theorem dX8_give_5 : decode cX8_give 5 = .ok (.ifCond .ne 5, 3) := by decide +kernel
theorem dX8_give_8 : decode cX8_give 8 = .ok (.aload_n 0, 1) := by decide +kernel
theorem dX8_give_9 : decode cX8_give 9 = .ok (.areturn, 1) := by decide +kernel
theorem dX8_give_10 : decode cX8_give 10 = .ok (.aload_n 0, 1) := by decide +kernel
theorem dX8_give_11 : decode cX8_give 11 = .ok (.invokevirtual 27, 3) := by decide +kernel
theorem dX8_give_14 : decode cX8_give 14 = .ok (.astore_n 3, 1) := by decide +kernel
theorem dX8_give_15 : decode cX8_give 15 = .ok (.aload_n 3, 1) := by decide +kernel
theorem dX8_give_16 : decode cX8_give 16 = .ok (.aload_n 1, 1) := by decide +kernel
theorem dX8_give_17 : decode cX8_give 17 = .ok (.invokevirtual 42, 3) := by decide +kernel
theorem dX8_give_20 : decode cX8_give 20 = .ok (.aload_n 3, 1) := by decide +kernel
theorem dX8_give_21 : decode cX8_give 21 = .ok (.getfield 15, 3) := by decide +kernel
theorem dX8_give_24 : decode cX8_give 24 = .ok (.invokevirtual 46, 3) := by decide +kernel
theorem dX8_give_27 : decode cX8_give 27 = .ok (.istore 4, 2) := by decide +kernel
theorem dX8_give_29 : decode cX8_give 29 = .ok (.iconst 0, 1) := by decide +kernel
theorem dX8_give_30 : decode cX8_give 30 = .ok (.istore 5, 2) := by decide +kernel
theorem dX8_give_32 : decode cX8_give 32 = .ok (.iload 5, 2) := by decide +kernel
theorem dX8_give_34 : decode cX8_give 34 = .ok (.iload 4, 2) := by decide +kernel
theorem dX8_give_36 : decode cX8_give 36 = .ok (.if_icmp .ge 27, 3) := by decide +kernel
theorem dX8_give_39 : decode cX8_give 39 = .ok (.aload_n 3, 1) := by decide +kernel
theorem dX8_give_40 : decode cX8_give 40 = .ok (.getfield 15, 3) := by decide +kernel
theorem dX8_give_43 : decode cX8_give 43 = .ok (.invokevirtual 46, 3) := by decide +kernel
theorem dX8_give_46 : decode cX8_give 46 = .ok (.bipush 8, 2) := by decide +kernel
theorem dX8_give_48 : decode cX8_give 48 = .ok (.if_icmp .le 15, 3) := by decide +kernel
theorem dX8_give_51 : decode cX8_give 51 = .ok (.aload_n 3, 1) := by decide +kernel
theorem dX8_give_52 : decode cX8_give 52 = .ok (.iload_n 2, 1) := by decide +kernel
theorem dX8_give_53 : decode cX8_give 53 = .ok (.invokestatic 31, 3) := by decide +kernel
theorem dX8_give_56 : decode cX8_give 56 = .ok (.pop, 1) := by decide +kernel
theorem dX8_give_57 : decode cX8_give 57 = .ok (.iinc 5 1, 3) := by decide +kernel
theorem dX8_give_60 : decode cX8_give 60 = .ok (.goto (-28), 3) := by decide +kernel
theorem dX8_give_63 : decode cX8_give 63 = .ok (.aload_n 3, 1) := by decide +kernel
theorem dX8_give_64 : decode cX8_give 64 = .ok (.areturn, 1) := by decide +kernel
theorem dX8_sinkPage_0 : decode cX8_sinkPage 0 = .ok (.aload_n 0, 1) := by decide +kernel
theorem dX8_sinkPage_1 : decode cX8_sinkPage 1 = .ok (.invokevirtual 50, 3) := by decide +kernel
theorem dX8_sinkPage_4 : decode cX8_sinkPage 4 = .ok (.istore_n 2, 1) := by decide +kernel
theorem dX8_sinkPage_5 : decode cX8_sinkPage 5 = .ok (.iload_n 1, 1) := by decide +kernel
theorem dX8_sinkPage_6 : decode cX8_sinkPage 6 = .ok (.bipush 40, 2) := by decide +kernel
theorem dX8_sinkPage_8 : decode cX8_sinkPage 8 = .ok (.if_icmp .ge 14, 3) := by decide +kernel
theorem dX8_sinkPage_11 : decode cX8_sinkPage 11 = .ok (.iload_n 2, 1) := by decide +kernel
theorem dX8_sinkPage_12 : decode cX8_sinkPage 12 = .ok (.aload_n 0, 1) := by decide +kernel
theorem dX8_sinkPage_13 : decode cX8_sinkPage 13 = .ok (.getfield 53, 3) := by decide +kernel
theorem dX8_sinkPage_16 : decode cX8_sinkPage 16 = .ok (.invokevirtual 46, 3) := by decide +kernel
theorem dX8_sinkPage_19 : decode cX8_sinkPage 19 = .ok (.if_icmp .lt 5, 3) := by decide +kernel
theorem dX8_sinkPage_22 : decode cX8_sinkPage 22 = .ok (.iconst 0, 1) := by decide +kernel
theorem dX8_sinkPage_23 : decode cX8_sinkPage 23 = .ok (.ireturn, 1) := by decide +kernel
theorem dX8_sinkPage_24 : decode cX8_sinkPage 24 = .ok (.aload_n 0, 1) := by decide +kernel
theorem dX8_sinkPage_25 : decode cX8_sinkPage 25 = .ok (.getfield 53, 3) := by decide +kernel
theorem dX8_sinkPage_28 : decode cX8_sinkPage 28 = .ok (.iload_n 2, 1) := by decide +kernel
theorem dX8_sinkPage_29 : decode cX8_sinkPage 29 = .ok (.invokevirtual 56, 3) := by decide +kernel
theorem dX8_sinkPage_32 : decode cX8_sinkPage 32 = .ok (.checkcast 16, 3) := by decide +kernel
theorem dX8_sinkPage_35 : decode cX8_sinkPage 35 = .ok (.astore_n 3, 1) := by decide +kernel
theorem dX8_sinkPage_36 : decode cX8_sinkPage 36 = .ok (.new 22, 3) := by decide +kernel
theorem dX8_sinkPage_39 : decode cX8_sinkPage 39 = .ok (.dup, 1) := by decide +kernel
theorem dX8_sinkPage_40 : decode cX8_sinkPage 40 = .ok (.invokespecial 60, 3) := by decide +kernel
theorem dX8_sinkPage_43 : decode cX8_sinkPage 43 = .ok (.astore 4, 2) := by decide +kernel
theorem dX8_sinkPage_45 : decode cX8_sinkPage 45 = .ok (.aload_n 0, 1) := by decide +kernel
theorem dX8_sinkPage_46 : decode cX8_sinkPage 46 = .ok (.aload_n 3, 1) := by decide +kernel
theorem dX8_sinkPage_47 : decode cX8_sinkPage 47 = .ok (.getfield 61, 3) := by decide +kernel
theorem dX8_sinkPage_50 : decode cX8_sinkPage 50 = .ok (.aload_n 0, 1) := by decide +kernel
theorem dX8_sinkPage_51 : decode cX8_sinkPage 51 = .ok (.iload_n 2, 1) := by decide +kernel
theorem dX8_sinkPage_52 : decode cX8_sinkPage 52 = .ok (.invokevirtual 65, 3) := by decide +kernel
theorem dX8_sinkPage_55 : decode cX8_sinkPage 55 = .ok (.aload 4, 2) := by decide +kernel
theorem dX8_sinkPage_57 : decode cX8_sinkPage 57 = .ok (.invokevirtual 69, 3) := by decide +kernel
theorem dX8_sinkPage_60 : decode cX8_sinkPage 60 = .ok (.aload_n 0, 1) := by decide +kernel
theorem dX8_sinkPage_61 : decode cX8_sinkPage 61 = .ok (.getfield 53, 3) := by decide +kernel
theorem dX8_sinkPage_64 : decode cX8_sinkPage 64 = .ok (.iload_n 2, 1) := by decide +kernel
theorem dX8_sinkPage_65 : decode cX8_sinkPage 65 = .ok (.aload_n 3, 1) := by decide +kernel
theorem dX8_sinkPage_66 : decode cX8_sinkPage 66 = .ok (.aload 4, 2) := by decide +kernel
theorem dX8_sinkPage_68 : decode cX8_sinkPage 68 = .ok (.iload_n 1, 1) := by decide +kernel
theorem dX8_sinkPage_69 : decode cX8_sinkPage 69 = .ok (.iconst 1, 1) := by decide +kernel
theorem dX8_sinkPage_70 : decode cX8_sinkPage 70 = .ok (.iadd, 1) := by decide +kernel
theorem dX8_sinkPage_71 : decode cX8_sinkPage 71 = .ok (.invokestatic 73, 3) := by decide +kernel
theorem dX8_sinkPage_74 : decode cX8_sinkPage 74 = .ok (.invokevirtual 77, 3) := by decide +kernel
theorem dX8_sinkPage_77 : decode cX8_sinkPage 77 = .ok (.pop, 1) := by decide +kernel
theorem dX8_sinkPage_78 : decode cX8_sinkPage 78 = .ok (.aload_n 0, 1) := by decide +kernel
theorem dX8_sinkPage_79 : decode cX8_sinkPage 79 = .ok (.iload_n 2, 1) := by decide +kernel
theorem dX8_sinkPage_80 : decode cX8_sinkPage 80 = .ok (.invokevirtual 81, 3) := by decide +kernel
theorem dX8_sinkPage_83 : decode cX8_sinkPage 83 = .ok (.aload 4, 2) := by decide +kernel
theorem dX8_sinkPage_85 : decode cX8_sinkPage 85 = .ok (.invokevirtual 46, 3) := by decide +kernel
theorem dX8_sinkPage_88 : decode cX8_sinkPage 88 = .ok (.ireturn, 1) := by decide +kernel
theorem dX8_partRoot_0 : decode cX8_partRoot 0 = .ok (.iconst 0, 1) := by decide +kernel
theorem dX8_partRoot_1 : decode cX8_partRoot 1 = .ok (.istore_n 1, 1) := by decide +kernel
theorem dX8_partRoot_2 : decode cX8_partRoot 2 = .ok (.iload_n 1, 1) := by decide +kernel
theorem dX8_partRoot_3 : decode cX8_partRoot 3 = .ok (.bipush 40, 2) := by decide +kernel
theorem dX8_partRoot_5 : decode cX8_partRoot 5 = .ok (.if_icmp .ge 59, 3) := by decide +kernel
theorem dX8_partRoot_8 : decode cX8_partRoot 8 = .ok (.aload_n 0, 1) := by decide +kernel
theorem dX8_partRoot_9 : decode cX8_partRoot 9 = .ok (.getfield 9, 3) := by decide +kernel
theorem dX8_partRoot_12 : decode cX8_partRoot 12 = .ok (.invokevirtual 85, 3) := by decide +kernel
theorem dX8_partRoot_15 : decode cX8_partRoot 15 = .ok (.ifCond .eq 49, 3) := by decide +kernel
theorem dX8_partRoot_18 : decode cX8_partRoot 18 = .ok (.new 16, 3) := by decide +kernel
theorem dX8_partRoot_21 : decode cX8_partRoot 21 = .ok (.dup, 1) := by decide +kernel
theorem dX8_partRoot_22 : decode cX8_partRoot 22 = .ok (.ldc2_w 88, 3) := by decide +kernel
theorem dX8_partRoot_25 : decode cX8_partRoot 25 = .ok (.new 90, 3) := by decide +kernel
theorem dX8_partRoot_28 : decode cX8_partRoot 28 = .ok (.dup, 1) := by decide +kernel
theorem dX8_partRoot_29 : decode cX8_partRoot 29 = .ok (.invokespecial 92, 3) := by decide +kernel
theorem dX8_partRoot_32 : decode cX8_partRoot 32 = .ok (.invokespecial 93, 3) := by decide +kernel
theorem dX8_partRoot_35 : decode cX8_partRoot 35 = .ok (.astore_n 2, 1) := by decide +kernel
theorem dX8_partRoot_36 : decode cX8_partRoot 36 = .ok (.aload_n 2, 1) := by decide +kernel
theorem dX8_partRoot_37 : decode cX8_partRoot 37 = .ok (.getfield 53, 3) := by decide +kernel
theorem dX8_partRoot_40 : decode cX8_partRoot 40 = .ok (.aload_n 0, 1) := by decide +kernel
theorem dX8_partRoot_41 : decode cX8_partRoot 41 = .ok (.getfield 9, 3) := by decide +kernel
theorem dX8_partRoot_44 : decode cX8_partRoot 44 = .ok (.invokevirtual 96, 3) := by decide +kernel
theorem dX8_partRoot_47 : decode cX8_partRoot 47 = .ok (.pop, 1) := by decide +kernel
theorem dX8_partRoot_48 : decode cX8_partRoot 48 = .ok (.aload_n 2, 1) := by decide +kernel
theorem dX8_partRoot_49 : decode cX8_partRoot 49 = .ok (.iconst 0, 1) := by decide +kernel
theorem dX8_partRoot_50 : decode cX8_partRoot 50 = .ok (.invokevirtual 81, 3) := by decide +kernel
theorem dX8_partRoot_53 : decode cX8_partRoot 53 = .ok (.aload_n 0, 1) := by decide +kernel
theorem dX8_partRoot_54 : decode cX8_partRoot 54 = .ok (.aload_n 2, 1) := by decide +kernel
theorem dX8_partRoot_55 : decode cX8_partRoot 55 = .ok (.putfield 9, 3) := by decide +kernel
theorem dX8_partRoot_58 : decode cX8_partRoot 58 = .ok (.iinc 1 1, 3) := by decide +kernel
theorem dX8_partRoot_61 : decode cX8_partRoot 61 = .ok (.goto (-59), 3) := by decide +kernel
theorem dX8_partRoot_64 : decode cX8_partRoot 64 = .ok (.return_, 1) := by decide +kernel
theorem dX8_settleAll_0 : decode cX8_settleAll 0 = .ok (.iconst 0, 1) := by decide +kernel
theorem dX8_settleAll_1 : decode cX8_settleAll 1 = .ok (.istore_n 1, 1) := by decide +kernel
theorem dX8_settleAll_2 : decode cX8_settleAll 2 = .ok (.iconst 1, 1) := by decide +kernel
theorem dX8_settleAll_3 : decode cX8_settleAll 3 = .ok (.istore_n 2, 1) := by decide +kernel
theorem dX8_settleAll_4 : decode cX8_settleAll 4 = .ok (.iconst 0, 1) := by decide +kernel
theorem dX8_settleAll_5 : decode cX8_settleAll 5 = .ok (.istore_n 3, 1) := by decide +kernel
theorem dX8_settleAll_6 : decode cX8_settleAll 6 = .ok (.iload_n 3, 1) := by decide +kernel
theorem dX8_settleAll_7 : decode cX8_settleAll 7 = .ok (.ldc 100, 2) := by decide +kernel
theorem dX8_settleAll_9 : decode cX8_settleAll 9 = .ok (.if_icmp .ge 52, 3) := by decide +kernel
theorem dX8_settleAll_12 : decode cX8_settleAll 12 = .ok (.iload_n 2, 1) := by decide +kernel
theorem dX8_settleAll_13 : decode cX8_settleAll 13 = .ok (.ifCond .le 48, 3) := by decide +kernel
theorem dX8_settleAll_16 : decode cX8_settleAll 16 = .ok (.aload_n 0, 1) := by decide +kernel
theorem dX8_settleAll_17 : decode cX8_settleAll 17 = .ok (.getfield 9, 3) := by decide +kernel
theorem dX8_settleAll_20 : decode cX8_settleAll 20 = .ok (.iconst 0, 1) := by decide +kernel
theorem dX8_settleAll_21 : decode cX8_settleAll 21 = .ok (.invokestatic 101, 3) := by decide +kernel
theorem dX8_settleAll_24 : decode cX8_settleAll 24 = .ok (.ifCond .le 37, 3) := by decide +kernel
theorem dX8_settleAll_27 : decode cX8_settleAll 27 = .ok (.aload_n 0, 1) := by decide +kernel
theorem dX8_settleAll_28 : decode cX8_settleAll 28 = .ok (.aload_n 0, 1) := by decide +kernel
theorem dX8_settleAll_29 : decode cX8_settleAll 29 = .ok (.getfield 9, 3) := by decide +kernel
theorem dX8_settleAll_32 : decode cX8_settleAll 32 = .ok (.invokevirtual 27, 3) := by decide +kernel
theorem dX8_settleAll_35 : decode cX8_settleAll 35 = .ok (.putfield 9, 3) := by decide +kernel
theorem dX8_settleAll_38 : decode cX8_settleAll 38 = .ok (.aload_n 0, 1) := by decide +kernel
theorem dX8_settleAll_39 : decode cX8_settleAll 39 = .ok (.getfield 9, 3) := by decide +kernel
theorem dX8_settleAll_42 : decode cX8_settleAll 42 = .ok (.iconst 0, 1) := by decide +kernel
theorem dX8_settleAll_43 : decode cX8_settleAll 43 = .ok (.invokestatic 104, 3) := by decide +kernel
theorem dX8_settleAll_46 : decode cX8_settleAll 46 = .ok (.istore_n 2, 1) := by decide +kernel
theorem dX8_settleAll_47 : decode cX8_settleAll 47 = .ok (.iload_n 1, 1) := by decide +kernel
theorem dX8_settleAll_48 : decode cX8_settleAll 48 = .ok (.iload_n 2, 1) := by decide +kernel
theorem dX8_settleAll_49 : decode cX8_settleAll 49 = .ok (.iadd, 1) := by decide +kernel
theorem dX8_settleAll_50 : decode cX8_settleAll 50 = .ok (.istore_n 1, 1) := by decide +kernel
theorem dX8_settleAll_51 : decode cX8_settleAll 51 = .ok (.aload_n 0, 1) := by decide +kernel
theorem dX8_settleAll_52 : decode cX8_settleAll 52 = .ok (.invokevirtual 35, 3) := by decide +kernel
theorem dX8_settleAll_55 : decode cX8_settleAll 55 = .ok (.iinc 3 1, 3) := by decide +kernel
theorem dX8_settleAll_58 : decode cX8_settleAll 58 = .ok (.goto (-52), 3) := by decide +kernel
theorem dX8_settleAll_61 : decode cX8_settleAll 61 = .ok (.iload_n 1, 1) := by decide +kernel
theorem dX8_settleAll_62 : decode cX8_settleAll 62 = .ok (.ireturn, 1) := by decide +kernel
theorem dX8_settleBelow_0 : decode cX8_settleBelow 0 = .ok (.iload_n 1, 1) := by decide +kernel
theorem dX8_settleBelow_1 : decode cX8_settleBelow 1 = .ok (.bipush 40, 2) := by decide +kernel
theorem dX8_settleBelow_3 : decode cX8_settleBelow 3 = .ok (.if_icmp .lt 5, 3) := by decide +kernel
theorem dX8_settleBelow_6 : decode cX8_settleBelow 6 = .ok (.iconst 0, 1) := by decide +kernel
theorem dX8_settleBelow_7 : decode cX8_settleBelow 7 = .ok (.ireturn, 1) := by decide +kernel
theorem dX8_settleBelow_8 : decode cX8_settleBelow 8 = .ok (.iconst 0, 1) := by decide +kernel
theorem dX8_settleBelow_9 : decode cX8_settleBelow 9 = .ok (.istore_n 2, 1) := by decide +kernel
theorem dX8_settleBelow_10 : decode cX8_settleBelow 10 = .ok (.aload_n 0, 1) := by decide +kernel
theorem dX8_settleBelow_11 : decode cX8_settleBelow 11 = .ok (.getfield 15, 3) := by decide +kernel
theorem dX8_settleBelow_14 : decode cX8_settleBelow 14 = .ok (.invokevirtual 46, 3) := by decide +kernel
theorem dX8_settleBelow_17 : decode cX8_settleBelow 17 = .ok (.istore_n 3, 1) := by decide +kernel
theorem dX8_settleBelow_18 : decode cX8_settleBelow 18 = .ok (.iconst 0, 1) := by decide +kernel
theorem dX8_settleBelow_19 : decode cX8_settleBelow 19 = .ok (.istore 4, 2) := by decide +kernel
theorem dX8_settleBelow_21 : decode cX8_settleBelow 21 = .ok (.iload 4, 2) := by decide +kernel
theorem dX8_settleBelow_23 : decode cX8_settleBelow 23 = .ok (.iload_n 3, 1) := by decide +kernel
theorem dX8_settleBelow_24 : decode cX8_settleBelow 24 = .ok (.if_icmp .ge 35, 3) := by decide +kernel
theorem dX8_settleBelow_27 : decode cX8_settleBelow 27 = .ok (.aload_n 0, 1) := by decide +kernel
theorem dX8_settleBelow_28 : decode cX8_settleBelow 28 = .ok (.getfield 15, 3) := by decide +kernel
theorem dX8_settleBelow_31 : decode cX8_settleBelow 31 = .ok (.invokevirtual 21, 3) := by decide +kernel
theorem dX8_settleBelow_34 : decode cX8_settleBelow 34 = .ok (.ifCond .ne 25, 3) := by decide +kernel
theorem dX8_settleBelow_37 : decode cX8_settleBelow 37 = .ok (.aload_n 0, 1) := by decide +kernel
theorem dX8_settleBelow_38 : decode cX8_settleBelow 38 = .ok (.invokevirtual 85, 3) := by decide +kernel
theorem dX8_settleBelow_41 : decode cX8_settleBelow 41 = .ok (.ifCond .ne 18, 3) := by decide +kernel
theorem dX8_settleBelow_44 : decode cX8_settleBelow 44 = .ok (.aload_n 0, 1) := by decide +kernel
theorem dX8_settleBelow_45 : decode cX8_settleBelow 45 = .ok (.iload_n 1, 1) := by decide +kernel
theorem dX8_settleBelow_46 : decode cX8_settleBelow 46 = .ok (.invokestatic 31, 3) := by decide +kernel
theorem dX8_settleBelow_49 : decode cX8_settleBelow 49 = .ok (.pop, 1) := by decide +kernel
theorem dX8_settleBelow_50 : decode cX8_settleBelow 50 = .ok (.iinc 2 1, 3) := by decide +kernel
theorem dX8_settleBelow_53 : decode cX8_settleBelow 53 = .ok (.iinc 4 1, 3) := by decide +kernel
theorem dX8_settleBelow_56 : decode cX8_settleBelow 56 = .ok (.goto (-35), 3) := by decide +kernel
theorem dX8_settleBelow_59 : decode cX8_settleBelow 59 = .ok (.iconst 0, 1) := by decide +kernel
theorem dX8_settleBelow_60 : decode cX8_settleBelow 60 = .ok (.istore 4, 2) := by decide +kernel
theorem dX8_settleBelow_62 : decode cX8_settleBelow 62 = .ok (.iconst 0, 1) := by decide +kernel
theorem dX8_settleBelow_63 : decode cX8_settleBelow 63 = .ok (.istore 5, 2) := by decide +kernel
theorem dX8_settleBelow_65 : decode cX8_settleBelow 65 = .ok (.iload 5, 2) := by decide +kernel
theorem dX8_settleBelow_67 : decode cX8_settleBelow 67 = .ok (.ldc 100, 2) := by decide +kernel
theorem dX8_settleBelow_69 : decode cX8_settleBelow 69 = .ok (.if_icmp .ge 102, 3) := by decide +kernel
theorem dX8_settleBelow_72 : decode cX8_settleBelow 72 = .ok (.iload 4, 2) := by decide +kernel
theorem dX8_settleBelow_74 : decode cX8_settleBelow 74 = .ok (.aload_n 0, 1) := by decide +kernel
theorem dX8_settleBelow_75 : decode cX8_settleBelow 75 = .ok (.getfield 53, 3) := by decide +kernel
theorem dX8_settleBelow_78 : decode cX8_settleBelow 78 = .ok (.invokevirtual 46, 3) := by decide +kernel
theorem dX8_settleBelow_81 : decode cX8_settleBelow 81 = .ok (.if_icmp .ge 90, 3) := by decide +kernel
theorem dX8_settleBelow_84 : decode cX8_settleBelow 84 = .ok (.aload_n 0, 1) := by decide +kernel
theorem dX8_settleBelow_85 : decode cX8_settleBelow 85 = .ok (.invokevirtual 85, 3) := by decide +kernel
theorem dX8_settleBelow_88 : decode cX8_settleBelow 88 = .ok (.ifCond .ne 83, 3) := by decide +kernel
theorem dX8_settleBelow_91 : decode cX8_settleBelow 91 = .ok (.aload_n 0, 1) := by decide +kernel
theorem dX8_settleBelow_92 : decode cX8_settleBelow 92 = .ok (.getfield 53, 3) := by decide +kernel
theorem dX8_settleBelow_95 : decode cX8_settleBelow 95 = .ok (.iload 4, 2) := by decide +kernel
theorem dX8_settleBelow_97 : decode cX8_settleBelow 97 = .ok (.invokevirtual 56, 3) := by decide +kernel
theorem dX8_settleBelow_100 : decode cX8_settleBelow 100 = .ok (.checkcast 16, 3) := by decide +kernel
theorem dX8_settleBelow_103 : decode cX8_settleBelow 103 = .ok (.astore 6, 2) := by decide +kernel
theorem dX8_settleBelow_105 : decode cX8_settleBelow 105 = .ok (.iconst 0, 1) := by decide +kernel
theorem dX8_settleBelow_106 : decode cX8_settleBelow 106 = .ok (.istore 7, 2) := by decide +kernel
theorem dX8_settleBelow_108 : decode cX8_settleBelow 108 = .ok (.aload 6, 2) := by decide +kernel
theorem dX8_settleBelow_110 : decode cX8_settleBelow 110 = .ok (.iconst 0, 1) := by decide +kernel
theorem dX8_settleBelow_111 : decode cX8_settleBelow 111 = .ok (.invokestatic 101, 3) := by decide +kernel
theorem dX8_settleBelow_114 : decode cX8_settleBelow 114 = .ok (.ifCond .le 38, 3) := by decide +kernel
theorem dX8_settleBelow_117 : decode cX8_settleBelow 117 = .ok (.aload 6, 2) := by decide +kernel
theorem dX8_settleBelow_119 : decode cX8_settleBelow 119 = .ok (.invokevirtual 27, 3) := by decide +kernel
theorem dX8_settleBelow_122 : decode cX8_settleBelow 122 = .ok (.astore 6, 2) := by decide +kernel
theorem dX8_settleBelow_124 : decode cX8_settleBelow 124 = .ok (.aload_n 0, 1) := by decide +kernel
theorem dX8_settleBelow_125 : decode cX8_settleBelow 125 = .ok (.getfield 53, 3) := by decide +kernel
theorem dX8_settleBelow_128 : decode cX8_settleBelow 128 = .ok (.iload 4, 2) := by decide +kernel
theorem dX8_settleBelow_130 : decode cX8_settleBelow 130 = .ok (.aload 6, 2) := by decide +kernel
theorem dX8_settleBelow_132 : decode cX8_settleBelow 132 = .ok (.invokevirtual 77, 3) := by decide +kernel
theorem dX8_settleBelow_135 : decode cX8_settleBelow 135 = .ok (.pop, 1) := by decide +kernel
theorem dX8_settleBelow_136 : decode cX8_settleBelow 136 = .ok (.aload 6, 2) := by decide +kernel
theorem dX8_settleBelow_138 : decode cX8_settleBelow 138 = .ok (.iload_n 1, 1) := by decide +kernel
theorem dX8_settleBelow_139 : decode cX8_settleBelow 139 = .ok (.iconst 1, 1) := by decide +kernel
theorem dX8_settleBelow_140 : decode cX8_settleBelow 140 = .ok (.iadd, 1) := by decide +kernel
theorem dX8_settleBelow_141 : decode cX8_settleBelow 141 = .ok (.invokestatic 104, 3) := by decide +kernel
theorem dX8_settleBelow_144 : decode cX8_settleBelow 144 = .ok (.istore 7, 2) := by decide +kernel
theorem dX8_settleBelow_146 : decode cX8_settleBelow 146 = .ok (.aload_n 0, 1) := by decide +kernel
theorem dX8_settleBelow_147 : decode cX8_settleBelow 147 = .ok (.iload 4, 2) := by decide +kernel
theorem dX8_settleBelow_149 : decode cX8_settleBelow 149 = .ok (.invokevirtual 81, 3) := by decide +kernel
theorem dX8_settleBelow_152 : decode cX8_settleBelow 152 = .ok (.iload_n 2, 1) := by decide +kernel
theorem dX8_settleBelow_153 : decode cX8_settleBelow 153 = .ok (.iload 7, 2) := by decide +kernel
theorem dX8_settleBelow_155 : decode cX8_settleBelow 155 = .ok (.iadd, 1) := by decide +kernel
theorem dX8_settleBelow_156 : decode cX8_settleBelow 156 = .ok (.istore_n 2, 1) := by decide +kernel
theorem dX8_settleBelow_157 : decode cX8_settleBelow 157 = .ok (.iload 7, 2) := by decide +kernel
theorem dX8_settleBelow_159 : decode cX8_settleBelow 159 = .ok (.ifCond .ne 6, 3) := by decide +kernel
theorem dX8_settleBelow_162 : decode cX8_settleBelow 162 = .ok (.iinc 4 1, 3) := by decide +kernel
theorem dX8_settleBelow_165 : decode cX8_settleBelow 165 = .ok (.iinc 5 1, 3) := by decide +kernel
theorem dX8_settleBelow_168 : decode cX8_settleBelow 168 = .ok (.goto (-103), 3) := by decide +kernel
theorem dX8_settleBelow_171 : decode cX8_settleBelow 171 = .ok (.iload_n 2, 1) := by decide +kernel
theorem dX8_settleBelow_172 : decode cX8_settleBelow 172 = .ok (.ireturn, 1) := by decide +kernel
theorem dX8_levels_0 : decode cX8_levels 0 = .ok (.iconst 1, 1) := by decide +kernel
theorem dX8_levels_1 : decode cX8_levels 1 = .ok (.istore_n 1, 1) := by decide +kernel
theorem dX8_levels_2 : decode cX8_levels 2 = .ok (.aload_n 0, 1) := by decide +kernel
theorem dX8_levels_3 : decode cX8_levels 3 = .ok (.getfield 9, 3) := by decide +kernel
theorem dX8_levels_6 : decode cX8_levels 6 = .ok (.astore_n 2, 1) := by decide +kernel
theorem dX8_levels_7 : decode cX8_levels 7 = .ok (.iconst 0, 1) := by decide +kernel
theorem dX8_levels_8 : decode cX8_levels 8 = .ok (.istore_n 3, 1) := by decide +kernel
theorem dX8_levels_9 : decode cX8_levels 9 = .ok (.iload_n 3, 1) := by decide +kernel
theorem dX8_levels_10 : decode cX8_levels 10 = .ok (.bipush 40, 2) := by decide +kernel
theorem dX8_levels_12 : decode cX8_levels 12 = .ok (.if_icmp .ge 31, 3) := by decide +kernel
theorem dX8_levels_15 : decode cX8_levels 15 = .ok (.aload_n 2, 1) := by decide +kernel
theorem dX8_levels_16 : decode cX8_levels 16 = .ok (.invokevirtual 107, 3) := by decide +kernel
theorem dX8_levels_19 : decode cX8_levels 19 = .ok (.ifCond .ne 24, 3) := by decide +kernel
theorem dX8_levels_22 : decode cX8_levels 22 = .ok (.aload_n 2, 1) := by decide +kernel
theorem dX8_levels_23 : decode cX8_levels 23 = .ok (.getfield 53, 3) := by decide +kernel
theorem dX8_levels_26 : decode cX8_levels 26 = .ok (.iconst 0, 1) := by decide +kernel
theorem dX8_levels_27 : decode cX8_levels 27 = .ok (.invokevirtual 56, 3) := by decide +kernel
theorem dX8_levels_30 : decode cX8_levels 30 = .ok (.checkcast 16, 3) := by decide +kernel
theorem dX8_levels_33 : decode cX8_levels 33 = .ok (.astore_n 2, 1) := by decide +kernel
theorem dX8_levels_34 : decode cX8_levels 34 = .ok (.iinc 1 1, 3) := by decide +kernel
theorem dX8_levels_37 : decode cX8_levels 37 = .ok (.iinc 3 1, 3) := by decide +kernel
theorem dX8_levels_40 : decode cX8_levels 40 = .ok (.goto (-31), 3) := by decide +kernel
theorem dX8_levels_43 : decode cX8_levels 43 = .ok (.iload_n 1, 1) := by decide +kernel
theorem dX8_levels_44 : decode cX8_levels 44 = .ok (.ireturn, 1) := by decide +kernel
theorem dX8_lettersOnWay_0 : decode cX8_lettersOnWay 0 = .ok (.iconst 0, 1) := by decide +kernel
theorem dX8_lettersOnWay_1 : decode cX8_lettersOnWay 1 = .ok (.istore_n 3, 1) := by decide +kernel
theorem dX8_lettersOnWay_2 : decode cX8_lettersOnWay 2 = .ok (.aload_n 0, 1) := by decide +kernel
theorem dX8_lettersOnWay_3 : decode cX8_lettersOnWay 3 = .ok (.getfield 9, 3) := by decide +kernel
theorem dX8_lettersOnWay_6 : decode cX8_lettersOnWay 6 = .ok (.astore 4, 2) := by decide +kernel
theorem dX8_lettersOnWay_8 : decode cX8_lettersOnWay 8 = .ok (.iconst 0, 1) := by decide +kernel
theorem dX8_lettersOnWay_9 : decode cX8_lettersOnWay 9 = .ok (.istore 5, 2) := by decide +kernel
theorem dX8_lettersOnWay_11 : decode cX8_lettersOnWay 11 = .ok (.iload 5, 2) := by decide +kernel
theorem dX8_lettersOnWay_13 : decode cX8_lettersOnWay 13 = .ok (.bipush 40, 2) := by decide +kernel
theorem dX8_lettersOnWay_15 : decode cX8_lettersOnWay 15 = .ok (.if_icmp .ge 81, 3) := by decide +kernel
theorem dX8_lettersOnWay_18 : decode cX8_lettersOnWay 18 = .ok (.aload 4, 2) := by decide +kernel
theorem dX8_lettersOnWay_20 : decode cX8_lettersOnWay 20 = .ok (.invokevirtual 107, 3) := by decide +kernel
theorem dX8_lettersOnWay_23 : decode cX8_lettersOnWay 23 = .ok (.ifCond .ne 73, 3) := by decide +kernel
theorem dX8_lettersOnWay_26 : decode cX8_lettersOnWay 26 = .ok (.iconst 0, 1) := by decide +kernel
theorem dX8_lettersOnWay_27 : decode cX8_lettersOnWay 27 = .ok (.istore 6, 2) := by decide +kernel
theorem dX8_lettersOnWay_29 : decode cX8_lettersOnWay 29 = .ok (.iload 6, 2) := by decide +kernel
theorem dX8_lettersOnWay_31 : decode cX8_lettersOnWay 31 = .ok (.aload 4, 2) := by decide +kernel
theorem dX8_lettersOnWay_33 : decode cX8_lettersOnWay 33 = .ok (.getfield 15, 3) := by decide +kernel
theorem dX8_lettersOnWay_36 : decode cX8_lettersOnWay 36 = .ok (.invokevirtual 46, 3) := by decide +kernel
theorem dX8_lettersOnWay_39 : decode cX8_lettersOnWay 39 = .ok (.if_icmp .ge 32, 3) := by decide +kernel
theorem dX8_lettersOnWay_42 : decode cX8_lettersOnWay 42 = .ok (.aload 4, 2) := by decide +kernel
theorem dX8_lettersOnWay_44 : decode cX8_lettersOnWay 44 = .ok (.getfield 15, 3) := by decide +kernel
theorem dX8_lettersOnWay_47 : decode cX8_lettersOnWay 47 = .ok (.iload 6, 2) := by decide +kernel
theorem dX8_lettersOnWay_49 : decode cX8_lettersOnWay 49 = .ok (.invokevirtual 56, 3) := by decide +kernel
theorem dX8_lettersOnWay_52 : decode cX8_lettersOnWay 52 = .ok (.checkcast 110, 3) := by decide +kernel
theorem dX8_lettersOnWay_55 : decode cX8_lettersOnWay 55 = .ok (.lload_n 1, 1) := by decide +kernel
theorem dX8_lettersOnWay_56 : decode cX8_lettersOnWay 56 = .ok (.invokevirtual 112, 3) := by decide +kernel
theorem dX8_lettersOnWay_59 : decode cX8_lettersOnWay 59 = .ok (.ifCond .eq 6, 3) := by decide +kernel
theorem dX8_lettersOnWay_62 : decode cX8_lettersOnWay 62 = .ok (.iinc 3 1, 3) := by decide +kernel
theorem dX8_lettersOnWay_65 : decode cX8_lettersOnWay 65 = .ok (.iinc 6 1, 3) := by decide +kernel
theorem dX8_lettersOnWay_68 : decode cX8_lettersOnWay 68 = .ok (.goto (-39), 3) := by decide +kernel
theorem dX8_lettersOnWay_71 : decode cX8_lettersOnWay 71 = .ok (.aload 4, 2) := by decide +kernel
theorem dX8_lettersOnWay_73 : decode cX8_lettersOnWay 73 = .ok (.getfield 53, 3) := by decide +kernel
theorem dX8_lettersOnWay_76 : decode cX8_lettersOnWay 76 = .ok (.aload 4, 2) := by decide +kernel
theorem dX8_lettersOnWay_78 : decode cX8_lettersOnWay 78 = .ok (.lload_n 1, 1) := by decide +kernel
theorem dX8_lettersOnWay_79 : decode cX8_lettersOnWay 79 = .ok (.invokevirtual 116, 3) := by decide +kernel
theorem dX8_lettersOnWay_82 : decode cX8_lettersOnWay 82 = .ok (.invokevirtual 56, 3) := by decide +kernel
theorem dX8_lettersOnWay_85 : decode cX8_lettersOnWay 85 = .ok (.checkcast 16, 3) := by decide +kernel
theorem dX8_lettersOnWay_88 : decode cX8_lettersOnWay 88 = .ok (.astore 4, 2) := by decide +kernel
theorem dX8_lettersOnWay_90 : decode cX8_lettersOnWay 90 = .ok (.iinc 5 1, 3) := by decide +kernel
theorem dX8_lettersOnWay_93 : decode cX8_lettersOnWay 93 = .ok (.goto (-82), 3) := by decide +kernel
theorem dX8_lettersOnWay_96 : decode cX8_lettersOnWay 96 = .ok (.iload_n 3, 1) := by decide +kernel
theorem dX8_lettersOnWay_97 : decode cX8_lettersOnWay 97 = .ok (.ireturn, 1) := by decide +kernel
theorem dX8_pagesIn_0 : decode cX8_pagesIn 0 = .ok (.iconst 1, 1) := by decide +kernel
theorem dX8_pagesIn_1 : decode cX8_pagesIn 1 = .ok (.istore_n 2, 1) := by decide +kernel
theorem dX8_pagesIn_2 : decode cX8_pagesIn 2 = .ok (.iconst 0, 1) := by decide +kernel
theorem dX8_pagesIn_3 : decode cX8_pagesIn 3 = .ok (.istore_n 3, 1) := by decide +kernel
theorem dX8_pagesIn_4 : decode cX8_pagesIn 4 = .ok (.iload_n 3, 1) := by decide +kernel
theorem dX8_pagesIn_5 : decode cX8_pagesIn 5 = .ok (.aload_n 0, 1) := by decide +kernel
theorem dX8_pagesIn_6 : decode cX8_pagesIn 6 = .ok (.getfield 53, 3) := by decide +kernel
theorem dX8_pagesIn_9 : decode cX8_pagesIn 9 = .ok (.invokevirtual 46, 3) := by decide +kernel
theorem dX8_pagesIn_12 : decode cX8_pagesIn 12 = .ok (.if_icmp .ge 35, 3) := by decide +kernel
theorem dX8_pagesIn_15 : decode cX8_pagesIn 15 = .ok (.iload_n 1, 1) := by decide +kernel
theorem dX8_pagesIn_16 : decode cX8_pagesIn 16 = .ok (.bipush 40, 2) := by decide +kernel
theorem dX8_pagesIn_18 : decode cX8_pagesIn 18 = .ok (.if_icmp .ge 29, 3) := by decide +kernel
theorem dX8_pagesIn_21 : decode cX8_pagesIn 21 = .ok (.iload_n 2, 1) := by decide +kernel
theorem dX8_pagesIn_22 : decode cX8_pagesIn 22 = .ok (.aload_n 0, 1) := by decide +kernel
theorem dX8_pagesIn_23 : decode cX8_pagesIn 23 = .ok (.getfield 53, 3) := by decide +kernel
theorem dX8_pagesIn_26 : decode cX8_pagesIn 26 = .ok (.iload_n 3, 1) := by decide +kernel
theorem dX8_pagesIn_27 : decode cX8_pagesIn 27 = .ok (.invokevirtual 56, 3) := by decide +kernel
theorem dX8_pagesIn_30 : decode cX8_pagesIn 30 = .ok (.checkcast 16, 3) := by decide +kernel
theorem dX8_pagesIn_33 : decode cX8_pagesIn 33 = .ok (.iload_n 1, 1) := by decide +kernel
theorem dX8_pagesIn_34 : decode cX8_pagesIn 34 = .ok (.iconst 1, 1) := by decide +kernel
theorem dX8_pagesIn_35 : decode cX8_pagesIn 35 = .ok (.iadd, 1) := by decide +kernel
theorem dX8_pagesIn_36 : decode cX8_pagesIn 36 = .ok (.invokestatic 120, 3) := by decide +kernel
theorem dX8_pagesIn_39 : decode cX8_pagesIn 39 = .ok (.iadd, 1) := by decide +kernel
theorem dX8_pagesIn_40 : decode cX8_pagesIn 40 = .ok (.istore_n 2, 1) := by decide +kernel
theorem dX8_pagesIn_41 : decode cX8_pagesIn 41 = .ok (.iinc 3 1, 3) := by decide +kernel
theorem dX8_pagesIn_44 : decode cX8_pagesIn 44 = .ok (.goto (-40), 3) := by decide +kernel
theorem dX8_pagesIn_47 : decode cX8_pagesIn 47 = .ok (.iload_n 2, 1) := by decide +kernel
theorem dX8_pagesIn_48 : decode cX8_pagesIn 48 = .ok (.ireturn, 1) := by decide +kernel
theorem dX8_lettersIn_0 : decode cX8_lettersIn 0 = .ok (.aload_n 0, 1) := by decide +kernel
theorem dX8_lettersIn_1 : decode cX8_lettersIn 1 = .ok (.getfield 15, 3) := by decide +kernel
theorem dX8_lettersIn_4 : decode cX8_lettersIn 4 = .ok (.invokevirtual 46, 3) := by decide +kernel
theorem dX8_lettersIn_7 : decode cX8_lettersIn 7 = .ok (.istore_n 2, 1) := by decide +kernel
theorem dX8_lettersIn_8 : decode cX8_lettersIn 8 = .ok (.iconst 0, 1) := by decide +kernel
theorem dX8_lettersIn_9 : decode cX8_lettersIn 9 = .ok (.istore_n 3, 1) := by decide +kernel
theorem dX8_lettersIn_10 : decode cX8_lettersIn 10 = .ok (.iload_n 3, 1) := by decide +kernel
theorem dX8_lettersIn_11 : decode cX8_lettersIn 11 = .ok (.aload_n 0, 1) := by decide +kernel
theorem dX8_lettersIn_12 : decode cX8_lettersIn 12 = .ok (.getfield 53, 3) := by decide +kernel
theorem dX8_lettersIn_15 : decode cX8_lettersIn 15 = .ok (.invokevirtual 46, 3) := by decide +kernel
theorem dX8_lettersIn_18 : decode cX8_lettersIn 18 = .ok (.if_icmp .ge 35, 3) := by decide +kernel
theorem dX8_lettersIn_21 : decode cX8_lettersIn 21 = .ok (.iload_n 1, 1) := by decide +kernel
theorem dX8_lettersIn_22 : decode cX8_lettersIn 22 = .ok (.bipush 40, 2) := by decide +kernel
theorem dX8_lettersIn_24 : decode cX8_lettersIn 24 = .ok (.if_icmp .ge 29, 3) := by decide +kernel
theorem dX8_lettersIn_27 : decode cX8_lettersIn 27 = .ok (.iload_n 2, 1) := by decide +kernel
theorem dX8_lettersIn_28 : decode cX8_lettersIn 28 = .ok (.aload_n 0, 1) := by decide +kernel
theorem dX8_lettersIn_29 : decode cX8_lettersIn 29 = .ok (.getfield 53, 3) := by decide +kernel
theorem dX8_lettersIn_32 : decode cX8_lettersIn 32 = .ok (.iload_n 3, 1) := by decide +kernel
theorem dX8_lettersIn_33 : decode cX8_lettersIn 33 = .ok (.invokevirtual 56, 3) := by decide +kernel
theorem dX8_lettersIn_36 : decode cX8_lettersIn 36 = .ok (.checkcast 16, 3) := by decide +kernel
theorem dX8_lettersIn_39 : decode cX8_lettersIn 39 = .ok (.iload_n 1, 1) := by decide +kernel
theorem dX8_lettersIn_40 : decode cX8_lettersIn 40 = .ok (.iconst 1, 1) := by decide +kernel
theorem dX8_lettersIn_41 : decode cX8_lettersIn 41 = .ok (.iadd, 1) := by decide +kernel
theorem dX8_lettersIn_42 : decode cX8_lettersIn 42 = .ok (.invokestatic 101, 3) := by decide +kernel
theorem dX8_lettersIn_45 : decode cX8_lettersIn 45 = .ok (.iadd, 1) := by decide +kernel
theorem dX8_lettersIn_46 : decode cX8_lettersIn 46 = .ok (.istore_n 2, 1) := by decide +kernel
theorem dX8_lettersIn_47 : decode cX8_lettersIn 47 = .ok (.iinc 3 1, 3) := by decide +kernel
theorem dX8_lettersIn_50 : decode cX8_lettersIn 50 = .ok (.goto (-40), 3) := by decide +kernel
theorem dX8_lettersIn_53 : decode cX8_lettersIn 53 = .ok (.iload_n 2, 1) := by decide +kernel
theorem dX8_lettersIn_54 : decode cX8_lettersIn 54 = .ok (.ireturn, 1) := by decide +kernel
theorem dX8_changedIn_0 : decode cX8_changedIn 0 = .ok (.aload_n 0, 1) := by decide +kernel
theorem dX8_changedIn_1 : decode cX8_changedIn 1 = .ok (.getfield 123, 3) := by decide +kernel
theorem dX8_changedIn_4 : decode cX8_changedIn 4 = .ok (.iconst (-1), 1) := by decide +kernel
theorem dX8_changedIn_5 : decode cX8_changedIn 5 = .ok (.if_icmp .eq 5, 3) := by decide +kernel
theorem dX8_changedIn_8 : decode cX8_changedIn 8 = .ok (.iconst 0, 1) := by decide +kernel
theorem dX8_changedIn_9 : decode cX8_changedIn 9 = .ok (.ireturn, 1) := by decide +kernel
theorem dX8_changedIn_10 : decode cX8_changedIn 10 = .ok (.iconst 1, 1) := by decide +kernel
theorem dX8_changedIn_11 : decode cX8_changedIn 11 = .ok (.istore_n 2, 1) := by decide +kernel
theorem dX8_changedIn_12 : decode cX8_changedIn 12 = .ok (.iconst 0, 1) := by decide +kernel
theorem dX8_changedIn_13 : decode cX8_changedIn 13 = .ok (.istore_n 3, 1) := by decide +kernel
theorem dX8_changedIn_14 : decode cX8_changedIn 14 = .ok (.iload_n 3, 1) := by decide +kernel
theorem dX8_changedIn_15 : decode cX8_changedIn 15 = .ok (.aload_n 0, 1) := by decide +kernel
theorem dX8_changedIn_16 : decode cX8_changedIn 16 = .ok (.getfield 53, 3) := by decide +kernel
theorem dX8_changedIn_19 : decode cX8_changedIn 19 = .ok (.invokevirtual 46, 3) := by decide +kernel
theorem dX8_changedIn_22 : decode cX8_changedIn 22 = .ok (.if_icmp .ge 35, 3) := by decide +kernel
theorem dX8_changedIn_25 : decode cX8_changedIn 25 = .ok (.iload_n 1, 1) := by decide +kernel
theorem dX8_changedIn_26 : decode cX8_changedIn 26 = .ok (.bipush 40, 2) := by decide +kernel
theorem dX8_changedIn_28 : decode cX8_changedIn 28 = .ok (.if_icmp .ge 29, 3) := by decide +kernel
theorem dX8_changedIn_31 : decode cX8_changedIn 31 = .ok (.iload_n 2, 1) := by decide +kernel
theorem dX8_changedIn_32 : decode cX8_changedIn 32 = .ok (.aload_n 0, 1) := by decide +kernel
theorem dX8_changedIn_33 : decode cX8_changedIn 33 = .ok (.getfield 53, 3) := by decide +kernel
theorem dX8_changedIn_36 : decode cX8_changedIn 36 = .ok (.iload_n 3, 1) := by decide +kernel
theorem dX8_changedIn_37 : decode cX8_changedIn 37 = .ok (.invokevirtual 56, 3) := by decide +kernel
theorem dX8_changedIn_40 : decode cX8_changedIn 40 = .ok (.checkcast 16, 3) := by decide +kernel
theorem dX8_changedIn_43 : decode cX8_changedIn 43 = .ok (.iload_n 1, 1) := by decide +kernel
theorem dX8_changedIn_44 : decode cX8_changedIn 44 = .ok (.iconst 1, 1) := by decide +kernel
theorem dX8_changedIn_45 : decode cX8_changedIn 45 = .ok (.iadd, 1) := by decide +kernel
theorem dX8_changedIn_46 : decode cX8_changedIn 46 = .ok (.invokestatic 127, 3) := by decide +kernel
theorem dX8_changedIn_49 : decode cX8_changedIn 49 = .ok (.iadd, 1) := by decide +kernel
theorem dX8_changedIn_50 : decode cX8_changedIn 50 = .ok (.istore_n 2, 1) := by decide +kernel
theorem dX8_changedIn_51 : decode cX8_changedIn 51 = .ok (.iinc 3 1, 3) := by decide +kernel
theorem dX8_changedIn_54 : decode cX8_changedIn 54 = .ok (.goto (-40), 3) := by decide +kernel
theorem dX8_changedIn_57 : decode cX8_changedIn 57 = .ok (.iload_n 2, 1) := by decide +kernel
theorem dX8_changedIn_58 : decode cX8_changedIn 58 = .ok (.ireturn, 1) := by decide +kernel
theorem dX8_pageAt_0 : decode cX8_pageAt 0 = .ok (.iload_n 1, 1) := by decide +kernel
theorem dX8_pageAt_1 : decode cX8_pageAt 1 = .ok (.ifCond .ne 5, 3) := by decide +kernel
theorem dX8_pageAt_4 : decode cX8_pageAt 4 = .ok (.aload_n 0, 1) := by decide +kernel
theorem dX8_pageAt_5 : decode cX8_pageAt 5 = .ok (.areturn, 1) := by decide +kernel
theorem dX8_pageAt_6 : decode cX8_pageAt 6 = .ok (.iconst 1, 1) := by decide +kernel
theorem dX8_pageAt_7 : decode cX8_pageAt 7 = .ok (.istore_n 3, 1) := by decide +kernel
theorem dX8_pageAt_8 : decode cX8_pageAt 8 = .ok (.iconst 0, 1) := by decide +kernel
theorem dX8_pageAt_9 : decode cX8_pageAt 9 = .ok (.istore 4, 2) := by decide +kernel
theorem dX8_pageAt_11 : decode cX8_pageAt 11 = .ok (.iload_n 1, 1) := by decide +kernel
theorem dX8_pageAt_12 : decode cX8_pageAt 12 = .ok (.ifCond .le 74, 3) := by decide +kernel
theorem dX8_pageAt_15 : decode cX8_pageAt 15 = .ok (.iload 4, 2) := by decide +kernel
theorem dX8_pageAt_17 : decode cX8_pageAt 17 = .ok (.aload_n 0, 1) := by decide +kernel
theorem dX8_pageAt_18 : decode cX8_pageAt 18 = .ok (.getfield 53, 3) := by decide +kernel
theorem dX8_pageAt_21 : decode cX8_pageAt 21 = .ok (.invokevirtual 46, 3) := by decide +kernel
theorem dX8_pageAt_24 : decode cX8_pageAt 24 = .ok (.if_icmp .ge 62, 3) := by decide +kernel
theorem dX8_pageAt_27 : decode cX8_pageAt 27 = .ok (.iload_n 2, 1) := by decide +kernel
theorem dX8_pageAt_28 : decode cX8_pageAt 28 = .ok (.bipush 40, 2) := by decide +kernel
theorem dX8_pageAt_30 : decode cX8_pageAt 30 = .ok (.if_icmp .ge 56, 3) := by decide +kernel
theorem dX8_pageAt_33 : decode cX8_pageAt 33 = .ok (.aload_n 0, 1) := by decide +kernel
theorem dX8_pageAt_34 : decode cX8_pageAt 34 = .ok (.getfield 53, 3) := by decide +kernel
theorem dX8_pageAt_37 : decode cX8_pageAt 37 = .ok (.iload 4, 2) := by decide +kernel
theorem dX8_pageAt_39 : decode cX8_pageAt 39 = .ok (.invokevirtual 56, 3) := by decide +kernel
theorem dX8_pageAt_42 : decode cX8_pageAt 42 = .ok (.checkcast 16, 3) := by decide +kernel
theorem dX8_pageAt_45 : decode cX8_pageAt 45 = .ok (.astore 5, 2) := by decide +kernel
theorem dX8_pageAt_47 : decode cX8_pageAt 47 = .ok (.aload 5, 2) := by decide +kernel
theorem dX8_pageAt_49 : decode cX8_pageAt 49 = .ok (.iconst 0, 1) := by decide +kernel
theorem dX8_pageAt_50 : decode cX8_pageAt 50 = .ok (.invokestatic 120, 3) := by decide +kernel
theorem dX8_pageAt_53 : decode cX8_pageAt 53 = .ok (.istore 6, 2) := by decide +kernel
theorem dX8_pageAt_55 : decode cX8_pageAt 55 = .ok (.iload_n 1, 1) := by decide +kernel
theorem dX8_pageAt_56 : decode cX8_pageAt 56 = .ok (.iload_n 3, 1) := by decide +kernel
theorem dX8_pageAt_57 : decode cX8_pageAt 57 = .ok (.iload 6, 2) := by decide +kernel
theorem dX8_pageAt_59 : decode cX8_pageAt 59 = .ok (.iadd, 1) := by decide +kernel
theorem dX8_pageAt_60 : decode cX8_pageAt 60 = .ok (.if_icmp .ge 15, 3) := by decide +kernel
theorem dX8_pageAt_63 : decode cX8_pageAt 63 = .ok (.aload 5, 2) := by decide +kernel
theorem dX8_pageAt_65 : decode cX8_pageAt 65 = .ok (.iload_n 1, 1) := by decide +kernel
theorem dX8_pageAt_66 : decode cX8_pageAt 66 = .ok (.iload_n 3, 1) := by decide +kernel
theorem dX8_pageAt_67 : decode cX8_pageAt 67 = .ok (.isub, 1) := by decide +kernel
theorem dX8_pageAt_68 : decode cX8_pageAt 68 = .ok (.iload_n 2, 1) := by decide +kernel
theorem dX8_pageAt_69 : decode cX8_pageAt 69 = .ok (.iconst 1, 1) := by decide +kernel
theorem dX8_pageAt_70 : decode cX8_pageAt 70 = .ok (.iadd, 1) := by decide +kernel
theorem dX8_pageAt_71 : decode cX8_pageAt 71 = .ok (.invokestatic 130, 3) := by decide +kernel
theorem dX8_pageAt_74 : decode cX8_pageAt 74 = .ok (.areturn, 1) := by decide +kernel
theorem dX8_pageAt_75 : decode cX8_pageAt 75 = .ok (.iload_n 3, 1) := by decide +kernel
theorem dX8_pageAt_76 : decode cX8_pageAt 76 = .ok (.iload 6, 2) := by decide +kernel
theorem dX8_pageAt_78 : decode cX8_pageAt 78 = .ok (.iadd, 1) := by decide +kernel
theorem dX8_pageAt_79 : decode cX8_pageAt 79 = .ok (.istore_n 3, 1) := by decide +kernel
theorem dX8_pageAt_80 : decode cX8_pageAt 80 = .ok (.iinc 4 1, 3) := by decide +kernel
theorem dX8_pageAt_83 : decode cX8_pageAt 83 = .ok (.goto (-72), 3) := by decide +kernel
theorem dX8_pageAt_86 : decode cX8_pageAt 86 = .ok (.aconst_null, 1) := by decide +kernel
theorem dX8_pageAt_87 : decode cX8_pageAt 87 = .ok (.areturn, 1) := by decide +kernel
theorem dX8_rowIn_0 : decode cX8_rowIn 0 = .ok (.aload_n 0, 1) := by decide +kernel
theorem dX8_rowIn_1 : decode cX8_rowIn 1 = .ok (.invokevirtual 107, 3) := by decide +kernel
theorem dX8_rowIn_4 : decode cX8_rowIn 4 = .ok (.ifCond .ne 9, 3) := by decide +kernel
theorem dX8_rowIn_7 : decode cX8_rowIn 7 = .ok (.iload_n 3, 1) := by decide +kernel
theorem dX8_rowIn_8 : decode cX8_rowIn 8 = .ok (.bipush 40, 2) := by decide +kernel
theorem dX8_rowIn_10 : decode cX8_rowIn 10 = .ok (.if_icmp .lt 12, 3) := by decide +kernel
theorem dX8_rowIn_13 : decode cX8_rowIn 13 = .ok (.aload_n 0, 1) := by decide +kernel
theorem dX8_rowIn_14 : decode cX8_rowIn 14 = .ok (.getfield 134, 3) := by decide +kernel
theorem dX8_rowIn_17 : decode cX8_rowIn 17 = .ok (.lload_n 1, 1) := by decide +kernel
theorem dX8_rowIn_18 : decode cX8_rowIn 18 = .ok (.invokevirtual 138, 3) := by decide +kernel
theorem dX8_rowIn_21 : decode cX8_rowIn 21 = .ok (.areturn, 1) := by decide +kernel
theorem dX8_rowIn_22 : decode cX8_rowIn 22 = .ok (.aload_n 0, 1) := by decide +kernel
theorem dX8_rowIn_23 : decode cX8_rowIn 23 = .ok (.getfield 53, 3) := by decide +kernel
theorem dX8_rowIn_26 : decode cX8_rowIn 26 = .ok (.aload_n 0, 1) := by decide +kernel
theorem dX8_rowIn_27 : decode cX8_rowIn 27 = .ok (.lload_n 1, 1) := by decide +kernel
theorem dX8_rowIn_28 : decode cX8_rowIn 28 = .ok (.invokevirtual 116, 3) := by decide +kernel
theorem dX8_rowIn_31 : decode cX8_rowIn 31 = .ok (.invokevirtual 56, 3) := by decide +kernel
theorem dX8_rowIn_34 : decode cX8_rowIn 34 = .ok (.checkcast 16, 3) := by decide +kernel
theorem dX8_rowIn_37 : decode cX8_rowIn 37 = .ok (.lload_n 1, 1) := by decide +kernel
theorem dX8_rowIn_38 : decode cX8_rowIn 38 = .ok (.iload_n 3, 1) := by decide +kernel
theorem dX8_rowIn_39 : decode cX8_rowIn 39 = .ok (.iconst 1, 1) := by decide +kernel
theorem dX8_rowIn_40 : decode cX8_rowIn 40 = .ok (.iadd, 1) := by decide +kernel
theorem dX8_rowIn_41 : decode cX8_rowIn 41 = .ok (.invokestatic 142, 3) := by decide +kernel
theorem dX8_rowIn_44 : decode cX8_rowIn 44 = .ok (.astore 4, 2) := by decide +kernel
theorem dX8_rowIn_46 : decode cX8_rowIn 46 = .ok (.iconst 0, 1) := by decide +kernel
theorem dX8_rowIn_47 : decode cX8_rowIn 47 = .ok (.istore 5, 2) := by decide +kernel
theorem dX8_rowIn_49 : decode cX8_rowIn 49 = .ok (.iload 5, 2) := by decide +kernel
theorem dX8_rowIn_51 : decode cX8_rowIn 51 = .ok (.aload_n 0, 1) := by decide +kernel
theorem dX8_rowIn_52 : decode cX8_rowIn 52 = .ok (.getfield 15, 3) := by decide +kernel
theorem dX8_rowIn_55 : decode cX8_rowIn 55 = .ok (.invokevirtual 46, 3) := by decide +kernel
theorem dX8_rowIn_58 : decode cX8_rowIn 58 = .ok (.if_icmp .ge 51, 3) := by decide +kernel
theorem dX8_rowIn_61 : decode cX8_rowIn 61 = .ok (.aload_n 0, 1) := by decide +kernel
theorem dX8_rowIn_62 : decode cX8_rowIn 62 = .ok (.getfield 15, 3) := by decide +kernel
theorem dX8_rowIn_65 : decode cX8_rowIn 65 = .ok (.iload 5, 2) := by decide +kernel
theorem dX8_rowIn_67 : decode cX8_rowIn 67 = .ok (.invokevirtual 56, 3) := by decide +kernel
theorem dX8_rowIn_70 : decode cX8_rowIn 70 = .ok (.checkcast 110, 3) := by decide +kernel
theorem dX8_rowIn_73 : decode cX8_rowIn 73 = .ok (.astore 6, 2) := by decide +kernel
theorem dX8_rowIn_75 : decode cX8_rowIn 75 = .ok (.aload 6, 2) := by decide +kernel
theorem dX8_rowIn_77 : decode cX8_rowIn 77 = .ok (.lload_n 1, 1) := by decide +kernel
theorem dX8_rowIn_78 : decode cX8_rowIn 78 = .ok (.invokevirtual 112, 3) := by decide +kernel
theorem dX8_rowIn_81 : decode cX8_rowIn 81 = .ok (.ifCond .eq 22, 3) := by decide +kernel
theorem dX8_rowIn_84 : decode cX8_rowIn 84 = .ok (.aload 6, 2) := by decide +kernel
theorem dX8_rowIn_86 : decode cX8_rowIn 86 = .ok (.aload 4, 2) := by decide +kernel
theorem dX8_rowIn_88 : decode cX8_rowIn 88 = .ok (.invokevirtual 146, 3) := by decide +kernel
theorem dX8_rowIn_91 : decode cX8_rowIn 91 = .ok (.ifCond .eq 12, 3) := by decide +kernel
theorem dX8_rowIn_94 : decode cX8_rowIn 94 = .ok (.aload 6, 2) := by decide +kernel
theorem dX8_rowIn_96 : decode cX8_rowIn 96 = .ok (.aload 4, 2) := by decide +kernel
theorem dX8_rowIn_98 : decode cX8_rowIn 98 = .ok (.invokevirtual 150, 3) := by decide +kernel
theorem dX8_rowIn_101 : decode cX8_rowIn 101 = .ok (.astore 4, 2) := by decide +kernel
theorem dX8_rowIn_103 : decode cX8_rowIn 103 = .ok (.iinc 5 1, 3) := by decide +kernel
theorem dX8_rowIn_106 : decode cX8_rowIn 106 = .ok (.goto (-57), 3) := by decide +kernel
theorem dX8_rowIn_109 : decode cX8_rowIn 109 = .ok (.aload 4, 2) := by decide +kernel
theorem dX8_rowIn_111 : decode cX8_rowIn 111 = .ok (.areturn, 1) := by decide +kernel
theorem dX8_gather_0 : decode cX8_gather 0 = .ok (.iconst 0, 1) := by decide +kernel
theorem dX8_gather_1 : decode cX8_gather 1 = .ok (.istore_n 3, 1) := by decide +kernel
theorem dX8_gather_2 : decode cX8_gather 2 = .ok (.iload_n 3, 1) := by decide +kernel
theorem dX8_gather_3 : decode cX8_gather 3 = .ok (.aload_n 0, 1) := by decide +kernel
theorem dX8_gather_4 : decode cX8_gather 4 = .ok (.getfield 134, 3) := by decide +kernel
theorem dX8_gather_7 : decode cX8_gather 7 = .ok (.getfield 154, 3) := by decide +kernel
theorem dX8_gather_10 : decode cX8_gather 10 = .ok (.invokevirtual 46, 3) := by decide +kernel
theorem dX8_gather_13 : decode cX8_gather 13 = .ok (.if_icmp .ge 31, 3) := by decide +kernel
theorem dX8_gather_16 : decode cX8_gather 16 = .ok (.aload_n 1, 1) := by decide +kernel
theorem dX8_gather_17 : decode cX8_gather 17 = .ok (.getfield 154, 3) := by decide +kernel
theorem dX8_gather_20 : decode cX8_gather 20 = .ok (.aload_n 0, 1) := by decide +kernel
theorem dX8_gather_21 : decode cX8_gather 21 = .ok (.getfield 134, 3) := by decide +kernel
theorem dX8_gather_24 : decode cX8_gather 24 = .ok (.getfield 154, 3) := by decide +kernel
theorem dX8_gather_27 : decode cX8_gather 27 = .ok (.iload_n 3, 1) := by decide +kernel
theorem dX8_gather_28 : decode cX8_gather 28 = .ok (.invokevirtual 56, 3) := by decide +kernel
theorem dX8_gather_31 : decode cX8_gather 31 = .ok (.checkcast 157, 3) := by decide +kernel
theorem dX8_gather_34 : decode cX8_gather 34 = .ok (.invokevirtual 96, 3) := by decide +kernel
theorem dX8_gather_37 : decode cX8_gather 37 = .ok (.pop, 1) := by decide +kernel
theorem dX8_gather_38 : decode cX8_gather 38 = .ok (.iinc 3 1, 3) := by decide +kernel
theorem dX8_gather_41 : decode cX8_gather 41 = .ok (.goto (-39), 3) := by decide +kernel
theorem dX8_gather_44 : decode cX8_gather 44 = .ok (.iconst 0, 1) := by decide +kernel
theorem dX8_gather_45 : decode cX8_gather 45 = .ok (.istore_n 3, 1) := by decide +kernel
theorem dX8_gather_46 : decode cX8_gather 46 = .ok (.iload_n 3, 1) := by decide +kernel
theorem dX8_gather_47 : decode cX8_gather 47 = .ok (.aload_n 0, 1) := by decide +kernel
theorem dX8_gather_48 : decode cX8_gather 48 = .ok (.getfield 53, 3) := by decide +kernel
theorem dX8_gather_51 : decode cX8_gather 51 = .ok (.invokevirtual 46, 3) := by decide +kernel
theorem dX8_gather_54 : decode cX8_gather 54 = .ok (.if_icmp .ge 33, 3) := by decide +kernel
theorem dX8_gather_57 : decode cX8_gather 57 = .ok (.iload_n 2, 1) := by decide +kernel
theorem dX8_gather_58 : decode cX8_gather 58 = .ok (.bipush 40, 2) := by decide +kernel
theorem dX8_gather_60 : decode cX8_gather 60 = .ok (.if_icmp .ge 27, 3) := by decide +kernel
theorem dX8_gather_63 : decode cX8_gather 63 = .ok (.aload_n 0, 1) := by decide +kernel
theorem dX8_gather_64 : decode cX8_gather 64 = .ok (.getfield 53, 3) := by decide +kernel
theorem dX8_gather_67 : decode cX8_gather 67 = .ok (.iload_n 3, 1) := by decide +kernel
theorem dX8_gather_68 : decode cX8_gather 68 = .ok (.invokevirtual 56, 3) := by decide +kernel
theorem dX8_gather_71 : decode cX8_gather 71 = .ok (.checkcast 16, 3) := by decide +kernel
theorem dX8_gather_74 : decode cX8_gather 74 = .ok (.aload_n 1, 1) := by decide +kernel
theorem dX8_gather_75 : decode cX8_gather 75 = .ok (.iload_n 2, 1) := by decide +kernel
theorem dX8_gather_76 : decode cX8_gather 76 = .ok (.iconst 1, 1) := by decide +kernel
theorem dX8_gather_77 : decode cX8_gather 77 = .ok (.iadd, 1) := by decide +kernel
theorem dX8_gather_78 : decode cX8_gather 78 = .ok (.invokestatic 159, 3) := by decide +kernel
theorem dX8_gather_81 : decode cX8_gather 81 = .ok (.iinc 3 1, 3) := by decide +kernel
theorem dX8_gather_84 : decode cX8_gather 84 = .ok (.goto (-38), 3) := by decide +kernel
theorem dX8_gather_87 : decode cX8_gather 87 = .ok (.iconst 0, 1) := by decide +kernel
theorem dX8_gather_88 : decode cX8_gather 88 = .ok (.istore_n 3, 1) := by decide +kernel
theorem dX8_gather_89 : decode cX8_gather 89 = .ok (.iload_n 3, 1) := by decide +kernel
theorem dX8_gather_90 : decode cX8_gather 90 = .ok (.aload_n 0, 1) := by decide +kernel
theorem dX8_gather_91 : decode cX8_gather 91 = .ok (.getfield 15, 3) := by decide +kernel
theorem dX8_gather_94 : decode cX8_gather 94 = .ok (.invokevirtual 46, 3) := by decide +kernel
theorem dX8_gather_97 : decode cX8_gather 97 = .ok (.if_icmp .ge 25, 3) := by decide +kernel
theorem dX8_gather_100 : decode cX8_gather 100 = .ok (.aload_n 1, 1) := by decide +kernel
theorem dX8_gather_101 : decode cX8_gather 101 = .ok (.aload_n 0, 1) := by decide +kernel
theorem dX8_gather_102 : decode cX8_gather 102 = .ok (.getfield 15, 3) := by decide +kernel
theorem dX8_gather_105 : decode cX8_gather 105 = .ok (.iload_n 3, 1) := by decide +kernel
theorem dX8_gather_106 : decode cX8_gather 106 = .ok (.invokevirtual 56, 3) := by decide +kernel
theorem dX8_gather_109 : decode cX8_gather 109 = .ok (.checkcast 110, 3) := by decide +kernel
theorem dX8_gather_112 : decode cX8_gather 112 = .ok (.invokevirtual 163, 3) := by decide +kernel
theorem dX8_gather_115 : decode cX8_gather 115 = .ok (.pop, 1) := by decide +kernel
theorem dX8_gather_116 : decode cX8_gather 116 = .ok (.iinc 3 1, 3) := by decide +kernel
theorem dX8_gather_119 : decode cX8_gather 119 = .ok (.goto (-30), 3) := by decide +kernel
theorem dX8_gather_122 : decode cX8_gather 122 = .ok (.return_, 1) := by decide +kernel
theorem dX9_init_0 : decode cX9_init 0 = .ok (.aload_n 0, 1) := by decide +kernel
theorem dX9_init_1 : decode cX9_init 1 = .ok (.invokespecial 1, 3) := by decide +kernel
theorem dX9_init_4 : decode cX9_init 4 = .ok (.aload_n 0, 1) := by decide +kernel
theorem dX9_init_5 : decode cX9_init 5 = .ok (.new 7, 3) := by decide +kernel
theorem dX9_init_8 : decode cX9_init 8 = .ok (.dup, 1) := by decide +kernel
theorem dX9_init_9 : decode cX9_init 9 = .ok (.invokespecial 9, 3) := by decide +kernel
theorem dX9_init_12 : decode cX9_init 12 = .ok (.putfield 10, 3) := by decide +kernel
theorem dX9_init_15 : decode cX9_init 15 = .ok (.aload_n 0, 1) := by decide +kernel
theorem dX9_init_16 : decode cX9_init 16 = .ok (.new 16, 3) := by decide +kernel
theorem dX9_init_19 : decode cX9_init 19 = .ok (.dup, 1) := by decide +kernel
theorem dX9_init_20 : decode cX9_init 20 = .ok (.invokespecial 18, 3) := by decide +kernel
theorem dX9_init_23 : decode cX9_init 23 = .ok (.putfield 19, 3) := by decide +kernel
theorem dX9_init_26 : decode cX9_init 26 = .ok (.aload_n 0, 1) := by decide +kernel
theorem dX9_init_27 : decode cX9_init 27 = .ok (.new 23, 3) := by decide +kernel
theorem dX9_init_30 : decode cX9_init 30 = .ok (.dup, 1) := by decide +kernel
theorem dX9_init_31 : decode cX9_init 31 = .ok (.invokespecial 25, 3) := by decide +kernel
theorem dX9_init_34 : decode cX9_init 34 = .ok (.putfield 26, 3) := by decide +kernel
theorem dX9_init_37 : decode cX9_init 37 = .ok (.aload_n 0, 1) := by decide +kernel
theorem dX9_init_38 : decode cX9_init 38 = .ok (.new 30, 3) := by decide +kernel
theorem dX9_init_41 : decode cX9_init 41 = .ok (.dup, 1) := by decide +kernel
theorem dX9_init_42 : decode cX9_init 42 = .ok (.invokespecial 32, 3) := by decide +kernel
theorem dX9_init_45 : decode cX9_init 45 = .ok (.putfield 33, 3) := by decide +kernel
theorem dX9_init_48 : decode cX9_init 48 = .ok (.aload_n 0, 1) := by decide +kernel
theorem dX9_init_49 : decode cX9_init 49 = .ok (.new 37, 3) := by decide +kernel
theorem dX9_init_52 : decode cX9_init 52 = .ok (.dup, 1) := by decide +kernel
theorem dX9_init_53 : decode cX9_init 53 = .ok (.invokespecial 39, 3) := by decide +kernel
theorem dX9_init_56 : decode cX9_init 56 = .ok (.putfield 40, 3) := by decide +kernel
theorem dX9_init_59 : decode cX9_init 59 = .ok (.aload_n 0, 1) := by decide +kernel
theorem dX9_init_60 : decode cX9_init 60 = .ok (.invokevirtual 44, 3) := by decide +kernel
theorem dX9_init_63 : decode cX9_init 63 = .ok (.return_, 1) := by decide +kernel
theorem dX9_feed_0 : decode cX9_feed 0 = .ok (.iload_n 3, 1) := by decide +kernel
theorem dX9_feed_1 : decode cX9_feed 1 = .ok (.iconst 1, 1) := by decide +kernel
theorem dX9_feed_2 : decode cX9_feed 2 = .ok (.if_icmp .lt 23, 3) := by decide +kernel
theorem dX9_feed_5 : decode cX9_feed 5 = .ok (.iload_n 3, 1) := by decide +kernel
theorem dX9_feed_6 : decode cX9_feed 6 = .ok (.bipush 8, 2) := by decide +kernel
theorem dX9_feed_8 : decode cX9_feed 8 = .ok (.if_icmp .gt 17, 3) := by decide +kernel
theorem dX9_feed_11 : decode cX9_feed 11 = .ok (.aload_n 0, 1) := by decide +kernel
theorem dX9_feed_12 : decode cX9_feed 12 = .ok (.getfield 10, 3) := by decide +kernel
theorem dX9_feed_15 : decode cX9_feed 15 = .ok (.getfield 47, 3) := by decide +kernel
theorem dX9_feed_18 : decode cX9_feed 18 = .ok (.iload_n 3, 1) := by decide +kernel
theorem dX9_feed_19 : decode cX9_feed 19 = .ok (.iadd, 1) := by decide +kernel
theorem dX9_feed_20 : decode cX9_feed 20 = .ok (.bipush 40, 2) := by decide +kernel
theorem dX9_feed_22 : decode cX9_feed 22 = .ok (.if_icmp .le 6, 3) := by decide +kernel
theorem dX9_feed_25 : decode cX9_feed 25 = .ok (.bipush (-2), 2) := by decide +kernel
theorem dX9_feed_27 : decode cX9_feed 27 = .ok (.ireturn, 1) := by decide +kernel
theorem dX9_feed_28 : decode cX9_feed 28 = .ok (.aload_n 0, 1) := by decide +kernel
theorem dX9_feed_29 : decode cX9_feed 29 = .ok (.getfield 10, 3) := by decide +kernel
theorem dX9_feed_32 : decode cX9_feed 32 = .ok (.lload_n 1, 1) := by decide +kernel
theorem dX9_feed_33 : decode cX9_feed 33 = .ok (.iload_n 3, 1) := by decide +kernel
theorem dX9_feed_34 : decode cX9_feed 34 = .ok (.invokevirtual 51, 3) := by decide +kernel
theorem dX9_feed_37 : decode cX9_feed 37 = .ok (.aload_n 0, 1) := by decide +kernel
theorem dX9_feed_38 : decode cX9_feed 38 = .ok (.getfield 10, 3) := by decide +kernel
theorem dX9_feed_41 : decode cX9_feed 41 = .ok (.getfield 47, 3) := by decide +kernel
theorem dX9_feed_44 : decode cX9_feed 44 = .ok (.ireturn, 1) := by decide +kernel
theorem dX9_cut_0 : decode cX9_cut 0 = .ok (.iload_n 1, 1) := by decide +kernel
theorem dX9_cut_1 : decode cX9_cut 1 = .ok (.ifCond .lt 14, 3) := by decide +kernel
theorem dX9_cut_4 : decode cX9_cut 4 = .ok (.iload_n 1, 1) := by decide +kernel
theorem dX9_cut_5 : decode cX9_cut 5 = .ok (.aload_n 0, 1) := by decide +kernel
theorem dX9_cut_6 : decode cX9_cut 6 = .ok (.getfield 10, 3) := by decide +kernel
theorem dX9_cut_9 : decode cX9_cut 9 = .ok (.getfield 47, 3) := by decide +kernel
theorem dX9_cut_12 : decode cX9_cut 12 = .ok (.if_icmp .le 6, 3) := by decide +kernel
theorem dX9_cut_15 : decode cX9_cut 15 = .ok (.bipush (-2), 2) := by decide +kernel
theorem dX9_cut_17 : decode cX9_cut 17 = .ok (.ireturn, 1) := by decide +kernel
theorem dX9_cut_18 : decode cX9_cut 18 = .ok (.aload_n 0, 1) := by decide +kernel
theorem dX9_cut_19 : decode cX9_cut 19 = .ok (.getfield 10, 3) := by decide +kernel
theorem dX9_cut_22 : decode cX9_cut 22 = .ok (.iload_n 1, 1) := by decide +kernel
theorem dX9_cut_23 : decode cX9_cut 23 = .ok (.putfield 47, 3) := by decide +kernel
theorem dX9_cut_26 : decode cX9_cut 26 = .ok (.iload_n 1, 1) := by decide +kernel
theorem dX9_cut_27 : decode cX9_cut 27 = .ok (.ireturn, 1) := by decide +kernel
theorem dX9_byteAt_0 : decode cX9_byteAt 0 = .ok (.iload_n 1, 1) := by decide +kernel
theorem dX9_byteAt_1 : decode cX9_byteAt 1 = .ok (.ifCond .lt 14, 3) := by decide +kernel
theorem dX9_byteAt_4 : decode cX9_byteAt 4 = .ok (.iload_n 1, 1) := by decide +kernel
theorem dX9_byteAt_5 : decode cX9_byteAt 5 = .ok (.aload_n 0, 1) := by decide +kernel
theorem dX9_byteAt_6 : decode cX9_byteAt 6 = .ok (.getfield 10, 3) := by decide +kernel
theorem dX9_byteAt_9 : decode cX9_byteAt 9 = .ok (.getfield 47, 3) := by decide +kernel
theorem dX9_byteAt_12 : decode cX9_byteAt 12 = .ok (.if_icmp .lt 5, 3) := by decide +kernel
theorem dX9_byteAt_15 : decode cX9_byteAt 15 = .ok (.iconst (-1), 1) := by decide +kernel
theorem dX9_byteAt_16 : decode cX9_byteAt 16 = .ok (.ireturn, 1) := by decide +kernel
theorem dX9_byteAt_17 : decode cX9_byteAt 17 = .ok (.aload_n 0, 1) := by decide +kernel
theorem dX9_byteAt_18 : decode cX9_byteAt 18 = .ok (.getfield 10, 3) := by decide +kernel
theorem dX9_byteAt_21 : decode cX9_byteAt 21 = .ok (.getfield 55, 3) := by decide +kernel
theorem dX9_byteAt_24 : decode cX9_byteAt 24 = .ok (.iload_n 1, 1) := by decide +kernel
theorem dX9_byteAt_25 : decode cX9_byteAt 25 = .ok (.baload, 1) := by decide +kernel
theorem dX9_byteAt_26 : decode cX9_byteAt 26 = .ok (.sipush 255, 3) := by decide +kernel
theorem dX9_byteAt_29 : decode cX9_byteAt 29 = .ok (.iand, 1) := by decide +kernel
theorem dX9_byteAt_30 : decode cX9_byteAt 30 = .ok (.ireturn, 1) := by decide +kernel
theorem dX9_put_0 : decode cX9_put 0 = .ok (.aload_n 0, 1) := by decide +kernel
theorem dX9_put_1 : decode cX9_put 1 = .ok (.aload_n 0, 1) := by decide +kernel
theorem dX9_put_2 : decode cX9_put 2 = .ok (.getfield 10, 3) := by decide +kernel
theorem dX9_put_5 : decode cX9_put 5 = .ok (.getfield 47, 3) := by decide +kernel
theorem dX9_put_8 : decode cX9_put 8 = .ok (.bipush 20, 2) := by decide +kernel
theorem dX9_put_10 : decode cX9_put 10 = .ok (.if_icmp .le 7, 3) := by decide +kernel
theorem dX9_put_13 : decode cX9_put 13 = .ok (.iconst 1, 1) := by decide +kernel
theorem dX9_put_14 : decode cX9_put 14 = .ok (.goto 4, 3) := by decide +kernel
theorem dX9_put_17 : decode cX9_put 17 = .ok (.iconst 0, 1) := by decide +kernel
theorem dX9_put_18 : decode cX9_put 18 = .ok (.invokevirtual 59, 3) := by decide +kernel
theorem dX9_put_21 : decode cX9_put 21 = .ok (.istore_n 3, 1) := by decide +kernel
theorem dX9_put_22 : decode cX9_put 22 = .ok (.iload_n 3, 1) := by decide +kernel
theorem dX9_put_23 : decode cX9_put 23 = .ok (.ifCond .eq 5, 3) := by decide +kernel
theorem dX9_put_26 : decode cX9_put 26 = .ok (.iload_n 3, 1) := by decide +kernel
theorem dX9_put_27 : decode cX9_put 27 = .ok (.ireturn, 1) := by decide +kernel
theorem dX9_put_28 : decode cX9_put 28 = .ok (.aload_n 0, 1) := by decide +kernel
theorem dX9_put_29 : decode cX9_put 29 = .ok (.getfield 33, 3) := by decide +kernel
theorem dX9_put_32 : decode cX9_put 32 = .ok (.lload_n 1, 1) := by decide +kernel
theorem dX9_put_33 : decode cX9_put 33 = .ok (.invokevirtual 63, 3) := by decide +kernel
theorem dX9_put_36 : decode cX9_put 36 = .ok (.ifnonnull 7, 3) := by decide +kernel
theorem dX9_put_39 : decode cX9_put 39 = .ok (.iconst 0, 1) := by decide +kernel
theorem dX9_put_40 : decode cX9_put 40 = .ok (.goto 4, 3) := by decide +kernel
theorem dX9_put_43 : decode cX9_put 43 = .ok (.iconst 1, 1) := by decide +kernel
theorem dX9_put_44 : decode cX9_put 44 = .ok (.istore 4, 2) := by decide +kernel
theorem dX9_put_46 : decode cX9_put 46 = .ok (.aload_n 0, 1) := by decide +kernel
theorem dX9_put_47 : decode cX9_put 47 = .ok (.iconst 1, 1) := by decide +kernel
theorem dX9_put_48 : decode cX9_put 48 = .ok (.lload_n 1, 1) := by decide +kernel
theorem dX9_put_49 : decode cX9_put 49 = .ok (.lload_n 1, 1) := by decide +kernel
theorem dX9_put_50 : decode cX9_put 50 = .ok (.iconst 0, 1) := by decide +kernel
theorem dX9_put_51 : decode cX9_put 51 = .ok (.invokevirtual 67, 3) := by decide +kernel
theorem dX9_put_54 : decode cX9_put 54 = .ok (.pop, 1) := by decide +kernel
theorem dX9_put_55 : decode cX9_put 55 = .ok (.iload 4, 2) := by decide +kernel
theorem dX9_put_57 : decode cX9_put 57 = .ok (.ireturn, 1) := by decide +kernel
theorem dX9_append_0 : decode cX9_append 0 = .ok (.aload_n 0, 1) := by decide +kernel
theorem dX9_append_1 : decode cX9_append 1 = .ok (.aload_n 0, 1) := by decide +kernel
theorem dX9_append_2 : decode cX9_append 2 = .ok (.getfield 10, 3) := by decide +kernel
theorem dX9_append_5 : decode cX9_append 5 = .ok (.getfield 47, 3) := by decide +kernel
theorem dX9_append_8 : decode cX9_append 8 = .ok (.bipush 20, 2) := by decide +kernel
theorem dX9_append_10 : decode cX9_append 10 = .ok (.if_icmp .le 7, 3) := by decide +kernel
theorem dX9_append_13 : decode cX9_append 13 = .ok (.iconst 1, 1) := by decide +kernel
theorem dX9_append_14 : decode cX9_append 14 = .ok (.goto 4, 3) := by decide +kernel
theorem dX9_append_17 : decode cX9_append 17 = .ok (.iconst 0, 1) := by decide +kernel
theorem dX9_append_18 : decode cX9_append 18 = .ok (.invokevirtual 59, 3) := by decide +kernel
theorem dX9_append_21 : decode cX9_append 21 = .ok (.istore_n 3, 1) := by decide +kernel
theorem dX9_append_22 : decode cX9_append 22 = .ok (.iload_n 3, 1) := by decide +kernel
theorem dX9_append_23 : decode cX9_append 23 = .ok (.ifCond .eq 5, 3) := by decide +kernel
theorem dX9_append_26 : decode cX9_append 26 = .ok (.iload_n 3, 1) := by decide +kernel
theorem dX9_append_27 : decode cX9_append 27 = .ok (.ireturn, 1) := by decide +kernel
theorem dX9_append_28 : decode cX9_append 28 = .ok (.aload_n 0, 1) := by decide +kernel
theorem dX9_append_29 : decode cX9_append 29 = .ok (.iconst 2, 1) := by decide +kernel
theorem dX9_append_30 : decode cX9_append 30 = .ok (.lload_n 1, 1) := by decide +kernel
theorem dX9_append_31 : decode cX9_append 31 = .ok (.lload_n 1, 1) := by decide +kernel
theorem dX9_append_32 : decode cX9_append 32 = .ok (.iconst 0, 1) := by decide +kernel
theorem dX9_append_33 : decode cX9_append 33 = .ok (.invokevirtual 67, 3) := by decide +kernel
theorem dX9_append_36 : decode cX9_append 36 = .ok (.pop, 1) := by decide +kernel
theorem dX9_append_37 : decode cX9_append 37 = .ok (.aload_n 0, 1) := by decide +kernel
theorem dX9_append_38 : decode cX9_append 38 = .ok (.getfield 33, 3) := by decide +kernel
theorem dX9_append_41 : decode cX9_append 41 = .ok (.lload_n 1, 1) := by decide +kernel
theorem dX9_append_42 : decode cX9_append 42 = .ok (.invokevirtual 63, 3) := by decide +kernel
theorem dX9_append_45 : decode cX9_append 45 = .ok (.astore 4, 2) := by decide +kernel
theorem dX9_append_47 : decode cX9_append 47 = .ok (.aload 4, 2) := by decide +kernel
theorem dX9_append_49 : decode cX9_append 49 = .ok (.ifnonnull 7, 3) := by decide +kernel
theorem dX9_append_52 : decode cX9_append 52 = .ok (.iconst 0, 1) := by decide +kernel
theorem dX9_append_53 : decode cX9_append 53 = .ok (.goto 6, 3) := by decide +kernel
theorem dX9_append_56 : decode cX9_append 56 = .ok (.aload 4, 2) := by decide +kernel
theorem dX9_append_58 : decode cX9_append 58 = .ok (.arraylength, 1) := by decide +kernel
theorem dX9_append_59 : decode cX9_append 59 = .ok (.ireturn, 1) := by decide +kernel
theorem dX9_swap_0 : decode cX9_swap 0 = .ok (.iload_n 3, 1) := by decide +kernel
theorem dX9_swap_1 : decode cX9_swap 1 = .ok (.ifCond .lt 34, 3) := by decide +kernel
theorem dX9_swap_4 : decode cX9_swap 4 = .ok (.iload_n 3, 1) := by decide +kernel
theorem dX9_swap_5 : decode cX9_swap 5 = .ok (.bipush 20, 2) := by decide +kernel
theorem dX9_swap_7 : decode cX9_swap 7 = .ok (.if_icmp .gt 28, 3) := by decide +kernel
theorem dX9_swap_10 : decode cX9_swap 10 = .ok (.iload_n 3, 1) := by decide +kernel
theorem dX9_swap_11 : decode cX9_swap 11 = .ok (.aload_n 0, 1) := by decide +kernel
theorem dX9_swap_12 : decode cX9_swap 12 = .ok (.getfield 10, 3) := by decide +kernel
theorem dX9_swap_15 : decode cX9_swap 15 = .ok (.getfield 47, 3) := by decide +kernel
theorem dX9_swap_18 : decode cX9_swap 18 = .ok (.if_icmp .gt 17, 3) := by decide +kernel
theorem dX9_swap_21 : decode cX9_swap 21 = .ok (.aload_n 0, 1) := by decide +kernel
theorem dX9_swap_22 : decode cX9_swap 22 = .ok (.getfield 10, 3) := by decide +kernel
theorem dX9_swap_25 : decode cX9_swap 25 = .ok (.getfield 47, 3) := by decide +kernel
theorem dX9_swap_28 : decode cX9_swap 28 = .ok (.iload_n 3, 1) := by decide +kernel
theorem dX9_swap_29 : decode cX9_swap 29 = .ok (.isub, 1) := by decide +kernel
theorem dX9_swap_30 : decode cX9_swap 30 = .ok (.bipush 20, 2) := by decide +kernel
theorem dX9_swap_32 : decode cX9_swap 32 = .ok (.if_icmp .le 7, 3) := by decide +kernel
theorem dX9_swap_35 : decode cX9_swap 35 = .ok (.iconst 1, 1) := by decide +kernel
theorem dX9_swap_36 : decode cX9_swap 36 = .ok (.goto 4, 3) := by decide +kernel
theorem dX9_swap_39 : decode cX9_swap 39 = .ok (.iconst 0, 1) := by decide +kernel
theorem dX9_swap_40 : decode cX9_swap 40 = .ok (.istore 4, 2) := by decide +kernel
theorem dX9_swap_42 : decode cX9_swap 42 = .ok (.aload_n 0, 1) := by decide +kernel
theorem dX9_swap_43 : decode cX9_swap 43 = .ok (.iload 4, 2) := by decide +kernel
theorem dX9_swap_45 : decode cX9_swap 45 = .ok (.invokevirtual 59, 3) := by decide +kernel
theorem dX9_swap_48 : decode cX9_swap 48 = .ok (.istore 5, 2) := by decide +kernel
theorem dX9_swap_50 : decode cX9_swap 50 = .ok (.iload 5, 2) := by decide +kernel
theorem dX9_swap_52 : decode cX9_swap 52 = .ok (.ifCond .eq 6, 3) := by decide +kernel
theorem dX9_swap_55 : decode cX9_swap 55 = .ok (.iload 5, 2) := by decide +kernel
theorem dX9_swap_57 : decode cX9_swap 57 = .ok (.ireturn, 1) := by decide +kernel
theorem dX9_swap_58 : decode cX9_swap 58 = .ok (.aload_n 0, 1) := by decide +kernel
theorem dX9_swap_59 : decode cX9_swap 59 = .ok (.iconst 3, 1) := by decide +kernel
theorem dX9_swap_60 : decode cX9_swap 60 = .ok (.lload_n 1, 1) := by decide +kernel
theorem dX9_swap_61 : decode cX9_swap 61 = .ok (.lload_n 1, 1) := by decide +kernel
theorem dX9_swap_62 : decode cX9_swap 62 = .ok (.iload_n 3, 1) := by decide +kernel
theorem dX9_swap_63 : decode cX9_swap 63 = .ok (.invokevirtual 67, 3) := by decide +kernel
theorem dX9_swap_66 : decode cX9_swap 66 = .ok (.ireturn, 1) := by decide +kernel
theorem dX9_drop_0 : decode cX9_drop 0 = .ok (.aload_n 0, 1) := by decide +kernel
theorem dX9_drop_1 : decode cX9_drop 1 = .ok (.iconst 0, 1) := by decide +kernel
theorem dX9_drop_2 : decode cX9_drop 2 = .ok (.invokevirtual 59, 3) := by decide +kernel
theorem dX9_drop_5 : decode cX9_drop 5 = .ok (.istore_n 3, 1) := by decide +kernel
theorem dX9_drop_6 : decode cX9_drop 6 = .ok (.iload_n 3, 1) := by decide +kernel
theorem dX9_drop_7 : decode cX9_drop 7 = .ok (.ifCond .eq 5, 3) := by decide +kernel
theorem dX9_drop_10 : decode cX9_drop 10 = .ok (.iload_n 3, 1) := by decide +kernel
theorem dX9_drop_11 : decode cX9_drop 11 = .ok (.ireturn, 1) := by decide +kernel
theorem dX9_drop_12 : decode cX9_drop 12 = .ok (.aload_n 0, 1) := by decide +kernel
theorem dX9_drop_13 : decode cX9_drop 13 = .ok (.iconst 4, 1) := by decide +kernel
theorem dX9_drop_14 : decode cX9_drop 14 = .ok (.lload_n 1, 1) := by decide +kernel
theorem dX9_drop_15 : decode cX9_drop 15 = .ok (.lload_n 1, 1) := by decide +kernel
theorem dX9_drop_16 : decode cX9_drop 16 = .ok (.iconst 0, 1) := by decide +kernel
theorem dX9_drop_17 : decode cX9_drop 17 = .ok (.invokevirtual 67, 3) := by decide +kernel
theorem dX9_drop_20 : decode cX9_drop 20 = .ok (.ireturn, 1) := by decide +kernel
theorem dX9_sweep_0 : decode cX9_sweep 0 = .ok (.aload_n 0, 1) := by decide +kernel
theorem dX9_sweep_1 : decode cX9_sweep 1 = .ok (.lload_n 3, 1) := by decide +kernel
theorem dX9_sweep_2 : decode cX9_sweep 2 = .ok (.lload_n 1, 1) := by decide +kernel
theorem dX9_sweep_3 : decode cX9_sweep 3 = .ok (.lcmp, 1) := by decide +kernel
theorem dX9_sweep_4 : decode cX9_sweep 4 = .ok (.ifCond .ge 7, 3) := by decide +kernel
theorem dX9_sweep_7 : decode cX9_sweep 7 = .ok (.iconst 1, 1) := by decide +kernel
theorem dX9_sweep_8 : decode cX9_sweep 8 = .ok (.goto 4, 3) := by decide +kernel
theorem dX9_sweep_11 : decode cX9_sweep 11 = .ok (.iconst 0, 1) := by decide +kernel
theorem dX9_sweep_12 : decode cX9_sweep 12 = .ok (.invokevirtual 59, 3) := by decide +kernel
theorem dX9_sweep_15 : decode cX9_sweep 15 = .ok (.istore 5, 2) := by decide +kernel
theorem dX9_sweep_17 : decode cX9_sweep 17 = .ok (.iload 5, 2) := by decide +kernel
theorem dX9_sweep_19 : decode cX9_sweep 19 = .ok (.ifCond .eq 6, 3) := by decide +kernel
theorem dX9_sweep_22 : decode cX9_sweep 22 = .ok (.iload 5, 2) := by decide +kernel
theorem dX9_sweep_24 : decode cX9_sweep 24 = .ok (.ireturn, 1) := by decide +kernel
theorem dX9_sweep_25 : decode cX9_sweep 25 = .ok (.aload_n 0, 1) := by decide +kernel
theorem dX9_sweep_26 : decode cX9_sweep 26 = .ok (.iconst 5, 1) := by decide +kernel
theorem dX9_sweep_27 : decode cX9_sweep 27 = .ok (.lload_n 1, 1) := by decide +kernel
theorem dX9_sweep_28 : decode cX9_sweep 28 = .ok (.lload_n 3, 1) := by decide +kernel
theorem dX9_sweep_29 : decode cX9_sweep 29 = .ok (.iconst 0, 1) := by decide +kernel
theorem dX9_sweep_30 : decode cX9_sweep 30 = .ok (.invokevirtual 67, 3) := by decide +kernel
theorem dX9_sweep_33 : decode cX9_sweep 33 = .ok (.ireturn, 1) := by decide +kernel
theorem dX9_get_0 : decode cX9_get 0 = .ok (.aload_n 0, 1) := by decide +kernel
theorem dX9_get_1 : decode cX9_get 1 = .ok (.getfield 71, 3) := by decide +kernel
theorem dX9_get_4 : decode cX9_get 4 = .ok (.ifCond .eq 6, 3) := by decide +kernel
theorem dX9_get_7 : decode cX9_get 7 = .ok (.bipush (-4), 2) := by decide +kernel
theorem dX9_get_9 : decode cX9_get 9 = .ok (.ireturn, 1) := by decide +kernel
theorem dX9_get_10 : decode cX9_get 10 = .ok (.aload_n 0, 1) := by decide +kernel
theorem dX9_get_11 : decode cX9_get 11 = .ok (.aload_n 0, 1) := by decide +kernel
theorem dX9_get_12 : decode cX9_get 12 = .ok (.getfield 33, 3) := by decide +kernel
theorem dX9_get_15 : decode cX9_get 15 = .ok (.lload_n 1, 1) := by decide +kernel
theorem dX9_get_16 : decode cX9_get 16 = .ok (.invokevirtual 63, 3) := by decide +kernel
theorem dX9_get_19 : decode cX9_get 19 = .ok (.invokevirtual 75, 3) := by decide +kernel
theorem dX9_get_22 : decode cX9_get 22 = .ok (.ireturn, 1) := by decide +kernel
theorem dX9_has_0 : decode cX9_has 0 = .ok (.aload_n 0, 1) := by decide +kernel
theorem dX9_has_1 : decode cX9_has 1 = .ok (.getfield 71, 3) := by decide +kernel
theorem dX9_has_4 : decode cX9_has 4 = .ok (.ifCond .eq 6, 3) := by decide +kernel
theorem dX9_has_7 : decode cX9_has 7 = .ok (.bipush (-4), 2) := by decide +kernel
theorem dX9_has_9 : decode cX9_has 9 = .ok (.ireturn, 1) := by decide +kernel
theorem dX9_has_10 : decode cX9_has 10 = .ok (.aload_n 0, 1) := by decide +kernel
theorem dX9_has_11 : decode cX9_has 11 = .ok (.getfield 33, 3) := by decide +kernel
theorem dX9_has_14 : decode cX9_has 14 = .ok (.lload_n 1, 1) := by decide +kernel
theorem dX9_has_15 : decode cX9_has 15 = .ok (.invokevirtual 63, 3) := by decide +kernel
theorem dX9_has_18 : decode cX9_has 18 = .ok (.ifnonnull 7, 3) := by decide +kernel
theorem dX9_has_21 : decode cX9_has 21 = .ok (.iconst 0, 1) := by decide +kernel
theorem dX9_has_22 : decode cX9_has 22 = .ok (.goto 4, 3) := by decide +kernel
theorem dX9_has_25 : decode cX9_has 25 = .ok (.iconst 1, 1) := by decide +kernel
theorem dX9_has_26 : decode cX9_has 26 = .ok (.ireturn, 1) := by decide +kernel
theorem dX9_next_0 : decode cX9_next 0 = .ok (.aload_n 0, 1) := by decide +kernel
theorem dX9_next_1 : decode cX9_next 1 = .ok (.getfield 71, 3) := by decide +kernel
theorem dX9_next_4 : decode cX9_next 4 = .ok (.ifCond .eq 6, 3) := by decide +kernel
theorem dX9_next_7 : decode cX9_next 7 = .ok (.bipush (-4), 2) := by decide +kernel
theorem dX9_next_9 : decode cX9_next 9 = .ok (.ireturn, 1) := by decide +kernel
theorem dX9_next_10 : decode cX9_next 10 = .ok (.aload_n 0, 1) := by decide +kernel
theorem dX9_next_11 : decode cX9_next 11 = .ok (.aload_n 0, 1) := by decide +kernel
theorem dX9_next_12 : decode cX9_next 12 = .ok (.getfield 33, 3) := by decide +kernel
theorem dX9_next_15 : decode cX9_next 15 = .ok (.lload_n 1, 1) := by decide +kernel
theorem dX9_next_16 : decode cX9_next 16 = .ok (.invokevirtual 79, 3) := by decide +kernel
theorem dX9_next_19 : decode cX9_next 19 = .ok (.invokevirtual 83, 3) := by decide +kernel
theorem dX9_next_22 : decode cX9_next 22 = .ok (.ireturn, 1) := by decide +kernel
theorem dX9_prior_0 : decode cX9_prior 0 = .ok (.aload_n 0, 1) := by decide +kernel
theorem dX9_prior_1 : decode cX9_prior 1 = .ok (.getfield 71, 3) := by decide +kernel
theorem dX9_prior_4 : decode cX9_prior 4 = .ok (.ifCond .eq 6, 3) := by decide +kernel
theorem dX9_prior_7 : decode cX9_prior 7 = .ok (.bipush (-4), 2) := by decide +kernel
theorem dX9_prior_9 : decode cX9_prior 9 = .ok (.ireturn, 1) := by decide +kernel
theorem dX9_prior_10 : decode cX9_prior 10 = .ok (.aload_n 0, 1) := by decide +kernel
theorem dX9_prior_11 : decode cX9_prior 11 = .ok (.getfield 33, 3) := by decide +kernel
theorem dX9_prior_14 : decode cX9_prior 14 = .ok (.lload_n 1, 1) := by decide +kernel
theorem dX9_prior_15 : decode cX9_prior 15 = .ok (.invokevirtual 79, 3) := by decide +kernel
theorem dX9_prior_18 : decode cX9_prior 18 = .ok (.istore_n 3, 1) := by decide +kernel
theorem dX9_prior_19 : decode cX9_prior 19 = .ok (.aload_n 0, 1) := by decide +kernel
theorem dX9_prior_20 : decode cX9_prior 20 = .ok (.aload_n 0, 1) := by decide +kernel
theorem dX9_prior_21 : decode cX9_prior 21 = .ok (.getfield 33, 3) := by decide +kernel
theorem dX9_prior_24 : decode cX9_prior 24 = .ok (.iload_n 3, 1) := by decide +kernel
theorem dX9_prior_25 : decode cX9_prior 25 = .ok (.lload_n 1, 1) := by decide +kernel
theorem dX9_prior_26 : decode cX9_prior 26 = .ok (.invokevirtual 87, 3) := by decide +kernel
theorem dX9_prior_29 : decode cX9_prior 29 = .ok (.ifCond .eq 7, 3) := by decide +kernel
theorem dX9_prior_32 : decode cX9_prior 32 = .ok (.iload_n 3, 1) := by decide +kernel
theorem dX9_prior_33 : decode cX9_prior 33 = .ok (.goto 6, 3) := by decide +kernel
theorem dX9_prior_36 : decode cX9_prior 36 = .ok (.iload_n 3, 1) := by decide +kernel
theorem dX9_prior_37 : decode cX9_prior 37 = .ok (.iconst 1, 1) := by decide +kernel
theorem dX9_prior_38 : decode cX9_prior 38 = .ok (.isub, 1) := by decide +kernel
theorem dX9_prior_39 : decode cX9_prior 39 = .ok (.invokevirtual 83, 3) := by decide +kernel
theorem dX9_prior_42 : decode cX9_prior 42 = .ok (.ireturn, 1) := by decide +kernel
theorem dX9_found_0 : decode cX9_found 0 = .ok (.aload_n 0, 1) := by decide +kernel
theorem dX9_found_1 : decode cX9_found 1 = .ok (.getfield 91, 3) := by decide +kernel
theorem dX9_found_4 : decode cX9_found 4 = .ok (.lreturn, 1) := by decide +kernel
theorem dX9_count_0 : decode cX9_count 0 = .ok (.aload_n 0, 1) := by decide +kernel
theorem dX9_count_1 : decode cX9_count 1 = .ok (.getfield 71, 3) := by decide +kernel
theorem dX9_count_4 : decode cX9_count 4 = .ok (.ifCond .eq 8, 3) := by decide +kernel
theorem dX9_count_7 : decode cX9_count 7 = .ok (.bipush (-4), 2) := by decide +kernel
theorem dX9_count_9 : decode cX9_count 9 = .ok (.goto 13, 3) := by decide +kernel
theorem dX9_count_12 : decode cX9_count 12 = .ok (.aload_n 0, 1) := by decide +kernel
theorem dX9_count_13 : decode cX9_count 13 = .ok (.getfield 33, 3) := by decide +kernel
theorem dX9_count_16 : decode cX9_count 16 = .ok (.getfield 95, 3) := by decide +kernel
theorem dX9_count_19 : decode cX9_count 19 = .ok (.invokevirtual 98, 3) := by decide +kernel
theorem dX9_count_22 : decode cX9_count 22 = .ok (.ireturn, 1) := by decide +kernel
theorem dX9_sink_0 : decode cX9_sink 0 = .ok (.aload_n 0, 1) := by decide +kernel
theorem dX9_sink_1 : decode cX9_sink 1 = .ok (.getfield 71, 3) := by decide +kernel
theorem dX9_sink_4 : decode cX9_sink 4 = .ok (.ifCond .eq 8, 3) := by decide +kernel
theorem dX9_sink_7 : decode cX9_sink 7 = .ok (.bipush (-4), 2) := by decide +kernel
theorem dX9_sink_9 : decode cX9_sink 9 = .ok (.goto 10, 3) := by decide +kernel
theorem dX9_sink_12 : decode cX9_sink 12 = .ok (.aload_n 0, 1) := by decide +kernel
theorem dX9_sink_13 : decode cX9_sink 13 = .ok (.getfield 26, 3) := by decide +kernel
theorem dX9_sink_16 : decode cX9_sink 16 = .ok (.invokevirtual 101, 3) := by decide +kernel
theorem dX9_sink_19 : decode cX9_sink 19 = .ok (.ireturn, 1) := by decide +kernel
theorem dX9_settle_0 : decode cX9_settle 0 = .ok (.aload_n 0, 1) := by decide +kernel
theorem dX9_settle_1 : decode cX9_settle 1 = .ok (.getfield 71, 3) := by decide +kernel
theorem dX9_settle_4 : decode cX9_settle 4 = .ok (.ifCond .eq 8, 3) := by decide +kernel
theorem dX9_settle_7 : decode cX9_settle 7 = .ok (.bipush (-4), 2) := by decide +kernel
theorem dX9_settle_9 : decode cX9_settle 9 = .ok (.goto 10, 3) := by decide +kernel
theorem dX9_settle_12 : decode cX9_settle 12 = .ok (.aload_n 0, 1) := by decide +kernel
theorem dX9_settle_13 : decode cX9_settle 13 = .ok (.getfield 26, 3) := by decide +kernel
theorem dX9_settle_16 : decode cX9_settle 16 = .ok (.invokevirtual 104, 3) := by decide +kernel
theorem dX9_settle_19 : decode cX9_settle 19 = .ok (.ireturn, 1) := by decide +kernel
theorem dX9_pages_0 : decode cX9_pages 0 = .ok (.aload_n 0, 1) := by decide +kernel
theorem dX9_pages_1 : decode cX9_pages 1 = .ok (.getfield 71, 3) := by decide +kernel
theorem dX9_pages_4 : decode cX9_pages 4 = .ok (.ifCond .eq 8, 3) := by decide +kernel
theorem dX9_pages_7 : decode cX9_pages 7 = .ok (.bipush (-4), 2) := by decide +kernel
theorem dX9_pages_9 : decode cX9_pages 9 = .ok (.goto 14, 3) := by decide +kernel
theorem dX9_pages_12 : decode cX9_pages 12 = .ok (.aload_n 0, 1) := by decide +kernel
theorem dX9_pages_13 : decode cX9_pages 13 = .ok (.getfield 26, 3) := by decide +kernel
theorem dX9_pages_16 : decode cX9_pages 16 = .ok (.getfield 107, 3) := by decide +kernel
theorem dX9_pages_19 : decode cX9_pages 19 = .ok (.iconst 0, 1) := by decide +kernel
theorem dX9_pages_20 : decode cX9_pages 20 = .ok (.invokestatic 111, 3) := by decide +kernel
theorem dX9_pages_23 : decode cX9_pages 23 = .ok (.ireturn, 1) := by decide +kernel
theorem dX9_height_0 : decode cX9_height 0 = .ok (.aload_n 0, 1) := by decide +kernel
theorem dX9_height_1 : decode cX9_height 1 = .ok (.getfield 71, 3) := by decide +kernel
